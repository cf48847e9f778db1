/-! the rent day -/
theorem pu_R_bi {B n : Nat} {th bi da : Int32} {kd fg st wa r : Nat → Int32} (h : pu_R B n th bi da kd fg st wa r) {b : Nat} (hb : b ≤ 99) : pu_R B n th (nI b) da kd fg st wa (upd r 3 (nI b)) := by
  obtain ⟨h1, h2, h3, h4, h5, h6, h7, h8⟩ := h
  refine ⟨h1, by rw [pu_updn (by omega)]; exact h2, by rw [pu_updn (by omega)]; exact h3, pu_upd, ⟨b, hb, rfl⟩, h6, ?_, fun u hu => ?_⟩
  · rw [pu_mk_congr (r := r) (fun u _ => by rw [pu_updn (by omega)])]; exact h7
  · have e4 : upd r 3 (nI b) (4 + 5 * u) = r (4 + 5 * u) := pu_updn (by omega)
    have e5 : upd r 3 (nI b) (5 + 5 * u) = r (5 + 5 * u) := pu_updn (by omega)
    have e6 : upd r 3 (nI b) (6 + 5 * u) = r (6 + 5 * u) := pu_updn (by omega)
    have e7 : upd r 3 (nI b) (7 + 5 * u) = r (7 + 5 * u) := pu_updn (by omega)
    have e8 : upd r 3 (nI b) (8 + 5 * u) = r (8 + 5 * u) := pu_updn (by omega)
    unfold pu_T
    rw [e4, e5, e6, e7, e8]
    exact h8 u hu
theorem pu_R_da {B n : Nat} {th bi da : Int32} {kd fg st wa r : Nat → Int32} (h : pu_R B n th bi da kd fg st wa r) : pu_R (B + 1) n th bi (da + 1) kd fg st wa (upd r 1 (da + 1)) := by
  obtain ⟨h1, h2, h3, h4, h5, ⟨d, hd, ed⟩, h7, h8⟩ := h
  refine ⟨h1, by rw [pu_updn (by omega)]; exact h2, pu_upd, by rw [pu_updn (by omega)]; exact h4, h5, ⟨d + 1, by omega, by rw [ed, nI_1]⟩, ?_, fun u hu => ?_⟩
  · rw [pu_mk_congr (r := r) (fun u _ => by rw [pu_updn (by omega)])]; exact h7
  · have e4 : upd r 1 (da + 1) (4 + 5 * u) = r (4 + 5 * u) := pu_updn (by omega)
    have e5 : upd r 1 (da + 1) (5 + 5 * u) = r (5 + 5 * u) := pu_updn (by omega)
    have e6 : upd r 1 (da + 1) (6 + 5 * u) = r (6 + 5 * u) := pu_updn (by omega)
    have e7 : upd r 1 (da + 1) (7 + 5 * u) = r (7 + 5 * u) := pu_updn (by omega)
    have e8 : upd r 1 (da + 1) (8 + 5 * u) = r (8 + 5 * u) := pu_updn (by omega)
    unfold pu_T
    rw [e4, e5, e6, e7, e8]
    exact h8 u hu
theorem pu_judge1 {t : Nat} (ht : t < 7) {th : Int32} {wa : Nat → Int32} : f_X4_judgePayment (nI t) (1 : Int32) th wa = some ((0 : Int32), th, upd wa t 0) := by
  unfold f_X4_judgePayment
  rw [if_neg (by decide), pu_g ht (by decide), nI_clamp (by omega)]
theorem pu_judge0 {t q : Nat} (ht : t < 7) {th : Int32} {wa : Nat → Int32} (hq : wa t = nI q) : f_X4_judgePayment (nI t) (0 : Int32) th wa = (if nI (q + 1) < (2 : Int32) then some (((1 : Int32) <<< (nI t &&& 31)), th, upd wa t (nI (q + 1))) else some (((1 : Int32) <<< (nI t &&& 31)), th &&& (((1 : Int32) <<< (nI t &&& 31)) ^^^ (-1 : Int32)), upd wa t (nI (q + 1)))) := by
  unfold f_X4_judgePayment f_X4_sendAway
  rw [if_pos rfl, pu_g ht (by decide), pu_g ht (by decide), pu_g ht (by decide), nI_clamp (by omega), hq, nI_1, pu_upd]
  rfl
theorem pu_104a {t : Nat} (ht : t < 7) {w se : Int32} {r : Nat → Int32} {k : Int32 → Int32 → Int32 → (Nat → Int32) → Option (Int32 × (Nat → Int32))} : f_X12_rentDay_104 k w se (nI t) (1 : Int32) r = k w (se ||| (0 : Int32)) (nI (t + 1)) (upd r (7 + 5 * t) 0) := by
  unfold f_X12_rentDay_104
  rw [pu_of3 t ht, pu_bind, if_neg (by decide)]
  unfold f_X12_rentDay_130
  rw [pu_g (by omega) (by decide), if_neg (by decide), nI_clamp (by omega)]
  unfold f_X12_rentDay_145
  rw [pu_of3 t ht, pu_bind, pu_g (by omega) (by decide), nI_clamp (by omega), pu_upd, if_pos (by decide), nI_1]
theorem pu_104b {t q : Nat} (ht : t < 7) {w se : Int32} {r : Nat → Int32} (hq : r (7 + 5 * t) = nI q) {k : Int32 → Int32 → Int32 → (Nat → Int32) → Option (Int32 × (Nat → Int32))} : f_X12_rentDay_104 k w se (nI t) (0 : Int32) r = (if nI (q + 1) < (2 : Int32) then k w (se ||| ((1 : Int32) <<< (nI t &&& 31))) (nI (t + 1)) (upd r (7 + 5 * t) (nI (q + 1))) else k w (se ||| ((1 : Int32) <<< (nI t &&& 31))) (nI (t + 1)) (upd (upd r (7 + 5 * t) (nI (q + 1))) (8 + 5 * t) 0)) := by
  unfold f_X12_rentDay_104
  rw [pu_of3 t ht, pu_bind, if_pos rfl, pu_bind, pu_g (by omega) (by decide), nI_clamp (by omega), hq, nI_1]
  unfold f_X12_rentDay_130
  rw [pu_g (by omega) (by decide), if_pos rfl, nI_clamp (by omega)]
  unfold f_X12_rentDay_145
  rw [pu_of3 t ht, pu_bind, pu_g (by omega) (by decide), nI_clamp (by omega), pu_upd, nI_1, pu_of4 t ht, pu_bind, pu_g (by omega) (by decide), nI_clamp (by omega)]
/-- what follows for both, once it is known whether he settled -/
theorem pu_settle {B n t : Nat} (htn : t < n) {th bi da : Int32} {kd fg st wa r : Nat → Int32} (hR : pu_R B n th bi da kd fg st wa r) (hh : r (8 + 5 * t) = 1) (s : Bool) :
    ∃ (a th' : Int32) (wa' r' : Nat → Int32), f_X4_judgePayment (nI t) (if s = true then 1 else 0) th wa = some (a, th', wa') ∧ (∀ (k : Int32 → Int32 → Int32 → (Nat → Int32) → Option (Int32 × (Nat → Int32))) (w se : Int32), f_X12_rentDay_104 k w se (nI t) (if s = true then 1 else 0) r = k w (se ||| a) (nI (t + 1)) r') ∧ pu_R B n th' bi da kd fg st wa' r' ∧ r' 2 = r 2 ∧ ∀ u, r' (8 + 5 * u) = 1 → r (8 + 5 * u) = 1 := by
  obtain ⟨h1, h2, h3, h4, h5, h6, h7, h8⟩ := id hR
  have ht : t < 7 := by omega
  obtain ⟨a1, a2, a3, a4, ⟨-, -, -, ⟨q, hq, eq, hq1⟩, b5⟩⟩ := h8 t htn
  have hq1 := hq1 hh
  cases s with
  | true =>
    refine ⟨0, th, upd wa t 0, upd r (7 + 5 * t) 0, pu_judge1 ht, fun k w se => pu_104a ht, ?_, pu_updn (by omega), fun u hu => ?_⟩
    · have := pu_R_wa hR (t := t) (x := 0) (by omega) (fun _ => by omega)
      rw [nI_0] at this
      exact this
    · rw [pu_updn (by omega)] at hu; exact hu
  | false =>
    rcases (by omega : q = 0 ∨ q = 1) with rfl | rfl
    · refine ⟨(1 : Int32) <<< (nI t &&& 31), th, upd wa t (nI 1), upd r (7 + 5 * t) (nI 1), (pu_judge0 ht (a4.trans eq)).trans (if_pos (by decide)), fun k w se => (pu_104b ht eq).trans (if_pos (by decide)), pu_R_wa hR (by omega) (fun _ => by omega), pu_updn (by omega), fun u hu => ?_⟩
      rw [pu_updn (by omega)] at hu; exact hu
    · refine ⟨(1 : Int32) <<< (nI t &&& 31), th &&& (((1 : Int32) <<< (nI t &&& 31)) ^^^ (-1 : Int32)), upd wa t (nI 2), upd (upd r (7 + 5 * t) (nI 2)) (8 + 5 * t) 0, (pu_judge0 ht (a4.trans eq)).trans (if_neg (by decide)), fun k w se => (pu_104b ht eq).trans (if_neg (by decide)), ?_, by rw [pu_updn (by omega), pu_updn (by omega)], fun u hu => ?_⟩
      · rw [pu_comm (by omega)]
        exact pu_R_wa (pu_R_go hR htn) (by omega) (fun q => by rw [pu_upd] at q; exact absurd q (by decide))
      · by_cases hut : u = t
        · subst hut; rw [pu_upd] at hu; exact absurd hu (by decide)
        · rw [pu_updn (by omega), pu_updn (by omega)] at hu; exact hu
theorem pu_min1 : ∀ w, w ≤ 99 → (if nI w < (0 : Int32) then nI w else (0 : Int32)) = 0 := by decide +kernel
theorem pu_payloop {B n v : Nat} {bi da : Int32} {kd fg : Nat → Int32} : ∀ (j t c c2 w : Nat) (se th : Int32) (st wa r : Nat → Int32), t + j = n → w ≤ 99 → pu_R B n th bi da kd fg st wa r →
    ∃ (w' : Nat) (se' th' : Int32) (st' wa' r' : Nat → Int32), f_X4_payRent_9 (c + j) (nI w) se (nI t) (nI n) th bi (nI v) kd fg st wa = f_X4_payRent_9 c (nI w') se' (nI n) (nI n) th' bi (nI v) kd fg st' wa' ∧ f_X12_rentDay_11 (c2 + j) (nI w) se (nI t) r = f_X12_rentDay_11 c2 (nI w') se' (nI n) r' ∧ pu_R B n th' bi da kd fg st' wa' r' ∧ r' 2 = r 2 ∧ ∀ u, r' (8 + 5 * u) = 1 → r (8 + 5 * u) = 1 := by
  intro j
  induction j with
  | zero =>
    intro t c c2 w se th st wa r h hw hR
    have : t = n := by omega
    subst this
    exact ⟨w, se, th, st, wa, r, rfl, rfl, hR, rfl, fun _ h => h⟩
  | succ j ih =>
    intro t c c2 w se th st wa r h hw hR
    have htn : t < n := by omega
    obtain ⟨h1, h2, h3, h4, ⟨bb, hbb, ebb⟩, h6, h7, h8⟩ := id hR
    have ht : t < 7 := by omega
    obtain ⟨a1, a2, a3, a4, ⟨⟨k, hk, ek⟩, ⟨f, hf, ef⟩, ⟨x, hx, ex⟩, -, b5⟩⟩ := h8 t htn
    obtain ⟨o, ho, eo⟩ := pu_ob hk hf hbb
    have hlt : ¬ nI n ≤ nI t := pu_lt htn h1
    have hbit : (pu_mk r n).testBit t = true ↔ r (8 + 5 * t) = 1 := pu_mk_bit r n t htn
    by_cases hh : r (8 + 5 * t) = 1
    · have hC : f_X4_payRent_9 (c + (j + 1)) (nI w) se (nI t) (nI n) th bi (nI v) kd fg st wa = f_X4_payRent_9s (f_X4_payRent_9 (c + j)) (nI w) se (nI t) (nI n) th bi (nI v) kd fg st wa := rfl
      have hD : f_X12_rentDay_11 (c2 + (j + 1)) (nI w) se (nI t) r = f_X12_rentDay_11s (f_X12_rentDay_11 (c2 + j)) (nI w) se (nI t) r := rfl
      unfold f_X4_payRent_9s at hC
      unfold f_X12_rentDay_11s at hD
      rw [if_neg hlt, h7, pu_isThere _ (pu_mk_lt7 h1) t ht, if_pos (hbit.mpr hh), pu_bind, if_neg (by decide), pu_owedBy ht hk hf (a1.trans ek) (a2.trans ef), a1, a2, ek, ef, ebb, eo, pu_bind, pu_g ht (by decide), nI_clamp (by omega), a3, ex, ← h7, ← ebb] at hC
      rw [pu_c0, h2, if_neg hlt, pu_isHere ht, if_pos hh, pu_bind, if_neg (by decide), pu_owes ht, ek, ef, h4, ebb, eo, pu_bind, pu_of2 t ht, pu_bind, pu_g (by omega) (by decide), nI_clamp (by omega), ex] at hD
      -- the step, once it is said what is left of the store, of the want, and whether he settled
      have key : ∀ (w2 x2 : Nat) (s : Bool), w2 ≤ 99 → x2 ≤ 99 →
          f_X4_payRent_9 (c + (j + 1)) (nI w) se (nI t) (nI n) th bi (nI v) kd fg st wa = f_X4_payRent_90 (f_X4_payRent_9 (c + j)) (nI w2) (nI t) se (nI t) (if s = true then 1 else 0) (nI n) th bi (nI v) kd fg (upd st t (nI x2)) wa →
          f_X12_rentDay_11 (c2 + (j + 1)) (nI w) se (nI t) r = f_X12_rentDay_104 (f_X12_rentDay_11 (c2 + j)) (nI w2) se (nI t) (if s = true then 1 else 0) (upd r (6 + 5 * t) (nI x2)) →
          ∃ (w' : Nat) (se' th' : Int32) (st' wa' r' : Nat → Int32), f_X4_payRent_9 (c + (j + 1)) (nI w) se (nI t) (nI n) th bi (nI v) kd fg st wa = f_X4_payRent_9 c (nI w') se' (nI n) (nI n) th' bi (nI v) kd fg st' wa' ∧ f_X12_rentDay_11 (c2 + (j + 1)) (nI w) se (nI t) r = f_X12_rentDay_11 c2 (nI w') se' (nI n) r' ∧ pu_R B n th' bi da kd fg st' wa' r' ∧ r' 2 = r 2 ∧ ∀ u, r' (8 + 5 * u) = 1 → r (8 + 5 * u) = 1 := by
        intro w2 x2 s hw2 hx2 g1 g2
        have hR2 := pu_R_st (t := t) hR hx2
        have hh2 : upd r (6 + 5 * t) (nI x2) (8 + 5 * t) = 1 := by rw [pu_updn (by omega)]; exact hh
        obtain ⟨a, th2, wa2, r2, i1, i2, i3, i4, i5⟩ := pu_settle htn hR2 hh2 s
        obtain ⟨w', se', th', st', wa', r', e1, e2, e3, e4, e5⟩ := ih (t + 1) c c2 w2 (se ||| a) th2 _ wa2 r2 (by omega) hw2 i3
        refine ⟨w', se', th', st', wa', r', ?_, ?_, e3, ?_, fun u hu => ?_⟩
        · rw [g1, ← e1]
          unfold f_X4_payRent_90
          rw [i1, pu_bind, nI_1]
        · rw [g2, ← e2]
          exact i2 _ _ _
        · rw [e4, i4, pu_updn (by omega)]
        · have := i5 u (e5 u hu)
          rw [pu_updn (by omega)] at this
          exact this
      by_cases c1 : x < o
      · have l1 : nI x < nI o := nI_lt c1 (by omega)
        rw [if_pos l1] at hC hD
        refine key w x false hw hx (hC.trans ?_) (hD.trans ?_)
        · unfold f_X4_payRent_49
          rw [pu_g ht (by decide), pu_g ht (by decide), pu_min1 w hw, if_neg (by rw [← nI_0, nI_eq (by omega) (by omega)]; omega), nI_clamp (by omega), a3, ex]
          rw [show nI w - (0 : Int32) = nI w from Int32.sub_zero _, show nI x - (0 : Int32) = nI x from Int32.sub_zero _]
          rfl
        · unfold f_X12_rentDay_57
          rw [if_pos rfl]
          unfold f_X12_rentDay_74 f_X12_rentDay_75
          rw [if_pos rfl, pu_same ex]
          rfl
      · have l1 : ¬ nI x < nI o := nI_nlt (by omega) (by omega)
        rw [if_neg l1] at hC hD
        have hsub : nI x - nI o = nI (x - o) := pk_sub (by omega)
        by_cases c2' : w < o
        · have l2 : nI w < nI o := nI_lt c2' (by omega)
          refine key 0 (x - o) false (by omega) (by omega) (hC.trans ?_) (hD.trans ?_)
          · unfold f_X4_payRent_49
            rw [pu_g ht (by decide), pu_g ht (by decide), if_pos l2, if_neg (by rw [nI_eq (by omega) (by omega)]; omega), nI_clamp (by omega), a3, ex, hsub, show nI w - nI w = nI 0 from (pk_sub (Nat.le_refl w)).trans (by rw [Nat.sub_self])]
            rfl
          · unfold f_X12_rentDay_57
            rw [if_neg (by decide), if_pos l2]
            unfold f_X12_rentDay_74 f_X12_rentDay_75
            rw [if_neg (by decide), pu_of2 t ht, pu_bind, pu_g (by omega) (by decide), pu_g (by omega) (by decide), nI_clamp (by omega), ex, hsub]
            unfold f_X12_least
            rw [if_pos (nI_le (by omega) (by omega)), pu_bind, show nI w - nI w = nI 0 from (pk_sub (Nat.le_refl w)).trans (by rw [Nat.sub_self])]
            rfl
        · have l2 : ¬ nI w < nI o := nI_nlt (by omega) (by omega)
          refine key (w - o) (x - o) true (by omega) (by omega) (hC.trans ?_) (hD.trans ?_)
          · unfold f_X4_payRent_49
            rw [pu_g ht (by decide), pu_g ht (by decide), if_neg l2, if_pos rfl, nI_clamp (by omega), a3, ex, hsub, pk_sub (show o ≤ w by omega)]
            rfl
          · unfold f_X12_rentDay_57
            rw [if_neg (by decide), if_neg l2]
            unfold f_X12_rentDay_75
            rw [if_neg (by decide), pu_of2 t ht, pu_bind, pu_g (by omega) (by decide), pu_g (by omega) (by decide), nI_clamp (by omega), ex, hsub]
            unfold f_X12_least
            by_cases c3 : w ≤ o
            · have : w = o := by omega
              subst this
              rw [if_pos (nI_le (by omega) (by omega)), pu_bind, pk_sub (Nat.le_refl w)]
              rfl
            · rw [if_neg (nI_ge (by omega) (by omega)), pu_bind, pk_sub (show o ≤ w by omega)]
              rfl
    · obtain ⟨w', se', th', st', wa', r', e1, e2, e3, e4, e5⟩ := ih (t + 1) c c2 w se th st wa r (by omega) hw hR
      refine ⟨w', se', th', st', wa', r', ?_, ?_, e3, e4, e5⟩
      · rw [← e1]
        show f_X4_payRent_9s (f_X4_payRent_9 (c + j)) (nI w) se (nI t) (nI n) th bi (nI v) kd fg st wa = _
        unfold f_X4_payRent_9s
        rw [if_neg hlt, h7, pu_isThere _ (pu_mk_lt7 h1) t ht, if_neg (fun q => hh (hbit.mp q)), pu_bind, if_pos rfl, nI_1]
      · rw [← e2]
        show f_X12_rentDay_11s (f_X12_rentDay_11 (c2 + j)) (nI w) se (nI t) r = _
        unfold f_X12_rentDay_11s
        rw [pu_c0, h2, if_neg hlt, pu_isHere ht, if_neg hh, pu_bind, if_pos rfl, nI_1]
