theorem pu_g2 {α : Type} {k L : Nat} (hk : k < L) (hL : L < 2 ^ 31) (A : Option α) : (if nI k < 0 ∨ L ≤ k then none else A) = A := if_neg (fun q => q.elim (nI_pos (Nat.lt_trans hk hL)) (fun q => absurd q (by omega)))
theorem pu_least99 : ∀ x, x ≤ 123 → f_X12_least (99 : Int32) (nI x) = some (nI (min 99 x)) := by decide +kernel
theorem pu_less1 : ∀ y, y ≤ 99 → f_X12_lessBy (nI y) (1 : Int32) = some (nI (y - 1)) := by decide +kernel
theorem pu_lt {a b : Nat} (h : a < b) (hb : b ≤ 7) : ¬ nI b ≤ nI a := nI_ge h (by omega)
/-- the catch of all, one behind the other, on both sides -/
theorem pu_dayloop {B n v : Nat} (hv : v ≤ 9) {th bi da : Int32} {kd fg wa : Nat → Int32} : ∀ (j t c c2 : Nat) (st r : Nat → Int32), t + j = n → pu_R B n th bi da kd fg st wa r →
    ∃ st' r', f_X4_oneDay_12 (c + j) (nI t) (nI n) th bi (nI v) da kd fg st wa = f_X4_oneDay_12 c (nI n) (nI n) th bi (nI v) da kd fg st' wa ∧ f_X12_day_9 (c2 + j) (nI v) (nI t) r = f_X12_day_9 c2 (nI v) (nI n) r' ∧ pu_R B n th bi da kd fg st' wa r' ∧ r' 2 = r 2 ∧ ∀ u, r' (8 + 5 * u) = r (8 + 5 * u) := by
  intro j
  induction j with
  | zero =>
    intro t c c2 st r h hR
    have : t = n := by omega
    subst this
    exact ⟨st, r, rfl, rfl, hR, rfl, fun _ => rfl⟩
  | succ j ih =>
    intro t c c2 st r h hR
    have htn : t < n := by omega
    obtain ⟨h1, h2, h3, h4, h5, h6, h7, h8⟩ := id hR
    have ht : t < 7 := by omega
    obtain ⟨a1, a2, a3, a4, ⟨⟨k, hk, ek⟩, ⟨f, hf, ef⟩, ⟨x, hx, ex⟩, -, b5⟩⟩ := h8 t htn
    obtain ⟨cc, hcc, ec⟩ := pu_cb hk hf hv da
    have hlt : ¬ nI n ≤ nI t := pu_lt htn h1
    have hbit : (pu_mk r n).testBit t = true ↔ r (8 + 5 * t) = 1 := pu_mk_bit r n t htn
    by_cases hh : r (8 + 5 * t) = 1
    · obtain ⟨st', r', e1, e2, e3, e4, e5⟩ := ih (t + 1) c c2 (upd st t (nI (min 99 (x + cc) - 1))) (upd r (6 + 5 * t) (nI (min 99 (x + cc) - 1))) (by omega) (pu_R_st hR (by omega))
      refine ⟨st', r', ?_, ?_, e3, by rw [e4, pu_updn (by omega)], fun u => by rw [e5 u, pu_updn (by omega)]⟩
      · rw [← e1]
        show f_X4_oneDay_12s (f_X4_oneDay_12 (c + j)) (nI t) (nI n) th bi (nI v) da kd fg st wa = _
        unfold f_X4_oneDay_12s
        rw [if_neg hlt, h7, pu_isThere _ (pu_mk_lt7 h1) t ht, if_pos (hbit.mpr hh), pu_bind, if_neg (by decide), pu_g ht (by decide), pu_catchOf ht hk (a1.trans ek), a1, a2, ek, ef, ec, pu_bind, pu_g ht (by decide), nI_clamp (by omega), a3, ex, nI_add, pu_eat1 _ (by omega), nI_1]
      · rw [← e2]
        show f_X12_day_9s (f_X12_day_9 (c2 + j)) (nI v) (nI t) r = _
        unfold f_X12_day_9s
        rw [pu_c0, h2, if_neg hlt, pu_isHere ht, if_pos hh, pu_bind, if_neg (by decide), pu_of2 t ht, pu_bind, pu_bind, pu_g (by omega) (by decide), pu_c1, h3, pu_catches ht, ek, ef, ec, pu_bind, nI_clamp (by omega), ex, nI_add, pu_least99 _ (by omega), pu_bind, pu_less1 _ (by omega), pu_bind, pu_g2 (by omega) (by decide), nI_1]
    · obtain ⟨st', r', e1, e2, e3, e4, e5⟩ := ih (t + 1) c c2 st r (by omega) hR
      refine ⟨st', r', ?_, ?_, e3, e4, e5⟩
      · rw [← e1]
        show f_X4_oneDay_12s (f_X4_oneDay_12 (c + j)) (nI t) (nI n) th bi (nI v) da kd fg st wa = _
        unfold f_X4_oneDay_12s
        rw [if_neg hlt, h7, pu_isThere _ (pu_mk_lt7 h1) t ht, if_neg (fun q => hh (hbit.mp q)), pu_bind, if_pos rfl, nI_1]
      · rw [← e2]
        show f_X12_day_9s (f_X12_day_9 (c2 + j)) (nI v) (nI t) r = _
        unfold f_X12_day_9s
        rw [pu_c0, h2, if_neg hlt, pu_isHere ht, if_neg hh, pu_bind, if_pos rfl, nI_1]
/-! what the birds want -/
theorem pu_left : ∀ a, a ≤ 9 → ∀ b, b ≤ 14 → ∃ e, e < 10 ∧ (if (0 : Int32) < nI a - nI b then nI a - nI b else (0 : Int32)) = nI e ∧ (if 0 ≤ nI a - nI b then nI a - nI b else (0 : Int32)) = nI e := by decide +kernel
theorem pu_want1 : ∀ b, b ≤ 99 → ∀ e, e ≤ 9 → (if (0 : Int32) < (nI b - ((5 : Int32) * nI e)) then (nI b - ((5 : Int32) * nI e)) else (0 : Int32)) = nI (b - 5 * e) := by decide +kernel
theorem pu_want2 : ∀ b, b ≤ 99 → ∀ e, e ≤ 9 → f_X12_lessBy (nI b) ((5 : Int32) * nI e) = some (nI (b - 5 * e)) := by decide +kernel
theorem pu_sub0 : ∀ a, a ≤ 9 → ∀ b, b ≤ 14 → (nI a - nI b) - (0 : Int32) = nI a - nI b := by decide +kernel
theorem pu_sub1 : ∀ a, a ≤ 9 → ∀ b, b ≤ 14 → (nI a - nI b) - (1 : Int32) = nI a - nI (b + 1) := by decide +kernel
theorem pu_sub2 : ∀ a, a ≤ 9 → ∀ b, b ≤ 14 → (nI a - nI b) - (2 : Int32) = nI a - nI (b + 2) := by decide +kernel
theorem pu_wantloop {B n v : Nat} (hv : v ≤ 9) {th bi da : Int32} {kd fg st wa r : Nat → Int32} (hR : pu_R B n th bi da kd fg st wa r) : ∀ (j t c c2 b : Nat), t + j = n → b ≤ 2 * t →
    ∃ b', b' ≤ 14 ∧ f_X4_wants_7 (c + j) (nI v - nI b) (nI t) (nI n) th bi kd = f_X4_wants_7 c (nI v - nI b') (nI n) (nI n) th bi kd ∧ f_X12_wanted_4 (c2 + j) (nI v - nI b) (nI t) r = f_X12_wanted_4 c2 (nI v - nI b') (nI n) r := by
  obtain ⟨h1, h2, h3, h4, h5, h6, h7, h8⟩ := id hR
  intro j
  induction j with
  | zero =>
    intro t c c2 b h hb
    have : t = n := by omega
    subst this
    exact ⟨b, by omega, rfl, rfl⟩
  | succ j ih =>
    intro t c c2 b h hb
    have htn : t < n := by omega
    have ht : t < 7 := by omega
    obtain ⟨a1, a2, a3, a4, ⟨⟨k, hk, ek⟩, -, -, -, b5⟩⟩ := h8 t htn
    have hlt : ¬ nI n ≤ nI t := pu_lt htn h1
    have hbit : (pu_mk r n).testBit t = true ↔ r (8 + 5 * t) = 1 := pu_mk_bit r n t htn
    by_cases hh : r (8 + 5 * t) = 1
    · have key : ∀ q : Nat, q ≤ 2 → (nI v - nI b) - nI q = nI v - nI (b + q) → f_X4_wants_7 (c + (j + 1)) (nI v - nI b) (nI t) (nI n) th bi kd = f_X4_wants_38 (f_X4_wants_7 (c + j)) (nI t) (nI v - nI b) (nI q) (nI n) th bi kd → f_X12_wanted_4 (c2 + (j + 1)) (nI v - nI b) (nI t) r = f_X12_wanted_55 (f_X12_wanted_4 (c2 + j)) (nI t) (nI v - nI b) (nI q) r →
          ∃ b', b' ≤ 14 ∧ f_X4_wants_7 (c + (j + 1)) (nI v - nI b) (nI t) (nI n) th bi kd = f_X4_wants_7 c (nI v - nI b') (nI n) (nI n) th bi kd ∧ f_X12_wanted_4 (c2 + (j + 1)) (nI v - nI b) (nI t) r = f_X12_wanted_4 c2 (nI v - nI b') (nI n) r := by
        intro q hq eq g1 g2
        obtain ⟨b', hb', e1, e2⟩ := ih (t + 1) c c2 (b + q) (by omega) (by omega)
        refine ⟨b', hb', ?_, ?_⟩
        · rw [g1, ← e1]; unfold f_X4_wants_38; rw [eq, nI_1]
        · rw [g2, ← e2]; unfold f_X12_wanted_55; rw [eq, nI_1]
      have hC : f_X4_wants_7 (c + (j + 1)) (nI v - nI b) (nI t) (nI n) th bi kd = f_X4_wants_7s (f_X4_wants_7 (c + j)) (nI v - nI b) (nI t) (nI n) th bi kd := rfl
      have hD : f_X12_wanted_4 (c2 + (j + 1)) (nI v - nI b) (nI t) r = f_X12_wanted_4s (f_X12_wanted_4 (c2 + j)) (nI v - nI b) (nI t) r := rfl
      unfold f_X4_wants_7s at hC
      unfold f_X12_wanted_4s at hD
      rw [if_neg hlt, h7, pu_isThere _ (pu_mk_lt7 h1) t ht, if_pos (hbit.mpr hh), pu_bind, if_neg (by decide), pu_g ht (by decide), nI_clamp (by omega), a1, ek, pu_g hk (by decide), ← h7] at hC
      rw [pu_c0, h2, if_neg hlt, pu_isHere ht, if_pos hh, pu_bind, if_neg (by decide), pu_of0 t ht, pu_bind, pu_g (by omega) (by decide), nI_clamp (by omega), ek, pu_bind, pu_g (by omega) (by decide), nI_clamp (by omega), ek] at hD
      rcases (by omega : k = 0 ∨ k = 1 ∨ k = 2 ∨ k = 3 ∨ k = 4 ∨ k = 5 ∨ k = 6 ∨ k = 7) with rfl | rfl | rfl | rfl | rfl | rfl | rfl | rfl
      · exact key 0 (by omega) (pu_sub0 v hv b (by omega)) hC hD
      · exact key 1 (by omega) (pu_sub1 v hv b (by omega)) hC hD
      · exact key 0 (by omega) (pu_sub0 v hv b (by omega)) hC hD
      · exact key 0 (by omega) (pu_sub0 v hv b (by omega)) hC hD
      · exact key 0 (by omega) (pu_sub0 v hv b (by omega)) hC hD
      · exact key 2 (by omega) (pu_sub2 v hv b (by omega)) hC hD
      · exact key 0 (by omega) (pu_sub0 v hv b (by omega)) hC hD
      · exact key 0 (by omega) (pu_sub0 v hv b (by omega)) hC hD
    · obtain ⟨b', hb', e1, e2⟩ := ih (t + 1) c c2 b (by omega) (by omega)
      refine ⟨b', hb', ?_, ?_⟩
      · rw [← e1]
        show f_X4_wants_7s (f_X4_wants_7 (c + j)) (nI v - nI b) (nI t) (nI n) th bi kd = _
        unfold f_X4_wants_7s
        rw [if_neg hlt, h7, pu_isThere _ (pu_mk_lt7 h1) t ht, if_neg (fun q => hh (hbit.mp q)), pu_bind, if_pos rfl, nI_1]
      · rw [← e2]
        show f_X12_wanted_4s (f_X12_wanted_4 (c2 + j)) (nI v - nI b) (nI t) r = _
        unfold f_X12_wanted_4s
        rw [pu_c0, h2, if_neg hlt, pu_isHere ht, if_neg hh, pu_bind, if_pos rfl]
        unfold f_X12_wanted_55
        rw [pu_sub0 v hv b (by omega), nI_1]
theorem pu_refl_n (n : Nat) : nI n ≤ nI n := Int32.le_refl _
theorem pu_wants {B n v : Nat} (hv : v ≤ 9) {th bi da : Int32} {kd fg st wa r : Nat → Int32} (hR : pu_R B n th bi da kd fg st wa r) : ∃ w, w ≤ 99 ∧ f_X4_wants (nI n) th bi (nI v) kd = some (nI w) ∧ f_X12_wanted (nI v) r = some (nI w) := by
  obtain ⟨h1, h2, h3, h4, ⟨bb, hbb, eb⟩, h6, h7, h8⟩ := id hR
  obtain ⟨b', hb', e1, e2⟩ := pu_wantloop hv hR n 0 (2000 - n) (2000 - n) 0 (by omega) (by omega)
  rw [show 2000 - n + n = 2000 by omega] at e1 e2
  have z : nI v - nI 0 = nI v := by rw [nI_0]; exact Int32.sub_zero _
  rw [z, nI_0] at e1 e2
  obtain ⟨e, he, g1, g2⟩ := pu_left v hv b' hb'
  refine ⟨bb - 5 * e, by omega, ?_, ?_⟩
  · show f_X4_wants_7 2000 (nI v) 0 (nI n) th bi kd = _
    rw [e1, show 2000 - n = (1999 - n) + 1 by omega]
    show f_X4_wants_7s _ _ _ _ _ _ _ = _
    unfold f_X4_wants_7s
    rw [if_pos (pu_refl_n n), g1, eb, pu_want1 bb hbb e (by omega)]
  · show f_X12_wanted_4 2000 (nI v) 0 r = _
    rw [e2, show 2000 - n = (1999 - n) + 1 by omega]
    show f_X12_wanted_4s _ _ _ _ = _
    unfold f_X12_wanted_4s
    rw [pu_c0, pu_c3, h2, if_pos (pu_refl_n n), h4, eb]
    by_cases hc : 0 ≤ nI v - nI b'
    · rw [if_pos hc] at g2 ⊢
      rw [g2, pu_want2 bb hbb e (by omega)]
      rfl
    · rw [if_neg hc] at g2 ⊢
      rw [g2, pu_want2 bb hbb e (by omega)]
      rfl
