theorem pu_birds1 : ∀ b, b ≤ 99 → ∀ v, v ≤ 9 → (if (0 : Int32) < (if ((nI b + nI v) - (3 : Int32)) < (99 : Int32) then ((nI b + nI v) - (3 : Int32)) else (99 : Int32)) then (if ((nI b + nI v) - (3 : Int32)) < (99 : Int32) then ((nI b + nI v) - (3 : Int32)) else (99 : Int32)) else (0 : Int32)) = nI (min 99 (b + v - 3)) := by decide +kernel
theorem pu_birds2 : ∀ b, b ≤ 99 → ∀ v, v ≤ 9 → f_X12_lessBy (nI b + nI v) (3 : Int32) = some (nI (b + v - 3)) := by decide +kernel
theorem pu_day {B n v : Nat} (hv : v ≤ 9) {th bi da : Int32} {kd fg st wa r : Nat → Int32} (hR : pu_R B n th bi da kd fg st wa r) : ∃ (w th' bi' : Int32) (st' wa' r' : Nat → Int32), f_X4_oneDay (nI n) th bi (nI v) da kd fg st wa = some (w, th', bi', da + 1, st', wa') ∧ f_X12_day (nI v) r = some (w, r') ∧ pu_R (B + 1) n th' bi' (da + 1) kd fg st' wa' r' ∧ r' 2 = r 2 ∧ (∀ u, r' (8 + 5 * u) = 1 → r (8 + 5 * u) = 1) ∧ (¬ ((da + 1) - (da + 1) / (10 : Int32) * (10 : Int32)) = 0 → th' = th ∧ bi' = bi) := by
  have hR1 := pu_R_da hR
  have hn : n ≤ 7 := hR.1
  obtain ⟨st1, r1, e1, e2, e3, e4, e5⟩ := pu_dayloop hv n 0 (2000 - n) (2000 - n) st (upd r 1 (da + 1)) (by omega) hR1
  rw [show 2000 - n + n = 2000 by omega, nI_0] at e1 e2
  have hr1 : r 1 = da := hR.2.2.1
  have c1 : f_X4_oneDay (nI n) th bi (nI v) da kd fg st wa = f_X4_oneDay_12s (f_X4_oneDay_12 (1999 - n)) (nI n) (nI n) th bi (nI v) (da + 1) kd fg st1 wa := by
    show f_X4_oneDay_12 2000 0 (nI n) th bi (nI v) (da + 1) kd fg st wa = _
    rw [e1, show 2000 - n = (1999 - n) + 1 by omega]
    rfl
  have c2 : f_X12_day (nI v) r = f_X12_day_9s (f_X12_day_9 (1999 - n)) (nI v) (nI n) r1 := by
    show f_X12_day_9 2000 (nI v) 0 (upd r 1 (r 1 + 1)) = _
    rw [hr1, e2, show 2000 - n = (1999 - n) + 1 by omega]
    rfl
  obtain ⟨g1, g2, g3, g4, ⟨b, hb, eb⟩, g6, g7, g8⟩ := id e3
  unfold f_X4_oneDay_12s at c1
  unfold f_X12_day_9s at c2
  rw [if_pos (pu_refl_n n)] at c1
  rw [pu_c0, g2, if_pos (pu_refl_n n), pu_c1, g3] at c2
  have h2 : r1 2 = r 2 := by rw [e4, pu_updn (by omega)]
  by_cases hc : ((da + 1) - (da + 1) / (10 : Int32) * (10 : Int32)) = 0
  · rw [if_pos hc] at c1 c2
    obtain ⟨w, hw, w1, w2⟩ := pu_wants hv e3
    obtain ⟨w', se', th', st', wa', r', p1, p2, p3, p4, p5⟩ := pu_payloop (v := v) n 0 (2000 - n) (2000 - n) w 0 th st1 wa r1 (by omega) hw e3
    rw [show 2000 - n + n = 2000 by omega, nI_0] at p1 p2
    have d1 : f_X4_payRent (nI n) th bi (nI v) kd fg st1 wa = some (se', th', nI (min 99 (b + v - 3)), st', wa') := by
      unfold f_X4_payRent
      rw [w1, pu_bind, p1, show 2000 - n = (1999 - n) + 1 by omega]
      show f_X4_payRent_9s _ _ _ _ _ _ _ _ _ _ _ _ = _
      unfold f_X4_payRent_9s
      rw [if_pos (pu_refl_n n), eb, pu_birds1 b hb v hv]
    have d2 : f_X12_rentDay (nI v) r1 = some (se', r') := by
      unfold f_X12_rentDay
      rw [w2, pu_bind, p2, show 2000 - n = (1999 - n) + 1 by omega]
      show f_X12_rentDay_11s _ _ _ _ _ = _
      unfold f_X12_rentDay_11s
      rw [pu_c0, p3.2.1, if_pos (pu_refl_n n)]
    refine ⟨se', th', nI (min 99 (b + v - 3)), st', wa', upd r' 3 (nI (min 99 (b + v - 3))), ?_, ?_, pu_R_bi p3 (by omega), by rw [pu_updn (by omega), p4, h2], fun u hu => ?_, fun q => absurd hc q⟩
    · rw [c1, d1]; rfl
    · rw [c2, d2, pu_bind, pu_c3]
      dsimp only
      rw [p3.2.2.2.1, eb, pu_birds2 b hb v hv, pu_bind, pu_least99 _ (by omega)]
      rfl
    · rw [pu_updn (by omega)] at hu
      have := p5 u hu
      rw [e5, pu_updn (by omega)] at this
      exact this
  · rw [if_neg hc] at c1 c2
    exact ⟨0, th, bi, st1, wa, r1, c1, c2, e3, h2, fun u hu => by rw [e5, pu_updn (by omega)] at hu; exact hu, fun _ => ⟨rfl, rfl⟩⟩
/-! the isle as it goes on: who is there, birds, day, stores, warnings -/
abbrev pu_S : Type := Int32 × Int32 × Int32 × (Nat → Int32) × (Nat → Int32)
def pu_C (tn se : Int32) (kd fg : Nat → Int32) (x : pu_S) : Int32 × pu_S := match f_X4_oneDay tn x.1 x.2.1 se x.2.2.1 kd fg x.2.2.2.1 x.2.2.2.2 with
  | some z => z
  | none => (0, x)
def pu_Cn (tn se : Int32) (kd fg : Nat → Int32) : Nat → pu_S → pu_S
  | 0, x => x
  | n + 1, x => pu_Cn tn se kd fg n (pu_C tn se kd fg x).2
def pu_Q (B n : Nat) (se : Int32) (kd fg : Nat → Int32) (x : pu_S) (r : Nat → Int32) : Prop := pu_R B n x.1 x.2.1 x.2.2.1 kd fg x.2.2.2.1 x.2.2.2.2 r ∧ ∃ v, v ≤ 9 ∧ se = nI v ∧ r 2 = nI v
theorem pu_dayC {B n v : Nat} (hv : v ≤ 9) {kd fg r : Nat → Int32} {x : pu_S} (h : pu_R B n x.1 x.2.1 x.2.2.1 kd fg x.2.2.2.1 x.2.2.2.2 r) : f_X4_oneDay (nI n) x.1 x.2.1 (nI v) x.2.2.1 kd fg x.2.2.2.1 x.2.2.2.2 = some (pu_C (nI n) (nI v) kd fg x) ∧ ∃ r', f_X12_day (nI v) r = some ((pu_C (nI n) (nI v) kd fg x).1, r') ∧ pu_R (B + 1) n (pu_C (nI n) (nI v) kd fg x).2.1 (pu_C (nI n) (nI v) kd fg x).2.2.1 (pu_C (nI n) (nI v) kd fg x).2.2.2.1 kd fg (pu_C (nI n) (nI v) kd fg x).2.2.2.2.1 (pu_C (nI n) (nI v) kd fg x).2.2.2.2.2 r' ∧ r' 2 = r 2 ∧ (∀ u, r' (8 + 5 * u) = 1 → r (8 + 5 * u) = 1) ∧ (pu_C (nI n) (nI v) kd fg x).2.2.2.1 = x.2.2.1 + 1 ∧ (¬ ((x.2.2.1 + 1) - (x.2.2.1 + 1) / (10 : Int32) * (10 : Int32)) = 0 → (pu_C (nI n) (nI v) kd fg x).2.1 = x.1 ∧ (pu_C (nI n) (nI v) kd fg x).2.2.1 = x.2.1) := by
  obtain ⟨w, th', bi', st', wa', r', e1, e2, e3, e4, e5, e6⟩ := pu_day hv h
  have hC : pu_C (nI n) (nI v) kd fg x = (w, th', bi', x.2.2.1 + 1, st', wa') := by
    unfold pu_C
    rw [e1]
  rw [hC]
  exact ⟨e1, r', e2, e3, e4, e5, rfl, e6⟩
theorem pu_dayQ {B n : Nat} {se : Int32} {kd fg r : Nat → Int32} {x : pu_S} (h : pu_Q B n se kd fg x r) : f_X4_oneDay (nI n) x.1 x.2.1 se x.2.2.1 kd fg x.2.2.2.1 x.2.2.2.2 = some (pu_C (nI n) se kd fg x) ∧ ∃ r', f_X12_day (r 2) r = some ((pu_C (nI n) se kd fg x).1, r') ∧ pu_Q (B + 1) n se kd fg (pu_C (nI n) se kd fg x).2 r' ∧ (∀ u, r' (8 + 5 * u) = 1 → r (8 + 5 * u) = 1) ∧ (pu_C (nI n) se kd fg x).2.2.2.1 = x.2.2.1 + 1 ∧ (¬ ((x.2.2.1 + 1) - (x.2.2.1 + 1) / (10 : Int32) * (10 : Int32)) = 0 → (pu_C (nI n) se kd fg x).2.1 = x.1 ∧ (pu_C (nI n) se kd fg x).2.2.1 = x.2.1) := by
  obtain ⟨hR, v, hv, rfl, h2⟩ := h
  obtain ⟨e1, r', e2, e3, e4, e5, e6, e7⟩ := pu_dayC hv hR
  exact ⟨e1, r', by rw [h2]; exact e2, ⟨e3, v, hv, rfl, by rw [e4]; exact h2⟩, e5, e6, e7⟩
/-- days go by, on both sides -/
theorem pu_goloop {n N : Nat} (hN : N < 2 ^ 31) {se : Int32} {kd fg : Nat → Int32} : ∀ (j i c c2 B : Nat) (x : pu_S) (r : Nat → Int32), i + j = N → pu_Q B n se kd fg x r →
    f_X4_goOn_2 (c + j) (nI N) (nI i) (nI n) x.1 x.2.1 se x.2.2.1 kd fg x.2.2.2.1 x.2.2.2.2 = f_X4_goOn_2 c (nI N) (nI N) (nI n) (pu_Cn (nI n) se kd fg j x).1 (pu_Cn (nI n) se kd fg j x).2.1 se (pu_Cn (nI n) se kd fg j x).2.2.1 kd fg (pu_Cn (nI n) se kd fg j x).2.2.2.1 (pu_Cn (nI n) se kd fg j x).2.2.2.2 ∧ ∃ r', f_X12_daysOn_4 (c2 + j) (nI N) (nI i) r = f_X12_daysOn_4 c2 (nI N) (nI N) r' ∧ pu_Q (B + j) n se kd fg (pu_Cn (nI n) se kd fg j x) r' ∧ ∀ u, r' (8 + 5 * u) = 1 → r (8 + 5 * u) = 1 := by
  intro j
  induction j with
  | zero =>
    intro i c c2 B x r h hQ
    have : i = N := by omega
    subst this
    exact ⟨rfl, r, rfl, hQ, fun _ h => h⟩
  | succ j ih =>
    intro i c c2 B x r h hQ
    obtain ⟨e1, r1, e2, e3, e4, -, -⟩ := pu_dayQ hQ
    obtain ⟨g1, r', g2, g3, g4⟩ := ih (i + 1) c c2 (B + 1) _ r1 (by omega) e3
    have hlt : ¬ nI N ≤ nI i := nI_ge (by omega) hN
    refine ⟨?_, r', ?_, by rw [show B + (j + 1) = B + 1 + j by omega]; exact g3, fun u hu => e4 u (g4 u hu)⟩
    · show f_X4_goOn_2s (f_X4_goOn_2 (c + j)) _ _ _ _ _ _ _ _ _ _ _ = _
      unfold f_X4_goOn_2s
      rw [if_neg hlt, e1, pu_bind, nI_1]
      exact g1
    · show f_X12_daysOn_4s (f_X12_daysOn_4 (c2 + j)) _ _ _ = _
      unfold f_X12_daysOn_4s
      rw [if_neg hlt, pu_c2, e2, pu_bind, nI_1]
      exact g2
theorem pu_goQ {B n N : Nat} (hN : N ≤ 1000) {se : Int32} {kd fg r : Nat → Int32} {x : pu_S} (hQ : pu_Q B n se kd fg x r) :
    f_X4_goOn (nI N) (nI n) x.1 x.2.1 se x.2.2.1 kd fg x.2.2.2.1 x.2.2.2.2 = some (pu_Cn (nI n) se kd fg N x) ∧ ∃ r', f_X12_daysOn (nI N) r = some r' ∧ pu_Q (B + N) n se kd fg (pu_Cn (nI n) se kd fg N x) r' ∧ ∀ u, r' (8 + 5 * u) = 1 → r (8 + 5 * u) = 1 := by
  obtain ⟨g1, r', g2, g3, g4⟩ := pu_goloop (N := N) (by omega) N 0 (2000 - N) (2000 - N) B x r (by omega) hQ
  rw [show 2000 - N + N = 2000 by omega, nI_0] at g1 g2
  refine ⟨?_, r', ?_, g3, g4⟩
  · show f_X4_goOn_2 2000 _ 0 _ _ _ _ _ _ _ _ _ = _
    rw [g1, show 2000 - N = (1999 - N) + 1 by omega]
    show f_X4_goOn_2s _ _ _ _ _ _ _ _ _ _ _ _ = _
    unfold f_X4_goOn_2s
    rw [if_pos (pu_refl_n N)]
  · show f_X12_daysOn_4 2000 _ 0 _ = _
    rw [g2, show 2000 - N = (1999 - N) + 1 by omega]
    show f_X12_daysOn_4s _ _ _ _ = _
    unfold f_X12_daysOn_4s
    rw [if_pos (pu_refl_n N)]
