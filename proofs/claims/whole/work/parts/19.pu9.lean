/-! up to the next rent day -/
theorem pu_rem10 {d : Nat} (hd : d < 2 ^ 31) : nI d - nI d / (10 : Int32) * (10 : Int32) = nI (d % 10) := pk_rem (d := 10) hd (by omega) (by omega)
theorem pu_toRent {d : Nat} (hd : d < 2 ^ 31) {s : Nat → Int32} (hs : s 1 = nI d) : f_X12_toRent s = some (nI (10 - d % 10)) := by
  unfold f_X12_toRent
  rw [pu_c1, hs, pu_rem10 hd]
  exact congrArg some (pk_sub (a := 10) (by omega))
theorem pu_dToRent {d : Nat} (hd : d < 2 ^ 31) : f_X4_daysToRent (nI d) = some (nI (10 - d % 10)) := by
  unfold f_X4_daysToRent
  rw [pu_rem10 hd]
  exact congrArg some (pk_sub (a := 10) (by omega))
theorem pu_quiet {n : Nat} {se : Int32} {kd fg : Nat → Int32} : ∀ (N B d : Nat) (x : pu_S) (r : Nat → Int32), pu_Q B n se kd fg x r → x.2.2.1 = nI d → d + N < 2 ^ 30 → N + d % 10 ≤ 9 → N < 100 → (pu_Cn (nI n) se kd fg N x).1 = x.1 ∧ (pu_Cn (nI n) se kd fg N x).2.1 = x.2.1 := by
  intro N
  induction N with
  | zero => intro B d x r _ _ _ _ _; exact ⟨rfl, rfl⟩
  | succ N ih =>
    intro B d x r hQ hd h30 h9 h100
    obtain ⟨-, r', -, e3, -, e5, e6⟩ := pu_dayQ hQ
    have hne : ¬ ((x.2.2.1 + 1) - (x.2.2.1 + 1) / (10 : Int32) * (10 : Int32)) = 0 := by
      rw [hd, nI_1, pu_rem10 (by omega)]
      exact nI_ne0 (by omega) (by omega)
    obtain ⟨q1, q2⟩ := e6 hne
    obtain ⟨g1, g2⟩ := ih (B + 1) (d + 1) _ r' e3 (by rw [e5, hd, nI_1]) (by omega) (by omega) (by omega)
    exact ⟨g1.trans q1, g2.trans q2⟩
theorem pu_warnloop {n d : Nat} (hd : d < 2 ^ 31) {s : Nat → Int32} (hs : s 1 = nI d) {se : Int32} {kd fg : Nat → Int32} : ∀ (j i c B : Nat) (x : pu_S) (r : Nat → Int32) (w0 : Int32), i + (j + 1) = 10 - d % 10 → pu_Q B n se kd fg x r → ∃ r', f_X12_warnedNext_4 (c + j + 2) w0 (nI i) s r = some ((pu_C (nI n) se kd fg (pu_Cn (nI n) se kd fg j x)).1, r') := by
  intro j
  induction j with
  | zero =>
    intro i c B x r w0 h hQ
    obtain ⟨-, r', e2, -, -, -, -⟩ := pu_dayQ hQ
    refine ⟨r', ?_⟩
    show f_X12_warnedNext_4s (f_X12_warnedNext_4 (c + 1)) w0 (nI i) s r = _
    unfold f_X12_warnedNext_4s
    rw [pu_toRent hd hs, pu_bind, if_neg (nI_ge (by omega) (by omega)), pu_c2, e2, pu_bind]
    show f_X12_warnedNext_4s (f_X12_warnedNext_4 c) _ (nI i + 1) s r' = _
    unfold f_X12_warnedNext_4s
    rw [pu_toRent hd hs, pu_bind, nI_1, if_pos (nI_le (by omega) (by omega))]
    rfl
  | succ j ih =>
    intro i c B x r w0 h hQ
    obtain ⟨-, r1, e2, e3, -, -, -⟩ := pu_dayQ hQ
    obtain ⟨r', g⟩ := ih (i + 1) c (B + 1) _ r1 (pu_C (nI n) se kd fg x).1 (by omega) e3
    refine ⟨r', ?_⟩
    show f_X12_warnedNext_4s (f_X12_warnedNext_4 (c + j + 2)) w0 (nI i) s r = _
    unfold f_X12_warnedNext_4s
    rw [pu_toRent hd hs, pu_bind, if_neg (nI_ge (by omega) (by omega)), pu_c2, e2, pu_bind, nI_1]
    exact g
theorem pu_warned {B n : Nat} (hB : B ≤ 2000) {s : Nat → Int32} {se : Int32} {kd fg r : Nat → Int32} {x : pu_S} (hQ : pu_Q B n se kd fg x r) (hs : s 1 = x.2.2.1) : ∃ (w : Int32) (z : pu_S) (r' : Nat → Int32), f_X4_goOnToRent (nI n) x.1 x.2.1 se x.2.2.1 kd fg x.2.2.2.1 x.2.2.2.2 = some (w, z) ∧ f_X12_warnedNext s r = some (w, r') := by
  obtain ⟨d, hd, ed⟩ := hQ.1.2.2.2.2.2.1
  have hd31 : d < 2 ^ 31 := by omega
  obtain ⟨r', g⟩ := pu_warnloop hd31 (hs.trans ed) (9 - d % 10) 0 (2000 - (9 - d % 10) - 2) B x r 0 (by omega) hQ
  rw [show 2000 - (9 - d % 10) - 2 + (9 - d % 10) + 2 = 2000 by omega, nI_0] at g
  obtain ⟨e1, r1, -, e3, -⟩ := pu_goQ (N := 9 - d % 10) (by omega) hQ
  obtain ⟨q1, -⟩ := pu_dayQ e3
  refine ⟨(pu_C (nI n) se kd fg (pu_Cn (nI n) se kd fg (9 - d % 10) x)).1, (pu_C (nI n) se kd fg (pu_Cn (nI n) se kd fg (9 - d % 10) x)).2, r', ?_, g⟩
  unfold f_X4_goOnToRent
  rw [ed, pu_dToRent hd31, pu_bind, show nI (10 - d % 10) - (1 : Int32) = nI (9 - d % 10) from (pk_sub (b := 1) (by omega)).trans (by rw [show 10 - d % 10 - 1 = 9 - d % 10 by omega]), ← ed, e1, pu_bind, q1]
  rfl
theorem po_rent {n : Nat} {th bi se da : Int32} {kd fg st wa s : Nat → Int32} (hQ : pu_Q 999 n se kd fg (th, bi, da, st, wa) s) (x1 tn2 th2 bi2 se2 da2 : Int32) (kd2 fg2 st2 wa2 m : Nat → Int32) : ∃ a zc zr, f_X11_rent x1 (nI n) th bi se da kd fg st wa tn2 th2 bi2 se2 da2 kd2 fg2 st2 wa2 = some (a, zc) ∧ f_X12_rent x1 s m = some (a, zr) := by
  unfold f_X11_rent f_X12_rent
  rw [pu_within]
  have hM := pu_mind hQ kd2 fg2 st2 wa2 m
  have hda : s 1 = da := hQ.1.2.2.1
  rcases pu_in (l := 0) (h := 1) (by omega) (by omega) x1 (L := 0) (H := 1) rfl rfl with hi | ⟨k, -, hk, rfl, hi⟩
  · rw [hi]
    exact ⟨-1, _, _, rfl, rfl⟩
  · rw [hi, pu_bind, pu_bind, if_neg pu_10, if_neg pu_10]
    rcases (by omega : k = 0 ∨ k = 1) with rfl | rfl
    · rw [if_pos (show nI 0 = (0 : Int32) from rfl), if_pos (show nI 0 = (0 : Int32) from rfl)]
      obtain ⟨d, hd, ed⟩ := hQ.1.2.2.2.2.2.1
      have ed : da = nI d := ed
      have hd31 : d < 2 ^ 31 := by omega
      obtain ⟨-, r1, e2, e3, -⟩ := pu_goQ (N := 9 - d % 10) (by omega) hM
      obtain ⟨q1, q2⟩ := pu_quiet (9 - d % 10) 999 d _ _ hM ed (by omega) (by omega) (by omega)
      obtain ⟨eR, v, hv, hse, er2⟩ := e3
      have eR2 := pu_R_cg (kd' := kd) eR (fun _ _ => rfl) (fun t ht => (pu_cpy7 ht).symm) (fun _ _ => rfl) (fun _ _ => rfl) (fun _ _ => rfl)
      rw [q1, q2] at eR2
      obtain ⟨w, -, w1, w2⟩ := pu_wants hv eR2
      rw [hse, w1, pu_bind]
      refine ⟨nI w, _, r1, rfl, ?_⟩
      unfold f_X12_wantedNext
      rw [pu_toRent hd31 (hda.trans ed), pu_bind, show nI (10 - d % 10) - (1 : Int32) = nI (9 - d % 10) from (pk_sub (b := 1) (by omega)).trans (by rw [show 10 - d % 10 - 1 = 9 - d % 10 by omega]), pu_takes, e2, pu_bind, pu_c2, er2, w2]
      rfl
    · rw [if_neg (show ¬ nI 1 = (0 : Int32) by decide), if_neg (show ¬ nI 1 = (0 : Int32) by decide), pu_become, pu_bind, pu_copies, pu_bind]
      obtain ⟨w, z, r', g1, g2⟩ := pu_warned (s := s) (by omega) hM hda
      dsimp only at g1 ⊢
      rw [g1, g2]
      exact ⟨w, _, r', rfl, rfl⟩
theorem pu_lbloop {n : Nat} {th bi se da : Int32} {kd fg st wa s : Nat → Int32} (hQ : pu_Q 999 n se kd fg (th, bi, da, st, wa) s) : ∀ (j v c c2 : Nat) (tn2 th2 bi2 se2 da2 : Int32) (kd2 fg2 st2 wa2 m : Nat → Int32), v + j = 100 → ∃ a zc zr, f_X11_leastBirds_2 (c + j + 1) (nI v) (nI n) th bi se da kd fg st wa tn2 th2 bi2 se2 da2 kd2 fg2 st2 wa2 = some (a, zc) ∧ f_X12_leastBirds_2 (c2 + j + 1) (nI v) s m = some (a, zr) := by
  intro j
  induction j with
  | zero =>
    intro v c c2 tn2 th2 bi2 se2 da2 kd2 fg2 st2 wa2 m h
    have : v = 100 := by omega
    subst this
    exact ⟨-4, _, _, rfl, rfl⟩
  | succ j ih =>
    intro v c c2 tn2 th2 bi2 se2 da2 kd2 fg2 st2 wa2 m h
    have h99 : ¬ (99 : Int32) < nI v := nI_nlt (a := 99) (b := v) (by omega) (by omega)
    obtain ⟨hR, u, hu, hse, h2⟩ := pu_mind hQ kd2 fg2 st2 wa2 m
    have hM : pu_Q 999 n se (pu_m kd kd2) (pu_m fg fg2) (th, nI v, da, pu_m st st2, pu_m wa wa2) (upd (pu_cp s m) 3 (nI v)) := ⟨pu_R_bi hR (by omega), u, hu, hse, by rw [pu_updn (by omega)]; exact h2⟩
    obtain ⟨w, z, r', g1, g2⟩ := pu_warned (s := s) (by omega) hM hQ.1.2.2.1
    have hC : f_X11_leastBirds_2 (c + (j + 1) + 1) (nI v) (nI n) th bi se da kd fg st wa tn2 th2 bi2 se2 da2 kd2 fg2 st2 wa2 = f_X11_leastBirds_2s (f_X11_leastBirds_2 (c + j + 1)) (nI v) (nI n) th bi se da kd fg st wa tn2 th2 bi2 se2 da2 kd2 fg2 st2 wa2 := rfl
    have hD : f_X12_leastBirds_2 (c2 + (j + 1) + 1) (nI v) s m = f_X12_leastBirds_2s (f_X12_leastBirds_2 (c2 + j + 1)) (nI v) s m := rfl
    unfold f_X11_leastBirds_2s at hC
    unfold f_X12_leastBirds_2s at hD
    rw [if_neg h99, pu_become, pu_bind] at hC
    dsimp only at g1 hC
    rw [g1, pu_bind] at hC
    rw [if_neg h99, pu_copies, pu_bind, pu_c3, g2, pu_bind] at hD
    dsimp only at hC hD
    by_cases hw : w = 0
    · rw [if_pos hw] at hC hD
      exact ⟨_, _, _, hC, hD⟩
    · rw [if_neg hw, nI_1] at hC hD
      obtain ⟨a, zc, zr, i1, i2⟩ := ih (v + 1) c c2 (nI n) z.1 z.2.1 se z.2.2.1 (pu_m kd kd2) (pu_m fg fg2) z.2.2.2.1 z.2.2.2.2 r' (by omega)
      exact ⟨a, zc, zr, hC.trans i1, hD.trans i2⟩
theorem po_leastBirds {n : Nat} {th bi se da : Int32} {kd fg st wa s : Nat → Int32} (hQ : pu_Q 999 n se kd fg (th, bi, da, st, wa) s) (tn2 th2 bi2 se2 da2 : Int32) (kd2 fg2 st2 wa2 m : Nat → Int32) : ∃ a zc zr, f_X11_leastBirds (nI n) th bi se da kd fg st wa tn2 th2 bi2 se2 da2 kd2 fg2 st2 wa2 = some (a, zc) ∧ f_X12_leastBirds s m = some (a, zr) :=
  pu_lbloop hQ 100 0 1899 1899 tn2 th2 bi2 se2 da2 kd2 fg2 st2 wa2 m (by omega)
theorem pu_lsloop {n t : Nat} (ht : t < n) {th bi se da : Int32} {kd fg st wa s : Nat → Int32} (hQ : pu_Q 999 n se kd fg (th, bi, da, st, wa) s) (hh : s (8 + 5 * t) = 1) : ∀ (j v c c2 : Nat) (tn2 th2 bi2 se2 da2 : Int32) (kd2 fg2 st2 wa2 m : Nat → Int32), v + j = 100 → ∃ a zc zr, f_X11_leastStore_29 (c + j + 1) (nI t) (nI v) (nI n) th bi se da kd fg st wa tn2 th2 bi2 se2 da2 kd2 fg2 st2 wa2 = some (a, zc) ∧ f_X12_leastStore_12 (c2 + j + 1) (nI t) (nI v) s m = some (a, zr) := by
  intro j
  induction j with
  | zero =>
    intro v c c2 tn2 th2 bi2 se2 da2 kd2 fg2 st2 wa2 m h
    have : v = 100 := by omega
    subst this
    exact ⟨-4, _, _, rfl, rfl⟩
  | succ j ih =>
    intro v c c2 tn2 th2 bi2 se2 da2 kd2 fg2 st2 wa2 m h
    have ht7 : t < 7 := Nat.lt_of_lt_of_le ht hQ.1.1
    have h99 : ¬ (99 : Int32) < nI v := nI_nlt (a := 99) (b := v) (by omega) (by omega)
    obtain ⟨hR, u, hu, hse, h2⟩ := pu_mind hQ kd2 fg2 st2 wa2 m
    have hM : pu_Q 999 n se (pu_m kd kd2) (pu_m fg fg2) (th, bi, da, upd (pu_m st st2) t (nI v), pu_m wa wa2) (upd (pu_cp s m) (6 + 5 * t) (nI v)) := ⟨pu_R_st hR (by omega), u, hu, hse, by rw [pu_updn (by omega)]; exact h2⟩
    obtain ⟨w, z, r', g1, g2⟩ := pu_warned (s := s) (by omega) hM hQ.1.2.2.1
    have hC : f_X11_leastStore_29 (c + (j + 1) + 1) (nI t) (nI v) (nI n) th bi se da kd fg st wa tn2 th2 bi2 se2 da2 kd2 fg2 st2 wa2 = f_X11_leastStore_29s (f_X11_leastStore_29 (c + j + 1)) (nI t) (nI v) (nI n) th bi se da kd fg st wa tn2 th2 bi2 se2 da2 kd2 fg2 st2 wa2 := rfl
    have hD : f_X12_leastStore_12 (c2 + (j + 1) + 1) (nI t) (nI v) s m = f_X12_leastStore_12s (f_X12_leastStore_12 (c2 + j + 1)) (nI t) (nI v) s m := rfl
    unfold f_X11_leastStore_29s at hC
    unfold f_X12_leastStore_12s at hD
    rw [if_neg h99, pu_become, pu_bind, pu_g ht7 (by decide), nI_clamp (by omega)] at hC
    dsimp only at g1 hC
    rw [g1, pu_bind] at hC
    rw [if_neg h99, pu_isHere ht7, if_pos hh, pu_bind, if_neg pu_10, pu_copies, pu_bind, pu_of2 t ht7, pu_bind, pu_g (by omega) (by decide), nI_clamp (by omega), g2, pu_bind, pu_has] at hD
    dsimp only at hC hD
    rcases pu_hb w (nI t) with hb | hb
    · rw [hb, pu_bind, if_pos rfl] at hC hD
      exact ⟨_, _, _, hC, hD⟩
    · rw [hb, pu_bind, if_neg pu_10, nI_1] at hC hD
      obtain ⟨a, zc, zr, i1, i2⟩ := ih (v + 1) c c2 (nI n) z.1 z.2.1 se z.2.2.1 (pu_m kd kd2) (pu_m fg fg2) z.2.2.2.1 z.2.2.2.2 r' (by omega)
      exact ⟨a, zc, zr, hC.trans i1, hD.trans i2⟩
theorem po_leastStore {n : Nat} {th bi se da : Int32} {kd fg st wa s : Nat → Int32} (hQ : pu_Q 999 n se kd fg (th, bi, da, st, wa) s) (x1 tn2 th2 bi2 se2 da2 : Int32) (kd2 fg2 st2 wa2 m : Nat → Int32) : ∃ a zc zr, f_X11_leastStore x1 (nI n) th bi se da kd fg st wa tn2 th2 bi2 se2 da2 kd2 fg2 st2 wa2 = some (a, zc) ∧ f_X12_leastStore x1 s m = some (a, zr) := by
  have hR : pu_R 999 n th bi da kd fg st wa s := hQ.1
  unfold f_X11_leastStore f_X12_leastStore
  rcases pu_knows hR.1 x1 hR.2.1 with ⟨t, ht, rfl, k1, k2⟩ | ⟨k1, k2⟩
  · have ht7 : t < 7 := Nat.lt_of_lt_of_le ht hR.1
    have hth : th = nI (pu_mk s n) := hR.2.2.2.2.2.2.1
    have hbit := pu_mk_bit s n t ht
    rw [k1, k2, pu_bind, pu_bind, if_neg pu_10, if_neg pu_10]
    by_cases hh : s (8 + 5 * t) = 1
    · have e : f_X4_isThere (nI t) th = some 1 := by rw [hth, pu_isThere _ (pu_mk_lt7 hR.1) t ht7, if_pos (hbit.mpr hh)]
      rw [e, pu_bind, if_neg pu_10]
      exact pu_lsloop ht hQ hh 100 0 1899 1899 tn2 th2 bi2 se2 da2 kd2 fg2 st2 wa2 m (by omega)
    · have e : f_X4_isThere (nI t) th = some 0 := by rw [hth, pu_isThere _ (pu_mk_lt7 hR.1) t ht7, if_neg (fun q => hh (hbit.mp q))]
      refine ⟨-4, (tn2, th2, bi2, se2, da2, kd2, fg2, st2, wa2), m, by rw [e]; rfl, ?_⟩
      show f_X12_leastStore_12s (f_X12_leastStore_12 1999) (nI t) 0 s m = _
      unfold f_X12_leastStore_12s
      rw [if_neg (by decide), pu_isHere ht7, if_neg hh]
      rfl
  · rw [k1, k2]
    exact ⟨-1, _, _, rfl, rfl⟩
