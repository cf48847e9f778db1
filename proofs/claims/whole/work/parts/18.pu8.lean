/-! in mind: days on -/
def pu_m (f g : Nat → Int32) : Nat → Int32 := va_cpy f g (0 : Int32).toNatClampNeg (0 : Int32).toNatClampNeg (7 : Int32).toNatClampNeg
theorem pu_become (tn2 th2 bi2 se2 da2 : Int32) (kd2 fg2 st2 wa2 : Nat → Int32) (tn th bi se da : Int32) (kd fg st wa : Nat → Int32) : f_X4_become tn2 th2 bi2 se2 da2 kd2 fg2 st2 wa2 tn th bi se da kd fg st wa = some (tn, th, bi, se, da, pu_m kd kd2, pu_m fg fg2, pu_m st st2, pu_m wa wa2) := rfl
theorem pu_mind {B n : Nat} {th bi se da : Int32} {kd fg st wa s : Nat → Int32} (hQ : pu_Q B n se kd fg (th, bi, da, st, wa) s) (kd2 fg2 st2 wa2 m : Nat → Int32) : pu_Q B n se (pu_m kd kd2) (pu_m fg fg2) (th, bi, da, pu_m st st2, pu_m wa wa2) (pu_cp s m) := by
  obtain ⟨hR, v, hv, hse, h2⟩ := hQ
  exact ⟨pu_R_cg hR (fun i hi => pu_cp_lt hi) (fun t ht => pu_cpy7 ht) (fun t ht => pu_cpy7 ht) (fun t ht => pu_cpy7 ht) (fun t ht => pu_cpy7 ht), v, hv, hse, by rw [pu_cp_lt (by omega)]; exact h2⟩
theorem pu_takes (x : Int32) (s m : Nat → Int32) : f_X12_takes x s m = f_X12_daysOn x (pu_cp s m) := by
  unfold f_X12_takes
  rw [pu_copies, pu_bind]
  cases f_X12_daysOn x (pu_cp s m) <;> rfl
theorem pu_late (x : Int32) : f_X12_isLate x = some 0 ∧ f_X12_isIn x 0 60 = some 0 ∨ ∃ j, j ≤ 60 ∧ x = nI j ∧ f_X12_isLate x = some 1 ∧ f_X12_isIn x 0 60 = some 1 := by
  unfold f_X12_isLate
  rcases pu_in (l := 0) (h := 60) (by omega) (by omega) x (L := 0) (H := 60) rfl rfl with hi | ⟨j, -, hj, rfl, hi⟩
  · left; rw [hi]; exact ⟨rfl, rfl⟩
  · right; refine ⟨j, hj, rfl, ?_, hi⟩; rw [hi]; rfl
theorem po_tenantThen {B n : Nat} {th bi se da : Int32} {kd fg st wa s : Nat → Int32} (hQ : pu_Q B n se kd fg (th, bi, da, st, wa) s) (x1 x2 x3 tn2 th2 bi2 se2 da2 : Int32) (kd2 fg2 st2 wa2 m : Nat → Int32) : ∃ a zc zr, f_X11_tenantThen x1 x2 x3 (nI n) th bi se da kd fg st wa tn2 th2 bi2 se2 da2 kd2 fg2 st2 wa2 = some (a, zc) ∧ f_X12_tenantThen x1 x2 x3 s m = some (a, zr) := by
  obtain ⟨hR, -⟩ := id hQ
  have hR : pu_R B n th bi da kd fg st wa s := hR
  unfold f_X11_tenantThen f_X12_tenantThen
  rcases pu_knows hR.1 x1 hR.2.1 with ⟨t, ht, rfl, k1, k2⟩ | ⟨k1, k2⟩
  · have ht7 : t < 7 := Nat.lt_of_lt_of_le ht hR.1
    rw [k1, k2, pu_bind, pu_bind, if_neg pu_10, if_neg pu_10, pu_within]
    rcases pu_late x2 with ⟨l1, l2⟩ | ⟨j, hj, rfl, l1, l2⟩
    · rw [l1, l2]
      exact ⟨-1, _, _, rfl, rfl⟩
    · rw [l1, l2, pu_bind, pu_bind, if_neg pu_10, if_neg pu_10, pu_within]
      rcases pu_in (l := 0) (h := 1) (by omega) (by omega) x3 (L := 0) (H := 1) rfl rfl with hi | ⟨k, -, hk, rfl, hi⟩
      · rw [hi]
        exact ⟨-1, _, _, rfl, rfl⟩
      · obtain ⟨g1, r', g2, g3, -⟩ := pu_goQ (N := j) (by omega) (pu_mind hQ kd2 fg2 st2 wa2 m)
        obtain ⟨-, -, a3, a4, -⟩ := g3.1.2.2.2.2.2.2.2 t ht
        rw [hi, pu_bind, pu_bind, if_neg pu_10, if_neg pu_10, pu_become, pu_bind, pu_takes, g2, pu_bind]
        dsimp only at g1 ⊢
        rw [g1, pu_bind]
        rw [pu_g ht7 (by decide), pu_g ht7 (by decide), nI_clamp (by omega), pu_of2 t ht7, pu_of3 t ht7, pu_bind, pu_bind, pu_g (k := 6 + 5 * t) (L := 39) (by omega) (by decide), pu_g (k := 7 + 5 * t) (L := 39) (by omega) (by decide), nI_clamp (n := 6 + 5 * t) (by omega), nI_clamp (n := 7 + 5 * t) (by omega), a3, a4]
        rcases (by omega : k = 0 ∨ k = 1) with rfl | rfl
        · exact ⟨r' (6 + 5 * t), _, r', rfl, rfl⟩
        · exact ⟨r' (7 + 5 * t), _, r', rfl, rfl⟩
  · rw [k1, k2]
    exact ⟨-1, _, _, rfl, rfl⟩
theorem po_then {B n : Nat} {th bi se da : Int32} {kd fg st wa s : Nat → Int32} (hQ : pu_Q B n se kd fg (th, bi, da, st, wa) s) (x1 x2 tn2 th2 bi2 se2 da2 : Int32) (kd2 fg2 st2 wa2 m : Nat → Int32) : ∃ a zc zr, f_X11_then x1 x2 (nI n) th bi se da kd fg st wa tn2 th2 bi2 se2 da2 kd2 fg2 st2 wa2 = some (a, zc) ∧ f_X12_then x1 x2 s m = some (a, zr) := by
  unfold f_X11_then f_X12_then
  rw [pu_within]
  rcases pu_late x1 with ⟨l1, l2⟩ | ⟨j, hj, rfl, l1, l2⟩
  · rw [l1, l2]
    exact ⟨-1, _, _, rfl, rfl⟩
  · rw [l1, l2, pu_bind, pu_bind, if_neg pu_10, if_neg pu_10, pu_within]
    rcases pu_in (l := 0) (h := 1) (by omega) (by omega) x2 (L := 0) (H := 1) rfl rfl with hi | ⟨k, -, hk, rfl, hi⟩
    · rw [hi]
      exact ⟨-1, _, _, rfl, rfl⟩
    · obtain ⟨g1, r', g2, g3, -⟩ := pu_goQ (N := j) (by omega) (pu_mind hQ kd2 fg2 st2 wa2 m)
      rw [hi, pu_bind, pu_bind, if_neg pu_10, if_neg pu_10, pu_become, pu_bind, pu_takes, g2, pu_bind]
      dsimp only at g1 ⊢
      rw [g1, pu_bind, pu_hereIn g3.1, pu_bind, pu_c3, g3.1.2.2.2.1]
      rcases (by omega : k = 0 ∨ k = 1) with rfl | rfl
      · exact ⟨_, _, r', rfl, rfl⟩
      · exact ⟨_, _, r', rfl, rfl⟩
/-! who goes, and when -/
theorem pu_days1 (r : Nat → Int32) : f_X12_daysOn (1 : Int32) r = Option.bind (f_X12_day (r 2) r) (fun z => some z.2) := by
  show f_X12_daysOn_4s (f_X12_daysOn_4 1999) 1 0 r = _
  unfold f_X12_daysOn_4s
  rw [if_neg (by decide), pu_c2]
  cases f_X12_day (r 2) r with
  | none => rfl
  | some z =>
    rw [pu_bind, pu_bind]
    show f_X12_daysOn_4s (f_X12_daysOn_4 1998) 1 ((0 : Int32) + 1) z.2 = _
    unfold f_X12_daysOn_4s
    rw [if_pos (by decide)]
theorem pu_day1Q {B n : Nat} {se : Int32} {kd fg r : Nat → Int32} {x : pu_S} (h : pu_Q B n se kd fg x r) : f_X4_oneDay (nI n) x.1 x.2.1 se x.2.2.1 kd fg x.2.2.2.1 x.2.2.2.2 = some (pu_C (nI n) se kd fg x) ∧ ∃ r', f_X12_daysOn (1 : Int32) r = some r' ∧ pu_Q (B + 1) n se kd fg (pu_C (nI n) se kd fg x).2 r' ∧ ∀ u, r' (8 + 5 * u) = 1 → r (8 + 5 * u) = 1 := by
  obtain ⟨e1, r', e2, e3, e4, -, -⟩ := pu_dayQ h
  exact ⟨e1, r', by rw [pu_days1, e2]; rfl, e3, e4⟩
theorem pu_andbit : ∀ m, m < 128 → ∀ t, t < 7 → ((nI m &&& ((1 : Int32) <<< (nI t &&& 31))) = 0 ↔ m.testBit t = false) := by decide +kernel
/-- the class's search and the reference's, side by side: behind how many days he is gone -/
theorem pu_goesloop {n t : Nat} (ht : t < n) {se : Int32} {kd fg : Nat → Int32} : ∀ (j i c c2 B : Nat) (x : pu_S) (r : Nat → Int32), i + j = 61 → pu_Q B n se kd fg x r →
    ∃ a zc zr, f_X11_daysUntilNoneOf_13 (c + j + 1) ((1 : Int32) <<< (nI t &&& 31)) (nI i) (nI n) x.1 x.2.1 se x.2.2.1 kd fg x.2.2.2.1 x.2.2.2.2 = some (a, zc) ∧ f_X12_goesOf_13 (c2 + j + 1) (nI t) (nI i) r = some (a, zr) := by
  intro j
  induction j with
  | zero =>
    intro i c c2 B x r h hQ
    have : i = 61 := by omega
    subst this
    exact ⟨-4, _, _, rfl, rfl⟩
  | succ j ih =>
    intro i c c2 B x r h hQ
    have h60 : ¬ (60 : Int32) < nI i := nI_nlt (a := 60) (b := i) (by omega) (by omega)
    have hn : n ≤ 7 := hQ.1.1
    have hm : pu_mk r n < 128 := pu_mk_lt7 hn
    have hth : x.1 = nI (pu_mk r n) := hQ.1.2.2.2.2.2.2.1
    have hbit := pu_mk_bit r n t ht
    have hab := pu_andbit _ hm t (by omega)
    obtain ⟨e1, r', e2, e3, -⟩ := pu_day1Q hQ
    obtain ⟨a, zc, zr, g1, g2⟩ := ih (i + 1) c c2 (B + 1) _ r' (by omega) e3
    by_cases hh : r (8 + 5 * t) = 1
    · refine ⟨a, zc, zr, ?_, ?_⟩
      · rw [← g1]
        show f_X11_daysUntilNoneOf_13s (f_X11_daysUntilNoneOf_13 (c + j + 1)) _ _ _ _ _ _ _ _ _ _ _ = _
        unfold f_X11_daysUntilNoneOf_13s
        rw [if_neg h60, hth, if_neg (fun q => by rw [hab] at q; rw [hbit.mpr hh] at q; cases q), ← hth, e1, pu_bind, nI_1]
      · rw [← g2]
        show f_X12_goesOf_13s (f_X12_goesOf_13 (c2 + j + 1)) _ _ _ = _
        unfold f_X12_goesOf_13s
        rw [if_neg h60, pu_isHere (by omega), if_pos hh, pu_bind, if_neg pu_10, e2, pu_bind, nI_1]
    · refine ⟨nI i, (nI n, x.1, x.2.1, se, x.2.2.1, kd, fg, x.2.2.2.1, x.2.2.2.2), r, ?_, ?_⟩
      · show f_X11_daysUntilNoneOf_13s (f_X11_daysUntilNoneOf_13 (c + j + 1)) _ _ _ _ _ _ _ _ _ _ _ = _
        unfold f_X11_daysUntilNoneOf_13s
        rw [if_neg h60, hth, if_pos (hab.mpr (by cases hq : (pu_mk r n).testBit t with
          | false => rfl
          | true => exact absurd (hbit.mp hq) hh))]
      · show f_X12_goesOf_13s (f_X12_goesOf_13 (c2 + j + 1)) _ _ _ = _
        unfold f_X12_goesOf_13s
        rw [if_neg h60, pu_isHere (by omega), if_neg hh, pu_bind, if_pos rfl]
theorem pu_andself : ∀ m, m < 128 → ∀ k, k < 128 → ((nI m &&& nI k) = 0 ↔ m &&& k = 0) := by decide +kernel
