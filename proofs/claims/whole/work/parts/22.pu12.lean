/-! rows that tell -/
theorem pu_g1 {α : Type} {d i : Nat} (hd : d < 8) (hi : i < 100) (A : Option α) : (if (((100 : Int32) * nI d) + nI i) < 0 ∨ 800 ≤ (((100 : Int32) * nI d) + nI i).toNatClampNeg then none else A) = A := by
  rw [pu_100 hd (by omega)]
  exact pu_g (by omega) (by decide) A
theorem pu_e1 {d i : Nat} (hd : d < 8) (hi : i < 100) : (((100 : Int32) * nI d) + nI i).toNatClampNeg = 100 * d + i := by
  rw [pu_100 hd (by omega), nI_clamp (by omega)]
theorem pu_least (so : Int32) : ∃ L, f_X7_leastOfSort so = some L ∧ f_X12_leastOf so = some L := by
  unfold f_X7_leastOfSort f_X12_leastOf
  by_cases h0 : so = 0
  · rw [if_pos h0]; exact ⟨_, rfl, rfl⟩
  · by_cases h1 : so = 1
    · rw [if_neg h0, if_pos h1]; exact ⟨_, rfl, rfl⟩
    · rw [if_neg h0, if_neg h1]; exact ⟨_, rfl, rfl⟩
theorem pu_told {d i : Nat} (hd : d < 8) (hi : i < 100) {so : Int32} {el so' em : Nat → Int32} (hso : so = so' d) (hel : el i = em (100 * d + i)) : (f_X7_isSkipped (nI i) so el = some 1 ∧ ∀ v, f_X12_isTold (nI d) (nI i) v so' em = some 1) ∨ (f_X7_isSkipped (nI i) so el = some 0 ∧ ∀ v, f_X12_isTold (nI d) (nI i) v so' em = some (if el i = v then 1 else 0)) := by
  obtain ⟨L, l1, l2⟩ := pu_least so
  unfold f_X7_isSkipped f_X12_isTold
  rw [pu_g hi (by decide), l1, nI_clamp (by omega)]
  simp only [pu_g1 hd hi, pu_g8 hd]
  simp only [pu_e1 hd hi]
  rw [nI_clamp (by omega), ← hso, l2, ← hel]
  simp only [pu_bind]
  by_cases h : el i = L
  · left
    exact ⟨if_pos h, fun _ => if_pos h⟩
  · right
    refine ⟨if_neg h, fun v => (if_neg h).trans ?_⟩
    split <;> rfl
theorem pu_foloop {B n d z : Nat} (hd : d < 8) (hz : z ≤ 100) {th bi da : Int32} {kd fg st wa s : Nat → Int32} (hR : pu_R B n th bi da kd fg st wa s) {el sz' em : Nat → Int32} (hsz : sz' d = nI z) (hel : ∀ i, i < 100 → el i = em (100 * d + i)) : ∀ (j i c c2 : Nat), i + j = z → ∃ a, f_X11_forged_22 (c + j + 1) (nI i) (nI n) st (nI z) el d = some a ∧ f_X12_forged_15 (c2 + j + 1) (nI d) (nI i) s sz' em = some a := by
  intro j
  induction j with
  | zero =>
    intro i c c2 h
    have : i = z := by omega
    subst this
    refine ⟨-4, ?_, ?_⟩
    · show f_X11_forged_22s _ _ _ _ _ _ _ = _
      unfold f_X11_forged_22s
      rw [if_pos (pu_refl_n i)]
    · show f_X12_forged_15s _ _ _ _ _ _ = _
      unfold f_X12_forged_15s
      rw [pu_g8 hd, nI_clamp (by omega), hsz, if_pos (pu_refl_n i)]
  | succ j ih =>
    intro i c c2 h
    have hlt : ¬ nI z ≤ nI i := nI_ge (by omega) (by omega)
    have hC : f_X11_forged_22 (c + (j + 1) + 1) (nI i) (nI n) st (nI z) el d = f_X11_forged_22s (f_X11_forged_22 (c + j + 1)) (nI i) (nI n) st (nI z) el d := rfl
    have hD : f_X12_forged_15 (c2 + (j + 1) + 1) (nI d) (nI i) s sz' em = f_X12_forged_15s (f_X12_forged_15 (c2 + j + 1)) (nI d) (nI i) s sz' em := rfl
    unfold f_X11_forged_22s at hC
    unfold f_X12_forged_15s at hD
    rw [if_neg hlt] at hC
    rw [pu_g8 hd, nI_clamp (by omega), hsz, if_neg hlt] at hD
    rcases pu_knows hR.1 (nI i) hR.2.1 with ⟨t, ht, e, k1, k2⟩ | ⟨k1, k2⟩
    · have hit : i = t := (nI_eq (by omega) (by have := hR.1; omega)).mp e
      subst hit
      have h7 : i < 7 := Nat.lt_of_lt_of_le ht hR.1
      obtain ⟨-, -, a3, -, -⟩ := hR.2.2.2.2.2.2.2 i ht
      rw [k1, pu_bind, if_neg pu_10, pu_g (by omega) (by decide), pu_g h7 (by decide), nI_clamp (by omega), a3, hel i (by omega)] at hC
      rw [k2, pu_bind, if_neg pu_10, pu_g1 hd (by omega), pu_of2 i h7, pu_bind, pu_g (by omega) (by decide), pu_e1 hd (by omega), nI_clamp (by omega)] at hD
      by_cases hq : em (100 * d + i) = s (6 + 5 * i)
      · rw [if_pos hq, nI_1] at hC hD
        obtain ⟨a, i1, i2⟩ := ih (i + 1) c c2 (by omega)
        exact ⟨a, hC.trans i1, hD.trans i2⟩
      · rw [if_neg hq] at hC hD
        exact ⟨_, hC, hD⟩
    · rw [k1, pu_bind, if_pos rfl] at hC
      rw [k2, pu_bind, if_pos rfl] at hD
      exact ⟨_, hC, hD⟩
theorem po_forged0 {x1 : Int32} (h1 : f_X11_isShelf x1 = some 0) (h2 : f_X12_isShelf x1 = some 0) (tn ho sz : Int32) (st el : Nat → Int32) (kS : Nat) (s kp so' sz' em : Nat → Int32) : f_X11_forged x1 tn st ho sz el kS = some (-1) ∧ f_X12_forged x1 s kp so' sz' em = some (-1) := by
  obtain ⟨a1, -, a2, -⟩ := pu_refRow0 h1 h2 ho kS (-1) kp so'
  unfold f_X11_forged f_X12_forged
  rw [a1, a2]
  exact ⟨rfl, rfl⟩
theorem po_forged {B n d : Nat} (hd : d < 8) {th bi da : Int32} {kd fg st wa s : Nat → Int32} (hR : pu_R B n th bi da kd fg st wa s) {ho ki fi so sz : Int32} {el kp kk kf so' sz' em : Nat → Int32} (h : pu_H d ho ki fi so sz el kp kk kf so' sz' em) (h1 : f_X11_isShelf (nI d) = some 1) (h2 : f_X12_isShelf (nI d) = some 1) : ∃ a, f_X11_forged (nI d) (nI n) st ho sz el d = some a ∧ f_X12_forged (nI d) s kp so' sz' em = some a := by
  unfold f_X11_forged f_X12_forged
  rcases pu_refRow hd h h1 h2 with ⟨-, a1, -, a2, -⟩ | ⟨-, a1, -, a2, -⟩ | ⟨-, a1, -, a2, -, -, -, hsz, -, ⟨z, hz, ez⟩, hel⟩
  · rw [a1, a2]; exact ⟨_, rfl, rfl⟩
  · rw [a1, a2]; exact ⟨_, rfl, rfl⟩
  · rw [a1, a2]
    rw [pu_bind, pu_bind, if_pos rfl, if_pos rfl, pu_g8 hd, pu_kd hd, ez]
    obtain ⟨a, i1, i2⟩ := pu_foloop hd hz hR (hsz.symm.trans ez) (fun i hi => (hel i hi).1) z 0 (1999 - z) (1999 - z) (by omega)
    rw [show 1999 - z + z + 1 = 2000 by omega, nI_0] at i1 i2
    exact ⟨a, i1, i2⟩
theorem pu_juloop {n d z : Nat} (hd : d < 8) (hz : z ≤ 100) {se so : Int32} {kd fg : Nat → Int32} {el so' sz' em : Nat → Int32} (hso : so = so' d) (hsz : sz' d = nI z) (hel : ∀ i, i < 100 → el i = em (100 * d + i)) : ∀ (j i c c2 B : Nat) (x : pu_S) (r : Nat → Int32), i + j = z → pu_Q B n se kd fg x r → ∃ a zc zr, f_X11_judge_33 (c + j + 1) (nI i) (nI n) x.1 x.2.1 se x.2.2.1 kd fg x.2.2.2.1 x.2.2.2.2 so (nI z) el d = some (a, zc) ∧ f_X12_judge_26 (c2 + j + 1) (nI d) (nI i) r so' sz' em = some (a, zr) := by
  intro j
  induction j with
  | zero =>
    intro i c c2 B x r h hQ
    have : i = z := by omega
    subst this
    refine ⟨-4, (nI n, x.1, x.2.1, se, x.2.2.1, kd, fg, x.2.2.2.1, x.2.2.2.2), r, ?_, ?_⟩
    · show f_X11_judge_33s _ _ _ _ _ _ _ _ _ _ _ _ _ _ _ = _
      unfold f_X11_judge_33s
      rw [if_pos (pu_refl_n i)]
    · show f_X12_judge_26s _ _ _ _ _ _ _ = _
      unfold f_X12_judge_26s
      rw [pu_g8 hd, nI_clamp (by omega), hsz, if_pos (pu_refl_n i)]
  | succ j ih =>
    intro i c c2 B x r h hQ
    have hlt : ¬ nI z ≤ nI i := nI_ge (by omega) (by omega)
    obtain ⟨e1, r', e2, e3, -⟩ := pu_day1Q hQ
    obtain ⟨cn, hcn, b1, b2⟩ := pu_cnt hQ.1
    obtain ⟨a, zc, zr, i1, i2⟩ := ih (i + 1) c c2 (B + 1) _ r' (by omega) e3
    have hC : f_X11_judge_33 (c + (j + 1) + 1) (nI i) (nI n) x.1 x.2.1 se x.2.2.1 kd fg x.2.2.2.1 x.2.2.2.2 so (nI z) el d = f_X11_judge_33s (f_X11_judge_33 (c + j + 1)) (nI i) (nI n) x.1 x.2.1 se x.2.2.1 kd fg x.2.2.2.1 x.2.2.2.2 so (nI z) el d := rfl
    have hD : f_X12_judge_26 (c2 + (j + 1) + 1) (nI d) (nI i) r so' sz' em = f_X12_judge_26s (f_X12_judge_26 (c2 + j + 1)) (nI d) (nI i) r so' sz' em := rfl
    unfold f_X11_judge_33s f_X11_judge_71 at hC
    unfold f_X12_judge_26s at hD
    rw [if_neg hlt, e1, pu_bind, nI_1] at hC
    rw [pu_g8 hd, nI_clamp (by omega), hsz, if_neg hlt, pu_hereIn hQ.1, pu_bind, b1, pu_bind, e2] at hD
    rcases pu_told hd (show i < 100 by omega) hso (hel i (by omega)) with ⟨t1, t2⟩ | ⟨t1, t2⟩
    · rw [t1, pu_bind, if_neg pu_10] at hC
      rw [t2, pu_bind, if_neg pu_10, pu_bind, nI_1] at hD
      exact ⟨a, zc, zr, hC.trans i1, hD.trans i2⟩
    · rw [t1, pu_bind, if_pos rfl, pu_g (by omega) (by decide), nI_clamp (by omega), b2, pu_bind] at hC
      rw [t2, pu_bind] at hD
      by_cases hq : el i = nI cn
      · rw [if_pos hq] at hC
        rw [if_pos hq, if_neg pu_10, pu_bind, nI_1] at hD
        exact ⟨a, zc, zr, hC.trans i1, hD.trans i2⟩
      · rw [if_neg hq] at hC
        rw [if_neg hq, if_pos rfl] at hD
        exact ⟨_, _, _, hC, hD⟩
theorem po_judge0 {x1 : Int32} (h1 : f_X11_isShelf x1 = some 0) (h2 : f_X12_isShelf x1 = some 0) (tn th bi se da : Int32) (kd fg st wa : Nat → Int32) (tn2 th2 bi2 se2 da2 : Int32) (kd2 fg2 st2 wa2 : Nat → Int32) (ho so sz : Int32) (el : Nat → Int32) (kS : Nat) (s m kp so' sz' em : Nat → Int32) : f_X11_judge x1 tn th bi se da kd fg st wa tn2 th2 bi2 se2 da2 kd2 fg2 st2 wa2 ho so sz el kS = some (-1, tn2, th2, bi2, se2, da2, kd2, fg2, st2, wa2) ∧ f_X12_judge x1 s m kp so' sz' em = some (-1, m) := by
  obtain ⟨a1, -, a2, -⟩ := pu_refRow0 h1 h2 ho kS (-1) kp so'
  unfold f_X11_judge f_X12_judge
  rw [a1, a2]
  exact ⟨rfl, rfl⟩
theorem po_judge {n d : Nat} (hd : d < 8) {th bi se da : Int32} {kd fg st wa s : Nat → Int32} (hQ : pu_Q 999 n se kd fg (th, bi, da, st, wa) s) (tn2 th2 bi2 se2 da2 : Int32) (kd2 fg2 st2 wa2 m : Nat → Int32) {ho ki fi so sz : Int32} {el kp kk kf so' sz' em : Nat → Int32} (h : pu_H d ho ki fi so sz el kp kk kf so' sz' em) (h1 : f_X11_isShelf (nI d) = some 1) (h2 : f_X12_isShelf (nI d) = some 1) : ∃ a zc zr, f_X11_judge (nI d) (nI n) th bi se da kd fg st wa tn2 th2 bi2 se2 da2 kd2 fg2 st2 wa2 ho so sz el d = some (a, zc) ∧ f_X12_judge (nI d) s m kp so' sz' em = some (a, zr) := by
  unfold f_X11_judge f_X12_judge
  rcases pu_refRow hd h h1 h2 with ⟨-, a1, -, a2, -⟩ | ⟨-, a1, -, a2, -⟩ | ⟨-, a1, -, a2, -, -, hso, hsz, -, ⟨z, hz, ez⟩, hel⟩
  · rw [a1, a2]; exact ⟨_, _, _, rfl, rfl⟩
  · rw [a1, a2]; exact ⟨_, _, _, rfl, rfl⟩
  · rw [a1, a2]
    rw [pu_bind, pu_bind, if_pos rfl, if_pos rfl, pu_g8 hd, pu_kd hd, ez, pu_become, pu_bind, pu_copies, pu_bind]
    obtain ⟨a, zc, zr, i1, i2⟩ := pu_juloop (sz' := sz') hd hz hso (hsz.symm.trans ez) (fun i hi => (hel i hi).1) z 0 (1999 - z) (1999 - z) 999 _ _ (by omega) (pu_mind hQ kd2 fg2 st2 wa2 m)
    rw [show 1999 - z + z + 1 = 2000 by omega, nI_0] at i1 i2
    exact ⟨a, zc, zr, i1, i2⟩
/-! the image -/
theorem po_image {n : Nat} {th bi se da : Int32} {kd fg st wa s : Nat → Int32} (hQ : pu_Q 999 n se kd fg (th, bi, da, st, wa) s) (it tn2 th2 bi2 se2 da2 : Int32) (kd2 fg2 st2 wa2 : Nat → Int32) (hi : Int32) (im : Nat → Int32) : f_X11_image it (nI n) th bi se da kd fg st wa tn2 th2 bi2 se2 da2 kd2 fg2 st2 wa2 = some (da, 1, nI n, th, bi, se, da, pu_m kd kd2, pu_m fg fg2, pu_m st st2, pu_m wa wa2) ∧ f_X12_image hi s im = some (da, 1, pu_cp s im) ∧ pu_Q 999 n se (pu_m kd kd2) (pu_m fg fg2) (th, bi, da, pu_m st st2, pu_m wa wa2) (pu_cp s im) := by
  refine ⟨rfl, ?_, pu_mind hQ kd2 fg2 st2 wa2 im⟩
  unfold f_X12_image
  rw [pu_copies, pu_bind, pu_c1, show s 1 = da from hQ.1.2.2.1]
theorem po_restore1 {n : Nat} {th2 bi2 se2 da2 : Int32} {kd2 fg2 st2 wa2 im : Nat → Int32} (hQ : pu_Q 999 n se2 kd2 fg2 (th2, bi2, da2, st2, wa2) im) (tn th bi se da : Int32) (kd fg st wa s : Nat → Int32) : f_X11_restore 1 tn th bi se da kd fg st wa (nI n) th2 bi2 se2 da2 kd2 fg2 st2 wa2 = some (da2, nI n, th2, bi2, se2, da2, pu_m kd2 kd, pu_m fg2 fg, pu_m st2 st, pu_m wa2 wa) ∧ f_X12_restore 1 s im = some (da2, pu_cp im s) ∧ pu_Q 999 n se2 (pu_m kd2 kd) (pu_m fg2 fg) (th2, bi2, da2, pu_m st2 st, pu_m wa2 wa) (pu_cp im s) := by
  refine ⟨rfl, ?_, pu_mind hQ kd fg st wa s⟩
  unfold f_X12_restore
  rw [if_neg pu_10, pu_copies, pu_bind, pu_c1, pu_cp_lt (by omega), show im 1 = da2 from hQ.1.2.2.1]
theorem po_restore0 (tn th bi se da : Int32) (kd fg st wa : Nat → Int32) (tn2 th2 bi2 se2 da2 : Int32) (kd2 fg2 st2 wa2 s im : Nat → Int32) : f_X11_restore 0 tn th bi se da kd fg st wa tn2 th2 bi2 se2 da2 kd2 fg2 st2 wa2 = some (-3, tn, th, bi, se, da, kd, fg, st, wa) ∧ f_X12_restore 0 s im = some (-3, s) := ⟨rfl, rfl⟩
