/-! lend, best sea, years, empty -/
theorem pu_lendloop {n a b : Nat} (ha : a < n) (hb : b < n) (hab : a ≠ b) {th bi se da : Int32} {kd fg st wa s : Nat → Int32} (hQ : pu_Q 999 n se kd fg (th, bi, da, st, wa) s) : ∀ (j y c c2 : Nat) (tn2 th2 bi2 se2 da2 : Int32) (kd2 fg2 st2 wa2 m : Nat → Int32), 1 ≤ y → y + j = 100 → ∃ e zc zr, f_X11_lend_65 (c + j + 1) (nI a) (nI b) (nI y) (nI n) th bi se da kd fg st wa tn2 th2 bi2 se2 da2 kd2 fg2 st2 wa2 = some (e, zc) ∧ f_X12_lend_38 (c2 + j + 1) (nI a) (nI b) (nI y) s m = some (e, zr) := by
  intro j
  induction j with
  | zero =>
    intro y c c2 tn2 th2 bi2 se2 da2 kd2 fg2 st2 wa2 m hy h
    have : y = 100 := by omega
    subst this
    exact ⟨-4, _, _, rfl, rfl⟩
  | succ j ih =>
    intro y c c2 tn2 th2 bi2 se2 da2 kd2 fg2 st2 wa2 m hy h
    have hn : n ≤ 7 := hQ.1.1
    have h99 : ¬ (99 : Int32) < nI y := nI_nlt (a := 99) (b := y) (by omega) (by omega)
    obtain ⟨hR, u0, hu0, hse, h2⟩ := pu_mind hQ kd2 fg2 st2 wa2 m
    have hR1 : pu_R 999 n th bi da kd fg st wa (pu_cp s m) := pu_R_cg hQ.1 (fun i hi => pu_cp_lt hi) (fun _ _ => rfl) (fun _ _ => rfl) (fun _ _ => rfl) (fun _ _ => rfl)
    have hC : f_X11_lend_65 (c + (j + 1) + 1) (nI a) (nI b) (nI y) (nI n) th bi se da kd fg st wa tn2 th2 bi2 se2 da2 kd2 fg2 st2 wa2 = f_X11_lend_65s (f_X11_lend_65 (c + j + 1)) (nI a) (nI b) (nI y) (nI n) th bi se da kd fg st wa tn2 th2 bi2 se2 da2 kd2 fg2 st2 wa2 := rfl
    have hD : f_X12_lend_38 (c2 + (j + 1) + 1) (nI a) (nI b) (nI y) s m = f_X12_lend_38s (f_X12_lend_38 (c2 + j + 1)) (nI a) (nI b) (nI y) s m := rfl
    unfold f_X11_lend_65s at hC
    unfold f_X12_lend_38s at hD
    rw [if_neg h99] at hC
    rw [if_neg h99, pu_copies, pu_bind] at hD
    rcases pu_can ha hb hy (by omega) hR1 with ⟨c1, c3⟩ | ⟨c1, c3, u, w, hu, eu, ew, hyu, hwy⟩
    · rw [c1, pu_bind, if_pos rfl] at hC
      rw [c3, pu_bind, if_pos rfl] at hD
      exact ⟨_, _, _, hC, hD⟩
    · obtain ⟨e1, e2, e3⟩ := pu_hand ha hb hab hR hu eu ew hyu hwy
      have hM : pu_Q 999 n se (pu_m kd kd2) (pu_m fg fg2) (th, bi, da, upd (upd (pu_m st st2) a (nI (u - y))) b (nI (w + y)), pu_m wa wa2) (upd (upd (pu_cp s m) (6 + 5 * a) (nI (u - y))) (6 + 5 * b) (nI (w + y))) := ⟨e3, u0, hu0, hse, by rw [pu_updn (by omega), pu_updn (by omega)]; exact h2⟩
      obtain ⟨w', z, r', g1, g2⟩ := pu_warned (s := s) (by omega) hM hQ.1.2.2.1
      rw [c1, pu_bind, if_neg pu_10, pu_become, pu_bind] at hC
      dsimp only at e1 g1 hC
      rw [e1, pu_bind, g1, pu_bind] at hC
      rw [c3, pu_bind, if_neg pu_10, e2, pu_bind, g2, pu_bind, pu_has] at hD
      dsimp only at hC hD
      rcases pu_hb w' (nI b) with hbb | hbb
      · rw [hbb, pu_bind, if_pos rfl] at hC hD
        exact ⟨_, _, _, hC, hD⟩
      · rw [hbb, pu_bind, if_neg pu_10, nI_1] at hC hD
        obtain ⟨e, zc, zr, i1, i2⟩ := ih (y + 1) c c2 (nI n) z.1 z.2.1 se z.2.2.1 (pu_m kd kd2) (pu_m fg fg2) z.2.2.2.1 z.2.2.2.2 r' (by omega) (by omega)
        exact ⟨e, zc, zr, hC.trans i1, hD.trans i2⟩
theorem po_lend {n : Nat} {th bi se da : Int32} {kd fg st wa s : Nat → Int32} (hQ : pu_Q 999 n se kd fg (th, bi, da, st, wa) s) (x1 x2 tn2 th2 bi2 se2 da2 : Int32) (kd2 fg2 st2 wa2 m : Nat → Int32) : ∃ e zc zr, f_X11_lend x1 x2 (nI n) th bi se da kd fg st wa tn2 th2 bi2 se2 da2 kd2 fg2 st2 wa2 = some (e, zc) ∧ f_X12_lend x1 x2 s m = some (e, zr) := by
  have hR : pu_R 999 n th bi da kd fg st wa s := hQ.1
  have hn : n ≤ 7 := hR.1
  have hth : th = nI (pu_mk s n) := hR.2.2.2.2.2.2.1
  unfold f_X11_lend f_X12_lend
  rcases pu_two hn x1 x2 hR.2.1 with ⟨a, b, ha, hb, hab, rfl, rfl, k1, k2⟩ | ⟨k1, k2⟩
  · have hba := pu_mk_bit s n a ha
    have hbb := pu_mk_bit s n b hb
    rw [k1, k2, pu_bind, pu_bind, if_neg pu_10, if_neg pu_10, pu_isHere (by omega), pu_isHere (by omega), hth, pu_isThere _ (pu_mk_lt7 hn) a (by omega), pu_isThere _ (pu_mk_lt7 hn) b (by omega)]
    by_cases ca : s (8 + 5 * a) = 1
    · rw [if_pos (hba.mpr ca), if_pos ca]
      simp only [pu_bind, if_neg pu_10]
      by_cases cb : s (8 + 5 * b) = 1
      · rw [if_pos (hbb.mpr cb), if_pos cb]
        simp only [if_neg pu_10]
        rw [← hth]
        obtain ⟨hRm, v, hv, hse, h2⟩ := pu_mind hQ kd2 fg2 st2 wa2 m
        obtain ⟨w, z, r', g1, g2⟩ := pu_warned (s := s) (by omega) (pu_mind hQ kd2 fg2 st2 wa2 m) hQ.1.2.2.1
        obtain ⟨-, -, -, -, ⟨-, -, ⟨u, hu, eu⟩, -, -⟩⟩ := hRm.2.2.2.2.2.2.2 a ha
        obtain ⟨-, -, -, -, ⟨-, -, ⟨q, hq, eq⟩, -, -⟩⟩ := hRm.2.2.2.2.2.2.2 b hb
        -- the reference's first turn lends nothing
        have hD : f_X12_lend_38 2000 (nI a) (nI b) 0 s m = Option.bind (f_X11_hasBit w (nI b)) (fun r11 => if r11 = 0 then some ((0 : Int32), r') else f_X12_lend_38 1999 (nI a) (nI b) 1 s r') := by
          show f_X12_lend_38s (f_X12_lend_38 1999) (nI a) (nI b) 0 s m = _
          unfold f_X12_lend_38s
          have hc : f_X12_canLend (nI a) (nI b) 0 (pu_cp s m) = some 1 := by
            unfold f_X12_canLend
            rw [pu_isHere (by omega), pu_isHere (by omega), pu_cp_lt (by omega), pu_cp_lt (by omega), if_pos ca, if_pos cb]
            simp only [pu_bind, if_neg pu_10]
            rw [pu_of2 a (by omega), pu_bind, pu_g (by omega) (by decide), nI_clamp (by omega), eu, if_neg (show ¬ nI u < (0 : Int32) from nI_pos (by omega)), pu_of2 b (by omega), pu_bind, pu_g (by omega) (by decide), nI_clamp (by omega), eq, Int32.add_zero, if_neg (show ¬ (99 : Int32) < nI q from nI_nlt (a := 99) (b := q) (by omega) (by omega))]
          have hl : f_X12_lendsIn (nI a) (nI b) 0 (pu_cp s m) = some (pu_cp s m) := by
            unfold f_X12_lendsIn
            rw [pu_of2 a (by omega), pu_bind, pu_g (by omega) (by decide), pu_g (by omega) (by decide), pu_of2 b (by omega), pu_bind, pu_g (by omega) (by decide), pu_g (by omega) (by decide), Int32.sub_zero, Int32.add_zero, pu_same rfl, pu_same rfl]
          rw [if_neg (by decide), pu_copies, pu_bind, hc, pu_bind, if_neg pu_10, hl, pu_bind, g2, pu_bind, pu_has]
          rfl
        rw [hD, pu_become, pu_bind]
        dsimp only at g1 ⊢
        rw [g1, pu_bind]
        dsimp only
        rcases pu_hb w (nI b) with hb0 | hb0
        · rw [hb0]
          exact ⟨0, _, r', rfl, rfl⟩
        · rw [hb0]
          simp only [pu_bind, if_neg pu_10]
          exact pu_lendloop ha hb hab hQ 99 1 1900 1899 (nI n) z.1 z.2.1 se z.2.2.1 (pu_m kd kd2) (pu_m fg fg2) z.2.2.2.1 z.2.2.2.2 r' (by omega) (by omega)
      · rw [if_neg (fun q => cb (hbb.mp q)), if_neg cb]
        exact ⟨-3, _, _, rfl, rfl⟩
    · rw [if_neg (fun q => ca (hba.mp q)), if_neg ca]
      exact ⟨-3, _, _, rfl, rfl⟩
  · rw [k1, k2]
    exact ⟨-1, _, _, rfl, rfl⟩
theorem pu_cnt {B n : Nat} {th bi da : Int32} {kd fg st wa r : Nat → Int32} (hR : pu_R B n th bi da kd fg st wa r) : ∃ c, c < 8 ∧ f_X12_bits th = some (nI c) ∧ f_X4_howManyThere th = some (nI c) := by
  have hth : th = nI (pu_mk r n) := hR.2.2.2.2.2.2.1
  rw [hth]
  exact pu_bits _ (pu_mk_lt7 hR.1)
theorem pu_bsloop {n N k : Nat} (hN : N ≤ 60) {th bi se da : Int32} {kd fg st wa s : Nat → Int32} (hQ : pu_Q 999 n se kd fg (th, bi, da, st, wa) s) : ∀ (j v c c2 : Nat) (f b : Int32) (tn2 th2 bi2 se2 da2 : Int32) (kd2 fg2 st2 wa2 m : Nat → Int32), v + j = 10 → ∃ e zc zr, f_X11_bestSea_29 (c + j + 1) (nI N) (nI k) f b (nI v) (nI n) th bi se da kd fg st wa tn2 th2 bi2 se2 da2 kd2 fg2 st2 wa2 = some (e, zc) ∧ f_X12_bestSea_26 (c2 + j + 1) (nI N) (nI k) f b (nI v) s m = some (e, zr) := by
  intro j
  induction j with
  | zero =>
    intro v c c2 f b tn2 th2 bi2 se2 da2 kd2 fg2 st2 wa2 m h
    have : v = 10 := by omega
    subst this
    have hC : f_X11_bestSea_29 (c + 0 + 1) (nI N) (nI k) f b (nI 10) (nI n) th bi se da kd fg st wa tn2 th2 bi2 se2 da2 kd2 fg2 st2 wa2 = (if nI k = 0 then some (f, tn2, th2, bi2, se2, da2, kd2, fg2, st2, wa2) else some (b, tn2, th2, bi2, se2, da2, kd2, fg2, st2, wa2)) := rfl
    have hD : f_X12_bestSea_26 (c2 + 0 + 1) (nI N) (nI k) f b (nI 10) s m = (if nI k = 0 then some (f, m) else some (b, m)) := rfl
    by_cases hk : nI k = 0
    · rw [if_pos hk] at hC hD
      exact ⟨_, _, _, hC, hD⟩
    · rw [if_neg hk] at hC hD
      exact ⟨_, _, _, hC, hD⟩
  | succ j ih =>
    intro v c c2 f b tn2 th2 bi2 se2 da2 kd2 fg2 st2 wa2 m h
    have h9 : ¬ (9 : Int32) < nI v := nI_nlt (a := 9) (b := v) (by omega) (by omega)
    have h10 : ¬ (10 : Int32) ≤ nI v := nI_ge (a := v) (b := 10) (by omega) (by omega)
    obtain ⟨hR, u0, hu0, -, -⟩ := pu_mind hQ kd2 fg2 st2 wa2 m
    have hM : pu_Q 999 n (nI v) (pu_m kd kd2) (pu_m fg fg2) (th, bi, da, pu_m st st2, pu_m wa wa2) (upd (pu_cp s m) 2 (nI v)) := ⟨pu_R_s2 hR _, v, by omega, rfl, pu_upd⟩
    obtain ⟨g1, r', g2, g3, -⟩ := pu_goQ (N := N) (by omega) hM
    obtain ⟨cn, hcn, b1, b2⟩ := pu_cnt g3.1
    have hC : f_X11_bestSea_29 (c + (j + 1) + 1) (nI N) (nI k) f b (nI v) (nI n) th bi se da kd fg st wa tn2 th2 bi2 se2 da2 kd2 fg2 st2 wa2 = f_X11_bestSea_29s (f_X11_bestSea_29 (c + j + 1)) (nI N) (nI k) f b (nI v) (nI n) th bi se da kd fg st wa tn2 th2 bi2 se2 da2 kd2 fg2 st2 wa2 := rfl
    have hD : f_X12_bestSea_26 (c2 + (j + 1) + 1) (nI N) (nI k) f b (nI v) s m = f_X12_bestSea_26s (f_X12_bestSea_26 (c2 + j + 1)) (nI N) (nI k) f b (nI v) s m := rfl
    unfold f_X11_bestSea_29s at hC
    unfold f_X12_bestSea_26s at hD
    rw [if_neg h9, pu_become, pu_bind] at hC
    dsimp only at g1 hC
    rw [g1, pu_bind, b2, pu_bind, pu_bind] at hC
    rw [if_neg h10, pu_copies, pu_bind, pu_c2, g2, pu_bind, pu_hereIn g3.1, pu_bind, b1, pu_bind, pu_bind, b1, pu_bind] at hD
    try dsimp only at hC hD
    by_cases hle : nI cn ≤ b
    · rw [if_pos hle, nI_1] at hC
      rw [if_neg (Int32.not_lt.mpr hle), nI_1] at hD
      obtain ⟨e, zc, zr, i1, i2⟩ := ih (v + 1) c c2 f b (nI n) _ _ (nI v) _ (pu_m kd kd2) (pu_m fg fg2) _ _ r' (by omega)
      exact ⟨e, zc, zr, hC.trans i1, hD.trans i2⟩
    · rw [if_neg hle, nI_1] at hC
      rw [if_pos (Int32.not_le.mp hle), nI_1] at hD
      obtain ⟨e, zc, zr, i1, i2⟩ := ih (v + 1) c c2 (nI v) (nI cn) (nI n) _ _ (nI v) _ (pu_m kd kd2) (pu_m fg fg2) _ _ r' (by omega)
      exact ⟨e, zc, zr, hC.trans i1, hD.trans i2⟩
theorem po_bestSea {n : Nat} {th bi se da : Int32} {kd fg st wa s : Nat → Int32} (hQ : pu_Q 999 n se kd fg (th, bi, da, st, wa) s) (x1 x2 tn2 th2 bi2 se2 da2 : Int32) (kd2 fg2 st2 wa2 m : Nat → Int32) : ∃ e zc zr, f_X11_bestSea x1 x2 (nI n) th bi se da kd fg st wa tn2 th2 bi2 se2 da2 kd2 fg2 st2 wa2 = some (e, zc) ∧ f_X12_bestSea x1 x2 s m = some (e, zr) := by
  unfold f_X11_bestSea f_X12_bestSea
  rw [pu_within]
  rcases pu_late x1 with ⟨l1, l2⟩ | ⟨N, hN, rfl, l1, l2⟩
  · rw [l1, l2]
    exact ⟨-1, _, _, rfl, rfl⟩
  · rw [l1, l2, pu_bind, pu_bind, if_neg pu_10, if_neg pu_10, pu_within]
    rcases pu_in (l := 0) (h := 1) (by omega) (by omega) x2 (L := 0) (H := 1) rfl rfl with hi | ⟨k, -, hk, rfl, hi⟩
    · rw [hi]
      exact ⟨-1, _, _, rfl, rfl⟩
    · rw [hi]
      simp only [pu_bind, if_neg pu_10]
      exact pu_bsloop (k := k) hN hQ 10 0 1989 1989 0 (-1) tn2 th2 bi2 se2 da2 kd2 fg2 st2 wa2 m (by omega)

/-! years by seeds -/
theorem pu_draw (z : Int32) {q : Nat} (h0 : 0 < q) (hq : q < 2 ^ 31) : ∃ j, j < q ∧ (((z &&& (2147483647 : Int32)) / (65536 : Int32)) - ((z &&& (2147483647 : Int32)) / (65536 : Int32)) / nI q * nI q) = nI j := by
  obtain ⟨j, hj, e⟩ := pk_andE z (m := 2147483647) 31 (by decide)
  have hd : nI j / (65536 : Int32) = nI (j / 65536) := pk_div (d := 65536) hj (by omega) (by omega)
  rw [e, hd, pk_rem (by omega) h0 hq]
  exact ⟨_, Nat.mod_lt _ h0, rfl⟩
theorem pu_yrloop {n N k : Nat} (hN : N ≤ 20) {th bi se da : Int32} {kd fg st wa s : Nat → Int32} (hQ : pu_Q 999 n se kd fg (th, bi, da, st, wa) s) : ∀ (j i c c2 : Nat) (z v : Int32) (tn2 th2 bi2 se2 da2 : Int32) (kd2 fg2 st2 wa2 m : Nat → Int32), i + j = N → ∃ e zc z' zr, f_X11_years_30 (c + j + 1) (nI N) (nI k) z v (nI i) (nI n) th bi se da kd fg st wa tn2 th2 bi2 se2 da2 kd2 fg2 st2 wa2 = some (e, zc) ∧ f_X12_years_32 (c2 + j + 1) (nI N) (nI k) v (nI i) z s m = some (e, z', zr) := by
  intro j
  induction j with
  | zero =>
    intro i c c2 z v tn2 th2 bi2 se2 da2 kd2 fg2 st2 wa2 m h
    have : i = N := by omega
    subst this
    have hC : f_X11_years_30 (c + 0 + 1) (nI i) (nI k) z v (nI i) (nI n) th bi se da kd fg st wa tn2 th2 bi2 se2 da2 kd2 fg2 st2 wa2 = f_X11_years_30s (f_X11_years_30 c) (nI i) (nI k) z v (nI i) (nI n) th bi se da kd fg st wa tn2 th2 bi2 se2 da2 kd2 fg2 st2 wa2 := rfl
    have hD : f_X12_years_32 (c2 + 0 + 1) (nI i) (nI k) v (nI i) z s m = f_X12_years_32s (f_X12_years_32 c2) (nI i) (nI k) v (nI i) z s m := rfl
    unfold f_X11_years_30s at hC
    unfold f_X12_years_32s at hD
    rw [if_pos (pu_refl_n i)] at hC hD
    exact ⟨_, _, _, _, hC, hD⟩
  | succ j ih =>
    intro i c c2 z v tn2 th2 bi2 se2 da2 kd2 fg2 st2 wa2 m h
    have hlt : ¬ nI N ≤ nI i := nI_ge (by omega) (by omega)
    obtain ⟨d1, hd1, e1⟩ := pu_draw ((z * (1103515245 : Int32)) + (12345 : Int32)) (q := 10) (by omega) (by omega)
    obtain ⟨d2, hd2, e2⟩ := pu_draw ((((z * (1103515245 : Int32)) + (12345 : Int32)) * (1103515245 : Int32)) + (12345 : Int32)) (q := 100) (by omega) (by omega)
    obtain ⟨hR, u0, hu0, -, -⟩ := pu_mind hQ kd2 fg2 st2 wa2 m
    have hM : pu_Q 999 n (nI d1) (pu_m kd kd2) (pu_m fg fg2) (th, nI d2, da, pu_m st st2, pu_m wa wa2) (upd (upd (pu_cp s m) 2 (nI d1)) 3 (nI d2)) := ⟨pu_R_bi (pu_R_s2 hR _) (by omega), d1, by omega, rfl, by rw [pu_updn (by omega), pu_upd]⟩
    obtain ⟨g1, r', g2, g3, -⟩ := pu_goQ (N := 20) (by omega) hM
    obtain ⟨cn, hcn, b1, b2⟩ := pu_cnt g3.1
    have hC : f_X11_years_30 (c + (j + 1) + 1) (nI N) (nI k) z v (nI i) (nI n) th bi se da kd fg st wa tn2 th2 bi2 se2 da2 kd2 fg2 st2 wa2 = f_X11_years_30s (f_X11_years_30 (c + j + 1)) (nI N) (nI k) z v (nI i) (nI n) th bi se da kd fg st wa tn2 th2 bi2 se2 da2 kd2 fg2 st2 wa2 := rfl
    have hD : f_X12_years_32 (c2 + (j + 1) + 1) (nI N) (nI k) v (nI i) z s m = f_X12_years_32s (f_X12_years_32 (c2 + j + 1)) (nI N) (nI k) v (nI i) z s m := rfl
    have dr1 : f_X11_drawn ((z * (1103515245 : Int32)) + (12345 : Int32)) (10 : Int32) = some (nI d1) := congrArg some e1
    have dr2 : f_X11_drawn ((((z * (1103515245 : Int32)) + (12345 : Int32)) * (1103515245 : Int32)) + (12345 : Int32)) (100 : Int32) = some (nI d2) := congrArg some e2
    have dq1 : f_X12_drawn (10 : Int32) z = some (nI d1, (z * (1103515245 : Int32)) + (12345 : Int32)) := congrArg (fun q => some (q, (z * (1103515245 : Int32)) + (12345 : Int32))) e1
    have dq2 : f_X12_drawn (100 : Int32) ((z * (1103515245 : Int32)) + (12345 : Int32)) = some (nI d2, (((z * (1103515245 : Int32)) + (12345 : Int32)) * (1103515245 : Int32)) + (12345 : Int32)) := congrArg (fun q => some (q, (((z * (1103515245 : Int32)) + (12345 : Int32)) * (1103515245 : Int32)) + (12345 : Int32))) e2
    unfold f_X11_years_30s f_X11_nextSeed f_X11_years_121 at hC
    unfold f_X12_years_32s f_X12_years_107 at hD
    rw [if_neg hlt, pu_become, pu_bind, pu_bind, dr1, pu_bind, pu_bind, dr2, pu_bind] at hC
    dsimp only at g1 hC
    rw [show f_X4_goOn (20 : Int32) (nI n) th (nI d2) (nI d1) da (pu_m kd kd2) (pu_m fg fg2) (pu_m st st2) (pu_m wa wa2) = _ from g1, pu_bind, b2, pu_bind] at hC
    rw [if_neg hlt, pu_copies, pu_bind, dq1, pu_bind] at hD
    dsimp only at hD
    rw [dq2, pu_bind] at hD
    dsimp only at hD
    rw [pu_c2, pu_c3, show f_X12_daysOn (20 : Int32) (upd (upd (pu_cp s m) 2 (nI d1)) 3 (nI d2)) = some r' from g2, pu_bind, pu_hereIn g3.1, pu_bind, b1, pu_bind, g3.1.2.2.2.1] at hD
    rw [nI_1] at hC hD
    by_cases hk : nI k = 0
    · rw [if_pos hk] at hC hD
      obtain ⟨e, zc, z', zr, i1, i2⟩ := ih (i + 1) c c2 _ (v + nI cn) (nI n) _ _ (nI d1) _ (pu_m kd kd2) (pu_m fg fg2) _ _ r' (by omega)
      exact ⟨e, zc, z', zr, hC.trans i1, hD.trans i2⟩
    · rw [if_neg hk] at hC hD
      obtain ⟨e, zc, z', zr, i1, i2⟩ := ih (i + 1) c c2 _ _ (nI n) _ _ (nI d1) _ (pu_m kd kd2) (pu_m fg fg2) _ _ r' (by omega)
      exact ⟨e, zc, z', zr, hC.trans i1, hD.trans i2⟩
theorem po_years {n : Nat} {th bi se da : Int32} {kd fg st wa s : Nat → Int32} (hQ : pu_Q 999 n se kd fg (th, bi, da, st, wa) s) (x1 x2 x3 sd tn2 th2 bi2 se2 da2 : Int32) (kd2 fg2 st2 wa2 m : Nat → Int32) : ∃ e zc z' zr, f_X11_years x1 x2 x3 (nI n) th bi se da kd fg st wa tn2 th2 bi2 se2 da2 kd2 fg2 st2 wa2 = some (e, zc) ∧ f_X12_years x1 x2 x3 sd s m = some (e, z', zr) := by
  unfold f_X11_years f_X12_years
  rw [pu_within]
  rcases pu_in (l := 1) (h := 20) (by omega) (by omega) x1 (L := 1) (H := 20) rfl rfl with hi | ⟨N, hN1, hN, rfl, hi⟩
  · rw [hi]
    exact ⟨-1, _, _, _, rfl, rfl⟩
  · rw [hi, pu_bind, pu_bind, if_neg pu_10, if_neg pu_10, pu_within]
    rcases pu_in (l := 0) (h := 1) (by omega) (by omega) x3 (L := 0) (H := 1) rfl rfl with hi2 | ⟨k, -, hk, rfl, hi2⟩
    · rw [hi2]
      exact ⟨-1, _, _, _, rfl, rfl⟩
    · rw [hi2]
      simp only [pu_bind, if_neg pu_10]
      obtain ⟨e, zc, z', zr, g⟩ := pu_yrloop (k := k) hN hQ N 0 (1999 - N) (1999 - N) x2 0 tn2 th2 bi2 se2 da2 kd2 fg2 st2 wa2 m (by omega)
      rw [show 1999 - N + N + 1 = 2000 by omega] at g
      exact ⟨e, zc, z', zr, g⟩
/-! when nobody is there -/
theorem pu_sub0and {r s : Nat → Int32} {n : Nat} (hsub : ∀ u, u < n → r (8 + 5 * u) = 1 → s (8 + 5 * u) = 1) : pu_mk r n &&& pu_mk s n = 0 ↔ pu_mk r n = 0 := by
  constructor
  · intro h
    apply Nat.eq_of_testBit_eq
    intro i
    rw [Nat.zero_testBit]
    cases hq : (pu_mk r n).testBit i with
    | false => rfl
    | true =>
      rcases Nat.lt_or_ge i n with hi | hi
      · have h1 := (pu_mk_bit r n i hi).mp hq
        have h2 := (pu_mk_bit s n i hi).mpr (hsub i hi h1)
        have h3 : (pu_mk r n &&& pu_mk s n).testBit i = true := by rw [Nat.testBit_and, hq, h2]; rfl
        rw [h, Nat.zero_testBit] at h3
        cases h3
      · rw [pu_mk_hi r hi] at hq
        cases hq
  · intro h
    rw [h, Nat.zero_and]
theorem pu_emloop {n : Nat} {s0 : Nat → Int32} {se : Int32} {kd fg : Nat → Int32} : ∀ (j i c c2 B : Nat) (x : pu_S) (r : Nat → Int32), i + j = 61 → pu_Q B n se kd fg x r → (∀ u, u < n → r (8 + 5 * u) = 1 → s0 (8 + 5 * u) = 1) →
    ∃ a zc zr, f_X11_daysUntilNoneOf_13 (c + j + 1) (nI (pu_mk s0 n)) (nI i) (nI n) x.1 x.2.1 se x.2.2.1 kd fg x.2.2.2.1 x.2.2.2.2 = some (a, zc) ∧ f_X12_empty_13 (c2 + j + 1) (nI i) r = some (a, zr) := by
  intro j
  induction j with
  | zero =>
    intro i c c2 B x r h hQ _
    have : i = 61 := by omega
    subst this
    exact ⟨-4, _, _, rfl, rfl⟩
  | succ j ih =>
    intro i c c2 B x r h hQ hsub
    have h60 : ¬ (60 : Int32) < nI i := nI_nlt (a := 60) (b := i) (by omega) (by omega)
    have hn : n ≤ 7 := hQ.1.1
    have hm : pu_mk r n < 128 := pu_mk_lt7 hn
    have hth : x.1 = nI (pu_mk r n) := hQ.1.2.2.2.2.2.2.1
    have hz : (x.1 &&& nI (pu_mk s0 n)) = 0 ↔ x.1 = 0 := by
      rw [hth, pu_andself _ hm _ (pu_mk_lt7 hn), pu_sub0and hsub, show (0 : Int32) = nI 0 from rfl, nI_eq (by omega) (by omega)]
    obtain ⟨e1, r', e2, e3, e4⟩ := pu_day1Q hQ
    by_cases h0 : x.1 = 0
    · refine ⟨nI i, (nI n, x.1, x.2.1, se, x.2.2.1, kd, fg, x.2.2.2.1, x.2.2.2.2), r, ?_, ?_⟩
      · show f_X11_daysUntilNoneOf_13s (f_X11_daysUntilNoneOf_13 (c + j + 1)) _ _ _ _ _ _ _ _ _ _ _ = _
        unfold f_X11_daysUntilNoneOf_13s
        rw [if_neg h60, if_pos (hz.mpr h0)]
      · show f_X12_empty_13s (f_X12_empty_13 (c2 + j + 1)) _ _ = _
        unfold f_X12_empty_13s
        rw [if_neg h60, pu_hereIn hQ.1, pu_bind, if_pos h0]
    · obtain ⟨a, zc, zr, g1, g2⟩ := ih (i + 1) c c2 (B + 1) _ r' (by omega) e3 (fun u hu q => hsub u hu (e4 u q))
      refine ⟨a, zc, zr, ?_, ?_⟩
      · rw [← g1]
        show f_X11_daysUntilNoneOf_13s (f_X11_daysUntilNoneOf_13 (c + j + 1)) _ _ _ _ _ _ _ _ _ _ _ = _
        unfold f_X11_daysUntilNoneOf_13s
        rw [if_neg h60, if_neg (fun q => h0 (hz.mp q)), e1, pu_bind, nI_1]
      · rw [← g2]
        show f_X12_empty_13s (f_X12_empty_13 (c2 + j + 1)) _ _ = _
        unfold f_X12_empty_13s
        rw [if_neg h60, pu_hereIn hQ.1, pu_bind, if_neg h0, e2, pu_bind, nI_1]
theorem po_empty {n : Nat} {th bi se da : Int32} {kd fg st wa s : Nat → Int32} (hQ : pu_Q 999 n se kd fg (th, bi, da, st, wa) s) (tn2 th2 bi2 se2 da2 : Int32) (kd2 fg2 st2 wa2 m : Nat → Int32) : ∃ a zc zr, f_X11_empty (nI n) th bi se da kd fg st wa tn2 th2 bi2 se2 da2 kd2 fg2 st2 wa2 = some (a, zc) ∧ f_X12_empty s m = some (a, zr) := by
  have hn : n ≤ 7 := hQ.1.1
  have hth : th = nI (pu_mk s n) := hQ.1.2.2.2.2.2.2.1
  obtain ⟨a, zc, zr, g1, g2⟩ := pu_emloop (s0 := s) 61 0 1938 1938 999 _ _ (by omega) (pu_mind hQ kd2 fg2 st2 wa2 m) (fun u hu q => by rw [pu_cp_lt (by omega)] at q; exact q)
  refine ⟨a, zc, zr, ?_, ?_⟩
  · unfold f_X11_empty f_X11_daysUntilNoneOf
    rw [pu_become, pu_bind]
    dsimp only at g1 ⊢
    rw [hth] at g1 ⊢
    rw [show f_X11_daysUntilNoneOf_13 2000 (nI (pu_mk s n)) (0 : Int32) (nI n) (nI (pu_mk s n)) bi se da (pu_m kd kd2) (pu_m fg fg2) (pu_m st st2) (pu_m wa wa2) = _ from g1]
    rfl
  · unfold f_X12_empty
    rw [pu_copies, pu_bind]
    exact g2
