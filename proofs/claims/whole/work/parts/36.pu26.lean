/-! isle -/
theorem pu_m2000 {i : Nat} (hi : i ≤ 200) : ¬ (-2000 : Int32) - nI i = 0 := fun h => by
  have h2 : nI i = -2000 := by
    rw [Int32.sub_eq_iff_eq_add, Int32.zero_add] at h
    exact h.symm
  have := nI_pos (n := i) (by omega)
  rw [h2] at this
  exact this (by decide)
theorem pu_m1000 {i : Nat} (hi : i ≤ 200) : ¬ (-1000 : Int32) - nI i = 0 := fun h => by
  have h2 : nI i = -1000 := by
    rw [Int32.sub_eq_iff_eq_add, Int32.zero_add] at h
    exact h.symm
  have := nI_pos (n := i) (by omega)
  rw [h2] at this
  exact this (by decide)
theorem pu_93x {x3 x4 : Int32} (hx : ¬ x4 = 0) (c : Nat) (pl ra re : Int32) (s was nu em : Nat → Int32) : f_X12_isle_93 (c + 1) x3 x4 pl ra re s was nu em = some (x4, pl, ra, re, s, was, nu) := by
  show f_X12_isle_93s _ _ _ _ _ _ _ _ _ _ = _
  unfold f_X12_isle_93s f_X12_isle_161
  rw [if_neg hx, if_neg hx]
theorem pu_pass2 {d z : Nat} {sz : Int32} {el em : Nat → Int32} {ch : Nat → Nat} (hX : pu_X d z sz el em ch) {n0 : Nat} {th0 bi0 se0 da0 : Int32} {kd0 fg0 st0 wa0 was : Nat → Int32} (hW : ∀ m, pu_Q 999 n0 se0 kd0 fg0 (th0, bi0, da0, st0, wa0) (pu_cp was m)) (kS : Nat) {tot : Nat} : ∀ (k i cnt c c2 n : Nat) (th bi se da : Int32) (kd fg st wa s nu : Nat → Int32), pu_form ch z k i → i ≤ z → 3 * cnt ≤ i → cnt + k = tot → pu_Q 999 n se kd fg (th, bi, da, st, wa) s → ∃ (a : Int32) (n' : Nat) (th' bi' se' da' : Int32) (kd' fg' st' wa' : Nat → Int32) (zm : Int32 × Int32 × Int32 × Int32 × Int32 × (Nat → Int32) × (Nat → Int32) × (Nat → Int32) × (Nat → Int32)) (pl' : Int32) (s' nu' : Nat → Int32), f_X11_isle_64 (c + k + 1) (nI cnt) (nI i) (nI n0) th0 bi0 se0 da0 kd0 fg0 st0 wa0 (nI n) th bi se da kd fg st wa sz el kS = some (a, nI n', th', bi', se', da', kd', fg', st', wa', zm) ∧ f_X12_isle_93 (c2 + k + 2) (nI tot) 0 (nI i) (nI (100 * d)) sz s was nu em = some (a, pl', nI (100 * d), sz, s', was, nu') ∧ pu_Q 999 n' se' kd' fg' (th', bi', da', st', wa') s' := by
  obtain ⟨hd, hz, hsz, -⟩ := id hX
  intro k
  induction k with
  | zero =>
    intro i cnt c c2 n th bi se da kd fg st wa s nu hf hiz h3 hct hQ
    have hf : i = z := hf
    have hct : cnt = tot := hct
    subst hf; subst hct
    have hM := pu_mind hQ kd0 fg0 st0 wa0 s
    have hself : pu_cp s s = s := by
      funext q
      unfold pu_cp
      split <;> rfl
    rw [hself] at hM
    refine ⟨nI cnt, n, th, bi, se, da, _, _, _, _, (nI n, th, bi, se, da, kd, fg, st, wa), nI i, s, nu, ?_, ?_, hM⟩
    · show f_X11_isle_64s _ _ _ _ _ _ _ _ _ _ _ _ _ _ _ _ _ _ _ _ _ _ _ _ = _
      unfold f_X11_isle_64s f_X11_isle_114
      rw [hsz, if_pos (pu_refl_n i), pu_become]
      rfl
    · show f_X12_isle_93s _ _ _ _ _ _ _ _ _ _ = _
      unfold f_X12_isle_93s f_X12_isle_161
      rw [if_pos rfl, hsz, if_pos (pu_refl_n i), if_pos rfl]
  | succ k ih =>
    intro i cnt c c2 n th bi se da kd fg st wa s nu hf hiz h3 hct hQ
    obtain ⟨hlt, hg, hf'⟩ := hf
    have hC : f_X11_isle_64 (c + (k + 1) + 1) (nI cnt) (nI i) (nI n0) th0 bi0 se0 da0 kd0 fg0 st0 wa0 (nI n) th bi se da kd fg st wa sz el kS = f_X11_isle_64s (f_X11_isle_64 (c + k + 1)) (nI cnt) (nI i) (nI n0) th0 bi0 se0 da0 kd0 fg0 st0 wa0 (nI n) th bi se da kd fg st wa sz el kS := rfl
    have hD : f_X12_isle_93 (c2 + (k + 1) + 2) (nI tot) 0 (nI i) (nI (100 * d)) sz s was nu em = f_X12_isle_93s (f_X12_isle_93 (c2 + k + 2)) (nI tot) 0 (nI i) (nI (100 * d)) sz s was nu em := rfl
    unfold f_X11_isle_64s at hC
    unfold f_X12_isle_93s at hD
    have hge : ¬ sz ≤ nI i := by rw [hsz]; exact nI_ge hlt (by omega)
    obtain ⟨nu1, hr⟩ := pu_rs hX (i := i) (by omega) nu
    rcases hr with ⟨a1, -⟩ | ⟨-, q, a2, -⟩ | ⟨-, -, hnf, a4⟩
    · exact absurd hg.1 (by omega)
    · rw [hg.2.1] at a2; cases a2
    rw [if_pos hg.2.2] at a4
    have hnext := pu_sg_lt hX (by omega) hg
    obtain ⟨C', e2, hcm⟩ := pu_come hX (show i ≤ 100 by omega) hg hQ hnf
    rw [if_neg hge, if_neg (show ¬ (100 : Int32) ≤ nI cnt from nI_ge (b := 100) (by omega) (by omega))] at hC
    rw [if_pos rfl, if_neg hge, e2, pu_bind, a4, pu_bind] at hD
    dsimp only at hD
    rcases hcm with ⟨zz, c1, c3⟩ | ⟨n', th', bi', se', da', kd', fg', st', wa', s', c1, c3, c4⟩
    · rw [c1, pu_bind, if_pos rfl] at hC
      rw [c3, pu_bind, if_pos rfl, pu_copies, pu_bind, pu_93x (pu_m2000 (by omega))] at hD
      obtain ⟨z1, z2, z3, z4, z5, z6, z7, z8, z9⟩ := zz
      exact ⟨_, n0, th0, bi0, se0, da0, kd0, fg0, st0, wa0, _, _, _, _, hC, hD, hW s⟩
    · obtain ⟨C, e1, -, e3⟩ := pu_dbC hX (i := i) (by omega)
      have hb : f_X9_behindStatement (nI i) sz el = some (nI (i + pu_db (ch i) + 2)) := by
        unfold f_X9_behindStatement
        rw [e1, pu_bind, e3, pu_bind, if_neg (show ¬ pu_db (ch i) = 0 by have := hg.1; omega), nI_add]
        exact congrArg some (nI_add _ 2)
      rw [c1, pu_bind, if_neg pu_10, hb, pu_bind, nI_1] at hC
      rw [c3, pu_bind, if_neg pu_10] at hD
      have hp := hg.1
      obtain ⟨a, n2, th2, bi2, se2, da2, kd2, fg2, st2, wa2, zm, pl', s2, nu2, i1, i2, i3⟩ := ih (i + pu_db (ch i) + 2) (cnt + 1) c c2 n' th' bi' se' da' kd' fg' st' wa' s' nu1 hf' hnext (by omega) (by omega) c4
      exact ⟨a, n2, th2, bi2, se2, da2, kd2, fg2, st2, wa2, zm, pl', s2, nu2, hC.trans i1, hD.trans i2, i3⟩
theorem po_isle0 {x1 : Int32} (h1 : f_X11_isShelf x1 = some 0) (h2 : f_X12_isShelf x1 = some 0) (tn th bi se da : Int32) (kd fg st wa : Nat → Int32) (tn2 th2 bi2 se2 da2 : Int32) (kd2 fg2 st2 wa2 : Nat → Int32) (ho so sz : Int32) (el : Nat → Int32) (kS : Nat) (pl ra re : Int32) (s was nu kp so' sz' em : Nat → Int32) : f_X11_isle x1 tn th bi se da kd fg st wa tn2 th2 bi2 se2 da2 kd2 fg2 st2 wa2 ho so sz el kS = some (-1, tn, th, bi, se, da, kd, fg, st, wa, tn2, th2, bi2, se2, da2, kd2, fg2, st2, wa2) ∧ f_X12_isle x1 pl ra re s was nu kp so' sz' em = some (-1, pl, ra, re, s, was, nu) := by
  unfold f_X11_isle f_X12_isle
  obtain ⟨a1, -, a3, -⟩ := pu_refRow0 h1 h2 ho kS 0 kp so'
  rw [a1, a3]
  exact ⟨rfl, rfl⟩
theorem po_isle {n d : Nat} (hd : d < 8) {th bi se da : Int32} {kd fg st wa s : Nat → Int32} (hQ : pu_Q 999 n se kd fg (th, bi, da, st, wa) s) {ho ki fi so sz : Int32} {el kp kk kf so' sz' em : Nat → Int32} (h : pu_H d ho ki fi so sz el kp kk kf so' sz' em) (h1 : f_X11_isShelf (nI d) = some 1) (h2 : f_X12_isShelf (nI d) = some 1) (tn2 th2 bi2 se2 da2 : Int32) (kd2 fg2 st2 wa2 : Nat → Int32) (pl ra re : Int32) (was nu : Nat → Int32) :
    ∃ (a : Int32) (n' : Nat) (th' bi' se' da' : Int32) (kd' fg' st' wa' : Nat → Int32) (zm : Int32 × Int32 × Int32 × Int32 × Int32 × (Nat → Int32) × (Nat → Int32) × (Nat → Int32) × (Nat → Int32)) (pl' ra' re' : Int32) (s' was' nu' : Nat → Int32), f_X11_isle (nI d) (nI n) th bi se da kd fg st wa tn2 th2 bi2 se2 da2 kd2 fg2 st2 wa2 ho so sz el d = some (a, nI n', th', bi', se', da', kd', fg', st', wa', zm) ∧ f_X12_isle (nI d) pl ra re s was nu kp so' sz' em = some (a, pl', ra', re', s', was', nu') ∧ pu_Q 999 n' se' kd' fg' (th', bi', da', st', wa') s' := by
  unfold f_X11_isle f_X12_isle
  rcases pu_refRow hd h h1 h2 with ⟨-, a1, -, a2, -⟩ | ⟨-, a1, -, a2, -⟩ | ⟨-, a1, -, -, a2, -, eso, esz, -, ⟨z, hz, ez⟩, he⟩
  · rw [a1, a2 0]
    exact ⟨-11, n, th, bi, se, da, kd, fg, st, wa, (tn2, th2, bi2, se2, da2, kd2, fg2, st2, wa2), pl, ra, re, s, was, nu, rfl, rfl, hQ⟩
  · rw [a1, a2 0]
    exact ⟨-12, n, th, bi, se, da, kd, fg, st, wa, (tn2, th2, bi2, se2, da2, kd2, fg2, st2, wa2), pl, ra, re, s, was, nu, rfl, rfl, hQ⟩
  · rw [a1, a2, pu_bind, if_pos rfl, pu_g8 hd, pu_kd hd]
    by_cases hso : so = 0
    · rw [if_pos hso, if_pos hso, pu_bind, if_pos rfl, pu_g8 hd, nI_clamp (by omega), ← esz, show (100 : Int32) * nI d = nI (100 * d) from pk_mul 100 d]
      obtain ⟨ch, hX⟩ := pu_X_of hd hz ez (fun i hi => ⟨(he i hi).1, (he i hi).2 hso⟩)
      have hfault : ∀ (q : Nat) (c3 pl2 : Int32) (nu2 : Nat → Int32), q ≤ 200 → f_X12_isle_77 c3 ((-1000 : Int32) - nI q) pl2 (nI (100 * d)) sz s was nu2 em = some ((-1000 : Int32) - nI q, 0, nI (100 * d), sz, s, pu_cp s was, nu2) := fun q c3 pl2 nu2 hq => by
        unfold f_X12_isle_77
        rw [pu_copies, pu_bind]
        exact pu_93x (pu_m1000 hq) 1999 0 (nI (100 * d)) sz s (pu_cp s was) nu2 em
      rcases Nat.eq_zero_or_pos z with hz0 | hz0
      · subst hz0
        obtain ⟨nu1, hr⟩ := pu_rs hX (i := 0) (by omega) nu
        have hch : ch 0 = 0 := by
          obtain ⟨C, C', -, -, -, -, -, hp, -⟩ := pu_XK hX (i := 0) (by omega)
          rcases Nat.eq_zero_or_pos (ch 0) with q | q
          · exact q
          · have := (hp q).2.2; omega
        rw [hch] at hr
        rcases hr with ⟨-, r1⟩ | ⟨q, -⟩ | ⟨q, -⟩
        · have hw : f_X9_placeOfWrongForm sz el = some 0 := by rw [ez]; rfl
          have h41 : f_X12_isle_41 2000 0 0 0 (nI (100 * d)) sz s was nu em = f_X12_isle_77 1 ((-1000 : Int32) - nI 0) (nI 0) (nI (100 * d)) sz s was nu1 em := by
            show f_X12_isle_41s (f_X12_isle_41 1999) 0 0 (nI 0) (nI (100 * d)) sz s was nu em = _
            unfold f_X12_isle_41s f_X12_isle_58
            rw [r1, pu_bind, if_pos rfl, if_neg (pu_m1000 (by omega))]
            rfl
          rw [hw, h41, hfault 0 _ _ _ (by omega)]
          exact ⟨(-1000 : Int32) - nI 0, n, th, bi, se, da, kd, fg, st, wa, (tn2, th2, bi2, se2, da2, kd2, fg2, st2, wa2), _, _, _, s, _, _, rfl, rfl, hQ⟩
        · exact absurd q (by decide)
        · exact absurd q (by decide)
      · have hp1 := pu_pass1 hX s was z 0 (1999 - z) (1999 - z) 0 nu hz0 (by omega)
        rw [show 1999 - z + z + 1 = 2000 by omega, nI_0] at hp1
        rcases hp1 with ⟨q, cnt', nu1, pl1, hq, b1, b2⟩ | ⟨k, nu1, pl1, hf, b1, b2⟩
        · rw [show f_X9_placeOfWrongForm sz el = _ from b1, b2, pu_bind, if_neg (nI_pos (by omega)), hfault q _ _ _ hq]
          exact ⟨(-1000 : Int32) - nI q, n, th, bi, se, da, kd, fg, st, wa, (tn2, th2, bi2, se2, da2, kd2, fg2, st2, wa2), _, _, _, s, _, _, rfl, rfl, hQ⟩
        · rw [Nat.zero_add] at b2
          have hM := pu_mind hQ kd2 fg2 st2 wa2 s
          have hself : pu_cp s s = s := by
            funext q
            unfold pu_cp
            split <;> rfl
          rw [hself] at hM
          have hW : ∀ m, pu_Q 999 n se kd fg (th, bi, da, st, wa) (pu_cp (pu_cp s was) m) := fun m => by
            obtain ⟨hR, v, hv, hse, h3⟩ := hQ
            exact ⟨pu_R_cg hR (fun i hi => by rw [pu_cp_lt hi, pu_cp_lt hi]) (fun _ _ => rfl) (fun _ _ => rfl) (fun _ _ => rfl) (fun _ _ => rfl), v, hv, hse, by rw [pu_cp_lt (by omega), pu_cp_lt (by omega)]; exact h3⟩
          have hk : k ≤ 100 := by
            have hkz : ∀ (k i : Nat), i ≤ z → pu_form ch z k i → i + k ≤ z := by
              intro k
              induction k with
              | zero => intro i hi hf; exact hi
              | succ k ih =>
                intro i hi hf
                obtain ⟨q1, q2, q3⟩ := hf
                have := pu_sg_lt hX (by omega) q2
                have := ih _ this q3
                omega
            have := hkz k 0 (by omega) hf
            omega
          obtain ⟨a, n', th', bi', se', da', kd', fg', st', wa', zm, pl', s', nu', i1, i2, i3⟩ := pu_pass2 (tot := k) hX hW d k 0 0 (1999 - k) (1998 - k) n th bi se da _ _ _ _ s nu1 hf (by omega) (by omega) (by omega) hM
          rw [show 1999 - k + k + 1 = 2000 by omega, nI_0] at i1
          rw [show 1998 - k + k + 2 = 2000 by omega, nI_0] at i2
          rw [show f_X9_placeOfWrongForm sz el = _ from b1, b2, pu_bind, if_pos (by decide), pu_become, pu_bind]
          unfold f_X12_isle_77
          rw [pu_copies, pu_bind, i2]
          dsimp only
          rw [i1]
          exact ⟨a, n', th', bi', se', da', kd', fg', st', wa', zm, pl', _, _, s', _, nu', rfl, rfl, i3⟩
    · rw [if_neg hso, if_neg hso]
      exact ⟨-12, n, th, bi, se, da, kd, fg, st, wa, (tn2, th2, bi2, se2, da2, kd2, fg2, st2, wa2), pl, ra, re, s, was, nu, rfl, rfl, hQ⟩
