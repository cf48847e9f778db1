/-! a statement comes true, on both sides -/
theorem pu_loan0 {n : Nat} (hn : n ≤ 7) (x y v th : Int32) (st s : Nat → Int32) (hs : s 0 = nI n) (h : f_X11_areTwo x y (nI n) = some 0) : f_X9_loan x y v (nI n) th st = some (0, st) := by
  unfold f_X11_areTwo at h
  unfold f_X9_loan
  rcases pu_knows hn x hs with ⟨a, -, -, k1, -⟩ | ⟨k1, -⟩
  · rw [k1, pu_bind, if_neg pu_10] at h ⊢
    rcases pu_knows hn y hs with ⟨b, -, -, k2, -⟩ | ⟨k2, -⟩
    · rw [k2, pu_bind, if_neg pu_10] at h ⊢
      by_cases e : x = y
      · rw [if_pos e]
      · rw [if_neg e] at h
        exact absurd (Option.some.inj h) (by decide)
    · rw [k2]; rfl
  · rw [k1]; rfl
theorem pu_z0 : ((0 : Int32) &&& 1) = 0 := by decide
theorem pu_knows1 {n a : Nat} (ha : a < n) (hn : n ≤ 7) : f_X4_knows (nI a) (nI n) = some 1 := by
  unfold f_X4_knows
  rw [if_neg (nI_pos (by omega)), if_neg (nI_ge ha (by omega))]
theorem pu_days_da {n : Nat} {se : Int32} {kd fg : Nat → Int32} : ∀ (k : Nat) (x : pu_S) (B : Nat) (r : Nat → Int32), pu_Q B n se kd fg x r → (pu_Cn (nI n) se kd fg k x).2.2.1 = x.2.2.1 + nI k := by
  intro k
  induction k with
  | zero => intro x B r _; show x.2.2.1 = _; rw [nI_0, Int32.add_zero]
  | succ k ih =>
    intro x B r hx
    obtain ⟨-, r2, -, e3, -, e5, -⟩ := pu_dayQ hx
    show (pu_Cn (nI n) se kd fg k (pu_C (nI n) se kd fg x).2).2.2.1 = _
    rw [ih _ _ r2 e3, e5, Int32.add_assoc, show (1 : Int32) + nI k = nI (k + 1) by rw [show (1 : Int32) = nI 1 from rfl, nI_add, Nat.add_comm]]
theorem pu_come {d z : Nat} {sz : Int32} {el em : Nat → Int32} {ch : Nat → Nat} (hX : pu_X d z sz el em ch) {i : Nat} (hi : i ≤ 100) (hg : pu_sg ch i) {n : Nat} {th bi se da : Int32} {kd fg st wa s : Nat → Int32} (hQ : pu_Q 999 n se kd fg (th, bi, da, st, wa) s) {nu : Nat → Int32} (hnf : pu_nf ch i nu) : ∃ C', f_X12_here (nI i) (nI (100 * d)) sz em = some C' ∧ ((∃ zz, f_X9_comeTrue (nI i) sz el (nI n) th bi se da kd fg st wa = some (0, zz) ∧ f_X12_isDone C' s nu = some (0, s)) ∨ ∃ (n' : Nat) (th' bi' se' da' : Int32) (kd' fg' st' wa' s' : Nat → Int32), f_X9_comeTrue (nI i) sz el (nI n) th bi se da kd fg st wa = some (1, nI n', th', bi', se', da', kd', fg', st', wa') ∧ f_X12_isDone C' s nu = some (1, s') ∧ pu_Q 999 n' se' kd' fg' (th', bi', da', st', wa') s') := by
  obtain ⟨hR, v, hv, hse, h2⟩ := id hQ
  have hR : pu_R 999 n th bi da kd fg st wa s := hR
  have hn : n ≤ 7 := hR.1
  have hs0 : s 0 = nI n := hR.2.1
  obtain ⟨C, C', e1, e2, hK, -, -, hpos, -⟩ := pu_XK hX (i := i) (by omega)
  obtain ⟨g1, g2, g3⟩ := hg
  have hall := fun q => pu_fn_all g2 q
  have hC0 : 0 < ch i := by
    rcases Nat.eq_zero_or_pos (ch i) with h | h
    · rw [h] at g1; exact absurd g1 (by decide)
    · exact h
  obtain ⟨hC, hC', -⟩ := hpos hC0
  refine ⟨C', e2, ?_⟩
  unfold f_X9_comeTrue f_X12_isDone
  rw [e1, pu_bind, hC, hC', pu_c0, pu_c1, pu_c2, pu_c3]
  obtain ⟨m1, m2, m3, m4, m5⟩ := hnf
  by_cases q98 : ch i = 98
  · rw [q98] at hall ⊢
    have d1 := hall (i + 1) (by omega) (by rw [show pu_db 98 = 2 from rfl]; omega)
    have d2 := hall (i + 2) (by omega) (by rw [show pu_db 98 = 2 from rfl]; omega)
    rw [if_pos (show nI 98 = (98 : Int32) from rfl), if_pos (show nI 98 = (98 : Int32) from rfl), nI_1, pu_nm hX (by omega) d1 d2, pu_bind, m1 (Or.inl q98), pu_vl2]
    have d3 : ch (i + 1 + 1) ≤ 57 := d2.2
    right
    exact ⟨n, th, _, se, da, kd, fg, st, wa, _, rfl, rfl, pu_R_bi hR (by omega), v, hv, hse, by rw [pu_updn (by omega)]; exact h2⟩
  · have hlt : ch i < 128 := by obtain ⟨_, _, _, _, _, _, _, _, hh⟩ := (pu_XK hX (i := i) (by omega)); exact hh
    have hneK : ∀ K : Nat, K < 128 → ¬ ch i = K → ¬ nI (ch i) = nI K := fun K hk hne q => hne ((nI_eq (by omega) (by omega)).mp q)
    rw [if_neg (show ¬ nI (ch i) = (98 : Int32) from hneK 98 (by omega) q98), if_neg (show ¬ nI (ch i) = (98 : Int32) from hneK 98 (by omega) q98)]
    by_cases q100 : ch i = 100
    · rw [q100] at hall ⊢
      have d1 := hall (i + 1) (by omega) (by rw [show pu_db 100 = 2 from rfl]; omega)
      have d2 := hall (i + 2) (by omega) (by rw [show pu_db 100 = 2 from rfl]; omega)
      rw [if_pos (show nI 100 = (100 : Int32) from rfl), if_neg (show ¬ nI 100 = (102 : Int32) by decide), if_neg (show ¬ nI 100 = (108 : Int32) by decide), if_neg (show ¬ nI 100 = (115 : Int32) by decide), if_neg (show ¬ nI 100 = (116 : Int32) by decide), if_neg (show ¬ nI 100 = (119 : Int32) by decide), nI_1, pu_nm hX (by omega) d1 d2, pu_bind, m1 (Or.inr q100), pu_vl2]
      generalize hy : 10 * (ch (i + 1) - 48) + (ch (i + 1 + 1) - 48) = y
      have hy99 : y ≤ 99 := by
        have : ch (i + 1 + 1) ≤ 57 := d2.2
        omega
      obtain ⟨dd, hdd, ed⟩ := hR.2.2.2.2.2.1
      by_cases y1 : y < 1
      · rw [if_pos (show nI y < 1 from nI_lt (b := 1) y1 (by omega))]
        left
        refine ⟨_, rfl, ?_⟩
        rw [show f_X12_isIn (nI y) 1 60 = some 0 by unfold f_X12_isIn; exact if_pos (show nI y < 1 from nI_lt (b := 1) y1 (by omega))]
        rfl
      · rw [if_neg (show ¬ nI y < 1 from nI_nlt (b := 1) (by omega) (by omega))]
        by_cases y60 : 60 < y
        · rw [if_pos (show (60 : Int32) < nI y from nI_lt (a := 60) y60 (by omega))]
          left
          refine ⟨_, rfl, ?_⟩
          rw [show f_X12_isIn (nI y) 1 60 = some 0 by unfold f_X12_isIn; rw [if_neg (show ¬ nI y < 1 from nI_nlt (b := 1) (by omega) (by omega)), if_pos (show (60 : Int32) < nI y from nI_lt (a := 60) y60 (by omega))]]
          rfl
        · rw [if_neg (show ¬ (60 : Int32) < nI y from nI_nlt (a := 60) (by omega) (by omega)), show f_X12_isIn (nI y) 1 60 = some 1 by unfold f_X12_isIn; rw [if_neg (show ¬ nI y < 1 from nI_nlt (b := 1) (by omega) (by omega)), if_neg (show ¬ (60 : Int32) < nI y from nI_nlt (a := 60) (by omega) (by omega))], pu_bind, if_neg pu_10, hR.2.2.1]
          by_cases hc : dd + y ≤ 999
          · have hl : f_X4_hasDaysLeft (nI y) da = some 1 := by
              unfold f_X4_hasDaysLeft
              rw [ed, nI_add]
              exact if_neg (nI_nlt (a := 999) hc (by omega))
            have hle : da + nI y ≤ (999 : Int32) := by rw [ed, nI_add]; exact nI_le (b := 999) hc (by omega)
            obtain ⟨u1, r', u2, u3, -⟩ := pu_goQ (N := y) (by omega) hQ
            have hday := pu_days_da (kd := kd) (fg := fg) (se := se) y _ _ _ hQ
            generalize hx : pu_Cn (nI n) se kd fg y (th, bi, da, st, wa) = x at u1 u3 hday
            obtain ⟨th', bi', da', st', wa'⟩ := x
            obtain ⟨gR, gv⟩ := u3
            right
            refine ⟨n, th', bi', se, da', kd, fg, st', wa', r', ?_, ?_, ?_, gv⟩
            · rw [hl, pu_bind, if_neg pu_10]
              show Option.bind (f_X4_goOn (nI y) (nI n) th bi se da kd fg st wa) _ = _
              rw [u1]
              rfl
            · rw [if_pos hle, u2]
              rfl
            · obtain ⟨w1, w2, w3, w4, w5, w6, w7, w8⟩ := gR
              exact ⟨w1, w2, w3, w4, w5, ⟨dd + y, hc, by rw [show da' = da + nI y from hday, ed, nI_add]⟩, w7, w8⟩
          · have hl : f_X4_hasDaysLeft (nI y) da = some 0 := by
              unfold f_X4_hasDaysLeft
              rw [ed, nI_add]
              exact if_pos (nI_lt (a := 999) (by omega) (by omega))
            have hle : ¬ da + nI y ≤ (999 : Int32) := by rw [ed, nI_add]; exact nI_ge (a := 999) (by omega) (by omega)
            rw [hl, if_neg hle]
            left
            exact ⟨_, rfl, rfl⟩
    · rw [if_neg (show ¬ nI (ch i) = (100 : Int32) from hneK 100 (by omega) q100)]
      by_cases q102 : ch i = 102
      · rw [q102] at hall ⊢
        have d1 := hall (i + 1) (by omega) (by rw [show pu_db 102 = 3 from rfl]; omega)
        have d2 := hall (i + 2) (by omega) (by rw [show pu_db 102 = 3 from rfl]; omega)
        have d3 := hall (i + 3) (by omega) (by rw [show pu_db 102 = 3 from rfl]; omega)
        obtain ⟨v0, v1⟩ := m2 q102
        rw [if_pos (show nI 102 = (102 : Int32) from rfl), if_pos (show nI 102 = (102 : Int32) from rfl), nI_1, pu_dg hX (by omega) d1, pu_bind, show nI i + (2 : Int32) = nI (i + 2) from nI_add i 2, pu_nm hX (by omega) d2 d3, pu_bind, v0, v1, pu_vl1, pu_vl2]
        generalize hy : 10 * (ch (i + 2) - 48) + (ch (i + 2 + 1) - 48) = y
        have hy99 : y ≤ 99 := by
          have : ch (i + 2 + 1) ≤ 57 := d3.2
          omega
        unfold f_X9_newStore
        rcases pu_knows hn (nI (ch (i + 1) - 48)) hs0 with ⟨t, ht, et, k1, k2⟩ | ⟨k1, k2⟩
        · rw [k1, k2, pu_bind, if_neg pu_10, pu_bind, if_neg pu_10, et, pu_g (k := t) (L := 7) (by omega) (by decide), pu_bind, pu_of2 t (by omega), pu_bind, pu_g (k := 6 + 5 * t) (L := 39) (by omega) (by decide), nI_clamp (n := t) (by omega), nI_clamp (n := 6 + 5 * t) (by omega), if_neg (show ¬ ¬ (1 : Int32) &&& 1 = 1 by decide)]
          right
          exact ⟨n, th, bi, se, da, kd, fg, _, wa, _, rfl, rfl, pu_R_st hR hy99, v, hv, hse, by rw [pu_updn (by omega)]; exact h2⟩
        · rw [k1, k2]
          left
          exact ⟨(nI n, th, bi, se, da, kd, fg, st, wa), by first | rfl | simp only [pu_bind, pu_z0, not_true_eq_false, ↓reduceIte], by first | rfl | simp only [pu_bind, ↓reduceIte]⟩
      · rw [if_neg (show ¬ nI (ch i) = (102 : Int32) from hneK 102 (by omega) q102), if_neg (show ¬ nI (ch i) = (102 : Int32) from hneK 102 (by omega) q102)]
        by_cases q108 : ch i = 108
        · rw [q108] at hall ⊢
          have d1 := hall (i + 1) (by omega) (by rw [show pu_db 108 = 4 from rfl]; omega)
          have d2 := hall (i + 2) (by omega) (by rw [show pu_db 108 = 4 from rfl]; omega)
          have d3 := hall (i + 3) (by omega) (by rw [show pu_db 108 = 4 from rfl]; omega)
          have d4 := hall (i + 4) (by omega) (by rw [show pu_db 108 = 4 from rfl]; omega)
          obtain ⟨v0, v1, v2⟩ := m3 (Or.inl q108)
          rw [if_pos (show nI 108 = (108 : Int32) from rfl), if_pos (show nI 108 = (108 : Int32) from rfl), nI_1, pu_dg hX (by omega) d1, pu_bind, show nI i + (2 : Int32) = nI (i + 2) from nI_add i 2, pu_dg hX (by omega) d2, pu_bind, show nI i + (3 : Int32) = nI (i + 3) from nI_add i 3, pu_nm hX (by omega) d3 d4, pu_bind, v0, v1, v2, pu_vl1, pu_vl1, pu_vl2]
          generalize hy : 10 * (ch (i + 3) - 48) + (ch (i + 3 + 1) - 48) = y
          have hy99 : y ≤ 99 := by
            have : ch (i + 3 + 1) ≤ 57 := d4.2
            omega
          rcases pu_two hn (nI (ch (i + 1) - 48)) (nI (ch (i + 2) - 48)) hs0 with ⟨a, b, ha, hb, hab, ea, eb, k1, k2⟩ | ⟨k1, k2⟩
          · rw [k2, pu_bind, if_neg pu_10]
            have hloan : f_X9_loan (nI (ch (i + 1) - 48)) (nI (ch (i + 2) - 48)) (nI y) (nI n) th st = Option.bind (f_X4_canLend (nI a) (nI b) (nI y) th st) (fun r8 => if r8 = 0 then some ((0 : Int32), st) else Option.bind (f_X4_handOver (nI a) (nI b) (nI y) st) (fun r11 => some ((1 : Int32), r11))) := by
              unfold f_X9_loan
              rw [ea, eb]
              rw [pu_knows1 ha hn, pu_bind, if_neg pu_10, pu_knows1 hb hn, pu_bind, if_neg pu_10, if_neg (fun q => hab ((nI_eq (by omega) (by omega)).mp q))]
            rw [hloan, ea, eb]
            by_cases y1 : y < 1
            · rw [if_pos (show nI y < 1 from nI_lt (b := 1) y1 (by omega))]
              left
              have hcl : f_X4_canLend (nI a) (nI b) (nI y) th st = some 0 := by
                unfold f_X4_canLend
                have h7 := hR.2.2.2.2.2.2.1
                rw [h7, pu_isThere _ (pu_mk_lt7 hn) a (by omega), pu_isThere _ (pu_mk_lt7 hn) b (by omega), pu_bind, pu_bind, if_pos (show nI y < 1 from nI_lt (b := 1) y1 (by omega))]
                cases (pu_mk s n).testBit a <;> cases (pu_mk s n).testBit b <;> rfl
              rw [hcl]
              exact ⟨(nI n, th, bi, se, da, kd, fg, st, wa), by first | rfl | simp only [pu_bind, pu_z0, not_true_eq_false, ↓reduceIte], by first | rfl | simp only [pu_bind, ↓reduceIte]⟩
            · rw [if_neg (show ¬ nI y < 1 from nI_nlt (b := 1) (by omega) (by omega))]
              rcases pu_can ha hb (show 1 ≤ y by omega) hy99 hR with ⟨c1, c2⟩ | ⟨c1, c2, u, w, hu, eu, ew, hyu, hwy⟩
              · rw [c1, c2]
                left
                exact ⟨(nI n, th, bi, se, da, kd, fg, st, wa), by first | rfl | simp only [pu_bind, pu_z0, not_true_eq_false, ↓reduceIte], by first | rfl | simp only [pu_bind, ↓reduceIte]⟩
              · obtain ⟨f1, f2, f3⟩ := pu_hand ha hb hab hR hu eu ew hyu hwy
                rw [c1, c2, pu_bind, if_neg pu_10, pu_bind, if_neg pu_10, f1, f2, pu_bind, pu_bind, pu_bind, if_neg (show ¬ ¬ (1 : Int32) &&& 1 = 1 by decide)]
                right
                exact ⟨n, th, bi, se, da, kd, fg, _, wa, _, rfl, rfl, f3, v, hv, hse, by rw [pu_updn (by omega), pu_updn (by omega)]; exact h2⟩
          · rw [k2, pu_loan0 hn _ _ _ th st s hs0 k1]
            left
            exact ⟨(nI n, th, bi, se, da, kd, fg, st, wa), by first | rfl | simp only [pu_bind, pu_z0, not_true_eq_false, ↓reduceIte], by first | rfl | simp only [pu_bind, ↓reduceIte]⟩
        · rw [if_neg (show ¬ nI (ch i) = (108 : Int32) from hneK 108 (by omega) q108), if_neg (show ¬ nI (ch i) = (108 : Int32) from hneK 108 (by omega) q108)]
          by_cases q115 : ch i = 115
          · rw [q115] at hall ⊢
            have d1 := hall (i + 1) (by omega) (by rw [show pu_db 115 = 1 from rfl]; omega)
            rw [if_pos (show nI 115 = (115 : Int32) from rfl), if_pos (show nI 115 = (115 : Int32) from rfl), nI_1, pu_dg hX (by omega) d1, pu_bind, m4 q115, pu_vl1]
            right
            exact ⟨n, th, bi, _, da, kd, fg, st, wa, _, rfl, rfl, pu_R_s2 hR _, ch (i + 1) - 48, by omega, rfl, pu_upd⟩
          · rw [if_neg (show ¬ nI (ch i) = (115 : Int32) from hneK 115 (by omega) q115), if_neg (show ¬ nI (ch i) = (115 : Int32) from hneK 115 (by omega) q115)]
            by_cases q116 : ch i = 116
            · rw [q116] at hall ⊢
              have d1 := hall (i + 1) (by omega) (by rw [show pu_db 116 = 4 from rfl]; omega)
              have d2 := hall (i + 2) (by omega) (by rw [show pu_db 116 = 4 from rfl]; omega)
              have d3 := hall (i + 3) (by omega) (by rw [show pu_db 116 = 4 from rfl]; omega)
              have d4 := hall (i + 4) (by omega) (by rw [show pu_db 116 = 4 from rfl]; omega)
              obtain ⟨v0, v1, v2⟩ := m3 (Or.inr q116)
              rw [if_pos (show nI 116 = (116 : Int32) from rfl), if_pos (show nI 116 = (116 : Int32) from rfl), nI_1, pu_dg hX (by omega) d1, pu_bind, v0, v1, v2, pu_vl1, pu_vl1, pu_vl2]
              by_cases hk8 : 8 ≤ ch (i + 1) - 48
              · rw [if_pos (show (8 : Int32) ≤ nI (ch (i + 1) - 48) from nI_le (a := 8) hk8 (by omega)), if_pos (show (8 : Int32) ≤ nI (ch (i + 1) - 48) from nI_le (a := 8) hk8 (by omega))]
                left
                exact ⟨(nI n, th, bi, se, da, kd, fg, st, wa), by first | rfl | simp only [pu_bind, pu_z0, not_true_eq_false, ↓reduceIte], by first | rfl | simp only [pu_bind, ↓reduceIte]⟩
              · rw [if_neg (show ¬ (8 : Int32) ≤ nI (ch (i + 1) - 48) from nI_ge (b := 8) (by omega) (by omega)), if_neg (show ¬ (8 : Int32) ≤ nI (ch (i + 1) - 48) from nI_ge (b := 8) (by omega) (by omega)), show nI i + (2 : Int32) = nI (i + 2) from nI_add i 2, pu_dg hX (by omega) d2, pu_bind, show nI i + (3 : Int32) = nI (i + 3) from nI_add i 3, pu_nm hX (by omega) d3 d4, pu_bind, hs0]
                generalize hy : 10 * (ch (i + 3) - 48) + (ch (i + 3 + 1) - 48) = y
                have hy99 : y ≤ 99 := by
                  have : ch (i + 3 + 1) ≤ 57 := d4.2
                  omega
                rcases Nat.lt_or_ge n 7 with hn7 | hn7
                · rw [pu_takeIn hn7, pu_bind, if_neg (show ¬ nI n = (7 : Int32) from fun q => absurd ((nI_eq (a := n) (b := 7) (by omega) (by omega)).mp q) (by omega)), pu_adds hn7 hs0, pu_bind]
                  dsimp only
                  rw [if_neg pu_10]
                  right
                  refine ⟨n + 1, _, bi, se, da, _, _, _, _, _, rfl, rfl, pu_R_add hn7 (by omega) (by omega) hy99 hR, v, hv, hse, ?_⟩
                  rw [pu_updn (by omega), pu_updn (by omega), pu_updn (by omega), pu_updn (by omega), pu_updn (by omega), pu_updn (by omega)]; exact h2
                · have : n = 7 := by omega
                  subst this
                  rw [pu_takeIn7, pu_bind, if_pos (show nI 7 = (7 : Int32) from rfl)]
                  left
                  exact ⟨(nI 7, th, bi, se, da, kd, fg, st, wa), by first | rfl | simp only [pu_bind, pu_z0, not_true_eq_false, ↓reduceIte], by first | rfl | simp only [pu_bind, ↓reduceIte]⟩
            · rw [if_neg (show ¬ nI (ch i) = (116 : Int32) from hneK 116 (by omega) q116), if_neg (show ¬ nI (ch i) = (116 : Int32) from hneK 116 (by omega) q116)]
              by_cases q119 : ch i = 119
              · rw [q119] at hall ⊢
                have d1 := hall (i + 1) (by omega) (by rw [show pu_db 119 = 2 from rfl]; omega)
                have d2 := hall (i + 2) (by omega) (by rw [show pu_db 119 = 2 from rfl]; omega)
                obtain ⟨v0, v1⟩ := m5 q119
                rw [if_pos (show nI 119 = (119 : Int32) from rfl), if_pos (show nI 119 = (119 : Int32) from rfl), nI_1, pu_dg hX (by omega) d1, pu_bind, show nI i + (2 : Int32) = nI (i + 2) from nI_add i 2, pu_dg hX (by omega) d2, pu_bind, v0, v1, pu_vl1, pu_vl1]
                unfold f_X9_newWarnings
                rcases pu_knows hn (nI (ch (i + 1) - 48)) hs0 with ⟨t, ht, et, k1, k2⟩ | ⟨k1, k2⟩
                · have h7 := hR.2.2.2.2.2.2.1
                  have hth : f_X4_isThere (nI t) th = some (if (pu_mk s n).testBit t = true then 1 else 0) := by rw [h7, pu_isThere _ (pu_mk_lt7 hn) t (by omega)]
                  have hbit := pu_mk_bit s n t ht
                  rw [k1, k2, pu_bind, if_neg pu_10, pu_bind, if_neg pu_10, et, hth, pu_isHere (show t < 7 by omega), pu_bind, pu_bind]
                  by_cases hh : s (8 + 5 * t) = 1
                  · rw [if_pos (hbit.mpr hh), if_pos hh, if_neg pu_10, if_neg pu_10]
                    by_cases hb1 : ch (i + 2) - 48 ≤ 1
                    · rw [if_pos (show nI (ch (i + 2) - 48) < 2 from nI_lt (b := 2) (by omega) (by omega)), if_pos (show nI (ch (i + 2) - 48) ≤ 1 from nI_le (b := 1) hb1 (by omega)), pu_g (k := t) (L := 7) (by omega) (by decide), pu_bind, pu_of3 t (by omega), pu_bind, pu_g (k := 7 + 5 * t) (L := 39) (by omega) (by decide), nI_clamp (n := t) (by omega), nI_clamp (n := 7 + 5 * t) (by omega), if_neg (show ¬ ¬ (1 : Int32) &&& 1 = 1 by decide)]
                      right
                      exact ⟨n, th, bi, se, da, kd, fg, st, _, _, rfl, rfl, pu_R_wa hR (by omega) (fun _ => hb1), v, hv, hse, by rw [pu_updn (by omega)]; exact h2⟩
                    · rw [if_neg (show ¬ nI (ch (i + 2) - 48) < 2 from nI_nlt (b := 2) (by omega) (by omega)), if_neg (show ¬ nI (ch (i + 2) - 48) ≤ 1 from nI_ge (a := 1) (by omega) (by omega))]
                      left
                      exact ⟨(nI n, th, bi, se, da, kd, fg, st, wa), by first | rfl | simp only [pu_bind, pu_z0, not_true_eq_false, ↓reduceIte], by first | rfl | simp only [pu_bind, ↓reduceIte]⟩
                  · rw [if_neg (fun q => hh (hbit.mp q)), if_neg hh]
                    left
                    exact ⟨(nI n, th, bi, se, da, kd, fg, st, wa), by first | rfl | simp only [pu_bind, pu_z0, not_true_eq_false, ↓reduceIte], by first | rfl | simp only [pu_bind, ↓reduceIte]⟩
                · rw [k1, k2]
                  left
                  exact ⟨(nI n, th, bi, se, da, kd, fg, st, wa), by first | rfl | simp only [pu_bind, pu_z0, not_true_eq_false, ↓reduceIte], by first | rfl | simp only [pu_bind, ↓reduceIte]⟩
              · exfalso
                have : pu_db (ch i) = 0 := by
                  unfold pu_db
                  rw [if_neg q98, if_neg q100, if_neg q102, if_neg q108, if_neg q115, if_neg q116, if_neg q119]
                omega
