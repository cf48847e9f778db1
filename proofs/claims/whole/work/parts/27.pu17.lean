/-! send and goes -/
theorem po_send {n : Nat} {th bi se da : Int32} {kd fg st wa s : Nat → Int32} (hQ : pu_Q 999 n se kd fg (th, bi, da, st, wa) s) (x1 x2 tn2 th2 bi2 se2 da2 : Int32) (kd2 fg2 st2 wa2 m : Nat → Int32) : ∃ a zc zr, f_X11_send x1 x2 (nI n) th bi se da kd fg st wa tn2 th2 bi2 se2 da2 kd2 fg2 st2 wa2 = some (a, zc) ∧ f_X12_send x1 x2 s m = some (a, zr) := by
  have hn : n ≤ 7 := hQ.1.1
  unfold f_X11_send f_X12_send
  rw [pu_within]
  rcases pu_late x1 with ⟨l1, l2⟩ | ⟨N, hN, rfl, l1, l2⟩
  · rw [l1, l2]
    exact ⟨-1, _, _, rfl, rfl⟩
  · rw [l1, l2, pu_bind, pu_bind, if_neg pu_10, if_neg pu_10, pu_within]
    rcases pu_in (l := 0) (h := 1) (by omega) (by omega) x2 (L := 0) (H := 1) rfl rfl with hi | ⟨k, -, hk, rfl, hi⟩
    · rw [hi, if_neg (show ¬ x2 = 0 from fun q => by rw [q] at hi; exact absurd hi (by decide)), if_neg (show ¬ x2 = 1 from fun q => by rw [q] at hi; exact absurd hi (by decide))]
      exact ⟨-1, _, _, rfl, rfl⟩
    · obtain ⟨g1, r', g2, g3, -⟩ := pu_goQ (N := N) (by omega) (pu_mind hQ kd2 fg2 st2 wa2 m)
      rw [hi, pu_bind, if_neg pu_10, pu_become, pu_bind]
      unfold f_X12_sendsAway f_X12_turnsRound f_X11_whomToSend f_X11_whoShouldTurn
      rw [pu_takes, g2, pu_bind, pu_bind, pu_hereIn g3.1, pu_bind, pu_bind]
      dsimp only at g1 ⊢
      rw [g1, pu_bind]
      have hm : pu_mk r' n < 128 := pu_mk_lt7 hn
      obtain ⟨cn, hcn, b1, b2⟩ := pu_cnt g3.1
      have hth : (pu_Cn (nI n) se (pu_m kd kd2) (pu_m fg fg2) N (th, bi, da, pu_m st st2, pu_m wa wa2)).1 = nI (pu_mk r' n) := g3.1.2.2.2.2.2.2.1
      rcases (by omega : k = 0 ∨ k = 1) with rfl | rfl
      · rw [if_pos (show nI 0 = (0 : Int32) from rfl), if_pos (show nI 0 = (0 : Int32) from rfl), hth]
        obtain ⟨e, zc, zr, i1, i2⟩ := pu_seloop hN hm hQ n 0 (1999 - n) (1999 - n) (-4) (-1) (nI n) (nI (pu_mk r' n)) (pu_Cn (nI n) se (pu_m kd kd2) (pu_m fg fg2) N (th, bi, da, pu_m st st2, pu_m wa wa2)).2.1 se (pu_Cn (nI n) se (pu_m kd kd2) (pu_m fg fg2) N (th, bi, da, pu_m st st2, pu_m wa wa2)).2.2.1 (pu_m kd kd2) (pu_m fg fg2) (pu_Cn (nI n) se (pu_m kd kd2) (pu_m fg fg2) N (th, bi, da, pu_m st st2, pu_m wa wa2)).2.2.2.1 (pu_Cn (nI n) se (pu_m kd kd2) (pu_m fg fg2) N (th, bi, da, pu_m st st2, pu_m wa wa2)).2.2.2.2 r' (by omega)
        rw [show 1999 - n + n + 1 = 2000 by omega, nI_0] at i1 i2
        refine ⟨e, zc, zr, ?_, ?_⟩
        · rw [i1]; rfl
        · rw [i2]; rfl
      · rw [if_neg (show ¬ nI 1 = (0 : Int32) by decide), if_neg (show ¬ nI 1 = (0 : Int32) by decide), if_pos (show nI 1 = (1 : Int32) from rfl), b1, b2, pu_bind, pu_bind]
        obtain ⟨e, zc, zr, i1, i2⟩ := pu_tuout hN hQ n 0 (1999 - n) (1999 - n) (-4) (nI cn) (nI n) (pu_Cn (nI n) se (pu_m kd kd2) (pu_m fg fg2) N (th, bi, da, pu_m st st2, pu_m wa wa2)).1 (pu_Cn (nI n) se (pu_m kd kd2) (pu_m fg fg2) N (th, bi, da, pu_m st st2, pu_m wa wa2)).2.1 se (pu_Cn (nI n) se (pu_m kd kd2) (pu_m fg fg2) N (th, bi, da, pu_m st st2, pu_m wa wa2)).2.2.1 (pu_m kd kd2) (pu_m fg fg2) (pu_Cn (nI n) se (pu_m kd kd2) (pu_m fg fg2) N (th, bi, da, pu_m st st2, pu_m wa wa2)).2.2.2.1 (pu_Cn (nI n) se (pu_m kd kd2) (pu_m fg fg2) N (th, bi, da, pu_m st st2, pu_m wa wa2)).2.2.2.2 r' (by omega)
        rw [show 1999 - n + n + 1 = 2000 by omega, nI_0] at i1 i2
        refine ⟨e, zc, zr, ?_, ?_⟩
        · rw [i1]; rfl
        · rw [i2]; rfl
/-- behind how many days he is gone, by the masks of the class's own days -/
def pu_gd (tn se : Int32) (kd fg : Nat → Int32) (t : Nat) : Nat → Nat → pu_S → Int32
  | 0, _, _ => -4
  | j + 1, i, x => if x.1.toNatClampNeg.testBit t = true then pu_gd tn se kd fg t j (i + 1) (pu_C tn se kd fg x).2 else nI i
theorem pu_gd_or (tn se : Int32) (kd fg : Nat → Int32) (t : Nat) : ∀ (j i : Nat) (x : pu_S), pu_gd tn se kd fg t j i x = -4 ∨ ∃ d, i ≤ d ∧ d < i + j ∧ pu_gd tn se kd fg t j i x = nI d := by
  intro j
  induction j with
  | zero => intro i x; exact Or.inl rfl
  | succ j ih =>
    intro i x
    unfold pu_gd
    by_cases h : x.1.toNatClampNeg.testBit t = true
    · rw [if_pos h]
      rcases ih (i + 1) (pu_C tn se kd fg x).2 with e | ⟨d, h1, h2, e⟩
      · exact Or.inl e
      · exact Or.inr ⟨d, by omega, by omega, e⟩
    · rw [if_neg h]
      exact Or.inr ⟨i, by omega, by omega, rfl⟩
theorem pu_gofloop {n t : Nat} (ht : t < n) {se : Int32} {kd fg : Nat → Int32} : ∀ (j i c2 B : Nat) (x : pu_S) (r : Nat → Int32), i + j = 61 → pu_Q B n se kd fg x r → ∃ zr, f_X12_goesOf_13 (c2 + j + 1) (nI t) (nI i) r = some (pu_gd (nI n) se kd fg t j i x, zr) := by
  intro j
  induction j with
  | zero =>
    intro i c2 B x r h hQ
    have : i = 61 := by omega
    subst this
    exact ⟨_, rfl⟩
  | succ j ih =>
    intro i c2 B x r h hQ
    have h60 : ¬ (60 : Int32) < nI i := nI_nlt (a := 60) (b := i) (by omega) (by omega)
    have hn : n ≤ 7 := hQ.1.1
    have hm : pu_mk r n < 128 := pu_mk_lt7 hn
    have hth : x.1 = nI (pu_mk r n) := hQ.1.2.2.2.2.2.2.1
    have hbit := pu_mk_bit r n t ht
    obtain ⟨e1, r', e2, e3, -⟩ := pu_day1Q hQ
    obtain ⟨zr, g2⟩ := ih (i + 1) c2 (B + 1) _ r' (by omega) e3
    by_cases hh : r (8 + 5 * t) = 1
    · refine ⟨zr, ?_⟩
      unfold pu_gd
      rw [hth, nI_clamp (by omega), if_pos (hbit.mpr hh), ← g2]
      show f_X12_goesOf_13s (f_X12_goesOf_13 (c2 + j + 1)) _ _ _ = _
      unfold f_X12_goesOf_13s
      rw [if_neg h60, pu_isHere (by omega), if_pos hh, pu_bind, if_neg pu_10, e2, pu_bind, nI_1]
    · refine ⟨r, ?_⟩
      unfold pu_gd
      rw [hth, nI_clamp (by omega), if_neg (fun q => hh (hbit.mp q))]
      show f_X12_goesOf_13s (f_X12_goesOf_13 (c2 + j + 1)) _ _ _ = _
      unfold f_X12_goesOf_13s
      rw [if_neg h60, pu_isHere (by omega), if_neg hh, pu_bind, if_pos rfl]
theorem pu_ntz : ∀ w, w < 128 → w = 0 ∨ ∃ t, t < 7 ∧ f_J6_numberOfTrailingZeros_0f7a4 (nI w) = some (nI t) ∧ w.testBit t = true ∧ ∀ u, u < t → w.testBit u = false := by decide +kernel
theorem pu_less : ∀ a, a < 128 → ∀ b, b < 128 → (nI a &&& (nI b ^^^ (-1 : Int32))) = nI (a ^^^ (a &&& b)) := by decide +kernel
theorem pu_lessbit (a b t : Nat) : (a ^^^ (a &&& b)).testBit t = (a.testBit t && !b.testBit t) := by
  rw [Nat.testBit_xor, Nat.testBit_and]
  cases a.testBit t <;> cases b.testBit t <;> rfl
theorem pu_xlt {a b : Nat} (ha : a < 128) : a ^^^ (a &&& b) < 128 := Nat.xor_lt_two_pow (n := 7) ha (Nat.lt_of_le_of_lt Nat.and_le_left ha)
theorem pu_mk_bit_lt {r : Nat → Int32} {n t : Nat} (h : (pu_mk r n).testBit t = true) : t < n := by
  rcases Nat.lt_or_ge t n with q | q
  · exact q
  · rw [pu_mk_hi r q] at h; cases h
/-- the class's search for the first to go -/
theorem pu_fgloop {n M : Nat} (hM : M < 128) {se : Int32} {kd fg : Nat → Int32} : ∀ (j i c B : Nat) (x : pu_S) (r : Nat → Int32), i + j = 61 → pu_Q B n se kd fg x r → x.1 = nI M → ∃ e zc, f_X11_firstToGo_13 (c + j + 1) (nI i) (nI M) (nI n) x.1 x.2.1 se x.2.2.1 kd fg x.2.2.2.1 x.2.2.2.2 = some (e, zc) ∧
    ((e = -4 ∧ ∀ t, M.testBit t = true → pu_gd (nI n) se kd fg t j i (pu_C (nI n) se kd fg x).2 = -4) ∨ ∃ t0 d, t0 < n ∧ M.testBit t0 = true ∧ d ≤ 60 ∧ e = nI t0 ∧ pu_gd (nI n) se kd fg t0 j i (pu_C (nI n) se kd fg x).2 = nI d ∧ ∀ t, M.testBit t = true → pu_gd (nI n) se kd fg t j i (pu_C (nI n) se kd fg x).2 = -4 ∨ ∃ d', d ≤ d' ∧ d' ≤ 60 ∧ pu_gd (nI n) se kd fg t j i (pu_C (nI n) se kd fg x).2 = nI d' ∧ (t < t0 → d < d')) := by
  intro j
  induction j with
  | zero =>
    intro i c B x r h hQ hx
    have : i = 61 := by omega
    subst this
    exact ⟨-4, _, rfl, Or.inl ⟨rfl, fun _ _ => rfl⟩⟩
  | succ j ih =>
    intro i c B x r h hQ hx
    have h60 : ¬ (60 : Int32) < nI i := nI_nlt (a := 60) (b := i) (by omega) (by omega)
    have hn : n ≤ 7 := hQ.1.1
    have hMr : M = pu_mk r n := by
      have : nI M = nI (pu_mk r n) := hx.symm.trans hQ.1.2.2.2.2.2.2.1
      exact (nI_eq (by omega) (by have := pu_mk_lt7 (r := r) hn; omega)).mp this
    obtain ⟨e1, r', e2, e3, e4⟩ := pu_day1Q hQ
    have hm' : pu_mk r' n < 128 := pu_mk_lt7 hn
    have hth' : (pu_C (nI n) se kd fg x).2.1 = nI (pu_mk r' n) := e3.1.2.2.2.2.2.2.1
    have hC : f_X11_firstToGo_13 (c + (j + 1) + 1) (nI i) (nI M) (nI n) x.1 x.2.1 se x.2.2.1 kd fg x.2.2.2.1 x.2.2.2.2 = f_X11_firstToGo_13s (f_X11_firstToGo_13 (c + j + 1)) (nI i) (nI M) (nI n) x.1 x.2.1 se x.2.2.1 kd fg x.2.2.2.1 x.2.2.2.2 := rfl
    unfold f_X11_firstToGo_13s at hC
    rw [if_neg h60, e1, pu_bind, hth', pu_less M hM _ hm'] at hC
    have hsub : ∀ t, (pu_mk r' n).testBit t = true → M.testBit t = true := fun t q => by
      have htn := pu_mk_bit_lt q
      rw [hMr]
      exact (pu_mk_bit r n t htn).mpr (e4 t ((pu_mk_bit r' n t htn).mp q))
    have hcl : (pu_C (nI n) se kd fg x).2.1.toNatClampNeg = pu_mk r' n := by rw [hth', nI_clamp (by omega)]
    by_cases hz : M ^^^ (M &&& pu_mk r' n) = 0
    · have hMM : M = pu_mk r' n := by
        apply Nat.eq_of_testBit_eq
        intro t
        have h1 := pu_lessbit M (pu_mk r' n) t
        rw [hz, Nat.zero_testBit] at h1
        have h2 := hsub t
        cases hq : (pu_mk r' n).testBit t with
        | true => exact h2 hq
        | false => rw [hq] at h1; cases hq2 : M.testBit t with
          | false => rfl
          | true => rw [hq2] at h1; cases h1
      have hx' : (pu_C (nI n) se kd fg x).2.1 = nI M := by rw [hth', ← hMM]
      rw [if_pos (show nI (M ^^^ (M &&& pu_mk r' n)) = (0 : Int32) by rw [hz]; rfl), nI_1, ← hth'] at hC
      obtain ⟨e, zc, i1, i2⟩ := ih (i + 1) c (B + 1) _ r' (by omega) e3 hx'
      have hgd : ∀ t, M.testBit t = true → pu_gd (nI n) se kd fg t (j + 1) i (pu_C (nI n) se kd fg x).2 = pu_gd (nI n) se kd fg t j (i + 1) (pu_C (nI n) se kd fg (pu_C (nI n) se kd fg x).2).2 := fun t q => by
        have q : (pu_mk r' n).testBit t = true := by rw [← hMM]; exact q
        show (if _ then _ else _) = _
        rw [hcl, if_pos q]
      refine ⟨e, zc, hC.trans i1, ?_⟩
      rcases i2 with ⟨e0, ea⟩ | ⟨t0, d, a1, a2, a3, a4, a5, a6⟩
      · exact Or.inl ⟨e0, fun t q => by rw [hgd t q]; exact ea t q⟩
      · exact Or.inr ⟨t0, d, a1, a2, a3, a4, by rw [hgd t0 a2]; exact a5, fun t q => by rw [hgd t q]; exact a6 t q⟩
    · rw [if_neg (nI_ne0 (by omega) (by have := pu_xlt (b := pu_mk r' n) hM; omega))] at hC
      rcases pu_ntz _ (pu_xlt (b := pu_mk r' n) hM) with h0 | ⟨t0, ht0, n1, n2, n3⟩
      · exact absurd h0 hz
      · rw [n1, pu_bind] at hC
        rw [pu_lessbit] at n2
        have hb1 : M.testBit t0 = true := by cases hq : M.testBit t0 with
          | true => rfl
          | false => rw [hq] at n2; cases n2
        have hb2 : ¬ (pu_mk r' n).testBit t0 = true := fun q => by rw [q, hb1] at n2; cases n2
        refine ⟨_, _, hC, Or.inr ⟨t0, i, ?_, hb1, by omega, rfl, ?_, fun t q => ?_⟩⟩
        · rw [hMr] at hb1; exact pu_mk_bit_lt hb1
        · show (if _ then _ else _) = _
          rw [hcl, if_neg hb2]
        · by_cases hbt : (pu_mk r' n).testBit t = true
          · have hgd : pu_gd (nI n) se kd fg t (j + 1) i (pu_C (nI n) se kd fg x).2 = pu_gd (nI n) se kd fg t j (i + 1) (pu_C (nI n) se kd fg (pu_C (nI n) se kd fg x).2).2 := by
              show (if _ then _ else _) = _
              rw [hcl, if_pos hbt]
            rw [hgd]
            rcases pu_gd_or (nI n) se kd fg t j (i + 1) (pu_C (nI n) se kd fg (pu_C (nI n) se kd fg x).2).2 with q1 | ⟨d', q1, q2, q3⟩
            · exact Or.inl q1
            · exact Or.inr ⟨d', by omega, by omega, q3, fun _ => by omega⟩
          · refine Or.inr ⟨i, by omega, by omega, ?_, fun hlt => ?_⟩
            · show (if _ then _ else _) = _
              rw [hcl, if_neg hbt]
            · have := n3 t hlt
              rw [pu_lessbit, q] at this
              cases hq : (pu_mk r' n).testBit t with
              | true => exact absurd hq hbt
              | false => rw [hq] at this; cases this
/-- the reference's search: nobody beats what it has -/
theorem pu_fg2 {n : Nat} {s : Nat → Int32} (hn : n ≤ 7) (hs0 : s 0 = nI n) (V : Nat → Int32) (hV : ∀ t, t < n → s (8 + 5 * t) = 1 → ∀ m, ∃ m', f_X12_goesOf (nI t) s m = some (V t, m')) (e b : Int32) : ∀ (j t c : Nat) (m : Nat → Int32), t + j = n → (∀ u, t ≤ u → u < n → s (8 + 5 * u) = 1 → V u < 0 ∨ ¬ V u < b) → ∃ m', f_X12_firstGoes_8 (c + j + 1) e b (nI t) s m = some (e, m') := by
  intro j
  induction j with
  | zero =>
    intro t c m h _
    have : t = n := by omega
    subst this
    refine ⟨m, ?_⟩
    show f_X12_firstGoes_8s _ _ _ _ _ _ = _
    unfold f_X12_firstGoes_8s
    rw [pu_c0, hs0, if_pos (pu_refl_n t)]
  | succ j ih =>
    intro t c m h hall
    have htn : t < n := by omega
    have hlt : ¬ nI n ≤ nI t := pu_lt htn hn
    have hD : f_X12_firstGoes_8 (c + (j + 1) + 1) e b (nI t) s m = f_X12_firstGoes_8s (f_X12_firstGoes_8 (c + j + 1)) e b (nI t) s m := rfl
    unfold f_X12_firstGoes_8s at hD
    rw [pu_c0, hs0, if_neg hlt, pu_isHere (show t < 7 by omega)] at hD
    by_cases hh : s (8 + 5 * t) = 1
    · obtain ⟨m1, hm1⟩ := hV t htn hh m
      rw [if_pos hh, pu_bind, if_neg pu_10, hm1, pu_bind] at hD
      unfold f_X12_firstGoes_39 at hD
      obtain ⟨m', i1⟩ := ih (t + 1) c m1 (by omega) (fun u q1 q2 => hall u (by omega) q2)
      refine ⟨m', hD.trans ?_⟩
      rw [nI_1]
      rcases hall t (by omega) htn hh with q | q
      · rw [if_pos q]; exact i1
      · by_cases q0 : V t < 0
        · rw [if_pos q0]; exact i1
        · rw [if_neg q0, if_neg q]; exact i1
    · rw [if_neg hh, pu_bind, if_pos rfl] at hD
      obtain ⟨m', i1⟩ := ih (t + 1) c m (by omega) (fun u q1 q2 => hall u (by omega) q2)
      refine ⟨m', hD.trans ?_⟩
      unfold f_X12_firstGoes_39
      rw [if_pos (by decide), nI_1]
      exact i1
/-- the reference's search: up to the first who has the least -/
theorem pu_fg1 {n t0 d : Nat} {s : Nat → Int32} (hn : n ≤ 7) (ht0 : t0 < n) (hd : d ≤ 60) (hs0 : s 0 = nI n) (V : Nat → Int32) (hV : ∀ t, t < n → s (8 + 5 * t) = 1 → ∀ m, ∃ m', f_X12_goesOf (nI t) s m = some (V t, m')) (hall : ∀ u, u < t0 → s (8 + 5 * u) = 1 → V u < 0 ∨ nI d < V u) : ∀ (j t c : Nat) (e b : Int32) (m : Nat → Int32), t + j = t0 → nI d < b → ∃ e' b' m', f_X12_firstGoes_8 (c + j) e b (nI t) s m = f_X12_firstGoes_8 c e' b' (nI t0) s m' ∧ nI d < b' := by
  intro j
  induction j with
  | zero =>
    intro t c e b m h hb
    have : t = t0 := by omega
    subst this
    exact ⟨e, b, m, rfl, hb⟩
  | succ j ih =>
    intro t c e b m h hb
    have htn : t < n := by omega
    have hlt : ¬ nI n ≤ nI t := pu_lt htn hn
    have hD : f_X12_firstGoes_8 (c + (j + 1)) e b (nI t) s m = f_X12_firstGoes_8s (f_X12_firstGoes_8 (c + j)) e b (nI t) s m := rfl
    unfold f_X12_firstGoes_8s at hD
    rw [pu_c0, hs0, if_neg hlt, pu_isHere (show t < 7 by omega)] at hD
    by_cases hh : s (8 + 5 * t) = 1
    · obtain ⟨m1, hm1⟩ := hV t htn hh m
      rw [if_pos hh, pu_bind, if_neg pu_10, hm1, pu_bind] at hD
      unfold f_X12_firstGoes_39 at hD
      rw [nI_1] at hD
      by_cases q0 : V t < 0
      · rw [if_pos q0] at hD
        obtain ⟨e', b', m', i1, i2⟩ := ih (t + 1) c e b m1 (by omega) hb
        exact ⟨e', b', m', hD.trans i1, i2⟩
      · rw [if_neg q0] at hD
        by_cases q1 : V t < b
        · rw [if_pos q1] at hD
          rcases hall t (by omega) hh with q | q
          · exact absurd q q0
          · obtain ⟨e', b', m', i1, i2⟩ := ih (t + 1) c (nI t) (V t) m1 (by omega) q
            exact ⟨e', b', m', hD.trans i1, i2⟩
        · rw [if_neg q1] at hD
          obtain ⟨e', b', m', i1, i2⟩ := ih (t + 1) c e b m1 (by omega) hb
          exact ⟨e', b', m', hD.trans i1, i2⟩
    · rw [if_neg hh, pu_bind, if_pos rfl] at hD
      unfold f_X12_firstGoes_39 at hD
      rw [if_pos (by decide), nI_1] at hD
      obtain ⟨e', b', m', i1, i2⟩ := ih (t + 1) c e b m (by omega) hb
      exact ⟨e', b', m', hD.trans i1, i2⟩
theorem pu_first {n : Nat} {th bi se da : Int32} {kd fg st wa s : Nat → Int32} (hQ : pu_Q 999 n se kd fg (th, bi, da, st, wa) s) (tn2 th2 bi2 se2 da2 : Int32) (kd2 fg2 st2 wa2 m : Nat → Int32) : ∃ a zc zr, f_X11_firstToGo (nI n) th bi se da kd fg st wa tn2 th2 bi2 se2 da2 kd2 fg2 st2 wa2 = some (a, zc) ∧ f_X12_firstGoes s m = some (a, zr) := by
  have hn : n ≤ 7 := hQ.1.1
  have hs0 : s 0 = nI n := hQ.1.2.1
  have hM : pu_mk s n < 128 := pu_mk_lt7 hn
  have hth : th = nI (pu_mk s n) := hQ.1.2.2.2.2.2.2.1
  obtain ⟨e, zc, i1, i2⟩ := pu_fgloop hM 60 1 1939 999 _ _ (by omega) (pu_mind hQ kd2 fg2 st2 wa2 m) hth
  dsimp only at i1
  have hcl : th.toNatClampNeg = pu_mk s n := by rw [hth, nI_clamp (by omega)]
  have hV : ∀ t, t < n → s (8 + 5 * t) = 1 → ∀ m, ∃ m', f_X12_goesOf (nI t) s m = some (pu_gd (nI n) se (pu_m kd kd2) (pu_m fg fg2) t 60 1 (pu_C (nI n) se (pu_m kd kd2) (pu_m fg fg2) (th, bi, da, pu_m st st2, pu_m wa wa2)).2, m') := by
    intro t ht hh m
    obtain ⟨zr, g⟩ := pu_gofloop ht 61 0 1938 999 _ _ (by omega) (pu_mind hQ kd2 fg2 st2 wa2 m)
    refine ⟨zr, ?_⟩
    unfold f_X12_goesOf
    rw [pu_copies, pu_bind]
    refine Eq.trans g ?_
    show some ((if _ then _ else _), zr) = _
    rw [hcl, if_pos ((pu_mk_bit s n t ht).mpr hh)]
  have hC : f_X11_firstToGo (nI n) th bi se da kd fg st wa tn2 th2 bi2 se2 da2 kd2 fg2 st2 wa2 = some (e, zc) := by
    unfold f_X11_firstToGo
    rw [pu_become, pu_bind]
    rw [← hth] at i1
    exact i1
  rcases i2 with ⟨e0, ea⟩ | ⟨t0, d, a1, a2, a3, a4, a5, a6⟩
  · obtain ⟨m', g⟩ := pu_fg2 hn hs0 _ hV (-4) 1000000000 n 0 (1999 - n) m (by omega) (fun u _ hu hh => Or.inl (by rw [ea u ((pu_mk_bit s n u hu).mpr hh)]; decide))
    rw [show 1999 - n + n + 1 = 2000 by omega, nI_0] at g
    rw [e0] at hC
    exact ⟨-4, zc, m', hC, g⟩
  · have hd9 : nI d < (1000000000 : Int32) := nI_lt (b := 1000000000) (by omega) (by omega)
    obtain ⟨e', b', m1, g1, g2⟩ := pu_fg1 hn a1 a3 hs0 _ hV (fun u hu hh => by
      rcases a6 u ((pu_mk_bit s n u (by omega)).mpr hh) with q | ⟨d', q1, q2, q3, q4⟩
      · left; rw [q]; decide
      · right; rw [q3]; exact nI_lt (q4 hu) (by omega)) t0 0 (2000 - t0) (-4) 1000000000 m (by omega) hd9
    rw [show 2000 - t0 + t0 = 2000 by omega, nI_0] at g1
    have hh0 : s (8 + 5 * t0) = 1 := (pu_mk_bit s n t0 a1).mp a2
    obtain ⟨m2, hm2⟩ := hV t0 a1 hh0 m1
    obtain ⟨m3, g3⟩ := pu_fg2 hn hs0 _ hV (nI t0) (nI d) (n - (t0 + 1)) (t0 + 1) (1999 - n) m2 (by omega) (fun u _ hu hh => by
      rcases a6 u ((pu_mk_bit s n u (by omega)).mpr hh) with q | ⟨d', q1, q2, q3, q4⟩
      · left; rw [q]; decide
      · right; rw [q3]; exact nI_nlt (by omega) (by omega))
    refine ⟨nI t0, zc, m3, by rw [hC, a4], ?_⟩
    show f_X12_firstGoes_8 2000 (-4) 1000000000 0 s m = _
    rw [g1, ← g3, show 2000 - t0 = (1999 - n + (n - (t0 + 1)) + 1) + 1 by omega]
    show f_X12_firstGoes_8s (f_X12_firstGoes_8 (1999 - n + (n - (t0 + 1)) + 1)) _ _ _ _ _ = _
    unfold f_X12_firstGoes_8s
    rw [pu_c0, hs0, if_neg (pu_lt a1 hn), pu_isHere (show t0 < 7 by omega), if_pos hh0, pu_bind, if_neg pu_10, hm2, pu_bind]
    unfold f_X12_firstGoes_39
    dsimp only
    rw [a5, if_neg (nI_pos (by omega)), if_pos g2, nI_1]
theorem po_goes {n : Nat} {th bi se da : Int32} {kd fg st wa s : Nat → Int32} (hQ : pu_Q 999 n se kd fg (th, bi, da, st, wa) s) (x1 tn2 th2 bi2 se2 da2 : Int32) (kd2 fg2 st2 wa2 m : Nat → Int32) : ∃ a zc zr, f_X11_goes x1 (nI n) th bi se da kd fg st wa tn2 th2 bi2 se2 da2 kd2 fg2 st2 wa2 = some (a, zc) ∧ f_X12_goes x1 s m = some (a, zr) := by
  unfold f_X11_goes f_X12_goes
  by_cases h1 : x1 = -1
  · rw [if_pos h1, if_pos h1]
    obtain ⟨a, zc, zr, g1, g2⟩ := pu_first hQ tn2 th2 bi2 se2 da2 kd2 fg2 st2 wa2 m
    rw [g1, g2]
    exact ⟨a, zc, zr, rfl, rfl⟩
  · rw [if_neg h1, if_neg h1]
    rcases pu_knows hQ.1.1 x1 hQ.1.2.1 with ⟨t, ht, rfl, k1, k2⟩ | ⟨k1, k2⟩
    · obtain ⟨a, zc, zr, g1, g2⟩ := pu_goesloop ht 61 0 1938 1938 999 _ _ (by omega) (pu_mind hQ kd2 fg2 st2 wa2 m)
      rw [k1, k2, pu_bind, pu_bind, if_neg pu_10, if_neg pu_10]
      refine ⟨a, zc, zr, ?_, ?_⟩
      · unfold f_X11_daysUntilNoneOf
        rw [pu_become, pu_bind]
        dsimp only at g1 ⊢
        rw [show f_X11_daysUntilNoneOf_13 2000 ((1 : Int32) <<< (nI t &&& 31)) (0 : Int32) (nI n) th bi se da (pu_m kd kd2) (pu_m fg fg2) (pu_m st st2) (pu_m wa wa2) = _ from g1]
        rfl
      · unfold f_X12_goesOf
        rw [pu_copies, pu_bind, show f_X12_goesOf_13 2000 (nI t) (0 : Int32) (pu_cp s m) = _ from g2]
        rfl
    · rw [k1, k2]
      exact ⟨-1, _, _, rfl, rfl⟩
