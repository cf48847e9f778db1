/-! whom to send, who should turn -/
theorem pu_bits2 : ∀ m, m < 128 → ∃ c, c < 8 ∧ f_X12_bits (nI m) = some (nI c) ∧ f_J6_bitCount_0f7a4 (nI m) = some (nI c) := by decide +kernel
theorem pu_seloop {n N mk : Nat} (hN : N ≤ 60) (hmk : mk < 128) {th bi se da : Int32} {kd fg st wa s : Nat → Int32} (hQ : pu_Q 999 n se kd fg (th, bi, da, st, wa) s) : ∀ (j t c c2 : Nat) (f b : Int32) (tn2 th2 bi2 se2 da2 : Int32) (kd2 fg2 st2 wa2 m : Nat → Int32), t + j = n → ∃ e zc zr, f_X11_whomToSend_9 (c + j + 1) (nI N) (nI mk) f b (nI t) (nI n) th bi se da kd fg st wa tn2 th2 bi2 se2 da2 kd2 fg2 st2 wa2 = some (e, zc) ∧ f_X12_sendsAway_22 (c2 + j + 1) (nI N) (nI mk) f b (nI t) s m = some (e, zr) := by
  have hn : n ≤ 7 := hQ.1.1
  have hth : th = nI (pu_mk s n) := hQ.1.2.2.2.2.2.2.1
  intro j
  induction j with
  | zero =>
    intro t c c2 f b tn2 th2 bi2 se2 da2 kd2 fg2 st2 wa2 m h
    have : t = n := by omega
    subst this
    refine ⟨f, (tn2, th2, bi2, se2, da2, kd2, fg2, st2, wa2), m, ?_, ?_⟩
    · show f_X11_whomToSend_9s _ _ _ _ _ _ _ _ _ _ _ _ _ _ _ _ _ _ _ _ _ _ _ _ = _
      unfold f_X11_whomToSend_9s
      rw [if_pos (pu_refl_n t)]
    · show f_X12_sendsAway_22s _ _ _ _ _ _ _ _ = _
      unfold f_X12_sendsAway_22s
      rw [pu_c0, hQ.1.2.1, if_pos (pu_refl_n t)]
  | succ j ih =>
    intro t c c2 f b tn2 th2 bi2 se2 da2 kd2 fg2 st2 wa2 m h
    have htn : t < n := by omega
    have ht7 : t < 7 := by omega
    have hlt : ¬ nI n ≤ nI t := pu_lt htn hn
    have hbit := pu_mk_bit s n t htn
    have hC : f_X11_whomToSend_9 (c + (j + 1) + 1) (nI N) (nI mk) f b (nI t) (nI n) th bi se da kd fg st wa tn2 th2 bi2 se2 da2 kd2 fg2 st2 wa2 = f_X11_whomToSend_9s (f_X11_whomToSend_9 (c + j + 1)) (nI N) (nI mk) f b (nI t) (nI n) th bi se da kd fg st wa tn2 th2 bi2 se2 da2 kd2 fg2 st2 wa2 := rfl
    have hD : f_X12_sendsAway_22 (c2 + (j + 1) + 1) (nI N) (nI mk) f b (nI t) s m = f_X12_sendsAway_22s (f_X12_sendsAway_22 (c2 + j + 1)) (nI N) (nI mk) f b (nI t) s m := rfl
    unfold f_X11_whomToSend_9s f_X4_sendAway at hC
    unfold f_X12_sendsAway_22s at hD
    rw [if_neg hlt] at hC
    rw [pu_c0, hQ.1.2.1, if_neg hlt, pu_isHere ht7] at hD
    have hth2 : f_X4_isThere (nI t) th = some (if (pu_mk s n).testBit t = true then 1 else 0) := by rw [hth, pu_isThere _ (pu_mk_lt7 hn) t ht7]
    rw [hth2] at hC
    by_cases hh : s (8 + 5 * t) = 1
    · rw [if_pos (hbit.mpr hh), pu_bind, if_neg pu_10, pu_become, pu_bind] at hC
      rw [if_pos hh, pu_bind, if_neg pu_10, pu_copies, pu_bind, pu_of4 t ht7, pu_bind, pu_g (by omega) (by decide), nI_clamp (by omega)] at hD
      obtain ⟨hR, u0, hu0, hse, h2⟩ := pu_mind hQ kd2 fg2 st2 wa2 m
      have hM : pu_Q 999 n se (pu_m kd kd2) (pu_m fg fg2) (th &&& (((1 : Int32) <<< (nI t &&& 31)) ^^^ (-1 : Int32)), bi, da, pu_m st st2, pu_m wa wa2) (upd (pu_cp s m) (8 + 5 * t) 0) := ⟨pu_R_go hR htn, u0, hu0, hse, by rw [pu_updn (by omega)]; exact h2⟩
      obtain ⟨g1, r', g2, g3, -⟩ := pu_goQ (N := N) (by omega) hM
      obtain ⟨cn, hcn, b1, b2⟩ := pu_cnt g3.1
      have hle128 : mk - (if mk.testBit t = true then 2 ^ t else 0) < 128 := by omega
      obtain ⟨cm, hcm, q1, q2⟩ := pu_bits2 _ hle128
      dsimp only at g1 hC
      rw [pu_bind, g1, pu_bind, b2, pu_bind, pu_clear mk hmk t ht7, q2, pu_bind] at hC
      rw [g2, pu_bind, pu_hereIn g3.1, pu_bind, b1, pu_bind, pu_clear mk hmk t ht7, q1, pu_bind] at hD
      rw [nI_1] at hC hD
      by_cases c1 : nI cn ≤ nI cm
      · rw [if_pos c1] at hC hD
        obtain ⟨e, zc, zr, i1, i2⟩ := ih (t + 1) c c2 f b (nI n) _ _ se _ (pu_m kd kd2) (pu_m fg fg2) _ _ r' (by omega)
        exact ⟨e, zc, zr, hC.trans i1, hD.trans i2⟩
      · rw [if_neg c1] at hC hD
        by_cases c3 : nI cn ≤ b
        · rw [if_pos c3] at hC
          rw [if_neg (Int32.not_lt.mpr c3)] at hD
          obtain ⟨e, zc, zr, i1, i2⟩ := ih (t + 1) c c2 f b (nI n) _ _ se _ (pu_m kd kd2) (pu_m fg fg2) _ _ r' (by omega)
          exact ⟨e, zc, zr, hC.trans i1, hD.trans i2⟩
        · rw [if_neg c3] at hC
          rw [if_pos (Int32.not_le.mp c3)] at hD
          obtain ⟨e, zc, zr, i1, i2⟩ := ih (t + 1) c c2 (nI t) (nI cn) (nI n) _ _ se _ (pu_m kd kd2) (pu_m fg fg2) _ _ r' (by omega)
          exact ⟨e, zc, zr, hC.trans i1, hD.trans i2⟩
    · rw [if_neg (fun q => hh (hbit.mp q)), pu_bind, if_pos rfl, nI_1] at hC
      rw [if_neg hh, pu_bind, if_pos rfl, nI_1] at hD
      obtain ⟨e, zc, zr, i1, i2⟩ := ih (t + 1) c c2 f b tn2 th2 bi2 se2 da2 kd2 fg2 st2 wa2 m (by omega)
      exact ⟨e, zc, zr, hC.trans i1, hD.trans i2⟩
theorem pu_tuin {n N a : Nat} (hN : N ≤ 60) (ha : a < n) {th bi se da : Int32} {kd fg st wa s : Nat → Int32} (hQ : pu_Q 999 n se kd fg (th, bi, da, st, wa) s)
    (kC : Int32 → Int32 → Int32 → Int32 → Int32 → Int32 → Int32 → Int32 → Int32 → (Nat → Int32) → (Nat → Int32) → (Nat → Int32) → (Nat → Int32) → Int32 → Int32 → Int32 → Int32 → Int32 → (Nat → Int32) → (Nat → Int32) → (Nat → Int32) → (Nat → Int32) → Option (Int32 × Int32 × Int32 × Int32 × Int32 × Int32 × (Nat → Int32) × (Nat → Int32) × (Nat → Int32) × (Nat → Int32))) (kR : Int32 → Int32 → Int32 → Int32 → (Nat → Int32) → (Nat → Int32) → Option (Int32 × (Nat → Int32))) : ∀ (j b c c2 : Nat) (f w : Int32) (tn2 th2 bi2 se2 da2 : Int32) (kd2 fg2 st2 wa2 m : Nat → Int32), a < b → b + j = n → ∃ (f' w' tn3 th3 bi3 se3 da3 : Int32) (kd3 fg3 st3 wa3 m3 : Nat → Int32), f_X11_whoShouldTurn_27 kC (c + j + 1) (nI N) f w (nI a) (nI b) (nI n) th bi se da kd fg st wa tn2 th2 bi2 se2 da2 kd2 fg2 st2 wa2 = kC (nI N) f' w' (nI a + 1) (nI n) th bi se da kd fg st wa tn3 th3 bi3 se3 da3 kd3 fg3 st3 wa3 ∧ f_X12_turnsRound_39 kR (c2 + j + 1) (nI N) w f (nI a) (nI b) s m = kR (nI N) w' f' (nI a + 1) s m3 := by
  have hn : n ≤ 7 := hQ.1.1
  have hth : th = nI (pu_mk s n) := hQ.1.2.2.2.2.2.2.1
  intro j
  induction j with
  | zero =>
    intro b c c2 f w tn2 th2 bi2 se2 da2 kd2 fg2 st2 wa2 m hab h
    have : b = n := by omega
    subst this
    refine ⟨f, w, tn2, th2, bi2, se2, da2, kd2, fg2, st2, wa2, m, ?_, ?_⟩
    · show f_X11_whoShouldTurn_27s _ _ _ _ _ _ _ _ _ _ _ _ _ _ _ _ _ _ _ _ _ _ _ _ _ = _
      unfold f_X11_whoShouldTurn_27s
      rw [if_pos (pu_refl_n b)]
    · show f_X12_turnsRound_39s _ _ _ _ _ _ _ _ _ = _
      unfold f_X12_turnsRound_39s
      rw [pu_c0, hQ.1.2.1, if_pos (pu_refl_n b)]
  | succ j ih =>
    intro b c c2 f w tn2 th2 bi2 se2 da2 kd2 fg2 st2 wa2 m hab h
    have hbn : b < n := by omega
    have hlt : ¬ nI n ≤ nI b := pu_lt hbn hn
    have hba := pu_mk_bit s n a ha
    have hbb := pu_mk_bit s n b hbn
    have hC : f_X11_whoShouldTurn_27 kC (c + (j + 1) + 1) (nI N) f w (nI a) (nI b) (nI n) th bi se da kd fg st wa tn2 th2 bi2 se2 da2 kd2 fg2 st2 wa2 = f_X11_whoShouldTurn_27s kC (f_X11_whoShouldTurn_27 kC (c + j + 1)) (nI N) f w (nI a) (nI b) (nI n) th bi se da kd fg st wa tn2 th2 bi2 se2 da2 kd2 fg2 st2 wa2 := rfl
    have hD : f_X12_turnsRound_39 kR (c2 + (j + 1) + 1) (nI N) w f (nI a) (nI b) s m = f_X12_turnsRound_39s kR (f_X12_turnsRound_39 kR (c2 + j + 1)) (nI N) w f (nI a) (nI b) s m := rfl
    unfold f_X11_whoShouldTurn_27s at hC
    unfold f_X12_turnsRound_39s at hD
    have hta : f_X4_isThere (nI a) th = some (if (pu_mk s n).testBit a = true then 1 else 0) := by rw [hth, pu_isThere _ (pu_mk_lt7 hn) a (by omega)]
    have htb : f_X4_isThere (nI b) th = some (if (pu_mk s n).testBit b = true then 1 else 0) := by rw [hth, pu_isThere _ (pu_mk_lt7 hn) b (by omega)]
    rw [if_neg hlt, hta, htb] at hC
    rw [pu_c0, hQ.1.2.1, if_neg hlt, pu_isHere (show a < 7 by omega), pu_isHere (show b < 7 by omega)] at hD
    by_cases ca : s (8 + 5 * a) = 1
    · rw [if_pos (hba.mpr ca), pu_bind, if_neg pu_10] at hC
      rw [if_pos ca, pu_bind, if_neg pu_10] at hD
      by_cases cb : s (8 + 5 * b) = 1
      · obtain ⟨hR, u0, hu0, hse, h2⟩ := pu_mind hQ kd2 fg2 st2 wa2 m
        obtain ⟨-, -, a3, -, ⟨-, -, ⟨u, hu, eu⟩, -, -⟩⟩ := hQ.1.2.2.2.2.2.2.2 a ha
        obtain ⟨-, -, b3, -, ⟨-, -, ⟨q, hq, eq⟩, -, -⟩⟩ := hQ.1.2.2.2.2.2.2.2 b hbn
        have a3 : st a = s (6 + 5 * a) := a3
        have b3 : st b = s (6 + 5 * b) := b3
        rw [if_pos (hbb.mpr cb), pu_bind, if_neg pu_10, pu_become, pu_bind, pu_g (k := b) (L := 7) (by omega) (by decide), pu_g (k := a) (L := 7) (by omega) (by decide), pu_g (k := a) (L := 7) (by omega) (by decide), pu_g (k := b) (L := 7) (by omega) (by decide), nI_clamp (n := a) (by omega), nI_clamp (n := b) (by omega), a3, b3, eu, eq] at hC
        rw [if_pos cb, pu_bind, if_neg pu_10, pu_copies, pu_bind, pu_of2 a (by omega), pu_bind, pu_of2 b (by omega), pu_bind, pu_g (k := 6 + 5 * b) (L := 39) (by omega) (by decide), pu_g (k := 6 + 5 * a) (L := 39) (by omega) (by decide), pu_bind, pu_bind, pu_g (k := 6 + 5 * a) (L := 39) (by omega) (by decide), pu_g (k := 6 + 5 * b) (L := 39) (by omega) (by decide), nI_clamp (n := 6 + 5 * a) (by omega), nI_clamp (n := 6 + 5 * b) (by omega), eu, eq] at hD
        have hM : pu_Q 999 n se (pu_m kd kd2) (pu_m fg fg2) (th, bi, da, upd (upd (pu_m st st2) a (nI q)) b (nI u), pu_m wa wa2) (upd (upd (pu_cp s m) (6 + 5 * a) (nI q)) (6 + 5 * b) (nI u)) := ⟨pu_R_st (pu_R_st hR hq) hu, u0, hu0, hse, by rw [pu_updn (by omega), pu_updn (by omega)]; exact h2⟩
        obtain ⟨g1, r', g2, g3, -⟩ := pu_goQ (N := N) (by omega) hM
        obtain ⟨cn, hcn, b1, b2⟩ := pu_cnt g3.1
        dsimp only at g1 hC
        rw [g1, pu_bind, b2, pu_bind, pu_bind] at hC
        rw [g2, pu_bind, pu_hereIn g3.1, pu_bind, b1, pu_bind, pu_bind, b1, pu_bind] at hD
        rw [nI_1 b] at hC hD
        by_cases c3 : nI cn ≤ w
        · rw [if_pos c3] at hC
          rw [if_neg (Int32.not_lt.mpr c3)] at hD
          obtain ⟨f', w', tn3, th3, bi3, se3, da3, kd3, fg3, st3, wa3, m3, i1, i2⟩ := ih (b + 1) c c2 f w (nI n) _ _ se _ (pu_m kd kd2) (pu_m fg fg2) _ _ r' (by omega) (by omega)
          exact ⟨f', w', tn3, th3, bi3, se3, da3, kd3, fg3, st3, wa3, m3, hC.trans i1, hD.trans i2⟩
        · rw [if_neg c3] at hC
          rw [if_pos (Int32.not_le.mp c3)] at hD
          obtain ⟨f', w', tn3, th3, bi3, se3, da3, kd3, fg3, st3, wa3, m3, i1, i2⟩ := ih (b + 1) c c2 (((10 : Int32) * nI a) + nI b) (nI cn) (nI n) _ _ se _ (pu_m kd kd2) (pu_m fg fg2) _ _ r' (by omega) (by omega)
          exact ⟨f', w', tn3, th3, bi3, se3, da3, kd3, fg3, st3, wa3, m3, hC.trans i1, hD.trans i2⟩
      · rw [if_neg (fun q => cb (hbb.mp q)), pu_bind, if_pos rfl, nI_1 b] at hC
        rw [if_neg cb, pu_bind, if_pos rfl, nI_1 b] at hD
        obtain ⟨f', w', tn3, th3, bi3, se3, da3, kd3, fg3, st3, wa3, m3, i1, i2⟩ := ih (b + 1) c c2 f w tn2 th2 bi2 se2 da2 kd2 fg2 st2 wa2 m (by omega) (by omega)
        exact ⟨f', w', tn3, th3, bi3, se3, da3, kd3, fg3, st3, wa3, m3, hC.trans i1, hD.trans i2⟩
    · rw [if_neg (fun q => ca (hba.mp q)), pu_bind, if_pos rfl, nI_1 b] at hC
      rw [if_neg ca, pu_bind, if_pos rfl, nI_1 b] at hD
      obtain ⟨f', w', tn3, th3, bi3, se3, da3, kd3, fg3, st3, wa3, m3, i1, i2⟩ := ih (b + 1) c c2 f w tn2 th2 bi2 se2 da2 kd2 fg2 st2 wa2 m (by omega) (by omega)
      exact ⟨f', w', tn3, th3, bi3, se3, da3, kd3, fg3, st3, wa3, m3, hC.trans i1, hD.trans i2⟩
theorem pu_tuout {n N : Nat} (hN : N ≤ 60) {th bi se da : Int32} {kd fg st wa s : Nat → Int32} (hQ : pu_Q 999 n se kd fg (th, bi, da, st, wa) s) : ∀ (j a c c2 : Nat) (f w : Int32) (tn2 th2 bi2 se2 da2 : Int32) (kd2 fg2 st2 wa2 m : Nat → Int32), a + j = n → ∃ e zc zr, f_X11_whoShouldTurn_9 (c + j + 1) (nI N) f w (nI a) (nI n) th bi se da kd fg st wa tn2 th2 bi2 se2 da2 kd2 fg2 st2 wa2 = some (e, zc) ∧ f_X12_turnsRound_22 (c2 + j + 1) (nI N) w f (nI a) s m = some (e, zr) := by
  have hn : n ≤ 7 := hQ.1.1
  intro j
  induction j with
  | zero =>
    intro a c c2 f w tn2 th2 bi2 se2 da2 kd2 fg2 st2 wa2 m h
    have : a = n := by omega
    subst this
    refine ⟨f, (tn2, th2, bi2, se2, da2, kd2, fg2, st2, wa2), m, ?_, ?_⟩
    · show f_X11_whoShouldTurn_9s _ _ _ _ _ _ _ _ _ _ _ _ _ _ _ _ _ _ _ _ _ _ _ = _
      unfold f_X11_whoShouldTurn_9s
      rw [if_pos (pu_refl_n a)]
    · show f_X12_turnsRound_22s _ _ _ _ _ _ _ = _
      unfold f_X12_turnsRound_22s
      rw [pu_c0, hQ.1.2.1, if_pos (pu_refl_n a)]
  | succ j ih =>
    intro a c c2 f w tn2 th2 bi2 se2 da2 kd2 fg2 st2 wa2 m h
    have han : a < n := by omega
    have hlt : ¬ nI n ≤ nI a := pu_lt han hn
    obtain ⟨f', w', tn3, th3, bi3, se3, da3, kd3, fg3, st3, wa3, m3, i1, i2⟩ := pu_tuin hN han hQ (f_X11_whoShouldTurn_9 (c + j + 1)) (f_X12_turnsRound_22 (c2 + j + 1)) (n - (a + 1)) (a + 1) (1999 - (n - (a + 1))) (1999 - (n - (a + 1))) f w tn2 th2 bi2 se2 da2 kd2 fg2 st2 wa2 m (by omega) (by omega)
    rw [show 1999 - (n - (a + 1)) + (n - (a + 1)) + 1 = 2000 by omega, nI_1] at i1 i2
    obtain ⟨e, zc, zr, g1, g2⟩ := ih (a + 1) c c2 f' w' tn3 th3 bi3 se3 da3 kd3 fg3 st3 wa3 m3 (by omega)
    refine ⟨e, zc, zr, ?_, ?_⟩
    · rw [← g1, ← i1]
      show f_X11_whoShouldTurn_9s _ _ _ _ _ _ _ _ _ _ _ _ _ _ _ _ _ _ _ _ _ _ _ = _
      unfold f_X11_whoShouldTurn_9s
      rw [if_neg hlt, nI_1]
      rfl
    · rw [← g2, ← i2]
      show f_X12_turnsRound_22s _ _ _ _ _ _ _ = _
      unfold f_X12_turnsRound_22s
      rw [pu_c0, hQ.1.2.1, if_neg hlt, nI_1]
      rfl
