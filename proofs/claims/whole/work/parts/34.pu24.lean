/-! statements done -/
theorem pu_dbC {d z : Nat} {sz : Int32} {el em : Nat → Int32} {ch : Nat → Nat} (hX : pu_X d z sz el em ch) {i : Nat} (hi : i ≤ 200) : ∃ C, f_X7_byteAt (nI i) sz el = some C ∧ (∀ K, 0 < K → K < 128 → (C = nI K ↔ ch i = K)) ∧ f_X9_digitsBehind C = some (if pu_db (ch i) = 0 then -1 else nI (pu_db (ch i))) := by
  obtain ⟨C, C', e1, -, hK, -⟩ := pu_XK hX hi
  have hK1 : ∀ K, 0 < K → K < 128 → (C = nI K ↔ ch i = K) := fun K a b => (hK K a b).1
  refine ⟨C, e1, hK1, ?_⟩
  unfold f_X9_digitsBehind
  by_cases h1 : ch i = 98
  · rw [if_pos (show C = 98 from (hK1 98 (by omega) (by omega)).mpr h1), h1]; rfl
  · rw [if_neg (show ¬ C = 98 from fun q => h1 ((hK1 98 (by omega) (by omega)).mp q))]
    by_cases h2 : ch i = 100
    · rw [if_pos (show C = 100 from (hK1 100 (by omega) (by omega)).mpr h2), h2]; rfl
    · rw [if_neg (show ¬ C = 100 from fun q => h2 ((hK1 100 (by omega) (by omega)).mp q))]
      by_cases h3 : ch i = 102
      · rw [if_pos (show C = 102 from (hK1 102 (by omega) (by omega)).mpr h3), h3]; rfl
      · rw [if_neg (show ¬ C = 102 from fun q => h3 ((hK1 102 (by omega) (by omega)).mp q))]
        by_cases h4 : ch i = 108
        · rw [if_pos (show C = 108 from (hK1 108 (by omega) (by omega)).mpr h4), h4]; rfl
        · rw [if_neg (show ¬ C = 108 from fun q => h4 ((hK1 108 (by omega) (by omega)).mp q))]
          by_cases h5 : ch i = 115
          · rw [if_pos (show C = 115 from (hK1 115 (by omega) (by omega)).mpr h5), h5]; rfl
          · rw [if_neg (show ¬ C = 115 from fun q => h5 ((hK1 115 (by omega) (by omega)).mp q))]
            by_cases h6 : ch i = 116
            · rw [if_pos (show C = 116 from (hK1 116 (by omega) (by omega)).mpr h6), h6]; rfl
            · rw [if_neg (show ¬ C = 116 from fun q => h6 ((hK1 116 (by omega) (by omega)).mp q))]
              by_cases h7 : ch i = 119
              · rw [if_pos (show C = 119 from (hK1 119 (by omega) (by omega)).mpr h7), h7]; rfl
              · rw [if_neg (show ¬ C = 119 from fun q => h7 ((hK1 119 (by omega) (by omega)).mp q))]
                have : pu_db (ch i) = 0 := by
                  unfold pu_db
                  rw [if_neg h1, if_neg h2, if_neg h3, if_neg h4, if_neg h5, if_neg h6, if_neg h7]
                rw [if_pos this]
theorem pu_stmt {d z : Nat} {sz : Int32} {el em : Nat → Int32} {ch : Nat → Nat} (hX : pu_X d z sz el em ch) {i : Nat} (hi : i < z) (c : Nat) (nu : Nat → Int32) : ∃ nu', (∃ q, q ≤ 200 ∧ f_X9_placeOfWrongForm_2 (c + 1) (nI i) sz el = some (nI q) ∧ f_X12_readsStatement (nI i) (nI (100 * d)) sz nu em = some (0, nI q, nu')) ∨ (pu_sg ch i ∧ pu_nf ch i nu' ∧ f_X9_placeOfWrongForm_2 (c + 1) (nI i) sz el = f_X9_placeOfWrongForm_2 c (nI (i + pu_db (ch i) + 2)) sz el ∧ f_X12_readsStatement (nI i) (nI (100 * d)) sz nu em = some (1, nI (i + pu_db (ch i) + 2), nu')) := by
  obtain ⟨hd, hz, hsz, -⟩ := id hX
  have h4 := pu_db_le (ch i)
  obtain ⟨C, e1, -, e3⟩ := pu_dbC hX (i := i) (by omega)
  have hC : f_X9_placeOfWrongForm_2 (c + 1) (nI i) sz el = f_X9_placeOfWrongForm_2s (f_X9_placeOfWrongForm_2 c) (nI i) sz el := rfl
  unfold f_X9_placeOfWrongForm_2s at hC
  rw [if_neg (show ¬ sz ≤ nI i by rw [hsz]; exact nI_ge hi (by omega)), e1, pu_bind, e3, pu_bind] at hC
  obtain ⟨nu', hr⟩ := pu_rs hX (i := i) (by omega) nu
  refine ⟨nu', ?_⟩
  rcases hr with ⟨a1, a2⟩ | ⟨a1, q, a2, a3⟩ | ⟨a1, a2, a3, a4⟩
  · rw [if_pos a1, if_neg (by decide)] at hC
    exact Or.inl ⟨i, by omega, hC, a2⟩
  · rw [if_neg (show ¬ pu_db (ch i) = 0 by omega), if_pos (nI_pos' (by omega)), nI_1] at hC
    have h29 := pu_x29 hX (i := i) (D := pu_db (ch i)) (by omega) h4 (f_X9_placeOfWrongForm_2 c) (pu_db (ch i)) (i + 1) (1999 - pu_db (ch i)) (by omega)
    rw [show 1999 - pu_db (ch i) + pu_db (ch i) + 1 = 2000 by omega] at h29
    have hq := pu_fn_lt a2
    rcases h29 with ⟨q', b1, b2⟩ | ⟨b1, b2⟩
    · rw [a2] at b1
      have := Option.some.inj b1
      subst this
      exact Or.inl ⟨q, by omega, hC.trans b2, a3⟩
    · rw [a2] at b1; cases b1
  · rw [if_neg (show ¬ pu_db (ch i) = 0 by omega), if_pos (nI_pos' (by omega)), nI_1] at hC
    have h29 := pu_x29 hX (i := i) (D := pu_db (ch i)) (by omega) h4 (f_X9_placeOfWrongForm_2 c) (pu_db (ch i)) (i + 1) (1999 - pu_db (ch i)) (by omega)
    rw [show 1999 - pu_db (ch i) + pu_db (ch i) + 1 = 2000 by omega] at h29
    rcases h29 with ⟨q', b1, b2⟩ | ⟨b1, b2⟩
    · rw [a2] at b1; cases b1
    · by_cases hs : ch (i + pu_db (ch i) + 1) = 59
      · rw [if_pos hs] at b2 a4
        exact Or.inr ⟨⟨a1, a2, hs⟩, a3, hC.trans b2, a4⟩
      · rw [if_neg hs] at b2 a4
        exact Or.inl ⟨i + pu_db (ch i) + 1, by omega, hC.trans b2, a4⟩
theorem pu_sg_lt {d z : Nat} {sz : Int32} {el em : Nat → Int32} {ch : Nat → Nat} (hX : pu_X d z sz el em ch) {i : Nat} (hi : i ≤ 100) (hg : pu_sg ch i) : i + pu_db (ch i) + 2 ≤ z := by
  have h4 := pu_db_le (ch i)
  obtain ⟨C, C', -, -, -, -, -, hp, -⟩ := pu_XK hX (i := i + pu_db (ch i) + 1) (by omega)
  have := (hp (by rw [hg.2.2]; omega)).2.2
  omega
/-- the form is right from here on, with k statements -/
def pu_form (ch : Nat → Nat) (z : Nat) : Nat → Nat → Prop
  | 0, i => i = z
  | k + 1, i => i < z ∧ pu_sg ch i ∧ pu_form ch z k (i + pu_db (ch i) + 2)
theorem pu_pass1 {d z : Nat} {sz : Int32} {el em : Nat → Int32} {ch : Nat → Nat} (hX : pu_X d z sz el em ch) (s was : Nat → Int32) : ∀ (j i c c2 cnt : Nat) (nu : Nat → Int32), i < z → z - i ≤ j → (∃ q cnt' nu' pl, q ≤ 200 ∧ f_X9_placeOfWrongForm_2 (c + j + 1) (nI i) sz el = some (nI q) ∧ f_X12_isle_41 (c2 + j + 1) (nI cnt) 0 (nI i) (nI (100 * d)) sz s was nu em = f_X12_isle_77 cnt' ((-1000 : Int32) - nI q) pl (nI (100 * d)) sz s was nu' em) ∨ (∃ k nu' pl, pu_form ch z k i ∧ f_X9_placeOfWrongForm_2 (c + j + 1) (nI i) sz el = some (-1) ∧ f_X12_isle_41 (c2 + j + 1) (nI cnt) 0 (nI i) (nI (100 * d)) sz s was nu em = f_X12_isle_77 (nI (cnt + k)) 0 pl (nI (100 * d)) sz s was nu' em) := by
  obtain ⟨hd, hz, hsz, -⟩ := id hX
  have hne : ∀ q, q ≤ 200 → ¬ (-1000 : Int32) - nI q = 0 := fun q hq h => by
    have h2 : nI q = -1000 := by
      rw [Int32.sub_eq_iff_eq_add, Int32.zero_add] at h
      exact h.symm
    have := nI_pos (n := q) (by omega)
    rw [h2] at this
    exact this (by decide)
  intro j
  induction j with
  | zero => intro i c c2 cnt nu h1 h2; omega
  | succ j ih =>
    intro i c c2 cnt nu h1 h2
    obtain ⟨nu1, hs⟩ := pu_stmt hX h1 (c + (j + 1)) nu
    have hD : f_X12_isle_41 (c2 + (j + 1) + 1) (nI cnt) 0 (nI i) (nI (100 * d)) sz s was nu em = f_X12_isle_41s (f_X12_isle_41 (c2 + j + 1)) (nI cnt) 0 (nI i) (nI (100 * d)) sz s was nu em := rfl
    unfold f_X12_isle_41s f_X12_isle_58 at hD
    rcases hs with ⟨q, hq, a1, a2⟩ | ⟨hg, hnf, a1, a2⟩
    · left
      rw [a2, pu_bind, if_pos rfl, if_neg (hne q hq)] at hD
      exact ⟨q, _, _, _, hq, a1, hD⟩
    · rw [a2, pu_bind, if_neg pu_10, if_pos rfl, nI_1] at hD
      have hlt := pu_sg_lt hX (by omega) hg
      dsimp only at hD
      rcases Nat.lt_or_ge (i + pu_db (ch i) + 2) z with hnz | hnz
      · rw [if_pos (show nI (i + pu_db (ch i) + 2) < sz by rw [hsz]; exact nI_lt hnz (by omega))] at hD
        rcases ih (i + pu_db (ch i) + 2) c c2 (cnt + 1) nu1 hnz (by omega) with ⟨q, cnt', nu', pl, hq, b1, b2⟩ | ⟨k, nu', pl, hf, b1, b2⟩
        · left
          exact ⟨q, cnt', nu', pl, hq, a1.trans b1, hD.trans b2⟩
        · right
          refine ⟨k + 1, nu', pl, ⟨h1, hg, hf⟩, a1.trans b1, ?_⟩
          rw [show cnt + (k + 1) = cnt + 1 + k by omega]
          exact hD.trans b2
      · right
        have he : i + pu_db (ch i) + 2 = z := by omega
        rw [if_neg (show ¬ nI (i + pu_db (ch i) + 2) < sz by rw [hsz, he]; exact fun q => Int32.lt_irrefl q)] at hD
        refine ⟨1, nu1, _, ⟨h1, hg, he⟩, a1.trans ?_, hD⟩
        rw [he]
        show f_X9_placeOfWrongForm_2s _ _ _ _ = _
        unfold f_X9_placeOfWrongForm_2s
        rw [hsz, if_pos (pu_refl_n z), if_neg (nI_ne0 (by omega) (by omega))]
theorem pu_dg {d z : Nat} {sz : Int32} {el em : Nat → Int32} {ch : Nat → Nat} (hX : pu_X d z sz el em ch) {p : Nat} (hp : p ≤ 200) (hd : 48 ≤ ch p ∧ ch p ≤ 57) : f_X9_digit (nI p) sz el = some (nI (ch p - 48)) := by
  obtain ⟨C, C', e1, -, -, -, -, hpos, -⟩ := pu_XK hX hp
  obtain ⟨hC, -, -⟩ := hpos (by omega)
  unfold f_X9_digit
  rw [e1, pu_bind, hC]
  exact congrArg some (pk_sub (b := 48) (by omega))
theorem pu_nm {d z : Nat} {sz : Int32} {el em : Nat → Int32} {ch : Nat → Nat} (hX : pu_X d z sz el em ch) {p : Nat} (hp : p + 1 ≤ 200) (hd : 48 ≤ ch p ∧ ch p ≤ 57) (hd2 : 48 ≤ ch (p + 1) ∧ ch (p + 1) ≤ 57) : f_X9_number (nI p) sz el = some (nI (10 * (ch p - 48) + (ch (p + 1) - 48))) := by
  unfold f_X9_number
  rw [pu_dg hX (by omega) hd, pu_bind, nI_1, pu_dg hX hp hd2, pu_bind, show (10 : Int32) * nI (ch p - 48) = nI (10 * (ch p - 48)) from pk_mul 10 _, nI_add]
