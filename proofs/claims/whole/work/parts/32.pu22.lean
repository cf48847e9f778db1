/-! the text of an isle: its bytes on both sides -/
theorem pu_byte : ∀ n, n < 256 → (if n < 128 then (Int8.ofBitVec (BitVec.ofNat 8 n)).toInt32 = nI n ∧ (Int8.ofBitVec (BitVec.ofNat 8 n)).toInt32 &&& (255 : Int32) = nI n else (Int8.ofBitVec (BitVec.ofNat 8 n)).toInt32 < 0 ∧ (Int8.ofBitVec (BitVec.ofNat 8 n)).toInt32 &&& (255 : Int32) = nI n) := by decide +kernel
theorem pu_byte2 (y : Int32) : (∃ v, v < 128 ∧ y.toInt8.toInt32 = nI v ∧ y.toInt8.toInt32 &&& (255 : Int32) = nI v) ∨ (y.toInt8.toInt32 < 0 ∧ ∃ v, 128 ≤ v ∧ v ≤ 255 ∧ y.toInt8.toInt32 &&& (255 : Int32) = nI v) := by
  have h := pu_byte y.toInt8.toBitVec.toNat y.toInt8.toBitVec.isLt
  have e : Int8.ofBitVec (BitVec.ofNat 8 y.toInt8.toBitVec.toNat) = y.toInt8 := by rw [BitVec.ofNat_toNat, BitVec.setWidth_eq]; rfl
  rw [e] at h
  have hl := y.toInt8.toBitVec.isLt
  by_cases h2 : y.toInt8.toBitVec.toNat < 128
  · rw [if_pos h2] at h
    exact Or.inl ⟨_, h2, h.1, h.2⟩
  · rw [if_neg h2] at h
    exact Or.inr ⟨h.1, _, by omega, by omega, h.2⟩
/-- at each place the class's byte and the reference's sign, as one number below 128, or 0 for what is no sign -/
def pu_X (d z : Nat) (sz : Int32) (el em : Nat → Int32) (ch : Nat → Nat) : Prop := d < 8 ∧ z ≤ 100 ∧ sz = nI z ∧ ∀ i, i ≤ 200 → ∃ C C', f_X7_byteAt (nI i) sz el = some C ∧ f_X12_here (nI i) (nI (100 * d)) sz em = some C' ∧ ((C = nI (ch i) ∧ C' = nI (ch i) ∧ ch i < 128 ∧ i < z) ∨ (ch i = 0 ∧ C < 0 ∧ (C' < 0 ∨ ∃ v, 128 ≤ v ∧ v ≤ 255 ∧ C' = nI v)))
theorem pu_X_of {d z : Nat} (hd : d < 8) (hz : z ≤ 100) {sz : Int32} (hsz : sz = nI z) {el em : Nat → Int32} (he : ∀ i, i < 100 → el i = em (100 * d + i) ∧ ∃ y : Int32, el i = y.toInt8.toInt32) : ∃ ch, pu_X d z sz el em ch := by
  refine ⟨fun i => if i < z then (if el i < 0 then 0 else (el i).toNatClampNeg) else 0, hd, hz, hsz, fun i hi => ?_⟩
  subst hsz
  unfold f_X7_byteAt f_X7_hasPlace f_X12_here
  by_cases h : i < z
  · have hge : ¬ nI z ≤ nI i := nI_ge h (by omega)
    obtain ⟨e1, y, e2⟩ := he i (by omega)
    dsimp only
    simp only [if_neg hge]
    rw [nI_add, pu_g (k := 100 * d + i) (L := 800) (by omega) (by decide), nI_clamp (n := 100 * d + i) (by omega), ← e1, if_neg (nI_pos (by omega)), pu_bind, if_neg pu_10, pu_g (k := i) (L := 100) (by omega) (by decide), nI_clamp (n := i) (by omega), if_pos h]
    refine ⟨el i, el i &&& 255, rfl, rfl, ?_⟩
    rcases pu_byte2 y with ⟨v, hv, b1, b2⟩ | ⟨b1, v, hv1, hv2, b2⟩
    · left
      rw [← e2] at b1 b2
      rw [b2, b1, if_neg (nI_pos (by omega)), nI_clamp (by omega)]
      exact ⟨rfl, rfl, hv, h⟩
    · right
      rw [← e2] at b1 b2
      exact ⟨if_pos b1, b1, Or.inr ⟨v, hv1, hv2, b2⟩⟩
  · have hle : nI z ≤ nI i := nI_le (by omega) (by omega)
    dsimp only
    simp only [if_pos hle]
    rw [if_neg (nI_pos (by omega)), pu_bind, if_pos rfl, if_neg h]
    exact ⟨-1, -1, rfl, rfl, Or.inr ⟨rfl, by decide, Or.inl (by decide)⟩⟩
theorem pu_XK {d z : Nat} {sz : Int32} {el em : Nat → Int32} {ch : Nat → Nat} (hX : pu_X d z sz el em ch) {i : Nat} (hi : i ≤ 200) : ∃ C C', f_X7_byteAt (nI i) sz el = some C ∧ f_X12_here (nI i) (nI (100 * d)) sz em = some C' ∧ (∀ K, 0 < K → K < 128 → (C = nI K ↔ ch i = K) ∧ (C' = nI K ↔ ch i = K)) ∧ f_X9_isDigit C = some (if 48 ≤ ch i ∧ ch i ≤ 57 then 1 else 0) ∧ f_X12_isIn C' 48 57 = some (if 48 ≤ ch i ∧ ch i ≤ 57 then 1 else 0) ∧ (0 < ch i → C = nI (ch i) ∧ C' = nI (ch i) ∧ i < z) ∧ ch i < 128 := by
  obtain ⟨-, -, -, h⟩ := hX
  obtain ⟨C, C', e1, e2, hc⟩ := h i hi
  refine ⟨C, C', e1, e2, ?_⟩
  rcases hc with ⟨h1, h2, h3, h4⟩ | ⟨h1, h2, h3⟩
  · subst h1; subst h2
    refine ⟨fun K k0 k1 => ⟨nI_eq (by omega) (by omega), nI_eq (by omega) (by omega)⟩, ?_, ?_, fun _ => ⟨rfl, rfl, h4⟩, h3⟩
    · unfold f_X9_isDigit
      by_cases a : 48 ≤ ch i
      · rw [if_neg (show ¬ nI (ch i) < 48 from nI_nlt (b := 48) a (by omega))]
        by_cases b : ch i ≤ 57
        · rw [if_neg (show ¬ (57 : Int32) < nI (ch i) from nI_nlt (a := 57) b (by omega)), if_pos ⟨a, b⟩]
        · rw [if_pos (show (57 : Int32) < nI (ch i) from nI_lt (a := 57) (by omega) (by omega)), if_neg (fun q => b q.2)]
      · rw [if_pos (show nI (ch i) < 48 from nI_lt (b := 48) (by omega) (by omega)), if_neg (fun q => a q.1)]
    · unfold f_X12_isIn
      by_cases a : 48 ≤ ch i
      · rw [if_neg (show ¬ nI (ch i) < 48 from nI_nlt (b := 48) a (by omega))]
        by_cases b : ch i ≤ 57
        · rw [if_neg (show ¬ (57 : Int32) < nI (ch i) from nI_nlt (a := 57) b (by omega)), if_pos ⟨a, b⟩]
        · rw [if_pos (show (57 : Int32) < nI (ch i) from nI_lt (a := 57) (by omega) (by omega)), if_neg (fun q => b q.2)]
      · rw [if_pos (show nI (ch i) < 48 from nI_lt (b := 48) (by omega) (by omega)), if_neg (fun q => a q.1)]
  · rw [h1]
    refine ⟨fun K k0 k1 => ⟨⟨fun q => absurd h2 (by rw [q]; exact nI_pos (by omega)), fun q => by omega⟩, ⟨fun q => ?_, fun q => by omega⟩⟩, ?_, ?_, fun q => absurd q (Nat.lt_irrefl 0), by omega⟩
    · rcases h3 with h3 | ⟨v, v1, v2, v3⟩
      · exact absurd h3 (by rw [q]; exact nI_pos (by omega))
      · have := (nI_eq (by omega) (by omega)).mp (v3.symm.trans q)
        omega
    · unfold f_X9_isDigit
      rw [if_pos (show C < 48 from Int32.lt_trans h2 (by decide)), if_neg (by omega)]
    · unfold f_X12_isIn
      rw [if_neg (show ¬ (48 ≤ 0 ∧ 0 ≤ 57) by omega)]
      rcases h3 with h3 | ⟨v, v1, v2, v3⟩
      · rw [if_pos (show C' < 48 from Int32.lt_trans h3 (by decide))]
      · rw [v3, if_neg (show ¬ nI v < 48 from nI_nlt (b := 48) (by omega) (by omega)), if_pos (show (57 : Int32) < nI v from nI_lt (a := 57) (by omega) (by omega))]
/-- the first place that is no digit -/
def pu_fn (ch : Nat → Nat) : Nat → Nat → Option Nat
  | 0, _ => none
  | j + 1, p => if 48 ≤ ch p ∧ ch p ≤ 57 then pu_fn ch j (p + 1) else some p
def pu_vl (ch : Nat → Nat) : Nat → Nat → Nat → Nat
  | 0, _, a => a
  | j + 1, p, a => pu_vl ch j (p + 1) (10 * a + (ch p - 48))
theorem pu_x29 {d z : Nat} {sz : Int32} {el em : Nat → Int32} {ch : Nat → Nat} (hX : pu_X d z sz el em ch) {i D : Nat} (hi : i ≤ 100) (hD : D ≤ 4) (k2 : Int32 → Int32 → (Nat → Int32) → Option Int32) : ∀ (j x c : Nat), x + j = i + D + 1 → (∃ q, pu_fn ch j x = some q ∧ f_X9_placeOfWrongForm_29 k2 (c + j + 1) (nI i) (nI D) (nI x) sz el = some (nI q)) ∨ (pu_fn ch j x = none ∧ f_X9_placeOfWrongForm_29 k2 (c + j + 1) (nI i) (nI D) (nI x) sz el = if ch (i + D + 1) = 59 then k2 (nI (i + D + 2)) sz el else some (nI (i + D + 1))) := by
  intro j
  induction j with
  | zero =>
    intro x c h
    right
    refine ⟨rfl, ?_⟩
    obtain ⟨C, C', e1, -, hK, -⟩ := pu_XK hX (i := i + D + 1) (by omega)
    show f_X9_placeOfWrongForm_29s _ _ _ _ _ _ _ = _
    unfold f_X9_placeOfWrongForm_29s
    rw [nI_add, if_pos (nI_lt (by omega) (by omega)), nI_1, e1, pu_bind, show nI D + (2 : Int32) = nI (D + 2) from nI_add D 2, nI_add, show i + (D + 2) = i + D + 2 by omega]
    by_cases hc : ch (i + D + 1) = 59
    · rw [if_pos hc, if_pos (show C = 59 from ((hK 59 (by omega) (by omega)).1).mpr hc)]
    · rw [if_neg hc, if_neg (show ¬ C = 59 from fun q => hc (((hK 59 (by omega) (by omega)).1).mp q))]
  | succ j ih =>
    intro x c h
    obtain ⟨C, C', e1, -, -, hdg, -⟩ := pu_XK hX (i := x) (by omega)
    have hC : f_X9_placeOfWrongForm_29 k2 (c + (j + 1) + 1) (nI i) (nI D) (nI x) sz el = f_X9_placeOfWrongForm_29s k2 (f_X9_placeOfWrongForm_29 k2 (c + j + 1)) (nI i) (nI D) (nI x) sz el := rfl
    unfold f_X9_placeOfWrongForm_29s at hC
    rw [nI_add, if_neg (nI_nlt (by omega) (by omega)), e1, pu_bind, hdg, pu_bind, nI_1 x] at hC
    by_cases hd : 48 ≤ ch x ∧ ch x ≤ 57
    · rw [if_pos hd, if_neg pu_10] at hC
      rw [hC]
      unfold pu_fn
      rw [if_pos hd]
      exact ih (x + 1) c (by omega)
    · rw [if_neg hd, if_pos rfl] at hC
      left
      refine ⟨x, ?_, hC⟩
      unfold pu_fn
      rw [if_neg hd]
theorem pu_rnloop {d z : Nat} {sz : Int32} {el em : Nat → Int32} {ch : Nat → Nat} (hX : pu_X d z sz el em ch) {k D : Nat} (hk : k < 3) (hD : D ≤ 4) : ∀ (j x p c a : Nat) (nu : Nat → Int32), x + j = D → p + j ≤ 200 → nu k = nI a → ∃ nu', (∀ i, i ≠ k → nu' i = nu i) ∧ ((∃ q, pu_fn ch j p = some q ∧ f_X12_readsNumber_9 (c + j + 1) (nI k) (nI D) (nI x) (nI p) (nI (100 * d)) sz nu em = some (0, nI q, nu')) ∨ (pu_fn ch j p = none ∧ f_X12_readsNumber_9 (c + j + 1) (nI k) (nI D) (nI x) (nI p) (nI (100 * d)) sz nu em = some (1, nI (p + j), nu') ∧ nu' k = nI (pu_vl ch j p a))) := by
  intro j
  induction j with
  | zero =>
    intro x p c a nu h hp ha
    have : x = D := by omega
    subst this
    refine ⟨nu, fun _ _ => rfl, Or.inr ⟨rfl, ?_, ha⟩⟩
    show f_X12_readsNumber_9s _ _ _ _ _ _ _ _ _ = _
    unfold f_X12_readsNumber_9s
    rw [if_pos (pu_refl_n x)]
    rfl
  | succ j ih =>
    intro x p c a nu h hp ha
    obtain ⟨C, C', -, e2, -, -, hdg, hpos, -⟩ := pu_XK hX (i := p) (by omega)
    have hC : f_X12_readsNumber_9 (c + (j + 1) + 1) (nI k) (nI D) (nI x) (nI p) (nI (100 * d)) sz nu em = f_X12_readsNumber_9s (f_X12_readsNumber_9 (c + j + 1)) (nI k) (nI D) (nI x) (nI p) (nI (100 * d)) sz nu em := rfl
    unfold f_X12_readsNumber_9s at hC
    rw [if_neg (nI_ge (by omega) (by omega)), e2, pu_bind, hdg, pu_bind] at hC
    by_cases hd : 48 ≤ ch p ∧ ch p ≤ 57
    · obtain ⟨-, hC', -⟩ := hpos (by omega)
      rw [if_pos hd, if_neg pu_10, pu_g hk (by decide), pu_bind, pu_g hk (by decide), nI_clamp (by omega), nI_1, nI_1, ha, hC', show (((10 : Int32) * nI a) + nI (ch p)) - (48 : Int32) = nI (10 * a + (ch p - 48)) by
        rw [show (10 : Int32) * nI a = nI (10 * a) from pk_mul 10 a, nI_add, show nI (10 * a + ch p) - (48 : Int32) = nI (10 * a + ch p - 48) from pk_sub (b := 48) (by omega), show 10 * a + ch p - 48 = 10 * a + (ch p - 48) by omega]] at hC
      obtain ⟨nu', n1, n2⟩ := ih (x + 1) (p + 1) c (10 * a + (ch p - 48)) (upd nu k (nI (10 * a + (ch p - 48)))) (by omega) (by omega) pu_upd
      refine ⟨nu', fun i hi => (n1 i hi).trans (pu_updn hi), ?_⟩
      unfold pu_fn pu_vl
      rw [if_pos hd, hC, show p + (j + 1) = p + 1 + j by omega]
      exact n2
    · rw [if_neg hd, if_pos rfl] at hC
      refine ⟨nu, fun _ _ => rfl, Or.inl ⟨p, ?_, hC⟩⟩
      unfold pu_fn
      rw [if_neg hd]
theorem pu_rn {d z : Nat} {sz : Int32} {el em : Nat → Int32} {ch : Nat → Nat} (hX : pu_X d z sz el em ch) {k D p : Nat} (hk : k < 3) (hD : D ≤ 4) (hp : p + D ≤ 200) (nu : Nat → Int32) : ∃ nu', (∀ i, i ≠ k → nu' i = nu i) ∧ ((∃ q, pu_fn ch D p = some q ∧ f_X12_readsNumber (nI k) (nI D) (nI p) (nI (100 * d)) sz nu em = some (0, nI q, nu')) ∨ (pu_fn ch D p = none ∧ f_X12_readsNumber (nI k) (nI D) (nI p) (nI (100 * d)) sz nu em = some (1, nI (p + D), nu') ∧ nu' k = nI (pu_vl ch D p 0))) := by
  obtain ⟨nu', n1, n2⟩ := pu_rnloop hX hk hD D 0 p (1999 - D) 0 (upd nu k 0) (by omega) hp pu_upd
  rw [show 1999 - D + D + 1 = 2000 by omega, nI_0] at n2
  refine ⟨nu', fun i hi => (n1 i hi).trans (pu_updn hi), ?_⟩
  have e : f_X12_readsNumber (nI k) (nI D) (nI p) (nI (100 * d)) sz nu em = f_X12_readsNumber_9 2000 (nI k) (nI D) 0 (nI p) (nI (100 * d)) sz (upd nu k 0) em := by
    unfold f_X12_readsNumber
    rw [pu_g hk (by decide), nI_clamp (by omega)]
  rw [e]
  exact n2
