/-! least terms; share -/
theorem pu_cmp0 : lg_cmp (lN 0) (0 : Int64) = 0 := by decide
theorem pu_lpos {y : Nat} (h : 0 < y) (hy : y < 2 ^ 63) : ¬ lN y = 0 := fun q => by
  have : lN y = lN 0 := q
  rw [pk_lEQ hy (by omega)] at this
  omega
theorem pu_cmp1 {y : Nat} (h : 0 < y) (hy : y < 2 ^ 63) : ¬ lg_cmp (lN y) (0 : Int64) = 0 := by
  have : lN y > (0 : Int64) := (pk_lLT (a := 0) (by omega) hy).mpr h
  unfold lg_cmp
  rw [if_pos this]
  decide
theorem pu_gcdst {x y : Nat} : Nat.gcd x y = Nat.gcd y (x % y) := by
  rw [Nat.gcd_comm x y, Nat.gcd_rec y x, Nat.gcd_comm]
theorem pu_gcd1 {x y : Nat} (hx : x < 2 ^ 63) (hy : y < 2 ^ 63) (h0 : 0 < y) (c : Nat) : f_X12_gcd_6 (c + 1) (lN x) (lN y) = f_X12_gcd_6 c (lN y) (lN (x % y)) := by
  show f_X12_gcd_6s (f_X12_gcd_6 c) _ _ = _
  unfold f_X12_gcd_6s
  rw [if_neg (pu_cmp1 h0 hy), if_neg (pu_lpos h0 hy), pk_lRem hx h0 hy]
theorem pu_half {x y : Nat} (hy : 0 < y) (h0 : 0 < x % y) : 2 * (y % (x % y)) < y := by
  have h1 : x % y < y := Nat.mod_lt _ hy
  have h2 : y % (x % y) < x % y := Nat.mod_lt _ h0
  have h3 := Nat.mod_add_div y (x % y)
  have h4 : 1 ≤ y / (x % y) := Nat.div_pos (by omega) h0
  have h5 : (x % y) * 1 ≤ (x % y) * (y / (x % y)) := Nat.mul_le_mul_left _ h4
  omega
theorem pu_gcdref : ∀ (k x y c : Nat), x < 2 ^ 63 → y < 2 ^ 63 → y < 2 ^ k → f_X12_gcd_6 (c + 2 * k + 1) (lN x) (lN y) = some (lN (Nat.gcd x y)) := by
  intro k
  induction k with
  | zero =>
    intro x y c hx _ hy
    have : y = 0 := by omega
    subst this
    rw [Nat.gcd_zero_right]
    show f_X12_gcd_6s _ _ _ = _
    unfold f_X12_gcd_6s
    rw [if_pos pu_cmp0]
  | succ k ih =>
    intro x y c hx hy hyk
    rcases Nat.eq_zero_or_pos y with h | h
    · subst h
      rw [Nat.gcd_zero_right]
      show f_X12_gcd_6s _ _ _ = _
      unfold f_X12_gcd_6s
      rw [if_pos pu_cmp0]
    · have hm : x % y < y := Nat.mod_lt _ h
      rw [pu_gcdst, show c + 2 * (k + 1) + 1 = (c + 2 * k + 1 + 1) + 1 by omega, pu_gcd1 hx hy h]
      rcases Nat.eq_zero_or_pos (x % y) with h2 | h2
      · rw [h2, Nat.gcd_zero_right]
        show f_X12_gcd_6s _ _ _ = _
        unfold f_X12_gcd_6s
        rw [if_pos pu_cmp0]
      · have hh := pu_half h h2
        rw [pu_gcdst, pu_gcd1 hy (by omega) h2, ih _ _ _ (by omega) (by omega) (by rw [Nat.pow_succ] at hyk; omega)]
theorem pu_ilt1 {x y i : Nat} (a b : Int64) (p : Int32) (hx : x < 2 ^ 63) (hy : y < 2 ^ 63) (h0 : 0 < y) (hi : i < 1000) (c : Nat) : f_X11_inLeastTerms_9 (c + 1) a b p (lN x) (lN y) (nI i) = f_X11_inLeastTerms_9 c a b p (lN y) (lN (x % y)) (nI (i + 1)) := by
  show f_X11_inLeastTerms_9s (f_X11_inLeastTerms_9 c) _ _ _ _ _ _ = _
  unfold f_X11_inLeastTerms_9s
  rw [if_neg (show ¬ (1000 : Int32) ≤ nI i from nI_ge (b := 1000) hi (by omega)), if_neg (pu_cmp1 h0 hy), if_neg (pu_lpos h0 hy), pk_lRem hx h0 hy, nI_1]
theorem pu_ilt0 {x i : Nat} (a b : Int64) (p : Int32) (c : Nat) : f_X11_inLeastTerms_9 (c + 1) a b p (lN x) (lN 0) (nI i) = f_X11_inLeastTerms_45 a b p (lN x) := by
  show f_X11_inLeastTerms_9s (f_X11_inLeastTerms_9 c) _ _ _ _ _ _ = _
  unfold f_X11_inLeastTerms_9s
  by_cases h : (1000 : Int32) ≤ nI i
  · rw [if_pos h]
  · rw [if_neg h, if_pos pu_cmp0]
theorem pu_gcdcls (a b : Int64) (p : Int32) : ∀ (k x y c i : Nat), x < 2 ^ 63 → y < 2 ^ 63 → y < 2 ^ k → i + 2 * k + 1 ≤ 1000 → f_X11_inLeastTerms_9 (c + 2 * k + 1) a b p (lN x) (lN y) (nI i) = f_X11_inLeastTerms_45 a b p (lN (Nat.gcd x y)) := by
  intro k
  induction k with
  | zero =>
    intro x y c i hx _ hy _
    have : y = 0 := by omega
    subst this
    rw [Nat.gcd_zero_right, pu_ilt0]
  | succ k ih =>
    intro x y c i hx hy hyk hi
    rcases Nat.eq_zero_or_pos y with h | h
    · subst h
      rw [Nat.gcd_zero_right, pu_ilt0]
    · have hm : x % y < y := Nat.mod_lt _ h
      rw [pu_gcdst, show c + 2 * (k + 1) + 1 = (c + 2 * k + 1 + 1) + 1 by omega, pu_ilt1 a b p hx hy h (by omega)]
      rcases Nat.eq_zero_or_pos (x % y) with h2 | h2
      · rw [h2, Nat.gcd_zero_right, pu_ilt0]
      · have hh := pu_half h h2
        rw [pu_gcdst, pu_ilt1 a b p hy (by omega) h2 (by omega), ih _ _ _ _ (by omega) (by omega) (by rw [Nat.pow_succ] at hyk; omega) (by omega)]
theorem pu_least2 {a b q : Nat} (ha : a < 2 ^ 63) (hb : b < 2 ^ 63) (hq : q ≤ 1) : ∃ e, f_X11_inLeastTerms (lN a) (lN b) (nI q) = some e ∧ f_X12_partOf (lN a) (lN b) (nI q) = some e := by
  have hc : f_X11_inLeastTerms (lN a) (lN b) (nI q) = f_X11_inLeastTerms_45 (lN a) (lN b) (nI q) (lN (Nat.gcd b a)) := pu_gcdcls (lN a) (lN b) (nI q) 63 b a 1873 0 hb ha ha (by omega)
  have hr : f_X12_gcd (lN a) (lN b) = some (lN (Nat.gcd a b)) := pu_gcdref 63 a b 1873 ha hb hb
  rw [hc]
  unfold f_X11_inLeastTerms_45 f_X12_partOf f_X12_partOf_20
  rw [hr, pu_bind, pu_bind]
  rcases Nat.eq_zero_or_pos a with h | h
  · subst h
    rw [if_pos pu_cmp0, Nat.gcd_zero_right]
    refine ⟨(nI q).toInt64, ?_, rfl⟩
    rcases Nat.eq_zero_or_pos b with h2 | h2
    · subst h2
      rw [if_pos pu_cmp0]
    · rw [if_neg (pu_cmp1 h2 hb), if_neg (pu_lpos h2 hb), if_neg (pu_lpos h2 hb), pk_lDiv (by omega) h2 hb, pk_lDiv hb h2 hb, Nat.zero_div, Nat.div_self h2]
      rcases (by omega : q = 0 ∨ q = 1) with rfl | rfl
      · rfl
      · rfl
  · have hg : 0 < Nat.gcd a b := Nat.gcd_pos_of_pos_left _ h
    have hga : Nat.gcd a b ≤ a := Nat.gcd_le_left _ h
    rw [Nat.gcd_comm b a, if_neg (pu_cmp1 hg (by omega)), if_neg (pu_cmp1 h ha), if_neg (pu_lpos hg (by omega)), if_neg (pu_lpos hg (by omega))]
    by_cases hq0 : nI q = 0
    · rw [if_pos hq0]; exact ⟨_, rfl, rfl⟩
    · rw [if_neg hq0]; exact ⟨_, rfl, rfl⟩
theorem pu_ss_ge (v : Nat → Nat) (m : Nat) : ∀ (n t : Nat), t < n → m.testBit t = true → v t ≤ pu_ss v m n
  | 0, t, h, _ => absurd h (Nat.not_lt_zero t)
  | n + 1, t, h, hb => by
    unfold pu_ss
    by_cases ht : t = n
    · subst ht; rw [if_pos hb]; omega
    · have := pu_ss_ge v m n t (by omega) hb
      omega
theorem po_share {n : Nat} {th bi se da : Int32} {kd fg st wa s : Nat → Int32} (hQ : pu_Q 999 n se kd fg (th, bi, da, st, wa) s) (x1 x2 : Int32) : ∃ a, f_X11_share x1 x2 (nI n) th st = some a ∧ f_X12_share x1 x2 s = some a := by
  obtain ⟨hR, -⟩ := hQ
  have hR : pu_R 999 n th bi da kd fg st wa s := hR
  obtain ⟨h1, hs0, -, hs3, -, -, h7, h8⟩ := id hR
  have hK : pu_mk s n < 128 := pu_mk_lt7 h1
  unfold f_X11_share f_X12_share
  rcases pu_knows h1 x1 hs0 with ⟨t, ht, rfl, k1, k2⟩ | ⟨k1, k2⟩
  · have ht7 : t < 7 := by omega
    rw [k1, k2, pu_bind, pu_bind, if_neg pu_10, if_neg pu_10, pu_within]
    rcases pu_in (l := 0) (h := 1) (by omega) (by omega) x2 (L := 0) (H := 1) rfl rfl with hi | ⟨q, -, hq, rfl, hi⟩
    · rw [hi]
      exact ⟨_, rfl, rfl⟩
    · have hv : ∀ t, t < n → st t = nI ((fun t => (st t).toNatClampNeg) t) := fun t ht => by
        obtain ⟨-, -, a3, -, ⟨-, -, ⟨x, hx, ex⟩, -, -⟩⟩ := h8 t ht
        show st t = nI (st t).toNatClampNeg
        rw [a3, ex, nI_clamp (by omega)]
      have hv9 : ∀ t, t < n → (fun t => (st t).toNatClampNeg) t ≤ 99 := fun t ht => by
        obtain ⟨-, -, a3, -, ⟨-, -, ⟨x, hx, ex⟩, -, -⟩⟩ := h8 t ht
        show (st t).toNatClampNeg ≤ 99
        rw [a3, ex, nI_clamp (by omega)]
        exact hx
      generalize hvv : (fun t => (st t).toNatClampNeg) = v at hv hv9
      obtain ⟨e1, e2⟩ := pu_sset hK hR hv
      rw [← h7] at e1 e2
      have hl := pu_ss_le (v := v) (m := pu_mk s n) n hv9
      have hbit := pu_mk_bit s n t ht
      obtain ⟨-, -, a3, -, -⟩ := h8 t ht
      have hsh : ∀ y : Int64, f_X12_share_47 (nI q) y s = Option.bind (f_X12_partOf y (lN (pu_ss v (pu_mk s n) n)) (nI q)) (fun r5 => some r5) := fun y => by
        unfold f_X12_share_47
        rw [pu_hereIn hR, pu_bind, e2, pu_bind, nI_l (n := pu_ss v (pu_mk s n) n) (by omega)]
      rw [hi, pu_bind, pu_bind, if_neg pu_10, if_neg pu_10, e1, pu_bind, pu_isHere ht7]
      have hit : f_X4_isThere (nI t) th = some (if (pu_mk s n).testBit t = true then 1 else 0) := by rw [h7, pu_isThere _ hK t ht7]
      obtain ⟨e0, -, f0⟩ := pu_least2 (a := 0) (b := pu_ss v (pu_mk s n) n) (q := q) (by omega) (by omega) hq
      have f0' : f_X12_partOf (0 : Int64) (lN (pu_ss v (pu_mk s n) n)) (nI q) = some (nI q).toInt64 := by
        unfold f_X12_partOf
        exact if_pos pu_cmp0
      by_cases hh : s (8 + 5 * t) = 1
      · rw [if_pos hh, pu_bind, if_neg pu_10, pu_of2 t ht7, pu_bind, pu_g (k := 6 + 5 * t) (L := 39) (by omega) (by decide), nI_clamp (n := 6 + 5 * t) (by omega), ← a3, hv t ht, nI_l (n := v t) (by have := hv9 t ht; omega), hsh]
        have hge := pu_ss_ge v (pu_mk s n) n t ht (hbit.mpr hh)
        by_cases hz : pu_ss v (pu_mk s n) n = 0
        · rw [if_pos (show nI (pu_ss v (pu_mk s n) n) = 0 by rw [hz]; rfl), show v t = 0 by omega]
          rw [show f_X12_partOf (lN 0) (lN (pu_ss v (pu_mk s n) n)) (nI q) = some (nI q).toInt64 from f0']
          exact ⟨_, rfl, rfl⟩
        · rw [if_neg (nI_ne0 (by omega) (by omega)), hit, if_pos (hbit.mpr hh), pu_bind, if_neg pu_10, pu_g ht7 (by decide), nI_clamp (by omega), hv t ht, nI_l (n := v t) (by have := hv9 t ht; omega), nI_l (n := pu_ss v (pu_mk s n) n) (by omega)]
          obtain ⟨e, g1, g2⟩ := pu_least2 (a := v t) (b := pu_ss v (pu_mk s n) n) (q := q) (by have := hv9 t ht; omega) (by omega) hq
          rw [g1, g2]
          exact ⟨_, rfl, rfl⟩
      · rw [if_neg hh, pu_bind, if_pos rfl, hsh, f0', hit, if_neg (fun z => hh (hbit.mp z)), pu_bind, if_pos rfl]
        refine ⟨(nI q).toInt64, ?_, rfl⟩
        split <;> rfl
  · rw [k1, k2]
    exact ⟨_, rfl, rfl⟩
