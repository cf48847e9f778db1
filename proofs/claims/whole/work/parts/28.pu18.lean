/-! richest -/
theorem pu_riloop {B n : Nat} {th bi da : Int32} {kd fg st wa s : Nat → Int32} (hR : pu_R B n th bi da kd fg st wa s) : ∀ (j t c c2 : Nat) (f b : Int32), t + j = n → ((f = -4 ∧ b = -1) ∨ ∃ u, u < n ∧ f = nI u ∧ b = s (6 + 5 * u)) → ∃ e, f_X4_richestThere_7 (c + j + 1) f b (nI t) (nI n) th st = some e ∧ f_X12_richestOf_5 (c2 + j + 1) f (nI t) s = some e := by
  obtain ⟨h1, hs0, -, -, -, -, h7, h8⟩ := id hR
  intro j
  induction j with
  | zero =>
    intro t c c2 f b h _
    have : t = n := by omega
    subst this
    refine ⟨f, ?_, ?_⟩
    · show f_X4_richestThere_7s _ _ _ _ _ _ _ = _
      unfold f_X4_richestThere_7s
      rw [if_pos (pu_refl_n t)]
    · show f_X12_richestOf_5s _ _ _ _ = _
      unfold f_X12_richestOf_5s
      rw [pu_c0, hs0, if_pos (pu_refl_n t)]
  | succ j ih =>
    intro t c c2 f b h hI
    have htn : t < n := by omega
    have ht7 : t < 7 := by omega
    have hlt : ¬ nI n ≤ nI t := pu_lt htn h1
    have hbit := pu_mk_bit s n t htn
    obtain ⟨-, -, a3, -, ⟨-, -, ⟨x, hx, ex⟩, -, -⟩⟩ := h8 t htn
    have hC : f_X4_richestThere_7 (c + (j + 1) + 1) f b (nI t) (nI n) th st = f_X4_richestThere_7s (f_X4_richestThere_7 (c + j + 1)) f b (nI t) (nI n) th st := rfl
    have hD : f_X12_richestOf_5 (c2 + (j + 1) + 1) f (nI t) s = f_X12_richestOf_5s (f_X12_richestOf_5 (c2 + j + 1)) f (nI t) s := rfl
    unfold f_X4_richestThere_7s at hC
    unfold f_X12_richestOf_5s f_X12_richestOf_53 at hD
    rw [if_neg hlt, h7, pu_isThere _ (pu_mk_lt7 h1) t ht7, ← h7] at hC
    rw [pu_c0, hs0, if_neg hlt, pu_isHere ht7] at hD
    rw [nI_1] at hC hD
    by_cases hh : s (8 + 5 * t) = 1
    · rw [if_pos (hbit.mpr hh), pu_bind, if_neg pu_10, pu_g ht7 (by decide), pu_g ht7 (by decide), nI_clamp (by omega), a3, ex] at hC
      rw [if_pos hh, pu_bind, if_neg pu_10] at hD
      rcases hI with ⟨rfl, rfl⟩ | ⟨u, hu, rfl, rfl⟩
      · rw [if_neg (show ¬ nI x ≤ (-1 : Int32) by exact Int32.not_le.mpr (Int32.lt_of_lt_of_le (by decide : (-1 : Int32) < 0) (nI_pos' (by omega)))) ] at hC
        rw [if_pos (show (-4 : Int32) < 0 by decide)] at hD
        obtain ⟨e, i1, i2⟩ := ih (t + 1) c c2 (nI t) (nI x) (by omega) (Or.inr ⟨t, htn, rfl, ex.symm⟩)
        exact ⟨e, hC.trans i1, hD.trans i2⟩
      · rw [if_neg (show ¬ nI u < 0 from nI_pos (by omega)), pu_of2 t ht7, pu_bind, pu_of2 u (by omega), pu_bind, pu_g (k := 6 + 5 * t) (L := 39) (by omega) (by decide), pu_g (k := 6 + 5 * u) (L := 39) (by omega) (by decide), nI_clamp (n := 6 + 5 * t) (by omega), nI_clamp (n := 6 + 5 * u) (by omega), ex] at hD
        by_cases hle : nI x ≤ s (6 + 5 * u)
        · rw [if_pos hle] at hC hD
          obtain ⟨e, i1, i2⟩ := ih (t + 1) c c2 (nI u) _ (by omega) (Or.inr ⟨u, hu, rfl, rfl⟩)
          exact ⟨e, hC.trans i1, hD.trans i2⟩
        · rw [if_neg hle] at hC hD
          obtain ⟨e, i1, i2⟩ := ih (t + 1) c c2 (nI t) (nI x) (by omega) (Or.inr ⟨t, htn, rfl, ex.symm⟩)
          exact ⟨e, hC.trans i1, hD.trans i2⟩
    · rw [if_neg (fun q => hh (hbit.mp q)), pu_bind, if_pos rfl] at hC
      rw [if_neg hh, pu_bind, if_pos rfl] at hD
      obtain ⟨e, i1, i2⟩ := ih (t + 1) c c2 f b (by omega) hI
      exact ⟨e, hC.trans i1, hD.trans i2⟩
theorem pu_or0 (x : Int32) : x ||| 0 = x := by
  cases x with | ofUInt32 u => cases u with | ofBitVec b => exact congrArg (fun q => Int32.ofUInt32 (UInt32.ofBitVec q)) (BitVec.or_zero)
theorem pu_poloop {B n : Nat} {th bi da : Int32} {kd fg st wa s : Nat → Int32} (hR : pu_R B n th bi da kd fg st wa s) : ∀ (j t c c2 : Nat) (e : Int32), t + j = n → ∃ e', f_X4_poor_4 (c + j + 1) e (nI t) (nI n) th bi kd fg st = some e' ∧ f_X12_poorOnes_4 (c2 + j + 1) e (nI t) s = some e' := by
  obtain ⟨h1, hs0, -, hs3, ⟨bb, hbb, ebb⟩, -, h7, h8⟩ := id hR
  intro j
  induction j with
  | zero =>
    intro t c c2 e h
    have : t = n := by omega
    subst this
    refine ⟨e, ?_, ?_⟩
    · show f_X4_poor_4s _ _ _ _ _ _ _ _ _ = _
      unfold f_X4_poor_4s
      rw [if_pos (pu_refl_n t)]
    · show f_X12_poorOnes_4s _ _ _ _ = _
      unfold f_X12_poorOnes_4s
      rw [pu_c0, hs0, if_pos (pu_refl_n t)]
  | succ j ih =>
    intro t c c2 e h
    have htn : t < n := by omega
    have ht7 : t < 7 := by omega
    have hlt : ¬ nI n ≤ nI t := pu_lt htn h1
    have hbit := pu_mk_bit s n t htn
    obtain ⟨a1, a2, a3, -, ⟨⟨k, hk, ek⟩, ⟨f, hf, ef⟩, ⟨x, hx, ex⟩, -, -⟩⟩ := h8 t htn
    obtain ⟨o, ho, eo⟩ := pu_ob hk hf hbb
    have hC : f_X4_poor_4 (c + (j + 1) + 1) e (nI t) (nI n) th bi kd fg st = f_X4_poor_4s (f_X4_poor_4 (c + j + 1)) e (nI t) (nI n) th bi kd fg st := rfl
    have hD : f_X12_poorOnes_4 (c2 + (j + 1) + 1) e (nI t) s = f_X12_poorOnes_4s (f_X12_poorOnes_4 (c2 + j + 1)) e (nI t) s := rfl
    unfold f_X4_poor_4s at hC
    unfold f_X12_poorOnes_4s f_X12_poorOnes_53 f_X12_poorOnes_54 at hD
    rw [if_neg hlt, h7, pu_isThere _ (pu_mk_lt7 h1) t ht7, ← h7] at hC
    rw [pu_c0, hs0, if_neg hlt, pu_isHere ht7] at hD
    rw [nI_1] at hC hD
    rw [pu_or0] at hD
    by_cases hh : s (8 + 5 * t) = 1
    · rw [if_pos (hbit.mpr hh), pu_bind, if_neg pu_10, pu_g ht7 (by decide), nI_clamp (by omega), pu_owedBy ht7 hk hf (a1.trans ek) (a2.trans ef), a1, a2, a3, ek, ef, ex, ebb, eo, pu_bind, ← ebb] at hC
      rw [if_pos hh, pu_bind, if_neg pu_10, pu_of2 t ht7, pu_bind, pu_g (by omega) (by decide), nI_clamp (by omega), pu_owes ht7, ek, ef, ex, hs3, ebb, eo, pu_bind] at hD
      by_cases hle : nI o ≤ nI x
      · rw [if_pos hle] at hC hD
        obtain ⟨e', i1, i2⟩ := ih (t + 1) c c2 e (by omega)
        exact ⟨e', hC.trans i1, hD.trans i2⟩
      · rw [if_neg hle] at hC hD
        obtain ⟨e', i1, i2⟩ := ih (t + 1) c c2 _ (by omega)
        exact ⟨e', hC.trans i1, hD.trans i2⟩
    · rw [if_neg (fun q => hh (hbit.mp q)), pu_bind, if_pos rfl] at hC
      rw [if_neg hh, pu_bind, if_pos rfl] at hD
      obtain ⟨e', i1, i2⟩ := ih (t + 1) c c2 e (by omega)
      exact ⟨e', hC.trans i1, hD.trans i2⟩
theorem pu_shl1 : ∀ n, n < 8 → (1 : Int32) <<< (nI n &&& 31) = nI (2 ^ n) := by decide +kernel
theorem pu_sub_le {a K : Nat} (h : a ^^^ (a &&& K) = 0) : a ≤ K := by
  have h2 : a &&& K = a := by
    apply Nat.eq_of_testBit_eq
    intro t
    have h1 := pu_lessbit a K t
    rw [h, Nat.zero_testBit] at h1
    rw [Nat.testBit_and]
    cases ha : a.testBit t <;> cases hb : K.testBit t <;> rw [ha, hb] at h1 <;> first | rfl | cases h1
  rw [← h2]; exact Nat.and_le_right
theorem pu_ev2 {B n : Nat} {th bi da : Int32} {kd fg st wa s : Nat → Int32} (hR : pu_R B n th bi da kd fg st wa s) : ∀ (j x c : Nat) (f : Int32), x + j = 128 → 2 ^ n ≤ x → f_X11_greatestEven_4 (c + j + 1) f (nI x) (nI n) th bi kd fg st = some f := by
  obtain ⟨h1, hs0, -, hs3, -, -, h7, h8⟩ := id hR
  intro j
  induction j with
  | zero =>
    intro x c f h _
    have : x = 128 := by omega
    subst this
    rfl
  | succ j ih =>
    intro x c f h hx
    have hC : f_X11_greatestEven_4 (c + (j + 1) + 1) f (nI x) (nI n) th bi kd fg st = f_X11_greatestEven_4s (f_X11_greatestEven_4 (c + j + 1)) f (nI x) (nI n) th bi kd fg st := rfl
    unfold f_X11_greatestEven_4s at hC
    have hne : ¬ (nI x &&& (th ^^^ (-1 : Int32))) = 0 := by
      rw [h7, pu_less x (by omega) _ (pu_mk_lt7 h1)]
      have hlt := pu_xlt (a := x) (b := pu_mk s n) (by omega)
      intro q
      rw [show (0 : Int32) = nI 0 from rfl, nI_eq (by omega) (by omega)] at q
      have := pu_sub_le q
      have := pu_mk_lt s n
      omega
    rw [if_neg (show ¬ (128 : Int32) ≤ nI x from nI_ge (b := 128) (by omega) (by omega)), if_neg hne, nI_1] at hC
    exact hC.trans (ih (x + 1) c f (by omega) (by omega))
theorem pu_ev1 {B n : Nat} {th bi da : Int32} {kd fg st wa s : Nat → Int32} (hR : pu_R B n th bi da kd fg st wa s) : ∀ (j x c c2 f : Nat), x + j = 2 ^ n → f < 128 → ∃ e, f_X11_greatestEven_4 (c + (128 - 2 ^ n) + j + 1) (nI f) (nI x) (nI n) th bi kd fg st = some e ∧ f_X12_evenOnes_4 (c2 + j + 1) (nI f) (nI x) s = some e := by
  obtain ⟨h1, hs0, -, hs3, -, -, h7, h8⟩ := id hR
  have h2n : 2 ^ n ≤ 128 := Nat.pow_le_pow_right (n := 2) (by decide) h1
  intro j
  induction j with
  | zero =>
    intro x c c2 f h hf
    have : x = 2 ^ n := by omega
    subst this
    refine ⟨nI f, pu_ev2 hR (128 - 2 ^ n) (2 ^ n) c (nI f) (by omega) (Nat.le_refl _), ?_⟩
    show f_X12_evenOnes_4s _ _ _ _ = _
    unfold f_X12_evenOnes_4s
    rw [pu_c0, hs0, pu_shl1 n (by omega), if_pos (pu_refl_n _)]
  | succ j ih =>
    intro x c c2 f h hf
    have hC : f_X11_greatestEven_4 (c + (128 - 2 ^ n) + (j + 1) + 1) (nI f) (nI x) (nI n) th bi kd fg st = f_X11_greatestEven_4s (f_X11_greatestEven_4 (c + (128 - 2 ^ n) + j + 1)) (nI f) (nI x) (nI n) th bi kd fg st := rfl
    have hD : f_X12_evenOnes_4 (c2 + (j + 1) + 1) (nI f) (nI x) s = f_X12_evenOnes_4s (f_X12_evenOnes_4 (c2 + j + 1)) (nI f) (nI x) s := rfl
    unfold f_X11_greatestEven_4s at hC
    unfold f_X12_evenOnes_4s at hD
    rw [if_neg (show ¬ (128 : Int32) ≤ nI x from nI_ge (b := 128) (by omega) (by omega)), nI_1] at hC
    rw [pu_c0, hs0, pu_shl1 n (by omega), if_neg (nI_ge (by omega) (by omega)), pu_hereIn hR, pu_bind, nI_1] at hD
    by_cases hz : (nI x &&& (th ^^^ (-1 : Int32))) = 0
    · obtain ⟨cx, -, p1, p2⟩ := pu_bits2 x (by omega)
      obtain ⟨cf, -, q1, q2⟩ := pu_bits2 f hf
      rw [if_pos hz, p2, pu_bind, q2, pu_bind] at hC
      rw [if_pos hz, p1, pu_bind, q1, pu_bind] at hD
      by_cases hle : nI cx ≤ nI cf
      · rw [if_pos hle] at hC hD
        obtain ⟨e, i1, i2⟩ := ih (x + 1) c c2 f (by omega) hf
        exact ⟨e, hC.trans i1, hD.trans i2⟩
      · obtain ⟨a, -, a1, a2⟩ := pu_stores hR (nI x)
        obtain ⟨o, -, o1, o2⟩ := pu_owed hR (nI x)
        rw [if_neg hle, a1, pu_bind, o1, pu_bind] at hC
        rw [if_neg hle, a2, pu_bind, o2, pu_bind] at hD
        by_cases hlt : nI a < (2 : Int32) * nI o
        · rw [if_pos hlt] at hC hD
          obtain ⟨e, i1, i2⟩ := ih (x + 1) c c2 f (by omega) hf
          exact ⟨e, hC.trans i1, hD.trans i2⟩
        · rw [if_neg hlt] at hC hD
          obtain ⟨e, i1, i2⟩ := ih (x + 1) c c2 x (by omega) (by omega)
          exact ⟨e, hC.trans i1, hD.trans i2⟩
    · rw [if_neg hz] at hC hD
      obtain ⟨e, i1, i2⟩ := ih (x + 1) c c2 f (by omega) hf
      exact ⟨e, hC.trans i1, hD.trans i2⟩
/-! partings -/
def pu_ss (v : Nat → Nat) (m : Nat) : Nat → Nat
  | 0 => 0
  | t + 1 => pu_ss v m t + (if m.testBit t = true then v t else 0)
theorem pu_ss_le {v : Nat → Nat} {m : Nat} : ∀ t, (∀ u, u < t → v u ≤ 99) → pu_ss v m t ≤ 99 * t
  | 0, _ => by simp [pu_ss]
  | t + 1, h => by
    have := pu_ss_le (v := v) (m := m) t (fun u hu => h u (by omega))
    have h2 := h t (by omega)
    unfold pu_ss
    split <;> omega
theorem pu_ss_add (v : Nat → Nat) {m K : Nat} (h : m ^^^ (m &&& K) = 0) : ∀ t, pu_ss v m t + pu_ss v (K ^^^ (K &&& m)) t = pu_ss v K t
  | 0 => rfl
  | t + 1 => by
    have ih := pu_ss_add v h t
    have h1 := pu_lessbit m K t
    rw [h, Nat.zero_testBit] at h1
    have h2 := pu_lessbit K m t
    unfold pu_ss
    rw [h2]
    cases ha : m.testBit t <;> cases hb : K.testBit t <;> rw [ha, hb] at h1 <;> first | (simp; omega) | cases h1
theorem pu_ss_0 (v : Nat → Nat) : ∀ t, pu_ss v 0 t = 0
  | 0 => rfl
  | t + 1 => by
    unfold pu_ss
    rw [pu_ss_0 v t, Nat.zero_testBit]
    rfl
theorem pu_ssloop {n m : Nat} (hn : n ≤ 7) (hm : m < 128) {st : Nat → Int32} {v : Nat → Nat} (hv : ∀ t, t < n → st t = nI (v t)) : ∀ (j t c : Nat), t + j = n → f_X4_storeOfSet_4 (c + j) (nI m) (nI (pu_ss v m t)) (nI t) (nI n) st = f_X4_storeOfSet_4 c (nI m) (nI (pu_ss v m n)) (nI n) (nI n) st := by
  intro j
  induction j with
  | zero =>
    intro t c h
    have : t = n := by omega
    subst this
    rfl
  | succ j ih =>
    intro t c h
    have htn : t < n := by omega
    rw [← ih (t + 1) c (by omega)]
    show f_X4_storeOfSet_4s (f_X4_storeOfSet_4 (c + j)) (nI m) _ (nI t) (nI n) st = _
    unfold f_X4_storeOfSet_4s
    rw [if_neg (pu_lt htn hn), pu_hasBit m hm t (by omega), pu_bind]
    by_cases hb : m.testBit t = true
    · rw [if_pos hb, if_neg pu_10, pu_g (by omega) (by decide), nI_clamp (by omega), hv t htn, nI_add, nI_1]
      show _ = f_X4_storeOfSet_4 (c + j) (nI m) (nI (pu_ss v m t + (if m.testBit t = true then v t else 0))) _ _ _
      rw [if_pos hb]
    · rw [if_neg hb, if_pos rfl, nI_1]
      show _ = f_X4_storeOfSet_4 (c + j) (nI m) (nI (pu_ss v m t + (if m.testBit t = true then v t else 0))) _ _ _
      rw [if_neg hb]
      rfl
theorem pu_sset {B n m : Nat} (hm : m < 128) {th bi da : Int32} {kd fg st wa s : Nat → Int32} (hR : pu_R B n th bi da kd fg st wa s) {v : Nat → Nat} (hv : ∀ t, t < n → st t = nI (v t)) : f_X4_storeOfSet (nI m) (nI n) st = some (nI (pu_ss v m n)) ∧ f_X12_storesIn (nI m) s = some (nI (pu_ss v m n)) := by
  have hn : n ≤ 7 := hR.1
  have h := pu_ssloop hn hm hv n 0 (2000 - n) (by omega)
  have e : f_X4_storeOfSet (nI m) (nI n) st = some (nI (pu_ss v m n)) := by
    rw [show 2000 - n + n = 2000 by omega] at h
    refine Eq.trans h ?_
    rw [show 2000 - n = (1999 - n) + 1 by omega]
    show f_X4_storeOfSet_4s _ _ _ _ _ _ = _
    unfold f_X4_storeOfSet_4s
    rw [if_pos (pu_refl_n n)]
  obtain ⟨a, -, a1, a2⟩ := pu_stores hR (nI m)
  rw [e] at a1
  rw [← a1] at a2
  exact ⟨e, a2⟩
def pu_ct (P : Nat → Bool) (a : Nat) : Nat → Nat
  | 0 => 0
  | k + 1 => pu_ct P a k + (if P (a + k) = true then 1 else 0)
theorem pu_ct_le (P : Nat → Bool) (a : Nat) : ∀ k, pu_ct P a k ≤ k
  | 0 => Nat.le_refl 0
  | k + 1 => by
    have := pu_ct_le P a k
    unfold pu_ct
    split <;> omega
theorem pu_ct_left (P : Nat → Bool) : ∀ (k a : Nat), pu_ct P a (k + 1) = (if P a = true then 1 else 0) + pu_ct P (a + 1) k
  | 0, a => by show 0 + _ = _ + 0; rw [Nat.zero_add, Nat.add_zero, Nat.add_zero]
  | k + 1, a => by
    have ih := pu_ct_left P k a
    show pu_ct P a (k + 1) + (if P (a + (k + 1)) = true then 1 else 0) = _ + (pu_ct P (a + 1) k + (if P (a + 1 + k) = true then 1 else 0))
    rw [ih, show a + (k + 1) = a + 1 + k by omega, Nat.add_assoc]
theorem pu_ct_even (P : Nat → Bool) {K : Nat} (hs : ∀ i, i ≤ K → P i = P (K - i)) (hmid : ∀ i, 2 * i = K → P i = false) : ∀ (k a : Nat), 2 * a + k = K + 1 → ∃ e, pu_ct P a k = 2 * e
  | 0, a, _ => ⟨0, rfl⟩
  | 1, a, h => ⟨0, by
    show 0 + (if P (a + 0) = true then 1 else 0) = 0
    rw [Nat.add_zero, hmid a (by omega)]
    rfl⟩
  | k + 2, a, h => by
    obtain ⟨e, ih⟩ := pu_ct_even P hs hmid k (a + 1) (by omega)
    have h1 := pu_ct_left P (k + 1) a
    have h2 : pu_ct P (a + 1) (k + 1) = pu_ct P (a + 1) k + (if P (a + 1 + k) = true then 1 else 0) := rfl
    have h3 := hs a (by omega)
    rw [show K - a = a + 1 + k by omega] at h3
    rw [h1, h2, ih, ← h3]
    by_cases hp : P a = true
    · rw [if_pos hp]; exact ⟨e + 1, by omega⟩
    · rw [if_neg hp]; exact ⟨e, by omega⟩
theorem pu_ct_cut (P : Nat → Bool) {K : Nat} (h0 : ∀ i, K < i → P i = false) : ∀ k, pu_ct P 0 (K + 1 + k) = pu_ct P 0 (K + 1)
  | 0 => rfl
  | k + 1 => by
    show pu_ct P 0 (K + 1 + k) + (if P (0 + (K + 1 + k)) = true then 1 else 0) = _
    rw [pu_ct_cut P h0 k, h0 _ (by omega)]
    rfl
def pu_pt (v : Nat → Nat) (n K m : Nat) : Bool := decide (m ^^^ (m &&& K) = 0 ∧ 2 * pu_ss v m n = pu_ss v K n)
theorem pu_sub_eq : ∀ K, K < 128 → ∀ m, m < 128 → m ≤ K → m ^^^ (m &&& K) = 0 → K ^^^ (K &&& m) = K - m := by decide +kernel
theorem pu_sub_sym : ∀ K, K < 128 → ∀ m, m < 128 → m ≤ K → (m ^^^ (m &&& K) = 0 ↔ (K - m) ^^^ ((K - m) &&& K) = 0) := by decide +kernel
theorem pu_sub_mid : ∀ K, K < 128 → ¬ K = 0 → ∀ m, m < 128 → 2 * m = K → ¬ m ^^^ (m &&& K) = 0 := by decide +kernel
theorem pu_pt_sym {v : Nat → Nat} {n K : Nat} (hK : K < 128) {m : Nat} (h : m ≤ K) : pu_pt v n K m = pu_pt v n K (K - m) := by
  unfold pu_pt
  have h1 := pu_sub_sym K hK m (by omega) h
  by_cases hm : m ^^^ (m &&& K) = 0
  · have h2 := pu_ss_add v hm n
    rw [pu_sub_eq K hK m (by omega) h hm] at h2
    refine decide_eq_decide.mpr ⟨fun q => ⟨h1.mp hm, by have := q.2; omega⟩, fun q => ⟨hm, by have := q.2; omega⟩⟩
  · exact decide_eq_decide.mpr ⟨fun q => absurd q.1 hm, fun q => absurd (h1.mpr q.1) hm⟩
theorem pu_pt_hi {v : Nat → Nat} {n K m : Nat} (h : K < m) : pu_pt v n K m = false := decide_eq_false (fun q => by have := pu_sub_le q.1; omega)
theorem pu_wloop {B n : Nat} {th bi da : Int32} {kd fg st wa s : Nat → Int32} (hR : pu_R B n th bi da kd fg st wa s) {v : Nat → Nat} (hv : ∀ t, t < n → st t = nI (v t)) (hv9 : ∀ t, t < n → v t ≤ 99) : ∀ (j x c : Nat), x + j = 128 → f_X11_waysToPart_19 (c + j) (nI (pu_ss v (pu_mk s n) n)) (nI (pu_ct (pu_pt v n (pu_mk s n)) 0 x)) (nI x) (nI n) th st = f_X11_waysToPart_19 c (nI (pu_ss v (pu_mk s n) n)) (nI (pu_ct (pu_pt v n (pu_mk s n)) 0 128)) (nI 128) (nI n) th st := by
  obtain ⟨h1, hs0, -, hs3, -, -, h7, h8⟩ := id hR
  have hK : pu_mk s n < 128 := pu_mk_lt7 h1
  intro j
  induction j with
  | zero =>
    intro x c h
    have : x = 128 := by omega
    subst this
    rfl
  | succ j ih =>
    intro x c h
    rw [← ih (x + 1) c (by omega)]
    show f_X11_waysToPart_19s (f_X11_waysToPart_19 (c + j)) _ _ (nI x) (nI n) th st = _
    unfold f_X11_waysToPart_19s
    have hP : pu_ct (pu_pt v n (pu_mk s n)) 0 (x + 1) = pu_ct (pu_pt v n (pu_mk s n)) 0 x + (if pu_pt v n (pu_mk s n) x = true then 1 else 0) := by
      show _ + (if pu_pt v n (pu_mk s n) (0 + x) = true then 1 else 0) = _
      rw [Nat.zero_add]
    rw [if_neg (show ¬ (128 : Int32) ≤ nI x from nI_ge (b := 128) (by omega) (by omega)), hP, nI_1, nI_1]
    have hz : (nI x &&& (th ^^^ (-1 : Int32))) = 0 ↔ x ^^^ (x &&& pu_mk s n) = 0 := by
      rw [h7, pu_less x (by omega) _ hK]
      have hlt := pu_xlt (a := x) (b := pu_mk s n) (by omega)
      rw [show (0 : Int32) = nI 0 from rfl, nI_eq (by omega) (by omega)]
    have hl1 := pu_ss_le (v := v) (m := x) n hv9
    have hl2 := pu_ss_le (v := v) (m := pu_mk s n) n hv9
    by_cases c1 : x ^^^ (x &&& pu_mk s n) = 0
    · rw [if_pos (hz.mpr c1), (pu_sset (by omega) hR hv).1, pu_bind, show (2 : Int32) * nI (pu_ss v x n) = nI (2 * pu_ss v x n) from pk_mul 2 _]
      by_cases c2 : 2 * pu_ss v x n = pu_ss v (pu_mk s n) n
      · rw [if_pos (show nI (2 * pu_ss v x n) = nI (pu_ss v (pu_mk s n) n) by rw [c2]), if_pos (show pu_pt v n (pu_mk s n) x = true from decide_eq_true ⟨c1, c2⟩)]
      · rw [if_neg (fun q => c2 ((nI_eq (by omega) (by omega)).mp q)), if_neg (show ¬ pu_pt v n (pu_mk s n) x = true from fun q => c2 (of_decide_eq_true q).2)]
        rfl
    · rw [if_neg (fun q => c1 (hz.mp q)), if_neg (show ¬ pu_pt v n (pu_mk s n) x = true from fun q => c1 (of_decide_eq_true q).1)]
      rfl
theorem pu_ploop {B n : Nat} {th bi da : Int32} {kd fg st wa s : Nat → Int32} (hR : pu_R B n th bi da kd fg st wa s) {v : Nat → Nat} (hv : ∀ t, t < n → st t = nI (v t)) (hv9 : ∀ t, t < n → v t ≤ 99) : ∀ (j x c : Nat), x + j = 2 ^ n → f_X12_partings_12 (c + j) th (nI (pu_ct (pu_pt v n (pu_mk s n)) 0 x)) (nI x) s = f_X12_partings_12 c th (nI (pu_ct (pu_pt v n (pu_mk s n)) 0 (2 ^ n))) (nI (2 ^ n)) s := by
  obtain ⟨h1, hs0, -, hs3, -, -, h7, h8⟩ := id hR
  have hK : pu_mk s n < 128 := pu_mk_lt7 h1
  have h2n : 2 ^ n ≤ 128 := Nat.pow_le_pow_right (n := 2) (by decide) h1
  intro j
  induction j with
  | zero =>
    intro x c h
    have : x = 2 ^ n := by omega
    subst this
    rfl
  | succ j ih =>
    intro x c h
    rw [← ih (x + 1) c (by omega)]
    show f_X12_partings_12s (f_X12_partings_12 (c + j)) th _ (nI x) s = _
    unfold f_X12_partings_12s f_X12_partings_58 f_X12_partings_59
    have hP : pu_ct (pu_pt v n (pu_mk s n)) 0 (x + 1) = pu_ct (pu_pt v n (pu_mk s n)) 0 x + (if pu_pt v n (pu_mk s n) x = true then 1 else 0) := by
      show _ + (if pu_pt v n (pu_mk s n) (0 + x) = true then 1 else 0) = _
      rw [Nat.zero_add]
    rw [pu_c0, hs0, pu_shl1 n (by omega), if_neg (nI_ge (by omega) (by omega)), hP, nI_1, nI_1, Int32.add_zero]
    have hz : (nI x &&& (th ^^^ (-1 : Int32))) = 0 ↔ x ^^^ (x &&& pu_mk s n) = 0 := by
      rw [h7, pu_less x (by omega) _ hK]
      have hlt := pu_xlt (a := x) (b := pu_mk s n) (by omega)
      rw [show (0 : Int32) = nI 0 from rfl, nI_eq (by omega) (by omega)]
    have hl1 := pu_ss_le (v := v) (m := x) n hv9
    have hl2 := pu_ss_le (v := v) (m := pu_mk s n) n hv9
    by_cases c1 : x ^^^ (x &&& pu_mk s n) = 0
    · have hT : f_X12_storesIn th s = some (nI (pu_ss v (pu_mk s n) n)) := by rw [h7]; exact (pu_sset hK hR hv).2
      rw [if_pos (hz.mpr c1), (pu_sset (by omega) hR hv).2, pu_bind, hT, pu_bind, show (2 : Int32) * nI (pu_ss v x n) = nI (2 * pu_ss v x n) from pk_mul 2 _]
      by_cases c2 : 2 * pu_ss v x n = pu_ss v (pu_mk s n) n
      · rw [if_pos (show nI (2 * pu_ss v x n) = nI (pu_ss v (pu_mk s n) n) by rw [c2]), if_pos (show pu_pt v n (pu_mk s n) x = true from decide_eq_true ⟨c1, c2⟩)]
      · rw [if_neg (fun q => c2 ((nI_eq (by omega) (by omega)).mp q)), if_neg (show ¬ pu_pt v n (pu_mk s n) x = true from fun q => c2 (of_decide_eq_true q).2)]
        rfl
    · rw [if_neg (fun q => c1 (hz.mp q)), if_neg (show ¬ pu_pt v n (pu_mk s n) x = true from fun q => c1 (of_decide_eq_true q).1)]
      rfl
theorem pu_parts {B n : Nat} {th bi da : Int32} {kd fg st wa s : Nat → Int32} (hR : pu_R B n th bi da kd fg st wa s) : ∃ e, f_X11_waysToPart (nI n) th st = some e ∧ f_X12_partings s = some e := by
  obtain ⟨h1, hs0, -, hs3, -, -, h7, h8⟩ := id hR
  have hK : pu_mk s n < 128 := pu_mk_lt7 h1
  have h2n : 2 ^ n ≤ 128 := Nat.pow_le_pow_right (n := 2) (by decide) h1
  have hKn := pu_mk_lt s n
  have hv : ∀ t, t < n → st t = nI ((fun t => (st t).toNatClampNeg) t) := fun t ht => by
    obtain ⟨-, -, a3, -, ⟨-, -, ⟨x, hx, ex⟩, -, -⟩⟩ := h8 t ht
    show st t = nI (st t).toNatClampNeg
    rw [a3, ex, nI_clamp (by omega)]
  have hv9 : ∀ t, t < n → (fun t => (st t).toNatClampNeg) t ≤ 99 := fun t ht => by
    obtain ⟨-, -, a3, -, ⟨-, -, ⟨x, hx, ex⟩, -, -⟩⟩ := h8 t ht
    show (st t).toNatClampNeg ≤ 99
    rw [a3, ex, nI_clamp (by omega)]
    exact hx
  generalize hvv : (fun t => (st t).toNatClampNeg) = v at hv hv9
  have w := pu_wloop hR hv hv9 128 0 1872 (by omega)
  have p := pu_ploop hR hv hv9 (2 ^ n) 0 (2000 - 2 ^ n) (by omega)
  rw [show 2000 - 2 ^ n + 2 ^ n = 2000 by omega] at p
  have hT : f_X4_storeOfSet th (nI n) st = some (nI (pu_ss v (pu_mk s n) n)) := by rw [h7]; exact (pu_sset hK hR hv).1
  have hct1 : pu_ct (pu_pt v n (pu_mk s n)) 0 128 = pu_ct (pu_pt v n (pu_mk s n)) 0 (pu_mk s n + 1) := by
    have := pu_ct_cut (pu_pt v n (pu_mk s n)) (K := pu_mk s n) (fun i hi => pu_pt_hi hi) (128 - (pu_mk s n + 1))
    rw [show pu_mk s n + 1 + (128 - (pu_mk s n + 1)) = 128 by omega] at this
    exact this
  have hct2 : pu_ct (pu_pt v n (pu_mk s n)) 0 (2 ^ n) = pu_ct (pu_pt v n (pu_mk s n)) 0 (pu_mk s n + 1) := by
    have := pu_ct_cut (pu_pt v n (pu_mk s n)) (K := pu_mk s n) (fun i hi => pu_pt_hi hi) (2 ^ n - (pu_mk s n + 1))
    rw [show pu_mk s n + 1 + (2 ^ n - (pu_mk s n + 1)) = 2 ^ n by omega] at this
    exact this
  have hle := pu_ct_le (pu_pt v n (pu_mk s n)) 0 (pu_mk s n + 1)
  have c1 : f_X11_waysToPart (nI n) th st = some ((nI (pu_ct (pu_pt v n (pu_mk s n)) 0 (pu_mk s n + 1)) + 1) / 2) := by
    unfold f_X11_waysToPart
    rw [hT, pu_bind]
    refine Eq.trans w ?_
    rw [hct1]
    rfl
  have c2 : f_X12_partings s = (if th = 0 then some 1 else some (nI (pu_ct (pu_pt v n (pu_mk s n)) 0 (pu_mk s n + 1)) / 2)) := by
    unfold f_X12_partings
    rw [pu_hereIn hR, pu_bind]
    refine Eq.trans p ?_
    rw [hct2, show 2000 - 2 ^ n = (1999 - 2 ^ n) + 1 by omega]
    show f_X12_partings_12s _ _ _ _ _ = _
    unfold f_X12_partings_12s
    rw [pu_c0, hs0, pu_shl1 n (by omega), if_pos (pu_refl_n _)]
  rw [c1, c2]
  by_cases hz : pu_mk s n = 0
  · rw [if_pos (show th = 0 by rw [h7, hz]; rfl), hz]
    have : pu_ct (pu_pt v n 0) 0 (0 + 1) = 1 := by
      show 0 + (if pu_pt v n 0 (0 + 0) = true then 1 else 0) = 1
      rw [if_pos (show pu_pt v n 0 0 = true from decide_eq_true ⟨rfl, by rw [pu_ss_0]⟩)]
    rw [this]
    exact ⟨1, rfl, rfl⟩
  · obtain ⟨e, he⟩ := pu_ct_even (pu_pt v n (pu_mk s n)) (K := pu_mk s n) (fun i hi => pu_pt_sym hK hi) (fun i hi => decide_eq_false (fun q => pu_sub_mid _ hK hz i (by omega) hi q.1)) (pu_mk s n + 1) 0 (by omega)
    rw [he] at hle ⊢
    rw [if_neg (show ¬ th = 0 by rw [h7]; exact nI_ne0 (by omega) (by omega)), nI_1]
    refine ⟨nI e, ?_, ?_⟩
    · rw [show nI (2 * e + 1) / (2 : Int32) = nI ((2 * e + 1) / 2) from pk_div (d := 2) (by omega) (by omega) (by omega), show (2 * e + 1) / 2 = e by omega]
    · rw [show nI (2 * e) / (2 : Int32) = nI (2 * e / 2) from pk_div (d := 2) (by omega) (by omega) (by omega), show 2 * e / 2 = e by omega]
theorem po_richest {n : Nat} {th bi se da : Int32} {kd fg st wa s : Nat → Int32} (hQ : pu_Q 999 n se kd fg (th, bi, da, st, wa) s) (x1 : Int32) : ∃ a, f_X11_richest x1 (nI n) th bi da kd fg st = some a ∧ f_X12_richest x1 s = some a := by
  obtain ⟨hR, -⟩ := hQ
  have hR : pu_R 999 n th bi da kd fg st wa s := hR
  have hn : n ≤ 7 := hR.1
  obtain ⟨d, hd, ed⟩ := hR.2.2.2.2.2.1
  unfold f_X11_richest f_X12_richest
  by_cases q0 : x1 = 0
  · rw [if_pos q0, if_pos q0]
    obtain ⟨e, i1, i2⟩ := pu_riloop hR n 0 (1999 - n) (1999 - n) (-4) (-1) (by omega) (Or.inl ⟨rfl, rfl⟩)
    rw [show 1999 - n + n + 1 = 2000 by omega, nI_0] at i1 i2
    rw [show f_X4_richestThere (nI n) th st = some e from i1, show f_X12_richestOf s = some e from i2]
    exact ⟨e, rfl, rfl⟩
  · rw [if_neg q0, if_neg q0]
    by_cases q1 : x1 = 1
    · rw [if_pos q1, if_pos q1, ed, pu_dToRent (by omega), pu_toRent (by omega) (hR.2.2.1.trans ed)]
      exact ⟨_, rfl, rfl⟩
    · rw [if_neg q1, if_neg q1, pu_hereIn hR, pu_bind, pu_bind]
      by_cases q2 : x1 = 2
      · obtain ⟨a, -, e1, e2⟩ := pu_owed hR th
        rw [if_pos q2, if_pos q2, e1, e2]
        exact ⟨_, rfl, rfl⟩
      · rw [if_neg q2, if_neg q2]
        by_cases q3 : x1 = 3
        · obtain ⟨a, -, e1, e2⟩ := pu_stores hR th
          rw [if_pos q3, if_pos q3, e1, e2]
          exact ⟨_, rfl, rfl⟩
        · rw [if_neg q3, if_neg q3]
          by_cases q4 : x1 = 4
          · obtain ⟨e, i1, i2⟩ := pu_poloop hR n 0 (1999 - n) (1999 - n) 0 (by omega)
            rw [show 1999 - n + n + 1 = 2000 by omega, nI_0] at i1 i2
            rw [if_pos q4, if_pos q4, show f_X4_poor (nI n) th bi kd fg st = some e from i1, show f_X12_poorOnes s = some e from i2]
            exact ⟨_, rfl, rfl⟩
          · rw [if_neg q4, if_neg q4]
            by_cases q5 : x1 = 5
            · have h2n : 2 ^ n ≤ 128 := Nat.pow_le_pow_right (n := 2) (by decide) hn
              have h2p : 1 ≤ 2 ^ n := Nat.one_le_two_pow
              obtain ⟨e, i1, i2⟩ := pu_ev1 hR (2 ^ n - 1) 1 1872 (1999 - 2 ^ n) 0 (by omega) (by omega)
              rw [show 1872 + (128 - 2 ^ n) + (2 ^ n - 1) + 1 = 2000 by omega] at i1
              rw [show 1999 - 2 ^ n + (2 ^ n - 1) + 1 = 1999 by omega] at i2
              have i3 : f_X12_evenOnes s = some e := by
                rw [← i2]
                show f_X12_evenOnes_4s (f_X12_evenOnes_4 1999) 0 0 s = _
                unfold f_X12_evenOnes_4s
                rw [pu_c0, hR.2.1, pu_shl1 n (by omega), if_neg (show ¬ nI (2 ^ n) ≤ (0 : Int32) from nI_nle (by omega) (by omega)), pu_hereIn hR, pu_bind]
                obtain ⟨c0, -, p1, -⟩ := pu_bits2 0 (by omega)
                have p1 : f_X12_bits (0 : Int32) = some (nI c0) := p1
                rw [if_pos (show ((0 : Int32) &&& (th ^^^ (-1 : Int32))) = 0 from Int32.zero_and), p1, pu_bind, pu_bind, if_pos (pu_refl_n _)]
                rfl
              rw [if_pos q5, if_pos q5, show f_X11_greatestEven (nI n) th bi kd fg st = some e from i1, i3]
              exact ⟨_, rfl, rfl⟩
            · rw [if_neg q5, if_neg q5]
              by_cases q6 : x1 = 6
              · obtain ⟨e, e1, e2⟩ := pu_parts hR
                rw [if_pos q6, if_pos q6, e1, e2]
                exact ⟨_, rfl, rfl⟩
              · rw [if_neg q6, if_neg q6]
                exact ⟨_, rfl, rfl⟩
