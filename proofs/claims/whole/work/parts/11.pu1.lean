/-! what the functions compute: numbers and the two isles side by side -/
theorem pu_g {α : Type} {k L : Nat} (hk : k < L) (hL : L < 2 ^ 31) (A : Option α) : (if nI k < 0 ∨ L ≤ (nI k).toNatClampNeg then none else A) = A := if_neg (vp_in_nI hk hL)
theorem pu_of0 : ∀ t, t < 7 → f_X12_of (nI t) (0 : Int32) = some (nI (4 + 5 * t)) := by decide +kernel
theorem pu_of1 : ∀ t, t < 7 → f_X12_of (nI t) (1 : Int32) = some (nI (5 + 5 * t)) := by decide +kernel
theorem pu_of2 : ∀ t, t < 7 → f_X12_of (nI t) (2 : Int32) = some (nI (6 + 5 * t)) := by decide +kernel
theorem pu_of3 : ∀ t, t < 7 → f_X12_of (nI t) (3 : Int32) = some (nI (7 + 5 * t)) := by decide +kernel
theorem pu_of4 : ∀ t, t < 7 → f_X12_of (nI t) (4 : Int32) = some (nI (8 + 5 * t)) := by decide +kernel
theorem pu_upd {f : Nat → Int32} {k : Nat} {x : Int32} : upd f k x k = x := if_pos rfl
theorem pu_updn {f : Nat → Int32} {k j : Nat} {x : Int32} (h : j ≠ k) : upd f k x j = f j := if_neg h
theorem pu_c0 : (0 : Int32).toNatClampNeg = 0 := rfl
theorem pu_c1 : (1 : Int32).toNatClampNeg = 1 := rfl
theorem pu_c2 : (2 : Int32).toNatClampNeg = 2 := rfl
theorem pu_c3 : (3 : Int32).toNatClampNeg = 3 := rfl
theorem pu_bind {α β : Type} (a : α) (f : α → Option β) : Option.bind (some a) f = f a := rfl
theorem pu_isHere {t : Nat} (ht : t < 7) (r : Nat → Int32) : f_X12_isHere (nI t) r = some (if r (8 + 5 * t) = 1 then 1 else 0) := by
  unfold f_X12_isHere
  rw [pu_of4 t ht, pu_bind, pu_g (by omega) (by decide), nI_clamp (by omega)]
  split <;> rfl
theorem pu_isThere : ∀ m, m < 128 → ∀ t, t < 7 → f_X4_isThere (nI t) (nI m) = some (if m.testBit t = true then 1 else 0) := by decide +kernel
/-- who is there, as a mask, by the row's own marks -/
def pu_mk (r : Nat → Int32) : Nat → Nat
  | 0 => 0
  | n + 1 => (if r (8 + 5 * n) = 1 then 2 ^ n else 0) + pu_mk r n
theorem pu_mk_lt (r : Nat → Int32) : ∀ n, pu_mk r n < 2 ^ n
  | 0 => by simp [pu_mk]
  | n + 1 => by
    have h := pu_mk_lt r n
    have h2 : 2 ^ (n + 1) = 2 ^ n + 2 ^ n := by rw [Nat.pow_succ]; omega
    unfold pu_mk
    split <;> omega
theorem pu_mk_lt7 {r : Nat → Int32} {n : Nat} (hn : n ≤ 7) : pu_mk r n < 128 := Nat.lt_of_lt_of_le (pu_mk_lt r n) (Nat.pow_le_pow_right (by decide) hn)
theorem pu_mk_bit (r : Nat → Int32) : ∀ (n t : Nat), t < n → ((pu_mk r n).testBit t = true ↔ r (8 + 5 * t) = 1)
  | 0, t, h => absurd h (Nat.not_lt_zero t)
  | n + 1, t, h => by
    unfold pu_mk
    by_cases ht : t = n
    · subst ht
      split
      · rename_i hc
        rw [Nat.testBit_two_pow_add_eq, Nat.testBit_lt_two_pow (pu_mk_lt r t)]
        simp [hc]
      · rename_i hc
        rw [Nat.zero_add, Nat.testBit_lt_two_pow (pu_mk_lt r t)]
        simp [hc]
    · have ht' : t < n := by omega
      split
      · rw [Nat.testBit_two_pow_add_gt ht']
        exact pu_mk_bit r n t ht'
      · rw [Nat.zero_add]
        exact pu_mk_bit r n t ht'
theorem pu_mk_hi (r : Nat → Int32) {n t : Nat} (h : n ≤ t) : (pu_mk r n).testBit t = false :=
  Nat.testBit_lt_two_pow (Nat.lt_of_lt_of_le (pu_mk_lt r n) (Nat.pow_le_pow_right (by decide) h))
theorem pu_mk_congr {r r' : Nat → Int32} : ∀ {n : Nat}, (∀ t, t < n → (r' (8 + 5 * t) = 1 ↔ r (8 + 5 * t) = 1)) → pu_mk r' n = pu_mk r n
  | 0, _ => rfl
  | n + 1, h => by
    unfold pu_mk
    rw [pu_mk_congr (n := n) (fun t ht => h t (by omega))]
    have := h n (by omega)
    by_cases hc : r (8 + 5 * n) = 1
    · rw [if_pos hc, if_pos (this.mpr hc)]
    · rw [if_neg hc, if_neg (fun q => hc (this.mp q))]
/-- one tenant's numbers -/
def pu_T (r : Nat → Int32) (t : Nat) : Prop := (∃ k, k < 8 ∧ r (4 + 5 * t) = nI k) ∧ (∃ f, f ≤ 9 ∧ r (5 + 5 * t) = nI f) ∧ (∃ v, v ≤ 99 ∧ r (6 + 5 * t) = nI v) ∧ (∃ w, w ≤ 2 ∧ r (7 + 5 * t) = nI w ∧ (r (8 + 5 * t) = 1 → w ≤ 1)) ∧ (r (8 + 5 * t) = 0 ∨ r (8 + 5 * t) = 1)
/-- the class's isle (but its sea) and the reference's row say the same -/
def pu_R (B n : Nat) (th bi da : Int32) (kd fg st wa r : Nat → Int32) : Prop :=
  n ≤ 7 ∧ r 0 = nI n ∧ r 1 = da ∧ r 3 = bi ∧ (∃ b, b ≤ 99 ∧ bi = nI b) ∧ (∃ d, d ≤ B ∧ da = nI d) ∧ th = nI (pu_mk r n) ∧ ∀ t, t < n → kd t = r (4 + 5 * t) ∧ fg t = r (5 + 5 * t) ∧ st t = r (6 + 5 * t) ∧ wa t = r (7 + 5 * t) ∧ pu_T r t
theorem pu_R_st {B n : Nat} {th bi da : Int32} {kd fg st wa r : Nat → Int32} (h : pu_R B n th bi da kd fg st wa r) {t x : Nat} (hx : x ≤ 99) : pu_R B n th bi da kd fg (upd st t (nI x)) wa (upd r (6 + 5 * t) (nI x)) := by
  obtain ⟨h1, h2, h3, h4, h5, h6, h7, h8⟩ := h
  refine ⟨h1, by rw [pu_updn (by omega)]; exact h2, by rw [pu_updn (by omega)]; exact h3, by rw [pu_updn (by omega)]; exact h4, h5, h6, ?_, fun u hu => ?_⟩
  · rw [pu_mk_congr (r := r) (fun u _ => by rw [pu_updn (by omega)])]; exact h7
  · obtain ⟨a1, a2, a3, a4, ⟨b1, b2, b3, b4, b5⟩⟩ := h8 u hu
    have e4 : upd r (6 + 5 * t) (nI x) (4 + 5 * u) = r (4 + 5 * u) := pu_updn (by omega)
    have e5 : upd r (6 + 5 * t) (nI x) (5 + 5 * u) = r (5 + 5 * u) := pu_updn (by omega)
    have e7 : upd r (6 + 5 * t) (nI x) (7 + 5 * u) = r (7 + 5 * u) := pu_updn (by omega)
    have e8 : upd r (6 + 5 * t) (nI x) (8 + 5 * u) = r (8 + 5 * u) := pu_updn (by omega)
    by_cases hut : u = t
    · subst hut
      refine ⟨by rw [e4]; exact a1, by rw [e5]; exact a2, by rw [pu_upd, pu_upd], by rw [e7]; exact a4, by rw [e4]; exact b1, by rw [e5]; exact b2, ⟨x, hx, pu_upd⟩, by rw [e7, e8]; exact b4, by rw [e8]; exact b5⟩
    · have e6 : upd r (6 + 5 * t) (nI x) (6 + 5 * u) = r (6 + 5 * u) := pu_updn (by omega)
      refine ⟨by rw [e4]; exact a1, by rw [e5]; exact a2, by rw [pu_updn hut, e6]; exact a3, by rw [e7]; exact a4, by rw [e4]; exact b1, by rw [e5]; exact b2, by rw [e6]; exact b3, by rw [e7, e8]; exact b4, by rw [e8]; exact b5⟩
theorem pu_R_wa {B n : Nat} {th bi da : Int32} {kd fg st wa r : Nat → Int32} (h : pu_R B n th bi da kd fg st wa r) {t x : Nat} (hx : x ≤ 2) (hx1 : r (8 + 5 * t) = 1 → x ≤ 1) : pu_R B n th bi da kd fg st (upd wa t (nI x)) (upd r (7 + 5 * t) (nI x)) := by
  obtain ⟨h1, h2, h3, h4, h5, h6, h7, h8⟩ := h
  refine ⟨h1, by rw [pu_updn (by omega)]; exact h2, by rw [pu_updn (by omega)]; exact h3, by rw [pu_updn (by omega)]; exact h4, h5, h6, ?_, fun u hu => ?_⟩
  · rw [pu_mk_congr (r := r) (fun u _ => by rw [pu_updn (by omega)])]; exact h7
  · obtain ⟨a1, a2, a3, a4, ⟨b1, b2, b3, b4, b5⟩⟩ := h8 u hu
    have e4 : upd r (7 + 5 * t) (nI x) (4 + 5 * u) = r (4 + 5 * u) := pu_updn (by omega)
    have e5 : upd r (7 + 5 * t) (nI x) (5 + 5 * u) = r (5 + 5 * u) := pu_updn (by omega)
    have e6 : upd r (7 + 5 * t) (nI x) (6 + 5 * u) = r (6 + 5 * u) := pu_updn (by omega)
    have e8 : upd r (7 + 5 * t) (nI x) (8 + 5 * u) = r (8 + 5 * u) := pu_updn (by omega)
    by_cases hut : u = t
    · subst hut
      refine ⟨by rw [e4]; exact a1, by rw [e5]; exact a2, by rw [e6]; exact a3, by rw [pu_upd, pu_upd], by rw [e4]; exact b1, by rw [e5]; exact b2, by rw [e6]; exact b3, ⟨x, hx, pu_upd, by rw [e8]; exact hx1⟩, by rw [e8]; exact b5⟩
    · have e7 : upd r (7 + 5 * t) (nI x) (7 + 5 * u) = r (7 + 5 * u) := pu_updn (by omega)
      refine ⟨by rw [e4]; exact a1, by rw [e5]; exact a2, by rw [e6]; exact a3, by rw [pu_updn hut, e7]; exact a4, by rw [e4]; exact b1, by rw [e5]; exact b2, by rw [e6]; exact b3, by rw [e7, e8]; exact b4, by rw [e8]; exact b5⟩
/-- clearing a bit -/
theorem pu_clear : ∀ m, m < 128 → ∀ t, t < 7 → (nI m &&& (((1 : Int32) <<< (nI t &&& 31)) ^^^ (-1 : Int32))) = nI (m - (if m.testBit t = true then 2 ^ t else 0)) := by decide +kernel
theorem pu_mk_clear (r : Nat → Int32) (t : Nat) : ∀ n, t < n → pu_mk (upd r (8 + 5 * t) 0) n = pu_mk r n - (if (pu_mk r n).testBit t = true then 2 ^ t else 0)
  | 0, h => absurd h (Nat.not_lt_zero t)
  | n + 1, h => by
    by_cases ht : t = n
    · subst ht
      have hc : pu_mk (upd r (8 + 5 * t) 0) t = pu_mk r t := pu_mk_congr (fun u hu => by rw [pu_updn (by omega)])
      have hb := pu_mk_bit r (t + 1) t (by omega)
      by_cases h1 : r (8 + 5 * t) = 1
      · rw [if_pos (hb.mpr h1)]
        unfold pu_mk
        rw [pu_upd, if_neg (by decide), if_pos h1, hc]
        omega
      · rw [if_neg (fun q => h1 (hb.mp q))]
        unfold pu_mk
        rw [pu_upd, if_neg (by decide), if_neg h1, hc]
        rfl
    · have ht' : t < n := by omega
      have ih := pu_mk_clear r t n ht'
      have e : upd r (8 + 5 * t) 0 (8 + 5 * n) = r (8 + 5 * n) := pu_updn (by omega)
      have hb := pu_mk_bit r (n + 1) t (by omega)
      have hb2 := pu_mk_bit r n t ht'
      have hge : r (8 + 5 * t) = 1 → 2 ^ t ≤ pu_mk r n := fun q => Nat.ge_two_pow_of_testBit (hb2.mpr q)
      by_cases h1 : r (8 + 5 * t) = 1
      · rw [if_pos (hb.mpr h1)]
        rw [if_pos (hb2.mpr h1)] at ih
        have := hge h1
        unfold pu_mk
        rw [e, ih]
        omega
      · rw [if_neg (fun q => h1 (hb.mp q))]
        rw [if_neg (fun q => h1 (hb2.mp q))] at ih
        unfold pu_mk
        rw [e, ih]
        omega
theorem pu_R_go {B n : Nat} {th bi da : Int32} {kd fg st wa r : Nat → Int32} (h : pu_R B n th bi da kd fg st wa r) {t : Nat} (ht : t < n) : pu_R B n (th &&& (((1 : Int32) <<< (nI t &&& 31)) ^^^ (-1 : Int32))) bi da kd fg st wa (upd r (8 + 5 * t) 0) := by
  obtain ⟨h1, h2, h3, h4, h5, h6, h7, h8⟩ := h
  refine ⟨h1, by rw [pu_updn (by omega)]; exact h2, by rw [pu_updn (by omega)]; exact h3, by rw [pu_updn (by omega)]; exact h4, h5, h6, ?_, fun u hu => ?_⟩
  · rw [h7, pu_clear _ (pu_mk_lt7 h1) t (by omega), pu_mk_clear r t n ht]
  · obtain ⟨a1, a2, a3, a4, ⟨b1, b2, b3, b4, b5⟩⟩ := h8 u hu
    have e4 : upd r (8 + 5 * t) 0 (4 + 5 * u) = r (4 + 5 * u) := pu_updn (by omega)
    have e5 : upd r (8 + 5 * t) 0 (5 + 5 * u) = r (5 + 5 * u) := pu_updn (by omega)
    have e6 : upd r (8 + 5 * t) 0 (6 + 5 * u) = r (6 + 5 * u) := pu_updn (by omega)
    have e7 : upd r (8 + 5 * t) 0 (7 + 5 * u) = r (7 + 5 * u) := pu_updn (by omega)
    refine ⟨by rw [e4]; exact a1, by rw [e5]; exact a2, by rw [e6]; exact a3, by rw [e7]; exact a4, by rw [e4]; exact b1, by rw [e5]; exact b2, by rw [e6]; exact b3, ?_, ?_⟩
    · obtain ⟨w, w1, w2, w3⟩ := b4
      refine ⟨w, w1, by rw [e7]; exact w2, fun q => ?_⟩
      by_cases hut : u = t
      · subst hut; rw [pu_upd] at q; exact absurd q (by decide)
      · rw [pu_updn (by omega)] at q; exact w3 q
    · by_cases hut : u = t
      · subst hut; rw [pu_upd]; exact Or.inl rfl
      · rw [pu_updn (by omega)]; exact b5
theorem pu_comm {f : Nat → Int32} {a b : Nat} {x y : Int32} (h : a ≠ b) : upd (upd f a x) b y = upd (upd f b y) a x := by
  funext j
  by_cases h1 : j = a
  · subst h1; rw [pu_upd, pu_updn h, pu_upd]
  · by_cases h2 : j = b
    · subst h2; rw [pu_upd, pu_updn h1, pu_upd]
    · rw [pu_updn h2, pu_updn h1, pu_updn h1, pu_updn h2]
theorem pu_same {f : Nat → Int32} {a : Nat} {x : Int32} (h : f a = x) : upd f a x = f := by
  funext j
  by_cases h1 : j = a
  · subst h1; rw [pu_upd, h]
  · rw [pu_updn h1]
