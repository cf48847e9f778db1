/-! catch and rent of a kind -/
theorem pu_div3 : ∀ v, v ≤ 9 → ∀ f, f ≤ 9 → nI v + nI f / (3 : Int32) = nI (v + f / 3) := by decide +kernel
theorem pu_dbl : ∀ x, x ≤ 12 → (2 : Int32) * nI x = nI (2 * x) := by decide +kernel
theorem pu_div2 : ∀ v, v ≤ 20 → nI v / (2 : Int32) = nI (v / 2) := by decide +kernel
theorem pu_div10 : ∀ b, b ≤ 99 → (8 : Int32) + nI b / (10 : Int32) = nI (8 + b / 10) := by decide +kernel
theorem pu_cb {k f v : Nat} (hk : k < 8) (hf : f ≤ 9) (hv : v ≤ 9) (d : Int32) : ∃ c, c ≤ 24 ∧ f_X12_catchesBy (nI k) (nI f) (nI v) d = some (nI c) := by
  rcases (by omega : k = 0 ∨ k = 1 ∨ k = 2 ∨ k = 3 ∨ k = 4 ∨ k = 5 ∨ k = 6 ∨ k = 7) with rfl | rfl | rfl | rfl | rfl | rfl | rfl | rfl
  · exact ⟨v, by omega, rfl⟩
  · exact ⟨v + f / 3, by omega, congrArg some (pu_div3 v hv f hf)⟩
  · exact ⟨2, by omega, rfl⟩
  · exact ⟨v / 2, by omega, congrArg some (pu_div2 v (by omega))⟩
  · by_cases h : (d - d / (2 : Int32) * (2 : Int32)) = 0
    · exact ⟨3, by omega, if_pos h⟩
    · exact ⟨2, by omega, if_neg h⟩
  · by_cases h : (d - d / (3 : Int32) * (3 : Int32)) = 0
    · exact ⟨2 * (v + f / 3), by omega, (if_pos h).trans (by rw [pu_div3 v hv f hf, pu_dbl _ (by omega)])⟩
    · exact ⟨0, by omega, if_neg h⟩
  · exact ⟨v / 2, by omega, congrArg some (pu_div2 v (by omega))⟩
  · exact ⟨1, by omega, rfl⟩
theorem pu_catchOf {t k : Nat} (ht : t < 7) (hk : k < 8) {d se : Int32} {kd fg : Nat → Int32} (hkd : kd t = nI k) : f_X4_catchOf (nI t) d se kd fg = f_X12_catchesBy (kd t) (fg t) se d := by
  unfold f_X4_catchOf
  rw [pu_g ht (by decide), pu_g ht (by decide), nI_clamp (by omega), hkd, pu_g hk (by decide)]
  rcases (by omega : k = 0 ∨ k = 1 ∨ k = 2 ∨ k = 3 ∨ k = 4 ∨ k = 5 ∨ k = 6 ∨ k = 7) with rfl | rfl | rfl | rfl | rfl | rfl | rfl | rfl
  · rfl
  · rfl
  · rfl
  · rfl
  · show (Option.bind (f_X6_catches (fg t) se d) (fun r => some r)) = _
    unfold f_X6_catches f_X0_catches
    by_cases h : (d - d / (2 : Int32) * (2 : Int32)) = 0
    · rw [pu_bind, if_pos h]; exact (if_pos h).symm
    · rw [pu_bind, if_neg h]; exact (if_neg h).symm
  · show (Option.bind (f_X10_catches (fg t) se d) (fun r => some r)) = _
    unfold f_X10_catches
    by_cases h : (d - d / (3 : Int32) * (3 : Int32)) = 0
    · rw [if_pos h]; exact (if_pos h).symm
    · rw [if_neg h]; exact (if_neg h).symm
  · rfl
  · rfl
theorem pu_catches {t : Nat} (ht : t < 7) {d se : Int32} {r : Nat → Int32} : f_X12_catches (nI t) se d r = f_X12_catchesBy (r (4 + 5 * t)) (r (5 + 5 * t)) se d := by
  unfold f_X12_catches
  rw [pu_of0 t ht, pu_bind, pu_g (by omega) (by decide), pu_of1 t ht, pu_bind, pu_g (by omega) (by decide), nI_clamp (by omega), nI_clamp (by omega)]
  cases f_X12_catchesBy (r (4 + 5 * t)) (r (5 + 5 * t)) se d <;> rfl
theorem pu_bake : ∀ f, f ≤ 9 → f_X12_lessBy (8 : Int32) (nI f) = some (nI (8 - f)) := by decide +kernel
theorem pu_bake2 : ∀ f, f ≤ 9 → f_X0_owes (nI f) = some (nI (8 - f)) := by decide +kernel
theorem pu_ob {k f b : Nat} (hk : k < 8) (hf : f ≤ 9) (hb : b ≤ 99) : ∃ o, o ≤ 17 ∧ f_X12_owesBy (nI k) (nI f) (nI b) = some (nI o) := by
  rcases (by omega : k = 0 ∨ k = 1 ∨ k = 2 ∨ k = 3 ∨ k = 4 ∨ k = 5 ∨ k = 6 ∨ k = 7) with rfl | rfl | rfl | rfl | rfl | rfl | rfl | rfl
  · exact ⟨8, by omega, rfl⟩
  · exact ⟨11, by omega, rfl⟩
  · exact ⟨8 - f, by omega, by show Option.bind (f_X12_lessBy (8 : Int32) (nI f)) _ = _; rw [pu_bake f hf]; rfl⟩
  · exact ⟨8 + b / 10, by omega, congrArg some (pu_div10 b hb)⟩
  · exact ⟨(8 - f) / 2, by omega, by show Option.bind (f_X12_lessBy (8 : Int32) (nI f)) _ = _; rw [pu_bake f hf, pu_bind, pu_div2 _ (by omega)]⟩
  · exact ⟨11, by omega, rfl⟩
  · exact ⟨(8 + b / 10) / 2, by omega, by show some (((8 : Int32) + nI b / (10 : Int32)) / (2 : Int32)) = _; rw [pu_div10 b hb, pu_div2 _ (by omega)]⟩
  · exact ⟨0, by omega, rfl⟩
theorem pu_owedBy {t k f : Nat} (ht : t < 7) (hk : k < 8) (hf : f ≤ 9) {bi : Int32} {kd fg : Nat → Int32} (hkd : kd t = nI k) (hfg : fg t = nI f) : f_X4_owedBy (nI t) bi kd fg = f_X12_owesBy (kd t) (fg t) bi := by
  unfold f_X4_owedBy
  rw [pu_g ht (by decide), pu_g ht (by decide), nI_clamp (by omega), hkd, pu_g hk (by decide), hfg]
  rcases (by omega : k = 0 ∨ k = 1 ∨ k = 2 ∨ k = 3 ∨ k = 4 ∨ k = 5 ∨ k = 6 ∨ k = 7) with rfl | rfl | rfl | rfl | rfl | rfl | rfl | rfl
  · rfl
  · rfl
  · show Option.bind (f_X0_owes (nI f)) _ = Option.bind (f_X12_lessBy (8 : Int32) (nI f)) _
    rw [pu_bake f hf, pu_bake2 f hf]
  · rfl
  · show Option.bind (f_X6_owes (nI f) bi) _ = Option.bind (f_X12_lessBy (8 : Int32) (nI f)) _
    unfold f_X6_owes
    rw [pu_bake f hf, pu_bake2 f hf]
    rfl
  · rfl
  · rfl
  · rfl
theorem pu_owes {t : Nat} (ht : t < 7) {r : Nat → Int32} : f_X12_owes (nI t) r = f_X12_owesBy (r (4 + 5 * t)) (r (5 + 5 * t)) (r 3) := by
  unfold f_X12_owes
  rw [pu_of0 t ht, pu_bind, pu_g (by omega) (by decide), pu_of1 t ht, pu_bind, pu_g (by omega) (by decide), nI_clamp (by omega), nI_clamp (by omega), pu_c3]
  cases f_X12_owesBy (r (4 + 5 * t)) (r (5 + 5 * t)) (r 3) <;> rfl
/-! a day's catch -/
theorem pu_eat1 : ∀ x, x ≤ 123 → (if (0 : Int32) < ((if nI x < (99 : Int32) then nI x else (99 : Int32)) - (1 : Int32)) then ((if nI x < (99 : Int32) then nI x else (99 : Int32)) - (1 : Int32)) else (0 : Int32)) = nI (min 99 x - 1) := by decide +kernel
theorem pu_eat2 : ∀ x, x ≤ 123 → Option.bind (f_X12_least (99 : Int32) (nI x)) (fun r19 => f_X12_lessBy r19 (1 : Int32)) = some (nI (min 99 x - 1)) := by decide +kernel
