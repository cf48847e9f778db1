/-! copies, and what is asked of one state -/
theorem pu_copyloop (a : Nat → Int32) : ∀ (j k c : Nat) (b : Nat → Int32), k + j = 39 → f_X12_copies_2 (c + j) (nI k) a b = f_X12_copies_2 c (nI 39) a (fun i => if k ≤ i ∧ i < 39 then a i else b i) := by
  intro j
  induction j with
  | zero =>
    intro k c b h
    have : k = 39 := by omega
    subst this
    have : (fun i => if 39 ≤ i ∧ i < 39 then a i else b i) = b := by
      funext i
      exact if_neg (by omega)
    rw [this]
    rfl
  | succ j ih =>
    intro k c b h
    show f_X12_copies_2s (f_X12_copies_2 (c + j)) (nI k) a b = _
    unfold f_X12_copies_2s
    rw [if_neg (show ¬ (39 : Int32) ≤ nI k from nI_ge (a := k) (b := 39) (by omega) (by omega)), pu_g (by omega) (by decide), pu_g (by omega) (by decide), nI_clamp (by omega), nI_1, ih (k + 1) c _ (by omega)]
    have : (fun i => if k + 1 ≤ i ∧ i < 39 then a i else upd b k (a k) i) = (fun i => if k ≤ i ∧ i < 39 then a i else b i) := by
      funext i
      by_cases h1 : i = k
      · subst h1
        rw [if_neg (by omega), if_pos (by omega), pu_upd]
      · rw [pu_updn h1]
        by_cases h2 : k ≤ i ∧ i < 39
        · rw [if_pos h2, if_pos (by omega)]
        · rw [if_neg h2, if_neg (by omega)]
    rw [this]
def pu_cp (a b : Nat → Int32) : Nat → Int32 := fun i => if i < 39 then a i else b i
theorem pu_cp_lt {a b : Nat → Int32} {i : Nat} (h : i < 39) : pu_cp a b i = a i := if_pos h
theorem pu_copies (a b : Nat → Int32) : f_X12_copies a b = some (pu_cp a b) := by
  have h := pu_copyloop a 39 0 1961 b (by omega)
  rw [nI_0] at h
  show f_X12_copies_2 2000 0 a b = _
  rw [h]
  show f_X12_copies_2s _ (nI 39) a _ = _
  unfold f_X12_copies_2s
  rw [if_pos (show (39 : Int32) ≤ nI 39 from pu_refl_n 39)]
  have : (fun i => if 0 ≤ i ∧ i < 39 then a i else b i) = pu_cp a b := by
    funext i
    unfold pu_cp
    by_cases h2 : i < 39
    · rw [if_pos h2, if_pos (by omega)]
    · rw [if_neg h2, if_neg (by omega)]
  rw [this]
theorem pu_R_cg {B n : Nat} {th bi da : Int32} {kd fg st wa r kd' fg' st' wa' r' : Nat → Int32} (h : pu_R B n th bi da kd fg st wa r) (hr : ∀ i, i < 39 → r' i = r i) (hk : ∀ t, t < 7 → kd' t = kd t) (hf : ∀ t, t < 7 → fg' t = fg t) (hs : ∀ t, t < 7 → st' t = st t) (hw : ∀ t, t < 7 → wa' t = wa t) : pu_R B n th bi da kd' fg' st' wa' r' := by
  obtain ⟨h1, h2, h3, h4, h5, h6, h7, h8⟩ := h
  refine ⟨h1, by rw [hr 0 (by omega)]; exact h2, by rw [hr 1 (by omega)]; exact h3, by rw [hr 3 (by omega)]; exact h4, h5, h6, ?_, fun t ht => ?_⟩
  · rw [pu_mk_congr (r := r) (fun u hu => by rw [hr _ (by omega)])]; exact h7
  · unfold pu_T
    rw [hr _ (by omega), hr _ (by omega), hr _ (by omega), hr _ (by omega), hr _ (by omega), hk t (by omega), hf t (by omega), hs t (by omega), hw t (by omega)]
    exact h8 t ht
theorem pu_cpy7 {f g : Nat → Int32} {t : Nat} (h : t < 7) : va_cpy f g (0 : Int32).toNatClampNeg (0 : Int32).toNatClampNeg (7 : Int32).toNatClampNeg t = f t := by
  show (if 0 ≤ t ∧ t < 0 + 7 then f (0 + (t - 0)) else g t) = f t
  rw [if_pos (by omega), Nat.zero_add, Nat.sub_zero]
/-- knows, isTenant -/
theorem pu_knows {n : Nat} (hn : n ≤ 7) (x : Int32) {s : Nat → Int32} (hs : s 0 = nI n) : (∃ t, t < n ∧ x = nI t ∧ f_X4_knows x (nI n) = some 1 ∧ f_X12_isTenant x s = some 1) ∨ (f_X4_knows x (nI n) = some 0 ∧ f_X12_isTenant x s = some 0) := by
  unfold f_X4_knows f_X12_isTenant f_X12_isIn
  rw [pu_c0, hs]
  by_cases h0 : x < 0
  · right
    rw [if_pos h0, if_pos h0]
    exact ⟨rfl, rfl⟩
  · obtain ⟨j, hj, rfl⟩ := nI_of h0
    rw [if_neg h0, if_neg h0]
    by_cases h1 : j < n
    · left
      refine ⟨j, h1, rfl, ?_, ?_⟩
      · rw [if_neg (nI_ge h1 (by omega))]
      · rw [show nI n - (1 : Int32) = nI (n - 1) from (pk_sub (b := 1) (by omega)), if_neg (nI_nlt (by omega) (by omega))]
        rfl
    · right
      refine ⟨if_pos (nI_le (by omega) hj), ?_⟩
      have : nI n - (1 : Int32) < nI j := by
        rcases Nat.eq_zero_or_pos n with rfl | hp
        · rw [Int32.lt_iff_toInt_lt, nI_toInt hj]
          have : (nI 0 - (1 : Int32)).toInt = -1 := by decide
          rw [this]
          omega
        · rw [show nI n - (1 : Int32) = nI (n - 1) from (pk_sub (b := 1) (by omega))]
          exact nI_lt (by omega) hj
      rw [if_pos this]
      rfl
theorem pu_and1 (x : Int32) : x &&& 1 = 0 ∨ x &&& 1 = 1 := by
  obtain ⟨j, hj, e⟩ := pk_andE x (m := 1) 1 (by decide)
  rcases (by omega : j = 0 ∨ j = 1) with rfl | rfl
  · exact Or.inl e
  · exact Or.inr e
theorem pu_has (x y : Int32) : f_X12_has x y = f_X11_hasBit x y := by
  unfold f_X12_has f_X11_hasBit
  rcases pu_and1 (x >>> (y &&& 31)) with h | h
  · rw [h]; rfl
  · rw [h]; rfl
theorem pu_hb (x y : Int32) : f_X11_hasBit x y = some 0 ∨ f_X11_hasBit x y = some 1 := by
  unfold f_X11_hasBit
  by_cases h : ((x >>> (y &&& 31)) &&& (1 : Int32)) = 0
  · exact Or.inl (if_pos h)
  · exact Or.inr (if_neg h)
theorem pu_hasBit : ∀ m, m < 128 → ∀ t, t < 7 → f_X11_hasBit (nI m) (nI t) = some (if m.testBit t = true then 1 else 0) := by decide +kernel
theorem pu_or : ∀ t, t < 7 → ∀ m, m < 128 → m < 2 ^ t → (nI m ||| ((1 : Int32) <<< (nI t &&& 31))) = nI (2 ^ t + m) ∧ (nI m ||| ((0 : Int32) <<< (nI t &&& 31))) = nI m := by decide +kernel
theorem pu_hereloop {B n : Nat} {th bi da : Int32} {kd fg st wa r : Nat → Int32} (hR : pu_R B n th bi da kd fg st wa r) : ∀ (j t c : Nat), t + j = n → f_X12_hereIn_4 (c + j) (nI (pu_mk r t)) (nI t) r = f_X12_hereIn_4 c th (nI n) r := by
  obtain ⟨h1, h2, h3, h4, h5, h6, h7, h8⟩ := id hR
  intro j
  induction j with
  | zero =>
    intro t c h
    have : t = n := by omega
    subst this
    rw [h7]
    rfl
  | succ j ih =>
    intro t c h
    have htn : t < n := by omega
    have ht : t < 7 := by omega
    obtain ⟨-, -, -, -, ⟨-, -, -, -, b5⟩⟩ := h8 t htn
    have hm : pu_mk r t < 128 := pu_mk_lt7 (by omega)
    obtain ⟨o1, o2⟩ := pu_or t ht _ hm (pu_mk_lt r t)
    have hst : (nI (pu_mk r t) ||| (r (8 + 5 * t) <<< (nI t &&& 31))) = nI (pu_mk r (t + 1)) := by
      show _ = nI ((if r (8 + 5 * t) = 1 then 2 ^ t else 0) + pu_mk r t)
      rcases b5 with b5 | b5
      · rw [b5, if_neg (by decide), Nat.zero_add]; exact o2
      · rw [b5, if_pos rfl]; exact o1
    show f_X12_hereIn_4s (f_X12_hereIn_4 (c + j)) (nI (pu_mk r t)) (nI t) r = _
    have hlt : ¬ nI n ≤ nI t := pu_lt htn h1
    rw [show f_X12_hereIn_4s (f_X12_hereIn_4 (c + j)) (nI (pu_mk r t)) (nI t) r = f_X12_hereIn_4 (c + j) (nI (pu_mk r (t + 1))) (nI (t + 1)) r by
      unfold f_X12_hereIn_4s
      rw [pu_c0, h2, if_neg hlt, pu_of4 t ht, pu_bind, pu_g (by omega) (by decide), nI_clamp (by omega), hst, nI_1]]
    exact ih (t + 1) c (by omega)
theorem pu_hereIn {B n : Nat} {th bi da : Int32} {kd fg st wa r : Nat → Int32} (hR : pu_R B n th bi da kd fg st wa r) : f_X12_hereIn r = some th := by
  have hn : n ≤ 7 := hR.1
  have h := pu_hereloop hR n 0 (2000 - n) (by omega)
  rw [show 2000 - n + n = 2000 by omega] at h
  show f_X12_hereIn_4 2000 (nI 0) (nI 0) r = _
  refine h.trans ?_
  rw [show 2000 - n = (1999 - n) + 1 by omega]
  show f_X12_hereIn_4s _ _ _ _ = _
  unfold f_X12_hereIn_4s
  rw [pu_c0, hR.2.1, if_pos (pu_refl_n n)]
theorem pu_bits : ∀ m, m < 128 → ∃ c, c < 8 ∧ f_X12_bits (nI m) = some (nI c) ∧ f_X4_howManyThere (nI m) = some (nI c) := by decide +kernel
theorem pu_stloop {B n : Nat} {th bi da : Int32} {kd fg st wa r : Nat → Int32} (hR : pu_R B n th bi da kd fg st wa r) (set : Int32) : ∀ (j t c c2 a : Nat), t + j = n → a ≤ 99 * t → ∃ a', a' ≤ 99 * n ∧ f_X4_storeOfSet_4 (c + j) set (nI a) (nI t) (nI n) st = f_X4_storeOfSet_4 c set (nI a') (nI n) (nI n) st ∧ f_X12_storesIn_4 (c2 + j) set (nI a) (nI t) r = f_X12_storesIn_4 c2 set (nI a') (nI n) r := by
  obtain ⟨h1, h2, h3, h4, h5, h6, h7, h8⟩ := id hR
  intro j
  induction j with
  | zero =>
    intro t c c2 a h ha
    have : t = n := by omega
    subst this
    exact ⟨a, ha, rfl, rfl⟩
  | succ j ih =>
    intro t c c2 a h ha
    have htn : t < n := by omega
    have ht : t < 7 := by omega
    obtain ⟨-, -, a3, -, ⟨-, -, ⟨x, hx, ex⟩, -, -⟩⟩ := h8 t htn
    have hlt : ¬ nI n ≤ nI t := pu_lt htn h1
    rcases pu_hb set (nI t) with hb | hb
    · obtain ⟨a', ha', e1, e2⟩ := ih (t + 1) c c2 a (by omega) (by omega)
      refine ⟨a', ha', ?_, ?_⟩
      · rw [← e1]
        show f_X4_storeOfSet_4s (f_X4_storeOfSet_4 (c + j)) set (nI a) (nI t) (nI n) st = _
        unfold f_X4_storeOfSet_4s
        rw [if_neg hlt, hb, pu_bind, if_pos rfl, nI_1]
      · rw [← e2]
        show f_X12_storesIn_4s (f_X12_storesIn_4 (c2 + j)) set (nI a) (nI t) r = _
        unfold f_X12_storesIn_4s f_X12_storesIn_31
        rw [pu_c0, h2, if_neg hlt, pu_has, hb, pu_bind, if_pos rfl, nI_1, Int32.add_zero]
    · obtain ⟨a', ha', e1, e2⟩ := ih (t + 1) c c2 (a + x) (by omega) (by omega)
      refine ⟨a', ha', ?_, ?_⟩
      · rw [← e1]
        show f_X4_storeOfSet_4s (f_X4_storeOfSet_4 (c + j)) set (nI a) (nI t) (nI n) st = _
        unfold f_X4_storeOfSet_4s
        rw [if_neg hlt, hb, pu_bind, if_neg (by decide), pu_g ht (by decide), nI_clamp (by omega), a3, ex, nI_add, nI_1]
      · rw [← e2]
        show f_X12_storesIn_4s (f_X12_storesIn_4 (c2 + j)) set (nI a) (nI t) r = _
        unfold f_X12_storesIn_4s f_X12_storesIn_31
        rw [pu_c0, h2, if_neg hlt, pu_has, hb, pu_bind, if_neg (by decide), pu_of2 t ht, pu_bind, pu_g (by omega) (by decide), nI_clamp (by omega), ex, nI_add, nI_1]
theorem pu_stores {B n : Nat} {th bi da : Int32} {kd fg st wa r : Nat → Int32} (hR : pu_R B n th bi da kd fg st wa r) (set : Int32) : ∃ a, a ≤ 693 ∧ f_X4_storeOfSet set (nI n) st = some (nI a) ∧ f_X12_storesIn set r = some (nI a) := by
  have hn : n ≤ 7 := hR.1
  obtain ⟨a', ha', e1, e2⟩ := pu_stloop hR set n 0 (2000 - n) (2000 - n) 0 (by omega) (by omega)
  rw [show 2000 - n + n = 2000 by omega] at e1 e2
  refine ⟨a', by omega, ?_, ?_⟩
  · show f_X4_storeOfSet_4 2000 set (nI 0) (nI 0) (nI n) st = _
    rw [e1, show 2000 - n = (1999 - n) + 1 by omega]
    show f_X4_storeOfSet_4s _ _ _ _ _ _ = _
    unfold f_X4_storeOfSet_4s
    rw [if_pos (pu_refl_n n)]
  · show f_X12_storesIn_4 2000 set (nI 0) (nI 0) r = _
    rw [e2, show 2000 - n = (1999 - n) + 1 by omega]
    show f_X12_storesIn_4s _ _ _ _ _ = _
    unfold f_X12_storesIn_4s
    rw [pu_c0, hR.2.1, if_pos (pu_refl_n n)]
theorem pu_owloop {B n : Nat} {th bi da : Int32} {kd fg st wa r : Nat → Int32} (hR : pu_R B n th bi da kd fg st wa r) (set : Int32) : ∀ (j t c c2 a : Nat), t + j = n → a ≤ 17 * t → ∃ a', a' ≤ 17 * n ∧ f_X4_owedBySet_4 (c + j) set (nI a) (nI t) (nI n) bi kd fg = f_X4_owedBySet_4 c set (nI a') (nI n) (nI n) bi kd fg ∧ f_X12_owedBy_4 (c2 + j) set (nI a) (nI t) r = f_X12_owedBy_4 c2 set (nI a') (nI n) r := by
  obtain ⟨h1, h2, h3, h4, ⟨bb, hbb, ebb⟩, h6, h7, h8⟩ := id hR
  intro j
  induction j with
  | zero =>
    intro t c c2 a h ha
    have : t = n := by omega
    subst this
    exact ⟨a, ha, rfl, rfl⟩
  | succ j ih =>
    intro t c c2 a h ha
    have htn : t < n := by omega
    have ht : t < 7 := by omega
    obtain ⟨a1, a2, a3, -, ⟨⟨k, hk, ek⟩, ⟨f, hf, ef⟩, -, -, -⟩⟩ := h8 t htn
    obtain ⟨o, ho, eo⟩ := pu_ob hk hf hbb
    have hlt : ¬ nI n ≤ nI t := pu_lt htn h1
    rcases pu_hb set (nI t) with hb | hb
    · obtain ⟨a', ha', e1, e2⟩ := ih (t + 1) c c2 a (by omega) (by omega)
      refine ⟨a', ha', ?_, ?_⟩
      · rw [← e1]
        show f_X4_owedBySet_4s (f_X4_owedBySet_4 (c + j)) set (nI a) (nI t) (nI n) bi kd fg = _
        unfold f_X4_owedBySet_4s
        rw [if_neg hlt, hb, pu_bind, if_pos rfl, nI_1]
      · rw [← e2]
        show f_X12_owedBy_4s (f_X12_owedBy_4 (c2 + j)) set (nI a) (nI t) r = _
        unfold f_X12_owedBy_4s f_X12_owedBy_35
        rw [pu_c0, h2, if_neg hlt, pu_has, hb, pu_bind, if_pos rfl, nI_1, Int32.add_zero]
    · obtain ⟨a', ha', e1, e2⟩ := ih (t + 1) c c2 (a + o) (by omega) (by omega)
      refine ⟨a', ha', ?_, ?_⟩
      · rw [← e1]
        show f_X4_owedBySet_4s (f_X4_owedBySet_4 (c + j)) set (nI a) (nI t) (nI n) bi kd fg = _
        unfold f_X4_owedBySet_4s
        rw [if_neg hlt, hb, pu_bind, if_neg (by decide), pu_owedBy ht hk hf (a1.trans ek) (a2.trans ef), a1, a2, ek, ef, ebb, eo, pu_bind, nI_add, nI_1]
      · rw [← e2]
        show f_X12_owedBy_4s (f_X12_owedBy_4 (c2 + j)) set (nI a) (nI t) r = _
        unfold f_X12_owedBy_4s f_X12_owedBy_35
        rw [pu_c0, h2, if_neg hlt, pu_has, hb, pu_bind, if_neg (by decide), pu_owes ht, ek, ef, h4, ebb, eo, pu_bind, nI_add, nI_1]
theorem pu_owed {B n : Nat} {th bi da : Int32} {kd fg st wa r : Nat → Int32} (hR : pu_R B n th bi da kd fg st wa r) (set : Int32) : ∃ a, a ≤ 119 ∧ f_X4_owedBySet set (nI n) bi kd fg = some (nI a) ∧ f_X12_owedBy set r = some (nI a) := by
  have hn : n ≤ 7 := hR.1
  obtain ⟨a', ha', e1, e2⟩ := pu_owloop hR set n 0 (2000 - n) (2000 - n) 0 (by omega) (by omega)
  rw [show 2000 - n + n = 2000 by omega] at e1 e2
  refine ⟨a', by omega, ?_, ?_⟩
  · show f_X4_owedBySet_4 2000 set (nI 0) (nI 0) (nI n) bi kd fg = _
    rw [e1, show 2000 - n = (1999 - n) + 1 by omega]
    show f_X4_owedBySet_4s _ _ _ _ _ _ _ _ = _
    unfold f_X4_owedBySet_4s
    rw [if_pos (pu_refl_n n)]
  · show f_X12_owedBy_4 2000 set (nI 0) (nI 0) r = _
    rw [e2, show 2000 - n = (1999 - n) + 1 by omega]
    show f_X12_owedBy_4s _ _ _ _ _ = _
    unfold f_X12_owedBy_4s
    rw [pu_c0, hR.2.1, if_pos (pu_refl_n n)]
