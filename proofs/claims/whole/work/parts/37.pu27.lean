/-! copy -/
theorem pu_cpidx {d i k : Nat} (hd : d < 8) (hi : i + k < 2000) : ((((100 : Int32) * nI d) + nI i) + nI k) = nI (100 * d + i + k) := by
  rw [show (100 : Int32) * nI d = nI (100 * d) from pk_mul 100 d, nI_add, nI_add]
theorem pu_cpasc {d e i j n : Nat} (hd : d < 8) (he : e < 8) (hi : i + n ≤ 100) (hj : j + n ≤ 100) (hij : j < i) (em : Nat → Int32) : ∀ (m k c : Nat), k + m = n → f_X12_copy_122 (c + m + 1) (nI d) (nI i) (nI e) (nI j) (nI n) (nI k) (fun t => if 100 * e + j ≤ t ∧ t < 100 * e + j + k then em (100 * d + i + (t - (100 * e + j))) else em t) = some (nI n, fun t => if 100 * e + j ≤ t ∧ t < 100 * e + j + n then em (100 * d + i + (t - (100 * e + j))) else em t) := by
  intro m
  induction m with
  | zero =>
    intro k c h
    have : k = n := by omega
    subst this
    show f_X12_copy_122s _ _ _ _ _ _ _ _ = _
    unfold f_X12_copy_122s
    rw [if_pos (pu_refl_n k)]
  | succ m ih =>
    intro k c h
    rw [← ih (k + 1) c (by omega)]
    show f_X12_copy_122s (f_X12_copy_122 (c + m + 1)) _ _ _ _ _ _ _ = _
    unfold f_X12_copy_122s f_X12_copy_147
    rw [if_neg (nI_ge (by omega) (by omega)), if_neg (show ¬ nI i ≤ nI j from nI_ge hij (by omega)), pu_cpidx hd (by omega), pu_cpidx he (by omega), pu_g (by omega) (by decide), pu_g (by omega) (by decide), nI_clamp (by omega), nI_clamp (by omega), nI_1]
    congr 1
    funext t
    by_cases ht : t = 100 * e + j + k
    · subst ht
      rw [pu_upd]
      dsimp only
      rw [if_neg (show ¬ (100 * e + j ≤ 100 * d + i + k ∧ 100 * d + i + k < 100 * e + j + k) by omega), if_pos (show 100 * e + j ≤ 100 * e + j + k ∧ 100 * e + j + k < 100 * e + j + (k + 1) by omega), show 100 * e + j + k - (100 * e + j) = k by omega]
    · rw [pu_updn ht]
      by_cases hc : 100 * e + j ≤ t ∧ t < 100 * e + j + k
      · rw [if_pos hc, if_pos (by omega)]
      · rw [if_neg hc, if_neg (by omega)]
theorem pu_cpdsc {d e i j n : Nat} (hd : d < 8) (he : e < 8) (hi : i + n ≤ 100) (hj : j + n ≤ 100) (hij : i ≤ j) (em : Nat → Int32) : ∀ (m k c : Nat), k + m = n → f_X12_copy_122 (c + m + 1) (nI d) (nI i) (nI e) (nI j) (nI n) (nI k) (fun t => if 100 * e + j + (n - k) ≤ t ∧ t < 100 * e + j + n then em (100 * d + i + (t - (100 * e + j))) else em t) = some (nI n, fun t => if 100 * e + j + (n - n) ≤ t ∧ t < 100 * e + j + n then em (100 * d + i + (t - (100 * e + j))) else em t) := by
  intro m
  induction m with
  | zero =>
    intro k c h
    have : k = n := by omega
    subst this
    show f_X12_copy_122s _ _ _ _ _ _ _ _ = _
    unfold f_X12_copy_122s
    rw [if_pos (pu_refl_n k)]
  | succ m ih =>
    intro k c h
    rw [← ih (k + 1) c (by omega)]
    show f_X12_copy_122s (f_X12_copy_122 (c + m + 1)) _ _ _ _ _ _ _ = _
    unfold f_X12_copy_122s f_X12_copy_147
    rw [if_neg (nI_ge (by omega) (by omega)), if_pos (show nI i ≤ nI j from nI_le hij (by omega)), show (nI n - (1 : Int32)) - nI k = nI (n - 1 - k) by rw [show nI n - (1 : Int32) = nI (n - 1) from pk_sub (b := 1) (by omega), pk_sub (by omega)], pu_cpidx hd (by omega), pu_cpidx he (by omega), pu_g (by omega) (by decide), pu_g (by omega) (by decide), nI_clamp (by omega), nI_clamp (by omega), nI_1]
    congr 1
    funext t
    by_cases ht : t = 100 * e + j + (n - 1 - k)
    · subst ht
      rw [pu_upd]
      dsimp only
      rw [if_neg (by omega), if_pos (by omega), show 100 * e + j + (n - 1 - k) - (100 * e + j) = n - 1 - k by omega]
    · rw [pu_updn ht]
      by_cases hc : 100 * e + j + (n - k) ≤ t ∧ t < 100 * e + j + n
      · rw [if_pos hc, if_pos (by omega)]
      · rw [if_neg hc, if_neg (by omega)]
def pu_ce (d i e j n : Nat) (em : Nat → Int32) : Nat → Int32 := fun t => if 100 * e + j ≤ t ∧ t < 100 * e + j + n then em (100 * d + i + (t - (100 * e + j))) else em t
theorem pu_cprun {d e i j n : Nat} (hd : d < 8) (he : e < 8) (hi : i + n ≤ 100) (hj : j + n ≤ 100) (em : Nat → Int32) : f_X12_copy_122 2000 (nI d) (nI i) (nI e) (nI j) (nI n) (0 : Int32) em = some (nI n, pu_ce d i e j n em) := by
  rcases Nat.lt_or_ge j i with h | h
  · have g := pu_cpasc hd he hi hj h em n 0 (1999 - n) (by omega)
    rw [show 1999 - n + n + 1 = 2000 by omega, nI_0] at g
    have e0 : (fun t => if 100 * e + j ≤ t ∧ t < 100 * e + j + 0 then em (100 * d + i + (t - (100 * e + j))) else em t) = em := by
      funext t
      exact if_neg (by omega)
    rw [e0] at g
    exact g
  · have g := pu_cpdsc hd he hi hj h em n 0 (1999 - n) (by omega)
    rw [show 1999 - n + n + 1 = 2000 by omega, nI_0] at g
    have e0 : (fun t => if 100 * e + j + (n - 0) ≤ t ∧ t < 100 * e + j + n then em (100 * d + i + (t - (100 * e + j))) else em t) = em := by
      funext t
      exact if_neg (by omega)
    have e1 : (fun t => if 100 * e + j + (n - n) ≤ t ∧ t < 100 * e + j + n then em (100 * d + i + (t - (100 * e + j))) else em t) = pu_ce d i e j n em := by
      funext t
      rw [show 100 * e + j + (n - n) = 100 * e + j by omega]
      rfl
    rw [e0, e1] at g
    exact g
theorem pu_ce_other {d i e j n f t : Nat} {em : Nat → Int32} (hj : j + n ≤ 100) (hf : f ≠ e) (ht : t < 100) : pu_ce d i e j n em (100 * f + t) = em (100 * f + t) := if_neg (by omega)
theorem pu_ce_own {d i e j n t : Nat} {el gl em : Nat → Int32} (hi : i + n ≤ 100) (he : ∀ t, t < 100 → el t = em (100 * d + t)) (hg : ∀ t, t < 100 → gl t = em (100 * e + t)) (ht : t < 100) : va_cpy el gl i j n t = pu_ce d i e j n em (100 * e + t) := by
  show (if j ≤ t ∧ t < j + n then el (i + (t - j)) else gl t) = (if 100 * e + j ≤ 100 * e + t ∧ 100 * e + t < 100 * e + j + n then em (100 * d + i + (100 * e + t - (100 * e + j))) else em (100 * e + t))
  by_cases h : j ≤ t ∧ t < j + n
  · rw [if_pos h, if_pos (by omega), he _ (by omega), show 100 * d + i + (100 * e + t - (100 * e + j)) = 100 * d + (i + (t - j)) by omega]
  · rw [if_neg h, if_neg (by omega), hg t ht]
theorem pu_sublt {a b c : Nat} (ha : a < 2 ^ 31) (hb : b < 2 ^ 31) (hc : c < 2 ^ 31) : nI a - nI b < nI c ↔ a < b + c := by
  have h : (nI a - nI b).toInt = (a : Int) - b := by
    rw [Int32.toInt_sub, nI_toInt ha, nI_toInt hb]
    exact Int.bmod_eq_of_le (by omega) (by omega)
  rw [Int32.lt_iff_toInt_lt, h, nI_toInt hc]
  omega
theorem pu_run (x y : Int32) {z : Nat} (hz : z ≤ 100) : (f_X7_hasRun x y (nI z) = some 0 ∧ (y < 0 ∨ x < 0 ∨ (¬ x < 0 ∧ ¬ y < 0 ∧ nI z - x < y))) ∨ ∃ i n, x = nI i ∧ y = nI n ∧ i + n ≤ z ∧ f_X7_hasRun x y (nI z) = some 1 := by
  unfold f_X7_hasRun
  by_cases hx : x < 0
  · rw [if_pos hx]; exact Or.inl ⟨rfl, Or.inr (Or.inl hx)⟩
  · rw [if_neg hx]
    by_cases hy : y < 0
    · rw [if_pos hy]; exact Or.inl ⟨rfl, Or.inl hy⟩
    · rw [if_neg hy]
      obtain ⟨i, hi, rfl⟩ := nI_of hx
      obtain ⟨n, hn, rfl⟩ := nI_of hy
      by_cases h : z < i + n
      · rw [if_pos ((pu_sublt (by omega) hn hi).mpr (by omega))]
        exact Or.inl ⟨rfl, Or.inr (Or.inr ⟨hx, hy, (pu_sublt (by omega) hi hn).mpr h⟩)⟩
      · rw [if_neg (fun q => h (by have := (pu_sublt (by omega) hn hi).mp q; omega))]
        exact Or.inr ⟨i, n, rfl, rfl, by omega, rfl⟩
theorem po_copy0 {x1 x3 : Int32} (h : f_X11_isShelf x1 = some 0 ∧ f_X12_isShelf x1 = some 0 ∨ (f_X11_isShelf x1 = some 1 ∧ f_X12_isShelf x1 = some 1 ∧ f_X11_isShelf x3 = some 0 ∧ f_X12_isShelf x3 = some 0)) (x2 x4 x5 ho so sz ho2 so2 sz2 : Int32) (el gl : Nat → Int32) (kS kG : Nat) (kp so' sz' em : Nat → Int32) : f_X11_copy x1 x2 x3 x4 x5 ho so sz el ho2 so2 sz2 gl kS kG = some (-1, gl) ∧ f_X12_copy x1 x2 x3 x4 x5 kp so' sz' em = some (-1, em) := by
  unfold f_X11_copy f_X12_copy
  rcases h with ⟨a, b⟩ | ⟨a, b, c, d⟩
  · rw [a, b]; exact ⟨rfl, rfl⟩
  · rw [a, b, c, d]; exact ⟨rfl, rfl⟩
theorem po_copy {d e : Nat} (hd : d < 8) (he : e < 8) {ho ki fi so sz : Int32} {el kp kk kf so' sz' em : Nat → Int32} (h : pu_H d ho ki fi so sz el kp kk kf so' sz' em) {ho2 ki2 fi2 so2 sz2 : Int32} {gl : Nat → Int32} (g : pu_H e ho2 ki2 fi2 so2 sz2 gl kp kk kf so' sz' em) (h1 : f_X11_isShelf (nI d) = some 1) (h2 : f_X12_isShelf (nI d) = some 1) (g1 : f_X11_isShelf (nI e) = some 1) (g2 : f_X12_isShelf (nI e) = some 1) (x2 x4 x5 : Int32) :
    ∃ a gl' em', f_X11_copy (nI d) x2 (nI e) x4 x5 ho so sz el ho2 so2 sz2 gl d e = some (a, gl') ∧ f_X12_copy (nI d) x2 (nI e) x4 x5 kp so' sz' em = some (a, em') ∧ pu_H e ho2 ki2 fi2 so2 sz2 gl' kp kk kf so' sz' em' ∧ ∀ f, f ≠ e → ∀ t, t < 100 → em' (100 * f + t) = em (100 * f + t) := by
  obtain ⟨eh, hc⟩ := id h
  obtain ⟨eg, gc⟩ := id g
  unfold f_X11_copy f_X12_copy
  rw [h1, h2, g1, g2]
  simp only [pu_bind, if_neg pu_10, pu_g8 hd, pu_kd hd, pu_g8 he, pu_kd he]
  rw [nI_clamp (n := d) (by omega), nI_clamp (n := e) (by omega), ← eh, ← eg]
  rcases hc with hc | ⟨hc, -⟩ | ⟨hc, eso, esz, -, ⟨z, hz, ez⟩, hel⟩
  · rw [hc, if_pos rfl, if_pos rfl]
    exact ⟨-11, gl, em, rfl, rfl, g, fun _ _ _ _ => rfl⟩
  · rw [hc]
    rcases gc with gc | ⟨gc, -⟩ | ⟨gc, -⟩
    · rw [gc]
      exact ⟨-11, gl, em, rfl, rfl, gc ▸ g, fun _ _ _ _ => rfl⟩
    · rw [gc]
      exact ⟨-12, gl, em, rfl, rfl, gc ▸ g, fun _ _ _ _ => rfl⟩
    · rw [gc]
      exact ⟨-12, gl, em, rfl, rfl, gc ▸ g, fun _ _ _ _ => rfl⟩
  · rw [hc]
    rcases gc with gc | ⟨gc, -⟩ | ⟨gc, fso, fsz, gq, ⟨y, hy, ey⟩, hgl⟩
    · rw [gc]
      exact ⟨-11, gl, em, rfl, rfl, gc ▸ g, fun _ _ _ _ => rfl⟩
    · rw [gc]
      exact ⟨-12, gl, em, rfl, rfl, gc ▸ g, fun _ _ _ _ => rfl⟩
    · rw [gc]
      have g' : pu_H e 2 ki2 fi2 so2 sz2 gl kp kk kf so' sz' em := gc ▸ g
      simp only [if_neg (show ¬ (2 : Int32) = 0 by decide), eq_self, if_true]
      rw [← eso, ← fso, ← esz, ← fsz]
      by_cases hs : so = so2
      · rw [if_pos hs, if_pos hs, ez, ey]
        rcases pu_run x2 x5 hz with ⟨r1, r2⟩ | ⟨i, n, rfl, rfl, hin, r1⟩
        · rw [r1]
          refine ⟨-13, gl, em, rfl, ?_, by rw [← ey]; exact g', fun _ _ _ _ => rfl⟩
          rcases r2 with r2 | r2 | ⟨r2, r3, r4⟩
          · rw [if_pos r2]
          · rw [if_pos r2]; split <;> rfl
          · rw [if_neg r3, if_neg r2, if_pos r4]; split <;> rfl
        · rw [r1, pu_bind, if_neg pu_10, if_neg (nI_pos (n := n) (by omega)), if_neg (nI_pos (n := i) (by omega)), if_neg (show ¬ nI z - nI i < nI n from fun q => by have := (pu_sublt (by omega) (by omega) (by omega)).mp q; omega)]
          rcases pu_run x4 (nI n) hy with ⟨r3, r4⟩ | ⟨j, n', rfl, en, hjn, r3⟩
          · rw [r3]
            refine ⟨-13, gl, em, rfl, ?_, by rw [← ey]; exact g', fun _ _ _ _ => rfl⟩
            rcases r4 with r4 | r4 | ⟨r4, r5, r6⟩
            · exact absurd r4 (nI_pos (by omega))
            · rw [if_pos r4]; simp only [ite_self]
            · rw [if_neg r4, if_neg (Int32.not_le.mpr r6)]; simp only [ite_self]
          · have hn : n = n' := by
              by_cases hn2 : n' < 2 ^ 31
              · exact (nI_eq (by omega) hn2).mp en
              · omega
            subst hn
            rw [r3, pu_bind, if_neg pu_10, if_neg (nI_pos (n := i) (by omega)), if_neg (nI_pos (n := j) (by omega)), if_neg (nI_pos (n := n) (by omega)), nI_clamp (n := i) (by omega), nI_clamp (n := j) (by omega), nI_clamp (n := n) (by omega), if_neg (show ¬ 100 < i + n by omega), if_neg (show ¬ 100 < j + n by omega), if_neg (nI_pos (n := j) (by omega)), if_pos (show nI n ≤ nI y - nI j from Int32.not_lt.mp (fun q => by have := (pu_sublt (by omega) (by omega) (by omega)).mp q; omega)), pu_cprun hd he (by omega) (by omega)]
            refine ⟨nI n, va_cpy el gl i j n, pu_ce d i e j n em, rfl, rfl, ?_, fun f hf t ht => pu_ce_other (by omega) hf ht⟩
            obtain ⟨k1, k2⟩ := g'
            refine ⟨k1, Or.inr (Or.inr ⟨rfl, fso, by rw [← ey]; exact fsz, gq, ⟨y, hy, rfl⟩, fun t ht => ⟨pu_ce_own (by omega) (fun t ht => (hel t ht).1) (fun t ht => (hgl t ht).1) ht, fun q => ?_⟩⟩)⟩
            show ∃ w : Int32, (if j ≤ t ∧ t < j + n then el (i + (t - j)) else gl t) = w.toInt8.toInt32
            by_cases hcc : j ≤ t ∧ t < j + n
            · rw [if_pos hcc]; exact (hel _ (by omega)).2 (hs.trans q)
            · rw [if_neg hcc]; exact (hgl t ht).2 q
      · rw [if_neg hs, if_neg hs]
        exact ⟨-12, gl, em, rfl, rfl, g', fun _ _ _ _ => rfl⟩
