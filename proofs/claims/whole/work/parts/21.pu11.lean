/-! shelves -/
def pu_H (d : Nat) (ho ki fi so sz : Int32) (el kp kk kf so' sz' em : Nat → Int32) : Prop :=
  ho = kp d ∧ (ho = 0 ∨ (ho = 1 ∧ ki = kk d ∧ fi = kf d ∧ (∃ k, k < 8 ∧ ki = nI k) ∧ (∃ f, f ≤ 9 ∧ fi = nI f)) ∨ (ho = 2 ∧ so = so' d ∧ sz = sz' d ∧ (∃ q, q < 3 ∧ so = nI q) ∧ (∃ z, z ≤ 100 ∧ sz = nI z) ∧ ∀ i, i < 100 → el i = em (100 * d + i) ∧ (so = 0 → ∃ y : Int32, el i = y.toInt8.toInt32)))
theorem pu_g8 {α : Type} {d : Nat} (hd : d < 8) (A : Option α) : (if nI d < 0 ∨ 8 ≤ (nI d).toNatClampNeg then none else A) = A := pu_g hd (by decide) A
theorem pu_kd {α : Type} {d : Nat} (hd : d < 8) (A : Option α) : (if ¬ (nI d).toNatClampNeg = d then none else A) = A := if_neg (fun q => q (nI_clamp (by omega)))
theorem pu_shelf (x : Int32) : (f_X11_isShelf x = some 0 ∧ f_X12_isShelf x = some 0) ∨ ∃ d, d < 8 ∧ x = nI d ∧ f_X11_isShelf x = some 1 ∧ f_X12_isShelf x = some 1 := by
  unfold f_X11_isShelf f_X12_isShelf
  rw [pu_within]
  rcases pu_in (l := 0) (h := 7) (by omega) (by omega) x (L := 0) (H := 7) rfl rfl with hi | ⟨j, -, hj, rfl, hi⟩
  · left; rw [hi]; exact ⟨rfl, rfl⟩
  · right; refine ⟨j, by omega, rfl, ?_⟩; rw [hi]; exact ⟨rfl, rfl⟩
theorem pu_refRow0 {x : Int32} (h1 : f_X11_isShelf x = some 0) (h2 : f_X12_isShelf x = some 0) (ho : Int32) (kS : Nat) (y : Int32) (kp so : Nat → Int32) : f_X11_refusalOfRow x ho kS = some (-1) ∧ f_X11_refusalOfOne x ho kS = some (-1) ∧ f_X12_wrongRow x y kp so = some (-1) ∧ f_X12_wrongKept x kp = some (-1) := by
  unfold f_X11_refusalOfRow f_X11_refusalOfOne f_X11_refusalUnless f_X12_wrongRow f_X12_wrongKept
  rw [h1, h2]
  exact ⟨rfl, rfl, rfl, rfl⟩
theorem pu_refRow {d : Nat} (hd : d < 8) {ho ki fi so sz : Int32} {el kp kk kf so' sz' em : Nat → Int32} (h : pu_H d ho ki fi so sz el kp kk kf so' sz' em) (h1 : f_X11_isShelf (nI d) = some 1) (h2 : f_X12_isShelf (nI d) = some 1) :
    (ho = 0 ∧ f_X11_refusalOfRow (nI d) ho d = some (-11) ∧ f_X11_refusalOfOne (nI d) ho d = some (-11) ∧ (∀ y, f_X12_wrongRow (nI d) y kp so' = some (-11)) ∧ f_X12_wrongKept (nI d) kp = some (-11)) ∨
    (ho = 1 ∧ f_X11_refusalOfRow (nI d) ho d = some (-12) ∧ f_X11_refusalOfOne (nI d) ho d = some 0 ∧ (∀ y, f_X12_wrongRow (nI d) y kp so' = some (-12)) ∧ f_X12_wrongKept (nI d) kp = some 0 ∧ ki = kk d ∧ fi = kf d ∧ (∃ k, k < 8 ∧ ki = nI k) ∧ (∃ f, f ≤ 9 ∧ fi = nI f)) ∨
    (ho = 2 ∧ f_X11_refusalOfRow (nI d) ho d = some 0 ∧ f_X11_refusalOfOne (nI d) ho d = some (-12) ∧ f_X12_wrongRow (nI d) (-1) kp so' = some 0 ∧ f_X12_wrongRow (nI d) 0 kp so' = some (if so = 0 then 0 else -12) ∧ f_X12_wrongKept (nI d) kp = some (-12) ∧ so = so' d ∧ sz = sz' d ∧ (∃ q, q < 3 ∧ so = nI q) ∧ (∃ z, z ≤ 100 ∧ sz = nI z) ∧ ∀ i, i < 100 → el i = em (100 * d + i) ∧ (so = 0 → ∃ y : Int32, el i = y.toInt8.toInt32)) := by
  obtain ⟨e, hc⟩ := h
  unfold f_X11_refusalOfRow f_X11_refusalOfOne f_X11_refusalUnless f_X12_wrongRow f_X12_wrongKept
  rw [h1, h2]
  simp only [pu_bind, if_neg pu_10, pu_g8 hd, pu_kd hd]
  rw [nI_clamp (by omega), ← e]
  rcases hc with hc | ⟨hc, r1⟩ | ⟨hc, r1⟩
  · left
    rw [hc]
    exact ⟨rfl, rfl, rfl, fun _ => rfl, rfl⟩
  · right; left
    rw [hc]
    exact ⟨rfl, rfl, rfl, fun _ => rfl, rfl, r1⟩
  · right; right
    rw [hc]
    refine ⟨rfl, rfl, rfl, rfl, ?_, rfl, r1⟩
    rw [← r1.1]
    show (if so = 0 then some (0 : Int32) else some (-12)) = _
    split <;> rfl
theorem po_keep0 {x1 : Int32} (h1 : f_X11_isShelf x1 = some 0) (h2 : f_X12_isShelf x1 = some 0) (x2 x3 x4 ho ki fi : Int32) (kS : Nat) (kp kk kf : Nat → Int32) : f_X11_keep x1 x2 x3 x4 ho ki fi kS = some (-1, ho, ki, fi) ∧ f_X12_keep x1 x2 x3 x4 kp kk kf = some (-1, kp, kk, kf) := by
  unfold f_X11_keep f_X12_keep
  rw [h1, h2]
  exact ⟨rfl, rfl⟩
theorem po_keep {d : Nat} (hd : d < 8) {ho ki fi so sz : Int32} {el kp kk kf so' sz' em : Nat → Int32} (h : pu_H d ho ki fi so sz el kp kk kf so' sz' em) (h1 : f_X11_isShelf (nI d) = some 1) (h2 : f_X12_isShelf (nI d) = some 1) (x2 x3 x4 : Int32) :
    ∃ a ho' ki' fi' kp' kk' kf', f_X11_keep (nI d) x2 x3 x4 ho ki fi d = some (a, ho', ki', fi') ∧ f_X12_keep (nI d) x2 x3 x4 kp kk kf = some (a, kp', kk', kf') ∧ pu_H d ho' ki' fi' so sz el kp' kk' kf' so' sz' em ∧ ∀ i, i ≠ d → kp' i = kp i ∧ kk' i = kk i ∧ kf' i = kf i := by
  unfold f_X11_keep f_X12_keep f_X12_keep_44 f_X7_clear f_X7_holdOne
  rw [h1, h2]
  simp only [pu_bind, if_neg pu_10, pu_g8 hd, pu_kd hd, pu_within]
  rw [nI_clamp (by omega)]
  rcases pu_in (l := 0) (h := 1) (by omega) (by omega) x2 (L := 0) (H := 1) rfl rfl with hi | ⟨k, -, hk, rfl, hi⟩
  · rw [hi]
    exact ⟨-1, ho, ki, fi, kp, kk, kf, rfl, rfl, h, fun _ _ => ⟨rfl, rfl, rfl⟩⟩
  · rw [hi]
    simp only [pu_bind, if_neg pu_10]
    rcases (by omega : k = 0 ∨ k = 1) with rfl | rfl
    · refine ⟨0, 0, ki, fi, upd kp d (nI 0), upd kk d x3, upd kf d x4, rfl, rfl, ⟨?_, Or.inl rfl⟩, fun i hi => ⟨pu_updn hi, pu_updn hi, pu_updn hi⟩⟩
      rw [pu_upd]; rfl
    · rw [if_neg (show ¬ nI 1 = (0 : Int32) by decide), if_pos (show nI 1 = (1 : Int32) from rfl)]
      rcases pu_in (l := 0) (h := 7) (by omega) (by omega) x3 (L := 0) (H := 7) rfl rfl with hi3 | ⟨p, -, hp, rfl, hi3⟩
      · rw [hi3]
        exact ⟨-1, ho, ki, fi, kp, kk, kf, rfl, rfl, h, fun _ _ => ⟨rfl, rfl, rfl⟩⟩
      · rw [hi3]
        simp only [pu_bind, if_neg pu_10]
        rcases pu_in (l := 0) (h := 9) (by omega) (by omega) x4 (L := 0) (H := 9) rfl rfl with hi4 | ⟨q, -, hq, rfl, hi4⟩
        · rw [hi4]
          exact ⟨-1, ho, ki, fi, kp, kk, kf, rfl, rfl, h, fun _ _ => ⟨rfl, rfl, rfl⟩⟩
        · rw [hi4]
          refine ⟨0, 1, nI p, nI q, upd kp d (nI 1), upd kk d (nI p), upd kf d (nI q), rfl, rfl, ⟨?_, Or.inr (Or.inl ⟨rfl, pu_upd.symm, pu_upd.symm, ⟨p, by omega, rfl⟩, ⟨q, hq, rfl⟩⟩)⟩, fun i hi => ⟨pu_updn hi, pu_updn hi, pu_updn hi⟩⟩
          rw [pu_upd]; rfl
/-! a row is laid -/
theorem pu_hrloop (a b c0 : Int32) : ∀ (j k c : Nat) (el : Nat → Int32), k + j = 100 → f_X7_holdRow_17 (c + j) (nI k) a b c0 el = f_X7_holdRow_17 c (nI 100) a b c0 (fun i => if k ≤ i ∧ i < 100 then 0 else el i) := by
  intro j
  induction j with
  | zero =>
    intro k c el h
    have : k = 100 := by omega
    subst this
    have : (fun i => if 100 ≤ i ∧ i < 100 then (0 : Int32) else el i) = el := by
      funext i
      exact if_neg (by omega)
    rw [this]
    rfl
  | succ j ih =>
    intro k c el h
    show f_X7_holdRow_17s (f_X7_holdRow_17 (c + j)) (nI k) a b c0 el = _
    unfold f_X7_holdRow_17s
    rw [if_neg (show ¬ (100 : Int32) ≤ nI k from nI_ge (a := k) (b := 100) (by omega) (by omega)), pu_g (by omega) (by decide), nI_clamp (by omega), nI_1, ih (k + 1) c _ (by omega)]
    have : (fun i => if k + 1 ≤ i ∧ i < 100 then (0 : Int32) else upd el k 0 i) = (fun i => if k ≤ i ∧ i < 100 then 0 else el i) := by
      funext i
      by_cases h1 : i = k
      · subst h1
        rw [if_neg (by omega), if_pos (by omega), pu_upd]
      · rw [pu_updn h1]
        by_cases h2 : k ≤ i ∧ i < 100
        · rw [if_pos h2, if_pos (by omega)]
        · rw [if_neg h2, if_neg (by omega)]
    rw [this]
theorem pu_holdRow (x1 x2 a b c0 : Int32) (el : Nat → Int32) : f_X7_holdRow x1 x2 a b c0 el = some ((2 : Int32), x1, x2, fun i => if 0 ≤ i ∧ i < 100 then 0 else el i) := by
  have h := pu_hrloop 2 x1 x2 100 0 1900 el (by omega)
  rw [nI_0] at h
  show f_X7_holdRow_17 2000 0 2 x1 x2 el = _
  rw [h]
  rfl
theorem pu_100 {d k : Nat} (hd : d < 8) (hk : k ≤ 100) : ((100 : Int32) * nI d) + nI k = nI (100 * d + k) := by
  rw [show (100 : Int32) = nI 100 from rfl, pk_mul, nI_add]
theorem pu_rwloop {d : Nat} (hd : d < 8) (kp so sz : Nat → Int32) : ∀ (j k c : Nat) (em : Nat → Int32), k + j = 100 → f_X12_row_55 (c + j) (nI d) (nI k) kp so sz em = f_X12_row_55 c (nI d) (nI 100) kp so sz (fun i => if 100 * d + k ≤ i ∧ i < 100 * d + 100 then 0 else em i) := by
  intro j
  induction j with
  | zero =>
    intro k c em h
    have : k = 100 := by omega
    subst this
    have : (fun i => if 100 * d + 100 ≤ i ∧ i < 100 * d + 100 then (0 : Int32) else em i) = em := by
      funext i
      exact if_neg (by omega)
    rw [this]
    rfl
  | succ j ih =>
    intro k c em h
    show f_X12_row_55s (f_X12_row_55 (c + j)) (nI d) (nI k) kp so sz em = _
    unfold f_X12_row_55s
    rw [if_neg (show ¬ (100 : Int32) ≤ nI k from nI_ge (a := k) (b := 100) (by omega) (by omega)), pu_100 hd (by omega), pu_g (by omega) (by decide), nI_clamp (by omega), nI_1, ih (k + 1) c _ (by omega)]
    have : (fun i => if 100 * d + (k + 1) ≤ i ∧ i < 100 * d + 100 then (0 : Int32) else upd em (100 * d + k) 0 i) = (fun i => if 100 * d + k ≤ i ∧ i < 100 * d + 100 then 0 else em i) := by
      funext i
      by_cases h1 : i = 100 * d + k
      · subst h1
        rw [if_neg (by omega), if_pos (by omega), pu_upd]
      · rw [pu_updn h1]
        by_cases h2 : 100 * d + k ≤ i ∧ i < 100 * d + 100
        · rw [if_pos h2, if_pos (by omega)]
        · rw [if_neg h2, if_neg (by omega)]
    rw [this]
theorem po_row0 {x1 : Int32} (h1 : f_X11_isShelf x1 = some 0) (h2 : f_X12_isShelf x1 = some 0) (x2 x3 ho so sz : Int32) (el : Nat → Int32) (kS : Nat) (kp so' sz' em : Nat → Int32) : f_X11_row x1 x2 x3 ho so sz el kS = some (-1, ho, so, sz, el) ∧ f_X12_row x1 x2 x3 kp so' sz' em = some (-1, kp, so', sz', em) := by
  unfold f_X11_row f_X12_row
  rw [h1, h2]
  exact ⟨rfl, rfl⟩
theorem po_row {d : Nat} (hd : d < 8) {ho ki fi so sz : Int32} {el kp kk kf so' sz' em : Nat → Int32} (h : pu_H d ho ki fi so sz el kp kk kf so' sz' em) (h1 : f_X11_isShelf (nI d) = some 1) (h2 : f_X12_isShelf (nI d) = some 1) (x2 x3 : Int32) :
    ∃ a ho1 so1 sz1 el1 kp1 so2 sz2 em1, f_X11_row (nI d) x2 x3 ho so sz el d = some (a, ho1, so1, sz1, el1) ∧ f_X12_row (nI d) x2 x3 kp so' sz' em = some (a, kp1, so2, sz2, em1) ∧ pu_H d ho1 ki fi so1 sz1 el1 kp1 kk kf so2 sz2 em1 ∧ ∀ i, i ≠ d → kp1 i = kp i ∧ so2 i = so' i ∧ sz2 i = sz' i ∧ ∀ k, k < 100 → em1 (100 * i + k) = em (100 * i + k) := by
  unfold f_X11_row f_X12_row
  rw [h1, h2]
  simp only [pu_bind, if_neg pu_10, pu_g8 hd, pu_kd hd, pu_within]
  rw [nI_clamp (by omega)]
  rcases pu_in (l := 0) (h := 2) (by omega) (by omega) x2 (L := 0) (H := 2) rfl rfl with hi | ⟨k, -, hk, rfl, hi⟩
  · rw [hi]
    exact ⟨-1, ho, so, sz, el, kp, so', sz', em, rfl, rfl, h, fun _ _ => ⟨rfl, rfl, rfl, fun _ _ => rfl⟩⟩
  · rw [hi]
    simp only [pu_bind, if_neg pu_10]
    by_cases c1 : x3 ≤ 100
    · rw [if_pos c1, if_pos c1]
      by_cases c2 : 0 ≤ x3
      · rw [if_pos c2, if_pos c2, pu_holdRow, pu_bind]
        obtain ⟨z, hz, rfl⟩ := nI_of (Int32.not_lt.mpr c2)
        have hz100 : z ≤ 100 := by
          rcases Nat.lt_or_ge 100 z with q | q
          · exact absurd c1 (nI_ge (a := 100) q hz)
          · exact q
        have hw := pu_rwloop hd (upd kp d 2) (upd so' d (nI k)) (upd sz' d (nI z)) 100 0 1900 em (by omega)
        rw [nI_0] at hw
        refine ⟨0, 2, nI k, nI z, _, upd kp d 2, upd so' d (nI k), upd sz' d (nI z), fun i => if 100 * d + 0 ≤ i ∧ i < 100 * d + 100 then 0 else em i, rfl, ?_, ⟨pu_upd.symm, Or.inr (Or.inr ⟨rfl, pu_upd.symm, pu_upd.symm, ⟨k, by omega, rfl⟩, ⟨z, hz100, rfl⟩, fun i hi => ⟨?_, fun _ => ⟨0, ?_⟩⟩⟩)⟩, fun i hi => ⟨pu_updn hi, pu_updn hi, pu_updn hi, fun q hq => ?_⟩⟩
        · show f_X12_row_55 2000 (nI d) 0 _ _ _ em = _
          rw [hw]
          rfl
        · show (if 0 ≤ i ∧ i < 100 then (0 : Int32) else el i) = (if 100 * d + 0 ≤ 100 * d + i ∧ 100 * d + i < 100 * d + 100 then (0 : Int32) else em (100 * d + i))
          rw [if_pos (by omega), if_pos (by omega)]
        · show (if 0 ≤ i ∧ i < 100 then (0 : Int32) else el i) = _
          rw [if_pos (by omega)]
          rfl
        · show (if 100 * d + 0 ≤ 100 * i + q ∧ 100 * i + q < 100 * d + 100 then (0 : Int32) else em (100 * i + q)) = _
          exact if_neg (by omega)
      · rw [if_neg c2, if_neg c2]
        exact ⟨-14, ho, so, sz, el, kp, so', sz', em, rfl, rfl, h, fun _ _ => ⟨rfl, rfl, rfl, fun _ _ => rfl⟩⟩
    · rw [if_neg c1, if_neg c1]
      exact ⟨-1, ho, so, sz, el, kp, so', sz', em, rfl, rfl, h, fun _ _ => ⟨rfl, rfl, rfl, fun _ _ => rfl⟩⟩
