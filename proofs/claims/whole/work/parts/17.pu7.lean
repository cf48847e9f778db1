/-! the calls that ask or change the isle as it is -/
theorem pu_10 : ¬ (1 : Int32) = 0 := by decide
theorem pu_within (x y z : Int32) : f_X11_within x y z = f_X12_isIn x y z := rfl
theorem pu_in {l h : Nat} (hlh : l ≤ h) (hh : h < 2 ^ 31) (x : Int32) {L H : Int32} (hL : L = nI l) (hH : H = nI h) : f_X12_isIn x L H = some 0 ∨ ∃ j, l ≤ j ∧ j ≤ h ∧ x = nI j ∧ f_X12_isIn x L H = some 1 := by
  subst hL
  subst hH
  unfold f_X12_isIn
  by_cases h1 : x < nI l
  · exact Or.inl (if_pos h1)
  · by_cases h2 : nI h < x
    · left; rw [if_neg h1, if_pos h2]
    · right
      have h0 : ¬ x < 0 := by
        intro q
        apply h1
        rw [Int32.lt_iff_toInt_lt] at q ⊢
        rw [nI_toInt (by omega)]
        have : (0 : Int32).toInt = 0 := rfl
        omega
      obtain ⟨j, hj, rfl⟩ := nI_of h0
      refine ⟨j, ?_, ?_, rfl, by rw [if_neg h1, if_neg h2]⟩
      · rcases Nat.lt_or_ge j l with q | q
        · exact absurd (nI_lt q (by omega)) h1
        · exact q
      · rcases Nat.lt_or_ge h j with q | q
        · exact absurd (nI_lt q hj) h2
        · exact q
theorem pu_two {n : Nat} (hn : n ≤ 7) (x y : Int32) {s : Nat → Int32} (hs : s 0 = nI n) : (∃ a b, a < n ∧ b < n ∧ a ≠ b ∧ x = nI a ∧ y = nI b ∧ f_X11_areTwo x y (nI n) = some 1 ∧ f_X12_areTwo x y s = some 1) ∨ (f_X11_areTwo x y (nI n) = some 0 ∧ f_X12_areTwo x y s = some 0) := by
  unfold f_X11_areTwo f_X12_areTwo
  rcases pu_knows hn x hs with ⟨a, ha, rfl, k1, k2⟩ | ⟨k1, k2⟩
  · rw [k1, k2, pu_bind, pu_bind, if_neg pu_10, if_neg pu_10]
    rcases pu_knows hn y hs with ⟨b, hb, rfl, l1, l2⟩ | ⟨l1, l2⟩
    · rw [l1, l2]
      simp only [pu_bind, if_neg pu_10]
      by_cases hab : a = b
      · subst hab
        right
        exact ⟨if_pos rfl, if_pos rfl⟩
      · left
        have : ¬ nI a = nI b := by rw [nI_eq (by omega) (by omega)]; exact hab
        exact ⟨a, b, ha, hb, hab, rfl, rfl, if_neg this, if_neg this⟩
    · right
      rw [l1, l2]
      exact ⟨rfl, rfl⟩
  · right
    rw [k1, k2]
    exact ⟨rfl, rfl⟩
theorem po_tenant {B n : Nat} {th bi se da : Int32} {kd fg st wa s : Nat → Int32} (hQ : pu_Q B n se kd fg (th, bi, da, st, wa) s) (x1 x2 : Int32) : ∃ a, f_X11_tenant x1 x2 (nI n) th bi se da kd fg st wa = some a ∧ f_X12_tenant x1 x2 s = some a := by
  obtain ⟨hR, v, hv, rfl, h2⟩ := hQ
  have hR : pu_R B n th bi da kd fg st wa s := hR
  obtain ⟨h1, hs0, hs1, hs3, ⟨b, hb, rfl⟩, -, h7, h8⟩ := id hR
  unfold f_X11_tenant f_X12_tenant
  rcases pu_knows h1 x1 hs0 with ⟨t, ht, rfl, k1, k2⟩ | ⟨k1, k2⟩
  · have ht7 : t < 7 := by omega
    obtain ⟨a1, a2, a3, a4, ⟨⟨k, hk, ek⟩, ⟨f, hf, ef⟩, -, -, b5⟩⟩ := h8 t ht
    rw [k1, k2, pu_bind, pu_bind, if_neg pu_10, if_neg pu_10, pu_g ht7 (by decide), pu_g ht7 (by decide), pu_g ht7 (by decide), pu_g ht7 (by decide), nI_clamp (by omega)]
    rcases pu_in (l := 0) (h := 6) (by omega) (by omega) x2 (L := 0) (H := 6) rfl rfl with hi | ⟨j, -, hj, rfl, hi⟩
    · refine ⟨-1, ?_, by rw [hi]; rfl⟩
      rw [if_neg (fun q => by rw [q] at hi; exact absurd hi (by decide)), if_neg (fun q => by rw [q] at hi; exact absurd hi (by decide)), if_neg (fun q => by rw [q] at hi; exact absurd hi (by decide)), if_neg (fun q => by rw [q] at hi; exact absurd hi (by decide)), if_neg (fun q => by rw [q] at hi; exact absurd hi (by decide)), if_neg (fun q => by rw [q] at hi; exact absurd hi (by decide)), if_neg (fun q => by rw [q] at hi; exact absurd hi (by decide))]
    · rw [hi, pu_bind, if_neg pu_10]
      rcases (by omega : j = 0 ∨ j = 1 ∨ j = 2 ∨ j = 3 ∨ j = 4 ∨ j = 5 ∨ j = 6) with rfl | rfl | rfl | rfl | rfl | rfl | rfl
      · refine ⟨kd t, rfl, ?_⟩
        rw [if_neg (show ¬ nI 0 = (5 : Int32) by decide), if_neg (show ¬ nI 0 = (6 : Int32) by decide)]
        show Option.bind (f_X12_of (nI t) (0 : Int32)) _ = _
        rw [pu_of0 t ht7, pu_bind, pu_g (by omega) (by decide), nI_clamp (by omega), a1]
      · refine ⟨fg t, rfl, ?_⟩
        rw [if_neg (show ¬ nI 1 = (5 : Int32) by decide), if_neg (show ¬ nI 1 = (6 : Int32) by decide)]
        show Option.bind (f_X12_of (nI t) (1 : Int32)) _ = _
        rw [pu_of1 t ht7, pu_bind, pu_g (by omega) (by decide), nI_clamp (by omega), a2]
      · refine ⟨st t, rfl, ?_⟩
        rw [if_neg (show ¬ nI 2 = (5 : Int32) by decide), if_neg (show ¬ nI 2 = (6 : Int32) by decide)]
        show Option.bind (f_X12_of (nI t) (2 : Int32)) _ = _
        rw [pu_of2 t ht7, pu_bind, pu_g (by omega) (by decide), nI_clamp (by omega), a3]
      · refine ⟨wa t, rfl, ?_⟩
        rw [if_neg (show ¬ nI 3 = (5 : Int32) by decide), if_neg (show ¬ nI 3 = (6 : Int32) by decide)]
        show Option.bind (f_X12_of (nI t) (3 : Int32)) _ = _
        rw [pu_of3 t ht7, pu_bind, pu_g (by omega) (by decide), nI_clamp (by omega), a4]
      · refine ⟨s (8 + 5 * t), ?_, ?_⟩
        · show Option.bind (f_X4_isThere (nI t) th) _ = _
          have hbit := pu_mk_bit s n t ht
          rw [h7, pu_isThere _ (pu_mk_lt7 h1) t ht7]
          rcases b5 with b5 | b5
          · rw [if_neg (fun q => by rw [hbit.mp q] at b5; exact absurd b5 (by decide)), b5]; rfl
          · rw [if_pos (hbit.mpr b5), b5]; rfl
        · rw [if_neg (show ¬ nI 4 = (5 : Int32) by decide), if_neg (show ¬ nI 4 = (6 : Int32) by decide)]
          show Option.bind (f_X12_of (nI t) (4 : Int32)) _ = _
          rw [pu_of4 t ht7, pu_bind, pu_g (by omega) (by decide), nI_clamp (by omega)]
      · obtain ⟨o, -, eo⟩ := pu_ob hk hf hb
        refine ⟨nI o, ?_, ?_⟩
        · show Option.bind (f_X4_owedBy (nI t) (nI b) kd fg) _ = _
          rw [pu_owedBy ht7 hk hf (a1.trans ek) (a2.trans ef), a1, a2, ek, ef, eo]; rfl
        · show Option.bind (f_X12_owes (nI t) s) _ = _
          rw [pu_owes ht7, ek, ef, hs3, eo]; rfl
      · obtain ⟨o, -, eo⟩ := pu_cb hk hf hv (da + 1)
        refine ⟨nI o, ?_, ?_⟩
        · show Option.bind (f_X4_catchOf (nI t) (da + 1) (nI v) kd fg) _ = _
          rw [pu_catchOf ht7 hk (a1.trans ek), a1, a2, ek, ef, eo]; rfl
        · show Option.bind (f_X12_catches (nI t) (s 2) (s 1 + 1) s) _ = _
          rw [h2, hs1, pu_catches ht7, ek, ef, eo]; rfl
  · rw [k1, k2]
    exact ⟨-1, rfl, rfl⟩
theorem po_stores {B n : Nat} {th bi se da : Int32} {kd fg st wa s : Nat → Int32} (hQ : pu_Q B n se kd fg (th, bi, da, st, wa) s) (x1 x2 : Int32) : ∃ a st' s', f_X11_stores x1 x2 (nI n) st = some (a, st') ∧ f_X12_stores x1 x2 s = some (a, s') ∧ pu_Q B n se kd fg (th, bi, da, st', wa) s' := by
  obtain ⟨hR, v, hv, rfl, h2⟩ := id hQ
  have hR : pu_R B n th bi da kd fg st wa s := hR
  obtain ⟨h1, hs0, hs1, hs3, h5, -, h7, h8⟩ := id hR
  unfold f_X11_stores f_X12_stores
  rcases pu_knows h1 x1 hs0 with ⟨t, ht, rfl, k1, k2⟩ | ⟨k1, k2⟩
  · have ht7 : t < 7 := by omega
    obtain ⟨a1, a2, a3, a4, -⟩ := h8 t ht
    rw [k1, k2, pu_bind, pu_bind, if_neg pu_10, if_neg pu_10, pu_within]
    rcases pu_in (l := 0) (h := 99) (by omega) (by omega) x2 (L := 0) (H := 99) rfl rfl with hi | ⟨j, -, hj, rfl, hi⟩
    · rw [hi]
      exact ⟨-1, st, s, rfl, rfl, hQ⟩
    · refine ⟨st t, upd st t (nI j), upd s (6 + 5 * t) (nI j), ?_, ?_, pu_R_st hR hj, v, hv, rfl, by rw [pu_updn (by omega)]; exact h2⟩
      · rw [hi, pu_bind, if_neg pu_10, pu_g ht7 (by decide), pu_g ht7 (by decide), nI_clamp (by omega)]
      · rw [hi, pu_bind, if_neg pu_10, pu_of2 t ht7, pu_bind]
        unfold f_X12_sets
        rw [pu_g (by omega) (by decide), pu_g (by omega) (by decide), nI_clamp (by omega), a3]
        rfl
  · rw [k1, k2]
    exact ⟨-1, st, s, rfl, rfl, hQ⟩
theorem pu_R_s2 {B n : Nat} {th bi da : Int32} {kd fg st wa r : Nat → Int32} (h : pu_R B n th bi da kd fg st wa r) (x : Int32) : pu_R B n th bi da kd fg st wa (upd r 2 x) := by
  obtain ⟨h1, h2, h3, h4, h5, h6, h7, h8⟩ := h
  refine ⟨h1, by rw [pu_updn (by omega)]; exact h2, by rw [pu_updn (by omega)]; exact h3, by rw [pu_updn (by omega)]; exact h4, h5, h6, ?_, fun u hu => ?_⟩
  · rw [pu_mk_congr (r := r) (fun u _ => by rw [pu_updn (by omega)])]; exact h7
  · have e4 : upd r 2 x (4 + 5 * u) = r (4 + 5 * u) := pu_updn (by omega)
    have e5 : upd r 2 x (5 + 5 * u) = r (5 + 5 * u) := pu_updn (by omega)
    have e6 : upd r 2 x (6 + 5 * u) = r (6 + 5 * u) := pu_updn (by omega)
    have e7 : upd r 2 x (7 + 5 * u) = r (7 + 5 * u) := pu_updn (by omega)
    have e8 : upd r 2 x (8 + 5 * u) = r (8 + 5 * u) := pu_updn (by omega)
    unfold pu_T
    rw [e4, e5, e6, e7, e8]
    exact h8 u hu
theorem po_set {B n : Nat} {th bi se da : Int32} {kd fg st wa s : Nat → Int32} (hQ : pu_Q B n se kd fg (th, bi, da, st, wa) s) (x1 x2 : Int32) : ∃ a bi' se' s', f_X11_set x1 x2 bi se = some (a, bi', se') ∧ f_X12_set x1 x2 s = some (a, s') ∧ pu_Q B n se' kd fg (th, bi', da, st, wa) s' := by
  obtain ⟨hR, v, hv, rfl, h2⟩ := id hQ
  have hR : pu_R B n th bi da kd fg st wa s := hR
  obtain ⟨h1, hs0, hs1, hs3, h5, -, h7, h8⟩ := id hR
  rcases pu_in (l := 0) (h := 1) (by omega) (by omega) x1 (L := 0) (H := 1) rfl rfl with hi | ⟨j, -, hj, rfl, hi⟩
  · refine ⟨-1, bi, nI v, s, ?_, ?_, hQ⟩
    · unfold f_X11_set f_X11_set_32
      rw [if_neg (fun q => by rw [q] at hi; exact absurd hi (by decide)), if_neg (fun q => by rw [q] at hi; exact absurd hi (by decide))]
    · unfold f_X12_set
      rw [hi]; rfl
  · rcases (by omega : j = 0 ∨ j = 1) with rfl | rfl
    · rcases pu_in (l := 0) (h := 9) (by omega) (by omega) x2 (L := 0) (H := 9) rfl rfl with hi2 | ⟨k, -, hk, rfl, hi2⟩
      · refine ⟨-1, bi, nI v, s, ?_, ?_, hQ⟩
        · show Option.bind (f_X11_within x2 0 9) _ = _
          rw [pu_within, hi2]; rfl
        · show Option.bind (f_X12_isIn (nI 0) 0 1) _ = _
          rw [hi]
          show Option.bind (f_X12_isIn x2 0 9) _ = _
          rw [hi2]; rfl
      · refine ⟨nI v, bi, nI k, upd s 2 (nI k), ?_, ?_, pu_R_s2 hR _, k, hk, rfl, pu_upd⟩
        · show Option.bind (f_X11_within (nI k) 0 9) _ = _
          rw [pu_within, hi2]; rfl
        · show Option.bind (f_X12_isIn (nI 0) 0 1) _ = _
          rw [hi]
          show Option.bind (f_X12_isIn (nI k) 0 9) _ = _
          rw [hi2]
          show some (s 2, upd s 2 (nI k)) = _
          rw [h2]
    · rcases pu_in (l := 0) (h := 99) (by omega) (by omega) x2 (L := 0) (H := 99) rfl rfl with hi2 | ⟨k, -, hk, rfl, hi2⟩
      · refine ⟨-1, bi, nI v, s, ?_, ?_, hQ⟩
        · show Option.bind (f_X11_within x2 0 99) _ = _
          rw [pu_within, hi2]; rfl
        · show Option.bind (f_X12_isIn (nI 1) 0 1) _ = _
          rw [hi]
          show Option.bind (f_X12_isIn x2 0 99) _ = _
          rw [hi2]; rfl
      · refine ⟨bi, nI k, nI v, upd s 3 (nI k), ?_, ?_, pu_R_bi hR hk, v, hv, rfl, by rw [pu_updn (by omega)]; exact h2⟩
        · show Option.bind (f_X11_within (nI k) 0 99) _ = _
          rw [pu_within, hi2]; rfl
        · show Option.bind (f_X12_isIn (nI 1) 0 1) _ = _
          rw [hi]
          show Option.bind (f_X12_isIn (nI k) 0 99) _ = _
          rw [hi2]
          show some (s 3, upd s 3 (nI k)) = _
          rw [hs3]
/-- a loan that can be, or can't, on both sides -/
theorem pu_can {B n a b y : Nat} (ha : a < n) (hb : b < n) (hy1 : 1 ≤ y) (hy : y ≤ 99) {th bi da : Int32} {kd fg st wa s : Nat → Int32} (hR : pu_R B n th bi da kd fg st wa s) : (f_X4_canLend (nI a) (nI b) (nI y) th st = some 0 ∧ f_X12_canLend (nI a) (nI b) (nI y) s = some 0) ∨ (f_X4_canLend (nI a) (nI b) (nI y) th st = some 1 ∧ f_X12_canLend (nI a) (nI b) (nI y) s = some 1 ∧ ∃ u w, u ≤ 99 ∧ s (6 + 5 * a) = nI u ∧ s (6 + 5 * b) = nI w ∧ y ≤ u ∧ w + y ≤ 99) := by
  obtain ⟨h1, hs0, hs1, hs3, h5, -, h7, h8⟩ := id hR
  have ha7 : a < 7 := by omega
  have hb7 : b < 7 := by omega
  obtain ⟨-, -, a3, -, ⟨-, -, ⟨u, hu, eu⟩, -, -⟩⟩ := h8 a ha
  obtain ⟨-, -, b3, -, ⟨-, -, ⟨w, hw, ew⟩, -, -⟩⟩ := h8 b hb
  have hba := pu_mk_bit s n a ha
  have hbb := pu_mk_bit s n b hb
  unfold f_X4_canLend f_X12_canLend
  rw [h7, pu_isThere _ (pu_mk_lt7 h1) a ha7, pu_isHere ha7, pu_isThere _ (pu_mk_lt7 h1) b hb7, pu_isHere hb7]
  by_cases c1 : s (8 + 5 * a) = 1
  · rw [if_pos (hba.mpr c1), if_pos c1]
    simp only [pu_bind, if_neg pu_10]
    by_cases c2 : s (8 + 5 * b) = 1
    · rw [if_pos (hbb.mpr c2), if_pos c2]
      simp only [if_neg pu_10]
      rw [if_neg (show ¬ nI y < (1 : Int32) from nI_nlt (a := y) (b := 1) hy1 (by omega)), pu_g ha7 (by decide), pu_of2 a ha7, pu_bind, pu_g (k := 6 + 5 * a) (L := 39) (by omega) (by decide), nI_clamp (n := a) (by omega), nI_clamp (n := 6 + 5 * a) (by omega), a3, eu]
      by_cases c3 : u < y
      · left
        rw [if_pos (nI_lt c3 (by omega)), if_pos (nI_lt c3 (by omega))]
        exact ⟨rfl, rfl⟩
      · rw [if_neg (nI_nlt (by omega) (by omega)), if_neg (nI_nlt (by omega) (by omega)), pu_g hb7 (by decide), pu_of2 b hb7, pu_bind, pu_g (k := 6 + 5 * b) (L := 39) (by omega) (by decide), nI_clamp (n := b) (by omega), nI_clamp (n := 6 + 5 * b) (by omega), b3, ew, nI_add]
        by_cases c4 : 99 < w + y
        · left
          have : (99 : Int32) < nI (w + y) := nI_lt (a := 99) c4 (by omega)
          rw [if_pos this]
          exact ⟨rfl, rfl⟩
        · right
          have : ¬ (99 : Int32) < nI (w + y) := nI_nlt (b := w + y) (a := 99) (by omega) (by omega)
          rw [if_neg this]
          exact ⟨rfl, rfl, u, w, hu, rfl, rfl, by omega, by omega⟩
    · left
      rw [if_neg (fun q => c2 (hbb.mp q)), if_neg c2]
      exact ⟨rfl, rfl⟩
  · left
    rw [if_neg (fun q => c1 (hba.mp q)), if_neg c1]
    exact ⟨rfl, rfl⟩
theorem pu_hand {B n a b y u w : Nat} (ha : a < n) (hb : b < n) (hab : a ≠ b) {th bi da : Int32} {kd fg st wa s : Nat → Int32} (hR : pu_R B n th bi da kd fg st wa s) (hu : u ≤ 99) (eu : s (6 + 5 * a) = nI u) (ew : s (6 + 5 * b) = nI w) (hyu : y ≤ u) (hwy : w + y ≤ 99) : f_X4_handOver (nI a) (nI b) (nI y) st = some (upd (upd st a (nI (u - y))) b (nI (w + y))) ∧ f_X12_lendsIn (nI a) (nI b) (nI y) s = some (upd (upd s (6 + 5 * a) (nI (u - y))) (6 + 5 * b) (nI (w + y))) ∧ pu_R B n th bi da kd fg (upd (upd st a (nI (u - y))) b (nI (w + y))) wa (upd (upd s (6 + 5 * a) (nI (u - y))) (6 + 5 * b) (nI (w + y))) := by
  obtain ⟨h1, hs0, hs1, hs3, h5, -, h7, h8⟩ := id hR
  have ha7 : a < 7 := by omega
  have hb7 : b < 7 := by omega
  obtain ⟨-, -, a3, -, -⟩ := h8 a ha
  obtain ⟨-, -, b3, -, -⟩ := h8 b hb
  refine ⟨?_, ?_, pu_R_st (pu_R_st hR (by omega)) hwy⟩
  · unfold f_X4_handOver
    rw [pu_g ha7 (by decide), pu_g ha7 (by decide), pu_g hb7 (by decide), pu_g hb7 (by decide), nI_clamp (by omega), nI_clamp (by omega), a3, eu, pk_sub hyu, pu_updn (fun q => hab q.symm), b3, ew, nI_add]
  · unfold f_X12_lendsIn
    rw [pu_of2 a ha7, pu_bind, pu_g (by omega) (by decide), pu_g (by omega) (by decide), pu_of2 b hb7, pu_bind, pu_g (by omega) (by decide), pu_g (by omega) (by decide), nI_clamp (by omega), nI_clamp (by omega), eu, pk_sub hyu, pu_updn (by omega), ew, nI_add]
theorem po_lends {B n : Nat} {th bi se da : Int32} {kd fg st wa s : Nat → Int32} (hQ : pu_Q B n se kd fg (th, bi, da, st, wa) s) (x1 x2 x3 : Int32) : ∃ a st' s', f_X11_lends x1 x2 x3 (nI n) th st = some (a, st') ∧ f_X12_lends x1 x2 x3 s = some (a, s') ∧ pu_Q B n se kd fg (th, bi, da, st', wa) s' := by
  obtain ⟨hR, v, hv, rfl, h2⟩ := id hQ
  have hR : pu_R B n th bi da kd fg st wa s := hR
  unfold f_X11_lends f_X12_lends
  rcases pu_two hR.1 x1 x2 hR.2.1 with ⟨a, b, ha, hb, hab, rfl, rfl, k1, k2⟩ | ⟨k1, k2⟩
  · have hn : n ≤ 7 := hR.1
    rw [k1, k2, pu_bind, pu_bind, if_neg pu_10, if_neg pu_10, pu_within]
    rcases pu_in (l := 1) (h := 99) (by omega) (by omega) x3 (L := 1) (H := 99) rfl rfl with hi | ⟨y, hy1, hy, rfl, hi⟩
    · rw [hi]
      exact ⟨-1, st, s, rfl, rfl, hQ⟩
    · rw [hi, pu_bind, if_neg pu_10, pu_bind, if_neg pu_10]
      rcases pu_can ha hb hy1 hy hR with ⟨c1, c2⟩ | ⟨c1, c2, u, w, hu, eu, ew, hyu, hwy⟩
      · rw [c1, c2]
        exact ⟨-3, st, s, rfl, rfl, hQ⟩
      · obtain ⟨e1, e2, e3⟩ := pu_hand ha hb hab hR hu eu ew hyu hwy
        refine ⟨nI (u - y), upd (upd st a (nI (u - y))) b (nI (w + y)), upd (upd s (6 + 5 * a) (nI (u - y))) (6 + 5 * b) (nI (w + y)), ?_, ?_, e3, v, hv, rfl, by rw [pu_updn (by omega), pu_updn (by omega)]; exact h2⟩
        · rw [c1, pu_bind, if_neg pu_10, e1, pu_bind, pu_g (by omega) (by decide), nI_clamp (by omega), pu_updn hab, pu_upd]
        · rw [c2, pu_bind, if_neg pu_10, e2, pu_bind, pu_of2 a (by omega), pu_bind, pu_g (by omega) (by decide), nI_clamp (by omega), pu_updn (by omega), pu_upd]
  · rw [k1, k2]
    exact ⟨-1, st, s, rfl, rfl, hQ⟩
theorem po_days {n : Nat} {th bi se da : Int32} {kd fg st wa s : Nat → Int32} (hQ : pu_Q 999 n se kd fg (th, bi, da, st, wa) s) (x1 : Int32) : ∃ a th' bi' da' st' wa' s', f_X11_days x1 (nI n) th bi se da kd fg st wa = some (a, th', bi', da', st', wa') ∧ f_X12_days x1 s = some (a, s') ∧ pu_Q 999 n se kd fg (th', bi', da', st', wa') s' := by
  obtain ⟨hR, v, hv, rfl, h2⟩ := id hQ
  have hR : pu_R 999 n th bi da kd fg st wa s := hR
  obtain ⟨h1, hs0, hs1, hs3, h5, ⟨d, hd, ed⟩, h7, h8⟩ := id hR
  unfold f_X11_days f_X12_days
  rw [pu_within]
  rcases pu_in (l := 1) (h := 60) (by omega) (by omega) x1 (L := 1) (H := 60) rfl rfl with hi | ⟨y, hy1, hy, rfl, hi⟩
  · rw [hi]
    exact ⟨-1, th, bi, da, st, wa, s, rfl, rfl, hQ⟩
  · rw [hi, pu_bind, if_neg pu_10, pu_bind, if_neg pu_10, pu_c1, hs1]
    have hda : da = nI d := ed
    by_cases hc : d + y ≤ 999
    · have hl : f_X4_hasDaysLeft (nI y) da = some 1 := by
        unfold f_X4_hasDaysLeft
        rw [hda, nI_add]
        exact if_neg (nI_nlt (a := 999) hc (by omega))
      have hle : da + nI y ≤ (999 : Int32) := by rw [hda, nI_add]; exact nI_le (b := 999) hc (by omega)
      obtain ⟨g1, r', g2, g3, -⟩ := pu_goQ (N := y) (by omega) hQ
      generalize hx : pu_Cn (nI n) (nI v) kd fg y (th, bi, da, st, wa) = x at g1 g3
      obtain ⟨th', bi', da', st', wa'⟩ := x
      obtain ⟨gR, gv⟩ := g3
      have hm : pu_mk r' n < 128 := pu_mk_lt7 h1
      obtain ⟨cn, -, b1, b2⟩ := pu_bits _ hm
      have hth : th' = nI (pu_mk r' n) := gR.2.2.2.2.2.2.1
      refine ⟨nI cn, th', bi', da', st', wa', r', ?_, ?_, ?_, gv⟩
      · rw [hl, pu_bind, if_neg pu_10]
        show Option.bind (f_X4_goOn (nI y) (nI n) th bi (nI v) da kd fg st wa) _ = _
        rw [g1, pu_bind]
        dsimp only
        rw [hth, b2]
        rfl
      · rw [if_pos hle, g2, pu_bind, pu_hereIn gR]
        dsimp only
        rw [pu_bind, hth, b1]
        rfl
      · obtain ⟨q1, q2, q3, q4, q5, q6, q7, q8⟩ := gR
        have hday : ∀ (k : Nat) (x : pu_S) (B : Nat) (r : Nat → Int32), pu_Q B n (nI v) kd fg x r → (pu_Cn (nI n) (nI v) kd fg k x).2.2.1 = x.2.2.1 + nI k := by
          intro k
          induction k with
          | zero => intro x B r _; show x.2.2.1 = _; rw [nI_0, Int32.add_zero]
          | succ k ih =>
            intro x B r hx
            obtain ⟨-, r2, -, e3, -, e5, -⟩ := pu_dayQ hx
            show (pu_Cn (nI n) (nI v) kd fg k (pu_C (nI n) (nI v) kd fg x).2).2.2.1 = _
            rw [ih _ _ r2 e3, e5, Int32.add_assoc, show (1 : Int32) + nI k = nI (k + 1) by rw [show (1 : Int32) = nI 1 from rfl, nI_add, Nat.add_comm]]
        have := hday y _ _ _ hQ
        rw [hx] at this
        exact ⟨q1, q2, q3, q4, q5, ⟨d + y, hc, by rw [show da' = da + nI y from this, hda, nI_add]⟩, q7, q8⟩
    · have hl : f_X4_hasDaysLeft (nI y) da = some 0 := by
        unfold f_X4_hasDaysLeft
        rw [hda, nI_add]
        exact if_pos (nI_lt (a := 999) (by omega) (by omega))
      have hle : ¬ da + nI y ≤ (999 : Int32) := by rw [hda, nI_add]; exact nI_ge (a := 999) (by omega) (by omega)
      rw [hl, if_neg hle]
      exact ⟨-3, th, bi, da, st, wa, s, rfl, rfl, hQ⟩
theorem po_count {B n : Nat} {th bi se da : Int32} {kd fg st wa s : Nat → Int32} (hQ : pu_Q B n se kd fg (th, bi, da, st, wa) s) (x1 : Int32) : ∃ a, f_X11_count x1 (nI n) th bi se da st = some a ∧ f_X12_count x1 s = some a := by
  obtain ⟨hR, v, hv, rfl, h2⟩ := hQ
  have hR : pu_R B n th bi da kd fg st wa s := hR
  obtain ⟨h1, hs0, hs1, hs3, h5, -, h7, h8⟩ := id hR
  unfold f_X11_count f_X12_count
  rcases pu_in (l := 0) (h := 3) (by omega) (by omega) x1 (L := 0) (H := 3) rfl rfl with hi | ⟨j, -, hj, rfl, hi⟩
  · rw [hi, pu_bind, if_pos rfl, if_neg (fun q => by rw [q] at hi; exact absurd hi (by decide)), if_neg (fun q => by rw [q] at hi; exact absurd hi (by decide)), if_neg (fun q => by rw [q] at hi; exact absurd hi (by decide)), if_neg (fun q => by rw [q] at hi; exact absurd hi (by decide)), pu_hereIn hR]
    by_cases c4 : x1 = 4
    · rw [if_pos c4, if_pos c4]
      exact ⟨th, rfl, rfl⟩
    · rw [if_neg c4, if_neg c4]
      by_cases c5 : x1 = 5
      · rw [if_pos c5, if_pos c5]
        obtain ⟨a, -, e1, e2⟩ := pu_stores hR th
        rw [e1]
        simp only [pu_bind]
        rw [e2]
        exact ⟨nI a, rfl, rfl⟩
      · rw [if_neg c5, if_neg c5]
        exact ⟨-1, rfl, rfl⟩
  · rw [hi, pu_bind, if_neg pu_10, pu_g (by omega) (by decide), nI_clamp (by omega)]
    rcases (by omega : j = 0 ∨ j = 1 ∨ j = 2 ∨ j = 3) with rfl | rfl | rfl | rfl
    · exact ⟨nI n, rfl, by rw [hs0]⟩
    · exact ⟨da, rfl, by rw [hs1]⟩
    · exact ⟨nI v, rfl, by rw [h2]⟩
    · exact ⟨bi, rfl, by rw [hs3]⟩
