/-! two -/
def pu_gn (n M w : Nat) : Nat := if M.testBit w = true then 5 + (n - (7 - pu_zs M 7)) else n - (7 - pu_zs M 7) - 1
def pu_gb (n M w : Nat) : Nat := if M.testBit w = true then n - (7 - pu_zs M 7) else n - (7 - pu_zs M 7) - 1
theorem pu_gain : ∀ n, n < 8 → ∀ M, M < 2 ^ n → ∀ w, w < n → f_X11_gainInMind (nI w) (nI n) (nI M) = some (nI (pu_gn n M w)) ∧ f_X12_bits (((nI (2 ^ n) - (1 : Int32)) &&& (nI M ^^^ (-1 : Int32))) &&& (((1 : Int32) <<< (nI w &&& 31)) ^^^ (-1 : Int32))) = some (nI (pu_gb n M w)) := by decide +kernel
theorem pu_k4 : ∀ k, k < 4 → nI k / (2 : Int32) = nI (k / 2) ∧ nI k - nI k / (2 : Int32) * (2 : Int32) = nI (k % 2) ∧ (1 : Int32) - nI k / (2 : Int32) = nI (1 - k / 2) ∧ (1 : Int32) - (nI k - nI k / (2 : Int32) * (2 : Int32)) = nI (1 - k % 2) ∧ (nI k ^^^ (2 : Int32)) = nI (k ^^^ 2) ∧ (nI k ^^^ (1 : Int32)) = nI (k ^^^ 1) ∧ nI k >>> ((1 : Int32) &&& 31) = nI (k / 2) ∧ nI k &&& (1 : Int32) = nI (k % 2) := by decide +kernel
theorem pu_k4n : ∀ k, k < 4 → k ^^^ 2 < 4 ∧ k ^^^ 1 < 4 ∧ (k ^^^ 2) / 2 = 1 - k / 2 ∧ (k ^^^ 2) % 2 = k % 2 ∧ (k ^^^ 1) / 2 = k / 2 ∧ (k ^^^ 1) % 2 = 1 - k % 2 := by decide
/-- who is there behind the days, if they lay out x and y -/
def pu_tw (n N : Nat) (se : Int32) (kd fg : Nat → Int32) (z : pu_S) (a b u q x y : Nat) : Nat := (pu_Cn (nI n) se kd fg N (z.1, z.2.1, z.2.2.1, upd (upd z.2.2.2.1 a (nI (u - x * (u / 2)))) b (nI (q - y * (q / 2))), z.2.2.2.2)).1.toNatClampNeg
theorem pu_twQ {B n : Nat} {th bi se da : Int32} {kd fg st wa r : Nat → Int32} (hQ : pu_Q B n se kd fg (th, bi, da, st, wa) r) {a b u q : Nat} (hu : u ≤ 99) (hq : q ≤ 99) (x y : Nat) : pu_Q B n se kd fg (th, bi, da, upd (upd st a (nI (u - x * (u / 2)))) b (nI (q - y * (q / 2))), wa) (upd (upd r (6 + 5 * a) (nI (u - x * (u / 2)))) (6 + 5 * b) (nI (q - y * (q / 2)))) := by
  obtain ⟨hR, v, hv, hse, h2⟩ := hQ
  exact ⟨pu_R_st (pu_R_st hR (Nat.le_trans (Nat.sub_le _ _) hu)) (Nat.le_trans (Nat.sub_le _ _) hq), v, hv, hse, by rw [pu_updn (by omega), pu_updn (by omega)]; exact h2⟩
theorem pu_twrow {n N : Nat} (hN : N ≤ 60) {th bi se da : Int32} {kd fg st wa s : Nat → Int32} (hQ : pu_Q 999 n se kd fg (th, bi, da, st, wa) s) {a b u q : Nat} (hu : u ≤ 99) (hq : q ≤ 99) (x y : Nat) (m : Nat → Int32) : ∃ r', f_X12_daysOn (nI N) (upd (upd (pu_cp s m) (6 + 5 * a) (nI (u - x * (u / 2)))) (6 + 5 * b) (nI (q - y * (q / 2)))) = some r' ∧ pu_mk r' n = pu_tw n N se kd fg (th, bi, da, st, wa) a b u q x y ∧ (∀ t, t < n → (r' (8 + 5 * t) = 1 ↔ (pu_mk r' n).testBit t = true)) ∧ f_X12_hereIn r' = some (nI (pu_mk r' n)) := by
  have hn : n ≤ 7 := hQ.1.1
  have hQc : pu_Q 999 n se kd fg (th, bi, da, st, wa) (pu_cp s m) := by
    obtain ⟨hR, v, hv, hse, h2⟩ := hQ
    exact ⟨pu_R_cg hR (fun i hi => pu_cp_lt hi) (fun _ _ => rfl) (fun _ _ => rfl) (fun _ _ => rfl) (fun _ _ => rfl), v, hv, hse, by rw [pu_cp_lt (by omega)]; exact h2⟩
  obtain ⟨-, r', g2, g3, -⟩ := pu_goQ (N := N) (by omega) (pu_twQ hQc hu hq x y (a := a) (b := b))
  have hth := g3.1.2.2.2.2.2.2.1
  have hm : pu_mk r' n < 128 := pu_mk_lt7 hn
  refine ⟨r', g2, ?_, fun t ht => (pu_mk_bit r' n t ht).symm, ?_⟩
  · unfold pu_tw
    rw [hth, nI_clamp (by omega)]
  · rw [pu_hereIn g3.1, hth]
theorem pu_hasBy {n N : Nat} (hN : N ≤ 60) {th bi se da : Int32} {kd fg st wa s : Nat → Int32} (hQ : pu_Q 999 n se kd fg (th, bi, da, st, wa) s) {a b u q x y w : Nat} (ha : a < n) (hb : b < n) (hab : a ≠ b) (hu : u ≤ 99) (hq : q ≤ 99) (eu : s (6 + 5 * a) = nI u) (eq : s (6 + 5 * b) = nI q) (hx : x ≤ 1) (hy : y ≤ 1) (hw : w < n) (m : Nat → Int32) : ∃ m', f_X12_hasBy (nI w) (nI a) (nI x) (nI b) (nI y) (nI N) s m = some (nI (pu_gn n (pu_tw n N se kd fg (th, bi, da, st, wa) a b u q x y) w) + (if nI w = nI a then nI x else nI y), m') := by
  have hn : n ≤ 7 := hQ.1.1
  have hs0 : s 0 = nI n := hQ.1.2.1
  obtain ⟨r', g1, g2, g3, g4⟩ := pu_twrow hN hQ hu hq x y m (a := a) (b := b)
  have h74 : ∃ m', f_X12_hasBy_74 (nI w) (nI a) (nI x) (nI y) (nI N) s (upd (upd (pu_cp s m) (6 + 5 * a) (nI (u - x * (u / 2)))) (6 + 5 * b) (nI (q - y * (q / 2)))) = some (nI (pu_gn n (pu_tw n N se kd fg (th, bi, da, st, wa) a b u q x y) w) + (if nI w = nI a then nI x else nI y), m') := by
    refine ⟨r', ?_⟩
    unfold f_X12_hasBy_74 f_X12_hasBy_127
    rw [g1, pu_bind, g4, pu_bind, pu_isHere (show w < 7 by omega), pu_bind, pu_c0, hs0, pu_shl1 n (by omega), (pu_gain n (by omega) _ (pu_mk_lt r' n) w hw).2, pu_bind, pu_bind, ← g2]
    unfold pu_gn pu_gb
    by_cases hh : r' (8 + 5 * w) = 1
    · rw [if_pos hh, if_neg pu_10, if_pos ((g3 w hw).mp hh), if_pos ((g3 w hw).mp hh)]
      by_cases e : nI w = nI a
      · rw [if_pos e, if_pos e, show (5 : Int32) = nI 5 from rfl, nI_add]
      · rw [if_neg e, if_neg e, show (5 : Int32) = nI 5 from rfl, nI_add]
    · rw [if_neg hh, if_pos rfl, if_neg (fun z => hh ((g3 w hw).mpr z)), if_neg (fun z => hh ((g3 w hw).mpr z))]
      by_cases e : nI w = nI a
      · rw [if_pos e, if_pos e, Int32.zero_add]
      · rw [if_neg e, if_neg e, Int32.zero_add]
  have hdiv : ∀ v, v ≤ 99 → nI v - nI v / (2 : Int32) = nI (v - v / 2) := fun v hv => by
    rw [show nI v / (2 : Int32) = nI (v / 2) from pk_div (d := 2) (by omega) (by omega) (by omega), pk_sub (by omega)]
  have cu : pu_cp s m (6 + 5 * a) = nI u := (pu_cp_lt (by omega)).trans eu
  have cq : pu_cp s m (6 + 5 * b) = nI q := (pu_cp_lt (by omega)).trans eq
  have h41 : ∀ r : Nat → Int32, r (6 + 5 * b) = nI q → f_X12_hasBy_41 (nI w) (nI a) (nI x) (nI b) (nI y) (nI N) s r = f_X12_hasBy_74 (nI w) (nI a) (nI x) (nI y) (nI N) s (upd r (6 + 5 * b) (nI (q - y * (q / 2)))) := fun r hr => by
    unfold f_X12_hasBy_41
    rcases (by omega : y = 0 ∨ y = 1) with rfl | rfl
    · rw [if_neg (by decide), Nat.zero_mul, Nat.sub_zero, pu_same hr]
    · rw [if_pos (show nI 1 = (1 : Int32) from rfl), pu_of2 b (by omega), pu_bind, pu_bind, pu_g (by omega) (by decide), pu_g (by omega) (by decide), pu_g (by omega) (by decide), nI_clamp (by omega), hr, hdiv q hq, Nat.one_mul]
  have hm1 : f_X12_hasBy (nI w) (nI a) (nI x) (nI b) (nI y) (nI N) s m = f_X12_hasBy_41 (nI w) (nI a) (nI x) (nI b) (nI y) (nI N) s (upd (pu_cp s m) (6 + 5 * a) (nI (u - x * (u / 2)))) := by
    unfold f_X12_hasBy
    rw [pu_copies, pu_bind]
    rcases (by omega : x = 0 ∨ x = 1) with rfl | rfl
    · rw [if_neg (by decide), Nat.zero_mul, Nat.sub_zero, pu_same cu]
    · rw [if_pos (show nI 1 = (1 : Int32) from rfl), pu_of2 a (by omega), pu_bind, pu_bind, pu_g (by omega) (by decide), pu_g (by omega) (by decide), pu_g (by omega) (by decide), nI_clamp (by omega), cu, hdiv u hu, Nat.one_mul]
  rw [hm1, h41 _ (by rw [pu_updn (by omega)]; exact cq)]
  exact h74
theorem pu_try {n N : Nat} (hN : N ≤ 60) {th bi se da : Int32} {kd fg st wa s : Nat → Int32} (hQ : pu_Q 999 n se kd fg (th, bi, da, st, wa) s) {a b u q k : Nat} (ha : a < n) (hb : b < n) (hab : a ≠ b) (hu : u ≤ 99) (hq : q ≤ 99) (eu : s (6 + 5 * a) = nI u) (eq : s (6 + 5 * b) = nI q) (hk : k < 4) (tn2 th2 bi2 se2 da2 : Int32) (kd2 fg2 st2 wa2 g1 g2 : Nat → Int32) : ∃ (tn3 th3 bi3 se3 da3 : Int32) (kd3 fg3 st3 wa3 : Nat → Int32), f_X11_tryGiving (nI a) (nI b) (nI k) (nI N) (nI n) th bi se da kd fg st wa tn2 th2 bi2 se2 da2 kd2 fg2 st2 wa2 g1 g2 = some (tn3, th3, bi3, se3, da3, kd3, fg3, st3, wa3, upd g1 k (nI (pu_gn n (pu_tw n N se kd fg (th, bi, da, st, wa) a b u q (k / 2) (k % 2)) a) + nI (k / 2)), upd g2 k (nI (pu_gn n (pu_tw n N se kd fg (th, bi, da, st, wa) a b u q (k / 2) (k % 2)) b) + nI (k % 2))) := by
  have hn : n ≤ 7 := hQ.1.1
  have hst := hQ.1.2.2.2.2.2.2.2
  have ea : st a = nI u := (hst a ha).2.2.1.trans eu
  have eb : st b = nI q := (hst b hb).2.2.1.trans eq
  have hM := pu_mind hQ kd2 fg2 st2 wa2 s
  obtain ⟨c1, r1, c2, c3, -⟩ := pu_goQ (N := N) (by omega) (pu_twQ hM hu hq (k / 2) (k % 2) (a := a) (b := b))
  obtain ⟨r2, d1, d2, -, -⟩ := pu_twrow hN hQ hu hq (k / 2) (k % 2) s (a := a) (b := b)
  have hr : r2 = r1 := Option.some.inj (d1.symm.trans c2)
  subst hr
  have hth := c3.1.2.2.2.2.2.2.1
  rw [d2] at hth
  obtain ⟨-, -, -, -, -, -, o1, o2⟩ := pu_k4 k hk
  have hlt : pu_tw n N se kd fg (th, bi, da, st, wa) a b u q (k / 2) (k % 2) < 2 ^ n := by rw [← d2]; exact pu_mk_lt _ _
  have hdiv : ∀ v, v ≤ 99 → nI v / (2 : Int32) = nI (v / 2) := fun v hv => pk_div (d := 2) (by omega) (by omega) (by omega)
  have hle : ∀ v x, x ≤ 1 → x * (v / 2) ≤ v := fun v x hx => by
    rcases (by omega : x = 0 ∨ x = 1) with rfl | rfl <;> omega
  have ma : pu_m st st2 a = nI u := (pu_cpy7 (by omega)).trans ea
  have mb : pu_m st st2 b = nI q := (pu_cpy7 (by omega)).trans eb
  unfold f_X11_tryGiving
  rw [pu_become, pu_bind, pu_g (k := a) (L := 7) (by omega) (by decide), pu_g (k := a) (L := 7) (by omega) (by decide), pu_g (k := a) (L := 7) (by omega) (by decide), pu_g (k := b) (L := 7) (by omega) (by decide), pu_g (k := b) (L := 7) (by omega) (by decide), pu_g (k := b) (L := 7) (by omega) (by decide), nI_clamp (n := a) (by omega), nI_clamp (n := b) (by omega), o1, o2]
  dsimp only at c1 ⊢
  rw [ea, eb, pu_updn (fun z => hab z.symm), ma, mb, hdiv u hu, hdiv q hq, pk_mul, pk_mul, pk_sub (hle u _ (by omega)), pk_sub (hle q _ (by omega)), c1, pu_bind]
  rw [hth, (pu_gain n (by omega) _ hlt a ha).1, pu_bind, (pu_gain n (by omega) _ hlt b hb).1, pu_bind, pu_g (k := k) (L := 4) hk (by decide), pu_g (k := k) (L := 4) hk (by decide), nI_clamp (n := k) (by omega)]
  exact ⟨_, _, _, _, _, _, _, _, _, rfl⟩
theorem pu_twoin {n N : Nat} (hN : N ≤ 60) {th bi se da : Int32} {kd fg st wa s : Nat → Int32} (hQ : pu_Q 999 n se kd fg (th, bi, da, st, wa) s) {a b u q : Nat} (ha : a < n) (hb : b < n) (hab : a ≠ b) (hu : u ≤ 99) (hq : q ≤ 99) (eu : s (6 + 5 * a) = nI u) (eq : s (6 + 5 * b) = nI q) : ∀ (j k c : Nat) (tn2 th2 bi2 se2 da2 : Int32) (kd2 fg2 st2 wa2 g1 g2 : Nat → Int32), k + j = 4 → (∀ i, i < k → g1 i = nI (pu_gn n (pu_tw n N se kd fg (th, bi, da, st, wa) a b u q (i / 2) (i % 2)) a) + nI (i / 2) ∧ g2 i = nI (pu_gn n (pu_tw n N se kd fg (th, bi, da, st, wa) a b u q (i / 2) (i % 2)) b) + nI (i % 2)) → ∃ (tn3 th3 bi3 se3 da3 : Int32) (kd3 fg3 st3 wa3 g3 g4 : Nat → Int32), f_X11_two_49 (c + j + 1) (nI a) (nI b) (nI N) (nI k) (nI n) th bi se da kd fg st wa tn2 th2 bi2 se2 da2 kd2 fg2 st2 wa2 g1 g2 = f_X11_two_73 2000 (0 : Int32) tn3 th3 bi3 se3 da3 kd3 fg3 st3 wa3 g3 g4 ∧ ∀ i, i < 4 → g3 i = nI (pu_gn n (pu_tw n N se kd fg (th, bi, da, st, wa) a b u q (i / 2) (i % 2)) a) + nI (i / 2) ∧ g4 i = nI (pu_gn n (pu_tw n N se kd fg (th, bi, da, st, wa) a b u q (i / 2) (i % 2)) b) + nI (i % 2) := by
  intro j
  induction j with
  | zero =>
    intro k c tn2 th2 bi2 se2 da2 kd2 fg2 st2 wa2 g1 g2 h hg
    have : k = 4 := by omega
    subst this
    refine ⟨tn2, th2, bi2, se2, da2, kd2, fg2, st2, wa2, g1, g2, ?_, hg⟩
    show f_X11_two_49s (f_X11_two_49 c) _ _ _ _ _ _ _ _ _ _ _ _ _ _ _ _ _ _ _ _ _ _ _ _ = _
    unfold f_X11_two_49s
    rw [if_pos (show (4 : Int32) ≤ nI 4 from pu_refl_n 4)]
  | succ j ih =>
    intro k c tn2 th2 bi2 se2 da2 kd2 fg2 st2 wa2 g1 g2 h hg
    obtain ⟨tn3, th3, bi3, se3, da3, kd3, fg3, st3, wa3, e⟩ := pu_try hN hQ ha hb hab hu hq eu eq (show k < 4 by omega) tn2 th2 bi2 se2 da2 kd2 fg2 st2 wa2 g1 g2
    obtain ⟨tn4, th4, bi4, se4, da4, kd4, fg4, st4, wa4, g3, g4, i1, i2⟩ := ih (k + 1) c tn3 th3 bi3 se3 da3 kd3 fg3 st3 wa3 (upd g1 k (nI (pu_gn n (pu_tw n N se kd fg (th, bi, da, st, wa) a b u q (k / 2) (k % 2)) a) + nI (k / 2))) (upd g2 k (nI (pu_gn n (pu_tw n N se kd fg (th, bi, da, st, wa) a b u q (k / 2) (k % 2)) b) + nI (k % 2))) (by omega) (fun i hi => by
      by_cases hik : i = k
      · subst hik
        exact ⟨pu_upd, pu_upd⟩
      · rw [pu_updn hik, pu_updn hik]
        exact hg i (by omega))
    refine ⟨tn4, th4, bi4, se4, da4, kd4, fg4, st4, wa4, g3, g4, ?_, i2⟩
    rw [← i1]
    show f_X11_two_49s (f_X11_two_49 (c + j + 1)) _ _ _ _ _ _ _ _ _ _ _ _ _ _ _ _ _ _ _ _ _ _ _ _ = _
    unfold f_X11_two_49s
    rw [if_neg (show ¬ (4 : Int32) ≤ nI k from nI_ge (b := 4) (by omega) (by omega)), e, pu_bind, nI_1]
theorem pu_twoout {n N : Nat} (hN : N ≤ 60) {th bi se da : Int32} {kd fg st wa s : Nat → Int32} (hQ : pu_Q 999 n se kd fg (th, bi, da, st, wa) s) {a b u q : Nat} (ha : a < n) (hb : b < n) (hab : a ≠ b) (hu : u ≤ 99) (hq : q ≤ 99) (eu : s (6 + 5 * a) = nI u) (eq : s (6 + 5 * b) = nI q) (tn2 th2 bi2 se2 da2 : Int32) (kd2 fg2 st2 wa2 g1 g2 : Nat → Int32) (hg : ∀ i, i < 4 → g1 i = nI (pu_gn n (pu_tw n N se kd fg (th, bi, da, st, wa) a b u q (i / 2) (i % 2)) a) + nI (i / 2) ∧ g2 i = nI (pu_gn n (pu_tw n N se kd fg (th, bi, da, st, wa) a b u q (i / 2) (i % 2)) b) + nI (i % 2)) : ∀ (j k c c2 : Nat) (m : Nat → Int32), k + j = 4 → ∃ e zc zr, f_X11_two_73 (c + j + 1) (nI k) tn2 th2 bi2 se2 da2 kd2 fg2 st2 wa2 g1 g2 = some (e, zc) ∧ f_X12_two_49 (c2 + j + 1) (nI a) (nI b) (nI N) (nI k) s m = some (e, zr) := by
  have hn : n ≤ 7 := hQ.1.1
  have hne : ¬ nI b = nI a := fun z => hab ((nI_eq (by omega) (by omega)).mp z).symm
  have hA : ∀ i, i < 4 → ∀ m, ∃ m', f_X12_hasBy (nI a) (nI a) (nI (i / 2)) (nI b) (nI (i % 2)) (nI N) s m = some (g1 i, m') := fun i hi m => by
    obtain ⟨m', e⟩ := pu_hasBy hN hQ ha hb hab hu hq eu eq (x := i / 2) (y := i % 2) (by omega) (by omega) ha m
    rw [if_pos rfl, ← (hg i hi).1] at e
    exact ⟨m', e⟩
  have hB : ∀ i, i < 4 → ∀ m, ∃ m', f_X12_hasBy (nI b) (nI a) (nI (i / 2)) (nI b) (nI (i % 2)) (nI N) s m = some (g2 i, m') := fun i hi m => by
    obtain ⟨m', e⟩ := pu_hasBy hN hQ ha hb hab hu hq eu eq (x := i / 2) (y := i % 2) (by omega) (by omega) hb m
    rw [if_neg hne, ← (hg i hi).2] at e
    exact ⟨m', e⟩
  intro j
  induction j with
  | zero =>
    intro k c c2 m h
    have : k = 4 := by omega
    subst this
    exact ⟨_, _, _, rfl, rfl⟩
  | succ j ih =>
    intro k c c2 m h
    have hk : k < 4 := by omega
    obtain ⟨o1, o2, o3, o4, o5, o6, o7, o8⟩ := pu_k4 k hk
    obtain ⟨n1, n2, n3, n4, n5, n6⟩ := pu_k4n k hk
    have h4 : ¬ (4 : Int32) ≤ nI k := nI_ge (b := 4) (by omega) (by omega)
    have hC : f_X11_two_73 (c + (j + 1) + 1) (nI k) tn2 th2 bi2 se2 da2 kd2 fg2 st2 wa2 g1 g2 = f_X11_two_73s (f_X11_two_73 (c + j + 1)) (nI k) tn2 th2 bi2 se2 da2 kd2 fg2 st2 wa2 g1 g2 := rfl
    have hD : f_X12_two_49 (c2 + (j + 1) + 1) (nI a) (nI b) (nI N) (nI k) s m = f_X12_two_49s (f_X12_two_49 (c2 + j + 1)) (nI a) (nI b) (nI N) (nI k) s m := rfl
    unfold f_X11_two_73s at hC
    unfold f_X12_two_49s at hD
    obtain ⟨m1, e1⟩ := hA (k ^^^ 2) n1 m
    obtain ⟨m2, e2⟩ := hA k hk m1
    obtain ⟨m3, e3⟩ := hB (k ^^^ 1) n2 m2
    obtain ⟨m4, e4⟩ := hB k hk m3
    rw [n3, n4] at e1
    rw [n5, n6] at e3
    rw [if_neg h4, pu_g (k := k) (L := 4) hk (by decide), o5, o6, pu_g (k := k ^^^ 2) (L := 4) n1 (by decide), pu_g (k := k) (L := 4) hk (by decide), pu_g (k := k ^^^ 1) (L := 4) n2 (by decide), nI_clamp (n := k) (by omega), nI_clamp (n := k ^^^ 2) (by omega), nI_clamp (n := k ^^^ 1) (by omega), o7, o8, nI_1] at hC
    rw [if_neg h4, o4, o3, o2, o1, e1, pu_bind] at hD
    dsimp only at hD
    rw [e2, pu_bind] at hD
    dsimp only at hD
    rw [nI_1] at hD
    by_cases c3 : g1 k < g1 (k ^^^ 2)
    · rw [if_pos c3] at hC hD
      obtain ⟨e, zc, zr, i1, i2⟩ := ih (k + 1) c c2 m2 (by omega)
      exact ⟨e, zc, zr, hC.trans i1, hD.trans i2⟩
    · rw [if_neg c3] at hC hD
      rw [e3, pu_bind] at hD
      dsimp only at hD
      rw [e4, pu_bind] at hD
      dsimp only at hD
      by_cases c4 : g2 k < g2 (k ^^^ 1)
      · rw [if_pos c4] at hC hD
        obtain ⟨e, zc, zr, i1, i2⟩ := ih (k + 1) c c2 m4 (by omega)
        exact ⟨e, zc, zr, hC.trans i1, hD.trans i2⟩
      · rw [if_neg c4] at hC hD
        exact ⟨_, _, _, hC, hD⟩
theorem po_two {n : Nat} {th bi se da : Int32} {kd fg st wa s : Nat → Int32} (hQ : pu_Q 999 n se kd fg (th, bi, da, st, wa) s) (x1 x2 x3 tn2 th2 bi2 se2 da2 : Int32) (kd2 fg2 st2 wa2 g1 g2 m : Nat → Int32) : ∃ e zc zr, f_X11_two x1 x2 x3 (nI n) th bi se da kd fg st wa tn2 th2 bi2 se2 da2 kd2 fg2 st2 wa2 g1 g2 = some (e, zc) ∧ f_X12_two x1 x2 x3 s m = some (e, zr) := by
  obtain ⟨hR, -⟩ := id hQ
  have hR : pu_R 999 n th bi da kd fg st wa s := hR
  have hn : n ≤ 7 := hR.1
  have h7 := hR.2.2.2.2.2.2.1
  unfold f_X11_two f_X12_two
  rcases pu_two hn x1 x2 hR.2.1 with ⟨a, b, ha, hb, hab, rfl, rfl, k1, k2⟩ | ⟨k1, k2⟩
  · rw [k1, k2, pu_bind, pu_bind, if_neg pu_10, if_neg pu_10, pu_within]
    rcases pu_in (l := 1) (h := 60) (by omega) (by omega) x3 (L := 1) (H := 60) rfl rfl with hi | ⟨N, -, hN, rfl, hi⟩
    · rw [hi]
      exact ⟨_, _, _, rfl, rfl⟩
    · have hta : f_X4_isThere (nI a) th = some (if (pu_mk s n).testBit a = true then 1 else 0) := by rw [h7, pu_isThere _ (pu_mk_lt7 hn) a (by omega)]
      have htb : f_X4_isThere (nI b) th = some (if (pu_mk s n).testBit b = true then 1 else 0) := by rw [h7, pu_isThere _ (pu_mk_lt7 hn) b (by omega)]
      have hba := pu_mk_bit s n a ha
      have hbb := pu_mk_bit s n b hb
      rw [hi, pu_bind, pu_bind, if_neg pu_10, if_neg pu_10, hta, htb, pu_isHere (show a < 7 by omega), pu_isHere (show b < 7 by omega)]
      simp only [pu_bind]
      by_cases ca : s (8 + 5 * a) = 1
      · rw [if_pos (hba.mpr ca), if_pos ca, if_neg pu_10, if_neg pu_10]
        by_cases cb : s (8 + 5 * b) = 1
        · rw [if_pos (hbb.mpr cb), if_pos cb, if_neg pu_10, if_neg pu_10]
          obtain ⟨-, -, -, -, ⟨-, -, ⟨u, hu, eu⟩, -, -⟩⟩ := hR.2.2.2.2.2.2.2 a ha
          obtain ⟨-, -, -, -, ⟨-, -, ⟨q, hq, eq⟩, -, -⟩⟩ := hR.2.2.2.2.2.2.2 b hb
          obtain ⟨tn3, th3, bi3, se3, da3, kd3, fg3, st3, wa3, g3, g4, i1, i2⟩ := pu_twoin hN hQ ha hb hab hu hq eu eq 4 0 1995 tn2 th2 bi2 se2 da2 kd2 fg2 st2 wa2 g1 g2 (by omega) (fun i hi => absurd hi (Nat.not_lt_zero i))
          obtain ⟨e, zc, zr, j1, j2⟩ := pu_twoout hN hQ ha hb hab hu hq eu eq tn3 th3 bi3 se3 da3 kd3 fg3 st3 wa3 g3 g4 i2 4 0 1995 1995 m (by omega)
          exact ⟨e, zc, zr, Eq.trans i1 j1, j2⟩
        · rw [if_neg (fun z => cb (hbb.mp z)), if_neg cb]
          exact ⟨_, _, _, rfl, rfl⟩
      · rw [if_neg (fun z => ca (hba.mp z)), if_neg ca]
        exact ⟨_, _, _, rfl, rfl⟩
  · rw [k1, k2]
    exact ⟨_, _, _, rfl, rfl⟩
