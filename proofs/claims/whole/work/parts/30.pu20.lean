/-! storms -/
def pu_zs (set : Nat) : Nat → Nat
  | 0 => 0
  | k + 1 => pu_zs set k + (if set.testBit k = true then 0 else 1)
def pu_wp (u set : Nat) : Nat → Nat
  | 0 => 1
  | k + 1 => pu_wp u set k * (if set.testBit k = true then 1 else u - 1)
theorem pu_wp_zs (u set : Nat) : ∀ k, pu_wp u set k = (u - 1) ^ pu_zs set k
  | 0 => rfl
  | k + 1 => by
    unfold pu_wp pu_zs
    rw [pu_wp_zs u set k]
    by_cases h : set.testBit k = true
    · rw [if_pos h, if_pos h, Nat.mul_one, Nat.add_zero]
    · rw [if_neg h, if_neg h, Nat.pow_succ]
theorem pu_zcnt : ∀ N, N < 8 → ∀ set, set < 2 ^ N → f_J6_bitCount_0f7a4 (nI set) = some (nI (N - pu_zs set N)) ∧ pu_zs set N ≤ N := by decide +kernel
theorem pu_powloop {u N : Nat} (hu : u ≤ 20) (hN : N ≤ 7) : ∀ (j k c : Nat), k + j = N → f_X11_power_5 (c + j + 1) (nI u) (nI N) (lN (u ^ k)) (nI k) = some (lN (u ^ N)) := by
  intro j
  induction j with
  | zero =>
    intro k c h
    have : k = N := by omega
    subst this
    show f_X11_power_5s _ _ _ _ _ = _
    unfold f_X11_power_5s
    rw [if_pos (pu_refl_n k)]
  | succ j ih =>
    intro k c h
    rw [← ih (k + 1) c (by omega)]
    show f_X11_power_5s (f_X11_power_5 (c + j + 1)) _ _ _ _ = _
    unfold f_X11_power_5s
    rw [if_neg (nI_ge (by omega) (by omega)), nI_l (by omega), lN_mul, nI_1, Nat.pow_succ]
theorem pu_power {u N : Nat} (hu : u ≤ 20) (hN : N ≤ 7) : f_X11_power (nI u) (nI N) = some (lN (u ^ N)) := by
  have h := pu_powloop hu hN N 0 (1999 - N) (by omega)
  rw [show 1999 - N + N + 1 = 2000 by omega, Nat.pow_zero] at h
  exact h
theorem pu_hb2 {set k : Nat} (hs : set < 128) (hk : k < 7) : f_X12_has (nI set) (nI k) = some (if set.testBit k = true then 1 else 0) := by rw [pu_has]; exact pu_hasBit set hs k hk
theorem pu_wtloop {n N set t u v : Nat} (hN : N ≤ 7) (hset : set < 128) (ht : t < 7) (hu2 : 2 ≤ u) (hu : u ≤ 20) (hv : v ≤ 9) {kd fg s : Nat → Int32} (K84 : Int32 → Int32 → Int32 → Int32 → Int32 → Int64 → Int64 → Int32 → (Nat → Int32) → (Nat → Int32) → Option (Int64 × (Nat → Int32))) (vv p : Int32) (ab be : Int64) (htn : t < n) :
    ∀ (j k c c2 B : Nat) (x : pu_S) (r : Nat → Int32) (se2 : Int32), k + j = N → pu_R B n x.1 x.2.1 x.2.2.1 kd fg x.2.2.2.1 x.2.2.2.2 r → r 2 = nI v →
    ∃ (y : pu_S) (se3 : Int32) (r' : Nat → Int32), f_X11_weather_13 (c + j + 1) (nI N) (nI set) (nI k) (nI v) (nI n) x.1 x.2.1 se2 x.2.2.1 kd fg x.2.2.2.1 x.2.2.2.2 = some (nI n, y.1, y.2.1, se3, y.2.2.1, kd, fg, y.2.2.2.1, y.2.2.2.2) ∧ f_X12_storms_112 K84 (c2 + j + 1) (nI t) (nI N) (nI u) vv p ab be (nI set) (lN (pu_wp u set k)) (nI k) s r = f_X12_storms_199 K84 (nI t) (nI N) (nI u) vv p be (nI set) ab (if r' (6 + 5 * t) < vv then 0 else lN (pu_wp u set N)) s r' ∧ y.2.2.2.1 t = r' (6 + 5 * t) := by
  intro j
  induction j with
  | zero =>
    intro k c c2 B x r se2 h hR h2
    have : k = N := by omega
    subst this
    refine ⟨x, se2, r, ?_, ?_, (hR.2.2.2.2.2.2.2 t htn).2.2.1⟩
    · show f_X11_weather_13s _ _ _ _ _ _ _ _ _ _ _ _ _ _ = _
      unfold f_X11_weather_13s
      rw [if_pos (pu_refl_n k)]
    · show f_X12_storms_112s _ _ _ _ _ _ _ _ _ _ _ _ _ _ = _
      unfold f_X12_storms_112s
      rw [if_pos (pu_refl_n k), pu_of2 t ht, pu_bind, pu_g (by omega) (by decide), nI_clamp (by omega)]
      by_cases hc : r (6 + 5 * t) < vv
      · rw [if_pos hc, if_pos hc]
      · rw [if_neg hc, if_neg hc]
  | succ j ih =>
    intro k c c2 B x r se2 h hR h2
    have hlt : ¬ nI N ≤ nI k := nI_ge (by omega) (by omega)
    have hk7 : k < 7 := by omega
    have hC : f_X11_weather_13 (c + (j + 1) + 1) (nI N) (nI set) (nI k) (nI v) (nI n) x.1 x.2.1 se2 x.2.2.1 kd fg x.2.2.2.1 x.2.2.2.2 = f_X11_weather_13s (f_X11_weather_13 (c + j + 1)) (nI N) (nI set) (nI k) (nI v) (nI n) x.1 x.2.1 se2 x.2.2.1 kd fg x.2.2.2.1 x.2.2.2.2 := rfl
    have hD : f_X12_storms_112 K84 (c2 + (j + 1) + 1) (nI t) (nI N) (nI u) vv p ab be (nI set) (lN (pu_wp u set k)) (nI k) s r = f_X12_storms_112s K84 (f_X12_storms_112 K84 (c2 + j + 1)) (nI t) (nI N) (nI u) vv p ab be (nI set) (lN (pu_wp u set k)) (nI k) s r := rfl
    unfold f_X11_weather_13s f_X11_weather_41 at hC
    unfold f_X12_storms_112s at hD
    rw [if_neg hlt, pu_hasBit set hset k hk7, pu_bind] at hC
    rw [if_neg hlt, pu_hb2 hset hk7, pu_bind] at hD
    unfold f_X12_storms_138 at hD
    rw [pu_hb2 hset hk7, pu_bind, pu_bind] at hD
    unfold f_X12_storms_165 at hD
    rw [pu_c2, h2] at hD
    have hwp : pu_wp u set (k + 1) = pu_wp u set k * (if set.testBit k = true then 1 else u - 1) := rfl
    by_cases hb : set.testBit k = true
    · rw [if_pos hb] at hwp
      obtain ⟨e1, r1, e2, e3, e4, -, -, -⟩ := pu_dayC (v := 0) (by omega) hR
      rw [nI_0] at e1 e2 e3
      rw [if_pos hb, if_neg pu_10, e1, pu_bind, nI_1] at hC
      rw [if_pos hb, if_neg pu_10, if_neg pu_10, e2, pu_bind, nI_1, show lN (pu_wp u set k) * (1 : Int64) = lN (pu_wp u set (k + 1)) from (lN_mul _ 1).trans (by rw [hwp])] at hD
      obtain ⟨y, se3, r', i1, i2, i3⟩ := ih (k + 1) c c2 (B + 1) _ r1 0 (by omega) e3 (e4.trans h2)
      exact ⟨y, se3, r', hC.trans i1, hD.trans i2, i3⟩
    · rw [if_neg hb] at hwp
      obtain ⟨e1, r1, e2, e3, e4, -, -, -⟩ := pu_dayC hv hR
      rw [if_neg hb, if_pos rfl, e1, pu_bind, nI_1] at hC
      rw [if_neg hb, if_pos rfl, if_pos rfl, e2, pu_bind, nI_1, show (nI u - (1 : Int32)).toInt64 = lN (u - 1) by rw [show nI u - (1 : Int32) = nI (u - 1) from pk_sub (b := 1) (by omega), nI_l (by omega)], lN_mul, ← hwp] at hD
      obtain ⟨y, se3, r', i1, i2, i3⟩ := ih (k + 1) c c2 (B + 1) _ r1 (nI v) (by omega) e3 (e4.trans h2)
      exact ⟨y, se3, r', hC.trans i1, hD.trans i2, i3⟩
theorem pu_stormloop {n N t u p : Nat} (hN : N ≤ 7) (ht : t < n) (hu2 : 2 ≤ u) (hu : u ≤ 20) (hp : p ≤ 1) (vv : Int32) {th bi se da : Int32} {kd fg st wa s : Nat → Int32} (hQ : pu_Q 999 n se kd fg (th, bi, da, st, wa) s) : ∀ (j set c c2 ab : Nat) (tn2 th2 bi2 se2 da2 : Int32) (kd2 fg2 st2 wa2 m : Nat → Int32), set + j = 2 ^ N → ab ≤ set * 19 ^ 7 → ∃ e zc zr, f_X11_storms_74 (c + j + 1) (nI t) (nI N) (nI u) vv (nI p) (lN ab) (nI set) (nI n) th bi se da kd fg st wa tn2 th2 bi2 se2 da2 kd2 fg2 st2 wa2 = some (e, zc) ∧ f_X12_storms_84 (c2 + j + 1) (nI t) (nI N) (nI u) vv (nI p) (lN ab) (lN (u ^ N)) (nI set) s m = some (e, zr) := by
  have hn : n ≤ 7 := hQ.1.1
  have h2N : 2 ^ N ≤ 128 := Nat.pow_le_pow_right (n := 2) (by decide) hN
  have huN : u ^ N ≤ 20 ^ 7 := Nat.le_trans (Nat.pow_le_pow_left hu N) (Nat.pow_le_pow_right (by decide) hN)
  intro j
  induction j with
  | zero =>
    intro set c c2 ab tn2 th2 bi2 se2 da2 kd2 fg2 st2 wa2 m h hab
    have : set = 2 ^ N := by omega
    subst this
    have hab' : ab < 2 ^ 63 := by
      have : ab ≤ 128 * 19 ^ 7 := Nat.le_trans hab (Nat.mul_le_mul_right _ h2N)
      omega
    obtain ⟨e, g1, g2⟩ := pu_least2 (a := ab) (b := u ^ N) (q := p) hab' (by omega) hp
    refine ⟨e, (tn2, th2, bi2, se2, da2, kd2, fg2, st2, wa2), m, ?_, ?_⟩
    · show f_X11_storms_74s _ _ _ _ _ _ _ _ _ _ _ _ _ _ _ _ _ _ _ _ _ _ _ _ _ _ = _
      unfold f_X11_storms_74s
      rw [pu_shl1 N (by omega), if_pos (pu_refl_n _), pu_power hu hN, pu_bind, g1, pu_bind]
    · show f_X12_storms_84s _ _ _ _ _ _ _ _ _ _ _ = _
      unfold f_X12_storms_84s
      rw [pu_shl1 N (by omega), if_pos (pu_refl_n _), g2, pu_bind]
  | succ j ih =>
    intro set c c2 ab tn2 th2 bi2 se2 da2 kd2 fg2 st2 wa2 m h hab
    have hset : set < 2 ^ N := by omega
    obtain ⟨hR, v, hv, hse, h2⟩ := pu_mind hQ kd2 fg2 st2 wa2 m
    have hC : f_X11_storms_74 (c + (j + 1) + 1) (nI t) (nI N) (nI u) vv (nI p) (lN ab) (nI set) (nI n) th bi se da kd fg st wa tn2 th2 bi2 se2 da2 kd2 fg2 st2 wa2 = f_X11_storms_74s (f_X11_storms_74 (c + j + 1)) (nI t) (nI N) (nI u) vv (nI p) (lN ab) (nI set) (nI n) th bi se da kd fg st wa tn2 th2 bi2 se2 da2 kd2 fg2 st2 wa2 := rfl
    have hD : f_X12_storms_84 (c2 + (j + 1) + 1) (nI t) (nI N) (nI u) vv (nI p) (lN ab) (lN (u ^ N)) (nI set) s m = f_X12_storms_84s (f_X12_storms_84 (c2 + j + 1)) (nI t) (nI N) (nI u) vv (nI p) (lN ab) (lN (u ^ N)) (nI set) s m := rfl
    unfold f_X11_storms_74s f_X11_weather at hC
    unfold f_X12_storms_84s at hD
    obtain ⟨y, se3, r', i1, i2, i3⟩ := pu_wtloop hN (show set < 128 by omega) (show t < 7 by omega) hu2 hu hv (s := s) (f_X12_storms_84 (c2 + j + 1)) vv (nI p) (lN ab) (lN (u ^ N)) ht N 0 (1999 - N) (1999 - N) 999 _ _ se (by omega) hR h2
    rw [show 1999 - N + N + 1 = 2000 by omega, nI_0] at i1 i2
    dsimp only at i1
    rw [pu_shl1 N (by omega), if_neg (nI_ge hset (by omega)), pu_become, pu_bind] at hC
    rw [pu_shl1 N (by omega), if_neg (nI_ge hset (by omega)), pu_copies, pu_bind] at hD
    rw [← hse] at i1
    dsimp only at hC
    rw [i1, pu_bind, pu_g (show t < 7 by omega) (by decide), nI_clamp (show t < 2 ^ 31 by omega)] at hC
    dsimp only at hC
    rw [i3] at hC
    rw [show f_X12_storms_112 (f_X12_storms_84 (c2 + j + 1)) 2000 (nI t) (nI N) (nI u) vv (nI p) (lN ab) (lN (u ^ N)) (nI set) (1 : Int64) (0 : Int32) s (pu_cp s m) = _ from i2] at hD
    unfold f_X12_storms_199 at hD
    rw [nI_1] at hC hD
    obtain ⟨z1, z2⟩ := pu_zcnt N (by omega) set hset
    by_cases hc : r' (6 + 5 * t) < vv
    · rw [if_pos hc] at hC hD
      rw [Int64.add_zero] at hD
      obtain ⟨e, zc, zr, q1, q2⟩ := ih (set + 1) c c2 ab (nI n) y.1 y.2.1 se3 y.2.2.1 (pu_m kd kd2) (pu_m fg fg2) y.2.2.2.1 y.2.2.2.2 r' (by omega) (Nat.le_trans hab (Nat.mul_le_mul_right _ (Nat.le_succ set)))
      exact ⟨e, zc, zr, hC.trans q1, hD.trans q2⟩
    · have hw : pu_wp u set N ≤ 19 ^ 7 := by
        rw [pu_wp_zs]
        exact Nat.le_trans (Nat.pow_le_pow_left (show u - 1 ≤ 19 by omega) _) (Nat.pow_le_pow_right (by decide) (by omega))
      rw [if_neg hc, z1, pu_bind, pk_sub (Nat.sub_le _ _), show N - (N - pu_zs set N) = pu_zs set N by omega, show nI u - (1 : Int32) = nI (u - 1) from pk_sub (b := 1) (by omega), pu_power (by omega) (by omega), pu_bind, ← pu_wp_zs, lN_add] at hC
      rw [if_neg hc, lN_add] at hD
      obtain ⟨e, zc, zr, q1, q2⟩ := ih (set + 1) c c2 (ab + pu_wp u set N) (nI n) y.1 y.2.1 se3 y.2.2.1 (pu_m kd kd2) (pu_m fg fg2) y.2.2.2.1 y.2.2.2.2 r' (by omega) (by have q : (set + 1) * 19 ^ 7 = set * 19 ^ 7 + 19 ^ 7 := Nat.succ_mul _ _; exact Nat.le_trans (Nat.add_le_add hab hw) (Nat.le_of_eq q.symm))
      exact ⟨e, zc, zr, hC.trans q1, hD.trans q2⟩
theorem pu_belowloop {N u : Nat} (hN : N ≤ 7) (hu : u ≤ 20) (x1 x4 x5 : Int32) (a : Int64) (s m : Nat → Int32) : ∀ (j k c : Nat), k + j = N → f_X12_storms_62 (c + j + 1) x1 (nI N) (nI u) x4 x5 a (lN (u ^ k)) (nI k) s m = f_X12_storms_84 2000 x1 (nI N) (nI u) x4 x5 a (lN (u ^ N)) (0 : Int32) s m := by
  intro j
  induction j with
  | zero =>
    intro k c h
    have : k = N := by omega
    subst this
    show f_X12_storms_62s _ _ _ _ _ _ _ _ _ _ _ = _
    unfold f_X12_storms_62s
    rw [if_pos (pu_refl_n k)]
  | succ j ih =>
    intro k c h
    rw [← ih (k + 1) c (by omega)]
    show f_X12_storms_62s (f_X12_storms_62 (c + j + 1)) _ _ _ _ _ _ _ _ _ _ = _
    unfold f_X12_storms_62s
    rw [if_neg (nI_ge (by omega) (by omega)), nI_l (by omega), lN_mul, nI_1, Nat.pow_succ]
theorem po_storms {n : Nat} {th bi se da : Int32} {kd fg st wa s : Nat → Int32} (hQ : pu_Q 999 n se kd fg (th, bi, da, st, wa) s) (x1 x2 x3 x4 x5 tn2 th2 bi2 se2 da2 : Int32) (kd2 fg2 st2 wa2 m : Nat → Int32) : ∃ e zc zr, f_X11_storms x1 x2 x3 x4 x5 (nI n) th bi se da kd fg st wa tn2 th2 bi2 se2 da2 kd2 fg2 st2 wa2 = some (e, zc) ∧ f_X12_storms x1 x2 x3 x4 x5 s m = some (e, zr) := by
  have hn : n ≤ 7 := hQ.1.1
  unfold f_X11_storms f_X12_storms
  rcases pu_knows hn x1 hQ.1.2.1 with ⟨t, ht, rfl, k1, k2⟩ | ⟨k1, k2⟩
  · rw [k1, k2, pu_bind, pu_bind, if_neg pu_10, if_neg pu_10, pu_within]
    rcases pu_in (l := 0) (h := 7) (by omega) (by omega) x2 (L := 0) (H := 7) rfl rfl with hi | ⟨N, -, hN, rfl, hi⟩
    · rw [hi]
      exact ⟨_, _, _, rfl, rfl⟩
    · rw [hi, pu_bind, pu_bind, if_neg pu_10, if_neg pu_10, pu_within]
      rcases pu_in (l := 2) (h := 20) (by omega) (by omega) x3 (L := 2) (H := 20) rfl rfl with hi | ⟨u, hu2, hu, rfl, hi⟩
      · rw [hi]
        exact ⟨_, _, _, rfl, rfl⟩
      · rw [hi, pu_bind, pu_bind, if_neg pu_10, if_neg pu_10, pu_within]
        rcases pu_in (l := 0) (h := 99) (by omega) (by omega) x4 (L := 0) (H := 99) rfl rfl with hi | ⟨vv, -, hvv, rfl, hi⟩
        · rw [hi]
          exact ⟨_, _, _, rfl, rfl⟩
        · rw [hi, pu_bind, pu_bind, if_neg pu_10, if_neg pu_10, pu_within]
          rcases pu_in (l := 0) (h := 1) (by omega) (by omega) x5 (L := 0) (H := 1) rfl rfl with hi | ⟨p, -, hp, rfl, hi⟩
          · rw [hi]
            exact ⟨_, _, _, rfl, rfl⟩
          · rw [hi, pu_bind, pu_bind, if_neg pu_10, if_neg pu_10]
            have h2N : 2 ^ N ≤ 128 := Nat.pow_le_pow_right (n := 2) (by decide) hN
            obtain ⟨e, zc, zr, g1, g2⟩ := pu_stormloop hN ht hu2 hu hp (nI vv) hQ (2 ^ N) 0 (1999 - 2 ^ N) (1999 - 2 ^ N) 0 tn2 th2 bi2 se2 da2 kd2 fg2 st2 wa2 m (by omega) (by omega)
            rw [show 1999 - 2 ^ N + 2 ^ N + 1 = 2000 by omega, nI_0] at g1 g2
            have b := pu_belowloop hN hu (nI t) (nI vv) (nI p) (0 : Int64) s m N 0 (1999 - N) (by omega)
            rw [show 1999 - N + N + 1 = 2000 by omega, Nat.pow_zero] at b
            refine ⟨e, zc, zr, ?_, ?_⟩
            · unfold f_X11_storms_57
              rw [if_neg pu_10]
              exact g1
            · exact Eq.trans b g2
  · rw [k1, k2]
    exact ⟨_, _, _, rfl, rfl⟩
