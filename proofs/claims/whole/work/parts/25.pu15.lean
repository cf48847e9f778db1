/-! what kind one is -/
theorem pu_R_kd {B n t k : Nat} (hk : k < 8) {th bi da : Int32} {kd fg st wa r : Nat → Int32} (h : pu_R B n th bi da kd fg st wa r) : pu_R B n th bi da (upd kd t (nI k)) fg st wa (upd r (4 + 5 * t) (nI k)) := by
  obtain ⟨h1, h2, h3, h4, h5, h6, h7, h8⟩ := h
  refine ⟨h1, by rw [pu_updn (by omega)]; exact h2, by rw [pu_updn (by omega)]; exact h3, by rw [pu_updn (by omega)]; exact h4, h5, h6, ?_, fun u hu => ?_⟩
  · rw [pu_mk_congr (r := r) (fun u _ => by rw [pu_updn (by omega)])]; exact h7
  · have e5 : upd r (4 + 5 * t) (nI k) (5 + 5 * u) = r (5 + 5 * u) := pu_updn (by omega)
    have e6 : upd r (4 + 5 * t) (nI k) (6 + 5 * u) = r (6 + 5 * u) := pu_updn (by omega)
    have e7 : upd r (4 + 5 * t) (nI k) (7 + 5 * u) = r (7 + 5 * u) := pu_updn (by omega)
    have e8 : upd r (4 + 5 * t) (nI k) (8 + 5 * u) = r (8 + 5 * u) := pu_updn (by omega)
    obtain ⟨a1, a2, a3, a4, b1, b2⟩ := h8 u hu
    unfold pu_T
    rw [e5, e6, e7, e8]
    by_cases hut : u = t
    · subst hut
      rw [pu_upd, pu_upd]
      exact ⟨rfl, a2, a3, a4, ⟨k, hk, rfl⟩, b2⟩
    · rw [pu_updn hut, pu_updn (by omega)]
      exact ⟨a1, a2, a3, a4, b1, b2⟩
theorem pu_R_fg {B n t k : Nat} (hk : k ≤ 9) {th bi da : Int32} {kd fg st wa r : Nat → Int32} (h : pu_R B n th bi da kd fg st wa r) : pu_R B n th bi da kd (upd fg t (nI k)) st wa (upd r (5 + 5 * t) (nI k)) := by
  obtain ⟨h1, h2, h3, h4, h5, h6, h7, h8⟩ := h
  refine ⟨h1, by rw [pu_updn (by omega)]; exact h2, by rw [pu_updn (by omega)]; exact h3, by rw [pu_updn (by omega)]; exact h4, h5, h6, ?_, fun u hu => ?_⟩
  · rw [pu_mk_congr (r := r) (fun u _ => by rw [pu_updn (by omega)])]; exact h7
  · have e4 : upd r (5 + 5 * t) (nI k) (4 + 5 * u) = r (4 + 5 * u) := pu_updn (by omega)
    have e6 : upd r (5 + 5 * t) (nI k) (6 + 5 * u) = r (6 + 5 * u) := pu_updn (by omega)
    have e7 : upd r (5 + 5 * t) (nI k) (7 + 5 * u) = r (7 + 5 * u) := pu_updn (by omega)
    have e8 : upd r (5 + 5 * t) (nI k) (8 + 5 * u) = r (8 + 5 * u) := pu_updn (by omega)
    obtain ⟨a1, a2, a3, a4, b1, b2, b3⟩ := h8 u hu
    unfold pu_T
    rw [e4, e6, e7, e8]
    by_cases hut : u = t
    · subst hut
      rw [pu_upd, pu_upd]
      exact ⟨a1, rfl, a3, a4, b1, ⟨k, hk, rfl⟩, b3⟩
    · rw [pu_updn hut, pu_updn (by omega)]
      exact ⟨a1, a2, a3, a4, b1, b2, b3⟩
theorem pu_tellsOf {n d z t : Nat} (hd : d < 8) (hz : z ≤ 100) (ht : t < n) {se so : Int32} {kd fg s : Nat → Int32} {el so' sz' em : Nat → Int32} (hso : so = so' d) (hsz : sz' d = nI z) (hel : ∀ i, i < 100 → el i = em (100 * d + i)) : ∀ (j i c c2 B : Nat) (x : pu_S) (r : Nat → Int32) (acc : Int32), acc = 0 ∨ acc = 1 → i + j = z → pu_Q B n se kd fg x r → ∃ (fin : Int32) (r' : Nat → Int32), (fin = 0 ∨ fin = 1) ∧ (acc = 0 → fin = 0) ∧ (acc = 1 → ∃ zc : pu_S, f_X11_tellsStoreOf_2 (c + j + 1) (nI t) (nI i) (nI n) x.1 x.2.1 se x.2.2.1 kd fg x.2.2.2.1 x.2.2.2.2 so (nI z) el = some (fin, zc)) ∧ ∀ k x3 x5 x6, f_X12_whatIs_86 k (c2 + j + 1) (nI d) (nI t) x3 x5 x6 acc (nI i) s r so' sz' em = (if fin = 0 then f_X12_whatIs_148 k (nI d) (nI t) x3 x6 x5 (0 : Int32) s r' so' sz' em else f_X12_whatIs_148 k (nI d) (nI t) x3 x6 x5 ((1 : Int32) <<< (x6 &&& 31)) s r' so' sz' em) := by
  intro j
  induction j with
  | zero =>
    intro i c c2 B x r acc ha h hQ
    have : i = z := by omega
    subst this
    refine ⟨acc, r, ha, fun q => q, fun q => ⟨x, ?_⟩, fun k x3 x5 x6 => ?_⟩
    · show f_X11_tellsStoreOf_2s _ _ _ _ _ _ _ _ _ _ _ _ _ _ _ = _
      unfold f_X11_tellsStoreOf_2s
      rw [if_pos (pu_refl_n i), q]
    · show f_X12_whatIs_86s _ _ _ _ _ _ _ _ _ _ _ _ _ _ = _
      unfold f_X12_whatIs_86s
      rw [pu_g8 hd, nI_clamp (by omega), hsz, if_pos (pu_refl_n i)]
  | succ j ih =>
    intro i c c2 B x r acc ha h hQ
    have hlt : ¬ nI z ≤ nI i := nI_ge (by omega) (by omega)
    have ht7 : t < 7 := Nat.lt_of_lt_of_le ht hQ.1.1
    obtain ⟨e1, r1, e2, e3, -⟩ := pu_day1Q hQ
    obtain ⟨-, -, a3, -, -⟩ := hQ.1.2.2.2.2.2.2.2 t ht
    have hC : f_X11_tellsStoreOf_2 (c + (j + 1) + 1) (nI t) (nI i) (nI n) x.1 x.2.1 se x.2.2.1 kd fg x.2.2.2.1 x.2.2.2.2 so (nI z) el = f_X11_tellsStoreOf_2s (f_X11_tellsStoreOf_2 (c + j + 1)) (nI t) (nI i) (nI n) x.1 x.2.1 se x.2.2.1 kd fg x.2.2.2.1 x.2.2.2.2 so (nI z) el := rfl
    unfold f_X11_tellsStoreOf_2s f_X11_tellsStoreOf_38 at hC
    rw [if_neg hlt, e1, pu_bind, nI_1] at hC
    have step : ∀ (b : Int32), (∀ u, u = r (6 + 5 * t) → f_X12_isTold (nI d) (nI i) u so' em = some b) → ∀ k x3 x5 x6, f_X12_whatIs_86 k (c2 + (j + 1) + 1) (nI d) (nI t) x3 x5 x6 acc (nI i) s r so' sz' em = f_X12_whatIs_86 k (c2 + j + 1) (nI d) (nI t) x3 x5 x6 (acc &&& b) (nI (i + 1)) s r1 so' sz' em := by
      intro b hb k x3 x5 x6
      show f_X12_whatIs_86s _ _ _ _ _ _ _ _ _ _ _ _ _ _ = _
      unfold f_X12_whatIs_86s
      rw [pu_g8 hd, nI_clamp (by omega), hsz, if_neg hlt, pu_of2 t ht7, pu_bind, pu_g (by omega) (by decide), nI_clamp (by omega), hb _ rfl, pu_bind, e2, pu_bind, nI_1]
      rfl
    have go1 : (∀ u, u = r (6 + 5 * t) → f_X12_isTold (nI d) (nI i) u so' em = some 1) → (f_X11_tellsStoreOf_2 (c + (j + 1) + 1) (nI t) (nI i) (nI n) x.1 x.2.1 se x.2.2.1 kd fg x.2.2.2.1 x.2.2.2.2 so (nI z) el = f_X11_tellsStoreOf_2 (c + j + 1) (nI t) (nI (i + 1)) (nI n) (pu_C (nI n) se kd fg x).2.1 (pu_C (nI n) se kd fg x).2.2.1 se (pu_C (nI n) se kd fg x).2.2.2.1 kd fg (pu_C (nI n) se kd fg x).2.2.2.2.1 (pu_C (nI n) se kd fg x).2.2.2.2.2 so (nI z) el) → ∃ (fin : Int32) (r' : Nat → Int32), (fin = 0 ∨ fin = 1) ∧ (acc = 0 → fin = 0) ∧ (acc = 1 → ∃ zc : pu_S, f_X11_tellsStoreOf_2 (c + (j + 1) + 1) (nI t) (nI i) (nI n) x.1 x.2.1 se x.2.2.1 kd fg x.2.2.2.1 x.2.2.2.2 so (nI z) el = some (fin, zc)) ∧ ∀ k x3 x5 x6, f_X12_whatIs_86 k (c2 + (j + 1) + 1) (nI d) (nI t) x3 x5 x6 acc (nI i) s r so' sz' em = (if fin = 0 then f_X12_whatIs_148 k (nI d) (nI t) x3 x6 x5 (0 : Int32) s r' so' sz' em else f_X12_whatIs_148 k (nI d) (nI t) x3 x6 x5 ((1 : Int32) <<< (x6 &&& 31)) s r' so' sz' em) := by
      intro t2 hCC
      have hacc : acc &&& 1 = acc := by rcases ha with rfl | rfl <;> rfl
      obtain ⟨fin, r', f1, f2, f3, f4⟩ := ih (i + 1) c c2 (B + 1) _ r1 acc ha (by omega) e3
      exact ⟨fin, r', f1, f2, fun q => by obtain ⟨zc, hzc⟩ := f3 q; exact ⟨zc, hCC.trans hzc⟩, fun k x3 x5 x6 => by rw [step 1 t2, hacc]; exact f4 k x3 x5 x6⟩
    rcases pu_told hd (show i < 100 by omega) hso (hel i (by omega)) with ⟨t1, t2⟩ | ⟨t1, t2⟩
    · rw [t1, pu_bind, if_neg pu_10] at hC
      exact go1 (fun u _ => t2 u) hC
    · rw [t1, pu_bind, if_pos rfl, pu_g (k := i) (L := 100) (by omega) (by decide), pu_g ht7 (by decide), nI_clamp (n := i) (by omega), nI_clamp (n := t) (by omega), a3] at hC
      by_cases hq : el i = r (6 + 5 * t)
      · rw [if_pos hq] at hC
        exact go1 (fun u hu => by rw [t2 u, hu, if_pos hq]) hC
      · rw [if_neg hq] at hC
        have hacc : acc &&& 0 = 0 := by rcases ha with rfl | rfl <;> rfl
        obtain ⟨fin, r', f1, f2, -, f4⟩ := ih (i + 1) c c2 (B + 1) _ r1 0 (Or.inl rfl) (by omega) e3
        have hf := f2 rfl
        subst hf
        exact ⟨0, r', Or.inl rfl, fun _ => rfl, fun _ => ⟨x, hC⟩, fun k x3 x5 x6 => by rw [step 0 (fun u hu => by rw [t2 u, hu, if_neg hq]), hacc]; exact f4 k x3 x5 x6⟩
theorem pu_wiloop {n d z t w N : Nat} (hd : d < 8) (hz : z ≤ 100) (ht : t < n) (hw : w = 0 ∧ N = 8 ∨ w = 1 ∧ N = 10) {th bi se da so : Int32} {kd fg st wa s : Nat → Int32} (hQ : pu_Q 999 n se kd fg (th, bi, da, st, wa) s) {el so' sz' em : Nat → Int32} (hso : so = so' d) (hsz : sz' d = nI z) (hel : ∀ i, i < 100 → el i = em (100 * d + i)) : ∀ (j v c c2 : Nat) (set : Int32) (tn2 th2 bi2 se2 da2 : Int32) (kd2 fg2 st2 wa2 m : Nat → Int32), v + j = N → ∃ e zc zr, f_X11_whatIs_56 (c + j + 1) (nI d) (nI t) (nI w) (nI N) set (nI v) (nI n) th bi se da kd fg st wa tn2 th2 bi2 se2 da2 kd2 fg2 st2 wa2 so (nI z) el d = some (e, zc) ∧ f_X12_whatIs_41 (c2 + j + 1) (nI d) (nI t) (nI w) set (nI v) s m so' sz' em = some (e, zr) := by
  have hn : n ≤ 7 := hQ.1.1
  have ht7 : t < 7 := by omega
  intro j
  induction j with
  | zero =>
    intro v c c2 set tn2 th2 bi2 se2 da2 kd2 fg2 st2 wa2 m h
    have hv : v = N := by omega
    subst hv
    refine ⟨set, (tn2, th2, bi2, se2, da2, kd2, fg2, st2, wa2), m, ?_, ?_⟩
    · show f_X11_whatIs_56s _ _ _ _ _ _ _ _ _ _ _ _ _ _ _ _ _ _ _ _ _ _ _ _ _ _ _ _ _ = _
      unfold f_X11_whatIs_56s
      rw [if_pos (pu_refl_n v)]
    · rcases hw with ⟨rfl, rfl⟩ | ⟨rfl, rfl⟩
      · rfl
      · rfl
  | succ j ih =>
    intro v c c2 set tn2 th2 bi2 se2 da2 kd2 fg2 st2 wa2 m h
    have hlt : ¬ nI N ≤ nI v := nI_ge (by omega) (by omega)
    obtain ⟨hR, u0, hu0, hse, h2⟩ := pu_mind hQ kd2 fg2 st2 wa2 m
    have hC : f_X11_whatIs_56 (c + (j + 1) + 1) (nI d) (nI t) (nI w) (nI N) set (nI v) (nI n) th bi se da kd fg st wa tn2 th2 bi2 se2 da2 kd2 fg2 st2 wa2 so (nI z) el d = f_X11_whatIs_56s (f_X11_whatIs_56 (c + j + 1)) (nI d) (nI t) (nI w) (nI N) set (nI v) (nI n) th bi se da kd fg st wa tn2 th2 bi2 se2 da2 kd2 fg2 st2 wa2 so (nI z) el d := rfl
    have hD : f_X12_whatIs_41 (c2 + (j + 1) + 1) (nI d) (nI t) (nI w) set (nI v) s m so' sz' em = f_X12_whatIs_41s (f_X12_whatIs_41 (c2 + j + 1)) (nI d) (nI t) (nI w) set (nI v) s m so' sz' em := rfl
    unfold f_X11_whatIs_56s f_X11_whatIs_103 f_X11_tellsStoreOf at hC
    unfold f_X12_whatIs_41s f_X12_whatIs_54 at hD
    rw [if_neg hlt, pu_become, pu_bind] at hC
    simp only [pu_g8 hd, pu_kd hd, pu_g ht7 (show 7 < 2 ^ 31 by decide)] at hC
    rw [nI_clamp (by omega)] at hC
    -- once the row in mind is said
    have fine : ∀ (kd' fg' row : Nat → Int32), pu_Q 999 n se kd' fg' (th, bi, da, pu_m st st2, pu_m wa wa2) row →
        (f_X11_whatIs_56 (c + (j + 1) + 1) (nI d) (nI t) (nI w) (nI N) set (nI v) (nI n) th bi se da kd fg st wa tn2 th2 bi2 se2 da2 kd2 fg2 st2 wa2 so (nI z) el d = Option.bind (f_X11_tellsStoreOf_2 2000 (nI t) 0 (nI n) th bi se da kd' fg' (pu_m st st2) (pu_m wa wa2) so (nI z) el) (fun r3 => if r3.1 = 0 then f_X11_whatIs_56 (c + j + 1) (nI d) (nI t) (nI w) (nI N) set (nI v + 1) (nI n) th bi se da kd fg st wa (nI n) r3.2.1 r3.2.2.1 se r3.2.2.2.1 kd' fg' r3.2.2.2.2.1 r3.2.2.2.2.2 so (nI z) el d else f_X11_whatIs_56 (c + j + 1) (nI d) (nI t) (nI w) (nI N) (set ||| ((1 : Int32) <<< (nI v &&& 31))) (nI v + 1) (nI n) th bi se da kd fg st wa (nI n) r3.2.1 r3.2.2.1 se r3.2.2.2.1 kd' fg' r3.2.2.2.2.1 r3.2.2.2.2.2 so (nI z) el d)) →
        (f_X12_whatIs_41 (c2 + (j + 1) + 1) (nI d) (nI t) (nI w) set (nI v) s m so' sz' em = f_X12_whatIs_86 (f_X12_whatIs_41 (c2 + j + 1)) 2000 (nI d) (nI t) (nI w) set (nI v) 1 0 s row so' sz' em) →
        ∃ e zc zr, f_X11_whatIs_56 (c + (j + 1) + 1) (nI d) (nI t) (nI w) (nI N) set (nI v) (nI n) th bi se da kd fg st wa tn2 th2 bi2 se2 da2 kd2 fg2 st2 wa2 so (nI z) el d = some (e, zc) ∧ f_X12_whatIs_41 (c2 + (j + 1) + 1) (nI d) (nI t) (nI w) set (nI v) s m so' sz' em = some (e, zr) := by
      intro kd' fg' row hM hC hD
      obtain ⟨fin, r', f1, -, f3, f4⟩ := pu_tellsOf (s := s) (sz' := sz') hd hz ht hso hsz hel z 0 (1999 - z) (1999 - z) 999 _ _ 1 (Or.inr rfl) (by omega) hM
      obtain ⟨zc, g1⟩ := f3 rfl
      have f4' := f4 (f_X12_whatIs_41 (c2 + j + 1)) (nI w) set (nI v)
      rw [show 1999 - z + z + 1 = 2000 by omega, nI_0] at g1 f4'
      dsimp only at g1
      rw [g1, pu_bind] at hC
      rw [f4'] at hD
      unfold f_X12_whatIs_148 at hD
      rw [nI_1] at hC hD
      dsimp only at hC
      rcases f1 with rfl | rfl
      · rw [if_pos rfl] at hC hD
        have hor : set ||| (0 : Int32) = set := Int32.or_zero
        rw [hor] at hD
        obtain ⟨e, zc', zr, i1, i2⟩ := ih (v + 1) c c2 set (nI n) zc.1 zc.2.1 se zc.2.2.1 kd' fg' zc.2.2.2.1 zc.2.2.2.2 r' (by omega)
        exact ⟨e, zc', zr, hC.trans i1, hD.trans i2⟩
      · rw [if_neg pu_10] at hC hD
        obtain ⟨e, zc', zr, i1, i2⟩ := ih (v + 1) c c2 (set ||| ((1 : Int32) <<< (nI v &&& 31))) (nI n) zc.1 zc.2.1 se zc.2.2.1 kd' fg' zc.2.2.2.1 zc.2.2.2.2 r' (by omega)
        exact ⟨e, zc', zr, hC.trans i1, hD.trans i2⟩
    rcases hw with ⟨rfl, rfl⟩ | ⟨rfl, rfl⟩
    · rw [if_pos (show nI 0 = (0 : Int32) from rfl)] at hC hD
      rw [if_neg (show ¬ (8 : Int32) ≤ nI v from hlt), pu_copies, pu_bind, show f_X12_of (nI t) (nI 0) = some (nI (4 + 5 * t)) from pu_of0 t ht7, pu_bind, pu_g (by omega) (by decide), nI_clamp (by omega)] at hD
      exact fine (upd (pu_m kd kd2) t (nI v)) (pu_m fg fg2) (upd (pu_cp s m) (4 + 5 * t) (nI v)) ⟨pu_R_kd (by omega) hR, u0, hu0, hse, by rw [pu_updn (by omega)]; exact h2⟩ hC hD
    · rw [if_neg (show ¬ nI 1 = (0 : Int32) by decide)] at hC hD
      rw [if_neg (show ¬ (10 : Int32) ≤ nI v from hlt), pu_copies, pu_bind, show f_X12_of (nI t) (nI 1) = some (nI (5 + 5 * t)) from pu_of1 t ht7, pu_bind, pu_g (by omega) (by decide), nI_clamp (by omega)] at hD
      exact fine (pu_m kd kd2) (upd (pu_m fg fg2) t (nI v)) (upd (pu_cp s m) (5 + 5 * t) (nI v)) ⟨pu_R_fg (by omega) hR, u0, hu0, hse, by rw [pu_updn (by omega)]; exact h2⟩ hC hD
theorem po_whatIs0 {n : Nat} {th bi se da : Int32} {kd fg st wa s : Nat → Int32} (hQ : pu_Q 999 n se kd fg (th, bi, da, st, wa) s) {x1 : Int32} (h1 : f_X11_isShelf x1 = some 0) (h2 : f_X12_isShelf x1 = some 0) (x2 x3 tn2 th2 bi2 se2 da2 : Int32) (kd2 fg2 st2 wa2 : Nat → Int32) (ho so sz : Int32) (el : Nat → Int32) (kS : Nat) (m kp so' sz' em : Nat → Int32) : f_X11_whatIs x1 x2 x3 (nI n) th bi se da kd fg st wa tn2 th2 bi2 se2 da2 kd2 fg2 st2 wa2 ho so sz el kS = some (-1, tn2, th2, bi2, se2, da2, kd2, fg2, st2, wa2) ∧ f_X12_whatIs x1 x2 x3 s m kp so' sz' em = some (-1, m) := by
  obtain ⟨a1, -, a2, -⟩ := pu_refRow0 h1 h2 ho kS (-1) kp so'
  unfold f_X11_whatIs f_X12_whatIs
  rw [a1, a2, pu_within]
  rcases pu_knows hQ.1.1 x2 hQ.1.2.1 with ⟨t, ht, rfl, k1, k2⟩ | ⟨k1, k2⟩
  · rw [k1, k2]
    rcases pu_in (l := 0) (h := 1) (by omega) (by omega) x3 (L := 0) (H := 1) rfl rfl with hi | ⟨j, -, hj, rfl, hi⟩
    · rw [hi]; exact ⟨rfl, rfl⟩
    · rw [hi]; exact ⟨rfl, rfl⟩
  · rw [k1, k2]; exact ⟨rfl, rfl⟩
theorem po_whatIs {n d : Nat} (hd : d < 8) {th bi se da : Int32} {kd fg st wa s : Nat → Int32} (hQ : pu_Q 999 n se kd fg (th, bi, da, st, wa) s) (x2 x3 tn2 th2 bi2 se2 da2 : Int32) (kd2 fg2 st2 wa2 m : Nat → Int32) {ho ki fi so sz : Int32} {el kp kk kf so' sz' em : Nat → Int32} (h : pu_H d ho ki fi so sz el kp kk kf so' sz' em) (h1 : f_X11_isShelf (nI d) = some 1) (h2 : f_X12_isShelf (nI d) = some 1) : ∃ a zc zr, f_X11_whatIs (nI d) x2 x3 (nI n) th bi se da kd fg st wa tn2 th2 bi2 se2 da2 kd2 fg2 st2 wa2 ho so sz el d = some (a, zc) ∧ f_X12_whatIs (nI d) x2 x3 s m kp so' sz' em = some (a, zr) := by
  unfold f_X11_whatIs f_X12_whatIs f_X11_whatIs_48
  rw [pu_within]
  rcases pu_knows hQ.1.1 x2 hQ.1.2.1 with ⟨t, ht, rfl, k1, k2⟩ | ⟨k1, k2⟩
  · rw [k1, k2, pu_bind, pu_bind, if_neg pu_10, if_neg pu_10]
    rcases pu_in (l := 0) (h := 1) (by omega) (by omega) x3 (L := 0) (H := 1) rfl rfl with hi | ⟨w, -, hw, rfl, hi⟩
    · rw [hi]; exact ⟨-1, _, _, rfl, rfl⟩
    · rw [hi, pu_bind, pu_bind, if_neg pu_10, if_neg pu_10]
      rcases pu_refRow hd h h1 h2 with ⟨-, a1, -, a2, -⟩ | ⟨-, a1, -, a2, -⟩ | ⟨-, a1, -, a2, -, -, hso, hsz, -, ⟨z, hz, ez⟩, hel⟩
      · rw [a1, a2]; exact ⟨_, _, _, rfl, rfl⟩
      · rw [a1, a2]; exact ⟨_, _, _, rfl, rfl⟩
      · rw [a1, a2, pu_bind, pu_bind, if_pos rfl, if_pos rfl, ez]
        rcases (by omega : w = 0 ∨ w = 1) with rfl | rfl
        · rw [if_pos (show nI 0 = (0 : Int32) from rfl)]
          exact pu_wiloop (N := 8) hd hz ht (Or.inl ⟨rfl, rfl⟩) hQ hso (hsz.symm.trans ez) (fun i hi => (hel i hi).1) 8 0 1991 1991 0 tn2 th2 bi2 se2 da2 kd2 fg2 st2 wa2 m (by omega)
        · rw [if_neg (show ¬ nI 1 = (0 : Int32) by decide)]
          exact pu_wiloop (N := 10) hd hz ht (Or.inr ⟨rfl, rfl⟩) hQ hso (hsz.symm.trans ez) (fun i hi => (hel i hi).1) 10 0 1989 1989 0 tn2 th2 bi2 se2 da2 kd2 fg2 st2 wa2 m (by omega)
  · rw [k1, k2]; exact ⟨-1, _, _, rfl, rfl⟩
