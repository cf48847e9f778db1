/-! which sea, what kind -/
theorem pu_tells {n d z : Nat} (hd : d < 8) (hz : z ≤ 100) {se so : Int32} {kd fg s : Nat → Int32} {el so' sz' em : Nat → Int32} (hso : so = so' d) (hsz : sz' d = nI z) (hel : ∀ i, i < 100 → el i = em (100 * d + i)) : ∀ (j i c c2 B : Nat) (x : pu_S) (r : Nat → Int32) (acc : Int32), acc = 0 ∨ acc = 1 → i + j = z → pu_Q B n se kd fg x r → ∃ (fin : Int32) (r' : Nat → Int32), (fin = 0 ∨ fin = 1) ∧ (acc = 0 → fin = 0) ∧ (acc = 1 → ∃ zc : pu_S, f_X11_tellsAllStores_2 (c + j + 1) (nI i) (nI n) x.1 x.2.1 se x.2.2.1 kd fg x.2.2.2.1 x.2.2.2.2 so (nI z) el = some (fin, zc)) ∧ ∀ k x3 x4, f_X12_whichSea_50 k (c2 + j + 1) (nI d) x3 x4 acc (nI i) s r so' sz' em = (if fin = 0 then f_X12_whichSea_115 k (nI d) x4 x3 (0 : Int32) s r' so' sz' em else f_X12_whichSea_115 k (nI d) x4 x3 ((1 : Int32) <<< (x4 &&& 31)) s r' so' sz' em) := by
  intro j
  induction j with
  | zero =>
    intro i c c2 B x r acc ha h hQ
    have : i = z := by omega
    subst this
    refine ⟨acc, r, ha, fun q => q, fun q => ⟨x, ?_⟩, fun k x3 x4 => ?_⟩
    · show f_X11_tellsAllStores_2s _ _ _ _ _ _ _ _ _ _ _ _ _ _ = _
      unfold f_X11_tellsAllStores_2s
      rw [if_pos (pu_refl_n i), q]
    · show f_X12_whichSea_50s _ _ _ _ _ _ _ _ _ _ _ _ = _
      unfold f_X12_whichSea_50s
      rw [pu_g8 hd, nI_clamp (by omega), hsz, if_pos (pu_refl_n i)]
  | succ j ih =>
    intro i c c2 B x r acc ha h hQ
    have hlt : ¬ nI z ≤ nI i := nI_ge (by omega) (by omega)
    obtain ⟨e1, r1, e2, e3, -⟩ := pu_day1Q hQ
    obtain ⟨v, -, v1, v2⟩ := pu_stores hQ.1 x.1
    have hC : f_X11_tellsAllStores_2 (c + (j + 1) + 1) (nI i) (nI n) x.1 x.2.1 se x.2.2.1 kd fg x.2.2.2.1 x.2.2.2.2 so (nI z) el = f_X11_tellsAllStores_2s (f_X11_tellsAllStores_2 (c + j + 1)) (nI i) (nI n) x.1 x.2.1 se x.2.2.1 kd fg x.2.2.2.1 x.2.2.2.2 so (nI z) el := rfl
    unfold f_X11_tellsAllStores_2s f_X11_tellsAllStores_43 at hC
    rw [if_neg hlt, e1, pu_bind, nI_1] at hC
    -- the reference's step
    have step : ∀ (b : Int32), (∀ u, u = nI v → f_X12_isTold (nI d) (nI i) u so' em = some b) → ∀ k x3 x4, f_X12_whichSea_50 k (c2 + (j + 1) + 1) (nI d) x3 x4 acc (nI i) s r so' sz' em = f_X12_whichSea_50 k (c2 + j + 1) (nI d) x3 x4 (acc &&& b) (nI (i + 1)) s r1 so' sz' em := by
      intro b hb k x3 x4
      show f_X12_whichSea_50s _ _ _ _ _ _ _ _ _ _ _ _ = _
      unfold f_X12_whichSea_50s
      rw [pu_g8 hd, nI_clamp (by omega), hsz, if_neg hlt, pu_hereIn hQ.1, pu_bind, v2, pu_bind, hb _ rfl, pu_bind, e2, pu_bind, nI_1]
      rfl
    have go1 : (∀ u, u = nI v → f_X12_isTold (nI d) (nI i) u so' em = some 1) → (f_X11_tellsAllStores_2 (c + (j + 1) + 1) (nI i) (nI n) x.1 x.2.1 se x.2.2.1 kd fg x.2.2.2.1 x.2.2.2.2 so (nI z) el = f_X11_tellsAllStores_2 (c + j + 1) (nI (i + 1)) (nI n) (pu_C (nI n) se kd fg x).2.1 (pu_C (nI n) se kd fg x).2.2.1 se (pu_C (nI n) se kd fg x).2.2.2.1 kd fg (pu_C (nI n) se kd fg x).2.2.2.2.1 (pu_C (nI n) se kd fg x).2.2.2.2.2 so (nI z) el) → ∃ (fin : Int32) (r' : Nat → Int32), (fin = 0 ∨ fin = 1) ∧ (acc = 0 → fin = 0) ∧ (acc = 1 → ∃ zc : pu_S, f_X11_tellsAllStores_2 (c + (j + 1) + 1) (nI i) (nI n) x.1 x.2.1 se x.2.2.1 kd fg x.2.2.2.1 x.2.2.2.2 so (nI z) el = some (fin, zc)) ∧ ∀ k x3 x4, f_X12_whichSea_50 k (c2 + (j + 1) + 1) (nI d) x3 x4 acc (nI i) s r so' sz' em = (if fin = 0 then f_X12_whichSea_115 k (nI d) x4 x3 (0 : Int32) s r' so' sz' em else f_X12_whichSea_115 k (nI d) x4 x3 ((1 : Int32) <<< (x4 &&& 31)) s r' so' sz' em) := by
      intro t2 hCC
      have hacc : acc &&& 1 = acc := by rcases ha with rfl | rfl <;> rfl
      obtain ⟨fin, r', f1, f2, f3, f4⟩ := ih (i + 1) c c2 (B + 1) _ r1 acc ha (by omega) e3
      exact ⟨fin, r', f1, f2, fun q => by obtain ⟨zc, hzc⟩ := f3 q; exact ⟨zc, hCC.trans hzc⟩, fun k x3 x4 => by rw [step 1 t2, hacc]; exact f4 k x3 x4⟩
    rcases pu_told hd (show i < 100 by omega) hso (hel i (by omega)) with ⟨t1, t2⟩ | ⟨t1, t2⟩
    · rw [t1, pu_bind, if_neg pu_10] at hC
      exact go1 (fun u _ => t2 u) hC
    · rw [t1, pu_bind, if_pos rfl, pu_g (by omega) (by decide), nI_clamp (by omega), v1, pu_bind] at hC
      by_cases hq : el i = nI v
      · rw [if_pos hq] at hC
        exact go1 (fun u hu => by rw [t2 u, hu, if_pos hq]) hC
      · rw [if_neg hq] at hC
        have hacc : acc &&& 0 = 0 := by rcases ha with rfl | rfl <;> rfl
        obtain ⟨fin, r', f1, f2, -, f4⟩ := ih (i + 1) c c2 (B + 1) _ r1 0 (Or.inl rfl) (by omega) e3
        have hf := f2 rfl
        subst hf
        exact ⟨0, r', Or.inl rfl, fun _ => rfl, fun _ => ⟨x, hC⟩, fun k x3 x4 => by rw [step 0 (fun u hu => by rw [t2 u, hu, if_neg hq]), hacc]; exact f4 k x3 x4⟩
theorem pu_wsloop {n d z : Nat} (hd : d < 8) (hz : z ≤ 100) {th bi se da so : Int32} {kd fg st wa s : Nat → Int32} (hQ : pu_Q 999 n se kd fg (th, bi, da, st, wa) s) {el so' sz' em : Nat → Int32} (hso : so = so' d) (hsz : sz' d = nI z) (hel : ∀ i, i < 100 → el i = em (100 * d + i)) : ∀ (j v c c2 : Nat) (set : Int32) (tn2 th2 bi2 se2 da2 : Int32) (kd2 fg2 st2 wa2 m : Nat → Int32), v + j = 10 → ∃ e zc zr, f_X11_whichSea_17 (c + j + 1) (nI d) set (nI v) (nI n) th bi se da kd fg st wa tn2 th2 bi2 se2 da2 kd2 fg2 st2 wa2 so (nI z) el d = some (e, zc) ∧ f_X12_whichSea_18 (c2 + j + 1) (nI d) set (nI v) s m so' sz' em = some (e, zr) := by
  intro j
  induction j with
  | zero =>
    intro v c c2 set tn2 th2 bi2 se2 da2 kd2 fg2 st2 wa2 m h
    have : v = 10 := by omega
    subst this
    exact ⟨set, _, _, rfl, rfl⟩
  | succ j ih =>
    intro v c c2 set tn2 th2 bi2 se2 da2 kd2 fg2 st2 wa2 m h
    have h9 : ¬ (9 : Int32) < nI v := nI_nlt (a := 9) (b := v) (by omega) (by omega)
    have h10 : ¬ (10 : Int32) ≤ nI v := nI_ge (a := v) (b := 10) (by omega) (by omega)
    obtain ⟨hR, u0, hu0, -, -⟩ := pu_mind hQ kd2 fg2 st2 wa2 m
    have hM : pu_Q 999 n (nI v) (pu_m kd kd2) (pu_m fg fg2) (th, bi, da, pu_m st st2, pu_m wa wa2) (upd (pu_cp s m) 2 (nI v)) := ⟨pu_R_s2 hR _, v, by omega, rfl, pu_upd⟩
    obtain ⟨fin, r', f1, -, f3, f4⟩ := pu_tells (s := s) (sz' := sz') hd hz hso hsz hel z 0 (1999 - z) (1999 - z) 999 _ _ 1 (Or.inr rfl) (by omega) hM
    obtain ⟨zc, g1⟩ := f3 rfl
    rw [show 1999 - z + z + 1 = 2000 by omega, nI_0] at g1
    have hC : f_X11_whichSea_17 (c + (j + 1) + 1) (nI d) set (nI v) (nI n) th bi se da kd fg st wa tn2 th2 bi2 se2 da2 kd2 fg2 st2 wa2 so (nI z) el d = f_X11_whichSea_17s (f_X11_whichSea_17 (c + j + 1)) (nI d) set (nI v) (nI n) th bi se da kd fg st wa tn2 th2 bi2 se2 da2 kd2 fg2 st2 wa2 so (nI z) el d := rfl
    have hD : f_X12_whichSea_18 (c2 + (j + 1) + 1) (nI d) set (nI v) s m so' sz' em = f_X12_whichSea_18s (f_X12_whichSea_18 (c2 + j + 1)) (nI d) set (nI v) s m so' sz' em := rfl
    unfold f_X11_whichSea_17s f_X11_tellsAllStores at hC
    unfold f_X12_whichSea_18s at hD
    rw [if_neg h9, pu_become, pu_bind, pu_g8 hd, pu_kd hd] at hC
    dsimp only at g1 hC
    rw [g1, pu_bind] at hC
    have f4' := f4 (f_X12_whichSea_18 (c2 + j + 1)) set (nI v)
    rw [show 1999 - z + z + 1 = 2000 by omega, nI_0] at f4'
    rw [if_neg h10, pu_copies, pu_bind, pu_c2, f4'] at hD
    unfold f_X12_whichSea_115 at hD
    rw [nI_1] at hC hD
    dsimp only at hC
    rcases f1 with rfl | rfl
    · rw [if_pos rfl] at hC hD
      have hor : set ||| (0 : Int32) = set := Int32.or_zero
      rw [hor] at hD
      obtain ⟨e, zc', zr, i1, i2⟩ := ih (v + 1) c c2 set (nI n) zc.1 zc.2.1 (nI v) zc.2.2.1 (pu_m kd kd2) (pu_m fg fg2) zc.2.2.2.1 zc.2.2.2.2 r' (by omega)
      exact ⟨e, zc', zr, hC.trans i1, hD.trans i2⟩
    · rw [if_neg pu_10] at hC hD
      obtain ⟨e, zc', zr, i1, i2⟩ := ih (v + 1) c c2 (set ||| ((1 : Int32) <<< (nI v &&& 31))) (nI n) zc.1 zc.2.1 (nI v) zc.2.2.1 (pu_m kd kd2) (pu_m fg fg2) zc.2.2.2.1 zc.2.2.2.2 r' (by omega)
      exact ⟨e, zc', zr, hC.trans i1, hD.trans i2⟩
theorem po_whichSea0 {x1 : Int32} (h1 : f_X11_isShelf x1 = some 0) (h2 : f_X12_isShelf x1 = some 0) (tn th bi se da : Int32) (kd fg st wa : Nat → Int32) (tn2 th2 bi2 se2 da2 : Int32) (kd2 fg2 st2 wa2 : Nat → Int32) (ho so sz : Int32) (el : Nat → Int32) (kS : Nat) (s m kp so' sz' em : Nat → Int32) : f_X11_whichSea x1 tn th bi se da kd fg st wa tn2 th2 bi2 se2 da2 kd2 fg2 st2 wa2 ho so sz el kS = some (-1, tn2, th2, bi2, se2, da2, kd2, fg2, st2, wa2) ∧ f_X12_whichSea x1 s m kp so' sz' em = some (-1, m) := by
  obtain ⟨a1, -, a2, -⟩ := pu_refRow0 h1 h2 ho kS (-1) kp so'
  unfold f_X11_whichSea f_X12_whichSea
  rw [a1, a2]
  exact ⟨rfl, rfl⟩
theorem po_whichSea {n d : Nat} (hd : d < 8) {th bi se da : Int32} {kd fg st wa s : Nat → Int32} (hQ : pu_Q 999 n se kd fg (th, bi, da, st, wa) s) (tn2 th2 bi2 se2 da2 : Int32) (kd2 fg2 st2 wa2 m : Nat → Int32) {ho ki fi so sz : Int32} {el kp kk kf so' sz' em : Nat → Int32} (h : pu_H d ho ki fi so sz el kp kk kf so' sz' em) (h1 : f_X11_isShelf (nI d) = some 1) (h2 : f_X12_isShelf (nI d) = some 1) : ∃ a zc zr, f_X11_whichSea (nI d) (nI n) th bi se da kd fg st wa tn2 th2 bi2 se2 da2 kd2 fg2 st2 wa2 ho so sz el d = some (a, zc) ∧ f_X12_whichSea (nI d) s m kp so' sz' em = some (a, zr) := by
  unfold f_X11_whichSea f_X12_whichSea
  rcases pu_refRow hd h h1 h2 with ⟨-, a1, -, a2, -⟩ | ⟨-, a1, -, a2, -⟩ | ⟨-, a1, -, a2, -, -, hso, hsz, -, ⟨z, hz, ez⟩, hel⟩
  · rw [a1, a2]; exact ⟨_, _, _, rfl, rfl⟩
  · rw [a1, a2]; exact ⟨_, _, _, rfl, rfl⟩
  · rw [a1, a2, pu_bind, pu_bind, if_pos rfl, if_pos rfl, ez]
    exact pu_wsloop hd hz hQ hso (hsz.symm.trans ez) (fun i hi => (hel i hi).1) 10 0 1989 1989 0 tn2 th2 bi2 se2 da2 kd2 fg2 st2 wa2 m (by omega)
