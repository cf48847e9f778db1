/-! put, cost, comes -/
theorem po_put0 {x1 : Int32} (h1 : f_X11_isShelf x1 = some 0) (h2 : f_X12_isShelf x1 = some 0) (x2 x3 ho so sz : Int32) (el : Nat → Int32) (kS : Nat) (kp so' sz' em : Nat → Int32) : f_X11_put x1 x2 x3 ho so sz el kS = some (-1, el) ∧ f_X12_put x1 x2 x3 kp so' sz' em = some (-1, em) := by
  obtain ⟨a1, -, a2, -⟩ := pu_refRow0 h1 h2 ho kS (-1) kp so'
  unfold f_X11_put f_X12_put
  rw [a1, a2]
  exact ⟨rfl, rfl⟩
theorem pu_place {z : Nat} (hz : z ≤ 100) (x : Int32) : (f_X7_hasPlace x (nI z) = some 0 ∧ f_X12_isIn x 0 (nI z - 1) = some 0) ∨ ∃ i, i < z ∧ x = nI i ∧ f_X7_hasPlace x (nI z) = some 1 ∧ f_X12_isIn x 0 (nI z - 1) = some 1 := by
  unfold f_X7_hasPlace f_X12_isIn
  by_cases h0 : x < 0
  · left
    rw [if_pos h0, if_pos h0]
    exact ⟨rfl, rfl⟩
  · obtain ⟨j, hj, rfl⟩ := nI_of h0
    rw [if_neg h0, if_neg h0]
    by_cases h1 : j < z
    · right
      refine ⟨j, h1, rfl, if_neg (nI_ge h1 (by omega)), ?_⟩
      rw [show nI z - (1 : Int32) = nI (z - 1) from (pk_sub (b := 1) (by omega)), if_neg (nI_nlt (by omega) (by omega))]
    · left
      refine ⟨if_pos (nI_le (by omega) hj), ?_⟩
      have : nI z - (1 : Int32) < nI j := by
        rcases Nat.eq_zero_or_pos z with rfl | hp
        · rw [Int32.lt_iff_toInt_lt, nI_toInt hj]
          have : (nI 0 - (1 : Int32)).toInt = -1 := by decide
          rw [this]
          omega
        · rw [show nI z - (1 : Int32) = nI (z - 1) from (pk_sub (b := 1) (by omega))]
          exact nI_lt (by omega) hj
      rw [if_pos this]
theorem po_put {d : Nat} (hd : d < 8) {ho ki fi so sz : Int32} {el kp kk kf so' sz' em : Nat → Int32} (h : pu_H d ho ki fi so sz el kp kk kf so' sz' em) (h1 : f_X11_isShelf (nI d) = some 1) (h2 : f_X12_isShelf (nI d) = some 1) (x2 x3 : Int32) :
    ∃ a el1 em1, f_X11_put (nI d) x2 x3 ho so sz el d = some (a, el1) ∧ f_X12_put (nI d) x2 x3 kp so' sz' em = some (a, em1) ∧ pu_H d ho ki fi so sz el1 kp kk kf so' sz' em1 ∧ ∀ i, i ≠ d → ∀ k, k < 100 → em1 (100 * i + k) = em (100 * i + k) := by
  unfold f_X11_put f_X12_put
  rcases pu_refRow hd h h1 h2 with ⟨-, a1, -, a2, -⟩ | ⟨-, a1, -, a2, -⟩ | ⟨hho, a1, -, a2, -, -, hso, hsz, ⟨q, hq, eq⟩, ⟨z, hz, ez⟩, hel⟩
  · rw [a1, a2]; exact ⟨_, el, em, rfl, rfl, h, fun _ _ _ _ => rfl⟩
  · rw [a1, a2]; exact ⟨_, el, em, rfl, rfl, h, fun _ _ _ _ => rfl⟩
  · rw [a1, a2, pu_bind, pu_bind, if_pos rfl, if_pos rfl]
    simp only [pu_g8 hd, pu_kd hd]
    rw [nI_clamp (by omega), ← hsz, ← hso, ez]
    rcases pu_place hz x2 with ⟨p1, p2⟩ | ⟨i, hi, rfl, p1, p2⟩
    · rw [p1, p2]
      exact ⟨_, el, em, rfl, rfl, by rw [← ez]; exact h, fun _ _ _ _ => rfl⟩
    · rw [p1, p2, pu_bind, pu_bind, if_neg pu_10, if_neg pu_10]
      simp only [pu_g1 hd (show i < 100 by omega)]
      simp only [pu_e1 hd (show i < 100 by omega)]
      -- what is put
      have key : ∀ v : Int32, f_X7_lowestBits x3 so = some v → (so = 0 → ∃ y : Int32, v = y.toInt8.toInt32) → (if so = 0 then some ((0 : Int32), upd em (100 * d + i) (x3).toInt8.toInt32) else if so = 1 then some ((0 : Int32), upd em (100 * d + i) (x3).toInt16.toInt32) else some ((0 : Int32), upd em (100 * d + i) x3)) = some ((0 : Int32), upd em (100 * d + i) v) → ∃ a el1 em1, (Option.bind (f_X7_lowestBits x3 so) (fun r13 => if nI i < 0 ∨ 100 ≤ (nI i).toNatClampNeg then none else some ((0 : Int32), upd el (nI i).toNatClampNeg r13))) = some (a, el1) ∧ (if so = 0 then some ((0 : Int32), upd em (100 * d + i) (x3).toInt8.toInt32) else if so = 1 then some ((0 : Int32), upd em (100 * d + i) (x3).toInt16.toInt32) else some ((0 : Int32), upd em (100 * d + i) x3)) = some (a, em1) ∧ pu_H d ho ki fi so (nI z) el1 kp kk kf so' sz' em1 ∧ ∀ i, i ≠ d → ∀ k, k < 100 → em1 (100 * i + k) = em (100 * i + k) := by
        intro v e1 e2 e3
        refine ⟨0, upd el i v, upd em (100 * d + i) v, ?_, e3, ⟨h.1, Or.inr (Or.inr ⟨hho, hso, by rw [← ez]; exact hsz, ⟨q, hq, eq⟩, ⟨z, hz, rfl⟩, fun k hk => ?_⟩)⟩, fun p hp k hk => pu_updn (by omega)⟩
        · rw [e1, pu_bind, pu_g (by omega) (by decide), nI_clamp (by omega)]
        · by_cases hki : k = i
          · subst hki
            rw [pu_upd, pu_upd]
            exact ⟨rfl, e2⟩
          · rw [pu_updn hki, pu_updn (by omega)]
            exact hel k hk
      rcases (by omega : q = 0 ∨ q = 1 ∨ q = 2) with rfl | rfl | rfl
      · exact key _ (by rw [eq]; rfl) (fun _ => ⟨x3, rfl⟩) (if_pos eq)
      · exact key _ (by rw [eq]; rfl) (fun q => by rw [eq] at q; exact absurd q (by decide)) (by rw [eq]; rfl)
      · exact key _ (by rw [eq]; rfl) (fun q => by rw [eq] at q; exact absurd q (by decide)) (by rw [eq]; rfl)
theorem po_cost0 {x1 : Int32} (h1 : f_X11_isShelf x1 = some 0) (h2 : f_X12_isShelf x1 = some 0) (ho ki fi : Int32) (kS : Nat) (kp kk kf : Nat → Int32) : f_X11_cost x1 ho ki fi kS = some (-1) ∧ f_X12_cost x1 kp kk kf = some (-1) := by
  obtain ⟨-, a1, -, a2⟩ := pu_refRow0 h1 h2 ho kS (-1) kp kp
  unfold f_X11_cost f_X12_cost
  rw [a1, a2]
  exact ⟨rfl, rfl⟩
theorem pu_cost2 : ∀ f, f ≤ 9 → (2 : Int32) * ((3 : Int32) + nI f) = (2 : Int32) * ((3 : Int32) + nI f) := fun _ _ => rfl
theorem po_cost {d : Nat} (hd : d < 8) {ho ki fi so sz : Int32} {el kp kk kf so' sz' em : Nat → Int32} (h : pu_H d ho ki fi so sz el kp kk kf so' sz' em) (h1 : f_X11_isShelf (nI d) = some 1) (h2 : f_X12_isShelf (nI d) = some 1) : ∃ a, f_X11_cost (nI d) ho ki fi d = some a ∧ f_X12_cost (nI d) kp kk kf = some a := by
  unfold f_X11_cost f_X12_cost
  rcases pu_refRow hd h h1 h2 with ⟨-, -, a1, -, a2⟩ | ⟨-, -, a1, -, a2, hk, hf, ⟨k, hk8, ek⟩, -⟩ | ⟨-, -, a1, -, -, a2, -⟩
  · rw [a1, a2]; exact ⟨_, rfl, rfl⟩
  · rw [a1, a2, pu_bind, pu_bind, if_pos rfl, if_pos rfl]
    simp only [pu_g8 hd, pu_kd hd]
    rw [nI_clamp (by omega), ← hk, ← hf, ek, pu_g hk8 (by decide)]
    rcases (by omega : k = 0 ∨ k = 1 ∨ k = 2 ∨ k = 3 ∨ k = 4 ∨ k = 5 ∨ k = 6 ∨ k = 7) with rfl | rfl | rfl | rfl | rfl | rfl | rfl | rfl
    · exact ⟨_, rfl, rfl⟩
    · exact ⟨_, rfl, rfl⟩
    · exact ⟨_, rfl, rfl⟩
    · exact ⟨_, rfl, rfl⟩
    · exact ⟨_, rfl, rfl⟩
    · exact ⟨_, rfl, rfl⟩
    · exact ⟨_, rfl, rfl⟩
    · exact ⟨_, rfl, rfl⟩
  · rw [a1, a2]; exact ⟨_, rfl, rfl⟩
/-- one more tenant -/
theorem pu_R_add {B n k f v : Nat} (hn : n < 7) (hk : k < 8) (hf : f ≤ 9) (hv : v ≤ 99) {th bi da : Int32} {kd fg st wa s : Nat → Int32} (hR : pu_R B n th bi da kd fg st wa s) : pu_R B (n + 1) (th ||| ((1 : Int32) <<< (nI n &&& 31))) bi da (upd kd n (nI k)) (upd fg n (nI f)) (upd st n (nI v)) (upd wa n 0) (upd (upd (upd (upd (upd (upd s (4 + 5 * n) (nI k)) (5 + 5 * n) (nI f)) (6 + 5 * n) (nI v)) (7 + 5 * n) 0) (8 + 5 * n) 1) 0 (nI n + 1)) := by
  obtain ⟨h1, h2, h3, h4, h5, h6, h7, h8⟩ := hR
  generalize hw : (upd (upd (upd (upd (upd (upd s (4 + 5 * n) (nI k)) (5 + 5 * n) (nI f)) (6 + 5 * n) (nI v)) (7 + 5 * n) 0) (8 + 5 * n) 1) 0 (nI n + 1)) = w
  have w0 : w 0 = nI (n + 1) := by rw [← hw, pu_upd, nI_1]
  have w4 : w (4 + 5 * n) = nI k := by rw [← hw, pu_updn (by omega), pu_updn (by omega), pu_updn (by omega), pu_updn (by omega), pu_updn (by omega), pu_upd]
  have w5 : w (5 + 5 * n) = nI f := by rw [← hw, pu_updn (by omega), pu_updn (by omega), pu_updn (by omega), pu_updn (by omega), pu_upd]
  have w6 : w (6 + 5 * n) = nI v := by rw [← hw, pu_updn (by omega), pu_updn (by omega), pu_updn (by omega), pu_upd]
  have w7 : w (7 + 5 * n) = 0 := by rw [← hw, pu_updn (by omega), pu_updn (by omega), pu_upd]
  have w8 : w (8 + 5 * n) = 1 := by rw [← hw, pu_updn (by omega), pu_upd]
  have wr : ∀ i, 1 ≤ i → i < 4 + 5 * n → w i = s i := fun i a b => by rw [← hw, pu_updn (by omega), pu_updn (by omega), pu_updn (by omega), pu_updn (by omega), pu_updn (by omega), pu_updn (by omega)]
  refine ⟨hn, w0, by rw [wr 1 (by omega) (by omega)]; exact h3, by rw [wr 3 (by omega) (by omega)]; exact h4, h5, h6, ?_, fun t ht => ?_⟩
  · have hc : pu_mk w n = pu_mk s n := pu_mk_congr (fun u hu => by rw [wr _ (by omega) (by omega)])
    rw [h7, (pu_or n hn _ (pu_mk_lt7 (by omega)) (pu_mk_lt s n)).1]
    show _ = nI ((if w (8 + 5 * n) = 1 then 2 ^ n else 0) + pu_mk w n)
    rw [if_pos w8, hc]
  · by_cases htn : t = n
    · subst htn
      rw [pu_upd, pu_upd, pu_upd, pu_upd]
      refine ⟨w4.symm, w5.symm, w6.symm, w7.symm, ⟨k, hk, w4⟩, ⟨f, hf, w5⟩, ⟨v, hv, w6⟩, ⟨0, by omega, w7, fun _ => by omega⟩, Or.inr w8⟩
    · rw [pu_updn htn, pu_updn htn, pu_updn htn, pu_updn htn]
      unfold pu_T
      rw [wr (4 + 5 * t) (by omega) (by omega), wr (5 + 5 * t) (by omega) (by omega), wr (6 + 5 * t) (by omega) (by omega), wr (7 + 5 * t) (by omega) (by omega), wr (8 + 5 * t) (by omega) (by omega)]
      exact h8 t (by omega)
theorem pu_adds {n : Nat} (hn : n < 7) {x1 x2 x3 : Int32} {s : Nat → Int32} (h0 : s 0 = nI n) : f_X12_adds x1 x2 x3 s = some (upd (upd (upd (upd (upd (upd s (4 + 5 * n) x1) (5 + 5 * n) x2) (6 + 5 * n) x3) (7 + 5 * n) 0) (8 + 5 * n) 1) 0 (nI n + 1)) := by
  unfold f_X12_adds
  rw [pu_c0, h0, pu_of0 n hn, pu_bind, pu_g (by omega) (by decide), pu_of1 n hn, pu_bind, pu_g (by omega) (by decide), pu_of2 n hn, pu_bind, pu_g (by omega) (by decide), pu_of3 n hn, pu_bind, pu_g (by omega) (by decide), pu_of4 n hn, pu_bind, pu_g (by omega) (by decide), nI_clamp (by omega), nI_clamp (by omega), nI_clamp (by omega), nI_clamp (by omega), nI_clamp (by omega), pu_updn (by omega), pu_updn (by omega), pu_updn (by omega), pu_updn (by omega), pu_updn (by omega), h0]
theorem pu_takeIn {n : Nat} (hn : n < 7) (x1 x2 x3 th : Int32) (kd fg st wa : Nat → Int32) : f_X4_takeIn x1 x2 x3 (nI n) th kd fg st wa = some ((1 : Int32), nI (n + 1), th ||| ((1 : Int32) <<< (nI n &&& 31)), upd kd n x1, upd fg n x2, upd st n x3, upd wa n 0) := by
  unfold f_X4_takeIn
  rw [if_pos (show nI n < (7 : Int32) from nI_lt (b := 7) hn (by omega))]
  simp only [pu_g (show n < 7 from hn) (show 7 < 2 ^ 31 by decide)]
  rw [nI_clamp (by omega), nI_1]
theorem pu_takeIn7 (x1 x2 x3 th : Int32) (kd fg st wa : Nat → Int32) : f_X4_takeIn x1 x2 x3 (nI 7) th kd fg st wa = some ((0 : Int32), nI 7, th, kd, fg, st, wa) := rfl
theorem po_comes0 {x1 : Int32} (h1 : f_X11_isShelf x1 = some 0) (h2 : f_X12_isShelf x1 = some 0) (x2 tn th : Int32) (kd fg st wa : Nat → Int32) (ho ki fi : Int32) (kS : Nat) (s kp kk kf : Nat → Int32) : f_X11_comes x1 x2 tn th kd fg st wa ho ki fi kS = some (-1, tn, th, kd, fg, st, wa) ∧ f_X12_comes x1 x2 s kp kk kf = some (-1, s) := by
  obtain ⟨-, a1, -, a2⟩ := pu_refRow0 h1 h2 ho kS (-1) kp kp
  unfold f_X11_comes f_X12_comes
  rw [pu_within]
  rcases pu_in (l := 0) (h := 99) (by omega) (by omega) x2 (L := 0) (H := 99) rfl rfl with hi | ⟨j, -, hj, rfl, hi⟩
  · rw [hi]; exact ⟨rfl, rfl⟩
  · rw [hi, a1, a2]; exact ⟨rfl, rfl⟩
theorem po_comes {B n d : Nat} (hd : d < 8) {th bi se da : Int32} {kd fg st wa s : Nat → Int32} (hQ : pu_Q B n se kd fg (th, bi, da, st, wa) s) {ho ki fi so sz : Int32} {el kp kk kf so' sz' em : Nat → Int32} (h : pu_H d ho ki fi so sz el kp kk kf so' sz' em) (h1 : f_X11_isShelf (nI d) = some 1) (h2 : f_X12_isShelf (nI d) = some 1) (x2 : Int32) :
    ∃ a n' th' kd' fg' st' wa' s', f_X11_comes (nI d) x2 (nI n) th kd fg st wa ho ki fi d = some (a, nI n', th', kd', fg', st', wa') ∧ f_X12_comes (nI d) x2 s kp kk kf = some (a, s') ∧ pu_Q B n' se kd' fg' (th', bi, da, st', wa') s' := by
  obtain ⟨hR, v, hv, hse, hs2⟩ := id hQ
  have hR : pu_R B n th bi da kd fg st wa s := hR
  unfold f_X11_comes f_X12_comes
  rw [pu_within]
  rcases pu_in (l := 0) (h := 99) (by omega) (by omega) x2 (L := 0) (H := 99) rfl rfl with hi | ⟨j, -, hj, rfl, hi⟩
  · rw [hi]; exact ⟨-1, n, th, kd, fg, st, wa, s, rfl, rfl, hQ⟩
  · rw [hi, pu_bind, pu_bind, if_neg pu_10, if_neg pu_10]
    rcases pu_refRow hd h h1 h2 with ⟨-, -, a1, -, a2⟩ | ⟨-, -, a1, -, a2, hk, hf, ⟨k, hk8, ek⟩, ⟨f, hf9, ef⟩⟩ | ⟨-, -, a1, -, -, a2, -⟩
    · rw [a1, a2]; exact ⟨-11, n, th, kd, fg, st, wa, s, rfl, rfl, hQ⟩
    · rw [a1, a2, pu_bind, pu_bind, if_pos rfl, if_pos rfl]
      simp only [pu_g8 hd, pu_kd hd]
      rw [nI_clamp (by omega), ← hk, ← hf, ek, ef, pu_c0, hR.2.1]
      rcases Nat.lt_or_ge n 7 with hn | hn
      · rw [pu_takeIn hn, pu_bind, if_neg (show ¬ nI n = (7 : Int32) from fun q => absurd ((nI_eq (a := n) (b := 7) (by omega) (by omega)).mp q) (by omega)), pu_adds hn hR.2.1, pu_bind]
        dsimp only
        rw [if_neg pu_10, pu_upd, nI_1]
        refine ⟨nI (n + 1) - 1, n + 1, _, _, _, _, _, _, rfl, rfl, ?_, v, hv, hse, ?_⟩
        · have := pu_R_add hn hk8 hf9 hj hR
          rw [nI_1] at this
          exact this
        · rw [pu_updn (by omega), pu_updn (by omega), pu_updn (by omega), pu_updn (by omega), pu_updn (by omega), pu_updn (by omega)]; exact hs2
      · have : n = 7 := by have := hR.1; omega
        subst this
        rw [pu_takeIn7, pu_bind, if_pos (show nI 7 = (7 : Int32) from rfl)]
        exact ⟨-2, 7, th, kd, fg, st, wa, s, rfl, rfl, hQ⟩
    · rw [a1, a2]; exact ⟨-12, n, th, kd, fg, st, wa, s, rfl, rfl, hQ⟩
