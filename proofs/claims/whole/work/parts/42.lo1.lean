/-! the relation between the object and the reference, and what each call owes -/
def lr (I J : pu_I) (it : Int32) (S : Nat → pu_Sh) (x : pu_Mo) : Prop :=
  (∃ n, I.1 = nI n ∧ pu_Q 999 n I.2.2.2.1 I.2.2.2.2.2.1 I.2.2.2.2.2.2.1 (I.2.1, I.2.2.1, I.2.2.2.2.1, I.2.2.2.2.2.2.2.1, I.2.2.2.2.2.2.2.2) x.2.2.2.2.2.2.1) ∧ (it = x.1 ∧ (it = 0 ∨ (it = 1 ∧ ∃ n, J.1 = nI n ∧ pu_Q 999 n J.2.2.2.1 J.2.2.2.2.2.1 J.2.2.2.2.2.2.1 (J.2.1, J.2.2.1, J.2.2.2.2.1, J.2.2.2.2.2.2.2.1, J.2.2.2.2.2.2.2.2) x.2.2.2.2.2.2.2.2.1))) ∧
  ∀ d, d < 8 → pu_H d (S d).1 (S d).2.1 (S d).2.2.1 (S d).2.2.2.1 (S d).2.2.2.2.1 (S d).2.2.2.2.2 x.2.2.2.2.2.2.2.2.2.2.2.1 x.2.2.2.2.2.2.2.2.2.2.2.2.1 x.2.2.2.2.2.2.2.2.2.2.2.2.2.1 x.2.2.2.2.2.2.2.2.2.2.2.2.2.2.1 x.2.2.2.2.2.2.2.2.2.2.2.2.2.2.2.1 x.2.2.2.2.2.2.2.2.2.2.2.2.2.2.2.2
def lo {α : Type} (l : Launch) (D : va_G) (cI cT cS : ClassId) (a kI kJ kK sa ea b : Nat → Nat) (y1 y2 : MethodName) (w1 w2 : List Cond) (r1 r2 : Room) (mk : α → Value) (avs : List Value) (I J K : pu_I) (it : Int32) (g1 g2 : Nat → Int32) (S : Nat → pu_Sh) (x : pu_Mo) : Prop :=
  ∃ (v : α) (I2 J2 K2 : pu_I) (it2 : Int32) (h1 h2 : Nat → Int32) (S2 : Nat → pu_Sh) (x2 : pu_Mo), lr I2 J2 it2 S2 x2 ∧
    fk l y1 w1 r1 D [(cI, .int), (cT, .object "LetByTheBirds$Tenant"), (cS, .object "LetByTheBirds$Shelf")] (.ref (a 0) :: avs) (hkB cI cT cS a kI kJ kK sa ea I J K it g1 g2 S) (hkB cI cT cS a kI kJ kK sa ea I2 J2 K2 it2 h1 h2 S2) (some (mk v)) ∧
    fk l y2 w2 r2 D [(cI, .int)] (.ref (b 0) :: avs) (hkM cI b x) (hkM cI b x2) (some (mk v))
theorem pu_H_congr {d : Nat} {ho ki fi so sz : Int32} {el kp kk kf so' sz' em kp2 kk2 kf2 so2 sz2 em2 : Nat → Int32} (h : pu_H d ho ki fi so sz el kp kk kf so' sz' em) (h1 : kp2 d = kp d) (h2 : kk2 d = kk d) (h3 : kf2 d = kf d) (h4 : so2 d = so' d) (h5 : sz2 d = sz' d) (h6 : ∀ k, k < 100 → em2 (100 * d + k) = em (100 * d + k)) : pu_H d ho ki fi so sz el kp2 kk2 kf2 so2 sz2 em2 := by
  obtain ⟨e, hc⟩ := h
  refine ⟨e.trans h1.symm, ?_⟩
  rcases hc with hc | ⟨hc, a1, a2, a3, a4⟩ | ⟨hc, a1, a2, a3, a4, a5⟩
  · exact Or.inl hc
  · exact Or.inr (Or.inl ⟨hc, a1.trans h2.symm, a2.trans h3.symm, a3, a4⟩)
  · exact Or.inr (Or.inr ⟨hc, a1.trans h4.symm, a2.trans h5.symm, a3, a4, fun i hi => ⟨(a5 i hi).1.trans (h6 i hi).symm, (a5 i hi).2⟩⟩)
theorem lo_tenant {l : Launch} {D : va_G} {cI cT cS : ClassId} {a kI kJ kK sa ea b : Nat → Nat} {I J K : pu_I} {it : Int32} {g1 g2 : Nat → Int32} {S : Nat → pu_Sh} {x : pu_Mo} (hr : lr I J it S x) (x1 x2 : Int32) : lo l D cI cT cS a kI kJ kK sa ea b yX11_tenant yX12_tenant wsX11_tenant wsX12_tenant ({ frames := 4, cells := 0, slots := 0, locals := 91 } : Room) ({ frames := 3, cells := 0, slots := 0, locals := 64 } : Room) Value.int [.int x1, .int x2] I J K it g1 g2 S x := by
  obtain ⟨tn, th, bi, se, da, kd, fg, st, wa⟩ := I
  obtain ⟨hi, pl, ra, re, sd, tw, s, m, im, ws, nu, kp, kk, kf, so, sz, em⟩ := x
  obtain ⟨⟨n, hn, hQ⟩, hJ, hS⟩ := id hr
  have hn : tn = nI n := hn
  subst hn
  have hQ : pu_Q 999 n se kd fg (th, bi, da, st, wa) s := hQ
  obtain ⟨v, e1, e2⟩ := po_tenant hQ x1 x2
  exact ⟨v, _, _, _, _, _, _, _, _, hr, b_tenant l D cI cT cS a kI kJ kK sa ea (nI n, th, bi, se, da, kd, fg, st, wa) J K it g1 g2 S x1 x2 v e1, m_tenant l D cI b (hi, pl, ra, re, sd, tw, s, m, im, ws, nu, kp, kk, kf, so, sz, em) x1 x2 v e2⟩
theorem lo_count {l : Launch} {D : va_G} {cI cT cS : ClassId} {a kI kJ kK sa ea b : Nat → Nat} {I J K : pu_I} {it : Int32} {g1 g2 : Nat → Int32} {S : Nat → pu_Sh} {x : pu_Mo} (hr : lr I J it S x) (x1 : Int32) : lo l D cI cT cS a kI kJ kK sa ea b yX11_count yX12_count wsX11_count wsX12_count ({ frames := 2, cells := 0, slots := 0, locals := 44 } : Room) ({ frames := 2, cells := 0, slots := 0, locals := 44 } : Room) Value.int [.int x1] I J K it g1 g2 S x := by
  obtain ⟨tn, th, bi, se, da, kd, fg, st, wa⟩ := I
  obtain ⟨hi, pl, ra, re, sd, tw, s, m, im, ws, nu, kp, kk, kf, so, sz, em⟩ := x
  obtain ⟨⟨n, hn, hQ⟩, hJ, hS⟩ := id hr
  have hn : tn = nI n := hn
  subst hn
  have hQ : pu_Q 999 n se kd fg (th, bi, da, st, wa) s := hQ
  obtain ⟨v, e1, e2⟩ := po_count hQ x1
  exact ⟨v, _, _, _, _, _, _, _, _, hr, b_count l D cI cT cS a kI kJ kK sa ea (nI n, th, bi, se, da, kd, fg, st, wa) J K it g1 g2 S x1 v e1, m_count l D cI b (hi, pl, ra, re, sd, tw, s, m, im, ws, nu, kp, kk, kf, so, sz, em) x1 v e2⟩
theorem lo_richest {l : Launch} {D : va_G} {cI cT cS : ClassId} {a kI kJ kK sa ea b : Nat → Nat} {I J K : pu_I} {it : Int32} {g1 g2 : Nat → Int32} {S : Nat → pu_Sh} {x : pu_Mo} (hr : lr I J it S x) (x1 : Int32) : lo l D cI cT cS a kI kJ kK sa ea b yX11_richest yX12_richest wsX11_richest wsX12_richest ({ frames := 5, cells := 0, slots := 0, locals := 110 } : Room) ({ frames := 5, cells := 0, slots := 0, locals := 109 } : Room) Value.int [.int x1] I J K it g1 g2 S x := by
  obtain ⟨tn, th, bi, se, da, kd, fg, st, wa⟩ := I
  obtain ⟨hi, pl, ra, re, sd, tw, s, m, im, ws, nu, kp, kk, kf, so, sz, em⟩ := x
  obtain ⟨⟨n, hn, hQ⟩, hJ, hS⟩ := id hr
  have hn : tn = nI n := hn
  subst hn
  have hQ : pu_Q 999 n se kd fg (th, bi, da, st, wa) s := hQ
  obtain ⟨v, e1, e2⟩ := po_richest hQ x1
  exact ⟨v, _, _, _, _, _, _, _, _, hr, b_richest l D cI cT cS a kI kJ kK sa ea (nI n, th, bi, se, da, kd, fg, st, wa) J K it g1 g2 S x1 v e1, m_richest l D cI b (hi, pl, ra, re, sd, tw, s, m, im, ws, nu, kp, kk, kf, so, sz, em) x1 v e2⟩
theorem lo_share {l : Launch} {D : va_G} {cI cT cS : ClassId} {a kI kJ kK sa ea b : Nat → Nat} {I J K : pu_I} {it : Int32} {g1 g2 : Nat → Int32} {S : Nat → pu_Sh} {x : pu_Mo} (hr : lr I J it S x) (x1 x2 : Int32) : lo l D cI cT cS a kI kJ kK sa ea b yX11_share yX12_share wsX11_share wsX12_share ({ frames := 2, cells := 0, slots := 0, locals := 44 } : Room) ({ frames := 2, cells := 0, slots := 0, locals := 53 } : Room) Value.long [.int x1, .int x2] I J K it g1 g2 S x := by
  obtain ⟨tn, th, bi, se, da, kd, fg, st, wa⟩ := I
  obtain ⟨hi, pl, ra, re, sd, tw, s, m, im, ws, nu, kp, kk, kf, so, sz, em⟩ := x
  obtain ⟨⟨n, hn, hQ⟩, hJ, hS⟩ := id hr
  have hn : tn = nI n := hn
  subst hn
  have hQ : pu_Q 999 n se kd fg (th, bi, da, st, wa) s := hQ
  obtain ⟨v, e1, e2⟩ := po_share hQ x1 x2
  exact ⟨v, _, _, _, _, _, _, _, _, hr, b_share l D cI cT cS a kI kJ kK sa ea (nI n, th, bi, se, da, kd, fg, st, wa) J K it g1 g2 S x1 x2 v e1, m_share l D cI b (hi, pl, ra, re, sd, tw, s, m, im, ws, nu, kp, kk, kf, so, sz, em) x1 x2 v e2⟩
theorem lo_stores {l : Launch} {D : va_G} {cI cT cS : ClassId} {a kI kJ kK sa ea b : Nat → Nat} {I J K : pu_I} {it : Int32} {g1 g2 : Nat → Int32} {S : Nat → pu_Sh} {x : pu_Mo} (hr : lr I J it S x) (x1 x2 : Int32) : lo l D cI cT cS a kI kJ kK sa ea b yX11_stores yX12_stores wsX11_stores wsX12_stores ({ frames := 1, cells := 0, slots := 0, locals := 22 } : Room) ({ frames := 2, cells := 0, slots := 0, locals := 43 } : Room) Value.int [.int x1, .int x2] I J K it g1 g2 S x := by
  obtain ⟨tn, th, bi, se, da, kd, fg, st, wa⟩ := I
  obtain ⟨hi, pl, ra, re, sd, tw, s, m, im, ws, nu, kp, kk, kf, so, sz, em⟩ := x
  obtain ⟨⟨n, hn, hQ⟩, hJ, hS⟩ := id hr
  have hn : tn = nI n := hn
  subst hn
  have hQ : pu_Q 999 n se kd fg (th, bi, da, st, wa) s := hQ
  obtain ⟨v, st2, s2, e1, e2, h2⟩ := po_stores hQ x1 x2
  exact ⟨v, (nI n, th, bi, se, da, kd, fg, st2, wa), J, K, it, g1, g2, S, (hi, pl, ra, re, sd, tw, s2, m, im, ws, nu, kp, kk, kf, so, sz, em), ⟨⟨n, rfl, h2⟩, hJ, hS⟩, b_stores l D cI cT cS a kI kJ kK sa ea (nI n, th, bi, se, da, kd, fg, st, wa) J K it g1 g2 S x1 x2 (v, st2) e1, m_stores l D cI b (hi, pl, ra, re, sd, tw, s, m, im, ws, nu, kp, kk, kf, so, sz, em) x1 x2 (v, s2) e2⟩
theorem lo_set {l : Launch} {D : va_G} {cI cT cS : ClassId} {a kI kJ kK sa ea b : Nat → Nat} {I J K : pu_I} {it : Int32} {g1 g2 : Nat → Int32} {S : Nat → pu_Sh} {x : pu_Mo} (hr : lr I J it S x) (x1 x2 : Int32) : lo l D cI cT cS a kI kJ kK sa ea b yX11_set yX12_set wsX11_set wsX12_set ({ frames := 1, cells := 0, slots := 0, locals := 22 } : Room) ({ frames := 1, cells := 0, slots := 0, locals := 23 } : Room) Value.int [.int x1, .int x2] I J K it g1 g2 S x := by
  obtain ⟨tn, th, bi, se, da, kd, fg, st, wa⟩ := I
  obtain ⟨hi, pl, ra, re, sd, tw, s, m, im, ws, nu, kp, kk, kf, so, sz, em⟩ := x
  obtain ⟨⟨n, hn, hQ⟩, hJ, hS⟩ := id hr
  have hn : tn = nI n := hn
  subst hn
  have hQ : pu_Q 999 n se kd fg (th, bi, da, st, wa) s := hQ
  obtain ⟨v, bi2, se2, s2, e1, e2, h2⟩ := po_set hQ x1 x2
  exact ⟨v, (nI n, th, bi2, se2, da, kd, fg, st, wa), J, K, it, g1, g2, S, (hi, pl, ra, re, sd, tw, s2, m, im, ws, nu, kp, kk, kf, so, sz, em), ⟨⟨n, rfl, h2⟩, hJ, hS⟩, b_set l D cI cT cS a kI kJ kK sa ea (nI n, th, bi, se, da, kd, fg, st, wa) J K it g1 g2 S x1 x2 (v, bi2, se2) e1, m_set l D cI b (hi, pl, ra, re, sd, tw, s, m, im, ws, nu, kp, kk, kf, so, sz, em) x1 x2 (v, s2) e2⟩
theorem lo_lends {l : Launch} {D : va_G} {cI cT cS : ClassId} {a kI kJ kK sa ea b : Nat → Nat} {I J K : pu_I} {it : Int32} {g1 g2 : Nat → Int32} {S : Nat → pu_Sh} {x : pu_Mo} (hr : lr I J it S x) (x1 x2 x3 : Int32) : lo l D cI cT cS a kI kJ kK sa ea b yX11_lends yX12_lends wsX11_lends wsX12_lends ({ frames := 3, cells := 0, slots := 0, locals := 65 } : Room) ({ frames := 3, cells := 0, slots := 0, locals := 65 } : Room) Value.int [.int x1, .int x2, .int x3] I J K it g1 g2 S x := by
  obtain ⟨tn, th, bi, se, da, kd, fg, st, wa⟩ := I
  obtain ⟨hi, pl, ra, re, sd, tw, s, m, im, ws, nu, kp, kk, kf, so, sz, em⟩ := x
  obtain ⟨⟨n, hn, hQ⟩, hJ, hS⟩ := id hr
  have hn : tn = nI n := hn
  subst hn
  have hQ : pu_Q 999 n se kd fg (th, bi, da, st, wa) s := hQ
  obtain ⟨v, st2, s2, e1, e2, h2⟩ := po_lends hQ x1 x2 x3
  exact ⟨v, (nI n, th, bi, se, da, kd, fg, st2, wa), J, K, it, g1, g2, S, (hi, pl, ra, re, sd, tw, s2, m, im, ws, nu, kp, kk, kf, so, sz, em), ⟨⟨n, rfl, h2⟩, hJ, hS⟩, b_lends l D cI cT cS a kI kJ kK sa ea (nI n, th, bi, se, da, kd, fg, st, wa) J K it g1 g2 S x1 x2 x3 (v, st2) e1, m_lends l D cI b (hi, pl, ra, re, sd, tw, s, m, im, ws, nu, kp, kk, kf, so, sz, em) x1 x2 x3 (v, s2) e2⟩
theorem lo_days {l : Launch} {D : va_G} {cI cT cS : ClassId} {a kI kJ kK sa ea b : Nat → Nat} {I J K : pu_I} {it : Int32} {g1 g2 : Nat → Int32} {S : Nat → pu_Sh} {x : pu_Mo} (hr : lr I J it S x) (x1 : Int32) : lo l D cI cT cS a kI kJ kK sa ea b yX11_days yX12_days wsX11_days wsX12_days ({ frames := 6, cells := 0, slots := 0, locals := 135 } : Room) ({ frames := 6, cells := 0, slots := 0, locals := 137 } : Room) Value.int [.int x1] I J K it g1 g2 S x := by
  obtain ⟨tn, th, bi, se, da, kd, fg, st, wa⟩ := I
  obtain ⟨hi, pl, ra, re, sd, tw, s, m, im, ws, nu, kp, kk, kf, so, sz, em⟩ := x
  obtain ⟨⟨n, hn, hQ⟩, hJ, hS⟩ := id hr
  have hn : tn = nI n := hn
  subst hn
  have hQ : pu_Q 999 n se kd fg (th, bi, da, st, wa) s := hQ
  obtain ⟨v, th2, bi2, da2, st2, wa2, s2, e1, e2, h2⟩ := po_days hQ x1
  exact ⟨v, (nI n, th2, bi2, se, da2, kd, fg, st2, wa2), J, K, it, g1, g2, S, (hi, pl, ra, re, sd, tw, s2, m, im, ws, nu, kp, kk, kf, so, sz, em), ⟨⟨n, rfl, h2⟩, hJ, hS⟩, b_days l D cI cT cS a kI kJ kK sa ea (nI n, th, bi, se, da, kd, fg, st, wa) J K it g1 g2 S x1 (v, th2, bi2, da2, st2, wa2) e1, m_days l D cI b (hi, pl, ra, re, sd, tw, s, m, im, ws, nu, kp, kk, kf, so, sz, em) x1 (v, s2) e2⟩
theorem lo_tenantThen {l : Launch} {D : va_G} {cI cT cS : ClassId} {a kI kJ kK sa ea b : Nat → Nat} {I J K : pu_I} {it : Int32} {g1 g2 : Nat → Int32} {S : Nat → pu_Sh} {x : pu_Mo} (hr : lr I J it S x) (x1 x2 x3 : Int32) : lo l D cI cT cS a kI kJ kK sa ea b yX11_tenantThen yX12_tenantThen wsX11_tenantThen wsX12_tenantThen ({ frames := 6, cells := 0, slots := 0, locals := 135 } : Room) ({ frames := 7, cells := 0, slots := 0, locals := 158 } : Room) Value.int [.int x1, .int x2, .int x3] I J K it g1 g2 S x := by
  obtain ⟨tn, th, bi, se, da, kd, fg, st, wa⟩ := I
  obtain ⟨hi, pl, ra, re, sd, tw, s, m, im, ws, nu, kp, kk, kf, so, sz, em⟩ := x
  obtain ⟨⟨n, hn, hQ⟩, hJ, hS⟩ := id hr
  have hn : tn = nI n := hn
  subst hn
  have hQ : pu_Q 999 n se kd fg (th, bi, da, st, wa) s := hQ
  obtain ⟨v, zc, zr, e1, e2⟩ := po_tenantThen hQ x1 x2 x3 K.1 K.2.1 K.2.2.1 K.2.2.2.1 K.2.2.2.2.1 K.2.2.2.2.2.1 K.2.2.2.2.2.2.1 K.2.2.2.2.2.2.2.1 K.2.2.2.2.2.2.2.2 m
  exact ⟨v, (nI n, th, bi, se, da, kd, fg, st, wa), J, zc, it, g1, g2, S, (hi, pl, ra, re, sd, tw, s, zr, im, ws, nu, kp, kk, kf, so, sz, em), hr, b_tenantThen l D cI cT cS a kI kJ kK sa ea (nI n, th, bi, se, da, kd, fg, st, wa) J K it g1 g2 S x1 x2 x3 (v, zc) e1, m_tenantThen l D cI b (hi, pl, ra, re, sd, tw, s, m, im, ws, nu, kp, kk, kf, so, sz, em) x1 x2 x3 (v, zr) e2⟩
theorem lo_then {l : Launch} {D : va_G} {cI cT cS : ClassId} {a kI kJ kK sa ea b : Nat → Nat} {I J K : pu_I} {it : Int32} {g1 g2 : Nat → Int32} {S : Nat → pu_Sh} {x : pu_Mo} (hr : lr I J it S x) (x1 x2 : Int32) : lo l D cI cT cS a kI kJ kK sa ea b yX11_then yX12_then wsX11_then wsX12_then ({ frames := 6, cells := 0, slots := 0, locals := 135 } : Room) ({ frames := 7, cells := 0, slots := 0, locals := 158 } : Room) Value.int [.int x1, .int x2] I J K it g1 g2 S x := by
  obtain ⟨tn, th, bi, se, da, kd, fg, st, wa⟩ := I
  obtain ⟨hi, pl, ra, re, sd, tw, s, m, im, ws, nu, kp, kk, kf, so, sz, em⟩ := x
  obtain ⟨⟨n, hn, hQ⟩, hJ, hS⟩ := id hr
  have hn : tn = nI n := hn
  subst hn
  have hQ : pu_Q 999 n se kd fg (th, bi, da, st, wa) s := hQ
  obtain ⟨v, zc, zr, e1, e2⟩ := po_then hQ x1 x2 K.1 K.2.1 K.2.2.1 K.2.2.2.1 K.2.2.2.2.1 K.2.2.2.2.2.1 K.2.2.2.2.2.2.1 K.2.2.2.2.2.2.2.1 K.2.2.2.2.2.2.2.2 m
  exact ⟨v, (nI n, th, bi, se, da, kd, fg, st, wa), J, zc, it, g1, g2, S, (hi, pl, ra, re, sd, tw, s, zr, im, ws, nu, kp, kk, kf, so, sz, em), hr, b_then l D cI cT cS a kI kJ kK sa ea (nI n, th, bi, se, da, kd, fg, st, wa) J K it g1 g2 S x1 x2 (v, zc) e1, m_then l D cI b (hi, pl, ra, re, sd, tw, s, m, im, ws, nu, kp, kk, kf, so, sz, em) x1 x2 (v, zr) e2⟩
theorem lo_rent {l : Launch} {D : va_G} {cI cT cS : ClassId} {a kI kJ kK sa ea b : Nat → Nat} {I J K : pu_I} {it : Int32} {g1 g2 : Nat → Int32} {S : Nat → pu_Sh} {x : pu_Mo} (hr : lr I J it S x) (x1 : Int32) : lo l D cI cT cS a kI kJ kK sa ea b yX11_rent yX12_rent wsX11_rent wsX12_rent ({ frames := 7, cells := 0, slots := 0, locals := 155 } : Room) ({ frames := 8, cells := 0, slots := 0, locals := 178 } : Room) Value.int [.int x1] I J K it g1 g2 S x := by
  obtain ⟨tn, th, bi, se, da, kd, fg, st, wa⟩ := I
  obtain ⟨hi, pl, ra, re, sd, tw, s, m, im, ws, nu, kp, kk, kf, so, sz, em⟩ := x
  obtain ⟨⟨n, hn, hQ⟩, hJ, hS⟩ := id hr
  have hn : tn = nI n := hn
  subst hn
  have hQ : pu_Q 999 n se kd fg (th, bi, da, st, wa) s := hQ
  obtain ⟨v, zc, zr, e1, e2⟩ := po_rent hQ x1 K.1 K.2.1 K.2.2.1 K.2.2.2.1 K.2.2.2.2.1 K.2.2.2.2.2.1 K.2.2.2.2.2.2.1 K.2.2.2.2.2.2.2.1 K.2.2.2.2.2.2.2.2 m
  exact ⟨v, (nI n, th, bi, se, da, kd, fg, st, wa), J, zc, it, g1, g2, S, (hi, pl, ra, re, sd, tw, s, zr, im, ws, nu, kp, kk, kf, so, sz, em), hr, b_rent l D cI cT cS a kI kJ kK sa ea (nI n, th, bi, se, da, kd, fg, st, wa) J K it g1 g2 S x1 (v, zc) e1, m_rent l D cI b (hi, pl, ra, re, sd, tw, s, m, im, ws, nu, kp, kk, kf, so, sz, em) x1 (v, zr) e2⟩
theorem lo_leastBirds {l : Launch} {D : va_G} {cI cT cS : ClassId} {a kI kJ kK sa ea b : Nat → Nat} {I J K : pu_I} {it : Int32} {g1 g2 : Nat → Int32} {S : Nat → pu_Sh} {x : pu_Mo} (hr : lr I J it S x) : lo l D cI cT cS a kI kJ kK sa ea b yX11_leastBirds yX12_leastBirds wsX11_leastBirds wsX12_leastBirds ({ frames := 7, cells := 0, slots := 0, locals := 155 } : Room) ({ frames := 6, cells := 0, slots := 0, locals := 136 } : Room) Value.int [] I J K it g1 g2 S x := by
  obtain ⟨tn, th, bi, se, da, kd, fg, st, wa⟩ := I
  obtain ⟨hi, pl, ra, re, sd, tw, s, m, im, ws, nu, kp, kk, kf, so, sz, em⟩ := x
  obtain ⟨⟨n, hn, hQ⟩, hJ, hS⟩ := id hr
  have hn : tn = nI n := hn
  subst hn
  have hQ : pu_Q 999 n se kd fg (th, bi, da, st, wa) s := hQ
  obtain ⟨v, zc, zr, e1, e2⟩ := po_leastBirds hQ K.1 K.2.1 K.2.2.1 K.2.2.2.1 K.2.2.2.2.1 K.2.2.2.2.2.1 K.2.2.2.2.2.2.1 K.2.2.2.2.2.2.2.1 K.2.2.2.2.2.2.2.2 m
  exact ⟨v, (nI n, th, bi, se, da, kd, fg, st, wa), J, zc, it, g1, g2, S, (hi, pl, ra, re, sd, tw, s, zr, im, ws, nu, kp, kk, kf, so, sz, em), hr, b_leastBirds l D cI cT cS a kI kJ kK sa ea (nI n, th, bi, se, da, kd, fg, st, wa) J K it g1 g2 S (v, zc) e1, m_leastBirds l D cI b (hi, pl, ra, re, sd, tw, s, m, im, ws, nu, kp, kk, kf, so, sz, em) (v, zr) e2⟩
theorem lo_leastStore {l : Launch} {D : va_G} {cI cT cS : ClassId} {a kI kJ kK sa ea b : Nat → Nat} {I J K : pu_I} {it : Int32} {g1 g2 : Nat → Int32} {S : Nat → pu_Sh} {x : pu_Mo} (hr : lr I J it S x) (x1 : Int32) : lo l D cI cT cS a kI kJ kK sa ea b yX11_leastStore yX12_leastStore wsX11_leastStore wsX12_leastStore ({ frames := 7, cells := 0, slots := 0, locals := 155 } : Room) ({ frames := 6, cells := 0, slots := 0, locals := 136 } : Room) Value.int [.int x1] I J K it g1 g2 S x := by
  obtain ⟨tn, th, bi, se, da, kd, fg, st, wa⟩ := I
  obtain ⟨hi, pl, ra, re, sd, tw, s, m, im, ws, nu, kp, kk, kf, so, sz, em⟩ := x
  obtain ⟨⟨n, hn, hQ⟩, hJ, hS⟩ := id hr
  have hn : tn = nI n := hn
  subst hn
  have hQ : pu_Q 999 n se kd fg (th, bi, da, st, wa) s := hQ
  obtain ⟨v, zc, zr, e1, e2⟩ := po_leastStore hQ x1 K.1 K.2.1 K.2.2.1 K.2.2.2.1 K.2.2.2.2.1 K.2.2.2.2.2.1 K.2.2.2.2.2.2.1 K.2.2.2.2.2.2.2.1 K.2.2.2.2.2.2.2.2 m
  exact ⟨v, (nI n, th, bi, se, da, kd, fg, st, wa), J, zc, it, g1, g2, S, (hi, pl, ra, re, sd, tw, s, zr, im, ws, nu, kp, kk, kf, so, sz, em), hr, b_leastStore l D cI cT cS a kI kJ kK sa ea (nI n, th, bi, se, da, kd, fg, st, wa) J K it g1 g2 S x1 (v, zc) e1, m_leastStore l D cI b (hi, pl, ra, re, sd, tw, s, m, im, ws, nu, kp, kk, kf, so, sz, em) x1 (v, zr) e2⟩
theorem lo_lend {l : Launch} {D : va_G} {cI cT cS : ClassId} {a kI kJ kK sa ea b : Nat → Nat} {I J K : pu_I} {it : Int32} {g1 g2 : Nat → Int32} {S : Nat → pu_Sh} {x : pu_Mo} (hr : lr I J it S x) (x1 x2 : Int32) : lo l D cI cT cS a kI kJ kK sa ea b yX11_lend yX12_lend wsX11_lend wsX12_lend ({ frames := 7, cells := 0, slots := 0, locals := 155 } : Room) ({ frames := 6, cells := 0, slots := 0, locals := 136 } : Room) Value.int [.int x1, .int x2] I J K it g1 g2 S x := by
  obtain ⟨tn, th, bi, se, da, kd, fg, st, wa⟩ := I
  obtain ⟨hi, pl, ra, re, sd, tw, s, m, im, ws, nu, kp, kk, kf, so, sz, em⟩ := x
  obtain ⟨⟨n, hn, hQ⟩, hJ, hS⟩ := id hr
  have hn : tn = nI n := hn
  subst hn
  have hQ : pu_Q 999 n se kd fg (th, bi, da, st, wa) s := hQ
  obtain ⟨v, zc, zr, e1, e2⟩ := po_lend hQ x1 x2 K.1 K.2.1 K.2.2.1 K.2.2.2.1 K.2.2.2.2.1 K.2.2.2.2.2.1 K.2.2.2.2.2.2.1 K.2.2.2.2.2.2.2.1 K.2.2.2.2.2.2.2.2 m
  exact ⟨v, (nI n, th, bi, se, da, kd, fg, st, wa), J, zc, it, g1, g2, S, (hi, pl, ra, re, sd, tw, s, zr, im, ws, nu, kp, kk, kf, so, sz, em), hr, b_lend l D cI cT cS a kI kJ kK sa ea (nI n, th, bi, se, da, kd, fg, st, wa) J K it g1 g2 S x1 x2 (v, zc) e1, m_lend l D cI b (hi, pl, ra, re, sd, tw, s, m, im, ws, nu, kp, kk, kf, so, sz, em) x1 x2 (v, zr) e2⟩
theorem lo_bestSea {l : Launch} {D : va_G} {cI cT cS : ClassId} {a kI kJ kK sa ea b : Nat → Nat} {I J K : pu_I} {it : Int32} {g1 g2 : Nat → Int32} {S : Nat → pu_Sh} {x : pu_Mo} (hr : lr I J it S x) (x1 x2 : Int32) : lo l D cI cT cS a kI kJ kK sa ea b yX11_bestSea yX12_bestSea wsX11_bestSea wsX12_bestSea ({ frames := 6, cells := 0, slots := 0, locals := 135 } : Room) ({ frames := 6, cells := 0, slots := 0, locals := 137 } : Room) Value.int [.int x1, .int x2] I J K it g1 g2 S x := by
  obtain ⟨tn, th, bi, se, da, kd, fg, st, wa⟩ := I
  obtain ⟨hi, pl, ra, re, sd, tw, s, m, im, ws, nu, kp, kk, kf, so, sz, em⟩ := x
  obtain ⟨⟨n, hn, hQ⟩, hJ, hS⟩ := id hr
  have hn : tn = nI n := hn
  subst hn
  have hQ : pu_Q 999 n se kd fg (th, bi, da, st, wa) s := hQ
  obtain ⟨v, zc, zr, e1, e2⟩ := po_bestSea hQ x1 x2 K.1 K.2.1 K.2.2.1 K.2.2.2.1 K.2.2.2.2.1 K.2.2.2.2.2.1 K.2.2.2.2.2.2.1 K.2.2.2.2.2.2.2.1 K.2.2.2.2.2.2.2.2 m
  exact ⟨v, (nI n, th, bi, se, da, kd, fg, st, wa), J, zc, it, g1, g2, S, (hi, pl, ra, re, sd, tw, s, zr, im, ws, nu, kp, kk, kf, so, sz, em), hr, b_bestSea l D cI cT cS a kI kJ kK sa ea (nI n, th, bi, se, da, kd, fg, st, wa) J K it g1 g2 S x1 x2 (v, zc) e1, m_bestSea l D cI b (hi, pl, ra, re, sd, tw, s, m, im, ws, nu, kp, kk, kf, so, sz, em) x1 x2 (v, zr) e2⟩
theorem lo_empty {l : Launch} {D : va_G} {cI cT cS : ClassId} {a kI kJ kK sa ea b : Nat → Nat} {I J K : pu_I} {it : Int32} {g1 g2 : Nat → Int32} {S : Nat → pu_Sh} {x : pu_Mo} (hr : lr I J it S x) : lo l D cI cT cS a kI kJ kK sa ea b yX11_empty yX12_empty wsX11_empty wsX12_empty ({ frames := 6, cells := 0, slots := 0, locals := 135 } : Room) ({ frames := 6, cells := 0, slots := 0, locals := 137 } : Room) Value.int [] I J K it g1 g2 S x := by
  obtain ⟨tn, th, bi, se, da, kd, fg, st, wa⟩ := I
  obtain ⟨hi, pl, ra, re, sd, tw, s, m, im, ws, nu, kp, kk, kf, so, sz, em⟩ := x
  obtain ⟨⟨n, hn, hQ⟩, hJ, hS⟩ := id hr
  have hn : tn = nI n := hn
  subst hn
  have hQ : pu_Q 999 n se kd fg (th, bi, da, st, wa) s := hQ
  obtain ⟨v, zc, zr, e1, e2⟩ := po_empty hQ K.1 K.2.1 K.2.2.1 K.2.2.2.1 K.2.2.2.2.1 K.2.2.2.2.2.1 K.2.2.2.2.2.2.1 K.2.2.2.2.2.2.2.1 K.2.2.2.2.2.2.2.2 m
  exact ⟨v, (nI n, th, bi, se, da, kd, fg, st, wa), J, zc, it, g1, g2, S, (hi, pl, ra, re, sd, tw, s, zr, im, ws, nu, kp, kk, kf, so, sz, em), hr, b_empty l D cI cT cS a kI kJ kK sa ea (nI n, th, bi, se, da, kd, fg, st, wa) J K it g1 g2 S (v, zc) e1, m_empty l D cI b (hi, pl, ra, re, sd, tw, s, m, im, ws, nu, kp, kk, kf, so, sz, em) (v, zr) e2⟩
theorem lo_send {l : Launch} {D : va_G} {cI cT cS : ClassId} {a kI kJ kK sa ea b : Nat → Nat} {I J K : pu_I} {it : Int32} {g1 g2 : Nat → Int32} {S : Nat → pu_Sh} {x : pu_Mo} (hr : lr I J it S x) (x1 x2 : Int32) : lo l D cI cT cS a kI kJ kK sa ea b yX11_send yX12_send wsX11_send wsX12_send ({ frames := 7, cells := 0, slots := 0, locals := 161 } : Room) ({ frames := 8, cells := 0, slots := 0, locals := 184 } : Room) Value.int [.int x1, .int x2] I J K it g1 g2 S x := by
  obtain ⟨tn, th, bi, se, da, kd, fg, st, wa⟩ := I
  obtain ⟨hi, pl, ra, re, sd, tw, s, m, im, ws, nu, kp, kk, kf, so, sz, em⟩ := x
  obtain ⟨⟨n, hn, hQ⟩, hJ, hS⟩ := id hr
  have hn : tn = nI n := hn
  subst hn
  have hQ : pu_Q 999 n se kd fg (th, bi, da, st, wa) s := hQ
  obtain ⟨v, zc, zr, e1, e2⟩ := po_send hQ x1 x2 K.1 K.2.1 K.2.2.1 K.2.2.2.1 K.2.2.2.2.1 K.2.2.2.2.2.1 K.2.2.2.2.2.2.1 K.2.2.2.2.2.2.2.1 K.2.2.2.2.2.2.2.2 m
  exact ⟨v, (nI n, th, bi, se, da, kd, fg, st, wa), J, zc, it, g1, g2, S, (hi, pl, ra, re, sd, tw, s, zr, im, ws, nu, kp, kk, kf, so, sz, em), hr, b_send l D cI cT cS a kI kJ kK sa ea (nI n, th, bi, se, da, kd, fg, st, wa) J K it g1 g2 S x1 x2 (v, zc) e1, m_send l D cI b (hi, pl, ra, re, sd, tw, s, m, im, ws, nu, kp, kk, kf, so, sz, em) x1 x2 (v, zr) e2⟩
theorem lo_goes {l : Launch} {D : va_G} {cI cT cS : ClassId} {a kI kJ kK sa ea b : Nat → Nat} {I J K : pu_I} {it : Int32} {g1 g2 : Nat → Int32} {S : Nat → pu_Sh} {x : pu_Mo} (hr : lr I J it S x) (x1 : Int32) : lo l D cI cT cS a kI kJ kK sa ea b yX11_goes yX12_goes wsX11_goes wsX12_goes ({ frames := 6, cells := 0, slots := 0, locals := 135 } : Room) ({ frames := 8, cells := 0, slots := 0, locals := 183 } : Room) Value.int [.int x1] I J K it g1 g2 S x := by
  obtain ⟨tn, th, bi, se, da, kd, fg, st, wa⟩ := I
  obtain ⟨hi, pl, ra, re, sd, tw, s, m, im, ws, nu, kp, kk, kf, so, sz, em⟩ := x
  obtain ⟨⟨n, hn, hQ⟩, hJ, hS⟩ := id hr
  have hn : tn = nI n := hn
  subst hn
  have hQ : pu_Q 999 n se kd fg (th, bi, da, st, wa) s := hQ
  obtain ⟨v, zc, zr, e1, e2⟩ := po_goes hQ x1 K.1 K.2.1 K.2.2.1 K.2.2.2.1 K.2.2.2.2.1 K.2.2.2.2.2.1 K.2.2.2.2.2.2.1 K.2.2.2.2.2.2.2.1 K.2.2.2.2.2.2.2.2 m
  exact ⟨v, (nI n, th, bi, se, da, kd, fg, st, wa), J, zc, it, g1, g2, S, (hi, pl, ra, re, sd, tw, s, zr, im, ws, nu, kp, kk, kf, so, sz, em), hr, b_goes l D cI cT cS a kI kJ kK sa ea (nI n, th, bi, se, da, kd, fg, st, wa) J K it g1 g2 S x1 (v, zc) e1, m_goes l D cI b (hi, pl, ra, re, sd, tw, s, m, im, ws, nu, kp, kk, kf, so, sz, em) x1 (v, zr) e2⟩
theorem lo_storms {l : Launch} {D : va_G} {cI cT cS : ClassId} {a kI kJ kK sa ea b : Nat → Nat} {I J K : pu_I} {it : Int32} {g1 g2 : Nat → Int32} {S : Nat → pu_Sh} {x : pu_Mo} (hr : lr I J it S x) (x1 x2 x3 x4 x5 : Int32) : lo l D cI cT cS a kI kJ kK sa ea b yX11_storms yX12_storms wsX11_storms wsX12_storms ({ frames := 6, cells := 0, slots := 0, locals := 136 } : Room) ({ frames := 5, cells := 0, slots := 0, locals := 114 } : Room) Value.long [.int x1, .int x2, .int x3, .int x4, .int x5] I J K it g1 g2 S x := by
  obtain ⟨tn, th, bi, se, da, kd, fg, st, wa⟩ := I
  obtain ⟨hi, pl, ra, re, sd, tw, s, m, im, ws, nu, kp, kk, kf, so, sz, em⟩ := x
  obtain ⟨⟨n, hn, hQ⟩, hJ, hS⟩ := id hr
  have hn : tn = nI n := hn
  subst hn
  have hQ : pu_Q 999 n se kd fg (th, bi, da, st, wa) s := hQ
  obtain ⟨v, zc, zr, e1, e2⟩ := po_storms hQ x1 x2 x3 x4 x5 K.1 K.2.1 K.2.2.1 K.2.2.2.1 K.2.2.2.2.1 K.2.2.2.2.2.1 K.2.2.2.2.2.2.1 K.2.2.2.2.2.2.2.1 K.2.2.2.2.2.2.2.2 m
  exact ⟨v, (nI n, th, bi, se, da, kd, fg, st, wa), J, zc, it, g1, g2, S, (hi, pl, ra, re, sd, tw, s, zr, im, ws, nu, kp, kk, kf, so, sz, em), hr, b_storms l D cI cT cS a kI kJ kK sa ea (nI n, th, bi, se, da, kd, fg, st, wa) J K it g1 g2 S x1 x2 x3 x4 x5 (v, zc) e1, m_storms l D cI b (hi, pl, ra, re, sd, tw, s, m, im, ws, nu, kp, kk, kf, so, sz, em) x1 x2 x3 x4 x5 (v, zr) e2⟩
theorem lo_years {l : Launch} {D : va_G} {cI cT cS : ClassId} {a kI kJ kK sa ea b : Nat → Nat} {I J K : pu_I} {it : Int32} {g1 g2 : Nat → Int32} {S : Nat → pu_Sh} {x : pu_Mo} (hr : lr I J it S x) (x1 x2 x3 : Int32) : lo l D cI cT cS a kI kJ kK sa ea b yX11_years yX12_years wsX11_years wsX12_years ({ frames := 6, cells := 0, slots := 0, locals := 135 } : Room) ({ frames := 6, cells := 0, slots := 0, locals := 137 } : Room) Value.int [.int x1, .int x2, .int x3] I J K it g1 g2 S x := by
  obtain ⟨tn, th, bi, se, da, kd, fg, st, wa⟩ := I
  obtain ⟨hi, pl, ra, re, sd, tw, s, m, im, ws, nu, kp, kk, kf, so, sz, em⟩ := x
  obtain ⟨⟨n, hn, hQ⟩, hJ, hS⟩ := id hr
  have hn : tn = nI n := hn
  subst hn
  have hQ : pu_Q 999 n se kd fg (th, bi, da, st, wa) s := hQ
  obtain ⟨v, zc, sd2, zr, e1, e2⟩ := po_years hQ x1 x2 x3 sd K.1 K.2.1 K.2.2.1 K.2.2.2.1 K.2.2.2.2.1 K.2.2.2.2.2.1 K.2.2.2.2.2.2.1 K.2.2.2.2.2.2.2.1 K.2.2.2.2.2.2.2.2 m
  exact ⟨v, (nI n, th, bi, se, da, kd, fg, st, wa), J, zc, it, g1, g2, S, (hi, pl, ra, re, sd2, tw, s, zr, im, ws, nu, kp, kk, kf, so, sz, em), hr, b_years l D cI cT cS a kI kJ kK sa ea (nI n, th, bi, se, da, kd, fg, st, wa) J K it g1 g2 S x1 x2 x3 (v, zc) e1, m_years l D cI b (hi, pl, ra, re, sd, tw, s, m, im, ws, nu, kp, kk, kf, so, sz, em) x1 x2 x3 (v, sd2, zr) e2⟩
theorem lo_two {l : Launch} {D : va_G} {cI cT cS : ClassId} {a kI kJ kK sa ea b : Nat → Nat} {I J K : pu_I} {it : Int32} {g1 g2 : Nat → Int32} {S : Nat → pu_Sh} {x : pu_Mo} (hr : lr I J it S x) (x1 x2 x3 : Int32) : lo l D cI cT cS a kI kJ kK sa ea b yX11_two yX12_two wsX11_two wsX12_two ({ frames := 7, cells := 0, slots := 0, locals := 161 } : Room) ({ frames := 7, cells := 0, slots := 0, locals := 164 } : Room) Value.int [.int x1, .int x2, .int x3] I J K it g1 g2 S x := by
  obtain ⟨tn, th, bi, se, da, kd, fg, st, wa⟩ := I
  obtain ⟨hi, pl, ra, re, sd, tw, s, m, im, ws, nu, kp, kk, kf, so, sz, em⟩ := x
  obtain ⟨⟨n, hn, hQ⟩, hJ, hS⟩ := id hr
  have hn : tn = nI n := hn
  subst hn
  have hQ : pu_Q 999 n se kd fg (th, bi, da, st, wa) s := hQ
  obtain ⟨v, zc, zr, e1, e2⟩ := po_two hQ x1 x2 x3 K.1 K.2.1 K.2.2.1 K.2.2.2.1 K.2.2.2.2.1 K.2.2.2.2.2.1 K.2.2.2.2.2.2.1 K.2.2.2.2.2.2.2.1 K.2.2.2.2.2.2.2.2 g1 g2 m
  exact ⟨v, (nI n, th, bi, se, da, kd, fg, st, wa), J, (zc.1, zc.2.1, zc.2.2.1, zc.2.2.2.1, zc.2.2.2.2.1, zc.2.2.2.2.2.1, zc.2.2.2.2.2.2.1, zc.2.2.2.2.2.2.2.1, zc.2.2.2.2.2.2.2.2.1), it, zc.2.2.2.2.2.2.2.2.2.1, zc.2.2.2.2.2.2.2.2.2.2, S, (hi, pl, ra, re, sd, tw, s, zr, im, ws, nu, kp, kk, kf, so, sz, em), hr, b_two l D cI cT cS a kI kJ kK sa ea (nI n, th, bi, se, da, kd, fg, st, wa) J K it g1 g2 S x1 x2 x3 (v, zc) e1, m_two l D cI b (hi, pl, ra, re, sd, tw, s, m, im, ws, nu, kp, kk, kf, so, sz, em) x1 x2 x3 (v, zr) e2⟩
theorem lo_image {l : Launch} {D : va_G} {cI cT cS : ClassId} {a kI kJ kK sa ea b : Nat → Nat} {I J K : pu_I} {it : Int32} {g1 g2 : Nat → Int32} {S : Nat → pu_Sh} {x : pu_Mo} (hr : lr I J it S x) : lo l D cI cT cS a kI kJ kK sa ea b yX11_image yX12_image wsX11_image wsX12_image ({ frames := 2, cells := 0, slots := 0, locals := 47 } : Room) ({ frames := 1, cells := 0, slots := 0, locals := 22 } : Room) Value.int [] I J K it g1 g2 S x := by
  obtain ⟨tn, th, bi, se, da, kd, fg, st, wa⟩ := I
  obtain ⟨hi, pl, ra, re, sd, tw, s, m, im, ws, nu, kp, kk, kf, so, sz, em⟩ := x
  obtain ⟨⟨n, hn, hQ⟩, hJ, hS⟩ := id hr
  have hn : tn = nI n := hn
  subst hn
  have hQ : pu_Q 999 n se kd fg (th, bi, da, st, wa) s := hQ
  obtain ⟨e1, e2, h2⟩ := po_image hQ it J.1 J.2.1 J.2.2.1 J.2.2.2.1 J.2.2.2.2.1 J.2.2.2.2.2.1 J.2.2.2.2.2.2.1 J.2.2.2.2.2.2.2.1 J.2.2.2.2.2.2.2.2 hi im
  exact ⟨da, (nI n, th, bi, se, da, kd, fg, st, wa), (nI n, th, bi, se, da, pu_m kd J.2.2.2.2.2.1, pu_m fg J.2.2.2.2.2.2.1, pu_m st J.2.2.2.2.2.2.2.1, pu_m wa J.2.2.2.2.2.2.2.2), K, 1, g1, g2, S, (1, pl, ra, re, sd, tw, s, m, pu_cp s im, ws, nu, kp, kk, kf, so, sz, em), ⟨⟨n, rfl, hQ⟩, ⟨rfl, Or.inr ⟨rfl, n, rfl, h2⟩⟩, hS⟩, b_image l D cI cT cS a kI kJ kK sa ea (nI n, th, bi, se, da, kd, fg, st, wa) J K it g1 g2 S _ e1, m_image l D cI b (hi, pl, ra, re, sd, tw, s, m, im, ws, nu, kp, kk, kf, so, sz, em) _ e2⟩
theorem lo_restore {l : Launch} {D : va_G} {cI cT cS : ClassId} {a kI kJ kK sa ea b : Nat → Nat} {I J K : pu_I} {it : Int32} {g1 g2 : Nat → Int32} {S : Nat → pu_Sh} {x : pu_Mo} (hr : lr I J it S x) : lo l D cI cT cS a kI kJ kK sa ea b yX11_restore yX12_restore wsX11_restore wsX12_restore ({ frames := 2, cells := 0, slots := 0, locals := 47 } : Room) ({ frames := 1, cells := 0, slots := 0, locals := 22 } : Room) Value.int [] I J K it g1 g2 S x := by
  obtain ⟨tn, th, bi, se, da, kd, fg, st, wa⟩ := I
  obtain ⟨hi, pl, ra, re, sd, tw, s, m, im, ws, nu, kp, kk, kf, so, sz, em⟩ := x
  obtain ⟨⟨n, hn, hQ⟩, hJ, hS⟩ := id hr
  have hn : tn = nI n := hn
  subst hn
  have hQ : pu_Q 999 n se kd fg (th, bi, da, st, wa) s := hQ
  obtain ⟨hit, hc⟩ := hJ
  have hit : it = hi := hit
  subst hit
  rcases hc with hc | ⟨hc, n2, hn2, hQ2⟩
  · subst hc
    obtain ⟨e1, e2⟩ := po_restore0 (nI n) th bi se da kd fg st wa J.1 J.2.1 J.2.2.1 J.2.2.2.1 J.2.2.2.2.1 J.2.2.2.2.2.1 J.2.2.2.2.2.2.1 J.2.2.2.2.2.2.2.1 J.2.2.2.2.2.2.2.2 s im
    exact ⟨-3, (nI n, th, bi, se, da, kd, fg, st, wa), J, K, 0, g1, g2, S, (0, pl, ra, re, sd, tw, s, m, im, ws, nu, kp, kk, kf, so, sz, em), hr, b_restore l D cI cT cS a kI kJ kK sa ea (nI n, th, bi, se, da, kd, fg, st, wa) J K 0 g1 g2 S _ e1, m_restore l D cI b (0, pl, ra, re, sd, tw, s, m, im, ws, nu, kp, kk, kf, so, sz, em) _ e2⟩
  · subst hc
    obtain ⟨tn2, th2, bi2, se2, da2, kd2, fg2, st2, wa2⟩ := J
    have hn2 : tn2 = nI n2 := hn2
    subst hn2
    have hQ2 : pu_Q 999 n2 se2 kd2 fg2 (th2, bi2, da2, st2, wa2) im := hQ2
    obtain ⟨e1, e2, h2⟩ := po_restore1 hQ2 (nI n) th bi se da kd fg st wa s
    exact ⟨da2, (nI n2, th2, bi2, se2, da2, pu_m kd2 kd, pu_m fg2 fg, pu_m st2 st, pu_m wa2 wa), (nI n2, th2, bi2, se2, da2, kd2, fg2, st2, wa2), K, 1, g1, g2, S, (1, pl, ra, re, sd, tw, pu_cp im s, m, im, ws, nu, kp, kk, kf, so, sz, em), ⟨⟨n2, rfl, h2⟩, ⟨rfl, Or.inr ⟨rfl, n2, rfl, hQ2⟩⟩, hS⟩, b_restore l D cI cT cS a kI kJ kK sa ea (nI n, th, bi, se, da, kd, fg, st, wa) (nI n2, th2, bi2, se2, da2, kd2, fg2, st2, wa2) K 1 g1 g2 S _ e1, m_restore l D cI b (1, pl, ra, re, sd, tw, s, m, im, ws, nu, kp, kk, kf, so, sz, em) _ e2⟩
theorem lo_whatIs {l : Launch} {D : va_G} {cI cT cS : ClassId} {a kI kJ kK sa ea b : Nat → Nat} {I J K : pu_I} {it : Int32} {g1 g2 : Nat → Int32} {S : Nat → pu_Sh} {x : pu_Mo} (hr : lr I J it S x) (x1 x2 x3 : Int32) : lo l D cI cT cS a kI kJ kK sa ea b yX11_whatIs yX12_whatIs wsX11_whatIs wsX12_whatIs ({ frames := 6, cells := 0, slots := 0, locals := 136 } : Room) ({ frames := 6, cells := 0, slots := 0, locals := 137 } : Room) Value.int [.int x1, .int x2, .int x3] I J K it g1 g2 S x := by
  obtain ⟨tn, th, bi, se, da, kd, fg, st, wa⟩ := I
  obtain ⟨hi, pl, ra, re, sd, tw, s, m, im, ws, nu, kp, kk, kf, so, sz, em⟩ := x
  obtain ⟨⟨n, hn, hQ⟩, hJ, hS⟩ := id hr
  have hn : tn = nI n := hn
  subst hn
  have hQ : pu_Q 999 n se kd fg (th, bi, da, st, wa) s := hQ
  rcases pu_shelf x1 with ⟨h1, h2⟩ | ⟨d, hd, rfl, h1, h2⟩
  · obtain ⟨e1, e2⟩ := po_whatIs0 hQ h1 h2 x2 x3 K.1 K.2.1 K.2.2.1 K.2.2.2.1 K.2.2.2.2.1 K.2.2.2.2.2.1 K.2.2.2.2.2.2.1 K.2.2.2.2.2.2.2.1 K.2.2.2.2.2.2.2.2 (S 0).1 (S 0).2.2.2.1 (S 0).2.2.2.2.1 (S 0).2.2.2.2.2 0 m kp so sz em
    exact ⟨-1, (nI n, th, bi, se, da, kd, fg, st, wa), J, K, it, g1, g2, S, (hi, pl, ra, re, sd, tw, s, m, im, ws, nu, kp, kk, kf, so, sz, em), hr, b_whatIs l D cI cT cS a kI kJ kK sa ea (nI n, th, bi, se, da, kd, fg, st, wa) J K it g1 g2 S 0 (show 0 < 8 by decide) x1 x2 x3 _ e1, m_whatIs l D cI b (hi, pl, ra, re, sd, tw, s, m, im, ws, nu, kp, kk, kf, so, sz, em) x1 x2 x3 _ e2⟩
  · obtain ⟨v, zc, zr, e1, e2⟩ := po_whatIs hd hQ x2 x3 K.1 K.2.1 K.2.2.1 K.2.2.2.1 K.2.2.2.2.1 K.2.2.2.2.2.1 K.2.2.2.2.2.2.1 K.2.2.2.2.2.2.2.1 K.2.2.2.2.2.2.2.2 m (hS d hd) h1 h2
    exact ⟨v, (nI n, th, bi, se, da, kd, fg, st, wa), J, zc, it, g1, g2, S, (hi, pl, ra, re, sd, tw, s, zr, im, ws, nu, kp, kk, kf, so, sz, em), hr, b_whatIs l D cI cT cS a kI kJ kK sa ea (nI n, th, bi, se, da, kd, fg, st, wa) J K it g1 g2 S d hd (nI d) x2 x3 (v, zc) e1, m_whatIs l D cI b (hi, pl, ra, re, sd, tw, s, m, im, ws, nu, kp, kk, kf, so, sz, em) (nI d) x2 x3 (v, zr) e2⟩
theorem lo_whichSea {l : Launch} {D : va_G} {cI cT cS : ClassId} {a kI kJ kK sa ea b : Nat → Nat} {I J K : pu_I} {it : Int32} {g1 g2 : Nat → Int32} {S : Nat → pu_Sh} {x : pu_Mo} (hr : lr I J it S x) (x1 : Int32) : lo l D cI cT cS a kI kJ kK sa ea b yX11_whichSea yX12_whichSea wsX11_whichSea wsX12_whichSea ({ frames := 6, cells := 0, slots := 0, locals := 135 } : Room) ({ frames := 6, cells := 0, slots := 0, locals := 137 } : Room) Value.int [.int x1] I J K it g1 g2 S x := by
  obtain ⟨tn, th, bi, se, da, kd, fg, st, wa⟩ := I
  obtain ⟨hi, pl, ra, re, sd, tw, s, m, im, ws, nu, kp, kk, kf, so, sz, em⟩ := x
  obtain ⟨⟨n, hn, hQ⟩, hJ, hS⟩ := id hr
  have hn : tn = nI n := hn
  subst hn
  have hQ : pu_Q 999 n se kd fg (th, bi, da, st, wa) s := hQ
  rcases pu_shelf x1 with ⟨h1, h2⟩ | ⟨d, hd, rfl, h1, h2⟩
  · obtain ⟨e1, e2⟩ := po_whichSea0 h1 h2 (nI n) th bi se da kd fg st wa K.1 K.2.1 K.2.2.1 K.2.2.2.1 K.2.2.2.2.1 K.2.2.2.2.2.1 K.2.2.2.2.2.2.1 K.2.2.2.2.2.2.2.1 K.2.2.2.2.2.2.2.2 (S 0).1 (S 0).2.2.2.1 (S 0).2.2.2.2.1 (S 0).2.2.2.2.2 0 s m kp so sz em
    exact ⟨-1, (nI n, th, bi, se, da, kd, fg, st, wa), J, K, it, g1, g2, S, (hi, pl, ra, re, sd, tw, s, m, im, ws, nu, kp, kk, kf, so, sz, em), hr, b_whichSea l D cI cT cS a kI kJ kK sa ea (nI n, th, bi, se, da, kd, fg, st, wa) J K it g1 g2 S 0 (show 0 < 8 by decide) x1 _ e1, m_whichSea l D cI b (hi, pl, ra, re, sd, tw, s, m, im, ws, nu, kp, kk, kf, so, sz, em) x1 _ e2⟩
  · obtain ⟨v, zc, zr, e1, e2⟩ := po_whichSea hd hQ K.1 K.2.1 K.2.2.1 K.2.2.2.1 K.2.2.2.2.1 K.2.2.2.2.2.1 K.2.2.2.2.2.2.1 K.2.2.2.2.2.2.2.1 K.2.2.2.2.2.2.2.2 m (hS d hd) h1 h2
    exact ⟨v, (nI n, th, bi, se, da, kd, fg, st, wa), J, zc, it, g1, g2, S, (hi, pl, ra, re, sd, tw, s, zr, im, ws, nu, kp, kk, kf, so, sz, em), hr, b_whichSea l D cI cT cS a kI kJ kK sa ea (nI n, th, bi, se, da, kd, fg, st, wa) J K it g1 g2 S d hd (nI d) (v, zc) e1, m_whichSea l D cI b (hi, pl, ra, re, sd, tw, s, m, im, ws, nu, kp, kk, kf, so, sz, em) (nI d) (v, zr) e2⟩
theorem lo_judge {l : Launch} {D : va_G} {cI cT cS : ClassId} {a kI kJ kK sa ea b : Nat → Nat} {I J K : pu_I} {it : Int32} {g1 g2 : Nat → Int32} {S : Nat → pu_Sh} {x : pu_Mo} (hr : lr I J it S x) (x1 : Int32) : lo l D cI cT cS a kI kJ kK sa ea b yX11_judge yX12_judge wsX11_judge wsX12_judge ({ frames := 5, cells := 0, slots := 0, locals := 113 } : Room) ({ frames := 6, cells := 0, slots := 0, locals := 137 } : Room) Value.int [.int x1] I J K it g1 g2 S x := by
  obtain ⟨tn, th, bi, se, da, kd, fg, st, wa⟩ := I
  obtain ⟨hi, pl, ra, re, sd, tw, s, m, im, ws, nu, kp, kk, kf, so, sz, em⟩ := x
  obtain ⟨⟨n, hn, hQ⟩, hJ, hS⟩ := id hr
  have hn : tn = nI n := hn
  subst hn
  have hQ : pu_Q 999 n se kd fg (th, bi, da, st, wa) s := hQ
  rcases pu_shelf x1 with ⟨h1, h2⟩ | ⟨d, hd, rfl, h1, h2⟩
  · obtain ⟨e1, e2⟩ := po_judge0 h1 h2 (nI n) th bi se da kd fg st wa K.1 K.2.1 K.2.2.1 K.2.2.2.1 K.2.2.2.2.1 K.2.2.2.2.2.1 K.2.2.2.2.2.2.1 K.2.2.2.2.2.2.2.1 K.2.2.2.2.2.2.2.2 (S 0).1 (S 0).2.2.2.1 (S 0).2.2.2.2.1 (S 0).2.2.2.2.2 0 s m kp so sz em
    exact ⟨-1, (nI n, th, bi, se, da, kd, fg, st, wa), J, K, it, g1, g2, S, (hi, pl, ra, re, sd, tw, s, m, im, ws, nu, kp, kk, kf, so, sz, em), hr, b_judge l D cI cT cS a kI kJ kK sa ea (nI n, th, bi, se, da, kd, fg, st, wa) J K it g1 g2 S 0 (show 0 < 8 by decide) x1 _ e1, m_judge l D cI b (hi, pl, ra, re, sd, tw, s, m, im, ws, nu, kp, kk, kf, so, sz, em) x1 _ e2⟩
  · obtain ⟨v, zc, zr, e1, e2⟩ := po_judge hd hQ K.1 K.2.1 K.2.2.1 K.2.2.2.1 K.2.2.2.2.1 K.2.2.2.2.2.1 K.2.2.2.2.2.2.1 K.2.2.2.2.2.2.2.1 K.2.2.2.2.2.2.2.2 m (hS d hd) h1 h2
    exact ⟨v, (nI n, th, bi, se, da, kd, fg, st, wa), J, zc, it, g1, g2, S, (hi, pl, ra, re, sd, tw, s, zr, im, ws, nu, kp, kk, kf, so, sz, em), hr, b_judge l D cI cT cS a kI kJ kK sa ea (nI n, th, bi, se, da, kd, fg, st, wa) J K it g1 g2 S d hd (nI d) (v, zc) e1, m_judge l D cI b (hi, pl, ra, re, sd, tw, s, m, im, ws, nu, kp, kk, kf, so, sz, em) (nI d) (v, zr) e2⟩
theorem lo_forged {l : Launch} {D : va_G} {cI cT cS : ClassId} {a kI kJ kK sa ea b : Nat → Nat} {I J K : pu_I} {it : Int32} {g1 g2 : Nat → Int32} {S : Nat → pu_Sh} {x : pu_Mo} (hr : lr I J it S x) (x1 : Int32) : lo l D cI cT cS a kI kJ kK sa ea b yX11_forged yX12_forged wsX11_forged wsX12_forged ({ frames := 4, cells := 0, slots := 0, locals := 85 } : Room) ({ frames := 3, cells := 0, slots := 0, locals := 64 } : Room) Value.int [.int x1] I J K it g1 g2 S x := by
  obtain ⟨tn, th, bi, se, da, kd, fg, st, wa⟩ := I
  obtain ⟨hi, pl, ra, re, sd, tw, s, m, im, ws, nu, kp, kk, kf, so, sz, em⟩ := x
  obtain ⟨⟨n, hn, hQ⟩, hJ, hS⟩ := id hr
  have hn : tn = nI n := hn
  subst hn
  have hQ : pu_Q 999 n se kd fg (th, bi, da, st, wa) s := hQ
  rcases pu_shelf x1 with ⟨h1, h2⟩ | ⟨d, hd, rfl, h1, h2⟩
  · obtain ⟨e1, e2⟩ := po_forged0 h1 h2 (nI n) (S 0).1 (S 0).2.2.2.2.1 st (S 0).2.2.2.2.2 0 s kp so sz em
    exact ⟨-1, (nI n, th, bi, se, da, kd, fg, st, wa), J, K, it, g1, g2, S, (hi, pl, ra, re, sd, tw, s, m, im, ws, nu, kp, kk, kf, so, sz, em), hr, b_forged l D cI cT cS a kI kJ kK sa ea (nI n, th, bi, se, da, kd, fg, st, wa) J K it g1 g2 S 0 (show 0 < 8 by decide) x1 _ e1, m_forged l D cI b (hi, pl, ra, re, sd, tw, s, m, im, ws, nu, kp, kk, kf, so, sz, em) x1 _ e2⟩
  · obtain ⟨v, e1, e2⟩ := po_forged hd hQ.1 (hS d hd) h1 h2
    exact ⟨v, (nI n, th, bi, se, da, kd, fg, st, wa), J, K, it, g1, g2, S, (hi, pl, ra, re, sd, tw, s, m, im, ws, nu, kp, kk, kf, so, sz, em), hr, b_forged l D cI cT cS a kI kJ kK sa ea (nI n, th, bi, se, da, kd, fg, st, wa) J K it g1 g2 S d hd (nI d) _ e1, m_forged l D cI b (hi, pl, ra, re, sd, tw, s, m, im, ws, nu, kp, kk, kf, so, sz, em) (nI d) _ e2⟩
theorem lo_cost {l : Launch} {D : va_G} {cI cT cS : ClassId} {a kI kJ kK sa ea b : Nat → Nat} {I J K : pu_I} {it : Int32} {g1 g2 : Nat → Int32} {S : Nat → pu_Sh} {x : pu_Mo} (hr : lr I J it S x) (x1 : Int32) : lo l D cI cT cS a kI kJ kK sa ea b yX11_cost yX12_cost wsX11_cost wsX12_cost ({ frames := 4, cells := 0, slots := 0, locals := 85 } : Room) ({ frames := 3, cells := 0, slots := 0, locals := 63 } : Room) Value.int [.int x1] I J K it g1 g2 S x := by
  obtain ⟨tn, th, bi, se, da, kd, fg, st, wa⟩ := I
  obtain ⟨hi, pl, ra, re, sd, tw, s, m, im, ws, nu, kp, kk, kf, so, sz, em⟩ := x
  obtain ⟨⟨n, hn, hQ⟩, hJ, hS⟩ := id hr
  have hn : tn = nI n := hn
  subst hn
  have hQ : pu_Q 999 n se kd fg (th, bi, da, st, wa) s := hQ
  rcases pu_shelf x1 with ⟨h1, h2⟩ | ⟨d, hd, rfl, h1, h2⟩
  · obtain ⟨e1, e2⟩ := po_cost0 h1 h2 (S 0).1 (S 0).2.1 (S 0).2.2.1 0 kp kk kf
    exact ⟨-1, (nI n, th, bi, se, da, kd, fg, st, wa), J, K, it, g1, g2, S, (hi, pl, ra, re, sd, tw, s, m, im, ws, nu, kp, kk, kf, so, sz, em), hr, b_cost l D cI cT cS a kI kJ kK sa ea (nI n, th, bi, se, da, kd, fg, st, wa) J K it g1 g2 S 0 (show 0 < 8 by decide) x1 _ e1, m_cost l D cI b (hi, pl, ra, re, sd, tw, s, m, im, ws, nu, kp, kk, kf, so, sz, em) x1 _ e2⟩
  · obtain ⟨v, e1, e2⟩ := po_cost hd (hS d hd) h1 h2
    exact ⟨v, (nI n, th, bi, se, da, kd, fg, st, wa), J, K, it, g1, g2, S, (hi, pl, ra, re, sd, tw, s, m, im, ws, nu, kp, kk, kf, so, sz, em), hr, b_cost l D cI cT cS a kI kJ kK sa ea (nI n, th, bi, se, da, kd, fg, st, wa) J K it g1 g2 S d hd (nI d) _ e1, m_cost l D cI b (hi, pl, ra, re, sd, tw, s, m, im, ws, nu, kp, kk, kf, so, sz, em) (nI d) _ e2⟩
theorem lo_comes {l : Launch} {D : va_G} {cI cT cS : ClassId} {a kI kJ kK sa ea b : Nat → Nat} {I J K : pu_I} {it : Int32} {g1 g2 : Nat → Int32} {S : Nat → pu_Sh} {x : pu_Mo} (hr : lr I J it S x) (x1 x2 : Int32) : lo l D cI cT cS a kI kJ kK sa ea b yX11_comes yX12_comes wsX11_comes wsX12_comes ({ frames := 4, cells := 0, slots := 0, locals := 85 } : Room) ({ frames := 3, cells := 0, slots := 0, locals := 63 } : Room) Value.int [.int x1, .int x2] I J K it g1 g2 S x := by
  obtain ⟨tn, th, bi, se, da, kd, fg, st, wa⟩ := I
  obtain ⟨hi, pl, ra, re, sd, tw, s, m, im, ws, nu, kp, kk, kf, so, sz, em⟩ := x
  obtain ⟨⟨n, hn, hQ⟩, hJ, hS⟩ := id hr
  have hn : tn = nI n := hn
  subst hn
  have hQ : pu_Q 999 n se kd fg (th, bi, da, st, wa) s := hQ
  rcases pu_shelf x1 with ⟨h1, h2⟩ | ⟨d, hd, rfl, h1, h2⟩
  · obtain ⟨e1, e2⟩ := po_comes0 h1 h2 x2 (nI n) th kd fg st wa (S 0).1 (S 0).2.1 (S 0).2.2.1 0 s kp kk kf
    exact ⟨-1, (nI n, th, bi, se, da, kd, fg, st, wa), J, K, it, g1, g2, S, (hi, pl, ra, re, sd, tw, s, m, im, ws, nu, kp, kk, kf, so, sz, em), hr, b_comes l D cI cT cS a kI kJ kK sa ea (nI n, th, bi, se, da, kd, fg, st, wa) J K it g1 g2 S 0 (show 0 < 8 by decide) x1 x2 _ e1, m_comes l D cI b (hi, pl, ra, re, sd, tw, s, m, im, ws, nu, kp, kk, kf, so, sz, em) x1 x2 _ e2⟩
  · obtain ⟨v, n2, th2, kd2, fg2, st2, wa2, s2, e1, e2, hQ2⟩ := po_comes hd hQ (hS d hd) h1 h2 x2
    exact ⟨v, (nI n2, th2, bi, se, da, kd2, fg2, st2, wa2), J, K, it, g1, g2, S, (hi, pl, ra, re, sd, tw, s2, m, im, ws, nu, kp, kk, kf, so, sz, em), ⟨⟨n2, rfl, hQ2⟩, hJ, hS⟩, b_comes l D cI cT cS a kI kJ kK sa ea (nI n, th, bi, se, da, kd, fg, st, wa) J K it g1 g2 S d hd (nI d) x2 _ e1, m_comes l D cI b (hi, pl, ra, re, sd, tw, s, m, im, ws, nu, kp, kk, kf, so, sz, em) (nI d) x2 _ e2⟩
theorem lo_isle {l : Launch} {D : va_G} {cI cT cS : ClassId} {a kI kJ kK sa ea b : Nat → Nat} {I J K : pu_I} {it : Int32} {g1 g2 : Nat → Int32} {S : Nat → pu_Sh} {x : pu_Mo} (hr : lr I J it S x) (x1 : Int32) : lo l D cI cT cS a kI kJ kK sa ea b yX11_isle yX12_isle wsX11_isle wsX12_isle ({ frames := 7, cells := 0, slots := 0, locals := 159 } : Room) ({ frames := 7, cells := 0, slots := 0, locals := 160 } : Room) Value.int [.int x1] I J K it g1 g2 S x := by
  obtain ⟨tn, th, bi, se, da, kd, fg, st, wa⟩ := I
  obtain ⟨hi, pl, ra, re, sd, tw, s, m, im, ws, nu, kp, kk, kf, so, sz, em⟩ := x
  obtain ⟨⟨n, hn, hQ⟩, hJ, hS⟩ := id hr
  have hn : tn = nI n := hn
  subst hn
  have hQ : pu_Q 999 n se kd fg (th, bi, da, st, wa) s := hQ
  rcases pu_shelf x1 with ⟨h1, h2⟩ | ⟨d, hd, rfl, h1, h2⟩
  · obtain ⟨e1, e2⟩ := po_isle0 h1 h2 (nI n) th bi se da kd fg st wa K.1 K.2.1 K.2.2.1 K.2.2.2.1 K.2.2.2.2.1 K.2.2.2.2.2.1 K.2.2.2.2.2.2.1 K.2.2.2.2.2.2.2.1 K.2.2.2.2.2.2.2.2 (S 0).1 (S 0).2.2.2.1 (S 0).2.2.2.2.1 (S 0).2.2.2.2.2 0 pl ra re s ws nu kp so sz em
    exact ⟨-1, (nI n, th, bi, se, da, kd, fg, st, wa), J, K, it, g1, g2, S, (hi, pl, ra, re, sd, tw, s, m, im, ws, nu, kp, kk, kf, so, sz, em), hr, b_isle l D cI cT cS a kI kJ kK sa ea (nI n, th, bi, se, da, kd, fg, st, wa) J K it g1 g2 S 0 (show 0 < 8 by decide) x1 _ e1, m_isle l D cI b (hi, pl, ra, re, sd, tw, s, m, im, ws, nu, kp, kk, kf, so, sz, em) x1 _ e2⟩
  · obtain ⟨v, n2, th2, bi2, se2, da2, kd2, fg2, st2, wa2, zm, pl2, ra2, re2, s2, ws2, nu2, e1, e2, hQ2⟩ := po_isle hd hQ (hS d hd) h1 h2 K.1 K.2.1 K.2.2.1 K.2.2.2.1 K.2.2.2.2.1 K.2.2.2.2.2.1 K.2.2.2.2.2.2.1 K.2.2.2.2.2.2.2.1 K.2.2.2.2.2.2.2.2 pl ra re ws nu
    exact ⟨v, (nI n2, th2, bi2, se2, da2, kd2, fg2, st2, wa2), J, zm, it, g1, g2, S, (hi, pl2, ra2, re2, sd, tw, s2, m, im, ws2, nu2, kp, kk, kf, so, sz, em), ⟨⟨n2, rfl, hQ2⟩, hJ, hS⟩, b_isle l D cI cT cS a kI kJ kK sa ea (nI n, th, bi, se, da, kd, fg, st, wa) J K it g1 g2 S d hd (nI d) _ e1, m_isle l D cI b (hi, pl, ra, re, sd, tw, s, m, im, ws, nu, kp, kk, kf, so, sz, em) (nI d) _ e2⟩
theorem lo_keep {l : Launch} {D : va_G} {cI cT cS : ClassId} {a kI kJ kK sa ea b : Nat → Nat} {I J K : pu_I} {it : Int32} {g1 g2 : Nat → Int32} {S : Nat → pu_Sh} {x : pu_Mo} (hr : lr I J it S x) (x1 x2 x3 x4 : Int32) : lo l D cI cT cS a kI kJ kK sa ea b yX11_keep yX12_keep wsX11_keep wsX12_keep ({ frames := 2, cells := 0, slots := 0, locals := 42 } : Room) ({ frames := 2, cells := 0, slots := 0, locals := 42 } : Room) Value.int [.int x1, .int x2, .int x3, .int x4] I J K it g1 g2 S x := by
  obtain ⟨tn, th, bi, se, da, kd, fg, st, wa⟩ := I
  obtain ⟨hi, pl, ra, re, sd, tw, s, m, im, ws, nu, kp, kk, kf, so, sz, em⟩ := x
  obtain ⟨⟨n, hn, hQ⟩, hJ, hS⟩ := id hr
  have hn : tn = nI n := hn
  subst hn
  have hQ : pu_Q 999 n se kd fg (th, bi, da, st, wa) s := hQ
  rcases pu_shelf x1 with ⟨h1, h2⟩ | ⟨d, hd, rfl, h1, h2⟩
  · obtain ⟨e1, e2⟩ := po_keep0 h1 h2 x2 x3 x4 (S 0).1 (S 0).2.1 (S 0).2.2.1 0 kp kk kf
    refine ⟨-1, (nI n, th, bi, se, da, kd, fg, st, wa), J, K, it, g1, g2, hk_up S 0 (S 0), (hi, pl, ra, re, sd, tw, s, m, im, ws, nu, kp, kk, kf, so, sz, em), ⟨⟨n, rfl, hQ⟩, hJ, by rw [hk_self]; exact hS⟩, b_keep l D cI cT cS a kI kJ kK sa ea (nI n, th, bi, se, da, kd, fg, st, wa) J K it g1 g2 S 0 (show 0 < 8 by decide) x1 x2 x3 x4 _ e1, m_keep l D cI b (hi, pl, ra, re, sd, tw, s, m, im, ws, nu, kp, kk, kf, so, sz, em) x1 x2 x3 x4 _ e2⟩
  · obtain ⟨v, ho2, ki2, fi2, kp2, kk2, kf2, e1, e2, h3, h4⟩ := po_keep hd (hS d hd) h1 h2 x2 x3 x4
    refine ⟨v, (nI n, th, bi, se, da, kd, fg, st, wa), J, K, it, g1, g2, hk_up S d (ho2, ki2, fi2, (S d).2.2.2.1, (S d).2.2.2.2.1, (S d).2.2.2.2.2), (hi, pl, ra, re, sd, tw, s, m, im, ws, nu, kp2, kk2, kf2, so, sz, em), ⟨⟨n, rfl, hQ⟩, hJ, fun k hk => ?_⟩, b_keep l D cI cT cS a kI kJ kK sa ea (nI n, th, bi, se, da, kd, fg, st, wa) J K it g1 g2 S d hd (nI d) x2 x3 x4 _ e1, m_keep l D cI b (hi, pl, ra, re, sd, tw, s, m, im, ws, nu, kp, kk, kf, so, sz, em) (nI d) x2 x3 x4 _ e2⟩
    by_cases hkd : k = d
    · subst hkd
      rw [hk_upd]
      exact h3
    · rw [hk_upn hkd]
      obtain ⟨a1, a2, a3⟩ := h4 k hkd
      exact pu_H_congr (hS k hk) a1 a2 a3 rfl rfl (fun _ _ => rfl)
theorem lo_row {l : Launch} {D : va_G} {cI cT cS : ClassId} {a kI kJ kK sa ea b : Nat → Nat} {I J K : pu_I} {it : Int32} {g1 g2 : Nat → Int32} {S : Nat → pu_Sh} {x : pu_Mo} (hr : lr I J it S x) (x1 x2 x3 : Int32) : lo l D cI cT cS a kI kJ kK sa ea b yX11_row yX12_row wsX11_row wsX12_row ({ frames := 2, cells := 0, slots := 0, locals := 42 } : Room) ({ frames := 2, cells := 0, slots := 0, locals := 42 } : Room) Value.int [.int x1, .int x2, .int x3] I J K it g1 g2 S x := by
  obtain ⟨tn, th, bi, se, da, kd, fg, st, wa⟩ := I
  obtain ⟨hi, pl, ra, re, sd, tw, s, m, im, ws, nu, kp, kk, kf, so, sz, em⟩ := x
  obtain ⟨⟨n, hn, hQ⟩, hJ, hS⟩ := id hr
  have hn : tn = nI n := hn
  subst hn
  have hQ : pu_Q 999 n se kd fg (th, bi, da, st, wa) s := hQ
  rcases pu_shelf x1 with ⟨h1, h2⟩ | ⟨d, hd, rfl, h1, h2⟩
  · obtain ⟨e1, e2⟩ := po_row0 h1 h2 x2 x3 (S 0).1 (S 0).2.2.2.1 (S 0).2.2.2.2.1 (S 0).2.2.2.2.2 0 kp so sz em
    refine ⟨-1, (nI n, th, bi, se, da, kd, fg, st, wa), J, K, it, g1, g2, hk_up S 0 (S 0), (hi, pl, ra, re, sd, tw, s, m, im, ws, nu, kp, kk, kf, so, sz, em), ⟨⟨n, rfl, hQ⟩, hJ, by rw [hk_self]; exact hS⟩, b_row l D cI cT cS a kI kJ kK sa ea (nI n, th, bi, se, da, kd, fg, st, wa) J K it g1 g2 S 0 (show 0 < 8 by decide) x1 x2 x3 _ e1, m_row l D cI b (hi, pl, ra, re, sd, tw, s, m, im, ws, nu, kp, kk, kf, so, sz, em) x1 x2 x3 _ e2⟩
  · obtain ⟨v, ho2, so2, sz2, el2, kp2, sp2, zp2, em2, e1, e2, h3, h4⟩ := po_row hd (hS d hd) h1 h2 x2 x3
    refine ⟨v, (nI n, th, bi, se, da, kd, fg, st, wa), J, K, it, g1, g2, hk_up S d (ho2, (S d).2.1, (S d).2.2.1, so2, sz2, el2), (hi, pl, ra, re, sd, tw, s, m, im, ws, nu, kp2, kk, kf, sp2, zp2, em2), ⟨⟨n, rfl, hQ⟩, hJ, fun k hk => ?_⟩, b_row l D cI cT cS a kI kJ kK sa ea (nI n, th, bi, se, da, kd, fg, st, wa) J K it g1 g2 S d hd (nI d) x2 x3 _ e1, m_row l D cI b (hi, pl, ra, re, sd, tw, s, m, im, ws, nu, kp, kk, kf, so, sz, em) (nI d) x2 x3 _ e2⟩
    by_cases hkd : k = d
    · subst hkd
      rw [hk_upd]
      exact h3
    · rw [hk_upn hkd]
      obtain ⟨a1, a2, a3, a4⟩ := h4 k hkd
      exact pu_H_congr (hS k hk) a1 rfl rfl a2 a3 a4
theorem lo_put {l : Launch} {D : va_G} {cI cT cS : ClassId} {a kI kJ kK sa ea b : Nat → Nat} {I J K : pu_I} {it : Int32} {g1 g2 : Nat → Int32} {S : Nat → pu_Sh} {x : pu_Mo} (hr : lr I J it S x) (x1 x2 x3 : Int32) : lo l D cI cT cS a kI kJ kK sa ea b yX11_put yX12_put wsX11_put wsX12_put ({ frames := 4, cells := 0, slots := 0, locals := 85 } : Room) ({ frames := 3, cells := 0, slots := 0, locals := 64 } : Room) Value.int [.int x1, .int x2, .int x3] I J K it g1 g2 S x := by
  obtain ⟨tn, th, bi, se, da, kd, fg, st, wa⟩ := I
  obtain ⟨hi, pl, ra, re, sd, tw, s, m, im, ws, nu, kp, kk, kf, so, sz, em⟩ := x
  obtain ⟨⟨n, hn, hQ⟩, hJ, hS⟩ := id hr
  have hn : tn = nI n := hn
  subst hn
  have hQ : pu_Q 999 n se kd fg (th, bi, da, st, wa) s := hQ
  rcases pu_shelf x1 with ⟨h1, h2⟩ | ⟨d, hd, rfl, h1, h2⟩
  · obtain ⟨e1, e2⟩ := po_put0 h1 h2 x2 x3 (S 0).1 (S 0).2.2.2.1 (S 0).2.2.2.2.1 (S 0).2.2.2.2.2 0 kp so sz em
    refine ⟨-1, (nI n, th, bi, se, da, kd, fg, st, wa), J, K, it, g1, g2, hk_up S 0 (S 0), (hi, pl, ra, re, sd, tw, s, m, im, ws, nu, kp, kk, kf, so, sz, em), ⟨⟨n, rfl, hQ⟩, hJ, by rw [hk_self]; exact hS⟩, b_put l D cI cT cS a kI kJ kK sa ea (nI n, th, bi, se, da, kd, fg, st, wa) J K it g1 g2 S 0 (show 0 < 8 by decide) x1 x2 x3 _ e1, m_put l D cI b (hi, pl, ra, re, sd, tw, s, m, im, ws, nu, kp, kk, kf, so, sz, em) x1 x2 x3 _ e2⟩
  · obtain ⟨v, el2, em2, e1, e2, h3, h4⟩ := po_put hd (hS d hd) h1 h2 x2 x3
    refine ⟨v, (nI n, th, bi, se, da, kd, fg, st, wa), J, K, it, g1, g2, hk_up S d ((S d).1, (S d).2.1, (S d).2.2.1, (S d).2.2.2.1, (S d).2.2.2.2.1, el2), (hi, pl, ra, re, sd, tw, s, m, im, ws, nu, kp, kk, kf, so, sz, em2), ⟨⟨n, rfl, hQ⟩, hJ, fun k hk => ?_⟩, b_put l D cI cT cS a kI kJ kK sa ea (nI n, th, bi, se, da, kd, fg, st, wa) J K it g1 g2 S d hd (nI d) x2 x3 _ e1, m_put l D cI b (hi, pl, ra, re, sd, tw, s, m, im, ws, nu, kp, kk, kf, so, sz, em) (nI d) x2 x3 _ e2⟩
    by_cases hkd : k = d
    · subst hkd
      rw [hk_upd]
      exact h3
    · rw [hk_upn hkd]
      exact pu_H_congr (hS k hk) rfl rfl rfl rfl rfl (h4 k hkd)
