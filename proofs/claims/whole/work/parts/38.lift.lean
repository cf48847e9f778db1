/-! a contract over a larger world -/
theorem hk_P {D : va_G} {cl : List vw_C} {ws : va_W} {H : Heap} : va_P D cl ws H ↔ ∀ q ∈ ws, va_at D cl q H :=
  ⟨fun h q hq => by obtain ⟨k, hk⟩ := List.getElem?_of_mem hq; exact h k q hk, fun h k q hk => h q (List.mem_of_getElem? hk)⟩
theorem hk_D {A : Nat → Prop} {ws : va_W} : va_D A ws ↔ (ws.map Prod.fst).Nodup ∧ ∀ q ∈ ws, A q.1 := by
  constructor
  · intro h
    refine ⟨?_, fun q hq => by obtain ⟨k, hk⟩ := List.getElem?_of_mem hq; exact h.2 k q hk⟩
    rw [List.nodup_iff_pairwise_ne, List.pairwise_iff_getElem]
    intro i j hi hj hij e
    rw [List.getElem_map, List.getElem_map] at e
    have := h.1 i j _ _ (List.getElem?_eq_getElem (by simpa using hi)) (List.getElem?_eq_getElem (by simpa using hj)) e
    omega
  · intro ⟨h1, h2⟩
    refine ⟨fun i j p q hp hq e => ?_, fun k q hk => h2 q (List.mem_of_getElem? hk)⟩
    refine (List.getElem?_inj (l := ws.map Prod.fst) ?_ h1).mp ?_
    · rw [List.length_map]; exact (List.getElem?_eq_some_iff.mp hp).1
    · rw [List.getElem?_map, List.getElem?_map, hp, hq]
      exact congrArg some e
theorem hk_A {ws : va_W} {sz q : Nat} : va_A ws sz q ↔ q ∈ ws.map Prod.fst ∨ sz ≤ q := by
  constructor
  · rintro (⟨k, e, h⟩ | h)
    · exact Or.inl (List.mem_map_of_mem (f := Prod.fst) (List.mem_of_getElem? h))
    · exact Or.inr h
  · rintro (h | h)
    · obtain ⟨x, hx, rfl⟩ := List.mem_map.mp h
      obtain ⟨k, hk⟩ := List.getElem?_of_mem hx
      exact Or.inl ⟨k, x.2, hk⟩
    · exact Or.inr h
theorem hk_perm {l : Launch} {y : MethodName} {wy : List Cond} {rm : Room} {D : va_G} {tys : List (ClassId × FieldType)} {avs : List Value} {wc wo ws ws' : va_W} {r : Option Value} (h : fk l y wy rm D tys avs wc wo r) (wr : va_W) (h1 : ws.Perm (wc ++ wr)) (h2 : ws'.Perm (wo ++ wr)) : fk l y wy rm D tys avs ws ws' r := by
  intro sz p e ha hc hk s m args below hf happ hP hK
  obtain ⟨q0, qz, qP, qK, qD, qN⟩ := hP
  have hPw := hk_P.mp qP
  have hnd : ((wc ++ wr).map Prod.fst).Nodup := ((h1.map Prod.fst).nodup_iff).mp (hk_D.mp qD).1
  rw [List.map_append, List.nodup_append] at hnd
  obtain ⟨n1, n2, n3⟩ := hnd
  obtain ⟨k, o, a1, a2, a3, ⟨b1, b2, b3⟩, L, b4, b5⟩ := h sz p e ha hc hk s m args below hf happ ⟨q0, qz, hk_P.mpr (fun q hq => hPw q (h1.mem_iff.mpr (List.mem_append_left _ hq))), qK, hk_D.mpr ⟨n1, fun _ _ => trivial⟩, qN⟩ hK
  have hA : ∀ q, va_A wc sz q → va_A ws sz q := fun q hq => by
    rcases hk_A.mp hq with h3 | h3
    · obtain ⟨x, hx, rfl⟩ := List.mem_map.mp h3
      exact hk_A.mpr (Or.inl (List.mem_map_of_mem (f := Prod.fst) (h1.mem_iff.mpr (List.mem_append_left _ hx))))
    · exact Or.inr h3
  refine ⟨k, o, a1, a2, a3, ⟨b1, hk_P.mpr (fun q hq => ?_), b3.1, fun q h3 h4 => b3.2 q h3 (fun h5 => h4 (hA q h5))⟩, L, b4, fun q hq => hA _ (b5 q hq)⟩
  rcases List.mem_append.mp (h2.mem_iff.mp hq) with h3 | h3
  · exact hk_P.mp b2 q h3
  · have hw := hPw q (h1.mem_iff.mpr (List.mem_append_right _ h3))
    refine hw.kept (b3.2 q.1 hw.lt (fun h4 => ?_))
    rcases hk_A.mp h4 with h4 | h4
    · exact n3 _ h4 _ (List.mem_map_of_mem (f := Prod.fst) h3) rfl
    · have := hw.lt
      rw [qz] at this
      omega
theorem hk_pos {l : Launch} {y : MethodName} {wy : List Cond} {rm : Room} {D : va_G} {tys : List (ClassId × FieldType)} {avs : List Value} {wc wo ws ws' : va_W} {r : Option Value} (h : fk l y wy rm D tys avs wc wo r) (isC isR : List Nat) (hnd : va_nd isC = true) (hC : isC.map (fun i => ws[i]?) = wc.map some) (hadr : wo.map Prod.fst = wc.map Prod.fst) (hC' : isC.map (fun i => ws'[i]?) = wo.map some) (hR' : isR.map (fun i => ws'[i]?) = isR.map (fun i => ws[i]?)) {N : Nat} (hN : ws'.length = N) (hcov : ∀ k, k < N → k ∈ isC ∨ k ∈ isR) : fk l y wy rm D tys avs ws ws' r := by
  intro sz p e ha hc hk s m args below hf happ hP hK
  obtain ⟨q0, qz, qP, qK, qD, qN⟩ := hP
  subst qz
  have hPc : va_P D vwCl wc s.heap := by
    intro k q hk
    have h1 : (isC.map (fun i => ws[i]?))[k]? = some (some q) := by rw [hC, List.getElem?_map, hk]; rfl
    rw [List.getElem?_map] at h1
    cases hi : isC[k]? with
    | none => rw [hi] at h1; cases h1
    | some i => rw [hi] at h1; exact qP i q (Option.some.inj h1)
  obtain ⟨k, o, a1, a2, a3, ⟨b1, b2, b3⟩, L, b4, b5⟩ := h s.heap.size p e ha hc hk s m args below hf happ ⟨q0, rfl, hPc, qK, qD.sub isC hnd hC, qN⟩ hK
  have hA : ∀ q, va_A wc s.heap.size q → va_A ws s.heap.size q := va_free (qD.self (sz := s.heap.size)) (va_S.rf (H0 := s.heap)) (fun q h => Or.inr h) isC hC
  obtain ⟨g1, -⟩ := gk_after qP qD isC isR hC hadr hC' hR' hN hcov (H1 := (stepsAlone p.tables e k s).heap) b3.2 b2
  exact ⟨k, o, a1, a2, a3, ⟨b1, g1, b3.1, fun q h3 h4 => b3.2 q h3 (fun h5 => h4 (hA q h5))⟩, L, b4, fun q hq => hA _ (b5 q hq)⟩
/-! what the object and the reference hold between two calls -/
abbrev pu_I : Type := Int32 × Int32 × Int32 × Int32 × Int32 × (Nat → Int32) × (Nat → Int32) × (Nat → Int32) × (Nat → Int32)
abbrev pu_Sh : Type := Int32 × Int32 × Int32 × Int32 × Int32 × (Nat → Int32)
abbrev pu_Mo : Type := Int32 × Int32 × Int32 × Int32 × Int32 × Int32 × (Nat → Int32) × (Nat → Int32) × (Nat → Int32) × (Nat → Int32) × (Nat → Int32) × (Nat → Int32) × (Nat → Int32) × (Nat → Int32) × (Nat → Int32) × (Nat → Int32) × (Nat → Int32)
def hkC (cI cT cS : ClassId) (a kI kJ kK sa : Nat → Nat) (I J K : pu_I) (it : Int32) (g1 g2 : Nat → Int32) : va_W :=
  [(a 0, .inr (10, [.ref (a 1), .ref (a 2), .ref (a 3), .ref (a 4), .ref (a 5), .ref (a 6), .int it])),
   (a 1, .inr (4, [.ref (a 7), .ref (a 8), .ref (a 9), .ref (a 10), .ref (a 11), .int I.1, .int I.2.1, .int I.2.2.1, .int I.2.2.2.1, .int I.2.2.2.2.1])),
   (a 7, .inl (cT, 8, .inr (.inr (.inr (.inr (fun k => some (kI k))))))),
   (a 8, .inl (cI, 7, .inl I.2.2.2.2.2.1)),
   (a 9, .inl (cI, 7, .inl I.2.2.2.2.2.2.1)),
   (a 10, .inl (cI, 7, .inl I.2.2.2.2.2.2.2.1)),
   (a 11, .inl (cI, 7, .inl I.2.2.2.2.2.2.2.2)),
   (kI 0, .inr (8, [])),
   (kI 1, .inr (1, [])),
   (kI 2, .inr (0, [])),
   (kI 3, .inr (3, [])),
   (kI 4, .inr (6, [])),
   (kI 5, .inr (9, [])),
   (kI 6, .inr (5, [])),
   (kI 7, .inr (2, [])),
   (a 2, .inr (4, [.ref (a 12), .ref (a 13), .ref (a 14), .ref (a 15), .ref (a 16), .int J.1, .int J.2.1, .int J.2.2.1, .int J.2.2.2.1, .int J.2.2.2.2.1])),
   (a 12, .inl (cT, 8, .inr (.inr (.inr (.inr (fun k => some (kJ k))))))),
   (a 13, .inl (cI, 7, .inl J.2.2.2.2.2.1)),
   (a 14, .inl (cI, 7, .inl J.2.2.2.2.2.2.1)),
   (a 15, .inl (cI, 7, .inl J.2.2.2.2.2.2.2.1)),
   (a 16, .inl (cI, 7, .inl J.2.2.2.2.2.2.2.2)),
   (kJ 0, .inr (8, [])),
   (kJ 1, .inr (1, [])),
   (kJ 2, .inr (0, [])),
   (kJ 3, .inr (3, [])),
   (kJ 4, .inr (6, [])),
   (kJ 5, .inr (9, [])),
   (kJ 6, .inr (5, [])),
   (kJ 7, .inr (2, [])),
   (a 3, .inr (4, [.ref (a 17), .ref (a 18), .ref (a 19), .ref (a 20), .ref (a 21), .int K.1, .int K.2.1, .int K.2.2.1, .int K.2.2.2.1, .int K.2.2.2.2.1])),
   (a 17, .inl (cT, 8, .inr (.inr (.inr (.inr (fun k => some (kK k))))))),
   (a 18, .inl (cI, 7, .inl K.2.2.2.2.2.1)),
   (a 19, .inl (cI, 7, .inl K.2.2.2.2.2.2.1)),
   (a 20, .inl (cI, 7, .inl K.2.2.2.2.2.2.2.1)),
   (a 21, .inl (cI, 7, .inl K.2.2.2.2.2.2.2.2)),
   (kK 0, .inr (8, [])),
   (kK 1, .inr (1, [])),
   (kK 2, .inr (0, [])),
   (kK 3, .inr (3, [])),
   (kK 4, .inr (6, [])),
   (kK 5, .inr (9, [])),
   (kK 6, .inr (5, [])),
   (kK 7, .inr (2, [])),
   (a 4, .inl (cS, 8, .inr (.inr (.inr (.inr (fun k => some (sa k))))))),
   (a 5, .inl (cI, 4, .inl g1)),
   (a 6, .inl (cI, 4, .inl g2))]
def hkS (cI : ClassId) (sa ea : Nat → Nat) (d : Nat) (x : pu_Sh) : va_W := [(sa d, .inr (7, [.int x.1, .int x.2.1, .int x.2.2.1, .int x.2.2.2.1, .int x.2.2.2.2.1, .ref (ea d)])), (ea d, .inl (cI, 100, .inl x.2.2.2.2.2))]
def hkF (cI : ClassId) (sa ea : Nat → Nat) (S : Nat → pu_Sh) : va_W := (List.range 8).flatMap (fun d => hkS cI sa ea d (S d))
def hkB (cI cT cS : ClassId) (a kI kJ kK sa ea : Nat → Nat) (I J K : pu_I) (it : Int32) (g1 g2 : Nat → Int32) (S : Nat → pu_Sh) : va_W := hkC cI cT cS a kI kJ kK sa I J K it g1 g2 ++ hkF cI sa ea S
def hkM (cI : ClassId) (b : Nat → Nat) (x : pu_Mo) : va_W :=
  [(b 0, .inr (11, [.ref (b 1), .ref (b 2), .ref (b 3), .ref (b 4), .int x.1, .int x.2.1, .int x.2.2.1, .int x.2.2.2.1, .ref (b 5), .int x.2.2.2.2.1, .ref (b 6), .ref (b 7), .ref (b 8), .ref (b 9), .ref (b 10), .ref (b 11), .int x.2.2.2.2.2.1])),
   (b 1, .inl (cI, 39, .inl x.2.2.2.2.2.2.1)),
   (b 2, .inl (cI, 39, .inl x.2.2.2.2.2.2.2.1)),
   (b 3, .inl (cI, 39, .inl x.2.2.2.2.2.2.2.2.1)),
   (b 4, .inl (cI, 39, .inl x.2.2.2.2.2.2.2.2.2.1)),
   (b 5, .inl (cI, 3, .inl x.2.2.2.2.2.2.2.2.2.2.1)),
   (b 6, .inl (cI, 8, .inl x.2.2.2.2.2.2.2.2.2.2.2.1)),
   (b 7, .inl (cI, 8, .inl x.2.2.2.2.2.2.2.2.2.2.2.2.1)),
   (b 8, .inl (cI, 8, .inl x.2.2.2.2.2.2.2.2.2.2.2.2.2.1)),
   (b 9, .inl (cI, 8, .inl x.2.2.2.2.2.2.2.2.2.2.2.2.2.2.1)),
   (b 10, .inl (cI, 8, .inl x.2.2.2.2.2.2.2.2.2.2.2.2.2.2.2.1)),
   (b 11, .inl (cI, 800, .inl x.2.2.2.2.2.2.2.2.2.2.2.2.2.2.2.2))]
def hk_up (S : Nat → pu_Sh) (d : Nat) (x : pu_Sh) : Nat → pu_Sh := fun k => if k = d then x else S k
theorem hk_upd {S : Nat → pu_Sh} {d : Nat} {x : pu_Sh} : hk_up S d x d = x := if_pos rfl
theorem hk_upn {S : Nat → pu_Sh} {d k : Nat} {x : pu_Sh} (h : k ≠ d) : hk_up S d x k = S k := if_neg h
theorem hk_self {S : Nat → pu_Sh} {d : Nat} : hk_up S d (S d) = S := by
  funext k
  by_cases h : k = d
  · rw [h]; exact if_pos rfl
  · exact if_neg h
theorem hk_split {cI : ClassId} {sa ea : Nat → Nat} {d : Nat} (hd : d < 8) (S : Nat → pu_Sh) (x : pu_Sh) : (hkF cI sa ea (hk_up S d x)).Perm (hkS cI sa ea d x ++ ((List.range 8).erase d).flatMap (fun k => hkS cI sa ea k (S k))) := by
  have h1 := (List.perm_cons_erase (List.mem_range.mpr hd)).flatMap_right (fun k => hkS cI sa ea k (hk_up S d x k))
  have e : ((List.range 8).erase d).flatMap (fun k => hkS cI sa ea k (hk_up S d x k)) = ((List.range 8).erase d).flatMap (fun k => hkS cI sa ea k (S k)) := by
    rw [List.flatMap_def, List.flatMap_def]
    congr 1
    refine List.map_congr_left (fun k hk => ?_)
    rw [hk_upn (fun e => ?_)]
    rw [e] at hk
    exact (List.nodup_range.not_mem_erase) hk
  rw [List.flatMap_cons, e, hk_upd] at h1
  exact h1
theorem hk_shelf {l : Launch} {y : MethodName} {wy : List Cond} {rm : Room} {D : va_G} {tys : List (ClassId × FieldType)} {avs : List Value} {r : Option Value} {cI : ClassId} {sa ea : Nat → Nat} {d : Nat} (hd : d < 8) {C C' : va_W} {S : Nat → pu_Sh} {x : pu_Sh} (h : fk l y wy rm D tys avs (C ++ hkS cI sa ea d (S d)) (C' ++ hkS cI sa ea d x) r) : fk l y wy rm D tys avs (C ++ hkF cI sa ea S) (C' ++ hkF cI sa ea (hk_up S d x)) r := by
  refine hk_perm h (((List.range 8).erase d).flatMap (fun k => hkS cI sa ea k (S k))) ?_ ?_
  · have := hk_split (cI := cI) (sa := sa) (ea := ea) hd S (S d)
    rw [hk_self] at this
    rw [List.append_assoc]
    exact this.append_left C
  · rw [List.append_assoc]
    exact (hk_split hd S x).append_left C'
theorem hk_shelf2 {l : Launch} {y : MethodName} {wy : List Cond} {rm : Room} {D : va_G} {tys : List (ClassId × FieldType)} {avs : List Value} {r : Option Value} {cI : ClassId} {sa ea : Nat → Nat} {d e : Nat} (hd : d < 8) (he : e < 8) (hde : e ≠ d) {C C' : va_W} {S : Nat → pu_Sh} {x : pu_Sh} (h : fk l y wy rm D tys avs (C ++ (hkS cI sa ea d (S d) ++ hkS cI sa ea e (S e))) (C' ++ (hkS cI sa ea d (S d) ++ hkS cI sa ea e x)) r) : fk l y wy rm D tys avs (C ++ hkF cI sa ea S) (C' ++ hkF cI sa ea (hk_up S e x)) r := by
  have hm : e ∈ (List.range 8).erase d := (List.nodup_range.mem_erase_iff).mpr ⟨hde, List.mem_range.mpr he⟩
  have sp : ∀ z : pu_Sh, (((List.range 8).erase d).flatMap (fun k => hkS cI sa ea k (hk_up S e z k))).Perm (hkS cI sa ea e z ++ (((List.range 8).erase d).erase e).flatMap (fun k => hkS cI sa ea k (S k))) := by
    intro z
    have h1 := (List.perm_cons_erase hm).flatMap_right (fun k => hkS cI sa ea k (hk_up S e z k))
    have e1 : (((List.range 8).erase d).erase e).flatMap (fun k => hkS cI sa ea k (hk_up S e z k)) = (((List.range 8).erase d).erase e).flatMap (fun k => hkS cI sa ea k (S k)) := by
      rw [List.flatMap_def, List.flatMap_def]
      congr 1
      refine List.map_congr_left (fun k hk => ?_)
      rw [hk_upn (fun e2 => ?_)]
      rw [e2] at hk
      exact ((List.nodup_range.erase d).not_mem_erase) hk
    rw [List.flatMap_cons, e1, hk_upd] at h1
    exact h1
  have all : ∀ z : pu_Sh, (hkF cI sa ea (hk_up S e z)).Perm ((hkS cI sa ea d (S d) ++ hkS cI sa ea e z) ++ (((List.range 8).erase d).erase e).flatMap (fun k => hkS cI sa ea k (S k))) := by
    intro z
    have h1 := hk_split (cI := cI) (sa := sa) (ea := ea) hd (hk_up S e z) (hk_up S e z d)
    rw [hk_self, hk_upn (fun q => hde q.symm)] at h1
    rw [List.append_assoc]
    exact h1.trans ((sp z).append_left _)
  refine hk_perm h ((((List.range 8).erase d).erase e).flatMap (fun k => hkS cI sa ea k (S k))) ?_ ?_
  · have := all (S e)
    rw [hk_self] at this
    rw [List.append_assoc]
    exact this.append_left C
  · rw [List.append_assoc]
    exact (all x).append_left C'
