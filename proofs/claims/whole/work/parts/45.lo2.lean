/-! copy onto the same shelf; what toss and element answer -/
set_option maxRecDepth 100000 in
set_option maxHeartbeats 4000000 in
theorem t_X11_cs_0 {p : Program} {l : Launch} {e : Env} {s : State} {m : MethodId} {args : Array Value} {below : List Frame} {meth : Method} {c : Code} {D : va_G} {cI cT cS : ClassId} {A : Nat → Prop} (C : fk_C p s m meth c args cX11_copy 8 (some .int) wsX11_copy RX11 D [(cI, .int), (cT, .object "LetByTheBirds$Tenant"), (cS, .object "LetByTheBirds$Shelf")] A) (q_B : Nat) (q_B_isle : Nat) (q_B_image : Nat) (q_B_mind : Nat) (q_B_shelves : Nat) (q_B_gainsOfOne : Nat) (q_B_gainsOfOther : Nat) (sa : Nat → Nat) (kS : Nat) (q_B_sh_elements : Nat) (f_B_imageTaken : Int32) (f_B_sh_holds : Int32) (f_B_sh_kind : Int32) (f_B_sh_figure : Int32) (f_B_sh_sort : Int32) (f_B_sh_size : Int32) (w_B_sh_elements : Nat → Int32) (z : Int32 × (Nat → Int32)) (x1 : Int32) (x2 : Int32) (x3 : Int32) (x4 : Int32) (x5 : Int32) (h : f_X11_copy x1 x2 x3 x4 x5 f_B_sh_holds f_B_sh_sort f_B_sh_size w_B_sh_elements f_B_sh_holds f_B_sh_sort f_B_sh_size w_B_sh_elements kS kS = some z) : ∀ (H : Heap) (locs : List Loc), va_P D vwCl [(q_B, .inr (10, [.ref q_B_isle, .ref q_B_image, .ref q_B_mind, .ref q_B_shelves, .ref q_B_gainsOfOne, .ref q_B_gainsOfOther, .int f_B_imageTaken])), (q_B_shelves, .inl (cS, 8, .inr (.inr (.inr (.inr (fun k => some (sa k))))))), ((sa kS), .inr (7, [.int f_B_sh_holds, .int f_B_sh_kind, .int f_B_sh_figure, .int f_B_sh_sort, .int f_B_sh_size, .ref q_B_sh_elements])), (q_B_sh_elements, .inl (cI, 100, .inl w_B_sh_elements))] H → va_D A [(q_B, .inr (10, [.ref q_B_isle, .ref q_B_image, .ref q_B_mind, .ref q_B_shelves, .ref q_B_gainsOfOne, .ref q_B_gainsOfOther, .int f_B_imageTaken])), (q_B_shelves, .inl (cS, 8, .inr (.inr (.inr (.inr (fun k => some (sa k))))))), ((sa kS), .inr (7, [.int f_B_sh_holds, .int f_B_sh_kind, .int f_B_sh_figure, .int f_B_sh_sort, .int f_B_sh_size, .ref q_B_sh_elements])), (q_B_sh_elements, .inl (cI, 100, .inl w_B_sh_elements))] → va_S A s.heap H locs → ∀ ls : Array Slot, lv_has ls 8 [(0, .ref q_B), (1, .int x1), (2, .int x2), (3, .int x3), (4, .int x4), (5, .int x5)] → W p l e ({ frames := 2, cells := 0, slots := 0, locals := 42 } : Room) s m args below meth c H locs 0 0 (fk_E D [(q_B, .inr (10, [.ref q_B_isle, .ref q_B_image, .ref q_B_mind, .ref q_B_shelves, .ref q_B_gainsOfOne, .ref q_B_gainsOfOther, .int f_B_imageTaken])), (q_B_shelves, .inl (cS, 8, .inr (.inr (.inr (.inr (fun k => some (sa k))))))), ((sa kS), .inr (7, [.int f_B_sh_holds, .int f_B_sh_kind, .int f_B_sh_figure, .int f_B_sh_sort, .int f_B_sh_size, .ref q_B_sh_elements])), (q_B_sh_elements, .inl (cI, 100, .inl z.2))] (some (.int z.1)) A below args s) (F0 m 0 ls []) := by
  obtain ⟨hx, hb, hml, hown, hts, hr, hlocks, hK, hN, hA⟩ := id C
  intro H locs hP hD hS ls hl
  unfold f_X11_copy at h
  refine lv_iload_n hx hb dX11_copy_0 rfl (lv_at hl 1 rfl) ?_
  obtain ⟨r1, h2, h⟩ := fk_b h
  refine gk_S (As := [.int x1]) (rest := []) (wc := []) ⟨hx, hb, hml, hown, hts⟩ (c_X11_isShelf l D cI cT cS x1 r1 h2) (va_cwS 1 hts gX11_copy_X11_isShelf rfl rfl rfl (by decide +kernel) ⟨Nat.le_of_ble_eq_true rfl, Nat.le_of_ble_eq_true rfl⟩) hK hN hP hD hS hA [] [0, 1, 2, 3] (by decide +kernel) rfl rfl (ws' := [(q_B, .inr (10, [.ref q_B_isle, .ref q_B_image, .ref q_B_mind, .ref q_B_shelves, .ref q_B_gainsOfOne, .ref q_B_gainsOfOther, .int f_B_imageTaken])), (q_B_shelves, .inl (cS, 8, .inr (.inr (.inr (.inr (fun k => some (sa k))))))), ((sa kS), .inr (7, [.int f_B_sh_holds, .int f_B_sh_kind, .int f_B_sh_figure, .int f_B_sh_sort, .int f_B_sh_size, .ref q_B_sh_elements])), (q_B_sh_elements, .inl (cI, 100, .inl w_B_sh_elements))]) rfl rfl (N := 4) rfl (by decide) (st' := [.int r1]) rfl rfl hl.1 rfl (Nat.le_of_ble_eq_true rfl) ⟨Nat.zero_le _, Nat.zero_le _⟩ dX11_copy_1 (fun H locs hP hD hS => ?_)
  refine lv_if_eq (tgt := 14) hx hb dX11_copy_4 (by decide) (fun c3 => ?_) (fun c3 => ?_)
  · replace h := fk_t c3 h
    refine lv_iconst (v := (-1 : Int32)) hx hb dX11_copy_14 (by decide) ?_
    obtain rfl := Option.some.inj h
    exact fk_ri hx hb hr hlocks hP hS dX11_copy_15
  · replace h := fk_f c3 h
    refine lv_iload_n hx hb dX11_copy_7 rfl (lv_at hl 3 rfl) ?_
    obtain ⟨r4, h5, h⟩ := fk_b h
    refine gk_S (As := [.int x3]) (rest := []) (wc := []) ⟨hx, hb, hml, hown, hts⟩ (c_X11_isShelf l D cI cT cS x3 r4 h5) (va_cwS 1 hts gX11_copy_X11_isShelf rfl rfl rfl (by decide +kernel) ⟨Nat.le_of_ble_eq_true rfl, Nat.le_of_ble_eq_true rfl⟩) hK hN hP hD hS hA [] [0, 1, 2, 3] (by decide +kernel) rfl rfl (ws' := [(q_B, .inr (10, [.ref q_B_isle, .ref q_B_image, .ref q_B_mind, .ref q_B_shelves, .ref q_B_gainsOfOne, .ref q_B_gainsOfOther, .int f_B_imageTaken])), (q_B_shelves, .inl (cS, 8, .inr (.inr (.inr (.inr (fun k => some (sa k))))))), ((sa kS), .inr (7, [.int f_B_sh_holds, .int f_B_sh_kind, .int f_B_sh_figure, .int f_B_sh_sort, .int f_B_sh_size, .ref q_B_sh_elements])), (q_B_sh_elements, .inl (cI, 100, .inl w_B_sh_elements))]) rfl rfl (N := 4) rfl (by decide) (st' := [.int r4]) rfl rfl hl.1 rfl (Nat.le_of_ble_eq_true rfl) ⟨Nat.zero_le _, Nat.zero_le _⟩ dX11_copy_8 (fun H locs hP hD hS => ?_)
    refine lv_if_ne (tgt := 16) hx hb dX11_copy_11 (by decide) (fun c6 => ?_) (fun c6 => ?_)
    · replace h := fk_f c6 h
      refine lv_aload_n hx hb dX11_copy_16 rfl (lv_at hl 0 rfl) ?_
      refine va_get (D := D) (ci := 10) (v := .ref q_B_shelves) (C := RX11) (T := TX11) (N := 7) hx hb hts in_X11_copy_X11 hown hK hP 0 rfl rfl 3 (by decide) (hts (.fieldLink RX11 24 "LetByTheBirds" "shelves" "[LLetByTheBirds$Shelf;") (List.mem_of_getElem? (i := 1) rfl)) (fun _ h9 => h9) rfl dX11_copy_17 ?_
      refine lv_iload_n hx hb dX11_copy_20 rfl (lv_at hl 1 rfl) ?_
      obtain ⟨g7, h⟩ := fk_g h
      obtain ⟨g8, h⟩ := fk_g h
      refine va_aldq hx hb hK hP 1 2 rfl rfl g7 dX11_copy_21 ?_
      refine W.eq (g2 := F0 m 22 ls [.ref (sa kS)]) (by rw [Classical.not_not.mp g8]; rfl) ?_
      refine lv_astore (lv' := [(6, .ref (sa kS)), (0, .ref q_B), (1, .int x1), (2, .int x2), (3, .int x3), (4, .int x4), (5, .int x5)]) hx hb dX11_copy_22 hl (by decide) rfl (fun ls hl => ?_)
      refine lv_aload_n hx hb dX11_copy_24 rfl (lv_at hl 1 rfl) ?_
      refine va_get (D := D) (ci := 10) (v := .ref q_B_shelves) (C := RX11) (T := TX11) (N := 7) hx hb hts in_X11_copy_X11 hown hK hP 0 rfl rfl 3 (by decide) (hts (.fieldLink RX11 24 "LetByTheBirds" "shelves" "[LLetByTheBirds$Shelf;") (List.mem_of_getElem? (i := 1) rfl)) (fun _ h9 => h9) rfl dX11_copy_25 ?_
      refine lv_iload_n hx hb dX11_copy_28 rfl (lv_at hl 4 rfl) ?_
      obtain ⟨g9, h⟩ := fk_g h
      obtain ⟨g10, h⟩ := fk_g h
      refine va_aldq hx hb hK hP 1 2 rfl rfl g9 dX11_copy_29 ?_
      refine W.eq (g2 := F0 m 30 ls [.ref (sa kS)]) (by rw [Classical.not_not.mp g10]; rfl) ?_
      refine lv_astore (lv' := [(7, .ref (sa kS)), (6, .ref (sa kS)), (0, .ref q_B), (1, .int x1), (2, .int x2), (3, .int x3), (4, .int x4), (5, .int x5)]) hx hb dX11_copy_30 hl (by decide) rfl (fun ls hl => ?_)
      refine lv_aload hx hb dX11_copy_32 (lv_at hl 1 rfl) ?_
      refine va_get (D := D) (ci := 7) (v := .int f_B_sh_holds) (C := RX7) (T := TX7) (N := 6) hx hb hts in_X11_copy_X7 hown hK hP 2 rfl rfl 0 (by decide) (hts (.fieldLink RX11 271 "LetByTheBirds$Shelf" "holds" "I") (List.mem_of_getElem? (i := 2) rfl)) (fun _ h9 => h9) rfl dX11_copy_34 ?_
      refine lv_if_eq (tgt := 48) hx hb dX11_copy_37 (by decide) (fun c11 => ?_) (fun c11 => ?_)
      · replace h := fk_t c11 h
        refine lv_bipush (v := (-11 : Int32)) hx hb dX11_copy_48 (by decide) ?_
        obtain rfl := Option.some.inj h
        exact fk_ri hx hb hr hlocks hP hS dX11_copy_50
      · replace h := fk_f c11 h
        refine lv_aload hx hb dX11_copy_40 (lv_at hl 0 rfl) ?_
        refine va_get (D := D) (ci := 7) (v := .int f_B_sh_holds) (C := RX7) (T := TX7) (N := 6) hx hb hts in_X11_copy_X7 hown hK hP 2 rfl rfl 0 (by decide) (hts (.fieldLink RX11 271 "LetByTheBirds$Shelf" "holds" "I") (List.mem_of_getElem? (i := 2) rfl)) (fun _ h9 => h9) rfl dX11_copy_42 ?_
        refine lv_if_ne (tgt := 51) hx hb dX11_copy_45 (by decide) (fun c12 => ?_) (fun c12 => ?_)
        · replace h := fk_f c12 h
          refine lv_aload hx hb dX11_copy_51 (lv_at hl 1 rfl) ?_
          refine va_get (D := D) (ci := 7) (v := .int f_B_sh_holds) (C := RX7) (T := TX7) (N := 6) hx hb hts in_X11_copy_X7 hown hK hP 2 rfl rfl 0 (by decide) (hts (.fieldLink RX11 271 "LetByTheBirds$Shelf" "holds" "I") (List.mem_of_getElem? (i := 2) rfl)) (fun _ h9 => h9) rfl dX11_copy_53 ?_
          refine lv_iconst (v := (2 : Int32)) hx hb dX11_copy_56 (by decide) ?_
          refine lv_icmp_ne (tgt := 82) hx hb dX11_copy_57 (by decide) (fun c13 => ?_) (fun c13 => ?_)
          · replace h := fk_f c13 h
            refine lv_bipush (v := (-12 : Int32)) hx hb dX11_copy_82 (by decide) ?_
            obtain rfl := Option.some.inj h
            exact fk_ri hx hb hr hlocks hP hS dX11_copy_84
          · replace h := fk_t c13 h
            refine lv_aload hx hb dX11_copy_60 (lv_at hl 0 rfl) ?_
            refine va_get (D := D) (ci := 7) (v := .int f_B_sh_holds) (C := RX7) (T := TX7) (N := 6) hx hb hts in_X11_copy_X7 hown hK hP 2 rfl rfl 0 (by decide) (hts (.fieldLink RX11 271 "LetByTheBirds$Shelf" "holds" "I") (List.mem_of_getElem? (i := 2) rfl)) (fun _ h9 => h9) rfl dX11_copy_62 ?_
            refine lv_iconst (v := (2 : Int32)) hx hb dX11_copy_65 (by decide) ?_
            refine lv_icmp_ne (tgt := 82) hx hb dX11_copy_66 (by decide) (fun c14 => ?_) (fun c14 => ?_)
            · replace h := fk_f c14 h
              refine lv_bipush (v := (-12 : Int32)) hx hb dX11_copy_82 (by decide) ?_
              obtain rfl := Option.some.inj h
              exact fk_ri hx hb hr hlocks hP hS dX11_copy_84
            · replace h := fk_t c14 h
              refine lv_aload hx hb dX11_copy_69 (lv_at hl 1 rfl) ?_
              refine va_get (D := D) (ci := 7) (v := .int f_B_sh_sort) (C := RX7) (T := TX7) (N := 6) hx hb hts in_X11_copy_X7 hown hK hP 2 rfl rfl 3 (by decide) (hts (.fieldLink RX11 40 "LetByTheBirds$Shelf" "sort" "I") (List.mem_of_getElem? (i := 3) rfl)) (fun _ h9 => h9) rfl dX11_copy_71 ?_
              refine lv_aload hx hb dX11_copy_74 (lv_at hl 0 rfl) ?_
              refine va_get (D := D) (ci := 7) (v := .int f_B_sh_sort) (C := RX7) (T := TX7) (N := 6) hx hb hts in_X11_copy_X7 hown hK hP 2 rfl rfl 3 (by decide) (hts (.fieldLink RX11 40 "LetByTheBirds$Shelf" "sort" "I") (List.mem_of_getElem? (i := 3) rfl)) (fun _ h9 => h9) rfl dX11_copy_76 ?_
              refine lv_icmp_eq (tgt := 85) hx hb dX11_copy_79 (by decide) (fun c15 => ?_) (fun c15 => ?_)
              · replace h := fk_t c15 h
                refine lv_aload hx hb dX11_copy_85 (lv_at hl 1 rfl) ?_
                refine lv_iload_n hx hb dX11_copy_87 rfl (lv_at hl 4 rfl) ?_
                refine lv_iload hx hb dX11_copy_88 (lv_at hl 7 rfl) ?_
                obtain ⟨r16, h17, h⟩ := fk_b h
                refine gk_V (As := [.int x2, .int x5]) (rest := []) (wc := [((sa kS), .inr (7, [.int f_B_sh_holds, .int f_B_sh_kind, .int f_B_sh_figure, .int f_B_sh_sort, .int f_B_sh_size, .ref q_B_sh_elements]))]) ⟨hx, hb, hml, hown, hts⟩ (c_X7_hasRun l D cI cT cS (sa kS) q_B_sh_elements f_B_sh_holds f_B_sh_kind f_B_sh_figure f_B_sh_sort f_B_sh_size x2 x5 r16 h17) (cwV 2 hts gX11_copy_X7_hasRun rfl rfl rfl (by decide +kernel) ⟨Nat.le_of_ble_eq_true rfl, Nat.le_of_ble_eq_true rfl⟩) hK hN (va_recv hK hP (ci := 7) (q0 := 2) rfl rfl) hP hD hS hA [2] [0, 1, 3] (by decide +kernel) rfl rfl (ws' := [(q_B, .inr (10, [.ref q_B_isle, .ref q_B_image, .ref q_B_mind, .ref q_B_shelves, .ref q_B_gainsOfOne, .ref q_B_gainsOfOther, .int f_B_imageTaken])), (q_B_shelves, .inl (cS, 8, .inr (.inr (.inr (.inr (fun k => some (sa k))))))), ((sa kS), .inr (7, [.int f_B_sh_holds, .int f_B_sh_kind, .int f_B_sh_figure, .int f_B_sh_sort, .int f_B_sh_size, .ref q_B_sh_elements])), (q_B_sh_elements, .inl (cI, 100, .inl w_B_sh_elements))]) rfl rfl (N := 4) rfl (by decide) (st' := [.int r16]) rfl rfl hl.1 rfl (Nat.le_of_ble_eq_true rfl) ⟨Nat.zero_le _, Nat.zero_le _⟩ dX11_copy_90 (fun H locs hP hD hS => ?_)
                refine lv_if_eq (tgt := 108) hx hb dX11_copy_93 (by decide) (fun c18 => ?_) (fun c18 => ?_)
                · replace h := fk_t c18 h
                  refine lv_bipush (v := (-13 : Int32)) hx hb dX11_copy_108 (by decide) ?_
                  obtain rfl := Option.some.inj h
                  exact fk_ri hx hb hr hlocks hP hS dX11_copy_110
                · replace h := fk_f c18 h
                  refine lv_aload hx hb dX11_copy_96 (lv_at hl 0 rfl) ?_
                  refine lv_iload hx hb dX11_copy_98 (lv_at hl 6 rfl) ?_
                  refine lv_iload hx hb dX11_copy_100 (lv_at hl 7 rfl) ?_
                  obtain ⟨r19, h20, h⟩ := fk_b h
                  refine gk_V (As := [.int x4, .int x5]) (rest := []) (wc := [((sa kS), .inr (7, [.int f_B_sh_holds, .int f_B_sh_kind, .int f_B_sh_figure, .int f_B_sh_sort, .int f_B_sh_size, .ref q_B_sh_elements]))]) ⟨hx, hb, hml, hown, hts⟩ (c_X7_hasRun l D cI cT cS (sa kS) q_B_sh_elements f_B_sh_holds f_B_sh_kind f_B_sh_figure f_B_sh_sort f_B_sh_size x4 x5 r19 h20) (cwV 2 hts gX11_copy_X7_hasRun rfl rfl rfl (by decide +kernel) ⟨Nat.le_of_ble_eq_true rfl, Nat.le_of_ble_eq_true rfl⟩) hK hN (va_recv hK hP (ci := 7) (q0 := 2) rfl rfl) hP hD hS hA [2] [0, 1, 3] (by decide +kernel) rfl rfl (ws' := [(q_B, .inr (10, [.ref q_B_isle, .ref q_B_image, .ref q_B_mind, .ref q_B_shelves, .ref q_B_gainsOfOne, .ref q_B_gainsOfOther, .int f_B_imageTaken])), (q_B_shelves, .inl (cS, 8, .inr (.inr (.inr (.inr (fun k => some (sa k))))))), ((sa kS), .inr (7, [.int f_B_sh_holds, .int f_B_sh_kind, .int f_B_sh_figure, .int f_B_sh_sort, .int f_B_sh_size, .ref q_B_sh_elements])), (q_B_sh_elements, .inl (cI, 100, .inl w_B_sh_elements))]) rfl rfl (N := 4) rfl (by decide) (st' := [.int r19]) rfl rfl hl.1 rfl (Nat.le_of_ble_eq_true rfl) ⟨Nat.zero_le _, Nat.zero_le _⟩ dX11_copy_102 (fun H locs hP hD hS => ?_)
                  refine lv_if_ne (tgt := 111) hx hb dX11_copy_105 (by decide) (fun c21 => ?_) (fun c21 => ?_)
                  · replace h := fk_f c21 h
                    refine lv_aload hx hb dX11_copy_111 (lv_at hl 1 rfl) ?_
                    refine va_get (D := D) (ci := 7) (v := .ref q_B_sh_elements) (C := RX7) (T := TX7) (N := 6) hx hb hts in_X11_copy_X7 hown hK hP 2 rfl rfl 5 (by decide) (hts (.fieldLink RX11 227 "LetByTheBirds$Shelf" "elements" "[I") (List.mem_of_getElem? (i := 4) rfl)) (fun _ h9 => h9) rfl dX11_copy_113 ?_
                    refine lv_iload_n hx hb dX11_copy_116 rfl (lv_at hl 4 rfl) ?_
                    refine lv_aload hx hb dX11_copy_117 (lv_at hl 0 rfl) ?_
                    refine va_get (D := D) (ci := 7) (v := .ref q_B_sh_elements) (C := RX7) (T := TX7) (N := 6) hx hb hts in_X11_copy_X7 hown hK hP 2 rfl rfl 5 (by decide) (hts (.fieldLink RX11 227 "LetByTheBirds$Shelf" "elements" "[I") (List.mem_of_getElem? (i := 4) rfl)) (fun _ h9 => h9) rfl dX11_copy_119 ?_
                    refine lv_iload hx hb dX11_copy_122 (lv_at hl 6 rfl) ?_
                    refine lv_iload hx hb dX11_copy_124 (lv_at hl 7 rfl) ?_
                    obtain ⟨g22, h⟩ := fk_g h
                    obtain ⟨g23, h⟩ := fk_g h
                    obtain ⟨g24, h⟩ := fk_g h
                    obtain ⟨g25, h⟩ := fk_g h
                    obtain ⟨g26, h⟩ := fk_g h
                    refine va_copyi hx hb (hml.trans hl.1.symm) hown (hts (.methodLink RX11 284 arraycopyName) (List.mem_of_getElem? (i := 5) rfl)) (hts (.native arraycopyName) (List.mem_of_getElem? (i := 6) rfl)) (hts (.static arraycopyName) (List.mem_of_getElem? (i := 7) rfl)) (hts (.initialized "java/lang/System") (List.mem_of_getElem? (i := 8) rfl)) hK hP hD hS 3 3 0 0 rfl rfl rfl rfl rfl g22 g23 g24 (Nat.not_lt.mp g25) (Nat.not_lt.mp g26) (fun _ _ => rfl) (Nat.le_of_ble_eq_true rfl) (Nat.le_of_ble_eq_true rfl) dX11_copy_126 (fun H locs hP hD hS => ?_)
                    have hP : va_P D vwCl [(q_B, .inr (10, [.ref q_B_isle, .ref q_B_image, .ref q_B_mind, .ref q_B_shelves, .ref q_B_gainsOfOne, .ref q_B_gainsOfOther, .int f_B_imageTaken])), (q_B_shelves, .inl (cS, 8, .inr (.inr (.inr (.inr (fun k => some (sa k))))))), ((sa kS), .inr (7, [.int f_B_sh_holds, .int f_B_sh_kind, .int f_B_sh_figure, .int f_B_sh_sort, .int f_B_sh_size, .ref q_B_sh_elements])), (q_B_sh_elements, .inl (cI, 100, .inl (va_cpy w_B_sh_elements w_B_sh_elements x2.toNatClampNeg x4.toNatClampNeg x5.toNatClampNeg)))] H := hP
                    have hD : va_D A [(q_B, .inr (10, [.ref q_B_isle, .ref q_B_image, .ref q_B_mind, .ref q_B_shelves, .ref q_B_gainsOfOne, .ref q_B_gainsOfOther, .int f_B_imageTaken])), (q_B_shelves, .inl (cS, 8, .inr (.inr (.inr (.inr (fun k => some (sa k))))))), ((sa kS), .inr (7, [.int f_B_sh_holds, .int f_B_sh_kind, .int f_B_sh_figure, .int f_B_sh_sort, .int f_B_sh_size, .ref q_B_sh_elements])), (q_B_sh_elements, .inl (cI, 100, .inl (va_cpy w_B_sh_elements w_B_sh_elements x2.toNatClampNeg x4.toNatClampNeg x5.toNatClampNeg)))] := hD
                    refine lv_iload hx hb dX11_copy_129 (lv_at hl 7 rfl) ?_
                    obtain rfl := Option.some.inj h
                    exact fk_ri hx hb hr hlocks hP hS dX11_copy_131
                  · replace h := fk_t c21 h
                    refine lv_bipush (v := (-13 : Int32)) hx hb dX11_copy_108 (by decide) ?_
                    obtain rfl := Option.some.inj h
                    exact fk_ri hx hb hr hlocks hP hS dX11_copy_110
              · replace h := fk_f c15 h
                refine lv_bipush (v := (-12 : Int32)) hx hb dX11_copy_82 (by decide) ?_
                obtain rfl := Option.some.inj h
                exact fk_ri hx hb hr hlocks hP hS dX11_copy_84
        · replace h := fk_t c12 h
          refine lv_bipush (v := (-11 : Int32)) hx hb dX11_copy_48 (by decide) ?_
          obtain rfl := Option.some.inj h
          exact fk_ri hx hb hr hlocks hP hS dX11_copy_50
    · replace h := fk_t c6 h
      refine lv_iconst (v := (-1 : Int32)) hx hb dX11_copy_14 (by decide) ?_
      obtain rfl := Option.some.inj h
      exact fk_ri hx hb hr hlocks hP hS dX11_copy_15
set_option maxRecDepth 100000 in
theorem c_X11_cs (l : Launch) (D : va_G) (cI cT cS : ClassId) (q_B : Nat) (q_B_isle : Nat) (q_B_image : Nat) (q_B_mind : Nat) (q_B_shelves : Nat) (q_B_gainsOfOne : Nat) (q_B_gainsOfOther : Nat) (sa : Nat → Nat) (kS : Nat) (q_B_sh_elements : Nat) (f_B_imageTaken : Int32) (f_B_sh_holds : Int32) (f_B_sh_kind : Int32) (f_B_sh_figure : Int32) (f_B_sh_sort : Int32) (f_B_sh_size : Int32) (w_B_sh_elements : Nat → Int32) (x1 : Int32) (x2 : Int32) (x3 : Int32) (x4 : Int32) (x5 : Int32) (z : Int32 × (Nat → Int32)) (h : f_X11_copy x1 x2 x3 x4 x5 f_B_sh_holds f_B_sh_sort f_B_sh_size w_B_sh_elements f_B_sh_holds f_B_sh_sort f_B_sh_size w_B_sh_elements kS kS = some z) : fk l yX11_copy wsX11_copy ({ frames := 2, cells := 0, slots := 0, locals := 42 } : Room) D [(cI, .int), (cT, .object "LetByTheBirds$Tenant"), (cS, .object "LetByTheBirds$Shelf")] [.ref q_B, .int x1, .int x2, .int x3, .int x4, .int x5] [(q_B, .inr (10, [.ref q_B_isle, .ref q_B_image, .ref q_B_mind, .ref q_B_shelves, .ref q_B_gainsOfOne, .ref q_B_gainsOfOther, .int f_B_imageTaken])), (q_B_shelves, .inl (cS, 8, .inr (.inr (.inr (.inr (fun k => some (sa k))))))), ((sa kS), .inr (7, [.int f_B_sh_holds, .int f_B_sh_kind, .int f_B_sh_figure, .int f_B_sh_sort, .int f_B_sh_size, .ref q_B_sh_elements])), (q_B_sh_elements, .inl (cI, 100, .inl w_B_sh_elements))] [(q_B, .inr (10, [.ref q_B_isle, .ref q_B_image, .ref q_B_mind, .ref q_B_shelves, .ref q_B_gainsOfOne, .ref q_B_gainsOfOther, .int f_B_imageTaken])), (q_B_shelves, .inl (cS, 8, .inr (.inr (.inr (.inr (fun k => some (sa k))))))), ((sa kS), .inr (7, [.int f_B_sh_holds, .int f_B_sh_kind, .int f_B_sh_figure, .int f_B_sh_sort, .int f_B_sh_size, .ref q_B_sh_elements])), (q_B_sh_elements, .inl (cI, 100, .inl z.2))] (some (.int z.1)) :=
  fk_of (cc := cX11_copy) (maxL := 8) (ret := (some .int)) (by decide) rfl (Nat.le_of_ble_eq_true rfl) (fun p e s m below meth c A C hP hD hS ls hl => t_X11_cs_0 C q_B q_B_isle q_B_image q_B_mind q_B_shelves q_B_gainsOfOne q_B_gainsOfOther sa kS q_B_sh_elements f_B_imageTaken f_B_sh_holds f_B_sh_kind f_B_sh_figure f_B_sh_sort f_B_sh_size w_B_sh_elements z x1 x2 x3 x4 x5 h s.heap [] hP hD hS ls (lv_sub hl [0, 1, 2, 3, 4, 5] rfl))
set_option maxRecDepth 100000 in
set_option maxHeartbeats 4000000 in
theorem b_cs (l : Launch) (D : va_G) (cI cT cS : ClassId) (a kI kJ kK sa ea : Nat → Nat) (I J K : pu_I) (it : Int32) (g1 g2 : Nat → Int32) (S : Nat → pu_Sh) (d : Nat) (hd : d < 8) (x1 : Int32) (x2 : Int32) (x3 : Int32) (x4 : Int32) (x5 : Int32) (z : Int32 × (Nat → Int32)) (h : f_X11_copy x1 x2 x3 x4 x5 (S d).1 (S d).2.2.2.1 (S d).2.2.2.2.1 (S d).2.2.2.2.2 (S d).1 (S d).2.2.2.1 (S d).2.2.2.2.1 (S d).2.2.2.2.2 d d = some z) : fk l yX11_copy wsX11_copy ({ frames := 2, cells := 0, slots := 0, locals := 42 } : Room) D [(cI, .int), (cT, .object "LetByTheBirds$Tenant"), (cS, .object "LetByTheBirds$Shelf")] [.ref (a 0), .int x1, .int x2, .int x3, .int x4, .int x5] (hkB cI cT cS a kI kJ kK sa ea I J K it g1 g2 S) (hkB cI cT cS a kI kJ kK sa ea I J K it g1 g2 (hk_up S d ((S d).1, (S d).2.1, (S d).2.2.1, (S d).2.2.2.1, (S d).2.2.2.2.1, z.2))) (some (.int z.1)) := by
  have g := hk_shelf (cI := cI) (sa := sa) (ea := ea) (S := S) (x := ((S d).1, (S d).2.1, (S d).2.2.1, (S d).2.2.2.1, (S d).2.2.2.2.1, z.2)) hd (C := hkC cI cT cS a kI kJ kK sa I J K it g1 g2) (C' := hkC cI cT cS a kI kJ kK sa I J K it g1 g2) (hk_pos (c_X11_cs l D cI cT cS (a 0) (a 1) (a 2) (a 3) (a 4) (a 5) (a 6) sa d (ea d) it (S d).1 (S d).2.1 (S d).2.2.1 (S d).2.2.2.1 (S d).2.2.2.2.1 (S d).2.2.2.2.2 x1 x2 x3 x4 x5 z h) [0, 43, 46, 47] [1, 2, 3, 4, 5, 6, 7, 8, 9, 10, 11, 12, 13, 14, 15, 16, 17, 18, 19, 20, 21, 22, 23, 24, 25, 26, 27, 28, 29, 30, 31, 32, 33, 34, 35, 36, 37, 38, 39, 40, 41, 42, 44, 45] (by decide +kernel) rfl rfl rfl (Eq.trans (b := List.map some [(a 1, .inr (4, [.ref (a 7), .ref (a 8), .ref (a 9), .ref (a 10), .ref (a 11), .int I.1, .int I.2.1, .int I.2.2.1, .int I.2.2.2.1, .int I.2.2.2.2.1])), (a 7, .inl (cT, 8, .inr (.inr (.inr (.inr (fun k => some (kI k))))))), (a 8, .inl (cI, 7, .inl I.2.2.2.2.2.1)), (a 9, .inl (cI, 7, .inl I.2.2.2.2.2.2.1)), (a 10, .inl (cI, 7, .inl I.2.2.2.2.2.2.2.1)), (a 11, .inl (cI, 7, .inl I.2.2.2.2.2.2.2.2)), (kI 0, .inr (8, [])), (kI 1, .inr (1, [])), (kI 2, .inr (0, [])), (kI 3, .inr (3, [])), (kI 4, .inr (6, [])), (kI 5, .inr (9, [])), (kI 6, .inr (5, [])), (kI 7, .inr (2, [])), (a 2, .inr (4, [.ref (a 12), .ref (a 13), .ref (a 14), .ref (a 15), .ref (a 16), .int J.1, .int J.2.1, .int J.2.2.1, .int J.2.2.2.1, .int J.2.2.2.2.1])), (a 12, .inl (cT, 8, .inr (.inr (.inr (.inr (fun k => some (kJ k))))))), (a 13, .inl (cI, 7, .inl J.2.2.2.2.2.1)), (a 14, .inl (cI, 7, .inl J.2.2.2.2.2.2.1)), (a 15, .inl (cI, 7, .inl J.2.2.2.2.2.2.2.1)), (a 16, .inl (cI, 7, .inl J.2.2.2.2.2.2.2.2)), (kJ 0, .inr (8, [])), (kJ 1, .inr (1, [])), (kJ 2, .inr (0, [])), (kJ 3, .inr (3, [])), (kJ 4, .inr (6, [])), (kJ 5, .inr (9, [])), (kJ 6, .inr (5, [])), (kJ 7, .inr (2, [])), (a 3, .inr (4, [.ref (a 17), .ref (a 18), .ref (a 19), .ref (a 20), .ref (a 21), .int K.1, .int K.2.1, .int K.2.2.1, .int K.2.2.2.1, .int K.2.2.2.2.1])), (a 17, .inl (cT, 8, .inr (.inr (.inr (.inr (fun k => some (kK k))))))), (a 18, .inl (cI, 7, .inl K.2.2.2.2.2.1)), (a 19, .inl (cI, 7, .inl K.2.2.2.2.2.2.1)), (a 20, .inl (cI, 7, .inl K.2.2.2.2.2.2.2.1)), (a 21, .inl (cI, 7, .inl K.2.2.2.2.2.2.2.2)), (kK 0, .inr (8, [])), (kK 1, .inr (1, [])), (kK 2, .inr (0, [])), (kK 3, .inr (3, [])), (kK 4, .inr (6, [])), (kK 5, .inr (9, [])), (kK 6, .inr (5, [])), (kK 7, .inr (2, [])), (a 5, .inl (cI, 4, .inl g1)), (a 6, .inl (cI, 4, .inl g2))]) rfl rfl) (N := 48) rfl (by decide +kernel))
  exact g
theorem lo_copy {l : Launch} {D : va_G} {cI cT cS : ClassId} {a kI kJ kK sa ea b : Nat → Nat} {I J K : pu_I} {it : Int32} {g1 g2 : Nat → Int32} {S : Nat → pu_Sh} {x : pu_Mo} (hr : lr I J it S x) (x1 x2 x3 x4 x5 : Int32) : lo l D cI cT cS a kI kJ kK sa ea b yX11_copy yX12_copy wsX11_copy wsX12_copy ({ frames := 2, cells := 0, slots := 0, locals := 42 } : Room) ({ frames := 2, cells := 0, slots := 0, locals := 42 } : Room) Value.int [.int x1, .int x2, .int x3, .int x4, .int x5] I J K it g1 g2 S x := by
  obtain ⟨tn, th, bi, se, da, kd, fg, st, wa⟩ := I
  obtain ⟨hi, pl, ra, re, sd, tw, s, m, im, ws, nu, kp, kk, kf, so, sz, em⟩ := x
  obtain ⟨⟨n, hn, hQ⟩, hJ, hS⟩ := id hr
  have hn : tn = nI n := hn
  subst hn
  have hQ : pu_Q 999 n se kd fg (th, bi, da, st, wa) s := hQ
  have no : ∀ d e0 : Nat, d < 8 → e0 < 8 → e0 ≠ d → (f_X11_isShelf x1 = some 0 ∧ f_X12_isShelf x1 = some 0 ∨ (f_X11_isShelf x1 = some 1 ∧ f_X12_isShelf x1 = some 1 ∧ f_X11_isShelf x3 = some 0 ∧ f_X12_isShelf x3 = some 0)) → lo l D cI cT cS a kI kJ kK sa ea b yX11_copy yX12_copy wsX11_copy wsX12_copy ({ frames := 2, cells := 0, slots := 0, locals := 42 } : Room) ({ frames := 2, cells := 0, slots := 0, locals := 42 } : Room) Value.int [.int x1, .int x2, .int x3, .int x4, .int x5] (nI n, th, bi, se, da, kd, fg, st, wa) J K it g1 g2 S (hi, pl, ra, re, sd, tw, s, m, im, ws, nu, kp, kk, kf, so, sz, em) := by
    intro d e0 hd he hne hh
    obtain ⟨e1, e2⟩ := po_copy0 hh x2 x4 x5 (S d).1 (S d).2.2.2.1 (S d).2.2.2.2.1 (S e0).1 (S e0).2.2.2.1 (S e0).2.2.2.2.1 (S d).2.2.2.2.2 (S e0).2.2.2.2.2 d e0 kp so sz em
    exact ⟨-1, (nI n, th, bi, se, da, kd, fg, st, wa), J, K, it, g1, g2, hk_up S e0 (S e0), (hi, pl, ra, re, sd, tw, s, m, im, ws, nu, kp, kk, kf, so, sz, em), ⟨⟨n, rfl, hQ⟩, hJ, by rw [hk_self]; exact hS⟩, b_copy l D cI cT cS a kI kJ kK sa ea (nI n, th, bi, se, da, kd, fg, st, wa) J K it g1 g2 S d e0 hd he hne x1 x2 x3 x4 x5 _ e1, m_copy l D cI b (hi, pl, ra, re, sd, tw, s, m, im, ws, nu, kp, kk, kf, so, sz, em) x1 x2 x3 x4 x5 _ e2⟩
  rcases pu_shelf x1 with ⟨h1, h2⟩ | ⟨d, hd, rfl, h1, h2⟩
  · exact no 0 1 (by omega) (by omega) (by omega) (Or.inl ⟨h1, h2⟩)
  · rcases pu_shelf x3 with ⟨k1, k2⟩ | ⟨e0, he, rfl, k1, k2⟩
    · by_cases hd0 : d = 0
      · exact no d 1 hd (by omega) (by omega) (Or.inr ⟨h1, h2, k1, k2⟩)
      · exact no d 0 hd (by omega) (fun q => hd0 q.symm) (Or.inr ⟨h1, h2, k1, k2⟩)
    · obtain ⟨v, el2, em2, e1, e2, h3, h4⟩ := po_copy hd he (hS d hd) (hS e0 he) h1 h2 k1 k2 x2 x4 x5
      have fin : lr (nI n, th, bi, se, da, kd, fg, st, wa) J it (hk_up S e0 ((S e0).1, (S e0).2.1, (S e0).2.2.1, (S e0).2.2.2.1, (S e0).2.2.2.2.1, el2)) (hi, pl, ra, re, sd, tw, s, m, im, ws, nu, kp, kk, kf, so, sz, em2) := by
        refine ⟨⟨n, rfl, hQ⟩, hJ, fun k hk => ?_⟩
        by_cases hkd : k = e0
        · subst hkd
          rw [hk_upd]
          exact h3
        · rw [hk_upn hkd]
          exact pu_H_congr (hS k hk) rfl rfl rfl rfl rfl (h4 k hkd)
      by_cases hde : e0 = d
      · subst hde
        exact ⟨v, (nI n, th, bi, se, da, kd, fg, st, wa), J, K, it, g1, g2, _, (hi, pl, ra, re, sd, tw, s, m, im, ws, nu, kp, kk, kf, so, sz, em2), fin, b_cs l D cI cT cS a kI kJ kK sa ea (nI n, th, bi, se, da, kd, fg, st, wa) J K it g1 g2 S e0 he (nI e0) x2 (nI e0) x4 x5 _ e1, m_copy l D cI b (hi, pl, ra, re, sd, tw, s, m, im, ws, nu, kp, kk, kf, so, sz, em) (nI e0) x2 (nI e0) x4 x5 _ e2⟩
      · exact ⟨v, (nI n, th, bi, se, da, kd, fg, st, wa), J, K, it, g1, g2, _, (hi, pl, ra, re, sd, tw, s, m, im, ws, nu, kp, kk, kf, so, sz, em2), fin, b_copy l D cI cT cS a kI kJ kK sa ea (nI n, th, bi, se, da, kd, fg, st, wa) J K it g1 g2 S d e0 hd he hde (nI d) x2 (nI e0) x4 x5 _ e1, m_copy l D cI b (hi, pl, ra, re, sd, tw, s, m, im, ws, nu, kp, kk, kf, so, sz, em) (nI d) x2 (nI e0) x4 x5 _ e2⟩
theorem po_toss0 {x1 : Int32} (h1 : f_X11_isShelf x1 = some 0) (h2 : f_X12_isShelf x1 = some 0) (ho : Int32) (kS : Nat) (kp kk kf : Nat → Int32) : f_X11_refusalOfOne x1 ho kS = some (-1) ∧ f_X12_toss x1 kp kk kf = some (-1) := by
  obtain ⟨-, a1, -, a2⟩ := pu_refRow0 h1 h2 ho kS (-1) kp kp
  unfold f_X12_toss
  rw [a1, a2]
  exact ⟨rfl, rfl⟩
theorem po_toss {d : Nat} (hd : d < 8) {ho ki fi so sz : Int32} {el kp kk kf so' sz' em : Nat → Int32} (h : pu_H d ho ki fi so sz el kp kk kf so' sz' em) (h1 : f_X11_isShelf (nI d) = some 1) (h2 : f_X12_isShelf (nI d) = some 1) : ∃ (r1 v : Int32) (k : Nat), f_X11_refusalOfOne (nI d) ho d = some r1 ∧ (r1 = 0 → k < 8 ∧ ki = nI k ∧ d < 8 ∧ nI d = nI d) ∧ v = (if r1 = 0 then tossV k fi else r1) ∧ f_X12_toss (nI d) kp kk kf = some v := by
  unfold f_X12_toss
  rcases pu_refRow hd h h1 h2 with ⟨-, -, a1, -, a2⟩ | ⟨-, -, a1, -, a2, hk, hf, ⟨k, hk8, ek⟩, -⟩ | ⟨-, -, a1, -, -, a2, -⟩
  · exact ⟨-11, -11, 0, a1, fun q => absurd q (by decide), rfl, by rw [a2]; rfl⟩
  · refine ⟨0, tossV k fi, k, a1, fun _ => ⟨hk8, ek, hd, rfl⟩, rfl, ?_⟩
    rw [a2, pu_bind, if_pos rfl]
    simp only [pu_g8 hd]
    rw [nI_clamp (by omega), ← hk, ← hf, ek]
    rcases (by omega : k = 0 ∨ k = 1 ∨ k = 2 ∨ k = 3 ∨ k = 4 ∨ k = 5 ∨ k = 6 ∨ k = 7) with rfl | rfl | rfl | rfl | rfl | rfl | rfl | rfl
    · rw [if_neg (show ¬ nI 0 = (2 : Int32) by decide), if_neg (show ¬ nI 0 = (4 : Int32) by decide), if_neg (show ¬ nI 0 = (7 : Int32) by decide)]
      by_cases hz : fi = 0
      · rw [if_pos hz, show tossV 0 fi = -15 from if_pos hz]
      · rw [if_neg hz, if_neg (show ¬ nI 0 = (6 : Int32) by decide), if_neg (show ¬ nI 0 = (1 : Int32) by decide), if_neg (show ¬ nI 0 = (5 : Int32) by decide), show tossV 0 fi = fi from if_neg hz]
    · rw [if_neg (show ¬ nI 1 = (2 : Int32) by decide), if_neg (show ¬ nI 1 = (4 : Int32) by decide), if_neg (show ¬ nI 1 = (7 : Int32) by decide)]
      by_cases hz : fi = 0
      · rw [if_pos hz, show tossV 1 fi = -15 from if_pos hz]
      · rw [if_neg hz, if_neg (show ¬ nI 1 = (6 : Int32) by decide), if_pos (show nI 1 = (1 : Int32) by decide), show tossV 1 fi = 100 + fi from if_neg hz]
        rfl
    · rw [if_pos (show nI 2 = (2 : Int32) by decide)]
      rfl
    · rw [if_neg (show ¬ nI 3 = (2 : Int32) by decide), if_neg (show ¬ nI 3 = (4 : Int32) by decide), if_neg (show ¬ nI 3 = (7 : Int32) by decide)]
      by_cases hz : fi = 0
      · rw [if_pos hz, show tossV 3 fi = -15 from if_pos hz]
      · rw [if_neg hz, if_neg (show ¬ nI 3 = (6 : Int32) by decide), if_neg (show ¬ nI 3 = (1 : Int32) by decide), if_neg (show ¬ nI 3 = (5 : Int32) by decide), show tossV 3 fi = fi from if_neg hz]
    · rw [if_neg (show ¬ nI 4 = (2 : Int32) by decide), if_pos (show nI 4 = (4 : Int32) by decide)]
      rfl
    · rw [if_neg (show ¬ nI 5 = (2 : Int32) by decide), if_neg (show ¬ nI 5 = (4 : Int32) by decide), if_neg (show ¬ nI 5 = (7 : Int32) by decide)]
      by_cases hz : fi = 0
      · rw [if_pos hz, show tossV 5 fi = -15 from if_pos hz]
      · rw [if_neg hz, if_neg (show ¬ nI 5 = (6 : Int32) by decide), if_neg (show ¬ nI 5 = (1 : Int32) by decide), if_pos (show nI 5 = (5 : Int32) by decide), show tossV 5 fi = 100 + fi from if_neg hz]
        rfl
    · rw [if_neg (show ¬ nI 6 = (2 : Int32) by decide), if_neg (show ¬ nI 6 = (4 : Int32) by decide), if_neg (show ¬ nI 6 = (7 : Int32) by decide)]
      by_cases hz : fi = 0
      · rw [if_pos hz, show tossV 6 fi = -15 from if_pos hz]
      · rw [if_neg hz, if_pos (show nI 6 = (6 : Int32) by decide), show tossV 6 fi = 200 + (3 + 2 + fi) from if_neg hz, show f_X12_costBy (nI 6) fi = some (5 + fi) from rfl, pu_bind, show (3 + 2 : Int32) = 5 from rfl]
    · rw [if_neg (show ¬ nI 7 = (2 : Int32) by decide), if_neg (show ¬ nI 7 = (4 : Int32) by decide), if_pos (show nI 7 = (7 : Int32) by decide)]
      rfl
  · exact ⟨-12, -12, 0, a1, fun q => absurd q (by decide), rfl, by rw [a2]; rfl⟩
theorem po_element0 {x1 : Int32} (h1 : f_X11_isShelf x1 = some 0) (h2 : f_X12_isShelf x1 = some 0) (x2 ho sz tw : Int32) (kS : Nat) (ew kp sz' em : Nat → Int32) : xe_K x1 x2 ho sz kS ew 1 0 ∧ f_X12_element x1 x2 tw kp sz' em = some (0, 1) := by
  refine ⟨Or.inl ⟨h1, rfl⟩, ?_⟩
  unfold f_X12_element
  rw [h2]
  rfl
theorem po_element {d : Nat} (hd : d < 8) {ho ki fi so sz : Int32} {el kp kk kf so' sz' em : Nat → Int32} (h : pu_H d ho ki fi so sz el kp kk kf so' sz' em) (h1 : f_X11_isShelf (nI d) = some 1) (h2 : f_X12_isShelf (nI d) = some 1) (x2 tw : Int32) : ∃ (k : Int32) (v : Int64), xe_K (nI d) x2 ho sz d el k v ∧ f_X12_element (nI d) x2 tw kp sz' em = some (v, k) := by
  obtain ⟨eh, hc⟩ := h
  have two : ho ≠ 2 → ∃ (k : Int32) (v : Int64), xe_K (nI d) x2 ho sz d el k v ∧ f_X12_element (nI d) x2 tw kp sz' em = some (v, k) := by
    intro hne
    refine ⟨2, 0, Or.inr ⟨h1, hd, rfl, Or.inl ⟨hne, rfl⟩⟩, ?_⟩
    unfold f_X12_element
    rw [h2, pu_bind, if_neg pu_10, pu_g8 hd, nI_clamp (by omega), ← eh, if_neg hne]
    rfl
  rcases hc with hc | ⟨hc, -⟩ | ⟨hc, eso, esz, -, ⟨z, hz, ez⟩, hel⟩
  · exact two (by rw [hc]; decide)
  · exact two (by rw [hc]; decide)
  · unfold f_X12_element
    rw [h2, pu_bind, if_neg pu_10, pu_g8 hd, pu_g8 hd, nI_clamp (by omega), ← eh, if_pos hc, ← esz, ez]
    rcases pu_place hz x2 with ⟨p1, p2⟩ | ⟨i, hi, rfl, p1, p2⟩
    · refine ⟨2, 0, Or.inr ⟨h1, hd, rfl, Or.inr ⟨hc, Or.inl ⟨p1, rfl⟩⟩⟩, ?_⟩
      rw [p2]
      rfl
    · refine ⟨0, (el i).toInt64, Or.inr ⟨h1, hd, rfl, Or.inr ⟨hc, Or.inr ⟨p1, vp_in_nI (by omega) (by omega), rfl, by rw [nI_clamp (by omega)]⟩⟩⟩, ?_⟩
      rw [p2, pu_bind, if_neg pu_10]
      unfold f_X12_element_43
      rw [if_pos rfl, pu_100 hd (by omega), pu_g (show 100 * d + i < 800 by omega) (by decide), nI_clamp (by omega), (hel i (by omega)).1]
