/-! statements -/
def pu_db (c : Nat) : Nat := if c = 98 then 2 else if c = 100 then 2 else if c = 102 then 3 else if c = 108 then 4 else if c = 115 then 1 else if c = 116 then 4 else if c = 119 then 2 else 0
theorem pu_db_le (c : Nat) : pu_db c ≤ 4 := by
  unfold pu_db
  repeat' split
  all_goals omega
theorem pu_fn_s {ch : Nat → Nat} : ∀ {a p q : Nat} (b : Nat), pu_fn ch a p = some q → pu_fn ch (a + b) p = some q
  | 0, p, q, b, h => by cases h
  | a + 1, p, q, b, h => by
    rw [show a + 1 + b = (a + b) + 1 by omega]
    unfold pu_fn at h ⊢
    by_cases hd : 48 ≤ ch p ∧ ch p ≤ 57
    · rw [if_pos hd] at h ⊢; exact pu_fn_s b h
    · rw [if_neg hd] at h ⊢; exact h
theorem pu_fn_n {ch : Nat → Nat} : ∀ {a p : Nat} (b : Nat), pu_fn ch a p = none → pu_fn ch (a + b) p = pu_fn ch b (p + a)
  | 0, p, b, _ => by rw [Nat.zero_add, Nat.add_zero]
  | a + 1, p, b, h => by
    rw [show a + 1 + b = (a + b) + 1 by omega, show p + (a + 1) = p + 1 + a by omega]
    unfold pu_fn at h
    by_cases hd : 48 ≤ ch p ∧ ch p ≤ 57
    · rw [if_pos hd] at h
      rw [← pu_fn_n b h]
      show (if _ then _ else _) = _
      rw [if_pos hd]
    · rw [if_neg hd] at h; cases h
theorem pu_fn_all {ch : Nat → Nat} : ∀ {a p : Nat}, pu_fn ch a p = none → ∀ q, p ≤ q → q < p + a → 48 ≤ ch q ∧ ch q ≤ 57
  | 0, p, _, q, h1, h2 => by omega
  | a + 1, p, h, q, h1, h2 => by
    unfold pu_fn at h
    by_cases hd : 48 ≤ ch p ∧ ch p ≤ 57
    · rw [if_pos hd] at h
      by_cases hq : q = p
      · rw [hq]; exact hd
      · exact pu_fn_all h q (by omega) (by omega)
    · rw [if_neg hd] at h; cases h
theorem pu_fn_lt {ch : Nat → Nat} : ∀ {a p q : Nat}, pu_fn ch a p = some q → p ≤ q ∧ q < p + a
  | 0, p, q, h => by cases h
  | a + 1, p, q, h => by
    unfold pu_fn at h
    by_cases hd : 48 ≤ ch p ∧ ch p ≤ 57
    · rw [if_pos hd] at h
      have := pu_fn_lt h
      omega
    · rw [if_neg hd] at h
      have := Option.some.inj h
      omega
theorem pu_vl1 (ch : Nat → Nat) (p : Nat) : pu_vl ch 1 p 0 = ch p - 48 := by
  show 10 * 0 + (ch p - 48) = _
  omega
theorem pu_vl2 (ch : Nat → Nat) (p : Nat) : pu_vl ch 2 p 0 = 10 * (ch p - 48) + (ch (p + 1) - 48) := by
  show 10 * (10 * 0 + (ch p - 48)) + (ch (p + 1) - 48) = _
  omega
def pu_nf (ch : Nat → Nat) (i : Nat) (nu : Nat → Int32) : Prop :=
  (ch i = 98 ∨ ch i = 100 → nu 0 = nI (pu_vl ch 2 (i + 1) 0)) ∧ (ch i = 102 → nu 0 = nI (pu_vl ch 1 (i + 1) 0) ∧ nu 1 = nI (pu_vl ch 2 (i + 2) 0)) ∧ (ch i = 108 ∨ ch i = 116 → nu 0 = nI (pu_vl ch 1 (i + 1) 0) ∧ nu 1 = nI (pu_vl ch 1 (i + 2) 0) ∧ nu 2 = nI (pu_vl ch 2 (i + 3) 0)) ∧ (ch i = 115 → nu 0 = nI (pu_vl ch 1 (i + 1) 0)) ∧ (ch i = 119 → nu 0 = nI (pu_vl ch 1 (i + 1) 0) ∧ nu 1 = nI (pu_vl ch 1 (i + 2) 0))
def pu_sg (ch : Nat → Nat) (i : Nat) : Prop := 0 < pu_db (ch i) ∧ pu_fn ch (pu_db (ch i)) (i + 1) = none ∧ ch (i + pu_db (ch i) + 1) = 59
theorem pu_242 {d z : Nat} {sz : Int32} {el em : Nat → Int32} {ch : Nat → Nat} (hX : pu_X d z sz el em ch) {p : Nat} (hp : p ≤ 200) (nu : Nat → Int32) : f_X12_readsStatement_242 1 (nI p) (nI (100 * d)) sz nu em = if ch p = 59 then some (1, nI (p + 1), nu) else some (0, nI p, nu) := by
  obtain ⟨C, C', -, e2, hK, -⟩ := pu_XK hX hp
  unfold f_X12_readsStatement_242
  rw [if_neg pu_10, e2, pu_bind, nI_1]
  by_cases hc : ch p = 59
  · rw [if_pos hc, if_pos (show C' = 59 from ((hK 59 (by omega) (by omega)).2).mpr hc)]
  · rw [if_neg hc, if_neg (show ¬ C' = 59 from fun q => hc (((hK 59 (by omega) (by omega)).2).mp q))]
theorem pu_rs {d z : Nat} {sz : Int32} {el em : Nat → Int32} {ch : Nat → Nat} (hX : pu_X d z sz el em ch) {i : Nat} (hi : i ≤ 100) (nu : Nat → Int32) : ∃ nu', (pu_db (ch i) = 0 ∧ f_X12_readsStatement (nI i) (nI (100 * d)) sz nu em = some (0, nI i, nu')) ∨ (0 < pu_db (ch i) ∧ ∃ q, pu_fn ch (pu_db (ch i)) (i + 1) = some q ∧ f_X12_readsStatement (nI i) (nI (100 * d)) sz nu em = some (0, nI q, nu')) ∨ (0 < pu_db (ch i) ∧ pu_fn ch (pu_db (ch i)) (i + 1) = none ∧ pu_nf ch i nu' ∧ f_X12_readsStatement (nI i) (nI (100 * d)) sz nu em = if ch (i + pu_db (ch i) + 1) = 59 then some (1, nI (i + pu_db (ch i) + 2), nu') else some (0, nI (i + pu_db (ch i) + 1), nu')) := by
  obtain ⟨C, C', -, e2, hK, -⟩ := pu_XK hX (i := i) (by omega)
  unfold f_X12_readsStatement
  rw [e2, pu_bind, nI_1]
  by_cases h98 : ch i = 98
  · have hc : C' = 98 := ((hK 98 (by omega) (by omega)).2).mpr h98
    subst hc
    rw [if_pos rfl, h98, show pu_db 98 = 2 from rfl]
    obtain ⟨n1, a1, a2⟩ := pu_rn hX (k := 0) (D := 2) (p := i + 1) (by omega) (by omega) (by omega) nu
    rcases a2 with ⟨q, f1, r1⟩ | ⟨f1, r1, v1⟩
    · refine ⟨n1, Or.inr (Or.inl ⟨by omega, q, f1, ?_⟩)⟩
      rw [show f_X12_readsNumber (0 : Int32) (2 : Int32) (nI (i + 1)) (nI (100 * d)) sz nu em = _ from r1]
      rfl
    · refine ⟨n1, Or.inr (Or.inr ⟨by omega, f1, ⟨fun _ => v1, fun q => ?_, fun q => ?_, fun q => ?_, fun q => ?_⟩, ?_⟩)⟩
      · omega
      · omega
      · omega
      · omega
      · rw [show f_X12_readsNumber (0 : Int32) (2 : Int32) (nI (i + 1)) (nI (100 * d)) sz nu em = _ from r1, pu_bind, show i + 1 + 2 = i + 2 + 1 by omega]
        exact pu_242 hX (by omega) n1
  · rw [if_neg (show ¬ C' = 98 from fun q => h98 (((hK 98 (by omega) (by omega)).2).mp q))]
    by_cases h100 : ch i = 100
    · have hc : C' = 100 := ((hK 100 (by omega) (by omega)).2).mpr h100
      subst hc
      rw [if_pos rfl, h100, show pu_db 100 = 2 from rfl]
      obtain ⟨n1, a1, a2⟩ := pu_rn hX (k := 0) (D := 2) (p := i + 1) (by omega) (by omega) (by omega) nu
      rcases a2 with ⟨q, f1, r1⟩ | ⟨f1, r1, v1⟩
      · refine ⟨n1, Or.inr (Or.inl ⟨by omega, q, f1, ?_⟩)⟩
        rw [show f_X12_readsNumber (0 : Int32) (2 : Int32) (nI (i + 1)) (nI (100 * d)) sz nu em = _ from r1]
        rfl
      · refine ⟨n1, Or.inr (Or.inr ⟨by omega, f1, ⟨fun _ => v1, fun q => ?_, fun q => ?_, fun q => ?_, fun q => ?_⟩, ?_⟩)⟩
        · omega
        · omega
        · omega
        · omega
        · rw [show f_X12_readsNumber (0 : Int32) (2 : Int32) (nI (i + 1)) (nI (100 * d)) sz nu em = _ from r1, pu_bind, show i + 1 + 2 = i + 2 + 1 by omega]
          exact pu_242 hX (by omega) n1
    · rw [if_neg (show ¬ C' = 100 from fun q => h100 (((hK 100 (by omega) (by omega)).2).mp q))]
      by_cases h102 : ch i = 102
      · have hc : C' = 102 := ((hK 102 (by omega) (by omega)).2).mpr h102
        subst hc
        rw [if_pos rfl, h102, show pu_db 102 = 1 + 2 from rfl]
        obtain ⟨n1, a1, a2⟩ := pu_rn hX (k := 0) (D := 1) (p := i + 1) (by omega) (by omega) (by omega) nu
        rcases a2 with ⟨q, f1, r1⟩ | ⟨f1, r1, v1⟩
        · refine ⟨n1, Or.inr (Or.inl ⟨by omega, q, pu_fn_s 2 f1, ?_⟩)⟩
          rw [show f_X12_readsNumber (0 : Int32) (1 : Int32) (nI (i + 1)) (nI (100 * d)) sz nu em = _ from r1]
          rfl
        · rw [show f_X12_readsNumber (0 : Int32) (1 : Int32) (nI (i + 1)) (nI (100 * d)) sz nu em = _ from r1, pu_bind, if_neg pu_10, pu_fn_n 2 f1, show i + 1 + 1 = i + 2 by omega]
          obtain ⟨n2, b1, b2⟩ := pu_rn hX (k := 1) (D := 2) (p := i + 2) (by omega) (by omega) (by omega) n1
          rcases b2 with ⟨q, f2, r2⟩ | ⟨f2, r2, v2⟩
          · refine ⟨n2, Or.inr (Or.inl ⟨by omega, q, f2, ?_⟩)⟩
            rw [show f_X12_readsNumber (1 : Int32) (2 : Int32) (nI (i + 2)) (nI (100 * d)) sz n1 em = _ from r2]
            rfl
          · refine ⟨n2, Or.inr (Or.inr ⟨by omega, f2, ⟨fun q => ?_, fun _ => ⟨(b1 0 (by omega)).trans v1, v2⟩, fun q => ?_, fun q => ?_, fun q => ?_⟩, ?_⟩)⟩
            · omega
            · omega
            · omega
            · omega
            · rw [show f_X12_readsNumber (1 : Int32) (2 : Int32) (nI (i + 2)) (nI (100 * d)) sz n1 em = _ from r2, pu_bind, if_neg pu_10, show i + 2 + 2 = i + (1 + 2) + 1 by omega]
              exact pu_242 hX (by omega) n2
      · rw [if_neg (show ¬ C' = 102 from fun q => h102 (((hK 102 (by omega) (by omega)).2).mp q))]
        by_cases h108 : ch i = 108
        · have hc : C' = 108 := ((hK 108 (by omega) (by omega)).2).mpr h108
          subst hc
          rw [if_pos rfl, h108, show pu_db 108 = 1 + (1 + 2) from rfl]
          obtain ⟨n1, a1, a2⟩ := pu_rn hX (k := 0) (D := 1) (p := i + 1) (by omega) (by omega) (by omega) nu
          rcases a2 with ⟨q, f1, r1⟩ | ⟨f1, r1, v1⟩
          · refine ⟨n1, Or.inr (Or.inl ⟨by omega, q, pu_fn_s (1 + 2) f1, ?_⟩)⟩
            rw [show f_X12_readsNumber (0 : Int32) (1 : Int32) (nI (i + 1)) (nI (100 * d)) sz nu em = _ from r1]
            rfl
          · rw [show f_X12_readsNumber (0 : Int32) (1 : Int32) (nI (i + 1)) (nI (100 * d)) sz nu em = _ from r1, pu_bind, if_neg pu_10, pu_fn_n (1 + 2) f1, show i + 1 + 1 = i + 2 by omega]
            obtain ⟨n2, b1, b2⟩ := pu_rn hX (k := 1) (D := 1) (p := i + 2) (by omega) (by omega) (by omega) n1
            rcases b2 with ⟨q, f2, r2⟩ | ⟨f2, r2, v2⟩
            · refine ⟨n2, Or.inr (Or.inl ⟨by omega, q, pu_fn_s 2 f2, ?_⟩)⟩
              rw [show f_X12_readsNumber (1 : Int32) (1 : Int32) (nI (i + 2)) (nI (100 * d)) sz n1 em = _ from r2]
              rfl
            · rw [show f_X12_readsNumber (1 : Int32) (1 : Int32) (nI (i + 2)) (nI (100 * d)) sz n1 em = _ from r2, pu_bind, if_neg pu_10, pu_fn_n 2 f2, show i + 2 + 1 = i + 3 by omega]
              obtain ⟨n3, c1, c2⟩ := pu_rn hX (k := 2) (D := 2) (p := i + 3) (by omega) (by omega) (by omega) n2
              rcases c2 with ⟨q, f3, r3⟩ | ⟨f3, r3, v3⟩
              · refine ⟨n3, Or.inr (Or.inl ⟨by omega, q, f3, ?_⟩)⟩
                rw [show f_X12_readsNumber (2 : Int32) (2 : Int32) (nI (i + 3)) (nI (100 * d)) sz n2 em = _ from r3]
                rfl
              · refine ⟨n3, Or.inr (Or.inr ⟨by omega, f3, ⟨fun q => ?_, fun q => ?_, fun _ => ⟨((c1 0 (by omega)).trans (b1 0 (by omega))).trans v1, (c1 1 (by omega)).trans v2, v3⟩, fun q => ?_, fun q => ?_⟩, ?_⟩)⟩
                · omega
                · omega
                · omega
                · omega
                · rw [show f_X12_readsNumber (2 : Int32) (2 : Int32) (nI (i + 3)) (nI (100 * d)) sz n2 em = _ from r3, pu_bind, if_neg pu_10, show i + 3 + 2 = i + (1 + (1 + 2)) + 1 by omega]
                  exact pu_242 hX (by omega) n3
        · rw [if_neg (show ¬ C' = 108 from fun q => h108 (((hK 108 (by omega) (by omega)).2).mp q))]
          by_cases h115 : ch i = 115
          · have hc : C' = 115 := ((hK 115 (by omega) (by omega)).2).mpr h115
            subst hc
            rw [if_pos rfl, h115, show pu_db 115 = 1 from rfl]
            obtain ⟨n1, a1, a2⟩ := pu_rn hX (k := 0) (D := 1) (p := i + 1) (by omega) (by omega) (by omega) nu
            rcases a2 with ⟨q, f1, r1⟩ | ⟨f1, r1, v1⟩
            · refine ⟨n1, Or.inr (Or.inl ⟨by omega, q, f1, ?_⟩)⟩
              rw [show f_X12_readsNumber (0 : Int32) (1 : Int32) (nI (i + 1)) (nI (100 * d)) sz nu em = _ from r1]
              rfl
            · refine ⟨n1, Or.inr (Or.inr ⟨by omega, f1, ⟨fun q => ?_, fun q => ?_, fun q => ?_, fun _ => v1, fun q => ?_⟩, ?_⟩)⟩
              · omega
              · omega
              · omega
              · omega
              · rw [show f_X12_readsNumber (0 : Int32) (1 : Int32) (nI (i + 1)) (nI (100 * d)) sz nu em = _ from r1, pu_bind]
                exact pu_242 hX (by omega) n1
          · rw [if_neg (show ¬ C' = 115 from fun q => h115 (((hK 115 (by omega) (by omega)).2).mp q))]
            by_cases h116 : ch i = 116
            · have hc : C' = 116 := ((hK 116 (by omega) (by omega)).2).mpr h116
              subst hc
              rw [if_pos rfl, h116, show pu_db 116 = 1 + (1 + 2) from rfl]
              obtain ⟨n1, a1, a2⟩ := pu_rn hX (k := 0) (D := 1) (p := i + 1) (by omega) (by omega) (by omega) nu
              rcases a2 with ⟨q, f1, r1⟩ | ⟨f1, r1, v1⟩
              · refine ⟨n1, Or.inr (Or.inl ⟨by omega, q, pu_fn_s (1 + 2) f1, ?_⟩)⟩
                rw [show f_X12_readsNumber (0 : Int32) (1 : Int32) (nI (i + 1)) (nI (100 * d)) sz nu em = _ from r1]
                rfl
              · rw [show f_X12_readsNumber (0 : Int32) (1 : Int32) (nI (i + 1)) (nI (100 * d)) sz nu em = _ from r1, pu_bind, if_neg pu_10, pu_fn_n (1 + 2) f1, show i + 1 + 1 = i + 2 by omega]
                obtain ⟨n2, b1, b2⟩ := pu_rn hX (k := 1) (D := 1) (p := i + 2) (by omega) (by omega) (by omega) n1
                rcases b2 with ⟨q, f2, r2⟩ | ⟨f2, r2, v2⟩
                · refine ⟨n2, Or.inr (Or.inl ⟨by omega, q, pu_fn_s 2 f2, ?_⟩)⟩
                  rw [show f_X12_readsNumber (1 : Int32) (1 : Int32) (nI (i + 2)) (nI (100 * d)) sz n1 em = _ from r2]
                  rfl
                · rw [show f_X12_readsNumber (1 : Int32) (1 : Int32) (nI (i + 2)) (nI (100 * d)) sz n1 em = _ from r2, pu_bind, if_neg pu_10, pu_fn_n 2 f2, show i + 2 + 1 = i + 3 by omega]
                  obtain ⟨n3, c1, c2⟩ := pu_rn hX (k := 2) (D := 2) (p := i + 3) (by omega) (by omega) (by omega) n2
                  rcases c2 with ⟨q, f3, r3⟩ | ⟨f3, r3, v3⟩
                  · refine ⟨n3, Or.inr (Or.inl ⟨by omega, q, f3, ?_⟩)⟩
                    rw [show f_X12_readsNumber (2 : Int32) (2 : Int32) (nI (i + 3)) (nI (100 * d)) sz n2 em = _ from r3]
                    rfl
                  · refine ⟨n3, Or.inr (Or.inr ⟨by omega, f3, ⟨fun q => ?_, fun q => ?_, fun _ => ⟨((c1 0 (by omega)).trans (b1 0 (by omega))).trans v1, (c1 1 (by omega)).trans v2, v3⟩, fun q => ?_, fun q => ?_⟩, ?_⟩)⟩
                    · omega
                    · omega
                    · omega
                    · omega
                    · rw [show f_X12_readsNumber (2 : Int32) (2 : Int32) (nI (i + 3)) (nI (100 * d)) sz n2 em = _ from r3, pu_bind, if_neg pu_10, show i + 3 + 2 = i + (1 + (1 + 2)) + 1 by omega]
                      exact pu_242 hX (by omega) n3
            · rw [if_neg (show ¬ C' = 116 from fun q => h116 (((hK 116 (by omega) (by omega)).2).mp q))]
              by_cases h119 : ch i = 119
              · have hc : C' = 119 := ((hK 119 (by omega) (by omega)).2).mpr h119
                subst hc
                rw [if_pos rfl, h119, show pu_db 119 = 1 + 1 from rfl]
                obtain ⟨n1, a1, a2⟩ := pu_rn hX (k := 0) (D := 1) (p := i + 1) (by omega) (by omega) (by omega) nu
                rcases a2 with ⟨q, f1, r1⟩ | ⟨f1, r1, v1⟩
                · refine ⟨n1, Or.inr (Or.inl ⟨by omega, q, pu_fn_s 1 f1, ?_⟩)⟩
                  rw [show f_X12_readsNumber (0 : Int32) (1 : Int32) (nI (i + 1)) (nI (100 * d)) sz nu em = _ from r1]
                  rfl
                · rw [show f_X12_readsNumber (0 : Int32) (1 : Int32) (nI (i + 1)) (nI (100 * d)) sz nu em = _ from r1, pu_bind, if_neg pu_10, pu_fn_n 1 f1, show i + 1 + 1 = i + 2 by omega]
                  obtain ⟨n2, b1, b2⟩ := pu_rn hX (k := 1) (D := 1) (p := i + 2) (by omega) (by omega) (by omega) n1
                  rcases b2 with ⟨q, f2, r2⟩ | ⟨f2, r2, v2⟩
                  · refine ⟨n2, Or.inr (Or.inl ⟨by omega, q, f2, ?_⟩)⟩
                    rw [show f_X12_readsNumber (1 : Int32) (1 : Int32) (nI (i + 2)) (nI (100 * d)) sz n1 em = _ from r2]
                    rfl
                  · refine ⟨n2, Or.inr (Or.inr ⟨by omega, f2, ⟨fun q => ?_, fun q => ?_, fun q => ?_, fun q => ?_, fun _ => ⟨(b1 0 (by omega)).trans v1, v2⟩⟩, ?_⟩)⟩
                    · omega
                    · omega
                    · omega
                    · omega
                    · rw [show f_X12_readsNumber (1 : Int32) (1 : Int32) (nI (i + 2)) (nI (100 * d)) sz n1 em = _ from r2, pu_bind, if_neg pu_10, show i + 2 + 1 = i + (1 + 1) + 1 by omega]
                      exact pu_242 hX (by omega) n2
              · rw [if_neg (show ¬ C' = 119 from fun q => h119 (((hK 119 (by omega) (by omega)).2).mp q))]
                refine ⟨nu, Or.inl ⟨?_, ?_⟩⟩
                · unfold pu_db
                  rw [if_neg h98, if_neg h100, if_neg h102, if_neg h108, if_neg h115, if_neg h116, if_neg h119]
                · rw [show nI (i + 1) - (1 : Int32) = nI i from pk_sub (b := 1) (by omega)]
