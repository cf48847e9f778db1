/-- a switch's default: the value is none of the keys that go elsewhere -/
theorem fk_tbl {p : Program} {l : Launch} {e : Env} {R : Room} {s : State} {m : MethodId} {args : Array Value} {below : List Frame} {meth : Method} {c : Code} {H : Heap} {locs : List Loc} {cells slots : Nat} {Q : State → Prop} {cc : ByteArray} {pc : Nat} {ls : Array Slot} {rest : List Value} (hexec : p.tables.exec = Jvm.exec) (hb : c.code = cc) {dflt lo hi : Int} {offs : Array Int} {len : Nat} {x : Int32} {tgt n : Nat} {keys : List Int} (hdg : decode cc pc = .ok (.tableswitch dflt lo hi offs, len)) (hk : ∀ q ∈ keys, ¬ x.toInt = q) (hall : ∀ i, i < n → (lo + (i : Int) ∈ keys ∨ offs[i]? = some dflt)) (hn : hi < lo + (n : Int)) (ht : (pc : Int) + dflt = (tgt : Int))
    (k : W p l e R s m args below meth c H locs cells slots Q (F0 m tgt ls rest)) : W p l e R s m args below meth c H locs cells slots Q (F0 m pc ls (.int x :: rest)) := by
  by_cases h1 : x.toInt < lo
  · exact lv_tableOut hexec hb hdg (Or.inl h1) ht k
  · by_cases h2 : hi < x.toInt
    · exact lv_tableOut hexec hb hdg (Or.inr h2) ht k
    · refine lv_tableIn hexec hb hdg h1 h2 ?_ ht k
      rcases hall (x.toInt - lo).toNat (by omega) with h | h
      · exact absurd (by omega : x.toInt = lo + ((x.toInt - lo).toNat : Int)) (hk _ h)
      · exact h
