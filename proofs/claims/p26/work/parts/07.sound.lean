theorem rv_cat (ad : Nat → Nat) (b t : Nat) (v : Value) : (rv ad b t v).category = v.category := by
  cases v with
  | retAddr n => cases n <;> rfl
  | _ => rfl
theorem lkL_mem : ∀ {ls : PL} {j : Nat} {v : Value}, lkL ls j = some v → (j, v) ∈ ls
  | q :: l, j, v, h => by
    unfold lkL at h
    cases hb : Nat.beq q.1 j with
    | true =>
      rw [hb] at h
      have e1 : q.1 = j := Nat.eq_of_beq_eq_true hb
      have e2 : q.2 = v := Option.some.inj h
      rw [← e1, ← e2]
      exact List.mem_cons_self
    | false =>
      rw [hb] at h
      exact List.mem_cons_of_mem _ (lkL_mem h)
theorem delL_eq : ∀ {ls : PL} {j : Nat} {k : PL → Prop}, delL ls j k → k (ls.filter (kpb j))
  | [], _, _, h => h
  | q :: l, j, k, h => by
    unfold delL at h
    cases hb : kpb j q with
    | true =>
      rw [hb] at h
      have h2 := delL_eq h
      rw [List.filter_cons, hb]
      exact h2
    | false =>
      rw [hb] at h
      have h2 := delL_eq h
      rw [List.filter_cons, hb]
      exact h2
theorem popn_eq : ∀ {n : Nat} {acc st : List Value} {k : List Value → List Value → Prop}, popn n acc st k → ∃ as rest, as.length = n ∧ st = as.reverse ++ rest ∧ k (as ++ acc) rest
  | 0, acc, st, k, h => ⟨[], st, rfl, rfl, h⟩
  | n + 1, acc, [], k, h => False.elim h
  | n + 1, acc, v :: st, k, h => by
    obtain ⟨as, rest, h1, h2, h3⟩ := popn_eq (n := n) (acc := v :: acc) (st := st) (k := k) h
    refine ⟨as ++ [v], rest, by simp [h1], by simp [h2], ?_⟩
    rw [List.append_assoc]
    exact h3
section LSX
variable {ad : Nat → Nat} {b t : Nat}
abbrev lsr (ad : Nat → Nat) (b t : Nat) (ls : PL) : List (Nat × Value) := ls.map (fun q => (q.1, rv ad b t q.2))
theorem lsr_at {Lx : Array Slot} {nL : Nat} {ls : PL} {j : Nat} {v : Value} (hl : lv_has Lx nL (lsr ad b t ls)) (h : lkL ls j = some v) : Lx[j]? = some (.val (rv ad b t v)) :=
  hl.2.2 (j, rv ad b t v) (List.mem_map.mpr ⟨(j, v), lkL_mem h, rfl⟩)
theorem lsr_ix {nL : Nat} {Lx : Array Slot} {ls : PL} {j : Nat} {v : Value} (_ : lv_has Lx nL (lsr ad b t ls)) (h : lkL ls j = some v) : ∃ k : Nat, (lsr ad b t ls)[k]? = some (j, rv ad b t v) :=
  List.getElem?_of_mem (List.mem_map.mpr ⟨(j, v), lkL_mem h, rfl⟩)
theorem lsr_del (ls : PL) (j : Nat) : (lsr ad b t ls).filter (fun q => !(q.1 == j) && !(q.1 + 1 == j && q.2.category == 2)) = lsr ad b t (ls.filter (kpb j)) := by
  unfold lsr
  rw [List.filter_map]
  congr 1
  apply List.filter_congr
  intro q _
  simp only [Function.comp, kpb, rv_cat]
theorem lsr_sub {Lx : Array Slot} {nL : Nat} {ls ls' : PL} (hl : lv_has Lx nL (lsr ad b t ls)) (h : ∀ q ∈ ls', q ∈ ls) : lv_has Lx nL (lsr ad b t ls') := by
  refine ⟨hl.1, hl.2.1, fun q hq => ?_⟩
  obtain ⟨q0, h0, rfl⟩ := List.mem_map.mp hq
  exact hl.2.2 _ (List.mem_map.mpr ⟨q0, h q0 h0, rfl⟩)
end LSX
section WLD
variable {ad : Nat → Nat} {cA : Nat → ClassId} {S S' : PS}
theorem wld_at {a : Nat} (h : a < 17) : (wld ad cA S)[a]? = some (ad a, ent ad cA S a) := by
  unfold wld
  rw [List.getElem?_map, List.getElem?_range h]
  rfl
theorem wld_lt {k : Nat} {q : Nat × va_E} (h : (wld ad cA S)[k]? = some q) : k < 17 ∧ q = (ad k, ent ad cA S k) := by
  have hk : k < 17 := by
    have := (List.getElem?_eq_some_iff.mp h).1
    simpa [wld] using this
  rw [wld_at hk] at h
  exact ⟨hk, (Option.some.inj h).symm⟩
theorem wld_D {N0 b : Nat} (h : Ad ad N0 b) : va_D (Ar N0) (wld ad cA S) := by
  refine ⟨fun i j p q hi hj e => ?_, fun k q hk => ?_⟩
  · obtain ⟨h1, rfl⟩ := wld_lt hi
    obtain ⟨h2, rfl⟩ := wld_lt hj
    exact h.1 i j h1 h2 e
  · obtain ⟨h1, rfl⟩ := wld_lt hk
    exact h.2.1 k h1
theorem wld_set {a : Nat} {e : va_E} (h : a < 17) (h1 : ∀ j : Nat, j < 17 → j ≠ a → ent ad cA S' j = ent ad cA S j) (h2 : ent ad cA S' a = e) : (wld ad cA S).set a (ad a, e) = wld ad cA S' := by
  apply List.ext_getElem?
  intro k
  by_cases hk : k < 17
  · by_cases hka : k = a
    · subst hka
      rw [List.getElem?_set_self (by simp [wld]; exact hk), wld_at hk, h2]
    · rw [List.getElem?_set_ne (fun z => hka z.symm), wld_at hk, wld_at hk, h1 k hk hka]
  · rw [List.getElem?_eq_none (by simp [wld]; omega), List.getElem?_eq_none (by simp [wld]; omega)]
theorem ari_lt {a : Nat} {x : Nat × Nat} (h : ari.getD a none = some x) : a < 17 := by
  rcases Nat.lt_or_ge a 17 with h1 | h1
  · exact h1
  · rw [List.getD_eq_getElem?_getD, List.getElem?_eq_none (by simpa [ari] using h1)] at h
    cases h
theorem ent_arr {a t n : Nat} (h : ari.getD a none = some (t, n)) : ent ad cA S a = .inl (cA t, n, .inl (S.2.1 a)) := by
  unfold ent
  rw [h]
theorem ent_obj : ent ad cA S 0 = .inr (0, objv ad (S.1 0) shX) := rfl
theorem objv_at {F : Nat → Int32} {k : Nat} (hk : k < 17) : (objv ad F shX)[k]? = some (match shX.getD k none with
  | some j => Value.ref (ad j)
  | none => .int (F k)) := by
  have hl : k < shX.length := hk
  unfold objv
  rw [List.getElem?_mapIdx, List.getD_eq_getElem?_getD, List.getElem?_eq_getElem hl]
  rfl
end WLD
