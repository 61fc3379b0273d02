def big_P (b : Addr) (args : Array Value) (s : State) : Prop := args = #[.ref b] ∧ s.IntsAt b (List.replicate 256 0) ∧ (Jvm.Cond.and given_1 narrow_1).before args s = true
def big_Q (_ : Array Value) (s : State) (_ : Outcome) (t : State) : Prop := s.heap.size + 160 ≤ t.heap.size
set_option maxHeartbeats 4000000 in
theorem big_walk (l : Launch) (hflags : l.flags = flags0) (b : Addr) : MetFree l x (headSpec (Jvm.Cond.code x code maxLocals ret :: tables_1) R9) (big_P b) (fun _ _ _ _ _ => True) big_Q := by
  refine MetFree.of_bodyS (code := code) (maxLocals := maxLocals) (ret := ret) (by decide) ?_ ?_
  · intro args s m h hn
    obtain ⟨meth, c, h1, h2, h3, h4, h5, h6, -, -⟩ := Cond.code_spec hn (atoms_spec (ws := Jvm.Cond.code x code maxLocals ret :: tables_1) h _ List.mem_cons_self)
    exact ⟨meth, c, h1, h2, h3, h4, h5, h6⟩
  · intro p e s m args below meth c s₁ B hml0 hP _
    obtain ⟨rfl, hx, hgv⟩ := hP
    obtain ⟨scr, harrAt, hlist, hof, hsmall⟩ := hx
    obtain ⟨hcb, hkn, -, -⟩ := State.arrayAt?_spec harrAt
    have hown : s.vm.findClass R_law = some m.cls := findClass_of_methodNamed B.named
    have hts0 : ∀ c ∈ (Jvm.Cond.code x code maxLocals ret :: tables_1), c.before #[Value.ref b] s = true := atoms_spec (ws := Jvm.Cond.code x code maxLocals ret :: tables_1) B.pre
    have hts : ∀ w ∈ lw_tbl, w.before #[Value.ref b] s = true := k2_hts_sels lw_privs (fun w hw => hts0 w (List.mem_cons_of_mem _ hw)) lw_privs_ok
    have hml : c.maxLocals = 10 := B.maxLocals_eq (hts0 _ List.mem_cons_self)
    have X₀ : Stand p l e R9 s m #[Value.ref b] below meth c s₁ [] 0 0 := Stand.of_body B
    have hh0 : s₁.heap = s.heap := by rw [B.state]; rfl
    have hsz : scr.slots.size = 256 := by rw [← Array.length_toList, hlist, List.length_map, List.length_replicate]
    have hval : ∀ j : Nat, j < 256 → scr.slots[j]? = some (.int (xZ j)) := fun j hj => by
      rw [← Array.getElem?_toList, hlist, List.map_replicate, List.getElem?_replicate, if_pos hj]
      rfl
    have hbl : b < s.heap.size := (Array.getElem?_eq_some_iff.mp hcb).1
    have htab : c.exceptionTable.toList = [] := by
      obtain ⟨meth9, c9, h1, h2, -, -, -, -, h7, -⟩ := Cond.code_spec B.named (hts0 _ List.mem_cons_self)
      cases Option.some.inj (h1.symm.trans B.method)
      cases Option.some.inj (h2.symm.trans (Stand.of_body B).code)
      rw [Array.isEmpty_iff.mp h7]
    have hX : va_X b LZ xZ s s.heap := ⟨scr, hcb, hof, hkn, hsz, hval⟩
    have K : W p l e R9 s m #[Value.ref b] below meth c s₁.heap [] 0 0 (big_Z below s) (entryFrame m ([Value.ref b] : List Value).toArray 10) := by
      rw [hh0]
      exact big_start l hflags ⟨B.exec, B.bytes, B.returns, hml, hown, hts, hX, hbl, B.notSynchronized, hgv, htab⟩
    obtain ⟨t, a1, o, b1, b2, b3⟩ := K s₁ rfl X₀
    exact ⟨t, o, a1, b1, b2, b3⟩
def zz : Array Value := Array.replicate 256 (.int 0)
def zS : State := start1.aboutOf zz
set_option maxRecDepth 100000 in
theorem z_tab : tables_1.all (fun c => c.onTables || c.before start1.args0 zS) = true := by decide +kernel
theorem z_words : ∀ c ∈ (Cond.code x code maxLocals ret :: tables_1), c.before start1.args0 zS = true := by
  have hvm : start1.about.vm = zS.vm := rfl
  intro c hc
  by_cases ht : c.onTables = true
  · exact va_tabs ht hvm (start1.words c hc)
  · rcases List.mem_cons.mp hc with h | h
    · rw [h] at ht
      exact absurd rfl ht
    · have h9 := List.all_eq_true.mp z_tab c h
      simp only [Bool.or_eq_true] at h9
      exact h9.resolve_left ht
set_option maxRecDepth 100000 in
theorem z_pre : (Cond.and given_1 narrow_1).before start1.args0 zS = true := by decide +kernel
set_option maxRecDepth 100000 in
theorem z_rest : rest_1_c.before start1.args0 zS = true := by decide +kernel
set_option maxRecDepth 100000 in
theorem z_fits : argsFit zS.vm ⟨0, 0⟩ start1.args0 = true ∧ heapFits zS = true := ⟨by decide +kernel, by decide +kernel⟩
set_option maxRecDepth 100000 in
theorem z_app (r : Room) (hr : zS.hasRoom start1.e0.platform r = true) : (headSpec (Cond.code x code maxLocals ret :: tables_1) r).applies x start1.e0.platform zS = true :=
  (Spec.applies_iff (m := ⟨0, 0⟩) (args := start1.args0) (below := Lib.HandBits.below0) rfl).mpr ⟨rfl, rfl, rfl, by decide +kernel, by decide +kernel, by decide +kernel, hr, atoms_intro z_words⟩
theorem z_room1 : zS.hasRoom start1.e0.platform room_1 = true := launch0.hasRoom_least _ room_1 (by decide +kernel) (by decide +kernel) (by decide +kernel) (by decide +kernel) (by decide +kernel) (by decide +kernel)
theorem z_room9 : zS.hasRoom start1.e0.platform R9 = true := launch0.hasRoom_least _ R9 (by decide +kernel) (by decide +kernel) (by decide +kernel) (by decide +kernel) (by decide +kernel) (by decide +kernel)
theorem z_ints : zS.IntsAt 0 (List.replicate 256 0) := by
  have hs := flat_of_before _ z_pre
  have hq := flat_of_before _ z_rest
  have harr : (Cond.arrayOf (.arg 0) .int).before start1.args0 zS = true := hs _ (by decide +kernel)
  have hlen : (Cond.isInt (.length (.arg 0))).before start1.args0 zS = true := hq _ (by decide +kernel)
  have hall : (Cond.all (.arg 0) (.isInt (.elem (.arg 0) (.index 0)))).before start1.args0 zS = true := hq _ (by decide +kernel)
  obtain ⟨b, xs, hb, hx⟩ := State.ints_of_pre rfl harr hlen hall
  have hb0 : b = 0 := by
    have h9 : some (Value.ref 0) = some (Value.ref b) := hb
    cases h9
    rfl
  subst hb0
  obtain ⟨cell, h1, h2, h3, h4⟩ := hx
  have h9 : zS.arrayAt? 0 = some { cls := 12, slots := zz, vm := .none } := rfl
  have hc : cell = { cls := 12, slots := zz, vm := .none } := Option.some.inj (h1.symm.trans h9)
  subst hc
  have hl : zz.toList = (List.replicate 256 (0 : Int32)).map Value.int := by
    unfold zz
    rw [Array.toList_replicate, List.map_replicate]
  have hn : (List.replicate 256 (0 : Int32)).length < 2 ^ 31 := by
    rw [List.length_replicate]
    exact Nat.lt_of_sub_pos (by decide)
  exact ⟨_, h1, hl, h3, hn⟩
theorem p26_false : ¬ Claimed_1_1 := by
  intro h
  obtain ⟨n, o, hw, hrun, hend, hpost⟩ := h launch0 rfl lists_1 trivial start1.p0 start1.e0 (launch0.admits_env _ _ _) fairChoices_fair.cas fairChoices_fair.clock zS ⟨0, 0⟩ start1.args0 Lib.HandBits.below0 rfl z_fits.1 z_fits.2 (z_app room_1 z_room1) ⟨trivial, z_rest, z_pre⟩
  obtain ⟨k, o2, hw2, hrun2, hend2, hQ⟩ := big_walk launch0 rfl 0 start1.p0 start1.e0 (launch0.admits_env _ _ _) fairChoices_fair.cas fairChoices_fair.clock zS ⟨0, 0⟩ start1.args0 Lib.HandBits.below0 rfl ((Spec.applies_iff_loose rfl).mp (z_app R9 z_room9)).1 ⟨rfl, z_ints, z_pre⟩ trivial
  have hnk : n = k := by
    rcases Nat.lt_trichotomy n k with h9 | h9 | h9
    · exact absurd (hw2 n h9) hend.not_within
    · exact h9
    · exact absurd (hw k h9) hend2.not_within
  subst hnk
  obtain ⟨-, -, -, hsame⟩ := hpost
  have h1 := hsame.2.2.1
  have h2 : zS.heap.size + 160 ≤ (stepsAlone start1.p0.tables start1.e0 n zS).heap.size := hQ
  have h3 : (stepsAlone start1.p0.tables start1.e0 n zS).heap.size ≤ zS.heap.size + 159 := h1
  omega
theorem p26_refuted : ¬ (Claimed_1_1 ∧ Claimed_1_2) := fun h => p26_false h.1
