section SND
variable {p : Program} {l : Launch} {e : Env} {R : Room} {s : State} {m : MethodId} {args : Array Value} {below : List Frame} {meth : Method} {c : Code} {Q : State → Prop}
variable {i : Nat} {D : va_G} {cA : Nat → ClassId} {ad : Nat → Nat} {N0 b L : Nat} {xs : Nat → Int32} {t c0 s0 Km : Nat} {P : Nat → PR → PS → Prop}
theorem ciK_eq {n : Int} {k : Int32 → Prop} (h : ciK n k) : k (ci n) := by
  cases n with
  | ofNat n => exact h
  | negSucc n =>
    cases n with
    | zero => exact h
    | succ n => exact h
theorem Ad.at {a : Nat} (h : Ad ad N0 b) (ha : a < 17) : N0 ≤ ad a := h.2.1 a ha
set_option maxHeartbeats 4000000 in
set_option maxRecDepth 100000 in
theorem go_step {k pc nx ax : Nat} {ins : Instr} {ls : PL} {st : List Value} {S : PS} (hi : i < 67) (hi0 : i ≠ 0) (C : Cx i D cA ad N0 b LZ xZ t c0 s0 Km p l R s m args c) (hE : En D cA ad N0 c0 s0 Km i P p l e R s m args below meth c Q)
    (hlk : lkp (pg i) pc = some (ins, nx, ax)) (h : stp i LZ xZ Km P (Go D cA ad N0 b t c0 s0 Km i p l e R s m args below meth c Q) k ins nx ax ls st S) :
    Go D cA ad N0 b t c0 s0 Km i p l e R s m args below meth c Q k pc ls st S := by
  intro hk H locs Lx hP hS hB hl
  obtain ⟨hd, hnx, hA⟩ := row_ok hi hlk
  obtain ⟨hx, hb, hml, hfc, hts, hEv, hAd, hN0, htr, htab, hRf, hRl, hRc, hRs⟩ := id C
  have hD : va_D (Ar N0) (wld ad cA S) := wld_D hAd
  have hK := hEv.1
  have hbA : ¬ Ar N0 b := Nat.not_le.mpr hAd.2.2
  cases ins with
  | iconst n =>
    simp only [okA, decide_eq_true_eq] at hA
    exact lv_iconst hx hb hd hA (by have g := (ciK_eq h) hk H locs Lx hP hS hB hl; rw [hnx] at g; exact g)
  | bipush n =>
    simp only [okA, decide_eq_true_eq] at hA
    exact lv_bipush hx hb hd hA (by have g := (ciK_eq h) hk H locs Lx hP hS hB hl; rw [hnx] at g; exact g)
  | sipush n =>
    simp only [okA, decide_eq_true_eq] at hA
    exact lv_sipush hx hb hd hA (by have g := (ciK_eq h) hk H locs Lx hP hS hB hl; rw [hnx] at g; exact g)
  | ldc_w idx =>
    simp only [okA, decide_eq_true_eq] at hA
    exact lv_ldcw hx hb hfc (hts _ (in_kw hA)) hd (by have g := h hk H locs Lx hP hS hB hl; rw [hnx] at g; exact g)
  | ldc idx =>
    simp only [stp] at h
    simp only [okA, Bool.or_eq_true, decide_eq_true_eq] at hA
    exact lv_ldc hx hb hfc (hts _ (in_kw (hA.resolve_left h.1))) hd (by have g := h.2 hk H locs Lx hP hS hB hl; rw [hnx] at g; exact g)
  | iload_n j =>
    simp only [stp] at h
    split at h
    · rename_i x hj
      exact lv_iload_n hx hb hd rfl (lsr_at hl hj) (by have g := h hk H locs Lx hP hS hB hl; rw [hnx] at g; exact g)
    · exact h.elim
  | iload j =>
    simp only [stp] at h
    split at h
    · rename_i x hj
      exact lv_iload hx hb hd (lsr_at hl hj) (by have g := h hk H locs Lx hP hS hB hl; rw [hnx] at g; exact g)
    · exact h.elim
  | aload_n j =>
    simp only [stp] at h
    split at h
    · rename_i x hj
      exact lv_aload_n hx hb hd rfl (lsr_at hl hj) (by have g := h hk H locs Lx hP hS hB hl; rw [hnx] at g; exact g)
    · rename_i x hj
      cases x with
      | zero => exact lv_aload_n hx hb hd rfl (lsr_at hl hj) (by have g := h hk H locs Lx hP hS hB hl; rw [hnx] at g; exact g)
      | succ x => exact lv_aload_n hx hb hd rfl (lsr_at hl hj) (by have g := h hk H locs Lx hP hS hB hl; rw [hnx] at g; exact g)
    · exact h.elim
  | aload j =>
    simp only [stp] at h
    split at h
    · rename_i x hj
      exact lv_aload hx hb hd (lsr_at hl hj) (by have g := h hk H locs Lx hP hS hB hl; rw [hnx] at g; exact g)
    · rename_i x hj
      cases x with
      | zero => exact lv_aload hx hb hd (lsr_at hl hj) (by have g := h hk H locs Lx hP hS hB hl; rw [hnx] at g; exact g)
      | succ x => exact lv_aload hx hb hd (lsr_at hl hj) (by have g := h hk H locs Lx hP hS hB hl; rw [hnx] at g; exact g)
    · exact h.elim
  | istore_n j =>
    simp only [okA, decide_eq_true_eq] at hA
    simp only [stp] at h
    split at h
    · rename_i x r
      have g0 := delL_eq h
      refine lv_istore_n hx hb hd rfl hl hA rfl (fun Lx' hh => ?_)
      rw [lsr_del] at hh
      have g := g0 hk H locs Lx' hP hS hB hh
      rw [hnx] at g
      exact g
    · exact h.elim
  | istore j =>
    simp only [okA, decide_eq_true_eq] at hA
    simp only [stp] at h
    split at h
    · rename_i x r
      have g0 := delL_eq h
      refine lv_istore hx hb hd hl hA rfl (fun Lx' hh => ?_)
      rw [lsr_del] at hh
      have g := g0 hk H locs Lx' hP hS hB hh
      rw [hnx] at g
      exact g
    · exact h.elim
  | iinc j n =>
    simp only [okA, Bool.and_eq_true, decide_eq_true_eq] at hA
    simp only [stp] at h
    split at h
    · rename_i x hj
      have g0 := delL_eq (ciK_eq h)
      obtain ⟨kk, hkk⟩ := lsr_ix hl hj
      refine lv_iinc (v := x + ci n) hx hb hd hl hkk (by rw [hA.1]) hA.2 rfl (fun Lx' hh => ?_)
      rw [lsr_del] at hh
      have g := g0 hk H locs Lx' hP hS hB hh
      rw [hnx] at g
      exact g
    · exact h.elim
  | iadd =>
    simp only [stp] at h
    split at h
    · exact lv_iadd hx hb hd (by have g := h hk H locs Lx hP hS hB hl; rw [hnx] at g; exact g)
    · exact h.elim
  | isub =>
    simp only [stp] at h
    split at h
    · exact lv_isub hx hb hd (by have g := h hk H locs Lx hP hS hB hl; rw [hnx] at g; exact g)
    · exact h.elim
  | imul =>
    simp only [stp] at h
    split at h
    · exact lv_imul hx hb hd (by have g := h hk H locs Lx hP hS hB hl; rw [hnx] at g; exact g)
    · exact h.elim
  | iand =>
    simp only [stp] at h
    split at h
    · exact lv_iand hx hb hd (by have g := h hk H locs Lx hP hS hB hl; rw [hnx] at g; exact g)
    · exact h.elim
  | ior =>
    simp only [stp] at h
    split at h
    · exact lv_ior hx hb hd (by have g := h hk H locs Lx hP hS hB hl; rw [hnx] at g; exact g)
    · exact h.elim
  | ixor =>
    simp only [stp] at h
    split at h
    · exact lv_ixor hx hb hd (by have g := h hk H locs Lx hP hS hB hl; rw [hnx] at g; exact g)
    · exact h.elim
  | idiv =>
    simp only [stp] at h
    split at h
    · exact lv_idiv hx hb hd h.1 (by have g := h.2 hk H locs Lx hP hS hB hl; rw [hnx] at g; exact g)
    · exact h.elim
  | irem =>
    simp only [stp] at h
    split at h
    · exact lv_irem hx hb hd h.1 (by have g := h.2 hk H locs Lx hP hS hB hl; rw [hnx] at g; exact g)
    · exact h.elim
  | ishl =>
    simp only [stp] at h
    split at h
    · exact lv_ishl hx hb hd (by have g := h hk H locs Lx hP hS hB hl; rw [hnx] at g; exact g)
    · exact h.elim
  | ishr =>
    simp only [stp] at h
    split at h
    · exact lv_ishr hx hb hd (by have g := h hk H locs Lx hP hS hB hl; rw [hnx] at g; exact g)
    · exact h.elim
  | iushr =>
    simp only [stp] at h
    split at h
    · exact lv_iushr hx hb hd rfl (by have g := h hk H locs Lx hP hS hB hl; rw [hnx] at g; exact g)
    · exact h.elim
  | dup =>
    simp only [stp] at h
    split at h
    · rename_i v r
      split at h
      · rename_i hv
        have hv1 : v.category = 1 := Nat.eq_of_beq_eq_true hv
        exact lv_dup hx hb hd (by rw [rv_cat]; exact hv1) (by have g := h hk H locs Lx hP hS hB hl; rw [hnx] at g; exact g)
      · exact h.elim
    · exact h.elim
  | goto off =>
    simp only [okA, decide_eq_true_eq] at hA
    exact lv_goto hx hb hd hA (h hk H locs Lx hP hS hB hl)
  | ifCond cnd off =>
    simp only [okA, decide_eq_true_eq] at hA
    simp only [stp] at h
    split at h
    · exact go_jmp0 (k := k) (nx := nx) (ls := ls) (S := S) hx hb hA hd (fun g => g hk H locs Lx hP hS hB hl) (fun g => by have g := g hk H locs Lx hP hS hB hl; rw [hnx] at g; exact g) h
    · exact h.elim
  | if_icmp cnd off =>
    simp only [okA, decide_eq_true_eq] at hA
    simp only [stp] at h
    split at h
    · exact go_jmp (k := k) (nx := nx) (ls := ls) (S := S) hx hb hA hd (fun g => g hk H locs Lx hP hS hB hl) (fun g => by have g := g hk H locs Lx hP hS hB hl; rw [hnx] at g; exact g) h
    · exact h.elim
  | getfield idx =>
    simp only [okA, decide_eq_true_eq] at hA
    have hlt := List.all_eq_true.mp fl_lt _ hA
    simp only [Bool.and_eq_true, decide_eq_true_eq] at hlt
    obtain ⟨ho, hk17⟩ := hlt
    have hf := fOk_all hk17
    simp only [fOk, Bool.and_eq_true, decide_eq_true_eq] at hf
    have hfc2 : s.vm.findClass RX0 = some m.cls := by rw [ho] at hfc; exact hfc
    have hfl : Cond.fieldLink RX0 idx RX0 (TX0 ax).2.1 (TX0 ax).2.2.1 ∈ TT := by
      rw [ho] at hA
      exact in_fl hA
    simp only [stp] at h
    split at h
    · rename_i a r
      split at h
      · rename_i j ha hj
        have ha1 : a = 0 := Nat.eq_of_beq_eq_true ha
        subst ha1
        have hv := objv_at (ad := ad) (F := S.1 0) hk17
        have hj2 : shX.getD ax none = some j := hj
        rw [hj2] at hv
        refine va_get (T := TX0) (C := RX0) (N := 17) (ref := RX0) hx hb hts in_lay hfc2 hK hP 0 ((wld_at (by decide)).trans (by rw [ent_obj])) cl_at ax hk17 (hts _ hfl) (fun y hy => by rw [hf.1] at hy; exact hy) hv hd ?_
        have g := h hk H locs Lx hP hS hB hl
        rw [hnx] at g
        exact g
      · rename_i ha hj
        have ha1 : a = 0 := Nat.eq_of_beq_eq_true ha
        subst ha1
        have hv := objv_at (ad := ad) (F := S.1 0) hk17
        have hj2 : shX.getD ax none = none := hj
        rw [hj2] at hv
        refine va_get (T := TX0) (C := RX0) (N := 17) (ref := RX0) hx hb hts in_lay hfc2 hK hP 0 ((wld_at (by decide)).trans (by rw [ent_obj])) cl_at ax hk17 (hts _ hfl) (fun y hy => by rw [hf.1] at hy; exact hy) hv hd ?_
        have g := h hk H locs Lx hP hS hB hl
        rw [hnx] at g
        exact g
      · exact h.elim
    · exact h.elim
  | getstatic idx =>
    simp only [okA, Bool.and_eq_true, decide_eq_true_eq] at hA
    have ho : s.vm.findClass RX0 = some m.cls := by rw [hA.2] at hfc; exact hfc
    have h0 := hA.1
    subst h0
    exact va_gets hx hb hEv.2.1 hS ho (hts _ in_f0) (fun y hy => hy) hd (by have g := h hk H locs Lx hP hS hB hl; rw [hnx] at g; exact g)
  | iaload =>
    simp only [stp] at h
    split at h
    · rename_i j a r
      split at h
      · rename_i n ha
        exact va_iald hx hb hK hP a 0 ((wld_at (ari_lt ha)).trans (by rw [ent_arr ha])) rfl h.1 hd (by have g := h.2 hk H locs Lx hP hS hB hl; rw [hnx] at g; exact g)
      · exact h.elim
    · exact va_sld hx hb hEv.2.2.2.2.2.1 hEv.2.2.2.2.2.2.1 hbA hS h.1 hd (by have g := h.2 hk H locs Lx hP hS hB hl; rw [hnx] at g; exact g)
    · exact va_ti hx hb hEv.2.2.1 hS h.1 rfl hd (by have g := h.2 hk H locs Lx hP hS hB hl; rw [hnx] at g; exact g)
    · exact h.elim
  | arraylength =>
    simp only [stp] at h
    split at h
    · rename_i a r
      split at h
      · rename_i t0 n ha
        have h0 : t0 = 0 := by
          have key : ∀ x : Nat, x < 17 → (match ari.getD x none with | some (y, _) => decide (y = 0) | none => true) = true := by decide
          have k1 := key a (ari_lt ha)
          rw [ha] at k1
          simpa using k1
        subst h0
        exact va_alen hx hb hK hP a 0 ((wld_at (ari_lt ha)).trans (by rw [ent_arr ha])) rfl rfl hd (by have g := h hk H locs Lx hP hS hB hl; rw [hnx] at g; exact g)
      · exact h.elim
    · exact va_slen hx hb hEv.2.2.2.2.2.1 hEv.2.2.2.2.2.2.1 hbA hS hd (by have g := h hk H locs Lx hP hS hB hl; rw [hnx] at g; exact g)
    · exact va_tlen hx hb hEv.2.2.1 hS rfl hd (by have g := h hk H locs Lx hP hS hB hl; rw [hnx] at g; exact g)
    · exact h.elim
  | invokevirtual idx =>
    simp only [okA, Bool.and_eq_true, Bool.or_eq_true, decide_eq_true_eq, room2] at hA
    obtain ⟨⟨⟨⟨⟨hml2, hst⟩, hmh⟩, hrm⟩, hall⟩, hown⟩ := hA
    have hmt := mt_ok hall
    simp only [mtOk, hst, Bool.and_eq_true, decide_eq_true_eq] at hmt
    obtain ⟨⟨⟨⟨⟨⟨hpl, ho4⟩, hcls⟩, hn1⟩, hn2⟩, hdesc⟩, hmI⟩ := hmt
    obtain ⟨as, rest, hlen, hst2, h3⟩ := popn_eq h
    simp only [List.append_nil] at h3
    split at h3
    · rename_i a As hcb
      obtain ⟨ha, k', r, S', hrun, hkk, hcall⟩ := h3
      have ho2 : mO ax = 0 := by
        have key : mtI.all (fun j => decide (mO j = 0)) = true := by decide +kernel
        exact of_decide_eq_true (List.all_eq_true.mp key ax hmI)
      subst ha
      have hown9 : mH i = [] ∨ (mO i = 2 ∧ pc < wt i) := by
        rcases hown with z | z
        · exact Or.inl z
        · by_cases hz : mH i = []
          · exact Or.inl hz
          · refine Or.inr ⟨?_, z⟩
            have key : (List.range 67).all (fun j => decide (mH j = []) || decide (mO j = 2)) = true := by decide +kernel
            have k1 := List.all_eq_true.mp key i (List.mem_range.mpr hi)
            simp only [Bool.or_eq_true, decide_eq_true_eq] at k1
            exact k1.resolve_left hz
      refine go_back (ins := .invokevirtual idx) (idx := idx) (mc := 0) (ax := ax) (k' := k') (r := r) (S' := S') (nx := nx) (ls := ls) (rest := rest) (a := #[]) hi C hE (hnx.trans rfl) hown9 hkk hS hB hl ?_ hcall
      have hG : GoodIn TT (wsV (oN (mO i)) idx (mY ax).cls (mY ax) (wsM ax)) := by
        refine good_TT fun w hw => ?_
        unfold wsV at hw
        rcases List.mem_append.mp hw with hw | hw
        · simp only [List.mem_cons, List.not_mem_nil, or_false] at hw
          rcases hw with rfl | rfl | rfl | rfl
          · exact in_ml hml2
          · exact in_ins hmI
          · exact in_sel hmI
          · exact in_ini hall
        · exact wsM_in hall w hw
      have hcw := cwV (R := R) (s := s) (args := args) (ws := wsM ax) (ws' := TT) (rm := rm ax k') (mc := k') (ms := 6 * k') (bytes := mB ax) (maxL := mL ax) (ret := mR ax) (mN ax) hts hG (by unfold wsM; rw [wC_nil hmh]) rfl rfl ⟨rfl, hn1, hn2, hdesc⟩ (by
        refine ⟨?_, ?_⟩
        · show mF ax + 1 ≤ R.frames
          rw [hRf]; exact hrm.1
        · show 8 + (mL ax + 11) + mLo ax ≤ R.locals
          rw [hRl]; exact hrm.2)
      have hstk : (st.map (rv ad b t)) = (As.map (rv ad b t)).reverse ++ .ref (ad (plO (mO ax))) :: rest.map (rv ad b t) := by
        rw [hst2, List.map_append, ← List.map_reverse]
        simp [rv]
      refine vx_runV (g := F0 m pc Lx (st.map (rv ad b t))) (As := As.map (rv ad b t)) (rest := rest.map (rv ad b t)) (H := H) (locs := locs) (cells := c0 + k) (slots := s0 + 6 * k) (meth := meth) ⟨hx, hb, hml, hfc, hts⟩ (hrun l D cA ad N0 b t htr hAd) hcw ⟨?_, ?_, ?_⟩ rfl ?_ hl.1 hstk (lv_room ?_) hd ⟨by omega, by omega⟩
      · intro a0 U g mk hq
        exact ⟨hq.1, hq.2.1, hq.2.2.1, hq.2.2.2.go hAd.2.2 (State.WarmedH.refl U) (Nat.le_refl _) (fun _ _ _ => rfl)⟩
      · have hr2 := va_recv hK hP cl_at ((wld_at (a := 0) (by decide)).trans (by rw [ent_obj]))
        rw [hcls, ho2]
        exact hr2
      · intro U hU hW
        refine ⟨?_, by rw [hU]; exact hP, by rw [hU]; exact Nat.le_trans hN0 hS.1, by rw [hU]; exact hEv.go hAd.2.2 hW hS.1 hS.2.1⟩
        simp [rv]
      · rw [List.length_map]
        have := hlen
        simp at this
        exact this
      · have : ((rest.map (rv ad b t)).map fun v => v.category).sum = catS rest := by
          unfold catS
          rw [List.map_map]
          congr 1
          apply List.map_congr_left
          intro v _
          exact rv_cat ad b t v
        rw [this]
        exact Nat.le_of_ble_eq_true hcb
    · exact h3.elim
  | invokestatic idx =>
    simp only [okA, Bool.and_eq_true, Bool.or_eq_true, decide_eq_true_eq, room2] at hA
    obtain ⟨⟨⟨⟨hml2, hst⟩, hrm⟩, hall⟩, hown⟩ := hA
    have hmt := mt_ok hall
    simp only [mtOk, hst, Bool.and_eq_true, decide_eq_true_eq] at hmt
    obtain ⟨⟨⟨⟨⟨⟨hpl, ho4⟩, hcls⟩, hn1⟩, hn2⟩, hdesc⟩, hmS⟩ := hmt
    obtain ⟨as, rest, hlen, hst2, h3⟩ := popn_eq h
    simp only [List.append_nil] at h3
    split at h3
    · rename_i hcb
      obtain ⟨k', r, S', hrun, hkk, hcall⟩ := h3
      refine go_back (ins := .invokestatic idx) (idx := idx) (mc := 0) (ax := ax) (k' := k') (r := r) (S' := S') (nx := nx) (ls := ls) (rest := rest) (a := #[]) hi C hE (hnx.trans rfl) (Or.inl hown) hkk hS hB hl ?_ hcall
      have hG : GoodIn TT (va_wsS (oN (mO i)) idx (mY ax) (wsM ax)) := by
        refine good_TT fun w hw => ?_
        unfold va_wsS at hw
        rcases List.mem_append.mp hw with hw | hw
        · simp only [List.mem_cons, List.not_mem_nil, or_false] at hw
          rcases hw with rfl | rfl | rfl
          · exact in_ml hml2
          · exact in_sta hmS
          · exact in_ini hall
        · exact wsM_in hall w hw
      have hR9 : (rm ax k').frames + 1 ≤ R.frames ∧ 8 + (mL ax + 11) + (rm ax k').locals ≤ R.locals := by
        refine ⟨?_, ?_⟩
        · show mF ax + 1 ≤ R.frames
          rw [hRf]; exact hrm.1
        · show 8 + (mL ax + 11) + mLo ax ≤ R.locals
          rw [hRl]; exact hrm.2
      have hstk : (st.map (rv ad b t)) = (as.map (rv ad b t)).reverse ++ rest.map (rv ad b t) := by
        rw [hst2, List.map_append, ← List.map_reverse]
      have hpS : PreS s H (fun a U => a = (as.map (rv ad b t)).toArray ∧ va_P D vwCl (wld ad cA S) U.heap ∧ N0 ≤ U.heap.size ∧ Ev D cA N0 b LZ xZ t U U.heap) (as.map (rv ad b t)) := by
        refine ⟨?_, ?_⟩
        · intro a0 U g mk hq
          exact ⟨hq.1, hq.2.1, hq.2.2.1, hq.2.2.2.go hAd.2.2 (State.WarmedH.refl U) (Nat.le_refl _) (fun _ _ _ => rfl)⟩
        · intro U hU hW
          exact ⟨rfl, by rw [hU]; exact hP, by rw [hU]; exact Nat.le_trans hN0 hS.1, by rw [hU]; exact hEv.go hAd.2.2 hW hS.1 hS.2.1⟩
      have hcat : ((rest.map (rv ad b t)).map fun v => v.category).sum ≤ 8 := by
        have : ((rest.map (rv ad b t)).map fun v => v.category).sum = catS rest := by
          unfold catS
          rw [List.map_map]
          congr 1
          apply List.map_congr_left
          intro v _
          exact rv_cat ad b t v
        rw [this]
        exact Nat.le_of_ble_eq_true hcb
      have hlen2 : (as.map (rv ad b t)).length = mN ax := by rw [List.length_map]; exact hlen
      by_cases hmh : mH ax = []
      · exact vx_runS (g := F0 m pc Lx (st.map (rv ad b t))) (As := as.map (rv ad b t)) (rest := rest.map (rv ad b t)) (H := H) (locs := locs) (cells := c0 + k) (slots := s0 + 6 * k) (meth := meth) ⟨hx, hb, hml, hfc, hts⟩ (hrun l D cA ad N0 b t htr hAd) (va_cwS (R := R) (s := s) (args := args) (ws := wsM ax) (ws' := TT) (rm := rm ax k') (mc := k') (ms := 6 * k') (bytes := mB ax) (maxL := mL ax) (ret := mR ax) (mN ax) hts hG (by unfold wsM; rw [wC_nil hmh]) rfl rfl ⟨hn1, hn2, hdesc⟩ hR9) hpS rfl hlen2 hl.1 hstk (lv_room hcat) hd ⟨by omega, by omega⟩
      · exact vx_runSX (hh := mH ax) (g := F0 m pc Lx (st.map (rv ad b t))) (As := as.map (rv ad b t)) (rest := rest.map (rv ad b t)) (H := H) (locs := locs) (cells := c0 + k) (slots := s0 + 6 * k) (meth := meth) ⟨hx, hb, hml, hfc, hts⟩ (hrun l D cA ad N0 b t htr hAd) (vx_cwSW (R := R) (s := s) (args := args) (ws := wsM ax) (ws' := TT) (rm := rm ax k') (mc := k') (ms := 6 * k') (bytes := mB ax) (maxL := mL ax) (ret := mR ax) (mN ax) hts hG (by unfold wsM; rw [wC_cons hmh]) rfl rfl ⟨hn1, hn2, hdesc⟩ hR9) hpS rfl hlen2 hl.1 hstk (lv_room hcat) hd ⟨by omega, by omega⟩
    · exact h3.elim
  | new ik =>
    simp only [stp] at h
    obtain ⟨ho, hcs, hk1, hPP⟩ := h
    simp only [okA, ho, Bool.or_eq_true, Bool.and_eq_true, decide_eq_true_eq, Bool.not_eq_true', decide_eq_false_iff_not, not_true, false_or, decide_true, Bool.not_true, Bool.false_eq_true] at hA
    obtain ⟨⟨⟨hN, hf6⟩, hl9⟩, hmh⟩ := hA
    have hcs2 : catS (st.map (rv ad b t)) ≤ 8 := by
      have : catS (st.map (rv ad b t)) = catS st := by
        unfold catS
        rw [List.map_map]
        congr 1
        apply List.map_congr_left
        intro v _
        exact rv_cat ad b t v
      rw [this]
      exact Nat.le_of_ble_eq_true hcs
    exact hE.2.2.1 k ax S pc ik H locs Lx _ hPP hk1 ho hcs2 hl.1 hd hN hf6 hl9 hmh hP hS hB
  | ireturn =>
    simp only [stp] at h
    split at h
    · exact hE.1 k _ S pc H locs Lx h.2 hk h.1 hd hP hS hB
    · exact h.elim
  | return_ =>
    simp only [stp] at h
    split at h
    · exact hE.2.1 k S pc H locs Lx h.2 hk h.1 hd hP hS hB
    · exact h.elim
  | _ => exact False.elim h
end SND
