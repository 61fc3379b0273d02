theorem args_map (ad : Nat → Nat) (b t : Nat) : ∀ (j : Nat) (vs : List Value), lv_args j (vs.map (rv ad b t)) = lsr ad b t (lv_args j vs)
  | _, [] => rfl
  | j, v :: vs => by
    have ih := args_map ad b t (if v.category = 2 then j + 2 else j + 1) vs
    simp only [List.map_cons, lv_args, rv_cat] at ih ⊢
    rw [ih]
theorem sl_len : ∀ (vs : List Value), (lg_sl vs).length = (vs.map fun v => v.category).sum
  | [] => rfl
  | v :: vs => by
    have ih := sl_len vs
    unfold lg_sl at ih ⊢
    rw [List.flatMap_cons, List.length_append, List.map_cons, List.sum_cons, ih]
    rcases lv_cat v with h | h <;> simp [h]
theorem sl_at {q : Nat × Nat × Nat × Nat × String} (h : q ∈ SLs) : q.2.2.2.1 < 3 ∧ (∀ w ∈ slA (q.2.2.1, q.2.2.2.1), goodWord w = true → w ∈ TT) ∧ (slA (q.2.2.1, q.2.2.2.1)).all (fun w => goodWord w || decide (w ∈ (Cond.castable (exN q.2.2.2.1) (exN q.2.2.2.1) :: bwN.map Cond.declares))) = true ∧ (Cond.classLink RX0 q.1 (exN q.2.2.2.1) :: Cond.initialized (exN q.2.2.2.1) :: slA (q.2.2.1, q.2.2.2.1)).all vx_ot = true ∧ Cond.classLink RX0 q.1 (exN q.2.2.2.1) ∈ TT ∧ Cond.initialized (exN q.2.2.2.1) ∈ TT := by
  have hg : ∀ {ic e : Nat} {ps : List Nat}, ((slA (ic, e)).filter goodWord).map some = ps.map (fun j => lw_tbl[j]?) → ∀ w ∈ slA (ic, e), goodWord w = true → w ∈ TT := fun hp w hw hgw => inTT (tbl_of hp (List.mem_filter.mpr ⟨hw, hgw⟩)) hgw
  have hxc : ∀ {q : Nat × Nat}, q ∈ ([(86, 2), (150, 1), (155, 0)] : List (Nat × Nat)) → xcW q ∈ TT := fun {q} hq => by
    have hq2 : q ∈ ([(86, 2), (150, 1), (155, 0)] : List (Nat × Nat)) := hq
    exact inTT (at_tbl p_xc hq2) (List.all_eq_true.mp g_all2 _ (List.mem_append_left _ (List.mem_map.mpr ⟨q, hq2, rfl⟩)))
  have hxi : ∀ {e : Nat}, e < 3 → xiW e ∈ TT := fun {e} he => by
    have hq2 : e ∈ ([0, 1, 2] : List Nat) := by
      rcases (show e = 0 ∨ e = 1 ∨ e = 2 by omega) with rfl | rfl | rfl <;> decide
    exact inTT (at_tbl p_xi hq2) (List.all_eq_true.mp g_all2 _ (List.mem_append_right _ (List.mem_append_left _ (List.mem_map.mpr ⟨e, hq2, rfl⟩))))
  have key : SLs.all (fun q => (decide (q.2.2.1 = 90) && decide (q.2.2.2.1 = 2) && decide (q.1 = 86)) || (decide (q.2.2.1 = 154) && decide (q.2.2.2.1 = 1) && decide (q.1 = 150)) || (decide (q.2.2.1 = 159) && decide (q.2.2.2.1 = 0) && decide (q.1 = 155))) = true := by decide +kernel
  have k1 := List.all_eq_true.mp key q h
  simp only [Bool.or_eq_true, Bool.and_eq_true, decide_eq_true_eq] at k1
  obtain ⟨a1, a2, a3, a4, a5⟩ := q
  simp only at k1 ⊢
  rcases k1 with (⟨⟨rfl, rfl⟩, rfl⟩ | ⟨⟨rfl, rfl⟩, rfl⟩) | ⟨⟨rfl, rfl⟩, rfl⟩
  · exact ⟨by decide, hg p_at90, b_at90, v_at90, hxc (q := (86, 2)) (by decide), hxi (e := 2) (by decide)⟩
  · exact ⟨by decide, hg p_at154, b_at154, v_at154, hxc (q := (150, 1)) (by decide), hxi (e := 1) (by decide)⟩
  · exact ⟨by decide, hg p_at159, b_at159, v_at159, hxc (q := (155, 0)) (by decide), hxi (e := 0) (by decide)⟩
section RUN
variable {p : Program} {l : Launch} {e : Env} {s : State} {m : MethodId} {args : Array Value} {below : List Frame} {meth : Method} {c : Code}
variable {i : Nat} {D : va_G} {cA : Nat → ClassId} {ad : Nat → Nat} {N0 b L : Nat} {xs : Nat → Int32} {t K : Nat}
theorem wld_kept {S : PS} {H H1 : Heap} (h : va_P D vwCl (wld ad cA S) H) (hq : ∀ q : Nat, q < H.size → H1[q]? = H[q]?) : va_P D vwCl (wld ad cA S) H1 := va_P.kept h (fun k q hk => hq q.1 (h k q hk).lt)
set_option maxHeartbeats 4000000 in
set_option maxRecDepth 100000 in
theorem en_run {r : PR} {S' : PS} (C : Cx i D cA ad N0 b LZ xZ t 0 0 K p l (rm i K) s m args c) (hrt : meth.sig.returnType = mR i) (hlk : meth.locks = false) :
    En D cA ad N0 0 0 K i (fun k r' S'' => r' = r ∧ (S'' = S' ∧ k = K)) p l e (rm i K) s m args below meth c
      (vx_MQ below (fun _ st o u => (∃ v : Option Int32, r = .inl v ∧ o = .returned (v.map Value.int)) ∧ va_P D vwCl (wld ad cA S') u.heap ∧ st.heap.size + K ≤ u.heap.size ∧ va_F (Ar N0) st u)
        (fun E st u => (∃ e : Nat, r = .inr e ∧ e < 3 ∧ E = exN e) ∧ va_P D vwCl (wld ad cA S') u.heap ∧ st.heap.size + K ≤ u.heap.size ∧ va_F (Ar N0) st u) args s K (6 * K) (Ar N0)) := by
  obtain ⟨hx, hb, hml, hfc, hts, hEv, hAd, hN0, htr, htab, -, -, -, -⟩ := C
  refine ⟨?_, ?_, ?_, ?_⟩
  · intro k v S pc H locs Lx hPP hk hn hd hP hS hB
    obtain ⟨rfl, rfl, hkK⟩ := hPP
    cases hty : mR i with
    | none => rw [hty] at hn; exact hn.elim
    | some ty =>
      rw [hty] at hn
      refine W.widen (k := K) (n := 6 * K) (by omega) (by omega) (vx_ret (W.zret (ty := ty) hx hb (hrt.trans hty) hn ?_ hS.2.2 hd hlk))
      intro u hu _
      exact ⟨⟨some v, rfl, rfl⟩, by rw [hu]; exact hP, by rw [hu]; omega, va_S.F hS hu⟩
  · intro k S pc H locs Lx hPP hk hn hd hP hS hB
    obtain ⟨rfl, rfl, hkK⟩ := hPP
    refine W.widen (k := K) (n := 6 * K) (by omega) (by omega) (vx_ret (W.vret hx hb (hrt.trans hn) ?_ hS.2.2 hd hlk))
    intro u hu _
    exact ⟨⟨none, rfl, rfl⟩, by rw [hu]; exact hP, by rw [hu]; omega, va_S.F hS hu⟩
  · intro k ex S pc ik H locs Lx rest hPP hk ho hcs hsz hd hN hf6 hl9 hmh hP hS hB
    obtain ⟨rfl, rfl, hkK⟩ := hPP
    unfold okN at hN
    split at hN
    · rename_i is n1 ic n2 h4 h6
      simp only [Bool.and_eq_true, decide_eq_true_eq, List.any_eq_true] at hN
      obtain ⟨⟨⟨⟨hn1, hn2⟩, hd3⟩, hd9⟩, q, hq, ⟨⟨hq1, hq2⟩, hq3⟩, hq4⟩ := hN
      subst hn1
      subst hn2
      obtain ⟨a1, a2, a3, a4, tx⟩ := q
      simp only at hq1 hq2 hq3 hq4
      subst hq1
      subst hq2
      subst hq3
      subst hq4
      obtain ⟨he3, hg1, hg2, hg3, hcl1, hcl2⟩ := sl_at hq
      simp only at he3 hg1 hg2 hg3 hcl1 hcl2
      obtain ⟨sa, hsa⟩ := hEv.2.2.2.2.2.2.2.1 _ hq
      have hat : ∀ w ∈ vx_atS RX0 a3 (exN a4) exU, w.before args s = true := by
        intro w hw
        by_cases hgw : goodWord w = true
        · exact hts _ (hg1 w hw hgw)
        · have h1 := List.all_eq_true.mp hg2 w hw
          simp only [Bool.or_eq_true, decide_eq_true_eq] at h1
          rcases List.mem_cons.mp (h1.resolve_left hgw) with rfl | h2
          · exact va_Nw.use rfl (hEv.2.2.2.2.2.2.2.2.2.1 a4 he3)
          · obtain ⟨x, hx1, rfl⟩ := List.mem_map.mp h2
            exact va_Nw.use rfl (hEv.2.2.2.2.2.2.2.2.1 x hx1)
      have ho2 : s.vm.findClass RX0 = some m.cls := by rw [ho] at hfc; exact hfc
      have hfit : Bundle.fit (exN a4) = true := by
        rcases (show a4 = 0 ∨ a4 = 1 ∨ a4 = 2 by omega) with rfl | rfl | rfl <;> decide +kernel
      have hnms : ∀ n ∈ exU, Bundle.fit n = true := by
        have : exU.all Bundle.fit = true := by decide +kernel
        exact fun n hn => List.all_eq_true.mp this n hn
      refine vx_throwS (cls := exN a4) (names := exU) (ik := a1) (is := a2) (ic := a3) (text := tx) (sa := sa) (A := Ar N0) hx hb htr ho2 hfit hnms (hts _ hcl1) (hts _ hcl2) hsa hat (fun w hw => List.all_eq_true.mp hg3 w hw) hEv.2.2.2.1 hEv.2.2.2.2.1 hS (by rw [hsz, hml]) hd hd3 h4 h6 hd9 ?_ ?_ ?_ ?_ ?_ hlk ?_ hS.2.2 ?_ ?_
      · intro x hx9
        rw [htab, hmh] at hx9
        cases hx9
      · show 2 + 3 < mF i
        omega
      · show (rest.map fun v => v.category).sum + (13 * (2 + 1) + 43) ≤ mLo i
        have : catS rest ≤ 8 := hcs
        unfold catS at this
        omega
      · show 0 + k + 1 ≤ K
        omega
      · show 0 + 6 * k + 6 ≤ 6 * K
        omega
      · intro u _ hz hq9
        refine ⟨⟨a4, rfl, he3, rfl⟩, wld_kept hP hq9, by omega, Nat.le_trans hS.1 (by omega), fun q9 h1 h2 => ?_⟩
        rw [hq9 q9 (Nat.lt_of_lt_of_le h1 hS.1)]
        exact hS.2.1 q9 h1 h2
      · omega
      · omega
    · cases hN
  · intro k ex S pc H locs Lx rest q ce hPP hk he3 hmh hP hS hB hce hcv hcl
    obtain ⟨rfl, rfl, hkK⟩ := hPP
    refine vx_out ?_ hlk hce hcv hcl ?_ hS.2.2 (by omega) (by omega)
    · intro x hx9
      rw [htab, hmh] at hx9
      cases hx9
    · intro u hu _
      exact ⟨⟨ex, rfl, he3, rfl⟩, by rw [hu]; exact hP, by rw [hu]; omega, va_S.F hS hu⟩
end RUN
def Cl (i L : Nat) (xs : Nat → Int32) (K : Nat) (P : Nat → PR → PS → Prop) (G : KT) : Prop :=
  (∀ (k pc : Nat) (q : Instr × Nat × Nat) (ls : PL) (st : List Value) (S : PS), lkp (pg i) pc = some q → stp i LZ xZ K P G k q.1 q.2.1 q.2.2 ls st S → G k pc ls st S) ∧
  (∀ (k pc : Nat) (ls ls' : PL) (st : List Value) (S : PS), (∀ q ∈ ls', q ∈ ls) → G k pc ls' st S → G k pc ls st S)
set_option maxHeartbeats 4000000 in
set_option maxRecDepth 100000 in
theorem run_of {K i : Nat} {as : List Value} {S S' : PS} {r : PR} (hi : i ∈ mtAll) (hc : Nat.ble (catS as) (mL i) = true)
    (h : ∀ (G : KT), Cl i LZ xZ K (fun k r' S'' => r' = r ∧ (S'' = S' ∧ k = K)) G → G 0 0 (lv_args 0 as) [] S) : Run K i as S r S' := by
  intro l D cA ad N0 b t htr hAd
  have hmt := mt_ok hi
  simp only [mtOk, Bool.and_eq_true, decide_eq_true_eq] at hmt
  obtain ⟨⟨⟨⟨⟨⟨hpl, ho4⟩, hcls⟩, hn1⟩, hn2⟩, hdesc⟩, -⟩ := hmt
  have hi122 : i < 67 ∧ i ≠ 0 := by
    have key : mtAll.all (fun j => decide (j < 67) && decide (j ≠ 0)) = true := by decide +kernel
    have k1 := List.all_eq_true.mp key i hi
    simp only [Bool.and_eq_true, decide_eq_true_eq] at k1
    exact ⟨k1.1, k1.2⟩
  have body : ∀ (p : Program) (e : Env) (s : State) (m : MethodId) (args : Array Value) (below : List Frame) (meth : Method) (c : Code), p.tables.exec = Jvm.exec → c.code = mB i → c.maxLocals = mL i → s.vm.findClass (mY i).cls = some m.cls → (∀ w ∈ wsM i, w.before args s = true) → meth.sig.returnType = mR i → meth.locks = false → c.exceptionTable.toList = tableOf (mH i) →
      (args = (as.map (rv ad b t)).toArray ∧ va_P D vwCl (wld ad cA S) s.heap ∧ N0 ≤ s.heap.size ∧ Ev D cA N0 b LZ xZ t s s.heap) →
      W p l e (rm i K) s m args below meth c s.heap [] 0 0 (vx_MQ below (fun _ st o u => (∃ v : Option Int32, r = .inl v ∧ o = .returned (v.map Value.int)) ∧ va_P D vwCl (wld ad cA S') u.heap ∧ st.heap.size + K ≤ u.heap.size ∧ va_F (Ar N0) st u)
        (fun E st u => (∃ e : Nat, r = .inr e ∧ e < 3 ∧ E = exN e) ∧ va_P D vwCl (wld ad cA S') u.heap ∧ st.heap.size + K ≤ u.heap.size ∧ va_F (Ar N0) st u) args s K (6 * K) (Ar N0)) (entryFrame m args (mL i)) := by
    intro p e s m args below meth c hx hb hml hfc hts hrt hlk htab hPc
    obtain ⟨rfl, hP, hN0, hEv⟩ := hPc
    have C : Cx i D cA ad N0 b LZ xZ t 0 0 K p l (rm i K) s m (as.map (rv ad b t)).toArray c := ⟨hx, hb, hml, by rw [← hcls]; exact hfc, fun w hw => hts w (List.mem_cons_of_mem _ hw), hEv, hAd, hN0, htr, htab, rfl, rfl, by show 0 + K ≤ K; omega, by show 0 + 6 * K ≤ 6 * K; omega⟩
    have hE := en_run (e := e) (below := below) (r := r) (S' := S') C hrt hlk
    have g := h _ ⟨fun k pc q ls st S hq hs => go_step hi122.1 hi122.2 C hE hq hs, fun k pc ls ls' st S hs g => go_weak hs g⟩
    rw [lg_entry_eq]
    have hle : (lg_sl (as.map (rv ad b t))).length ≤ mL i := by
      rw [sl_len, List.map_map]
      have : (as.map ((fun v : Value => v.category) ∘ rv ad b t)) = as.map (fun v => v.category) := List.map_congr_left (fun v _ => rv_cat ad b t v)
      rw [this]
      exact Nat.le_of_ble_eq_true hc
    have hl := lv_entry (as.map (rv ad b t)) hle
    rw [args_map] at hl
    exact g (Nat.zero_le _) s.heap [] _ hP va_S.rf (Nat.le_refl _) hl
  by_cases hmh : mH i = []
  · refine vx_ofW (cc := mB i) (maxL := mL i) (ret := mR i) (ws' := TT) hpl (by unfold wsM; rw [wC_nil hmh]) ?_
    intro p e s m args below meth c s₁ B hml ht hPc
    refine body p e s m args below meth c B.exec B.bytes hml (findClass_of_methodNamed B.named) (atoms_spec (ws := wsM i) B.pre) B.returns B.notSynchronized ?_ hPc
    rw [hmh]
    cases hq : c.exceptionTable.toList with
    | nil => rfl
    | cons x y => exact absurd (ht x (by rw [hq]; exact List.mem_cons_self)) id
  · refine vx_ofWH (cc := mB i) (maxL := mL i) (ret := mR i) (hh := mH i) (ws' := TT) hpl (by unfold wsM; rw [wC_cons hmh]) ?_
    intro p e s m args below meth c s₁ B hml hPc
    have hts := atoms_spec (ws := wsM i) B.pre
    refine body p e s m args below meth c B.exec B.bytes hml (findClass_of_methodNamed B.named) hts B.returns B.notSynchronized ?_ hPc
    exact vx_table (x := mY i) B (hts _ (by unfold wsM; rw [wC_cons hmh]; exact List.mem_cons_self))
