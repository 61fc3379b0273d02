def R_law : String := "DistrictmeterLaw"
def R9 : Room := { frames := 13, cells := 810, slots := 5100, locals := 518 }
def big_Z (below : List Frame) (s : State) : State → Prop := fun t => ∃ o, t.status = .running ∧ Ended t below o ∧ s.heap.size + 160 ≤ t.heap.size
theorem big_ret {p : Program} {l : Launch} {e : Env} {s : State} {m : MethodId} {below : List Frame} {meth : Method} {c : Code} {b k n : Nat} {locs : List Loc} (hx : p.tables.exec = Jvm.exec) (hb : c.code = code) (hr : meth.sig.returnType = ret) (hlocks : meth.locks = false) {pc : Nat} {H : Heap} {ls : Array Slot} (hdg : decode code pc = .ok (.ireturn, 1)) (hB : s.heap.size + 160 ≤ H.size) : W p l e R9 s m #[Value.ref b] below meth c H locs k n (big_Z below s) (F0 m pc ls [.int 1]) := by
  intro T hT X
  obtain ⟨fs, hret, hrun, hended, hW, hframe⟩ := X.leave (v := some (.int 1)) (hlocks := hlocks) (fun h => by rw [hr] at h; cases h)
  have hmeth' : T.vm.method? m = some meth := X.method'
  refine ⟨T.setFrames fs, ?_, .returned (some (.int 1)), hrun, hended, ?_⟩
  · jvm_step X.here [X.here.top, hx, hb, hdg, hmeth', hr, ret, narrow_b1]
    (try refine ⟨rfl, ?_⟩); (try refine ⟨rfl, ?_⟩)
    first | (intro acts; rw [hret _ acts rfl rfl rfl]) | rw [hret _ _ rfl rfl rfl]
    exact Steps.refl _
  · show s.heap.size + 160 ≤ T.heap.size
    rw [hT]
    exact hB
def big_At (p : Program) (s : State) (m : MethodId) (meth : Method) (c : Code) (b : Nat) : Prop :=
  p.tables.exec = Jvm.exec ∧ c.code = code ∧ meth.sig.returnType = ret ∧ c.maxLocals = 10 ∧ s.vm.findClass R_law = some m.cls ∧ (∀ w ∈ lw_tbl, w.before #[Value.ref b] s = true) ∧ va_X b LZ xZ s s.heap ∧ b < s.heap.size ∧ meth.locks = false ∧ (Jvm.Cond.and given_1 narrow_1).before #[Value.ref b] s = true ∧ c.exceptionTable.toList = []
theorem no_traces (l : Launch) (h : l.flags = flags0) : l.stackTraces = false := by
  unfold Launch.stackTraces
  rw [h]
  decide +kernel
set_option maxHeartbeats 4000000 in
set_option maxRecDepth 100000 in
theorem law_run {p : Program} {e : Env} {s : State} {m : MethodId} {below : List Frame} {meth : Method} {c : Code} (l : Launch) (hflags : l.flags = flags0) {b t : Nat} {D : va_G} {cA : Nat → ClassId} {ad : Nat → Nat} (C0 : big_At p s m meth c b) (hEv : Ev D cA s.heap.size b LZ xZ t s s.heap)
    {H : Heap} {locs : List Loc} {ls : Array Slot} (hP : va_P D vwCl (wld ad cA S0) H) (hD : va_D (Ar s.heap.size) (wld ad cA S0)) (hS : va_S (Ar s.heap.size) s.heap H locs) (hl : lv_has ls 10 [(6, .ref (ad 16)), (5, .ref (ad 15)), (4, .ref (ad 14)), (3, .ref (ad 13)), (2, .ref (ad 12)), (1, .ref (ad 0)), (0, .ref b)]) : W p l e R9 s m #[Value.ref b] below meth c H locs 17 340 (big_Z below s) (F0 m 40 ls []) := by
  obtain ⟨hx, hb, hr, hml, hown, hts, hX, hbl, hlocks, hgv, htab⟩ := id C0
  have hAd : Ad ad s.heap.size b := ⟨fun i j hi hj he => hD.1 i j _ _ (wld_at hi) (wld_at hj) he, fun i hi => hD.2 i _ (wld_at hi), hbl⟩
  have C : Cx 65 D cA ad s.heap.size b LZ xZ t 17 340 790 p l R9 s m #[Value.ref b] c := ⟨hx, hb, hml, hown, fun w h => hts w (TT_in h), hEv, hAd, Nat.le_refl _, no_traces l hflags, htab, rfl, rfl, Nat.le_of_ble_eq_true rfl, Nat.le_of_ble_eq_true rfl⟩
  have hE : En D cA ad s.heap.size 17 340 790 65 (fun k r _ => r = .inl (some (nI 1)) ∧ k = 790) p l e R9 s m #[Value.ref b] below meth c (big_Z below s) := by
    refine ⟨?_, ?_, ?_, ?_⟩
    · intro k v S pc H locs Lx hPP hk hn hd hP hS hB
      obtain ⟨hr1, rfl⟩ := hPP
      have hv : v = nI 1 := Option.some.inj (Sum.inl.inj hr1)
      subst hv
      exact big_ret hx hb hr hlocks hd (by omega)
    · intro k S pc H locs Lx hPP
      cases hPP.1
    · intro k ex S pc ik H locs Lx rest hPP
      cases hPP.1
    · intro k ex S pc H locs Lx rest q ce hPP
      cases hPP.1
  have hG : Cl 65 LZ xZ 790 (fun k r _ => r = .inl (some (nI 1)) ∧ k = 790) (Go D cA ad s.heap.size b t 17 340 790 65 p l e R9 s m #[Value.ref b] below meth c (big_Z below s)) := ⟨fun k pc q ls st S hq hs => go_step (by decide) (by decide) C hE hq hs, fun k pc ls ls' st S hs g => go_weak hs g⟩
  have g := law_head hG ⟨rfl, rfl⟩
  exact g (Nat.zero_le _) H locs ls hP hS hS.1 hl
set_option maxHeartbeats 8000000 in
set_option maxRecDepth 100000 in
theorem big_start {p : Program} {e : Env} {s : State} {m : MethodId} {below : List Frame} {meth : Method} {c : Code} (l : Launch) (hflags : l.flags = flags0) {b : Nat} (C0 : big_At p s m meth c b) : W p l e R9 s m #[Value.ref b] below meth c s.heap [] 0 0 (big_Z below s) (entryFrame m ([Value.ref b] : List Value).toArray 10) := by
  obtain ⟨hx, hb, hr, hml, hown0, hts, hX, hbl, hlocks, hgv, htab⟩ := id C0
  have hown : s.vm.findClass RL = some m.cls := hown0
  have hA : ∀ q : Nat, s.heap.size ≤ q → Ar s.heap.size q := fun _ h => h
  have htt : ∀ w ∈ TT, w.before #[Value.ref b] s = true := fun w h => hts w (TT_in h)
  obtain ⟨D, cA, t, hEv⟩ := law_ev hts hgv hX hbl
  have hK : va_K D vwCl (tyA cA) s := hEv.1
  have hS : va_S (Ar s.heap.size) s.heap s.heap [] := va_S.rf
  have hP : va_P D vwCl [] s.heap := fun k q h => by simp at h
  have hD : va_D (Ar s.heap.size) [] := ⟨fun i j p q h => by simp at h, fun k q h => by simp at h⟩
  have dd : ∀ {pc nx ax : Nat} {ins : Instr}, lkp (pg 65) pc = some (ins, nx, ax) → decode code pc = .ok (ins, ln ins) := fun h => (row_ok (i := 65) (by decide) h).1
  have hl := lv_entry ([.ref b]) (n := 10) (Nat.le_of_ble_eq_true rfl)
  rw [lg_entry_eq]
  generalize (lg_sl ([.ref b]) ++ List.replicate (10 - (lg_sl ([.ref b])).length) Slot.unset).toArray = ls at hl ⊢
  have hl : lv_has ls 10 [(0, .ref b)] := hl
  refine va_new (D := D) (ci := 0) (fs := [.int 0, .null, .null, .null, .null, .int 0, .int 0, .int 0, .null, .null, .int 0, .null, .null, .null, .int 0, .null, .null]) (C := RX0) (T := TX0) (N := 17) hx hb htt in_lay tyX0 tyX0_ok hown (hts _ (lt_in 2 rfl)) (hts _ (lt_in 3 rfl)) (hts _ (lt_in 4 rfl)) hK hP hD hS hA rfl (fun j hj => by rcases (show j = 0 ∨ j = 1 ∨ j = 2 ∨ j = 3 ∨ j = 4 ∨ j = 5 ∨ j = 6 ∨ j = 7 ∨ j = 8 ∨ j = 9 ∨ j = 10 ∨ j = 11 ∨ j = 12 ∨ j = 13 ∨ j = 14 ∨ j = 15 ∨ j = 16 by omega) with rfl | rfl | rfl | rfl | rfl | rfl | rfl | rfl | rfl | rfl | rfl | rfl | rfl | rfl | rfl | rfl | rfl <;> rfl) (Nat.le_of_ble_eq_true rfl) (Nat.le_of_ble_eq_true rfl) (dd (pc := 0) rfl) (fun h0 H hP hD hS => ?_)
  have hP : va_P D vwCl [(h0, .inr (0, [.int 0, .null, .null, .null, .null, .int 0, .int 0, .int 0, .null, .null, .int 0, .null, .null, .null, .int 0, .null, .null]))] H := hP
  have hD : va_D (Ar s.heap.size) [(h0, .inr (0, [.int 0, .null, .null, .null, .null, .int 0, .int 0, .int 0, .null, .null, .int 0, .null, .null, .null, .int 0, .null, .null]))] := hD
  refine W.widen (k := 1) (n := 17) (by omega) (by omega) ?_
  refine lv_dup hx hb (dd (pc := 3) rfl) rfl ?_
  have hPc := hP.sub (ws' := stX h0) [0] rfl
  have hDc := hD.sub (ws' := stX h0) [0] (by decide) rfl
  have hFc := va_free (wc := stX h0) hD hS hA [0] rfl
  refine va_callv (va_runI (As := []) (rest := [.ref h0]) ⟨hx, hb, hml, hown, htt⟩ (ct_X l D cA h0 H.size) (cwI 0 htt (good_TT (fun w h => (List.mem_cons.mp h).elim (fun e => by rw [e]; exact ct_in 4 rfl) id)) rfl rfl rfl (hts _ (lt_in 4 rfl)) (hts _ (lt_in 0 rfl)) (hts _ (lt_in 1 rfl)) rfl (by decide +kernel) ⟨Nat.le_of_ble_eq_true rfl, Nat.le_of_ble_eq_true rfl⟩) ⟨fun a U g mk q => by obtain ⟨q0, q1, qP, qK, qD⟩ := q; exact ⟨q0, q1, qP, va_K.moved (u := U) (U := U.calling g mk a) (Vm.Alike.refl U.vm) qK, qD⟩, fun U hU hW => ⟨rfl, by rw [hU], by rw [hU]; exact hPc, va_K.moved hW.alike hK, hDc.weaken (fun _ _ _ _ => trivial)⟩⟩ rfl rfl hl.1 rfl (lv_room (Nat.le_of_ble_eq_true rfl)) (dd (pc := 4) rfl) ⟨Nat.le_of_ble_eq_true rfl, Nat.le_of_ble_eq_true rfl⟩) hS (fun q _ h => hFc q h) hFc (fun u t1 H1 locs ht hvm hw hB hz1 hk1 hS => ?_)
  obtain ⟨q1, q2, q3, q4, q5, q6, q7, q8, q9, q10, q11, hP1, hD1⟩ := hB
  rw [ht] at hP1
  obtain ⟨hP, hD⟩ := va_join (wr := []) (w1 := wldX cA h0 q1 q2 q3 q4 q5 q6 q7 q8 q9 q10 q11) hP hD [0] [] rfl rfl (by decide) (by decide) hk1 hFc hP1 hD1
  generalize H1 = H at hP hS ⊢
  have hP : va_P D vwCl [(h0, .inr (0, [.int 1, .ref q1, .ref q2, .ref q3, .ref q4, .int 0, .int 0, .int 0, .ref q5, .ref q6, .int 0, .ref q7, .ref q8, .ref q9, .int 0, .ref q10, .ref q11])), (q1, .inl (cA 0, (16, .inl (upd (fun _ => (0 : Int32)) 0 1)))), (q2, .inl (cA 0, (16, .inl (fun _ => (0 : Int32))))), (q3, .inl (cA 0, (16, .inl (fun _ => (0 : Int32))))), (q4, .inl (cA 0, (16, .inl (fun _ => (0 : Int32))))), (q5, .inl (cA 0, (8, .inl (fun _ => (0 : Int32))))), (q6, .inl (cA 0, (8, .inl (fun _ => (0 : Int32))))), (q7, .inl (cA 0, (20, .inl (fun _ => (0 : Int32))))), (q8, .inl (cA 0, (20, .inl (fun _ => (0 : Int32))))), (q9, .inl (cA 0, (20, .inl (fun _ => (0 : Int32))))), (q10, .inl (cA 0, (20, .inl (fun _ => (0 : Int32))))), (q11, .inl (cA 0, (20, .inl (fun _ => (0 : Int32)))))] H := hP
  have hD : va_D (Ar s.heap.size) [(h0, .inr (0, [.int 1, .ref q1, .ref q2, .ref q3, .ref q4, .int 0, .int 0, .int 0, .ref q5, .ref q6, .int 0, .ref q7, .ref q8, .ref q9, .int 0, .ref q10, .ref q11])), (q1, .inl (cA 0, (16, .inl (upd (fun _ => (0 : Int32)) 0 1)))), (q2, .inl (cA 0, (16, .inl (fun _ => (0 : Int32))))), (q3, .inl (cA 0, (16, .inl (fun _ => (0 : Int32))))), (q4, .inl (cA 0, (16, .inl (fun _ => (0 : Int32))))), (q5, .inl (cA 0, (8, .inl (fun _ => (0 : Int32))))), (q6, .inl (cA 0, (8, .inl (fun _ => (0 : Int32))))), (q7, .inl (cA 0, (20, .inl (fun _ => (0 : Int32))))), (q8, .inl (cA 0, (20, .inl (fun _ => (0 : Int32))))), (q9, .inl (cA 0, (20, .inl (fun _ => (0 : Int32))))), (q10, .inl (cA 0, (20, .inl (fun _ => (0 : Int32))))), (q11, .inl (cA 0, (20, .inl (fun _ => (0 : Int32)))))] := hD
  refine W.widen (k := 12) (n := 197) (by omega) (by omega) ?_
  refine lv_astore_n (lv' := [(1, .ref h0), (0, .ref b)]) hx hb (dd (pc := 7) rfl) rfl hl (by decide) rfl (fun ls hl => ?_)
  refine lv_bipush (v := nI 16) hx hb (dd (pc := 8) rfl) (by decide) ?_
  refine va_newa (atype := .int) (ty := .int) (N' := 16) (a0 := (16, .inl (fun _ => (0 : Int32)))) hx hb (htt _ (ct_in 0 rfl)) rfl hK hP hD hS hA (fun _ => rfl) (by decide) (by decide) (by decide) (Nat.le_of_ble_eq_true rfl) (Nat.le_of_ble_eq_true rfl) (dd (pc := 10) rfl) (fun g2 c1 H hK1 hP hD hS => ?_)
  have e1 : c1 = cA 0 := by
    have h1 : s.vm.findClass ("[" ++ FieldType.int.toString) = some c1 := (hK1.2 1 (c1, .int) rfl).2
    have h2 : s.vm.findClass ("[" ++ FieldType.int.toString) = some (cA 0) := (hK.2 0 (cA 0, .int) rfl).2
    exact Option.some.inj (h1.symm.trans h2)
  subst e1
  have hP : va_P D vwCl [(h0, .inr (0, [.int 1, .ref q1, .ref q2, .ref q3, .ref q4, .int 0, .int 0, .int 0, .ref q5, .ref q6, .int 0, .ref q7, .ref q8, .ref q9, .int 0, .ref q10, .ref q11])), (q1, .inl (cA 0, (16, .inl (upd (fun _ => (0 : Int32)) 0 1)))), (q2, .inl (cA 0, (16, .inl (fun _ => (0 : Int32))))), (q3, .inl (cA 0, (16, .inl (fun _ => (0 : Int32))))), (q4, .inl (cA 0, (16, .inl (fun _ => (0 : Int32))))), (q5, .inl (cA 0, (8, .inl (fun _ => (0 : Int32))))), (q6, .inl (cA 0, (8, .inl (fun _ => (0 : Int32))))), (q7, .inl (cA 0, (20, .inl (fun _ => (0 : Int32))))), (q8, .inl (cA 0, (20, .inl (fun _ => (0 : Int32))))), (q9, .inl (cA 0, (20, .inl (fun _ => (0 : Int32))))), (q10, .inl (cA 0, (20, .inl (fun _ => (0 : Int32))))), (q11, .inl (cA 0, (20, .inl (fun _ => (0 : Int32))))), (g2, .inl (cA 0, (16, .inl (fun _ => (0 : Int32)))))] H := hP
  have hD : va_D (Ar s.heap.size) [(h0, .inr (0, [.int 1, .ref q1, .ref q2, .ref q3, .ref q4, .int 0, .int 0, .int 0, .ref q5, .ref q6, .int 0, .ref q7, .ref q8, .ref q9, .int 0, .ref q10, .ref q11])), (q1, .inl (cA 0, (16, .inl (upd (fun _ => (0 : Int32)) 0 1)))), (q2, .inl (cA 0, (16, .inl (fun _ => (0 : Int32))))), (q3, .inl (cA 0, (16, .inl (fun _ => (0 : Int32))))), (q4, .inl (cA 0, (16, .inl (fun _ => (0 : Int32))))), (q5, .inl (cA 0, (8, .inl (fun _ => (0 : Int32))))), (q6, .inl (cA 0, (8, .inl (fun _ => (0 : Int32))))), (q7, .inl (cA 0, (20, .inl (fun _ => (0 : Int32))))), (q8, .inl (cA 0, (20, .inl (fun _ => (0 : Int32))))), (q9, .inl (cA 0, (20, .inl (fun _ => (0 : Int32))))), (q10, .inl (cA 0, (20, .inl (fun _ => (0 : Int32))))), (q11, .inl (cA 0, (20, .inl (fun _ => (0 : Int32))))), (g2, .inl (cA 0, (16, .inl (fun _ => (0 : Int32)))))] := hD
  refine W.widen (k := 13) (n := 213) (by omega) (by omega) ?_
  refine lv_astore_n (lv' := [(2, .ref g2), (1, .ref h0), (0, .ref b)]) hx hb (dd (pc := 12) rfl) rfl hl (by decide) rfl (fun ls hl => ?_)
  refine lv_bipush (v := nI 48) hx hb (dd (pc := 13) rfl) (by decide) ?_
  refine va_newa (atype := .int) (ty := .int) (N' := 48) (a0 := (48, .inl (fun _ => (0 : Int32)))) hx hb (htt _ (ct_in 0 rfl)) rfl hK hP hD hS hA (fun _ => rfl) (by decide) (by decide) (by decide) (Nat.le_of_ble_eq_true rfl) (Nat.le_of_ble_eq_true rfl) (dd (pc := 15) rfl) (fun g3 c1 H hK1 hP hD hS => ?_)
  have e1 : c1 = cA 0 := by
    have h1 : s.vm.findClass ("[" ++ FieldType.int.toString) = some c1 := (hK1.2 1 (c1, .int) rfl).2
    have h2 : s.vm.findClass ("[" ++ FieldType.int.toString) = some (cA 0) := (hK.2 0 (cA 0, .int) rfl).2
    exact Option.some.inj (h1.symm.trans h2)
  subst e1
  have hP : va_P D vwCl [(h0, .inr (0, [.int 1, .ref q1, .ref q2, .ref q3, .ref q4, .int 0, .int 0, .int 0, .ref q5, .ref q6, .int 0, .ref q7, .ref q8, .ref q9, .int 0, .ref q10, .ref q11])), (q1, .inl (cA 0, (16, .inl (upd (fun _ => (0 : Int32)) 0 1)))), (q2, .inl (cA 0, (16, .inl (fun _ => (0 : Int32))))), (q3, .inl (cA 0, (16, .inl (fun _ => (0 : Int32))))), (q4, .inl (cA 0, (16, .inl (fun _ => (0 : Int32))))), (q5, .inl (cA 0, (8, .inl (fun _ => (0 : Int32))))), (q6, .inl (cA 0, (8, .inl (fun _ => (0 : Int32))))), (q7, .inl (cA 0, (20, .inl (fun _ => (0 : Int32))))), (q8, .inl (cA 0, (20, .inl (fun _ => (0 : Int32))))), (q9, .inl (cA 0, (20, .inl (fun _ => (0 : Int32))))), (q10, .inl (cA 0, (20, .inl (fun _ => (0 : Int32))))), (q11, .inl (cA 0, (20, .inl (fun _ => (0 : Int32))))), (g2, .inl (cA 0, (16, .inl (fun _ => (0 : Int32))))), (g3, .inl (cA 0, (48, .inl (fun _ => (0 : Int32)))))] H := hP
  have hD : va_D (Ar s.heap.size) [(h0, .inr (0, [.int 1, .ref q1, .ref q2, .ref q3, .ref q4, .int 0, .int 0, .int 0, .ref q5, .ref q6, .int 0, .ref q7, .ref q8, .ref q9, .int 0, .ref q10, .ref q11])), (q1, .inl (cA 0, (16, .inl (upd (fun _ => (0 : Int32)) 0 1)))), (q2, .inl (cA 0, (16, .inl (fun _ => (0 : Int32))))), (q3, .inl (cA 0, (16, .inl (fun _ => (0 : Int32))))), (q4, .inl (cA 0, (16, .inl (fun _ => (0 : Int32))))), (q5, .inl (cA 0, (8, .inl (fun _ => (0 : Int32))))), (q6, .inl (cA 0, (8, .inl (fun _ => (0 : Int32))))), (q7, .inl (cA 0, (20, .inl (fun _ => (0 : Int32))))), (q8, .inl (cA 0, (20, .inl (fun _ => (0 : Int32))))), (q9, .inl (cA 0, (20, .inl (fun _ => (0 : Int32))))), (q10, .inl (cA 0, (20, .inl (fun _ => (0 : Int32))))), (q11, .inl (cA 0, (20, .inl (fun _ => (0 : Int32))))), (g2, .inl (cA 0, (16, .inl (fun _ => (0 : Int32))))), (g3, .inl (cA 0, (48, .inl (fun _ => (0 : Int32)))))] := hD
  refine W.widen (k := 14) (n := 261) (by omega) (by omega) ?_
  refine lv_astore_n (lv' := [(3, .ref g3), (2, .ref g2), (1, .ref h0), (0, .ref b)]) hx hb (dd (pc := 17) rfl) rfl hl (by decide) rfl (fun ls hl => ?_)
  refine lv_bipush (v := nI 16) hx hb (dd (pc := 18) rfl) (by decide) ?_
  refine va_newa (atype := .int) (ty := .int) (N' := 16) (a0 := (16, .inl (fun _ => (0 : Int32)))) hx hb (htt _ (ct_in 0 rfl)) rfl hK hP hD hS hA (fun _ => rfl) (by decide) (by decide) (by decide) (Nat.le_of_ble_eq_true rfl) (Nat.le_of_ble_eq_true rfl) (dd (pc := 20) rfl) (fun g4 c1 H hK1 hP hD hS => ?_)
  have e1 : c1 = cA 0 := by
    have h1 : s.vm.findClass ("[" ++ FieldType.int.toString) = some c1 := (hK1.2 1 (c1, .int) rfl).2
    have h2 : s.vm.findClass ("[" ++ FieldType.int.toString) = some (cA 0) := (hK.2 0 (cA 0, .int) rfl).2
    exact Option.some.inj (h1.symm.trans h2)
  subst e1
  have hP : va_P D vwCl [(h0, .inr (0, [.int 1, .ref q1, .ref q2, .ref q3, .ref q4, .int 0, .int 0, .int 0, .ref q5, .ref q6, .int 0, .ref q7, .ref q8, .ref q9, .int 0, .ref q10, .ref q11])), (q1, .inl (cA 0, (16, .inl (upd (fun _ => (0 : Int32)) 0 1)))), (q2, .inl (cA 0, (16, .inl (fun _ => (0 : Int32))))), (q3, .inl (cA 0, (16, .inl (fun _ => (0 : Int32))))), (q4, .inl (cA 0, (16, .inl (fun _ => (0 : Int32))))), (q5, .inl (cA 0, (8, .inl (fun _ => (0 : Int32))))), (q6, .inl (cA 0, (8, .inl (fun _ => (0 : Int32))))), (q7, .inl (cA 0, (20, .inl (fun _ => (0 : Int32))))), (q8, .inl (cA 0, (20, .inl (fun _ => (0 : Int32))))), (q9, .inl (cA 0, (20, .inl (fun _ => (0 : Int32))))), (q10, .inl (cA 0, (20, .inl (fun _ => (0 : Int32))))), (q11, .inl (cA 0, (20, .inl (fun _ => (0 : Int32))))), (g2, .inl (cA 0, (16, .inl (fun _ => (0 : Int32))))), (g3, .inl (cA 0, (48, .inl (fun _ => (0 : Int32))))), (g4, .inl (cA 0, (16, .inl (fun _ => (0 : Int32)))))] H := hP
  have hD : va_D (Ar s.heap.size) [(h0, .inr (0, [.int 1, .ref q1, .ref q2, .ref q3, .ref q4, .int 0, .int 0, .int 0, .ref q5, .ref q6, .int 0, .ref q7, .ref q8, .ref q9, .int 0, .ref q10, .ref q11])), (q1, .inl (cA 0, (16, .inl (upd (fun _ => (0 : Int32)) 0 1)))), (q2, .inl (cA 0, (16, .inl (fun _ => (0 : Int32))))), (q3, .inl (cA 0, (16, .inl (fun _ => (0 : Int32))))), (q4, .inl (cA 0, (16, .inl (fun _ => (0 : Int32))))), (q5, .inl (cA 0, (8, .inl (fun _ => (0 : Int32))))), (q6, .inl (cA 0, (8, .inl (fun _ => (0 : Int32))))), (q7, .inl (cA 0, (20, .inl (fun _ => (0 : Int32))))), (q8, .inl (cA 0, (20, .inl (fun _ => (0 : Int32))))), (q9, .inl (cA 0, (20, .inl (fun _ => (0 : Int32))))), (q10, .inl (cA 0, (20, .inl (fun _ => (0 : Int32))))), (q11, .inl (cA 0, (20, .inl (fun _ => (0 : Int32))))), (g2, .inl (cA 0, (16, .inl (fun _ => (0 : Int32))))), (g3, .inl (cA 0, (48, .inl (fun _ => (0 : Int32))))), (g4, .inl (cA 0, (16, .inl (fun _ => (0 : Int32)))))] := hD
  refine W.widen (k := 15) (n := 277) (by omega) (by omega) ?_
  refine lv_astore (lv' := [(4, .ref g4), (3, .ref g3), (2, .ref g2), (1, .ref h0), (0, .ref b)]) hx hb (dd (pc := 22) rfl) hl (by decide) rfl (fun ls hl => ?_)
  refine lv_bipush (v := nI 60) hx hb (dd (pc := 24) rfl) (by decide) ?_
  refine va_newa (atype := .int) (ty := .int) (N' := 60) (a0 := (60, .inl (fun _ => (0 : Int32)))) hx hb (htt _ (ct_in 0 rfl)) rfl hK hP hD hS hA (fun _ => rfl) (by decide) (by decide) (by decide) (Nat.le_of_ble_eq_true rfl) (Nat.le_of_ble_eq_true rfl) (dd (pc := 26) rfl) (fun g5 c1 H hK1 hP hD hS => ?_)
  have e1 : c1 = cA 0 := by
    have h1 : s.vm.findClass ("[" ++ FieldType.int.toString) = some c1 := (hK1.2 1 (c1, .int) rfl).2
    have h2 : s.vm.findClass ("[" ++ FieldType.int.toString) = some (cA 0) := (hK.2 0 (cA 0, .int) rfl).2
    exact Option.some.inj (h1.symm.trans h2)
  subst e1
  have hP : va_P D vwCl [(h0, .inr (0, [.int 1, .ref q1, .ref q2, .ref q3, .ref q4, .int 0, .int 0, .int 0, .ref q5, .ref q6, .int 0, .ref q7, .ref q8, .ref q9, .int 0, .ref q10, .ref q11])), (q1, .inl (cA 0, (16, .inl (upd (fun _ => (0 : Int32)) 0 1)))), (q2, .inl (cA 0, (16, .inl (fun _ => (0 : Int32))))), (q3, .inl (cA 0, (16, .inl (fun _ => (0 : Int32))))), (q4, .inl (cA 0, (16, .inl (fun _ => (0 : Int32))))), (q5, .inl (cA 0, (8, .inl (fun _ => (0 : Int32))))), (q6, .inl (cA 0, (8, .inl (fun _ => (0 : Int32))))), (q7, .inl (cA 0, (20, .inl (fun _ => (0 : Int32))))), (q8, .inl (cA 0, (20, .inl (fun _ => (0 : Int32))))), (q9, .inl (cA 0, (20, .inl (fun _ => (0 : Int32))))), (q10, .inl (cA 0, (20, .inl (fun _ => (0 : Int32))))), (q11, .inl (cA 0, (20, .inl (fun _ => (0 : Int32))))), (g2, .inl (cA 0, (16, .inl (fun _ => (0 : Int32))))), (g3, .inl (cA 0, (48, .inl (fun _ => (0 : Int32))))), (g4, .inl (cA 0, (16, .inl (fun _ => (0 : Int32))))), (g5, .inl (cA 0, (60, .inl (fun _ => (0 : Int32)))))] H := hP
  have hD : va_D (Ar s.heap.size) [(h0, .inr (0, [.int 1, .ref q1, .ref q2, .ref q3, .ref q4, .int 0, .int 0, .int 0, .ref q5, .ref q6, .int 0, .ref q7, .ref q8, .ref q9, .int 0, .ref q10, .ref q11])), (q1, .inl (cA 0, (16, .inl (upd (fun _ => (0 : Int32)) 0 1)))), (q2, .inl (cA 0, (16, .inl (fun _ => (0 : Int32))))), (q3, .inl (cA 0, (16, .inl (fun _ => (0 : Int32))))), (q4, .inl (cA 0, (16, .inl (fun _ => (0 : Int32))))), (q5, .inl (cA 0, (8, .inl (fun _ => (0 : Int32))))), (q6, .inl (cA 0, (8, .inl (fun _ => (0 : Int32))))), (q7, .inl (cA 0, (20, .inl (fun _ => (0 : Int32))))), (q8, .inl (cA 0, (20, .inl (fun _ => (0 : Int32))))), (q9, .inl (cA 0, (20, .inl (fun _ => (0 : Int32))))), (q10, .inl (cA 0, (20, .inl (fun _ => (0 : Int32))))), (q11, .inl (cA 0, (20, .inl (fun _ => (0 : Int32))))), (g2, .inl (cA 0, (16, .inl (fun _ => (0 : Int32))))), (g3, .inl (cA 0, (48, .inl (fun _ => (0 : Int32))))), (g4, .inl (cA 0, (16, .inl (fun _ => (0 : Int32))))), (g5, .inl (cA 0, (60, .inl (fun _ => (0 : Int32)))))] := hD
  refine W.widen (k := 16) (n := 337) (by omega) (by omega) ?_
  refine lv_astore (lv' := [(5, .ref g5), (4, .ref g4), (3, .ref g3), (2, .ref g2), (1, .ref h0), (0, .ref b)]) hx hb (dd (pc := 28) rfl) hl (by decide) rfl (fun ls hl => ?_)
  refine lv_iconst (v := nI 3) hx hb (dd (pc := 30) rfl) (by decide) ?_
  refine va_newa (atype := .int) (ty := .int) (N' := 3) (a0 := (3, .inl (fun _ => (0 : Int32)))) hx hb (htt _ (ct_in 0 rfl)) rfl hK hP hD hS hA (fun _ => rfl) (by decide) (by decide) (by decide) (Nat.le_of_ble_eq_true rfl) (Nat.le_of_ble_eq_true rfl) (dd (pc := 31) rfl) (fun g6 c1 H hK1 hP hD hS => ?_)
  have e1 : c1 = cA 0 := by
    have h1 : s.vm.findClass ("[" ++ FieldType.int.toString) = some c1 := (hK1.2 1 (c1, .int) rfl).2
    have h2 : s.vm.findClass ("[" ++ FieldType.int.toString) = some (cA 0) := (hK.2 0 (cA 0, .int) rfl).2
    exact Option.some.inj (h1.symm.trans h2)
  subst e1
  have hP : va_P D vwCl [(h0, .inr (0, [.int 1, .ref q1, .ref q2, .ref q3, .ref q4, .int 0, .int 0, .int 0, .ref q5, .ref q6, .int 0, .ref q7, .ref q8, .ref q9, .int 0, .ref q10, .ref q11])), (q1, .inl (cA 0, (16, .inl (upd (fun _ => (0 : Int32)) 0 1)))), (q2, .inl (cA 0, (16, .inl (fun _ => (0 : Int32))))), (q3, .inl (cA 0, (16, .inl (fun _ => (0 : Int32))))), (q4, .inl (cA 0, (16, .inl (fun _ => (0 : Int32))))), (q5, .inl (cA 0, (8, .inl (fun _ => (0 : Int32))))), (q6, .inl (cA 0, (8, .inl (fun _ => (0 : Int32))))), (q7, .inl (cA 0, (20, .inl (fun _ => (0 : Int32))))), (q8, .inl (cA 0, (20, .inl (fun _ => (0 : Int32))))), (q9, .inl (cA 0, (20, .inl (fun _ => (0 : Int32))))), (q10, .inl (cA 0, (20, .inl (fun _ => (0 : Int32))))), (q11, .inl (cA 0, (20, .inl (fun _ => (0 : Int32))))), (g2, .inl (cA 0, (16, .inl (fun _ => (0 : Int32))))), (g3, .inl (cA 0, (48, .inl (fun _ => (0 : Int32))))), (g4, .inl (cA 0, (16, .inl (fun _ => (0 : Int32))))), (g5, .inl (cA 0, (60, .inl (fun _ => (0 : Int32))))), (g6, .inl (cA 0, (3, .inl (fun _ => (0 : Int32)))))] H := hP
  have hD : va_D (Ar s.heap.size) [(h0, .inr (0, [.int 1, .ref q1, .ref q2, .ref q3, .ref q4, .int 0, .int 0, .int 0, .ref q5, .ref q6, .int 0, .ref q7, .ref q8, .ref q9, .int 0, .ref q10, .ref q11])), (q1, .inl (cA 0, (16, .inl (upd (fun _ => (0 : Int32)) 0 1)))), (q2, .inl (cA 0, (16, .inl (fun _ => (0 : Int32))))), (q3, .inl (cA 0, (16, .inl (fun _ => (0 : Int32))))), (q4, .inl (cA 0, (16, .inl (fun _ => (0 : Int32))))), (q5, .inl (cA 0, (8, .inl (fun _ => (0 : Int32))))), (q6, .inl (cA 0, (8, .inl (fun _ => (0 : Int32))))), (q7, .inl (cA 0, (20, .inl (fun _ => (0 : Int32))))), (q8, .inl (cA 0, (20, .inl (fun _ => (0 : Int32))))), (q9, .inl (cA 0, (20, .inl (fun _ => (0 : Int32))))), (q10, .inl (cA 0, (20, .inl (fun _ => (0 : Int32))))), (q11, .inl (cA 0, (20, .inl (fun _ => (0 : Int32))))), (g2, .inl (cA 0, (16, .inl (fun _ => (0 : Int32))))), (g3, .inl (cA 0, (48, .inl (fun _ => (0 : Int32))))), (g4, .inl (cA 0, (16, .inl (fun _ => (0 : Int32))))), (g5, .inl (cA 0, (60, .inl (fun _ => (0 : Int32))))), (g6, .inl (cA 0, (3, .inl (fun _ => (0 : Int32)))))] := hD
  refine W.widen (k := 17) (n := 340) (by omega) (by omega) ?_
  refine lv_astore (lv' := [(6, .ref g6), (5, .ref g5), (4, .ref g4), (3, .ref g3), (2, .ref g2), (1, .ref h0), (0, .ref b)]) hx hb (dd (pc := 33) rfl) hl (by decide) rfl (fun ls hl => ?_)
  refine lv_aload hx hb (dd (pc := 35) rfl) (lv_at hl 0 rfl) ?_
  refine lv_iconst (v := 0) hx hb (dd (pc := 37) rfl) (by decide) ?_
  refine lv_iconst (v := 1) hx hb (dd (pc := 38) rfl) (by decide) ?_
  refine va_iast (D := D) hx hb hK hP hD hS 16 0 rfl rfl (by unfold vp_in; decide) (dd (pc := 39) rfl) (fun H locs hP hD hS => ?_)
  have hP : va_P D vwCl [(h0, .inr (0, [.int 1, .ref q1, .ref q2, .ref q3, .ref q4, .int 0, .int 0, .int 0, .ref q5, .ref q6, .int 0, .ref q7, .ref q8, .ref q9, .int 0, .ref q10, .ref q11])), (q1, .inl (cA 0, (16, .inl (upd (fun _ => (0 : Int32)) 0 1)))), (q2, .inl (cA 0, (16, .inl (fun _ => (0 : Int32))))), (q3, .inl (cA 0, (16, .inl (fun _ => (0 : Int32))))), (q4, .inl (cA 0, (16, .inl (fun _ => (0 : Int32))))), (q5, .inl (cA 0, (8, .inl (fun _ => (0 : Int32))))), (q6, .inl (cA 0, (8, .inl (fun _ => (0 : Int32))))), (q7, .inl (cA 0, (20, .inl (fun _ => (0 : Int32))))), (q8, .inl (cA 0, (20, .inl (fun _ => (0 : Int32))))), (q9, .inl (cA 0, (20, .inl (fun _ => (0 : Int32))))), (q10, .inl (cA 0, (20, .inl (fun _ => (0 : Int32))))), (q11, .inl (cA 0, (20, .inl (fun _ => (0 : Int32))))), (g2, .inl (cA 0, (16, .inl (fun _ => (0 : Int32))))), (g3, .inl (cA 0, (48, .inl (fun _ => (0 : Int32))))), (g4, .inl (cA 0, (16, .inl (fun _ => (0 : Int32))))), (g5, .inl (cA 0, (60, .inl (fun _ => (0 : Int32))))), (g6, .inl (cA 0, (3, .inl (upd (fun _ => (0 : Int32)) 0 1))))] H := hP
  have hD : va_D (Ar s.heap.size) [(h0, .inr (0, [.int 1, .ref q1, .ref q2, .ref q3, .ref q4, .int 0, .int 0, .int 0, .ref q5, .ref q6, .int 0, .ref q7, .ref q8, .ref q9, .int 0, .ref q10, .ref q11])), (q1, .inl (cA 0, (16, .inl (upd (fun _ => (0 : Int32)) 0 1)))), (q2, .inl (cA 0, (16, .inl (fun _ => (0 : Int32))))), (q3, .inl (cA 0, (16, .inl (fun _ => (0 : Int32))))), (q4, .inl (cA 0, (16, .inl (fun _ => (0 : Int32))))), (q5, .inl (cA 0, (8, .inl (fun _ => (0 : Int32))))), (q6, .inl (cA 0, (8, .inl (fun _ => (0 : Int32))))), (q7, .inl (cA 0, (20, .inl (fun _ => (0 : Int32))))), (q8, .inl (cA 0, (20, .inl (fun _ => (0 : Int32))))), (q9, .inl (cA 0, (20, .inl (fun _ => (0 : Int32))))), (q10, .inl (cA 0, (20, .inl (fun _ => (0 : Int32))))), (q11, .inl (cA 0, (20, .inl (fun _ => (0 : Int32))))), (g2, .inl (cA 0, (16, .inl (fun _ => (0 : Int32))))), (g3, .inl (cA 0, (48, .inl (fun _ => (0 : Int32))))), (g4, .inl (cA 0, (16, .inl (fun _ => (0 : Int32))))), (g5, .inl (cA 0, (60, .inl (fun _ => (0 : Int32))))), (g6, .inl (cA 0, (3, .inl (upd (fun _ => (0 : Int32)) 0 1))))] := hD
  have hPw : va_P D vwCl (wld (fun i => ([h0, q1, q2, q3, q4, q5, q6, q7, q8, q9, q10, q11, g2, g3, g4, g5, g6] : List Nat).getD i 0) cA S0) H := hP
  have hDw : va_D (Ar s.heap.size) (wld (fun i => ([h0, q1, q2, q3, q4, q5, q6, q7, q8, q9, q10, q11, g2, g3, g4, g5, g6] : List Nat).getD i 0) cA S0) := hD
  exact law_run l hflags C0 hEv hPw hDw hS hl
