
/-! THE CLAIM OUT OF ONE WALK OF THE LAW'S BODY. Your part is whole_start (and what it stands on); all else here is the same for every law, but numbers. -/
def R_law : String := "DistrictmeterLaw"
def lw_P (b : Addr) (xs : List Int32) (args : Array Value) (s : State) : Prop := args = #[.ref b] ∧ s.IntsAt b xs ∧ xs.length ≤ 2048 ∧ (Jvm.Cond.and given_1 narrow_1).before args s = true
def lw_Q (_ : Array Value) (s : State) (o : Outcome) (t : State) : Prop := o = .returned (some (.int 1)) ∧ Framed s o t [] 1063 8682
def lw_Z (below : List Frame) (a : Array Value) (s : State) : State → Prop := fun t => ∃ o, t.status = .running ∧ Ended t below o ∧ lw_Q a s o t
/-- the law's own end, with 1 on the stack, nothing written that was there before, its room as the claim has it -/
theorem lw_ret {p : Program} {l : Launch} {e : Env} {s : State} {m : MethodId} {below : List Frame} {meth : Method} {c : Code} {b : Nat} (hx : p.tables.exec = Jvm.exec) (hb : c.code = code) (hr : meth.sig.returnType = ret) (hlocks : meth.locks = false) {pc : Nat} {H : Heap} {ls : Array Slot} (hdg : decode code pc = .ok (.ireturn, 1)) : W p l e room_1 s m #[Value.ref b] below meth c H [] 1063 8682 (lw_Z below #[Value.ref b] s) (F0 m pc ls [.int 1]) := by
  intro T hT X
  obtain ⟨fs, hret, hrun, hended, hW, hframe⟩ := X.leave (v := some (.int 1)) (hlocks := hlocks) (fun h => by rw [hr] at h; cases h)
  have hmeth' : T.vm.method? m = some meth := X.method'
  refine ⟨T.setFrames fs, ?_, .returned (some (.int 1)), hrun, hended, rfl, ⟨_, rfl⟩, hW, hframe⟩
  jvm_step X.here [X.here.top, hx, hb, hdg, hmeth', hr, ret, narrow_b1]
  (try refine ⟨rfl, ?_⟩); (try refine ⟨rfl, ?_⟩)
  first | (intro acts; rw [hret _ acts rfl rfl rfl]) | rw [hret _ _ rfl rfl rfl]
  exact Steps.refl _
/-- what holds at the law's entry: the machine, the code, the tables' words (any of lw_tbl by 'hts w (by decide +kernel)'), the script of L ints xs at the cell b, what the Statement gives of the start (any of its parts by flat_of_before) -/
def lw_At (p : Program) (s : State) (m : MethodId) (meth : Method) (c : Code) (b L : Nat) (xs : Nat → Int32) : Prop :=
  p.tables.exec = Jvm.exec ∧ c.code = code ∧ meth.sig.returnType = ret ∧ c.maxLocals = 7 ∧ s.vm.findClass R_law = some m.cls ∧ (∀ w ∈ lw_tbl, w.before #[Value.ref b] s = true) ∧ va_X b L xs s s.heap ∧ b < s.heap.size ∧ meth.locks = false ∧ (Jvm.Cond.and given_1 narrow_1).before #[Value.ref b] s = true ∧ c.exceptionTable.toList = []

theorem no_traces (l : Launch) (h : l.flags = flags0) : l.stackTraces = false := by
  unfold Launch.stackTraces
  rw [h]
  decide +kernel

set_option maxHeartbeats 4000000 in
set_option maxRecDepth 100000 in
theorem law_run {p : Program} {e : Env} {s : State} {m : MethodId} {below : List Frame} {meth : Method} {c : Code} (l : Launch) (hflags : l.flags = flags0) {b L t : Nat} {xs : Nat → Int32} {D : va_G} {cA : Nat → ClassId} {ad : Nat → Nat} (hL : L ≤ 2048) (C0 : lw_At p s m meth c b L xs) (hEv : Ev D cA s.heap.size b L xs t s s.heap)
    {H : Heap} {locs : List Loc} {ls : Array Slot} (hP : va_P D vwCl (wld ad cA S0) H) (hD : va_D (Ar s.heap.size) (wld ad cA S0)) (hS : va_S (Ar s.heap.size) s.heap H locs) (hl : lv_has ls 7 [(4, .int 0), (0, .ref b), (1, .ref (ad 0)), (2, .ref (ad 12)), (3, .ref (ad 26))]) : W p l e room_1 s m #[Value.ref b] below meth c H locs 27 418 (lw_Z below #[Value.ref b] s) (F0 m 23 ls []) := by
  obtain ⟨hx, hb, hr, hml, hown, hts, hX, hbl, hlocks, hgv, htab⟩ := id C0
  have hAd : Ad ad s.heap.size b := ⟨fun i j hi hj he => hD.1 i j _ _ (wld_at hi) (wld_at hj) he, fun i hi => hD.2 i _ (wld_at hi), hbl⟩
  have C : Cx 120 D cA ad s.heap.size b L xs t 27 418 512 p l room_1 s m #[Value.ref b] c := ⟨hx, hb, hml, hown, fun w h => hts w (TT_in h), hEv, hAd, Nat.le_refl _, no_traces l hflags, htab, rfl, rfl, Nat.le_of_ble_eq_true rfl, Nat.le_of_ble_eq_true rfl⟩
  have hE : En D cA ad s.heap.size 27 418 512 120 (fun _ r _ => r = .inl (some (nI 1))) p l e room_1 s m #[Value.ref b] below meth c (lw_Z below #[Value.ref b] s) := by
    refine ⟨?_, ?_, ?_, ?_⟩
    · intro k v S pc H locs Lx hPP hk hn hd hP hS
      have hv : v = nI 1 := Option.some.inj (Sum.inl.inj hPP)
      subst hv
      refine va_forget (fun q hq => hS.2.2 q hq) ?_
      refine W.widen (k := 1063) (n := 8682) (by omega) (by omega) ?_
      exact lw_ret hx hb hr hlocks hd
    · intro k S pc H locs Lx hPP
      cases hPP
    · intro k ex S pc ik H locs Lx rest hPP
      cases hPP
    · intro k ex S pc H locs Lx rest q ce hPP
      cases hPP
  have hG : Cl 120 L xs 512 (fun _ r _ => r = .inl (some (nI 1))) (Go D cA ad s.heap.size b t 27 418 512 120 p l e room_1 s m #[Value.ref b] below meth c (lw_Z below #[Value.ref b] s)) := ⟨fun k pc q ls st S hq hs => go_step (by decide) (by decide) (by decide) C hE hq hs, fun k pc ls ls' st S hs g => go_weak hs g⟩
  have g := law_head hG hL (fun _ _ => rfl) 512 0 0 S0 (by omega) (by omega) (Nat.le_refl _) JJ_0
  exact g (Nat.zero_le _) H locs ls hP hS hl
set_option maxHeartbeats 8000000 in
set_option maxRecDepth 100000 in

theorem whole_start {p : Program} {e : Env} {s : State} {m : MethodId} {below : List Frame} {meth : Method} {c : Code} (l : Launch) (hflags : l.flags = flags0) {b L : Nat} {xs : Nat → Int32} (hL : L ≤ 2048) (C0 : lw_At p s m meth c b L xs) : W p l e room_1 s m #[Value.ref b] below meth c s.heap [] 0 0 (lw_Z below #[Value.ref b] s) (entryFrame m ([Value.ref b] : List Value).toArray 7) := by
  obtain ⟨hx, hb, hr, hml, hown0, hts, hX, hbl, hlocks, hgv, htab⟩ := id C0
  have hown : s.vm.findClass RL = some m.cls := hown0
  have hA : ∀ q : Nat, s.heap.size ≤ q → Ar s.heap.size q := fun _ h => h
  have htt : ∀ w ∈ TT, w.before #[Value.ref b] s = true := fun w h => hts w (TT_in h)
  obtain ⟨D, cA, t, hEv⟩ := law_ev hts hgv hX hbl
  have hK : va_K D vwCl (tyA cA) s := hEv.1
  have hS : va_S (Ar s.heap.size) s.heap s.heap [] := va_S.rf
  have hP : va_P D vwCl [] s.heap := fun k q h => by simp at h
  have hD : va_D (Ar s.heap.size) [] := ⟨fun i j p q h => by simp at h, fun k q h => by simp at h⟩
  have dd : ∀ {pc nx ax : Nat} {ins : Instr}, lkp (pg 120) pc = some (ins, nx, ax) → decode code pc = .ok (ins, ln ins) := fun h => (row_ok (i := 120) (by decide) h).1
  have hl := lv_entry ([.ref b]) (n := 7) (Nat.le_of_ble_eq_true rfl)
  rw [lg_entry_eq]
  generalize (lg_sl ([.ref b]) ++ List.replicate (7 - (lg_sl ([.ref b])).length) Slot.unset).toArray = ls at hl ⊢
  have hl : lv_has ls 7 [(0, .ref b)] := hl
  refine va_new (D := D) (ci := 0) (fs := [.int 0, .null, .null, .null, .null, .int 0, .int 0, .int 0, .null, .null, .int 0, .null, .null, .null, .int 0, .null, .null]) (C := RX0) (T := TX0) (N := 17) hx hb htt (in_lay (o := 0) (by decide)) tyX0 tyX0_ok hown (hts _ (lt_in 5 rfl)) (hts _ (lt_in 7 rfl)) (hts _ (lt_in 9 rfl)) hK hP hD hS hA rfl (fun j hj => by rcases (show j = 0 ∨ j = 1 ∨ j = 2 ∨ j = 3 ∨ j = 4 ∨ j = 5 ∨ j = 6 ∨ j = 7 ∨ j = 8 ∨ j = 9 ∨ j = 10 ∨ j = 11 ∨ j = 12 ∨ j = 13 ∨ j = 14 ∨ j = 15 ∨ j = 16 by omega) with rfl | rfl | rfl | rfl | rfl | rfl | rfl | rfl | rfl | rfl | rfl | rfl | rfl | rfl | rfl | rfl | rfl <;> rfl) (Nat.le_of_ble_eq_true rfl) (Nat.le_of_ble_eq_true rfl) (dd (pc := 0) rfl) (fun h0 H hP hD hS => ?_)
  have hP : va_P D vwCl [(h0, .inr (0, [.int 0, .null, .null, .null, .null, .int 0, .int 0, .int 0, .null, .null, .int 0, .null, .null, .null, .int 0, .null, .null]))] H := hP
  have hD : va_D (Ar s.heap.size) [(h0, .inr (0, [.int 0, .null, .null, .null, .null, .int 0, .int 0, .int 0, .null, .null, .int 0, .null, .null, .null, .int 0, .null, .null]))] := hD
  refine W.widen (k := 1) (n := 17) (by omega) (by omega) ?_
  refine lv_dup hx hb (dd (pc := 3) rfl) rfl ?_
  have hPc := hP.sub (ws' := stX h0) [0] rfl
  have hDc := hD.sub (ws' := stX h0) [0] (by decide) rfl
  have hFc := va_free (wc := stX h0) hD hS hA [0] rfl
  refine va_callv (va_runI (As := []) (rest := [.ref h0]) ⟨hx, hb, hml, hown, htt⟩ (ct_X l D cA h0 H.size) (cwI 0 htt (good_TT (fun w h => (List.mem_cons.mp h).elim (fun e => by rw [e]; exact ct_in 6 rfl) id)) rfl rfl rfl (hts _ (lt_in 9 rfl)) (hts _ (lt_in 1 rfl)) (hts _ (lt_in 3 rfl)) rfl (by decide +kernel) ⟨Nat.le_of_ble_eq_true rfl, Nat.le_of_ble_eq_true rfl⟩) ⟨fun a U g mk q => by obtain ⟨q0, q1, qP, qK, qD⟩ := q; exact ⟨q0, q1, qP, va_K.moved (u := U) (U := U.calling g mk a) (Vm.Alike.refl U.vm) qK, qD⟩, fun U hU hW => ⟨rfl, by rw [hU], by rw [hU]; exact hPc, va_K.moved hW.alike hK, hDc.weaken (fun _ _ _ _ => trivial)⟩⟩ rfl rfl hl.1 rfl (lv_room (Nat.le_of_ble_eq_true rfl)) (dd (pc := 4) rfl) ⟨Nat.le_of_ble_eq_true rfl, Nat.le_of_ble_eq_true rfl⟩) hS (fun q _ h => hFc q h) hFc (fun u t1 H1 locs ht hvm hw hB hz1 hk1 hS => ?_)
  obtain ⟨q1, q2, q3, q4, q5, q6, q7, q8, q9, q10, q11, hP1, hD1⟩ := hB
  rw [ht] at hP1
  obtain ⟨hP, hD⟩ := va_join (wr := []) (w1 := wldX cA h0 q1 q2 q3 q4 q5 q6 q7 q8 q9 q10 q11) hP hD [0] [] rfl rfl (by decide) (by decide) hk1 hFc hP1 hD1
  generalize H1 = H at hP hS ⊢
  have hP : va_P D vwCl [(h0, .inr (0, [.int 1, .ref q1, .ref q2, .ref q3, .ref q4, .int 0, .int 0, .int 0, .ref q5, .ref q6, .int 0, .ref q7, .ref q8, .ref q9, .int 0, .ref q10, .ref q11])), (q1, .inl (cA 0, (16, .inl (upd (fun _ => (0 : Int32)) 0 1)))), (q2, .inl (cA 0, (16, .inl (fun _ => (0 : Int32))))), (q3, .inl (cA 0, (16, .inl (fun _ => (0 : Int32))))), (q4, .inl (cA 0, (16, .inl (fun _ => (0 : Int32))))), (q5, .inl (cA 0, (8, .inl (fun _ => (0 : Int32))))), (q6, .inl (cA 0, (8, .inl (fun _ => (0 : Int32))))), (q7, .inl (cA 0, (20, .inl (fun _ => (0 : Int32))))), (q8, .inl (cA 0, (20, .inl (fun _ => (0 : Int32))))), (q9, .inl (cA 0, (20, .inl (fun _ => (0 : Int32))))), (q10, .inl (cA 0, (20, .inl (fun _ => (0 : Int32))))), (q11, .inl (cA 0, (20, .inl (fun _ => (0 : Int32)))))] H := hP
  have hD : va_D (Ar s.heap.size) [(h0, .inr (0, [.int 1, .ref q1, .ref q2, .ref q3, .ref q4, .int 0, .int 0, .int 0, .ref q5, .ref q6, .int 0, .ref q7, .ref q8, .ref q9, .int 0, .ref q10, .ref q11])), (q1, .inl (cA 0, (16, .inl (upd (fun _ => (0 : Int32)) 0 1)))), (q2, .inl (cA 0, (16, .inl (fun _ => (0 : Int32))))), (q3, .inl (cA 0, (16, .inl (fun _ => (0 : Int32))))), (q4, .inl (cA 0, (16, .inl (fun _ => (0 : Int32))))), (q5, .inl (cA 0, (8, .inl (fun _ => (0 : Int32))))), (q6, .inl (cA 0, (8, .inl (fun _ => (0 : Int32))))), (q7, .inl (cA 0, (20, .inl (fun _ => (0 : Int32))))), (q8, .inl (cA 0, (20, .inl (fun _ => (0 : Int32))))), (q9, .inl (cA 0, (20, .inl (fun _ => (0 : Int32))))), (q10, .inl (cA 0, (20, .inl (fun _ => (0 : Int32))))), (q11, .inl (cA 0, (20, .inl (fun _ => (0 : Int32)))))] := hD
  refine W.widen (k := 12) (n := 197) (by omega) (by omega) ?_
  refine lv_astore_n (lv' := [(1, .ref h0), (0, .ref b)]) hx hb (dd (pc := 7) rfl) rfl hl (by decide) rfl (fun ls hl => ?_)
  refine va_new (D := D) (ci := 1) (fs := [.int 0, .null, .null, .null, .null, .null, .null, .null, .int 0, .null, .null, .int 0, .null, .null, .null, .null, .int 0]) (C := RX1) (T := TX1) (N := 17) hx hb htt (in_lay (o := 1) (by decide)) tyX1 tyX1_ok hown (hts _ (lt_in 6 rfl)) (hts _ (lt_in 8 rfl)) (hts _ (lt_in 10 rfl)) hK hP hD hS hA rfl (fun j hj => by rcases (show j = 0 ∨ j = 1 ∨ j = 2 ∨ j = 3 ∨ j = 4 ∨ j = 5 ∨ j = 6 ∨ j = 7 ∨ j = 8 ∨ j = 9 ∨ j = 10 ∨ j = 11 ∨ j = 12 ∨ j = 13 ∨ j = 14 ∨ j = 15 ∨ j = 16 by omega) with rfl | rfl | rfl | rfl | rfl | rfl | rfl | rfl | rfl | rfl | rfl | rfl | rfl | rfl | rfl | rfl | rfl <;> rfl) (Nat.le_of_ble_eq_true rfl) (Nat.le_of_ble_eq_true rfl) (dd (pc := 8) rfl) (fun h1 H hP hD hS => ?_)
  have hP : va_P D vwCl [(h0, .inr (0, [.int 1, .ref q1, .ref q2, .ref q3, .ref q4, .int 0, .int 0, .int 0, .ref q5, .ref q6, .int 0, .ref q7, .ref q8, .ref q9, .int 0, .ref q10, .ref q11])), (q1, .inl (cA 0, (16, .inl (upd (fun _ => (0 : Int32)) 0 1)))), (q2, .inl (cA 0, (16, .inl (fun _ => (0 : Int32))))), (q3, .inl (cA 0, (16, .inl (fun _ => (0 : Int32))))), (q4, .inl (cA 0, (16, .inl (fun _ => (0 : Int32))))), (q5, .inl (cA 0, (8, .inl (fun _ => (0 : Int32))))), (q6, .inl (cA 0, (8, .inl (fun _ => (0 : Int32))))), (q7, .inl (cA 0, (20, .inl (fun _ => (0 : Int32))))), (q8, .inl (cA 0, (20, .inl (fun _ => (0 : Int32))))), (q9, .inl (cA 0, (20, .inl (fun _ => (0 : Int32))))), (q10, .inl (cA 0, (20, .inl (fun _ => (0 : Int32))))), (q11, .inl (cA 0, (20, .inl (fun _ => (0 : Int32))))), (h1, .inr (1, [.int 0, .null, .null, .null, .null, .null, .null, .null, .int 0, .null, .null, .int 0, .null, .null, .null, .null, .int 0]))] H := hP
  have hD : va_D (Ar s.heap.size) [(h0, .inr (0, [.int 1, .ref q1, .ref q2, .ref q3, .ref q4, .int 0, .int 0, .int 0, .ref q5, .ref q6, .int 0, .ref q7, .ref q8, .ref q9, .int 0, .ref q10, .ref q11])), (q1, .inl (cA 0, (16, .inl (upd (fun _ => (0 : Int32)) 0 1)))), (q2, .inl (cA 0, (16, .inl (fun _ => (0 : Int32))))), (q3, .inl (cA 0, (16, .inl (fun _ => (0 : Int32))))), (q4, .inl (cA 0, (16, .inl (fun _ => (0 : Int32))))), (q5, .inl (cA 0, (8, .inl (fun _ => (0 : Int32))))), (q6, .inl (cA 0, (8, .inl (fun _ => (0 : Int32))))), (q7, .inl (cA 0, (20, .inl (fun _ => (0 : Int32))))), (q8, .inl (cA 0, (20, .inl (fun _ => (0 : Int32))))), (q9, .inl (cA 0, (20, .inl (fun _ => (0 : Int32))))), (q10, .inl (cA 0, (20, .inl (fun _ => (0 : Int32))))), (q11, .inl (cA 0, (20, .inl (fun _ => (0 : Int32))))), (h1, .inr (1, [.int 0, .null, .null, .null, .null, .null, .null, .null, .int 0, .null, .null, .int 0, .null, .null, .null, .null, .int 0]))] := hD
  refine W.widen (k := 13) (n := 214) (by omega) (by omega) ?_
  refine lv_dup hx hb (dd (pc := 11) rfl) rfl ?_
  have hPc := hP.sub (ws' := stM h1) [12] rfl
  have hDc := hD.sub (ws' := stM h1) [12] (by decide) rfl
  have hFc := va_free (wc := stM h1) hD hS hA [12] rfl
  refine va_callv (va_runI (As := []) (rest := [.ref h1]) ⟨hx, hb, hml, hown, htt⟩ (ct_M l D cA h1 H.size) (cwI 0 htt (good_TT (fun w h => (List.mem_cons.mp h).elim (fun e => by rw [e]; exact ct_in 7 rfl) id)) rfl rfl rfl (hts _ (lt_in 10 rfl)) (hts _ (lt_in 2 rfl)) (hts _ (lt_in 4 rfl)) rfl (by decide +kernel) ⟨Nat.le_of_ble_eq_true rfl, Nat.le_of_ble_eq_true rfl⟩) ⟨fun a U g mk q => by obtain ⟨q0, q1, qP, qK, qD⟩ := q; exact ⟨q0, q1, qP, va_K.moved (u := U) (U := U.calling g mk a) (Vm.Alike.refl U.vm) qK, qD⟩, fun U hU hW => ⟨rfl, by rw [hU], by rw [hU]; exact hPc, va_K.moved hW.alike hK, hDc.weaken (fun _ _ _ _ => trivial)⟩⟩ rfl rfl hl.1 rfl (lv_room (Nat.le_of_ble_eq_true rfl)) (dd (pc := 12) rfl) ⟨Nat.le_of_ble_eq_true rfl, Nat.le_of_ble_eq_true rfl⟩) hS (fun q _ h => hFc q h) hFc (fun u t1 H1 locs ht hvm hw hB hz1 hk1 hS => ?_)
  obtain ⟨g1, g2, g3, g4, g5, g6, g7, g8, g9, g10, g11, g12, g13, hP1, hD1⟩ := hB
  rw [ht] at hP1
  obtain ⟨hP, hD⟩ := va_join (wr := wldX cA h0 q1 q2 q3 q4 q5 q6 q7 q8 q9 q10 q11) (w1 := wldM cA h1 g1 g2 g3 g4 g5 g6 g7 g8 g9 g10 g11 g12 g13) hP hD [12] [0, 1, 2, 3, 4, 5, 6, 7, 8, 9, 10, 11] rfl rfl (by decide) (by decide) hk1 hFc hP1 hD1
  generalize H1 = H at hP hS ⊢
  have hP : va_P D vwCl [(h0, .inr (0, [.int 1, .ref q1, .ref q2, .ref q3, .ref q4, .int 0, .int 0, .int 0, .ref q5, .ref q6, .int 0, .ref q7, .ref q8, .ref q9, .int 0, .ref q10, .ref q11])), (q1, .inl (cA 0, (16, .inl (upd (fun _ => (0 : Int32)) 0 1)))), (q2, .inl (cA 0, (16, .inl (fun _ => (0 : Int32))))), (q3, .inl (cA 0, (16, .inl (fun _ => (0 : Int32))))), (q4, .inl (cA 0, (16, .inl (fun _ => (0 : Int32))))), (q5, .inl (cA 0, (8, .inl (fun _ => (0 : Int32))))), (q6, .inl (cA 0, (8, .inl (fun _ => (0 : Int32))))), (q7, .inl (cA 0, (20, .inl (fun _ => (0 : Int32))))), (q8, .inl (cA 0, (20, .inl (fun _ => (0 : Int32))))), (q9, .inl (cA 0, (20, .inl (fun _ => (0 : Int32))))), (q10, .inl (cA 0, (20, .inl (fun _ => (0 : Int32))))), (q11, .inl (cA 0, (20, .inl (fun _ => (0 : Int32))))), (h1, .inr (1, [.int 1, .ref g1, .ref g2, .ref g3, .ref g4, .ref g5, .ref g6, .ref g7, .int 0, .ref g8, .ref g9, .int 0, .ref g10, .ref g11, .ref g12, .ref g13, .int 0])), (g1, .inl (cA 0, (16, .inl (upd (fun _ => (0 : Int32)) 0 (-1))))), (g2, .inl (cA 0, (16, .inl (fun _ => (0 : Int32))))), (g3, .inl (cA 0, (16, .inl (fun _ => (0 : Int32))))), (g4, .inl (cA 0, (16, .inl (upd (fun _ => (0 : Int32)) 0 (-1))))), (g5, .inl (cA 1, (16, .inl (fun _ => (0 : Int32))))), (g6, .inl (cA 1, (16, .inl (fun _ => (0 : Int32))))), (g7, .inl (cA 0, (11, .inl (upd (upd (upd (upd (upd (upd (upd (upd (upd (upd (fun _ => (0 : Int32)) 1 120) 2 280) 3 490) 4 730) 5 1000) 6 1290) 7 1600) 8 1930) 9 2280) 10 2650)))), (g8, .inl (cA 0, (8, .inl (fun _ => (0 : Int32))))), (g9, .inl (cA 0, (8, .inl (fun _ => (0 : Int32))))), (g10, .inl (cA 0, (20, .inl (fun _ => (0 : Int32))))), (g11, .inl (cA 0, (20, .inl (fun _ => (0 : Int32))))), (g12, .inl (cA 0, (20, .inl (fun _ => (0 : Int32))))), (g13, .inl (cA 1, (20, .inl (fun _ => (0 : Int32)))))] H := hP
  have hD : va_D (Ar s.heap.size) [(h0, .inr (0, [.int 1, .ref q1, .ref q2, .ref q3, .ref q4, .int 0, .int 0, .int 0, .ref q5, .ref q6, .int 0, .ref q7, .ref q8, .ref q9, .int 0, .ref q10, .ref q11])), (q1, .inl (cA 0, (16, .inl (upd (fun _ => (0 : Int32)) 0 1)))), (q2, .inl (cA 0, (16, .inl (fun _ => (0 : Int32))))), (q3, .inl (cA 0, (16, .inl (fun _ => (0 : Int32))))), (q4, .inl (cA 0, (16, .inl (fun _ => (0 : Int32))))), (q5, .inl (cA 0, (8, .inl (fun _ => (0 : Int32))))), (q6, .inl (cA 0, (8, .inl (fun _ => (0 : Int32))))), (q7, .inl (cA 0, (20, .inl (fun _ => (0 : Int32))))), (q8, .inl (cA 0, (20, .inl (fun _ => (0 : Int32))))), (q9, .inl (cA 0, (20, .inl (fun _ => (0 : Int32))))), (q10, .inl (cA 0, (20, .inl (fun _ => (0 : Int32))))), (q11, .inl (cA 0, (20, .inl (fun _ => (0 : Int32))))), (h1, .inr (1, [.int 1, .ref g1, .ref g2, .ref g3, .ref g4, .ref g5, .ref g6, .ref g7, .int 0, .ref g8, .ref g9, .int 0, .ref g10, .ref g11, .ref g12, .ref g13, .int 0])), (g1, .inl (cA 0, (16, .inl (upd (fun _ => (0 : Int32)) 0 (-1))))), (g2, .inl (cA 0, (16, .inl (fun _ => (0 : Int32))))), (g3, .inl (cA 0, (16, .inl (fun _ => (0 : Int32))))), (g4, .inl (cA 0, (16, .inl (upd (fun _ => (0 : Int32)) 0 (-1))))), (g5, .inl (cA 1, (16, .inl (fun _ => (0 : Int32))))), (g6, .inl (cA 1, (16, .inl (fun _ => (0 : Int32))))), (g7, .inl (cA 0, (11, .inl (upd (upd (upd (upd (upd (upd (upd (upd (upd (upd (fun _ => (0 : Int32)) 1 120) 2 280) 3 490) 4 730) 5 1000) 6 1290) 7 1600) 8 1930) 9 2280) 10 2650)))), (g8, .inl (cA 0, (8, .inl (fun _ => (0 : Int32))))), (g9, .inl (cA 0, (8, .inl (fun _ => (0 : Int32))))), (g10, .inl (cA 0, (20, .inl (fun _ => (0 : Int32))))), (g11, .inl (cA 0, (20, .inl (fun _ => (0 : Int32))))), (g12, .inl (cA 0, (20, .inl (fun _ => (0 : Int32))))), (g13, .inl (cA 1, (20, .inl (fun _ => (0 : Int32)))))] := hD
  refine W.widen (k := 26) (n := 417) (by omega) (by omega) ?_
  refine lv_astore_n (lv' := [(2, .ref h1), (1, .ref h0), (0, .ref b)]) hx hb (dd (pc := 15) rfl) rfl hl (by decide) rfl (fun ls hl => ?_)
  refine lv_iconst (v := 1) hx hb (dd (pc := 16) rfl) (by decide) ?_
  refine va_newa (atype := .long) (ty := .long) (N' := 1) (a0 := (1, .inr (.inl (fun _ => (0 : Int64))))) hx hb (hts _ (lt_in 0 rfl)) rfl hK hP hD hS hA (fun _ => rfl) (by decide) (by decide) (by decide) (Nat.le_of_ble_eq_true rfl) (Nat.le_of_ble_eq_true rfl) (dd (pc := 17) rfl) (fun g0 c1 H hK1 hP hD hS => ?_)
  have e1 : c1 = cA 2 := by
    have h1 : s.vm.findClass ("[" ++ FieldType.long.toString) = some c1 := (hK1.2 3 (c1, .long) rfl).2
    have h2 : s.vm.findClass ("[" ++ FieldType.long.toString) = some (cA 2) := (hK.2 2 (cA 2, .long) rfl).2
    exact Option.some.inj (h1.symm.trans h2)
  subst e1
  have hP : va_P D vwCl [(h0, .inr (0, [.int 1, .ref q1, .ref q2, .ref q3, .ref q4, .int 0, .int 0, .int 0, .ref q5, .ref q6, .int 0, .ref q7, .ref q8, .ref q9, .int 0, .ref q10, .ref q11])), (q1, .inl (cA 0, (16, .inl (upd (fun _ => (0 : Int32)) 0 1)))), (q2, .inl (cA 0, (16, .inl (fun _ => (0 : Int32))))), (q3, .inl (cA 0, (16, .inl (fun _ => (0 : Int32))))), (q4, .inl (cA 0, (16, .inl (fun _ => (0 : Int32))))), (q5, .inl (cA 0, (8, .inl (fun _ => (0 : Int32))))), (q6, .inl (cA 0, (8, .inl (fun _ => (0 : Int32))))), (q7, .inl (cA 0, (20, .inl (fun _ => (0 : Int32))))), (q8, .inl (cA 0, (20, .inl (fun _ => (0 : Int32))))), (q9, .inl (cA 0, (20, .inl (fun _ => (0 : Int32))))), (q10, .inl (cA 0, (20, .inl (fun _ => (0 : Int32))))), (q11, .inl (cA 0, (20, .inl (fun _ => (0 : Int32))))), (h1, .inr (1, [.int 1, .ref g1, .ref g2, .ref g3, .ref g4, .ref g5, .ref g6, .ref g7, .int 0, .ref g8, .ref g9, .int 0, .ref g10, .ref g11, .ref g12, .ref g13, .int 0])), (g1, .inl (cA 0, (16, .inl (upd (fun _ => (0 : Int32)) 0 (-1))))), (g2, .inl (cA 0, (16, .inl (fun _ => (0 : Int32))))), (g3, .inl (cA 0, (16, .inl (fun _ => (0 : Int32))))), (g4, .inl (cA 0, (16, .inl (upd (fun _ => (0 : Int32)) 0 (-1))))), (g5, .inl (cA 1, (16, .inl (fun _ => (0 : Int32))))), (g6, .inl (cA 1, (16, .inl (fun _ => (0 : Int32))))), (g7, .inl (cA 0, (11, .inl (upd (upd (upd (upd (upd (upd (upd (upd (upd (upd (fun _ => (0 : Int32)) 1 120) 2 280) 3 490) 4 730) 5 1000) 6 1290) 7 1600) 8 1930) 9 2280) 10 2650)))), (g8, .inl (cA 0, (8, .inl (fun _ => (0 : Int32))))), (g9, .inl (cA 0, (8, .inl (fun _ => (0 : Int32))))), (g10, .inl (cA 0, (20, .inl (fun _ => (0 : Int32))))), (g11, .inl (cA 0, (20, .inl (fun _ => (0 : Int32))))), (g12, .inl (cA 0, (20, .inl (fun _ => (0 : Int32))))), (g13, .inl (cA 1, (20, .inl (fun _ => (0 : Int32))))), (g0, .inl (cA 2, (1, .inr (.inl (fun _ => (0 : Int64))))))] H := hP
  have hD : va_D (Ar s.heap.size) [(h0, .inr (0, [.int 1, .ref q1, .ref q2, .ref q3, .ref q4, .int 0, .int 0, .int 0, .ref q5, .ref q6, .int 0, .ref q7, .ref q8, .ref q9, .int 0, .ref q10, .ref q11])), (q1, .inl (cA 0, (16, .inl (upd (fun _ => (0 : Int32)) 0 1)))), (q2, .inl (cA 0, (16, .inl (fun _ => (0 : Int32))))), (q3, .inl (cA 0, (16, .inl (fun _ => (0 : Int32))))), (q4, .inl (cA 0, (16, .inl (fun _ => (0 : Int32))))), (q5, .inl (cA 0, (8, .inl (fun _ => (0 : Int32))))), (q6, .inl (cA 0, (8, .inl (fun _ => (0 : Int32))))), (q7, .inl (cA 0, (20, .inl (fun _ => (0 : Int32))))), (q8, .inl (cA 0, (20, .inl (fun _ => (0 : Int32))))), (q9, .inl (cA 0, (20, .inl (fun _ => (0 : Int32))))), (q10, .inl (cA 0, (20, .inl (fun _ => (0 : Int32))))), (q11, .inl (cA 0, (20, .inl (fun _ => (0 : Int32))))), (h1, .inr (1, [.int 1, .ref g1, .ref g2, .ref g3, .ref g4, .ref g5, .ref g6, .ref g7, .int 0, .ref g8, .ref g9, .int 0, .ref g10, .ref g11, .ref g12, .ref g13, .int 0])), (g1, .inl (cA 0, (16, .inl (upd (fun _ => (0 : Int32)) 0 (-1))))), (g2, .inl (cA 0, (16, .inl (fun _ => (0 : Int32))))), (g3, .inl (cA 0, (16, .inl (fun _ => (0 : Int32))))), (g4, .inl (cA 0, (16, .inl (upd (fun _ => (0 : Int32)) 0 (-1))))), (g5, .inl (cA 1, (16, .inl (fun _ => (0 : Int32))))), (g6, .inl (cA 1, (16, .inl (fun _ => (0 : Int32))))), (g7, .inl (cA 0, (11, .inl (upd (upd (upd (upd (upd (upd (upd (upd (upd (upd (fun _ => (0 : Int32)) 1 120) 2 280) 3 490) 4 730) 5 1000) 6 1290) 7 1600) 8 1930) 9 2280) 10 2650)))), (g8, .inl (cA 0, (8, .inl (fun _ => (0 : Int32))))), (g9, .inl (cA 0, (8, .inl (fun _ => (0 : Int32))))), (g10, .inl (cA 0, (20, .inl (fun _ => (0 : Int32))))), (g11, .inl (cA 0, (20, .inl (fun _ => (0 : Int32))))), (g12, .inl (cA 0, (20, .inl (fun _ => (0 : Int32))))), (g13, .inl (cA 1, (20, .inl (fun _ => (0 : Int32))))), (g0, .inl (cA 2, (1, .inr (.inl (fun _ => (0 : Int64))))))] := hD
  refine W.widen (k := 27) (n := 418) (by omega) (by omega) ?_
  refine lv_astore_n (lv' := [(3, .ref g0), (2, .ref h1), (1, .ref h0), (0, .ref b)]) hx hb (dd (pc := 19) rfl) rfl hl (by decide) rfl (fun ls hl => ?_)
  refine lv_iconst (v := 0) hx hb (dd (pc := 20) rfl) (by decide) ?_
  refine lv_istore (lv' := [(4, .int 0), (3, .ref g0), (2, .ref h1), (1, .ref h0), (0, .ref b)]) hx hb (dd (pc := 21) rfl) hl (by decide) rfl (fun ls hl => ?_)
  have hPw : va_P D vwCl (wld (fun i => ([h0, q1, q2, q3, q4, q5, q6, q7, q8, q9, q10, q11, h1, g1, g2, g3, g4, g5, g6, g7, g8, g9, g10, g11, g12, g13, g0] : List Nat).getD i 0) cA S0) H := hP
  have hDw : va_D (Ar s.heap.size) (wld (fun i => ([h0, q1, q2, q3, q4, q5, q6, q7, q8, q9, q10, q11, h1, g1, g2, g3, g4, g5, g6, g7, g8, g9, g10, g11, g12, g13, g0] : List Nat).getD i 0) cA S0) := hD
  exact law_run l hflags hL C0 hEv hPw hDw hS (lv_sub hl [0, 4, 3, 2, 1] rfl)

set_option maxHeartbeats 4000000 in
theorem lw_walk (l : Launch) (hflags : l.flags = flags0) (b : Addr) (xs : List Int32) : MetFree l x (headSpec (Jvm.Cond.code x code maxLocals ret :: tables_1) room_1) (lw_P b xs) (fun _ _ _ _ _ => True) lw_Q := by
  refine MetFree.of_bodyS (code := code) (maxLocals := maxLocals) (ret := ret) (by decide) ?_ ?_
  · intro args s m h hn
    obtain ⟨meth, c, h1, h2, h3, h4, h5, h6, -, -⟩ := Cond.code_spec hn (atoms_spec (ws := Jvm.Cond.code x code maxLocals ret :: tables_1) h _ List.mem_cons_self)
    exact ⟨meth, c, h1, h2, h3, h4, h5, h6⟩
  · intro p e s m args below meth c s₁ B hml0 hP _
    obtain ⟨rfl, hx, hbd, hgv⟩ := hP
    obtain ⟨scr, harrAt, hlist, hof, hsmall⟩ := hx
    obtain ⟨hcb, hkn, -, -⟩ := State.arrayAt?_spec harrAt
    have hown : s.vm.findClass R_law = some m.cls := findClass_of_methodNamed B.named
    have hts0 : ∀ c ∈ (Jvm.Cond.code x code maxLocals ret :: tables_1), c.before #[Value.ref b] s = true := atoms_spec (ws := Jvm.Cond.code x code maxLocals ret :: tables_1) B.pre
    have hts : ∀ w ∈ lw_tbl, w.before #[Value.ref b] s = true := k2_hts_sels lw_privs (fun w hw => hts0 w (List.mem_cons_of_mem _ hw)) lw_privs_ok
    have hml : c.maxLocals = 7 := B.maxLocals_eq (hts0 _ List.mem_cons_self)
    have X₀ : Stand p l e room_1 s m #[Value.ref b] below meth c s₁ [] 0 0 := Stand.of_body B
    have hh0 : s₁.heap = s.heap := by rw [B.state]; rfl
    have hsz : scr.slots.size = xs.length := by rw [← Array.length_toList, hlist, List.length_map]
    have hval : ∀ j : Nat, j < xs.length → scr.slots[j]? = some (.int (xs.getD j 0)) := fun j hj => by
      rw [← Array.getElem?_toList, hlist]
      simp [hj]
    have hbl : b < s.heap.size := (Array.getElem?_eq_some_iff.mp hcb).1
    have htab : c.exceptionTable.toList = [] := by
      obtain ⟨meth9, c9, h1, h2, -, -, -, -, h7, -⟩ := Cond.code_spec B.named (hts0 _ List.mem_cons_self)
      cases Option.some.inj (h1.symm.trans B.method)
      cases Option.some.inj (h2.symm.trans (Stand.of_body B).code)
      rw [Array.isEmpty_iff.mp h7]
    have hX : va_X b xs.length (fun j => xs.getD j 0) s s.heap := ⟨scr, hcb, hof, hkn, hsz, hval⟩
    have K : W p l e room_1 s m #[Value.ref b] below meth c s₁.heap [] 0 0 (lw_Z below #[Value.ref b] s) (entryFrame m ([Value.ref b] : List Value).toArray 7) := by
      rw [hh0]
      exact whole_start l hflags hbd ⟨B.exec, B.bytes, B.returns, hml, hown, hts, hX, hbl, B.notSynchronized, hgv, htab⟩
    obtain ⟨t, a1, o, b1, b2, b3⟩ := K s₁ rfl X₀
    exact ⟨t, o, a1, b1, b2, b3⟩
theorem lw_pre_spec {args : Array Value} {s : State} (h : (Jvm.Cond.and given_1 narrow_1).before args s = true) (hr : rest_1_c.before args s = true) : ∃ (b : Addr) (xs : List Int32), lw_P b xs args s := by
  have hs := flat_of_before _ h
  have hq := flat_of_before _ hr
  have hc : (Cond.count 1).before args s = true := hs _ (by decide +kernel)
  have harr : (Cond.arrayOf (.arg 0) .int).before args s = true := hs _ (by decide +kernel)
  have hle : (Cond.le (.length (.arg 0)) (.int 2048)).before args s = true := hs _ (by decide +kernel)
  have hlen : (Cond.isInt (.length (.arg 0))).before args s = true := hq _ (by decide +kernel)
  have hall : (Cond.all (.arg 0) (.isInt (.elem (.arg 0) (.index 0)))).before args s = true := hq _ (by decide +kernel)
  obtain ⟨b, xs, hb, hx⟩ := State.ints_of_pre rfl harr hlen hall
  have hsm : xs.length < 2 ^ 31 := hx.choose_spec.2.2.2
  have hev : (Term.length (.arg 0)).eval args s none [] s = some (.int xs.length.toInt32) := hx.length_eval hb
  have hv := Cond.le_ints hev (show (Term.int 2048).eval args s none [] s = some (.int 2048) from rfl)
  have hd : xs.length.toInt32 ≤ 2048 := by
    simpa [Cond.before, Cond.holds, hv] using hle
  have hN : xs.length ≤ 2048 := (Int32.ofNat_le_ofNat hsm (by decide)).mp (show Int32.ofNat xs.length ≤ Int32.ofNat 2048 from hd)
  exact ⟨b, xs, Cond.one_arg hc (show args[0]? = some (.ref b) from hb), hx, hN, h⟩
theorem lw_comes (l : Launch) (hflags : l.flags = flags0) : Comes l x (Jvm.Cond.code x code maxLocals ret :: tables_1) room_1 (fun tb e args s => Calls_1 tb e args s ∧ rest_1 tb e args s ∧ Pre_1 tb e args s)
    (fun _ _ args s o t => lw_Q args s o t) := by
  intro p e ha hc hk s m args below hf hfit hheap happ hpre
  obtain ⟨b, xs, hP⟩ := lw_pre_spec hpre.2.2 hpre.2.1
  obtain ⟨k, o, h1, h2, h3, hQ⟩ := lw_walk l hflags b xs p e ha hc hk s m args below hf ((Spec.applies_iff_loose hf).mp happ).1 hP trivial
  exact ⟨k, o, h1, h2, h3, hQ⟩
theorem lw_frame {s t : State} {o : Outcome} {args : Array Value} (h : Framed s o t [] 1063 8682) :
    Framed s o t (fieldLocs frame_1_writes args s ++ arrayLocs frame_1_arrays args s ++ staticLocs frame_1_statics s) 1063 8682 := h
theorem lw_limb (L : Cond) (hL : ∀ (args : Array Value) (s t : State), L.after args s (.returned (some (.int 1))) t = true) :
    ArmFor flags0 classFile x code maxLocals ret World_1 tables_1 room_1 Calls_1 rest_1 Pre_1
      (fun tb e a s o t => postC L tb e a s o t ∧ Framed s o t (fieldLocs frame_1_writes a s ++ arrayLocs frame_1_arrays a s ++ staticLocs frame_1_statics s) 1063 8682) := by
  intro l hflags _ _ p e ha hc hk s m args below hf hfit hheap happ hpre
  obtain ⟨k, o, h1, h2, h3, rfl, hF⟩ := lw_comes l hflags p e ha hc hk s m args below hf hfit hheap happ hpre
  exact ⟨k, _, h1, h2, h3, hL args s _, lw_frame hF⟩
theorem i_vc : Claimed_1_1 ∧ Claimed_1_2 := ⟨lw_limb limb_1_1 (fun args s t => by simp [limb_1_1, Cond.after, Cond.holds, Cond.value]), lw_limb limb_1_2 (fun args s t => Cond.after_iff.mpr (by
  first | (rw [show limb_1_2 = Cond.eq .result (.int 1) from rfl, Cond.eq_ints (x := 1) (y := 1) rfl rfl]; simp; done) | (simp [limb_1_2, Cond.value, Term.eval]; done)))⟩

