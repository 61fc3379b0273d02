section
def lw_okq (q : MethodName × Nat) : Prop := (q.1.cls ≠ "java/lang/invoke/MethodHandle" ∧ q.1.cls ≠ "java/lang/invoke/VarHandle") ∧ Cond.instantiable q.1.cls q.2 ∈ tables_1 ∧ Cond.privateMethod q.1 ∈ tables_1 ∧ Cond.instanceMethod q.1 ∈ tables_1
theorem lw_p0 : lw_okq (⟨"Districtmeter", "flowTo", "(I)I"⟩, 17) := ⟨⟨by decide +kernel, by decide +kernel⟩, List.mem_of_getElem? (i := 10) (by decide +kernel), List.mem_of_getElem? (i := 75) (by decide +kernel), List.mem_of_getElem? (i := 76) (by decide +kernel)⟩
theorem lw_p1 : lw_okq (⟨"Districtmeter", "takenAt", "(II)I"⟩, 17) := ⟨⟨by decide +kernel, by decide +kernel⟩, List.mem_of_getElem? (i := 10) (by decide +kernel), List.mem_of_getElem? (i := 82) (by decide +kernel), List.mem_of_getElem? (i := 83) (by decide +kernel)⟩
theorem lw_p2 : lw_okq (⟨"Districtmeter", "isOpenTo", "(II)Z"⟩, 17) := ⟨⟨by decide +kernel, by decide +kernel⟩, List.mem_of_getElem? (i := 10) (by decide +kernel), List.mem_of_getElem? (i := 86) (by decide +kernel), List.mem_of_getElem? (i := 87) (by decide +kernel)⟩
theorem lw_p3 : lw_okq (⟨"Districtmeter", "leakageAt", "(I)I"⟩, 17) := ⟨⟨by decide +kernel, by decide +kernel⟩, List.mem_of_getElem? (i := 10) (by decide +kernel), List.mem_of_getElem? (i := 90) (by decide +kernel), List.mem_of_getElem? (i := 91) (by decide +kernel)⟩
theorem lw_p4 : lw_okq (⟨"Districtmeter", "amountAt", "(I)I"⟩, 17) := ⟨⟨by decide +kernel, by decide +kernel⟩, List.mem_of_getElem? (i := 10) (by decide +kernel), List.mem_of_getElem? (i := 94) (by decide +kernel), List.mem_of_getElem? (i := 95) (by decide +kernel)⟩
theorem lw_p5 : lw_okq (⟨"Districtmeter", "leakageOf", "(II)I"⟩, 17) := ⟨⟨by decide +kernel, by decide +kernel⟩, List.mem_of_getElem? (i := 10) (by decide +kernel), List.mem_of_getElem? (i := 98) (by decide +kernel), List.mem_of_getElem? (i := 99) (by decide +kernel)⟩
theorem lw_p6 : lw_okq (⟨"Districtmeter", "pressureAt", "(I)I"⟩, 17) := ⟨⟨by decide +kernel, by decide +kernel⟩, List.mem_of_getElem? (i := 10) (by decide +kernel), List.mem_of_getElem? (i := 102) (by decide +kernel), List.mem_of_getElem? (i := 103) (by decide +kernel)⟩
theorem lw_p7 : lw_okq (⟨"java/lang/Throwable", "fillInStackTrace", "(I)Ljava/lang/Throwable;"⟩, 6) := ⟨⟨by decide +kernel, by decide +kernel⟩, List.mem_of_getElem? (i := 162) (by decide +kernel), List.mem_of_getElem? (i := 160) (by decide +kernel), List.mem_of_getElem? (i := 161) (by decide +kernel)⟩
theorem lw_p8 : lw_okq (⟨"Districtmeter", "needNode", "(I)V"⟩, 17) := ⟨⟨by decide +kernel, by decide +kernel⟩, List.mem_of_getElem? (i := 10) (by decide +kernel), List.mem_of_getElem? (i := 192) (by decide +kernel), List.mem_of_getElem? (i := 193) (by decide +kernel)⟩
theorem lw_p9 : lw_okq (⟨"Districtmeter", "needPipe", "(I)V"⟩, 17) := ⟨⟨by decide +kernel, by decide +kernel⟩, List.mem_of_getElem? (i := 10) (by decide +kernel), List.mem_of_getElem? (i := 239) (by decide +kernel), List.mem_of_getElem? (i := 240) (by decide +kernel)⟩
theorem lw_p10 : lw_okq (⟨"Districtmeter", "needArea", "(I)V"⟩, 17) := ⟨⟨by decide +kernel, by decide +kernel⟩, List.mem_of_getElem? (i := 10) (by decide +kernel), List.mem_of_getElem? (i := 252) (by decide +kernel), List.mem_of_getElem? (i := 253) (by decide +kernel)⟩
theorem lw_p11 : lw_okq (⟨"Districtmeter", "nodesOf", "(I)I"⟩, 17) := ⟨⟨by decide +kernel, by decide +kernel⟩, List.mem_of_getElem? (i := 10) (by decide +kernel), List.mem_of_getElem? (i := 258) (by decide +kernel), List.mem_of_getElem? (i := 259) (by decide +kernel)⟩
theorem lw_p12 : lw_okq (⟨"Districtmeter", "needBurst", "(I)V"⟩, 17) := ⟨⟨by decide +kernel, by decide +kernel⟩, List.mem_of_getElem? (i := 10) (by decide +kernel), List.mem_of_getElem? (i := 276) (by decide +kernel), List.mem_of_getElem? (i := 277) (by decide +kernel)⟩
theorem lw_p13 : lw_okq (⟨"Districtmeter", "costOf", "(I)I"⟩, 17) := ⟨⟨by decide +kernel, by decide +kernel⟩, List.mem_of_getElem? (i := 10) (by decide +kernel), List.mem_of_getElem? (i := 282) (by decide +kernel), List.mem_of_getElem? (i := 283) (by decide +kernel)⟩
theorem lw_p14 : lw_okq (⟨"Districtmeter", "outerExports", "(I)I"⟩, 17) := ⟨⟨by decide +kernel, by decide +kernel⟩, List.mem_of_getElem? (i := 10) (by decide +kernel), List.mem_of_getElem? (i := 306) (by decide +kernel), List.mem_of_getElem? (i := 307) (by decide +kernel)⟩
theorem lw_p15 : lw_okq (⟨"Districtmeter", "takenBy", "(II)I"⟩, 17) := ⟨⟨by decide +kernel, by decide +kernel⟩, List.mem_of_getElem? (i := 10) (by decide +kernel), List.mem_of_getElem? (i := 315) (by decide +kernel), List.mem_of_getElem? (i := 316) (by decide +kernel)⟩
def lw_privs_1 : List (MethodName × Nat) := [(⟨"Districtmeter", "flowTo", "(I)I"⟩, 17), (⟨"Districtmeter", "takenAt", "(II)I"⟩, 17), (⟨"Districtmeter", "isOpenTo", "(II)Z"⟩, 17), (⟨"Districtmeter", "leakageAt", "(I)I"⟩, 17), (⟨"Districtmeter", "amountAt", "(I)I"⟩, 17), (⟨"Districtmeter", "leakageOf", "(II)I"⟩, 17), (⟨"Districtmeter", "pressureAt", "(I)I"⟩, 17), (⟨"java/lang/Throwable", "fillInStackTrace", "(I)Ljava/lang/Throwable;"⟩, 6), (⟨"Districtmeter", "needNode", "(I)V"⟩, 17), (⟨"Districtmeter", "needPipe", "(I)V"⟩, 17), (⟨"Districtmeter", "needArea", "(I)V"⟩, 17), (⟨"Districtmeter", "nodesOf", "(I)I"⟩, 17), (⟨"Districtmeter", "needBurst", "(I)V"⟩, 17), (⟨"Districtmeter", "costOf", "(I)I"⟩, 17), (⟨"Districtmeter", "outerExports", "(I)I"⟩, 17), (⟨"Districtmeter", "takenBy", "(II)I"⟩, 17)]
theorem lw_r1 : ∀ q ∈ lw_privs_1, lw_okq q := List.forall_mem_cons.mpr ⟨lw_p0, List.forall_mem_cons.mpr ⟨lw_p1, List.forall_mem_cons.mpr ⟨lw_p2, List.forall_mem_cons.mpr ⟨lw_p3, List.forall_mem_cons.mpr ⟨lw_p4, List.forall_mem_cons.mpr ⟨lw_p5, List.forall_mem_cons.mpr ⟨lw_p6, List.forall_mem_cons.mpr ⟨lw_p7, List.forall_mem_cons.mpr ⟨lw_p8, List.forall_mem_cons.mpr ⟨lw_p9, List.forall_mem_cons.mpr ⟨lw_p10, List.forall_mem_cons.mpr ⟨lw_p11, List.forall_mem_cons.mpr ⟨lw_p12, List.forall_mem_cons.mpr ⟨lw_p13, List.forall_mem_cons.mpr ⟨lw_p14, List.forall_mem_cons.mpr ⟨lw_p15, fun _ h => absurd h List.not_mem_nil⟩⟩⟩⟩⟩⟩⟩⟩⟩⟩⟩⟩⟩⟩⟩⟩
theorem lw_p16 : lw_okq (⟨"Districtmeter", "usedBy", "(I)I"⟩, 17) := ⟨⟨by decide +kernel, by decide +kernel⟩, List.mem_of_getElem? (i := 10) (by decide +kernel), List.mem_of_getElem? (i := 323) (by decide +kernel), List.mem_of_getElem? (i := 324) (by decide +kernel)⟩
theorem lw_p17 : lw_okq (⟨"Districtmeter", "pipesToShut", "(I)I"⟩, 17) := ⟨⟨by decide +kernel, by decide +kernel⟩, List.mem_of_getElem? (i := 10) (by decide +kernel), List.mem_of_getElem? (i := 331) (by decide +kernel), List.mem_of_getElem? (i := 332) (by decide +kernel)⟩
theorem lw_p18 : lw_okq (⟨"Districtmeter", "pipeOfStep", "(II)I"⟩, 17) := ⟨⟨by decide +kernel, by decide +kernel⟩, List.mem_of_getElem? (i := 10) (by decide +kernel), List.mem_of_getElem? (i := 339) (by decide +kernel), List.mem_of_getElem? (i := 340) (by decide +kernel)⟩
theorem lw_p19 : lw_okq (⟨"Districtmeter", "rankBursts", "()I"⟩, 17) := ⟨⟨by decide +kernel, by decide +kernel⟩, List.mem_of_getElem? (i := 10) (by decide +kernel), List.mem_of_getElem? (i := 359) (by decide +kernel), List.mem_of_getElem? (i := 360) (by decide +kernel)⟩
theorem lw_p20 : lw_okq (⟨"Districtmeter", "insertByRank", "(II)V"⟩, 17) := ⟨⟨by decide +kernel, by decide +kernel⟩, List.mem_of_getElem? (i := 10) (by decide +kernel), List.mem_of_getElem? (i := 363) (by decide +kernel), List.mem_of_getElem? (i := 364) (by decide +kernel)⟩
theorem lw_p21 : lw_okq (⟨"Districtmeter", "isAhead", "(II)Z"⟩, 17) := ⟨⟨by decide +kernel, by decide +kernel⟩, List.mem_of_getElem? (i := 10) (by decide +kernel), List.mem_of_getElem? (i := 367) (by decide +kernel), List.mem_of_getElem? (i := 368) (by decide +kernel)⟩
def lw_privs_2 : List (MethodName × Nat) := [(⟨"Districtmeter", "usedBy", "(I)I"⟩, 17), (⟨"Districtmeter", "pipesToShut", "(I)I"⟩, 17), (⟨"Districtmeter", "pipeOfStep", "(II)I"⟩, 17), (⟨"Districtmeter", "rankBursts", "()I"⟩, 17), (⟨"Districtmeter", "insertByRank", "(II)V"⟩, 17), (⟨"Districtmeter", "isAhead", "(II)Z"⟩, 17)]
theorem lw_r2 : ∀ q ∈ lw_privs_2, lw_okq q := List.forall_mem_cons.mpr ⟨lw_p16, List.forall_mem_cons.mpr ⟨lw_p17, List.forall_mem_cons.mpr ⟨lw_p18, List.forall_mem_cons.mpr ⟨lw_p19, List.forall_mem_cons.mpr ⟨lw_p20, List.forall_mem_cons.mpr ⟨lw_p21, fun _ h => absurd h List.not_mem_nil⟩⟩⟩⟩⟩⟩
def lw_privs : List (MethodName × Nat) := lw_privs_1 ++ (lw_privs_2)
def lw_tbl : List Cond := k2_sels lw_privs ++ tables_1
theorem lw_privs_ok : ∀ q ∈ lw_privs, lw_okq q := by
  show ∀ q ∈ lw_privs_1 ++ (lw_privs_2), lw_okq q
  exact List.forall_mem_append.mpr ⟨lw_r1, lw_r2⟩
end
section
theorem goodIn_r {big : List Cond} (ws : List Cond) (ps : List Nat) (hp : ws = ps.filterMap (fun i => big[i]?)) (h : ws.all goodWord = true) : GoodIn big ws := by
  intro w hw
  have h1 := List.all_eq_true.mp h w hw
  rw [hp] at hw
  obtain ⟨i, -, hi⟩ := List.mem_filterMap.mp hw
  have hm : w ∈ big := by first | exact List.mem_of_getElem? hi | exact List.getElem?_mem hi
  exact ⟨hm, good_of_word h1⟩
theorem goodIn_app {big a b : List Cond} (ha : GoodIn big a) (hb : GoodIn big b) : GoodIn big (a ++ b) := fun w h => (List.mem_append.mp h).elim (ha w) (hb w)
theorem goodIn_ca {big a b : List Cond} {c : Cond} (ha : GoodIn big (c :: a)) (hb : GoodIn big b) : GoodIn big (c :: (a ++ b)) := fun w h => (List.mem_cons.mp h).elim (fun e => ha w (List.mem_cons.mpr (Or.inl e))) (fun h => (List.mem_append.mp h).elim (fun h => ha w (List.mem_cons.mpr (Or.inr h))) (hb w))
theorem goodIn_sub {big ws : List Cond} (hm : ∀ w ∈ ws, w ∈ big) (h : ws.all goodWord = true) : GoodIn big ws := fun w hw => ⟨hm w hw, good_of_word (List.all_eq_true.mp h w hw)⟩
section VXA
def vx_T (XC : String → State → State → Prop) (st : State) (q : Addr) (t : State) (mc ms : Nat) (free : Addr → Prop) : Prop :=
  ∃ (E : String) (ce : Cell) (L : List Loc), XC E st t ∧ t.heap[q]? = some ce ∧ ce.vm = .none ∧ st.vm.findClass E = some ce.cls ∧ st.WarmedH t.vm ∧ st.sameButNew ({ t with vm := st.vm } : State) L mc ms ∧ ∀ z ∈ L, free z.base
def vx_Q (Qc : Array Value → State → Outcome → State → Prop) (XC : String → State → State → Prop) (mc ms : Nat) (free : Addr → Prop) : Array Value → State → Outcome → State → Prop := fun a st o t =>
  (Qc a st o t ∧ ∃ L, FrameEnd st o t L mc ms ∧ ∀ q ∈ L, free q.base) ∨ ∃ q, o = .threw q ∧ vx_T XC st q t mc ms free
def vx_Met (l : Launch) (y : MethodName) (ws : List Cond) (rm : Room) (Pc : Array Value → State → Prop) (Qc : Array Value → State → Outcome → State → Prop) (XC : String → State → State → Prop) (mc ms : Nat) (free : Addr → Prop) : Prop :=
  MetFree l y (headSpec ws rm) Pc (fun _ _ _ _ _ => True) (vx_Q Qc XC mc ms free)
def vx_Post (XC : String → State → State → Prop) (mc ms : Nat) (free : Addr → Prop) : Pt → Array Value → Addr → Pt → Prop := fun A a q B =>
  ∃ (g : JFrame) (mk : MethodId) (t : State) (L : List Loc) (E : String) (ce : Cell), B.U.heap = t.heap ∧ B.U.vm = t.vm ∧ XC E (A.U.calling g mk a) t ∧ t.heap[q]? = some ce ∧ ce.vm = .none ∧ A.U.vm.findClass E = some ce.cls ∧ B.locs = A.locs ++ L ∧ (∀ z ∈ L, free z.base) ∧ B.cells = A.cells + mc ∧ B.slots = A.slots + ms
def vx_Back (l : Launch) (R : Room) (p : Program) (e : Env) (below : List Frame) (s : State) (sargs : Array Value) (y : MethodName) (len W9 : Nat)
    (Pre : Pt → Array Value → Prop) (Post : Pt → Array Value → Option Value → Pt → Prop) (PostX : Pt → Array Value → Addr → Pt → Prop) : Prop :=
  ∀ (m : MethodId) (meth : Method) (c : Code) (A : Pt) (g : JFrame) (ig : Instr) (mk : MethodId) (a : Array Value),
    Stand p l e R s m sargs below meth c A.U A.locs A.cells A.slots → g.method = m → g.locals.size = c.maxLocals → decode c.code g.pc = .ok (ig, len) →
    2 * g.monitorRoom + (g.stack.map fun v => v.category).sum ≤ W9 → A.U.methodNamed? y = some mk → Pre A a →
    (∃ (v : Option Value) (B : Pt), Stand p l e R s m sargs below meth c B.U B.locs B.cells B.slots ∧ Post A a v B ∧
      Steps p.tables e below (doInvoke e (A.U.setTop g) [] mk a).1 (B.U.setTop { g with pc := g.pc + len, stack := v.toList ++ g.stack })) ∨
    (∃ (q : Addr) (B : Pt), Stand p l e R s m sargs below meth c B.U B.locs B.cells B.slots ∧ PostX A a q B ∧
      Steps p.tables e below (doInvoke e (A.U.setTop g) [] mk a).1 ((B.U.setTop g).pushFrame (.throwing q)))
section Payer
variable {l : Launch} {R : Room} {p : Program} {e : Env} {below : List Frame} {s : State} {sargs : Array Value} {y : MethodName} {len W9 : Nat}
theorem vx_back {ws : List Cond} {rm : Room} {Pc : Array Value → State → Prop} {Qc : Array Value → State → Outcome → State → Prop} {XC : String → State → State → Prop} {mc ms : Nat} {free : Addr → Prop} {bytes : ByteArray} {maxL : Nat} {ret : Option FieldType}
    (hM : vx_Met l y ws rm Pc Qc XC mc ms free) (hblind : FrameBlind Pc) (hrc : rm.cells = mc) (hrs : rm.slots = ms)
    (hframes : rm.frames + 1 ≤ R.frames) (hlocals : W9 + (maxL + 11) + rm.locals ≤ R.locals)
    (hws : ∀ w ∈ ws, ∀ a' U, s.WarmedH U.vm → w.before a' U = true) (hcode : Cond.code y bytes maxL ret ∈ ws) (hinit : ∀ a' U, s.WarmedH U.vm → (Cond.initialized y.cls).before a' U = true) :
    vx_Back l R p e below s sargs y len W9 (PreOf R mc ms Pc) (PostOf Qc mc ms free) (vx_Post XC mc ms free) := by
  intro m meth c A g ig mk a X hg hsize hdg hW hn hp
  have h1 : (headSpec ws rm).pre.before a A.U = true := atoms_intro fun w hw => hws w hw _ _ X.warmed
  have h2 : (Cond.code y bytes maxL ret).before a A.U = true := hws _ hcode _ _ X.warmed
  have h3 : (Cond.initialized y.cls).before a A.U = true := hinit _ _ X.warmed
  have h4 : A.cells + (headSpec ws rm).room.cells ≤ R.cells := by rw [show (headSpec ws rm).room.cells = mc from hrc]; exact hp.1
  have h5 : A.slots + (headSpec ws rm).room.slots ≤ R.slots := by rw [show (headSpec ws rm).room.slots = ms from hrs]; exact hp.2.1
  have hPc : Pc a (A.U.calling g mk a) := hblind _ _ _ _ hp.2.2
  obtain ⟨U, Ls, c0, s0⟩ := A
  dsimp only [Pt.U, Pt.locs, Pt.cells, Pt.slots] at h1 h2 h3 h4 h5 X hn hPc ⊢
  obtain ⟨methY, cY, hmY, hcY, -, hlY, -, -, -, -⟩ := Cond.code_spec hn h2
  obtain ⟨kY, hkY, -⟩ := className_of_methodNamed hn
  have hinitY : kY.init = .initialized := Cond.initialized_spec (findClass_of_methodNamed hn) hkY h3
  have h : At U g.method c below := by rw [hg]; exact X.here
  have hlocals9 : W9 + (maxL + 11) + (headSpec ws rm).room.locals ≤ R.locals := hlocals
  have happ : (headSpec ws rm).appliesLoose y e.platform (U.calling g mk a) = true :=
    Spec.appliesLoose_calling (g := g) h hdg hn hkY hinitY
      (X.room_calling (g := g) (R' := (headSpec ws rm).room) hsize hmY hcY hframes (by rw [hlY]; omega) h4 h5) h1
  obtain ⟨mid, hmid⟩ := h.above
  have hfr : (U.setTop g).frames = (.java g :: mid) ++ below := by rw [State.frames_setTop' g h.top, hmid]; rfl
  obtain ⟨o, s₂, hsteps, -, hend, hq⟩ := Steps.callFree hM p X.admits X.cas X.clock (acts := []) hfr happ hPc trivial
  have hq' : vx_Q Qc XC mc ms free a (U.calling g mk a) o s₂ := hq
  rw [State.frames_setTop' g h.top] at hend
  obtain ⟨g₀, hg0⟩ := Option.isSome_iff_exists.mp h.top
  obtain ⟨r, hr⟩ := State.topJava?_eq_some.mp hg0
  have hr' : (({ U with heap := s₂.heap, slotsUsed := s₂.slotsUsed } : State).setVm s₂.vm).frames = .java g₀ :: r := hr
  rcases hq' with ⟨hqc, L, hfe, hL⟩ | ⟨q, rfl, E, ce, L, hx, hce, hcv, hcl, hW₂, hsm, hL⟩
  · obtain ⟨⟨v, rfl⟩, hW₂, e2, q2, q3, q4, q5, q6⟩ := id hfe
    have e3 : s₂ = ({ (U.calling g mk a).setFrames s₂.frames with heap := s₂.heap, slotsUsed := s₂.slotsUsed } : State).setVm s₂.vm := by
      have : s₂ = ({ s₂ with vm := (U.calling g mk a).vm } : State).setVm s₂.vm := rfl
      rw [e2] at this
      exact this
    obtain ⟨c₂, i₂, len₂, hc₂, hd₂, hf₂⟩ := hend
    have hW' : U.WarmedH s₂.vm := hW₂
    have hcc : c₂ = c := by
      have h1 : s₂.code? g.method = U.code? g.method := by
        rw [State.code?_eq, State.code?_eq, hW'.alike.method?]
      exact Option.some.inj (hc₂.symm.trans (h1.trans h.code))
    subst hcc
    have hlen : len₂ = len := by rw [hdg] at hd₂; cases hd₂; rfl
    subst hlen
    have hs₂ : s₂ = (({ U with heap := s₂.heap, slotsUsed := s₂.slotsUsed } : State).setVm s₂.vm).setTop { g with pc := g.pc + len₂, stack := v.toList ++ g.stack } := by
      refine e3.trans ?_
      rw [hf₂, State.calling_eq h.top, State.setFrames_setFrames, State.setTop_of_frames _ hr', hr]
      rfl
    have hsame : U.sameButNew ({ U with heap := s₂.heap, slotsUsed := s₂.slotsUsed } : State) L mc ms := by
      refine ⟨?_, q2, q3, q4, q5, q6⟩
      obtain ⟨t, ht, -⟩ := State.frames_cons hr
      show ({ U with heap := s₂.heap, slotsUsed := s₂.slotsUsed } : State) = { U.setFrames U.frames with heap := s₂.heap, slotsUsed := s₂.slotsUsed }
      rw [State.setFrames_self ht]
    subst hg
    refine Or.inl ⟨v, ⟨(({ U with heap := s₂.heap, slotsUsed := s₂.slotsUsed } : State).setVm s₂.vm), Ls ++ L, c0 + mc, s0 + ms⟩,
      ⟨X.admits, X.cas, X.clock, X.frames, X.room, X.hears, X.method, X.code, (X.here.setHeapUsed s₂.heap s₂.slotsUsed).setVm hW'.alike, X.tail, State.WarmedH.trans X.warmed hW', X.limits, X.bytes, X.same.trans (hsame.setVm s.vm)⟩,
      ⟨g, mk, s₂, L, rfl, rfl, hqc, rfl, hL, rfl, rfl⟩, ?_⟩
    show Steps p.tables e below _ ((({ U with heap := s₂.heap, slotsUsed := s₂.slotsUsed } : State).setVm s₂.vm).setTop { g with pc := g.pc + len₂, stack := v.toList ++ g.stack })
    rw [← hs₂]
    exact hsteps
  · obtain ⟨e2, q2, q3, q4, q5, q6⟩ := id hsm
    have e3 : s₂ = ({ (U.calling g mk a).setFrames s₂.frames with heap := s₂.heap, slotsUsed := s₂.slotsUsed } : State).setVm s₂.vm := by
      have : s₂ = ({ s₂ with vm := (U.calling g mk a).vm } : State).setVm s₂.vm := rfl
      rw [e2] at this
      exact this
    have hf₂ : s₂.frames = .throwing q :: .java g :: U.frames.tail := hend
    have hW' : U.WarmedH s₂.vm := hW₂
    have hs₂ : s₂ = ((({ U with heap := s₂.heap, slotsUsed := s₂.slotsUsed } : State).setVm s₂.vm).setTop g).pushFrame (.throwing q) := by
      refine e3.trans ?_
      rw [hf₂, State.calling_eq h.top, State.setFrames_setFrames, State.pushFrame, State.frames_setTop _ hr', State.setTop_of_frames _ hr', State.setFrames_setFrames, hr]
      rfl
    have hsame : U.sameButNew ({ U with heap := s₂.heap, slotsUsed := s₂.slotsUsed } : State) L mc ms := by
      refine ⟨?_, q2, q3, q4, q5, q6⟩
      obtain ⟨t, ht, -⟩ := State.frames_cons hr
      show ({ U with heap := s₂.heap, slotsUsed := s₂.slotsUsed } : State) = { U.setFrames U.frames with heap := s₂.heap, slotsUsed := s₂.slotsUsed }
      rw [State.setFrames_self ht]
    subst hg
    refine Or.inr ⟨q, ⟨(({ U with heap := s₂.heap, slotsUsed := s₂.slotsUsed } : State).setVm s₂.vm), Ls ++ L, c0 + mc, s0 + ms⟩,
      ⟨X.admits, X.cas, X.clock, X.frames, X.room, X.hears, X.method, X.code, (X.here.setHeapUsed s₂.heap s₂.slotsUsed).setVm hW'.alike, X.tail, State.WarmedH.trans X.warmed hW', X.limits, X.bytes, X.same.trans (hsame.setVm s.vm)⟩,
      ⟨g, mk, s₂, L, E, ce, rfl, rfl, hx, hce, hcv, hcl, rfl, hL, rfl, rfl⟩, ?_⟩
    show Steps p.tables e below _ (((({ U with heap := s₂.heap, slotsUsed := s₂.slotsUsed } : State).setVm s₂.vm).setTop g).pushFrame (.throwing q))
    rw [← hs₂]
    exact hsteps
end Payer
section Calls
variable {p : Program} {l : Launch} {e : Env} {R : Room} {s : State} {m : MethodId} {args : Array Value} {below : List Frame} {meth : Method} {c : Code} {T : State} {locs : List Loc} {cells slots : Nat}
theorem vx_callV (X : Stand p l e R s m args below meth c T locs cells slots) (hexec : p.tables.exec = Jvm.exec) {own C : String} {index : Nat} {y : MethodName} {bytes : ByteArray} {maxL : Nat} {ret : Option FieldType}
    (hown : s.vm.findClass own = some m.cls) (hlink : (Cond.methodLink own index y).before args s = true) (hinst : (Cond.instanceMethod y).before args s = true) (hsel : (Cond.selects C y y).before args s = true)
    (hcode : (Cond.code y bytes maxL ret).before args s = true) (hy : y.cls ≠ "java/lang/invoke/MethodHandle" ∧ y.cls ≠ "java/lang/invoke/VarHandle")
    {W9 : Nat} {Pre : Pt → Array Value → Prop} {Post : Pt → Array Value → Option Value → Pt → Prop} {PostX : Pt → Array Value → Addr → Pt → Prop} (hK : vx_Back l R p e below s args y 3 W9 Pre Post PostX)
    {b : Addr} {cellB : Cell} (hcell : T.heap[b]? = some cellB) (hobj : cellB.vm.isStatics = false) (hcls : s.vm.findClass C = some cellB.cls)
    {g : JFrame} (hg : g.method = m) (hsize : g.locals.size = c.maxLocals) {argsL rest : List Value} (hlen : ∀ sig, parseMethodDescriptor y.desc = some sig → argsL.length = sig.parameters.length)
    (hstack : g.stack = argsL.reverse ++ .ref b :: rest) (hW : 2 * g.monitorRoom + (rest.map fun v => v.category).sum ≤ W9) (hdg : decode c.code g.pc = .ok (.invokevirtual index, 3))
    (hpre : ∀ vm₁, s.WarmedH vm₁ → Pre ⟨T.setVm vm₁, locs, cells, slots⟩ (Value.ref b :: argsL).toArray) :
    (∃ (v : Option Value) (vm₁ : Vm) (B : Pt), s.WarmedH vm₁ ∧ Stand p l e R s m args below meth c B.U B.locs B.cells B.slots ∧ Post ⟨T.setVm vm₁, locs, cells, slots⟩ (Value.ref b :: argsL).toArray v B ∧
      ∀ target, Steps p.tables e below (B.U.setTop { g with pc := g.pc + 3, stack := v.toList ++ rest }) target → Steps p.tables e below (T.setTop g) target) ∨
    (∃ (q : Addr) (vm₁ : Vm) (B : Pt), s.WarmedH vm₁ ∧ Stand p l e R s m args below meth c B.U B.locs B.cells B.slots ∧ PostX ⟨T.setVm vm₁, locs, cells, slots⟩ (Value.ref b :: argsL).toArray q B ∧
      Steps p.tables e below (T.setTop g) ((B.U.setTop { g with stack := rest }).pushFrame (.throwing q))) := by
  obtain ⟨mk, methM, hnamed, hmethM, hstM, habM⟩ := Cond.instanceMethod_spec hinst
  obtain ⟨methM', cM, hmethM', -, -, -, -, -, -, hsigM⟩ := Cond.code_spec hnamed hcode
  cases hmethM.symm.trans hmethM'
  obtain ⟨c2, r2, m2, q1, q2, q3, q4, kP, hkP, hkPi⟩ := Cond.selects_spec hsel
  cases hcls.symm.trans q1
  cases (State.methodFound?_of_named hnamed hy).symm.trans q2
  cases hnamed.symm.trans q3
  have hselP : selectMethod e.platform s.vm cellB.cls mk = .method mk := by rw [Launch.admits_selectMethod X.admits]; exact q4
  obtain ⟨vm₁, X₁, hstep₁⟩ := X.invokevirtual hexec hown hlink hnamed hmethM hstM hkP hkPi hy (a := b) (cell := cellB) hcell
    (fun z h => by rw [h] at hobj; cases hobj) hselP hmethM habM hkP hkPi (g := g) hg (argsL := argsL) (rest := rest) (hlen _ hsigM) hstack hdg
  rcases hK m meth c ⟨T.setVm vm₁, locs, cells, slots⟩ { g with stack := rest } (.invokevirtual index) mk (Value.ref b :: argsL).toArray X₁ hg hsize hdg hW (X₁.named hnamed) (hpre vm₁ X₁.warmed) with ⟨v, B, X', hpost, hsteps⟩ | ⟨q, B, X', hpost, hsteps⟩
  · exact Or.inl ⟨v, vm₁, B, X₁.warmed, X', hpost, fun target h => hstep₁ _ fun acts => by rw [doInvoke_state]; exact hsteps.trans h⟩
  · exact Or.inr ⟨q, vm₁, B, X₁.warmed, X', hpost, hstep₁ _ fun acts => by rw [doInvoke_state]; exact hsteps⟩
theorem vx_callS (X : Stand p l e R s m args below meth c T locs cells slots) (hexec : p.tables.exec = Jvm.exec) {own : String} {index : Nat} {y : MethodName} {bytes : ByteArray} {maxL : Nat} {ret : Option FieldType}
    (hown : s.vm.findClass own = some m.cls) (hlink : (Cond.methodLink own index y).before args s = true) (hstat : (Cond.static y).before args s = true) (hinit : (Cond.initialized y.cls).before args s = true)
    (hcode : (Cond.code y bytes maxL ret).before args s = true) (hy : y.cls ≠ "java/lang/invoke/MethodHandle" ∧ y.cls ≠ "java/lang/invoke/VarHandle")
    {W9 : Nat} {Pre : Pt → Array Value → Prop} {Post : Pt → Array Value → Option Value → Pt → Prop} {PostX : Pt → Array Value → Addr → Pt → Prop} (hK : vx_Back l R p e below s args y 3 W9 Pre Post PostX)
    {g : JFrame} (hg : g.method = m) (hsize : g.locals.size = c.maxLocals) {argsL rest : List Value} (hlen : ∀ sig, parseMethodDescriptor y.desc = some sig → argsL.length = sig.parameters.length)
    (hstack : g.stack = argsL.reverse ++ rest) (hW : 2 * g.monitorRoom + (rest.map fun v => v.category).sum ≤ W9) (hdg : decode c.code g.pc = .ok (.invokestatic index, 3))
    (hpre : ∀ vm₁, s.WarmedH vm₁ → Pre ⟨T.setVm vm₁, locs, cells, slots⟩ argsL.toArray) :
    (∃ (v : Option Value) (vm₁ : Vm) (B : Pt), s.WarmedH vm₁ ∧ Stand p l e R s m args below meth c B.U B.locs B.cells B.slots ∧ Post ⟨T.setVm vm₁, locs, cells, slots⟩ argsL.toArray v B ∧
      ∀ target, Steps p.tables e below (B.U.setTop { g with pc := g.pc + 3, stack := v.toList ++ rest }) target → Steps p.tables e below (T.setTop g) target) ∨
    (∃ (q : Addr) (vm₁ : Vm) (B : Pt), s.WarmedH vm₁ ∧ Stand p l e R s m args below meth c B.U B.locs B.cells B.slots ∧ PostX ⟨T.setVm vm₁, locs, cells, slots⟩ argsL.toArray q B ∧
      Steps p.tables e below (T.setTop g) ((B.U.setTop { g with stack := rest }).pushFrame (.throwing q))) := by
  obtain ⟨mk, hnamed⟩ := Cond.code_named hcode
  obtain ⟨methM, cM, hmethM, -, -, -, -, -, -, hsigM⟩ := Cond.code_spec hnamed hcode
  have hstatic : methM.isStatic = true := Cond.static_spec hnamed hmethM hstat
  obtain ⟨kP, hkP, -⟩ := className_of_methodNamed hnamed
  have hinitP : kP.init = .initialized := Cond.initialized_spec (findClass_of_methodNamed hnamed) hkP hinit
  obtain ⟨vm₁, X₁, hstep₁⟩ := X.invokestatic hexec hown hlink hnamed hmethM hstatic hkP hinitP hy (g := g) hg (argsL := argsL) (rest := rest) (hlen _ hsigM) hstack hdg
  rcases hK m meth c ⟨T.setVm vm₁, locs, cells, slots⟩ { g with stack := rest } (.invokestatic index) mk argsL.toArray X₁ hg hsize hdg hW (X₁.named hnamed) (hpre vm₁ X₁.warmed) with ⟨v, B, X', hpost, hsteps⟩ | ⟨q, B, X', hpost, hsteps⟩
  · exact Or.inl ⟨v, vm₁, B, X₁.warmed, X', hpost, fun target h => hstep₁ _ fun acts => by rw [doInvoke_state]; exact hsteps.trans h⟩
  · exact Or.inr ⟨q, vm₁, B, X₁.warmed, X', hpost, hstep₁ _ fun acts => by rw [doInvoke_state]; exact hsteps⟩
end Calls
theorem vx_cls {s : State} {T : State} {vm₁ : Vm} {E : String} {k : ClassId} (hW : s.WarmedH vm₁) (h : (T.setVm vm₁).vm.findClass E = some k) : s.vm.findClass E = some k := by
  have h1 : vm₁.findClass E = some k := h
  rw [hW.alike.findClass] at h1
  exact h1
def vx_W (p : Program) (l : Launch) (e : Env) (R : Room) (s : State) (m : MethodId) (args : Array Value) (below : List Frame) (meth : Method) (c : Code) (H : Heap) (locs : List Loc) (cells slots : Nat) (Q : State → Prop) (g : JFrame) (q : Addr) : Prop :=
  ∀ T : State, T.heap = H → Stand p l e R s m args below meth c T locs cells slots → ∃ t, Steps p.tables e below ((T.setTop g).pushFrame (.throwing q)) t ∧ Q t
def vx_Run (p : Program) (l : Launch) (e : Env) (R : Room) (s : State) (m : MethodId) (args : Array Value) (below : List Frame) (meth : Method) (c : Code) (H : Heap) (locs : List Loc) (cells slots mc ms : Nat) (g : JFrame) (rest : List Value) (Qa : State → Outcome → State → Prop) (XC : String → State → State → Prop) (free : Addr → Prop) : Prop :=
  ∀ T : State, T.heap = H → Stand p l e R s m args below meth c T locs cells slots →
    (∃ (v : Option Value) (st₀ t T' : State) (L : List Loc), st₀.heap = H ∧ Stand p l e R s m args below meth c T' (locs ++ L) (cells + mc) (slots + ms) ∧ (∀ q ∈ L, free q.base) ∧ T'.heap = t.heap ∧ T'.vm = t.vm ∧ Qa st₀ (.returned v) t ∧
      Goes p e below T g T' { g with pc := g.pc + 3, stack := v.toList ++ rest }) ∨
    (∃ (q : Addr) (st₀ t T' : State) (L : List Loc) (E : String) (ce : Cell), st₀.heap = H ∧ Stand p l e R s m args below meth c T' (locs ++ L) (cells + mc) (slots + ms) ∧ (∀ z ∈ L, free z.base) ∧ T'.heap = t.heap ∧ T'.vm = t.vm ∧ XC E st₀ t ∧ t.heap[q]? = some ce ∧ ce.vm = .none ∧ s.vm.findClass E = some ce.cls ∧
      Steps p.tables e below (T.setTop g) ((T'.setTop { g with stack := rest }).pushFrame (.throwing q)))
def vx_X {S : Type} (px : S → Prop) (B : String → S → State → Prop) (A : Nat → Prop) : String → State → State → Prop := fun E st t => ∃ u : S, px u ∧ B E u t ∧ va_F A st t
section Runs
variable {p : Program} {l : Launch} {e : Env} {R : Room} {s : State} {m : MethodId} {args : Array Value} {below : List Frame} {meth : Method} {c : Code} {H : Heap} {locs : List Loc} {cells slots : Nat}
variable {y : MethodName} {bytes cc : ByteArray} {maxL nL mc ms n index : Nat} {ret : Option FieldType} {ws : List Cond} {rm : Room} {Pc : Array Value → State → Prop} {Qc : Array Value → State → Outcome → State → Prop} {XC : String → State → State → Prop} {free : Addr → Prop} {Ts : List Cond} {own C : String} {b : Addr} {As rest : List Value} {g : JFrame}
theorem vx_callBack (cb : CallB R s args own index y bytes maxL ret ws rm mc ms n) (hM : vx_Met l y ws rm Pc Qc XC mc ms free) (hbl : FrameBlind Pc) : vx_Back l R p e below s args y 3 8 (PreOf R mc ms Pc) (PostOf Qc mc ms free) (vx_Post XC mc ms free) := by
  obtain ⟨hrc, hrs, hfr, hlo, hws, hcw, -, hini, -⟩ := cb
  exact vx_back (bytes := bytes) (maxL := maxL) (ret := ret) hM hbl hrc hrs hfr hlo hws hcw (fun a' U hW => word_at hW (Or.inl (by first | rfl | simp [Cond.onTables, Cond.keeps, Cond.steady])) hini)
theorem vx_runV (S : CallFix p m c cc nL s args Ts own) (hM : vx_Met l y ws rm Pc Qc XC mc ms free) (cw : CallW R s args own C index y bytes maxL ret ws rm mc ms n) (hp : PreV s H C b Pc As)
    (hg : g.method = m) (hn : As.length = n) (hsize : g.locals.size = nL) (hstack : g.stack = As.reverse ++ .ref b :: rest) (hW : 2 * g.monitorRoom + (rest.map fun v => v.category).sum ≤ 8) (hdg : decode cc g.pc = .ok (.invokevirtual index, 3)) (hf : cells + mc ≤ R.cells ∧ slots + ms ≤ R.slots) :
    vx_Run p l e R s m args below meth c H locs cells slots mc ms g rest (Qc (Value.ref b :: As).toArray) XC free := by
  have hK : vx_Back l R p e below s args y 3 8 (PreOf R mc ms Pc) (PostOf Qc mc ms free) (vx_Post XC mc ms free) := vx_callBack cw.1 hM hp.1
  obtain ⟨⟨-, -, -, -, -, -, hcode, -, hy, hlen, hl⟩, hin, hse⟩ := cw
  obtain ⟨hx, hb, hml, ho, -⟩ := S
  obtain ⟨-, ⟨cellB, hcB, hoB, hclB⟩, hPc⟩ := hp
  intro T hT X
  rcases vx_callV X hx (C := C) (bytes := bytes) (maxL := maxL) (ret := ret) ho hl hin hse hcode hy hK (by rw [hT]; exact hcB) hoB hclB hg (hsize.trans hml.symm) (argsL := As) (rest := rest) (fun sig h => hn.trans (hlen sig h)) hstack hW (by rw [hb]; exact hdg)
    (fun vm₁ hW₁ => ⟨hf.1, hf.2, hPc (T.setVm vm₁) hT hW₁⟩) with ⟨v, vm₁, ⟨U', l2, c2, s2⟩, hW₁, X', ⟨g', mk, t, L, e1, e2, hq, h1, hL, h2, h3⟩, st⟩ | ⟨q, vm₁, ⟨U', l2, c2, s2⟩, hW₁, X', ⟨g', mk, t, L, E, ce, e1, e2, hq, hce, hcv, hcl, h1, hL, h2, h3⟩, st⟩
  · dsimp only [Pt.U, Pt.locs, Pt.cells, Pt.slots] at X' e1 e2 h1 h2 h3 st
    subst h1; subst h2; subst h3
    exact Or.inl ⟨v, (T.setVm vm₁).calling g' mk (Value.ref b :: As).toArray, t, U', L, hT, X', hL, e1, e2, hq, st⟩
  · dsimp only [Pt.U, Pt.locs, Pt.cells, Pt.slots] at X' e1 e2 h1 h2 h3 st hcl
    subst h1; subst h2; subst h3
    exact Or.inr ⟨q, (T.setVm vm₁).calling g' mk (Value.ref b :: As).toArray, t, U', L, E, ce, hT, X', hL, e1, e2, hq, hce, hcv, vx_cls hW₁ hcl, st⟩
theorem vx_runS (S : CallFix p m c cc nL s args Ts own) (hM : vx_Met l y ws rm Pc Qc XC mc ms free) (cw : CallB R s args own index y bytes maxL ret ws rm mc ms n ∧ (Cond.static y).before args s = true) (hp : PreS s H Pc As)
    (hg : g.method = m) (hn : As.length = n) (hsize : g.locals.size = nL) (hstack : g.stack = As.reverse ++ rest) (hW : 2 * g.monitorRoom + (rest.map fun v => v.category).sum ≤ 8) (hdg : decode cc g.pc = .ok (.invokestatic index, 3)) (hf : cells + mc ≤ R.cells ∧ slots + ms ≤ R.slots) :
    vx_Run p l e R s m args below meth c H locs cells slots mc ms g rest (Qc As.toArray) XC free := by
  have hK : vx_Back l R p e below s args y 3 8 (PreOf R mc ms Pc) (PostOf Qc mc ms free) (vx_Post XC mc ms free) := vx_callBack cw.1 hM hp.1
  obtain ⟨⟨-, -, -, -, -, -, hcode, hini, hy, hlen, hl⟩, hstt⟩ := cw
  obtain ⟨hx, hb, hml, ho, -⟩ := S
  intro T hT X
  rcases vx_callS X hx (bytes := bytes) (maxL := maxL) (ret := ret) ho hl hstt hini hcode hy hK hg (hsize.trans hml.symm) (argsL := As) (rest := rest) (fun sig h => hn.trans (hlen sig h)) hstack hW (by rw [hb]; exact hdg)
    (fun vm₁ hW₁ => ⟨hf.1, hf.2, hp.2 (T.setVm vm₁) hT hW₁⟩) with ⟨v, vm₁, ⟨U', l2, c2, s2⟩, hW₁, X', ⟨g', mk, t, L, e1, e2, hq, h1, hL, h2, h3⟩, st⟩ | ⟨q, vm₁, ⟨U', l2, c2, s2⟩, hW₁, X', ⟨g', mk, t, L, E, ce, e1, e2, hq, hce, hcv, hcl, h1, hL, h2, h3⟩, st⟩
  · dsimp only [Pt.U, Pt.locs, Pt.cells, Pt.slots] at X' e1 e2 h1 h2 h3 st
    subst h1; subst h2; subst h3
    exact Or.inl ⟨v, (T.setVm vm₁).calling g' mk As.toArray, t, U', L, hT, X', hL, e1, e2, hq, st⟩
  · dsimp only [Pt.U, Pt.locs, Pt.cells, Pt.slots] at X' e1 e2 h1 h2 h3 st hcl
    subst h1; subst h2; subst h3
    exact Or.inr ⟨q, (T.setVm vm₁).calling g' mk As.toArray, t, U', L, E, ce, hT, X', hL, e1, e2, hq, hce, hcv, vx_cls hW₁ hcl, st⟩
end Runs
section Rows
variable {p : Program} {l : Launch} {e : Env} {R : Room} {s : State} {m : MethodId} {args : Array Value} {below : List Frame} {meth : Method} {c : Code} {H : Heap} {locs : List Loc} {cells slots : Nat} {Q : State → Prop}
variable {mc ms : Nat} {free : Addr → Prop} {A0 A1 : Nat → Prop} {H0 : Heap} {a : Array Value} {pc : Nat} {ls : Array Slot} {st0 rest : List Value}
theorem vx_keep {st₀ t T' : State} {L : List Loc} (h0 : st₀.heap = H) (e1 : T'.heap = t.heap) (hS : va_S A0 H0 H locs) (hA : ∀ q, q < H.size → A1 q → A0 q) (hf : ∀ q, free q → A0 q) (hL : ∀ q ∈ L, free q.base) (hF : va_F A1 st₀ t) :
    H.size ≤ T'.heap.size ∧ (∀ q : Nat, q < H.size → ¬ A1 q → T'.heap[q]? = H[q]?) ∧ va_S A0 H0 T'.heap (locs ++ L) := by
  obtain ⟨hz, hk⟩ := hF
  rw [h0] at hz hk
  exact ⟨by rw [e1]; exact hz, fun q h1 h2 => by rw [e1]; exact hk q h1 h2,
    ⟨Nat.le_trans hS.1 (by rw [e1]; exact hz), fun q h1 h2 => by rw [e1, hk q (Nat.lt_of_lt_of_le h1 hS.1) (fun z => h2 (hA q (Nat.lt_of_lt_of_le h1 hS.1) z))]; exact hS.2.1 q h1 h2, fun q hq => by
      rcases List.mem_append.mp hq with h | h
      · exact hS.2.2 q h
      · exact hf _ (hL q h)⟩⟩
theorem vx_calli {S SX : Type} {post : Int32 → S → Prop} {px : SX → Prop} {B : S → State → Prop} {BX : String → SX → State → Prop} {AX : Nat → Prop} (hr : vx_Run p l e R s m args below meth c H locs cells slots mc ms (F0 m pc ls st0) rest (va_Qi post B A1 a) (vx_X px BX AX) free) (hS : va_S A0 H0 H locs) (hA : ∀ q, q < H.size → A1 q → A0 q) (hf : ∀ q, free q → A0 q) (hAX : ∀ q, q < H.size → AX q → A0 q)
    (kx : ∀ (E : String) (ce : Cell) (q9 : Addr) (u : SX) (t : State) (H1 : Heap) (locs1 : List Loc), t.heap = H1 → s.vm.Alike t.vm → px u → BX E u t → H.size ≤ H1.size → (∀ q : Nat, q < H.size → ¬ AX q → H1[q]? = H[q]?) → va_S A0 H0 H1 locs1 → H1[q9]? = some ce → ce.vm = .none → s.vm.findClass E = some ce.cls → vx_W p l e R s m args below meth c H1 locs1 (cells + mc) (slots + ms) Q (F0 m pc ls rest) q9)
    (kk : ∀ (r : Int32) (u : S) (t : State) (H1 : Heap) (locs1 : List Loc), t.heap = H1 → s.vm.Alike t.vm → post r u → B u t → H.size ≤ H1.size → (∀ q : Nat, q < H.size → ¬ A1 q → H1[q]? = H[q]?) → va_S A0 H0 H1 locs1 → W p l e R s m args below meth c H1 locs1 (cells + mc) (slots + ms) Q (F0 m (pc + 3) ls (.int r :: rest))) : W p l e R s m args below meth c H locs cells slots Q (F0 m pc ls st0) := by
  intro T hT X
  rcases hr T hT X with ⟨v, st₀, t, T', L, h0, X', hL, e1, e2, ⟨⟨r, u, hv, hp, hb⟩, hF⟩, st⟩ | ⟨q, st₀, t, T', L, E, ce, h0, X', hL, e1, e2, ⟨u, hp, hb, hF⟩, hce, hcv, hcl, st⟩
  · cases hv
    obtain ⟨k1, k2, k3⟩ := vx_keep h0 e1 hS hA hf hL hF
    obtain ⟨t2, a1, b1⟩ := kk r u t T'.heap (locs ++ L) e1.symm (by rw [← e2]; exact X'.warmed.alike) hp hb k1 k2 k3 T' rfl X'
    exact ⟨t2, st t2 a1, b1⟩
  · obtain ⟨k1, k2, k3⟩ := vx_keep h0 e1 hS hAX hf hL hF
    obtain ⟨t2, a1, b1⟩ := kx E ce q u t T'.heap (locs ++ L) e1.symm (by rw [← e2]; exact X'.warmed.alike) hp hb k1 k2 k3 (by rw [e1]; exact hce) hcv hcl T' rfl X'
    exact ⟨t2, st.trans a1, b1⟩
theorem vx_calll {S SX : Type} {post : Int64 → S → Prop} {px : SX → Prop} {B : S → State → Prop} {BX : String → SX → State → Prop} {AX : Nat → Prop} (hr : vx_Run p l e R s m args below meth c H locs cells slots mc ms (F0 m pc ls st0) rest (va_Ql post B A1 a) (vx_X px BX AX) free) (hS : va_S A0 H0 H locs) (hA : ∀ q, q < H.size → A1 q → A0 q) (hf : ∀ q, free q → A0 q) (hAX : ∀ q, q < H.size → AX q → A0 q)
    (kx : ∀ (E : String) (ce : Cell) (q9 : Addr) (u : SX) (t : State) (H1 : Heap) (locs1 : List Loc), t.heap = H1 → s.vm.Alike t.vm → px u → BX E u t → H.size ≤ H1.size → (∀ q : Nat, q < H.size → ¬ AX q → H1[q]? = H[q]?) → va_S A0 H0 H1 locs1 → H1[q9]? = some ce → ce.vm = .none → s.vm.findClass E = some ce.cls → vx_W p l e R s m args below meth c H1 locs1 (cells + mc) (slots + ms) Q (F0 m pc ls rest) q9)
    (kk : ∀ (r : Int64) (u : S) (t : State) (H1 : Heap) (locs1 : List Loc), t.heap = H1 → s.vm.Alike t.vm → post r u → B u t → H.size ≤ H1.size → (∀ q : Nat, q < H.size → ¬ A1 q → H1[q]? = H[q]?) → va_S A0 H0 H1 locs1 → W p l e R s m args below meth c H1 locs1 (cells + mc) (slots + ms) Q (F0 m (pc + 3) ls (.long r :: rest))) : W p l e R s m args below meth c H locs cells slots Q (F0 m pc ls st0) := by
  intro T hT X
  rcases hr T hT X with ⟨v, st₀, t, T', L, h0, X', hL, e1, e2, ⟨⟨r, u, hv, hp, hb⟩, hF⟩, st⟩ | ⟨q, st₀, t, T', L, E, ce, h0, X', hL, e1, e2, ⟨u, hp, hb, hF⟩, hce, hcv, hcl, st⟩
  · cases hv
    obtain ⟨k1, k2, k3⟩ := vx_keep h0 e1 hS hA hf hL hF
    obtain ⟨t2, a1, b1⟩ := kk r u t T'.heap (locs ++ L) e1.symm (by rw [← e2]; exact X'.warmed.alike) hp hb k1 k2 k3 T' rfl X'
    exact ⟨t2, st t2 a1, b1⟩
  · obtain ⟨k1, k2, k3⟩ := vx_keep h0 e1 hS hAX hf hL hF
    obtain ⟨t2, a1, b1⟩ := kx E ce q u t T'.heap (locs ++ L) e1.symm (by rw [← e2]; exact X'.warmed.alike) hp hb k1 k2 k3 (by rw [e1]; exact hce) hcv hcl T' rfl X'
    exact ⟨t2, st.trans a1, b1⟩
theorem vx_callf {S SX : Type} {post : UInt32 → S → Prop} {px : SX → Prop} {B : S → State → Prop} {BX : String → SX → State → Prop} {AX : Nat → Prop} (hr : vx_Run p l e R s m args below meth c H locs cells slots mc ms (F0 m pc ls st0) rest (va_Qf post B A1 a) (vx_X px BX AX) free) (hS : va_S A0 H0 H locs) (hA : ∀ q, q < H.size → A1 q → A0 q) (hf : ∀ q, free q → A0 q) (hAX : ∀ q, q < H.size → AX q → A0 q)
    (kx : ∀ (E : String) (ce : Cell) (q9 : Addr) (u : SX) (t : State) (H1 : Heap) (locs1 : List Loc), t.heap = H1 → s.vm.Alike t.vm → px u → BX E u t → H.size ≤ H1.size → (∀ q : Nat, q < H.size → ¬ AX q → H1[q]? = H[q]?) → va_S A0 H0 H1 locs1 → H1[q9]? = some ce → ce.vm = .none → s.vm.findClass E = some ce.cls → vx_W p l e R s m args below meth c H1 locs1 (cells + mc) (slots + ms) Q (F0 m pc ls rest) q9)
    (kk : ∀ (r : UInt32) (u : S) (t : State) (H1 : Heap) (locs1 : List Loc), t.heap = H1 → s.vm.Alike t.vm → post r u → B u t → H.size ≤ H1.size → (∀ q : Nat, q < H.size → ¬ A1 q → H1[q]? = H[q]?) → va_S A0 H0 H1 locs1 → W p l e R s m args below meth c H1 locs1 (cells + mc) (slots + ms) Q (F0 m (pc + 3) ls (.float r :: rest))) : W p l e R s m args below meth c H locs cells slots Q (F0 m pc ls st0) := by
  intro T hT X
  rcases hr T hT X with ⟨v, st₀, t, T', L, h0, X', hL, e1, e2, ⟨⟨r, u, hv, hp, hb⟩, hF⟩, st⟩ | ⟨q, st₀, t, T', L, E, ce, h0, X', hL, e1, e2, ⟨u, hp, hb, hF⟩, hce, hcv, hcl, st⟩
  · cases hv
    obtain ⟨k1, k2, k3⟩ := vx_keep h0 e1 hS hA hf hL hF
    obtain ⟨t2, a1, b1⟩ := kk r u t T'.heap (locs ++ L) e1.symm (by rw [← e2]; exact X'.warmed.alike) hp hb k1 k2 k3 T' rfl X'
    exact ⟨t2, st t2 a1, b1⟩
  · obtain ⟨k1, k2, k3⟩ := vx_keep h0 e1 hS hAX hf hL hF
    obtain ⟨t2, a1, b1⟩ := kx E ce q u t T'.heap (locs ++ L) e1.symm (by rw [← e2]; exact X'.warmed.alike) hp hb k1 k2 k3 (by rw [e1]; exact hce) hcv hcl T' rfl X'
    exact ⟨t2, st.trans a1, b1⟩
theorem vx_calld {S SX : Type} {post : UInt64 → S → Prop} {px : SX → Prop} {B : S → State → Prop} {BX : String → SX → State → Prop} {AX : Nat → Prop} (hr : vx_Run p l e R s m args below meth c H locs cells slots mc ms (F0 m pc ls st0) rest (va_Qd post B A1 a) (vx_X px BX AX) free) (hS : va_S A0 H0 H locs) (hA : ∀ q, q < H.size → A1 q → A0 q) (hf : ∀ q, free q → A0 q) (hAX : ∀ q, q < H.size → AX q → A0 q)
    (kx : ∀ (E : String) (ce : Cell) (q9 : Addr) (u : SX) (t : State) (H1 : Heap) (locs1 : List Loc), t.heap = H1 → s.vm.Alike t.vm → px u → BX E u t → H.size ≤ H1.size → (∀ q : Nat, q < H.size → ¬ AX q → H1[q]? = H[q]?) → va_S A0 H0 H1 locs1 → H1[q9]? = some ce → ce.vm = .none → s.vm.findClass E = some ce.cls → vx_W p l e R s m args below meth c H1 locs1 (cells + mc) (slots + ms) Q (F0 m pc ls rest) q9)
    (kk : ∀ (r : UInt64) (u : S) (t : State) (H1 : Heap) (locs1 : List Loc), t.heap = H1 → s.vm.Alike t.vm → post r u → B u t → H.size ≤ H1.size → (∀ q : Nat, q < H.size → ¬ A1 q → H1[q]? = H[q]?) → va_S A0 H0 H1 locs1 → W p l e R s m args below meth c H1 locs1 (cells + mc) (slots + ms) Q (F0 m (pc + 3) ls (.double r :: rest))) : W p l e R s m args below meth c H locs cells slots Q (F0 m pc ls st0) := by
  intro T hT X
  rcases hr T hT X with ⟨v, st₀, t, T', L, h0, X', hL, e1, e2, ⟨⟨r, u, hv, hp, hb⟩, hF⟩, st⟩ | ⟨q, st₀, t, T', L, E, ce, h0, X', hL, e1, e2, ⟨u, hp, hb, hF⟩, hce, hcv, hcl, st⟩
  · cases hv
    obtain ⟨k1, k2, k3⟩ := vx_keep h0 e1 hS hA hf hL hF
    obtain ⟨t2, a1, b1⟩ := kk r u t T'.heap (locs ++ L) e1.symm (by rw [← e2]; exact X'.warmed.alike) hp hb k1 k2 k3 T' rfl X'
    exact ⟨t2, st t2 a1, b1⟩
  · obtain ⟨k1, k2, k3⟩ := vx_keep h0 e1 hS hAX hf hL hF
    obtain ⟨t2, a1, b1⟩ := kx E ce q u t T'.heap (locs ++ L) e1.symm (by rw [← e2]; exact X'.warmed.alike) hp hb k1 k2 k3 (by rw [e1]; exact hce) hcv hcl T' rfl X'
    exact ⟨t2, st.trans a1, b1⟩
theorem vx_callv {S SX : Type} {post : S → Prop} {px : SX → Prop} {B : S → State → Prop} {BX : String → SX → State → Prop} {AX : Nat → Prop} (hr : vx_Run p l e R s m args below meth c H locs cells slots mc ms (F0 m pc ls st0) rest (va_Qv post B A1 a) (vx_X px BX AX) free) (hS : va_S A0 H0 H locs) (hA : ∀ q, q < H.size → A1 q → A0 q) (hf : ∀ q, free q → A0 q) (hAX : ∀ q, q < H.size → AX q → A0 q)
    (kx : ∀ (E : String) (ce : Cell) (q9 : Addr) (u : SX) (t : State) (H1 : Heap) (locs1 : List Loc), t.heap = H1 → s.vm.Alike t.vm → px u → BX E u t → H.size ≤ H1.size → (∀ q : Nat, q < H.size → ¬ AX q → H1[q]? = H[q]?) → va_S A0 H0 H1 locs1 → H1[q9]? = some ce → ce.vm = .none → s.vm.findClass E = some ce.cls → vx_W p l e R s m args below meth c H1 locs1 (cells + mc) (slots + ms) Q (F0 m pc ls rest) q9)
    (kk : ∀ (u : S) (t : State) (H1 : Heap) (locs1 : List Loc), t.heap = H1 → s.vm.Alike t.vm → post u → B u t → H.size ≤ H1.size → (∀ q : Nat, q < H.size → ¬ A1 q → H1[q]? = H[q]?) → va_S A0 H0 H1 locs1 → W p l e R s m args below meth c H1 locs1 (cells + mc) (slots + ms) Q (F0 m (pc + 3) ls (rest))) : W p l e R s m args below meth c H locs cells slots Q (F0 m pc ls st0) := by
  intro T hT X
  rcases hr T hT X with ⟨v, st₀, t, T', L, h0, X', hL, e1, e2, ⟨⟨u, hv, hp, hb⟩, hF⟩, st⟩ | ⟨q, st₀, t, T', L, E, ce, h0, X', hL, e1, e2, ⟨u, hp, hb, hF⟩, hce, hcv, hcl, st⟩
  · cases hv
    obtain ⟨k1, k2, k3⟩ := vx_keep h0 e1 hS hA hf hL hF
    obtain ⟨t2, a1, b1⟩ := kk u t T'.heap (locs ++ L) e1.symm (by rw [← e2]; exact X'.warmed.alike) hp hb k1 k2 k3 T' rfl X'
    exact ⟨t2, st t2 a1, b1⟩
  · obtain ⟨k1, k2, k3⟩ := vx_keep h0 e1 hS hAX hf hL hF
    obtain ⟨t2, a1, b1⟩ := kx E ce q u t T'.heap (locs ++ L) e1.symm (by rw [← e2]; exact X'.warmed.alike) hp hb k1 k2 k3 (by rw [e1]; exact hce) hcv hcl T' rfl X'
    exact ⟨t2, st.trans a1, b1⟩
theorem vx_catch {own name : String} {E : String} {ce : Cell} {q : Addr} (hown : s.vm.findClass own = some m.cls) (pre : List ExceptionTableEntry) (x : ExceptionTableEntry) (suf : List ExceptionTableEntry) (hsplit : c.exceptionTable.toList = pre ++ x :: suf)
    (hpass : ∀ z ∈ pre, covers z pc = false ∨ (z.catchType ≠ 0 ∧ ∃ nm : String, (Cond.classLink own z.catchType nm).before args s = true ∧ va_Nc E nm s)) (hx : covers x pc = true) (h0 : x.catchType ≠ 0)
    (hlink : (Cond.classLink own x.catchType name).before args s = true) (hcast : (Cond.castable E name).before args s = true) (hcell : H[q]? = some ce) (hv : ce.vm = .none) (hcl : s.vm.findClass E = some ce.cls)
    (kk : W p l e R s m args below meth c H locs cells slots Q (F0 m x.handlerPc ls [.ref q])) : vx_W p l e R s m args below meth c H locs cells slots Q (F0 m pc ls rest) q := by
  intro T hT X
  have hpl : e.platform.magicAccessors = ({} : Platform).magicAccessors := by rw [X.admits.platform]
  obtain ⟨c3, c4, hc3, hc4, hasg⟩ := Cond.castable_spec hcast
  cases Option.some.inj (hc3.symm.trans hcl)
  obtain ⟨c5, hc5, hcl5⟩ := Cond.classLink_spec hown hlink e.platform hpl
  cases Option.some.inj (hc4.symm.trans hc5)
  obtain ⟨vm', X', st⟩ := X.thenCaughtThrough q (g := F0 m pc ls rest) rfl (Steps.refl _) (by rw [hT]; exact hcell) (by rw [hv]; rfl) (by obtain ⟨k9, h9, -⟩ := Vm.findClass_spec hcl; exact ⟨k9, h9⟩) pre x suf hsplit
    (fun z hz => by
      rcases hpass z hz with h | ⟨hz0, nm, hl1, hn1⟩
      · exact Or.inl h
      · obtain ⟨c6, hc6, hcl6⟩ := Cond.classLink_spec hown hl1 e.platform hpl
        obtain ⟨a8, b8, h1, h2, h3⟩ := hn1
        cases Option.some.inj (h1.symm.trans hcl)
        cases Option.some.inj (h2.symm.trans hc6)
        exact Or.inr ⟨hz0, _, hcl6, h3⟩) hx (Or.inr ⟨h0, c4, hcl5, hasg⟩)
  obtain ⟨t, a1, b1⟩ := kk (T.setVm vm') hT X'
  exact ⟨t, st.trans a1, b1⟩
end Rows
section Ends
variable {p : Program} {l : Launch} {e : Env} {R : Room} {s : State} {m : MethodId} {args : Array Value} {below : List Frame} {meth : Method} {c : Code} {H : Heap} {locs : List Loc} {cells slots : Nat} {Q : State → Prop}
variable {mc ms : Nat} {free : Addr → Prop} {A0 A1 : Nat → Prop} {H0 : Heap} {a : Array Value} {ls : Array Slot} {st0 rest : List Value}
variable {Qc : Array Value → State → Outcome → State → Prop} {XC : String → State → State → Prop}
def vx_MQ (below : List Frame) (Qc : Array Value → State → Outcome → State → Prop) (XC : String → State → State → Prop) (a : Array Value) (s : State) (mc ms : Nat) (free : Addr → Prop) : State → Prop := fun t =>
  ∃ o, t.status = .running ∧ Ended t below o ∧ vx_Q Qc XC mc ms free a s o t
theorem vx_ret {g : JFrame} {mc ms : Nat} (k : W p l e R s m args below meth c H locs cells slots (MQ below Qc args s mc ms free) g) : W p l e R s m args below meth c H locs cells slots (vx_MQ below Qc XC args s mc ms free) g := by
  intro T hT X
  obtain ⟨t, a1, o, b1, b2, b3, b4⟩ := k T hT X
  exact ⟨t, a1, o, b1, b2, Or.inl ⟨b3, b4⟩⟩
theorem vx_widen {g : JFrame} {q : Addr} {k n : Nat} (h1 : cells ≤ k) (h2 : slots ≤ n) (kk : vx_W p l e R s m args below meth c H locs k n Q g q) : vx_W p l e R s m args below meth c H locs cells slots Q g q := fun T hT X => kk T hT (stand_widen X h1 h2)
theorem vx_out {pc : Nat} {E : String} {ce : Cell} {q : Addr} {mc ms : Nat} (hout : ∀ x ∈ c.exceptionTable.toList, covers x pc = false) (hlocks : meth.locks = false) (hcell : H[q]? = some ce) (hv : ce.vm = .none) (hcl : s.vm.findClass E = some ce.cls)
    (hx : ∀ t : State, t.heap = H → s.vm.Alike t.vm → XC E s t) (hf : ∀ z ∈ locs, free z.base) (hc : cells ≤ mc) (hs : slots ≤ ms) :
    vx_W p l e R s m args below meth c H locs cells slots (vx_MQ below Qc XC args s mc ms free) (F0 m pc ls rest) q := by
  intro T hT X
  obtain ⟨st1, hrun, hend, hW, hsm⟩ := X.leaveThrown q (g := F0 m pc ls rest) rfl rfl rfl hout hlocks
  have hcell9 : (T.setFrames (.throwing q :: below)).heap[q]? = some ce := by
    show T.heap[q]? = some ce
    rw [hT]; exact hcell
  exact ⟨_, st1, .threw q, hrun, hend, Or.inr ⟨q, rfl, E, ce, locs, hx _ hT hW.alike, hcell9, hv, hcl, hW, hsm.mono hc hs, hf⟩⟩
theorem vx_frame {U : State} {k n : Nat} (h : s.sameButNew ({ U with vm := s.vm } : State) locs k n) : s.heap.size ≤ U.heap.size ∧ ∀ q : Nat, q < s.heap.size → (∀ z ∈ locs, z.base ≠ q) → U.heap[q]? = s.heap[q]? := by
  obtain ⟨-, h2, -, -, -, h6⟩ := h
  refine ⟨h2, fun q hq hz => ?_⟩
  obtain ⟨c9, e1, e2, e3, e4⟩ := h6 q _ (Array.getElem?_eq_getElem hq)
  have hs : c9.slots = (s.heap[q]).slots := Array.ext_getElem? fun i => e4 i fun hm => hz _ hm rfl
  have h9 : c9 = s.heap[q] := by
    rw [hs] at e2
    exact e2
  have e5 : U.heap[q]? = some c9 := e1
  rw [e5, h9, Array.getElem?_eq_getElem hq]
def vx_no (w : Cond) : Bool := decide (w ≠ .isRef (.static Bundle.tN "UNASSIGNED_STACK" Bundle.steD)) && decide (w ≠ .isRef (.static Bundle.tN "SUPPRESSED_SENTINEL" Bundle.listD)) && decide (w ≠ .laysStatic Bundle.tN "UNASSIGNED_STACK" Bundle.steD) && decide (w ≠ .laysStatic Bundle.tN "SUPPRESSED_SENTINEL" Bundle.listD)
def vx_at0 (own : String) (ic : Nat) (X : String) (names : List String) : List Cond := (Bundle.ownAtoms0 own ic X names).filter vx_no
def vx_atS (own : String) (ic : Nat) (X : String) (names : List String) : List Cond := (Bundle.ownAtoms own ic X names).filter vx_no
def vx_ot (w : Cond) : Bool := w.onTables || goodWord w
theorem vx_ot_at {args a' : Array Value} {s U : State} {w : Cond} (hW : s.WarmedH U.vm) (hvm : s.vm = U.vm) (hg : vx_ot w = true) (h : w.before args s = true) : w.before a' U = true := by
  simp only [vx_ot, Bool.or_eq_true] at hg
  rcases hg with hg | hg
  · exact va_tabs hg hvm h
  · exact word_at hW (good_of_word hg) h
theorem vx_hat {args : Array Value} {s : State} {L B : List Cond} (h1 : ∀ w ∈ L.filter goodWord, w.before args s = true) (h2 : ∀ w ∈ L.filter (fun w => !goodWord w), w ∈ B) (h3 : ∀ w ∈ B, w.before args s = true) : ∀ w ∈ L, w.before args s = true := by
  intro w hw
  by_cases g : goodWord w = true
  · exact h1 w (List.mem_filter.mpr ⟨hw, g⟩)
  · refine h3 w (h2 w (List.mem_filter.mpr ⟨hw, ?_⟩))
    show (!goodWord w) = true
    cases hgw : goodWord w
    · rfl
    · exact absurd hgw g
theorem vx_c {args : Array Value} {s : State} {w : Cond} {B : List Cond} (h : w.before args s = true) (t : ∀ w ∈ B, w.before args s = true) : ∀ w' ∈ w :: B, w'.before args s = true := fun w' h' => (List.mem_cons.mp h').elim (fun e => by rw [e]; exact h) (t w')
theorem vx_n {args : Array Value} {s : State} : ∀ w ∈ ([] : List Cond), w.before args s = true := fun _ h => nomatch h
theorem vx_own {args : Array Value} {s : State} {L : List Cond} (h1 : ∀ w ∈ L.filter vx_no, w.before args s = true)
    (hU : (Cond.isRef (.static Bundle.tN "UNASSIGNED_STACK" Bundle.steD)).before args s = true) (hN : (Cond.isRef (.static Bundle.tN "SUPPRESSED_SENTINEL" Bundle.listD)).before args s = true)
    (lU : (Cond.laysStatic Bundle.tN "UNASSIGNED_STACK" Bundle.steD).before args s = true) (lN : (Cond.laysStatic Bundle.tN "SUPPRESSED_SENTINEL" Bundle.listD).before args s = true) : ∀ w ∈ L, w.before args s = true := by
  intro w hw
  by_cases e1 : w = .isRef (.static Bundle.tN "UNASSIGNED_STACK" Bundle.steD)
  · rw [e1]; exact hU
  · by_cases e2 : w = .isRef (.static Bundle.tN "SUPPRESSED_SENTINEL" Bundle.listD)
    · rw [e2]; exact hN
    · by_cases e3 : w = .laysStatic Bundle.tN "UNASSIGNED_STACK" Bundle.steD
      · rw [e3]; exact lU
      · by_cases e4 : w = .laysStatic Bundle.tN "SUPPRESSED_SENTINEL" Bundle.listD
        · rw [e4]; exact lN
        · exact h1 w (List.mem_filter.mpr ⟨hw, by unfold vx_no; rw [decide_eq_true e1, decide_eq_true e2, decide_eq_true e3, decide_eq_true e4]; rfl⟩)
def vx_L (C n d : String) (A : Nat → Prop) (U : State) (H : Heap) : Prop := ∃ (c : ClassId) (k : Class) (i : Nat) (f : Field) (a : Nat) (cell : Cell), U.vm.findClass C = some c ∧ U.fieldFound? C n d = some (c, k, i, f) ∧ f.isStatic = true ∧ k.statics = some a ∧ H[a]? = some cell ∧ cell.vm.isStatics = true ∧ cell.cls = c ∧ f.slot < cell.slots.size ∧ k.staticTypes[f.slot]? = some f.type ∧ ¬ A a
theorem vx_L.moved {C n d : String} {A : Nat → Prop} {u U : State} {H : Heap} (hvm : u.vm.Alike U.vm) (h : vx_L C n d A u H) : vx_L C n d A U H := by
  obtain ⟨c, k, i, f, a, cell, h1, h2, h3, h4, h5, h6, h7, h8, h9, h10⟩ := h
  obtain ⟨k', hi', he⟩ := State.fieldFound?_setVm hvm h2
  exact ⟨c, k', i, f, a, cell, by rw [hvm.findClass]; exact h1, hi', h3, by rw [he]; exact h4, h5, h6, h7, h8, by rw [he]; exact h9, h10⟩
theorem vx_L.kept {C n d : String} {A : Nat → Prop} {U : State} {H H1 : Heap} (h : vx_L C n d A U H) (hq : ∀ a : Nat, a < H.size → ¬ A a → H1[a]? = H[a]?) : vx_L C n d A U H1 := by
  obtain ⟨c, k, i, f, a, cell, h1, h2, h3, h4, h5, h6, h7, h8, h9, h10⟩ := h
  exact ⟨c, k, i, f, a, cell, h1, h2, h3, h4, by rw [hq a (Array.getElem?_eq_some_iff.mp h5).1 h10]; exact h5, h6, h7, h8, h9, h10⟩
theorem vx_L.narrow {C n d : String} {A B : Nat → Prop} {U : State} {H : Heap} (h : vx_L C n d A U H) (hAB : ∀ q, B q → A q) : vx_L C n d B U H := by
  obtain ⟨c, k, i, f, a, cell, h1, h2, h3, h4, h5, h6, h7, h8, h9, h10⟩ := h
  exact ⟨c, k, i, f, a, cell, h1, h2, h3, h4, h5, h6, h7, h8, h9, fun z => h10 (hAB _ z)⟩
theorem vx_L.word {C n d : String} {A : Nat → Prop} {s : State} {args : Array Value} (h : vx_L C n d A s s.heap) : (Cond.laysStatic C n d).before args s = true := by
  obtain ⟨c, k, i, f, a, cell, h1, h2, h3, h4, h5, h6, h7, h8, h9, -⟩ := h
  show (Cond.laysStatic C n d).holds args s none s [] = true
  exact Cond.laysStatic_of h1 h2 h3 h4 h5 h6 h7 h8 h9
def vx_Zq (C n d : String) (A : Nat → Prop) (U : State) (H : Heap) : Prop := va_Zq C n d A U H ∧ vx_L C n d A U H
theorem vx_Zq.moved {C n d : String} {A : Nat → Prop} {u U : State} {H : Heap} (hvm : u.vm.Alike U.vm) (h : vx_Zq C n d A u H) : vx_Zq C n d A U H := ⟨va_Zq.moved hvm h.1, vx_L.moved hvm h.2⟩
theorem vx_Zq.kept {C n d : String} {A : Nat → Prop} {U : State} {H H1 : Heap} (h : vx_Zq C n d A U H) (hq : ∀ a : Nat, a < H.size → ¬ A a → H1[a]? = H[a]?) : vx_Zq C n d A U H1 := ⟨va_Zq.kept h.1 hq, vx_L.kept h.2 hq⟩
theorem vx_Zq.narrow {C n d : String} {A B : Nat → Prop} {U : State} {H : Heap} (h : vx_Zq C n d A U H) (hAB : ∀ q, B q → A q) : vx_Zq C n d B U H := ⟨va_Zq.narrow h.1 hAB, vx_L.narrow h.2 hAB⟩
theorem vx_Zqof {args : Array Value} {s : State} {C n d : String} {A : Nat → Prop} (hl : (Cond.laysStatic C n d).before args s = true) (hini : (Cond.initialized C).before args s = true) (h : (Cond.isRef (.static C n d)).before args s = true) (hA : ∀ a : Nat, a < s.heap.size → ¬ A a) : vx_Zq C n d A s s.heap := by
  refine ⟨va_Zqof hl hini h hA, ?_⟩
  obtain ⟨c, k, i, f, a, cell, h1, h2, h3, h4, h5, h6, h7, h8, h9⟩ := Cond.laysStatic_spec hl
  exact ⟨c, k, i, f, a, cell, h1, h2, h3, h4, h5, h6, h7, h8, h9, hA a (Array.getElem?_eq_some_iff.mp h5).1⟩
theorem vx_isRef {C n d : String} {v : Value} {A : Nat → Prop} {s : State} {args : Array Value} (h : va_Z C n d v A s s.heap) (hv : v.isRef = true) : (Cond.isRef (.static C n d)).before args s = true := by
  obtain ⟨cf, kf, fi, f, a, cell, h1, h2, h3, h4, h5, h6, h7, -⟩ := h
  have he : (Term.static C n d).eval args s none [] s = some v := by
    simp [Term.eval, State.fieldNamed?, h1, h2, h4, h5, h6, h7]
  simp only [Cond.before, Cond.holds, Cond.value, he]
  cases v <;> simp_all [Value.isRef]
theorem vx_isRefq {C n d : String} {A : Nat → Prop} {s : State} {args : Array Value} (h : va_Zq C n d A s s.heap) : (Cond.isRef (.static C n d)).before args s = true := by
  rcases h with h | ⟨t, h⟩
  · exact vx_isRef h rfl
  · exact vx_isRef h rfl
theorem vx_rebase {T : State} (X : Stand p l e R s m args below meth c T locs cells slots) {R' : Room} (hf : R'.frames ≤ R.frames) (hl : R'.locals ≤ R.locals) (hc : cells + R'.cells ≤ R.cells) (hs : slots + R'.slots ≤ R.slots) :
    Stand p l e R' ((T.setVm s.vm).setFrames (.invoking m args :: below)) m args below meth c T [] 0 0 := by
  have htop : (T.setVm s.vm).topJava?.isSome := X.here.top
  have hF : ((T.setVm s.vm).setFrames (.invoking m args :: below)).frames = .invoking m args :: below := State.frames_setFrames _ (State.cur_lt_of_top htop)
  obtain ⟨g₀, hg0⟩ := Option.isSome_iff_exists.mp htop
  obtain ⟨r, hr⟩ := State.topJava?_eq_some.mp hg0
  have hl9 : e.platform.stackLimits (T.setVm s.vm).me = e.platform.stackLimits s.me := X.limits
  have hb9 : (T.setVm s.vm).me.stackBytes = s.me.stackBytes := X.bytes
  refine ⟨X.admits, X.cas, X.clock, hF, ?_, X.hears, X.method, X.code, X.here, X.tail, X.warmed, ?_, ?_, ?_⟩
  · have h := X.room
    have hU : ((T.setVm s.vm).setFrames (.invoking m args :: below)).localsInUse = s.localsInUse := by
      rw [State.localsInUse_invoking hF (meth := meth) (c := c) X.method X.code, State.localsInUse_invoking X.frames X.method X.code]
    simp only [State.hasRoom, Bool.and_eq_true, decide_eq_true_eq] at h ⊢
    obtain ⟨⟨⟨⟨h1, h2, h3, h4, h5, h6⟩, h7⟩, h8⟩, h9⟩ := h
    rw [X.frames, List.length_cons] at h2 h3
    have q1 := X.heapSize
    have q2 := X.used
    simp only [hF, hU, List.length_cons, State.stackLimits_setFrames, State.stackBytes_setFrames, hl9, hb9]
    refine ⟨⟨⟨⟨by omega, by omega, by omega, by omega, by omega, h6⟩, ?_⟩, ?_⟩, X.book⟩
    · show T.heap.size + R'.cells ≤ e.platform.maxCells
      omega
    · show T.slotsUsed + R'.slots ≤ e.platform.maxSlots
      omega
  · rw [State.stackLimits_setFrames]; rfl
  · rw [State.stackBytes_setFrames]; rfl
  · refine ⟨?_, Nat.le_refl _, Nat.le_refl _, ?_, ?_, fun a c9 h9 => ⟨c9, h9, rfl, rfl, fun _ _ => rfl⟩⟩
    · obtain ⟨t, ht, -⟩ := State.frames_cons hr
      show T.setVm s.vm = { ((T.setVm s.vm).setFrames (.invoking m args :: below)).setFrames (T.setVm s.vm).frames with heap := T.heap, slotsUsed := T.slotsUsed }
      rw [State.setFrames_setFrames, State.setFrames_self ht]
      rfl
    · show T.slotsUsed = T.slotsUsed + ((T.heap.toList.drop T.heap.size).map (·.slots.size)).sum
      rw [List.drop_eq_nil_of_le (Nat.le_of_eq Array.length_toList)]
      rfl
    · show ((T.heap.toList.drop T.heap.size).map (·.slots.size)).sum ≤ 0
      rw [List.drop_eq_nil_of_le (Nat.le_of_eq Array.length_toList)]
      exact Nat.le_refl _
theorem vx_throw0 {cc : ByteArray} {pc : Nat} (hexec : p.tables.exec = Jvm.exec) (hb : c.code = cc) (hl : l.stackTraces = false) {own cls : String} {names : List String} {ik ic mc ms : Nat} {A : Nat → Prop}
    (hown : s.vm.findClass own = some m.cls) (hcls : Bundle.fit cls = true) (hnames : ∀ n ∈ names, Bundle.fit n = true)
    (hk : (Cond.classLink own ik cls).before args s = true) (hini : (Cond.initialized cls).before args s = true) (hat : ∀ w ∈ vx_at0 own ic cls names, w.before args s = true)
    (hgood : ∀ w ∈ Cond.classLink own ik cls :: Cond.initialized cls :: vx_at0 own ic cls names, vx_ot w = true)
    (hU : vx_Zq Bundle.tN "UNASSIGNED_STACK" Bundle.steD A s s.heap) (hN : vx_Zq Bundle.tN "SUPPRESSED_SENTINEL" Bundle.listD A s s.heap) (hS : va_S A s.heap H locs) (hsize : ls.size = c.maxLocals)
    (d0 : decode cc pc = .ok (.new ik, 3)) (d3 : decode cc (pc + 3) = .ok (.dup, 1)) (d4 : decode cc (pc + 4) = .ok (.invokespecial ic, 3)) (d7 : decode cc (pc + 7) = .ok (.athrow, 1))
    (hout : ∀ x ∈ c.exceptionTable.toList, covers x (pc + 7) = false)
    (hRframes : names.length + 3 < R.frames) (hRlocals : (rest.map fun v => v.category).sum + (13 * (names.length + 1) + 42) ≤ R.locals) (hRcells : cells + 1 ≤ R.cells) (hRslots : slots + 6 ≤ R.slots) (hlocks : meth.locks = false)
    (hx : ∀ t : State, s.vm.Alike t.vm → H.size ≤ t.heap.size → (∀ q : Nat, q < H.size → t.heap[q]? = H[q]?) → XC cls s t)
    (hf : ∀ z ∈ locs, free z.base) (hc : cells + 1 ≤ mc) (hs : slots + 6 ≤ ms) :
    W p l e R s m args below meth c H locs cells slots (vx_MQ below Qc XC args s mc ms free) (F0 m pc ls rest) := by
  intro T hT X
  have htr : e.platform.stackTraces = false := (show e.platform.stackTraces = l.stackTraces by rw [X.admits.platform]).trans hl
  have Y := vx_rebase X (R' := { frames := R.frames, locals := R.locals, cells := 1, slots := 6 }) (Nat.le_refl _) (Nat.le_refl _) hRcells hRslots
  obtain ⟨s', hA⟩ : ∃ z, z = (T.setVm s.vm).setFrames (.invoking m args :: below) := ⟨_, rfl⟩
  rw [← hA] at Y
  have hvm : s'.vm = s.vm := by rw [hA]; rfl
  have hhp : s'.heap = H := by rw [hA]; exact hT
  have hW0 : s.WarmedH s'.vm := by rw [hvm]; exact State.WarmedH.refl s
  have hat' : ∀ w ∈ vx_at0 own ic cls names, w.before args s' = true := fun w hw => vx_ot_at hW0 hvm.symm (hgood w (List.mem_cons_of_mem _ (List.mem_cons_of_mem _ hw))) (hat w hw)
  have hk' : (Cond.classLink own ik cls).before args s' = true := vx_ot_at hW0 hvm.symm (hgood _ List.mem_cons_self) hk
  have hini' : (Cond.initialized cls).before args s' = true := vx_ot_at hW0 hvm.symm (hgood _ (List.mem_cons_of_mem _ List.mem_cons_self)) hini
  have hU' : vx_Zq Bundle.tN "UNASSIGNED_STACK" Bundle.steD A s' s'.heap := by rw [hhp]; exact vx_Zq.moved hW0.alike (hU.kept hS.2.1)
  have hN' : vx_Zq Bundle.tN "SUPPRESSED_SENTINEL" Bundle.listD A s' s'.heap := by rw [hhp]; exact vx_Zq.moved hW0.alike (hN.kept hS.2.1)
  have h : ∀ w ∈ Bundle.ownAtoms0 own ic cls names, w.before args s' = true := vx_own hat' (vx_isRefq hU'.1) (vx_isRefq hN'.1) hU'.2.word hN'.2.word
  have hown' : s'.vm.findClass own = some m.cls := by rw [hvm]; exact hown
  have hins : (Cond.instantiable cls 6).before args s' = true := h _ (by simp [Bundle.ownAtoms0])
  obtain ⟨vm₁, cX, kX, hfX, hkX, -, -, X₁, st1⟩ := Y.newCold hexec (own := own) (C := cls) (index := ik) (n := 6) hown' hk' hins hini'
    (g := F0 m pc ls rest) rfl (by rw [hb]; exact d0) (Nat.le_refl _) (Nat.le_refl _)
  generalize hT1 : (T.setVm vm₁).pushCell { cls := cX, slots := kX.instanceTypes.map defaultValue, vm := .none } = T1 at X₁ st1
  have hcat : (Value.ref T.heap.size).category = 1 := rfl
  have hcellA : T1.heap[T.heap.size]? = some (freshCell cX kX) := by rw [← hT1]; exact State.heap_pushCell_size _ _
  have d3' : decode c.code (pc + 3) = .ok (.dup, 1) := by rw [hb]; exact d3
  obtain ⟨U, hsteps, hrun, hend, hW, hsame, ce, hce, hO⟩ := X₁.ctorThrow0 hexec htr (own := own) (cls := cls) (names := names) (ic := ic) hown' hcls hnames h (fun x hx => nomatch hx) hfX hkX hcellA (by rw [hhp, hT]; exact Nat.le_refl _)
    (g := { method := m, pc := pc + 4, locals := ls, stack := .ref T.heap.size :: .ref T.heap.size :: rest, locked := none }) rfl hsize rfl rfl (rest := rest) rfl
    (by rw [hb]; exact d4) (by rw [hb]; exact d7) hout hRframes (by simp only [List.map_cons, List.sum_cons, hcat]; omega) hlocks
  obtain ⟨f1, f2⟩ := vx_frame hsame
  rw [hhp] at f1 f2
  have hWs : s.WarmedH U.vm := State.WarmedH.trans hW0 hW
  have hcl : s.vm.findClass cls = some ce.cls := by
    have h9 := hO.cls
    rw [hvm] at h9
    exact h9
  have hall : s.sameButNew ({ U with vm := s.vm } : State) locs mc ms := by
    subst hA
    obtain ⟨e1, e2⟩ := hsame
    rw [State.setFrames_setFrames] at e1
    have h2 : (T.setVm s.vm).sameButNew ({ U with vm := s.vm } : State) [] (0 + 1) (0 + 6) := ⟨e1, e2⟩
    have h3 := X.same.trans h2
    rw [List.append_nil] at h3
    exact h3.mono hc hs
  refine ⟨U, ?_, .threw T.heap.size, hrun, hend, Or.inr ⟨T.heap.size, rfl, cls, ce, locs, hx U hWs.alike f1 (fun q hq => f2 q hq (fun z hz => nomatch hz)), hce, hO.vm, hcl, hWs, hall, hf⟩⟩
  refine st1 _ ?_
  show Steps p.tables e below (T1.setTop { method := m, pc := pc + 3, locals := ls, stack := .ref T.heap.size :: rest, locked := none }) _
  jvm_step X₁.here [X₁.here.top, hexec, d3', Value.category]
  exact hsteps
theorem vx_throwS {cc : ByteArray} {pc : Nat} (hexec : p.tables.exec = Jvm.exec) (hb : c.code = cc) (hl : l.stackTraces = false) {own cls text : String} {names : List String} {ik is ic mc ms sa : Nat} {A : Nat → Prop}
    (hown : s.vm.findClass own = some m.cls) (hcls : Bundle.fit cls = true) (hnames : ∀ n ∈ names, Bundle.fit n = true)
    (hk : (Cond.classLink own ik cls).before args s = true) (hini : (Cond.initialized cls).before args s = true) (hstr : vk_R own is text sa s) (hat : ∀ w ∈ vx_atS own ic cls names, w.before args s = true)
    (hgood : ∀ w ∈ Cond.classLink own ik cls :: Cond.initialized cls :: vx_atS own ic cls names, vx_ot w = true)
    (hU : vx_Zq Bundle.tN "UNASSIGNED_STACK" Bundle.steD A s s.heap) (hN : vx_Zq Bundle.tN "SUPPRESSED_SENTINEL" Bundle.listD A s s.heap) (hS : va_S A s.heap H locs) (hsize : ls.size = c.maxLocals)
    (d0 : decode cc pc = .ok (.new ik, 3)) (d3 : decode cc (pc + 3) = .ok (.dup, 1)) (d4 : decode cc (pc + 4) = .ok (.ldc is, 2)) (d6 : decode cc (pc + 6) = .ok (.invokespecial ic, 3)) (d9 : decode cc (pc + 9) = .ok (.athrow, 1))
    (hout : ∀ x ∈ c.exceptionTable.toList, covers x (pc + 9) = false)
    (hRframes : names.length + 3 < R.frames) (hRlocals : (rest.map fun v => v.category).sum + (13 * (names.length + 1) + 43) ≤ R.locals) (hRcells : cells + 1 ≤ R.cells) (hRslots : slots + 6 ≤ R.slots) (hlocks : meth.locks = false)
    (hx : ∀ t : State, s.vm.Alike t.vm → H.size + 1 ≤ t.heap.size → (∀ q : Nat, q < H.size → t.heap[q]? = H[q]?) → XC cls s t)
    (hf : ∀ z ∈ locs, free z.base) (hc : cells + 1 ≤ mc) (hs : slots + 6 ≤ ms) :
    W p l e R s m args below meth c H locs cells slots (vx_MQ below Qc XC args s mc ms free) (F0 m pc ls rest) := by
  intro T hT X
  have htr : e.platform.stackTraces = false := (show e.platform.stackTraces = l.stackTraces by rw [X.admits.platform]).trans hl
  have Y := vx_rebase X (R' := { frames := R.frames, locals := R.locals, cells := 1, slots := 6 }) (Nat.le_refl _) (Nat.le_refl _) hRcells hRslots
  obtain ⟨s', hA⟩ : ∃ z, z = (T.setVm s.vm).setFrames (.invoking m args :: below) := ⟨_, rfl⟩
  rw [← hA] at Y
  have hvm : s'.vm = s.vm := by rw [hA]; rfl
  have hhp : s'.heap = H := by rw [hA]; exact hT
  have hW0 : s.WarmedH s'.vm := by rw [hvm]; exact State.WarmedH.refl s
  have hat' : ∀ w ∈ vx_atS own ic cls names, w.before args s' = true := fun w hw => vx_ot_at hW0 hvm.symm (hgood w (List.mem_cons_of_mem _ (List.mem_cons_of_mem _ hw))) (hat w hw)
  have hk' : (Cond.classLink own ik cls).before args s' = true := vx_ot_at hW0 hvm.symm (hgood _ List.mem_cons_self) hk
  have hini' : (Cond.initialized cls).before args s' = true := vx_ot_at hW0 hvm.symm (hgood _ (List.mem_cons_of_mem _ List.mem_cons_self)) hini
  have hU' : vx_Zq Bundle.tN "UNASSIGNED_STACK" Bundle.steD A s' s'.heap := by rw [hhp]; exact vx_Zq.moved hW0.alike (hU.kept hS.2.1)
  have hN' : vx_Zq Bundle.tN "SUPPRESSED_SENTINEL" Bundle.listD A s' s'.heap := by rw [hhp]; exact vx_Zq.moved hW0.alike (hN.kept hS.2.1)
  have h : ∀ w ∈ Bundle.ownAtoms own ic cls names, w.before args s' = true := vx_own hat' (vx_isRefq hU'.1) (vx_isRefq hN'.1) hU'.2.word hN'.2.word
  have hown' : s'.vm.findClass own = some m.cls := by rw [hvm]; exact hown
  have hins : (Cond.instantiable cls 6).before args s' = true := h _ (by simp [Bundle.ownAtoms])
  obtain ⟨vm₁, cX, kX, hfX, hkX, -, -, X₁, st1⟩ := Y.newCold hexec (own := own) (C := cls) (index := ik) (n := 6) hown' hk' hins hini'
    (g := F0 m pc ls rest) rfl (by rw [hb]; exact d0) (Nat.le_refl _) (Nat.le_refl _)
  generalize hT1 : (T.setVm vm₁).pushCell { cls := cX, slots := kX.instanceTypes.map defaultValue, vm := .none } = T1 at X₁ st1
  have hcat : (Value.ref T.heap.size).category = 1 := rfl
  have hcellA : T1.heap[T.heap.size]? = some (freshCell cX kX) := by rw [← hT1]; exact State.heap_pushCell_size _ _
  have d3' : decode c.code (pc + 3) = .ok (.dup, 1) := by rw [hb]; exact d3
  have d4' : decode c.code (pc + 4) = .ok (.ldc is, 2) := by rw [hb]; exact d4
  have hstr' : vk_R own is text sa s' := vk_R.warm hW0 hstr
  obtain ⟨U, hsteps, hrun, hend, hW, hsame, ce, hce, hO⟩ := X₁.ctorThrowS hexec htr (own := own) (cls := cls) (names := names) (ic := ic) hown' hcls hnames h (fun x hx => nomatch hx) hfX hkX hcellA (by rw [hhp, hT]; exact Nat.le_refl _) (msg := .ref sa) rfl
    (g := { method := m, pc := pc + 6, locals := ls, stack := .ref sa :: .ref T.heap.size :: .ref T.heap.size :: rest, locked := none }) rfl hsize rfl rfl (rest := rest) rfl
    (by rw [hb]; exact d6) (by rw [hb]; exact d9) hout hRframes (by simp only [List.map_cons, List.sum_cons, hcat]; omega) hlocks
  obtain ⟨f1, f2⟩ := vx_frame hsame
  rw [hhp] at f1 f2
  have hWs : s.WarmedH U.vm := State.WarmedH.trans hW0 hW
  have hcl : s.vm.findClass cls = some ce.cls := by
    have h9 := hO.cls
    rw [hvm] at h9
    exact h9
  have hall : s.sameButNew ({ U with vm := s.vm } : State) locs mc ms := by
    subst hA
    obtain ⟨e1, e2⟩ := hsame
    rw [State.setFrames_setFrames] at e1
    have h2 : (T.setVm s.vm).sameButNew ({ U with vm := s.vm } : State) [] (0 + 1) (0 + 6) := ⟨e1, e2⟩
    have h3 := X.same.trans h2
    rw [List.append_nil] at h3
    exact h3.mono hc hs
  refine ⟨U, ?_, .threw T.heap.size, hrun, hend, Or.inr ⟨T.heap.size, rfl, cls, ce, locs, hx U hWs.alike (by have h9 := (Array.getElem?_eq_some_iff.mp hce).1; rw [hT] at h9; exact h9) (fun q hq => f2 q hq (fun z hz => nomatch hz)), hce, hO.vm, hcl, hWs, hall, hf⟩⟩
  refine st1 _ ?_
  show Steps p.tables e below (T1.setTop { method := m, pc := pc + 3, locals := ls, stack := .ref T.heap.size :: rest, locked := none }) _
  jvm_step X₁.here [X₁.here.top, hexec, d3', Value.category]
  exact X₁.ldcString hexec (own := own) (text := text) (index := is) (a := sa) hown' hstr'.1 hstr'.2
    (g := { method := m, pc := pc + 4, locals := ls, stack := .ref T.heap.size :: .ref T.heap.size :: rest, locked := none }) rfl d4' _ hsteps
theorem vx_throwSW {cc : ByteArray} {pc : Nat} (hexec : p.tables.exec = Jvm.exec) (hb : c.code = cc) (hl : l.stackTraces = false) {own cls text : String} {names : List String} {ik is ic mc ms sa : Nat} {A : Nat → Prop}
    (hown : s.vm.findClass own = some m.cls) (hcls : Bundle.fit cls = true) (hnames : ∀ n ∈ names, Bundle.fit n = true)
    (hk : (Cond.classLink own ik cls).before args s = true) (hini : (Cond.initialized cls).before args s = true) (hstr : vk_R own is text sa s) (hat : ∀ w ∈ vx_atS own ic cls names, w.before args s = true)
    (hgood : ∀ w ∈ Cond.classLink own ik cls :: Cond.initialized cls :: vx_atS own ic cls names, vx_ot w = true)
    (hU : vx_Zq Bundle.tN "UNASSIGNED_STACK" Bundle.steD A s s.heap) (hN : vx_Zq Bundle.tN "SUPPRESSED_SENTINEL" Bundle.listD A s s.heap) (hS : va_S A s.heap H locs) (hsize : ls.size = c.maxLocals)
    (d0 : decode cc pc = .ok (.new ik, 3)) (d3 : decode cc (pc + 3) = .ok (.dup, 1)) (d4 : decode cc (pc + 4) = .ok (.ldc_w is, 3)) (d7 : decode cc (pc + 7) = .ok (.invokespecial ic, 3)) (d10 : decode cc (pc + 10) = .ok (.athrow, 1))
    (hout : ∀ x ∈ c.exceptionTable.toList, covers x (pc + 10) = false)
    (hRframes : names.length + 3 < R.frames) (hRlocals : (rest.map fun v => v.category).sum + (13 * (names.length + 1) + 43) ≤ R.locals) (hRcells : cells + 1 ≤ R.cells) (hRslots : slots + 6 ≤ R.slots) (hlocks : meth.locks = false)
    (hx : ∀ t : State, s.vm.Alike t.vm → H.size + 1 ≤ t.heap.size → (∀ q : Nat, q < H.size → t.heap[q]? = H[q]?) → XC cls s t)
    (hf : ∀ z ∈ locs, free z.base) (hc : cells + 1 ≤ mc) (hs : slots + 6 ≤ ms) :
    W p l e R s m args below meth c H locs cells slots (vx_MQ below Qc XC args s mc ms free) (F0 m pc ls rest) := by
  intro T hT X
  have htr : e.platform.stackTraces = false := (show e.platform.stackTraces = l.stackTraces by rw [X.admits.platform]).trans hl
  have Y := vx_rebase X (R' := { frames := R.frames, locals := R.locals, cells := 1, slots := 6 }) (Nat.le_refl _) (Nat.le_refl _) hRcells hRslots
  obtain ⟨s', hA⟩ : ∃ z, z = (T.setVm s.vm).setFrames (.invoking m args :: below) := ⟨_, rfl⟩
  rw [← hA] at Y
  have hvm : s'.vm = s.vm := by rw [hA]; rfl
  have hhp : s'.heap = H := by rw [hA]; exact hT
  have hW0 : s.WarmedH s'.vm := by rw [hvm]; exact State.WarmedH.refl s
  have hat' : ∀ w ∈ vx_atS own ic cls names, w.before args s' = true := fun w hw => vx_ot_at hW0 hvm.symm (hgood w (List.mem_cons_of_mem _ (List.mem_cons_of_mem _ hw))) (hat w hw)
  have hk' : (Cond.classLink own ik cls).before args s' = true := vx_ot_at hW0 hvm.symm (hgood _ List.mem_cons_self) hk
  have hini' : (Cond.initialized cls).before args s' = true := vx_ot_at hW0 hvm.symm (hgood _ (List.mem_cons_of_mem _ List.mem_cons_self)) hini
  have hU' : vx_Zq Bundle.tN "UNASSIGNED_STACK" Bundle.steD A s' s'.heap := by rw [hhp]; exact vx_Zq.moved hW0.alike (hU.kept hS.2.1)
  have hN' : vx_Zq Bundle.tN "SUPPRESSED_SENTINEL" Bundle.listD A s' s'.heap := by rw [hhp]; exact vx_Zq.moved hW0.alike (hN.kept hS.2.1)
  have h : ∀ w ∈ Bundle.ownAtoms own ic cls names, w.before args s' = true := vx_own hat' (vx_isRefq hU'.1) (vx_isRefq hN'.1) hU'.2.word hN'.2.word
  have hown' : s'.vm.findClass own = some m.cls := by rw [hvm]; exact hown
  have hins : (Cond.instantiable cls 6).before args s' = true := h _ (by simp [Bundle.ownAtoms])
  obtain ⟨vm₁, cX, kX, hfX, hkX, -, -, X₁, st1⟩ := Y.newCold hexec (own := own) (C := cls) (index := ik) (n := 6) hown' hk' hins hini'
    (g := F0 m pc ls rest) rfl (by rw [hb]; exact d0) (Nat.le_refl _) (Nat.le_refl _)
  generalize hT1 : (T.setVm vm₁).pushCell { cls := cX, slots := kX.instanceTypes.map defaultValue, vm := .none } = T1 at X₁ st1
  have hcat : (Value.ref T.heap.size).category = 1 := rfl
  have hcellA : T1.heap[T.heap.size]? = some (freshCell cX kX) := by rw [← hT1]; exact State.heap_pushCell_size _ _
  have d3' : decode c.code (pc + 3) = .ok (.dup, 1) := by rw [hb]; exact d3
  have d4' : decode c.code (pc + 4) = .ok (.ldc_w is, 3) := by rw [hb]; exact d4
  have hstr' : vk_R own is text sa s' := vk_R.warm hW0 hstr
  obtain ⟨U, hsteps, hrun, hend, hW, hsame, ce, hce, hO⟩ := X₁.ctorThrowS hexec htr (own := own) (cls := cls) (names := names) (ic := ic) hown' hcls hnames h (fun x hx => nomatch hx) hfX hkX hcellA (by rw [hhp, hT]; exact Nat.le_refl _) (msg := .ref sa) rfl
    (g := { method := m, pc := pc + 7, locals := ls, stack := .ref sa :: .ref T.heap.size :: .ref T.heap.size :: rest, locked := none }) rfl hsize rfl rfl (rest := rest) rfl
    (by rw [hb]; exact d7) (by rw [hb]; exact d10) hout hRframes (by simp only [List.map_cons, List.sum_cons, hcat]; omega) hlocks
  obtain ⟨f1, f2⟩ := vx_frame hsame
  rw [hhp] at f1 f2
  have hWs : s.WarmedH U.vm := State.WarmedH.trans hW0 hW
  have hcl : s.vm.findClass cls = some ce.cls := by
    have h9 := hO.cls
    rw [hvm] at h9
    exact h9
  have hall : s.sameButNew ({ U with vm := s.vm } : State) locs mc ms := by
    subst hA
    obtain ⟨e1, e2⟩ := hsame
    rw [State.setFrames_setFrames] at e1
    have h2 : (T.setVm s.vm).sameButNew ({ U with vm := s.vm } : State) [] (0 + 1) (0 + 6) := ⟨e1, e2⟩
    have h3 := X.same.trans h2
    rw [List.append_nil] at h3
    exact h3.mono hc hs
  refine ⟨U, ?_, .threw T.heap.size, hrun, hend, Or.inr ⟨T.heap.size, rfl, cls, ce, locs, hx U hWs.alike (by have h9 := (Array.getElem?_eq_some_iff.mp hce).1; rw [hT] at h9; exact h9) (fun q hq => f2 q hq (fun z hz => nomatch hz)), hce, hO.vm, hcl, hWs, hall, hf⟩⟩
  refine st1 _ ?_
  show Steps p.tables e below (T1.setTop { method := m, pc := pc + 3, locals := ls, stack := .ref T.heap.size :: rest, locked := none }) _
  jvm_step X₁.here [X₁.here.top, hexec, d3', Value.category]
  exact X₁.ldcStringW hexec (own := own) (text := text) (index := is) (a := sa) hown' hstr'.1 hstr'.2
    (g := { method := m, pc := pc + 4, locals := ls, stack := .ref T.heap.size :: .ref T.heap.size :: rest, locked := none }) rfl d4' _ hsteps
end Ends
section Bodies
variable {l : Launch}
theorem vx_ofW {y : MethodName} {ws ws' : List Cond} {rm : Room} {Pc : Array Value → State → Prop} {Qc : Array Value → State → Outcome → State → Prop} {XC : String → State → State → Prop} {mc ms : Nat} {free : Addr → Prop} {cc : ByteArray} {maxL : Nat} {ret : Option FieldType}
    (hy : plainName y.cls = true) (hw : ws = Cond.code y cc maxL ret :: ws')
    (body : ∀ p e s m args below meth c s₁, BodyLoose p l y (headSpec ws rm) cc maxL ret e s m args below meth c s₁ → c.maxLocals = maxL → (∀ x ∈ c.exceptionTable.toList, False) → Pc args s →
      W p l e (headSpec ws rm).room s m args below meth c s.heap [] 0 0 (vx_MQ below Qc XC args s mc ms free) (entryFrame m args maxL)) : vx_Met l y ws rm Pc Qc XC mc ms free := by
  refine MetFree.of_bodyS (code := cc) (maxLocals := maxL) (ret := ret) hy ?_ ?_
  · intro args s m h hn
    obtain ⟨meth, c, h1, h2, h3, h4, h5, h6, -, -⟩ := Cond.code_spec hn (atoms_spec (ws := ws) h _ (by rw [hw]; exact List.mem_cons_self))
    exact ⟨meth, c, h1, h2, h3, h4, h5, h6⟩
  · intro p e s m args below meth c s₁ B hml hP _
    have hh0 : s₁.heap = s.heap := by rw [B.state]; rfl
    have ht : ∀ x ∈ c.exceptionTable.toList, False := by
      obtain ⟨meth9, c9, h1, h2, -, -, -, -, h7, -⟩ := Cond.code_spec B.named (atoms_spec (ws := ws) B.pre _ (by rw [hw]; exact List.mem_cons_self))
      cases Option.some.inj (h1.symm.trans B.method)
      cases Option.some.inj (h2.symm.trans (Stand.of_body B).code)
      intro x hx
      rw [Array.isEmpty_iff.mp h7] at hx
      cases hx
    obtain ⟨t, a1, o, b1, b2, b3⟩ := body p e s m args below meth c s₁ B hml ht hP s₁ hh0 (Stand.of_body B)
    exact ⟨t, o, a1, b1, b2, b3⟩
theorem vx_table {p : Program} {x y : MethodName} {S : Spec} {cc bytes : ByteArray} {maxL maxL' : Nat} {ret ret' : Option FieldType} {e : Env} {s s₁ : State} {m : MethodId} {args : Array Value} {below : List Frame} {meth : Method} {c : Code} {hh : List (Nat × Nat × Nat × Nat)}
    (B : BodyLoose p l y S cc maxL ret e s m args below meth c s₁) (h : (Cond.codeWith y bytes maxL' ret' hh).before args s = true) : c.exceptionTable.toList = tableOf hh := by
  obtain ⟨m9, meth9, c9, hn9, h1, h2, -, -, h6, -⟩ := Cond.codeWith_spec h
  cases Option.some.inj (hn9.symm.trans B.named)
  cases Option.some.inj (h1.symm.trans B.method)
  cases Option.some.inj (h2.symm.trans (Stand.of_body B).code)
  rw [← h6, table_eq]
end Bodies
end VXA
section VXS
variable {p : Program} {l : Launch} {e : Env} {R : Room} {s : State} {m : MethodId} {args : Array Value} {below : List Frame} {meth : Method} {c : Code} {T : State} {H : Heap} {locs : List Loc} {cells slots : Nat}
abbrev vx_CSW (R : Room) (s : State) (args : Array Value) (own : String) (index : Nat) (y : MethodName) (bytes : ByteArray) (maxL : Nat) (ret : Option FieldType) (hh : List (Nat × Nat × Nat × Nat)) (ws : List Cond) (rm : Room) (mc ms n : Nat) : Prop :=
  (rm.cells = mc ∧ rm.slots = ms ∧ rm.frames + 1 ≤ R.frames ∧ 8 + (maxL + 11) + rm.locals ≤ R.locals ∧ (∀ w ∈ ws, ∀ (a' : Array Value) (U : State), s.WarmedH U.vm → w.before a' U = true) ∧ Cond.codeWith y bytes maxL ret hh ∈ ws) ∧
  (Cond.codeWith y bytes maxL ret hh).before args s = true ∧ (Cond.initialized y.cls).before args s = true ∧ (y.cls ≠ "java/lang/invoke/MethodHandle" ∧ y.cls ≠ "java/lang/invoke/VarHandle") ∧
  (∀ sig, parseMethodDescriptor y.desc = some sig → n = sig.parameters.length) ∧ (Cond.methodLink own index y).before args s = true ∧ (Cond.static y).before args s = true
theorem vx_cwSW {own : String} {index maxL mc ms : Nat} {y : MethodName} {bytes : ByteArray} {ret : Option FieldType} {hh : List (Nat × Nat × Nat × Nat)} {Ts ws ws' : List Cond} {rm : Room} (n : Nat) (ht : ∀ w ∈ Ts, w.before args s = true) (hT : GoodIn Ts (va_wsS own index y ws)) (hw : ws = Cond.codeWith y bytes maxL ret hh :: ws') (hrc : rm.cells = mc) (hrs : rm.slots = ms)
    (hd : y.cls ≠ "java/lang/invoke/MethodHandle" ∧ y.cls ≠ "java/lang/invoke/VarHandle" ∧ (parseMethodDescriptor y.desc).map (fun d => d.parameters.length) = some n) (hR : rm.frames + 1 ≤ R.frames ∧ 8 + (maxL + 11) + rm.locals ≤ R.locals) :
    vx_CSW R s args own index y bytes maxL ret hh ws rm mc ms n := by
  have ok : ∀ w ∈ va_wsS own index y ws, w.before args s = true := fun w h => ht w (hT w h).1
  have hG : GoodIn Ts ws := fun w h => hT w (by unfold va_wsS; exact List.mem_append_right _ h)
  have hc : Cond.codeWith y bytes maxL ret hh ∈ ws := by rw [hw]; exact List.mem_cons_self
  refine ⟨⟨hrc, hrs, hR.1, hR.2, pay_in ht hG, hc⟩, ht _ (hG _ hc).1, ok _ (by simp [va_wsS]), ⟨hd.1, hd.2.1⟩, fun sig h => ?_, ok _ (by simp [va_wsS]), ok _ (by simp [va_wsS])⟩
  have h2 := hd.2.2
  rw [h] at h2
  exact (Option.some.inj h2).symm
theorem vx_callSW (X : Stand p l e R s m args below meth c T locs cells slots) (hexec : p.tables.exec = Jvm.exec) {own : String} {index : Nat} {y : MethodName} {bytes : ByteArray} {maxL : Nat} {ret : Option FieldType} {hh : List (Nat × Nat × Nat × Nat)}
    (hown : s.vm.findClass own = some m.cls) (hlink : (Cond.methodLink own index y).before args s = true) (hstat : (Cond.static y).before args s = true) (hinit : (Cond.initialized y.cls).before args s = true)
    (hcode : (Cond.codeWith y bytes maxL ret hh).before args s = true) (hy : y.cls ≠ "java/lang/invoke/MethodHandle" ∧ y.cls ≠ "java/lang/invoke/VarHandle")
    {W9 : Nat} {Pre : Pt → Array Value → Prop} {Post : Pt → Array Value → Option Value → Pt → Prop} (hK : Back l R p e below s args y 3 W9 Pre Post)
    {g : JFrame} (hg : g.method = m) (hsize : g.locals.size = c.maxLocals) {argsL rest : List Value} (hlen : ∀ sig, parseMethodDescriptor y.desc = some sig → argsL.length = sig.parameters.length)
    (hstack : g.stack = argsL.reverse ++ rest) (hW : 2 * g.monitorRoom + (rest.map fun v => v.category).sum ≤ W9) (hdg : decode c.code g.pc = .ok (.invokestatic index, 3))
    (hpre : ∀ vm₁, s.WarmedH vm₁ → Pre ⟨T.setVm vm₁, locs, cells, slots⟩ argsL.toArray) :
    ∃ (v : Option Value) (vm₁ : Vm) (B : Pt), s.WarmedH vm₁ ∧ Stand p l e R s m args below meth c B.U B.locs B.cells B.slots ∧ Post ⟨T.setVm vm₁, locs, cells, slots⟩ argsL.toArray v B ∧
      ∀ target, Steps p.tables e below (B.U.setTop { g with pc := g.pc + 3, stack := v.toList ++ rest }) target → Steps p.tables e below (T.setTop g) target := by
  obtain ⟨mk, methM, cM, hnamed, hmethM, -, -, -, -, -, -, hsigM⟩ := Cond.codeWith_spec hcode
  have hstatic : methM.isStatic = true := Cond.static_spec hnamed hmethM hstat
  obtain ⟨kP, hkP, -⟩ := className_of_methodNamed hnamed
  have hinitP : kP.init = .initialized := Cond.initialized_spec (findClass_of_methodNamed hnamed) hkP hinit
  obtain ⟨vm₁, X₁, hstep₁⟩ := X.invokestatic hexec hown hlink hnamed hmethM hstatic hkP hinitP hy (g := g) hg (argsL := argsL) (rest := rest) (hlen _ hsigM) hstack hdg
  obtain ⟨v, B, X', hpost, hsteps⟩ := hK m meth c ⟨T.setVm vm₁, locs, cells, slots⟩ { g with stack := rest } (.invokestatic index) mk argsL.toArray X₁ hg hsize hdg hW (X₁.named hnamed) (hpre vm₁ X₁.warmed)
  exact ⟨v, vm₁, B, X₁.warmed, X', hpost, fun target h => hstep₁ _ fun acts => by rw [doInvoke_state]; exact hsteps.trans h⟩
theorem vx_runSW {y : MethodName} {bytes cc : ByteArray} {maxL nL mc ms n index : Nat} {ret : Option FieldType} {hh : List (Nat × Nat × Nat × Nat)} {ws : List Cond} {rm : Room} {Pc : Array Value → State → Prop} {Qc : Array Value → State → Outcome → State → Prop} {free : Addr → Prop} {Ts : List Cond} {own : String} {As rest : List Value} {g : JFrame}
    (S : CallFix p m c cc nL s args Ts own) (hM : Met l y ws rm Pc Qc mc ms free) (cw : vx_CSW R s args own index y bytes maxL ret hh ws rm mc ms n) (hp : PreS s H Pc As)
    (hg : g.method = m) (hn : As.length = n) (hsize : g.locals.size = nL) (hstack : g.stack = As.reverse ++ rest) (hW : 2 * g.monitorRoom + (rest.map fun v => v.category).sum ≤ 8) (hdg : decode cc g.pc = .ok (.invokestatic index, 3)) (hf : cells + mc ≤ R.cells ∧ slots + ms ≤ R.slots) :
    va_Run p l e R s m args below meth c H locs cells slots mc ms g rest (Qc As.toArray) (free) := by
  obtain ⟨⟨hrc, hrs, hfr, hlo, hws, hcw⟩, hcode, hini, hy, hlen, hl, hstt⟩ := cw
  have hK : Back l R p e below s args y 3 8 (PreOf R mc ms Pc) (PostOf Qc mc ms free) := va_backW (hh := hh) (bytes := bytes) (maxL := maxL) (ret := ret) hM hp.1 hrc hrs hfr hlo hws hcw (fun a' U hW => word_at hW (Or.inl (by first | rfl | simp [Cond.onTables, Cond.keeps, Cond.steady])) hini)
  obtain ⟨hx, hb, hml, ho, -⟩ := S
  intro T hT X
  obtain ⟨v, vm₁, ⟨U', l2, c2, s2⟩, hW₁, X', ⟨g', mk, t, L, e1, e2, hq, h1, hL, h2, h3⟩, st⟩ := vx_callSW X hx (hh := hh) (bytes := bytes) (maxL := maxL) (ret := ret) ho hl hstt hini hcode hy hK hg (hsize.trans hml.symm) (argsL := As) (rest := rest) (fun sig h => hn.trans (hlen sig h)) hstack hW (by rw [hb]; exact hdg)
    (fun vm₁ hW₁ => ⟨hf.1, hf.2, hp.2 (T.setVm vm₁) hT hW₁⟩)
  dsimp only [Pt.U, Pt.locs, Pt.cells, Pt.slots] at X' e1 e2 h1 h2 h3 st
  subst h1; subst h2; subst h3
  exact ⟨v, (T.setVm vm₁).calling g' mk As.toArray, t, U', L, hT, X', hL, e1, e2, hq, st⟩
theorem vx_outP {p : Program} {l : Launch} {e : Env} {R : Room} {s : State} {m : MethodId} {args : Array Value} {below : List Frame} {meth : Method} {c : Code} {H : Heap} {locs : List Loc} {cells slots : Nat} {free : Addr → Prop} {ls : Array Slot} {rest : List Value} {Qc : Array Value → State → Outcome → State → Prop} {XC : String → State → State → Prop}
    {pc : Nat} {own E : String} {ce : Cell} {q : Addr} {mc ms : Nat} (hown : s.vm.findClass own = some m.cls) (hlocks : meth.locks = false)
    (hpass : ∀ z ∈ c.exceptionTable.toList, covers z pc = false ∨ (z.catchType ≠ 0 ∧ ∃ nm : String, (Cond.classLink own z.catchType nm).before args s = true ∧ va_Nc E nm s)) (hcell : H[q]? = some ce) (hv : ce.vm = .none) (hcl : s.vm.findClass E = some ce.cls)
    (hx : ∀ t : State, t.heap = H → s.vm.Alike t.vm → XC E s t) (hf : ∀ z ∈ locs, free z.base) (hc : cells ≤ mc) (hs : slots ≤ ms) :
    vx_W p l e R s m args below meth c H locs cells slots (vx_MQ below Qc XC args s mc ms free) (F0 m pc ls rest) q := by
  intro T hT X
  have hpl : e.platform.magicAccessors = ({} : Platform).magicAccessors := by rw [X.admits.platform]
  obtain ⟨vm', hW', X', st⟩ := X.outThrough hlocks q (g := F0 m pc ls rest) rfl rfl rfl (cell := ce) (by rw [hT]; exact hcell) (by rw [hv]; rfl)
    (by obtain ⟨k9, h9, -⟩ := Vm.findClass_spec hcl; exact ⟨k9, h9⟩) (fun z hz => by
      rcases hpass z hz with h | ⟨hz0, nm, hl1, hn1⟩
      · exact Or.inl h
      · obtain ⟨c6, hc6, hcl6⟩ := Cond.classLink_spec hown hl1 e.platform hpl
        obtain ⟨a8, b8, h1, h2, h3⟩ := hn1
        cases Option.some.inj (h1.symm.trans hcl)
        cases Option.some.inj (h2.symm.trans hc6)
        exact Or.inr ⟨hz0, _, hcl6, h3⟩)
  obtain ⟨g₀, hfr⟩ := X'.frames_eq
  have hcell9 : ((T.setVm vm').setFrames (.throwing q :: below)).heap[q]? = some ce := by
    show T.heap[q]? = some ce
    rw [hT]; exact hcell
  have hend : Ended ((T.setVm vm').setFrames (.throwing q :: below)) below (.threw q) := State.frames_setFrames _ (State.cur_lt_of_frames hfr)
  refine ⟨(T.setVm vm').setFrames (.throwing q :: below), ?_, .threw q, X'.here.running, hend, Or.inr ⟨q, rfl, E, ce, locs, hx _ hT (X'.ends _).1.alike, hcell9, hv, hcl, (X'.ends _).1, (X'.ends _).2.mono hc hs, hf⟩⟩
  rw [X.pushThrowing_eq]
  exact st
theorem vx_lt {D : va_G} {cl : List vw_C} {ws : va_W} {H1 : Heap} (h : va_P D cl ws H1) {k : Nat} {q : Nat × va_E} (hk : ws[k]? = some q) : q.1 < H1.size := (h k q hk).lt
end VXS
section VXH
section
variable {l : Launch} {R : Room} {p : Program} {e : Env} {below : List Frame} {s : State} {sargs : Array Value} {y : MethodName} {len W9 : Nat}
theorem vx_backW {ws : List Cond} {rm : Room} {Pc : Array Value → State → Prop} {Qc : Array Value → State → Outcome → State → Prop} {XC : String → State → State → Prop} {mc ms : Nat} {free : Addr → Prop} {bytes : ByteArray} {maxL : Nat} {ret : Option FieldType} {hh : List (Nat × Nat × Nat × Nat)}
    (hM : vx_Met l y ws rm Pc Qc XC mc ms free) (hblind : FrameBlind Pc) (hrc : rm.cells = mc) (hrs : rm.slots = ms)
    (hframes : rm.frames + 1 ≤ R.frames) (hlocals : W9 + (maxL + 11) + rm.locals ≤ R.locals)
    (hws : ∀ w ∈ ws, ∀ a' U, s.WarmedH U.vm → w.before a' U = true) (hcode : Cond.codeWith y bytes maxL ret hh ∈ ws) (hinit : ∀ a' U, s.WarmedH U.vm → (Cond.initialized y.cls).before a' U = true) :
    vx_Back l R p e below s sargs y len W9 (PreOf R mc ms Pc) (PostOf Qc mc ms free) (vx_Post XC mc ms free) := by
  intro m meth c A g ig mk a X hg hsize hdg hW hn hp
  have h1 : (headSpec ws rm).pre.before a A.U = true := atoms_intro fun w hw => hws w hw _ _ X.warmed
  have h2 : (Cond.codeWith y bytes maxL ret hh).before a A.U = true := hws _ hcode _ _ X.warmed
  have h3 : (Cond.initialized y.cls).before a A.U = true := hinit _ _ X.warmed
  have h4 : A.cells + (headSpec ws rm).room.cells ≤ R.cells := by rw [show (headSpec ws rm).room.cells = mc from hrc]; exact hp.1
  have h5 : A.slots + (headSpec ws rm).room.slots ≤ R.slots := by rw [show (headSpec ws rm).room.slots = ms from hrs]; exact hp.2.1
  have hPc : Pc a (A.U.calling g mk a) := hblind _ _ _ _ hp.2.2
  obtain ⟨U, Ls, c0, s0⟩ := A
  dsimp only [Pt.U, Pt.locs, Pt.cells, Pt.slots] at h1 h2 h3 h4 h5 X hn hPc ⊢
  obtain ⟨m9, methY, cY, hn9, hmY, hcY, -, hlY, -⟩ := Cond.codeWith_spec h2
  cases Option.some.inj (hn9.symm.trans hn)
  obtain ⟨kY, hkY, -⟩ := className_of_methodNamed hn
  have hinitY : kY.init = .initialized := Cond.initialized_spec (findClass_of_methodNamed hn) hkY h3
  have h : At U g.method c below := by rw [hg]; exact X.here
  have hlocals9 : W9 + (maxL + 11) + (headSpec ws rm).room.locals ≤ R.locals := hlocals
  have happ : (headSpec ws rm).appliesLoose y e.platform (U.calling g mk a) = true :=
    Spec.appliesLoose_calling (g := g) h hdg hn hkY hinitY
      (X.room_calling (g := g) (R' := (headSpec ws rm).room) hsize hmY hcY hframes (by rw [hlY]; omega) h4 h5) h1
  obtain ⟨mid, hmid⟩ := h.above
  have hfr : (U.setTop g).frames = (.java g :: mid) ++ below := by rw [State.frames_setTop' g h.top, hmid]; rfl
  obtain ⟨o, s₂, hsteps, -, hend, hq⟩ := Steps.callFree hM p X.admits X.cas X.clock (acts := []) hfr happ hPc trivial
  have hq' : vx_Q Qc XC mc ms free a (U.calling g mk a) o s₂ := hq
  rw [State.frames_setTop' g h.top] at hend
  obtain ⟨g₀, hg0⟩ := Option.isSome_iff_exists.mp h.top
  obtain ⟨r, hr⟩ := State.topJava?_eq_some.mp hg0
  have hr' : (({ U with heap := s₂.heap, slotsUsed := s₂.slotsUsed } : State).setVm s₂.vm).frames = .java g₀ :: r := hr
  rcases hq' with ⟨hqc, L, hfe, hL⟩ | ⟨q, rfl, E, ce, L, hx, hce, hcv, hcl, hW₂, hsm, hL⟩
  · obtain ⟨⟨v, rfl⟩, hW₂, e2, q2, q3, q4, q5, q6⟩ := id hfe
    have e3 : s₂ = ({ (U.calling g mk a).setFrames s₂.frames with heap := s₂.heap, slotsUsed := s₂.slotsUsed } : State).setVm s₂.vm := by
      have : s₂ = ({ s₂ with vm := (U.calling g mk a).vm } : State).setVm s₂.vm := rfl
      rw [e2] at this
      exact this
    obtain ⟨c₂, i₂, len₂, hc₂, hd₂, hf₂⟩ := hend
    have hW' : U.WarmedH s₂.vm := hW₂
    have hcc : c₂ = c := by
      have h1 : s₂.code? g.method = U.code? g.method := by
        rw [State.code?_eq, State.code?_eq, hW'.alike.method?]
      exact Option.some.inj (hc₂.symm.trans (h1.trans h.code))
    subst hcc
    have hlen : len₂ = len := by rw [hdg] at hd₂; cases hd₂; rfl
    subst hlen
    have hs₂ : s₂ = (({ U with heap := s₂.heap, slotsUsed := s₂.slotsUsed } : State).setVm s₂.vm).setTop { g with pc := g.pc + len₂, stack := v.toList ++ g.stack } := by
      refine e3.trans ?_
      rw [hf₂, State.calling_eq h.top, State.setFrames_setFrames, State.setTop_of_frames _ hr', hr]
      rfl
    have hsame : U.sameButNew ({ U with heap := s₂.heap, slotsUsed := s₂.slotsUsed } : State) L mc ms := by
      refine ⟨?_, q2, q3, q4, q5, q6⟩
      obtain ⟨t, ht, -⟩ := State.frames_cons hr
      show ({ U with heap := s₂.heap, slotsUsed := s₂.slotsUsed } : State) = { U.setFrames U.frames with heap := s₂.heap, slotsUsed := s₂.slotsUsed }
      rw [State.setFrames_self ht]
    subst hg
    refine Or.inl ⟨v, ⟨(({ U with heap := s₂.heap, slotsUsed := s₂.slotsUsed } : State).setVm s₂.vm), Ls ++ L, c0 + mc, s0 + ms⟩,
      ⟨X.admits, X.cas, X.clock, X.frames, X.room, X.hears, X.method, X.code, (X.here.setHeapUsed s₂.heap s₂.slotsUsed).setVm hW'.alike, X.tail, State.WarmedH.trans X.warmed hW', X.limits, X.bytes, X.same.trans (hsame.setVm s.vm)⟩,
      ⟨g, mk, s₂, L, rfl, rfl, hqc, rfl, hL, rfl, rfl⟩, ?_⟩
    show Steps p.tables e below _ ((({ U with heap := s₂.heap, slotsUsed := s₂.slotsUsed } : State).setVm s₂.vm).setTop { g with pc := g.pc + len₂, stack := v.toList ++ g.stack })
    rw [← hs₂]
    exact hsteps
  · obtain ⟨e2, q2, q3, q4, q5, q6⟩ := id hsm
    have e3 : s₂ = ({ (U.calling g mk a).setFrames s₂.frames with heap := s₂.heap, slotsUsed := s₂.slotsUsed } : State).setVm s₂.vm := by
      have : s₂ = ({ s₂ with vm := (U.calling g mk a).vm } : State).setVm s₂.vm := rfl
      rw [e2] at this
      exact this
    have hf₂ : s₂.frames = .throwing q :: .java g :: U.frames.tail := hend
    have hW' : U.WarmedH s₂.vm := hW₂
    have hs₂ : s₂ = ((({ U with heap := s₂.heap, slotsUsed := s₂.slotsUsed } : State).setVm s₂.vm).setTop g).pushFrame (.throwing q) := by
      refine e3.trans ?_
      rw [hf₂, State.calling_eq h.top, State.setFrames_setFrames, State.pushFrame, State.frames_setTop _ hr', State.setTop_of_frames _ hr', State.setFrames_setFrames, hr]
      rfl
    have hsame : U.sameButNew ({ U with heap := s₂.heap, slotsUsed := s₂.slotsUsed } : State) L mc ms := by
      refine ⟨?_, q2, q3, q4, q5, q6⟩
      obtain ⟨t, ht, -⟩ := State.frames_cons hr
      show ({ U with heap := s₂.heap, slotsUsed := s₂.slotsUsed } : State) = { U.setFrames U.frames with heap := s₂.heap, slotsUsed := s₂.slotsUsed }
      rw [State.setFrames_self ht]
    subst hg
    refine Or.inr ⟨q, ⟨(({ U with heap := s₂.heap, slotsUsed := s₂.slotsUsed } : State).setVm s₂.vm), Ls ++ L, c0 + mc, s0 + ms⟩,
      ⟨X.admits, X.cas, X.clock, X.frames, X.room, X.hears, X.method, X.code, (X.here.setHeapUsed s₂.heap s₂.slotsUsed).setVm hW'.alike, X.tail, State.WarmedH.trans X.warmed hW', X.limits, X.bytes, X.same.trans (hsame.setVm s.vm)⟩,
      ⟨g, mk, s₂, L, E, ce, rfl, rfl, hx, hce, hcv, hcl, rfl, hL, rfl, rfl⟩, ?_⟩
    show Steps p.tables e below _ (((({ U with heap := s₂.heap, slotsUsed := s₂.slotsUsed } : State).setVm s₂.vm).setTop g).pushFrame (.throwing q))
    rw [← hs₂]
    exact hsteps
end
variable {p : Program} {l : Launch} {e : Env} {R : Room} {s : State} {m : MethodId} {args : Array Value} {below : List Frame} {meth : Method} {c : Code} {T : State} {H : Heap} {locs : List Loc} {cells slots : Nat}
theorem vx_callVX (X : Stand p l e R s m args below meth c T locs cells slots) (hexec : p.tables.exec = Jvm.exec) {own C : String} {index : Nat} {y : MethodName} {bytes : ByteArray} {maxL : Nat} {ret : Option FieldType} {hh : List (Nat × Nat × Nat × Nat)}
    (hown : s.vm.findClass own = some m.cls) (hlink : (Cond.methodLink own index y).before args s = true) (hinst : (Cond.instanceMethod y).before args s = true) (hsel : (Cond.selects C y y).before args s = true)
    (hcode : (Cond.codeWith y bytes maxL ret hh).before args s = true) (hy : y.cls ≠ "java/lang/invoke/MethodHandle" ∧ y.cls ≠ "java/lang/invoke/VarHandle")
    {W9 : Nat} {Pre : Pt → Array Value → Prop} {Post : Pt → Array Value → Option Value → Pt → Prop} {PostX : Pt → Array Value → Addr → Pt → Prop} (hK : vx_Back l R p e below s args y 3 W9 Pre Post PostX)
    {b : Addr} {cellB : Cell} (hcell : T.heap[b]? = some cellB) (hobj : cellB.vm.isStatics = false) (hcls : s.vm.findClass C = some cellB.cls)
    {g : JFrame} (hg : g.method = m) (hsize : g.locals.size = c.maxLocals) {argsL rest : List Value} (hlen : ∀ sig, parseMethodDescriptor y.desc = some sig → argsL.length = sig.parameters.length)
    (hstack : g.stack = argsL.reverse ++ .ref b :: rest) (hW : 2 * g.monitorRoom + (rest.map fun v => v.category).sum ≤ W9) (hdg : decode c.code g.pc = .ok (.invokevirtual index, 3))
    (hpre : ∀ vm₁, s.WarmedH vm₁ → Pre ⟨T.setVm vm₁, locs, cells, slots⟩ (Value.ref b :: argsL).toArray) :
    (∃ (v : Option Value) (vm₁ : Vm) (B : Pt), s.WarmedH vm₁ ∧ Stand p l e R s m args below meth c B.U B.locs B.cells B.slots ∧ Post ⟨T.setVm vm₁, locs, cells, slots⟩ (Value.ref b :: argsL).toArray v B ∧
      ∀ target, Steps p.tables e below (B.U.setTop { g with pc := g.pc + 3, stack := v.toList ++ rest }) target → Steps p.tables e below (T.setTop g) target) ∨
    (∃ (q : Addr) (vm₁ : Vm) (B : Pt), s.WarmedH vm₁ ∧ Stand p l e R s m args below meth c B.U B.locs B.cells B.slots ∧ PostX ⟨T.setVm vm₁, locs, cells, slots⟩ (Value.ref b :: argsL).toArray q B ∧
      Steps p.tables e below (T.setTop g) ((B.U.setTop { g with stack := rest }).pushFrame (.throwing q))) := by
  obtain ⟨mk, methM, hnamed, hmethM, hstM, habM⟩ := Cond.instanceMethod_spec hinst
  obtain ⟨m8, methM', cM, hn8, hmethM', -, -, -, -, -, -, hsigM⟩ := Cond.codeWith_spec hcode
  cases Option.some.inj (hn8.symm.trans hnamed)
  cases hmethM.symm.trans hmethM'
  obtain ⟨c2, r2, m2, q1, q2, q3, q4, kP, hkP, hkPi⟩ := Cond.selects_spec hsel
  cases hcls.symm.trans q1
  cases (State.methodFound?_of_named hnamed hy).symm.trans q2
  cases hnamed.symm.trans q3
  have hselP : selectMethod e.platform s.vm cellB.cls mk = .method mk := by rw [Launch.admits_selectMethod X.admits]; exact q4
  obtain ⟨vm₁, X₁, hstep₁⟩ := X.invokevirtual hexec hown hlink hnamed hmethM hstM hkP hkPi hy (a := b) (cell := cellB) hcell
    (fun z h => by rw [h] at hobj; cases hobj) hselP hmethM habM hkP hkPi (g := g) hg (argsL := argsL) (rest := rest) (hlen _ hsigM) hstack hdg
  rcases hK m meth c ⟨T.setVm vm₁, locs, cells, slots⟩ { g with stack := rest } (.invokevirtual index) mk (Value.ref b :: argsL).toArray X₁ hg hsize hdg hW (X₁.named hnamed) (hpre vm₁ X₁.warmed) with ⟨v, B, X', hpost, hsteps⟩ | ⟨q, B, X', hpost, hsteps⟩
  · exact Or.inl ⟨v, vm₁, B, X₁.warmed, X', hpost, fun target h => hstep₁ _ fun acts => by rw [doInvoke_state]; exact hsteps.trans h⟩
  · exact Or.inr ⟨q, vm₁, B, X₁.warmed, X', hpost, hstep₁ _ fun acts => by rw [doInvoke_state]; exact hsteps⟩
theorem vx_callSX (X : Stand p l e R s m args below meth c T locs cells slots) (hexec : p.tables.exec = Jvm.exec) {own : String} {index : Nat} {y : MethodName} {bytes : ByteArray} {maxL : Nat} {ret : Option FieldType} {hh : List (Nat × Nat × Nat × Nat)}
    (hown : s.vm.findClass own = some m.cls) (hlink : (Cond.methodLink own index y).before args s = true) (hstat : (Cond.static y).before args s = true) (hinit : (Cond.initialized y.cls).before args s = true)
    (hcode : (Cond.codeWith y bytes maxL ret hh).before args s = true) (hy : y.cls ≠ "java/lang/invoke/MethodHandle" ∧ y.cls ≠ "java/lang/invoke/VarHandle")
    {W9 : Nat} {Pre : Pt → Array Value → Prop} {Post : Pt → Array Value → Option Value → Pt → Prop} {PostX : Pt → Array Value → Addr → Pt → Prop} (hK : vx_Back l R p e below s args y 3 W9 Pre Post PostX)
    {g : JFrame} (hg : g.method = m) (hsize : g.locals.size = c.maxLocals) {argsL rest : List Value} (hlen : ∀ sig, parseMethodDescriptor y.desc = some sig → argsL.length = sig.parameters.length)
    (hstack : g.stack = argsL.reverse ++ rest) (hW : 2 * g.monitorRoom + (rest.map fun v => v.category).sum ≤ W9) (hdg : decode c.code g.pc = .ok (.invokestatic index, 3))
    (hpre : ∀ vm₁, s.WarmedH vm₁ → Pre ⟨T.setVm vm₁, locs, cells, slots⟩ argsL.toArray) :
    (∃ (v : Option Value) (vm₁ : Vm) (B : Pt), s.WarmedH vm₁ ∧ Stand p l e R s m args below meth c B.U B.locs B.cells B.slots ∧ Post ⟨T.setVm vm₁, locs, cells, slots⟩ argsL.toArray v B ∧
      ∀ target, Steps p.tables e below (B.U.setTop { g with pc := g.pc + 3, stack := v.toList ++ rest }) target → Steps p.tables e below (T.setTop g) target) ∨
    (∃ (q : Addr) (vm₁ : Vm) (B : Pt), s.WarmedH vm₁ ∧ Stand p l e R s m args below meth c B.U B.locs B.cells B.slots ∧ PostX ⟨T.setVm vm₁, locs, cells, slots⟩ argsL.toArray q B ∧
      Steps p.tables e below (T.setTop g) ((B.U.setTop { g with stack := rest }).pushFrame (.throwing q))) := by
  obtain ⟨mk, methM, cM, hnamed, hmethM, -, -, -, -, -, -, hsigM⟩ := Cond.codeWith_spec hcode
  have hstatic : methM.isStatic = true := Cond.static_spec hnamed hmethM hstat
  obtain ⟨kP, hkP, -⟩ := className_of_methodNamed hnamed
  have hinitP : kP.init = .initialized := Cond.initialized_spec (findClass_of_methodNamed hnamed) hkP hinit
  obtain ⟨vm₁, X₁, hstep₁⟩ := X.invokestatic hexec hown hlink hnamed hmethM hstatic hkP hinitP hy (g := g) hg (argsL := argsL) (rest := rest) (hlen _ hsigM) hstack hdg
  rcases hK m meth c ⟨T.setVm vm₁, locs, cells, slots⟩ { g with stack := rest } (.invokestatic index) mk argsL.toArray X₁ hg hsize hdg hW (X₁.named hnamed) (hpre vm₁ X₁.warmed) with ⟨v, B, X', hpost, hsteps⟩ | ⟨q, B, X', hpost, hsteps⟩
  · exact Or.inl ⟨v, vm₁, B, X₁.warmed, X', hpost, fun target h => hstep₁ _ fun acts => by rw [doInvoke_state]; exact hsteps.trans h⟩
  · exact Or.inr ⟨q, vm₁, B, X₁.warmed, X', hpost, hstep₁ _ fun acts => by rw [doInvoke_state]; exact hsteps⟩
theorem vx_callVW (X : Stand p l e R s m args below meth c T locs cells slots) (hexec : p.tables.exec = Jvm.exec) {own C : String} {index : Nat} {y : MethodName} {bytes : ByteArray} {maxL : Nat} {ret : Option FieldType} {hh : List (Nat × Nat × Nat × Nat)}
    (hown : s.vm.findClass own = some m.cls) (hlink : (Cond.methodLink own index y).before args s = true) (hinst : (Cond.instanceMethod y).before args s = true) (hsel : (Cond.selects C y y).before args s = true)
    (hcode : (Cond.codeWith y bytes maxL ret hh).before args s = true) (hy : y.cls ≠ "java/lang/invoke/MethodHandle" ∧ y.cls ≠ "java/lang/invoke/VarHandle")
    {W9 : Nat} {Pre : Pt → Array Value → Prop} {Post : Pt → Array Value → Option Value → Pt → Prop} (hK : Back l R p e below s args y 3 W9 Pre Post)
    {b : Addr} {cellB : Cell} (hcell : T.heap[b]? = some cellB) (hobj : cellB.vm.isStatics = false) (hcls : s.vm.findClass C = some cellB.cls)
    {g : JFrame} (hg : g.method = m) (hsize : g.locals.size = c.maxLocals) {argsL rest : List Value} (hlen : ∀ sig, parseMethodDescriptor y.desc = some sig → argsL.length = sig.parameters.length)
    (hstack : g.stack = argsL.reverse ++ .ref b :: rest) (hW : 2 * g.monitorRoom + (rest.map fun v => v.category).sum ≤ W9) (hdg : decode c.code g.pc = .ok (.invokevirtual index, 3))
    (hpre : ∀ vm₁, s.WarmedH vm₁ → Pre ⟨T.setVm vm₁, locs, cells, slots⟩ (Value.ref b :: argsL).toArray) :
    ∃ (v : Option Value) (vm₁ : Vm) (B : Pt), s.WarmedH vm₁ ∧ Stand p l e R s m args below meth c B.U B.locs B.cells B.slots ∧ Post ⟨T.setVm vm₁, locs, cells, slots⟩ (Value.ref b :: argsL).toArray v B ∧
      ∀ target, Steps p.tables e below (B.U.setTop { g with pc := g.pc + 3, stack := v.toList ++ rest }) target → Steps p.tables e below (T.setTop g) target := by
  obtain ⟨mk, methM, hnamed, hmethM, hstM, habM⟩ := Cond.instanceMethod_spec hinst
  obtain ⟨m8, methM', cM, hn8, hmethM', -, -, -, -, -, -, hsigM⟩ := Cond.codeWith_spec hcode
  cases Option.some.inj (hn8.symm.trans hnamed)
  cases hmethM.symm.trans hmethM'
  obtain ⟨c2, r2, m2, q1, q2, q3, q4, kP, hkP, hkPi⟩ := Cond.selects_spec hsel
  cases hcls.symm.trans q1
  cases (State.methodFound?_of_named hnamed hy).symm.trans q2
  cases hnamed.symm.trans q3
  have hselP : selectMethod e.platform s.vm cellB.cls mk = .method mk := by rw [Launch.admits_selectMethod X.admits]; exact q4
  obtain ⟨vm₁, X₁, hstep₁⟩ := X.invokevirtual hexec hown hlink hnamed hmethM hstM hkP hkPi hy (a := b) (cell := cellB) hcell
    (fun z h => by rw [h] at hobj; cases hobj) hselP hmethM habM hkP hkPi (g := g) hg (argsL := argsL) (rest := rest) (hlen _ hsigM) hstack hdg
  obtain ⟨v, B, X', hpost, hsteps⟩ := hK m meth c ⟨T.setVm vm₁, locs, cells, slots⟩ { g with stack := rest } (.invokevirtual index) mk (Value.ref b :: argsL).toArray X₁ hg hsize hdg hW (X₁.named hnamed) (hpre vm₁ X₁.warmed)
  exact ⟨v, vm₁, B, X₁.warmed, X', hpost, fun target h => hstep₁ _ fun acts => by rw [doInvoke_state]; exact hsteps.trans h⟩
abbrev vx_CVW (R : Room) (s : State) (args : Array Value) (own C : String) (index : Nat) (y : MethodName) (bytes : ByteArray) (maxL : Nat) (ret : Option FieldType) (hh : List (Nat × Nat × Nat × Nat)) (ws : List Cond) (rm : Room) (mc ms n : Nat) : Prop :=
  (rm.cells = mc ∧ rm.slots = ms ∧ rm.frames + 1 ≤ R.frames ∧ 8 + (maxL + 11) + rm.locals ≤ R.locals ∧ (∀ w ∈ ws, ∀ (a' : Array Value) (U : State), s.WarmedH U.vm → w.before a' U = true) ∧ Cond.codeWith y bytes maxL ret hh ∈ ws) ∧
  (Cond.codeWith y bytes maxL ret hh).before args s = true ∧ (Cond.initialized y.cls).before args s = true ∧ (y.cls ≠ "java/lang/invoke/MethodHandle" ∧ y.cls ≠ "java/lang/invoke/VarHandle") ∧
  (∀ sig, parseMethodDescriptor y.desc = some sig → n = sig.parameters.length) ∧ (Cond.methodLink own index y).before args s = true ∧ (Cond.instanceMethod y).before args s = true ∧ (Cond.selects C y y).before args s = true
theorem vx_cwVW {own C : String} {index maxL mc ms : Nat} {y : MethodName} {bytes : ByteArray} {ret : Option FieldType} {hh : List (Nat × Nat × Nat × Nat)} {Ts ws ws' : List Cond} {rm : Room} (n : Nat) (ht : ∀ w ∈ Ts, w.before args s = true) (hT : GoodIn Ts (wsV own index C y ws)) (hw : ws = Cond.codeWith y bytes maxL ret hh :: ws') (hrc : rm.cells = mc) (hrs : rm.slots = ms)
    (hd : y.cls = C ∧ y.cls ≠ "java/lang/invoke/MethodHandle" ∧ y.cls ≠ "java/lang/invoke/VarHandle" ∧ (parseMethodDescriptor y.desc).map (fun d => d.parameters.length) = some n) (hR : rm.frames + 1 ≤ R.frames ∧ 8 + (maxL + 11) + rm.locals ≤ R.locals) :
    vx_CVW R s args own C index y bytes maxL ret hh ws rm mc ms n := by
  obtain ⟨hC, hd⟩ := hd
  subst hC
  have ok : ∀ w ∈ wsV own index y.cls y ws, w.before args s = true := fun w h => ht w (hT w h).1
  have hG : GoodIn Ts ws := fun w h => hT w (by unfold wsV; exact List.mem_append_right _ h)
  have hc : Cond.codeWith y bytes maxL ret hh ∈ ws := by rw [hw]; exact List.mem_cons_self
  refine ⟨⟨hrc, hrs, hR.1, hR.2, pay_in ht hG, hc⟩, ht _ (hG _ hc).1, ok _ (by simp [wsV]), ⟨hd.1, hd.2.1⟩, fun sig h => ?_, ok _ (by simp [wsV]), ok _ (by simp [wsV]), ok _ (by simp [wsV])⟩
  have h2 := hd.2.2
  rw [h] at h2
  exact (Option.some.inj h2).symm
theorem vx_runVW {y : MethodName} {bytes cc : ByteArray} {maxL nL mc ms n index : Nat} {ret : Option FieldType} {hh : List (Nat × Nat × Nat × Nat)} {ws : List Cond} {rm : Room} {Pc : Array Value → State → Prop} {Qc : Array Value → State → Outcome → State → Prop} {free : Addr → Prop} {Ts : List Cond} {own C : String} {b : Addr} {As rest : List Value} {g : JFrame}
    (S : CallFix p m c cc nL s args Ts own) (hM : Met l y ws rm Pc Qc mc ms free) (cw : vx_CVW R s args own C index y bytes maxL ret hh ws rm mc ms n) (hp : PreV s H C b Pc As)
    (hg : g.method = m) (hn : As.length = n) (hsize : g.locals.size = nL) (hstack : g.stack = As.reverse ++ .ref b :: rest) (hW : 2 * g.monitorRoom + (rest.map fun v => v.category).sum ≤ 8) (hdg : decode cc g.pc = .ok (.invokevirtual index, 3)) (hf : cells + mc ≤ R.cells ∧ slots + ms ≤ R.slots) :
    va_Run p l e R s m args below meth c H locs cells slots mc ms g rest (Qc (Value.ref b :: As).toArray) free := by
  obtain ⟨⟨hrc, hrs, hfr, hlo, hws, hcw⟩, hcode, hini, hy, hlen, hl, hin, hse⟩ := cw
  have hK : Back l R p e below s args y 3 8 (PreOf R mc ms Pc) (PostOf Qc mc ms free) := va_backW (hh := hh) (bytes := bytes) (maxL := maxL) (ret := ret) hM hp.1 hrc hrs hfr hlo hws hcw (fun a' U hW => word_at hW (Or.inl (by first | rfl | simp [Cond.onTables, Cond.keeps, Cond.steady])) hini)
  obtain ⟨hx, hb, hml, ho, -⟩ := S
  obtain ⟨-, ⟨cellB, hcB, hoB, hclB⟩, hPc⟩ := hp
  intro T hT X
  obtain ⟨v, vm₁, ⟨U', l2, c2, s2⟩, hW₁, X', ⟨g', mk, t, L, e1, e2, hq, h1, hL, h2, h3⟩, st⟩ := vx_callVW X hx (C := C) (hh := hh) (bytes := bytes) (maxL := maxL) (ret := ret) ho hl hin hse hcode hy hK (by rw [hT]; exact hcB) hoB hclB hg (hsize.trans hml.symm) (argsL := As) (rest := rest) (fun sig h => hn.trans (hlen sig h)) hstack hW (by rw [hb]; exact hdg)
    (fun vm₁ hW₁ => ⟨hf.1, hf.2, hPc (T.setVm vm₁) hT hW₁⟩)
  dsimp only [Pt.U, Pt.locs, Pt.cells, Pt.slots] at X' e1 e2 h1 h2 h3 st
  subst h1; subst h2; subst h3
  exact ⟨v, (T.setVm vm₁).calling g' mk (Value.ref b :: As).toArray, t, U', L, hT, X', hL, e1, e2, hq, st⟩
section
variable {y : MethodName} {bytes cc : ByteArray} {maxL nL mc ms n index : Nat} {ret : Option FieldType} {ws : List Cond} {rm : Room} {Pc : Array Value → State → Prop} {Qc : Array Value → State → Outcome → State → Prop} {XC : String → State → State → Prop} {free : Addr → Prop} {Ts : List Cond} {own C : String} {b : Addr} {As rest : List Value} {g : JFrame}
theorem vx_runVX {hh : List (Nat × Nat × Nat × Nat)} (S : CallFix p m c cc nL s args Ts own) (hM : vx_Met l y ws rm Pc Qc XC mc ms free) (cw : vx_CVW R s args own C index y bytes maxL ret hh ws rm mc ms n) (hp : PreV s H C b Pc As)
    (hg : g.method = m) (hn : As.length = n) (hsize : g.locals.size = nL) (hstack : g.stack = As.reverse ++ .ref b :: rest) (hW : 2 * g.monitorRoom + (rest.map fun v => v.category).sum ≤ 8) (hdg : decode cc g.pc = .ok (.invokevirtual index, 3)) (hf : cells + mc ≤ R.cells ∧ slots + ms ≤ R.slots) :
    vx_Run p l e R s m args below meth c H locs cells slots mc ms g rest (Qc (Value.ref b :: As).toArray) XC free := by
  obtain ⟨⟨hrc, hrs, hfr, hlo, hws, hcw⟩, hcode, hini, hy, hlen, hl, hin, hse⟩ := cw
  have hK : vx_Back l R p e below s args y 3 8 (PreOf R mc ms Pc) (PostOf Qc mc ms free) (vx_Post XC mc ms free) := vx_backW (hh := hh) (bytes := bytes) (maxL := maxL) (ret := ret) hM hp.1 hrc hrs hfr hlo hws hcw (fun a' U hW => word_at hW (Or.inl (by first | rfl | simp [Cond.onTables, Cond.keeps, Cond.steady])) hini)
  obtain ⟨hx, hb, hml, ho, -⟩ := S
  obtain ⟨-, ⟨cellB, hcB, hoB, hclB⟩, hPc⟩ := hp
  intro T hT X
  rcases vx_callVX X hx (C := C) (hh := hh) (bytes := bytes) (maxL := maxL) (ret := ret) ho hl hin hse hcode hy hK (by rw [hT]; exact hcB) hoB hclB hg (hsize.trans hml.symm) (argsL := As) (rest := rest) (fun sig h => hn.trans (hlen sig h)) hstack hW (by rw [hb]; exact hdg)
    (fun vm₁ hW₁ => ⟨hf.1, hf.2, hPc (T.setVm vm₁) hT hW₁⟩) with ⟨v, vm₁, ⟨U', l2, c2, s2⟩, hW₁, X', ⟨g', mk, t, L, e1, e2, hq, h1, hL, h2, h3⟩, st⟩ | ⟨q, vm₁, ⟨U', l2, c2, s2⟩, hW₁, X', ⟨g', mk, t, L, E, ce, e1, e2, hq, hce, hcv, hcl, h1, hL, h2, h3⟩, st⟩
  · dsimp only [Pt.U, Pt.locs, Pt.cells, Pt.slots] at X' e1 e2 h1 h2 h3 st
    subst h1; subst h2; subst h3
    exact Or.inl ⟨v, (T.setVm vm₁).calling g' mk (Value.ref b :: As).toArray, t, U', L, hT, X', hL, e1, e2, hq, st⟩
  · dsimp only [Pt.U, Pt.locs, Pt.cells, Pt.slots] at X' e1 e2 h1 h2 h3 st hcl
    subst h1; subst h2; subst h3
    exact Or.inr ⟨q, (T.setVm vm₁).calling g' mk (Value.ref b :: As).toArray, t, U', L, E, ce, hT, X', hL, e1, e2, hq, hce, hcv, vx_cls hW₁ hcl, st⟩
theorem vx_runSX {hh : List (Nat × Nat × Nat × Nat)} (S : CallFix p m c cc nL s args Ts own) (hM : vx_Met l y ws rm Pc Qc XC mc ms free) (cw : vx_CSW R s args own index y bytes maxL ret hh ws rm mc ms n) (hp : PreS s H Pc As)
    (hg : g.method = m) (hn : As.length = n) (hsize : g.locals.size = nL) (hstack : g.stack = As.reverse ++ rest) (hW : 2 * g.monitorRoom + (rest.map fun v => v.category).sum ≤ 8) (hdg : decode cc g.pc = .ok (.invokestatic index, 3)) (hf : cells + mc ≤ R.cells ∧ slots + ms ≤ R.slots) :
    vx_Run p l e R s m args below meth c H locs cells slots mc ms g rest (Qc As.toArray) XC free := by
  obtain ⟨⟨hrc, hrs, hfr, hlo, hws, hcw⟩, hcode, hini, hy, hlen, hl, hstt⟩ := cw
  have hK : vx_Back l R p e below s args y 3 8 (PreOf R mc ms Pc) (PostOf Qc mc ms free) (vx_Post XC mc ms free) := vx_backW (hh := hh) (bytes := bytes) (maxL := maxL) (ret := ret) hM hp.1 hrc hrs hfr hlo hws hcw (fun a' U hW => word_at hW (Or.inl (by first | rfl | simp [Cond.onTables, Cond.keeps, Cond.steady])) hini)
  obtain ⟨hx, hb, hml, ho, -⟩ := S
  intro T hT X
  rcases vx_callSX X hx (hh := hh) (bytes := bytes) (maxL := maxL) (ret := ret) ho hl hstt hini hcode hy hK hg (hsize.trans hml.symm) (argsL := As) (rest := rest) (fun sig h => hn.trans (hlen sig h)) hstack hW (by rw [hb]; exact hdg)
    (fun vm₁ hW₁ => ⟨hf.1, hf.2, hp.2 (T.setVm vm₁) hT hW₁⟩) with ⟨v, vm₁, ⟨U', l2, c2, s2⟩, hW₁, X', ⟨g', mk, t, L, e1, e2, hq, h1, hL, h2, h3⟩, st⟩ | ⟨q, vm₁, ⟨U', l2, c2, s2⟩, hW₁, X', ⟨g', mk, t, L, E, ce, e1, e2, hq, hce, hcv, hcl, h1, hL, h2, h3⟩, st⟩
  · dsimp only [Pt.U, Pt.locs, Pt.cells, Pt.slots] at X' e1 e2 h1 h2 h3 st
    subst h1; subst h2; subst h3
    exact Or.inl ⟨v, (T.setVm vm₁).calling g' mk As.toArray, t, U', L, hT, X', hL, e1, e2, hq, st⟩
  · dsimp only [Pt.U, Pt.locs, Pt.cells, Pt.slots] at X' e1 e2 h1 h2 h3 st hcl
    subst h1; subst h2; subst h3
    exact Or.inr ⟨q, (T.setVm vm₁).calling g' mk As.toArray, t, U', L, E, ce, hT, X', hL, e1, e2, hq, hce, hcv, vx_cls hW₁ hcl, st⟩
end
end VXH
theorem vx_ofWH {l : Launch} {y : MethodName} {ws ws' : List Cond} {rm : Room} {Pc : Array Value → State → Prop} {Qc : Array Value → State → Outcome → State → Prop} {XC : String → State → State → Prop} {mc ms : Nat} {free : Addr → Prop} {cc : ByteArray} {maxL : Nat} {ret : Option FieldType} {hh : List (Nat × Nat × Nat × Nat)}
    (hy : plainName y.cls = true) (hw : ws = Cond.codeWith y cc maxL ret hh :: ws')
    (body : ∀ p e s m args below meth c s₁, BodyLoose p l y (headSpec ws rm) cc maxL ret e s m args below meth c s₁ → c.maxLocals = maxL → Pc args s →
      W p l e (headSpec ws rm).room s m args below meth c s.heap [] 0 0 (vx_MQ below Qc XC args s mc ms free) (entryFrame m args maxL)) : vx_Met l y ws rm Pc Qc XC mc ms free := by
  refine MetFree.of_bodyS (code := cc) (maxLocals := maxL) (ret := ret) hy ?_ ?_
  · intro args s m h hn
    obtain ⟨m9, meth, c, hn9, h1, h2, h3, h4, -, h5, h6, -⟩ := Cond.codeWith_spec (atoms_spec (ws := ws) h _ (by rw [hw]; exact List.mem_cons_self))
    cases hn.symm.trans hn9
    exact ⟨meth, c, h1, h2, h3, h4, h5, h6⟩
  · intro p e s m args below meth c s₁ B hml hP _
    have hh0 : s₁.heap = s.heap := by rw [B.state]; rfl
    obtain ⟨t, a1, o, b1, b2, b3⟩ := body p e s m args below meth c s₁ B hml hP s₁ hh0 (Stand.of_body B)
    exact ⟨t, o, a1, b1, b2, b3⟩
end
section
def RX0 : String := "Districtmeter"
def TX0 : u_T := fun k => match k with
  | 0 => ("Districtmeter", "nodeCount", "I", false)
  | 1 => ("Districtmeter", "ways", "[I", true)
  | 2 => ("Districtmeter", "uses", "[I", true)
  | 3 => ("Districtmeter", "backgrounds", "[I", true)
  | 4 => ("Districtmeter", "pressures", "[I", true)
  | 5 => ("Districtmeter", "meteredPipes", "I", false)
  | 6 => ("Districtmeter", "shutPipes", "I", false)
  | 7 => ("Districtmeter", "areaCount", "I", false)
  | 8 => ("Districtmeter", "inlets", "[I", true)
  | 9 => ("Districtmeter", "exports", "[I", true)
  | 10 => ("Districtmeter", "burstCount", "I", false)
  | 11 => ("Districtmeter", "burstNodes", "[I", true)
  | 12 => ("Districtmeter", "burstAmounts", "[I", true)
  | 13 => ("Districtmeter", "burstHours", "[I", true)
  | 14 => ("Districtmeter", "repairedBursts", "I", false)
  | 15 => ("Districtmeter", "rankedCosts", "[I", true)
  | _ => ("Districtmeter", "rankedBursts", "[I", true)
def tyX0 : Nat → FieldType := fun k => match k with
  | 0 => .int
  | 1 => .array .int
  | 2 => .array .int
  | 3 => .array .int
  | 4 => .array .int
  | 5 => .int
  | 6 => .int
  | 7 => .int
  | 8 => .array .int
  | 9 => .array .int
  | 10 => .int
  | 11 => .array .int
  | 12 => .array .int
  | 13 => .array .int
  | 14 => .int
  | 15 => .array .int
  | _ => .array .int
abbrev wsX00 : List Cond := u_ws RX0 TX0 17
theorem nmX0 : ∀ a, a < 17 → ∀ b, b < 17 → a ≠ b → (TX0 a).2.1 ≠ (TX0 b).2.1 := by decide +kernel
theorem tyX0_ok : ∀ k, k < 17 → parseFieldDescriptor (TX0 k).2.2.1 = some (tyX0 k) := by decide +kernel
abbrev cX0_init : ByteArray := prog_1_method_1_code
def yX0_init : MethodName := ⟨RX0, "<init>", "()V"⟩
abbrev cX0_addNode : ByteArray := prog_1_method_2_code
def yX0_addNode : MethodName := ⟨RX0, "addNode", "(II)I"⟩
abbrev cX0_setBackground : ByteArray := prog_1_method_3_code
def yX0_setBackground : MethodName := ⟨RX0, "setBackground", "(II)I"⟩
abbrev cX0_setPressure : ByteArray := prog_1_method_4_code
def yX0_setPressure : MethodName := ⟨RX0, "setPressure", "(II)I"⟩
abbrev cX0_addMeter : ByteArray := prog_1_method_5_code
def yX0_addMeter : MethodName := ⟨RX0, "addMeter", "(I)Z"⟩
abbrev cX0_toggleValve : ByteArray := prog_1_method_6_code
def yX0_toggleValve : MethodName := ⟨RX0, "toggleValve", "(I)Z"⟩
abbrev cX0_isSupplied : ByteArray := prog_1_method_7_code
def yX0_isSupplied : MethodName := ⟨RX0, "isSupplied", "(I)Z"⟩
abbrev cX0_takes : ByteArray := prog_1_method_8_code
def yX0_takes : MethodName := ⟨RX0, "takes", "(I)I"⟩
abbrev cX0_flow : ByteArray := prog_1_method_9_code
def yX0_flow : MethodName := ⟨RX0, "flow", "(I)I"⟩
abbrev cX0_allFlow : ByteArray := prog_1_method_10_code
def yX0_allFlow : MethodName := ⟨RX0, "allFlow", "()I"⟩
abbrev cX0_addArea : ByteArray := prog_1_method_11_code
def yX0_addArea : MethodName := ⟨RX0, "addArea", "(I)I"⟩
abbrev cX0_addExport : ByteArray := prog_1_method_12_code
def yX0_addExport : MethodName := ⟨RX0, "addExport", "(II)I"⟩
abbrev cX0_nodes : ByteArray := prog_1_method_13_code
def yX0_nodes : MethodName := ⟨RX0, "nodes", "(I)I"⟩
abbrev cX0_areaFlow : ByteArray := prog_1_method_14_code
def yX0_areaFlow : MethodName := ⟨RX0, "areaFlow", "(I)I"⟩
abbrev cX0_areaTakes : ByteArray := prog_1_method_15_code
def yX0_areaTakes : MethodName := ⟨RX0, "areaTakes", "(I)I"⟩
abbrev cX0_loss : ByteArray := prog_1_method_16_code
def yX0_loss : MethodName := ⟨RX0, "loss", "(I)I"⟩
abbrev cX0_steps : ByteArray := prog_1_method_17_code
def yX0_steps : MethodName := ⟨RX0, "steps", "(I)I"⟩
abbrev cX0_stepPipe : ByteArray := prog_1_method_18_code
def yX0_stepPipe : MethodName := ⟨RX0, "stepPipe", "(II)I"⟩
abbrev cX0_drop : ByteArray := prog_1_method_19_code
def yX0_drop : MethodName := ⟨RX0, "drop", "(II)I"⟩
abbrev cX0_burst : ByteArray := prog_1_method_20_code
def yX0_burst : MethodName := ⟨RX0, "burst", "(III)I"⟩
abbrev cX0_repair : ByteArray := prog_1_method_21_code
def yX0_repair : MethodName := ⟨RX0, "repair", "(I)I"⟩
abbrev cX0_cost : ByteArray := prog_1_method_22_code
def yX0_cost : MethodName := ⟨RX0, "cost", "(I)I"⟩
abbrev cX0_ranked : ByteArray := prog_1_method_23_code
def yX0_ranked : MethodName := ⟨RX0, "ranked", "(I)I"⟩
abbrev cX0_plan : ByteArray := prog_1_method_24_code
def yX0_plan : MethodName := ⟨RX0, "plan", "(I)I"⟩
abbrev cX0_needRange : ByteArray := prog_1_method_25_code
def yX0_needRange : MethodName := ⟨RX0, "needRange", "(III)V"⟩
abbrev cX0_needRoom : ByteArray := prog_1_method_26_code
def yX0_needRoom : MethodName := ⟨RX0, "needRoom", "(II)V"⟩
abbrev cX0_needNode : ByteArray := prog_1_method_27_code
def yX0_needNode : MethodName := ⟨RX0, "needNode", "(I)V"⟩
abbrev cX0_needPipe : ByteArray := prog_1_method_28_code
def yX0_needPipe : MethodName := ⟨RX0, "needPipe", "(I)V"⟩
abbrev cX0_needArea : ByteArray := prog_1_method_29_code
def yX0_needArea : MethodName := ⟨RX0, "needArea", "(I)V"⟩
abbrev cX0_needBurst : ByteArray := prog_1_method_30_code
def yX0_needBurst : MethodName := ⟨RX0, "needBurst", "(I)V"⟩
abbrev cX0_has : ByteArray := prog_1_method_31_code
def yX0_has : MethodName := ⟨RX0, "has", "(II)Z"⟩
abbrev cX0_pipesAbove : ByteArray := prog_1_method_32_code
def yX0_pipesAbove : MethodName := ⟨RX0, "pipesAbove", "(II)I"⟩
abbrev cX0_isOpenTo : ByteArray := prog_1_method_33_code
def yX0_isOpenTo : MethodName := ⟨RX0, "isOpenTo", "(II)Z"⟩
abbrev cX0_pressureAt : ByteArray := prog_1_method_34_code
def yX0_pressureAt : MethodName := ⟨RX0, "pressureAt", "(I)I"⟩
abbrev cX0_factorFor : ByteArray := prog_1_method_35_code
def yX0_factorFor : MethodName := ⟨RX0, "factorFor", "(I)I"⟩
abbrev cX0_leakageOf : ByteArray := prog_1_method_36_code
def yX0_leakageOf : MethodName := ⟨RX0, "leakageOf", "(II)I"⟩
abbrev cX0_amountAt : ByteArray := prog_1_method_37_code
def yX0_amountAt : MethodName := ⟨RX0, "amountAt", "(I)I"⟩
abbrev cX0_leakageAt : ByteArray := prog_1_method_38_code
def yX0_leakageAt : MethodName := ⟨RX0, "leakageAt", "(I)I"⟩
abbrev cX0_takenAt : ByteArray := prog_1_method_39_code
def yX0_takenAt : MethodName := ⟨RX0, "takenAt", "(II)I"⟩
abbrev cX0_takenBy : ByteArray := prog_1_method_40_code
def yX0_takenBy : MethodName := ⟨RX0, "takenBy", "(II)I"⟩
abbrev cX0_usedBy : ByteArray := prog_1_method_41_code
def yX0_usedBy : MethodName := ⟨RX0, "usedBy", "(I)I"⟩
abbrev cX0_flowTo : ByteArray := prog_1_method_42_code
def yX0_flowTo : MethodName := ⟨RX0, "flowTo", "(I)I"⟩
abbrev cX0_nodesOf : ByteArray := prog_1_method_43_code
def yX0_nodesOf : MethodName := ⟨RX0, "nodesOf", "(I)I"⟩
abbrev cX0_outerExports : ByteArray := prog_1_method_44_code
def yX0_outerExports : MethodName := ⟨RX0, "outerExports", "(I)I"⟩
abbrev cX0_pipesToShut : ByteArray := prog_1_method_45_code
def yX0_pipesToShut : MethodName := ⟨RX0, "pipesToShut", "(I)I"⟩
abbrev cX0_pipeOfStep : ByteArray := prog_1_method_46_code
def yX0_pipeOfStep : MethodName := ⟨RX0, "pipeOfStep", "(II)I"⟩
abbrev cX0_costOf : ByteArray := prog_1_method_47_code
def yX0_costOf : MethodName := ⟨RX0, "costOf", "(I)I"⟩
abbrev cX0_rankBursts : ByteArray := prog_1_method_48_code
def yX0_rankBursts : MethodName := ⟨RX0, "rankBursts", "()I"⟩
abbrev cX0_insertByRank : ByteArray := prog_1_method_49_code
def yX0_insertByRank : MethodName := ⟨RX0, "insertByRank", "(II)V"⟩
abbrev cX0_isAhead : ByteArray := prog_1_method_50_code
def yX0_isAhead : MethodName := ⟨RX0, "isAhead", "(II)Z"⟩
def RX1 : String := "DistrictmeterModel"
def TX1 : u_T := fun k => match k with
  | _ => ("", "", "", false)
def tyX1 : Nat → FieldType := fun k => match k with
  | _ => .int
abbrev wsX10 : List Cond := u_ws RX1 TX1 0
theorem nmX1 : ∀ a, a < 0 → ∀ b, b < 0 → a ≠ b → (TX1 a).2.1 ≠ (TX1 b).2.1 := by decide +kernel
theorem tyX1_ok : ∀ k, k < 0 → parseFieldDescriptor (TX1 k).2.2.1 = some (tyX1 k) := by decide +kernel
def RJ6 : String := "java/lang/Integer"
def TJ6 : u_T := fun k => match k with
  | _ => ("", "", "", false)
def tyJ6 : Nat → FieldType := fun k => match k with
  | _ => .int
abbrev wsJ60 : List Cond := u_ws RJ6 TJ6 0
theorem nmJ6 : ∀ a, a < 0 → ∀ b, b < 0 → a ≠ b → (TJ6 a).2.1 ≠ (TJ6 b).2.1 := by decide +kernel
theorem tyJ6_ok : ∀ k, k < 0 → parseFieldDescriptor (TJ6 k).2.2.1 = some (tyJ6 k) := by decide +kernel
abbrev cJ6_bitCount_0f7a4 : ByteArray := prog_8_method_49_code
def yJ6_bitCount_0f7a4 : MethodName := ⟨RJ6, "bitCount", "(I)I"⟩
def RJ0 : String := "java/lang/String"
def TJ0 : u_T := fun k => match k with
  | _ => ("", "", "", false)
def tyJ0 : Nat → FieldType := fun k => match k with
  | _ => .int
abbrev wsJ00 : List Cond := u_ws RJ0 TJ0 0
theorem nmJ0 : ∀ a, a < 0 → ∀ b, b < 0 → a ≠ b → (TJ0 a).2.1 ≠ (TJ0 b).2.1 := by decide +kernel
theorem tyJ0_ok : ∀ k, k < 0 → parseFieldDescriptor (TJ0 k).2.2.1 = some (tyJ0 k) := by decide +kernel
def RL : String := "DistrictmeterLaw"
abbrev cL_part : ByteArray := method_2_code
def yL_part : MethodName := ⟨RL, "part", "([III)I"⟩
abbrev cL_sets : ByteArray := method_3_code
def yL_sets : MethodName := ⟨RL, "sets", "(LDistrictmeter;IIII)I"⟩
abbrev cL_asks : ByteArray := method_4_code
def yL_asks : MethodName := ⟨RL, "asks", "(LDistrictmeter;III)I"⟩
abbrev cL_tells : ByteArray := method_5_code
def yL_tells : MethodName := ⟨RL, "tells", "(LDistrictmeter;II)I"⟩
abbrev cL_bits : ByteArray := method_6_code
def yL_bits : MethodName := ⟨RL, "bits", "(I)I"⟩
abbrev cL_isBelow : ByteArray := method_7_code
def yL_isBelow : MethodName := ⟨RL, "isBelow", "([III)Z"⟩
abbrev cL_areNodes : ByteArray := method_8_code
def yL_areNodes : MethodName := ⟨RL, "areNodes", "(LDistrictmeter;[I[I[I)Z"⟩
abbrev cL_isArea : ByteArray := method_9_code
def yL_isArea : MethodName := ⟨RL, "isArea", "(LDistrictmeter;[I[I[I[II)Z"⟩
abbrev cL_areBursts : ByteArray := method_10_code
def yL_areBursts : MethodName := ⟨RL, "areBursts", "(LDistrictmeter;[I[I)Z"⟩
abbrev cL_isNode : ByteArray := method_11_code
def yL_isNode : MethodName := ⟨RL, "isNode", "(LDistrictmeter;[I[I[III)Z"⟩
abbrev cL_isSet : ByteArray := method_12_code
def yL_isSet : MethodName := ⟨RL, "isSet", "(LDistrictmeter;[IZII)Z"⟩
abbrev cL_isExport : ByteArray := method_13_code
def yL_isExport : MethodName := ⟨RL, "isExport", "(LDistrictmeter;[I[I[III)Z"⟩
abbrev cL_isBurst : ByteArray := method_14_code
def yL_isBurst : MethodName := ⟨RL, "isBurst", "(LDistrictmeter;[I[IIII)Z"⟩
abbrev cL_isRepaired : ByteArray := method_15_code
def yL_isRepaired : MethodName := ⟨RL, "isRepaired", "(LDistrictmeter;[I[II)Z"⟩
abbrev cL_isDone : ByteArray := method_16_code
def yL_isDone : MethodName := ⟨RL, "isDone", "(LDistrictmeter;[II[I[I[I[I[I)Z"⟩
abbrev cL_law : ByteArray := code
def yL_law : MethodName := ⟨RL, "law", "([I)Z"⟩
abbrev vwCl : List vw_C := [(RX0, TX0, 17)]
end
section
abbrev PE : Type := Nat × Instr × Nat × Nat
def TT : List Cond := lw_tbl.filter goodWord
def mYs : List MethodName := [yX0_init, yX0_addNode, yX0_setBackground, yX0_setPressure, yX0_addMeter, yX0_toggleValve, yX0_isSupplied, yX0_takes, yX0_flow, yX0_allFlow, yX0_addArea, yX0_addExport, yX0_nodes, yX0_areaFlow, yX0_areaTakes, yX0_loss, yX0_steps, yX0_stepPipe, yX0_drop, yX0_burst, yX0_repair, yX0_cost, yX0_ranked, yX0_plan, yX0_needRange, yX0_needRoom, yX0_needNode, yX0_needPipe, yX0_needArea, yX0_needBurst, yX0_has, yX0_pipesAbove, yX0_isOpenTo, yX0_pressureAt, yX0_factorFor, yX0_leakageOf, yX0_amountAt, yX0_leakageAt, yX0_takenAt, yX0_takenBy, yX0_usedBy, yX0_flowTo, yX0_nodesOf, yX0_outerExports, yX0_pipesToShut, yX0_pipeOfStep, yX0_costOf, yX0_rankBursts, yX0_insertByRank, yX0_isAhead, yL_part, yL_sets, yL_asks, yL_tells, yL_bits, yL_isBelow, yL_areNodes, yL_isArea, yL_areBursts, yL_isNode, yL_isSet, yL_isExport, yL_isBurst, yL_isRepaired, yL_isDone, yL_law, yJ6_bitCount_0f7a4]
def mBs : List ByteArray := [cX0_init, cX0_addNode, cX0_setBackground, cX0_setPressure, cX0_addMeter, cX0_toggleValve, cX0_isSupplied, cX0_takes, cX0_flow, cX0_allFlow, cX0_addArea, cX0_addExport, cX0_nodes, cX0_areaFlow, cX0_areaTakes, cX0_loss, cX0_steps, cX0_stepPipe, cX0_drop, cX0_burst, cX0_repair, cX0_cost, cX0_ranked, cX0_plan, cX0_needRange, cX0_needRoom, cX0_needNode, cX0_needPipe, cX0_needArea, cX0_needBurst, cX0_has, cX0_pipesAbove, cX0_isOpenTo, cX0_pressureAt, cX0_factorFor, cX0_leakageOf, cX0_amountAt, cX0_leakageAt, cX0_takenAt, cX0_takenBy, cX0_usedBy, cX0_flowTo, cX0_nodesOf, cX0_outerExports, cX0_pipesToShut, cX0_pipeOfStep, cX0_costOf, cX0_rankBursts, cX0_insertByRank, cX0_isAhead, cL_part, cL_sets, cL_asks, cL_tells, cL_bits, cL_isBelow, cL_areNodes, cL_isArea, cL_areBursts, cL_isNode, cL_isSet, cL_isExport, cL_isBurst, cL_isRepaired, cL_isDone, cL_law, cJ6_bitCount_0f7a4]
def mLs : List Nat := [1, 4, 3, 3, 3, 2, 2, 2, 2, 1, 3, 4, 2, 7, 2, 3, 2, 3, 7, 5, 3, 2, 3, 7, 3, 2, 2, 2, 2, 2, 2, 2, 3, 4, 3, 3, 4, 2, 3, 5, 4, 4, 4, 4, 2, 6, 4, 3, 4, 3, 4, 6, 5, 4, 3, 4, 11, 17, 17, 9, 10, 9, 11, 7, 14, 10, 1]
def mRs : List (Option FieldType) := [none, (some .int), (some .int), (some .int), (some .boolean), (some .boolean), (some .boolean), (some .int), (some .int), (some .int), (some .int), (some .int), (some .int), (some .int), (some .int), (some .int), (some .int), (some .int), (some .int), (some .int), (some .int), (some .int), (some .int), (some .int), none, none, none, none, none, none, (some .boolean), (some .int), (some .boolean), (some .int), (some .int), (some .int), (some .int), (some .int), (some .int), (some .int), (some .int), (some .int), (some .int), (some .int), (some .int), (some .int), (some .int), (some .int), none, (some .boolean), (some .int), (some .int), (some .int), (some .int), (some .int), (some .boolean), (some .boolean), (some .boolean), (some .boolean), (some .boolean), (some .boolean), (some .boolean), (some .boolean), (some .boolean), (some .boolean), (some .boolean), (some .int)]
def mHs : List (List (Nat × Nat × Nat × Nat)) := [[], [], [], [], [], [], [], [], [], [], [], [], [], [], [], [], [], [], [], [], [], [], [], [], [], [], [], [], [], [], [], [], [], [], [], [], [], [], [], [], [], [], [], [], [], [], [], [], [], [], [], [(0, 103, 104, 37), (0, 103, 109, 39), (0, 103, 114, 41)], [(0, 140, 141, 37), (0, 140, 146, 39), (0, 140, 151, 41)], [(0, 44, 45, 39)], [], [], [], [], [], [], [], [], [], [], [], [], []]
def mOs : List Nat := [0, 0, 0, 0, 0, 0, 0, 0, 0, 0, 0, 0, 0, 0, 0, 0, 0, 0, 0, 0, 0, 0, 0, 0, 0, 0, 0, 0, 0, 0, 0, 0, 0, 0, 0, 0, 0, 0, 0, 0, 0, 0, 0, 0, 0, 0, 0, 0, 0, 0, 2, 2, 2, 2, 2, 2, 2, 2, 2, 2, 2, 2, 2, 2, 2, 2, 3]
def mNs : List Nat := [0, 2, 2, 2, 1, 1, 1, 1, 1, 0, 1, 2, 1, 1, 1, 1, 1, 2, 2, 3, 1, 1, 1, 1, 3, 2, 1, 1, 1, 1, 2, 2, 2, 1, 1, 2, 1, 1, 2, 2, 1, 1, 1, 1, 1, 2, 1, 0, 2, 2, 3, 5, 4, 3, 1, 3, 4, 6, 3, 6, 5, 6, 6, 4, 8, 1, 1]
def mSs : List Bool := [false, false, false, false, false, false, false, false, false, false, false, false, false, false, false, false, false, false, false, false, false, false, false, false, true, true, false, false, false, false, true, true, false, false, true, false, false, false, false, false, false, false, false, false, false, false, false, false, false, false, true, true, true, true, true, true, true, true, true, true, true, true, true, true, true, false, true]
def mFs : List Nat := [1, 7, 7, 7, 7, 7, 7, 7, 7, 6, 7, 7, 7, 7, 7, 7, 7, 7, 7, 7, 7, 7, 6, 7, 6, 6, 6, 6, 6, 6, 0, 0, 0, 1, 0, 2, 1, 3, 4, 5, 1, 5, 1, 0, 2, 6, 3, 4, 1, 0, 0, 8, 8, 8, 0, 0, 9, 9, 9, 9, 9, 9, 9, 9, 10, 13, 0]
def mLos : List Nat := [20, 112, 112, 112, 111, 111, 111, 111, 132, 132, 111, 111, 111, 132, 133, 133, 111, 115, 133, 112, 111, 111, 111, 112, 90, 90, 90, 90, 90, 90, 0, 0, 0, 21, 0, 44, 21, 66, 87, 109, 22, 109, 21, 0, 44, 90, 66, 89, 22, 0, 0, 153, 159, 133, 0, 0, 183, 183, 183, 178, 178, 178, 178, 178, 208, 518, 0]
def pg0 : List PE := [(0, .aload_n 0, 1, 0), (1, .invokespecial 1, 4, 0), (4, .aload_n 0, 5, 0), (5, .bipush 16, 7, 0), (7, .newarray .int, 9, 0), (9, .putfield 9, 12, 1), (12, .aload_n 0, 13, 0), (13, .bipush 16, 15, 0), (15, .newarray .int, 17, 0), (17, .putfield 13, 20, 2), (20, .aload_n 0, 21, 0), (21, .bipush 16, 23, 0), (23, .newarray .int, 25, 0), (25, .putfield 16, 28, 3), (28, .aload_n 0, 29, 0), (29, .bipush 16, 31, 0), (31, .newarray .int, 33, 0), (33, .putfield 19, 36, 4), (36, .aload_n 0, 37, 0), (37, .bipush 8, 39, 0), (39, .newarray .int, 41, 0), (41, .putfield 22, 44, 8), (44, .aload_n 0, 45, 0), (45, .bipush 8, 47, 0), (47, .newarray .int, 49, 0), (49, .putfield 25, 52, 9), (52, .aload_n 0, 53, 0), (53, .bipush 20, 55, 0), (55, .newarray .int, 57, 0), (57, .putfield 28, 60, 11), (60, .aload_n 0, 61, 0), (61, .bipush 20, 63, 0), (63, .newarray .int, 65, 0), (65, .putfield 31, 68, 12), (68, .aload_n 0, 69, 0), (69, .bipush 20, 71, 0), (71, .newarray .int, 73, 0), (73, .putfield 34, 76, 13), (76, .aload_n 0, 77, 0), (77, .bipush 20, 79, 0), (79, .newarray .int, 81, 0), (81, .putfield 37, 84, 15), (84, .aload_n 0, 85, 0), (85, .bipush 20, 87, 0), (87, .newarray .int, 89, 0), (89, .putfield 40, 92, 16), (92, .aload_n 0, 93, 0), (93, .iconst 1, 94, 0), (94, .putfield 43, 97, 0), (97, .aload_n 0, 98, 0), (98, .getfield 9, 101, 1), (101, .iconst 0, 102, 0), (102, .iconst 1, 103, 0), (103, .iastore, 104, 0), (104, .return_, 105, 0)]
def pg1 : List PE := [(0, .iload_n 2, 1, 0), (1, .iconst 0, 2, 0), (2, .sipush 10000, 5, 0), (5, .invokestatic 47, 8, 24), (8, .aload_n 0, 9, 0), (9, .iload_n 1, 10, 0), (10, .invokevirtual 51, 13, 26), (13, .aload_n 0, 14, 0), (14, .getfield 43, 17, 0), (17, .bipush 16, 19, 0), (19, .invokestatic 55, 22, 25), (22, .aload_n 0, 23, 0), (23, .getfield 43, 26, 0), (26, .istore_n 3, 27, 0), (27, .aload_n 0, 28, 0), (28, .getfield 9, 31, 1), (31, .iload_n 3, 32, 0), (32, .aload_n 0, 33, 0), (33, .getfield 9, 36, 1), (36, .iload_n 1, 37, 0), (37, .iaload, 38, 0), (38, .iconst 1, 39, 0), (39, .iload_n 3, 40, 0), (40, .ishl, 41, 0), (41, .ior, 42, 0), (42, .iastore, 43, 0), (43, .aload_n 0, 44, 0), (44, .getfield 13, 47, 2), (47, .iload_n 3, 48, 0), (48, .iload_n 2, 49, 0), (49, .iastore, 50, 0), (50, .aload_n 0, 51, 0), (51, .getfield 19, 54, 4), (54, .iload_n 3, 55, 0), (55, .iconst (-1), 56, 0), (56, .iastore, 57, 0), (57, .aload_n 0, 58, 0), (58, .iload_n 3, 59, 0), (59, .iconst 1, 60, 0), (60, .iadd, 61, 0), (61, .putfield 43, 64, 0), (64, .iload_n 3, 65, 0), (65, .ireturn, 66, 0)]
def pg2 : List PE := [(0, .iload_n 2, 1, 0), (1, .iconst 0, 2, 0), (2, .sipush 10000, 5, 0), (5, .invokestatic 47, 8, 24), (8, .aload_n 0, 9, 0), (9, .iload_n 1, 10, 0), (10, .invokevirtual 51, 13, 26), (13, .aload_n 0, 14, 0), (14, .getfield 16, 17, 3), (17, .iload_n 1, 18, 0), (18, .iload_n 2, 19, 0), (19, .iastore, 20, 0), (20, .aload_n 0, 21, 0), (21, .iload_n 1, 22, 0), (22, .invokevirtual 59, 25, 37), (25, .ireturn, 26, 0)]
def pg3 : List PE := [(0, .iload_n 2, 1, 0), (1, .iconst (-1), 2, 0), (2, .bipush 100, 4, 0), (4, .invokestatic 47, 7, 24), (7, .aload_n 0, 8, 0), (8, .iload_n 1, 9, 0), (9, .invokevirtual 63, 12, 27), (12, .aload_n 0, 13, 0), (13, .getfield 19, 16, 4), (16, .iload_n 1, 17, 0), (17, .iload_n 2, 18, 0), (18, .iastore, 19, 0), (19, .aload_n 0, 20, 0), (20, .iload_n 1, 21, 0), (21, .invokevirtual 66, 24, 33), (24, .ireturn, 25, 0)]
def pg4 : List PE := [(0, .aload_n 0, 1, 0), (1, .iload_n 1, 2, 0), (2, .invokevirtual 63, 5, 27), (5, .aload_n 0, 6, 0), (6, .getfield 69, 9, 5), (9, .iload_n 1, 10, 0), (10, .invokestatic 72, 13, 30), (13, .ifCond .ne 7, 16, 20), (16, .iconst 1, 17, 0), (17, .goto 4, 20, 21), (20, .iconst 0, 21, 0), (21, .istore_n 2, 22, 0), (22, .aload_n 0, 23, 0), (23, .dup, 24, 0), (24, .getfield 69, 27, 5), (27, .iconst 1, 28, 0), (28, .iload_n 1, 29, 0), (29, .ishl, 30, 0), (30, .ior, 31, 0), (31, .putfield 69, 34, 5), (34, .iload_n 2, 35, 0), (35, .ireturn, 36, 0)]
def pg5 : List PE := [(0, .aload_n 0, 1, 0), (1, .iload_n 1, 2, 0), (2, .invokevirtual 63, 5, 27), (5, .aload_n 0, 6, 0), (6, .dup, 7, 0), (7, .getfield 76, 10, 6), (10, .iconst 1, 11, 0), (11, .iload_n 1, 12, 0), (12, .ishl, 13, 0), (13, .ixor, 14, 0), (14, .putfield 76, 17, 6), (17, .aload_n 0, 18, 0), (18, .getfield 76, 21, 6), (21, .iload_n 1, 22, 0), (22, .invokestatic 72, 25, 30), (25, .ifCond .ne 7, 28, 32), (28, .iconst 1, 29, 0), (29, .goto 4, 32, 33), (32, .iconst 0, 33, 0), (33, .ireturn, 34, 0)]
def pg6 : List PE := [(0, .aload_n 0, 1, 0), (1, .iload_n 1, 2, 0), (2, .invokevirtual 51, 5, 26), (5, .aload_n 0, 6, 0), (6, .iload_n 1, 7, 0), (7, .aload_n 0, 8, 0), (8, .getfield 76, 11, 6), (11, .invokevirtual 79, 14, 32), (14, .ireturn, 15, 0)]
def pg7 : List PE := [(0, .aload_n 0, 1, 0), (1, .iload_n 1, 2, 0), (2, .invokevirtual 51, 5, 26), (5, .aload_n 0, 6, 0), (6, .iload_n 1, 7, 0), (7, .aload_n 0, 8, 0), (8, .getfield 76, 11, 6), (11, .invokevirtual 82, 14, 38), (14, .ireturn, 15, 0)]
def pg8 : List PE := [(0, .aload_n 0, 1, 0), (1, .iload_n 1, 2, 0), (2, .invokevirtual 63, 5, 27), (5, .aload_n 0, 6, 0), (6, .getfield 69, 9, 5), (9, .iload_n 1, 10, 0), (10, .invokestatic 72, 13, 30), (13, .ifCond .ne 13, 16, 26), (16, .new 86, 19, 2), (19, .dup, 20, 0), (20, .ldc 88, 22, 0), (22, .invokespecial 90, 25, 0), (25, .athrow, 26, 0), (26, .aload_n 0, 27, 0), (27, .iload_n 1, 28, 0), (28, .invokevirtual 93, 31, 41), (31, .ireturn, 32, 0)]
def pg9 : List PE := [(0, .aload_n 0, 1, 0), (1, .iconst 0, 2, 0), (2, .invokevirtual 93, 5, 41), (5, .ireturn, 6, 0)]
def pg10 : List PE := [(0, .aload_n 0, 1, 0), (1, .iload_n 1, 2, 0), (2, .invokevirtual 51, 5, 26), (5, .aload_n 0, 6, 0), (6, .getfield 96, 9, 7), (9, .bipush 8, 11, 0), (11, .invokestatic 55, 14, 25), (14, .aload_n 0, 15, 0), (15, .getfield 96, 18, 7), (18, .istore_n 2, 19, 0), (19, .aload_n 0, 20, 0), (20, .getfield 22, 23, 8), (23, .iload_n 2, 24, 0), (24, .iload_n 1, 25, 0), (25, .iastore, 26, 0), (26, .aload_n 0, 27, 0), (27, .iload_n 2, 28, 0), (28, .iconst 1, 29, 0), (29, .iadd, 30, 0), (30, .putfield 96, 33, 7), (33, .iload_n 2, 34, 0), (34, .ireturn, 35, 0)]
def pg11 : List PE := [(0, .aload_n 0, 1, 0), (1, .iload_n 1, 2, 0), (2, .invokevirtual 99, 5, 28), (5, .aload_n 0, 6, 0), (6, .iload_n 2, 7, 0), (7, .invokevirtual 51, 10, 26), (10, .aload_n 0, 11, 0), (11, .getfield 22, 14, 8), (14, .iload_n 1, 15, 0), (15, .iaload, 16, 0), (16, .istore_n 3, 17, 0), (17, .iload_n 2, 18, 0), (18, .iload_n 3, 19, 0), (19, .if_icmp .eq 29, 22, 48), (22, .aload_n 0, 23, 0), (23, .getfield 9, 26, 1), (26, .iload_n 2, 27, 0), (27, .iaload, 28, 0), (28, .iload_n 3, 29, 0), (29, .invokestatic 72, 32, 30), (32, .ifCond .eq 16, 35, 48), (35, .aload_n 0, 36, 0), (36, .getfield 25, 39, 9), (39, .iload_n 1, 40, 0), (40, .iaload, 41, 0), (41, .iload_n 2, 42, 0), (42, .invokestatic 72, 45, 30), (45, .ifCond .eq 13, 48, 58), (48, .new 86, 51, 2), (51, .dup, 52, 0), (52, .ldc 102, 54, 0), (54, .invokespecial 90, 57, 0), (57, .athrow, 58, 0), (58, .aload_n 0, 59, 0), (59, .getfield 25, 62, 9), (62, .iload_n 1, 63, 0), (63, .dup2, 64, 0), (64, .iaload, 65, 0), (65, .iconst 1, 66, 0), (66, .iload_n 2, 67, 0), (67, .ishl, 68, 0), (68, .ior, 69, 0), (69, .iastore, 70, 0), (70, .aload_n 0, 71, 0), (71, .iload_n 1, 72, 0), (72, .invokevirtual 104, 75, 42), (75, .invokestatic 107, 78, 66), (78, .ireturn, 79, 0)]
def pg12 : List PE := [(0, .aload_n 0, 1, 0), (1, .iload_n 1, 2, 0), (2, .invokevirtual 99, 5, 28), (5, .aload_n 0, 6, 0), (6, .iload_n 1, 7, 0), (7, .invokevirtual 104, 10, 42), (10, .ireturn, 11, 0)]
def pg13 : List PE := [(0, .aload_n 0, 1, 0), (1, .iload_n 1, 2, 0), (2, .invokevirtual 99, 5, 28), (5, .aload_n 0, 6, 0), (6, .getfield 22, 9, 8), (9, .iload_n 1, 10, 0), (10, .iaload, 11, 0), (11, .istore_n 2, 12, 0), (12, .aload_n 0, 13, 0), (13, .iload_n 1, 14, 0), (14, .invokevirtual 112, 17, 43), (17, .istore_n 3, 18, 0), (18, .iload_n 3, 19, 0), (19, .iconst 1, 20, 0), (20, .iload_n 2, 21, 0), (21, .ishl, 22, 0), (22, .ior, 23, 0), (23, .bipush (-2), 25, 0), (25, .iand, 26, 0), (26, .istore 4, 28, 0), (28, .iload 4, 30, 0), (30, .aload_n 0, 31, 0), (31, .getfield 69, 34, 5), (34, .iconst (-1), 35, 0), (35, .ixor, 36, 0), (36, .iand, 37, 0), (37, .ifCond .eq 13, 40, 50), (40, .new 86, 43, 2), (43, .dup, 44, 0), (44, .ldc 115, 46, 0), (46, .invokespecial 90, 49, 0), (49, .athrow, 50, 0), (50, .aload_n 0, 51, 0), (51, .iload_n 2, 52, 0), (52, .invokevirtual 93, 55, 41), (55, .istore 5, 57, 0), (57, .iconst 0, 58, 0), (58, .istore 6, 60, 0), (60, .iload 6, 62, 0), (62, .aload_n 0, 63, 0), (63, .getfield 43, 66, 0), (66, .if_icmp .ge 29, 69, 95), (69, .iload_n 3, 70, 0), (70, .iload 6, 72, 0), (72, .invokestatic 72, 75, 30), (75, .ifCond .eq 14, 78, 89), (78, .iload 5, 80, 0), (80, .aload_n 0, 81, 0), (81, .iload 6, 83, 0), (83, .invokevirtual 93, 86, 41), (86, .isub, 87, 0), (87, .istore 5, 89, 0), (89, .iinc 6 1, 92, 0), (92, .goto (-32), 95, 60), (95, .iload 5, 97, 0), (97, .ireturn, 98, 0)]
def pg14 : List PE := [(0, .aload_n 0, 1, 0), (1, .iload_n 1, 2, 0), (2, .invokevirtual 99, 5, 28), (5, .aload_n 0, 6, 0), (6, .aload_n 0, 7, 0), (7, .iload_n 1, 8, 0), (8, .invokevirtual 104, 11, 42), (11, .aload_n 0, 12, 0), (12, .getfield 76, 15, 6), (15, .invokevirtual 117, 18, 39), (18, .ireturn, 19, 0)]
def pg15 : List PE := [(0, .aload_n 0, 1, 0), (1, .iload_n 1, 2, 0), (2, .invokevirtual 99, 5, 28), (5, .aload_n 0, 6, 0), (6, .iload_n 1, 7, 0), (7, .invokevirtual 104, 10, 42), (10, .istore_n 2, 11, 0), (11, .aload_n 0, 12, 0), (12, .iload_n 2, 13, 0), (13, .aload_n 0, 14, 0), (14, .getfield 76, 17, 6), (17, .invokevirtual 117, 20, 39), (20, .aload_n 0, 21, 0), (21, .iload_n 2, 22, 0), (22, .invokevirtual 120, 25, 40), (25, .isub, 26, 0), (26, .ireturn, 27, 0)]
def pg16 : List PE := [(0, .aload_n 0, 1, 0), (1, .iload_n 1, 2, 0), (2, .invokevirtual 99, 5, 28), (5, .aload_n 0, 6, 0), (6, .iload_n 1, 7, 0), (7, .invokevirtual 123, 10, 44), (10, .invokestatic 107, 13, 66), (13, .ireturn, 14, 0)]
def pg17 : List PE := [(0, .aload_n 0, 1, 0), (1, .iload_n 1, 2, 0), (2, .invokevirtual 99, 5, 28), (5, .aload_n 0, 6, 0), (6, .iload_n 1, 7, 0), (7, .iload_n 2, 8, 0), (8, .invokevirtual 126, 11, 45), (11, .ireturn, 12, 0)]
def pg18 : List PE := [(0, .aload_n 0, 1, 0), (1, .iload_n 1, 2, 0), (2, .invokevirtual 99, 5, 28), (5, .aload_n 0, 6, 0), (6, .iload_n 1, 7, 0), (7, .iload_n 2, 8, 0), (8, .invokevirtual 126, 11, 45), (11, .istore_n 3, 12, 0), (12, .aload_n 0, 13, 0), (13, .getfield 76, 16, 6), (16, .aload_n 0, 17, 0), (17, .iload_n 1, 18, 0), (18, .invokevirtual 123, 21, 44), (21, .iload_n 3, 22, 0), (22, .invokestatic 129, 25, 31), (25, .ior, 26, 0), (26, .istore 4, 28, 0), (28, .iload 4, 30, 0), (30, .iconst 1, 31, 0), (31, .iload_n 3, 32, 0), (32, .ishl, 33, 0), (33, .ior, 34, 0), (34, .istore 5, 36, 0), (36, .aload_n 0, 37, 0), (37, .iload_n 1, 38, 0), (38, .invokevirtual 104, 41, 42), (41, .istore 6, 43, 0), (43, .aload_n 0, 44, 0), (44, .iload 6, 46, 0), (46, .iload 4, 48, 0), (48, .invokevirtual 117, 51, 39), (51, .aload_n 0, 52, 0), (52, .iload 6, 54, 0), (54, .iload 5, 56, 0), (56, .invokevirtual 117, 59, 39), (59, .isub, 60, 0), (60, .ireturn, 61, 0)]
def pg19 : List PE := [(0, .iload_n 2, 1, 0), (1, .iconst 1, 2, 0), (2, .sipush 10000, 5, 0), (5, .invokestatic 47, 8, 24), (8, .iload_n 3, 9, 0), (9, .iconst 1, 10, 0), (10, .bipush 100, 12, 0), (12, .invokestatic 47, 15, 24), (15, .aload_n 0, 16, 0), (16, .iload_n 1, 17, 0), (17, .invokevirtual 51, 20, 26), (20, .aload_n 0, 21, 0), (21, .getfield 132, 24, 10), (24, .bipush 20, 26, 0), (26, .invokestatic 55, 29, 25), (29, .aload_n 0, 30, 0), (30, .getfield 132, 33, 10), (33, .istore 4, 35, 0), (35, .aload_n 0, 36, 0), (36, .getfield 28, 39, 11), (39, .iload 4, 41, 0), (41, .iload_n 1, 42, 0), (42, .iastore, 43, 0), (43, .aload_n 0, 44, 0), (44, .getfield 31, 47, 12), (47, .iload 4, 49, 0), (49, .iload_n 2, 50, 0), (50, .iastore, 51, 0), (51, .aload_n 0, 52, 0), (52, .getfield 34, 55, 13), (55, .iload 4, 57, 0), (57, .iload_n 3, 58, 0), (58, .iastore, 59, 0), (59, .aload_n 0, 60, 0), (60, .iload 4, 62, 0), (62, .iconst 1, 63, 0), (63, .iadd, 64, 0), (64, .putfield 132, 67, 10), (67, .iload 4, 69, 0), (69, .ireturn, 70, 0)]
def pg20 : List PE := [(0, .aload_n 0, 1, 0), (1, .iload_n 1, 2, 0), (2, .invokevirtual 135, 5, 29), (5, .aload_n 0, 6, 0), (6, .getfield 138, 9, 14), (9, .iload_n 1, 10, 0), (10, .invokestatic 72, 13, 30), (13, .ifCond .eq 13, 16, 26), (16, .new 86, 19, 2), (19, .dup, 20, 0), (20, .ldc 141, 22, 0), (22, .invokespecial 90, 25, 0), (25, .athrow, 26, 0), (26, .aload_n 0, 27, 0), (27, .iload_n 1, 28, 0), (28, .invokevirtual 143, 31, 46), (31, .istore_n 2, 32, 0), (32, .aload_n 0, 33, 0), (33, .dup, 34, 0), (34, .getfield 138, 37, 14), (37, .iconst 1, 38, 0), (38, .iload_n 1, 39, 0), (39, .ishl, 40, 0), (40, .ior, 41, 0), (41, .putfield 138, 44, 14), (44, .iload_n 2, 45, 0), (45, .ireturn, 46, 0)]
def pg21 : List PE := [(0, .aload_n 0, 1, 0), (1, .iload_n 1, 2, 0), (2, .invokevirtual 135, 5, 29), (5, .aload_n 0, 6, 0), (6, .iload_n 1, 7, 0), (7, .invokevirtual 143, 10, 46), (10, .ireturn, 11, 0)]
def pg22 : List PE := [(0, .aload_n 0, 1, 0), (1, .invokevirtual 146, 4, 47), (4, .istore_n 2, 5, 0), (5, .iload_n 1, 6, 0), (6, .ifCond .lt 8, 9, 14), (9, .iload_n 1, 10, 0), (10, .iload_n 2, 11, 0), (11, .if_icmp .lt 13, 14, 24), (14, .new 150, 17, 1), (17, .dup, 18, 0), (18, .ldc 152, 20, 0), (20, .invokespecial 154, 23, 0), (23, .athrow, 24, 0), (24, .aload_n 0, 25, 0), (25, .getfield 40, 28, 16), (28, .iload_n 1, 29, 0), (29, .iaload, 30, 0), (30, .ireturn, 31, 0)]
def pg23 : List PE := [(0, .iload_n 1, 1, 0), (1, .iconst 0, 2, 0), (2, .sipush 1000, 5, 0), (5, .invokestatic 47, 8, 24), (8, .aload_n 0, 9, 0), (9, .invokevirtual 146, 12, 47), (12, .istore_n 2, 13, 0), (13, .iload_n 1, 14, 0), (14, .istore_n 3, 15, 0), (15, .iconst 0, 16, 0), (16, .istore 4, 18, 0), (18, .iconst 0, 19, 0), (19, .istore 5, 21, 0), (21, .iload 5, 23, 0), (23, .iload_n 2, 24, 0), (24, .if_icmp .ge 48, 27, 72), (27, .aload_n 0, 28, 0), (28, .getfield 40, 31, 16), (31, .iload 5, 33, 0), (33, .iaload, 34, 0), (34, .istore 6, 36, 0), (36, .aload_n 0, 37, 0), (37, .getfield 34, 40, 13), (40, .iload 6, 42, 0), (42, .iaload, 43, 0), (43, .iload_n 3, 44, 0), (44, .if_icmp .gt 22, 47, 66), (47, .iload_n 3, 48, 0), (48, .aload_n 0, 49, 0), (49, .getfield 34, 52, 13), (52, .iload 6, 54, 0), (54, .iaload, 55, 0), (55, .isub, 56, 0), (56, .istore_n 3, 57, 0), (57, .iload 4, 59, 0), (59, .iconst 1, 60, 0), (60, .iload 6, 62, 0), (62, .ishl, 63, 0), (63, .ior, 64, 0), (64, .istore 4, 66, 0), (66, .iinc 5 1, 69, 0), (69, .goto (-48), 72, 21), (72, .iload 4, 74, 0), (74, .ireturn, 75, 0)]
def pg24 : List PE := [(0, .iload_n 0, 1, 0), (1, .iload_n 1, 2, 0), (2, .if_icmp .lt 8, 5, 10), (5, .iload_n 0, 6, 0), (6, .iload_n 2, 7, 0), (7, .if_icmp .le 13, 10, 20), (10, .new 155, 13, 0), (13, .dup, 14, 0), (14, .ldc 157, 16, 0), (16, .invokespecial 159, 19, 0), (19, .athrow, 20, 0), (20, .return_, 21, 0)]
def pg25 : List PE := [(0, .iload_n 0, 1, 0), (1, .iload_n 1, 2, 0), (2, .if_icmp .lt 13, 5, 15), (5, .new 86, 8, 2), (8, .dup, 9, 0), (9, .ldc 160, 11, 0), (11, .invokespecial 90, 14, 0), (14, .athrow, 15, 0), (15, .return_, 16, 0)]
def pg26 : List PE := [(0, .iload_n 1, 1, 0), (1, .ifCond .lt 11, 4, 12), (4, .iload_n 1, 5, 0), (5, .aload_n 0, 6, 0), (6, .getfield 43, 9, 0), (9, .if_icmp .lt 13, 12, 22), (12, .new 150, 15, 1), (15, .dup, 16, 0), (16, .ldc 162, 18, 0), (18, .invokespecial 154, 21, 0), (21, .athrow, 22, 0), (22, .return_, 23, 0)]
def pg27 : List PE := [(0, .iload_n 1, 1, 0), (1, .ifCond .le 11, 4, 12), (4, .iload_n 1, 5, 0), (5, .aload_n 0, 6, 0), (6, .getfield 43, 9, 0), (9, .if_icmp .lt 13, 12, 22), (12, .new 150, 15, 1), (15, .dup, 16, 0), (16, .ldc 164, 18, 0), (18, .invokespecial 154, 21, 0), (21, .athrow, 22, 0), (22, .return_, 23, 0)]
def pg28 : List PE := [(0, .iload_n 1, 1, 0), (1, .ifCond .lt 11, 4, 12), (4, .iload_n 1, 5, 0), (5, .aload_n 0, 6, 0), (6, .getfield 96, 9, 7), (9, .if_icmp .lt 13, 12, 22), (12, .new 150, 15, 1), (15, .dup, 16, 0), (16, .ldc 166, 18, 0), (18, .invokespecial 154, 21, 0), (21, .athrow, 22, 0), (22, .return_, 23, 0)]
def pg29 : List PE := [(0, .iload_n 1, 1, 0), (1, .ifCond .lt 11, 4, 12), (4, .iload_n 1, 5, 0), (5, .aload_n 0, 6, 0), (6, .getfield 132, 9, 10), (9, .if_icmp .lt 13, 12, 22), (12, .new 150, 15, 1), (15, .dup, 16, 0), (16, .ldc 168, 18, 0), (18, .invokespecial 154, 21, 0), (21, .athrow, 22, 0), (22, .return_, 23, 0)]
def pg30 : List PE := [(0, .iload_n 0, 1, 0), (1, .iconst 1, 2, 0), (2, .iload_n 1, 3, 0), (3, .ishl, 4, 0), (4, .iand, 5, 0), (5, .ifCond .eq 7, 8, 12), (8, .iconst 1, 9, 0), (9, .goto 4, 12, 13), (12, .iconst 0, 13, 0), (13, .ireturn, 14, 0)]
def pg31 : List PE := [(0, .iload_n 0, 1, 0), (1, .iconst (-1), 2, 0), (2, .iload_n 1, 3, 0), (3, .iconst 1, 4, 0), (4, .iadd, 5, 0), (5, .ishl, 6, 0), (6, .iand, 7, 0), (7, .ireturn, 8, 0)]
def pg32 : List PE := [(0, .aload_n 0, 1, 0), (1, .getfield 9, 4, 1), (4, .iload_n 1, 5, 0), (5, .iaload, 6, 0), (6, .iload_n 2, 7, 0), (7, .iand, 8, 0), (8, .ifCond .ne 7, 11, 15), (11, .iconst 1, 12, 0), (12, .goto 4, 15, 16), (15, .iconst 0, 16, 0), (16, .ireturn, 17, 0)]
def pg33 : List PE := [(0, .bipush 50, 2, 0), (2, .istore_n 2, 3, 0), (3, .iconst 1, 4, 0), (4, .istore_n 3, 5, 0), (5, .iload_n 3, 6, 0), (6, .iload_n 1, 7, 0), (7, .if_icmp .gt 39, 10, 46), (10, .aload_n 0, 11, 0), (11, .getfield 9, 14, 1), (14, .iload_n 1, 15, 0), (15, .iaload, 16, 0), (16, .iload_n 3, 17, 0), (17, .invokestatic 72, 20, 30), (20, .ifCond .eq 20, 23, 40), (23, .aload_n 0, 24, 0), (24, .getfield 19, 27, 4), (27, .iload_n 3, 28, 0), (28, .iaload, 29, 0), (29, .iconst (-1), 30, 0), (30, .if_icmp .eq 10, 33, 40), (33, .aload_n 0, 34, 0), (34, .getfield 19, 37, 4), (37, .iload_n 3, 38, 0), (38, .iaload, 39, 0), (39, .istore_n 2, 40, 0), (40, .iinc 3 1, 43, 0), (43, .goto (-38), 46, 5), (46, .iload_n 2, 47, 0), (47, .ireturn, 48, 0)]
def pg34 : List PE := [(0, .iload_n 0, 1, 0), (1, .bipush 10, 3, 0), (3, .idiv, 4, 0), (4, .istore_n 1, 5, 0), (5, .iload_n 1, 6, 0), (6, .ifCond .lt 13, 9, 19), (9, .iload_n 1, 10, 0), (10, .getstatic 170, 13, 0), (13, .arraylength, 14, 0), (14, .iconst 1, 15, 0), (15, .isub, 16, 0), (16, .if_icmp .lt 14, 19, 30), (19, .getstatic 170, 22, 0), (22, .getstatic 170, 25, 0), (25, .arraylength, 26, 0), (26, .iconst 1, 27, 0), (27, .isub, 28, 0), (28, .iaload, 29, 0), (29, .ireturn, 30, 0), (30, .getstatic 170, 33, 0), (33, .iload_n 1, 34, 0), (34, .iconst 1, 35, 0), (35, .iadd, 36, 0), (36, .iaload, 37, 0), (37, .getstatic 170, 40, 0), (40, .iload_n 1, 41, 0), (41, .iaload, 42, 0), (42, .isub, 43, 0), (43, .istore_n 2, 44, 0), (44, .getstatic 170, 47, 0), (47, .iload_n 1, 48, 0), (48, .iaload, 49, 0), (49, .iload_n 2, 50, 0), (50, .iload_n 0, 51, 0), (51, .iload_n 1, 52, 0), (52, .bipush 10, 54, 0), (54, .imul, 55, 0), (55, .isub, 56, 0), (56, .imul, 57, 0), (57, .bipush 10, 59, 0), (59, .idiv, 60, 0), (60, .iadd, 61, 0), (61, .ireturn, 62, 0)]
def pg35 : List PE := [(0, .iload_n 1, 1, 0), (1, .aload_n 0, 2, 0), (2, .iload_n 2, 3, 0), (3, .invokevirtual 66, 6, 33), (6, .invokestatic 173, 9, 34), (9, .imul, 10, 0), (10, .sipush 1000, 13, 0), (13, .idiv, 14, 0), (14, .ireturn, 15, 0)]
def pg36 : List PE := [(0, .aload_n 0, 1, 0), (1, .getfield 16, 4, 3), (4, .iload_n 1, 5, 0), (5, .iaload, 6, 0), (6, .istore_n 2, 7, 0), (7, .iconst 0, 8, 0), (8, .istore_n 3, 9, 0), (9, .iload_n 3, 10, 0), (10, .aload_n 0, 11, 0), (11, .getfield 132, 14, 10), (14, .if_icmp .ge 39, 17, 53), (17, .aload_n 0, 18, 0), (18, .getfield 28, 21, 11), (21, .iload_n 3, 22, 0), (22, .iaload, 23, 0), (23, .iload_n 1, 24, 0), (24, .if_icmp .ne 23, 27, 47), (27, .aload_n 0, 28, 0), (28, .getfield 138, 31, 14), (31, .iload_n 3, 32, 0), (32, .invokestatic 72, 35, 30), (35, .ifCond .ne 12, 38, 47), (38, .iload_n 2, 39, 0), (39, .aload_n 0, 40, 0), (40, .getfield 31, 43, 12), (43, .iload_n 3, 44, 0), (44, .iaload, 45, 0), (45, .iadd, 46, 0), (46, .istore_n 2, 47, 0), (47, .iinc 3 1, 50, 0), (50, .goto (-41), 53, 9), (53, .iload_n 2, 54, 0), (54, .ireturn, 55, 0)]
def pg37 : List PE := [(0, .aload_n 0, 1, 0), (1, .aload_n 0, 2, 0), (2, .iload_n 1, 3, 0), (3, .invokevirtual 176, 6, 36), (6, .iload_n 1, 7, 0), (7, .invokevirtual 179, 10, 35), (10, .ireturn, 11, 0)]
def pg38 : List PE := [(0, .aload_n 0, 1, 0), (1, .iload_n 1, 2, 0), (2, .iload_n 2, 3, 0), (3, .invokevirtual 79, 6, 32), (6, .ifCond .eq 18, 9, 24), (9, .aload_n 0, 10, 0), (10, .getfield 13, 13, 2), (13, .iload_n 1, 14, 0), (14, .iaload, 15, 0), (15, .aload_n 0, 16, 0), (16, .iload_n 1, 17, 0), (17, .invokevirtual 59, 20, 37), (20, .iadd, 21, 0), (21, .goto 4, 24, 25), (24, .iconst 0, 25, 0), (25, .ireturn, 26, 0)]
def pg39 : List PE := [(0, .iconst 0, 1, 0), (1, .istore_n 3, 2, 0), (2, .iconst 0, 3, 0), (3, .istore 4, 5, 0), (5, .iload 4, 7, 0), (7, .aload_n 0, 8, 0), (8, .getfield 43, 11, 0), (11, .if_icmp .ge 28, 14, 39), (14, .iload_n 1, 15, 0), (15, .iload 4, 17, 0), (17, .invokestatic 72, 20, 30), (20, .ifCond .eq 13, 23, 33), (23, .iload_n 3, 24, 0), (24, .aload_n 0, 25, 0), (25, .iload 4, 27, 0), (27, .iload_n 2, 28, 0), (28, .invokevirtual 82, 31, 38), (31, .iadd, 32, 0), (32, .istore_n 3, 33, 0), (33, .iinc 4 1, 36, 0), (36, .goto (-31), 39, 5), (39, .iload_n 3, 40, 0), (40, .ireturn, 41, 0)]
def pg40 : List PE := [(0, .iconst 0, 1, 0), (1, .istore_n 2, 2, 0), (2, .iconst 0, 3, 0), (3, .istore_n 3, 4, 0), (4, .iload_n 3, 5, 0), (5, .aload_n 0, 6, 0), (6, .getfield 43, 9, 0), (9, .if_icmp .ge 38, 12, 47), (12, .iload_n 1, 13, 0), (13, .iload_n 3, 14, 0), (14, .invokestatic 72, 17, 30), (17, .ifCond .eq 24, 20, 41), (20, .aload_n 0, 21, 0), (21, .iload_n 3, 22, 0), (22, .aload_n 0, 23, 0), (23, .getfield 76, 26, 6), (26, .invokevirtual 79, 29, 32), (29, .ifCond .eq 12, 32, 41), (32, .iload_n 2, 33, 0), (33, .aload_n 0, 34, 0), (34, .getfield 13, 37, 2), (37, .iload_n 3, 38, 0), (38, .iaload, 39, 0), (39, .iadd, 40, 0), (40, .istore_n 2, 41, 0), (41, .iinc 3 1, 44, 0), (44, .goto (-40), 47, 4), (47, .iload_n 2, 48, 0), (48, .ireturn, 49, 0)]
def pg41 : List PE := [(0, .iconst 0, 1, 0), (1, .istore_n 2, 2, 0), (2, .iconst 0, 3, 0), (3, .istore_n 3, 4, 0), (4, .iload_n 3, 5, 0), (5, .aload_n 0, 6, 0), (6, .getfield 43, 9, 0), (9, .if_icmp .ge 34, 12, 43), (12, .aload_n 0, 13, 0), (13, .getfield 9, 16, 1), (16, .iload_n 3, 17, 0), (17, .iaload, 18, 0), (18, .iload_n 1, 19, 0), (19, .invokestatic 72, 22, 30), (22, .ifCond .eq 15, 25, 37), (25, .iload_n 2, 26, 0), (26, .aload_n 0, 27, 0), (27, .iload_n 3, 28, 0), (28, .aload_n 0, 29, 0), (29, .getfield 76, 32, 6), (32, .invokevirtual 82, 35, 38), (35, .iadd, 36, 0), (36, .istore_n 2, 37, 0), (37, .iinc 3 1, 40, 0), (40, .goto (-36), 43, 4), (43, .iload_n 2, 44, 0), (44, .ireturn, 45, 0)]
def pg42 : List PE := [(0, .iconst 0, 1, 0), (1, .istore_n 2, 2, 0), (2, .iconst 0, 3, 0), (3, .istore_n 3, 4, 0), (4, .iload_n 3, 5, 0), (5, .aload_n 0, 6, 0), (6, .getfield 43, 9, 0), (9, .if_icmp .ge 49, 12, 58), (12, .aload_n 0, 13, 0), (13, .getfield 9, 16, 1), (16, .iload_n 3, 17, 0), (17, .iaload, 18, 0), (18, .aload_n 0, 19, 0), (19, .getfield 22, 22, 8), (22, .iload_n 1, 23, 0), (23, .iaload, 24, 0), (24, .invokestatic 72, 27, 30), (27, .ifCond .eq 25, 30, 52), (30, .aload_n 0, 31, 0), (31, .getfield 9, 34, 1), (34, .iload_n 3, 35, 0), (35, .iaload, 36, 0), (36, .aload_n 0, 37, 0), (37, .getfield 25, 40, 9), (40, .iload_n 1, 41, 0), (41, .iaload, 42, 0), (42, .iand, 43, 0), (43, .ifCond .ne 9, 46, 52), (46, .iload_n 2, 47, 0), (47, .iconst 1, 48, 0), (48, .iload_n 3, 49, 0), (49, .ishl, 50, 0), (50, .ior, 51, 0), (51, .istore_n 2, 52, 0), (52, .iinc 3 1, 55, 0), (55, .goto (-51), 58, 4), (58, .iload_n 2, 59, 0), (59, .ireturn, 60, 0)]
def pg43 : List PE := [(0, .iconst 0, 1, 0), (1, .istore_n 2, 2, 0), (2, .iconst 0, 3, 0), (3, .istore_n 3, 4, 0), (4, .iload_n 3, 5, 0), (5, .aload_n 0, 6, 0), (6, .getfield 43, 9, 0), (9, .if_icmp .ge 34, 12, 43), (12, .aload_n 0, 13, 0), (13, .getfield 9, 16, 1), (16, .iload_n 3, 17, 0), (17, .iaload, 18, 0), (18, .aload_n 0, 19, 0), (19, .getfield 25, 22, 9), (22, .iload_n 1, 23, 0), (23, .iaload, 24, 0), (24, .iand, 25, 0), (25, .iconst 1, 26, 0), (26, .iload_n 3, 27, 0), (27, .ishl, 28, 0), (28, .if_icmp .ne 9, 31, 37), (31, .iload_n 2, 32, 0), (32, .iconst 1, 33, 0), (33, .iload_n 3, 34, 0), (34, .ishl, 35, 0), (35, .ior, 36, 0), (36, .istore_n 2, 37, 0), (37, .iinc 3 1, 40, 0), (40, .goto (-36), 43, 4), (43, .iload_n 2, 44, 0), (44, .ireturn, 45, 0)]
def pg44 : List PE := [(0, .aload_n 0, 1, 0), (1, .iload_n 1, 2, 0), (2, .invokevirtual 104, 5, 42), (5, .iconst 1, 6, 0), (6, .aload_n 0, 7, 0), (7, .getfield 22, 10, 8), (10, .iload_n 1, 11, 0), (11, .iaload, 12, 0), (12, .ishl, 13, 0), (13, .iconst (-1), 14, 0), (14, .ixor, 15, 0), (15, .iand, 16, 0), (16, .aload_n 0, 17, 0), (17, .getfield 76, 20, 6), (20, .iconst (-1), 21, 0), (21, .ixor, 22, 0), (22, .iand, 23, 0), (23, .ireturn, 24, 0)]
def pg45 : List PE := [(0, .aload_n 0, 1, 0), (1, .iload_n 1, 2, 0), (2, .invokevirtual 123, 5, 44), (5, .istore_n 3, 6, 0), (6, .iconst 0, 7, 0), (7, .istore 4, 9, 0), (9, .aload_n 0, 10, 0), (10, .getfield 43, 13, 0), (13, .iconst 1, 14, 0), (14, .isub, 15, 0), (15, .istore 5, 17, 0), (17, .iload 5, 19, 0), (19, .ifCond .le 30, 22, 49), (22, .iload_n 3, 23, 0), (23, .iload 5, 25, 0), (25, .invokestatic 72, 28, 30), (28, .ifCond .eq 15, 31, 43), (31, .iload 4, 33, 0), (33, .iload_n 2, 34, 0), (34, .if_icmp .ne 6, 37, 40), (37, .iload 5, 39, 0), (39, .ireturn, 40, 0), (40, .iinc 4 1, 43, 0), (43, .iinc 5 (-1), 46, 0), (46, .goto (-29), 49, 17), (49, .new 150, 52, 1), (52, .dup, 53, 0), (53, .ldc 182, 55, 0), (55, .invokespecial 154, 58, 0), (58, .athrow, 59, 0)]
def pg46 : List PE := [(0, .aload_n 0, 1, 0), (1, .getfield 28, 4, 11), (4, .iload_n 1, 5, 0), (5, .iaload, 6, 0), (6, .istore_n 2, 7, 0), (7, .aload_n 0, 8, 0), (8, .getfield 138, 11, 14), (11, .iload_n 1, 12, 0), (12, .invokestatic 72, 15, 30), (15, .ifCond .ne 15, 18, 30), (18, .aload_n 0, 19, 0), (19, .iload_n 2, 20, 0), (20, .aload_n 0, 21, 0), (21, .getfield 76, 24, 6), (24, .invokevirtual 79, 27, 32), (27, .ifCond .ne 5, 30, 32), (30, .iconst 0, 31, 0), (31, .ireturn, 32, 0), (32, .aload_n 0, 33, 0), (33, .iload_n 2, 34, 0), (34, .invokevirtual 176, 37, 36), (37, .istore_n 3, 38, 0), (38, .aload_n 0, 39, 0), (39, .iload_n 3, 40, 0), (40, .iload_n 2, 41, 0), (41, .invokevirtual 179, 44, 35), (44, .aload_n 0, 45, 0), (45, .iload_n 3, 46, 0), (46, .aload_n 0, 47, 0), (47, .getfield 31, 50, 12), (50, .iload_n 1, 51, 0), (51, .iaload, 52, 0), (52, .isub, 53, 0), (53, .iload_n 2, 54, 0), (54, .invokevirtual 179, 57, 35), (57, .isub, 58, 0), (58, .ireturn, 59, 0)]
def pg47 : List PE := [(0, .iconst 0, 1, 0), (1, .istore_n 1, 2, 0), (2, .iconst 0, 3, 0), (3, .istore_n 2, 4, 0), (4, .iload_n 2, 5, 0), (5, .aload_n 0, 6, 0), (6, .getfield 132, 9, 10), (9, .if_icmp .ge 40, 12, 49), (12, .aload_n 0, 13, 0), (13, .getfield 138, 16, 14), (16, .iload_n 2, 17, 0), (17, .invokestatic 72, 20, 30), (20, .ifCond .ne 23, 23, 43), (23, .aload_n 0, 24, 0), (24, .getfield 37, 27, 15), (27, .iload_n 2, 28, 0), (28, .aload_n 0, 29, 0), (29, .iload_n 2, 30, 0), (30, .invokevirtual 143, 33, 46), (33, .iastore, 34, 0), (34, .aload_n 0, 35, 0), (35, .iload_n 2, 36, 0), (36, .iload_n 1, 37, 0), (37, .invokevirtual 184, 40, 48), (40, .iinc 1 1, 43, 0), (43, .iinc 2 1, 46, 0), (46, .goto (-42), 49, 4), (49, .iload_n 1, 50, 0), (50, .ireturn, 51, 0)]
def pg48 : List PE := [(0, .iload_n 2, 1, 0), (1, .istore_n 3, 2, 0), (2, .iload_n 3, 3, 0), (3, .ifCond .le 39, 6, 42), (6, .aload_n 0, 7, 0), (7, .iload_n 1, 8, 0), (8, .aload_n 0, 9, 0), (9, .getfield 40, 12, 16), (12, .iload_n 3, 13, 0), (13, .iconst 1, 14, 0), (14, .isub, 15, 0), (15, .iaload, 16, 0), (16, .invokevirtual 187, 19, 49), (19, .ifCond .eq 23, 22, 42), (22, .aload_n 0, 23, 0), (23, .getfield 40, 26, 16), (26, .iload_n 3, 27, 0), (27, .aload_n 0, 28, 0), (28, .getfield 40, 31, 16), (31, .iload_n 3, 32, 0), (32, .iconst 1, 33, 0), (33, .isub, 34, 0), (34, .iaload, 35, 0), (35, .iastore, 36, 0), (36, .iinc 3 (-1), 39, 0), (39, .goto (-37), 42, 2), (42, .aload_n 0, 43, 0), (43, .getfield 40, 46, 16), (46, .iload_n 3, 47, 0), (47, .iload_n 1, 48, 0), (48, .iastore, 49, 0), (49, .return_, 50, 0)]
def pg49 : List PE := [(0, .aload_n 0, 1, 0), (1, .getfield 37, 4, 15), (4, .iload_n 1, 5, 0), (5, .iaload, 6, 0), (6, .aload_n 0, 7, 0), (7, .getfield 34, 10, 13), (10, .iload_n 2, 11, 0), (11, .iaload, 12, 0), (12, .imul, 13, 0), (13, .aload_n 0, 14, 0), (14, .getfield 37, 17, 15), (17, .iload_n 2, 18, 0), (18, .iaload, 19, 0), (19, .aload_n 0, 20, 0), (20, .getfield 34, 23, 13), (23, .iload_n 1, 24, 0), (24, .iaload, 25, 0), (25, .imul, 26, 0), (26, .if_icmp .le 7, 29, 33), (29, .iconst 1, 30, 0), (30, .goto 4, 33, 34), (33, .iconst 0, 34, 0), (34, .ireturn, 35, 0)]
def pg50 : List PE := [(0, .iload_n 1, 1, 0), (1, .aload_n 0, 2, 0), (2, .arraylength, 3, 0), (3, .if_icmp .ge 9, 6, 12), (6, .aload_n 0, 7, 0), (7, .iload_n 1, 8, 0), (8, .iaload, 9, 0), (9, .goto 16, 12, 25), (12, .sipush 281, 15, 0), (15, .iload_n 1, 16, 0), (16, .imul, 17, 0), (17, .sipush 163, 20, 0), (20, .iload_n 1, 21, 0), (21, .imul, 22, 0), (22, .iload_n 1, 23, 0), (23, .imul, 24, 0), (24, .iadd, 25, 0), (25, .istore_n 3, 26, 0), (26, .iload_n 3, 27, 0), (27, .ldc 7, 29, 2147483647), (29, .iand, 30, 0), (30, .iload_n 2, 31, 0), (31, .irem, 32, 0), (32, .ireturn, 33, 0)]
def pg51 : List PE := [(0, .iload_n 1, 1, 0), (1, .ifCond .ne 12, 4, 13), (4, .aload_n 0, 5, 0), (5, .iload_n 2, 6, 0), (6, .iload_n 3, 7, 0), (7, .invokevirtual 8, 10, 1), (10, .goto 93, 13, 103), (13, .iload_n 1, 14, 0), (14, .iconst 1, 15, 0), (15, .if_icmp .ne 12, 18, 27), (18, .aload_n 0, 19, 0), (19, .iload_n 2, 20, 0), (20, .iload_n 3, 21, 0), (21, .invokevirtual 14, 24, 2), (24, .goto 79, 27, 103), (27, .iload_n 1, 28, 0), (28, .iconst 2, 29, 0), (29, .if_icmp .ne 12, 32, 41), (32, .aload_n 0, 33, 0), (33, .iload_n 2, 34, 0), (34, .iload_n 3, 35, 0), (35, .invokevirtual 17, 38, 3), (38, .goto 65, 41, 103), (41, .iload_n 1, 42, 0), (42, .iconst 3, 43, 0), (43, .if_icmp .ne 11, 46, 54), (46, .aload_n 0, 47, 0), (47, .iload_n 2, 48, 0), (48, .invokevirtual 20, 51, 10), (51, .goto 52, 54, 103), (54, .iload_n 1, 55, 0), (55, .iconst 4, 56, 0), (56, .if_icmp .ne 12, 59, 68), (59, .aload_n 0, 60, 0), (60, .iload_n 2, 61, 0), (61, .iload_n 3, 62, 0), (62, .invokevirtual 24, 65, 11), (65, .goto 38, 68, 103), (68, .iload_n 1, 69, 0), (69, .iconst 5, 70, 0), (70, .if_icmp .ne 14, 73, 84), (73, .aload_n 0, 74, 0), (74, .iload_n 2, 75, 0), (75, .iload_n 3, 76, 0), (76, .iload 4, 78, 0), (78, .invokevirtual 27, 81, 19), (81, .goto 22, 84, 103), (84, .iload_n 1, 85, 0), (85, .bipush 6, 87, 0), (87, .if_icmp .ne 11, 90, 98), (90, .aload_n 0, 91, 0), (91, .iload_n 2, 92, 0), (92, .invokevirtual 31, 95, 20), (95, .goto 8, 98, 103), (98, .aload_n 0, 99, 0), (99, .iload_n 2, 100, 0), (100, .invokevirtual 34, 103, 8), (103, .ireturn, 104, 0), (104, .astore 5, 106, 0), (106, .bipush (-20), 108, 0), (108, .ireturn, 109, 0), (109, .astore 5, 111, 0), (111, .bipush (-30), 113, 0), (113, .ireturn, 114, 0), (114, .astore 5, 116, 0), (116, .bipush (-10), 118, 0), (118, .ireturn, 119, 0)]
def pg52 : List PE := [(0, .iload_n 1, 1, 0), (1, .ifCond .ne 11, 4, 12), (4, .aload_n 0, 5, 0), (5, .iload_n 2, 6, 0), (6, .invokevirtual 43, 9, 7), (9, .goto 131, 12, 140), (12, .iload_n 1, 13, 0), (13, .iconst 1, 14, 0), (14, .if_icmp .ne 11, 17, 25), (17, .aload_n 0, 18, 0), (18, .iload_n 2, 19, 0), (19, .invokevirtual 46, 22, 12), (22, .goto 118, 25, 140), (25, .iload_n 1, 26, 0), (26, .iconst 2, 27, 0), (27, .if_icmp .ne 11, 30, 38), (30, .aload_n 0, 31, 0), (31, .iload_n 2, 32, 0), (32, .invokevirtual 49, 35, 13), (35, .goto 105, 38, 140), (38, .iload_n 1, 39, 0), (39, .iconst 3, 40, 0), (40, .if_icmp .ne 11, 43, 51), (43, .aload_n 0, 44, 0), (44, .iload_n 2, 45, 0), (45, .invokevirtual 52, 48, 14), (48, .goto 92, 51, 140), (51, .iload_n 1, 52, 0), (52, .iconst 4, 53, 0), (53, .if_icmp .ne 11, 56, 64), (56, .aload_n 0, 57, 0), (57, .iload_n 2, 58, 0), (58, .invokevirtual 55, 61, 15), (61, .goto 79, 64, 140), (64, .iload_n 1, 65, 0), (65, .iconst 5, 66, 0), (66, .if_icmp .ne 11, 69, 77), (69, .aload_n 0, 70, 0), (70, .iload_n 2, 71, 0), (71, .invokevirtual 58, 74, 16), (74, .goto 66, 77, 140), (77, .iload_n 1, 78, 0), (78, .bipush 6, 80, 0), (80, .if_icmp .ne 12, 83, 92), (83, .aload_n 0, 84, 0), (84, .iload_n 2, 85, 0), (85, .iload_n 3, 86, 0), (86, .invokevirtual 61, 89, 17), (89, .goto 51, 92, 140), (92, .iload_n 1, 93, 0), (93, .bipush 7, 95, 0), (95, .if_icmp .ne 12, 98, 107), (98, .aload_n 0, 99, 0), (99, .iload_n 2, 100, 0), (100, .iload_n 3, 101, 0), (101, .invokevirtual 64, 104, 18), (104, .goto 36, 107, 140), (107, .iload_n 1, 108, 0), (108, .bipush 8, 110, 0), (110, .if_icmp .ne 11, 113, 121), (113, .aload_n 0, 114, 0), (114, .iload_n 2, 115, 0), (115, .invokevirtual 67, 118, 21), (118, .goto 22, 121, 140), (121, .iload_n 1, 122, 0), (122, .bipush 9, 124, 0), (124, .if_icmp .ne 11, 127, 135), (127, .aload_n 0, 128, 0), (128, .iload_n 2, 129, 0), (129, .invokevirtual 70, 132, 22), (132, .goto 8, 135, 140), (135, .aload_n 0, 136, 0), (136, .iload_n 2, 137, 0), (137, .invokevirtual 73, 140, 23), (140, .ireturn, 141, 0), (141, .astore 4, 143, 0), (143, .bipush (-20), 145, 0), (145, .ireturn, 146, 0), (146, .astore 4, 148, 0), (148, .bipush (-30), 150, 0), (150, .ireturn, 151, 0), (151, .astore 4, 153, 0), (153, .bipush (-10), 155, 0), (155, .ireturn, 156, 0)]
def pg53 : List PE := [(0, .iload_n 1, 1, 0), (1, .ifCond .ne 14, 4, 15), (4, .aload_n 0, 5, 0), (5, .iload_n 2, 6, 0), (6, .invokevirtual 76, 9, 4), (9, .ifCond .eq 34, 12, 43), (12, .goto 27, 15, 39), (15, .iload_n 1, 16, 0), (16, .iconst 1, 17, 0), (17, .if_icmp .ne 14, 20, 31), (20, .aload_n 0, 21, 0), (21, .iload_n 2, 22, 0), (22, .invokevirtual 80, 25, 5), (25, .ifCond .eq 18, 28, 43), (28, .goto 11, 31, 39), (31, .aload_n 0, 32, 0), (32, .iload_n 2, 33, 0), (33, .invokevirtual 83, 36, 6), (36, .ifCond .eq 7, 39, 43), (39, .iconst 1, 40, 0), (40, .goto 4, 43, 44), (43, .iconst 0, 44, 0), (44, .ireturn, 45, 0), (45, .astore_n 3, 46, 0), (46, .bipush (-30), 48, 0), (48, .ireturn, 49, 0)]
def pg54 : List PE := [(0, .iconst 0, 1, 0), (1, .istore_n 1, 2, 0), (2, .iconst 0, 3, 0), (3, .istore_n 2, 4, 0), (4, .iload_n 2, 5, 0), (5, .bipush 20, 7, 0), (7, .if_icmp .ge 17, 10, 24), (10, .iload_n 1, 11, 0), (11, .iload_n 0, 12, 0), (12, .iload_n 2, 13, 0), (13, .ishr, 14, 0), (14, .iconst 1, 15, 0), (15, .iand, 16, 0), (16, .iadd, 17, 0), (17, .istore_n 1, 18, 0), (18, .iinc 2 1, 21, 0), (21, .goto (-17), 24, 4), (24, .iload_n 1, 25, 0), (25, .ireturn, 26, 0)]
def pg55 : List PE := [(0, .iload_n 1, 1, 0), (1, .istore_n 3, 2, 0), (2, .iload_n 3, 3, 0), (3, .ifCond .le 15, 6, 18), (6, .iload_n 3, 7, 0), (7, .iload_n 2, 8, 0), (8, .if_icmp .eq 10, 11, 18), (11, .aload_n 0, 12, 0), (12, .iload_n 3, 13, 0), (13, .iaload, 14, 0), (14, .istore_n 3, 15, 0), (15, .goto (-13), 18, 2), (18, .iload_n 3, 19, 0), (19, .iload_n 2, 20, 0), (20, .if_icmp .ne 7, 23, 27), (23, .iconst 1, 24, 0), (24, .goto 4, 27, 28), (27, .iconst 0, 28, 0), (28, .ireturn, 29, 0)]
def pg56 : List PE := [(0, .iconst 0, 1, 0), (1, .istore 4, 3, 0), (3, .aload_n 0, 4, 0), (4, .iconst 0, 5, 0), (5, .aload_n 3, 6, 0), (6, .iconst 0, 7, 0), (7, .iaload, 8, 0), (8, .iconst 0, 9, 0), (9, .invokestatic 86, 12, 52), (12, .bipush (-30), 14, 0), (14, .if_icmp .ne 64, 17, 78), (17, .aload_n 0, 18, 0), (18, .iconst 2, 19, 0), (19, .iconst (-1), 20, 0), (20, .invokestatic 92, 23, 53), (23, .bipush (-30), 25, 0), (25, .if_icmp .ne 53, 28, 78), (28, .aload_n 0, 29, 0), (29, .iconst 0, 30, 0), (30, .invokevirtual 83, 33, 6), (33, .ifCond .eq 45, 36, 78), (36, .aload_n 0, 37, 0), (37, .bipush 7, 39, 0), (39, .iconst 0, 40, 0), (40, .iconst 0, 41, 0), (41, .iconst 0, 42, 0), (42, .invokestatic 96, 45, 51), (45, .bipush (-30), 47, 0), (47, .if_icmp .ne 31, 50, 78), (50, .aload_n 0, 51, 0), (51, .iconst 1, 52, 0), (52, .iconst 0, 53, 0), (53, .invokestatic 92, 56, 53), (56, .bipush (-30), 58, 0), (58, .if_icmp .ne 20, 61, 78), (61, .aload_n 0, 62, 0), (62, .iconst 0, 63, 0), (63, .aload_n 3, 64, 0), (64, .iconst 0, 65, 0), (65, .iaload, 66, 0), (66, .invokestatic 92, 69, 53), (69, .bipush (-30), 71, 0), (71, .if_icmp .ne 7, 74, 78), (74, .iconst 1, 75, 0), (75, .goto 4, 78, 79), (78, .iconst 0, 79, 0), (79, .istore 5, 81, 0), (81, .iconst 0, 82, 0), (82, .istore 6, 84, 0), (84, .iload 6, 86, 0), (86, .aload_n 3, 87, 0), (87, .iconst 0, 88, 0), (88, .iaload, 89, 0), (89, .if_icmp .ge 204, 92, 293), (92, .iload 5, 94, 0), (94, .ifCond .eq 199, 97, 293), (97, .iload 6, 99, 0), (99, .ifCond .eq 24, 102, 123), (102, .aload_n 0, 103, 0), (103, .aload_n 1, 104, 0), (104, .iload 6, 106, 0), (106, .iaload, 107, 0), (107, .invokevirtual 83, 110, 6), (110, .ifCond .eq 17, 113, 127), (113, .aload_n 2, 114, 0), (114, .bipush 16, 116, 0), (116, .iload 6, 118, 0), (118, .iadd, 119, 0), (119, .iaload, 120, 0), (120, .ifCond .ne 7, 123, 127), (123, .iconst 1, 124, 0), (124, .goto 4, 127, 128), (127, .iconst 0, 128, 0), (128, .istore 7, 130, 0), (130, .aload_n 0, 131, 0), (131, .iload 6, 133, 0), (133, .invokevirtual 43, 136, 7), (136, .istore 8, 138, 0), (138, .aload_n 0, 139, 0), (139, .iload 6, 141, 0), (141, .invokevirtual 83, 144, 6), (144, .iload 7, 146, 0), (146, .if_icmp .ne 29, 149, 175), (149, .iload 7, 151, 0), (151, .ifCond .eq 15, 154, 166), (154, .iload 8, 156, 0), (156, .aload_n 2, 157, 0), (157, .iload 6, 159, 0), (159, .iaload, 160, 0), (160, .if_icmp .lt 15, 163, 175), (163, .goto 8, 166, 171), (166, .iload 8, 168, 0), (168, .ifCond .ne 7, 171, 175), (171, .iconst 1, 172, 0), (172, .goto 4, 175, 176), (175, .iconst 0, 176, 0), (176, .istore 5, 178, 0), (178, .iload 4, 180, 0), (180, .iload 8, 182, 0), (182, .iadd, 183, 0), (183, .istore 4, 185, 0), (185, .iload 8, 187, 0), (187, .istore 9, 189, 0), (189, .iconst 0, 190, 0), (190, .istore 10, 192, 0), (192, .iload 10, 194, 0), (194, .aload_n 3, 195, 0), (195, .iconst 0, 196, 0), (196, .iaload, 197, 0), (197, .if_icmp .ge 42, 200, 239), (200, .iload 9, 202, 0), (202, .iload 10, 204, 0), (204, .iload 6, 206, 0), (206, .if_icmp .eq 23, 209, 229), (209, .aload_n 1, 210, 0), (210, .iload 10, 212, 0), (212, .iload 6, 214, 0), (214, .invokestatic 100, 217, 55), (217, .ifCond .eq 12, 220, 229), (220, .aload_n 0, 221, 0), (221, .iload 10, 223, 0), (223, .invokevirtual 43, 226, 7), (226, .goto 4, 229, 230), (229, .iconst 0, 230, 0), (230, .iadd, 231, 0), (231, .istore 9, 233, 0), (233, .iinc 10 1, 236, 0), (236, .goto (-44), 239, 192), (239, .iload 5, 241, 0), (241, .ifCond .eq 43, 244, 284), (244, .iload 6, 246, 0), (246, .ifCond .eq 34, 249, 280), (249, .aload_n 0, 250, 0), (250, .bipush 7, 252, 0), (252, .iload 6, 254, 0), (254, .iconst 0, 255, 0), (255, .iconst 0, 256, 0), (256, .invokestatic 96, 259, 51), (259, .aload_n 2, 260, 0), (260, .bipush 32, 262, 0), (262, .iload 6, 264, 0), (264, .iadd, 265, 0), (265, .iaload, 266, 0), (266, .iconst 1, 267, 0), (267, .if_icmp .ne 8, 270, 275), (270, .iload 9, 272, 0), (272, .goto 5, 275, 277), (275, .bipush (-10), 277, 0), (277, .if_icmp .ne 7, 280, 284), (280, .iconst 1, 281, 0), (281, .goto 4, 284, 285), (284, .iconst 0, 285, 0), (285, .istore 5, 287, 0), (287, .iinc 6 1, 290, 0), (290, .goto (-206), 293, 84), (293, .iload 5, 295, 0), (295, .ifCond .eq 16, 298, 311), (298, .aload_n 0, 299, 0), (299, .invokevirtual 104, 302, 9), (302, .iload 4, 304, 0), (304, .if_icmp .ne 7, 307, 311), (307, .iconst 1, 308, 0), (308, .goto 4, 311, 312), (311, .iconst 0, 312, 0), (312, .ireturn, 313, 0)]
def pg57 : List PE := [(0, .iconst 0, 1, 0), (1, .istore 6, 3, 0), (3, .iconst 0, 4, 0), (4, .istore 7, 6, 0), (6, .iconst 0, 7, 0), (7, .istore 8, 9, 0), (9, .iconst 0, 10, 0), (10, .istore 9, 12, 0), (12, .aload_n 3, 13, 0), (13, .iload 5, 15, 0), (15, .iaload, 16, 0), (16, .ifCond .eq 16, 19, 32), (19, .aload_n 2, 20, 0), (20, .bipush 32, 22, 0), (22, .aload_n 3, 23, 0), (23, .iload 5, 25, 0), (25, .iaload, 26, 0), (26, .iadd, 27, 0), (27, .iaload, 28, 0), (28, .iconst 1, 29, 0), (29, .if_icmp .ne 7, 32, 36), (32, .iconst 1, 33, 0), (33, .goto 4, 36, 37), (36, .iconst 0, 37, 0), (37, .istore 10, 39, 0), (39, .iconst 0, 40, 0), (40, .istore 11, 42, 0), (42, .iload 11, 44, 0), (44, .aload 4, 46, 0), (46, .iconst 0, 47, 0), (47, .iaload, 48, 0), (48, .if_icmp .ge 292, 51, 340), (51, .aload_n 1, 52, 0), (52, .iload 11, 54, 0), (54, .aload_n 3, 55, 0), (55, .iload 5, 57, 0), (57, .iaload, 58, 0), (58, .invokestatic 100, 61, 55), (61, .istore 12, 63, 0), (63, .iload 12, 65, 0), (65, .ifCond .eq 23, 68, 88), (68, .aload_n 3, 69, 0), (69, .bipush 8, 71, 0), (71, .iload 5, 73, 0), (73, .iadd, 74, 0), (74, .iaload, 75, 0), (75, .iload 11, 77, 0), (77, .ishr, 78, 0), (78, .iconst 1, 79, 0), (79, .iand, 80, 0), (80, .iconst 1, 81, 0), (81, .if_icmp .ne 7, 84, 88), (84, .iconst 1, 85, 0), (85, .goto 4, 88, 89), (88, .iconst 0, 89, 0), (89, .istore 13, 91, 0), (91, .iconst 0, 92, 0), (92, .istore 14, 94, 0), (94, .iload 14, 96, 0), (96, .aload 4, 98, 0), (98, .iconst 0, 99, 0), (99, .iaload, 100, 0), (100, .if_icmp .ge 95, 103, 195), (103, .aload_n 3, 104, 0), (104, .bipush 8, 106, 0), (106, .iload 5, 108, 0), (108, .iadd, 109, 0), (109, .iaload, 110, 0), (110, .iload 14, 112, 0), (112, .ishr, 113, 0), (113, .iconst 1, 114, 0), (114, .iand, 115, 0), (115, .iconst 1, 116, 0), (116, .if_icmp .ne 7, 119, 123), (119, .iconst 1, 120, 0), (120, .goto 4, 123, 124), (123, .iconst 0, 124, 0), (124, .istore 15, 126, 0), (126, .iload 12, 128, 0), (128, .ifCond .eq 23, 131, 151), (131, .iload 15, 133, 0), (133, .ifCond .eq 14, 136, 147), (136, .aload_n 1, 137, 0), (137, .iload 11, 139, 0), (139, .iload 14, 141, 0), (141, .invokestatic 100, 144, 55), (144, .ifCond .ne 7, 147, 151), (147, .iconst 1, 148, 0), (148, .goto 4, 151, 152), (151, .iconst 0, 152, 0), (152, .istore 12, 154, 0), (154, .iload 13, 156, 0), (156, .ifCond .eq 30, 159, 186), (159, .iload 14, 161, 0), (161, .iload 11, 163, 0), (163, .if_icmp .eq 19, 166, 182), (166, .iload 15, 168, 0), (168, .ifCond .eq 14, 171, 182), (171, .aload_n 1, 172, 0), (172, .iload 11, 174, 0), (174, .iload 14, 176, 0), (176, .invokestatic 100, 179, 55), (179, .ifCond .ne 7, 182, 186), (182, .iconst 1, 183, 0), (183, .goto 4, 186, 187), (186, .iconst 0, 187, 0), (187, .istore 13, 189, 0), (189, .iinc 14 1, 192, 0), (192, .goto (-98), 195, 94), (195, .iload 10, 197, 0), (197, .ifCond .eq 23, 200, 220), (200, .iload 13, 202, 0), (202, .ifCond .eq 14, 205, 216), (205, .aload_n 2, 206, 0), (206, .bipush 32, 208, 0), (208, .iload 11, 210, 0), (210, .iadd, 211, 0), (211, .iaload, 212, 0), (212, .iconst 1, 213, 0), (213, .if_icmp .ne 7, 216, 220), (216, .iconst 1, 217, 0), (217, .goto 4, 220, 221), (220, .iconst 0, 221, 0), (221, .istore 10, 223, 0), (223, .iload 6, 225, 0), (225, .iload 12, 227, 0), (227, .ifCond .eq 10, 230, 237), (230, .iconst 1, 231, 0), (231, .iload 11, 233, 0), (233, .ishl, 234, 0), (234, .goto 4, 237, 238), (237, .iconst 0, 238, 0), (238, .ior, 239, 0), (239, .istore 6, 241, 0), (241, .iload 7, 243, 0), (243, .iload 12, 245, 0), (245, .ifCond .eq 12, 248, 257), (248, .aload_n 0, 249, 0), (249, .iload 11, 251, 0), (251, .invokevirtual 43, 254, 7), (254, .goto 4, 257, 258), (257, .iconst 0, 258, 0), (258, .iadd, 259, 0), (259, .istore 7, 261, 0), (261, .iload 8, 263, 0), (263, .iload 12, 265, 0), (265, .ifCond .eq 26, 268, 291), (268, .aload_n 0, 269, 0), (269, .iload 11, 271, 0), (271, .invokevirtual 83, 274, 6), (274, .ifCond .eq 17, 277, 291), (277, .aload_n 0, 278, 0), (278, .iload 11, 280, 0), (280, .invokevirtual 43, 283, 7), (283, .aload_n 2, 284, 0), (284, .iload 11, 286, 0), (286, .iaload, 287, 0), (287, .isub, 288, 0), (288, .goto 4, 291, 292), (291, .iconst 0, 292, 0), (292, .iadd, 293, 0), (293, .istore 8, 295, 0), (295, .iload 9, 297, 0), (297, .iload 12, 299, 0), (299, .ifCond .eq 31, 302, 330), (302, .iload 11, 304, 0), (304, .aload_n 3, 305, 0), (305, .iload 5, 307, 0), (307, .iaload, 308, 0), (308, .if_icmp .eq 22, 311, 330), (311, .aload_n 2, 312, 0), (312, .bipush 16, 314, 0), (314, .iload 11, 316, 0), (316, .iadd, 317, 0), (317, .iaload, 318, 0), (318, .ifCond .ne 12, 321, 330), (321, .iload 11, 323, 0), (323, .ifCond .le 7, 326, 330), (326, .iconst 1, 327, 0), (327, .goto 4, 330, 331), (330, .iconst 0, 331, 0), (331, .iadd, 332, 0), (332, .istore 9, 334, 0), (334, .iinc 11 1, 337, 0), (337, .goto (-295), 340, 42), (340, .aload_n 0, 341, 0), (341, .iload 5, 343, 0), (343, .invokevirtual 46, 346, 12), (346, .iload 6, 348, 0), (348, .if_icmp .ne 92, 351, 440), (351, .aload_n 0, 352, 0), (352, .iload 5, 354, 0), (354, .invokevirtual 52, 357, 14), (357, .iload 7, 359, 0), (359, .if_icmp .ne 81, 362, 440), (362, .aload_n 0, 363, 0), (363, .iload 5, 365, 0), (365, .invokevirtual 55, 368, 15), (368, .iload 8, 370, 0), (370, .if_icmp .ne 70, 373, 440), (373, .aload_n 0, 374, 0), (374, .iconst 2, 375, 0), (375, .iload 5, 377, 0), (377, .iconst 0, 378, 0), (378, .invokestatic 86, 381, 52), (381, .iload 10, 383, 0), (383, .ifCond .eq 8, 386, 391), (386, .iload 7, 388, 0), (388, .goto 5, 391, 393), (391, .bipush (-10), 393, 0), (393, .if_icmp .ne 47, 396, 440), (396, .aload_n 0, 397, 0), (397, .iload 5, 399, 0), (399, .invokevirtual 58, 402, 16), (402, .iload 9, 404, 0), (404, .if_icmp .ne 36, 407, 440), (407, .aload_n 0, 408, 0), (408, .bipush 6, 410, 0), (410, .iload 5, 412, 0), (412, .iload 9, 414, 0), (414, .invokestatic 86, 417, 52), (417, .bipush (-30), 419, 0), (419, .if_icmp .ne 21, 422, 440), (422, .aload_n 0, 423, 0), (423, .bipush 7, 425, 0), (425, .iload 5, 427, 0), (427, .iconst (-1), 428, 0), (428, .invokestatic 86, 431, 52), (431, .bipush (-30), 433, 0), (433, .if_icmp .ne 7, 436, 440), (436, .iconst 1, 437, 0), (437, .goto 4, 440, 441), (440, .iconst 0, 441, 0), (441, .istore 11, 443, 0), (443, .iconst 0, 444, 0), (444, .istore 12, 446, 0), (446, .bipush 16, 448, 0), (448, .istore 13, 450, 0), (450, .iconst 0, 451, 0), (451, .istore 14, 453, 0), (453, .iload 14, 455, 0), (455, .iload 9, 457, 0), (457, .if_icmp .ge 106, 460, 563), (460, .iload 11, 462, 0), (462, .ifCond .eq 101, 465, 563), (465, .aload_n 0, 466, 0), (466, .iload 5, 468, 0), (468, .iload 14, 470, 0), (470, .invokevirtual 61, 473, 17), (473, .istore 15, 475, 0), (475, .aload_n 0, 476, 0), (476, .iload 5, 478, 0), (478, .iload 14, 480, 0), (480, .invokevirtual 64, 483, 18), (483, .istore 16, 485, 0), (485, .iload 15, 487, 0), (487, .iload 13, 489, 0), (489, .if_icmp .ge 54, 492, 543), (492, .iload 15, 494, 0), (494, .ifCond .le 49, 497, 543), (497, .iload 15, 499, 0), (499, .aload_n 3, 500, 0), (500, .iload 5, 502, 0), (502, .iaload, 503, 0), (503, .if_icmp .eq 40, 506, 543), (506, .iload 6, 508, 0), (508, .iload 15, 510, 0), (510, .ishr, 511, 0), (511, .iconst 1, 512, 0), (512, .iand, 513, 0), (513, .iconst 1, 514, 0), (514, .if_icmp .ne 29, 517, 543), (517, .aload_n 2, 518, 0), (518, .bipush 16, 520, 0), (520, .iload 15, 522, 0), (522, .iadd, 523, 0), (523, .iaload, 524, 0), (524, .ifCond .ne 19, 527, 543), (527, .iload 16, 529, 0), (529, .ifCond .lt 14, 532, 543), (532, .iload 16, 534, 0), (534, .iload 7, 536, 0), (536, .if_icmp .gt 7, 539, 543), (539, .iconst 1, 540, 0), (540, .goto 4, 543, 544), (543, .iconst 0, 544, 0), (544, .istore 11, 546, 0), (546, .iload 15, 548, 0), (548, .istore 13, 550, 0), (550, .iload 12, 552, 0), (552, .iload 16, 554, 0), (554, .iadd, 555, 0), (555, .istore 12, 557, 0), (557, .iinc 14 1, 560, 0), (560, .goto (-107), 563, 453), (563, .iload 11, 565, 0), (565, .ifCond .eq 23, 568, 588), (568, .iload 12, 570, 0), (570, .iload 7, 572, 0), (572, .aload_n 0, 573, 0), (573, .aload_n 3, 574, 0), (574, .iload 5, 576, 0), (576, .iaload, 577, 0), (577, .invokevirtual 43, 580, 7), (580, .isub, 581, 0), (581, .if_icmp .ne 7, 584, 588), (584, .iconst 1, 585, 0), (585, .goto 4, 588, 589), (588, .iconst 0, 589, 0), (589, .ireturn, 590, 0)]
def pg58 : List PE := [(0, .iconst 0, 1, 0), (1, .istore_n 3, 2, 0), (2, .iconst 0, 3, 0), (3, .istore 4, 5, 0), (5, .aload_n 0, 6, 0), (6, .bipush 8, 8, 0), (8, .aload_n 2, 9, 0), (9, .iconst 2, 10, 0), (10, .iaload, 11, 0), (11, .iconst 0, 12, 0), (12, .invokestatic 86, 15, 52), (15, .bipush (-30), 17, 0), (17, .if_icmp .ne 36, 20, 53), (20, .aload_n 0, 21, 0), (21, .bipush 9, 23, 0), (23, .iconst (-1), 24, 0), (24, .iconst 0, 25, 0), (25, .invokestatic 86, 28, 52), (28, .bipush (-30), 30, 0), (30, .if_icmp .ne 23, 33, 53), (33, .aload_n 0, 34, 0), (34, .bipush 6, 36, 0), (36, .aload_n 2, 37, 0), (37, .iconst 2, 38, 0), (38, .iaload, 39, 0), (39, .iconst 0, 40, 0), (40, .iconst 0, 41, 0), (41, .invokestatic 96, 44, 51), (44, .bipush (-30), 46, 0), (46, .if_icmp .ne 7, 49, 53), (49, .iconst 1, 50, 0), (50, .goto 4, 53, 54), (53, .iconst 0, 54, 0), (54, .istore 5, 56, 0), (56, .iconst 0, 57, 0), (57, .istore 6, 59, 0), (59, .iload 6, 61, 0), (61, .aload_n 2, 62, 0), (62, .iconst 2, 63, 0), (63, .iaload, 64, 0), (64, .if_icmp .ge 88, 67, 152), (67, .iload 5, 69, 0), (69, .ifCond .eq 83, 72, 152), (72, .aload_n 0, 73, 0), (73, .iload 6, 75, 0), (75, .invokevirtual 67, 78, 21), (78, .istore 7, 80, 0), (80, .iload 7, 82, 0), (82, .ifCond .lt 41, 85, 123), (85, .aload_n 1, 86, 0), (86, .iconst 3, 87, 0), (87, .iload 6, 89, 0), (89, .imul, 90, 0), (90, .iconst 2, 91, 0), (91, .iadd, 92, 0), (92, .iaload, 93, 0), (93, .ifCond .eq 8, 96, 101), (96, .iload 7, 98, 0), (98, .ifCond .ne 25, 101, 123), (101, .aload_n 0, 102, 0), (102, .aload_n 1, 103, 0), (103, .iconst 3, 104, 0), (104, .iload 6, 106, 0), (106, .imul, 107, 0), (107, .iaload, 108, 0), (108, .invokevirtual 83, 111, 6), (111, .ifCond .ne 8, 114, 119), (114, .iload 7, 116, 0), (116, .ifCond .ne 7, 119, 123), (119, .iconst 1, 120, 0), (120, .goto 4, 123, 124), (123, .iconst 0, 124, 0), (124, .istore 5, 126, 0), (126, .iload_n 3, 127, 0), (127, .iconst 1, 128, 0), (128, .aload_n 1, 129, 0), (129, .iconst 3, 130, 0), (130, .iload 6, 132, 0), (132, .imul, 133, 0), (133, .iconst 2, 134, 0), (134, .iadd, 135, 0), (135, .iaload, 136, 0), (136, .isub, 137, 0), (137, .iadd, 138, 0), (138, .istore_n 3, 139, 0), (139, .iload 4, 141, 0), (141, .iload 7, 143, 0), (143, .iadd, 144, 0), (144, .istore 4, 146, 0), (146, .iinc 6 1, 149, 0), (149, .goto (-90), 152, 59), (152, .iconst (-1), 153, 0), (153, .istore 6, 155, 0), (155, .iconst 0, 156, 0), (156, .istore 7, 158, 0), (158, .iconst 0, 159, 0), (159, .istore 8, 161, 0), (161, .iconst 0, 162, 0), (162, .istore 9, 164, 0), (164, .iconst 0, 165, 0), (165, .istore 10, 167, 0), (167, .iconst 0, 168, 0), (168, .istore 11, 170, 0), (170, .iload 11, 172, 0), (172, .iload_n 3, 173, 0), (173, .if_icmp .ge 216, 176, 389), (176, .iload 5, 178, 0), (178, .ifCond .eq 211, 181, 389), (181, .aload_n 0, 182, 0), (182, .bipush 9, 184, 0), (184, .iload 11, 186, 0), (186, .iconst 0, 187, 0), (187, .invokestatic 86, 190, 52), (190, .istore 12, 192, 0), (192, .iload 12, 194, 0), (194, .ifCond .lt 36, 197, 230), (197, .iload 12, 199, 0), (199, .aload_n 2, 200, 0), (200, .iconst 2, 201, 0), (201, .iaload, 202, 0), (202, .if_icmp .ge 28, 205, 230), (205, .aload_n 1, 206, 0), (206, .iconst 3, 207, 0), (207, .iload 12, 209, 0), (209, .imul, 210, 0), (210, .iconst 2, 211, 0), (211, .iadd, 212, 0), (212, .iaload, 213, 0), (213, .ifCond .ne 17, 216, 230), (216, .iload 7, 218, 0), (218, .iload 12, 220, 0), (220, .ishr, 221, 0), (221, .iconst 1, 222, 0), (222, .iand, 223, 0), (223, .ifCond .ne 7, 226, 230), (226, .iconst 1, 227, 0), (227, .goto 4, 230, 231), (230, .iconst 0, 231, 0), (231, .istore 5, 233, 0), (233, .iload 5, 235, 0), (235, .ifCond .eq 76, 238, 311), (238, .iload 6, 240, 0), (240, .ifCond .lt 71, 243, 311), (243, .aload_n 0, 244, 0), (244, .iload 6, 246, 0), (246, .invokevirtual 67, 249, 21), (249, .i2l, 250, 0), (250, .aload_n 1, 251, 0), (251, .iconst 3, 252, 0), (252, .iload 12, 254, 0), (254, .imul, 255, 0), (255, .iconst 1, 256, 0), (256, .iadd, 257, 0), (257, .iaload, 258, 0), (258, .i2l, 259, 0), (259, .lmul, 260, 0), (260, .lstore 13, 262, 0), (262, .aload_n 0, 263, 0), (263, .iload 12, 265, 0), (265, .invokevirtual 67, 268, 21), (268, .i2l, 269, 0), (269, .aload_n 1, 270, 0), (270, .iconst 3, 271, 0), (271, .iload 6, 273, 0), (273, .imul, 274, 0), (274, .iconst 1, 275, 0), (275, .iadd, 276, 0), (276, .iaload, 277, 0), (277, .i2l, 278, 0), (278, .lmul, 279, 0), (279, .lstore 15, 281, 0), (281, .lload 13, 283, 0), (283, .lload 15, 285, 0), (285, .lcmp, 286, 0), (286, .ifCond .gt 18, 289, 304), (289, .lload 13, 291, 0), (291, .lload 15, 293, 0), (293, .lcmp, 294, 0), (294, .ifCond .ne 14, 297, 308), (297, .iload 6, 299, 0), (299, .iload 12, 301, 0), (301, .if_icmp .ge 7, 304, 308), (304, .iconst 1, 305, 0), (305, .goto 4, 308, 309), (308, .iconst 0, 309, 0), (309, .istore 5, 311, 0), (311, .iload 5, 313, 0), (313, .ifCond .eq 66, 316, 379), (316, .iload 7, 318, 0), (318, .iconst 1, 319, 0), (319, .iload 12, 321, 0), (321, .ishl, 322, 0), (322, .ior, 323, 0), (323, .istore 7, 325, 0), (325, .aload_n 1, 326, 0), (326, .iconst 3, 327, 0), (327, .iload 12, 329, 0), (329, .imul, 330, 0), (330, .iconst 1, 331, 0), (331, .iadd, 332, 0), (332, .iaload, 333, 0), (333, .istore 8, 335, 0), (335, .iload 10, 337, 0), (337, .iload 9, 339, 0), (339, .iload 8, 341, 0), (341, .iadd, 342, 0), (342, .bipush 60, 344, 0), (344, .if_icmp .gt 10, 347, 354), (347, .iconst 1, 348, 0), (348, .iload 12, 350, 0), (350, .ishl, 351, 0), (351, .goto 4, 354, 355), (354, .iconst 0, 355, 0), (355, .ior, 356, 0), (356, .istore 10, 358, 0), (358, .iload 9, 360, 0), (360, .iload 9, 362, 0), (362, .iload 8, 364, 0), (364, .iadd, 365, 0), (365, .bipush 60, 367, 0), (367, .if_icmp .gt 8, 370, 375), (370, .iload 8, 372, 0), (372, .goto 4, 375, 376), (375, .iconst 0, 376, 0), (376, .iadd, 377, 0), (377, .istore 9, 379, 0), (379, .iload 12, 381, 0), (381, .istore 6, 383, 0), (383, .iinc 11 1, 386, 0), (386, .goto (-216), 389, 170), (389, .iload 5, 391, 0), (391, .ifCond .eq 100, 394, 491), (394, .aload_n 0, 395, 0), (395, .bipush 9, 397, 0), (397, .iload_n 3, 398, 0), (398, .iconst 0, 399, 0), (399, .invokestatic 86, 402, 52), (402, .bipush (-30), 404, 0), (404, .if_icmp .ne 87, 407, 491), (407, .aload_n 0, 408, 0), (408, .bipush 60, 410, 0), (410, .invokevirtual 73, 413, 23), (413, .iload 10, 415, 0), (415, .if_icmp .ne 76, 418, 491), (418, .aload_n 0, 419, 0), (419, .iconst 0, 420, 0), (420, .invokevirtual 73, 423, 23), (423, .ifCond .ne 68, 426, 491), (426, .aload_n 0, 427, 0), (427, .sipush 1000, 430, 0), (430, .invokevirtual 73, 433, 23), (433, .invokestatic 108, 436, 54), (436, .iload_n 3, 437, 0), (437, .if_icmp .gt 54, 440, 491), (440, .iload_n 3, 441, 0), (441, .bipush 10, 443, 0), (443, .if_icmp .gt 17, 446, 460), (446, .aload_n 0, 447, 0), (447, .sipush 1000, 450, 0), (450, .invokevirtual 73, 453, 23), (453, .invokestatic 108, 456, 54), (456, .iload_n 3, 457, 0), (457, .if_icmp .ne 34, 460, 491), (460, .aload_n 0, 461, 0), (461, .bipush 10, 463, 0), (463, .sipush 1001, 466, 0), (466, .iconst 0, 467, 0), (467, .invokestatic 86, 470, 52), (470, .bipush (-20), 472, 0), (472, .if_icmp .ne 19, 475, 491), (475, .iload 4, 477, 0), (477, .aload_n 0, 478, 0), (478, .invokevirtual 104, 481, 9), (481, .bipush 20, 483, 0), (483, .iadd, 484, 0), (484, .if_icmp .gt 7, 487, 491), (487, .iconst 1, 488, 0), (488, .goto 4, 491, 492), (491, .iconst 0, 492, 0), (492, .ireturn, 493, 0)]
def pg59 : List PE := [(0, .iload 4, 2, 0), (2, .aload_n 3, 3, 0), (3, .iconst 0, 4, 0), (4, .iaload, 5, 0), (5, .iconst 1, 6, 0), (6, .iadd, 7, 0), (7, .irem, 8, 0), (8, .istore 6, 10, 0), (10, .iload 5, 12, 0), (12, .bipush 7, 14, 0), (14, .irem, 15, 0), (15, .ifCond .ne 9, 18, 24), (18, .sipush 10001, 21, 0), (21, .goto 5, 24, 26), (24, .iload 5, 26, 0), (26, .istore 7, 28, 0), (28, .iload 7, 30, 0), (30, .sipush 10000, 33, 0), (33, .if_icmp .le 8, 36, 41), (36, .bipush (-20), 38, 0), (38, .goto 32, 41, 70), (41, .iload 6, 43, 0), (43, .aload_n 3, 44, 0), (44, .iconst 0, 45, 0), (45, .iaload, 46, 0), (46, .if_icmp .ne 8, 49, 54), (49, .bipush (-30), 51, 0), (51, .goto 19, 54, 70), (54, .aload_n 3, 55, 0), (55, .iconst 0, 56, 0), (56, .iaload, 57, 0), (57, .bipush 16, 59, 0), (59, .if_icmp .ne 8, 62, 67), (62, .bipush (-10), 64, 0), (64, .goto 6, 67, 70), (67, .aload_n 3, 68, 0), (68, .iconst 0, 69, 0), (69, .iaload, 70, 0), (70, .istore 8, 72, 0), (72, .iload 8, 74, 0), (74, .ifCond .lt 22, 77, 96), (77, .aload_n 1, 78, 0), (78, .iload 8, 80, 0), (80, .iload 6, 82, 0), (82, .iastore, 83, 0), (83, .aload_n 2, 84, 0), (84, .iload 8, 86, 0), (86, .iload 7, 88, 0), (88, .iastore, 89, 0), (89, .aload_n 3, 90, 0), (90, .iconst 0, 91, 0), (91, .dup2, 92, 0), (92, .iaload, 93, 0), (93, .iconst 1, 94, 0), (94, .iadd, 95, 0), (95, .iastore, 96, 0), (96, .aload_n 0, 97, 0), (97, .iconst 0, 98, 0), (98, .iload 6, 100, 0), (100, .iload 7, 102, 0), (102, .iconst 0, 103, 0), (103, .invokestatic 96, 106, 51), (106, .iload 8, 108, 0), (108, .if_icmp .ne 7, 111, 115), (111, .iconst 1, 112, 0), (112, .goto 4, 115, 116), (115, .iconst 0, 116, 0), (116, .ireturn, 117, 0)]
def pg60 : List PE := [(0, .iload_n 3, 1, 0), (1, .aload_n 1, 2, 0), (2, .iconst 0, 3, 0), (3, .iaload, 4, 0), (4, .iconst 1, 5, 0), (5, .iadd, 6, 0), (6, .irem, 7, 0), (7, .istore 5, 9, 0), (9, .iload_n 2, 10, 0), (10, .ifCond .eq 13, 13, 23), (13, .iload 4, 15, 0), (15, .bipush 104, 17, 0), (17, .irem, 18, 0), (18, .iconst 2, 19, 0), (19, .isub, 20, 0), (20, .goto 19, 23, 39), (23, .iload 4, 25, 0), (25, .bipush 11, 27, 0), (27, .irem, 28, 0), (28, .ifCond .ne 9, 31, 37), (31, .sipush 10001, 34, 0), (34, .goto 5, 37, 39), (37, .iload 4, 39, 0), (39, .istore 6, 41, 0), (41, .iload_n 2, 42, 0), (42, .ifCond .eq 25, 45, 67), (45, .iload 6, 47, 0), (47, .bipush (-2), 49, 0), (49, .if_icmp .le 14, 52, 63), (52, .iload 6, 54, 0), (54, .bipush 101, 56, 0), (56, .if_icmp .ge 7, 59, 63), (59, .iconst 1, 60, 0), (60, .goto 20, 63, 80), (63, .iconst 0, 64, 0), (64, .goto 16, 67, 80), (67, .iload 6, 69, 0), (69, .sipush 10001, 72, 0), (72, .if_icmp .ge 7, 75, 79), (75, .iconst 1, 76, 0), (76, .goto 4, 79, 80), (79, .iconst 0, 80, 0), (80, .istore 7, 82, 0), (82, .iload 5, 84, 0), (84, .aload_n 1, 85, 0), (85, .iconst 0, 86, 0), (86, .iaload, 87, 0), (87, .if_icmp .ge 16, 90, 103), (90, .iload_n 2, 91, 0), (91, .ifCond .eq 8, 94, 99), (94, .iload 5, 96, 0), (96, .ifCond .le 7, 99, 103), (99, .iconst 1, 100, 0), (100, .goto 4, 103, 104), (103, .iconst 0, 104, 0), (104, .istore 8, 106, 0), (106, .aload_n 0, 107, 0), (107, .iload_n 2, 108, 0), (108, .ifCond .eq 7, 111, 115), (111, .iconst 2, 112, 0), (112, .goto 4, 115, 116), (115, .iconst 1, 116, 0), (116, .iload 5, 118, 0), (118, .iload 6, 120, 0), (120, .iconst 0, 121, 0), (121, .invokestatic 96, 124, 51), (124, .istore 9, 126, 0), (126, .iload 7, 128, 0), (128, .ifCond .eq 8, 131, 136), (131, .iload 8, 133, 0), (133, .ifCond .ne 26, 136, 159), (136, .iload 9, 138, 0), (138, .iload 7, 140, 0), (140, .ifCond .eq 8, 143, 148), (143, .bipush (-30), 145, 0), (145, .goto 5, 148, 150), (148, .bipush (-20), 150, 0), (150, .if_icmp .ne 7, 153, 157), (153, .iconst 1, 154, 0), (154, .goto 4, 157, 158), (157, .iconst 0, 158, 0), (158, .ireturn, 159, 0), (159, .iload_n 2, 160, 0), (160, .ifCond .eq 43, 163, 203), (163, .iload 6, 165, 0), (165, .ifCond .ge 23, 168, 188), (168, .iload 9, 170, 0), (170, .ifCond .lt 14, 173, 184), (173, .iload 9, 175, 0), (175, .bipush 100, 177, 0), (177, .if_icmp .gt 7, 180, 184), (180, .iconst 1, 181, 0), (181, .goto 47, 184, 228), (184, .iconst 0, 185, 0), (185, .goto 43, 188, 228), (188, .iload 9, 190, 0), (190, .iload 6, 192, 0), (192, .if_icmp .ne 7, 195, 199), (195, .iconst 1, 196, 0), (196, .goto 32, 199, 228), (199, .iconst 0, 200, 0), (200, .goto 28, 203, 228), (203, .iload 9, 205, 0), (205, .ifCond .lt 22, 208, 227), (208, .aload_n 0, 209, 0), (209, .iconst 1, 210, 0), (210, .iload 5, 212, 0), (212, .iload 6, 214, 0), (214, .iconst 0, 215, 0), (215, .invokestatic 96, 218, 51), (218, .iload 9, 220, 0), (220, .if_icmp .ne 7, 223, 227), (223, .iconst 1, 224, 0), (224, .goto 4, 227, 228), (227, .iconst 0, 228, 0), (228, .ireturn, 229, 0)]
def pg61 : List PE := [(0, .iload 4, 2, 0), (2, .aload_n 3, 3, 0), (3, .iconst 1, 4, 0), (4, .iaload, 5, 0), (5, .if_icmp .ge 15, 8, 20), (8, .iload 5, 10, 0), (10, .aload_n 3, 11, 0), (11, .iconst 0, 12, 0), (12, .iaload, 13, 0), (13, .if_icmp .ge 7, 16, 20), (16, .iconst 1, 17, 0), (17, .goto 4, 20, 21), (20, .iconst 0, 21, 0), (21, .istore 6, 23, 0), (23, .iload 6, 25, 0), (25, .ifCond .eq 44, 28, 69), (28, .iload 5, 30, 0), (30, .aload_n 2, 31, 0), (31, .iload 4, 33, 0), (33, .iaload, 34, 0), (34, .if_icmp .eq 35, 37, 69), (37, .aload_n 1, 38, 0), (38, .iload 5, 40, 0), (40, .aload_n 2, 41, 0), (41, .iload 4, 43, 0), (43, .iaload, 44, 0), (44, .invokestatic 100, 47, 55), (47, .ifCond .eq 22, 50, 69), (50, .aload_n 2, 51, 0), (51, .bipush 8, 53, 0), (53, .iload 4, 55, 0), (55, .iadd, 56, 0), (56, .iaload, 57, 0), (57, .iload 5, 59, 0), (59, .ishr, 60, 0), (60, .iconst 1, 61, 0), (61, .iand, 62, 0), (62, .ifCond .ne 7, 65, 69), (65, .iconst 1, 66, 0), (66, .goto 4, 69, 70), (69, .iconst 0, 70, 0), (70, .istore 7, 72, 0), (72, .aload_n 0, 73, 0), (73, .iconst 4, 74, 0), (74, .iload 4, 76, 0), (76, .iload 5, 78, 0), (78, .iconst 0, 79, 0), (79, .invokestatic 96, 82, 51), (82, .istore 8, 84, 0), (84, .iload 7, 86, 0), (86, .ifCond .ne 26, 89, 112), (89, .iload 8, 91, 0), (91, .iload 6, 93, 0), (93, .ifCond .eq 8, 96, 101), (96, .bipush (-10), 98, 0), (98, .goto 5, 101, 103), (101, .bipush (-30), 103, 0), (103, .if_icmp .ne 7, 106, 110), (106, .iconst 1, 107, 0), (107, .goto 4, 110, 111), (110, .iconst 0, 111, 0), (111, .ireturn, 112, 0), (112, .aload_n 2, 113, 0), (113, .bipush 8, 115, 0), (115, .iload 4, 117, 0), (117, .iadd, 118, 0), (118, .dup2, 119, 0), (119, .iaload, 120, 0), (120, .iconst 1, 121, 0), (121, .iload 5, 123, 0), (123, .ishl, 124, 0), (124, .ior, 125, 0), (125, .iastore, 126, 0), (126, .iload 8, 128, 0), (128, .aload_n 0, 129, 0), (129, .iload 4, 131, 0), (131, .invokevirtual 46, 134, 12), (134, .invokestatic 108, 137, 54), (137, .if_icmp .ne 12, 140, 149), (140, .iload 8, 142, 0), (142, .ifCond .le 7, 145, 149), (145, .iconst 1, 146, 0), (146, .goto 4, 149, 150), (149, .iconst 0, 150, 0), (150, .ireturn, 151, 0)]
def pg62 : List PE := [(0, .iload_n 3, 1, 0), (1, .aload_n 2, 2, 0), (2, .iconst 0, 3, 0), (3, .iaload, 4, 0), (4, .iconst 1, 5, 0), (5, .iadd, 6, 0), (6, .irem, 7, 0), (7, .istore 6, 9, 0), (9, .iload 4, 11, 0), (11, .bipush 13, 13, 0), (13, .irem, 14, 0), (14, .ifCond .ne 7, 17, 21), (17, .iconst 0, 18, 0), (18, .goto 7, 21, 25), (21, .iconst 1, 22, 0), (22, .iload 4, 24, 0), (24, .iadd, 25, 0), (25, .istore 7, 27, 0), (27, .iload 5, 29, 0), (29, .bipush 103, 31, 0), (31, .irem, 32, 0), (32, .istore 8, 34, 0), (34, .iload 7, 36, 0), (36, .iconst 1, 37, 0), (37, .if_icmp .lt 16, 40, 53), (40, .iload 8, 42, 0), (42, .iconst 1, 43, 0), (43, .if_icmp .lt 10, 46, 53), (46, .iload 8, 48, 0), (48, .bipush 100, 50, 0), (50, .if_icmp .le 8, 53, 58), (53, .bipush (-20), 55, 0), (55, .goto 32, 58, 87), (58, .iload 6, 60, 0), (60, .aload_n 2, 61, 0), (61, .iconst 0, 62, 0), (62, .iaload, 63, 0), (63, .if_icmp .ne 8, 66, 71), (66, .bipush (-30), 68, 0), (68, .goto 19, 71, 87), (71, .aload_n 2, 72, 0), (72, .iconst 2, 73, 0), (73, .iaload, 74, 0), (74, .bipush 20, 76, 0), (76, .if_icmp .ne 8, 79, 84), (79, .bipush (-10), 81, 0), (81, .goto 6, 84, 87), (84, .aload_n 2, 85, 0), (85, .iconst 2, 86, 0), (86, .iaload, 87, 0), (87, .istore 9, 89, 0), (89, .aload_n 0, 90, 0), (90, .invokevirtual 104, 93, 9), (93, .istore 10, 95, 0), (95, .iload 9, 97, 0), (97, .ifCond .lt 37, 100, 134), (100, .aload_n 1, 101, 0), (101, .iconst 3, 102, 0), (102, .iload 9, 104, 0), (104, .imul, 105, 0), (105, .iload 6, 107, 0), (107, .iastore, 108, 0), (108, .aload_n 1, 109, 0), (109, .iconst 3, 110, 0), (110, .iload 9, 112, 0), (112, .imul, 113, 0), (113, .iconst 1, 114, 0), (114, .iadd, 115, 0), (115, .iload 8, 117, 0), (117, .iastore, 118, 0), (118, .aload_n 1, 119, 0), (119, .iconst 3, 120, 0), (120, .iload 9, 122, 0), (122, .imul, 123, 0), (123, .iconst 2, 124, 0), (124, .iadd, 125, 0), (125, .iconst 0, 126, 0), (126, .iastore, 127, 0), (127, .aload_n 2, 128, 0), (128, .iconst 2, 129, 0), (129, .dup2, 130, 0), (130, .iaload, 131, 0), (131, .iconst 1, 132, 0), (132, .iadd, 133, 0), (133, .iastore, 134, 0), (134, .aload_n 0, 135, 0), (135, .iconst 5, 136, 0), (136, .iload 6, 138, 0), (138, .iload 7, 140, 0), (140, .iload 8, 142, 0), (142, .invokestatic 96, 145, 51), (145, .iload 9, 147, 0), (147, .if_icmp .ne 40, 150, 187), (150, .iload 9, 152, 0), (152, .ifCond .ge 15, 155, 167), (155, .aload_n 0, 156, 0), (156, .invokevirtual 104, 159, 9), (159, .iload 10, 161, 0), (161, .if_icmp .ne 26, 164, 187), (164, .goto 19, 167, 183), (167, .aload_n 0, 168, 0), (168, .iload 9, 170, 0), (170, .invokevirtual 67, 173, 21), (173, .aload_n 0, 174, 0), (174, .invokevirtual 104, 177, 9), (177, .iload 10, 179, 0), (179, .isub, 180, 0), (180, .if_icmp .ne 7, 183, 187), (183, .iconst 1, 184, 0), (184, .goto 4, 187, 188), (187, .iconst 0, 188, 0), (188, .ireturn, 189, 0)]
def pg63 : List PE := [(0, .iload_n 3, 1, 0), (1, .aload_n 2, 2, 0), (2, .iconst 2, 3, 0), (3, .iaload, 4, 0), (4, .if_icmp .ne 23, 7, 27), (7, .aload_n 0, 8, 0), (8, .bipush 6, 10, 0), (10, .iload_n 3, 11, 0), (11, .iconst 0, 12, 0), (12, .iconst 0, 13, 0), (13, .invokestatic 96, 16, 51), (16, .bipush (-30), 18, 0), (18, .if_icmp .ne 7, 21, 25), (21, .iconst 1, 22, 0), (22, .goto 4, 25, 26), (25, .iconst 0, 26, 0), (26, .ireturn, 27, 0), (27, .aload_n 0, 28, 0), (28, .invokevirtual 104, 31, 9), (31, .istore 4, 33, 0), (33, .aload_n 0, 34, 0), (34, .iload_n 3, 35, 0), (35, .invokevirtual 67, 38, 21), (38, .istore 5, 40, 0), (40, .aload_n 1, 41, 0), (41, .iconst 3, 42, 0), (42, .iload_n 3, 43, 0), (43, .imul, 44, 0), (44, .iconst 2, 45, 0), (45, .iadd, 46, 0), (46, .iaload, 47, 0), (47, .iconst 1, 48, 0), (48, .if_icmp .ne 8, 51, 56), (51, .bipush (-10), 53, 0), (53, .goto 5, 56, 58), (56, .iload 5, 58, 0), (58, .istore 6, 60, 0), (60, .aload_n 1, 61, 0), (61, .iconst 3, 62, 0), (62, .iload_n 3, 63, 0), (63, .imul, 64, 0), (64, .iconst 2, 65, 0), (65, .iadd, 66, 0), (66, .iconst 1, 67, 0), (67, .iastore, 68, 0), (68, .aload_n 0, 69, 0), (69, .bipush 6, 71, 0), (71, .iload_n 3, 72, 0), (72, .iconst 0, 73, 0), (73, .iconst 0, 74, 0), (74, .invokestatic 96, 77, 51), (77, .iload 6, 79, 0), (79, .if_icmp .ne 27, 82, 106), (82, .aload_n 0, 83, 0), (83, .invokevirtual 104, 86, 9), (86, .iload 4, 88, 0), (88, .iload 5, 90, 0), (90, .isub, 91, 0), (91, .if_icmp .ne 15, 94, 106), (94, .aload_n 0, 95, 0), (95, .iload_n 3, 96, 0), (96, .invokevirtual 67, 99, 21), (99, .ifCond .ne 7, 102, 106), (102, .iconst 1, 103, 0), (103, .goto 4, 106, 107), (106, .iconst 0, 107, 0), (107, .ireturn, 108, 0)]
def pg64 : List PE := [(0, .aload_n 1, 1, 0), (1, .iload_n 2, 2, 0), (2, .bipush 26, 4, 0), (4, .invokestatic 111, 7, 50), (7, .istore 8, 9, 0), (9, .aload_n 1, 10, 0), (10, .iload_n 2, 11, 0), (11, .iconst 1, 12, 0), (12, .iadd, 13, 0), (13, .sipush 6000, 16, 0), (16, .invokestatic 111, 19, 50), (19, .istore 9, 21, 0), (21, .aload_n 1, 22, 0), (22, .iload_n 2, 23, 0), (23, .iconst 2, 24, 0), (24, .iadd, 25, 0), (25, .sipush 7000, 28, 0), (28, .invokestatic 111, 31, 50), (31, .istore 10, 33, 0), (33, .aload_n 1, 34, 0), (34, .iload_n 2, 35, 0), (35, .iconst 3, 36, 0), (36, .iadd, 37, 0), (37, .sipush 8000, 40, 0), (40, .invokestatic 111, 43, 50), (43, .istore 11, 45, 0), (45, .iload 8, 47, 0), (47, .bipush 8, 49, 0), (49, .if_icmp .lt 11, 52, 60), (52, .aload 7, 54, 0), (54, .iconst 0, 55, 0), (55, .iaload, 56, 0), (56, .iconst 3, 57, 0), (57, .if_icmp .ge 17, 60, 74), (60, .aload_n 0, 61, 0), (61, .aload_n 3, 62, 0), (62, .aload 4, 64, 0), (64, .aload 7, 66, 0), (66, .iload 9, 68, 0), (68, .iload 10, 70, 0), (70, .invokestatic 115, 73, 59), (73, .ireturn, 74, 0), (74, .iload 8, 76, 0), (76, .bipush 11, 78, 0), (78, .if_icmp .ge 26, 81, 104), (81, .aload_n 0, 82, 0), (82, .aload 7, 84, 0), (84, .iload 8, 86, 0), (86, .bipush 8, 88, 0), (88, .if_icmp .ne 7, 91, 95), (91, .iconst 1, 92, 0), (92, .goto 4, 95, 96), (95, .iconst 0, 96, 0), (96, .iload 9, 98, 0), (98, .iload 10, 100, 0), (100, .invokestatic 119, 103, 60), (103, .ireturn, 104, 0), (104, .iload 8, 106, 0), (106, .bipush 14, 108, 0), (108, .if_icmp .ge 70, 111, 178), (111, .iload 9, 113, 0), (113, .aload 7, 115, 0), (115, .iconst 0, 116, 0), (116, .iaload, 117, 0), (117, .irem, 118, 0), (118, .istore 12, 120, 0), (120, .iload 12, 122, 0), (122, .ifCond .ne 8, 125, 130), (125, .bipush (-30), 127, 0), (127, .goto 13, 130, 140), (130, .iconst 1, 131, 0), (131, .aload 4, 133, 0), (133, .bipush 32, 135, 0), (135, .iload 12, 137, 0), (137, .iadd, 138, 0), (138, .iaload, 139, 0), (139, .isub, 140, 0), (140, .istore 13, 142, 0), (142, .aload 4, 144, 0), (144, .bipush 32, 146, 0), (146, .iload 12, 148, 0), (148, .iadd, 149, 0), (149, .iload 12, 151, 0), (151, .ifCond .ne 7, 154, 158), (154, .iconst 0, 155, 0), (155, .goto 4, 158, 159), (158, .iconst 1, 159, 0), (159, .iastore, 160, 0), (160, .aload_n 0, 161, 0), (161, .iconst 0, 162, 0), (162, .iload 12, 164, 0), (164, .invokestatic 92, 167, 53), (167, .iload 13, 169, 0), (169, .if_icmp .ne 7, 172, 176), (172, .iconst 1, 173, 0), (173, .goto 4, 176, 177), (176, .iconst 0, 177, 0), (177, .ireturn, 178, 0), (178, .iload 8, 180, 0), (180, .bipush 16, 182, 0), (182, .if_icmp .ge 75, 185, 257), (185, .iload 9, 187, 0), (187, .aload 7, 189, 0), (189, .iconst 0, 190, 0), (190, .iaload, 191, 0), (191, .irem, 192, 0), (192, .istore 12, 194, 0), (194, .aload 4, 196, 0), (196, .bipush 16, 198, 0), (198, .iload 12, 200, 0), (200, .iadd, 201, 0), (201, .iload 12, 203, 0), (203, .ifCond .ne 7, 206, 210), (206, .iconst 0, 207, 0), (207, .goto 13, 210, 220), (210, .iconst 1, 211, 0), (211, .aload 4, 213, 0), (213, .bipush 16, 215, 0), (215, .iload 12, 217, 0), (217, .iadd, 218, 0), (218, .iaload, 219, 0), (219, .isub, 220, 0), (220, .iastore, 221, 0), (221, .aload_n 0, 222, 0), (222, .iconst 1, 223, 0), (223, .iload 12, 225, 0), (225, .invokestatic 92, 228, 53), (228, .iload 12, 230, 0), (230, .ifCond .ne 8, 233, 238), (233, .bipush (-30), 235, 0), (235, .goto 13, 238, 248), (238, .iconst 1, 239, 0), (239, .aload 4, 241, 0), (241, .bipush 16, 243, 0), (243, .iload 12, 245, 0), (245, .iadd, 246, 0), (246, .iaload, 247, 0), (247, .isub, 248, 0), (248, .if_icmp .ne 7, 251, 255), (251, .iconst 1, 252, 0), (252, .goto 4, 255, 256), (255, .iconst 0, 256, 0), (256, .ireturn, 257, 0), (257, .iload 8, 259, 0), (259, .bipush 18, 261, 0), (261, .if_icmp .ge 97, 264, 358), (264, .iload 9, 266, 0), (266, .aload 7, 268, 0), (268, .iconst 0, 269, 0), (269, .iaload, 270, 0), (270, .iconst 1, 271, 0), (271, .iadd, 272, 0), (272, .irem, 273, 0), (273, .istore 12, 275, 0), (275, .iload 12, 277, 0), (277, .aload 7, 279, 0), (279, .iconst 0, 280, 0), (280, .iaload, 281, 0), (281, .if_icmp .ne 8, 284, 289), (284, .bipush (-30), 286, 0), (286, .goto 21, 289, 307), (289, .aload 7, 291, 0), (291, .iconst 1, 292, 0), (292, .iaload, 293, 0), (293, .bipush 8, 295, 0), (295, .if_icmp .ne 8, 298, 303), (298, .bipush (-10), 300, 0), (300, .goto 7, 303, 307), (303, .aload 7, 305, 0), (305, .iconst 1, 306, 0), (306, .iaload, 307, 0), (307, .istore 13, 309, 0), (309, .iload 13, 311, 0), (311, .ifCond .lt 27, 314, 338), (314, .aload 5, 316, 0), (316, .iload 13, 318, 0), (318, .iload 12, 320, 0), (320, .iastore, 321, 0), (321, .aload 5, 323, 0), (323, .bipush 8, 325, 0), (325, .iload 13, 327, 0), (327, .iadd, 328, 0), (328, .iconst 0, 329, 0), (329, .iastore, 330, 0), (330, .aload 7, 332, 0), (332, .iconst 1, 333, 0), (333, .dup2, 334, 0), (334, .iaload, 335, 0), (335, .iconst 1, 336, 0), (336, .iadd, 337, 0), (337, .iastore, 338, 0), (338, .aload_n 0, 339, 0), (339, .iconst 3, 340, 0), (340, .iload 12, 342, 0), (342, .iconst 0, 343, 0), (343, .iconst 0, 344, 0), (344, .invokestatic 96, 347, 51), (347, .iload 13, 349, 0), (349, .if_icmp .ne 7, 352, 356), (352, .iconst 1, 353, 0), (353, .goto 4, 356, 357), (356, .iconst 0, 357, 0), (357, .ireturn, 358, 0), (358, .iload 8, 360, 0), (360, .bipush 21, 362, 0), (362, .if_icmp .ge 31, 365, 393), (365, .aload_n 0, 366, 0), (366, .aload_n 3, 367, 0), (367, .aload 5, 369, 0), (369, .aload 7, 371, 0), (371, .iload 9, 373, 0), (373, .aload 7, 375, 0), (375, .iconst 1, 376, 0), (376, .iaload, 377, 0), (377, .iconst 1, 378, 0), (378, .iadd, 379, 0), (379, .irem, 380, 0), (380, .iload 10, 382, 0), (382, .aload 7, 384, 0), (384, .iconst 0, 385, 0), (385, .iaload, 386, 0), (386, .iconst 1, 387, 0), (387, .iadd, 388, 0), (388, .irem, 389, 0), (389, .invokestatic 123, 392, 61), (392, .ireturn, 393, 0), (393, .iload 8, 395, 0), (395, .bipush 24, 397, 0), (397, .if_icmp .ge 20, 400, 417), (400, .aload_n 0, 401, 0), (401, .aload 6, 403, 0), (403, .aload 7, 405, 0), (405, .iload 9, 407, 0), (407, .iload 10, 409, 0), (409, .iload 11, 411, 0), (411, .invokestatic 126, 414, 62), (414, .goto 20, 417, 434), (417, .aload_n 0, 418, 0), (418, .aload 6, 420, 0), (420, .aload 7, 422, 0), (422, .iload 9, 424, 0), (424, .aload 7, 426, 0), (426, .iconst 2, 427, 0), (427, .iaload, 428, 0), (428, .iconst 1, 429, 0), (429, .iadd, 430, 0), (430, .irem, 431, 0), (431, .invokestatic 130, 434, 63), (434, .ireturn, 435, 0)]
def pg65 : List PE := [(0, .new 9, 3, 0), (3, .dup, 4, 0), (4, .invokespecial 134, 7, 0), (7, .astore_n 1, 8, 0), (8, .bipush 16, 10, 0), (10, .newarray .int, 12, 0), (12, .astore_n 2, 13, 0), (13, .bipush 48, 15, 0), (15, .newarray .int, 17, 0), (17, .astore_n 3, 18, 0), (18, .bipush 16, 20, 0), (20, .newarray .int, 22, 0), (22, .astore 4, 24, 0), (24, .bipush 60, 26, 0), (26, .newarray .int, 28, 0), (28, .astore 5, 30, 0), (30, .iconst 3, 31, 0), (31, .newarray .int, 33, 0), (33, .astore 6, 35, 0), (35, .aload 6, 37, 0), (37, .iconst 0, 38, 0), (38, .iconst 1, 39, 0), (39, .iastore, 40, 0), (40, .aload_n 1, 41, 0), (41, .aload_n 2, 42, 0), (42, .aload_n 3, 43, 0), (43, .aload 6, 45, 0), (45, .invokestatic 135, 48, 56), (48, .ifCond .eq 25, 51, 73), (51, .aload_n 1, 52, 0), (52, .aload 5, 54, 0), (54, .aload 6, 56, 0), (56, .invokestatic 139, 59, 58), (59, .ifCond .eq 14, 62, 73), (62, .aload_n 1, 63, 0), (63, .invokevirtual 104, 66, 9), (66, .ifCond .ne 7, 69, 73), (69, .iconst 1, 70, 0), (70, .goto 4, 73, 74), (73, .iconst 0, 74, 0), (74, .istore 7, 76, 0), (76, .iconst 0, 77, 0), (77, .istore 8, 79, 0), (79, .iload 8, 81, 0), (81, .bipush 64, 83, 0), (83, .if_icmp .ge 123, 86, 206), (86, .iload 7, 88, 0), (88, .ifCond .eq 118, 91, 206), (91, .aload_n 1, 92, 0), (92, .aload_n 0, 93, 0), (93, .iconst 4, 94, 0), (94, .iload 8, 96, 0), (96, .imul, 97, 0), (97, .aload_n 2, 98, 0), (98, .aload_n 3, 99, 0), (99, .aload 4, 101, 0), (101, .aload 5, 103, 0), (103, .aload 6, 105, 0), (105, .invokestatic 143, 108, 64), (108, .ifCond .eq 44, 111, 152), (111, .aload_n 1, 112, 0), (112, .aload_n 2, 113, 0), (113, .aload_n 3, 114, 0), (114, .aload 6, 116, 0), (116, .invokestatic 135, 119, 56), (119, .ifCond .eq 33, 122, 152), (122, .aload_n 1, 123, 0), (123, .aload 5, 125, 0), (125, .aload 6, 127, 0), (127, .invokestatic 139, 130, 58), (130, .ifCond .eq 22, 133, 152), (133, .aload_n 1, 134, 0), (134, .iconst 1, 135, 0), (135, .aload 6, 137, 0), (137, .iconst 1, 138, 0), (138, .iaload, 139, 0), (139, .iconst 0, 140, 0), (140, .invokestatic 86, 143, 52), (143, .bipush (-30), 145, 0), (145, .if_icmp .ne 7, 148, 152), (148, .iconst 1, 149, 0), (149, .goto 4, 152, 153), (152, .iconst 0, 153, 0), (153, .istore 7, 155, 0), (155, .iconst 0, 156, 0), (156, .istore 9, 158, 0), (158, .iload 9, 160, 0), (160, .aload 6, 162, 0), (162, .iconst 1, 163, 0), (163, .iaload, 164, 0), (164, .if_icmp .ge 36, 167, 200), (167, .iload 7, 169, 0), (169, .ifCond .eq 31, 172, 200), (172, .iload 8, 174, 0), (174, .iconst 3, 175, 0), (175, .irem, 176, 0), (176, .iconst 2, 177, 0), (177, .if_icmp .ne 23, 180, 200), (180, .aload_n 1, 181, 0), (181, .aload_n 2, 182, 0), (182, .aload_n 3, 183, 0), (183, .aload 4, 185, 0), (185, .aload 6, 187, 0), (187, .iload 9, 189, 0), (189, .invokestatic 147, 192, 57), (192, .istore 7, 194, 0), (194, .iinc 9 1, 197, 0), (197, .goto (-39), 200, 158), (200, .iinc 8 1, 203, 0), (203, .goto (-124), 206, 79), (206, .iload 7, 208, 0), (208, .ifCond .eq 168, 211, 376), (211, .aload_n 1, 212, 0), (212, .iconst 0, 213, 0), (213, .bipush 16, 215, 0), (215, .iconst (-1), 216, 0), (216, .iconst 0, 217, 0), (217, .invokestatic 96, 220, 51), (220, .bipush (-20), 222, 0), (222, .if_icmp .ne 154, 225, 376), (225, .aload_n 1, 226, 0), (226, .iconst 1, 227, 0), (227, .bipush 16, 229, 0), (229, .iconst (-1), 230, 0), (230, .iconst 0, 231, 0), (231, .invokestatic 96, 234, 51), (234, .bipush (-20), 236, 0), (236, .if_icmp .ne 140, 239, 376), (239, .aload_n 1, 240, 0), (240, .iconst 2, 241, 0), (241, .iconst 0, 242, 0), (242, .bipush 101, 244, 0), (244, .iconst 0, 245, 0), (245, .invokestatic 96, 248, 51), (248, .bipush (-20), 250, 0), (250, .if_icmp .ne 126, 253, 376), (253, .aload_n 1, 254, 0), (254, .iconst 2, 255, 0), (255, .iconst 0, 256, 0), (256, .bipush 50, 258, 0), (258, .iconst 0, 259, 0), (259, .invokestatic 96, 262, 51), (262, .bipush (-30), 264, 0), (264, .if_icmp .ne 112, 267, 376), (267, .aload_n 1, 268, 0), (268, .iconst 3, 269, 0), (269, .iconst (-1), 270, 0), (270, .iconst 0, 271, 0), (271, .iconst 0, 272, 0), (272, .invokestatic 96, 275, 51), (275, .bipush (-30), 277, 0), (277, .if_icmp .ne 99, 280, 376), (280, .aload_n 1, 281, 0), (281, .iconst 4, 282, 0), (282, .bipush 8, 284, 0), (284, .iconst 0, 285, 0), (285, .iconst 0, 286, 0), (286, .invokestatic 96, 289, 51), (289, .bipush (-30), 291, 0), (291, .if_icmp .ne 85, 294, 376), (294, .aload_n 1, 295, 0), (295, .iconst 5, 296, 0), (296, .bipush 16, 298, 0), (298, .iconst 0, 299, 0), (299, .iconst 1, 300, 0), (300, .invokestatic 96, 303, 51), (303, .bipush (-20), 305, 0), (305, .if_icmp .ne 71, 308, 376), (308, .aload_n 1, 309, 0), (309, .iconst 2, 310, 0), (310, .iconst (-1), 311, 0), (311, .iconst 0, 312, 0), (312, .invokestatic 86, 315, 52), (315, .bipush (-30), 317, 0), (317, .if_icmp .ne 59, 320, 376), (320, .aload_n 1, 321, 0), (321, .iconst 3, 322, 0), (322, .bipush 8, 324, 0), (324, .iconst 0, 325, 0), (325, .invokestatic 86, 328, 52), (328, .bipush (-30), 330, 0), (330, .if_icmp .ne 46, 333, 376), (333, .aload_n 1, 334, 0), (334, .iconst 4, 335, 0), (335, .bipush 8, 337, 0), (337, .iconst 0, 338, 0), (338, .invokestatic 86, 341, 52), (341, .bipush (-30), 343, 0), (343, .if_icmp .ne 33, 346, 376), (346, .aload_n 1, 347, 0), (347, .iconst 5, 348, 0), (348, .bipush 8, 350, 0), (350, .iconst 0, 351, 0), (351, .invokestatic 86, 354, 52), (354, .bipush (-30), 356, 0), (356, .if_icmp .ne 20, 359, 376), (359, .aload_n 1, 360, 0), (360, .bipush 10, 362, 0), (362, .iconst (-1), 363, 0), (363, .iconst 0, 364, 0), (364, .invokestatic 86, 367, 52), (367, .bipush (-20), 369, 0), (369, .if_icmp .ne 7, 372, 376), (372, .iconst 1, 373, 0), (373, .goto 4, 376, 377), (376, .iconst 0, 377, 0), (377, .ireturn, 378, 0)]
def pg66 : List PE := [(0, .iload_n 0, 1, 0), (1, .iload_n 0, 2, 0), (2, .iconst 1, 3, 0), (3, .iushr, 4, 0), (4, .ldc_w 265, 7, 1431655765), (7, .iand, 8, 0), (8, .isub, 9, 0), (9, .istore_n 0, 10, 0), (10, .iload_n 0, 11, 0), (11, .ldc_w 266, 14, 858993459), (14, .iand, 15, 0), (15, .iload_n 0, 16, 0), (16, .iconst 2, 17, 0), (17, .iushr, 18, 0), (18, .ldc_w 266, 21, 858993459), (21, .iand, 22, 0), (22, .iadd, 23, 0), (23, .istore_n 0, 24, 0), (24, .iload_n 0, 25, 0), (25, .iload_n 0, 26, 0), (26, .iconst 4, 27, 0), (27, .iushr, 28, 0), (28, .iadd, 29, 0), (29, .ldc_w 267, 32, 252645135), (32, .iand, 33, 0), (33, .istore_n 0, 34, 0), (34, .iload_n 0, 35, 0), (35, .iload_n 0, 36, 0), (36, .bipush 8, 38, 0), (38, .iushr, 39, 0), (39, .iadd, 40, 0), (40, .istore_n 0, 41, 0), (41, .iload_n 0, 42, 0), (42, .iload_n 0, 43, 0), (43, .bipush 16, 45, 0), (45, .iushr, 46, 0), (46, .iadd, 47, 0), (47, .istore_n 0, 48, 0), (48, .iload_n 0, 49, 0), (49, .bipush 63, 51, 0), (51, .iand, 52, 0), (52, .ireturn, 53, 0)]
def pgs : List (List PE) := [pg0, pg1, pg2, pg3, pg4, pg5, pg6, pg7, pg8, pg9, pg10, pg11, pg12, pg13, pg14, pg15, pg16, pg17, pg18, pg19, pg20, pg21, pg22, pg23, pg24, pg25, pg26, pg27, pg28, pg29, pg30, pg31, pg32, pg33, pg34, pg35, pg36, pg37, pg38, pg39, pg40, pg41, pg42, pg43, pg44, pg45, pg46, pg47, pg48, pg49, pg50, pg51, pg52, pg53, pg54, pg55, pg56, pg57, pg58, pg59, pg60, pg61, pg62, pg63, pg64, pg65, pg66]
def whs : List (List (Nat × Nat × Nat × Nat)) := [[], [], [], [], [], [], [], [], [], [], [], [], [], [], [], [], [], [], [], [], [], [], [], [], [], [], [], [], [], [], [], [], [], [], [], [], [], [], [], [], [], [], [], [], [], [], [], [], [], [], [], [(0, 104, 5, 106), (1, 109, 5, 111), (2, 114, 5, 116)], [(0, 141, 4, 143), (1, 146, 4, 148), (2, 151, 4, 153)], [(1, 45, 3, 46)], [], [], [], [], [], [], [], [], [], [], [], [], []]
def wts : List Nat := [0, 0, 0, 0, 0, 0, 0, 0, 0, 0, 0, 0, 0, 0, 0, 0, 0, 0, 0, 0, 0, 0, 0, 0, 0, 0, 0, 0, 0, 0, 0, 0, 0, 0, 0, 0, 0, 0, 0, 0, 0, 0, 0, 0, 0, 0, 0, 0, 0, 0, 0, 103, 140, 44, 0, 0, 0, 0, 0, 0, 0, 0, 0, 0, 0, 0, 0]
def FLs : List (Nat × Nat × Nat) := [(0, 9, 1), (0, 13, 2), (0, 16, 3), (0, 19, 4), (0, 22, 8), (0, 25, 9), (0, 28, 11), (0, 31, 12), (0, 34, 13), (0, 37, 15), (0, 40, 16), (0, 43, 0), (0, 69, 5), (0, 76, 6), (0, 96, 7), (0, 132, 10), (0, 138, 14)]
def MLs : List (Nat × Nat × Nat) := [(0, 47, 24), (0, 51, 26), (0, 55, 25), (0, 59, 37), (0, 63, 27), (0, 66, 33), (0, 72, 30), (0, 79, 32), (0, 82, 38), (0, 93, 41), (0, 99, 28), (0, 104, 42), (0, 107, 66), (0, 112, 43), (0, 117, 39), (0, 120, 40), (0, 123, 44), (0, 126, 45), (0, 129, 31), (0, 135, 29), (0, 143, 46), (0, 146, 47), (0, 173, 34), (0, 176, 36), (0, 179, 35), (0, 184, 48), (0, 187, 49), (2, 8, 1), (2, 14, 2), (2, 17, 3), (2, 20, 10), (2, 24, 11), (2, 27, 19), (2, 31, 20), (2, 34, 8), (2, 43, 7), (2, 46, 12), (2, 49, 13), (2, 52, 14), (2, 55, 15), (2, 58, 16), (2, 61, 17), (2, 64, 18), (2, 67, 21), (2, 70, 22), (2, 73, 23), (2, 76, 4), (2, 80, 5), (2, 83, 6), (2, 86, 52), (2, 92, 53), (2, 96, 51), (2, 100, 55), (2, 104, 9), (2, 108, 54), (2, 111, 50), (2, 115, 59), (2, 119, 60), (2, 123, 61), (2, 126, 62), (2, 130, 63), (2, 135, 56), (2, 139, 58), (2, 143, 64), (2, 147, 57)]
def sx (j : Nat) : String := match lw_tbl[j]? with
  | some (.stringRef _ _ t) => t
  | _ => ""
def SLs : List (Nat × Nat × Nat × Nat × String) := [(86, 88, 90, 2, "the pipe has no meter"), (86, 102, 90, 2, sx 278), (86, 115, 90, 2, "a pipe of the area has no meter"), (86, 141, 90, 2, "the burst is repaired"), (86, 160, 90, 2, "no room for one more"), (150, 152, 154, 1, "no such place"), (150, 162, 154, 1, "no such node"), (150, 164, 154, 1, "no such pipe"), (150, 166, 154, 1, "no such area"), (150, 168, 154, 1, "no such burst"), (150, 182, 154, 1, "no such step"), (155, 157, 159, 0, "out of range")]
def KWs : List (Nat × Nat × Nat) := [(2, 7, 2147483647), (3, 265, 1431655765), (3, 266, 858993459), (3, 267, 252645135)]
end
section
def mY (i : Nat) : MethodName := mYs.getD i yL_law
def mB (i : Nat) : ByteArray := mBs.getD i cL_law
def mL (i : Nat) : Nat := mLs.getD i 10
def mR (i : Nat) : Option FieldType := mRs.getD i none
def mH (i : Nat) : List (Nat × Nat × Nat × Nat) := mHs.getD i []
def mO (i : Nat) : Nat := mOs.getD i 9
def mN (i : Nat) : Nat := mNs.getD i 9
def mF (i : Nat) : Nat := mFs.getD i 0
def mLo (i : Nat) : Nat := mLos.getD i 0
def pg (i : Nat) : List PE := pgs.getD i []
def mtAll : List Nat := (List.range 49).map (· + 1) ++ ((List.range 15).map (· + 50) ++ [66])
def lkp : List PE → Nat → Option (Instr × Nat × Nat)
  | [], _ => none
  | q :: l, i => match Nat.beq q.1 i with
    | true => some q.2
    | false => lkp l i
def ln : Instr → Nat
  | .bipush _ => 2
  | .sipush _ => 3
  | .ldc _ => 2
  | .ldc_w _ => 3
  | .iload _ => 2
  | .aload _ => 2
  | .istore _ => 2
  | .astore _ => 2
  | .iinc _ _ => 3
  | .goto _ => 3
  | .ifCond _ _ => 3
  | .if_icmp _ _ => 3
  | .getfield _ => 3
  | .putfield _ => 3
  | .getstatic _ => 3
  | .invokevirtual _ => 3
  | .invokestatic _ => 3
  | .invokespecial _ => 3
  | .new _ => 3
  | .newarray _ => 2
  | .lload _ => 2
  | .lstore _ => 2
  | _ => 1
def mS (i : Nat) : Bool := mSs.getD i false
def wh (i : Nat) : List (Nat × Nat × Nat × Nat) := whs.getD i []
def wt (i : Nat) : Nat := wts.getD i 0
def oN (o : Nat) : String := match o with
  | 0 => RX0
  | 1 => RX0
  | 2 => RL
  | _ => RJ6
def oT (_ : Nat) : u_T := TX0
def wC (i : Nat) : Cond := match mH i with
  | [] => .code (mY i) (mB i) (mL i) (mR i)
  | _ => .codeWith (mY i) (mB i) (mL i) (mR i) (mH i)
def exN (e : Nat) : String := match e with
  | 0 => "java/lang/IllegalArgumentException"
  | 1 => "java/lang/IndexOutOfBoundsException"
  | _ => "java/lang/IllegalStateException"
def exU : List String := ["java/lang/RuntimeException", "java/lang/Exception"]
def ci : Int → Int32
  | .ofNat n => nI n
  | .negSucc 0 => -1
  | .negSucc (n + 1) => Int32.ofInt (.negSucc (n + 1))
def room2 (i j : Nat) : Bool := decide (mF j + 1 ≤ mF i) && decide (8 + (mL j + 11) + mLo j ≤ mLo i)
def okN (cc : ByteArray) (pc ik e : Nat) : Bool := match decode cc (pc + 4), decode cc (pc + 6) with
  | .ok (.ldc is, n1), .ok (.invokespecial ic, n2) => decide (n1 = 2) && decide (n2 = 3) && decide (decode cc (pc + 3) = .ok (.dup, 1)) && decide (decode cc (pc + 9) = .ok (.athrow, 1)) && SLs.any (fun s => decide (s.1 = ik) && decide (s.2.1 = is) && decide (s.2.2.1 = ic) && decide (s.2.2.2.1 = e))
  | _, _ => false
def okA (i : Nat) (q : PE) : Bool := match q.2.1 with
  | .goto off => decide ((q.1 : Int) + off = (q.2.2.2 : Int))
  | .ifCond _ off => decide ((q.1 : Int) + off = (q.2.2.2 : Int))
  | .if_icmp _ off => decide ((q.1 : Int) + off = (q.2.2.2 : Int))
  | .getfield idx => decide ((mO i, idx, q.2.2.2) ∈ FLs)
  | .putfield idx => decide ((mO i, idx, q.2.2.2) ∈ FLs) && (decide (i = 0) || decide ((oT (mO i) q.2.2.2).2.2.2 = false))
  | .invokevirtual idx => decide ((mO i, idx, q.2.2.2) ∈ MLs) && decide (mS q.2.2.2 = false) && decide (mH q.2.2.2 = []) && room2 i q.2.2.2 && decide (q.2.2.2 ∈ mtAll) && (decide (mH i = []) || decide (q.1 < wt i))
  | .invokestatic idx => decide ((mO i, idx, q.2.2.2) ∈ MLs) && decide (mS q.2.2.2 = true) && room2 i q.2.2.2 && decide (q.2.2.2 ∈ mtAll) && decide (mH i = [])
  | .ldc_w idx => decide ((mO i, idx, q.2.2.2) ∈ KWs)
  | .ldc idx => decide (mO i = 0) || decide ((mO i, idx, q.2.2.2) ∈ KWs)
  | .getstatic idx => decide (idx = 170) && decide (mO i = 0)
  | .bipush n => decide ((Int8.ofInt n).toInt32 = ci n)
  | .sipush n => decide ((Int16.ofInt n).toInt32 = ci n)
  | .iconst n => decide (Int32.ofInt n = ci n)
  | .iinc j n => decide (Int32.ofInt n = ci n) && decide (j < mL i)
  | .istore j => decide (j < mL i)
  | .istore_n j => decide (j.val < mL i)
  | .astore j => decide (j < mL i)
  | .astore_n j => decide (j.val < mL i)
  | .new ik => !decide (mO i = 0) || (okN (mB i) q.1 ik q.2.2.2 && decide (6 ≤ mF i) && decide (90 ≤ mLo i) && decide (mH i = []))
  | _ => true
def okE (i : Nat) (q : PE) : Bool := decide (decode (mB i) q.1 = .ok (q.2.1, ln q.2.1)) && decide (q.2.2.1 = q.1 + ln q.2.1) && okA i q
def okM (i : Nat) : Bool := (pg i).all (okE i)
def ctx (e : Nat) : Nat := match e with
  | 0 => 37
  | 1 => 39
  | _ => 41
def okW (i : Nat) : Bool := decide (mH i = (wh i).map (fun q => (0, wt i, q.2.1, ctx q.1))) && (wh i).all (fun q => decide (q.1 < 3) && decide (q.2.2.1 < mL i) && (decide (decode (mB i) q.2.1 = .ok (.astore q.2.2.1, 2)) && decide (q.2.2.2 = q.2.1 + 2) || (decide (decode (mB i) q.2.1 = .ok (.astore_n 3, 1)) && decide (q.2.2.1 = 3) && decide (q.2.2.2 = q.2.1 + 1)))) && va_nd ((wh i).map (·.1))
set_option maxRecDepth 100000 in
theorem okW_a : (List.range 67).all okW = true := by decide +kernel
set_option maxRecDepth 100000 in
theorem okM_a : (List.range 50).all okM = true := by decide +kernel
set_option maxRecDepth 100000 in
theorem okM_b : ((List.range 8).map (· + 50)).all okM = true := by decide +kernel
set_option maxRecDepth 100000 in
theorem okM_58 : okM 58 = true := by decide +kernel
set_option maxRecDepth 100000 in
theorem okM_59 : okM 59 = true := by decide +kernel
set_option maxRecDepth 100000 in
theorem okM_60 : okM 60 = true := by decide +kernel
set_option maxRecDepth 100000 in
theorem okM_61 : okM 61 = true := by decide +kernel
set_option maxRecDepth 100000 in
theorem okM_62 : okM 62 = true := by decide +kernel
set_option maxRecDepth 100000 in
theorem okM_63 : okM 63 = true := by decide +kernel
set_option maxRecDepth 100000 in
theorem okM_64 : okM 64 = true := by decide +kernel
set_option maxRecDepth 100000 in
theorem okM_65 : okM 65 = true := by decide +kernel
set_option maxRecDepth 100000 in
theorem okM_66 : okM 66 = true := by decide +kernel
end
section
theorem inTT {w : Cond} (h : w ∈ lw_tbl) (g : goodWord w = true) : w ∈ TT := List.mem_filter.mpr ⟨h, g⟩
theorem TT_in {w : Cond} (h : w ∈ TT) : w ∈ lw_tbl := (List.mem_filter.mp h).1
theorem TT_good {w : Cond} (h : w ∈ TT) : goodWord w = true := (List.mem_filter.mp h).2
theorem at_tbl {α : Type} {l : List α} {g : α → Cond} {ps : List Nat} (h : l.map (fun q => some (g q)) = ps.map (fun j => lw_tbl[j]?)) {q : α} (hq : q ∈ l) : g q ∈ lw_tbl := by
  have h1 : some (g q) ∈ l.map (fun q => some (g q)) := List.mem_map.mpr ⟨q, hq, rfl⟩
  rw [h] at h1
  obtain ⟨j, -, hj⟩ := List.mem_map.mp h1
  exact List.mem_of_getElem? hj
def flW (q : Nat × Nat × Nat) : Cond := Cond.fieldLink (oN q.1) q.2.1 (oN q.1) (oT q.1 q.2.2).2.1 (oT q.1 q.2.2).2.2.1
def mlW (q : Nat × Nat × Nat) : Cond := Cond.methodLink (oN q.1) q.2.1 (mY q.2.2)
def iniW (i : Nat) : Cond := Cond.initialized (mY i).cls
def staW (i : Nat) : Cond := Cond.static (mY i)
def insW (i : Nat) : Cond := Cond.instanceMethod (mY i)
def selW (i : Nat) : Cond := Cond.selects (mY i).cls (mY i) (mY i)
def kwW (q : Nat × Nat × Nat) : Cond := Cond.constant (oN q.1) q.2.1 (nI q.2.2)
def mtI : List Nat := [1, 2, 3, 4, 5, 6, 7, 8, 9, 10, 11, 12, 13, 14, 15, 16, 17, 18, 19, 20, 21, 22, 23, 26, 27, 28, 29, 32, 33, 35, 36, 37, 38, 39, 40, 41, 42, 43, 44, 45, 46, 47, 48, 49]
def mtS : List Nat := [24, 25, 30, 31, 34, 50, 51, 52, 53, 54, 55, 56, 57, 58, 59, 60, 61, 62, 63, 64, 66]
set_option maxRecDepth 100000 in
theorem p_fl : (FLs).map (fun q => some (flW q)) = ([40, 41, 42, 43, 47, 48, 50, 51, 52, 54, 55, 39, 44, 45, 46, 49, 53] : List Nat).map (fun j => lw_tbl[j]?) := by decide +kernel
set_option maxRecDepth 100000 in
theorem p_ml : (MLs).map (fun q => some (mlW q)) = ([142, 213, 233, 111, 260, 123, 100, 107, 103, 96, 273, 279, 283, 327, 336, 344, 352, 360, 369, 297, 303, 380, 127, 115, 119, 384, 388, 138, 252, 256, 265, 269, 289, 293, 307, 315, 319, 323, 332, 340, 348, 356, 365, 372, 376, 393, 403, 407, 411, 312, 400, 132, 415, 92, 424, 430, 434, 437, 440, 443, 446, 397, 421, 427, 418] : List Nat).map (fun j => lw_tbl[j]?) := by decide +kernel
set_option maxRecDepth 100000 in
theorem p_kw : (KWs).map (fun q => some (kwW q)) = ([433, 286, 287, 288] : List Nat).map (fun j => lw_tbl[j]?) := by decide +kernel
def mtA : List Nat := [1, 2, 3, 4, 5, 6, 7, 8, 9, 10, 11, 12, 13, 14, 15, 16, 17, 18, 19, 20, 21, 22, 23, 24, 25, 26, 27, 28, 29, 30, 31, 32, 33, 34, 35, 36, 37, 38, 39, 40, 41, 42, 43, 44, 45, 46, 47, 48, 49, 66]
set_option maxRecDepth 100000 in
theorem p_codeA : (mtA).map (fun q => some (wC q)) = ([141, 255, 259, 406, 410, 414, 318, 310, 95, 268, 272, 322, 326, 335, 343, 351, 359, 368, 292, 296, 375, 379, 396, 144, 235, 216, 263, 276, 300, 102, 371, 110, 126, 129, 122, 118, 114, 106, 339, 347, 99, 282, 330, 355, 363, 306, 383, 387, 391, 285] : List Nat).map (fun j => lw_tbl[j]?) := by decide +kernel
set_option maxRecDepth 100000 in
theorem pc_50 : lw_tbl[432]? = some (wC 50) := by decide +kernel
set_option maxRecDepth 100000 in
theorem pc_51 : lw_tbl[134]? = some (wC 51) := by decide +kernel
set_option maxRecDepth 100000 in
theorem pc_52 : lw_tbl[314]? = some (wC 52) := by decide +kernel
set_option maxRecDepth 100000 in
theorem pc_53 : lw_tbl[402]? = some (wC 53) := by decide +kernel
set_option maxRecDepth 100000 in
theorem pc_54 : lw_tbl[426]? = some (wC 54) := by decide +kernel
set_option maxRecDepth 100000 in
theorem pc_55 : lw_tbl[417]? = some (wC 55) := by decide +kernel
set_option maxRecDepth 100000 in
theorem pc_56 : lw_tbl[399]? = some (wC 56) := by decide +kernel
set_option maxRecDepth 100000 in
theorem pc_57 : lw_tbl[420]? = some (wC 57) := by decide +kernel
set_option maxRecDepth 100000 in
theorem pc_58 : lw_tbl[423]? = some (wC 58) := by decide +kernel
set_option maxRecDepth 100000 in
theorem pc_59 : lw_tbl[436]? = some (wC 59) := by decide +kernel
set_option maxRecDepth 100000 in
theorem pc_60 : lw_tbl[439]? = some (wC 60) := by decide +kernel
set_option maxRecDepth 100000 in
theorem pc_61 : lw_tbl[442]? = some (wC 61) := by decide +kernel
set_option maxRecDepth 100000 in
theorem pc_62 : lw_tbl[445]? = some (wC 62) := by decide +kernel
set_option maxRecDepth 100000 in
theorem pc_63 : lw_tbl[448]? = some (wC 63) := by decide +kernel
set_option maxRecDepth 100000 in
theorem pc_64 : lw_tbl[429]? = some (wC 64) := by decide +kernel
theorem code_tbl {i : Nat} (h : i ∈ mtAll) : wC i ∈ lw_tbl := by
  have key : mtAll.all (fun j => decide (j ∈ mtA) || (decide (50 ≤ j) && decide (j < 65))) = true := by decide +kernel
  have k1 := List.all_eq_true.mp key i h
  simp only [Bool.or_eq_true, Bool.and_eq_true, decide_eq_true_eq] at k1
  rcases k1 with h1 | h1
  · exact at_tbl p_codeA h1
  · rcases (show i = 50 ∨ i = 51 ∨ i = 52 ∨ i = 53 ∨ i = 54 ∨ i = 55 ∨ i = 56 ∨ i = 57 ∨ i = 58 ∨ i = 59 ∨ i = 60 ∨ i = 61 ∨ i = 62 ∨ i = 63 ∨ i = 64 by omega) with rfl | rfl | rfl | rfl | rfl | rfl | rfl | rfl | rfl | rfl | rfl | rfl | rfl | rfl | rfl
    · exact List.mem_of_getElem? pc_50
    · exact List.mem_of_getElem? pc_51
    · exact List.mem_of_getElem? pc_52
    · exact List.mem_of_getElem? pc_53
    · exact List.mem_of_getElem? pc_54
    · exact List.mem_of_getElem? pc_55
    · exact List.mem_of_getElem? pc_56
    · exact List.mem_of_getElem? pc_57
    · exact List.mem_of_getElem? pc_58
    · exact List.mem_of_getElem? pc_59
    · exact List.mem_of_getElem? pc_60
    · exact List.mem_of_getElem? pc_61
    · exact List.mem_of_getElem? pc_62
    · exact List.mem_of_getElem? pc_63
    · exact List.mem_of_getElem? pc_64
set_option maxRecDepth 100000 in
theorem p_ini : (mtAll).map (fun q => some (iniW q)) = ([23, 23, 23, 23, 23, 23, 23, 23, 23, 23, 23, 23, 23, 23, 23, 23, 23, 23, 23, 23, 23, 23, 23, 23, 23, 23, 23, 23, 23, 23, 23, 23, 23, 23, 23, 23, 23, 23, 23, 23, 23, 23, 23, 23, 23, 23, 23, 23, 23, 22, 22, 22, 22, 22, 22, 22, 22, 22, 22, 22, 22, 22, 22, 22, 29] : List Nat).map (fun j => lw_tbl[j]?) := by decide +kernel
set_option maxRecDepth 100000 in
theorem p_sta : (mtS).map (fun q => some (staW q)) = ([143, 234, 101, 370, 128, 431, 133, 313, 401, 425, 416, 398, 419, 422, 435, 438, 441, 444, 447, 428, 284] : List Nat).map (fun j => lw_tbl[j]?) := by decide +kernel
set_option maxRecDepth 100000 in
theorem p_ins : (mtI).map (fun q => some (insW q)) = ([139, 253, 257, 404, 408, 412, 316, 308, 93, 266, 270, 320, 324, 333, 341, 349, 357, 366, 290, 294, 373, 377, 394, 215, 262, 275, 299, 109, 125, 121, 117, 113, 105, 338, 346, 98, 281, 329, 354, 362, 305, 382, 386, 390] : List Nat).map (fun j => lw_tbl[j]?) := by decide +kernel
set_option maxRecDepth 100000 in
theorem p_sel : (mtI).map (fun q => some (selW q)) = ([140, 254, 258, 405, 409, 413, 317, 309, 94, 267, 271, 321, 325, 334, 342, 350, 358, 367, 291, 295, 374, 378, 395, 8, 9, 10, 12, 2, 6, 5, 4, 3, 1, 15, 16, 0, 11, 14, 17, 18, 13, 19, 20, 21] : List Nat).map (fun j => lw_tbl[j]?) := by decide +kernel
set_option maxRecDepth 100000 in
theorem g_all : (FLs.map flW ++ (MLs.map mlW ++ (KWs.map kwW ++ (mtAll.map wC ++ (mtAll.map iniW ++ (mtS.map staW ++ (mtI.map insW ++ mtI.map selW))))))).all goodWord = true := by decide +kernel
def mtOk (i : Nat) : Bool := plainName (mY i).cls && decide (mO i < 4) && decide ((mY i).cls = oN (mO i)) && decide ((mY i).cls ≠ "java/lang/invoke/MethodHandle") && decide ((mY i).cls ≠ "java/lang/invoke/VarHandle") && decide ((parseMethodDescriptor (mY i).desc).map (fun d => d.parameters.length) = some (mN i)) && (match mS i with
  | true => decide (i ∈ mtS)
  | false => decide (i ∈ mtI))
set_option maxRecDepth 100000 in
theorem mtOk_a : mtAll.all mtOk = true := by decide +kernel
def slA (q : Nat × Nat) : List Cond := vx_atS RX0 q.1 (exN q.2) exU
def bwN : List MethodName := [Bundle.initS "java/lang/RuntimeException", Bundle.initS "java/lang/Exception", Bundle.initS "java/lang/Throwable"]
set_option maxRecDepth 100000 in
theorem p_at90 : ((slA (90, 2)).filter goodWord).map some = ([24, 167, 176, 180, 183, 185, 168, 169, 37, 38, 170, 175, 181, 201, 157, 202, 159, 203, 161, 171, 173, 163, 197, 198, 200, 163, 247, 248, 249, 191, 191, 192, 193, 194, 194, 195, 196, 197, 246, 237, 239, 178, 240, 241, 242, 243, 166, 165, 244] : List Nat).map (fun j => lw_tbl[j]?) := by decide +kernel
set_option maxRecDepth 100000 in
theorem b_at90 : (slA (90, 2)).all (fun w => goodWord w || decide (w ∈ (Cond.castable (exN 2) (exN 2) :: bwN.map Cond.declares))) = true := by decide +kernel
set_option maxRecDepth 100000 in
theorem v_at90 : (Cond.classLink RX0 86 (exN 2) :: Cond.initialized (exN 2) :: slA (90, 2)).all vx_ot = true := by decide +kernel
set_option maxRecDepth 100000 in
theorem p_at154 : ((slA (154, 1)).filter goodWord).map some = ([24, 167, 176, 180, 183, 185, 168, 169, 37, 38, 170, 175, 181, 201, 157, 202, 159, 203, 161, 171, 173, 163, 197, 198, 200, 163, 228, 229, 230, 191, 191, 192, 193, 194, 194, 195, 196, 197, 227, 218, 220, 179, 221, 222, 223, 224, 166, 165, 225] : List Nat).map (fun j => lw_tbl[j]?) := by decide +kernel
set_option maxRecDepth 100000 in
theorem b_at154 : (slA (154, 1)).all (fun w => goodWord w || decide (w ∈ (Cond.castable (exN 1) (exN 1) :: bwN.map Cond.declares))) = true := by decide +kernel
set_option maxRecDepth 100000 in
theorem v_at154 : (Cond.classLink RX0 150 (exN 1) :: Cond.initialized (exN 1) :: slA (154, 1)).all vx_ot = true := by decide +kernel
set_option maxRecDepth 100000 in
theorem p_at159 : ((slA (159, 0)).filter goodWord).map some = ([24, 167, 176, 180, 183, 185, 168, 169, 37, 38, 170, 175, 181, 201, 157, 202, 159, 203, 161, 171, 173, 163, 197, 198, 200, 163, 188, 189, 190, 191, 191, 192, 193, 194, 194, 195, 196, 197, 187, 146, 154, 155, 156, 158, 160, 162, 166, 165, 164] : List Nat).map (fun j => lw_tbl[j]?) := by decide +kernel
set_option maxRecDepth 100000 in
theorem b_at159 : (slA (159, 0)).all (fun w => goodWord w || decide (w ∈ (Cond.castable (exN 0) (exN 0) :: bwN.map Cond.declares))) = true := by decide +kernel
set_option maxRecDepth 100000 in
theorem v_at159 : (Cond.classLink RX0 155 (exN 0) :: Cond.initialized (exN 0) :: slA (159, 0)).all vx_ot = true := by decide +kernel
def xcW (q : Nat × Nat) : Cond := Cond.classLink RX0 q.1 (exN q.2)
def xiW (e : Nat) : Cond := Cond.initialized (exN e)
def lcW (q : Nat × Nat) : Cond := Cond.classLink RL q.1 (exN q.2)
set_option maxRecDepth 100000 in
theorem p_xc : (([(86, 2), (150, 1), (155, 0)] : List (Nat × Nat))).map (fun q => some (xcW q)) = ([236, 217, 145] : List Nat).map (fun j => lw_tbl[j]?) := by decide +kernel
set_option maxRecDepth 100000 in
theorem p_xi : (([0, 1, 2] : List Nat)).map (fun q => some (xiW q)) = ([30, 27, 28] : List Nat).map (fun j => lw_tbl[j]?) := by decide +kernel
set_option maxRecDepth 100000 in
theorem p_lc : (([(37, 0), (39, 1), (41, 2)] : List (Nat × Nat))).map (fun q => some (lcW q)) = ([135, 136, 137] : List Nat).map (fun j => lw_tbl[j]?) := by decide +kernel
def lay0 : List Cond := u_ws RX0 TX0 17
set_option maxRecDepth 100000 in
theorem p_lay0 : lay0.map some = ([56, 58, 60, 62, 64, 66, 68, 70, 72, 74, 76, 78, 80, 82, 84, 86, 88] : List Nat).map (fun j => lw_tbl[j]?) := by decide +kernel
set_option maxRecDepth 100000 in
theorem g_lay : lay0.all goodWord = true := by decide +kernel
set_option maxRecDepth 100000 in
theorem g_all2 : (([(86, 2), (150, 1), (155, 0)] : List (Nat × Nat)).map xcW ++ (([0, 1, 2] : List Nat).map xiW ++ ([(37, 0), (39, 1), (41, 2)] : List (Nat × Nat)).map lcW)).all goodWord = true := by decide +kernel
set_option maxRecDepth 100000 in
theorem p_f0 : lw_tbl[130]? = some (Cond.fieldLink RX0 170 RX0 "FACTORS" "[I") := by decide +kernel
theorem g_f0 : goodWord (Cond.fieldLink RX0 170 RX0 "FACTORS" "[I") = true := by decide +kernel
end
section
abbrev PS : Type := (Nat → Nat → Int32) × (Nat → Nat → Int32) × (Nat → Int64)
abbrev PL : Type := List (Nat × Value)
abbrev PR : Type := Option Int32 ⊕ Nat
abbrev KT : Type := Nat → Nat → PL → List Value → PS → Prop
def shX : List (Option Nat) := [none, some 1, some 2, some 3, some 4, none, none, none, some 5, some 6, none, some 7, some 8, some 9, none, some 10, some 11]
def shO (_ : Nat) : List (Option Nat) := shX
def plO (_ : Nat) : Nat := 0
def ari : List (Option (Nat × Nat)) := [none, some (0, 16), some (0, 16), some (0, 16), some (0, 16), some (0, 8), some (0, 8), some (0, 20), some (0, 20), some (0, 20), some (0, 20), some (0, 20), some (0, 16), some (0, 48), some (0, 16), some (0, 60), some (0, 3)]
def objv (ad : Nat → Nat) (F : Nat → Int32) (sh : List (Option Nat)) : List Value := sh.mapIdx (fun k o => match o with
  | some j => Value.ref (ad j)
  | none => .int (F k))
def ent (ad : Nat → Nat) (cA : Nat → ClassId) (S : PS) (i : Nat) : va_E := match ari.getD i none with
  | some (t, n) => .inl (cA t, n, .inl (S.2.1 i))
  | none => .inr (0, objv ad (S.1 0) shX)
def wld (ad : Nat → Nat) (cA : Nat → ClassId) (S : PS) : va_W := (List.range 17).map (fun i => (ad i, ent ad cA S i))
def rv (ad : Nat → Nat) (b t : Nat) : Value → Value
  | .ref i => .ref (ad i)
  | .retAddr 0 => .ref b
  | .retAddr (_ + 1) => .ref t
  | v => v
def fcv : Nat → Int32 := fun j => ([0, 120, 280, 490, 730, 1000, 1290, 1600, 1930, 2280, 2650] : List Int32).getD j 0
def Ar (N0 : Nat) : Nat → Prop := fun q => N0 ≤ q
def Ad (ad : Nat → Nat) (N0 b : Nat) : Prop := (∀ i j : Nat, i < 17 → j < 17 → ad i = ad j → i = j) ∧ (∀ i : Nat, i < 17 → N0 ≤ ad i) ∧ b < N0
def Ev (D : va_G) (cA : Nat → ClassId) (N0 b L : Nat) (xs : Nat → Int32) (t : Nat) (U : State) (H : Heap) : Prop :=
  va_K D vwCl [(cA 0, .int)] U ∧
  va_Z RX0 "FACTORS" "[I" (.ref t) (Ar N0) U H ∧ va_T .int t 11 (fun j => .int (fcv j)) (Ar N0) U H ∧
  vx_Zq Bundle.tN "UNASSIGNED_STACK" Bundle.steD (Ar N0) U H ∧ vx_Zq Bundle.tN "SUPPRESSED_SENTINEL" Bundle.listD (Ar N0) U H ∧
  va_X b L xs U H ∧ b < H.size ∧ (∀ q ∈ SLs, ∃ sa, vk_R RX0 q.2.1 q.2.2.2.2 sa U) ∧
  (∀ x ∈ bwN, va_Nw (.declares x) U) ∧ (∀ e : Nat, e < 3 → va_Nw (.castable (exN e) (exN e)) U) ∧ (∀ e f : Nat, e < 3 → f < 3 → e ≠ f → va_Nc (exN e) (exN f) U)
theorem Ev.go {D : va_G} {cA : Nat → ClassId} {N0 b L : Nat} {xs : Nat → Int32} {t : Nat} {s U : State} {H H1 : Heap} (h : Ev D cA N0 b L xs t s H) (hb : b < N0) (hW : s.WarmedH U.vm) (hz : H.size ≤ H1.size) (hq : ∀ a : Nat, a < H.size → ¬ Ar N0 a → H1[a]? = H[a]?) : Ev D cA N0 b L xs t U H1 := by
  obtain ⟨h1, h2, h3, h4, h5, h6, h7, h8, h9, h10, h11⟩ := h
  have hA := hW.alike
  have hbA : ¬ Ar N0 b := Nat.not_le.mpr hb
  refine ⟨va_K.moved hA h1, va_Z.moved hA (va_Z.kept h2 hq), va_T.moved hA (va_T.kept h3 hq), vx_Zq.moved hA (vx_Zq.kept h4 hq), vx_Zq.moved hA (vx_Zq.kept h5 hq), ?_, Nat.lt_of_lt_of_le h7 hz, fun q hq => ?_, fun x hx => va_Nw.warmD hW (h9 x hx), fun e he => va_Nw.warmC hW (h10 e he), fun e f he hf hef => va_Nc.moved hA (h11 e f he hf hef)⟩
  · exact va_X.moved hA (va_X.kept h6 (hq b h7 hbA))
  · obtain ⟨sa, hs⟩ := h8 q hq
    exact ⟨sa, vk_R.warm hW hs⟩
abbrev LZ : Nat := 256
def xZ : Nat → Int32 := fun _ => 0
def rm (i k : Nat) : Room := { frames := mF i, cells := k, slots := 6 * k, locals := mLo i }
def wsM (i : Nat) : List Cond := wC i :: TT
def Run (k i : Nat) (as : List Value) (S : PS) (r : PR) (S' : PS) : Prop :=
  ∀ (l : Launch) (D : va_G) (cA : Nat → ClassId) (ad : Nat → Nat) (N0 b t : Nat), l.stackTraces = false → Ad ad N0 b →
    vx_Met l (mY i) (wsM i) (rm i k) (fun a U => a = (as.map (rv ad b t)).toArray ∧ va_P D vwCl (wld ad cA S) U.heap ∧ N0 ≤ U.heap.size ∧ Ev D cA N0 b LZ xZ t U U.heap)
      (fun _ st o u => (∃ v : Option Int32, r = .inl v ∧ o = .returned (v.map Value.int)) ∧ va_P D vwCl (wld ad cA S') u.heap ∧ st.heap.size + k ≤ u.heap.size ∧ va_F (Ar N0) st u)
      (fun E st u => (∃ e : Nat, r = .inr e ∧ e < 3 ∧ E = exN e) ∧ va_P D vwCl (wld ad cA S') u.heap ∧ st.heap.size + k ≤ u.heap.size ∧ va_F (Ar N0) st u) k (6 * k) (Ar N0)
def lkL : PL → Nat → Option Value
  | [], _ => none
  | q :: l, i => match Nat.beq q.1 i with
    | true => some q.2
    | false => lkL l i
def kpb (i : Nat) (q : Nat × Value) : Bool := !(q.1 == i) && !(q.1 + 1 == i && q.2.category == 2)
def delL : PL → Nat → (PL → Prop) → Prop
  | [], _, k => k []
  | q :: l, i, k => match kpb i q with
    | true => delL l i (fun t => k (q :: t))
    | false => delL l i k
def popn : Nat → List Value → List Value → (List Value → List Value → Prop) → Prop
  | 0, acc, st, k => k acc st
  | _ + 1, _, [], _ => False
  | n + 1, acc, v :: st, k => popn n (v :: acc) st k
def catS (st : List Value) : Nat := (st.map fun v => v.category).sum
def lkW : List (Nat × Nat × Nat × Nat) → Nat → Option (Nat × Nat × Nat)
  | [], _ => none
  | q :: l, i => match Nat.beq q.1 i with
    | true => some q.2
    | false => lkW l i
def nrw (ty : Option FieldType) (v : Int32) : Prop := match ty with
  | some y => narrow y (.int v) = .int v
  | none => False
def callK (i : Nat) (P : Nat → PR → PS → Prop) (K : KT) (k nx : Nat) (ls : PL) (rest : List Value) (r : PR) (S' : PS) : Prop := match r with
  | .inl none => K k nx ls rest S'
  | .inl (some v) => K k nx ls (.int v :: rest) S'
  | .inr e => match lkW (wh i) e with
    | none => wh i = [] ∧ P k (.inr e) S'
    | some (_, x, nx') => delL ls x (fun ls' => K k nx' ls' [] S')
def jmp (c : ClassFile.Cond) (x y : Int32) (A B : Prop) : Prop := match c with
  | .eq => (x = y → A) ∧ (¬ x = y → B)
  | .ne => (¬ x = y → A) ∧ (x = y → B)
  | .lt => (x < y → A) ∧ (¬ x < y → B)
  | .ge => (y ≤ x → A) ∧ (¬ y ≤ x → B)
  | .gt => (y < x → A) ∧ (¬ y < x → B)
  | .le => (x ≤ y → A) ∧ (¬ x ≤ y → B)
def ciK : Int → (Int32 → Prop) → Prop
  | .ofNat n, k => k (nI n)
  | .negSucc 0, k => k (-1)
  | .negSucc (n + 1), k => k (Int32.ofInt (.negSucc (n + 1)))
def stp (i L : Nat) (xs : Nat → Int32) (Km : Nat) (P : Nat → PR → PS → Prop) (K : KT) (k : Nat) (ins : Instr) (nx ax : Nat) (ls : PL) (st : List Value) (S : PS) : Prop := match ins with
  | .iconst n => ciK n (fun z => K k nx ls (.int z :: st) S)
  | .bipush n => ciK n (fun z => K k nx ls (.int z :: st) S)
  | .sipush n => ciK n (fun z => K k nx ls (.int z :: st) S)
  | .ldc_w _ => K k nx ls (.int (nI ax) :: st) S
  | .ldc _ => ¬ mO i = 0 ∧ K k nx ls (.int (nI ax) :: st) S
  | .iload_n j => match lkL ls j.val with
    | some (.int x) => K k nx ls (.int x :: st) S
    | _ => False
  | .iload j => match lkL ls j with
    | some (.int x) => K k nx ls (.int x :: st) S
    | _ => False
  | .aload_n j => match lkL ls j.val with
    | some (.ref x) => K k nx ls (.ref x :: st) S
    | some (.retAddr x) => K k nx ls (.retAddr x :: st) S
    | _ => False
  | .aload j => match lkL ls j with
    | some (.ref x) => K k nx ls (.ref x :: st) S
    | some (.retAddr x) => K k nx ls (.retAddr x :: st) S
    | _ => False
  | .istore_n j => match st with
    | .int x :: r => delL ls j.val (fun l => K k nx ((j.val, .int x) :: l) r S)
    | _ => False
  | .istore j => match st with
    | .int x :: r => delL ls j (fun l => K k nx ((j, .int x) :: l) r S)
    | _ => False
  | .iinc j n => match lkL ls j with
    | some (.int x) => ciK n (fun z => delL ls j (fun l => K k nx ((j, .int (x + z)) :: l) st S))
    | _ => False
  | .iadd => match st with
    | .int y :: .int x :: r => K k nx ls (.int (x + y) :: r) S
    | _ => False
  | .isub => match st with
    | .int y :: .int x :: r => K k nx ls (.int (x - y) :: r) S
    | _ => False
  | .imul => match st with
    | .int y :: .int x :: r => K k nx ls (.int (x * y) :: r) S
    | _ => False
  | .iand => match st with
    | .int y :: .int x :: r => K k nx ls (.int (x &&& y) :: r) S
    | _ => False
  | .ior => match st with
    | .int y :: .int x :: r => K k nx ls (.int (x ||| y) :: r) S
    | _ => False
  | .ixor => match st with
    | .int y :: .int x :: r => K k nx ls (.int (x ^^^ y) :: r) S
    | _ => False
  | .idiv => match st with
    | .int y :: .int x :: r => (¬ y = 0) ∧ K k nx ls (.int (x / y) :: r) S
    | _ => False
  | .irem => match st with
    | .int y :: .int x :: r => (¬ y = 0) ∧ K k nx ls (.int (x - x / y * y) :: r) S
    | _ => False
  | .ishl => match st with
    | .int y :: .int x :: r => K k nx ls (.int (x <<< (y &&& 31)) :: r) S
    | _ => False
  | .ishr => match st with
    | .int y :: .int x :: r => K k nx ls (.int (x >>> (y &&& 31)) :: r) S
    | _ => False
  | .iushr => match st with
    | .int y :: .int x :: r => K k nx ls (.int (x.toUInt32 >>> (y.toUInt32 &&& Int32.toUInt32 31)).toInt32 :: r) S
    | _ => False
  | .dup => match st with
    | v :: r => match Nat.beq v.category 1 with
      | true => K k nx ls (v :: v :: r) S
      | false => False
    | _ => False
  | .goto _ => K k ax ls st S
  | .ifCond c _ => match st with
    | .int x :: r => jmp c x 0 (K k ax ls r S) (K k nx ls r S)
    | _ => False
  | .if_icmp c _ => match st with
    | .int y :: .int x :: r => jmp c x y (K k ax ls r S) (K k nx ls r S)
    | _ => False
  | .getfield _ => match st with
    | .ref a :: r => match Nat.beq a (plO (mO i)), (shO (mO i)).getD ax none with
      | true, some j => K k nx ls (.ref j :: r) S
      | true, none => K k nx ls (.int (S.1 a ax) :: r) S
      | false, _ => False
    | _ => False
  | .getstatic _ => K k nx ls (.retAddr 1 :: st) S
  | .iaload => match st with
    | .int j :: .ref a :: r => match ari.getD a none with
      | some (0, n) => vp_in j n ∧ K k nx ls (.int (S.2.1 a j.toNatClampNeg) :: r) S
      | _ => False
    | .int j :: .retAddr 0 :: r => vp_in j L ∧ K k nx ls (.int (xs j.toNatClampNeg) :: r) S
    | .int j :: .retAddr 1 :: r => vp_in j 11 ∧ K k nx ls (.int (fcv j.toNatClampNeg) :: r) S
    | _ => False
  | .arraylength => match st with
    | .ref a :: r => match ari.getD a none with
      | some (_, n) => K k nx ls (.int (Int32.ofNat n) :: r) S
      | _ => False
    | .retAddr 0 :: r => K k nx ls (.int (Int32.ofNat L) :: r) S
    | .retAddr 1 :: r => K k nx ls (.int (Int32.ofNat 11) :: r) S
    | _ => False
  | .invokevirtual _ => popn (mN ax + 1) [] st (fun as rest => match as, Nat.ble (catS rest) 8 with
    | .ref a :: _, true => a = plO (mO ax) ∧ ∃ (k' : Nat) (r : PR) (S' : PS), Run k' ax as S r S' ∧ k + k' ≤ Km ∧ callK i P K (k + k') nx ls rest r S'
    | _, _ => False)
  | .invokestatic _ => popn (mN ax) [] st (fun as rest => match Nat.ble (catS rest) 8 with
    | true => ∃ (k' : Nat) (r : PR) (S' : PS), Run k' ax as S r S' ∧ k + k' ≤ Km ∧ callK i P K (k + k') nx ls rest r S'
    | false => False)
  | .new _ => mO i = 0 ∧ Nat.ble (catS st) 8 = true ∧ k + 1 ≤ Km ∧ P (k + 1) (.inr ax) S
  | .ireturn => match st with
    | [.int v] => nrw (mR i) v ∧ P k (.inl (some v)) S
    | _ => False
  | .return_ => match st with
    | [] => mR i = none ∧ P k (.inl none) S
    | _ => False
  | _ => False
end
section
theorem rv_cat (ad : Nat → Nat) (b t : Nat) (v : Value) : (rv ad b t v).category = v.category := by
  cases v with
  | retAddr n => cases n <;> rfl
  | _ => rfl
theorem lkL_mem : ∀ {ls : PL} {j : Nat} {v : Value}, lkL ls j = some v → (j, v) ∈ ls
  | q :: l, j, v, h => by
    unfold lkL at h
    cases hb : Nat.beq q.1 j with
    | true =>
      rw [hb] at h
      have e1 : q.1 = j := Nat.eq_of_beq_eq_true hb
      have e2 : q.2 = v := Option.some.inj h
      rw [← e1, ← e2]
      exact List.mem_cons_self
    | false =>
      rw [hb] at h
      exact List.mem_cons_of_mem _ (lkL_mem h)
theorem delL_eq : ∀ {ls : PL} {j : Nat} {k : PL → Prop}, delL ls j k → k (ls.filter (kpb j))
  | [], _, _, h => h
  | q :: l, j, k, h => by
    unfold delL at h
    cases hb : kpb j q with
    | true =>
      rw [hb] at h
      have h2 := delL_eq h
      rw [List.filter_cons, hb]
      exact h2
    | false =>
      rw [hb] at h
      have h2 := delL_eq h
      rw [List.filter_cons, hb]
      exact h2
theorem popn_eq : ∀ {n : Nat} {acc st : List Value} {k : List Value → List Value → Prop}, popn n acc st k → ∃ as rest, as.length = n ∧ st = as.reverse ++ rest ∧ k (as ++ acc) rest
  | 0, acc, st, k, h => ⟨[], st, rfl, rfl, h⟩
  | n + 1, acc, [], k, h => False.elim h
  | n + 1, acc, v :: st, k, h => by
    obtain ⟨as, rest, h1, h2, h3⟩ := popn_eq (n := n) (acc := v :: acc) (st := st) (k := k) h
    refine ⟨as ++ [v], rest, by simp [h1], by simp [h2], ?_⟩
    rw [List.append_assoc]
    exact h3
section LSX
variable {ad : Nat → Nat} {b t : Nat}
abbrev lsr (ad : Nat → Nat) (b t : Nat) (ls : PL) : List (Nat × Value) := ls.map (fun q => (q.1, rv ad b t q.2))
theorem lsr_at {Lx : Array Slot} {nL : Nat} {ls : PL} {j : Nat} {v : Value} (hl : lv_has Lx nL (lsr ad b t ls)) (h : lkL ls j = some v) : Lx[j]? = some (.val (rv ad b t v)) :=
  hl.2.2 (j, rv ad b t v) (List.mem_map.mpr ⟨(j, v), lkL_mem h, rfl⟩)
theorem lsr_ix {nL : Nat} {Lx : Array Slot} {ls : PL} {j : Nat} {v : Value} (_ : lv_has Lx nL (lsr ad b t ls)) (h : lkL ls j = some v) : ∃ k : Nat, (lsr ad b t ls)[k]? = some (j, rv ad b t v) :=
  List.getElem?_of_mem (List.mem_map.mpr ⟨(j, v), lkL_mem h, rfl⟩)
theorem lsr_del (ls : PL) (j : Nat) : (lsr ad b t ls).filter (fun q => !(q.1 == j) && !(q.1 + 1 == j && q.2.category == 2)) = lsr ad b t (ls.filter (kpb j)) := by
  unfold lsr
  rw [List.filter_map]
  congr 1
  apply List.filter_congr
  intro q _
  simp only [Function.comp, kpb, rv_cat]
theorem lsr_sub {Lx : Array Slot} {nL : Nat} {ls ls' : PL} (hl : lv_has Lx nL (lsr ad b t ls)) (h : ∀ q ∈ ls', q ∈ ls) : lv_has Lx nL (lsr ad b t ls') := by
  refine ⟨hl.1, hl.2.1, fun q hq => ?_⟩
  obtain ⟨q0, h0, rfl⟩ := List.mem_map.mp hq
  exact hl.2.2 _ (List.mem_map.mpr ⟨q0, h q0 h0, rfl⟩)
end LSX
section WLD
variable {ad : Nat → Nat} {cA : Nat → ClassId} {S S' : PS}
theorem wld_at {a : Nat} (h : a < 17) : (wld ad cA S)[a]? = some (ad a, ent ad cA S a) := by
  unfold wld
  rw [List.getElem?_map, List.getElem?_range h]
  rfl
theorem wld_lt {k : Nat} {q : Nat × va_E} (h : (wld ad cA S)[k]? = some q) : k < 17 ∧ q = (ad k, ent ad cA S k) := by
  have hk : k < 17 := by
    have := (List.getElem?_eq_some_iff.mp h).1
    simpa [wld] using this
  rw [wld_at hk] at h
  exact ⟨hk, (Option.some.inj h).symm⟩
theorem wld_D {N0 b : Nat} (h : Ad ad N0 b) : va_D (Ar N0) (wld ad cA S) := by
  refine ⟨fun i j p q hi hj e => ?_, fun k q hk => ?_⟩
  · obtain ⟨h1, rfl⟩ := wld_lt hi
    obtain ⟨h2, rfl⟩ := wld_lt hj
    exact h.1 i j h1 h2 e
  · obtain ⟨h1, rfl⟩ := wld_lt hk
    exact h.2.1 k h1
theorem wld_set {a : Nat} {e : va_E} (h : a < 17) (h1 : ∀ j : Nat, j < 17 → j ≠ a → ent ad cA S' j = ent ad cA S j) (h2 : ent ad cA S' a = e) : (wld ad cA S).set a (ad a, e) = wld ad cA S' := by
  apply List.ext_getElem?
  intro k
  by_cases hk : k < 17
  · by_cases hka : k = a
    · subst hka
      rw [List.getElem?_set_self (by simp [wld]; exact hk), wld_at hk, h2]
    · rw [List.getElem?_set_ne (fun z => hka z.symm), wld_at hk, wld_at hk, h1 k hk hka]
  · rw [List.getElem?_eq_none (by simp [wld]; omega), List.getElem?_eq_none (by simp [wld]; omega)]
theorem ari_lt {a : Nat} {x : Nat × Nat} (h : ari.getD a none = some x) : a < 17 := by
  rcases Nat.lt_or_ge a 17 with h1 | h1
  · exact h1
  · rw [List.getD_eq_getElem?_getD, List.getElem?_eq_none (by simpa [ari] using h1)] at h
    cases h
theorem ent_arr {a t n : Nat} (h : ari.getD a none = some (t, n)) : ent ad cA S a = .inl (cA t, n, .inl (S.2.1 a)) := by
  unfold ent
  rw [h]
theorem ent_obj : ent ad cA S 0 = .inr (0, objv ad (S.1 0) shX) := rfl
theorem objv_at {F : Nat → Int32} {k : Nat} (hk : k < 17) : (objv ad F shX)[k]? = some (match shX.getD k none with
  | some j => Value.ref (ad j)
  | none => .int (F k)) := by
  have hl : k < shX.length := hk
  unfold objv
  rw [List.getElem?_mapIdx, List.getD_eq_getElem?_getD, List.getElem?_eq_getElem hl]
  rfl
end WLD
end
section
theorem lk_in {l : List PE} {pc : Nat} {q : Instr × Nat × Nat} (h : lkp l pc = some q) : (pc, q) ∈ l := by
  induction l with
  | nil => cases h
  | cons x l ih =>
    unfold lkp at h
    cases hb : Nat.beq x.1 pc with
    | true =>
      rw [hb] at h
      have e1 : x.1 = pc := Nat.eq_of_beq_eq_true hb
      have e2 : x.2 = q := Option.some.inj h
      rw [← e1, ← e2]
      exact List.mem_cons_self
    | false =>
      rw [hb] at h
      exact List.mem_cons_of_mem _ (ih h)
theorem okM_all {i : Nat} (hi : i < 67) : okM i = true := by
  have ha := List.all_eq_true.mp okM_a
  have hb := List.all_eq_true.mp okM_b
  rcases Nat.lt_or_ge i 50 with h | h
  · exact ha i (List.mem_range.mpr h)
  · rcases Nat.lt_or_ge i 58 with h2 | h2
    · exact hb i (List.mem_map.mpr ⟨i - 50, List.mem_range.mpr (by omega), by omega⟩)
    · rcases (show i = 58 ∨ i = 59 ∨ i = 60 ∨ i = 61 ∨ i = 62 ∨ i = 63 ∨ i = 64 ∨ i = 65 ∨ i = 66 by omega) with rfl | rfl | rfl | rfl | rfl | rfl | rfl | rfl | rfl
      · exact okM_58
      · exact okM_59
      · exact okM_60
      · exact okM_61
      · exact okM_62
      · exact okM_63
      · exact okM_64
      · exact okM_65
      · exact okM_66
theorem row_ok {i pc nx ax : Nat} {ins : Instr} (hi : i < 67) (h : lkp (pg i) pc = some (ins, nx, ax)) : decode (mB i) pc = .ok (ins, ln ins) ∧ nx = pc + ln ins ∧ okA i (pc, ins, nx, ax) = true := by
  have h1 := List.all_eq_true.mp (okM_all hi) _ (lk_in h)
  simp only [okE, Bool.and_eq_true, decide_eq_true_eq] at h1
  exact ⟨h1.1.1, h1.1.2, h1.2⟩
theorem gd {w : Cond} (h : w ∈ (FLs.map flW ++ (MLs.map mlW ++ (KWs.map kwW ++ (mtAll.map wC ++ (mtAll.map iniW ++ (mtS.map staW ++ (mtI.map insW ++ mtI.map selW)))))))) : goodWord w = true := List.all_eq_true.mp g_all w h
theorem in_fl {q : Nat × Nat × Nat} (h : q ∈ FLs) : flW q ∈ TT := inTT (at_tbl p_fl h) (gd (List.mem_append_left _ (List.mem_map.mpr ⟨q, h, rfl⟩)))
theorem in_ml {q : Nat × Nat × Nat} (h : q ∈ MLs) : mlW q ∈ TT := inTT (at_tbl p_ml h) (gd (List.mem_append_right _ (List.mem_append_left _ (List.mem_map.mpr ⟨q, h, rfl⟩))))
theorem in_kw {q : Nat × Nat × Nat} (h : q ∈ KWs) : kwW q ∈ TT := inTT (at_tbl p_kw h) (gd (List.mem_append_right _ (List.mem_append_right _ (List.mem_append_left _ (List.mem_map.mpr ⟨q, h, rfl⟩)))))
theorem in_code {i : Nat} (h : i ∈ mtAll) : wC i ∈ TT := inTT (code_tbl h) (gd (List.mem_append_right _ (List.mem_append_right _ (List.mem_append_right _ (List.mem_append_left _ (List.mem_map.mpr ⟨i, h, rfl⟩))))))
theorem in_ini {i : Nat} (h : i ∈ mtAll) : iniW i ∈ TT := inTT (at_tbl p_ini h) (gd (List.mem_append_right _ (List.mem_append_right _ (List.mem_append_right _ (List.mem_append_right _ (List.mem_append_left _ (List.mem_map.mpr ⟨i, h, rfl⟩)))))))
theorem in_sta {i : Nat} (h : i ∈ mtS) : staW i ∈ TT := inTT (at_tbl p_sta h) (gd (List.mem_append_right _ (List.mem_append_right _ (List.mem_append_right _ (List.mem_append_right _ (List.mem_append_right _ (List.mem_append_left _ (List.mem_map.mpr ⟨i, h, rfl⟩))))))))
theorem in_ins {i : Nat} (h : i ∈ mtI) : insW i ∈ TT := inTT (at_tbl p_ins h) (gd (List.mem_append_right _ (List.mem_append_right _ (List.mem_append_right _ (List.mem_append_right _ (List.mem_append_right _ (List.mem_append_right _ (List.mem_append_left _ (List.mem_map.mpr ⟨i, h, rfl⟩)))))))))
theorem in_sel {i : Nat} (h : i ∈ mtI) : selW i ∈ TT := inTT (at_tbl p_sel h) (gd (List.mem_append_right _ (List.mem_append_right _ (List.mem_append_right _ (List.mem_append_right _ (List.mem_append_right _ (List.mem_append_right _ (List.mem_append_right _ (List.mem_map.mpr ⟨i, h, rfl⟩)))))))))
theorem tbl_of {ws : List Cond} {ps : List Nat} (h : ws.map some = ps.map (fun j => lw_tbl[j]?)) {w : Cond} (hw : w ∈ ws) : w ∈ lw_tbl := by
  have h1 : some w ∈ ws.map some := List.mem_map.mpr ⟨w, hw, rfl⟩
  rw [h] at h1
  obtain ⟨j, -, hj⟩ := List.mem_map.mp h1
  exact List.mem_of_getElem? hj
theorem in_lay : ∀ w ∈ u_ws RX0 TX0 17, w ∈ TT := fun w hw => inTT (tbl_of p_lay0 hw) (List.all_eq_true.mp g_lay w hw)
theorem in_f0 : Cond.fieldLink RX0 170 RX0 "FACTORS" "[I" ∈ TT := inTT (List.mem_of_getElem? p_f0) g_f0
def fOk (k : Nat) : Bool := decide ((TX0 k).1 = RX0) && (match shX.getD k none with
  | none => decide ((TX0 k).2.2.1 = "I")
  | some _ => true)
theorem fOk_a : (List.range 17).all fOk = true := by decide +kernel
theorem fOk_all {k : Nat} (hk : k < 17) : fOk k = true := List.all_eq_true.mp fOk_a k (List.mem_range.mpr hk)
theorem fl_lt : FLs.all (fun q => decide (q.1 = 0) && decide (q.2.2 < 17)) = true := by decide +kernel
theorem cl_at : vwCl[0]? = some (RX0, TX0, 17) := rfl
theorem mt_ok {i : Nat} (h : i ∈ mtAll) : mtOk i = true := List.all_eq_true.mp mtOk_a i h
section STEP
variable {p : Program} {l : Launch} {e : Env} {R : Room} {s : State} {m : MethodId} {args : Array Value} {below : List Frame} {meth : Method} {c : Code} {Q : State → Prop}
variable {i : Nat} {D : va_G} {cA : Nat → ClassId} {ad : Nat → Nat} {N0 b L : Nat} {xs : Nat → Int32} {t c0 s0 Km : Nat} {P : Nat → PR → PS → Prop}
def Cx (i : Nat) (D : va_G) (cA : Nat → ClassId) (ad : Nat → Nat) (N0 b L : Nat) (xs : Nat → Int32) (t c0 s0 Km : Nat) (p : Program) (l : Launch) (R : Room) (s : State) (m : MethodId) (args : Array Value) (c : Code) : Prop :=
  p.tables.exec = Jvm.exec ∧ c.code = mB i ∧ c.maxLocals = mL i ∧ s.vm.findClass (oN (mO i)) = some m.cls ∧ (∀ w ∈ TT, w.before args s = true) ∧ Ev D cA N0 b LZ xZ t s s.heap ∧ Ad ad N0 b ∧ N0 ≤ s.heap.size ∧ l.stackTraces = false ∧ c.exceptionTable.toList = tableOf (mH i) ∧ R.frames = mF i ∧ R.locals = mLo i ∧ c0 + Km ≤ R.cells ∧ s0 + 6 * Km ≤ R.slots
def Go (D : va_G) (cA : Nat → ClassId) (ad : Nat → Nat) (N0 b t c0 s0 Km i : Nat) (p : Program) (l : Launch) (e : Env) (R : Room) (s : State) (m : MethodId) (args : Array Value) (below : List Frame) (meth : Method) (c : Code) (Q : State → Prop) : KT := fun k pc ls st S =>
  k ≤ Km → ∀ (H : Heap) (locs : List Loc) (Lx : Array Slot), va_P D vwCl (wld ad cA S) H → va_S (Ar N0) s.heap H locs → s.heap.size + k ≤ H.size → lv_has Lx (mL i) (lsr ad b t ls) → W p l e R s m args below meth c H locs (c0 + k) (s0 + 6 * k) Q (F0 m pc Lx (st.map (rv ad b t)))
def En (D : va_G) (cA : Nat → ClassId) (ad : Nat → Nat) (N0 c0 s0 Km i : Nat) (P : Nat → PR → PS → Prop) (p : Program) (l : Launch) (e : Env) (R : Room) (s : State) (m : MethodId) (args : Array Value) (below : List Frame) (meth : Method) (c : Code) (Q : State → Prop) : Prop :=
  (∀ (k : Nat) (v : Int32) (S : PS) (pc : Nat) (H : Heap) (locs : List Loc) (Lx : Array Slot), P k (.inl (some v)) S → k ≤ Km → nrw (mR i) v → decode (mB i) pc = .ok (.ireturn, 1) → va_P D vwCl (wld ad cA S) H → va_S (Ar N0) s.heap H locs → s.heap.size + k ≤ H.size → W p l e R s m args below meth c H locs (c0 + k) (s0 + 6 * k) Q (F0 m pc Lx [.int v])) ∧
  (∀ (k : Nat) (S : PS) (pc : Nat) (H : Heap) (locs : List Loc) (Lx : Array Slot), P k (.inl none) S → k ≤ Km → mR i = none → decode (mB i) pc = .ok (.return_, 1) → va_P D vwCl (wld ad cA S) H → va_S (Ar N0) s.heap H locs → s.heap.size + k ≤ H.size → W p l e R s m args below meth c H locs (c0 + k) (s0 + 6 * k) Q (F0 m pc Lx [])) ∧
  (∀ (k ex : Nat) (S : PS) (pc ik : Nat) (H : Heap) (locs : List Loc) (Lx : Array Slot) (rest : List Value), P (k + 1) (.inr ex) S → k + 1 ≤ Km → mO i = 0 → catS rest ≤ 8 → Lx.size = mL i → decode (mB i) pc = .ok (.new ik, 3) → okN (mB i) pc ik ex = true → 6 ≤ mF i → 90 ≤ mLo i → mH i = [] → va_P D vwCl (wld ad cA S) H → va_S (Ar N0) s.heap H locs → s.heap.size + k ≤ H.size → W p l e R s m args below meth c H locs (c0 + k) (s0 + 6 * k) Q (F0 m pc Lx rest)) ∧
  (∀ (k ex : Nat) (S : PS) (pc : Nat) (H : Heap) (locs : List Loc) (Lx : Array Slot) (rest : List Value) (q : Addr) (ce : Cell), P k (.inr ex) S → k ≤ Km → ex < 3 → mH i = [] → va_P D vwCl (wld ad cA S) H → va_S (Ar N0) s.heap H locs → s.heap.size + k ≤ H.size → H[q]? = some ce → ce.vm = .none → s.vm.findClass (exN ex) = some ce.cls → vx_W p l e R s m args below meth c H locs (c0 + k) (s0 + 6 * k) Q (F0 m pc Lx rest) q)
abbrev GO (D : va_G) (cA : Nat → ClassId) (ad : Nat → Nat) (N0 b t c0 s0 Km i : Nat) (p : Program) (l : Launch) (e : Env) (R : Room) (s : State) (m : MethodId) (args : Array Value) (below : List Frame) (meth : Method) (c : Code) (Q : State → Prop) : KT := Go D cA ad N0 b t c0 s0 Km i p l e R s m args below meth c Q
theorem go_weak {k pc : Nat} {ls ls' : PL} {st : List Value} {S : PS} (h : ∀ q ∈ ls', q ∈ ls) (g : Go D cA ad N0 b t c0 s0 Km i p l e R s m args below meth c Q k pc ls' st S) : Go D cA ad N0 b t c0 s0 Km i p l e R s m args below meth c Q k pc ls st S :=
  fun hk H locs Lx hP hS hB hl => g hk H locs Lx hP hS hB (lsr_sub hl h)
theorem go_jmp {cc : ByteArray} {k pc ax nx : Nat} {off : Int} {cnd : ClassFile.Cond} {ls : PL} {st : List Value} {S : PS} {x y : Int32} {H : Heap} {locs : List Loc} {Lx : Array Slot} {c1 s1 : Nat} (hx : p.tables.exec = Jvm.exec) (hb : c.code = cc) (ht : (pc : Int) + off = (ax : Int)) (hd : decode cc pc = .ok (.if_icmp cnd off, 3)) {A B : Prop}
    (ka : A → W p l e R s m args below meth c H locs c1 s1 Q (F0 m ax Lx st)) (kb : B → W p l e R s m args below meth c H locs c1 s1 Q (F0 m (pc + 3) Lx st)) (h : jmp cnd x y A B) : W p l e R s m args below meth c H locs c1 s1 Q (F0 m pc Lx (.int y :: .int x :: st)) := by
  cases cnd with
  | eq => exact lv_icmp_eq hx hb hd ht (fun z => ka (h.1 z)) (fun z => kb (h.2 z))
  | ne => exact lv_icmp_ne hx hb hd ht (fun z => ka (h.1 z)) (fun z => kb (h.2 z))
  | lt => exact lv_icmp_lt hx hb hd ht (fun z => ka (h.1 z)) (fun z => kb (h.2 z))
  | ge => exact lv_icmp_ge hx hb hd ht (fun z => ka (h.1 z)) (fun z => kb (h.2 z))
  | gt => exact lv_icmp_gt hx hb hd ht (fun z => ka (h.1 z)) (fun z => kb (h.2 z))
  | le => exact lv_icmp_le hx hb hd ht (fun z => ka (h.1 z)) (fun z => kb (h.2 z))
theorem go_jmp0 {cc : ByteArray} {k pc ax nx : Nat} {off : Int} {cnd : ClassFile.Cond} {ls : PL} {st : List Value} {S : PS} {x : Int32} {H : Heap} {locs : List Loc} {Lx : Array Slot} {c1 s1 : Nat} (hx : p.tables.exec = Jvm.exec) (hb : c.code = cc) (ht : (pc : Int) + off = (ax : Int)) (hd : decode cc pc = .ok (.ifCond cnd off, 3)) {A B : Prop}
    (ka : A → W p l e R s m args below meth c H locs c1 s1 Q (F0 m ax Lx st)) (kb : B → W p l e R s m args below meth c H locs c1 s1 Q (F0 m (pc + 3) Lx st)) (h : jmp cnd x 0 A B) : W p l e R s m args below meth c H locs c1 s1 Q (F0 m pc Lx (.int x :: st)) := by
  cases cnd with
  | eq => exact lv_if_eq hx hb hd ht (fun z => ka (h.1 z)) (fun z => kb (h.2 z))
  | ne => exact lv_if_ne hx hb hd ht (fun z => ka (h.1 z)) (fun z => kb (h.2 z))
  | lt => exact lv_if_lt hx hb hd ht (fun z => ka (h.1 z)) (fun z => kb (h.2 z))
  | ge => exact lv_if_ge hx hb hd ht (fun z => ka (h.1 z)) (fun z => kb (h.2 z))
  | gt => exact lv_if_gt hx hb hd ht (fun z => ka (h.1 z)) (fun z => kb (h.2 z))
  | le => exact lv_if_le hx hb hd ht (fun z => ka (h.1 z)) (fun z => kb (h.2 z))
end STEP
section CALL
variable {p : Program} {l : Launch} {e : Env} {R : Room} {s : State} {m : MethodId} {args : Array Value} {below : List Frame} {meth : Method} {c : Code} {Q : State → Prop}
variable {i : Nat} {D : va_G} {cA : Nat → ClassId} {ad : Nat → Nat} {N0 b L : Nat} {xs : Nat → Int32} {t c0 s0 Km : Nat} {P : Nat → PR → PS → Prop}
theorem good_TT {ws : List Cond} (h : ∀ w ∈ ws, w ∈ TT) : GoodIn TT ws := fun w hw => ⟨h w hw, good_of_word (TT_good (h w hw))⟩
theorem wsM_in {j : Nat} (h : j ∈ mtAll) : ∀ w ∈ wsM j, w ∈ TT := fun w hw => (List.mem_cons.mp hw).elim (fun z => by rw [z]; exact in_code h) (fun z => z)
theorem wC_nil {j : Nat} (h : mH j = []) : wC j = .code (mY j) (mB j) (mL j) (mR j) := by
  unfold wC
  rw [h]
theorem wC_cons {j : Nat} (h : ¬ mH j = []) : wC j = .codeWith (mY j) (mB j) (mL j) (mR j) (mH j) := by
  unfold wC
  split
  · rename_i h9
    exact absurd h9 h
  · rfl
theorem lkW_split : ∀ {w : List (Nat × Nat × Nat × Nat)} {e : Nat} {q : Nat × Nat × Nat}, lkW w e = some q → ∃ pre suf, w = pre ++ (e, q) :: suf ∧ ∀ z ∈ pre, z.1 ≠ e
  | z :: w, e, q, h => by
    unfold lkW at h
    cases hb : Nat.beq z.1 e with
    | true =>
      rw [hb] at h
      have e1 : z.1 = e := Nat.eq_of_beq_eq_true hb
      have e2 : z.2 = q := Option.some.inj h
      exact ⟨[], w, by rw [← e1, ← e2]; rfl, fun _ h => nomatch h⟩
    | false =>
      rw [hb] at h
      obtain ⟨pre, suf, h1, h2⟩ := lkW_split h
      refine ⟨z :: pre, suf, by rw [h1]; rfl, fun y hy => ?_⟩
      rcases List.mem_cons.mp hy with rfl | hy
      · intro hz
        rw [hz] at hb
        simp at hb
      · exact h2 y hy
theorem in_lc {e : Nat} (he : e < 3) : Cond.classLink RL (ctx e) (exN e) ∈ TT := by
  have key : ∀ q ∈ ([(37, 0), (39, 1), (41, 2)] : List (Nat × Nat)), lcW q ∈ TT := fun q hq => inTT (at_tbl p_lc hq) (List.all_eq_true.mp g_all2 _ (List.mem_append_right _ (List.mem_append_right _ (List.mem_map.mpr ⟨q, hq, rfl⟩))))
  rcases (show e = 0 ∨ e = 1 ∨ e = 2 by omega) with rfl | rfl | rfl
  · exact key (37, 0) (by decide)
  · exact key (39, 1) (by decide)
  · exact key (41, 2) (by decide)
theorem okW_all {j : Nat} (h : j < 67) : okW j = true := List.all_eq_true.mp okW_a j (List.mem_range.mpr h)
theorem go_back {k k' pc nx ax : Nat} {ls : PL} {rest : List Value} {S' : PS} {r : PR} {ins : Instr} {idx : Nat} {mc : Nat} {Lx : Array Slot} {H : Heap} {locs : List Loc} {st0 : List Value} {a : Array Value}
    (hi : i < 67) (C : Cx i D cA ad N0 b LZ xZ t c0 s0 Km p l R s m args c) (hE : En D cA ad N0 c0 s0 Km i P p l e R s m args below meth c Q)
    (hx3 : nx = pc + 3) (hown : mH i = [] ∨ (mO i = 2 ∧ pc < wt i)) (hk : k + k' ≤ Km) (hS : va_S (Ar N0) s.heap H locs) (hB : s.heap.size + k ≤ H.size) (hl : lv_has Lx (mL i) (lsr ad b t ls))
    (hr : vx_Run p l e R s m args below meth c H locs (c0 + k) (s0 + 6 * k) k' (6 * k') (F0 m pc Lx st0) (rest.map (rv ad b t)) (fun st o u => (∃ v : Option Int32, r = .inl v ∧ o = .returned (v.map Value.int)) ∧ va_P D vwCl (wld ad cA S') u.heap ∧ st.heap.size + k' ≤ u.heap.size ∧ va_F (Ar N0) st u)
      (fun E st u => (∃ e : Nat, r = .inr e ∧ e < 3 ∧ E = exN e) ∧ va_P D vwCl (wld ad cA S') u.heap ∧ st.heap.size + k' ≤ u.heap.size ∧ va_F (Ar N0) st u) (Ar N0))
    (h : callK i P (Go D cA ad N0 b t c0 s0 Km i p l e R s m args below meth c Q) (k + k') nx ls rest r S') :
    W p l e R s m args below meth c H locs (c0 + k) (s0 + 6 * k) Q (F0 m pc Lx st0) := by
  have e6 : c0 + k + k' = c0 + (k + k') := by omega
  have e7 : s0 + 6 * k + 6 * k' = s0 + 6 * (k + k') := by omega
  intro T hT X
  rcases hr T hT X with ⟨v, st₀, u, T', Lo, h0, X', hL, e1, e2, ⟨⟨v', hr1, hr2⟩, hP', hZ, hF⟩, st⟩ | ⟨q, st₀, u, T', Lo, E, ce, h0, X', hL, e1, e2, ⟨⟨ex, hr1, hr3, hr2⟩, hP', hZ, hF⟩, hce, hcv, hcl, st⟩
  · obtain ⟨-, -, k3⟩ := vx_keep (A0 := Ar N0) (A1 := Ar N0) (H0 := s.heap) (free := Ar N0) h0 e1 hS (fun _ _ z => z) (fun _ z => z) hL hF
    rw [e6, e7] at X'
    rw [← e1] at hP' hZ
    rw [h0] at hZ
    have hB2 : s.heap.size + (k + k') ≤ T'.heap.size := by omega
    subst hr1
    have hv : v = v'.map Value.int := Outcome.returned.inj hr2
    cases v' with
    | none =>
      have g : Go D cA ad N0 b t c0 s0 Km i p l e R s m args below meth c Q (k + k') nx ls rest S' := h
      subst hv
      obtain ⟨t2, a1, b1⟩ := g hk T'.heap (locs ++ Lo) Lx hP' k3 hB2 hl T' rfl X'
      rw [hx3] at a1
      exact ⟨t2, st t2 a1, b1⟩
    | some z =>
      have g : Go D cA ad N0 b t c0 s0 Km i p l e R s m args below meth c Q (k + k') nx ls (.int z :: rest) S' := h
      subst hv
      obtain ⟨t2, a1, b1⟩ := g hk T'.heap (locs ++ Lo) Lx hP' k3 hB2 hl T' rfl X'
      rw [hx3] at a1
      exact ⟨t2, st t2 a1, b1⟩
  · obtain ⟨-, -, k3⟩ := vx_keep (A0 := Ar N0) (A1 := Ar N0) (H0 := s.heap) (free := Ar N0) h0 e1 hS (fun _ _ z => z) (fun _ z => z) hL hF
    rw [e6, e7] at X'
    rw [← e1] at hP' hce hZ
    rw [h0] at hZ
    have hB2 : s.heap.size + (k + k') ≤ T'.heap.size := by omega
    subst hr1
    subst hr2
    have key : vx_W p l e R s m args below meth c T'.heap (locs ++ Lo) (c0 + (k + k')) (s0 + 6 * (k + k')) Q (F0 m pc Lx (rest.map (rv ad b t))) q := by
      obtain ⟨hx, hb, hml, hfc, hts, hEv, hAd, hN0, htr, htab, -, -, -, -⟩ := C
      unfold callK at h
      cases hw : lkW (wh i) ex with
      | none =>
        simp only [hw] at h
        have hmh : mH i = [] := by
          have h9 := okW_all hi
          simp only [okW, Bool.and_eq_true, decide_eq_true_eq] at h9
          rw [h9.1.1, h.1]
          rfl
        exact hE.2.2.2 (k + k') ex S' pc T'.heap (locs ++ Lo) Lx _ q ce h.2 hk hr3 hmh hP' k3 hB2 hce hcv hcl
      | some y =>
        obtain ⟨hp, x, nx'⟩ := y
        simp only [hw] at h
        have g := delL_eq h
        obtain ⟨pre, suf, hsp, hne⟩ := lkW_split hw
        have h9 := okW_all hi
        simp only [okW, Bool.and_eq_true, decide_eq_true_eq, List.all_eq_true, Bool.or_eq_true] at h9
        obtain ⟨⟨hmH, hall⟩, -⟩ := h9
        have hne0 : ¬ mH i = [] := by rw [hmH, hsp]; simp
        have hown2 := hown.resolve_left hne0
        have hfc2 : s.vm.findClass RL = some m.cls := by
          have h8 := hfc
          rw [hown2.1] at h8
          exact h8
        have hrow := hall (ex, hp, x, nx') (by rw [hsp]; exact List.mem_append_right _ List.mem_cons_self)
        have hg : (tableOf (mH i)) = (tableOf (pre.map (fun q => (0, wt i, q.2.1, ctx q.1)))) ++ (⟨0, wt i, hp, ctx ex⟩ : ExceptionTableEntry) :: tableOf (suf.map (fun q => (0, wt i, q.2.1, ctx q.1))) := by
          rw [hmH, hsp]
          simp [tableOf]
        have hcast := hEv.2.2.2.2.2.2.2.2.2.1 ex hr3
        refine vx_catch (own := RL) (name := exN ex) (E := exN ex) (ce := ce) hfc2 _ ⟨0, wt i, hp, ctx ex⟩ _ (htab.trans hg) ?_ ?_ ?_ (hts _ (in_lc hr3)) (va_Nw.use rfl hcast) hce hcv hcl ?_
        · intro z hz
          obtain ⟨z0, hz0, rfl⟩ := List.mem_map.mp hz
          obtain ⟨z1, hz1, rfl⟩ := List.mem_map.mp hz0
          have hz3 : z1.1 < 3 := (hall z1 (by rw [hsp]; exact List.mem_append_left _ hz1)).1.1
          refine Or.inr ⟨?_, exN z1.1, hts _ (in_lc hz3), hEv.2.2.2.2.2.2.2.2.2.2 ex z1.1 hr3 hz3 (fun h => hne z1 hz1 h.symm)⟩
          show ctx z1.1 ≠ 0
          rcases (show z1.1 = 0 ∨ z1.1 = 1 ∨ z1.1 = 2 by omega) with h | h | h <;> rw [h] <;> decide
        · simp [covers, hown2.2]
        · show ctx ex ≠ 0
          rcases (show ex = 0 ∨ ex = 1 ∨ ex = 2 by omega) with h | h | h <;> rw [h] <;> decide
        · obtain ⟨⟨-, hxl⟩, hdd⟩ := hrow
          have fin : ∀ (ls' : Array Slot), lv_has ls' (mL i) ((x, Value.ref q) :: (lsr ad b t ls).filter (fun q => !(q.1 == x) && !(q.1 + 1 == x && q.2.category == 2))) → lv_has ls' (mL i) (lsr ad b t (ls.filter (kpb x))) := by
            intro ls' hh
            rw [lsr_del] at hh
            exact ⟨hh.1, hh.2.1, fun q hq => hh.2.2 q (List.mem_cons_of_mem _ hq)⟩
          rcases hdd with ⟨hd, hn⟩ | ⟨⟨hd, h3⟩, hn⟩
          · refine lv_astore (i := x) hx hb hd hl hxl rfl (fun ls' hh => ?_)
            have g2 := g hk T'.heap (locs ++ Lo) ls' hP' k3 hB2 (fin ls' hh)
            have hn9 : nx' = hp + 2 := hn
            rw [hn9] at g2
            exact g2
          · subst h3
            refine lv_astore_n (i := 3) hx hb hd rfl hl hxl rfl (fun ls' hh => ?_)
            have g2 := g hk T'.heap (locs ++ Lo) ls' hP' k3 hB2 (fin ls' hh)
            have hn9 : nx' = hp + 1 := hn
            rw [hn9] at g2
            exact g2
    obtain ⟨t2, a1, b1⟩ := key T' rfl X'
    exact ⟨t2, st.trans a1, b1⟩
end CALL
end
section
section SND
variable {p : Program} {l : Launch} {e : Env} {R : Room} {s : State} {m : MethodId} {args : Array Value} {below : List Frame} {meth : Method} {c : Code} {Q : State → Prop}
variable {i : Nat} {D : va_G} {cA : Nat → ClassId} {ad : Nat → Nat} {N0 b L : Nat} {xs : Nat → Int32} {t c0 s0 Km : Nat} {P : Nat → PR → PS → Prop}
theorem ciK_eq {n : Int} {k : Int32 → Prop} (h : ciK n k) : k (ci n) := by
  cases n with
  | ofNat n => exact h
  | negSucc n =>
    cases n with
    | zero => exact h
    | succ n => exact h
theorem Ad.at {a : Nat} (h : Ad ad N0 b) (ha : a < 17) : N0 ≤ ad a := h.2.1 a ha
set_option maxHeartbeats 4000000 in
set_option maxRecDepth 100000 in
theorem go_step {k pc nx ax : Nat} {ins : Instr} {ls : PL} {st : List Value} {S : PS} (hi : i < 67) (hi0 : i ≠ 0) (C : Cx i D cA ad N0 b LZ xZ t c0 s0 Km p l R s m args c) (hE : En D cA ad N0 c0 s0 Km i P p l e R s m args below meth c Q)
    (hlk : lkp (pg i) pc = some (ins, nx, ax)) (h : stp i LZ xZ Km P (Go D cA ad N0 b t c0 s0 Km i p l e R s m args below meth c Q) k ins nx ax ls st S) :
    Go D cA ad N0 b t c0 s0 Km i p l e R s m args below meth c Q k pc ls st S := by
  intro hk H locs Lx hP hS hB hl
  obtain ⟨hd, hnx, hA⟩ := row_ok hi hlk
  obtain ⟨hx, hb, hml, hfc, hts, hEv, hAd, hN0, htr, htab, hRf, hRl, hRc, hRs⟩ := id C
  have hD : va_D (Ar N0) (wld ad cA S) := wld_D hAd
  have hK := hEv.1
  have hbA : ¬ Ar N0 b := Nat.not_le.mpr hAd.2.2
  cases ins with
  | iconst n =>
    simp only [okA, decide_eq_true_eq] at hA
    exact lv_iconst hx hb hd hA (by have g := (ciK_eq h) hk H locs Lx hP hS hB hl; rw [hnx] at g; exact g)
  | bipush n =>
    simp only [okA, decide_eq_true_eq] at hA
    exact lv_bipush hx hb hd hA (by have g := (ciK_eq h) hk H locs Lx hP hS hB hl; rw [hnx] at g; exact g)
  | sipush n =>
    simp only [okA, decide_eq_true_eq] at hA
    exact lv_sipush hx hb hd hA (by have g := (ciK_eq h) hk H locs Lx hP hS hB hl; rw [hnx] at g; exact g)
  | ldc_w idx =>
    simp only [okA, decide_eq_true_eq] at hA
    exact lv_ldcw hx hb hfc (hts _ (in_kw hA)) hd (by have g := h hk H locs Lx hP hS hB hl; rw [hnx] at g; exact g)
  | ldc idx =>
    simp only [stp] at h
    simp only [okA, Bool.or_eq_true, decide_eq_true_eq] at hA
    exact lv_ldc hx hb hfc (hts _ (in_kw (hA.resolve_left h.1))) hd (by have g := h.2 hk H locs Lx hP hS hB hl; rw [hnx] at g; exact g)
  | iload_n j =>
    simp only [stp] at h
    split at h
    · rename_i x hj
      exact lv_iload_n hx hb hd rfl (lsr_at hl hj) (by have g := h hk H locs Lx hP hS hB hl; rw [hnx] at g; exact g)
    · exact h.elim
  | iload j =>
    simp only [stp] at h
    split at h
    · rename_i x hj
      exact lv_iload hx hb hd (lsr_at hl hj) (by have g := h hk H locs Lx hP hS hB hl; rw [hnx] at g; exact g)
    · exact h.elim
  | aload_n j =>
    simp only [stp] at h
    split at h
    · rename_i x hj
      exact lv_aload_n hx hb hd rfl (lsr_at hl hj) (by have g := h hk H locs Lx hP hS hB hl; rw [hnx] at g; exact g)
    · rename_i x hj
      cases x with
      | zero => exact lv_aload_n hx hb hd rfl (lsr_at hl hj) (by have g := h hk H locs Lx hP hS hB hl; rw [hnx] at g; exact g)
      | succ x => exact lv_aload_n hx hb hd rfl (lsr_at hl hj) (by have g := h hk H locs Lx hP hS hB hl; rw [hnx] at g; exact g)
    · exact h.elim
  | aload j =>
    simp only [stp] at h
    split at h
    · rename_i x hj
      exact lv_aload hx hb hd (lsr_at hl hj) (by have g := h hk H locs Lx hP hS hB hl; rw [hnx] at g; exact g)
    · rename_i x hj
      cases x with
      | zero => exact lv_aload hx hb hd (lsr_at hl hj) (by have g := h hk H locs Lx hP hS hB hl; rw [hnx] at g; exact g)
      | succ x => exact lv_aload hx hb hd (lsr_at hl hj) (by have g := h hk H locs Lx hP hS hB hl; rw [hnx] at g; exact g)
    · exact h.elim
  | istore_n j =>
    simp only [okA, decide_eq_true_eq] at hA
    simp only [stp] at h
    split at h
    · rename_i x r
      have g0 := delL_eq h
      refine lv_istore_n hx hb hd rfl hl hA rfl (fun Lx' hh => ?_)
      rw [lsr_del] at hh
      have g := g0 hk H locs Lx' hP hS hB hh
      rw [hnx] at g
      exact g
    · exact h.elim
  | istore j =>
    simp only [okA, decide_eq_true_eq] at hA
    simp only [stp] at h
    split at h
    · rename_i x r
      have g0 := delL_eq h
      refine lv_istore hx hb hd hl hA rfl (fun Lx' hh => ?_)
      rw [lsr_del] at hh
      have g := g0 hk H locs Lx' hP hS hB hh
      rw [hnx] at g
      exact g
    · exact h.elim
  | iinc j n =>
    simp only [okA, Bool.and_eq_true, decide_eq_true_eq] at hA
    simp only [stp] at h
    split at h
    · rename_i x hj
      have g0 := delL_eq (ciK_eq h)
      obtain ⟨kk, hkk⟩ := lsr_ix hl hj
      refine lv_iinc (v := x + ci n) hx hb hd hl hkk (by rw [hA.1]) hA.2 rfl (fun Lx' hh => ?_)
      rw [lsr_del] at hh
      have g := g0 hk H locs Lx' hP hS hB hh
      rw [hnx] at g
      exact g
    · exact h.elim
  | iadd =>
    simp only [stp] at h
    split at h
    · exact lv_iadd hx hb hd (by have g := h hk H locs Lx hP hS hB hl; rw [hnx] at g; exact g)
    · exact h.elim
  | isub =>
    simp only [stp] at h
    split at h
    · exact lv_isub hx hb hd (by have g := h hk H locs Lx hP hS hB hl; rw [hnx] at g; exact g)
    · exact h.elim
  | imul =>
    simp only [stp] at h
    split at h
    · exact lv_imul hx hb hd (by have g := h hk H locs Lx hP hS hB hl; rw [hnx] at g; exact g)
    · exact h.elim
  | iand =>
    simp only [stp] at h
    split at h
    · exact lv_iand hx hb hd (by have g := h hk H locs Lx hP hS hB hl; rw [hnx] at g; exact g)
    · exact h.elim
  | ior =>
    simp only [stp] at h
    split at h
    · exact lv_ior hx hb hd (by have g := h hk H locs Lx hP hS hB hl; rw [hnx] at g; exact g)
    · exact h.elim
  | ixor =>
    simp only [stp] at h
    split at h
    · exact lv_ixor hx hb hd (by have g := h hk H locs Lx hP hS hB hl; rw [hnx] at g; exact g)
    · exact h.elim
  | idiv =>
    simp only [stp] at h
    split at h
    · exact lv_idiv hx hb hd h.1 (by have g := h.2 hk H locs Lx hP hS hB hl; rw [hnx] at g; exact g)
    · exact h.elim
  | irem =>
    simp only [stp] at h
    split at h
    · exact lv_irem hx hb hd h.1 (by have g := h.2 hk H locs Lx hP hS hB hl; rw [hnx] at g; exact g)
    · exact h.elim
  | ishl =>
    simp only [stp] at h
    split at h
    · exact lv_ishl hx hb hd (by have g := h hk H locs Lx hP hS hB hl; rw [hnx] at g; exact g)
    · exact h.elim
  | ishr =>
    simp only [stp] at h
    split at h
    · exact lv_ishr hx hb hd (by have g := h hk H locs Lx hP hS hB hl; rw [hnx] at g; exact g)
    · exact h.elim
  | iushr =>
    simp only [stp] at h
    split at h
    · exact lv_iushr hx hb hd rfl (by have g := h hk H locs Lx hP hS hB hl; rw [hnx] at g; exact g)
    · exact h.elim
  | dup =>
    simp only [stp] at h
    split at h
    · rename_i v r
      split at h
      · rename_i hv
        have hv1 : v.category = 1 := Nat.eq_of_beq_eq_true hv
        exact lv_dup hx hb hd (by rw [rv_cat]; exact hv1) (by have g := h hk H locs Lx hP hS hB hl; rw [hnx] at g; exact g)
      · exact h.elim
    · exact h.elim
  | goto off =>
    simp only [okA, decide_eq_true_eq] at hA
    exact lv_goto hx hb hd hA (h hk H locs Lx hP hS hB hl)
  | ifCond cnd off =>
    simp only [okA, decide_eq_true_eq] at hA
    simp only [stp] at h
    split at h
    · exact go_jmp0 (k := k) (nx := nx) (ls := ls) (S := S) hx hb hA hd (fun g => g hk H locs Lx hP hS hB hl) (fun g => by have g := g hk H locs Lx hP hS hB hl; rw [hnx] at g; exact g) h
    · exact h.elim
  | if_icmp cnd off =>
    simp only [okA, decide_eq_true_eq] at hA
    simp only [stp] at h
    split at h
    · exact go_jmp (k := k) (nx := nx) (ls := ls) (S := S) hx hb hA hd (fun g => g hk H locs Lx hP hS hB hl) (fun g => by have g := g hk H locs Lx hP hS hB hl; rw [hnx] at g; exact g) h
    · exact h.elim
  | getfield idx =>
    simp only [okA, decide_eq_true_eq] at hA
    have hlt := List.all_eq_true.mp fl_lt _ hA
    simp only [Bool.and_eq_true, decide_eq_true_eq] at hlt
    obtain ⟨ho, hk17⟩ := hlt
    have hf := fOk_all hk17
    simp only [fOk, Bool.and_eq_true, decide_eq_true_eq] at hf
    have hfc2 : s.vm.findClass RX0 = some m.cls := by rw [ho] at hfc; exact hfc
    have hfl : Cond.fieldLink RX0 idx RX0 (TX0 ax).2.1 (TX0 ax).2.2.1 ∈ TT := by
      rw [ho] at hA
      exact in_fl hA
    simp only [stp] at h
    split at h
    · rename_i a r
      split at h
      · rename_i j ha hj
        have ha1 : a = 0 := Nat.eq_of_beq_eq_true ha
        subst ha1
        have hv := objv_at (ad := ad) (F := S.1 0) hk17
        have hj2 : shX.getD ax none = some j := hj
        rw [hj2] at hv
        refine va_get (T := TX0) (C := RX0) (N := 17) (ref := RX0) hx hb hts in_lay hfc2 hK hP 0 ((wld_at (by decide)).trans (by rw [ent_obj])) cl_at ax hk17 (hts _ hfl) (fun y hy => by rw [hf.1] at hy; exact hy) hv hd ?_
        have g := h hk H locs Lx hP hS hB hl
        rw [hnx] at g
        exact g
      · rename_i ha hj
        have ha1 : a = 0 := Nat.eq_of_beq_eq_true ha
        subst ha1
        have hv := objv_at (ad := ad) (F := S.1 0) hk17
        have hj2 : shX.getD ax none = none := hj
        rw [hj2] at hv
        refine va_get (T := TX0) (C := RX0) (N := 17) (ref := RX0) hx hb hts in_lay hfc2 hK hP 0 ((wld_at (by decide)).trans (by rw [ent_obj])) cl_at ax hk17 (hts _ hfl) (fun y hy => by rw [hf.1] at hy; exact hy) hv hd ?_
        have g := h hk H locs Lx hP hS hB hl
        rw [hnx] at g
        exact g
      · exact h.elim
    · exact h.elim
  | getstatic idx =>
    simp only [okA, Bool.and_eq_true, decide_eq_true_eq] at hA
    have ho : s.vm.findClass RX0 = some m.cls := by rw [hA.2] at hfc; exact hfc
    have h0 := hA.1
    subst h0
    exact va_gets hx hb hEv.2.1 hS ho (hts _ in_f0) (fun y hy => hy) hd (by have g := h hk H locs Lx hP hS hB hl; rw [hnx] at g; exact g)
  | iaload =>
    simp only [stp] at h
    split at h
    · rename_i j a r
      split at h
      · rename_i n ha
        exact va_iald hx hb hK hP a 0 ((wld_at (ari_lt ha)).trans (by rw [ent_arr ha])) rfl h.1 hd (by have g := h.2 hk H locs Lx hP hS hB hl; rw [hnx] at g; exact g)
      · exact h.elim
    · exact va_sld hx hb hEv.2.2.2.2.2.1 hEv.2.2.2.2.2.2.1 hbA hS h.1 hd (by have g := h.2 hk H locs Lx hP hS hB hl; rw [hnx] at g; exact g)
    · exact va_ti hx hb hEv.2.2.1 hS h.1 rfl hd (by have g := h.2 hk H locs Lx hP hS hB hl; rw [hnx] at g; exact g)
    · exact h.elim
  | arraylength =>
    simp only [stp] at h
    split at h
    · rename_i a r
      split at h
      · rename_i t0 n ha
        have h0 : t0 = 0 := by
          have key : ∀ x : Nat, x < 17 → (match ari.getD x none with | some (y, _) => decide (y = 0) | none => true) = true := by decide
          have k1 := key a (ari_lt ha)
          rw [ha] at k1
          simpa using k1
        subst h0
        exact va_alen hx hb hK hP a 0 ((wld_at (ari_lt ha)).trans (by rw [ent_arr ha])) rfl rfl hd (by have g := h hk H locs Lx hP hS hB hl; rw [hnx] at g; exact g)
      · exact h.elim
    · exact va_slen hx hb hEv.2.2.2.2.2.1 hEv.2.2.2.2.2.2.1 hbA hS hd (by have g := h hk H locs Lx hP hS hB hl; rw [hnx] at g; exact g)
    · exact va_tlen hx hb hEv.2.2.1 hS rfl hd (by have g := h hk H locs Lx hP hS hB hl; rw [hnx] at g; exact g)
    · exact h.elim
  | invokevirtual idx =>
    simp only [okA, Bool.and_eq_true, Bool.or_eq_true, decide_eq_true_eq, room2] at hA
    obtain ⟨⟨⟨⟨⟨hml2, hst⟩, hmh⟩, hrm⟩, hall⟩, hown⟩ := hA
    have hmt := mt_ok hall
    simp only [mtOk, hst, Bool.and_eq_true, decide_eq_true_eq] at hmt
    obtain ⟨⟨⟨⟨⟨⟨hpl, ho4⟩, hcls⟩, hn1⟩, hn2⟩, hdesc⟩, hmI⟩ := hmt
    obtain ⟨as, rest, hlen, hst2, h3⟩ := popn_eq h
    simp only [List.append_nil] at h3
    split at h3
    · rename_i a As hcb
      obtain ⟨ha, k', r, S', hrun, hkk, hcall⟩ := h3
      have ho2 : mO ax = 0 := by
        have key : mtI.all (fun j => decide (mO j = 0)) = true := by decide +kernel
        exact of_decide_eq_true (List.all_eq_true.mp key ax hmI)
      subst ha
      have hown9 : mH i = [] ∨ (mO i = 2 ∧ pc < wt i) := by
        rcases hown with z | z
        · exact Or.inl z
        · by_cases hz : mH i = []
          · exact Or.inl hz
          · refine Or.inr ⟨?_, z⟩
            have key : (List.range 67).all (fun j => decide (mH j = []) || decide (mO j = 2)) = true := by decide +kernel
            have k1 := List.all_eq_true.mp key i (List.mem_range.mpr hi)
            simp only [Bool.or_eq_true, decide_eq_true_eq] at k1
            exact k1.resolve_left hz
      refine go_back (ins := .invokevirtual idx) (idx := idx) (mc := 0) (ax := ax) (k' := k') (r := r) (S' := S') (nx := nx) (ls := ls) (rest := rest) (a := #[]) hi C hE (hnx.trans rfl) hown9 hkk hS hB hl ?_ hcall
      have hG : GoodIn TT (wsV (oN (mO i)) idx (mY ax).cls (mY ax) (wsM ax)) := by
        refine good_TT fun w hw => ?_
        unfold wsV at hw
        rcases List.mem_append.mp hw with hw | hw
        · simp only [List.mem_cons, List.not_mem_nil, or_false] at hw
          rcases hw with rfl | rfl | rfl | rfl
          · exact in_ml hml2
          · exact in_ins hmI
          · exact in_sel hmI
          · exact in_ini hall
        · exact wsM_in hall w hw
      have hcw := cwV (R := R) (s := s) (args := args) (ws := wsM ax) (ws' := TT) (rm := rm ax k') (mc := k') (ms := 6 * k') (bytes := mB ax) (maxL := mL ax) (ret := mR ax) (mN ax) hts hG (by unfold wsM; rw [wC_nil hmh]) rfl rfl ⟨rfl, hn1, hn2, hdesc⟩ (by
        refine ⟨?_, ?_⟩
        · show mF ax + 1 ≤ R.frames
          rw [hRf]; exact hrm.1
        · show 8 + (mL ax + 11) + mLo ax ≤ R.locals
          rw [hRl]; exact hrm.2)
      have hstk : (st.map (rv ad b t)) = (As.map (rv ad b t)).reverse ++ .ref (ad (plO (mO ax))) :: rest.map (rv ad b t) := by
        rw [hst2, List.map_append, ← List.map_reverse]
        simp [rv]
      refine vx_runV (g := F0 m pc Lx (st.map (rv ad b t))) (As := As.map (rv ad b t)) (rest := rest.map (rv ad b t)) (H := H) (locs := locs) (cells := c0 + k) (slots := s0 + 6 * k) (meth := meth) ⟨hx, hb, hml, hfc, hts⟩ (hrun l D cA ad N0 b t htr hAd) hcw ⟨?_, ?_, ?_⟩ rfl ?_ hl.1 hstk (lv_room ?_) hd ⟨by omega, by omega⟩
      · intro a0 U g mk hq
        exact ⟨hq.1, hq.2.1, hq.2.2.1, hq.2.2.2.go hAd.2.2 (State.WarmedH.refl U) (Nat.le_refl _) (fun _ _ _ => rfl)⟩
      · have hr2 := va_recv hK hP cl_at ((wld_at (a := 0) (by decide)).trans (by rw [ent_obj]))
        rw [hcls, ho2]
        exact hr2
      · intro U hU hW
        refine ⟨?_, by rw [hU]; exact hP, by rw [hU]; exact Nat.le_trans hN0 hS.1, by rw [hU]; exact hEv.go hAd.2.2 hW hS.1 hS.2.1⟩
        simp [rv]
      · rw [List.length_map]
        have := hlen
        simp at this
        exact this
      · have : ((rest.map (rv ad b t)).map fun v => v.category).sum = catS rest := by
          unfold catS
          rw [List.map_map]
          congr 1
          apply List.map_congr_left
          intro v _
          exact rv_cat ad b t v
        rw [this]
        exact Nat.le_of_ble_eq_true hcb
    · exact h3.elim
  | invokestatic idx =>
    simp only [okA, Bool.and_eq_true, Bool.or_eq_true, decide_eq_true_eq, room2] at hA
    obtain ⟨⟨⟨⟨hml2, hst⟩, hrm⟩, hall⟩, hown⟩ := hA
    have hmt := mt_ok hall
    simp only [mtOk, hst, Bool.and_eq_true, decide_eq_true_eq] at hmt
    obtain ⟨⟨⟨⟨⟨⟨hpl, ho4⟩, hcls⟩, hn1⟩, hn2⟩, hdesc⟩, hmS⟩ := hmt
    obtain ⟨as, rest, hlen, hst2, h3⟩ := popn_eq h
    simp only [List.append_nil] at h3
    split at h3
    · rename_i hcb
      obtain ⟨k', r, S', hrun, hkk, hcall⟩ := h3
      refine go_back (ins := .invokestatic idx) (idx := idx) (mc := 0) (ax := ax) (k' := k') (r := r) (S' := S') (nx := nx) (ls := ls) (rest := rest) (a := #[]) hi C hE (hnx.trans rfl) (Or.inl hown) hkk hS hB hl ?_ hcall
      have hG : GoodIn TT (va_wsS (oN (mO i)) idx (mY ax) (wsM ax)) := by
        refine good_TT fun w hw => ?_
        unfold va_wsS at hw
        rcases List.mem_append.mp hw with hw | hw
        · simp only [List.mem_cons, List.not_mem_nil, or_false] at hw
          rcases hw with rfl | rfl | rfl
          · exact in_ml hml2
          · exact in_sta hmS
          · exact in_ini hall
        · exact wsM_in hall w hw
      have hR9 : (rm ax k').frames + 1 ≤ R.frames ∧ 8 + (mL ax + 11) + (rm ax k').locals ≤ R.locals := by
        refine ⟨?_, ?_⟩
        · show mF ax + 1 ≤ R.frames
          rw [hRf]; exact hrm.1
        · show 8 + (mL ax + 11) + mLo ax ≤ R.locals
          rw [hRl]; exact hrm.2
      have hstk : (st.map (rv ad b t)) = (as.map (rv ad b t)).reverse ++ rest.map (rv ad b t) := by
        rw [hst2, List.map_append, ← List.map_reverse]
      have hpS : PreS s H (fun a U => a = (as.map (rv ad b t)).toArray ∧ va_P D vwCl (wld ad cA S) U.heap ∧ N0 ≤ U.heap.size ∧ Ev D cA N0 b LZ xZ t U U.heap) (as.map (rv ad b t)) := by
        refine ⟨?_, ?_⟩
        · intro a0 U g mk hq
          exact ⟨hq.1, hq.2.1, hq.2.2.1, hq.2.2.2.go hAd.2.2 (State.WarmedH.refl U) (Nat.le_refl _) (fun _ _ _ => rfl)⟩
        · intro U hU hW
          exact ⟨rfl, by rw [hU]; exact hP, by rw [hU]; exact Nat.le_trans hN0 hS.1, by rw [hU]; exact hEv.go hAd.2.2 hW hS.1 hS.2.1⟩
      have hcat : ((rest.map (rv ad b t)).map fun v => v.category).sum ≤ 8 := by
        have : ((rest.map (rv ad b t)).map fun v => v.category).sum = catS rest := by
          unfold catS
          rw [List.map_map]
          congr 1
          apply List.map_congr_left
          intro v _
          exact rv_cat ad b t v
        rw [this]
        exact Nat.le_of_ble_eq_true hcb
      have hlen2 : (as.map (rv ad b t)).length = mN ax := by rw [List.length_map]; exact hlen
      by_cases hmh : mH ax = []
      · exact vx_runS (g := F0 m pc Lx (st.map (rv ad b t))) (As := as.map (rv ad b t)) (rest := rest.map (rv ad b t)) (H := H) (locs := locs) (cells := c0 + k) (slots := s0 + 6 * k) (meth := meth) ⟨hx, hb, hml, hfc, hts⟩ (hrun l D cA ad N0 b t htr hAd) (va_cwS (R := R) (s := s) (args := args) (ws := wsM ax) (ws' := TT) (rm := rm ax k') (mc := k') (ms := 6 * k') (bytes := mB ax) (maxL := mL ax) (ret := mR ax) (mN ax) hts hG (by unfold wsM; rw [wC_nil hmh]) rfl rfl ⟨hn1, hn2, hdesc⟩ hR9) hpS rfl hlen2 hl.1 hstk (lv_room hcat) hd ⟨by omega, by omega⟩
      · exact vx_runSX (hh := mH ax) (g := F0 m pc Lx (st.map (rv ad b t))) (As := as.map (rv ad b t)) (rest := rest.map (rv ad b t)) (H := H) (locs := locs) (cells := c0 + k) (slots := s0 + 6 * k) (meth := meth) ⟨hx, hb, hml, hfc, hts⟩ (hrun l D cA ad N0 b t htr hAd) (vx_cwSW (R := R) (s := s) (args := args) (ws := wsM ax) (ws' := TT) (rm := rm ax k') (mc := k') (ms := 6 * k') (bytes := mB ax) (maxL := mL ax) (ret := mR ax) (mN ax) hts hG (by unfold wsM; rw [wC_cons hmh]) rfl rfl ⟨hn1, hn2, hdesc⟩ hR9) hpS rfl hlen2 hl.1 hstk (lv_room hcat) hd ⟨by omega, by omega⟩
    · exact h3.elim
  | new ik =>
    simp only [stp] at h
    obtain ⟨ho, hcs, hk1, hPP⟩ := h
    simp only [okA, ho, Bool.or_eq_true, Bool.and_eq_true, decide_eq_true_eq, Bool.not_eq_true', decide_eq_false_iff_not, not_true, false_or, decide_true, Bool.not_true, Bool.false_eq_true] at hA
    obtain ⟨⟨⟨hN, hf6⟩, hl9⟩, hmh⟩ := hA
    have hcs2 : catS (st.map (rv ad b t)) ≤ 8 := by
      have : catS (st.map (rv ad b t)) = catS st := by
        unfold catS
        rw [List.map_map]
        congr 1
        apply List.map_congr_left
        intro v _
        exact rv_cat ad b t v
      rw [this]
      exact Nat.le_of_ble_eq_true hcs
    exact hE.2.2.1 k ax S pc ik H locs Lx _ hPP hk1 ho hcs2 hl.1 hd hN hf6 hl9 hmh hP hS hB
  | ireturn =>
    simp only [stp] at h
    split at h
    · exact hE.1 k _ S pc H locs Lx h.2 hk h.1 hd hP hS hB
    · exact h.elim
  | return_ =>
    simp only [stp] at h
    split at h
    · exact hE.2.1 k S pc H locs Lx h.2 hk h.1 hd hP hS hB
    · exact h.elim
  | _ => exact False.elim h
end SND
end
section
theorem args_map (ad : Nat → Nat) (b t : Nat) : ∀ (j : Nat) (vs : List Value), lv_args j (vs.map (rv ad b t)) = lsr ad b t (lv_args j vs)
  | _, [] => rfl
  | j, v :: vs => by
    have ih := args_map ad b t (if v.category = 2 then j + 2 else j + 1) vs
    simp only [List.map_cons, lv_args, rv_cat] at ih ⊢
    rw [ih]
theorem sl_len : ∀ (vs : List Value), (lg_sl vs).length = (vs.map fun v => v.category).sum
  | [] => rfl
  | v :: vs => by
    have ih := sl_len vs
    unfold lg_sl at ih ⊢
    rw [List.flatMap_cons, List.length_append, List.map_cons, List.sum_cons, ih]
    rcases lv_cat v with h | h <;> simp [h]
theorem sl_at {q : Nat × Nat × Nat × Nat × String} (h : q ∈ SLs) : q.2.2.2.1 < 3 ∧ (∀ w ∈ slA (q.2.2.1, q.2.2.2.1), goodWord w = true → w ∈ TT) ∧ (slA (q.2.2.1, q.2.2.2.1)).all (fun w => goodWord w || decide (w ∈ (Cond.castable (exN q.2.2.2.1) (exN q.2.2.2.1) :: bwN.map Cond.declares))) = true ∧ (Cond.classLink RX0 q.1 (exN q.2.2.2.1) :: Cond.initialized (exN q.2.2.2.1) :: slA (q.2.2.1, q.2.2.2.1)).all vx_ot = true ∧ Cond.classLink RX0 q.1 (exN q.2.2.2.1) ∈ TT ∧ Cond.initialized (exN q.2.2.2.1) ∈ TT := by
  have hg : ∀ {ic e : Nat} {ps : List Nat}, ((slA (ic, e)).filter goodWord).map some = ps.map (fun j => lw_tbl[j]?) → ∀ w ∈ slA (ic, e), goodWord w = true → w ∈ TT := fun hp w hw hgw => inTT (tbl_of hp (List.mem_filter.mpr ⟨hw, hgw⟩)) hgw
  have hxc : ∀ {q : Nat × Nat}, q ∈ ([(86, 2), (150, 1), (155, 0)] : List (Nat × Nat)) → xcW q ∈ TT := fun {q} hq => by
    have hq2 : q ∈ ([(86, 2), (150, 1), (155, 0)] : List (Nat × Nat)) := hq
    exact inTT (at_tbl p_xc hq2) (List.all_eq_true.mp g_all2 _ (List.mem_append_left _ (List.mem_map.mpr ⟨q, hq2, rfl⟩)))
  have hxi : ∀ {e : Nat}, e < 3 → xiW e ∈ TT := fun {e} he => by
    have hq2 : e ∈ ([0, 1, 2] : List Nat) := by
      rcases (show e = 0 ∨ e = 1 ∨ e = 2 by omega) with rfl | rfl | rfl <;> decide
    exact inTT (at_tbl p_xi hq2) (List.all_eq_true.mp g_all2 _ (List.mem_append_right _ (List.mem_append_left _ (List.mem_map.mpr ⟨e, hq2, rfl⟩))))
  have key : SLs.all (fun q => (decide (q.2.2.1 = 90) && decide (q.2.2.2.1 = 2) && decide (q.1 = 86)) || (decide (q.2.2.1 = 154) && decide (q.2.2.2.1 = 1) && decide (q.1 = 150)) || (decide (q.2.2.1 = 159) && decide (q.2.2.2.1 = 0) && decide (q.1 = 155))) = true := by decide +kernel
  have k1 := List.all_eq_true.mp key q h
  simp only [Bool.or_eq_true, Bool.and_eq_true, decide_eq_true_eq] at k1
  obtain ⟨a1, a2, a3, a4, a5⟩ := q
  simp only at k1 ⊢
  rcases k1 with (⟨⟨rfl, rfl⟩, rfl⟩ | ⟨⟨rfl, rfl⟩, rfl⟩) | ⟨⟨rfl, rfl⟩, rfl⟩
  · exact ⟨by decide, hg p_at90, b_at90, v_at90, hxc (q := (86, 2)) (by decide), hxi (e := 2) (by decide)⟩
  · exact ⟨by decide, hg p_at154, b_at154, v_at154, hxc (q := (150, 1)) (by decide), hxi (e := 1) (by decide)⟩
  · exact ⟨by decide, hg p_at159, b_at159, v_at159, hxc (q := (155, 0)) (by decide), hxi (e := 0) (by decide)⟩
section RUN
variable {p : Program} {l : Launch} {e : Env} {s : State} {m : MethodId} {args : Array Value} {below : List Frame} {meth : Method} {c : Code}
variable {i : Nat} {D : va_G} {cA : Nat → ClassId} {ad : Nat → Nat} {N0 b L : Nat} {xs : Nat → Int32} {t K : Nat}
theorem wld_kept {S : PS} {H H1 : Heap} (h : va_P D vwCl (wld ad cA S) H) (hq : ∀ q : Nat, q < H.size → H1[q]? = H[q]?) : va_P D vwCl (wld ad cA S) H1 := va_P.kept h (fun k q hk => hq q.1 (h k q hk).lt)
set_option maxHeartbeats 4000000 in
set_option maxRecDepth 100000 in
theorem en_run {r : PR} {S' : PS} (C : Cx i D cA ad N0 b LZ xZ t 0 0 K p l (rm i K) s m args c) (hrt : meth.sig.returnType = mR i) (hlk : meth.locks = false) :
    En D cA ad N0 0 0 K i (fun k r' S'' => r' = r ∧ (S'' = S' ∧ k = K)) p l e (rm i K) s m args below meth c
      (vx_MQ below (fun _ st o u => (∃ v : Option Int32, r = .inl v ∧ o = .returned (v.map Value.int)) ∧ va_P D vwCl (wld ad cA S') u.heap ∧ st.heap.size + K ≤ u.heap.size ∧ va_F (Ar N0) st u)
        (fun E st u => (∃ e : Nat, r = .inr e ∧ e < 3 ∧ E = exN e) ∧ va_P D vwCl (wld ad cA S') u.heap ∧ st.heap.size + K ≤ u.heap.size ∧ va_F (Ar N0) st u) args s K (6 * K) (Ar N0)) := by
  obtain ⟨hx, hb, hml, hfc, hts, hEv, hAd, hN0, htr, htab, -, -, -, -⟩ := C
  refine ⟨?_, ?_, ?_, ?_⟩
  · intro k v S pc H locs Lx hPP hk hn hd hP hS hB
    obtain ⟨rfl, rfl, hkK⟩ := hPP
    cases hty : mR i with
    | none => rw [hty] at hn; exact hn.elim
    | some ty =>
      rw [hty] at hn
      refine W.widen (k := K) (n := 6 * K) (by omega) (by omega) (vx_ret (W.zret (ty := ty) hx hb (hrt.trans hty) hn ?_ hS.2.2 hd hlk))
      intro u hu _
      exact ⟨⟨some v, rfl, rfl⟩, by rw [hu]; exact hP, by rw [hu]; omega, va_S.F hS hu⟩
  · intro k S pc H locs Lx hPP hk hn hd hP hS hB
    obtain ⟨rfl, rfl, hkK⟩ := hPP
    refine W.widen (k := K) (n := 6 * K) (by omega) (by omega) (vx_ret (W.vret hx hb (hrt.trans hn) ?_ hS.2.2 hd hlk))
    intro u hu _
    exact ⟨⟨none, rfl, rfl⟩, by rw [hu]; exact hP, by rw [hu]; omega, va_S.F hS hu⟩
  · intro k ex S pc ik H locs Lx rest hPP hk ho hcs hsz hd hN hf6 hl9 hmh hP hS hB
    obtain ⟨rfl, rfl, hkK⟩ := hPP
    unfold okN at hN
    split at hN
    · rename_i is n1 ic n2 h4 h6
      simp only [Bool.and_eq_true, decide_eq_true_eq, List.any_eq_true] at hN
      obtain ⟨⟨⟨⟨hn1, hn2⟩, hd3⟩, hd9⟩, q, hq, ⟨⟨hq1, hq2⟩, hq3⟩, hq4⟩ := hN
      subst hn1
      subst hn2
      obtain ⟨a1, a2, a3, a4, tx⟩ := q
      simp only at hq1 hq2 hq3 hq4
      subst hq1
      subst hq2
      subst hq3
      subst hq4
      obtain ⟨he3, hg1, hg2, hg3, hcl1, hcl2⟩ := sl_at hq
      simp only at he3 hg1 hg2 hg3 hcl1 hcl2
      obtain ⟨sa, hsa⟩ := hEv.2.2.2.2.2.2.2.1 _ hq
      have hat : ∀ w ∈ vx_atS RX0 a3 (exN a4) exU, w.before args s = true := by
        intro w hw
        by_cases hgw : goodWord w = true
        · exact hts _ (hg1 w hw hgw)
        · have h1 := List.all_eq_true.mp hg2 w hw
          simp only [Bool.or_eq_true, decide_eq_true_eq] at h1
          rcases List.mem_cons.mp (h1.resolve_left hgw) with rfl | h2
          · exact va_Nw.use rfl (hEv.2.2.2.2.2.2.2.2.2.1 a4 he3)
          · obtain ⟨x, hx1, rfl⟩ := List.mem_map.mp h2
            exact va_Nw.use rfl (hEv.2.2.2.2.2.2.2.2.1 x hx1)
      have ho2 : s.vm.findClass RX0 = some m.cls := by rw [ho] at hfc; exact hfc
      have hfit : Bundle.fit (exN a4) = true := by
        rcases (show a4 = 0 ∨ a4 = 1 ∨ a4 = 2 by omega) with rfl | rfl | rfl <;> decide +kernel
      have hnms : ∀ n ∈ exU, Bundle.fit n = true := by
        have : exU.all Bundle.fit = true := by decide +kernel
        exact fun n hn => List.all_eq_true.mp this n hn
      refine vx_throwS (cls := exN a4) (names := exU) (ik := a1) (is := a2) (ic := a3) (text := tx) (sa := sa) (A := Ar N0) hx hb htr ho2 hfit hnms (hts _ hcl1) (hts _ hcl2) hsa hat (fun w hw => List.all_eq_true.mp hg3 w hw) hEv.2.2.2.1 hEv.2.2.2.2.1 hS (by rw [hsz, hml]) hd hd3 h4 h6 hd9 ?_ ?_ ?_ ?_ ?_ hlk ?_ hS.2.2 ?_ ?_
      · intro x hx9
        rw [htab, hmh] at hx9
        cases hx9
      · show 2 + 3 < mF i
        omega
      · show (rest.map fun v => v.category).sum + (13 * (2 + 1) + 43) ≤ mLo i
        have : catS rest ≤ 8 := hcs
        unfold catS at this
        omega
      · show 0 + k + 1 ≤ K
        omega
      · show 0 + 6 * k + 6 ≤ 6 * K
        omega
      · intro u _ hz hq9
        refine ⟨⟨a4, rfl, he3, rfl⟩, wld_kept hP hq9, by omega, Nat.le_trans hS.1 (by omega), fun q9 h1 h2 => ?_⟩
        rw [hq9 q9 (Nat.lt_of_lt_of_le h1 hS.1)]
        exact hS.2.1 q9 h1 h2
      · omega
      · omega
    · cases hN
  · intro k ex S pc H locs Lx rest q ce hPP hk he3 hmh hP hS hB hce hcv hcl
    obtain ⟨rfl, rfl, hkK⟩ := hPP
    refine vx_out ?_ hlk hce hcv hcl ?_ hS.2.2 (by omega) (by omega)
    · intro x hx9
      rw [htab, hmh] at hx9
      cases hx9
    · intro u hu _
      exact ⟨⟨ex, rfl, he3, rfl⟩, by rw [hu]; exact hP, by rw [hu]; omega, va_S.F hS hu⟩
end RUN
def Cl (i L : Nat) (xs : Nat → Int32) (K : Nat) (P : Nat → PR → PS → Prop) (G : KT) : Prop :=
  (∀ (k pc : Nat) (q : Instr × Nat × Nat) (ls : PL) (st : List Value) (S : PS), lkp (pg i) pc = some q → stp i LZ xZ K P G k q.1 q.2.1 q.2.2 ls st S → G k pc ls st S) ∧
  (∀ (k pc : Nat) (ls ls' : PL) (st : List Value) (S : PS), (∀ q ∈ ls', q ∈ ls) → G k pc ls' st S → G k pc ls st S)
set_option maxHeartbeats 4000000 in
set_option maxRecDepth 100000 in
theorem run_of {K i : Nat} {as : List Value} {S S' : PS} {r : PR} (hi : i ∈ mtAll) (hc : Nat.ble (catS as) (mL i) = true)
    (h : ∀ (G : KT), Cl i LZ xZ K (fun k r' S'' => r' = r ∧ (S'' = S' ∧ k = K)) G → G 0 0 (lv_args 0 as) [] S) : Run K i as S r S' := by
  intro l D cA ad N0 b t htr hAd
  have hmt := mt_ok hi
  simp only [mtOk, Bool.and_eq_true, decide_eq_true_eq] at hmt
  obtain ⟨⟨⟨⟨⟨⟨hpl, ho4⟩, hcls⟩, hn1⟩, hn2⟩, hdesc⟩, -⟩ := hmt
  have hi122 : i < 67 ∧ i ≠ 0 := by
    have key : mtAll.all (fun j => decide (j < 67) && decide (j ≠ 0)) = true := by decide +kernel
    have k1 := List.all_eq_true.mp key i hi
    simp only [Bool.and_eq_true, decide_eq_true_eq] at k1
    exact ⟨k1.1, k1.2⟩
  have body : ∀ (p : Program) (e : Env) (s : State) (m : MethodId) (args : Array Value) (below : List Frame) (meth : Method) (c : Code), p.tables.exec = Jvm.exec → c.code = mB i → c.maxLocals = mL i → s.vm.findClass (mY i).cls = some m.cls → (∀ w ∈ wsM i, w.before args s = true) → meth.sig.returnType = mR i → meth.locks = false → c.exceptionTable.toList = tableOf (mH i) →
      (args = (as.map (rv ad b t)).toArray ∧ va_P D vwCl (wld ad cA S) s.heap ∧ N0 ≤ s.heap.size ∧ Ev D cA N0 b LZ xZ t s s.heap) →
      W p l e (rm i K) s m args below meth c s.heap [] 0 0 (vx_MQ below (fun _ st o u => (∃ v : Option Int32, r = .inl v ∧ o = .returned (v.map Value.int)) ∧ va_P D vwCl (wld ad cA S') u.heap ∧ st.heap.size + K ≤ u.heap.size ∧ va_F (Ar N0) st u)
        (fun E st u => (∃ e : Nat, r = .inr e ∧ e < 3 ∧ E = exN e) ∧ va_P D vwCl (wld ad cA S') u.heap ∧ st.heap.size + K ≤ u.heap.size ∧ va_F (Ar N0) st u) args s K (6 * K) (Ar N0)) (entryFrame m args (mL i)) := by
    intro p e s m args below meth c hx hb hml hfc hts hrt hlk htab hPc
    obtain ⟨rfl, hP, hN0, hEv⟩ := hPc
    have C : Cx i D cA ad N0 b LZ xZ t 0 0 K p l (rm i K) s m (as.map (rv ad b t)).toArray c := ⟨hx, hb, hml, by rw [← hcls]; exact hfc, fun w hw => hts w (List.mem_cons_of_mem _ hw), hEv, hAd, hN0, htr, htab, rfl, rfl, by show 0 + K ≤ K; omega, by show 0 + 6 * K ≤ 6 * K; omega⟩
    have hE := en_run (e := e) (below := below) (r := r) (S' := S') C hrt hlk
    have g := h _ ⟨fun k pc q ls st S hq hs => go_step hi122.1 hi122.2 C hE hq hs, fun k pc ls ls' st S hs g => go_weak hs g⟩
    rw [lg_entry_eq]
    have hle : (lg_sl (as.map (rv ad b t))).length ≤ mL i := by
      rw [sl_len, List.map_map]
      have : (as.map ((fun v : Value => v.category) ∘ rv ad b t)) = as.map (fun v => v.category) := List.map_congr_left (fun v _ => rv_cat ad b t v)
      rw [this]
      exact Nat.le_of_ble_eq_true hc
    have hl := lv_entry (as.map (rv ad b t)) hle
    rw [args_map] at hl
    exact g (Nat.zero_le _) s.heap [] _ hP va_S.rf (Nat.le_refl _) hl
  by_cases hmh : mH i = []
  · refine vx_ofW (cc := mB i) (maxL := mL i) (ret := mR i) (ws' := TT) hpl (by unfold wsM; rw [wC_nil hmh]) ?_
    intro p e s m args below meth c s₁ B hml ht hPc
    refine body p e s m args below meth c B.exec B.bytes hml (findClass_of_methodNamed B.named) (atoms_spec (ws := wsM i) B.pre) B.returns B.notSynchronized ?_ hPc
    rw [hmh]
    cases hq : c.exceptionTable.toList with
    | nil => rfl
    | cons x y => exact absurd (ht x (by rw [hq]; exact List.mem_cons_self)) id
  · refine vx_ofWH (cc := mB i) (maxL := mL i) (ret := mR i) (hh := mH i) (ws' := TT) hpl (by unfold wsM; rw [wC_cons hmh]) ?_
    intro p e s m args below meth c s₁ B hml hPc
    have hts := atoms_spec (ws := wsM i) B.pre
    refine body p e s m args below meth c B.exec B.bytes hml (findClass_of_methodNamed B.named) hts B.returns B.notSynchronized ?_ hPc
    exact vx_table (x := mY i) B (hts _ (by unfold wsM; rw [wC_cons hmh]; exact List.mem_cons_self))
end
section
def bi (p : Prop) [Decidable p] : Int32 := if p then nI 1 else nI 0
theorem bi_t {p : Prop} [Decidable p] (h : p) : bi p = nI 1 := if_pos h
theorem bi_f {p : Prop} [Decidable p] (h : ¬ p) : bi p = nI 0 := if_neg h
theorem bi_0 {p : Prop} [Decidable p] : bi p = 0 ↔ ¬ p := by
  unfold bi
  split
  · rename_i h
    exact ⟨fun z => absurd z (by decide), fun z => absurd h z⟩
  · rename_i h
    exact ⟨fun _ => h, fun _ => rfl⟩
theorem bi_n {p : Prop} [Decidable p] : ¬ bi p = 0 ↔ p := by
  rw [bi_0]
  exact Decidable.not_not
theorem bi_nrw {p : Prop} [Decidable p] : narrow .boolean (.int (bi p)) = .int (bi p) := by
  unfold bi
  split <;> rfl
theorem cx {i : Nat} {P : Nat → PR → PS → Prop} {K : KT} {k k' Km nx ax : Nat} {as rest : List Value} {ls : PL} {S S' : PS} {r : PR} (h : Run k' ax as S r S') (hk : Nat.ble (k + k') Km = true) (g : callK i P K (k + k') nx ls rest r S') : ∃ (k' : Nat) (r : PR) (S' : PS), Run k' ax as S r S' ∧ k + k' ≤ Km ∧ callK i P K (k + k') nx ls rest r S' := ⟨k', r, S', h, Nat.le_of_ble_eq_true hk, g⟩
def allIn : PL → PL → Prop
  | [], _ => True
  | q :: l, ls => match lkL ls q.1, q.2 with
    | some (.int x), .int y => x = y ∧ allIn l ls
    | some (.ref x), .ref y => x = y ∧ allIn l ls
    | some (.retAddr x), .retAddr y => x = y ∧ allIn l ls
    | _, _ => False
theorem allIn_mem : ∀ {l ls : PL}, allIn l ls → ∀ q ∈ l, q ∈ ls
  | x :: l, ls, h, q, hq => by
    have key : lkL ls x.1 = some x.2 ∧ allIn l ls := by
      unfold allIn at h
      split at h
      · rename_i h1 h2
        exact ⟨by rw [h1, h2, h.1], h.2⟩
      · rename_i h1 h2
        exact ⟨by rw [h1, h2, h.1], h.2⟩
      · rename_i h1 h2
        exact ⟨by rw [h1, h2, h.1], h.2⟩
      · exact h.elim
    rcases List.mem_cons.mp hq with rfl | hq
    · exact lkL_mem key.1
    · exact allIn_mem key.2 q hq
theorem wk {i L : Nat} {xs : Nat → Int32} {K : Nat} {P : Nat → PR → PS → Prop} {G : KT} (hG : Cl i L xs K P G) {k pc : Nat} {ls ls' : PL} {st : List Value} {S : PS} (h : allIn ls' ls) (g : G k pc ls' st S) : G k pc ls st S := hG.2 _ _ _ _ _ _ (allIn_mem h) g
def hsI (x n : Int32) : Prop := ¬ x &&& (nI 1 <<< (n &&& 31)) = 0
def hsI_dec (x n : Int32) : Decidable (hsI x n) := inferInstanceAs (Decidable (¬ x &&& (nI 1 <<< (n &&& 31)) = 0))
abbrev hsb (x n : Int32) : Int32 := bi (¬ x &&& (nI 1 <<< (n &&& 31)) = 0)
theorem r_has (S : PS) (x n : Int32) : Run 0 30 [.int x, .int n] S (.inl (some (hsb x n))) S := by
  refine run_of (by decide +kernel) rfl (fun G hG => ?_)
  repeat (refine hG.1 _ _ _ _ _ _ rfl ?_)
  refine And.intro (fun h => ?_) (fun h => ?_)
  · repeat (refine hG.1 _ _ _ _ _ _ rfl ?_)
    refine And.intro rfl (And.intro ?_ (And.intro rfl rfl))
    rw [hsb, bi_f (fun z => z h)]
  · repeat (refine hG.1 _ _ _ _ _ _ rfl ?_)
    refine And.intro rfl (And.intro ?_ (And.intro rfl rfl))
    rw [hsb, bi_t h]
theorem r_needRange (S : PS) (x lo hi : Int32) (h1 : ¬ x < lo) (h2 : x ≤ hi) : Run 0 24 [.int x, .int lo, .int hi] S (.inl none) S := by
  refine run_of (by decide +kernel) rfl (fun G hG => ?_)
  repeat (refine hG.1 _ _ _ _ _ _ rfl ?_)
  refine And.intro (fun h => ?_) (fun h => ?_)
  · exact absurd h h1
  · repeat (refine hG.1 _ _ _ _ _ _ rfl ?_)
    refine And.intro (fun h => ?_) (fun h => ?_)
    · repeat (refine hG.1 _ _ _ _ _ _ rfl ?_)
      refine And.intro rfl (And.intro ?_ (And.intro rfl rfl))
      rfl
    · exact absurd h2 h
theorem r_needRange_x (S : PS) (x lo hi : Int32) (h1 : x < lo ∨ ¬ x ≤ hi) : Run 1 24 [.int x, .int lo, .int hi] S (.inr 0) S := by
  refine run_of (by decide +kernel) rfl (fun G hG => ?_)
  repeat (refine hG.1 _ _ _ _ _ _ rfl ?_)
  refine And.intro (fun h => ?_) (fun h => ?_)
  · repeat (refine hG.1 _ _ _ _ _ _ rfl ?_)
    exact And.intro rfl (And.intro rfl (And.intro (Nat.le_refl _) (And.intro rfl (And.intro rfl rfl))))
  · repeat (refine hG.1 _ _ _ _ _ _ rfl ?_)
    refine And.intro (fun h => ?_) (fun h => ?_)
    · rcases h1 with z | z
      · contradiction
      · exact absurd h z
    · repeat (refine hG.1 _ _ _ _ _ _ rfl ?_)
      exact And.intro rfl (And.intro rfl (And.intro (Nat.le_refl _) (And.intro rfl (And.intro rfl rfl))))
theorem r_needRoom (S : PS) (x hi : Int32) (h1 : x < hi) : Run 0 25 [.int x, .int hi] S (.inl none) S := by
  refine run_of (by decide +kernel) rfl (fun G hG => ?_)
  repeat (refine hG.1 _ _ _ _ _ _ rfl ?_)
  refine And.intro (fun h => ?_) (fun h => ?_)
  · repeat (refine hG.1 _ _ _ _ _ _ rfl ?_)
    refine And.intro rfl (And.intro ?_ (And.intro rfl rfl))
    rfl
  · exact absurd h1 h
theorem r_needRoom_x (S : PS) (x hi : Int32) (h1 : ¬ x < hi) : Run 1 25 [.int x, .int hi] S (.inr 2) S := by
  refine run_of (by decide +kernel) rfl (fun G hG => ?_)
  repeat (refine hG.1 _ _ _ _ _ _ rfl ?_)
  refine And.intro (fun h => ?_) (fun h => ?_)
  · exact absurd h h1
  · repeat (refine hG.1 _ _ _ _ _ _ rfl ?_)
    exact And.intro rfl (And.intro rfl (And.intro (Nat.le_refl _) (And.intro rfl (And.intro rfl rfl))))
theorem r_needNode (S : PS) (x : Int32) (h1 : ¬ x < 0) (h2 : x < S.1 0 0) : Run 0 26 [.ref 0, .int x] S (.inl none) S := by
  refine run_of (by decide +kernel) rfl (fun G hG => ?_)
  repeat (refine hG.1 _ _ _ _ _ _ rfl ?_)
  refine And.intro (fun h => ?_) (fun h => ?_)
  · exact absurd h h1
  · repeat (refine hG.1 _ _ _ _ _ _ rfl ?_)
    refine And.intro (fun h => ?_) (fun h => ?_)
    · repeat (refine hG.1 _ _ _ _ _ _ rfl ?_)
      refine And.intro rfl (And.intro ?_ (And.intro rfl rfl))
      rfl
    · exact absurd h2 h
theorem r_needNode_x (S : PS) (x : Int32) (h1 : x < 0 ∨ ¬ x < S.1 0 0) : Run 1 26 [.ref 0, .int x] S (.inr 1) S := by
  refine run_of (by decide +kernel) rfl (fun G hG => ?_)
  repeat (refine hG.1 _ _ _ _ _ _ rfl ?_)
  refine And.intro (fun h => ?_) (fun h => ?_)
  · repeat (refine hG.1 _ _ _ _ _ _ rfl ?_)
    exact And.intro rfl (And.intro rfl (And.intro (Nat.le_refl _) (And.intro rfl (And.intro rfl rfl))))
  · repeat (refine hG.1 _ _ _ _ _ _ rfl ?_)
    refine And.intro (fun h => ?_) (fun h => ?_)
    · rcases h1 with z | z
      · contradiction
      · exact absurd h z
    · repeat (refine hG.1 _ _ _ _ _ _ rfl ?_)
      exact And.intro rfl (And.intro rfl (And.intro (Nat.le_refl _) (And.intro rfl (And.intro rfl rfl))))
theorem r_needPipe (S : PS) (x : Int32) (h1 : ¬ x ≤ 0) (h2 : x < S.1 0 0) : Run 0 27 [.ref 0, .int x] S (.inl none) S := by
  refine run_of (by decide +kernel) rfl (fun G hG => ?_)
  repeat (refine hG.1 _ _ _ _ _ _ rfl ?_)
  refine And.intro (fun h => ?_) (fun h => ?_)
  · exact absurd h h1
  · repeat (refine hG.1 _ _ _ _ _ _ rfl ?_)
    refine And.intro (fun h => ?_) (fun h => ?_)
    · repeat (refine hG.1 _ _ _ _ _ _ rfl ?_)
      refine And.intro rfl (And.intro ?_ (And.intro rfl rfl))
      rfl
    · exact absurd h2 h
theorem r_needPipe_x (S : PS) (x : Int32) (h1 : x ≤ 0 ∨ ¬ x < S.1 0 0) : Run 1 27 [.ref 0, .int x] S (.inr 1) S := by
  refine run_of (by decide +kernel) rfl (fun G hG => ?_)
  repeat (refine hG.1 _ _ _ _ _ _ rfl ?_)
  refine And.intro (fun h => ?_) (fun h => ?_)
  · repeat (refine hG.1 _ _ _ _ _ _ rfl ?_)
    exact And.intro rfl (And.intro rfl (And.intro (Nat.le_refl _) (And.intro rfl (And.intro rfl rfl))))
  · repeat (refine hG.1 _ _ _ _ _ _ rfl ?_)
    refine And.intro (fun h => ?_) (fun h => ?_)
    · rcases h1 with z | z
      · contradiction
      · exact absurd h z
    · repeat (refine hG.1 _ _ _ _ _ _ rfl ?_)
      exact And.intro rfl (And.intro rfl (And.intro (Nat.le_refl _) (And.intro rfl (And.intro rfl rfl))))
theorem r_needArea (S : PS) (x : Int32) (h1 : ¬ x < 0) (h2 : x < S.1 0 7) : Run 0 28 [.ref 0, .int x] S (.inl none) S := by
  refine run_of (by decide +kernel) rfl (fun G hG => ?_)
  repeat (refine hG.1 _ _ _ _ _ _ rfl ?_)
  refine And.intro (fun h => ?_) (fun h => ?_)
  · exact absurd h h1
  · repeat (refine hG.1 _ _ _ _ _ _ rfl ?_)
    refine And.intro (fun h => ?_) (fun h => ?_)
    · repeat (refine hG.1 _ _ _ _ _ _ rfl ?_)
      refine And.intro rfl (And.intro ?_ (And.intro rfl rfl))
      rfl
    · exact absurd h2 h
theorem r_needArea_x (S : PS) (x : Int32) (h1 : x < 0 ∨ ¬ x < S.1 0 7) : Run 1 28 [.ref 0, .int x] S (.inr 1) S := by
  refine run_of (by decide +kernel) rfl (fun G hG => ?_)
  repeat (refine hG.1 _ _ _ _ _ _ rfl ?_)
  refine And.intro (fun h => ?_) (fun h => ?_)
  · repeat (refine hG.1 _ _ _ _ _ _ rfl ?_)
    exact And.intro rfl (And.intro rfl (And.intro (Nat.le_refl _) (And.intro rfl (And.intro rfl rfl))))
  · repeat (refine hG.1 _ _ _ _ _ _ rfl ?_)
    refine And.intro (fun h => ?_) (fun h => ?_)
    · rcases h1 with z | z
      · contradiction
      · exact absurd h z
    · repeat (refine hG.1 _ _ _ _ _ _ rfl ?_)
      exact And.intro rfl (And.intro rfl (And.intro (Nat.le_refl _) (And.intro rfl (And.intro rfl rfl))))
theorem r_needBurst (S : PS) (x : Int32) (h1 : ¬ x < 0) (h2 : x < S.1 0 10) : Run 0 29 [.ref 0, .int x] S (.inl none) S := by
  refine run_of (by decide +kernel) rfl (fun G hG => ?_)
  repeat (refine hG.1 _ _ _ _ _ _ rfl ?_)
  refine And.intro (fun h => ?_) (fun h => ?_)
  · exact absurd h h1
  · repeat (refine hG.1 _ _ _ _ _ _ rfl ?_)
    refine And.intro (fun h => ?_) (fun h => ?_)
    · repeat (refine hG.1 _ _ _ _ _ _ rfl ?_)
      refine And.intro rfl (And.intro ?_ (And.intro rfl rfl))
      rfl
    · exact absurd h2 h
theorem r_needBurst_x (S : PS) (x : Int32) (h1 : x < 0 ∨ ¬ x < S.1 0 10) : Run 1 29 [.ref 0, .int x] S (.inr 1) S := by
  refine run_of (by decide +kernel) rfl (fun G hG => ?_)
  repeat (refine hG.1 _ _ _ _ _ _ rfl ?_)
  refine And.intro (fun h => ?_) (fun h => ?_)
  · repeat (refine hG.1 _ _ _ _ _ _ rfl ?_)
    exact And.intro rfl (And.intro rfl (And.intro (Nat.le_refl _) (And.intro rfl (And.intro rfl rfl))))
  · repeat (refine hG.1 _ _ _ _ _ _ rfl ?_)
    refine And.intro (fun h => ?_) (fun h => ?_)
    · rcases h1 with z | z
      · contradiction
      · exact absurd h z
    · repeat (refine hG.1 _ _ _ _ _ _ rfl ?_)
      exact And.intro rfl (And.intro rfl (And.intro (Nat.le_refl _) (And.intro rfl (And.intro rfl rfl))))
theorem r_pipesAbove (S : PS) (x n : Int32) : Run 0 31 [.int x, .int n] S (.inl (some (x &&& (-1 : Int32) <<< ((n + nI 1) &&& 31)))) S := by
  refine run_of (by decide +kernel) rfl (fun G hG => ?_)
  repeat (refine hG.1 _ _ _ _ _ _ rfl ?_)
  refine And.intro rfl (And.intro ?_ (And.intro rfl rfl))
  rfl
theorem r_isOpenTo (S : PS) (x sh : Int32) (h : vp_in x 16) : Run 0 32 [.ref 0, .int x, .int sh] S (.inl (some (bi (S.2.1 1 x.toNatClampNeg &&& sh = 0)))) S := by
  refine run_of (by decide +kernel) rfl (fun G hG => ?_)
  repeat (refine hG.1 _ _ _ _ _ _ rfl ?_)
  refine And.intro (h) ?_
  repeat (refine hG.1 _ _ _ _ _ _ rfl ?_)
  refine And.intro (fun h => ?_) (fun h => ?_)
  · repeat (refine hG.1 _ _ _ _ _ _ rfl ?_)
    refine And.intro rfl (And.intro ?_ (And.intro rfl rfl))
    rw [bi_f h]
  · repeat (refine hG.1 _ _ _ _ _ _ rfl ?_)
    refine And.intro rfl (And.intro ?_ (And.intro rfl rfl))
    rw [bi_t h]
end
section
theorem loop_up {n : Nat} {I : Nat → Prop} (hs : ∀ k, k < n → I (k + 1) → I k) (he : I n) : ∀ k, k ≤ n → I k := by
  have h : ∀ d k, k + d = n → I k := by
    intro d
    induction d with
    | zero => intro k hk; have : k = n := by omega
              subst this; exact he
    | succ d ih => intro k hk; exact hs k (by omega) (ih (k + 1) (by omega))
  intro k hk
  exact h (n - k) k (by omega)
abbrev hs (x : Int32) (k : Nat) : Prop := ¬ x &&& (nI 1 <<< (nI k &&& 31)) = 0
def prL (w : Int32) (pr : Nat → Int32) : Nat → Int32
  | 0 => nI 50
  | k + 1 => if hs w (k + 1) ∧ ¬ pr (k + 1) = -1 then pr (k + 1) else prL w pr k
abbrev prs (A : Nat → Nat → Int32) (j : Nat) : Int32 := prL (A 1 j) (A 4) j
theorem r_pressureAt (S : PS) (j : Nat) (hj : j < 16) : Run 0 33 [.ref 0, .int (nI j)] S (.inl (some (prs S.2.1 j))) S := by
  refine run_of (by decide +kernel) rfl (fun G hG => ?_)
  have main : ∀ k, k ≤ j → G 0 5 [(3, .int (nI (k + 1))), (2, .int (prL (S.2.1 1 j) (S.2.1 4) k)), (0, .ref 0), (1, .int (nI j))] [] S := by
    refine loop_up (fun k hk ih => ?_) ?_
    · repeat (refine hG.1 _ _ _ _ _ _ rfl ?_)
      refine And.intro (fun h => ?_) (fun h => ?_)
      · exact absurd h (nI_nlt (by omega) (by omega))
      · repeat (refine hG.1 _ _ _ _ _ _ rfl ?_)
        refine And.intro (vp_in_nI (hj) (by decide)) ?_; rw [nI_clamp (Nat.lt_trans (hj) (by decide))]
        repeat (refine hG.1 _ _ _ _ _ _ rfl ?_)
        refine cx (r_has S _ _) rfl ?_
        repeat (refine hG.1 _ _ _ _ _ _ rfl ?_)
        refine And.intro (fun h1 => ?_) (fun h1 => ?_)
        · rw [bi_0] at h1
          have e : prL (S.2.1 1 j) (S.2.1 4) (k + 1) = prL (S.2.1 1 j) (S.2.1 4) k := by
            rw [prL, if_neg (fun z => h1 z.1)]
          rw [e] at ih
          repeat (first | (refine wk hG ?_ (ih); (repeat (refine And.intro (by first | with_reducible rfl | with_reducible exact nI_add _ _ | with_reducible exact pk_m1 _ | rfl) ?_)); exact trivial) | refine hG.1 _ _ _ _ _ _ rfl ?_)
        · rw [bi_n] at h1
          repeat (refine hG.1 _ _ _ _ _ _ rfl ?_)
          refine And.intro (vp_in_nI ((show k + 1 < 16 by omega)) (by decide)) ?_; rw [nI_clamp (Nat.lt_trans ((show k + 1 < 16 by omega)) (by decide))]
          repeat (refine hG.1 _ _ _ _ _ _ rfl ?_)
          refine And.intro (fun h2 => ?_) (fun h2 => ?_)
          · have e : prL (S.2.1 1 j) (S.2.1 4) (k + 1) = prL (S.2.1 1 j) (S.2.1 4) k := by
              rw [prL, if_neg (fun z => z.2 h2)]
            rw [e] at ih
            repeat (first | (refine wk hG ?_ (ih); (repeat (refine And.intro (by first | with_reducible rfl | with_reducible exact nI_add _ _ | with_reducible exact pk_m1 _ | rfl) ?_)); exact trivial) | refine hG.1 _ _ _ _ _ _ rfl ?_)
          · repeat (refine hG.1 _ _ _ _ _ _ rfl ?_)
            refine And.intro (vp_in_nI ((show k + 1 < 16 by omega)) (by decide)) ?_; rw [nI_clamp (Nat.lt_trans ((show k + 1 < 16 by omega)) (by decide))]
            have e : prL (S.2.1 1 j) (S.2.1 4) (k + 1) = S.2.1 4 (k + 1) := by
              rw [prL, if_pos ⟨h1, h2⟩]
            rw [e] at ih
            repeat (first | (refine wk hG ?_ (ih); (repeat (refine And.intro (by first | with_reducible rfl | with_reducible exact nI_add _ _ | with_reducible exact pk_m1 _ | rfl) ?_)); exact trivial) | refine hG.1 _ _ _ _ _ _ rfl ?_)
    · repeat (refine hG.1 _ _ _ _ _ _ rfl ?_)
      refine And.intro (fun h => ?_) (fun h => ?_)
      · repeat (refine hG.1 _ _ _ _ _ _ rfl ?_)
        refine And.intro rfl (And.intro ?_ (And.intro rfl rfl))
        rfl
      · exact absurd (nI_lt (by omega) (by omega)) h
  have h0 := main 0 (Nat.zero_le _); simp only [prL] at h0; repeat (first | (refine wk hG ?_ (h0); (repeat (refine And.intro (by first | with_reducible rfl | with_reducible exact nI_add _ _ | with_reducible exact pk_m1 _ | rfl) ?_)); exact trivial) | refine hG.1 _ _ _ _ _ _ rfl ?_)
def facV (v : Nat) : Int32 := if v / 10 < 10 then fcv (v / 10) + (fcv (v / 10 + 1) - fcv (v / 10)) * (nI v - nI (v / 10) * nI 10) / nI 10 else fcv 10
abbrev fac (p : Int32) : Int32 := facV p.toNatClampNeg
theorem r_factorFor (S : PS) (v : Nat) (hv : v ≤ 100) : Run 0 34 [.int (nI v)] S (.inl (some (facV v))) S := by
  refine run_of (by decide +kernel) rfl (fun G hG => ?_)
  have hd : nI v / nI 10 = nI (v / 10) := pk_div (by omega) (by omega) (by omega)
  have h10 : (Int32.ofNat 11 - nI 1 : Int32) = nI 10 := by decide
  repeat (refine hG.1 _ _ _ _ _ _ rfl ?_)
  refine And.intro ((by decide : ¬ nI 10 = 0)) ?_
  rw [hd]
  repeat (refine hG.1 _ _ _ _ _ _ rfl ?_)
  refine And.intro (fun h => ?_) (fun h => ?_)
  · exact absurd h (nI_pos (by omega))
  · repeat (refine hG.1 _ _ _ _ _ _ rfl ?_)
    rw [h10]
    refine And.intro (fun h1 => ?_) (fun h1 => ?_)
    · have h2 : v / 10 < 10 := (nI_ltI (by omega) (by omega)).mp h1
      repeat (refine hG.1 _ _ _ _ _ _ rfl ?_)
      rw [nI_add]
      refine And.intro (vp_in_nI ((show v / 10 + 1 < 11 by omega)) (by decide)) ?_; rw [nI_clamp (Nat.lt_trans ((show v / 10 + 1 < 11 by omega)) (by decide))]
      repeat (refine hG.1 _ _ _ _ _ _ rfl ?_)
      refine And.intro (vp_in_nI ((show v / 10 < 11 by omega)) (by decide)) ?_; rw [nI_clamp (Nat.lt_trans ((show v / 10 < 11 by omega)) (by decide))]
      repeat (refine hG.1 _ _ _ _ _ _ rfl ?_)
      refine And.intro (vp_in_nI ((show v / 10 < 11 by omega)) (by decide)) ?_; rw [nI_clamp (Nat.lt_trans ((show v / 10 < 11 by omega)) (by decide))]
      repeat (refine hG.1 _ _ _ _ _ _ rfl ?_)
      refine And.intro ((by decide : ¬ nI 10 = 0)) ?_
      repeat (refine hG.1 _ _ _ _ _ _ rfl ?_)
      refine And.intro rfl (And.intro ?_ (And.intro rfl rfl))
      rw [facV, if_pos h2]
    · have h2 : ¬ v / 10 < 10 := fun z => h1 ((nI_ltI (by omega) (by omega)).mpr z)
      repeat (refine hG.1 _ _ _ _ _ _ rfl ?_)
      rw [h10]
      refine And.intro (vp_in_nI ((show 10 < 11 by omega)) (by decide)) ?_; rw [nI_clamp (Nat.lt_trans ((show 10 < 11 by omega)) (by decide))]
      repeat (refine hG.1 _ _ _ _ _ _ rfl ?_)
      refine And.intro rfl (And.intro ?_ (And.intro rfl rfl))
      rw [facV, if_neg h2]
def PrOk (pr : Nat → Int32) : Prop := ∀ k, k < 16 → pr k = -1 ∨ ∃ v : Nat, v ≤ 100 ∧ pr k = nI v
theorem prL_ok {w : Int32} {pr : Nat → Int32} (h : PrOk pr) : ∀ k, k < 16 → ∃ v : Nat, v ≤ 100 ∧ prL w pr k = nI v
  | 0, _ => ⟨50, by omega, rfl⟩
  | k + 1, hk => by
    rw [prL]
    split
    · rename_i z
      rcases h (k + 1) hk with y | y
      · exact absurd y z.2
      · exact y
    · exact prL_ok h k (by omega)
theorem r_leakageOf (S : PS) (x : Int32) (j : Nat) (hj : j < 16) (hp : PrOk (S.2.1 4)) : Run 0 35 [.ref 0, .int x, .int (nI j)] S (.inl (some (x * fac (prs S.2.1 j) / nI 1000))) S := by
  obtain ⟨v, hv, e⟩ := prL_ok (w := S.2.1 1 j) hp j hj
  refine run_of (by decide +kernel) rfl (fun G hG => ?_)
  repeat (refine hG.1 _ _ _ _ _ _ rfl ?_)
  refine And.intro rfl (cx (r_pressureAt S j hj) rfl ?_)
  repeat (refine hG.1 _ _ _ _ _ _ rfl ?_)
  rw [prs, e]
  refine cx (r_factorFor S v hv) rfl ?_
  repeat (refine hG.1 _ _ _ _ _ _ rfl ?_)
  refine And.intro ((by decide : ¬ nI 1000 = 0)) ?_
  repeat (refine hG.1 _ _ _ _ _ _ rfl ?_)
  refine And.intro rfl (And.intro ?_ (And.intro rfl rfl))
  simp only [fac, prs, e]
  rw [nI_clamp (by omega)]
def amtL (A : Nat → Nat → Int32) (rp : Int32) (j : Nat) : Nat → Int32
  | 0 => A 3 j
  | k + 1 => if A 7 k = nI j ∧ ¬ hs rp k then amtL A rp j k + A 8 k else amtL A rp j k
theorem r_amountAt (S : PS) (j nb : Nat) (hj : j < 16) (hnb : nb ≤ 20) (hb : S.1 0 10 = nI nb) : Run 0 36 [.ref 0, .int (nI j)] S (.inl (some (amtL S.2.1 (S.1 0 14) j nb))) S := by
  refine run_of (by decide +kernel) rfl (fun G hG => ?_)
  have main : ∀ k, k ≤ nb → G 0 9 [(3, .int (nI k)), (2, .int (amtL S.2.1 (S.1 0 14) j k)), (0, .ref 0), (1, .int (nI j))] [] S := by
    refine loop_up (fun k hk ih => ?_) ?_
    · repeat (refine hG.1 _ _ _ _ _ _ rfl ?_)
      rw [hb]
      refine And.intro (fun h => ?_) (fun h => ?_)
      · exact absurd h (nI_ge (by omega) (by omega))
      · repeat (refine hG.1 _ _ _ _ _ _ rfl ?_)
        refine And.intro (vp_in_nI ((show k < 20 by omega)) (by decide)) ?_; rw [nI_clamp (Nat.lt_trans ((show k < 20 by omega)) (by decide))]
        repeat (refine hG.1 _ _ _ _ _ _ rfl ?_)
        refine And.intro (fun h1 => ?_) (fun h1 => ?_)
        · have e : amtL S.2.1 (S.1 0 14) j (k + 1) = amtL S.2.1 (S.1 0 14) j k := by
            rw [amtL, if_neg (fun z => h1 z.1)]
          rw [e] at ih
          repeat (first | (refine wk hG ?_ (ih); (repeat (refine And.intro (by first | with_reducible rfl | with_reducible exact nI_add _ _ | with_reducible exact pk_m1 _ | rfl) ?_)); exact trivial) | refine hG.1 _ _ _ _ _ _ rfl ?_)
        · repeat (refine hG.1 _ _ _ _ _ _ rfl ?_)
          refine cx (r_has S _ _) rfl ?_
          repeat (refine hG.1 _ _ _ _ _ _ rfl ?_)
          refine And.intro (fun h2 => ?_) (fun h2 => ?_)
          · rw [bi_n] at h2
            have e : amtL S.2.1 (S.1 0 14) j (k + 1) = amtL S.2.1 (S.1 0 14) j k := by
              rw [amtL, if_neg (fun z => z.2 h2)]
            rw [e] at ih
            repeat (first | (refine wk hG ?_ (ih); (repeat (refine And.intro (by first | with_reducible rfl | with_reducible exact nI_add _ _ | with_reducible exact pk_m1 _ | rfl) ?_)); exact trivial) | refine hG.1 _ _ _ _ _ _ rfl ?_)
          · rw [bi_0] at h2
            repeat (refine hG.1 _ _ _ _ _ _ rfl ?_)
            refine And.intro (vp_in_nI ((show k < 20 by omega)) (by decide)) ?_; rw [nI_clamp (Nat.lt_trans ((show k < 20 by omega)) (by decide))]
            have e : amtL S.2.1 (S.1 0 14) j (k + 1) = amtL S.2.1 (S.1 0 14) j k + S.2.1 8 k := by
              rw [amtL, if_pos ⟨h1, h2⟩]
            rw [e] at ih
            repeat (first | (refine wk hG ?_ (ih); (repeat (refine And.intro (by first | with_reducible rfl | with_reducible exact nI_add _ _ | with_reducible exact pk_m1 _ | rfl) ?_)); exact trivial) | refine hG.1 _ _ _ _ _ _ rfl ?_)
    · repeat (refine hG.1 _ _ _ _ _ _ rfl ?_)
      rw [hb]
      refine And.intro (fun h => ?_) (fun h => ?_)
      · repeat (refine hG.1 _ _ _ _ _ _ rfl ?_)
        refine And.intro rfl (And.intro ?_ (And.intro rfl rfl))
        rfl
      · exact absurd (nI_le (Nat.le_refl _) (by omega)) h
  repeat (refine hG.1 _ _ _ _ _ _ rfl ?_)
  refine And.intro (vp_in_nI (hj) (by decide)) ?_; rw [nI_clamp (Nat.lt_trans (hj) (by decide))]
  have h0 := main 0 (Nat.zero_le _); simp only [amtL] at h0; repeat (first | (refine wk hG ?_ (h0); (repeat (refine And.intro (by first | with_reducible rfl | with_reducible exact nI_add _ _ | with_reducible exact pk_m1 _ | rfl) ?_)); exact trivial) | refine hG.1 _ _ _ _ _ _ rfl ?_)
def lkgX (A : Nat → Nat → Int32) (nb : Nat) (rp : Int32) (j : Nat) : Int32 := amtL A rp j nb * fac (prs A j) / nI 1000
def tknX (A : Nat → Nat → Int32) (nb : Nat) (rp sh : Int32) (j : Nat) : Int32 := if A 1 j &&& sh = 0 then A 2 j + lkgX A nb rp j else nI 0
def Xn (S : PS) (n nb : Nat) : Prop := S.1 0 0 = nI n ∧ n ≤ 16 ∧ S.1 0 10 = nI nb ∧ nb ≤ 20 ∧ PrOk (S.2.1 4)
theorem r_leakageAt (S : PS) (j n nb : Nat) (hj : j < 16) (hX : Xn S n nb) : Run 0 37 [.ref 0, .int (nI j)] S (.inl (some (lkgX S.2.1 nb (S.1 0 14) j))) S := by
  refine run_of (by decide +kernel) rfl (fun G hG => ?_)
  repeat (refine hG.1 _ _ _ _ _ _ rfl ?_)
  refine And.intro rfl (cx (r_amountAt S j nb hj hX.2.2.2.1 hX.2.2.1) rfl ?_)
  repeat (refine hG.1 _ _ _ _ _ _ rfl ?_)
  refine And.intro rfl (cx (r_leakageOf S _ j hj hX.2.2.2.2) rfl ?_)
  repeat (refine hG.1 _ _ _ _ _ _ rfl ?_)
  refine And.intro rfl (And.intro ?_ (And.intro rfl rfl))
  rfl
theorem r_takenAt (S : PS) (j n nb : Nat) (sh : Int32) (hj : j < 16) (hX : Xn S n nb) : Run 0 38 [.ref 0, .int (nI j), .int sh] S (.inl (some (tknX S.2.1 nb (S.1 0 14) sh j))) S := by
  refine run_of (by decide +kernel) rfl (fun G hG => ?_)
  repeat (refine hG.1 _ _ _ _ _ _ rfl ?_)
  refine And.intro rfl (cx (r_isOpenTo S _ _ (vp_in_nI hj (by decide))) rfl ?_)
  rw [nI_clamp (by omega)]
  repeat (refine hG.1 _ _ _ _ _ _ rfl ?_)
  refine And.intro (fun h => ?_) (fun h => ?_)
  · rw [bi_0] at h
    repeat (refine hG.1 _ _ _ _ _ _ rfl ?_)
    refine And.intro rfl (And.intro ?_ (And.intro rfl rfl))
    rw [tknX, if_neg h]
  · rw [bi_n] at h
    repeat (refine hG.1 _ _ _ _ _ _ rfl ?_)
    refine And.intro (vp_in_nI (hj) (by decide)) ?_; rw [nI_clamp (Nat.lt_trans (hj) (by decide))]
    repeat (refine hG.1 _ _ _ _ _ _ rfl ?_)
    refine And.intro rfl (cx (r_leakageAt S j n nb hj hX) rfl ?_)
    repeat (refine hG.1 _ _ _ _ _ _ rfl ?_)
    refine And.intro rfl (And.intro ?_ (And.intro rfl rfl))
    rw [tknX, if_pos h]
def smL (c : Nat → Bool) (f : Nat → Int32) : Nat → Int32
  | 0 => nI 0
  | k + 1 => if c k = true then smL c f k + f k else smL c f k
theorem smL_t {c : Nat → Bool} {f : Nat → Int32} {k : Nat} (h : c k = true) : smL c f (k + 1) = smL c f k + f k := by rw [smL, if_pos h]
theorem smL_f {c : Nat → Bool} {f : Nat → Int32} {k : Nat} (h : ¬ c k = true) : smL c f (k + 1) = smL c f k := by rw [smL, if_neg h]
theorem r_takenBy (S : PS) (n nb : Nat) (set sh : Int32) (hX : Xn S n nb) : Run 0 39 [.ref 0, .int set, .int sh] S (.inl (some (smL (fun k => decide (hs set k)) (tknX S.2.1 nb (S.1 0 14) sh) n))) S := by
  refine run_of (by decide +kernel) rfl (fun G hG => ?_)
  have main : ∀ k, k ≤ n → G 0 5 [(4, .int (nI k)), (3, .int (smL (fun k => decide (hs set k)) (tknX S.2.1 nb (S.1 0 14) sh) k)), (0, .ref 0), (1, .int set), (2, .int sh)] [] S := by
    have hn := hX.2.1
    refine loop_up (fun k hk ih => ?_) ?_
    · repeat (refine hG.1 _ _ _ _ _ _ rfl ?_)
      rw [hX.1]
      refine And.intro (fun h => ?_) (fun h => ?_)
      · exact absurd h (nI_ge (by omega) (by omega))
      · repeat (refine hG.1 _ _ _ _ _ _ rfl ?_)
        refine cx (r_has S _ _) rfl ?_
        repeat (refine hG.1 _ _ _ _ _ _ rfl ?_)
        refine And.intro (fun h1 => ?_) (fun h1 => ?_)
        · rw [bi_0] at h1
          rw [smL_f (by simpa using h1)] at ih
          repeat (first | (refine wk hG ?_ (ih); (repeat (refine And.intro (by first | with_reducible rfl | with_reducible exact nI_add _ _ | with_reducible exact pk_m1 _ | rfl) ?_)); exact trivial) | refine hG.1 _ _ _ _ _ _ rfl ?_)
        · rw [bi_n] at h1
          rw [smL_t (by simpa using h1)] at ih
          repeat (refine hG.1 _ _ _ _ _ _ rfl ?_)
          refine And.intro rfl (cx (r_takenAt S k n nb _ (by omega) hX) rfl ?_)
          repeat (first | (refine wk hG ?_ (ih); (repeat (refine And.intro (by first | with_reducible rfl | with_reducible exact nI_add _ _ | with_reducible exact pk_m1 _ | rfl) ?_)); exact trivial) | refine hG.1 _ _ _ _ _ _ rfl ?_)
    · repeat (refine hG.1 _ _ _ _ _ _ rfl ?_)
      rw [hX.1]
      refine And.intro (fun h => ?_) (fun h => ?_)
      · repeat (refine hG.1 _ _ _ _ _ _ rfl ?_)
        refine And.intro rfl (And.intro ?_ (And.intro rfl rfl))
        rfl
      · exact absurd (nI_le (Nat.le_refl _) (by omega)) h
  have h0 := main 0 (Nat.zero_le _); simp only [smL] at h0; repeat (first | (refine wk hG ?_ (h0); (repeat (refine And.intro (by first | with_reducible rfl | with_reducible exact nI_add _ _ | with_reducible exact pk_m1 _ | rfl) ?_)); exact trivial) | refine hG.1 _ _ _ _ _ _ rfl ?_)
theorem r_flowTo (S : PS) (n nb : Nat) (top : Int32) (hX : Xn S n nb) : Run 0 41 [.ref 0, .int top] S (.inl (some (smL (fun k => decide (¬ S.2.1 1 k &&& (nI 1 <<< (top &&& 31)) = 0)) (tknX S.2.1 nb (S.1 0 14) (S.1 0 6)) n))) S := by
  refine run_of (by decide +kernel) rfl (fun G hG => ?_)
  have main : ∀ k, k ≤ n → G 0 4 [(3, .int (nI k)), (2, .int (smL (fun k => decide (¬ S.2.1 1 k &&& (nI 1 <<< (top &&& 31)) = 0)) (tknX S.2.1 nb (S.1 0 14) (S.1 0 6)) k)), (0, .ref 0), (1, .int top)] [] S := by
    have hn := hX.2.1
    refine loop_up (fun k hk ih => ?_) ?_
    · repeat (refine hG.1 _ _ _ _ _ _ rfl ?_)
      rw [hX.1]
      refine And.intro (fun h => ?_) (fun h => ?_)
      · exact absurd h (nI_ge (by omega) (by omega))
      · repeat (refine hG.1 _ _ _ _ _ _ rfl ?_)
        refine And.intro (vp_in_nI ((show k < 16 by omega)) (by decide)) ?_; rw [nI_clamp (Nat.lt_trans ((show k < 16 by omega)) (by decide))]
        repeat (refine hG.1 _ _ _ _ _ _ rfl ?_)
        refine cx (r_has S _ _) rfl ?_
        repeat (refine hG.1 _ _ _ _ _ _ rfl ?_)
        refine And.intro (fun h1 => ?_) (fun h1 => ?_)
        · rw [bi_0] at h1
          rw [smL_f (by simpa using h1)] at ih
          repeat (first | (refine wk hG ?_ (ih); (repeat (refine And.intro (by first | with_reducible rfl | with_reducible exact nI_add _ _ | with_reducible exact pk_m1 _ | rfl) ?_)); exact trivial) | refine hG.1 _ _ _ _ _ _ rfl ?_)
        · rw [bi_n] at h1
          rw [smL_t (by simpa using h1)] at ih
          repeat (refine hG.1 _ _ _ _ _ _ rfl ?_)
          refine And.intro rfl (cx (r_takenAt S k n nb _ (by omega) hX) rfl ?_)
          repeat (first | (refine wk hG ?_ (ih); (repeat (refine And.intro (by first | with_reducible rfl | with_reducible exact nI_add _ _ | with_reducible exact pk_m1 _ | rfl) ?_)); exact trivial) | refine hG.1 _ _ _ _ _ _ rfl ?_)
    · repeat (refine hG.1 _ _ _ _ _ _ rfl ?_)
      rw [hX.1]
      refine And.intro (fun h => ?_) (fun h => ?_)
      · repeat (refine hG.1 _ _ _ _ _ _ rfl ?_)
        refine And.intro rfl (And.intro ?_ (And.intro rfl rfl))
        rfl
      · exact absurd (nI_le (Nat.le_refl _) (by omega)) h
  have h0 := main 0 (Nat.zero_le _); simp only [smL] at h0; repeat (first | (refine wk hG ?_ (h0); (repeat (refine And.intro (by first | with_reducible rfl | with_reducible exact nI_add _ _ | with_reducible exact pk_m1 _ | rfl) ?_)); exact trivial) | refine hG.1 _ _ _ _ _ _ rfl ?_)
end
section
abbrev hsv (x v : Int32) : Prop := ¬ x &&& (nI 1 <<< (v &&& 31)) = 0
abbrev okR (x lo hi : Int32) : Prop := ¬ x < lo ∧ x ≤ hi
abbrev noR (x lo hi : Int32) : Prop := x < lo ∨ ¬ x ≤ hi
abbrev noN (x c : Int32) : Prop := x < 0 ∨ ¬ x < c
theorem nI_okn {j n : Nat} (h : j < n) (hn : n ≤ 100) : ¬ nI j < 0 ∧ nI j < nI n := ⟨nI_pos (by omega), nI_lt h (by omega)⟩
theorem nI_okp {j n : Nat} (h0 : 0 < j) (h : j < n) (hn : n ≤ 100) : ¬ nI j ≤ 0 ∧ nI j < nI n := ⟨nI_nle h0 (by omega), nI_lt h (by omega)⟩
theorem x_addNode_0 (S : PS) (on use : Int32) (h : noR use (nI 0) (nI 10000)) : Run 1 1 [.ref 0, .int on, .int use] S (.inr 0) S := by
  refine run_of (by decide +kernel) rfl (fun G hG => ?_)
  repeat (refine hG.1 _ _ _ _ _ _ rfl ?_)
  refine cx (r_needRange_x S _ _ _ h) rfl ?_
  exact And.intro rfl (And.intro rfl (And.intro rfl rfl))
theorem x_setBackground_0 (S : PS) (x amt : Int32) (h : noR amt (nI 0) (nI 10000)) : Run 1 2 [.ref 0, .int x, .int amt] S (.inr 0) S := by
  refine run_of (by decide +kernel) rfl (fun G hG => ?_)
  repeat (refine hG.1 _ _ _ _ _ _ rfl ?_)
  refine cx (r_needRange_x S _ _ _ h) rfl ?_
  exact And.intro rfl (And.intro rfl (And.intro rfl rfl))
theorem x_setPressure_0 (S : PS) (x v : Int32) (h : noR v (-1) (nI 100)) : Run 1 3 [.ref 0, .int x, .int v] S (.inr 0) S := by
  refine run_of (by decide +kernel) rfl (fun G hG => ?_)
  repeat (refine hG.1 _ _ _ _ _ _ rfl ?_)
  refine cx (r_needRange_x S _ _ _ h) rfl ?_
  exact And.intro rfl (And.intro rfl (And.intro rfl rfl))
theorem x_setPressure_1 (S : PS) (x v : Int32) (h : okR v (-1) (nI 100)) (h1 : x ≤ 0 ∨ ¬ x < S.1 0 0) : Run 1 3 [.ref 0, .int x, .int v] S (.inr 1) S := by
  refine run_of (by decide +kernel) rfl (fun G hG => ?_)
  repeat (refine hG.1 _ _ _ _ _ _ rfl ?_)
  refine cx (r_needRange S _ _ _ h.1 h.2) rfl ?_
  repeat (refine hG.1 _ _ _ _ _ _ rfl ?_)
  refine And.intro rfl (cx (r_needPipe_x S _ h1) rfl ?_)
  exact And.intro rfl (And.intro rfl (And.intro rfl rfl))
theorem x_addMeter_0 (S : PS) (x : Int32) (h1 : x ≤ 0 ∨ ¬ x < S.1 0 0) : Run 1 4 [.ref 0, .int x] S (.inr 1) S := by
  refine run_of (by decide +kernel) rfl (fun G hG => ?_)
  repeat (refine hG.1 _ _ _ _ _ _ rfl ?_)
  refine And.intro rfl (cx (r_needPipe_x S _ h1) rfl ?_)
  exact And.intro rfl (And.intro rfl (And.intro rfl rfl))
theorem x_toggleValve_0 (S : PS) (x : Int32) (h1 : x ≤ 0 ∨ ¬ x < S.1 0 0) : Run 1 5 [.ref 0, .int x] S (.inr 1) S := by
  refine run_of (by decide +kernel) rfl (fun G hG => ?_)
  repeat (refine hG.1 _ _ _ _ _ _ rfl ?_)
  refine And.intro rfl (cx (r_needPipe_x S _ h1) rfl ?_)
  exact And.intro rfl (And.intro rfl (And.intro rfl rfl))
theorem x_isSupplied_0 (S : PS) (x : Int32) (h1 : noN x (S.1 0 0)) : Run 1 6 [.ref 0, .int x] S (.inr 1) S := by
  refine run_of (by decide +kernel) rfl (fun G hG => ?_)
  repeat (refine hG.1 _ _ _ _ _ _ rfl ?_)
  refine And.intro rfl (cx (r_needNode_x S _ h1) rfl ?_)
  exact And.intro rfl (And.intro rfl (And.intro rfl rfl))
theorem x_isSupplied (S : PS) (j n : Nat) (hn : S.1 0 0 = nI n) (hn16 : n ≤ 16) (hj : j < n) : Run 0 6 [.ref 0, .int (nI j)] S (.inl (some (bi (S.2.1 1 j &&& S.1 0 6 = 0)))) S := by
  have hk := nI_okn hj (by omega)
  refine run_of (by decide +kernel) rfl (fun G hG => ?_)
  repeat (refine hG.1 _ _ _ _ _ _ rfl ?_)
  refine And.intro rfl (cx (r_needNode S _ hk.1 (by rw [hn]; exact hk.2)) rfl ?_)
  repeat (refine hG.1 _ _ _ _ _ _ rfl ?_)
  refine And.intro rfl (cx (r_isOpenTo S _ _ (vp_in_nI (show j < 16 by omega) (by decide))) rfl ?_)
  rw [nI_clamp (show j < 2 ^ 31 by omega)]
  repeat (refine hG.1 _ _ _ _ _ _ rfl ?_)
  exact And.intro bi_nrw (And.intro rfl (And.intro rfl rfl))
theorem x_takes_0 (S : PS) (x : Int32) (h1 : noN x (S.1 0 0)) : Run 1 7 [.ref 0, .int x] S (.inr 1) S := by
  refine run_of (by decide +kernel) rfl (fun G hG => ?_)
  repeat (refine hG.1 _ _ _ _ _ _ rfl ?_)
  refine And.intro rfl (cx (r_needNode_x S _ h1) rfl ?_)
  exact And.intro rfl (And.intro rfl (And.intro rfl rfl))
theorem x_takes (S : PS) (j n nb : Nat) (hX : Xn S n nb) (hj : j < n) : Run 0 7 [.ref 0, .int (nI j)] S (.inl (some (tknX S.2.1 nb (S.1 0 14) (S.1 0 6) j))) S := by
  have hn := hX.2.1
  have hk := nI_okn hj (by omega)
  refine run_of (by decide +kernel) rfl (fun G hG => ?_)
  repeat (refine hG.1 _ _ _ _ _ _ rfl ?_)
  refine And.intro rfl (cx (r_needNode S _ hk.1 (by rw [hX.1]; exact hk.2)) rfl ?_)
  repeat (refine hG.1 _ _ _ _ _ _ rfl ?_)
  refine And.intro rfl (cx (r_takenAt S j n nb _ (by omega) hX) rfl ?_)
  repeat (refine hG.1 _ _ _ _ _ _ rfl ?_)
  exact And.intro rfl (And.intro rfl (And.intro rfl rfl))
theorem x_flow_0 (S : PS) (x : Int32) (h1 : x ≤ 0 ∨ ¬ x < S.1 0 0) : Run 1 8 [.ref 0, .int x] S (.inr 1) S := by
  refine run_of (by decide +kernel) rfl (fun G hG => ?_)
  repeat (refine hG.1 _ _ _ _ _ _ rfl ?_)
  refine And.intro rfl (cx (r_needPipe_x S _ h1) rfl ?_)
  exact And.intro rfl (And.intro rfl (And.intro rfl rfl))
abbrev flX (A : Nat → Nat → Int32) (n nb : Nat) (rp sh top : Int32) : Int32 := smL (fun k => decide (hsv (A 1 k) top)) (tknX A nb rp sh) n
theorem x_allFlow (S : PS) (n nb : Nat) (hX : Xn S n nb) : Run 0 9 [.ref 0] S (.inl (some (flX S.2.1 n nb (S.1 0 14) (S.1 0 6) (nI 0)))) S := by
  refine run_of (by decide +kernel) rfl (fun G hG => ?_)
  repeat (refine hG.1 _ _ _ _ _ _ rfl ?_)
  refine And.intro rfl (cx (r_flowTo S n nb _ hX) rfl ?_)
  repeat (refine hG.1 _ _ _ _ _ _ rfl ?_)
  exact And.intro rfl (And.intro rfl (And.intro rfl rfl))
theorem x_addArea_0 (S : PS) (x : Int32) (h1 : noN x (S.1 0 0)) : Run 1 10 [.ref 0, .int x] S (.inr 1) S := by
  refine run_of (by decide +kernel) rfl (fun G hG => ?_)
  repeat (refine hG.1 _ _ _ _ _ _ rfl ?_)
  refine And.intro rfl (cx (r_needNode_x S _ h1) rfl ?_)
  exact And.intro rfl (And.intro rfl (And.intro rfl rfl))
theorem x_addExport_0 (S : PS) (x y : Int32) (h1 : noN x (S.1 0 7)) : Run 1 11 [.ref 0, .int x, .int y] S (.inr 1) S := by
  refine run_of (by decide +kernel) rfl (fun G hG => ?_)
  repeat (refine hG.1 _ _ _ _ _ _ rfl ?_)
  refine And.intro rfl (cx (r_needArea_x S _ h1) rfl ?_)
  exact And.intro rfl (And.intro rfl (And.intro rfl rfl))
theorem x_nodes_0 (S : PS) (x : Int32) (h1 : noN x (S.1 0 7)) : Run 1 12 [.ref 0, .int x] S (.inr 1) S := by
  refine run_of (by decide +kernel) rfl (fun G hG => ?_)
  repeat (refine hG.1 _ _ _ _ _ _ rfl ?_)
  refine And.intro rfl (cx (r_needArea_x S _ h1) rfl ?_)
  exact And.intro rfl (And.intro rfl (And.intro rfl rfl))
theorem x_areaFlow_0 (S : PS) (x : Int32) (h1 : noN x (S.1 0 7)) : Run 1 13 [.ref 0, .int x] S (.inr 1) S := by
  refine run_of (by decide +kernel) rfl (fun G hG => ?_)
  repeat (refine hG.1 _ _ _ _ _ _ rfl ?_)
  refine And.intro rfl (cx (r_needArea_x S _ h1) rfl ?_)
  exact And.intro rfl (And.intro rfl (And.intro rfl rfl))
theorem x_areaTakes_0 (S : PS) (x : Int32) (h1 : noN x (S.1 0 7)) : Run 1 14 [.ref 0, .int x] S (.inr 1) S := by
  refine run_of (by decide +kernel) rfl (fun G hG => ?_)
  repeat (refine hG.1 _ _ _ _ _ _ rfl ?_)
  refine And.intro rfl (cx (r_needArea_x S _ h1) rfl ?_)
  exact And.intro rfl (And.intro rfl (And.intro rfl rfl))
theorem x_loss_0 (S : PS) (x : Int32) (h1 : noN x (S.1 0 7)) : Run 1 15 [.ref 0, .int x] S (.inr 1) S := by
  refine run_of (by decide +kernel) rfl (fun G hG => ?_)
  repeat (refine hG.1 _ _ _ _ _ _ rfl ?_)
  refine And.intro rfl (cx (r_needArea_x S _ h1) rfl ?_)
  exact And.intro rfl (And.intro rfl (And.intro rfl rfl))
theorem x_steps_0 (S : PS) (x : Int32) (h1 : noN x (S.1 0 7)) : Run 1 16 [.ref 0, .int x] S (.inr 1) S := by
  refine run_of (by decide +kernel) rfl (fun G hG => ?_)
  repeat (refine hG.1 _ _ _ _ _ _ rfl ?_)
  refine And.intro rfl (cx (r_needArea_x S _ h1) rfl ?_)
  exact And.intro rfl (And.intro rfl (And.intro rfl rfl))
theorem x_burst_0a (S : PS) (x y z : Int32) (h : noR y (nI 1) (nI 10000)) : Run 1 19 [.ref 0, .int x, .int y, .int z] S (.inr 0) S := by
  refine run_of (by decide +kernel) rfl (fun G hG => ?_)
  repeat (refine hG.1 _ _ _ _ _ _ rfl ?_)
  refine cx (r_needRange_x S _ _ _ h) rfl ?_
  exact And.intro rfl (And.intro rfl (And.intro rfl rfl))
theorem x_repair_0 (S : PS) (x : Int32) (h1 : noN x (S.1 0 10)) : Run 1 20 [.ref 0, .int x] S (.inr 1) S := by
  refine run_of (by decide +kernel) rfl (fun G hG => ?_)
  repeat (refine hG.1 _ _ _ _ _ _ rfl ?_)
  refine And.intro rfl (cx (r_needBurst_x S _ h1) rfl ?_)
  exact And.intro rfl (And.intro rfl (And.intro rfl rfl))
theorem x_cost_0 (S : PS) (x : Int32) (h1 : noN x (S.1 0 10)) : Run 1 21 [.ref 0, .int x] S (.inr 1) S := by
  refine run_of (by decide +kernel) rfl (fun G hG => ?_)
  repeat (refine hG.1 _ _ _ _ _ _ rfl ?_)
  refine And.intro rfl (cx (r_needBurst_x S _ h1) rfl ?_)
  exact And.intro rfl (And.intro rfl (And.intro rfl rfl))
theorem x_plan_0 (S : PS) (y : Int32) (h : noR y (nI 0) (nI 1000)) : Run 1 23 [.ref 0, .int y] S (.inr 0) S := by
  refine run_of (by decide +kernel) rfl (fun G hG => ?_)
  repeat (refine hG.1 _ _ _ _ _ _ rfl ?_)
  refine cx (r_needRange_x S _ _ _ h) rfl ?_
  exact And.intro rfl (And.intro rfl (And.intro rfl rfl))
end
section
abbrev m20 : Int32 := Int32.ofInt (.negSucc 19)
abbrev m30 : Int32 := Int32.ofInt (.negSucc 29)
theorem rq {a b : Int32} (h : a = b) : (Sum.inl (some a) : PR) = Sum.inl (some b) := by rw [h]
theorem cxs {i : Nat} {P : Nat → PR → PS → Prop} {K : KT} {k k' Km nx : Nat} {as rest : List Value} {ls : PL} {S S' : PS} {r : PR} (h : Run k' nx as S r S') (hk : k + k' ≤ Km) {nx2 : Nat} (g : callK i P K (k + k') nx2 ls rest r S') : ∃ (k' : Nat) (r : PR) (S' : PS), Run k' nx as S r S' ∧ k + k' ≤ Km ∧ callK i P K (k + k') nx2 ls rest r S' := ⟨k', r, S', h, hk, g⟩
def S0 : PS := (fun _ k => match k with
  | 0 => 1
  | _ => 0, fun i => match i with
  | 1 => upd (fun _ => (0 : Int32)) 0 1
  | 16 => upd (fun _ => (0 : Int32)) 0 1
  | _ => (fun _ => (0 : Int32)), fun _ => (0 : Int64))
theorem hX0 : Xn S0 1 0 := ⟨rfl, by decide, rfl, by decide, fun k _ => Or.inr ⟨0, by decide, rfl⟩⟩
theorem t_sets_0_0 (S : PS) (a b c : Int32) (h : Run 1 1 [.ref 0, .int a, .int b] S (.inr 0) S) : Run 1 51 [.ref 0, .int (nI 0), .int a, .int b, .int c] S (.inl (some m20)) S := by
  refine run_of (by decide +kernel) rfl (fun G hG => ?_)
  repeat (first | refine hG.1 _ _ _ _ _ _ rfl ?_ | refine And.intro (fun _ => ?_) (fun h => False.elim (by first | exact absurd h (by decide +kernel) | exact h (by decide +kernel))) | refine And.intro (fun h => False.elim (by first | exact absurd h (by decide +kernel) | exact h (by decide +kernel))) (fun _ => ?_) | refine And.intro (by unfold vp_in; decide +kernel) ?_ | refine And.intro (show ¬ _ = (0 : Int32) from by decide +kernel) ?_)
  refine And.intro rfl (cx (h) rfl ?_)
  repeat (first | refine hG.1 _ _ _ _ _ _ rfl ?_ | refine And.intro (fun _ => ?_) (fun h => False.elim (by first | exact absurd h (by decide +kernel) | exact h (by decide +kernel))) | refine And.intro (fun h => False.elim (by first | exact absurd h (by decide +kernel) | exact h (by decide +kernel))) (fun _ => ?_) | refine And.intro (by unfold vp_in; decide +kernel) ?_ | refine And.intro (show ¬ _ = (0 : Int32) from by decide +kernel) ?_)
  exact And.intro rfl (And.intro rfl (And.intro rfl rfl))
theorem t_sets_1_0 (S : PS) (a b c : Int32) (h : Run 1 2 [.ref 0, .int a, .int b] S (.inr 0) S) : Run 1 51 [.ref 0, .int (nI 1), .int a, .int b, .int c] S (.inl (some m20)) S := by
  refine run_of (by decide +kernel) rfl (fun G hG => ?_)
  repeat (first | refine hG.1 _ _ _ _ _ _ rfl ?_ | refine And.intro (fun _ => ?_) (fun h => False.elim (by first | exact absurd h (by decide +kernel) | exact h (by decide +kernel))) | refine And.intro (fun h => False.elim (by first | exact absurd h (by decide +kernel) | exact h (by decide +kernel))) (fun _ => ?_) | refine And.intro (by unfold vp_in; decide +kernel) ?_ | refine And.intro (show ¬ _ = (0 : Int32) from by decide +kernel) ?_)
  refine And.intro rfl (cx (h) rfl ?_)
  repeat (first | refine hG.1 _ _ _ _ _ _ rfl ?_ | refine And.intro (fun _ => ?_) (fun h => False.elim (by first | exact absurd h (by decide +kernel) | exact h (by decide +kernel))) | refine And.intro (fun h => False.elim (by first | exact absurd h (by decide +kernel) | exact h (by decide +kernel))) (fun _ => ?_) | refine And.intro (by unfold vp_in; decide +kernel) ?_ | refine And.intro (show ¬ _ = (0 : Int32) from by decide +kernel) ?_)
  exact And.intro rfl (And.intro rfl (And.intro rfl rfl))
theorem t_sets_2_0 (S : PS) (a b c : Int32) (h : Run 1 3 [.ref 0, .int a, .int b] S (.inr 0) S) : Run 1 51 [.ref 0, .int (nI 2), .int a, .int b, .int c] S (.inl (some m20)) S := by
  refine run_of (by decide +kernel) rfl (fun G hG => ?_)
  repeat (first | refine hG.1 _ _ _ _ _ _ rfl ?_ | refine And.intro (fun _ => ?_) (fun h => False.elim (by first | exact absurd h (by decide +kernel) | exact h (by decide +kernel))) | refine And.intro (fun h => False.elim (by first | exact absurd h (by decide +kernel) | exact h (by decide +kernel))) (fun _ => ?_) | refine And.intro (by unfold vp_in; decide +kernel) ?_ | refine And.intro (show ¬ _ = (0 : Int32) from by decide +kernel) ?_)
  refine And.intro rfl (cx (h) rfl ?_)
  repeat (first | refine hG.1 _ _ _ _ _ _ rfl ?_ | refine And.intro (fun _ => ?_) (fun h => False.elim (by first | exact absurd h (by decide +kernel) | exact h (by decide +kernel))) | refine And.intro (fun h => False.elim (by first | exact absurd h (by decide +kernel) | exact h (by decide +kernel))) (fun _ => ?_) | refine And.intro (by unfold vp_in; decide +kernel) ?_ | refine And.intro (show ¬ _ = (0 : Int32) from by decide +kernel) ?_)
  exact And.intro rfl (And.intro rfl (And.intro rfl rfl))
theorem t_sets_2_1 (S : PS) (a b c : Int32) (h : Run 1 3 [.ref 0, .int a, .int b] S (.inr 1) S) : Run 1 51 [.ref 0, .int (nI 2), .int a, .int b, .int c] S (.inl (some m30)) S := by
  refine run_of (by decide +kernel) rfl (fun G hG => ?_)
  repeat (first | refine hG.1 _ _ _ _ _ _ rfl ?_ | refine And.intro (fun _ => ?_) (fun h => False.elim (by first | exact absurd h (by decide +kernel) | exact h (by decide +kernel))) | refine And.intro (fun h => False.elim (by first | exact absurd h (by decide +kernel) | exact h (by decide +kernel))) (fun _ => ?_) | refine And.intro (by unfold vp_in; decide +kernel) ?_ | refine And.intro (show ¬ _ = (0 : Int32) from by decide +kernel) ?_)
  refine And.intro rfl (cx (h) rfl ?_)
  repeat (first | refine hG.1 _ _ _ _ _ _ rfl ?_ | refine And.intro (fun _ => ?_) (fun h => False.elim (by first | exact absurd h (by decide +kernel) | exact h (by decide +kernel))) | refine And.intro (fun h => False.elim (by first | exact absurd h (by decide +kernel) | exact h (by decide +kernel))) (fun _ => ?_) | refine And.intro (by unfold vp_in; decide +kernel) ?_ | refine And.intro (show ¬ _ = (0 : Int32) from by decide +kernel) ?_)
  exact And.intro rfl (And.intro rfl (And.intro rfl rfl))
theorem t_sets_3_1 (S : PS) (a b c : Int32) (h : Run 1 10 [.ref 0, .int a] S (.inr 1) S) : Run 1 51 [.ref 0, .int (nI 3), .int a, .int b, .int c] S (.inl (some m30)) S := by
  refine run_of (by decide +kernel) rfl (fun G hG => ?_)
  repeat (first | refine hG.1 _ _ _ _ _ _ rfl ?_ | refine And.intro (fun _ => ?_) (fun h => False.elim (by first | exact absurd h (by decide +kernel) | exact h (by decide +kernel))) | refine And.intro (fun h => False.elim (by first | exact absurd h (by decide +kernel) | exact h (by decide +kernel))) (fun _ => ?_) | refine And.intro (by unfold vp_in; decide +kernel) ?_ | refine And.intro (show ¬ _ = (0 : Int32) from by decide +kernel) ?_)
  refine And.intro rfl (cx (h) rfl ?_)
  repeat (first | refine hG.1 _ _ _ _ _ _ rfl ?_ | refine And.intro (fun _ => ?_) (fun h => False.elim (by first | exact absurd h (by decide +kernel) | exact h (by decide +kernel))) | refine And.intro (fun h => False.elim (by first | exact absurd h (by decide +kernel) | exact h (by decide +kernel))) (fun _ => ?_) | refine And.intro (by unfold vp_in; decide +kernel) ?_ | refine And.intro (show ¬ _ = (0 : Int32) from by decide +kernel) ?_)
  exact And.intro rfl (And.intro rfl (And.intro rfl rfl))
theorem t_sets_4_1 (S : PS) (a b c : Int32) (h : Run 1 11 [.ref 0, .int a, .int b] S (.inr 1) S) : Run 1 51 [.ref 0, .int (nI 4), .int a, .int b, .int c] S (.inl (some m30)) S := by
  refine run_of (by decide +kernel) rfl (fun G hG => ?_)
  repeat (first | refine hG.1 _ _ _ _ _ _ rfl ?_ | refine And.intro (fun _ => ?_) (fun h => False.elim (by first | exact absurd h (by decide +kernel) | exact h (by decide +kernel))) | refine And.intro (fun h => False.elim (by first | exact absurd h (by decide +kernel) | exact h (by decide +kernel))) (fun _ => ?_) | refine And.intro (by unfold vp_in; decide +kernel) ?_ | refine And.intro (show ¬ _ = (0 : Int32) from by decide +kernel) ?_)
  refine And.intro rfl (cx (h) rfl ?_)
  repeat (first | refine hG.1 _ _ _ _ _ _ rfl ?_ | refine And.intro (fun _ => ?_) (fun h => False.elim (by first | exact absurd h (by decide +kernel) | exact h (by decide +kernel))) | refine And.intro (fun h => False.elim (by first | exact absurd h (by decide +kernel) | exact h (by decide +kernel))) (fun _ => ?_) | refine And.intro (by unfold vp_in; decide +kernel) ?_ | refine And.intro (show ¬ _ = (0 : Int32) from by decide +kernel) ?_)
  exact And.intro rfl (And.intro rfl (And.intro rfl rfl))
theorem t_sets_5_0 (S : PS) (a b c : Int32) (h : Run 1 19 [.ref 0, .int a, .int b, .int c] S (.inr 0) S) : Run 1 51 [.ref 0, .int (nI 5), .int a, .int b, .int c] S (.inl (some m20)) S := by
  refine run_of (by decide +kernel) rfl (fun G hG => ?_)
  repeat (first | refine hG.1 _ _ _ _ _ _ rfl ?_ | refine And.intro (fun _ => ?_) (fun h => False.elim (by first | exact absurd h (by decide +kernel) | exact h (by decide +kernel))) | refine And.intro (fun h => False.elim (by first | exact absurd h (by decide +kernel) | exact h (by decide +kernel))) (fun _ => ?_) | refine And.intro (by unfold vp_in; decide +kernel) ?_ | refine And.intro (show ¬ _ = (0 : Int32) from by decide +kernel) ?_)
  refine And.intro rfl (cx (h) rfl ?_)
  repeat (first | refine hG.1 _ _ _ _ _ _ rfl ?_ | refine And.intro (fun _ => ?_) (fun h => False.elim (by first | exact absurd h (by decide +kernel) | exact h (by decide +kernel))) | refine And.intro (fun h => False.elim (by first | exact absurd h (by decide +kernel) | exact h (by decide +kernel))) (fun _ => ?_) | refine And.intro (by unfold vp_in; decide +kernel) ?_ | refine And.intro (show ¬ _ = (0 : Int32) from by decide +kernel) ?_)
  exact And.intro rfl (And.intro rfl (And.intro rfl rfl))
theorem t_sets_6_1 (S : PS) (a b c : Int32) (h : Run 1 20 [.ref 0, .int a] S (.inr 1) S) : Run 1 51 [.ref 0, .int (nI 6), .int a, .int b, .int c] S (.inl (some m30)) S := by
  refine run_of (by decide +kernel) rfl (fun G hG => ?_)
  repeat (first | refine hG.1 _ _ _ _ _ _ rfl ?_ | refine And.intro (fun _ => ?_) (fun h => False.elim (by first | exact absurd h (by decide +kernel) | exact h (by decide +kernel))) | refine And.intro (fun h => False.elim (by first | exact absurd h (by decide +kernel) | exact h (by decide +kernel))) (fun _ => ?_) | refine And.intro (by unfold vp_in; decide +kernel) ?_ | refine And.intro (show ¬ _ = (0 : Int32) from by decide +kernel) ?_)
  refine And.intro rfl (cx (h) rfl ?_)
  repeat (first | refine hG.1 _ _ _ _ _ _ rfl ?_ | refine And.intro (fun _ => ?_) (fun h => False.elim (by first | exact absurd h (by decide +kernel) | exact h (by decide +kernel))) | refine And.intro (fun h => False.elim (by first | exact absurd h (by decide +kernel) | exact h (by decide +kernel))) (fun _ => ?_) | refine And.intro (by unfold vp_in; decide +kernel) ?_ | refine And.intro (show ¬ _ = (0 : Int32) from by decide +kernel) ?_)
  exact And.intro rfl (And.intro rfl (And.intro rfl rfl))
theorem t_sets_7_1 (S : PS) (a b c : Int32) (h : Run 1 8 [.ref 0, .int a] S (.inr 1) S) : Run 1 51 [.ref 0, .int (nI 7), .int a, .int b, .int c] S (.inl (some m30)) S := by
  refine run_of (by decide +kernel) rfl (fun G hG => ?_)
  repeat (first | refine hG.1 _ _ _ _ _ _ rfl ?_ | refine And.intro (fun _ => ?_) (fun h => False.elim (by first | exact absurd h (by decide +kernel) | exact h (by decide +kernel))) | refine And.intro (fun h => False.elim (by first | exact absurd h (by decide +kernel) | exact h (by decide +kernel))) (fun _ => ?_) | refine And.intro (by unfold vp_in; decide +kernel) ?_ | refine And.intro (show ¬ _ = (0 : Int32) from by decide +kernel) ?_)
  refine And.intro rfl (cx (h) rfl ?_)
  repeat (first | refine hG.1 _ _ _ _ _ _ rfl ?_ | refine And.intro (fun _ => ?_) (fun h => False.elim (by first | exact absurd h (by decide +kernel) | exact h (by decide +kernel))) | refine And.intro (fun h => False.elim (by first | exact absurd h (by decide +kernel) | exact h (by decide +kernel))) (fun _ => ?_) | refine And.intro (by unfold vp_in; decide +kernel) ?_ | refine And.intro (show ¬ _ = (0 : Int32) from by decide +kernel) ?_)
  exact And.intro rfl (And.intro rfl (And.intro rfl rfl))
theorem t_asks_0 (S : PS) (a b : Int32) (h : Run 1 7 [.ref 0, .int a] S (.inr 1) S) : Run 1 52 [.ref 0, .int (nI 0), .int a, .int b] S (.inl (some m30)) S := by
  refine run_of (by decide +kernel) rfl (fun G hG => ?_)
  repeat (first | refine hG.1 _ _ _ _ _ _ rfl ?_ | refine And.intro (fun _ => ?_) (fun h => False.elim (by first | exact absurd h (by decide +kernel) | exact h (by decide +kernel))) | refine And.intro (fun h => False.elim (by first | exact absurd h (by decide +kernel) | exact h (by decide +kernel))) (fun _ => ?_) | refine And.intro (by unfold vp_in; decide +kernel) ?_ | refine And.intro (show ¬ _ = (0 : Int32) from by decide +kernel) ?_)
  refine And.intro rfl (cx (h) rfl ?_)
  repeat (first | refine hG.1 _ _ _ _ _ _ rfl ?_ | refine And.intro (fun _ => ?_) (fun h => False.elim (by first | exact absurd h (by decide +kernel) | exact h (by decide +kernel))) | refine And.intro (fun h => False.elim (by first | exact absurd h (by decide +kernel) | exact h (by decide +kernel))) (fun _ => ?_) | refine And.intro (by unfold vp_in; decide +kernel) ?_ | refine And.intro (show ¬ _ = (0 : Int32) from by decide +kernel) ?_)
  exact And.intro rfl (And.intro rfl (And.intro rfl rfl))
theorem t_asks_1 (S : PS) (a b : Int32) (h : Run 1 12 [.ref 0, .int a] S (.inr 1) S) : Run 1 52 [.ref 0, .int (nI 1), .int a, .int b] S (.inl (some m30)) S := by
  refine run_of (by decide +kernel) rfl (fun G hG => ?_)
  repeat (first | refine hG.1 _ _ _ _ _ _ rfl ?_ | refine And.intro (fun _ => ?_) (fun h => False.elim (by first | exact absurd h (by decide +kernel) | exact h (by decide +kernel))) | refine And.intro (fun h => False.elim (by first | exact absurd h (by decide +kernel) | exact h (by decide +kernel))) (fun _ => ?_) | refine And.intro (by unfold vp_in; decide +kernel) ?_ | refine And.intro (show ¬ _ = (0 : Int32) from by decide +kernel) ?_)
  refine And.intro rfl (cx (h) rfl ?_)
  repeat (first | refine hG.1 _ _ _ _ _ _ rfl ?_ | refine And.intro (fun _ => ?_) (fun h => False.elim (by first | exact absurd h (by decide +kernel) | exact h (by decide +kernel))) | refine And.intro (fun h => False.elim (by first | exact absurd h (by decide +kernel) | exact h (by decide +kernel))) (fun _ => ?_) | refine And.intro (by unfold vp_in; decide +kernel) ?_ | refine And.intro (show ¬ _ = (0 : Int32) from by decide +kernel) ?_)
  exact And.intro rfl (And.intro rfl (And.intro rfl rfl))
theorem t_asks_2 (S : PS) (a b : Int32) (h : Run 1 13 [.ref 0, .int a] S (.inr 1) S) : Run 1 52 [.ref 0, .int (nI 2), .int a, .int b] S (.inl (some m30)) S := by
  refine run_of (by decide +kernel) rfl (fun G hG => ?_)
  repeat (first | refine hG.1 _ _ _ _ _ _ rfl ?_ | refine And.intro (fun _ => ?_) (fun h => False.elim (by first | exact absurd h (by decide +kernel) | exact h (by decide +kernel))) | refine And.intro (fun h => False.elim (by first | exact absurd h (by decide +kernel) | exact h (by decide +kernel))) (fun _ => ?_) | refine And.intro (by unfold vp_in; decide +kernel) ?_ | refine And.intro (show ¬ _ = (0 : Int32) from by decide +kernel) ?_)
  refine And.intro rfl (cx (h) rfl ?_)
  repeat (first | refine hG.1 _ _ _ _ _ _ rfl ?_ | refine And.intro (fun _ => ?_) (fun h => False.elim (by first | exact absurd h (by decide +kernel) | exact h (by decide +kernel))) | refine And.intro (fun h => False.elim (by first | exact absurd h (by decide +kernel) | exact h (by decide +kernel))) (fun _ => ?_) | refine And.intro (by unfold vp_in; decide +kernel) ?_ | refine And.intro (show ¬ _ = (0 : Int32) from by decide +kernel) ?_)
  exact And.intro rfl (And.intro rfl (And.intro rfl rfl))
theorem t_asks_3 (S : PS) (a b : Int32) (h : Run 1 14 [.ref 0, .int a] S (.inr 1) S) : Run 1 52 [.ref 0, .int (nI 3), .int a, .int b] S (.inl (some m30)) S := by
  refine run_of (by decide +kernel) rfl (fun G hG => ?_)
  repeat (first | refine hG.1 _ _ _ _ _ _ rfl ?_ | refine And.intro (fun _ => ?_) (fun h => False.elim (by first | exact absurd h (by decide +kernel) | exact h (by decide +kernel))) | refine And.intro (fun h => False.elim (by first | exact absurd h (by decide +kernel) | exact h (by decide +kernel))) (fun _ => ?_) | refine And.intro (by unfold vp_in; decide +kernel) ?_ | refine And.intro (show ¬ _ = (0 : Int32) from by decide +kernel) ?_)
  refine And.intro rfl (cx (h) rfl ?_)
  repeat (first | refine hG.1 _ _ _ _ _ _ rfl ?_ | refine And.intro (fun _ => ?_) (fun h => False.elim (by first | exact absurd h (by decide +kernel) | exact h (by decide +kernel))) | refine And.intro (fun h => False.elim (by first | exact absurd h (by decide +kernel) | exact h (by decide +kernel))) (fun _ => ?_) | refine And.intro (by unfold vp_in; decide +kernel) ?_ | refine And.intro (show ¬ _ = (0 : Int32) from by decide +kernel) ?_)
  exact And.intro rfl (And.intro rfl (And.intro rfl rfl))
theorem t_asks_4 (S : PS) (a b : Int32) (h : Run 1 15 [.ref 0, .int a] S (.inr 1) S) : Run 1 52 [.ref 0, .int (nI 4), .int a, .int b] S (.inl (some m30)) S := by
  refine run_of (by decide +kernel) rfl (fun G hG => ?_)
  repeat (first | refine hG.1 _ _ _ _ _ _ rfl ?_ | refine And.intro (fun _ => ?_) (fun h => False.elim (by first | exact absurd h (by decide +kernel) | exact h (by decide +kernel))) | refine And.intro (fun h => False.elim (by first | exact absurd h (by decide +kernel) | exact h (by decide +kernel))) (fun _ => ?_) | refine And.intro (by unfold vp_in; decide +kernel) ?_ | refine And.intro (show ¬ _ = (0 : Int32) from by decide +kernel) ?_)
  refine And.intro rfl (cx (h) rfl ?_)
  repeat (first | refine hG.1 _ _ _ _ _ _ rfl ?_ | refine And.intro (fun _ => ?_) (fun h => False.elim (by first | exact absurd h (by decide +kernel) | exact h (by decide +kernel))) | refine And.intro (fun h => False.elim (by first | exact absurd h (by decide +kernel) | exact h (by decide +kernel))) (fun _ => ?_) | refine And.intro (by unfold vp_in; decide +kernel) ?_ | refine And.intro (show ¬ _ = (0 : Int32) from by decide +kernel) ?_)
  exact And.intro rfl (And.intro rfl (And.intro rfl rfl))
theorem t_asks_5 (S : PS) (a b : Int32) (h : Run 1 16 [.ref 0, .int a] S (.inr 1) S) : Run 1 52 [.ref 0, .int (nI 5), .int a, .int b] S (.inl (some m30)) S := by
  refine run_of (by decide +kernel) rfl (fun G hG => ?_)
  repeat (first | refine hG.1 _ _ _ _ _ _ rfl ?_ | refine And.intro (fun _ => ?_) (fun h => False.elim (by first | exact absurd h (by decide +kernel) | exact h (by decide +kernel))) | refine And.intro (fun h => False.elim (by first | exact absurd h (by decide +kernel) | exact h (by decide +kernel))) (fun _ => ?_) | refine And.intro (by unfold vp_in; decide +kernel) ?_ | refine And.intro (show ¬ _ = (0 : Int32) from by decide +kernel) ?_)
  refine And.intro rfl (cx (h) rfl ?_)
  repeat (first | refine hG.1 _ _ _ _ _ _ rfl ?_ | refine And.intro (fun _ => ?_) (fun h => False.elim (by first | exact absurd h (by decide +kernel) | exact h (by decide +kernel))) | refine And.intro (fun h => False.elim (by first | exact absurd h (by decide +kernel) | exact h (by decide +kernel))) (fun _ => ?_) | refine And.intro (by unfold vp_in; decide +kernel) ?_ | refine And.intro (show ¬ _ = (0 : Int32) from by decide +kernel) ?_)
  exact And.intro rfl (And.intro rfl (And.intro rfl rfl))
theorem t_asks_8 (S : PS) (a b : Int32) (h : Run 1 21 [.ref 0, .int a] S (.inr 1) S) : Run 1 52 [.ref 0, .int (nI 8), .int a, .int b] S (.inl (some m30)) S := by
  refine run_of (by decide +kernel) rfl (fun G hG => ?_)
  repeat (first | refine hG.1 _ _ _ _ _ _ rfl ?_ | refine And.intro (fun _ => ?_) (fun h => False.elim (by first | exact absurd h (by decide +kernel) | exact h (by decide +kernel))) | refine And.intro (fun h => False.elim (by first | exact absurd h (by decide +kernel) | exact h (by decide +kernel))) (fun _ => ?_) | refine And.intro (by unfold vp_in; decide +kernel) ?_ | refine And.intro (show ¬ _ = (0 : Int32) from by decide +kernel) ?_)
  refine And.intro rfl (cx (h) rfl ?_)
  repeat (first | refine hG.1 _ _ _ _ _ _ rfl ?_ | refine And.intro (fun _ => ?_) (fun h => False.elim (by first | exact absurd h (by decide +kernel) | exact h (by decide +kernel))) | refine And.intro (fun h => False.elim (by first | exact absurd h (by decide +kernel) | exact h (by decide +kernel))) (fun _ => ?_) | refine And.intro (by unfold vp_in; decide +kernel) ?_ | refine And.intro (show ¬ _ = (0 : Int32) from by decide +kernel) ?_)
  exact And.intro rfl (And.intro rfl (And.intro rfl rfl))
theorem t_asks_9 (S : PS) (a b : Int32) (h : Run 1 22 [.ref 0, .int a] S (.inr 1) S) : Run 1 52 [.ref 0, .int (nI 9), .int a, .int b] S (.inl (some m30)) S := by
  refine run_of (by decide +kernel) rfl (fun G hG => ?_)
  repeat (first | refine hG.1 _ _ _ _ _ _ rfl ?_ | refine And.intro (fun _ => ?_) (fun h => False.elim (by first | exact absurd h (by decide +kernel) | exact h (by decide +kernel))) | refine And.intro (fun h => False.elim (by first | exact absurd h (by decide +kernel) | exact h (by decide +kernel))) (fun _ => ?_) | refine And.intro (by unfold vp_in; decide +kernel) ?_ | refine And.intro (show ¬ _ = (0 : Int32) from by decide +kernel) ?_)
  refine And.intro rfl (cx (h) rfl ?_)
  repeat (first | refine hG.1 _ _ _ _ _ _ rfl ?_ | refine And.intro (fun _ => ?_) (fun h => False.elim (by first | exact absurd h (by decide +kernel) | exact h (by decide +kernel))) | refine And.intro (fun h => False.elim (by first | exact absurd h (by decide +kernel) | exact h (by decide +kernel))) (fun _ => ?_) | refine And.intro (by unfold vp_in; decide +kernel) ?_ | refine And.intro (show ¬ _ = (0 : Int32) from by decide +kernel) ?_)
  exact And.intro rfl (And.intro rfl (And.intro rfl rfl))
theorem t_asks_10 (S : PS) (a b : Int32) (h : Run 1 23 [.ref 0, .int a] S (.inr 0) S) : Run 1 52 [.ref 0, .int (nI 10), .int a, .int b] S (.inl (some m20)) S := by
  refine run_of (by decide +kernel) rfl (fun G hG => ?_)
  repeat (first | refine hG.1 _ _ _ _ _ _ rfl ?_ | refine And.intro (fun _ => ?_) (fun h => False.elim (by first | exact absurd h (by decide +kernel) | exact h (by decide +kernel))) | refine And.intro (fun h => False.elim (by first | exact absurd h (by decide +kernel) | exact h (by decide +kernel))) (fun _ => ?_) | refine And.intro (by unfold vp_in; decide +kernel) ?_ | refine And.intro (show ¬ _ = (0 : Int32) from by decide +kernel) ?_)
  refine And.intro rfl (cx (h) rfl ?_)
  repeat (first | refine hG.1 _ _ _ _ _ _ rfl ?_ | refine And.intro (fun _ => ?_) (fun h => False.elim (by first | exact absurd h (by decide +kernel) | exact h (by decide +kernel))) | refine And.intro (fun h => False.elim (by first | exact absurd h (by decide +kernel) | exact h (by decide +kernel))) (fun _ => ?_) | refine And.intro (by unfold vp_in; decide +kernel) ?_ | refine And.intro (show ¬ _ = (0 : Int32) from by decide +kernel) ?_)
  exact And.intro rfl (And.intro rfl (And.intro rfl rfl))
theorem t_tells_0 (S : PS) (a : Int32) (h : Run 1 4 [.ref 0, .int a] S (.inr 1) S) : Run 1 53 [.ref 0, .int (nI 0), .int a] S (.inl (some m30)) S := by
  refine run_of (by decide +kernel) rfl (fun G hG => ?_)
  repeat (first | refine hG.1 _ _ _ _ _ _ rfl ?_ | refine And.intro (fun _ => ?_) (fun h => False.elim (by first | exact absurd h (by decide +kernel) | exact h (by decide +kernel))) | refine And.intro (fun h => False.elim (by first | exact absurd h (by decide +kernel) | exact h (by decide +kernel))) (fun _ => ?_) | refine And.intro (by unfold vp_in; decide +kernel) ?_ | refine And.intro (show ¬ _ = (0 : Int32) from by decide +kernel) ?_)
  refine And.intro rfl (cx (h) rfl ?_)
  repeat (first | refine hG.1 _ _ _ _ _ _ rfl ?_ | refine And.intro (fun _ => ?_) (fun h => False.elim (by first | exact absurd h (by decide +kernel) | exact h (by decide +kernel))) | refine And.intro (fun h => False.elim (by first | exact absurd h (by decide +kernel) | exact h (by decide +kernel))) (fun _ => ?_) | refine And.intro (by unfold vp_in; decide +kernel) ?_ | refine And.intro (show ¬ _ = (0 : Int32) from by decide +kernel) ?_)
  exact And.intro rfl (And.intro rfl (And.intro rfl rfl))
theorem t_tells_1 (S : PS) (a : Int32) (h : Run 1 5 [.ref 0, .int a] S (.inr 1) S) : Run 1 53 [.ref 0, .int (nI 1), .int a] S (.inl (some m30)) S := by
  refine run_of (by decide +kernel) rfl (fun G hG => ?_)
  repeat (first | refine hG.1 _ _ _ _ _ _ rfl ?_ | refine And.intro (fun _ => ?_) (fun h => False.elim (by first | exact absurd h (by decide +kernel) | exact h (by decide +kernel))) | refine And.intro (fun h => False.elim (by first | exact absurd h (by decide +kernel) | exact h (by decide +kernel))) (fun _ => ?_) | refine And.intro (by unfold vp_in; decide +kernel) ?_ | refine And.intro (show ¬ _ = (0 : Int32) from by decide +kernel) ?_)
  refine And.intro rfl (cx (h) rfl ?_)
  repeat (first | refine hG.1 _ _ _ _ _ _ rfl ?_ | refine And.intro (fun _ => ?_) (fun h => False.elim (by first | exact absurd h (by decide +kernel) | exact h (by decide +kernel))) | refine And.intro (fun h => False.elim (by first | exact absurd h (by decide +kernel) | exact h (by decide +kernel))) (fun _ => ?_) | refine And.intro (by unfold vp_in; decide +kernel) ?_ | refine And.intro (show ¬ _ = (0 : Int32) from by decide +kernel) ?_)
  exact And.intro rfl (And.intro rfl (And.intro rfl rfl))
theorem t_tells_2 (S : PS) (a : Int32) (h : Run 1 6 [.ref 0, .int a] S (.inr 1) S) : Run 1 53 [.ref 0, .int (nI 2), .int a] S (.inl (some m30)) S := by
  refine run_of (by decide +kernel) rfl (fun G hG => ?_)
  repeat (first | refine hG.1 _ _ _ _ _ _ rfl ?_ | refine And.intro (fun _ => ?_) (fun h => False.elim (by first | exact absurd h (by decide +kernel) | exact h (by decide +kernel))) | refine And.intro (fun h => False.elim (by first | exact absurd h (by decide +kernel) | exact h (by decide +kernel))) (fun _ => ?_) | refine And.intro (by unfold vp_in; decide +kernel) ?_ | refine And.intro (show ¬ _ = (0 : Int32) from by decide +kernel) ?_)
  refine And.intro rfl (cx (h) rfl ?_)
  repeat (first | refine hG.1 _ _ _ _ _ _ rfl ?_ | refine And.intro (fun _ => ?_) (fun h => False.elim (by first | exact absurd h (by decide +kernel) | exact h (by decide +kernel))) | refine And.intro (fun h => False.elim (by first | exact absurd h (by decide +kernel) | exact h (by decide +kernel))) (fun _ => ?_) | refine And.intro (by unfold vp_in; decide +kernel) ?_ | refine And.intro (show ¬ _ = (0 : Int32) from by decide +kernel) ?_)
  exact And.intro rfl (And.intro rfl (And.intro rfl rfl))
theorem t_bits (S : PS) : Run 0 54 [.int (nI 0)] S (.inl (some (nI 0))) S := by
  refine run_of (by decide +kernel) rfl (fun G hG => ?_)
  repeat (first | refine hG.1 _ _ _ _ _ _ rfl ?_ | refine And.intro (fun _ => ?_) (fun h => False.elim (by first | exact absurd h (by decide +kernel) | exact h (by decide +kernel))) | refine And.intro (fun h => False.elim (by first | exact absurd h (by decide +kernel) | exact h (by decide +kernel))) (fun _ => ?_) | refine And.intro (by unfold vp_in; decide +kernel) ?_ | refine And.intro (show ¬ _ = (0 : Int32) from by decide +kernel) ?_)
  refine And.intro rfl (And.intro (rq (by decide +kernel)) (And.intro rfl rfl))
theorem t_part (S : PS) (x n : Int32) (j : Nat) (hx : x = nI j) (hj : j < 256) (hn : ¬ n = 0) (hz : ((0 : Int32) &&& nI 2147483647) - ((0 : Int32) &&& nI 2147483647) / n * n = nI 0) : Run 0 50 [.retAddr 0, .int x, .int n] S (.inl (some (nI 0))) S := by
  subst hx
  refine run_of (by decide +kernel) rfl (fun G hG => ?_)
  repeat (refine hG.1 _ _ _ _ _ _ rfl ?_)
  refine And.intro (fun h => ?_) (fun h => ?_)
  · exact absurd h (nI_ge (b := 256) hj (by decide))
  · repeat (refine hG.1 _ _ _ _ _ _ rfl ?_)
    refine And.intro (vp_in_nI (show j < 256 by omega) (by decide)) ?_
    repeat (refine hG.1 _ _ _ _ _ _ rfl ?_)
    refine And.intro ((by decide : ¬ (2 : Nat) = 0)) ?_
    repeat (refine hG.1 _ _ _ _ _ _ rfl ?_)
    refine And.intro (hn) ?_
    repeat (refine hG.1 _ _ _ _ _ _ rfl ?_)
    refine And.intro rfl (And.intro ?_ (And.intro rfl rfl))
    exact rq hz
theorem t_rank : Run 0 47 [.ref 0] S0 (.inl (some (nI 0))) S0 := by
  refine run_of (by decide +kernel) rfl (fun G hG => ?_)
  repeat (first | refine hG.1 _ _ _ _ _ _ rfl ?_ | refine And.intro (fun _ => ?_) (fun h => False.elim (by first | exact absurd h (by decide +kernel) | exact h (by decide +kernel))) | refine And.intro (fun h => False.elim (by first | exact absurd h (by decide +kernel) | exact h (by decide +kernel))) (fun _ => ?_) | refine And.intro (by unfold vp_in; decide +kernel) ?_ | refine And.intro (show ¬ _ = (0 : Int32) from by decide +kernel) ?_)
  exact And.intro rfl (And.intro rfl (And.intro rfl rfl))
theorem t_ranked_m : Run 1 22 [.ref 0, .int (-1)] S0 (.inr 1) S0 := by
  refine run_of (by decide +kernel) rfl (fun G hG => ?_)
  repeat (first | refine hG.1 _ _ _ _ _ _ rfl ?_ | refine And.intro (fun _ => ?_) (fun h => False.elim (by first | exact absurd h (by decide +kernel) | exact h (by decide +kernel))) | refine And.intro (fun h => False.elim (by first | exact absurd h (by decide +kernel) | exact h (by decide +kernel))) (fun _ => ?_) | refine And.intro (by unfold vp_in; decide +kernel) ?_ | refine And.intro (show ¬ _ = (0 : Int32) from by decide +kernel) ?_)
  refine And.intro rfl (cx (t_rank) rfl ?_)
  repeat (first | refine hG.1 _ _ _ _ _ _ rfl ?_ | refine And.intro (fun _ => ?_) (fun h => False.elim (by first | exact absurd h (by decide +kernel) | exact h (by decide +kernel))) | refine And.intro (fun h => False.elim (by first | exact absurd h (by decide +kernel) | exact h (by decide +kernel))) (fun _ => ?_) | refine And.intro (by unfold vp_in; decide +kernel) ?_ | refine And.intro (show ¬ _ = (0 : Int32) from by decide +kernel) ?_)
  exact And.intro rfl (And.intro rfl (And.intro (Nat.le_refl _) (And.intro rfl (And.intro rfl rfl))))
theorem t_ranked_0 : Run 1 22 [.ref 0, .int (nI 0)] S0 (.inr 1) S0 := by
  refine run_of (by decide +kernel) rfl (fun G hG => ?_)
  repeat (first | refine hG.1 _ _ _ _ _ _ rfl ?_ | refine And.intro (fun _ => ?_) (fun h => False.elim (by first | exact absurd h (by decide +kernel) | exact h (by decide +kernel))) | refine And.intro (fun h => False.elim (by first | exact absurd h (by decide +kernel) | exact h (by decide +kernel))) (fun _ => ?_) | refine And.intro (by unfold vp_in; decide +kernel) ?_ | refine And.intro (show ¬ _ = (0 : Int32) from by decide +kernel) ?_)
  refine And.intro rfl (cx (t_rank) rfl ?_)
  repeat (first | refine hG.1 _ _ _ _ _ _ rfl ?_ | refine And.intro (fun _ => ?_) (fun h => False.elim (by first | exact absurd h (by decide +kernel) | exact h (by decide +kernel))) | refine And.intro (fun h => False.elim (by first | exact absurd h (by decide +kernel) | exact h (by decide +kernel))) (fun _ => ?_) | refine And.intro (by unfold vp_in; decide +kernel) ?_ | refine And.intro (show ¬ _ = (0 : Int32) from by decide +kernel) ?_)
  exact And.intro rfl (And.intro rfl (And.intro (Nat.le_refl _) (And.intro rfl (And.intro rfl rfl))))
theorem t_plan (y : Int32) (h1 : ¬ y < nI 0) (h2 : y ≤ nI 1000) : Run 0 23 [.ref 0, .int y] S0 (.inl (some (nI 0))) S0 := by
  refine run_of (by decide +kernel) rfl (fun G hG => ?_)
  repeat (refine hG.1 _ _ _ _ _ _ rfl ?_)
  refine cx (r_needRange S0 _ _ _ h1 h2) rfl ?_
  repeat (first | refine hG.1 _ _ _ _ _ _ rfl ?_ | refine And.intro (fun _ => ?_) (fun h => False.elim (by first | exact absurd h (by decide +kernel) | exact h (by decide +kernel))) | refine And.intro (fun h => False.elim (by first | exact absurd h (by decide +kernel) | exact h (by decide +kernel))) (fun _ => ?_) | refine And.intro (by unfold vp_in; decide +kernel) ?_ | refine And.intro (show ¬ _ = (0 : Int32) from by decide +kernel) ?_)
  refine And.intro rfl (cx (t_rank) rfl ?_)
  repeat (first | refine hG.1 _ _ _ _ _ _ rfl ?_ | refine And.intro (fun _ => ?_) (fun h => False.elim (by first | exact absurd h (by decide +kernel) | exact h (by decide +kernel))) | refine And.intro (fun h => False.elim (by first | exact absurd h (by decide +kernel) | exact h (by decide +kernel))) (fun _ => ?_) | refine And.intro (by unfold vp_in; decide +kernel) ?_ | refine And.intro (show ¬ _ = (0 : Int32) from by decide +kernel) ?_)
  exact And.intro rfl (And.intro rfl (And.intro rfl rfl))
theorem t_takes : Run 0 7 [.ref 0, .int (nI 0)] S0 (.inl (some (nI 0))) S0 := by
  have h := x_takes S0 0 1 0 hX0 (by decide)
  rwa [show tknX S0.2.1 0 (S0.1 0 14) (S0.1 0 6) 0 = nI 0 from by decide +kernel] at h
theorem t_supp : Run 0 6 [.ref 0, .int (nI 0)] S0 (.inl (some (nI 1))) S0 := by
  have h := x_isSupplied S0 0 1 rfl (by decide) (by decide)
  rwa [show bi (S0.2.1 1 0 &&& S0.1 0 6 = 0) = nI 1 from by decide +kernel] at h
theorem t_allFlow : Run 0 9 [.ref 0] S0 (.inl (some (nI 0))) S0 := by
  have h := x_allFlow S0 1 0 hX0
  rwa [show flX S0.2.1 1 0 (S0.1 0 14) (S0.1 0 6) (nI 0) = nI 0 from by decide +kernel] at h
end
section
set_option maxHeartbeats 8000000 in
set_option maxRecDepth 100000 in
theorem t_areNodes : Run 5 56 [.ref 0, .ref 12, .ref 13, .ref 16] S0 (.inl (some (nI 1))) S0 := by
  refine run_of (by decide +kernel) rfl (fun G hG => ?_)
  repeat (first | refine hG.1 _ _ _ _ _ _ rfl ?_ | refine And.intro (fun _ => ?_) (fun h => False.elim (by first | exact absurd h (by decide +kernel) | exact h (by decide +kernel))) | refine And.intro (fun h => False.elim (by first | exact absurd h (by decide +kernel) | exact h (by decide +kernel))) (fun _ => ?_) | refine And.intro (by unfold vp_in; decide +kernel) ?_ | refine And.intro (show ¬ _ = (0 : Int32) from by decide +kernel) ?_)
  refine cx (t_asks_0 S0 _ _ (x_takes_0 S0 _ (by decide +kernel))) rfl ?_
  repeat (first | refine hG.1 _ _ _ _ _ _ rfl ?_ | refine And.intro (fun _ => ?_) (fun h => False.elim (by first | exact absurd h (by decide +kernel) | exact h (by decide +kernel))) | refine And.intro (fun h => False.elim (by first | exact absurd h (by decide +kernel) | exact h (by decide +kernel))) (fun _ => ?_) | refine And.intro (by unfold vp_in; decide +kernel) ?_ | refine And.intro (show ¬ _ = (0 : Int32) from by decide +kernel) ?_)
  refine cx (t_tells_2 S0 _ (x_isSupplied_0 S0 _ (by decide +kernel))) rfl ?_
  repeat (first | refine hG.1 _ _ _ _ _ _ rfl ?_ | refine And.intro (fun _ => ?_) (fun h => False.elim (by first | exact absurd h (by decide +kernel) | exact h (by decide +kernel))) | refine And.intro (fun h => False.elim (by first | exact absurd h (by decide +kernel) | exact h (by decide +kernel))) (fun _ => ?_) | refine And.intro (by unfold vp_in; decide +kernel) ?_ | refine And.intro (show ¬ _ = (0 : Int32) from by decide +kernel) ?_)
  refine And.intro rfl (cx (t_supp) rfl ?_)
  repeat (first | refine hG.1 _ _ _ _ _ _ rfl ?_ | refine And.intro (fun _ => ?_) (fun h => False.elim (by first | exact absurd h (by decide +kernel) | exact h (by decide +kernel))) | refine And.intro (fun h => False.elim (by first | exact absurd h (by decide +kernel) | exact h (by decide +kernel))) (fun _ => ?_) | refine And.intro (by unfold vp_in; decide +kernel) ?_ | refine And.intro (show ¬ _ = (0 : Int32) from by decide +kernel) ?_)
  refine cx (t_sets_7_1 S0 _ _ _ (x_flow_0 S0 _ (by decide +kernel))) rfl ?_
  repeat (first | refine hG.1 _ _ _ _ _ _ rfl ?_ | refine And.intro (fun _ => ?_) (fun h => False.elim (by first | exact absurd h (by decide +kernel) | exact h (by decide +kernel))) | refine And.intro (fun h => False.elim (by first | exact absurd h (by decide +kernel) | exact h (by decide +kernel))) (fun _ => ?_) | refine And.intro (by unfold vp_in; decide +kernel) ?_ | refine And.intro (show ¬ _ = (0 : Int32) from by decide +kernel) ?_)
  refine cx (t_tells_1 S0 _ (x_toggleValve_0 S0 _ (by decide +kernel))) rfl ?_
  repeat (first | refine hG.1 _ _ _ _ _ _ rfl ?_ | refine And.intro (fun _ => ?_) (fun h => False.elim (by first | exact absurd h (by decide +kernel) | exact h (by decide +kernel))) | refine And.intro (fun h => False.elim (by first | exact absurd h (by decide +kernel) | exact h (by decide +kernel))) (fun _ => ?_) | refine And.intro (by unfold vp_in; decide +kernel) ?_ | refine And.intro (show ¬ _ = (0 : Int32) from by decide +kernel) ?_)
  refine cx (t_tells_0 S0 _ (x_addMeter_0 S0 _ (by decide +kernel))) rfl ?_
  repeat (first | refine hG.1 _ _ _ _ _ _ rfl ?_ | refine And.intro (fun _ => ?_) (fun h => False.elim (by first | exact absurd h (by decide +kernel) | exact h (by decide +kernel))) | refine And.intro (fun h => False.elim (by first | exact absurd h (by decide +kernel) | exact h (by decide +kernel))) (fun _ => ?_) | refine And.intro (by unfold vp_in; decide +kernel) ?_ | refine And.intro (show ¬ _ = (0 : Int32) from by decide +kernel) ?_)
  refine And.intro rfl (cx (t_takes) rfl ?_)
  repeat (first | refine hG.1 _ _ _ _ _ _ rfl ?_ | refine And.intro (fun _ => ?_) (fun h => False.elim (by first | exact absurd h (by decide +kernel) | exact h (by decide +kernel))) | refine And.intro (fun h => False.elim (by first | exact absurd h (by decide +kernel) | exact h (by decide +kernel))) (fun _ => ?_) | refine And.intro (by unfold vp_in; decide +kernel) ?_ | refine And.intro (show ¬ _ = (0 : Int32) from by decide +kernel) ?_)
  refine And.intro rfl (cx (t_supp) rfl ?_)
  repeat (first | refine hG.1 _ _ _ _ _ _ rfl ?_ | refine And.intro (fun _ => ?_) (fun h => False.elim (by first | exact absurd h (by decide +kernel) | exact h (by decide +kernel))) | refine And.intro (fun h => False.elim (by first | exact absurd h (by decide +kernel) | exact h (by decide +kernel))) (fun _ => ?_) | refine And.intro (by unfold vp_in; decide +kernel) ?_ | refine And.intro (show ¬ _ = (0 : Int32) from by decide +kernel) ?_)
  refine And.intro rfl (cx (t_allFlow) rfl ?_)
  repeat (first | refine hG.1 _ _ _ _ _ _ rfl ?_ | refine And.intro (fun _ => ?_) (fun h => False.elim (by first | exact absurd h (by decide +kernel) | exact h (by decide +kernel))) | refine And.intro (fun h => False.elim (by first | exact absurd h (by decide +kernel) | exact h (by decide +kernel))) (fun _ => ?_) | refine And.intro (by unfold vp_in; decide +kernel) ?_ | refine And.intro (show ¬ _ = (0 : Int32) from by decide +kernel) ?_)
  exact And.intro rfl (And.intro rfl (And.intro rfl rfl))
set_option maxHeartbeats 8000000 in
set_option maxRecDepth 100000 in
theorem t_areBursts : Run 5 58 [.ref 0, .ref 15, .ref 16] S0 (.inl (some (nI 1))) S0 := by
  refine run_of (by decide +kernel) rfl (fun G hG => ?_)
  repeat (first | refine hG.1 _ _ _ _ _ _ rfl ?_ | refine And.intro (fun _ => ?_) (fun h => False.elim (by first | exact absurd h (by decide +kernel) | exact h (by decide +kernel))) | refine And.intro (fun h => False.elim (by first | exact absurd h (by decide +kernel) | exact h (by decide +kernel))) (fun _ => ?_) | refine And.intro (by unfold vp_in; decide +kernel) ?_ | refine And.intro (show ¬ _ = (0 : Int32) from by decide +kernel) ?_)
  refine cx (t_asks_8 S0 _ _ (x_cost_0 S0 _ (by decide +kernel))) rfl ?_
  repeat (first | refine hG.1 _ _ _ _ _ _ rfl ?_ | refine And.intro (fun _ => ?_) (fun h => False.elim (by first | exact absurd h (by decide +kernel) | exact h (by decide +kernel))) | refine And.intro (fun h => False.elim (by first | exact absurd h (by decide +kernel) | exact h (by decide +kernel))) (fun _ => ?_) | refine And.intro (by unfold vp_in; decide +kernel) ?_ | refine And.intro (show ¬ _ = (0 : Int32) from by decide +kernel) ?_)
  refine cx (t_asks_9 S0 _ _ t_ranked_m) rfl ?_
  repeat (first | refine hG.1 _ _ _ _ _ _ rfl ?_ | refine And.intro (fun _ => ?_) (fun h => False.elim (by first | exact absurd h (by decide +kernel) | exact h (by decide +kernel))) | refine And.intro (fun h => False.elim (by first | exact absurd h (by decide +kernel) | exact h (by decide +kernel))) (fun _ => ?_) | refine And.intro (by unfold vp_in; decide +kernel) ?_ | refine And.intro (show ¬ _ = (0 : Int32) from by decide +kernel) ?_)
  refine cx (t_sets_6_1 S0 _ _ _ (x_repair_0 S0 _ (by decide +kernel))) rfl ?_
  repeat (first | refine hG.1 _ _ _ _ _ _ rfl ?_ | refine And.intro (fun _ => ?_) (fun h => False.elim (by first | exact absurd h (by decide +kernel) | exact h (by decide +kernel))) | refine And.intro (fun h => False.elim (by first | exact absurd h (by decide +kernel) | exact h (by decide +kernel))) (fun _ => ?_) | refine And.intro (by unfold vp_in; decide +kernel) ?_ | refine And.intro (show ¬ _ = (0 : Int32) from by decide +kernel) ?_)
  refine cx (t_asks_9 S0 _ _ t_ranked_0) rfl ?_
  repeat (first | refine hG.1 _ _ _ _ _ _ rfl ?_ | refine And.intro (fun _ => ?_) (fun h => False.elim (by first | exact absurd h (by decide +kernel) | exact h (by decide +kernel))) | refine And.intro (fun h => False.elim (by first | exact absurd h (by decide +kernel) | exact h (by decide +kernel))) (fun _ => ?_) | refine And.intro (by unfold vp_in; decide +kernel) ?_ | refine And.intro (show ¬ _ = (0 : Int32) from by decide +kernel) ?_)
  refine And.intro rfl (cx (t_plan _ (by decide +kernel) (by decide +kernel)) rfl ?_)
  repeat (first | refine hG.1 _ _ _ _ _ _ rfl ?_ | refine And.intro (fun _ => ?_) (fun h => False.elim (by first | exact absurd h (by decide +kernel) | exact h (by decide +kernel))) | refine And.intro (fun h => False.elim (by first | exact absurd h (by decide +kernel) | exact h (by decide +kernel))) (fun _ => ?_) | refine And.intro (by unfold vp_in; decide +kernel) ?_ | refine And.intro (show ¬ _ = (0 : Int32) from by decide +kernel) ?_)
  refine And.intro rfl (cx (t_plan _ (by decide +kernel) (by decide +kernel)) rfl ?_)
  repeat (first | refine hG.1 _ _ _ _ _ _ rfl ?_ | refine And.intro (fun _ => ?_) (fun h => False.elim (by first | exact absurd h (by decide +kernel) | exact h (by decide +kernel))) | refine And.intro (fun h => False.elim (by first | exact absurd h (by decide +kernel) | exact h (by decide +kernel))) (fun _ => ?_) | refine And.intro (by unfold vp_in; decide +kernel) ?_ | refine And.intro (show ¬ _ = (0 : Int32) from by decide +kernel) ?_)
  refine And.intro rfl (cx (t_plan _ (by decide +kernel) (by decide +kernel)) rfl ?_)
  repeat (first | refine hG.1 _ _ _ _ _ _ rfl ?_ | refine And.intro (fun _ => ?_) (fun h => False.elim (by first | exact absurd h (by decide +kernel) | exact h (by decide +kernel))) | refine And.intro (fun h => False.elim (by first | exact absurd h (by decide +kernel) | exact h (by decide +kernel))) (fun _ => ?_) | refine And.intro (by unfold vp_in; decide +kernel) ?_ | refine And.intro (show ¬ _ = (0 : Int32) from by decide +kernel) ?_)
  refine cx (t_bits S0) rfl ?_
  repeat (first | refine hG.1 _ _ _ _ _ _ rfl ?_ | refine And.intro (fun _ => ?_) (fun h => False.elim (by first | exact absurd h (by decide +kernel) | exact h (by decide +kernel))) | refine And.intro (fun h => False.elim (by first | exact absurd h (by decide +kernel) | exact h (by decide +kernel))) (fun _ => ?_) | refine And.intro (by unfold vp_in; decide +kernel) ?_ | refine And.intro (show ¬ _ = (0 : Int32) from by decide +kernel) ?_)
  refine And.intro rfl (cx (t_plan _ (by decide +kernel) (by decide +kernel)) rfl ?_)
  repeat (first | refine hG.1 _ _ _ _ _ _ rfl ?_ | refine And.intro (fun _ => ?_) (fun h => False.elim (by first | exact absurd h (by decide +kernel) | exact h (by decide +kernel))) | refine And.intro (fun h => False.elim (by first | exact absurd h (by decide +kernel) | exact h (by decide +kernel))) (fun _ => ?_) | refine And.intro (by unfold vp_in; decide +kernel) ?_ | refine And.intro (show ¬ _ = (0 : Int32) from by decide +kernel) ?_)
  refine cx (t_bits S0) rfl ?_
  repeat (first | refine hG.1 _ _ _ _ _ _ rfl ?_ | refine And.intro (fun _ => ?_) (fun h => False.elim (by first | exact absurd h (by decide +kernel) | exact h (by decide +kernel))) | refine And.intro (fun h => False.elim (by first | exact absurd h (by decide +kernel) | exact h (by decide +kernel))) (fun _ => ?_) | refine And.intro (by unfold vp_in; decide +kernel) ?_ | refine And.intro (show ¬ _ = (0 : Int32) from by decide +kernel) ?_)
  refine cx (t_asks_10 S0 _ _ (x_plan_0 S0 _ (by decide +kernel))) rfl ?_
  repeat (first | refine hG.1 _ _ _ _ _ _ rfl ?_ | refine And.intro (fun _ => ?_) (fun h => False.elim (by first | exact absurd h (by decide +kernel) | exact h (by decide +kernel))) | refine And.intro (fun h => False.elim (by first | exact absurd h (by decide +kernel) | exact h (by decide +kernel))) (fun _ => ?_) | refine And.intro (by unfold vp_in; decide +kernel) ?_ | refine And.intro (show ¬ _ = (0 : Int32) from by decide +kernel) ?_)
  refine And.intro rfl (cx (t_allFlow) rfl ?_)
  repeat (first | refine hG.1 _ _ _ _ _ _ rfl ?_ | refine And.intro (fun _ => ?_) (fun h => False.elim (by first | exact absurd h (by decide +kernel) | exact h (by decide +kernel))) | refine And.intro (fun h => False.elim (by first | exact absurd h (by decide +kernel) | exact h (by decide +kernel))) (fun _ => ?_) | refine And.intro (by unfold vp_in; decide +kernel) ?_ | refine And.intro (show ¬ _ = (0 : Int32) from by decide +kernel) ?_)
  exact And.intro rfl (And.intro rfl (And.intro rfl rfl))
set_option maxHeartbeats 8000000 in
set_option maxRecDepth 100000 in
theorem t_isNode : Run 1 59 [.ref 0, .ref 12, .ref 13, .ref 16, .int (nI 0), .int (nI 0)] S0 (.inl (some (nI 1))) S0 := by
  refine run_of (by decide +kernel) rfl (fun G hG => ?_)
  repeat (first | refine hG.1 _ _ _ _ _ _ rfl ?_ | refine And.intro (fun _ => ?_) (fun h => False.elim (by first | exact absurd h (by decide +kernel) | exact h (by decide +kernel))) | refine And.intro (fun h => False.elim (by first | exact absurd h (by decide +kernel) | exact h (by decide +kernel))) (fun _ => ?_) | refine And.intro (by unfold vp_in; decide +kernel) ?_ | refine And.intro (show ¬ _ = (0 : Int32) from by decide +kernel) ?_)
  refine cx (t_sets_0_0 S0 _ _ _ (x_addNode_0 S0 _ _ (by decide +kernel))) rfl ?_
  repeat (first | refine hG.1 _ _ _ _ _ _ rfl ?_ | refine And.intro (fun _ => ?_) (fun h => False.elim (by first | exact absurd h (by decide +kernel) | exact h (by decide +kernel))) | refine And.intro (fun h => False.elim (by first | exact absurd h (by decide +kernel) | exact h (by decide +kernel))) (fun _ => ?_) | refine And.intro (by unfold vp_in; decide +kernel) ?_ | refine And.intro (show ¬ _ = (0 : Int32) from by decide +kernel) ?_)
  exact And.intro rfl (And.intro rfl (And.intro rfl rfl))
set_option maxHeartbeats 8000000 in
set_option maxRecDepth 100000 in
theorem t_isDone (x : Int32) (j : Nat) (hx : x = nI j) (hj : j + 3 < 256) : Run 1 64 [.ref 0, .retAddr 0, .int x, .ref 12, .ref 13, .ref 14, .ref 15, .ref 16] S0 (.inl (some (nI 1))) S0 := by
  subst hx
  refine run_of (by decide +kernel) rfl (fun G hG => ?_)
  repeat (first | refine hG.1 _ _ _ _ _ _ rfl ?_ | refine And.intro (fun _ => ?_) (fun h => False.elim (by first | exact absurd h (by decide +kernel) | exact h (by decide +kernel))) | refine And.intro (fun h => False.elim (by first | exact absurd h (by decide +kernel) | exact h (by decide +kernel))) (fun _ => ?_) | refine And.intro (by unfold vp_in; decide +kernel) ?_ | refine And.intro (show ¬ _ = (0 : Int32) from by decide +kernel) ?_)
  refine cx (t_part S0 _ _ j rfl (by omega) (by decide +kernel) (by decide +kernel)) rfl ?_
  repeat (first | refine hG.1 _ _ _ _ _ _ rfl ?_ | refine And.intro (fun _ => ?_) (fun h => False.elim (by first | exact absurd h (by decide +kernel) | exact h (by decide +kernel))) | refine And.intro (fun h => False.elim (by first | exact absurd h (by decide +kernel) | exact h (by decide +kernel))) (fun _ => ?_) | refine And.intro (by unfold vp_in; decide +kernel) ?_ | refine And.intro (show ¬ _ = (0 : Int32) from by decide +kernel) ?_)
  refine cx (t_part S0 _ _ (j + 1) (nI_add _ _) (by omega) (by decide +kernel) (by decide +kernel)) rfl ?_
  repeat (first | refine hG.1 _ _ _ _ _ _ rfl ?_ | refine And.intro (fun _ => ?_) (fun h => False.elim (by first | exact absurd h (by decide +kernel) | exact h (by decide +kernel))) | refine And.intro (fun h => False.elim (by first | exact absurd h (by decide +kernel) | exact h (by decide +kernel))) (fun _ => ?_) | refine And.intro (by unfold vp_in; decide +kernel) ?_ | refine And.intro (show ¬ _ = (0 : Int32) from by decide +kernel) ?_)
  refine cx (t_part S0 _ _ (j + 2) (nI_add _ _) (by omega) (by decide +kernel) (by decide +kernel)) rfl ?_
  repeat (first | refine hG.1 _ _ _ _ _ _ rfl ?_ | refine And.intro (fun _ => ?_) (fun h => False.elim (by first | exact absurd h (by decide +kernel) | exact h (by decide +kernel))) | refine And.intro (fun h => False.elim (by first | exact absurd h (by decide +kernel) | exact h (by decide +kernel))) (fun _ => ?_) | refine And.intro (by unfold vp_in; decide +kernel) ?_ | refine And.intro (show ¬ _ = (0 : Int32) from by decide +kernel) ?_)
  refine cx (t_part S0 _ _ (j + 3) (nI_add _ _) (by omega) (by decide +kernel) (by decide +kernel)) rfl ?_
  repeat (first | refine hG.1 _ _ _ _ _ _ rfl ?_ | refine And.intro (fun _ => ?_) (fun h => False.elim (by first | exact absurd h (by decide +kernel) | exact h (by decide +kernel))) | refine And.intro (fun h => False.elim (by first | exact absurd h (by decide +kernel) | exact h (by decide +kernel))) (fun _ => ?_) | refine And.intro (by unfold vp_in; decide +kernel) ?_ | refine And.intro (show ¬ _ = (0 : Int32) from by decide +kernel) ?_)
  refine cx (t_isNode) rfl ?_
  repeat (first | refine hG.1 _ _ _ _ _ _ rfl ?_ | refine And.intro (fun _ => ?_) (fun h => False.elim (by first | exact absurd h (by decide +kernel) | exact h (by decide +kernel))) | refine And.intro (fun h => False.elim (by first | exact absurd h (by decide +kernel) | exact h (by decide +kernel))) (fun _ => ?_) | refine And.intro (by unfold vp_in; decide +kernel) ?_ | refine And.intro (show ¬ _ = (0 : Int32) from by decide +kernel) ?_)
  exact And.intro rfl (And.intro rfl (And.intro rfl rfl))
end
section
set_option maxHeartbeats 8000000 in
set_option maxRecDepth 100000 in
theorem law_head {G : KT} {P : Nat → PR → PS → Prop} (hG : Cl 65 LZ xZ 790 P G) (hP : P 790 (.inl (some (nI 1))) S0) : G 0 40 [(6, .ref 16), (5, .ref 15), (4, .ref 14), (3, .ref 13), (2, .ref 12), (1, .ref 0), (0, .retAddr 0)] [] S0 := by
  have fin : G 778 206 [(8, .int (nI 64)), (7, .int (nI 1)), (6, .ref 16), (5, .ref 15), (4, .ref 14), (3, .ref 13), (2, .ref 12), (1, .ref 0), (0, .retAddr 0)] [] S0 := by
    repeat (first | refine hG.1 _ _ _ _ _ _ rfl ?_ | refine And.intro (fun _ => ?_) (fun h => False.elim (by first | exact absurd h (by decide +kernel) | exact h (by decide +kernel))) | refine And.intro (fun h => False.elim (by first | exact absurd h (by decide +kernel) | exact h (by decide +kernel))) (fun _ => ?_) | refine And.intro (by unfold vp_in; decide +kernel) ?_ | refine And.intro (show ¬ _ = (0 : Int32) from by decide +kernel) ?_)
    refine cx (t_sets_0_0 S0 _ _ _ (x_addNode_0 S0 _ _ (by decide +kernel))) rfl ?_
    repeat (first | refine hG.1 _ _ _ _ _ _ rfl ?_ | refine And.intro (fun _ => ?_) (fun h => False.elim (by first | exact absurd h (by decide +kernel) | exact h (by decide +kernel))) | refine And.intro (fun h => False.elim (by first | exact absurd h (by decide +kernel) | exact h (by decide +kernel))) (fun _ => ?_) | refine And.intro (by unfold vp_in; decide +kernel) ?_ | refine And.intro (show ¬ _ = (0 : Int32) from by decide +kernel) ?_)
    refine cx (t_sets_1_0 S0 _ _ _ (x_setBackground_0 S0 _ _ (by decide +kernel))) rfl ?_
    repeat (first | refine hG.1 _ _ _ _ _ _ rfl ?_ | refine And.intro (fun _ => ?_) (fun h => False.elim (by first | exact absurd h (by decide +kernel) | exact h (by decide +kernel))) | refine And.intro (fun h => False.elim (by first | exact absurd h (by decide +kernel) | exact h (by decide +kernel))) (fun _ => ?_) | refine And.intro (by unfold vp_in; decide +kernel) ?_ | refine And.intro (show ¬ _ = (0 : Int32) from by decide +kernel) ?_)
    refine cx (t_sets_2_0 S0 _ _ _ (x_setPressure_0 S0 _ _ (by decide +kernel))) rfl ?_
    repeat (first | refine hG.1 _ _ _ _ _ _ rfl ?_ | refine And.intro (fun _ => ?_) (fun h => False.elim (by first | exact absurd h (by decide +kernel) | exact h (by decide +kernel))) | refine And.intro (fun h => False.elim (by first | exact absurd h (by decide +kernel) | exact h (by decide +kernel))) (fun _ => ?_) | refine And.intro (by unfold vp_in; decide +kernel) ?_ | refine And.intro (show ¬ _ = (0 : Int32) from by decide +kernel) ?_)
    refine cx (t_sets_2_1 S0 _ _ _ (x_setPressure_1 S0 _ _ (by decide +kernel) (by decide +kernel))) rfl ?_
    repeat (first | refine hG.1 _ _ _ _ _ _ rfl ?_ | refine And.intro (fun _ => ?_) (fun h => False.elim (by first | exact absurd h (by decide +kernel) | exact h (by decide +kernel))) | refine And.intro (fun h => False.elim (by first | exact absurd h (by decide +kernel) | exact h (by decide +kernel))) (fun _ => ?_) | refine And.intro (by unfold vp_in; decide +kernel) ?_ | refine And.intro (show ¬ _ = (0 : Int32) from by decide +kernel) ?_)
    refine cx (t_sets_3_1 S0 _ _ _ (x_addArea_0 S0 _ (by decide +kernel))) rfl ?_
    repeat (first | refine hG.1 _ _ _ _ _ _ rfl ?_ | refine And.intro (fun _ => ?_) (fun h => False.elim (by first | exact absurd h (by decide +kernel) | exact h (by decide +kernel))) | refine And.intro (fun h => False.elim (by first | exact absurd h (by decide +kernel) | exact h (by decide +kernel))) (fun _ => ?_) | refine And.intro (by unfold vp_in; decide +kernel) ?_ | refine And.intro (show ¬ _ = (0 : Int32) from by decide +kernel) ?_)
    refine cx (t_sets_4_1 S0 _ _ _ (x_addExport_0 S0 _ _ (by decide +kernel))) rfl ?_
    repeat (first | refine hG.1 _ _ _ _ _ _ rfl ?_ | refine And.intro (fun _ => ?_) (fun h => False.elim (by first | exact absurd h (by decide +kernel) | exact h (by decide +kernel))) | refine And.intro (fun h => False.elim (by first | exact absurd h (by decide +kernel) | exact h (by decide +kernel))) (fun _ => ?_) | refine And.intro (by unfold vp_in; decide +kernel) ?_ | refine And.intro (show ¬ _ = (0 : Int32) from by decide +kernel) ?_)
    refine cx (t_sets_5_0 S0 _ _ _ (x_burst_0a S0 _ _ _ (by decide +kernel))) rfl ?_
    repeat (first | refine hG.1 _ _ _ _ _ _ rfl ?_ | refine And.intro (fun _ => ?_) (fun h => False.elim (by first | exact absurd h (by decide +kernel) | exact h (by decide +kernel))) | refine And.intro (fun h => False.elim (by first | exact absurd h (by decide +kernel) | exact h (by decide +kernel))) (fun _ => ?_) | refine And.intro (by unfold vp_in; decide +kernel) ?_ | refine And.intro (show ¬ _ = (0 : Int32) from by decide +kernel) ?_)
    refine cx (t_asks_2 S0 _ _ (x_areaFlow_0 S0 _ (by decide +kernel))) rfl ?_
    repeat (first | refine hG.1 _ _ _ _ _ _ rfl ?_ | refine And.intro (fun _ => ?_) (fun h => False.elim (by first | exact absurd h (by decide +kernel) | exact h (by decide +kernel))) | refine And.intro (fun h => False.elim (by first | exact absurd h (by decide +kernel) | exact h (by decide +kernel))) (fun _ => ?_) | refine And.intro (by unfold vp_in; decide +kernel) ?_ | refine And.intro (show ¬ _ = (0 : Int32) from by decide +kernel) ?_)
    refine cx (t_asks_3 S0 _ _ (x_areaTakes_0 S0 _ (by decide +kernel))) rfl ?_
    repeat (first | refine hG.1 _ _ _ _ _ _ rfl ?_ | refine And.intro (fun _ => ?_) (fun h => False.elim (by first | exact absurd h (by decide +kernel) | exact h (by decide +kernel))) | refine And.intro (fun h => False.elim (by first | exact absurd h (by decide +kernel) | exact h (by decide +kernel))) (fun _ => ?_) | refine And.intro (by unfold vp_in; decide +kernel) ?_ | refine And.intro (show ¬ _ = (0 : Int32) from by decide +kernel) ?_)
    refine cx (t_asks_4 S0 _ _ (x_loss_0 S0 _ (by decide +kernel))) rfl ?_
    repeat (first | refine hG.1 _ _ _ _ _ _ rfl ?_ | refine And.intro (fun _ => ?_) (fun h => False.elim (by first | exact absurd h (by decide +kernel) | exact h (by decide +kernel))) | refine And.intro (fun h => False.elim (by first | exact absurd h (by decide +kernel) | exact h (by decide +kernel))) (fun _ => ?_) | refine And.intro (by unfold vp_in; decide +kernel) ?_ | refine And.intro (show ¬ _ = (0 : Int32) from by decide +kernel) ?_)
    refine cx (t_asks_5 S0 _ _ (x_steps_0 S0 _ (by decide +kernel))) rfl ?_
    repeat (first | refine hG.1 _ _ _ _ _ _ rfl ?_ | refine And.intro (fun _ => ?_) (fun h => False.elim (by first | exact absurd h (by decide +kernel) | exact h (by decide +kernel))) | refine And.intro (fun h => False.elim (by first | exact absurd h (by decide +kernel) | exact h (by decide +kernel))) (fun _ => ?_) | refine And.intro (by unfold vp_in; decide +kernel) ?_ | refine And.intro (show ¬ _ = (0 : Int32) from by decide +kernel) ?_)
    refine cx (t_asks_10 S0 _ _ (x_plan_0 S0 _ (by decide +kernel))) rfl ?_
    repeat (first | refine hG.1 _ _ _ _ _ _ rfl ?_ | refine And.intro (fun _ => ?_) (fun h => False.elim (by first | exact absurd h (by decide +kernel) | exact h (by decide +kernel))) | refine And.intro (fun h => False.elim (by first | exact absurd h (by decide +kernel) | exact h (by decide +kernel))) (fun _ => ?_) | refine And.intro (by unfold vp_in; decide +kernel) ?_ | refine And.intro (show ¬ _ = (0 : Int32) from by decide +kernel) ?_)
    exact And.intro rfl hP
  have main : ∀ i, i ≤ 64 → G (10 + 12 * i) 79 [(8, .int (nI i)), (7, .int (nI 1)), (6, .ref 16), (5, .ref 15), (4, .ref 14), (3, .ref 13), (2, .ref 12), (1, .ref 0), (0, .retAddr 0)] [] S0 := by
    refine loop_up (fun i hi ih => ?_) ?_
    · repeat (refine hG.1 _ _ _ _ _ _ rfl ?_)
      refine And.intro (fun h => ?_) (fun h => ?_)
      · exact absurd h (nI_ge (b := 64) hi (by decide))
      · repeat (first | refine hG.1 _ _ _ _ _ _ rfl ?_ | refine And.intro (fun _ => ?_) (fun h => False.elim (by first | exact absurd h (by decide +kernel) | exact h (by decide +kernel))) | refine And.intro (fun h => False.elim (by first | exact absurd h (by decide +kernel) | exact h (by decide +kernel))) (fun _ => ?_) | refine And.intro (by unfold vp_in; decide +kernel) ?_ | refine And.intro (show ¬ _ = (0 : Int32) from by decide +kernel) ?_)
        refine cxs (t_isDone _ (4 * i) (pk_mul 4 i) (by omega)) (by omega) ?_
        repeat (first | refine hG.1 _ _ _ _ _ _ rfl ?_ | refine And.intro (fun _ => ?_) (fun h => False.elim (by first | exact absurd h (by decide +kernel) | exact h (by decide +kernel))) | refine And.intro (fun h => False.elim (by first | exact absurd h (by decide +kernel) | exact h (by decide +kernel))) (fun _ => ?_) | refine And.intro (by unfold vp_in; decide +kernel) ?_ | refine And.intro (show ¬ _ = (0 : Int32) from by decide +kernel) ?_)
        refine cxs (t_areNodes) (by omega) ?_
        repeat (first | refine hG.1 _ _ _ _ _ _ rfl ?_ | refine And.intro (fun _ => ?_) (fun h => False.elim (by first | exact absurd h (by decide +kernel) | exact h (by decide +kernel))) | refine And.intro (fun h => False.elim (by first | exact absurd h (by decide +kernel) | exact h (by decide +kernel))) (fun _ => ?_) | refine And.intro (by unfold vp_in; decide +kernel) ?_ | refine And.intro (show ¬ _ = (0 : Int32) from by decide +kernel) ?_)
        refine cxs (t_areBursts) (by omega) ?_
        repeat (first | refine hG.1 _ _ _ _ _ _ rfl ?_ | refine And.intro (fun _ => ?_) (fun h => False.elim (by first | exact absurd h (by decide +kernel) | exact h (by decide +kernel))) | refine And.intro (fun h => False.elim (by first | exact absurd h (by decide +kernel) | exact h (by decide +kernel))) (fun _ => ?_) | refine And.intro (by unfold vp_in; decide +kernel) ?_ | refine And.intro (show ¬ _ = (0 : Int32) from by decide +kernel) ?_)
        refine cxs (t_asks_1 S0 _ _ (x_nodes_0 S0 _ (by decide +kernel))) (by omega) ?_
        have e : 10 + 12 * (i + 1) = 10 + 12 * i + 1 + 5 + 5 + 1 := by omega
        rw [e] at ih
        repeat (first | (refine wk hG ?_ (ih); (repeat (refine And.intro (by first | with_reducible rfl | with_reducible exact nI_add _ _ | with_reducible exact pk_m1 _ | rfl) ?_)); exact trivial) | refine hG.1 _ _ _ _ _ _ rfl ?_ | refine And.intro (fun _ => ?_) (fun h => False.elim (by first | exact absurd h (by decide +kernel) | exact h (by decide +kernel))) | refine And.intro (fun h => False.elim (by first | exact absurd h (by decide +kernel) | exact h (by decide +kernel))) (fun _ => ?_) | refine And.intro (by unfold vp_in; decide +kernel) ?_ | refine And.intro (show ¬ _ = (0 : Int32) from by decide +kernel) ?_)
    · repeat (first | (refine wk hG ?_ (fin); (repeat (refine And.intro (by first | with_reducible rfl | with_reducible exact nI_add _ _ | with_reducible exact pk_m1 _ | rfl) ?_)); exact trivial) | refine hG.1 _ _ _ _ _ _ rfl ?_ | refine And.intro (fun _ => ?_) (fun h => False.elim (by first | exact absurd h (by decide +kernel) | exact h (by decide +kernel))) | refine And.intro (fun h => False.elim (by first | exact absurd h (by decide +kernel) | exact h (by decide +kernel))) (fun _ => ?_) | refine And.intro (by unfold vp_in; decide +kernel) ?_ | refine And.intro (show ¬ _ = (0 : Int32) from by decide +kernel) ?_)
  repeat (first | refine hG.1 _ _ _ _ _ _ rfl ?_ | refine And.intro (fun _ => ?_) (fun h => False.elim (by first | exact absurd h (by decide +kernel) | exact h (by decide +kernel))) | refine And.intro (fun h => False.elim (by first | exact absurd h (by decide +kernel) | exact h (by decide +kernel))) (fun _ => ?_) | refine And.intro (by unfold vp_in; decide +kernel) ?_ | refine And.intro (show ¬ _ = (0 : Int32) from by decide +kernel) ?_)
  refine cx (t_areNodes) rfl ?_
  repeat (first | refine hG.1 _ _ _ _ _ _ rfl ?_ | refine And.intro (fun _ => ?_) (fun h => False.elim (by first | exact absurd h (by decide +kernel) | exact h (by decide +kernel))) | refine And.intro (fun h => False.elim (by first | exact absurd h (by decide +kernel) | exact h (by decide +kernel))) (fun _ => ?_) | refine And.intro (by unfold vp_in; decide +kernel) ?_ | refine And.intro (show ¬ _ = (0 : Int32) from by decide +kernel) ?_)
  refine cx (t_areBursts) rfl ?_
  repeat (first | refine hG.1 _ _ _ _ _ _ rfl ?_ | refine And.intro (fun _ => ?_) (fun h => False.elim (by first | exact absurd h (by decide +kernel) | exact h (by decide +kernel))) | refine And.intro (fun h => False.elim (by first | exact absurd h (by decide +kernel) | exact h (by decide +kernel))) (fun _ => ?_) | refine And.intro (by unfold vp_in; decide +kernel) ?_ | refine And.intro (show ¬ _ = (0 : Int32) from by decide +kernel) ?_)
  refine And.intro rfl (cx (t_allFlow) rfl ?_)
  repeat (first | (refine wk hG ?_ (main 0 (Nat.zero_le _)); (repeat (refine And.intro (by first | with_reducible rfl | with_reducible exact nI_add _ _ | with_reducible exact pk_m1 _ | rfl) ?_)); exact trivial) | refine hG.1 _ _ _ _ _ _ rfl ?_ | refine And.intro (fun _ => ?_) (fun h => False.elim (by first | exact absurd h (by decide +kernel) | exact h (by decide +kernel))) | refine And.intro (fun h => False.elim (by first | exact absurd h (by decide +kernel) | exact h (by decide +kernel))) (fun _ => ?_) | refine And.intro (by unfold vp_in; decide +kernel) ?_ | refine And.intro (show ¬ _ = (0 : Int32) from by decide +kernel) ?_)
end
section
def ctW : List Cond := [.arrayClass .int, .methodLink RX0 1 Lib.objectInit, .instanceMethod Lib.objectInit, .code Lib.objectInit ⟨#[0xb1]⟩ 1 none, .code yX0_init cX0_init 1 none]
def ltW : List Cond := [.methodLink RL 134 yX0_init, .instanceMethod yX0_init, .classLink RL 9 RX0, .instantiable RX0 17, .initialized RX0]
set_option maxRecDepth 100000 in
theorem p_ctW : ctW.map some = ([91, 36, 37, 38, 35] : List Nat).map (fun j => lw_tbl[j]?) := by decide +kernel
set_option maxRecDepth 100000 in
theorem p_ltW : ltW.map some = ([33, 34, 31, 32, 23] : List Nat).map (fun j => lw_tbl[j]?) := by decide +kernel
set_option maxRecDepth 100000 in
theorem g_ctW : ctW.all goodWord = true := by decide +kernel
theorem ct_in {w : Cond} (i : Nat) (h : ctW[i]? = some w) : w ∈ TT := inTT (tbl_of p_ctW (List.mem_of_getElem? h)) (List.all_eq_true.mp g_ctW w (List.mem_of_getElem? h))
theorem lt_in {w : Cond} (i : Nat) (h : ltW[i]? = some w) : w ∈ lw_tbl := tbl_of p_ltW (List.mem_of_getElem? h)
abbrev tyA (cA : Nat → ClassId) : List (ClassId × FieldType) := [(cA 0, .int)]
section CT
variable {p : Program} {l : Launch} {e : Env} {R : Room} {s : State} {m : MethodId} {args : Array Value} {below : List Frame} {meth : Method} {c : Code} {Q : State → Prop}
variable {D : va_G} {cA : Nat → ClassId}
theorem ct_arr {cc : ByteArray} {k N' pc index t mx : Nat} {nn : Int} {v : Int32} {aty : ArrayType} {ty : FieldType} {a : Nat} {fs : List Value} {ws : va_W} {H : Heap} {locs : List Loc} {ls : Array Slot} {cells slots : Nat} {A : Nat → Prop}
    (hx : p.tables.exec = Jvm.exec) (hb : c.code = cc) (hts : ∀ w ∈ TT, w.before args s = true) (hown : s.vm.findClass RX0 = some m.cls) (hin2 : meth.name = "<init>") (hK : va_K D vwCl (tyA cA) s)
    (harr : Cond.arrayClass (newarray.typeOf aty) ∈ TT) (hty : newarray.typeOf aty = ty) (hta : (tyA cA)[t]? = some (cA t, ty)) (hra : ∀ c1 : ClassId, va_RA s c1 ty → s.vm.findClass ("[" ++ ty.toString) = some c1)
    (hv : (Int8.ofInt nn).toInt32 = v) (hn : ¬ v < 0) (hN : v.toNatClampNeg = N') (ha0 : ∀ cA : ClassId, vp_cell cA (N', .inl (fun _ => (0 : Int32))) = arrV cA N' (fun _ => defaultValue ty)) (hby : N' * componentBytes ty ≤ 536870912)
    (hk : k < 17) (hfl : (0, index, k) ∈ FLs) (hfin : (TX0 k).2.2.2 = true) (hdesc : parseFieldDescriptor (TX0 k).2.2.1 = some (.array ty)) (hnar : ∀ q : Nat, narrow (.array ty) (.ref q) = .ref q) (hfit : ∀ q : Nat, fits (.array ty) (.ref q) = true) (hlen : k < fs.length)
    (hP : va_P D vwCl ((a, .inr (0, fs)) :: ws) H) (hD : va_D A ((a, .inr (0, fs)) :: ws)) (hS : va_S A s.heap H locs) (hA : ∀ q, s.heap.size ≤ q → A q) (hl : lv_has ls mx [(0, .ref a)])
    (hc : cells + 1 ≤ R.cells) (hs : slots + N' ≤ R.slots)
    (d0 : decode cc pc = .ok (.aload_n 0, 1)) (d1 : decode cc (pc + 1) = .ok (.bipush nn, 2)) (d2 : decode cc (pc + 3) = .ok (.newarray aty, 2)) (d3 : decode cc (pc + 5) = .ok (.putfield index, 3))
    (kk : ∀ (q : Nat) (H1 : Heap) (locs1 : List Loc), va_P D vwCl ((a, .inr (0, fs.set k (.ref q))) :: (ws ++ [(q, .inl (cA t, (N', .inl (fun _ => (0 : Int32)))))])) H1 → va_D A ((a, .inr (0, fs.set k (.ref q))) :: (ws ++ [(q, .inl (cA t, (N', .inl (fun _ => (0 : Int32)))))])) → va_S A s.heap H1 locs1 →
      W p l e R s m args below meth c H1 locs1 (cells + 1) (slots + N') Q (F0 m (pc + 8) ls [])) : W p l e R s m args below meth c H locs cells slots Q (F0 m pc ls []) := by
  refine lv_aload_n hx hb d0 rfl (lv_at hl 0 rfl) ?_
  refine lv_bipush hx hb d1 hv ?_
  refine va_newa (a0 := (N', .inl (fun _ => (0 : Int32)))) hx hb (hts _ harr) hty hK hP hD hS hA ha0 hn hN hby hc hs d2 (fun q c1 H1 hK1 hP1 hD1 hS1 => ?_)
  have e1 : c1 = cA t := by
    have h1 := (hK1.2 (tyA cA).length (c1, ty) (by rw [List.getElem?_append_right (Nat.le_refl _)]; simp)).2
    have h2 := (hK.2 t _ hta).2
    exact Option.some.inj ((hra _ h1).symm.trans (hra _ h2))
  subst e1
  have hown2 : (TX0 k).1 = RX0 := by
    have hf := fOk_all hk
    simp only [fOk, Bool.and_eq_true, decide_eq_true_eq] at hf
    exact hf.1
  refine va_putF (D := D) (ci := 0) (v := .ref q) (C := RX0) (T := TX0) (N := 17) hx hb hts in_lay tyX0 tyX0_ok nmX0 hown hK hP1 hD1 hS1 0 rfl cl_at k hk (hts _ (in_fl hfl)) (fun _ h9 => by rw [hown2] at h9; exact h9) hfin hin2 hown2 hdesc (hnar q) (hfit q) hlen d3 (fun H2 locs2 hP2 hD2 hS2 => ?_)
  exact kk q H2 locs2 hP2 hD2 hS2
abbrev wldX (cA : Nat → ClassId) (h0 q1 q2 q3 q4 q5 q6 q7 q8 q9 q10 q11 : Nat) : va_W := [(h0, .inr (0, [.int 1, .ref q1, .ref q2, .ref q3, .ref q4, .int 0, .int 0, .int 0, .ref q5, .ref q6, .int 0, .ref q7, .ref q8, .ref q9, .int 0, .ref q10, .ref q11])), (q1, .inl (cA 0, (16, .inl (upd (fun _ => (0 : Int32)) 0 1)))), (q2, .inl (cA 0, (16, .inl (fun _ => (0 : Int32))))), (q3, .inl (cA 0, (16, .inl (fun _ => (0 : Int32))))), (q4, .inl (cA 0, (16, .inl (fun _ => (0 : Int32))))), (q5, .inl (cA 0, (8, .inl (fun _ => (0 : Int32))))), (q6, .inl (cA 0, (8, .inl (fun _ => (0 : Int32))))), (q7, .inl (cA 0, (20, .inl (fun _ => (0 : Int32))))), (q8, .inl (cA 0, (20, .inl (fun _ => (0 : Int32))))), (q9, .inl (cA 0, (20, .inl (fun _ => (0 : Int32))))), (q10, .inl (cA 0, (20, .inl (fun _ => (0 : Int32))))), (q11, .inl (cA 0, (20, .inl (fun _ => (0 : Int32)))))]
abbrev stX (h0 : Nat) : va_W := [(h0, .inr (0, [.int 0, .null, .null, .null, .null, .int 0, .int 0, .int 0, .null, .null, .int 0, .null, .null, .null, .int 0, .null, .null]))]
def ctOutX (D : va_G) (cA : Nat → ClassId) (sz h0 : Nat) (_ : Unit) (t : State) : Prop := ∃ q1 q2 q3 q4 q5 q6 q7 q8 q9 q10 q11 : Nat, va_P D vwCl (wldX cA h0 q1 q2 q3 q4 q5 q6 q7 q8 q9 q10 q11) t.heap ∧ va_D (va_A (stX h0) sz) (wldX cA h0 q1 q2 q3 q4 q5 q6 q7 q8 q9 q10 q11)
set_option maxHeartbeats 4000000 in
set_option maxRecDepth 100000 in
theorem ct_X (l : Launch) (D : va_G) (cA : Nat → ClassId) (h0 sz : Nat) : Met l yX0_init (.code yX0_init cX0_init 1 none :: TT) ({ frames := 1, cells := 11, slots := 180, locals := 20 }) (va_Pc [.ref h0] (fun U => U.heap.size = sz ∧ va_P D vwCl (stX h0) U.heap ∧ va_K D vwCl (tyA cA) U ∧ va_D (fun _ => True) (stX h0))) (va_Qv (fun _ : Unit => True) (ctOutX D cA sz h0) (va_A (stX h0) sz)) 11 180 (va_A (stX h0) sz) := by
  refine Met.ofW (cc := cX0_init) (maxL := 1) (ret := none) (by decide +kernel) rfl ?_
  intro p e s m args below meth c s₁ B hml hv
  obtain ⟨rfl, hsz, hP, hK, hD0⟩ := hv
  have hx := B.exec
  have hb := B.bytes
  have hr := B.returns
  have hts : ∀ w ∈ TT, w.before _ s = true := fun w hw => atoms_spec (ws := Cond.code yX0_init cX0_init 1 none :: TT) B.pre w (List.mem_cons_of_mem _ hw)
  have hown : s.vm.findClass RX0 = some m.cls := findClass_of_methodNamed B.named
  have hin : meth.name = "<init>" := (name_of_methodNamed B.named B.method).1
  subst hsz
  have hD := hD0.self (sz := s.heap.size)
  unfold ctOutX
  generalize hAe : va_A (stX h0) s.heap.size = A at hD ⊢
  have hA : ∀ q : Nat, s.heap.size ≤ q → A q := fun q h => by rw [← hAe]; exact Or.inr h
  have hS : va_S A s.heap s.heap [] := va_S.rf
  have hl := lv_entry ([.ref h0]) (n := 1) (Nat.le_of_ble_eq_true rfl)
  rw [lg_entry_eq]
  generalize (lg_sl ([.ref h0]) ++ List.replicate (1 - (lg_sl ([.ref h0])).length) Slot.unset).toArray = ls at hl ⊢
  have hl : lv_has ls 1 [(0, .ref h0)] := hl
  have dd : ∀ {pc nx ax : Nat} {ins : Instr}, lkp (pg 0) pc = some (ins, nx, ax) → decode cX0_init pc = .ok (ins, ln ins) := fun h => (row_ok (i := 0) (by decide) h).1
  refine lv_aload_n hx hb (dd (pc := 0) rfl) rfl (lv_at hl 0 rfl) ?_
  refine W.objInit hx hb hown (hts _ (ct_in 1 rfl)) (hts _ (ct_in 2 rfl)) (hts _ (ct_in 3 rfl)) rfl (by rw [hml]; exact hl.1) rfl (dd (pc := 1) rfl) (Nat.le_of_ble_eq_true rfl) (Nat.le_of_ble_eq_true rfl) ?_
  refine W.eq (g2 := F0 m 4 ls []) rfl ?_
  refine ct_arr (k := 1) (N' := 16) (index := 9) (t := 0) (nn := 16) (v := nI 16) (aty := .int) (ty := .int) hx hb hts hown hin hK (ct_in 0 rfl) rfl rfl (fun _ h => h) (by decide) (by decide) (by decide) (fun _ => rfl) (by decide) (by decide) (by decide +kernel) rfl (by decide +kernel) (fun _ => rfl) (fun _ => rfl) (Nat.le_of_ble_eq_true rfl) hP hD hS hA hl (cells := 0) (slots := 0) (Nat.le_of_ble_eq_true rfl) (Nat.le_of_ble_eq_true rfl) (dd (pc := 4) rfl) (dd (pc := 5) rfl) (dd (pc := 7) rfl) (dd (pc := 9) rfl) (fun q1 H locs hP hD hS => ?_)
  have hP : va_P D vwCl [(h0, .inr (0, [.int 0, .ref q1, .null, .null, .null, .int 0, .int 0, .int 0, .null, .null, .int 0, .null, .null, .null, .int 0, .null, .null])), (q1, .inl (cA 0, (16, .inl (fun _ => (0 : Int32)))))] H := hP
  have hD : va_D A [(h0, .inr (0, [.int 0, .ref q1, .null, .null, .null, .int 0, .int 0, .int 0, .null, .null, .int 0, .null, .null, .null, .int 0, .null, .null])), (q1, .inl (cA 0, (16, .inl (fun _ => (0 : Int32)))))] := hD
  refine ct_arr (k := 2) (N' := 16) (index := 13) (t := 0) (nn := 16) (v := nI 16) (aty := .int) (ty := .int) hx hb hts hown hin hK (ct_in 0 rfl) rfl rfl (fun _ h => h) (by decide) (by decide) (by decide) (fun _ => rfl) (by decide) (by decide) (by decide +kernel) rfl (by decide +kernel) (fun _ => rfl) (fun _ => rfl) (Nat.le_of_ble_eq_true rfl) hP hD hS hA hl (cells := 1) (slots := 16) (Nat.le_of_ble_eq_true rfl) (Nat.le_of_ble_eq_true rfl) (dd (pc := 12) rfl) (dd (pc := 13) rfl) (dd (pc := 15) rfl) (dd (pc := 17) rfl) (fun q2 H locs hP hD hS => ?_)
  have hP : va_P D vwCl [(h0, .inr (0, [.int 0, .ref q1, .ref q2, .null, .null, .int 0, .int 0, .int 0, .null, .null, .int 0, .null, .null, .null, .int 0, .null, .null])), (q1, .inl (cA 0, (16, .inl (fun _ => (0 : Int32))))), (q2, .inl (cA 0, (16, .inl (fun _ => (0 : Int32)))))] H := hP
  have hD : va_D A [(h0, .inr (0, [.int 0, .ref q1, .ref q2, .null, .null, .int 0, .int 0, .int 0, .null, .null, .int 0, .null, .null, .null, .int 0, .null, .null])), (q1, .inl (cA 0, (16, .inl (fun _ => (0 : Int32))))), (q2, .inl (cA 0, (16, .inl (fun _ => (0 : Int32)))))] := hD
  refine ct_arr (k := 3) (N' := 16) (index := 16) (t := 0) (nn := 16) (v := nI 16) (aty := .int) (ty := .int) hx hb hts hown hin hK (ct_in 0 rfl) rfl rfl (fun _ h => h) (by decide) (by decide) (by decide) (fun _ => rfl) (by decide) (by decide) (by decide +kernel) rfl (by decide +kernel) (fun _ => rfl) (fun _ => rfl) (Nat.le_of_ble_eq_true rfl) hP hD hS hA hl (cells := 2) (slots := 32) (Nat.le_of_ble_eq_true rfl) (Nat.le_of_ble_eq_true rfl) (dd (pc := 20) rfl) (dd (pc := 21) rfl) (dd (pc := 23) rfl) (dd (pc := 25) rfl) (fun q3 H locs hP hD hS => ?_)
  have hP : va_P D vwCl [(h0, .inr (0, [.int 0, .ref q1, .ref q2, .ref q3, .null, .int 0, .int 0, .int 0, .null, .null, .int 0, .null, .null, .null, .int 0, .null, .null])), (q1, .inl (cA 0, (16, .inl (fun _ => (0 : Int32))))), (q2, .inl (cA 0, (16, .inl (fun _ => (0 : Int32))))), (q3, .inl (cA 0, (16, .inl (fun _ => (0 : Int32)))))] H := hP
  have hD : va_D A [(h0, .inr (0, [.int 0, .ref q1, .ref q2, .ref q3, .null, .int 0, .int 0, .int 0, .null, .null, .int 0, .null, .null, .null, .int 0, .null, .null])), (q1, .inl (cA 0, (16, .inl (fun _ => (0 : Int32))))), (q2, .inl (cA 0, (16, .inl (fun _ => (0 : Int32))))), (q3, .inl (cA 0, (16, .inl (fun _ => (0 : Int32)))))] := hD
  refine ct_arr (k := 4) (N' := 16) (index := 19) (t := 0) (nn := 16) (v := nI 16) (aty := .int) (ty := .int) hx hb hts hown hin hK (ct_in 0 rfl) rfl rfl (fun _ h => h) (by decide) (by decide) (by decide) (fun _ => rfl) (by decide) (by decide) (by decide +kernel) rfl (by decide +kernel) (fun _ => rfl) (fun _ => rfl) (Nat.le_of_ble_eq_true rfl) hP hD hS hA hl (cells := 3) (slots := 48) (Nat.le_of_ble_eq_true rfl) (Nat.le_of_ble_eq_true rfl) (dd (pc := 28) rfl) (dd (pc := 29) rfl) (dd (pc := 31) rfl) (dd (pc := 33) rfl) (fun q4 H locs hP hD hS => ?_)
  have hP : va_P D vwCl [(h0, .inr (0, [.int 0, .ref q1, .ref q2, .ref q3, .ref q4, .int 0, .int 0, .int 0, .null, .null, .int 0, .null, .null, .null, .int 0, .null, .null])), (q1, .inl (cA 0, (16, .inl (fun _ => (0 : Int32))))), (q2, .inl (cA 0, (16, .inl (fun _ => (0 : Int32))))), (q3, .inl (cA 0, (16, .inl (fun _ => (0 : Int32))))), (q4, .inl (cA 0, (16, .inl (fun _ => (0 : Int32)))))] H := hP
  have hD : va_D A [(h0, .inr (0, [.int 0, .ref q1, .ref q2, .ref q3, .ref q4, .int 0, .int 0, .int 0, .null, .null, .int 0, .null, .null, .null, .int 0, .null, .null])), (q1, .inl (cA 0, (16, .inl (fun _ => (0 : Int32))))), (q2, .inl (cA 0, (16, .inl (fun _ => (0 : Int32))))), (q3, .inl (cA 0, (16, .inl (fun _ => (0 : Int32))))), (q4, .inl (cA 0, (16, .inl (fun _ => (0 : Int32)))))] := hD
  refine ct_arr (k := 8) (N' := 8) (index := 22) (t := 0) (nn := 8) (v := nI 8) (aty := .int) (ty := .int) hx hb hts hown hin hK (ct_in 0 rfl) rfl rfl (fun _ h => h) (by decide) (by decide) (by decide) (fun _ => rfl) (by decide) (by decide) (by decide +kernel) rfl (by decide +kernel) (fun _ => rfl) (fun _ => rfl) (Nat.le_of_ble_eq_true rfl) hP hD hS hA hl (cells := 4) (slots := 64) (Nat.le_of_ble_eq_true rfl) (Nat.le_of_ble_eq_true rfl) (dd (pc := 36) rfl) (dd (pc := 37) rfl) (dd (pc := 39) rfl) (dd (pc := 41) rfl) (fun q5 H locs hP hD hS => ?_)
  have hP : va_P D vwCl [(h0, .inr (0, [.int 0, .ref q1, .ref q2, .ref q3, .ref q4, .int 0, .int 0, .int 0, .ref q5, .null, .int 0, .null, .null, .null, .int 0, .null, .null])), (q1, .inl (cA 0, (16, .inl (fun _ => (0 : Int32))))), (q2, .inl (cA 0, (16, .inl (fun _ => (0 : Int32))))), (q3, .inl (cA 0, (16, .inl (fun _ => (0 : Int32))))), (q4, .inl (cA 0, (16, .inl (fun _ => (0 : Int32))))), (q5, .inl (cA 0, (8, .inl (fun _ => (0 : Int32)))))] H := hP
  have hD : va_D A [(h0, .inr (0, [.int 0, .ref q1, .ref q2, .ref q3, .ref q4, .int 0, .int 0, .int 0, .ref q5, .null, .int 0, .null, .null, .null, .int 0, .null, .null])), (q1, .inl (cA 0, (16, .inl (fun _ => (0 : Int32))))), (q2, .inl (cA 0, (16, .inl (fun _ => (0 : Int32))))), (q3, .inl (cA 0, (16, .inl (fun _ => (0 : Int32))))), (q4, .inl (cA 0, (16, .inl (fun _ => (0 : Int32))))), (q5, .inl (cA 0, (8, .inl (fun _ => (0 : Int32)))))] := hD
  refine ct_arr (k := 9) (N' := 8) (index := 25) (t := 0) (nn := 8) (v := nI 8) (aty := .int) (ty := .int) hx hb hts hown hin hK (ct_in 0 rfl) rfl rfl (fun _ h => h) (by decide) (by decide) (by decide) (fun _ => rfl) (by decide) (by decide) (by decide +kernel) rfl (by decide +kernel) (fun _ => rfl) (fun _ => rfl) (Nat.le_of_ble_eq_true rfl) hP hD hS hA hl (cells := 5) (slots := 72) (Nat.le_of_ble_eq_true rfl) (Nat.le_of_ble_eq_true rfl) (dd (pc := 44) rfl) (dd (pc := 45) rfl) (dd (pc := 47) rfl) (dd (pc := 49) rfl) (fun q6 H locs hP hD hS => ?_)
  have hP : va_P D vwCl [(h0, .inr (0, [.int 0, .ref q1, .ref q2, .ref q3, .ref q4, .int 0, .int 0, .int 0, .ref q5, .ref q6, .int 0, .null, .null, .null, .int 0, .null, .null])), (q1, .inl (cA 0, (16, .inl (fun _ => (0 : Int32))))), (q2, .inl (cA 0, (16, .inl (fun _ => (0 : Int32))))), (q3, .inl (cA 0, (16, .inl (fun _ => (0 : Int32))))), (q4, .inl (cA 0, (16, .inl (fun _ => (0 : Int32))))), (q5, .inl (cA 0, (8, .inl (fun _ => (0 : Int32))))), (q6, .inl (cA 0, (8, .inl (fun _ => (0 : Int32)))))] H := hP
  have hD : va_D A [(h0, .inr (0, [.int 0, .ref q1, .ref q2, .ref q3, .ref q4, .int 0, .int 0, .int 0, .ref q5, .ref q6, .int 0, .null, .null, .null, .int 0, .null, .null])), (q1, .inl (cA 0, (16, .inl (fun _ => (0 : Int32))))), (q2, .inl (cA 0, (16, .inl (fun _ => (0 : Int32))))), (q3, .inl (cA 0, (16, .inl (fun _ => (0 : Int32))))), (q4, .inl (cA 0, (16, .inl (fun _ => (0 : Int32))))), (q5, .inl (cA 0, (8, .inl (fun _ => (0 : Int32))))), (q6, .inl (cA 0, (8, .inl (fun _ => (0 : Int32)))))] := hD
  refine ct_arr (k := 11) (N' := 20) (index := 28) (t := 0) (nn := 20) (v := nI 20) (aty := .int) (ty := .int) hx hb hts hown hin hK (ct_in 0 rfl) rfl rfl (fun _ h => h) (by decide) (by decide) (by decide) (fun _ => rfl) (by decide) (by decide) (by decide +kernel) rfl (by decide +kernel) (fun _ => rfl) (fun _ => rfl) (Nat.le_of_ble_eq_true rfl) hP hD hS hA hl (cells := 6) (slots := 80) (Nat.le_of_ble_eq_true rfl) (Nat.le_of_ble_eq_true rfl) (dd (pc := 52) rfl) (dd (pc := 53) rfl) (dd (pc := 55) rfl) (dd (pc := 57) rfl) (fun q7 H locs hP hD hS => ?_)
  have hP : va_P D vwCl [(h0, .inr (0, [.int 0, .ref q1, .ref q2, .ref q3, .ref q4, .int 0, .int 0, .int 0, .ref q5, .ref q6, .int 0, .ref q7, .null, .null, .int 0, .null, .null])), (q1, .inl (cA 0, (16, .inl (fun _ => (0 : Int32))))), (q2, .inl (cA 0, (16, .inl (fun _ => (0 : Int32))))), (q3, .inl (cA 0, (16, .inl (fun _ => (0 : Int32))))), (q4, .inl (cA 0, (16, .inl (fun _ => (0 : Int32))))), (q5, .inl (cA 0, (8, .inl (fun _ => (0 : Int32))))), (q6, .inl (cA 0, (8, .inl (fun _ => (0 : Int32))))), (q7, .inl (cA 0, (20, .inl (fun _ => (0 : Int32)))))] H := hP
  have hD : va_D A [(h0, .inr (0, [.int 0, .ref q1, .ref q2, .ref q3, .ref q4, .int 0, .int 0, .int 0, .ref q5, .ref q6, .int 0, .ref q7, .null, .null, .int 0, .null, .null])), (q1, .inl (cA 0, (16, .inl (fun _ => (0 : Int32))))), (q2, .inl (cA 0, (16, .inl (fun _ => (0 : Int32))))), (q3, .inl (cA 0, (16, .inl (fun _ => (0 : Int32))))), (q4, .inl (cA 0, (16, .inl (fun _ => (0 : Int32))))), (q5, .inl (cA 0, (8, .inl (fun _ => (0 : Int32))))), (q6, .inl (cA 0, (8, .inl (fun _ => (0 : Int32))))), (q7, .inl (cA 0, (20, .inl (fun _ => (0 : Int32)))))] := hD
  refine ct_arr (k := 12) (N' := 20) (index := 31) (t := 0) (nn := 20) (v := nI 20) (aty := .int) (ty := .int) hx hb hts hown hin hK (ct_in 0 rfl) rfl rfl (fun _ h => h) (by decide) (by decide) (by decide) (fun _ => rfl) (by decide) (by decide) (by decide +kernel) rfl (by decide +kernel) (fun _ => rfl) (fun _ => rfl) (Nat.le_of_ble_eq_true rfl) hP hD hS hA hl (cells := 7) (slots := 100) (Nat.le_of_ble_eq_true rfl) (Nat.le_of_ble_eq_true rfl) (dd (pc := 60) rfl) (dd (pc := 61) rfl) (dd (pc := 63) rfl) (dd (pc := 65) rfl) (fun q8 H locs hP hD hS => ?_)
  have hP : va_P D vwCl [(h0, .inr (0, [.int 0, .ref q1, .ref q2, .ref q3, .ref q4, .int 0, .int 0, .int 0, .ref q5, .ref q6, .int 0, .ref q7, .ref q8, .null, .int 0, .null, .null])), (q1, .inl (cA 0, (16, .inl (fun _ => (0 : Int32))))), (q2, .inl (cA 0, (16, .inl (fun _ => (0 : Int32))))), (q3, .inl (cA 0, (16, .inl (fun _ => (0 : Int32))))), (q4, .inl (cA 0, (16, .inl (fun _ => (0 : Int32))))), (q5, .inl (cA 0, (8, .inl (fun _ => (0 : Int32))))), (q6, .inl (cA 0, (8, .inl (fun _ => (0 : Int32))))), (q7, .inl (cA 0, (20, .inl (fun _ => (0 : Int32))))), (q8, .inl (cA 0, (20, .inl (fun _ => (0 : Int32)))))] H := hP
  have hD : va_D A [(h0, .inr (0, [.int 0, .ref q1, .ref q2, .ref q3, .ref q4, .int 0, .int 0, .int 0, .ref q5, .ref q6, .int 0, .ref q7, .ref q8, .null, .int 0, .null, .null])), (q1, .inl (cA 0, (16, .inl (fun _ => (0 : Int32))))), (q2, .inl (cA 0, (16, .inl (fun _ => (0 : Int32))))), (q3, .inl (cA 0, (16, .inl (fun _ => (0 : Int32))))), (q4, .inl (cA 0, (16, .inl (fun _ => (0 : Int32))))), (q5, .inl (cA 0, (8, .inl (fun _ => (0 : Int32))))), (q6, .inl (cA 0, (8, .inl (fun _ => (0 : Int32))))), (q7, .inl (cA 0, (20, .inl (fun _ => (0 : Int32))))), (q8, .inl (cA 0, (20, .inl (fun _ => (0 : Int32)))))] := hD
  refine ct_arr (k := 13) (N' := 20) (index := 34) (t := 0) (nn := 20) (v := nI 20) (aty := .int) (ty := .int) hx hb hts hown hin hK (ct_in 0 rfl) rfl rfl (fun _ h => h) (by decide) (by decide) (by decide) (fun _ => rfl) (by decide) (by decide) (by decide +kernel) rfl (by decide +kernel) (fun _ => rfl) (fun _ => rfl) (Nat.le_of_ble_eq_true rfl) hP hD hS hA hl (cells := 8) (slots := 120) (Nat.le_of_ble_eq_true rfl) (Nat.le_of_ble_eq_true rfl) (dd (pc := 68) rfl) (dd (pc := 69) rfl) (dd (pc := 71) rfl) (dd (pc := 73) rfl) (fun q9 H locs hP hD hS => ?_)
  have hP : va_P D vwCl [(h0, .inr (0, [.int 0, .ref q1, .ref q2, .ref q3, .ref q4, .int 0, .int 0, .int 0, .ref q5, .ref q6, .int 0, .ref q7, .ref q8, .ref q9, .int 0, .null, .null])), (q1, .inl (cA 0, (16, .inl (fun _ => (0 : Int32))))), (q2, .inl (cA 0, (16, .inl (fun _ => (0 : Int32))))), (q3, .inl (cA 0, (16, .inl (fun _ => (0 : Int32))))), (q4, .inl (cA 0, (16, .inl (fun _ => (0 : Int32))))), (q5, .inl (cA 0, (8, .inl (fun _ => (0 : Int32))))), (q6, .inl (cA 0, (8, .inl (fun _ => (0 : Int32))))), (q7, .inl (cA 0, (20, .inl (fun _ => (0 : Int32))))), (q8, .inl (cA 0, (20, .inl (fun _ => (0 : Int32))))), (q9, .inl (cA 0, (20, .inl (fun _ => (0 : Int32)))))] H := hP
  have hD : va_D A [(h0, .inr (0, [.int 0, .ref q1, .ref q2, .ref q3, .ref q4, .int 0, .int 0, .int 0, .ref q5, .ref q6, .int 0, .ref q7, .ref q8, .ref q9, .int 0, .null, .null])), (q1, .inl (cA 0, (16, .inl (fun _ => (0 : Int32))))), (q2, .inl (cA 0, (16, .inl (fun _ => (0 : Int32))))), (q3, .inl (cA 0, (16, .inl (fun _ => (0 : Int32))))), (q4, .inl (cA 0, (16, .inl (fun _ => (0 : Int32))))), (q5, .inl (cA 0, (8, .inl (fun _ => (0 : Int32))))), (q6, .inl (cA 0, (8, .inl (fun _ => (0 : Int32))))), (q7, .inl (cA 0, (20, .inl (fun _ => (0 : Int32))))), (q8, .inl (cA 0, (20, .inl (fun _ => (0 : Int32))))), (q9, .inl (cA 0, (20, .inl (fun _ => (0 : Int32)))))] := hD
  refine ct_arr (k := 15) (N' := 20) (index := 37) (t := 0) (nn := 20) (v := nI 20) (aty := .int) (ty := .int) hx hb hts hown hin hK (ct_in 0 rfl) rfl rfl (fun _ h => h) (by decide) (by decide) (by decide) (fun _ => rfl) (by decide) (by decide) (by decide +kernel) rfl (by decide +kernel) (fun _ => rfl) (fun _ => rfl) (Nat.le_of_ble_eq_true rfl) hP hD hS hA hl (cells := 9) (slots := 140) (Nat.le_of_ble_eq_true rfl) (Nat.le_of_ble_eq_true rfl) (dd (pc := 76) rfl) (dd (pc := 77) rfl) (dd (pc := 79) rfl) (dd (pc := 81) rfl) (fun q10 H locs hP hD hS => ?_)
  have hP : va_P D vwCl [(h0, .inr (0, [.int 0, .ref q1, .ref q2, .ref q3, .ref q4, .int 0, .int 0, .int 0, .ref q5, .ref q6, .int 0, .ref q7, .ref q8, .ref q9, .int 0, .ref q10, .null])), (q1, .inl (cA 0, (16, .inl (fun _ => (0 : Int32))))), (q2, .inl (cA 0, (16, .inl (fun _ => (0 : Int32))))), (q3, .inl (cA 0, (16, .inl (fun _ => (0 : Int32))))), (q4, .inl (cA 0, (16, .inl (fun _ => (0 : Int32))))), (q5, .inl (cA 0, (8, .inl (fun _ => (0 : Int32))))), (q6, .inl (cA 0, (8, .inl (fun _ => (0 : Int32))))), (q7, .inl (cA 0, (20, .inl (fun _ => (0 : Int32))))), (q8, .inl (cA 0, (20, .inl (fun _ => (0 : Int32))))), (q9, .inl (cA 0, (20, .inl (fun _ => (0 : Int32))))), (q10, .inl (cA 0, (20, .inl (fun _ => (0 : Int32)))))] H := hP
  have hD : va_D A [(h0, .inr (0, [.int 0, .ref q1, .ref q2, .ref q3, .ref q4, .int 0, .int 0, .int 0, .ref q5, .ref q6, .int 0, .ref q7, .ref q8, .ref q9, .int 0, .ref q10, .null])), (q1, .inl (cA 0, (16, .inl (fun _ => (0 : Int32))))), (q2, .inl (cA 0, (16, .inl (fun _ => (0 : Int32))))), (q3, .inl (cA 0, (16, .inl (fun _ => (0 : Int32))))), (q4, .inl (cA 0, (16, .inl (fun _ => (0 : Int32))))), (q5, .inl (cA 0, (8, .inl (fun _ => (0 : Int32))))), (q6, .inl (cA 0, (8, .inl (fun _ => (0 : Int32))))), (q7, .inl (cA 0, (20, .inl (fun _ => (0 : Int32))))), (q8, .inl (cA 0, (20, .inl (fun _ => (0 : Int32))))), (q9, .inl (cA 0, (20, .inl (fun _ => (0 : Int32))))), (q10, .inl (cA 0, (20, .inl (fun _ => (0 : Int32)))))] := hD
  refine ct_arr (k := 16) (N' := 20) (index := 40) (t := 0) (nn := 20) (v := nI 20) (aty := .int) (ty := .int) hx hb hts hown hin hK (ct_in 0 rfl) rfl rfl (fun _ h => h) (by decide) (by decide) (by decide) (fun _ => rfl) (by decide) (by decide) (by decide +kernel) rfl (by decide +kernel) (fun _ => rfl) (fun _ => rfl) (Nat.le_of_ble_eq_true rfl) hP hD hS hA hl (cells := 10) (slots := 160) (Nat.le_of_ble_eq_true rfl) (Nat.le_of_ble_eq_true rfl) (dd (pc := 84) rfl) (dd (pc := 85) rfl) (dd (pc := 87) rfl) (dd (pc := 89) rfl) (fun q11 H locs hP hD hS => ?_)
  have hP : va_P D vwCl [(h0, .inr (0, [.int 0, .ref q1, .ref q2, .ref q3, .ref q4, .int 0, .int 0, .int 0, .ref q5, .ref q6, .int 0, .ref q7, .ref q8, .ref q9, .int 0, .ref q10, .ref q11])), (q1, .inl (cA 0, (16, .inl (fun _ => (0 : Int32))))), (q2, .inl (cA 0, (16, .inl (fun _ => (0 : Int32))))), (q3, .inl (cA 0, (16, .inl (fun _ => (0 : Int32))))), (q4, .inl (cA 0, (16, .inl (fun _ => (0 : Int32))))), (q5, .inl (cA 0, (8, .inl (fun _ => (0 : Int32))))), (q6, .inl (cA 0, (8, .inl (fun _ => (0 : Int32))))), (q7, .inl (cA 0, (20, .inl (fun _ => (0 : Int32))))), (q8, .inl (cA 0, (20, .inl (fun _ => (0 : Int32))))), (q9, .inl (cA 0, (20, .inl (fun _ => (0 : Int32))))), (q10, .inl (cA 0, (20, .inl (fun _ => (0 : Int32))))), (q11, .inl (cA 0, (20, .inl (fun _ => (0 : Int32)))))] H := hP
  have hD : va_D A [(h0, .inr (0, [.int 0, .ref q1, .ref q2, .ref q3, .ref q4, .int 0, .int 0, .int 0, .ref q5, .ref q6, .int 0, .ref q7, .ref q8, .ref q9, .int 0, .ref q10, .ref q11])), (q1, .inl (cA 0, (16, .inl (fun _ => (0 : Int32))))), (q2, .inl (cA 0, (16, .inl (fun _ => (0 : Int32))))), (q3, .inl (cA 0, (16, .inl (fun _ => (0 : Int32))))), (q4, .inl (cA 0, (16, .inl (fun _ => (0 : Int32))))), (q5, .inl (cA 0, (8, .inl (fun _ => (0 : Int32))))), (q6, .inl (cA 0, (8, .inl (fun _ => (0 : Int32))))), (q7, .inl (cA 0, (20, .inl (fun _ => (0 : Int32))))), (q8, .inl (cA 0, (20, .inl (fun _ => (0 : Int32))))), (q9, .inl (cA 0, (20, .inl (fun _ => (0 : Int32))))), (q10, .inl (cA 0, (20, .inl (fun _ => (0 : Int32))))), (q11, .inl (cA 0, (20, .inl (fun _ => (0 : Int32)))))] := hD
  refine lv_aload_n hx hb (dd (pc := 92) rfl) rfl (lv_at hl 0 rfl) ?_
  refine lv_iconst (v := 1) hx hb (dd (pc := 93) rfl) (by decide) ?_
  refine va_put (D := D) (ci := 0) (v := .int 1) (C := RX0) (T := TX0) (N := 17) hx hb hts in_lay tyX0 tyX0_ok nmX0 hown hK hP hD hS 0 rfl rfl 0 (by decide) (hts _ (in_fl (q := (0, 43, 0)) (by decide +kernel))) (fun _ h9 => h9) rfl (ty := .int) (by decide +kernel) rfl rfl (Nat.le_of_ble_eq_true rfl) (dd (pc := 94) rfl) (fun H locs hP hD hS => ?_)
  have hP : va_P D vwCl [(h0, .inr (0, [.int 1, .ref q1, .ref q2, .ref q3, .ref q4, .int 0, .int 0, .int 0, .ref q5, .ref q6, .int 0, .ref q7, .ref q8, .ref q9, .int 0, .ref q10, .ref q11])), (q1, .inl (cA 0, (16, .inl (fun _ => (0 : Int32))))), (q2, .inl (cA 0, (16, .inl (fun _ => (0 : Int32))))), (q3, .inl (cA 0, (16, .inl (fun _ => (0 : Int32))))), (q4, .inl (cA 0, (16, .inl (fun _ => (0 : Int32))))), (q5, .inl (cA 0, (8, .inl (fun _ => (0 : Int32))))), (q6, .inl (cA 0, (8, .inl (fun _ => (0 : Int32))))), (q7, .inl (cA 0, (20, .inl (fun _ => (0 : Int32))))), (q8, .inl (cA 0, (20, .inl (fun _ => (0 : Int32))))), (q9, .inl (cA 0, (20, .inl (fun _ => (0 : Int32))))), (q10, .inl (cA 0, (20, .inl (fun _ => (0 : Int32))))), (q11, .inl (cA 0, (20, .inl (fun _ => (0 : Int32)))))] H := hP
  have hD : va_D A [(h0, .inr (0, [.int 1, .ref q1, .ref q2, .ref q3, .ref q4, .int 0, .int 0, .int 0, .ref q5, .ref q6, .int 0, .ref q7, .ref q8, .ref q9, .int 0, .ref q10, .ref q11])), (q1, .inl (cA 0, (16, .inl (fun _ => (0 : Int32))))), (q2, .inl (cA 0, (16, .inl (fun _ => (0 : Int32))))), (q3, .inl (cA 0, (16, .inl (fun _ => (0 : Int32))))), (q4, .inl (cA 0, (16, .inl (fun _ => (0 : Int32))))), (q5, .inl (cA 0, (8, .inl (fun _ => (0 : Int32))))), (q6, .inl (cA 0, (8, .inl (fun _ => (0 : Int32))))), (q7, .inl (cA 0, (20, .inl (fun _ => (0 : Int32))))), (q8, .inl (cA 0, (20, .inl (fun _ => (0 : Int32))))), (q9, .inl (cA 0, (20, .inl (fun _ => (0 : Int32))))), (q10, .inl (cA 0, (20, .inl (fun _ => (0 : Int32))))), (q11, .inl (cA 0, (20, .inl (fun _ => (0 : Int32)))))] := hD
  refine lv_aload_n hx hb (dd (pc := 97) rfl) rfl (lv_at hl 0 rfl) ?_
  refine va_get (D := D) (ci := 0) (C := RX0) (T := TX0) (N := 17) hx hb hts in_lay hown hK hP 0 rfl rfl 1 (by decide) (hts _ (in_fl (q := (0, 9, 1)) (by decide +kernel))) (fun _ h9 => h9) (v := .ref q1) rfl (dd (pc := 98) rfl) ?_
  refine lv_iconst (v := 0) hx hb (dd (pc := 101) rfl) (by decide) ?_
  refine lv_iconst (v := 1) hx hb (dd (pc := 102) rfl) (by decide) ?_
  refine va_iast (D := D) hx hb hK hP hD hS 1 0 rfl rfl (by unfold vp_in; decide) (dd (pc := 103) rfl) (fun H locs hP hD hS => ?_)
  have hP : va_P D vwCl [(h0, .inr (0, [.int 1, .ref q1, .ref q2, .ref q3, .ref q4, .int 0, .int 0, .int 0, .ref q5, .ref q6, .int 0, .ref q7, .ref q8, .ref q9, .int 0, .ref q10, .ref q11])), (q1, .inl (cA 0, (16, .inl (upd (fun _ => (0 : Int32)) 0 1)))), (q2, .inl (cA 0, (16, .inl (fun _ => (0 : Int32))))), (q3, .inl (cA 0, (16, .inl (fun _ => (0 : Int32))))), (q4, .inl (cA 0, (16, .inl (fun _ => (0 : Int32))))), (q5, .inl (cA 0, (8, .inl (fun _ => (0 : Int32))))), (q6, .inl (cA 0, (8, .inl (fun _ => (0 : Int32))))), (q7, .inl (cA 0, (20, .inl (fun _ => (0 : Int32))))), (q8, .inl (cA 0, (20, .inl (fun _ => (0 : Int32))))), (q9, .inl (cA 0, (20, .inl (fun _ => (0 : Int32))))), (q10, .inl (cA 0, (20, .inl (fun _ => (0 : Int32))))), (q11, .inl (cA 0, (20, .inl (fun _ => (0 : Int32)))))] H := hP
  have hD : va_D A [(h0, .inr (0, [.int 1, .ref q1, .ref q2, .ref q3, .ref q4, .int 0, .int 0, .int 0, .ref q5, .ref q6, .int 0, .ref q7, .ref q8, .ref q9, .int 0, .ref q10, .ref q11])), (q1, .inl (cA 0, (16, .inl (upd (fun _ => (0 : Int32)) 0 1)))), (q2, .inl (cA 0, (16, .inl (fun _ => (0 : Int32))))), (q3, .inl (cA 0, (16, .inl (fun _ => (0 : Int32))))), (q4, .inl (cA 0, (16, .inl (fun _ => (0 : Int32))))), (q5, .inl (cA 0, (8, .inl (fun _ => (0 : Int32))))), (q6, .inl (cA 0, (8, .inl (fun _ => (0 : Int32))))), (q7, .inl (cA 0, (20, .inl (fun _ => (0 : Int32))))), (q8, .inl (cA 0, (20, .inl (fun _ => (0 : Int32))))), (q9, .inl (cA 0, (20, .inl (fun _ => (0 : Int32))))), (q10, .inl (cA 0, (20, .inl (fun _ => (0 : Int32))))), (q11, .inl (cA 0, (20, .inl (fun _ => (0 : Int32)))))] := hD
  exact W.vret hx hb hr (fun t ht hW => ⟨⟨(), rfl, trivial, q1, q2, q3, q4, q5, q6, q7, q8, q9, q10, q11, by rw [ht]; exact hP, hD⟩, hS.F ht⟩) hS.2.2 (dd (pc := 104) rfl)
end CT
end
section
def srW (q : Nat × Nat × Nat × Nat × String) : Cond := .stringRef RX0 q.2.1 q.2.2.2.2
set_option maxRecDepth 100000 in
theorem p_sr : SLs.map (fun q => some (srW q)) = ([311, 278, 331, 302, 245, 392, 226, 264, 277, 301, 364, 186] : List Nat).map (fun j => lw_tbl[j]?) := by decide +kernel
def evW : List Cond := [.laysStatic RX0 "FACTORS" "[I", .laysStatic Bundle.tN "UNASSIGNED_STACK" Bundle.steD, .laysStatic Bundle.tN "SUPPRESSED_SENTINEL" Bundle.listD, .initialized Bundle.tN, .initialized RX0, .castable (exN 0) (exN 0), .castable (exN 1) (exN 1), .castable (exN 2) (exN 2), .declares (Bundle.initS "java/lang/RuntimeException"), .declares (Bundle.initS "java/lang/Exception"), .declares (Bundle.initS "java/lang/Throwable")]
set_option maxRecDepth 100000 in
theorem p_ev : evW.map some = ([131, 172, 174, 24, 23, 147, 219, 238, 149, 151, 153] : List Nat).map (fun j => lw_tbl[j]?) := by decide +kernel
theorem ev_in {w : Cond} (i : Nat) (h : evW[i]? = some w) : w ∈ lw_tbl := tbl_of p_ev (List.mem_of_getElem? h)
theorem arr_k {args : Array Value} {s : State} {ty : FieldType} (h : (Cond.arrayClass ty).before args s = true) (hr : ∀ cA : ClassId, s.vm.findClass ("[" ++ ty.toString) = some cA → va_RA s cA ty) : ∃ cA : ClassId, ArrOfT s cA ty ∧ va_RA s cA ty := by
  obtain ⟨cA, kA, comp, h1, h2, h3⟩ := Cond.arrayClass_spec h
  exact ⟨cA, fun n z => ⟨fun k h => (by cases h), kA, h2, comp, h3⟩, hr cA h1⟩
set_option maxHeartbeats 4000000 in
set_option maxRecDepth 100000 in
theorem law_ev {s : State} {b : Nat} (hts : ∀ w ∈ lw_tbl, w.before #[Value.ref b] s = true) (hgv : (Jvm.Cond.and given_1 narrow_1).before #[Value.ref b] s = true) (hX : va_X b LZ xZ s s.heap) (hbl : b < s.heap.size) : ∃ (D : va_G) (cA : Nat → ClassId) (t : Nat), Ev D cA s.heap.size b LZ xZ t s s.heap := by
  have hs := flat_of_before _ hgv
  have htt : ∀ w ∈ TT, w.before #[Value.ref b] s = true := fun w h => hts w (TT_in h)
  have hA : ∀ a : Nat, a < s.heap.size → ¬ Ar s.heap.size a := fun a h => Nat.not_le.mpr h
  obtain ⟨c0, iS0, hKn0⟩ := u_known (C := RX0) (T := TX0) (N := 17) (n := 17) htt in_lay (hts _ (lt_in 3 rfl))
  obtain ⟨D, hKc⟩ : ∃ D : va_G, ∀ (k : Nat) (q : vw_C), vwCl[k]? = some q → u_Kn s q.1 q.2.1 q.2.2 (D.1 k) (D.2 k) := by
    refine ⟨(fun _ => c0, fun _ => iS0), ?_⟩
    intro k q hq
    match k, hq with
    | 0, hq => cases hq; exact hKn0
    | k + 1, hq => simp [vwCl] at hq
  obtain ⟨a0, g0, r0⟩ := arr_k (ty := .int) (htt _ (ct_in 0 rfl)) (fun _ h => h)
  have hK : va_K D vwCl [(a0, .int)] s := by
    refine ⟨hKc, fun k q hq => ?_⟩
    match k, hq with
    | 0, hq => cases hq; exact ⟨g0, r0⟩
    | k + 1, hq => simp at hq
  have harr : (Cond.arrayOf (.static RX0 "FACTORS" "[I") .int).before #[Value.ref b] s = true := hs _ (by decide +kernel)
  have hlen : (Cond.eq (.length (.static RX0 "FACTORS" "[I")) (.int 11)).before #[Value.ref b] s = true := hs _ (by decide +kernel)
  have e0 : (Cond.eq (.elem (.static RX0 "FACTORS" "[I") (.int 0)) (.int 0)).before #[Value.ref b] s = true := hs _ (by decide +kernel)
  have e1 : (Cond.eq (.elem (.static RX0 "FACTORS" "[I") (.int 1)) (.int 120)).before #[Value.ref b] s = true := hs _ (by decide +kernel)
  have e2 : (Cond.eq (.elem (.static RX0 "FACTORS" "[I") (.int 2)) (.int 280)).before #[Value.ref b] s = true := hs _ (by decide +kernel)
  have e3 : (Cond.eq (.elem (.static RX0 "FACTORS" "[I") (.int 3)) (.int 490)).before #[Value.ref b] s = true := hs _ (by decide +kernel)
  have e4 : (Cond.eq (.elem (.static RX0 "FACTORS" "[I") (.int 4)) (.int 730)).before #[Value.ref b] s = true := hs _ (by decide +kernel)
  have e5 : (Cond.eq (.elem (.static RX0 "FACTORS" "[I") (.int 5)) (.int 1000)).before #[Value.ref b] s = true := hs _ (by decide +kernel)
  have e6 : (Cond.eq (.elem (.static RX0 "FACTORS" "[I") (.int 6)) (.int 1290)).before #[Value.ref b] s = true := hs _ (by decide +kernel)
  have e7 : (Cond.eq (.elem (.static RX0 "FACTORS" "[I") (.int 7)) (.int 1600)).before #[Value.ref b] s = true := hs _ (by decide +kernel)
  have e8 : (Cond.eq (.elem (.static RX0 "FACTORS" "[I") (.int 8)) (.int 1930)).before #[Value.ref b] s = true := hs _ (by decide +kernel)
  have e9 : (Cond.eq (.elem (.static RX0 "FACTORS" "[I") (.int 9)) (.int 2280)).before #[Value.ref b] s = true := hs _ (by decide +kernel)
  have e10 : (Cond.eq (.elem (.static RX0 "FACTORS" "[I") (.int 10)) (.int 2650)).before #[Value.ref b] s = true := hs _ (by decide +kernel)
  obtain ⟨t, ht, hT⟩ := va_Tof (ty := .int) (N := 11) (f := fun j => .int (fcv j)) (A := Ar s.heap.size) (by decide) harr (va_eqt hlen) (fun j hj => by
    rcases (show j = 0 ∨ j = 1 ∨ j = 2 ∨ j = 3 ∨ j = 4 ∨ j = 5 ∨ j = 6 ∨ j = 7 ∨ j = 8 ∨ j = 9 ∨ j = 10 by omega) with rfl | rfl | rfl | rfl | rfl | rfl | rfl | rfl | rfl | rfl | rfl
    · exact va_eqt e0
    · exact va_eqt e1
    · exact va_eqt e2
    · exact va_eqt e3
    · exact va_eqt e4
    · exact va_eqt e5
    · exact va_eqt e6
    · exact va_eqt e7
    · exact va_eqt e8
    · exact va_eqt e9
    · exact va_eqt e10) hA
  have hst : ∀ k : Nat, (Cond.exactly (.string RX0 k) "java/lang/String").before #[Value.ref b] s = true → ∃ sa : Nat, (Term.string RX0 k).eval #[Value.ref b] s none [] s = some (.ref sa) := by
    intro k h
    obtain ⟨a, c, cA, kA, q1, -⟩ := Cond.exactly_spec h
    exact ⟨a, q1⟩
  have hsr : ∀ q ∈ SLs, ∃ sa, vk_R RX0 q.2.1 q.2.2.2.2 sa s := by
    intro q hq
    have h1 : (srW q).before #[Value.ref b] s = true := hts _ (at_tbl p_sr hq)
    have h2 : (Cond.exactly (.string RX0 q.2.1) "java/lang/String").before #[Value.ref b] s = true := by
      simp only [SLs, List.mem_cons, List.not_mem_nil, or_false] at hq
      rcases hq with rfl | rfl | rfl | rfl | rfl | rfl | rfl | rfl | rfl | rfl | rfl | rfl <;> exact hs _ (by decide +kernel)
    obtain ⟨sa, h3⟩ := hst _ h2
    exact ⟨sa, vk_R.of h1 h3⟩
  have hz1 : (Cond.isRef (.static Bundle.tN "UNASSIGNED_STACK" Bundle.steD)).before #[Value.ref b] s = true := hs _ (by decide +kernel)
  have hz2 : (Cond.isRef (.static Bundle.tN "SUPPRESSED_SENTINEL" Bundle.listD)).before #[Value.ref b] s = true := hs _ (by decide +kernel)
  have n01 : (Cond.not (.castable (exN 0) (exN 1))).before #[Value.ref b] s = true := hs _ (by decide +kernel)
  have n02 : (Cond.not (.castable (exN 0) (exN 2))).before #[Value.ref b] s = true := hs _ (by decide +kernel)
  have n10 : (Cond.not (.castable (exN 1) (exN 0))).before #[Value.ref b] s = true := hs _ (by decide +kernel)
  have n12 : (Cond.not (.castable (exN 1) (exN 2))).before #[Value.ref b] s = true := hs _ (by decide +kernel)
  have n20 : (Cond.not (.castable (exN 2) (exN 0))).before #[Value.ref b] s = true := hs _ (by decide +kernel)
  have n21 : (Cond.not (.castable (exN 2) (exN 1))).before #[Value.ref b] s = true := hs _ (by decide +kernel)
  refine ⟨D, fun _ => a0, t, hK, va_Zof (hts _ (ev_in 0 rfl)) (hts _ (ev_in 4 rfl)) ht hA, hT, vx_Zqof (hts _ (ev_in 1 rfl)) (hts _ (ev_in 3 rfl)) hz1 hA, vx_Zqof (hts _ (ev_in 2 rfl)) (hts _ (ev_in 3 rfl)) hz2 hA, hX, hbl, hsr, ?_, ?_, ?_⟩
  · intro x hx
    simp only [bwN, List.mem_cons, List.not_mem_nil, or_false] at hx
    rcases hx with rfl | rfl | rfl
    · exact va_Nw.of rfl (hts _ (ev_in 8 rfl))
    · exact va_Nw.of rfl (hts _ (ev_in 9 rfl))
    · exact va_Nw.of rfl (hts _ (ev_in 10 rfl))
  · intro e he
    rcases (show e = 0 ∨ e = 1 ∨ e = 2 by omega) with rfl | rfl | rfl
    · exact va_Nw.of rfl (hts _ (ev_in 5 rfl))
    · exact va_Nw.of rfl (hts _ (ev_in 6 rfl))
    · exact va_Nw.of rfl (hts _ (ev_in 7 rfl))
  · intro e f he hf hef
    rcases (show (e = 0 ∧ f = 1) ∨ (e = 0 ∧ f = 2) ∨ (e = 1 ∧ f = 0) ∨ (e = 1 ∧ f = 2) ∨ (e = 2 ∧ f = 0) ∨ (e = 2 ∧ f = 1) by omega) with ⟨rfl, rfl⟩ | ⟨rfl, rfl⟩ | ⟨rfl, rfl⟩ | ⟨rfl, rfl⟩ | ⟨rfl, rfl⟩ | ⟨rfl, rfl⟩
    · exact va_Nc.of n01
    · exact va_Nc.of n02
    · exact va_Nc.of n10
    · exact va_Nc.of n12
    · exact va_Nc.of n20
    · exact va_Nc.of n21
end
section
def R_law : String := "DistrictmeterLaw"
def R9 : Room := { frames := 13, cells := 810, slots := 5100, locals := 518 }
def big_Z (below : List Frame) (s : State) : State → Prop := fun t => ∃ o, t.status = .running ∧ Ended t below o ∧ s.heap.size + 160 ≤ t.heap.size
theorem big_ret {p : Program} {l : Launch} {e : Env} {s : State} {m : MethodId} {below : List Frame} {meth : Method} {c : Code} {b k n : Nat} {locs : List Loc} (hx : p.tables.exec = Jvm.exec) (hb : c.code = code) (hr : meth.sig.returnType = ret) (hlocks : meth.locks = false) {pc : Nat} {H : Heap} {ls : Array Slot} (hdg : decode code pc = .ok (.ireturn, 1)) (hB : s.heap.size + 160 ≤ H.size) : W p l e R9 s m #[Value.ref b] below meth c H locs k n (big_Z below s) (F0 m pc ls [.int 1]) := by
  intro T hT X
  obtain ⟨fs, hret, hrun, hended, hW, hframe⟩ := X.leave (v := some (.int 1)) (hlocks := hlocks) (fun h => by rw [hr] at h; cases h)
  have hmeth' : T.vm.method? m = some meth := X.method'
  refine ⟨T.setFrames fs, ?_, .returned (some (.int 1)), hrun, hended, ?_⟩
  · jvm_step X.here [X.here.top, hx, hb, hdg, hmeth', hr, ret, narrow_b1]
    (try refine ⟨rfl, ?_⟩); (try refine ⟨rfl, ?_⟩)
    first | (intro acts; rw [hret _ acts rfl rfl rfl]) | rw [hret _ _ rfl rfl rfl]
    exact Steps.refl _
  · show s.heap.size + 160 ≤ T.heap.size
    rw [hT]
    exact hB
def big_At (p : Program) (s : State) (m : MethodId) (meth : Method) (c : Code) (b : Nat) : Prop :=
  p.tables.exec = Jvm.exec ∧ c.code = code ∧ meth.sig.returnType = ret ∧ c.maxLocals = 10 ∧ s.vm.findClass R_law = some m.cls ∧ (∀ w ∈ lw_tbl, w.before #[Value.ref b] s = true) ∧ va_X b LZ xZ s s.heap ∧ b < s.heap.size ∧ meth.locks = false ∧ (Jvm.Cond.and given_1 narrow_1).before #[Value.ref b] s = true ∧ c.exceptionTable.toList = []
theorem no_traces (l : Launch) (h : l.flags = flags0) : l.stackTraces = false := by
  unfold Launch.stackTraces
  rw [h]
  decide +kernel
set_option maxHeartbeats 4000000 in
set_option maxRecDepth 100000 in
theorem law_run {p : Program} {e : Env} {s : State} {m : MethodId} {below : List Frame} {meth : Method} {c : Code} (l : Launch) (hflags : l.flags = flags0) {b t : Nat} {D : va_G} {cA : Nat → ClassId} {ad : Nat → Nat} (C0 : big_At p s m meth c b) (hEv : Ev D cA s.heap.size b LZ xZ t s s.heap)
    {H : Heap} {locs : List Loc} {ls : Array Slot} (hP : va_P D vwCl (wld ad cA S0) H) (hD : va_D (Ar s.heap.size) (wld ad cA S0)) (hS : va_S (Ar s.heap.size) s.heap H locs) (hl : lv_has ls 10 [(6, .ref (ad 16)), (5, .ref (ad 15)), (4, .ref (ad 14)), (3, .ref (ad 13)), (2, .ref (ad 12)), (1, .ref (ad 0)), (0, .ref b)]) : W p l e R9 s m #[Value.ref b] below meth c H locs 17 340 (big_Z below s) (F0 m 40 ls []) := by
  obtain ⟨hx, hb, hr, hml, hown, hts, hX, hbl, hlocks, hgv, htab⟩ := id C0
  have hAd : Ad ad s.heap.size b := ⟨fun i j hi hj he => hD.1 i j _ _ (wld_at hi) (wld_at hj) he, fun i hi => hD.2 i _ (wld_at hi), hbl⟩
  have C : Cx 65 D cA ad s.heap.size b LZ xZ t 17 340 790 p l R9 s m #[Value.ref b] c := ⟨hx, hb, hml, hown, fun w h => hts w (TT_in h), hEv, hAd, Nat.le_refl _, no_traces l hflags, htab, rfl, rfl, Nat.le_of_ble_eq_true rfl, Nat.le_of_ble_eq_true rfl⟩
  have hE : En D cA ad s.heap.size 17 340 790 65 (fun k r _ => r = .inl (some (nI 1)) ∧ k = 790) p l e R9 s m #[Value.ref b] below meth c (big_Z below s) := by
    refine ⟨?_, ?_, ?_, ?_⟩
    · intro k v S pc H locs Lx hPP hk hn hd hP hS hB
      obtain ⟨hr1, rfl⟩ := hPP
      have hv : v = nI 1 := Option.some.inj (Sum.inl.inj hr1)
      subst hv
      exact big_ret hx hb hr hlocks hd (by omega)
    · intro k S pc H locs Lx hPP
      cases hPP.1
    · intro k ex S pc ik H locs Lx rest hPP
      cases hPP.1
    · intro k ex S pc H locs Lx rest q ce hPP
      cases hPP.1
  have hG : Cl 65 LZ xZ 790 (fun k r _ => r = .inl (some (nI 1)) ∧ k = 790) (Go D cA ad s.heap.size b t 17 340 790 65 p l e R9 s m #[Value.ref b] below meth c (big_Z below s)) := ⟨fun k pc q ls st S hq hs => go_step (by decide) (by decide) C hE hq hs, fun k pc ls ls' st S hs g => go_weak hs g⟩
  have g := law_head hG ⟨rfl, rfl⟩
  exact g (Nat.zero_le _) H locs ls hP hS hS.1 hl
set_option maxHeartbeats 8000000 in
set_option maxRecDepth 100000 in
theorem big_start {p : Program} {e : Env} {s : State} {m : MethodId} {below : List Frame} {meth : Method} {c : Code} (l : Launch) (hflags : l.flags = flags0) {b : Nat} (C0 : big_At p s m meth c b) : W p l e R9 s m #[Value.ref b] below meth c s.heap [] 0 0 (big_Z below s) (entryFrame m ([Value.ref b] : List Value).toArray 10) := by
  obtain ⟨hx, hb, hr, hml, hown0, hts, hX, hbl, hlocks, hgv, htab⟩ := id C0
  have hown : s.vm.findClass RL = some m.cls := hown0
  have hA : ∀ q : Nat, s.heap.size ≤ q → Ar s.heap.size q := fun _ h => h
  have htt : ∀ w ∈ TT, w.before #[Value.ref b] s = true := fun w h => hts w (TT_in h)
  obtain ⟨D, cA, t, hEv⟩ := law_ev hts hgv hX hbl
  have hK : va_K D vwCl (tyA cA) s := hEv.1
  have hS : va_S (Ar s.heap.size) s.heap s.heap [] := va_S.rf
  have hP : va_P D vwCl [] s.heap := fun k q h => by simp at h
  have hD : va_D (Ar s.heap.size) [] := ⟨fun i j p q h => by simp at h, fun k q h => by simp at h⟩
  have dd : ∀ {pc nx ax : Nat} {ins : Instr}, lkp (pg 65) pc = some (ins, nx, ax) → decode code pc = .ok (ins, ln ins) := fun h => (row_ok (i := 65) (by decide) h).1
  have hl := lv_entry ([.ref b]) (n := 10) (Nat.le_of_ble_eq_true rfl)
  rw [lg_entry_eq]
  generalize (lg_sl ([.ref b]) ++ List.replicate (10 - (lg_sl ([.ref b])).length) Slot.unset).toArray = ls at hl ⊢
  have hl : lv_has ls 10 [(0, .ref b)] := hl
  refine va_new (D := D) (ci := 0) (fs := [.int 0, .null, .null, .null, .null, .int 0, .int 0, .int 0, .null, .null, .int 0, .null, .null, .null, .int 0, .null, .null]) (C := RX0) (T := TX0) (N := 17) hx hb htt in_lay tyX0 tyX0_ok hown (hts _ (lt_in 2 rfl)) (hts _ (lt_in 3 rfl)) (hts _ (lt_in 4 rfl)) hK hP hD hS hA rfl (fun j hj => by rcases (show j = 0 ∨ j = 1 ∨ j = 2 ∨ j = 3 ∨ j = 4 ∨ j = 5 ∨ j = 6 ∨ j = 7 ∨ j = 8 ∨ j = 9 ∨ j = 10 ∨ j = 11 ∨ j = 12 ∨ j = 13 ∨ j = 14 ∨ j = 15 ∨ j = 16 by omega) with rfl | rfl | rfl | rfl | rfl | rfl | rfl | rfl | rfl | rfl | rfl | rfl | rfl | rfl | rfl | rfl | rfl <;> rfl) (Nat.le_of_ble_eq_true rfl) (Nat.le_of_ble_eq_true rfl) (dd (pc := 0) rfl) (fun h0 H hP hD hS => ?_)
  have hP : va_P D vwCl [(h0, .inr (0, [.int 0, .null, .null, .null, .null, .int 0, .int 0, .int 0, .null, .null, .int 0, .null, .null, .null, .int 0, .null, .null]))] H := hP
  have hD : va_D (Ar s.heap.size) [(h0, .inr (0, [.int 0, .null, .null, .null, .null, .int 0, .int 0, .int 0, .null, .null, .int 0, .null, .null, .null, .int 0, .null, .null]))] := hD
  refine W.widen (k := 1) (n := 17) (by omega) (by omega) ?_
  refine lv_dup hx hb (dd (pc := 3) rfl) rfl ?_
  have hPc := hP.sub (ws' := stX h0) [0] rfl
  have hDc := hD.sub (ws' := stX h0) [0] (by decide) rfl
  have hFc := va_free (wc := stX h0) hD hS hA [0] rfl
  refine va_callv (va_runI (As := []) (rest := [.ref h0]) ⟨hx, hb, hml, hown, htt⟩ (ct_X l D cA h0 H.size) (cwI 0 htt (good_TT (fun w h => (List.mem_cons.mp h).elim (fun e => by rw [e]; exact ct_in 4 rfl) id)) rfl rfl rfl (hts _ (lt_in 4 rfl)) (hts _ (lt_in 0 rfl)) (hts _ (lt_in 1 rfl)) rfl (by decide +kernel) ⟨Nat.le_of_ble_eq_true rfl, Nat.le_of_ble_eq_true rfl⟩) ⟨fun a U g mk q => by obtain ⟨q0, q1, qP, qK, qD⟩ := q; exact ⟨q0, q1, qP, va_K.moved (u := U) (U := U.calling g mk a) (Vm.Alike.refl U.vm) qK, qD⟩, fun U hU hW => ⟨rfl, by rw [hU], by rw [hU]; exact hPc, va_K.moved hW.alike hK, hDc.weaken (fun _ _ _ _ => trivial)⟩⟩ rfl rfl hl.1 rfl (lv_room (Nat.le_of_ble_eq_true rfl)) (dd (pc := 4) rfl) ⟨Nat.le_of_ble_eq_true rfl, Nat.le_of_ble_eq_true rfl⟩) hS (fun q _ h => hFc q h) hFc (fun u t1 H1 locs ht hvm hw hB hz1 hk1 hS => ?_)
  obtain ⟨q1, q2, q3, q4, q5, q6, q7, q8, q9, q10, q11, hP1, hD1⟩ := hB
  rw [ht] at hP1
  obtain ⟨hP, hD⟩ := va_join (wr := []) (w1 := wldX cA h0 q1 q2 q3 q4 q5 q6 q7 q8 q9 q10 q11) hP hD [0] [] rfl rfl (by decide) (by decide) hk1 hFc hP1 hD1
  generalize H1 = H at hP hS ⊢
  have hP : va_P D vwCl [(h0, .inr (0, [.int 1, .ref q1, .ref q2, .ref q3, .ref q4, .int 0, .int 0, .int 0, .ref q5, .ref q6, .int 0, .ref q7, .ref q8, .ref q9, .int 0, .ref q10, .ref q11])), (q1, .inl (cA 0, (16, .inl (upd (fun _ => (0 : Int32)) 0 1)))), (q2, .inl (cA 0, (16, .inl (fun _ => (0 : Int32))))), (q3, .inl (cA 0, (16, .inl (fun _ => (0 : Int32))))), (q4, .inl (cA 0, (16, .inl (fun _ => (0 : Int32))))), (q5, .inl (cA 0, (8, .inl (fun _ => (0 : Int32))))), (q6, .inl (cA 0, (8, .inl (fun _ => (0 : Int32))))), (q7, .inl (cA 0, (20, .inl (fun _ => (0 : Int32))))), (q8, .inl (cA 0, (20, .inl (fun _ => (0 : Int32))))), (q9, .inl (cA 0, (20, .inl (fun _ => (0 : Int32))))), (q10, .inl (cA 0, (20, .inl (fun _ => (0 : Int32))))), (q11, .inl (cA 0, (20, .inl (fun _ => (0 : Int32)))))] H := hP
  have hD : va_D (Ar s.heap.size) [(h0, .inr (0, [.int 1, .ref q1, .ref q2, .ref q3, .ref q4, .int 0, .int 0, .int 0, .ref q5, .ref q6, .int 0, .ref q7, .ref q8, .ref q9, .int 0, .ref q10, .ref q11])), (q1, .inl (cA 0, (16, .inl (upd (fun _ => (0 : Int32)) 0 1)))), (q2, .inl (cA 0, (16, .inl (fun _ => (0 : Int32))))), (q3, .inl (cA 0, (16, .inl (fun _ => (0 : Int32))))), (q4, .inl (cA 0, (16, .inl (fun _ => (0 : Int32))))), (q5, .inl (cA 0, (8, .inl (fun _ => (0 : Int32))))), (q6, .inl (cA 0, (8, .inl (fun _ => (0 : Int32))))), (q7, .inl (cA 0, (20, .inl (fun _ => (0 : Int32))))), (q8, .inl (cA 0, (20, .inl (fun _ => (0 : Int32))))), (q9, .inl (cA 0, (20, .inl (fun _ => (0 : Int32))))), (q10, .inl (cA 0, (20, .inl (fun _ => (0 : Int32))))), (q11, .inl (cA 0, (20, .inl (fun _ => (0 : Int32)))))] := hD
  refine W.widen (k := 12) (n := 197) (by omega) (by omega) ?_
  refine lv_astore_n (lv' := [(1, .ref h0), (0, .ref b)]) hx hb (dd (pc := 7) rfl) rfl hl (by decide) rfl (fun ls hl => ?_)
  refine lv_bipush (v := nI 16) hx hb (dd (pc := 8) rfl) (by decide) ?_
  refine va_newa (atype := .int) (ty := .int) (N' := 16) (a0 := (16, .inl (fun _ => (0 : Int32)))) hx hb (htt _ (ct_in 0 rfl)) rfl hK hP hD hS hA (fun _ => rfl) (by decide) (by decide) (by decide) (Nat.le_of_ble_eq_true rfl) (Nat.le_of_ble_eq_true rfl) (dd (pc := 10) rfl) (fun g2 c1 H hK1 hP hD hS => ?_)
  have e1 : c1 = cA 0 := by
    have h1 : s.vm.findClass ("[" ++ FieldType.int.toString) = some c1 := (hK1.2 1 (c1, .int) rfl).2
    have h2 : s.vm.findClass ("[" ++ FieldType.int.toString) = some (cA 0) := (hK.2 0 (cA 0, .int) rfl).2
    exact Option.some.inj (h1.symm.trans h2)
  subst e1
  have hP : va_P D vwCl [(h0, .inr (0, [.int 1, .ref q1, .ref q2, .ref q3, .ref q4, .int 0, .int 0, .int 0, .ref q5, .ref q6, .int 0, .ref q7, .ref q8, .ref q9, .int 0, .ref q10, .ref q11])), (q1, .inl (cA 0, (16, .inl (upd (fun _ => (0 : Int32)) 0 1)))), (q2, .inl (cA 0, (16, .inl (fun _ => (0 : Int32))))), (q3, .inl (cA 0, (16, .inl (fun _ => (0 : Int32))))), (q4, .inl (cA 0, (16, .inl (fun _ => (0 : Int32))))), (q5, .inl (cA 0, (8, .inl (fun _ => (0 : Int32))))), (q6, .inl (cA 0, (8, .inl (fun _ => (0 : Int32))))), (q7, .inl (cA 0, (20, .inl (fun _ => (0 : Int32))))), (q8, .inl (cA 0, (20, .inl (fun _ => (0 : Int32))))), (q9, .inl (cA 0, (20, .inl (fun _ => (0 : Int32))))), (q10, .inl (cA 0, (20, .inl (fun _ => (0 : Int32))))), (q11, .inl (cA 0, (20, .inl (fun _ => (0 : Int32))))), (g2, .inl (cA 0, (16, .inl (fun _ => (0 : Int32)))))] H := hP
  have hD : va_D (Ar s.heap.size) [(h0, .inr (0, [.int 1, .ref q1, .ref q2, .ref q3, .ref q4, .int 0, .int 0, .int 0, .ref q5, .ref q6, .int 0, .ref q7, .ref q8, .ref q9, .int 0, .ref q10, .ref q11])), (q1, .inl (cA 0, (16, .inl (upd (fun _ => (0 : Int32)) 0 1)))), (q2, .inl (cA 0, (16, .inl (fun _ => (0 : Int32))))), (q3, .inl (cA 0, (16, .inl (fun _ => (0 : Int32))))), (q4, .inl (cA 0, (16, .inl (fun _ => (0 : Int32))))), (q5, .inl (cA 0, (8, .inl (fun _ => (0 : Int32))))), (q6, .inl (cA 0, (8, .inl (fun _ => (0 : Int32))))), (q7, .inl (cA 0, (20, .inl (fun _ => (0 : Int32))))), (q8, .inl (cA 0, (20, .inl (fun _ => (0 : Int32))))), (q9, .inl (cA 0, (20, .inl (fun _ => (0 : Int32))))), (q10, .inl (cA 0, (20, .inl (fun _ => (0 : Int32))))), (q11, .inl (cA 0, (20, .inl (fun _ => (0 : Int32))))), (g2, .inl (cA 0, (16, .inl (fun _ => (0 : Int32)))))] := hD
  refine W.widen (k := 13) (n := 213) (by omega) (by omega) ?_
  refine lv_astore_n (lv' := [(2, .ref g2), (1, .ref h0), (0, .ref b)]) hx hb (dd (pc := 12) rfl) rfl hl (by decide) rfl (fun ls hl => ?_)
  refine lv_bipush (v := nI 48) hx hb (dd (pc := 13) rfl) (by decide) ?_
  refine va_newa (atype := .int) (ty := .int) (N' := 48) (a0 := (48, .inl (fun _ => (0 : Int32)))) hx hb (htt _ (ct_in 0 rfl)) rfl hK hP hD hS hA (fun _ => rfl) (by decide) (by decide) (by decide) (Nat.le_of_ble_eq_true rfl) (Nat.le_of_ble_eq_true rfl) (dd (pc := 15) rfl) (fun g3 c1 H hK1 hP hD hS => ?_)
  have e1 : c1 = cA 0 := by
    have h1 : s.vm.findClass ("[" ++ FieldType.int.toString) = some c1 := (hK1.2 1 (c1, .int) rfl).2
    have h2 : s.vm.findClass ("[" ++ FieldType.int.toString) = some (cA 0) := (hK.2 0 (cA 0, .int) rfl).2
    exact Option.some.inj (h1.symm.trans h2)
  subst e1
  have hP : va_P D vwCl [(h0, .inr (0, [.int 1, .ref q1, .ref q2, .ref q3, .ref q4, .int 0, .int 0, .int 0, .ref q5, .ref q6, .int 0, .ref q7, .ref q8, .ref q9, .int 0, .ref q10, .ref q11])), (q1, .inl (cA 0, (16, .inl (upd (fun _ => (0 : Int32)) 0 1)))), (q2, .inl (cA 0, (16, .inl (fun _ => (0 : Int32))))), (q3, .inl (cA 0, (16, .inl (fun _ => (0 : Int32))))), (q4, .inl (cA 0, (16, .inl (fun _ => (0 : Int32))))), (q5, .inl (cA 0, (8, .inl (fun _ => (0 : Int32))))), (q6, .inl (cA 0, (8, .inl (fun _ => (0 : Int32))))), (q7, .inl (cA 0, (20, .inl (fun _ => (0 : Int32))))), (q8, .inl (cA 0, (20, .inl (fun _ => (0 : Int32))))), (q9, .inl (cA 0, (20, .inl (fun _ => (0 : Int32))))), (q10, .inl (cA 0, (20, .inl (fun _ => (0 : Int32))))), (q11, .inl (cA 0, (20, .inl (fun _ => (0 : Int32))))), (g2, .inl (cA 0, (16, .inl (fun _ => (0 : Int32))))), (g3, .inl (cA 0, (48, .inl (fun _ => (0 : Int32)))))] H := hP
  have hD : va_D (Ar s.heap.size) [(h0, .inr (0, [.int 1, .ref q1, .ref q2, .ref q3, .ref q4, .int 0, .int 0, .int 0, .ref q5, .ref q6, .int 0, .ref q7, .ref q8, .ref q9, .int 0, .ref q10, .ref q11])), (q1, .inl (cA 0, (16, .inl (upd (fun _ => (0 : Int32)) 0 1)))), (q2, .inl (cA 0, (16, .inl (fun _ => (0 : Int32))))), (q3, .inl (cA 0, (16, .inl (fun _ => (0 : Int32))))), (q4, .inl (cA 0, (16, .inl (fun _ => (0 : Int32))))), (q5, .inl (cA 0, (8, .inl (fun _ => (0 : Int32))))), (q6, .inl (cA 0, (8, .inl (fun _ => (0 : Int32))))), (q7, .inl (cA 0, (20, .inl (fun _ => (0 : Int32))))), (q8, .inl (cA 0, (20, .inl (fun _ => (0 : Int32))))), (q9, .inl (cA 0, (20, .inl (fun _ => (0 : Int32))))), (q10, .inl (cA 0, (20, .inl (fun _ => (0 : Int32))))), (q11, .inl (cA 0, (20, .inl (fun _ => (0 : Int32))))), (g2, .inl (cA 0, (16, .inl (fun _ => (0 : Int32))))), (g3, .inl (cA 0, (48, .inl (fun _ => (0 : Int32)))))] := hD
  refine W.widen (k := 14) (n := 261) (by omega) (by omega) ?_
  refine lv_astore_n (lv' := [(3, .ref g3), (2, .ref g2), (1, .ref h0), (0, .ref b)]) hx hb (dd (pc := 17) rfl) rfl hl (by decide) rfl (fun ls hl => ?_)
  refine lv_bipush (v := nI 16) hx hb (dd (pc := 18) rfl) (by decide) ?_
  refine va_newa (atype := .int) (ty := .int) (N' := 16) (a0 := (16, .inl (fun _ => (0 : Int32)))) hx hb (htt _ (ct_in 0 rfl)) rfl hK hP hD hS hA (fun _ => rfl) (by decide) (by decide) (by decide) (Nat.le_of_ble_eq_true rfl) (Nat.le_of_ble_eq_true rfl) (dd (pc := 20) rfl) (fun g4 c1 H hK1 hP hD hS => ?_)
  have e1 : c1 = cA 0 := by
    have h1 : s.vm.findClass ("[" ++ FieldType.int.toString) = some c1 := (hK1.2 1 (c1, .int) rfl).2
    have h2 : s.vm.findClass ("[" ++ FieldType.int.toString) = some (cA 0) := (hK.2 0 (cA 0, .int) rfl).2
    exact Option.some.inj (h1.symm.trans h2)
  subst e1
  have hP : va_P D vwCl [(h0, .inr (0, [.int 1, .ref q1, .ref q2, .ref q3, .ref q4, .int 0, .int 0, .int 0, .ref q5, .ref q6, .int 0, .ref q7, .ref q8, .ref q9, .int 0, .ref q10, .ref q11])), (q1, .inl (cA 0, (16, .inl (upd (fun _ => (0 : Int32)) 0 1)))), (q2, .inl (cA 0, (16, .inl (fun _ => (0 : Int32))))), (q3, .inl (cA 0, (16, .inl (fun _ => (0 : Int32))))), (q4, .inl (cA 0, (16, .inl (fun _ => (0 : Int32))))), (q5, .inl (cA 0, (8, .inl (fun _ => (0 : Int32))))), (q6, .inl (cA 0, (8, .inl (fun _ => (0 : Int32))))), (q7, .inl (cA 0, (20, .inl (fun _ => (0 : Int32))))), (q8, .inl (cA 0, (20, .inl (fun _ => (0 : Int32))))), (q9, .inl (cA 0, (20, .inl (fun _ => (0 : Int32))))), (q10, .inl (cA 0, (20, .inl (fun _ => (0 : Int32))))), (q11, .inl (cA 0, (20, .inl (fun _ => (0 : Int32))))), (g2, .inl (cA 0, (16, .inl (fun _ => (0 : Int32))))), (g3, .inl (cA 0, (48, .inl (fun _ => (0 : Int32))))), (g4, .inl (cA 0, (16, .inl (fun _ => (0 : Int32)))))] H := hP
  have hD : va_D (Ar s.heap.size) [(h0, .inr (0, [.int 1, .ref q1, .ref q2, .ref q3, .ref q4, .int 0, .int 0, .int 0, .ref q5, .ref q6, .int 0, .ref q7, .ref q8, .ref q9, .int 0, .ref q10, .ref q11])), (q1, .inl (cA 0, (16, .inl (upd (fun _ => (0 : Int32)) 0 1)))), (q2, .inl (cA 0, (16, .inl (fun _ => (0 : Int32))))), (q3, .inl (cA 0, (16, .inl (fun _ => (0 : Int32))))), (q4, .inl (cA 0, (16, .inl (fun _ => (0 : Int32))))), (q5, .inl (cA 0, (8, .inl (fun _ => (0 : Int32))))), (q6, .inl (cA 0, (8, .inl (fun _ => (0 : Int32))))), (q7, .inl (cA 0, (20, .inl (fun _ => (0 : Int32))))), (q8, .inl (cA 0, (20, .inl (fun _ => (0 : Int32))))), (q9, .inl (cA 0, (20, .inl (fun _ => (0 : Int32))))), (q10, .inl (cA 0, (20, .inl (fun _ => (0 : Int32))))), (q11, .inl (cA 0, (20, .inl (fun _ => (0 : Int32))))), (g2, .inl (cA 0, (16, .inl (fun _ => (0 : Int32))))), (g3, .inl (cA 0, (48, .inl (fun _ => (0 : Int32))))), (g4, .inl (cA 0, (16, .inl (fun _ => (0 : Int32)))))] := hD
  refine W.widen (k := 15) (n := 277) (by omega) (by omega) ?_
  refine lv_astore (lv' := [(4, .ref g4), (3, .ref g3), (2, .ref g2), (1, .ref h0), (0, .ref b)]) hx hb (dd (pc := 22) rfl) hl (by decide) rfl (fun ls hl => ?_)
  refine lv_bipush (v := nI 60) hx hb (dd (pc := 24) rfl) (by decide) ?_
  refine va_newa (atype := .int) (ty := .int) (N' := 60) (a0 := (60, .inl (fun _ => (0 : Int32)))) hx hb (htt _ (ct_in 0 rfl)) rfl hK hP hD hS hA (fun _ => rfl) (by decide) (by decide) (by decide) (Nat.le_of_ble_eq_true rfl) (Nat.le_of_ble_eq_true rfl) (dd (pc := 26) rfl) (fun g5 c1 H hK1 hP hD hS => ?_)
  have e1 : c1 = cA 0 := by
    have h1 : s.vm.findClass ("[" ++ FieldType.int.toString) = some c1 := (hK1.2 1 (c1, .int) rfl).2
    have h2 : s.vm.findClass ("[" ++ FieldType.int.toString) = some (cA 0) := (hK.2 0 (cA 0, .int) rfl).2
    exact Option.some.inj (h1.symm.trans h2)
  subst e1
  have hP : va_P D vwCl [(h0, .inr (0, [.int 1, .ref q1, .ref q2, .ref q3, .ref q4, .int 0, .int 0, .int 0, .ref q5, .ref q6, .int 0, .ref q7, .ref q8, .ref q9, .int 0, .ref q10, .ref q11])), (q1, .inl (cA 0, (16, .inl (upd (fun _ => (0 : Int32)) 0 1)))), (q2, .inl (cA 0, (16, .inl (fun _ => (0 : Int32))))), (q3, .inl (cA 0, (16, .inl (fun _ => (0 : Int32))))), (q4, .inl (cA 0, (16, .inl (fun _ => (0 : Int32))))), (q5, .inl (cA 0, (8, .inl (fun _ => (0 : Int32))))), (q6, .inl (cA 0, (8, .inl (fun _ => (0 : Int32))))), (q7, .inl (cA 0, (20, .inl (fun _ => (0 : Int32))))), (q8, .inl (cA 0, (20, .inl (fun _ => (0 : Int32))))), (q9, .inl (cA 0, (20, .inl (fun _ => (0 : Int32))))), (q10, .inl (cA 0, (20, .inl (fun _ => (0 : Int32))))), (q11, .inl (cA 0, (20, .inl (fun _ => (0 : Int32))))), (g2, .inl (cA 0, (16, .inl (fun _ => (0 : Int32))))), (g3, .inl (cA 0, (48, .inl (fun _ => (0 : Int32))))), (g4, .inl (cA 0, (16, .inl (fun _ => (0 : Int32))))), (g5, .inl (cA 0, (60, .inl (fun _ => (0 : Int32)))))] H := hP
  have hD : va_D (Ar s.heap.size) [(h0, .inr (0, [.int 1, .ref q1, .ref q2, .ref q3, .ref q4, .int 0, .int 0, .int 0, .ref q5, .ref q6, .int 0, .ref q7, .ref q8, .ref q9, .int 0, .ref q10, .ref q11])), (q1, .inl (cA 0, (16, .inl (upd (fun _ => (0 : Int32)) 0 1)))), (q2, .inl (cA 0, (16, .inl (fun _ => (0 : Int32))))), (q3, .inl (cA 0, (16, .inl (fun _ => (0 : Int32))))), (q4, .inl (cA 0, (16, .inl (fun _ => (0 : Int32))))), (q5, .inl (cA 0, (8, .inl (fun _ => (0 : Int32))))), (q6, .inl (cA 0, (8, .inl (fun _ => (0 : Int32))))), (q7, .inl (cA 0, (20, .inl (fun _ => (0 : Int32))))), (q8, .inl (cA 0, (20, .inl (fun _ => (0 : Int32))))), (q9, .inl (cA 0, (20, .inl (fun _ => (0 : Int32))))), (q10, .inl (cA 0, (20, .inl (fun _ => (0 : Int32))))), (q11, .inl (cA 0, (20, .inl (fun _ => (0 : Int32))))), (g2, .inl (cA 0, (16, .inl (fun _ => (0 : Int32))))), (g3, .inl (cA 0, (48, .inl (fun _ => (0 : Int32))))), (g4, .inl (cA 0, (16, .inl (fun _ => (0 : Int32))))), (g5, .inl (cA 0, (60, .inl (fun _ => (0 : Int32)))))] := hD
  refine W.widen (k := 16) (n := 337) (by omega) (by omega) ?_
  refine lv_astore (lv' := [(5, .ref g5), (4, .ref g4), (3, .ref g3), (2, .ref g2), (1, .ref h0), (0, .ref b)]) hx hb (dd (pc := 28) rfl) hl (by decide) rfl (fun ls hl => ?_)
  refine lv_iconst (v := nI 3) hx hb (dd (pc := 30) rfl) (by decide) ?_
  refine va_newa (atype := .int) (ty := .int) (N' := 3) (a0 := (3, .inl (fun _ => (0 : Int32)))) hx hb (htt _ (ct_in 0 rfl)) rfl hK hP hD hS hA (fun _ => rfl) (by decide) (by decide) (by decide) (Nat.le_of_ble_eq_true rfl) (Nat.le_of_ble_eq_true rfl) (dd (pc := 31) rfl) (fun g6 c1 H hK1 hP hD hS => ?_)
  have e1 : c1 = cA 0 := by
    have h1 : s.vm.findClass ("[" ++ FieldType.int.toString) = some c1 := (hK1.2 1 (c1, .int) rfl).2
    have h2 : s.vm.findClass ("[" ++ FieldType.int.toString) = some (cA 0) := (hK.2 0 (cA 0, .int) rfl).2
    exact Option.some.inj (h1.symm.trans h2)
  subst e1
  have hP : va_P D vwCl [(h0, .inr (0, [.int 1, .ref q1, .ref q2, .ref q3, .ref q4, .int 0, .int 0, .int 0, .ref q5, .ref q6, .int 0, .ref q7, .ref q8, .ref q9, .int 0, .ref q10, .ref q11])), (q1, .inl (cA 0, (16, .inl (upd (fun _ => (0 : Int32)) 0 1)))), (q2, .inl (cA 0, (16, .inl (fun _ => (0 : Int32))))), (q3, .inl (cA 0, (16, .inl (fun _ => (0 : Int32))))), (q4, .inl (cA 0, (16, .inl (fun _ => (0 : Int32))))), (q5, .inl (cA 0, (8, .inl (fun _ => (0 : Int32))))), (q6, .inl (cA 0, (8, .inl (fun _ => (0 : Int32))))), (q7, .inl (cA 0, (20, .inl (fun _ => (0 : Int32))))), (q8, .inl (cA 0, (20, .inl (fun _ => (0 : Int32))))), (q9, .inl (cA 0, (20, .inl (fun _ => (0 : Int32))))), (q10, .inl (cA 0, (20, .inl (fun _ => (0 : Int32))))), (q11, .inl (cA 0, (20, .inl (fun _ => (0 : Int32))))), (g2, .inl (cA 0, (16, .inl (fun _ => (0 : Int32))))), (g3, .inl (cA 0, (48, .inl (fun _ => (0 : Int32))))), (g4, .inl (cA 0, (16, .inl (fun _ => (0 : Int32))))), (g5, .inl (cA 0, (60, .inl (fun _ => (0 : Int32))))), (g6, .inl (cA 0, (3, .inl (fun _ => (0 : Int32)))))] H := hP
  have hD : va_D (Ar s.heap.size) [(h0, .inr (0, [.int 1, .ref q1, .ref q2, .ref q3, .ref q4, .int 0, .int 0, .int 0, .ref q5, .ref q6, .int 0, .ref q7, .ref q8, .ref q9, .int 0, .ref q10, .ref q11])), (q1, .inl (cA 0, (16, .inl (upd (fun _ => (0 : Int32)) 0 1)))), (q2, .inl (cA 0, (16, .inl (fun _ => (0 : Int32))))), (q3, .inl (cA 0, (16, .inl (fun _ => (0 : Int32))))), (q4, .inl (cA 0, (16, .inl (fun _ => (0 : Int32))))), (q5, .inl (cA 0, (8, .inl (fun _ => (0 : Int32))))), (q6, .inl (cA 0, (8, .inl (fun _ => (0 : Int32))))), (q7, .inl (cA 0, (20, .inl (fun _ => (0 : Int32))))), (q8, .inl (cA 0, (20, .inl (fun _ => (0 : Int32))))), (q9, .inl (cA 0, (20, .inl (fun _ => (0 : Int32))))), (q10, .inl (cA 0, (20, .inl (fun _ => (0 : Int32))))), (q11, .inl (cA 0, (20, .inl (fun _ => (0 : Int32))))), (g2, .inl (cA 0, (16, .inl (fun _ => (0 : Int32))))), (g3, .inl (cA 0, (48, .inl (fun _ => (0 : Int32))))), (g4, .inl (cA 0, (16, .inl (fun _ => (0 : Int32))))), (g5, .inl (cA 0, (60, .inl (fun _ => (0 : Int32))))), (g6, .inl (cA 0, (3, .inl (fun _ => (0 : Int32)))))] := hD
  refine W.widen (k := 17) (n := 340) (by omega) (by omega) ?_
  refine lv_astore (lv' := [(6, .ref g6), (5, .ref g5), (4, .ref g4), (3, .ref g3), (2, .ref g2), (1, .ref h0), (0, .ref b)]) hx hb (dd (pc := 33) rfl) hl (by decide) rfl (fun ls hl => ?_)
  refine lv_aload hx hb (dd (pc := 35) rfl) (lv_at hl 0 rfl) ?_
  refine lv_iconst (v := 0) hx hb (dd (pc := 37) rfl) (by decide) ?_
  refine lv_iconst (v := 1) hx hb (dd (pc := 38) rfl) (by decide) ?_
  refine va_iast (D := D) hx hb hK hP hD hS 16 0 rfl rfl (by unfold vp_in; decide) (dd (pc := 39) rfl) (fun H locs hP hD hS => ?_)
  have hP : va_P D vwCl [(h0, .inr (0, [.int 1, .ref q1, .ref q2, .ref q3, .ref q4, .int 0, .int 0, .int 0, .ref q5, .ref q6, .int 0, .ref q7, .ref q8, .ref q9, .int 0, .ref q10, .ref q11])), (q1, .inl (cA 0, (16, .inl (upd (fun _ => (0 : Int32)) 0 1)))), (q2, .inl (cA 0, (16, .inl (fun _ => (0 : Int32))))), (q3, .inl (cA 0, (16, .inl (fun _ => (0 : Int32))))), (q4, .inl (cA 0, (16, .inl (fun _ => (0 : Int32))))), (q5, .inl (cA 0, (8, .inl (fun _ => (0 : Int32))))), (q6, .inl (cA 0, (8, .inl (fun _ => (0 : Int32))))), (q7, .inl (cA 0, (20, .inl (fun _ => (0 : Int32))))), (q8, .inl (cA 0, (20, .inl (fun _ => (0 : Int32))))), (q9, .inl (cA 0, (20, .inl (fun _ => (0 : Int32))))), (q10, .inl (cA 0, (20, .inl (fun _ => (0 : Int32))))), (q11, .inl (cA 0, (20, .inl (fun _ => (0 : Int32))))), (g2, .inl (cA 0, (16, .inl (fun _ => (0 : Int32))))), (g3, .inl (cA 0, (48, .inl (fun _ => (0 : Int32))))), (g4, .inl (cA 0, (16, .inl (fun _ => (0 : Int32))))), (g5, .inl (cA 0, (60, .inl (fun _ => (0 : Int32))))), (g6, .inl (cA 0, (3, .inl (upd (fun _ => (0 : Int32)) 0 1))))] H := hP
  have hD : va_D (Ar s.heap.size) [(h0, .inr (0, [.int 1, .ref q1, .ref q2, .ref q3, .ref q4, .int 0, .int 0, .int 0, .ref q5, .ref q6, .int 0, .ref q7, .ref q8, .ref q9, .int 0, .ref q10, .ref q11])), (q1, .inl (cA 0, (16, .inl (upd (fun _ => (0 : Int32)) 0 1)))), (q2, .inl (cA 0, (16, .inl (fun _ => (0 : Int32))))), (q3, .inl (cA 0, (16, .inl (fun _ => (0 : Int32))))), (q4, .inl (cA 0, (16, .inl (fun _ => (0 : Int32))))), (q5, .inl (cA 0, (8, .inl (fun _ => (0 : Int32))))), (q6, .inl (cA 0, (8, .inl (fun _ => (0 : Int32))))), (q7, .inl (cA 0, (20, .inl (fun _ => (0 : Int32))))), (q8, .inl (cA 0, (20, .inl (fun _ => (0 : Int32))))), (q9, .inl (cA 0, (20, .inl (fun _ => (0 : Int32))))), (q10, .inl (cA 0, (20, .inl (fun _ => (0 : Int32))))), (q11, .inl (cA 0, (20, .inl (fun _ => (0 : Int32))))), (g2, .inl (cA 0, (16, .inl (fun _ => (0 : Int32))))), (g3, .inl (cA 0, (48, .inl (fun _ => (0 : Int32))))), (g4, .inl (cA 0, (16, .inl (fun _ => (0 : Int32))))), (g5, .inl (cA 0, (60, .inl (fun _ => (0 : Int32))))), (g6, .inl (cA 0, (3, .inl (upd (fun _ => (0 : Int32)) 0 1))))] := hD
  have hPw : va_P D vwCl (wld (fun i => ([h0, q1, q2, q3, q4, q5, q6, q7, q8, q9, q10, q11, g2, g3, g4, g5, g6] : List Nat).getD i 0) cA S0) H := hP
  have hDw : va_D (Ar s.heap.size) (wld (fun i => ([h0, q1, q2, q3, q4, q5, q6, q7, q8, q9, q10, q11, g2, g3, g4, g5, g6] : List Nat).getD i 0) cA S0) := hD
  exact law_run l hflags C0 hEv hPw hDw hS hl
end
section
def big_P (b : Addr) (args : Array Value) (s : State) : Prop := args = #[.ref b] ∧ s.IntsAt b (List.replicate 256 0) ∧ (Jvm.Cond.and given_1 narrow_1).before args s = true
def big_Q (_ : Array Value) (s : State) (_ : Outcome) (t : State) : Prop := s.heap.size + 160 ≤ t.heap.size
set_option maxHeartbeats 4000000 in
theorem big_walk (l : Launch) (hflags : l.flags = flags0) (b : Addr) : MetFree l x (headSpec (Jvm.Cond.code x code maxLocals ret :: tables_1) R9) (big_P b) (fun _ _ _ _ _ => True) big_Q := by
  refine MetFree.of_bodyS (code := code) (maxLocals := maxLocals) (ret := ret) (by decide) ?_ ?_
  · intro args s m h hn
    obtain ⟨meth, c, h1, h2, h3, h4, h5, h6, -, -⟩ := Cond.code_spec hn (atoms_spec (ws := Jvm.Cond.code x code maxLocals ret :: tables_1) h _ List.mem_cons_self)
    exact ⟨meth, c, h1, h2, h3, h4, h5, h6⟩
  · intro p e s m args below meth c s₁ B hml0 hP _
    obtain ⟨rfl, hx, hgv⟩ := hP
    obtain ⟨scr, harrAt, hlist, hof, hsmall⟩ := hx
    obtain ⟨hcb, hkn, -, -⟩ := State.arrayAt?_spec harrAt
    have hown : s.vm.findClass R_law = some m.cls := findClass_of_methodNamed B.named
    have hts0 : ∀ c ∈ (Jvm.Cond.code x code maxLocals ret :: tables_1), c.before #[Value.ref b] s = true := atoms_spec (ws := Jvm.Cond.code x code maxLocals ret :: tables_1) B.pre
    have hts : ∀ w ∈ lw_tbl, w.before #[Value.ref b] s = true := k2_hts_sels lw_privs (fun w hw => hts0 w (List.mem_cons_of_mem _ hw)) lw_privs_ok
    have hml : c.maxLocals = 10 := B.maxLocals_eq (hts0 _ List.mem_cons_self)
    have X₀ : Stand p l e R9 s m #[Value.ref b] below meth c s₁ [] 0 0 := Stand.of_body B
    have hh0 : s₁.heap = s.heap := by rw [B.state]; rfl
    have hsz : scr.slots.size = 256 := by rw [← Array.length_toList, hlist, List.length_map, List.length_replicate]
    have hval : ∀ j : Nat, j < 256 → scr.slots[j]? = some (.int (xZ j)) := fun j hj => by
      rw [← Array.getElem?_toList, hlist, List.map_replicate, List.getElem?_replicate, if_pos hj]
      rfl
    have hbl : b < s.heap.size := (Array.getElem?_eq_some_iff.mp hcb).1
    have htab : c.exceptionTable.toList = [] := by
      obtain ⟨meth9, c9, h1, h2, -, -, -, -, h7, -⟩ := Cond.code_spec B.named (hts0 _ List.mem_cons_self)
      cases Option.some.inj (h1.symm.trans B.method)
      cases Option.some.inj (h2.symm.trans (Stand.of_body B).code)
      rw [Array.isEmpty_iff.mp h7]
    have hX : va_X b LZ xZ s s.heap := ⟨scr, hcb, hof, hkn, hsz, hval⟩
    have K : W p l e R9 s m #[Value.ref b] below meth c s₁.heap [] 0 0 (big_Z below s) (entryFrame m ([Value.ref b] : List Value).toArray 10) := by
      rw [hh0]
      exact big_start l hflags ⟨B.exec, B.bytes, B.returns, hml, hown, hts, hX, hbl, B.notSynchronized, hgv, htab⟩
    obtain ⟨t, a1, o, b1, b2, b3⟩ := K s₁ rfl X₀
    exact ⟨t, o, a1, b1, b2, b3⟩
def zz : Array Value := Array.replicate 256 (.int 0)
def zS : State := start1.aboutOf zz
set_option maxRecDepth 100000 in
theorem z_tab : tables_1.all (fun c => c.onTables || c.before start1.args0 zS) = true := by decide +kernel
theorem z_words : ∀ c ∈ (Cond.code x code maxLocals ret :: tables_1), c.before start1.args0 zS = true := by
  have hvm : start1.about.vm = zS.vm := rfl
  intro c hc
  by_cases ht : c.onTables = true
  · exact va_tabs ht hvm (start1.words c hc)
  · rcases List.mem_cons.mp hc with h | h
    · rw [h] at ht
      exact absurd rfl ht
    · have h9 := List.all_eq_true.mp z_tab c h
      simp only [Bool.or_eq_true] at h9
      exact h9.resolve_left ht
set_option maxRecDepth 100000 in
theorem z_pre : (Cond.and given_1 narrow_1).before start1.args0 zS = true := by decide +kernel
set_option maxRecDepth 100000 in
theorem z_rest : rest_1_c.before start1.args0 zS = true := by decide +kernel
set_option maxRecDepth 100000 in
theorem z_fits : argsFit zS.vm ⟨0, 0⟩ start1.args0 = true ∧ heapFits zS = true := ⟨by decide +kernel, by decide +kernel⟩
set_option maxRecDepth 100000 in
theorem z_app (r : Room) (hr : zS.hasRoom start1.e0.platform r = true) : (headSpec (Cond.code x code maxLocals ret :: tables_1) r).applies x start1.e0.platform zS = true :=
  (Spec.applies_iff (m := ⟨0, 0⟩) (args := start1.args0) (below := Lib.HandBits.below0) rfl).mpr ⟨rfl, rfl, rfl, by decide +kernel, by decide +kernel, by decide +kernel, hr, atoms_intro z_words⟩
theorem z_room1 : zS.hasRoom start1.e0.platform room_1 = true := launch0.hasRoom_least _ room_1 (by decide +kernel) (by decide +kernel) (by decide +kernel) (by decide +kernel) (by decide +kernel) (by decide +kernel)
theorem z_room9 : zS.hasRoom start1.e0.platform R9 = true := launch0.hasRoom_least _ R9 (by decide +kernel) (by decide +kernel) (by decide +kernel) (by decide +kernel) (by decide +kernel) (by decide +kernel)
theorem z_ints : zS.IntsAt 0 (List.replicate 256 0) := by
  have hs := flat_of_before _ z_pre
  have hq := flat_of_before _ z_rest
  have harr : (Cond.arrayOf (.arg 0) .int).before start1.args0 zS = true := hs _ (by decide +kernel)
  have hlen : (Cond.isInt (.length (.arg 0))).before start1.args0 zS = true := hq _ (by decide +kernel)
  have hall : (Cond.all (.arg 0) (.isInt (.elem (.arg 0) (.index 0)))).before start1.args0 zS = true := hq _ (by decide +kernel)
  obtain ⟨b, xs, hb, hx⟩ := State.ints_of_pre rfl harr hlen hall
  have hb0 : b = 0 := by
    have h9 : some (Value.ref 0) = some (Value.ref b) := hb
    cases h9
    rfl
  subst hb0
  obtain ⟨cell, h1, h2, h3, h4⟩ := hx
  have h9 : zS.arrayAt? 0 = some { cls := 12, slots := zz, vm := .none } := rfl
  have hc : cell = { cls := 12, slots := zz, vm := .none } := Option.some.inj (h1.symm.trans h9)
  subst hc
  have hl : zz.toList = (List.replicate 256 (0 : Int32)).map Value.int := by
    unfold zz
    rw [Array.toList_replicate, List.map_replicate]
  have hn : (List.replicate 256 (0 : Int32)).length < 2 ^ 31 := by
    rw [List.length_replicate]
    exact Nat.lt_of_sub_pos (by decide)
  exact ⟨_, h1, hl, h3, hn⟩
theorem p26_false : ¬ Claimed_1_1 := by
  intro h
  obtain ⟨n, o, hw, hrun, hend, hpost⟩ := h launch0 rfl lists_1 trivial start1.p0 start1.e0 (launch0.admits_env _ _ _) fairChoices_fair.cas fairChoices_fair.clock zS ⟨0, 0⟩ start1.args0 Lib.HandBits.below0 rfl z_fits.1 z_fits.2 (z_app room_1 z_room1) ⟨trivial, z_rest, z_pre⟩
  obtain ⟨k, o2, hw2, hrun2, hend2, hQ⟩ := big_walk launch0 rfl 0 start1.p0 start1.e0 (launch0.admits_env _ _ _) fairChoices_fair.cas fairChoices_fair.clock zS ⟨0, 0⟩ start1.args0 Lib.HandBits.below0 rfl ((Spec.applies_iff_loose rfl).mp (z_app R9 z_room9)).1 ⟨rfl, z_ints, z_pre⟩ trivial
  have hnk : n = k := by
    rcases Nat.lt_trichotomy n k with h9 | h9 | h9
    · exact absurd (hw2 n h9) hend.not_within
    · exact h9
    · exact absurd (hw k h9) hend2.not_within
  subst hnk
  obtain ⟨-, -, -, hsame⟩ := hpost
  have h1 := hsame.2.2.1
  have h2 : zS.heap.size + 160 ≤ (stepsAlone start1.p0.tables start1.e0 n zS).heap.size := hQ
  have h3 : (stepsAlone start1.p0.tables start1.e0 n zS).heap.size ≤ zS.heap.size + 159 := h1
  omega
theorem p26_refuted : ¬ (Claimed_1_1 ∧ Claimed_1_2) := fun h => p26_false h.1
end
