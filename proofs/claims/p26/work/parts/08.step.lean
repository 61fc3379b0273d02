theorem lk_in {l : List PE} {pc : Nat} {q : Instr × Nat × Nat} (h : lkp l pc = some q) : (pc, q) ∈ l := by
  induction l with
  | nil => cases h
  | cons x l ih =>
    unfold lkp at h
    cases hb : Nat.beq x.1 pc with
    | true =>
      rw [hb] at h
      have e1 : x.1 = pc := Nat.eq_of_beq_eq_true hb
      have e2 : x.2 = q := Option.some.inj h
      rw [← e1, ← e2]
      exact List.mem_cons_self
    | false =>
      rw [hb] at h
      exact List.mem_cons_of_mem _ (ih h)
theorem okM_all {i : Nat} (hi : i < 67) : okM i = true := by
  have ha := List.all_eq_true.mp okM_a
  have hb := List.all_eq_true.mp okM_b
  rcases Nat.lt_or_ge i 50 with h | h
  · exact ha i (List.mem_range.mpr h)
  · rcases Nat.lt_or_ge i 58 with h2 | h2
    · exact hb i (List.mem_map.mpr ⟨i - 50, List.mem_range.mpr (by omega), by omega⟩)
    · rcases (show i = 58 ∨ i = 59 ∨ i = 60 ∨ i = 61 ∨ i = 62 ∨ i = 63 ∨ i = 64 ∨ i = 65 ∨ i = 66 by omega) with rfl | rfl | rfl | rfl | rfl | rfl | rfl | rfl | rfl
      · exact okM_58
      · exact okM_59
      · exact okM_60
      · exact okM_61
      · exact okM_62
      · exact okM_63
      · exact okM_64
      · exact okM_65
      · exact okM_66
theorem row_ok {i pc nx ax : Nat} {ins : Instr} (hi : i < 67) (h : lkp (pg i) pc = some (ins, nx, ax)) : decode (mB i) pc = .ok (ins, ln ins) ∧ nx = pc + ln ins ∧ okA i (pc, ins, nx, ax) = true := by
  have h1 := List.all_eq_true.mp (okM_all hi) _ (lk_in h)
  simp only [okE, Bool.and_eq_true, decide_eq_true_eq] at h1
  exact ⟨h1.1.1, h1.1.2, h1.2⟩
theorem gd {w : Cond} (h : w ∈ (FLs.map flW ++ (MLs.map mlW ++ (KWs.map kwW ++ (mtAll.map wC ++ (mtAll.map iniW ++ (mtS.map staW ++ (mtI.map insW ++ mtI.map selW)))))))) : goodWord w = true := List.all_eq_true.mp g_all w h
theorem in_fl {q : Nat × Nat × Nat} (h : q ∈ FLs) : flW q ∈ TT := inTT (at_tbl p_fl h) (gd (List.mem_append_left _ (List.mem_map.mpr ⟨q, h, rfl⟩)))
theorem in_ml {q : Nat × Nat × Nat} (h : q ∈ MLs) : mlW q ∈ TT := inTT (at_tbl p_ml h) (gd (List.mem_append_right _ (List.mem_append_left _ (List.mem_map.mpr ⟨q, h, rfl⟩))))
theorem in_kw {q : Nat × Nat × Nat} (h : q ∈ KWs) : kwW q ∈ TT := inTT (at_tbl p_kw h) (gd (List.mem_append_right _ (List.mem_append_right _ (List.mem_append_left _ (List.mem_map.mpr ⟨q, h, rfl⟩)))))
theorem in_code {i : Nat} (h : i ∈ mtAll) : wC i ∈ TT := inTT (code_tbl h) (gd (List.mem_append_right _ (List.mem_append_right _ (List.mem_append_right _ (List.mem_append_left _ (List.mem_map.mpr ⟨i, h, rfl⟩))))))
theorem in_ini {i : Nat} (h : i ∈ mtAll) : iniW i ∈ TT := inTT (at_tbl p_ini h) (gd (List.mem_append_right _ (List.mem_append_right _ (List.mem_append_right _ (List.mem_append_right _ (List.mem_append_left _ (List.mem_map.mpr ⟨i, h, rfl⟩)))))))
theorem in_sta {i : Nat} (h : i ∈ mtS) : staW i ∈ TT := inTT (at_tbl p_sta h) (gd (List.mem_append_right _ (List.mem_append_right _ (List.mem_append_right _ (List.mem_append_right _ (List.mem_append_right _ (List.mem_append_left _ (List.mem_map.mpr ⟨i, h, rfl⟩))))))))
theorem in_ins {i : Nat} (h : i ∈ mtI) : insW i ∈ TT := inTT (at_tbl p_ins h) (gd (List.mem_append_right _ (List.mem_append_right _ (List.mem_append_right _ (List.mem_append_right _ (List.mem_append_right _ (List.mem_append_right _ (List.mem_append_left _ (List.mem_map.mpr ⟨i, h, rfl⟩)))))))))
theorem in_sel {i : Nat} (h : i ∈ mtI) : selW i ∈ TT := inTT (at_tbl p_sel h) (gd (List.mem_append_right _ (List.mem_append_right _ (List.mem_append_right _ (List.mem_append_right _ (List.mem_append_right _ (List.mem_append_right _ (List.mem_append_right _ (List.mem_map.mpr ⟨i, h, rfl⟩)))))))))
theorem tbl_of {ws : List Cond} {ps : List Nat} (h : ws.map some = ps.map (fun j => lw_tbl[j]?)) {w : Cond} (hw : w ∈ ws) : w ∈ lw_tbl := by
  have h1 : some w ∈ ws.map some := List.mem_map.mpr ⟨w, hw, rfl⟩
  rw [h] at h1
  obtain ⟨j, -, hj⟩ := List.mem_map.mp h1
  exact List.mem_of_getElem? hj
theorem in_lay : ∀ w ∈ u_ws RX0 TX0 17, w ∈ TT := fun w hw => inTT (tbl_of p_lay0 hw) (List.all_eq_true.mp g_lay w hw)
theorem in_f0 : Cond.fieldLink RX0 170 RX0 "FACTORS" "[I" ∈ TT := inTT (List.mem_of_getElem? p_f0) g_f0
def fOk (k : Nat) : Bool := decide ((TX0 k).1 = RX0) && (match shX.getD k none with
  | none => decide ((TX0 k).2.2.1 = "I")
  | some _ => true)
theorem fOk_a : (List.range 17).all fOk = true := by decide +kernel
theorem fOk_all {k : Nat} (hk : k < 17) : fOk k = true := List.all_eq_true.mp fOk_a k (List.mem_range.mpr hk)
theorem fl_lt : FLs.all (fun q => decide (q.1 = 0) && decide (q.2.2 < 17)) = true := by decide +kernel
theorem cl_at : vwCl[0]? = some (RX0, TX0, 17) := rfl
theorem mt_ok {i : Nat} (h : i ∈ mtAll) : mtOk i = true := List.all_eq_true.mp mtOk_a i h
section STEP
variable {p : Program} {l : Launch} {e : Env} {R : Room} {s : State} {m : MethodId} {args : Array Value} {below : List Frame} {meth : Method} {c : Code} {Q : State → Prop}
variable {i : Nat} {D : va_G} {cA : Nat → ClassId} {ad : Nat → Nat} {N0 b L : Nat} {xs : Nat → Int32} {t c0 s0 Km : Nat} {P : Nat → PR → PS → Prop}
def Cx (i : Nat) (D : va_G) (cA : Nat → ClassId) (ad : Nat → Nat) (N0 b L : Nat) (xs : Nat → Int32) (t c0 s0 Km : Nat) (p : Program) (l : Launch) (R : Room) (s : State) (m : MethodId) (args : Array Value) (c : Code) : Prop :=
  p.tables.exec = Jvm.exec ∧ c.code = mB i ∧ c.maxLocals = mL i ∧ s.vm.findClass (oN (mO i)) = some m.cls ∧ (∀ w ∈ TT, w.before args s = true) ∧ Ev D cA N0 b LZ xZ t s s.heap ∧ Ad ad N0 b ∧ N0 ≤ s.heap.size ∧ l.stackTraces = false ∧ c.exceptionTable.toList = tableOf (mH i) ∧ R.frames = mF i ∧ R.locals = mLo i ∧ c0 + Km ≤ R.cells ∧ s0 + 6 * Km ≤ R.slots
def Go (D : va_G) (cA : Nat → ClassId) (ad : Nat → Nat) (N0 b t c0 s0 Km i : Nat) (p : Program) (l : Launch) (e : Env) (R : Room) (s : State) (m : MethodId) (args : Array Value) (below : List Frame) (meth : Method) (c : Code) (Q : State → Prop) : KT := fun k pc ls st S =>
  k ≤ Km → ∀ (H : Heap) (locs : List Loc) (Lx : Array Slot), va_P D vwCl (wld ad cA S) H → va_S (Ar N0) s.heap H locs → s.heap.size + k ≤ H.size → lv_has Lx (mL i) (lsr ad b t ls) → W p l e R s m args below meth c H locs (c0 + k) (s0 + 6 * k) Q (F0 m pc Lx (st.map (rv ad b t)))
def En (D : va_G) (cA : Nat → ClassId) (ad : Nat → Nat) (N0 c0 s0 Km i : Nat) (P : Nat → PR → PS → Prop) (p : Program) (l : Launch) (e : Env) (R : Room) (s : State) (m : MethodId) (args : Array Value) (below : List Frame) (meth : Method) (c : Code) (Q : State → Prop) : Prop :=
  (∀ (k : Nat) (v : Int32) (S : PS) (pc : Nat) (H : Heap) (locs : List Loc) (Lx : Array Slot), P k (.inl (some v)) S → k ≤ Km → nrw (mR i) v → decode (mB i) pc = .ok (.ireturn, 1) → va_P D vwCl (wld ad cA S) H → va_S (Ar N0) s.heap H locs → s.heap.size + k ≤ H.size → W p l e R s m args below meth c H locs (c0 + k) (s0 + 6 * k) Q (F0 m pc Lx [.int v])) ∧
  (∀ (k : Nat) (S : PS) (pc : Nat) (H : Heap) (locs : List Loc) (Lx : Array Slot), P k (.inl none) S → k ≤ Km → mR i = none → decode (mB i) pc = .ok (.return_, 1) → va_P D vwCl (wld ad cA S) H → va_S (Ar N0) s.heap H locs → s.heap.size + k ≤ H.size → W p l e R s m args below meth c H locs (c0 + k) (s0 + 6 * k) Q (F0 m pc Lx [])) ∧
  (∀ (k ex : Nat) (S : PS) (pc ik : Nat) (H : Heap) (locs : List Loc) (Lx : Array Slot) (rest : List Value), P (k + 1) (.inr ex) S → k + 1 ≤ Km → mO i = 0 → catS rest ≤ 8 → Lx.size = mL i → decode (mB i) pc = .ok (.new ik, 3) → okN (mB i) pc ik ex = true → 6 ≤ mF i → 90 ≤ mLo i → mH i = [] → va_P D vwCl (wld ad cA S) H → va_S (Ar N0) s.heap H locs → s.heap.size + k ≤ H.size → W p l e R s m args below meth c H locs (c0 + k) (s0 + 6 * k) Q (F0 m pc Lx rest)) ∧
  (∀ (k ex : Nat) (S : PS) (pc : Nat) (H : Heap) (locs : List Loc) (Lx : Array Slot) (rest : List Value) (q : Addr) (ce : Cell), P k (.inr ex) S → k ≤ Km → ex < 3 → mH i = [] → va_P D vwCl (wld ad cA S) H → va_S (Ar N0) s.heap H locs → s.heap.size + k ≤ H.size → H[q]? = some ce → ce.vm = .none → s.vm.findClass (exN ex) = some ce.cls → vx_W p l e R s m args below meth c H locs (c0 + k) (s0 + 6 * k) Q (F0 m pc Lx rest) q)
abbrev GO (D : va_G) (cA : Nat → ClassId) (ad : Nat → Nat) (N0 b t c0 s0 Km i : Nat) (p : Program) (l : Launch) (e : Env) (R : Room) (s : State) (m : MethodId) (args : Array Value) (below : List Frame) (meth : Method) (c : Code) (Q : State → Prop) : KT := Go D cA ad N0 b t c0 s0 Km i p l e R s m args below meth c Q
theorem go_weak {k pc : Nat} {ls ls' : PL} {st : List Value} {S : PS} (h : ∀ q ∈ ls', q ∈ ls) (g : Go D cA ad N0 b t c0 s0 Km i p l e R s m args below meth c Q k pc ls' st S) : Go D cA ad N0 b t c0 s0 Km i p l e R s m args below meth c Q k pc ls st S :=
  fun hk H locs Lx hP hS hB hl => g hk H locs Lx hP hS hB (lsr_sub hl h)
theorem go_jmp {cc : ByteArray} {k pc ax nx : Nat} {off : Int} {cnd : ClassFile.Cond} {ls : PL} {st : List Value} {S : PS} {x y : Int32} {H : Heap} {locs : List Loc} {Lx : Array Slot} {c1 s1 : Nat} (hx : p.tables.exec = Jvm.exec) (hb : c.code = cc) (ht : (pc : Int) + off = (ax : Int)) (hd : decode cc pc = .ok (.if_icmp cnd off, 3)) {A B : Prop}
    (ka : A → W p l e R s m args below meth c H locs c1 s1 Q (F0 m ax Lx st)) (kb : B → W p l e R s m args below meth c H locs c1 s1 Q (F0 m (pc + 3) Lx st)) (h : jmp cnd x y A B) : W p l e R s m args below meth c H locs c1 s1 Q (F0 m pc Lx (.int y :: .int x :: st)) := by
  cases cnd with
  | eq => exact lv_icmp_eq hx hb hd ht (fun z => ka (h.1 z)) (fun z => kb (h.2 z))
  | ne => exact lv_icmp_ne hx hb hd ht (fun z => ka (h.1 z)) (fun z => kb (h.2 z))
  | lt => exact lv_icmp_lt hx hb hd ht (fun z => ka (h.1 z)) (fun z => kb (h.2 z))
  | ge => exact lv_icmp_ge hx hb hd ht (fun z => ka (h.1 z)) (fun z => kb (h.2 z))
  | gt => exact lv_icmp_gt hx hb hd ht (fun z => ka (h.1 z)) (fun z => kb (h.2 z))
  | le => exact lv_icmp_le hx hb hd ht (fun z => ka (h.1 z)) (fun z => kb (h.2 z))
theorem go_jmp0 {cc : ByteArray} {k pc ax nx : Nat} {off : Int} {cnd : ClassFile.Cond} {ls : PL} {st : List Value} {S : PS} {x : Int32} {H : Heap} {locs : List Loc} {Lx : Array Slot} {c1 s1 : Nat} (hx : p.tables.exec = Jvm.exec) (hb : c.code = cc) (ht : (pc : Int) + off = (ax : Int)) (hd : decode cc pc = .ok (.ifCond cnd off, 3)) {A B : Prop}
    (ka : A → W p l e R s m args below meth c H locs c1 s1 Q (F0 m ax Lx st)) (kb : B → W p l e R s m args below meth c H locs c1 s1 Q (F0 m (pc + 3) Lx st)) (h : jmp cnd x 0 A B) : W p l e R s m args below meth c H locs c1 s1 Q (F0 m pc Lx (.int x :: st)) := by
  cases cnd with
  | eq => exact lv_if_eq hx hb hd ht (fun z => ka (h.1 z)) (fun z => kb (h.2 z))
  | ne => exact lv_if_ne hx hb hd ht (fun z => ka (h.1 z)) (fun z => kb (h.2 z))
  | lt => exact lv_if_lt hx hb hd ht (fun z => ka (h.1 z)) (fun z => kb (h.2 z))
  | ge => exact lv_if_ge hx hb hd ht (fun z => ka (h.1 z)) (fun z => kb (h.2 z))
  | gt => exact lv_if_gt hx hb hd ht (fun z => ka (h.1 z)) (fun z => kb (h.2 z))
  | le => exact lv_if_le hx hb hd ht (fun z => ka (h.1 z)) (fun z => kb (h.2 z))
end STEP
section CALL
variable {p : Program} {l : Launch} {e : Env} {R : Room} {s : State} {m : MethodId} {args : Array Value} {below : List Frame} {meth : Method} {c : Code} {Q : State → Prop}
variable {i : Nat} {D : va_G} {cA : Nat → ClassId} {ad : Nat → Nat} {N0 b L : Nat} {xs : Nat → Int32} {t c0 s0 Km : Nat} {P : Nat → PR → PS → Prop}
theorem good_TT {ws : List Cond} (h : ∀ w ∈ ws, w ∈ TT) : GoodIn TT ws := fun w hw => ⟨h w hw, good_of_word (TT_good (h w hw))⟩
theorem wsM_in {j : Nat} (h : j ∈ mtAll) : ∀ w ∈ wsM j, w ∈ TT := fun w hw => (List.mem_cons.mp hw).elim (fun z => by rw [z]; exact in_code h) (fun z => z)
theorem wC_nil {j : Nat} (h : mH j = []) : wC j = .code (mY j) (mB j) (mL j) (mR j) := by
  unfold wC
  rw [h]
theorem wC_cons {j : Nat} (h : ¬ mH j = []) : wC j = .codeWith (mY j) (mB j) (mL j) (mR j) (mH j) := by
  unfold wC
  split
  · rename_i h9
    exact absurd h9 h
  · rfl
theorem lkW_split : ∀ {w : List (Nat × Nat × Nat × Nat)} {e : Nat} {q : Nat × Nat × Nat}, lkW w e = some q → ∃ pre suf, w = pre ++ (e, q) :: suf ∧ ∀ z ∈ pre, z.1 ≠ e
  | z :: w, e, q, h => by
    unfold lkW at h
    cases hb : Nat.beq z.1 e with
    | true =>
      rw [hb] at h
      have e1 : z.1 = e := Nat.eq_of_beq_eq_true hb
      have e2 : z.2 = q := Option.some.inj h
      exact ⟨[], w, by rw [← e1, ← e2]; rfl, fun _ h => nomatch h⟩
    | false =>
      rw [hb] at h
      obtain ⟨pre, suf, h1, h2⟩ := lkW_split h
      refine ⟨z :: pre, suf, by rw [h1]; rfl, fun y hy => ?_⟩
      rcases List.mem_cons.mp hy with rfl | hy
      · intro hz
        rw [hz] at hb
        simp at hb
      · exact h2 y hy
theorem in_lc {e : Nat} (he : e < 3) : Cond.classLink RL (ctx e) (exN e) ∈ TT := by
  have key : ∀ q ∈ ([(37, 0), (39, 1), (41, 2)] : List (Nat × Nat)), lcW q ∈ TT := fun q hq => inTT (at_tbl p_lc hq) (List.all_eq_true.mp g_all2 _ (List.mem_append_right _ (List.mem_append_right _ (List.mem_map.mpr ⟨q, hq, rfl⟩))))
  rcases (show e = 0 ∨ e = 1 ∨ e = 2 by omega) with rfl | rfl | rfl
  · exact key (37, 0) (by decide)
  · exact key (39, 1) (by decide)
  · exact key (41, 2) (by decide)
theorem okW_all {j : Nat} (h : j < 67) : okW j = true := List.all_eq_true.mp okW_a j (List.mem_range.mpr h)
theorem go_back {k k' pc nx ax : Nat} {ls : PL} {rest : List Value} {S' : PS} {r : PR} {ins : Instr} {idx : Nat} {mc : Nat} {Lx : Array Slot} {H : Heap} {locs : List Loc} {st0 : List Value} {a : Array Value}
    (hi : i < 67) (C : Cx i D cA ad N0 b LZ xZ t c0 s0 Km p l R s m args c) (hE : En D cA ad N0 c0 s0 Km i P p l e R s m args below meth c Q)
    (hx3 : nx = pc + 3) (hown : mH i = [] ∨ (mO i = 2 ∧ pc < wt i)) (hk : k + k' ≤ Km) (hS : va_S (Ar N0) s.heap H locs) (hB : s.heap.size + k ≤ H.size) (hl : lv_has Lx (mL i) (lsr ad b t ls))
    (hr : vx_Run p l e R s m args below meth c H locs (c0 + k) (s0 + 6 * k) k' (6 * k') (F0 m pc Lx st0) (rest.map (rv ad b t)) (fun st o u => (∃ v : Option Int32, r = .inl v ∧ o = .returned (v.map Value.int)) ∧ va_P D vwCl (wld ad cA S') u.heap ∧ st.heap.size + k' ≤ u.heap.size ∧ va_F (Ar N0) st u)
      (fun E st u => (∃ e : Nat, r = .inr e ∧ e < 3 ∧ E = exN e) ∧ va_P D vwCl (wld ad cA S') u.heap ∧ st.heap.size + k' ≤ u.heap.size ∧ va_F (Ar N0) st u) (Ar N0))
    (h : callK i P (Go D cA ad N0 b t c0 s0 Km i p l e R s m args below meth c Q) (k + k') nx ls rest r S') :
    W p l e R s m args below meth c H locs (c0 + k) (s0 + 6 * k) Q (F0 m pc Lx st0) := by
  have e6 : c0 + k + k' = c0 + (k + k') := by omega
  have e7 : s0 + 6 * k + 6 * k' = s0 + 6 * (k + k') := by omega
  intro T hT X
  rcases hr T hT X with ⟨v, st₀, u, T', Lo, h0, X', hL, e1, e2, ⟨⟨v', hr1, hr2⟩, hP', hZ, hF⟩, st⟩ | ⟨q, st₀, u, T', Lo, E, ce, h0, X', hL, e1, e2, ⟨⟨ex, hr1, hr3, hr2⟩, hP', hZ, hF⟩, hce, hcv, hcl, st⟩
  · obtain ⟨-, -, k3⟩ := vx_keep (A0 := Ar N0) (A1 := Ar N0) (H0 := s.heap) (free := Ar N0) h0 e1 hS (fun _ _ z => z) (fun _ z => z) hL hF
    rw [e6, e7] at X'
    rw [← e1] at hP' hZ
    rw [h0] at hZ
    have hB2 : s.heap.size + (k + k') ≤ T'.heap.size := by omega
    subst hr1
    have hv : v = v'.map Value.int := Outcome.returned.inj hr2
    cases v' with
    | none =>
      have g : Go D cA ad N0 b t c0 s0 Km i p l e R s m args below meth c Q (k + k') nx ls rest S' := h
      subst hv
      obtain ⟨t2, a1, b1⟩ := g hk T'.heap (locs ++ Lo) Lx hP' k3 hB2 hl T' rfl X'
      rw [hx3] at a1
      exact ⟨t2, st t2 a1, b1⟩
    | some z =>
      have g : Go D cA ad N0 b t c0 s0 Km i p l e R s m args below meth c Q (k + k') nx ls (.int z :: rest) S' := h
      subst hv
      obtain ⟨t2, a1, b1⟩ := g hk T'.heap (locs ++ Lo) Lx hP' k3 hB2 hl T' rfl X'
      rw [hx3] at a1
      exact ⟨t2, st t2 a1, b1⟩
  · obtain ⟨-, -, k3⟩ := vx_keep (A0 := Ar N0) (A1 := Ar N0) (H0 := s.heap) (free := Ar N0) h0 e1 hS (fun _ _ z => z) (fun _ z => z) hL hF
    rw [e6, e7] at X'
    rw [← e1] at hP' hce hZ
    rw [h0] at hZ
    have hB2 : s.heap.size + (k + k') ≤ T'.heap.size := by omega
    subst hr1
    subst hr2
    have key : vx_W p l e R s m args below meth c T'.heap (locs ++ Lo) (c0 + (k + k')) (s0 + 6 * (k + k')) Q (F0 m pc Lx (rest.map (rv ad b t))) q := by
      obtain ⟨hx, hb, hml, hfc, hts, hEv, hAd, hN0, htr, htab, -, -, -, -⟩ := C
      unfold callK at h
      cases hw : lkW (wh i) ex with
      | none =>
        simp only [hw] at h
        have hmh : mH i = [] := by
          have h9 := okW_all hi
          simp only [okW, Bool.and_eq_true, decide_eq_true_eq] at h9
          rw [h9.1.1, h.1]
          rfl
        exact hE.2.2.2 (k + k') ex S' pc T'.heap (locs ++ Lo) Lx _ q ce h.2 hk hr3 hmh hP' k3 hB2 hce hcv hcl
      | some y =>
        obtain ⟨hp, x, nx'⟩ := y
        simp only [hw] at h
        have g := delL_eq h
        obtain ⟨pre, suf, hsp, hne⟩ := lkW_split hw
        have h9 := okW_all hi
        simp only [okW, Bool.and_eq_true, decide_eq_true_eq, List.all_eq_true, Bool.or_eq_true] at h9
        obtain ⟨⟨hmH, hall⟩, -⟩ := h9
        have hne0 : ¬ mH i = [] := by rw [hmH, hsp]; simp
        have hown2 := hown.resolve_left hne0
        have hfc2 : s.vm.findClass RL = some m.cls := by
          have h8 := hfc
          rw [hown2.1] at h8
          exact h8
        have hrow := hall (ex, hp, x, nx') (by rw [hsp]; exact List.mem_append_right _ List.mem_cons_self)
        have hg : (tableOf (mH i)) = (tableOf (pre.map (fun q => (0, wt i, q.2.1, ctx q.1)))) ++ (⟨0, wt i, hp, ctx ex⟩ : ExceptionTableEntry) :: tableOf (suf.map (fun q => (0, wt i, q.2.1, ctx q.1))) := by
          rw [hmH, hsp]
          simp [tableOf]
        have hcast := hEv.2.2.2.2.2.2.2.2.2.1 ex hr3
        refine vx_catch (own := RL) (name := exN ex) (E := exN ex) (ce := ce) hfc2 _ ⟨0, wt i, hp, ctx ex⟩ _ (htab.trans hg) ?_ ?_ ?_ (hts _ (in_lc hr3)) (va_Nw.use rfl hcast) hce hcv hcl ?_
        · intro z hz
          obtain ⟨z0, hz0, rfl⟩ := List.mem_map.mp hz
          obtain ⟨z1, hz1, rfl⟩ := List.mem_map.mp hz0
          have hz3 : z1.1 < 3 := (hall z1 (by rw [hsp]; exact List.mem_append_left _ hz1)).1.1
          refine Or.inr ⟨?_, exN z1.1, hts _ (in_lc hz3), hEv.2.2.2.2.2.2.2.2.2.2 ex z1.1 hr3 hz3 (fun h => hne z1 hz1 h.symm)⟩
          show ctx z1.1 ≠ 0
          rcases (show z1.1 = 0 ∨ z1.1 = 1 ∨ z1.1 = 2 by omega) with h | h | h <;> rw [h] <;> decide
        · simp [covers, hown2.2]
        · show ctx ex ≠ 0
          rcases (show ex = 0 ∨ ex = 1 ∨ ex = 2 by omega) with h | h | h <;> rw [h] <;> decide
        · obtain ⟨⟨-, hxl⟩, hdd⟩ := hrow
          have fin : ∀ (ls' : Array Slot), lv_has ls' (mL i) ((x, Value.ref q) :: (lsr ad b t ls).filter (fun q => !(q.1 == x) && !(q.1 + 1 == x && q.2.category == 2))) → lv_has ls' (mL i) (lsr ad b t (ls.filter (kpb x))) := by
            intro ls' hh
            rw [lsr_del] at hh
            exact ⟨hh.1, hh.2.1, fun q hq => hh.2.2 q (List.mem_cons_of_mem _ hq)⟩
          rcases hdd with ⟨hd, hn⟩ | ⟨⟨hd, h3⟩, hn⟩
          · refine lv_astore (i := x) hx hb hd hl hxl rfl (fun ls' hh => ?_)
            have g2 := g hk T'.heap (locs ++ Lo) ls' hP' k3 hB2 (fin ls' hh)
            have hn9 : nx' = hp + 2 := hn
            rw [hn9] at g2
            exact g2
          · subst h3
            refine lv_astore_n (i := 3) hx hb hd rfl hl hxl rfl (fun ls' hh => ?_)
            have g2 := g hk T'.heap (locs ++ Lo) ls' hP' k3 hB2 (fin ls' hh)
            have hn9 : nx' = hp + 1 := hn
            rw [hn9] at g2
            exact g2
    obtain ⟨t2, a1, b1⟩ := key T' rfl X'
    exact ⟨t2, st.trans a1, b1⟩
end CALL
