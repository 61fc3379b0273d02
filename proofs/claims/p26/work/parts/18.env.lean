def srW (q : Nat × Nat × Nat × Nat × String) : Cond := .stringRef RX0 q.2.1 q.2.2.2.2
set_option maxRecDepth 100000 in
theorem p_sr : SLs.map (fun q => some (srW q)) = ([311, 278, 331, 302, 245, 392, 226, 264, 277, 301, 364, 186] : List Nat).map (fun j => lw_tbl[j]?) := by decide +kernel
def evW : List Cond := [.laysStatic RX0 "FACTORS" "[I", .laysStatic Bundle.tN "UNASSIGNED_STACK" Bundle.steD, .laysStatic Bundle.tN "SUPPRESSED_SENTINEL" Bundle.listD, .initialized Bundle.tN, .initialized RX0, .castable (exN 0) (exN 0), .castable (exN 1) (exN 1), .castable (exN 2) (exN 2), .declares (Bundle.initS "java/lang/RuntimeException"), .declares (Bundle.initS "java/lang/Exception"), .declares (Bundle.initS "java/lang/Throwable")]
set_option maxRecDepth 100000 in
theorem p_ev : evW.map some = ([131, 172, 174, 24, 23, 147, 219, 238, 149, 151, 153] : List Nat).map (fun j => lw_tbl[j]?) := by decide +kernel
theorem ev_in {w : Cond} (i : Nat) (h : evW[i]? = some w) : w ∈ lw_tbl := tbl_of p_ev (List.mem_of_getElem? h)
theorem arr_k {args : Array Value} {s : State} {ty : FieldType} (h : (Cond.arrayClass ty).before args s = true) (hr : ∀ cA : ClassId, s.vm.findClass ("[" ++ ty.toString) = some cA → va_RA s cA ty) : ∃ cA : ClassId, ArrOfT s cA ty ∧ va_RA s cA ty := by
  obtain ⟨cA, kA, comp, h1, h2, h3⟩ := Cond.arrayClass_spec h
  exact ⟨cA, fun n z => ⟨fun k h => (by cases h), kA, h2, comp, h3⟩, hr cA h1⟩
set_option maxHeartbeats 4000000 in
set_option maxRecDepth 100000 in
theorem law_ev {s : State} {b : Nat} (hts : ∀ w ∈ lw_tbl, w.before #[Value.ref b] s = true) (hgv : (Jvm.Cond.and given_1 narrow_1).before #[Value.ref b] s = true) (hX : va_X b LZ xZ s s.heap) (hbl : b < s.heap.size) : ∃ (D : va_G) (cA : Nat → ClassId) (t : Nat), Ev D cA s.heap.size b LZ xZ t s s.heap := by
  have hs := flat_of_before _ hgv
  have htt : ∀ w ∈ TT, w.before #[Value.ref b] s = true := fun w h => hts w (TT_in h)
  have hA : ∀ a : Nat, a < s.heap.size → ¬ Ar s.heap.size a := fun a h => Nat.not_le.mpr h
  obtain ⟨c0, iS0, hKn0⟩ := u_known (C := RX0) (T := TX0) (N := 17) (n := 17) htt in_lay (hts _ (lt_in 3 rfl))
  obtain ⟨D, hKc⟩ : ∃ D : va_G, ∀ (k : Nat) (q : vw_C), vwCl[k]? = some q → u_Kn s q.1 q.2.1 q.2.2 (D.1 k) (D.2 k) := by
    refine ⟨(fun _ => c0, fun _ => iS0), ?_⟩
    intro k q hq
    match k, hq with
    | 0, hq => cases hq; exact hKn0
    | k + 1, hq => simp [vwCl] at hq
  obtain ⟨a0, g0, r0⟩ := arr_k (ty := .int) (htt _ (ct_in 0 rfl)) (fun _ h => h)
  have hK : va_K D vwCl [(a0, .int)] s := by
    refine ⟨hKc, fun k q hq => ?_⟩
    match k, hq with
    | 0, hq => cases hq; exact ⟨g0, r0⟩
    | k + 1, hq => simp at hq
  have harr : (Cond.arrayOf (.static RX0 "FACTORS" "[I") .int).before #[Value.ref b] s = true := hs _ (by decide +kernel)
  have hlen : (Cond.eq (.length (.static RX0 "FACTORS" "[I")) (.int 11)).before #[Value.ref b] s = true := hs _ (by decide +kernel)
  have e0 : (Cond.eq (.elem (.static RX0 "FACTORS" "[I") (.int 0)) (.int 0)).before #[Value.ref b] s = true := hs _ (by decide +kernel)
  have e1 : (Cond.eq (.elem (.static RX0 "FACTORS" "[I") (.int 1)) (.int 120)).before #[Value.ref b] s = true := hs _ (by decide +kernel)
  have e2 : (Cond.eq (.elem (.static RX0 "FACTORS" "[I") (.int 2)) (.int 280)).before #[Value.ref b] s = true := hs _ (by decide +kernel)
  have e3 : (Cond.eq (.elem (.static RX0 "FACTORS" "[I") (.int 3)) (.int 490)).before #[Value.ref b] s = true := hs _ (by decide +kernel)
  have e4 : (Cond.eq (.elem (.static RX0 "FACTORS" "[I") (.int 4)) (.int 730)).before #[Value.ref b] s = true := hs _ (by decide +kernel)
  have e5 : (Cond.eq (.elem (.static RX0 "FACTORS" "[I") (.int 5)) (.int 1000)).before #[Value.ref b] s = true := hs _ (by decide +kernel)
  have e6 : (Cond.eq (.elem (.static RX0 "FACTORS" "[I") (.int 6)) (.int 1290)).before #[Value.ref b] s = true := hs _ (by decide +kernel)
  have e7 : (Cond.eq (.elem (.static RX0 "FACTORS" "[I") (.int 7)) (.int 1600)).before #[Value.ref b] s = true := hs _ (by decide +kernel)
  have e8 : (Cond.eq (.elem (.static RX0 "FACTORS" "[I") (.int 8)) (.int 1930)).before #[Value.ref b] s = true := hs _ (by decide +kernel)
  have e9 : (Cond.eq (.elem (.static RX0 "FACTORS" "[I") (.int 9)) (.int 2280)).before #[Value.ref b] s = true := hs _ (by decide +kernel)
  have e10 : (Cond.eq (.elem (.static RX0 "FACTORS" "[I") (.int 10)) (.int 2650)).before #[Value.ref b] s = true := hs _ (by decide +kernel)
  obtain ⟨t, ht, hT⟩ := va_Tof (ty := .int) (N := 11) (f := fun j => .int (fcv j)) (A := Ar s.heap.size) (by decide) harr (va_eqt hlen) (fun j hj => by
    rcases (show j = 0 ∨ j = 1 ∨ j = 2 ∨ j = 3 ∨ j = 4 ∨ j = 5 ∨ j = 6 ∨ j = 7 ∨ j = 8 ∨ j = 9 ∨ j = 10 by omega) with rfl | rfl | rfl | rfl | rfl | rfl | rfl | rfl | rfl | rfl | rfl
    · exact va_eqt e0
    · exact va_eqt e1
    · exact va_eqt e2
    · exact va_eqt e3
    · exact va_eqt e4
    · exact va_eqt e5
    · exact va_eqt e6
    · exact va_eqt e7
    · exact va_eqt e8
    · exact va_eqt e9
    · exact va_eqt e10) hA
  have hst : ∀ k : Nat, (Cond.exactly (.string RX0 k) "java/lang/String").before #[Value.ref b] s = true → ∃ sa : Nat, (Term.string RX0 k).eval #[Value.ref b] s none [] s = some (.ref sa) := by
    intro k h
    obtain ⟨a, c, cA, kA, q1, -⟩ := Cond.exactly_spec h
    exact ⟨a, q1⟩
  have hsr : ∀ q ∈ SLs, ∃ sa, vk_R RX0 q.2.1 q.2.2.2.2 sa s := by
    intro q hq
    have h1 : (srW q).before #[Value.ref b] s = true := hts _ (at_tbl p_sr hq)
    have h2 : (Cond.exactly (.string RX0 q.2.1) "java/lang/String").before #[Value.ref b] s = true := by
      simp only [SLs, List.mem_cons, List.not_mem_nil, or_false] at hq
      rcases hq with rfl | rfl | rfl | rfl | rfl | rfl | rfl | rfl | rfl | rfl | rfl | rfl <;> exact hs _ (by decide +kernel)
    obtain ⟨sa, h3⟩ := hst _ h2
    exact ⟨sa, vk_R.of h1 h3⟩
  have hz1 : (Cond.isRef (.static Bundle.tN "UNASSIGNED_STACK" Bundle.steD)).before #[Value.ref b] s = true := hs _ (by decide +kernel)
  have hz2 : (Cond.isRef (.static Bundle.tN "SUPPRESSED_SENTINEL" Bundle.listD)).before #[Value.ref b] s = true := hs _ (by decide +kernel)
  have n01 : (Cond.not (.castable (exN 0) (exN 1))).before #[Value.ref b] s = true := hs _ (by decide +kernel)
  have n02 : (Cond.not (.castable (exN 0) (exN 2))).before #[Value.ref b] s = true := hs _ (by decide +kernel)
  have n10 : (Cond.not (.castable (exN 1) (exN 0))).before #[Value.ref b] s = true := hs _ (by decide +kernel)
  have n12 : (Cond.not (.castable (exN 1) (exN 2))).before #[Value.ref b] s = true := hs _ (by decide +kernel)
  have n20 : (Cond.not (.castable (exN 2) (exN 0))).before #[Value.ref b] s = true := hs _ (by decide +kernel)
  have n21 : (Cond.not (.castable (exN 2) (exN 1))).before #[Value.ref b] s = true := hs _ (by decide +kernel)
  refine ⟨D, fun _ => a0, t, hK, va_Zof (hts _ (ev_in 0 rfl)) (hts _ (ev_in 4 rfl)) ht hA, hT, vx_Zqof (hts _ (ev_in 1 rfl)) (hts _ (ev_in 3 rfl)) hz1 hA, vx_Zqof (hts _ (ev_in 2 rfl)) (hts _ (ev_in 3 rfl)) hz2 hA, hX, hbl, hsr, ?_, ?_, ?_⟩
  · intro x hx
    simp only [bwN, List.mem_cons, List.not_mem_nil, or_false] at hx
    rcases hx with rfl | rfl | rfl
    · exact va_Nw.of rfl (hts _ (ev_in 8 rfl))
    · exact va_Nw.of rfl (hts _ (ev_in 9 rfl))
    · exact va_Nw.of rfl (hts _ (ev_in 10 rfl))
  · intro e he
    rcases (show e = 0 ∨ e = 1 ∨ e = 2 by omega) with rfl | rfl | rfl
    · exact va_Nw.of rfl (hts _ (ev_in 5 rfl))
    · exact va_Nw.of rfl (hts _ (ev_in 6 rfl))
    · exact va_Nw.of rfl (hts _ (ev_in 7 rfl))
  · intro e f he hf hef
    rcases (show (e = 0 ∧ f = 1) ∨ (e = 0 ∧ f = 2) ∨ (e = 1 ∧ f = 0) ∨ (e = 1 ∧ f = 2) ∨ (e = 2 ∧ f = 0) ∨ (e = 2 ∧ f = 1) by omega) with ⟨rfl, rfl⟩ | ⟨rfl, rfl⟩ | ⟨rfl, rfl⟩ | ⟨rfl, rfl⟩ | ⟨rfl, rfl⟩ | ⟨rfl, rfl⟩
    · exact va_Nc.of n01
    · exact va_Nc.of n02
    · exact va_Nc.of n10
    · exact va_Nc.of n12
    · exact va_Nc.of n20
    · exact va_Nc.of n21
