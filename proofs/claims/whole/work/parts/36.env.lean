def srW (q : Nat × Nat × Nat × Nat × String) : Cond := .stringRef RX0 q.2.1 q.2.2.2.2
set_option maxRecDepth 100000 in
theorem p_sr : SLs.map (fun q => some (srW q)) = ([329, 349, 378, 453, 268, 484, 249, 293, 348, 452, 423, 209] : List Nat).map (fun j => lw_tbl[j]?) := by decide +kernel
def evW : List Cond := [.laysStatic RX0 "FACTORS" "[I", .laysStatic Bundle.tN "UNASSIGNED_STACK" Bundle.steD, .laysStatic Bundle.tN "SUPPRESSED_SENTINEL" Bundle.listD, .initialized Bundle.tN, .initialized RX0, .castable (exN 0) (exN 0), .castable (exN 1) (exN 1), .castable (exN 2) (exN 2), .declares (Bundle.initS "java/lang/RuntimeException"), .declares (Bundle.initS "java/lang/Exception"), .declares (Bundle.initS "java/lang/Throwable")]
set_option maxRecDepth 100000 in
theorem p_ev : evW.map some = ([154, 195, 197, 47, 45, 170, 242, 261, 172, 174, 176] : List Nat).map (fun j => lw_tbl[j]?) := by decide +kernel
theorem ev_in {w : Cond} (i : Nat) (h : evW[i]? = some w) : w ∈ lw_tbl := tbl_of p_ev (List.mem_of_getElem? h)
theorem arr_k {args : Array Value} {s : State} {ty : FieldType} (h : (Cond.arrayClass ty).before args s = true) (hr : ∀ cA : ClassId, s.vm.findClass ("[" ++ ty.toString) = some cA → va_RA s cA ty) : ∃ cA : ClassId, ArrOfT s cA ty ∧ va_RA s cA ty := by
  obtain ⟨cA, kA, comp, h1, h2, h3⟩ := Cond.arrayClass_spec h
  exact ⟨cA, fun n z => ⟨fun k h => (by cases h), kA, h2, comp, h3⟩, hr cA h1⟩
set_option maxHeartbeats 4000000 in
set_option maxRecDepth 100000 in
theorem law_ev {s : State} {b L : Nat} {xs : Nat → Int32} (hts : ∀ w ∈ lw_tbl, w.before #[Value.ref b] s = true) (hgv : (Jvm.Cond.and given_1 narrow_1).before #[Value.ref b] s = true) (hX : va_X b L xs s s.heap) (hbl : b < s.heap.size) : ∃ (D : va_G) (cA : Nat → ClassId) (t : Nat), Ev D cA s.heap.size b L xs t s s.heap := by
  have hs := flat_of_before _ hgv
  have htt : ∀ w ∈ TT, w.before #[Value.ref b] s = true := fun w h => hts w (TT_in h)
  have hA : ∀ a : Nat, a < s.heap.size → ¬ Ar s.heap.size a := fun a h => Nat.not_le.mpr h
  obtain ⟨c0, iS0, hKn0⟩ := u_known (C := RX0) (T := TX0) (N := 17) (n := 17) htt (in_lay (o := 0) (by decide)) (hts _ (lt_in 7 rfl))
  obtain ⟨c1, iS1, hKn1⟩ := u_known (C := RX1) (T := TX1) (N := 17) (n := 17) htt (in_lay (o := 1) (by decide)) (hts _ (lt_in 8 rfl))
  obtain ⟨D, hKc⟩ : ∃ D : va_G, ∀ (k : Nat) (q : vw_C), vwCl[k]? = some q → u_Kn s q.1 q.2.1 q.2.2 (D.1 k) (D.2 k) := by
    refine ⟨(fun k => if k = 0 then c0 else c1, fun k => if k = 0 then iS0 else iS1), ?_⟩
    intro k q hq
    match k, hq with
    | 0, hq => cases hq; exact hKn0
    | 1, hq => cases hq; exact hKn1
    | k + 2, hq => simp [vwCl] at hq
  obtain ⟨a0, g0, r0⟩ := arr_k (ty := .int) (htt _ (ct_in 0 rfl)) (fun _ h => h)
  obtain ⟨a1, g1, r1⟩ := arr_k (ty := .boolean) (htt _ (ct_in 1 rfl)) (fun _ h => h)
  obtain ⟨a2, g2, r2⟩ := arr_k (ty := .long) (hts _ (lt_in 0 rfl)) (fun _ h => h)
  have hK : va_K D vwCl [(a0, .int), (a1, .boolean), (a2, .long)] s := by
    refine ⟨hKc, fun k q hq => ?_⟩
    match k, hq with
    | 0, hq => cases hq; exact ⟨g0, r0⟩
    | 1, hq => cases hq; exact ⟨g1, r1⟩
    | 2, hq => cases hq; exact ⟨g2, r2⟩
    | k + 3, hq => simp at hq
  have harr : (Cond.arrayOf (.static RX0 "FACTORS" "[I") .int).before #[Value.ref b] s = true := hs _ (by decide +kernel)
  have hlen : (Cond.eq (.length (.static RX0 "FACTORS" "[I")) (.int 11)).before #[Value.ref b] s = true := hs _ (by decide +kernel)
  have e0 : (Cond.eq (.elem (.static RX0 "FACTORS" "[I") (.int 0)) (.int 0)).before #[Value.ref b] s = true := hs _ (by decide +kernel)
  have e1 : (Cond.eq (.elem (.static RX0 "FACTORS" "[I") (.int 1)) (.int 120)).before #[Value.ref b] s = true := hs _ (by decide +kernel)
  have e2 : (Cond.eq (.elem (.static RX0 "FACTORS" "[I") (.int 2)) (.int 280)).before #[Value.ref b] s = true := hs _ (by decide +kernel)
  have e3 : (Cond.eq (.elem (.static RX0 "FACTORS" "[I") (.int 3)) (.int 490)).before #[Value.ref b] s = true := hs _ (by decide +kernel)
  have e4 : (Cond.eq (.elem (.static RX0 "FACTORS" "[I") (.int 4)) (.int 730)).before #[Value.ref b] s = true := hs _ (by decide +kernel)
  have e5 : (Cond.eq (.elem (.static RX0 "FACTORS" "[I") (.int 5)) (.int 1000)).before #[Value.ref b] s = true := hs _ (by decide +kernel)
  have e6 : (Cond.eq (.elem (.static RX0 "FACTORS" "[I") (.int 6)) (.int 1290)).before #[Value.ref b] s = true := hs _ (by decide +kernel)
  have e7 : (Cond.eq (.elem (.static RX0 "FACTORS" "[I") (.int 7)) (.int 1600)).before #[Value.ref b] s = true := hs _ (by decide +kernel)
  have e8 : (Cond.eq (.elem (.static RX0 "FACTORS" "[I") (.int 8)) (.int 1930)).before #[Value.ref b] s = true := hs _ (by decide +kernel)
  have e9 : (Cond.eq (.elem (.static RX0 "FACTORS" "[I") (.int 9)) (.int 2280)).before #[Value.ref b] s = true := hs _ (by decide +kernel)
  have e10 : (Cond.eq (.elem (.static RX0 "FACTORS" "[I") (.int 10)) (.int 2650)).before #[Value.ref b] s = true := hs _ (by decide +kernel)
  obtain ⟨t, ht, hT⟩ := va_Tof (ty := .int) (N := 11) (f := fun j => .int (fcv j)) (A := Ar s.heap.size) (by decide) harr (va_eqt hlen) (fun j hj => by
    rcases (show j = 0 ∨ j = 1 ∨ j = 2 ∨ j = 3 ∨ j = 4 ∨ j = 5 ∨ j = 6 ∨ j = 7 ∨ j = 8 ∨ j = 9 ∨ j = 10 by omega) with rfl | rfl | rfl | rfl | rfl | rfl | rfl | rfl | rfl | rfl | rfl
    · exact va_eqt e0
    · exact va_eqt e1
    · exact va_eqt e2
    · exact va_eqt e3
    · exact va_eqt e4
    · exact va_eqt e5
    · exact va_eqt e6
    · exact va_eqt e7
    · exact va_eqt e8
    · exact va_eqt e9
    · exact va_eqt e10) hA
  have hst : ∀ k : Nat, (Cond.exactly (.string RX0 k) "java/lang/String").before #[Value.ref b] s = true → ∃ sa : Nat, (Term.string RX0 k).eval #[Value.ref b] s none [] s = some (.ref sa) := by
    intro k h
    obtain ⟨a, c, cA, kA, q1, -⟩ := Cond.exactly_spec h
    exact ⟨a, q1⟩
  have hsr : ∀ q ∈ SLs, ∃ sa, vk_R RX0 q.2.1 q.2.2.2.2 sa s := by
    intro q hq
    have h1 : (srW q).before #[Value.ref b] s = true := hts _ (at_tbl p_sr hq)
    have h2 : (Cond.exactly (.string RX0 q.2.1) "java/lang/String").before #[Value.ref b] s = true := by
      simp only [SLs, List.mem_cons, List.not_mem_nil, or_false] at hq
      rcases hq with rfl | rfl | rfl | rfl | rfl | rfl | rfl | rfl | rfl | rfl | rfl | rfl <;> exact hs _ (by decide +kernel)
    obtain ⟨sa, h3⟩ := hst _ h2
    exact ⟨sa, vk_R.of h1 h3⟩
  have hz1 : (Cond.isRef (.static Bundle.tN "UNASSIGNED_STACK" Bundle.steD)).before #[Value.ref b] s = true := hs _ (by decide +kernel)
  have hz2 : (Cond.isRef (.static Bundle.tN "SUPPRESSED_SENTINEL" Bundle.listD)).before #[Value.ref b] s = true := hs _ (by decide +kernel)
  have n01 : (Cond.not (.castable (exN 0) (exN 1))).before #[Value.ref b] s = true := hs _ (by decide +kernel)
  have n02 : (Cond.not (.castable (exN 0) (exN 2))).before #[Value.ref b] s = true := hs _ (by decide +kernel)
  have n10 : (Cond.not (.castable (exN 1) (exN 0))).before #[Value.ref b] s = true := hs _ (by decide +kernel)
  have n12 : (Cond.not (.castable (exN 1) (exN 2))).before #[Value.ref b] s = true := hs _ (by decide +kernel)
  have n20 : (Cond.not (.castable (exN 2) (exN 0))).before #[Value.ref b] s = true := hs _ (by decide +kernel)
  have n21 : (Cond.not (.castable (exN 2) (exN 1))).before #[Value.ref b] s = true := hs _ (by decide +kernel)
  refine ⟨D, fun i => if i = 0 then a0 else if i = 1 then a1 else a2, t, hK, va_Zof (hts _ (ev_in 0 rfl)) (hts _ (ev_in 4 rfl)) ht hA, hT, vx_Zqof (hts _ (ev_in 1 rfl)) (hts _ (ev_in 3 rfl)) hz1 hA, vx_Zqof (hts _ (ev_in 2 rfl)) (hts _ (ev_in 3 rfl)) hz2 hA, hX, hbl, hsr, ?_, ?_, ?_⟩
  · intro x hx
    simp only [bwN, List.mem_cons, List.not_mem_nil, or_false] at hx
    rcases hx with rfl | rfl | rfl
    · exact va_Nw.of rfl (hts _ (ev_in 8 rfl))
    · exact va_Nw.of rfl (hts _ (ev_in 9 rfl))
    · exact va_Nw.of rfl (hts _ (ev_in 10 rfl))
  · intro e he
    rcases (show e = 0 ∨ e = 1 ∨ e = 2 by omega) with rfl | rfl | rfl
    · exact va_Nw.of rfl (hts _ (ev_in 5 rfl))
    · exact va_Nw.of rfl (hts _ (ev_in 6 rfl))
    · exact va_Nw.of rfl (hts _ (ev_in 7 rfl))
  · intro e f he hf hef
    rcases (show (e = 0 ∧ f = 1) ∨ (e = 0 ∧ f = 2) ∨ (e = 1 ∧ f = 0) ∨ (e = 1 ∧ f = 2) ∨ (e = 2 ∧ f = 0) ∨ (e = 2 ∧ f = 1) by omega) with ⟨rfl, rfl⟩ | ⟨rfl, rfl⟩ | ⟨rfl, rfl⟩ | ⟨rfl, rfl⟩ | ⟨rfl, rfl⟩ | ⟨rfl, rfl⟩
    · exact va_Nc.of n01
    · exact va_Nc.of n02
    · exact va_Nc.of n10
    · exact va_Nc.of n12
    · exact va_Nc.of n20
    · exact va_Nc.of n21
def S0 : PS := (fun _ k => match k with
  | 0 => 1
  | _ => 0, fun i => match i with
  | 1 => (upd (fun _ => (0 : Int32)) 0 1)
  | 13 => (upd (fun _ => (0 : Int32)) 0 (-1))
  | 16 => (upd (fun _ => (0 : Int32)) 0 (-1))
  | 19 => (upd (upd (upd (upd (upd (upd (upd (upd (upd (upd (fun _ => (0 : Int32)) 1 120) 2 280) 3 490) 4 730) 5 1000) 6 1290) 7 1600) 8 1930) 9 2280) 10 2650)
  | _ => (fun _ => (0 : Int32)), fun _ => (0 : Int64))
theorem J_0 : J S0 1 0 0 := by
  refine ⟨⟨rfl, by decide, rfl, by decide, fun k _ => Or.inr ⟨0, by decide, rfl⟩⟩, ⟨rfl, by decide, rfl⟩, ⟨⟨rfl, by decide, by decide, rfl, by decide⟩, ⟨by decide, fun k h0 h1 => absurd h1 (by omega)⟩, ⟨rfl, rfl, ?_, ?_, fun k _ => Or.inr ⟨0, by decide, rfl⟩⟩, ⟨rfl, rfl, rfl, rfl, rfl⟩, ⟨fun k hk => (bi_f (hs_0 (by omega))).symm, hs_0 (by decide)⟩, fun k hk => (bi_f (hs_0 (by omega))).symm⟩, fun k hk => (bi_f (hs_0 (by omega))).symm, ⟨fun a h => absurd h (by omega), fun a _ _ => rfl⟩, fun b h => absurd h (by omega), fun b h => absurd h (by omega)⟩
  · intro k h0 _
    exact if_neg (by omega)
  · intro j hj
    rcases (show j = 0 ∨ j = 1 ∨ j = 2 ∨ j = 3 ∨ j = 4 ∨ j = 5 ∨ j = 6 ∨ j = 7 ∨ j = 8 ∨ j = 9 ∨ j = 10 by omega) with rfl | rfl | rfl | rfl | rfl | rfl | rfl | rfl | rfl | rfl | rfl <;> decide
theorem JJ_0 : JJ S0 := ⟨1, 0, 0, J_0⟩
