abbrev hsv (x v : Int32) : Prop := ¬ x &&& (nI 1 <<< (v &&& 31)) = 0
abbrev okR (x lo hi : Int32) : Prop := ¬ x < lo ∧ x ≤ hi
abbrev noR (x lo hi : Int32) : Prop := x < lo ∨ ¬ x ≤ hi
abbrev noN (x c : Int32) : Prop := x < 0 ∨ ¬ x < c
theorem nI_okn {j n : Nat} (h : j < n) (hn : n ≤ 100) : ¬ nI j < 0 ∧ nI j < nI n := ⟨nI_pos (by omega), nI_lt h (by omega)⟩
theorem nI_okp {j n : Nat} (h0 : 0 < j) (h : j < n) (hn : n ≤ 100) : ¬ nI j ≤ 0 ∧ nI j < nI n := ⟨nI_nle h0 (by omega), nI_lt h (by omega)⟩
theorem x_addNode_0 (S : PS) (on use : Int32) (h : noR use (nI 0) (nI 10000)) : Run 1 1 [.ref 0, .int on, .int use] S (.inr 0) S := by
  refine run_of (by decide +kernel) rfl (fun G hG => ?_)
  repeat (refine hG.1 _ _ _ _ _ _ rfl ?_)
  refine cx (r_needRange_x S _ _ _ h) rfl ?_
  exact And.intro rfl (And.intro rfl (And.intro rfl rfl))
theorem x_setBackground_0 (S : PS) (x amt : Int32) (h : noR amt (nI 0) (nI 10000)) : Run 1 2 [.ref 0, .int x, .int amt] S (.inr 0) S := by
  refine run_of (by decide +kernel) rfl (fun G hG => ?_)
  repeat (refine hG.1 _ _ _ _ _ _ rfl ?_)
  refine cx (r_needRange_x S _ _ _ h) rfl ?_
  exact And.intro rfl (And.intro rfl (And.intro rfl rfl))
theorem x_setPressure_0 (S : PS) (x v : Int32) (h : noR v (-1) (nI 100)) : Run 1 3 [.ref 0, .int x, .int v] S (.inr 0) S := by
  refine run_of (by decide +kernel) rfl (fun G hG => ?_)
  repeat (refine hG.1 _ _ _ _ _ _ rfl ?_)
  refine cx (r_needRange_x S _ _ _ h) rfl ?_
  exact And.intro rfl (And.intro rfl (And.intro rfl rfl))
theorem x_setPressure_1 (S : PS) (x v : Int32) (h : okR v (-1) (nI 100)) (h1 : x ≤ 0 ∨ ¬ x < S.1 0 0) : Run 1 3 [.ref 0, .int x, .int v] S (.inr 1) S := by
  refine run_of (by decide +kernel) rfl (fun G hG => ?_)
  repeat (refine hG.1 _ _ _ _ _ _ rfl ?_)
  refine cx (r_needRange S _ _ _ h.1 h.2) rfl ?_
  repeat (refine hG.1 _ _ _ _ _ _ rfl ?_)
  refine And.intro rfl (cx (r_needPipe_x S _ h1) rfl ?_)
  exact And.intro rfl (And.intro rfl (And.intro rfl rfl))
theorem x_addMeter_0 (S : PS) (x : Int32) (h1 : x ≤ 0 ∨ ¬ x < S.1 0 0) : Run 1 4 [.ref 0, .int x] S (.inr 1) S := by
  refine run_of (by decide +kernel) rfl (fun G hG => ?_)
  repeat (refine hG.1 _ _ _ _ _ _ rfl ?_)
  refine And.intro rfl (cx (r_needPipe_x S _ h1) rfl ?_)
  exact And.intro rfl (And.intro rfl (And.intro rfl rfl))
theorem x_toggleValve_0 (S : PS) (x : Int32) (h1 : x ≤ 0 ∨ ¬ x < S.1 0 0) : Run 1 5 [.ref 0, .int x] S (.inr 1) S := by
  refine run_of (by decide +kernel) rfl (fun G hG => ?_)
  repeat (refine hG.1 _ _ _ _ _ _ rfl ?_)
  refine And.intro rfl (cx (r_needPipe_x S _ h1) rfl ?_)
  exact And.intro rfl (And.intro rfl (And.intro rfl rfl))
theorem x_isSupplied_0 (S : PS) (x : Int32) (h1 : noN x (S.1 0 0)) : Run 1 6 [.ref 0, .int x] S (.inr 1) S := by
  refine run_of (by decide +kernel) rfl (fun G hG => ?_)
  repeat (refine hG.1 _ _ _ _ _ _ rfl ?_)
  refine And.intro rfl (cx (r_needNode_x S _ h1) rfl ?_)
  exact And.intro rfl (And.intro rfl (And.intro rfl rfl))
theorem x_isSupplied (S : PS) (j n : Nat) (hn : S.1 0 0 = nI n) (hn16 : n ≤ 16) (hj : j < n) : Run 0 6 [.ref 0, .int (nI j)] S (.inl (some (bi (S.2.1 1 j &&& S.1 0 6 = 0)))) S := by
  have hk := nI_okn hj (by omega)
  refine run_of (by decide +kernel) rfl (fun G hG => ?_)
  repeat (refine hG.1 _ _ _ _ _ _ rfl ?_)
  refine And.intro rfl (cx (r_needNode S _ hk.1 (by rw [hn]; exact hk.2)) rfl ?_)
  repeat (refine hG.1 _ _ _ _ _ _ rfl ?_)
  refine And.intro rfl (cx (r_isOpenTo S _ _ (vp_in_nI (show j < 16 by omega) (by decide))) rfl ?_)
  rw [nI_clamp (show j < 2 ^ 31 by omega)]
  repeat (refine hG.1 _ _ _ _ _ _ rfl ?_)
  exact And.intro bi_nrw (And.intro rfl (And.intro rfl rfl))
theorem x_takes_0 (S : PS) (x : Int32) (h1 : noN x (S.1 0 0)) : Run 1 7 [.ref 0, .int x] S (.inr 1) S := by
  refine run_of (by decide +kernel) rfl (fun G hG => ?_)
  repeat (refine hG.1 _ _ _ _ _ _ rfl ?_)
  refine And.intro rfl (cx (r_needNode_x S _ h1) rfl ?_)
  exact And.intro rfl (And.intro rfl (And.intro rfl rfl))
theorem x_takes (S : PS) (j n nb : Nat) (hX : Xn S n nb) (hj : j < n) : Run 0 7 [.ref 0, .int (nI j)] S (.inl (some (tknX S.2.1 nb (S.1 0 14) (S.1 0 6) j))) S := by
  have hn := hX.2.1
  have hk := nI_okn hj (by omega)
  refine run_of (by decide +kernel) rfl (fun G hG => ?_)
  repeat (refine hG.1 _ _ _ _ _ _ rfl ?_)
  refine And.intro rfl (cx (r_needNode S _ hk.1 (by rw [hX.1]; exact hk.2)) rfl ?_)
  repeat (refine hG.1 _ _ _ _ _ _ rfl ?_)
  refine And.intro rfl (cx (r_takenAt S j n nb _ (by omega) hX) rfl ?_)
  repeat (refine hG.1 _ _ _ _ _ _ rfl ?_)
  exact And.intro rfl (And.intro rfl (And.intro rfl rfl))
theorem x_flow_0 (S : PS) (x : Int32) (h1 : x ≤ 0 ∨ ¬ x < S.1 0 0) : Run 1 8 [.ref 0, .int x] S (.inr 1) S := by
  refine run_of (by decide +kernel) rfl (fun G hG => ?_)
  repeat (refine hG.1 _ _ _ _ _ _ rfl ?_)
  refine And.intro rfl (cx (r_needPipe_x S _ h1) rfl ?_)
  exact And.intro rfl (And.intro rfl (And.intro rfl rfl))
abbrev flX (A : Nat → Nat → Int32) (n nb : Nat) (rp sh top : Int32) : Int32 := smL (fun k => decide (hsv (A 1 k) top)) (tknX A nb rp sh) n
theorem x_allFlow (S : PS) (n nb : Nat) (hX : Xn S n nb) : Run 0 9 [.ref 0] S (.inl (some (flX S.2.1 n nb (S.1 0 14) (S.1 0 6) (nI 0)))) S := by
  refine run_of (by decide +kernel) rfl (fun G hG => ?_)
  repeat (refine hG.1 _ _ _ _ _ _ rfl ?_)
  refine And.intro rfl (cx (r_flowTo S n nb _ hX) rfl ?_)
  repeat (refine hG.1 _ _ _ _ _ _ rfl ?_)
  exact And.intro rfl (And.intro rfl (And.intro rfl rfl))
theorem x_addArea_0 (S : PS) (x : Int32) (h1 : noN x (S.1 0 0)) : Run 1 10 [.ref 0, .int x] S (.inr 1) S := by
  refine run_of (by decide +kernel) rfl (fun G hG => ?_)
  repeat (refine hG.1 _ _ _ _ _ _ rfl ?_)
  refine And.intro rfl (cx (r_needNode_x S _ h1) rfl ?_)
  exact And.intro rfl (And.intro rfl (And.intro rfl rfl))
theorem x_addExport_0 (S : PS) (x y : Int32) (h1 : noN x (S.1 0 7)) : Run 1 11 [.ref 0, .int x, .int y] S (.inr 1) S := by
  refine run_of (by decide +kernel) rfl (fun G hG => ?_)
  repeat (refine hG.1 _ _ _ _ _ _ rfl ?_)
  refine And.intro rfl (cx (r_needArea_x S _ h1) rfl ?_)
  exact And.intro rfl (And.intro rfl (And.intro rfl rfl))
theorem x_nodes_0 (S : PS) (x : Int32) (h1 : noN x (S.1 0 7)) : Run 1 12 [.ref 0, .int x] S (.inr 1) S := by
  refine run_of (by decide +kernel) rfl (fun G hG => ?_)
  repeat (refine hG.1 _ _ _ _ _ _ rfl ?_)
  refine And.intro rfl (cx (r_needArea_x S _ h1) rfl ?_)
  exact And.intro rfl (And.intro rfl (And.intro rfl rfl))
theorem x_areaFlow_0 (S : PS) (x : Int32) (h1 : noN x (S.1 0 7)) : Run 1 13 [.ref 0, .int x] S (.inr 1) S := by
  refine run_of (by decide +kernel) rfl (fun G hG => ?_)
  repeat (refine hG.1 _ _ _ _ _ _ rfl ?_)
  refine And.intro rfl (cx (r_needArea_x S _ h1) rfl ?_)
  exact And.intro rfl (And.intro rfl (And.intro rfl rfl))
theorem x_areaTakes_0 (S : PS) (x : Int32) (h1 : noN x (S.1 0 7)) : Run 1 14 [.ref 0, .int x] S (.inr 1) S := by
  refine run_of (by decide +kernel) rfl (fun G hG => ?_)
  repeat (refine hG.1 _ _ _ _ _ _ rfl ?_)
  refine And.intro rfl (cx (r_needArea_x S _ h1) rfl ?_)
  exact And.intro rfl (And.intro rfl (And.intro rfl rfl))
theorem x_loss_0 (S : PS) (x : Int32) (h1 : noN x (S.1 0 7)) : Run 1 15 [.ref 0, .int x] S (.inr 1) S := by
  refine run_of (by decide +kernel) rfl (fun G hG => ?_)
  repeat (refine hG.1 _ _ _ _ _ _ rfl ?_)
  refine And.intro rfl (cx (r_needArea_x S _ h1) rfl ?_)
  exact And.intro rfl (And.intro rfl (And.intro rfl rfl))
theorem x_steps_0 (S : PS) (x : Int32) (h1 : noN x (S.1 0 7)) : Run 1 16 [.ref 0, .int x] S (.inr 1) S := by
  refine run_of (by decide +kernel) rfl (fun G hG => ?_)
  repeat (refine hG.1 _ _ _ _ _ _ rfl ?_)
  refine And.intro rfl (cx (r_needArea_x S _ h1) rfl ?_)
  exact And.intro rfl (And.intro rfl (And.intro rfl rfl))
theorem x_burst_0a (S : PS) (x y z : Int32) (h : noR y (nI 1) (nI 10000)) : Run 1 19 [.ref 0, .int x, .int y, .int z] S (.inr 0) S := by
  refine run_of (by decide +kernel) rfl (fun G hG => ?_)
  repeat (refine hG.1 _ _ _ _ _ _ rfl ?_)
  refine cx (r_needRange_x S _ _ _ h) rfl ?_
  exact And.intro rfl (And.intro rfl (And.intro rfl rfl))
theorem x_repair_0 (S : PS) (x : Int32) (h1 : noN x (S.1 0 10)) : Run 1 20 [.ref 0, .int x] S (.inr 1) S := by
  refine run_of (by decide +kernel) rfl (fun G hG => ?_)
  repeat (refine hG.1 _ _ _ _ _ _ rfl ?_)
  refine And.intro rfl (cx (r_needBurst_x S _ h1) rfl ?_)
  exact And.intro rfl (And.intro rfl (And.intro rfl rfl))
theorem x_cost_0 (S : PS) (x : Int32) (h1 : noN x (S.1 0 10)) : Run 1 21 [.ref 0, .int x] S (.inr 1) S := by
  refine run_of (by decide +kernel) rfl (fun G hG => ?_)
  repeat (refine hG.1 _ _ _ _ _ _ rfl ?_)
  refine And.intro rfl (cx (r_needBurst_x S _ h1) rfl ?_)
  exact And.intro rfl (And.intro rfl (And.intro rfl rfl))
theorem x_plan_0 (S : PS) (y : Int32) (h : noR y (nI 0) (nI 1000)) : Run 1 23 [.ref 0, .int y] S (.inr 0) S := by
  refine run_of (by decide +kernel) rfl (fun G hG => ?_)
  repeat (refine hG.1 _ _ _ _ _ _ rfl ?_)
  refine cx (r_needRange_x S _ _ _ h) rfl ?_
  exact And.intro rfl (And.intro rfl (And.intro rfl rfl))
