abbrev outS (S : PS) (v : Int64) : PS := (S.1, S.2.1, vp_updL S.2.2 0 v)
abbrev zl (r : Int32) : Int64 := if r = 0 then Int64.ofNat 0 else Int64.ofNat 1
theorem w_addNode (S S' : PS) (x y r : Int32) (h : Run 0 1 [.ref 0, .int x, .int y] S (.inl (some r)) S') : Run 0 98 [.ref 0, .int x, .int y, .ref 26] S (.inl (some (nI 0))) (outS S' (r.toInt64)) := by
  refine run_of (by decide +kernel) rfl (fun L xs G hG => ?_)
  repeat (refine hG.1 _ _ _ _ _ _ rfl ?_)
  refine And.intro rfl (cx (h) rfl ?_)
  repeat (refine hG.1 _ _ _ _ _ _ rfl ?_)
  refine And.intro (vp_in_nI ((show 0 < 1 by omega)) (by decide)) ?_; rw [nI_clamp (Nat.lt_trans ((show 0 < 1 by omega)) (by decide))]
  repeat (refine hG.1 _ _ _ _ _ _ rfl ?_)
  exact And.intro rfl (And.intro rfl rfl)
theorem w_addNode_0 (S S' : PS) (x y : Int32) (h : Run 1 1 [.ref 0, .int x, .int y] S (.inr 0) S') : Run 1 98 [.ref 0, .int x, .int y, .ref 26] S (.inl (some (nI 1))) S' := by
  refine run_of (by decide +kernel) rfl (fun L xs G hG => ?_)
  repeat (refine hG.1 _ _ _ _ _ _ rfl ?_)
  refine And.intro rfl (cx (h) rfl ?_)
  repeat (refine hG.1 _ _ _ _ _ _ rfl ?_)
  exact And.intro rfl (And.intro rfl rfl)
theorem w_addNode_1 (S S' : PS) (x y : Int32) (h : Run 1 1 [.ref 0, .int x, .int y] S (.inr 1) S') : Run 1 98 [.ref 0, .int x, .int y, .ref 26] S (.inl (some (nI 2))) S' := by
  refine run_of (by decide +kernel) rfl (fun L xs G hG => ?_)
  repeat (refine hG.1 _ _ _ _ _ _ rfl ?_)
  refine And.intro rfl (cx (h) rfl ?_)
  repeat (refine hG.1 _ _ _ _ _ _ rfl ?_)
  exact And.intro rfl (And.intro rfl rfl)
theorem w_addNode_2 (S S' : PS) (x y : Int32) (h : Run 1 1 [.ref 0, .int x, .int y] S (.inr 2) S') : Run 1 98 [.ref 0, .int x, .int y, .ref 26] S (.inl (some (nI 3))) S' := by
  refine run_of (by decide +kernel) rfl (fun L xs G hG => ?_)
  repeat (refine hG.1 _ _ _ _ _ _ rfl ?_)
  refine And.intro rfl (cx (h) rfl ?_)
  repeat (refine hG.1 _ _ _ _ _ _ rfl ?_)
  exact And.intro rfl (And.intro rfl rfl)
theorem w_setBackground (S S' : PS) (x y r : Int32) (h : Run 0 2 [.ref 0, .int x, .int y] S (.inl (some r)) S') : Run 0 99 [.ref 0, .int x, .int y, .ref 26] S (.inl (some (nI 0))) (outS S' (r.toInt64)) := by
  refine run_of (by decide +kernel) rfl (fun L xs G hG => ?_)
  repeat (refine hG.1 _ _ _ _ _ _ rfl ?_)
  refine And.intro rfl (cx (h) rfl ?_)
  repeat (refine hG.1 _ _ _ _ _ _ rfl ?_)
  refine And.intro (vp_in_nI ((show 0 < 1 by omega)) (by decide)) ?_; rw [nI_clamp (Nat.lt_trans ((show 0 < 1 by omega)) (by decide))]
  repeat (refine hG.1 _ _ _ _ _ _ rfl ?_)
  exact And.intro rfl (And.intro rfl rfl)
theorem w_setBackground_0 (S S' : PS) (x y : Int32) (h : Run 1 2 [.ref 0, .int x, .int y] S (.inr 0) S') : Run 1 99 [.ref 0, .int x, .int y, .ref 26] S (.inl (some (nI 1))) S' := by
  refine run_of (by decide +kernel) rfl (fun L xs G hG => ?_)
  repeat (refine hG.1 _ _ _ _ _ _ rfl ?_)
  refine And.intro rfl (cx (h) rfl ?_)
  repeat (refine hG.1 _ _ _ _ _ _ rfl ?_)
  exact And.intro rfl (And.intro rfl rfl)
theorem w_setBackground_1 (S S' : PS) (x y : Int32) (h : Run 1 2 [.ref 0, .int x, .int y] S (.inr 1) S') : Run 1 99 [.ref 0, .int x, .int y, .ref 26] S (.inl (some (nI 2))) S' := by
  refine run_of (by decide +kernel) rfl (fun L xs G hG => ?_)
  repeat (refine hG.1 _ _ _ _ _ _ rfl ?_)
  refine And.intro rfl (cx (h) rfl ?_)
  repeat (refine hG.1 _ _ _ _ _ _ rfl ?_)
  exact And.intro rfl (And.intro rfl rfl)
theorem w_setPressure (S S' : PS) (x y r : Int32) (h : Run 0 3 [.ref 0, .int x, .int y] S (.inl (some r)) S') : Run 0 100 [.ref 0, .int x, .int y, .ref 26] S (.inl (some (nI 0))) (outS S' (r.toInt64)) := by
  refine run_of (by decide +kernel) rfl (fun L xs G hG => ?_)
  repeat (refine hG.1 _ _ _ _ _ _ rfl ?_)
  refine And.intro rfl (cx (h) rfl ?_)
  repeat (refine hG.1 _ _ _ _ _ _ rfl ?_)
  refine And.intro (vp_in_nI ((show 0 < 1 by omega)) (by decide)) ?_; rw [nI_clamp (Nat.lt_trans ((show 0 < 1 by omega)) (by decide))]
  repeat (refine hG.1 _ _ _ _ _ _ rfl ?_)
  exact And.intro rfl (And.intro rfl rfl)
theorem w_setPressure_0 (S S' : PS) (x y : Int32) (h : Run 1 3 [.ref 0, .int x, .int y] S (.inr 0) S') : Run 1 100 [.ref 0, .int x, .int y, .ref 26] S (.inl (some (nI 1))) S' := by
  refine run_of (by decide +kernel) rfl (fun L xs G hG => ?_)
  repeat (refine hG.1 _ _ _ _ _ _ rfl ?_)
  refine And.intro rfl (cx (h) rfl ?_)
  repeat (refine hG.1 _ _ _ _ _ _ rfl ?_)
  exact And.intro rfl (And.intro rfl rfl)
theorem w_setPressure_1 (S S' : PS) (x y : Int32) (h : Run 1 3 [.ref 0, .int x, .int y] S (.inr 1) S') : Run 1 100 [.ref 0, .int x, .int y, .ref 26] S (.inl (some (nI 2))) S' := by
  refine run_of (by decide +kernel) rfl (fun L xs G hG => ?_)
  repeat (refine hG.1 _ _ _ _ _ _ rfl ?_)
  refine And.intro rfl (cx (h) rfl ?_)
  repeat (refine hG.1 _ _ _ _ _ _ rfl ?_)
  exact And.intro rfl (And.intro rfl rfl)
theorem w_addMeter (S S' : PS) (x r : Int32) (h : Run 0 4 [.ref 0, .int x] S (.inl (some r)) S') : Run 0 101 [.ref 0, .int x, .ref 26] S (.inl (some (nI 0))) (outS S' (zl r)) := by
  refine run_of (by decide +kernel) rfl (fun L xs G hG => ?_)
  repeat (refine hG.1 _ _ _ _ _ _ rfl ?_)
  refine And.intro rfl (cx (h) rfl ?_)
  repeat (refine hG.1 _ _ _ _ _ _ rfl ?_)
  refine And.intro (fun h1 => ?_) (fun h1 => ?_)
  · repeat (refine hG.1 _ _ _ _ _ _ rfl ?_)
    refine And.intro (vp_in_nI ((show 0 < 1 by omega)) (by decide)) ?_; rw [nI_clamp (Nat.lt_trans ((show 0 < 1 by omega)) (by decide))]
    repeat (refine hG.1 _ _ _ _ _ _ rfl ?_)
    rw [zl, if_pos h1]
    exact And.intro rfl (And.intro rfl rfl)
  · repeat (refine hG.1 _ _ _ _ _ _ rfl ?_)
    refine And.intro (vp_in_nI ((show 0 < 1 by omega)) (by decide)) ?_; rw [nI_clamp (Nat.lt_trans ((show 0 < 1 by omega)) (by decide))]
    repeat (refine hG.1 _ _ _ _ _ _ rfl ?_)
    rw [zl, if_neg h1]
    exact And.intro rfl (And.intro rfl rfl)
theorem w_addMeter_1 (S S' : PS) (x : Int32) (h : Run 1 4 [.ref 0, .int x] S (.inr 1) S') : Run 1 101 [.ref 0, .int x, .ref 26] S (.inl (some (nI 1))) S' := by
  refine run_of (by decide +kernel) rfl (fun L xs G hG => ?_)
  repeat (refine hG.1 _ _ _ _ _ _ rfl ?_)
  refine And.intro rfl (cx (h) rfl ?_)
  repeat (refine hG.1 _ _ _ _ _ _ rfl ?_)
  exact And.intro rfl (And.intro rfl rfl)
theorem w_toggleValve (S S' : PS) (x r : Int32) (h : Run 0 5 [.ref 0, .int x] S (.inl (some r)) S') : Run 0 102 [.ref 0, .int x, .ref 26] S (.inl (some (nI 0))) (outS S' (zl r)) := by
  refine run_of (by decide +kernel) rfl (fun L xs G hG => ?_)
  repeat (refine hG.1 _ _ _ _ _ _ rfl ?_)
  refine And.intro rfl (cx (h) rfl ?_)
  repeat (refine hG.1 _ _ _ _ _ _ rfl ?_)
  refine And.intro (fun h1 => ?_) (fun h1 => ?_)
  · repeat (refine hG.1 _ _ _ _ _ _ rfl ?_)
    refine And.intro (vp_in_nI ((show 0 < 1 by omega)) (by decide)) ?_; rw [nI_clamp (Nat.lt_trans ((show 0 < 1 by omega)) (by decide))]
    repeat (refine hG.1 _ _ _ _ _ _ rfl ?_)
    rw [zl, if_pos h1]
    exact And.intro rfl (And.intro rfl rfl)
  · repeat (refine hG.1 _ _ _ _ _ _ rfl ?_)
    refine And.intro (vp_in_nI ((show 0 < 1 by omega)) (by decide)) ?_; rw [nI_clamp (Nat.lt_trans ((show 0 < 1 by omega)) (by decide))]
    repeat (refine hG.1 _ _ _ _ _ _ rfl ?_)
    rw [zl, if_neg h1]
    exact And.intro rfl (And.intro rfl rfl)
theorem w_toggleValve_1 (S S' : PS) (x : Int32) (h : Run 1 5 [.ref 0, .int x] S (.inr 1) S') : Run 1 102 [.ref 0, .int x, .ref 26] S (.inl (some (nI 1))) S' := by
  refine run_of (by decide +kernel) rfl (fun L xs G hG => ?_)
  repeat (refine hG.1 _ _ _ _ _ _ rfl ?_)
  refine And.intro rfl (cx (h) rfl ?_)
  repeat (refine hG.1 _ _ _ _ _ _ rfl ?_)
  exact And.intro rfl (And.intro rfl rfl)
theorem w_isSupplied (S S' : PS) (x r : Int32) (h : Run 0 6 [.ref 0, .int x] S (.inl (some r)) S') : Run 0 103 [.ref 0, .int x, .ref 26] S (.inl (some (nI 0))) (outS S' (zl r)) := by
  refine run_of (by decide +kernel) rfl (fun L xs G hG => ?_)
  repeat (refine hG.1 _ _ _ _ _ _ rfl ?_)
  refine And.intro rfl (cx (h) rfl ?_)
  repeat (refine hG.1 _ _ _ _ _ _ rfl ?_)
  refine And.intro (fun h1 => ?_) (fun h1 => ?_)
  · repeat (refine hG.1 _ _ _ _ _ _ rfl ?_)
    refine And.intro (vp_in_nI ((show 0 < 1 by omega)) (by decide)) ?_; rw [nI_clamp (Nat.lt_trans ((show 0 < 1 by omega)) (by decide))]
    repeat (refine hG.1 _ _ _ _ _ _ rfl ?_)
    rw [zl, if_pos h1]
    exact And.intro rfl (And.intro rfl rfl)
  · repeat (refine hG.1 _ _ _ _ _ _ rfl ?_)
    refine And.intro (vp_in_nI ((show 0 < 1 by omega)) (by decide)) ?_; rw [nI_clamp (Nat.lt_trans ((show 0 < 1 by omega)) (by decide))]
    repeat (refine hG.1 _ _ _ _ _ _ rfl ?_)
    rw [zl, if_neg h1]
    exact And.intro rfl (And.intro rfl rfl)
theorem w_isSupplied_1 (S S' : PS) (x : Int32) (h : Run 1 6 [.ref 0, .int x] S (.inr 1) S') : Run 1 103 [.ref 0, .int x, .ref 26] S (.inl (some (nI 1))) S' := by
  refine run_of (by decide +kernel) rfl (fun L xs G hG => ?_)
  repeat (refine hG.1 _ _ _ _ _ _ rfl ?_)
  refine And.intro rfl (cx (h) rfl ?_)
  repeat (refine hG.1 _ _ _ _ _ _ rfl ?_)
  exact And.intro rfl (And.intro rfl rfl)
theorem w_takes (S S' : PS) (x r : Int32) (h : Run 0 7 [.ref 0, .int x] S (.inl (some r)) S') : Run 0 104 [.ref 0, .int x, .ref 26] S (.inl (some (nI 0))) (outS S' (r.toInt64)) := by
  refine run_of (by decide +kernel) rfl (fun L xs G hG => ?_)
  repeat (refine hG.1 _ _ _ _ _ _ rfl ?_)
  refine And.intro rfl (cx (h) rfl ?_)
  repeat (refine hG.1 _ _ _ _ _ _ rfl ?_)
  refine And.intro (vp_in_nI ((show 0 < 1 by omega)) (by decide)) ?_; rw [nI_clamp (Nat.lt_trans ((show 0 < 1 by omega)) (by decide))]
  repeat (refine hG.1 _ _ _ _ _ _ rfl ?_)
  exact And.intro rfl (And.intro rfl rfl)
theorem w_takes_1 (S S' : PS) (x : Int32) (h : Run 1 7 [.ref 0, .int x] S (.inr 1) S') : Run 1 104 [.ref 0, .int x, .ref 26] S (.inl (some (nI 1))) S' := by
  refine run_of (by decide +kernel) rfl (fun L xs G hG => ?_)
  repeat (refine hG.1 _ _ _ _ _ _ rfl ?_)
  refine And.intro rfl (cx (h) rfl ?_)
  repeat (refine hG.1 _ _ _ _ _ _ rfl ?_)
  exact And.intro rfl (And.intro rfl rfl)
theorem w_flow (S S' : PS) (x r : Int32) (h : Run 0 8 [.ref 0, .int x] S (.inl (some r)) S') : Run 0 105 [.ref 0, .int x, .ref 26] S (.inl (some (nI 0))) (outS S' (r.toInt64)) := by
  refine run_of (by decide +kernel) rfl (fun L xs G hG => ?_)
  repeat (refine hG.1 _ _ _ _ _ _ rfl ?_)
  refine And.intro rfl (cx (h) rfl ?_)
  repeat (refine hG.1 _ _ _ _ _ _ rfl ?_)
  refine And.intro (vp_in_nI ((show 0 < 1 by omega)) (by decide)) ?_; rw [nI_clamp (Nat.lt_trans ((show 0 < 1 by omega)) (by decide))]
  repeat (refine hG.1 _ _ _ _ _ _ rfl ?_)
  exact And.intro rfl (And.intro rfl rfl)
theorem w_flow_1 (S S' : PS) (x : Int32) (h : Run 1 8 [.ref 0, .int x] S (.inr 1) S') : Run 1 105 [.ref 0, .int x, .ref 26] S (.inl (some (nI 1))) S' := by
  refine run_of (by decide +kernel) rfl (fun L xs G hG => ?_)
  repeat (refine hG.1 _ _ _ _ _ _ rfl ?_)
  refine And.intro rfl (cx (h) rfl ?_)
  repeat (refine hG.1 _ _ _ _ _ _ rfl ?_)
  exact And.intro rfl (And.intro rfl rfl)
theorem w_flow_2 (S S' : PS) (x : Int32) (h : Run 1 8 [.ref 0, .int x] S (.inr 2) S') : Run 1 105 [.ref 0, .int x, .ref 26] S (.inl (some (nI 2))) S' := by
  refine run_of (by decide +kernel) rfl (fun L xs G hG => ?_)
  repeat (refine hG.1 _ _ _ _ _ _ rfl ?_)
  refine And.intro rfl (cx (h) rfl ?_)
  repeat (refine hG.1 _ _ _ _ _ _ rfl ?_)
  exact And.intro rfl (And.intro rfl rfl)
theorem w_addArea (S S' : PS) (x r : Int32) (h : Run 0 10 [.ref 0, .int x] S (.inl (some r)) S') : Run 0 106 [.ref 0, .int x, .ref 26] S (.inl (some (nI 0))) (outS S' (r.toInt64)) := by
  refine run_of (by decide +kernel) rfl (fun L xs G hG => ?_)
  repeat (refine hG.1 _ _ _ _ _ _ rfl ?_)
  refine And.intro rfl (cx (h) rfl ?_)
  repeat (refine hG.1 _ _ _ _ _ _ rfl ?_)
  refine And.intro (vp_in_nI ((show 0 < 1 by omega)) (by decide)) ?_; rw [nI_clamp (Nat.lt_trans ((show 0 < 1 by omega)) (by decide))]
  repeat (refine hG.1 _ _ _ _ _ _ rfl ?_)
  exact And.intro rfl (And.intro rfl rfl)
theorem w_addArea_1 (S S' : PS) (x : Int32) (h : Run 1 10 [.ref 0, .int x] S (.inr 1) S') : Run 1 106 [.ref 0, .int x, .ref 26] S (.inl (some (nI 1))) S' := by
  refine run_of (by decide +kernel) rfl (fun L xs G hG => ?_)
  repeat (refine hG.1 _ _ _ _ _ _ rfl ?_)
  refine And.intro rfl (cx (h) rfl ?_)
  repeat (refine hG.1 _ _ _ _ _ _ rfl ?_)
  exact And.intro rfl (And.intro rfl rfl)
theorem w_addArea_2 (S S' : PS) (x : Int32) (h : Run 1 10 [.ref 0, .int x] S (.inr 2) S') : Run 1 106 [.ref 0, .int x, .ref 26] S (.inl (some (nI 2))) S' := by
  refine run_of (by decide +kernel) rfl (fun L xs G hG => ?_)
  repeat (refine hG.1 _ _ _ _ _ _ rfl ?_)
  refine And.intro rfl (cx (h) rfl ?_)
  repeat (refine hG.1 _ _ _ _ _ _ rfl ?_)
  exact And.intro rfl (And.intro rfl rfl)
theorem w_addExport (S S' : PS) (x y r : Int32) (h : Run 0 11 [.ref 0, .int x, .int y] S (.inl (some r)) S') : Run 0 107 [.ref 0, .int x, .int y, .ref 26] S (.inl (some (nI 0))) (outS S' (r.toInt64)) := by
  refine run_of (by decide +kernel) rfl (fun L xs G hG => ?_)
  repeat (refine hG.1 _ _ _ _ _ _ rfl ?_)
  refine And.intro rfl (cx (h) rfl ?_)
  repeat (refine hG.1 _ _ _ _ _ _ rfl ?_)
  refine And.intro (vp_in_nI ((show 0 < 1 by omega)) (by decide)) ?_; rw [nI_clamp (Nat.lt_trans ((show 0 < 1 by omega)) (by decide))]
  repeat (refine hG.1 _ _ _ _ _ _ rfl ?_)
  exact And.intro rfl (And.intro rfl rfl)
theorem w_addExport_1 (S S' : PS) (x y : Int32) (h : Run 1 11 [.ref 0, .int x, .int y] S (.inr 1) S') : Run 1 107 [.ref 0, .int x, .int y, .ref 26] S (.inl (some (nI 1))) S' := by
  refine run_of (by decide +kernel) rfl (fun L xs G hG => ?_)
  repeat (refine hG.1 _ _ _ _ _ _ rfl ?_)
  refine And.intro rfl (cx (h) rfl ?_)
  repeat (refine hG.1 _ _ _ _ _ _ rfl ?_)
  exact And.intro rfl (And.intro rfl rfl)
theorem w_addExport_2 (S S' : PS) (x y : Int32) (h : Run 1 11 [.ref 0, .int x, .int y] S (.inr 2) S') : Run 1 107 [.ref 0, .int x, .int y, .ref 26] S (.inl (some (nI 2))) S' := by
  refine run_of (by decide +kernel) rfl (fun L xs G hG => ?_)
  repeat (refine hG.1 _ _ _ _ _ _ rfl ?_)
  refine And.intro rfl (cx (h) rfl ?_)
  repeat (refine hG.1 _ _ _ _ _ _ rfl ?_)
  exact And.intro rfl (And.intro rfl rfl)
theorem w_nodes (S S' : PS) (x r : Int32) (h : Run 0 12 [.ref 0, .int x] S (.inl (some r)) S') : Run 0 108 [.ref 0, .int x, .ref 26] S (.inl (some (nI 0))) (outS S' (r.toInt64)) := by
  refine run_of (by decide +kernel) rfl (fun L xs G hG => ?_)
  repeat (refine hG.1 _ _ _ _ _ _ rfl ?_)
  refine And.intro rfl (cx (h) rfl ?_)
  repeat (refine hG.1 _ _ _ _ _ _ rfl ?_)
  refine And.intro (vp_in_nI ((show 0 < 1 by omega)) (by decide)) ?_; rw [nI_clamp (Nat.lt_trans ((show 0 < 1 by omega)) (by decide))]
  repeat (refine hG.1 _ _ _ _ _ _ rfl ?_)
  exact And.intro rfl (And.intro rfl rfl)
theorem w_nodes_1 (S S' : PS) (x : Int32) (h : Run 1 12 [.ref 0, .int x] S (.inr 1) S') : Run 1 108 [.ref 0, .int x, .ref 26] S (.inl (some (nI 1))) S' := by
  refine run_of (by decide +kernel) rfl (fun L xs G hG => ?_)
  repeat (refine hG.1 _ _ _ _ _ _ rfl ?_)
  refine And.intro rfl (cx (h) rfl ?_)
  repeat (refine hG.1 _ _ _ _ _ _ rfl ?_)
  exact And.intro rfl (And.intro rfl rfl)
theorem w_areaFlow (S S' : PS) (x r : Int32) (h : Run 0 13 [.ref 0, .int x] S (.inl (some r)) S') : Run 0 109 [.ref 0, .int x, .ref 26] S (.inl (some (nI 0))) (outS S' (r.toInt64)) := by
  refine run_of (by decide +kernel) rfl (fun L xs G hG => ?_)
  repeat (refine hG.1 _ _ _ _ _ _ rfl ?_)
  refine And.intro rfl (cx (h) rfl ?_)
  repeat (refine hG.1 _ _ _ _ _ _ rfl ?_)
  refine And.intro (vp_in_nI ((show 0 < 1 by omega)) (by decide)) ?_; rw [nI_clamp (Nat.lt_trans ((show 0 < 1 by omega)) (by decide))]
  repeat (refine hG.1 _ _ _ _ _ _ rfl ?_)
  exact And.intro rfl (And.intro rfl rfl)
theorem w_areaFlow_1 (S S' : PS) (x : Int32) (h : Run 1 13 [.ref 0, .int x] S (.inr 1) S') : Run 1 109 [.ref 0, .int x, .ref 26] S (.inl (some (nI 1))) S' := by
  refine run_of (by decide +kernel) rfl (fun L xs G hG => ?_)
  repeat (refine hG.1 _ _ _ _ _ _ rfl ?_)
  refine And.intro rfl (cx (h) rfl ?_)
  repeat (refine hG.1 _ _ _ _ _ _ rfl ?_)
  exact And.intro rfl (And.intro rfl rfl)
theorem w_areaFlow_2 (S S' : PS) (x : Int32) (h : Run 1 13 [.ref 0, .int x] S (.inr 2) S') : Run 1 109 [.ref 0, .int x, .ref 26] S (.inl (some (nI 2))) S' := by
  refine run_of (by decide +kernel) rfl (fun L xs G hG => ?_)
  repeat (refine hG.1 _ _ _ _ _ _ rfl ?_)
  refine And.intro rfl (cx (h) rfl ?_)
  repeat (refine hG.1 _ _ _ _ _ _ rfl ?_)
  exact And.intro rfl (And.intro rfl rfl)
theorem w_areaTakes (S S' : PS) (x r : Int32) (h : Run 0 14 [.ref 0, .int x] S (.inl (some r)) S') : Run 0 110 [.ref 0, .int x, .ref 26] S (.inl (some (nI 0))) (outS S' (r.toInt64)) := by
  refine run_of (by decide +kernel) rfl (fun L xs G hG => ?_)
  repeat (refine hG.1 _ _ _ _ _ _ rfl ?_)
  refine And.intro rfl (cx (h) rfl ?_)
  repeat (refine hG.1 _ _ _ _ _ _ rfl ?_)
  refine And.intro (vp_in_nI ((show 0 < 1 by omega)) (by decide)) ?_; rw [nI_clamp (Nat.lt_trans ((show 0 < 1 by omega)) (by decide))]
  repeat (refine hG.1 _ _ _ _ _ _ rfl ?_)
  exact And.intro rfl (And.intro rfl rfl)
theorem w_areaTakes_1 (S S' : PS) (x : Int32) (h : Run 1 14 [.ref 0, .int x] S (.inr 1) S') : Run 1 110 [.ref 0, .int x, .ref 26] S (.inl (some (nI 1))) S' := by
  refine run_of (by decide +kernel) rfl (fun L xs G hG => ?_)
  repeat (refine hG.1 _ _ _ _ _ _ rfl ?_)
  refine And.intro rfl (cx (h) rfl ?_)
  repeat (refine hG.1 _ _ _ _ _ _ rfl ?_)
  exact And.intro rfl (And.intro rfl rfl)
theorem w_loss (S S' : PS) (x r : Int32) (h : Run 0 15 [.ref 0, .int x] S (.inl (some r)) S') : Run 0 111 [.ref 0, .int x, .ref 26] S (.inl (some (nI 0))) (outS S' (r.toInt64)) := by
  refine run_of (by decide +kernel) rfl (fun L xs G hG => ?_)
  repeat (refine hG.1 _ _ _ _ _ _ rfl ?_)
  refine And.intro rfl (cx (h) rfl ?_)
  repeat (refine hG.1 _ _ _ _ _ _ rfl ?_)
  refine And.intro (vp_in_nI ((show 0 < 1 by omega)) (by decide)) ?_; rw [nI_clamp (Nat.lt_trans ((show 0 < 1 by omega)) (by decide))]
  repeat (refine hG.1 _ _ _ _ _ _ rfl ?_)
  exact And.intro rfl (And.intro rfl rfl)
theorem w_loss_1 (S S' : PS) (x : Int32) (h : Run 1 15 [.ref 0, .int x] S (.inr 1) S') : Run 1 111 [.ref 0, .int x, .ref 26] S (.inl (some (nI 1))) S' := by
  refine run_of (by decide +kernel) rfl (fun L xs G hG => ?_)
  repeat (refine hG.1 _ _ _ _ _ _ rfl ?_)
  refine And.intro rfl (cx (h) rfl ?_)
  repeat (refine hG.1 _ _ _ _ _ _ rfl ?_)
  exact And.intro rfl (And.intro rfl rfl)
theorem w_steps (S S' : PS) (x r : Int32) (h : Run 0 16 [.ref 0, .int x] S (.inl (some r)) S') : Run 0 112 [.ref 0, .int x, .ref 26] S (.inl (some (nI 0))) (outS S' (r.toInt64)) := by
  refine run_of (by decide +kernel) rfl (fun L xs G hG => ?_)
  repeat (refine hG.1 _ _ _ _ _ _ rfl ?_)
  refine And.intro rfl (cx (h) rfl ?_)
  repeat (refine hG.1 _ _ _ _ _ _ rfl ?_)
  refine And.intro (vp_in_nI ((show 0 < 1 by omega)) (by decide)) ?_; rw [nI_clamp (Nat.lt_trans ((show 0 < 1 by omega)) (by decide))]
  repeat (refine hG.1 _ _ _ _ _ _ rfl ?_)
  exact And.intro rfl (And.intro rfl rfl)
theorem w_steps_1 (S S' : PS) (x : Int32) (h : Run 1 16 [.ref 0, .int x] S (.inr 1) S') : Run 1 112 [.ref 0, .int x, .ref 26] S (.inl (some (nI 1))) S' := by
  refine run_of (by decide +kernel) rfl (fun L xs G hG => ?_)
  repeat (refine hG.1 _ _ _ _ _ _ rfl ?_)
  refine And.intro rfl (cx (h) rfl ?_)
  repeat (refine hG.1 _ _ _ _ _ _ rfl ?_)
  exact And.intro rfl (And.intro rfl rfl)
theorem w_stepPipe (S S' : PS) (x y r : Int32) (h : Run 0 17 [.ref 0, .int x, .int y] S (.inl (some r)) S') : Run 0 113 [.ref 0, .int x, .int y, .ref 26] S (.inl (some (nI 0))) (outS S' (r.toInt64)) := by
  refine run_of (by decide +kernel) rfl (fun L xs G hG => ?_)
  repeat (refine hG.1 _ _ _ _ _ _ rfl ?_)
  refine And.intro rfl (cx (h) rfl ?_)
  repeat (refine hG.1 _ _ _ _ _ _ rfl ?_)
  refine And.intro (vp_in_nI ((show 0 < 1 by omega)) (by decide)) ?_; rw [nI_clamp (Nat.lt_trans ((show 0 < 1 by omega)) (by decide))]
  repeat (refine hG.1 _ _ _ _ _ _ rfl ?_)
  exact And.intro rfl (And.intro rfl rfl)
theorem w_stepPipe_1 (S S' : PS) (x y : Int32) (h : Run 1 17 [.ref 0, .int x, .int y] S (.inr 1) S') : Run 1 113 [.ref 0, .int x, .int y, .ref 26] S (.inl (some (nI 1))) S' := by
  refine run_of (by decide +kernel) rfl (fun L xs G hG => ?_)
  repeat (refine hG.1 _ _ _ _ _ _ rfl ?_)
  refine And.intro rfl (cx (h) rfl ?_)
  repeat (refine hG.1 _ _ _ _ _ _ rfl ?_)
  exact And.intro rfl (And.intro rfl rfl)
theorem w_drop (S S' : PS) (x y r : Int32) (h : Run 0 18 [.ref 0, .int x, .int y] S (.inl (some r)) S') : Run 0 114 [.ref 0, .int x, .int y, .ref 26] S (.inl (some (nI 0))) (outS S' (r.toInt64)) := by
  refine run_of (by decide +kernel) rfl (fun L xs G hG => ?_)
  repeat (refine hG.1 _ _ _ _ _ _ rfl ?_)
  refine And.intro rfl (cx (h) rfl ?_)
  repeat (refine hG.1 _ _ _ _ _ _ rfl ?_)
  refine And.intro (vp_in_nI ((show 0 < 1 by omega)) (by decide)) ?_; rw [nI_clamp (Nat.lt_trans ((show 0 < 1 by omega)) (by decide))]
  repeat (refine hG.1 _ _ _ _ _ _ rfl ?_)
  exact And.intro rfl (And.intro rfl rfl)
theorem w_drop_1 (S S' : PS) (x y : Int32) (h : Run 1 18 [.ref 0, .int x, .int y] S (.inr 1) S') : Run 1 114 [.ref 0, .int x, .int y, .ref 26] S (.inl (some (nI 1))) S' := by
  refine run_of (by decide +kernel) rfl (fun L xs G hG => ?_)
  repeat (refine hG.1 _ _ _ _ _ _ rfl ?_)
  refine And.intro rfl (cx (h) rfl ?_)
  repeat (refine hG.1 _ _ _ _ _ _ rfl ?_)
  exact And.intro rfl (And.intro rfl rfl)
theorem w_burst (S S' : PS) (x y z r : Int32) (h : Run 0 19 [.ref 0, .int x, .int y, .int z] S (.inl (some r)) S') : Run 0 115 [.ref 0, .int x, .int y, .int z, .ref 26] S (.inl (some (nI 0))) (outS S' (r.toInt64)) := by
  refine run_of (by decide +kernel) rfl (fun L xs G hG => ?_)
  repeat (refine hG.1 _ _ _ _ _ _ rfl ?_)
  refine And.intro rfl (cx (h) rfl ?_)
  repeat (refine hG.1 _ _ _ _ _ _ rfl ?_)
  refine And.intro (vp_in_nI ((show 0 < 1 by omega)) (by decide)) ?_; rw [nI_clamp (Nat.lt_trans ((show 0 < 1 by omega)) (by decide))]
  repeat (refine hG.1 _ _ _ _ _ _ rfl ?_)
  exact And.intro rfl (And.intro rfl rfl)
theorem w_burst_0 (S S' : PS) (x y z : Int32) (h : Run 1 19 [.ref 0, .int x, .int y, .int z] S (.inr 0) S') : Run 1 115 [.ref 0, .int x, .int y, .int z, .ref 26] S (.inl (some (nI 1))) S' := by
  refine run_of (by decide +kernel) rfl (fun L xs G hG => ?_)
  repeat (refine hG.1 _ _ _ _ _ _ rfl ?_)
  refine And.intro rfl (cx (h) rfl ?_)
  repeat (refine hG.1 _ _ _ _ _ _ rfl ?_)
  exact And.intro rfl (And.intro rfl rfl)
theorem w_burst_1 (S S' : PS) (x y z : Int32) (h : Run 1 19 [.ref 0, .int x, .int y, .int z] S (.inr 1) S') : Run 1 115 [.ref 0, .int x, .int y, .int z, .ref 26] S (.inl (some (nI 2))) S' := by
  refine run_of (by decide +kernel) rfl (fun L xs G hG => ?_)
  repeat (refine hG.1 _ _ _ _ _ _ rfl ?_)
  refine And.intro rfl (cx (h) rfl ?_)
  repeat (refine hG.1 _ _ _ _ _ _ rfl ?_)
  exact And.intro rfl (And.intro rfl rfl)
theorem w_burst_2 (S S' : PS) (x y z : Int32) (h : Run 1 19 [.ref 0, .int x, .int y, .int z] S (.inr 2) S') : Run 1 115 [.ref 0, .int x, .int y, .int z, .ref 26] S (.inl (some (nI 3))) S' := by
  refine run_of (by decide +kernel) rfl (fun L xs G hG => ?_)
  repeat (refine hG.1 _ _ _ _ _ _ rfl ?_)
  refine And.intro rfl (cx (h) rfl ?_)
  repeat (refine hG.1 _ _ _ _ _ _ rfl ?_)
  exact And.intro rfl (And.intro rfl rfl)
theorem w_repair (S S' : PS) (x r : Int32) (h : Run 0 20 [.ref 0, .int x] S (.inl (some r)) S') : Run 0 116 [.ref 0, .int x, .ref 26] S (.inl (some (nI 0))) (outS S' (r.toInt64)) := by
  refine run_of (by decide +kernel) rfl (fun L xs G hG => ?_)
  repeat (refine hG.1 _ _ _ _ _ _ rfl ?_)
  refine And.intro rfl (cx (h) rfl ?_)
  repeat (refine hG.1 _ _ _ _ _ _ rfl ?_)
  refine And.intro (vp_in_nI ((show 0 < 1 by omega)) (by decide)) ?_; rw [nI_clamp (Nat.lt_trans ((show 0 < 1 by omega)) (by decide))]
  repeat (refine hG.1 _ _ _ _ _ _ rfl ?_)
  exact And.intro rfl (And.intro rfl rfl)
theorem w_repair_1 (S S' : PS) (x : Int32) (h : Run 1 20 [.ref 0, .int x] S (.inr 1) S') : Run 1 116 [.ref 0, .int x, .ref 26] S (.inl (some (nI 1))) S' := by
  refine run_of (by decide +kernel) rfl (fun L xs G hG => ?_)
  repeat (refine hG.1 _ _ _ _ _ _ rfl ?_)
  refine And.intro rfl (cx (h) rfl ?_)
  repeat (refine hG.1 _ _ _ _ _ _ rfl ?_)
  exact And.intro rfl (And.intro rfl rfl)
theorem w_repair_2 (S S' : PS) (x : Int32) (h : Run 1 20 [.ref 0, .int x] S (.inr 2) S') : Run 1 116 [.ref 0, .int x, .ref 26] S (.inl (some (nI 2))) S' := by
  refine run_of (by decide +kernel) rfl (fun L xs G hG => ?_)
  repeat (refine hG.1 _ _ _ _ _ _ rfl ?_)
  refine And.intro rfl (cx (h) rfl ?_)
  repeat (refine hG.1 _ _ _ _ _ _ rfl ?_)
  exact And.intro rfl (And.intro rfl rfl)
theorem w_cost (S S' : PS) (x r : Int32) (h : Run 0 21 [.ref 0, .int x] S (.inl (some r)) S') : Run 0 117 [.ref 0, .int x, .ref 26] S (.inl (some (nI 0))) (outS S' (r.toInt64)) := by
  refine run_of (by decide +kernel) rfl (fun L xs G hG => ?_)
  repeat (refine hG.1 _ _ _ _ _ _ rfl ?_)
  refine And.intro rfl (cx (h) rfl ?_)
  repeat (refine hG.1 _ _ _ _ _ _ rfl ?_)
  refine And.intro (vp_in_nI ((show 0 < 1 by omega)) (by decide)) ?_; rw [nI_clamp (Nat.lt_trans ((show 0 < 1 by omega)) (by decide))]
  repeat (refine hG.1 _ _ _ _ _ _ rfl ?_)
  exact And.intro rfl (And.intro rfl rfl)
theorem w_cost_1 (S S' : PS) (x : Int32) (h : Run 1 21 [.ref 0, .int x] S (.inr 1) S') : Run 1 117 [.ref 0, .int x, .ref 26] S (.inl (some (nI 1))) S' := by
  refine run_of (by decide +kernel) rfl (fun L xs G hG => ?_)
  repeat (refine hG.1 _ _ _ _ _ _ rfl ?_)
  refine And.intro rfl (cx (h) rfl ?_)
  repeat (refine hG.1 _ _ _ _ _ _ rfl ?_)
  exact And.intro rfl (And.intro rfl rfl)
theorem w_ranked (S S' : PS) (x r : Int32) (h : Run 0 22 [.ref 0, .int x] S (.inl (some r)) S') : Run 0 118 [.ref 0, .int x, .ref 26] S (.inl (some (nI 0))) (outS S' (r.toInt64)) := by
  refine run_of (by decide +kernel) rfl (fun L xs G hG => ?_)
  repeat (refine hG.1 _ _ _ _ _ _ rfl ?_)
  refine And.intro rfl (cx (h) rfl ?_)
  repeat (refine hG.1 _ _ _ _ _ _ rfl ?_)
  refine And.intro (vp_in_nI ((show 0 < 1 by omega)) (by decide)) ?_; rw [nI_clamp (Nat.lt_trans ((show 0 < 1 by omega)) (by decide))]
  repeat (refine hG.1 _ _ _ _ _ _ rfl ?_)
  exact And.intro rfl (And.intro rfl rfl)
theorem w_ranked_1 (S S' : PS) (x : Int32) (h : Run 1 22 [.ref 0, .int x] S (.inr 1) S') : Run 1 118 [.ref 0, .int x, .ref 26] S (.inl (some (nI 1))) S' := by
  refine run_of (by decide +kernel) rfl (fun L xs G hG => ?_)
  repeat (refine hG.1 _ _ _ _ _ _ rfl ?_)
  refine And.intro rfl (cx (h) rfl ?_)
  repeat (refine hG.1 _ _ _ _ _ _ rfl ?_)
  exact And.intro rfl (And.intro rfl rfl)
theorem w_plan (S S' : PS) (x r : Int32) (h : Run 0 23 [.ref 0, .int x] S (.inl (some r)) S') : Run 0 119 [.ref 0, .int x, .ref 26] S (.inl (some (nI 0))) (outS S' (r.toInt64)) := by
  refine run_of (by decide +kernel) rfl (fun L xs G hG => ?_)
  repeat (refine hG.1 _ _ _ _ _ _ rfl ?_)
  refine And.intro rfl (cx (h) rfl ?_)
  repeat (refine hG.1 _ _ _ _ _ _ rfl ?_)
  refine And.intro (vp_in_nI ((show 0 < 1 by omega)) (by decide)) ?_; rw [nI_clamp (Nat.lt_trans ((show 0 < 1 by omega)) (by decide))]
  repeat (refine hG.1 _ _ _ _ _ _ rfl ?_)
  exact And.intro rfl (And.intro rfl rfl)
theorem w_plan_0 (S S' : PS) (x : Int32) (h : Run 1 23 [.ref 0, .int x] S (.inr 0) S') : Run 1 119 [.ref 0, .int x, .ref 26] S (.inl (some (nI 1))) S' := by
  refine run_of (by decide +kernel) rfl (fun L xs G hG => ?_)
  repeat (refine hG.1 _ _ _ _ _ _ rfl ?_)
  refine And.intro rfl (cx (h) rfl ?_)
  repeat (refine hG.1 _ _ _ _ _ _ rfl ?_)
  exact And.intro rfl (And.intro rfl rfl)
