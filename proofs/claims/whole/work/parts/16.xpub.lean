abbrev okR (x lo hi : Int32) : Prop := ¬ x < lo ∧ x ≤ hi
abbrev noR (x lo hi : Int32) : Prop := x < lo ∨ ¬ x ≤ hi
abbrev noN (x c : Int32) : Prop := x < 0 ∨ ¬ x < c
theorem nI_okn {j n : Nat} (h : j < n) (hn : n ≤ 100) : ¬ nI j < 0 ∧ nI j < nI n := ⟨nI_pos (by omega), nI_lt h (by omega)⟩
theorem nI_okp {j n : Nat} (h0 : 0 < j) (h : j < n) (hn : n ≤ 100) : ¬ nI j ≤ 0 ∧ nI j < nI n := ⟨nI_nle h0 (by omega), nI_lt h (by omega)⟩
theorem x_addNode_0 (S : PS) (on use : Int32) (h : noR use (nI 0) (nI 10000)) : Run 1 1 [.ref 0, .int on, .int use] S (.inr 0) S := by
  refine run_of (by decide +kernel) rfl (fun L xs G hG => ?_)
  repeat (refine hG.1 _ _ _ _ _ _ rfl ?_)
  refine cx (r_needRange_x S _ _ _ h) rfl ?_
  exact And.intro rfl (And.intro rfl rfl)
theorem x_addNode_1 (S : PS) (on use : Int32) (h : okR use (nI 0) (nI 10000)) (h1 : noN on (S.1 0 0)) : Run 1 1 [.ref 0, .int on, .int use] S (.inr 1) S := by
  refine run_of (by decide +kernel) rfl (fun L xs G hG => ?_)
  repeat (refine hG.1 _ _ _ _ _ _ rfl ?_)
  refine cx (r_needRange S _ _ _ h.1 h.2) rfl ?_
  repeat (refine hG.1 _ _ _ _ _ _ rfl ?_)
  refine And.intro rfl (cx (r_needNode_x S _ h1) rfl ?_)
  exact And.intro rfl (And.intro rfl rfl)
theorem x_addNode_2 (S : PS) (j : Nat) (use : Int32) (h : okR use (nI 0) (nI 10000)) (hn : S.1 0 0 = nI 16) (hj : j < 16) : Run 1 1 [.ref 0, .int (nI j), .int use] S (.inr 2) S := by
  have hk := nI_okn hj (by omega)
  refine run_of (by decide +kernel) rfl (fun L xs G hG => ?_)
  repeat (refine hG.1 _ _ _ _ _ _ rfl ?_)
  refine cx (r_needRange S _ _ _ h.1 h.2) rfl ?_
  repeat (refine hG.1 _ _ _ _ _ _ rfl ?_)
  refine And.intro rfl (cx (r_needNode S _ hk.1 (by rw [hn]; exact hk.2)) rfl ?_)
  repeat (refine hG.1 _ _ _ _ _ _ rfl ?_)
  rw [hn]
  refine cx (r_needRoom_x S _ _ (by decide)) rfl ?_
  exact And.intro rfl (And.intro rfl rfl)
abbrev sAddNode (S : PS) (n j : Nat) (use : Int32) : PS := (va_up S.1 0 (upd (S.1 0) 0 (nI (n + 1))), va_up (va_up (va_up S.2.1 1 (upd (S.2.1 1) n (S.2.1 1 j ||| one n))) 2 (upd (S.2.1 2) n use)) 4 (upd (S.2.1 4) n (-1)), S.2.2)
theorem x_addNode (S : PS) (j n : Nat) (use : Int32) (h : okR use (nI 0) (nI 10000)) (hn : S.1 0 0 = nI n) (hj : j < n) (hn16 : n < 16) : Run 0 1 [.ref 0, .int (nI j), .int use] S (.inl (some (nI n))) (sAddNode S n j use) := by
  have hk := nI_okn hj (by omega)
  refine run_of (by decide +kernel) rfl (fun L xs G hG => ?_)
  repeat (refine hG.1 _ _ _ _ _ _ rfl ?_)
  refine cx (r_needRange S _ _ _ h.1 h.2) rfl ?_
  repeat (refine hG.1 _ _ _ _ _ _ rfl ?_)
  refine And.intro rfl (cx (r_needNode S _ hk.1 (by rw [hn]; exact hk.2)) rfl ?_)
  repeat (refine hG.1 _ _ _ _ _ _ rfl ?_)
  rw [hn]
  refine cx (r_needRoom S _ _ (nI_lt hn16 (by decide))) rfl ?_
  repeat (refine hG.1 _ _ _ _ _ _ rfl ?_)
  refine And.intro (vp_in_nI ((show j < 16 by omega)) (by decide)) ?_; rw [nI_clamp (Nat.lt_trans ((show j < 16 by omega)) (by decide))]
  rw [hn]
  repeat (refine hG.1 _ _ _ _ _ _ rfl ?_)
  refine And.intro (vp_in_nI (hn16) (by decide)) ?_; rw [nI_clamp (Nat.lt_trans (hn16) (by decide))]
  repeat (refine hG.1 _ _ _ _ _ _ rfl ?_)
  refine And.intro (vp_in_nI (hn16) (by decide)) ?_; rw [nI_clamp (Nat.lt_trans (hn16) (by decide))]
  repeat (refine hG.1 _ _ _ _ _ _ rfl ?_)
  refine And.intro (vp_in_nI (hn16) (by decide)) ?_; rw [nI_clamp (Nat.lt_trans (hn16) (by decide))]
  repeat (refine hG.1 _ _ _ _ _ _ rfl ?_)
  rw [nI_add]
  repeat (refine hG.1 _ _ _ _ _ _ rfl ?_)
  exact And.intro rfl (And.intro rfl rfl)
theorem x_setBackground_0 (S : PS) (x amt : Int32) (h : noR amt (nI 0) (nI 10000)) : Run 1 2 [.ref 0, .int x, .int amt] S (.inr 0) S := by
  refine run_of (by decide +kernel) rfl (fun L xs G hG => ?_)
  repeat (refine hG.1 _ _ _ _ _ _ rfl ?_)
  refine cx (r_needRange_x S _ _ _ h) rfl ?_
  exact And.intro rfl (And.intro rfl rfl)
theorem x_setBackground_1 (S : PS) (x amt : Int32) (h : okR amt (nI 0) (nI 10000)) (h1 : noN x (S.1 0 0)) : Run 1 2 [.ref 0, .int x, .int amt] S (.inr 1) S := by
  refine run_of (by decide +kernel) rfl (fun L xs G hG => ?_)
  repeat (refine hG.1 _ _ _ _ _ _ rfl ?_)
  refine cx (r_needRange S _ _ _ h.1 h.2) rfl ?_
  repeat (refine hG.1 _ _ _ _ _ _ rfl ?_)
  refine And.intro rfl (cx (r_needNode_x S _ h1) rfl ?_)
  exact And.intro rfl (And.intro rfl rfl)
abbrev sSetB (S : PS) (j : Nat) (amt : Int32) : PS := (S.1, va_up S.2.1 3 (upd (S.2.1 3) j amt), S.2.2)
theorem x_setBackground (S : PS) (j n nb : Nat) (amt : Int32) (h : okR amt (nI 0) (nI 10000)) (hX : Xn S n nb) (hj : j < n) : Run 0 2 [.ref 0, .int (nI j), .int amt] S (.inl (some (lkgX (sSetB S j amt).2.1 nb (S.1 0 14) j))) (sSetB S j amt) := by
  have hk := nI_okn hj (by have := hX.2.1; omega)
  have hn := hX.2.1
  refine run_of (by decide +kernel) rfl (fun L xs G hG => ?_)
  repeat (refine hG.1 _ _ _ _ _ _ rfl ?_)
  refine cx (r_needRange S _ _ _ h.1 h.2) rfl ?_
  repeat (refine hG.1 _ _ _ _ _ _ rfl ?_)
  refine And.intro rfl (cx (r_needNode S _ hk.1 (by rw [hX.1]; exact hk.2)) rfl ?_)
  repeat (refine hG.1 _ _ _ _ _ _ rfl ?_)
  refine And.intro (vp_in_nI ((show j < 16 by omega)) (by decide)) ?_; rw [nI_clamp (Nat.lt_trans ((show j < 16 by omega)) (by decide))]
  repeat (refine hG.1 _ _ _ _ _ _ rfl ?_)
  refine And.intro rfl (cx (r_leakageAt (sSetB S j amt) j n nb (by omega) hX) rfl ?_)
  repeat (refine hG.1 _ _ _ _ _ _ rfl ?_)
  exact And.intro rfl (And.intro rfl rfl)
theorem x_setPressure_0 (S : PS) (x v : Int32) (h : noR v (-1) (nI 100)) : Run 1 3 [.ref 0, .int x, .int v] S (.inr 0) S := by
  refine run_of (by decide +kernel) rfl (fun L xs G hG => ?_)
  repeat (refine hG.1 _ _ _ _ _ _ rfl ?_)
  refine cx (r_needRange_x S _ _ _ h) rfl ?_
  exact And.intro rfl (And.intro rfl rfl)
theorem x_setPressure_1 (S : PS) (x v : Int32) (h : okR v (-1) (nI 100)) (h1 : x ≤ 0 ∨ ¬ x < S.1 0 0) : Run 1 3 [.ref 0, .int x, .int v] S (.inr 1) S := by
  refine run_of (by decide +kernel) rfl (fun L xs G hG => ?_)
  repeat (refine hG.1 _ _ _ _ _ _ rfl ?_)
  refine cx (r_needRange S _ _ _ h.1 h.2) rfl ?_
  repeat (refine hG.1 _ _ _ _ _ _ rfl ?_)
  refine And.intro rfl (cx (r_needPipe_x S _ h1) rfl ?_)
  exact And.intro rfl (And.intro rfl rfl)
abbrev sSetP (S : PS) (j : Nat) (v : Int32) : PS := (S.1, va_up S.2.1 4 (upd (S.2.1 4) j v), S.2.2)
theorem x_setPressure (S : PS) (j n : Nat) (v : Int32) (h : okR v (-1) (nI 100)) (hn : S.1 0 0 = nI n) (hn16 : n ≤ 16) (h0 : 0 < j) (hj : j < n) : Run 0 3 [.ref 0, .int (nI j), .int v] S (.inl (some (prs (sSetP S j v).2.1 j))) (sSetP S j v) := by
  have hk := nI_okp h0 hj (by omega)
  refine run_of (by decide +kernel) rfl (fun L xs G hG => ?_)
  repeat (refine hG.1 _ _ _ _ _ _ rfl ?_)
  refine cx (r_needRange S _ _ _ h.1 h.2) rfl ?_
  repeat (refine hG.1 _ _ _ _ _ _ rfl ?_)
  refine And.intro rfl (cx (r_needPipe S _ hk.1 (by rw [hn]; exact hk.2)) rfl ?_)
  repeat (refine hG.1 _ _ _ _ _ _ rfl ?_)
  refine And.intro (vp_in_nI ((show j < 16 by omega)) (by decide)) ?_; rw [nI_clamp (Nat.lt_trans ((show j < 16 by omega)) (by decide))]
  repeat (refine hG.1 _ _ _ _ _ _ rfl ?_)
  refine And.intro rfl (cx (r_pressureAt (sSetP S j v) j (by omega)) rfl ?_)
  repeat (refine hG.1 _ _ _ _ _ _ rfl ?_)
  exact And.intro rfl (And.intro rfl rfl)
theorem x_addMeter_0 (S : PS) (x : Int32) (h1 : x ≤ 0 ∨ ¬ x < S.1 0 0) : Run 1 4 [.ref 0, .int x] S (.inr 1) S := by
  refine run_of (by decide +kernel) rfl (fun L xs G hG => ?_)
  repeat (refine hG.1 _ _ _ _ _ _ rfl ?_)
  refine And.intro rfl (cx (r_needPipe_x S _ h1) rfl ?_)
  exact And.intro rfl (And.intro rfl rfl)
abbrev sMeter (S : PS) (j : Nat) : PS := (va_up S.1 0 (upd (S.1 0) 5 (S.1 0 5 ||| one j)), S.2.1, S.2.2)
theorem x_addMeter (S : PS) (j n : Nat) (hn : S.1 0 0 = nI n) (hn16 : n ≤ 16) (h0 : 0 < j) (hj : j < n) : Run 0 4 [.ref 0, .int (nI j)] S (.inl (some (bi (¬ hs (S.1 0 5) j)))) (sMeter S j) := by
  have hk := nI_okp h0 hj (by omega)
  refine run_of (by decide +kernel) rfl (fun L xs G hG => ?_)
  repeat (refine hG.1 _ _ _ _ _ _ rfl ?_)
  refine And.intro rfl (cx (r_needPipe S _ hk.1 (by rw [hn]; exact hk.2)) rfl ?_)
  repeat (refine hG.1 _ _ _ _ _ _ rfl ?_)
  refine cx (r_has S _ _) rfl ?_
  repeat (refine hG.1 _ _ _ _ _ _ rfl ?_)
  refine And.intro (fun h1 => ?_) (fun h1 => ?_)
  · rw [bi_n] at h1
    repeat (refine hG.1 _ _ _ _ _ _ rfl ?_)
    exact And.intro rfl (And.intro (by rw [bi_f (fun z => z h1)]) rfl)
  · rw [bi_0] at h1
    repeat (refine hG.1 _ _ _ _ _ _ rfl ?_)
    exact And.intro rfl (And.intro (by rw [bi_t h1]) rfl)
theorem x_toggleValve_0 (S : PS) (x : Int32) (h1 : x ≤ 0 ∨ ¬ x < S.1 0 0) : Run 1 5 [.ref 0, .int x] S (.inr 1) S := by
  refine run_of (by decide +kernel) rfl (fun L xs G hG => ?_)
  repeat (refine hG.1 _ _ _ _ _ _ rfl ?_)
  refine And.intro rfl (cx (r_needPipe_x S _ h1) rfl ?_)
  exact And.intro rfl (And.intro rfl rfl)
abbrev sValve (S : PS) (j : Nat) : PS := (va_up S.1 0 (upd (S.1 0) 6 (S.1 0 6 ^^^ one j)), S.2.1, S.2.2)
theorem x_toggleValve (S : PS) (j n : Nat) (hn : S.1 0 0 = nI n) (hn16 : n ≤ 16) (h0 : 0 < j) (hj : j < n) : Run 0 5 [.ref 0, .int (nI j)] S (.inl (some (bi (¬ hs (S.1 0 6 ^^^ one j) j)))) (sValve S j) := by
  have hk := nI_okp h0 hj (by omega)
  refine run_of (by decide +kernel) rfl (fun L xs G hG => ?_)
  repeat (refine hG.1 _ _ _ _ _ _ rfl ?_)
  refine And.intro rfl (cx (r_needPipe S _ hk.1 (by rw [hn]; exact hk.2)) rfl ?_)
  repeat (refine hG.1 _ _ _ _ _ _ rfl ?_)
  refine cx (r_has (sValve S j) _ _) rfl ?_
  repeat (refine hG.1 _ _ _ _ _ _ rfl ?_)
  refine And.intro (fun h1 => ?_) (fun h1 => ?_)
  · rw [bi_n] at h1
    repeat (refine hG.1 _ _ _ _ _ _ rfl ?_)
    exact And.intro rfl (And.intro (by rw [bi_f (p := ¬ hs (S.1 0 6 ^^^ one j) j) (fun z => z h1)]) rfl)
  · rw [bi_0] at h1
    repeat (refine hG.1 _ _ _ _ _ _ rfl ?_)
    exact And.intro rfl (And.intro (by rw [bi_t (p := ¬ hs (S.1 0 6 ^^^ one j) j) h1]) rfl)
theorem x_isSupplied_0 (S : PS) (x : Int32) (h1 : noN x (S.1 0 0)) : Run 1 6 [.ref 0, .int x] S (.inr 1) S := by
  refine run_of (by decide +kernel) rfl (fun L xs G hG => ?_)
  repeat (refine hG.1 _ _ _ _ _ _ rfl ?_)
  refine And.intro rfl (cx (r_needNode_x S _ h1) rfl ?_)
  exact And.intro rfl (And.intro rfl rfl)
theorem x_isSupplied (S : PS) (j n : Nat) (hn : S.1 0 0 = nI n) (hn16 : n ≤ 16) (hj : j < n) : Run 0 6 [.ref 0, .int (nI j)] S (.inl (some (bi (S.2.1 1 j &&& S.1 0 6 = 0)))) S := by
  have hk := nI_okn hj (by omega)
  refine run_of (by decide +kernel) rfl (fun L xs G hG => ?_)
  repeat (refine hG.1 _ _ _ _ _ _ rfl ?_)
  refine And.intro rfl (cx (r_needNode S _ hk.1 (by rw [hn]; exact hk.2)) rfl ?_)
  repeat (refine hG.1 _ _ _ _ _ _ rfl ?_)
  refine And.intro rfl (cx (r_isOpenTo S _ _ (vp_in_nI (show j < 16 by omega) (by decide))) rfl ?_)
  rw [nI_clamp (show j < 2 ^ 31 by omega)]
  repeat (refine hG.1 _ _ _ _ _ _ rfl ?_)
  exact And.intro bi_nrw (And.intro rfl rfl)
theorem x_takes_0 (S : PS) (x : Int32) (h1 : noN x (S.1 0 0)) : Run 1 7 [.ref 0, .int x] S (.inr 1) S := by
  refine run_of (by decide +kernel) rfl (fun L xs G hG => ?_)
  repeat (refine hG.1 _ _ _ _ _ _ rfl ?_)
  refine And.intro rfl (cx (r_needNode_x S _ h1) rfl ?_)
  exact And.intro rfl (And.intro rfl rfl)
theorem x_takes (S : PS) (j n nb : Nat) (hX : Xn S n nb) (hj : j < n) : Run 0 7 [.ref 0, .int (nI j)] S (.inl (some (tknX S.2.1 nb (S.1 0 14) (S.1 0 6) j))) S := by
  have hn := hX.2.1
  have hk := nI_okn hj (by omega)
  refine run_of (by decide +kernel) rfl (fun L xs G hG => ?_)
  repeat (refine hG.1 _ _ _ _ _ _ rfl ?_)
  refine And.intro rfl (cx (r_needNode S _ hk.1 (by rw [hX.1]; exact hk.2)) rfl ?_)
  repeat (refine hG.1 _ _ _ _ _ _ rfl ?_)
  refine And.intro rfl (cx (r_takenAt S j n nb _ (by omega) hX) rfl ?_)
  repeat (refine hG.1 _ _ _ _ _ _ rfl ?_)
  exact And.intro rfl (And.intro rfl rfl)
theorem x_flow_0 (S : PS) (x : Int32) (h1 : x ≤ 0 ∨ ¬ x < S.1 0 0) : Run 1 8 [.ref 0, .int x] S (.inr 1) S := by
  refine run_of (by decide +kernel) rfl (fun L xs G hG => ?_)
  repeat (refine hG.1 _ _ _ _ _ _ rfl ?_)
  refine And.intro rfl (cx (r_needPipe_x S _ h1) rfl ?_)
  exact And.intro rfl (And.intro rfl rfl)
theorem x_flow_1 (S : PS) (j n : Nat) (hn : S.1 0 0 = nI n) (hn16 : n ≤ 16) (h0 : 0 < j) (hj : j < n) (hm : ¬ hs (S.1 0 5) j) : Run 1 8 [.ref 0, .int (nI j)] S (.inr 2) S := by
  have hk := nI_okp h0 hj (by omega)
  refine run_of (by decide +kernel) rfl (fun L xs G hG => ?_)
  repeat (refine hG.1 _ _ _ _ _ _ rfl ?_)
  refine And.intro rfl (cx (r_needPipe S _ hk.1 (by rw [hn]; exact hk.2)) rfl ?_)
  repeat (refine hG.1 _ _ _ _ _ _ rfl ?_)
  refine cx (r_has S _ _) rfl ?_
  repeat (refine hG.1 _ _ _ _ _ _ rfl ?_)
  refine And.intro (fun h1 => ?_) (fun h1 => ?_)
  · rw [bi_n] at h1
    exact absurd h1 hm
  · repeat (refine hG.1 _ _ _ _ _ _ rfl ?_)
    exact And.intro rfl (And.intro rfl (And.intro (Nat.le_refl _) (And.intro rfl rfl)))
abbrev flX (A : Nat → Nat → Int32) (n nb : Nat) (rp sh top : Int32) : Int32 := smL (fun k => decide (hsv (A 1 k) top)) (tknX A nb rp sh) n
theorem x_flow (S : PS) (j n nb : Nat) (hX : Xn S n nb) (h0 : 0 < j) (hj : j < n) (hm : hs (S.1 0 5) j) : Run 0 8 [.ref 0, .int (nI j)] S (.inl (some (flX S.2.1 n nb (S.1 0 14) (S.1 0 6) (nI j)))) S := by
  have hn := hX.2.1
  have hk := nI_okp h0 hj (by omega)
  refine run_of (by decide +kernel) rfl (fun L xs G hG => ?_)
  repeat (refine hG.1 _ _ _ _ _ _ rfl ?_)
  refine And.intro rfl (cx (r_needPipe S _ hk.1 (by rw [hX.1]; exact hk.2)) rfl ?_)
  repeat (refine hG.1 _ _ _ _ _ _ rfl ?_)
  refine cx (r_has S _ _) rfl ?_
  repeat (refine hG.1 _ _ _ _ _ _ rfl ?_)
  refine And.intro (fun h1 => ?_) (fun h1 => ?_)
  · repeat (refine hG.1 _ _ _ _ _ _ rfl ?_)
    refine And.intro rfl (cx (r_flowTo S n nb _ hX) rfl ?_)
    repeat (refine hG.1 _ _ _ _ _ _ rfl ?_)
    exact And.intro rfl (And.intro rfl rfl)
  · rw [bi_0] at h1
    exact absurd hm h1
theorem x_allFlow (S : PS) (n nb : Nat) (hX : Xn S n nb) : Run 0 9 [.ref 0] S (.inl (some (flX S.2.1 n nb (S.1 0 14) (S.1 0 6) (nI 0)))) S := by
  refine run_of (by decide +kernel) rfl (fun L xs G hG => ?_)
  repeat (refine hG.1 _ _ _ _ _ _ rfl ?_)
  refine And.intro rfl (cx (r_flowTo S n nb _ hX) rfl ?_)
  repeat (refine hG.1 _ _ _ _ _ _ rfl ?_)
  exact And.intro rfl (And.intro rfl rfl)
theorem x_addArea_0 (S : PS) (x : Int32) (h1 : noN x (S.1 0 0)) : Run 1 10 [.ref 0, .int x] S (.inr 1) S := by
  refine run_of (by decide +kernel) rfl (fun L xs G hG => ?_)
  repeat (refine hG.1 _ _ _ _ _ _ rfl ?_)
  refine And.intro rfl (cx (r_needNode_x S _ h1) rfl ?_)
  exact And.intro rfl (And.intro rfl rfl)
theorem x_addArea_1 (S : PS) (j n : Nat) (hn : S.1 0 0 = nI n) (hn16 : n ≤ 16) (hj : j < n) (ha : S.1 0 7 = nI 8) : Run 1 10 [.ref 0, .int (nI j)] S (.inr 2) S := by
  have hk := nI_okn hj (by omega)
  refine run_of (by decide +kernel) rfl (fun L xs G hG => ?_)
  repeat (refine hG.1 _ _ _ _ _ _ rfl ?_)
  refine And.intro rfl (cx (r_needNode S _ hk.1 (by rw [hn]; exact hk.2)) rfl ?_)
  repeat (refine hG.1 _ _ _ _ _ _ rfl ?_)
  rw [ha]
  refine cx (r_needRoom_x S _ _ (by decide)) rfl ?_
  exact And.intro rfl (And.intro rfl rfl)
abbrev sArea (S : PS) (na j : Nat) : PS := (va_up S.1 0 (upd (S.1 0) 7 (nI (na + 1))), va_up S.2.1 5 (upd (S.2.1 5) na (nI j)), S.2.2)
theorem x_addArea (S : PS) (j n na : Nat) (hn : S.1 0 0 = nI n) (hn16 : n ≤ 16) (hj : j < n) (ha : S.1 0 7 = nI na) (hna : na < 8) : Run 0 10 [.ref 0, .int (nI j)] S (.inl (some (nI na))) (sArea S na j) := by
  have hk := nI_okn hj (by omega)
  refine run_of (by decide +kernel) rfl (fun L xs G hG => ?_)
  repeat (refine hG.1 _ _ _ _ _ _ rfl ?_)
  refine And.intro rfl (cx (r_needNode S _ hk.1 (by rw [hn]; exact hk.2)) rfl ?_)
  repeat (refine hG.1 _ _ _ _ _ _ rfl ?_)
  rw [ha]
  refine cx (r_needRoom S _ _ (nI_lt hna (by decide))) rfl ?_
  repeat (refine hG.1 _ _ _ _ _ _ rfl ?_)
  rw [ha]
  refine And.intro (vp_in_nI (hna) (by decide)) ?_; rw [nI_clamp (Nat.lt_trans (hna) (by decide))]
  repeat (refine hG.1 _ _ _ _ _ _ rfl ?_)
  rw [nI_add]
  repeat (refine hG.1 _ _ _ _ _ _ rfl ?_)
  exact And.intro rfl (And.intro rfl rfl)
