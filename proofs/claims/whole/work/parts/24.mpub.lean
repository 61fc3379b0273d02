theorem isIn_t {x lo hi : Int32} (h : okR x lo hi) : (¬ x < lo ∧ ¬ hi < x) := ⟨h.1, by rw [Int32.not_lt]; exact h.2⟩
theorem isIn_f {x lo hi : Int32} (h : noR x lo hi) : ¬ (¬ x < lo ∧ ¬ hi < x) := by
  rintro ⟨h1, h2⟩
  rcases h with z | z
  · exact h1 z
  · exact z (Int32.not_lt.mp h2)
theorem m_isIn_t (S : PS) {x lo hi : Int32} (h : okR x lo hi) : Run 0 54 [.int x, .int lo, .int hi] S (.inl (some (nI 1))) S := by
  have g := m_isIn S x lo hi
  rw [bi_t (isIn_t h)] at g
  exact g
theorem m_isIn_f (S : PS) {x lo hi : Int32} (h : noR x lo hi) : Run 0 54 [.int x, .int lo, .int hi] S (.inl (some (nI 0))) S := by
  have g := m_isIn S x lo hi
  rw [bi_f (isIn_f h)] at g
  exact g
theorem m_addNode_0 (S : PS) (on use : Int32) (h : noR use (nI 0) (nI 10000)) : Run 0 63 [.ref 12, .int on, .int use] S (.inl (some (nI 0))) (sThr S (nI 1)) := by
  refine run_of (by decide +kernel) rfl (fun L xs G hG => ?_)
  repeat (refine hG.1 _ _ _ _ _ _ rfl ?_)
  refine cx (m_isIn_f S h) rfl ?_
  repeat (refine hG.1 _ _ _ _ _ _ rfl ?_)
  refine And.intro (fun h => by first | exact absurd h (by decide) | exact False.elim (h (by decide))) (fun _ => ?_)
  repeat (refine hG.1 _ _ _ _ _ _ rfl ?_)
  refine And.intro rfl (cx (m_fails_t S (nI 1) (by decide)) rfl ?_)
  repeat (refine hG.1 _ _ _ _ _ _ rfl ?_)
  refine And.intro (fun h => by first | exact absurd h (by decide) | exact False.elim (h (by decide))) (fun _ => ?_)
  repeat (refine hG.1 _ _ _ _ _ _ rfl ?_)
  exact And.intro rfl (And.intro rfl rfl)
theorem m_addNode_1 (S : PS) (on use : Int32) (n : Nat) (h : okR use (nI 0) (nI 10000)) (hn : S.1 12 0 = nI n) (hn16 : n ≤ 16) (h1n : 1 ≤ n) (h1 : noN on (nI n)) : Run 0 63 [.ref 12, .int on, .int use] S (.inl (some (nI 0))) (sThr S (nI 2)) := by
  refine run_of (by decide +kernel) rfl (fun L xs G hG => ?_)
  repeat (refine hG.1 _ _ _ _ _ _ rfl ?_)
  refine cx (m_isIn_t S h) rfl ?_
  repeat (refine hG.1 _ _ _ _ _ _ rfl ?_)
  refine And.intro (fun _ => ?_) (fun h => by first | exact absurd h (by decide) | exact False.elim (h (by decide)))
  repeat (refine hG.1 _ _ _ _ _ _ rfl ?_)
  refine And.intro rfl (cx (m_isNode_f S _ n hn hn16 h1n h1) rfl ?_)
  repeat (refine hG.1 _ _ _ _ _ _ rfl ?_)
  refine And.intro (fun h => by first | exact absurd h (by decide) | exact False.elim (h (by decide))) (fun _ => ?_)
  repeat (refine hG.1 _ _ _ _ _ _ rfl ?_)
  refine And.intro rfl (cx (m_fails_t S (nI 2) (by decide)) rfl ?_)
  repeat (refine hG.1 _ _ _ _ _ _ rfl ?_)
  refine And.intro (fun h => by first | exact absurd h (by decide) | exact False.elim (h (by decide))) (fun _ => ?_)
  repeat (refine hG.1 _ _ _ _ _ _ rfl ?_)
  exact And.intro rfl (And.intro rfl rfl)
theorem m_addNode_2 (S : PS) (j : Nat) (use : Int32) (h : okR use (nI 0) (nI 10000)) (hn : S.1 12 0 = nI 16) (hj : j < 16) : Run 0 63 [.ref 12, .int (nI j), .int use] S (.inl (some (nI 0))) (sThr S (nI 3)) := by
  refine run_of (by decide +kernel) rfl (fun L xs G hG => ?_)
  repeat (refine hG.1 _ _ _ _ _ _ rfl ?_)
  refine cx (m_isIn_t S h) rfl ?_
  repeat (refine hG.1 _ _ _ _ _ _ rfl ?_)
  refine And.intro (fun _ => ?_) (fun h => by first | exact absurd h (by decide) | exact False.elim (h (by decide)))
  repeat (refine hG.1 _ _ _ _ _ _ rfl ?_)
  refine And.intro rfl (cx (m_isNode_t S j 16 hn (by omega) hj) rfl ?_)
  repeat (refine hG.1 _ _ _ _ _ _ rfl ?_)
  refine And.intro (fun _ => ?_) (fun h => by first | exact absurd h (by decide) | exact False.elim (h (by decide)))
  repeat (refine hG.1 _ _ _ _ _ _ rfl ?_)
  rw [hn]
  refine And.intro (fun h => by first | exact absurd h (by decide) | exact False.elim (h (by decide))) (fun _ => ?_)
  repeat (refine hG.1 _ _ _ _ _ _ rfl ?_)
  refine And.intro rfl (cx (m_fails_t S (nI 3) (by decide)) rfl ?_)
  repeat (refine hG.1 _ _ _ _ _ _ rfl ?_)
  refine And.intro (fun h => by first | exact absurd h (by decide) | exact False.elim (h (by decide))) (fun _ => ?_)
  repeat (refine hG.1 _ _ _ _ _ _ rfl ?_)
  exact And.intro rfl (And.intro rfl rfl)
abbrev tAddNode (S : PS) (n j : Nat) (use : Int32) : PS := (va_up (sThr S (nI 0)).1 12 (upd ((sThr S (nI 0)).1 12) 0 (nI (n + 1))), va_up (va_up (va_up S.2.1 13 (upd (S.2.1 13) n (nI j))) 14 (upd (S.2.1 14) n use)) 16 (upd (S.2.1 16) n (-1)), S.2.2)
theorem m_addNode (S : PS) (j n : Nat) (use : Int32) (h : okR use (nI 0) (nI 10000)) (hn : S.1 12 0 = nI n) (hj : j < n) (hn16 : n < 16) : Run 0 63 [.ref 12, .int (nI j), .int use] S (.inl (some (nI n))) (tAddNode S n j use) := by
  refine run_of (by decide +kernel) rfl (fun L xs G hG => ?_)
  repeat (refine hG.1 _ _ _ _ _ _ rfl ?_)
  refine cx (m_isIn_t S h) rfl ?_
  repeat (refine hG.1 _ _ _ _ _ _ rfl ?_)
  refine And.intro (fun _ => ?_) (fun h => by first | exact absurd h (by decide) | exact False.elim (h (by decide)))
  repeat (refine hG.1 _ _ _ _ _ _ rfl ?_)
  refine And.intro rfl (cx (m_isNode_t S j n hn (by omega) hj) rfl ?_)
  repeat (refine hG.1 _ _ _ _ _ _ rfl ?_)
  refine And.intro (fun _ => ?_) (fun h => by first | exact absurd h (by decide) | exact False.elim (h (by decide)))
  repeat (refine hG.1 _ _ _ _ _ _ rfl ?_)
  rw [hn]
  refine And.intro (fun h2 => ?_) (fun h2 => ?_)
  · repeat (refine hG.1 _ _ _ _ _ _ rfl ?_)
    refine And.intro rfl (cx (m_fails_f S) rfl ?_)
    repeat (refine hG.1 _ _ _ _ _ _ rfl ?_)
    refine And.intro (fun _ => ?_) (fun h => by first | exact absurd h (by decide) | exact False.elim (h (by decide)))
    repeat (refine hG.1 _ _ _ _ _ _ rfl ?_)
    rw [show (sThr S (nI 0)).1 12 0 = nI n from hn]
    refine And.intro (vp_in_nI (hn16) (by decide)) ?_; rw [nI_clamp (Nat.lt_trans (hn16) (by decide))]
    repeat (refine hG.1 _ _ _ _ _ _ rfl ?_)
    rw [show (sThr S (nI 0)).1 12 0 = nI n from hn]
    refine And.intro (vp_in_nI (hn16) (by decide)) ?_; rw [nI_clamp (Nat.lt_trans (hn16) (by decide))]
    repeat (refine hG.1 _ _ _ _ _ _ rfl ?_)
    rw [show (sThr S (nI 0)).1 12 0 = nI n from hn]
    refine And.intro (vp_in_nI (hn16) (by decide)) ?_; rw [nI_clamp (Nat.lt_trans (hn16) (by decide))]
    repeat (refine hG.1 _ _ _ _ _ _ rfl ?_)
    rw [show (sThr S (nI 0)).1 12 0 = nI n from hn, nI_add]
    repeat (refine hG.1 _ _ _ _ _ _ rfl ?_)
    refine And.intro rfl (And.intro ?_ rfl)
    show Sum.inl (some (nI (n + 1) - nI 1)) = _
    rw [pk_sub (by omega)]
    rfl
  · have h3 : nI n = nI 16 := h2
    have := (nI_eq (by omega) (by omega)).mp h3
    omega
theorem m_setBackground_0 (S : PS) (x amt : Int32) (h : noR amt (nI 0) (nI 10000)) : Run 0 64 [.ref 12, .int x, .int amt] S (.inl (some (nI 0))) (sThr S (nI 1)) := by
  refine run_of (by decide +kernel) rfl (fun L xs G hG => ?_)
  repeat (refine hG.1 _ _ _ _ _ _ rfl ?_)
  refine cx (m_isIn_f S h) rfl ?_
  repeat (refine hG.1 _ _ _ _ _ _ rfl ?_)
  refine And.intro (fun h => by first | exact absurd h (by decide) | exact False.elim (h (by decide))) (fun _ => ?_)
  repeat (refine hG.1 _ _ _ _ _ _ rfl ?_)
  refine And.intro rfl (cx (m_fails_t S (nI 1) (by decide)) rfl ?_)
  repeat (refine hG.1 _ _ _ _ _ _ rfl ?_)
  refine And.intro (fun h => by first | exact absurd h (by decide) | exact False.elim (h (by decide))) (fun _ => ?_)
  repeat (refine hG.1 _ _ _ _ _ _ rfl ?_)
  exact And.intro rfl (And.intro rfl rfl)
theorem m_setBackground_1 (S : PS) (x amt : Int32) (n : Nat) (h : okR amt (nI 0) (nI 10000)) (hn : S.1 12 0 = nI n) (hn16 : n ≤ 16) (h1n : 1 ≤ n) (h1 : noN x (nI n)) : Run 0 64 [.ref 12, .int x, .int amt] S (.inl (some (nI 0))) (sThr S (nI 2)) := by
  refine run_of (by decide +kernel) rfl (fun L xs G hG => ?_)
  repeat (refine hG.1 _ _ _ _ _ _ rfl ?_)
  refine cx (m_isIn_t S h) rfl ?_
  repeat (refine hG.1 _ _ _ _ _ _ rfl ?_)
  refine And.intro (fun _ => ?_) (fun h => by first | exact absurd h (by decide) | exact False.elim (h (by decide)))
  repeat (refine hG.1 _ _ _ _ _ _ rfl ?_)
  refine And.intro rfl (cx (m_isNode_f S _ n hn hn16 h1n h1) rfl ?_)
  repeat (refine hG.1 _ _ _ _ _ _ rfl ?_)
  refine And.intro (fun _ => ?_) (fun h => by first | exact absurd h (by decide) | exact False.elim (h (by decide)))
  repeat (refine hG.1 _ _ _ _ _ _ rfl ?_)
  refine And.intro rfl (cx (m_fails_t S (nI 2) (by decide)) rfl ?_)
  repeat (refine hG.1 _ _ _ _ _ _ rfl ?_)
  refine And.intro (fun h => by first | exact absurd h (by decide) | exact False.elim (h (by decide))) (fun _ => ?_)
  repeat (refine hG.1 _ _ _ _ _ _ rfl ?_)
  exact And.intro rfl (And.intro rfl rfl)
abbrev tSetB (S : PS) (j : Nat) (amt : Int32) : PS := ((sThr S (nI 0)).1, va_up S.2.1 15 (upd (S.2.1 15) j amt), S.2.2)
theorem m_setBackground (S : PS) (j n nb : Nat) (rp sh amt : Int32) (h : okR amt (nI 0) (nI 10000)) (hM : MR (tSetB S j amt) n nb rp sh) (hj : j < n) : Run 0 64 [.ref 12, .int (nI j), .int amt] S (.inl (some (lkgX S.2.1 nb rp j))) (tSetB S j amt) := by
  have hn : S.1 12 0 = nI n := hM.1.1
  have hn16 := hM.1.2.2.1
  refine run_of (by decide +kernel) rfl (fun L xs G hG => ?_)
  repeat (refine hG.1 _ _ _ _ _ _ rfl ?_)
  refine cx (m_isIn_t S h) rfl ?_
  repeat (refine hG.1 _ _ _ _ _ _ rfl ?_)
  refine And.intro (fun _ => ?_) (fun h => by first | exact absurd h (by decide) | exact False.elim (h (by decide)))
  repeat (refine hG.1 _ _ _ _ _ _ rfl ?_)
  refine And.intro rfl (cx (m_isNode_t S j n hn hn16 hj) rfl ?_)
  repeat (refine hG.1 _ _ _ _ _ _ rfl ?_)
  refine And.intro (fun h => by first | exact absurd h (by decide) | exact False.elim (h (by decide))) (fun _ => ?_)
  repeat (refine hG.1 _ _ _ _ _ _ rfl ?_)
  refine And.intro rfl (cx (m_fails_f S) rfl ?_)
  repeat (refine hG.1 _ _ _ _ _ _ rfl ?_)
  refine And.intro (fun _ => ?_) (fun h => by first | exact absurd h (by decide) | exact False.elim (h (by decide)))
  repeat (refine hG.1 _ _ _ _ _ _ rfl ?_)
  refine And.intro (vp_in_nI ((show j < 16 by omega)) (by decide)) ?_; rw [nI_clamp (Nat.lt_trans ((show j < 16 by omega)) (by decide))]
  repeat (refine hG.1 _ _ _ _ _ _ rfl ?_)
  refine And.intro rfl (cx (m_leaks (tSetB S j amt) j n nb rp sh hM hj) rfl ?_)
  repeat (refine hG.1 _ _ _ _ _ _ rfl ?_)
  refine And.intro rfl (And.intro ?_ rfl)
  rw [lkgX_congr (A := S.2.1) (A' := (tSetB S j amt).2.1) rfl rfl rfl rfl rfl]
theorem m_setPressure_0 (S : PS) (x v : Int32) (h : noR v (-1) (nI 100)) : Run 0 65 [.ref 12, .int x, .int v] S (.inl (some (nI 0))) (sThr S (nI 1)) := by
  refine run_of (by decide +kernel) rfl (fun L xs G hG => ?_)
  repeat (refine hG.1 _ _ _ _ _ _ rfl ?_)
  refine cx (m_isIn_f S h) rfl ?_
  repeat (refine hG.1 _ _ _ _ _ _ rfl ?_)
  refine And.intro (fun h => by first | exact absurd h (by decide) | exact False.elim (h (by decide))) (fun _ => ?_)
  repeat (refine hG.1 _ _ _ _ _ _ rfl ?_)
  refine And.intro rfl (cx (m_fails_t S (nI 1) (by decide)) rfl ?_)
  repeat (refine hG.1 _ _ _ _ _ _ rfl ?_)
  refine And.intro (fun h => by first | exact absurd h (by decide) | exact False.elim (h (by decide))) (fun _ => ?_)
  repeat (refine hG.1 _ _ _ _ _ _ rfl ?_)
  exact And.intro rfl (And.intro rfl rfl)
theorem m_setPressure_1 (S : PS) (x v : Int32) (n : Nat) (h : okR v (-1) (nI 100)) (hn : S.1 12 0 = nI n) (hn16 : n ≤ 16) (h1n : 1 ≤ n) (h1 : x ≤ 0 ∨ ¬ x < nI n) : Run 0 65 [.ref 12, .int x, .int v] S (.inl (some (nI 0))) (sThr S (nI 2)) := by
  refine run_of (by decide +kernel) rfl (fun L xs G hG => ?_)
  repeat (refine hG.1 _ _ _ _ _ _ rfl ?_)
  refine cx (m_isIn_t S h) rfl ?_
  repeat (refine hG.1 _ _ _ _ _ _ rfl ?_)
  refine And.intro (fun _ => ?_) (fun h => by first | exact absurd h (by decide) | exact False.elim (h (by decide)))
  repeat (refine hG.1 _ _ _ _ _ _ rfl ?_)
  refine And.intro rfl (cx (m_isPipe_f S _ n hn hn16 h1n h1) rfl ?_)
  repeat (refine hG.1 _ _ _ _ _ _ rfl ?_)
  refine And.intro (fun _ => ?_) (fun h => by first | exact absurd h (by decide) | exact False.elim (h (by decide)))
  repeat (refine hG.1 _ _ _ _ _ _ rfl ?_)
  refine And.intro rfl (cx (m_fails_t S (nI 2) (by decide)) rfl ?_)
  repeat (refine hG.1 _ _ _ _ _ _ rfl ?_)
  refine And.intro (fun h => by first | exact absurd h (by decide) | exact False.elim (h (by decide))) (fun _ => ?_)
  repeat (refine hG.1 _ _ _ _ _ _ rfl ?_)
  exact And.intro rfl (And.intro rfl rfl)
abbrev tSetP (S : PS) (j : Nat) (v : Int32) : PS := ((sThr S (nI 0)).1, va_up S.2.1 16 (upd (S.2.1 16) j v), S.2.2)
theorem m_setPressure (S : PS) (j n nb : Nat) (rp sh v : Int32) (h : okR v (-1) (nI 100)) (hM : MR (tSetP S j v) n nb rp sh) (h0 : 0 < j) (hj : j < n) : Run 0 65 [.ref 12, .int (nI j), .int v] S (.inl (some (prs S.2.1 j))) (tSetP S j v) := by
  have hn : S.1 12 0 = nI n := hM.1.1
  have hn16 := hM.1.2.2.1
  refine run_of (by decide +kernel) rfl (fun L xs G hG => ?_)
  repeat (refine hG.1 _ _ _ _ _ _ rfl ?_)
  refine cx (m_isIn_t S h) rfl ?_
  repeat (refine hG.1 _ _ _ _ _ _ rfl ?_)
  refine And.intro (fun _ => ?_) (fun h => by first | exact absurd h (by decide) | exact False.elim (h (by decide)))
  repeat (refine hG.1 _ _ _ _ _ _ rfl ?_)
  refine And.intro rfl (cx (m_isPipe_t S j n hn hn16 h0 hj) rfl ?_)
  repeat (refine hG.1 _ _ _ _ _ _ rfl ?_)
  refine And.intro (fun h => by first | exact absurd h (by decide) | exact False.elim (h (by decide))) (fun _ => ?_)
  repeat (refine hG.1 _ _ _ _ _ _ rfl ?_)
  refine And.intro rfl (cx (m_fails_f S) rfl ?_)
  repeat (refine hG.1 _ _ _ _ _ _ rfl ?_)
  refine And.intro (fun _ => ?_) (fun h => by first | exact absurd h (by decide) | exact False.elim (h (by decide)))
  repeat (refine hG.1 _ _ _ _ _ _ rfl ?_)
  refine And.intro (vp_in_nI ((show j < 16 by omega)) (by decide)) ?_; rw [nI_clamp (Nat.lt_trans ((show j < 16 by omega)) (by decide))]
  repeat (refine hG.1 _ _ _ _ _ _ rfl ?_)
  refine And.intro rfl (cx (m_pressureAt (tSetP S j v) j n nb rp sh hM hj) rfl ?_)
  repeat (refine hG.1 _ _ _ _ _ _ rfl ?_)
  exact And.intro rfl (And.intro rfl rfl)
theorem m_addMeter_0 (S : PS) (x : Int32) (n : Nat) (hn : S.1 12 0 = nI n) (hn16 : n ≤ 16) (h1n : 1 ≤ n) (h1 : x ≤ 0 ∨ ¬ x < nI n) : Run 0 66 [.ref 12, .int x] S (.inl (some (nI 0))) (sThr S (nI 1)) := by
  refine run_of (by decide +kernel) rfl (fun L xs G hG => ?_)
  repeat (refine hG.1 _ _ _ _ _ _ rfl ?_)
  refine And.intro rfl (cx (m_isPipe_f S _ n hn hn16 h1n h1) rfl ?_)
  repeat (refine hG.1 _ _ _ _ _ _ rfl ?_)
  refine And.intro (fun _ => ?_) (fun h => by first | exact absurd h (by decide) | exact False.elim (h (by decide)))
  repeat (refine hG.1 _ _ _ _ _ _ rfl ?_)
  refine And.intro rfl (cx (m_fails_t S (nI 1) (by decide)) rfl ?_)
  repeat (refine hG.1 _ _ _ _ _ _ rfl ?_)
  refine And.intro (fun h => by first | exact absurd h (by decide) | exact False.elim (h (by decide))) (fun _ => ?_)
  repeat (refine hG.1 _ _ _ _ _ _ rfl ?_)
  exact And.intro rfl (And.intro rfl rfl)
abbrev tMeter (S : PS) (j : Nat) : PS := ((sThr S (nI 0)).1, va_up S.2.1 17 (upd (S.2.1 17) j (nI 1)), S.2.2)
theorem m_addMeter (S : PS) (j n : Nat) (mt : Int32) (hn : S.1 12 0 = nI n) (hn16 : n ≤ 16) (h0 : 0 < j) (hj : j < n) (hm : S.2.1 17 j = bi (hs mt j)) : Run 0 66 [.ref 12, .int (nI j)] S (.inl (some (bi (¬ hs mt j)))) (tMeter S j) := by
  refine run_of (by decide +kernel) rfl (fun L xs G hG => ?_)
  repeat (refine hG.1 _ _ _ _ _ _ rfl ?_)
  refine And.intro rfl (cx (m_isPipe_t S j n hn hn16 h0 hj) rfl ?_)
  repeat (refine hG.1 _ _ _ _ _ _ rfl ?_)
  refine And.intro (fun h => by first | exact absurd h (by decide) | exact False.elim (h (by decide))) (fun _ => ?_)
  repeat (refine hG.1 _ _ _ _ _ _ rfl ?_)
  refine And.intro rfl (cx (m_fails_f S) rfl ?_)
  repeat (refine hG.1 _ _ _ _ _ _ rfl ?_)
  refine And.intro (fun _ => ?_) (fun h => by first | exact absurd h (by decide) | exact False.elim (h (by decide)))
  repeat (refine hG.1 _ _ _ _ _ _ rfl ?_)
  refine And.intro (vp_in_nI ((show j < 16 by omega)) (by decide)) ?_; rw [nI_clamp (Nat.lt_trans ((show j < 16 by omega)) (by decide))]
  rw [hm]
  repeat (refine hG.1 _ _ _ _ _ _ rfl ?_)
  refine And.intro (vp_in_nI ((show j < 16 by omega)) (by decide)) ?_; rw [nI_clamp (Nat.lt_trans ((show j < 16 by omega)) (by decide))]
  rw [nar_b1]
  repeat (refine hG.1 _ _ _ _ _ _ rfl ?_)
  refine And.intro (fun h => ?_) (fun h => ?_)
  · rw [bi_n] at h
    repeat (refine hG.1 _ _ _ _ _ _ rfl ?_)
    refine And.intro rfl (And.intro ?_ rfl)
    rw [bi_f (fun z => z h)]
  · rw [bi_0] at h
    repeat (refine hG.1 _ _ _ _ _ _ rfl ?_)
    refine And.intro rfl (And.intro ?_ rfl)
    rw [bi_t h]
theorem m_toggleValve_0 (S : PS) (x : Int32) (n : Nat) (hn : S.1 12 0 = nI n) (hn16 : n ≤ 16) (h1n : 1 ≤ n) (h1 : x ≤ 0 ∨ ¬ x < nI n) : Run 0 67 [.ref 12, .int x] S (.inl (some (nI 0))) (sThr S (nI 1)) := by
  refine run_of (by decide +kernel) rfl (fun L xs G hG => ?_)
  repeat (refine hG.1 _ _ _ _ _ _ rfl ?_)
  refine And.intro rfl (cx (m_isPipe_f S _ n hn hn16 h1n h1) rfl ?_)
  repeat (refine hG.1 _ _ _ _ _ _ rfl ?_)
  refine And.intro (fun _ => ?_) (fun h => by first | exact absurd h (by decide) | exact False.elim (h (by decide)))
  repeat (refine hG.1 _ _ _ _ _ _ rfl ?_)
  refine And.intro rfl (cx (m_fails_t S (nI 1) (by decide)) rfl ?_)
  repeat (refine hG.1 _ _ _ _ _ _ rfl ?_)
  refine And.intro (fun h => by first | exact absurd h (by decide) | exact False.elim (h (by decide))) (fun _ => ?_)
  repeat (refine hG.1 _ _ _ _ _ _ rfl ?_)
  exact And.intro rfl (And.intro rfl rfl)
abbrev tValve (S : PS) (j : Nat) (v : Int32) : PS := ((sThr S (nI 0)).1, va_up S.2.1 18 (upd (S.2.1 18) j v), S.2.2)
theorem m_toggleValve (S : PS) (j n : Nat) (sh : Int32) (hn : S.1 12 0 = nI n) (hn16 : n ≤ 16) (h0 : 0 < j) (hj : j < n) (hm : S.2.1 18 j = bi (hs sh j)) : Run 0 67 [.ref 12, .int (nI j)] S (.inl (some (bi (hs sh j)))) (tValve S j (bi (¬ hs sh j))) := by
  refine run_of (by decide +kernel) rfl (fun L xs G hG => ?_)
  repeat (refine hG.1 _ _ _ _ _ _ rfl ?_)
  refine And.intro rfl (cx (m_isPipe_t S j n hn hn16 h0 hj) rfl ?_)
  repeat (refine hG.1 _ _ _ _ _ _ rfl ?_)
  refine And.intro (fun h => by first | exact absurd h (by decide) | exact False.elim (h (by decide))) (fun _ => ?_)
  repeat (refine hG.1 _ _ _ _ _ _ rfl ?_)
  refine And.intro rfl (cx (m_fails_f S) rfl ?_)
  repeat (refine hG.1 _ _ _ _ _ _ rfl ?_)
  refine And.intro (fun _ => ?_) (fun h => by first | exact absurd h (by decide) | exact False.elim (h (by decide)))
  repeat (refine hG.1 _ _ _ _ _ _ rfl ?_)
  refine And.intro (vp_in_nI ((show j < 16 by omega)) (by decide)) ?_; rw [nI_clamp (Nat.lt_trans ((show j < 16 by omega)) (by decide))]
  rw [hm]
  repeat (refine hG.1 _ _ _ _ _ _ rfl ?_)
  refine And.intro (fun h => ?_) (fun h => ?_)
  · rw [bi_n] at h
    repeat (refine hG.1 _ _ _ _ _ _ rfl ?_)
    refine And.intro (vp_in_nI ((show j < 16 by omega)) (by decide)) ?_; rw [nI_clamp (Nat.lt_trans ((show j < 16 by omega)) (by decide))]
    rw [nar_b0]
    repeat (refine hG.1 _ _ _ _ _ _ rfl ?_)
    refine And.intro (vp_in_nI ((show j < 16 by omega)) (by decide)) ?_; rw [nI_clamp (Nat.lt_trans ((show j < 16 by omega)) (by decide))]
    rw [show (tValve S j (nI 0)).2.1 18 j = nI 0 from upd_same]
    repeat (refine hG.1 _ _ _ _ _ _ rfl ?_)
    refine And.intro (fun h => by first | exact absurd h (by decide) | exact False.elim (h (by decide))) (fun _ => ?_)
    repeat (refine hG.1 _ _ _ _ _ _ rfl ?_)
    rw [bi_t h, bi_f (fun z => z h)]
    exact And.intro rfl (And.intro rfl rfl)
  · rw [bi_0] at h
    repeat (refine hG.1 _ _ _ _ _ _ rfl ?_)
    refine And.intro (vp_in_nI ((show j < 16 by omega)) (by decide)) ?_; rw [nI_clamp (Nat.lt_trans ((show j < 16 by omega)) (by decide))]
    rw [nar_b1]
    repeat (refine hG.1 _ _ _ _ _ _ rfl ?_)
    refine And.intro (vp_in_nI ((show j < 16 by omega)) (by decide)) ?_; rw [nI_clamp (Nat.lt_trans ((show j < 16 by omega)) (by decide))]
    rw [show (tValve S j (nI 1)).2.1 18 j = nI 1 from upd_same]
    repeat (refine hG.1 _ _ _ _ _ _ rfl ?_)
    refine And.intro (fun _ => ?_) (fun h => by first | exact absurd h (by decide) | exact False.elim (h (by decide)))
    repeat (refine hG.1 _ _ _ _ _ _ rfl ?_)
    rw [bi_t h, bi_f h]
    exact And.intro rfl (And.intro rfl rfl)
theorem m_isSupplied_0 (S : PS) (x : Int32) (n : Nat) (hn : S.1 12 0 = nI n) (hn16 : n ≤ 16) (h1n : 1 ≤ n) (h1 : noN x (nI n)) : Run 0 68 [.ref 12, .int x] S (.inl (some (nI 0))) (sThr S (nI 1)) := by
  refine run_of (by decide +kernel) rfl (fun L xs G hG => ?_)
  repeat (refine hG.1 _ _ _ _ _ _ rfl ?_)
  refine And.intro rfl (cx (m_isNode_f S _ n hn hn16 h1n h1) rfl ?_)
  repeat (refine hG.1 _ _ _ _ _ _ rfl ?_)
  refine And.intro (fun _ => ?_) (fun h => by first | exact absurd h (by decide) | exact False.elim (h (by decide)))
  repeat (refine hG.1 _ _ _ _ _ _ rfl ?_)
  refine And.intro rfl (cx (m_fails_t S (nI 1) (by decide)) rfl ?_)
  repeat (refine hG.1 _ _ _ _ _ _ rfl ?_)
  refine And.intro (fun _ => ?_) (fun h => by first | exact absurd h (by decide) | exact False.elim (h (by decide)))
  repeat (refine hG.1 _ _ _ _ _ _ rfl ?_)
  exact And.intro rfl (And.intro rfl rfl)
theorem m_isSupplied (S : PS) (j n nb : Nat) (rp sh : Int32) (hM : MR S n nb rp sh) (hj : j < n) : Run 0 68 [.ref 12, .int (nI j)] S (.inl (some (bi (S.2.1 1 j &&& sh = 0)))) (sThr S (nI 0)) := by
  obtain ⟨⟨h0, h1n, hn, hb, hnb⟩, hW, -, -, ⟨hsh, hs0⟩, -⟩ := id hM
  refine run_of (by decide +kernel) rfl (fun L xs G hG => ?_)
  repeat (refine hG.1 _ _ _ _ _ _ rfl ?_)
  refine And.intro rfl (cx (m_isNode_t S j n h0 hn hj) rfl ?_)
  repeat (refine hG.1 _ _ _ _ _ _ rfl ?_)
  refine And.intro (fun h => by first | exact absurd h (by decide) | exact False.elim (h (by decide))) (fun _ => ?_)
  repeat (refine hG.1 _ _ _ _ _ _ rfl ?_)
  refine And.intro rfl (cx (m_fails_f S) rfl ?_)
  repeat (refine hG.1 _ _ _ _ _ _ rfl ?_)
  refine And.intro (fun h => by first | exact absurd h (by decide) | exact False.elim (h (by decide))) (fun _ => ?_)
  repeat (refine hG.1 _ _ _ _ _ _ rfl ?_)
  refine And.intro rfl (cx (m_supplied (sThr S (nI 0)) j n sh hW hn hj hsh hs0) rfl ?_)
  repeat (refine hG.1 _ _ _ _ _ _ rfl ?_)
  refine And.intro (fun h => ?_) (fun h => ?_)
  · rw [bi_0] at h
    repeat (refine hG.1 _ _ _ _ _ _ rfl ?_)
    refine And.intro rfl (And.intro ?_ rfl)
    rw [bi_f h]
  · rw [bi_n] at h
    repeat (refine hG.1 _ _ _ _ _ _ rfl ?_)
    refine And.intro rfl (And.intro ?_ rfl)
    rw [bi_t h]
theorem m_takes_0 (S : PS) (x : Int32) (n : Nat) (hn : S.1 12 0 = nI n) (hn16 : n ≤ 16) (h1n : 1 ≤ n) (h1 : noN x (nI n)) : Run 0 69 [.ref 12, .int x] S (.inl (some (nI 0))) (sThr S (nI 1)) := by
  refine run_of (by decide +kernel) rfl (fun L xs G hG => ?_)
  repeat (refine hG.1 _ _ _ _ _ _ rfl ?_)
  refine And.intro rfl (cx (m_isNode_f S _ n hn hn16 h1n h1) rfl ?_)
  repeat (refine hG.1 _ _ _ _ _ _ rfl ?_)
  refine And.intro (fun _ => ?_) (fun h => by first | exact absurd h (by decide) | exact False.elim (h (by decide)))
  repeat (refine hG.1 _ _ _ _ _ _ rfl ?_)
  refine And.intro rfl (cx (m_fails_t S (nI 1) (by decide)) rfl ?_)
  repeat (refine hG.1 _ _ _ _ _ _ rfl ?_)
  refine And.intro (fun h => by first | exact absurd h (by decide) | exact False.elim (h (by decide))) (fun _ => ?_)
  repeat (refine hG.1 _ _ _ _ _ _ rfl ?_)
  exact And.intro rfl (And.intro rfl rfl)
theorem m_takes (S : PS) (j n nb : Nat) (rp sh : Int32) (hM : MR S n nb rp sh) (hj : j < n) : Run 0 69 [.ref 12, .int (nI j)] S (.inl (some (tknX S.2.1 nb rp sh j))) (sThr S (nI 0)) := by
  refine run_of (by decide +kernel) rfl (fun L xs G hG => ?_)
  repeat (refine hG.1 _ _ _ _ _ _ rfl ?_)
  refine And.intro rfl (cx (m_isNode_t S j n hM.1.1 hM.1.2.2.1 hj) rfl ?_)
  repeat (refine hG.1 _ _ _ _ _ _ rfl ?_)
  refine And.intro (fun h => by first | exact absurd h (by decide) | exact False.elim (h (by decide))) (fun _ => ?_)
  repeat (refine hG.1 _ _ _ _ _ _ rfl ?_)
  refine And.intro rfl (cx (m_fails_f S) rfl ?_)
  repeat (refine hG.1 _ _ _ _ _ _ rfl ?_)
  refine And.intro (fun _ => ?_) (fun h => by first | exact absurd h (by decide) | exact False.elim (h (by decide)))
  repeat (refine hG.1 _ _ _ _ _ _ rfl ?_)
  refine And.intro rfl (cx (m_taken (sThr S (nI 0)) j n nb rp sh hM hj) rfl ?_)
  repeat (refine hG.1 _ _ _ _ _ _ rfl ?_)
  exact And.intro rfl (And.intro rfl rfl)
theorem m_flow_0 (S : PS) (x : Int32) (n : Nat) (hn : S.1 12 0 = nI n) (hn16 : n ≤ 16) (h1n : 1 ≤ n) (h1 : x ≤ 0 ∨ ¬ x < nI n) : Run 0 70 [.ref 12, .int x] S (.inl (some (nI 0))) (sThr S (nI 1)) := by
  refine run_of (by decide +kernel) rfl (fun L xs G hG => ?_)
  repeat (refine hG.1 _ _ _ _ _ _ rfl ?_)
  refine And.intro rfl (cx (m_isPipe_f S _ n hn hn16 h1n h1) rfl ?_)
  repeat (refine hG.1 _ _ _ _ _ _ rfl ?_)
  refine And.intro (fun h => by first | exact absurd h (by decide) | exact False.elim (h (by decide))) (fun _ => ?_)
  repeat (refine hG.1 _ _ _ _ _ _ rfl ?_)
  refine And.intro rfl (cx (m_fails_t S (nI 1) (by decide)) rfl ?_)
  repeat (refine hG.1 _ _ _ _ _ _ rfl ?_)
  refine And.intro (fun h => by first | exact absurd h (by decide) | exact False.elim (h (by decide))) (fun _ => ?_)
  repeat (refine hG.1 _ _ _ _ _ _ rfl ?_)
  exact And.intro rfl (And.intro rfl rfl)
theorem m_flow_1 (S : PS) (j n : Nat) (hn : S.1 12 0 = nI n) (hn16 : n ≤ 16) (h0 : 0 < j) (hj : j < n) (hm : S.2.1 17 j = nI 0) : Run 0 70 [.ref 12, .int (nI j)] S (.inl (some (nI 0))) (sThr S (nI 2)) := by
  refine run_of (by decide +kernel) rfl (fun L xs G hG => ?_)
  repeat (refine hG.1 _ _ _ _ _ _ rfl ?_)
  refine And.intro rfl (cx (m_isPipe_t S j n hn hn16 h0 hj) rfl ?_)
  repeat (refine hG.1 _ _ _ _ _ _ rfl ?_)
  refine And.intro (fun _ => ?_) (fun h => by first | exact absurd h (by decide) | exact False.elim (h (by decide)))
  repeat (refine hG.1 _ _ _ _ _ _ rfl ?_)
  refine And.intro (vp_in_nI ((show j < 16 by omega)) (by decide)) ?_; rw [nI_clamp (Nat.lt_trans ((show j < 16 by omega)) (by decide))]
  rw [hm]
  repeat (refine hG.1 _ _ _ _ _ _ rfl ?_)
  refine And.intro (fun _ => ?_) (fun h => by first | exact absurd h (by decide) | exact False.elim (h (by decide)))
  repeat (refine hG.1 _ _ _ _ _ _ rfl ?_)
  refine And.intro rfl (cx (m_fails_t S (nI 2) (by decide)) rfl ?_)
  repeat (refine hG.1 _ _ _ _ _ _ rfl ?_)
  refine And.intro (fun h => by first | exact absurd h (by decide) | exact False.elim (h (by decide))) (fun _ => ?_)
  repeat (refine hG.1 _ _ _ _ _ _ rfl ?_)
  exact And.intro rfl (And.intro rfl rfl)
theorem m_flow (S : PS) (j n nb : Nat) (rp sh : Int32) (hM : MR S n nb rp sh) (h0 : 0 < j) (hj : j < n) (hm : S.2.1 17 j = nI 1) : Run 0 70 [.ref 12, .int (nI j)] S (.inl (some (flX S.2.1 n nb rp sh (nI j)))) (sThr S (nI 0)) := by
  have hn16 := hM.1.2.2.1
  refine run_of (by decide +kernel) rfl (fun L xs G hG => ?_)
  repeat (refine hG.1 _ _ _ _ _ _ rfl ?_)
  refine And.intro rfl (cx (m_isPipe_t S j n hM.1.1 hM.1.2.2.1 h0 hj) rfl ?_)
  repeat (refine hG.1 _ _ _ _ _ _ rfl ?_)
  refine And.intro (fun _ => ?_) (fun h => by first | exact absurd h (by decide) | exact False.elim (h (by decide)))
  repeat (refine hG.1 _ _ _ _ _ _ rfl ?_)
  refine And.intro (vp_in_nI ((show j < 16 by omega)) (by decide)) ?_; rw [nI_clamp (Nat.lt_trans ((show j < 16 by omega)) (by decide))]
  rw [hm]
  repeat (refine hG.1 _ _ _ _ _ _ rfl ?_)
  refine And.intro (fun h => by first | exact absurd h (by decide) | exact False.elim (h (by decide))) (fun _ => ?_)
  repeat (refine hG.1 _ _ _ _ _ _ rfl ?_)
  refine And.intro rfl (cx (m_fails_f S) rfl ?_)
  repeat (refine hG.1 _ _ _ _ _ _ rfl ?_)
  refine And.intro (fun _ => ?_) (fun h => by first | exact absurd h (by decide) | exact False.elim (h (by decide)))
  repeat (refine hG.1 _ _ _ _ _ _ rfl ?_)
  refine And.intro rfl (cx (m_flowBelow (sThr S (nI 0)) j n nb rp sh hM hj) rfl ?_)
  repeat (refine hG.1 _ _ _ _ _ _ rfl ?_)
  exact And.intro rfl (And.intro rfl rfl)
theorem m_allFlow (S : PS) (n nb : Nat) (rp sh : Int32) (hM : MR S n nb rp sh) : Run 0 71 [.ref 12] S (.inl (some (flX S.2.1 n nb rp sh (nI 0)))) (sThr S (nI 0)) := by
  refine run_of (by decide +kernel) rfl (fun L xs G hG => ?_)
  repeat (refine hG.1 _ _ _ _ _ _ rfl ?_)
  refine And.intro rfl (cx (m_flowBelow S 0 n nb rp sh hM (by have := hM.1.2.1; omega)) rfl ?_)
  repeat (refine hG.1 _ _ _ _ _ _ rfl ?_)
  refine And.intro rfl (cx (m_tells S _) rfl ?_)
  repeat (refine hG.1 _ _ _ _ _ _ rfl ?_)
  exact And.intro rfl (And.intro rfl rfl)
theorem m_addArea_0 (S : PS) (x : Int32) (n : Nat) (hn : S.1 12 0 = nI n) (hn16 : n ≤ 16) (h1n : 1 ≤ n) (h1 : noN x (nI n)) : Run 0 76 [.ref 12, .int x] S (.inl (some (nI 0))) (sThr S (nI 1)) := by
  refine run_of (by decide +kernel) rfl (fun L xs G hG => ?_)
  repeat (refine hG.1 _ _ _ _ _ _ rfl ?_)
  refine And.intro rfl (cx (m_isNode_f S _ n hn hn16 h1n h1) rfl ?_)
  repeat (refine hG.1 _ _ _ _ _ _ rfl ?_)
  refine And.intro (fun h => by first | exact absurd h (by decide) | exact False.elim (h (by decide))) (fun _ => ?_)
  repeat (refine hG.1 _ _ _ _ _ _ rfl ?_)
  refine And.intro rfl (cx (m_fails_t S (nI 1) (by decide)) rfl ?_)
  repeat (refine hG.1 _ _ _ _ _ _ rfl ?_)
  refine And.intro (fun h => by first | exact absurd h (by decide) | exact False.elim (h (by decide))) (fun _ => ?_)
  repeat (refine hG.1 _ _ _ _ _ _ rfl ?_)
  exact And.intro rfl (And.intro rfl rfl)
theorem m_addArea_1 (S : PS) (j n : Nat) (hn : S.1 12 0 = nI n) (hn16 : n ≤ 16) (hj : j < n) (ha : S.1 12 8 = nI 8) : Run 0 76 [.ref 12, .int (nI j)] S (.inl (some (nI 0))) (sThr S (nI 2)) := by
  refine run_of (by decide +kernel) rfl (fun L xs G hG => ?_)
  repeat (refine hG.1 _ _ _ _ _ _ rfl ?_)
  refine And.intro rfl (cx (m_isNode_t S j n hn hn16 hj) rfl ?_)
  repeat (refine hG.1 _ _ _ _ _ _ rfl ?_)
  refine And.intro (fun _ => ?_) (fun h => by first | exact absurd h (by decide) | exact False.elim (h (by decide)))
  repeat (refine hG.1 _ _ _ _ _ _ rfl ?_)
  rw [ha]
  refine And.intro (fun h => by first | exact absurd h (by decide) | exact False.elim (h (by decide))) (fun _ => ?_)
  repeat (refine hG.1 _ _ _ _ _ _ rfl ?_)
  refine And.intro rfl (cx (m_fails_t S (nI 2) (by decide)) rfl ?_)
  repeat (refine hG.1 _ _ _ _ _ _ rfl ?_)
  refine And.intro (fun h => by first | exact absurd h (by decide) | exact False.elim (h (by decide))) (fun _ => ?_)
  repeat (refine hG.1 _ _ _ _ _ _ rfl ?_)
  exact And.intro rfl (And.intro rfl rfl)
abbrev tArea (S : PS) (na j : Nat) : PS := (va_up (sThr S (nI 0)).1 12 (upd ((sThr S (nI 0)).1 12) 8 (nI (na + 1))), va_up S.2.1 20 (upd (S.2.1 20) na (nI j)), S.2.2)
theorem m_addArea (S : PS) (j n na : Nat) (hn : S.1 12 0 = nI n) (hn16 : n ≤ 16) (hj : j < n) (ha : S.1 12 8 = nI na) (hna : na < 8) : Run 0 76 [.ref 12, .int (nI j)] S (.inl (some (nI na))) (tArea S na j) := by
  refine run_of (by decide +kernel) rfl (fun L xs G hG => ?_)
  repeat (refine hG.1 _ _ _ _ _ _ rfl ?_)
  refine And.intro rfl (cx (m_isNode_t S j n hn hn16 hj) rfl ?_)
  repeat (refine hG.1 _ _ _ _ _ _ rfl ?_)
  refine And.intro (fun _ => ?_) (fun h => by first | exact absurd h (by decide) | exact False.elim (h (by decide)))
  repeat (refine hG.1 _ _ _ _ _ _ rfl ?_)
  rw [ha]
  refine And.intro (fun h2 => ?_) (fun h2 => ?_)
  · repeat (refine hG.1 _ _ _ _ _ _ rfl ?_)
    refine And.intro rfl (cx (m_fails_f S) rfl ?_)
    repeat (refine hG.1 _ _ _ _ _ _ rfl ?_)
    refine And.intro (fun _ => ?_) (fun h => by first | exact absurd h (by decide) | exact False.elim (h (by decide)))
    repeat (refine hG.1 _ _ _ _ _ _ rfl ?_)
    rw [show (sThr S (nI 0)).1 12 8 = nI na from ha]
    refine And.intro (vp_in_nI (hna) (by decide)) ?_; rw [nI_clamp (Nat.lt_trans (hna) (by decide))]
    repeat (refine hG.1 _ _ _ _ _ _ rfl ?_)
    rw [show (sThr S (nI 0)).1 12 8 = nI na from ha, nI_add]
    repeat (refine hG.1 _ _ _ _ _ _ rfl ?_)
    refine And.intro rfl (And.intro ?_ rfl)
    show Sum.inl (some (nI (na + 1) - nI 1)) = _
    rw [pk_sub (by omega)]
    rfl
  · have h3 : nI na = nI 8 := h2
    have := (nI_eq (by omega) (by omega)).mp h3
    omega
