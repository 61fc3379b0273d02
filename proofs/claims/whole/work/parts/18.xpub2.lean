theorem x_addExport_0 (S : PS) (x y : Int32) (h1 : noN x (S.1 0 7)) : Run 1 11 [.ref 0, .int x, .int y] S (.inr 1) S := by
  refine run_of (by decide +kernel) rfl (fun L xs G hG => ?_)
  repeat (refine hG.1 _ _ _ _ _ _ rfl ?_)
  refine And.intro rfl (cx (r_needArea_x S _ h1) rfl ?_)
  exact And.intro rfl (And.intro rfl rfl)
theorem x_addExport_1 (S : PS) (a na : Nat) (y : Int32) (ha : a < na) (hna : na ≤ 8) (h7 : S.1 0 7 = nI na) (h1 : noN y (S.1 0 0)) : Run 1 11 [.ref 0, .int (nI a), .int y] S (.inr 1) S := by
  have hk := nI_okn ha (by omega)
  refine run_of (by decide +kernel) rfl (fun L xs G hG => ?_)
  repeat (refine hG.1 _ _ _ _ _ _ rfl ?_)
  refine And.intro rfl (cx (r_needArea S _ hk.1 (by rw [h7]; exact hk.2)) rfl ?_)
  repeat (refine hG.1 _ _ _ _ _ _ rfl ?_)
  refine And.intro rfl (cx (r_needNode_x S _ h1) rfl ?_)
  exact And.intro rfl (And.intro rfl rfl)
abbrev canX (A : Nat → Nat → Int32) (a j : Nat) : Prop := ¬ nI j = A 5 a ∧ hsv (A 1 j) (A 5 a) ∧ ¬ hs (A 6 a) j
theorem x_addExport_2 (S : PS) (a na j n : Nat) (ha : a < na) (hna : na ≤ 8) (h7 : S.1 0 7 = nI na) (hn : S.1 0 0 = nI n) (hn16 : n ≤ 16) (hj : j < n) (hc : ¬ canX S.2.1 a j) : Run 1 11 [.ref 0, .int (nI a), .int (nI j)] S (.inr 2) S := by
  have hk := nI_okn ha (by omega)
  have hk2 := nI_okn hj (by omega)
  refine run_of (by decide +kernel) rfl (fun L xs G hG => ?_)
  repeat (refine hG.1 _ _ _ _ _ _ rfl ?_)
  refine And.intro rfl (cx (r_needArea S _ hk.1 (by rw [h7]; exact hk.2)) rfl ?_)
  repeat (refine hG.1 _ _ _ _ _ _ rfl ?_)
  refine And.intro rfl (cx (r_needNode S _ hk2.1 (by rw [hn]; exact hk2.2)) rfl ?_)
  repeat (refine hG.1 _ _ _ _ _ _ rfl ?_)
  refine And.intro (vp_in_nI ((show a < 8 by omega)) (by decide)) ?_; rw [nI_clamp (Nat.lt_trans ((show a < 8 by omega)) (by decide))]
  repeat (refine hG.1 _ _ _ _ _ _ rfl ?_)
  refine And.intro (fun h1 => ?_) (fun h1 => ?_)
  · repeat (refine hG.1 _ _ _ _ _ _ rfl ?_)
    exact And.intro rfl (And.intro rfl (And.intro (Nat.le_refl _) (And.intro rfl rfl)))
  · repeat (refine hG.1 _ _ _ _ _ _ rfl ?_)
    refine And.intro (vp_in_nI ((show j < 16 by omega)) (by decide)) ?_; rw [nI_clamp (Nat.lt_trans ((show j < 16 by omega)) (by decide))]
    repeat (refine hG.1 _ _ _ _ _ _ rfl ?_)
    refine cx (r_has S _ _) rfl ?_
    repeat (refine hG.1 _ _ _ _ _ _ rfl ?_)
    refine And.intro (fun h2 => ?_) (fun h2 => ?_)
    · repeat (refine hG.1 _ _ _ _ _ _ rfl ?_)
      exact And.intro rfl (And.intro rfl (And.intro (Nat.le_refl _) (And.intro rfl rfl)))
    · rw [bi_n] at h2
      repeat (refine hG.1 _ _ _ _ _ _ rfl ?_)
      refine And.intro (vp_in_nI ((show a < 8 by omega)) (by decide)) ?_; rw [nI_clamp (Nat.lt_trans ((show a < 8 by omega)) (by decide))]
      repeat (refine hG.1 _ _ _ _ _ _ rfl ?_)
      refine cx (r_has S _ _) rfl ?_
      repeat (refine hG.1 _ _ _ _ _ _ rfl ?_)
      refine And.intro (fun h3 => ?_) (fun h3 => ?_)
      · rw [bi_0] at h3
        exact absurd ⟨h1, h2, h3⟩ hc
      · repeat (refine hG.1 _ _ _ _ _ _ rfl ?_)
        exact And.intro rfl (And.intro rfl (And.intro (Nat.le_refl _) (And.intro rfl rfl)))
abbrev sExp (S : PS) (a j : Nat) : PS := (S.1, va_up S.2.1 6 (upd (S.2.1 6) a (S.2.1 6 a ||| one j)), S.2.2)
theorem x_addExport (S : PS) (a na j n nb : Nat) (ha : a < na) (hna : na ≤ 8) (h7 : S.1 0 7 = nI na) (hX : Xn S n nb) (hj : j < n) (hc : canX S.2.1 a j) : Run 0 11 [.ref 0, .int (nI a), .int (nI j)] S (.inl (some (bcI (stL (inA (sExp S a j).2.1 a) n)))) (sExp S a j) := by
  have hn16 := hX.2.1
  have hk := nI_okn ha (by omega)
  have hk2 := nI_okn hj (by omega)
  refine run_of (by decide +kernel) rfl (fun L xs G hG => ?_)
  repeat (refine hG.1 _ _ _ _ _ _ rfl ?_)
  refine And.intro rfl (cx (r_needArea S _ hk.1 (by rw [h7]; exact hk.2)) rfl ?_)
  repeat (refine hG.1 _ _ _ _ _ _ rfl ?_)
  refine And.intro rfl (cx (r_needNode S _ hk2.1 (by rw [hX.1]; exact hk2.2)) rfl ?_)
  repeat (refine hG.1 _ _ _ _ _ _ rfl ?_)
  refine And.intro (vp_in_nI ((show a < 8 by omega)) (by decide)) ?_; rw [nI_clamp (Nat.lt_trans ((show a < 8 by omega)) (by decide))]
  repeat (refine hG.1 _ _ _ _ _ _ rfl ?_)
  refine And.intro (fun h1 => ?_) (fun h1 => ?_)
  · exact absurd h1 hc.1
  · repeat (refine hG.1 _ _ _ _ _ _ rfl ?_)
    refine And.intro (vp_in_nI ((show j < 16 by omega)) (by decide)) ?_; rw [nI_clamp (Nat.lt_trans ((show j < 16 by omega)) (by decide))]
    repeat (refine hG.1 _ _ _ _ _ _ rfl ?_)
    refine cx (r_has S _ _) rfl ?_
    repeat (refine hG.1 _ _ _ _ _ _ rfl ?_)
    refine And.intro (fun h2 => ?_) (fun h2 => ?_)
    · rw [bi_0] at h2
      exact absurd hc.2.1 h2
    · repeat (refine hG.1 _ _ _ _ _ _ rfl ?_)
      refine And.intro (vp_in_nI ((show a < 8 by omega)) (by decide)) ?_; rw [nI_clamp (Nat.lt_trans ((show a < 8 by omega)) (by decide))]
      repeat (refine hG.1 _ _ _ _ _ _ rfl ?_)
      refine cx (r_has S _ _) rfl ?_
      repeat (refine hG.1 _ _ _ _ _ _ rfl ?_)
      refine And.intro (fun h3 => ?_) (fun h3 => ?_)
      · repeat (refine hG.1 _ _ _ _ _ _ rfl ?_)
        refine And.intro (vp_in_nI ((show a < 8 by omega)) (by decide)) ?_; rw [nI_clamp (Nat.lt_trans ((show a < 8 by omega)) (by decide))]
        repeat (refine hG.1 _ _ _ _ _ _ rfl ?_)
        refine And.intro (vp_in_nI ((show a < 8 by omega)) (by decide)) ?_; rw [nI_clamp (Nat.lt_trans ((show a < 8 by omega)) (by decide))]
        repeat (refine hG.1 _ _ _ _ _ _ rfl ?_)
        refine And.intro rfl (cx (r_nodesOf (sExp S a j) n nb a (by omega) hX) rfl ?_)
        repeat (refine hG.1 _ _ _ _ _ _ rfl ?_)
        refine cx (r_bitCount (sExp S a j) _) rfl ?_
        repeat (refine hG.1 _ _ _ _ _ _ rfl ?_)
        exact And.intro rfl (And.intro rfl rfl)
      · rw [bi_n] at h3
        exact absurd h3 hc.2.2
theorem x_nodes_0 (S : PS) (x : Int32) (h1 : noN x (S.1 0 7)) : Run 1 12 [.ref 0, .int x] S (.inr 1) S := by
  refine run_of (by decide +kernel) rfl (fun L xs G hG => ?_)
  repeat (refine hG.1 _ _ _ _ _ _ rfl ?_)
  refine And.intro rfl (cx (r_needArea_x S _ h1) rfl ?_)
  exact And.intro rfl (And.intro rfl rfl)
theorem x_nodes (S : PS) (a na n nb : Nat) (ha : a < na) (hna : na ≤ 8) (h7 : S.1 0 7 = nI na) (hX : Xn S n nb) : Run 0 12 [.ref 0, .int (nI a)] S (.inl (some (stL (inA S.2.1 a) n))) S := by
  have hk := nI_okn ha (by omega)
  refine run_of (by decide +kernel) rfl (fun L xs G hG => ?_)
  repeat (refine hG.1 _ _ _ _ _ _ rfl ?_)
  refine And.intro rfl (cx (r_needArea S _ hk.1 (by rw [h7]; exact hk.2)) rfl ?_)
  repeat (refine hG.1 _ _ _ _ _ _ rfl ?_)
  refine And.intro rfl (cx (r_nodesOf S n nb a (by omega) hX) rfl ?_)
  repeat (refine hG.1 _ _ _ _ _ _ rfl ?_)
  exact And.intro rfl (And.intro rfl rfl)
theorem x_areaFlow_0 (S : PS) (x : Int32) (h1 : noN x (S.1 0 7)) : Run 1 13 [.ref 0, .int x] S (.inr 1) S := by
  refine run_of (by decide +kernel) rfl (fun L xs G hG => ?_)
  repeat (refine hG.1 _ _ _ _ _ _ rfl ?_)
  refine And.intro rfl (cx (r_needArea_x S _ h1) rfl ?_)
  exact And.intro rfl (And.intro rfl rfl)
abbrev outX (A : Nat → Nat → Int32) (n a : Nat) : Int32 := stL (fun k => decide (A 1 k &&& A 6 a = one k)) n
abbrev misX (A : Nat → Nat → Int32) (mt : Int32) (n a : Nat) : Int32 := ((outX A n a ||| (nI 1 <<< (A 5 a &&& 31))) &&& Int32.ofInt (.negSucc 1)) &&& (mt ^^^ (-1))
def sbL (c : Nat → Bool) (f : Nat → Int32) (z : Int32) : Nat → Int32
  | 0 => z
  | k + 1 => if c k = true then sbL c f z k - f k else sbL c f z k
theorem sbL_t {c : Nat → Bool} {f : Nat → Int32} {z : Int32} {k : Nat} (h : c k = true) : sbL c f z (k + 1) = sbL c f z k - f k := by rw [sbL, if_pos h]
theorem sbL_f {c : Nat → Bool} {f : Nat → Int32} {z : Int32} {k : Nat} (h : ¬ c k = true) : sbL c f z (k + 1) = sbL c f z k := by rw [sbL, if_neg h]
theorem x_areaFlow_1 (S : PS) (a na n nb : Nat) (ha : a < na) (hna : na ≤ 8) (h7 : S.1 0 7 = nI na) (hX : Xn S n nb) (hm : ¬ misX S.2.1 (S.1 0 5) n a = 0) : Run 1 13 [.ref 0, .int (nI a)] S (.inr 2) S := by
  have hk := nI_okn ha (by omega)
  refine run_of (by decide +kernel) rfl (fun L xs G hG => ?_)
  repeat (refine hG.1 _ _ _ _ _ _ rfl ?_)
  refine And.intro rfl (cx (r_needArea S _ hk.1 (by rw [h7]; exact hk.2)) rfl ?_)
  repeat (refine hG.1 _ _ _ _ _ _ rfl ?_)
  refine And.intro (vp_in_nI ((show a < 8 by omega)) (by decide)) ?_; rw [nI_clamp (Nat.lt_trans ((show a < 8 by omega)) (by decide))]
  repeat (refine hG.1 _ _ _ _ _ _ rfl ?_)
  refine And.intro rfl (cx (r_outerExports S n nb a (by omega) hX) rfl ?_)
  repeat (refine hG.1 _ _ _ _ _ _ rfl ?_)
  refine And.intro (fun h1 => ?_) (fun h1 => ?_)
  · exact absurd h1 hm
  · repeat (refine hG.1 _ _ _ _ _ _ rfl ?_)
    exact And.intro rfl (And.intro rfl (And.intro (Nat.le_refl _) (And.intro rfl rfl)))
abbrev afX (A : Nat → Nat → Int32) (n nb : Nat) (rp sh : Int32) (a : Nat) : Int32 := sbL (fun k => decide (hs (outX A n a) k)) (fun k => flX A n nb rp sh (nI k)) (flX A n nb rp sh (A 5 a)) n
theorem x_areaFlow (S : PS) (a na n nb : Nat) (ha : a < na) (hna : na ≤ 8) (h7 : S.1 0 7 = nI na) (hX : Xn S n nb) (hm : misX S.2.1 (S.1 0 5) n a = 0) : Run 0 13 [.ref 0, .int (nI a)] S (.inl (some (afX S.2.1 n nb (S.1 0 14) (S.1 0 6) a))) S := by
  have hk := nI_okn ha (by omega)
  have hn := hX.2.1
  refine run_of (by decide +kernel) rfl (fun L xs G hG => ?_)
  have main : ∀ k, k ≤ n → G 0 60 [(6, .int (nI k)), (5, .int (sbL (fun k => decide (hs (outX S.2.1 n a) k)) (fun k => flX S.2.1 n nb (S.1 0 14) (S.1 0 6) (nI k)) (flX S.2.1 n nb (S.1 0 14) (S.1 0 6) (S.2.1 5 a)) k)), (3, .int (outX S.2.1 n a)), (0, .ref 0)] [] S := by
    refine loop_up (fun k hk ih => ?_) ?_
    · repeat (refine hG.1 _ _ _ _ _ _ rfl ?_)
      rw [hX.1]
      refine And.intro (fun h => ?_) (fun h => ?_)
      · exact absurd h (nI_ge (by omega) (by omega))
      · repeat (refine hG.1 _ _ _ _ _ _ rfl ?_)
        refine cx (r_has S _ _) rfl ?_
        repeat (refine hG.1 _ _ _ _ _ _ rfl ?_)
        refine And.intro (fun h1 => ?_) (fun h1 => ?_)
        · rw [bi_0] at h1
          rw [sbL_f (by simpa using h1)] at ih
          repeat (first | (refine wk hG ?_ (ih); (repeat (refine And.intro (by first | with_reducible rfl | with_reducible exact nI_add _ _ | with_reducible exact pk_m1 _ | rfl) ?_)); exact trivial) | refine hG.1 _ _ _ _ _ _ rfl ?_)
        · rw [bi_n] at h1
          rw [sbL_t (by simpa using h1)] at ih
          repeat (refine hG.1 _ _ _ _ _ _ rfl ?_)
          refine And.intro rfl (cx (r_flowTo S n nb _ hX) rfl ?_)
          repeat (first | (refine wk hG ?_ (ih); (repeat (refine And.intro (by first | with_reducible rfl | with_reducible exact nI_add _ _ | with_reducible exact pk_m1 _ | rfl) ?_)); exact trivial) | refine hG.1 _ _ _ _ _ _ rfl ?_)
    · repeat (refine hG.1 _ _ _ _ _ _ rfl ?_)
      rw [hX.1]
      refine And.intro (fun h => ?_) (fun h => ?_)
      · repeat (refine hG.1 _ _ _ _ _ _ rfl ?_)
        exact And.intro rfl (And.intro rfl rfl)
      · exact absurd (nI_le (Nat.le_refl _) (by omega)) h
  repeat (refine hG.1 _ _ _ _ _ _ rfl ?_)
  refine And.intro rfl (cx (r_needArea S _ hk.1 (by rw [h7]; exact hk.2)) rfl ?_)
  repeat (refine hG.1 _ _ _ _ _ _ rfl ?_)
  refine And.intro (vp_in_nI ((show a < 8 by omega)) (by decide)) ?_; rw [nI_clamp (Nat.lt_trans ((show a < 8 by omega)) (by decide))]
  repeat (refine hG.1 _ _ _ _ _ _ rfl ?_)
  refine And.intro rfl (cx (r_outerExports S n nb a (by omega) hX) rfl ?_)
  repeat (refine hG.1 _ _ _ _ _ _ rfl ?_)
  refine And.intro (fun h1 => ?_) (fun h1 => ?_)
  · repeat (refine hG.1 _ _ _ _ _ _ rfl ?_)
    refine And.intro rfl (cx (r_flowTo S n nb _ hX) rfl ?_)
    have h0 := main 0 (Nat.zero_le _); simp only [sbL] at h0; repeat (first | (refine wk hG ?_ (h0); (repeat (refine And.intro (by first | with_reducible rfl | with_reducible exact nI_add _ _ | with_reducible exact pk_m1 _ | rfl) ?_)); exact trivial) | refine hG.1 _ _ _ _ _ _ rfl ?_)
  · exact absurd hm h1
theorem x_areaTakes_0 (S : PS) (x : Int32) (h1 : noN x (S.1 0 7)) : Run 1 14 [.ref 0, .int x] S (.inr 1) S := by
  refine run_of (by decide +kernel) rfl (fun L xs G hG => ?_)
  repeat (refine hG.1 _ _ _ _ _ _ rfl ?_)
  refine And.intro rfl (cx (r_needArea_x S _ h1) rfl ?_)
  exact And.intro rfl (And.intro rfl rfl)
abbrev tbX (A : Nat → Nat → Int32) (n nb : Nat) (rp sh set : Int32) : Int32 := smL (fun k => decide (hs set k)) (tknX A nb rp sh) n
theorem x_areaTakes (S : PS) (a na n nb : Nat) (ha : a < na) (hna : na ≤ 8) (h7 : S.1 0 7 = nI na) (hX : Xn S n nb) : Run 0 14 [.ref 0, .int (nI a)] S (.inl (some (tbX S.2.1 n nb (S.1 0 14) (S.1 0 6) (stL (inA S.2.1 a) n)))) S := by
  have hk := nI_okn ha (by omega)
  refine run_of (by decide +kernel) rfl (fun L xs G hG => ?_)
  repeat (refine hG.1 _ _ _ _ _ _ rfl ?_)
  refine And.intro rfl (cx (r_needArea S _ hk.1 (by rw [h7]; exact hk.2)) rfl ?_)
  repeat (refine hG.1 _ _ _ _ _ _ rfl ?_)
  refine And.intro rfl (cx (r_nodesOf S n nb a (by omega) hX) rfl ?_)
  repeat (refine hG.1 _ _ _ _ _ _ rfl ?_)
  refine And.intro rfl (cx (r_takenBy S n nb _ _ hX) rfl ?_)
  repeat (refine hG.1 _ _ _ _ _ _ rfl ?_)
  exact And.intro rfl (And.intro rfl rfl)
theorem x_loss_0 (S : PS) (x : Int32) (h1 : noN x (S.1 0 7)) : Run 1 15 [.ref 0, .int x] S (.inr 1) S := by
  refine run_of (by decide +kernel) rfl (fun L xs G hG => ?_)
  repeat (refine hG.1 _ _ _ _ _ _ rfl ?_)
  refine And.intro rfl (cx (r_needArea_x S _ h1) rfl ?_)
  exact And.intro rfl (And.intro rfl rfl)
theorem x_loss (S : PS) (a na n nb : Nat) (ha : a < na) (hna : na ≤ 8) (h7 : S.1 0 7 = nI na) (hX : Xn S n nb) : Run 0 15 [.ref 0, .int (nI a)] S (.inl (some (tbX S.2.1 n nb (S.1 0 14) (S.1 0 6) (stL (inA S.2.1 a) n) - smL (fun k => decide (hs (stL (inA S.2.1 a) n) k) && decide (S.2.1 1 k &&& S.1 0 6 = 0)) (S.2.1 2) n))) S := by
  have hk := nI_okn ha (by omega)
  refine run_of (by decide +kernel) rfl (fun L xs G hG => ?_)
  repeat (refine hG.1 _ _ _ _ _ _ rfl ?_)
  refine And.intro rfl (cx (r_needArea S _ hk.1 (by rw [h7]; exact hk.2)) rfl ?_)
  repeat (refine hG.1 _ _ _ _ _ _ rfl ?_)
  refine And.intro rfl (cx (r_nodesOf S n nb a (by omega) hX) rfl ?_)
  repeat (refine hG.1 _ _ _ _ _ _ rfl ?_)
  refine And.intro rfl (cx (r_takenBy S n nb _ _ hX) rfl ?_)
  repeat (refine hG.1 _ _ _ _ _ _ rfl ?_)
  refine And.intro rfl (cx (r_usedBy S n nb _ hX) rfl ?_)
  repeat (refine hG.1 _ _ _ _ _ _ rfl ?_)
  exact And.intro rfl (And.intro rfl rfl)
theorem x_steps_0 (S : PS) (x : Int32) (h1 : noN x (S.1 0 7)) : Run 1 16 [.ref 0, .int x] S (.inr 1) S := by
  refine run_of (by decide +kernel) rfl (fun L xs G hG => ?_)
  repeat (refine hG.1 _ _ _ _ _ _ rfl ?_)
  refine And.intro rfl (cx (r_needArea_x S _ h1) rfl ?_)
  exact And.intro rfl (And.intro rfl rfl)
theorem x_steps (S : PS) (a na n nb : Nat) (ha : a < na) (hna : na ≤ 8) (h7 : S.1 0 7 = nI na) (hX : Xn S n nb) : Run 0 16 [.ref 0, .int (nI a)] S (.inl (some (bcI (ptsX S.2.1 (S.1 0 6) n a)))) S := by
  have hk := nI_okn ha (by omega)
  refine run_of (by decide +kernel) rfl (fun L xs G hG => ?_)
  repeat (refine hG.1 _ _ _ _ _ _ rfl ?_)
  refine And.intro rfl (cx (r_needArea S _ hk.1 (by rw [h7]; exact hk.2)) rfl ?_)
  repeat (refine hG.1 _ _ _ _ _ _ rfl ?_)
  refine And.intro rfl (cx (r_pipesToShut S n nb a (by omega) hX) rfl ?_)
  repeat (refine hG.1 _ _ _ _ _ _ rfl ?_)
  refine cx (r_bitCount S _) rfl ?_
  repeat (refine hG.1 _ _ _ _ _ _ rfl ?_)
  exact And.intro rfl (And.intro rfl rfl)
abbrev pkX (A : Nat → Nat → Int32) (sh : Int32) (n a : Nat) (step : Int32) : Option Nat := pst (fun k => decide (hs (ptsX A sh n a) k)) step (n - 1) 0
theorem x_stepPipe_0 (S : PS) (x y : Int32) (h1 : noN x (S.1 0 7)) : Run 1 17 [.ref 0, .int x, .int y] S (.inr 1) S := by
  refine run_of (by decide +kernel) rfl (fun L xs G hG => ?_)
  repeat (refine hG.1 _ _ _ _ _ _ rfl ?_)
  refine And.intro rfl (cx (r_needArea_x S _ h1) rfl ?_)
  exact And.intro rfl (And.intro rfl rfl)
theorem x_stepPipe_1 (S : PS) (a na n nb : Nat) (y : Int32) (ha : a < na) (hna : na ≤ 8) (h7 : S.1 0 7 = nI na) (hX : Xn S n nb) (h1n : 1 ≤ n) (h : pkX S.2.1 (S.1 0 6) n a y = none) : Run 1 17 [.ref 0, .int (nI a), .int y] S (.inr 1) S := by
  have hk := nI_okn ha (by omega)
  refine run_of (by decide +kernel) rfl (fun L xs G hG => ?_)
  repeat (refine hG.1 _ _ _ _ _ _ rfl ?_)
  refine And.intro rfl (cx (r_needArea S _ hk.1 (by rw [h7]; exact hk.2)) rfl ?_)
  repeat (refine hG.1 _ _ _ _ _ _ rfl ?_)
  refine And.intro rfl (cx (r_pipeOfStep_x S n nb a _ (by omega) hX h1n h) rfl ?_)
  exact And.intro rfl (And.intro rfl rfl)
theorem x_stepPipe (S : PS) (a na n nb k : Nat) (y : Int32) (ha : a < na) (hna : na ≤ 8) (h7 : S.1 0 7 = nI na) (hX : Xn S n nb) (h1n : 1 ≤ n) (h : pkX S.2.1 (S.1 0 6) n a y = some k) : Run 0 17 [.ref 0, .int (nI a), .int y] S (.inl (some (nI k))) S := by
  have hk := nI_okn ha (by omega)
  refine run_of (by decide +kernel) rfl (fun L xs G hG => ?_)
  repeat (refine hG.1 _ _ _ _ _ _ rfl ?_)
  refine And.intro rfl (cx (r_needArea S _ hk.1 (by rw [h7]; exact hk.2)) rfl ?_)
  repeat (refine hG.1 _ _ _ _ _ _ rfl ?_)
  refine And.intro rfl (cx (r_pipeOfStep S n nb a k _ (by omega) hX h1n h) rfl ?_)
  repeat (refine hG.1 _ _ _ _ _ _ rfl ?_)
  exact And.intro rfl (And.intro rfl rfl)
theorem x_drop_0 (S : PS) (x y : Int32) (h1 : noN x (S.1 0 7)) : Run 1 18 [.ref 0, .int x, .int y] S (.inr 1) S := by
  refine run_of (by decide +kernel) rfl (fun L xs G hG => ?_)
  repeat (refine hG.1 _ _ _ _ _ _ rfl ?_)
  refine And.intro rfl (cx (r_needArea_x S _ h1) rfl ?_)
  exact And.intro rfl (And.intro rfl rfl)
theorem x_drop_1 (S : PS) (a na n nb : Nat) (y : Int32) (ha : a < na) (hna : na ≤ 8) (h7 : S.1 0 7 = nI na) (hX : Xn S n nb) (h1n : 1 ≤ n) (h : pkX S.2.1 (S.1 0 6) n a y = none) : Run 1 18 [.ref 0, .int (nI a), .int y] S (.inr 1) S := by
  have hk := nI_okn ha (by omega)
  refine run_of (by decide +kernel) rfl (fun L xs G hG => ?_)
  repeat (refine hG.1 _ _ _ _ _ _ rfl ?_)
  refine And.intro rfl (cx (r_needArea S _ hk.1 (by rw [h7]; exact hk.2)) rfl ?_)
  repeat (refine hG.1 _ _ _ _ _ _ rfl ?_)
  refine And.intro rfl (cx (r_pipeOfStep_x S n nb a _ (by omega) hX h1n h) rfl ?_)
  exact And.intro rfl (And.intro rfl rfl)
abbrev bfX (A : Nat → Nat → Int32) (sh : Int32) (n a k : Nat) : Int32 := sh ||| (ptsX A sh n a &&& (-1 : Int32) <<< ((nI k + nI 1) &&& 31))
abbrev dropX (A : Nat → Nat → Int32) (n nb : Nat) (rp sh : Int32) (a k : Nat) : Int32 := tbX A n nb rp (bfX A sh n a k) (stL (inA A a) n) - tbX A n nb rp (bfX A sh n a k ||| one k) (stL (inA A a) n)
theorem x_drop (S : PS) (a na n nb k : Nat) (y : Int32) (ha : a < na) (hna : na ≤ 8) (h7 : S.1 0 7 = nI na) (hX : Xn S n nb) (h1n : 1 ≤ n) (h : pkX S.2.1 (S.1 0 6) n a y = some k) : Run 0 18 [.ref 0, .int (nI a), .int y] S (.inl (some (dropX S.2.1 n nb (S.1 0 14) (S.1 0 6) a k))) S := by
  have hk := nI_okn ha (by omega)
  refine run_of (by decide +kernel) rfl (fun L xs G hG => ?_)
  repeat (refine hG.1 _ _ _ _ _ _ rfl ?_)
  refine And.intro rfl (cx (r_needArea S _ hk.1 (by rw [h7]; exact hk.2)) rfl ?_)
  repeat (refine hG.1 _ _ _ _ _ _ rfl ?_)
  refine And.intro rfl (cx (r_pipeOfStep S n nb a k _ (by omega) hX h1n h) rfl ?_)
  repeat (refine hG.1 _ _ _ _ _ _ rfl ?_)
  refine And.intro rfl (cx (r_pipesToShut S n nb a (by omega) hX) rfl ?_)
  repeat (refine hG.1 _ _ _ _ _ _ rfl ?_)
  refine cx (r_pipesAbove S _ _) rfl ?_
  repeat (refine hG.1 _ _ _ _ _ _ rfl ?_)
  refine And.intro rfl (cx (r_nodesOf S n nb a (by omega) hX) rfl ?_)
  repeat (refine hG.1 _ _ _ _ _ _ rfl ?_)
  refine And.intro rfl (cx (r_takenBy S n nb _ _ hX) rfl ?_)
  repeat (refine hG.1 _ _ _ _ _ _ rfl ?_)
  refine And.intro rfl (cx (r_takenBy S n nb _ _ hX) rfl ?_)
  repeat (refine hG.1 _ _ _ _ _ _ rfl ?_)
  exact And.intro rfl (And.intro rfl rfl)
theorem x_burst_0a (S : PS) (x y z : Int32) (h : noR y (nI 1) (nI 10000)) : Run 1 19 [.ref 0, .int x, .int y, .int z] S (.inr 0) S := by
  refine run_of (by decide +kernel) rfl (fun L xs G hG => ?_)
  repeat (refine hG.1 _ _ _ _ _ _ rfl ?_)
  refine cx (r_needRange_x S _ _ _ h) rfl ?_
  exact And.intro rfl (And.intro rfl rfl)
theorem x_burst_0b (S : PS) (x y z : Int32) (h : okR y (nI 1) (nI 10000)) (h2 : noR z (nI 1) (nI 100)) : Run 1 19 [.ref 0, .int x, .int y, .int z] S (.inr 0) S := by
  refine run_of (by decide +kernel) rfl (fun L xs G hG => ?_)
  repeat (refine hG.1 _ _ _ _ _ _ rfl ?_)
  refine cx (r_needRange S _ _ _ h.1 h.2) rfl ?_
  repeat (refine hG.1 _ _ _ _ _ _ rfl ?_)
  refine cx (r_needRange_x S _ _ _ h2) rfl ?_
  exact And.intro rfl (And.intro rfl rfl)
theorem x_burst_1 (S : PS) (x y z : Int32) (h : okR y (nI 1) (nI 10000)) (h2 : okR z (nI 1) (nI 100)) (h1 : noN x (S.1 0 0)) : Run 1 19 [.ref 0, .int x, .int y, .int z] S (.inr 1) S := by
  refine run_of (by decide +kernel) rfl (fun L xs G hG => ?_)
  repeat (refine hG.1 _ _ _ _ _ _ rfl ?_)
  refine cx (r_needRange S _ _ _ h.1 h.2) rfl ?_
  repeat (refine hG.1 _ _ _ _ _ _ rfl ?_)
  refine cx (r_needRange S _ _ _ h2.1 h2.2) rfl ?_
  repeat (refine hG.1 _ _ _ _ _ _ rfl ?_)
  refine And.intro rfl (cx (r_needNode_x S _ h1) rfl ?_)
  exact And.intro rfl (And.intro rfl rfl)
theorem x_burst_2 (S : PS) (j n : Nat) (y z : Int32) (h : okR y (nI 1) (nI 10000)) (h2 : okR z (nI 1) (nI 100)) (hn : S.1 0 0 = nI n) (hn16 : n ≤ 16) (hj : j < n) (hb : S.1 0 10 = nI 20) : Run 1 19 [.ref 0, .int (nI j), .int y, .int z] S (.inr 2) S := by
  have hk := nI_okn hj (by omega)
  refine run_of (by decide +kernel) rfl (fun L xs G hG => ?_)
  repeat (refine hG.1 _ _ _ _ _ _ rfl ?_)
  refine cx (r_needRange S _ _ _ h.1 h.2) rfl ?_
  repeat (refine hG.1 _ _ _ _ _ _ rfl ?_)
  refine cx (r_needRange S _ _ _ h2.1 h2.2) rfl ?_
  repeat (refine hG.1 _ _ _ _ _ _ rfl ?_)
  refine And.intro rfl (cx (r_needNode S _ hk.1 (by rw [hn]; exact hk.2)) rfl ?_)
  repeat (refine hG.1 _ _ _ _ _ _ rfl ?_)
  rw [hb]
  refine cx (r_needRoom_x S _ _ (by decide)) rfl ?_
  exact And.intro rfl (And.intro rfl rfl)
abbrev sBurst (S : PS) (nb j : Nat) (y z : Int32) : PS := (va_up S.1 0 (upd (S.1 0) 10 (nI (nb + 1))), va_up (va_up (va_up S.2.1 7 (upd (S.2.1 7) nb (nI j))) 8 (upd (S.2.1 8) nb y)) 9 (upd (S.2.1 9) nb z), S.2.2)
theorem x_burst (S : PS) (j n nb : Nat) (y z : Int32) (h : okR y (nI 1) (nI 10000)) (h2 : okR z (nI 1) (nI 100)) (hn : S.1 0 0 = nI n) (hn16 : n ≤ 16) (hj : j < n) (hb : S.1 0 10 = nI nb) (hnb : nb < 20) : Run 0 19 [.ref 0, .int (nI j), .int y, .int z] S (.inl (some (nI nb))) (sBurst S nb j y z) := by
  have hk := nI_okn hj (by omega)
  refine run_of (by decide +kernel) rfl (fun L xs G hG => ?_)
  repeat (refine hG.1 _ _ _ _ _ _ rfl ?_)
  refine cx (r_needRange S _ _ _ h.1 h.2) rfl ?_
  repeat (refine hG.1 _ _ _ _ _ _ rfl ?_)
  refine cx (r_needRange S _ _ _ h2.1 h2.2) rfl ?_
  repeat (refine hG.1 _ _ _ _ _ _ rfl ?_)
  refine And.intro rfl (cx (r_needNode S _ hk.1 (by rw [hn]; exact hk.2)) rfl ?_)
  repeat (refine hG.1 _ _ _ _ _ _ rfl ?_)
  rw [hb]
  refine cx (r_needRoom S _ _ (nI_lt hnb (by decide))) rfl ?_
  repeat (refine hG.1 _ _ _ _ _ _ rfl ?_)
  rw [hb]
  refine And.intro (vp_in_nI (hnb) (by decide)) ?_; rw [nI_clamp (Nat.lt_trans (hnb) (by decide))]
  repeat (refine hG.1 _ _ _ _ _ _ rfl ?_)
  refine And.intro (vp_in_nI (hnb) (by decide)) ?_; rw [nI_clamp (Nat.lt_trans (hnb) (by decide))]
  repeat (refine hG.1 _ _ _ _ _ _ rfl ?_)
  refine And.intro (vp_in_nI (hnb) (by decide)) ?_; rw [nI_clamp (Nat.lt_trans (hnb) (by decide))]
  repeat (refine hG.1 _ _ _ _ _ _ rfl ?_)
  rw [nI_add]
  repeat (refine hG.1 _ _ _ _ _ _ rfl ?_)
  exact And.intro rfl (And.intro rfl rfl)
theorem x_repair_0 (S : PS) (x : Int32) (h1 : noN x (S.1 0 10)) : Run 1 20 [.ref 0, .int x] S (.inr 1) S := by
  refine run_of (by decide +kernel) rfl (fun L xs G hG => ?_)
  repeat (refine hG.1 _ _ _ _ _ _ rfl ?_)
  refine And.intro rfl (cx (r_needBurst_x S _ h1) rfl ?_)
  exact And.intro rfl (And.intro rfl rfl)
theorem x_repair_1 (S : PS) (b nb : Nat) (hb : b < nb) (hnb : nb ≤ 20) (h10 : S.1 0 10 = nI nb) (hr : hs (S.1 0 14) b) : Run 1 20 [.ref 0, .int (nI b)] S (.inr 2) S := by
  have hk := nI_okn hb (by omega)
  refine run_of (by decide +kernel) rfl (fun L xs G hG => ?_)
  repeat (refine hG.1 _ _ _ _ _ _ rfl ?_)
  refine And.intro rfl (cx (r_needBurst S _ hk.1 (by rw [h10]; exact hk.2)) rfl ?_)
  repeat (refine hG.1 _ _ _ _ _ _ rfl ?_)
  refine cx (r_has S _ _) rfl ?_
  repeat (refine hG.1 _ _ _ _ _ _ rfl ?_)
  refine And.intro (fun h1 => ?_) (fun h1 => ?_)
  · rw [bi_0] at h1
    exact absurd hr h1
  · repeat (refine hG.1 _ _ _ _ _ _ rfl ?_)
    exact And.intro rfl (And.intro rfl (And.intro (Nat.le_refl _) (And.intro rfl rfl)))
abbrev sRep (S : PS) (b : Nat) : PS := (va_up S.1 0 (upd (S.1 0) 14 (S.1 0 14 ||| one b)), S.2.1, S.2.2)
theorem x_repair (S : PS) (b q n nb : Nat) (hb : b < nb) (hX : Xn S n nb) (hq : q < 16) (hbq : S.2.1 7 b = nI q) (hr : ¬ hs (S.1 0 14) b) : Run 0 20 [.ref 0, .int (nI b)] S (.inl (some (csX S.2.1 nb (S.1 0 14) (S.1 0 6) b))) (sRep S b) := by
  have hnb := hX.2.2.2.1
  have hk := nI_okn hb (by omega)
  refine run_of (by decide +kernel) rfl (fun L xs G hG => ?_)
  repeat (refine hG.1 _ _ _ _ _ _ rfl ?_)
  refine And.intro rfl (cx (r_needBurst S _ hk.1 (by rw [hX.2.2.1]; exact hk.2)) rfl ?_)
  repeat (refine hG.1 _ _ _ _ _ _ rfl ?_)
  refine cx (r_has S _ _) rfl ?_
  repeat (refine hG.1 _ _ _ _ _ _ rfl ?_)
  refine And.intro (fun h1 => ?_) (fun h1 => ?_)
  · repeat (refine hG.1 _ _ _ _ _ _ rfl ?_)
    refine And.intro rfl (cx (r_costOf S n nb b q (by omega) hq hbq hX) rfl ?_)
    repeat (refine hG.1 _ _ _ _ _ _ rfl ?_)
    exact And.intro rfl (And.intro rfl rfl)
  · rw [bi_n] at h1
    exact absurd h1 hr
theorem x_cost_0 (S : PS) (x : Int32) (h1 : noN x (S.1 0 10)) : Run 1 21 [.ref 0, .int x] S (.inr 1) S := by
  refine run_of (by decide +kernel) rfl (fun L xs G hG => ?_)
  repeat (refine hG.1 _ _ _ _ _ _ rfl ?_)
  refine And.intro rfl (cx (r_needBurst_x S _ h1) rfl ?_)
  exact And.intro rfl (And.intro rfl rfl)
theorem x_cost (S : PS) (b q n nb : Nat) (hb : b < nb) (hX : Xn S n nb) (hq : q < 16) (hbq : S.2.1 7 b = nI q) : Run 0 21 [.ref 0, .int (nI b)] S (.inl (some (csX S.2.1 nb (S.1 0 14) (S.1 0 6) b))) S := by
  have hnb := hX.2.2.2.1
  have hk := nI_okn hb (by omega)
  refine run_of (by decide +kernel) rfl (fun L xs G hG => ?_)
  repeat (refine hG.1 _ _ _ _ _ _ rfl ?_)
  refine And.intro rfl (cx (r_needBurst S _ hk.1 (by rw [hX.2.2.1]; exact hk.2)) rfl ?_)
  repeat (refine hG.1 _ _ _ _ _ _ rfl ?_)
  refine And.intro rfl (cx (r_costOf S n nb b q (by omega) hq hbq hX) rfl ?_)
  repeat (refine hG.1 _ _ _ _ _ _ rfl ?_)
  exact And.intro rfl (And.intro rfl rfl)
abbrev sRk (S : PS) (nb : Nat) : PS := st2 S (rkR S nb).1 (rkR S nb).2.1
theorem x_ranked_0 (S : PS) (n nb : Nat) (y : Int32) (hX : Xn S n nb) (hB : BnOk S.2.1 nb) (h : y < 0 ∨ nI (rkR S nb).2.2 ≤ y) : Run 1 22 [.ref 0, .int y] S (.inr 1) (sRk S nb) := by
  refine run_of (by decide +kernel) rfl (fun L xs G hG => ?_)
  repeat (refine hG.1 _ _ _ _ _ _ rfl ?_)
  refine And.intro rfl (cx (r_rankBursts S n nb hX hB) rfl ?_)
  repeat (refine hG.1 _ _ _ _ _ _ rfl ?_)
  refine And.intro (fun h1 => ?_) (fun h1 => ?_)
  · repeat (refine hG.1 _ _ _ _ _ _ rfl ?_)
    exact And.intro rfl (And.intro rfl (And.intro (Nat.le_refl _) (And.intro rfl rfl)))
  · repeat (refine hG.1 _ _ _ _ _ _ rfl ?_)
    refine And.intro (fun h2 => ?_) (fun h2 => ?_)
    · rcases h with z | z
      · contradiction
      · exact absurd h2 (by rw [Int32.not_lt]; exact z)
    · repeat (refine hG.1 _ _ _ _ _ _ rfl ?_)
      exact And.intro rfl (And.intro rfl (And.intro (Nat.le_refl _) (And.intro rfl rfl)))
theorem x_ranked (S : PS) (n nb p : Nat) (hX : Xn S n nb) (hB : BnOk S.2.1 nb) (hp : p < (rkR S nb).2.2) : Run 0 22 [.ref 0, .int (nI p)] S (.inl (some ((rkR S nb).2.1 p))) (sRk S nb) := by
  have hnb := hX.2.2.2.1
  have hle := (rkS_in (cs := csX S.2.1 nb (S.1 0 14) (S.1 0 6)) (h := S.2.1 9) (rp := S.1 0 14) (f10 := S.2.1 10) (f11 := S.2.1 11) nb).1
  have hle2 : (rkR S nb).2.2 ≤ nb := hle
  refine run_of (by decide +kernel) rfl (fun L xs G hG => ?_)
  repeat (refine hG.1 _ _ _ _ _ _ rfl ?_)
  refine And.intro rfl (cx (r_rankBursts S n nb hX hB) rfl ?_)
  repeat (refine hG.1 _ _ _ _ _ _ rfl ?_)
  refine And.intro (fun h1 => ?_) (fun h1 => ?_)
  · exact absurd h1 (nI_pos (by omega))
  · repeat (refine hG.1 _ _ _ _ _ _ rfl ?_)
    refine And.intro (fun h2 => ?_) (fun h2 => ?_)
    · repeat (refine hG.1 _ _ _ _ _ _ rfl ?_)
      refine And.intro (vp_in_nI ((show p < 20 by omega)) (by decide)) ?_; rw [nI_clamp (Nat.lt_trans ((show p < 20 by omega)) (by decide))]
      repeat (refine hG.1 _ _ _ _ _ _ rfl ?_)
      exact And.intro rfl (And.intro rfl rfl)
    · exact absurd (nI_lt hp (by omega)) h2
theorem x_plan_0 (S : PS) (y : Int32) (h : noR y (nI 0) (nI 1000)) : Run 1 23 [.ref 0, .int y] S (.inr 0) S := by
  refine run_of (by decide +kernel) rfl (fun L xs G hG => ?_)
  repeat (refine hG.1 _ _ _ _ _ _ rfl ?_)
  refine cx (r_needRange_x S _ _ _ h) rfl ?_
  exact And.intro rfl (And.intro rfl rfl)
def plF (h rb : Nat → Int32) (all : Int32) : Nat → Int32 × Int32
  | 0 => (all, nI 0)
  | p + 1 => if h (rb p).toNatClampNeg ≤ (plF h rb all p).1 then ((plF h rb all p).1 - h (rb p).toNatClampNeg, (plF h rb all p).2 ||| (nI 1 <<< (rb p &&& 31))) else plF h rb all p
theorem x_plan (S : PS) (n nb : Nat) (y : Int32) (h : okR y (nI 0) (nI 1000)) (hX : Xn S n nb) (hB : BnOk S.2.1 nb) : Run 0 23 [.ref 0, .int y] S (.inl (some (plF (S.2.1 9) (rkR S nb).2.1 y (rkR S nb).2.2).2)) (sRk S nb) := by
  have hnb := hX.2.2.2.1
  have hin := rkS_in (cs := csX S.2.1 nb (S.1 0 14) (S.1 0 6)) (h := S.2.1 9) (rp := S.1 0 14) (f10 := S.2.1 10) (f11 := S.2.1 11) nb
  obtain ⟨rb, hrb⟩ : ∃ rb, rb = (rkR S nb).2.1 := ⟨_, rfl⟩
  obtain ⟨m, hm⟩ : ∃ m, m = (rkR S nb).2.2 := ⟨_, rfl⟩
  have hin2 : m ≤ nb ∧ ∀ p, p < m → ∃ o, o < nb ∧ rb p = nI o := by rw [hrb, hm]; exact hin
  rw [← hrb, ← hm]
  refine run_of (by decide +kernel) rfl (fun L xs G hG => ?_)
  have main : ∀ p, p ≤ m → G 0 21 [(5, .int (nI p)), (4, .int (plF (S.2.1 9) rb y p).2), (3, .int (plF (S.2.1 9) rb y p).1), (2, .int (nI m)), (0, .ref 0)] [] (sRk S nb) := by
    refine loop_up (fun p hp ih => ?_) ?_
    · obtain ⟨o, ho, e⟩ := hin2.2 p hp
      repeat (refine hG.1 _ _ _ _ _ _ rfl ?_)
      refine And.intro (fun h1 => ?_) (fun h1 => ?_)
      · exact absurd h1 (nI_ge (by omega) (by omega))
      · repeat (refine hG.1 _ _ _ _ _ _ rfl ?_)
        refine And.intro (vp_in_nI ((show p < 20 by omega)) (by decide)) ?_; rw [nI_clamp (Nat.lt_trans ((show p < 20 by omega)) (by decide))]
        rw [show (sRk S nb).2.1 11 p = nI o by rw [← e, hrb]; rfl]
        repeat (refine hG.1 _ _ _ _ _ _ rfl ?_)
        refine And.intro (vp_in_nI ((show o < 20 by omega)) (by decide)) ?_; rw [nI_clamp (Nat.lt_trans ((show o < 20 by omega)) (by decide))]
        repeat (refine hG.1 _ _ _ _ _ _ rfl ?_)
        refine And.intro (fun h2 => ?_) (fun h2 => ?_)
        · have e2 : plF (S.2.1 9) rb y (p + 1) = plF (S.2.1 9) rb y p := by
            rw [plF, e, nI_clamp (show o < 2 ^ 31 by omega), if_neg]
            rw [Int32.not_le]
            exact h2
          rw [e2] at ih
          repeat (first | (refine wk hG ?_ (ih); (repeat (refine And.intro (by first | with_reducible rfl | with_reducible exact nI_add _ _ | with_reducible exact pk_m1 _ | rfl) ?_)); exact trivial) | refine hG.1 _ _ _ _ _ _ rfl ?_)
        · have e2 : plF (S.2.1 9) rb y (p + 1) = ((plF (S.2.1 9) rb y p).1 - S.2.1 9 o, (plF (S.2.1 9) rb y p).2 ||| one o) := by
            rw [plF, e, nI_clamp (show o < 2 ^ 31 by omega), if_pos]
            rw [← Int32.not_lt]
            exact h2
          rw [e2] at ih
          repeat (refine hG.1 _ _ _ _ _ _ rfl ?_)
          refine And.intro (vp_in_nI ((show o < 20 by omega)) (by decide)) ?_; rw [nI_clamp (Nat.lt_trans ((show o < 20 by omega)) (by decide))]
          repeat (first | (refine wk hG ?_ (ih); (repeat (refine And.intro (by first | with_reducible rfl | with_reducible exact nI_add _ _ | with_reducible exact pk_m1 _ | rfl) ?_)); exact trivial) | refine hG.1 _ _ _ _ _ _ rfl ?_)
    · repeat (refine hG.1 _ _ _ _ _ _ rfl ?_)
      refine And.intro (fun h1 => ?_) (fun h1 => ?_)
      · repeat (refine hG.1 _ _ _ _ _ _ rfl ?_)
        exact And.intro rfl (And.intro rfl rfl)
      · exact absurd (nI_le (Nat.le_refl _) (by omega)) h1
  repeat (refine hG.1 _ _ _ _ _ _ rfl ?_)
  refine cx (r_needRange S _ _ _ h.1 h.2) rfl ?_
  repeat (refine hG.1 _ _ _ _ _ _ rfl ?_)
  refine And.intro rfl (cx (r_rankBursts S n nb hX hB) rfl ?_)
  rw [← hm]
  have h0 := main 0 (Nat.zero_le _); simp only [plF] at h0; repeat (first | (refine wk hG ?_ (h0); (repeat (refine And.intro (by first | with_reducible rfl | with_reducible exact nI_add _ _ | with_reducible exact pk_m1 _ | rfl) ?_)); exact trivial) | refine hG.1 _ _ _ _ _ _ rfl ?_)
