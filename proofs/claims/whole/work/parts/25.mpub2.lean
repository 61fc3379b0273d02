theorem m_isExp (S : PS) (a j : Nat) (ha : a < 8) (hj : j < 16) : Run 0 73 [.ref 12, .int (nI a), .int (nI j)] S (.inl (some (bi (hs (S.2.1 21 a) j)))) S := by
  refine run_of (by decide +kernel) rfl (fun L xs G hG => ?_)
  repeat (refine hG.1 _ _ _ _ _ _ rfl ?_)
  refine And.intro (vp_in_nI (ha) (by decide)) ?_; rw [nI_clamp (Nat.lt_trans (ha) (by decide))]
  repeat (refine hG.1 _ _ _ _ _ _ rfl ?_)
  refine And.intro (fun h => ?_) (fun h => ?_)
  · have h2 : ¬ hs (S.2.1 21 a) j := fun z => h ((hs_shr (by omega)).mpr z)
    repeat (refine hG.1 _ _ _ _ _ _ rfl ?_)
    refine And.intro rfl (And.intro ?_ rfl)
    rw [bi_f h2]
  · have h2 : hs (S.2.1 21 a) j := (hs_shr (by omega)).mp h
    repeat (refine hG.1 _ _ _ _ _ _ rfl ?_)
    refine And.intro rfl (And.intro ?_ rfl)
    rw [bi_t h2]
theorem m_addExport_0 (S : PS) (x y : Int32) (n na : Nat) (hn : S.1 12 0 = nI n) (hn16 : n ≤ 16) (h1n : 1 ≤ n) (ha : S.1 12 8 = nI na) (hna : na ≤ 8) (h : noN x (nI na) ∨ ((∃ a, a < na ∧ x = nI a) ∧ noN y (nI n))) : Run 0 77 [.ref 12, .int x, .int y] S (.inl (some (nI 0))) (sThr S (nI 1)) := by
  refine run_of (by decide +kernel) rfl (fun L xs G hG => ?_)
  rcases h with h | ⟨⟨a, hal, rfl⟩, h⟩
  · repeat (refine hG.1 _ _ _ _ _ _ rfl ?_)
    refine And.intro rfl (cx (m_isArea_f S _ na ha (by omega) h) rfl ?_)
    repeat (refine hG.1 _ _ _ _ _ _ rfl ?_)
    refine And.intro (fun _ => ?_) (fun h => by first | exact absurd h (by decide) | exact False.elim (h (by decide)))
    repeat (refine hG.1 _ _ _ _ _ _ rfl ?_)
    refine And.intro (fun _ => ?_) (fun h => by first | exact absurd h (by decide) | exact False.elim (h (by decide)))
    repeat (refine hG.1 _ _ _ _ _ _ rfl ?_)
    refine And.intro (fun h => by first | exact absurd h (by decide) | exact False.elim (h (by decide))) (fun _ => ?_)
    repeat (refine hG.1 _ _ _ _ _ _ rfl ?_)
    refine And.intro rfl (cx (m_fails_t S (nI 1) (by decide)) rfl ?_)
    repeat (refine hG.1 _ _ _ _ _ _ rfl ?_)
    refine And.intro (fun h => by first | exact absurd h (by decide) | exact False.elim (h (by decide))) (fun _ => ?_)
    repeat (refine hG.1 _ _ _ _ _ _ rfl ?_)
    exact And.intro rfl (And.intro rfl rfl)
  · repeat (refine hG.1 _ _ _ _ _ _ rfl ?_)
    refine And.intro rfl (cx (m_isArea_t S _ na ha (by omega) hal) rfl ?_)
    repeat (refine hG.1 _ _ _ _ _ _ rfl ?_)
    refine And.intro (fun h => by first | exact absurd h (by decide) | exact False.elim (h (by decide))) (fun _ => ?_)
    repeat (refine hG.1 _ _ _ _ _ _ rfl ?_)
    refine And.intro rfl (cx (m_isNode_f S _ n hn hn16 h1n h) rfl ?_)
    repeat (refine hG.1 _ _ _ _ _ _ rfl ?_)
    refine And.intro (fun _ => ?_) (fun h => by first | exact absurd h (by decide) | exact False.elim (h (by decide)))
    repeat (refine hG.1 _ _ _ _ _ _ rfl ?_)
    refine And.intro (fun _ => ?_) (fun h => by first | exact absurd h (by decide) | exact False.elim (h (by decide)))
    repeat (refine hG.1 _ _ _ _ _ _ rfl ?_)
    refine And.intro (fun h => by first | exact absurd h (by decide) | exact False.elim (h (by decide))) (fun _ => ?_)
    repeat (refine hG.1 _ _ _ _ _ _ rfl ?_)
    refine And.intro rfl (cx (m_fails_t S (nI 1) (by decide)) rfl ?_)
    repeat (refine hG.1 _ _ _ _ _ _ rfl ?_)
    refine And.intro (fun h => by first | exact absurd h (by decide) | exact False.elim (h (by decide))) (fun _ => ?_)
    repeat (refine hG.1 _ _ _ _ _ _ rfl ?_)
    exact And.intro rfl (And.intro rfl rfl)
abbrev canM (A : Nat → Nat → Int32) (a j q : Nat) : Prop := j ≠ q ∧ hs (A 1 j) q ∧ ¬ hs (A 21 a) j
abbrev tExp (S : PS) (a j : Nat) : PS := ((sThr S (nI 0)).1, va_up S.2.1 21 (upd (S.2.1 21) a (S.2.1 21 a ||| one j)), S.2.2)
theorem m_addExport_2 (S : PS) (a j q n na : Nat) (hn : S.1 12 0 = nI n) (hn16 : n ≤ 16) (ha8 : S.1 12 8 = nI na) (hna : na ≤ 8) (ha : a < na) (hj : j < n) (hW : Wy S.2.1 n) (hq : q < n) (h20 : S.2.1 20 a = nI q) (hc : ¬ canM S.2.1 a j q) : Run 0 77 [.ref 12, .int (nI a), .int (nI j)] S (.inl (some (nI 0))) (sThr S (nI 2)) := by
  refine run_of (by decide +kernel) rfl (fun L xs G hG => ?_)
  repeat (refine hG.1 _ _ _ _ _ _ rfl ?_)
  refine And.intro rfl (cx (m_isArea_t S _ na ha8 (by omega) ha) rfl ?_)
  repeat (refine hG.1 _ _ _ _ _ _ rfl ?_)
  refine And.intro (fun h => by first | exact absurd h (by decide) | exact False.elim (h (by decide))) (fun _ => ?_)
  repeat (refine hG.1 _ _ _ _ _ _ rfl ?_)
  refine And.intro rfl (cx (m_isNode_t S _ n hn hn16 hj) rfl ?_)
  repeat (refine hG.1 _ _ _ _ _ _ rfl ?_)
  refine And.intro (fun h => by first | exact absurd h (by decide) | exact False.elim (h (by decide))) (fun _ => ?_)
  repeat (refine hG.1 _ _ _ _ _ _ rfl ?_)
  refine And.intro (fun h => by first | exact absurd h (by decide) | exact False.elim (h (by decide))) (fun _ => ?_)
  repeat (refine hG.1 _ _ _ _ _ _ rfl ?_)
  refine And.intro (vp_in_nI ((show a < 8 by omega)) (by decide)) ?_; rw [nI_clamp (Nat.lt_trans ((show a < 8 by omega)) (by decide))]
  rw [h20]
  repeat (refine hG.1 _ _ _ _ _ _ rfl ?_)
  refine And.intro (fun h1 => ?_) (fun h1 => ?_)
  · repeat (refine hG.1 _ _ _ _ _ _ rfl ?_)
    refine And.intro (fun _ => ?_) (fun h => by first | exact absurd h (by decide) | exact False.elim (h (by decide)))
    repeat (refine hG.1 _ _ _ _ _ _ rfl ?_)
    refine And.intro (fun _ => ?_) (fun h => by first | exact absurd h (by decide) | exact False.elim (h (by decide)))
    repeat (refine hG.1 _ _ _ _ _ _ rfl ?_)
    refine And.intro rfl (cx (m_fails_t S (nI 2) (by decide)) rfl ?_)
    repeat (refine hG.1 _ _ _ _ _ _ rfl ?_)
    refine And.intro (fun h => by first | exact absurd h (by decide) | exact False.elim (h (by decide))) (fun _ => ?_)
    repeat (refine hG.1 _ _ _ _ _ _ rfl ?_)
    exact And.intro rfl (And.intro rfl rfl)
  · repeat (refine hG.1 _ _ _ _ _ _ rfl ?_)
    refine And.intro (vp_in_nI ((show a < 8 by omega)) (by decide)) ?_; rw [nI_clamp (Nat.lt_trans ((show a < 8 by omega)) (by decide))]
    rw [h20]
    repeat (refine hG.1 _ _ _ _ _ _ rfl ?_)
    refine And.intro rfl (cx (m_isBelow S j q n hW hn16 hj (by omega)) rfl ?_)
    repeat (refine hG.1 _ _ _ _ _ _ rfl ?_)
    refine And.intro (fun h2 => ?_) (fun h2 => ?_)
    · repeat (refine hG.1 _ _ _ _ _ _ rfl ?_)
      refine And.intro (fun _ => ?_) (fun h => by first | exact absurd h (by decide) | exact False.elim (h (by decide)))
      repeat (refine hG.1 _ _ _ _ _ _ rfl ?_)
      refine And.intro (fun _ => ?_) (fun h => by first | exact absurd h (by decide) | exact False.elim (h (by decide)))
      repeat (refine hG.1 _ _ _ _ _ _ rfl ?_)
      refine And.intro rfl (cx (m_fails_t S (nI 2) (by decide)) rfl ?_)
      repeat (refine hG.1 _ _ _ _ _ _ rfl ?_)
      refine And.intro (fun h => by first | exact absurd h (by decide) | exact False.elim (h (by decide))) (fun _ => ?_)
      repeat (refine hG.1 _ _ _ _ _ _ rfl ?_)
      exact And.intro rfl (And.intro rfl rfl)
    · rw [bi_n] at h2
      repeat (refine hG.1 _ _ _ _ _ _ rfl ?_)
      refine And.intro rfl (cx (m_isExp S a j (by omega) (by omega)) rfl ?_)
      repeat (refine hG.1 _ _ _ _ _ _ rfl ?_)
      refine And.intro (fun h3 => ?_) (fun h3 => ?_)
      · repeat (refine hG.1 _ _ _ _ _ _ rfl ?_)
        refine And.intro (fun _ => ?_) (fun h => by first | exact absurd h (by decide) | exact False.elim (h (by decide)))
        repeat (refine hG.1 _ _ _ _ _ _ rfl ?_)
        refine And.intro (fun _ => ?_) (fun h => by first | exact absurd h (by decide) | exact False.elim (h (by decide)))
        repeat (refine hG.1 _ _ _ _ _ _ rfl ?_)
        refine And.intro rfl (cx (m_fails_t S (nI 2) (by decide)) rfl ?_)
        repeat (refine hG.1 _ _ _ _ _ _ rfl ?_)
        refine And.intro (fun h => by first | exact absurd h (by decide) | exact False.elim (h (by decide))) (fun _ => ?_)
        repeat (refine hG.1 _ _ _ _ _ _ rfl ?_)
        exact And.intro rfl (And.intro rfl rfl)
      · rw [bi_0] at h3
        exact absurd ⟨fun z => h1 (by rw [z]), h2, h3⟩ hc
theorem m_addExport (S : PS) (a j q n nb na : Nat) (rp sh : Int32) (ha8 : S.1 12 8 = nI na) (hna : na ≤ 8) (ha : a < na) (hj : j < n) (hM : MR (tExp S a j) n nb rp sh) (hA : ArOk S.2.1 n a q) (h20 : S.2.1 20 a = nI q) (hc : canM S.2.1 a j q) : Run 0 77 [.ref 12, .int (nI a), .int (nI j)] S (.inl (some (nI (cnt (inA S.2.1 a) n)))) (tExp S a j) := by
  have hn : S.1 12 0 = nI n := hM.1.1
  have hn16 := hM.1.2.2.1
  have hW : Wy S.2.1 n := hM.2.1
  have hq := hA.1
  refine run_of (by decide +kernel) rfl (fun L xs G hG => ?_)
  repeat (refine hG.1 _ _ _ _ _ _ rfl ?_)
  refine And.intro rfl (cx (m_isArea_t S _ na ha8 (by omega) ha) rfl ?_)
  repeat (refine hG.1 _ _ _ _ _ _ rfl ?_)
  refine And.intro (fun h => by first | exact absurd h (by decide) | exact False.elim (h (by decide))) (fun _ => ?_)
  repeat (refine hG.1 _ _ _ _ _ _ rfl ?_)
  refine And.intro rfl (cx (m_isNode_t S _ n hn hn16 hj) rfl ?_)
  repeat (refine hG.1 _ _ _ _ _ _ rfl ?_)
  refine And.intro (fun h => by first | exact absurd h (by decide) | exact False.elim (h (by decide))) (fun _ => ?_)
  repeat (refine hG.1 _ _ _ _ _ _ rfl ?_)
  refine And.intro (fun h => by first | exact absurd h (by decide) | exact False.elim (h (by decide))) (fun _ => ?_)
  repeat (refine hG.1 _ _ _ _ _ _ rfl ?_)
  refine And.intro (vp_in_nI ((show a < 8 by omega)) (by decide)) ?_; rw [nI_clamp (Nat.lt_trans ((show a < 8 by omega)) (by decide))]
  rw [h20]
  repeat (refine hG.1 _ _ _ _ _ _ rfl ?_)
  refine And.intro (fun h1 => ?_) (fun h1 => ?_)
  · exact absurd ((nI_eq (by omega) (by omega)).mp h1) hc.1
  · repeat (refine hG.1 _ _ _ _ _ _ rfl ?_)
    refine And.intro (vp_in_nI ((show a < 8 by omega)) (by decide)) ?_; rw [nI_clamp (Nat.lt_trans ((show a < 8 by omega)) (by decide))]
    rw [h20]
    repeat (refine hG.1 _ _ _ _ _ _ rfl ?_)
    refine And.intro rfl (cx (m_isBelow S j q n hW hn16 hj (by omega)) rfl ?_)
    rw [bi_t hc.2.1]
    repeat (refine hG.1 _ _ _ _ _ _ rfl ?_)
    refine And.intro (fun h => by first | exact absurd h (by decide) | exact False.elim (h (by decide))) (fun _ => ?_)
    repeat (refine hG.1 _ _ _ _ _ _ rfl ?_)
    refine And.intro rfl (cx (m_isExp S a j (by omega) (by omega)) rfl ?_)
    rw [bi_f hc.2.2]
    repeat (refine hG.1 _ _ _ _ _ _ rfl ?_)
    refine And.intro (fun h => by first | exact absurd h (by decide) | exact False.elim (h (by decide))) (fun _ => ?_)
    repeat (refine hG.1 _ _ _ _ _ _ rfl ?_)
    refine And.intro (fun _ => ?_) (fun h => by first | exact absurd h (by decide) | exact False.elim (h (by decide)))
    repeat (refine hG.1 _ _ _ _ _ _ rfl ?_)
    refine And.intro (fun h => by first | exact absurd h (by decide) | exact False.elim (h (by decide))) (fun _ => ?_)
    repeat (refine hG.1 _ _ _ _ _ _ rfl ?_)
    refine And.intro rfl (cx (m_fails_f S) rfl ?_)
    repeat (refine hG.1 _ _ _ _ _ _ rfl ?_)
    refine And.intro (fun _ => ?_) (fun h => by first | exact absurd h (by decide) | exact False.elim (h (by decide)))
    repeat (refine hG.1 _ _ _ _ _ _ rfl ?_)
    refine And.intro (vp_in_nI ((show a < 8 by omega)) (by decide)) ?_; rw [nI_clamp (Nat.lt_trans ((show a < 8 by omega)) (by decide))]
    repeat (refine hG.1 _ _ _ _ _ _ rfl ?_)
    refine And.intro (vp_in_nI ((show a < 8 by omega)) (by decide)) ?_; rw [nI_clamp (Nat.lt_trans ((show a < 8 by omega)) (by decide))]
    repeat (refine hG.1 _ _ _ _ _ _ rfl ?_)
    refine And.intro rfl (cx (m_many (tExp S a j) a q n nb rp sh hM (by omega) hA) rfl ?_)
    repeat (refine hG.1 _ _ _ _ _ _ rfl ?_)
    exact And.intro rfl (And.intro rfl rfl)
theorem m_area_0 (S : PS) {i : Nat} (x : Int32) (na : Nat) (ha : S.1 12 8 = nI na) (hna : na ≤ 8) (h : noN x (nI na)) : Run 0 78 [.ref 12, .int x] S (.inl (some (nI 0))) (sThr S (nI 1)) ∧ Run 0 82 [.ref 12, .int x] S (.inl (some (nI 0))) (sThr S (nI 1)) ∧ Run 0 83 [.ref 12, .int x] S (.inl (some (nI 0))) (sThr S (nI 1)) ∧ Run 0 85 [.ref 12, .int x] S (.inl (some (nI 0))) (sThr S (nI 1)) := by
  refine ⟨?_, ?_, ?_, ?_⟩
  · refine run_of (by decide +kernel) rfl (fun L xs G hG => ?_)
    repeat (refine hG.1 _ _ _ _ _ _ rfl ?_)
    refine And.intro rfl (cx (m_isArea_f S _ na ha (by omega) h) rfl ?_)
    repeat (refine hG.1 _ _ _ _ _ _ rfl ?_)
    refine And.intro (fun _ => ?_) (fun h => by first | exact absurd h (by decide) | exact False.elim (h (by decide)))
    repeat (refine hG.1 _ _ _ _ _ _ rfl ?_)
    refine And.intro rfl (cx (m_fails_t S (nI 1) (by decide)) rfl ?_)
    repeat (refine hG.1 _ _ _ _ _ _ rfl ?_)
    refine And.intro (fun h => by first | exact absurd h (by decide) | exact False.elim (h (by decide))) (fun _ => ?_)
    repeat (refine hG.1 _ _ _ _ _ _ rfl ?_)
    exact And.intro rfl (And.intro rfl rfl)
  · refine run_of (by decide +kernel) rfl (fun L xs G hG => ?_)
    repeat (refine hG.1 _ _ _ _ _ _ rfl ?_)
    refine And.intro rfl (cx (m_isArea_f S _ na ha (by omega) h) rfl ?_)
    repeat (refine hG.1 _ _ _ _ _ _ rfl ?_)
    refine And.intro (fun _ => ?_) (fun h => by first | exact absurd h (by decide) | exact False.elim (h (by decide)))
    repeat (refine hG.1 _ _ _ _ _ _ rfl ?_)
    refine And.intro rfl (cx (m_fails_t S (nI 1) (by decide)) rfl ?_)
    repeat (refine hG.1 _ _ _ _ _ _ rfl ?_)
    refine And.intro (fun h => by first | exact absurd h (by decide) | exact False.elim (h (by decide))) (fun _ => ?_)
    repeat (refine hG.1 _ _ _ _ _ _ rfl ?_)
    exact And.intro rfl (And.intro rfl rfl)
  · refine run_of (by decide +kernel) rfl (fun L xs G hG => ?_)
    repeat (refine hG.1 _ _ _ _ _ _ rfl ?_)
    refine And.intro rfl (cx (m_isArea_f S _ na ha (by omega) h) rfl ?_)
    repeat (refine hG.1 _ _ _ _ _ _ rfl ?_)
    refine And.intro (fun _ => ?_) (fun h => by first | exact absurd h (by decide) | exact False.elim (h (by decide)))
    repeat (refine hG.1 _ _ _ _ _ _ rfl ?_)
    refine And.intro rfl (cx (m_fails_t S (nI 1) (by decide)) rfl ?_)
    repeat (refine hG.1 _ _ _ _ _ _ rfl ?_)
    refine And.intro (fun h => by first | exact absurd h (by decide) | exact False.elim (h (by decide))) (fun _ => ?_)
    repeat (refine hG.1 _ _ _ _ _ _ rfl ?_)
    exact And.intro rfl (And.intro rfl rfl)
  · refine run_of (by decide +kernel) rfl (fun L xs G hG => ?_)
    repeat (refine hG.1 _ _ _ _ _ _ rfl ?_)
    refine And.intro rfl (cx (m_isArea_f S _ na ha (by omega) h) rfl ?_)
    repeat (refine hG.1 _ _ _ _ _ _ rfl ?_)
    refine And.intro (fun _ => ?_) (fun h => by first | exact absurd h (by decide) | exact False.elim (h (by decide)))
    repeat (refine hG.1 _ _ _ _ _ _ rfl ?_)
    refine And.intro rfl (cx (m_fails_t S (nI 1) (by decide)) rfl ?_)
    repeat (refine hG.1 _ _ _ _ _ _ rfl ?_)
    refine And.intro (fun h => by first | exact absurd h (by decide) | exact False.elim (h (by decide))) (fun _ => ?_)
    repeat (refine hG.1 _ _ _ _ _ _ rfl ?_)
    exact And.intro rfl (And.intro rfl rfl)
theorem m_nodes (S : PS) (a q n nb na : Nat) (rp sh : Int32) (hM : MR S n nb rp sh) (ha8 : S.1 12 8 = nI na) (hna : na ≤ 8) (ha : a < na) (hA : ArOk S.2.1 n a q) : Run 0 78 [.ref 12, .int (nI a)] S (.inl (some (stL (inA S.2.1 a) n))) (sThr S (nI 0)) := by
  obtain ⟨⟨h0, h1n, hn, -, -⟩, -⟩ := id hM
  refine run_of (by decide +kernel) rfl (fun L xs G hG => ?_)
  have main : ∀ k, k ≤ n → G 0 26 [(3, .int (nI k)), (2, .int (stL (inA S.2.1 a) k)), (0, .ref 12), (1, .int (nI a))] [] (sThr S (nI 0)) := by
    refine loop_up (fun k hk ih => ?_) ?_
    · repeat (refine hG.1 _ _ _ _ _ _ rfl ?_)
      rw [show (sThr S (nI 0)).1 12 0 = nI n from h0]
      refine And.intro (fun h => ?_) (fun h => ?_)
      · exact absurd h (nI_ge (by omega) (by omega))
      · repeat (refine hG.1 _ _ _ _ _ _ rfl ?_)
        refine And.intro rfl (cx (m_isWithin (sThr S (nI 0)) a k q n nb rp sh hM (by omega) hk hA) rfl ?_)
        repeat (refine hG.1 _ _ _ _ _ _ rfl ?_)
        refine And.intro (fun h1 => ?_) (fun h1 => ?_)
        · rw [bi_0] at h1
          have e : stL (inA S.2.1 a) (k + 1) = stL (inA S.2.1 a) k ||| nI 0 := by
            rw [stL_f h1, nI_0, Int32.or_zero]
          rw [e] at ih
          repeat (first | (refine wk hG ?_ (ih); (repeat (refine And.intro (by first | with_reducible rfl | with_reducible exact nI_add _ _ | with_reducible exact pk_m1 _ | rfl) ?_)); exact trivial) | refine hG.1 _ _ _ _ _ _ rfl ?_)
        · rw [bi_n] at h1
          rw [stL_t h1] at ih
          repeat (first | (refine wk hG ?_ (ih); (repeat (refine And.intro (by first | with_reducible rfl | with_reducible exact nI_add _ _ | with_reducible exact pk_m1 _ | rfl) ?_)); exact trivial) | refine hG.1 _ _ _ _ _ _ rfl ?_)
    · repeat (refine hG.1 _ _ _ _ _ _ rfl ?_)
      rw [show (sThr S (nI 0)).1 12 0 = nI n from h0]
      refine And.intro (fun h => ?_) (fun h => ?_)
      · repeat (refine hG.1 _ _ _ _ _ _ rfl ?_)
        exact And.intro rfl (And.intro rfl rfl)
      · exact absurd (nI_le (Nat.le_refl _) (by omega)) h
  repeat (refine hG.1 _ _ _ _ _ _ rfl ?_)
  refine And.intro rfl (cx (m_isArea_t S _ na ha8 (by omega) ha) rfl ?_)
  repeat (refine hG.1 _ _ _ _ _ _ rfl ?_)
  refine And.intro (fun h => by first | exact absurd h (by decide) | exact False.elim (h (by decide))) (fun _ => ?_)
  repeat (refine hG.1 _ _ _ _ _ _ rfl ?_)
  refine And.intro rfl (cx (m_fails_f S) rfl ?_)
  repeat (refine hG.1 _ _ _ _ _ _ rfl ?_)
  refine And.intro (fun _ => ?_) (fun h => by first | exact absurd h (by decide) | exact False.elim (h (by decide)))
  have h0 := main 0 (Nat.zero_le _); simp only [stL] at h0; repeat (first | (refine wk hG ?_ (h0); (repeat (refine And.intro (by first | with_reducible rfl | with_reducible exact nI_add _ _ | with_reducible exact pk_m1 _ | rfl) ?_)); exact trivial) | refine hG.1 _ _ _ _ _ _ rfl ?_)
theorem m_areaTakes (S : PS) (a q n nb na : Nat) (rp sh : Int32) (hM : MR S n nb rp sh) (ha8 : S.1 12 8 = nI na) (hna : na ≤ 8) (ha : a < na) (hA : ArOk S.2.1 n a q) : Run 0 82 [.ref 12, .int (nI a)] S (.inl (some (smL (inA S.2.1 a) (tknX S.2.1 nb rp sh) n))) (sThr S (nI 0)) := by
  refine run_of (by decide +kernel) rfl (fun L xs G hG => ?_)
  repeat (refine hG.1 _ _ _ _ _ _ rfl ?_)
  refine And.intro rfl (cx (m_isArea_t S _ na ha8 (by omega) ha) rfl ?_)
  repeat (refine hG.1 _ _ _ _ _ _ rfl ?_)
  refine And.intro (fun h => by first | exact absurd h (by decide) | exact False.elim (h (by decide))) (fun _ => ?_)
  repeat (refine hG.1 _ _ _ _ _ _ rfl ?_)
  refine And.intro rfl (cx (m_fails_f S) rfl ?_)
  repeat (refine hG.1 _ _ _ _ _ _ rfl ?_)
  refine And.intro (fun _ => ?_) (fun h => by first | exact absurd h (by decide) | exact False.elim (h (by decide)))
  repeat (refine hG.1 _ _ _ _ _ _ rfl ?_)
  refine And.intro rfl (cx (m_takenBy (sThr S (nI 0)) a q n nb rp sh hM (by omega) hA) rfl ?_)
  repeat (refine hG.1 _ _ _ _ _ _ rfl ?_)
  exact And.intro rfl (And.intro rfl rfl)
theorem m_loss (S : PS) (a q n nb na : Nat) (rp sh : Int32) (hM : MR S n nb rp sh) (ha8 : S.1 12 8 = nI na) (hna : na ≤ 8) (ha : a < na) (hA : ArOk S.2.1 n a q) : Run 0 83 [.ref 12, .int (nI a)] S (.inl (some (smL (fun k => inA S.2.1 a k && decide (S.2.1 1 k &&& sh = 0)) (lkgX S.2.1 nb rp) n))) (sThr S (nI 0)) := by
  obtain ⟨⟨h0, h1n, hn, -, -⟩, hW, -, -, ⟨hsh, hs0⟩, -⟩ := id hM
  refine run_of (by decide +kernel) rfl (fun L xs G hG => ?_)
  have main : ∀ k, k ≤ n → G 0 26 [(3, .int (nI k)), (2, .int (smL (fun k => inA S.2.1 a k && decide (S.2.1 1 k &&& sh = 0)) (lkgX S.2.1 nb rp) k)), (0, .ref 12), (1, .int (nI a))] [] (sThr S (nI 0)) := by
    refine loop_up (fun k hk ih => ?_) ?_
    · have hno : ¬ (inA S.2.1 a k = true ∧ S.2.1 1 k &&& sh = 0) → smL (fun k => inA S.2.1 a k && decide (S.2.1 1 k &&& sh = 0)) (lkgX S.2.1 nb rp) (k + 1) = smL (fun k => inA S.2.1 a k && decide (S.2.1 1 k &&& sh = 0)) (lkgX S.2.1 nb rp) k + nI 0 := by
        intro z
        rw [smL_f (fun w => z (by rw [Bool.and_eq_true, decide_eq_true_eq] at w; exact w)), nI_0, Int32.add_zero]
      repeat (refine hG.1 _ _ _ _ _ _ rfl ?_)
      rw [show (sThr S (nI 0)).1 12 0 = nI n from h0]
      refine And.intro (fun h => ?_) (fun h => ?_)
      · exact absurd h (nI_ge (by omega) (by omega))
      · repeat (refine hG.1 _ _ _ _ _ _ rfl ?_)
        refine And.intro rfl (cx (m_isWithin (sThr S (nI 0)) a k q n nb rp sh hM (by omega) hk hA) rfl ?_)
        repeat (refine hG.1 _ _ _ _ _ _ rfl ?_)
        refine And.intro (fun h1 => ?_) (fun h1 => ?_)
        · rw [bi_0] at h1
          rw [hno (fun z => h1 z.1)] at ih
          repeat (first | (refine wk hG ?_ (ih); (repeat (refine And.intro (by first | with_reducible rfl | with_reducible exact nI_add _ _ | with_reducible exact pk_m1 _ | rfl) ?_)); exact trivial) | refine hG.1 _ _ _ _ _ _ rfl ?_)
        · rw [bi_n] at h1
          repeat (refine hG.1 _ _ _ _ _ _ rfl ?_)
          refine And.intro rfl (cx (m_supplied (sThr S (nI 0)) k n sh hW hn hk hsh hs0) rfl ?_)
          repeat (refine hG.1 _ _ _ _ _ _ rfl ?_)
          refine And.intro (fun h2 => ?_) (fun h2 => ?_)
          · rw [bi_0] at h2
            rw [hno (fun z => h2 z.2)] at ih
            repeat (first | (refine wk hG ?_ (ih); (repeat (refine And.intro (by first | with_reducible rfl | with_reducible exact nI_add _ _ | with_reducible exact pk_m1 _ | rfl) ?_)); exact trivial) | refine hG.1 _ _ _ _ _ _ rfl ?_)
          · rw [bi_n] at h2
            repeat (refine hG.1 _ _ _ _ _ _ rfl ?_)
            refine And.intro rfl (cx (m_leaks (sThr S (nI 0)) k n nb rp sh hM hk) rfl ?_)
            rw [smL_t (by rw [Bool.and_eq_true, decide_eq_true_eq]; exact ⟨h1, h2⟩)] at ih
            repeat (first | (refine wk hG ?_ (ih); (repeat (refine And.intro (by first | with_reducible rfl | with_reducible exact nI_add _ _ | with_reducible exact pk_m1 _ | rfl) ?_)); exact trivial) | refine hG.1 _ _ _ _ _ _ rfl ?_)
    · repeat (refine hG.1 _ _ _ _ _ _ rfl ?_)
      rw [show (sThr S (nI 0)).1 12 0 = nI n from h0]
      refine And.intro (fun h => ?_) (fun h => ?_)
      · repeat (refine hG.1 _ _ _ _ _ _ rfl ?_)
        exact And.intro rfl (And.intro rfl rfl)
      · exact absurd (nI_le (Nat.le_refl _) (by omega)) h
  repeat (refine hG.1 _ _ _ _ _ _ rfl ?_)
  refine And.intro rfl (cx (m_isArea_t S _ na ha8 (by omega) ha) rfl ?_)
  repeat (refine hG.1 _ _ _ _ _ _ rfl ?_)
  refine And.intro (fun h => by first | exact absurd h (by decide) | exact False.elim (h (by decide))) (fun _ => ?_)
  repeat (refine hG.1 _ _ _ _ _ _ rfl ?_)
  refine And.intro rfl (cx (m_fails_f S) rfl ?_)
  repeat (refine hG.1 _ _ _ _ _ _ rfl ?_)
  refine And.intro (fun _ => ?_) (fun h => by first | exact absurd h (by decide) | exact False.elim (h (by decide)))
  have h0 := main 0 (Nat.zero_le _); simp only [smL] at h0; repeat (first | (refine wk hG ?_ (h0); (repeat (refine And.intro (by first | with_reducible rfl | with_reducible exact nI_add _ _ | with_reducible exact pk_m1 _ | rfl) ?_)); exact trivial) | refine hG.1 _ _ _ _ _ _ rfl ?_)
theorem m_stepPipe_na (S : PS) (x y : Int32) (na : Nat) (ha : S.1 12 8 = nI na) (hna : na ≤ 8) (h : noN x (nI na)) : Run 0 87 [.ref 12, .int x, .int y] S (.inl (some (nI 0))) (sThr S (nI 1)) ∧ Run 0 88 [.ref 12, .int x, .int y] S (.inl (some (nI 0))) (sThr S (nI 1)) := by
  refine ⟨?_, ?_⟩
  · refine run_of (by decide +kernel) rfl (fun L xs G hG => ?_)
    repeat (refine hG.1 _ _ _ _ _ _ rfl ?_)
    refine And.intro rfl (cx (m_isStep_na S _ _ na ha hna h) rfl ?_)
    repeat (refine hG.1 _ _ _ _ _ _ rfl ?_)
    refine And.intro (fun _ => ?_) (fun h => by first | exact absurd h (by decide) | exact False.elim (h (by decide)))
    repeat (refine hG.1 _ _ _ _ _ _ rfl ?_)
    refine And.intro rfl (cx (m_fails_t S (nI 1) (by decide)) rfl ?_)
    repeat (refine hG.1 _ _ _ _ _ _ rfl ?_)
    refine And.intro (fun h => by first | exact absurd h (by decide) | exact False.elim (h (by decide))) (fun _ => ?_)
    repeat (refine hG.1 _ _ _ _ _ _ rfl ?_)
    exact And.intro rfl (And.intro rfl rfl)
  · refine run_of (by decide +kernel) rfl (fun L xs G hG => ?_)
    repeat (refine hG.1 _ _ _ _ _ _ rfl ?_)
    refine And.intro rfl (cx (m_isStep_na S _ _ na ha hna h) rfl ?_)
    repeat (refine hG.1 _ _ _ _ _ _ rfl ?_)
    refine And.intro (fun _ => ?_) (fun h => by first | exact absurd h (by decide) | exact False.elim (h (by decide)))
    repeat (refine hG.1 _ _ _ _ _ _ rfl ?_)
    refine And.intro rfl (cx (m_fails_t S (nI 1) (by decide)) rfl ?_)
    repeat (refine hG.1 _ _ _ _ _ _ rfl ?_)
    refine And.intro (fun h => by first | exact absurd h (by decide) | exact False.elim (h (by decide))) (fun _ => ?_)
    repeat (refine hG.1 _ _ _ _ _ _ rfl ?_)
    exact And.intro rfl (And.intro rfl rfl)
theorem m_stepPipe_1 (S : PS) (a q n nb na : Nat) (rp sh y : Int32) (hM : MR S n nb rp sh) (ha8 : S.1 12 8 = nI na) (hna : na ≤ 8) (ha : a < na) (hA : ArOk S.2.1 n a q) (h : pkX S.2.1 sh n a y = none) : Run 0 87 [.ref 12, .int (nI a), .int y] S (.inl (some (nI 0))) (sThr S (nI 1)) ∧ Run 0 88 [.ref 12, .int (nI a), .int y] S (.inl (some (nI 0))) (sThr S (nI 1)) := by
  have g := m_isStep S a q n nb na rp sh y hM ha8 hna ha hA
  rw [bi_f (by rw [h]; decide)] at g
  refine ⟨?_, ?_⟩
  · refine run_of (by decide +kernel) rfl (fun L xs G hG => ?_)
    repeat (refine hG.1 _ _ _ _ _ _ rfl ?_)
    refine And.intro rfl (cx (g) rfl ?_)
    repeat (refine hG.1 _ _ _ _ _ _ rfl ?_)
    refine And.intro (fun _ => ?_) (fun h => by first | exact absurd h (by decide) | exact False.elim (h (by decide)))
    repeat (refine hG.1 _ _ _ _ _ _ rfl ?_)
    refine And.intro rfl (cx (m_fails_t S (nI 1) (by decide)) rfl ?_)
    repeat (refine hG.1 _ _ _ _ _ _ rfl ?_)
    refine And.intro (fun h => by first | exact absurd h (by decide) | exact False.elim (h (by decide))) (fun _ => ?_)
    repeat (refine hG.1 _ _ _ _ _ _ rfl ?_)
    exact And.intro rfl (And.intro rfl rfl)
  · refine run_of (by decide +kernel) rfl (fun L xs G hG => ?_)
    repeat (refine hG.1 _ _ _ _ _ _ rfl ?_)
    refine And.intro rfl (cx (g) rfl ?_)
    repeat (refine hG.1 _ _ _ _ _ _ rfl ?_)
    refine And.intro (fun _ => ?_) (fun h => by first | exact absurd h (by decide) | exact False.elim (h (by decide)))
    repeat (refine hG.1 _ _ _ _ _ _ rfl ?_)
    refine And.intro rfl (cx (m_fails_t S (nI 1) (by decide)) rfl ?_)
    repeat (refine hG.1 _ _ _ _ _ _ rfl ?_)
    refine And.intro (fun h => by first | exact absurd h (by decide) | exact False.elim (h (by decide))) (fun _ => ?_)
    repeat (refine hG.1 _ _ _ _ _ _ rfl ?_)
    exact And.intro rfl (And.intro rfl rfl)
theorem m_stepPipe (S : PS) (a q n nb na k : Nat) (rp sh y : Int32) (hM : MR S n nb rp sh) (ha8 : S.1 12 8 = nI na) (hna : na ≤ 8) (ha : a < na) (hA : ArOk S.2.1 n a q) (h : pkX S.2.1 sh n a y = some k) : Run 0 87 [.ref 12, .int (nI a), .int y] S (.inl (some (nI k))) (sThr S (nI 0)) := by
  have g := m_isStep S a q n nb na rp sh y hM ha8 hna ha hA
  rw [bi_t (by rw [h]; rfl)] at g
  have g2 := m_pipe (sThr S (nI 0)) a q n nb rp sh y hM (by omega) hA
  rw [show pkX (sThr S (nI 0)).2.1 sh n a y = some k from h] at g2
  refine run_of (by decide +kernel) rfl (fun L xs G hG => ?_)
  repeat (refine hG.1 _ _ _ _ _ _ rfl ?_)
  refine And.intro rfl (cx (g) rfl ?_)
  repeat (refine hG.1 _ _ _ _ _ _ rfl ?_)
  refine And.intro (fun h => by first | exact absurd h (by decide) | exact False.elim (h (by decide))) (fun _ => ?_)
  repeat (refine hG.1 _ _ _ _ _ _ rfl ?_)
  refine And.intro rfl (cx (m_fails_f S) rfl ?_)
  repeat (refine hG.1 _ _ _ _ _ _ rfl ?_)
  refine And.intro (fun _ => ?_) (fun h => by first | exact absurd h (by decide) | exact False.elim (h (by decide)))
  repeat (refine hG.1 _ _ _ _ _ _ rfl ?_)
  refine And.intro rfl (cx (g2) rfl ?_)
  repeat (refine hG.1 _ _ _ _ _ _ rfl ?_)
  exact And.intro rfl (And.intro rfl rfl)
theorem m_burst_0a (S : PS) (x y z : Int32) (h : noR y (nI 1) (nI 10000)) : Run 0 89 [.ref 12, .int x, .int y, .int z] S (.inl (some (nI 0))) (sThr S (nI 1)) := by
  refine run_of (by decide +kernel) rfl (fun L xs G hG => ?_)
  repeat (refine hG.1 _ _ _ _ _ _ rfl ?_)
  refine cx (m_isIn_f S h) rfl ?_
  repeat (refine hG.1 _ _ _ _ _ _ rfl ?_)
  refine And.intro (fun _ => ?_) (fun h => by first | exact absurd h (by decide) | exact False.elim (h (by decide)))
  repeat (refine hG.1 _ _ _ _ _ _ rfl ?_)
  refine And.intro (fun h => by first | exact absurd h (by decide) | exact False.elim (h (by decide))) (fun _ => ?_)
  repeat (refine hG.1 _ _ _ _ _ _ rfl ?_)
  refine And.intro rfl (cx (m_fails_t S (nI 1) (by decide)) rfl ?_)
  repeat (refine hG.1 _ _ _ _ _ _ rfl ?_)
  refine And.intro (fun h => by first | exact absurd h (by decide) | exact False.elim (h (by decide))) (fun _ => ?_)
  repeat (refine hG.1 _ _ _ _ _ _ rfl ?_)
  exact And.intro rfl (And.intro rfl rfl)
theorem m_burst_0b (S : PS) (x y z : Int32) (h : okR y (nI 1) (nI 10000)) (h2 : noR z (nI 1) (nI 100)) : Run 0 89 [.ref 12, .int x, .int y, .int z] S (.inl (some (nI 0))) (sThr S (nI 1)) := by
  refine run_of (by decide +kernel) rfl (fun L xs G hG => ?_)
  repeat (refine hG.1 _ _ _ _ _ _ rfl ?_)
  refine cx (m_isIn_t S h) rfl ?_
  repeat (refine hG.1 _ _ _ _ _ _ rfl ?_)
  refine And.intro (fun h => by first | exact absurd h (by decide) | exact False.elim (h (by decide))) (fun _ => ?_)
  repeat (refine hG.1 _ _ _ _ _ _ rfl ?_)
  refine cx (m_isIn_f S h2) rfl ?_
  repeat (refine hG.1 _ _ _ _ _ _ rfl ?_)
  refine And.intro (fun _ => ?_) (fun h => by first | exact absurd h (by decide) | exact False.elim (h (by decide)))
  repeat (refine hG.1 _ _ _ _ _ _ rfl ?_)
  refine And.intro (fun h => by first | exact absurd h (by decide) | exact False.elim (h (by decide))) (fun _ => ?_)
  repeat (refine hG.1 _ _ _ _ _ _ rfl ?_)
  refine And.intro rfl (cx (m_fails_t S (nI 1) (by decide)) rfl ?_)
  repeat (refine hG.1 _ _ _ _ _ _ rfl ?_)
  refine And.intro (fun h => by first | exact absurd h (by decide) | exact False.elim (h (by decide))) (fun _ => ?_)
  repeat (refine hG.1 _ _ _ _ _ _ rfl ?_)
  exact And.intro rfl (And.intro rfl rfl)
theorem m_burst_1 (S : PS) (x y z : Int32) (n : Nat) (h : okR y (nI 1) (nI 10000)) (h2 : okR z (nI 1) (nI 100)) (hn : S.1 12 0 = nI n) (hn16 : n ≤ 16) (h1n : 1 ≤ n) (h1 : noN x (nI n)) : Run 0 89 [.ref 12, .int x, .int y, .int z] S (.inl (some (nI 0))) (sThr S (nI 2)) := by
  refine run_of (by decide +kernel) rfl (fun L xs G hG => ?_)
  repeat (refine hG.1 _ _ _ _ _ _ rfl ?_)
  refine cx (m_isIn_t S h) rfl ?_
  repeat (refine hG.1 _ _ _ _ _ _ rfl ?_)
  refine And.intro (fun h => by first | exact absurd h (by decide) | exact False.elim (h (by decide))) (fun _ => ?_)
  repeat (refine hG.1 _ _ _ _ _ _ rfl ?_)
  refine cx (m_isIn_t S h2) rfl ?_
  repeat (refine hG.1 _ _ _ _ _ _ rfl ?_)
  refine And.intro (fun h => by first | exact absurd h (by decide) | exact False.elim (h (by decide))) (fun _ => ?_)
  repeat (refine hG.1 _ _ _ _ _ _ rfl ?_)
  refine And.intro (fun _ => ?_) (fun h => by first | exact absurd h (by decide) | exact False.elim (h (by decide)))
  repeat (refine hG.1 _ _ _ _ _ _ rfl ?_)
  refine And.intro rfl (cx (m_isNode_f S _ n hn hn16 h1n h1) rfl ?_)
  repeat (refine hG.1 _ _ _ _ _ _ rfl ?_)
  refine And.intro (fun h => by first | exact absurd h (by decide) | exact False.elim (h (by decide))) (fun _ => ?_)
  repeat (refine hG.1 _ _ _ _ _ _ rfl ?_)
  refine And.intro rfl (cx (m_fails_t S (nI 2) (by decide)) rfl ?_)
  repeat (refine hG.1 _ _ _ _ _ _ rfl ?_)
  refine And.intro (fun h => by first | exact absurd h (by decide) | exact False.elim (h (by decide))) (fun _ => ?_)
  repeat (refine hG.1 _ _ _ _ _ _ rfl ?_)
  exact And.intro rfl (And.intro rfl rfl)
theorem m_burst_2 (S : PS) (j n : Nat) (y z : Int32) (h : okR y (nI 1) (nI 10000)) (h2 : okR z (nI 1) (nI 100)) (hn : S.1 12 0 = nI n) (hn16 : n ≤ 16) (hj : j < n) (hb : S.1 12 11 = nI 20) : Run 0 89 [.ref 12, .int (nI j), .int y, .int z] S (.inl (some (nI 0))) (sThr S (nI 3)) := by
  refine run_of (by decide +kernel) rfl (fun L xs G hG => ?_)
  repeat (refine hG.1 _ _ _ _ _ _ rfl ?_)
  refine cx (m_isIn_t S h) rfl ?_
  repeat (refine hG.1 _ _ _ _ _ _ rfl ?_)
  refine And.intro (fun h => by first | exact absurd h (by decide) | exact False.elim (h (by decide))) (fun _ => ?_)
  repeat (refine hG.1 _ _ _ _ _ _ rfl ?_)
  refine cx (m_isIn_t S h2) rfl ?_
  repeat (refine hG.1 _ _ _ _ _ _ rfl ?_)
  refine And.intro (fun h => by first | exact absurd h (by decide) | exact False.elim (h (by decide))) (fun _ => ?_)
  repeat (refine hG.1 _ _ _ _ _ _ rfl ?_)
  refine And.intro (fun _ => ?_) (fun h => by first | exact absurd h (by decide) | exact False.elim (h (by decide)))
  repeat (refine hG.1 _ _ _ _ _ _ rfl ?_)
  refine And.intro rfl (cx (m_isNode_t S j n hn hn16 hj) rfl ?_)
  repeat (refine hG.1 _ _ _ _ _ _ rfl ?_)
  refine And.intro (fun _ => ?_) (fun h => by first | exact absurd h (by decide) | exact False.elim (h (by decide)))
  repeat (refine hG.1 _ _ _ _ _ _ rfl ?_)
  rw [hb]
  refine And.intro (fun h => by first | exact absurd h (by decide) | exact False.elim (h (by decide))) (fun _ => ?_)
  repeat (refine hG.1 _ _ _ _ _ _ rfl ?_)
  refine And.intro rfl (cx (m_fails_t S (nI 3) (by decide)) rfl ?_)
  repeat (refine hG.1 _ _ _ _ _ _ rfl ?_)
  refine And.intro (fun h => by first | exact absurd h (by decide) | exact False.elim (h (by decide))) (fun _ => ?_)
  repeat (refine hG.1 _ _ _ _ _ _ rfl ?_)
  exact And.intro rfl (And.intro rfl rfl)
abbrev tBurst (S : PS) (nb j : Nat) (y z : Int32) : PS := (va_up (sThr S (nI 0)).1 12 (upd ((sThr S (nI 0)).1 12) 11 (nI (nb + 1))), va_up (va_up (va_up S.2.1 22 (upd (S.2.1 22) nb (nI j))) 23 (upd (S.2.1 23) nb y)) 24 (upd (S.2.1 24) nb z), S.2.2)
theorem m_burst (S : PS) (j n nb : Nat) (y z : Int32) (h : okR y (nI 1) (nI 10000)) (h2 : okR z (nI 1) (nI 100)) (hn : S.1 12 0 = nI n) (hn16 : n ≤ 16) (hj : j < n) (hb : S.1 12 11 = nI nb) (hnb : nb < 20) : Run 0 89 [.ref 12, .int (nI j), .int y, .int z] S (.inl (some (nI nb))) (tBurst S nb j y z) := by
  refine run_of (by decide +kernel) rfl (fun L xs G hG => ?_)
  repeat (refine hG.1 _ _ _ _ _ _ rfl ?_)
  refine cx (m_isIn_t S h) rfl ?_
  repeat (refine hG.1 _ _ _ _ _ _ rfl ?_)
  refine And.intro (fun h => by first | exact absurd h (by decide) | exact False.elim (h (by decide))) (fun _ => ?_)
  repeat (refine hG.1 _ _ _ _ _ _ rfl ?_)
  refine cx (m_isIn_t S h2) rfl ?_
  repeat (refine hG.1 _ _ _ _ _ _ rfl ?_)
  refine And.intro (fun h => by first | exact absurd h (by decide) | exact False.elim (h (by decide))) (fun _ => ?_)
  repeat (refine hG.1 _ _ _ _ _ _ rfl ?_)
  refine And.intro (fun _ => ?_) (fun h => by first | exact absurd h (by decide) | exact False.elim (h (by decide)))
  repeat (refine hG.1 _ _ _ _ _ _ rfl ?_)
  refine And.intro rfl (cx (m_isNode_t S j n hn hn16 hj) rfl ?_)
  repeat (refine hG.1 _ _ _ _ _ _ rfl ?_)
  refine And.intro (fun _ => ?_) (fun h => by first | exact absurd h (by decide) | exact False.elim (h (by decide)))
  repeat (refine hG.1 _ _ _ _ _ _ rfl ?_)
  rw [hb]
  refine And.intro (fun h3 => ?_) (fun h3 => ?_)
  · repeat (refine hG.1 _ _ _ _ _ _ rfl ?_)
    refine And.intro rfl (cx (m_fails_f S) rfl ?_)
    repeat (refine hG.1 _ _ _ _ _ _ rfl ?_)
    refine And.intro (fun _ => ?_) (fun h => by first | exact absurd h (by decide) | exact False.elim (h (by decide)))
    repeat (refine hG.1 _ _ _ _ _ _ rfl ?_)
    rw [show (sThr S (nI 0)).1 12 11 = nI nb from hb]
    refine And.intro (vp_in_nI (hnb) (by decide)) ?_; rw [nI_clamp (Nat.lt_trans (hnb) (by decide))]
    repeat (refine hG.1 _ _ _ _ _ _ rfl ?_)
    rw [show (sThr S (nI 0)).1 12 11 = nI nb from hb]
    refine And.intro (vp_in_nI (hnb) (by decide)) ?_; rw [nI_clamp (Nat.lt_trans (hnb) (by decide))]
    repeat (refine hG.1 _ _ _ _ _ _ rfl ?_)
    rw [show (sThr S (nI 0)).1 12 11 = nI nb from hb]
    refine And.intro (vp_in_nI (hnb) (by decide)) ?_; rw [nI_clamp (Nat.lt_trans (hnb) (by decide))]
    repeat (refine hG.1 _ _ _ _ _ _ rfl ?_)
    rw [show (sThr S (nI 0)).1 12 11 = nI nb from hb, nI_add]
    repeat (refine hG.1 _ _ _ _ _ _ rfl ?_)
    refine And.intro rfl (And.intro ?_ rfl)
    show Sum.inl (some (nI (nb + 1) - nI 1)) = _
    rw [pk_sub (by omega)]
    rfl
  · have h4 : nI nb = nI 20 := h3
    have := (nI_eq (by omega) (by omega)).mp h4
    omega
theorem m_repair_0 (S : PS) (x : Int32) (nb : Nat) (hb : S.1 12 11 = nI nb) (hnb : nb ≤ 20) (h1 : noN x (nI nb)) : Run 0 92 [.ref 12, .int x] S (.inl (some (nI 0))) (sThr S (nI 1)) ∧ Run 0 93 [.ref 12, .int x] S (.inl (some (nI 0))) (sThr S (nI 1)) := by
  refine ⟨?_, ?_⟩
  · refine run_of (by decide +kernel) rfl (fun L xs G hG => ?_)
    repeat (refine hG.1 _ _ _ _ _ _ rfl ?_)
    refine And.intro rfl (cx (m_isBurst_f S _ nb hb hnb h1) rfl ?_)
    repeat (refine hG.1 _ _ _ _ _ _ rfl ?_)
    refine And.intro (fun h => by first | exact absurd h (by decide) | exact False.elim (h (by decide))) (fun _ => ?_)
    repeat (refine hG.1 _ _ _ _ _ _ rfl ?_)
    refine And.intro rfl (cx (m_fails_t S (nI 1) (by decide)) rfl ?_)
    repeat (refine hG.1 _ _ _ _ _ _ rfl ?_)
    refine And.intro (fun h => by first | exact absurd h (by decide) | exact False.elim (h (by decide))) (fun _ => ?_)
    repeat (refine hG.1 _ _ _ _ _ _ rfl ?_)
    exact And.intro rfl (And.intro rfl rfl)
  · refine run_of (by decide +kernel) rfl (fun L xs G hG => ?_)
    repeat (refine hG.1 _ _ _ _ _ _ rfl ?_)
    refine And.intro rfl (cx (m_isBurst_f S _ nb hb hnb h1) rfl ?_)
    repeat (refine hG.1 _ _ _ _ _ _ rfl ?_)
    refine And.intro (fun _ => ?_) (fun h => by first | exact absurd h (by decide) | exact False.elim (h (by decide)))
    repeat (refine hG.1 _ _ _ _ _ _ rfl ?_)
    refine And.intro rfl (cx (m_fails_t S (nI 1) (by decide)) rfl ?_)
    repeat (refine hG.1 _ _ _ _ _ _ rfl ?_)
    refine And.intro (fun h => by first | exact absurd h (by decide) | exact False.elim (h (by decide))) (fun _ => ?_)
    repeat (refine hG.1 _ _ _ _ _ _ rfl ?_)
    exact And.intro rfl (And.intro rfl rfl)
theorem m_repair_1 (S : PS) (b nb : Nat) (hb0 : S.1 12 11 = nI nb) (hnb : nb ≤ 20) (hb : b < nb) (hr : S.2.1 25 b = nI 1) : Run 0 92 [.ref 12, .int (nI b)] S (.inl (some (nI 0))) (sThr S (nI 2)) := by
  refine run_of (by decide +kernel) rfl (fun L xs G hG => ?_)
  repeat (refine hG.1 _ _ _ _ _ _ rfl ?_)
  refine And.intro rfl (cx (m_isBurst_t S b nb hb0 hnb hb) rfl ?_)
  repeat (refine hG.1 _ _ _ _ _ _ rfl ?_)
  refine And.intro (fun _ => ?_) (fun h => by first | exact absurd h (by decide) | exact False.elim (h (by decide)))
  repeat (refine hG.1 _ _ _ _ _ _ rfl ?_)
  refine And.intro (vp_in_nI ((show b < 20 by omega)) (by decide)) ?_; rw [nI_clamp (Nat.lt_trans ((show b < 20 by omega)) (by decide))]
  rw [hr]
  repeat (refine hG.1 _ _ _ _ _ _ rfl ?_)
  refine And.intro (fun h => by first | exact absurd h (by decide) | exact False.elim (h (by decide))) (fun _ => ?_)
  repeat (refine hG.1 _ _ _ _ _ _ rfl ?_)
  refine And.intro rfl (cx (m_fails_t S (nI 2) (by decide)) rfl ?_)
  repeat (refine hG.1 _ _ _ _ _ _ rfl ?_)
  refine And.intro (fun h => by first | exact absurd h (by decide) | exact False.elim (h (by decide))) (fun _ => ?_)
  repeat (refine hG.1 _ _ _ _ _ _ rfl ?_)
  exact And.intro rfl (And.intro rfl rfl)
abbrev tRep (S : PS) (b : Nat) : PS := ((sThr S (nI 0)).1, va_up S.2.1 25 (upd (S.2.1 25) b (nI 1)), S.2.2)
theorem m_repair (S : PS) (b q n nb : Nat) (rp sh : Int32) (hM : MR S n nb rp sh) (hb : b < nb) (hq : q < n) (hbq : S.2.1 7 b = nI q) (hr : ¬ hs rp b) : Run 0 92 [.ref 12, .int (nI b)] S (.inl (some (csX S.2.1 nb rp sh b))) (tRep S b) := by
  obtain ⟨⟨h0, h1n, hn, hb0, hnb⟩, hW, -, -, -, hrp⟩ := id hM
  refine run_of (by decide +kernel) rfl (fun L xs G hG => ?_)
  repeat (refine hG.1 _ _ _ _ _ _ rfl ?_)
  refine And.intro rfl (cx (m_isBurst_t S b nb hb0 hnb hb) rfl ?_)
  repeat (refine hG.1 _ _ _ _ _ _ rfl ?_)
  refine And.intro (fun _ => ?_) (fun h => by first | exact absurd h (by decide) | exact False.elim (h (by decide)))
  repeat (refine hG.1 _ _ _ _ _ _ rfl ?_)
  refine And.intro (vp_in_nI ((show b < 20 by omega)) (by decide)) ?_; rw [nI_clamp (Nat.lt_trans ((show b < 20 by omega)) (by decide))]
  rw [hrp b (by omega), bi_f hr]
  repeat (refine hG.1 _ _ _ _ _ _ rfl ?_)
  refine And.intro (fun _ => ?_) (fun h => by first | exact absurd h (by decide) | exact False.elim (h (by decide)))
  repeat (refine hG.1 _ _ _ _ _ _ rfl ?_)
  refine And.intro rfl (cx (m_fails_f S) rfl ?_)
  repeat (refine hG.1 _ _ _ _ _ _ rfl ?_)
  refine And.intro (fun _ => ?_) (fun h => by first | exact absurd h (by decide) | exact False.elim (h (by decide)))
  repeat (refine hG.1 _ _ _ _ _ _ rfl ?_)
  refine And.intro rfl (cx (m_costs (sThr S (nI 0)) b q n nb rp sh hM hb hq hbq) rfl ?_)
  repeat (refine hG.1 _ _ _ _ _ _ rfl ?_)
  refine And.intro (vp_in_nI ((show b < 20 by omega)) (by decide)) ?_; rw [nI_clamp (Nat.lt_trans ((show b < 20 by omega)) (by decide))]
  rw [nar_b1]
  repeat (refine hG.1 _ _ _ _ _ _ rfl ?_)
  exact And.intro rfl (And.intro rfl rfl)
theorem m_cost (S : PS) (b q n nb : Nat) (rp sh : Int32) (hM : MR S n nb rp sh) (hb : b < nb) (hq : q < n) (hbq : S.2.1 7 b = nI q) : Run 0 93 [.ref 12, .int (nI b)] S (.inl (some (csX S.2.1 nb rp sh b))) (sThr S (nI 0)) := by
  refine run_of (by decide +kernel) rfl (fun L xs G hG => ?_)
  repeat (refine hG.1 _ _ _ _ _ _ rfl ?_)
  refine And.intro rfl (cx (m_isBurst_t S b nb hM.1.2.2.2.1 hM.1.2.2.2.2 hb) rfl ?_)
  repeat (refine hG.1 _ _ _ _ _ _ rfl ?_)
  refine And.intro (fun h => by first | exact absurd h (by decide) | exact False.elim (h (by decide))) (fun _ => ?_)
  repeat (refine hG.1 _ _ _ _ _ _ rfl ?_)
  refine And.intro rfl (cx (m_fails_f S) rfl ?_)
  repeat (refine hG.1 _ _ _ _ _ _ rfl ?_)
  refine And.intro (fun _ => ?_) (fun h => by first | exact absurd h (by decide) | exact False.elim (h (by decide)))
  repeat (refine hG.1 _ _ _ _ _ _ rfl ?_)
  refine And.intro rfl (cx (m_costs (sThr S (nI 0)) b q n nb rp sh hM hb hq hbq) rfl ?_)
  repeat (refine hG.1 _ _ _ _ _ _ rfl ?_)
  exact And.intro rfl (And.intro rfl rfl)
