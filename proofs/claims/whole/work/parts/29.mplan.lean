theorem nI_ne_m1 {k : Nat} (h : k < 100) : ¬ nI k = -1 := by
  intro z
  have h4 : (nI k).toInt = k := nI_toInt (by omega)
  rw [z] at h4
  have h5 : (-1 : Int32).toInt = -1 := by decide
  omega
def BnM (A : Nat → Nat → Int32) (n nb : Nat) : Prop := ∀ b, b < nb → ∃ q : Nat, q < n ∧ A 7 b = nI q
theorem m_ranked_0 (S : PS) (n nb : Nat) (rp sh y : Int32) (hM : MR S n nb rp sh) (hB : BnM S.2.1 n nb) (h : y < 0 ∨ ∀ j, j < nb → ¬ hs rp j → ¬ nI (rkN (csX S.2.1 nb rp sh) (S.2.1 9) rp nb j) = y) : Run 0 96 [.ref 12, .int y] S (.inl (some (nI 0))) (sThr S (nI 1)) := by
  refine run_of (by decide +kernel) rfl (fun L xs G hG => ?_)
  have tail : G 0 14 [(2, .int (-1)), (0, .ref 12), (1, .int y)] [] S := by
    repeat (refine hG.1 _ _ _ _ _ _ rfl ?_)
    refine And.intro (fun h => by first | exact absurd h (by decide) | exact False.elim (h (by decide))) (fun _ => ?_)
    repeat (refine hG.1 _ _ _ _ _ _ rfl ?_)
    refine And.intro rfl (cx (m_fails_t S (nI 1) (by decide)) rfl ?_)
    repeat (refine hG.1 _ _ _ _ _ _ rfl ?_)
    refine And.intro (fun h => by first | exact absurd h (by decide) | exact False.elim (h (by decide))) (fun _ => ?_)
    repeat (refine hG.1 _ _ _ _ _ _ rfl ?_)
    exact And.intro rfl (And.intro rfl rfl)
  repeat (refine hG.1 _ _ _ _ _ _ rfl ?_)
  refine And.intro (fun h1 => ?_) (fun h1 => ?_)
  · have h2 : ¬ y < 0 := by rw [Int32.not_lt]; exact h1
    have h3 := h.resolve_left h2
    repeat (refine hG.1 _ _ _ _ _ _ rfl ?_)
    refine And.intro rfl (cx (m_rank_f S n nb rp sh y hM hB h3) rfl ?_)
    repeat (first | (refine wk hG ?_ (tail); (repeat (refine And.intro (by first | with_reducible rfl | with_reducible exact nI_add _ _ | with_reducible exact pk_m1 _ | rfl) ?_)); exact trivial) | refine hG.1 _ _ _ _ _ _ rfl ?_)
  · repeat (first | (refine wk hG ?_ (tail); (repeat (refine And.intro (by first | with_reducible rfl | with_reducible exact nI_add _ _ | with_reducible exact pk_m1 _ | rfl) ?_)); exact trivial) | refine hG.1 _ _ _ _ _ _ rfl ?_)
theorem m_ranked (S : PS) (k n nb : Nat) (rp sh y : Int32) (hM : MR S n nb rp sh) (hB : BnM S.2.1 n nb) (h0 : ¬ y < 0) (hk : k < nb) (hr : ¬ hs rp k) (hy : nI (rkN (csX S.2.1 nb rp sh) (S.2.1 9) rp nb k) = y) (hu : ∀ j, j < nb → ¬ hs rp j → nI (rkN (csX S.2.1 nb rp sh) (S.2.1 9) rp nb j) = y → j = k) : Run 0 96 [.ref 12, .int y] S (.inl (some (nI k))) (sThr S (nI 0)) := by
  have hnb := hM.1.2.2.2.2
  refine run_of (by decide +kernel) rfl (fun L xs G hG => ?_)
  repeat (refine hG.1 _ _ _ _ _ _ rfl ?_)
  refine And.intro (fun h1 => ?_) (fun h1 => ?_)
  · repeat (refine hG.1 _ _ _ _ _ _ rfl ?_)
    refine And.intro rfl (cx (m_rank_t S k n nb rp sh y hM hB hk hr hy hu) rfl ?_)
    repeat (refine hG.1 _ _ _ _ _ _ rfl ?_)
    refine And.intro (fun h2 => ?_) (fun h2 => ?_)
    · repeat (refine hG.1 _ _ _ _ _ _ rfl ?_)
      refine And.intro rfl (cx (m_fails_f S) rfl ?_)
      repeat (refine hG.1 _ _ _ _ _ _ rfl ?_)
      refine And.intro (fun _ => ?_) (fun h => by first | exact absurd h (by decide) | exact False.elim (h (by decide)))
      repeat (refine hG.1 _ _ _ _ _ _ rfl ?_)
      exact And.intro rfl (And.intro rfl rfl)
    · exact absurd h2 (nI_ne_m1 (by omega))
  · exact absurd (by rw [← Int32.not_lt]; exact h0) h1
theorem m_plan_0 (S : PS) (y : Int32) (h : noR y (nI 0) (nI 1000)) : Run 0 97 [.ref 12, .int y] S (.inl (some (nI 0))) (sThr S (nI 1)) := by
  refine run_of (by decide +kernel) rfl (fun L xs G hG => ?_)
  repeat (refine hG.1 _ _ _ _ _ _ rfl ?_)
  refine cx (m_isIn_f S h) rfl ?_
  repeat (refine hG.1 _ _ _ _ _ _ rfl ?_)
  refine And.intro (fun _ => ?_) (fun h => by first | exact absurd h (by decide) | exact False.elim (h (by decide)))
  repeat (refine hG.1 _ _ _ _ _ _ rfl ?_)
  refine And.intro rfl (cx (m_fails_t S (nI 1) (by decide)) rfl ?_)
  repeat (refine hG.1 _ _ _ _ _ _ rfl ?_)
  refine And.intro (fun h => by first | exact absurd h (by decide) | exact False.elim (h (by decide))) (fun _ => ?_)
  repeat (refine hG.1 _ _ _ _ _ _ rfl ?_)
  exact And.intro rfl (And.intro rfl rfl)
theorem m_plan (S : PS) (n nb m : Nat) (rp sh y : Int32) (l : Nat → Nat) (rb : Nat → Int32) (hM : MR S n nb rp sh) (hB : BnM S.2.1 n nb) (h : okR y (nI 0) (nI 1000)) (hm : m ≤ nb)
    (h1 : ∀ p, p < m → rb p = nI (l p) ∧ l p < nb ∧ ¬ hs rp (l p) ∧ rkN (csX S.2.1 nb rp sh) (S.2.1 9) rp nb (l p) = p) (h2 : ∀ k, k < nb → ¬ hs rp k → ∃ p, p < m ∧ l p = k) : Run 0 97 [.ref 12, .int y] S (.inl (some (plF (S.2.1 9) rb y m).2)) (sThr S (nI 0)) := by
  obtain ⟨⟨h0, h1n, hn, hb0, hnb⟩, hW, -, ⟨-, -, h24, -, -⟩, -⟩ := id hM
  have rkt : ∀ p, p < m → Run 0 95 [.ref 12, .int (nI p)] (sThr S (nI 0)) (.inl (some (nI (l p)))) (sThr S (nI 0)) := by
    intro p hp
    obtain ⟨e1, e2, e3, e4⟩ := h1 p hp
    refine m_rank_t (sThr S (nI 0)) (l p) n nb rp sh (nI p) hM hB e2 e3 (by rw [← e4]; rw [e4]; exact congrArg nI e4) ?_
    intro j hj hjr hje
    obtain ⟨p2, hp2, rfl⟩ := h2 j hj hjr
    have e5 := (h1 p2 hp2).2.2.2
    have e6 : nI p2 = nI p := by
      rw [← hje]
      exact (congrArg nI e5).symm
    rw [(nI_eq (by omega) (by omega)).mp e6]
  have rkf : Run 0 95 [.ref 12, .int (nI m)] (sThr S (nI 0)) (.inl (some (-1))) (sThr S (nI 0)) := by
    refine m_rank_f (sThr S (nI 0)) n nb rp sh (nI m) hM hB ?_
    intro j hj hjr hje
    obtain ⟨p2, hp2, rfl⟩ := h2 j hj hjr
    have e5 := (h1 p2 hp2).2.2.2
    have e6 : nI p2 = nI m := by
      rw [← hje]
      exact (congrArg nI e5).symm
    have := (nI_eq (by omega) (by omega)).mp e6
    omega
  refine run_of (by decide +kernel) rfl (fun L xs G hG => ?_)
  have main : ∀ p, p ≤ m → G 0 39 [(5, .int (if p < m then nI (l p) else -1)), (4, .int (nI p)), (3, .int (plF (S.2.1 9) rb y p).2), (2, .int (plF (S.2.1 9) rb y p).1), (0, .ref 12)] [] (sThr S (nI 0)) := by
    refine loop_up (fun p hp ih => ?_) ?_
    · obtain ⟨e1, e2, e3, e4⟩ := h1 p hp
      rw [if_pos hp]
      have nxt : Run 0 95 [.ref 12, .int (nI (p + 1))] (sThr S (nI 0)) (.inl (some (if p + 1 < m then nI (l (p + 1)) else -1))) (sThr S (nI 0)) := by
        by_cases z : p + 1 < m
        · rw [if_pos z]; exact rkt _ z
        · rw [if_neg z, show p + 1 = m by omega]; exact rkf
      rw [← nI_add] at nxt
      repeat (refine hG.1 _ _ _ _ _ _ rfl ?_)
      refine And.intro (fun h3 => ?_) (fun h3 => ?_)
      · exact absurd h3 (nI_ne_m1 (by omega))
      · repeat (refine hG.1 _ _ _ _ _ _ rfl ?_)
        refine And.intro (vp_in_nI ((show l p < 20 by omega)) (by decide)) ?_; rw [nI_clamp (Nat.lt_trans ((show l p < 20 by omega)) (by decide))]
        rw [show (sThr S (nI 0)).2.1 24 (l p) = S.2.1 9 (l p) by rw [← h24]]
        repeat (refine hG.1 _ _ _ _ _ _ rfl ?_)
        refine And.intro (fun h4 => ?_) (fun h4 => ?_)
        · have e : plF (S.2.1 9) rb y (p + 1) = plF (S.2.1 9) rb y p := by
            rw [plF, e1, nI_clamp (show l p < 2 ^ 31 by omega), if_neg]
            rw [Int32.not_le]
            exact h4
          rw [e] at ih
          repeat (refine hG.1 _ _ _ _ _ _ rfl ?_)
          refine And.intro rfl (cx (nxt) rfl ?_)
          repeat (first | (refine wk hG ?_ (ih); (repeat (refine And.intro (by first | with_reducible rfl | with_reducible exact nI_add _ _ | with_reducible exact pk_m1 _ | rfl) ?_)); exact trivial) | refine hG.1 _ _ _ _ _ _ rfl ?_)
        · have e : plF (S.2.1 9) rb y (p + 1) = ((plF (S.2.1 9) rb y p).1 - S.2.1 9 (l p), (plF (S.2.1 9) rb y p).2 ||| one (l p)) := by
            rw [plF, e1, nI_clamp (show l p < 2 ^ 31 by omega), if_pos]
            rw [← Int32.not_lt]
            exact h4
          rw [e] at ih
          repeat (refine hG.1 _ _ _ _ _ _ rfl ?_)
          refine And.intro (vp_in_nI ((show l p < 20 by omega)) (by decide)) ?_; rw [nI_clamp (Nat.lt_trans ((show l p < 20 by omega)) (by decide))]
          rw [show (sThr S (nI 0)).2.1 24 (l p) = S.2.1 9 (l p) by rw [← h24]]
          repeat (refine hG.1 _ _ _ _ _ _ rfl ?_)
          refine And.intro rfl (cx (nxt) rfl ?_)
          repeat (first | (refine wk hG ?_ (ih); (repeat (refine And.intro (by first | with_reducible rfl | with_reducible exact nI_add _ _ | with_reducible exact pk_m1 _ | rfl) ?_)); exact trivial) | refine hG.1 _ _ _ _ _ _ rfl ?_)
    · rw [if_neg (Nat.lt_irrefl m)]
      repeat (refine hG.1 _ _ _ _ _ _ rfl ?_)
      refine And.intro (fun _ => ?_) (fun h => by first | exact absurd h (by decide) | exact False.elim (h (by decide)))
      repeat (refine hG.1 _ _ _ _ _ _ rfl ?_)
      exact And.intro rfl (And.intro rfl rfl)
  have fst : Run 0 95 [.ref 12, .int (nI 0)] (sThr S (nI 0)) (.inl (some (if 0 < m then nI (l 0) else -1))) (sThr S (nI 0)) := by
    by_cases z : 0 < m
    · rw [if_pos z]; exact rkt _ z
    · have e0 : m = 0 := by omega
      rw [e0] at rkf
      rw [if_neg z]
      exact rkf
  have g := main 0 (Nat.zero_le _)
  simp only [plF] at g
  repeat (refine hG.1 _ _ _ _ _ _ rfl ?_)
  refine cx (m_isIn_t S h) rfl ?_
  repeat (refine hG.1 _ _ _ _ _ _ rfl ?_)
  refine And.intro (fun h => by first | exact absurd h (by decide) | exact False.elim (h (by decide))) (fun _ => ?_)
  repeat (refine hG.1 _ _ _ _ _ _ rfl ?_)
  refine And.intro rfl (cx (m_fails_f S) rfl ?_)
  repeat (refine hG.1 _ _ _ _ _ _ rfl ?_)
  refine And.intro (fun _ => ?_) (fun h => by first | exact absurd h (by decide) | exact False.elim (h (by decide)))
  repeat (refine hG.1 _ _ _ _ _ _ rfl ?_)
  refine And.intro rfl (cx (fst) rfl ?_)
  repeat (first | (refine wk hG ?_ (g); (repeat (refine And.intro (by first | with_reducible rfl | with_reducible exact nI_add _ _ | with_reducible exact pk_m1 _ | rfl) ?_)); exact trivial) | refine hG.1 _ _ _ _ _ _ rfl ?_)
