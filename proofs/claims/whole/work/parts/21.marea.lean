def ArOk (A : Nat → Nat → Int32) (n a q : Nat) : Prop := q < n ∧ A 5 a = nI q ∧ ∀ e, e < 32 → hs (A 6 a) e → e < n ∧ e ≠ q ∧ hs (A 1 e) q
theorem m_isExport (S : PS) (a j n nb : Nat) (rp sh : Int32) (hM : MR S n nb rp sh) (ha : a < 8) (hj : j < 16) : Run 0 73 [.ref 12, .int (nI a), .int (nI j)] S (.inl (some (bi (hs (S.2.1 6 a) j)))) S := by
  have h21 := hM.2.2.2.1.2.2.2.2
  refine run_of (by decide +kernel) rfl (fun L xs G hG => ?_)
  repeat (refine hG.1 _ _ _ _ _ _ rfl ?_)
  refine And.intro (vp_in_nI (ha) (by decide)) ?_; rw [nI_clamp (Nat.lt_trans (ha) (by decide))]
  rw [h21]
  repeat (refine hG.1 _ _ _ _ _ _ rfl ?_)
  refine And.intro (fun h => ?_) (fun h => ?_)
  · have h2 : ¬ hs (S.2.1 6 a) j := fun z => h ((hs_shr (by omega)).mpr z)
    repeat (refine hG.1 _ _ _ _ _ _ rfl ?_)
    refine And.intro rfl (And.intro ?_ rfl)
    rw [bi_f h2]
  · have h2 : hs (S.2.1 6 a) j := (hs_shr (by omega)).mp h
    repeat (refine hG.1 _ _ _ _ _ _ rfl ?_)
    refine And.intro rfl (And.intro ?_ rfl)
    rw [bi_t h2]
theorem way_step {A : Nat → Nat → Int32} {x : Int32} {n j q : Nat} (hW : Wy A n) (hj : j < n) (hn : n ≤ 16) (e1 : A 1 j = A 1 q ||| one j) : A 1 j &&& x = 0 ↔ (A 1 q &&& x = 0 ∧ ¬ hs x j) := by
  rw [ands_0, ands_0]
  constructor
  · intro h
    refine ⟨fun i hi hz => h i hi ⟨?_, hz.2⟩, fun hz => h j (by omega) ⟨wy_self hW hj hn, hz⟩⟩
    rw [e1, hs_or hi]
    exact Or.inl hz.1
  · rintro ⟨h, hz⟩ i hi ⟨h3, h4⟩
    rw [e1, hs_or hi, hs_one (by omega) hi] at h3
    rcases h3 with h3 | h3
    · exact h i hi ⟨h3, h4⟩
    · subst h3; exact hz h4
theorem ar_gt {A : Nat → Nat → Int32} {n a q e : Nat} (hW : Wy A n) (hn : n ≤ 16) (hA : ArOk A n a q) (he : e < 32) (h : hs (A 6 a) e) : q < e := by
  obtain ⟨h1, h2, h3⟩ := hA.2.2 e he h
  have := wy_le hW e h1 hn q (by have := hA.1; omega) h3
  omega
theorem m_isWithin (S : PS) (a k q n nb : Nat) (rp sh : Int32) (hM : MR S n nb rp sh) (ha : a < 8) (hk : k < n) (hA : ArOk S.2.1 n a q) : Run 0 74 [.ref 12, .int (nI a), .int (nI k)] S (.inl (some (bi (inA S.2.1 a k = true)))) S := by
  obtain ⟨⟨h0, h1n, hn, hb, hnb⟩, hW, -, ⟨-, -, -, h20, -⟩, -⟩ := id hM
  have hq := hA.1
  have e5 := hA.2.1
  refine run_of (by decide +kernel) rfl (fun L xs G hG => ?_)
  have main0 : ∀ j, j < n → bi (inA S.2.1 a k = true) = nI 0 → G 0 15 [(4, .int (nI j)), (3, .int (nI 0)), (0, .ref 12), (1, .int (nI a))] [] S := by
    intro j
    induction j using Nat.strongRecOn with
    | _ j ih =>
      intro hj he
      repeat (refine hG.1 _ _ _ _ _ _ rfl ?_)
      refine And.intro (vp_in_nI (ha) (by decide)) ?_; rw [nI_clamp (Nat.lt_trans (ha) (by decide))]
      rw [h20, e5]
      repeat (refine hG.1 _ _ _ _ _ _ rfl ?_)
      refine And.intro (fun h1 => ?_) (fun h1 => ?_)
      · repeat (refine hG.1 _ _ _ _ _ _ rfl ?_)
        refine And.intro rfl (And.intro ?_ rfl)
        rw [he]
      · have hlt : q < j := by
          rcases Nat.lt_or_ge q j with z | z
          · exact z
          · exact absurd (nI_le z (by omega)) h1
        obtain ⟨p, hp, e13, e1⟩ := hW.2 j (by omega) hj
        repeat (refine hG.1 _ _ _ _ _ _ rfl ?_)
        refine And.intro (fun h2 => ?_) (fun h2 => ?_)
        · repeat (refine hG.1 _ _ _ _ _ _ rfl ?_)
          refine And.intro (vp_in_nI ((show j < 16 by omega)) (by decide)) ?_; rw [nI_clamp (Nat.lt_trans ((show j < 16 by omega)) (by decide))]
          rw [e13]
          have g := ih p hp (by omega) he
          repeat (first | (refine wk hG ?_ (g); (repeat (refine And.intro (by first | with_reducible rfl | with_reducible exact nI_add _ _ | with_reducible exact pk_m1 _ | rfl) ?_)); exact trivial) | refine hG.1 _ _ _ _ _ _ rfl ?_)
        · exact absurd (by decide) h2
  have main1 : ∀ j, j < n → bi (inA S.2.1 a k = true) = bi (S.2.1 1 j &&& S.2.1 6 a = 0) → G 0 15 [(4, .int (nI j)), (3, .int (nI 1)), (0, .ref 12), (1, .int (nI a))] [] S := by
    intro j
    induction j using Nat.strongRecOn with
    | _ j ih =>
      intro hj he
      repeat (refine hG.1 _ _ _ _ _ _ rfl ?_)
      refine And.intro (vp_in_nI (ha) (by decide)) ?_; rw [nI_clamp (Nat.lt_trans (ha) (by decide))]
      rw [h20, e5]
      repeat (refine hG.1 _ _ _ _ _ _ rfl ?_)
      refine And.intro (fun h1 => ?_) (fun h1 => ?_)
      · have hle : j ≤ q := (nI_leI (by omega) (by omega)).mp h1
        have hz : S.2.1 1 j &&& S.2.1 6 a = 0 := by
          rw [ands_0]
          rintro i hi ⟨h3, h4⟩
          have h5 := ar_gt hW hn hA hi h4
          have h6 := wy_le hW j hj hn i hi h3
          omega
        repeat (refine hG.1 _ _ _ _ _ _ rfl ?_)
        refine And.intro rfl (And.intro ?_ rfl)
        rw [he, bi_t hz]
      · have hlt : q < j := by
          rcases Nat.lt_or_ge q j with z | z
          · exact z
          · exact absurd (nI_le z (by omega)) h1
        obtain ⟨p, hp, e13, e1⟩ := hW.2 j (by omega) hj
        have hst := way_step (x := S.2.1 6 a) hW hj hn e1
        repeat (refine hG.1 _ _ _ _ _ _ rfl ?_)
        refine And.intro (fun h2 => ?_) (fun h2 => ?_)
        · exact absurd h2 (by decide)
        · repeat (refine hG.1 _ _ _ _ _ _ rfl ?_)
          refine And.intro rfl (cx (m_isExport S a j n nb rp sh hM ha (by omega)) rfl ?_)
          repeat (refine hG.1 _ _ _ _ _ _ rfl ?_)
          refine And.intro (fun h3 => ?_) (fun h3 => ?_)
          · rw [bi_n] at h3
            repeat (refine hG.1 _ _ _ _ _ _ rfl ?_)
            refine And.intro (vp_in_nI ((show j < 16 by omega)) (by decide)) ?_; rw [nI_clamp (Nat.lt_trans ((show j < 16 by omega)) (by decide))]
            rw [e13]
            have g := main0 p (by omega) (by rw [he, bi_f (fun z => (hst.mp z).2 h3)])
            repeat (first | (refine wk hG ?_ (g); (repeat (refine And.intro (by first | with_reducible rfl | with_reducible exact nI_add _ _ | with_reducible exact pk_m1 _ | rfl) ?_)); exact trivial) | refine hG.1 _ _ _ _ _ _ rfl ?_)
          · rw [bi_0] at h3
            repeat (refine hG.1 _ _ _ _ _ _ rfl ?_)
            refine And.intro (vp_in_nI ((show j < 16 by omega)) (by decide)) ?_; rw [nI_clamp (Nat.lt_trans ((show j < 16 by omega)) (by decide))]
            rw [e13]
            have g := ih p hp (by omega) (by rw [he]; unfold bi; simp only [hst, h3, not_false_eq_true, and_true])
            repeat (first | (refine wk hG ?_ (g); (repeat (refine And.intro (by first | with_reducible rfl | with_reducible exact nI_add _ _ | with_reducible exact pk_m1 _ | rfl) ?_)); exact trivial) | refine hG.1 _ _ _ _ _ _ rfl ?_)
  repeat (refine hG.1 _ _ _ _ _ _ rfl ?_)
  refine And.intro (vp_in_nI (ha) (by decide)) ?_; rw [nI_clamp (Nat.lt_trans (ha) (by decide))]
  rw [h20, e5]
  repeat (refine hG.1 _ _ _ _ _ _ rfl ?_)
  refine And.intro rfl (cx (m_isBelow S k q n hW hn hk (by omega)) rfl ?_)
  by_cases hz : hs (S.2.1 1 k) q
  · rw [bi_t hz]
    have g := main1 k hk (by unfold bi; simp only [inA, Bool.and_eq_true, decide_eq_true_eq, e5, hsv]; simp only [hz, not_false_eq_true, true_and])
    repeat (first | (refine wk hG ?_ (g); (repeat (refine And.intro (by first | with_reducible rfl | with_reducible exact nI_add _ _ | with_reducible exact pk_m1 _ | rfl) ?_)); exact trivial) | refine hG.1 _ _ _ _ _ _ rfl ?_)
  · rw [bi_f hz]
    have g := main0 k hk (bi_f (by simp only [inA, Bool.and_eq_true, decide_eq_true_eq, e5, hsv]; exact fun z => hz z.1))
    repeat (first | (refine wk hG ?_ (g); (repeat (refine And.intro (by first | with_reducible rfl | with_reducible exact nI_add _ _ | with_reducible exact pk_m1 _ | rfl) ?_)); exact trivial) | refine hG.1 _ _ _ _ _ _ rfl ?_)
theorem m_many (S : PS) (a q n nb : Nat) (rp sh : Int32) (hM : MR S n nb rp sh) (ha : a < 8) (hA : ArOk S.2.1 n a q) : Run 0 75 [.ref 12, .int (nI a)] S (.inl (some (nI (cnt (inA S.2.1 a) n)))) S := by
  obtain ⟨⟨h0, h1n, hn, -, -⟩, -⟩ := id hM
  refine run_of (by decide +kernel) rfl (fun L xs G hG => ?_)
  have main : ∀ k, k ≤ n → G 0 4 [(3, .int (nI k)), (2, .int (nI (cnt (inA S.2.1 a) k))), (0, .ref 12), (1, .int (nI a))] [] S := by
    refine loop_up (fun k hk ih => ?_) ?_
    · repeat (refine hG.1 _ _ _ _ _ _ rfl ?_)
      rw [h0]
      refine And.intro (fun h => ?_) (fun h => ?_)
      · exact absurd h (nI_ge (by omega) (by omega))
      · repeat (refine hG.1 _ _ _ _ _ _ rfl ?_)
        refine And.intro rfl (cx (m_isWithin S a k q n nb rp sh hM ha hk hA) rfl ?_)
        repeat (refine hG.1 _ _ _ _ _ _ rfl ?_)
        refine And.intro (fun h1 => ?_) (fun h1 => ?_)
        · rw [bi_0] at h1
          have e : nI (cnt (inA S.2.1 a) (k + 1)) = nI (cnt (inA S.2.1 a) k) + nI 0 := by rw [cnt_f h1, nI_add, Nat.add_zero]
          rw [e] at ih
          repeat (first | (refine wk hG ?_ (ih); (repeat (refine And.intro (by first | with_reducible rfl | with_reducible exact nI_add _ _ | with_reducible exact pk_m1 _ | rfl) ?_)); exact trivial) | refine hG.1 _ _ _ _ _ _ rfl ?_)
        · rw [bi_n] at h1
          have e : nI (cnt (inA S.2.1 a) (k + 1)) = nI (cnt (inA S.2.1 a) k) + nI 1 := by rw [cnt_t h1, nI_add]
          rw [e] at ih
          repeat (first | (refine wk hG ?_ (ih); (repeat (refine And.intro (by first | with_reducible rfl | with_reducible exact nI_add _ _ | with_reducible exact pk_m1 _ | rfl) ?_)); exact trivial) | refine hG.1 _ _ _ _ _ _ rfl ?_)
    · repeat (refine hG.1 _ _ _ _ _ _ rfl ?_)
      rw [h0]
      refine And.intro (fun h => ?_) (fun h => ?_)
      · repeat (refine hG.1 _ _ _ _ _ _ rfl ?_)
        exact And.intro rfl (And.intro rfl rfl)
      · exact absurd (nI_le (Nat.le_refl _) (by omega)) h
  have h0 := main 0 (Nat.zero_le _); simp only [cnt] at h0; repeat (first | (refine wk hG ?_ (h0); (repeat (refine And.intro (by first | with_reducible rfl | with_reducible exact nI_add _ _ | with_reducible exact pk_m1 _ | rfl) ?_)); exact trivial) | refine hG.1 _ _ _ _ _ _ rfl ?_)
theorem m_takenBy (S : PS) (a q n nb : Nat) (rp sh : Int32) (hM : MR S n nb rp sh) (ha : a < 8) (hA : ArOk S.2.1 n a q) : Run 0 81 [.ref 12, .int (nI a)] S (.inl (some (smL (inA S.2.1 a) (tknX S.2.1 nb rp sh) n))) S := by
  obtain ⟨⟨h0, h1n, hn, -, -⟩, -⟩ := id hM
  refine run_of (by decide +kernel) rfl (fun L xs G hG => ?_)
  have main : ∀ k, k ≤ n → G 0 4 [(3, .int (nI k)), (2, .int (smL (inA S.2.1 a) (tknX S.2.1 nb rp sh) k)), (0, .ref 12), (1, .int (nI a))] [] S := by
    refine loop_up (fun k hk ih => ?_) ?_
    · repeat (refine hG.1 _ _ _ _ _ _ rfl ?_)
      rw [h0]
      refine And.intro (fun h => ?_) (fun h => ?_)
      · exact absurd h (nI_ge (by omega) (by omega))
      · repeat (refine hG.1 _ _ _ _ _ _ rfl ?_)
        refine And.intro rfl (cx (m_isWithin S a k q n nb rp sh hM ha hk hA) rfl ?_)
        repeat (refine hG.1 _ _ _ _ _ _ rfl ?_)
        refine And.intro (fun h1 => ?_) (fun h1 => ?_)
        · rw [bi_0] at h1
          have e : smL (inA S.2.1 a) (tknX S.2.1 nb rp sh) (k + 1) = smL (inA S.2.1 a) (tknX S.2.1 nb rp sh) k + nI 0 := by rw [smL_f h1, nI_0, Int32.add_zero]
          rw [e] at ih
          repeat (first | (refine wk hG ?_ (ih); (repeat (refine And.intro (by first | with_reducible rfl | with_reducible exact nI_add _ _ | with_reducible exact pk_m1 _ | rfl) ?_)); exact trivial) | refine hG.1 _ _ _ _ _ _ rfl ?_)
        · rw [bi_n] at h1
          repeat (refine hG.1 _ _ _ _ _ _ rfl ?_)
          refine And.intro rfl (cx (m_taken S k n nb rp sh hM hk) rfl ?_)
          rw [smL_t h1] at ih
          repeat (first | (refine wk hG ?_ (ih); (repeat (refine And.intro (by first | with_reducible rfl | with_reducible exact nI_add _ _ | with_reducible exact pk_m1 _ | rfl) ?_)); exact trivial) | refine hG.1 _ _ _ _ _ _ rfl ?_)
    · repeat (refine hG.1 _ _ _ _ _ _ rfl ?_)
      rw [h0]
      refine And.intro (fun h => ?_) (fun h => ?_)
      · repeat (refine hG.1 _ _ _ _ _ _ rfl ?_)
        exact And.intro rfl (And.intro rfl rfl)
      · exact absurd (nI_le (Nat.le_refl _) (by omega)) h
  have h0 := main 0 (Nat.zero_le _); simp only [smL] at h0; repeat (first | (refine wk hG ?_ (h0); (repeat (refine And.intro (by first | with_reducible rfl | with_reducible exact nI_add _ _ | with_reducible exact pk_m1 _ | rfl) ?_)); exact trivial) | refine hG.1 _ _ _ _ _ _ rfl ?_)
theorem m_counts (S : PS) (a k q n nb : Nat) (rp sh : Int32) (hM : MR S n nb rp sh) (ha : a < 8) (h0k : 0 < k) (hk : k < n) (hA : ArOk S.2.1 n a q) : Run 0 79 [.ref 12, .int (nI a), .int (nI k)] S (.inl (some (bi (S.2.1 1 k &&& S.2.1 6 a = one k)))) S := by
  obtain ⟨⟨h0, h1n, hn, hb, hnb⟩, hW, -⟩ := id hM
  obtain ⟨p, hp, e13, e1⟩ := hW.2 k h0k hk
  have hq := hA.1
  refine run_of (by decide +kernel) rfl (fun L xs G hG => ?_)
  repeat (refine hG.1 _ _ _ _ _ _ rfl ?_)
  refine And.intro rfl (cx (m_isExport S a k n nb rp sh hM ha (by omega)) rfl ?_)
  repeat (refine hG.1 _ _ _ _ _ _ rfl ?_)
  refine And.intro (fun h1 => ?_) (fun h1 => ?_)
  · rw [bi_0] at h1
    repeat (refine hG.1 _ _ _ _ _ _ rfl ?_)
    refine And.intro rfl (And.intro ?_ rfl)
    rw [bi_f]
    intro z
    have h2 : hs (S.2.1 1 k &&& S.2.1 6 a) k := by rw [z]; exact (hs_one (by omega) (by omega)).mpr rfl
    exact h1 ((hs_and (by omega)).mp h2).2
  · rw [bi_n] at h1
    repeat (refine hG.1 _ _ _ _ _ _ rfl ?_)
    refine And.intro (vp_in_nI ((show k < 16 by omega)) (by decide)) ?_; rw [nI_clamp (Nat.lt_trans ((show k < 16 by omega)) (by decide))]
    rw [e13]
    repeat (refine hG.1 _ _ _ _ _ _ rfl ?_)
    refine And.intro rfl (cx (m_isWithin S a p q n nb rp sh hM ha (by omega) hA) rfl ?_)
    obtain ⟨h3, h4, h5⟩ := hA.2.2 k (by omega) h1
    have h6 : hs (S.2.1 1 p) q := (wy_step e1 (by omega) (by omega) (Ne.symm h4)).mp h5
    have key : inA S.2.1 a p = true ↔ S.2.1 1 k &&& S.2.1 6 a = one k := by
      simp only [inA, Bool.and_eq_true, decide_eq_true_eq, hA.2.1, hsv]
      constructor
      · rintro ⟨-, z⟩
        apply hs_ext
        intro j hj
        rw [hs_and hj, hs_one (by omega) hj]
        constructor
        · rintro ⟨z1, z2⟩
          by_cases hjk : j = k
          · exact hjk.symm
          · exact absurd ⟨(wy_step e1 (by omega) hj hjk).mp z1, z2⟩ (ands_0.mp z j hj)
        · intro z1
          subst z1
          exact ⟨wy_self hW hk hn, h1⟩
      · intro z
        refine ⟨h6, ands_0.mpr ?_⟩
        rintro j hj ⟨z1, z2⟩
        have h7 : hs (S.2.1 1 k &&& S.2.1 6 a) j := by
          rw [hs_and hj, e1, hs_or hj]
          exact ⟨Or.inl z1, z2⟩
        rw [z, hs_one (by omega) hj] at h7
        subst h7
        have := wy_le hW p (by omega) hn k hj z1
        omega
    repeat (refine hG.1 _ _ _ _ _ _ rfl ?_)
    refine And.intro (fun h2 => ?_) (fun h2 => ?_)
    · rw [bi_0] at h2
      repeat (refine hG.1 _ _ _ _ _ _ rfl ?_)
      refine And.intro rfl (And.intro ?_ rfl)
      rw [bi_f (fun z => h2 (key.mpr z))]
    · rw [bi_n] at h2
      repeat (refine hG.1 _ _ _ _ _ _ rfl ?_)
      refine And.intro rfl (And.intro ?_ rfl)
      rw [bi_t (key.mp h2)]
theorem hs_pts {A : Nat → Nat → Int32} {sh : Int32} {n a q k : Nat} (hn : n ≤ 16) (hq : q < 16) (e5 : A 5 a = nI q) (hk : k < 32) : hs (ptsX A sh n a) k ↔ (k < n ∧ inA A a k = true) ∧ q ≠ k ∧ ¬ hs sh k := by
  unfold ptsX
  rw [hs_and hk, hs_and hk, hs_not hk, hs_not hk, e5, hs_one (by omega) hk, hs_stL hk n (by omega), and_assoc]
theorem m_pipe (S : PS) (a q n nb : Nat) (rp sh step : Int32) (hM : MR S n nb rp sh) (ha : a < 8) (hA : ArOk S.2.1 n a q) : Run 0 84 [.ref 12, .int (nI a), .int step] S (.inl (some (match pkX S.2.1 sh n a step with
    | some k => nI k
    | none => -1))) S := by
  obtain ⟨⟨h0, h1n, hn, hb, hnb⟩, hW, -, ⟨-, -, -, h20, -⟩, ⟨hsh, hs0⟩, -⟩ := id hM
  have hq := hA.1
  have e5 := hA.2.1
  obtain ⟨c, hc⟩ : ∃ c : Nat → Bool, c = fun k => decide (hs (ptsX S.2.1 sh n a) k) := ⟨_, rfl⟩
  have hpk : pkX S.2.1 sh n a step = pst c step (n - 1) 0 := by rw [hc]
  rw [hpk]
  obtain ⟨T, hT⟩ : ∃ T, T = pst c step (n - 1) 0 := ⟨_, rfl⟩
  rw [← hT]
  refine run_of (by decide +kernel) rfl (fun L xs G hG => ?_)
  have main : ∀ k, k ≤ n - 1 → ∀ p, p + k ≤ 16 → pst c step k p = T → G 0 10 [(4, .int (nI k)), (3, .int (step - nI p)), (0, .ref 12), (1, .int (nI a))] [] S := by
    refine loop_dn (fun k hk ih => ?_) ?_
    · intro p hp he
      have hce : c (k + 1) = true ↔ inA S.2.1 a (k + 1) = true ∧ q ≠ k + 1 ∧ ¬ hs sh (k + 1) := by
        rw [hc]
        simp only [decide_eq_true_eq]
        rw [hs_pts hn (by omega) e5 (by omega)]
        constructor
        · rintro ⟨⟨-, z1⟩, z2⟩; exact ⟨z1, z2⟩
        · rintro ⟨z1, z2⟩; exact ⟨⟨by omega, z1⟩, z2⟩
      have hno : ¬ c (k + 1) = true → G 0 10 [(4, .int (nI k)), (3, .int (step - nI p)), (0, .ref 12), (1, .int (nI a))] [] S := by
        intro z
        apply ih p (by omega)
        rw [← he, pst, if_neg z]
      repeat (refine hG.1 _ _ _ _ _ _ rfl ?_)
      refine And.intro (fun h => ?_) (fun h => ?_)
      · exact absurd h (nI_nle (by omega) (by omega))
      · repeat (refine hG.1 _ _ _ _ _ _ rfl ?_)
        refine And.intro (vp_in_nI (ha) (by decide)) ?_; rw [nI_clamp (Nat.lt_trans (ha) (by decide))]
        rw [h20, e5]
        repeat (refine hG.1 _ _ _ _ _ _ rfl ?_)
        refine And.intro (fun h1 => ?_) (fun h1 => ?_)
        · have g := hno (fun z => (hce.mp z).2.1 ((nI_eq (by omega) (by omega)).mp h1).symm)
          repeat (first | (refine wk hG ?_ (g); (repeat (refine And.intro (by first | with_reducible rfl | with_reducible exact nI_add _ _ | with_reducible exact pk_m1 _ | rfl) ?_)); exact trivial) | refine hG.1 _ _ _ _ _ _ rfl ?_)
        · repeat (refine hG.1 _ _ _ _ _ _ rfl ?_)
          refine And.intro rfl (cx (m_isWithin S a (k + 1) q n nb rp sh hM ha (by omega) hA) rfl ?_)
          repeat (refine hG.1 _ _ _ _ _ _ rfl ?_)
          refine And.intro (fun h2 => ?_) (fun h2 => ?_)
          · rw [bi_0] at h2
            have g := hno (fun z => h2 (hce.mp z).1)
            repeat (first | (refine wk hG ?_ (g); (repeat (refine And.intro (by first | with_reducible rfl | with_reducible exact nI_add _ _ | with_reducible exact pk_m1 _ | rfl) ?_)); exact trivial) | refine hG.1 _ _ _ _ _ _ rfl ?_)
          · rw [bi_n] at h2
            repeat (refine hG.1 _ _ _ _ _ _ rfl ?_)
            refine And.intro (vp_in_nI ((show k + 1 < 16 by omega)) (by decide)) ?_; rw [nI_clamp (Nat.lt_trans ((show k + 1 < 16 by omega)) (by decide))]
            rw [hsh _ (by omega)]
            repeat (refine hG.1 _ _ _ _ _ _ rfl ?_)
            refine And.intro (fun h3 => ?_) (fun h3 => ?_)
            · rw [bi_n] at h3
              have g := hno (fun z => (hce.mp z).2.2 h3)
              repeat (first | (refine wk hG ?_ (g); (repeat (refine And.intro (by first | with_reducible rfl | with_reducible exact nI_add _ _ | with_reducible exact pk_m1 _ | rfl) ?_)); exact trivial) | refine hG.1 _ _ _ _ _ _ rfl ?_)
            · rw [bi_0] at h3
              have hct : c (k + 1) = true := hce.mpr ⟨h2, fun z => h1 (by rw [z]), h3⟩
              repeat (refine hG.1 _ _ _ _ _ _ rfl ?_)
              refine And.intro (fun h4 => ?_) (fun h4 => ?_)
              · have hne : ¬ nI p = step := fun z => h4 (by rw [z]; exact Int32.sub_self step)
                have g := ih (p + 1) (by omega) (by rw [← he, pst, if_pos hct, if_neg hne])
                have e : step - nI (p + 1) = step - nI p + (-1) := by rw [← nI_add, show nI 1 = 1 from rfl]; grind
                rw [e] at g
                repeat (first | (refine wk hG ?_ (g); (repeat (refine And.intro (by first | with_reducible rfl | with_reducible exact nI_add _ _ | with_reducible exact pk_m1 _ | rfl) ?_)); exact trivial) | refine hG.1 _ _ _ _ _ _ rfl ?_)
              · have heq : nI p = step := by
                  have z : step - nI p = 0 := h4
                  grind
                repeat (refine hG.1 _ _ _ _ _ _ rfl ?_)
                refine And.intro rfl (And.intro ?_ rfl)
                rw [← he, pst, if_pos hct, if_pos heq]
    · intro p hp he
      repeat (refine hG.1 _ _ _ _ _ _ rfl ?_)
      refine And.intro (fun h => ?_) (fun h => ?_)
      · repeat (refine hG.1 _ _ _ _ _ _ rfl ?_)
        refine And.intro rfl (And.intro ?_ rfl)
        rw [← he, pst]
      · exact absurd (Int32.le_refl 0) h
  have g := main (n - 1) (Nat.le_refl _) 0 (by omega) hT.symm
  have e : S.1 12 0 - nI 1 = nI (n - 1) := by
    rw [h0]
    exact pk_sub h1n
  have e2 : step - nI 0 = step := by rw [nI_0]; exact Int32.sub_zero step
  rw [← e, e2] at g
  repeat (first | (refine wk hG ?_ (g); (repeat (refine And.intro (by first | with_reducible rfl | with_reducible exact nI_add _ _ | with_reducible exact pk_m1 _ | rfl) ?_)); exact trivial) | refine hG.1 _ _ _ _ _ _ rfl ?_)
