theorem pst_step {c : Nat → Bool} {s : Int32} {r : Nat} : ∀ (k p : Nat), pst c s k p = some r → ∃ i, p ≤ i ∧ i < p + k ∧ s = nI i
  | 0, _, h => by cases h
  | k + 1, p, h => by
    rw [pst] at h
    by_cases hc : c (k + 1) = true
    · rw [if_pos hc] at h
      by_cases hp : nI p = s
      · exact ⟨p, by omega, by omega, hp.symm⟩
      · rw [if_neg hp] at h
        obtain ⟨i, h1, h2, h3⟩ := pst_step k (p + 1) h
        exact ⟨i, by omega, by omega, h3⟩
    · rw [if_neg hc] at h
      obtain ⟨i, h1, h2, h3⟩ := pst_step k p h
      exact ⟨i, h1, by omega, h3⟩
theorem pst_first {c : Nat → Bool} {p r : Nat} : ∀ (k : Nat), pst c (nI p) k p = some r → r ≤ k ∧ c r = true ∧ ∀ j, r < j → j ≤ k → c j = false
  | 0, h => by cases h
  | k + 1, h => by
    rw [pst] at h
    by_cases hc : c (k + 1) = true
    · rw [if_pos hc, if_pos rfl] at h
      cases h
      exact ⟨Nat.le_refl _, hc, fun j h1 h2 => by omega⟩
    · rw [if_neg hc] at h
      obtain ⟨h1, h2, h3⟩ := pst_first k h
      refine ⟨by omega, h2, fun j h4 h5 => ?_⟩
      rcases Nat.lt_or_ge j (k + 1) with z | z
      · exact h3 j h4 (by omega)
      · rw [show j = k + 1 by omega]
        cases hb : c (k + 1)
        · rfl
        · exact absurd hb hc
set_option maxHeartbeats 4000000 in
theorem m_drop (S : PS) (a q n nb na k : Nat) (rp sh y : Int32) (hM : MR S n nb rp sh) (ha8 : S.1 12 8 = nI na) (hna : na ≤ 8) (ha : a < na) (hA : ArOk S.2.1 n a q) (h : pkX S.2.1 sh n a y = some k) : Run 0 88 [.ref 12, .int (nI a), .int y] S (.inl (some (smL (inA S.2.1 a) (tknX S.2.1 nb rp (bfX S.2.1 sh n a k)) n - smL (inA S.2.1 a) (tknX S.2.1 nb rp (bfX S.2.1 sh n a k ||| one k)) n))) (sThr S (nI 0)) := by
  obtain ⟨⟨h0, h1n, hn, -, -⟩, hW, -, -, ⟨hsh, hs0⟩, -⟩ := id hM
  have hq := hA.1
  have e5 := hA.2.1
  obtain ⟨c, hc⟩ : ∃ c : Nat → Bool, c = fun k => decide (hs (ptsX S.2.1 sh n a) k) := ⟨_, rfl⟩
  have hpk : pst c y (n - 1) 0 = some k := by rw [hc]; exact h
  obtain ⟨t, -, ht, rfl⟩ := pst_step _ _ hpk
  have ht16 : t < 16 := by omega
  have hcj : ∀ j, j < 32 → (c j = true ↔ (j < n ∧ inA S.2.1 a j = true) ∧ q ≠ j ∧ ¬ hs sh j) := by
    intro j hj
    rw [hc]
    simp only [decide_eq_true_eq]
    exact hs_pts hn (by omega) e5 hj
  have hcp : ∀ j, j < 32 → (hs (ptsX S.2.1 sh n a) j ↔ c j = true) := by
    intro j hj
    rw [hc]
    simp only [decide_eq_true_eq]
  have hex : ∀ i, i ≤ t → ∃ r, pst c (nI i) (n - 1) 0 = some r := by
    intro i hi
    apply Option.isSome_iff_exists.mp
    rw [pst_some (by omega) (n - 1) 0 (Nat.zero_le _) (by omega)]
    have := (pst_some (c := c) (i := t) (by omega) (n - 1) 0 (Nat.zero_le _) (by omega)).mp (by rw [hpk]; rfl)
    omega
  obtain ⟨r, hr⟩ : ∃ r : Nat → Nat, ∀ i, i ≤ t → pst c (nI i) (n - 1) 0 = some (r i) := by
    refine ⟨fun i => (pst c (nI i) (n - 1) 0).getD 0, fun i hi => ?_⟩
    obtain ⟨x, hx⟩ := hex i hi
    show _ = some ((pst c (nI i) (n - 1) 0).getD 0)
    rw [hx]
    rfl
  have hrt : r t = k := by
    have := hr t (Nat.le_refl _)
    rw [hpk] at this
    exact (Option.some.inj this).symm
  have hrb : ∀ i, i ≤ t → 0 < r i ∧ r i ≤ n - 1 ∧ c (r i) = true := fun i hi => pst_le _ _ (hr i hi)
  have hr0 : ∀ j, r 0 < j → j < 32 → c j = false := by
    intro j h1 h2
    obtain ⟨-, -, h3⟩ := pst_first _ (hr 0 (Nat.zero_le _))
    rcases Nat.lt_or_ge j n with z | z
    · exact h3 j h1 (by omega)
    · cases hb : c j
      · rfl
      · have := ((hcj j h2).mp hb).1.1
        omega
  have hrs : ∀ i, i < t → r (i + 1) < r i ∧ ∀ j, r (i + 1) < j → j < r i → c j = false := by
    intro i hi
    have h1 := pst_next (c := c) (i := i) (by omega) (n - 1) 0 (r i) (Nat.zero_le _) (by omega) (hr i (by omega))
    rw [hr (i + 1) (by omega)] at h1
    obtain ⟨h2, h3, h4⟩ := pst_first _ h1.symm
    have := hrb i (by omega)
    exact ⟨by omega, fun j h5 h6 => h4 j h5 (by omega)⟩
  obtain ⟨B, hB⟩ : ∃ B : Nat → Int32, B = fun i => bfX S.2.1 sh n a (r i) := ⟨_, rfl⟩
  obtain ⟨Z, hZ⟩ : ∃ Z : Nat → Int32, Z = fun i => ptsX S.2.1 sh n a &&& (-1 : Int32) <<< ((nI (r i) + nI 1) &&& 31) := ⟨_, rfl⟩
  have hZj : ∀ i, i ≤ t → ∀ j, j < 32 → (hs (Z i) j ↔ c j = true ∧ r i < j) := by
    intro i hi j hj
    have := hrb i hi
    rw [hZ]
    simp only
    rw [hs_and hj, hs_m1shl (by omega) hj, hcp j hj]
  have hBj : ∀ i, i ≤ t → ∀ j, j < 32 → (hs (B i) j ↔ hs sh j ∨ (c j = true ∧ r i < j)) := by
    intro i hi j hj
    rw [← hZj i hi j hj, hB, hZ]
    exact hs_or hj
  have hB0 : ∀ i, i ≤ t → ¬ hs (B i) 0 := by
    intro i hi z
    rcases (hBj i hi 0 (by omega)).mp z with w | w
    · exact hs0 w
    · omega
  have hBstep : ∀ i, i < t → B (i + 1) = B i ||| one (r i) ∧ Z (i + 1) = Z i ||| one (r i) := by
    intro i hi
    have h1 := hrs i hi
    have h2 := hrb i (by omega)
    have key : ∀ j, j < 32 → ((c j = true ∧ r (i + 1) < j) ↔ ((c j = true ∧ r i < j) ∨ r i = j)) := by
      intro j hj
      constructor
      · rintro ⟨z, w⟩
        rcases Nat.lt_trichotomy (r i) j with x | x | x
        · exact Or.inl ⟨z, x⟩
        · exact Or.inr x
        · have := h1.2 j w x
          rw [this] at z
          cases z
      · rintro (⟨z, w⟩ | z)
        · exact ⟨z, by omega⟩
        · subst z; exact ⟨h2.2.2, h1.1⟩
    refine ⟨hs_ext fun j hj => ?_, hs_ext fun j hj => ?_⟩
    · rw [hBj (i + 1) (by omega) j hj, hs_or hj, hBj i (by omega) j hj, hs_one (by omega) hj, key j hj, or_assoc]
    · rw [hZj (i + 1) (by omega) j hj, hs_or hj, hZj i (by omega) j hj, hs_one (by omega) hj, key j hj]
  have hpipe : ∀ i, i ≤ t → ∀ f : Nat → Int32, (∀ k, k < 16 → f k = bi (hs (B i) k)) → Run 0 84 [.ref 12, .int (nI a), .int (nI 0)] (st18 (sThr S (nI 0)) f) (.inl (some (nI (r i)))) (st18 (sThr S (nI 0)) f) := by
    intro i hi f hf
    have hM2 : MR (st18 (sThr S (nI 0)) f) n nb rp (B i) := MR_18 (S := sThr S (nI 0)) hM hf (hB0 i hi)
    have g := m_pipe (st18 (sThr S (nI 0)) f) a q n nb rp (B i) (nI 0) hM2 (by omega) hA
    have e : pkX (st18 (sThr S (nI 0)) f).2.1 (B i) n a (nI 0) = some (r i) := by
      obtain ⟨d, hd⟩ : ∃ d : Nat → Bool, d = fun k => decide (hs (ptsX (st18 (sThr S (nI 0)) f).2.1 (B i) n a) k) := ⟨_, rfl⟩
      have hdj : ∀ j, j < 32 → (d j = true ↔ c j = true ∧ j ≤ r i) := by
        intro j hj
        rw [hd]
        simp only [decide_eq_true_eq]
        rw [hs_pts (A := (st18 (sThr S (nI 0)) f).2.1) hn (by omega) e5 hj, hBj i hi j hj]
        rw [hcj j hj]
        constructor
        · rintro ⟨z1, z2, z3⟩
          have z4 : ¬ hs sh j := fun w => z3 (Or.inl w)
          have z5 : c j = true := (hcj j hj).mpr ⟨z1, z2, z4⟩
          refine ⟨⟨z1, z2, z4⟩, ?_⟩
          rcases Nat.lt_or_ge (r i) j with w | w
          · exact absurd (Or.inr ⟨⟨z1, z2, z4⟩, w⟩) z3
          · exact w
        · rintro ⟨⟨z1, z2, z3⟩, z4⟩
          refine ⟨z1, z2, fun w => ?_⟩
          rcases w with w | w
          · exact z3 w
          · omega
      show pst _ (nI 0) (n - 1) 0 = some (r i)
      rw [← hd]
      have h1 := hrb i hi
      rw [pst_skip (r := r i) (n - 1) h1.2.1 (fun j h2 h3 => by
        cases hb : d j
        · rfl
        · have := ((hdj j (by omega)).mp hb).2
          omega)]
      obtain ⟨w, hw⟩ : ∃ w, r i = w + 1 := ⟨r i - 1, by omega⟩
      rw [hw, pst, if_pos ((hdj (w + 1) (by omega)).mpr ⟨by rw [← hw]; exact h1.2.2, by omega⟩), if_pos rfl]
    rw [e] at g
    exact g
  have hfst : ∀ (x : Int32) (p : Nat) (f : Nat → Int32), p < 16 → (∀ k, k < 16 → f k = bi (hs x k)) → ∀ k, k < 16 → upd f p (nI 1) k = bi (hs (x ||| one p) k) := by
    intro x p f hp hf k hk
    have hor : hs (x ||| one p) k ↔ (hs x k ∨ p = k) := by rw [hs_or (by omega), hs_one (by omega) (by omega)]
    by_cases hkp : k = p
    · subst hkp
      rw [upd_same, bi_t (hor.mpr (Or.inr rfl))]
    · rw [upd_lt hkp, hf k hk, bi_or hor (fun z => hkp z.symm)]
  have back : ∀ (v : Int32) (F : Int32), (∀ j, j < 32 → (hs F j ↔ c j = true ∧ k ≤ j)) → ∀ (L : Nat) (xs : Nat → Int32) (G : KT) (b1 b2 : Int32), Cl 88 L xs 0 (fun _ r' S'' => r' = .inl (some (b1 - b2)) ∧ S'' = sThr S (nI 0)) G →
      ∀ j, j ≤ n → ∀ f : Nat → Int32, (∀ i, i < 16 → f i = if i < j then S.2.1 18 i else bi (hs sh i ∨ hs F i)) → (∀ i, 16 ≤ i → f i = S.2.1 18 i) →
        G 0 103 [(7, .int (nI j)), (6, .int b2), (4, .int b1), (3, .int F), (0, .ref 12), (1, .int (nI a))] [] (st18 (sThr S (nI 0)) f) := by
    intro v F hF L xs G b1 b2 hG
    have hcn : ∀ j, j < 16 → n ≤ j → ¬ hs F j := by
      intro j hj hnj z
      have h1 := (hcj j (by omega)).mp ((hF j (by omega)).mp z).1
      omega
    have hFs : ∀ j, j < 32 → hs F j → ¬ hs sh j := by
      intro j hj z
      exact ((hcj j hj).mp ((hF j hj).mp z).1).2.2
    refine loop_up (fun j hj ih => ?_) ?_
    · intro f hf hf16
      have fj : f j = bi (hs sh j ∨ hs F j) := by rw [hf j (by omega), if_neg (Nat.lt_irrefl j)]
      have put : ∀ x : Int32, x = S.2.1 18 j → (∀ i, i < 16 → upd f j x i = if i < j + 1 then S.2.1 18 i else bi (hs sh i ∨ hs F i)) ∧ (∀ i, 16 ≤ i → upd f j x i = S.2.1 18 i) := by
        intro x hx
        refine ⟨fun i hi => ?_, fun i hi => ?_⟩
        · by_cases hij : i = j
          · subst hij
            rw [upd_same, if_pos (by omega), hx]
          · rw [upd_lt hij, hf i hi]
            by_cases z : i < j
            · rw [if_pos z, if_pos (by omega)]
            · rw [if_neg z, if_neg (by omega)]
        · rw [upd_lt (by omega), hf16 i hi]
      repeat (refine hG.1 _ _ _ _ _ _ rfl ?_)
      rw [show (st18 (sThr S (nI 0)) f).1 12 0 = nI n from h0]
      refine And.intro (fun h1 => ?_) (fun h1 => ?_)
      · exact absurd h1 (nI_ge (by omega) (by omega))
      · repeat (refine hG.1 _ _ _ _ _ _ rfl ?_)
        refine And.intro (vp_in_nI ((show j < 16 by omega)) (by decide)) ?_; rw [nI_clamp (Nat.lt_trans ((show j < 16 by omega)) (by decide))]
        rw [show (st18 (sThr S (nI 0)) f).2.1 18 j = bi (hs sh j ∨ hs F j) from fj]
        repeat (refine hG.1 _ _ _ _ _ _ rfl ?_)
        refine And.intro (fun h2 => ?_) (fun h2 => ?_)
        · rw [bi_0] at h2
          have h3 : nI 0 = S.2.1 18 j := by rw [hsh j (by omega), bi_f (fun z => h2 (Or.inl z))]
          have g := ih (upd f j (nI 0)) (put _ h3).1 (put _ h3).2
          rw [← st18_up (sThr S (nI 0)) f] at g
          repeat (refine hG.1 _ _ _ _ _ _ rfl ?_)
          refine And.intro (vp_in_nI ((show j < 16 by omega)) (by decide)) ?_; rw [nI_clamp (Nat.lt_trans ((show j < 16 by omega)) (by decide))]
          rw [nar_b0]
          repeat (first | (refine wk hG ?_ (g); (repeat (refine And.intro (by first | with_reducible rfl | with_reducible exact nI_add _ _ | with_reducible exact pk_m1 _ | rfl) ?_)); exact trivial) | refine hG.1 _ _ _ _ _ _ rfl ?_)
        · rw [bi_n] at h2
          repeat (refine hG.1 _ _ _ _ _ _ rfl ?_)
          refine And.intro (fun h4 => ?_) (fun h4 => ?_)
          · have h5 : hs F j := by
              by_cases z : hs F j
              · exact z
              · exact absurd ((hs_shr0 (by omega)).mpr z) h4
            have h3 : nI 0 = S.2.1 18 j := by rw [hsh j (by omega), bi_f (hFs j (by omega) h5)]
            have g := ih (upd f j (nI 0)) (put _ h3).1 (put _ h3).2
            rw [← st18_up (sThr S (nI 0)) f] at g
            repeat (refine hG.1 _ _ _ _ _ _ rfl ?_)
            refine And.intro (vp_in_nI ((show j < 16 by omega)) (by decide)) ?_; rw [nI_clamp (Nat.lt_trans ((show j < 16 by omega)) (by decide))]
            rw [nar_b0]
            repeat (first | (refine wk hG ?_ (g); (repeat (refine And.intro (by first | with_reducible rfl | with_reducible exact nI_add _ _ | with_reducible exact pk_m1 _ | rfl) ?_)); exact trivial) | refine hG.1 _ _ _ _ _ _ rfl ?_)
          · have h5 : ¬ hs F j := (hs_shr0 (by omega)).mp h4
            have h3 : nI 1 = S.2.1 18 j := by rw [hsh j (by omega), bi_t (h2.resolve_right h5)]
            have g := ih (upd f j (nI 1)) (put _ h3).1 (put _ h3).2
            rw [← st18_up (sThr S (nI 0)) f] at g
            repeat (refine hG.1 _ _ _ _ _ _ rfl ?_)
            refine And.intro (vp_in_nI ((show j < 16 by omega)) (by decide)) ?_; rw [nI_clamp (Nat.lt_trans ((show j < 16 by omega)) (by decide))]
            rw [nar_b1]
            repeat (first | (refine wk hG ?_ (g); (repeat (refine And.intro (by first | with_reducible rfl | with_reducible exact nI_add _ _ | with_reducible exact pk_m1 _ | rfl) ?_)); exact trivial) | refine hG.1 _ _ _ _ _ _ rfl ?_)
    · intro f hf hf16
      repeat (refine hG.1 _ _ _ _ _ _ rfl ?_)
      rw [show (st18 (sThr S (nI 0)) f).1 12 0 = nI n from h0]
      refine And.intro (fun h1 => ?_) (fun h1 => ?_)
      · repeat (refine hG.1 _ _ _ _ _ _ rfl ?_)
        refine And.intro rfl (And.intro rfl ?_)
        have e : f = S.2.1 18 := by
          funext i
          by_cases hi : i < 16
          · rw [hf i hi]
            by_cases z : i < n
            · rw [if_pos z]
            · rw [if_neg z, hsh i hi]
              have := hcn i hi (by omega)
              unfold bi
              simp only [this, or_false]
          · exact hf16 i (by omega)
        rw [e]
        show st18 (sThr S (nI 0)) ((sThr S (nI 0)).2.1 18) = sThr S (nI 0)
        unfold st18
        rw [va_up_id]
      · exact absurd (nI_le (Nat.le_refl _) (by omega)) h1
  refine run_of (by decide +kernel) rfl (fun L xs G hG => ?_)
  have main : ∀ i, i ≤ t → ∀ f : Nat → Int32, (∀ k, k < 16 → f k = bi (hs (B i) k)) → (∀ j, 16 ≤ j → f j = S.2.1 18 j) → G 0 28 [(4, .int (nI i)), (3, .int (Z i)), (0, .ref 12), (1, .int (nI a)), (2, .int (nI t))] [] (st18 (sThr S (nI 0)) f) := by
    refine loop_up (fun i hi ih => ?_) ?_
    · intro f hf hf16
      have h2 := hrb i (by omega)
      repeat (refine hG.1 _ _ _ _ _ _ rfl ?_)
      refine And.intro (fun h1 => ?_) (fun h1 => ?_)
      · exact absurd h1 (nI_ge (by omega) (by omega))
      · repeat (refine hG.1 _ _ _ _ _ _ rfl ?_)
        refine And.intro rfl (cx (hpipe i (by omega) f hf) rfl ?_)
        repeat (refine hG.1 _ _ _ _ _ _ rfl ?_)
        refine And.intro (vp_in_nI ((show r i < 16 by omega)) (by decide)) ?_; rw [nI_clamp (Nat.lt_trans ((show r i < 16 by omega)) (by decide))]
        rw [nar_b1]
        have g := ih (upd f (r i) (nI 1)) (by rw [(hBstep i hi).1]; exact hfst (B i) (r i) f (by omega) hf) (fun j hj => by rw [upd_lt (by omega)]; exact hf16 j hj)
        rw [(hBstep i hi).2, ← st18_up (sThr S (nI 0)) f] at g
        repeat (first | (refine wk hG ?_ (g); (repeat (refine And.intro (by first | with_reducible rfl | with_reducible exact nI_add _ _ | with_reducible exact pk_m1 _ | rfl) ?_)); exact trivial) | refine hG.1 _ _ _ _ _ _ rfl ?_)
    · intro f hf hf16
      have h2 := hrb t (Nat.le_refl _)
      have hM2 : MR (st18 (sThr S (nI 0)) f) n nb rp (B t) := MR_18 (S := sThr S (nI 0)) hM hf (hB0 t (Nat.le_refl _))
      have hf2 := hfst (B t) (r t) f (by omega) hf
      have hM3 : MR (st18 (sThr S (nI 0)) (upd f (r t) (nI 1))) n nb rp (B t ||| one (r t)) := MR_18 (S := sThr S (nI 0)) hM hf2 (by
        rw [hs_or (by omega), hs_one (by omega) (by omega)]
        rintro (z | z)
        · exact hB0 t (Nat.le_refl _) z
        · omega)
      have hF : ∀ j, j < 32 → (hs (Z t ||| one (r t)) j ↔ c j = true ∧ k ≤ j) := by
        intro j hj
        rw [hs_or hj, hs_one (by omega) hj, hZj t (Nat.le_refl _) j hj, ← hrt]
        constructor
        · rintro (⟨z, w⟩ | z)
          · exact ⟨z, by omega⟩
          · subst z; exact ⟨h2.2.2, Nat.le_refl _⟩
        · rintro ⟨z, w⟩
          by_cases x : r t = j
          · exact Or.inr x
          · exact Or.inl ⟨z, by omega⟩
      have eT : ∀ g : Nat → Int32, ∀ x : Int32, smL (inA (st18 (sThr S (nI 0)) g).2.1 a) (tknX (st18 (sThr S (nI 0)) g).2.1 nb rp x) n = smL (inA S.2.1 a) (tknX S.2.1 nb rp x) n := by
        intro g x
        apply smL_congr
        intro j _
        exact ⟨rfl, fun _ => tknX_congr rfl rfl rfl rfl rfl rfl⟩
      have eB : B t = bfX S.2.1 sh n a k := by rw [hB]; simp only [hrt]
      have g := back 0 (Z t ||| one (r t)) hF L xs G (smL (inA S.2.1 a) (tknX S.2.1 nb rp (bfX S.2.1 sh n a k)) n) (smL (inA S.2.1 a) (tknX S.2.1 nb rp (bfX S.2.1 sh n a k ||| one k)) n) hG 0 (Nat.zero_le _) (upd f (r t) (nI 1)) (fun i hi => by
        rw [if_neg (Nat.not_lt_zero _), hf2 i hi]
        have z1 := hBj t (Nat.le_refl _) i (by omega)
        have z2 := hZj t (Nat.le_refl _) i (by omega)
        unfold bi
        simp only [hs_or (show i < 32 by omega), z1, z2, or_assoc]) (fun j hj => by rw [upd_lt (by omega)]; exact hf16 j hj)
      repeat (refine hG.1 _ _ _ _ _ _ rfl ?_)
      refine And.intro (fun h1 => ?_) (fun h1 => ?_)
      · repeat (refine hG.1 _ _ _ _ _ _ rfl ?_)
        refine And.intro rfl (cx (m_takenBy (st18 (sThr S (nI 0)) f) a q n nb rp (B t) hM2 (by omega) hA) rfl ?_)
        rw [eT, eB]
        repeat (refine hG.1 _ _ _ _ _ _ rfl ?_)
        refine And.intro rfl (cx (hpipe t (Nat.le_refl _) f hf) rfl ?_)
        repeat (refine hG.1 _ _ _ _ _ _ rfl ?_)
        refine And.intro (vp_in_nI ((show r t < 16 by omega)) (by decide)) ?_; rw [nI_clamp (Nat.lt_trans ((show r t < 16 by omega)) (by decide))]
        rw [nar_b1]
        repeat (refine hG.1 _ _ _ _ _ _ rfl ?_)
        refine And.intro rfl (cx (m_takenBy (st18 (sThr S (nI 0)) (upd f (r t) (nI 1))) a q n nb rp (B t ||| one (r t)) hM3 (by omega) hA) rfl ?_)
        rw [eT, eB, hrt]
        rw [hrt] at g
        repeat (first | (refine wk hG ?_ (g); (repeat (refine And.intro (by first | with_reducible rfl | with_reducible exact nI_add _ _ | with_reducible exact pk_m1 _ | rfl) ?_)); exact trivial) | refine hG.1 _ _ _ _ _ _ rfl ?_)
      · exact absurd (nI_le (Nat.le_refl _) (by omega)) h1
  have hst := m_isStep S a q n nb na rp sh (nI t) hM ha8 hna ha hA
  rw [bi_t (by rw [h]; rfl)] at hst
  have g := main 0 (Nat.zero_le _) (S.2.1 18) (fun j hj => by
    rw [hsh j hj]
    have z := hBj 0 (Nat.zero_le _) j (by omega)
    have w : ¬ (c j = true ∧ r 0 < j) := by
      rintro ⟨x, y⟩
      rw [hr0 j y (by omega)] at x
      cases x
    unfold bi
    simp only [z, w, or_false]) (fun j hj => rfl)
  have eZ : Z 0 = nI 0 := hs_ext fun j hj => by
    rw [hZj 0 (Nat.zero_le _) j hj]
    constructor
    · rintro ⟨x, y⟩
      rw [hr0 j y hj] at x
      cases x
    · intro z
      exact absurd z (hs_0 hj)
  have eS : st18 (sThr S (nI 0)) (S.2.1 18) = sThr S (nI 0) := by
    show st18 (sThr S (nI 0)) ((sThr S (nI 0)).2.1 18) = sThr S (nI 0)
    unfold st18
    rw [va_up_id]
  rw [eZ, eS] at g
  repeat (refine hG.1 _ _ _ _ _ _ rfl ?_)
  refine And.intro rfl (cx (hst) rfl ?_)
  repeat (refine hG.1 _ _ _ _ _ _ rfl ?_)
  refine And.intro (fun h => by first | exact absurd h (by decide) | exact False.elim (h (by decide))) (fun _ => ?_)
  repeat (refine hG.1 _ _ _ _ _ _ rfl ?_)
  refine And.intro rfl (cx (m_fails_f S) rfl ?_)
  repeat (refine hG.1 _ _ _ _ _ _ rfl ?_)
  refine And.intro (fun _ => ?_) (fun h => by first | exact absurd h (by decide) | exact False.elim (h (by decide)))
  repeat (first | (refine wk hG ?_ (g); (repeat (refine And.intro (by first | with_reducible rfl | with_reducible exact nI_add _ _ | with_reducible exact pk_m1 _ | rfl) ?_)); exact trivial) | refine hG.1 _ _ _ _ _ _ rfl ?_)
