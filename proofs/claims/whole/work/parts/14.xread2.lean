abbrev hsv (x v : Int32) : Prop := ¬ x &&& (nI 1 <<< (v &&& 31)) = 0
theorem r_usedBy (S : PS) (n nb : Nat) (set : Int32) (hX : Xn S n nb) : Run 0 40 [.ref 0, .int set] S (.inl (some (smL (fun k => decide (hs set k) && decide (S.2.1 1 k &&& S.1 0 6 = 0)) (S.2.1 2) n))) S := by
  refine run_of (by decide +kernel) rfl (fun L xs G hG => ?_)
  have main : ∀ k, k ≤ n → G 0 4 [(3, .int (nI k)), (2, .int (smL (fun k => decide (hs set k) && decide (S.2.1 1 k &&& S.1 0 6 = 0)) (S.2.1 2) k)), (0, .ref 0), (1, .int set)] [] S := by
    have hn := hX.2.1
    refine loop_up (fun k hk ih => ?_) ?_
    · repeat (refine hG.1 _ _ _ _ _ _ rfl ?_)
      rw [hX.1]
      refine And.intro (fun h => ?_) (fun h => ?_)
      · exact absurd h (nI_ge (by omega) (by omega))
      · repeat (refine hG.1 _ _ _ _ _ _ rfl ?_)
        refine cx (r_has S _ _) rfl ?_
        repeat (refine hG.1 _ _ _ _ _ _ rfl ?_)
        refine And.intro (fun h1 => ?_) (fun h1 => ?_)
        · rw [bi_0] at h1
          rw [smL_f (fun z => by simp only [Bool.and_eq_true, decide_eq_true_eq] at z; exact h1 z.1)] at ih
          repeat (first | (refine wk hG ?_ (ih); (repeat (refine And.intro (by first | with_reducible rfl | with_reducible exact nI_add _ _ | with_reducible exact pk_m1 _ | rfl) ?_)); exact trivial) | refine hG.1 _ _ _ _ _ _ rfl ?_)
        · rw [bi_n] at h1
          repeat (refine hG.1 _ _ _ _ _ _ rfl ?_)
          refine And.intro rfl (cx (r_isOpenTo S _ _ (vp_in_nI (show k < 16 by omega) (by decide))) rfl ?_)
          rw [nI_clamp (show k < 2 ^ 31 by omega)]
          repeat (refine hG.1 _ _ _ _ _ _ rfl ?_)
          refine And.intro (fun h2 => ?_) (fun h2 => ?_)
          · rw [bi_0] at h2
            rw [smL_f (fun z => by simp only [Bool.and_eq_true, decide_eq_true_eq] at z; exact h2 z.2)] at ih
            repeat (first | (refine wk hG ?_ (ih); (repeat (refine And.intro (by first | with_reducible rfl | with_reducible exact nI_add _ _ | with_reducible exact pk_m1 _ | rfl) ?_)); exact trivial) | refine hG.1 _ _ _ _ _ _ rfl ?_)
          · rw [bi_n] at h2
            rw [smL_t (by simp only [Bool.and_eq_true, decide_eq_true_eq]; exact ⟨h1, h2⟩)] at ih
            repeat (refine hG.1 _ _ _ _ _ _ rfl ?_)
            refine And.intro (vp_in_nI ((show k < 16 by omega)) (by decide)) ?_; rw [nI_clamp (Nat.lt_trans ((show k < 16 by omega)) (by decide))]
            repeat (first | (refine wk hG ?_ (ih); (repeat (refine And.intro (by first | with_reducible rfl | with_reducible exact nI_add _ _ | with_reducible exact pk_m1 _ | rfl) ?_)); exact trivial) | refine hG.1 _ _ _ _ _ _ rfl ?_)
    · repeat (refine hG.1 _ _ _ _ _ _ rfl ?_)
      rw [hX.1]
      refine And.intro (fun h => ?_) (fun h => ?_)
      · repeat (refine hG.1 _ _ _ _ _ _ rfl ?_)
        refine And.intro rfl (And.intro ?_ rfl)
        rfl
      · exact absurd (nI_le (Nat.le_refl _) (by omega)) h
  have h0 := main 0 (Nat.zero_le _); simp only [smL] at h0; repeat (first | (refine wk hG ?_ (h0); (repeat (refine And.intro (by first | with_reducible rfl | with_reducible exact nI_add _ _ | with_reducible exact pk_m1 _ | rfl) ?_)); exact trivial) | refine hG.1 _ _ _ _ _ _ rfl ?_)
abbrev inA (A : Nat → Nat → Int32) (a k : Nat) : Bool := decide (hsv (A 1 k) (A 5 a)) && decide (A 1 k &&& A 6 a = 0)
theorem r_nodesOf (S : PS) (n nb a : Nat) (ha : a < 8) (hX : Xn S n nb) : Run 0 42 [.ref 0, .int (nI a)] S (.inl (some (stL (inA S.2.1 a) n))) S := by
  refine run_of (by decide +kernel) rfl (fun L xs G hG => ?_)
  have main : ∀ k, k ≤ n → G 0 4 [(3, .int (nI k)), (2, .int (stL (inA S.2.1 a) k)), (0, .ref 0), (1, .int (nI a))] [] S := by
    have hn := hX.2.1
    refine loop_up (fun k hk ih => ?_) ?_
    · repeat (refine hG.1 _ _ _ _ _ _ rfl ?_)
      rw [hX.1]
      refine And.intro (fun h => ?_) (fun h => ?_)
      · exact absurd h (nI_ge (by omega) (by omega))
      · repeat (refine hG.1 _ _ _ _ _ _ rfl ?_)
        refine And.intro (vp_in_nI ((show k < 16 by omega)) (by decide)) ?_; rw [nI_clamp (Nat.lt_trans ((show k < 16 by omega)) (by decide))]
        repeat (refine hG.1 _ _ _ _ _ _ rfl ?_)
        refine And.intro (vp_in_nI (ha) (by decide)) ?_; rw [nI_clamp (Nat.lt_trans (ha) (by decide))]
        repeat (refine hG.1 _ _ _ _ _ _ rfl ?_)
        refine cx (r_has S _ _) rfl ?_
        repeat (refine hG.1 _ _ _ _ _ _ rfl ?_)
        refine And.intro (fun h1 => ?_) (fun h1 => ?_)
        · rw [bi_0] at h1
          rw [stL_f (fun z => by simp only [Bool.and_eq_true, decide_eq_true_eq] at z; exact h1 z.1)] at ih
          repeat (first | (refine wk hG ?_ (ih); (repeat (refine And.intro (by first | with_reducible rfl | with_reducible exact nI_add _ _ | with_reducible exact pk_m1 _ | rfl) ?_)); exact trivial) | refine hG.1 _ _ _ _ _ _ rfl ?_)
        · rw [bi_n] at h1
          repeat (refine hG.1 _ _ _ _ _ _ rfl ?_)
          refine And.intro (vp_in_nI ((show k < 16 by omega)) (by decide)) ?_; rw [nI_clamp (Nat.lt_trans ((show k < 16 by omega)) (by decide))]
          repeat (refine hG.1 _ _ _ _ _ _ rfl ?_)
          refine And.intro (vp_in_nI (ha) (by decide)) ?_; rw [nI_clamp (Nat.lt_trans (ha) (by decide))]
          repeat (refine hG.1 _ _ _ _ _ _ rfl ?_)
          refine And.intro (fun h2 => ?_) (fun h2 => ?_)
          · rw [stL_f (fun z => by simp only [Bool.and_eq_true, decide_eq_true_eq] at z; exact h2 z.2)] at ih
            repeat (first | (refine wk hG ?_ (ih); (repeat (refine And.intro (by first | with_reducible rfl | with_reducible exact nI_add _ _ | with_reducible exact pk_m1 _ | rfl) ?_)); exact trivial) | refine hG.1 _ _ _ _ _ _ rfl ?_)
          · rw [stL_t (by simp only [Bool.and_eq_true, decide_eq_true_eq]; exact ⟨h1, h2⟩)] at ih
            repeat (first | (refine wk hG ?_ (ih); (repeat (refine And.intro (by first | with_reducible rfl | with_reducible exact nI_add _ _ | with_reducible exact pk_m1 _ | rfl) ?_)); exact trivial) | refine hG.1 _ _ _ _ _ _ rfl ?_)
    · repeat (refine hG.1 _ _ _ _ _ _ rfl ?_)
      rw [hX.1]
      refine And.intro (fun h => ?_) (fun h => ?_)
      · repeat (refine hG.1 _ _ _ _ _ _ rfl ?_)
        refine And.intro rfl (And.intro ?_ rfl)
        rfl
      · exact absurd (nI_le (Nat.le_refl _) (by omega)) h
  have h0 := main 0 (Nat.zero_le _); simp only [stL] at h0; repeat (first | (refine wk hG ?_ (h0); (repeat (refine And.intro (by first | with_reducible rfl | with_reducible exact nI_add _ _ | with_reducible exact pk_m1 _ | rfl) ?_)); exact trivial) | refine hG.1 _ _ _ _ _ _ rfl ?_)
theorem r_outerExports (S : PS) (n nb a : Nat) (ha : a < 8) (hX : Xn S n nb) : Run 0 43 [.ref 0, .int (nI a)] S (.inl (some (stL (fun k => decide (S.2.1 1 k &&& S.2.1 6 a = one k)) n))) S := by
  refine run_of (by decide +kernel) rfl (fun L xs G hG => ?_)
  have main : ∀ k, k ≤ n → G 0 4 [(3, .int (nI k)), (2, .int (stL (fun k => decide (S.2.1 1 k &&& S.2.1 6 a = one k)) k)), (0, .ref 0), (1, .int (nI a))] [] S := by
    have hn := hX.2.1
    refine loop_up (fun k hk ih => ?_) ?_
    · repeat (refine hG.1 _ _ _ _ _ _ rfl ?_)
      rw [hX.1]
      refine And.intro (fun h => ?_) (fun h => ?_)
      · exact absurd h (nI_ge (by omega) (by omega))
      · repeat (refine hG.1 _ _ _ _ _ _ rfl ?_)
        refine And.intro (vp_in_nI ((show k < 16 by omega)) (by decide)) ?_; rw [nI_clamp (Nat.lt_trans ((show k < 16 by omega)) (by decide))]
        repeat (refine hG.1 _ _ _ _ _ _ rfl ?_)
        refine And.intro (vp_in_nI (ha) (by decide)) ?_; rw [nI_clamp (Nat.lt_trans (ha) (by decide))]
        repeat (refine hG.1 _ _ _ _ _ _ rfl ?_)
        refine And.intro (fun h1 => ?_) (fun h1 => ?_)
        · rw [stL_f (fun z => by simp only [decide_eq_true_eq] at z; exact h1 z)] at ih
          repeat (first | (refine wk hG ?_ (ih); (repeat (refine And.intro (by first | with_reducible rfl | with_reducible exact nI_add _ _ | with_reducible exact pk_m1 _ | rfl) ?_)); exact trivial) | refine hG.1 _ _ _ _ _ _ rfl ?_)
        · rw [stL_t (by simp only [decide_eq_true_eq]; exact h1)] at ih
          repeat (first | (refine wk hG ?_ (ih); (repeat (refine And.intro (by first | with_reducible rfl | with_reducible exact nI_add _ _ | with_reducible exact pk_m1 _ | rfl) ?_)); exact trivial) | refine hG.1 _ _ _ _ _ _ rfl ?_)
    · repeat (refine hG.1 _ _ _ _ _ _ rfl ?_)
      rw [hX.1]
      refine And.intro (fun h => ?_) (fun h => ?_)
      · repeat (refine hG.1 _ _ _ _ _ _ rfl ?_)
        refine And.intro rfl (And.intro ?_ rfl)
        rfl
      · exact absurd (nI_le (Nat.le_refl _) (by omega)) h
  have h0 := main 0 (Nat.zero_le _); simp only [stL] at h0; repeat (first | (refine wk hG ?_ (h0); (repeat (refine And.intro (by first | with_reducible rfl | with_reducible exact nI_add _ _ | with_reducible exact pk_m1 _ | rfl) ?_)); exact trivial) | refine hG.1 _ _ _ _ _ _ rfl ?_)
abbrev ptsX (A : Nat → Nat → Int32) (sh : Int32) (n a : Nat) : Int32 := (stL (inA A a) n &&& ((nI 1 <<< (A 5 a &&& 31)) ^^^ (-1))) &&& (sh ^^^ (-1))
theorem r_pipesToShut (S : PS) (n nb a : Nat) (ha : a < 8) (hX : Xn S n nb) : Run 0 44 [.ref 0, .int (nI a)] S (.inl (some (ptsX S.2.1 (S.1 0 6) n a))) S := by
  refine run_of (by decide +kernel) rfl (fun L xs G hG => ?_)
  repeat (refine hG.1 _ _ _ _ _ _ rfl ?_)
  refine And.intro rfl (cx (r_nodesOf S n nb a ha hX) rfl ?_)
  repeat (refine hG.1 _ _ _ _ _ _ rfl ?_)
  refine And.intro (vp_in_nI (ha) (by decide)) ?_; rw [nI_clamp (Nat.lt_trans (ha) (by decide))]
  repeat (refine hG.1 _ _ _ _ _ _ rfl ?_)
  refine And.intro rfl (And.intro ?_ rfl)
  rfl
def pst (c : Nat → Bool) (step : Int32) : Nat → Nat → Option Nat
  | 0, _ => none
  | k + 1, p => if c (k + 1) = true then (if nI p = step then some (k + 1) else pst c step k (p + 1)) else pst c step k p
theorem loop_dn {n : Nat} {I : Nat → Prop} (hs : ∀ k, k < n → I k → I (k + 1)) (he : I 0) : ∀ k, k ≤ n → I k
  | 0, _ => he
  | k + 1, h => hs k h (loop_dn hs he k (by omega))
theorem pipeOfStep_G (S : PS) (n nb a : Nat) (step : Int32) (ha : a < 8) (hX : Xn S n nb) (h1n : 1 ≤ n) {L : Nat} {xs : Nat → Int32} {K : Nat} {P : Nat → PR → PS → Prop} {G : KT} (hG : Cl 45 L xs K P G) (c : Nat → Bool) (hc : ∀ k, c k = decide (hs (ptsX S.2.1 (S.1 0 6) n a) k))
    (hs : ∀ k, pst c step (n - 1) 0 = some k → P 0 (.inl (some (nI k))) S) (hn : pst c step (n - 1) 0 = none → 1 ≤ K ∧ P 1 (.inr 1) S) : G 0 0 (lv_args 0 [.ref 0, .int (nI a), .int step]) [] S := by
  have hn16 := hX.2.1
  have main : ∀ k, k ≤ n - 1 → ∀ p, p + k ≤ 16 → pst c step k p = pst c step (n - 1) 0 → G 0 17 [(5, .int (nI k)), (4, .int (nI p)), (3, .int (ptsX S.2.1 (S.1 0 6) n a)), (0, .ref 0), (1, .int (nI a)), (2, .int step)] [] S := by
    refine loop_dn (fun k hk ih => ?_) ?_
    · intro p hp he
      repeat (refine hG.1 _ _ _ _ _ _ rfl ?_)
      refine And.intro (fun h => ?_) (fun h => ?_)
      · exact absurd h (nI_nle (by omega) (by omega))
      · repeat (refine hG.1 _ _ _ _ _ _ rfl ?_)
        refine cx (r_has S _ _) rfl ?_
        repeat (refine hG.1 _ _ _ _ _ _ rfl ?_)
        refine And.intro (fun h1 => ?_) (fun h1 => ?_)
        · rw [bi_0] at h1
          have e : pst c step (k + 1) p = pst c step k p := by
            rw [pst, if_neg (by rw [hc]; simpa using h1)]
          have g := ih p (by omega) (e.symm.trans he)
          repeat (first | (refine wk hG ?_ (g); (repeat (refine And.intro (by first | with_reducible rfl | with_reducible exact nI_add _ _ | with_reducible exact pk_m1 _ | rfl) ?_)); exact trivial) | refine hG.1 _ _ _ _ _ _ rfl ?_)
        · rw [bi_n] at h1
          have hct : c (k + 1) = true := by rw [hc]; simpa using h1
          repeat (refine hG.1 _ _ _ _ _ _ rfl ?_)
          refine And.intro (fun h2 => ?_) (fun h2 => ?_)
          · have e : pst c step (k + 1) p = pst c step k (p + 1) := by
              rw [pst, if_pos hct, if_neg h2]
            have g := ih (p + 1) (by omega) (e.symm.trans he)
            repeat (first | (refine wk hG ?_ (g); (repeat (refine And.intro (by first | with_reducible rfl | with_reducible exact nI_add _ _ | with_reducible exact pk_m1 _ | rfl) ?_)); exact trivial) | refine hG.1 _ _ _ _ _ _ rfl ?_)
          · have e : pst c step (k + 1) p = some (k + 1) := by
              rw [pst, if_pos hct, if_pos h2]
            repeat (refine hG.1 _ _ _ _ _ _ rfl ?_)
            exact And.intro rfl (hs _ (he.symm.trans e))
    · intro p hp he
      repeat (refine hG.1 _ _ _ _ _ _ rfl ?_)
      refine And.intro (fun h => ?_) (fun h => ?_)
      · repeat (refine hG.1 _ _ _ _ _ _ rfl ?_)
        have h9 := hn (he.symm.trans rfl)
        exact And.intro rfl (And.intro rfl (And.intro (by omega) h9.2))
      · exact absurd (Int32.le_refl 0) h
  repeat (refine hG.1 _ _ _ _ _ _ rfl ?_)
  refine And.intro rfl (cx (r_pipesToShut S n nb a ha hX) rfl ?_)
  have g := main (n - 1) (Nat.le_refl _) 0 (by omega) rfl
  have e : S.1 0 0 - nI 1 = nI (n - 1) := by
    rw [hX.1]
    exact pk_sub h1n
  rw [← e] at g
  repeat (first | (refine wk hG ?_ (g); (repeat (refine And.intro (by first | with_reducible rfl | with_reducible exact nI_add _ _ | with_reducible exact pk_m1 _ | rfl) ?_)); exact trivial) | refine hG.1 _ _ _ _ _ _ rfl ?_)
theorem r_pipeOfStep (S : PS) (n nb a k : Nat) (step : Int32) (ha : a < 8) (hX : Xn S n nb) (h1n : 1 ≤ n) (h : pst (fun k => decide (hs (ptsX S.2.1 (S.1 0 6) n a) k)) step (n - 1) 0 = some k) : Run 0 45 [.ref 0, .int (nI a), .int step] S (.inl (some (nI k))) S := by
  refine run_of (by decide +kernel) rfl (fun L xs G hG => ?_)
  exact pipeOfStep_G S n nb a step ha hX h1n hG _ (fun _ => rfl) (fun k' h' => by rw [h] at h'; cases h'; exact ⟨rfl, rfl⟩) (fun h' => by rw [h] at h'; cases h')
theorem r_pipeOfStep_x (S : PS) (n nb a : Nat) (step : Int32) (ha : a < 8) (hX : Xn S n nb) (h1n : 1 ≤ n) (h : pst (fun k => decide (hs (ptsX S.2.1 (S.1 0 6) n a) k)) step (n - 1) 0 = none) : Run 1 45 [.ref 0, .int (nI a), .int step] S (.inr 1) S := by
  refine run_of (by decide +kernel) rfl (fun L xs G hG => ?_)
  exact pipeOfStep_G S n nb a step ha hX h1n hG _ (fun _ => rfl) (fun k' h' => by rw [h] at h'; cases h') (fun _ => ⟨Nat.le_refl _, rfl, rfl⟩)
def csX (A : Nat → Nat → Int32) (nb : Nat) (rp sh : Int32) (b : Nat) : Int32 :=
  if hs rp b ∨ ¬ A 1 (A 7 b).toNatClampNeg &&& sh = 0 then nI 0 else amtL A rp (A 7 b).toNatClampNeg nb * fac (prs A (A 7 b).toNatClampNeg) / nI 1000 - (amtL A rp (A 7 b).toNatClampNeg nb - A 8 b) * fac (prs A (A 7 b).toNatClampNeg) / nI 1000
theorem r_costOf (S : PS) (n nb b q : Nat) (hb : b < 20) (hq : q < 16) (hbq : S.2.1 7 b = nI q) (hX : Xn S n nb) : Run 0 46 [.ref 0, .int (nI b)] S (.inl (some (csX S.2.1 nb (S.1 0 14) (S.1 0 6) b))) S := by
  have hq2 : (S.2.1 7 b).toNatClampNeg = q := by rw [hbq]; exact nI_clamp (by omega)
  refine run_of (by decide +kernel) rfl (fun L xs G hG => ?_)
  repeat (refine hG.1 _ _ _ _ _ _ rfl ?_)
  refine And.intro (vp_in_nI (hb) (by decide)) ?_; rw [nI_clamp (Nat.lt_trans (hb) (by decide))]
  repeat (refine hG.1 _ _ _ _ _ _ rfl ?_)
  refine cx (r_has S _ _) rfl ?_
  repeat (refine hG.1 _ _ _ _ _ _ rfl ?_)
  refine And.intro (fun h1 => ?_) (fun h1 => ?_)
  · rw [bi_n] at h1
    repeat (refine hG.1 _ _ _ _ _ _ rfl ?_)
    refine And.intro rfl (And.intro ?_ rfl)
    rw [csX, if_pos (Or.inl h1)]
  · rw [bi_0] at h1
    repeat (refine hG.1 _ _ _ _ _ _ rfl ?_)
    refine And.intro rfl (cx (r_isOpenTo S _ _ (by rw [hbq]; exact vp_in_nI hq (by decide))) rfl ?_)
    repeat (refine hG.1 _ _ _ _ _ _ rfl ?_)
    refine And.intro (fun h2 => ?_) (fun h2 => ?_)
    · rw [bi_n, hq2] at h2
      repeat (refine hG.1 _ _ _ _ _ _ rfl ?_)
      rw [hbq]
      refine And.intro rfl (cx (r_amountAt S q nb hq hX.2.2.2.1 hX.2.2.1) rfl ?_)
      repeat (refine hG.1 _ _ _ _ _ _ rfl ?_)
      refine And.intro rfl (cx (r_leakageOf S _ q hq hX.2.2.2.2) rfl ?_)
      repeat (refine hG.1 _ _ _ _ _ _ rfl ?_)
      refine And.intro (vp_in_nI (hb) (by decide)) ?_; rw [nI_clamp (Nat.lt_trans (hb) (by decide))]
      repeat (refine hG.1 _ _ _ _ _ _ rfl ?_)
      refine And.intro rfl (cx (r_leakageOf S _ q hq hX.2.2.2.2) rfl ?_)
      repeat (refine hG.1 _ _ _ _ _ _ rfl ?_)
      refine And.intro rfl (And.intro ?_ rfl)
      rw [csX, hq2, if_neg]
      rintro (z | z)
      · exact h1 z
      · exact z h2
    · rw [bi_0, hq2] at h2
      repeat (refine hG.1 _ _ _ _ _ _ rfl ?_)
      refine And.intro rfl (And.intro ?_ rfl)
      rw [csX, hq2, if_pos (Or.inr h2)]
theorem r_isAhead (S : PS) (b o : Nat) (hb : b < 20) (ho : o < 20) : Run 0 49 [.ref 0, .int (nI b), .int (nI o)] S (.inl (some (bi (¬ S.2.1 10 b * S.2.1 9 o ≤ S.2.1 10 o * S.2.1 9 b)))) S := by
  refine run_of (by decide +kernel) rfl (fun L xs G hG => ?_)
  repeat (refine hG.1 _ _ _ _ _ _ rfl ?_)
  refine And.intro (vp_in_nI (hb) (by decide)) ?_; rw [nI_clamp (Nat.lt_trans (hb) (by decide))]
  repeat (refine hG.1 _ _ _ _ _ _ rfl ?_)
  refine And.intro (vp_in_nI (ho) (by decide)) ?_; rw [nI_clamp (Nat.lt_trans (ho) (by decide))]
  repeat (refine hG.1 _ _ _ _ _ _ rfl ?_)
  refine And.intro (vp_in_nI (ho) (by decide)) ?_; rw [nI_clamp (Nat.lt_trans (ho) (by decide))]
  repeat (refine hG.1 _ _ _ _ _ _ rfl ?_)
  refine And.intro (vp_in_nI (hb) (by decide)) ?_; rw [nI_clamp (Nat.lt_trans (hb) (by decide))]
  repeat (refine hG.1 _ _ _ _ _ _ rfl ?_)
  refine And.intro (fun h => ?_) (fun h => ?_)
  · repeat (refine hG.1 _ _ _ _ _ _ rfl ?_)
    refine And.intro rfl (And.intro ?_ rfl)
    rw [bi_f (fun z => z h)]
  · repeat (refine hG.1 _ _ _ _ _ _ rfl ?_)
    refine And.intro rfl (And.intro ?_ rfl)
    rw [bi_t h]
