theorem loop_up {n : Nat} {I : Nat → Prop} (hs : ∀ k, k < n → I (k + 1) → I k) (he : I n) : ∀ k, k ≤ n → I k := by
  have h : ∀ d k, k + d = n → I k := by
    intro d
    induction d with
    | zero => intro k hk; have : k = n := by omega
              subst this; exact he
    | succ d ih => intro k hk; exact hs k (by omega) (ih (k + 1) (by omega))
  intro k hk
  exact h (n - k) k (by omega)
abbrev hs (x : Int32) (k : Nat) : Prop := ¬ x &&& (nI 1 <<< (nI k &&& 31)) = 0
def prL (w : Int32) (pr : Nat → Int32) : Nat → Int32
  | 0 => nI 50
  | k + 1 => if hs w (k + 1) ∧ ¬ pr (k + 1) = -1 then pr (k + 1) else prL w pr k
abbrev prs (A : Nat → Nat → Int32) (j : Nat) : Int32 := prL (A 1 j) (A 4) j
theorem r_pressureAt (S : PS) (j : Nat) (hj : j < 16) : Run 0 33 [.ref 0, .int (nI j)] S (.inl (some (prs S.2.1 j))) S := by
  refine run_of (by decide +kernel) rfl (fun G hG => ?_)
  have main : ∀ k, k ≤ j → G 0 5 [(3, .int (nI (k + 1))), (2, .int (prL (S.2.1 1 j) (S.2.1 4) k)), (0, .ref 0), (1, .int (nI j))] [] S := by
    refine loop_up (fun k hk ih => ?_) ?_
    · repeat (refine hG.1 _ _ _ _ _ _ rfl ?_)
      refine And.intro (fun h => ?_) (fun h => ?_)
      · exact absurd h (nI_nlt (by omega) (by omega))
      · repeat (refine hG.1 _ _ _ _ _ _ rfl ?_)
        refine And.intro (vp_in_nI (hj) (by decide)) ?_; rw [nI_clamp (Nat.lt_trans (hj) (by decide))]
        repeat (refine hG.1 _ _ _ _ _ _ rfl ?_)
        refine cx (r_has S _ _) rfl ?_
        repeat (refine hG.1 _ _ _ _ _ _ rfl ?_)
        refine And.intro (fun h1 => ?_) (fun h1 => ?_)
        · rw [bi_0] at h1
          have e : prL (S.2.1 1 j) (S.2.1 4) (k + 1) = prL (S.2.1 1 j) (S.2.1 4) k := by
            rw [prL, if_neg (fun z => h1 z.1)]
          rw [e] at ih
          repeat (first | (refine wk hG ?_ (ih); (repeat (refine And.intro (by first | with_reducible rfl | with_reducible exact nI_add _ _ | with_reducible exact pk_m1 _ | rfl) ?_)); exact trivial) | refine hG.1 _ _ _ _ _ _ rfl ?_)
        · rw [bi_n] at h1
          repeat (refine hG.1 _ _ _ _ _ _ rfl ?_)
          refine And.intro (vp_in_nI ((show k + 1 < 16 by omega)) (by decide)) ?_; rw [nI_clamp (Nat.lt_trans ((show k + 1 < 16 by omega)) (by decide))]
          repeat (refine hG.1 _ _ _ _ _ _ rfl ?_)
          refine And.intro (fun h2 => ?_) (fun h2 => ?_)
          · have e : prL (S.2.1 1 j) (S.2.1 4) (k + 1) = prL (S.2.1 1 j) (S.2.1 4) k := by
              rw [prL, if_neg (fun z => z.2 h2)]
            rw [e] at ih
            repeat (first | (refine wk hG ?_ (ih); (repeat (refine And.intro (by first | with_reducible rfl | with_reducible exact nI_add _ _ | with_reducible exact pk_m1 _ | rfl) ?_)); exact trivial) | refine hG.1 _ _ _ _ _ _ rfl ?_)
          · repeat (refine hG.1 _ _ _ _ _ _ rfl ?_)
            refine And.intro (vp_in_nI ((show k + 1 < 16 by omega)) (by decide)) ?_; rw [nI_clamp (Nat.lt_trans ((show k + 1 < 16 by omega)) (by decide))]
            have e : prL (S.2.1 1 j) (S.2.1 4) (k + 1) = S.2.1 4 (k + 1) := by
              rw [prL, if_pos ⟨h1, h2⟩]
            rw [e] at ih
            repeat (first | (refine wk hG ?_ (ih); (repeat (refine And.intro (by first | with_reducible rfl | with_reducible exact nI_add _ _ | with_reducible exact pk_m1 _ | rfl) ?_)); exact trivial) | refine hG.1 _ _ _ _ _ _ rfl ?_)
    · repeat (refine hG.1 _ _ _ _ _ _ rfl ?_)
      refine And.intro (fun h => ?_) (fun h => ?_)
      · repeat (refine hG.1 _ _ _ _ _ _ rfl ?_)
        refine And.intro rfl (And.intro ?_ (And.intro rfl rfl))
        rfl
      · exact absurd (nI_lt (by omega) (by omega)) h
  have h0 := main 0 (Nat.zero_le _); simp only [prL] at h0; repeat (first | (refine wk hG ?_ (h0); (repeat (refine And.intro (by first | with_reducible rfl | with_reducible exact nI_add _ _ | with_reducible exact pk_m1 _ | rfl) ?_)); exact trivial) | refine hG.1 _ _ _ _ _ _ rfl ?_)
def facV (v : Nat) : Int32 := if v / 10 < 10 then fcv (v / 10) + (fcv (v / 10 + 1) - fcv (v / 10)) * (nI v - nI (v / 10) * nI 10) / nI 10 else fcv 10
abbrev fac (p : Int32) : Int32 := facV p.toNatClampNeg
theorem r_factorFor (S : PS) (v : Nat) (hv : v ≤ 100) : Run 0 34 [.int (nI v)] S (.inl (some (facV v))) S := by
  refine run_of (by decide +kernel) rfl (fun G hG => ?_)
  have hd : nI v / nI 10 = nI (v / 10) := pk_div (by omega) (by omega) (by omega)
  have h10 : (Int32.ofNat 11 - nI 1 : Int32) = nI 10 := by decide
  repeat (refine hG.1 _ _ _ _ _ _ rfl ?_)
  refine And.intro ((by decide : ¬ nI 10 = 0)) ?_
  rw [hd]
  repeat (refine hG.1 _ _ _ _ _ _ rfl ?_)
  refine And.intro (fun h => ?_) (fun h => ?_)
  · exact absurd h (nI_pos (by omega))
  · repeat (refine hG.1 _ _ _ _ _ _ rfl ?_)
    rw [h10]
    refine And.intro (fun h1 => ?_) (fun h1 => ?_)
    · have h2 : v / 10 < 10 := (nI_ltI (by omega) (by omega)).mp h1
      repeat (refine hG.1 _ _ _ _ _ _ rfl ?_)
      rw [nI_add]
      refine And.intro (vp_in_nI ((show v / 10 + 1 < 11 by omega)) (by decide)) ?_; rw [nI_clamp (Nat.lt_trans ((show v / 10 + 1 < 11 by omega)) (by decide))]
      repeat (refine hG.1 _ _ _ _ _ _ rfl ?_)
      refine And.intro (vp_in_nI ((show v / 10 < 11 by omega)) (by decide)) ?_; rw [nI_clamp (Nat.lt_trans ((show v / 10 < 11 by omega)) (by decide))]
      repeat (refine hG.1 _ _ _ _ _ _ rfl ?_)
      refine And.intro (vp_in_nI ((show v / 10 < 11 by omega)) (by decide)) ?_; rw [nI_clamp (Nat.lt_trans ((show v / 10 < 11 by omega)) (by decide))]
      repeat (refine hG.1 _ _ _ _ _ _ rfl ?_)
      refine And.intro ((by decide : ¬ nI 10 = 0)) ?_
      repeat (refine hG.1 _ _ _ _ _ _ rfl ?_)
      refine And.intro rfl (And.intro ?_ (And.intro rfl rfl))
      rw [facV, if_pos h2]
    · have h2 : ¬ v / 10 < 10 := fun z => h1 ((nI_ltI (by omega) (by omega)).mpr z)
      repeat (refine hG.1 _ _ _ _ _ _ rfl ?_)
      rw [h10]
      refine And.intro (vp_in_nI ((show 10 < 11 by omega)) (by decide)) ?_; rw [nI_clamp (Nat.lt_trans ((show 10 < 11 by omega)) (by decide))]
      repeat (refine hG.1 _ _ _ _ _ _ rfl ?_)
      refine And.intro rfl (And.intro ?_ (And.intro rfl rfl))
      rw [facV, if_neg h2]
def PrOk (pr : Nat → Int32) : Prop := ∀ k, k < 16 → pr k = -1 ∨ ∃ v : Nat, v ≤ 100 ∧ pr k = nI v
theorem prL_ok {w : Int32} {pr : Nat → Int32} (h : PrOk pr) : ∀ k, k < 16 → ∃ v : Nat, v ≤ 100 ∧ prL w pr k = nI v
  | 0, _ => ⟨50, by omega, rfl⟩
  | k + 1, hk => by
    rw [prL]
    split
    · rename_i z
      rcases h (k + 1) hk with y | y
      · exact absurd y z.2
      · exact y
    · exact prL_ok h k (by omega)
theorem r_leakageOf (S : PS) (x : Int32) (j : Nat) (hj : j < 16) (hp : PrOk (S.2.1 4)) : Run 0 35 [.ref 0, .int x, .int (nI j)] S (.inl (some (x * fac (prs S.2.1 j) / nI 1000))) S := by
  obtain ⟨v, hv, e⟩ := prL_ok (w := S.2.1 1 j) hp j hj
  refine run_of (by decide +kernel) rfl (fun G hG => ?_)
  repeat (refine hG.1 _ _ _ _ _ _ rfl ?_)
  refine And.intro rfl (cx (r_pressureAt S j hj) rfl ?_)
  repeat (refine hG.1 _ _ _ _ _ _ rfl ?_)
  rw [prs, e]
  refine cx (r_factorFor S v hv) rfl ?_
  repeat (refine hG.1 _ _ _ _ _ _ rfl ?_)
  refine And.intro ((by decide : ¬ nI 1000 = 0)) ?_
  repeat (refine hG.1 _ _ _ _ _ _ rfl ?_)
  refine And.intro rfl (And.intro ?_ (And.intro rfl rfl))
  simp only [fac, prs, e]
  rw [nI_clamp (by omega)]
def amtL (A : Nat → Nat → Int32) (rp : Int32) (j : Nat) : Nat → Int32
  | 0 => A 3 j
  | k + 1 => if A 7 k = nI j ∧ ¬ hs rp k then amtL A rp j k + A 8 k else amtL A rp j k
theorem r_amountAt (S : PS) (j nb : Nat) (hj : j < 16) (hnb : nb ≤ 20) (hb : S.1 0 10 = nI nb) : Run 0 36 [.ref 0, .int (nI j)] S (.inl (some (amtL S.2.1 (S.1 0 14) j nb))) S := by
  refine run_of (by decide +kernel) rfl (fun G hG => ?_)
  have main : ∀ k, k ≤ nb → G 0 9 [(3, .int (nI k)), (2, .int (amtL S.2.1 (S.1 0 14) j k)), (0, .ref 0), (1, .int (nI j))] [] S := by
    refine loop_up (fun k hk ih => ?_) ?_
    · repeat (refine hG.1 _ _ _ _ _ _ rfl ?_)
      rw [hb]
      refine And.intro (fun h => ?_) (fun h => ?_)
      · exact absurd h (nI_ge (by omega) (by omega))
      · repeat (refine hG.1 _ _ _ _ _ _ rfl ?_)
        refine And.intro (vp_in_nI ((show k < 20 by omega)) (by decide)) ?_; rw [nI_clamp (Nat.lt_trans ((show k < 20 by omega)) (by decide))]
        repeat (refine hG.1 _ _ _ _ _ _ rfl ?_)
        refine And.intro (fun h1 => ?_) (fun h1 => ?_)
        · have e : amtL S.2.1 (S.1 0 14) j (k + 1) = amtL S.2.1 (S.1 0 14) j k := by
            rw [amtL, if_neg (fun z => h1 z.1)]
          rw [e] at ih
          repeat (first | (refine wk hG ?_ (ih); (repeat (refine And.intro (by first | with_reducible rfl | with_reducible exact nI_add _ _ | with_reducible exact pk_m1 _ | rfl) ?_)); exact trivial) | refine hG.1 _ _ _ _ _ _ rfl ?_)
        · repeat (refine hG.1 _ _ _ _ _ _ rfl ?_)
          refine cx (r_has S _ _) rfl ?_
          repeat (refine hG.1 _ _ _ _ _ _ rfl ?_)
          refine And.intro (fun h2 => ?_) (fun h2 => ?_)
          · rw [bi_n] at h2
            have e : amtL S.2.1 (S.1 0 14) j (k + 1) = amtL S.2.1 (S.1 0 14) j k := by
              rw [amtL, if_neg (fun z => z.2 h2)]
            rw [e] at ih
            repeat (first | (refine wk hG ?_ (ih); (repeat (refine And.intro (by first | with_reducible rfl | with_reducible exact nI_add _ _ | with_reducible exact pk_m1 _ | rfl) ?_)); exact trivial) | refine hG.1 _ _ _ _ _ _ rfl ?_)
          · rw [bi_0] at h2
            repeat (refine hG.1 _ _ _ _ _ _ rfl ?_)
            refine And.intro (vp_in_nI ((show k < 20 by omega)) (by decide)) ?_; rw [nI_clamp (Nat.lt_trans ((show k < 20 by omega)) (by decide))]
            have e : amtL S.2.1 (S.1 0 14) j (k + 1) = amtL S.2.1 (S.1 0 14) j k + S.2.1 8 k := by
              rw [amtL, if_pos ⟨h1, h2⟩]
            rw [e] at ih
            repeat (first | (refine wk hG ?_ (ih); (repeat (refine And.intro (by first | with_reducible rfl | with_reducible exact nI_add _ _ | with_reducible exact pk_m1 _ | rfl) ?_)); exact trivial) | refine hG.1 _ _ _ _ _ _ rfl ?_)
    · repeat (refine hG.1 _ _ _ _ _ _ rfl ?_)
      rw [hb]
      refine And.intro (fun h => ?_) (fun h => ?_)
      · repeat (refine hG.1 _ _ _ _ _ _ rfl ?_)
        refine And.intro rfl (And.intro ?_ (And.intro rfl rfl))
        rfl
      · exact absurd (nI_le (Nat.le_refl _) (by omega)) h
  repeat (refine hG.1 _ _ _ _ _ _ rfl ?_)
  refine And.intro (vp_in_nI (hj) (by decide)) ?_; rw [nI_clamp (Nat.lt_trans (hj) (by decide))]
  have h0 := main 0 (Nat.zero_le _); simp only [amtL] at h0; repeat (first | (refine wk hG ?_ (h0); (repeat (refine And.intro (by first | with_reducible rfl | with_reducible exact nI_add _ _ | with_reducible exact pk_m1 _ | rfl) ?_)); exact trivial) | refine hG.1 _ _ _ _ _ _ rfl ?_)
def lkgX (A : Nat → Nat → Int32) (nb : Nat) (rp : Int32) (j : Nat) : Int32 := amtL A rp j nb * fac (prs A j) / nI 1000
def tknX (A : Nat → Nat → Int32) (nb : Nat) (rp sh : Int32) (j : Nat) : Int32 := if A 1 j &&& sh = 0 then A 2 j + lkgX A nb rp j else nI 0
def Xn (S : PS) (n nb : Nat) : Prop := S.1 0 0 = nI n ∧ n ≤ 16 ∧ S.1 0 10 = nI nb ∧ nb ≤ 20 ∧ PrOk (S.2.1 4)
theorem r_leakageAt (S : PS) (j n nb : Nat) (hj : j < 16) (hX : Xn S n nb) : Run 0 37 [.ref 0, .int (nI j)] S (.inl (some (lkgX S.2.1 nb (S.1 0 14) j))) S := by
  refine run_of (by decide +kernel) rfl (fun G hG => ?_)
  repeat (refine hG.1 _ _ _ _ _ _ rfl ?_)
  refine And.intro rfl (cx (r_amountAt S j nb hj hX.2.2.2.1 hX.2.2.1) rfl ?_)
  repeat (refine hG.1 _ _ _ _ _ _ rfl ?_)
  refine And.intro rfl (cx (r_leakageOf S _ j hj hX.2.2.2.2) rfl ?_)
  repeat (refine hG.1 _ _ _ _ _ _ rfl ?_)
  refine And.intro rfl (And.intro ?_ (And.intro rfl rfl))
  rfl
theorem r_takenAt (S : PS) (j n nb : Nat) (sh : Int32) (hj : j < 16) (hX : Xn S n nb) : Run 0 38 [.ref 0, .int (nI j), .int sh] S (.inl (some (tknX S.2.1 nb (S.1 0 14) sh j))) S := by
  refine run_of (by decide +kernel) rfl (fun G hG => ?_)
  repeat (refine hG.1 _ _ _ _ _ _ rfl ?_)
  refine And.intro rfl (cx (r_isOpenTo S _ _ (vp_in_nI hj (by decide))) rfl ?_)
  rw [nI_clamp (by omega)]
  repeat (refine hG.1 _ _ _ _ _ _ rfl ?_)
  refine And.intro (fun h => ?_) (fun h => ?_)
  · rw [bi_0] at h
    repeat (refine hG.1 _ _ _ _ _ _ rfl ?_)
    refine And.intro rfl (And.intro ?_ (And.intro rfl rfl))
    rw [tknX, if_neg h]
  · rw [bi_n] at h
    repeat (refine hG.1 _ _ _ _ _ _ rfl ?_)
    refine And.intro (vp_in_nI (hj) (by decide)) ?_; rw [nI_clamp (Nat.lt_trans (hj) (by decide))]
    repeat (refine hG.1 _ _ _ _ _ _ rfl ?_)
    refine And.intro rfl (cx (r_leakageAt S j n nb hj hX) rfl ?_)
    repeat (refine hG.1 _ _ _ _ _ _ rfl ?_)
    refine And.intro rfl (And.intro ?_ (And.intro rfl rfl))
    rw [tknX, if_pos h]
def smL (c : Nat → Bool) (f : Nat → Int32) : Nat → Int32
  | 0 => nI 0
  | k + 1 => if c k = true then smL c f k + f k else smL c f k
theorem smL_t {c : Nat → Bool} {f : Nat → Int32} {k : Nat} (h : c k = true) : smL c f (k + 1) = smL c f k + f k := by rw [smL, if_pos h]
theorem smL_f {c : Nat → Bool} {f : Nat → Int32} {k : Nat} (h : ¬ c k = true) : smL c f (k + 1) = smL c f k := by rw [smL, if_neg h]
theorem r_takenBy (S : PS) (n nb : Nat) (set sh : Int32) (hX : Xn S n nb) : Run 0 39 [.ref 0, .int set, .int sh] S (.inl (some (smL (fun k => decide (hs set k)) (tknX S.2.1 nb (S.1 0 14) sh) n))) S := by
  refine run_of (by decide +kernel) rfl (fun G hG => ?_)
  have main : ∀ k, k ≤ n → G 0 5 [(4, .int (nI k)), (3, .int (smL (fun k => decide (hs set k)) (tknX S.2.1 nb (S.1 0 14) sh) k)), (0, .ref 0), (1, .int set), (2, .int sh)] [] S := by
    have hn := hX.2.1
    refine loop_up (fun k hk ih => ?_) ?_
    · repeat (refine hG.1 _ _ _ _ _ _ rfl ?_)
      rw [hX.1]
      refine And.intro (fun h => ?_) (fun h => ?_)
      · exact absurd h (nI_ge (by omega) (by omega))
      · repeat (refine hG.1 _ _ _ _ _ _ rfl ?_)
        refine cx (r_has S _ _) rfl ?_
        repeat (refine hG.1 _ _ _ _ _ _ rfl ?_)
        refine And.intro (fun h1 => ?_) (fun h1 => ?_)
        · rw [bi_0] at h1
          rw [smL_f (by simpa using h1)] at ih
          repeat (first | (refine wk hG ?_ (ih); (repeat (refine And.intro (by first | with_reducible rfl | with_reducible exact nI_add _ _ | with_reducible exact pk_m1 _ | rfl) ?_)); exact trivial) | refine hG.1 _ _ _ _ _ _ rfl ?_)
        · rw [bi_n] at h1
          rw [smL_t (by simpa using h1)] at ih
          repeat (refine hG.1 _ _ _ _ _ _ rfl ?_)
          refine And.intro rfl (cx (r_takenAt S k n nb _ (by omega) hX) rfl ?_)
          repeat (first | (refine wk hG ?_ (ih); (repeat (refine And.intro (by first | with_reducible rfl | with_reducible exact nI_add _ _ | with_reducible exact pk_m1 _ | rfl) ?_)); exact trivial) | refine hG.1 _ _ _ _ _ _ rfl ?_)
    · repeat (refine hG.1 _ _ _ _ _ _ rfl ?_)
      rw [hX.1]
      refine And.intro (fun h => ?_) (fun h => ?_)
      · repeat (refine hG.1 _ _ _ _ _ _ rfl ?_)
        refine And.intro rfl (And.intro ?_ (And.intro rfl rfl))
        rfl
      · exact absurd (nI_le (Nat.le_refl _) (by omega)) h
  have h0 := main 0 (Nat.zero_le _); simp only [smL] at h0; repeat (first | (refine wk hG ?_ (h0); (repeat (refine And.intro (by first | with_reducible rfl | with_reducible exact nI_add _ _ | with_reducible exact pk_m1 _ | rfl) ?_)); exact trivial) | refine hG.1 _ _ _ _ _ _ rfl ?_)
theorem r_flowTo (S : PS) (n nb : Nat) (top : Int32) (hX : Xn S n nb) : Run 0 41 [.ref 0, .int top] S (.inl (some (smL (fun k => decide (¬ S.2.1 1 k &&& (nI 1 <<< (top &&& 31)) = 0)) (tknX S.2.1 nb (S.1 0 14) (S.1 0 6)) n))) S := by
  refine run_of (by decide +kernel) rfl (fun G hG => ?_)
  have main : ∀ k, k ≤ n → G 0 4 [(3, .int (nI k)), (2, .int (smL (fun k => decide (¬ S.2.1 1 k &&& (nI 1 <<< (top &&& 31)) = 0)) (tknX S.2.1 nb (S.1 0 14) (S.1 0 6)) k)), (0, .ref 0), (1, .int top)] [] S := by
    have hn := hX.2.1
    refine loop_up (fun k hk ih => ?_) ?_
    · repeat (refine hG.1 _ _ _ _ _ _ rfl ?_)
      rw [hX.1]
      refine And.intro (fun h => ?_) (fun h => ?_)
      · exact absurd h (nI_ge (by omega) (by omega))
      · repeat (refine hG.1 _ _ _ _ _ _ rfl ?_)
        refine And.intro (vp_in_nI ((show k < 16 by omega)) (by decide)) ?_; rw [nI_clamp (Nat.lt_trans ((show k < 16 by omega)) (by decide))]
        repeat (refine hG.1 _ _ _ _ _ _ rfl ?_)
        refine cx (r_has S _ _) rfl ?_
        repeat (refine hG.1 _ _ _ _ _ _ rfl ?_)
        refine And.intro (fun h1 => ?_) (fun h1 => ?_)
        · rw [bi_0] at h1
          rw [smL_f (by simpa using h1)] at ih
          repeat (first | (refine wk hG ?_ (ih); (repeat (refine And.intro (by first | with_reducible rfl | with_reducible exact nI_add _ _ | with_reducible exact pk_m1 _ | rfl) ?_)); exact trivial) | refine hG.1 _ _ _ _ _ _ rfl ?_)
        · rw [bi_n] at h1
          rw [smL_t (by simpa using h1)] at ih
          repeat (refine hG.1 _ _ _ _ _ _ rfl ?_)
          refine And.intro rfl (cx (r_takenAt S k n nb _ (by omega) hX) rfl ?_)
          repeat (first | (refine wk hG ?_ (ih); (repeat (refine And.intro (by first | with_reducible rfl | with_reducible exact nI_add _ _ | with_reducible exact pk_m1 _ | rfl) ?_)); exact trivial) | refine hG.1 _ _ _ _ _ _ rfl ?_)
    · repeat (refine hG.1 _ _ _ _ _ _ rfl ?_)
      rw [hX.1]
      refine And.intro (fun h => ?_) (fun h => ?_)
      · repeat (refine hG.1 _ _ _ _ _ _ rfl ?_)
        refine And.intro rfl (And.intro ?_ (And.intro rfl rfl))
        rfl
      · exact absurd (nI_le (Nat.le_refl _) (by omega)) h
  have h0 := main 0 (Nat.zero_le _); simp only [smL] at h0; repeat (first | (refine wk hG ?_ (h0); (repeat (refine And.intro (by first | with_reducible rfl | with_reducible exact nI_add _ _ | with_reducible exact pk_m1 _ | rfl) ?_)); exact trivial) | refine hG.1 _ _ _ _ _ _ rfl ?_)
