def Wy (A : Nat → Nat → Int32) (n : Nat) : Prop := A 1 0 = one 0 ∧ ∀ k, 0 < k → k < n → ∃ q : Nat, q < k ∧ A 13 k = nI q ∧ A 1 k = A 1 q ||| one k
theorem wy_le {A : Nat → Nat → Int32} {n : Nat} (h : Wy A n) : ∀ k, k < n → n ≤ 16 → ∀ j, j < 32 → hs (A 1 k) j → j ≤ k := by
  intro k
  induction k using Nat.strongRecOn with
  | _ k ih =>
    intro hk hn j hj hh
    rcases Nat.eq_zero_or_pos k with h0 | h0
    · subst h0
      rw [h.1, hs_one (by omega) hj] at hh
      omega
    · obtain ⟨q, hq, -, e⟩ := h.2 k h0 hk
      rw [e, hs_or hj] at hh
      rcases hh with z | z
      · have := ih q hq (by omega) hn j hj z
        omega
      · rw [hs_one (by omega) hj] at z
        omega
theorem wy_self {A : Nat → Nat → Int32} {n k : Nat} (h : Wy A n) (hk : k < n) (hn : n ≤ 16) : hs (A 1 k) k := by
  rcases Nat.eq_zero_or_pos k with h0 | h0
  · subst h0
    rw [h.1, hs_one (by omega) (by omega)]
  · obtain ⟨q, hq, -, e⟩ := h.2 k h0 hk
    rw [e, hs_or (by omega)]
    exact Or.inr ((hs_one (by omega) (by omega)).mpr rfl)
theorem wy_step {A : Nat → Nat → Int32} {k q j : Nat} (e : A 1 k = A 1 q ||| one k) (hk : k < 32) (hj : j < 32) (hjk : j ≠ k) : hs (A 1 k) j ↔ hs (A 1 q) j := by
  rw [e, hs_or hj, hs_one hk hj]
  constructor
  · rintro (z | z)
    · exact z
    · omega
  · exact Or.inl
theorem wy_0 {A : Nat → Nat → Int32} {n : Nat} (h : Wy A n) : ∀ k, k < n → n ≤ 16 → hs (A 1 k) 0 := by
  intro k
  induction k using Nat.strongRecOn with
  | _ k ih =>
    intro hk hn
    rcases Nat.eq_zero_or_pos k with h0 | h0
    · subst h0
      exact wy_self h hk hn
    · obtain ⟨q, hq, -, e⟩ := h.2 k h0 hk
      rw [wy_step e (by omega) (by omega) (by omega)]
      exact ih q hq (by omega) hn
theorem prL_ext {w w' : Int32} {pr : Nat → Int32} : ∀ k, (∀ j, 0 < j → j ≤ k → (hs w j ↔ hs w' j)) → prL w pr k = prL w' pr k
  | 0, _ => rfl
  | k + 1, h => by
    rw [prL, prL, prL_ext k (fun j h1 h2 => h j h1 (by omega))]
    have := h (k + 1) (by omega) (Nat.le_refl _)
    by_cases h1 : hs w (k + 1)
    · have h2 := this.mp h1
      by_cases h3 : pr (k + 1) = -1
      · rw [if_neg (fun z => z.2 h3), if_neg (fun z => z.2 h3)]
      · rw [if_pos ⟨h1, h3⟩, if_pos ⟨h2, h3⟩]
    · have h2 : ¬ hs w' (k + 1) := fun z => h1 (this.mpr z)
      rw [if_neg (fun z => h1 z.1), if_neg (fun z => h2 z.1)]
theorem prL_top {w : Int32} {pr : Nat → Int32} {q : Nat} : ∀ k, q ≤ k → (∀ j, q < j → j ≤ k → ¬ hs w j) → prL w pr k = prL w pr q
  | 0, h, _ => by
    have : q = 0 := by omega
    rw [this]
  | k + 1, h, hz => by
    rcases Nat.lt_or_ge q (k + 1) with h1 | h1
    · rw [prL, if_neg (fun z => hz (k + 1) h1 (Nat.le_refl _) z.1)]
      exact prL_top k (by omega) (fun j h2 h3 => hz j h2 (by omega))
    · have : q = k + 1 := by omega
      rw [this]
theorem prs_set {A : Nat → Nat → Int32} {n k : Nat} (h : Wy A n) (h0 : 0 < k) (hk : k < n) (hn : n ≤ 16) (hp : ¬ A 4 k = -1) : prs A k = A 4 k := by
  obtain ⟨k, rfl⟩ : ∃ j, k = j + 1 := ⟨k - 1, by omega⟩
  rw [prs, prL, if_pos ⟨wy_self h hk hn, hp⟩]
theorem prs_up {A : Nat → Nat → Int32} {n k q : Nat} (h : Wy A n) (h0 : 0 < k) (hk : k < n) (hn : n ≤ 16) (hp : A 4 k = -1) (hq : q < k) (e : A 1 k = A 1 q ||| one k) : prs A k = prs A q := by
  obtain ⟨k, rfl⟩ : ∃ j, k = j + 1 := ⟨k - 1, by omega⟩
  rw [prs, prL, if_neg (fun z => z.2 hp), prs, prL_ext k (fun j _ hj => wy_step e (by omega) (by omega) (by omega))]
  exact prL_top k (by omega) (fun j h1 h2 hz => by have := wy_le h q (by omega) hn j (by omega) hz; omega)
def MR (S : PS) (n nb : Nat) (rp sh : Int32) : Prop :=
  (S.1 12 0 = nI n ∧ 1 ≤ n ∧ n ≤ 16 ∧ S.1 12 11 = nI nb ∧ nb ≤ 20) ∧ Wy S.2.1 n ∧
  (S.2.1 14 = S.2.1 2 ∧ S.2.1 15 = S.2.1 3 ∧ (∀ k, 0 < k → k < 16 → S.2.1 16 k = S.2.1 4 k) ∧ (∀ j, j < 11 → S.2.1 19 j = fcv j) ∧ PrOk (S.2.1 4)) ∧
  (S.2.1 22 = S.2.1 7 ∧ S.2.1 23 = S.2.1 8 ∧ S.2.1 24 = S.2.1 9 ∧ S.2.1 20 = S.2.1 5 ∧ S.2.1 21 = S.2.1 6) ∧
  ((∀ k, k < 16 → S.2.1 18 k = bi (hs sh k)) ∧ ¬ hs sh 0) ∧ (∀ b, b < 20 → S.2.1 25 b = bi (hs rp b))
abbrev sThr (S : PS) (v : Int32) : PS := (va_up S.1 12 (upd (S.1 12) 16 v), S.2.1, S.2.2)
theorem m_thrown (S : PS) : Run 0 51 [.ref 12] S (.inl (some (S.1 12 16))) S := by
  refine run_of (by decide +kernel) rfl (fun L xs G hG => ?_)
  repeat (refine hG.1 _ _ _ _ _ _ rfl ?_)
  exact And.intro rfl (And.intro rfl rfl)
theorem m_fails_t (S : PS) (v : Int32) (h : ¬ v ≤ 0) : Run 0 52 [.ref 12, .int v] S (.inl (some (nI 1))) (sThr S v) := by
  refine run_of (by decide +kernel) rfl (fun L xs G hG => ?_)
  repeat (refine hG.1 _ _ _ _ _ _ rfl ?_)
  refine And.intro (fun h1 => ?_) (fun h1 => ?_)
  · exact absurd h1 h
  · repeat (refine hG.1 _ _ _ _ _ _ rfl ?_)
    exact And.intro rfl (And.intro rfl rfl)
theorem m_fails_f (S : PS) : Run 0 52 [.ref 12, .int (nI 0)] S (.inl (some (nI 0))) (sThr S (nI 0)) := by
  refine run_of (by decide +kernel) rfl (fun L xs G hG => ?_)
  repeat (refine hG.1 _ _ _ _ _ _ rfl ?_)
  refine And.intro (fun h1 => ?_) (fun h1 => ?_)
  · repeat (refine hG.1 _ _ _ _ _ _ rfl ?_)
    exact And.intro rfl (And.intro rfl rfl)
  · exact absurd (by decide) h1
theorem m_tells (S : PS) (v : Int32) : Run 0 53 [.ref 12, .int v] S (.inl (some v)) (sThr S (nI 0)) := by
  refine run_of (by decide +kernel) rfl (fun L xs G hG => ?_)
  repeat (refine hG.1 _ _ _ _ _ _ rfl ?_)
  exact And.intro rfl (And.intro rfl rfl)
theorem m_isIn (S : PS) (x lo hi : Int32) : Run 0 54 [.int x, .int lo, .int hi] S (.inl (some (bi (¬ x < lo ∧ ¬ hi < x)))) S := by
  refine run_of (by decide +kernel) rfl (fun L xs G hG => ?_)
  repeat (refine hG.1 _ _ _ _ _ _ rfl ?_)
  refine And.intro (fun h1 => ?_) (fun h1 => ?_)
  · repeat (refine hG.1 _ _ _ _ _ _ rfl ?_)
    exact And.intro rfl (And.intro (by rw [bi_f (fun z => z.1 h1)]) rfl)
  · repeat (refine hG.1 _ _ _ _ _ _ rfl ?_)
    refine And.intro (fun h2 => ?_) (fun h2 => ?_)
    · repeat (refine hG.1 _ _ _ _ _ _ rfl ?_)
      exact And.intro rfl (And.intro (by rw [bi_f (fun z => z.2 h2)]) rfl)
    · repeat (refine hG.1 _ _ _ _ _ _ rfl ?_)
      exact And.intro rfl (And.intro (by rw [bi_t ⟨h1, h2⟩]) rfl)
theorem in_t {j n : Nat} (hj : j < n) (hn : n ≤ 100) (lo : Nat) (hlo : lo ≤ j) : (¬ nI j < nI lo ∧ ¬ (nI n - nI 1) < nI j) := by
  rw [show nI n - nI 1 = nI (n - 1) from pk_sub (by omega)]
  exact ⟨nI_nlt hlo (by omega), nI_nlt (by omega) (by omega)⟩
theorem in_f {x : Int32} {n : Nat} (hn : n ≤ 100) (h1n : 1 ≤ n) (h : noN x (nI n)) : ¬ (¬ x < nI 0 ∧ ¬ (nI n - nI 1) < x) := by
  rw [show nI n - nI 1 = nI (n - 1) from pk_sub (by omega)]
  rintro ⟨h1, h2⟩
  rcases h with z | z
  · exact h1 z
  · have h3 : (nI n).toInt = n := nI_toInt (by omega)
    have h4 : (nI (n - 1)).toInt = ((n - 1 : Nat) : Int) := nI_toInt (by omega)
    rw [Int32.lt_iff_toInt_lt] at h2 z
    omega
theorem in_fz {x : Int32} (h : noN x (nI 0)) : ¬ (¬ x < nI 0 ∧ ¬ (nI 0 - nI 1) < x) := by
  rintro ⟨h1, h2⟩
  have h5 : (nI 0 - nI 1 : Int32).toInt = -1 := by decide
  have h6 : (nI 0).toInt = 0 := by decide
  have h7 : (0 : Int32).toInt = 0 := by decide
  rw [Int32.lt_iff_toInt_lt] at h1 h2
  omega
theorem in_fp {x : Int32} {n : Nat} (hn : n ≤ 100) (h1n : 1 ≤ n) (h : x ≤ 0 ∨ ¬ x < nI n) : ¬ (¬ x < nI 1 ∧ ¬ (nI n - nI 1) < x) := by
  rw [show nI n - nI 1 = nI (n - 1) from pk_sub (by omega)]
  rintro ⟨h1, h2⟩
  have h3 : (nI n).toInt = n := nI_toInt (by omega)
  have h4 : (nI (n - 1)).toInt = ((n - 1 : Nat) : Int) := nI_toInt (by omega)
  have h5 : (nI 1).toInt = 1 := nI_toInt (by omega)
  have h7 : (0 : Int32).toInt = 0 := by decide
  rw [Int32.lt_iff_toInt_lt] at h1 h2
  rcases h with z | z
  · rw [Int32.le_iff_toInt_le] at z
    omega
  · rw [Int32.lt_iff_toInt_lt] at z
    omega
theorem m_isNode_t (S : PS) (j n : Nat) (h : S.1 12 0 = nI n) (hn : n ≤ 16) (hj : j < n) : Run 0 55 [.ref 12, .int (nI j)] S (.inl (some (nI 1))) S := by
  refine run_of (by decide +kernel) rfl (fun L xs G hG => ?_)
  repeat (refine hG.1 _ _ _ _ _ _ rfl ?_)
  refine cx (m_isIn S _ _ _) rfl ?_
  repeat (refine hG.1 _ _ _ _ _ _ rfl ?_)
  refine And.intro bi_nrw (And.intro ?_ rfl)
  rw [bi_t (by rw [h]; exact in_t hj (by omega) 0 (by omega))]
theorem m_isNode_f (S : PS) (x : Int32) (n : Nat) (h : S.1 12 0 = nI n) (hn : n ≤ 16) (h1n : 1 ≤ n) (hx : noN x (nI n)) : Run 0 55 [.ref 12, .int x] S (.inl (some (nI 0))) S := by
  refine run_of (by decide +kernel) rfl (fun L xs G hG => ?_)
  repeat (refine hG.1 _ _ _ _ _ _ rfl ?_)
  refine cx (m_isIn S _ _ _) rfl ?_
  repeat (refine hG.1 _ _ _ _ _ _ rfl ?_)
  refine And.intro bi_nrw (And.intro ?_ rfl)
  rw [bi_f (by rw [h]; exact in_f (by omega) h1n hx)]
theorem m_isPipe_t (S : PS) (j n : Nat) (h : S.1 12 0 = nI n) (hn : n ≤ 16) (h0 : 0 < j) (hj : j < n) : Run 0 56 [.ref 12, .int (nI j)] S (.inl (some (nI 1))) S := by
  refine run_of (by decide +kernel) rfl (fun L xs G hG => ?_)
  repeat (refine hG.1 _ _ _ _ _ _ rfl ?_)
  refine cx (m_isIn S _ _ _) rfl ?_
  repeat (refine hG.1 _ _ _ _ _ _ rfl ?_)
  refine And.intro bi_nrw (And.intro ?_ rfl)
  rw [bi_t (by rw [h]; exact in_t hj (by omega) 1 (by omega))]
theorem m_isPipe_f (S : PS) (x : Int32) (n : Nat) (h : S.1 12 0 = nI n) (hn : n ≤ 16) (h1n : 1 ≤ n) (hx : x ≤ 0 ∨ ¬ x < nI n) : Run 0 56 [.ref 12, .int x] S (.inl (some (nI 0))) S := by
  refine run_of (by decide +kernel) rfl (fun L xs G hG => ?_)
  repeat (refine hG.1 _ _ _ _ _ _ rfl ?_)
  refine cx (m_isIn S _ _ _) rfl ?_
  repeat (refine hG.1 _ _ _ _ _ _ rfl ?_)
  refine And.intro bi_nrw (And.intro ?_ rfl)
  rw [bi_f (by rw [h]; exact in_fp (by omega) h1n hx)]
theorem m_isArea_t (S : PS) (j n : Nat) (h : S.1 12 8 = nI n) (hn : n ≤ 16) (hj : j < n) : Run 0 72 [.ref 12, .int (nI j)] S (.inl (some (nI 1))) S := by
  refine run_of (by decide +kernel) rfl (fun L xs G hG => ?_)
  repeat (refine hG.1 _ _ _ _ _ _ rfl ?_)
  refine cx (m_isIn S _ _ _) rfl ?_
  repeat (refine hG.1 _ _ _ _ _ _ rfl ?_)
  refine And.intro bi_nrw (And.intro ?_ rfl)
  rw [bi_t (by rw [h]; exact in_t hj (by omega) 0 (by omega))]
theorem m_isArea_f (S : PS) (x : Int32) (n : Nat) (h : S.1 12 8 = nI n) (hn : n ≤ 16) (hx : noN x (nI n)) : Run 0 72 [.ref 12, .int x] S (.inl (some (nI 0))) S := by
  refine run_of (by decide +kernel) rfl (fun L xs G hG => ?_)
  repeat (refine hG.1 _ _ _ _ _ _ rfl ?_)
  refine cx (m_isIn S _ _ _) rfl ?_
  repeat (refine hG.1 _ _ _ _ _ _ rfl ?_)
  refine And.intro bi_nrw (And.intro ?_ rfl)
  rw [bi_f (by rw [h]; rcases Nat.eq_zero_or_pos n with z | z; subst z; exact in_fz hx; exact in_f (by omega) z hx)]
theorem m_isBurst_t (S : PS) (j n : Nat) (h : S.1 12 11 = nI n) (hn : n ≤ 20) (hj : j < n) : Run 0 90 [.ref 12, .int (nI j)] S (.inl (some (nI 1))) S := by
  refine run_of (by decide +kernel) rfl (fun L xs G hG => ?_)
  repeat (refine hG.1 _ _ _ _ _ _ rfl ?_)
  refine cx (m_isIn S _ _ _) rfl ?_
  repeat (refine hG.1 _ _ _ _ _ _ rfl ?_)
  refine And.intro bi_nrw (And.intro ?_ rfl)
  rw [bi_t (by rw [h]; exact in_t hj (by omega) 0 (by omega))]
theorem m_isBurst_f (S : PS) (x : Int32) (n : Nat) (h : S.1 12 11 = nI n) (hn : n ≤ 20) (hx : noN x (nI n)) : Run 0 90 [.ref 12, .int x] S (.inl (some (nI 0))) S := by
  refine run_of (by decide +kernel) rfl (fun L xs G hG => ?_)
  repeat (refine hG.1 _ _ _ _ _ _ rfl ?_)
  refine cx (m_isIn S _ _ _) rfl ?_
  repeat (refine hG.1 _ _ _ _ _ _ rfl ?_)
  refine And.intro bi_nrw (And.intro ?_ rfl)
  rw [bi_f (by rw [h]; rcases Nat.eq_zero_or_pos n with z | z; subst z; exact in_fz hx; exact in_f (by omega) z hx)]
theorem m_isBelow (S : PS) (k t n : Nat) (hW : Wy S.2.1 n) (hn : n ≤ 16) (hk : k < n) (ht : t < 16) : Run 0 57 [.ref 12, .int (nI k), .int (nI t)] S (.inl (some (bi (hs (S.2.1 1 k) t)))) S := by
  refine run_of (by decide +kernel) rfl (fun L xs G hG => ?_)
  have main : ∀ j, j < n → bi (hs (S.2.1 1 j) t) = bi (hs (S.2.1 1 k) t) → G 0 2 [(3, .int (nI j)), (0, .ref 12), (2, .int (nI t))] [] S := by
    intro j
    induction j using Nat.strongRecOn with
    | _ j ih =>
      intro hj he
      repeat (refine hG.1 _ _ _ _ _ _ rfl ?_)
      refine And.intro (fun h1 => ?_) (fun h1 => ?_)
      · have hle : j ≤ t := (nI_leI (by omega) (by omega)).mp h1
        repeat (refine hG.1 _ _ _ _ _ _ rfl ?_)
        refine And.intro (fun h2 => ?_) (fun h2 => ?_)
        · repeat (refine hG.1 _ _ _ _ _ _ rfl ?_)
          refine And.intro rfl (And.intro ?_ rfl)
          rw [← he, bi_f]
          intro z
          have := wy_le hW j hj hn t (by omega) z
          exact h2 (by rw [show j = t by omega])
        · repeat (refine hG.1 _ _ _ _ _ _ rfl ?_)
          refine And.intro rfl (And.intro ?_ rfl)
          have e2 : j = t := (nI_eq (by omega) (by omega)).mp h2
          subst e2
          rw [← he, bi_t (wy_self hW hj hn)]
      · have hlt : t < j := by
          rcases Nat.lt_or_ge t j with z | z
          · exact z
          · exact absurd (nI_le z (by omega)) h1
        obtain ⟨q, hq, e13, e1⟩ := hW.2 j (by omega) hj
        repeat (refine hG.1 _ _ _ _ _ _ rfl ?_)
        refine And.intro (vp_in_nI ((show j < 16 by omega)) (by decide)) ?_; rw [nI_clamp (Nat.lt_trans ((show j < 16 by omega)) (by decide))]
        rw [e13]
        have g := ih q hq (by omega) (by rw [← he]; unfold bi; simp only [wy_step e1 (show j < 32 by omega) (show t < 32 by omega) (by omega)])
        repeat (first | (refine wk hG ?_ (g); (repeat (refine And.intro (by first | with_reducible rfl | with_reducible exact nI_add _ _ | with_reducible exact pk_m1 _ | rfl) ?_)); exact trivial) | refine hG.1 _ _ _ _ _ _ rfl ?_)
  repeat (first | (refine wk hG ?_ (main k hk rfl); (repeat (refine And.intro (by first | with_reducible rfl | with_reducible exact nI_add _ _ | with_reducible exact pk_m1 _ | rfl) ?_)); exact trivial) | refine hG.1 _ _ _ _ _ _ rfl ?_)
