theorem pst_nonneg {c : Nat → Bool} {step : Int32} : ∀ (k p : Nat), p + k ≤ 100 → step < 0 → pst c step k p = none
  | 0, _, _, _ => rfl
  | k + 1, p, h, hs => by
    rw [pst]
    split
    · rw [if_neg (fun z => nI_pos (n := p) (by omega) (by rw [z]; exact hs))]
      exact pst_nonneg k (p + 1) (by omega) hs
    · exact pst_nonneg k p (by omega) hs
theorem pst_le {c : Nat → Bool} {step : Int32} {r : Nat} : ∀ (k p : Nat), pst c step k p = some r → 0 < r ∧ r ≤ k ∧ c r = true
  | 0, _, h => by cases h
  | k + 1, p, h => by
    rw [pst] at h
    split at h
    · rename_i hc
      split at h
      · cases h; exact ⟨by omega, Nat.le_refl _, hc⟩
      · obtain ⟨h1, h2, h3⟩ := pst_le k (p + 1) h
        exact ⟨h1, by omega, h3⟩
    · obtain ⟨h1, h2, h3⟩ := pst_le k p h
      exact ⟨h1, by omega, h3⟩
theorem m_isStep_na (S : PS) (x y : Int32) (na : Nat) (h : S.1 12 8 = nI na) (hn : na ≤ 8) (hx : noN x (nI na)) : Run 0 86 [.ref 12, .int x, .int y] S (.inl (some (nI 0))) S := by
  refine run_of (by decide +kernel) rfl (fun L xs G hG => ?_)
  repeat (refine hG.1 _ _ _ _ _ _ rfl ?_)
  refine And.intro rfl (cx (m_isArea_f S x na h (by omega) hx) rfl ?_)
  repeat (refine hG.1 _ _ _ _ _ _ rfl ?_)
  refine And.intro (fun h1 => ?_) (fun h1 => ?_)
  · repeat (refine hG.1 _ _ _ _ _ _ rfl ?_)
    exact And.intro rfl (And.intro rfl rfl)
  · exact absurd (by decide) h1
theorem m_isStep (S : PS) (a q n nb na : Nat) (rp sh y : Int32) (hM : MR S n nb rp sh) (h8 : S.1 12 8 = nI na) (hna : na ≤ 8) (ha : a < na) (hA : ArOk S.2.1 n a q) : Run 0 86 [.ref 12, .int (nI a), .int y] S (.inl (some (bi ((pkX S.2.1 sh n a y).isSome = true)))) S := by
  have hn := hM.1.2.2.1
  refine run_of (by decide +kernel) rfl (fun L xs G hG => ?_)
  repeat (refine hG.1 _ _ _ _ _ _ rfl ?_)
  refine And.intro rfl (cx (m_isArea_t S a na h8 (by omega) ha) rfl ?_)
  repeat (refine hG.1 _ _ _ _ _ _ rfl ?_)
  refine And.intro (fun h1 => ?_) (fun h1 => ?_)
  · exact absurd h1 (by decide)
  · repeat (refine hG.1 _ _ _ _ _ _ rfl ?_)
    refine And.intro (fun h2 => ?_) (fun h2 => ?_)
    · repeat (refine hG.1 _ _ _ _ _ _ rfl ?_)
      refine And.intro rfl (And.intro ?_ rfl)
      rw [pkX, pst_nonneg (n - 1) 0 (by omega) h2, bi_f (by decide)]
    · repeat (refine hG.1 _ _ _ _ _ _ rfl ?_)
      refine And.intro rfl (cx (m_pipe S a q n nb rp sh y hM (by omega) hA) rfl ?_)
      cases hp : pkX S.2.1 sh n a y with
      | none =>
        repeat (refine hG.1 _ _ _ _ _ _ rfl ?_)
        refine And.intro (fun h3 => ?_) (fun h3 => ?_)
        · repeat (refine hG.1 _ _ _ _ _ _ rfl ?_)
          refine And.intro rfl (And.intro ?_ rfl)
          rw [bi_f (by rw [hp]; decide)]
        · exact absurd rfl h3
      | some r =>
        have hr := pst_le _ _ hp
        repeat (refine hG.1 _ _ _ _ _ _ rfl ?_)
        refine And.intro (fun h3 => ?_) (fun h3 => ?_)
        · exact absurd h3 (by
            intro z
            have h4 : (nI r).toInt = r := nI_toInt (by omega)
            have z2 : nI r = -1 := z
            rw [z2] at h4
            have h5 : (-1 : Int32).toInt = -1 := by decide
            omega)
        · repeat (refine hG.1 _ _ _ _ _ _ rfl ?_)
          refine And.intro rfl (And.intro ?_ rfl)
          rw [bi_t (by rw [hp]; rfl)]
theorem nar_b1 : vp_nar .boolean (nI 1) = nI 1 := by decide
theorem nar_b0 : vp_nar .boolean (nI 0) = nI 0 := by decide
abbrev st25 (S : PS) (f : Nat → Int32) : PS := (S.1, va_up S.2.1 25 f, S.2.2)
theorem MR_25 {S : PS} {n nb : Nat} {rp rp' sh : Int32} {f : Nat → Int32} (hM : MR S n nb rp sh) (hf : ∀ b, b < 20 → f b = bi (hs rp' b)) : MR (st25 S f) n nb rp' sh :=
  ⟨hM.1, hM.2.1, hM.2.2.1, hM.2.2.2.1, hM.2.2.2.2.1, hf⟩
theorem lkgX_congr {A A' : Nat → Nat → Int32} {nb j : Nat} {rp : Int32} (h1 : A' 1 = A 1) (h3 : A' 3 = A 3) (h4 : A' 4 = A 4) (h7 : A' 7 = A 7) (h8 : A' 8 = A 8) : lkgX A' nb rp j = lkgX A nb rp j := by
  simp only [lkgX, prs, amtL_congr h3 h7 h8, h1, h4]
theorem tknX_congr {A A' : Nat → Nat → Int32} {nb j : Nat} {rp sh : Int32} (h1 : A' 1 = A 1) (h2 : A' 2 = A 2) (h3 : A' 3 = A 3) (h4 : A' 4 = A 4) (h7 : A' 7 = A 7) (h8 : A' 8 = A 8) : tknX A' nb rp sh j = tknX A nb rp sh j := by
  simp only [tknX, lkgX_congr h1 h3 h4 h7 h8, h1, h2]
theorem amt_less {A : Nat → Nat → Int32} {rp : Int32} {j b : Nat} (hb32 : b < 32) (h7 : A 7 b = nI j) (hr : ¬ hs rp b) : ∀ k, k ≤ 32 → amtL A (rp ||| one b) j k = if b < k then amtL A rp j k - A 8 b else amtL A rp j k
  | 0, _ => by rw [if_neg (by omega)]; rfl
  | k + 1, hk => by
    have ih := amt_less (A := A) hb32 h7 hr k (by omega)
    have hor : hs (rp ||| one b) k ↔ (hs rp k ∨ b = k) := by rw [hs_or (by omega), hs_one hb32 (by omega)]
    rw [amtL, amtL, ih]
    by_cases hbk : b = k
    · subst hbk
      rw [if_neg (fun z => z.2 (hor.mpr (Or.inr rfl))), if_neg (Nat.lt_irrefl b), if_pos (show b < b + 1 by omega), if_pos ⟨h7, hr⟩]
      grind
    · by_cases hc : A 7 k = nI j ∧ ¬ hs rp k
      · rw [if_pos ⟨hc.1, fun z => (hor.mp z).elim hc.2 hbk⟩, if_pos hc]
        by_cases hlt : b < k
        · rw [if_pos hlt, if_pos (show b < k + 1 by omega)]
          grind
        · rw [if_neg hlt, if_neg (show ¬ b < k + 1 by omega)]
      · rw [if_neg (fun z => hc ⟨z.1, fun y => z.2 (hor.mpr (Or.inl y))⟩), if_neg hc]
        by_cases hlt : b < k
        · rw [if_pos hlt, if_pos (show b < k + 1 by omega)]
        · rw [if_neg hlt, if_neg (show ¬ b < k + 1 by omega)]
theorem m_costs (S : PS) (b q n nb : Nat) (rp sh : Int32) (hM : MR S n nb rp sh) (hb : b < nb) (hq : q < n) (hbq : S.2.1 7 b = nI q) : Run 0 91 [.ref 12, .int (nI b)] S (.inl (some (csX S.2.1 nb rp sh b))) S := by
  obtain ⟨⟨h0, h1n, hn, hb0, hnb⟩, hW, -, ⟨h22, -, -, -, -⟩, -, hrp⟩ := id hM
  have hq2 : (S.2.1 7 b).toNatClampNeg = q := by rw [hbq]; exact nI_clamp (by omega)
  refine run_of (by decide +kernel) rfl (fun L xs G hG => ?_)
  repeat (refine hG.1 _ _ _ _ _ _ rfl ?_)
  refine And.intro (vp_in_nI ((show b < 20 by omega)) (by decide)) ?_; rw [nI_clamp (Nat.lt_trans ((show b < 20 by omega)) (by decide))]
  rw [hrp b (by omega)]
  repeat (refine hG.1 _ _ _ _ _ _ rfl ?_)
  refine And.intro (fun h1 => ?_) (fun h1 => ?_)
  · rw [bi_0] at h1
    have f1 : ∀ c, c < 20 → upd (S.2.1 25) b (nI 1) c = bi (hs (rp ||| one b) c) := by
      intro c hc
      have hor : hs (rp ||| one b) c ↔ (hs rp c ∨ b = c) := by rw [hs_or (by omega), hs_one (by omega) (by omega)]
      by_cases hcb : c = b
      · subst hcb
        rw [upd_same, bi_t (hor.mpr (Or.inr rfl))]
      · rw [upd_lt hcb, hrp c hc]
        unfold bi
        simp only [hor, show ¬ b = c from fun z => hcb z.symm, or_false]
    have hM1 := MR_25 hM f1
    repeat (refine hG.1 _ _ _ _ _ _ rfl ?_)
    refine And.intro (vp_in_nI ((show b < 20 by omega)) (by decide)) ?_; rw [nI_clamp (Nat.lt_trans ((show b < 20 by omega)) (by decide))]
    rw [h22, hbq]
    repeat (refine hG.1 _ _ _ _ _ _ rfl ?_)
    refine And.intro rfl (cx (m_taken S q n nb rp sh hM hq) rfl ?_)
    repeat (refine hG.1 _ _ _ _ _ _ rfl ?_)
    refine And.intro (vp_in_nI ((show b < 20 by omega)) (by decide)) ?_; rw [nI_clamp (Nat.lt_trans ((show b < 20 by omega)) (by decide))]
    rw [nar_b1]
    repeat (refine hG.1 _ _ _ _ _ _ rfl ?_)
    refine And.intro (vp_in_nI ((show b < 20 by omega)) (by decide)) ?_; rw [nI_clamp (Nat.lt_trans ((show b < 20 by omega)) (by decide))]
    rw [show (st25 S (upd (S.2.1 25) b (nI 1))).2.1 22 b = nI q by rw [← hbq, ← h22]; rfl]
    repeat (refine hG.1 _ _ _ _ _ _ rfl ?_)
    refine And.intro rfl (cx (m_taken (st25 S (upd (S.2.1 25) b (nI 1))) q n nb (rp ||| one b) sh hM1 hq) rfl ?_)
    repeat (refine hG.1 _ _ _ _ _ _ rfl ?_)
    refine And.intro (vp_in_nI ((show b < 20 by omega)) (by decide)) ?_; rw [nI_clamp (Nat.lt_trans ((show b < 20 by omega)) (by decide))]
    rw [nar_b0]
    repeat (refine hG.1 _ _ _ _ _ _ rfl ?_)
    refine And.intro rfl (And.intro ?_ ?_)
    · rw [tknX_congr (A := S.2.1) (A' := (st25 S (upd (S.2.1 25) b (nI 1))).2.1) rfl rfl rfl rfl rfl rfl]
      congr 2
      have ha := amt_less (A := S.2.1) (show b < 32 by omega) hbq h1 nb (by omega)
      rw [if_pos hb] at ha
      unfold csX tknX lkgX
      rw [hq2, ha]
      by_cases hs0 : S.2.1 1 q &&& sh = 0
      · rw [if_pos hs0, if_pos hs0, if_neg (fun z => z.elim h1 (fun y => y hs0))]
        grind
      · rw [if_neg hs0, if_neg hs0, if_pos (Or.inr hs0)]
        decide
    · have e : upd (upd (S.2.1 25) b (nI 1)) b (nI 0) = S.2.1 25 := by
        funext c
        by_cases hc : c = b
        · subst hc
          rw [upd_same, hrp c (by omega), bi_f h1]
        · rw [upd_lt hc, upd_lt hc]
      show (S.1, va_up (va_up S.2.1 25 (upd (S.2.1 25) b (nI 1))) 25 (upd (upd (S.2.1 25) b (nI 1)) b (nI 0)), S.2.2) = S
      rw [va_up_up, e, va_up_id]
  · rw [bi_n] at h1
    repeat (refine hG.1 _ _ _ _ _ _ rfl ?_)
    refine And.intro rfl (And.intro ?_ rfl)
    rw [csX, if_pos (Or.inl h1)]
abbrev ahM (cs h : Nat → Int32) (j k : Nat) : Prop := cs k * h j < cs j * h k ∨ (cs j * h k = cs k * h j ∧ j < k)
theorem m_isAhead (S : PS) (j k n nb : Nat) (rp sh : Int32) (hM : MR S n nb rp sh) (hj : j < nb) (hk : k < nb) (hB : ∀ b, b < nb → ∃ q : Nat, q < n ∧ S.2.1 7 b = nI q) : Run 0 94 [.ref 12, .int (nI j), .int (nI k)] S (.inl (some (bi (ahM (csX S.2.1 nb rp sh) (S.2.1 9) j k)))) S := by
  obtain ⟨⟨h0, h1n, hn, hb0, hnb⟩, hW, -, ⟨-, -, h24, -, -⟩, -⟩ := id hM
  obtain ⟨q1, hq1, e1⟩ := hB j hj
  obtain ⟨q2, hq2, e2⟩ := hB k hk
  refine run_of (by decide +kernel) rfl (fun L xs G hG => ?_)
  repeat (refine hG.1 _ _ _ _ _ _ rfl ?_)
  refine And.intro rfl (cx (m_costs S j q1 n nb rp sh hM hj hq1 e1) rfl ?_)
  repeat (refine hG.1 _ _ _ _ _ _ rfl ?_)
  refine And.intro (vp_in_nI ((show k < 20 by omega)) (by decide)) ?_; rw [nI_clamp (Nat.lt_trans ((show k < 20 by omega)) (by decide))]
  rw [h24]
  repeat (refine hG.1 _ _ _ _ _ _ rfl ?_)
  refine And.intro rfl (cx (m_costs S k q2 n nb rp sh hM hk hq2 e2) rfl ?_)
  repeat (refine hG.1 _ _ _ _ _ _ rfl ?_)
  refine And.intro (vp_in_nI ((show j < 20 by omega)) (by decide)) ?_; rw [nI_clamp (Nat.lt_trans ((show j < 20 by omega)) (by decide))]
  rw [h24]
  repeat (refine hG.1 _ _ _ _ _ _ rfl ?_)
  refine And.intro (fun h1 => ?_) (fun h1 => ?_)
  · repeat (refine hG.1 _ _ _ _ _ _ rfl ?_)
    refine And.intro rfl (And.intro ?_ rfl)
    rw [bi_t (Or.inl h1)]
  · repeat (refine hG.1 _ _ _ _ _ _ rfl ?_)
    refine And.intro (fun h2 => ?_) (fun h2 => ?_)
    · repeat (refine hG.1 _ _ _ _ _ _ rfl ?_)
      refine And.intro rfl (And.intro ?_ rfl)
      rw [bi_f]
      rintro (z | z)
      · exact h1 z
      · exact h2 z.1
    · repeat (refine hG.1 _ _ _ _ _ _ rfl ?_)
      refine And.intro (fun h3 => ?_) (fun h3 => ?_)
      · repeat (refine hG.1 _ _ _ _ _ _ rfl ?_)
        refine And.intro rfl (And.intro ?_ rfl)
        rw [bi_f]
        rintro (z | z)
        · exact h1 z
        · have := (nI_leI (by omega) (by omega)).mp h3
          omega
      · repeat (refine hG.1 _ _ _ _ _ _ rfl ?_)
        refine And.intro rfl (And.intro ?_ rfl)
        rw [bi_t]
        refine Or.inr ⟨h2, ?_⟩
        rcases Nat.lt_or_ge j k with z | z
        · exact z
        · exact absurd (nI_le z (by omega)) h3
abbrev rkN (cs h : Nat → Int32) (rp : Int32) (nb k : Nat) : Nat := cnt (fun j => decide (¬ hs rp j ∧ j ≠ k ∧ ahM cs h j k)) nb
theorem rank_G (S : PS) (n nb : Nat) (rp sh y : Int32) (hM : MR S n nb rp sh) (hB : ∀ b, b < nb → ∃ q : Nat, q < n ∧ S.2.1 7 b = nI q) {L : Nat} {xs : Nat → Int32} {K : Nat} {P : Nat → PR → PS → Prop} {G : KT} (hG : Cl 95 L xs K P G)
    (hsm : ∀ k, k < nb → ¬ hs rp k → nI (rkN (csX S.2.1 nb rp sh) (S.2.1 9) rp nb k) = y → (∀ j, j < k → ¬ (¬ hs rp j ∧ nI (rkN (csX S.2.1 nb rp sh) (S.2.1 9) rp nb j) = y)) → P 0 (.inl (some (nI k))) S)
    (hno : (∀ j, j < nb → ¬ (¬ hs rp j ∧ nI (rkN (csX S.2.1 nb rp sh) (S.2.1 9) rp nb j) = y)) → P 0 (.inl (some (-1))) S) : G 0 0 (lv_args 0 [.ref 12, .int y]) [] S := by
  obtain ⟨⟨h0, h1n, hn, hb0, hnb⟩, hW, -, -, -, hrp⟩ := id hM
  have main : ∀ k, k ≤ nb → (∀ j, j < k → ¬ (¬ hs rp j ∧ nI (rkN (csX S.2.1 nb rp sh) (S.2.1 9) rp nb j) = y)) → G 0 2 [(2, .int (nI k)), (0, .ref 12), (1, .int y)] [] S := by
    refine loop_up (fun k hk ih => ?_) ?_
    · intro hlt
      have inner : ∀ j, j ≤ nb → G 0 15 [(4, .int (nI j)), (3, .int (nI (cnt (fun j => decide (¬ hs rp j ∧ j ≠ k ∧ ahM (csX S.2.1 nb rp sh) (S.2.1 9) j k)) j))), (2, .int (nI k)), (0, .ref 12), (1, .int y)] [] S := by
        refine loop_up (fun j hj ihj => ?_) ?_
        · have hno2 : ¬ (¬ hs rp j ∧ j ≠ k ∧ ahM (csX S.2.1 nb rp sh) (S.2.1 9) j k) → nI (cnt (fun j => decide (¬ hs rp j ∧ j ≠ k ∧ ahM (csX S.2.1 nb rp sh) (S.2.1 9) j k)) (j + 1)) = nI (cnt (fun j => decide (¬ hs rp j ∧ j ≠ k ∧ ahM (csX S.2.1 nb rp sh) (S.2.1 9) j k)) j) + nI 0 := by
            intro z
            rw [cnt_f (by simpa using z), nI_add, Nat.add_zero]
          repeat (refine hG.1 _ _ _ _ _ _ rfl ?_)
          rw [hb0]
          refine And.intro (fun h => ?_) (fun h => ?_)
          · exact absurd h (nI_ge (by omega) (by omega))
          · repeat (refine hG.1 _ _ _ _ _ _ rfl ?_)
            refine And.intro (vp_in_nI ((show j < 20 by omega)) (by decide)) ?_; rw [nI_clamp (Nat.lt_trans ((show j < 20 by omega)) (by decide))]
            rw [hrp j (by omega)]
            repeat (refine hG.1 _ _ _ _ _ _ rfl ?_)
            refine And.intro (fun h1 => ?_) (fun h1 => ?_)
            · rw [bi_n] at h1
              rw [hno2 (fun z => z.1 h1)] at ihj
              repeat (first | (refine wk hG ?_ (ihj); (repeat (refine And.intro (by first | with_reducible rfl | with_reducible exact nI_add _ _ | with_reducible exact pk_m1 _ | rfl) ?_)); exact trivial) | refine hG.1 _ _ _ _ _ _ rfl ?_)
            · rw [bi_0] at h1
              repeat (refine hG.1 _ _ _ _ _ _ rfl ?_)
              refine And.intro (fun h2 => ?_) (fun h2 => ?_)
              · have h2 := (nI_eq (by omega) (by omega)).mp h2
                rw [hno2 (fun z => z.2.1 h2)] at ihj
                repeat (first | (refine wk hG ?_ (ihj); (repeat (refine And.intro (by first | with_reducible rfl | with_reducible exact nI_add _ _ | with_reducible exact pk_m1 _ | rfl) ?_)); exact trivial) | refine hG.1 _ _ _ _ _ _ rfl ?_)
              · have h2 : j ≠ k := fun z => h2 (by rw [z])
                repeat (refine hG.1 _ _ _ _ _ _ rfl ?_)
                refine And.intro rfl (cx (m_isAhead S j k n nb rp sh hM hj hk hB) rfl ?_)
                repeat (refine hG.1 _ _ _ _ _ _ rfl ?_)
                refine And.intro (fun h3 => ?_) (fun h3 => ?_)
                · rw [bi_0] at h3
                  rw [hno2 (fun z => h3 z.2.2)] at ihj
                  repeat (first | (refine wk hG ?_ (ihj); (repeat (refine And.intro (by first | with_reducible rfl | with_reducible exact nI_add _ _ | with_reducible exact pk_m1 _ | rfl) ?_)); exact trivial) | refine hG.1 _ _ _ _ _ _ rfl ?_)
                · rw [bi_n] at h3
                  have e : nI (cnt (fun j => decide (¬ hs rp j ∧ j ≠ k ∧ ahM (csX S.2.1 nb rp sh) (S.2.1 9) j k)) (j + 1)) = nI (cnt (fun j => decide (¬ hs rp j ∧ j ≠ k ∧ ahM (csX S.2.1 nb rp sh) (S.2.1 9) j k)) j) + nI 1 := by
                    rw [cnt_t (decide_eq_true (p := ¬ hs rp j ∧ j ≠ k ∧ ahM (csX S.2.1 nb rp sh) (S.2.1 9) j k) ⟨h1, h2, h3⟩), nI_add]
                  rw [e] at ihj
                  repeat (first | (refine wk hG ?_ (ihj); (repeat (refine And.intro (by first | with_reducible rfl | with_reducible exact nI_add _ _ | with_reducible exact pk_m1 _ | rfl) ?_)); exact trivial) | refine hG.1 _ _ _ _ _ _ rfl ?_)
        · repeat (refine hG.1 _ _ _ _ _ _ rfl ?_)
          rw [hb0]
          refine And.intro (fun h => ?_) (fun h => ?_)
          · repeat (refine hG.1 _ _ _ _ _ _ rfl ?_)
            refine And.intro (vp_in_nI ((show k < 20 by omega)) (by decide)) ?_; rw [nI_clamp (Nat.lt_trans ((show k < 20 by omega)) (by decide))]
            rw [hrp k (by omega)]
            repeat (refine hG.1 _ _ _ _ _ _ rfl ?_)
            refine And.intro (fun h1 => ?_) (fun h1 => ?_)
            · rw [bi_n] at h1
              have g := ih (fun j hj => by
                rcases Nat.lt_or_ge j k with z | z
                · exact hlt j z
                · have : j = k := by omega
                  subst this
                  exact fun w => w.1 h1)
              repeat (first | (refine wk hG ?_ (g); (repeat (refine And.intro (by first | with_reducible rfl | with_reducible exact nI_add _ _ | with_reducible exact pk_m1 _ | rfl) ?_)); exact trivial) | refine hG.1 _ _ _ _ _ _ rfl ?_)
            · rw [bi_0] at h1
              repeat (refine hG.1 _ _ _ _ _ _ rfl ?_)
              refine And.intro (fun h2 => ?_) (fun h2 => ?_)
              · have g := ih (fun j hj => by
                  rcases Nat.lt_or_ge j k with z | z
                  · exact hlt j z
                  · have : j = k := by omega
                    subst this
                    exact fun w => h2 w.2)
                repeat (first | (refine wk hG ?_ (g); (repeat (refine And.intro (by first | with_reducible rfl | with_reducible exact nI_add _ _ | with_reducible exact pk_m1 _ | rfl) ?_)); exact trivial) | refine hG.1 _ _ _ _ _ _ rfl ?_)
              · repeat (refine hG.1 _ _ _ _ _ _ rfl ?_)
                exact And.intro rfl (hsm k hk h1 h2 hlt)
          · exact absurd (nI_le (Nat.le_refl _) (by omega)) h
      repeat (refine hG.1 _ _ _ _ _ _ rfl ?_)
      rw [hb0]
      refine And.intro (fun h => ?_) (fun h => ?_)
      · exact absurd h (nI_ge (by omega) (by omega))
      · have h0 := inner 0 (Nat.zero_le _); simp only [cnt] at h0; repeat (first | (refine wk hG ?_ (h0); (repeat (refine And.intro (by first | with_reducible rfl | with_reducible exact nI_add _ _ | with_reducible exact pk_m1 _ | rfl) ?_)); exact trivial) | refine hG.1 _ _ _ _ _ _ rfl ?_)
    · intro hlt
      repeat (refine hG.1 _ _ _ _ _ _ rfl ?_)
      rw [hb0]
      refine And.intro (fun h => ?_) (fun h => ?_)
      · repeat (refine hG.1 _ _ _ _ _ _ rfl ?_)
        exact And.intro rfl (hno hlt)
      · exact absurd (nI_le (Nat.le_refl _) (by omega)) h
  have g := main 0 (Nat.zero_le _) (fun j hj => absurd hj (Nat.not_lt_zero _))
  repeat (first | (refine wk hG ?_ (g); (repeat (refine And.intro (by first | with_reducible rfl | with_reducible exact nI_add _ _ | with_reducible exact pk_m1 _ | rfl) ?_)); exact trivial) | refine hG.1 _ _ _ _ _ _ rfl ?_)
theorem m_rank_t (S : PS) (k n nb : Nat) (rp sh y : Int32) (hM : MR S n nb rp sh) (hB : ∀ b, b < nb → ∃ q : Nat, q < n ∧ S.2.1 7 b = nI q) (hk : k < nb) (hr : ¬ hs rp k) (hy : nI (rkN (csX S.2.1 nb rp sh) (S.2.1 9) rp nb k) = y) (hu : ∀ j, j < nb → ¬ hs rp j → nI (rkN (csX S.2.1 nb rp sh) (S.2.1 9) rp nb j) = y → j = k) : Run 0 95 [.ref 12, .int y] S (.inl (some (nI k))) S := by
  refine run_of (by decide +kernel) rfl (fun L xs G hG => ?_)
  refine rank_G S n nb rp sh y hM hB hG (fun k' hk' hr' hy' _ => ?_) (fun h => absurd ⟨hr, hy⟩ (h k hk))
  rw [hu k' hk' hr' hy']
  exact And.intro rfl rfl
theorem m_rank_f (S : PS) (n nb : Nat) (rp sh y : Int32) (hM : MR S n nb rp sh) (hB : ∀ b, b < nb → ∃ q : Nat, q < n ∧ S.2.1 7 b = nI q) (hu : ∀ j, j < nb → ¬ hs rp j → ¬ nI (rkN (csX S.2.1 nb rp sh) (S.2.1 9) rp nb j) = y) : Run 0 95 [.ref 12, .int y] S (.inl (some (-1))) S := by
  refine run_of (by decide +kernel) rfl (fun L xs G hG => ?_)
  exact rank_G S n nb rp sh y hM hB hG (fun k' hk' hr' hy' _ => absurd hy' (hu k' hk' hr')) (fun _ => And.intro rfl rfl)
