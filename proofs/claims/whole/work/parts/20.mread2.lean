theorem hs_shr {x : Int32} {k : Nat} (hk : k < 32) : (x >>> (nI k &&& 31)) &&& nI 1 = nI 1 ↔ hs x k := by
  have e : (x >>> (nI k &&& 31)).toBitVec = x.toBitVec.sshiftRight k := by
    have key : ∀ k : Nat, k < 32 → ((nI k &&& 31).toBitVec.smod 32#32).toNat = k := by decide +kernel
    rw [Int32.toBitVec_shiftRight]
    show x.toBitVec.sshiftRight ((nI k &&& 31).toBitVec.smod 32#32).toNat = _
    rw [key k hk]
  have h0 : bt ((x >>> (nI k &&& 31)) &&& nI 1) 0 = bt x k := by
    rw [bt_and]
    have h1 : bt (nI 1) 0 = true := by decide
    rw [h1, Bool.and_true]
    unfold bt
    rw [e, BitVec.getLsbD_sshiftRight]
    simp [hk]
  constructor
  · intro h
    rw [hs_bt hk, ← h0, h]
    decide
  · intro h
    rw [hs_bt hk, ← h0] at h
    apply bt_ext
    intro j hj
    rcases Nat.eq_zero_or_pos j with z | z
    · subst z
      rw [h]
      decide
    · have h1 : bt (nI 1) j = false := by
        have key : ∀ j : Nat, j < 32 → 0 < j → bt (nI 1) j = false := by decide +kernel
        exact key j hj z
      rw [bt_and, h1, Bool.and_false]
theorem m_supplied (S : PS) (k n : Nat) (sh : Int32) (hW : Wy S.2.1 n) (hn : n ≤ 16) (hk : k < n) (hsh : ∀ k, k < 16 → S.2.1 18 k = bi (hs sh k)) (hs0 : ¬ hs sh 0) : Run 0 58 [.ref 12, .int (nI k)] S (.inl (some (bi (S.2.1 1 k &&& sh = 0)))) S := by
  refine run_of (by decide +kernel) rfl (fun L xs G hG => ?_)
  have z0 : S.2.1 1 0 &&& sh = 0 := by
    rw [ands_0]
    rintro j hj ⟨h1, h2⟩
    rw [hW.1, hs_one (by omega) hj] at h1
    subst h1
    exact hs0 h2
  have main0 : ∀ j, j < n → bi (S.2.1 1 k &&& sh = 0) = nI 0 → G 0 4 [(3, .int (nI j)), (2, .int (nI 0)), (0, .ref 12)] [] S := by
    intro j
    induction j using Nat.strongRecOn with
    | _ j ih =>
      intro hj he
      repeat (refine hG.1 _ _ _ _ _ _ rfl ?_)
      refine And.intro (fun h1 => ?_) (fun h1 => ?_)
      · repeat (refine hG.1 _ _ _ _ _ _ rfl ?_)
        refine And.intro rfl (And.intro ?_ rfl)
        rw [he]
      · have h0 : 0 < j := by
          rcases Nat.eq_zero_or_pos j with z | z
          · subst z; exact absurd (by decide) h1
          · exact z
        obtain ⟨q, hq, e13, e1⟩ := hW.2 j h0 hj
        repeat (refine hG.1 _ _ _ _ _ _ rfl ?_)
        refine And.intro (fun h2 => ?_) (fun h2 => ?_)
        · repeat (refine hG.1 _ _ _ _ _ _ rfl ?_)
          refine And.intro (vp_in_nI ((show j < 16 by omega)) (by decide)) ?_; rw [nI_clamp (Nat.lt_trans ((show j < 16 by omega)) (by decide))]
          rw [e13]
          have g := ih q hq (by omega) he
          repeat (first | (refine wk hG ?_ (g); (repeat (refine And.intro (by first | with_reducible rfl | with_reducible exact nI_add _ _ | with_reducible exact pk_m1 _ | rfl) ?_)); exact trivial) | refine hG.1 _ _ _ _ _ _ rfl ?_)
        · exact absurd (by decide) h2
  have main1 : ∀ j, j < n → bi (S.2.1 1 k &&& sh = 0) = bi (S.2.1 1 j &&& sh = 0) → G 0 4 [(3, .int (nI j)), (2, .int (nI 1)), (0, .ref 12)] [] S := by
    intro j
    induction j using Nat.strongRecOn with
    | _ j ih =>
      intro hj he
      repeat (refine hG.1 _ _ _ _ _ _ rfl ?_)
      refine And.intro (fun h1 => ?_) (fun h1 => ?_)
      · have h0 : j = 0 := by
          rcases Nat.eq_zero_or_pos j with z | z
          · exact z
          · exact absurd h1 (nI_nle z (by omega))
        subst h0
        repeat (refine hG.1 _ _ _ _ _ _ rfl ?_)
        refine And.intro rfl (And.intro ?_ rfl)
        rw [he, bi_t z0]
      · have h0 : 0 < j := by
          rcases Nat.eq_zero_or_pos j with z | z
          · subst z; exact absurd (by decide) h1
          · exact z
        obtain ⟨q, hq, e13, e1⟩ := hW.2 j h0 hj
        have hstep : S.2.1 1 j &&& sh = 0 ↔ (S.2.1 1 q &&& sh = 0 ∧ ¬ hs sh j) := by
          rw [ands_0, ands_0]
          constructor
          · intro h
            refine ⟨fun i hi hz => h i hi ⟨?_, hz.2⟩, fun hz => h j (by omega) ⟨wy_self hW hj hn, hz⟩⟩
            rw [e1, hs_or hi]
            exact Or.inl hz.1
          · rintro ⟨h, hz⟩ i hi ⟨h3, h4⟩
            rw [e1, hs_or hi, hs_one (by omega) hi] at h3
            rcases h3 with h3 | h3
            · exact h i hi ⟨h3, h4⟩
            · subst h3; exact hz h4
        repeat (refine hG.1 _ _ _ _ _ _ rfl ?_)
        refine And.intro (fun h2 => ?_) (fun h2 => ?_)
        · exact absurd h2 (by decide)
        · repeat (refine hG.1 _ _ _ _ _ _ rfl ?_)
          refine And.intro (vp_in_nI ((show j < 16 by omega)) (by decide)) ?_; rw [nI_clamp (Nat.lt_trans ((show j < 16 by omega)) (by decide))]
          rw [hsh j (by omega)]
          repeat (refine hG.1 _ _ _ _ _ _ rfl ?_)
          refine And.intro (fun h3 => ?_) (fun h3 => ?_)
          · rw [bi_n] at h3
            have g := main0 q (by omega) (by rw [he, bi_f (fun z => (hstep.mp z).2 h3)])
            repeat (refine hG.1 _ _ _ _ _ _ rfl ?_)
            refine And.intro (vp_in_nI ((show j < 16 by omega)) (by decide)) ?_; rw [nI_clamp (Nat.lt_trans ((show j < 16 by omega)) (by decide))]
            rw [e13]
            repeat (first | (refine wk hG ?_ (g); (repeat (refine And.intro (by first | with_reducible rfl | with_reducible exact nI_add _ _ | with_reducible exact pk_m1 _ | rfl) ?_)); exact trivial) | refine hG.1 _ _ _ _ _ _ rfl ?_)
          · rw [bi_0] at h3
            have g := ih q hq (by omega) (by rw [he]; unfold bi; simp only [hstep, h3, not_false_eq_true, and_true])
            repeat (refine hG.1 _ _ _ _ _ _ rfl ?_)
            refine And.intro (vp_in_nI ((show j < 16 by omega)) (by decide)) ?_; rw [nI_clamp (Nat.lt_trans ((show j < 16 by omega)) (by decide))]
            rw [e13]
            repeat (first | (refine wk hG ?_ (g); (repeat (refine And.intro (by first | with_reducible rfl | with_reducible exact nI_add _ _ | with_reducible exact pk_m1 _ | rfl) ?_)); exact trivial) | refine hG.1 _ _ _ _ _ _ rfl ?_)
  have g := main1 k hk rfl
  repeat (first | (refine wk hG ?_ (g); (repeat (refine And.intro (by first | with_reducible rfl | with_reducible exact nI_add _ _ | with_reducible exact pk_m1 _ | rfl) ?_)); exact trivial) | refine hG.1 _ _ _ _ _ _ rfl ?_)
theorem m_pressureAt (S : PS) (k n nb : Nat) (rp sh : Int32) (hM : MR S n nb rp sh) (hk : k < n) : Run 0 59 [.ref 12, .int (nI k)] S (.inl (some (prs S.2.1 k))) S := by
  obtain ⟨⟨h0, h1n, hn, -, -⟩, hW, ⟨-, -, hpr, -, -⟩, -⟩ := hM
  refine run_of (by decide +kernel) rfl (fun L xs G hG => ?_)
  have main : ∀ j, j < n → prs S.2.1 j = prs S.2.1 k → G 0 2 [(2, .int (nI j)), (0, .ref 12)] [] S := by
    intro j
    induction j using Nat.strongRecOn with
    | _ j ih =>
      intro hj he
      repeat (refine hG.1 _ _ _ _ _ _ rfl ?_)
      refine And.intro (fun h1 => ?_) (fun h1 => ?_)
      · have hj0 : j = 0 := by
          rcases Nat.eq_zero_or_pos j with z | z
          · exact z
          · exact absurd h1 (nI_nle z (by omega))
        subst hj0
        repeat (refine hG.1 _ _ _ _ _ _ rfl ?_)
        refine And.intro (fun h2 => ?_) (fun h2 => ?_)
        · repeat (refine hG.1 _ _ _ _ _ _ rfl ?_)
          refine And.intro rfl (And.intro ?_ rfl)
          rw [← he]
          rfl
        · exact absurd h1 h2
      · have hj0 : 0 < j := by
          rcases Nat.eq_zero_or_pos j with z | z
          · subst z; exact absurd (by decide) h1
          · exact z
        obtain ⟨q, hq, e13, e1⟩ := hW.2 j hj0 hj
        repeat (refine hG.1 _ _ _ _ _ _ rfl ?_)
        refine And.intro (vp_in_nI ((show j < 16 by omega)) (by decide)) ?_; rw [nI_clamp (Nat.lt_trans ((show j < 16 by omega)) (by decide))]
        rw [hpr j hj0 (by omega)]
        repeat (refine hG.1 _ _ _ _ _ _ rfl ?_)
        refine And.intro (fun h2 => ?_) (fun h2 => ?_)
        · repeat (refine hG.1 _ _ _ _ _ _ rfl ?_)
          refine And.intro (fun h3 => ?_) (fun h3 => ?_)
          · exact absurd h3 h1
          · repeat (refine hG.1 _ _ _ _ _ _ rfl ?_)
            refine And.intro (vp_in_nI ((show j < 16 by omega)) (by decide)) ?_; rw [nI_clamp (Nat.lt_trans ((show j < 16 by omega)) (by decide))]
            repeat (refine hG.1 _ _ _ _ _ _ rfl ?_)
            refine And.intro rfl (And.intro ?_ rfl)
            rw [← he, prs_set hW hj0 hj hn h2, hpr j hj0 (by omega)]
        · repeat (refine hG.1 _ _ _ _ _ _ rfl ?_)
          refine And.intro (vp_in_nI ((show j < 16 by omega)) (by decide)) ?_; rw [nI_clamp (Nat.lt_trans ((show j < 16 by omega)) (by decide))]
          rw [e13]
          have g := ih q hq (by omega) (by rw [← he, prs_up hW hj0 hj hn h2 hq e1])
          repeat (first | (refine wk hG ?_ (g); (repeat (refine And.intro (by first | with_reducible rfl | with_reducible exact nI_add _ _ | with_reducible exact pk_m1 _ | rfl) ?_)); exact trivial) | refine hG.1 _ _ _ _ _ _ rfl ?_)
  have g := main k hk rfl
  repeat (first | (refine wk hG ?_ (g); (repeat (refine And.intro (by first | with_reducible rfl | with_reducible exact nI_add _ _ | with_reducible exact pk_m1 _ | rfl) ?_)); exact trivial) | refine hG.1 _ _ _ _ _ _ rfl ?_)
theorem m_leaks (S : PS) (k n nb : Nat) (rp sh : Int32) (hM : MR S n nb rp sh) (hk : k < n) : Run 0 60 [.ref 12, .int (nI k)] S (.inl (some (lkgX S.2.1 nb rp k))) S := by
  obtain ⟨⟨h0, h1n, hn, hb, hnb⟩, hW, ⟨-, h15, hpr, hfa, hpo⟩, ⟨h22, h23, -, -, -⟩, -, hrp⟩ := id hM
  obtain ⟨v, hv, ev⟩ := prL_ok (w := S.2.1 1 k) hpo k (by omega)
  have ev2 : prs S.2.1 k = nI v := ev
  have hd : nI v / nI 10 = nI (v / 10) := pk_div (by omega) (by omega) (by omega)
  have h10 : ¬ nI 10 = 0 := by decide
  have hres : amtL S.2.1 rp k nb * facV v / nI 1000 = lkgX S.2.1 nb rp k := by
    unfold lkgX
    simp only [fac, ev2]
    rw [nI_clamp (by omega)]
  refine run_of (by decide +kernel) rfl (fun L xs G hG => ?_)
  have main : ∀ j, j ≤ nb → G 0 9 [(3, .int (nI j)), (2, .int (amtL S.2.1 rp k j)), (0, .ref 12), (1, .int (nI k))] [] S := by
    refine loop_up (fun j hj ih => ?_) ?_
    · repeat (refine hG.1 _ _ _ _ _ _ rfl ?_)
      rw [hb]
      refine And.intro (fun h => ?_) (fun h => ?_)
      · exact absurd h (nI_ge (by omega) (by omega))
      · repeat (refine hG.1 _ _ _ _ _ _ rfl ?_)
        refine And.intro (vp_in_nI ((show j < 20 by omega)) (by decide)) ?_; rw [nI_clamp (Nat.lt_trans ((show j < 20 by omega)) (by decide))]
        rw [h22]
        repeat (refine hG.1 _ _ _ _ _ _ rfl ?_)
        refine And.intro (fun h1 => ?_) (fun h1 => ?_)
        · have e : amtL S.2.1 rp k (j + 1) = amtL S.2.1 rp k j + nI 0 := by
            rw [amtL, if_neg (fun z => h1 z.1), nI_0, Int32.add_zero]
          rw [e] at ih
          repeat (first | (refine wk hG ?_ (ih); (repeat (refine And.intro (by first | with_reducible rfl | with_reducible exact nI_add _ _ | with_reducible exact pk_m1 _ | rfl) ?_)); exact trivial) | refine hG.1 _ _ _ _ _ _ rfl ?_)
        · repeat (refine hG.1 _ _ _ _ _ _ rfl ?_)
          refine And.intro (vp_in_nI ((show j < 20 by omega)) (by decide)) ?_; rw [nI_clamp (Nat.lt_trans ((show j < 20 by omega)) (by decide))]
          rw [hrp j (by omega)]
          repeat (refine hG.1 _ _ _ _ _ _ rfl ?_)
          refine And.intro (fun h2 => ?_) (fun h2 => ?_)
          · rw [bi_n] at h2
            have e : amtL S.2.1 rp k (j + 1) = amtL S.2.1 rp k j + nI 0 := by
              rw [amtL, if_neg (fun z => z.2 h2), nI_0, Int32.add_zero]
            rw [e] at ih
            repeat (first | (refine wk hG ?_ (ih); (repeat (refine And.intro (by first | with_reducible rfl | with_reducible exact nI_add _ _ | with_reducible exact pk_m1 _ | rfl) ?_)); exact trivial) | refine hG.1 _ _ _ _ _ _ rfl ?_)
          · rw [bi_0] at h2
            repeat (refine hG.1 _ _ _ _ _ _ rfl ?_)
            refine And.intro (vp_in_nI ((show j < 20 by omega)) (by decide)) ?_; rw [nI_clamp (Nat.lt_trans ((show j < 20 by omega)) (by decide))]
            rw [h23]
            have e : amtL S.2.1 rp k (j + 1) = amtL S.2.1 rp k j + S.2.1 8 j := by
              rw [amtL, if_pos ⟨h1, h2⟩]
            rw [e] at ih
            repeat (first | (refine wk hG ?_ (ih); (repeat (refine And.intro (by first | with_reducible rfl | with_reducible exact nI_add _ _ | with_reducible exact pk_m1 _ | rfl) ?_)); exact trivial) | refine hG.1 _ _ _ _ _ _ rfl ?_)
    · repeat (refine hG.1 _ _ _ _ _ _ rfl ?_)
      rw [hb]
      refine And.intro (fun h => ?_) (fun h => ?_)
      · repeat (refine hG.1 _ _ _ _ _ _ rfl ?_)
        refine And.intro rfl (cx (m_pressureAt S k n nb rp sh hM hk) rfl ?_)
        repeat (refine hG.1 _ _ _ _ _ _ rfl ?_)
        rw [ev2]
        refine And.intro (h10) ?_
        rw [hd]
        repeat (refine hG.1 _ _ _ _ _ _ rfl ?_)
        refine And.intro (vp_in_nI ((show v / 10 < 11 by omega)) (by decide)) ?_; rw [nI_clamp (Nat.lt_trans ((show v / 10 < 11 by omega)) (by decide))]
        rw [hfa _ (by omega)]
        repeat (refine hG.1 _ _ _ _ _ _ rfl ?_)
        refine And.intro (fun h3 => ?_) (fun h3 => ?_)
        · have hlt : v / 10 < 10 := by
            have : ¬ v / 10 = 10 := fun z => h3 (by rw [z])
            omega
          repeat (refine hG.1 _ _ _ _ _ _ rfl ?_)
          rw [nI_add]
          refine And.intro (vp_in_nI ((show v / 10 + 1 < 11 by omega)) (by decide)) ?_; rw [nI_clamp (Nat.lt_trans ((show v / 10 + 1 < 11 by omega)) (by decide))]
          rw [hfa _ (by omega)]
          repeat (refine hG.1 _ _ _ _ _ _ rfl ?_)
          refine And.intro (vp_in_nI ((show v / 10 < 11 by omega)) (by decide)) ?_; rw [nI_clamp (Nat.lt_trans ((show v / 10 < 11 by omega)) (by decide))]
          rw [hfa _ (by omega)]
          repeat (refine hG.1 _ _ _ _ _ _ rfl ?_)
          refine And.intro (h10) ?_
          rw [hd]
          repeat (refine hG.1 _ _ _ _ _ _ rfl ?_)
          refine And.intro (h10) ?_
          repeat (refine hG.1 _ _ _ _ _ _ rfl ?_)
          refine And.intro ((by decide : ¬ nI 1000 = 0)) ?_
          repeat (refine hG.1 _ _ _ _ _ _ rfl ?_)
          refine And.intro rfl (And.intro ?_ rfl)
          rw [← hres, facV, if_pos hlt]
        · have hge : v / 10 = 10 := (nI_eq (by omega) (by omega)).mp h3
          repeat (refine hG.1 _ _ _ _ _ _ rfl ?_)
          refine And.intro ((by decide : ¬ nI 1000 = 0)) ?_
          repeat (refine hG.1 _ _ _ _ _ _ rfl ?_)
          refine And.intro rfl (And.intro ?_ rfl)
          rw [← hres, facV, if_neg (by omega), hge, nI_0, Int32.add_zero]
      · exact absurd (nI_le (Nat.le_refl _) (by omega)) h
  repeat (refine hG.1 _ _ _ _ _ _ rfl ?_)
  refine And.intro (vp_in_nI ((show k < 16 by omega)) (by decide)) ?_; rw [nI_clamp (Nat.lt_trans ((show k < 16 by omega)) (by decide))]
  rw [h15]
  have h0 := main 0 (Nat.zero_le _); simp only [amtL] at h0; repeat (first | (refine wk hG ?_ (h0); (repeat (refine And.intro (by first | with_reducible rfl | with_reducible exact nI_add _ _ | with_reducible exact pk_m1 _ | rfl) ?_)); exact trivial) | refine hG.1 _ _ _ _ _ _ rfl ?_)
theorem m_taken (S : PS) (k n nb : Nat) (rp sh : Int32) (hM : MR S n nb rp sh) (hk : k < n) : Run 0 61 [.ref 12, .int (nI k)] S (.inl (some (tknX S.2.1 nb rp sh k))) S := by
  obtain ⟨⟨h0, h1n, hn, hb, hnb⟩, hW, ⟨h14, -, -, -, -⟩, -, ⟨hsh, hs0⟩, -⟩ := id hM
  refine run_of (by decide +kernel) rfl (fun L xs G hG => ?_)
  repeat (refine hG.1 _ _ _ _ _ _ rfl ?_)
  refine And.intro rfl (cx (m_supplied S k n sh hW hn hk hsh hs0) rfl ?_)
  repeat (refine hG.1 _ _ _ _ _ _ rfl ?_)
  refine And.intro (fun h => ?_) (fun h => ?_)
  · rw [bi_0] at h
    repeat (refine hG.1 _ _ _ _ _ _ rfl ?_)
    refine And.intro rfl (And.intro ?_ rfl)
    rw [tknX, if_neg h]
  · rw [bi_n] at h
    repeat (refine hG.1 _ _ _ _ _ _ rfl ?_)
    refine And.intro (vp_in_nI ((show k < 16 by omega)) (by decide)) ?_; rw [nI_clamp (Nat.lt_trans ((show k < 16 by omega)) (by decide))]
    rw [h14]
    repeat (refine hG.1 _ _ _ _ _ _ rfl ?_)
    refine And.intro rfl (cx (m_leaks S k n nb rp sh hM hk) rfl ?_)
    repeat (refine hG.1 _ _ _ _ _ _ rfl ?_)
    refine And.intro rfl (And.intro ?_ rfl)
    rw [tknX, if_pos h]
theorem smL_0 {c : Nat → Bool} {f : Nat → Int32} : ∀ {k : Nat}, (∀ j, j < k → c j = false) → smL c f k = nI 0
  | 0, _ => rfl
  | k + 1, h => by rw [smL_f (by rw [h k (by omega)]; decide), smL_0 (fun j hj => h j (by omega))]
theorem m_flowBelow (S : PS) (t n nb : Nat) (rp sh : Int32) (hM : MR S n nb rp sh) (ht : t < n) : Run 0 62 [.ref 12, .int (nI t)] S (.inl (some (flX S.2.1 n nb rp sh (nI t)))) S := by
  obtain ⟨⟨h0, h1n, hn, hb, hnb⟩, hW, -⟩ := id hM
  refine run_of (by decide +kernel) rfl (fun L xs G hG => ?_)
  have main : ∀ d, d ≤ n - t → G 0 4 [(3, .int (nI (t + d))), (2, .int (smL (fun k => decide (hsv (S.2.1 1 k) (nI t))) (tknX S.2.1 nb rp sh) (t + d))), (0, .ref 12), (1, .int (nI t))] [] S := by
    refine loop_up (fun d hd ih => ?_) ?_
    · repeat (refine hG.1 _ _ _ _ _ _ rfl ?_)
      rw [h0]
      refine And.intro (fun h => ?_) (fun h => ?_)
      · exact absurd h (nI_ge (by omega) (by omega))
      · repeat (refine hG.1 _ _ _ _ _ _ rfl ?_)
        refine And.intro rfl (cx (m_isBelow S (t + d) t n hW hn (by omega) (by omega)) rfl ?_)
        repeat (refine hG.1 _ _ _ _ _ _ rfl ?_)
        refine And.intro (fun h1 => ?_) (fun h1 => ?_)
        · rw [bi_0] at h1
          have e : smL (fun k => decide (hsv (S.2.1 1 k) (nI t))) (tknX S.2.1 nb rp sh) (t + (d + 1)) = smL (fun k => decide (hsv (S.2.1 1 k) (nI t))) (tknX S.2.1 nb rp sh) (t + d) + nI 0 := by
            rw [← Nat.add_assoc, smL_f (by simpa using h1), nI_0, Int32.add_zero]
          rw [e, ← Nat.add_assoc] at ih
          repeat (first | (refine wk hG ?_ (ih); (repeat (refine And.intro (by first | with_reducible rfl | with_reducible exact nI_add _ _ | with_reducible exact pk_m1 _ | rfl) ?_)); exact trivial) | refine hG.1 _ _ _ _ _ _ rfl ?_)
        · rw [bi_n] at h1
          repeat (refine hG.1 _ _ _ _ _ _ rfl ?_)
          refine And.intro rfl (cx (m_taken S (t + d) n nb rp sh hM (by omega)) rfl ?_)
          have e : smL (fun k => decide (hsv (S.2.1 1 k) (nI t))) (tknX S.2.1 nb rp sh) (t + (d + 1)) = smL (fun k => decide (hsv (S.2.1 1 k) (nI t))) (tknX S.2.1 nb rp sh) (t + d) + tknX S.2.1 nb rp sh (t + d) := by
            rw [← Nat.add_assoc, smL_t (by simpa using h1)]
          rw [e, ← Nat.add_assoc] at ih
          repeat (first | (refine wk hG ?_ (ih); (repeat (refine And.intro (by first | with_reducible rfl | with_reducible exact nI_add _ _ | with_reducible exact pk_m1 _ | rfl) ?_)); exact trivial) | refine hG.1 _ _ _ _ _ _ rfl ?_)
    · rw [show t + (n - t) = n by omega]
      repeat (refine hG.1 _ _ _ _ _ _ rfl ?_)
      rw [h0]
      refine And.intro (fun h => ?_) (fun h => ?_)
      · repeat (refine hG.1 _ _ _ _ _ _ rfl ?_)
        exact And.intro rfl (And.intro rfl rfl)
      · exact absurd (nI_le (Nat.le_refl _) (by omega)) h
  have g := main 0 (Nat.zero_le _)
  rw [Nat.add_zero, smL_0 (fun j hj => by
    simp only [decide_eq_false_iff_not]
    intro z
    have := wy_le hW j (by omega) hn t (by omega) z
    omega)] at g
  repeat (first | (refine wk hG ?_ (g); (repeat (refine And.intro (by first | with_reducible rfl | with_reducible exact nI_add _ _ | with_reducible exact pk_m1 _ | rfl) ?_)); exact trivial) | refine hG.1 _ _ _ _ _ _ rfl ?_)
