theorem m_areaFlow_0 (S : PS) (x : Int32) (n na : Nat) (hn : S.1 12 0 = nI n) (ha : S.1 12 8 = nI na) (hna : na ≤ 8) (h : noN x (nI na)) : Run 0 80 [.ref 12, .int x] S (.inl (some (nI 0))) (sThr S (nI 1)) := by
  refine run_of (by decide +kernel) rfl (fun L xs G hG => ?_)
  have tail : G 0 87 [(3, .int (nI 0)), (2, .int (nI 0)), (0, .ref 12), (1, .int x)] [] S := by
    repeat (refine hG.1 _ _ _ _ _ _ rfl ?_)
    refine And.intro (fun h => by first | exact absurd h (by decide) | exact False.elim (h (by decide))) (fun _ => ?_)
    repeat (refine hG.1 _ _ _ _ _ _ rfl ?_)
    refine And.intro rfl (cx (m_fails_t S (nI 1) (by decide)) rfl ?_)
    repeat (refine hG.1 _ _ _ _ _ _ rfl ?_)
    refine And.intro (fun h => by first | exact absurd h (by decide) | exact False.elim (h (by decide))) (fun _ => ?_)
    repeat (refine hG.1 _ _ _ _ _ _ rfl ?_)
    exact And.intro rfl (And.intro rfl rfl)
  repeat (refine hG.1 _ _ _ _ _ _ rfl ?_)
  refine And.intro rfl (cx (m_isArea_f S _ na ha (by omega) h) rfl ?_)
  repeat (refine hG.1 _ _ _ _ _ _ rfl ?_)
  refine And.intro (fun _ => ?_) (fun h => by first | exact absurd h (by decide) | exact False.elim (h (by decide)))
  repeat (refine hG.1 _ _ _ _ _ _ rfl ?_)
  refine And.intro (fun h1 => ?_) (fun h1 => ?_)
  · repeat (first | (refine wk hG ?_ (tail); (repeat (refine And.intro (by first | with_reducible rfl | with_reducible exact nI_add _ _ | with_reducible exact pk_m1 _ | rfl) ?_)); exact trivial) | refine hG.1 _ _ _ _ _ _ rfl ?_)
  · repeat (refine hG.1 _ _ _ _ _ _ rfl ?_)
    refine And.intro (fun _ => ?_) (fun h => by first | exact absurd h (by decide) | exact False.elim (h (by decide)))
    repeat (first | (refine wk hG ?_ (tail); (repeat (refine And.intro (by first | with_reducible rfl | with_reducible exact nI_add _ _ | with_reducible exact pk_m1 _ | rfl) ?_)); exact trivial) | refine hG.1 _ _ _ _ _ _ rfl ?_)
def CanF (A : Nat → Nat → Int32) (mt : Int32) (n a q : Nat) : Prop := (q = 0 ∨ hs mt q) ∧ ∀ k, 0 < k → k < n → A 1 k &&& A 6 a = one k → hs mt k
theorem areaFlow_G (S : PS) (a q n nb na : Nat) (rp sh mt : Int32) (hM : MR S n nb rp sh) (ha8 : S.1 12 8 = nI na) (hna : na ≤ 8) (ha : a < na) (hA : ArOk S.2.1 n a q) (hmt : ∀ k, k < 16 → S.2.1 17 k = bi (hs mt k)) {L : Nat} {xs : Nat → Int32} {K : Nat} {P : Nat → PR → PS → Prop} {G : KT} (hG : Cl 80 L xs K P G)
    (t1 : CanF S.2.1 mt n a q → G 0 87 [(3, .int (nI 1)), (2, .int (nI 1)), (0, .ref 12), (1, .int (nI a))] [] S) (t0 : ¬ CanF S.2.1 mt n a q → G 0 87 [(3, .int (nI 0)), (2, .int (nI 1)), (0, .ref 12), (1, .int (nI a))] [] S) : G 0 0 (lv_args 0 [.ref 12, .int (nI a)]) [] S := by
  obtain ⟨⟨h0, h1n, hn, -, -⟩, hW, -, ⟨-, -, -, h20, -⟩, -⟩ := id hM
  have hq := hA.1
  have e5 := hA.2.1
  have mainF : ¬ CanF S.2.1 mt n a q → ∀ k, k ≤ n → G 0 42 [(4, .int (nI k)), (3, .int (nI 0)), (2, .int (nI 1)), (0, .ref 12), (1, .int (nI a))] [] S := by
    intro hc k hk
    have g := t0 hc
    repeat (refine hG.1 _ _ _ _ _ _ rfl ?_)
    rw [h0]
    refine And.intro (fun h1 => ?_) (fun h1 => ?_)
    · repeat (first | (refine wk hG ?_ (g); (repeat (refine And.intro (by first | with_reducible rfl | with_reducible exact nI_add _ _ | with_reducible exact pk_m1 _ | rfl) ?_)); exact trivial) | refine hG.1 _ _ _ _ _ _ rfl ?_)
    · repeat (refine hG.1 _ _ _ _ _ _ rfl ?_)
      refine And.intro (fun _ => ?_) (fun h => by first | exact absurd h (by decide) | exact False.elim (h (by decide)))
      repeat (first | (refine wk hG ?_ (g); (repeat (refine And.intro (by first | with_reducible rfl | with_reducible exact nI_add _ _ | with_reducible exact pk_m1 _ | rfl) ?_)); exact trivial) | refine hG.1 _ _ _ _ _ _ rfl ?_)
  have mainT : (q = 0 ∨ hs mt q) → ∀ d, d ≤ n - 1 → (∀ k, 0 < k → k < d + 1 → S.2.1 1 k &&& S.2.1 6 a = one k → hs mt k) → G 0 42 [(4, .int (nI (d + 1))), (3, .int (nI 1)), (2, .int (nI 1)), (0, .ref 12), (1, .int (nI a))] [] S := by
    intro hq0
    refine loop_up (fun d hd ih => ?_) ?_
    · intro hall
      repeat (refine hG.1 _ _ _ _ _ _ rfl ?_)
      rw [h0]
      refine And.intro (fun h1 => ?_) (fun h1 => ?_)
      · exact absurd h1 (nI_ge (by omega) (by omega))
      · repeat (refine hG.1 _ _ _ _ _ _ rfl ?_)
        refine And.intro (fun h => by first | exact absurd h (by decide) | exact False.elim (h (by decide))) (fun _ => ?_)
        repeat (refine hG.1 _ _ _ _ _ _ rfl ?_)
        refine And.intro rfl (cx (m_counts S a (d + 1) q n nb rp sh hM (by omega) (by omega) (by omega) hA) rfl ?_)
        repeat (refine hG.1 _ _ _ _ _ _ rfl ?_)
        refine And.intro (fun h2 => ?_) (fun h2 => ?_)
        · rw [bi_0] at h2
          have g := ih (fun k h3 h4 h5 => by
            rcases Nat.lt_or_ge k (d + 1) with z | z
            · exact hall k h3 z h5
            · have : k = d + 1 := by omega
              subst this
              exact absurd h5 h2)
          repeat (first | (refine wk hG ?_ (g); (repeat (refine And.intro (by first | with_reducible rfl | with_reducible exact nI_add _ _ | with_reducible exact pk_m1 _ | rfl) ?_)); exact trivial) | refine hG.1 _ _ _ _ _ _ rfl ?_)
        · rw [bi_n] at h2
          repeat (refine hG.1 _ _ _ _ _ _ rfl ?_)
          refine And.intro (vp_in_nI ((show d + 1 < 16 by omega)) (by decide)) ?_; rw [nI_clamp (Nat.lt_trans ((show d + 1 < 16 by omega)) (by decide))]
          rw [hmt _ (by omega)]
          repeat (refine hG.1 _ _ _ _ _ _ rfl ?_)
          refine And.intro (fun h3 => ?_) (fun h3 => ?_)
          · rw [bi_0] at h3
            have g := mainF (fun z => h3 (z.2 (d + 1) (by omega) (by omega) h2)) (d + 1 + 1) (by omega)
            repeat (first | (refine wk hG ?_ (g); (repeat (refine And.intro (by first | with_reducible rfl | with_reducible exact nI_add _ _ | with_reducible exact pk_m1 _ | rfl) ?_)); exact trivial) | refine hG.1 _ _ _ _ _ _ rfl ?_)
          · rw [bi_n] at h3
            have g := ih (fun k h4 h5 h6 => by
              rcases Nat.lt_or_ge k (d + 1) with z | z
              · exact hall k h4 z h6
              · have : k = d + 1 := by omega
                subst this
                exact h3)
            repeat (first | (refine wk hG ?_ (g); (repeat (refine And.intro (by first | with_reducible rfl | with_reducible exact nI_add _ _ | with_reducible exact pk_m1 _ | rfl) ?_)); exact trivial) | refine hG.1 _ _ _ _ _ _ rfl ?_)
    · intro hall
      rw [show n - 1 + 1 = n by omega] at hall ⊢
      have g := t1 ⟨hq0, hall⟩
      repeat (refine hG.1 _ _ _ _ _ _ rfl ?_)
      rw [h0]
      refine And.intro (fun h1 => ?_) (fun h1 => ?_)
      · repeat (first | (refine wk hG ?_ (g); (repeat (refine And.intro (by first | with_reducible rfl | with_reducible exact nI_add _ _ | with_reducible exact pk_m1 _ | rfl) ?_)); exact trivial) | refine hG.1 _ _ _ _ _ _ rfl ?_)
      · exact absurd (nI_le (Nat.le_refl _) (by omega)) h1
  have g1 : (q = 0 ∨ hs mt q) → G 0 42 [(4, .int (nI 1)), (3, .int (nI 1)), (2, .int (nI 1)), (0, .ref 12), (1, .int (nI a))] [] S := fun h => mainT h 0 (Nat.zero_le _) (fun k h1 h2 => by omega)
  have g0 : ¬ (q = 0 ∨ hs mt q) → G 0 42 [(4, .int (nI 1)), (3, .int (nI 0)), (2, .int (nI 1)), (0, .ref 12), (1, .int (nI a))] [] S := fun h => mainF (fun z => h z.1) 1 (by omega)
  repeat (refine hG.1 _ _ _ _ _ _ rfl ?_)
  refine And.intro rfl (cx (m_isArea_t S _ na ha8 (by omega) ha) rfl ?_)
  repeat (refine hG.1 _ _ _ _ _ _ rfl ?_)
  refine And.intro (fun h => by first | exact absurd h (by decide) | exact False.elim (h (by decide))) (fun _ => ?_)
  repeat (refine hG.1 _ _ _ _ _ _ rfl ?_)
  refine And.intro (vp_in_nI ((show a < 8 by omega)) (by decide)) ?_; rw [nI_clamp (Nat.lt_trans ((show a < 8 by omega)) (by decide))]
  rw [h20, e5]
  repeat (refine hG.1 _ _ _ _ _ _ rfl ?_)
  refine And.intro (fun h1 => ?_) (fun h1 => ?_)
  · have hq0 : q = 0 := (nI_eq (by omega) (by omega)).mp h1
    have g := g1 (Or.inl hq0)
    repeat (first | (refine wk hG ?_ (g); (repeat (refine And.intro (by first | with_reducible rfl | with_reducible exact nI_add _ _ | with_reducible exact pk_m1 _ | rfl) ?_)); exact trivial) | refine hG.1 _ _ _ _ _ _ rfl ?_)
  · have hq0 : ¬ q = 0 := fun z => h1 (by rw [z]; rfl)
    repeat (refine hG.1 _ _ _ _ _ _ rfl ?_)
    refine And.intro (vp_in_nI ((show a < 8 by omega)) (by decide)) ?_; rw [nI_clamp (Nat.lt_trans ((show a < 8 by omega)) (by decide))]
    rw [h20, e5]
    repeat (refine hG.1 _ _ _ _ _ _ rfl ?_)
    refine And.intro (vp_in_nI ((show q < 16 by omega)) (by decide)) ?_; rw [nI_clamp (Nat.lt_trans ((show q < 16 by omega)) (by decide))]
    rw [hmt _ (by omega)]
    repeat (refine hG.1 _ _ _ _ _ _ rfl ?_)
    refine And.intro (fun h2 => ?_) (fun h2 => ?_)
    · rw [bi_0] at h2
      have g := g0 (fun z => z.elim hq0 h2)
      repeat (first | (refine wk hG ?_ (g); (repeat (refine And.intro (by first | with_reducible rfl | with_reducible exact nI_add _ _ | with_reducible exact pk_m1 _ | rfl) ?_)); exact trivial) | refine hG.1 _ _ _ _ _ _ rfl ?_)
    · rw [bi_n] at h2
      have g := g1 (Or.inr h2)
      repeat (first | (refine wk hG ?_ (g); (repeat (refine And.intro (by first | with_reducible rfl | with_reducible exact nI_add _ _ | with_reducible exact pk_m1 _ | rfl) ?_)); exact trivial) | refine hG.1 _ _ _ _ _ _ rfl ?_)
theorem m_areaFlow_1 (S : PS) (a q n nb na : Nat) (rp sh mt : Int32) (hM : MR S n nb rp sh) (ha8 : S.1 12 8 = nI na) (hna : na ≤ 8) (ha : a < na) (hA : ArOk S.2.1 n a q) (hmt : ∀ k, k < 16 → S.2.1 17 k = bi (hs mt k)) (hc : ¬ CanF S.2.1 mt n a q) : Run 0 80 [.ref 12, .int (nI a)] S (.inl (some (nI 0))) (sThr S (nI 2)) := by
  refine run_of (by decide +kernel) rfl (fun L xs G hG => ?_)
  refine areaFlow_G S a q n nb na rp sh mt hM ha8 hna ha hA hmt hG (fun z => absurd z hc) (fun _ => ?_)
  repeat (refine hG.1 _ _ _ _ _ _ rfl ?_)
  refine And.intro (fun _ => ?_) (fun h => by first | exact absurd h (by decide) | exact False.elim (h (by decide)))
  repeat (refine hG.1 _ _ _ _ _ _ rfl ?_)
  refine And.intro (fun _ => ?_) (fun h => by first | exact absurd h (by decide) | exact False.elim (h (by decide)))
  repeat (refine hG.1 _ _ _ _ _ _ rfl ?_)
  refine And.intro rfl (cx (m_fails_t S (nI 2) (by decide)) rfl ?_)
  repeat (refine hG.1 _ _ _ _ _ _ rfl ?_)
  refine And.intro (fun h => by first | exact absurd h (by decide) | exact False.elim (h (by decide))) (fun _ => ?_)
  repeat (refine hG.1 _ _ _ _ _ _ rfl ?_)
  exact And.intro rfl (And.intro rfl rfl)
theorem m_areaFlow (S : PS) (a q n nb na : Nat) (rp sh mt : Int32) (hM : MR S n nb rp sh) (ha8 : S.1 12 8 = nI na) (hna : na ≤ 8) (ha : a < na) (hA : ArOk S.2.1 n a q) (hmt : ∀ k, k < 16 → S.2.1 17 k = bi (hs mt k)) (hc : CanF S.2.1 mt n a q) : Run 0 80 [.ref 12, .int (nI a)] S (.inl (some (sbL (fun k => decide (S.2.1 1 k &&& S.2.1 6 a = one k)) (fun k => flX S.2.1 n nb rp sh (nI k)) (flX S.2.1 n nb rp sh (nI q)) n))) (sThr S (nI 0)) := by
  obtain ⟨⟨h0, h1n, hn, -, -⟩, hW, -, ⟨-, -, -, h20, -⟩, -⟩ := id hM
  have hq := hA.1
  have e5 := hA.2.1
  refine run_of (by decide +kernel) rfl (fun L xs G hG => ?_)
  have main : ∀ d, d ≤ n - 1 → G 0 128 [(5, .int (nI (d + 1))), (4, .int (sbL (fun k => decide (S.2.1 1 k &&& S.2.1 6 a = one k)) (fun k => flX S.2.1 n nb rp sh (nI k)) (flX S.2.1 n nb rp sh (nI q)) (d + 1))), (0, .ref 12), (1, .int (nI a))] [] (sThr S (nI 0)) := by
    refine loop_up (fun d hd ih => ?_) ?_
    · repeat (refine hG.1 _ _ _ _ _ _ rfl ?_)
      rw [show (sThr S (nI 0)).1 12 0 = nI n from h0]
      refine And.intro (fun h1 => ?_) (fun h1 => ?_)
      · exact absurd h1 (nI_ge (by omega) (by omega))
      · repeat (refine hG.1 _ _ _ _ _ _ rfl ?_)
        refine And.intro rfl (cx (m_counts (sThr S (nI 0)) a (d + 1) q n nb rp sh hM (by omega) (by omega) (by omega) hA) rfl ?_)
        repeat (refine hG.1 _ _ _ _ _ _ rfl ?_)
        refine And.intro (fun h2 => ?_) (fun h2 => ?_)
        · rw [bi_0] at h2
          have e : ∀ f z, sbL (fun k => decide (S.2.1 1 k &&& S.2.1 6 a = one k)) f z (d + 1 + 1) = sbL (fun k => decide (S.2.1 1 k &&& S.2.1 6 a = one k)) f z (d + 1) - nI 0 := by
            intro f z
            rw [sbL_f (by simpa using h2), nI_0, Int32.sub_zero]
          rw [e] at ih
          repeat (first | (refine wk hG ?_ (ih); (repeat (refine And.intro (by first | with_reducible rfl | with_reducible exact nI_add _ _ | with_reducible exact pk_m1 _ | rfl) ?_)); exact trivial) | refine hG.1 _ _ _ _ _ _ rfl ?_)
        · rw [bi_n] at h2
          repeat (refine hG.1 _ _ _ _ _ _ rfl ?_)
          refine And.intro rfl (cx (m_flowBelow (sThr S (nI 0)) (d + 1) n nb rp sh hM (by omega)) rfl ?_)
          rw [sbL_t (by simpa using h2)] at ih
          repeat (first | (refine wk hG ?_ (ih); (repeat (refine And.intro (by first | with_reducible rfl | with_reducible exact nI_add _ _ | with_reducible exact pk_m1 _ | rfl) ?_)); exact trivial) | refine hG.1 _ _ _ _ _ _ rfl ?_)
    · rw [show n - 1 + 1 = n by omega]
      repeat (refine hG.1 _ _ _ _ _ _ rfl ?_)
      rw [show (sThr S (nI 0)).1 12 0 = nI n from h0]
      refine And.intro (fun h1 => ?_) (fun h1 => ?_)
      · repeat (refine hG.1 _ _ _ _ _ _ rfl ?_)
        exact And.intro rfl (And.intro rfl rfl)
      · exact absurd (nI_le (Nat.le_refl _) (by omega)) h1
  refine areaFlow_G S a q n nb na rp sh mt hM ha8 hna ha hA hmt hG (fun _ => ?_) (fun z => absurd hc z)
  have g := main 0 (Nat.zero_le _)
  have e : ∀ f z, sbL (fun k => decide (S.2.1 1 k &&& S.2.1 6 a = one k)) f z (0 + 1) = z := by
    intro f z
    rw [sbL_f]
    · rfl
    · intro w
      have w2 : S.2.1 1 0 &&& S.2.1 6 a = one 0 := by simpa using w
      have h3 : hs (S.2.1 1 0 &&& S.2.1 6 a) 0 := by rw [w2]; exact (hs_one (by omega) (by omega)).mpr rfl
      have h4 := ar_gt hW hn hA (by omega) ((hs_and (by omega)).mp h3).2
      omega
  rw [e] at g
  repeat (refine hG.1 _ _ _ _ _ _ rfl ?_)
  refine And.intro (fun _ => ?_) (fun h => by first | exact absurd h (by decide) | exact False.elim (h (by decide)))
  repeat (refine hG.1 _ _ _ _ _ _ rfl ?_)
  refine And.intro (fun h => by first | exact absurd h (by decide) | exact False.elim (h (by decide))) (fun _ => ?_)
  repeat (refine hG.1 _ _ _ _ _ _ rfl ?_)
  refine And.intro rfl (cx (m_fails_f S) rfl ?_)
  repeat (refine hG.1 _ _ _ _ _ _ rfl ?_)
  refine And.intro (fun _ => ?_) (fun h => by first | exact absurd h (by decide) | exact False.elim (h (by decide)))
  repeat (refine hG.1 _ _ _ _ _ _ rfl ?_)
  refine And.intro (vp_in_nI ((show a < 8 by omega)) (by decide)) ?_; rw [nI_clamp (Nat.lt_trans ((show a < 8 by omega)) (by decide))]
  rw [show (sThr S (nI 0)).2.1 20 a = nI q by rw [← e5, ← h20]]
  repeat (refine hG.1 _ _ _ _ _ _ rfl ?_)
  refine And.intro rfl (cx (m_flowBelow (sThr S (nI 0)) q n nb rp sh hM hq) rfl ?_)
  repeat (first | (refine wk hG ?_ (g); (repeat (refine And.intro (by first | with_reducible rfl | with_reducible exact nI_add _ _ | with_reducible exact pk_m1 _ | rfl) ?_)); exact trivial) | refine hG.1 _ _ _ _ _ _ rfl ?_)
theorem pst_some {c : Nat → Bool} {i : Nat} (hi : i < 100) : ∀ (k p : Nat), p ≤ i → k < 100 → ((pst c (nI i) k p).isSome = true ↔ i < p + cnt (fun j => c (j + 1)) k)
  | 0, p, hp, _ => by
    rw [pst, cnt]
    simp
    omega
  | k + 1, p, hp, hk => by
    rw [pst, cnt]
    by_cases hc : c (k + 1) = true
    · rw [if_pos hc, if_pos hc]
      by_cases hpi : p = i
      · subst hpi
        rw [if_pos rfl]
        simp <;> omega
      · rw [if_neg (fun z => hpi ((nI_eq (by omega) (by omega)).mp z)), pst_some hi k (p + 1) (by omega) (by omega)]
        omega
    · rw [if_neg hc, if_neg hc, pst_some hi k p hp (by omega)]
theorem m_steps (S : PS) (a q n nb na : Nat) (rp sh : Int32) (hM : MR S n nb rp sh) (ha8 : S.1 12 8 = nI na) (hna : na ≤ 8) (ha : a < na) (hA : ArOk S.2.1 n a q) : Run 0 85 [.ref 12, .int (nI a)] S (.inl (some (nI (cnt (fun j => decide (hs (ptsX S.2.1 sh n a) (j + 1))) (n - 1))))) (sThr S (nI 0)) := by
  obtain ⟨⟨h0, h1n, hn, -, -⟩, hW, -⟩ := id hM
  obtain ⟨m, hm⟩ : ∃ m, m = cnt (fun j => decide (hs (ptsX S.2.1 sh n a) (j + 1))) (n - 1) := ⟨_, rfl⟩
  have hm16 : m ≤ 16 := by rw [hm]; have := cnt_le (c := fun j => decide (hs (ptsX S.2.1 sh n a) (j + 1))) (n - 1); omega
  rw [← hm]
  have key : ∀ i, i < 100 → ((pkX S.2.1 sh n a (nI i)).isSome = true ↔ i < m) := by
    intro i hi
    have := pst_some (c := fun k => decide (hs (ptsX S.2.1 sh n a) k)) hi (n - 1) 0 (Nat.zero_le _) (by omega)
    rw [Nat.zero_add] at this
    rw [hm]
    exact this
  refine run_of (by decide +kernel) rfl (fun L xs G hG => ?_)
  have main : ∀ i, i ≤ m → G 0 24 [(2, .int (nI i)), (0, .ref 12), (1, .int (nI a))] [] (sThr S (nI 0)) := by
    refine loop_up (fun i hi ih => ?_) ?_
    · have hs1 := (key i (by omega)).mpr hi
      obtain ⟨r, hr⟩ := Option.isSome_iff_exists.mp hs1
      have hr2 := pst_le _ _ hr
      have g2 := m_pipe (sThr S (nI 0)) a q n nb rp sh (nI i) hM (by omega) hA
      rw [show pkX (sThr S (nI 0)).2.1 sh n a (nI i) = some r from hr] at g2
      repeat (refine hG.1 _ _ _ _ _ _ rfl ?_)
      refine And.intro rfl (cx (g2) rfl ?_)
      repeat (refine hG.1 _ _ _ _ _ _ rfl ?_)
      refine And.intro (fun h1 => ?_) (fun h1 => ?_)
      · exfalso
        have z2 : nI r = -1 := h1
        have h4 : (nI r).toInt = r := nI_toInt (by omega)
        rw [z2] at h4
        have h5 : (-1 : Int32).toInt = -1 := by decide
        omega
      · repeat (first | (refine wk hG ?_ (ih); (repeat (refine And.intro (by first | with_reducible rfl | with_reducible exact nI_add _ _ | with_reducible exact pk_m1 _ | rfl) ?_)); exact trivial) | refine hG.1 _ _ _ _ _ _ rfl ?_)
    · have hs1 : pkX S.2.1 sh n a (nI m) = none := by
        cases h : pkX S.2.1 sh n a (nI m) with
        | none => rfl
        | some r =>
          have := (key m (by omega)).mp (by rw [h]; rfl)
          omega
      have g2 := m_pipe (sThr S (nI 0)) a q n nb rp sh (nI m) hM (by omega) hA
      rw [show pkX (sThr S (nI 0)).2.1 sh n a (nI m) = none from hs1] at g2
      repeat (refine hG.1 _ _ _ _ _ _ rfl ?_)
      refine And.intro rfl (cx (g2) rfl ?_)
      repeat (refine hG.1 _ _ _ _ _ _ rfl ?_)
      refine And.intro (fun h1 => ?_) (fun h1 => ?_)
      · repeat (refine hG.1 _ _ _ _ _ _ rfl ?_)
        exact And.intro rfl (And.intro rfl rfl)
      · exact absurd rfl h1
  have g := main 0 (Nat.zero_le _)
  repeat (refine hG.1 _ _ _ _ _ _ rfl ?_)
  refine And.intro rfl (cx (m_isArea_t S _ na ha8 (by omega) ha) rfl ?_)
  repeat (refine hG.1 _ _ _ _ _ _ rfl ?_)
  refine And.intro (fun h => by first | exact absurd h (by decide) | exact False.elim (h (by decide))) (fun _ => ?_)
  repeat (refine hG.1 _ _ _ _ _ _ rfl ?_)
  refine And.intro rfl (cx (m_fails_f S) rfl ?_)
  repeat (refine hG.1 _ _ _ _ _ _ rfl ?_)
  refine And.intro (fun _ => ?_) (fun h => by first | exact absurd h (by decide) | exact False.elim (h (by decide)))
  repeat (first | (refine wk hG ?_ (g); (repeat (refine And.intro (by first | with_reducible rfl | with_reducible exact nI_add _ _ | with_reducible exact pk_m1 _ | rfl) ?_)); exact trivial) | refine hG.1 _ _ _ _ _ _ rfl ?_)
