theorem dN (x : Int32) {n : Nat} (hn : n ≤ 100) : (∃ j, j < n ∧ x = nI j) ∨ noN x (nI n) := by
  rcases pk_ix x (n := n) (by omega) with h | h | ⟨j, h1, h2⟩
  · exact Or.inr (Or.inl h)
  · exact Or.inr (Or.inr (by rw [Int32.not_lt]; exact h))
  · exact Or.inl ⟨j, h1, h2⟩
theorem dP (x : Int32) {n : Nat} (hn : n ≤ 100) : (∃ j, 0 < j ∧ j < n ∧ x = nI j) ∨ (x ≤ 0 ∨ ¬ x < nI n) := by
  rcases dN x hn with ⟨j, h1, rfl⟩ | h
  · rcases Nat.eq_zero_or_pos j with z | z
    · subst z
      exact Or.inr (Or.inl (by decide))
    · exact Or.inl ⟨j, z, h1, rfl⟩
  · rcases h with z | z
    · exact Or.inr (Or.inl (Int32.le_of_lt z))
    · exact Or.inr (Or.inr z)
theorem dR (x lo hi : Int32) : okR x lo hi ∨ noR x lo hi := by
  by_cases h1 : x < lo
  · exact Or.inr (Or.inl h1)
  · by_cases h2 : x ≤ hi
    · exact Or.inl ⟨h1, h2⟩
    · exact Or.inr (Or.inr h2)
theorem set_cnt {c : Nat → Bool} {n : Nat} (hn : n ≤ 16) : bcI (stL c n) = nI (cnt c n) := by
  rw [bc_cnt (fun k h1 h2 => by rw [hs_stL h2 n (by omega)]; intro z; omega)]
  congr 1
  have e : ∀ k, k < 16 → decide (hs (stL c n) k) = (decide (k < n) && c k) := by
    intro k hk
    have := hs_stL (c := c) (j := k) (by omega) n (by omega)
    cases hc : c k
    · rw [hc] at this
      simp [this]
    · rw [hc] at this
      simp [this]
  rw [cnt_congr (d := fun k => decide (k < n) && c k) (fun k hk => e k hk)]
  have h1 : cnt (fun k => decide (k < n) && c k) 16 = cnt (fun k => decide (k < n) && c k) n := cnt_ext hn (fun j h2 h3 => by
    have : ¬ j < n := by omega
    simp [this])
  rw [h1]
  apply cnt_congr
  intro j hj
  simp [hj]
theorem tb_eq {c : Nat → Bool} {f : Nat → Int32} {n : Nat} (hn : n ≤ 16) : smL (fun k => decide (hs (stL c n) k)) f n = smL c f n := by
  apply smL_congr
  intro j hj
  have h := hs_stL (c := c) (j := j) (by omega) n (by omega)
  refine ⟨?_, fun _ => rfl⟩
  cases hc : c j
  · rw [hc] at h
    simpa using h
  · rw [hc] at h
    have : hs (stL c n) j := h.mpr ⟨hj, rfl⟩
    simpa using this
theorem loss_eq {A : Nat → Nat → Int32} {nb : Nat} {rp sh : Int32} {c : Nat → Bool} : ∀ n, smL c (tknX A nb rp sh) n - smL (fun k => c k && decide (A 1 k &&& sh = 0)) (A 2) n = smL (fun k => c k && decide (A 1 k &&& sh = 0)) (lkgX A nb rp) n
  | 0 => by simp only [smL]; decide
  | n + 1 => by
    have ih := loss_eq (A := A) (nb := nb) (rp := rp) (sh := sh) (c := c) n
    by_cases hc : c n = true
    · by_cases hs0 : A 1 n &&& sh = 0
      · have hb : (fun k => c k && decide (A 1 k &&& sh = 0)) n = true := by simp [hc, hs0]
        rw [smL_t hc, smL_t hb, smL_t hb, ← ih, tknX, if_pos hs0]
        grind
      · have hb : ¬ (fun k => c k && decide (A 1 k &&& sh = 0)) n = true := by simp [hs0]
        rw [smL_t hc, smL_f hb, smL_f hb, ← ih, tknX, if_neg hs0, nI_0]
        grind
    · have hb : ¬ (fun k => c k && decide (A 1 k &&& sh = 0)) n = true := by simp [hc]
      rw [smL_f hc, smL_f hb, smL_f hb, ih]
theorem sbL_congr {c d : Nat → Bool} {f : Nat → Int32} {z : Int32} : ∀ {k : Nat}, (∀ j, j < k → c j = d j) → sbL c f z k = sbL d f z k
  | 0, _ => rfl
  | k + 1, h => by rw [sbL, sbL, sbL_congr (k := k) (fun j hj => h j (by omega)), h k (by omega)]
theorem hs_out {A : Nat → Nat → Int32} {n a k : Nat} (hn : n ≤ 16) (hk : k < 32) : hs (outX A n a) k ↔ k < n ∧ A 1 k &&& A 6 a = one k := by
  unfold outX
  rw [hs_stL hk n (by omega)]
  simp
theorem flow_eq {A : Nat → Nat → Int32} {n nb a q : Nat} {rp sh : Int32} (hn : n ≤ 16) (e5 : A 5 a = nI q) : afX A n nb rp sh a = sbL (fun k => decide (A 1 k &&& A 6 a = one k)) (fun k => flX A n nb rp sh (nI k)) (flX A n nb rp sh (nI q)) n := by
  unfold afX
  rw [e5]
  apply sbL_congr
  intro j hj
  have := hs_out (A := A) (a := a) hn (show j < 32 by omega)
  by_cases h : A 1 j &&& A 6 a = one j
  · rw [decide_eq_true h, decide_eq_true (this.mpr ⟨hj, h⟩)]
  · rw [decide_eq_false h, decide_eq_false (fun z => h (this.mp z).2)]
theorem bt_m2 {k : Nat} (hk : k < 32) : bt (Int32.ofInt (.negSucc 1)) k = decide (k ≠ 0) := by
  have key : ∀ k : Nat, k < 32 → bt (Int32.ofInt (.negSucc 1)) k = decide (k ≠ 0) := by decide +kernel
  exact key k hk
theorem can_iff {A : Nat → Nat → Int32} {mt : Int32} {n a q : Nat} (hn : n ≤ 16) (hq : q < n) (e5 : A 5 a = nI q) (hex : ¬ A 1 0 &&& A 6 a = one 0) : misX A mt n a = 0 ↔ CanF A mt n a q := by
  unfold misX CanF
  rw [ands_0, e5]
  have hj : ∀ k, k < 32 → (hs ((outX A n a ||| (nI 1 <<< (nI q &&& 31))) &&& Int32.ofInt (.negSucc 1)) k ↔ ((k < n ∧ A 1 k &&& A 6 a = one k) ∨ q = k) ∧ k ≠ 0) := by
    intro k hk
    rw [hs_and hk, hs_or hk, hs_out hn hk, hs_one (by omega) hk, hs_bt (x := Int32.ofInt (.negSucc 1)) hk, bt_m2 hk, decide_eq_true_eq]
  constructor
  · intro h
    refine ⟨?_, fun k h0 hk hx => ?_⟩
    · by_cases hq0 : q = 0
      · exact Or.inl hq0
      · have := h q (by omega)
        rw [hj q (by omega), hs_not (by omega)] at this
        by_cases hm : hs mt q
        · exact Or.inr hm
        · exact absurd ⟨⟨Or.inr rfl, hq0⟩, hm⟩ this
    · have := h k (by omega)
      rw [hj k (by omega), hs_not (by omega)] at this
      by_cases hm : hs mt k
      · exact hm
      · exact absurd ⟨⟨Or.inl ⟨hk, hx⟩, by omega⟩, hm⟩ this
  · rintro ⟨h1, h2⟩ k hk
    rw [hj k hk, hs_not hk]
    rintro ⟨⟨z1, z2⟩, z3⟩
    rcases z1 with ⟨w1, w2⟩ | w
    · exact z3 (h2 k (by omega) w1 w2)
    · subst w
      rcases h1 with w | w
      · exact z2 w
      · exact z3 w
theorem steps_eq {A : Nat → Nat → Int32} {sh : Int32} {n a q : Nat} (hn : n ≤ 16) (h1n : 1 ≤ n) (hq : q < n) (e5 : A 5 a = nI q) (hc0 : ¬ (inA A a 0 = true ∧ q ≠ 0)) : bcI (ptsX A sh n a) = nI (cnt (fun j => decide (hs (ptsX A sh n a) (j + 1))) (n - 1)) := by
  have hp : ∀ k, k < 32 → (hs (ptsX A sh n a) k ↔ (k < n ∧ inA A a k = true) ∧ q ≠ k ∧ ¬ hs sh k) := fun k hk => hs_pts hn (by omega) e5 hk
  rw [bc_cnt (fun k h1 h2 => by rw [hp k h2]; rintro ⟨⟨z, -⟩, -⟩; omega)]
  congr 1
  have e : cnt (fun k => decide (hs (ptsX A sh n a) k)) 16 = cnt (fun k => decide (hs (ptsX A sh n a) k)) n := cnt_ext hn (fun j h1 h2 => decide_eq_false (by rw [hp j (by omega)]; rintro ⟨⟨z, -⟩, -⟩; omega))
  rw [e]
  have h0 : ¬ hs (ptsX A sh n a) 0 := by
    rw [hp 0 (by omega)]
    rintro ⟨⟨-, z⟩, w, -⟩
    exact hc0 ⟨z, w⟩
  have gen : ∀ (c : Nat → Bool) (m : Nat), c 0 = false → cnt c (m + 1) = cnt (fun j => c (j + 1)) m := by
    intro c m hc
    induction m with
    | zero => rw [cnt_f (by rw [hc]; decide)]; rfl
    | succ m ih => rw [cnt, ih, cnt]
  obtain ⟨m, rfl⟩ : ∃ m, n = m + 1 := ⟨n - 1, by omega⟩
  exact gen _ m (decide_eq_false h0)
