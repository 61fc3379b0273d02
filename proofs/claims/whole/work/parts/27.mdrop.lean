theorem hs_shr0 {x : Int32} {k : Nat} (hk : k < 32) : (x >>> (nI k &&& 31)) &&& nI 1 = 0 ↔ ¬ hs x k := by
  have key : ∀ y : Int32, y &&& nI 1 = 0 ∨ y &&& nI 1 = nI 1 := by
    intro y
    cases hb : bt y 0
    · left
      apply bt_ext
      intro j hj
      rw [bt_and]
      have h0 : bt 0 j = false := bt_0 j
      rw [h0]
      rcases Nat.eq_zero_or_pos j with z | z
      · subst z; rw [hb]; rfl
      · have h1 : bt (nI 1) j = false := by
          have key : ∀ j : Nat, j < 32 → 0 < j → bt (nI 1) j = false := by decide +kernel
          exact key j hj z
        rw [h1, Bool.and_false]
    · right
      apply bt_ext
      intro j hj
      rw [bt_and]
      rcases Nat.eq_zero_or_pos j with z | z
      · subst z; rw [hb]; rfl
      · have h1 : bt (nI 1) j = false := by
          have key : ∀ j : Nat, j < 32 → 0 < j → bt (nI 1) j = false := by decide +kernel
          exact key j hj z
        rw [h1, Bool.and_false]
  rw [← hs_shr hk]
  rcases key (x >>> (nI k &&& 31)) with h | h
  · rw [h]
    exact ⟨fun _ => by decide, fun _ => rfl⟩
  · rw [h]
    exact ⟨fun z => absurd z (by decide), fun z => absurd rfl z⟩
abbrev st18 (S : PS) (f : Nat → Int32) : PS := (S.1, va_up S.2.1 18 f, S.2.2)
theorem st18_up (S : PS) (f g : Nat → Int32) : st18 (st18 S f) g = st18 S g := by
  unfold st18
  rw [va_up_up]
theorem MR_18 {S : PS} {n nb : Nat} {rp sh sh' : Int32} {f : Nat → Int32} (hM : MR S n nb rp sh) (hf : ∀ k, k < 16 → f k = bi (hs sh' k)) (h0 : ¬ hs sh' 0) : MR (st18 S f) n nb rp sh' :=
  ⟨hM.1, hM.2.1, hM.2.2.1, hM.2.2.2.1, ⟨hf, h0⟩, hM.2.2.2.2.2⟩
theorem bi_or {p q r : Prop} [Decidable p] [Decidable q] [Decidable r] (h : p ↔ (q ∨ r)) (hr : ¬ r) : bi p = bi q := by
  unfold bi
  simp only [h, hr, or_false]
theorem hs_m1shl {k j : Nat} (hk : k < 16) (hj : j < 32) : hs ((-1 : Int32) <<< ((nI k + nI 1) &&& 31)) j ↔ k < j := by
  have key : ∀ k : Nat, k < 16 → ∀ j : Nat, j < 32 → (bt ((-1 : Int32) <<< ((nI k + nI 1) &&& 31)) j = true ↔ k < j) := by decide +kernel
  rw [hs_bt hj]
  exact key k hk j hj
theorem pst_congr {c d : Nat → Bool} {s : Int32} : ∀ (k p : Nat), (∀ j, 0 < j → j ≤ k → c j = d j) → pst c s k p = pst d s k p
  | 0, _, _ => rfl
  | k + 1, p, h => by
    rw [pst, pst, h (k + 1) (by omega) (Nat.le_refl _), pst_congr k (p + 1) (fun j h1 h2 => h j h1 (by omega)), pst_congr k p (fun j h1 h2 => h j h1 (by omega))]
theorem pst_skip {c : Nat → Bool} {s : Int32} {r p : Nat} : ∀ (k : Nat), r ≤ k → (∀ j, r < j → j ≤ k → c j = false) → pst c s k p = pst c s r p
  | 0, h, _ => by rw [show r = 0 by omega]
  | k + 1, h, hc => by
    rcases Nat.lt_or_ge r (k + 1) with z | z
    · rw [pst, if_neg (by rw [hc (k + 1) z (Nat.le_refl _)]; decide)]
      exact pst_skip k (by omega) (fun j h1 h2 => hc j h1 (by omega))
    · rw [show r = k + 1 by omega]
theorem pst_next {c : Nat → Bool} {i : Nat} (hi : i < 90) : ∀ (k p r : Nat), p ≤ i → k < 90 → pst c (nI i) k p = some r → pst c (nI (i + 1)) k p = pst c (nI (i + 1)) (r - 1) (i + 1)
  | 0, p, r, _, _, h => by cases h
  | k + 1, p, r, hp, hk, h => by
    rw [pst] at h
    by_cases hc : c (k + 1) = true
    · rw [if_pos hc] at h
      by_cases hpi : p = i
      · subst hpi
        rw [if_pos rfl] at h
        cases h
        rw [pst, if_pos hc, if_neg (fun z => by have := (nI_eq (by omega) (by omega)).mp z; omega)]
        rfl
      · rw [if_neg (fun z => hpi ((nI_eq (by omega) (by omega)).mp z))] at h
        rw [pst, if_pos hc, if_neg (fun z => by have := (nI_eq (by omega) (by omega)).mp z; omega)]
        exact pst_next hi k (p + 1) r (by omega) (by omega) h
    · rw [if_neg hc] at h
      rw [pst, if_neg hc]
      exact pst_next hi k p r hp (by omega) h
theorem pst_shift {c : Nat → Bool} {i : Nat} : ∀ (k p : Nat), p ≤ i → i < 90 → k < 90 → pst c (nI i) k p = pst c (nI (i - p)) k 0
  | k, 0, _, _, _ => rfl
  | 0, p + 1, _, _, _ => rfl
  | k + 1, p + 1, hp, hi, hk => by
    have gen : ∀ (k a b d : Nat), a + b < 90 → d + k < 90 → (pst c (nI (a + b)) k (d + b) = pst c (nI a) k d) := by
      intro k
      induction k with
      | zero => intros; rfl
      | succ k ih =>
        intro a b d h1 h2
        have e1 : nI (d + b) = nI (a + b) ↔ nI d = nI a := by
          by_cases hb : d + b < 2 ^ 31
          · rw [nI_eq hb (by omega), nI_eq (by omega) (by omega)]
            omega
          · constructor
            · intro z
              rw [← nI_add, ← nI_add] at z
              grind
            · intro z
              rw [← nI_add, ← nI_add, z]
        rw [pst, pst]
        have e2 := ih a b (d + 1) h1 (by omega)
        rw [show d + 1 + b = d + b + 1 by omega] at e2
        rw [e2, ih a b d h1 (by omega)]
        by_cases z : nI d = nI a
        · rw [if_pos (e1.mpr z), if_pos z]
        · rw [if_neg (fun w => z (e1.mp w)), if_neg z]
    have := gen (k + 1) (i - (p + 1)) (p + 1) 0 (by omega) (by omega)
    rw [show i - (p + 1) + (p + 1) = i by omega, Nat.zero_add] at this
    exact this
