abbrev bt (x : Int32) (k : Nat) : Bool := x.toBitVec.getLsbD k
abbrev one (k : Nat) : Int32 := nI 1 <<< (nI k &&& 31)
theorem one_bv : ∀ k : Nat, k < 32 → (one k).toBitVec = BitVec.twoPow 32 k := by decide +kernel
theorem bt_one {j k : Nat} (hj : j < 32) : bt (one j) k = (decide (k < 32) && decide (j = k)) := by
  unfold bt
  rw [one_bv j hj, BitVec.getLsbD_twoPow]
  by_cases h : j = k
  · subst h; simp [hj]
  · simp [h]
theorem bt_and (x y : Int32) (k : Nat) : bt (x &&& y) k = (bt x k && bt y k) := by
  simp [bt, Int32.toBitVec_and]
theorem bt_or (x y : Int32) (k : Nat) : bt (x ||| y) k = (bt x k || bt y k) := by
  simp [bt, Int32.toBitVec_or]
theorem bt_xor (x y : Int32) (k : Nat) : bt (x ^^^ y) k = (bt x k ^^ bt y k) := by
  simp [bt, Int32.toBitVec_xor]
theorem bt_m1 {k : Nat} (hk : k < 32) : bt (-1) k = true := by
  have key : ∀ k : Nat, k < 32 → bt (-1) k = true := by decide +kernel
  exact key k hk
theorem bt_0 (k : Nat) : bt (nI 0) k = false := by
  have : (nI 0).toBitVec = 0#32 := by decide
  simp [bt, this]
theorem bt_not (x : Int32) {k : Nat} (hk : k < 32) : bt (x ^^^ -1) k = !bt x k := by
  rw [bt_xor, bt_m1 hk]
  simp
theorem bt_ext {x y : Int32} (h : ∀ k, k < 32 → bt x k = bt y k) : x = y := by
  apply Int32.toBitVec_inj.mp
  apply BitVec.eq_of_getLsbD_eq
  intro i hi
  exact h i hi
theorem bt_ge (x : Int32) {k : Nat} (hk : 32 ≤ k) : bt x k = false := BitVec.getLsbD_of_ge _ _ hk
theorem and_0 {x y : Int32} : x &&& y = 0 ↔ ∀ k, k < 32 → ¬ (bt x k = true ∧ bt y k = true) := by
  constructor
  · intro h k hk hz
    have h1 := bt_and x y k
    rw [h, hz.1, hz.2] at h1
    have h2 := bt_0 k
    rw [nI_0] at h2
    rw [h2] at h1
    cases h1
  · intro h
    apply bt_ext
    intro k hk
    rw [bt_and]
    have h2 := bt_0 k
    rw [nI_0] at h2
    rw [h2]
    have h3 := h k hk
    cases h4 : bt x k <;> cases h5 : bt y k <;> simp_all
theorem hs_bt {x : Int32} {k : Nat} (hk : k < 32) : hs x k ↔ bt x k = true := by
  have h : hs x k ↔ ¬ x &&& one k = 0 := Iff.rfl
  rw [h, and_0]
  constructor
  · intro h1
    cases hb : bt x k with
    | true => rfl
    | false =>
      exfalso
      apply h1
      intro j hj hz
      rw [bt_one hk] at hz
      simp only [Bool.and_eq_true, decide_eq_true_eq] at hz
      rw [← hz.2.2, hb] at hz
      cases hz.1
  · intro h1 h2
    exact h2 k hk ⟨h1, by rw [bt_one hk]; simp [hk]⟩
theorem hs_and {x y : Int32} {k : Nat} (hk : k < 32) : hs (x &&& y) k ↔ hs x k ∧ hs y k := by
  rw [hs_bt hk, hs_bt hk, hs_bt hk, bt_and, Bool.and_eq_true]
theorem hs_or {x y : Int32} {k : Nat} (hk : k < 32) : hs (x ||| y) k ↔ hs x k ∨ hs y k := by
  rw [hs_bt hk, hs_bt hk, hs_bt hk, bt_or, Bool.or_eq_true]
theorem hs_not {x : Int32} {k : Nat} (hk : k < 32) : hs (x ^^^ -1) k ↔ ¬ hs x k := by
  rw [hs_bt hk, hs_bt hk, bt_not _ hk]
  simp
theorem hs_one {j k : Nat} (hj : j < 32) (hk : k < 32) : hs (one j) k ↔ j = k := by
  rw [hs_bt hk, bt_one hj]
  simp [hk]
theorem hs_xone {x : Int32} {j k : Nat} (hj : j < 32) (hk : k < 32) : hs (x ^^^ one j) k ↔ (if j = k then ¬ hs x k else hs x k) := by
  rw [hs_bt hk, hs_bt hk, bt_xor, bt_one hj]
  split
  · rename_i h; subst h; simp [hk]
  · rename_i h; simp [h]
theorem hs_0 {k : Nat} (hk : k < 32) : ¬ hs (nI 0) k := by
  rw [hs_bt hk, bt_0]
  simp
theorem ands_0 {x y : Int32} : x &&& y = 0 ↔ ∀ k, k < 32 → ¬ (hs x k ∧ hs y k) := by
  rw [and_0]
  constructor
  · intro h k hk
    rw [hs_bt hk, hs_bt hk]
    exact h k hk
  · intro h k hk
    have := h k hk
    rw [hs_bt hk, hs_bt hk] at this
    exact this
theorem hs_ext {x y : Int32} (h : ∀ k, k < 32 → (hs x k ↔ hs y k)) : x = y := by
  apply bt_ext
  intro k hk
  have h1 := h k hk
  rw [hs_bt hk, hs_bt hk] at h1
  cases h2 : bt x k <;> cases h3 : bt y k <;> simp_all
def stL (c : Nat → Bool) : Nat → Int32
  | 0 => nI 0
  | k + 1 => if c k = true then stL c k ||| one k else stL c k
theorem stL_t {c : Nat → Bool} {k : Nat} (h : c k = true) : stL c (k + 1) = stL c k ||| one k := by rw [stL, if_pos h]
theorem stL_f {c : Nat → Bool} {k : Nat} (h : ¬ c k = true) : stL c (k + 1) = stL c k := by rw [stL, if_neg h]
theorem hs_stL {c : Nat → Bool} {j : Nat} (hj : j < 32) : ∀ k, k ≤ 32 → (hs (stL c k) j ↔ j < k ∧ c j = true)
  | 0, _ => ⟨fun z => absurd z (hs_0 hj), fun z => absurd z.1 (Nat.not_lt_zero _)⟩
  | k + 1, hk => by
    have ih := hs_stL (c := c) hj k (by omega)
    by_cases hc : c k = true
    · rw [stL_t hc, hs_or hj, ih, hs_one (by omega) hj]
      constructor
      · rintro (⟨z, y⟩ | z)
        · exact ⟨by omega, y⟩
        · subst z; exact ⟨by omega, hc⟩
      · rintro ⟨z, y⟩
        rcases Nat.lt_or_ge j k with w | w
        · exact Or.inl ⟨w, y⟩
        · exact Or.inr (by omega)
    · rw [stL_f hc, ih]
      constructor
      · rintro ⟨z, y⟩; exact ⟨by omega, y⟩
      · rintro ⟨z, y⟩
        rcases Nat.lt_or_ge j k with w | w
        · exact ⟨w, y⟩
        · have : j = k := by omega
          subst this
          exact absurd y hc
theorem stL_congr {c d : Nat → Bool} : ∀ {k : Nat}, (∀ j, j < k → c j = d j) → stL c k = stL d k
  | 0, _ => rfl
  | k + 1, h => by rw [stL, stL, stL_congr (k := k) (fun j hj => h j (by omega)), h k (by omega)]
theorem smL_congr {c d : Nat → Bool} {f g : Nat → Int32} : ∀ {k : Nat}, (∀ j, j < k → c j = d j ∧ (c j = true → f j = g j)) → smL c f k = smL d g k
  | 0, _ => rfl
  | k + 1, h => by
    have ih := smL_congr (c := c) (d := d) (f := f) (g := g) (k := k) (fun j hj => h j (by omega))
    have hk := h k (by omega)
    by_cases hc : c k = true
    · rw [smL_t hc, smL_t (by rw [← hk.1]; exact hc), ih, hk.2 hc]
    · rw [smL_f hc, smL_f (by rw [← hk.1]; exact hc), ih]
