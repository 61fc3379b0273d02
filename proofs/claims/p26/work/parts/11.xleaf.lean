def bi (p : Prop) [Decidable p] : Int32 := if p then nI 1 else nI 0
theorem bi_t {p : Prop} [Decidable p] (h : p) : bi p = nI 1 := if_pos h
theorem bi_f {p : Prop} [Decidable p] (h : ¬ p) : bi p = nI 0 := if_neg h
theorem bi_0 {p : Prop} [Decidable p] : bi p = 0 ↔ ¬ p := by
  unfold bi
  split
  · rename_i h
    exact ⟨fun z => absurd z (by decide), fun z => absurd h z⟩
  · rename_i h
    exact ⟨fun _ => h, fun _ => rfl⟩
theorem bi_n {p : Prop} [Decidable p] : ¬ bi p = 0 ↔ p := by
  rw [bi_0]
  exact Decidable.not_not
theorem bi_nrw {p : Prop} [Decidable p] : narrow .boolean (.int (bi p)) = .int (bi p) := by
  unfold bi
  split <;> rfl
theorem cx {i : Nat} {P : Nat → PR → PS → Prop} {K : KT} {k k' Km nx ax : Nat} {as rest : List Value} {ls : PL} {S S' : PS} {r : PR} (h : Run k' ax as S r S') (hk : Nat.ble (k + k') Km = true) (g : callK i P K (k + k') nx ls rest r S') : ∃ (k' : Nat) (r : PR) (S' : PS), Run k' ax as S r S' ∧ k + k' ≤ Km ∧ callK i P K (k + k') nx ls rest r S' := ⟨k', r, S', h, Nat.le_of_ble_eq_true hk, g⟩
def allIn : PL → PL → Prop
  | [], _ => True
  | q :: l, ls => match lkL ls q.1, q.2 with
    | some (.int x), .int y => x = y ∧ allIn l ls
    | some (.ref x), .ref y => x = y ∧ allIn l ls
    | some (.retAddr x), .retAddr y => x = y ∧ allIn l ls
    | _, _ => False
theorem allIn_mem : ∀ {l ls : PL}, allIn l ls → ∀ q ∈ l, q ∈ ls
  | x :: l, ls, h, q, hq => by
    have key : lkL ls x.1 = some x.2 ∧ allIn l ls := by
      unfold allIn at h
      split at h
      · rename_i h1 h2
        exact ⟨by rw [h1, h2, h.1], h.2⟩
      · rename_i h1 h2
        exact ⟨by rw [h1, h2, h.1], h.2⟩
      · rename_i h1 h2
        exact ⟨by rw [h1, h2, h.1], h.2⟩
      · exact h.elim
    rcases List.mem_cons.mp hq with rfl | hq
    · exact lkL_mem key.1
    · exact allIn_mem key.2 q hq
theorem wk {i L : Nat} {xs : Nat → Int32} {K : Nat} {P : Nat → PR → PS → Prop} {G : KT} (hG : Cl i L xs K P G) {k pc : Nat} {ls ls' : PL} {st : List Value} {S : PS} (h : allIn ls' ls) (g : G k pc ls' st S) : G k pc ls st S := hG.2 _ _ _ _ _ _ (allIn_mem h) g
def hsI (x n : Int32) : Prop := ¬ x &&& (nI 1 <<< (n &&& 31)) = 0
def hsI_dec (x n : Int32) : Decidable (hsI x n) := inferInstanceAs (Decidable (¬ x &&& (nI 1 <<< (n &&& 31)) = 0))
abbrev hsb (x n : Int32) : Int32 := bi (¬ x &&& (nI 1 <<< (n &&& 31)) = 0)
theorem r_has (S : PS) (x n : Int32) : Run 0 30 [.int x, .int n] S (.inl (some (hsb x n))) S := by
  refine run_of (by decide +kernel) rfl (fun G hG => ?_)
  repeat (refine hG.1 _ _ _ _ _ _ rfl ?_)
  refine And.intro (fun h => ?_) (fun h => ?_)
  · repeat (refine hG.1 _ _ _ _ _ _ rfl ?_)
    refine And.intro rfl (And.intro ?_ (And.intro rfl rfl))
    rw [hsb, bi_f (fun z => z h)]
  · repeat (refine hG.1 _ _ _ _ _ _ rfl ?_)
    refine And.intro rfl (And.intro ?_ (And.intro rfl rfl))
    rw [hsb, bi_t h]
theorem r_needRange (S : PS) (x lo hi : Int32) (h1 : ¬ x < lo) (h2 : x ≤ hi) : Run 0 24 [.int x, .int lo, .int hi] S (.inl none) S := by
  refine run_of (by decide +kernel) rfl (fun G hG => ?_)
  repeat (refine hG.1 _ _ _ _ _ _ rfl ?_)
  refine And.intro (fun h => ?_) (fun h => ?_)
  · exact absurd h h1
  · repeat (refine hG.1 _ _ _ _ _ _ rfl ?_)
    refine And.intro (fun h => ?_) (fun h => ?_)
    · repeat (refine hG.1 _ _ _ _ _ _ rfl ?_)
      refine And.intro rfl (And.intro ?_ (And.intro rfl rfl))
      rfl
    · exact absurd h2 h
theorem r_needRange_x (S : PS) (x lo hi : Int32) (h1 : x < lo ∨ ¬ x ≤ hi) : Run 1 24 [.int x, .int lo, .int hi] S (.inr 0) S := by
  refine run_of (by decide +kernel) rfl (fun G hG => ?_)
  repeat (refine hG.1 _ _ _ _ _ _ rfl ?_)
  refine And.intro (fun h => ?_) (fun h => ?_)
  · repeat (refine hG.1 _ _ _ _ _ _ rfl ?_)
    exact And.intro rfl (And.intro rfl (And.intro (Nat.le_refl _) (And.intro rfl (And.intro rfl rfl))))
  · repeat (refine hG.1 _ _ _ _ _ _ rfl ?_)
    refine And.intro (fun h => ?_) (fun h => ?_)
    · rcases h1 with z | z
      · contradiction
      · exact absurd h z
    · repeat (refine hG.1 _ _ _ _ _ _ rfl ?_)
      exact And.intro rfl (And.intro rfl (And.intro (Nat.le_refl _) (And.intro rfl (And.intro rfl rfl))))
theorem r_needRoom (S : PS) (x hi : Int32) (h1 : x < hi) : Run 0 25 [.int x, .int hi] S (.inl none) S := by
  refine run_of (by decide +kernel) rfl (fun G hG => ?_)
  repeat (refine hG.1 _ _ _ _ _ _ rfl ?_)
  refine And.intro (fun h => ?_) (fun h => ?_)
  · repeat (refine hG.1 _ _ _ _ _ _ rfl ?_)
    refine And.intro rfl (And.intro ?_ (And.intro rfl rfl))
    rfl
  · exact absurd h1 h
theorem r_needRoom_x (S : PS) (x hi : Int32) (h1 : ¬ x < hi) : Run 1 25 [.int x, .int hi] S (.inr 2) S := by
  refine run_of (by decide +kernel) rfl (fun G hG => ?_)
  repeat (refine hG.1 _ _ _ _ _ _ rfl ?_)
  refine And.intro (fun h => ?_) (fun h => ?_)
  · exact absurd h h1
  · repeat (refine hG.1 _ _ _ _ _ _ rfl ?_)
    exact And.intro rfl (And.intro rfl (And.intro (Nat.le_refl _) (And.intro rfl (And.intro rfl rfl))))
theorem r_needNode (S : PS) (x : Int32) (h1 : ¬ x < 0) (h2 : x < S.1 0 0) : Run 0 26 [.ref 0, .int x] S (.inl none) S := by
  refine run_of (by decide +kernel) rfl (fun G hG => ?_)
  repeat (refine hG.1 _ _ _ _ _ _ rfl ?_)
  refine And.intro (fun h => ?_) (fun h => ?_)
  · exact absurd h h1
  · repeat (refine hG.1 _ _ _ _ _ _ rfl ?_)
    refine And.intro (fun h => ?_) (fun h => ?_)
    · repeat (refine hG.1 _ _ _ _ _ _ rfl ?_)
      refine And.intro rfl (And.intro ?_ (And.intro rfl rfl))
      rfl
    · exact absurd h2 h
theorem r_needNode_x (S : PS) (x : Int32) (h1 : x < 0 ∨ ¬ x < S.1 0 0) : Run 1 26 [.ref 0, .int x] S (.inr 1) S := by
  refine run_of (by decide +kernel) rfl (fun G hG => ?_)
  repeat (refine hG.1 _ _ _ _ _ _ rfl ?_)
  refine And.intro (fun h => ?_) (fun h => ?_)
  · repeat (refine hG.1 _ _ _ _ _ _ rfl ?_)
    exact And.intro rfl (And.intro rfl (And.intro (Nat.le_refl _) (And.intro rfl (And.intro rfl rfl))))
  · repeat (refine hG.1 _ _ _ _ _ _ rfl ?_)
    refine And.intro (fun h => ?_) (fun h => ?_)
    · rcases h1 with z | z
      · contradiction
      · exact absurd h z
    · repeat (refine hG.1 _ _ _ _ _ _ rfl ?_)
      exact And.intro rfl (And.intro rfl (And.intro (Nat.le_refl _) (And.intro rfl (And.intro rfl rfl))))
theorem r_needPipe (S : PS) (x : Int32) (h1 : ¬ x ≤ 0) (h2 : x < S.1 0 0) : Run 0 27 [.ref 0, .int x] S (.inl none) S := by
  refine run_of (by decide +kernel) rfl (fun G hG => ?_)
  repeat (refine hG.1 _ _ _ _ _ _ rfl ?_)
  refine And.intro (fun h => ?_) (fun h => ?_)
  · exact absurd h h1
  · repeat (refine hG.1 _ _ _ _ _ _ rfl ?_)
    refine And.intro (fun h => ?_) (fun h => ?_)
    · repeat (refine hG.1 _ _ _ _ _ _ rfl ?_)
      refine And.intro rfl (And.intro ?_ (And.intro rfl rfl))
      rfl
    · exact absurd h2 h
theorem r_needPipe_x (S : PS) (x : Int32) (h1 : x ≤ 0 ∨ ¬ x < S.1 0 0) : Run 1 27 [.ref 0, .int x] S (.inr 1) S := by
  refine run_of (by decide +kernel) rfl (fun G hG => ?_)
  repeat (refine hG.1 _ _ _ _ _ _ rfl ?_)
  refine And.intro (fun h => ?_) (fun h => ?_)
  · repeat (refine hG.1 _ _ _ _ _ _ rfl ?_)
    exact And.intro rfl (And.intro rfl (And.intro (Nat.le_refl _) (And.intro rfl (And.intro rfl rfl))))
  · repeat (refine hG.1 _ _ _ _ _ _ rfl ?_)
    refine And.intro (fun h => ?_) (fun h => ?_)
    · rcases h1 with z | z
      · contradiction
      · exact absurd h z
    · repeat (refine hG.1 _ _ _ _ _ _ rfl ?_)
      exact And.intro rfl (And.intro rfl (And.intro (Nat.le_refl _) (And.intro rfl (And.intro rfl rfl))))
theorem r_needArea (S : PS) (x : Int32) (h1 : ¬ x < 0) (h2 : x < S.1 0 7) : Run 0 28 [.ref 0, .int x] S (.inl none) S := by
  refine run_of (by decide +kernel) rfl (fun G hG => ?_)
  repeat (refine hG.1 _ _ _ _ _ _ rfl ?_)
  refine And.intro (fun h => ?_) (fun h => ?_)
  · exact absurd h h1
  · repeat (refine hG.1 _ _ _ _ _ _ rfl ?_)
    refine And.intro (fun h => ?_) (fun h => ?_)
    · repeat (refine hG.1 _ _ _ _ _ _ rfl ?_)
      refine And.intro rfl (And.intro ?_ (And.intro rfl rfl))
      rfl
    · exact absurd h2 h
theorem r_needArea_x (S : PS) (x : Int32) (h1 : x < 0 ∨ ¬ x < S.1 0 7) : Run 1 28 [.ref 0, .int x] S (.inr 1) S := by
  refine run_of (by decide +kernel) rfl (fun G hG => ?_)
  repeat (refine hG.1 _ _ _ _ _ _ rfl ?_)
  refine And.intro (fun h => ?_) (fun h => ?_)
  · repeat (refine hG.1 _ _ _ _ _ _ rfl ?_)
    exact And.intro rfl (And.intro rfl (And.intro (Nat.le_refl _) (And.intro rfl (And.intro rfl rfl))))
  · repeat (refine hG.1 _ _ _ _ _ _ rfl ?_)
    refine And.intro (fun h => ?_) (fun h => ?_)
    · rcases h1 with z | z
      · contradiction
      · exact absurd h z
    · repeat (refine hG.1 _ _ _ _ _ _ rfl ?_)
      exact And.intro rfl (And.intro rfl (And.intro (Nat.le_refl _) (And.intro rfl (And.intro rfl rfl))))
theorem r_needBurst (S : PS) (x : Int32) (h1 : ¬ x < 0) (h2 : x < S.1 0 10) : Run 0 29 [.ref 0, .int x] S (.inl none) S := by
  refine run_of (by decide +kernel) rfl (fun G hG => ?_)
  repeat (refine hG.1 _ _ _ _ _ _ rfl ?_)
  refine And.intro (fun h => ?_) (fun h => ?_)
  · exact absurd h h1
  · repeat (refine hG.1 _ _ _ _ _ _ rfl ?_)
    refine And.intro (fun h => ?_) (fun h => ?_)
    · repeat (refine hG.1 _ _ _ _ _ _ rfl ?_)
      refine And.intro rfl (And.intro ?_ (And.intro rfl rfl))
      rfl
    · exact absurd h2 h
theorem r_needBurst_x (S : PS) (x : Int32) (h1 : x < 0 ∨ ¬ x < S.1 0 10) : Run 1 29 [.ref 0, .int x] S (.inr 1) S := by
  refine run_of (by decide +kernel) rfl (fun G hG => ?_)
  repeat (refine hG.1 _ _ _ _ _ _ rfl ?_)
  refine And.intro (fun h => ?_) (fun h => ?_)
  · repeat (refine hG.1 _ _ _ _ _ _ rfl ?_)
    exact And.intro rfl (And.intro rfl (And.intro (Nat.le_refl _) (And.intro rfl (And.intro rfl rfl))))
  · repeat (refine hG.1 _ _ _ _ _ _ rfl ?_)
    refine And.intro (fun h => ?_) (fun h => ?_)
    · rcases h1 with z | z
      · contradiction
      · exact absurd h z
    · repeat (refine hG.1 _ _ _ _ _ _ rfl ?_)
      exact And.intro rfl (And.intro rfl (And.intro (Nat.le_refl _) (And.intro rfl (And.intro rfl rfl))))
theorem r_pipesAbove (S : PS) (x n : Int32) : Run 0 31 [.int x, .int n] S (.inl (some (x &&& (-1 : Int32) <<< ((n + nI 1) &&& 31)))) S := by
  refine run_of (by decide +kernel) rfl (fun G hG => ?_)
  repeat (refine hG.1 _ _ _ _ _ _ rfl ?_)
  refine And.intro rfl (And.intro ?_ (And.intro rfl rfl))
  rfl
theorem r_isOpenTo (S : PS) (x sh : Int32) (h : vp_in x 16) : Run 0 32 [.ref 0, .int x, .int sh] S (.inl (some (bi (S.2.1 1 x.toNatClampNeg &&& sh = 0)))) S := by
  refine run_of (by decide +kernel) rfl (fun G hG => ?_)
  repeat (refine hG.1 _ _ _ _ _ _ rfl ?_)
  refine And.intro (h) ?_
  repeat (refine hG.1 _ _ _ _ _ _ rfl ?_)
  refine And.intro (fun h => ?_) (fun h => ?_)
  · repeat (refine hG.1 _ _ _ _ _ _ rfl ?_)
    refine And.intro rfl (And.intro ?_ (And.intro rfl rfl))
    rw [bi_f h]
  · repeat (refine hG.1 _ _ _ _ _ _ rfl ?_)
    refine And.intro rfl (And.intro ?_ (And.intro rfl rfl))
    rw [bi_t h]
