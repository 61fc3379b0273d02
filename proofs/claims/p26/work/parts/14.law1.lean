abbrev m20 : Int32 := Int32.ofInt (.negSucc 19)
abbrev m30 : Int32 := Int32.ofInt (.negSucc 29)
theorem rq {a b : Int32} (h : a = b) : (Sum.inl (some a) : PR) = Sum.inl (some b) := by rw [h]
theorem cxs {i : Nat} {P : Nat → PR → PS → Prop} {K : KT} {k k' Km nx : Nat} {as rest : List Value} {ls : PL} {S S' : PS} {r : PR} (h : Run k' nx as S r S') (hk : k + k' ≤ Km) {nx2 : Nat} (g : callK i P K (k + k') nx2 ls rest r S') : ∃ (k' : Nat) (r : PR) (S' : PS), Run k' nx as S r S' ∧ k + k' ≤ Km ∧ callK i P K (k + k') nx2 ls rest r S' := ⟨k', r, S', h, hk, g⟩
def S0 : PS := (fun _ k => match k with
  | 0 => 1
  | _ => 0, fun i => match i with
  | 1 => upd (fun _ => (0 : Int32)) 0 1
  | 16 => upd (fun _ => (0 : Int32)) 0 1
  | _ => (fun _ => (0 : Int32)), fun _ => (0 : Int64))
theorem hX0 : Xn S0 1 0 := ⟨rfl, by decide, rfl, by decide, fun k _ => Or.inr ⟨0, by decide, rfl⟩⟩
theorem t_sets_0_0 (S : PS) (a b c : Int32) (h : Run 1 1 [.ref 0, .int a, .int b] S (.inr 0) S) : Run 1 51 [.ref 0, .int (nI 0), .int a, .int b, .int c] S (.inl (some m20)) S := by
  refine run_of (by decide +kernel) rfl (fun G hG => ?_)
  repeat (first | refine hG.1 _ _ _ _ _ _ rfl ?_ | refine And.intro (fun _ => ?_) (fun h => False.elim (by first | exact absurd h (by decide +kernel) | exact h (by decide +kernel))) | refine And.intro (fun h => False.elim (by first | exact absurd h (by decide +kernel) | exact h (by decide +kernel))) (fun _ => ?_) | refine And.intro (by unfold vp_in; decide +kernel) ?_ | refine And.intro (show ¬ _ = (0 : Int32) from by decide +kernel) ?_)
  refine And.intro rfl (cx (h) rfl ?_)
  repeat (first | refine hG.1 _ _ _ _ _ _ rfl ?_ | refine And.intro (fun _ => ?_) (fun h => False.elim (by first | exact absurd h (by decide +kernel) | exact h (by decide +kernel))) | refine And.intro (fun h => False.elim (by first | exact absurd h (by decide +kernel) | exact h (by decide +kernel))) (fun _ => ?_) | refine And.intro (by unfold vp_in; decide +kernel) ?_ | refine And.intro (show ¬ _ = (0 : Int32) from by decide +kernel) ?_)
  exact And.intro rfl (And.intro rfl (And.intro rfl rfl))
theorem t_sets_1_0 (S : PS) (a b c : Int32) (h : Run 1 2 [.ref 0, .int a, .int b] S (.inr 0) S) : Run 1 51 [.ref 0, .int (nI 1), .int a, .int b, .int c] S (.inl (some m20)) S := by
  refine run_of (by decide +kernel) rfl (fun G hG => ?_)
  repeat (first | refine hG.1 _ _ _ _ _ _ rfl ?_ | refine And.intro (fun _ => ?_) (fun h => False.elim (by first | exact absurd h (by decide +kernel) | exact h (by decide +kernel))) | refine And.intro (fun h => False.elim (by first | exact absurd h (by decide +kernel) | exact h (by decide +kernel))) (fun _ => ?_) | refine And.intro (by unfold vp_in; decide +kernel) ?_ | refine And.intro (show ¬ _ = (0 : Int32) from by decide +kernel) ?_)
  refine And.intro rfl (cx (h) rfl ?_)
  repeat (first | refine hG.1 _ _ _ _ _ _ rfl ?_ | refine And.intro (fun _ => ?_) (fun h => False.elim (by first | exact absurd h (by decide +kernel) | exact h (by decide +kernel))) | refine And.intro (fun h => False.elim (by first | exact absurd h (by decide +kernel) | exact h (by decide +kernel))) (fun _ => ?_) | refine And.intro (by unfold vp_in; decide +kernel) ?_ | refine And.intro (show ¬ _ = (0 : Int32) from by decide +kernel) ?_)
  exact And.intro rfl (And.intro rfl (And.intro rfl rfl))
theorem t_sets_2_0 (S : PS) (a b c : Int32) (h : Run 1 3 [.ref 0, .int a, .int b] S (.inr 0) S) : Run 1 51 [.ref 0, .int (nI 2), .int a, .int b, .int c] S (.inl (some m20)) S := by
  refine run_of (by decide +kernel) rfl (fun G hG => ?_)
  repeat (first | refine hG.1 _ _ _ _ _ _ rfl ?_ | refine And.intro (fun _ => ?_) (fun h => False.elim (by first | exact absurd h (by decide +kernel) | exact h (by decide +kernel))) | refine And.intro (fun h => False.elim (by first | exact absurd h (by decide +kernel) | exact h (by decide +kernel))) (fun _ => ?_) | refine And.intro (by unfold vp_in; decide +kernel) ?_ | refine And.intro (show ¬ _ = (0 : Int32) from by decide +kernel) ?_)
  refine And.intro rfl (cx (h) rfl ?_)
  repeat (first | refine hG.1 _ _ _ _ _ _ rfl ?_ | refine And.intro (fun _ => ?_) (fun h => False.elim (by first | exact absurd h (by decide +kernel) | exact h (by decide +kernel))) | refine And.intro (fun h => False.elim (by first | exact absurd h (by decide +kernel) | exact h (by decide +kernel))) (fun _ => ?_) | refine And.intro (by unfold vp_in; decide +kernel) ?_ | refine And.intro (show ¬ _ = (0 : Int32) from by decide +kernel) ?_)
  exact And.intro rfl (And.intro rfl (And.intro rfl rfl))
theorem t_sets_2_1 (S : PS) (a b c : Int32) (h : Run 1 3 [.ref 0, .int a, .int b] S (.inr 1) S) : Run 1 51 [.ref 0, .int (nI 2), .int a, .int b, .int c] S (.inl (some m30)) S := by
  refine run_of (by decide +kernel) rfl (fun G hG => ?_)
  repeat (first | refine hG.1 _ _ _ _ _ _ rfl ?_ | refine And.intro (fun _ => ?_) (fun h => False.elim (by first | exact absurd h (by decide +kernel) | exact h (by decide +kernel))) | refine And.intro (fun h => False.elim (by first | exact absurd h (by decide +kernel) | exact h (by decide +kernel))) (fun _ => ?_) | refine And.intro (by unfold vp_in; decide +kernel) ?_ | refine And.intro (show ¬ _ = (0 : Int32) from by decide +kernel) ?_)
  refine And.intro rfl (cx (h) rfl ?_)
  repeat (first | refine hG.1 _ _ _ _ _ _ rfl ?_ | refine And.intro (fun _ => ?_) (fun h => False.elim (by first | exact absurd h (by decide +kernel) | exact h (by decide +kernel))) | refine And.intro (fun h => False.elim (by first | exact absurd h (by decide +kernel) | exact h (by decide +kernel))) (fun _ => ?_) | refine And.intro (by unfold vp_in; decide +kernel) ?_ | refine And.intro (show ¬ _ = (0 : Int32) from by decide +kernel) ?_)
  exact And.intro rfl (And.intro rfl (And.intro rfl rfl))
theorem t_sets_3_1 (S : PS) (a b c : Int32) (h : Run 1 10 [.ref 0, .int a] S (.inr 1) S) : Run 1 51 [.ref 0, .int (nI 3), .int a, .int b, .int c] S (.inl (some m30)) S := by
  refine run_of (by decide +kernel) rfl (fun G hG => ?_)
  repeat (first | refine hG.1 _ _ _ _ _ _ rfl ?_ | refine And.intro (fun _ => ?_) (fun h => False.elim (by first | exact absurd h (by decide +kernel) | exact h (by decide +kernel))) | refine And.intro (fun h => False.elim (by first | exact absurd h (by decide +kernel) | exact h (by decide +kernel))) (fun _ => ?_) | refine And.intro (by unfold vp_in; decide +kernel) ?_ | refine And.intro (show ¬ _ = (0 : Int32) from by decide +kernel) ?_)
  refine And.intro rfl (cx (h) rfl ?_)
  repeat (first | refine hG.1 _ _ _ _ _ _ rfl ?_ | refine And.intro (fun _ => ?_) (fun h => False.elim (by first | exact absurd h (by decide +kernel) | exact h (by decide +kernel))) | refine And.intro (fun h => False.elim (by first | exact absurd h (by decide +kernel) | exact h (by decide +kernel))) (fun _ => ?_) | refine And.intro (by unfold vp_in; decide +kernel) ?_ | refine And.intro (show ¬ _ = (0 : Int32) from by decide +kernel) ?_)
  exact And.intro rfl (And.intro rfl (And.intro rfl rfl))
theorem t_sets_4_1 (S : PS) (a b c : Int32) (h : Run 1 11 [.ref 0, .int a, .int b] S (.inr 1) S) : Run 1 51 [.ref 0, .int (nI 4), .int a, .int b, .int c] S (.inl (some m30)) S := by
  refine run_of (by decide +kernel) rfl (fun G hG => ?_)
  repeat (first | refine hG.1 _ _ _ _ _ _ rfl ?_ | refine And.intro (fun _ => ?_) (fun h => False.elim (by first | exact absurd h (by decide +kernel) | exact h (by decide +kernel))) | refine And.intro (fun h => False.elim (by first | exact absurd h (by decide +kernel) | exact h (by decide +kernel))) (fun _ => ?_) | refine And.intro (by unfold vp_in; decide +kernel) ?_ | refine And.intro (show ¬ _ = (0 : Int32) from by decide +kernel) ?_)
  refine And.intro rfl (cx (h) rfl ?_)
  repeat (first | refine hG.1 _ _ _ _ _ _ rfl ?_ | refine And.intro (fun _ => ?_) (fun h => False.elim (by first | exact absurd h (by decide +kernel) | exact h (by decide +kernel))) | refine And.intro (fun h => False.elim (by first | exact absurd h (by decide +kernel) | exact h (by decide +kernel))) (fun _ => ?_) | refine And.intro (by unfold vp_in; decide +kernel) ?_ | refine And.intro (show ¬ _ = (0 : Int32) from by decide +kernel) ?_)
  exact And.intro rfl (And.intro rfl (And.intro rfl rfl))
theorem t_sets_5_0 (S : PS) (a b c : Int32) (h : Run 1 19 [.ref 0, .int a, .int b, .int c] S (.inr 0) S) : Run 1 51 [.ref 0, .int (nI 5), .int a, .int b, .int c] S (.inl (some m20)) S := by
  refine run_of (by decide +kernel) rfl (fun G hG => ?_)
  repeat (first | refine hG.1 _ _ _ _ _ _ rfl ?_ | refine And.intro (fun _ => ?_) (fun h => False.elim (by first | exact absurd h (by decide +kernel) | exact h (by decide +kernel))) | refine And.intro (fun h => False.elim (by first | exact absurd h (by decide +kernel) | exact h (by decide +kernel))) (fun _ => ?_) | refine And.intro (by unfold vp_in; decide +kernel) ?_ | refine And.intro (show ¬ _ = (0 : Int32) from by decide +kernel) ?_)
  refine And.intro rfl (cx (h) rfl ?_)
  repeat (first | refine hG.1 _ _ _ _ _ _ rfl ?_ | refine And.intro (fun _ => ?_) (fun h => False.elim (by first | exact absurd h (by decide +kernel) | exact h (by decide +kernel))) | refine And.intro (fun h => False.elim (by first | exact absurd h (by decide +kernel) | exact h (by decide +kernel))) (fun _ => ?_) | refine And.intro (by unfold vp_in; decide +kernel) ?_ | refine And.intro (show ¬ _ = (0 : Int32) from by decide +kernel) ?_)
  exact And.intro rfl (And.intro rfl (And.intro rfl rfl))
theorem t_sets_6_1 (S : PS) (a b c : Int32) (h : Run 1 20 [.ref 0, .int a] S (.inr 1) S) : Run 1 51 [.ref 0, .int (nI 6), .int a, .int b, .int c] S (.inl (some m30)) S := by
  refine run_of (by decide +kernel) rfl (fun G hG => ?_)
  repeat (first | refine hG.1 _ _ _ _ _ _ rfl ?_ | refine And.intro (fun _ => ?_) (fun h => False.elim (by first | exact absurd h (by decide +kernel) | exact h (by decide +kernel))) | refine And.intro (fun h => False.elim (by first | exact absurd h (by decide +kernel) | exact h (by decide +kernel))) (fun _ => ?_) | refine And.intro (by unfold vp_in; decide +kernel) ?_ | refine And.intro (show ¬ _ = (0 : Int32) from by decide +kernel) ?_)
  refine And.intro rfl (cx (h) rfl ?_)
  repeat (first | refine hG.1 _ _ _ _ _ _ rfl ?_ | refine And.intro (fun _ => ?_) (fun h => False.elim (by first | exact absurd h (by decide +kernel) | exact h (by decide +kernel))) | refine And.intro (fun h => False.elim (by first | exact absurd h (by decide +kernel) | exact h (by decide +kernel))) (fun _ => ?_) | refine And.intro (by unfold vp_in; decide +kernel) ?_ | refine And.intro (show ¬ _ = (0 : Int32) from by decide +kernel) ?_)
  exact And.intro rfl (And.intro rfl (And.intro rfl rfl))
theorem t_sets_7_1 (S : PS) (a b c : Int32) (h : Run 1 8 [.ref 0, .int a] S (.inr 1) S) : Run 1 51 [.ref 0, .int (nI 7), .int a, .int b, .int c] S (.inl (some m30)) S := by
  refine run_of (by decide +kernel) rfl (fun G hG => ?_)
  repeat (first | refine hG.1 _ _ _ _ _ _ rfl ?_ | refine And.intro (fun _ => ?_) (fun h => False.elim (by first | exact absurd h (by decide +kernel) | exact h (by decide +kernel))) | refine And.intro (fun h => False.elim (by first | exact absurd h (by decide +kernel) | exact h (by decide +kernel))) (fun _ => ?_) | refine And.intro (by unfold vp_in; decide +kernel) ?_ | refine And.intro (show ¬ _ = (0 : Int32) from by decide +kernel) ?_)
  refine And.intro rfl (cx (h) rfl ?_)
  repeat (first | refine hG.1 _ _ _ _ _ _ rfl ?_ | refine And.intro (fun _ => ?_) (fun h => False.elim (by first | exact absurd h (by decide +kernel) | exact h (by decide +kernel))) | refine And.intro (fun h => False.elim (by first | exact absurd h (by decide +kernel) | exact h (by decide +kernel))) (fun _ => ?_) | refine And.intro (by unfold vp_in; decide +kernel) ?_ | refine And.intro (show ¬ _ = (0 : Int32) from by decide +kernel) ?_)
  exact And.intro rfl (And.intro rfl (And.intro rfl rfl))
theorem t_asks_0 (S : PS) (a b : Int32) (h : Run 1 7 [.ref 0, .int a] S (.inr 1) S) : Run 1 52 [.ref 0, .int (nI 0), .int a, .int b] S (.inl (some m30)) S := by
  refine run_of (by decide +kernel) rfl (fun G hG => ?_)
  repeat (first | refine hG.1 _ _ _ _ _ _ rfl ?_ | refine And.intro (fun _ => ?_) (fun h => False.elim (by first | exact absurd h (by decide +kernel) | exact h (by decide +kernel))) | refine And.intro (fun h => False.elim (by first | exact absurd h (by decide +kernel) | exact h (by decide +kernel))) (fun _ => ?_) | refine And.intro (by unfold vp_in; decide +kernel) ?_ | refine And.intro (show ¬ _ = (0 : Int32) from by decide +kernel) ?_)
  refine And.intro rfl (cx (h) rfl ?_)
  repeat (first | refine hG.1 _ _ _ _ _ _ rfl ?_ | refine And.intro (fun _ => ?_) (fun h => False.elim (by first | exact absurd h (by decide +kernel) | exact h (by decide +kernel))) | refine And.intro (fun h => False.elim (by first | exact absurd h (by decide +kernel) | exact h (by decide +kernel))) (fun _ => ?_) | refine And.intro (by unfold vp_in; decide +kernel) ?_ | refine And.intro (show ¬ _ = (0 : Int32) from by decide +kernel) ?_)
  exact And.intro rfl (And.intro rfl (And.intro rfl rfl))
theorem t_asks_1 (S : PS) (a b : Int32) (h : Run 1 12 [.ref 0, .int a] S (.inr 1) S) : Run 1 52 [.ref 0, .int (nI 1), .int a, .int b] S (.inl (some m30)) S := by
  refine run_of (by decide +kernel) rfl (fun G hG => ?_)
  repeat (first | refine hG.1 _ _ _ _ _ _ rfl ?_ | refine And.intro (fun _ => ?_) (fun h => False.elim (by first | exact absurd h (by decide +kernel) | exact h (by decide +kernel))) | refine And.intro (fun h => False.elim (by first | exact absurd h (by decide +kernel) | exact h (by decide +kernel))) (fun _ => ?_) | refine And.intro (by unfold vp_in; decide +kernel) ?_ | refine And.intro (show ¬ _ = (0 : Int32) from by decide +kernel) ?_)
  refine And.intro rfl (cx (h) rfl ?_)
  repeat (first | refine hG.1 _ _ _ _ _ _ rfl ?_ | refine And.intro (fun _ => ?_) (fun h => False.elim (by first | exact absurd h (by decide +kernel) | exact h (by decide +kernel))) | refine And.intro (fun h => False.elim (by first | exact absurd h (by decide +kernel) | exact h (by decide +kernel))) (fun _ => ?_) | refine And.intro (by unfold vp_in; decide +kernel) ?_ | refine And.intro (show ¬ _ = (0 : Int32) from by decide +kernel) ?_)
  exact And.intro rfl (And.intro rfl (And.intro rfl rfl))
theorem t_asks_2 (S : PS) (a b : Int32) (h : Run 1 13 [.ref 0, .int a] S (.inr 1) S) : Run 1 52 [.ref 0, .int (nI 2), .int a, .int b] S (.inl (some m30)) S := by
  refine run_of (by decide +kernel) rfl (fun G hG => ?_)
  repeat (first | refine hG.1 _ _ _ _ _ _ rfl ?_ | refine And.intro (fun _ => ?_) (fun h => False.elim (by first | exact absurd h (by decide +kernel) | exact h (by decide +kernel))) | refine And.intro (fun h => False.elim (by first | exact absurd h (by decide +kernel) | exact h (by decide +kernel))) (fun _ => ?_) | refine And.intro (by unfold vp_in; decide +kernel) ?_ | refine And.intro (show ¬ _ = (0 : Int32) from by decide +kernel) ?_)
  refine And.intro rfl (cx (h) rfl ?_)
  repeat (first | refine hG.1 _ _ _ _ _ _ rfl ?_ | refine And.intro (fun _ => ?_) (fun h => False.elim (by first | exact absurd h (by decide +kernel) | exact h (by decide +kernel))) | refine And.intro (fun h => False.elim (by first | exact absurd h (by decide +kernel) | exact h (by decide +kernel))) (fun _ => ?_) | refine And.intro (by unfold vp_in; decide +kernel) ?_ | refine And.intro (show ¬ _ = (0 : Int32) from by decide +kernel) ?_)
  exact And.intro rfl (And.intro rfl (And.intro rfl rfl))
theorem t_asks_3 (S : PS) (a b : Int32) (h : Run 1 14 [.ref 0, .int a] S (.inr 1) S) : Run 1 52 [.ref 0, .int (nI 3), .int a, .int b] S (.inl (some m30)) S := by
  refine run_of (by decide +kernel) rfl (fun G hG => ?_)
  repeat (first | refine hG.1 _ _ _ _ _ _ rfl ?_ | refine And.intro (fun _ => ?_) (fun h => False.elim (by first | exact absurd h (by decide +kernel) | exact h (by decide +kernel))) | refine And.intro (fun h => False.elim (by first | exact absurd h (by decide +kernel) | exact h (by decide +kernel))) (fun _ => ?_) | refine And.intro (by unfold vp_in; decide +kernel) ?_ | refine And.intro (show ¬ _ = (0 : Int32) from by decide +kernel) ?_)
  refine And.intro rfl (cx (h) rfl ?_)
  repeat (first | refine hG.1 _ _ _ _ _ _ rfl ?_ | refine And.intro (fun _ => ?_) (fun h => False.elim (by first | exact absurd h (by decide +kernel) | exact h (by decide +kernel))) | refine And.intro (fun h => False.elim (by first | exact absurd h (by decide +kernel) | exact h (by decide +kernel))) (fun _ => ?_) | refine And.intro (by unfold vp_in; decide +kernel) ?_ | refine And.intro (show ¬ _ = (0 : Int32) from by decide +kernel) ?_)
  exact And.intro rfl (And.intro rfl (And.intro rfl rfl))
theorem t_asks_4 (S : PS) (a b : Int32) (h : Run 1 15 [.ref 0, .int a] S (.inr 1) S) : Run 1 52 [.ref 0, .int (nI 4), .int a, .int b] S (.inl (some m30)) S := by
  refine run_of (by decide +kernel) rfl (fun G hG => ?_)
  repeat (first | refine hG.1 _ _ _ _ _ _ rfl ?_ | refine And.intro (fun _ => ?_) (fun h => False.elim (by first | exact absurd h (by decide +kernel) | exact h (by decide +kernel))) | refine And.intro (fun h => False.elim (by first | exact absurd h (by decide +kernel) | exact h (by decide +kernel))) (fun _ => ?_) | refine And.intro (by unfold vp_in; decide +kernel) ?_ | refine And.intro (show ¬ _ = (0 : Int32) from by decide +kernel) ?_)
  refine And.intro rfl (cx (h) rfl ?_)
  repeat (first | refine hG.1 _ _ _ _ _ _ rfl ?_ | refine And.intro (fun _ => ?_) (fun h => False.elim (by first | exact absurd h (by decide +kernel) | exact h (by decide +kernel))) | refine And.intro (fun h => False.elim (by first | exact absurd h (by decide +kernel) | exact h (by decide +kernel))) (fun _ => ?_) | refine And.intro (by unfold vp_in; decide +kernel) ?_ | refine And.intro (show ¬ _ = (0 : Int32) from by decide +kernel) ?_)
  exact And.intro rfl (And.intro rfl (And.intro rfl rfl))
theorem t_asks_5 (S : PS) (a b : Int32) (h : Run 1 16 [.ref 0, .int a] S (.inr 1) S) : Run 1 52 [.ref 0, .int (nI 5), .int a, .int b] S (.inl (some m30)) S := by
  refine run_of (by decide +kernel) rfl (fun G hG => ?_)
  repeat (first | refine hG.1 _ _ _ _ _ _ rfl ?_ | refine And.intro (fun _ => ?_) (fun h => False.elim (by first | exact absurd h (by decide +kernel) | exact h (by decide +kernel))) | refine And.intro (fun h => False.elim (by first | exact absurd h (by decide +kernel) | exact h (by decide +kernel))) (fun _ => ?_) | refine And.intro (by unfold vp_in; decide +kernel) ?_ | refine And.intro (show ¬ _ = (0 : Int32) from by decide +kernel) ?_)
  refine And.intro rfl (cx (h) rfl ?_)
  repeat (first | refine hG.1 _ _ _ _ _ _ rfl ?_ | refine And.intro (fun _ => ?_) (fun h => False.elim (by first | exact absurd h (by decide +kernel) | exact h (by decide +kernel))) | refine And.intro (fun h => False.elim (by first | exact absurd h (by decide +kernel) | exact h (by decide +kernel))) (fun _ => ?_) | refine And.intro (by unfold vp_in; decide +kernel) ?_ | refine And.intro (show ¬ _ = (0 : Int32) from by decide +kernel) ?_)
  exact And.intro rfl (And.intro rfl (And.intro rfl rfl))
theorem t_asks_8 (S : PS) (a b : Int32) (h : Run 1 21 [.ref 0, .int a] S (.inr 1) S) : Run 1 52 [.ref 0, .int (nI 8), .int a, .int b] S (.inl (some m30)) S := by
  refine run_of (by decide +kernel) rfl (fun G hG => ?_)
  repeat (first | refine hG.1 _ _ _ _ _ _ rfl ?_ | refine And.intro (fun _ => ?_) (fun h => False.elim (by first | exact absurd h (by decide +kernel) | exact h (by decide +kernel))) | refine And.intro (fun h => False.elim (by first | exact absurd h (by decide +kernel) | exact h (by decide +kernel))) (fun _ => ?_) | refine And.intro (by unfold vp_in; decide +kernel) ?_ | refine And.intro (show ¬ _ = (0 : Int32) from by decide +kernel) ?_)
  refine And.intro rfl (cx (h) rfl ?_)
  repeat (first | refine hG.1 _ _ _ _ _ _ rfl ?_ | refine And.intro (fun _ => ?_) (fun h => False.elim (by first | exact absurd h (by decide +kernel) | exact h (by decide +kernel))) | refine And.intro (fun h => False.elim (by first | exact absurd h (by decide +kernel) | exact h (by decide +kernel))) (fun _ => ?_) | refine And.intro (by unfold vp_in; decide +kernel) ?_ | refine And.intro (show ¬ _ = (0 : Int32) from by decide +kernel) ?_)
  exact And.intro rfl (And.intro rfl (And.intro rfl rfl))
theorem t_asks_9 (S : PS) (a b : Int32) (h : Run 1 22 [.ref 0, .int a] S (.inr 1) S) : Run 1 52 [.ref 0, .int (nI 9), .int a, .int b] S (.inl (some m30)) S := by
  refine run_of (by decide +kernel) rfl (fun G hG => ?_)
  repeat (first | refine hG.1 _ _ _ _ _ _ rfl ?_ | refine And.intro (fun _ => ?_) (fun h => False.elim (by first | exact absurd h (by decide +kernel) | exact h (by decide +kernel))) | refine And.intro (fun h => False.elim (by first | exact absurd h (by decide +kernel) | exact h (by decide +kernel))) (fun _ => ?_) | refine And.intro (by unfold vp_in; decide +kernel) ?_ | refine And.intro (show ¬ _ = (0 : Int32) from by decide +kernel) ?_)
  refine And.intro rfl (cx (h) rfl ?_)
  repeat (first | refine hG.1 _ _ _ _ _ _ rfl ?_ | refine And.intro (fun _ => ?_) (fun h => False.elim (by first | exact absurd h (by decide +kernel) | exact h (by decide +kernel))) | refine And.intro (fun h => False.elim (by first | exact absurd h (by decide +kernel) | exact h (by decide +kernel))) (fun _ => ?_) | refine And.intro (by unfold vp_in; decide +kernel) ?_ | refine And.intro (show ¬ _ = (0 : Int32) from by decide +kernel) ?_)
  exact And.intro rfl (And.intro rfl (And.intro rfl rfl))
theorem t_asks_10 (S : PS) (a b : Int32) (h : Run 1 23 [.ref 0, .int a] S (.inr 0) S) : Run 1 52 [.ref 0, .int (nI 10), .int a, .int b] S (.inl (some m20)) S := by
  refine run_of (by decide +kernel) rfl (fun G hG => ?_)
  repeat (first | refine hG.1 _ _ _ _ _ _ rfl ?_ | refine And.intro (fun _ => ?_) (fun h => False.elim (by first | exact absurd h (by decide +kernel) | exact h (by decide +kernel))) | refine And.intro (fun h => False.elim (by first | exact absurd h (by decide +kernel) | exact h (by decide +kernel))) (fun _ => ?_) | refine And.intro (by unfold vp_in; decide +kernel) ?_ | refine And.intro (show ¬ _ = (0 : Int32) from by decide +kernel) ?_)
  refine And.intro rfl (cx (h) rfl ?_)
  repeat (first | refine hG.1 _ _ _ _ _ _ rfl ?_ | refine And.intro (fun _ => ?_) (fun h => False.elim (by first | exact absurd h (by decide +kernel) | exact h (by decide +kernel))) | refine And.intro (fun h => False.elim (by first | exact absurd h (by decide +kernel) | exact h (by decide +kernel))) (fun _ => ?_) | refine And.intro (by unfold vp_in; decide +kernel) ?_ | refine And.intro (show ¬ _ = (0 : Int32) from by decide +kernel) ?_)
  exact And.intro rfl (And.intro rfl (And.intro rfl rfl))
theorem t_tells_0 (S : PS) (a : Int32) (h : Run 1 4 [.ref 0, .int a] S (.inr 1) S) : Run 1 53 [.ref 0, .int (nI 0), .int a] S (.inl (some m30)) S := by
  refine run_of (by decide +kernel) rfl (fun G hG => ?_)
  repeat (first | refine hG.1 _ _ _ _ _ _ rfl ?_ | refine And.intro (fun _ => ?_) (fun h => False.elim (by first | exact absurd h (by decide +kernel) | exact h (by decide +kernel))) | refine And.intro (fun h => False.elim (by first | exact absurd h (by decide +kernel) | exact h (by decide +kernel))) (fun _ => ?_) | refine And.intro (by unfold vp_in; decide +kernel) ?_ | refine And.intro (show ¬ _ = (0 : Int32) from by decide +kernel) ?_)
  refine And.intro rfl (cx (h) rfl ?_)
  repeat (first | refine hG.1 _ _ _ _ _ _ rfl ?_ | refine And.intro (fun _ => ?_) (fun h => False.elim (by first | exact absurd h (by decide +kernel) | exact h (by decide +kernel))) | refine And.intro (fun h => False.elim (by first | exact absurd h (by decide +kernel) | exact h (by decide +kernel))) (fun _ => ?_) | refine And.intro (by unfold vp_in; decide +kernel) ?_ | refine And.intro (show ¬ _ = (0 : Int32) from by decide +kernel) ?_)
  exact And.intro rfl (And.intro rfl (And.intro rfl rfl))
theorem t_tells_1 (S : PS) (a : Int32) (h : Run 1 5 [.ref 0, .int a] S (.inr 1) S) : Run 1 53 [.ref 0, .int (nI 1), .int a] S (.inl (some m30)) S := by
  refine run_of (by decide +kernel) rfl (fun G hG => ?_)
  repeat (first | refine hG.1 _ _ _ _ _ _ rfl ?_ | refine And.intro (fun _ => ?_) (fun h => False.elim (by first | exact absurd h (by decide +kernel) | exact h (by decide +kernel))) | refine And.intro (fun h => False.elim (by first | exact absurd h (by decide +kernel) | exact h (by decide +kernel))) (fun _ => ?_) | refine And.intro (by unfold vp_in; decide +kernel) ?_ | refine And.intro (show ¬ _ = (0 : Int32) from by decide +kernel) ?_)
  refine And.intro rfl (cx (h) rfl ?_)
  repeat (first | refine hG.1 _ _ _ _ _ _ rfl ?_ | refine And.intro (fun _ => ?_) (fun h => False.elim (by first | exact absurd h (by decide +kernel) | exact h (by decide +kernel))) | refine And.intro (fun h => False.elim (by first | exact absurd h (by decide +kernel) | exact h (by decide +kernel))) (fun _ => ?_) | refine And.intro (by unfold vp_in; decide +kernel) ?_ | refine And.intro (show ¬ _ = (0 : Int32) from by decide +kernel) ?_)
  exact And.intro rfl (And.intro rfl (And.intro rfl rfl))
theorem t_tells_2 (S : PS) (a : Int32) (h : Run 1 6 [.ref 0, .int a] S (.inr 1) S) : Run 1 53 [.ref 0, .int (nI 2), .int a] S (.inl (some m30)) S := by
  refine run_of (by decide +kernel) rfl (fun G hG => ?_)
  repeat (first | refine hG.1 _ _ _ _ _ _ rfl ?_ | refine And.intro (fun _ => ?_) (fun h => False.elim (by first | exact absurd h (by decide +kernel) | exact h (by decide +kernel))) | refine And.intro (fun h => False.elim (by first | exact absurd h (by decide +kernel) | exact h (by decide +kernel))) (fun _ => ?_) | refine And.intro (by unfold vp_in; decide +kernel) ?_ | refine And.intro (show ¬ _ = (0 : Int32) from by decide +kernel) ?_)
  refine And.intro rfl (cx (h) rfl ?_)
  repeat (first | refine hG.1 _ _ _ _ _ _ rfl ?_ | refine And.intro (fun _ => ?_) (fun h => False.elim (by first | exact absurd h (by decide +kernel) | exact h (by decide +kernel))) | refine And.intro (fun h => False.elim (by first | exact absurd h (by decide +kernel) | exact h (by decide +kernel))) (fun _ => ?_) | refine And.intro (by unfold vp_in; decide +kernel) ?_ | refine And.intro (show ¬ _ = (0 : Int32) from by decide +kernel) ?_)
  exact And.intro rfl (And.intro rfl (And.intro rfl rfl))
theorem t_bits (S : PS) : Run 0 54 [.int (nI 0)] S (.inl (some (nI 0))) S := by
  refine run_of (by decide +kernel) rfl (fun G hG => ?_)
  repeat (first | refine hG.1 _ _ _ _ _ _ rfl ?_ | refine And.intro (fun _ => ?_) (fun h => False.elim (by first | exact absurd h (by decide +kernel) | exact h (by decide +kernel))) | refine And.intro (fun h => False.elim (by first | exact absurd h (by decide +kernel) | exact h (by decide +kernel))) (fun _ => ?_) | refine And.intro (by unfold vp_in; decide +kernel) ?_ | refine And.intro (show ¬ _ = (0 : Int32) from by decide +kernel) ?_)
  refine And.intro rfl (And.intro (rq (by decide +kernel)) (And.intro rfl rfl))
theorem t_part (S : PS) (x n : Int32) (j : Nat) (hx : x = nI j) (hj : j < 256) (hn : ¬ n = 0) (hz : ((0 : Int32) &&& nI 2147483647) - ((0 : Int32) &&& nI 2147483647) / n * n = nI 0) : Run 0 50 [.retAddr 0, .int x, .int n] S (.inl (some (nI 0))) S := by
  subst hx
  refine run_of (by decide +kernel) rfl (fun G hG => ?_)
  repeat (refine hG.1 _ _ _ _ _ _ rfl ?_)
  refine And.intro (fun h => ?_) (fun h => ?_)
  · exact absurd h (nI_ge (b := 256) hj (by decide))
  · repeat (refine hG.1 _ _ _ _ _ _ rfl ?_)
    refine And.intro (vp_in_nI (show j < 256 by omega) (by decide)) ?_
    repeat (refine hG.1 _ _ _ _ _ _ rfl ?_)
    refine And.intro ((by decide : ¬ (2 : Nat) = 0)) ?_
    repeat (refine hG.1 _ _ _ _ _ _ rfl ?_)
    refine And.intro (hn) ?_
    repeat (refine hG.1 _ _ _ _ _ _ rfl ?_)
    refine And.intro rfl (And.intro ?_ (And.intro rfl rfl))
    exact rq hz
theorem t_rank : Run 0 47 [.ref 0] S0 (.inl (some (nI 0))) S0 := by
  refine run_of (by decide +kernel) rfl (fun G hG => ?_)
  repeat (first | refine hG.1 _ _ _ _ _ _ rfl ?_ | refine And.intro (fun _ => ?_) (fun h => False.elim (by first | exact absurd h (by decide +kernel) | exact h (by decide +kernel))) | refine And.intro (fun h => False.elim (by first | exact absurd h (by decide +kernel) | exact h (by decide +kernel))) (fun _ => ?_) | refine And.intro (by unfold vp_in; decide +kernel) ?_ | refine And.intro (show ¬ _ = (0 : Int32) from by decide +kernel) ?_)
  exact And.intro rfl (And.intro rfl (And.intro rfl rfl))
theorem t_ranked_m : Run 1 22 [.ref 0, .int (-1)] S0 (.inr 1) S0 := by
  refine run_of (by decide +kernel) rfl (fun G hG => ?_)
  repeat (first | refine hG.1 _ _ _ _ _ _ rfl ?_ | refine And.intro (fun _ => ?_) (fun h => False.elim (by first | exact absurd h (by decide +kernel) | exact h (by decide +kernel))) | refine And.intro (fun h => False.elim (by first | exact absurd h (by decide +kernel) | exact h (by decide +kernel))) (fun _ => ?_) | refine And.intro (by unfold vp_in; decide +kernel) ?_ | refine And.intro (show ¬ _ = (0 : Int32) from by decide +kernel) ?_)
  refine And.intro rfl (cx (t_rank) rfl ?_)
  repeat (first | refine hG.1 _ _ _ _ _ _ rfl ?_ | refine And.intro (fun _ => ?_) (fun h => False.elim (by first | exact absurd h (by decide +kernel) | exact h (by decide +kernel))) | refine And.intro (fun h => False.elim (by first | exact absurd h (by decide +kernel) | exact h (by decide +kernel))) (fun _ => ?_) | refine And.intro (by unfold vp_in; decide +kernel) ?_ | refine And.intro (show ¬ _ = (0 : Int32) from by decide +kernel) ?_)
  exact And.intro rfl (And.intro rfl (And.intro (Nat.le_refl _) (And.intro rfl (And.intro rfl rfl))))
theorem t_ranked_0 : Run 1 22 [.ref 0, .int (nI 0)] S0 (.inr 1) S0 := by
  refine run_of (by decide +kernel) rfl (fun G hG => ?_)
  repeat (first | refine hG.1 _ _ _ _ _ _ rfl ?_ | refine And.intro (fun _ => ?_) (fun h => False.elim (by first | exact absurd h (by decide +kernel) | exact h (by decide +kernel))) | refine And.intro (fun h => False.elim (by first | exact absurd h (by decide +kernel) | exact h (by decide +kernel))) (fun _ => ?_) | refine And.intro (by unfold vp_in; decide +kernel) ?_ | refine And.intro (show ¬ _ = (0 : Int32) from by decide +kernel) ?_)
  refine And.intro rfl (cx (t_rank) rfl ?_)
  repeat (first | refine hG.1 _ _ _ _ _ _ rfl ?_ | refine And.intro (fun _ => ?_) (fun h => False.elim (by first | exact absurd h (by decide +kernel) | exact h (by decide +kernel))) | refine And.intro (fun h => False.elim (by first | exact absurd h (by decide +kernel) | exact h (by decide +kernel))) (fun _ => ?_) | refine And.intro (by unfold vp_in; decide +kernel) ?_ | refine And.intro (show ¬ _ = (0 : Int32) from by decide +kernel) ?_)
  exact And.intro rfl (And.intro rfl (And.intro (Nat.le_refl _) (And.intro rfl (And.intro rfl rfl))))
theorem t_plan (y : Int32) (h1 : ¬ y < nI 0) (h2 : y ≤ nI 1000) : Run 0 23 [.ref 0, .int y] S0 (.inl (some (nI 0))) S0 := by
  refine run_of (by decide +kernel) rfl (fun G hG => ?_)
  repeat (refine hG.1 _ _ _ _ _ _ rfl ?_)
  refine cx (r_needRange S0 _ _ _ h1 h2) rfl ?_
  repeat (first | refine hG.1 _ _ _ _ _ _ rfl ?_ | refine And.intro (fun _ => ?_) (fun h => False.elim (by first | exact absurd h (by decide +kernel) | exact h (by decide +kernel))) | refine And.intro (fun h => False.elim (by first | exact absurd h (by decide +kernel) | exact h (by decide +kernel))) (fun _ => ?_) | refine And.intro (by unfold vp_in; decide +kernel) ?_ | refine And.intro (show ¬ _ = (0 : Int32) from by decide +kernel) ?_)
  refine And.intro rfl (cx (t_rank) rfl ?_)
  repeat (first | refine hG.1 _ _ _ _ _ _ rfl ?_ | refine And.intro (fun _ => ?_) (fun h => False.elim (by first | exact absurd h (by decide +kernel) | exact h (by decide +kernel))) | refine And.intro (fun h => False.elim (by first | exact absurd h (by decide +kernel) | exact h (by decide +kernel))) (fun _ => ?_) | refine And.intro (by unfold vp_in; decide +kernel) ?_ | refine And.intro (show ¬ _ = (0 : Int32) from by decide +kernel) ?_)
  exact And.intro rfl (And.intro rfl (And.intro rfl rfl))
theorem t_takes : Run 0 7 [.ref 0, .int (nI 0)] S0 (.inl (some (nI 0))) S0 := by
  have h := x_takes S0 0 1 0 hX0 (by decide)
  rwa [show tknX S0.2.1 0 (S0.1 0 14) (S0.1 0 6) 0 = nI 0 from by decide +kernel] at h
theorem t_supp : Run 0 6 [.ref 0, .int (nI 0)] S0 (.inl (some (nI 1))) S0 := by
  have h := x_isSupplied S0 0 1 rfl (by decide) (by decide)
  rwa [show bi (S0.2.1 1 0 &&& S0.1 0 6 = 0) = nI 1 from by decide +kernel] at h
theorem t_allFlow : Run 0 9 [.ref 0] S0 (.inl (some (nI 0))) S0 := by
  have h := x_allFlow S0 1 0 hX0
  rwa [show flX S0.2.1 1 0 (S0.1 0 14) (S0.1 0 6) (nI 0) = nI 0 from by decide +kernel] at h
