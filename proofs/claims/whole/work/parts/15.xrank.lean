theorem va_up_up {α : Type} (f : Nat → α) (k : Nat) (u v : α) : va_up (va_up f k u) k v = va_up f k v := by
  funext j
  unfold va_up
  split <;> rfl
theorem va_up_id {α : Type} (f : Nat → α) (k : Nat) : va_up f k (f k) = f := by
  funext j
  unfold va_up
  split
  · rename_i h; rw [h]
  · rfl
theorem va_up_cm {α : Type} (f : Nat → α) {j k : Nat} (h : j ≠ k) (u v : α) : va_up (va_up f j u) k v = va_up (va_up f k v) j u := by
  funext i
  unfold va_up
  split
  · rename_i h1
    split
    · rename_i h2; exact absurd (h2.symm.trans h1) h
    · rfl
  · rfl
def insF (ah : Int32 → Bool) (v : Int32) : Nat → (Nat → Int32) → (Nat → Int32)
  | 0, f => upd f 0 v
  | p + 1, f => if ah (f p) = true then insF ah v p (upd f (p + 1) (f p)) else upd f (p + 1) v
abbrev st11 (S : PS) (f : Nat → Int32) : PS := (S.1, va_up S.2.1 11 f, S.2.2)
theorem st11_up (S : PS) (f g : Nat → Int32) : st11 (st11 S f) g = st11 S g := by
  unfold st11
  rw [va_up_up]
theorem upd_lt {f : Nat → Int32} {p k : Nat} {x : Int32} (h : k ≠ p) : upd f p x k = f k := by
  unfold upd
  rw [if_neg h]
abbrev ahX (fc h : Nat → Int32) (b : Nat) (v : Int32) : Bool := decide (¬ fc b * h v.toNatClampNeg ≤ fc v.toNatClampNeg * h b)
theorem r_insertByRank (S : PS) (b m : Nat) (hb : b < 20) (hm : m < 20) (hf : ∀ p, p < m → ∃ o : Nat, o < 20 ∧ S.2.1 11 p = nI o) : Run 0 48 [.ref 0, .int (nI b), .int (nI m)] S (.inl none) (st11 S (insF (ahX (S.2.1 10) (S.2.1 9) b) (nI b) m (S.2.1 11))) := by
  refine run_of (by decide +kernel) rfl (fun L xs G hG => ?_)
  have main : ∀ p, p ≤ m → ∀ f : Nat → Int32, (∀ k, k < p → ∃ o : Nat, o < 20 ∧ f k = nI o) → insF (ahX (S.2.1 10) (S.2.1 9) b) (nI b) p f = insF (ahX (S.2.1 10) (S.2.1 9) b) (nI b) m (S.2.1 11) →
      G 0 2 [(3, .int (nI p)), (0, .ref 0), (1, .int (nI b))] [] (st11 S f) := by
    refine loop_dn (fun p hp ih => ?_) ?_
    · intro f hfo he
      obtain ⟨o, ho, hfp⟩ := hfo p (by omega)
      repeat (refine hG.1 _ _ _ _ _ _ rfl ?_)
      refine And.intro (fun h => ?_) (fun h => ?_)
      · exact absurd h (nI_nle (by omega) (by omega))
      · repeat (refine hG.1 _ _ _ _ _ _ rfl ?_)
        rw [show nI (p + 1) - nI 1 = nI p from pk_sub (by omega)]
        refine And.intro (vp_in_nI ((show p < 20 by omega)) (by decide)) ?_; rw [nI_clamp (Nat.lt_trans ((show p < 20 by omega)) (by decide))]
        rw [show (st11 S f).2.1 11 p = nI o from hfp]
        repeat (refine hG.1 _ _ _ _ _ _ rfl ?_)
        refine And.intro rfl (cx (r_isAhead (st11 S f) b o hb ho) rfl ?_)
        repeat (refine hG.1 _ _ _ _ _ _ rfl ?_)
        refine And.intro (fun h1 => ?_) (fun h1 => ?_)
        · rw [bi_0] at h1
          have e : insF (ahX (S.2.1 10) (S.2.1 9) b) (nI b) (p + 1) f = upd f (p + 1) (nI b) := by
            rw [insF, if_neg]
            intro z
            simp only [ahX, decide_eq_true_eq, hfp] at z
            rw [nI_clamp (show o < 2 ^ 31 by omega)] at z
            exact h1 z
          repeat (refine hG.1 _ _ _ _ _ _ rfl ?_)
          refine And.intro (vp_in_nI ((show p + 1 < 20 by omega)) (by decide)) ?_; rw [nI_clamp (Nat.lt_trans ((show p + 1 < 20 by omega)) (by decide))]
          repeat (refine hG.1 _ _ _ _ _ _ rfl ?_)
          refine And.intro rfl (And.intro rfl ?_)
          rw [← he, e]
          exact st11_up S f _
        · rw [bi_n] at h1
          have e : insF (ahX (S.2.1 10) (S.2.1 9) b) (nI b) (p + 1) f = insF (ahX (S.2.1 10) (S.2.1 9) b) (nI b) p (upd f (p + 1) (f p)) := by
            rw [insF, if_pos]
            simp only [ahX, decide_eq_true_eq, hfp]
            rw [nI_clamp (show o < 2 ^ 31 by omega)]
            exact h1
          repeat (refine hG.1 _ _ _ _ _ _ rfl ?_)
          rw [show nI (p + 1) - nI 1 = nI p from pk_sub (by omega)]
          refine And.intro (vp_in_nI ((show p < 20 by omega)) (by decide)) ?_; rw [nI_clamp (Nat.lt_trans ((show p < 20 by omega)) (by decide))]
          repeat (refine hG.1 _ _ _ _ _ _ rfl ?_)
          refine And.intro (vp_in_nI ((show p + 1 < 20 by omega)) (by decide)) ?_; rw [nI_clamp (Nat.lt_trans ((show p + 1 < 20 by omega)) (by decide))]
          have g := ih (upd f (p + 1) (f p)) (fun k hk => by rw [upd_lt (by omega)]; exact hfo k (by omega)) (e.symm.trans he)
          rw [← st11_up S f] at g
          repeat (first | (refine wk hG ?_ (g); (repeat (refine And.intro (by first | with_reducible rfl | with_reducible exact nI_add _ _ | with_reducible exact pk_m1 _ | rfl) ?_)); exact trivial) | refine hG.1 _ _ _ _ _ _ rfl ?_)
    · intro f _ he
      repeat (refine hG.1 _ _ _ _ _ _ rfl ?_)
      refine And.intro (fun h => ?_) (fun h => ?_)
      · repeat (refine hG.1 _ _ _ _ _ _ rfl ?_)
        refine And.intro (vp_in_nI ((show 0 < 20 by omega)) (by decide)) ?_; rw [nI_clamp (Nat.lt_trans ((show 0 < 20 by omega)) (by decide))]
        repeat (refine hG.1 _ _ _ _ _ _ rfl ?_)
        refine And.intro rfl (And.intro rfl ?_)
        rw [← he]
        exact st11_up S f _
      · exact absurd (Int32.le_refl 0) h
  have g := main m (Nat.le_refl _) (S.2.1 11) hf rfl
  have e : st11 S (S.2.1 11) = S := by
    unfold st11
    rw [va_up_id]
  rw [e] at g
  repeat (first | (refine wk hG ?_ (g); (repeat (refine And.intro (by first | with_reducible rfl | with_reducible exact nI_add _ _ | with_reducible exact pk_m1 _ | rfl) ?_)); exact trivial) | refine hG.1 _ _ _ _ _ _ rfl ?_)
theorem insF_out {ah : Int32 → Bool} {v : Int32} : ∀ {m p : Nat} {f : Nat → Int32}, m < p → insF ah v m f p = f p
  | 0, p, f, h => by rw [insF, upd_lt (by omega)]
  | m + 1, p, f, h => by
    rw [insF]
    split
    · rw [insF_out (by omega), upd_lt (by omega)]
    · rw [upd_lt (by omega)]
theorem upd_same {f : Nat → Int32} {p : Nat} {x : Int32} : upd f p x p = x := by
  unfold upd
  rw [if_pos rfl]
theorem insF_mem {ah : Int32 → Bool} {v : Int32} : ∀ {m p : Nat} {f : Nat → Int32}, p ≤ m → insF ah v m f p = v ∨ ∃ k, k < m ∧ insF ah v m f p = f k
  | 0, p, f, h => by
    have : p = 0 := by omega
    subst this
    exact Or.inl upd_same
  | m + 1, p, f, h => by
    rw [insF]
    split
    · rcases Nat.lt_or_ge m p with hp | hp
      · have : p = m + 1 := by omega
        subst this
        rw [insF_out (by omega), upd_same]
        exact Or.inr ⟨m, by omega, rfl⟩
      · rcases insF_mem (ah := ah) (v := v) (f := upd f (m + 1) (f m)) hp with h1 | ⟨k, hk, h1⟩
        · exact Or.inl h1
        · exact Or.inr ⟨k, by omega, by rw [h1, upd_lt (by omega)]⟩
    · by_cases hp : p = m + 1
      · subst hp
        exact Or.inl upd_same
      · exact Or.inr ⟨p, by omega, upd_lt hp⟩
def rkS (cs h : Nat → Int32) (rp : Int32) (f10 f11 : Nat → Int32) : Nat → (Nat → Int32) × (Nat → Int32) × Nat
  | 0 => (f10, f11, 0)
  | b + 1 => if hs rp b then rkS cs h rp f10 f11 b else (upd (rkS cs h rp f10 f11 b).1 b (cs b), insF (ahX (upd (rkS cs h rp f10 f11 b).1 b (cs b)) h b) (nI b) (rkS cs h rp f10 f11 b).2.2 (rkS cs h rp f10 f11 b).2.1, (rkS cs h rp f10 f11 b).2.2 + 1)
theorem rkS_p {cs h : Nat → Int32} {rp : Int32} {f10 f11 : Nat → Int32} {b : Nat} (hb : hs rp b) : rkS cs h rp f10 f11 (b + 1) = rkS cs h rp f10 f11 b := by rw [rkS, if_pos hb]
theorem rkS_n {cs h : Nat → Int32} {rp : Int32} {f10 f11 : Nat → Int32} {b : Nat} (hb : ¬ hs rp b) : rkS cs h rp f10 f11 (b + 1) = (upd (rkS cs h rp f10 f11 b).1 b (cs b), insF (ahX (upd (rkS cs h rp f10 f11 b).1 b (cs b)) h b) (nI b) (rkS cs h rp f10 f11 b).2.2 (rkS cs h rp f10 f11 b).2.1, (rkS cs h rp f10 f11 b).2.2 + 1) := by rw [rkS, if_neg hb]
theorem rkS_in {cs h : Nat → Int32} {rp : Int32} {f10 f11 : Nat → Int32} : ∀ b, (rkS cs h rp f10 f11 b).2.2 ≤ b ∧ ∀ p, p < (rkS cs h rp f10 f11 b).2.2 → ∃ o, o < b ∧ (rkS cs h rp f10 f11 b).2.1 p = nI o
  | 0 => ⟨Nat.le_refl _, fun p hp => absurd hp (Nat.not_lt_zero _)⟩
  | b + 1 => by
    obtain ⟨h1, h2⟩ := rkS_in (cs := cs) (h := h) (rp := rp) (f10 := f10) (f11 := f11) b
    by_cases hb : hs rp b
    · rw [rkS_p hb]
      refine ⟨by omega, fun p hp => ?_⟩
      obtain ⟨o, ho, e⟩ := h2 p hp
      exact ⟨o, by omega, e⟩
    · rw [rkS_n hb]
      refine ⟨by show _ + 1 ≤ b + 1; omega, fun p hp => ?_⟩
      have hp2 : p < (rkS cs h rp f10 f11 b).2.2 + 1 := hp
      rcases insF_mem (ah := ahX (upd (rkS cs h rp f10 f11 b).1 b (cs b)) h b) (v := nI b) (f := (rkS cs h rp f10 f11 b).2.1) (show p ≤ (rkS cs h rp f10 f11 b).2.2 by omega) with h3 | ⟨k, hk, h3⟩
      · exact ⟨b, by omega, h3⟩
      · obtain ⟨o, ho, e⟩ := h2 k hk
        exact ⟨o, by omega, h3.trans e⟩
theorem amtL_congr {A A' : Nat → Nat → Int32} {rp : Int32} {j : Nat} (h3 : A' 3 = A 3) (h7 : A' 7 = A 7) (h8 : A' 8 = A 8) : ∀ k, amtL A' rp j k = amtL A rp j k
  | 0 => by rw [amtL, amtL, h3]
  | k + 1 => by rw [amtL, amtL, amtL_congr h3 h7 h8 k, h7, h8]
theorem csX_congr {A A' : Nat → Nat → Int32} {nb : Nat} {rp sh : Int32} {b : Nat} (h1 : A' 1 = A 1) (h3 : A' 3 = A 3) (h4 : A' 4 = A 4) (h7 : A' 7 = A 7) (h8 : A' 8 = A 8) : csX A' nb rp sh b = csX A nb rp sh b := by
  simp only [csX, prs, amtL_congr h3 h7 h8, h1, h4, h7, h8]
abbrev st2 (S : PS) (fc fb : Nat → Int32) : PS := (S.1, va_up (va_up S.2.1 10 fc) 11 fb, S.2.2)
theorem st2_10 (S : PS) (fc fb g : Nat → Int32) : ((st2 S fc fb).1, va_up (st2 S fc fb).2.1 10 g, (st2 S fc fb).2.2) = st2 S g fb := by
  unfold st2
  simp only
  rw [va_up_cm (va_up S.2.1 10 fc) (j := 11) (k := 10) (by decide), va_up_up]
theorem st2_11 (S : PS) (fc fb g : Nat → Int32) : st11 (st2 S fc fb) g = st2 S fc g := by
  unfold st11 st2
  simp only
  rw [va_up_up]
theorem st2_id (S : PS) : st2 S (S.2.1 10) (S.2.1 11) = S := by
  unfold st2
  rw [va_up_id, va_up_id]
def BnOk (A : Nat → Nat → Int32) (nb : Nat) : Prop := ∀ b, b < nb → ∃ q : Nat, q < 16 ∧ A 7 b = nI q
abbrev rkR (S : PS) (nb : Nat) : (Nat → Int32) × (Nat → Int32) × Nat := rkS (csX S.2.1 nb (S.1 0 14) (S.1 0 6)) (S.2.1 9) (S.1 0 14) (S.2.1 10) (S.2.1 11) nb
theorem r_rankBursts (S : PS) (n nb : Nat) (hX : Xn S n nb) (hB : BnOk S.2.1 nb) : Run 0 47 [.ref 0] S (.inl (some (nI (rkR S nb).2.2))) (st2 S (rkR S nb).1 (rkR S nb).2.1) := by
  have hnb := hX.2.2.2.1
  obtain ⟨R, hR⟩ : ∃ R, R = rkS (csX S.2.1 nb (S.1 0 14) (S.1 0 6)) (S.2.1 9) (S.1 0 14) (S.2.1 10) (S.2.1 11) := ⟨_, rfl⟩
  have e0 : rkR S nb = R nb := by rw [hR]
  rw [e0]
  refine run_of (by decide +kernel) rfl (fun L xs G hG => ?_)
  have main : ∀ b, b ≤ nb → G 0 4 [(2, .int (nI b)), (1, .int (nI (R b).2.2)), (0, .ref 0)] [] (st2 S (R b).1 (R b).2.1) := by
    refine loop_up (fun b hb ih => ?_) ?_
    · have hin := rkS_in (cs := csX S.2.1 nb (S.1 0 14) (S.1 0 6)) (h := S.2.1 9) (rp := S.1 0 14) (f10 := S.2.1 10) (f11 := S.2.1 11) b
      rw [← hR] at hin
      repeat (refine hG.1 _ _ _ _ _ _ rfl ?_)
      rw [show (st2 S (R b).1 (R b).2.1).1 0 10 = nI nb from hX.2.2.1]
      refine And.intro (fun h => ?_) (fun h => ?_)
      · exact absurd h (nI_ge (by omega) (by omega))
      · repeat (refine hG.1 _ _ _ _ _ _ rfl ?_)
        refine cx (r_has _ _ _) rfl ?_
        repeat (refine hG.1 _ _ _ _ _ _ rfl ?_)
        refine And.intro (fun h1 => ?_) (fun h1 => ?_)
        · rw [bi_n] at h1
          have e : R (b + 1) = R b := by rw [hR]; exact rkS_p h1
          rw [e] at ih
          repeat (first | (refine wk hG ?_ (ih); (repeat (refine And.intro (by first | with_reducible rfl | with_reducible exact nI_add _ _ | with_reducible exact pk_m1 _ | rfl) ?_)); exact trivial) | refine hG.1 _ _ _ _ _ _ rfl ?_)
        · rw [bi_0] at h1
          have e : R (b + 1) = (upd (R b).1 b (csX S.2.1 nb (S.1 0 14) (S.1 0 6) b), insF (ahX (upd (R b).1 b (csX S.2.1 nb (S.1 0 14) (S.1 0 6) b)) (S.2.1 9) b) (nI b) (R b).2.2 (R b).2.1, (R b).2.2 + 1) := by rw [hR]; exact rkS_n h1
          rw [e] at ih
          obtain ⟨q, hq, hbq⟩ := hB b hb
          repeat (refine hG.1 _ _ _ _ _ _ rfl ?_)
          refine And.intro rfl (cx (r_costOf (st2 S (R b).1 (R b).2.1) n nb b q (by omega) hq hbq hX) rfl ?_)
          repeat (refine hG.1 _ _ _ _ _ _ rfl ?_)
          refine And.intro (vp_in_nI ((show b < 20 by omega)) (by decide)) ?_; rw [nI_clamp (Nat.lt_trans ((show b < 20 by omega)) (by decide))]
          rw [st2_10, show csX (st2 S (R b).1 (R b).2.1).2.1 nb ((st2 S (R b).1 (R b).2.1).1 0 14) ((st2 S (R b).1 (R b).2.1).1 0 6) b = csX S.2.1 nb (S.1 0 14) (S.1 0 6) b from csX_congr rfl rfl rfl rfl rfl]
          repeat (refine hG.1 _ _ _ _ _ _ rfl ?_)
          refine And.intro rfl (cx (r_insertByRank (st2 S (upd (R b).1 b (csX S.2.1 nb (S.1 0 14) (S.1 0 6) b)) (R b).2.1) b (R b).2.2 (by omega) (by omega) (fun p hp => by obtain ⟨o, ho, e⟩ := hin.2 p hp; exact ⟨o, by omega, e⟩)) rfl ?_)
          rw [st2_11]
          repeat (first | (refine wk hG ?_ (ih); (repeat (refine And.intro (by first | with_reducible rfl | with_reducible exact nI_add _ _ | with_reducible exact pk_m1 _ | rfl) ?_)); exact trivial) | refine hG.1 _ _ _ _ _ _ rfl ?_)
    · repeat (refine hG.1 _ _ _ _ _ _ rfl ?_)
      rw [show (st2 S (R nb).1 (R nb).2.1).1 0 10 = nI nb from hX.2.2.1]
      refine And.intro (fun h => ?_) (fun h => ?_)
      · repeat (refine hG.1 _ _ _ _ _ _ rfl ?_)
        exact And.intro rfl (And.intro rfl rfl)
      · exact absurd (nI_le (Nat.le_refl _) (by omega)) h
  have g := main 0 (Nat.zero_le _)
  have e2 : R 0 = (S.2.1 10, S.2.1 11, 0) := by rw [hR, rkS]
  rw [e2] at g
  simp only [st2_id] at g
  repeat (first | (refine wk hG ?_ (g); (repeat (refine And.intro (by first | with_reducible rfl | with_reducible exact nI_add _ _ | with_reducible exact pk_m1 _ | rfl) ?_)); exact trivial) | refine hG.1 _ _ _ _ _ _ rfl ?_)
