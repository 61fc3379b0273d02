theorem q_trans {ci cj ck hi hj hk : Int} (h1 : 0 < hi) (h2 : 0 < hj) (h3 : 0 < hk) (a : cj * hi ≤ ci * hj) (b : ck * hj ≤ cj * hk) : ck * hi ≤ ci * hk := by
  have a' := Int.mul_le_mul_of_nonneg_right a (Int.le_of_lt h3)
  have b' := Int.mul_le_mul_of_nonneg_right b (Int.le_of_lt h1)
  apply Int.le_of_mul_le_mul_right (a := hj) _ h2
  have e1 : ck * hj * hi = ck * hi * hj := Int.mul_right_comm _ _ _
  have e2 : cj * hk * hi = cj * hi * hk := Int.mul_right_comm _ _ _
  have e3 : ci * hj * hk = ci * hk * hj := Int.mul_right_comm _ _ _
  omega
abbrev geQ (c h : Nat → Int) (i j : Nat) : Prop := c j * h i ≤ c i * h j
abbrev AH (c h : Nat → Int) (i j : Nat) : Prop := (geQ c h i j ∧ ¬ geQ c h j i) ∨ (geQ c h i j ∧ geQ c h j i ∧ i < j)
theorem AH_trans {c h : Nat → Int} {i j k : Nat} (hi : 0 < h i) (hj : 0 < h j) (hk : 0 < h k) (a : AH c h i j) (b : AH c h j k) : AH c h i k := by
  have a1 : geQ c h i j := by rcases a with z | z <;> exact z.1
  have b1 : geQ c h j k := by rcases b with z | z <;> exact z.1
  have c1 : geQ c h i k := q_trans hi hj hk a1 b1
  by_cases d : geQ c h k i
  · have e1 : geQ c h k j := q_trans hk hi hj d a1
    have e2 : geQ c h j i := q_trans hj hk hi b1 d
    have f1 : i < j := by
      rcases a with z | z
      · exact absurd e2 z.2
      · exact z.2.2
    have f2 : j < k := by
      rcases b with z | z
      · exact absurd e1 z.2
      · exact z.2.2
    exact Or.inr ⟨c1, d, by omega⟩
  · exact Or.inl ⟨c1, d⟩
theorem AH_irr {c h : Nat → Int} {i : Nat} : ¬ AH c h i i := by
  rintro (z | z)
  · exact z.2 z.1
  · omega
theorem AH_asym {c h : Nat → Int} {i j : Nat} (a : AH c h i j) : ¬ AH c h j i := by
  intro b
  rcases a with z | z <;> rcases b with w | w
  · exact z.2 w.1
  · exact z.2 w.1
  · exact w.2 z.1
  · omega
theorem insF_spec {ah : Int32 → Bool} {v : Int32} : ∀ (m : Nat) (f : Nat → Int32), ∃ pos, pos ≤ m ∧ (∀ p, pos ≤ p → p < m → ah (f p) = true) ∧ (∀ p, p + 1 = pos → ¬ ah (f p) = true) ∧ (∀ p, p < pos → insF ah v m f p = f p) ∧ insF ah v m f pos = v ∧ (∀ p, pos ≤ p → p < m → insF ah v m f (p + 1) = f p)
  | 0, f => ⟨0, Nat.le_refl _, fun p _ h => absurd h (Nat.not_lt_zero _), fun p h => by omega, fun p h => absurd h (Nat.not_lt_zero _), upd_same, fun p _ h => absurd h (Nat.not_lt_zero _)⟩
  | m + 1, f => by
    by_cases h : ah (f m) = true
    · obtain ⟨pos, h1, h2, h3, h4, h5, h6⟩ := insF_spec (ah := ah) (v := v) m (upd f (m + 1) (f m))
      have e : insF ah v (m + 1) f = insF ah v m (upd f (m + 1) (f m)) := by rw [insF, if_pos h]
      rw [e]
      refine ⟨pos, by omega, fun p hp hq => ?_, fun p hp => ?_, fun p hp => ?_, h5, fun p hp hq => ?_⟩
      · by_cases hpm : p = m
        · rw [hpm]; exact h
        · have := h2 p hp (by omega)
          rw [upd_lt (by omega)] at this
          exact this
      · have := h3 p hp
        rw [upd_lt (by omega)] at this
        exact this
      · rw [h4 p hp, upd_lt (by omega)]
      · by_cases hpm : p = m
        · rw [hpm, insF_out (by omega), upd_same]
        · rw [h6 p hp (by omega), upd_lt (by omega)]
    · have e : insF ah v (m + 1) f = upd f (m + 1) v := by rw [insF, if_neg h]
      rw [e]
      refine ⟨m + 1, Nat.le_refl _, fun p hp hq => by omega, fun p hp => ?_, fun p hp => upd_lt (by omega), upd_same, fun p hp hq => by omega⟩
      have : p = m := by omega
      rw [this]
      exact h
theorem mul_toInt {x y : Int32} (h1 : -4294968 ≤ x.toInt) (h2 : x.toInt ≤ 4294968) (h3 : 1 ≤ y.toInt) (h4 : y.toInt ≤ 100) : (x * y).toInt = x.toInt * y.toInt := by
  have b1 : x.toInt * y.toInt ≤ 4294968 * y.toInt := Int.mul_le_mul_of_nonneg_right h2 (by omega)
  have b2 : -4294968 * y.toInt ≤ x.toInt * y.toInt := Int.mul_le_mul_of_nonneg_right h1 (by omega)
  rw [Int32.toInt_mul]
  apply Int.bmod_eq_of_le <;> omega
theorem div_toInt (x : Int32) : -2147484 ≤ (x / nI 1000).toInt ∧ (x / nI 1000).toInt ≤ 2147484 := by
  have h0 : (nI 1000).toInt = 1000 := by decide
  have h1 := Int32.le_toInt x
  have h2 := Int32.toInt_lt x
  have h3 : -2147484 ≤ x.toInt.tdiv 1000 ∧ x.toInt.tdiv 1000 ≤ 2147484 := by
    rcases Int.le_total 0 x.toInt with z | z
    · rw [Int.tdiv_eq_ediv_of_nonneg z]
      omega
    · have e : x.toInt.tdiv 1000 = -((-x.toInt).tdiv 1000) := by rw [Int.neg_tdiv, Int.neg_neg]
      rw [e, Int.tdiv_eq_ediv_of_nonneg (by omega)]
      omega
  rw [Int32.toInt_div, h0, Int.bmod_eq_of_le (by omega) (by omega)]
  exact h3
theorem csX_bd (A : Nat → Nat → Int32) (nb : Nat) (rp sh : Int32) (b : Nat) : -4294968 ≤ (csX A nb rp sh b).toInt ∧ (csX A nb rp sh b).toInt ≤ 4294968 := by
  unfold csX
  split
  · decide
  · obtain ⟨a1, a2⟩ := div_toInt (amtL A rp (A 7 b).toNatClampNeg nb * fac (prs A (A 7 b).toNatClampNeg))
    obtain ⟨b1, b2⟩ := div_toInt ((amtL A rp (A 7 b).toNatClampNeg nb - A 8 b) * fac (prs A (A 7 b).toNatClampNeg))
    rw [Int32.toInt_sub, Int.bmod_eq_of_le (by omega) (by omega)]
    omega
def Bd (cs h : Nat → Int32) (nb : Nat) : Prop := (∀ b, -4294968 ≤ (cs b).toInt ∧ (cs b).toInt ≤ 4294968) ∧ ∀ b, b < nb → 1 ≤ (h b).toInt ∧ (h b).toInt ≤ 100
abbrev iz (f : Nat → Int32) : Nat → Int := fun k => (f k).toInt
theorem ahM_iff {cs h : Nat → Int32} {nb j k : Nat} (hB : Bd cs h nb) (hj : j < nb) (hk : k < nb) : ahM cs h j k ↔ AH (iz cs) (iz h) j k := by
  have e1 : (cs k * h j).toInt = (cs k).toInt * (h j).toInt := mul_toInt (hB.1 k).1 (hB.1 k).2 (hB.2 j hj).1 (hB.2 j hj).2
  have e2 : (cs j * h k).toInt = (cs j).toInt * (h k).toInt := mul_toInt (hB.1 j).1 (hB.1 j).2 (hB.2 k hk).1 (hB.2 k hk).2
  unfold ahM AH geQ iz
  rw [Int32.lt_iff_toInt_lt, ← Int32.toInt_inj, e1, e2]
  generalize (cs k).toInt * (h j).toInt = X
  generalize (cs j).toInt * (h k).toInt = Y
  omega
theorem ahX_iff {cs h fc : Nat → Int32} {nb b o : Nat} (hB : Bd cs h nb) (hb : b < nb) (ho : o < b) (h1 : fc b = cs b) (h2 : fc o = cs o) (hnb : nb ≤ 20) : ahX fc h b (nI o) = true ↔ AH (iz cs) (iz h) b o := by
  have e1 : (cs b * h o).toInt = (cs b).toInt * (h o).toInt := mul_toInt (hB.1 b).1 (hB.1 b).2 (hB.2 o (by omega)).1 (hB.2 o (by omega)).2
  have e2 : (cs o * h b).toInt = (cs o).toInt * (h b).toInt := mul_toInt (hB.1 o).1 (hB.1 o).2 (hB.2 b hb).1 (hB.2 b hb).2
  unfold ahX AH geQ iz
  rw [nI_clamp (by omega), decide_eq_true_eq, h1, h2, Int32.le_iff_toInt_le, e1, e2]
  generalize (cs b).toInt * (h o).toInt = X
  generalize (cs o).toInt * (h b).toInt = Y
  omega
def RkI (cs h : Nat → Int32) (rp : Int32) (fc fb : Nat → Int32) (l : Nat → Nat) (m i : Nat) : Prop :=
  (∀ p, p < m → fb p = nI (l p) ∧ l p < i ∧ ¬ hs rp (l p)) ∧ (∀ k, k < i → ¬ hs rp k → fc k = cs k ∧ ∃ p, p < m ∧ l p = k) ∧ ∀ p q, p < q → q < m → AH (iz cs) (iz h) (l p) (l q)
theorem rkS_ok {cs h f10 f11 : Nat → Int32} {rp : Int32} {nb : Nat} (hB : Bd cs h nb) (hnb : nb ≤ 20) : ∀ i, i ≤ nb → ∃ l : Nat → Nat, RkI cs h rp (rkS cs h rp f10 f11 i).1 (rkS cs h rp f10 f11 i).2.1 l (rkS cs h rp f10 f11 i).2.2 i
  | 0, _ => ⟨fun _ => 0, fun p hp => absurd hp (Nat.not_lt_zero _), fun k hk => absurd hk (Nat.not_lt_zero _), fun p q _ hq => absurd hq (Nat.not_lt_zero _)⟩
  | i + 1, hi => by
    obtain ⟨l, h1, h2, h3⟩ := rkS_ok (f10 := f10) (f11 := f11) (rp := rp) hB hnb i (by omega)
    by_cases hr : hs rp i
    · rw [rkS_p hr]
      refine ⟨l, fun p hp => ⟨(h1 p hp).1, by have := (h1 p hp).2.1; omega, (h1 p hp).2.2⟩, fun k hk hkr => ?_, h3⟩
      rcases Nat.lt_or_ge k i with z | z
      · exact h2 k z hkr
      · have : k = i := by omega
        subst this
        exact absurd hr hkr
    · rw [rkS_n hr]
      obtain ⟨R, hR⟩ : ∃ R, R = rkS cs h rp f10 f11 i := ⟨_, rfl⟩
      rw [← hR] at h1 h2 h3 ⊢
      obtain ⟨fc, fb, m⟩ := R
      simp only at h1 h2 h3 ⊢
      obtain ⟨ah, hah⟩ : ∃ ah, ah = ahX (upd fc i (cs i)) h i := ⟨_, rfl⟩
      rw [← hah]
      obtain ⟨pos, g1, g2, g3, g4, g5, g6⟩ := insF_spec (ah := ah) (v := nI i) m fb
      have hahp : ∀ p, p < m → (ah (fb p) = true ↔ AH (iz cs) (iz h) i (l p)) := by
        intro p hp
        obtain ⟨e, hl, hlr⟩ := h1 p hp
        rw [hah, e]
        exact ahX_iff hB (by omega) hl upd_same (by rw [upd_lt (by omega)]; exact (h2 _ hl hlr).1) hnb
      have hpos : ∀ b, b < nb → 0 < iz h b := fun b hb => by have := (hB.2 b hb).1; exact this
      have hbef : ∀ p, p < pos → AH (iz cs) (iz h) (l p) i := by
        intro p hp
        obtain ⟨r, hr2⟩ : ∃ r, r + 1 = pos := ⟨pos - 1, by omega⟩
        have hno := g3 r hr2
        rw [hahp r (by omega)] at hno
        have hlr := (h1 r (by omega)).2.1
        have hlast : AH (iz cs) (iz h) (l r) i := by
          unfold AH geQ at hno ⊢
          omega
        by_cases hpr : p = r
        · rw [hpr]; exact hlast
        · have hlp := (h1 p (by omega)).2.1
          exact AH_trans (hpos _ (by omega)) (hpos _ (by omega)) (hpos _ (by omega)) (h3 p r (by omega) (by omega)) hlast
      have hbeh : ∀ p, pos ≤ p → p < m → AH (iz cs) (iz h) i (l p) := fun p hp hq => (hahp p hq).mp (g2 p hp hq)
      refine ⟨fun p => if p < pos then l p else if p = pos then i else l (p - 1), ?_, ?_, ?_⟩
      · intro p hp
        by_cases z : p < pos
        · simp only [if_pos z]
          rw [g4 p z]
          have := h1 p (by omega)
          exact ⟨this.1, by omega, this.2.2⟩
        · by_cases w : p = pos
          · simp only [if_neg z, if_pos w]
            rw [w, g5]
            exact ⟨rfl, by omega, hr⟩
          · simp only [if_neg z, if_neg w]
            have e : insF ah (nI i) m fb p = fb (p - 1) := by
              have := g6 (p - 1) (by omega) (by omega)
              rw [show p - 1 + 1 = p by omega] at this
              exact this
            rw [e]
            have := h1 (p - 1) (by omega)
            exact ⟨this.1, by omega, this.2.2⟩
      · intro k hk hkr
        by_cases z : k = i
        · subst z
          refine ⟨upd_same, pos, by omega, ?_⟩
          simp only [if_neg (Nat.lt_irrefl pos), if_pos]
        · obtain ⟨e, p, hp, hl⟩ := h2 k (by omega) hkr
          refine ⟨by rw [upd_lt z]; exact e, ?_⟩
          by_cases w : p < pos
          · exact ⟨p, by omega, by simp only [if_pos w]; exact hl⟩
          · refine ⟨p + 1, by omega, ?_⟩
            simp only [if_neg (show ¬ p + 1 < pos by omega), if_neg (show ¬ p + 1 = pos by omega), Nat.add_sub_cancel]
            exact hl
      · intro p q hpq hq
        by_cases z : q < pos
        · simp only [if_pos z, if_pos (show p < pos by omega)]
          exact h3 p q hpq (by omega)
        · by_cases w : q = pos
          · simp only [if_neg z, if_pos w, if_pos (show p < pos by omega)]
            exact hbef p (by omega)
          · simp only [if_neg z, if_neg w]
            by_cases y : p < pos
            · simp only [if_pos y]
              exact h3 p (q - 1) (by omega) (by omega)
            · by_cases x : p = pos
              · simp only [if_neg y, if_pos x]
                exact hbeh (q - 1) (by omega) (by omega)
              · simp only [if_neg y, if_neg x]
                exact h3 (p - 1) (q - 1) (by omega) (by omega)
def memL (l : Nat → Nat) : Nat → Nat → Bool
  | 0, _ => false
  | p + 1, j => decide (l p = j) || memL l p j
theorem memL_iff {l : Nat → Nat} {j : Nat} : ∀ {p : Nat}, memL l p j = true ↔ ∃ q, q < p ∧ l q = j
  | 0 => ⟨fun h => (by simp [memL] at h), fun ⟨q, h, _⟩ => absurd h (Nat.not_lt_zero _)⟩
  | p + 1 => by
    rw [memL, Bool.or_eq_true, decide_eq_true_eq, memL_iff]
    constructor
    · rintro (h | ⟨q, h1, h2⟩)
      · exact ⟨p, by omega, h⟩
      · exact ⟨q, by omega, h2⟩
    · rintro ⟨q, h1, h2⟩
      by_cases z : q = p
      · subst z; exact Or.inl h2
      · exact Or.inr ⟨q, by omega, h2⟩
theorem cnt_ins {c : Nat → Bool} {x : Nat} (hc : c x = false) : ∀ {n : Nat}, cnt (fun j => decide (x = j) || c j) n = if x < n then cnt c n + 1 else cnt c n
  | 0 => by rw [if_neg (Nat.not_lt_zero _)]; rfl
  | n + 1 => by
    have ih := cnt_ins hc (n := n)
    rw [cnt, cnt, ih]
    by_cases hx : x = n
    · subst hx
      simp [hc]
    · by_cases hlt : x < n
      · simp only [hx, decide_false, Bool.false_or, if_pos hlt, if_pos (show x < n + 1 by omega)]
        split <;> omega
      · simp only [hx, decide_false, Bool.false_or, if_neg hlt, if_neg (show ¬ x < n + 1 by omega)]
theorem cnt_mem {l : Nat → Nat} {m nb : Nat} (h1 : ∀ p, p < m → l p < nb) (h2 : ∀ p q, p < q → q < m → l p ≠ l q) : ∀ p, p ≤ m → cnt (memL l p) nb = p
  | 0, _ => by
    have : ∀ n, cnt (memL l 0) n = 0 := by
      intro n
      induction n with
      | zero => rfl
      | succ n ih => rw [cnt, ih]; rfl
    exact this nb
  | p + 1, hp => by
    have hc : memL l p (l p) = false := by
      cases h : memL l p (l p)
      · rfl
      · obtain ⟨q, hq, e⟩ := memL_iff.mp h
        exact absurd e (h2 q p hq (by omega))
    have e : memL l (p + 1) = fun j => decide (l p = j) || memL l p j := by
      funext j
      rw [memL]
    rw [e, cnt_ins hc, if_pos (h1 p (by omega)), cnt_mem h1 h2 p (by omega)]
theorem rank_agree {cs h f10 f11 : Nat → Int32} {rp : Int32} {nb : Nat} (hB : Bd cs h nb) (hnb : nb ≤ 20) : ∃ l : Nat → Nat, (∀ p, p < (rkS cs h rp f10 f11 nb).2.2 → (rkS cs h rp f10 f11 nb).2.1 p = nI (l p) ∧ l p < nb ∧ ¬ hs rp (l p) ∧ rkN cs h rp nb (l p) = p) ∧ ∀ k, k < nb → ¬ hs rp k → ∃ p, p < (rkS cs h rp f10 f11 nb).2.2 ∧ l p = k := by
  obtain ⟨l, h1, h2, h3⟩ := rkS_ok (f10 := f10) (f11 := f11) (rp := rp) hB hnb nb (Nat.le_refl _)
  refine ⟨l, fun p hp => ⟨(h1 p hp).1, (h1 p hp).2.1, (h1 p hp).2.2, ?_⟩, fun k hk hkr => (h2 k hk hkr).2⟩
  have hinj : ∀ p q, p < q → q < (rkS cs h rp f10 f11 nb).2.2 → l p ≠ l q := by
    intro p q hpq hq e
    have := h3 p q hpq hq
    rw [e] at this
    exact AH_irr this
  have hc := cnt_mem (fun p hp => (h1 p hp).2.1) hinj p (by omega)
  refine Eq.trans ?_ hc
  apply cnt_congr
  intro j hj
  have key : (¬ hs rp j ∧ j ≠ l p ∧ ahM cs h j (l p)) ↔ memL l p j = true := by
    rw [memL_iff]
    constructor
    · rintro ⟨a, b, c⟩
      rw [ahM_iff hB hj (h1 p hp).2.1] at c
      obtain ⟨q, hq, e⟩ := (h2 j hj a).2
      subst e
      refine ⟨q, ?_, rfl⟩
      rcases Nat.lt_trichotomy q p with z | z | z
      · exact z
      · subst z; exact absurd rfl b
      · exact absurd c (AH_asym (h3 p q z hq))
    · rintro ⟨q, hq, e⟩
      subst e
      refine ⟨(h1 q (by omega)).2.2, hinj q p hq hp, ?_⟩
      rw [ahM_iff hB hj (h1 p hp).2.1]
      exact h3 q p hq hp
  cases hm : memL l p j
  · rw [hm] at key
    exact decide_eq_false (fun z => by have := key.mp z; cases this)
  · rw [hm] at key
    exact decide_eq_true (key.mpr rfl)
