abbrev ush (x y : Int32) : Int32 := (x.toUInt32 >>> (y.toUInt32 &&& Int32.toUInt32 31)).toInt32
abbrev bc1 (x : Int32) : Int32 := x - (ush x (nI 1) &&& nI 1431655765)
abbrev bc2 (x : Int32) : Int32 := (x &&& nI 858993459) + (ush x (nI 2) &&& nI 858993459)
abbrev bc3 (x : Int32) : Int32 := (x + ush x (nI 4)) &&& nI 252645135
abbrev bc4 (x : Int32) : Int32 := x + ush x (nI 8)
abbrev bc5 (x : Int32) : Int32 := x + ush x (nI 16)
def bcI (x : Int32) : Int32 := bc5 (bc4 (bc3 (bc2 (bc1 x)))) &&& nI 63
theorem r_bitCount (S : PS) (x : Int32) : Run 0 121 [.int x] S (.inl (some (bcI x))) S := by
  refine run_of (by decide +kernel) rfl (fun L xs G hG => ?_)
  repeat (refine hG.1 _ _ _ _ _ _ rfl ?_)
  exact And.intro rfl (And.intro rfl rfl)
theorem nI_and (a b : Nat) : nI a &&& nI b = nI (a &&& b) := by
  apply Int32.toBitVec_inj.mp
  rw [Int32.toBitVec_and]
  show BitVec.ofNat 32 a &&& BitVec.ofNat 32 b = BitVec.ofNat 32 (a &&& b)
  rw [BitVec.ofNat_and]
abbrev nb1 (m : Nat) : Nat := m - (m / 2 &&& 1431655765)
abbrev nb2 (m : Nat) : Nat := (m &&& 858993459) + (m / 4 &&& 858993459)
abbrev nb3 (m : Nat) : Nat := (m + m / 16) &&& 252645135
abbrev nb4 (m : Nat) : Nat := m + m / 256
abbrev nb5 (m : Nat) : Nat := m + m / 65536
theorem and_le_div (m c : Nat) : (m / 2 &&& c) ≤ m := Nat.le_trans Nat.and_le_left (Nat.div_le_self _ _)
theorem bc1_n {m : Nat} (h : m < 2 ^ 32) : bc1 (nI m) = nI (nb1 m) := by
  unfold bc1 nb1 ush
  rw [pk_ushrN h (nI 1) 1 (by decide), nI_and, pk_sub (and_le_div m _)]
theorem bc2_n {m : Nat} (h : m < 2 ^ 32) : bc2 (nI m) = nI (nb2 m) := by
  unfold bc2 nb2 ush
  rw [pk_ushrN h (nI 2) 2 (by decide), nI_and, nI_and, nI_add]
theorem bc3_n {m : Nat} (h : m < 2 ^ 32) : bc3 (nI m) = nI (nb3 m) := by
  unfold bc3 nb3 ush
  rw [pk_ushrN h (nI 4) 4 (by decide), nI_add, nI_and]
theorem bc4_n {m : Nat} (h : m < 2 ^ 32) : bc4 (nI m) = nI (nb4 m) := by
  unfold bc4 nb4 ush
  rw [pk_ushrN h (nI 8) 8 (by decide), nI_add]
theorem bc5_n {m : Nat} (h : m < 2 ^ 32) : bc5 (nI m) = nI (nb5 m) := by
  unfold bc5 nb5 ush
  rw [pk_ushrN h (nI 16) 16 (by decide), nI_add]
def nbc (m : Nat) : Nat := nb5 (nb4 (nb3 (nb2 (nb1 m)))) &&& 63
theorem bcI_n {m : Nat} (h : m < 65536) : bcI (nI m) = nI (nbc m) := by
  have h1 : nb1 m < 2 ^ 16 := by unfold nb1; omega
  have h2 : nb2 (nb1 m) < 2 ^ 17 := by
    unfold nb2
    have a := Nat.and_le_left (n := nb1 m) (m := 858993459)
    have b := Nat.and_le_left (n := nb1 m / 4) (m := 858993459)
    omega
  have h3 : nb3 (nb2 (nb1 m)) < 2 ^ 18 := by
    unfold nb3
    have a := Nat.and_le_left (n := nb2 (nb1 m) + nb2 (nb1 m) / 16) (m := 252645135)
    omega
  have h4 : nb4 (nb3 (nb2 (nb1 m))) < 2 ^ 19 := by
    unfold nb4
    omega
  unfold bcI nbc
  rw [bc1_n (by omega), bc2_n (by omega), bc3_n (by omega), bc4_n (by omega), bc5_n (by omega), nI_and]
def cnt (c : Nat → Bool) : Nat → Nat
  | 0 => 0
  | k + 1 => if c k = true then cnt c k + 1 else cnt c k
theorem cnt_t {c : Nat → Bool} {k : Nat} (h : c k = true) : cnt c (k + 1) = cnt c k + 1 := by rw [cnt, if_pos h]
theorem cnt_f {c : Nat → Bool} {k : Nat} (h : ¬ c k = true) : cnt c (k + 1) = cnt c k := by rw [cnt, if_neg h]
theorem cnt_congr {c d : Nat → Bool} : ∀ {k : Nat}, (∀ j, j < k → c j = d j) → cnt c k = cnt d k
  | 0, _ => rfl
  | k + 1, h => by rw [cnt, cnt, cnt_congr (k := k) (fun j hj => h j (by omega)), h k (by omega)]
theorem cnt_le {c : Nat → Bool} : ∀ k, cnt c k ≤ k
  | 0 => Nat.le_refl _
  | k + 1 => by
    have := cnt_le (c := c) k
    rw [cnt]
    split <;> omega
theorem cnt_ext {c : Nat → Bool} {n : Nat} : ∀ {m : Nat}, n ≤ m → (∀ j, n ≤ j → j < m → c j = false) → cnt c m = cnt c n
  | 0, h, _ => by have : n = 0 := by omega
                  subst this; rfl
  | m + 1, h, hc => by
    rcases Nat.lt_or_ge n (m + 1) with h1 | h1
    · rw [cnt_f (by rw [hc m (by omega) (by omega)]; decide), cnt_ext (by omega) (fun j h1 h2 => hc j h1 (by omega))]
    · have : n = m + 1 := by omega
      rw [this]
def popN (m : Nat) : Nat → Nat
  | 0 => 0
  | k + 1 => popN m k + m / 2 ^ k % 2
theorem pop_cnt (m : Nat) : ∀ k, popN m k = cnt (fun j => m.testBit j) k
  | 0 => rfl
  | k + 1 => by
    rw [popN, pop_cnt m k, cnt, ← Nat.toNat_testBit]
    cases h : m.testBit k <;> simp
def frc (m : Nat) (k : Nat → Bool) : Bool := match m with
  | 0 => k 0
  | n + 1 => k (n + 1)
theorem frc_eq (m : Nat) (k : Nat → Bool) : frc m k = k m := by cases m <;> rfl
def chk (m c : Nat) : Bool := frc (Nat.sub m (Nat.land (Nat.div m 2) 1431655765)) fun x => frc (Nat.add (Nat.land x 858993459) (Nat.land (Nat.div x 4) 858993459)) fun x => frc (Nat.land (Nat.add x (Nat.div x 16)) 252645135) fun x => frc (Nat.add x (Nat.div x 256)) fun x => frc (Nat.add x (Nat.div x 65536)) fun x => Nat.beq (Nat.land x 63) c
def allB : Nat → Nat → Nat → Bool
  | 0, m, c => chk m c
  | k + 1, m, c => frc (Nat.mul 2 m) fun x => match allB k x c with
    | true => frc (Nat.succ x) fun y => frc (Nat.succ c) fun d => allB k y d
    | false => false
theorem popN_add (k j : Nat) : ∀ i, i ≤ k → popN (2 ^ k + j) i = popN j i
  | 0, _ => rfl
  | i + 1, h => by
    rw [popN, popN, popN_add k j i (by omega), ← Nat.toNat_testBit, ← Nat.toNat_testBit, Nat.testBit_two_pow_add_gt (by omega)]
theorem allB_eq : ∀ (k m c : Nat), allB k m c = true → ∀ j, j < 2 ^ k → chk (2 ^ k * m + j) (c + popN j k) = true
  | 0, m, c, h, j, hj => by
    have : j = 0 := by omega
    subst this
    rw [show 2 ^ 0 * m + 0 = m by omega]
    exact h
  | k + 1, m, c, h, j, hj => by
    rw [allB, frc_eq] at h
    split at h
    · rename_i h1
      rw [frc_eq, frc_eq] at h
      rcases Nat.lt_or_ge j (2 ^ k) with h2 | h2
      · have h3 := allB_eq k (2 * m) c h1 j h2
        rw [show 2 ^ (k + 1) * m + j = 2 ^ k * (2 * m) + j by rw [Nat.pow_succ, Nat.mul_assoc], popN, Nat.div_eq_of_lt h2]
        exact h3
      · have hp : 2 ^ (k + 1) = 2 ^ k * 2 := Nat.pow_succ 2 k
        have h3 := allB_eq k (2 * m + 1) (c + 1) h (j - 2 ^ k) (by omega)
        have e : 2 ^ k + (j - 2 ^ k) = j := by omega
        have h4 : popN j (k + 1) = popN (j - 2 ^ k) k + 1 := by
          have h5 := popN_add k (j - 2 ^ k) k (Nat.le_refl _)
          rw [e] at h5
          have h6 : j / 2 ^ k = 1 := by
            apply Nat.div_eq_of_lt_le <;> omega
          rw [popN, h5, h6]
        rw [h4, show 2 ^ (k + 1) * m + j = 2 ^ k * (2 * m + 1) + (j - 2 ^ k) by rw [hp, Nat.mul_assoc, Nat.mul_add]; omega, show c + (popN (j - 2 ^ k) k + 1) = c + 1 + popN (j - 2 ^ k) k by omega]
        exact h3
    · cases h
set_option maxRecDepth 100000 in
theorem aB : allB 16 0 0 = true := by decide +kernel
theorem nbc_pop {m : Nat} (h : m < 65536) : nbc m = popN m 16 := by
  have h0 := allB_eq 16 0 0 aB m h
  rw [show 2 ^ 16 * 0 + m = m by omega, Nat.zero_add] at h0
  unfold chk at h0
  simp only [frc_eq] at h0
  exact Nat.eq_of_beq_eq_true h0
theorem bc_cnt {x : Int32} (h : ∀ k, 16 ≤ k → k < 32 → ¬ hs x k) : bcI x = nI (cnt (fun k => decide (hs x k)) 16) := by
  have e : nI x.toBitVec.toNat = x := by
    apply Int32.toBitVec_inj.mp
    show BitVec.ofNat 32 x.toBitVec.toNat = x.toBitVec
    rw [BitVec.ofNat_toNat]
    simp
  have hlt : x.toBitVec.toNat < 65536 := by
    have : x.toBitVec.toNat < 2 ^ 16 := by
      apply Nat.lt_pow_two_of_testBit
      intro i hi
      rcases Nat.lt_or_ge i 32 with h1 | h1
      · have h2 := h i hi h1
        rw [hs_bt h1] at h2
        have h3 : bt x i = x.toBitVec.toNat.testBit i := rfl
        rw [← h3]
        simpa using h2
      · have h2 := bt_ge x h1
        have h3 : bt x i = x.toBitVec.toNat.testBit i := rfl
        rw [← h3]
        simpa using h2
    omega
  rw [← e, bcI_n hlt, nbc_pop hlt, pop_cnt, e]
  congr 1
  apply cnt_congr
  intro j hj
  have h2 := hs_bt (x := x) (show j < 32 by omega)
  have h3 : bt x j = x.toBitVec.toNat.testBit j := rfl
  rw [← h3]
  cases h4 : bt x j
  · rw [h4] at h2
    simpa using h2
  · rw [h4] at h2
    simpa using h2
