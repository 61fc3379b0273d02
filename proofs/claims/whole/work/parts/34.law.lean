theorem cxP {i : Nat} {P : Nat → PR → PS → Prop} {K : KT} {k k' Km nx ax : Nat} {as rest : List Value} {ls : PL} {S S' : PS} {r : PR} (h : Run k' ax as S r S') (hk : k + k' ≤ Km) (g : callK i P K (k + k') nx ls rest r S') : ∃ (k' : Nat) (r : PR) (S' : PS), Run k' ax as S r S' ∧ k + k' ≤ Km ∧ callK i P K (k + k') nx ls rest r S' := ⟨k', r, S', h, hk, g⟩
abbrev LL (i : Nat) : PL := [(4, .int (nI (4 * i))), (0, .retAddr 0), (1, .ref 0), (2, .ref 12), (3, .ref 26)]
abbrev xsA (xs : Nat → Int32) (i j : Nat) : Int32 := xs (nI (4 * i) + nI j).toNatClampNeg
theorem vin {L i j : Nat} (h : 4 * i + j < L) (hL : L ≤ 2048) : vp_in (nI (4 * i) + nI j) L := by
  rw [nI_add]
  exact vp_in_nI h (by omega)
theorem nI_z {kc : Nat} (h : kc ≤ 3) (w : nI kc = 0) : kc = 0 := (nI_eq (by omega) (by decide)).mp (w.trans (rfl : (0 : Int32) = nI 0))
theorem cmp0 {x y : Int64} (h : x = y) : lg_cmp x y = 0 := (lg_cmp_eq x y).mpr h
theorem gapL {L : Nat} (hL : L ≤ 2048) : (Int32.ofNat L - nI 4).toInt = (L : Int) - (4 : Nat) := pk_sub_toInt (by omega) (by omega)
theorem ltS {L i : Nat} (hL : L ≤ 2048) (hi : i ≤ 512) (h : L < 4 * i + 4) : Int32.ofNat L - nI 4 < nI (4 * i) := by
  rw [Int32.lt_iff_toInt_lt, gapL hL, nI_toInt (by omega)]
  omega
theorem ltN {L i : Nat} (hL : L ≤ 2048) (h : 4 * i + 3 < L) : ¬ Int32.ofNat L - nI 4 < nI (4 * i) := by
  rw [Int32.lt_iff_toInt_lt, gapL hL, nI_toInt (by omega)]
  omega
theorem offO {o tg : Nat} {off : Int} (ho : o < 23) (h4 : (#[105, 173, 241, 309, 372, 435, 498, 554, 610, 623, 679, 747, 803, 859, 915, 971, 1027, 1095, 1163, 1243, 1299, 1355, 1411] : Array Int)[o]? = some off) (h5 : (((144 : Nat) : Int) - 105) + off = (tg : Int)) : tg = ([144, 212, 280, 348, 411, 474, 537, 593, 649, 662, 718, 786, 842, 898, 954, 1010, 1066, 1134, 1202, 1282, 1338, 1394, 1450] : List Nat).getD o 0 := by
  rcases (show o = 0 ∨ o = 1 ∨ o = 2 ∨ o = 3 ∨ o = 4 ∨ o = 5 ∨ o = 6 ∨ o = 7 ∨ o = 8 ∨ o = 9 ∨ o = 10 ∨ o = 11 ∨ o = 12 ∨ o = 13 ∨ o = 14 ∨ o = 15 ∨ o = 16 ∨ o = 17 ∨ o = 18 ∨ o = 19 ∨ o = 20 ∨ o = 21 ∨ o = 22 by omega) with rfl | rfl | rfl | rfl | rfl | rfl | rfl | rfl | rfl | rfl | rfl | rfl | rfl | rfl | rfl | rfl | rfl | rfl | rfl | rfl | rfl | rfl | rfl
  · have e : (105 : Int) = off := Option.some.inj h4
    show tg = 144
    omega
  · have e : (173 : Int) = off := Option.some.inj h4
    show tg = 212
    omega
  · have e : (241 : Int) = off := Option.some.inj h4
    show tg = 280
    omega
  · have e : (309 : Int) = off := Option.some.inj h4
    show tg = 348
    omega
  · have e : (372 : Int) = off := Option.some.inj h4
    show tg = 411
    omega
  · have e : (435 : Int) = off := Option.some.inj h4
    show tg = 474
    omega
  · have e : (498 : Int) = off := Option.some.inj h4
    show tg = 537
    omega
  · have e : (554 : Int) = off := Option.some.inj h4
    show tg = 593
    omega
  · have e : (610 : Int) = off := Option.some.inj h4
    show tg = 649
    omega
  · have e : (623 : Int) = off := Option.some.inj h4
    show tg = 662
    omega
  · have e : (679 : Int) = off := Option.some.inj h4
    show tg = 718
    omega
  · have e : (747 : Int) = off := Option.some.inj h4
    show tg = 786
    omega
  · have e : (803 : Int) = off := Option.some.inj h4
    show tg = 842
    omega
  · have e : (859 : Int) = off := Option.some.inj h4
    show tg = 898
    omega
  · have e : (915 : Int) = off := Option.some.inj h4
    show tg = 954
    omega
  · have e : (971 : Int) = off := Option.some.inj h4
    show tg = 1010
    omega
  · have e : (1027 : Int) = off := Option.some.inj h4
    show tg = 1066
    omega
  · have e : (1095 : Int) = off := Option.some.inj h4
    show tg = 1134
    omega
  · have e : (1163 : Int) = off := Option.some.inj h4
    show tg = 1202
    omega
  · have e : (1243 : Int) = off := Option.some.inj h4
    show tg = 1282
    omega
  · have e : (1299 : Int) = off := Option.some.inj h4
    show tg = 1338
    omega
  · have e : (1355 : Int) = off := Option.some.inj h4
    show tg = 1394
    omega
  · have e : (1411 : Int) = off := Option.some.inj h4
    show tg = 1450
    omega
theorem offA : ∀ o : Nat, o ≤ ((22 : Int) - 0).toNat → (#[105, 173, 241, 309, 372, 435, 498, 554, 610, 623, 679, 747, 803, 859, 915, 971, 1027, 1095, 1163, 1243, 1299, 1355, 1411] : Array Int)[o]?.isSome = true ∧ ∃ tg : Nat, (((144 : Nat) : Int) - 105) + ((#[105, 173, 241, 309, 372, 435, 498, 554, 610, 623, 679, 747, 803, 859, 915, 971, 1027, 1095, 1163, 1243, 1299, 1355, 1411] : Array Int)[o]?).getD 0 = (tg : Int) := by
  intro o ho
  have ho2 : o ≤ 22 := ho
  rcases (show o = 0 ∨ o = 1 ∨ o = 2 ∨ o = 3 ∨ o = 4 ∨ o = 5 ∨ o = 6 ∨ o = 7 ∨ o = 8 ∨ o = 9 ∨ o = 10 ∨ o = 11 ∨ o = 12 ∨ o = 13 ∨ o = 14 ∨ o = 15 ∨ o = 16 ∨ o = 17 ∨ o = 18 ∨ o = 19 ∨ o = 20 ∨ o = 21 ∨ o = 22 by omega) with rfl | rfl | rfl | rfl | rfl | rfl | rfl | rfl | rfl | rfl | rfl | rfl | rfl | rfl | rfl | rfl | rfl | rfl | rfl | rfl | rfl | rfl | rfl
  · exact ⟨rfl, 144, rfl⟩
  · exact ⟨rfl, 212, rfl⟩
  · exact ⟨rfl, 280, rfl⟩
  · exact ⟨rfl, 348, rfl⟩
  · exact ⟨rfl, 411, rfl⟩
  · exact ⟨rfl, 474, rfl⟩
  · exact ⟨rfl, 537, rfl⟩
  · exact ⟨rfl, 593, rfl⟩
  · exact ⟨rfl, 649, rfl⟩
  · exact ⟨rfl, 662, rfl⟩
  · exact ⟨rfl, 718, rfl⟩
  · exact ⟨rfl, 786, rfl⟩
  · exact ⟨rfl, 842, rfl⟩
  · exact ⟨rfl, 898, rfl⟩
  · exact ⟨rfl, 954, rfl⟩
  · exact ⟨rfl, 1010, rfl⟩
  · exact ⟨rfl, 1066, rfl⟩
  · exact ⟨rfl, 1134, rfl⟩
  · exact ⟨rfl, 1202, rfl⟩
  · exact ⟨rfl, 1282, rfl⟩
  · exact ⟨rfl, 1338, rfl⟩
  · exact ⟨rfl, 1394, rfl⟩
  · exact ⟨rfl, 1450, rfl⟩
section LAW
variable {L : Nat} {xs : Nat → Int32} {P : Nat → PR → PS → Prop} {G : KT}
set_option maxRecDepth 100000 in
theorem law_addNode (hG : Cl 120 L xs 512 P G) (hL : L ≤ 2048) {i k : Nat} {S : PS} (hi : 4 * i + 3 < L) (hk : k ≤ i) (hJ : JJ S) (nx : ∀ (k1 : Nat) (S1 : PS), k1 ≤ k + 1 → JJ S1 → G k1 1506 (LL i) [] S1) : G k 144 (LL i) [] S := by
  obtain ⟨n, na, nb, hJ⟩ := hJ
  obtain ⟨k', kc, b, S1, S2, hk1, h1, h2, h3, h4, h5, hJ2⟩ := j_addNode S (xsA xs i 1) (xsA xs i 2) hJ
  repeat (refine hG.1 _ _ _ _ _ _ rfl ?_)
  refine And.intro (vin (j := 1) (by omega) hL) ?_
  repeat (refine hG.1 _ _ _ _ _ _ rfl ?_)
  refine And.intro (vin (j := 2) (by omega) hL) ?_
  repeat (refine hG.1 _ _ _ _ _ _ rfl ?_)
  refine cxP h1 (by omega) ?_
  repeat (refine hG.1 _ _ _ _ _ _ rfl ?_)
  refine And.intro (vin (j := 1) (by omega) hL) ?_
  repeat (refine hG.1 _ _ _ _ _ _ rfl ?_)
  refine And.intro (vin (j := 2) (by omega) hL) ?_
  repeat (refine hG.1 _ _ _ _ _ _ rfl ?_)
  refine And.intro rfl (cxP h2 (by omega) ?_)
  repeat (refine hG.1 _ _ _ _ _ _ rfl ?_)
  refine And.intro rfl (cxP (m_thrown S2) (by omega) ?_)
  repeat (refine hG.1 _ _ _ _ _ _ rfl ?_)
  refine And.intro (fun _ => ?_) (fun h => absurd h3 h)
  repeat (refine hG.1 _ _ _ _ _ _ rfl ?_)
  refine And.intro (fun _ => ?_) (fun w => ?_)
  · repeat (first | exact wk hG (by (repeat (refine And.intro rfl ?_)); exact trivial) (nx _ _ (by omega) hJ2) | refine hG.1 _ _ _ _ _ _ rfl ?_)
  have h6 := h5 (nI_z h4 w)
  repeat (refine hG.1 _ _ _ _ _ _ rfl ?_)
  refine And.intro (vp_in_nI (show 0 < 1 by omega) (by decide)) ?_
  rw [nI_clamp (by decide), h6]
  repeat (refine hG.1 _ _ _ _ _ _ rfl ?_)
  refine And.intro (fun _ => ?_) (fun h => absurd (cmp0 (if_neg Bool.false_ne_true)) h)
  repeat (first | exact wk hG (by (repeat (refine And.intro rfl ?_)); exact trivial) (nx _ _ (by omega) hJ2) | refine hG.1 _ _ _ _ _ _ rfl ?_)
set_option maxRecDepth 100000 in
theorem law_setBackground (hG : Cl 120 L xs 512 P G) (hL : L ≤ 2048) {i k : Nat} {S : PS} (hi : 4 * i + 3 < L) (hk : k ≤ i) (hJ : JJ S) (nx : ∀ (k1 : Nat) (S1 : PS), k1 ≤ k + 1 → JJ S1 → G k1 1506 (LL i) [] S1) : G k 212 (LL i) [] S := by
  obtain ⟨n, na, nb, hJ⟩ := hJ
  obtain ⟨k', kc, b, S1, S2, hk1, h1, h2, h3, h4, h5, hJ2⟩ := j_setBackground S (xsA xs i 1) (xsA xs i 2) hJ
  repeat (refine hG.1 _ _ _ _ _ _ rfl ?_)
  refine And.intro (vin (j := 1) (by omega) hL) ?_
  repeat (refine hG.1 _ _ _ _ _ _ rfl ?_)
  refine And.intro (vin (j := 2) (by omega) hL) ?_
  repeat (refine hG.1 _ _ _ _ _ _ rfl ?_)
  refine cxP h1 (by omega) ?_
  repeat (refine hG.1 _ _ _ _ _ _ rfl ?_)
  refine And.intro (vin (j := 1) (by omega) hL) ?_
  repeat (refine hG.1 _ _ _ _ _ _ rfl ?_)
  refine And.intro (vin (j := 2) (by omega) hL) ?_
  repeat (refine hG.1 _ _ _ _ _ _ rfl ?_)
  refine And.intro rfl (cxP h2 (by omega) ?_)
  repeat (refine hG.1 _ _ _ _ _ _ rfl ?_)
  refine And.intro rfl (cxP (m_thrown S2) (by omega) ?_)
  repeat (refine hG.1 _ _ _ _ _ _ rfl ?_)
  refine And.intro (fun _ => ?_) (fun h => absurd h3 h)
  repeat (refine hG.1 _ _ _ _ _ _ rfl ?_)
  refine And.intro (fun _ => ?_) (fun w => ?_)
  · repeat (first | exact wk hG (by (repeat (refine And.intro rfl ?_)); exact trivial) (nx _ _ (by omega) hJ2) | refine hG.1 _ _ _ _ _ _ rfl ?_)
  have h6 := h5 (nI_z h4 w)
  repeat (refine hG.1 _ _ _ _ _ _ rfl ?_)
  refine And.intro (vp_in_nI (show 0 < 1 by omega) (by decide)) ?_
  rw [nI_clamp (by decide), h6]
  repeat (refine hG.1 _ _ _ _ _ _ rfl ?_)
  refine And.intro (fun _ => ?_) (fun h => absurd (cmp0 (if_neg Bool.false_ne_true)) h)
  repeat (first | exact wk hG (by (repeat (refine And.intro rfl ?_)); exact trivial) (nx _ _ (by omega) hJ2) | refine hG.1 _ _ _ _ _ _ rfl ?_)
set_option maxRecDepth 100000 in
theorem law_setPressure (hG : Cl 120 L xs 512 P G) (hL : L ≤ 2048) {i k : Nat} {S : PS} (hi : 4 * i + 3 < L) (hk : k ≤ i) (hJ : JJ S) (nx : ∀ (k1 : Nat) (S1 : PS), k1 ≤ k + 1 → JJ S1 → G k1 1506 (LL i) [] S1) : G k 280 (LL i) [] S := by
  obtain ⟨n, na, nb, hJ⟩ := hJ
  obtain ⟨k', kc, b, S1, S2, hk1, h1, h2, h3, h4, h5, hJ2⟩ := j_setPressure S (xsA xs i 1) (xsA xs i 2) hJ
  repeat (refine hG.1 _ _ _ _ _ _ rfl ?_)
  refine And.intro (vin (j := 1) (by omega) hL) ?_
  repeat (refine hG.1 _ _ _ _ _ _ rfl ?_)
  refine And.intro (vin (j := 2) (by omega) hL) ?_
  repeat (refine hG.1 _ _ _ _ _ _ rfl ?_)
  refine cxP h1 (by omega) ?_
  repeat (refine hG.1 _ _ _ _ _ _ rfl ?_)
  refine And.intro (vin (j := 1) (by omega) hL) ?_
  repeat (refine hG.1 _ _ _ _ _ _ rfl ?_)
  refine And.intro (vin (j := 2) (by omega) hL) ?_
  repeat (refine hG.1 _ _ _ _ _ _ rfl ?_)
  refine And.intro rfl (cxP h2 (by omega) ?_)
  repeat (refine hG.1 _ _ _ _ _ _ rfl ?_)
  refine And.intro rfl (cxP (m_thrown S2) (by omega) ?_)
  repeat (refine hG.1 _ _ _ _ _ _ rfl ?_)
  refine And.intro (fun _ => ?_) (fun h => absurd h3 h)
  repeat (refine hG.1 _ _ _ _ _ _ rfl ?_)
  refine And.intro (fun _ => ?_) (fun w => ?_)
  · repeat (first | exact wk hG (by (repeat (refine And.intro rfl ?_)); exact trivial) (nx _ _ (by omega) hJ2) | refine hG.1 _ _ _ _ _ _ rfl ?_)
  have h6 := h5 (nI_z h4 w)
  repeat (refine hG.1 _ _ _ _ _ _ rfl ?_)
  refine And.intro (vp_in_nI (show 0 < 1 by omega) (by decide)) ?_
  rw [nI_clamp (by decide), h6]
  repeat (refine hG.1 _ _ _ _ _ _ rfl ?_)
  refine And.intro (fun _ => ?_) (fun h => absurd (cmp0 (if_neg Bool.false_ne_true)) h)
  repeat (first | exact wk hG (by (repeat (refine And.intro rfl ?_)); exact trivial) (nx _ _ (by omega) hJ2) | refine hG.1 _ _ _ _ _ _ rfl ?_)
set_option maxRecDepth 100000 in
theorem law_addMeter (hG : Cl 120 L xs 512 P G) (hL : L ≤ 2048) {i k : Nat} {S : PS} (hi : 4 * i + 3 < L) (hk : k ≤ i) (hJ : JJ S) (nx : ∀ (k1 : Nat) (S1 : PS), k1 ≤ k + 1 → JJ S1 → G k1 1506 (LL i) [] S1) : G k 348 (LL i) [] S := by
  obtain ⟨n, na, nb, hJ⟩ := hJ
  obtain ⟨k', kc, b, S1, S2, hk1, h1, h2, h3, h4, h5, hJ2⟩ := j_addMeter S (xsA xs i 1) hJ
  repeat (refine hG.1 _ _ _ _ _ _ rfl ?_)
  refine And.intro (vin (j := 1) (by omega) hL) ?_
  repeat (refine hG.1 _ _ _ _ _ _ rfl ?_)
  refine cxP h1 (by omega) ?_
  repeat (refine hG.1 _ _ _ _ _ _ rfl ?_)
  refine And.intro (vin (j := 1) (by omega) hL) ?_
  repeat (refine hG.1 _ _ _ _ _ _ rfl ?_)
  refine And.intro rfl (cxP h2 (by omega) ?_)
  repeat (refine hG.1 _ _ _ _ _ _ rfl ?_)
  refine And.intro rfl (cxP (m_thrown S2) (by omega) ?_)
  repeat (refine hG.1 _ _ _ _ _ _ rfl ?_)
  refine And.intro (fun _ => ?_) (fun h => absurd h3 h)
  repeat (refine hG.1 _ _ _ _ _ _ rfl ?_)
  refine And.intro (fun _ => ?_) (fun w => ?_)
  · repeat (first | exact wk hG (by (repeat (refine And.intro rfl ?_)); exact trivial) (nx _ _ (by omega) hJ2) | refine hG.1 _ _ _ _ _ _ rfl ?_)
  have h6 := h5 (nI_z h4 w)
  repeat (refine hG.1 _ _ _ _ _ _ rfl ?_)
  refine And.intro (vp_in_nI (show 0 < 1 by omega) (by decide)) ?_
  rw [nI_clamp (by decide), h6]
  repeat (refine hG.1 _ _ _ _ _ _ rfl ?_)
  refine And.intro (fun w2 => ?_) (fun w2 => ?_)
  · repeat (refine hG.1 _ _ _ _ _ _ rfl ?_)
    refine And.intro (fun _ => ?_) (fun h => absurd (cmp0 ((if_pos rfl).trans (if_pos w2))) h)
    repeat (first | exact wk hG (by (repeat (refine And.intro rfl ?_)); exact trivial) (nx _ _ (by omega) hJ2) | refine hG.1 _ _ _ _ _ _ rfl ?_)
  · repeat (refine hG.1 _ _ _ _ _ _ rfl ?_)
    refine And.intro (fun _ => ?_) (fun h => absurd (cmp0 ((if_pos rfl).trans (if_neg w2))) h)
    repeat (first | exact wk hG (by (repeat (refine And.intro rfl ?_)); exact trivial) (nx _ _ (by omega) hJ2) | refine hG.1 _ _ _ _ _ _ rfl ?_)
set_option maxRecDepth 100000 in
theorem law_toggleValve (hG : Cl 120 L xs 512 P G) (hL : L ≤ 2048) {i k : Nat} {S : PS} (hi : 4 * i + 3 < L) (hk : k ≤ i) (hJ : JJ S) (nx : ∀ (k1 : Nat) (S1 : PS), k1 ≤ k + 1 → JJ S1 → G k1 1506 (LL i) [] S1) : G k 411 (LL i) [] S := by
  obtain ⟨n, na, nb, hJ⟩ := hJ
  obtain ⟨k', kc, b, S1, S2, hk1, h1, h2, h3, h4, h5, hJ2⟩ := j_toggleValve S (xsA xs i 1) hJ
  repeat (refine hG.1 _ _ _ _ _ _ rfl ?_)
  refine And.intro (vin (j := 1) (by omega) hL) ?_
  repeat (refine hG.1 _ _ _ _ _ _ rfl ?_)
  refine cxP h1 (by omega) ?_
  repeat (refine hG.1 _ _ _ _ _ _ rfl ?_)
  refine And.intro (vin (j := 1) (by omega) hL) ?_
  repeat (refine hG.1 _ _ _ _ _ _ rfl ?_)
  refine And.intro rfl (cxP h2 (by omega) ?_)
  repeat (refine hG.1 _ _ _ _ _ _ rfl ?_)
  refine And.intro rfl (cxP (m_thrown S2) (by omega) ?_)
  repeat (refine hG.1 _ _ _ _ _ _ rfl ?_)
  refine And.intro (fun _ => ?_) (fun h => absurd h3 h)
  repeat (refine hG.1 _ _ _ _ _ _ rfl ?_)
  refine And.intro (fun _ => ?_) (fun w => ?_)
  · repeat (first | exact wk hG (by (repeat (refine And.intro rfl ?_)); exact trivial) (nx _ _ (by omega) hJ2) | refine hG.1 _ _ _ _ _ _ rfl ?_)
  have h6 := h5 (nI_z h4 w)
  repeat (refine hG.1 _ _ _ _ _ _ rfl ?_)
  refine And.intro (vp_in_nI (show 0 < 1 by omega) (by decide)) ?_
  rw [nI_clamp (by decide), h6]
  repeat (refine hG.1 _ _ _ _ _ _ rfl ?_)
  refine And.intro (fun w2 => ?_) (fun w2 => ?_)
  · repeat (refine hG.1 _ _ _ _ _ _ rfl ?_)
    refine And.intro (fun _ => ?_) (fun h => absurd (cmp0 ((if_pos rfl).trans (if_pos w2))) h)
    repeat (first | exact wk hG (by (repeat (refine And.intro rfl ?_)); exact trivial) (nx _ _ (by omega) hJ2) | refine hG.1 _ _ _ _ _ _ rfl ?_)
  · repeat (refine hG.1 _ _ _ _ _ _ rfl ?_)
    refine And.intro (fun _ => ?_) (fun h => absurd (cmp0 ((if_pos rfl).trans (if_neg w2))) h)
    repeat (first | exact wk hG (by (repeat (refine And.intro rfl ?_)); exact trivial) (nx _ _ (by omega) hJ2) | refine hG.1 _ _ _ _ _ _ rfl ?_)
set_option maxRecDepth 100000 in
theorem law_isSupplied (hG : Cl 120 L xs 512 P G) (hL : L ≤ 2048) {i k : Nat} {S : PS} (hi : 4 * i + 3 < L) (hk : k ≤ i) (hJ : JJ S) (nx : ∀ (k1 : Nat) (S1 : PS), k1 ≤ k + 1 → JJ S1 → G k1 1506 (LL i) [] S1) : G k 474 (LL i) [] S := by
  obtain ⟨n, na, nb, hJ⟩ := hJ
  obtain ⟨k', kc, b, S1, S2, hk1, h1, h2, h3, h4, h5, hJ2⟩ := j_isSupplied S (xsA xs i 1) hJ
  repeat (refine hG.1 _ _ _ _ _ _ rfl ?_)
  refine And.intro (vin (j := 1) (by omega) hL) ?_
  repeat (refine hG.1 _ _ _ _ _ _ rfl ?_)
  refine cxP h1 (by omega) ?_
  repeat (refine hG.1 _ _ _ _ _ _ rfl ?_)
  refine And.intro (vin (j := 1) (by omega) hL) ?_
  repeat (refine hG.1 _ _ _ _ _ _ rfl ?_)
  refine And.intro rfl (cxP h2 (by omega) ?_)
  repeat (refine hG.1 _ _ _ _ _ _ rfl ?_)
  refine And.intro rfl (cxP (m_thrown S2) (by omega) ?_)
  repeat (refine hG.1 _ _ _ _ _ _ rfl ?_)
  refine And.intro (fun _ => ?_) (fun h => absurd h3 h)
  repeat (refine hG.1 _ _ _ _ _ _ rfl ?_)
  refine And.intro (fun _ => ?_) (fun w => ?_)
  · repeat (first | exact wk hG (by (repeat (refine And.intro rfl ?_)); exact trivial) (nx _ _ (by omega) hJ2) | refine hG.1 _ _ _ _ _ _ rfl ?_)
  have h6 := h5 (nI_z h4 w)
  repeat (refine hG.1 _ _ _ _ _ _ rfl ?_)
  refine And.intro (vp_in_nI (show 0 < 1 by omega) (by decide)) ?_
  rw [nI_clamp (by decide), h6]
  repeat (refine hG.1 _ _ _ _ _ _ rfl ?_)
  refine And.intro (fun w2 => ?_) (fun w2 => ?_)
  · repeat (refine hG.1 _ _ _ _ _ _ rfl ?_)
    refine And.intro (fun _ => ?_) (fun h => absurd (cmp0 ((if_pos rfl).trans (if_pos w2))) h)
    repeat (first | exact wk hG (by (repeat (refine And.intro rfl ?_)); exact trivial) (nx _ _ (by omega) hJ2) | refine hG.1 _ _ _ _ _ _ rfl ?_)
  · repeat (refine hG.1 _ _ _ _ _ _ rfl ?_)
    refine And.intro (fun _ => ?_) (fun h => absurd (cmp0 ((if_pos rfl).trans (if_neg w2))) h)
    repeat (first | exact wk hG (by (repeat (refine And.intro rfl ?_)); exact trivial) (nx _ _ (by omega) hJ2) | refine hG.1 _ _ _ _ _ _ rfl ?_)
set_option maxRecDepth 100000 in
theorem law_takes (hG : Cl 120 L xs 512 P G) (hL : L ≤ 2048) {i k : Nat} {S : PS} (hi : 4 * i + 3 < L) (hk : k ≤ i) (hJ : JJ S) (nx : ∀ (k1 : Nat) (S1 : PS), k1 ≤ k + 1 → JJ S1 → G k1 1506 (LL i) [] S1) : G k 537 (LL i) [] S := by
  obtain ⟨n, na, nb, hJ⟩ := hJ
  obtain ⟨k', kc, b, S1, S2, hk1, h1, h2, h3, h4, h5, hJ2⟩ := j_takes S (xsA xs i 1) hJ
  repeat (refine hG.1 _ _ _ _ _ _ rfl ?_)
  refine And.intro (vin (j := 1) (by omega) hL) ?_
  repeat (refine hG.1 _ _ _ _ _ _ rfl ?_)
  refine cxP h1 (by omega) ?_
  repeat (refine hG.1 _ _ _ _ _ _ rfl ?_)
  refine And.intro (vin (j := 1) (by omega) hL) ?_
  repeat (refine hG.1 _ _ _ _ _ _ rfl ?_)
  refine And.intro rfl (cxP h2 (by omega) ?_)
  repeat (refine hG.1 _ _ _ _ _ _ rfl ?_)
  refine And.intro rfl (cxP (m_thrown S2) (by omega) ?_)
  repeat (refine hG.1 _ _ _ _ _ _ rfl ?_)
  refine And.intro (fun _ => ?_) (fun h => absurd h3 h)
  repeat (refine hG.1 _ _ _ _ _ _ rfl ?_)
  refine And.intro (fun _ => ?_) (fun w => ?_)
  · repeat (first | exact wk hG (by (repeat (refine And.intro rfl ?_)); exact trivial) (nx _ _ (by omega) hJ2) | refine hG.1 _ _ _ _ _ _ rfl ?_)
  have h6 := h5 (nI_z h4 w)
  repeat (refine hG.1 _ _ _ _ _ _ rfl ?_)
  refine And.intro (vp_in_nI (show 0 < 1 by omega) (by decide)) ?_
  rw [nI_clamp (by decide), h6]
  repeat (refine hG.1 _ _ _ _ _ _ rfl ?_)
  refine And.intro (fun _ => ?_) (fun h => absurd (cmp0 (if_neg Bool.false_ne_true)) h)
  repeat (first | exact wk hG (by (repeat (refine And.intro rfl ?_)); exact trivial) (nx _ _ (by omega) hJ2) | refine hG.1 _ _ _ _ _ _ rfl ?_)
set_option maxRecDepth 100000 in
theorem law_flow (hG : Cl 120 L xs 512 P G) (hL : L ≤ 2048) {i k : Nat} {S : PS} (hi : 4 * i + 3 < L) (hk : k ≤ i) (hJ : JJ S) (nx : ∀ (k1 : Nat) (S1 : PS), k1 ≤ k + 1 → JJ S1 → G k1 1506 (LL i) [] S1) : G k 593 (LL i) [] S := by
  obtain ⟨n, na, nb, hJ⟩ := hJ
  obtain ⟨k', kc, b, S1, S2, hk1, h1, h2, h3, h4, h5, hJ2⟩ := j_flow S (xsA xs i 1) hJ
  repeat (refine hG.1 _ _ _ _ _ _ rfl ?_)
  refine And.intro (vin (j := 1) (by omega) hL) ?_
  repeat (refine hG.1 _ _ _ _ _ _ rfl ?_)
  refine cxP h1 (by omega) ?_
  repeat (refine hG.1 _ _ _ _ _ _ rfl ?_)
  refine And.intro (vin (j := 1) (by omega) hL) ?_
  repeat (refine hG.1 _ _ _ _ _ _ rfl ?_)
  refine And.intro rfl (cxP h2 (by omega) ?_)
  repeat (refine hG.1 _ _ _ _ _ _ rfl ?_)
  refine And.intro rfl (cxP (m_thrown S2) (by omega) ?_)
  repeat (refine hG.1 _ _ _ _ _ _ rfl ?_)
  refine And.intro (fun _ => ?_) (fun h => absurd h3 h)
  repeat (refine hG.1 _ _ _ _ _ _ rfl ?_)
  refine And.intro (fun _ => ?_) (fun w => ?_)
  · repeat (first | exact wk hG (by (repeat (refine And.intro rfl ?_)); exact trivial) (nx _ _ (by omega) hJ2) | refine hG.1 _ _ _ _ _ _ rfl ?_)
  have h6 := h5 (nI_z h4 w)
  repeat (refine hG.1 _ _ _ _ _ _ rfl ?_)
  refine And.intro (vp_in_nI (show 0 < 1 by omega) (by decide)) ?_
  rw [nI_clamp (by decide), h6]
  repeat (refine hG.1 _ _ _ _ _ _ rfl ?_)
  refine And.intro (fun _ => ?_) (fun h => absurd (cmp0 (if_neg Bool.false_ne_true)) h)
  repeat (first | exact wk hG (by (repeat (refine And.intro rfl ?_)); exact trivial) (nx _ _ (by omega) hJ2) | refine hG.1 _ _ _ _ _ _ rfl ?_)
set_option maxRecDepth 100000 in
theorem law_allFlow (hG : Cl 120 L xs 512 P G) (hL : L ≤ 2048) {i k : Nat} {S : PS} (hi : 4 * i + 3 < L) (hk : k ≤ i) (hJ : JJ S) (nx : ∀ (k1 : Nat) (S1 : PS), k1 ≤ k + 1 → JJ S1 → G k1 1506 (LL i) [] S1) : G k 649 (LL i) [] S := by
  obtain ⟨n, na, nb, hJ⟩ := hJ
  repeat (refine hG.1 _ _ _ _ _ _ rfl ?_)
  refine And.intro rfl (cxP (x_allFlow S n nb hJ.1) (by omega) ?_)
  repeat (refine hG.1 _ _ _ _ _ _ rfl ?_)
  refine And.intro rfl (cxP (m_allFlow S n nb _ _ hJ.2.2.1) (by omega) ?_)
  repeat (refine hG.1 _ _ _ _ _ _ rfl ?_)
  refine And.intro (fun _ => ?_) (fun h => absurd rfl h)
  exact nx _ _ (by omega) ⟨n, na, nb, hJ⟩
set_option maxRecDepth 100000 in
theorem law_addArea (hG : Cl 120 L xs 512 P G) (hL : L ≤ 2048) {i k : Nat} {S : PS} (hi : 4 * i + 3 < L) (hk : k ≤ i) (hJ : JJ S) (nx : ∀ (k1 : Nat) (S1 : PS), k1 ≤ k + 1 → JJ S1 → G k1 1506 (LL i) [] S1) : G k 662 (LL i) [] S := by
  obtain ⟨n, na, nb, hJ⟩ := hJ
  obtain ⟨k', kc, b, S1, S2, hk1, h1, h2, h3, h4, h5, hJ2⟩ := j_addArea S (xsA xs i 1) hJ
  repeat (refine hG.1 _ _ _ _ _ _ rfl ?_)
  refine And.intro (vin (j := 1) (by omega) hL) ?_
  repeat (refine hG.1 _ _ _ _ _ _ rfl ?_)
  refine cxP h1 (by omega) ?_
  repeat (refine hG.1 _ _ _ _ _ _ rfl ?_)
  refine And.intro (vin (j := 1) (by omega) hL) ?_
  repeat (refine hG.1 _ _ _ _ _ _ rfl ?_)
  refine And.intro rfl (cxP h2 (by omega) ?_)
  repeat (refine hG.1 _ _ _ _ _ _ rfl ?_)
  refine And.intro rfl (cxP (m_thrown S2) (by omega) ?_)
  repeat (refine hG.1 _ _ _ _ _ _ rfl ?_)
  refine And.intro (fun _ => ?_) (fun h => absurd h3 h)
  repeat (refine hG.1 _ _ _ _ _ _ rfl ?_)
  refine And.intro (fun _ => ?_) (fun w => ?_)
  · repeat (first | exact wk hG (by (repeat (refine And.intro rfl ?_)); exact trivial) (nx _ _ (by omega) hJ2) | refine hG.1 _ _ _ _ _ _ rfl ?_)
  have h6 := h5 (nI_z h4 w)
  repeat (refine hG.1 _ _ _ _ _ _ rfl ?_)
  refine And.intro (vp_in_nI (show 0 < 1 by omega) (by decide)) ?_
  rw [nI_clamp (by decide), h6]
  repeat (refine hG.1 _ _ _ _ _ _ rfl ?_)
  refine And.intro (fun _ => ?_) (fun h => absurd (cmp0 (if_neg Bool.false_ne_true)) h)
  repeat (first | exact wk hG (by (repeat (refine And.intro rfl ?_)); exact trivial) (nx _ _ (by omega) hJ2) | refine hG.1 _ _ _ _ _ _ rfl ?_)
set_option maxRecDepth 100000 in
theorem law_addExport (hG : Cl 120 L xs 512 P G) (hL : L ≤ 2048) {i k : Nat} {S : PS} (hi : 4 * i + 3 < L) (hk : k ≤ i) (hJ : JJ S) (nx : ∀ (k1 : Nat) (S1 : PS), k1 ≤ k + 1 → JJ S1 → G k1 1506 (LL i) [] S1) : G k 718 (LL i) [] S := by
  obtain ⟨n, na, nb, hJ⟩ := hJ
  obtain ⟨k', kc, b, S1, S2, hk1, h1, h2, h3, h4, h5, hJ2⟩ := j_addExport S (xsA xs i 1) (xsA xs i 2) hJ
  repeat (refine hG.1 _ _ _ _ _ _ rfl ?_)
  refine And.intro (vin (j := 1) (by omega) hL) ?_
  repeat (refine hG.1 _ _ _ _ _ _ rfl ?_)
  refine And.intro (vin (j := 2) (by omega) hL) ?_
  repeat (refine hG.1 _ _ _ _ _ _ rfl ?_)
  refine cxP h1 (by omega) ?_
  repeat (refine hG.1 _ _ _ _ _ _ rfl ?_)
  refine And.intro (vin (j := 1) (by omega) hL) ?_
  repeat (refine hG.1 _ _ _ _ _ _ rfl ?_)
  refine And.intro (vin (j := 2) (by omega) hL) ?_
  repeat (refine hG.1 _ _ _ _ _ _ rfl ?_)
  refine And.intro rfl (cxP h2 (by omega) ?_)
  repeat (refine hG.1 _ _ _ _ _ _ rfl ?_)
  refine And.intro rfl (cxP (m_thrown S2) (by omega) ?_)
  repeat (refine hG.1 _ _ _ _ _ _ rfl ?_)
  refine And.intro (fun _ => ?_) (fun h => absurd h3 h)
  repeat (refine hG.1 _ _ _ _ _ _ rfl ?_)
  refine And.intro (fun _ => ?_) (fun w => ?_)
  · repeat (first | exact wk hG (by (repeat (refine And.intro rfl ?_)); exact trivial) (nx _ _ (by omega) hJ2) | refine hG.1 _ _ _ _ _ _ rfl ?_)
  have h6 := h5 (nI_z h4 w)
  repeat (refine hG.1 _ _ _ _ _ _ rfl ?_)
  refine And.intro (vp_in_nI (show 0 < 1 by omega) (by decide)) ?_
  rw [nI_clamp (by decide), h6]
  repeat (refine hG.1 _ _ _ _ _ _ rfl ?_)
  refine And.intro (fun _ => ?_) (fun h => absurd (cmp0 (if_neg Bool.false_ne_true)) h)
  repeat (first | exact wk hG (by (repeat (refine And.intro rfl ?_)); exact trivial) (nx _ _ (by omega) hJ2) | refine hG.1 _ _ _ _ _ _ rfl ?_)
set_option maxRecDepth 100000 in
theorem law_nodes (hG : Cl 120 L xs 512 P G) (hL : L ≤ 2048) {i k : Nat} {S : PS} (hi : 4 * i + 3 < L) (hk : k ≤ i) (hJ : JJ S) (nx : ∀ (k1 : Nat) (S1 : PS), k1 ≤ k + 1 → JJ S1 → G k1 1506 (LL i) [] S1) : G k 786 (LL i) [] S := by
  obtain ⟨n, na, nb, hJ⟩ := hJ
  obtain ⟨k', kc, b, S1, S2, hk1, h1, h2, h3, h4, h5, hJ2⟩ := j_nodes S (xsA xs i 1) hJ
  repeat (refine hG.1 _ _ _ _ _ _ rfl ?_)
  refine And.intro (vin (j := 1) (by omega) hL) ?_
  repeat (refine hG.1 _ _ _ _ _ _ rfl ?_)
  refine cxP h1 (by omega) ?_
  repeat (refine hG.1 _ _ _ _ _ _ rfl ?_)
  refine And.intro (vin (j := 1) (by omega) hL) ?_
  repeat (refine hG.1 _ _ _ _ _ _ rfl ?_)
  refine And.intro rfl (cxP h2 (by omega) ?_)
  repeat (refine hG.1 _ _ _ _ _ _ rfl ?_)
  refine And.intro rfl (cxP (m_thrown S2) (by omega) ?_)
  repeat (refine hG.1 _ _ _ _ _ _ rfl ?_)
  refine And.intro (fun _ => ?_) (fun h => absurd h3 h)
  repeat (refine hG.1 _ _ _ _ _ _ rfl ?_)
  refine And.intro (fun _ => ?_) (fun w => ?_)
  · repeat (first | exact wk hG (by (repeat (refine And.intro rfl ?_)); exact trivial) (nx _ _ (by omega) hJ2) | refine hG.1 _ _ _ _ _ _ rfl ?_)
  have h6 := h5 (nI_z h4 w)
  repeat (refine hG.1 _ _ _ _ _ _ rfl ?_)
  refine And.intro (vp_in_nI (show 0 < 1 by omega) (by decide)) ?_
  rw [nI_clamp (by decide), h6]
  repeat (refine hG.1 _ _ _ _ _ _ rfl ?_)
  refine And.intro (fun _ => ?_) (fun h => absurd (cmp0 (if_neg Bool.false_ne_true)) h)
  repeat (first | exact wk hG (by (repeat (refine And.intro rfl ?_)); exact trivial) (nx _ _ (by omega) hJ2) | refine hG.1 _ _ _ _ _ _ rfl ?_)
set_option maxRecDepth 100000 in
theorem law_areaFlow (hG : Cl 120 L xs 512 P G) (hL : L ≤ 2048) {i k : Nat} {S : PS} (hi : 4 * i + 3 < L) (hk : k ≤ i) (hJ : JJ S) (nx : ∀ (k1 : Nat) (S1 : PS), k1 ≤ k + 1 → JJ S1 → G k1 1506 (LL i) [] S1) : G k 842 (LL i) [] S := by
  obtain ⟨n, na, nb, hJ⟩ := hJ
  obtain ⟨k', kc, b, S1, S2, hk1, h1, h2, h3, h4, h5, hJ2⟩ := j_areaFlow S (xsA xs i 1) hJ
  repeat (refine hG.1 _ _ _ _ _ _ rfl ?_)
  refine And.intro (vin (j := 1) (by omega) hL) ?_
  repeat (refine hG.1 _ _ _ _ _ _ rfl ?_)
  refine cxP h1 (by omega) ?_
  repeat (refine hG.1 _ _ _ _ _ _ rfl ?_)
  refine And.intro (vin (j := 1) (by omega) hL) ?_
  repeat (refine hG.1 _ _ _ _ _ _ rfl ?_)
  refine And.intro rfl (cxP h2 (by omega) ?_)
  repeat (refine hG.1 _ _ _ _ _ _ rfl ?_)
  refine And.intro rfl (cxP (m_thrown S2) (by omega) ?_)
  repeat (refine hG.1 _ _ _ _ _ _ rfl ?_)
  refine And.intro (fun _ => ?_) (fun h => absurd h3 h)
  repeat (refine hG.1 _ _ _ _ _ _ rfl ?_)
  refine And.intro (fun _ => ?_) (fun w => ?_)
  · repeat (first | exact wk hG (by (repeat (refine And.intro rfl ?_)); exact trivial) (nx _ _ (by omega) hJ2) | refine hG.1 _ _ _ _ _ _ rfl ?_)
  have h6 := h5 (nI_z h4 w)
  repeat (refine hG.1 _ _ _ _ _ _ rfl ?_)
  refine And.intro (vp_in_nI (show 0 < 1 by omega) (by decide)) ?_
  rw [nI_clamp (by decide), h6]
  repeat (refine hG.1 _ _ _ _ _ _ rfl ?_)
  refine And.intro (fun _ => ?_) (fun h => absurd (cmp0 (if_neg Bool.false_ne_true)) h)
  repeat (first | exact wk hG (by (repeat (refine And.intro rfl ?_)); exact trivial) (nx _ _ (by omega) hJ2) | refine hG.1 _ _ _ _ _ _ rfl ?_)
set_option maxRecDepth 100000 in
theorem law_areaTakes (hG : Cl 120 L xs 512 P G) (hL : L ≤ 2048) {i k : Nat} {S : PS} (hi : 4 * i + 3 < L) (hk : k ≤ i) (hJ : JJ S) (nx : ∀ (k1 : Nat) (S1 : PS), k1 ≤ k + 1 → JJ S1 → G k1 1506 (LL i) [] S1) : G k 898 (LL i) [] S := by
  obtain ⟨n, na, nb, hJ⟩ := hJ
  obtain ⟨k', kc, b, S1, S2, hk1, h1, h2, h3, h4, h5, hJ2⟩ := j_areaTakes S (xsA xs i 1) hJ
  repeat (refine hG.1 _ _ _ _ _ _ rfl ?_)
  refine And.intro (vin (j := 1) (by omega) hL) ?_
  repeat (refine hG.1 _ _ _ _ _ _ rfl ?_)
  refine cxP h1 (by omega) ?_
  repeat (refine hG.1 _ _ _ _ _ _ rfl ?_)
  refine And.intro (vin (j := 1) (by omega) hL) ?_
  repeat (refine hG.1 _ _ _ _ _ _ rfl ?_)
  refine And.intro rfl (cxP h2 (by omega) ?_)
  repeat (refine hG.1 _ _ _ _ _ _ rfl ?_)
  refine And.intro rfl (cxP (m_thrown S2) (by omega) ?_)
  repeat (refine hG.1 _ _ _ _ _ _ rfl ?_)
  refine And.intro (fun _ => ?_) (fun h => absurd h3 h)
  repeat (refine hG.1 _ _ _ _ _ _ rfl ?_)
  refine And.intro (fun _ => ?_) (fun w => ?_)
  · repeat (first | exact wk hG (by (repeat (refine And.intro rfl ?_)); exact trivial) (nx _ _ (by omega) hJ2) | refine hG.1 _ _ _ _ _ _ rfl ?_)
  have h6 := h5 (nI_z h4 w)
  repeat (refine hG.1 _ _ _ _ _ _ rfl ?_)
  refine And.intro (vp_in_nI (show 0 < 1 by omega) (by decide)) ?_
  rw [nI_clamp (by decide), h6]
  repeat (refine hG.1 _ _ _ _ _ _ rfl ?_)
  refine And.intro (fun _ => ?_) (fun h => absurd (cmp0 (if_neg Bool.false_ne_true)) h)
  repeat (first | exact wk hG (by (repeat (refine And.intro rfl ?_)); exact trivial) (nx _ _ (by omega) hJ2) | refine hG.1 _ _ _ _ _ _ rfl ?_)
set_option maxRecDepth 100000 in
theorem law_loss (hG : Cl 120 L xs 512 P G) (hL : L ≤ 2048) {i k : Nat} {S : PS} (hi : 4 * i + 3 < L) (hk : k ≤ i) (hJ : JJ S) (nx : ∀ (k1 : Nat) (S1 : PS), k1 ≤ k + 1 → JJ S1 → G k1 1506 (LL i) [] S1) : G k 954 (LL i) [] S := by
  obtain ⟨n, na, nb, hJ⟩ := hJ
  obtain ⟨k', kc, b, S1, S2, hk1, h1, h2, h3, h4, h5, hJ2⟩ := j_loss S (xsA xs i 1) hJ
  repeat (refine hG.1 _ _ _ _ _ _ rfl ?_)
  refine And.intro (vin (j := 1) (by omega) hL) ?_
  repeat (refine hG.1 _ _ _ _ _ _ rfl ?_)
  refine cxP h1 (by omega) ?_
  repeat (refine hG.1 _ _ _ _ _ _ rfl ?_)
  refine And.intro (vin (j := 1) (by omega) hL) ?_
  repeat (refine hG.1 _ _ _ _ _ _ rfl ?_)
  refine And.intro rfl (cxP h2 (by omega) ?_)
  repeat (refine hG.1 _ _ _ _ _ _ rfl ?_)
  refine And.intro rfl (cxP (m_thrown S2) (by omega) ?_)
  repeat (refine hG.1 _ _ _ _ _ _ rfl ?_)
  refine And.intro (fun _ => ?_) (fun h => absurd h3 h)
  repeat (refine hG.1 _ _ _ _ _ _ rfl ?_)
  refine And.intro (fun _ => ?_) (fun w => ?_)
  · repeat (first | exact wk hG (by (repeat (refine And.intro rfl ?_)); exact trivial) (nx _ _ (by omega) hJ2) | refine hG.1 _ _ _ _ _ _ rfl ?_)
  have h6 := h5 (nI_z h4 w)
  repeat (refine hG.1 _ _ _ _ _ _ rfl ?_)
  refine And.intro (vp_in_nI (show 0 < 1 by omega) (by decide)) ?_
  rw [nI_clamp (by decide), h6]
  repeat (refine hG.1 _ _ _ _ _ _ rfl ?_)
  refine And.intro (fun _ => ?_) (fun h => absurd (cmp0 (if_neg Bool.false_ne_true)) h)
  repeat (first | exact wk hG (by (repeat (refine And.intro rfl ?_)); exact trivial) (nx _ _ (by omega) hJ2) | refine hG.1 _ _ _ _ _ _ rfl ?_)
set_option maxRecDepth 100000 in
theorem law_steps (hG : Cl 120 L xs 512 P G) (hL : L ≤ 2048) {i k : Nat} {S : PS} (hi : 4 * i + 3 < L) (hk : k ≤ i) (hJ : JJ S) (nx : ∀ (k1 : Nat) (S1 : PS), k1 ≤ k + 1 → JJ S1 → G k1 1506 (LL i) [] S1) : G k 1010 (LL i) [] S := by
  obtain ⟨n, na, nb, hJ⟩ := hJ
  obtain ⟨k', kc, b, S1, S2, hk1, h1, h2, h3, h4, h5, hJ2⟩ := j_steps S (xsA xs i 1) hJ
  repeat (refine hG.1 _ _ _ _ _ _ rfl ?_)
  refine And.intro (vin (j := 1) (by omega) hL) ?_
  repeat (refine hG.1 _ _ _ _ _ _ rfl ?_)
  refine cxP h1 (by omega) ?_
  repeat (refine hG.1 _ _ _ _ _ _ rfl ?_)
  refine And.intro (vin (j := 1) (by omega) hL) ?_
  repeat (refine hG.1 _ _ _ _ _ _ rfl ?_)
  refine And.intro rfl (cxP h2 (by omega) ?_)
  repeat (refine hG.1 _ _ _ _ _ _ rfl ?_)
  refine And.intro rfl (cxP (m_thrown S2) (by omega) ?_)
  repeat (refine hG.1 _ _ _ _ _ _ rfl ?_)
  refine And.intro (fun _ => ?_) (fun h => absurd h3 h)
  repeat (refine hG.1 _ _ _ _ _ _ rfl ?_)
  refine And.intro (fun _ => ?_) (fun w => ?_)
  · repeat (first | exact wk hG (by (repeat (refine And.intro rfl ?_)); exact trivial) (nx _ _ (by omega) hJ2) | refine hG.1 _ _ _ _ _ _ rfl ?_)
  have h6 := h5 (nI_z h4 w)
  repeat (refine hG.1 _ _ _ _ _ _ rfl ?_)
  refine And.intro (vp_in_nI (show 0 < 1 by omega) (by decide)) ?_
  rw [nI_clamp (by decide), h6]
  repeat (refine hG.1 _ _ _ _ _ _ rfl ?_)
  refine And.intro (fun _ => ?_) (fun h => absurd (cmp0 (if_neg Bool.false_ne_true)) h)
  repeat (first | exact wk hG (by (repeat (refine And.intro rfl ?_)); exact trivial) (nx _ _ (by omega) hJ2) | refine hG.1 _ _ _ _ _ _ rfl ?_)
set_option maxRecDepth 100000 in
theorem law_stepPipe (hG : Cl 120 L xs 512 P G) (hL : L ≤ 2048) {i k : Nat} {S : PS} (hi : 4 * i + 3 < L) (hk : k ≤ i) (hJ : JJ S) (nx : ∀ (k1 : Nat) (S1 : PS), k1 ≤ k + 1 → JJ S1 → G k1 1506 (LL i) [] S1) : G k 1066 (LL i) [] S := by
  obtain ⟨n, na, nb, hJ⟩ := hJ
  obtain ⟨k', kc, b, S1, S2, hk1, h1, h2, h3, h4, h5, hJ2⟩ := j_stepPipe S (xsA xs i 1) (xsA xs i 2) hJ
  repeat (refine hG.1 _ _ _ _ _ _ rfl ?_)
  refine And.intro (vin (j := 1) (by omega) hL) ?_
  repeat (refine hG.1 _ _ _ _ _ _ rfl ?_)
  refine And.intro (vin (j := 2) (by omega) hL) ?_
  repeat (refine hG.1 _ _ _ _ _ _ rfl ?_)
  refine cxP h1 (by omega) ?_
  repeat (refine hG.1 _ _ _ _ _ _ rfl ?_)
  refine And.intro (vin (j := 1) (by omega) hL) ?_
  repeat (refine hG.1 _ _ _ _ _ _ rfl ?_)
  refine And.intro (vin (j := 2) (by omega) hL) ?_
  repeat (refine hG.1 _ _ _ _ _ _ rfl ?_)
  refine And.intro rfl (cxP h2 (by omega) ?_)
  repeat (refine hG.1 _ _ _ _ _ _ rfl ?_)
  refine And.intro rfl (cxP (m_thrown S2) (by omega) ?_)
  repeat (refine hG.1 _ _ _ _ _ _ rfl ?_)
  refine And.intro (fun _ => ?_) (fun h => absurd h3 h)
  repeat (refine hG.1 _ _ _ _ _ _ rfl ?_)
  refine And.intro (fun _ => ?_) (fun w => ?_)
  · repeat (first | exact wk hG (by (repeat (refine And.intro rfl ?_)); exact trivial) (nx _ _ (by omega) hJ2) | refine hG.1 _ _ _ _ _ _ rfl ?_)
  have h6 := h5 (nI_z h4 w)
  repeat (refine hG.1 _ _ _ _ _ _ rfl ?_)
  refine And.intro (vp_in_nI (show 0 < 1 by omega) (by decide)) ?_
  rw [nI_clamp (by decide), h6]
  repeat (refine hG.1 _ _ _ _ _ _ rfl ?_)
  refine And.intro (fun _ => ?_) (fun h => absurd (cmp0 (if_neg Bool.false_ne_true)) h)
  repeat (first | exact wk hG (by (repeat (refine And.intro rfl ?_)); exact trivial) (nx _ _ (by omega) hJ2) | refine hG.1 _ _ _ _ _ _ rfl ?_)
set_option maxRecDepth 100000 in
theorem law_drop (hG : Cl 120 L xs 512 P G) (hL : L ≤ 2048) {i k : Nat} {S : PS} (hi : 4 * i + 3 < L) (hk : k ≤ i) (hJ : JJ S) (nx : ∀ (k1 : Nat) (S1 : PS), k1 ≤ k + 1 → JJ S1 → G k1 1506 (LL i) [] S1) : G k 1134 (LL i) [] S := by
  obtain ⟨n, na, nb, hJ⟩ := hJ
  obtain ⟨k', kc, b, S1, S2, hk1, h1, h2, h3, h4, h5, hJ2⟩ := j_drop S (xsA xs i 1) (xsA xs i 2) hJ
  repeat (refine hG.1 _ _ _ _ _ _ rfl ?_)
  refine And.intro (vin (j := 1) (by omega) hL) ?_
  repeat (refine hG.1 _ _ _ _ _ _ rfl ?_)
  refine And.intro (vin (j := 2) (by omega) hL) ?_
  repeat (refine hG.1 _ _ _ _ _ _ rfl ?_)
  refine cxP h1 (by omega) ?_
  repeat (refine hG.1 _ _ _ _ _ _ rfl ?_)
  refine And.intro (vin (j := 1) (by omega) hL) ?_
  repeat (refine hG.1 _ _ _ _ _ _ rfl ?_)
  refine And.intro (vin (j := 2) (by omega) hL) ?_
  repeat (refine hG.1 _ _ _ _ _ _ rfl ?_)
  refine And.intro rfl (cxP h2 (by omega) ?_)
  repeat (refine hG.1 _ _ _ _ _ _ rfl ?_)
  refine And.intro rfl (cxP (m_thrown S2) (by omega) ?_)
  repeat (refine hG.1 _ _ _ _ _ _ rfl ?_)
  refine And.intro (fun _ => ?_) (fun h => absurd h3 h)
  repeat (refine hG.1 _ _ _ _ _ _ rfl ?_)
  refine And.intro (fun _ => ?_) (fun w => ?_)
  · repeat (first | exact wk hG (by (repeat (refine And.intro rfl ?_)); exact trivial) (nx _ _ (by omega) hJ2) | refine hG.1 _ _ _ _ _ _ rfl ?_)
  have h6 := h5 (nI_z h4 w)
  repeat (refine hG.1 _ _ _ _ _ _ rfl ?_)
  refine And.intro (vp_in_nI (show 0 < 1 by omega) (by decide)) ?_
  rw [nI_clamp (by decide), h6]
  repeat (refine hG.1 _ _ _ _ _ _ rfl ?_)
  refine And.intro (fun _ => ?_) (fun h => absurd (cmp0 (if_neg Bool.false_ne_true)) h)
  repeat (first | exact wk hG (by (repeat (refine And.intro rfl ?_)); exact trivial) (nx _ _ (by omega) hJ2) | refine hG.1 _ _ _ _ _ _ rfl ?_)
set_option maxRecDepth 100000 in
theorem law_burst (hG : Cl 120 L xs 512 P G) (hL : L ≤ 2048) {i k : Nat} {S : PS} (hi : 4 * i + 3 < L) (hk : k ≤ i) (hJ : JJ S) (nx : ∀ (k1 : Nat) (S1 : PS), k1 ≤ k + 1 → JJ S1 → G k1 1506 (LL i) [] S1) : G k 1202 (LL i) [] S := by
  obtain ⟨n, na, nb, hJ⟩ := hJ
  obtain ⟨k', kc, b, S1, S2, hk1, h1, h2, h3, h4, h5, hJ2⟩ := j_burst S (xsA xs i 1) (xsA xs i 2) (xsA xs i 3) hJ
  repeat (refine hG.1 _ _ _ _ _ _ rfl ?_)
  refine And.intro (vin (j := 1) (by omega) hL) ?_
  repeat (refine hG.1 _ _ _ _ _ _ rfl ?_)
  refine And.intro (vin (j := 2) (by omega) hL) ?_
  repeat (refine hG.1 _ _ _ _ _ _ rfl ?_)
  refine And.intro (vin (j := 3) (by omega) hL) ?_
  repeat (refine hG.1 _ _ _ _ _ _ rfl ?_)
  refine cxP h1 (by omega) ?_
  repeat (refine hG.1 _ _ _ _ _ _ rfl ?_)
  refine And.intro (vin (j := 1) (by omega) hL) ?_
  repeat (refine hG.1 _ _ _ _ _ _ rfl ?_)
  refine And.intro (vin (j := 2) (by omega) hL) ?_
  repeat (refine hG.1 _ _ _ _ _ _ rfl ?_)
  refine And.intro (vin (j := 3) (by omega) hL) ?_
  repeat (refine hG.1 _ _ _ _ _ _ rfl ?_)
  refine And.intro rfl (cxP h2 (by omega) ?_)
  repeat (refine hG.1 _ _ _ _ _ _ rfl ?_)
  refine And.intro rfl (cxP (m_thrown S2) (by omega) ?_)
  repeat (refine hG.1 _ _ _ _ _ _ rfl ?_)
  refine And.intro (fun _ => ?_) (fun h => absurd h3 h)
  repeat (refine hG.1 _ _ _ _ _ _ rfl ?_)
  refine And.intro (fun _ => ?_) (fun w => ?_)
  · repeat (first | exact wk hG (by (repeat (refine And.intro rfl ?_)); exact trivial) (nx _ _ (by omega) hJ2) | refine hG.1 _ _ _ _ _ _ rfl ?_)
  have h6 := h5 (nI_z h4 w)
  repeat (refine hG.1 _ _ _ _ _ _ rfl ?_)
  refine And.intro (vp_in_nI (show 0 < 1 by omega) (by decide)) ?_
  rw [nI_clamp (by decide), h6]
  repeat (refine hG.1 _ _ _ _ _ _ rfl ?_)
  refine And.intro (fun _ => ?_) (fun h => absurd (cmp0 (if_neg Bool.false_ne_true)) h)
  repeat (first | exact wk hG (by (repeat (refine And.intro rfl ?_)); exact trivial) (nx _ _ (by omega) hJ2) | refine hG.1 _ _ _ _ _ _ rfl ?_)
set_option maxRecDepth 100000 in
theorem law_repair (hG : Cl 120 L xs 512 P G) (hL : L ≤ 2048) {i k : Nat} {S : PS} (hi : 4 * i + 3 < L) (hk : k ≤ i) (hJ : JJ S) (nx : ∀ (k1 : Nat) (S1 : PS), k1 ≤ k + 1 → JJ S1 → G k1 1506 (LL i) [] S1) : G k 1282 (LL i) [] S := by
  obtain ⟨n, na, nb, hJ⟩ := hJ
  obtain ⟨k', kc, b, S1, S2, hk1, h1, h2, h3, h4, h5, hJ2⟩ := j_repair S (xsA xs i 1) hJ
  repeat (refine hG.1 _ _ _ _ _ _ rfl ?_)
  refine And.intro (vin (j := 1) (by omega) hL) ?_
  repeat (refine hG.1 _ _ _ _ _ _ rfl ?_)
  refine cxP h1 (by omega) ?_
  repeat (refine hG.1 _ _ _ _ _ _ rfl ?_)
  refine And.intro (vin (j := 1) (by omega) hL) ?_
  repeat (refine hG.1 _ _ _ _ _ _ rfl ?_)
  refine And.intro rfl (cxP h2 (by omega) ?_)
  repeat (refine hG.1 _ _ _ _ _ _ rfl ?_)
  refine And.intro rfl (cxP (m_thrown S2) (by omega) ?_)
  repeat (refine hG.1 _ _ _ _ _ _ rfl ?_)
  refine And.intro (fun _ => ?_) (fun h => absurd h3 h)
  repeat (refine hG.1 _ _ _ _ _ _ rfl ?_)
  refine And.intro (fun _ => ?_) (fun w => ?_)
  · repeat (first | exact wk hG (by (repeat (refine And.intro rfl ?_)); exact trivial) (nx _ _ (by omega) hJ2) | refine hG.1 _ _ _ _ _ _ rfl ?_)
  have h6 := h5 (nI_z h4 w)
  repeat (refine hG.1 _ _ _ _ _ _ rfl ?_)
  refine And.intro (vp_in_nI (show 0 < 1 by omega) (by decide)) ?_
  rw [nI_clamp (by decide), h6]
  repeat (refine hG.1 _ _ _ _ _ _ rfl ?_)
  refine And.intro (fun _ => ?_) (fun h => absurd (cmp0 (if_neg Bool.false_ne_true)) h)
  repeat (first | exact wk hG (by (repeat (refine And.intro rfl ?_)); exact trivial) (nx _ _ (by omega) hJ2) | refine hG.1 _ _ _ _ _ _ rfl ?_)
set_option maxRecDepth 100000 in
theorem law_cost (hG : Cl 120 L xs 512 P G) (hL : L ≤ 2048) {i k : Nat} {S : PS} (hi : 4 * i + 3 < L) (hk : k ≤ i) (hJ : JJ S) (nx : ∀ (k1 : Nat) (S1 : PS), k1 ≤ k + 1 → JJ S1 → G k1 1506 (LL i) [] S1) : G k 1338 (LL i) [] S := by
  obtain ⟨n, na, nb, hJ⟩ := hJ
  obtain ⟨k', kc, b, S1, S2, hk1, h1, h2, h3, h4, h5, hJ2⟩ := j_cost S (xsA xs i 1) hJ
  repeat (refine hG.1 _ _ _ _ _ _ rfl ?_)
  refine And.intro (vin (j := 1) (by omega) hL) ?_
  repeat (refine hG.1 _ _ _ _ _ _ rfl ?_)
  refine cxP h1 (by omega) ?_
  repeat (refine hG.1 _ _ _ _ _ _ rfl ?_)
  refine And.intro (vin (j := 1) (by omega) hL) ?_
  repeat (refine hG.1 _ _ _ _ _ _ rfl ?_)
  refine And.intro rfl (cxP h2 (by omega) ?_)
  repeat (refine hG.1 _ _ _ _ _ _ rfl ?_)
  refine And.intro rfl (cxP (m_thrown S2) (by omega) ?_)
  repeat (refine hG.1 _ _ _ _ _ _ rfl ?_)
  refine And.intro (fun _ => ?_) (fun h => absurd h3 h)
  repeat (refine hG.1 _ _ _ _ _ _ rfl ?_)
  refine And.intro (fun _ => ?_) (fun w => ?_)
  · repeat (first | exact wk hG (by (repeat (refine And.intro rfl ?_)); exact trivial) (nx _ _ (by omega) hJ2) | refine hG.1 _ _ _ _ _ _ rfl ?_)
  have h6 := h5 (nI_z h4 w)
  repeat (refine hG.1 _ _ _ _ _ _ rfl ?_)
  refine And.intro (vp_in_nI (show 0 < 1 by omega) (by decide)) ?_
  rw [nI_clamp (by decide), h6]
  repeat (refine hG.1 _ _ _ _ _ _ rfl ?_)
  refine And.intro (fun _ => ?_) (fun h => absurd (cmp0 (if_neg Bool.false_ne_true)) h)
  repeat (first | exact wk hG (by (repeat (refine And.intro rfl ?_)); exact trivial) (nx _ _ (by omega) hJ2) | refine hG.1 _ _ _ _ _ _ rfl ?_)
set_option maxRecDepth 100000 in
theorem law_ranked (hG : Cl 120 L xs 512 P G) (hL : L ≤ 2048) {i k : Nat} {S : PS} (hi : 4 * i + 3 < L) (hk : k ≤ i) (hJ : JJ S) (nx : ∀ (k1 : Nat) (S1 : PS), k1 ≤ k + 1 → JJ S1 → G k1 1506 (LL i) [] S1) : G k 1394 (LL i) [] S := by
  obtain ⟨n, na, nb, hJ⟩ := hJ
  obtain ⟨k', kc, b, S1, S2, hk1, h1, h2, h3, h4, h5, hJ2⟩ := j_ranked S (xsA xs i 1) hJ
  repeat (refine hG.1 _ _ _ _ _ _ rfl ?_)
  refine And.intro (vin (j := 1) (by omega) hL) ?_
  repeat (refine hG.1 _ _ _ _ _ _ rfl ?_)
  refine cxP h1 (by omega) ?_
  repeat (refine hG.1 _ _ _ _ _ _ rfl ?_)
  refine And.intro (vin (j := 1) (by omega) hL) ?_
  repeat (refine hG.1 _ _ _ _ _ _ rfl ?_)
  refine And.intro rfl (cxP h2 (by omega) ?_)
  repeat (refine hG.1 _ _ _ _ _ _ rfl ?_)
  refine And.intro rfl (cxP (m_thrown S2) (by omega) ?_)
  repeat (refine hG.1 _ _ _ _ _ _ rfl ?_)
  refine And.intro (fun _ => ?_) (fun h => absurd h3 h)
  repeat (refine hG.1 _ _ _ _ _ _ rfl ?_)
  refine And.intro (fun _ => ?_) (fun w => ?_)
  · repeat (first | exact wk hG (by (repeat (refine And.intro rfl ?_)); exact trivial) (nx _ _ (by omega) hJ2) | refine hG.1 _ _ _ _ _ _ rfl ?_)
  have h6 := h5 (nI_z h4 w)
  repeat (refine hG.1 _ _ _ _ _ _ rfl ?_)
  refine And.intro (vp_in_nI (show 0 < 1 by omega) (by decide)) ?_
  rw [nI_clamp (by decide), h6]
  repeat (refine hG.1 _ _ _ _ _ _ rfl ?_)
  refine And.intro (fun _ => ?_) (fun h => absurd (cmp0 (if_neg Bool.false_ne_true)) h)
  repeat (first | exact wk hG (by (repeat (refine And.intro rfl ?_)); exact trivial) (nx _ _ (by omega) hJ2) | refine hG.1 _ _ _ _ _ _ rfl ?_)
set_option maxRecDepth 100000 in
theorem law_plan (hG : Cl 120 L xs 512 P G) (hL : L ≤ 2048) {i k : Nat} {S : PS} (hi : 4 * i + 3 < L) (hk : k ≤ i) (hJ : JJ S) (nx : ∀ (k1 : Nat) (S1 : PS), k1 ≤ k + 1 → JJ S1 → G k1 1506 (LL i) [] S1) : G k 1450 (LL i) [] S := by
  obtain ⟨n, na, nb, hJ⟩ := hJ
  obtain ⟨k', kc, b, S1, S2, hk1, h1, h2, h3, h4, h5, hJ2⟩ := j_plan S (xsA xs i 1) hJ
  repeat (refine hG.1 _ _ _ _ _ _ rfl ?_)
  refine And.intro (vin (j := 1) (by omega) hL) ?_
  repeat (refine hG.1 _ _ _ _ _ _ rfl ?_)
  refine cxP h1 (by omega) ?_
  repeat (refine hG.1 _ _ _ _ _ _ rfl ?_)
  refine And.intro (vin (j := 1) (by omega) hL) ?_
  repeat (refine hG.1 _ _ _ _ _ _ rfl ?_)
  refine And.intro rfl (cxP h2 (by omega) ?_)
  repeat (refine hG.1 _ _ _ _ _ _ rfl ?_)
  refine And.intro rfl (cxP (m_thrown S2) (by omega) ?_)
  repeat (refine hG.1 _ _ _ _ _ _ rfl ?_)
  refine And.intro (fun _ => ?_) (fun h => absurd h3 h)
  repeat (refine hG.1 _ _ _ _ _ _ rfl ?_)
  refine And.intro (fun _ => ?_) (fun w => ?_)
  · repeat (first | exact wk hG (by (repeat (refine And.intro rfl ?_)); exact trivial) (nx _ _ (by omega) hJ2) | refine hG.1 _ _ _ _ _ _ rfl ?_)
  have h6 := h5 (nI_z h4 w)
  repeat (refine hG.1 _ _ _ _ _ _ rfl ?_)
  refine And.intro (vp_in_nI (show 0 < 1 by omega) (by decide)) ?_
  rw [nI_clamp (by decide), h6]
  repeat (refine hG.1 _ _ _ _ _ _ rfl ?_)
  refine And.intro (fun _ => ?_) (fun h => absurd (cmp0 (if_neg Bool.false_ne_true)) h)
  repeat (first | exact wk hG (by (repeat (refine And.intro rfl ?_)); exact trivial) (nx _ _ (by omega) hJ2) | refine hG.1 _ _ _ _ _ _ rfl ?_)
theorem tsw {w : Int32} {o : Nat} (ho : o < 32) (hw : w = nI o) : w.toInt = (o : Int) := by
  rw [hw]
  exact nI_toInt (by omega)
set_option maxRecDepth 100000 in
theorem law_case (hG : Cl 120 L xs 512 P G) (hL : L ≤ 2048) {i k o : Nat} {S : PS} (ho : o < 23) (hi : 4 * i + 3 < L) (hk : k ≤ i) (hJ : JJ S) (nx : ∀ (k1 : Nat) (S1 : PS), k1 ≤ k + 1 → JJ S1 → G k1 1506 (LL i) [] S1) : G k (([144, 212, 280, 348, 411, 474, 537, 593, 649, 662, 718, 786, 842, 898, 954, 1010, 1066, 1134, 1202, 1282, 1338, 1394, 1450] : List Nat).getD o 0) (LL i) [] S := by
  rcases (show o = 0 ∨ o = 1 ∨ o = 2 ∨ o = 3 ∨ o = 4 ∨ o = 5 ∨ o = 6 ∨ o = 7 ∨ o = 8 ∨ o = 9 ∨ o = 10 ∨ o = 11 ∨ o = 12 ∨ o = 13 ∨ o = 14 ∨ o = 15 ∨ o = 16 ∨ o = 17 ∨ o = 18 ∨ o = 19 ∨ o = 20 ∨ o = 21 ∨ o = 22 by omega) with rfl | rfl | rfl | rfl | rfl | rfl | rfl | rfl | rfl | rfl | rfl | rfl | rfl | rfl | rfl | rfl | rfl | rfl | rfl | rfl | rfl | rfl | rfl
  · exact law_addNode hG hL hi hk hJ nx
  · exact law_setBackground hG hL hi hk hJ nx
  · exact law_setPressure hG hL hi hk hJ nx
  · exact law_addMeter hG hL hi hk hJ nx
  · exact law_toggleValve hG hL hi hk hJ nx
  · exact law_isSupplied hG hL hi hk hJ nx
  · exact law_takes hG hL hi hk hJ nx
  · exact law_flow hG hL hi hk hJ nx
  · exact law_allFlow hG hL hi hk hJ nx
  · exact law_addArea hG hL hi hk hJ nx
  · exact law_addExport hG hL hi hk hJ nx
  · exact law_nodes hG hL hi hk hJ nx
  · exact law_areaFlow hG hL hi hk hJ nx
  · exact law_areaTakes hG hL hi hk hJ nx
  · exact law_loss hG hL hi hk hJ nx
  · exact law_steps hG hL hi hk hJ nx
  · exact law_stepPipe hG hL hi hk hJ nx
  · exact law_drop hG hL hi hk hJ nx
  · exact law_burst hG hL hi hk hJ nx
  · exact law_repair hG hL hi hk hJ nx
  · exact law_cost hG hL hi hk hJ nx
  · exact law_ranked hG hL hi hk hJ nx
  · exact law_plan hG hL hi hk hJ nx
set_option maxRecDepth 100000 in
theorem law_head (hG : Cl 120 L xs 512 P G) (hL : L ≤ 2048) (hP : ∀ (k : Nat) (S : PS), P k (.inl (some (nI 1))) S) : ∀ (m i k : Nat) (S : PS), L < 4 * (i + m) + 4 → i ≤ 512 → k ≤ i → JJ S → G k 23 (LL i) [] S := by
  intro m
  induction m with
  | zero =>
    intro i k S hm h512 hk hJ
    repeat (refine hG.1 _ _ _ _ _ _ rfl ?_)
    refine And.intro (fun _ => ?_) (fun h => ?_)
    · repeat (refine hG.1 _ _ _ _ _ _ rfl ?_)
      exact And.intro rfl (hP _ _)
    · exact absurd (ltS hL h512 (by omega)) h
  | succ m ih =>
    intro i k S hm h512 hk hJ
    by_cases hi : 4 * i + 3 < L
    · have nx : ∀ (k1 : Nat) (S1 : PS), k1 ≤ k + 1 → JJ S1 → G k1 1506 (LL i) [] S1 := by
        intro k1 S1 hk1 hJ1
        have g := ih (i + 1) k1 S1 (by omega) (by omega) (by omega) hJ1
        refine hG.1 _ _ _ _ _ _ rfl ?_
        refine hG.1 _ _ _ _ _ _ rfl ?_
        refine wk hG ?_ g
        refine And.intro (nI_add _ _) ?_
        repeat (refine And.intro rfl ?_)
        exact trivial
      repeat (refine hG.1 _ _ _ _ _ _ rfl ?_)
      refine And.intro (fun h => ?_) (fun _ => ?_)
      · exact absurd h (ltN hL hi)
      · repeat (refine hG.1 _ _ _ _ _ _ rfl ?_)
        refine And.intro (vp_in_nI (show 4 * i < L by omega) (by omega)) ?_
        repeat (refine hG.1 _ _ _ _ _ _ rfl ?_)
        obtain ⟨o, ho, ew⟩ := pk_andE (xs (nI (4 * i)).toNatClampNeg) (m := nI 31) 5 (by decide)
        have et := tsw ho ew
        refine And.intro (fun j off tg h1 h2 h3 h4 h5 => ?_) (And.intro (fun tg h1 h2 => ?_) (And.intro ?_ ⟨1506, rfl⟩))
        · have k1 : ¬ (xs (nI (4 * i)).toNatClampNeg &&& nI 31).toInt < 0 := h1
          have k2 : ¬ 22 < (xs (nI (4 * i)).toNatClampNeg &&& nI 31).toInt := h2
          have k3 : ((xs (nI (4 * i)).toNatClampNeg &&& nI 31).toInt - 0).toNat = j := h3
          rw [et] at k1 k2 k3
          have hj : j = o := by omega
          have ho23 : o < 23 := by omega
          have e := law_case hG hL ho23 hi hk hJ nx
          have ht : tg = ([144, 212, 280, 348, 411, 474, 537, 593, 649, 662, 718, 786, 842, 898, 954, 1010, 1066, 1134, 1202, 1282, 1338, 1394, 1450] : List Nat).getD o 0 := offO ho23 (hj ▸ h4) h5
          rw [ht]
          exact e
        · have k1 : (((144 : Nat) : Int) - 105) + 1467 = (tg : Int) := h2
          have ht : tg = 1506 := by omega
          rw [ht]
          exact nx k S (by omega) hJ
        · exact offA
    · repeat (refine hG.1 _ _ _ _ _ _ rfl ?_)
      refine And.intro (fun _ => ?_) (fun h => ?_)
      · repeat (refine hG.1 _ _ _ _ _ _ rfl ?_)
        exact And.intro rfl (hP _ _)
      · exact absurd (ltS hL h512 (by omega)) h
end LAW
