theorem upd_eq {f g : Nat → Int32} {k : Nat} {x : Int32} (h : f = g) : upd f k x = upd g k x := by rw [h]
theorem updc {f : Nat → Int32} {k j : Nat} {x : Int32} : upd f k x j = if j = k then x else f j := rfl
theorem j_addNode (S : PS) (x y : Int32) {n na nb : Nat} (hJ : J S n na nb) : Jt false 98 63 [.ref 0, .int x, .int y, .ref 26] [.ref 12, .int x, .int y] S := by
  obtain ⟨e1, e2, hn, h1n, e7, e8, hna, e10, e11, hnb⟩ := J_n hJ
  rcases dR y (nI 0) (nI 10000) with h | h
  · rcases dN x (n := n) (by omega) with ⟨j, hj, rfl⟩ | hx
    · by_cases h16 : n < 16
      · refine ⟨0, 0, nI n, outS (sAddNode S n j y) (nI n).toInt64, tAddNode (outS (sAddNode S n j y) (nI n).toInt64) n j y, Nat.zero_le _, w_addNode S _ _ _ _ (x_addNode S j n y h e1 hj h16), m_addNode (outS (sAddNode S n j y) (nI n).toInt64) j n y h e2 hj h16, rfl, Nat.zero_le _, fun _ => rfl, n + 1, na, nb, ?_⟩
        obtain ⟨⟨-, -, -, -, hpr⟩, -, ⟨-, hW, ⟨h14, h15, h16b, h19, -⟩, ⟨h22, h23, h24, h20, h21⟩, ⟨hsh, hs0⟩, hrp⟩, hmt, ⟨hAr, hAr0⟩, hBn, hh⟩ := hJ
        have hpr' : PrOk (upd (S.2.1 4) n (-1)) := by
          intro k hk
          by_cases hkn : k = n
          · subst hkn; exact Or.inl upd_same
          · rw [upd_lt hkn]; exact hpr k hk
        have hW' : Wy (tAddNode (outS (sAddNode S n j y) (nI n).toInt64) n j y).2.1 (n + 1) := by
          refine ⟨?_, fun k h0 hk => ?_⟩
          · show upd (S.2.1 1) n (S.2.1 1 j ||| one n) 0 = one 0
            rw [upd_lt (by omega)]
            exact hW.1
          · by_cases hkn : k = n
            · subst hkn
              refine ⟨j, hj, upd_same, ?_⟩
              show upd (S.2.1 1) k (S.2.1 1 j ||| one k) k = upd (S.2.1 1) k (S.2.1 1 j ||| one k) j ||| one k
              rw [upd_same, upd_lt (by omega)]
            · obtain ⟨q, hq, a1, a2⟩ := hW.2 k h0 (by omega)
              refine ⟨q, hq, ?_, ?_⟩
              · show upd (S.2.1 13) n (nI j) k = nI q
                rw [upd_lt hkn]; exact a1
              · show upd (S.2.1 1) n (S.2.1 1 j ||| one n) k = upd (S.2.1 1) n (S.2.1 1 j ||| one n) q ||| one k
                rw [upd_lt hkn, upd_lt (by omega)]; exact a2
        refine ⟨⟨rfl, by omega, e10, hnb, hpr'⟩, ⟨e7, hna, e8⟩, ⟨⟨rfl, by omega, by omega, e11, hnb⟩, hW', ⟨upd_eq h14, h15, ?_, h19, hpr'⟩, ⟨h22, h23, h24, h20, h21⟩, ⟨hsh, hs0⟩, hrp⟩, hmt, ⟨fun a ha => ?_, hAr0⟩, fun b hb => ?_, hh⟩
        · intro k h0 hk
          show upd (S.2.1 16) n (-1) k = upd (S.2.1 4) n (-1) k
          by_cases hkn : k = n
          · subst hkn; rw [upd_same, upd_same]
          · rw [upd_lt hkn, upd_lt hkn]; exact h16b k h0 hk
        · obtain ⟨q, a1, a2, a3⟩ := hAr a ha
          refine ⟨q, by omega, a2, fun e he hx => ?_⟩
          obtain ⟨b1, b2, b3⟩ := a3 e he hx
          refine ⟨by omega, b2, ?_⟩
          show hs (upd (S.2.1 1) n (S.2.1 1 j ||| one n) e) q
          rw [upd_lt (by omega)]
          exact b3
        · obtain ⟨q, hq, e⟩ := hBn b hb
          exact ⟨q, by omega, e⟩
      · have h16 : n = 16 := by omega
        subst h16
        exact j_err hJ (by decide) (by decide) (w_addNode_2 S S _ _ (x_addNode_2 S j y h e1 hj)) (m_addNode_2 S j y h e2 hj)
    · exact j_err hJ (by decide) (by decide) (w_addNode_1 S S _ _ (x_addNode_1 S x y h (by rw [e1]; exact hx))) (m_addNode_1 S x y n h e2 hn h1n hx)
  · exact j_err hJ (by decide) (by decide) (w_addNode_0 S S _ _ (x_addNode_0 S x y h)) (m_addNode_0 S x y h)
theorem j_setBackground (S : PS) (x y : Int32) {n na nb : Nat} (hJ : J S n na nb) : Jt false 99 64 [.ref 0, .int x, .int y, .ref 26] [.ref 12, .int x, .int y] S := by
  obtain ⟨e1, e2, hn, h1n, e7, e8, hna, e10, e11, hnb⟩ := J_n hJ
  rcases dR y (nI 0) (nI 10000) with h | h
  · rcases dN x (n := n) (by omega) with ⟨j, hj, rfl⟩ | hx
    · obtain ⟨r, hr⟩ : ∃ r, r = lkgX (sSetB S j y).2.1 nb (S.1 0 14) j := ⟨_, rfl⟩
      obtain ⟨hX, hA, ⟨hc, hW, ⟨h14, h15, h16b, h19, hpr⟩, h5, h6, hrp⟩, hmt, hAr, hBn, hh⟩ := id hJ
      have hM2 : MR (tSetB (outS (sSetB S j y) r.toInt64) j y) n nb (S.1 0 14) (S.1 0 6) := ⟨hc, hW, ⟨h14, upd_eq h15, h16b, h19, hpr⟩, h5, h6, hrp⟩
      refine ⟨0, 0, r, outS (sSetB S j y) r.toInt64, tSetB (outS (sSetB S j y) r.toInt64) j y, Nat.zero_le _, w_setBackground S _ _ _ _ (fe (x_setBackground S j n nb y h hJ.1 hj) hr.symm), fe (m_setBackground (outS (sSetB S j y) r.toInt64) j n nb _ _ y h hM2 hj) hr.symm, rfl, Nat.zero_le _, fun _ => rfl, n, na, nb, ?_⟩
      exact ⟨hX, hA, hM2, hmt, hAr, hBn, hh⟩
    · exact j_err hJ (by decide) (by decide) (w_setBackground_1 S S _ _ (x_setBackground_1 S x y h (by rw [e1]; exact hx))) (m_setBackground_1 S x y n h e2 hn h1n hx)
  · exact j_err hJ (by decide) (by decide) (w_setBackground_0 S S _ _ (x_setBackground_0 S x y h)) (m_setBackground_0 S x y h)
theorem okP_of {v : Int32} (h : okR v (-1) (nI 100)) : v = -1 ∨ ∃ w : Nat, w ≤ 100 ∧ v = nI w := by
  have h1 : (-1 : Int32).toInt = -1 := by decide
  have h2 : (nI 100).toInt = 100 := by decide
  obtain ⟨a, b⟩ := h
  rw [Int32.lt_iff_toInt_lt, h1] at a
  rw [Int32.le_iff_toInt_le, h2] at b
  rcases (show v.toInt = -1 ∨ 0 ≤ v.toInt by omega) with z | z
  · left
    exact Int32.toInt_inj.mp (z.trans h1.symm)
  · right
    refine ⟨v.toInt.toNat, by omega, ?_⟩
    apply Int32.toInt_inj.mp
    rw [nI_toInt (by omega)]
    omega
theorem j_setPressure (S : PS) (x y : Int32) {n na nb : Nat} (hJ : J S n na nb) : Jt false 100 65 [.ref 0, .int x, .int y, .ref 26] [.ref 12, .int x, .int y] S := by
  obtain ⟨e1, e2, hn, h1n, e7, e8, hna, e10, e11, hnb⟩ := J_n hJ
  rcases dR y (-1) (nI 100) with h | h
  · rcases dP x (n := n) (by omega) with ⟨j, h0, hj, rfl⟩ | hx
    · obtain ⟨r, hr⟩ : ∃ r, r = prs (sSetP S j y).2.1 j := ⟨_, rfl⟩
      obtain ⟨⟨x1, x2, x3, x4, hpr⟩, hA, ⟨hc, hW, ⟨h14, h15, h16b, h19, -⟩, h5, h6, hrp⟩, hmt, hAr, hBn, hh⟩ := id hJ
      have hpr' : PrOk (upd (S.2.1 4) j y) := by
        intro k hk
        by_cases hkn : k = j
        · subst hkn; rw [upd_same]; exact okP_of h
        · rw [upd_lt hkn]; exact hpr k hk
      have h16c : ∀ k, 0 < k → k < 16 → upd (S.2.1 16) j y k = upd (S.2.1 4) j y k := by
        intro k h0 hk
        by_cases hkn : k = j
        · subst hkn; rw [upd_same, upd_same]
        · rw [upd_lt hkn, upd_lt hkn]; exact h16b k h0 hk
      have hM2 : MR (tSetP (outS (sSetP S j y) r.toInt64) j y) n nb (S.1 0 14) (S.1 0 6) := ⟨hc, hW, ⟨h14, h15, h16c, h19, hpr'⟩, h5, h6, hrp⟩
      refine ⟨0, 0, r, outS (sSetP S j y) r.toInt64, tSetP (outS (sSetP S j y) r.toInt64) j y, Nat.zero_le _, w_setPressure S _ _ _ _ (fe (x_setPressure S j n y h e1 hn h0 hj) hr.symm), fe (m_setPressure (outS (sSetP S j y) r.toInt64) j n nb _ _ y h hM2 h0 hj) hr.symm, rfl, Nat.zero_le _, fun _ => rfl, n, na, nb, ?_⟩
      exact ⟨⟨x1, x2, x3, x4, hpr'⟩, hA, hM2, hmt, hAr, hBn, hh⟩
    · exact j_err hJ (by decide) (by decide) (w_setPressure_1 S S _ _ (x_setPressure_1 S x y h (by rw [e1]; exact hx))) (m_setPressure_1 S x y n h e2 hn h1n hx)
  · exact j_err hJ (by decide) (by decide) (w_setPressure_0 S S _ _ (x_setPressure_0 S x y h)) (m_setPressure_0 S x y h)
theorem j_addMeter (S : PS) (x : Int32) {n na nb : Nat} (hJ : J S n na nb) : Jt true 101 66 [.ref 0, .int x, .ref 26] [.ref 12, .int x] S := by
  obtain ⟨e1, e2, hn, h1n, e7, e8, hna, e10, e11, hnb⟩ := J_n hJ
  rcases dP x (n := n) (by omega) with ⟨j, h0, hj, rfl⟩ | hx
  · refine ⟨0, 0, bi (¬ hs (S.1 0 5) j), outS (sMeter S j) (zl (bi (¬ hs (S.1 0 5) j))), tMeter (outS (sMeter S j) (zl (bi (¬ hs (S.1 0 5) j)))) j, Nat.zero_le _, w_addMeter S _ _ _ (x_addMeter S j n e1 hn h0 hj), m_addMeter (outS (sMeter S j) (zl (bi (¬ hs (S.1 0 5) j)))) j n (S.1 0 5) e2 hn h0 hj (hJ.2.2.2.1 j (by omega)), rfl, Nat.zero_le _, fun _ => rfl, n, na, nb, ?_⟩
    obtain ⟨hX, hA, hM, hmt, hAr, hBn, hh⟩ := hJ
    refine ⟨hX, hA, hM, fun k hk => ?_, hAr, hBn, hh⟩
    show upd (S.2.1 17) j (nI 1) k = bi (hs (S.1 0 5 ||| one j) k)
    have hor : hs (S.1 0 5 ||| one j) k ↔ (hs (S.1 0 5) k ∨ j = k) := by rw [hs_or (by omega), hs_one (by omega) (by omega)]
    by_cases hkj : k = j
    · subst hkj
      rw [upd_same, bi_t (hor.mpr (Or.inr rfl))]
    · rw [upd_lt hkj, hmt k hk, bi_or hor (fun z => hkj z.symm)]
  · exact j_err hJ (by decide) (by decide) (w_addMeter_1 S S _ (x_addMeter_0 S x (by rw [e1]; exact hx))) (m_addMeter_0 S x n e2 hn h1n hx)
theorem j_toggleValve (S : PS) (x : Int32) {n na nb : Nat} (hJ : J S n na nb) : Jt true 102 67 [.ref 0, .int x, .ref 26] [.ref 12, .int x] S := by
  obtain ⟨e1, e2, hn, h1n, e7, e8, hna, e10, e11, hnb⟩ := J_n hJ
  rcases dP x (n := n) (by omega) with ⟨j, h0, hj, rfl⟩ | hx
  · have hxor : hs (S.1 0 6 ^^^ one j) j ↔ ¬ hs (S.1 0 6) j := by rw [hs_xone (by omega) (by omega), if_pos rfl]
    have er : bi (¬ hs (S.1 0 6 ^^^ one j) j) = bi (hs (S.1 0 6) j) := by
      by_cases z : hs (S.1 0 6) j
      · rw [bi_t z, bi_t (p := ¬ hs (S.1 0 6 ^^^ one j) j) (fun w => hxor.mp w z)]
      · rw [bi_f z, bi_f (p := ¬ hs (S.1 0 6 ^^^ one j) j) (fun w => w (hxor.mpr z))]
    refine ⟨0, 0, bi (hs (S.1 0 6) j), outS (sValve S j) (zl (bi (hs (S.1 0 6) j))), tValve (outS (sValve S j) (zl (bi (hs (S.1 0 6) j)))) j (bi (¬ hs (S.1 0 6) j)), Nat.zero_le _, w_toggleValve S _ _ _ (fe (x_toggleValve S j n e1 hn h0 hj) er), m_toggleValve (outS (sValve S j) (zl (bi (hs (S.1 0 6) j)))) j n (S.1 0 6) e2 hn h0 hj (hJ.2.2.1.2.2.2.2.1.1 j (by omega)), rfl, Nat.zero_le _, fun _ => rfl, n, na, nb, ?_⟩
    obtain ⟨hX, hA, ⟨hc, hW, h4, h5, ⟨hsh, hs0⟩, hrp⟩, hmt, hAr, hBn, hh⟩ := hJ
    refine ⟨hX, hA, ⟨hc, hW, h4, h5, ⟨fun k hk => ?_, ?_⟩, hrp⟩, hmt, hAr, hBn, hh⟩
    · show upd (S.2.1 18) j (bi (¬ hs (S.1 0 6) j)) k = bi (hs (S.1 0 6 ^^^ one j) k)
      have hxk : hs (S.1 0 6 ^^^ one j) k ↔ (if j = k then ¬ hs (S.1 0 6) k else hs (S.1 0 6) k) := hs_xone (by omega) (by omega)
      by_cases hkj : k = j
      · subst hkj
        rw [if_pos rfl] at hxk
        rw [upd_same]
        unfold bi
        simp only [hxk]
      · rw [if_neg (fun z => hkj z.symm)] at hxk
        rw [upd_lt hkj, hsh k hk]
        unfold bi
        simp only [hxk]
    · show ¬ hs (S.1 0 6 ^^^ one j) 0
      rw [hs_xone (by omega) (by omega), if_neg (by omega)]
      exact hs0
  · exact j_err hJ (by decide) (by decide) (w_toggleValve_1 S S _ (x_toggleValve_0 S x (by rw [e1]; exact hx))) (m_toggleValve_0 S x n e2 hn h1n hx)
theorem j_addArea (S : PS) (x : Int32) {n na nb : Nat} (hJ : J S n na nb) : Jt false 106 76 [.ref 0, .int x, .ref 26] [.ref 12, .int x] S := by
  obtain ⟨e1, e2, hn, h1n, e7, e8, hna, e10, e11, hnb⟩ := J_n hJ
  rcases dN x (n := n) (by omega) with ⟨j, hj, rfl⟩ | hx
  · by_cases h8 : na < 8
    · refine ⟨0, 0, nI na, outS (sArea S na j) (nI na).toInt64, tArea (outS (sArea S na j) (nI na).toInt64) na j, Nat.zero_le _, w_addArea S _ _ _ (x_addArea S j n na e1 hn hj e7 h8), m_addArea (outS (sArea S na j) (nI na).toInt64) j n na e2 hn hj e8 h8, rfl, Nat.zero_le _, fun _ => rfl, n, na + 1, nb, ?_⟩
      obtain ⟨hX, hA, ⟨hc, hW, h4, ⟨h22, h23, h24, h20, h21⟩, h6, hrp⟩, hmt, ⟨hAr, hAr0⟩, hBn, hh⟩ := hJ
      refine ⟨hX, ⟨rfl, by omega, rfl⟩, ⟨hc, hW, h4, ⟨h22, h23, h24, upd_eq h20, h21⟩, h6, hrp⟩, hmt, ⟨fun a ha => ?_, fun a ha hb => hAr0 a (by omega) hb⟩, hBn, hh⟩
      by_cases haa : a = na
      · subst haa
        refine ⟨j, hj, upd_same, fun e he hx => ?_⟩
        have hx2 : hs (S.2.1 6 a) e := hx
        rw [hAr0 a (Nat.le_refl _) h8] at hx2
        exact absurd hx2 (hs_0 he)
      · obtain ⟨q, a1, a2, a3⟩ := hAr a (by omega)
        refine ⟨q, a1, ?_, a3⟩
        show upd (S.2.1 5) na (nI j) a = nI q
        rw [upd_lt haa]
        exact a2
    · have h8 : na = 8 := by omega
      subst h8
      exact j_err hJ (by decide) (by decide) (w_addArea_2 S S _ (x_addArea_1 S j n e1 hn hj e7)) (m_addArea_1 S j n e2 hn hj e8)
  · exact j_err hJ (by decide) (by decide) (w_addArea_1 S S _ (x_addArea_0 S x (by rw [e1]; exact hx))) (m_addArea_0 S x n e2 hn h1n hx)
theorem j_addExport (S : PS) (x y : Int32) {n na nb : Nat} (hJ : J S n na nb) : Jt false 107 77 [.ref 0, .int x, .int y, .ref 26] [.ref 12, .int x, .int y] S := by
  obtain ⟨e1, e2, hn, h1n, e7, e8, hna, e10, e11, hnb⟩ := J_n hJ
  rcases dN x (n := na) (by omega) with ⟨a, ha, rfl⟩ | hx
  · rcases dN y (n := n) (by omega) with ⟨j, hj, rfl⟩ | hy
    · obtain ⟨hX, hA, ⟨hc, hW, h4, ⟨h22, h23, h24, h20, h21⟩, h6, hrp⟩, hmt, ⟨hAr, hAr0⟩, hBn, hh⟩ := id hJ
      obtain ⟨q, a1, a2, a3⟩ := hAr a ha
      have hce : canX S.2.1 a j ↔ (j ≠ q ∧ hs (S.2.1 1 j) q ∧ ¬ hs (S.2.1 6 a) j) := by
        unfold canX
        rw [a2]
        constructor
        · rintro ⟨z1, z2, z3⟩
          exact ⟨fun w => z1 (by rw [w]), z2, z3⟩
        · rintro ⟨z1, z2, z3⟩
          exact ⟨fun w => z1 ((nI_eq (by omega) (by omega)).mp w), z2, z3⟩
      by_cases hcan : canX S.2.1 a j
      · obtain ⟨c1, c2, c3⟩ := hce.mp hcan
        obtain ⟨r, hr⟩ : ∃ r, r = nI (cnt (inA (sExp S a j).2.1 a) n) := ⟨_, rfl⟩
        have er : bcI (stL (inA (sExp S a j).2.1 a) n) = r := by rw [hr]; exact set_cnt hn
        have hA2 : ArOk (outS (sExp S a j) r.toInt64).2.1 n a q := by
          refine ⟨a1, a2, fun e he hx => ?_⟩
          have hx2 : hs (upd (S.2.1 6) a (S.2.1 6 a ||| one j) a) e := hx
          rw [upd_same, hs_or he, hs_one (by omega) he] at hx2
          rcases hx2 with z | z
          · exact a3 e he z
          · subst z
            exact ⟨hj, c1, c2⟩
        have hM2 : MR (tExp (outS (sExp S a j) r.toInt64) a j) n nb (S.1 0 14) (S.1 0 6) := by
          refine ⟨hc, hW, h4, ⟨h22, h23, h24, h20, ?_⟩, h6, hrp⟩
          show upd (S.2.1 21) a (S.2.1 21 a ||| one j) = upd (S.2.1 6) a (S.2.1 6 a ||| one j)
          rw [h21]
        have h20a : (outS (sExp S a j) r.toInt64).2.1 20 a = nI q := by
          show S.2.1 20 a = nI q
          rw [h20]
          exact a2
        have hcM : canM (outS (sExp S a j) r.toInt64).2.1 a j q := by
          refine ⟨c1, c2, ?_⟩
          show ¬ hs (S.2.1 21 a) j
          rw [h21]
          exact c3
        refine ⟨0, 0, r, outS (sExp S a j) r.toInt64, tExp (outS (sExp S a j) r.toInt64) a j, Nat.zero_le _, w_addExport S _ _ _ _ (fe (x_addExport S a na j n nb ha hna e7 hX hj hcan) er), fe (m_addExport (outS (sExp S a j) r.toInt64) a j q n nb na _ _ e8 hna ha hj hM2 hA2 h20a hcM) hr.symm, rfl, Nat.zero_le _, fun _ => rfl, n, na, nb, ?_⟩
        refine ⟨hX, hA, hM2, hmt, ⟨fun b hb => ?_, fun b h1 h2 => ?_⟩, hBn, hh⟩
        · by_cases hba : b = a
          · subst hba
            exact ⟨q, hA2⟩
          · obtain ⟨q2, b1, b2, b3⟩ := hAr b hb
            refine ⟨q2, b1, b2, fun e he hx => ?_⟩
            have hx2 : hs (upd (S.2.1 6) a (S.2.1 6 a ||| one j) b) e := hx
            rw [upd_lt hba] at hx2
            exact b3 e he hx2
        · show upd (S.2.1 6) a (S.2.1 6 a ||| one j) b = nI 0
          rw [upd_lt (by omega)]
          exact hAr0 b h1 h2
      · have h20a : S.2.1 20 a = nI q := by rw [h20]; exact a2
        exact j_err hJ (by decide) (by decide) (w_addExport_2 S S _ _ (x_addExport_2 S a na j n ha hna e7 e1 hn hj hcan)) (m_addExport_2 S a j q n na e2 hn e8 hna ha hj hW a1 h20a (fun z => hcan (hce.mpr ⟨z.1, z.2.1, by have := z.2.2; rw [h21] at this; exact this⟩)))
    · exact j_err hJ (by decide) (by decide) (w_addExport_1 S S _ _ (x_addExport_1 S a na y ha hna e7 (by rw [e1]; exact hy))) (m_addExport_0 S _ y n na e2 hn h1n e8 hna (Or.inr ⟨⟨a, ha, rfl⟩, hy⟩))
  · exact j_err hJ (by decide) (by decide) (w_addExport_1 S S _ _ (x_addExport_0 S x y (by rw [e7]; exact hx))) (m_addExport_0 S x y n na e2 hn h1n e8 hna (Or.inl hx))
theorem j_burst (S : PS) (x y z : Int32) {n na nb : Nat} (hJ : J S n na nb) : Jt false 115 89 [.ref 0, .int x, .int y, .int z, .ref 26] [.ref 12, .int x, .int y, .int z] S := by
  obtain ⟨e1, e2, hn, h1n, e7, e8, hna, e10, e11, hnb⟩ := J_n hJ
  rcases dR y (nI 1) (nI 10000) with h | h
  · rcases dR z (nI 1) (nI 100) with h2 | h2
    · rcases dN x (n := n) (by omega) with ⟨j, hj, rfl⟩ | hx
      · by_cases h20 : nb < 20
        · refine ⟨0, 0, nI nb, outS (sBurst S nb j y z) (nI nb).toInt64, tBurst (outS (sBurst S nb j y z) (nI nb).toInt64) nb j y z, Nat.zero_le _, w_burst S _ _ _ _ _ (x_burst S j n nb y z h h2 e1 hn hj e10 h20), m_burst (outS (sBurst S nb j y z) (nI nb).toInt64) j n nb y z h h2 e2 hn hj e11 h20, rfl, Nat.zero_le _, fun _ => rfl, n, na, nb + 1, ?_⟩
          obtain ⟨⟨x1, x2, -, -, hpr⟩, hA, ⟨⟨c1, c2, c3, -, -⟩, hW, h4, ⟨h22, h23, h24, h20', h21⟩, h6, hrp⟩, hmt, hAr, hBn, hh⟩ := hJ
          refine ⟨⟨x1, x2, rfl, by omega, hpr⟩, hA, ⟨⟨c1, c2, c3, rfl, by omega⟩, hW, h4, ⟨upd_eq h22, upd_eq h23, upd_eq h24, h20', h21⟩, h6, hrp⟩, hmt, hAr, fun b hb => ?_, fun b hb => ?_⟩
          · by_cases hbb : b = nb
            · subst hbb
              exact ⟨j, hj, upd_same⟩
            · obtain ⟨q, hq, e⟩ := hBn b (by omega)
              refine ⟨q, hq, ?_⟩
              show upd (S.2.1 7) nb (nI j) b = nI q
              rw [upd_lt hbb]
              exact e
          · show 1 ≤ (upd (S.2.1 9) nb z b).toInt ∧ (upd (S.2.1 9) nb z b).toInt ≤ 100
            by_cases hbb : b = nb
            · subst hbb
              rw [upd_same]
              have k1 : (nI 1).toInt = 1 := by decide
              have k2 : (nI 100).toInt = 100 := by decide
              obtain ⟨a, b⟩ := h2
              rw [Int32.lt_iff_toInt_lt, k1] at a
              rw [Int32.le_iff_toInt_le, k2] at b
              omega
            · rw [upd_lt hbb]
              exact hh b (by omega)
        · have h20 : nb = 20 := by omega
          subst h20
          exact j_err hJ (by decide) (by decide) (w_burst_2 S S _ _ _ (x_burst_2 S j n y z h h2 e1 hn hj e10)) (m_burst_2 S j n y z h h2 e2 hn hj e11)
      · exact j_err hJ (by decide) (by decide) (w_burst_1 S S _ _ _ (x_burst_1 S x y z h h2 (by rw [e1]; exact hx))) (m_burst_1 S x y z n h h2 e2 hn h1n hx)
    · exact j_err hJ (by decide) (by decide) (w_burst_0 S S _ _ _ (x_burst_0b S x y z h h2)) (m_burst_0b S x y z h h2)
  · exact j_err hJ (by decide) (by decide) (w_burst_0 S S _ _ _ (x_burst_0a S x y z h)) (m_burst_0a S x y z h)
theorem j_repair (S : PS) (x : Int32) {n na nb : Nat} (hJ : J S n na nb) : Jt false 116 92 [.ref 0, .int x, .ref 26] [.ref 12, .int x] S := by
  obtain ⟨e1, e2, hn, h1n, e7, e8, hna, e10, e11, hnb⟩ := J_n hJ
  rcases dN x (n := nb) (by omega) with ⟨b, hb, rfl⟩ | hx
  · obtain ⟨q, hq, hbq⟩ := hJ.2.2.2.2.2.1 b hb
    have h25 := hJ.2.2.1.2.2.2.2.2 b (by omega)
    by_cases hr : hs (S.1 0 14) b
    · exact j_err hJ (by decide) (by decide) (w_repair_2 S S _ (x_repair_1 S b nb hb hnb e10 hr)) (m_repair_1 S b nb e11 hnb hb (h25.trans (bi_t hr)))
    · obtain ⟨r, hr2⟩ : ∃ r, r = csX S.2.1 nb (S.1 0 14) (S.1 0 6) b := ⟨_, rfl⟩
      refine ⟨0, 0, r, outS (sRep S b) r.toInt64, tRep (outS (sRep S b) r.toInt64) b, Nat.zero_le _, w_repair S _ _ _ (fe (x_repair S b q n nb hb hJ.1 (by omega) hbq hr) hr2.symm), fe (m_repair (outS (sRep S b) r.toInt64) b q n nb (S.1 0 14) (S.1 0 6) hJ.2.2.1 hb hq hbq hr) hr2.symm, rfl, Nat.zero_le _, fun _ => rfl, n, na, nb, ?_⟩
      obtain ⟨hX, hA, ⟨hc, hW, h4, h5, h6, hrp⟩, hmt, hAr, hBn, hh⟩ := hJ
      refine ⟨hX, hA, ⟨hc, hW, h4, h5, h6, fun c hc => ?_⟩, hmt, hAr, hBn, hh⟩
      show upd (S.2.1 25) b (nI 1) c = bi (hs (S.1 0 14 ||| one b) c)
      have hor : hs (S.1 0 14 ||| one b) c ↔ (hs (S.1 0 14) c ∨ b = c) := by rw [hs_or (by omega), hs_one (by omega) (by omega)]
      by_cases hcb : c = b
      · subst hcb
        rw [upd_same, bi_t (hor.mpr (Or.inr rfl))]
      · rw [upd_lt hcb, hrp c hc, bi_or hor (fun z => hcb z.symm)]
  · exact j_err hJ (by decide) (by decide) (w_repair_1 S S _ (x_repair_0 S x (by rw [e10]; exact hx))) (m_repair_0 S x nb e11 hnb hx).1
