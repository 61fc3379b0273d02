def J (S : PS) (n na nb : Nat) : Prop :=
  Xn S n nb ∧ (S.1 0 7 = nI na ∧ na ≤ 8 ∧ S.1 12 8 = nI na) ∧ MR S n nb (S.1 0 14) (S.1 0 6) ∧ (∀ k, k < 16 → S.2.1 17 k = bi (hs (S.1 0 5) k)) ∧
  ((∀ a, a < na → ∃ q, ArOk S.2.1 n a q) ∧ ∀ a, na ≤ a → a < 8 → S.2.1 6 a = nI 0) ∧ BnM S.2.1 n nb ∧ ∀ b, b < nb → 1 ≤ (S.2.1 9 b).toInt ∧ (S.2.1 9 b).toInt ≤ 100
def JJ (S : PS) : Prop := ∃ n na nb, J S n na nb
def Jt (z : Bool) (wi mi : Nat) (wa ma : List Value) (S : PS) : Prop := ∃ (k kc : Nat) (b : Int32) (S1 S2 : PS), k ≤ 1 ∧ Run k wi wa S (.inl (some (nI kc))) S1 ∧ Run 0 mi ma S1 (.inl (some b)) S2 ∧ S2.1 12 16 = nI kc ∧ kc ≤ 3 ∧ (kc = 0 → S2.2.2 0 = (if z = true then zl b else b.toInt64)) ∧ JJ S2
theorem J_n {S : PS} {n na nb : Nat} (h : J S n na nb) : S.1 0 0 = nI n ∧ S.1 12 0 = nI n ∧ n ≤ 16 ∧ 1 ≤ n ∧ S.1 0 7 = nI na ∧ S.1 12 8 = nI na ∧ na ≤ 8 ∧ S.1 0 10 = nI nb ∧ S.1 12 11 = nI nb ∧ nb ≤ 20 :=
  ⟨h.1.1, h.2.2.1.1.1, h.1.2.1, h.2.2.1.1.2.1, h.2.1.1, h.2.1.2.2, h.2.1.2.1, h.1.2.2.1, h.2.2.1.1.2.2.2.1, h.1.2.2.2.1⟩
theorem j_err {z : Bool} {wi mi kc : Nat} {wa ma : List Value} {S S' : PS} {n na nb : Nat} (hJ : J S' n na nb) (hk : 0 < kc) (hk3 : kc ≤ 3) (h1 : Run 1 wi wa S (.inl (some (nI kc))) S') (h2 : Run 0 mi ma S' (.inl (some (nI 0))) (sThr S' (nI kc))) : Jt z wi mi wa ma S :=
  ⟨1, kc, nI 0, S', sThr S' (nI kc), Nat.le_refl _, h1, h2, rfl, hk3, fun h => by omega, n, na, nb, hJ⟩
theorem j_ok {wi mi : Nat} {wa ma : List Value} {S S' : PS} {r : Int32} {n na nb : Nat} (hJ : J S' n na nb) (h1 : Run 0 wi wa S (.inl (some (nI 0))) (outS S' r.toInt64)) (h2 : Run 0 mi ma (outS S' r.toInt64) (.inl (some r)) (sThr (outS S' r.toInt64) (nI 0))) : Jt false wi mi wa ma S :=
  ⟨0, 0, r, _, _, Nat.zero_le _, h1, h2, rfl, Nat.zero_le _, fun _ => rfl, n, na, nb, hJ⟩
theorem fe {S S' : PS} {i : Nat} {as : List Value} {r r' : Int32} {k : Nat} (h : Run k i as S (.inl (some r)) S') (e : r = r') : Run k i as S (.inl (some r')) S' := e ▸ h
theorem j_takes (S : PS) (x : Int32) {n na nb : Nat} (hJ : J S n na nb) : Jt false 104 69 [.ref 0, .int x, .ref 26] [.ref 12, .int x] S := by
  obtain ⟨e1, e2, hn, h1n, -⟩ := J_n hJ
  rcases dN x (n := n) (by omega) with ⟨j, hj, rfl⟩ | h
  · exact j_ok hJ (w_takes S S _ _ (x_takes S j n nb hJ.1 hj)) (m_takes (outS S _) j n nb _ _ hJ.2.2.1 hj)
  · exact j_err hJ (by decide) (by decide) (w_takes_1 S S _ (x_takes_0 S x (by rw [e1]; exact h))) (m_takes_0 S x n e2 hn h1n h)
theorem j_flow (S : PS) (x : Int32) {n na nb : Nat} (hJ : J S n na nb) : Jt false 105 70 [.ref 0, .int x, .ref 26] [.ref 12, .int x] S := by
  obtain ⟨e1, e2, hn, h1n, -⟩ := J_n hJ
  rcases dP x (n := n) (by omega) with ⟨j, h0, hj, rfl⟩ | h
  · have hm := hJ.2.2.2.1 j (by omega)
    by_cases hs5 : hs (S.1 0 5) j
    · exact j_ok hJ (w_flow S S _ _ (x_flow S j n nb hJ.1 h0 hj hs5)) (m_flow (outS S _) j n nb _ _ hJ.2.2.1 h0 hj (hm.trans (bi_t hs5)))
    · exact j_err hJ (by decide) (by decide) (w_flow_2 S S _ (x_flow_1 S j n e1 hn h0 hj hs5)) (m_flow_1 S j n e2 hn h0 hj (hm.trans (bi_f hs5)))
  · exact j_err hJ (by decide) (by decide) (w_flow_1 S S _ (x_flow_0 S x (by rw [e1]; exact h))) (m_flow_0 S x n e2 hn h1n h)
theorem j_nodes (S : PS) (x : Int32) {n na nb : Nat} (hJ : J S n na nb) : Jt false 108 78 [.ref 0, .int x, .ref 26] [.ref 12, .int x] S := by
  obtain ⟨e1, e2, hn, h1n, e7, e8, hna, -⟩ := J_n hJ
  rcases dN x (n := na) (by omega) with ⟨a, ha, rfl⟩ | h
  · obtain ⟨q, hA⟩ := hJ.2.2.2.2.1.1 a ha
    exact j_ok hJ (w_nodes S S _ _ (x_nodes S a na n nb ha hna e7 hJ.1)) (m_nodes (outS S _) a q n nb na _ _ hJ.2.2.1 e8 hna ha hA)
  · exact j_err hJ (by decide) (by decide) (w_nodes_1 S S _ (x_nodes_0 S x (by rw [e7]; exact h))) (m_area_0 (i := 0) S x na e8 hna h).1
theorem j_areaTakes (S : PS) (x : Int32) {n na nb : Nat} (hJ : J S n na nb) : Jt false 110 82 [.ref 0, .int x, .ref 26] [.ref 12, .int x] S := by
  obtain ⟨e1, e2, hn, h1n, e7, e8, hna, -⟩ := J_n hJ
  rcases dN x (n := na) (by omega) with ⟨a, ha, rfl⟩ | h
  · obtain ⟨q, hA⟩ := hJ.2.2.2.2.1.1 a ha
    exact j_ok hJ (w_areaTakes S S _ _ (fe (x_areaTakes S a na n nb ha hna e7 hJ.1) (tb_eq hn))) (m_areaTakes (outS S _) a q n nb na _ _ hJ.2.2.1 e8 hna ha hA)
  · exact j_err hJ (by decide) (by decide) (w_areaTakes_1 S S _ (x_areaTakes_0 S x (by rw [e7]; exact h))) (m_area_0 (i := 0) S x na e8 hna h).2.1
theorem j_loss (S : PS) (x : Int32) {n na nb : Nat} (hJ : J S n na nb) : Jt false 111 83 [.ref 0, .int x, .ref 26] [.ref 12, .int x] S := by
  obtain ⟨e1, e2, hn, h1n, e7, e8, hna, -⟩ := J_n hJ
  rcases dN x (n := na) (by omega) with ⟨a, ha, rfl⟩ | h
  · obtain ⟨q, hA⟩ := hJ.2.2.2.2.1.1 a ha
    have e : tbX S.2.1 n nb (S.1 0 14) (S.1 0 6) (stL (inA S.2.1 a) n) - smL (fun k => decide (hs (stL (inA S.2.1 a) n) k) && decide (S.2.1 1 k &&& S.1 0 6 = 0)) (S.2.1 2) n = smL (fun k => inA S.2.1 a k && decide (S.2.1 1 k &&& S.1 0 6 = 0)) (lkgX S.2.1 nb (S.1 0 14)) n := by
      rw [← loss_eq, tbX, tb_eq hn]
      congr 1
      apply smL_congr
      intro j hj
      have h := hs_stL (c := inA S.2.1 a) (j := j) (by omega) n (by omega)
      refine ⟨?_, fun _ => rfl⟩
      cases hc : inA S.2.1 a j
      · rw [hc] at h
        rw [decide_eq_false (fun z => by have := (h.mp z).2; cases this)]
      · rw [decide_eq_true (h.mpr ⟨hj, hc⟩)]
    exact j_ok hJ (w_loss S S _ _ (fe (x_loss S a na n nb ha hna e7 hJ.1) e)) (m_loss (outS S _) a q n nb na _ _ hJ.2.2.1 e8 hna ha hA)
  · exact j_err hJ (by decide) (by decide) (w_loss_1 S S _ (x_loss_0 S x (by rw [e7]; exact h))) (m_area_0 (i := 0) S x na e8 hna h).2.2.1
theorem no_exp0 {A : Nat → Nat → Int32} {n a q : Nat} (hW : Wy A n) (hn : n ≤ 16) (h1n : 1 ≤ n) (hA : ArOk A n a q) : ¬ A 1 0 &&& A 6 a = one 0 := by
  intro w
  have h3 : hs (A 1 0 &&& A 6 a) 0 := by rw [w]; exact (hs_one (by omega) (by omega)).mpr rfl
  have h4 := ar_gt hW hn hA (by omega) ((hs_and (by omega)).mp h3).2
  omega
theorem j_areaFlow (S : PS) (x : Int32) {n na nb : Nat} (hJ : J S n na nb) : Jt false 109 80 [.ref 0, .int x, .ref 26] [.ref 12, .int x] S := by
  obtain ⟨e1, e2, hn, h1n, e7, e8, hna, -⟩ := J_n hJ
  rcases dN x (n := na) (by omega) with ⟨a, ha, rfl⟩ | h
  · obtain ⟨q, hA⟩ := hJ.2.2.2.2.1.1 a ha
    have hi := can_iff (mt := S.1 0 5) hn hA.1 hA.2.1 (no_exp0 hJ.2.2.1.2.1 hn h1n hA)
    by_cases hm : misX S.2.1 (S.1 0 5) n a = 0
    · exact j_ok hJ (w_areaFlow S S _ _ (fe (x_areaFlow S a na n nb ha hna e7 hJ.1 hm) (flow_eq hn hA.2.1))) (m_areaFlow (outS S _) a q n nb na _ _ (S.1 0 5) hJ.2.2.1 e8 hna ha hA hJ.2.2.2.1 (hi.mp hm))
    · exact j_err hJ (by decide) (by decide) (w_areaFlow_2 S S _ (x_areaFlow_1 S a na n nb ha hna e7 hJ.1 hm)) (m_areaFlow_1 S a q n nb na _ _ (S.1 0 5) hJ.2.2.1 e8 hna ha hA hJ.2.2.2.1 (fun z => hm (hi.mpr z)))
  · exact j_err hJ (by decide) (by decide) (w_areaFlow_1 S S _ (x_areaFlow_0 S x (by rw [e7]; exact h))) (m_areaFlow_0 S x n na e2 e8 hna h)
theorem j_steps (S : PS) (x : Int32) {n na nb : Nat} (hJ : J S n na nb) : Jt false 112 85 [.ref 0, .int x, .ref 26] [.ref 12, .int x] S := by
  obtain ⟨e1, e2, hn, h1n, e7, e8, hna, -⟩ := J_n hJ
  rcases dN x (n := na) (by omega) with ⟨a, ha, rfl⟩ | h
  · obtain ⟨q, hA⟩ := hJ.2.2.2.2.1.1 a ha
    have e := steps_eq (sh := S.1 0 6) hn h1n hA.1 hA.2.1 (fun z => by
      have z1 := z.1
      simp only [inA, Bool.and_eq_true, decide_eq_true_eq, hA.2.1] at z1
      have := wy_le hJ.2.2.1.2.1 0 (by omega) hn q (by have := hA.1; omega) z1.1
      omega)
    exact j_ok hJ (w_steps S S _ _ (fe (x_steps S a na n nb ha hna e7 hJ.1) e)) (m_steps (outS S _) a q n nb na _ _ hJ.2.2.1 e8 hna ha hA)
  · exact j_err hJ (by decide) (by decide) (w_steps_1 S S _ (x_steps_0 S x (by rw [e7]; exact h))) (m_area_0 (i := 0) S x na e8 hna h).2.2.2
theorem j_stepPipe (S : PS) (x y : Int32) {n na nb : Nat} (hJ : J S n na nb) : Jt false 113 87 [.ref 0, .int x, .int y, .ref 26] [.ref 12, .int x, .int y] S := by
  obtain ⟨e1, e2, hn, h1n, e7, e8, hna, -⟩ := J_n hJ
  rcases dN x (n := na) (by omega) with ⟨a, ha, rfl⟩ | h
  · obtain ⟨q, hA⟩ := hJ.2.2.2.2.1.1 a ha
    cases hp : pkX S.2.1 (S.1 0 6) n a y with
    | none => exact j_err hJ (by decide) (by decide) (w_stepPipe_1 S S _ _ (x_stepPipe_1 S a na n nb y ha hna e7 hJ.1 h1n hp)) (m_stepPipe_1 S a q n nb na _ _ y hJ.2.2.1 e8 hna ha hA hp).1
    | some k => exact j_ok hJ (w_stepPipe S S _ _ _ (x_stepPipe S a na n nb k y ha hna e7 hJ.1 h1n hp)) (m_stepPipe (outS S _) a q n nb na k _ _ y hJ.2.2.1 e8 hna ha hA hp)
  · exact j_err hJ (by decide) (by decide) (w_stepPipe_1 S S _ _ (x_stepPipe_0 S x y (by rw [e7]; exact h))) (m_stepPipe_na S x y na e8 hna h).1
theorem j_drop (S : PS) (x y : Int32) {n na nb : Nat} (hJ : J S n na nb) : Jt false 114 88 [.ref 0, .int x, .int y, .ref 26] [.ref 12, .int x, .int y] S := by
  obtain ⟨e1, e2, hn, h1n, e7, e8, hna, -⟩ := J_n hJ
  rcases dN x (n := na) (by omega) with ⟨a, ha, rfl⟩ | h
  · obtain ⟨q, hA⟩ := hJ.2.2.2.2.1.1 a ha
    cases hp : pkX S.2.1 (S.1 0 6) n a y with
    | none => exact j_err hJ (by decide) (by decide) (w_drop_1 S S _ _ (x_drop_1 S a na n nb y ha hna e7 hJ.1 h1n hp)) (m_stepPipe_1 S a q n nb na _ _ y hJ.2.2.1 e8 hna ha hA hp).2
    | some k =>
      have e : dropX S.2.1 n nb (S.1 0 14) (S.1 0 6) a k = smL (inA S.2.1 a) (tknX S.2.1 nb (S.1 0 14) (bfX S.2.1 (S.1 0 6) n a k)) n - smL (inA S.2.1 a) (tknX S.2.1 nb (S.1 0 14) (bfX S.2.1 (S.1 0 6) n a k ||| one k)) n := by
        unfold dropX tbX
        rw [tb_eq hn, tb_eq hn]
      exact j_ok hJ (w_drop S S _ _ _ (fe (x_drop S a na n nb k y ha hna e7 hJ.1 h1n hp) e)) (m_drop (outS S _) a q n nb na k _ _ y hJ.2.2.1 e8 hna ha hA hp)
  · exact j_err hJ (by decide) (by decide) (w_drop_1 S S _ _ (x_drop_0 S x y (by rw [e7]; exact h))) (m_stepPipe_na S x y na e8 hna h).2
theorem j_cost (S : PS) (x : Int32) {n na nb : Nat} (hJ : J S n na nb) : Jt false 117 93 [.ref 0, .int x, .ref 26] [.ref 12, .int x] S := by
  obtain ⟨e1, e2, hn, h1n, e7, e8, hna, e10, e11, hnb⟩ := J_n hJ
  rcases dN x (n := nb) (by omega) with ⟨b, hb, rfl⟩ | h
  · obtain ⟨q, hq, hbq⟩ := hJ.2.2.2.2.2.1 b hb
    exact j_ok hJ (w_cost S S _ _ (x_cost S b q n nb hb hJ.1 (by omega) hbq)) (m_cost (outS S _) b q n nb _ _ hJ.2.2.1 hb hq hbq)
  · exact j_err hJ (by decide) (by decide) (w_cost_1 S S _ (x_cost_0 S x (by rw [e10]; exact h))) (m_repair_0 S x nb e11 hnb h).2
theorem J_bd {S : PS} {n na nb : Nat} (hJ : J S n na nb) : Bd (csX S.2.1 nb (S.1 0 14) (S.1 0 6)) (S.2.1 9) nb := ⟨fun b => csX_bd _ _ _ _ b, hJ.2.2.2.2.2.2⟩
theorem J_bn {S : PS} {n na nb : Nat} (hJ : J S n na nb) : BnOk S.2.1 nb := fun b hb => by
  obtain ⟨q, hq, e⟩ := hJ.2.2.2.2.2.1 b hb
  have := hJ.1.2.1
  exact ⟨q, by omega, e⟩
theorem cs_rk (S : PS) (fc fb : Nat → Int32) (nb : Nat) (rp sh : Int32) (v : Int64) : csX (outS (st2 S fc fb) v).2.1 nb rp sh = csX S.2.1 nb rp sh := by
  funext b
  exact csX_congr rfl rfl rfl rfl rfl
theorem j_ranked (S : PS) (x : Int32) {n na nb : Nat} (hJ : J S n na nb) : Jt false 118 96 [.ref 0, .int x, .ref 26] [.ref 12, .int x] S := by
  obtain ⟨e1, e2, hn, h1n, e7, e8, hna, e10, e11, hnb⟩ := J_n hJ
  obtain ⟨l, h1, h2⟩ := rank_agree (f10 := S.2.1 10) (f11 := S.2.1 11) (rp := S.1 0 14) (J_bd hJ) hnb
  have hm20 : (rkR S nb).2.2 ≤ nb := (rkS_in (cs := csX S.2.1 nb (S.1 0 14) (S.1 0 6)) (h := S.2.1 9) (rp := S.1 0 14) (f10 := S.2.1 10) (f11 := S.2.1 11) nb).1
  have cs2 : csX (sRk S nb).2.1 nb (S.1 0 14) (S.1 0 6) = csX S.2.1 nb (S.1 0 14) (S.1 0 6) := cs_rk S _ _ nb _ _ 0
  rcases dN x (n := (rkR S nb).2.2) (by omega) with ⟨p, hp, rfl⟩ | h
  · obtain ⟨f1, f2, f3, f4⟩ := h1 p hp
    refine j_ok (S' := sRk S nb) hJ (w_ranked S (sRk S nb) _ _ (fe (x_ranked S n nb p hJ.1 (J_bn hJ) hp) f1)) ?_
    refine m_ranked (outS (sRk S nb) _) (l p) n nb _ _ (nI p) hJ.2.2.1 hJ.2.2.2.2.2.1 (nI_pos (by omega)) f2 f3 ?_ ?_
    · rw [cs_rk]
      exact congrArg nI f4
    · intro j hj hjr hje
      rw [cs_rk] at hje
      obtain ⟨p2, hp2, rfl⟩ := h2 j hj hjr
      have e6 : nI p2 = nI p := by rw [← hje]; exact (congrArg nI (h1 p2 hp2).2.2.2).symm
      have hp2' : p2 < (rkR S nb).2.2 := hp2
      rw [(nI_eq (by omega) (by omega)).mp e6]
  · refine j_err (S' := sRk S nb) hJ (by decide) (by decide) (w_ranked_1 S (sRk S nb) _ (x_ranked_0 S n nb x hJ.1 (J_bn hJ) (by
      rcases h with z | z
      · exact Or.inl z
      · exact Or.inr (Int32.not_lt.mp z)))) ?_
    refine m_ranked_0 (sRk S nb) n nb _ _ x hJ.2.2.1 hJ.2.2.2.2.2.1 ?_
    rcases h with z | z
    · exact Or.inl z
    · refine Or.inr (fun j hj hjr hje => ?_)
      rw [cs2] at hje
      obtain ⟨p2, hp2, rfl⟩ := h2 j hj hjr
      have hp2' : p2 < (rkR S nb).2.2 := hp2
      apply z
      rw [← hje]
      have e6 : rkN (csX S.2.1 nb (S.1 0 14) (S.1 0 6)) (S.2.1 9) (S.1 0 14) nb (l p2) = p2 := (h1 p2 hp2).2.2.2
      have e7 : nI (rkN (csX S.2.1 nb (S.1 0 14) (S.1 0 6)) ((sRk S nb).2.1 9) (S.1 0 14) nb (l p2)) = nI p2 := congrArg nI e6
      rw [e7]
      exact nI_lt hp2' (by omega)
theorem j_plan (S : PS) (x : Int32) {n na nb : Nat} (hJ : J S n na nb) : Jt false 119 97 [.ref 0, .int x, .ref 26] [.ref 12, .int x] S := by
  obtain ⟨e1, e2, hn, h1n, e7, e8, hna, e10, e11, hnb⟩ := J_n hJ
  obtain ⟨l, h1, h2⟩ := rank_agree (f10 := S.2.1 10) (f11 := S.2.1 11) (rp := S.1 0 14) (J_bd hJ) hnb
  have hm20 : (rkR S nb).2.2 ≤ nb := (rkS_in (cs := csX S.2.1 nb (S.1 0 14) (S.1 0 6)) (h := S.2.1 9) (rp := S.1 0 14) (f10 := S.2.1 10) (f11 := S.2.1 11) nb).1
  rcases dR x (nI 0) (nI 1000) with h | h
  · refine j_ok (S' := sRk S nb) hJ (w_plan S (sRk S nb) _ _ (x_plan S n nb x h hJ.1 (J_bn hJ))) ?_
    refine m_plan (outS (sRk S nb) _) n nb (rkR S nb).2.2 _ _ x l (rkR S nb).2.1 hJ.2.2.1 hJ.2.2.2.2.2.1 h hm20 ?_ h2
    intro p hp
    rw [cs_rk]
    exact h1 p hp
  · exact j_err hJ (by decide) (by decide) (w_plan_0 S S _ (x_plan_0 S x h)) (m_plan_0 S x h)
theorem j_isSupplied (S : PS) (x : Int32) {n na nb : Nat} (hJ : J S n na nb) : Jt true 103 68 [.ref 0, .int x, .ref 26] [.ref 12, .int x] S := by
  obtain ⟨e1, e2, hn, h1n, -⟩ := J_n hJ
  rcases dN x (n := n) (by omega) with ⟨j, hj, rfl⟩ | h
  · exact ⟨0, 0, _, _, _, Nat.zero_le _, w_isSupplied S S _ _ (x_isSupplied S j n e1 hn hj), m_isSupplied (outS S _) j n nb _ _ hJ.2.2.1 hj, rfl, Nat.zero_le _, fun _ => rfl, n, na, nb, hJ⟩
  · exact j_err hJ (by decide) (by decide) (w_isSupplied_1 S S _ (x_isSupplied_0 S x (by rw [e1]; exact h))) (m_isSupplied_0 S x n e2 hn h1n h)
