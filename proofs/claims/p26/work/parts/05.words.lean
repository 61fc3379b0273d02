theorem inTT {w : Cond} (h : w ∈ lw_tbl) (g : goodWord w = true) : w ∈ TT := List.mem_filter.mpr ⟨h, g⟩
theorem TT_in {w : Cond} (h : w ∈ TT) : w ∈ lw_tbl := (List.mem_filter.mp h).1
theorem TT_good {w : Cond} (h : w ∈ TT) : goodWord w = true := (List.mem_filter.mp h).2
theorem at_tbl {α : Type} {l : List α} {g : α → Cond} {ps : List Nat} (h : l.map (fun q => some (g q)) = ps.map (fun j => lw_tbl[j]?)) {q : α} (hq : q ∈ l) : g q ∈ lw_tbl := by
  have h1 : some (g q) ∈ l.map (fun q => some (g q)) := List.mem_map.mpr ⟨q, hq, rfl⟩
  rw [h] at h1
  obtain ⟨j, -, hj⟩ := List.mem_map.mp h1
  exact List.mem_of_getElem? hj
def flW (q : Nat × Nat × Nat) : Cond := Cond.fieldLink (oN q.1) q.2.1 (oN q.1) (oT q.1 q.2.2).2.1 (oT q.1 q.2.2).2.2.1
def mlW (q : Nat × Nat × Nat) : Cond := Cond.methodLink (oN q.1) q.2.1 (mY q.2.2)
def iniW (i : Nat) : Cond := Cond.initialized (mY i).cls
def staW (i : Nat) : Cond := Cond.static (mY i)
def insW (i : Nat) : Cond := Cond.instanceMethod (mY i)
def selW (i : Nat) : Cond := Cond.selects (mY i).cls (mY i) (mY i)
def kwW (q : Nat × Nat × Nat) : Cond := Cond.constant (oN q.1) q.2.1 (nI q.2.2)
def mtI : List Nat := [1, 2, 3, 4, 5, 6, 7, 8, 9, 10, 11, 12, 13, 14, 15, 16, 17, 18, 19, 20, 21, 22, 23, 26, 27, 28, 29, 32, 33, 35, 36, 37, 38, 39, 40, 41, 42, 43, 44, 45, 46, 47, 48, 49]
def mtS : List Nat := [24, 25, 30, 31, 34, 50, 51, 52, 53, 54, 55, 56, 57, 58, 59, 60, 61, 62, 63, 64, 66]
set_option maxRecDepth 100000 in
theorem p_fl : (FLs).map (fun q => some (flW q)) = ([40, 41, 42, 43, 47, 48, 50, 51, 52, 54, 55, 39, 44, 45, 46, 49, 53] : List Nat).map (fun j => lw_tbl[j]?) := by decide +kernel
set_option maxRecDepth 100000 in
theorem p_ml : (MLs).map (fun q => some (mlW q)) = ([142, 213, 233, 111, 260, 123, 100, 107, 103, 96, 273, 279, 283, 327, 336, 344, 352, 360, 369, 297, 303, 380, 127, 115, 119, 384, 388, 138, 252, 256, 265, 269, 289, 293, 307, 315, 319, 323, 332, 340, 348, 356, 365, 372, 376, 393, 403, 407, 411, 312, 400, 132, 415, 92, 424, 430, 434, 437, 440, 443, 446, 397, 421, 427, 418] : List Nat).map (fun j => lw_tbl[j]?) := by decide +kernel
set_option maxRecDepth 100000 in
theorem p_kw : (KWs).map (fun q => some (kwW q)) = ([433, 286, 287, 288] : List Nat).map (fun j => lw_tbl[j]?) := by decide +kernel
def mtA : List Nat := [1, 2, 3, 4, 5, 6, 7, 8, 9, 10, 11, 12, 13, 14, 15, 16, 17, 18, 19, 20, 21, 22, 23, 24, 25, 26, 27, 28, 29, 30, 31, 32, 33, 34, 35, 36, 37, 38, 39, 40, 41, 42, 43, 44, 45, 46, 47, 48, 49, 66]
set_option maxRecDepth 100000 in
theorem p_codeA : (mtA).map (fun q => some (wC q)) = ([141, 255, 259, 406, 410, 414, 318, 310, 95, 268, 272, 322, 326, 335, 343, 351, 359, 368, 292, 296, 375, 379, 396, 144, 235, 216, 263, 276, 300, 102, 371, 110, 126, 129, 122, 118, 114, 106, 339, 347, 99, 282, 330, 355, 363, 306, 383, 387, 391, 285] : List Nat).map (fun j => lw_tbl[j]?) := by decide +kernel
set_option maxRecDepth 100000 in
theorem pc_50 : lw_tbl[432]? = some (wC 50) := by decide +kernel
set_option maxRecDepth 100000 in
theorem pc_51 : lw_tbl[134]? = some (wC 51) := by decide +kernel
set_option maxRecDepth 100000 in
theorem pc_52 : lw_tbl[314]? = some (wC 52) := by decide +kernel
set_option maxRecDepth 100000 in
theorem pc_53 : lw_tbl[402]? = some (wC 53) := by decide +kernel
set_option maxRecDepth 100000 in
theorem pc_54 : lw_tbl[426]? = some (wC 54) := by decide +kernel
set_option maxRecDepth 100000 in
theorem pc_55 : lw_tbl[417]? = some (wC 55) := by decide +kernel
set_option maxRecDepth 100000 in
theorem pc_56 : lw_tbl[399]? = some (wC 56) := by decide +kernel
set_option maxRecDepth 100000 in
theorem pc_57 : lw_tbl[420]? = some (wC 57) := by decide +kernel
set_option maxRecDepth 100000 in
theorem pc_58 : lw_tbl[423]? = some (wC 58) := by decide +kernel
set_option maxRecDepth 100000 in
theorem pc_59 : lw_tbl[436]? = some (wC 59) := by decide +kernel
set_option maxRecDepth 100000 in
theorem pc_60 : lw_tbl[439]? = some (wC 60) := by decide +kernel
set_option maxRecDepth 100000 in
theorem pc_61 : lw_tbl[442]? = some (wC 61) := by decide +kernel
set_option maxRecDepth 100000 in
theorem pc_62 : lw_tbl[445]? = some (wC 62) := by decide +kernel
set_option maxRecDepth 100000 in
theorem pc_63 : lw_tbl[448]? = some (wC 63) := by decide +kernel
set_option maxRecDepth 100000 in
theorem pc_64 : lw_tbl[429]? = some (wC 64) := by decide +kernel
theorem code_tbl {i : Nat} (h : i ∈ mtAll) : wC i ∈ lw_tbl := by
  have key : mtAll.all (fun j => decide (j ∈ mtA) || (decide (50 ≤ j) && decide (j < 65))) = true := by decide +kernel
  have k1 := List.all_eq_true.mp key i h
  simp only [Bool.or_eq_true, Bool.and_eq_true, decide_eq_true_eq] at k1
  rcases k1 with h1 | h1
  · exact at_tbl p_codeA h1
  · rcases (show i = 50 ∨ i = 51 ∨ i = 52 ∨ i = 53 ∨ i = 54 ∨ i = 55 ∨ i = 56 ∨ i = 57 ∨ i = 58 ∨ i = 59 ∨ i = 60 ∨ i = 61 ∨ i = 62 ∨ i = 63 ∨ i = 64 by omega) with rfl | rfl | rfl | rfl | rfl | rfl | rfl | rfl | rfl | rfl | rfl | rfl | rfl | rfl | rfl
    · exact List.mem_of_getElem? pc_50
    · exact List.mem_of_getElem? pc_51
    · exact List.mem_of_getElem? pc_52
    · exact List.mem_of_getElem? pc_53
    · exact List.mem_of_getElem? pc_54
    · exact List.mem_of_getElem? pc_55
    · exact List.mem_of_getElem? pc_56
    · exact List.mem_of_getElem? pc_57
    · exact List.mem_of_getElem? pc_58
    · exact List.mem_of_getElem? pc_59
    · exact List.mem_of_getElem? pc_60
    · exact List.mem_of_getElem? pc_61
    · exact List.mem_of_getElem? pc_62
    · exact List.mem_of_getElem? pc_63
    · exact List.mem_of_getElem? pc_64
set_option maxRecDepth 100000 in
theorem p_ini : (mtAll).map (fun q => some (iniW q)) = ([23, 23, 23, 23, 23, 23, 23, 23, 23, 23, 23, 23, 23, 23, 23, 23, 23, 23, 23, 23, 23, 23, 23, 23, 23, 23, 23, 23, 23, 23, 23, 23, 23, 23, 23, 23, 23, 23, 23, 23, 23, 23, 23, 23, 23, 23, 23, 23, 23, 22, 22, 22, 22, 22, 22, 22, 22, 22, 22, 22, 22, 22, 22, 22, 29] : List Nat).map (fun j => lw_tbl[j]?) := by decide +kernel
set_option maxRecDepth 100000 in
theorem p_sta : (mtS).map (fun q => some (staW q)) = ([143, 234, 101, 370, 128, 431, 133, 313, 401, 425, 416, 398, 419, 422, 435, 438, 441, 444, 447, 428, 284] : List Nat).map (fun j => lw_tbl[j]?) := by decide +kernel
set_option maxRecDepth 100000 in
theorem p_ins : (mtI).map (fun q => some (insW q)) = ([139, 253, 257, 404, 408, 412, 316, 308, 93, 266, 270, 320, 324, 333, 341, 349, 357, 366, 290, 294, 373, 377, 394, 215, 262, 275, 299, 109, 125, 121, 117, 113, 105, 338, 346, 98, 281, 329, 354, 362, 305, 382, 386, 390] : List Nat).map (fun j => lw_tbl[j]?) := by decide +kernel
set_option maxRecDepth 100000 in
theorem p_sel : (mtI).map (fun q => some (selW q)) = ([140, 254, 258, 405, 409, 413, 317, 309, 94, 267, 271, 321, 325, 334, 342, 350, 358, 367, 291, 295, 374, 378, 395, 8, 9, 10, 12, 2, 6, 5, 4, 3, 1, 15, 16, 0, 11, 14, 17, 18, 13, 19, 20, 21] : List Nat).map (fun j => lw_tbl[j]?) := by decide +kernel
set_option maxRecDepth 100000 in
theorem g_all : (FLs.map flW ++ (MLs.map mlW ++ (KWs.map kwW ++ (mtAll.map wC ++ (mtAll.map iniW ++ (mtS.map staW ++ (mtI.map insW ++ mtI.map selW))))))).all goodWord = true := by decide +kernel
def mtOk (i : Nat) : Bool := plainName (mY i).cls && decide (mO i < 4) && decide ((mY i).cls = oN (mO i)) && decide ((mY i).cls ≠ "java/lang/invoke/MethodHandle") && decide ((mY i).cls ≠ "java/lang/invoke/VarHandle") && decide ((parseMethodDescriptor (mY i).desc).map (fun d => d.parameters.length) = some (mN i)) && (match mS i with
  | true => decide (i ∈ mtS)
  | false => decide (i ∈ mtI))
set_option maxRecDepth 100000 in
theorem mtOk_a : mtAll.all mtOk = true := by decide +kernel
def slA (q : Nat × Nat) : List Cond := vx_atS RX0 q.1 (exN q.2) exU
def bwN : List MethodName := [Bundle.initS "java/lang/RuntimeException", Bundle.initS "java/lang/Exception", Bundle.initS "java/lang/Throwable"]
set_option maxRecDepth 100000 in
theorem p_at90 : ((slA (90, 2)).filter goodWord).map some = ([24, 167, 176, 180, 183, 185, 168, 169, 37, 38, 170, 175, 181, 201, 157, 202, 159, 203, 161, 171, 173, 163, 197, 198, 200, 163, 247, 248, 249, 191, 191, 192, 193, 194, 194, 195, 196, 197, 246, 237, 239, 178, 240, 241, 242, 243, 166, 165, 244] : List Nat).map (fun j => lw_tbl[j]?) := by decide +kernel
set_option maxRecDepth 100000 in
theorem b_at90 : (slA (90, 2)).all (fun w => goodWord w || decide (w ∈ (Cond.castable (exN 2) (exN 2) :: bwN.map Cond.declares))) = true := by decide +kernel
set_option maxRecDepth 100000 in
theorem v_at90 : (Cond.classLink RX0 86 (exN 2) :: Cond.initialized (exN 2) :: slA (90, 2)).all vx_ot = true := by decide +kernel
set_option maxRecDepth 100000 in
theorem p_at154 : ((slA (154, 1)).filter goodWord).map some = ([24, 167, 176, 180, 183, 185, 168, 169, 37, 38, 170, 175, 181, 201, 157, 202, 159, 203, 161, 171, 173, 163, 197, 198, 200, 163, 228, 229, 230, 191, 191, 192, 193, 194, 194, 195, 196, 197, 227, 218, 220, 179, 221, 222, 223, 224, 166, 165, 225] : List Nat).map (fun j => lw_tbl[j]?) := by decide +kernel
set_option maxRecDepth 100000 in
theorem b_at154 : (slA (154, 1)).all (fun w => goodWord w || decide (w ∈ (Cond.castable (exN 1) (exN 1) :: bwN.map Cond.declares))) = true := by decide +kernel
set_option maxRecDepth 100000 in
theorem v_at154 : (Cond.classLink RX0 150 (exN 1) :: Cond.initialized (exN 1) :: slA (154, 1)).all vx_ot = true := by decide +kernel
set_option maxRecDepth 100000 in
theorem p_at159 : ((slA (159, 0)).filter goodWord).map some = ([24, 167, 176, 180, 183, 185, 168, 169, 37, 38, 170, 175, 181, 201, 157, 202, 159, 203, 161, 171, 173, 163, 197, 198, 200, 163, 188, 189, 190, 191, 191, 192, 193, 194, 194, 195, 196, 197, 187, 146, 154, 155, 156, 158, 160, 162, 166, 165, 164] : List Nat).map (fun j => lw_tbl[j]?) := by decide +kernel
set_option maxRecDepth 100000 in
theorem b_at159 : (slA (159, 0)).all (fun w => goodWord w || decide (w ∈ (Cond.castable (exN 0) (exN 0) :: bwN.map Cond.declares))) = true := by decide +kernel
set_option maxRecDepth 100000 in
theorem v_at159 : (Cond.classLink RX0 155 (exN 0) :: Cond.initialized (exN 0) :: slA (159, 0)).all vx_ot = true := by decide +kernel
def xcW (q : Nat × Nat) : Cond := Cond.classLink RX0 q.1 (exN q.2)
def xiW (e : Nat) : Cond := Cond.initialized (exN e)
def lcW (q : Nat × Nat) : Cond := Cond.classLink RL q.1 (exN q.2)
set_option maxRecDepth 100000 in
theorem p_xc : (([(86, 2), (150, 1), (155, 0)] : List (Nat × Nat))).map (fun q => some (xcW q)) = ([236, 217, 145] : List Nat).map (fun j => lw_tbl[j]?) := by decide +kernel
set_option maxRecDepth 100000 in
theorem p_xi : (([0, 1, 2] : List Nat)).map (fun q => some (xiW q)) = ([30, 27, 28] : List Nat).map (fun j => lw_tbl[j]?) := by decide +kernel
set_option maxRecDepth 100000 in
theorem p_lc : (([(37, 0), (39, 1), (41, 2)] : List (Nat × Nat))).map (fun q => some (lcW q)) = ([135, 136, 137] : List Nat).map (fun j => lw_tbl[j]?) := by decide +kernel
def lay0 : List Cond := u_ws RX0 TX0 17
set_option maxRecDepth 100000 in
theorem p_lay0 : lay0.map some = ([56, 58, 60, 62, 64, 66, 68, 70, 72, 74, 76, 78, 80, 82, 84, 86, 88] : List Nat).map (fun j => lw_tbl[j]?) := by decide +kernel
set_option maxRecDepth 100000 in
theorem g_lay : lay0.all goodWord = true := by decide +kernel
set_option maxRecDepth 100000 in
theorem g_all2 : (([(86, 2), (150, 1), (155, 0)] : List (Nat × Nat)).map xcW ++ (([0, 1, 2] : List Nat).map xiW ++ ([(37, 0), (39, 1), (41, 2)] : List (Nat × Nat)).map lcW)).all goodWord = true := by decide +kernel
set_option maxRecDepth 100000 in
theorem p_f0 : lw_tbl[130]? = some (Cond.fieldLink RX0 170 RX0 "FACTORS" "[I") := by decide +kernel
theorem g_f0 : goodWord (Cond.fieldLink RX0 170 RX0 "FACTORS" "[I") = true := by decide +kernel
