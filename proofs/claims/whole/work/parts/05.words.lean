theorem inTT {w : Cond} (h : w ∈ lw_tbl) (g : goodWord w = true) : w ∈ TT := List.mem_filter.mpr ⟨h, g⟩
theorem TT_in {w : Cond} (h : w ∈ TT) : w ∈ lw_tbl := (List.mem_filter.mp h).1
theorem TT_good {w : Cond} (h : w ∈ TT) : goodWord w = true := (List.mem_filter.mp h).2
theorem at_tbl {α : Type} {l : List α} {g : α → Cond} {ps : List Nat} (h : l.map (fun q => some (g q)) = ps.map (fun j => lw_tbl[j]?)) {q : α} (hq : q ∈ l) : g q ∈ lw_tbl := by
  have h1 : some (g q) ∈ l.map (fun q => some (g q)) := List.mem_map.mpr ⟨q, hq, rfl⟩
  rw [h] at h1
  obtain ⟨j, -, hj⟩ := List.mem_map.mp h1
  exact List.mem_of_getElem? hj
def flW (q : Nat × Nat × Nat) : Cond := Cond.fieldLink (oN q.1) q.2.1 (oN q.1) (oT q.1 q.2.2).2.1 (oT q.1 q.2.2).2.2.1
def mlW (q : Nat × Nat × Nat) : Cond := Cond.methodLink (oN q.1) q.2.1 (mY q.2.2)
def iniW (i : Nat) : Cond := Cond.initialized (mY i).cls
def staW (i : Nat) : Cond := Cond.static (mY i)
def insW (i : Nat) : Cond := Cond.instanceMethod (mY i)
def selW (i : Nat) : Cond := Cond.selects (mY i).cls (mY i) (mY i)
def kwW (q : Nat × Nat) : Cond := Cond.constant RJ6 q.1 (nI q.2)
def mtI : List Nat := [1, 2, 3, 4, 5, 6, 7, 8, 9, 10, 11, 12, 13, 14, 15, 16, 17, 18, 19, 20, 21, 22, 23, 26, 27, 28, 29, 32, 33, 35, 36, 37, 38, 39, 40, 41, 42, 43, 44, 45, 46, 47, 48, 49, 51, 52, 53, 55, 56, 57, 58, 59, 60, 61, 62, 63, 64, 65, 66, 67, 68, 69, 70, 71, 72, 73, 74, 75, 76, 77, 78, 79, 80, 81, 82, 83, 84, 85, 86, 87, 88, 89, 90, 91, 92, 93, 94, 95, 96, 97]
def mtS : List Nat := [24, 25, 30, 31, 34, 54, 98, 99, 100, 101, 102, 103, 104, 105, 106, 107, 108, 109, 110, 111, 112, 113, 114, 115, 116, 117, 118, 119, 121]
set_option maxRecDepth 100000 in
theorem p_fl : (FLs).map (fun q => some (flW q)) = ([63, 64, 65, 66, 70, 71, 73, 74, 75, 77, 78, 62, 67, 68, 69, 72, 76, 498, 499, 500, 501, 502, 503, 504, 505, 507, 508, 510, 511, 512, 513, 514, 509, 506] : List Nat).map (fun j => lw_tbl[j]?) := by decide +kernel
set_option maxRecDepth 100000 in
theorem p_ml : (MLs).map (fun q => some (mlW q)) = ([165, 236, 256, 134, 289, 146, 123, 130, 126, 119, 344, 350, 354, 374, 386, 397, 408, 419, 431, 448, 454, 472, 150, 138, 142, 476, 480, 559, 578, 602, 574, 622, 610, 562, 566, 586, 618, 630, 646, 654, 642, 650, 666, 674, 686, 694, 710, 714, 730, 726, 161, 278, 285, 297, 304, 311, 318, 325, 333, 340, 363, 370, 382, 393, 404, 415, 427, 437, 444, 461, 468, 488, 155, 555, 551, 275, 570, 282, 582, 294, 590, 301, 594, 308, 598, 315, 606, 322, 614, 115, 626, 330, 634, 337, 638, 360, 658, 367, 662, 379, 670, 390, 678, 401, 682, 412, 690, 424, 698, 434, 702, 441, 706, 458, 718, 465, 722, 485, 734] : List Nat).map (fun j => lw_tbl[j]?) := by decide +kernel
set_option maxRecDepth 100000 in
theorem p_kw : (KWs).map (fun q => some (kwW q)) = ([357, 358, 359] : List Nat).map (fun j => lw_tbl[j]?) := by decide +kernel
set_option maxRecDepth 100000 in
theorem p_code : (mtAll).map (fun q => some (wC q)) = ([164, 281, 288, 300, 307, 314, 321, 328, 118, 336, 343, 366, 373, 385, 396, 407, 418, 430, 440, 447, 464, 471, 491, 167, 258, 239, 292, 347, 451, 125, 433, 133, 149, 152, 145, 141, 137, 129, 389, 400, 122, 353, 377, 411, 422, 457, 475, 479, 483, 554, 569, 633, 561, 565, 589, 625, 605, 581, 577, 613, 621, 558, 573, 585, 593, 597, 601, 609, 617, 629, 645, 649, 657, 653, 637, 641, 661, 669, 665, 677, 673, 681, 689, 685, 697, 693, 701, 705, 713, 717, 709, 721, 733, 729, 725, 737, 157, 277, 284, 296, 303, 310, 317, 324, 332, 339, 362, 369, 381, 392, 403, 414, 426, 436, 443, 460, 467, 487, 356] : List Nat).map (fun j => lw_tbl[j]?) := by decide +kernel
set_option maxRecDepth 100000 in
theorem p_ini : (mtAll).map (fun q => some (iniW q)) = ([45, 45, 45, 45, 45, 45, 45, 45, 45, 45, 45, 45, 45, 45, 45, 45, 45, 45, 45, 45, 45, 45, 45, 45, 45, 45, 45, 45, 45, 45, 45, 45, 45, 45, 45, 45, 45, 45, 45, 45, 45, 45, 45, 45, 45, 45, 45, 45, 45, 46, 46, 46, 46, 46, 46, 46, 46, 46, 46, 46, 46, 46, 46, 46, 46, 46, 46, 46, 46, 46, 46, 46, 46, 46, 46, 46, 46, 46, 46, 46, 46, 46, 46, 46, 46, 46, 46, 46, 46, 46, 46, 46, 46, 46, 46, 46, 44, 44, 44, 44, 44, 44, 44, 44, 44, 44, 44, 44, 44, 44, 44, 44, 44, 44, 44, 44, 44, 44, 53] : List Nat).map (fun j => lw_tbl[j]?) := by decide +kernel
set_option maxRecDepth 100000 in
theorem p_sta : (mtS).map (fun q => some (staW q)) = ([166, 257, 124, 432, 151, 560, 156, 276, 283, 295, 302, 309, 316, 323, 331, 338, 361, 368, 380, 391, 402, 413, 425, 435, 442, 459, 466, 486, 355] : List Nat).map (fun j => lw_tbl[j]?) := by decide +kernel
set_option maxRecDepth 100000 in
theorem p_ins : (mtI).map (fun q => some (insW q)) = ([162, 279, 286, 298, 305, 312, 319, 326, 116, 334, 341, 364, 371, 383, 394, 405, 416, 428, 438, 445, 462, 469, 489, 238, 291, 346, 450, 132, 148, 144, 140, 136, 128, 388, 399, 121, 352, 376, 410, 421, 456, 474, 478, 482, 552, 568, 632, 564, 588, 624, 604, 580, 576, 612, 620, 556, 571, 583, 591, 595, 599, 607, 615, 627, 644, 648, 656, 652, 635, 639, 659, 668, 663, 676, 671, 679, 688, 683, 696, 691, 699, 703, 712, 716, 707, 719, 732, 728, 723, 735] : List Nat).map (fun j => lw_tbl[j]?) := by decide +kernel
set_option maxRecDepth 100000 in
theorem p_sel : (mtI).map (fun q => some (selW q)) = ([163, 280, 287, 299, 306, 313, 320, 327, 117, 335, 342, 365, 372, 384, 395, 406, 417, 429, 439, 446, 463, 470, 490, 8, 9, 10, 17, 2, 6, 5, 4, 3, 1, 13, 14, 0, 11, 12, 15, 16, 18, 19, 20, 21, 553, 23, 31, 22, 26, 30, 27, 25, 24, 28, 29, 557, 572, 584, 592, 596, 600, 608, 616, 628, 32, 33, 35, 34, 636, 640, 660, 36, 664, 37, 672, 680, 38, 684, 39, 692, 700, 704, 40, 41, 708, 720, 43, 42, 724, 736] : List Nat).map (fun j => lw_tbl[j]?) := by decide +kernel
set_option maxRecDepth 100000 in
theorem g_all : (FLs.map flW ++ (MLs.map mlW ++ (KWs.map kwW ++ (mtAll.map wC ++ (mtAll.map iniW ++ (mtS.map staW ++ (mtI.map insW ++ mtI.map selW))))))).all goodWord = true := by decide +kernel
def mtOk (i : Nat) : Bool := plainName (mY i).cls && decide (mO i < 4) && decide ((mY i).cls = oN (mO i)) && decide ((mY i).cls ≠ "java/lang/invoke/MethodHandle") && decide ((mY i).cls ≠ "java/lang/invoke/VarHandle") && decide ((parseMethodDescriptor (mY i).desc).map (fun d => d.parameters.length) = some (mN i)) && (match mS i with
  | true => decide (i ∈ mtS)
  | false => decide (i ∈ mtI))
set_option maxRecDepth 100000 in
theorem mtOk_a : mtAll.all mtOk = true := by decide +kernel
def slA (q : Nat × Nat) : List Cond := vx_atS RX0 q.1 (exN q.2) exU
def bwN : List MethodName := [Bundle.initS "java/lang/RuntimeException", Bundle.initS "java/lang/Exception", Bundle.initS "java/lang/Throwable"]
set_option maxRecDepth 100000 in
theorem p_at90 : ((slA (90, 2)).filter goodWord).map some = ([47, 190, 199, 203, 206, 208, 191, 192, 60, 61, 193, 198, 204, 224, 180, 225, 182, 226, 184, 194, 196, 186, 220, 221, 223, 186, 270, 271, 272, 214, 214, 215, 216, 217, 217, 218, 219, 220, 269, 260, 262, 201, 263, 264, 265, 266, 189, 188, 267] : List Nat).map (fun j => lw_tbl[j]?) := by decide +kernel
set_option maxRecDepth 100000 in
theorem b_at90 : (slA (90, 2)).all (fun w => goodWord w || decide (w ∈ (Cond.castable (exN 2) (exN 2) :: bwN.map Cond.declares))) = true := by decide +kernel
set_option maxRecDepth 100000 in
theorem v_at90 : (Cond.classLink RX0 86 (exN 2) :: Cond.initialized (exN 2) :: slA (90, 2)).all vx_ot = true := by decide +kernel
set_option maxRecDepth 100000 in
theorem p_at154 : ((slA (154, 1)).filter goodWord).map some = ([47, 190, 199, 203, 206, 208, 191, 192, 60, 61, 193, 198, 204, 224, 180, 225, 182, 226, 184, 194, 196, 186, 220, 221, 223, 186, 251, 252, 253, 214, 214, 215, 216, 217, 217, 218, 219, 220, 250, 241, 243, 202, 244, 245, 246, 247, 189, 188, 248] : List Nat).map (fun j => lw_tbl[j]?) := by decide +kernel
set_option maxRecDepth 100000 in
theorem b_at154 : (slA (154, 1)).all (fun w => goodWord w || decide (w ∈ (Cond.castable (exN 1) (exN 1) :: bwN.map Cond.declares))) = true := by decide +kernel
set_option maxRecDepth 100000 in
theorem v_at154 : (Cond.classLink RX0 150 (exN 1) :: Cond.initialized (exN 1) :: slA (154, 1)).all vx_ot = true := by decide +kernel
set_option maxRecDepth 100000 in
theorem p_at159 : ((slA (159, 0)).filter goodWord).map some = ([47, 190, 199, 203, 206, 208, 191, 192, 60, 61, 193, 198, 204, 224, 180, 225, 182, 226, 184, 194, 196, 186, 220, 221, 223, 186, 211, 212, 213, 214, 214, 215, 216, 217, 217, 218, 219, 220, 210, 169, 177, 178, 179, 181, 183, 185, 189, 188, 187] : List Nat).map (fun j => lw_tbl[j]?) := by decide +kernel
set_option maxRecDepth 100000 in
theorem b_at159 : (slA (159, 0)).all (fun w => goodWord w || decide (w ∈ (Cond.castable (exN 0) (exN 0) :: bwN.map Cond.declares))) = true := by decide +kernel
set_option maxRecDepth 100000 in
theorem v_at159 : (Cond.classLink RX0 155 (exN 0) :: Cond.initialized (exN 0) :: slA (159, 0)).all vx_ot = true := by decide +kernel
def xcW (q : Nat × Nat) : Cond := Cond.classLink RX0 q.1 (exN q.2)
def xiW (e : Nat) : Cond := Cond.initialized (exN e)
def lcW (q : Nat × Nat) : Cond := Cond.classLink RL q.1 (exN q.2)
set_option maxRecDepth 100000 in
theorem p_xc : (([(86, 2), (150, 1), (155, 0)] : List (Nat × Nat))).map (fun q => some (xcW q)) = ([259, 240, 168] : List Nat).map (fun j => lw_tbl[j]?) := by decide +kernel
set_option maxRecDepth 100000 in
theorem p_xi : (([0, 1, 2] : List Nat)).map (fun q => some (xiW q)) = ([50, 51, 52] : List Nat).map (fun j => lw_tbl[j]?) := by decide +kernel
set_option maxRecDepth 100000 in
theorem p_lc : (([(13, 0), (15, 1), (17, 2)] : List (Nat × Nat))).map (fun q => some (lcW q)) = ([158, 159, 160] : List Nat).map (fun j => lw_tbl[j]?) := by decide +kernel
def lay0 : List Cond := u_ws RX0 TX0 17
def lay1 : List Cond := u_ws RX1 TX1 17
set_option maxRecDepth 100000 in
theorem p_lay0 : lay0.map some = ([79, 81, 83, 85, 87, 89, 91, 93, 95, 97, 99, 101, 103, 105, 107, 109, 111] : List Nat).map (fun j => lw_tbl[j]?) := by decide +kernel
set_option maxRecDepth 100000 in
theorem p_lay1 : lay1.map some = ([515, 517, 519, 521, 523, 525, 527, 529, 531, 533, 535, 537, 539, 541, 543, 545, 547] : List Nat).map (fun j => lw_tbl[j]?) := by decide +kernel
set_option maxRecDepth 100000 in
theorem g_lay : (lay0 ++ lay1).all goodWord = true := by decide +kernel
set_option maxRecDepth 100000 in
theorem g_all2 : (([(86, 2), (150, 1), (155, 0)] : List (Nat × Nat)).map xcW ++ (([0, 1, 2] : List Nat).map xiW ++ ([(13, 0), (15, 1), (17, 2)] : List (Nat × Nat)).map lcW)).all goodWord = true := by decide +kernel
set_option maxRecDepth 100000 in
theorem p_f0 : lw_tbl[153]? = some (Cond.fieldLink RX0 170 RX0 "FACTORS" "[I") := by decide +kernel
theorem g_f0 : goodWord (Cond.fieldLink RX0 170 RX0 "FACTORS" "[I") = true := by decide +kernel
