/-! The words that the instructions need, by their places in lw_tbl. -/
def mv_T : List Cond := lw_tbl.filter goodWord
theorem mv_T_good : GoodIn mv_T mv_T := fun w h => ⟨h, good_of_word (List.mem_filter.mp h).2⟩
def mv_ck {α : Type} (f : α → List Cond) (q : α × List Nat) : Bool := decide (f q.1 = q.2.filterMap (fun i => lw_tbl[i]?)) && (f q.1).all goodWord
theorem mv_ck_ok {α : Type} {f : α → List Cond} {l : List (α × List Nat)} (h : l.all (mv_ck f) = true) : ∀ q ∈ l.map Prod.fst, ∀ w ∈ f q, w ∈ mv_T := by
  intro q hq w hw
  obtain ⟨⟨q', ps⟩, h1, rfl⟩ := List.mem_map.mp hq
  have h2 := List.all_eq_true.mp h _ h1
  simp only [mv_ck, Bool.and_eq_true, decide_eq_true_eq] at h2
  refine List.mem_filter.mpr ⟨?_, List.all_eq_true.mp h2.2 w hw⟩
  have hw2 : w ∈ f q' := hw
  rw [h2.1] at hw2
  obtain ⟨i, -, hi⟩ := List.mem_filterMap.mp hw2
  exact List.mem_of_getElem? hi
def mv_fTs : List u_T := [TX0, TX1, TX2, TX3, TX4, TX5, TX6, TX7]
def mv_fT (c : Nat) : u_T := mv_fTs.getD c TX0
theorem mv_kap {α : Type} {p : α → Bool} {a b : List α} (ha : a.all p = true) (hb : b.all p = true) : (a ++ b).all p = true := by rw [List.all_append, ha, hb]; rfl
def mv_wV (q : Nat × Nat × Nat) : List Cond := [.methodLink (mv_cn q.1) q.2.1 (mv_m q.2.2).1, .instanceMethod (mv_m q.2.2).1, .selects (mv_m q.2.2).1.cls (mv_m q.2.2).1 (mv_m q.2.2).1, .initialized (mv_m q.2.2).1.cls]
def mv_qV_0 : List ((Nat × Nat × Nat) × List Nat) := [((0, 23, 26), [355, 356, 357, 29]), ((1, 67, 22), [329, 330, 331, 30]), ((1, 71, 15), [325, 326, 327, 30]), ((1, 80, 21), [376, 377, 378, 30]), ((1, 84, 4), [380, 381, 382, 30]), ((1, 87, 9), [385, 386, 387, 30]), ((1, 93, 5), [448, 370, 371, 30]), ((1, 100, 19), [346, 338, 339, 30]), ((1, 104, 14), [321, 322, 323, 30]), ((2, 25, 12), [359, 360, 361, 30]), ((2, 39, 28), [509, 510, 511, 29]), ((2, 43, 25), [513, 313, 314, 29]), ((3, 31, 35), [476, 477, 478, 32]), ((3, 35, 33), [482, 483, 484, 32]), ((5, 32, 44), [288, 289, 290, 28]), ((5, 37, 39), [292, 293, 294, 28]), ((5, 58, 45), [296, 297, 298, 28]), ((5, 68, 10), [300, 301, 302, 30]), ((6, 74, 38), [260, 261, 262, 28]), ((6, 81, 40), [272, 273, 274, 28]), ((6, 85, 43), [284, 285, 286, 28]), ((6, 89, 0), [304, 305, 306, 31]), ((6, 93, 25), [312, 313, 314, 29]), ((6, 97, 18), [317, 318, 319, 30]), ((6, 101, 19), [337, 338, 339, 30]), ((6, 104, 23), [342, 343, 344, 30]), ((6, 107, 2), [351, 352, 353, 31]), ((6, 110, 5), [369, 370, 371, 30]), ((6, 113, 7), [393, 394, 395, 30]), ((6, 125, 13), [401, 402, 403, 30])]
theorem mv_qV_k0 : mv_qV_0.all (mv_ck mv_wV) = true := by decide +kernel
def mv_qV_1 : List ((Nat × Nat × Nat) × List Nat) := [((6, 132, 17), [412, 413, 414, 30]), ((6, 135, 11), [416, 417, 418, 30]), ((6, 147, 3), [435, 436, 437, 31]), ((6, 150, 12), [443, 360, 361, 30]), ((6, 154, 6), [444, 445, 446, 30]), ((6, 157, 59), [453, 455, 0, 27]), ((6, 171, 36), [467, 468, 469, 32]), ((6, 186, 20), [497, 498, 499, 30]), ((6, 190, 29), [505, 506, 507, 29]), ((6, 197, 26), [523, 356, 357, 29]), ((6, 201, 76), [524, 526, 1, 27]), ((6, 207, 14), [528, 322, 323, 30]), ((6, 223, 48), [541, 543, 2, 27]), ((6, 226, 47), [545, 547, 3, 27]), ((6, 233, 30), [553, 554, 555, 29]), ((6, 245, 50), [570, 572, 4, 27]), ((6, 257, 24), [591, 592, 593, 29]), ((7, 85, 104), [716, 718, 8, 34]), ((7, 92, 141), [712, 714, 7, 34]), ((7, 96, 130), [708, 710, 6, 34]), ((7, 100, 131), [704, 706, 5, 34]), ((7, 107, 105), [741, 743, 12, 34]), ((7, 110, 101), [737, 739, 11, 34]), ((7, 117, 121), [765, 767, 15, 34]), ((7, 124, 123), [728, 730, 9, 34]), ((7, 130, 140), [733, 735, 10, 34]), ((7, 136, 124), [754, 756, 13, 34]), ((7, 139, 98), [758, 760, 14, 34]), ((7, 154, 115), [802, 804, 16, 34]), ((7, 157, 133), [810, 812, 17, 34])]
theorem mv_qV_k1 : mv_qV_1.all (mv_ck mv_wV) = true := by decide +kernel
def mv_qV_2 : List ((Nat × Nat × Nat) × List Nat) := [((7, 167, 91), [825, 827, 18, 34]), ((7, 170, 93), [842, 844, 21, 34]), ((7, 180, 114), [833, 835, 19, 34]), ((7, 183, 95), [838, 840, 20, 34]), ((7, 191, 122), [857, 859, 22, 34]), ((7, 200, 99), [869, 871, 23, 34]), ((7, 207, 111), [885, 887, 24, 34]), ((7, 236, 90), [925, 927, 25, 34]), ((8, 13, 87), [253, 254, 255, 27]), ((8, 17, 148), [688, 689, 690, 34]), ((8, 18, 83), [264, 265, 266, 27]), ((8, 22, 146), [696, 697, 698, 34]), ((8, 23, 58), [268, 269, 270, 27]), ((8, 26, 103), [700, 701, 702, 34]), ((8, 27, 80), [280, 281, 282, 27]), ((8, 30, 144), [720, 721, 722, 34]), ((8, 31, 73), [308, 309, 310, 27]), ((8, 35, 136), [724, 725, 726, 34]), ((8, 36, 68), [333, 334, 335, 27]), ((8, 39, 127), [745, 746, 747, 34]), ((8, 40, 77), [347, 348, 349, 27]), ((8, 43, 139), [749, 750, 751, 34]), ((8, 44, 60), [389, 390, 391, 27]), ((8, 47, 107), [772, 773, 774, 34]), ((8, 48, 52), [397, 398, 399, 27]), ((8, 51, 94), [776, 777, 778, 34]), ((8, 52, 74), [405, 406, 407, 27]), ((8, 56, 137), [780, 781, 782, 34]), ((8, 57, 51), [420, 421, 422, 27]), ((8, 60, 92), [787, 788, 789, 34])]
theorem mv_qV_k2 : mv_qV_2.all (mv_ck mv_wV) = true := by decide +kernel
def mv_qV_3 : List ((Nat × Nat × Nat) × List Nat) := [((8, 61, 78), [431, 432, 433, 27]), ((8, 64, 142), [792, 793, 794, 34]), ((8, 65, 49), [439, 440, 441, 27]), ((8, 69, 89), [796, 797, 798, 34]), ((8, 70, 70), [449, 450, 451, 27]), ((8, 73, 132), [806, 807, 808, 34]), ((8, 74, 64), [457, 458, 459, 27]), ((8, 77, 116), [814, 815, 816, 34]), ((8, 78, 65), [461, 462, 463, 27]), ((8, 82, 117), [819, 820, 821, 34]), ((8, 83, 86), [493, 494, 495, 27]), ((8, 86, 147), [849, 850, 851, 34]), ((8, 87, 69), [501, 502, 503, 27]), ((8, 90, 129), [853, 854, 855, 34]), ((8, 93, 62), [515, 516, 517, 27]), ((8, 97, 112), [861, 862, 863, 34]), ((8, 98, 71), [529, 530, 531, 27]), ((8, 101, 134), [873, 874, 875, 34]), ((8, 102, 79), [533, 534, 535, 27]), ((8, 105, 143), [877, 878, 879, 34]), ((8, 106, 82), [537, 538, 539, 27]), ((8, 109, 145), [881, 882, 883, 34]), ((8, 110, 75), [549, 550, 551, 27]), ((8, 114, 138), [889, 890, 891, 34]), ((8, 115, 66), [566, 567, 568, 27]), ((8, 119, 120), [905, 906, 907, 34]), ((8, 120, 72), [577, 578, 579, 27]), ((8, 124, 135), [910, 911, 912, 34]), ((8, 125, 56), [581, 582, 583, 27]), ((8, 128, 100), [914, 915, 916, 34])]
theorem mv_qV_k3 : mv_qV_3.all (mv_ck mv_wV) = true := by decide +kernel
def mv_qV_4 : List ((Nat × Nat × Nat) × List Nat) := [((8, 129, 63), [587, 588, 589, 27]), ((8, 132, 113), [921, 922, 923, 34]), ((8, 133, 46), [595, 596, 597, 27]), ((8, 136, 88), [929, 930, 931, 34]), ((8, 137, 54), [599, 600, 601, 27]), ((8, 140, 97), [933, 934, 935, 34])]
theorem mv_qV_k4 : mv_qV_4.all (mv_ck mv_wV) = true := by decide +kernel
theorem mv_qV_ok : ∀ q ∈ (mv_qV_0 ++ (mv_qV_1 ++ (mv_qV_2 ++ (mv_qV_3 ++ (mv_qV_4))))).map Prod.fst, ∀ w ∈ mv_wV q, w ∈ mv_T := mv_ck_ok (mv_kap mv_qV_k0 (mv_kap mv_qV_k1 (mv_kap mv_qV_k2 (mv_kap mv_qV_k3 (mv_qV_k4)))))
theorem mv_pV_eq : mv_pV = (mv_qV_0 ++ (mv_qV_1 ++ (mv_qV_2 ++ (mv_qV_3 ++ (mv_qV_4))))).map Prod.fst := by decide +kernel
def mv_wS (q : Nat × Nat × Nat × Nat) : List Cond := (if q.2.2.2 = 0 then [.methodLink (mv_cn q.1) q.2.1 (mv_m q.2.2.1).1] else []) ++ [.static (mv_m q.2.2.1).1, .initialized (mv_m q.2.2.1).1.cls]
def mv_qS_0 : List ((Nat × Nat × Nat × Nat) × List Nat) := [((0, 27, 151, 0), [366, 367, 36]), ((1, 74, 150, 0), [373, 374, 36]), ((1, 90, 151, 0), [384, 367, 36]), ((1, 96, 84, 1), [258, 27]), ((2, 29, 84, 1), [258, 27]), ((2, 50, 150, 0), [514, 374, 36]), ((3, 23, 84, 1), [258, 27]), ((3, 27, 32, 0), [472, 473, 32]), ((3, 39, 31, 0), [475, 429, 32]), ((3, 45, 150, 0), [481, 374, 36]), ((5, 19, 41, 0), [276, 277, 28]), ((5, 23, 84, 1), [258, 27]), ((6, 70, 84, 0), [257, 258, 27]), ((6, 128, 8, 0), [409, 410, 30]), ((6, 140, 55, 0), [425, 426, 27]), ((6, 182, 67, 0), [487, 488, 27]), ((6, 193, 85, 0), [519, 520, 27]), ((6, 236, 149, 0), [557, 558, 37]), ((6, 241, 57, 0), [563, 564, 27]), ((6, 249, 81, 0), [574, 575, 27]), ((6, 260, 31, 0), [428, 429, 32]), ((6, 263, 53, 0), [490, 491, 27]), ((7, 73, 109, 0), [693, 694, 34]), ((7, 114, 126, 0), [762, 763, 34]), ((7, 121, 96, 0), [769, 770, 34]), ((7, 162, 128, 0), [829, 830, 34]), ((7, 187, 118, 0), [846, 847, 34]), ((7, 196, 119, 0), [866, 867, 34]), ((7, 211, 108, 0), [893, 894, 34]), ((7, 214, 125, 0), [896, 897, 34])]
theorem mv_qS_k0 : mv_qS_0.all (mv_ck mv_wS) = true := by decide +kernel
def mv_qS_1 : List ((Nat × Nat × Nat × Nat) × List Nat) := [((7, 217, 102, 0), [899, 900, 34]), ((7, 220, 106, 0), [902, 903, 34])]
theorem mv_qS_k1 : mv_qS_1.all (mv_ck mv_wS) = true := by decide +kernel
theorem mv_qS_ok : ∀ q ∈ (mv_qS_0 ++ (mv_qS_1)).map Prod.fst, ∀ w ∈ mv_wS q, w ∈ mv_T := mv_ck_ok (mv_kap mv_qS_k0 (mv_qS_k1))
theorem mv_pS_eq : mv_pS = (mv_qS_0 ++ (mv_qS_1)).map Prod.fst := by decide +kernel
def mv_wF (q : Nat × Nat × Nat × Nat) : List Cond := [.fieldLink (mv_cn q.1) q.2.1 ((mv_fT q.2.2.1) q.2.2.2).1 ((mv_fT q.2.2.1) q.2.2.2).2.1 ((mv_fT q.2.2.1) q.2.2.2).2.2.1]
def mv_qF_0 : List ((Nat × Nat × Nat × Nat) × List Nat) := [((0, 11, 0, 0), [164]), ((0, 15, 0, 1), [165]), ((0, 19, 0, 2), [166]), ((1, 11, 1, 5), [87]), ((1, 15, 1, 14), [106]), ((1, 18, 1, 7), [91]), ((1, 22, 1, 8), [93]), ((1, 25, 1, 9), [96]), ((1, 28, 1, 10), [99]), ((1, 31, 1, 11), [102]), ((1, 34, 1, 12), [104]), ((1, 37, 1, 0), [74]), ((1, 40, 1, 13), [105]), ((1, 43, 1, 15), [107]), ((1, 46, 1, 1), [76]), ((1, 49, 1, 2), [79]), ((1, 52, 1, 3), [83]), ((1, 55, 1, 4), [85]), ((1, 64, 1, 6), [89]), ((2, 11, 2, 0), [141]), ((2, 17, 2, 1), [143]), ((2, 21, 2, 2), [146]), ((2, 33, 1, 10), [100]), ((2, 36, 1, 8), [94]), ((2, 47, 1, 9), [97]), ((2, 56, 1, 2), [81]), ((3, 13, 3, 0), [187]), ((3, 16, 3, 1), [188]), ((3, 20, 3, 2), [190]), ((5, 11, 5, 0), [52]), ((5, 15, 5, 1), [53]), ((5, 26, 2, 0), [142]), ((5, 36, 2, 1), [144]), ((5, 41, 1, 0), [75]), ((5, 46, 1, 1), [77]), ((5, 49, 1, 2), [80]), ((5, 52, 1, 3), [84]), ((5, 55, 1, 4), [86]), ((5, 62, 1, 5), [88]), ((5, 65, 1, 6), [90]), ((6, 10, 6, 0), [219]), ((6, 19, 6, 1), [220]), ((6, 26, 6, 2), [221]), ((6, 30, 6, 3), [222]), ((6, 34, 6, 4), [223]), ((6, 40, 6, 5), [224]), ((6, 44, 6, 6), [225]), ((6, 48, 6, 7), [226]), ((6, 55, 6, 8), [227]), ((6, 59, 6, 9), [228]), ((6, 65, 6, 10), [229]), ((6, 78, 5, 1), [54]), ((6, 92, 2, 1), [145]), ((6, 116, 1, 7), [92]), ((6, 119, 1, 8), [95]), ((6, 122, 1, 9), [98]), ((6, 143, 2, 2), [147]), ((6, 146, 0, 2), [167]), ((6, 163, 1, 2), [82]), ((6, 168, 1, 1), [78])]
theorem mv_qF_k0 : mv_qF_0.all (mv_ck mv_wF) = true := by decide +kernel
def mv_qF_1 : List ((Nat × Nat × Nat × Nat) × List Nat) := [((6, 176, 3, 1), [189]), ((6, 179, 3, 2), [191]), ((6, 204, 1, 11), [103]), ((6, 210, 4, 0), [206]), ((6, 213, 4, 1), [207]), ((6, 216, 4, 2), [208]), ((6, 219, 4, 3), [209]), ((6, 230, 1, 10), [101]), ((7, 7, 7, 1), [610]), ((7, 13, 7, 5), [614]), ((7, 16, 7, 6), [615]), ((7, 19, 7, 7), [616]), ((7, 22, 7, 9), [618]), ((7, 25, 7, 10), [619]), ((7, 28, 7, 11), [620]), ((7, 31, 7, 12), [621]), ((7, 34, 7, 13), [622]), ((7, 37, 7, 14), [623]), ((7, 40, 7, 15), [624]), ((7, 43, 7, 17), [626]), ((7, 46, 7, 18), [627]), ((7, 50, 7, 20), [629]), ((7, 53, 7, 21), [630]), ((7, 56, 7, 22), [631]), ((7, 59, 7, 23), [632]), ((7, 62, 7, 25), [634]), ((7, 66, 7, 0), [609]), ((7, 70, 7, 4), [613]), ((7, 79, 7, 2), [611]), ((7, 82, 7, 3), [612]), ((7, 89, 7, 8), [617]), ((7, 104, 7, 16), [625]), ((7, 204, 7, 19), [628]), ((7, 226, 7, 24), [633])]
theorem mv_qF_k1 : mv_qF_1.all (mv_ck mv_wF) = true := by decide +kernel
theorem mv_qF_ok : ∀ q ∈ (mv_qF_0 ++ (mv_qF_1)).map Prod.fst, ∀ w ∈ mv_wF q, w ∈ mv_T := mv_ck_ok (mv_kap mv_qF_k0 (mv_qF_k1))
theorem mv_pF_eq : mv_pF = (mv_qF_0 ++ (mv_qF_1)).map Prod.fst := by decide +kernel
def mv_wC (q : Nat × Nat × Int32) : List Cond := [.constant (mv_cn q.1) q.2.1 q.2.2]
def mv_qC_0 : List ((Nat × Nat × Int32) × List Nat) := [((6, 139, 99999), [424]), ((9, 265, 1431655765), [560]), ((9, 266, 858993459), [561]), ((9, 267, 252645135), [562])]
theorem mv_qC_k0 : mv_qC_0.all (mv_ck mv_wC) = true := by decide +kernel
theorem mv_qC_ok : ∀ q ∈ (mv_qC_0).map Prod.fst, ∀ w ∈ mv_wC q, w ∈ mv_T := mv_ck_ok (mv_qC_k0)
theorem mv_pC_eq : mv_pC = (mv_qC_0).map Prod.fst := by decide +kernel
def mv_wL (q : Nat × Nat × Int64) : List Cond := [.constantLong (mv_cn q.1) q.2.1 q.2.2]
def mv_qL_0 : List ((Nat × Nat × Int64) × List Nat) := [((3, 43, 10), [480]), ((6, 161, -1), [465]), ((6, 166, -3), [466]), ((6, 174, -9), [486]), ((6, 199, 10000), [522]), ((6, 253, 6364136223846793005), [585]), ((6, 255, 1442695040888963407), [586]), ((7, 77, 255), [692]), ((7, 128, 13), [732]), ((7, 134, 99), [753]), ((7, 142, 3), [784]), ((7, 144, 9), [785]), ((7, 146, 4), [786]), ((7, 148, 99999), [791]), ((7, 150, 60), [800]), ((7, 152, 5), [801]), ((7, 160, 30), [818]), ((7, 165, 10), [837]), ((7, 174, -1), [823]), ((7, 176, -3), [824]), ((7, 178, -9), [832]), ((7, 194, 10000), [865]), ((7, 224, 6), [909]), ((7, 230, 20), [918]), ((7, 232, 6364136223846793005), [919]), ((7, 234, 1442695040888963407), [920]), ((8, 91, 4294967295), [937])]
theorem mv_qL_k0 : mv_qL_0.all (mv_ck mv_wL) = true := by decide +kernel
theorem mv_qL_ok : ∀ q ∈ (mv_qL_0).map Prod.fst, ∀ w ∈ mv_wL q, w ∈ mv_T := mv_ck_ok (mv_qL_k0)
theorem mv_pL_eq : mv_pL = (mv_qL_0).map Prod.fst := by decide +kernel
def mv_cW (k : Nat) : Cond := .code (mv_m k).1 (mv_m k).2.1 (mv_m k).2.2.1 (mv_m k).2.2.2.1
theorem mv_cW_in {k i : Nat} (h : lw_tbl[i]? = some (mv_cW k)) (hg : goodWord (mv_cW k) = true) : mv_cW k ∈ mv_T := List.mem_filter.mpr ⟨List.mem_of_getElem? h, hg⟩
set_option maxRecDepth 20000 in
theorem mv_cW_0 : mv_cW 0 ∈ mv_T := mv_cW_in (i := 307) rfl rfl
set_option maxRecDepth 20000 in
theorem mv_cW_2 : mv_cW 2 ∈ mv_T := mv_cW_in (i := 354) rfl rfl
set_option maxRecDepth 20000 in
theorem mv_cW_3 : mv_cW 3 ∈ mv_T := mv_cW_in (i := 438) rfl rfl
set_option maxRecDepth 20000 in
theorem mv_cW_4 : mv_cW 4 ∈ mv_T := mv_cW_in (i := 383) rfl rfl
set_option maxRecDepth 20000 in
theorem mv_cW_5 : mv_cW 5 ∈ mv_T := mv_cW_in (i := 372) rfl rfl
set_option maxRecDepth 20000 in
theorem mv_cW_6 : mv_cW 6 ∈ mv_T := mv_cW_in (i := 447) rfl rfl
set_option maxRecDepth 20000 in
theorem mv_cW_7 : mv_cW 7 ∈ mv_T := mv_cW_in (i := 396) rfl rfl
set_option maxRecDepth 20000 in
theorem mv_cW_8 : mv_cW 8 ∈ mv_T := mv_cW_in (i := 411) rfl rfl
set_option maxRecDepth 20000 in
theorem mv_cW_9 : mv_cW 9 ∈ mv_T := mv_cW_in (i := 388) rfl rfl
set_option maxRecDepth 20000 in
theorem mv_cW_10 : mv_cW 10 ∈ mv_T := mv_cW_in (i := 303) rfl rfl
set_option maxRecDepth 20000 in
theorem mv_cW_11 : mv_cW 11 ∈ mv_T := mv_cW_in (i := 419) rfl rfl
set_option maxRecDepth 20000 in
theorem mv_cW_12 : mv_cW 12 ∈ mv_T := mv_cW_in (i := 362) rfl rfl
set_option maxRecDepth 20000 in
theorem mv_cW_13 : mv_cW 13 ∈ mv_T := mv_cW_in (i := 404) rfl rfl
set_option maxRecDepth 20000 in
theorem mv_cW_14 : mv_cW 14 ∈ mv_T := mv_cW_in (i := 324) rfl rfl
set_option maxRecDepth 20000 in
theorem mv_cW_15 : mv_cW 15 ∈ mv_T := mv_cW_in (i := 328) rfl rfl
set_option maxRecDepth 20000 in
theorem mv_cW_17 : mv_cW 17 ∈ mv_T := mv_cW_in (i := 415) rfl rfl
set_option maxRecDepth 20000 in
theorem mv_cW_18 : mv_cW 18 ∈ mv_T := mv_cW_in (i := 320) rfl rfl
set_option maxRecDepth 20000 in
theorem mv_cW_19 : mv_cW 19 ∈ mv_T := mv_cW_in (i := 340) rfl rfl
set_option maxRecDepth 20000 in
theorem mv_cW_20 : mv_cW 20 ∈ mv_T := mv_cW_in (i := 500) rfl rfl
set_option maxRecDepth 20000 in
theorem mv_cW_21 : mv_cW 21 ∈ mv_T := mv_cW_in (i := 379) rfl rfl
set_option maxRecDepth 20000 in
theorem mv_cW_22 : mv_cW 22 ∈ mv_T := mv_cW_in (i := 332) rfl rfl
set_option maxRecDepth 20000 in
theorem mv_cW_23 : mv_cW 23 ∈ mv_T := mv_cW_in (i := 345) rfl rfl
set_option maxRecDepth 20000 in
theorem mv_cW_24 : mv_cW 24 ∈ mv_T := mv_cW_in (i := 594) rfl rfl
set_option maxRecDepth 20000 in
theorem mv_cW_25 : mv_cW 25 ∈ mv_T := mv_cW_in (i := 315) rfl rfl
set_option maxRecDepth 20000 in
theorem mv_cW_26 : mv_cW 26 ∈ mv_T := mv_cW_in (i := 358) rfl rfl
set_option maxRecDepth 20000 in
theorem mv_cW_28 : mv_cW 28 ∈ mv_T := mv_cW_in (i := 512) rfl rfl
set_option maxRecDepth 20000 in
theorem mv_cW_29 : mv_cW 29 ∈ mv_T := mv_cW_in (i := 508) rfl rfl
set_option maxRecDepth 20000 in
theorem mv_cW_30 : mv_cW 30 ∈ mv_T := mv_cW_in (i := 556) rfl rfl
set_option maxRecDepth 20000 in
theorem mv_cW_31 : mv_cW 31 ∈ mv_T := mv_cW_in (i := 430) rfl rfl
set_option maxRecDepth 20000 in
theorem mv_cW_32 : mv_cW 32 ∈ mv_T := mv_cW_in (i := 474) rfl rfl
set_option maxRecDepth 20000 in
theorem mv_cW_33 : mv_cW 33 ∈ mv_T := mv_cW_in (i := 485) rfl rfl
set_option maxRecDepth 20000 in
theorem mv_cW_35 : mv_cW 35 ∈ mv_T := mv_cW_in (i := 479) rfl rfl
set_option maxRecDepth 20000 in
theorem mv_cW_36 : mv_cW 36 ∈ mv_T := mv_cW_in (i := 470) rfl rfl
set_option maxRecDepth 20000 in
theorem mv_cW_38 : mv_cW 38 ∈ mv_T := mv_cW_in (i := 263) rfl rfl
set_option maxRecDepth 20000 in
theorem mv_cW_39 : mv_cW 39 ∈ mv_T := mv_cW_in (i := 295) rfl rfl
set_option maxRecDepth 20000 in
theorem mv_cW_40 : mv_cW 40 ∈ mv_T := mv_cW_in (i := 275) rfl rfl
set_option maxRecDepth 20000 in
theorem mv_cW_41 : mv_cW 41 ∈ mv_T := mv_cW_in (i := 278) rfl rfl
set_option maxRecDepth 20000 in
theorem mv_cW_43 : mv_cW 43 ∈ mv_T := mv_cW_in (i := 287) rfl rfl
set_option maxRecDepth 20000 in
theorem mv_cW_44 : mv_cW 44 ∈ mv_T := mv_cW_in (i := 291) rfl rfl
set_option maxRecDepth 20000 in
theorem mv_cW_45 : mv_cW 45 ∈ mv_T := mv_cW_in (i := 299) rfl rfl
set_option maxRecDepth 20000 in
theorem mv_cW_46 : mv_cW 46 ∈ mv_T := mv_cW_in (i := 598) rfl rfl
set_option maxRecDepth 20000 in
theorem mv_cW_47 : mv_cW 47 ∈ mv_T := mv_cW_in (i := 548) rfl rfl
set_option maxRecDepth 20000 in
theorem mv_cW_48 : mv_cW 48 ∈ mv_T := mv_cW_in (i := 544) rfl rfl
set_option maxRecDepth 20000 in
theorem mv_cW_49 : mv_cW 49 ∈ mv_T := mv_cW_in (i := 442) rfl rfl
set_option maxRecDepth 20000 in
theorem mv_cW_50 : mv_cW 50 ∈ mv_T := mv_cW_in (i := 573) rfl rfl
set_option maxRecDepth 20000 in
theorem mv_cW_51 : mv_cW 51 ∈ mv_T := mv_cW_in (i := 423) rfl rfl
set_option maxRecDepth 20000 in
theorem mv_cW_52 : mv_cW 52 ∈ mv_T := mv_cW_in (i := 400) rfl rfl
set_option maxRecDepth 20000 in
theorem mv_cW_53 : mv_cW 53 ∈ mv_T := mv_cW_in (i := 492) rfl rfl
set_option maxRecDepth 20000 in
theorem mv_cW_54 : mv_cW 54 ∈ mv_T := mv_cW_in (i := 602) rfl rfl
set_option maxRecDepth 20000 in
theorem mv_cW_55 : mv_cW 55 ∈ mv_T := mv_cW_in (i := 427) rfl rfl
set_option maxRecDepth 20000 in
theorem mv_cW_56 : mv_cW 56 ∈ mv_T := mv_cW_in (i := 584) rfl rfl
set_option maxRecDepth 20000 in
theorem mv_cW_57 : mv_cW 57 ∈ mv_T := mv_cW_in (i := 565) rfl rfl
set_option maxRecDepth 20000 in
theorem mv_cW_58 : mv_cW 58 ∈ mv_T := mv_cW_in (i := 271) rfl rfl
set_option maxRecDepth 20000 in
theorem mv_cW_59 : mv_cW 59 ∈ mv_T := mv_cW_in (i := 456) rfl rfl
set_option maxRecDepth 20000 in
theorem mv_cW_60 : mv_cW 60 ∈ mv_T := mv_cW_in (i := 392) rfl rfl
set_option maxRecDepth 20000 in
theorem mv_cW_62 : mv_cW 62 ∈ mv_T := mv_cW_in (i := 518) rfl rfl
set_option maxRecDepth 20000 in
theorem mv_cW_63 : mv_cW 63 ∈ mv_T := mv_cW_in (i := 590) rfl rfl
set_option maxRecDepth 20000 in
theorem mv_cW_64 : mv_cW 64 ∈ mv_T := mv_cW_in (i := 460) rfl rfl
set_option maxRecDepth 20000 in
theorem mv_cW_65 : mv_cW 65 ∈ mv_T := mv_cW_in (i := 464) rfl rfl
set_option maxRecDepth 20000 in
theorem mv_cW_66 : mv_cW 66 ∈ mv_T := mv_cW_in (i := 569) rfl rfl
set_option maxRecDepth 20000 in
theorem mv_cW_67 : mv_cW 67 ∈ mv_T := mv_cW_in (i := 489) rfl rfl
set_option maxRecDepth 20000 in
theorem mv_cW_68 : mv_cW 68 ∈ mv_T := mv_cW_in (i := 336) rfl rfl
set_option maxRecDepth 20000 in
theorem mv_cW_69 : mv_cW 69 ∈ mv_T := mv_cW_in (i := 504) rfl rfl
set_option maxRecDepth 20000 in
theorem mv_cW_70 : mv_cW 70 ∈ mv_T := mv_cW_in (i := 452) rfl rfl
set_option maxRecDepth 20000 in
theorem mv_cW_71 : mv_cW 71 ∈ mv_T := mv_cW_in (i := 532) rfl rfl
set_option maxRecDepth 20000 in
theorem mv_cW_72 : mv_cW 72 ∈ mv_T := mv_cW_in (i := 580) rfl rfl
set_option maxRecDepth 20000 in
theorem mv_cW_73 : mv_cW 73 ∈ mv_T := mv_cW_in (i := 311) rfl rfl
set_option maxRecDepth 20000 in
theorem mv_cW_74 : mv_cW 74 ∈ mv_T := mv_cW_in (i := 408) rfl rfl
set_option maxRecDepth 20000 in
theorem mv_cW_75 : mv_cW 75 ∈ mv_T := mv_cW_in (i := 552) rfl rfl
set_option maxRecDepth 20000 in
theorem mv_cW_76 : mv_cW 76 ∈ mv_T := mv_cW_in (i := 527) rfl rfl
set_option maxRecDepth 20000 in
theorem mv_cW_77 : mv_cW 77 ∈ mv_T := mv_cW_in (i := 350) rfl rfl
set_option maxRecDepth 20000 in
theorem mv_cW_78 : mv_cW 78 ∈ mv_T := mv_cW_in (i := 434) rfl rfl
set_option maxRecDepth 20000 in
theorem mv_cW_79 : mv_cW 79 ∈ mv_T := mv_cW_in (i := 536) rfl rfl
set_option maxRecDepth 20000 in
theorem mv_cW_80 : mv_cW 80 ∈ mv_T := mv_cW_in (i := 283) rfl rfl
set_option maxRecDepth 20000 in
theorem mv_cW_81 : mv_cW 81 ∈ mv_T := mv_cW_in (i := 576) rfl rfl
set_option maxRecDepth 20000 in
theorem mv_cW_82 : mv_cW 82 ∈ mv_T := mv_cW_in (i := 540) rfl rfl
set_option maxRecDepth 20000 in
theorem mv_cW_83 : mv_cW 83 ∈ mv_T := mv_cW_in (i := 267) rfl rfl
set_option maxRecDepth 20000 in
theorem mv_cW_84 : mv_cW 84 ∈ mv_T := mv_cW_in (i := 259) rfl rfl
set_option maxRecDepth 20000 in
theorem mv_cW_85 : mv_cW 85 ∈ mv_T := mv_cW_in (i := 521) rfl rfl
set_option maxRecDepth 20000 in
theorem mv_cW_86 : mv_cW 86 ∈ mv_T := mv_cW_in (i := 496) rfl rfl
set_option maxRecDepth 20000 in
theorem mv_cW_87 : mv_cW 87 ∈ mv_T := mv_cW_in (i := 256) rfl rfl
set_option maxRecDepth 20000 in
theorem mv_cW_88 : mv_cW 88 ∈ mv_T := mv_cW_in (i := 932) rfl rfl
set_option maxRecDepth 20000 in
theorem mv_cW_89 : mv_cW 89 ∈ mv_T := mv_cW_in (i := 799) rfl rfl
set_option maxRecDepth 20000 in
theorem mv_cW_90 : mv_cW 90 ∈ mv_T := mv_cW_in (i := 928) rfl rfl
set_option maxRecDepth 20000 in
theorem mv_cW_91 : mv_cW 91 ∈ mv_T := mv_cW_in (i := 828) rfl rfl
set_option maxRecDepth 20000 in
theorem mv_cW_92 : mv_cW 92 ∈ mv_T := mv_cW_in (i := 790) rfl rfl
set_option maxRecDepth 20000 in
theorem mv_cW_93 : mv_cW 93 ∈ mv_T := mv_cW_in (i := 845) rfl rfl
set_option maxRecDepth 20000 in
theorem mv_cW_94 : mv_cW 94 ∈ mv_T := mv_cW_in (i := 779) rfl rfl
set_option maxRecDepth 20000 in
theorem mv_cW_95 : mv_cW 95 ∈ mv_T := mv_cW_in (i := 841) rfl rfl
set_option maxRecDepth 20000 in
theorem mv_cW_96 : mv_cW 96 ∈ mv_T := mv_cW_in (i := 771) rfl rfl
set_option maxRecDepth 20000 in
theorem mv_cW_97 : mv_cW 97 ∈ mv_T := mv_cW_in (i := 936) rfl rfl
set_option maxRecDepth 20000 in
theorem mv_cW_98 : mv_cW 98 ∈ mv_T := mv_cW_in (i := 761) rfl rfl
set_option maxRecDepth 20000 in
theorem mv_cW_99 : mv_cW 99 ∈ mv_T := mv_cW_in (i := 872) rfl rfl
set_option maxRecDepth 20000 in
theorem mv_cW_100 : mv_cW 100 ∈ mv_T := mv_cW_in (i := 917) rfl rfl
set_option maxRecDepth 20000 in
theorem mv_cW_101 : mv_cW 101 ∈ mv_T := mv_cW_in (i := 740) rfl rfl
set_option maxRecDepth 20000 in
theorem mv_cW_102 : mv_cW 102 ∈ mv_T := mv_cW_in (i := 901) rfl rfl
set_option maxRecDepth 20000 in
theorem mv_cW_103 : mv_cW 103 ∈ mv_T := mv_cW_in (i := 703) rfl rfl
set_option maxRecDepth 20000 in
theorem mv_cW_104 : mv_cW 104 ∈ mv_T := mv_cW_in (i := 719) rfl rfl
set_option maxRecDepth 20000 in
theorem mv_cW_105 : mv_cW 105 ∈ mv_T := mv_cW_in (i := 744) rfl rfl
set_option maxRecDepth 20000 in
theorem mv_cW_106 : mv_cW 106 ∈ mv_T := mv_cW_in (i := 904) rfl rfl
set_option maxRecDepth 20000 in
theorem mv_cW_107 : mv_cW 107 ∈ mv_T := mv_cW_in (i := 775) rfl rfl
set_option maxRecDepth 20000 in
theorem mv_cW_108 : mv_cW 108 ∈ mv_T := mv_cW_in (i := 895) rfl rfl
set_option maxRecDepth 20000 in
theorem mv_cW_109 : mv_cW 109 ∈ mv_T := mv_cW_in (i := 695) rfl rfl
set_option maxRecDepth 20000 in
theorem mv_cW_111 : mv_cW 111 ∈ mv_T := mv_cW_in (i := 888) rfl rfl
set_option maxRecDepth 20000 in
theorem mv_cW_112 : mv_cW 112 ∈ mv_T := mv_cW_in (i := 864) rfl rfl
set_option maxRecDepth 20000 in
theorem mv_cW_113 : mv_cW 113 ∈ mv_T := mv_cW_in (i := 924) rfl rfl
set_option maxRecDepth 20000 in
theorem mv_cW_114 : mv_cW 114 ∈ mv_T := mv_cW_in (i := 836) rfl rfl
set_option maxRecDepth 20000 in
theorem mv_cW_115 : mv_cW 115 ∈ mv_T := mv_cW_in (i := 805) rfl rfl
set_option maxRecDepth 20000 in
theorem mv_cW_116 : mv_cW 116 ∈ mv_T := mv_cW_in (i := 817) rfl rfl
set_option maxRecDepth 20000 in
theorem mv_cW_117 : mv_cW 117 ∈ mv_T := mv_cW_in (i := 822) rfl rfl
set_option maxRecDepth 20000 in
theorem mv_cW_118 : mv_cW 118 ∈ mv_T := mv_cW_in (i := 848) rfl rfl
set_option maxRecDepth 20000 in
theorem mv_cW_119 : mv_cW 119 ∈ mv_T := mv_cW_in (i := 868) rfl rfl
set_option maxRecDepth 20000 in
theorem mv_cW_120 : mv_cW 120 ∈ mv_T := mv_cW_in (i := 908) rfl rfl
set_option maxRecDepth 20000 in
theorem mv_cW_121 : mv_cW 121 ∈ mv_T := mv_cW_in (i := 768) rfl rfl
set_option maxRecDepth 20000 in
theorem mv_cW_122 : mv_cW 122 ∈ mv_T := mv_cW_in (i := 860) rfl rfl
set_option maxRecDepth 20000 in
theorem mv_cW_123 : mv_cW 123 ∈ mv_T := mv_cW_in (i := 731) rfl rfl
set_option maxRecDepth 20000 in
theorem mv_cW_124 : mv_cW 124 ∈ mv_T := mv_cW_in (i := 757) rfl rfl
set_option maxRecDepth 20000 in
theorem mv_cW_125 : mv_cW 125 ∈ mv_T := mv_cW_in (i := 898) rfl rfl
set_option maxRecDepth 20000 in
theorem mv_cW_126 : mv_cW 126 ∈ mv_T := mv_cW_in (i := 764) rfl rfl
set_option maxRecDepth 20000 in
theorem mv_cW_127 : mv_cW 127 ∈ mv_T := mv_cW_in (i := 748) rfl rfl
set_option maxRecDepth 20000 in
theorem mv_cW_128 : mv_cW 128 ∈ mv_T := mv_cW_in (i := 831) rfl rfl
set_option maxRecDepth 20000 in
theorem mv_cW_129 : mv_cW 129 ∈ mv_T := mv_cW_in (i := 856) rfl rfl
set_option maxRecDepth 20000 in
theorem mv_cW_130 : mv_cW 130 ∈ mv_T := mv_cW_in (i := 711) rfl rfl
set_option maxRecDepth 20000 in
theorem mv_cW_131 : mv_cW 131 ∈ mv_T := mv_cW_in (i := 707) rfl rfl
set_option maxRecDepth 20000 in
theorem mv_cW_132 : mv_cW 132 ∈ mv_T := mv_cW_in (i := 809) rfl rfl
set_option maxRecDepth 20000 in
theorem mv_cW_133 : mv_cW 133 ∈ mv_T := mv_cW_in (i := 813) rfl rfl
set_option maxRecDepth 20000 in
theorem mv_cW_134 : mv_cW 134 ∈ mv_T := mv_cW_in (i := 876) rfl rfl
set_option maxRecDepth 20000 in
theorem mv_cW_135 : mv_cW 135 ∈ mv_T := mv_cW_in (i := 913) rfl rfl
set_option maxRecDepth 20000 in
theorem mv_cW_136 : mv_cW 136 ∈ mv_T := mv_cW_in (i := 727) rfl rfl
set_option maxRecDepth 20000 in
theorem mv_cW_137 : mv_cW 137 ∈ mv_T := mv_cW_in (i := 783) rfl rfl
set_option maxRecDepth 20000 in
theorem mv_cW_138 : mv_cW 138 ∈ mv_T := mv_cW_in (i := 892) rfl rfl
set_option maxRecDepth 20000 in
theorem mv_cW_139 : mv_cW 139 ∈ mv_T := mv_cW_in (i := 752) rfl rfl
set_option maxRecDepth 20000 in
theorem mv_cW_140 : mv_cW 140 ∈ mv_T := mv_cW_in (i := 736) rfl rfl
set_option maxRecDepth 20000 in
theorem mv_cW_141 : mv_cW 141 ∈ mv_T := mv_cW_in (i := 715) rfl rfl
set_option maxRecDepth 20000 in
theorem mv_cW_142 : mv_cW 142 ∈ mv_T := mv_cW_in (i := 795) rfl rfl
set_option maxRecDepth 20000 in
theorem mv_cW_143 : mv_cW 143 ∈ mv_T := mv_cW_in (i := 880) rfl rfl
set_option maxRecDepth 20000 in
theorem mv_cW_144 : mv_cW 144 ∈ mv_T := mv_cW_in (i := 723) rfl rfl
set_option maxRecDepth 20000 in
theorem mv_cW_145 : mv_cW 145 ∈ mv_T := mv_cW_in (i := 884) rfl rfl
set_option maxRecDepth 20000 in
theorem mv_cW_146 : mv_cW 146 ∈ mv_T := mv_cW_in (i := 699) rfl rfl
set_option maxRecDepth 20000 in
theorem mv_cW_147 : mv_cW 147 ∈ mv_T := mv_cW_in (i := 852) rfl rfl
set_option maxRecDepth 20000 in
theorem mv_cW_148 : mv_cW 148 ∈ mv_T := mv_cW_in (i := 691) rfl rfl
set_option maxRecDepth 20000 in
theorem mv_cW_149 : mv_cW 149 ∈ mv_T := mv_cW_in (i := 559) rfl rfl
set_option maxRecDepth 20000 in
theorem mv_cW_150 : mv_cW 150 ∈ mv_T := mv_cW_in (i := 375) rfl rfl
set_option maxRecDepth 20000 in
theorem mv_cW_151 : mv_cW 151 ∈ mv_T := mv_cW_in (i := 368) rfl rfl
def mv_cLs : List Nat := [0, 2, 3, 4, 5, 6, 7, 8, 9, 10, 11, 12, 13, 14, 15, 17, 18, 19, 20, 21, 22, 23, 24, 25, 26, 28, 29, 30, 31, 32, 33, 35, 36, 38, 39, 40, 41, 43, 44, 45, 46, 47, 48, 49, 50, 51, 52, 53, 54, 55, 56, 57, 58, 59, 60, 62, 63, 64, 65, 66, 67, 68, 69, 70, 71, 72, 73, 74, 75, 76, 77, 78, 79, 80, 81, 82, 83, 84, 85, 86, 87, 88, 89, 90, 91, 92, 93, 94, 95, 96, 97, 98, 99, 100, 101, 102, 103, 104, 105, 106, 107, 108, 109, 111, 112, 113, 114, 115, 116, 117, 118, 119, 120, 121, 122, 123, 124, 125, 126, 127, 128, 129, 130, 131, 132, 133, 134, 135, 136, 137, 138, 139, 140, 141, 142, 143, 144, 145, 146, 147, 148, 149, 150, 151]
set_option maxRecDepth 20000 in
theorem mv_cW_ok : ∀ k ∈ mv_cLs, mv_cW k ∈ mv_T := List.forall_mem_cons.mpr ⟨mv_cW_0, List.forall_mem_cons.mpr ⟨mv_cW_2, List.forall_mem_cons.mpr ⟨mv_cW_3, List.forall_mem_cons.mpr ⟨mv_cW_4, List.forall_mem_cons.mpr ⟨mv_cW_5, List.forall_mem_cons.mpr ⟨mv_cW_6, List.forall_mem_cons.mpr ⟨mv_cW_7, List.forall_mem_cons.mpr ⟨mv_cW_8, List.forall_mem_cons.mpr ⟨mv_cW_9, List.forall_mem_cons.mpr ⟨mv_cW_10, List.forall_mem_cons.mpr ⟨mv_cW_11, List.forall_mem_cons.mpr ⟨mv_cW_12, List.forall_mem_cons.mpr ⟨mv_cW_13, List.forall_mem_cons.mpr ⟨mv_cW_14, List.forall_mem_cons.mpr ⟨mv_cW_15, List.forall_mem_cons.mpr ⟨mv_cW_17, List.forall_mem_cons.mpr ⟨mv_cW_18, List.forall_mem_cons.mpr ⟨mv_cW_19, List.forall_mem_cons.mpr ⟨mv_cW_20, List.forall_mem_cons.mpr ⟨mv_cW_21, List.forall_mem_cons.mpr ⟨mv_cW_22, List.forall_mem_cons.mpr ⟨mv_cW_23, List.forall_mem_cons.mpr ⟨mv_cW_24, List.forall_mem_cons.mpr ⟨mv_cW_25, List.forall_mem_cons.mpr ⟨mv_cW_26, List.forall_mem_cons.mpr ⟨mv_cW_28, List.forall_mem_cons.mpr ⟨mv_cW_29, List.forall_mem_cons.mpr ⟨mv_cW_30, List.forall_mem_cons.mpr ⟨mv_cW_31, List.forall_mem_cons.mpr ⟨mv_cW_32, List.forall_mem_cons.mpr ⟨mv_cW_33, List.forall_mem_cons.mpr ⟨mv_cW_35, List.forall_mem_cons.mpr ⟨mv_cW_36, List.forall_mem_cons.mpr ⟨mv_cW_38, List.forall_mem_cons.mpr ⟨mv_cW_39, List.forall_mem_cons.mpr ⟨mv_cW_40, List.forall_mem_cons.mpr ⟨mv_cW_41, List.forall_mem_cons.mpr ⟨mv_cW_43, List.forall_mem_cons.mpr ⟨mv_cW_44, List.forall_mem_cons.mpr ⟨mv_cW_45, List.forall_mem_cons.mpr ⟨mv_cW_46, List.forall_mem_cons.mpr ⟨mv_cW_47, List.forall_mem_cons.mpr ⟨mv_cW_48, List.forall_mem_cons.mpr ⟨mv_cW_49, List.forall_mem_cons.mpr ⟨mv_cW_50, List.forall_mem_cons.mpr ⟨mv_cW_51, List.forall_mem_cons.mpr ⟨mv_cW_52, List.forall_mem_cons.mpr ⟨mv_cW_53, List.forall_mem_cons.mpr ⟨mv_cW_54, List.forall_mem_cons.mpr ⟨mv_cW_55, List.forall_mem_cons.mpr ⟨mv_cW_56, List.forall_mem_cons.mpr ⟨mv_cW_57, List.forall_mem_cons.mpr ⟨mv_cW_58, List.forall_mem_cons.mpr ⟨mv_cW_59, List.forall_mem_cons.mpr ⟨mv_cW_60, List.forall_mem_cons.mpr ⟨mv_cW_62, List.forall_mem_cons.mpr ⟨mv_cW_63, List.forall_mem_cons.mpr ⟨mv_cW_64, List.forall_mem_cons.mpr ⟨mv_cW_65, List.forall_mem_cons.mpr ⟨mv_cW_66, List.forall_mem_cons.mpr ⟨mv_cW_67, List.forall_mem_cons.mpr ⟨mv_cW_68, List.forall_mem_cons.mpr ⟨mv_cW_69, List.forall_mem_cons.mpr ⟨mv_cW_70, List.forall_mem_cons.mpr ⟨mv_cW_71, List.forall_mem_cons.mpr ⟨mv_cW_72, List.forall_mem_cons.mpr ⟨mv_cW_73, List.forall_mem_cons.mpr ⟨mv_cW_74, List.forall_mem_cons.mpr ⟨mv_cW_75, List.forall_mem_cons.mpr ⟨mv_cW_76, List.forall_mem_cons.mpr ⟨mv_cW_77, List.forall_mem_cons.mpr ⟨mv_cW_78, List.forall_mem_cons.mpr ⟨mv_cW_79, List.forall_mem_cons.mpr ⟨mv_cW_80, List.forall_mem_cons.mpr ⟨mv_cW_81, List.forall_mem_cons.mpr ⟨mv_cW_82, List.forall_mem_cons.mpr ⟨mv_cW_83, List.forall_mem_cons.mpr ⟨mv_cW_84, List.forall_mem_cons.mpr ⟨mv_cW_85, List.forall_mem_cons.mpr ⟨mv_cW_86, List.forall_mem_cons.mpr ⟨mv_cW_87, List.forall_mem_cons.mpr ⟨mv_cW_88, List.forall_mem_cons.mpr ⟨mv_cW_89, List.forall_mem_cons.mpr ⟨mv_cW_90, List.forall_mem_cons.mpr ⟨mv_cW_91, List.forall_mem_cons.mpr ⟨mv_cW_92, List.forall_mem_cons.mpr ⟨mv_cW_93, List.forall_mem_cons.mpr ⟨mv_cW_94, List.forall_mem_cons.mpr ⟨mv_cW_95, List.forall_mem_cons.mpr ⟨mv_cW_96, List.forall_mem_cons.mpr ⟨mv_cW_97, List.forall_mem_cons.mpr ⟨mv_cW_98, List.forall_mem_cons.mpr ⟨mv_cW_99, List.forall_mem_cons.mpr ⟨mv_cW_100, List.forall_mem_cons.mpr ⟨mv_cW_101, List.forall_mem_cons.mpr ⟨mv_cW_102, List.forall_mem_cons.mpr ⟨mv_cW_103, List.forall_mem_cons.mpr ⟨mv_cW_104, List.forall_mem_cons.mpr ⟨mv_cW_105, List.forall_mem_cons.mpr ⟨mv_cW_106, List.forall_mem_cons.mpr ⟨mv_cW_107, List.forall_mem_cons.mpr ⟨mv_cW_108, List.forall_mem_cons.mpr ⟨mv_cW_109, List.forall_mem_cons.mpr ⟨mv_cW_111, List.forall_mem_cons.mpr ⟨mv_cW_112, List.forall_mem_cons.mpr ⟨mv_cW_113, List.forall_mem_cons.mpr ⟨mv_cW_114, List.forall_mem_cons.mpr ⟨mv_cW_115, List.forall_mem_cons.mpr ⟨mv_cW_116, List.forall_mem_cons.mpr ⟨mv_cW_117, List.forall_mem_cons.mpr ⟨mv_cW_118, List.forall_mem_cons.mpr ⟨mv_cW_119, List.forall_mem_cons.mpr ⟨mv_cW_120, List.forall_mem_cons.mpr ⟨mv_cW_121, List.forall_mem_cons.mpr ⟨mv_cW_122, List.forall_mem_cons.mpr ⟨mv_cW_123, List.forall_mem_cons.mpr ⟨mv_cW_124, List.forall_mem_cons.mpr ⟨mv_cW_125, List.forall_mem_cons.mpr ⟨mv_cW_126, List.forall_mem_cons.mpr ⟨mv_cW_127, List.forall_mem_cons.mpr ⟨mv_cW_128, List.forall_mem_cons.mpr ⟨mv_cW_129, List.forall_mem_cons.mpr ⟨mv_cW_130, List.forall_mem_cons.mpr ⟨mv_cW_131, List.forall_mem_cons.mpr ⟨mv_cW_132, List.forall_mem_cons.mpr ⟨mv_cW_133, List.forall_mem_cons.mpr ⟨mv_cW_134, List.forall_mem_cons.mpr ⟨mv_cW_135, List.forall_mem_cons.mpr ⟨mv_cW_136, List.forall_mem_cons.mpr ⟨mv_cW_137, List.forall_mem_cons.mpr ⟨mv_cW_138, List.forall_mem_cons.mpr ⟨mv_cW_139, List.forall_mem_cons.mpr ⟨mv_cW_140, List.forall_mem_cons.mpr ⟨mv_cW_141, List.forall_mem_cons.mpr ⟨mv_cW_142, List.forall_mem_cons.mpr ⟨mv_cW_143, List.forall_mem_cons.mpr ⟨mv_cW_144, List.forall_mem_cons.mpr ⟨mv_cW_145, List.forall_mem_cons.mpr ⟨mv_cW_146, List.forall_mem_cons.mpr ⟨mv_cW_147, List.forall_mem_cons.mpr ⟨mv_cW_148, List.forall_mem_cons.mpr ⟨mv_cW_149, List.forall_mem_cons.mpr ⟨mv_cW_150, List.forall_mem_cons.mpr ⟨mv_cW_151, fun _ h => absurd h List.not_mem_nil⟩⟩⟩⟩⟩⟩⟩⟩⟩⟩⟩⟩⟩⟩⟩⟩⟩⟩⟩⟩⟩⟩⟩⟩⟩⟩⟩⟩⟩⟩⟩⟩⟩⟩⟩⟩⟩⟩⟩⟩⟩⟩⟩⟩⟩⟩⟩⟩⟩⟩⟩⟩⟩⟩⟩⟩⟩⟩⟩⟩⟩⟩⟩⟩⟩⟩⟩⟩⟩⟩⟩⟩⟩⟩⟩⟩⟩⟩⟩⟩⟩⟩⟩⟩⟩⟩⟩⟩⟩⟩⟩⟩⟩⟩⟩⟩⟩⟩⟩⟩⟩⟩⟩⟩⟩⟩⟩⟩⟩⟩⟩⟩⟩⟩⟩⟩⟩⟩⟩⟩⟩⟩⟩⟩⟩⟩⟩⟩⟩⟩⟩⟩⟩⟩⟩⟩⟩⟩⟩⟩⟩⟩⟩⟩
theorem mv_cV_in : mv_pV.all (fun q => decide (q.2.2 ∈ mv_cLs)) = true := by decide +kernel
theorem mv_cS_in : mv_pS.all (fun q => decide (q.2.2.1 ∈ mv_cLs)) = true := by decide +kernel
def mv_wK (c : Nat) : List Cond := u_ws (mv_cn c) (mv_fT c) (mv_nf c)
def mv_qK_0 : List (Nat × List Nat) := [(0, [168, 170, 172]), (1, [108, 110, 112, 114, 116, 118, 120, 122, 124, 126, 128, 130, 132, 134, 136, 138]), (2, [148, 150, 152]), (3, [192, 194, 196]), (4, [210, 212, 214, 216]), (5, [55, 57]), (6, [230, 232, 234, 236, 238, 240, 242, 244, 246, 248, 250]), (7, [635, 637, 639, 641, 643, 645, 647, 649, 651, 653, 655, 657, 659, 661, 663, 665, 667, 669, 671, 673, 675, 677, 679, 681, 683, 685])]
theorem mv_qK_k0 : mv_qK_0.all (mv_ck mv_wK) = true := by decide +kernel
theorem mv_qK_ok : ∀ q ∈ (mv_qK_0).map Prod.fst, ∀ w ∈ mv_wK q, w ∈ mv_T := mv_ck_ok (mv_qK_k0)
def mv_wA (_ : Nat) : List Cond := [.methodLink RX1 58 arraycopyName, .native arraycopyName, .static arraycopyName, .initialized "java/lang/System"]
def mv_qA_0 : List (Nat × List Nat) := [(0, [363, 365, 364, 35])]
theorem mv_qA_k0 : mv_qA_0.all (mv_ck mv_wA) = true := by decide +kernel
theorem mv_qA_ok : ∀ q ∈ (mv_qA_0).map Prod.fst, ∀ w ∈ mv_wA q, w ∈ mv_T := mv_ck_ok (mv_qA_k0)
def mv_pN : List (Nat × Nat × Nat × Nat) := [(1, 96, 84, 1), (2, 29, 84, 1), (3, 23, 84, 1), (5, 23, 84, 1)]
theorem mv_pN_eq : mv_pN = mv_pS.filter (fun q => decide (q.2.2.2 = 1)) := by decide +kernel
def mv_wN (q : Nat × Nat × Nat × Nat) : Cond := .methodLinkNest (mv_cn q.1) q.2.1 (mv_m q.2.2.1).1 RX6
theorem mv_pN_in : mv_pN.map mv_wN = ([341, 316, 471, 279] : List Nat).filterMap (fun i => lw_tbl[i]?) := by decide +kernel
theorem mv_pN_tbl : ∀ q ∈ mv_pN, mv_wN q ∈ lw_tbl := by
  intro q hq
  have h : mv_wN q ∈ mv_pN.map mv_wN := List.mem_map.mpr ⟨q, hq, rfl⟩
  rw [mv_pN_in] at h
  obtain ⟨i, -, hi⟩ := List.mem_filterMap.mp h
  exact List.mem_of_getElem? hi
def mv_N (U : State) : Prop := ∀ q ∈ mv_pN, va_Nw (mv_wN q) U
