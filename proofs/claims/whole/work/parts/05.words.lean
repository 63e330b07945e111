theorem zOKs_cut {y k : Nat} {l : List (Nat × zRow)} (h1 : zOKs y ((l.drop k).take 40) = true) (h2 : zOKs y (l.drop (k + 40)) = true) : zOKs y (l.drop k) = true := by
  unfold zOKs at *
  rw [← List.take_append_drop 40 (l.drop k), List.all_append, h1, List.drop_drop, h2]
  rfl
theorem zok187 : zOKs 187 zp187 = true := (by
  have h : zOKs 187 (zp187.drop 0) = true := (zOKs_cut zok187_0 (zOKs_cut zok187_1 (zOKs_cut zok187_2 (zOKs_cut zok187_3 (zOKs_cut zok187_4 (zOKs_cut zok187_5 (zOKs_cut zok187_6 (zOKs_cut zok187_7 (zOKs_cut zok187_8 (zOKs_cut zok187_9 (zOKs_cut zok187_10 (zOKs_cut zok187_11 (zOKs_cut zok187_12 (by decide +kernel : zOKs 187 (zp187.drop 520) = true))))))))))))))
  rw [List.drop_zero] at h
  exact h)
/-- places of a method's words: its code, what it is, whom it selects, its class; then of each kind of object: its fields, that it can be made, its class -/
def zMw : List (Nat × Nat × Nat × Nat) := [
  (202, 201, 0, 68),
  (336, 334, 335, 68),
  (756, 754, 755, 68),
  (114, 113, 0, 66),
  (378, 376, 377, 66),
  (481, 479, 480, 66),
  (428, 426, 427, 66),
  (437, 435, 436, 66),
  (461, 459, 460, 66),
  (530, 528, 529, 66),
  (465, 464, 8, 66),
  (351, 349, 350, 66),
  (493, 491, 492, 66),
  (457, 456, 7, 66),
  (634, 632, 633, 66),
  (453, 451, 452, 66),
  (489, 487, 488, 66),
  (622, 620, 621, 66),
  (719, 717, 718, 66),
  (510, 508, 509, 66),
  (505, 503, 504, 66),
  (501, 499, 500, 66),
  (630, 628, 629, 66),
  (657, 655, 656, 66),
  (671, 669, 670, 66),
  (518, 516, 517, 66),
  (649, 647, 648, 66),
  (653, 651, 652, 66),
  (728, 726, 727, 66),
  (584, 582, 583, 66),
  (588, 587, 14, 66),
  (601, 600, 17, 66),
  (593, 592, 15, 66),
  (597, 596, 16, 66),
  (240, 239, 0, 70),
  (386, 384, 385, 70),
  (332, 330, 331, 70),
  (328, 326, 327, 70),
  (324, 322, 323, 70),
  (735, 734, 0, 70),
  (740, 738, 739, 70),
  (256, 255, 0, 71),
  (401, 399, 400, 71),
  (406, 405, 0, 71),
  (416, 415, 2, 71),
  (420, 419, 3, 71),
  (441, 440, 6, 71),
  (424, 423, 4, 71),
  (432, 431, 5, 71),
  (410, 409, 1, 71),
  (88, 87, 0, 64),
  (340, 338, 339, 64),
  (365, 363, 364, 64),
  (449, 447, 448, 64),
  (445, 443, 444, 64),
  (497, 495, 496, 64),
  (526, 524, 525, 64),
  (485, 483, 484, 64),
  (538, 536, 537, 64),
  (542, 541, 9, 64),
  (572, 570, 571, 64),
  (222, 221, 0, 69),
  (763, 762, 0, 69),
  (767, 765, 766, 69),
  (94, 93, 0, 65),
  (369, 367, 368, 65),
  (374, 372, 373, 65),
  (609, 607, 608, 65),
  (344, 342, 343, 65),
  (166, 165, 0, 67),
  (382, 380, 381, 67),
  (675, 673, 674, 67),
  (684, 682, 683, 67),
  (580, 578, 579, 67),
  (689, 687, 688, 67),
  (701, 699, 700, 67),
  (694, 693, 19, 67),
  (710, 708, 709, 67),
  (356, 354, 355, 67),
  (272, 271, 0, 72),
  (576, 574, 575, 72),
  (552, 550, 551, 72),
  (618, 616, 617, 72),
  (556, 555, 10, 72),
  (560, 559, 11, 72),
  (564, 563, 12, 72),
  (568, 567, 13, 72),
  (80, 79, 0, 63),
  (320, 318, 319, 63),
  (390, 388, 389, 63),
  (397, 395, 396, 63),
  (469, 467, 468, 63),
  (477, 475, 476, 63),
  (514, 512, 513, 63),
  (522, 520, 521, 63),
  (534, 532, 533, 63),
  (548, 546, 547, 63),
  (605, 603, 604, 63),
  (614, 612, 613, 63),
  (626, 624, 625, 63),
  (639, 637, 638, 63),
  (645, 643, 644, 63),
  (666, 664, 665, 63),
  (680, 678, 679, 63),
  (706, 704, 705, 63),
  (714, 712, 713, 63),
  (723, 721, 722, 63),
  (732, 730, 731, 63),
  (744, 742, 743, 63),
  (748, 746, 747, 63),
  (752, 750, 751, 63),
  (760, 758, 759, 63),
  (772, 770, 771, 63),
  (393, 392, 0, 63),
  (662, 661, 18, 63),
  (778, 777, 0, 73),
  (844, 843, 0, 73),
  (903, 902, 31, 73),
  (895, 894, 29, 73),
  (927, 926, 35, 73),
  (855, 854, 0, 73),
  (848, 847, 20, 73),
  (1083, 1082, 60, 73),
  (1087, 1086, 61, 73),
  (907, 906, 32, 73),
  (1035, 1034, 55, 73),
  (935, 934, 37, 73),
  (943, 942, 39, 73),
  (939, 938, 38, 73),
  (995, 994, 48, 73),
  (991, 990, 47, 73),
  (999, 998, 49, 73),
  (987, 986, 46, 73),
  (983, 982, 45, 73),
  (1023, 1022, 53, 73),
  (1019, 1018, 52, 73),
  (841, 839, 840, 73),
  (852, 850, 851, 73),
  (899, 898, 30, 73),
  (911, 910, 33, 73),
  (919, 918, 34, 73),
  (891, 890, 28, 73),
  (859, 857, 858, 73),
  (915, 913, 914, 73),
  (931, 930, 36, 73),
  (947, 946, 40, 73),
  (923, 921, 922, 73),
  (955, 954, 41, 73),
  (951, 949, 950, 73),
  (963, 962, 42, 73),
  (959, 957, 958, 73),
  (975, 974, 44, 73),
  (971, 970, 43, 73),
  (967, 965, 966, 73),
  (1007, 1006, 51, 73),
  (1003, 1002, 50, 73),
  (979, 977, 978, 73),
  (1011, 1009, 1010, 73),
  (1015, 1013, 1014, 73),
  (1031, 1030, 54, 73),
  (1027, 1025, 1026, 73),
  (1039, 1037, 1038, 73),
  (1047, 1046, 56, 73),
  (1043, 1041, 1042, 73),
  (1055, 1054, 57, 73),
  (1051, 1049, 1050, 73),
  (1063, 1062, 58, 73),
  (1059, 1057, 1058, 73),
  (1071, 1070, 59, 73),
  (1067, 1065, 1066, 73),
  (1075, 1073, 1074, 73),
  (1079, 1077, 1078, 73),
  (1091, 1089, 1090, 73),
  (1096, 1094, 1095, 73),
  (875, 874, 24, 73),
  (883, 882, 26, 73),
  (871, 870, 23, 73),
  (879, 878, 25, 73),
  (887, 886, 27, 73),
  (867, 866, 22, 73),
  (863, 862, 21, 73),
  (1100, 1098, 1099, 73),
  (1104, 1102, 1103, 73),
  (1108, 1106, 1107, 73),
  (1112, 1110, 1111, 73),
  (697, 696, 0, 75),
  (361, 360, 0, 75)
  ]
def zCw : List (List Nat × Nat × Nat) := [([211, 213, 215], 199, 68), ([145, 147, 149, 151, 153, 155, 157, 159], 111, 66), ([247, 249], 237, 70), ([263, 265], 253, 71), ([189, 191, 193, 195], 85, 64), ([230, 232], 219, 69), ([104, 106], 91, 65), ([172, 174, 176], 163, 67), ([281, 283, 285, 287, 289], 269, 72), ([300, 302, 304, 306, 308, 310, 312, 314], 77, 63), ([799, 801, 803, 805, 807, 809, 811, 813, 815, 817, 819, 821, 823, 825, 827, 829, 831, 833, 835], 775, 73)]
def zMk (y : Nat) : Bool :=
  (if zSt y then zw (zMw.getD y (0, 0, 0, 0)).2.1 (.static (zN y)) && goodWord (.static (zN y))
    else zw (zMw.getD y (0, 0, 0, 0)).2.1 (.instanceMethod (zN y)) && goodWord (.instanceMethod (zN y)) && (zini y || (zw (zMw.getD y (0, 0, 0, 0)).2.2.1 (.selects (zOw y) (zN y) (zN y)) && goodWord (.selects (zOw y) (zN y) (zN y))))) &&
  zw (zMw.getD y (0, 0, 0, 0)).2.2.2 (.initialized (zOw y)) && goodWord (.initialized (zOw y)) && decide ((zN y).cls ≠ "java/lang/invoke/MethodHandle") && decide ((zN y).cls ≠ "java/lang/invoke/VarHandle") &&
  decide ((parseMethodDescriptor (zN y).desc).map (fun d => d.parameters.length) = some (zA y - (if zSt y then 0 else 1))) && plainFor (zN y) && (zSt y || (decide (zCn y < 11) && decide (zCl (zCn y) = zOw y) && decide (1 ≤ zA y)))
theorem zMk_all : (List.range 186).all zMk = true := by decide +kernel
/-- the words of a kind of object -/
def zCk (c : Nat) : Bool := match zcl[c]? with
  | some q => ((List.range q.2.2).all fun k => zw ((zCw.getD c ([], 0, 0)).1.getD k 0) (u_lay q.1 q.2.1 k) && goodWord (u_lay q.1 q.2.1 k)) && decide (q.2.2 = zNf c) && zw (zCw.getD c ([], 0, 0)).2.1 (.instantiable q.1 q.2.2) && goodWord (.instantiable q.1 q.2.2) && zw (zCw.getD c ([], 0, 0)).2.2 (.initialized q.1) && goodWord (.initialized q.1)
  | none => false
theorem zCk_all : ∀ c, c < 11 → zCk c = true := by decide +kernel
/-- what the fields hold, as numbers and as types -/
def zTk (c : Nat) : Bool := match zcl[c]? with
  | some q => (List.range q.2.2).all fun k => match zFk c k with
    | 0 => decide (parseFieldDescriptor (q.2.1 k).2.2.1 = some .int)
    | 1 => decide (parseFieldDescriptor (q.2.1 k).2.2.1 = some .boolean)
    | _ => match parseFieldDescriptor (q.2.1 k).2.2.1 with
      | some (.object _) => true
      | some (.array _) => true
      | _ => false
  | none => false
theorem zTk_all : ∀ c, c < 11 → zTk c = true := by decide +kernel
theorem zw_int : zw 109 (.arrayClass .int) = true := by decide +kernel
theorem zw_bool : zw 235 (.arrayClass .boolean) = true := by decide +kernel
theorem zw_over : zw 205 (.arrayOver (.object "FiveInks$Sheet")) = true := by decide +kernel
theorem zw_oi : zw 82 (.instanceMethod objectInit) = true := by decide +kernel
theorem zw_oc : zw 83 (.code objectInit ⟨#[0xb1]⟩ 1 none) = true := by decide +kernel
theorem zw_si : zw 74 (.initialized "java/lang/System") = true := by decide +kernel
theorem zw_ss : zw 346 (.static arraycopyName) = true := by decide +kernel
theorem zw_sn : zw 347 (.native arraycopyName) = true := by decide +kernel
theorem zw_mi : zw 75 (.initialized "java/lang/Math") = true := by decide +kernel
theorem zw_ms : zw 360 (.static Lib.Math.min.name) = true := by decide +kernel
theorem zw_mc : zw 361 (.code Lib.Math.min.name Lib.Math.min.code 2 (some .int)) = true := by decide +kernel
def zAOK : Nat → List (List (Nat × zRow)) → Prop
  | _, [] => True
  | k, l :: ls => zOKs k l = true ∧ zAOK (k + 1) ls
theorem zAOK_all : zAOK 0 zPr := ⟨zok0, zok1, zok2, zok3, zok4, zok5, zok6, zok7, zok8, zok9, zok10, zok11, zok12, zok13, zok14, zok15, zok16, zok17, zok18, zok19, zok20, zok21, zok22, zok23, zok24, zok25, zok26, zok27, zok28, zok29, zok30, zok31, zok32, zok33, zok34, zok35, zok36, zok37, zok38, zok39, zok40, zok41, zok42, zok43, zok44, zok45, zok46, zok47, zok48, zok49, zok50, zok51, zok52, zok53, zok54, zok55, zok56, zok57, zok58, zok59, zok60, zok61, zok62, zok63, zok64, zok65, zok66, zok67, zok68, zok69, zok70, zok71, zok72, zok73, zok74, zok75, zok76, zok77, zok78, zok79, zok80, zok81, zok82, zok83, zok84, zok85, zok86, zok87, zok88, zok89, zok90, zok91, zok92, zok93, zok94, zok95, zok96, zok97, zok98, zok99, zok100, zok101, zok102, zok103, zok104, zok105, zok106, zok107, zok108, zok109, zok110, zok111, zok112, zok113, zok114, zok115, zok116, zok117, zok118, zok119, zok120, zok121, zok122, zok123, zok124, zok125, zok126, zok127, zok128, zok129, zok130, zok131, zok132, zok133, zok134, zok135, zok136, zok137, zok138, zok139, zok140, zok141, zok142, zok143, zok144, zok145, zok146, zok147, zok148, zok149, zok150, zok151, zok152, zok153, zok154, zok155, zok156, zok157, zok158, zok159, zok160, zok161, zok162, zok163, zok164, zok165, zok166, zok167, zok168, zok169, zok170, zok171, zok172, zok173, zok174, zok175, zok176, zok177, zok178, zok179, zok180, zok181, zok182, zok183, zok184, zok185, zok186, zok187, trivial⟩
theorem zAOK_get : ∀ (ls : List (List (Nat × zRow))) (k i : Nat) (l : List (Nat × zRow)), zAOK k ls → ls[i]? = some l → zOKs (k + i) l = true
  | [], _, i, _, _, h => by simp at h
  | a :: ls, k, 0, l, hk, h => by
    have h1 : a = l := by simpa using h
    rw [← h1]
    exact hk.1
  | a :: ls, k, i + 1, l, hk, h => by
    have h1 := zAOK_get ls (k + 1) i l hk.2 (by simpa using h)
    rw [show k + (i + 1) = k + 1 + i by omega]
    exact h1
theorem zT_ok {y pc : Nat} {r : zRow} (h : zT y pc = some r) : zOK y pc r = true := by
  unfold zT at h
  have hm := zlk_mem _ _ _ h
  rw [List.getD_eq_getElem?_getD] at hm
  cases e : zPr[y]? with
  | none => rw [e] at hm; simp at hm
  | some l =>
    rw [e] at hm
    have h1 := zAOK_get zPr 0 y l zAOK_all e
    rw [Nat.zero_add] at h1
    unfold zOKs at h1
    have h2 := List.all_eq_true.mp h1 (pc, r) hm
    exact h2
