theorem zOKs_cut {y k : Nat} {l : List (Nat × zRow)} (h1 : zOKs y ((l.drop k).take 40) = true) (h2 : zOKs y (l.drop (k + 40)) = true) : zOKs y (l.drop k) = true := by
  unfold zOKs at *
  rw [← List.take_append_drop 40 (l.drop k), List.all_append, h1, List.drop_drop, h2]
  rfl
theorem zok188 : zOKs 188 zp188 = true := (by
  have h : zOKs 188 (zp188.drop 0) = true := (zOKs_cut zok188_0 (zOKs_cut zok188_1 (zOKs_cut zok188_2 (zOKs_cut zok188_3 (zOKs_cut zok188_4 (zOKs_cut zok188_5 (zOKs_cut zok188_6 (zOKs_cut zok188_7 (zOKs_cut zok188_8 (zOKs_cut zok188_9 (zOKs_cut zok188_10 (zOKs_cut zok188_11 (by decide +kernel : zOKs 188 (zp188.drop 480) = true)))))))))))))
  rw [List.drop_zero] at h
  exact h)
/-- places of a method's words: its code, what it is, whom it selects, its class; then of each kind of object: its fields, that it can be made, its class -/
def zMw : List (Nat × Nat × Nat × Nat) := [
  (202, 201, 0, 68),
  (336, 334, 335, 68),
  (759, 757, 758, 68),
  (114, 113, 0, 66),
  (378, 376, 377, 66),
  (481, 479, 480, 66),
  (428, 426, 427, 66),
  (437, 435, 436, 66),
  (461, 459, 460, 66),
  (530, 528, 529, 66),
  (465, 464, 8, 66),
  (351, 349, 350, 66),
  (493, 491, 492, 66),
  (457, 456, 7, 66),
  (634, 632, 633, 66),
  (453, 451, 452, 66),
  (489, 487, 488, 66),
  (622, 620, 621, 66),
  (719, 717, 718, 66),
  (510, 508, 509, 66),
  (505, 503, 504, 66),
  (501, 499, 500, 66),
  (630, 628, 629, 66),
  (657, 655, 656, 66),
  (671, 669, 670, 66),
  (518, 516, 517, 66),
  (649, 647, 648, 66),
  (653, 651, 652, 66),
  (728, 726, 727, 66),
  (584, 582, 583, 66),
  (588, 587, 14, 66),
  (601, 600, 17, 66),
  (593, 592, 15, 66),
  (597, 596, 16, 66),
  (240, 239, 0, 70),
  (386, 384, 385, 70),
  (332, 330, 331, 70),
  (328, 326, 327, 70),
  (324, 322, 323, 70),
  (735, 734, 0, 70),
  (743, 741, 742, 70),
  (256, 255, 0, 71),
  (401, 399, 400, 71),
  (406, 405, 0, 71),
  (416, 415, 2, 71),
  (420, 419, 3, 71),
  (441, 440, 6, 71),
  (424, 423, 4, 71),
  (432, 431, 5, 71),
  (410, 409, 1, 71),
  (88, 87, 0, 64),
  (340, 338, 339, 64),
  (365, 363, 364, 64),
  (449, 447, 448, 64),
  (445, 443, 444, 64),
  (497, 495, 496, 64),
  (526, 524, 525, 64),
  (485, 483, 484, 64),
  (538, 536, 537, 64),
  (542, 541, 9, 64),
  (572, 570, 571, 64),
  (222, 221, 0, 69),
  (766, 765, 0, 69),
  (770, 768, 769, 69),
  (94, 93, 0, 65),
  (369, 367, 368, 65),
  (374, 372, 373, 65),
  (609, 607, 608, 65),
  (344, 342, 343, 65),
  (166, 165, 0, 67),
  (382, 380, 381, 67),
  (675, 673, 674, 67),
  (684, 682, 683, 67),
  (580, 578, 579, 67),
  (689, 687, 688, 67),
  (701, 699, 700, 67),
  (694, 693, 19, 67),
  (710, 708, 709, 67),
  (356, 354, 355, 67),
  (272, 271, 0, 72),
  (576, 574, 575, 72),
  (552, 550, 551, 72),
  (618, 616, 617, 72),
  (556, 555, 10, 72),
  (560, 559, 11, 72),
  (564, 563, 12, 72),
  (568, 567, 13, 72),
  (80, 79, 0, 63),
  (320, 318, 319, 63),
  (390, 388, 389, 63),
  (397, 395, 396, 63),
  (469, 467, 468, 63),
  (477, 475, 476, 63),
  (514, 512, 513, 63),
  (522, 520, 521, 63),
  (534, 532, 533, 63),
  (548, 546, 547, 63),
  (605, 603, 604, 63),
  (614, 612, 613, 63),
  (626, 624, 625, 63),
  (639, 637, 638, 63),
  (645, 643, 644, 63),
  (666, 664, 665, 63),
  (680, 678, 679, 63),
  (706, 704, 705, 63),
  (714, 712, 713, 63),
  (723, 721, 722, 63),
  (732, 730, 731, 63),
  (747, 745, 746, 63),
  (751, 749, 750, 63),
  (755, 753, 754, 63),
  (763, 761, 762, 63),
  (775, 773, 774, 63),
  (393, 392, 0, 63),
  (662, 661, 18, 63),
  (781, 780, 0, 73),
  (847, 846, 0, 73),
  (906, 905, 31, 73),
  (898, 897, 29, 73),
  (930, 929, 35, 73),
  (858, 857, 0, 73),
  (851, 850, 20, 73),
  (1086, 1085, 60, 73),
  (1090, 1089, 61, 73),
  (910, 909, 32, 73),
  (1038, 1037, 55, 73),
  (938, 937, 37, 73),
  (946, 945, 39, 73),
  (942, 941, 38, 73),
  (998, 997, 48, 73),
  (994, 993, 47, 73),
  (1002, 1001, 49, 73),
  (990, 989, 46, 73),
  (986, 985, 45, 73),
  (1026, 1025, 53, 73),
  (1022, 1021, 52, 73),
  (844, 842, 843, 73),
  (855, 853, 854, 73),
  (902, 901, 30, 73),
  (914, 913, 33, 73),
  (922, 921, 34, 73),
  (894, 893, 28, 73),
  (862, 860, 861, 73),
  (918, 916, 917, 73),
  (934, 933, 36, 73),
  (950, 949, 40, 73),
  (926, 924, 925, 73),
  (958, 957, 41, 73),
  (954, 952, 953, 73),
  (966, 965, 42, 73),
  (962, 960, 961, 73),
  (978, 977, 44, 73),
  (974, 973, 43, 73),
  (970, 968, 969, 73),
  (1010, 1009, 51, 73),
  (1006, 1005, 50, 73),
  (982, 980, 981, 73),
  (1014, 1012, 1013, 73),
  (1018, 1016, 1017, 73),
  (1034, 1033, 54, 73),
  (1030, 1028, 1029, 73),
  (1042, 1040, 1041, 73),
  (1050, 1049, 56, 73),
  (1046, 1044, 1045, 73),
  (1058, 1057, 57, 73),
  (1054, 1052, 1053, 73),
  (1066, 1065, 58, 73),
  (1062, 1060, 1061, 73),
  (1074, 1073, 59, 73),
  (1070, 1068, 1069, 73),
  (1078, 1076, 1077, 73),
  (1082, 1080, 1081, 73),
  (1094, 1092, 1093, 73),
  (1099, 1097, 1098, 73),
  (878, 877, 24, 73),
  (886, 885, 26, 73),
  (874, 873, 23, 73),
  (882, 881, 25, 73),
  (890, 889, 27, 73),
  (870, 869, 22, 73),
  (866, 865, 21, 73),
  (1103, 1101, 1102, 73),
  (1107, 1105, 1106, 73),
  (1111, 1109, 1110, 73),
  (1115, 1113, 1114, 73),
  (697, 696, 0, 75),
  (738, 737, 0, 70),
  (361, 360, 0, 75)
  ]
def zCw : List (List Nat × Nat × Nat) := [([211, 213, 215], 199, 68), ([145, 147, 149, 151, 153, 155, 157, 159], 111, 66), ([247, 249], 237, 70), ([263, 265], 253, 71), ([189, 191, 193, 195], 85, 64), ([230, 232], 219, 69), ([104, 106], 91, 65), ([172, 174, 176], 163, 67), ([281, 283, 285, 287, 289], 269, 72), ([300, 302, 304, 306, 308, 310, 312, 314], 77, 63), ([802, 804, 806, 808, 810, 812, 814, 816, 818, 820, 822, 824, 826, 828, 830, 832, 834, 836, 838], 778, 73)]
def zMk (y : Nat) : Bool :=
  (if zSt y then zw (zMw.getD y (0, 0, 0, 0)).2.1 (.static (zN y)) && goodWord (.static (zN y))
    else zw (zMw.getD y (0, 0, 0, 0)).2.1 (.instanceMethod (zN y)) && goodWord (.instanceMethod (zN y)) && (zini y || (zw (zMw.getD y (0, 0, 0, 0)).2.2.1 (.selects (zOw y) (zN y) (zN y)) && goodWord (.selects (zOw y) (zN y) (zN y))))) &&
  zw (zMw.getD y (0, 0, 0, 0)).2.2.2 (.initialized (zOw y)) && goodWord (.initialized (zOw y)) && decide ((zN y).cls ≠ "java/lang/invoke/MethodHandle") && decide ((zN y).cls ≠ "java/lang/invoke/VarHandle") &&
  decide ((parseMethodDescriptor (zN y).desc).map (fun d => d.parameters.length) = some (zA y - (if zSt y then 0 else 1))) && plainFor (zN y) && (zSt y || (decide (zCn y < 11) && decide (zCl (zCn y) = zOw y) && decide (1 ≤ zA y)))
theorem zMk_all : (List.range 187).all zMk = true := by decide +kernel
/-- the words of a kind of object -/
def zCk (c : Nat) : Bool := match zcl[c]? with
  | some q => ((List.range q.2.2).all fun k => zw ((zCw.getD c ([], 0, 0)).1.getD k 0) (u_lay q.1 q.2.1 k) && goodWord (u_lay q.1 q.2.1 k)) && decide (q.2.2 = zNf c) && zw (zCw.getD c ([], 0, 0)).2.1 (.instantiable q.1 q.2.2) && goodWord (.instantiable q.1 q.2.2) && zw (zCw.getD c ([], 0, 0)).2.2 (.initialized q.1) && goodWord (.initialized q.1)
  | none => false
theorem zCk_all : ∀ c, c < 11 → zCk c = true := by decide +kernel
/-- what the fields hold, as numbers and as types -/
def zTk (c : Nat) : Bool := match zcl[c]? with
  | some q => (List.range q.2.2).all fun k => match zFk c k with
    | 0 => decide (parseFieldDescriptor (q.2.1 k).2.2.1 = some .int)
    | 1 => decide (parseFieldDescriptor (q.2.1 k).2.2.1 = some .boolean)
    | _ => match parseFieldDescriptor (q.2.1 k).2.2.1 with
      | some (.object _) => true
      | some (.array _) => true
      | _ => false
  | none => false
theorem zTk_all : ∀ c, c < 11 → zTk c = true := by decide +kernel
theorem zw_int : zw 109 (.arrayClass .int) = true := by decide +kernel
theorem zw_bool : zw 235 (.arrayClass .boolean) = true := by decide +kernel
theorem zw_over : zw 205 (.arrayOver (.object "FiveInks$Sheet")) = true := by decide +kernel
theorem zw_oi : zw 82 (.instanceMethod objectInit) = true := by decide +kernel
theorem zw_oc : zw 83 (.code objectInit ⟨#[0xb1]⟩ 1 none) = true := by decide +kernel
theorem zw_si : zw 74 (.initialized "java/lang/System") = true := by decide +kernel
theorem zw_ss : zw 346 (.static arraycopyName) = true := by decide +kernel
theorem zw_sn : zw 347 (.native arraycopyName) = true := by decide +kernel
theorem zw_mi : zw 75 (.initialized "java/lang/Math") = true := by decide +kernel
theorem zw_ms : zw 360 (.static Lib.Math.min.name) = true := by decide +kernel
theorem zw_mc : zw 361 (.code Lib.Math.min.name Lib.Math.min.code 2 (some .int)) = true := by decide +kernel
def zAOK : Nat → List (List (Nat × zRow)) → Prop
  | _, [] => True
  | k, l :: ls => zOKs k l = true ∧ zAOK (k + 1) ls
theorem zAOK_all : zAOK 0 zPr := ⟨zok0, zok1, zok2, zok3, zok4, zok5, zok6, zok7, zok8, zok9, zok10, zok11, zok12, zok13, zok14, zok15, zok16, zok17, zok18, zok19, zok20, zok21, zok22, zok23, zok24, zok25, zok26, zok27, zok28, zok29, zok30, zok31, zok32, zok33, zok34, zok35, zok36, zok37, zok38, zok39, zok40, zok41, zok42, zok43, zok44, zok45, zok46, zok47, zok48, zok49, zok50, zok51, zok52, zok53, zok54, zok55, zok56, zok57, zok58, zok59, zok60, zok61, zok62, zok63, zok64, zok65, zok66, zok67, zok68, zok69, zok70, zok71, zok72, zok73, zok74, zok75, zok76, zok77, zok78, zok79, zok80, zok81, zok82, zok83, zok84, zok85, zok86, zok87, zok88, zok89, zok90, zok91, zok92, zok93, zok94, zok95, zok96, zok97, zok98, zok99, zok100, zok101, zok102, zok103, zok104, zok105, zok106, zok107, zok108, zok109, zok110, zok111, zok112, zok113, zok114, zok115, zok116, zok117, zok118, zok119, zok120, zok121, zok122, zok123, zok124, zok125, zok126, zok127, zok128, zok129, zok130, zok131, zok132, zok133, zok134, zok135, zok136, zok137, zok138, zok139, zok140, zok141, zok142, zok143, zok144, zok145, zok146, zok147, zok148, zok149, zok150, zok151, zok152, zok153, zok154, zok155, zok156, zok157, zok158, zok159, zok160, zok161, zok162, zok163, zok164, zok165, zok166, zok167, zok168, zok169, zok170, zok171, zok172, zok173, zok174, zok175, zok176, zok177, zok178, zok179, zok180, zok181, zok182, zok183, zok184, zok185, zok186, zok187, zok188, trivial⟩
theorem zAOK_get : ∀ (ls : List (List (Nat × zRow))) (k i : Nat) (l : List (Nat × zRow)), zAOK k ls → ls[i]? = some l → zOKs (k + i) l = true
  | [], _, i, _, _, h => by simp at h
  | a :: ls, k, 0, l, hk, h => by
    have h1 : a = l := by simpa using h
    rw [← h1]
    exact hk.1
  | a :: ls, k, i + 1, l, hk, h => by
    have h1 := zAOK_get ls (k + 1) i l hk.2 (by simpa using h)
    rw [show k + (i + 1) = k + 1 + i by omega]
    exact h1
theorem zT_ok {y pc : Nat} {r : zRow} (h : zT y pc = some r) : zOK y pc r = true := by
  unfold zT at h
  have hm := zlk_mem _ _ _ h
  rw [List.getD_eq_getElem?_getD] at hm
  cases e : zPr[y]? with
  | none => rw [e] at hm; simp at hm
  | some l =>
    rw [e] at hm
    have h1 := zAOK_get zPr 0 y l zAOK_all e
    rw [Nat.zero_add] at h1
    unfold zOKs at h1
    have h2 := List.all_eq_true.mp h1 (pc, r) hm
    exact h2
