/-! sheets: where one begins; facts of every one of them -/
def zSbL : List Nat := [2, 19, 34, 49, 64, 79, 94, 112, 127]
def zSb (b : Nat) : Bool := zSbL.contains b
theorem zbase {b : Nat} (h : zSb b = true) (f : Nat → Bool) (hf : zSbL.all f = true) : f b = true := by
  unfold zSb at h
  exact List.all_eq_true.mp hf b (by simpa using h)
theorem zSb_ne {b : Nat} (h : zSb b = true) : b ≠ 0 := by
  have h1 := zbase h (fun b => b != 0) (by decide)
  simpa using h1
def zKb (t c : Nat) : Bool := (t != 0) && (zK0.getD t 50 == c + 3)
theorem zcok_recv {k t : Nat} {st : List Value} (h : zKb t (zCn k) = true) (h1 : decide (zA k ≤ st.length ∧ ((st.drop (zA k)).map fun v => v.category).sum ≤ 8 ∧ k < 187 ∧ (zEn k (st.take (zA k)).reverse).length = zL k) = true) (h2 : (st.take (zA k)).getLast? = some (.ref t)) : zcok k st = true := by
  unfold zcok
  rw [h1]
  unfold zrcv
  rw [h2]
  unfold zKb at h
  simp only [Bool.and_eq_true, bne_iff_ne, beq_iff_eq] at h
  have h3 : zKi (zk fun _ _ => 0) t = zCn k + 3 := h.2
  dsimp only
  rw [decide_eq_true h.1, decide_eq_true h3]
  simp
theorem zcb_m6 : (Int8.ofInt (-6)).toInt32 = (-6) := by decide
theorem zcb_m5 : (Int8.ofInt (-5)).toInt32 = (-5) := by decide
theorem zcb_m4 : (Int8.ofInt (-4)).toInt32 = (-4) := by decide
theorem zcb_m3 : (Int8.ofInt (-3)).toInt32 = (-3) := by decide
theorem zcb_m2 : (Int8.ofInt (-2)).toInt32 = (-2) := by decide
theorem zcb_6 : (Int8.ofInt 6).toInt32 = 6 := by decide
theorem zcb_8 : (Int8.ofInt 8).toInt32 = 8 := by decide
theorem zcb_9 : (Int8.ofInt 9).toInt32 = 9 := by decide
theorem zcb_10 : (Int8.ofInt 10).toInt32 = 10 := by decide
theorem zcb_12 : (Int8.ofInt 12).toInt32 = 12 := by decide
theorem zcb_20 : (Int8.ofInt 20).toInt32 = 20 := by decide
theorem zcb_31 : (Int8.ofInt 31).toInt32 = 31 := by decide
theorem zcb_32 : (Int8.ofInt 32).toInt32 = 32 := by decide
theorem zcb_33 : (Int8.ofInt 33).toInt32 = 33 := by decide
theorem zcb_43 : (Int8.ofInt 43).toInt32 = 43 := by decide
theorem zcb_44 : (Int8.ofInt 44).toInt32 = 44 := by decide
theorem zcb_45 : (Int8.ofInt 45).toInt32 = 45 := by decide
theorem zcb_48 : (Int8.ofInt 48).toInt32 = 48 := by decide
theorem zcb_57 : (Int8.ofInt 57).toInt32 = 57 := by decide
theorem zcb_58 : (Int8.ofInt 58).toInt32 = 58 := by decide
theorem zcb_60 : (Int8.ofInt 60).toInt32 = 60 := by decide
theorem zcb_61 : (Int8.ofInt 61).toInt32 = 61 := by decide
theorem zcb_65 : (Int8.ofInt 65).toInt32 = 65 := by decide
theorem zcb_66 : (Int8.ofInt 66).toInt32 = 66 := by decide
theorem zcb_67 : (Int8.ofInt 67).toInt32 = 67 := by decide
theorem zcb_97 : (Int8.ofInt 97).toInt32 = 97 := by decide
theorem zcb_100 : (Int8.ofInt 100).toInt32 = 100 := by decide
theorem zcb_120 : (Int8.ofInt 120).toInt32 = 120 := by decide
theorem zcb_122 : (Int8.ofInt 122).toInt32 = 122 := by decide
theorem zcb_126 : (Int8.ofInt 126).toInt32 = 126 := by decide
theorem zci_m1 : Int32.ofInt (-1) = (-1) := by decide
theorem zci_0 : Int32.ofInt 0 = 0 := by decide
theorem zci_1 : Int32.ofInt 1 = 1 := by decide
theorem zci_2 : Int32.ofInt 2 = 2 := by decide
theorem zci_3 : Int32.ofInt 3 = 3 := by decide
theorem zci_4 : Int32.ofInt 4 = 4 := by decide
theorem zci_5 : Int32.ofInt 5 = 5 := by decide
theorem zcs_180 : (Int16.ofInt 180).toInt32 = 180 := by decide
theorem zcs_307 : (Int16.ofInt 307).toInt32 = 307 := by decide
theorem zcs_308 : (Int16.ofInt 308).toInt32 = 308 := by decide
theorem zcs_309 : (Int16.ofInt 309).toInt32 = 309 := by decide
theorem zcs_310 : (Int16.ofInt 310).toInt32 = 310 := by decide
theorem zcs_360 : (Int16.ofInt 360).toInt32 = 360 := by decide
theorem zcs_365 : (Int16.ofInt 365).toInt32 = 365 := by decide
theorem zcs_675 : (Int16.ofInt 675).toInt32 = 675 := by decide
theorem zcs_3375 : (Int16.ofInt 3375).toInt32 = 3375 := by decide
