/-! the reference's reader -/
def rat (K : Nat → Nat → Int32) (i : Nat) (b : Bool) : Nat → Nat → Int32 := zup K 160 (upd (upd (K 160) 15 (nI i)) 16 (zb b))
theorem rat_ne {K : Nat → Nat → Int32} {i t : Nat} {b : Bool} (h : t ≠ 160) : rat K i b t = K t := zup_ne h
theorem rat_15 {K : Nat → Nat → Int32} {i : Nat} {b : Bool} : rat K i b 160 15 = nI i := by
  unfold rat
  rw [zup_self, upd_at, if_neg (by decide), upd_at, if_pos rfl]
theorem rat_16 {K : Nat → Nat → Int32} {i : Nat} {b : Bool} : rat K i b 160 16 = zb b := by
  unfold rat
  rw [zup_self, upd_at, if_pos rfl]
theorem rat_k {K : Nat → Nat → Int32} {i k : Nat} {b : Bool} (h : k ≠ 15) (h2 : k ≠ 16) : rat K i b 160 k = K 160 k := by
  unfold rat
  rw [zup_self, upd_at, if_neg h2, upd_at, if_neg h]
theorem rat_2 {K : Nat → Nat → Int32} {i j : Nat} {b c : Bool} : rat (rat K i b) j c = rat K j c := by
  unfold rat
  rw [zup_self, zup_zup]
  congr 1
  funext k
  simp only [upd_at]
  by_cases e : k = 16
  · simp [e]
  · by_cases e2 : k = 15
    · simp [e2]
    · simp [e, e2]
theorem rat_s15 {K : Nat → Nat → Int32} {i j : Nat} {b : Bool} : zs1 (rat K i b) 160 15 (nI j) = rat K j b := by
  unfold rat
  rw [zs1_zup]
  congr 1
  funext k
  simp only [upd_at]
  by_cases e : k = 16
  · simp [e]
  · by_cases e2 : k = 15
    · simp [e2]
    · simp [e, e2]
theorem rat_s16 {K : Nat → Nat → Int32} {i : Nat} {b c : Bool} : zs1 (rat K i b) 160 16 (zb c) = rat K i c := by
  unfold rat
  rw [zs1_zup]
  congr 1
  funext k
  simp only [upd_at]
  by_cases e : k = 16
  · simp [e]
  · by_cases e2 : k = 15
    · simp [e2]
    · simp [e, e2]
theorem rat_s16t {K : Nat → Nat → Int32} {i : Nat} {b : Bool} : zs1 (rat K i b) 160 16 1 = rat K i true := rat_s16 (c := true)
theorem rat_s16f {K : Nat → Nat → Int32} {i : Nat} {b : Bool} : zs1 (rat K i b) 160 16 0 = rat K i false := rat_s16 (c := false)
theorem rat_s15z {K : Nat → Nat → Int32} {i : Nat} {b : Bool} : zs1 (rat K i b) 160 15 (nI i + 0) = rat K i b := by rw [z_add0, rat_s15]
theorem rat_s15p {K : Nat → Nat → Int32} {i : Nat} {b : Bool} : zs1 (rat K i b) 160 15 (nI i + 1) = rat K (i + 1) b := by rw [← nI_succ, rat_s15]
theorem rat_r {K : Nat → Nat → Int32} {i k : Nat} {b : Bool} {v : Int32} : zs1 (rat K i b) 172 k v = rat (zs1 K 172 k v) i b := by
  unfold rat zs1
  rw [zup_ne (by decide), zup_ne (by decide), zup_comm (I := K) (by decide)]
theorem rat_18 {K : Nat → Nat → Int32} {i : Nat} {b : Bool} {v : Int32} : zs1 (rat K i b) 160 18 v = rat (zs1 K 160 18 v) i b := by
  unfold rat
  rw [zs1_zup, zs1_self]
  unfold zs1
  rw [zup_zup]
  congr 1
  funext k
  simp only [upd_at]
  by_cases e : k = 18
  · simp [e]
  · by_cases e2 : k = 16
    · simp [e2]
    · by_cases e3 : k = 15
      · simp [e3]
      · simp [e, e2, e3]
theorem rat_18z {K : Nat → Nat → Int32} {i : Nat} {b : Bool} : zs1 (rat K i b) 160 18 (rat K i b 160 18 + 0) = rat K i b := by
  rw [z_add0]
  unfold zs1
  refine zup_id ?_
  funext k
  rw [upd_at]
  by_cases e : k = 18
  · rw [if_pos e, e]
  · rw [if_neg e]
/-- the pad as the reference has it -/
def mA (P : Nat → Int32) (p : Nat) (K : Nat → Nat → Int32) : Prop := K 160 8 = nI p ∧ ∀ k, k < p → K 166 k = P k
def sg (P : Nat → Int32) (p i : Nat) : Int32 := if i < p then P i else 0
theorem sg_sgn {P : Nat → Int32} {p i : Nat} {x : Int32} (hx : ¬ (0 : Int32) = x) : sg P p i = x ↔ sgn P p x i = true := by
  unfold sg sgn
  by_cases a : i < p
  · rw [if_pos a, decide_eq_true a, Bool.true_and, decide_eq_true_iff]
  · rw [if_neg a, decide_eq_false a, Bool.false_and]
    exact ⟨fun z => absurd z hx, fun z => by cases z⟩
theorem sg_dgt {P : Nat → Int32} {p i : Nat} : (decide (¬ sg P p i < 48) && decide (¬ 57 < sg P p i)) = dgt P p i := by
  unfold sg dgt
  by_cases a : i < p
  · rw [if_pos a, decide_eq_true a, Bool.true_and]
  · rw [if_neg a, decide_eq_false a, Bool.false_and]
    decide
theorem sg_dgt4 {P : Nat → Int32} {p i m : Nat} (hm : m ≤ 9) : (decide (¬ sg P p i < 48) && decide (¬ 48 + nI m < sg P p i)) = (dgt P p i && decide (dvl P i ≤ m)) := by
  have e : (48 : Int32) + nI m = nI (48 + m) := by rw [zI_add]; rfl
  rw [e]
  by_cases d : dgt P p i = true
  · obtain ⟨v1, v2⟩ := dgt_v d
    have h := dgt_lt d
    have e2 : sg P p i = nI (48 + dvl P i) := by
      unfold sg
      rw [if_pos h, zI_add, ← v1, show nI 48 = (48 : Int32) from rfl, Int32.add_comm, Int32.sub_add_cancel]
    rw [d, e2, Bool.true_and, show (48 : Int32) = nI 48 from rfl, decide_eq_true (show ¬ nI (48 + dvl P i) < nI 48 from nI_nlt (by omega) (by omega)), Bool.true_and]
    refine decide_eq_decide.mpr ?_
    rw [nI_lt_iff (by omega) (by omega)]
    omega
  · rw [Bool.eq_false_iff.mpr d, Bool.false_and, Bool.and_eq_false_iff, decide_eq_false_iff_not, decide_eq_false_iff_not, Classical.not_not, Classical.not_not]
    by_cases a : sg P p i < 48
    · exact Or.inl a
    · refine Or.inr ?_
      have h57 : (57 : Int32) < sg P p i := by
        apply Classical.byContradiction
        intro z
        refine d ?_
        rw [← sg_dgt, decide_eq_true a, decide_eq_true z]
        rfl
      exact Int32.lt_of_le_of_lt (show nI (48 + m) ≤ 57 from nI_le (b := 57) (by omega) (by decide)) h57
theorem sg_ltr {P : Nat → Int32} {p i : Nat} : (decide (¬ sg P p i < 97) && decide (¬ 122 < sg P p i)) = ltr P p i := by
  unfold sg ltr
  by_cases a : i < p
  · rw [if_pos a, decide_eq_true a, Bool.true_and]
    rfl
  · rw [if_neg a, decide_eq_false a, Bool.false_and]
    decide
def gI (P : Nat → Int32) (p i : Nat) : Int32 := match (rGap P p i).2 with
  | some v => nI v
  | none => sg P p i - 48
section R4
variable {X : Nat × (Nat → Int32)} {P : Nat → Int32} {p : Nat} {K : Nat → Nat → Int32}
theorem m174 {i : Nat} {b : Bool} (hp : p ≤ 60) (h : mA P p K) (hi : i < 1000) : zr X 174 0 [.ref 160] [] (zk (rat K i b)) = some (some (.int (sg P p i)), zk (rat K i b)) := by
  unfold sg
  rw [k174_0, rat_k (by decide) (by decide), h.1, rat_15]
  by_cases a : i < p
  · rw [if_neg (nI_ge a (by omega)), k174_11 (by rw [rat_15]; exact zin_nI (by omega) (by decide)), rat_15, zx_nI (by omega), rat_ne (by decide), h.2 i a, if_pos a]
  · rw [if_pos (nI_le (by omega) (by omega)), k174_23, if_neg a]
/-- digit -/
theorem m176f {i : Nat} {m : Int32} (hp : p ≤ 60) (h : mA P p K) (hi : i < 1000) : zr X 176 0 [.ref 160, .int m, .null] [] (zk (rat K i false)) = some (some (.int (sg P p i - 48)), zk (rat K i false)) := by
  rw [k176_0, rat_16, if_pos zb_f, k176_28, rat_s16f, m174 hp h hi, zcb_some, zn_one, k176_36, rat_16, if_pos zb_f, k176_56, rat_15, rat_s15z]
theorem m176t {i m : Nat} (hp : p ≤ 60) (h : mA P p K) (hi : i < 1000) (hm : m ≤ 9) : zr X 176 0 [.ref 160, .int (nI m), .null] [] (zk (rat K i true)) = if (dgt P p i && decide (dvl P i ≤ m)) = true then some (some (.int (nI (dvl P i))), zk (rat K (i + 1) true)) else some (some (.int (sg P p i - 48)), zk (rat K i false)) := by
  rw [k176_0, rat_16, if_neg (by decide), k176_8, m174 hp h hi, zcb_some]
  show zr X 176 12 [.ref 160, .int (nI m), .null] [.int (sg P p i), .ref 160] (zk (rat K i true)) = _
  rw [k176_12, m116, zcb_some]
  show zr X 176 21 [.ref 160, .int (nI m), .null] [.int (zb (decide (¬ sg P p i < 48) && decide (¬ 48 + nI m < sg P p i))), .ref 160] (zk (rat K i true)) = _
  rw [k176_21, sg_dgt4 hm]
  by_cases a : (dgt P p i && decide (dvl P i ≤ m)) = true
  · have d : dgt P p i = true := by
      rw [Bool.and_eq_true] at a
      exact a.1
    have e : sg P p i - 48 = nI (dvl P i) := by
      unfold sg
      rw [if_pos (dgt_lt d), (dgt_v d).1]
    rw [a, if_neg (by decide), k176_24, rat_s16t, m174 hp h hi, zcb_some, zn_one, k176_36, rat_16, if_neg (by decide), k176_52, rat_15, rat_s15p, if_pos rfl, e]
  · rw [Bool.eq_false_iff.mpr a, if_pos zb_f, k176_28, rat_s16f, m174 hp h hi, zcb_some, zn_one, k176_36, rat_16, if_pos zb_f, k176_56, rat_15, rat_s15z, if_neg (by decide)]
/-- wants -/
theorem m175f {i : Nat} {x : Int32} : zr X 175 0 [.ref 160, .int x] [] (zk (rat K i false)) = some (none, zk (rat K i false)) := by
  rw [k175_0, rat_16, if_pos zb_f, k175_20, rat_s16f, rat_16, if_pos zb_f, k175_40, rat_15, rat_s15z]
theorem m175t {i : Nat} {x : Int32} (hp : p ≤ 60) (h : mA P p K) (hi : i < 1000) (hx : ¬ (0 : Int32) = x) : zr X 175 0 [.ref 160, .int x] [] (zk (rat K i true)) = some (none, zk (if sgn P p x i = true then rat K (i + 1) true else rat K i false)) := by
  rw [k175_0, rat_16, if_neg (by decide), k175_8, m174 hp h hi, zcb_some]
  show zr X 175 12 [.ref 160, .int x] [.int (sg P p i), .ref 160] (zk (rat K i true)) = _
  rw [k175_12]
  by_cases a : sg P p i = x
  · rw [if_neg (fun z => z a), k175_16, rat_s16t, rat_16, if_neg (by decide), k175_36, rat_15, rat_s15p, if_pos ((sg_sgn hx).mp a)]
  · rw [if_pos a, k175_20, rat_s16f, rat_16, if_pos zb_f, k175_40, rat_15, rat_s15z, if_neg (fun z => a ((sg_sgn hx).mpr z))]
/-- gap -/
theorem m177f {i : Nat} (hp : p ≤ 60) (h : mA P p K) (hi : i < 1000) : zr X 177 0 [.ref 160, .null] [] (zk (rat K i false)) = some (some (.int (sg P p i - 48)), zk (rat K i false)) := by
  rw [k177_0, m176f hp h hi, zcb_some, zn_one, k177_6, rat_16, if_pos zb_f, k177_72]
theorem m177t {i : Nat} (hp : p ≤ 60) (h : mA P p K) (hi : i ≤ p) : zr X 177 0 [.ref 160, .null] [] (zk (rat K i true)) = some (some (.int (gI P p i)), zk (rat K (rGap P p i).1 (rGap P p i).2.isSome)) := by
  have m9 := m176t (X := X) (i := i) (m := 9) hp h (by omega) (by decide)
  rw [show nI 9 = (9 : Int32) from rfl] at m9
  unfold gI
  rw [k177_0, m9]
  unfold rGap
  by_cases a : dgt P p i = true
  · have h1 := dgt_lt a
    have h2 := (dgt_v a).2
    rw [if_pos (show (dgt P p i && decide (dvl P i ≤ 9)) = true by rw [a, decide_eq_true (by omega)]; rfl), if_pos a, zcb_some, zn_one, k177_6, rat_16, if_neg (by decide), k177_14]
    by_cases b : dvl P i = 0
    · rw [if_pos (show nI (dvl P i) ≤ 0 by rw [b]; decide), k177_72, if_neg (show ¬ two P p i = true by unfold two; rw [b]; simp)]
      rfl
    · rw [if_neg (show ¬ nI (dvl P i) ≤ 0 from nI_ge (a := 0) (by omega) (by omega)), k177_18, m174 hp h (by omega), zcb_some, zn_one, k177_22, m116, zcb_some, zn_one, k177_29, sg_dgt]
      by_cases c : dgt P p (i + 1) = true
      · have h3 := (dgt_v c).2
        have e10 : (10 * nI (dvl P i) + sg P p (i + 1)) - 48 = nI (10 * dvl P i + dvl P (i + 1)) := by
          unfold sg
          rw [if_pos (dgt_lt c), Int32.sub_eq_add_neg, Int32.add_assoc, ← Int32.sub_eq_add_neg, (dgt_v c).1, zI_add, zI_mul]
          rfl
        rw [c, if_neg (by decide), k177_32, m174 hp h (by omega), zcb_some]
        show zr X 177 40 [.ref 160, .int (nI (dvl P i))] [.int (sg P p (i + 1)), .int (10 * nI (dvl P i))] (zk (rat K (i + 1) true)) = _
        rw [k177_40, e10]
        by_cases d : 10 * dvl P i + dvl P (i + 1) ≤ 60
        · rw [if_neg (show ¬ (60 : Int32) < nI (10 * dvl P i + dvl P (i + 1)) from nI_nlt (a := 60) (by omega) (by decide)), k177_49, m174 hp h (by omega), zcb_some]
          show zr X 177 57 [.ref 160, .int (nI (dvl P i))] [.int (sg P p (i + 1)), .int (10 * nI (dvl P i))] (zk (rat K (i + 1) true)) = _
          rw [k177_57, e10, rat_15, rat_s15p, if_pos (show two P p i = true by unfold two; rw [decide_eq_true b, c, decide_eq_true d]; rfl)]
          rfl
        · rw [if_pos (show (60 : Int32) < nI (10 * dvl P i + dvl P (i + 1)) from nI_lt (a := 60) (by omega) (by omega)), k177_72, if_neg (show ¬ two P p i = true by unfold two; rw [decide_eq_false d]; simp)]
          rfl
      · rw [Bool.eq_false_iff.mpr c, if_pos zb_f, k177_72, if_neg (show ¬ two P p i = true by unfold two; rw [Bool.eq_false_iff.mpr c]; simp)]
        rfl
  · rw [if_neg (show ¬ (dgt P p i && decide (dvl P i ≤ 9)) = true by rw [Bool.eq_false_iff.mpr a, Bool.false_and]; decide), if_neg a, zcb_some, zn_one, k177_6, rat_16, if_pos zb_f, k177_72]
    rfl
/-- letters -/
theorem m178f {i : Nat} {x : Int32} : zr X 178 0 [.ref 160, .int x, .null] [] (zk (rat K i false)) = some (some (.int 0), zk (rat K i false)) := by
  rw [k178_0, k178_2, rat_16, if_pos zb_f, k178_63, rat_16, if_pos zb_f, k178_79, rat_s16f]
theorem m178t {i s : Nat} (hp : p ≤ 60) (h : mA P p K) (hi : i ≤ p) (hs : s ≤ 14) : zr X 178 0 [.ref 160, .int (nI (12 * s)), .null] [] (zk (rat K i true)) = some (some (.int (nI (rCnt P p 6 i))), zk (rat (zfw K 172 (12 * s + 6) (fun k => P (i + k) - 97) (rCnt P p 6 i)) (i + rCnt P p 6 i) (decide (rCnt P p 6 i ≠ 0)))) := by
  have hloop : ∀ f q, q + f = 6 → i + q ≤ p → zr X 178 2 [.ref 160, .int (nI (12 * s)), .int (nI q)] [] (zk (rat (zfw K 172 (12 * s + 6) (fun k => P (i + k) - 97) q) (i + q) true)) = zr X 178 63 [.ref 160, .int (nI (12 * s)), .int (nI (q + rCnt P p f (i + q)))] [] (zk (rat (zfw K 172 (12 * s + 6) (fun k => P (i + k) - 97) (q + rCnt P p f (i + q))) (i + (q + rCnt P p f (i + q))) true)) := by
    intro f
    induction f with
    | zero =>
      intro q hq _
      have e : q = 6 := by omega
      subst e
      rw [k178_2, rat_16, if_neg (by decide), k178_9, if_pos (by decide)]
      rfl
    | succ f ih =>
      intro q hq hiq
      have hmA : mA P p (zfw K 172 (12 * s + 6) (fun k => P (i + k) - 97) q) := ⟨by rw [zfw_ne (by decide)]; exact h.1, fun k hk => by rw [zfw_ne (by decide)]; exact h.2 k hk⟩
      have e1 : nI (12 * s) + 6 + nI q = nI (12 * s + 6 + q) := by
        rw [zI_add, zI_add]
        rfl
      rw [k178_2, rat_16, if_neg (by decide), k178_9, if_neg (show ¬ (6 : Int32) ≤ nI q from nI_ge (b := 6) (by omega) (by decide)), k178_15, m174 hp hmA (by omega), zcb_some, zn_one, k178_19, m116, zcb_some, zn_one, k178_26, sg_ltr]
      unfold rCnt
      by_cases a : ltr P p (i + q) = true
      · have hlt := ltr_lt a
        have es : sg P p (i + q) = P (i + q) := if_pos hlt
        rw [a, if_neg (by decide), k178_29, m174 hp hmA (by omega), zcb_some]
        show zr X 178 43 [.ref 160, .int (nI (12 * s)), .int (nI q)] [.int (sg P p (i + q)), .int (nI (12 * s) + 6 + nI q), .ref 172] _ = _
        rw [k178_43 (by rw [e1]; exact zin_nI (by omega) (by decide)), e1, zx_nI (by omega), rat_15, rat_r, rat_s15p, es, zfw_succ (I := K) (d := 172) (off := 12 * s + 6) (k := q) (g := fun k => P (i + k) - 97), ← nI_succ, if_pos rfl, Nat.add_assoc i q 1, ih (q + 1) (by omega) (by omega), show q + 1 + rCnt P p f (i + (q + 1)) = q + (rCnt P p f (i + (q + 1)) + 1) by omega]
      · rw [Bool.eq_false_iff.mpr a, if_pos zb_f, if_neg (by decide)]
        rfl
  have h1 := hloop 6 0 rfl hi
  have hle := rCnt_le (P := P) (p := p) 6 i hi
  simp only [nI_0, Nat.zero_add, Nat.add_zero, zfw_0] at h1
  rw [k178_0, h1]
  generalize rCnt P p 6 i = n at hle ⊢
  rw [k178_63, rat_16, if_neg (by decide), k178_71]
  by_cases z : n = 0
  · rw [if_pos (show nI n ≤ 0 by rw [z]; decide), k178_79, rat_s16f, decide_eq_false (fun y => y z)]
  · rw [if_neg (show ¬ nI n ≤ 0 from nI_ge (a := 0) (by omega) (by omega)), k178_75, rat_s16t, decide_eq_true z]
end R4
