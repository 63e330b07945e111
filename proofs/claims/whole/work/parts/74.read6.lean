/-! the reference reads all marks of a text -/
def rwK (K : Nat → Nat → Int32) (s : Nat) (x0 x1 x2 x3 x4 : Int32) (g : Nat → Int32) (n : Nat) : Nat → Nat → Int32 := zs1 (zfw (zs1 (zs1 (zs1 (zs1 (zfw K 172 (12 * s) (fun _ => 0) 12) 172 (12 * s + 0) x0) 172 (12 * s + 1) x1) 172 (12 * s + 2) x2) 172 (12 * s + 3) x3) 172 (12 * s + 6) g n) 172 (12 * s + 4) x4
theorem rwK_ne {K : Nat → Nat → Int32} {s : Nat} {x0 x1 x2 x3 x4 : Int32} {g : Nat → Int32} {n t : Nat} (h : t ≠ 172) : rwK K s x0 x1 x2 x3 x4 g n t = K t := by
  unfold rwK
  rw [zs1_ne h, zfw_ne h, zs1_ne h, zs1_ne h, zs1_ne h, zs1_ne h, zfw_ne h]
theorem rwK_at {K : Nat → Nat → Int32} {s : Nat} {x0 x1 x2 x3 x4 : Int32} {g : Nat → Int32} {n k : Nat} : rwK K s x0 x1 x2 x3 x4 g n 172 k = if k = 12 * s + 4 then x4 else if 12 * s + 6 ≤ k ∧ k < 12 * s + 6 + n then g (k - (12 * s + 6)) else if k = 12 * s + 3 then x3 else if k = 12 * s + 2 then x2 else if k = 12 * s + 1 then x1 else if k = 12 * s + 0 then x0 else if 12 * s ≤ k ∧ k < 12 * s + 12 then 0 else K 172 k := by
  unfold rwK
  rw [zs1_self, upd_at, zfw_self, zs1_self, upd_at, zs1_self, upd_at, zs1_self, upd_at, zs1_self, upd_at, zfw_self]
theorem rwK_lo {K : Nat → Nat → Int32} {s : Nat} {x0 x1 x2 x3 x4 : Int32} {g : Nat → Int32} {n k : Nat} (h : k < 12 * s) : rwK K s x0 x1 x2 x3 x4 g n 172 k = K 172 k := by
  rw [rwK_at, if_neg (by omega), if_neg (by omega), if_neg (by omega), if_neg (by omega), if_neg (by omega), if_neg (by omega), if_neg (by omega)]
theorem rwK_w {K : Nat → Nat → Int32} {s e k a b n j w : Nat} {g : Nat → Int32} (hw : w < 6) : rwK K s (nI e) (nI k) (nI a) (nI b) (nI n) g n 172 (12 * s + w) = rcw (e, k, a, b, n, j) w := by
  rw [rwK_at]
  have hw5 : w = 0 ∨ w = 1 ∨ w = 2 ∨ w = 3 ∨ w = 4 ∨ w = 5 := by omega
  rcases hw5 with rfl | rfl | rfl | rfl | rfl | rfl
  · rw [if_neg (by omega), if_neg (by omega), if_neg (by omega), if_neg (by omega), if_neg (by omega), if_pos rfl]
    rfl
  · rw [if_neg (by omega), if_neg (by omega), if_neg (by omega), if_neg (by omega), if_pos rfl]
    rfl
  · rw [if_neg (by omega), if_neg (by omega), if_neg (by omega), if_pos rfl]
    rfl
  · rw [if_neg (by omega), if_neg (by omega), if_pos rfl]
    rfl
  · rw [if_pos rfl]
    rfl
  · rw [if_neg (by omega), if_neg (by omega), if_neg (by omega), if_neg (by omega), if_neg (by omega), if_neg (by omega), if_pos (by omega)]
    rfl
theorem rwK_l {K : Nat → Nat → Int32} {s n k : Nat} {x0 x1 x2 x3 x4 : Int32} {g : Nat → Int32} (hk : k < n) : rwK K s x0 x1 x2 x3 x4 g n 172 (12 * s + 6 + k) = g k := by
  rw [rwK_at, if_neg (by omega), if_pos (by omega), show 12 * s + 6 + k - (12 * s + 6) = k by omega]
theorem rLts_some {P : Nat → Int32} {p e k j : Nat} {ab : Nat × Nat} : rLts P p e k (j, some ab) = if rCnt P p 6 j = 0 then (j, none) else (j + rCnt P p 6 j, some (e, k, ab.1, ab.2, rCnt P p 6 j, j)) := rfl
section R6
variable {X : Nat × (Nat → Int32)} {P : Nat → Int32} {p : Nat} {K : Nat → Nat → Int32}
/-- what one mark leaves -/
def mOut (P : Nat → Int32) (K J : Nat → Nat → Int32) (s : Nat) (o : Option Rec) : Prop := (∀ t, t ≠ 172 → t ≠ 160 → J t = K t) ∧ (∀ k, k ≠ 18 → J 160 k = K 160 k) ∧ (∀ k, k < 12 * s → J 172 k = K 172 k) ∧ ∀ q, o = some q → J 160 18 = nI (s + 1) ∧ (∀ w, w < 6 → J 172 (12 * s + w) = rcw q w) ∧ ∀ k, k < q.2.2.2.2.1 → k < 6 → J 172 (12 * s + 6 + k) = P (q.2.2.2.2.2 + k) - 97
theorem mOut_no {s : Nat} {J : Nat → Nat → Int32} {o : Option Rec} (h : mX K J s) (ho : o = none) : mOut P K J s o := ⟨fun t t1 _ => h.1 t t1, fun k _ => congrFun (h.1 160 (by decide)) k, h.2, fun q z => by rw [ho] at z; cases z⟩
theorem mOut_yes {s e k a b n j : Nat} : mOut P K (zs1 (rwK K s (nI e) (nI k) (nI a) (nI b) (nI n) (fun q => P (j + q) - 97) n) 160 18 (nI (s + 1))) s (some (e, k, a, b, n, j)) := by
  refine ⟨fun t t1 t2 => (zs1_ne t2).trans (rwK_ne t1), fun q hq => ?_, fun q hq => ?_, fun q hq => ?_⟩
  · rw [zs1_self, upd_at, if_neg hq, rwK_ne (by decide)]
  · rw [zs1_ne (by decide), rwK_lo hq]
  · cases hq
    refine ⟨by rw [zs1_self, upd_at, if_pos rfl], fun w hw => ?_, fun q hq h6 => ?_⟩
    · rw [zs1_ne (by decide), rwK_w hw]
    · rw [zs1_ne (by decide), rwK_l hq]
theorem m179 {i s : Nat} (hp : p ≤ 60) (hA : mA P p K) (h18 : K 160 18 = nI s) (hi : i ≤ p) (hs : s ≤ 13) : ∃ J, zr X 179 0 [.ref 160, .null, .null] [] (zk (rat K i true)) = some (none, zk (rat J (rMk P p i).1 (rMk P p i).2.isSome)) ∧ mOut P K J s (rMk P p i).2 := by
  have ev : 12 * nI s = nI (12 * s) := by rw [zI_mul]; rfl
  have hz : ∀ j, j ≤ 11 → zin (nI (12 * s + j)) 192 = true := fun j hj => zin_nI (by omega) (by decide)
  -- the row is emptied
  have h0 := zloop (F := fun q (J : Nat → Nat → Int32) => zr X 179 10 [.ref 160, .int (nI (12 * s)), .int (nI q)] [] (zk J)) (n := 12) (R := fun J => zr X 179 31 [.ref 160, .int (nI (12 * s)), .int (nI 12)] [] (zk J)) (f := fun q J => zs1 J 172 (12 * s + q) 0) (fun q J hq => by
    have e : nI (12 * s) + nI q = nI (12 * s + q) := (zI_add _ _).symm
    rw [k179_10, if_neg (show ¬ (12 : Int32) ≤ nI q from nI_ge (b := 12) hq (by decide)), k179_16 (by rw [e]; exact hz q (by omega)), e, zx_nI (by omega), ← nI_succ]) (fun J => by rw [k179_10, if_pos (by decide)]) 12 0 (rat K i true) rfl
  have hfill : ∀ q, zfo (fun q J => zs1 J 172 (12 * s + q) 0) 0 q (rat K i true) = rat (zfw K 172 (12 * s) (fun _ => 0) q) i true := by
    intro q
    rw [zfill (g := fun _ => 0) (off := 12 * s) (d := 172) q (fun j hj => rfl)]
    unfold zfw rat
    rw [zup_ne (by decide), zup_ne (by decide), zup_comm (I := K) (by decide)]
  rw [hfill, nI_0] at h0
  rw [k179_0, rat_k (by decide) (by decide), h18, ev, h0, k179_31, show (4 : Int32) = nI 4 from rfl]
  have hX0 : mX K (zfw K 172 (12 * s) (fun _ => 0) 12) s := ⟨fun t ht => zfw_ne ht, fun k hk => by rw [zfw_self, if_neg (by omega)]⟩
  have hA0 := mX_A hX0 hA
  rw [m176t hp hA0 (by omega) (by decide), z_add0]
  have ez0 : zx (nI (12 * s)) = 12 * s + 0 := zx_nI (by omega)
  have hz0 : zin (nI (12 * s)) 192 = true := hz 0 (by decide)
  unfold rMk
  have e5 : (decide (dvl P i ≤ 4)) = decide (dvl P i < 5) := decide_eq_decide.mpr (by omega)
  rw [e5]
  by_cases a : (dgt P p i && decide (dvl P i < 5)) = true
  · have a1 : dgt P p i = true := by
      rw [Bool.and_eq_true] at a
      exact a.1
    have h1 := dgt_lt a1
    rw [if_pos a, if_pos a, zcb_some]
    show ∃ J, zr X 179 43 [.ref 160, .int (nI (12 * s)), .int (nI 12)] [.int (nI (dvl P i)), .int (nI (12 * s)), .ref 172] (zk (rat (zfw K 172 (12 * s) (fun _ => 0) 12) (i + 1) true)) = _ ∧ _
    have hX1 : mX K (zs1 (zfw K 172 (12 * s) (fun _ => 0) 12) 172 (12 * s + 0) (nI (dvl P i))) s := mX_s hX0
    have hA1 := mX_A hX1 hA
    rw [k179_43 hz0, ez0, rat_r, m174 hp hA1 (by omega), zcb_some, zn_one, k179_48, rat_16, if_neg (show ¬ zb true = 0 by decide)]
    have e1 : nI (12 * s) + 1 = nI (12 * s + 1) := e12 (j := 1) rfl
    have e4 : nI (12 * s) + 4 = nI (12 * s + 4) := e12 (j := 4) rfl
    -- behind the kind's letter
    have h75 : ∀ v : Int32, zr X 179 75 [.ref 160, .int (nI (12 * s)), .int v] [.ref 160] (zk (rat (zs1 (zfw K 172 (12 * s) (fun _ => 0) 12) 172 (12 * s + 0) (nI (dvl P i))) (i + 1) true)) = if ¬ v = 45 then zr X 179 121 [.ref 160, .int (nI (12 * s)), .int v] [.int (nI (12 * s) + 1), .ref 172] (zk (rat (zs1 (zfw K 172 (12 * s) (fun _ => 0) 12) 172 (12 * s + 0) (nI (dvl P i))) (i + 2) true)) else zr X 179 117 [.ref 160, .int (nI (12 * s)), .int v] [.int (nI (12 * s) + 1), .ref 172] (zk (rat (zs1 (zfw K 172 (12 * s) (fun _ => 0) 12) 172 (12 * s + 0) (nI (dvl P i))) (i + 2) true)) := by
      intro v
      rw [k179_75, rat_s16t, rat_16, if_neg (show ¬ zb true = 0 by decide), rat_15, k179_95, rat_s15p]
    -- letters, then the end
    have h205 : ∀ (v : Int32) (kd x y j : Nat), j ≤ p → ∃ J, zr X 179 205 [.ref 160, .int (nI (12 * s)), .int v] [.int (nI (12 * s) + 4), .ref 172] (zk (rat (zs1 (zs1 (zs1 (zs1 (zfw K 172 (12 * s) (fun _ => 0) 12) 172 (12 * s + 0) (nI (dvl P i))) 172 (12 * s + 1) (nI kd)) 172 (12 * s + 2) (nI x)) 172 (12 * s + 3) (nI y)) j true)) = some (none, zk (rat J (rLts P p (dvl P i) kd (j, some (x, y))).1 (rLts P p (dvl P i) kd (j, some (x, y))).2.isSome)) ∧ mOut P K J s (rLts P p (dvl P i) kd (j, some (x, y))).2 := by
      intro v kd x y j hj
      have hX2 : mX K (zs1 (zs1 (zs1 (zs1 (zfw K 172 (12 * s) (fun _ => 0) 12) 172 (12 * s + 0) (nI (dvl P i))) 172 (12 * s + 1) (nI kd)) 172 (12 * s + 2) (nI x)) 172 (12 * s + 3) (nI y)) s := mX_s (mX_s (mX_s hX1))
      have hle := rCnt_le (P := P) (p := p) 6 j hj
      rw [k179_205, m178t hp (mX_A hX2 hA) hj (by omega), zcb_some]
      rw [rLts_some]
      generalize rCnt P p 6 j = n at hle ⊢
      show ∃ J, zr X 179 210 [.ref 160, .int (nI (12 * s)), .int v] [.int (nI n), .int (nI (12 * s) + 4), .ref 172] _ = _ ∧ _
      rw [e4, k179_210 (hz 4 (by decide)), rat_16, zx_nI (by omega), rat_r, rat_k (by decide) (by decide)]
      have h18' : zfw (zs1 (zs1 (zs1 (zs1 (zfw K 172 (12 * s) (fun _ => 0) 12) 172 (12 * s + 0) (nI (dvl P i))) 172 (12 * s + 1) (nI kd)) 172 (12 * s + 2) (nI x)) 172 (12 * s + 3) (nI y)) 172 (12 * s + 6) (fun k => P (j + k) - 97) n 160 18 = nI s := by
        rw [zfw_ne (by decide), hX2.1 160 (by decide)]
        exact h18
      rw [h18']
      show ∃ J, (if zb (decide (n ≠ 0)) = 0 then zr X 179 227 [.ref 160, .int (nI (12 * s)), .int v] [.int (nI s), .ref 160] (zk (rat (rwK K s (nI (dvl P i)) (nI kd) (nI x) (nI y) (nI n) (fun k => P (j + k) - 97) n) (j + n) (decide (n ≠ 0)))) else zr X 179 223 [.ref 160, .int (nI (12 * s)), .int v] [.int (nI s), .ref 160] (zk (rat (rwK K s (nI (dvl P i)) (nI kd) (nI x) (nI y) (nI n) (fun k => P (j + k) - 97) n) (j + n) (decide (n ≠ 0))))) = _ ∧ _
      by_cases d : n = 0
      · rw [decide_eq_false (fun z => z d), if_pos zb_f, k179_227, rat_18w (by rw [rwK_ne (by decide)]; exact h18.symm), if_pos d, d, Nat.add_zero]
        exact ⟨_, rfl, mOut_no ⟨fun t ht => rwK_ne ht, fun k hk => rwK_lo hk⟩ rfl⟩
      · rw [decide_eq_true d, if_neg (show ¬ zb true = 0 by decide), k179_223, rat_18, ← nI_succ, if_neg d]
        exact ⟨_, rfl, mOut_yes⟩
    have hgl : ∀ x : Int32, ¬ (0 : Int32) = x → (sg P p (i + 1) = x ↔ sgn P p x (i + 1) = true) := fun x hx => sg_sgn hx
    rw [k179_57]
    by_cases b : sgn P p 45 (i + 1) = true
    · have e45 := (hgl 45 (by decide)).mpr b
      have g1 : i + 2 ≤ p := sgn_lt b
      rw [if_pos e45, h75, e45, if_neg (fun z => z rfl), e1, k179_117 (hz 1 (by decide)), zx_nI (by omega), rat_r, if_pos b]
      have hX2 : mX K (zs1 (zs1 (zfw K 172 (12 * s) (fun _ => 0) 12) 172 (12 * s + 0) (nI (dvl P i))) 172 (12 * s + 1) 0) s := mX_s hX1
      rcases mG (X := X) (v := 45) (i := i + 2) hp (mX_A hX2 hA) g1 hs (by decide) with ⟨J, j1, j2, j3⟩ | ⟨x, y, j1, j2⟩
      · unfold rStk
        rcases eg : rGps P p (i + 2) with ⟨j, _ | ab⟩
        · rw [eg] at j1
          exact ⟨J, j1, mOut_no (mX_tr hX2 j2) rfl⟩
        · rw [eg] at j3
          cases j3
      · unfold rStk
        rcases eg : rGps P p (i + 2) with ⟨j, _ | ab⟩
        · rw [eg] at j1
          cases j1
        · rw [eg] at j1 j2
          cases j1
          rw [j2, if_neg (fun z => z rfl), e4, k179_201 (hz 4 (by decide)), rat_16, if_neg (show ¬ zb true = 0 by decide), zx_nI (by omega), rat_r, rat_k (by decide) (by decide), (show mX K (zs1 (zs1 (zs1 (zs1 (zfw K 172 (12 * s) (fun _ => 0) 12) 172 (12 * s + 0) (nI (dvl P i))) 172 (12 * s + 1) 0) 172 (12 * s + 2) (nI x)) 172 (12 * s + 3) (nI y)) s from mX_s (mX_s hX2)).1 160 (by decide), h18, k179_223, rat_18, ← nI_succ]
          have ef : zs1 (zs1 (zs1 (zs1 (zs1 (zfw K 172 (12 * s) (fun _ => 0) 12) 172 (12 * s + 0) (nI (dvl P i))) 172 (12 * s + 1) 0) 172 (12 * s + 2) (nI x)) 172 (12 * s + 3) (nI y)) 172 (12 * s + 4) 0 = rwK K s (nI (dvl P i)) (nI 0) (nI x) (nI y) (nI 0) (fun q => P (j + q) - 97) 0 := by
            unfold rwK
            rw [zfw_0]
            rfl
          rw [ef]
          exact ⟨_, rfl, mOut_yes⟩
    · have n45 : ¬ sg P p (i + 1) = 45 := fun z => b ((hgl 45 (by decide)).mp z)
      rw [if_neg n45, if_neg b, k179_63]
      by_cases c2 : sgn P p 43 (i + 1) = true
      · have e43 := (hgl 43 (by decide)).mpr c2
        have g1 : i + 2 ≤ p := sgn_lt c2
        have c : ¬ sgn P p 61 (i + 1) = true := by
          intro z
          have := (hgl 61 (by decide)).mpr z
          rw [e43] at this
          exact absurd this (by decide)
        rw [if_pos e43, h75, e43, if_pos (by decide), k179_121, if_neg (fun z => z rfl), e1, k179_127 (hz 1 (by decide)), zx_nI (by omega), rat_r, if_neg c, if_pos c2]
        have hX2 : mX K (zs1 (zs1 (zfw K 172 (12 * s) (fun _ => 0) 12) 172 (12 * s + 0) (nI (dvl P i))) 172 (12 * s + 1) 1) s := mX_s hX1
        have g3 := rOne_le (P := P) (p := p) (i := i + 2) g1
        rcases mO (X := X) (i := i + 2) hp (mX_A hX2 hA) g1 hs with ⟨J, j1, j2, j3⟩ | ⟨x, y, j1, j2⟩
        · rcases eg : rOne P p (i + 2) with ⟨j, _ | ab⟩
          · rw [eg] at j1
            exact ⟨J, j1, mOut_no (mX_tr hX2 j2) rfl⟩
          · rw [eg] at j3
            cases j3
        · rcases eg : rOne P p (i + 2) with ⟨j, _ | ab⟩
          · rw [eg] at j1
            cases j1
          · rw [eg] at j1 j2 g3
            cases j1
            rw [j2]
            exact h205 43 1 x y j g3.2.1
      · have n43 : ¬ sg P p (i + 1) = 43 := fun z => c2 ((hgl 43 (by decide)).mp z)
        rw [if_neg n43, k179_69]
        by_cases c : sgn P p 61 (i + 1) = true
        · have e61 := (hgl 61 (by decide)).mpr c
          have g1 : i + 2 ≤ p := sgn_lt c
          rw [if_neg (fun z => z e61), h75, e61, if_pos (by decide), k179_121, if_pos (by decide), e1, k179_131 (hz 1 (by decide)), zx_nI (by omega), rat_r, if_pos c]
          have hX2 : mX K (zs1 (zs1 (zfw K 172 (12 * s) (fun _ => 0) 12) 172 (12 * s + 0) (nI (dvl P i))) 172 (12 * s + 1) 2) s := mX_s hX1
          have g3 := rGps_le (P := P) (p := p) (i := i + 2) g1
          rcases mG (X := X) (v := 61) (i := i + 2) hp (mX_A hX2 hA) g1 hs (by decide) with ⟨J, j1, j2, j3⟩ | ⟨x, y, j1, j2⟩
          · rcases eg : rGps P p (i + 2) with ⟨j, _ | ab⟩
            · rw [eg] at j1
              exact ⟨J, j1, mOut_no (mX_tr hX2 j2) rfl⟩
            · rw [eg] at j3
              cases j3
          · rcases eg : rGps P p (i + 2) with ⟨j, _ | ab⟩
            · rw [eg] at j1
              cases j1
            · rw [eg] at j1 j2 g3
              cases j1
              rw [j2, if_pos (by decide)]
              exact h205 61 2 x y j g3.2.1
        · have n61 : ¬ sg P p (i + 1) = 61 := fun z => c ((hgl 61 (by decide)).mp z)
          obtain ⟨J, j1, j2⟩ := dKd (X := X) (v := sg P p (i + 1)) (i := i + 1) hp hA1 (by omega) hs
          rw [if_pos n61, k179_79, rat_s16f, rat_16, if_pos zb_f, rat_15, k179_99, rat_s15z, if_neg c, if_neg c2]
          exact ⟨J, j1, mOut_no (mX_tr hX1 j2) rfl⟩
  · rw [if_neg a, if_neg a, zcb_some]
    show ∃ J, zr X 179 43 [.ref 160, .int (nI (12 * s)), .int (nI 12)] [.int (sg P p i - 48), .int (nI (12 * s)), .ref 172] (zk (rat (zfw K 172 (12 * s) (fun _ => 0) 12) i false)) = _ ∧ _
    have hX1 : mX K (zs1 (zfw K 172 (12 * s) (fun _ => 0) 12) 172 (12 * s + 0) (sg P p i - 48)) s := mX_s hX0
    have hA1 := mX_A hX1 hA
    obtain ⟨J, j1, j2⟩ := dKd (X := X) (v := sg P p i) (i := i) hp hA1 (by omega) hs
    rw [k179_43 hz0, ez0, rat_r, m174 hp hA1 (by omega), zcb_some, zn_one, k179_48, rat_16, if_pos zb_f, k179_79, rat_s16f, rat_16, if_pos zb_f, rat_15, k179_99, rat_s15z]
    exact ⟨J, j1, mOut_no (mX_tr hX1 j2) rfl⟩
end R6
