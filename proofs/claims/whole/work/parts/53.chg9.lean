/-! judge -/
/-- the rank of a mark's editor -/
def rkI (S : Nat → Int32) (i : Nat) : Int32 := S (61 + zx (vR S 0 i))
def bI (b : Option Nat) : Int32 := match b with
  | none => -6
  | some m => nI m
def fNx (S : Nat → Int32) (i : Nat) (b : Option Nat) : Option Nat := match b with
  | none => if vR S 5 i = 0 then some i else none
  | some m => if vR S 5 i = 0 ∧ rkI S m < rkI S i then some i else some m
def sNx (S : Nat → Int32) (n : Nat) : Option Nat := zfo (fNx S) 0 n none
/-- the open mark that comes next -/
theorem sNx_ok {S : Nat → Int32} (n : Nat) : (sNx S n = none ∧ ∀ i, i < n → ¬ vR S 5 i = 0) ∨ ∃ m, sNx S n = some m ∧ m < n ∧ vR S 5 m = 0 ∧ ∀ i, i < n → vR S 5 i = 0 → rkI S i < rkI S m ∨ rkI S i = rkI S m ∧ m ≤ i := by
  have h := zfo_inv (f := fNx S) (fun n b => (b = none ∧ ∀ i, i < n → ¬ vR S 5 i = 0) ∨ ∃ m, b = some m ∧ m < n ∧ vR S 5 m = 0 ∧ ∀ i, i < n → vR S 5 i = 0 → rkI S i < rkI S m ∨ rkI S i = rkI S m ∧ m ≤ i) n 0 none (Or.inl ⟨rfl, fun i hi => absurd hi (Nat.not_lt_zero _)⟩) (fun j b _ hj hb => ?_)
  · rw [Nat.zero_add] at h
    exact h
  · rcases hb with ⟨rfl, h1⟩ | ⟨m, rfl, hm, hm0, h1⟩
    · show (fNx S j none = none ∧ _) ∨ _
      unfold fNx
      by_cases a : vR S 5 j = 0
      · refine Or.inr ⟨j, if_pos a, Nat.lt_succ_self j, a, fun i hi h0 => ?_⟩
        by_cases e : i = j
        · subst e
          exact Or.inr ⟨rfl, Nat.le_refl _⟩
        · exact absurd h0 (h1 i (by omega))
      · refine Or.inl ⟨if_neg a, fun i hi => ?_⟩
        by_cases e : i = j
        · subst e
          exact a
        · exact h1 i (by omega)
    · refine Or.inr ?_
      show ∃ m', fNx S j (some m) = some m' ∧ _
      unfold fNx
      by_cases a : vR S 5 j = 0 ∧ rkI S m < rkI S j
      · refine ⟨j, if_pos a, Nat.lt_succ_self j, a.1, fun i hi h0 => ?_⟩
        by_cases e : i = j
        · subst e
          exact Or.inr ⟨rfl, Nat.le_refl _⟩
        · rcases h1 i (by omega) h0 with b | ⟨b, -⟩
          · exact Or.inl (Int32.lt_trans b a.2)
          · exact Or.inl (by rw [b]; exact a.2)
      · refine ⟨m, if_neg a, by omega, hm0, fun i hi h0 => ?_⟩
        by_cases e : i = j
        · subst e
          have hx : ¬ rkI S m < rkI S i := fun z => a ⟨h0, z⟩
          rcases Int32.le_iff_lt_or_eq.mp (Int32.not_lt.mp hx) with b | b
          · exact Or.inl b
          · exact Or.inr ⟨b, by omega⟩
        · exact h1 i (by omega) h0
/-- the class's marks, text length and ranks are the state's -/
def cJ (n : Nat) (I : Nat → Nat → Int32) (S : Nat → Int32) : Prop := I 5 7 = nI n ∧ I 3 1 = S 0 ∧ vEq (vC I 6) (vR S) n ∧ ∀ k, k < 5 → I 16 k = S (61 + k)
def aStep (n m : Nat) (S : Nat → Int32) : Nat → Int32 := if sCan (vR S) n (S 0) m = true then rAcc n m S else rRef m S
theorem aStep_how {n m : Nat} {S : Nat → Int32} (hm : m < n) (hn : n ≤ 20) : sHow n S (aStep n m S) := by
  unfold aStep
  split
  · exact rAcc_how hm hn
  · exact rRef_how hm hn
theorem aStep_wK {t n m : Nat} {S : Nat → Int32} (hk : wK S t n) (hm : m < n) (h0 : vR S 5 m = 0) : wK (aStep n m S) t n := by
  unfold aStep
  split
  next h => exact rAcc_wK hk hm h
  next h => exact rRef_wK hk hm h0
/-- what was refused stays so; what is open was so, and isn't the mark -/
theorem aStep_5 {n m : Nat} {S : Nat → Int32} (hm : m < n) (hn : n ≤ 20) (h0 : vR S 5 m = 0) : (∀ i, i < n → vR S 5 i = 2 → vR (aStep n m S) 5 i = 2) ∧ ∀ i, i < n → vR (aStep n m S) 5 i = 0 → vR S 5 i = 0 ∧ i ≠ m := by
  unfold aStep
  split
  · refine ⟨fun i hi h2 => ?_, fun i hi hz => ?_⟩
    · have him : i ≠ m := fun z => by rw [z, h0] at h2; exact absurd h2 (by decide)
      rw [rAcc_5 hi, if_neg him]
      split
      · rfl
      · exact h2
    · rw [rAcc_5 hi] at hz
      by_cases e : i = m
      · rw [if_pos e] at hz
        exact absurd hz (by decide)
      · rw [if_neg e] at hz
        by_cases p : pAcc (vR S) m i = true
        · rw [if_pos p] at hz
          exact absurd hz (by decide)
        · rw [if_neg p] at hz
          exact ⟨hz, e⟩
  · refine ⟨fun i hi h2 => ?_, fun i hi hz => ?_⟩
    · rw [rRef_5]
      split
      · rfl
      · exact h2
    · rw [rRef_5] at hz
      by_cases e : i = m
      · rw [if_pos e] at hz
        exact absurd hz (by decide)
      · rw [if_neg e] at hz
        exact ⟨hz, e⟩
theorem rkI_how {n i : Nat} {S S' : Nat → Int32} (h : sHow n S S') (hi : i < n) (he : ∃ e : Nat, e < 5 ∧ vR S 0 i = nI e) : rkI S' i = rkI S i := by
  obtain ⟨e, he, h0⟩ := he
  unfold rkI
  rw [h.2 i 0 hi (by decide) (by decide), h0, zx_nI (by omega)]
  exact h.1 _ (Or.inl (by omega))
section B9
variable {X : Nat × (Nat → Int32)} {I : Nat → Nat → Int32}
theorem cJ_up {n : Nat} {f : Nat → Int32} {S S' : Nat → Int32} (h : cJ n I S) (hh : sHow n S S') (hf : ∀ i, i < n → f i = vR S' 5 i) : cJ n (zup I 10 f) S' := by
  obtain ⟨h1, h2, h3, h4⟩ := h
  refine ⟨by rw [zup_ne (by decide)]; exact h1, by rw [zup_ne (by decide), hh.1 0 (Or.inl (by decide))]; exact h2, fun i w hi hw => ?_, fun k hk => by rw [zup_ne (by decide), hh.1 _ (Or.inl (by omega))]; exact h4 k hk⟩
  by_cases e : w = 5
  · subst e
    rw [← hf i hi]
    exact congrFun zup_self i
  · rw [hh.2 i w hi (by omega) e, ← h3 i w hi hw]
    have hw5 : w = 0 ∨ w = 1 ∨ w = 2 ∨ w = 3 ∨ w = 4 := by omega
    rcases hw5 with rfl | rfl | rfl | rfl | rfl <;> exact congrFun (zup_ne (by decide)) i
theorem c59 {n m : Nat} {S : Nat → Int32} (h : cJ n I S) (hn : n ≤ 20) (hm : m < n) (h0 : vR S 5 m = 0) : ∃ f, zr X 59 0 [.ref 2, .int (nI m)] [] (zk I) = some (some (.int (zb (sCan (vR S) n (S 0) m))), zk (zup I 10 f)) ∧ cJ n (zup I 10 f) (aStep n m S) := by
  have hh := aStep_how (S := S) hm hn
  have h' := h
  obtain ⟨h1, h2, h3, h4⟩ := h
  have a2 : I 10 m = 0 := (h3 m 5 hm (by decide)).trans h0
  rw [k59_0, c57 hn h1 (by omega), zcb_some, zn_one, k59_5, h2, vEq_sCan h3 hm]
  by_cases a : sCan (vR S) n (S 0) m = true
  · obtain ⟨f, f1, f2⟩ := c19 (X := X) (I := I) hn h1 hm a2
    refine ⟨f, ?_, cJ_up h' hh (fun i hi => ?_)⟩
    · rw [a, zb_t, if_neg (by decide), k59_8, f1, zcb_some, zn_one, k59_16]
    · rw [f2 i hi, show aStep n m S = rAcc n m S from if_pos a, rAcc_5 hi, vEq_pAcc h3 hm hi, show I 10 i = vR S 5 i from h3 i 5 hi (by decide)]
  · refine ⟨upd (I 10) m 2, ?_, cJ_up h' hh (fun i hi => ?_)⟩
    · rw [Bool.not_eq_true] at a
      rw [a, zb_f, if_pos rfl, k59_19 (zin_nI (by omega) (by decide)), zx_nI (by omega), zs1_up]
    · rw [upd_at, show aStep n m S = rRef m S from if_neg a, rRef_5, show I 10 i = vR S 5 i from h3 i 5 hi (by decide)]
/-- nextOpen -/
theorem m151 {t n : Nat} {S : Nat → Int32} (hk : wK S t n) (hS : I 161 = S) : zr X 151 0 [.ref 160, .null, .null, .null] [] (zk I) = some (some (.int (bI (sNx S n))), zk I) := by
  have hn : n ≤ 20 := hk.2.1
  have h66 : I 161 66 = nI n := by rw [hS]; exact hk.2.2.2.1
  have hv : vM I = vR S := by rw [vM_vR, hS]
  have hl : ∀ k i (b : Option Nat) (w : Value), i + k = n → (∀ m, b = some m → m < i) → zr X 151 5 [.ref 160, .int (bI b), .int (nI i), w] [] (zk I) = some (some (.int (bI (zfo (fNx S) i k b))), zk I) := by
    intro k
    induction k with
    | zero =>
      intro i b w hi hb
      rw [k151_5, h66, if_pos (nI_le (by omega) (by omega)), k151_84]
      rfl
    | succ k ih =>
      intro i b w hi hb
      have hi2 : i < n := by omega
      rw [k151_5, h66, if_neg (nI_ge hi2 (by omega)), k151_16, m117_5 (by omega), zcb_some, zn_one, k151_22, hv]
      have hskip : ∀ w, fNx S i b = b → zr X 151 5 [.ref 160, .int (bI b), .int (nI i + 1), w] [] (zk I) = some (some (.int (bI (zfo (fNx S) i (k + 1) b))), zk I) := by
        intro w h
        rw [← nI_succ, ih (i + 1) b w (by omega) (fun m hm => by have := hb m hm; omega)]
        show _ = some (some (Value.int (bI (zfo (fNx S) (i + 1) k (fNx S i b)))), zk I)
        rw [h]
      have htake : ∀ w, fNx S i b = some i → zr X 151 5 [.ref 160, .int (nI i), .int (nI i + 1), w] [] (zk I) = some (some (.int (bI (zfo (fNx S) i (k + 1) b))), zk I) := by
        intro w h
        have := ih (i + 1) (some i) w (by omega) (fun m hm => by cases hm; omega)
        rw [← nI_succ]
        show _ = some (some (Value.int (bI (zfo (fNx S) (i + 1) k (fNx S i b)))), zk I)
        rw [h]
        exact this
      by_cases a : vR S 5 i = 0
      · rw [if_neg (fun z => z a), k151_25]
        cases b with
        | none =>
          rw [if_pos (show bI none = -6 from rfl), k151_62, if_neg (by decide), k151_72]
          exact htake _ (if_pos a)
        | some m =>
          have hm := hb m rfl
          have hne : ¬ bI (some m) = -6 := by
            show ¬ nI m = -6
            intro z
            have h1 := nI_pos (show m < 2 ^ 31 by omega)
            rw [z] at h1
            exact h1 (by decide)
          obtain ⟨e, _, _, _, _, _, g0, _, _, _, _, _, r1, _⟩ := hk.2.2.2.2.1.1 i hi2
          obtain ⟨e', _, _, _, _, _, g0', _, _, _, _, _, r1', _⟩ := hk.2.2.2.2.1.1 m (by omega)
          have x1 : (61 : Int32) + nI e = nI (61 + e) := by rw [zI_add]; rfl
          have x2 : (61 : Int32) + nI e' = nI (61 + e') := by rw [zI_add]; rfl
          have k1 : rkI S i = S (61 + e) := by unfold rkI; rw [g0, zx_nI (by omega)]
          have k2 : rkI S m = S (61 + e') := by unfold rkI; rw [g0', zx_nI (by omega)]
          have hq : zr X 117 0 [.ref 160, .int (bI (some m)), .int 0] [] (zk I) = some (some (.int (vM I 0 m)), zk I) := m117_0 (by omega)
          rw [if_neg hne, k151_31, m117_0 (by omega), zcb_some, zn_one, hv, g0, k151_43 (by rw [x1]; exact zin_nI (by omega) (by decide)), hq, zcb_some, zn_one, hv, g0', k151_57 (by rw [x2]; exact zin_nI (by omega) (by decide)), x1, x2, zx_nI (by omega), zx_nI (by omega), hS, ← k1, ← k2]
          by_cases b : rkI S i ≤ rkI S m
          · rw [if_pos b, k151_66, if_pos rfl, k151_76]
            exact hskip _ (if_neg (fun z => absurd b (Int32.not_le.mpr z.2)))
          · rw [if_neg b, k151_62, if_neg (by decide), k151_72]
            exact htake _ (if_pos ⟨a, Int32.not_le.mp b⟩)
      · rw [if_pos a, k151_66, if_pos rfl, k151_76]
        refine hskip _ ?_
        cases b with
        | none => exact if_neg a
        | some m => exact if_neg (fun z => a z.1)
  have h := hl n 0 none .null (by omega) (fun m hm => by cases hm)
  have h0 : nI 0 = 0 := nI_0
  rw [h0] at h
  rw [k151_0]
  exact h
/-- what judging comes to, of the class and of the reference -/
def zJ (X : Nat × (Nat → Int32)) (t n : Nat) (I M : Nat → Nat → Int32) (S : Nat → Int32) (a : Int32) (run : Option (Option Value × zM)) : Prop := ∃ (Sf f : Nat → Int32) (af : Int32), run = some (some (.int af), zk (zup I 10 f)) ∧ cJ n (zup I 10 f) Sf ∧ sHow n S Sf ∧ wK Sf t n ∧ (∀ i, i < n → vR S 5 i = 2 → vR Sf 5 i = 2) ∧ zr X 152 7 [.ref 160, .int a, .int (bI (sNx S n))] [] (zk (zup M 161 S)) = some (some (.int af), zk (zup M 161 Sf))
/-- one step of both -/
theorem zJ_step {t n m : Nat} {M : Nat → Nat → Int32} {S : Nat → Int32} {a : Int32} (hk : wK S t n) (hm : m < n) (h0 : vR S 5 m = 0) : zr X 152 7 [.ref 160, .int a, .int (nI m)] [] (zk (zup M 161 S)) = zr X 152 7 [.ref 160, .int (if sCan (vR S) n (S 0) m = true then a + 1 else a), .int (bI (sNx (aStep n m S) n))] [] (zk (zup M 161 (aStep n m S))) := by
  have hn : n ≤ 20 := hk.2.1
  have hne : ¬ nI m = -6 := by
    intro z
    have h1 := nI_pos (show m < 2 ^ 31 by omega)
    rw [z] at h1
    exact h1 (by decide)
  have h66 : zup M 161 S 161 66 = nI n := by rw [zup_self]; exact hk.2.2.2.1
  have hk2 := aStep_wK hk hm h0
  rw [k152_7, if_neg hne, k152_13, m144 hn h66 (by omega), zcb_some, zn_one, k152_18, vM_vR, zup_self]
  by_cases b : sCan (vR S) n (S 0) m = true
  · have e : aStep n m S = rAcc n m S := if_pos b
    rw [e] at hk2 ⊢
    rw [b, zb_t, if_neg (by decide), if_pos rfl, k152_21, m145 hn h66 (by omega), zcb_some, zn_one, k152_26, zup_self, zup_zup, m151 hk2 zup_self, zcb_some, zn_one, k152_44]
  · have e : aStep n m S = rRef m S := if_neg b
    rw [e] at hk2 ⊢
    rw [Bool.not_eq_true] at b
    have m118' := m118 (X := X) (I := zup M 161 S) (i := m) (w := 5) (v := 2) (by omega) (by decide)
    rw [show nI 5 = (5 : Int32) by decide, zs1_zup] at m118'
    rw [b, zb_f, if_pos rfl, if_neg (by decide), k152_33, m118', zcb_some, zn_nil, k152_40]
    rw [show upd S (67 + 12 * m + 5) 2 = rRef m S from rfl, m151 hk2 zup_self, zcb_some, zn_one, k152_44]
theorem zJ_all {t n : Nat} {M : Nat → Nat → Int32} (hE : ∀ S, wE S → True) : ∀ (R : Nat) (I : Nat → Nat → Int32) (S : Nat → Int32) (a : Int32) (v3 : Value), R ≤ 10 → cJ n I S → wK S t n → wE S → (∀ i, i < n → vR S 5 i = 0 → rkI S i < nI R) → zJ X t n I M S a (zr X 58 5 [.ref 2, .int a, .int (nI R - 1), v3] [] (zk I))
  | 0, I, S, a, v3, hR, hc, hk, he, hop => by
    have hno : ∀ i, i < n → ¬ vR S 5 i = 0 := by
      intro i hi h0
      have h := hop i hi h0
      obtain ⟨e, _, _, _, _, _, g0, _, _, _, _, _, r1, _⟩ := hk.2.2.2.2.1.1 i hi
      obtain ⟨r, hr, hr2⟩ := he e r1
      unfold rkI at h
      rw [g0, zx_nI (by omega), hr2] at h
      exact nI_pos (by omega) h
    have hx : sNx S n = none := by
      rcases sNx_ok (S := S) n with h | ⟨m, _, hm, h0, _⟩
      · exact h.1
      · exact absurd h0 (hno m hm)
    refine ⟨S, I 10, a, ?_, ?_, sHow_rf, hk, fun _ _ h => h, ?_⟩
    · rw [k58_5, if_pos (by decide), k58_75, zup_id rfl]
    · rw [zup_id rfl]
      exact hc
    · rw [hx, k152_7, if_pos (show bI none = -6 from rfl), k152_48]
  | R + 1, I, S, a, v3, hR, hc, hk, he, hop => by
    have hn : n ≤ 20 := hk.2.1
    have eR : nI (R + 1) - 1 = nI R := zI_sub (b := 1) (by omega)
    rw [eR, k58_5, if_neg (nI_pos (by omega)), k58_9]
    have hB : ∀ k i (I : Nat → Nat → Int32) (S : Nat → Int32) (a : Int32), i + k = n → cJ n I S → wK S t n → wE S → (∀ j, j < n → vR S 5 j = 0 → rkI S j < nI R ∨ rkI S j = nI R ∧ i ≤ j) → zJ X t n I M S a (zr X 58 11 [.ref 2, .int a, .int (nI R), .int (nI i)] [] (zk I)) := by
      intro k
      induction k with
      | zero =>
        intro i I S a hi hc hk he hop
        rw [k58_11, hc.1, if_pos (nI_le (by omega) (by omega)), k58_69]
        have e : nI R + (-1) = nI R - 1 := by
          rw [Int32.sub_eq_add_neg]
        rw [e]
        refine zJ_all hE R I S a _ (by omega) hc hk he (fun j hj h0 => ?_)
        rcases hop j hj h0 with h | ⟨h, h2⟩
        · exact h
        · omega
      | succ k ih =>
        intro i I S a hi hc hk he hop
        have hi2 : i < n := by omega
        have hi0 := zin_nI (show i < 20 by omega) (show (20 : Nat) < 2 ^ 31 by decide)
        have ez : zx (nI i) = i := zx_nI (by omega)
        obtain ⟨e, _, _, _, _, _, g0, _, _, _, _, _, r1, _⟩ := hk.2.2.2.2.1.1 i hi2
        have e10 : I 10 i = vR S 5 i := hc.2.2.1 i 5 hi2 (by decide)
        have e6 : I 6 i = nI e := (hc.2.2.1 i 0 hi2 (by decide)).trans g0
        have k1 : rkI S i = S (61 + e) := by unfold rkI; rw [g0, zx_nI (by omega)]
        have hskip : ¬ (vR S 5 i = 0 ∧ rkI S i = nI R) → zJ X t n I M S a (zr X 58 63 [.ref 2, .int a, .int (nI R), .int (nI i)] [] (zk I)) := by
          intro hno
          rw [k58_63, ← nI_succ]
          refine ih (i + 1) I S a (by omega) hc hk he (fun j hj h0 => ?_)
          rcases hop j hj h0 with h | ⟨h, h2⟩
          · exact Or.inl h
          · refine Or.inr ⟨h, ?_⟩
            by_cases ej : j = i
            · subst ej
              exact absurd ⟨h0, h⟩ hno
            · omega
        rw [k58_11, hc.1, if_neg (nI_ge hi2 (by omega)), k58_22 hi0, ez, e10]
        by_cases h0 : vR S 5 i = 0
        · rw [if_neg (fun z => z h0), k58_34 hi0 (by rw [ez, e6]; exact zin_nI r1 (by decide)), ez, e6, zx_nI (by omega), hc.2.2.2 e r1, ← k1]
          by_cases hr : rkI S i = nI R
          · rw [if_neg (fun z => z hr), k58_52]
            obtain ⟨f, f1, f2⟩ := c59 (X := X) (I := I) hc hn hi2 h0
            have hh := aStep_how (S := S) hi2 hn
            have hk2 := aStep_wK hk hi2 h0
            obtain ⟨s2, s0⟩ := aStep_5 hi2 hn h0
            have hx : sNx S n = some i := by
              rcases sNx_ok (S := S) n with h | ⟨m, hm1, hm, hm0, hm2⟩
              · exact absurd h0 (h.2 i hi2)
              · rcases hm2 i hi2 h0 with h | ⟨h, h3⟩
                · rcases hop m hm hm0 with q | ⟨q, q2⟩
                  · rw [hr] at h
                    exact (Int32.lt_irrefl (Int32.lt_trans h q)).elim
                  · rw [hr, q] at h
                    exact (Int32.lt_irrefl h).elim
                · rcases hop m hm hm0 with q | ⟨q, q2⟩
                  · rw [← h, hr] at q
                    exact (Int32.lt_irrefl q).elim
                  · rw [hm1, show m = i by omega]
            have hop2 : ∀ j, j < n → vR (aStep n i S) 5 j = 0 → rkI (aStep n i S) j < nI R ∨ rkI (aStep n i S) j = nI R ∧ i + 1 ≤ j := by
              intro j hj hj0
              obtain ⟨q1, q2⟩ := s0 j hj hj0
              obtain ⟨ej, _, _, _, _, _, w0, _, _, _, _, _, w1, _⟩ := hk.2.2.2.2.1.1 j hj
              rw [rkI_how hh hj ⟨ej, w1, w0⟩]
              rcases hop j hj q1 with h | ⟨h, h2⟩
              · exact Or.inl h
              · exact Or.inr ⟨h, by omega⟩
            have he2 : wE (aStep n i S) := wE_c (fun k k1 k2 => hh.1 k (Or.inl (by omega))) he
            have hst := zJ_step (X := X) (M := M) (a := a) hk hi2 h0
            have hfin : ∀ a', a' = (if sCan (vR S) n (S 0) i = true then a + 1 else a) → zJ X t n I M S a (zr X 58 11 [.ref 2, .int a', .int (nI R), .int (nI i + 1)] [] (zk (zup I 10 f))) := by
              intro a' ha
              rw [← nI_succ]
              obtain ⟨Sf, f', af, y1, y2, y3, y4, y5, y6⟩ := ih (i + 1) (zup I 10 f) (aStep n i S) a' (by omega) f2 hk2 he2 hop2
              rw [zup_zup] at y1 y2
              refine ⟨Sf, f', af, y1, y2, sHow_tr hh y3, y4, fun j hj h2 => y5 j hj (s2 j hj h2), ?_⟩
              rw [hx]
              show zr X 152 7 [.ref 160, .int a, .int (nI i)] [] (zk (zup M 161 S)) = _
              rw [hst, ← ha]
              exact y6
            rw [f1, zcb_some, zn_one, k58_57]
            by_cases b : sCan (vR S) n (S 0) i = true
            · rw [b, zb_t, if_neg (by decide), k58_60]
              exact hfin _ (if_pos b).symm
            · have b' := b
              rw [Bool.not_eq_true] at b
              rw [b, zb_f, if_pos rfl, k58_63]
              exact hfin _ (if_neg b').symm
          · rw [if_pos hr]
            exact hskip (fun z => hr z.2)
        · rw [if_pos h0]
          exact hskip (fun z => h0 z.1)
    have h0 : nI 0 = 0 := nI_0
    rw [← h0]
    refine hB n 0 I S a (by omega) hc hk he (fun j hj hj0 => ?_)
    have h := hop j hj hj0
    obtain ⟨e, _, _, _, _, _, g0, _, _, _, _, _, r1, _⟩ := hk.2.2.2.2.1.1 j hj
    obtain ⟨r, hr, hr2⟩ := he e r1
    have k1 : rkI S j = nI r := by unfold rkI; rw [g0, zx_nI (by omega), hr2]
    rw [k1] at h ⊢
    have h2 := (nI_lt_iff (by omega) (by omega)).mp h
    by_cases e : r = R
    · exact Or.inr ⟨by rw [e], Nat.zero_le _⟩
    · exact Or.inl (nI_lt (by omega) (by omega))
theorem zJ_run {t n : Nat} {M : Nat → Nat → Int32} {S : Nat → Int32} (hc : cJ n I S) (hk : wK S t n) (he : wE S) (hM : M 161 = S) : ∃ (Sf f : Nat → Int32) (af : Int32), zr X 58 0 [.ref 2, .null, .null, .null] [] (zk I) = some (some (.int af), zk (zup I 10 f)) ∧ cJ n (zup I 10 f) Sf ∧ sHow n S Sf ∧ wK Sf t n ∧ (∀ i, i < n → vR S 5 i = 2 → vR Sf 5 i = 2) ∧ zr X 152 0 [.ref 160, .null, .null] [] (zk M) = some (some (.int af), zk (zup M 161 Sf)) := by
  have h := zJ_all (X := X) (M := M) (t := t) (n := n) (fun _ _ => trivial) 10 I S 0 .null (Nat.le_refl _) hc hk he (fun i hi h0 => by
    obtain ⟨e, _, _, _, _, _, g0, _, _, _, _, _, r1, _⟩ := hk.2.2.2.2.1.1 i hi
    obtain ⟨r, hr, hr2⟩ := he e r1
    have k1 : rkI S i = nI r := by unfold rkI; rw [g0, zx_nI (by omega), hr2]
    rw [k1]
    exact nI_lt hr (by decide))
  obtain ⟨Sf, f, af, y1, y2, y3, y4, y5, y6⟩ := h
  refine ⟨Sf, f, af, ?_, y2, y3, y4, y5, ?_⟩
  · rw [k58_0]
    exact y1
  · rw [zup_id hM.symm] at y6
    rw [k152_0, m151 hk hM, zcb_some, zn_one, k152_6]
    exact y6
end B9
