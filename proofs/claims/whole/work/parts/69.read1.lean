/-! READING: marks of a text -/
abbrev Rec := Nat × Nat × Nat × Nat × Nat × Nat
def d0 : Rec := (0, 0, 0, 0, 0, 0)
def dgt (P : Nat → Int32) (p i : Nat) : Bool := decide (i < p) && (decide (¬ P i < 48) && decide (¬ 57 < P i))
def dvl (P : Nat → Int32) (i : Nat) : Nat := zx (P i - 48)
def sgn (P : Nat → Int32) (p : Nat) (x : Int32) (i : Nat) : Bool := decide (i < p) && decide (P i = x)
def ltr (P : Nat → Int32) (p i : Nat) : Bool := decide (i < p) && pLt (P i)
/-- where a gap ends, and which it is -/
def two (P : Nat → Int32) (p i : Nat) : Bool := decide (dvl P i ≠ 0) && (dgt P p (i + 1) && decide (10 * dvl P i + dvl P (i + 1) ≤ 60))
def rGap (P : Nat → Int32) (p i : Nat) : Nat × Option Nat := if dgt P p i = true then (if two P p i = true then (i + 2, some (10 * dvl P i + dvl P (i + 1))) else (i + 1, some (dvl P i))) else (i, none)
/-- how many letters stand there -/
def rCnt (P : Nat → Int32) (p : Nat) : Nat → Nat → Nat
  | 0, _ => 0
  | f + 1, i => if ltr P p i = true then rCnt P p f (i + 1) + 1 else 0
def rGps (P : Nat → Int32) (p i : Nat) : Nat × Option (Nat × Nat) := match rGap P p i with
  | (j, none) => (j, none)
  | (j, some a) => if sgn P p 58 j = true then (match rGap P p (j + 1) with
      | (q, none) => (q, none)
      | (q, some b) => (q, some (a, b))) else (j, none)
def rOne (P : Nat → Int32) (p i : Nat) : Nat × Option (Nat × Nat) := match rGap P p i with
  | (j, none) => (j, none)
  | (j, some a) => (j, some (a, a))
def rLts (P : Nat → Int32) (p e k : Nat) (x : Nat × Option (Nat × Nat)) : Nat × Option Rec := match x with
  | (j, none) => (j, none)
  | (j, some ab) => if rCnt P p 6 j = 0 then (j, none) else (j + rCnt P p 6 j, some (e, k, ab.1, ab.2, rCnt P p 6 j, j))
def rStk (e : Nat) (x : Nat × Option (Nat × Nat)) : Nat × Option Rec := match x with
  | (j, none) => (j, none)
  | (j, some ab) => (j, some (e, 0, ab.1, ab.2, 0, j))
def rMk (P : Nat → Int32) (p i : Nat) : Nat × Option Rec :=
  if (dgt P p i && decide (dvl P i < 5)) = true then
    (if sgn P p 45 (i + 1) = true then rStk (dvl P i) (rGps P p (i + 2))
      else if sgn P p 61 (i + 1) = true then rLts P p (dvl P i) 2 (rGps P p (i + 2))
      else if sgn P p 43 (i + 1) = true then rLts P p (dvl P i) 1 (rOne P p (i + 2))
      else (i + 1, none))
  else (i, none)
/-- all of them: where it stops, whether it is well, the marks -/
def rNx (P : Nat → Int32) (p : Nat) : Nat → Nat → List Rec → Nat × Bool × List Rec
  | 0, j, l => (j, false, l)
  | f + 1, j, l => if j < p then (if sgn P p 44 j = true then (match rMk P p (j + 1) with
      | (q, none) => (q, false, l)
      | (q, some r) => rNx P p f q (l ++ [r])) else (j, false, l)) else (j, true, l)
def rRd (P : Nat → Int32) (p : Nat) : Nat × Bool × List Rec := match rMk P p 0 with
  | (q, none) => (q, false, [])
  | (q, some r) => rNx P p 61 q [r]
theorem dgt_lt {P : Nat → Int32} {p i : Nat} (h : dgt P p i = true) : i < p := by
  unfold dgt at h
  rw [Bool.and_eq_true] at h
  exact of_decide_eq_true h.1
theorem sgn_lt {P : Nat → Int32} {p i : Nat} {x : Int32} (h : sgn P p x i = true) : i < p := by
  unfold sgn at h
  rw [Bool.and_eq_true] at h
  exact of_decide_eq_true h.1
theorem ltr_lt {P : Nat → Int32} {p i : Nat} (h : ltr P p i = true) : i < p := by
  unfold ltr at h
  rw [Bool.and_eq_true] at h
  exact of_decide_eq_true h.1
theorem dgt_v {P : Nat → Int32} {p i : Nat} (h : dgt P p i = true) : P i - 48 = nI (dvl P i) ∧ dvl P i < 10 := by
  unfold dgt at h
  simp only [Bool.and_eq_true, decide_eq_true_eq] at h
  obtain ⟨-, h1, h2⟩ := h
  have h0 : ¬ P i < 0 := fun z => h1 (Int32.lt_trans z (by decide))
  have e := nI_zx h0
  have hz := zx_lt (P i)
  rw [← e, show (48 : Int32) = nI 48 from rfl, nI_lt_iff (by omega) (by omega)] at h1
  rw [← e, show (57 : Int32) = nI 57 from rfl, nI_lt_iff (by omega) (by omega)] at h2
  have e2 : P i - 48 = nI (zx (P i) - 48) := by
    have := zI_sub (a := zx (P i)) (b := 48) (by omega)
    rw [e] at this
    exact this
  unfold dvl
  rw [e2, zx_nI (by omega)]
  exact ⟨rfl, by omega⟩
theorem rGap_le {P : Nat → Int32} {p i : Nat} (hi : i ≤ p) : i ≤ (rGap P p i).1 ∧ (rGap P p i).1 ≤ p ∧ ∀ a, (rGap P p i).2 = some a → i < (rGap P p i).1 ∧ a ≤ 60 := by
  unfold rGap
  by_cases a : dgt P p i = true
  · have h1 := dgt_lt a
    have h2 := (dgt_v a).2
    rw [if_pos a]
    by_cases b : two P p i = true
    · rw [if_pos b]
      unfold two at b
      simp only [Bool.and_eq_true, decide_eq_true_eq] at b
      have h3 := dgt_lt b.2.1
      exact ⟨by omega, h3, fun a ha => ⟨by show i < i + 2; omega, by cases ha; exact b.2.2⟩⟩
    · rw [if_neg b]
      exact ⟨by omega, h1, fun a ha => ⟨Nat.lt_succ_self i, by cases ha; omega⟩⟩
  · rw [if_neg a]
    exact ⟨Nat.le_refl i, hi, fun a ha => by cases ha⟩
theorem rCnt_le {P : Nat → Int32} {p : Nat} : ∀ f i, i ≤ p → rCnt P p f i ≤ f ∧ i + rCnt P p f i ≤ p
  | 0, i, hi => ⟨Nat.le_refl _, hi⟩
  | f + 1, i, hi => by
    unfold rCnt
    by_cases a : ltr P p i = true
    · have h1 := ltr_lt a
      have h2 := rCnt_le (P := P) (p := p) f (i + 1) h1
      rw [if_pos a]
      omega
    · rw [if_neg a]
      omega
theorem rGps_le {P : Nat → Int32} {p i : Nat} (hi : i ≤ p) : i ≤ (rGps P p i).1 ∧ (rGps P p i).1 ≤ p ∧ ∀ ab, (rGps P p i).2 = some ab → i + 2 ≤ (rGps P p i).1 ∧ ab.1 ≤ 60 ∧ ab.2 ≤ 60 := by
  have h1 := rGap_le (P := P) hi
  unfold rGps
  rcases e : rGap P p i with ⟨j, _ | a⟩
  · rw [e] at h1
    exact ⟨h1.1, h1.2.1, fun ab z => by cases z⟩
  · rw [e] at h1
    have h2 := h1.2.2 a rfl
    have h3 : j ≤ p := h1.2.1
    have h4 : i < j := h2.1
    have h5 : a ≤ 60 := h2.2
    dsimp only
    by_cases b : sgn P p 58 j = true
    · have h6 := sgn_lt b
      have h7 := rGap_le (P := P) (p := p) (i := j + 1) h6
      rw [if_pos b]
      rcases e2 : rGap P p (j + 1) with ⟨q, _ | c⟩
      · rw [e2] at h7
        have h8 : j + 1 ≤ q := h7.1
        exact ⟨by show i ≤ q; omega, h7.2.1, fun ab z => by cases z⟩
      · rw [e2] at h7
        have h8 : j + 1 < q := (h7.2.2 c rfl).1
        refine ⟨by show i ≤ q; omega, h7.2.1, fun ab z => ?_⟩
        cases z
        exact ⟨by show i + 2 ≤ q; omega, h5, (h7.2.2 c rfl).2⟩
    · rw [if_neg b]
      exact ⟨by show i ≤ j; omega, h3, fun ab z => by cases z⟩
theorem rOne_le {P : Nat → Int32} {p i : Nat} (hi : i ≤ p) : i ≤ (rOne P p i).1 ∧ (rOne P p i).1 ≤ p ∧ ∀ ab, (rOne P p i).2 = some ab → i + 1 ≤ (rOne P p i).1 ∧ ab.1 ≤ 60 ∧ ab.2 = ab.1 := by
  have h1 := rGap_le (P := P) hi
  unfold rOne
  rcases e : rGap P p i with ⟨j, _ | a⟩
  · rw [e] at h1
    exact ⟨h1.1, h1.2.1, fun ab z => by cases z⟩
  · rw [e] at h1
    have h2 := h1.2.2 a rfl
    refine ⟨h1.1, h1.2.1, fun ab z => ?_⟩
    cases z
    exact ⟨h2.1, h2.2, rfl⟩
/-- what a mark of a text keeps to -/
def okR (q : Rec) : Prop := q.1 < 5 ∧ q.2.1 < 3 ∧ q.2.2.1 ≤ 60 ∧ q.2.2.2.1 ≤ 60 ∧ q.2.2.2.2.1 ≤ 6 ∧ (q.2.1 = 1 → q.2.2.1 = q.2.2.2.1) ∧ (q.2.1 = 0 → q.2.2.2.2.1 = 0)
theorem rMk_le {P : Nat → Int32} {p i : Nat} (hi : i ≤ p) : i ≤ (rMk P p i).1 ∧ (rMk P p i).1 ≤ p ∧ ∀ q, (rMk P p i).2 = some q → i + 4 ≤ (rMk P p i).1 ∧ okR q := by
  unfold rMk
  by_cases a : (dgt P p i && decide (dvl P i < 5)) = true
  · rw [if_pos a]
    rw [Bool.and_eq_true, decide_eq_true_eq] at a
    obtain ⟨a1, a2⟩ := a
    have h1 := dgt_lt a1
    by_cases b : sgn P p 45 (i + 1) = true
    · have h2 := sgn_lt b
      have h3 := rGps_le (P := P) (p := p) (i := i + 2) h2
      rw [if_pos b]
      unfold rStk
      rcases e : rGps P p (i + 2) with ⟨j, _ | ab⟩
      · rw [e] at h3
        have h4 : i + 2 ≤ j := h3.1
        exact ⟨by show i ≤ j; omega, h3.2.1, fun q z => by cases z⟩
      · rw [e] at h3
        have h4 : i + 2 + 2 ≤ j := (h3.2.2 ab rfl).1
        refine ⟨by show i ≤ j; omega, h3.2.1, fun q z => ?_⟩
        cases z
        exact ⟨by show i + 4 ≤ j; omega, a2, (by decide : 0 < 3), (h3.2.2 ab rfl).2.1, (h3.2.2 ab rfl).2.2, (by decide : 0 ≤ 6), fun z => absurd z (by decide : ¬ (0 : Nat) = 1), fun _ => rfl⟩
    · rw [if_neg b]
      by_cases c : sgn P p 61 (i + 1) = true
      · have h2 := sgn_lt c
        have h3 := rGps_le (P := P) (p := p) (i := i + 2) h2
        rw [if_pos c]
        unfold rLts
        rcases e : rGps P p (i + 2) with ⟨j, _ | ab⟩
        · rw [e] at h3
          have h4 : i + 2 ≤ j := h3.1
          exact ⟨by show i ≤ j; omega, h3.2.1, fun q z => by cases z⟩
        · rw [e] at h3
          have h4 : i + 2 + 2 ≤ j := (h3.2.2 ab rfl).1
          have h5 := rCnt_le (P := P) (p := p) 6 j h3.2.1
          dsimp only
          by_cases d : rCnt P p 6 j = 0
          · rw [if_pos d]
            exact ⟨by show i ≤ j; omega, h3.2.1, fun q z => by cases z⟩
          · rw [if_neg d]
            refine ⟨by show i ≤ j + _; omega, h5.2, fun q z => ?_⟩
            cases z
            exact ⟨by show i + 4 ≤ j + _; omega, a2, (by decide : 2 < 3), (h3.2.2 ab rfl).2.1, (h3.2.2 ab rfl).2.2, h5.1, fun z => absurd z (by decide : ¬ (2 : Nat) = 1), fun z => absurd z (by decide : ¬ (2 : Nat) = 0)⟩
      · rw [if_neg c]
        by_cases c2 : sgn P p 43 (i + 1) = true
        · have h2 := sgn_lt c2
          have h3 := rOne_le (P := P) (p := p) (i := i + 2) h2
          rw [if_pos c2]
          unfold rLts
          rcases e : rOne P p (i + 2) with ⟨j, _ | ab⟩
          · rw [e] at h3
            have h4 : i + 2 ≤ j := h3.1
            exact ⟨by show i ≤ j; omega, h3.2.1, fun q z => by cases z⟩
          · rw [e] at h3
            have h4 : i + 2 + 1 ≤ j := (h3.2.2 ab rfl).1
            have h5 := rCnt_le (P := P) (p := p) 6 j h3.2.1
            have h6 := (h3.2.2 ab rfl).2
            dsimp only
            by_cases d : rCnt P p 6 j = 0
            · rw [if_pos d]
              exact ⟨by show i ≤ j; omega, h3.2.1, fun q z => by cases z⟩
            · rw [if_neg d]
              refine ⟨by show i ≤ j + _; omega, h5.2, fun q z => ?_⟩
              cases z
              exact ⟨by show i + 4 ≤ j + _; omega, a2, (by decide : 1 < 3), h6.1, (by show ab.2 ≤ 60; rw [h6.2]; exact h6.1), h5.1, fun _ => h6.2.symm, fun z => absurd z (by decide : ¬ (1 : Nat) = 0)⟩
        · rw [if_neg c2]
          exact ⟨by show i ≤ i + 1; omega, h1, fun q z => by cases z⟩
  · rw [if_neg a]
    exact ⟨Nat.le_refl i, hi, fun q z => by cases z⟩
