/-! LAYER 2: tools. Numbers, loops, updates -/
theorem zx_nI {k : Nat} (h : k < 2 ^ 31) : zx (nI k) = k := nI_clamp h
theorem zin_nI {k N : Nat} (h : k < N) (hN : N < 2 ^ 31) : zin (nI k) N = true := by
  unfold zin
  rw [nI_clamp (by omega)]
  simp only [Bool.and_eq_true, decide_eq_true_eq]
  exact ⟨nI_pos (by omega), h⟩
theorem nI_le_iff {a b : Nat} (ha : a < 2 ^ 31) (hb : b < 2 ^ 31) : nI a ≤ nI b ↔ a ≤ b := by
  constructor
  · intro h
    rcases Nat.lt_or_ge b a with q | q
    · exact absurd h (nI_ge q ha)
    · exact q
  · intro h
    exact nI_le h hb
theorem nI_lt_iff {a b : Nat} (ha : a < 2 ^ 31) (hb : b < 2 ^ 31) : nI a < nI b ↔ a < b := by
  constructor
  · intro h
    rcases Nat.lt_or_ge a b with q | q
    · exact q
    · exact absurd h (nI_nlt q ha)
  · intro h
    exact nI_lt h hb
theorem nI_inj {a b : Nat} (ha : a < 2 ^ 31) (hb : b < 2 ^ 31) : nI a = nI b ↔ a = b := by
  constructor
  · intro h
    have h1 := congrArg Int32.toNatClampNeg h
    rwa [nI_clamp ha, nI_clamp hb] at h1
  · intro h
    rw [h]
/-- an int at least 0 is the number of a natural one -/
theorem nI_zx {i : Int32} (h : ¬ i < 0) : nI (zx i) = i := by
  apply Int32.toInt_inj.mp
  have h0 : (0 : Int) ≤ i.toInt := by
    have := Int32.not_lt.mp h
    simpa using Int32.le_iff_toInt_le.mp this
  have h1 : i.toInt < 2 ^ 31 := Int32.toInt_lt i
  have h2 : zx i = i.toInt.toNat := rfl
  rw [nI_toInt (by omega), h2]
  omega
theorem zx_lt (i : Int32) : zx i < 2 ^ 31 := by
  have h1 : i.toInt < 2 ^ 31 := Int32.toInt_lt i
  show i.toInt.toNat < _
  omega
/-- truth values as ints -/
def zb (p : Bool) : Int32 := cond p 1 0
theorem zb_01 (p : Bool) : zb p = 0 ∨ zb p = 1 := by cases p <;> simp [zb]
theorem zb_0 (p : Bool) : zb p = 0 ↔ p = false := by cases p <;> simp [zb]
theorem zb_t : zb true = 1 := rfl
theorem zb_f : zb false = 0 := rfl
/-- a fold over i, i + 1, .. of k places -/
def zfo {β : Type} (f : Nat → β → β) : Nat → Nat → β → β
  | _, 0, a => a
  | i, k + 1, a => zfo f (i + 1) k (f i a)
theorem zfo_congr {β : Type} {f g : Nat → β → β} : ∀ (k i : Nat) (a : β), (∀ j, i ≤ j → j < i + k → ∀ a, f j a = g j a) → zfo f i k a = zfo g i k a
  | 0, _, _, _ => rfl
  | k + 1, i, a, h => by
    unfold zfo
    rw [h i (Nat.le_refl _) (by omega)]
    exact zfo_congr k (i + 1) _ (fun j h1 h2 => h j (by omega) (by omega))
theorem zfo_last {β : Type} (f : Nat → β → β) : ∀ (k i : Nat) (a : β), zfo f i (k + 1) a = f (i + k) (zfo f i k a)
  | 0, _, _ => rfl
  | k + 1, i, a => by
    show zfo f (i + 1) (k + 1) (f i a) = f (i + (k + 1)) (zfo f (i + 1) k (f i a))
    rw [zfo_last f k (i + 1) (f i a), show i + 1 + k = i + (k + 1) by omega]
/-- what holds at the start and is kept holds at the end -/
theorem zfo_inv {β : Type} {f : Nat → β → β} (P : Nat → β → Prop) : ∀ (k i : Nat) (a : β), P i a → (∀ j a, i ≤ j → j < i + k → P j a → P (j + 1) (f j a)) → P (i + k) (zfo f i k a)
  | 0, _, _, h, _ => h
  | k + 1, i, a, h, hs => by
    have h1 := zfo_inv P k (i + 1) (f i a) (hs i a (Nat.le_refl _) (by omega) h) (fun j a h1 h2 => hs j a (by omega) (by omega))
    rw [show i + (k + 1) = i + 1 + k by omega]
    exact h1
/-- is there one among i, i + 1, .. -/
def zan (p : Nat → Bool) : Nat → Nat → Bool
  | _, 0 => false
  | i, k + 1 => p i || zan p (i + 1) k
theorem zan_congr {p q : Nat → Bool} : ∀ (k i : Nat), (∀ j, i ≤ j → j < i + k → p j = q j) → zan p i k = zan q i k
  | 0, _, _ => rfl
  | k + 1, i, h => by
    unfold zan
    rw [h i (Nat.le_refl _) (by omega), zan_congr k (i + 1) (fun j h1 h2 => h j (by omega) (by omega))]
theorem zan_true {p : Nat → Bool} : ∀ (k i : Nat), zan p i k = true ↔ ∃ j, i ≤ j ∧ j < i + k ∧ p j = true
  | 0, i => by
    unfold zan
    constructor
    · intro h; cases h
    · rintro ⟨j, h1, h2, -⟩; omega
  | k + 1, i => by
    unfold zan
    rw [Bool.or_eq_true, zan_true k (i + 1)]
    constructor
    · rintro (h | ⟨j, h1, h2, h3⟩)
      · exact ⟨i, Nat.le_refl _, by omega, h⟩
      · exact ⟨j, by omega, by omega, h3⟩
    · rintro ⟨j, h1, h2, h3⟩
      rcases Nat.lt_or_ge i j with q | q
      · exact Or.inr ⟨j, q, by omega, h3⟩
      · rw [show i = j by omega]
        exact Or.inl h3
theorem zan_false {p : Nat → Bool} (k i : Nat) : zan p i k = false ↔ ∀ j, i ≤ j → j < i + k → p j = false := by
  rw [← Bool.not_eq_true, zan_true]
  constructor
  · intro h j h1 h2
    cases e : p j with
    | false => rfl
    | true => exact absurd ⟨j, h1, h2, e⟩ h
  · rintro h ⟨j, h1, h2, h3⟩
    rw [h j h1 h2] at h3
    cases h3
/-- a loop whose rounds go one to the next -/
theorem zloop {α β : Type} {F : Nat → β → α} {R : β → α} {f : Nat → β → β} {n : Nat} (hb : ∀ i a, i < n → F i a = F (i + 1) (f i a)) (he : ∀ a, F n a = R a) : ∀ (k i : Nat) (a : β), i + k = n → F i a = R (zfo f i k a)
  | 0, i, a, h => by
    rw [show i = n by omega, he]
    rfl
  | k + 1, i, a, h => by
    rw [hb i a (by omega)]
    exact zloop hb he k (i + 1) (f i a) (by omega)
/-- the same, kept within what holds -/
theorem zloopP {α β : Type} {F : Nat → β → α} {R : β → α} {f : Nat → β → β} {n : Nat} (P : Nat → β → Prop) (hb : ∀ i a, i < n → P i a → F i a = F (i + 1) (f i a) ∧ P (i + 1) (f i a)) (he : ∀ a, P n a → F n a = R a) : ∀ (k i : Nat) (a : β), i + k = n → P i a → F i a = R (zfo f i k a)
  | 0, i, a, h, hp => by
    have e : i = n := by omega
    subst e
    rw [he a hp]
    rfl
  | k + 1, i, a, h, hp => by
    obtain ⟨h1, h2⟩ := hb i a (by omega) hp
    rw [h1]
    exact zloopP P hb he k (i + 1) (f i a) (by omega) h2
/-- a loop that ends at the first place that is looked for -/
theorem zlook {α : Type} {F : Nat → α} {T E : α} {p : Nat → Bool} {n : Nat} (hb : ∀ i, i < n → F i = if p i = true then T else F (i + 1)) (he : F n = E) : ∀ (k i : Nat), i + k = n → F i = if zan p i k = true then T else E
  | 0, i, h => by
    rw [show i = n by omega, he]
    rfl
  | k + 1, i, h => by
    rw [hb i (by omega), zlook hb he k (i + 1) (by omega), show zan p i (k + 1) = (p i || zan p (i + 1) k) from rfl]
    by_cases hp : p i = true
    · rw [if_pos hp, if_pos (by rw [hp]; rfl)]
    · rw [if_neg hp]
      simp only [Bool.not_eq_true] at hp
      rw [hp, Bool.false_or]
/-- cells behind a store -/
theorem zs1_ne {I : Nat → Nat → Int32} {t k j : Nat} {x : Int32} (h : j ≠ t) : zs1 I t k x j = I j := by
  unfold zs1 zup
  exact if_neg h
theorem zs1_self {I : Nat → Nat → Int32} {t k : Nat} {x : Int32} : zs1 I t k x t = upd (I t) k x := by
  unfold zs1 zup
  exact if_pos rfl
theorem zs2_ne {I : Nat → Nat → Int32} {s d j k z q : Nat} (h : q ≠ d) : zs2 I s d j k z q = I q := by
  unfold zs2 zup
  exact if_neg h
theorem zs2_self {I : Nat → Nat → Int32} {s d j k z : Nat} : zs2 I s d j k z d = va_cpy (I s) (I d) j k z := by
  unfold zs2 zup
  exact if_pos rfl
theorem upd_at (f : Nat → Int32) (k : Nat) (x : Int32) (j : Nat) : upd f k x j = if j = k then x else f j := rfl
theorem cpy_at (f g : Nat → Int32) (sp dp n j : Nat) : va_cpy f g sp dp n j = if dp ≤ j ∧ j < dp + n then f (sp + (j - dp)) else g j := rfl
theorem zn_nil (r : List Value) : (none : Option Value).toList ++ r = r := rfl
theorem zn_one (v : Value) (r : List Value) : (some v).toList ++ r = v :: r := rfl
theorem nI_one : nI 1 = 1 := by decide
