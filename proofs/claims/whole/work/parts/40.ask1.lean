/-! congruences of what is asked of marks; counts as numbers -/
def vEq (V V' : Nat → Nat → Int32) (n : Nat) : Prop := ∀ i w, i < n → w < 6 → V w i = V' w i
theorem vEq_sC {V V' : Nat → Nat → Int32} {n i j : Nat} (h : vEq V V' n) (hi : i < n) (hj : j < n) : sC V i j = sC V' i j := sC_at (fun w hw => h i w hi hw) (fun w hw => h j w hj hw)
theorem vEq_sQ {V V' : Nat → Nat → Int32} {n i j : Nat} (h : vEq V V' n) (hi : i < n) (hj : j < n) : sQ V i j = sQ V' i j := by
  unfold sQ
  rw [vEq_sC h hi hj, h i 0 hi (by decide), h j 0 hj (by decide), h i 5 hi (by decide), h j 5 hj (by decide)]
theorem sN_at {p q : Nat → Bool} {n : Nat} (h : ∀ i, i < n → p i = q i) : sN p n = sN q n := by
  unfold sN
  refine zfo_congr n 0 0 (fun j _ hj a => ?_)
  rw [h j (by omega)]
theorem vEq_sCnt {V V' : Nat → Nat → Int32} {n m : Nat} {w : Int32} (h : vEq V V' n) (hm : m < n) : sCnt V n m w = sCnt V' n m w := by
  unfold sCnt
  refine sN_at (fun i hi => ?_)
  rw [vEq_sC h hm hi, h i 5 hi (by decide)]
theorem vEq_sAny {V V' : Nat → Nat → Int32} {n m : Nat} {w : Int32} (h : vEq V V' n) (hm : m < n) : sAny V n m w = sAny V' n m w := by
  unfold sAny
  refine zan_map (fun i hi => ?_)
  rw [vEq_sC h hm hi, h i 5 hi (by decide)]
theorem vEq_sGs {V V' : Nat → Nat → Int32} {n : Nat} {a : Int32} (h : vEq V V' n) : sGs V n a = sGs V' n a := sGs_at (fun i w hi hw => h i w hi hw)
theorem vEq_sG {V V' : Nat → Nat → Int32} {n i : Nat} (h : vEq V V' n) (hi : i < n) : sG V i = sG V' i := sG_at (fun w hw => h i w hi hw)
theorem vEq_sQi {V V' : Nat → Nat → Int32} {n : Nat} {e : Int32} (h : vEq V V' n) : sQi V n e = sQi V' n e := by
  unfold sQi
  refine zfo_congr n 0 0 (fun i _ hi a => ?_)
  rw [h i 0 (by omega) (by decide), sN_at (fun j hj => vEq_sQ h (by omega : i < n) hj)]
theorem vEq_sQa {V V' : Nat → Nat → Int32} {n : Nat} (h : vEq V V' n) : sQa V n = sQa V' n := by
  unfold sQa
  refine zfo_congr n 0 0 (fun i _ hi a => ?_)
  refine zfo_congr _ _ _ (fun j h1 h2 a => ?_)
  rw [vEq_sQ h (by omega : i < n) (by omega : j < n)]
/-- a count, as a number -/
def zct (p : Nat → Bool) : Nat → Nat
  | 0 => 0
  | n + 1 => zct p n + (if p n = true then 1 else 0)
theorem zct_s {p : Nat → Bool} {n : Nat} : zct p (n + 1) = zct p n + (if p n = true then 1 else 0) := rfl
theorem zct_le (p : Nat → Bool) : ∀ n, zct p n ≤ n
  | 0 => Nat.le_refl _
  | n + 1 => by
    have := zct_le p n
    unfold zct
    split <;> omega
theorem sN_zct (p : Nat → Bool) : ∀ n, sN p n = nI (zct p n)
  | 0 => rfl
  | n + 1 => by
    have h := sN_zct p n
    unfold sN at h ⊢
    rw [zfo_last, h, Nat.zero_add, zct_s]
    split
    · rw [nI_succ]
    · rfl
theorem zct_0 {p : Nat → Bool} : ∀ n, zct p n = 0 ↔ zan p 0 n = false
  | 0 => by simp [zct, zan]
  | n + 1 => by
    have h := zct_0 (p := p) n
    rw [zan_false] at h ⊢
    unfold zct
    constructor
    · intro h1 j hj hj2
      by_cases e : j = n
      · rw [e]
        by_cases q : p n = true
        · rw [if_pos q] at h1; omega
        · simpa using q
      · exact h.mp (by omega) j hj (by omega)
    · intro h1
      rw [h.mpr (fun j a b => h1 j a (by omega)), h1 n (by omega) (by omega)]
      rfl
theorem zct_at {p q : Nat → Bool} : ∀ {n : Nat}, (∀ i, i < n → p i = q i) → zct p n = zct q n
  | 0, _ => rfl
  | n + 1, h => by
    unfold zct
    rw [zct_at (n := n) (fun i hi => h i (by omega)), h n (by omega)]
theorem sCnt_0 {V : Nat → Nat → Int32} {n m : Nat} {w : Int32} (hn : n ≤ 20) : sCnt V n m w = 0 ↔ sAny V n m w = false := by
  unfold sCnt sAny
  rw [sN_zct, ← zct_0]
  have h := zct_le (fun i => !(nI i == nI m) && (V 5 i == w && sC V m i)) n
  rw [show (0 : Int32) = nI 0 from nI_0.symm, nI_inj (by omega) (by decide)]
theorem sC_comm {V : Nat → Nat → Int32} {i j : Nat} : sC V i j = sC V j i := by
  unfold sC sCl
  by_cases a : V 1 i = 1
  · by_cases b : V 1 j = 1
    · rw [if_pos a, if_pos b, if_pos b, if_pos a]
      by_cases c : V 2 i = V 2 j
      · rw [c]
      · rw [decide_eq_false c, decide_eq_false (fun z => c z.symm)]
    · rw [if_pos a, if_neg b, if_neg b, if_pos a]
  · by_cases b : V 1 j = 1
    · rw [if_neg a, if_pos b, if_pos b, if_neg a]
    · rw [if_neg a, if_neg b, if_neg b, if_neg a, Bool.and_comm]
theorem sQ_comm {V : Nat → Nat → Int32} {i j : Nat} : sQ V i j = sQ V j i := by
  unfold sQ
  rw [sC_comm, show (V 0 i == V 0 j) = (V 0 j == V 0 i) from by
    by_cases c : V 0 i = V 0 j
    · rw [c]
    · rw [beq_eq_false_iff_ne.mpr c, beq_eq_false_iff_ne.mpr (fun z => c z.symm)]]
  generalize (!V 0 j == V 0 i) = a
  generalize (!V 5 i == 2) = b
  generalize (!V 5 j == 2) = c
  generalize sC V j i = d
  cases a <;> cases b <;> cases c <;> cases d <;> rfl
theorem sQ_self {V : Nat → Nat → Int32} {i : Nat} : sQ V i i = false := by
  unfold sQ
  simp
/-- pairs: all of them are twice those of which the first is lower -/
def zsm (f : Nat → Nat) : Nat → Nat
  | 0 => 0
  | n + 1 => zsm f n + f n
theorem zsm_at {f g : Nat → Nat} : ∀ {n : Nat}, (∀ i, i < n → f i = g i) → zsm f n = zsm g n
  | 0, _ => rfl
  | n + 1, h => by
    unfold zsm
    rw [zsm_at (n := n) (fun i hi => h i (by omega)), h n (by omega)]
theorem zsm_add {f g : Nat → Nat} : ∀ {n : Nat}, zsm (fun i => f i + g i) n = zsm f n + zsm g n
  | 0 => rfl
  | n + 1 => by
    unfold zsm
    rw [zsm_add (n := n)]
    omega
theorem zsm_le {f : Nat → Nat} {b : Nat} : ∀ {n : Nat}, (∀ i, i < n → f i ≤ b) → zsm f n ≤ n * b
  | 0, _ => by unfold zsm; omega
  | n + 1, h => by
    have h1 := zsm_le (n := n) (fun i hi => h i (by omega))
    have h2 := h n (by omega)
    unfold zsm
    rw [Nat.succ_mul]
    omega
theorem zct_sm {p : Nat → Bool} : ∀ {n : Nat}, zct p n = zsm (fun i => if p i = true then 1 else 0) n
  | 0 => rfl
  | n + 1 => by
    unfold zct zsm
    rw [zct_sm (n := n)]
theorem zpairs {q : Nat → Nat → Bool} (hc : ∀ i j, q i j = q j i) (hs : ∀ i, q i i = false) : ∀ n, zsm (fun i => zct (q i) n) n = 2 * zsm (fun i => zct (q i) i) n
  | 0 => rfl
  | n + 1 => by
    have h := zpairs hc hs n
    unfold zsm
    have h1 : zsm (fun i => zct (q i) (n + 1)) n = zsm (fun i => zct (q i) n) n + zsm (fun i => if q i n = true then 1 else 0) n := by
      rw [← zsm_add]
      rfl
    have h2 : zsm (fun i => if q i n = true then 1 else 0) n = zct (q n) n := by
      rw [zct_sm]
      refine zsm_at (fun i _ => ?_)
      rw [hc]
    have h3 : zct (q n) (n + 1) = zct (q n) n := by
      show zct (q n) n + (if q n n = true then 1 else 0) = _
      rw [hs]
      rfl
    rw [h1, h2, h3, h]
    omega
/-- the class's pairs -/
theorem zfo_cnt (p : Nat → Bool) : ∀ (k i a : Nat), zfo (fun j a => if p j = true then a + 1 else a) i k (nI a) = nI (a + (zct (fun j => p (i + j)) k))
  | 0, i, a => rfl
  | k + 1, i, a => by
    rw [zfo_last, zfo_cnt p k i a, zct_s]
    split
    · rw [← Nat.add_assoc, nI_succ]
    · rfl
theorem zct_rows {q : Nat → Nat → Bool} : ∀ n, zsm (fun i => zct (fun j => q i (i + 1 + j)) (n - (i + 1))) n = zsm (fun j => zct (fun i => q i j) j) n
  | 0 => rfl
  | n + 1 => by
    have h := zct_rows (q := q) n
    unfold zsm
    rw [← h]
    have h1 : zsm (fun i => zct (fun j => q i (i + 1 + j)) (n + 1 - (i + 1))) n = zsm (fun i => zct (fun j => q i (i + 1 + j)) (n - (i + 1))) n + zsm (fun i => if q i n = true then 1 else 0) n := by
      rw [← zsm_add]
      refine zsm_at (fun i hi => ?_)
      rw [show n + 1 - (i + 1) = (n - (i + 1)) + 1 by omega]
      show zct _ (n - (i + 1)) + (if q i (i + 1 + (n - (i + 1))) = true then 1 else 0) = _
      rw [show i + 1 + (n - (i + 1)) = n by omega]
    have h2 : zct (fun j => q n (n + 1 + j)) (n + 1 - (n + 1)) = 0 := by
      rw [Nat.sub_self]
      rfl
    rw [h1, h2, zct_sm]
    omega
theorem sQa_num {V : Nat → Nat → Int32} {n : Nat} : sQa V n = nI (zsm (fun i => zct (sQ V i) i) n) := by
  have h : ∀ k, zfo (fun i a => zfo (fun j a => if sQ V i j = true then a + 1 else a) (i + 1) (n - (i + 1)) a) 0 k 0 = nI (zsm (fun i => zct (fun j => sQ V i (i + 1 + j)) (n - (i + 1))) k) := by
    intro k
    induction k with
    | zero => rfl
    | succ k ih =>
      rw [zfo_last, ih, Nat.zero_add, zfo_cnt]
      rfl
  unfold sQa
  rw [h n, zct_rows]
  congr 1
  refine zsm_at (fun i _ => zct_at (fun j _ => sQ_comm))
theorem sQm_num {V : Nat → Nat → Int32} {n : Nat} : zfo (fun i a => a + sN (fun j => sQ V i j) n) 0 n 0 = nI (zsm (fun i => zct (sQ V i) n) n) := by
  have h : ∀ k, zfo (fun i a => a + sN (fun j => sQ V i j) n) 0 k 0 = nI (zsm (fun i => zct (sQ V i) n) k) := by
    intro k
    induction k with
    | zero => rfl
    | succ k ih =>
      rw [zfo_last, ih, Nat.zero_add, sN_zct, ← zI_add]
      rfl
  exact h n
theorem nI_half {m : Nat} (h : m ≤ 1000) : nI (2 * m) / 2 = nI m := by
  apply Int32.toInt_inj.mp
  rw [Int32.toInt_div, nI_toInt (by omega), nI_toInt (by omega), show (2 : Int32).toInt = 2 from rfl]
  have e : ((2 * m : Nat) : Int).tdiv 2 = (m : Int) := by
    rw [Int.tdiv_eq_ediv_of_nonneg (by omega)]
    omega
  rw [e]
  exact Int.bmod_eq_of_le (by omega) (by omega)
theorem sQ_half {V : Nat → Nat → Int32} {n : Nat} (hn : n ≤ 20) : zfo (fun i a => a + sN (fun j => sQ V i j) n) 0 n 0 / 2 = sQa V n := by
  rw [sQm_num, sQa_num, zpairs (fun i j => sQ_comm) (fun i => sQ_self), nI_half]
  have h1 := zsm_le (f := fun i => zct (fun j => sQ V i j) i) (b := 20) (n := n) (fun i hi => Nat.le_trans (zct_le _ _) (by omega))
  have h2 : n * 20 ≤ 400 := by omega
  exact Nat.le_trans h1 (by omega)
