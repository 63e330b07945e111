/-! WHAT HOLDS BETWEEN THE CLASS AND THE REFERENCE -/
/-- a sheet at b of the class's holds the state S -/
def hT (I : Nat → Nat → Int32) (b : Nat) (S : Nat → Int32) : Prop := I (b + 1) 1 = S 0 ∧ ∀ k, k < zx (S 0) → I (b + 2) k = S (1 + k)
def hK (I : Nat → Nat → Int32) (b : Nat) (S : Nat → Int32) : Prop := I (b + 3) 7 = S 66 ∧ (∀ i w, i < zx (S 66) → w < 6 → vC I (b + 4) w i = vR S w i) ∧ (∀ i k, i < zx (S 66) → k < zx (vR S 4 i) → I (b + 10) (6 * i + k) = vR S (6 + k) i)
def hE (I : Nat → Nat → Int32) (b : Nat) (S : Nat → Int32) : Prop := ∀ k, k < 5 → I (b + 14) k = S (61 + k)
def hV (I : Nat → Nat → Int32) (b : Nat) (S : Nat → Int32) : Prop := I (b + 11) 2 = S 307 ∧ ∀ j, j < zx (S 308) → I (b + 13) ((zx (S 307) - 1 - j) % 6) = S (309 + 61 * j) ∧ ∀ k, k < zx (S (309 + 61 * j)) → I (b + 12) (60 * ((zx (S 307) - 1 - j) % 6) + k) = S (310 + 61 * j + k)
def hR (I : Nat → Nat → Int32) (b : Nat) (S : Nat → Int32) : Prop := hT I b S ∧ hK I b S ∧ hE I b S ∧ hV I b S
/-- what a state keeps to: text, marks, ranks, versions -/
def wM (t : Nat) (V : Nat → Nat → Int32) (i : Nat) : Prop := ∃ e k a b p h : Nat, V 0 i = nI e ∧ V 1 i = nI k ∧ V 2 i = nI a ∧ V 3 i = nI b ∧ V 4 i = nI p ∧ V 5 i = nI h ∧ e < 5 ∧ k < 3 ∧ a ≤ b ∧ b ≤ t ∧ p ≤ 6 ∧ h < 3 ∧ (k = 1 ↔ a = b) ∧ (k = 0 → p = 0)
def wMs (t n : Nat) (V : Nat → Nat → Int32) : Prop := (∀ i, i < n → wM t V i) ∧ (∀ i j, i < n → j < n → i ≠ j → V 0 i = V 0 j → V 5 i ≠ 2 → V 5 j ≠ 2 → sC V i j = false) ∧ (∀ i j, i < n → j < n → i ≠ j → V 5 i = 1 → V 5 j = 1 → sC V i j = false)
def wK (S : Nat → Int32) (t n : Nat) : Prop := t ≤ 60 ∧ n ≤ 20 ∧ S 0 = nI t ∧ S 66 = nI n ∧ wMs t n (vR S) ∧ ¬ (60 : Int32) < sGs (vR S) n (S 0)
def wE (S : Nat → Int32) : Prop := ∀ k, k < 5 → ∃ r : Nat, r < 10 ∧ S (61 + k) = nI r
def wV (c : Nat) (S : Nat → Int32) : Prop := ∃ v : Nat, v ≤ c ∧ S 307 = nI v ∧ S 308 = nI (min v 6) ∧ ∀ j, j < min v 6 → ∃ l : Nat, l ≤ 60 ∧ S (309 + 61 * j) = nI l
def wS (c : Nat) (S : Nat → Int32) : Prop := (∃ t n, wK S t n) ∧ wE S ∧ wV c S
theorem wV_le {c d : Nat} {S : Nat → Int32} (h : wV c S) (hd : c ≤ d) : wV d S := by
  obtain ⟨v, h1, h2⟩ := h
  exact ⟨v, by omega, h2⟩
theorem wS_le {c d : Nat} {S : Nat → Int32} (h : wS c S) (hd : c ≤ d) : wS d S := ⟨h.1, h.2.1, wV_le h.2.2 hd⟩
/-- states that are the same within their room -/
def zEq (S S' : Nat → Int32) : Prop := ∀ k, k < 675 → S k = S' k
theorem vR_eq {S S' : Nat → Int32} (h : zEq S S') {w i : Nat} (hw : w < 12) (hi : i < 20) : vR S w i = vR S' w i := h _ (by omega)
theorem sC_at {V V' : Nat → Nat → Int32} {i j : Nat} (hi : ∀ w, w < 6 → V w i = V' w i) (hj : ∀ w, w < 6 → V w j = V' w j) : sC V i j = sC V' i j := by
  unfold sC
  rw [hi 1 (by decide), hi 2 (by decide), hi 3 (by decide), hj 1 (by decide), hj 2 (by decide), hj 3 (by decide)]
theorem sG_at {V V' : Nat → Nat → Int32} {i : Nat} (hi : ∀ w, w < 6 → V w i = V' w i) : sG V i = sG V' i := by
  unfold sG
  rw [hi 2 (by decide), hi 3 (by decide), hi 4 (by decide)]
theorem sGs_at {V V' : Nat → Nat → Int32} {n : Nat} {a : Int32} (h : ∀ i w, i < n → w < 6 → V w i = V' w i) : sGs V n a = sGs V' n a := by
  unfold sGs
  refine zfo_congr n 0 a (fun j _ hj a => ?_)
  rw [sG_at (fun w hw => h j w (by omega) hw), h j 5 (by omega) (by decide)]
theorem wM_at {t : Nat} {V V' : Nat → Nat → Int32} {i : Nat} (h : ∀ w, w < 6 → V w i = V' w i) (hw : wM t V i) : wM t V' i := by
  obtain ⟨e, k, a, b, p, q, h0, h1, h2, h3, h4, h5, hr⟩ := hw
  refine ⟨e, k, a, b, p, q, ?_, ?_, ?_, ?_, ?_, ?_, hr⟩
  · rw [← h 0 (by decide)]; exact h0
  · rw [← h 1 (by decide)]; exact h1
  · rw [← h 2 (by decide)]; exact h2
  · rw [← h 3 (by decide)]; exact h3
  · rw [← h 4 (by decide)]; exact h4
  · rw [← h 5 (by decide)]; exact h5
theorem wMs_at {t n : Nat} {V V' : Nat → Nat → Int32} (h : ∀ i w, i < n → w < 6 → V w i = V' w i) (hw : wMs t n V) : wMs t n V' := by
  obtain ⟨h1, h2, h3⟩ := hw
  refine ⟨fun i hi => wM_at (fun w hw => h i w hi hw) (h1 i hi), fun i j hi hj hij a b c => ?_, fun i j hi hj hij a b => ?_⟩
  · rw [← sC_at (fun w hw => h i w hi hw) (fun w hw => h j w hj hw)]
    refine h2 i j hi hj hij ?_ ?_ ?_
    · rw [h i 0 hi (by decide), h j 0 hj (by decide)]; exact a
    · rw [h i 5 hi (by decide)]; exact b
    · rw [h j 5 hj (by decide)]; exact c
  · rw [← sC_at (fun w hw => h i w hi hw) (fun w hw => h j w hj hw)]
    refine h3 i j hi hj hij ?_ ?_
    · rw [h i 5 hi (by decide)]; exact a
    · rw [h j 5 hj (by decide)]; exact b
theorem wK_eq {S S' : Nat → Int32} {t n : Nat} (h : zEq S S') (hw : wK S t n) : wK S' t n := by
  obtain ⟨h1, h2, h3, h4, h5, h7⟩ := hw
  refine ⟨h1, h2, (h 0 (by decide)).symm.trans h3, (h 66 (by decide)).symm.trans h4, wMs_at (fun i w hi hw => vR_eq h (by omega) (by omega)) h5, ?_⟩
  rw [← sGs_at (fun i w hi hw => vR_eq h (by omega) (by omega)), ← h 0 (by decide)]
  exact h7
theorem wS_eq {c : Nat} {S S' : Nat → Int32} (h : zEq S S') (hw : wS c S) : wS c S' := by
  obtain ⟨⟨t, n, h1⟩, h2, v, h3, h4, h5, h6⟩ := hw
  refine ⟨⟨t, n, wK_eq h h1⟩, fun k hk => ?_, v, h3, (h _ (by decide)).symm.trans h4, (h _ (by decide)).symm.trans h5, fun j hj => ?_⟩
  · obtain ⟨r, h7, h8⟩ := h2 k hk
    exact ⟨r, h7, (h _ (by omega)).symm.trans h8⟩
  · obtain ⟨l, h7, h8⟩ := h6 j hj
    exact ⟨l, h7, (h _ (by omega)).symm.trans h8⟩
theorem wK_n {S : Nat → Int32} {t n : Nat} (h : wK S t n) : zx (S 66) = n := by rw [h.2.2.2.1]; exact zx_nI (by have := h.2.1; omega)
theorem wK_t {S : Nat → Int32} {t n : Nat} (h : wK S t n) : zx (S 0) = t := by rw [h.2.2.1]; exact zx_nI (by have := h.1; omega)
theorem wM_p {t : Nat} {V : Nat → Nat → Int32} {i : Nat} (h : wM t V i) : zx (V 4 i) ≤ 6 ∧ ¬ V 4 i < 0 := by
  obtain ⟨e, k, a, b, p, q, h0, h1, h2, h3, h4, h5, e1, e2, e3, e4, e5, -⟩ := h
  rw [h4, zx_nI (by omega)]
  exact ⟨e5, nI_pos (by omega)⟩
theorem hR_eq {c : Nat} {I : Nat → Nat → Int32} {b : Nat} {S S' : Nat → Int32} (h : zEq S S') (hw : wS c S) (hr : hR I b S) : hR I b S' := by
  obtain ⟨⟨t, n, hk⟩, he, v, hv, hv1, hv2, hv3⟩ := hw
  have e66 := h 66 (by decide)
  have e0 := h 0 (by decide)
  have e307 := h 307 (by decide)
  have e308 := h 308 (by decide)
  have hn := wK_n hk
  have ht := wK_t hk
  have h60 : t ≤ 60 := hk.1
  have h20 : n ≤ 20 := hk.2.1
  obtain ⟨⟨a1, a2⟩, ⟨b1, b2, b3⟩, c1, d1, d2⟩ := hr
  refine ⟨⟨a1.trans e0, fun k hk => ?_⟩, ⟨b1.trans e66, fun i w hi hw => ?_, fun i k hi hk2 => ?_⟩, fun k hk => (c1 k hk).trans (h _ (by omega)), d1.trans e307, fun j hj => ?_⟩
  · rw [← e0] at hk
    exact (a2 k hk).trans (h _ (by omega))
  · rw [← e66] at hi
    exact (b2 i w hi hw).trans (vR_eq h (by omega) (by omega))
  · rw [← e66] at hi
    have e4 := vR_eq h (w := 4) (i := i) (by decide) (by omega)
    rw [← e4] at hk2
    have := (wM_p (hk.2.2.2.2.1.1 i (by omega))).1
    exact (b3 i k hi hk2).trans (vR_eq h (by omega) (by omega))
  · rw [← e308] at hj
    have hj6 : j < min v 6 := by
      rw [hv2, zx_nI (by omega)] at hj
      exact hj
    obtain ⟨l, h7, h8⟩ := hv3 j hj6
    obtain ⟨f1, f2⟩ := d2 j hj
    rw [← e307]
    refine ⟨f1.trans (h _ (by omega)), fun k hk2 => ?_⟩
    have e9 := h (309 + 61 * j) (by omega)
    rw [← e9] at hk2
    refine (f2 k hk2).trans (h _ ?_)
    rw [h8, zx_nI (by omega)] at hk2
    omega
/-- what one sheet's cells hold is held by another's -/
def zCp (I J : Nat → Nat → Int32) (s b : Nat) : Prop := J (b + 1) 1 = I (s + 1) 1 ∧ (∀ k, k < 60 → J (b + 2) k = I (s + 2) k) ∧ J (b + 3) 7 = I (s + 3) 7 ∧ (∀ q, 4 ≤ q → q ≤ 9 → ∀ k, k < 20 → J (b + q) k = I (s + q) k) ∧ (∀ k, k < 120 → J (b + 10) k = I (s + 10) k) ∧ J (b + 11) 2 = I (s + 11) 2 ∧ (∀ k, k < 360 → J (b + 12) k = I (s + 12) k) ∧ (∀ k, k < 6 → J (b + 13) k = I (s + 13) k) ∧ ∀ k, k < 5 → J (b + 14) k = I (s + 14) k
theorem vC_cp {I J : Nat → Nat → Int32} {s b : Nat} (h : zCp I J s b) {w i : Nat} (hw : w < 6) (hi : i < 20) : vC J (b + 4) w i = vC I (s + 4) w i := by
  have h4 := h.2.2.2.1
  unfold vC
  split
  · exact h4 9 (by decide) (by decide) i hi
  · exact h4 8 (by decide) (by decide) i hi
  · rw [Nat.add_assoc, Nat.add_assoc]
    exact h4 _ (by omega) (by omega) i hi
theorem hR_cp {c : Nat} {I J : Nat → Nat → Int32} {s b : Nat} {S : Nat → Int32} (h : zCp I J s b) (hw : wS c S) (hr : hR I s S) : hR J b S := by
  obtain ⟨⟨t, n, hk⟩, he, v, hv, hv1, hv2, hv3⟩ := hw
  have hn := wK_n hk
  have ht := wK_t hk
  have h60 : t ≤ 60 := hk.1
  have h20 : n ≤ 20 := hk.2.1
  obtain ⟨⟨a1, a2⟩, ⟨b1, b2, b3⟩, c1, d1, d2⟩ := hr
  have hvc := fun w i => vC_cp h (w := w) (i := i)
  obtain ⟨g1, g2, g3, g4, g5, g6, g7, g8, g9⟩ := h
  refine ⟨⟨g1.trans a1, fun k hk => (g2 k (by omega)).trans (a2 k hk)⟩, ⟨g3.trans b1, fun i w hi hw => (hvc w i hw (by omega)).trans (b2 i w hi hw), fun i k hi hk2 => (g5 _ ?_).trans (b3 i k hi hk2)⟩, fun k hk => (g9 k hk).trans (c1 k hk), g6.trans d1, fun j hj => ?_⟩
  · have := (wM_p (hk.2.2.2.2.1.1 i (by omega))).1
    omega
  · obtain ⟨f1, f2⟩ := d2 j hj
    have hm : (zx (S 307) - 1 - j) % 6 < 6 := Nat.mod_lt _ (by decide)
    refine ⟨(g8 _ hm).trans f1, fun k hk2 => (g7 _ ?_).trans (f2 k hk2)⟩
    have hj6 : j < min v 6 := by
      rw [hv2, zx_nI (by omega)] at hj
      exact hj
    obtain ⟨l, h7, h8⟩ := hv3 j hj6
    rw [h8, zx_nI (by omega)] at hk2
    omega
theorem zCp_same {I J : Nat → Nat → Int32} {b : Nat} (h : ∀ q, 1 ≤ q → q < 15 → J (b + q) = I (b + q)) : zCp I J b b := by
  refine ⟨?_, fun k _ => ?_, ?_, fun q h1 h2 k _ => ?_, fun k _ => ?_, ?_, fun k _ => ?_, fun k _ => ?_, fun k _ => ?_⟩ <;> rw [h _ (by omega) (by omega)]
section T1
variable {X : Nat × (Nat → Int32)} {I : Nat → Nat → Int32}
/-- a sheet takes over what is now -/
theorem c51 {b : Nat} (hb : zSb b = true) (h17 : 17 ≤ b) : ∃ J, zr X 51 0 [.ref b, .ref 2] [] (zk I) = some (none, zk J) ∧ (∀ t, ¬ (b < t ∧ t < b + 15) → J t = I t) ∧ zCp I J 2 b := by
  rw [k51_0 hb, k68_0 hb, zcb_some, zn_nil, k51_11 hb, k11_0 hb, zcb_some, zn_nil, k51_22 hb, k78_0 hb, zcb_some, zn_nil, k51_33 hb]
  refine ⟨_, rfl, fun t ht => ?_, ?_⟩
  · simp (disch := omega) only [zs1_ne, zs2_ne]
  · refine ⟨?_, fun k hk => ?_, ?_, fun q h4 h9 k hk => ?_, fun k hk => ?_, ?_, fun k hk => ?_, fun k hk => ?_, fun k hk => ?_⟩
    · simp (disch := omega) only [zs1_ne, zs2_ne, zs1_self, zs2_self, upd_at, if_true, Nat.reduceAdd]
    · simp (disch := omega) only [zs1_ne, zs2_ne, zs1_self, zs2_self, cpy_at, Nat.reduceAdd]
      rw [if_pos (by omega), show 0 + (k - 0) = k by omega]
    · simp (disch := omega) only [zs1_ne, zs2_ne, zs1_self, zs2_self, upd_at, if_true, Nat.reduceAdd]
    · have hq : q = 4 ∨ q = 5 ∨ q = 6 ∨ q = 7 ∨ q = 8 ∨ q = 9 := by omega
      rcases hq with rfl | rfl | rfl | rfl | rfl | rfl <;> simp (disch := omega) only [zs1_ne, zs2_ne, zs1_self, zs2_self, cpy_at, Nat.reduceAdd] <;> rw [if_pos (by omega), show 0 + (k - 0) = k by omega]
    · simp (disch := omega) only [zs1_ne, zs2_ne, zs1_self, zs2_self, cpy_at, Nat.reduceAdd]
      rw [if_pos (by omega), show 0 + (k - 0) = k by omega]
    · simp (disch := omega) only [zs1_ne, zs2_ne, zs1_self, zs2_self, upd_at, if_true, Nat.reduceAdd]
    · simp (disch := omega) only [zs1_ne, zs2_ne, zs1_self, zs2_self, cpy_at, Nat.reduceAdd]
      rw [if_pos (by omega), show 0 + (k - 0) = k by omega]
    · simp (disch := omega) only [zs1_ne, zs2_ne, zs1_self, zs2_self, cpy_at, Nat.reduceAdd]
      rw [if_pos (by omega), show 0 + (k - 0) = k by omega]
    · simp (disch := omega) only [zs1_ne, zs2_ne, zs1_self, zs2_self, cpy_at, Nat.reduceAdd]
      rw [if_pos (by omega), show 0 + (k - 0) = k by omega]
/-- what is now takes over a sheet -/
theorem c51b {b : Nat} (hb : zSb b = true) (h17 : 17 ≤ b) : ∃ J, zr X 51 0 [.ref 2, .ref b] [] (zk I) = some (none, zk J) ∧ (∀ t, ¬ (2 < t ∧ t < 17) → J t = I t) ∧ zCp I J b 2 := by
  rw [k51b_0 hb, k68b_0 hb, zcb_some, zn_nil, k51b_11 hb, k11b_0 hb, zcb_some, zn_nil, k51b_22 hb, k78b_0 hb, zcb_some, zn_nil, k51b_33 hb]
  refine ⟨_, rfl, fun t ht => ?_, ?_⟩
  · simp (disch := omega) only [zs1_ne, zs2_ne]
  · refine ⟨?_, fun k hk => ?_, ?_, fun q h4 h9 k hk => ?_, fun k hk => ?_, ?_, fun k hk => ?_, fun k hk => ?_, fun k hk => ?_⟩
    · simp (disch := omega) only [zs1_ne, zs2_ne, zs1_self, zs2_self, upd_at, if_true, Nat.reduceAdd]
    · simp (disch := omega) only [zs1_ne, zs2_ne, zs1_self, zs2_self, cpy_at, Nat.reduceAdd]
      rw [if_pos (by omega), show 0 + (k - 0) = k by omega]
    · simp (disch := omega) only [zs1_ne, zs2_ne, zs1_self, zs2_self, upd_at, if_true, Nat.reduceAdd]
    · have hq : q = 4 ∨ q = 5 ∨ q = 6 ∨ q = 7 ∨ q = 8 ∨ q = 9 := by omega
      rcases hq with rfl | rfl | rfl | rfl | rfl | rfl <;> simp (disch := omega) only [zs1_ne, zs2_ne, zs1_self, zs2_self, cpy_at, Nat.reduceAdd] <;> rw [if_pos (by omega), show 0 + (k - 0) = k by omega]
    · simp (disch := omega) only [zs1_ne, zs2_ne, zs1_self, zs2_self, cpy_at, Nat.reduceAdd]
      rw [if_pos (by omega), show 0 + (k - 0) = k by omega]
    · simp (disch := omega) only [zs1_ne, zs2_ne, zs1_self, zs2_self, upd_at, if_true, Nat.reduceAdd]
    · simp (disch := omega) only [zs1_ne, zs2_ne, zs1_self, zs2_self, cpy_at, Nat.reduceAdd]
      rw [if_pos (by omega), show 0 + (k - 0) = k by omega]
    · simp (disch := omega) only [zs1_ne, zs2_ne, zs1_self, zs2_self, cpy_at, Nat.reduceAdd]
      rw [if_pos (by omega), show 0 + (k - 0) = k by omega]
    · simp (disch := omega) only [zs1_ne, zs2_ne, zs1_self, zs2_self, cpy_at, Nat.reduceAdd]
      rw [if_pos (by omega), show 0 + (k - 0) = k by omega]
theorem ring_base {x : Nat} (h : x < 6) : (zR0.getD 18 []).getD x 0 = 19 + 15 * x ∧ zSb (19 + 15 * x) = true := by
  have hx : x = 0 ∨ x = 1 ∨ x = 2 ∨ x = 3 ∨ x = 4 ∨ x = 5 := by omega
  rcases hx with rfl | rfl | rfl | rfl | rfl | rfl <;> exact ⟨rfl, rfl⟩
theorem slot_base {x : Nat} (h : x < 2) : (zR0.getD 110 []).getD x 0 = 112 + 15 * x ∧ zSb (112 + 15 * x) = true := by
  have hx : x = 0 ∨ x = 1 := by omega
  rcases hx with rfl | rfl <;> exact ⟨rfl, rfl⟩
theorem nI_rem6 {x : Nat} (h : x < 12) : nI x - nI x / 6 * 6 = nI (x % 6) := by
  have hx : x = 0 ∨ x = 1 ∨ x = 2 ∨ x = 3 ∨ x = 4 ∨ x = 5 ∨ x = 6 ∨ x = 7 ∨ x = 8 ∨ x = 9 ∨ x = 10 ∨ x = 11 := by omega
  rcases hx with rfl | rfl | rfl | rfl | rfl | rfl | rfl | rfl | rfl | rfl | rfl | rfl <;> decide
/-- record -/
theorem c1 {x u : Nat} (hx : x < 6) (hu : u ≤ 6) (h1 : I 17 1 = nI x) (h2 : I 17 2 = nI u) : ∃ J, zr X 1 0 [.ref 17, .ref 2] [] (zk I) = some (none, zk J) ∧ (∀ t, t ≠ 17 → ¬ (19 + 15 * x < t ∧ t < 34 + 15 * x) → J t = I t) ∧ J 17 1 = nI ((x + 1) % 6) ∧ J 17 2 = nI (min (u + 1) 6) ∧ zCp I J 2 (19 + 15 * x) := by
  obtain ⟨e1, e2⟩ := ring_base hx
  have ez : zx (I 17 1) = x := by rw [h1]; exact zx_nI (by omega)
  rw [k1_0 (by rw [h1]; exact zin_nI hx (by decide)) (by rw [ez, e1]; exact e2), ez, e1]
  obtain ⟨J, f1, f2, f3⟩ := c51 (X := X) (I := I) e2 (by omega)
  rw [f1, zcb_some, zn_nil, k1_13]
  have g1 : J 17 1 = nI x := by rw [f2 17 (by omega)]; exact h1
  have g2 : J 17 2 = nI u := by rw [f2 17 (by omega)]; exact h2
  refine ⟨_, rfl, fun t ht1 ht2 => ?_, ?_, ?_, ?_⟩
  · rw [zs1_ne ht1, zs1_ne ht1]
    exact f2 t (by omega)
  · rw [zs1_self, upd_at, if_neg (by decide), zs1_self, upd_at, if_pos rfl, g1, ← nI_succ, nI_rem6 (by omega)]
  · rw [zs1_self, upd_at, if_pos rfl, zs1_self, upd_at, if_neg (show ¬ (2 : Nat) = 1 by decide), g2, ← nI_succ]
    by_cases h : u = 6
    · rw [h]
      decide
    · rw [if_neg (show ¬ (6 : Int32) < nI (u + 1) from nI_nlt (a := 6) (by omega) (by omega)), show min (u + 1) 6 = u + 1 by omega]
  · refine ⟨?_, fun k hk => ?_, ?_, fun q q1 q2 k hk => ?_, fun k hk => ?_, ?_, fun k hk => ?_, fun k hk => ?_, fun k hk => ?_⟩ <;> rw [zs1_ne (by omega), zs1_ne (by omega)]
    · exact f3.1
    · exact f3.2.1 k hk
    · exact f3.2.2.1
    · exact f3.2.2.2.1 q q1 q2 k hk
    · exact f3.2.2.2.2.1 k hk
    · exact f3.2.2.2.2.2.1
    · exact f3.2.2.2.2.2.2.1 k hk
    · exact f3.2.2.2.2.2.2.2.1 k hk
    · exact f3.2.2.2.2.2.2.2.2 k hk
/-- takeBack -/
theorem c2 {x u : Nat} (hx : x < 6) (hu : u ≤ 6) (hu0 : 0 < u) (h1 : I 17 1 = nI x) (h2 : I 17 2 = nI u) : ∃ J, zr X 2 0 [.ref 17, .ref 2] [] (zk I) = some (none, zk J) ∧ (∀ t, t ≠ 17 → ¬ (2 < t ∧ t < 17) → J t = I t) ∧ J 17 1 = nI ((x + 5) % 6) ∧ J 17 2 = nI (u - 1) ∧ zCp I J (19 + 15 * ((x + 5) % 6)) 2 := by
  have hm : (x + 5) % 6 < 6 := Nat.mod_lt _ (by decide)
  obtain ⟨e1, e2⟩ := ring_base hm
  have h3 : ((I 17 1 + 6) - 1) - ((I 17 1 + 6) - 1) / 6 * 6 = nI ((x + 5) % 6) := by
    rw [h1]
    have hx : x = 0 ∨ x = 1 ∨ x = 2 ∨ x = 3 ∨ x = 4 ∨ x = 5 := by omega
    rcases hx with rfl | rfl | rfl | rfl | rfl | rfl <;> decide
  have h4 : I 17 2 - 1 = nI (u - 1) := by
    rw [h2]
    have hx : u = 1 ∨ u = 2 ∨ u = 3 ∨ u = 4 ∨ u = 5 ∨ u = 6 := by omega
    rcases hx with rfl | rfl | rfl | rfl | rfl | rfl <;> decide
  have h5 : (zs1 I 17 1 (nI ((x + 5) % 6))) 17 2 = I 17 2 := by rw [zs1_self, upd_at, if_neg (by decide)]
  have h6 : (zs1 (zs1 I 17 1 (nI ((x + 5) % 6))) 17 2 (nI (u - 1))) 17 1 = nI ((x + 5) % 6) := by rw [zs1_self, upd_at, if_neg (by decide), zs1_self, upd_at, if_pos rfl]
  have h7 : zx (nI ((x + 5) % 6)) = (x + 5) % 6 := zx_nI (by omega)
  have hk := k2_0 (X := X) (I := I)
  rw [h3, h5, h4, h6, h7, e1] at hk
  rw [hk (zin_nI hm (by decide)) e2]
  obtain ⟨J, f1, f2, f3⟩ := c51b (X := X) (I := zs1 (zs1 I 17 1 (nI ((x + 5) % 6))) 17 2 (nI (u - 1))) e2 (by omega)
  rw [f1, zcb_some, zn_nil, k2_39]
  refine ⟨_, rfl, fun t ht1 ht2 => ?_, ?_, ?_, ?_⟩
  · rw [f2 t ht2, zs1_ne ht1, zs1_ne ht1]
  · rw [f2 17 (by omega)]
    exact h6
  · rw [f2 17 (by omega), zs1_self, upd_at, if_pos rfl]
  · refine ⟨?_, fun k hk => ?_, ?_, fun q q1 q2 k hk => ?_, fun k hk => ?_, ?_, fun k hk => ?_, fun k hk => ?_, fun k hk => ?_⟩
    · rw [f3.1, zs1_ne (by omega), zs1_ne (by omega)]
    · rw [f3.2.1 k hk, zs1_ne (by omega), zs1_ne (by omega)]
    · rw [f3.2.2.1, zs1_ne (by omega), zs1_ne (by omega)]
    · rw [f3.2.2.2.1 q q1 q2 k hk, zs1_ne (by omega), zs1_ne (by omega)]
    · rw [f3.2.2.2.2.1 k hk, zs1_ne (by omega), zs1_ne (by omega)]
    · rw [f3.2.2.2.2.2.1, zs1_ne (by omega), zs1_ne (by omega)]
    · rw [f3.2.2.2.2.2.2.1 k hk, zs1_ne (by omega), zs1_ne (by omega)]
    · rw [f3.2.2.2.2.2.2.2.1 k hk, zs1_ne (by omega), zs1_ne (by omega)]
    · rw [f3.2.2.2.2.2.2.2.2 k hk, zs1_ne (by omega), zs1_ne (by omega)]
end T1
