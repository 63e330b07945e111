/-! the reference reads; fault -/
def mRows (P : Nat → Int32) (K : Nat → Nat → Int32) (l : List Rec) : Prop := K 160 18 = nI l.length ∧ ∀ r, r < l.length → (∀ w, w < 6 → K 172 (12 * r + w) = rcw (l.getD r d0) w) ∧ ∀ k, k < (l.getD r d0).2.2.2.2.1 → k < 6 → K 172 (12 * r + 6 + k) = P ((l.getD r d0).2.2.2.2.2 + k) - 97
theorem mRows_add {P : Nat → Int32} {K J : Nat → Nat → Int32} {l : List Rec} {q : Rec} (h : mRows P K l) (hq : mOut P K J l.length (some q)) : mRows P J (l ++ [q]) := by
  obtain ⟨h1, h2⟩ := h
  obtain ⟨q1, q2, q3, q4⟩ := hq
  obtain ⟨y1, y2, y3⟩ := q4 q rfl
  have hlen : (l ++ [q]).length = l.length + 1 := by rw [List.length_append, List.length_singleton]
  refine ⟨by rw [hlen]; exact y1, fun r hr => ?_⟩
  rw [hlen] at hr
  rw [getD_ap]
  by_cases z : r = l.length
  · rw [if_pos z, z]
    exact ⟨y2, y3⟩
  · rw [if_neg z]
    have h3 := h2 r (by omega)
    exact ⟨fun w hw => by rw [q3 _ (by omega)]; exact h3.1 w hw, fun k hk h6 => by rw [q3 _ (by omega)]; exact h3.2 k hk h6⟩
theorem mRows_rat {P : Nat → Int32} {K : Nat → Nat → Int32} {l : List Rec} {i : Nat} {b : Bool} (h : mRows P K l) : mRows P (rat K i b) l := by
  refine ⟨by rw [rat_k (by decide) (by decide)]; exact h.1, fun r hr => ?_⟩
  rw [rat_ne (show (172 : Nat) ≠ 160 by decide)]
  exact h.2 r hr
theorem mRows_at {P : Nat → Int32} {K J : Nat → Nat → Int32} {l : List Rec} (h : mRows P K l) (h1 : J 160 18 = K 160 18) (h2 : J 172 = K 172) : mRows P J l := by
  refine ⟨h1.trans h.1, fun r hr => ?_⟩
  rw [h2]
  exact h.2 r hr
section R7
variable {X : Nat × (Nat → Int32)} {P : Nat → Int32} {p : Nat} {K : Nat → Nat → Int32}
theorem m180d {j : Nat} : zr X 180 19 [.ref 160] [] (zk (rat K j false)) = some (some (.int (nI j)), zk (rat K j false)) := by
  rw [k180_19, rat_16, if_pos zb_f, k180_57, rat_16, if_pos zb_f, k180_69, rat_15]
theorem m180n (hp : p ≤ 60) : ∀ f j l K, mA P p K → mRows P K l → 5 * l.length ≤ j + 1 → j ≤ p → p < j + f → ∃ J, zr X 180 19 [.ref 160] [] (zk (rat K j true)) = some (some (.int (if (rNx P p f j l).2.1 = true then -6 else nI (rNx P p f j l).1)), zk J) ∧ (∀ t, t ≠ 172 → t ≠ 160 → J t = K t) ∧ (∀ k, k ≠ 15 → k ≠ 16 → k ≠ 18 → J 160 k = K 160 k) ∧ ((rNx P p f j l).2.1 = true → mRows P J (rNx P p f j l).2.2) := by
  intro f
  induction f with
  | zero =>
    intro j l K _ _ _ h4 h5
    omega
  | succ f ih =>
    intro j l K hA hR h5 hj hf
    unfold rNx
    rw [k180_19, rat_16, if_neg (show ¬ zb true = 0 by decide), k180_26, rat_k (by decide) (by decide), hA.1, rat_15]
    by_cases a : j < p
    · rw [if_neg (nI_ge a (by omega)), k180_37, m175t hp hA (by omega) (by decide), zcb_some, zn_nil, k180_43, if_pos a]
      by_cases b : sgn P p 44 j = true
      · obtain ⟨J, j1, j2, j3, j4, j5⟩ := m179 (X := X) (i := j + 1) hp hA hR.1 a (by omega)
        have g := rMk_le (P := P) (p := p) (i := j + 1) a
        rw [if_pos b, if_pos b, rat_16, if_neg (show ¬ zb true = 0 by decide), k180_50, j1, zcb_some, zn_nil, k180_54]
        rcases eg : rMk P p (j + 1) with ⟨q, _ | r⟩
        · show ∃ J2, zr X 180 19 [.ref 160] [] (zk (rat J q false)) = _ ∧ _
          rw [m180d]
          exact ⟨_, rfl, fun t t1 t2 => (rat_ne t2).trans (j2 t t1 t2), fun k k1 k2 k3 => (rat_k k1 k2).trans (j3 k k3), fun z => by cases z⟩
        · rw [eg] at j5 g
          have g1 : j + 1 + 4 ≤ q := (g.2.2 r rfl).1
          have g2 : q ≤ p := g.2.1
          have hA2 : mA P p J := ⟨by rw [j3 8 (by decide)]; exact hA.1, fun k hk => by rw [j2 166 (by decide) (by decide)]; exact hA.2 k hk⟩
          obtain ⟨J2, y1, y2, y3, y4⟩ := ih q (l ++ [r]) J hA2 (mRows_add hR ⟨j2, j3, j4, j5⟩) (by rw [List.length_append, List.length_singleton]; omega) g2 (by omega)
          exact ⟨J2, y1, fun t t1 t2 => (y2 t t1 t2).trans (j2 t t1 t2), fun k k1 k2 k3 => (y3 k k1 k2 k3).trans (j3 k k3), y4⟩
      · rw [if_neg b, if_neg b, rat_16, if_pos zb_f, m180d]
        exact ⟨_, rfl, fun t t1 t2 => rat_ne t2, fun k k1 k2 k3 => rat_k k1 k2, fun z => by cases z⟩
    · rw [if_pos (nI_le (by omega) (by omega)), k180_57, rat_16, if_neg (show ¬ zb true = 0 by decide), k180_64, if_neg a]
      exact ⟨_, rfl, fun t t1 t2 => rat_ne t2, fun k k1 k2 k3 => rat_k k1 k2, fun _ => mRows_rat hR⟩
theorem m180 (hp : p ≤ 60) (h : mA P p K) : ∃ J, zr X 180 0 [.ref 160] [] (zk K) = some (some (.int (if (rRd P p).2.1 = true then -6 else nI (rRd P p).1)), zk J) ∧ (∀ t, t ≠ 172 → t ≠ 160 → J t = K t) ∧ (∀ k, k ≠ 15 → k ≠ 16 → k ≠ 18 → J 160 k = K 160 k) ∧ ((rRd P p).2.1 = true → mRows P J (rRd P p).2.2) := by
  have e0 : zs1 (zs1 (zs1 K 160 15 0) 160 16 1) 160 18 0 = rat (zs1 K 160 18 0) 0 true := by
    unfold rat zs1
    rw [zup_self, zup_self, zup_self, zup_zup, zup_zup, zup_zup]
    congr 1
    funext k
    simp only [upd_at]
    by_cases e : k = 18
    · simp [e]
    · by_cases e2 : k = 16
      · simp [e2, zb]
      · by_cases e3 : k = 15
        · simp [e3, nI_0]
        · simp [e, e2, e3]
  have hK1 : ∀ k, k ≠ 18 → zs1 K 160 18 0 160 k = K 160 k := fun k hk => by rw [zs1_self, upd_at, if_neg hk]
  have hA1 : mA P p (zs1 K 160 18 0) := ⟨by rw [hK1 8 (by decide)]; exact h.1, fun k hk => by rw [zs1_ne (by decide)]; exact h.2 k hk⟩
  have hR1 : mRows P (zs1 K 160 18 0) [] := ⟨by rw [zs1_self, upd_at, if_pos rfl]; rfl, fun r hr => absurd hr (Nat.not_lt_zero _)⟩
  obtain ⟨J, j1, j2, j3, j4, j5⟩ := m179 (X := X) (i := 0) (s := 0) hp hA1 (by rw [zs1_self, upd_at, if_pos rfl]; rfl) (Nat.zero_le p) (by decide)
  have g := rMk_le (P := P) (p := p) (i := 0) (Nat.zero_le p)
  rw [k180_0, e0, j1, zcb_some, zn_nil]
  unfold rRd
  rcases eg : rMk P p 0 with ⟨q, _ | r⟩
  · show ∃ J2, zr X 180 19 [.ref 160] [] (zk (rat J q false)) = _ ∧ _
    rw [m180d]
    exact ⟨_, rfl, fun t t1 t2 => (rat_ne t2).trans ((j2 t t1 t2).trans (zs1_ne t2)), fun k k1 k2 k3 => (rat_k k1 k2).trans ((j3 k k3).trans (hK1 k k3)), fun z => by cases z⟩
  · rw [eg] at j5 g
    have g1 : 0 + 4 ≤ q := (g.2.2 r rfl).1
    have g2 : q ≤ p := g.2.1
    have hA2 : mA P p J := ⟨by rw [j3 8 (by decide)]; exact hA1.1, fun k hk => by rw [j2 166 (by decide) (by decide)]; exact hA1.2 k hk⟩
    obtain ⟨J2, y1, y2, y3, y4⟩ := m180n (X := X) hp 61 q [r] J hA2 (mRows_add hR1 ⟨j2, j3, j4, j5⟩) (by show 5 * 1 ≤ q + 1; omega) g2 (by omega)
    exact ⟨J2, y1, fun t t1 t2 => (y2 t t1 t2).trans ((j2 t t1 t2).trans (zs1_ne t2)), fun k k1 k2 k3 => (y3 k k1 k2 k3).trans ((j3 k k3).trans (hK1 k k3)), y4⟩
theorem p_fault {c : Nat} {I : Nat → Nat → Int32} (hI : Inv c I) : Call X c I 109 [.ref 1] 181 [.ref 160] := by
  obtain ⟨p, hp, hp1, hp2, hp3⟩ := hI.2.2.2
  obtain ⟨J, j1, j2, -⟩ := c42 (X := X) (P := I 166) (K := I) hp hp1 hp3
  have hJ : ∀ t, 160 ≤ t → J t = I t := fun t ht => j2 t (by omega)
  obtain ⟨M, m1, m2, m3, -⟩ := m180 (X := X) (P := I 166) (p := p) (K := zs1 J 160 0 0) hp ⟨by rw [th_160 (by decide), hJ 160 (by decide)]; exact hp2, fun k hk => by rw [zs1_ne (by decide), hJ 166 (by decide)]⟩
  have hM : ∀ t, t ≠ 172 → t ≠ 160 → M t = J t := fun t t1 t2 => (m2 t t1 t2).trans (zs1_ne t2)
  refine ⟨_, J, M, by rw [k109_0, j1, zcb_some, zn_one, k109_11], by rw [k181_0, m1, zcb_some, zn_one, k181_9], inv_q (I1 := J) hI (fun t ht => j2 t (by omega)) ⟨fun t ht => hM t (by omega) (by omega), by rw [m3 4 (by decide) (by decide) (by decide), th_160 (by decide)], by rw [m3 8 (by decide) (by decide) (by decide), th_160 (by decide)], hM _ (by decide) (by decide), hM _ (by decide) (by decide), hM _ (by decide) (by decide), hM _ (by decide) (by decide), hM _ (by decide) (by decide)⟩⟩
end R7
