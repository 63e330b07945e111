/-! apart -/
section A4
variable {X : Nat × (Nat → Int32)} {I : Nat → Nat → Int32}
theorem zs1_zup_ne {d e k : Nat} {R : Nat → Int32} {v : Int32} (h : d ≠ e) : zs1 (zup I e R) d k v = zup (zup I e R) d (upd (I d) k v) := by
  rw [zs1_up, zup_ne h]
/-- one row of the class's -/
theorem c77in {a b : Int32} {h w p q i : Nat} {f g : Nat → Int32} (hh : h ≤ 60) (hw : w ≤ 60) (hp : p ≤ 300) (hq : q ≤ 300) (hi : i < h) (hf : f i = I 14 (p + i)) (hg : ∀ k, k < w → g k = I 14 (q + k)) : ∀ (k j : Nat) (F : Nat → Int32) (v11 : Value), j + k = w → (∀ z, z ≤ j → F z = nI (dst f g (i + 1) z)) → (∀ z, j < z → z ≤ w → F z = nI (dst f g i z)) →
    ∃ (F' : Nat → Int32) (v9 v10 v11' : Value), zr X 77 88 [.ref 13, .int a, .int b, .ref 159, .int (nI h), .int (nI w), .int (nI p), .int (nI q), .int (nI i), .int (nI (dst f g i j)), .int (nI j), v11] [] (zk (zup I 159 F)) = zr X 77 66 [.ref 13, .int a, .int b, .ref 159, .int (nI h), .int (nI w), .int (nI p), .int (nI q), .int (nI (i + 1)), v9, v10, v11'] [] (zk (zup I 159 F')) ∧ ∀ z, z ≤ w → F' z = nI (dst f g (i + 1) z)
  | 0, j, F, v11, hj, h1, h2 => by
    refine ⟨F, .int (nI (dst f g i j)), .int (nI j), v11, ?_, fun z hz => h1 z (by omega)⟩
    rw [k77_88, if_pos (nI_le (by omega) (by omega)), k77_165, ← nI_succ]
  | k + 1, j, F, v11, hj, h1, h2 => by
    have e1 : nI p + nI i = nI (p + i) := (zI_add _ _).symm
    have e2 : nI q + nI j = nI (q + j) := (zI_add _ _).symm
    have e3 : nI j + 1 = nI (j + 1) := (nI_succ j).symm
    have hF1 : F (j + 1) = nI (dst f g i (j + 1)) := h2 _ (by omega) (by omega)
    have hF0 : F j = nI (dst f g (i + 1) j) := h1 _ (by omega)
    have b1 := dst_le (f := f) (g := g) i j
    have b2 := dst_le (f := f) (g := g) i (j + 1)
    have b3 := dst_le (f := f) (g := g) (i + 1) j
    have hgo : ∀ (e : Nat) (v11 : Value), e ≤ 1 → dE f g i j = e → ∃ (F' : Nat → Int32) (v9 v10 v11' : Value), zr X 77 88 [.ref 13, .int a, .int b, .ref 159, .int (nI h), .int (nI w), .int (nI p), .int (nI q), .int (nI i), .int (nI (dst f g i (j + 1))), .int (nI (j + 1)), v11] [] (zk (zup I 159 (upd F (j + 1) (nI (min (min (dst f g (i + 1) j) (dst f g i (j + 1)) + 1) (dst f g i j + e)))))) = zr X 77 66 [.ref 13, .int a, .int b, .ref 159, .int (nI h), .int (nI w), .int (nI p), .int (nI q), .int (nI (i + 1)), v9, v10, v11'] [] (zk (zup I 159 F')) ∧ ∀ z, z ≤ w → F' z = nI (dst f g (i + 1) z) := by
      intro e v11 he hde
      refine c77in hh hw hp hq hi hf hg k (j + 1) _ _ (by omega) (fun z hz => ?_) (fun z hz hz2 => ?_)
      · rw [upd_at]
        by_cases hzj : z = j + 1
        · rw [if_pos hzj, hzj, dst_S, hde]
          congr 1
          omega
        · rw [if_neg hzj]
          exact h1 z (by omega)
      · rw [upd_at, if_neg (by omega)]
        exact h2 z (by omega) hz2
    rw [k77_88, if_neg (nI_ge (show j < w by omega) (by omega)), k77_95 (by rw [e1]; exact zin_nI (by omega) (by decide)) (by rw [e2]; exact zin_nI (by omega) (by decide)), e1, e2, zx_nI (by omega), zx_nI (by omega), zup_ne (by decide), ← hf, ← hg j (by omega)]
    by_cases hd : f i = g j
    · rw [if_neg (fun z => z hd), k77_118 (by rw [e3]; exact zin_nI (by omega) (by decide)) (zin_nI (by omega) (by decide)), e3, zx_nI (by omega), zx_nI (by omega), zup_self, hF1, hF0, nI_min (by omega) (by omega), one_nI, nI_min (by omega) (by omega), zs1_zup]
      have := hgo 0 (.int (nI (dst f g i j))) (by decide) (by unfold dE; exact if_pos hd)
      exact this
    · rw [if_pos hd, k77_123 (by rw [e3]; exact zin_nI (by omega) (by decide)) (zin_nI (by omega) (by decide)), e3, zx_nI (by omega), zx_nI (by omega), zup_self, hF1, hF0, nI_min (by omega) (by omega), one_nI, ← nI_succ, nI_min (by omega) (by omega), zs1_zup]
      exact hgo 1 _ (by decide) (by unfold dE; exact if_neg hd)
theorem c77out {a b : Int32} {h w p q : Nat} {f g : Nat → Int32} (hh : h ≤ 60) (hw : w ≤ 60) (hp : p ≤ 300) (hq : q ≤ 300) (hf : ∀ i, i < h → f i = I 14 (p + i)) (hg : ∀ k, k < w → g k = I 14 (q + k)) : ∀ (k i : Nat) (F : Nat → Int32) (v9 v10 v11 : Value), i + k = h → (∀ z, z ≤ w → F z = nI (dst f g i z)) →
    ∃ (F' : Nat → Int32), zr X 77 66 [.ref 13, .int a, .int b, .ref 159, .int (nI h), .int (nI w), .int (nI p), .int (nI q), .int (nI i), v9, v10, v11] [] (zk (zup I 159 F)) = some (some (.int (nI (dst f g h w))), zk (zup I 159 F'))
  | 0, i, F, v9, v10, v11, hi, h1 => by
    have e : i = h := by omega
    subst e
    refine ⟨F, ?_⟩
    rw [k77_66, if_pos (nI_le (by omega) (by omega)), k77_171 (zin_nI (by omega) (by decide)), zx_nI (by omega), zup_self, h1 w (Nat.le_refl _)]
  | k + 1, i, F, v9, v10, v11, hi, h1 => by
    obtain ⟨F', v9', v10', v11', g1, g2⟩ := c77in (X := X) (I := I) (a := a) (b := b) hh hw hp hq (show i < h by omega) (hf i (by omega)) hg w 0 (upd F 0 (nI (i + 1))) v11 (by omega) (fun z hz => by
      have e : z = 0 := by omega
      rw [e, upd_at, if_pos rfl]
      rfl) (fun z hz hz2 => by rw [upd_at, if_neg (by omega)]; exact h1 z hz2)
    rw [k77_66, if_neg (nI_ge (show i < h by omega) (by omega)), k77_73, zup_self, h1 0 (Nat.zero_le _), ← nI_succ, zs1_zup]
    have h0 : nI 0 = 0 := nI_0
    rw [h0] at g1
    rw [g1]
    exact c77out hh hw hp hq hf hg k (i + 1) F' _ _ _ (by omega) g2
theorem c77 {vv ja jb h w : Nat} {f g : Nat → Int32} (hv : vv < 700) (hs : I 13 2 = nI vv) (ha : ja < min vv 6) (hb : jb < min vv 6) (hh : h ≤ 60) (hw : w ≤ 60) (eh : I 15 ((vv - 1 - ja) % 6) = nI h) (ew : I 15 ((vv - 1 - jb) % 6) = nI w)
    (hf : ∀ i, i < h → f i = I 14 (60 * ((vv - 1 - ja) % 6) + i)) (hg : ∀ k, k < w → g k = I 14 (60 * ((vv - 1 - jb) % 6) + k)) :
    ∃ F, zr X 77 0 [.ref 13, .int (nI ja), .int (nI jb), .ref 159, .null, .null, .null, .null, .null, .null, .null, .null] [] (zk I) = some (some (.int (nI (dst f g h w))), zk (zup I 159 F)) := by
  have hm1 : (vv - 1 - ja) % 6 < 6 := Nat.mod_lt _ (by decide)
  have hm2 : (vv - 1 - jb) % 6 < 6 := Nat.mod_lt _ (by decide)
  have e6 : (if ((61 : Int32) - 1) < nI w then ((61 : Int32) - 1) else nI w) = nI w := by
    rw [show (61 : Int32) - 1 = nI 60 from by decide, if_neg (nI_nlt hw (by decide))]
  have m1 : nI ((vv - 1 - ja) % 6) * 60 = nI (60 * ((vv - 1 - ja) % 6)) := by
    rw [Nat.mul_comm, zI_mul]
    rfl
  have m2 : nI ((vv - 1 - jb) % 6) * 60 = nI (60 * ((vv - 1 - jb) % 6)) := by
    rw [Nat.mul_comm, zI_mul]
    rfl
  rw [k77_0, c74y hv hs ha, zcb_some, zn_one, k77_5, c74y hv hs hb, zcb_some, zn_one, eh, ew, k77_12, e6, c76 hv hs (by omega), zcb_some, zn_one, k77_26, c76 hv hs (by omega), zcb_some, zn_one, k77_36, m1, m2]
  have hfill : ∀ k j, j + k = w + 1 → zr X 77 44 [.ref 13, .int (nI ja), .int (nI jb), .ref 159, .int (nI h), .int (nI w), .int (nI (60 * ((vv - 1 - ja) % 6))), .int (nI (60 * ((vv - 1 - jb) % 6))), .int (nI j), .null, .null, .null] [] (zk (zfw I 159 0 nI j)) = zr X 77 63 [.ref 13, .int (nI ja), .int (nI jb), .ref 159, .int (nI h), .int (nI w), .int (nI (60 * ((vv - 1 - ja) % 6))), .int (nI (60 * ((vv - 1 - jb) % 6))), .int (nI (w + 1)), .null, .null, .null] [] (zk (zfw I 159 0 nI (w + 1))) := by
    intro k
    induction k with
    | zero =>
      intro j hj
      have e : j = w + 1 := by omega
      subst e
      rw [k77_44, if_pos (nI_lt (Nat.lt_succ_self w) (by omega))]
    | succ k ih =>
      intro j hj
      have e := zfw_succ (I := I) (d := 159) (off := 0) (k := j) (g := nI)
      rw [Nat.zero_add] at e
      rw [k77_44, if_neg (nI_nlt (show j ≤ w by omega) (by omega)), k77_51 (zin_nI (by omega) (by decide)), zx_nI (by omega), e, ← nI_succ, ih (j + 1) (by omega)]
  have h1 := hfill (w + 1) 0 (by omega)
  rw [zfw_0, nI_0] at h1
  rw [h1, k77_63]
  have h2 := c77out (X := X) (I := I) (a := nI ja) (b := nI jb) (f := f) (g := g) hh hw (show 60 * ((vv - 1 - ja) % 6) ≤ 300 by omega) (show 60 * ((vv - 1 - jb) % 6) ≤ 300 by omega) hf hg h 0 (fun j => if 0 ≤ j ∧ j < 0 + (w + 1) then nI (j - 0) else I 159 j) .null .null .null (by omega) (fun z hz => by
    rw [if_pos (by omega)]
    rfl)
  rw [nI_0] at h2
  exact h2
/-- one row of the reference's -/
theorem m168in {h w p q i : Nat} {f g : Nat → Int32} {A : Nat → Int32} (hh : h ≤ 60) (hw : w ≤ 60) (hp : p ≤ 614) (hq : q ≤ 614) (hi : i < h) (hqw : I 161 q = nI w) (hf : f i = I 161 (p + 1 + i)) (hg : ∀ k, k < w → g k = I 161 (q + 1 + k)) (hA : ∀ z, z ≤ w → A z = nI (dst f g i z)) : ∀ (k j : Nat) (F : Nat → Int32) (v5 v6 : Value), j + k = w → (∀ z, z ≤ j → F z = nI (dst f g (i + 1) z)) →
    ∃ (F' : Nat → Int32) (v4 : Int32) (v5' v6' : Value), zr X 168 47 [.ref 160, .int (nI p), .int (nI q), .int (nI (i + 1)), .int (nI (j + 1)), v5, v6] [] (zk (zup (zup I 170 A) 171 F)) = zr X 168 166 [.ref 160, .int (nI p), .int (nI q), .int (nI (i + 1)), .int v4, v5', v6'] [] (zk (zup (zup I 170 A) 171 F')) ∧ ∀ z, z ≤ w → F' z = nI (dst f g (i + 1) z)
  | 0, j, F, v5, v6, hj, h1 => by
    refine ⟨F, nI (j + 1), v5, v6, ?_, fun z hz => h1 z (by omega)⟩
    rw [k168_47 (zin_nI (by omega) (by decide)), zx_nI (by omega), zup_ne (by decide), zup_ne (by decide), hqw, if_pos (nI_lt (by omega) (by omega))]
  | k + 1, j, F, v5, v6, hj, h1 => by
    have e1 : nI p + nI (i + 1) = nI (p + 1 + i) := by rw [← zI_add]; congr 1; omega
    have e2 : nI q + nI (j + 1) = nI (q + 1 + j) := by rw [← zI_add]; congr 1; omega
    have e3 : nI (j + 1) - 1 = nI j := zI_sub (b := 1) (by omega)
    have b1 := dst_le (f := f) (g := g) i j
    have b2 := dst_le (f := f) (g := g) i (j + 1)
    have b3 := dst_le (f := f) (g := g) (i + 1) j
    have hgo : ∀ (v5 v6 : Value), ∃ (F' : Nat → Int32) (v4 : Int32) (v5' v6' : Value), zr X 168 47 [.ref 160, .int (nI p), .int (nI q), .int (nI (i + 1)), .int (nI (j + 1 + 1)), v5, v6] [] (zk (zup (zup I 170 A) 171 (upd F (j + 1) (nI (dst f g (i + 1) (j + 1)))))) = zr X 168 166 [.ref 160, .int (nI p), .int (nI q), .int (nI (i + 1)), .int v4, v5', v6'] [] (zk (zup (zup I 170 A) 171 F')) ∧ ∀ z, z ≤ w → F' z = nI (dst f g (i + 1) z) := by
      intro v5 v6
      refine m168in hh hw hp hq hi hqw hf hg hA k (j + 1) _ _ _ (by omega) (fun z hz => ?_)
      rw [upd_at]
      by_cases hzj : z = j + 1
      · rw [if_pos hzj, hzj]
      · rw [if_neg hzj]
        exact h1 z (by omega)
    have hmid : ∀ (x : Nat) (v6 : Value), x = dst f g i j + dE f g i j → ∃ (F' : Nat → Int32) (v4 : Int32) (v5' v6' : Value), (if nI (dst f g (i + 1) j) ≤ nI (dst f g i (j + 1)) then zr X 168 126 [.ref 160, .int (nI p), .int (nI q), .int (nI (i + 1)), .int (nI (j + 1)), .int (nI x), v6] [] (zk (zup (zup I 170 A) 171 F)) else zr X 168 114 [.ref 160, .int (nI p), .int (nI q), .int (nI (i + 1)), .int (nI (j + 1)), .int (nI x), v6] [] (zk (zup (zup I 170 A) 171 F))) = zr X 168 166 [.ref 160, .int (nI p), .int (nI q), .int (nI (i + 1)), .int v4, v5', v6'] [] (zk (zup (zup I 170 A) 171 F')) ∧ ∀ z, z ≤ w → F' z = nI (dst f g (i + 1) z) := by
      intro x v6 hx
      have hx2 : x ≤ 200 := by
        have : dE f g i j ≤ 1 := by unfold dE; split <;> omega
        omega
      have hS := dst_S (f := f) (g := g) (i := i) (j := j)
      have hz1 := zin_nI (show j + 1 < 61 by omega) (show (61 : Nat) < 2 ^ 31 by decide)
      have hz0 := zin_nI (show j < 61 by omega) (show (61 : Nat) < 2 ^ 31 by decide)
      by_cases hc : dst f g (i + 1) j ≤ dst f g i (j + 1)
      · rw [if_pos (nI_le hc (by omega)), k168_126 (by rw [e3]; exact hz0), e3, zx_nI (by omega), zup_self, h1 j (Nat.le_refl _), ← nI_succ]
        by_cases hd : dst f g (i + 1) j + 1 ≤ x
        · rw [if_pos (nI_le hd (by omega)), k168_157 hz1, zx_nI (by omega), zs1_zup, ← nI_succ, show dst f g (i + 1) j + 1 = dst f g (i + 1) (j + 1) by omega]
          exact hgo _ _
        · rw [if_neg (nI_ge (by omega) (by omega)), k168_152 hz1, zx_nI (by omega), zs1_zup, ← nI_succ, show x = dst f g (i + 1) (j + 1) by omega]
          exact hgo _ _
      · rw [if_neg (nI_ge (by omega) (by omega)), k168_114 hz1, zx_nI (by omega), zup_ne (by decide), zup_self, hA (j + 1) (by omega), ← nI_succ]
        by_cases hd : dst f g i (j + 1) + 1 ≤ x
        · rw [if_pos (nI_le hd (by omega)), k168_157 hz1, zx_nI (by omega), zs1_zup, ← nI_succ, show dst f g i (j + 1) + 1 = dst f g (i + 1) (j + 1) by omega]
          exact hgo _ _
        · rw [if_neg (nI_ge (by omega) (by omega)), k168_152 hz1, zx_nI (by omega), zs1_zup, ← nI_succ, show x = dst f g (i + 1) (j + 1) by omega]
          exact hgo _ _
    rw [k168_47 (zin_nI (by omega) (by decide)), zx_nI (by omega), zup_ne (by decide), zup_ne (by decide), hqw, if_neg (nI_nlt (show j + 1 ≤ w by omega) (by omega)), k168_58 (by rw [e3]; exact zin_nI (by omega) (by decide)) (by rw [e1]; exact zin_nI (by omega) (by decide)) (by rw [e2]; exact zin_nI (by omega) (by decide)), e1, e2, e3, zx_nI (by omega), zx_nI (by omega), zx_nI (by omega), zup_ne (t := 161) (by decide), zup_ne (t := 161) (by decide), ← hf, ← hg j (by omega), zup_ne (t := 170) (by decide), zup_self, hA j (by omega)]
    by_cases hd : f i = g j
    · rw [if_neg (fun z => z hd), k168_87 (zin_nI (by omega) (by decide)) (by rw [e3]; exact zin_nI (by omega) (by decide)), e3, zx_nI (by omega), zx_nI (by omega), zup_self, zup_ne (t := 170) (by decide), zup_self, h1 j (Nat.le_refl _), hA (j + 1) (by omega), z_add0]
      exact hmid _ _ (by unfold dE; rw [if_pos hd]; rfl)
    · rw [if_pos hd, k168_91 (zin_nI (by omega) (by decide)) (by rw [e3]; exact zin_nI (by omega) (by decide)), e3, zx_nI (by omega), zx_nI (by omega), zup_self, zup_ne (t := 170) (by decide), zup_self, h1 j (Nat.le_refl _), hA (j + 1) (by omega), ← nI_succ]
      exact hmid _ _ (by unfold dE; rw [if_neg hd])
theorem m168out {h w p q : Nat} {f g : Nat → Int32} (hh : h ≤ 60) (hw : w ≤ 60) (hp : p ≤ 614) (hq : q ≤ 614) (hph : I 161 p = nI h) (hqw : I 161 q = nI w) (hf : ∀ i, i < h → f i = I 161 (p + 1 + i)) (hg : ∀ k, k < w → g k = I 161 (q + 1 + k)) : ∀ (k i : Nat) (A B : Nat → Int32) (v4 v5 v6 : Value), i + k = h → (∀ z, z ≤ w → A z = nI (dst f g i z)) →
    ∃ (A' B' : Nat → Int32), zr X 168 27 [.ref 160, .int (nI p), .int (nI q), .int (nI (i + 1)), v4, v5, v6] [] (zk (zup (zup I 170 A) 171 B)) = some (some (.int (nI (dst f g h w))), zk (zup (zup I 170 A') 171 B'))
  | 0, i, A, B, v4, v5, v6, hi, hA => by
    have e : i = h := by omega
    subst e
    refine ⟨A, B, ?_⟩
    have n1 : zup (zup I 170 A) 171 B 161 = I 161 := by rw [zup_ne (by decide), zup_ne (by decide)]
    rw [k168_27 (zin_nI (by omega) (by decide)), zx_nI (by omega), n1, hph, if_pos (nI_lt (by omega) (by omega)), k168_206 (zin_nI (by omega) (by decide)) (by rw [zx_nI (by omega), n1, hqw]; exact zin_nI (by omega) (by decide)), zx_nI (by omega), n1, hqw, zx_nI (by omega), zup_ne (by decide), zup_self, hA w (Nat.le_refl _)]
  | k + 1, i, A, B, v4, v5, v6, hi, hA => by
    have n1 : ∀ A B, zup (zup I 170 A) 171 B 161 = I 161 := fun A B => by rw [zup_ne (by decide), zup_ne (by decide)]
    have hi2 : i < h := by omega
    obtain ⟨F', v4', v5', v6', g1, g2⟩ := m168in (X := X) (I := I) (A := A) hh hw hp hq hi2 hqw (hf i hi2) hg hA w 0 (upd B 0 (nI (i + 1))) v5 v6 (by omega) (fun z hz => by
      have e : z = 0 := by omega
      rw [e, upd_at, if_pos rfl]
      rfl)
    have hcp : ∀ k z, z + k = w + 1 → ∀ (A : Nat → Int32), (∀ y, y < z → A y = F' y) → ∃ A' v4, zr X 168 169 [.ref 160, .int (nI p), .int (nI q), .int (nI (i + 1)), .int (nI z), v5', v6'] [] (zk (zup (zup I 170 A) 171 F')) = zr X 168 200 [.ref 160, .int (nI p), .int (nI q), .int (nI (i + 1)), .int v4, v5', v6'] [] (zk (zup (zup I 170 A') 171 F')) ∧ ∀ y, y ≤ w → A' y = F' y := by
      intro k
      induction k with
      | zero =>
        intro z hz A hA
        refine ⟨A, nI z, ?_, fun y hy => hA y (by omega)⟩
        rw [k168_169 (zin_nI (by omega) (by decide)), zx_nI (by omega), n1, hqw, if_pos (nI_lt (by omega) (by omega))]
      | succ k ih =>
        intro z hz A hA
        obtain ⟨A', v, a1, a2⟩ := ih (z + 1) (by omega) (upd A z (F' z)) (fun y hy => by
          rw [upd_at]
          by_cases e : y = z
          · rw [if_pos e, e]
          · rw [if_neg e]; exact hA y (by omega))
        refine ⟨A', v, ?_, a2⟩
        rw [k168_169 (zin_nI (by omega) (by decide)), zx_nI (by omega), n1, hqw, if_neg (nI_nlt (show z ≤ w by omega) (by omega)), k168_180 (zin_nI (by omega) (by decide)), zx_nI (by omega), zup_self, ← nI_succ, zup_comm (I := I) (show (170 : Nat) ≠ 171 by decide), zs1_zup, ← zup_comm (I := I) (show (170 : Nat) ≠ 171 by decide), a1]
    obtain ⟨A', v, a1, a2⟩ := hcp (w + 1) 0 (by omega) A (fun y hy => absurd hy (Nat.not_lt_zero _))
    rw [nI_0] at a1
    rw [k168_27 (zin_nI (by omega) (by decide)), zx_nI (by omega), n1, hph, if_neg (nI_nlt (show i + 1 ≤ h by omega) (by omega)), k168_37, zs1_zup]
    have h1 : nI (0 + 1) = 1 := rfl
    rw [h1] at g1
    rw [g1, k168_166, a1, k168_200, ← nI_succ]
    exact m168out hh hw hp hq hph hqw hf hg k (i + 1) A' F' _ _ _ (by omega) (fun z hz => (a2 z hz).trans (g2 z hz))
theorem m168 {h w p q : Nat} {f g : Nat → Int32} (hh : h ≤ 60) (hw : w ≤ 60) (hp : p ≤ 614) (hq : q ≤ 614) (hph : I 161 p = nI h) (hqw : I 161 q = nI w) (hf : ∀ i, i < h → f i = I 161 (p + 1 + i)) (hg : ∀ k, k < w → g k = I 161 (q + 1 + k)) :
    ∃ (A' B' : Nat → Int32), zr X 168 0 [.ref 160, .int (nI p), .int (nI q), .null, .null, .null, .null] [] (zk I) = some (some (.int (nI (dst f g h w))), zk (zup (zup I 170 A') 171 B')) := by
  rw [k168_0]
  have hfill : ∀ k j, j + k = w + 1 → zr X 168 2 [.ref 160, .int (nI p), .int (nI q), .int (nI j), .null, .null, .null] [] (zk (zfw I 170 0 nI j)) = zr X 168 25 [.ref 160, .int (nI p), .int (nI q), .int (nI (w + 1)), .null, .null, .null] [] (zk (zfw I 170 0 nI (w + 1))) := by
    intro k
    induction k with
    | zero =>
      intro j hj
      have e : j = w + 1 := by omega
      subst e
      rw [k168_2 (zin_nI (by omega) (by decide)), zx_nI (by omega), zfw_ne (by decide), hqw, if_pos (nI_lt (Nat.lt_succ_self w) (by omega))]
    | succ k ih =>
      intro j hj
      have e := zfw_succ (I := I) (d := 170) (off := 0) (k := j) (g := nI)
      rw [Nat.zero_add] at e
      rw [k168_2 (zin_nI (by omega) (by decide)), zx_nI (by omega), zfw_ne (by decide), hqw, if_neg (nI_nlt (show j ≤ w by omega) (by omega)), k168_12 (zin_nI (by omega) (by decide)), zx_nI (by omega), e, ← nI_succ, ih (j + 1) (by omega)]
  have h1 := hfill (w + 1) 0 (by omega)
  rw [zfw_0, nI_0] at h1
  rw [h1, k168_25]
  have h2 := m168out (X := X) (I := I) (f := f) (g := g) hh hw hp hq hph hqw hf hg h 0 (fun j => if 0 ≤ j ∧ j < 0 + (w + 1) then nI (j - 0) else I 170 j) (I 171) .null .null .null (by omega) (fun z hz => by
    rw [if_pos (by omega)]
    rfl)
  have e : zup (zup I 170 (fun j => if 0 ≤ j ∧ j < 0 + (w + 1) then nI (j - 0) else I 170 j)) 171 (I 171) = zfw I 170 0 nI (w + 1) := zup_id (by rw [zup_ne (by decide)])
  rw [e] at h2
  exact h2
/-- apart -/
theorem p_apart {c : Nat} (hI : Inv c I) (h600 : c ≤ 600) (v w : Int32) : Call X c I 104 [.ref 1, .int v, .int w] 169 [.ref 160, .int v, .int w] := by
  have hend := inv_q hI cQ_rf (mQ_th (v := 0))
  have hI0 := hI
  obtain ⟨⟨⟨-, -, -, d1, d2⟩, -, -, vv, hvv, hv2, hv3, hv4⟩, -⟩ := hI
  have hv7 : vv < 700 := by omega
  have hs : I 13 2 = nI vv := d1.trans hv2
  have hk : min vv 6 ≤ 6 := by omega
  have hS0 : zs1 I 160 0 0 161 308 = nI (min vv 6) := by rw [th_161]; exact hv3
  rcases mk_cases (n := min vv 6) (by omega) v with hb | ⟨a, ha, rfl⟩
  · refine ⟨-1, I, zs1 I 160 0 0, ?_, ?_, hend⟩
    · rw [k104_0, c72n hv7 hs hb, zcb_some, zn_one, k104_11, if_pos rfl, k104_28]
    · rw [k169_0, m166n hk hS0 hb, zcb_some, zn_one, k169_10, if_pos rfl, k169_44]
  · rcases mk_cases (n := min vv 6) (by omega) w with hb | ⟨b, hb, rfl⟩
    · refine ⟨-1, I, zs1 I 160 0 0, ?_, ?_, hend⟩
      · rw [k104_0, c72y hv7 hs ha, zcb_some, zn_one, k104_11, if_neg (by decide), k104_14, c72n hv7 hs hb, zcb_some, zn_one, k104_25, if_neg (by decide), k104_28]
      · rw [k169_0, m166y hk hS0 ha, zcb_some, zn_one, k169_10, if_neg (by decide), k169_13, m166n hk hS0 hb, zcb_some, zn_one, k169_18, if_pos rfl, k169_44]
    · obtain ⟨h, hh, hh2⟩ := hv4 a ha
      obtain ⟨l, hl, hl2⟩ := hv4 b hb
      obtain ⟨f1, f2⟩ := d2 a (by rw [hv3, zx_nI (by omega)]; exact ha)
      obtain ⟨g1, g2⟩ := d2 b (by rw [hv3, zx_nI (by omega)]; exact hb)
      rw [hv2, zx_nI (by omega)] at f1 f2 g1 g2
      rw [hh2, zx_nI (by omega)] at f2
      rw [hl2, zx_nI (by omega)] at g2
      have e309 : ∀ j, (309 : Int32) + 61 * nI j = nI (309 + 61 * j) := fun j => by
        rw [zI_add, zI_mul]
        rfl
      obtain ⟨F, r1⟩ := c77 (X := X) (I := I) (f := fun k => I 161 (310 + 61 * a + k)) (g := fun k => I 161 (310 + 61 * b + k)) hv7 hs ha hb hh hl (f1.trans hh2) (g1.trans hl2) (fun i hi => (f2 i hi).symm) (fun i hi => (g2 i hi).symm)
      have n161 : zs1 (zup I 159 F) 160 0 0 161 = I 161 := by rw [zs1_ne (by decide), zup_ne (by decide)]
      have hS1 : zs1 (zup I 159 F) 160 0 0 161 308 = nI (min vv 6) := by rw [n161]; exact hv3
      obtain ⟨A', B', r2⟩ := m168 (X := X) (I := zs1 (zup I 159 F) 160 0 0) (p := 309 + 61 * a) (q := 309 + 61 * b) (f := fun k => I 161 (310 + 61 * a + k)) (g := fun k => I 161 (310 + 61 * b + k)) hh hl (by omega) (by omega) (by rw [n161]; exact hh2) (by rw [n161]; exact hl2) (fun i hi => by rw [n161]; congr 1; omega) (fun i hi => by rw [n161]; congr 1; omega)
      refine ⟨nI (dst (fun k => I 161 (310 + 61 * a + k)) (fun k => I 161 (310 + 61 * b + k)) h l), zup I 159 F, zup (zup (zs1 (zup I 159 F) 160 0 0) 170 A') 171 B', ?_, ?_, inv_q (I1 := zup I 159 F) hI0 (fun t ht => zup_ne (by omega)) (mQ_tr (J := zs1 (zup I 159 F) 160 0 0) mQ_th ⟨fun t ht => by rw [zup_ne (by omega), zup_ne (by omega)], ?_, ?_, ?_, ?_, ?_, ?_, ?_⟩)⟩
      · rw [k104_0, c72y hv7 hs ha, zcb_some, zn_one, k104_11, if_neg (by decide), k104_14, c72y hv7 hs hb, zcb_some, zn_one, k104_25, if_pos (by decide), k104_30, r1, zcb_some, zn_one, k104_46]
      · rw [k169_0, m166y hk hS1 ha, zcb_some, zn_one, k169_10, if_neg (by decide), k169_13, m166y hk hS1 hb, zcb_some, zn_one, k169_18, if_neg (by decide), k169_21, e309, e309, r2, zcb_some, zn_one, k169_41]
      all_goals rw [zup_ne (by decide), zup_ne (by decide)]
end A4
