/-! the reference ships: marks go, versions move on -/
def dL (kq : Nat → Bool) (n i : Nat) : List Nat := (List.range' i (n - i)).filter kq
theorem dL_n {kq : Nat → Bool} {n : Nat} : dL kq n n = [] := by
  unfold dL
  rw [Nat.sub_self]
  rfl
theorem dL_s {kq : Nat → Bool} {n i : Nat} (h : i < n) : dL kq n i = if kq i = true then i :: dL kq n (i + 1) else dL kq n (i + 1) := by
  unfold dL
  rw [show n - i = (n - (i + 1)) + 1 by omega, List.range'_succ]
  by_cases a : kq i = true
  · rw [if_pos a, List.filter_cons_of_pos a]
  · rw [if_neg a, List.filter_cons_of_neg a]
theorem dL_len {kq : Nat → Bool} {n i : Nat} : (dL kq n i).length ≤ n - i := by
  unfold dL
  refine Nat.le_trans (List.length_filter_le _ _) ?_
  rw [List.length_range']
  exact Nat.le_refl _
theorem dL_kL {st : Nat → Bool} {tw : Nat → Nat → Bool} {n : Nat} : dL (kp st tw) n 0 = kL st tw n := by
  rw [kL_filter, List.range_eq_range']
  rfl
def vSh (S : Nat → Int32) (k x : Nat) : Int32 := if 370 + k ≤ x ∧ x < 675 then S (x - 61) else S x
def vWr (R ov : Nat → Int32) (q x : Nat) : Int32 := if 1 ≤ x ∧ x < 1 + q then ov (x - 1) else if 310 ≤ x ∧ x < 310 + q then ov (x - 310) else R x
theorem vWr_s {R ov : Nat → Int32} {q : Nat} (hq : q < 60) : upd (upd (vWr R ov q) (1 + q) (ov q)) (310 + q) (upd (vWr R ov q) (1 + q) (ov q) (1 + q)) = vWr R ov (q + 1) := by
  funext y
  rw [upd_at, upd_at, upd_at, if_pos rfl]
  unfold vWr
  by_cases a : y = 310 + q
  · rw [if_pos a, if_neg (show ¬ (1 ≤ y ∧ y < 1 + (q + 1)) by omega), if_pos (by omega), show y - 310 = q by omega]
  · rw [if_neg a]
    by_cases b : y = 1 + q
    · rw [if_pos b, if_pos (show 1 ≤ y ∧ y < 1 + (q + 1) by omega), show y - 1 = q by omega]
    · rw [if_neg b]
      by_cases d : 1 ≤ y ∧ y < 1 + q
      · rw [if_pos d, if_pos (show 1 ≤ y ∧ y < 1 + (q + 1) by omega)]
      · rw [if_neg d, if_neg (show ¬ (1 ≤ y ∧ y < 1 + (q + 1)) by omega)]
        by_cases f : 310 ≤ y ∧ y < 310 + q
        · rw [if_pos f, if_pos (by omega)]
        · rw [if_neg f, if_neg (by omega)]
section S6
variable {X : Nat × (Nat → Int32)} {I : Nat → Nat → Int32}
theorem m156d {n : Nat} {S G : Nat → Int32} {kq : Nat → Bool} (hn : n ≤ 20) (h66 : S 66 = nI n) (hG : ∀ i, i < n → G i = zb (!kq i)) : ∃ R, zr X 156 17 [.ref 160, .null] [] (zk (zM2 I S G)) = zr X 156 51 [.ref 160, .int (0 - 1)] [] (zk (zM2 I R G)) ∧ R 66 = nI (dL kq n 0).length ∧ (∀ r w, w < 12 → r < (dL kq n 0).length → vR R w r = vR S w ((dL kq n 0).getD r 0)) ∧ ∀ k, k < 66 ∨ 307 ≤ k → R k = S k := by
  rw [k156_17, zM2_a, h66]
  have h : ∀ i R, i ≤ n → R 66 = nI (i + (dL kq n i).length) → (∀ r w, w < 12 → r < i → vR R w r = vR S w r) → (∀ q w, w < 12 → q < (dL kq n i).length → vR R w (i + q) = vR S w ((dL kq n i).getD q 0)) → (∀ k, k < 66 ∨ 307 ≤ k → R k = S k) → ∃ R', zr X 156 27 [.ref 160, .int (nI i - 1)] [] (zk (zM2 I R G)) = zr X 156 51 [.ref 160, .int (0 - 1)] [] (zk (zM2 I R' G)) ∧ R' 66 = nI (dL kq n 0).length ∧ (∀ r w, w < 12 → r < (dL kq n 0).length → vR R' w r = vR S w ((dL kq n 0).getD r 0)) ∧ ∀ k, k < 66 ∨ 307 ≤ k → R' k = S k := by
    intro i
    induction i with
    | zero =>
      intro R hi a1 a2 a3 a4
      rw [Nat.zero_add] at a1
      refine ⟨R, ?_, a1, fun r w hw hr => ?_, a4⟩
      · rw [nI_0, k156_27, if_pos (by decide)]
      · have := a3 r w hw hr
        rw [Nat.zero_add] at this
        exact this
    | succ i ih =>
      intro R hi a1 a2 a3 a4
      have e : nI (i + 1) - 1 = nI i := zI_sub (b := 1) (by omega)
      have e2 : nI i + (-1) = nI i - 1 := (Int32.sub_eq_add_neg _ _).symm
      have hl := dL_len (kq := kq) (n := n) (i := i + 1)
      rw [e, k156_27, if_neg (nI_pos (by omega)), k156_31 (zin_nI (by omega) (by decide)), zx_nI (by omega), zM2_b, hG i (by omega)]
      by_cases b : kq i = true
      · have ed : dL kq n i = i :: dL kq n (i + 1) := by rw [dL_s (by omega), if_pos b]
        rw [b, if_pos (by decide), k156_45, e2]
        refine ih R (by omega) (by rw [a1, ed, List.length_cons]; congr 1; omega) (fun r w hw hr => a2 r w hw (by omega)) (fun q w hw hq => ?_) a4
        rw [ed] at hq ⊢
        cases q with
        | zero => exact a2 i w hw (by omega)
        | succ q =>
          have := a3 q w hw (by rw [List.length_cons] at hq; omega)
          rw [show i + 1 + q = i + (q + 1) by omega] at this
          rw [this]
          rfl
      · rw [Bool.not_eq_true] at b
        have ed : dL kq n i = dL kq n (i + 1) := by rw [dL_s (by omega), b]; rfl
        rw [b, if_neg (by decide), k156_40, m149 (n := i + 1 + (dL kq n (i + 1)).length) (by omega) (by omega) (by rw [zM2_a]; exact a1), zcb_some, zn_nil, k156_45, e2, zM2_a, zM2_ua]
        refine ih _ (by omega) ?_ (fun r w hw hr => ?_) (fun q w hw hq => ?_) (fun k hk => ?_)
        · rw [ed]
          refine (if_pos rfl).trans ?_
          congr 1
          omega
        · rw [rDrop_at hw (by omega)]
          unfold rr
          rw [if_pos hr]
          exact a2 r w hw (by omega)
        · rw [ed] at hq ⊢
          rw [rDrop_at hw (by omega)]
          unfold rr
          rw [if_neg (by omega), show i + q + 1 = i + 1 + q by omega]
          exact a3 q w hw hq
        · rw [rDrop_out (by omega) (by omega)]
          exact a4 k hk
  exact h n S (Nat.le_refl n) (by rw [dL_n]; exact h66) (fun _ _ _ _ => rfl) (fun q w _ hq => absurd hq (by rw [dL_n]; exact Nat.not_lt_zero _)) (fun _ _ => rfl)
theorem m156s {S G : Nat → Int32} {v : Int32} : zr X 156 51 [.ref 160, .int v] [] (zk (zM2 I S G)) = zr X 156 90 [.ref 160, .int (nI 60)] [] (zk (zM2 I (vSh S 0) G)) := by
  rw [k156_51]
  have h : ∀ k, k ≤ 305 → zr X 156 55 [.ref 160, .int (nI (60 + k))] [] (zk (zM2 I (vSh S k) G)) = zr X 156 90 [.ref 160, .int (nI 60)] [] (zk (zM2 I (vSh S 0) G)) := by
    intro k
    induction k with
    | zero =>
      intro _
      rw [k156_55, if_pos (show nI (60 + 0) < 61 by decide)]
    | succ k ih =>
      intro hk
      have e1 : (309 : Int32) + nI (60 + (k + 1)) = nI (370 + k) := by
        rw [show (309 : Int32) = nI 309 from rfl, ← zI_add]
        congr 1
        omega
      have e2 : nI (370 + k) - 61 = nI (309 + k) := by
        have := zI_sub (a := 370 + k) (b := 61) (by omega)
        rw [show 370 + k - 61 = 309 + k by omega] at this
        exact this
      have e3 : nI (60 + (k + 1)) + (-1) = nI (60 + k) := by
        rw [← Int32.sub_eq_add_neg]
        exact zI_sub (a := 60 + (k + 1)) (b := 1) (by omega)
      rw [k156_55, if_neg (show ¬ nI (60 + (k + 1)) < 61 from nI_nlt (b := 61) (by omega) (by omega)), k156_61 (by rw [e1, e2]; exact zin_nI (by omega) (by decide)) (by rw [e1]; exact zin_nI (by omega) (by decide)), e1, e2, e3, zx_nI (by omega), zx_nI (by omega), zM2_a, zM2_sa]
      have e4 : upd (vSh S (k + 1)) (370 + k) (vSh S (k + 1) (309 + k)) = vSh S k := by
        funext x
        rw [upd_at]
        unfold vSh
        rw [if_neg (show ¬ (370 + (k + 1) ≤ 309 + k ∧ 309 + k < 675) by omega)]
        by_cases a : x = 370 + k
        · rw [if_pos a, if_pos (by omega), a]
          congr 1
          omega
        · rw [if_neg a]
          by_cases b : 370 + (k + 1) ≤ x ∧ x < 675
          · rw [if_pos b, if_pos (by omega)]
          · rw [if_neg b, if_neg (by omega)]
      rw [e4]
      exact ih (by omega)
  have e5 : vSh S 305 = S := by
    funext x
    exact if_neg (by omega)
  have h1 := h 305 (Nat.le_refl _)
  rw [e5] at h1
  exact h1
theorem m156w {R G : Nat → Int32} {l : Nat} (hl : l ≤ 180) (h11 : I 160 11 = nI l) : zr X 156 114 [.ref 160, .int 0] [] (zk (zM2 I R G)) = zr X 156 170 [.ref 160, .int (nI 60)] [] (zk (zM2 I (vWr R (fun k => if k < l then I 168 k else 0) 60) G)) := by
  have h : ∀ k q, q + k = 60 → zr X 156 114 [.ref 160, .int (nI q)] [] (zk (zM2 I (vWr R (fun k => if k < l then I 168 k else 0) q) G)) = zr X 156 170 [.ref 160, .int (nI 60)] [] (zk (zM2 I (vWr R (fun k => if k < l then I 168 k else 0) 60) G)) := by
    intro k
    induction k with
    | zero =>
      intro q hq
      have e : q = 60 := by omega
      subst e
      rw [k156_114, if_pos (by decide)]
    | succ k ih =>
      intro q hq
      have e1 : (1 : Int32) + nI q = nI (1 + q) := by rw [zI_add]; rfl
      have e2 : (310 : Int32) + nI q = nI (310 + q) := by rw [zI_add]; rfl
      have hst : ∀ x, x = (if q < l then I 168 q else 0) → upd (upd (vWr R (fun k => if k < l then I 168 k else 0) q) (1 + q) x) (310 + q) (upd (vWr R (fun k => if k < l then I 168 k else 0) q) (1 + q) x (1 + q)) = vWr R (fun k => if k < l then I 168 k else 0) (q + 1) := by
        rintro x rfl
        exact vWr_s (by omega)
      rw [k156_114, if_neg (show ¬ (60 : Int32) ≤ nI q from nI_ge (b := 60) (by omega) (by decide)), k156_120, zM2_o (by decide) (by decide), h11]
      by_cases a : q < l
      · rw [if_neg (nI_ge a (by omega)), k156_135 (zin_nI (by omega) (by decide)) (by rw [e1]; exact zin_nI (by omega) (by decide)) (by rw [e1]; exact zin_nI (by omega) (by decide)) (by rw [e2]; exact zin_nI (by omega) (by decide)), e1, e2, zx_nI (by omega), zx_nI (by omega), zx_nI (by omega), zM2_o (t := 168) (by decide) (by decide), zM2_sa, zM2_a, zM2_sa, hst _ (if_pos a).symm, ← nI_succ]
        exact ih (q + 1) (by omega)
      · rw [if_pos (nI_le (by omega) (by omega)), k156_144 (by rw [e1]; exact zin_nI (by omega) (by decide)) (by rw [e1]; exact zin_nI (by omega) (by decide)) (by rw [e2]; exact zin_nI (by omega) (by decide)), e1, e2, zx_nI (by omega), zx_nI (by omega), zM2_sa, zM2_a, zM2_sa, hst _ (if_neg a).symm, ← nI_succ]
        exact ih (q + 1) (by omega)
  have e0 : vWr R (fun k => if k < l then I 168 k else 0) 0 = R := by
    funext x
    unfold vWr
    rw [if_neg (by omega), if_neg (by omega)]
  have h1 := h 60 0 rfl
  rw [nI_0, e0] at h1
  exact h1
theorem m156e {R G : Nat → Int32} {w : Int32} {v : Nat} (hv : v ≤ 1000) (h7 : R 307 = nI v) (h8 : R 308 = nI (min v 6)) : zr X 156 170 [.ref 160, .int w] [] (zk (zM2 I R G)) = some (some (.int (nI v)), zk (zM2 I (upd (upd R 308 (nI (min (v + 1) 6))) 307 (nI (v + 1))) G)) := by
  have e0 : zx (308 : Int32) = 308 := by decide
  have e1 : nI v + 1 = nI (v + 1) := (nI_succ v).symm
  have e2 : nI (v + 1) - 1 = nI v := zI_sub (a := v + 1) (b := 1) (by omega)
  rw [k156_170, zM2_a, h8]
  by_cases a : v < 6
  · rw [if_neg (show ¬ (6 : Int32) ≤ nI (min v 6) from nI_ge (b := 6) (by omega) (by decide)), k156_192 (by decide), e0, zM2_sa, zM2_a, upd_at, if_neg (by decide), h7, e1, zM2_sa, zM2_a, upd_at, if_pos rfl, e2, ← nI_succ, show min v 6 + 1 = min (v + 1) 6 by omega]
  · rw [if_pos (show (6 : Int32) ≤ nI (min v 6) from nI_le (a := 6) (by omega) (by omega)), k156_196 (by decide), e0, zM2_sa, zM2_a, upd_at, if_neg (by decide), h7, e1, zM2_sa, zM2_a, upd_at, if_pos rfl, e2, z_add0, show min v 6 = min (v + 1) 6 by omega]
/-- all of it, behind prints -/
theorem m156 {t n v l : Nat} {S : Nat → Int32} (hn : n ≤ 20) (hS : I 161 = S) (hs : S 66 = nI n) (hu : okU t n (vR S) (fun i => zb (decide (vR S 5 i = 1)))) (hU : ∀ i, i < n → I 167 i = zb (decide (vR S 5 i = 1))) (hv : v ≤ 1000) (h7 : S 307 = nI v) (h8 : S 308 = nI (min v 6)) (hl : l ≤ 60) (h11 : I 160 11 = nI l) : ∃ (S' G : Nat → Int32), zr X 156 13 [.ref 160, .null] [] (zk I) = some (some (.int (nI v)), zk (zM2 I S' G)) ∧ S' 0 = nI l ∧ (∀ k, k < l → S' (1 + k) = I 168 k) ∧ (∀ k, 61 ≤ k → k < 66 → S' k = S k) ∧ S' 66 = nI (kL (stay (vR S) n) (twin (vR (gS S n n))) n).length ∧ (∀ r w, w < 12 → r < (kL (stay (vR S) n) (twin (vR (gS S n n))) n).length → vR S' w r = vR (gS S n n) w ((kL (stay (vR S) n) (twin (vR (gS S n n))) n).getD r 0)) ∧ S' 307 = nI (v + 1) ∧ S' 308 = nI (min (v + 1) 6) ∧ S' 309 = nI l ∧ (∀ k, k < l → S' (310 + k) = I 168 k) ∧ ∀ x, 370 ≤ x → x < 675 → S' x = S (x - 61) := by
  obtain ⟨G, g1, g2⟩ := m155 (X := X) (I := I) hn hS hs hu hU
  obtain ⟨R, r1, r2, r3, r4⟩ := m156d (X := X) (I := I) (S := gS S n n) (G := G) hn (by rw [gS_out (by omega)]; exact hs) g2
  rw [dL_kL] at r2 r3
  have hlen := kL_len (st := stay (vR S) n) (tw := twin (vR (gS S n n))) n
  have hR : ∀ k, k < 66 ∨ 307 ≤ k → R k = S k := fun k hk => (r4 k hk).trans (gS_out (by omega))
  have hW : ∀ x, ¬ (1 ≤ x ∧ x < 61) → ¬ (310 ≤ x ∧ x < 370) → vWr (upd (upd (vSh R 0) 0 (nI l)) 309 (nI l)) (fun k => if k < l then I 168 k else 0) 60 x = upd (upd (vSh R 0) 0 (nI l)) 309 (nI l) x := by
    intro x x1 x2
    unfold vWr
    rw [if_neg (by omega), if_neg (by omega)]
  have hW2 : ∀ x, ¬ (1 ≤ x ∧ x < 61) → ¬ (310 ≤ x ∧ x < 370) → x ≠ 0 → x ≠ 309 → x < 370 → vWr (upd (upd (vSh R 0) 0 (nI l)) 309 (nI l)) (fun k => if k < l then I 168 k else 0) 60 x = R x := by
    intro x x1 x2 x3 x4 x5
    rw [hW x x1 x2, upd_at, if_neg x4, upd_at, if_neg x3]
    unfold vSh
    rw [if_neg (by omega)]
  generalize hWe : vWr (upd (upd (vSh R 0) 0 (nI l)) 309 (nI l)) (fun k => if k < l then I 168 k else 0) 60 = W at hW hW2
  have w7 : W 307 = nI v := by rw [hW2 _ (by decide) (by decide) (by decide) (by decide) (by decide), hR _ (by decide)]; exact h7
  have w8 : W 308 = nI (min v 6) := by rw [hW2 _ (by decide) (by decide) (by decide) (by decide) (by decide), hR _ (by decide)]; exact h8
  have hU2 : ∀ x, x ≠ 307 → x ≠ 308 → upd (upd W 308 (nI (min (v + 1) 6))) 307 (nI (v + 1)) x = W x := fun x x1 x2 => by rw [upd_at, if_neg x1, upd_at, if_neg x2]
  refine ⟨upd (upd W 308 (nI (min (v + 1) 6))) 307 (nI (v + 1)), G, ?_, ?_, fun k hk => ?_, fun k k1 k2 => ?_, ?_, fun r w hw hr => ?_, ?_, ?_, ?_, fun k hk => ?_, fun x x1 x2 => ?_⟩
  · rw [k156_13, g1, zcb_some, zn_nil, r1, m156s, k156_90, zM2_o (t := 160) (by decide) (by decide), h11, zM2_sa, zM2_sa, m156w (by omega) h11, hWe, m156e hv w7 w8]
  · rw [hU2 _ (by decide) (by decide), hW _ (by decide) (by decide), upd_at, if_neg (by decide), upd_at, if_pos rfl]
  · rw [hU2 _ (by omega) (by omega), ← hWe]
    unfold vWr
    rw [if_pos (by omega), show 1 + k - 1 = k by omega]
    exact if_pos hk
  · rw [hU2 _ (by omega) (by omega), hW2 _ (by omega) (by omega) (by omega) (by omega) (by omega)]
    exact hR k (Or.inl k2)
  · rw [hU2 _ (by decide) (by decide), hW2 _ (by decide) (by decide) (by decide) (by decide) (by decide)]
    exact r2
  · rw [← r3 r w hw hr]
    show upd (upd W 308 (nI (min (v + 1) 6))) 307 (nI (v + 1)) (67 + 12 * r + w) = R (67 + 12 * r + w)
    rw [hU2 _ (by omega) (by omega), hW2 _ (by omega) (by omega) (by omega) (by omega) (by omega)]
  · rw [upd_at, if_pos rfl]
  · rw [upd_at, if_neg (by decide), upd_at, if_pos rfl]
  · rw [hU2 _ (by decide) (by decide), hW _ (by decide) (by decide), upd_at, if_pos rfl]
  · rw [hU2 _ (by omega) (by omega), ← hWe]
    unfold vWr
    rw [if_neg (by omega), if_pos (by omega), show 310 + k - 310 = k by omega]
    exact if_pos hk
  · rw [hU2 _ (by omega) (by omega), hW _ (by omega) (by omega), upd_at, if_neg (by omega), upd_at, if_neg (by omega)]
    unfold vSh
    rw [if_pos (by omega)]
    exact hR _ (by omega)
end S6
