/-! put -/
def lsh (v : Int64) : Int64 := (v.toUInt64 >>> ((8 : Int32).toInt64.toUInt64 &&& Int64.toUInt64 63)).toInt64
def lb (v : Int64) : Int32 := (v &&& 255).toInt32
theorem lsh_n (v : Int64) : (lsh v).toUInt64.toNat = v.toUInt64.toNat / 256 := by
  have e8 : (8 : Int32).toInt64.toUInt64 &&& Int64.toUInt64 63 = 8 := by decide
  unfold lsh
  rw [UInt64.toUInt64_toInt64, e8, UInt64.toNat_shiftRight]
  show v.toUInt64.toNat >>> 8 = _
  rw [Nat.shiftRight_eq_div_pow]
theorem l0_iff (v : Int64) : v = 0 ↔ v.toUInt64.toNat = 0 := by
  constructor
  · rintro rfl
    decide
  · intro h
    have h1 : v.toUInt64 = 0 := UInt64.toNat.inj h
    have h2 := Int64.toInt64_toUInt64 v
    rw [h1] at h2
    rw [← h2]
    decide
theorem lb_0 {v : Int64} (h : v &&& 255 = 0) : lb v = 0 := by
  unfold lb
  rw [h]
  decide
/-- how many characters are in a number -/
def cIn : Nat → Int64 → Nat → Option Nat
  | 0, _, k => if k = 0 then none else some k
  | f + 1, r, k => if r = 0 then (if k = 0 then none else some k) else if lb r < 33 ∨ 126 < lb r then none else cIn f (lsh r) (k + 1)
theorem cIn_le : ∀ f r k n, cIn f r k = some n → 1 ≤ n ∧ n ≤ k + f
  | 0, r, k, n, h => by
    unfold cIn at h
    split at h
    · cases h
    · cases h
      omega
  | f + 1, r, k, n, h => by
    unfold cIn at h
    split at h
    · split at h
      · cases h
      · cases h
        omega
    · split at h
      · cases h
      · have := cIn_le f (lsh r) (k + 1) n h
        omega
def oI (x : Option Nat) : Int32 := match x with
  | none => -6
  | some n => nI n
/-- one of them -/
def cdv (v : Int64) (x : Int32) : Int32 := (((v.toUInt64 >>> (x.toInt64.toUInt64 &&& Int64.toUInt64 63)).toInt64) &&& 255).toInt32
theorem nI_nz {k : Nat} (h : ¬ k = 0) (hk : k < 2 ^ 31) : ¬ nI k = 0 := fun z => h ((nI_inj (b := 0) hk (by decide)).mp z)
section P1
variable {X : Nat × (Nat → Int32)} {I : Nat → Nat → Int32}
/-- the characters ahead of the k last ones -/
theorem shk {v r : Int64} {k : Nat} (hk : k < 8) (h : r.toUInt64.toNat = v.toUInt64.toNat / 256 ^ k) : (v.toUInt64 >>> ((8 * nI k).toInt64.toUInt64 &&& Int64.toUInt64 63)).toInt64 = r := by
  have e : ∀ k : Nat, k < 8 → ((8 * nI k).toInt64.toUInt64 &&& Int64.toUInt64 63).toNat % 64 = 8 * k := by decide
  have e1 : (v.toUInt64 >>> ((8 * nI k).toInt64.toUInt64 &&& Int64.toUInt64 63)).toNat = v.toUInt64.toNat / 256 ^ k := by
    rw [UInt64.toNat_shiftRight, e k hk, Nat.shiftRight_eq_div_pow, Nat.pow_mul]
  rw [UInt64.toNat.inj (e1.trans h.symm), Int64.toInt64_toUInt64]
theorem c39 (v : Int64) : zr X 39 0 [.long v, .null, .null, .null] [] (zk I) = some (some (.int (oI (cIn 8 v 0))), zk I) := by
  rw [k39_0]
  have h : ∀ f (r : Int64) k (w : Value), k + f = 8 → r.toUInt64.toNat = v.toUInt64.toNat / 256 ^ k → zr X 39 2 [.long v, .null, .int (nI k), w] [] (zk I) = some (some (.int (oI (cIn f r k))), zk I) := by
    intro f
    induction f with
    | zero =>
      intro r k w hk hr
      have e : k = 8 := by omega
      subst e
      rw [k39_2, if_pos (by decide), k39_46, if_pos (by decide), k39_55]
      rfl
    | succ f ih =>
      intro r k w hk hr
      unfold cIn
      rw [k39_2, if_neg (show ¬ (8 : Int32) ≤ nI k from nI_ge (b := 8) (by omega) (by decide)), k39_8, shk (by omega) hr]
      by_cases h0 : r = 0
      · rw [if_pos ((lg_cmp_eq r 0).mpr h0), k39_46, if_pos h0]
        by_cases k0 : k = 0
        · rw [if_neg (by rw [k0]; exact fun z => z rfl), k39_50, if_pos k0]
          rfl
        · rw [if_pos (nI_nz k0 (by omega)), k39_55, if_neg k0]
          rfl
      · rw [if_neg (fun z => h0 ((lg_cmp_eq r 0).mp z)), k39_19, k186_0, zcb_some, zn_one, k39_24, shk (by omega) hr, if_neg h0]
        by_cases a : lb r < 33
        · rw [if_pos (show (r &&& 255).toInt32 < 33 from a), k39_37, if_pos (Or.inl a)]
          rfl
        · rw [if_neg (show ¬ (r &&& 255).toInt32 < 33 from a), k39_31]
          by_cases b : (126 : Int32) < lb r
          · rw [if_neg (show ¬ (r &&& 255).toInt32 ≤ 126 from Int32.not_le.mpr b), k39_37, if_pos (Or.inr b)]
            rfl
          · rw [if_pos (show (r &&& 255).toInt32 ≤ 126 from Int32.not_lt.mp b), k39_40, if_neg (by rintro (z | z) <;> contradiction), ← nI_succ]
            refine ih (lsh r) (k + 1) _ (by omega) ?_
            rw [lsh_n, hr, Nat.div_div_eq_div_mul, Nat.pow_succ]
  have h1 := h 8 v 0 .null rfl (by rw [Nat.pow_zero, Nat.div_one])
  rw [nI_0] at h1
  exact h1
theorem m172d {v : Int64} : ∀ f (r : Int64) k, k + f = 8 → zr X 172 13 [.ref 160, .long v, .null, .int (nI k), .long r, .null, .int 0, .null] [] (zk I) = some (some (.int (-2)), zk I) := by
  have hd : ∀ (r : Int64) (x : Int32), zr X 172 72 [.ref 160, .long v, .null, .int x, .long r, .null, .int 0, .null] [] (zk I) = some (some (.int (-2)), zk I) := by
    intro r x
    rw [k172_72]
    by_cases k0 : x = 0
    · rw [if_pos k0, k172_88]
    · rw [if_neg k0, k172_76, if_pos rfl, k172_88]
  intro f
  induction f with
  | zero =>
    intro r k hk
    have e : k = 8 := by omega
    subst e
    rw [k172_13, if_pos (by decide), hd]
  | succ f ih =>
    intro r k hk
    rw [k172_13, if_neg (show ¬ (8 : Int32) ≤ nI k from nI_ge (b := 8) (by omega) (by decide)), k172_19]
    by_cases a : r &&& 255 = 0
    · rw [if_pos ((lg_cmp_eq _ 0).mpr a), hd]
    · rw [if_neg (fun z => a ((lg_cmp_eq _ 0).mp z)), k172_30, if_pos rfl, k172_56, ← nI_succ]
      exact ih _ (k + 1) (by omega)
theorem m172a {v : Int64} : ∀ f (r : Int64) k, k + f = 8 → r.toUInt64.toNat < 256 ^ f → (cIn f r k = none ∧ zr X 172 13 [.ref 160, .long v, .null, .int (nI k), .long r, .null, .int 1, .null] [] (zk I) = some (some (.int (-2)), zk I)) ∨ ∃ n r', cIn f r k = some n ∧ zr X 172 13 [.ref 160, .long v, .null, .int (nI k), .long r, .null, .int 1, .null] [] (zk I) = zr X 172 91 [.ref 160, .long v, .null, .int (nI n), .long r', .null, .int 1, .null] [] (zk I) := by
  intro f
  induction f with
  | zero =>
    intro r k hk hr
    have e : k = 8 := by omega
    subst e
    have h0 : r = 0 := (l0_iff r).mpr (by simpa using hr)
    refine Or.inr ⟨8, r, rfl, ?_⟩
    rw [k172_13, if_pos (by decide), k172_72, if_neg (by decide), k172_76, if_neg (by decide), k172_81, if_pos ((lg_cmp_eq r 0).mpr h0)]
  | succ f ih =>
    intro r k hk hr
    unfold cIn
    rw [k172_13, if_neg (show ¬ (8 : Int32) ≤ nI k from nI_ge (b := 8) (by omega) (by decide)), k172_19]
    by_cases a : r &&& 255 = 0
    · rw [if_pos ((lg_cmp_eq _ 0).mpr a), k172_72]
      by_cases h0 : r = 0
      · rw [if_pos h0]
        by_cases k0 : k = 0
        · refine Or.inl ⟨if_pos k0, ?_⟩
          rw [if_pos (by rw [k0]; rfl), k172_88]
        · refine Or.inr ⟨k, r, if_neg k0, ?_⟩
          rw [if_neg (nI_nz k0 (by omega)), k172_76, if_neg (by decide), k172_81, if_pos ((lg_cmp_eq r 0).mpr h0)]
      · rw [if_neg h0]
        refine Or.inl ⟨if_pos (Or.inl (by rw [lb_0 a]; decide)), ?_⟩
        by_cases k0 : k = 0
        · rw [if_pos (by rw [k0]; rfl), k172_88]
        · rw [if_neg (nI_nz k0 (by omega)), k172_76, if_neg (by decide), k172_81, if_neg (fun z => h0 ((lg_cmp_eq r 0).mp z)), k172_88]
    · have h0 : ¬ r = 0 := by
        rintro rfl
        exact a (by decide)
      rw [if_neg h0, if_neg (fun z => a ((lg_cmp_eq _ 0).mp z)), k172_30, if_neg (show ¬ (1 : Int32) = 0 by decide), k172_35, m116, zcb_some, zn_one, k172_49]
      have hlb : (r &&& 255).toInt32 = lb r := rfl
      rw [hlb]
      by_cases b : lb r < 33 ∨ 126 < lb r
      · refine Or.inl ⟨if_pos b, ?_⟩
        have e : (decide (¬ lb r < 33) && decide (¬ (126 : Int32) < lb r)) = false := by
          rcases b with b | b
          · simp [b]
          · rw [decide_eq_false (show ¬ ¬ (126 : Int32) < lb r from fun z => z b), Bool.and_false]
        rw [e, if_pos (show zb false = 0 from rfl), k172_56, ← nI_succ]
        exact m172d f _ (k + 1) (by omega)
      · have e : (decide (¬ lb r < 33) && decide (¬ (126 : Int32) < lb r)) = true := by
          rw [decide_eq_true (show ¬ lb r < 33 from fun z => b (Or.inl z)), decide_eq_true (show ¬ (126 : Int32) < lb r from fun z => b (Or.inr z))]
          rfl
        rw [if_neg b, e, if_neg (show ¬ zb true = 0 by decide), k172_52, ← nI_succ]
        refine ih (lsh r) (k + 1) (by omega) ?_
        rw [lsh_n]
        rw [Nat.pow_succ] at hr
        omega
/-- append -/
theorem c40 {v : Int64} {p n : Nat} (h1 : I 142 1 = nI p) (hpn : p + n ≤ 60) : ∃ J, zr X 40 0 [.ref 142, .long v, .null, .int (nI n), .null] [] (zk I) = some (none, zk J) ∧ J 142 1 = nI (p + n) ∧ (∀ k, J 143 k = if p ≤ k ∧ k < p + n then cdv v (8 * nI (n - 1 - (k - p))) else I 143 k) ∧ ∀ t, t ≠ 142 → t ≠ 143 → J t = I t := by
  rw [k40_0]
  have h : ∀ j K, j ≤ n → K 142 1 = nI (p + (n - j)) → (∀ k, K 143 k = if p ≤ k ∧ k < p + (n - j) then cdv v (8 * nI (n - 1 - (k - p))) else I 143 k) → (∀ t, t ≠ 142 → t ≠ 143 → K t = I t) → ∃ J, zr X 40 5 [.ref 142, .long v, .null, .int (nI n), .int (nI j - 1)] [] (zk K) = some (none, zk J) ∧ J 142 1 = nI (p + n) ∧ (∀ k, J 143 k = if p ≤ k ∧ k < p + n then cdv v (8 * nI (n - 1 - (k - p))) else I 143 k) ∧ ∀ t, t ≠ 142 → t ≠ 143 → J t = I t := by
    intro j
    induction j with
    | zero =>
      intro K hj a1 a2 a3
      exact ⟨K, by rw [nI_0, k40_5, if_pos (by decide), k40_50], a1, a2, a3⟩
    | succ j ih =>
      intro K hj a1 a2 a3
      have e : nI (j + 1) - 1 = nI j := zI_sub (b := 1) (by omega)
      have e2 : nI j + (-1) = nI j - 1 := (Int32.sub_eq_add_neg _ _).symm
      rw [e, k40_5, if_neg (nI_pos (by omega)), k40_10, a1, if_neg (show ¬ (60 : Int32) ≤ nI (p + (n - (j + 1))) from nI_ge (b := 60) (by omega) (by decide)), k40_19, k186_0, zcb_some, zn_one, k40_33 (s1 := K 142 1) (by rw [a1]; exact zin_nI (by omega) (by decide)), a1, zx_nI (by omega), e2, ← nI_succ]
      refine ih _ (by omega) ?_ (fun k => ?_) (fun t t1 t2 => (zs1_ne t1).trans ((zs1_ne t2).trans (a3 t t1 t2)))
      · rw [zs1_self, upd_at, if_pos rfl]
        congr 1
        omega
      · rw [zs1_ne (by decide), zs1_self, upd_at, a2]
        by_cases d : k = p + (n - (j + 1))
        · rw [if_pos d, if_pos (by omega), show n - 1 - (k - p) = j by omega]
          rfl
        · rw [if_neg d]
          by_cases f : p ≤ k ∧ k < p + (n - (j + 1))
          · rw [if_pos f, if_pos (by omega)]
          · rw [if_neg f, if_neg (by omega)]
  exact h n I (Nat.le_refl n) (by rw [Nat.sub_self]; exact h1) (fun k => by rw [if_neg (by omega)]) (fun _ _ _ => rfl)
theorem m172b {v r : Int64} {p n : Nat} {x : Int32} (h1 : I 160 8 = nI p) (hpn : p + n ≤ 60) : zr X 172 105 [.ref 160, .long v, .null, .int (nI n), .long r, .null, .int x, .null] [] (zk I) = some (some (.int (nI (p + n))), zk (zs1 (zfw I 166 p (fun q => cdv v (8 * nI (n - 1 - q))) n) 160 8 (nI (p + n)))) := by
  rw [k172_105]
  have h := zloopP (F := fun q (J : Nat → Nat → Int32) => zr X 172 108 [.ref 160, .long v, .null, .int (nI n), .long r, .null, .int x, .int (nI q)] [] (zk J)) (n := n) (R := fun J => some (some (.int (nI (p + n))), zk (zs1 J 160 8 (nI (p + n))))) (f := fun q J => zs1 J 166 (p + q) (cdv v (8 * nI (n - 1 - q)))) (fun _ J => J 160 8 = nI p) ?_ ?_ n 0 I (by omega) h1
  · rw [nI_0] at h
    rw [h, zfill (g := fun q => cdv v (8 * nI (n - 1 - q))) (off := p) (d := 166) n (fun j hj => rfl)]
  · intro q J hq hJ
    refine ⟨?_, by rw [zs1_ne (by decide)]; exact hJ⟩
    have e1 : nI p + nI q = nI (p + q) := (zI_add p q).symm
    have e2 : nI n - 1 - nI q = nI (n - 1 - q) := by
      rw [show nI n - 1 = nI (n - 1) from zI_sub (b := 1) (by omega)]
      exact zI_sub (by omega)
    rw [k172_108, if_neg (nI_ge hq (by omega)), k172_114 (by rw [hJ, e1]; exact zin_nI (by omega) (by decide)), hJ, e1, e2, zx_nI (by omega), ← nI_succ]
    rfl
  · intro J hJ
    rw [k172_108, if_pos (nI_le (Nat.le_refl _) (by omega)), k172_148, hJ, ← zI_add, zs1_self, upd_at, if_pos rfl]
theorem p_put {c : Nat} (hI : Inv c I) (v : Int64) : Call X c I 107 [.ref 1, .long v, .null, .null] 172 [.ref 160, .long v, .null, .null, .null, .null, .null, .null] := by
  have hend := inv_q hI cQ_rf (mQ_th (v := 0))
  obtain ⟨⟨n1, n2⟩, hh, hl, p, hp, hp1, hp2, hp3⟩ := hI
  have hlt : v.toUInt64.toNat < 256 ^ 8 := by
    have := UInt64.toNat_lt v.toUInt64
    omega
  rcases m172a (X := X) (I := zs1 I 160 0 0) (v := v) 8 v 0 rfl hlt with ⟨a1, a2⟩ | ⟨n, r', a1, a2⟩
  · rw [nI_0] at a2
    refine ⟨-2, I, zs1 I 160 0 0, ?_, ?_, hend⟩
    · rw [k107_0, c39, zcb_some, zn_one, k107_4, a1, if_neg (by decide), k107_11]
    · rw [k172_0, a2]
  · rw [nI_0] at a2
    obtain ⟨b1, b2⟩ := cIn_le _ _ _ _ a1
    have e6 : ¬ nI n = -6 := by
      intro z
      have h := nI_pos (show n < 2 ^ 31 by omega)
      rw [z] at h
      exact h (by decide)
    have ea : nI p + nI n = nI (p + n) := (zI_add p n).symm
    have hC : zr X 107 0 [.ref 1, .long v, .null, .null] [] (zk I) = if nI (p + n) ≤ 60 then zr X 107 31 [.ref 1, .long v, .null, .int (nI n)] [] (zk I) else zr X 107 28 [.ref 1, .long v, .null, .int (nI n)] [] (zk I) := by
      rw [k107_0, c39, zcb_some, zn_one, k107_4, a1]
      show (if ¬ nI n = -6 then zr X 107 14 [.ref 1, .long v, .null, .int (nI n)] [] (zk I) else _) = _
      rw [if_pos e6, k107_14, hp1, ea]
    have h8 : ∀ J : Nat → Nat → Int32, J 160 8 = nI p → zs1 J 160 0 0 160 8 = nI p := fun J hJ => by rw [th_160 (by decide)]; exact hJ
    by_cases d : p + n ≤ 60
    · have d1 : nI (p + n) ≤ 60 := nI_le (b := 60) d (by decide)
      obtain ⟨J, j1, j2, j3, j4⟩ := c40 (X := X) (I := I) (v := v) hp1 d
      rw [if_pos d1] at hC
      rcases m172a (X := X) (I := zs1 J 160 0 0) (v := v) 8 v 0 rfl hlt with ⟨x1, -⟩ | ⟨n', r2, x1, x2⟩
      · rw [a1] at x1
        cases x1
      · rw [a1] at x1
        cases x1
        rw [nI_0] at x2
        have hJ8 : J 160 8 = nI p := by rw [j4 160 (by decide) (by decide)]; exact hp2
        refine ⟨nI (p + n), J, zs1 (zfw (zs1 J 160 0 0) 166 p (fun q => cdv v (8 * nI (n - 1 - q))) n) 160 8 (nI (p + n)), ?_, ?_, ?_⟩
        · rw [hC, k107_31, j1, zcb_some, zn_nil, k107_40, j2]
        · rw [k172_0, x2, k172_91, h8 J hJ8, ea, if_pos d1, m172b (h8 J hJ8) d]
        · have e : ∀ t, t ≠ 142 → t ≠ 143 → t ≠ 160 → t ≠ 166 → zs1 (zfw (zs1 J 160 0 0) 166 p (fun q => cdv v (8 * nI (n - 1 - q))) n) 160 8 (nI (p + n)) t = I t := fun t t1 t2 t3 t4 => by rw [zs1_ne t3, zfw_ne t4, zs1_ne t3, j4 t t1 t2]
          refine ⟨⟨?_, ?_⟩, iH_keep (Nat.le_succ c) (e _ (by decide) (by decide) (by decide) (by decide)) (fun t t1 t2 => e t (by omega) (by omega) (by omega) (by omega)) ?_ (e _ (by decide) (by decide) (by decide) (by decide)) hh, iL_keep (Nat.le_succ c) (e _ (by decide) (by decide) (by decide) (by decide)) (e _ (by decide) (by decide) (by decide) (by decide)) (fun t t1 t2 => e t (by omega) (by omega) (by omega) (by omega)) (e _ (by decide) (by decide) (by decide) (by decide)) hl, ⟨p + n, d, ?_, ?_, fun k hk => ?_⟩⟩
          · rw [e _ (by decide) (by decide) (by decide) (by decide)]
            exact hR_cells (fun t t1 t2 => e t (by omega) (by omega) (by omega) (by omega)) n1
          · rw [e _ (by decide) (by decide) (by decide) (by decide)]
            exact wS_le n2 (Nat.le_succ c)
          · rw [zs1_self, upd_at, if_neg (by decide), zfw_ne (by decide), th_160 (by decide), j4 160 (by decide) (by decide)]
          · rw [zs1_ne (by decide), zfw_ne (by decide), zs1_ne (by decide)]
            exact j2
          · rw [zs1_self, upd_at, if_pos rfl]
          · rw [zs1_ne (by decide), zfw_ne (by decide), zs1_ne (by decide), j3, zs1_ne (by decide), zfw_self]
            by_cases f : p ≤ k ∧ k < p + n
            · rw [if_pos f, if_pos f]
            · rw [if_neg f, if_neg f, zs1_ne (by decide), j4 166 (by decide) (by decide)]
              exact hp3 k (by omega)
    · have d1 : ¬ nI (p + n) ≤ 60 := nI_ge (b := p + n) (a := 60) (by omega) (by omega)
      rw [if_neg d1] at hC
      refine ⟨-4, I, zs1 I 160 0 0, ?_, ?_, hend⟩
      · rw [hC, k107_28]
      · rw [k172_0, a2, k172_91, h8 I hp2, ea, if_neg d1, k172_102]
end P1
