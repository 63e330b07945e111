/-! mark: one mark of a text is made -/
/-- can it be made -/
def tkC (t n : Nat) (q : Rec) (own : Bool) : Bool := (decide (q.2.2.1 ≤ t) && decide (q.2.2.2.1 ≤ t)) && ((decide (q.2.1 = 1) || decide (q.2.2.1 < q.2.2.2.1)) && (decide (n < 20) && !own))
theorem nI_eq1 {k : Nat} (hk : k < 2 ^ 31) : nI k = 1 ↔ k = 1 := nI_inj (b := 1) hk (by decide)
section K1
variable {X : Nat × (Nat → Int32)} {I : Nat → Nat → Int32}
theorem c54 {t n d : Nat} {q : Rec} (hn : n ≤ 20) (ht : t ≤ 60) (hs : I 5 7 = nI n) (hT : I 3 1 = nI t) (hd : d < 20) (hq : ∀ w, w < 6 → vC I 146 w d = rcw q w) (ok : okR q) : zr X 54 0 [.ref 2, .ref 145, .int (nI d), .null, .null, .null] [] (zk I) = some (some (.int (zb (tkC t n q (zan (pD (vC I 6) (vC I 146) d) 0 n)))), zk I) := by
  obtain ⟨o1, o2, o3, o4, o5, o6, o7⟩ := ok
  have e1 : I 147 d = nI q.2.1 := hq 1 (by decide)
  have e2 : I 148 d = nI q.2.2.1 := hq 2 (by decide)
  have e3 : I 149 d = nI q.2.2.2.1 := hq 3 (by decide)
  have hd0 := zin_nI hd (show (20 : Nat) < 2 ^ 31 by decide)
  have ez : zx (nI d) = d := zx_nI (by omega)
  -- from where both gaps are asked for
  have h57 : ∀ suits : Bool, zcb (zr X 53 0 [.ref 2, .int (nI q.2.2.1)] [] (zk I)) (fun v m1 => zr X 54 57 [.ref 2, .ref 145, .int (nI d), .int (nI q.2.2.1), .int (nI q.2.2.2.1), .int (zb suits)] (v.toList ++ []) m1) = some (some (.int (zb ((decide (q.2.2.1 ≤ t) && decide (q.2.2.2.1 ≤ t)) && (suits && (decide (n < 20) && !zan (pD (vC I 6) (vC I 146) d) 0 n))))), zk I) := by
    intro suits
    by_cases a : q.2.2.1 ≤ t
    · rw [c53y ht hT a, zcb_some, zn_one, k54_57, if_neg (by decide), k54_60, decide_eq_true a, Bool.true_and]
      by_cases b : q.2.2.2.1 ≤ t
      · rw [c53y ht hT b, zcb_some, zn_one, k54_66, if_neg (by decide), k54_69, decide_eq_true b, Bool.true_and]
        cases suits with
        | false =>
          rw [if_pos zb_f, k54_102, Bool.false_and]
          rfl
        | true =>
          rw [if_neg (show ¬ zb true = 0 by decide), k54_74, hs, Bool.true_and]
          by_cases c : n < 20
          · rw [if_neg (show ¬ (20 : Int32) ≤ nI n from nI_ge (b := 20) c (by decide)), k54_86, c15 hn hs hd, zcb_some, zn_one, k54_95, decide_eq_true c, Bool.true_and]
            cases zan (pD (vC I 6) (vC I 146) d) 0 n with
            | true =>
              rw [if_pos (show ¬ zb true = 0 by decide), k54_102]
              rfl
            | false =>
              rw [if_neg (show ¬ ¬ zb false = 0 from fun z => z rfl), k54_98]
              rfl
          · rw [if_pos (show (20 : Int32) ≤ nI n from nI_le (a := 20) (by omega) (by omega)), k54_102, decide_eq_false c, Bool.false_and]
            rfl
      · rw [c53n ht hT (Or.inr (nI_le (by omega) (by omega))), zcb_some, zn_one, k54_66, if_pos rfl, k54_102, decide_eq_false b, Bool.false_and]
        rfl
    · rw [c53n ht hT (Or.inr (nI_le (by omega) (by omega))), zcb_some, zn_one, k54_57, if_pos rfl, k54_102, decide_eq_false a, Bool.false_and, Bool.false_and]
      rfl
  have ht0 := h57 true
  have hf0 := h57 false
  rw [zb_t] at ht0
  rw [zb_f] at hf0
  unfold tkC
  rw [k54_0 hd0, ez, e1, e2, e3]
  by_cases k : q.2.1 = 1
  · rw [if_neg (fun z => z ((nI_eq1 (by omega)).mpr k)), k54_25, o6 k, if_neg (fun z => z rfl), k54_31, ← o6 k, decide_eq_true k, Bool.true_or]
    have e4 := o6 k
    rw [← e4] at ht0
    exact ht0
  · rw [if_pos (fun z => k ((nI_eq1 (by omega)).mp z)), k54_39, decide_eq_false k, Bool.false_or]
    by_cases a : q.2.2.1 < q.2.2.2.1
    · rw [if_neg (nI_ge a (by omega)), k54_45, decide_eq_true a]
      exact ht0
    · rw [if_pos (nI_le (by omega) (by omega)), k54_49, decide_eq_false a]
      exact hf0
/-- the row of a mark that is made -/
def rMake (S : Nat → Int32) (n : Nat) (g : Nat → Int32) (k : Nat) : Int32 := if 67 + 12 * n ≤ k ∧ k < 67 + 12 * n + 12 then g (k - (67 + 12 * n)) else S k
theorem rMake_w {S : Nat → Int32} {n w : Nat} {g : Nat → Int32} (hw : w < 12) : vR (rMake S n g) w n = g w := by
  unfold vR rMake
  rw [if_pos (by omega), show 67 + 12 * n + w - (67 + 12 * n) = w by omega]
theorem rMake_o {S : Nat → Int32} {n k : Nat} {g : Nat → Int32} (h : ¬ (67 + 12 * n ≤ k ∧ k < 79 + 12 * n)) : rMake S n g k = S k := if_neg (by omega)
theorem rMake_lo {S : Nat → Int32} {n i w : Nat} {g : Nat → Int32} (hi : i < n) (hw : w < 12) : vR (rMake S n g) w i = vR S w i := rMake_o (by omega)
theorem rMake_own {S : Nat → Int32} {D : Nat → Nat → Int32} {n d : Nat} {g : Nat → Int32} (hD : ∀ w, w < 6 → D w d = g w) : sOwn (vR (rMake S n g)) n n = zan (pD (vR S) D d) 0 n := by
  unfold sOwn
  refine zan_map (fun i hi => ?_)
  unfold pOwn pD
  rw [sC_comm]
  unfold sD sC
  rw [rMake_lo hi (by decide), rMake_lo hi (by decide), rMake_lo hi (by decide), rMake_lo hi (by decide), rMake_lo hi (by decide), rMake_w (by decide), rMake_w (by decide), rMake_w (by decide), rMake_w (by decide), hD 0 (by decide), hD 1 (by decide), hD 2 (by decide), hD 3 (by decide)]
/-- makes -/
theorem m141 {t n d : Nat} {S : Nat → Int32} {D : Nat → Nat → Int32} {q : Rec} (hn : n ≤ 20) (ht : t ≤ 60) (hS : S 66 = nI n) (hT : S 0 = nI t) (hd : d < 16) (hq : ∀ w, w < 6 → I 172 (12 * d + w) = rcw q w) (hD : ∀ w, w < 6 → D w d = rcw q w) (ok : okR q) : ∃ S', zr X 141 0 [.ref 160, .int (nI (12 * d)), .null, .null, .null] [] (zk (zup I 161 S)) = some (some (.int (zb (tkC t n q (zan (pD (vR S) D d) 0 n)))), zk (zup I 161 S')) ∧ (tkC t n q (zan (pD (vR S) D d) 0 n) = true → n < 20 ∧ S' = upd (rMake S n (fun w => I 172 (12 * d + w))) 66 (nI (n + 1))) ∧ (tkC t n q (zan (pD (vR S) D d) 0 n) = false → S' = S ∨ n < 20 ∧ xEq n S S') := by
  obtain ⟨o1, o2, o3, o4, o5, o6, o7⟩ := ok
  have f1 : nI (12 * d) + 1 = nI (12 * d + 1) := e12 (j := 1) rfl
  have f2 : nI (12 * d) + 2 = nI (12 * d + 2) := e12 (j := 2) rfl
  have f3 : nI (12 * d) + 3 = nI (12 * d + 3) := e12 (j := 3) rfl
  have z1 : zin (nI (12 * d) + 1) 192 = true := by rw [f1]; exact zin_nI (by omega) (by decide)
  have z2 : zin (nI (12 * d) + 2) 192 = true := by rw [f2]; exact zin_nI (by omega) (by decide)
  have z3 : zin (nI (12 * d) + 3) 192 = true := by rw [f3]; exact zin_nI (by omega) (by decide)
  have g1 : zup I 161 S 172 (zx (nI (12 * d) + 1)) = nI q.2.1 := by rw [f1, zx_nI (by omega), zup_ne (by decide)]; exact hq 1 (by decide)
  have g2 : zup I 161 S 172 (zx (nI (12 * d) + 2)) = nI q.2.2.1 := by rw [f2, zx_nI (by omega), zup_ne (by decide)]; exact hq 2 (by decide)
  have g3 : zup I 161 S 172 (zx (nI (12 * d) + 3)) = nI q.2.2.2.1 := by rw [f3, zx_nI (by omega), zup_ne (by decide)]; exact hq 3 (by decide)
  have s0 : zup I 161 S 161 0 = nI t := by rw [zup_self]; exact hT
  have s66 : zup I 161 S 161 66 = nI n := by rw [zup_self]; exact hS
  -- refused at once
  have hno : tkC t n q (zan (pD (vR S) D d) 0 n) = false → ∀ (a b : Int32) (w : Value), w = .null → ∃ S', zr X 141 97 [.ref 160, .int (nI (12 * d)), .int a, .int b, w] [] (zk (zup I 161 S)) = some (some (.int (zb (tkC t n q (zan (pD (vR S) D d) 0 n)))), zk (zup I 161 S')) ∧ (tkC t n q (zan (pD (vR S) D d) 0 n) = true → n < 20 ∧ S' = upd (rMake S n (fun w => I 172 (12 * d + w))) 66 (nI (n + 1))) ∧ (tkC t n q (zan (pD (vR S) D d) 0 n) = false → S' = S ∨ n < 20 ∧ xEq n S S') := by
    rintro h a b w rfl
    rw [k141_97, h]
    exact ⟨S, rfl, fun z => (by cases z), fun _ => Or.inl rfl⟩
  -- gaps and kind are well
  have hgo : (q.2.2.1 ≤ t ∧ q.2.2.2.1 ≤ t) → (q.2.1 = 1 ∨ q.2.2.1 < q.2.2.2.1) → ∃ S', zr X 141 81 [.ref 160, .int (nI (12 * d)), .int 1, .int 1, .null] [] (zk (zup I 161 S)) = some (some (.int (zb (tkC t n q (zan (pD (vR S) D d) 0 n)))), zk (zup I 161 S')) ∧ (tkC t n q (zan (pD (vR S) D d) 0 n) = true → n < 20 ∧ S' = upd (rMake S n (fun w => I 172 (12 * d + w))) 66 (nI (n + 1))) ∧ (tkC t n q (zan (pD (vR S) D d) 0 n) = false → S' = S ∨ n < 20 ∧ xEq n S S') := by
    intro hg hk
    have hc : tkC t n q (zan (pD (vR S) D d) 0 n) = (decide (n < 20) && !zan (pD (vR S) D d) 0 n) := by
      unfold tkC
      rw [decide_eq_true hg.1, decide_eq_true hg.2, Bool.and_self, Bool.true_and, show (decide (q.2.1 = 1) || decide (q.2.2.1 < q.2.2.2.1)) = true by
        rcases hk with hk | hk
        · rw [decide_eq_true hk, Bool.true_or]
        · rw [decide_eq_true hk, Bool.or_true], Bool.true_and]
    rw [k141_81, if_neg (by decide), k141_85, s66]
    by_cases c : n = 20
    · rw [if_neg (show ¬ ¬ nI n = 20 by rw [c]; exact fun z => z rfl)]
      exact hno (by rw [hc, decide_eq_false (by omega), Bool.false_and]) _ _ _ rfl
    · have hn2 : n < 20 := by omega
      rw [if_pos (show ¬ nI n = 20 from fun z => c ((nI_inj (b := 20) (by omega) (by decide)).mp z)), k141_99]
      -- the row is laid
      have h0 := zloopP (F := fun w (J : Nat → Nat → Int32) => zr X 141 102 [.ref 160, .int (nI (12 * d)), .int 1, .int 1, .int (nI w)] [] (zk J)) (n := 12) (R := fun J => zr X 141 137 [.ref 160, .int (nI (12 * d)), .int 1, .int 1, .int (nI 12)] [] (zk J)) (f := fun w J => zs1 J 161 (67 + 12 * n + w) (I 172 (12 * d + w))) (fun _ J => J 161 66 = nI n ∧ J 172 = I 172) (fun w J hw hJ => by
        have e : nI (12 * d) + nI w = nI (12 * d + w) := (zI_add _ _).symm
        refine ⟨?_, ?_, ?_⟩
        · rw [k141_102, if_neg (show ¬ (12 : Int32) ≤ nI w from nI_ge (b := 12) hw (by decide)), k141_109 (by rw [e]; exact zin_nI (by omega) (by decide)), hJ.1, e, zx_nI (by omega), hJ.2, m118 hn hw, zcb_some, zn_nil, k141_131, ← nI_succ]
        · rw [zs1_self, upd_at, if_neg (by omega)]
          exact hJ.1
        · rw [zs1_ne (by decide)]
          exact hJ.2) (fun J _ => by rw [k141_102, if_pos (by decide)]) 12 0 (zup I 161 S) rfl ⟨s66, zup_ne (by decide)⟩
      rw [nI_0, zfill (g := fun w => I 172 (12 * d + w)) (off := 67 + 12 * n) (d := 161) 12 (fun j hj => rfl)] at h0
      have hrow : zfw (zup I 161 S) 161 (67 + 12 * n) (fun w => I 172 (12 * d + w)) 12 = zup I 161 (rMake S n (fun w => I 172 (12 * d + w))) := by
        unfold zfw
        rw [zup_zup, zup_self]
        rfl
      have r66 : zup I 161 (rMake S n (fun w => I 172 (12 * d + w))) 161 66 = nI n := by
        rw [zup_self, rMake_o (by omega)]
        exact hS
      have hown : sOwn (vR (rMake S n (fun w => I 172 (12 * d + w)))) n n = zan (pD (vR S) D d) 0 n := rMake_own (fun w hw => (hD w hw).trans (hq w hw).symm)
      rw [h0, hrow, k141_137, r66, m138 hn, zcb_some, zn_one, vM_vR, zup_self, hown, k141_148, hc, decide_eq_true hn2, Bool.true_and]
      cases zan (pD (vR S) D d) 0 n with
      | false =>
        rw [if_pos zb_f, k141_164, r66, ← nI_succ, zs1_zup]
        exact ⟨_, rfl, fun _ => ⟨hn2, rfl⟩, fun z => (by cases z)⟩
      | true =>
        rw [if_neg (show ¬ zb true = 0 by decide), k141_151, r66, m139 hn, zcb_some, zn_nil, k141_162]
        have hfw : zfw (zup I 161 (rMake S n (fun w => I 172 (12 * d + w)))) 161 (67 + 12 * n) (fun _ => 0) 12 = zup I 161 (fun k => if 67 + 12 * n ≤ k ∧ k < 67 + 12 * n + 12 then 0 else S k) := by
          unfold zfw
          rw [zup_zup, zup_self]
          congr 1
          funext k
          by_cases b : 67 + 12 * n ≤ k ∧ k < 67 + 12 * n + 12
          · rw [if_pos b, if_pos b]
          · rw [if_neg b, if_neg b, rMake_o (by omega)]
        rw [hfw]
        exact ⟨_, rfl, fun z => (by cases z), fun _ => Or.inr ⟨hn2, fun k k1 k2 => if_neg (by omega)⟩⟩
  -- which of them
  have hgap : (q.2.2.1 ≤ t ∧ q.2.2.2.1 ≤ t) ∨ ¬ (q.2.2.1 ≤ t ∧ q.2.2.2.1 ≤ t) := Classical.em _
  have hkf : ∀ x : Int32, (x = 1 ∧ (q.2.2.1 ≤ t ∧ q.2.2.2.1 ≤ t)) ∨ (x = 0 ∧ ¬ (q.2.2.1 ≤ t ∧ q.2.2.2.1 ≤ t)) → ∃ S', (if nI q.2.1 = 1 then zr X 141 71 [.ref 160, .int (nI (12 * d)), .int x, .null, .null] [] (zk (zup I 161 S)) else zr X 141 52 [.ref 160, .int (nI (12 * d)), .int x, .null, .null] [] (zk (zup I 161 S))) = some (some (.int (zb (tkC t n q (zan (pD (vR S) D d) 0 n)))), zk (zup I 161 S')) ∧ (tkC t n q (zan (pD (vR S) D d) 0 n) = true → n < 20 ∧ S' = upd (rMake S n (fun w => I 172 (12 * d + w))) 66 (nI (n + 1))) ∧ (tkC t n q (zan (pD (vR S) D d) 0 n) = false → S' = S ∨ n < 20 ∧ xEq n S S') := by
    intro x hx
    have hbad : ¬ (q.2.2.1 ≤ t ∧ q.2.2.2.1 ≤ t) → tkC t n q (zan (pD (vR S) D d) 0 n) = false := by
      intro h
      unfold tkC
      rw [show (decide (q.2.2.1 ≤ t) && decide (q.2.2.2.1 ≤ t)) = false by rw [← Bool.decide_and]; exact decide_eq_false h, Bool.false_and]
    have h71 : (q.2.1 = 1 ∨ q.2.2.1 < q.2.2.2.1) → ∃ S', zr X 141 71 [.ref 160, .int (nI (12 * d)), .int x, .null, .null] [] (zk (zup I 161 S)) = some (some (.int (zb (tkC t n q (zan (pD (vR S) D d) 0 n)))), zk (zup I 161 S')) ∧ (tkC t n q (zan (pD (vR S) D d) 0 n) = true → n < 20 ∧ S' = upd (rMake S n (fun w => I 172 (12 * d + w))) 66 (nI (n + 1))) ∧ (tkC t n q (zan (pD (vR S) D d) 0 n) = false → S' = S ∨ n < 20 ∧ xEq n S S') := by
      intro hk
      rw [k141_71]
      rcases hx with ⟨rfl, hg⟩ | ⟨rfl, hg⟩
      · rw [if_neg (by decide)]
        exact hgo hg hk
      · rw [if_pos rfl]
        exact hno (hbad hg) _ _ _ rfl
    by_cases k : q.2.1 = 1
    · rw [if_pos ((nI_eq1 (by omega)).mpr k)]
      exact h71 (Or.inl k)
    · rw [if_neg (fun z => k ((nI_eq1 (by omega)).mp z)), k141_52 z3 z2, g3, g2]
      by_cases a : q.2.2.1 < q.2.2.2.1
      · rw [if_neg (nI_ge a (by omega))]
        exact h71 (Or.inr a)
      · have hf : tkC t n q (zan (pD (vR S) D d) 0 n) = false := by
          unfold tkC
          rw [decide_eq_false k, decide_eq_false a, Bool.or_self, Bool.false_and, Bool.and_false]
        rw [if_pos (nI_le (by omega) (by omega)), k141_75]
        rcases hx with ⟨rfl, hg⟩ | ⟨rfl, hg⟩
        · rw [if_neg (by decide), k141_81, if_pos rfl]
          exact hno hf _ _ _ rfl
        · rw [if_pos rfl]
          exact hno hf _ _ _ rfl
  rw [k141_0 z2, s0, g2]
  by_cases a : q.2.2.1 ≤ t
  · rw [if_neg (nI_nlt a (by omega)), k141_17 z3, s0, g3]
    by_cases b : q.2.2.2.1 ≤ t
    · rw [if_neg (nI_nlt b (by omega)), k141_34 z1, g1]
      exact hkf 1 (Or.inl ⟨rfl, a, b⟩)
    · rw [if_pos (nI_lt (by omega) (by omega)), k141_38 z1, g1]
      exact hkf 0 (Or.inr ⟨rfl, fun z => b z.2⟩)
  · rw [if_pos (nI_lt (by omega) (by omega)), k141_38 z1, g1]
    exact hkf 0 (Or.inr ⟨rfl, fun z => a z.1⟩)
end K1
