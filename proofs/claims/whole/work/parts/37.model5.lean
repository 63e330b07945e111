/-! the reference's rows, as one table; accepts, refuses, strikes -/
def vR (S : Nat → Int32) (w i : Nat) : Int32 := S (67 + 12 * i + w)
theorem vM_vR {I : Nat → Nat → Int32} : vM I = vR (I 161) := rfl
theorem zs1_zup {I : Nat → Nat → Int32} {d k : Nat} {R : Nat → Int32} {v : Int32} : zs1 (zup I d R) d k v = zup I d (upd R k v) := by
  unfold zs1
  rw [zup_self, zup_zup]
theorem zs1_up {I : Nat → Nat → Int32} {d k : Nat} {v : Int32} : zs1 I d k v = zup I d (upd (I d) k v) := rfl
/-- a column written down to a mark -/
def rCol (S : Nat → Int32) (w : Nat) (g : Nat → Int32) (n : Nat) (k : Nat) : Int32 := if 67 ≤ k ∧ (k - 67) % 12 = w ∧ (k - 67) / 12 < n then g ((k - 67) / 12) else S k
theorem rCol_at {S : Nat → Int32} {w w' i n : Nat} {g : Nat → Int32} (hw : w' < 12) : vR (rCol S w g n) w' i = if w' = w ∧ i < n then g i else vR S w' i := by
  unfold vR rCol
  have e1 : (67 + 12 * i + w' - 67) % 12 = w' := by omega
  have e2 : (67 + 12 * i + w' - 67) / 12 = i := by omega
  rw [e1, e2]
  by_cases a : w' = w ∧ i < n
  · rw [if_pos a, if_pos ⟨by omega, a.1, a.2⟩]
  · rw [if_neg a, if_neg (fun z => a z.2)]
theorem rCol_lo {S : Nat → Int32} {w n k : Nat} {g : Nat → Int32} (h : k < 67) : rCol S w g n k = S k := if_neg (fun z => by omega)
theorem rCol_hi {S : Nat → Int32} {w n k : Nat} {g : Nat → Int32} (h : 67 + 12 * n ≤ k) : rCol S w g n k = S k := if_neg (fun z => by omega)
theorem rCol_0 {S : Nat → Int32} {w : Nat} {g : Nat → Int32} : rCol S w g 0 = S := by
  funext k
  exact if_neg (fun z => by omega)
theorem rCol_succ {S : Nat → Int32} {w n : Nat} {g : Nat → Int32} (hw : w < 12) : upd (rCol S w g n) (67 + 12 * n + w) (g n) = rCol S w g (n + 1) := by
  funext k
  rw [upd_at]
  unfold rCol
  by_cases a : k = 67 + 12 * n + w
  · subst a
    have e1 : (67 + 12 * n + w - 67) % 12 = w := by omega
    have e2 : (67 + 12 * n + w - 67) / 12 = n := by omega
    rw [if_pos rfl, e1, e2, if_pos ⟨by omega, rfl, by omega⟩]
  · rw [if_neg a]
    by_cases b : 67 ≤ k ∧ (k - 67) % 12 = w ∧ (k - 67) / 12 < n
    · rw [if_pos b, if_pos ⟨b.1, b.2.1, by omega⟩]
    · rw [if_neg b, if_neg (fun z => b ⟨z.1, z.2.1, by omega⟩)]
theorem rCol_same {S : Nat → Int32} {w n : Nat} {g : Nat → Int32} (hw : w < 12) (h : g n = vR S w n) : rCol S w g (n + 1) = rCol S w g n := by
  rw [← rCol_succ hw]
  funext k
  rw [upd_at]
  by_cases a : k = 67 + 12 * n + w
  · rw [if_pos a, a, h]
    have := rCol_at (S := S) (w := w) (w' := w) (i := n) (n := n) (g := g) hw
    rw [if_neg (by omega)] at this
    exact this.symm
  · rw [if_neg a]
theorem upd_at_vR {S : Nat → Int32} {w w' i j : Nat} {v : Int32} (hw : w < 12) (hw' : w' < 12) : vR (upd S (67 + 12 * i + w) v) w' j = if w' = w ∧ j = i then v else vR S w' j := by
  unfold vR
  rw [upd_at]
  by_cases a : w' = w ∧ j = i
  · rw [if_pos a, if_pos (by omega)]
  · rw [if_neg a, if_neg (by omega)]
theorem sC_col {V V' : Nat → Nat → Int32} {i j : Nat} (h : ∀ w, w < 4 → V w = V' w) : sC V i j = sC V' i j := by
  unfold sC
  rw [h 1 (by decide), h 2 (by decide), h 3 (by decide)]
/-- is it refused when that is accepted -/
def pAcc (V : Nat → Nat → Int32) (m i : Nat) : Bool := !(nI i == nI m) && (V 5 i == 0 && sC V m i)
def rAcc (n m : Nat) (S : Nat → Int32) : Nat → Int32 := upd (rCol S 5 (fun i => if pAcc (vR S) m i = true then 2 else vR S 5 i) n) (67 + 12 * m + 5) 1
section M5
variable {X : Nat × (Nat → Int32)} {I : Nat → Nat → Int32}
/-- accepts -/
theorem m145 {n m : Nat} (hn : n ≤ 20) (hs : I 161 66 = nI n) (hm : m ≤ 20) : zr X 145 0 [.ref 160, .int (nI m), .null, .null] [] (zk I) = some (some (.int (sN (pAcc (vM I) m) n)), zk (zup I 161 (rAcc n m (I 161)))) := by
  rw [k145_0]
  have m118' := fun (J : Nat → Nat → Int32) (i : Nat) (hi : i ≤ 20) (x : Int32) => m118 (X := X) (I := J) (v := x) (w := 5) (i := i) hi (by decide)
  rw [show nI 5 = (5 : Int32) by decide] at m118'
  have h := zloop (F := fun i (a : Int32) => zr X 145 4 [.ref 160, .int (nI m), .int a, .int (nI i)] [] (zk (zup I 161 (rCol (I 161) 5 (fun i => if pAcc (vM I) m i = true then 2 else vM I 5 i) i)))) (n := n) (R := fun a => some (some (.int a), zk (zup I 161 (rAcc n m (I 161))))) (f := fun i a => if pAcc (vM I) m i = true then a + 1 else a) ?_ ?_ n 0 0 (by omega)
  · have h0 : nI 0 = 0 := nI_0
    rw [h0, rCol_0, zup_id rfl] at h
    exact h
  · intro i a hi
    have hs' : ∀ R : Nat → Int32, R 66 = nI n → zup I 161 R 161 66 = nI n := fun R h => by rw [zup_self]; exact h
    have hs2 := hs' (rCol (I 161) 5 (fun i => if pAcc (vM I) m i = true then 2 else vM I 5 i) i) (by rw [rCol_lo (by decide)]; exact hs)
    have hv : ∀ w, w < 5 → vM (zup I 161 (rCol (I 161) 5 (fun i => if pAcc (vM I) m i = true then 2 else vM I 5 i) i)) w = vM I w := by
      intro w hw
      funext j
      rw [vM_vR, zup_self, rCol_at (by omega), if_neg (by omega)]
      rfl
    have hv5 : vM (zup I 161 (rCol (I 161) 5 (fun i => if pAcc (vM I) m i = true then 2 else vM I 5 i) i)) 5 i = vM I 5 i := by
      rw [vM_vR, zup_self, rCol_at (by omega), if_neg (by omega)]
      rfl
    have hc : sC (vM (zup I 161 (rCol (I 161) 5 (fun i => if pAcc (vM I) m i = true then 2 else vM I 5 i) i))) m i = sC (vM I) m i := sC_col (fun w hw => hv w (by omega))
    have e0 : ∀ (h : pAcc (vM I) m i = false), rCol (I 161) 5 (fun i => if pAcc (vM I) m i = true then 2 else vM I 5 i) (i + 1) = rCol (I 161) 5 (fun i => if pAcc (vM I) m i = true then 2 else vM I 5 i) i := by
      intro h
      refine rCol_same (by decide) ?_
      show (if pAcc (vM I) m i = true then 2 else vM I 5 i) = vM I 5 i
      rw [h]
      rfl
    rw [k145_4, hs2, if_neg (nI_ge hi (by omega)), k145_15]
    by_cases a1 : nI i = nI m
    · have p : pAcc (vM I) m i = false := by unfold pAcc; simp [a1]
      rw [if_pos a1, k145_48, ← nI_succ, e0 p, p]
      rfl
    · rw [if_neg a1, k145_20, m117_5 (by omega), zcb_some, zn_one, k145_26, hv5]
      by_cases a2 : vM I 5 i = 0
      · rw [if_neg (fun z => z a2), k145_29, m124 hm (by omega), zcb_some, zn_one, k145_35, hc]
        by_cases a3 : sC (vM I) m i = true
        · have p : pAcc (vM I) m i = true := by unfold pAcc; simp [a1, a2, a3]
          rw [a3, zb_t, if_neg (by decide), k145_38, m118' _ _ (by omega), zcb_some, zn_nil, k145_45, ← nI_succ, zs1_zup, p, ← rCol_succ (by decide)]
          rw [show (if pAcc (vM I) m i = true then (2 : Int32) else vM I 5 i) = 2 by rw [p]; rfl]
          rfl
        · rw [Bool.not_eq_true] at a3
          have p : pAcc (vM I) m i = false := by unfold pAcc; simp [a3]
          rw [a3, zb_f, if_pos (by decide), k145_48, ← nI_succ, e0 p, p]
          rfl
      · have p : pAcc (vM I) m i = false := by unfold pAcc; simp [a2]
        rw [if_pos a2, k145_48, ← nI_succ, e0 p, p]
        rfl
  · intro a
    have hs2 : zup I 161 (rCol (I 161) 5 (fun i => if pAcc (vM I) m i = true then 2 else vM I 5 i) n) 161 66 = nI n := by rw [zup_self, rCol_lo (by decide)]; exact hs
    rw [k145_4, hs2, if_pos (nI_le (Nat.le_refl _) (by omega)), k145_54, m118' _ _ hm, zcb_some, zn_nil, k145_61, zs1_zup]
    rfl
end M5
