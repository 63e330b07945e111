/-! the reference reads marks -/
def mX (K J : Nat → Nat → Int32) (s : Nat) : Prop := (∀ t, t ≠ 172 → J t = K t) ∧ ∀ k, k < 12 * s → J 172 k = K 172 k
theorem mX_rf {K : Nat → Nat → Int32} {s : Nat} : mX K K s := ⟨fun _ _ => rfl, fun _ _ => rfl⟩
theorem mX_s {K J : Nat → Nat → Int32} {s j : Nat} {v : Int32} (h : mX K J s) : mX K (zs1 J 172 (12 * s + j) v) s := ⟨fun t ht => (zs1_ne ht).trans (h.1 t ht), fun k hk => by
  rw [zs1_self, upd_at, if_neg (by omega)]
  exact h.2 k hk⟩
theorem mX_A {P : Nat → Int32} {p s : Nat} {K J : Nat → Nat → Int32} (h : mX K J s) (hA : mA P p K) : mA P p J := ⟨by rw [h.1 160 (by decide)]; exact hA.1, fun k hk => by rw [h.1 166 (by decide)]; exact hA.2 k hk⟩
theorem e12 {s : Nat} {j : Nat} {x : Int32} (h : x = nI j) : nI (12 * s) + x = nI (12 * s + j) := by rw [h, zI_add]
theorem rat_18w {K : Nat → Nat → Int32} {i : Nat} {b : Bool} {v : Int32} (h : v = K 160 18) : zs1 (rat K i b) 160 18 (v + 0) = rat K i b := by
  have h1 := rat_18z (K := K) (i := i) (b := b)
  rw [rat_k (by decide) (by decide), ← h] at h1
  exact h1
section R5
variable {X : Nat × (Nat → Int32)} {P : Nat → Int32} {p : Nat} {K : Nat → Nat → Int32}
/-- behind a fault nothing is read -/
theorem dEnd {s i : Nat} {v : Int32} (hs : s ≤ 13) : (if ¬ v = 45 then zr X 179 205 [.ref 160, .int (nI (12 * s)), .int v] [.int (nI (12 * s) + 4), .ref 172] (zk (rat K i false)) else zr X 179 201 [.ref 160, .int (nI (12 * s)), .int v] [.int (nI (12 * s) + 4), .ref 172] (zk (rat K i false))) = some (none, zk (rat (zs1 K 172 (12 * s + 4) 0) i false)) := by
  have e4 : nI (12 * s) + 4 = nI (12 * s + 4) := e12 (j := 4) rfl
  have hz : zin (nI (12 * s + 4)) 192 = true := zin_nI (by omega) (by decide)
  have h18 : rat K i false 160 18 = zs1 K 172 (12 * s + 4) 0 160 18 := by rw [rat_k (by decide) (by decide), zs1_ne (by decide)]
  rw [e4]
  by_cases a : v = 45
  · rw [if_neg (fun z => z a), k179_201 hz, rat_16, if_pos zb_f, zx_nI (by omega), k179_227, rat_r, rat_18w h18]
  · rw [if_pos a, k179_205, m178f, zcb_some]
    show zr X 179 210 [.ref 160, .int (nI (12 * s)), .int v] [.int 0, .int (nI (12 * s + 4)), .ref 172] (zk (rat K i false)) = _
    rw [k179_210 hz, rat_16, if_pos zb_f, zx_nI (by omega), k179_227, rat_r, rat_18w h18]
theorem d176 {s i : Nat} {v : Int32} (hp : p ≤ 60) (hA : mA P p K) (hi : i < 1000) (hs : s ≤ 13) : ∃ J, zr X 179 176 [.ref 160, .int (nI (12 * s)), .int v] [] (zk (rat K i false)) = some (none, zk (rat J i false)) ∧ mX K J s := by
  have e3 : nI (12 * s) + 3 = nI (12 * s + 3) := e12 (j := 3) rfl
  rw [k179_176, m177f hp hA hi, zcb_some]
  show ∃ J, zr X 179 187 [.ref 160, .int (nI (12 * s)), .int v] [.int (sg P p i - 48), .int (nI (12 * s) + 3), .ref 172] (zk (rat K i false)) = _ ∧ _
  rw [e3, k179_187 (zin_nI (by omega) (by decide)), zx_nI (by omega), rat_r, dEnd hs]
  exact ⟨_, rfl, mX_s (mX_s mX_rf)⟩
theorem d170 {s i : Nat} {v : Int32} (hp : p ≤ 60) (hA : mA P p K) (hi : i < 1000) (hs : s ≤ 13) : ∃ J, zr X 179 170 [.ref 160, .int (nI (12 * s)), .int v] [] (zk (rat K i false)) = some (none, zk (rat J i false)) ∧ mX K J s := by
  rw [k179_170, m175f, zcb_some, zn_nil]
  exact d176 hp hA hi hs
theorem d144 {s i : Nat} {v x : Int32} (hp : p ≤ 60) (hA : mA P p K) (hi : i < 1000) (hs : s ≤ 13) : ∃ J, zr X 179 144 [.ref 160, .int (nI (12 * s)), .int v] [.int x, .int (nI (12 * s) + 2), .ref 172] (zk (rat K i false)) = some (none, zk (rat J i false)) ∧ mX K J s := by
  have e2 : nI (12 * s) + 2 = nI (12 * s + 2) := e12 (j := 2) rfl
  have e3 : nI (12 * s) + 3 = nI (12 * s + 3) := e12 (j := 3) rfl
  have hX : mX K (zs1 K 172 (12 * s + 2) x) s := mX_s mX_rf
  rw [e2, k179_144 (zin_nI (by omega) (by decide)), zx_nI (by omega), rat_r]
  by_cases a : v = 43
  · rw [if_neg (fun z => z a), k179_151 (by rw [e2]; exact zin_nI (by omega) (by decide)) (by rw [e3]; exact zin_nI (by omega) (by decide)), e3, zx_nI (by omega), rat_r, dEnd hs]
    exact ⟨_, rfl, mX_s (mX_s hX)⟩
  · rw [if_pos a]
    obtain ⟨J, j1, j2⟩ := d170 (X := X) (v := v) hp (mX_A hX hA) hi hs
    exact ⟨J, j1, fun t ht => (j2.1 t ht).trans (hX.1 t ht), fun k hk => (j2.2 k hk).trans (hX.2 k hk)⟩
theorem mX_tr {K J L : Nat → Nat → Int32} {s : Nat} (h : mX K J s) (h2 : mX J L s) : mX K L s := ⟨fun t ht => (h2.1 t ht).trans (h.1 t ht), fun k hk => (h2.2 k hk).trans (h.2 k hk)⟩
/-- the kind is laid, then the gaps -/
theorem dKd {s i : Nat} {v : Int32} (hp : p ≤ 60) (hA : mA P p K) (hi : i < 1000) (hs : s ≤ 13) : ∃ J, (if ¬ v = 45 then zr X 179 121 [.ref 160, .int (nI (12 * s)), .int v] [.int (nI (12 * s) + 1), .ref 172] (zk (rat K i false)) else zr X 179 117 [.ref 160, .int (nI (12 * s)), .int v] [.int (nI (12 * s) + 1), .ref 172] (zk (rat K i false))) = some (none, zk (rat J i false)) ∧ mX K J s := by
  have e1 : nI (12 * s) + 1 = nI (12 * s + 1) := e12 (j := 1) rfl
  have hz : zin (nI (12 * s + 1)) 192 = true := zin_nI (by omega) (by decide)
  have hgo : ∀ x : Int32, ∃ J, zcb (zr X 177 0 [.ref 160, .null] [] (zk (rat (zs1 K 172 (12 * s + 1) x) i false))) (fun w m1 => zr X 179 144 [.ref 160, .int (nI (12 * s)), .int v] (w.toList ++ [.int (nI (12 * s) + 2), .ref 172]) m1) = some (none, zk (rat J i false)) ∧ mX K J s := by
    intro x
    have hX : mX K (zs1 K 172 (12 * s + 1) x) s := mX_s mX_rf
    have hA1 := mX_A hX hA
    obtain ⟨J, j1, j2⟩ := d144 (X := X) (v := v) (x := sg P p i - 48) hp hA1 hi hs
    refine ⟨J, ?_, mX_tr hX j2⟩
    rw [m177f hp hA1 hi, zcb_some]
    exact j1
  rw [e1]
  by_cases a : v = 45
  · rw [if_neg (fun z => z a), k179_117 hz, zx_nI (by omega), rat_r]
    exact hgo 0
  · rw [if_pos a, k179_121]
    by_cases b : v = 43
    · rw [if_neg (fun z => z b), k179_127 hz, zx_nI (by omega), rat_r]
      exact hgo 1
    · rw [if_pos b, k179_131 hz, zx_nI (by omega), rat_r]
      exact hgo 2
/-- two gaps -/
theorem mG {s i : Nat} {v : Int32} (hp : p ≤ 60) (hA : mA P p K) (hi : i ≤ p) (hs : s ≤ 13) (hv : ¬ v = 43) : (∃ J, zcb (zr X 177 0 [.ref 160, .null] [] (zk (rat K i true))) (fun w m1 => zr X 179 144 [.ref 160, .int (nI (12 * s)), .int v] (w.toList ++ [.int (nI (12 * s) + 2), .ref 172]) m1) = some (none, zk (rat J (rGps P p i).1 false)) ∧ mX K J s ∧ (rGps P p i).2 = none) ∨ ∃ a b, (rGps P p i).2 = some (a, b) ∧ zcb (zr X 177 0 [.ref 160, .null] [] (zk (rat K i true))) (fun w m1 => zr X 179 144 [.ref 160, .int (nI (12 * s)), .int v] (w.toList ++ [.int (nI (12 * s) + 2), .ref 172]) m1) = if ¬ v = 45 then zr X 179 205 [.ref 160, .int (nI (12 * s)), .int v] [.int (nI (12 * s) + 4), .ref 172] (zk (rat (zs1 (zs1 K 172 (12 * s + 2) (nI a)) 172 (12 * s + 3) (nI b)) (rGps P p i).1 true)) else zr X 179 201 [.ref 160, .int (nI (12 * s)), .int v] [.int (nI (12 * s) + 4), .ref 172] (zk (rat (zs1 (zs1 K 172 (12 * s + 2) (nI a)) 172 (12 * s + 3) (nI b)) (rGps P p i).1 true)) := by
  have e2 : nI (12 * s) + 2 = nI (12 * s + 2) := e12 (j := 2) rfl
  have e3 : nI (12 * s) + 3 = nI (12 * s + 3) := e12 (j := 3) rfl
  have g1 := rGap_le (P := P) hi
  rw [m177t hp hA hi, zcb_some]
  unfold gI rGps
  rcases eg : rGap P p i with ⟨j, _ | a⟩
  · rw [eg] at g1
    have g2 : j ≤ p := g1.2.1
    left
    obtain ⟨J, j1, j2⟩ := d144 (X := X) (v := v) (i := j) (x := sg P p i - 48) hp hA (by omega) hs
    exact ⟨J, j1, j2, rfl⟩
  · rw [eg] at g1
    have g3 : j ≤ p := g1.2.1
    have hX : mX K (zs1 K 172 (12 * s + 2) (nI a)) s := mX_s mX_rf
    have hA1 := mX_A hX hA
    have hgo : zr X 179 144 [.ref 160, .int (nI (12 * s)), .int v] [.int (nI a), .int (nI (12 * s) + 2), .ref 172] (zk (rat K j true)) = zr X 179 176 [.ref 160, .int (nI (12 * s)), .int v] [] (zk (if sgn P p 58 j = true then rat (zs1 K 172 (12 * s + 2) (nI a)) (j + 1) true else rat (zs1 K 172 (12 * s + 2) (nI a)) j false)) := by
      rw [e2, k179_144 (zin_nI (by omega) (by decide)), zx_nI (by omega), rat_r, if_pos hv, k179_170, m175t hp hA1 (by omega) (by decide), zcb_some, zn_nil]
    have hgo2 : ∀ r, zr X 179 176 [.ref 160, .int (nI (12 * s)), .int v] [] (zk (if sgn P p 58 j = true then rat (zs1 K 172 (12 * s + 2) (nI a)) (j + 1) true else rat (zs1 K 172 (12 * s + 2) (nI a)) j false)) = r → (fun (w : Option Value) m1 => zr X 179 144 [.ref 160, .int (nI (12 * s)), .int v] (w.toList ++ [.int (nI (12 * s) + 2), .ref 172]) m1) (some (.int (nI a))) (zk (rat K j true)) = r := fun r h => hgo.trans h
    dsimp only
    by_cases b : sgn P p 58 j = true
    · have g4 := sgn_lt b
      have g6 := rGap_le (P := P) (p := p) (i := j + 1) g4
      rw [if_pos b]
      rw [if_pos b] at hgo2
      have h7 := m177t (X := X) (i := j + 1) hp hA1 g4
      unfold gI at h7
      rcases eg2 : rGap P p (j + 1) with ⟨q, _ | c⟩
      · rw [eg2] at g6 h7
        have g7 : q ≤ p := g6.2.1
        left
        refine ⟨_, hgo2 _ (?_ : _ = some (none, zk (rat (zs1 (zs1 (zs1 K 172 (12 * s + 2) (nI a)) 172 (12 * s + 3) (sg P p (j + 1) - 48)) 172 (12 * s + 4) 0) q false))), mX_s (mX_s hX), rfl⟩
        rw [k179_176, h7, zcb_some]
        show zr X 179 187 [.ref 160, .int (nI (12 * s)), .int v] [.int (sg P p (j + 1) - 48), .int (nI (12 * s) + 3), .ref 172] (zk (rat (zs1 K 172 (12 * s + 2) (nI a)) q false)) = _
        rw [e3, k179_187 (zin_nI (by omega) (by decide)), zx_nI (by omega), rat_r, dEnd hs]
      · rw [eg2] at h7
        right
        refine ⟨a, c, rfl, hgo2 _ ?_⟩
        rw [k179_176, h7, zcb_some]
        show zr X 179 187 [.ref 160, .int (nI (12 * s)), .int v] [.int (nI c), .int (nI (12 * s) + 3), .ref 172] (zk (rat (zs1 K 172 (12 * s + 2) (nI a)) q true)) = _
        rw [e3, k179_187 (zin_nI (by omega) (by decide)), zx_nI (by omega), rat_r]
    · rw [if_neg b]
      rw [if_neg b] at hgo2
      left
      obtain ⟨J, j1, j2⟩ := d176 (X := X) (v := v) (i := j) hp hA1 (by omega) hs
      exact ⟨J, hgo2 _ j1, mX_tr hX j2, rfl⟩
/-- one gap -/
theorem mO {s i : Nat} (hp : p ≤ 60) (hA : mA P p K) (hi : i ≤ p) (hs : s ≤ 13) : (∃ J, zcb (zr X 177 0 [.ref 160, .null] [] (zk (rat K i true))) (fun w m1 => zr X 179 144 [.ref 160, .int (nI (12 * s)), .int 43] (w.toList ++ [.int (nI (12 * s) + 2), .ref 172]) m1) = some (none, zk (rat J (rOne P p i).1 false)) ∧ mX K J s ∧ (rOne P p i).2 = none) ∨ ∃ a b, (rOne P p i).2 = some (a, b) ∧ zcb (zr X 177 0 [.ref 160, .null] [] (zk (rat K i true))) (fun w m1 => zr X 179 144 [.ref 160, .int (nI (12 * s)), .int 43] (w.toList ++ [.int (nI (12 * s) + 2), .ref 172]) m1) = zr X 179 205 [.ref 160, .int (nI (12 * s)), .int 43] [.int (nI (12 * s) + 4), .ref 172] (zk (rat (zs1 (zs1 K 172 (12 * s + 2) (nI a)) 172 (12 * s + 3) (nI b)) (rOne P p i).1 true)) := by
  have e2 : nI (12 * s) + 2 = nI (12 * s + 2) := e12 (j := 2) rfl
  have e3 : nI (12 * s) + 3 = nI (12 * s + 3) := e12 (j := 3) rfl
  have g1 := rGap_le (P := P) hi
  rw [m177t hp hA hi, zcb_some]
  unfold gI rOne
  rcases eg : rGap P p i with ⟨j, _ | a⟩
  · rw [eg] at g1
    have g2 : j ≤ p := g1.2.1
    left
    obtain ⟨J, j1, j2⟩ := d144 (X := X) (v := 43) (i := j) (x := sg P p i - 48) hp hA (by omega) hs
    exact ⟨J, j1, j2, rfl⟩
  · right
    refine ⟨a, a, rfl, ?_⟩
    show zr X 179 144 [.ref 160, .int (nI (12 * s)), .int 43] [.int (nI a), .int (nI (12 * s) + 2), .ref 172] (zk (rat K j true)) = _
    rw [e2, k179_144 (zin_nI (by omega) (by decide)), zx_nI (by omega), rat_r, if_neg (by decide), k179_151 (by rw [e2]; exact zin_nI (by omega) (by decide)) (by rw [e3]; exact zin_nI (by omega) (by decide)), e2, e3, zx_nI (by omega), zx_nI (by omega), rat_ne (by decide), rat_r, if_pos (by decide), zs1_self, upd_at, if_pos rfl]
end R5
