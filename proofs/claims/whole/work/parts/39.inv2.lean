/-! THE INVARIANT, and what a call keeps of it -/
def iN (c : Nat) (I : Nat → Nat → Int32) : Prop := hR I 2 (I 161) ∧ wS c (I 161)
def iH (c : Nat) (I : Nat → Nat → Int32) : Prop := ∃ (u x : Nat) (G : Nat → Nat → Int32), u ≤ 6 ∧ x < 6 ∧ I 160 4 = nI u ∧ I 17 2 = nI u ∧ I 17 1 = nI x ∧ ∀ j, j < u → hR I (19 + 15 * ((x + 6 - u + j) % 6)) (G j) ∧ wS c (G j) ∧ ∀ k, k < 675 → I 163 (675 * j + k) = G j k
def iL (c : Nat) (I : Nat → Nat → Int32) : Prop := ∀ j, j < 2 → I 111 j = I 165 j ∧ (¬ I 111 j = 0 → ∃ G : Nat → Int32, hR I (112 + 15 * j) G ∧ wS c G ∧ ∀ k, k < 675 → I 164 (675 * j + k) = G k)
def iP (I : Nat → Nat → Int32) : Prop := ∃ p : Nat, p ≤ 60 ∧ I 142 1 = nI p ∧ I 160 8 = nI p ∧ ∀ k, k < p → I 143 k = I 166 k
def Inv (c : Nat) (I : Nat → Nat → Int32) : Prop := iN c I ∧ iH c I ∧ iL c I ∧ iP I
theorem hR_cells {I J : Nat → Nat → Int32} {b : Nat} {S : Nat → Int32} (h : ∀ t, b < t → t < b + 15 → J t = I t) (hr : hR I b S) : hR J b S := by
  have h1 := fun q (h1 : 1 ≤ q) (h2 : q < 15) => h (b + q) (by omega) (by omega)
  have hv : ∀ w i, w < 6 → vC J (b + 4) w i = vC I (b + 4) w i := by
    intro w i hw
    unfold vC
    split
    · exact congrFun (h1 9 (by decide) (by decide)) i
    · exact congrFun (h1 8 (by decide) (by decide)) i
    · rw [Nat.add_assoc]
      exact congrFun (h1 _ (by omega) (by omega)) i
  obtain ⟨⟨a1, a2⟩, ⟨b1, b2, b3⟩, c1, d1, d2⟩ := hr
  refine ⟨⟨?_, fun k hk => ?_⟩, ⟨?_, fun i w hi hw => (hv w i hw).trans (b2 i w hi hw), fun i k hi hk2 => ?_⟩, fun k hk => ?_, ?_, fun j hj => ⟨?_, fun k hk => ?_⟩⟩
  · rw [h1 1 (by decide) (by decide)]; exact a1
  · rw [h1 2 (by decide) (by decide)]; exact a2 k hk
  · rw [h1 3 (by decide) (by decide)]; exact b1
  · rw [h1 10 (by decide) (by decide)]; exact b3 i k hi hk2
  · rw [h1 14 (by decide) (by decide)]; exact c1 k hk
  · rw [h1 11 (by decide) (by decide)]; exact d1
  · rw [h1 13 (by decide) (by decide)]; exact (d2 j hj).1
  · rw [h1 12 (by decide) (by decide)]; exact (d2 j hj).2 k hk
theorem iH_keep {c d : Nat} {I J : Nat → Nat → Int32} (hd : c ≤ d) (h17 : J 17 = I 17) (hs : ∀ t, 19 < t → t < 109 → J t = I t) (h4 : J 160 4 = I 160 4) (h163 : J 163 = I 163) (h : iH c I) : iH d J := by
  obtain ⟨u, x, G, h1, h2, h3, h5, h6, h7⟩ := h
  refine ⟨u, x, G, h1, h2, h4.trans h3, by rw [h17]; exact h5, by rw [h17]; exact h6, fun j hj => ?_⟩
  obtain ⟨a1, a2, a3⟩ := h7 j hj
  have hm : (x + 6 - u + j) % 6 < 6 := Nat.mod_lt _ (by decide)
  refine ⟨hR_cells (fun t t1 t2 => hs t (by omega) (by omega)) a1, wS_le a2 hd, fun k hk => ?_⟩
  rw [h163]
  exact a3 k hk
theorem iL_keep {c d : Nat} {I J : Nat → Nat → Int32} (hd : c ≤ d) (h111 : J 111 = I 111) (h165 : J 165 = I 165) (hs : ∀ t, 112 < t → t < 142 → J t = I t) (h164 : J 164 = I 164) (h : iL c I) : iL d J := by
  intro j hj
  obtain ⟨a1, a2⟩ := h j hj
  refine ⟨by rw [h111, h165]; exact a1, fun hz => ?_⟩
  rw [h111] at hz
  obtain ⟨G, g1, g2, g3⟩ := a2 hz
  refine ⟨G, hR_cells (fun t t1 t2 => hs t (by omega) (by omega)) g1, wS_le g2 hd, fun k hk => ?_⟩
  rw [h164]
  exact g3 k hk
theorem iP_keep {I J : Nat → Nat → Int32} (h1 : J 142 1 = I 142 1) (h2 : J 160 8 = I 160 8) (h3 : J 143 = I 143) (h4 : J 166 = I 166) (h : iP I) : iP J := by
  obtain ⟨p, a1, a2, a3, a4⟩ := h
  refine ⟨p, a1, h1.trans a2, h2.trans a3, fun k hk => ?_⟩
  rw [h3, h4]
  exact a4 k hk
/-- the class was asked; the reference was asked -/
def cQ (I J : Nat → Nat → Int32) : Prop := ∀ t, t < 144 ∨ 160 ≤ t → J t = I t
def mQ (I J : Nat → Nat → Int32) : Prop := (∀ t, t < 160 → J t = I t) ∧ J 160 4 = I 160 4 ∧ J 160 8 = I 160 8 ∧ J 161 = I 161 ∧ J 163 = I 163 ∧ J 164 = I 164 ∧ J 165 = I 165 ∧ J 166 = I 166
theorem cQ_rf {I : Nat → Nat → Int32} : cQ I I := fun _ _ => rfl
theorem mQ_rf {I : Nat → Nat → Int32} : mQ I I := ⟨fun _ _ => rfl, rfl, rfl, rfl, rfl, rfl, rfl, rfl⟩
theorem cQ_tr {I J K : Nat → Nat → Int32} (h : cQ I J) (h2 : cQ J K) : cQ I K := fun t ht => (h2 t ht).trans (h t ht)
theorem mQ_tr {I J K : Nat → Nat → Int32} (h : mQ I J) (h2 : mQ J K) : mQ I K := by
  obtain ⟨a1, a2, a3, a4, a5, a6, a7, a8⟩ := h
  obtain ⟨b1, b2, b3, b4, b5, b6, b7, b8⟩ := h2
  exact ⟨fun t ht => (b1 t ht).trans (a1 t ht), b2.trans a2, b3.trans a3, b4.trans a4, b5.trans a5, b6.trans a6, b7.trans a7, b8.trans a8⟩
theorem mQ_th {I : Nat → Nat → Int32} {v : Int32} : mQ I (zs1 I 160 0 v) := by
  have h : ∀ t, t ≠ 160 → zs1 I 160 0 v t = I t := fun t ht => zs1_ne ht
  refine ⟨fun t ht => h t (by omega), ?_, ?_, h _ (by decide), h _ (by decide), h _ (by decide), h _ (by decide), h _ (by decide)⟩ <;> rw [zs1_self, upd_at, if_neg (by decide)]
theorem inv_q {c : Nat} {I I1 J : Nat → Nat → Int32} (h : Inv c I) (h1 : cQ I I1) (h2 : mQ I1 J) : Inv (c + 1) J := by
  obtain ⟨⟨n1, n2⟩, hh, hl, hp⟩ := h
  obtain ⟨b1, b2, b3, b4, b5, b6, b7, b8⟩ := h2
  have hs : ∀ t, t < 144 → J t = I t := fun t ht => (b1 t (by omega)).trans (h1 t (Or.inl ht))
  have hm : ∀ t, 160 ≤ t → I1 t = I t := fun t ht => h1 t (Or.inr ht)
  have e161 : J 161 = I 161 := b4.trans (hm _ (by decide))
  refine ⟨⟨?_, ?_⟩, iH_keep (Nat.le_succ c) (hs _ (by decide)) (fun t t1 t2 => hs t (by omega)) (b2.trans (congrFun (hm _ (by decide)) 4)) (b5.trans (hm _ (by decide))) hh, iL_keep (Nat.le_succ c) (hs _ (by decide)) (b7.trans (hm _ (by decide))) (fun t t1 t2 => hs t (by omega)) (b6.trans (hm _ (by decide))) hl, iP_keep (congrFun (hs _ (by decide)) 1) (b3.trans (congrFun (hm _ (by decide)) 8)) (hs _ (by decide)) (b8.trans (hm _ (by decide))) hp⟩
  · rw [e161]
    exact hR_cells (fun t t1 t2 => hs t (by omega)) n1
  · rw [e161]
    exact wS_le n2 (Nat.le_succ c)
/-- the class has recorded; the reference has recorded T -/
def rC (I J : Nat → Nat → Int32) : Prop := ∀ u x, u ≤ 6 → x < 6 → I 17 1 = nI x → I 17 2 = nI u → J 17 1 = nI ((x + 1) % 6) ∧ J 17 2 = nI (min (u + 1) 6) ∧ zCp I J 2 (19 + 15 * x) ∧ ∀ t, 19 < t → t < 109 → ¬ (19 + 15 * x < t ∧ t < 34 + 15 * x) → J t = I t
def rM (I J : Nat → Nat → Int32) (T : Nat → Int32) : Prop := ∀ u, u ≤ 6 → I 160 4 = nI u → J 160 4 = nI (min (u + 1) 6) ∧ ∀ j, j < min (u + 1) 6 → ∀ k, k < 675 → J 163 (675 * j + k) = if u < 6 then (if j < u then I 163 (675 * j + k) else T k) else (if j < 5 then I 163 (675 * (j + 1) + k) else T k)
theorem iH_rec {c d : Nat} {I I1 J : Nat → Nat → Int32} {T : Nat → Int32} (hd : c ≤ d) (h : iH c I) (hn : hR I 2 T) (hw : wS c T) (h1 : rC I J) (h2 : rM I1 J T) (h3 : I1 160 4 = I 160 4) (h4 : I1 163 = I 163) : iH d J := by
  obtain ⟨u, x, G, a1, a2, a3, a4, a5, a6⟩ := h
  obtain ⟨b1, b2, b3, b4⟩ := h1 u x a1 a2 a5 a4
  obtain ⟨d1, d2⟩ := h2 u a1 (h3.trans a3)
  refine ⟨min (u + 1) 6, (x + 1) % 6, fun j => if u < 6 then (if j < u then G j else T) else (if j < 5 then G (j + 1) else T), by omega, Nat.mod_lt _ (by decide), d1, b2, b1, fun j hj => ?_⟩
  have d3 := d2 j hj
  rw [h4] at d3
  have hcp := hR_cp b3 hw hn
  dsimp only
  by_cases hu : u < 6
  · rw [if_pos hu]
    have hmn : min (u + 1) 6 = u + 1 := by omega
    rw [hmn] at hj ⊢
    by_cases hju : j < u
    · rw [if_pos hju]
      obtain ⟨e1, e2, e3⟩ := a6 j hju
      have hb : ((x + 1) % 6 + 6 - (u + 1) + j) % 6 = (x + 6 - u + j) % 6 := by omega
      rw [hb]
      have hx : (x + 6 - u + j) % 6 ≠ x := by omega
      have hm : (x + 6 - u + j) % 6 < 6 := Nat.mod_lt _ (by decide)
      refine ⟨hR_cells (fun t t1 t2 => b4 t (by omega) (by omega) (by omega)) e1, wS_le e2 hd, fun k hk => ?_⟩
      rw [d3 k hk, if_pos hu, if_pos hju]
      exact e3 k hk
    · rw [if_neg hju]
      have hb : ((x + 1) % 6 + 6 - (u + 1) + j) % 6 = x := by omega
      rw [hb]
      refine ⟨hcp, wS_le hw hd, fun k hk => ?_⟩
      rw [d3 k hk, if_pos hu, if_neg hju]
  · rw [if_neg hu]
    have hu6 : u = 6 := by omega
    subst hu6
    have hmn : min (6 + 1) 6 = 6 := by decide
    rw [hmn] at hj ⊢
    by_cases hju : j < 5
    · rw [if_pos hju]
      obtain ⟨e1, e2, e3⟩ := a6 (j + 1) (by omega)
      have hb : ((x + 1) % 6 + 6 - 6 + j) % 6 = (x + 6 - 6 + (j + 1)) % 6 := by omega
      rw [hb]
      have hx : (x + 6 - 6 + (j + 1)) % 6 ≠ x := by omega
      have hm : (x + 6 - 6 + (j + 1)) % 6 < 6 := Nat.mod_lt _ (by decide)
      refine ⟨hR_cells (fun t t1 t2 => b4 t (by omega) (by omega) (by omega)) e1, wS_le e2 hd, fun k hk => ?_⟩
      rw [d3 k hk, if_neg hu, if_pos hju]
      exact e3 k hk
    · rw [if_neg hju]
      have hb : ((x + 1) % 6 + 6 - 6 + j) % 6 = x := by omega
      rw [hb]
      refine ⟨hcp, wS_le hw hd, fun k hk => ?_⟩
      rw [d3 k hk, if_neg hu, if_neg hju]
/-- all but history and what is now is as it was; the pad too -/
def cR (I J : Nat → Nat → Int32) : Prop := rC I J ∧ J 111 = I 111 ∧ (∀ t, 112 < t → t < 142 → J t = I t) ∧ (∀ t, 160 ≤ t → J t = I t)
def cP (I J : Nat → Nat → Int32) : Prop := J 142 = I 142 ∧ J 143 = I 143
def mR (I J : Nat → Nat → Int32) (T : Nat → Int32) : Prop := rM I J T ∧ (∀ t, t < 160 → J t = I t) ∧ J 164 = I 164 ∧ J 165 = I 165
def mP (I J : Nat → Nat → Int32) : Prop := J 160 8 = I 160 8 ∧ J 166 = I 166
theorem rC_th {I I1 J : Nat → Nat → Int32} (h : rC I I1) (hs : ∀ t, t < 160 → J t = I1 t) : rC I J := by
  intro u x hu hx h1 h2
  obtain ⟨a1, a2, a3, a4⟩ := h u x hu hx h1 h2
  have hq : ∀ q, q < 15 → J (19 + 15 * x + q) = I1 (19 + 15 * x + q) := fun q hq => hs _ (by omega)
  refine ⟨by rw [hs 17 (by decide)]; exact a1, by rw [hs 17 (by decide)]; exact a2, ?_, fun t t1 t2 t3 => (hs t (by omega)).trans (a4 t t1 t2 t3)⟩
  obtain ⟨g1, g2, g3, g4, g5, g6, g7, g8, g9⟩ := a3
  refine ⟨?_, fun k hk => ?_, ?_, fun q q1 q2 k hk => ?_, fun k hk => ?_, ?_, fun k hk => ?_, fun k hk => ?_, fun k hk => ?_⟩ <;> rw [hq _ (by omega)]
  · exact g1
  · exact g2 k hk
  · exact g3
  · exact g4 q q1 q2 k hk
  · exact g5 k hk
  · exact g6
  · exact g7 k hk
  · exact g8 k hk
  · exact g9 k hk
/-- a call that is a change, the pad set apart -/
theorem inv_rp {c : Nat} {I I1 J : Nat → Nat → Int32} {T : Nat → Int32} (h : Inv c I) (h1 : cR I I1) (h2 : mR I1 J T) (ht : hR I 2 T) (hw : wS c T) (hn : hR J 2 (J 161)) (hs : wS (c + 1) (J 161)) (hp : iP J) : Inv (c + 1) J := by
  obtain ⟨-, hh, hl, -⟩ := h
  obtain ⟨a1, a2, a3, a4⟩ := h1
  obtain ⟨b1, b2, b3, b4⟩ := h2
  refine ⟨⟨hn, hs⟩, iH_rec (I1 := I1) (Nat.le_succ c) hh ht hw (rC_th a1 b2) b1 (congrFun (a4 _ (by decide)) 4) (a4 _ (by decide)), iL_keep (Nat.le_succ c) ((b2 _ (by decide)).trans a2) (b4.trans (a4 _ (by decide))) (fun t t1 t2 => (b2 t (by omega)).trans (a3 t t1 t2)) (b3.trans (a4 _ (by decide))) hl, hp⟩
theorem inv_r {c : Nat} {I I1 J : Nat → Nat → Int32} {T : Nat → Int32} (h : Inv c I) (h1 : cR I I1) (h1p : cP I I1) (h2 : mR I1 J T) (h2p : mP I1 J) (ht : hR I 2 T) (hw : wS c T) (hn : hR J 2 (J 161)) (hs : wS (c + 1) (J 161)) : Inv (c + 1) J := by
  refine inv_rp h h1 h2 ht hw hn hs ?_
  have b2 := h2.2.1
  have a4 := h1.2.2.2
  refine iP_keep ?_ (h2p.1.trans (congrFun (a4 _ (by decide)) 8)) ?_ (h2p.2.trans (a4 _ (by decide))) h.2.2.2
  · rw [b2 _ (by decide), h1p.1]
  · rw [b2 _ (by decide), h1p.2]
/-- what the reference's records leaves -/
theorem m121x {X : Nat × (Nat → Int32)} {I : Nat → Nat → Int32} {u : Nat} (hu : u ≤ 6) (hs : I 160 4 = nI u) : ∃ J, zr X 121 0 [.ref 160, .null] [] (zk I) = some (none, zk J) ∧ (∀ t, t ≠ 160 → t ≠ 163 → J t = I t) ∧ (∀ k, k ≠ 4 → J 160 k = I 160 k) ∧ rM I J (I 161) := by
  have hinj : ∀ u', u' ≤ 6 → I 160 4 = nI u' → u' = u := by
    intro u' h1 h2
    rw [hs] at h2
    exact ((nI_inj (by omega) (by omega)).mp h2).symm
  by_cases h : u < 6
  · refine ⟨_, m121 h hs, fun t t1 t2 => ?_, fun k hk => ?_, fun u' h1 h2 => ?_⟩
    · rw [zs1_ne t1, zfw_ne t2]
    · rw [zs1_self, upd_at, if_neg hk, zfw_ne (by decide)]
    · have e := hinj u' h1 h2
      subst e
      rw [zs1_self, upd_at, if_pos rfl, show min (u' + 1) 6 = u' + 1 by omega]
      refine ⟨rfl, fun j hj k hk => ?_⟩
      rw [zs1_ne (by decide), zfw_self, if_pos h]
      by_cases hju : j < u'
      · rw [if_pos hju, if_neg (by omega)]
      · have e : j = u' := by omega
        subst e
        rw [if_neg hju, if_pos (by omega), show 675 * j + k - 675 * j = k by omega]
  · have h6 : u = 6 := by omega
    subst h6
    refine ⟨_, m121s hs, fun t t1 t2 => ?_, fun k hk => ?_, fun u' h1 h2 => ?_⟩
    · rw [zs1_ne t1, zfw_ne t2, zs1_ne t1, zfw_ne t2]
    · rw [zs1_self, upd_at, if_neg hk, zfw_ne (by decide), zs1_self, upd_at, if_neg hk, zfw_ne (by decide)]
    · have e := hinj u' h1 h2
      subst e
      rw [zs1_self, upd_at, if_pos rfl]
      refine ⟨rfl, fun j hj k hk => ?_⟩
      have hj6 : j < 6 := by omega
      rw [zs1_ne (by decide), zfw_self, if_neg (show ¬ (6 : Nat) < 6 by decide)]
      by_cases hju : j < 5
      · rw [if_pos hju, if_neg (show ¬ (3375 ≤ 675 * j + k ∧ 675 * j + k < 3375 + 675) by omega), zs1_ne (by decide), zfw_self, if_pos (by omega), show 675 * j + k - 0 + 675 = 675 * (j + 1) + k by omega]
      · have e : j = 5 := by omega
        subst e
        rw [if_neg hju, if_pos (by omega), show 675 * 5 + k - 3375 = k by omega]
