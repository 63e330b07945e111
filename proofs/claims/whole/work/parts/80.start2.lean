/-! the law up to its loop -/
theorem zgd_some {x : Option (Option Value × zM)} (h : zgd x = true) : x = some (none, (x.getD (none, zm0)).2) := by
  match x, h with
  | some (none, m), _ => rfl
theorem zM_eta (m : zM) : m = (m.1, m.2.1, m.2.2.1, m.2.2.2.1, m.2.2.2.2) := rfl
theorem zc5 : zwf zmB = true ∧ zmB.2.1.length = 160 := by decide +kernel
def zcOk (k : Nat) (st : List Value) (m : zM) : Bool := decide (zA k ≤ st.length ∧ ((st.drop (zA k)).map fun v => v.category).sum ≤ 8 ∧ k < 187 ∧ 0 < m.2.1.length ∧ (zEn k (st.take (zA k)).reverse).length = zL k ∧ (zSt k = true ∨ zrcv k st m = true))
theorem zcall_ok {k : Nat} {st : List Value} {m : zM} (h : zcOk k st m = true) : zcall k st m = some (.inr (.inr (k, (st.take (zA k)).reverse, st.drop (zA k)))) := if_pos (of_decide_eq_true h)
theorem zc6 : zcOk 87 [.ref 1, .ref 1] zmA = true := by decide +kernel
theorem zc7 : zcOk 115 [.ref 160, .ref 160] zmC = true := by decide +kernel
theorem zc8 : zNf 10 = 19 ∧ zNf 9 = 8 ∧ zwf zm0 = true := by decide +kernel
section S8b
variable {X : Nat × (Nat → Int32)}
set_option maxRecDepth 20000 in
theorem u188_0 : zT 188 0 = some (.new 7, 3, 9, 0, 76) := by rfl
set_option maxRecDepth 20000 in
theorem u188_3 : zT 188 3 = some (.dup, 1, 0, 0, 0) := by rfl
set_option maxRecDepth 20000 in
theorem u188_4 : zT 188 4 = some (.invokespecial 9, 3, 87, 0, 78) := by rfl
set_option maxRecDepth 20000 in
theorem u188_7 : zT 188 7 = some (.astore_n 1, 1, 0, 0, 0) := by rfl
set_option maxRecDepth 20000 in
theorem u188_8 : zT 188 8 = some (.new 10, 3, 10, 0, 777) := by rfl
set_option maxRecDepth 20000 in
theorem u188_11 : zT 188 11 = some (.dup, 1, 0, 0, 0) := by rfl
set_option maxRecDepth 20000 in
theorem u188_12 : zT 188 12 = some (.invokespecial 12, 3, 115, 0, 779) := by rfl
set_option maxRecDepth 20000 in
theorem u188_15 : zT 188 15 = some (.astore_n 2, 1, 0, 0, 0) := by rfl
set_option maxRecDepth 20000 in
theorem u188_16 : zT 188 16 = some (.iconst 0, 1, 0, 0, 0) := by rfl
set_option maxRecDepth 20000 in
theorem u188_17 : zT 188 17 = some (.istore_n 3, 1, 0, 0, 0) := by rfl
theorem zr_87 : zr X 87 0 (zEn 87 [.ref 1]) [] zmA = some (none, zmB) := zr_some.mpr ⟨6000, zrunS_run _ _ _ _ _ _ _ (zgd_some zc1)⟩
theorem zr_115 : zr X 115 0 (zEn 115 [.ref 160]) [] zmC = some (none, zmD) := zr_some.mpr ⟨6000, zrunS_run _ _ _ _ _ _ _ (zgd_some zc2)⟩
theorem zr_newg {y pc ci a b w : Nat} {ls st : List Value} {m : zM} {i : Nat} (hT : zT y pc = some (.new i, 3, ci, b, w)) (hw : zwf m = true) : zr X y pc ls st m = zr X y (pc + 3) ls (.ref m.2.1.length :: st) (zalloc m (ci + 3) (zNf ci)) := by
  refine zr_go (q := (pc + 3, ls, .ref m.2.1.length :: st, zalloc m (ci + 3) (zNf ci))) ?_
  rw [zact_eq hT]
  show znew ci pc ls st m = _
  unfold znew
  rw [if_pos hw]
  rfl
theorem zr_calli {y pc k b w i : Nat} {ls st : List Value} {m : zM} (hT : zT y pc = some (.invokespecial i, 3, k, b, w)) (hk : ¬ k = 1000) (h : zcOk k st m = true) : zr X y pc ls st m = zcb (zr X k 0 (zEn k (st.take (zA k)).reverse) [] m) (fun v m1 => zr X y (pc + 3) ls (v.toList ++ st.drop (zA k)) m1) := by
  refine zr_cl ?_
  rw [zact_eq hT, ← zcall_ok h]
  show (if k = 1000 then zoinit pc ls st m else zcall k st m) = _
  rw [if_neg hk]
theorem zBegin : zr X 188 0 [.ref 0, .null, .null, .null] [] zm0 = zr X 188 18 [.ref 0, .ref 1, .ref 160, .int 0] [] zmD := by
  have eA : zalloc zm0 (9 + 3) (zNf 9) = zmA := by rw [zc8.2.1]; rfl
  have s1 : zr X 188 0 [.ref 0, .null, .null, .null] [] zm0 = zr X 188 3 [.ref 0, .null, .null, .null] [.ref 1] zmA := by
    rw [zr_newg (X := X) (a := 0) u188_0 zc8.2.2, eA]
    rfl
  have s2 : zr X 188 3 [.ref 0, .null, .null, .null] [.ref 1] zmA = zr X 188 4 [.ref 0, .null, .null, .null] [.ref 1, .ref 1] zmA := zr_dup u188_3 rfl
  have s3 : zr X 188 4 [.ref 0, .null, .null, .null] [.ref 1, .ref 1] zmA = zr X 188 7 [.ref 0, .null, .null, .null] [.ref 1] zmB := by
    rw [zr_calli (X := X) u188_4 (by decide) zc6]
    show zcb (zr X 87 0 (zEn 87 [.ref 1]) [] zmA) _ = _
    rw [zr_87, zcb_some]
    rfl
  have s4 : zr X 188 7 [.ref 0, .null, .null, .null] [.ref 1] zmB = zr X 188 8 [.ref 0, .ref 1, .null, .null] [] zmB := zr_astore_n u188_7 rfl rfl
  have s5 : zr X 188 8 [.ref 0, .ref 1, .null, .null] [] zmB = zr X 188 11 [.ref 0, .ref 1, .null, .null] [.ref 160] zmC := by
    rw [zr_newg (X := X) (a := 0) u188_8 zc5.1, zc5.2]
    rfl
  have s6 : zr X 188 11 [.ref 0, .ref 1, .null, .null] [.ref 160] zmC = zr X 188 12 [.ref 0, .ref 1, .null, .null] [.ref 160, .ref 160] zmC := zr_dup u188_11 rfl
  have s7 : zr X 188 12 [.ref 0, .ref 1, .null, .null] [.ref 160, .ref 160] zmC = zr X 188 15 [.ref 0, .ref 1, .null, .null] [.ref 160] zmD := by
    rw [zr_calli (X := X) u188_12 (by decide) zc7]
    show zcb (zr X 115 0 (zEn 115 [.ref 160]) [] zmC) _ = _
    rw [zr_115, zcb_some]
    rfl
  have s8 : zr X 188 15 [.ref 0, .ref 1, .null, .null] [.ref 160] zmD = zr X 188 16 [.ref 0, .ref 1, .ref 160, .null] [] zmD := zr_astore_n u188_15 rfl rfl
  have s9 : zr X 188 16 [.ref 0, .ref 1, .ref 160, .null] [] zmD = zr X 188 17 [.ref 0, .ref 1, .ref 160, .null] [.int 0] zmD := zr_iconst u188_16 rfl
  have s10 : zr X 188 17 [.ref 0, .ref 1, .ref 160, .null] [.int 0] zmD = zr X 188 18 [.ref 0, .ref 1, .ref 160, .int 0] [] zmD := zr_istore_n u188_17 rfl rfl
  rw [s1, s2, s3, s4, s5, s6, s7, s8, s9, s10]
end S8b
/-- what holds then -/
theorem zD_k : ∃ I, zmD = zk I ∧ ∀ q ∈ zF0, I q.1 q.2.1 = q.2.2 := by
  refine ⟨zmD.2.2.2.2, ?_, fun q hq => of_decide_eq_true (List.all_eq_true.mp zc4 q hq)⟩
  have h := zc3
  have e := zM_eta zmD
  rw [h.1, h.2.1, h.2.2.1, h.2.2.2] at e
  exact e
theorem zInv0 {I : Nat → Nat → Int32} (h : ∀ q ∈ zF0, I q.1 q.2.1 = q.2.2) : Inv 0 I := by
  have f := fun (t k : Nat) (v : Int32) (hq : (t, k, v) ∈ zF0) => h (t, k, v) hq
  have e0 : nI 0 = 0 := nI_0
  have z0 : zx (0 : Int32) = 0 := by decide
  have h0 := f 161 0 0 (by decide)
  have h66 := f 161 66 0 (by decide)
  have h307 := f 161 307 0 (by decide)
  have h308 := f 161 308 0 (by decide)
  refine ⟨⟨⟨⟨?_, fun k hk => ?_⟩, ⟨?_, fun i w hi _ => ?_, fun i k hi _ => ?_⟩, fun k hk => ?_, ?_, fun j hj => ?_⟩, ⟨0, 0, by decide, by decide, h0.trans e0.symm, h66.trans e0.symm, ⟨fun i hi => absurd hi (Nat.not_lt_zero _), fun i j hi => absurd hi (Nat.not_lt_zero _), fun i j hi => absurd hi (Nat.not_lt_zero _)⟩, ?_⟩, fun k hk => ?_, 0, Nat.le_refl _, h307.trans e0.symm, h308.trans e0.symm, fun j hj => absurd hj (Nat.not_lt_zero _)⟩, ⟨0, 0, fun _ => I 161, by decide, by decide, (f 160 4 0 (by decide)).trans e0.symm, (f 17 2 0 (by decide)).trans e0.symm, (f 17 1 0 (by decide)).trans e0.symm, fun j hj => absurd hj (Nat.not_lt_zero _)⟩, fun j hj => ?_, ⟨0, by decide, (f 142 1 0 (by decide)).trans e0.symm, (f 160 8 0 (by decide)).trans e0.symm, fun k hk => absurd hk (Nat.not_lt_zero _)⟩⟩
  · exact (f 3 1 0 (by decide)).trans h0.symm
  · rw [h0, z0] at hk
    exact absurd hk (Nat.not_lt_zero _)
  · exact (f 5 7 0 (by decide)).trans h66.symm
  · rw [h66, z0] at hi
    exact absurd hi (Nat.not_lt_zero _)
  · rw [h66, z0] at hi
    exact absurd hi (Nat.not_lt_zero _)
  · have hk5 : k = 0 ∨ k = 1 ∨ k = 2 ∨ k = 3 ∨ k = 4 := by omega
    rcases hk5 with rfl | rfl | rfl | rfl | rfl
    · exact (f 16 0 0 (by decide)).trans (f 161 61 0 (by decide)).symm
    · exact (f 16 1 1 (by decide)).trans (f 161 62 1 (by decide)).symm
    · exact (f 16 2 2 (by decide)).trans (f 161 63 2 (by decide)).symm
    · exact (f 16 3 3 (by decide)).trans (f 161 64 3 (by decide)).symm
    · exact (f 16 4 4 (by decide)).trans (f 161 65 4 (by decide)).symm
  · exact (f 13 2 0 (by decide)).trans h307.symm
  · rw [h308, z0] at hj
    exact absurd hj (Nat.not_lt_zero _)
  · show ¬ (60 : Int32) < I 161 0
    rw [h0]
    decide
  · have hk5 : k = 0 ∨ k = 1 ∨ k = 2 ∨ k = 3 ∨ k = 4 := by omega
    rcases hk5 with rfl | rfl | rfl | rfl | rfl
    · exact ⟨0, by decide, f 161 61 0 (by decide)⟩
    · exact ⟨1, by decide, f 161 62 1 (by decide)⟩
    · exact ⟨2, by decide, f 161 63 2 (by decide)⟩
    · exact ⟨3, by decide, f 161 64 3 (by decide)⟩
    · exact ⟨4, by decide, f 161 65 4 (by decide)⟩
  · have hj2 : j = 0 ∨ j = 1 := by omega
    rcases hj2 with rfl | rfl
    · exact ⟨(f 111 0 0 (by decide)).trans (f 165 0 0 (by decide)).symm, fun z => absurd (f 111 0 0 (by decide)) z⟩
    · exact ⟨(f 111 1 0 (by decide)).trans (f 165 1 0 (by decide)).symm, fun z => absurd (f 111 1 0 (by decide)) z⟩
theorem zK0_len : zK0.length ≤ 600001 := by decide +kernel
theorem zclaim : zClaim := by
  intro X hX
  obtain ⟨I, hI, hf⟩ := zD_k
  obtain ⟨J, hJ⟩ := zLoop (X := X) hX 520 0 I rfl (zInv0 hf)
  have h0 : nI (4 * 0) = 0 := nI_0
  rw [h0, ← hI, ← zBegin] at hJ
  obtain ⟨n, hn⟩ := zr_some.mp hJ
  exact ⟨n, zk J, hn, zK0_len, by show 14300 ≤ 7302250; decide⟩
