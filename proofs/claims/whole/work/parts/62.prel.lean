/-- what a call may leave of the reference's own scratch, and of the class's -/
def KM (σ τ : MS) : Prop := (ma τ 2 = ma σ 2 ∧ ma τ 3 = ma σ 3 ∧ ma τ 4 = ma σ 4 ∧ ma τ 5 = ma σ 5 ∧ (∀ j, j < 336 → ma τ 6 j = ma σ 6 j) ∧ ma τ 7 = ma σ 7 ∧ ma τ 12 = ma σ 12 ∧ ma τ 55 = ma σ 55) ∧ (mi τ 1 = mi σ 1 ∧ mi τ 8 = mi σ 8 ∧ mi τ 11 = mi σ 11 ∧ mi τ 13 = mi σ 13 ∧ mi τ 18 = mi σ 18 ∧ mi τ 20 = mi σ 20 ∧ mi τ 52 = mi σ 52 ∧ mi τ 56 = mi σ 56 ∧ mi τ 57 = mi σ 57) ∧ (mb τ 31 = mb σ 31 ∧ mb τ 32 = mb σ 32 ∧ mb τ 33 = mb σ 33 ∧ mb τ 48 = mb σ 48)
def KC (S T : CS) : Prop := (ci T 0 15 = ci S 0 15 ∧ ci T 0 16 = ci S 0 16 ∧ ci T 0 17 = ci S 0 17 ∧ ca T 0 13 = ca S 0 13 ∧ cq T 0 = cq S 0) ∧ (ci T 1 = ci S 1 ∧ ca T 1 = ca S 1 ∧ cq T 1 = cq S 1) ∧ (ca T 7 0 = ca S 7 0 ∧ ci T 7 2 = ci S 7 2) ∧ (ci T 10 1 = ci S 10 1 ∧ ca T 10 0 = ca S 10 0) ∧ (ci T 3 5 = ci S 3 5 ∧ ci T 3 9 = ci S 3 9 ∧ ca T 3 7 = ca S 3 7 ∧ ca T 3 4 = ca S 3 4) ∧ ci T 9 10 = ci S 9 10
theorem snap_cg {U V : Nat → Int32} {k : Nat} {R : Nat → Int32} (h : ∀ i, 5 ≤ i → i < 26 → V (21 * k + (i - 5)) = U (21 * k + (i - 5))) : snap V k R = snap U k R := by
  funext i
  unfold snap
  by_cases hi : 5 ≤ i ∧ i < 26
  · rw [if_pos hi, if_pos hi, h i hi.1 hi.2]
  · rw [if_neg hi, if_neg hi]
theorem LgE_cg {r r' U V s s' R : Nat → Int32} {L C k : Nat} (h : LgE r U s R L C k) (hr : ∀ j, j < 20 → r' (20 * k + j) = r (20 * k + j)) (hs : s' k = s k) (hU : ∀ j, j < 21 → V (21 * k + j) = U (21 * k + j)) : LgE r' V s' R L C k := by
  obtain ⟨⟨d, h1, h2, h3⟩, h4, h5, h6, h7, h8, h9, h10⟩ := h
  have e : snap V k R = snap U k R := snap_cg (fun i a b => hU (i - 5) (by omega))
  refine ⟨⟨d, h1, ?_, ?_⟩, ?_, fun j hj => ⟨?_, ?_⟩, fun j hj => ?_, ?_, ?_, by rw [e]; exact h9, by rw [e]; exact h10⟩
  · rw [show 20 * k = 20 * k + 0 from rfl, hr 0 (by omega)]; exact h2
  · rw [hs, h3]
  · rw [hr 1 (by omega), h4, show 21 * k = 21 * k + 0 from rfl, hU 0 (by omega)]
  · rw [show 20 * k + 2 + j = 20 * k + (2 + j) by omega, hr _ (by omega), show 21 * k + 13 + j = 21 * k + (13 + j) by omega, hU _ (by omega), show 20 * k + (2 + j) = 20 * k + 2 + j by omega, (h5 j hj).1, show 21 * k + 13 + j = 21 * k + (13 + j) by omega]
  · rw [show 20 * k + 6 + j = 20 * k + (6 + j) by omega, hr _ (by omega), show 21 * k + 17 + j = 21 * k + (17 + j) by omega, hU _ (by omega), show 20 * k + (6 + j) = 20 * k + 6 + j by omega, (h5 j hj).2, show 21 * k + 17 + j = 21 * k + (17 + j) by omega]
  · rw [show 20 * k + 10 + j = 20 * k + (10 + j) by omega, hr _ (by omega), show 21 * k + 3 + j = 21 * k + (3 + j) by omega, hU _ (by omega), show 20 * k + (10 + j) = 20 * k + 10 + j by omega, h6 j hj, show 21 * k + 3 + j = 21 * k + (3 + j) by omega]
  · rw [hU 1 (by omega), h7]
  · rw [hU 2 (by omega), h8]
theorem LG_cg {r U V s R : Nat → Int32} {x y : Int32} {L C : Nat} (h : LG r U s R x y L C) (hU : ∀ j, j < 336 → V j = U j) : LG r V s R x y L C := by
  obtain ⟨n, h1, h2, h3, h4⟩ := h
  exact ⟨n, h1, h2, h3, fun k hk => LgE_cg (h4 k hk) (fun _ _ => rfl) rfl (fun j hj => hU _ (by omega))⟩
theorem rel_KM {E : Nat → ClassId} {S : CS} {P : va_W} {σ τ : MS} (h : Rel E S P σ) (k : KM σ τ) : Rel E S P τ := by
  obtain ⟨L, C, H, W, h1, h2, h3, h4, h5, h6, h7, h8, h9⟩ := h
  obtain ⟨⟨k2, k3, k4, k5, k6, k7, k12, k55⟩, ⟨i1, i8, i11, i13, i18, i20, i52, i56, i57⟩, b31, b32, b33, b48⟩ := k
  refine ⟨L, C, H, W, by rw [k3]; exact h1, by rw [k3]; exact h2, by rw [k3]; exact h3, by rw [k4, k5]; exact h4, ?_, by rw [i13, k12]; exact h6, by rw [i56, i57, k55]; exact h7, ?_, ?_⟩
  · rw [k7, k3, i8]; exact LG_cg h5 k6
  · unfold KO at h8 ⊢
    rw [i20, b31, b32, b33, b48]; exact h8
  · unfold MI at h9 ⊢
    rw [i1, i52, i11, i18, k2]; exact h9
theorem rel_KC {E : Nat → ClassId} {S T : CS} {P : va_W} {σ : MS} (h : Rel E S P σ) (k : KC S T) : Rel E T P σ := by
  obtain ⟨L, C, H, W, h1, h2, h3, h4, h5, h6, h7, h8, h9⟩ := h
  obtain ⟨⟨a1, a2, a3, a4, a5⟩, ⟨b1, b2, b3⟩, ⟨c1, c2⟩, ⟨d1, d2⟩, ⟨e1, e2, e3, e4⟩, f1⟩ := k
  refine ⟨L, C, H, W, by rw [b1, b2]; exact h1, h2, by rw [a5, b3]; exact h3, by rw [a5]; exact h4, by rw [c1, c2]; exact h5, by rw [d1, d2]; exact h6, by rw [e1, e2, e3, e4]; exact h7, h8, ?_⟩
  unfold MI at h9 ⊢
  rw [a1, a2, a3, a4, f1]; exact h9
theorem KM.rf {σ : MS} : KM σ σ := ⟨⟨rfl, rfl, rfl, rfl, fun _ _ => rfl, rfl, rfl, rfl⟩, ⟨rfl, rfl, rfl, rfl, rfl, rfl, rfl, rfl, rfl⟩, rfl, rfl, rfl, rfl⟩
theorem KM.tr {σ τ υ : MS} (h : KM σ τ) (k : KM τ υ) : KM σ υ := by
  obtain ⟨⟨k2, k3, k4, k5, k6, k7, k12, k55⟩, ⟨i1, i8, i11, i13, i18, i20, i52, i56, i57⟩, b31, b32, b33, b48⟩ := h
  obtain ⟨⟨l2, l3, l4, l5, l6, l7, l12, l55⟩, ⟨j1, j8, j11, j13, j18, j20, j52, j56, j57⟩, c31, c32, c33, c48⟩ := k
  exact ⟨⟨l2.trans k2, l3.trans k3, l4.trans k4, l5.trans k5, fun j hj => (l6 j hj).trans (k6 j hj), l7.trans k7, l12.trans k12, l55.trans k55⟩, ⟨j1.trans i1, j8.trans i8, j11.trans i11, j13.trans i13, j18.trans i18, j20.trans i20, j52.trans i52, j56.trans i56, j57.trans i57⟩, c31.trans b31, c32.trans b32, c33.trans b33, c48.trans b48⟩
theorem KC.rf {S : CS} : KC S S := ⟨⟨rfl, rfl, rfl, rfl, rfl⟩, ⟨rfl, rfl, rfl⟩, ⟨rfl, rfl⟩, ⟨rfl, rfl⟩, ⟨rfl, rfl, rfl, rfl⟩, rfl⟩
theorem KC.tr {S T U : CS} (h : KC S T) (k : KC T U) : KC S U := by
  obtain ⟨⟨a1, a2, a3, a4, a5⟩, ⟨b1, b2, b3⟩, ⟨c1, c2⟩, ⟨d1, d2⟩, ⟨e1, e2, e3, e4⟩, f1⟩ := h
  obtain ⟨⟨g1, g2, g3, g4, g5⟩, ⟨m1, m2, m3⟩, ⟨n1, n2⟩, ⟨o1, o2⟩, ⟨p1, p2, p3, p4⟩, q1⟩ := k
  exact ⟨⟨g1.trans a1, g2.trans a2, g3.trans a3, g4.trans a4, g5.trans a5⟩, ⟨m1.trans b1, m2.trans b2, m3.trans b3⟩, ⟨n1.trans c1, n2.trans c2⟩, ⟨o1.trans d1, o2.trans d2⟩, ⟨p1.trans e1, p2.trans e2, p3.trans e3, p4.trans e4⟩, q1.trans f1⟩
theorem km_0 (σ : MS) (v : Int32) : KM σ (mI σ 0 v) := ⟨⟨rfl, rfl, rfl, rfl, fun _ _ => rfl, rfl, rfl, rfl⟩, ⟨rfl, rfl, rfl, rfl, rfl, rfl, rfl, rfl, rfl⟩, rfl, rfl, rfl, rfl⟩
theorem rel_0 {E : Nat → ClassId} {S : CS} {P : va_W} {σ : MS} (h : Rel E S P σ) (v : Int32) : Rel E S P (mI σ 0 v) := rel_KM h (km_0 σ v)
/-- accepted, refused -/
theorem qm_tell0 (σ : MS) {n : Nat} (hn : n < 2 ^ 31) : M_tell σ (nI n) = some (nI n, mI σ 1 0) := by
  unfold M_tell
  rw [if_pos (nI_pos' hn)]
  unfold M_tell_B10
  rw [stt_d, if_pos (nI_pos' hn)]
theorem qm_tell0' (σ : MS) : M_tell σ 0 = some (0, mI σ 1 0) := qm_tell0 σ (n := 0) (by decide)
theorem qm_tellN (σ : MS) (v : Int32) (k : Nat) (h1 : v < 0) (h2 : -v = nI k) (h3 : k < 7) : M_tell σ v = some (v, mA (mI σ 1 v) 2 k (ma σ 2 k + 1)) := by
  have hv : ¬ 0 ≤ v := by
    rw [lt_i] at h1; rw [le_i]; omega
  unfold M_tell
  rw [if_neg hv]
  unfold M_tell_B10
  rw [stt_d, if_neg hv, h2, chk_in h3 (by decide), chk_in h3 (by decide), stt_d, nI_clamp (by omega)]
  rfl
theorem qc_refuse (S : CS) (v : Int32) (k : Nat) (h2 : -v = nI k) (h3 : k < 7) : C_10_refuse S v = some (v, cA (cI S 0 15 v) 0 13 k (ca S 0 13 k + 1)) := by
  unfold C_10_refuse
  rw [stc_d, h2, if_neg (nI_pos (by omega)), if_neg (show ¬ (7 : Int32) ≤ nI k from nI_ge h3 (by decide)), chk_in h3 (by decide), chk_in h3 (by decide), stc_d, nI_clamp (by omega)]
  rfl
theorem qc_accept (S : CS) (v : Int32) : C_10_accept S v = some (v, cI S 0 15 0) := rfl
theorem rel_ref {E : Nat → ClassId} {S : CS} {P : va_W} {σ : MS} (h : Rel E S P σ) (v : Int32) (k : Nat) (hk : k < 7) : Rel E (cA (cI S 0 15 v) 0 13 k (ca S 0 13 k + 1)) P (mA (mI σ 1 v) 2 k (ma σ 2 k + 1)) := by
  obtain ⟨L, C, H, W, h1, h2, h3, h4, h5, h6, h7, h8, h9⟩ := h
  refine ⟨L, C, H, W, h1, h2, h3, h4, h5, h6, h7, h8, ?_⟩
  obtain ⟨a1, a2, a3, a4, a5⟩ := h9
  refine ⟨rfl, a2, a3, a4, fun j hj => ?_⟩
  show upd (ca S 0 13) k (ca S 0 13 k + 1) j = upd (ma σ 2) k (ma σ 2 k + 1) j
  rw [upd_d, upd_d, a5 j hj, a5 k hk]
theorem rel_acc {E : Nat → ClassId} {S : CS} {P : va_W} {σ : MS} (h : Rel E S P σ) : Rel E (cI S 0 15 0) P (mI σ 1 0) := by
  obtain ⟨L, C, H, W, h1, h2, h3, h4, h5, h6, h7, h8, h9⟩ := h
  refine ⟨L, C, H, W, h1, h2, h3, h4, h5, h6, h7, h8, ?_⟩
  obtain ⟨a1, a2, a3, a4, a5⟩ := h9
  exact ⟨rfl, a2, a3, a4, a5⟩
theorem a5 (j : Nat) : (5 : Int32) + nI j = nI (5 + j) := nI_add 5 j
theorem a8 (j : Nat) : (8 : Int32) + nI j = nI (8 + j) := nI_add 8 j
theorem a18 (j : Nat) : (18 : Int32) + nI j = nI (18 + j) := nI_add 18 j
theorem a22 (j : Nat) : (22 : Int32) + nI j = nI (22 + j) := nI_add 22 j
theorem a26 (j : Nat) : (26 : Int32) + nI j = nI (26 + j) := nI_add 26 j
theorem a36 (j : Nat) : (36 : Int32) + nI j = nI (36 + j) := nI_add 36 j
theorem a46 (j : Nat) : (46 : Int32) + nI j = nI (46 + j) := nI_add 46 j
theorem a56 (j : Nat) : (56 : Int32) + nI j = nI (56 + j) := nI_add 56 j
theorem a66 (j : Nat) : (66 : Int32) + nI j = nI (66 + j) := nI_add 66 j
theorem a70 (j : Nat) : (70 : Int32) + nI j = nI (70 + j) := nI_add 70 j
/-- what tells and changes nothing -/
theorem pa_9 {F : Nat} {E : Nat → ClassId} : ag_9 F E (Rel E) := fun S P σ h => by
  have h9 := h
  obtain ⟨L, C, H, W, -, -, -, -, -, -, -, -, a1, a2, a3, a4, a5⟩ := h9
  exact ⟨ci S 0 17, mI σ 0 0, rfl, by show some (mi σ 11, mI σ 0 0) = _; rw [← a3], rel_0 h 0⟩
theorem pa_12 {F : Nat} {E : Nat → ClassId} : ag_12 F E (Rel E) := fun S P σ h => by
  have h9 := h
  obtain ⟨L, C, H, W, -, -, -, -, -, -, -, -, a1, a2, a3, a4, a5⟩ := h9
  exact ⟨ci S 9 10, mI σ 0 0, rfl, by show some (mi σ 18, mI σ 0 0) = _; rw [← a4], rel_0 h 0⟩
theorem pa_13 {F : Nat} {E : Nat → ClassId} : ag_13 F E (Rel E) := fun S P σ h => by
  have h9 := h
  obtain ⟨L, C, H, W, -, -, -, -, -, -, -, -, a1, a2, a3, a4, a5⟩ := h9
  exact ⟨ci S 0 16, mI σ 0 0, rfl, by show some (mi σ 52, mI σ 0 0) = _; rw [← a2], rel_0 h 0⟩
theorem pa_42 {F : Nat} {E : Nat → ClassId} : ag_42 F E (Rel E) := fun S P σ h => by
  have h9 := h
  obtain ⟨L, C, H, W, -, -, -, -, -, -, -, -, a1, a2, a3, a4, a5⟩ := h9
  exact ⟨ci S 0 15, mI σ 0 0, rfl, by show some (mi σ 1, mI σ 0 0) = _; rw [← a1], rel_0 h 0⟩
theorem pa_1 {F : Nat} {E : Nat → ClassId} : ag_1 F E (Rel E) := fun S P σ x1 x2 h => by
  have h9 := h
  obtain ⟨L, C, H, W, ⟨⟨t1, t2, t3, t4, t5⟩, tl, tc, th, tt⟩, ⟨⟨⟨vL, vC, v0, v1⟩, vl, -⟩, -⟩, -⟩ := h9
  have e1 : M_isLane (mI σ 0 0) x1 = some (isAt x1 L) := qm_isLane (S := mI σ 0 0) vL v0 x1
  have e2 : C_7_hasLane S 1 x1 = some (isAt x1 L) := qc_hasLane vL (t1.trans v0) x1
  by_cases h0 : isAt x1 L = 0
  · refine ⟨-1, mI σ 0 0, ?_, ?_, rel_0 h 0⟩
    · unfold C_10_at; rw [e2, bs, if_pos h0]
    · unfold M_at; rw [stt_d, e1, bs, if_pos h0]
  · obtain ⟨j, hj, rfl⟩ := isAt_n0 (by omega) h0
    obtain ⟨l0, l1, l2, l3, l4⟩ := tl j (by omega)
    refine ⟨if x2 = 0 then ma σ 3 (26 + j) else if x2 = 1 then ma σ 3 (36 + j) else if x2 = 2 then ma σ 3 (46 + j) else if x2 = 3 then ma σ 3 (56 + j) else if x2 = 4 then ma σ 3 (8 + j) else -1, mI σ 0 0, ?_, ?_, rel_0 h 0⟩
    · unfold C_10_at
      rw [e2, bs, if_neg h0]
      simp (disch := omega) only [chk_in, nI_clamp, l0, l1, l2, l3, l4]
      repeat (split <;> try rfl)
    · unfold M_at
      rw [stt_d, e1, bs, if_neg h0]
      simp (disch := omega) only [a26, a36, a46, a56, a8, chk_in, nI_clamp]
      repeat (split <;> try rfl)
