def mx (j : Nat) : Nat := if j = 0 then 999 else if j = 1 then 10 else 9
theorem qm_termsJ (σ : MS) {j : Nat} (hj : j < 3) (x : Int32) : M_terms σ (nI j) x = M_terms_B60 (mI σ 0 0) (nI j) x (if 0 ≤ x.toInt ∧ x.toInt ≤ mx j then 1 else 0) := by
  have e999 : (999 : Int32).toInt = 999 := by decide
  have e10 : (10 : Int32).toInt = 10 := by decide
  unfold M_terms
  rw [stt_d]
  rcases (by omega : j = 0 ∨ j = 1 ∨ j = 2) with rfl | rfl | rfl
  · rw [if_pos (by decide), qm_in32 x 0 999 0 999 rfl rfl, bs]
    simp only [le_i, i32_0, e999]; rfl
  · rw [if_neg (by decide), if_pos (by decide), qm_in32 x 0 10 0 10 rfl rfl, bs]
    simp only [le_i, i32_0, e10]; rfl
  · rw [if_neg (by decide), if_neg (by decide), if_pos (by decide), qm_in32 x 0 9 0 9 rfl rfl, bs]
    simp only [le_i, i32_0, i32_9]
    by_cases h : 0 ≤ x.toInt ∧ x.toInt ≤ 9
    · rw [if_pos h, if_neg (by decide), if_pos (by unfold mx; simp only [if_neg (show ¬ (2 : Nat) = 0 by decide), if_neg (show ¬ (2 : Nat) = 1 by decide)]; omega)]
    · rw [if_neg h, if_pos rfl, if_neg (by unfold mx; simp only [if_neg (show ¬ (2 : Nat) = 0 by decide), if_neg (show ¬ (2 : Nat) = 1 by decide)]; omega)]; rfl
theorem pa_5 {F : Nat} {E : Nat → ClassId} : ag_5 F E (Rel E) := fun S P σ x1 x2 h => by
  have hh := h
  obtain ⟨L, C, H, W, ⟨-, -, -, -, tt⟩, -⟩ := hh
  obtain ⟨T, τ, r1, r2, r3⟩ := ag_m1 h (-1) 1 (by decide) rfl (by decide)
  have bad : (C_10_terms S x1 x2 = C_10_terms_B25 S) → (M_terms σ x1 x2 = M_terms_B60 (mI σ 0 0) x1 x2 0) → ∃ (q : Int32 × CS) (σ1 : MS), C_10_terms S x1 x2 = some q ∧ M_terms σ x1 x2 = some (q.1, σ1) ∧ Rel E q.2 P σ1 := fun a b => by
    refine ⟨(-1, T), τ, ?_, ?_, r3⟩
    · rw [a]; unfold C_10_terms_B25; rw [r1, bs]
    · rw [b]; unfold M_terms_B60; rw [if_pos rfl, r2, bs]
  have e3 : (3 : Int32).toInt = 3 := by decide
  have e2 : (2 : Int32).toInt = 2 := by decide
  by_cases hx : 0 ≤ x1.toInt ∧ x1.toInt < 3
  rotate_left
  · refine bad ?_ ?_
    · unfold C_10_terms
      simp only [lt_i, le_i, i32_0, e3]
      by_cases k : x1.toInt < 0
      · rw [if_pos k]
      · rw [if_neg k, if_pos (by omega)]
    · unfold M_terms
      rw [stt_d]
      simp only [eq_i, i32_0, i32_1, e2]
      rw [if_neg (by omega), if_neg (by omega), if_neg (by omega)]
      rfl
  obtain ⟨j, hj, rfl⟩ : ∃ j : Nat, j < 3 ∧ x1 = nI j := ⟨x1.toInt.toNat, by omega, nI_of' hx.1⟩
  have eC : C_10_terms S (nI j) x2 = if x2.toInt < 0 then C_10_terms_B25 S else if x2.toInt ≤ mx j then some (ca S 1 12 j, cI (cI (cA S 1 12 j x2) 7 2 0) 0 15 0) else C_10_terms_B25 S := by
    unfold C_10_terms
    rw [if_neg (nI_pos (by omega)), if_neg (show ¬ (3 : Int32) ≤ nI j from nI_ge hj (by decide)), chk_in hj (by decide), chk_in hj (by decide), chk_in hj (by decide), nI_clamp (by omega)]
    have em : (mtF j).toInt = mx j := by
      rcases (by omega : j = 0 ∨ j = 1 ∨ j = 2) with rfl | rfl | rfl <;> decide
    simp only [lt_i, le_i, i32_0, em]
    rfl
  rw [qm_termsJ σ hj x2] at bad ⊢
  rw [eC] at bad ⊢
  by_cases k1 : x2.toInt < 0
  · rw [if_pos k1, if_neg (by omega)] at bad
    rw [if_pos k1, if_neg (by omega)]
    exact bad rfl rfl
  · rw [if_neg k1] at bad ⊢
    by_cases k2 : x2.toInt ≤ mx j
    · rw [if_pos k2, if_pos (by omega)]
      obtain ⟨v, hv, rfl⟩ : ∃ v : Nat, v < 2 ^ 31 ∧ x2 = nI v := ⟨x2.toInt.toNat, by have := rng_i x2; omega, nI_of' (by omega)⟩
      rw [nI_toInt hv] at k2
      refine ⟨_, _, rfl, ?_, rel_acc (rel_terms (rel_0 h 0) hj (by unfold mx at k2; omega))⟩
      unfold M_terms_B60
      rw [if_neg (by decide), stt_d, a5, qm_change _ (by omega), bs]
      rw [show (ca S 1 12 j, cI (cI (cA S 1 12 j (nI v)) 7 2 0) 0 15 0).1 = ca S 1 12 j from rfl, tt j hj]
      rfl
    · rw [if_neg k2, if_neg (by omega)] at bad
      rw [if_neg k2, if_neg (by omega)]
      exact bad rfl rfl
theorem pa_7 {F : Nat} {E : Nat → ClassId} : ag_7 F E (Rel E) := fun S P σ x h => by
  have hh := h
  obtain ⟨L, C, H, W, h1, h2, h3, h4, h5, ⟨n, hn, b1, b2, b3⟩, h7, h8, h9⟩ := hh
  by_cases k1 : x < 0
  · refine ⟨(-1, S), mI σ 0 0, ?_, ?_, rel_0 h 0⟩
    · unfold C_10_end; rw [if_pos k1]
    · unfold M_end; rw [stt_d, if_pos k1]
  · by_cases k2 : x ≤ nI n
    · refine ⟨(x, cI S 10 1 x), mI (mI σ 0 0) 13 x, ?_, ?_, ?_⟩
      · unfold C_10_end; rw [if_neg k1, b1, if_pos k2, stc_d]
      · unfold M_end; rw [stt_d, if_neg k1, show mi (mI σ 0 0) 13 = nI n from b2, if_pos k2, stt_d]
      · rw [lt_i, i32_0] at k1
        rw [le_i, nI_toInt (by omega)] at k2
        obtain ⟨v, hv, rfl⟩ : ∃ v : Nat, v ≤ 400 ∧ x = nI v := ⟨x.toInt.toNat, by omega, nI_of' (by omega)⟩
        exact ⟨L, C, H, W, h1, h2, h3, h4, h5, ⟨v, hv, rfl, rfl, b3⟩, h7, h8, h9⟩
    · refine ⟨(-1, S), mI σ 0 0, ?_, ?_, rel_0 h 0⟩
      · unfold C_10_end; rw [if_neg k1, b1, if_neg k2]
      · unfold M_end; rw [stt_d, if_neg k1, show mi (mI σ 0 0) 13 = nI n from b2, if_neg k2]
theorem m57i (σ : MS) : mi (mI σ 0 0) 57 = mi σ 57 := rfl
theorem m56i (σ : MS) : mi (mI σ 0 0) 56 = mi σ 56 := rfl
theorem pa_38 {F : Nat} {E : Nat → ClassId} : ag_38 F E (Rel E) := fun S P σ x1 x2 h => by
  have hh := h
  obtain ⟨L, C, H, W, -, -, -, -, -, -, dr, -, -⟩ := hh
  have no : C_10_drawn S x1 x2 = some (-1) → M_drawn σ x1 x2 = some (-1, mI σ 0 0) → ∃ (q : Int32) (σ1 : MS), C_10_drawn S x1 x2 = some q ∧ M_drawn σ x1 x2 = some (q, σ1) ∧ Rel E S P σ1 := fun a b => ⟨-1, _, a, b, rel_0 h 0⟩
  have e2 : (2 : Int32).toInt = 2 := by decide
  have em2 : (-2 : Int32).toInt = -2 := by decide
  have w2 : ∀ x : Int32, M_in x.toInt64 (0 : Int64) ((-1 : Int32).toInt64 - (1 : Int64)) = some 0 := fun x => by
    rw [qm_in32 x 0 (-2) 0 _ rfl (by decide), if_neg]
    rw [le_i, le_i, i32_0, em2]; omega
  by_cases z0 : x2 = 0
  · subst z0
    have eM : M_drawn σ x1 0 = M_drawn_B33 (mI σ 0 0) x1 0 x1.toInt64 0 (mi σ 57) := by
      unfold M_drawn; rw [stt_d, qm_in01, bs, if_neg (by decide), if_pos rfl]; rfl
    rcases dr with ⟨d1, d2, d3, d4⟩ | ⟨L', C', hL, hC, d1, d2, d3, d4, d5, d6⟩
    · refine no ?_ ?_
      · unfold C_10_drawn; rw [if_pos rfl, qc_hasChild (L := 0) (by omega) d4, bs, if_pos (by unfold isAt; rw [if_neg (by omega)])]; rfl
      · rw [eM, d2]; unfold M_drawn_B33; rw [w2, bs, if_pos rfl]
    · have eC : C_7_hasChild S 3 x1 = _ := qc_hasChild hC d3 x1
      by_cases k : isAt x1 C' = 0
      · refine no ?_ ?_
        · unfold C_10_drawn; rw [if_pos rfl, eC, bs, if_pos k]; rfl
        · rw [eM, d4]; unfold M_drawn_B33; rw [sub1L _ (by rw [nI_toInt (by omega)]; omega), qm_inAt x1 C' _ (by omega) rfl, bs, if_pos k]
      · obtain ⟨j, hj, rfl⟩ := isAt_n0 (by omega) k
        refine ⟨ca S 3 7 j, mI σ 0 0, ?_, ?_, rel_0 h 0⟩
        · unfold C_10_drawn; rw [if_pos rfl, eC, bs, if_neg k, chk_in (by omega) (by decide), nI_clamp (by omega)]
        · rw [eM, d4]; unfold M_drawn_B33; rw [sub1L _ (by rw [nI_toInt (by omega)]; omega), qm_inAt _ C' _ (by omega) rfl, bs, if_neg k, if_pos rfl]
          unfold M_drawn_B59
          rw [show (18 : Int32) - 5 + nI j = nI (13 + j) from nI_add 13 j, chk_in (by omega) (by decide), nI_clamp (by omega), d5 j (by omega)]; rfl
  · by_cases z1 : x2 = 1
    · subst z1
      have eM : M_drawn σ x1 1 = M_drawn_B33 (mI σ 0 0) x1 1 x1.toInt64 0 (mi σ 56) := by
        unfold M_drawn; rw [stt_d, qm_in01, bs, if_neg (by decide), if_neg (by decide)]; rfl
      rcases dr with ⟨d1, d2, d3, d4⟩ | ⟨L', C', hL, hC, d1, d2, d3, d4, d5, d6⟩
      · refine no ?_ ?_
        · unfold C_10_drawn; rw [if_neg (by decide)]; unfold C_10_drawn_B25; rw [if_pos rfl, qc_hasLane (L := 0) (by omega) d3, bs, if_pos (by unfold isAt; rw [if_neg (by omega)])]
        · rw [eM, d1]; unfold M_drawn_B33; rw [w2, bs, if_pos rfl]
      · have eC : C_7_hasLane S 3 x1 = _ := qc_hasLane hL d1 x1
        by_cases k : isAt x1 L' = 0
        · refine no ?_ ?_
          · unfold C_10_drawn; rw [if_neg (by decide)]; unfold C_10_drawn_B25; rw [if_pos rfl, eC, bs, if_pos k]
          · rw [eM, d2]; unfold M_drawn_B33; rw [sub1L _ (by rw [nI_toInt (by omega)]; omega), qm_inAt x1 L' _ (by omega) rfl, bs, if_pos k]
        · obtain ⟨j, hj, rfl⟩ := isAt_n0 (by omega) k
          refine ⟨ca S 3 4 j, mI σ 0 0, ?_, ?_, rel_0 h 0⟩
          · unfold C_10_drawn; rw [if_neg (by decide)]; unfold C_10_drawn_B25; rw [if_pos rfl, eC, bs, if_neg k, chk_in (by omega) (by decide), nI_clamp (by omega)]
          · rw [eM, d2]; unfold M_drawn_B33; rw [sub1L _ (by rw [nI_toInt (by omega)]; omega), qm_inAt _ L' _ (by omega) rfl, bs, if_neg k, if_neg (by decide)]
            unfold M_drawn_B59
            rw [show (8 : Int32) - 5 + nI j = nI (3 + j) from nI_add 3 j, chk_in (by omega) (by decide), nI_clamp (by omega), d6 j (by omega)]; rfl
    · refine no ?_ ?_
      · unfold C_10_drawn; rw [if_neg z0]; unfold C_10_drawn_B25; rw [if_neg z1]
      · unfold M_drawn; rw [stt_d, qm_in01, bs]
        have : isAt x2 2 = 0 := by
          unfold isAt; rw [if_neg]
          intro ⟨a, b⟩
          rw [eq_i, i32_0] at z0; rw [eq_i, i32_1] at z1
          omega
        rw [if_pos this]
/-- how many lanes have names -/
def cnt (R : Nat → Int32) : Nat → Nat
  | 0 => 0
  | k + 1 => cnt R k + (if R (8 + k) = -1 then 0 else 1)
theorem cnt_le (R : Nat → Int32) : ∀ k, cnt R k ≤ k
  | 0 => Nat.le_refl _
  | k + 1 => by
    have := cnt_le R k
    unfold cnt; split <;> omega
theorem qm_namedL {F : Nat} {σ : MS} {L : Nat} (hL : L ≤ 10) (h0 : ma σ 3 0 = nI L) : ∀ (k j n : Nat), j + k = L → k < n → M_namedOnes_L4 F σ n (nI (cnt (ma σ 3) j)) (nI j) = some (nI (cnt (ma σ 3) L))
  | 0, j, n + 1, e, _ => by
    rw [M_namedOnes_L4, h0, if_pos (nI_le (by omega) (by omega)), show j = L by omega]
  | k + 1, j, n + 1, e, hn => by
    rw [M_namedOnes_L4, h0, if_neg (nI_ge (by omega) (by omega)), a8, chk_in (by omega) (by decide), nI_clamp (by omega)]
    have ih := qm_namedL (F := F) hL h0 k (j + 1) n (by omega) (by omega)
    unfold M_namedOnes_B33
    rw [show cnt (ma σ 3) (j + 1) = cnt (ma σ 3) j + (if ma σ 3 (8 + j) = -1 then 0 else 1) from rfl] at ih
    split
    · next h => rw [if_pos h, Nat.add_zero, nI_succ] at ih; rw [Int32.add_zero]; exact ih
    · next h => rw [if_neg h, nI_succ, nI_succ] at ih; exact ih
theorem qm_namedOnes {F : Nat} {σ : MS} {L : Nat} (hF : 12 ≤ F) (hL : L ≤ 10) (h0 : ma σ 3 0 = nI L) : M_namedOnes F σ = some (nI (cnt (ma σ 3) L)) := qm_namedL hL h0 L 0 F (by omega) (by omega)
theorem qc_namedL {F : Nat} {S : CS} {o L : Nat} {R : Nat → Int32} (hL : L ≤ 10) (h0 : ci S o 5 = nI L) (hR : ∀ j, j < 10 → ca S o 4 j = R (8 + j)) : ∀ (k j n : Nat), j + k = L → k < n → C_7_namedLanes_L4 F o S n (nI (cnt R j)) (nI j) = some (nI (cnt R L))
  | 0, j, n + 1, e, _ => by
    rw [C_7_namedLanes_L4, h0, if_pos (nI_le (by omega) (by omega)), show j = L by omega]
  | k + 1, j, n + 1, e, hn => by
    rw [C_7_namedLanes_L4, h0, if_neg (nI_ge (by omega) (by omega)), qc_hasLane hL h0, bs, isAt_in (by omega) (by omega), if_neg (by decide), chk_in (by omega) (by decide), nI_clamp (by omega), hR j (by omega)]
    have ih := qc_namedL (F := F) hL h0 hR k (j + 1) n (by omega) (by omega)
    unfold C_7_namedLanes_B33
    rw [show cnt R (j + 1) = cnt R j + (if R (8 + j) = -1 then 0 else 1) from rfl] at ih
    split
    · next h => rw [if_pos h, Nat.add_zero, nI_succ] at ih; exact ih
    · next h => rw [if_neg h, nI_succ, nI_succ] at ih; exact ih
theorem qc_namedLanes {F : Nat} {S : CS} {o L : Nat} {R : Nat → Int32} (hF : 12 ≤ F) (hL : L ≤ 10) (h0 : ci S o 5 = nI L) (hR : ∀ j, j < 10 → ca S o 4 j = R (8 + j)) : C_7_namedLanes F S o = some (nI (cnt R L)) := qc_namedL hL h0 hR L 0 F (by omega) (by omega)
theorem pa_41 {F : Nat} {E : Nat → ClassId} (hF : 12 ≤ F) : ag_41 F E (Rel E) := fun S P σ x h => by
  have hh := h
  obtain ⟨L, C, H, W, ⟨⟨t1, t2, t3, t4, t5⟩, tl, tc, th, tt⟩, ⟨⟨⟨vL, vC, v0, v1⟩, -⟩, -⟩, -, -, ⟨n, g1, g2, g3, -⟩, ⟨m, b0, b1, b2, b3⟩, -, -, ⟨m1, m2, m3, m4, m5⟩⟩ := hh
  have eN : C_7_namedLanes F S 1 = _ := qc_namedLanes (R := ma σ 3) hF vL (t1.trans v0) (fun j hj => (tl j hj).2.2.2.2)
  have eM : M_namedOnes F (mI σ 0 0) = _ := qm_namedOnes (σ := mI σ 0 0) hF vL v0
  by_cases h13 : 13 ≤ x.toInt ∧ x.toInt ≤ 15
  · obtain ⟨j, hj, rfl⟩ : ∃ j : Nat, j < 3 ∧ x = nI (13 + j) := ⟨x.toInt.toNat - 13, by omega, by rw [show 13 + (x.toInt.toNat - 13) = x.toInt.toNat by omega]; exact nI_of' (by omega)⟩
    rcases (by omega : j = 0 ∨ j = 1 ∨ j = 2) with rfl | rfl | rfl
    · exact ⟨ca S 1 12 0, mI σ 0 0, rfl, by rw [tt 0 (by omega)]; rfl, rel_0 h 0⟩
    · exact ⟨ca S 1 12 1, mI σ 0 0, rfl, by rw [tt 1 (by omega)]; rfl, rel_0 h 0⟩
    · exact ⟨ca S 1 12 2, mI σ 0 0, rfl, by rw [tt 2 (by omega)]; rfl, rel_0 h 0⟩
  have q13 : M_in x.toInt64 (13 : Int64) (15 : Int64) = some 0 := by
    rw [qm_in32 x 13 15 13 15 rfl rfl, if_neg]
    rw [le_i, le_i, show (13 : Int32).toInt = 13 by decide, show (15 : Int32).toInt = 15 by decide]; exact h13
  have n13 : ¬ x = 13 := fun e => h13 (by rw [e]; decide)
  have n14 : ¬ x = 14 := fun e => h13 (by rw [e]; decide)
  have n15 : ¬ x = 15 := fun e => h13 (by rw [e]; decide)
  unfold C_10_count M_count
  rw [stt_d, eN, eM, bs, bs, q13, bs, if_neg n13, if_neg n14, if_neg n15, if_pos (rfl : (0 : Int32) = 0), t1, t2, t3, t4, t5, g2, b1, m5 1 (by omega), m5 2 (by omega), m5 3 (by omega), m5 5 (by omega), m5 6 (by omega)]
  rw [show mi (mI σ 0 0) 8 = nI n from g3, show mi (mI σ 0 0) 13 = nI m from b2]
  by_cases e0 : x = 0
  · rw [if_pos e0, if_pos e0]; exact ⟨_, _, rfl, rfl, rel_0 h 0⟩
  rw [if_neg e0, if_neg e0]
  by_cases e1 : x = 1
  · rw [if_pos e1, if_pos e1]; exact ⟨_, _, rfl, rfl, rel_0 h 0⟩
  rw [if_neg e1, if_neg e1]
  by_cases e2 : x = 2
  · rw [if_pos e2, if_pos e2]; exact ⟨_, _, rfl, rfl, rel_0 h 0⟩
  rw [if_neg e2, if_neg e2]
  by_cases e3 : x = 3
  · rw [if_pos e3, if_pos e3]; exact ⟨_, _, rfl, rfl, rel_0 h 0⟩
  rw [if_neg e3, if_neg e3]
  by_cases e4 : x = 4
  · rw [if_pos e4, if_pos e4]; exact ⟨_, _, rfl, rfl, rel_0 h 0⟩
  rw [if_neg e4, if_neg e4]
  by_cases e5 : x = 5
  · rw [if_pos e5, if_pos e5]; exact ⟨_, _, rfl, rfl, rel_0 h 0⟩
  rw [if_neg e5, if_neg e5]
  by_cases e6 : x = 6
  · rw [if_pos e6, if_pos e6]; exact ⟨_, _, rfl, rfl, rel_0 h 0⟩
  rw [if_neg e6, if_neg e6]
  by_cases e7 : x = 7
  · rw [if_pos e7, if_pos e7]; exact ⟨_, _, rfl, rfl, rel_0 h 0⟩
  rw [if_neg e7, if_neg e7]
  by_cases e8 : x = 8
  · rw [if_pos e8, if_pos e8]; exact ⟨_, _, rfl, rfl, rel_0 h 0⟩
  rw [if_neg e8, if_neg e8]
  by_cases e9 : x = 9
  · rw [if_pos e9, if_pos e9]; exact ⟨_, _, rfl, rfl, rel_0 h 0⟩
  rw [if_neg e9, if_neg e9]
  by_cases e10 : x = 10
  · rw [if_pos e10, if_pos e10]; exact ⟨_, _, rfl, rfl, rel_0 h 0⟩
  rw [if_neg e10, if_neg e10]
  by_cases e11 : x = 11
  · rw [if_pos e11, if_pos e11]; exact ⟨_, _, rfl, rfl, rel_0 h 0⟩
  rw [if_neg e11, if_neg e11]
  by_cases e12 : x = 12
  · rw [if_pos e12, if_pos e12]; exact ⟨_, _, rfl, rfl, rel_0 h 0⟩
  rw [if_neg e12, if_neg e12]
  exact ⟨_, _, rfl, rfl, rel_0 h 0⟩
