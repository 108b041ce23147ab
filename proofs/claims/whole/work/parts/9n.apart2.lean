/-- one try -/
theorem tryN {F L C M : Nat} {S : CS} {σ : MS} (hF : 100000000000 ≤ F) (va : VA (ma σ 3) L C) (tw : TW (ci S 1) (ca S 1) (ma σ 3)) (hM : M ≤ 10) (f g : Nat → Int32) : (∃ f' g', C_2_paintD F 12 (cF S 14 0 f) 1 0 0 (nI M) = some (1, cF S 14 0 f') ∧ M_findNames F (mF σ 45 g) (nI M) = some (1, mF σ 45 g') ∧ ∀ i, i < L → f' i = g' i) ∨ (∃ f' g', C_2_paintD F 12 (cF S 14 0 f) 1 0 0 (nI M) = some (0, cF S 14 0 f') ∧ M_findNames F (mF σ 45 g) (nI M) = some (0, mF σ 45 g') ∧ M < L) := by
  have hL := va.1.1
  have hT := tS_10 L hL
  have h := nmP (F := F) (L := L) (M := M) (S := S) (σ := σ) (by omega) va tw hM L 0 12 f (upd g 0 (-1)) (fun _ => 0) F (by omega) (by omega) ⟨fun i hi => by omega, Nat.le_refl _⟩ pk_us (by omega)
  have e : M_findNames F (mF σ 45 g) (nI M) = M_findNames_L16 F (nI M) (nI L) F (mF σ 45 (upd g 0 (-1))) (nI 0) := by
    unfold M_findNames
    rw [stt_d, mA_45, show ma (mF σ 45 g) 3 0 = nI L from va.1.2.2.1]; rfl
  rw [e]
  rcases h with ⟨f', g', a1, a2, a3⟩ | ⟨f', g', n', a1, a2, a3, a4, a5, a6⟩
  · exact Or.inl ⟨f', g', a1, a2, a3⟩
  · obtain ⟨n', rfl⟩ : ∃ x, n' = x + 1 := ⟨n' - 1, by omega⟩
    refine Or.inr ⟨f', g', a1, a2.trans ?_, a6⟩
    rw [show nI 0 + (-1 : Int32) = -1 by decide, M_findNames_L16, if_pos (by decide)]
    unfold M_findNames_B86
    rw [if_neg (fun q => nI_m1 (show L < 2 ^ 31 by omega) q.symm)]
theorem tlaL {F L C : Nat} {S : CS} {σ : MS} {x1 : Int32} (hF : 100000000000 ≤ F) (va : VA (ma σ 3) L C) (tw : TW (ci S 1) (ca S 1) (ma σ 3)) : ∀ (t M fC fM : Nat) (f g : Nat → Int32), M + t = 10 → t < fC → t < fM → ∃ f' g' v, C_2_tellApart_L2 F 1 fC (cF S 14 0 f) (nI M) = some (v, cF S 14 0 f') ∧ M_apart_L25 F x1 fM (mF σ 45 g) (nI M) = (if x1 = 0 then some (v, mF σ 45 g') else chk (inb (x1 - (1 : Int32)) 11 = true) (some (g' (x1 - (1 : Int32)).toNatClampNeg, mF σ 45 g'))) ∧ ∀ i, i < L → f' i = g' i
  | 0, M, fC + 1, fM + 1, f, g, e, _, _ => by
    obtain rfl : M = 10 := by omega
    have hL := va.1.1
    rw [C_2_tellApart_L2, if_pos (by decide), M_apart_L25]
    rcases tryN hF va tw (show 10 ≤ 10 by omega) f g with ⟨f', g', a1, a2, a3⟩ | ⟨f', g', a1, a2, a3⟩
    · have a1' : C_2_paintD F 12 (cF S 14 0 f) 1 0 0 10 = some (1, cF S 14 0 f') := a1
      rw [a1', bs, a2, bs, if_neg (show ¬ (1 : Int32) = 0 by decide)]
      refine ⟨f', g', nI 10, rfl, ?_, a3⟩
      show (if x1 = 0 then some (nI 10, mF σ 45 g') else chk (inb (x1 - (1 : Int32)) 11 = true) (some (ma (mF σ 45 g') 45 (x1 - (1 : Int32)).toNatClampNeg, mF σ 45 g'))) = _
      rw [ma_45]
    · omega
  | t + 1, M, fC + 1, fM + 1, f, g, e, h1, h2 => by
    have hL := va.1.1
    rw [C_2_tellApart_L2, if_neg (show ¬ (10 : Int32) ≤ nI M from nI_ge (b := 10) (by omega) (by decide)), M_apart_L25]
    rcases tryN hF va tw (show M ≤ 10 by omega) f g with ⟨f', g', a1, a2, a3⟩ | ⟨f', g', a1, a2, a3⟩
    · rw [a1, bs, a2, bs, if_neg (show ¬ (1 : Int32) = 0 by decide), if_neg (show ¬ (1 : Int32) = 0 by decide)]
      refine ⟨f', g', nI M, rfl, ?_, a3⟩
      show (if x1 = 0 then some (nI M, mF σ 45 g') else chk (inb (x1 - (1 : Int32)) 11 = true) (some (ma (mF σ 45 g') 45 (x1 - (1 : Int32)).toNatClampNeg, mF σ 45 g'))) = _
      rw [ma_45]
    · rw [a1, bs, a2, bs, if_pos rfl, if_pos rfl, ← nI_succ]
      exact tlaL hF va tw t (M + 1) fC fM f' g' (by omega) (by omega) (by omega)
theorem km_45 (σ : MS) (f : Nat → Int32) : KM σ (mF σ 45 f) := ⟨⟨rfl, rfl, rfl, rfl, fun _ _ => rfl, rfl, rfl, rfl⟩, ⟨rfl, rfl, rfl, rfl, rfl, rfl, rfl, rfl, rfl⟩, rfl, rfl, rfl, rfl⟩
theorem pa_31 {F : Nat} {E : Nat → ClassId} (hF : 100000000000 ≤ F) : ag_31 F E (Rel E) := fun S P σ x1 h => by
  have hh := h
  obtain ⟨L, C, H, W, t, vr, -⟩ := hh
  have hL := vr.1.1.1
  obtain ⟨f', g', v, a1, a2, a3⟩ := tlaL (F := F) (S := S) (σ := mI σ 0 0) (x1 := x1) hF vr.1 t 10 0 F F (ca S 14 0) (ma (mI σ 0 0) 45) (by omega) (by omega) (by omega)
  rw [cF_self] at a1
  rw [mF_self] at a2
  have a1' : C_2_tellApart F S 1 = some (v, cF S 14 0 f') := a1
  have a2' : M_apart_L25 F x1 F (mI σ 0 0) 0 = _ := a2
  have k : Rel E (cF S 14 0 f') P (mF (mI σ 0 0) 45 g') := rel_KM (rel_KC (rel_0 h 0) (kc_14 _ _ _)) (km_45 _ _)
  have e0 : ma (mI σ 0 0) 3 0 = nI L := vr.1.1.2.2.1
  unfold C_10_apart M_apart C_10_apart_B19
  rw [stt_d, e0, qm_in32 x1 0 (nI L) 0 _ rfl rfl, bs, qc_hasLane hL (t.1.1.trans e0), bs, a1', bs, a2']
  have eL : (nI L).toInt = L := nI_toInt (by omega)
  by_cases z : x1 = 0
  · have c : (0 : Int32) ≤ x1 ∧ x1 ≤ nI L := by
      rw [z]; exact ⟨by decide, nI_le (a := 0) (Nat.zero_le _) (by omega)⟩
    rw [if_pos z, if_pos z, if_pos c, if_neg (show ¬ (1 : Int32) = 0 by decide), if_pos z]
    exact ⟨_, _, rfl, rfl, k⟩
  rw [if_neg z, if_neg z, if_neg z]
  have hr := rng_i x1
  have nz : x1.toInt ≠ 0 := fun q => z ((eq_i _ _).mpr (by rw [q, i32_0]))
  by_cases c : (0 : Int32) ≤ x1 ∧ x1 ≤ nI L
  · have c' := c
    rw [le_i, le_i, eL, i32_0] at c'
    obtain ⟨i, hi, rfl⟩ : ∃ i : Nat, i < L ∧ x1 = nI (i + 1) := ⟨x1.toInt.toNat - 1, by omega, by rw [show x1.toInt.toNat - 1 + 1 = x1.toInt.toNat by omega]; exact nI_of' c'.1⟩
    rw [if_pos c, if_neg (show ¬ (1 : Int32) = 0 by decide), nI_pred, isAt_in hi (by omega), if_neg (show ¬ (1 : Int32) = 0 by decide), chk_in (show i < 10 by omega) (by decide), chk_in (show i < 11 by omega) (by decide), nI_clamp (by omega)]
    refine ⟨_, _, rfl, ?_, k⟩
    show some (g' i, _) = some (ca (cF S 14 0 f') 14 0 i, _)
    rw [ca_cF, a3 i hi]
  · have hz : isAt (x1 - 1) L = 0 := by
      rcases isAt_01 (x1 - 1) L with q | q
      · exact q
      · exfalso
        obtain ⟨i, hi, ei⟩ := isAt_n0 (x := x1 - 1) (n := L) (by omega) (by rw [q]; decide)
        apply c
        have ex : x1 = nI (i + 1) := by
          rw [nI_succ, ← ei, Int32.sub_add_cancel]
        rw [ex]
        exact ⟨nI_le (a := 0) (Nat.zero_le _) (by omega), nI_le (by omega) (by omega)⟩
    rw [if_neg c, if_pos rfl, hz, if_pos rfl]
    exact ⟨_, _, rfl, rfl, rel_0 h 0⟩
