theorem c4 : (4 : Int32).toNatClampNeg = 4 := by decide
theorem inb_lit {j : Int32} {i N : Nat} (e : j = nI i) (h : i < N) (hN : N < 2 ^ 31) : inb j N = true := by rw [e]; exact inb_nI h hN
theorem qm_change (σ : MS) {k : Nat} (hk : k < 5476) (x : Int32) : M_change σ (nI k) x = some (ma σ 3 k, mI (mF σ 3 (upd (ma σ 3) k x)) 1 0) := by
  unfold M_change
  rw [chk_in hk (by decide), chk_in hk (by decide), stt_d, stt_d, nI_clamp (by omega)]
  rfl
theorem qm_isLaw {σ : MS} {W : Nat} (hW : W ≤ 6) (h : ma σ 3 3 = nI W) (x : Int32) : M_isLaw σ x = some (if x = -1 then 1 else isAt x W) := by
  unfold M_isLaw
  by_cases e : x = -1
  · rw [if_pos e, if_pos e]; rfl
  · rw [if_neg e, if_neg e, h, sub1L _ (by rw [nI_toInt (by omega)]; omega), qm_inAt x W _ (by omega) rfl, bs]
    rcases isAt_01 x W with k | k
    · rw [k, if_pos rfl]
    · rw [k, if_neg (by decide)]; rfl
theorem rel_force {E : Nat → ClassId} {S : CS} {P : va_W} {σ : MS} {W : Nat} {x : Int32} (h : Rel E S P σ) (h0 : ma σ 3 3 = nI W) (hW : W ≤ 6) (hx : x = -1 ∨ ∃ w, w < W ∧ x = nI w) : Rel E (cI S 1 15 x) P (mF σ 3 (upd (ma σ 3) 4 x)) := by
  obtain ⟨L, C, H, W', h1, h2, h3, h4, h5, h6, h7, h8, h9⟩ := h
  have e : W' = W := by
    have := h2.2.2.1.2.1
    rw [h0] at this
    exact ((nI_eq (by omega) (by have := h2.2.2.1.1; omega)).mp this).symm
  subst e
  have far : ∀ i, i ≠ 4 → upd (ma σ 3) 4 x i = ma σ 3 i := fun i hi => by rw [upd_d, if_neg hi]
  have k : ma (mF σ 3 (upd (ma σ 3) 4 x)) 3 = upd (ma σ 3) 4 x := ma_F _ _ _
  refine ⟨L, C, H, W', ?_, ?_, ?_, h4, ?_, h6, h7, h8, h9⟩
  · rw [k]; exact (TW_I x h1).1
  · rw [k]; exact ⟨VA_cg (fun i hi => far i (by omega)) h2.1, VH_cg (far _ (by omega)) (fun i _ _ => far i (by omega)) h2.2.1, ⟨h2.2.2.1.1, by rw [far 3 (by omega)]; exact h0, hx⟩, hO_cg (far 5 (by omega)) h2.2.2.2⟩
  · rw [k]; exact LWS_cg (fun i hi => far i (by omega)) h3
  · rw [k]; exact LG_R (fun i hi => far i (by omega)) h5
theorem pa_14 {F : Nat} {E : Nat → ClassId} : ag_14 F E (Rel E) := fun S P σ x h => by
  have hh := h
  obtain ⟨L, C, H, W, ⟨⟨t1, t2, t3, t4, t5⟩, -⟩, ⟨-, -, ⟨hW, f2, f3⟩, -⟩, -⟩ := hh
  have eL : M_isLaw (mI σ 0 0) x = _ := qm_isLaw (σ := mI σ 0 0) hW f2 x
  have eH : C_7_hasLaw S 1 x = _ := qc_hasLaw hW (t4.trans f2) x
  have good : (x = -1 ∨ ∃ w, w < W ∧ x = nI w) → C_10_force S x = C_10_force_B23 S x → M_isLaw (mI σ 0 0) x = some 1 → ∃ (q : Int32 × CS) (σ1 : MS), C_10_force S x = some q ∧ M_force σ x = some (q.1, σ1) ∧ Rel E q.2 P σ1 := fun a b c => by
    refine ⟨(ma σ 3 4, _), _, ?_, ?_, rel_acc (rel_force (rel_0 h 0) f2 hW a)⟩
    · rw [b]; unfold C_10_force_B23; rw [stc_d, qc_accept, bs, t5]; rfl
    · unfold M_force; rw [stt_d, c, bs, if_neg (by decide), show (4 : Int32) = nI 4 from rfl, qm_change _ (by decide), bs]; rfl
  by_cases e : x = -1
  · refine good (Or.inl e) ?_ (by rw [eL, if_pos e])
    unfold C_10_force; rw [if_pos e]
  · by_cases z : isAt x W = 0
    · obtain ⟨T, τ, r1, r2, r3⟩ := ag_m1 h (-2) 2 (by decide) rfl (by decide)
      refine ⟨(-2, T), τ, ?_, ?_, r3⟩
      · unfold C_10_force; rw [if_neg e, eH, bs, if_pos z, r1, bs]
      · unfold M_force; rw [stt_d, eL, if_neg e, bs, if_pos z, r2, bs]
    · have z1 : isAt x W = 1 := (isAt_01 x W).resolve_left z
      refine good (Or.inr (isAt_n0 (by omega) z)) ?_ (by rw [eL, if_neg e, z1])
      unfold C_10_force; rw [if_neg e, eH, bs, if_neg z]
/-- heard -/
theorem rel_hear {E : Nat → ClassId} {S : CS} {P : va_W} {σ : MS} {H : Nat} {x : Int32} (h : Rel E S P σ) (h0 : ma σ 3 2 = nI H) (hH : H < 6) (hx : ∃ m, m < 20 ∧ x = nI m) : Rel E (cI (cA S 1 10 H x) 1 11 (nI (H + 1))) P (mF σ 3 (upd (upd (ma σ 3) (70 + H) x) 2 (nI (H + 1)))) := by
  obtain ⟨L, C, H', W, h1, h2, h3, h4, h5, h6, h7, h8, h9⟩ := h
  have e : H' = H := by
    have := h2.2.1.2.1
    rw [h0] at this
    exact ((nI_eq (by omega) (by have := h2.2.1.1; omega)).mp this).symm
  subst e
  have far : ∀ i, i ≠ 2 → i ≠ 70 + H' → upd (upd (ma σ 3) (70 + H') x) 2 (nI (H' + 1)) i = ma σ 3 i := fun i hi hj => by rw [upd_d, if_neg hi, upd_d, if_neg hj]
  have k : ma (mF σ 3 (upd (upd (ma σ 3) (70 + H') x) 2 (nI (H' + 1)))) 3 = upd (upd (ma σ 3) (70 + H') x) 2 (nI (H' + 1)) := ma_F _ _ _
  refine ⟨L, C, H' + 1, W, ?_, ?_, ?_, h4, ?_, h6, h7, h8, h9⟩
  · rw [k]
    obtain ⟨⟨t1, t2, t3, t4, t5⟩, tl, tc, th, tt⟩ := h1
    refine ⟨⟨?_, ?_, rfl, ?_, ?_⟩, fun j hj => ?_, fun j hj => ?_, fun j hj => ?_, fun j hj => ?_⟩
    · rw [far _ (by omega) (by omega)]; exact t1
    · rw [far _ (by omega) (by omega)]; exact t2
    · rw [far _ (by omega) (by omega)]; exact t4
    · rw [far _ (by omega) (by omega)]; exact t5
    · simp (disch := omega) only [far]; exact tl j hj
    · simp (disch := omega) only [far]; exact tc j hj
    · show upd (ca S 1 10) H' x j = _
      by_cases e : j = H'
      · simp (disch := omega) only [upd_d, if_neg, if_pos, ite_true]
      · simp (disch := omega) only [upd_d, if_neg, if_pos, ite_true]; exact th j hj
    · simp (disch := omega) only [far]; exact tt j hj
  · rw [k]
    refine ⟨VA_cg (fun i hi => far i (by omega) (by omega)) h2.1, ⟨by omega, rfl, fun j hj => ?_⟩, VF_cg (far 3 (by omega) (by omega)) (far 4 (by omega) (by omega)) h2.2.2.1, hO_cg (far 5 (by omega) (by omega)) h2.2.2.2⟩
    rw [upd_d, if_neg (by omega), upd_d]
    by_cases e : j = H'
    · rw [if_pos (by omega)]; exact hx
    · rw [if_neg (by omega)]; exact h2.2.1.2.2 j (by omega)
  · rw [k]; exact LWS_cg (fun i hi => far i (by omega) (by omega)) h3
  · rw [k]; exact LG_R (fun i hi => far i (by omega) (by omega)) h5
theorem pa_26 {F : Nat} {E : Nat → ClassId} : ag_26 F E (Rel E) := fun S P σ x h => by
  have hh := h
  obtain ⟨L, C, H, W, ⟨⟨t1, t2, t3, t4, t5⟩, -⟩, ⟨-, ⟨hH, w2, w3⟩, -, -⟩, -⟩ := hh
  have e11 : ci S 1 11 = nI H := t3.trans w2
  have k1 : ma (mI σ 0 0) 3 2 = nI H := w2
  by_cases z : isAt x 20 = 0
  · obtain ⟨T, τ, r1, r2, r3⟩ := ag_m1 h (-1) 1 (by decide) rfl (by decide)
    refine ⟨(-1, T), τ, ?_, ?_, r3⟩
    · unfold C_10_hear; rw [qc_isName, bs, if_pos z, r1, bs]
    · unfold M_hear; rw [stt_d, qm_inName, bs, if_pos z, r2, bs]
  · by_cases h6 : H = 6
    · obtain ⟨T, τ, r1, r2, r3⟩ := ag_m1 h (-5) 5 (by decide) rfl (by decide)
      refine ⟨(-5, T), τ, ?_, ?_, r3⟩
      · unfold C_10_hear; rw [qc_isName, bs, if_neg z, e11, if_neg (by rw [h6]; decide), r1, bs]
      · unfold M_hear; rw [stt_d, qm_inName, bs, if_neg z, k1, if_pos (by rw [h6]; rfl), r2, bs]
    · have h6' : H < 6 := by omega
      refine ⟨(nI (H + 1), _), _, ?_, ?_, rel_acc (rel_hear (rel_0 h 0) w2 h6' (isAt_n0 (by decide) z))⟩
      · unfold C_10_hear
        rw [qc_isName, bs, if_neg z, e11, if_pos (show _ < (6 : Int32) from nI_lt (b := 6) h6' (by decide)), chk_in h6' (by decide), stc_d, nI_clamp (by omega)]
        have e12 : ci (cA S 1 10 H x) 1 11 = nI H := e11
        rw [e12, ← nI_succ, stc_d, qc_accept, bs]
        rfl
      · unfold M_hear
        rw [stt_d, qm_inName, bs, if_neg z, k1, if_neg (show ¬ nI H = (6 : Int32) from fun e => h6 ((nI_eq (a := H) (b := 6) (by omega) (by decide)).mp e)), a70, chk_in (by omega) (by decide), stt_d, nI_clamp (by omega)]
        have e12 : ma (mA (mI σ 0 0) 3 (70 + H) x) 3 2 = nI H := by
          show upd (ma σ 3) (70 + H) x 2 = _
          rw [upd_d, if_neg (by omega)]; exact w2
        rw [e12, stt_d, ← nI_succ, qm_tell0 _ (by omega), bs, mA_F, mA_F, mF_mF, ma_F]
theorem pa_27 {F : Nat} {E : Nat → ClassId} : ag_27 F E (Rel E) := fun S P σ h => by
  have hh := h
  obtain ⟨L, C, H, W, h1, h2, h3, h4, h5, h6, h7, h8, h9⟩ := rel_0 h 0
  refine ⟨(ma σ 3 2, cI S 1 11 0), mF (mI σ 0 0) 3 (upd (ma σ 3) 2 0), ?_, rfl, ?_⟩
  · unfold C_10_forget; rw [stc_d, show ci S 1 11 = ma σ 3 2 from h1.1.2.2.1]
  · have far : ∀ i, i ≠ 2 → upd (ma σ 3) 2 0 i = ma σ 3 i := fun i hi => by rw [upd_d, if_neg hi]
    have k : ma (mF (mI σ 0 0) 3 (upd (ma σ 3) 2 0)) 3 = upd (ma σ 3) 2 0 := ma_F _ _ _
    refine ⟨L, C, 0, W, ?_, ?_, ?_, h4, ?_, h6, h7, h8, h9⟩
    · rw [k]; exact (TW_I 0 h1).2
    · rw [k]; exact ⟨VA_cg (fun i hi => far i (by omega)) h2.1, ⟨by omega, rfl, fun j hj => by omega⟩, VF_cg (far 3 (by omega)) (far 4 (by omega)) h2.2.2.1, hO_cg (far 5 (by omega)) h2.2.2.2⟩
    · rw [k]; exact LWS_cg (fun i hi => far i (by omega)) h3
    · rw [k]; exact LG_R (fun i hi => far i (by omega)) h5
/-- terms -/
theorem rel_terms {E : Nat → ClassId} {S : CS} {P : va_W} {σ : MS} {j v : Nat} (h : Rel E S P σ) (hj : j < 3) (hv : v ≤ (if j = 0 then 999 else if j = 1 then 10 else 9)) : Rel E (cI (cA S 1 12 j (nI v)) 7 2 0) P (mF (mI σ 8 0) 3 (upd (ma σ 3) (5 + j) (nI v))) := by
  obtain ⟨L, C, H, W, h1, h2, h3, h4, h5, h6, h7, h8, h9⟩ := h
  have far : ∀ i, i ≠ 5 + j → upd (ma σ 3) (5 + j) (nI v) i = ma σ 3 i := fun i hi => by rw [upd_d, if_neg hi]
  have k : ma (mF (mI σ 8 0) 3 (upd (ma σ 3) (5 + j) (nI v))) 3 = upd (ma σ 3) (5 + j) (nI v) := ma_F _ _ _
  refine ⟨L, C, H, W, ?_, ?_, ?_, h4, LG_0, h6, h7, h8, h9⟩
  · rw [k]
    obtain ⟨⟨t1, t2, t3, t4, t5⟩, tl, tc, th, tt⟩ := h1
    refine ⟨⟨?_, ?_, ?_, ?_, ?_⟩, fun i hi => ?_, fun i hi => ?_, fun i hi => ?_, fun i hi => ?_⟩
    · rw [far _ (by omega)]; exact t1
    · rw [far _ (by omega)]; exact t2
    · rw [far _ (by omega)]; exact t3
    · rw [far _ (by omega)]; exact t4
    · rw [far _ (by omega)]; exact t5
    · simp (disch := omega) only [far]; exact tl i hi
    · simp (disch := omega) only [far]; exact tc i hi
    · simp (disch := omega) only [far]; exact th i hi
    · show upd (ca S 1 12) j (nI v) i = _
      by_cases e : i = j
      · simp (disch := omega) only [upd_d, if_neg, if_pos, ite_true]
      · simp (disch := omega) only [upd_d, if_neg, if_pos, ite_true]; exact tt i hi
  · rw [k]
    obtain ⟨⟨v0, vl, vc, vh, vq, vm⟩, VH_, VF_, hO⟩ := h2
    have g5 : ∃ h, h ≤ 999 ∧ upd (ma σ 3) (5 + j) (nI v) 5 = nI h := by
      rw [upd_d]
      by_cases e : j = 0
      · rw [if_pos (by omega)]; rw [if_pos e] at hv; exact ⟨v, hv, rfl⟩
      · rw [if_neg (by omega)]; exact hO
    have g6 : ∃ h, h ≤ 10 ∧ upd (ma σ 3) (5 + j) (nI v) 6 = nI h := by
      rw [upd_d]
      by_cases e : j = 1
      · rw [if_pos (by omega)]; rw [if_neg (by omega), if_pos e] at hv; exact ⟨v, hv, rfl⟩
      · rw [if_neg (by omega)]; exact vq
    have g7 : ∃ h, h ≤ 9 ∧ upd (ma σ 3) (5 + j) (nI v) 7 = nI h := by
      rw [upd_d]
      by_cases e : j = 2
      · rw [if_pos (by omega)]; rw [if_neg (by omega), if_neg (by omega)] at hv; exact ⟨v, hv, rfl⟩
      · rw [if_neg (by omega)]; exact vm
    refine ⟨⟨?_, fun i hi => ?_, fun c hc => ?_, ?_, g6, g7⟩, VH_cg (far _ (by omega)) (fun i _ _ => far i (by omega)) VH_, VF_cg (far 3 (by omega)) (far 4 (by omega)) VF_, g5⟩
    · rw [far 0 (by omega), far 1 (by omega)]; exact v0
    · have := v0.1; exact VL_cg (far _ (by omega)) (far _ (by omega)) (far _ (by omega)) (far _ (by omega)) (far _ (by omega)) (vl i hi)
    · have := v0.2.1; exact VC_cg (Nat.le_refl _) (far _ (by omega)) (far _ (by omega)) (far _ (by omega)) (vc c hc)
    · obtain ⟨a, b, c⟩ := g5; exact ⟨a, by omega, c⟩
  · rw [k]; exact LWS_cg (fun i hi => far i (by omega)) h3
