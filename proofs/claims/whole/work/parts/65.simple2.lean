/-- a child more -/
def addC (R : Nat → Int32) (n : Nat) (x1 x2 : Int32) : Nat → Int32 := upd (upd (upd (upd R (66 + n) x1) (18 + n) x2) (22 + n) (-1)) 1 (nI (n + 1))
theorem addC_at (R : Nat → Int32) (n : Nat) (x1 x2 : Int32) (i : Nat) : addC R n x1 x2 i = if i = 1 then nI (n + 1) else if i = 22 + n then -1 else if i = 18 + n then x2 else if i = 66 + n then x1 else R i := by
  unfold addC; simp only [upd_d]
theorem TW_child {I : Nat → Int32} {A : Nat → Nat → Int32} {R : Nat → Int32} {n : Nat} {x1 x2 : Int32} (hn : n < 4) (h : TW I A R) : TW (upd I 9 (nI (n + 1))) (va_up (va_up (va_up A 6 (upd (A 6) n x1)) 7 (upd (A 7) n x2)) 8 (upd (A 8) n (-1))) (addC R n x1 x2) := by
  obtain ⟨⟨t1, t2, t3, t4, t5⟩, tl, tc, th, tt⟩ := h
  refine ⟨⟨?_, ?_, ?_, ?_, ?_⟩, fun j hj => ?_, fun j hj => ?_, fun j hj => ?_, fun j hj => ?_⟩
  · simp (disch := omega) only [addC_at, if_neg]; exact t1
  · rfl
  · simp (disch := omega) only [addC_at, if_neg]; exact t3
  · simp (disch := omega) only [addC_at, if_neg]; exact t4
  · simp (disch := omega) only [addC_at, if_neg]; exact t5
  · simp (disch := omega) only [addC_at, if_neg]; exact tl j hj
  · obtain ⟨l0, l1, l2⟩ := tc j hj
    refine ⟨?_, ?_, ?_⟩
    · show upd (A 6) n x1 j = _
      rw [upd_d, l0]
      by_cases e : j = n
      · simp (disch := omega) only [addC_at, if_neg, if_pos, ite_true]
      · simp (disch := omega) only [addC_at, if_neg, if_pos, ite_true]
    · show upd (A 7) n x2 j = _
      rw [upd_d, l1]
      by_cases e : j = n
      · simp (disch := omega) only [addC_at, if_neg, if_pos, ite_true]
      · simp (disch := omega) only [addC_at, if_neg, if_pos, ite_true]
    · show upd (A 8) n (-1) j = _
      rw [upd_d, l2]
      by_cases e : j = n
      · simp (disch := omega) only [addC_at, if_neg, if_pos, ite_true]
      · simp (disch := omega) only [addC_at, if_neg, if_pos, ite_true]
  · simp (disch := omega) only [addC_at, if_neg]; exact th j hj
  · simp (disch := omega) only [addC_at, if_neg]; exact tt j hj
theorem VR_child {R : Nat → Int32} {L C H W : Nat} {x1 x2 : Int32} (hn : C < 4) (o1 : 1 ≤ x1.toInt ∧ x1.toInt ≤ 9) (o2 : ¬ isAt x2 8 = 0) (h : VR R L C H W) : VR (addC R C x1 x2) L (C + 1) H W := by
  obtain ⟨⟨⟨vL, vC, v0, v1⟩, vl, vc, vh, vq, vm⟩, ⟨w1, w2, w3⟩, ⟨f1, f2, f3⟩, hO⟩ := h
  have far : ∀ i, i ≠ 1 → i ≠ 22 + C → i ≠ 18 + C → i ≠ 66 + C → addC R C x1 x2 i = R i := fun i a b c d => by
    rw [addC_at, if_neg a, if_neg b, if_neg c, if_neg d]
  refine ⟨⟨⟨vL, by omega, by rw [far] <;> first | exact v0 | omega, rfl⟩, fun j hj => ?_, fun c hc => ?_, ?_, ?_, ?_⟩, ⟨w1, ?_, fun j hj => ?_⟩, ⟨f1, ?_, ?_⟩, ?_⟩
  · exact VL_cg (far _ (by omega) (by omega) (by omega) (by omega)) (far _ (by omega) (by omega) (by omega) (by omega)) (far _ (by omega) (by omega) (by omega) (by omega)) (far _ (by omega) (by omega) (by omega) (by omega)) (far _ (by omega) (by omega) (by omega) (by omega)) (vl j hj)
  · by_cases e : c = C
    · subst e
      obtain ⟨b, hb, eb⟩ := isAt_n0 (by decide) o2
      have k1 : addC R c x1 x2 (66 + c) = x1 := by simp (disch := omega) only [addC_at, if_neg, if_pos, ite_true]
      have k2 : addC R c x1 x2 (18 + c) = x2 := by simp (disch := omega) only [addC_at, if_neg, if_pos, ite_true]
      have k3 : addC R c x1 x2 (22 + c) = -1 := by simp (disch := omega) only [addC_at, if_neg, if_pos, ite_true]
      unfold VC
      rw [k1, k2, k3]
      exact ⟨⟨x1.toInt.toNat, by omega, nI_of' (by omega)⟩, ⟨b, hb, eb⟩, Or.inl rfl⟩
    · exact VC_cg (Nat.le_refl _) (far _ (by omega) (by omega) (by omega) (by omega)) (far _ (by omega) (by omega) (by omega) (by omega)) (far _ (by omega) (by omega) (by omega) (by omega)) (vc c (by omega))
  · rw [far _ (by omega) (by omega) (by omega) (by omega)]; exact vh
  · rw [far _ (by omega) (by omega) (by omega) (by omega)]; exact vq
  · rw [far _ (by omega) (by omega) (by omega) (by omega)]; exact vm
  · rw [far _ (by omega) (by omega) (by omega) (by omega)]; exact w2
  · rw [far _ (by omega) (by omega) (by omega) (by omega)]; exact w3 j hj
  · rw [far _ (by omega) (by omega) (by omega) (by omega)]; exact f2
  · rw [far _ (by omega) (by omega) (by omega) (by omega)]; exact f3
  · unfold hourOK; rw [far _ (by omega) (by omega) (by omega) (by omega)]; exact hO
theorem qc_addChild (S : CS) {n : Nat} (hn : n < 4) (h : ci S 1 9 = nI n) (x1 x2 : Int32) : C_7_addChild S 1 x1 x2 = some (nI n, cO S 1 (upd (ci S 1) 9 (nI (n + 1))) (va_up (va_up (va_up (ca S 1) 6 (upd (ca S 1 6) n x1)) 7 (upd (ca S 1 7) n x2)) 8 (upd (ca S 1 8) n (-1)))) := by
  unfold C_7_addChild
  rw [if_pos (by rw [h]; exact nI_lt (b := 4) hn (by decide))]
  simp (disch := omega) only [cA_O, cO_O, ci_O, ca_O, cI_O, stc_d, h, chk_in, nI_clamp]
  have e : upd (ci S 1) 9 (nI n + 1) 9 - 1 = nI n := by
    rw [pk_us, ← nI_succ, nI_pred]
  rw [e, ← nI_succ]
  rfl
theorem rel_child {E : Nat → ClassId} {S : CS} {P : va_W} {σ : MS} {C : Nat} {x1 x2 : Int32} (h : Rel E S P σ) (hL : C < 4) (h0 : ma σ 3 1 = nI C) (o1 : 1 ≤ x1.toInt ∧ x1.toInt ≤ 9) (o2 : ¬ isAt x2 8 = 0) : Rel E (cO (cI S 7 2 0) 1 (upd (ci S 1) 9 (nI (C + 1))) (va_up (va_up (va_up (ca S 1) 6 (upd (ca S 1 6) C x1)) 7 (upd (ca S 1 7) C x2)) 8 (upd (ca S 1 8) C (-1)))) P (mI (mF σ 3 (addC (ma σ 3) C x1 x2)) 8 0) := by
  obtain ⟨L, C', H, W, h1, h2, h3, h4, h5, h6, h7, h8, h9⟩ := h
  have e : C' = C := by
    have := h2.1.1.2.2.2
    rw [h0] at this
    exact ((nI_eq (by omega) (by have := h2.1.1.2.1; omega)).mp this).symm
  subst e
  exact ⟨L, C' + 1, H, W, TW_child hL h1, VR_child hL o1 o2 h2, LWS_cg (fun i hi => by rw [show ma (mI (mF σ 3 (addC (ma σ 3) C' x1 x2)) 8 0) 3 = addC (ma σ 3) C' x1 x2 from ma_F _ _ _]; simp (disch := omega) only [addC_at, if_neg]) h3, h4, LG_0, h6, h7, h8, h9⟩
/-- refused by -1 -/
theorem ag_m1 {E : Nat → ClassId} {S : CS} {P : va_W} {σ : MS} (h : Rel E S P σ) (v : Int32) (k : Nat) (h1 : v < 0) (h2 : -v = nI k) (h3 : k < 7) : ∃ T τ, C_10_refuse S v = some (v, T) ∧ M_tell (mI σ 0 0) v = some (v, τ) ∧ Rel E T P τ := ⟨_, _, qc_refuse S v k h2 h3, qm_tellN (mI σ 0 0) v k h1 h2 h3, rel_ref (rel_0 h 0) v k h3⟩
theorem pa_2 {F : Nat} {E : Nat → ClassId} : ag_2 F E (Rel E) := fun S P σ x1 x2 h => by
  have hh := h
  obtain ⟨L, C, H, W, ⟨⟨t1, t2, t3, t4, t5⟩, -⟩, ⟨⟨⟨vL, vC, v0, v1⟩, -⟩, -⟩, -⟩ := hh
  have e9 : ci S 1 9 = nI C := t2.trans v1
  obtain ⟨T, τ, r1, r2, r3⟩ := ag_m1 h (-1) 1 (by decide) rfl (by decide)
  have bad : (C_10_child S x1 x2 = C_10_child_B18 S) → (M_child σ x1 x2 = M_child_B24 (mI σ 0 0)) → ∃ (q : Int32 × CS) (σ1 : MS), C_10_child S x1 x2 = some q ∧ M_child σ x1 x2 = some (q.1, σ1) ∧ Rel E q.2 P σ1 := fun a b => by
    refine ⟨(-1, T), τ, ?_, ?_, r3⟩
    · rw [a]; unfold C_10_child_B18; rw [r1, bs]
    · rw [b]; unfold M_child_B24; rw [r2, bs]
  have eM := (rfl : M_child σ x1 x2 = M_child σ x1 x2)
  conv at eM => rhs; unfold M_child
  rw [stt_d, qm_in19, bs] at eM
  have eC := (rfl : C_10_child S x1 x2 = C_10_child S x1 x2)
  conv at eC => rhs; unfold C_10_child
  simp only [lt_i, i32_1, i32_9] at eC
  by_cases o1 : 1 ≤ x1.toInt ∧ x1.toInt ≤ 9
  · rw [if_pos o1, if_neg (by decide), qm_isCorner, bs] at eM
    rw [if_neg (by omega), if_neg (by omega), qc_isCorner, bs] at eC
    by_cases o2 : isAt x2 8 = 0
    · rw [if_pos o2] at eM eC
      exact bad eC eM
    · rw [if_neg o2] at eM eC
      by_cases h4 : C = 4
      · subst h4
        obtain ⟨T, τ, r1, r2, r3⟩ := ag_m1 h (-5) 5 (by decide) rfl (by decide)
        refine ⟨(-5, T), τ, ?_, ?_, r3⟩
        · rw [eC, e9, if_neg (by decide), r1, bs]
        · rw [eM, show ma (mI σ 0 0) 3 1 = nI 4 from v1, if_pos (show nI 4 = (4 : Int32) from rfl), r2, bs]
      · have h4' : C < 4 := by omega
        refine ⟨(nI C, _), _, ?_, ?_, rel_acc (rel_child (rel_0 h 0) h4' v1 o1 o2)⟩
        · rw [eC, e9]
          rw [if_pos (show (nI C).toInt < (4 : Int32).toInt from (lt_i _ _).mp (nI_lt (b := 4) h4' (by decide))), stc_d, qc_addChild (cI S 7 2 0) h4' e9, bs, qc_accept, bs]; rfl
        · have k1 : ma (mI σ 0 0) 3 1 = nI C := v1
          rw [eM, k1, if_neg (show ¬ nI C = (4 : Int32) from fun e => h4 ((nI_eq (a := C) (b := 4) (by omega) (by decide)).mp e))]
          simp (disch := omega) only [a66, a18, a22, chk_in, nI_clamp, stt_d, mA_F, ma_F, mF_mF]
          have e1 : upd (upd (upd (ma (mI σ 0 0) 3) (66 + C) x1) (18 + C) x2) (22 + C) (-1) 1 = nI C := by
            simp (disch := omega) only [upd_d, if_neg]; exact k1
          rw [e1, ← nI_succ, qm_last0 _ (by omega), bs]
          rfl
  · rw [if_neg o1, if_pos rfl] at eM
    by_cases o2 : x1.toInt < 1
    · rw [if_pos o2] at eC
      exact bad eC eM
    · rw [if_neg o2, if_pos (by omega)] at eC
      exact bad eC eM
/-- one head's cell anew -/
theorem TW_I {I : Nat → Int32} {A : Nat → Nat → Int32} {R : Nat → Int32} (v : Int32) (h : TW I A R) : TW (upd I 15 v) A (upd R 4 v) ∧ TW (upd I 11 v) A (upd R 2 v) := by
  obtain ⟨⟨t1, t2, t3, t4, t5⟩, tl, tc, th, tt⟩ := h
  constructor
  · refine ⟨⟨t1, t2, t3, t4, rfl⟩, fun j hj => ?_, fun j hj => ?_, fun j hj => ?_, fun j hj => ?_⟩
    · simp (disch := omega) only [upd_d, if_neg]; exact tl j hj
    · simp (disch := omega) only [upd_d, if_neg]; exact tc j hj
    · simp (disch := omega) only [upd_d, if_neg]; exact th j hj
    · simp (disch := omega) only [upd_d, if_neg]; exact tt j hj
  · refine ⟨⟨t1, t2, rfl, t4, t5⟩, fun j hj => ?_, fun j hj => ?_, fun j hj => ?_, fun j hj => ?_⟩
    · simp (disch := omega) only [upd_d, if_neg]; exact tl j hj
    · simp (disch := omega) only [upd_d, if_neg]; exact tc j hj
    · simp (disch := omega) only [upd_d, if_neg]; exact th j hj
    · simp (disch := omega) only [upd_d, if_neg]; exact tt j hj
/-- rows valid alike -/
theorem VA_cg {R R' : Nat → Int32} {L C : Nat} (h : ∀ i, i < 2 ∨ (5 ≤ i ∧ i < 70) → R' i = R i) (k : VA R L C) : VA R' L C := by
  obtain ⟨⟨vL, vC, v0, v1⟩, vl, vc, vh, vq, vm⟩ := k
  refine ⟨⟨vL, vC, by rw [h 0 (by omega)]; exact v0, by rw [h 1 (by omega)]; exact v1⟩, fun j hj => VL_cg (h _ (by omega)) (h _ (by omega)) (h _ (by omega)) (h _ (by omega)) (h _ (by omega)) (vl j hj), fun c hc => VC_cg (Nat.le_refl _) (h _ (by omega)) (h _ (by omega)) (h _ (by omega)) (vc c hc), by rw [h 5 (by omega)]; exact vh, by rw [h 6 (by omega)]; exact vq, by rw [h 7 (by omega)]; exact vm⟩
theorem VH_cg {R R' : Nat → Int32} {H : Nat} (h2 : R' 2 = R 2) (h : ∀ i, 70 ≤ i → i < 76 → R' i = R i) (k : VH R H) : VH R' H := by
  obtain ⟨w1, w2, w3⟩ := k
  exact ⟨w1, by rw [h2]; exact w2, fun j hj => by rw [h _ (by omega) (by omega)]; exact w3 j hj⟩
theorem VF_cg {R R' : Nat → Int32} {W : Nat} (h3 : R' 3 = R 3) (h4 : R' 4 = R 4) (k : VF R W) : VF R' W := by
  unfold VF at k ⊢; rw [h3, h4]; exact k
theorem hO_cg {R R' : Nat → Int32} (h : R' 5 = R 5) (k : hourOK R) : hourOK R' := by
  unfold hourOK at k ⊢; rw [h]; exact k
/-- the log over another row: what isn't kept of it is the same -/
theorem LG_R {r U s R R' : Nat → Int32} {x y : Int32} {L C : Nat} (h : ∀ i, i < 2 ∨ (6 ≤ i ∧ i < 8) ∨ (26 ≤ i ∧ i < 70) → R' i = R i) (k : LG r U s R x y L C) : LG r U s R' x y L C := by
  obtain ⟨n, h1, h2, h3, h4⟩ := k
  refine ⟨n, h1, h2, h3, fun k hk => ?_⟩
  obtain ⟨a1, a2, a3, a4, a5, a6, a7, a8⟩ := h4 k hk
  refine ⟨a1, a2, a3, a4, by rw [h 6 (by omega)]; exact a5, by rw [h 7 (by omega)]; exact a6, VA_cg (fun i hi => ?_) a7, hO_cg rfl a8⟩
  unfold snap
  by_cases e : 5 ≤ i ∧ i < 26
  · rw [if_pos e, if_pos e]
  · rw [if_neg e, if_neg e, h i (by omega)]
