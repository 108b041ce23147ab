/-- rows alike but for their heads -/
theorem lwR_cg {R R' : Nat → Int32} (h : ∀ i, 76 ≤ i → R' i = R i) (w : Nat) : lwR R' w = lwR R w := by
  funext i; unfold lwR; split
  · rw [h _ (by omega)]
  · rfl
theorem LWS_cg {E : Nat → ClassId} {Z : Nat → Prop} {P : va_W} {Q : Nat → Option Nat} {R R' : Nat → Int32} {W : Nat} (h : ∀ i, 76 ≤ i → R' i = R i) (k : LWS E Z P Q R W) : LWS E Z P Q R' W := ⟨fun w hw => by rw [lwR_cg h]; exact k.1 w hw, k.2⟩
theorem nI_of' {x : Int32} (h : 0 ≤ x.toInt) : x = nI x.toInt.toNat := by
  have := rng_i x
  rw [eq_i, nI_toInt (by omega)]; omega
theorem upd_self (f : Nat → Int32) (k : Nat) : upd f k (f k) = f := by
  funext j; rw [upd_d]; split
  · next h => rw [h]
  · rfl
theorem mI_self (σ : MS) (k : Nat) : mI σ k (mi σ k) = σ := by
  unfold mI; rw [upd_self]
theorem qm_lastN (σ : MS) (v : Int32) (k : Nat) (h1 : v < 0) (h2 : -v = nI k) (h3 : k < 7) : M_lasting σ v = some (v, mA (mI σ 1 v) 2 k (ma σ 2 k + 1)) := by
  have hv : ¬ 0 ≤ v := by
    rw [lt_i] at h1; rw [le_i]; omega
  unfold M_lasting
  rw [if_neg hv]
  unfold M_lasting_B13
  rw [mI_self, stt_d, qm_tellN σ v k h1 h2 h3, bs]
theorem qm_last0 (σ : MS) {n : Nat} (hn : n < 2 ^ 31) : M_lasting σ (nI n) = some (nI n, mI (mI σ 8 0) 1 0) := by
  unfold M_lasting
  rw [if_pos (nI_pos' hn)]
  unfold M_lasting_B13
  rw [stt_d, qm_tell0 _ hn, bs]
theorem LG_0 {r U s R : Nat → Int32} {L C : Nat} : LG r U s R 0 0 L C := ⟨0, by omega, rfl, rfl, fun k hk => by omega⟩
theorem VL_cg {R R' : Nat → Int32} {j : Nat} (h1 : R' (26 + j) = R (26 + j)) (h2 : R' (36 + j) = R (36 + j)) (h3 : R' (46 + j) = R (46 + j)) (h4 : R' (56 + j) = R (56 + j)) (h5 : R' (8 + j) = R (8 + j)) (h : VL R j) : VL R' j := by
  unfold VL at h ⊢; rw [h1, h2, h3, h4, h5]; exact h
theorem VC_cg {R R' : Nat → Int32} {L L' c : Nat} (hL : L ≤ L') (h1 : R' (66 + c) = R (66 + c)) (h2 : R' (18 + c) = R (18 + c)) (h3 : R' (22 + c) = R (22 + c)) (h : VC R L c) : VC R' L' c := by
  unfold VC at h ⊢; rw [h1, h2, h3]
  obtain ⟨a, b, k⟩ := h
  refine ⟨a, b, ?_⟩
  rcases k with k | ⟨l, k1, k2⟩
  · exact Or.inl k
  · exact Or.inr ⟨l, by omega, k2⟩
theorem addL_at (R : Nat → Int32) (n : Nat) (x1 x2 x3 x4 : Int32) (i : Nat) : addL R n x1 x2 x3 x4 i = if i = 0 then nI (n + 1) else if i = 8 + n then -1 else if i = 56 + n then x4 else if i = 46 + n then x3 else if i = 36 + n then x2 else if i = 26 + n then x1 else R i := by
  unfold addL; simp only [upd_d]
theorem TW_lane {I : Nat → Int32} {A : Nat → Nat → Int32} {R : Nat → Int32} {n : Nat} {x1 x2 x3 x4 : Int32} (hn : n < 10) (h : TW I A R) : TW (upd I 5 (nI (n + 1))) (va_up (va_up (va_up (va_up (va_up A 0 (upd (A 0) n x1)) 1 (upd (A 1) n x2)) 2 (upd (A 2) n x3)) 3 (upd (A 3) n x4)) 4 (upd (A 4) n (-1))) (addL R n x1 x2 x3 x4) := by
  obtain ⟨⟨t1, t2, t3, t4, t5⟩, tl, tc, th, tt⟩ := h
  refine ⟨⟨?_, ?_, ?_, ?_, ?_⟩, fun j hj => ?_, fun j hj => ?_, fun j hj => ?_, fun j hj => ?_⟩
  · rw [addL_at]; rfl
  · rw [addL_at, if_neg (by omega), if_neg (by omega), if_neg (by omega), if_neg (by omega), if_neg (by omega), if_neg (by omega)]; exact t2
  · rw [addL_at, if_neg (by omega), if_neg (by omega), if_neg (by omega), if_neg (by omega), if_neg (by omega), if_neg (by omega)]; exact t3
  · rw [addL_at, if_neg (by omega), if_neg (by omega), if_neg (by omega), if_neg (by omega), if_neg (by omega), if_neg (by omega)]; exact t4
  · rw [addL_at, if_neg (by omega), if_neg (by omega), if_neg (by omega), if_neg (by omega), if_neg (by omega), if_neg (by omega)]; exact t5
  · obtain ⟨l0, l1, l2, l3, l4⟩ := tl j hj
    refine ⟨?_, ?_, ?_, ?_, ?_⟩
    · show upd (A 0) n x1 j = _
      by_cases e : j = n
      · simp (disch := omega) only [upd_d, addL_at, if_neg, if_pos, ite_true]
      · simp (disch := omega) only [upd_d, addL_at, if_neg, if_pos, ite_true]; exact l0
    · show upd (A 1) n x2 j = _
      by_cases e : j = n
      · simp (disch := omega) only [upd_d, addL_at, if_neg, if_pos, ite_true]
      · simp (disch := omega) only [upd_d, addL_at, if_neg, if_pos, ite_true]; exact l1
    · show upd (A 2) n x3 j = _
      by_cases e : j = n
      · simp (disch := omega) only [upd_d, addL_at, if_neg, if_pos, ite_true]
      · simp (disch := omega) only [upd_d, addL_at, if_neg, if_pos, ite_true]; exact l2
    · show upd (A 3) n x4 j = _
      by_cases e : j = n
      · simp (disch := omega) only [upd_d, addL_at, if_neg, if_pos, ite_true]
      · simp (disch := omega) only [upd_d, addL_at, if_neg, if_pos, ite_true]; exact l3
    · show upd (A 4) n (-1) j = _
      by_cases e : j = n
      · simp (disch := omega) only [upd_d, addL_at, if_neg, if_pos, ite_true]
      · simp (disch := omega) only [upd_d, addL_at, if_neg, if_pos, ite_true]; exact l4
  · simp (disch := omega) only [addL_at, if_neg]; exact tc j hj
  · simp (disch := omega) only [addL_at, if_neg]; exact th j hj
  · simp (disch := omega) only [addL_at, if_neg]; exact tt j hj
theorem VR_lane {R : Nat → Int32} {L C H W : Nat} {x1 x2 x3 x4 : Int32} (hn : L < 10) (ok : okL x1 x2 x3 x4) (h : VR R L C H W) : VR (addL R L x1 x2 x3 x4) (L + 1) C H W := by
  obtain ⟨⟨⟨vL, vC, v0, v1⟩, vl, vc, vh, vq, vm⟩, ⟨w1, w2, w3⟩, ⟨f1, f2, f3⟩, hO⟩ := h
  obtain ⟨o1, o2, o3, o4, o5⟩ := ok
  have far : ∀ i, i ≠ 0 → i ≠ 8 + L → i ≠ 56 + L → i ≠ 46 + L → i ≠ 36 + L → i ≠ 26 + L → addL R L x1 x2 x3 x4 i = R i := fun i a b c d e f => by
    rw [addL_at, if_neg a, if_neg b, if_neg c, if_neg d, if_neg e, if_neg f]
  refine ⟨⟨⟨by omega, vC, rfl, by rw [far] <;> first | exact v1 | omega⟩, fun j hj => ?_, fun c hc => ?_, ?_, ?_, ?_⟩, ⟨w1, ?_, fun j hj => ?_⟩, ⟨f1, ?_, ?_⟩, ?_⟩
  · by_cases e : j = L
    · subst e
      obtain ⟨a, ha, ea⟩ := isAt_n0 (by decide) o1
      obtain ⟨b, hb, eb⟩ := isAt_n0 (by decide) o2
      have k1 : addL R j x1 x2 x3 x4 (26 + j) = x1 := by simp (disch := omega) only [addL_at, if_neg, if_pos, ite_true]
      have k2 : addL R j x1 x2 x3 x4 (36 + j) = x2 := by simp (disch := omega) only [addL_at, if_neg, if_pos, ite_true]
      have k3 : addL R j x1 x2 x3 x4 (46 + j) = x3 := by simp (disch := omega) only [addL_at, if_neg, if_pos, ite_true]
      have k4 : addL R j x1 x2 x3 x4 (56 + j) = x4 := by simp (disch := omega) only [addL_at, if_neg, if_pos, ite_true]
      have k5 : addL R j x1 x2 x3 x4 (8 + j) = -1 := by simp (disch := omega) only [addL_at, if_neg, if_pos, ite_true]
      unfold VL
      rw [k1, k2, k3, k4, k5]
      exact ⟨⟨a, ha, ea⟩, ⟨b, hb, eb⟩, o3, ⟨x3.toInt.toNat, by omega, by omega, nI_of' (by omega)⟩, ⟨x4.toInt.toNat, by omega, nI_of' (by omega)⟩, Or.inl rfl⟩
    · exact VL_cg (far _ (by omega) (by omega) (by omega) (by omega) (by omega) (by omega)) (far _ (by omega) (by omega) (by omega) (by omega) (by omega) (by omega)) (far _ (by omega) (by omega) (by omega) (by omega) (by omega) (by omega)) (far _ (by omega) (by omega) (by omega) (by omega) (by omega) (by omega)) (far _ (by omega) (by omega) (by omega) (by omega) (by omega) (by omega)) (vl j (by omega))
  · exact VC_cg (by omega) (far _ (by omega) (by omega) (by omega) (by omega) (by omega) (by omega)) (far _ (by omega) (by omega) (by omega) (by omega) (by omega) (by omega)) (far _ (by omega) (by omega) (by omega) (by omega) (by omega) (by omega)) (vc c hc)
  · rw [far _ (by omega) (by omega) (by omega) (by omega) (by omega) (by omega)]; exact vh
  · rw [far _ (by omega) (by omega) (by omega) (by omega) (by omega) (by omega)]; exact vq
  · rw [far _ (by omega) (by omega) (by omega) (by omega) (by omega) (by omega)]; exact vm
  · rw [far _ (by omega) (by omega) (by omega) (by omega) (by omega) (by omega)]; exact w2
  · rw [far _ (by omega) (by omega) (by omega) (by omega) (by omega) (by omega)]; exact w3 j hj
  · rw [far _ (by omega) (by omega) (by omega) (by omega) (by omega) (by omega)]; exact f2
  · rw [far _ (by omega) (by omega) (by omega) (by omega) (by omega) (by omega)]; exact f3
  · unfold hourOK; rw [far _ (by omega) (by omega) (by omega) (by omega) (by omega) (by omega)]; exact hO
theorem qc_addLane (S : CS) {n : Nat} (hn : n < 10) (h : ci S 1 5 = nI n) (x1 x2 x3 x4 : Int32) : C_7_addLane S 1 x1 x2 x3 x4 = some (nI n, cO S 1 (upd (ci S 1) 5 (nI (n + 1))) (va_up (va_up (va_up (va_up (va_up (ca S 1) 0 (upd (ca S 1 0) n x1)) 1 (upd (ca S 1 1) n x2)) 2 (upd (ca S 1 2) n x3)) 3 (upd (ca S 1 3) n x4)) 4 (upd (ca S 1 4) n (-1)))) := by
  unfold C_7_addLane
  rw [if_pos (by rw [h]; exact nI_lt (b := 10) hn (by decide))]
  simp (disch := omega) only [cA_O, cO_O, ci_O, ca_O, cI_O, stc_d, h, chk_in, nI_clamp]
  have e : upd (ci S 1) 5 (nI n + 1) 5 - 1 = nI n := by
    rw [pk_us, ← nI_succ, nI_pred]
  rw [e, ← nI_succ]
  rfl
theorem rel_lane {E : Nat → ClassId} {S : CS} {P : va_W} {σ : MS} {L : Nat} {x1 x2 x3 x4 : Int32} (h : Rel E S P σ) (hL : L < 10) (h0 : ma σ 3 0 = nI L) (ok : okL x1 x2 x3 x4) : Rel E (cO (cI S 7 2 0) 1 (upd (ci S 1) 5 (nI (L + 1))) (va_up (va_up (va_up (va_up (va_up (ca S 1) 0 (upd (ca S 1 0) L x1)) 1 (upd (ca S 1 1) L x2)) 2 (upd (ca S 1 2) L x3)) 3 (upd (ca S 1 3) L x4)) 4 (upd (ca S 1 4) L (-1)))) P (mI (mF σ 3 (addL (ma σ 3) L x1 x2 x3 x4)) 8 0) := by
  obtain ⟨L', C, H, W, h1, h2, h3, h4, h5, h6, h7, h8, h9⟩ := h
  have e : L' = L := by
    have := h2.1.1.2.2.1
    rw [h0] at this
    exact ((nI_eq (by omega) (by have := h2.1.1.1; omega)).mp this).symm
  subst e
  exact ⟨L' + 1, C, H, W, TW_lane hL h1, VR_lane hL ok h2, LWS_cg (fun i hi => by rw [show ma (mI (mF σ 3 (addL (ma σ 3) L' x1 x2 x3 x4)) 8 0) 3 = addL (ma σ 3) L' x1 x2 x3 x4 from ma_F _ _ _]; simp (disch := omega) only [addL_at, if_neg]) h3, h4, LG_0, h6, h7, h8, h9⟩
theorem pa_0 {F : Nat} {E : Nat → ClassId} : ag_0 F E (Rel E) := fun S P σ x1 x2 x3 x4 h => by
  have hh := h
  obtain ⟨L, C, H, W, ⟨⟨t1, t2, t3, t4, t5⟩, -⟩, ⟨⟨⟨vL, vC, v0, v1⟩, -⟩, -⟩, -⟩ := hh
  have e5 : ci S 1 5 = nI L := t1.trans v0
  rcases qm_come (σ := mI σ 0 0) vL v0 x1 x2 x3 x4 with ⟨nk, eM⟩ | ⟨ok, hL, eM⟩ | ⟨ok, hL, eM⟩
  · rcases qc_canBe x1 x2 x3 x4 with ⟨k, -⟩ | ⟨-, eC⟩
    · exact absurd k nk
    refine ⟨(-1, cA (cI S 0 15 (-1)) 0 13 1 (ca S 0 13 1 + 1)), mA (mI (mI σ 0 0) 1 (-1)) 2 1 (ma (mI σ 0 0) 2 1 + 1), ?_, ?_, rel_ref (rel_0 h 0) (-1) 1 (by decide)⟩
    · unfold C_10_lane; rw [eC, bs, if_pos rfl, qc_refuse S (-1) 1 rfl (by decide), bs]
    · unfold M_lane; rw [stt_d, eM, bs, qm_lastN _ (-1) 1 (by decide) rfl (by decide), bs]
  · rcases qc_canBe x1 x2 x3 x4 with ⟨-, eC⟩ | ⟨k, -⟩
    rotate_left
    · exact absurd ok k
    refine ⟨(-5, cA (cI S 0 15 (-5)) 0 13 5 (ca S 0 13 5 + 1)), mA (mI (mI σ 0 0) 1 (-5)) 2 5 (ma (mI σ 0 0) 2 5 + 1), ?_, ?_, rel_ref (rel_0 h 0) (-5) 5 (by decide)⟩
    · unfold C_10_lane; rw [eC, bs, if_neg (by decide), e5, if_neg (by rw [hL]; decide), qc_refuse S (-5) 5 rfl (by decide), bs]
    · unfold M_lane; rw [stt_d, eM, bs, qm_lastN _ (-5) 5 (by decide) rfl (by decide), bs]
  · rcases qc_canBe x1 x2 x3 x4 with ⟨-, eC⟩ | ⟨k, -⟩
    rotate_left
    · exact absurd ok k
    refine ⟨(nI L, _), _, ?_, ?_, rel_acc (rel_lane (rel_0 h 0) hL v0 ok)⟩
    · unfold C_10_lane; rw [eC, bs, if_neg (by decide), e5, if_pos (show _ < (10 : Int32) from nI_lt (b := 10) hL (by decide)), stc_d, qc_addLane (cI S 7 2 0) hL e5, bs, qc_accept, bs]; rfl
    · unfold M_lane; rw [stt_d, eM, bs, qm_last0 _ (by omega), bs]
