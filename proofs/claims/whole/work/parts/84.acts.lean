theorem neg_lt {v : Int32} (h : v = -1 ∨ v = -2 ∨ v = -3) : v < 0 := by rcases h with rfl | rfl | rfl <;> decide
theorem b78_no {F : Nat} {E : Nat → ClassId} {P : va_W} (S : CS) (x v : Int32) (h : v = -1 ∨ v = -2 ∨ v = -3) : C_10_act_B78 F E P S x v = some (v, S) := by
  unfold C_10_act_B78; rw [if_pos (neg_lt h)]
theorem b78_yes {F : Nat} {E : Nat → ClassId} {P : va_W} {S T : CS} {x : Int32} {m : Nat} (hm : m < 1000) (h : C_1_keepNote S 7 x = some ((), T)) : C_10_act_B78 F E P S x (nI m) = some (nI m, T) := by
  unfold C_10_act_B78; rw [if_neg (nI_pos (by omega)), h, bs]
theorem act_0 {F : Nat} {E : Nat → ClassId} {P : va_W} {S S1 : CS} (x2 x3 : Int32) (e : C_1_note S 7 1 = some ((), S1)) : C_10_act F E P S 0 x2 x3 = (C_10_wanderIn F E P S1 1 x2).bind fun y => C_10_act_B78 F E P y.2 0 y.1 := by
  unfold C_10_act; rw [e, bs, if_pos rfl]
theorem act_1 {F : Nat} {E : Nat → ClassId} {P : va_W} {S S1 : CS} (x2 x3 : Int32) (e : C_1_note S 7 1 = some ((), S1)) : C_10_act F E P S 1 x2 x3 = (C_10_cryIn F E P S1 1 x2).bind fun y => C_10_act_B78 F E P y.2 1 y.1 := by
  unfold C_10_act; rw [e, bs, if_neg (show ¬ (1 : Int32) = 0 by decide), if_pos (show (1 : Int32) = 1 from rfl)]
theorem act_2 {F : Nat} {E : Nat → ClassId} {P : va_W} {S S1 : CS} (x2 x3 : Int32) (e : C_1_note S 7 1 = some ((), S1)) : C_10_act F E P S 2 x2 x3 = (C_10_leadIn S1 1 x2 x3).bind fun y => C_10_act_B78 F E P y.2 2 y.1 := by
  unfold C_10_act; rw [e, bs, if_neg (show ¬ (2 : Int32) = 0 by decide), if_neg (show ¬ (2 : Int32) = 1 by decide), if_pos (show (2 : Int32) = 2 from rfl)]
theorem act_3 {F : Nat} {E : Nat → ClassId} {P : va_W} {S S1 : CS} (x2 x3 : Int32) (e : C_1_note S 7 1 = some ((), S1)) : C_10_act F E P S 3 x2 x3 = (C_10_passIn F E P S1 1).bind fun y => C_10_act_B78 F E P y.2 3 y.1 := by
  unfold C_10_act; rw [e, bs, if_neg (show ¬ (3 : Int32) = 0 by decide), if_neg (show ¬ (3 : Int32) = 1 by decide), if_neg (show ¬ (3 : Int32) = 2 by decide)]
theorem t_note {S : CS} {R : Nat → Int32} (N : Nat → Int32) (t : TW (ci S 1) (ca S 1) R) : TW (ci (cF S 7 1 N) 1) (ca (cF S 7 1 N) 1) R := by
  rw [show ca (cF S 7 1 N) 1 = ca S 1 from funext fun k => ca_cFn _ _ _ _ _ _ (Or.inl (by decide))]; exact t
theorem l0_note (S : CS) (N : Nat → Int32) : ca (cF S 7 1 N) 7 0 = ca S 7 0 := ca_cFn _ _ _ _ _ _ (Or.inr (by decide))
theorem KY.rem {σ τ : MS} {f g : Nat → Int32} {v : Int32} (k : KY σ τ) : KY σ (mI (mF (mF τ 6 f) 7 g) 8 v) := ((k.tr (ky_F τ (Or.inr (Or.inl rfl)) f)).tr (ky_F _ (Or.inr (Or.inr rfl)) g)).tr (ky_8 _ _)
theorem st_wander {E : Nat → ClassId} {P : va_W} {F : Nat} {S : CS} {σ : MS} {L C H W : Nat} (hF : 1000 ≤ F) (h : RelB E S P σ L C H W) (x2 x3 y3 : Int32) : ∃ v T τ, C_10_act F E P S 0 x2 x3 = some (v, T) ∧ M_act F σ 0 x2 y3 = some (v, τ) ∧ StepOK E S P σ L C H W v T τ := by
  have hh := h
  obtain ⟨t, vr, lw, -, ⟨n, hn, l1, l2, l3⟩, -, -, ko, -⟩ := hh
  obtain ⟨N, e1, hN⟩ := qc_note t
  obtain ⟨q, LS, lq, eq⟩ := force_q (S := S) (o := 1) t.1.2.2.2.1 t.1.2.2.2.2 vr.2.2.1 lw
  have hC4 := vr.1.1.2.1
  have hL := vr.1.1.1
  have t1 := t_note N t
  have eM : M_isChild σ x2 = some (isAt x2 C) := qm_isChild (by omega) vr.1.1.2.2.2 x2
  have eC : C_7_hasChild (cF S 7 1 N) 1 x2 = some (isAt x2 C) := qc_hasChild hC4 (t1.1.2.1.trans vr.1.1.2.2.2) x2
  rw [act_0 x2 x3 e1]
  unfold M_act C_10_wanderIn M_wanderNow
  rw [if_pos rfl, eC, bs, eM, bs]
  by_cases z : isAt x2 C = 0
  · rw [if_pos z, if_pos z, bs, bs]
    exact ⟨-2, _, σ, b78_no _ _ (-2) (Or.inr (Or.inl rfl)), rfl, step_no h (Or.inr (Or.inl rfl)) (kd_7 _ _ _) t1 (l0_note _ _) rfl KL.rf⟩
  obtain ⟨c, hc, rfl⟩ := isAt_n0 (by omega) z
  rw [if_neg z, if_neg z, eq (cF S 7 1 N) rfl rfl, bs]
  obtain ⟨U, g1, g2⟩ := qc_taken lq hF (by decide) (by decide) (t1.tv (show c < 4 by omega)) vr.1 hc
  obtain ⟨τ, m1, m2⟩ := qm_laneOf (σ := σ) lq hF vr.1 hc ko.1
  have t2 := TW_KW (by decide) (by decide) g2 t1
  rcases laneS_c LS (ma σ 3) L c with y | ⟨j, hj, y, ye⟩
  · rw [y] at g1 m1
    rw [g1, bs, m1, bs, if_pos rfl, if_pos rfl, bs, bs]
    exact ⟨-3, U, τ, b78_no _ _ (-3) (Or.inr (Or.inr rfl)), rfl, step_no h (Or.inr (Or.inr rfl)) ((kd_7 _ _ _).tr (KZ.kd g2.kz)) t2 ((g2.2.2.2 7 0 (by decide) (Or.inl (by decide))).trans (l0_note _ _)) (by rw [g2.1]; rfl) m2⟩
  · rw [y] at g1 m1
    have ga := qc_goAlong (t2.tv (show c < 4 by omega)) vr.1 hc hj ye
    obtain ⟨k, hk, ek⟩ := acr_ok (vr.1.2.1 j hj) (ma σ 3 (18 + c))
    have e3 : ma τ 3 = ma σ 3 := congrFun m2.1 3
    have e6 : ma τ 6 = ma σ 6 := congrFun m2.1 6
    have e7 : ma τ 7 = ma σ 7 := congrFun m2.1 7
    have hm : M_remember F τ 0 = _ := qm_remember (d := 0) hF hn ((m2.2.1 8 (by decide) (by decide)).trans l2)
    rw [e3, e6, e7] at hm
    obtain ⟨T, k1, k2, k3, k4, k5, k6, k7⟩ := qc_keepNote (S := cGo U 1 c (acr (ma σ 3) j (ma σ 3 (18 + c))) (nI j)) (d := 0) hn (by show ci U 7 2 = _; rw [g2.1]; exact l1)
    have gm := qm_goAlong (σ := mI (mF (mF τ 6 (nwU (ma σ 3) n (ma σ 6))) 7 (nwS 0 n (ma σ 7))) 8 (nI (lgN n + 1))) (show c < 4 by omega) (show j < 10 by omega)
    have e3' : ma (mI (mF (mF τ 6 (nwU (ma σ 3) n (ma σ 6))) 7 (nwS 0 n (ma σ 7))) 8 (nI (lgN n + 1))) 3 = ma σ 3 := e3
    rw [e3'] at gm
    have nz : ¬ nI j = (-1 : Int32) := nI_m1 (by omega)
    refine ⟨nI k, T, mF (mI (mF (mF τ 6 (nwU (ma σ 3) n (ma σ 6))) 7 (nwS 0 n (ma σ 7))) 8 (nI (lgN n + 1))) 3 (goR (ma σ 3) c (nI j)), ?_, ?_, ?_⟩
    · rw [g1, bs, if_neg nz, ga, bs, chk_in (by omega) (by decide), bs, nI_clamp (by omega)]
      show C_10_act_B78 F E P _ 0 (ca (cGo U 1 c (acr (ma σ 3) j (ma σ 3 (18 + c))) (nI j)) 1 7 c) = _
      rw [cGo_7, pk_us, ek]
      rw [ek] at k1
      exact b78_yes (by omega) k1
    · rw [m1, bs, if_neg nz, hm, bs, gm, bs, a18, chk_in (by omega) (by decide), bs, nI_clamp (by omega)]
      have ev : ma (mF (mI (mF (mF τ 6 (nwU (ma σ 3) n (ma σ 6))) 7 (nwS 0 n (ma σ 7))) 8 (nI (lgN n + 1))) 3 (goR (ma σ 3) c (nI j))) 3 (18 + c) = nI k := by rw [ma_F, goR_j _ (by omega), pk_un (by omega), pk_us, ek]
      exact congrArg some (Prod.ext ev rfl)
    · refine step_yes h hn (by decide) l3 hN (KZ.kd (g2.kz.tr (kz_go _ _ _ _ _))) (fun k => (cGo_n _ _ _ _ _ (Or.inl (by decide))).trans (g2.2.2.2 7 k (by decide) (Or.inl (by decide)))) (TW_go (by omega) (by omega) t2 (cGo_7 _ _ _ _ _) (cGo_8 _ _ _ _ _) (fun k a b => cGo_n _ _ _ _ _ (Or.inr ⟨a, b⟩))) (VA_go hc hj vr.1) ?_ (fun i hi => ?_) k2 k3 k4 k5 k6 k7 (m2.kp.ky.rem.tr (ky_F _ (Or.inl rfl) _)) (ma_F _ _ _) ?_ ?_ rfl (by omega)
      · refine hO_cg ?_ vr.2.2.2; rw [goR_j _ (by omega), pk_un (by omega), pk_un (by omega)]
      · rw [goR_j _ (by omega), pk_un (by omega), pk_un (by omega)]
      · rfl
      · rfl
theorem st_cry {E : Nat → ClassId} {P : va_W} {F : Nat} {S : CS} {σ : MS} {L C H W : Nat} (hF : 1000 ≤ F) (h : RelB E S P σ L C H W) (x2 x3 y3 : Int32) : ∃ v T τ, C_10_act F E P S 1 x2 x3 = some (v, T) ∧ M_act F σ 1 x2 y3 = some (v, τ) ∧ StepOK E S P σ L C H W v T τ := by
  have hh := h
  obtain ⟨t, vr, lw, -, ⟨n, hn, l1, l2, l3⟩, -, -, ko, -⟩ := hh
  obtain ⟨N, e1, hN⟩ := qc_note t
  obtain ⟨q, LS, lq, eq⟩ := force_q (S := S) (o := 1) t.1.2.2.2.1 t.1.2.2.2.2 vr.2.2.1 lw
  have hC4 := vr.1.1.2.1
  have hL := vr.1.1.1
  have t1 := t_note N t
  have eM : M_isChild σ x2 = some (isAt x2 C) := qm_isChild (by omega) vr.1.1.2.2.2 x2
  have eC : C_7_hasChild (cF S 7 1 N) 1 x2 = some (isAt x2 C) := qc_hasChild hC4 (t1.1.2.1.trans vr.1.1.2.2.2) x2
  rw [act_1 x2 x3 e1]
  unfold M_act C_10_cryIn M_cryNow
  rw [if_neg (show ¬ (1 : Int32) = 0 by decide), if_pos (show (1 : Int32) = 1 from rfl), eC, bs, eM, bs]
  by_cases z : isAt x2 C = 0
  · rw [if_pos z, if_pos z, bs, bs]
    exact ⟨-2, _, σ, b78_no _ _ (-2) (Or.inr (Or.inl rfl)), rfl, step_no h (Or.inr (Or.inl rfl)) (kd_7 _ _ _) t1 (l0_note _ _) rfl KL.rf⟩
  obtain ⟨c, hc, rfl⟩ := isAt_n0 (by omega) z
  have e8 : ca (cF S 7 1 N) 1 8 c = ma σ 3 (22 + c) := (t1.2.2.1 c (by omega)).2.2
  rw [if_neg z, if_neg z, chk_in (by omega) (by decide), nI_clamp (by omega), e8, a22, chk_in (by omega) (by decide), nI_clamp (by omega)]
  obtain ⟨-, -, lst⟩ := vr.1.2.2.1 c hc
  rw [qc_hasLane hL (t1.1.1.trans vr.1.1.2.2.1)]
  rcases lst with y | ⟨j, hj, y⟩
  · rw [y, isAt_m1, bs, if_pos rfl, if_pos rfl, bs, bs]
    exact ⟨-3, _, σ, b78_no _ _ (-3) (Or.inr (Or.inr rfl)), rfl, step_no h (Or.inr (Or.inr rfl)) (kd_7 _ _ _) t1 (l0_note _ _) rfl KL.rf⟩
  · have nz : ¬ nI j = (-1 : Int32) := nI_m1 (by omega)
    rw [y, isAt_in hj (by omega), bs, if_neg (by decide), if_neg nz]
    obtain ⟨U, g1, g2⟩ := qc_said (S := cF S 7 1 N) lq hF (by decide) (by decide) (fun T k => eq T (congrFun k.1 1) (congrFun k.2.2.1 1)) (t1.tv (show c < 4 by omega)) vr.1 hc hj
    have t2 := TW_KW (by decide) (by decide) g2 t1
    have hm : M_remember F σ 1 = _ := qm_remember (d := 1) hF hn l2
    obtain ⟨τ, m1, m2⟩ := qm_said (σ := mI (mF (mF σ 6 (nwU (ma σ 3) n (ma σ 6))) 7 (nwS 1 n (ma σ 7))) 8 (nI (lgN n + 1))) lq hF vr.1 hc hj ko.1
    have e3 : ma (mI (mF (mF σ 6 (nwU (ma σ 3) n (ma σ 6))) 7 (nwS 1 n (ma σ 7))) 8 (nI (lgN n + 1))) 3 = ma σ 3 := rfl
    rw [e3] at m1
    have e3' : ma τ 3 = ma σ 3 := congrFun m2.1 3
    have sl := sdN_lt (LS := LS) (c := c) (vr.1.2.1 j hj)
    obtain ⟨T, k1, k2, k3, k4, k5, k6, k7⟩ := qc_keepNote (S := cA U 1 4 j (nI (sdN LS (ma σ 3) c j))) (d := 1) hn (by show ci U 7 2 = _; rw [g2.1]; exact l1)
    refine ⟨nI (sdN LS (ma σ 3) c j), T, mF τ 3 (upd (ma σ 3) (8 + j) (nI (sdN LS (ma σ 3) c j))), ?_, ?_, ?_⟩
    · rw [g1, bs, chk_in (by omega) (by decide), stc_d, chk_in (by omega) (by decide), nI_clamp (by omega), bs]
      show C_10_act_B78 F E P _ 1 (ca (cF U 1 4 (upd (ca U 1 4) j (nI (sdN LS (ma σ 3) c j)))) 1 4 j) = _
      rw [ca_cF, pk_us]
      exact b78_yes (by omega) k1
    · rw [hm, bs]
      unfold M_cryIt
      rw [a22, chk_in (by omega) (by decide), nI_clamp (by omega)]
      simp only [e3]
      rw [y, m1, bs, a8, chk_in (by omega) (by decide), stt_d, chk_in (by omega) (by decide), nI_clamp (by omega), bs, bs, mA_F]
      show some (ma (mF τ 3 (upd (ma τ 3) (8 + j) (nI (sdN LS (ma σ 3) c j)))) 3 (8 + j), _) = _
      rw [ma_F, pk_us, e3']
    · refine step_yes (U := cA U 1 4 j (nI (sdN LS (ma σ 3) c j))) h hn (by decide) l3 hN (KZ.kd (g2.kz.tr (kz_F _ (Or.inl rfl) _))) (fun k => (ca_cFn _ _ _ _ _ _ (Or.inl (by decide))).trans (g2.2.2.2 7 k (by decide) (Or.inl (by decide)))) (TW_name (by omega) _ t2 (ca_cF _ _ _ _) (fun k a => ca_cFn _ _ _ _ _ _ (Or.inr a))) (VA_name hj sl vr.1) ?_ (fun i hi => ?_) k2 k3 k4 k5 k6 k7 ((KY.rf.rem.tr m2.kp.ky).tr (ky_F _ (Or.inl rfl) _)) (ma_F _ _ _) (congrFun m2.1 6) (congrFun m2.1 7) (m2.2.1 8 (by decide) (by decide)) (by omega)
      · refine hO_cg ?_ vr.2.2.2; rw [pk_un (by omega)]
      · rw [pk_un (by omega)]
theorem st_lead {E : Nat → ClassId} {P : va_W} {F : Nat} {S : CS} {σ : MS} {L C H W : Nat} (hF : 1000 ≤ F) (h : RelB E S P σ L C H W) (x2 x3 : Int32) : ∃ v T τ, C_10_act F E P S 2 x2 x3 = some (v, T) ∧ M_act F σ 2 x2 x3 = some (v, τ) ∧ StepOK E S P σ L C H W v T τ := by
  have hh := h
  obtain ⟨t, vr, lw, -, ⟨n, hn, l1, l2, l3⟩, -, -, ko, -⟩ := hh
  obtain ⟨N, e1, hN⟩ := qc_note t
  have hC4 := vr.1.1.2.1
  have t1 := t_note N t
  have eM : M_isChild σ x2 = some (isAt x2 C) := qm_isChild (by omega) vr.1.1.2.2.2 x2
  have eC : C_7_hasChild (cF S 7 1 N) 1 x2 = some (isAt x2 C) := qc_hasChild hC4 (t1.1.2.1.trans vr.1.1.2.2.2) x2
  rw [act_2 x2 x3 e1]
  unfold M_act C_10_leadIn M_leadNow
  rw [if_neg (show ¬ (2 : Int32) = 0 by decide), if_neg (show ¬ (2 : Int32) = 1 by decide), if_pos (show (2 : Int32) = 2 from rfl), qc_isCorner, bs, qm_isCorner, bs]
  by_cases w : isAt x3 8 = 0
  · rw [if_pos w, if_pos w, bs, bs]
    exact ⟨-1, _, σ, b78_no _ _ (-1) (Or.inl rfl), rfl, step_no h (Or.inl rfl) (kd_7 _ _ _) t1 (l0_note _ _) rfl KL.rf⟩
  rw [if_neg w, if_neg w, eC, bs, eM, bs]
  by_cases z : isAt x2 C = 0
  · rw [if_pos z, if_pos z, bs, bs]
    exact ⟨-2, _, σ, b78_no _ _ (-2) (Or.inr (Or.inl rfl)), rfl, step_no h (Or.inr (Or.inl rfl)) (kd_7 _ _ _) t1 (l0_note _ _) rfl KL.rf⟩
  obtain ⟨c, hc, rfl⟩ := isAt_n0 (by omega) z
  obtain ⟨x, hx, rfl⟩ := isAt_n0 (by omega) w
  have e7 : ca (cF S 7 1 N) 1 7 c = ma σ 3 (18 + c) := (t1.2.2.1 c (by omega)).2.1
  rw [if_neg z, if_neg z, chk_in (by omega) (by decide), chk_in (by omega) (by decide), nI_clamp (by omega), e7, a18, chk_in (by omega) (by decide), nI_clamp (by omega)]
  by_cases y : ma σ 3 (18 + c) = nI x
  · rw [if_pos y, if_pos y, bs, bs]
    exact ⟨-3, _, σ, b78_no _ _ (-3) (Or.inr (Or.inr rfl)), rfl, step_no h (Or.inr (Or.inr rfl)) (kd_7 _ _ _) t1 (l0_note _ _) rfl KL.rf⟩
  · rw [if_neg y, if_neg y]
    obtain ⟨-, ⟨k, hk, ek⟩, -⟩ := vr.1.2.2.1 c hc
    have hm : M_remember F σ 2 = _ := qm_remember (d := 2) hF hn l2
    obtain ⟨T, k1, k2, k3, k4, k5, k6, k7⟩ := qc_keepNote (S := cA (cF S 7 1 N) 1 7 c (nI x)) (d := 2) hn (by exact l1)
    refine ⟨nI k, T, mF (mI (mF (mF σ 6 (nwU (ma σ 3) n (ma σ 6))) 7 (nwS 2 n (ma σ 7))) 8 (nI (lgN n + 1))) 3 (upd (ma σ 3) (18 + c) (nI x)), ?_, ?_, ?_⟩
    · rw [stc_d, bs, ek]
      exact b78_yes (by omega) k1
    · rw [hm, bs, chk_in (by omega) (by decide), stt_d, bs, ek]
      rfl
    · refine step_yes (U := cA (cF S 7 1 N) 1 7 c (nI x)) h hn (by decide) l3 hN (KZ.kd (kz_F _ (Or.inr (Or.inl rfl)) _)) (fun k => ca_cFn _ _ _ _ _ _ (Or.inl (by decide))) (TW_lead (by omega) _ t1 (ca_cF _ _ _ _) (fun k a => ca_cFn _ _ _ _ _ _ (Or.inr a))) (VA_lead hc hx vr.1) ?_ (fun i hi => ?_) k2 k3 k4 k5 k6 k7 (KY.rf.rem.tr (ky_F _ (Or.inl rfl) _)) (ma_F _ _ _) rfl rfl rfl (by omega)
      · refine hO_cg ?_ vr.2.2.2; rw [pk_un (by omega)]
      · rw [pk_un (by omega)]
theorem psR_n {LS : Nat → (Nat → Int) → Option Int} {R : Nat → Int32} {L C : Nat} (hC : C ≤ 4) {i : Nat} (h : i < 5 ∨ (6 ≤ i ∧ i < 18) ∨ 26 ≤ i) : psR LS R L C i = R i := by
  unfold psR; rw [pk_un (by omega), gA_n hC (by omega)]
theorem VA_ps {LS : Nat → (Nat → Int) → Option Int} {R : Nat → Int32} {L C k : Nat} (va : VA R L C) (h5 : R 5 = nI k) (hk : k < 2000) : VA (psR LS R L C) L C := by
  unfold psR; rw [h5, ← nI_succ]; exact VA_hour (by omega) (VA_gA va C (Nat.le_refl _))
theorem st_pass {E : Nat → ClassId} {P : va_W} {F : Nat} {S : CS} {σ : MS} {L C H W : Nat} (hF : 1000 ≤ F) (h : RelB E S P σ L C H W) (x2 x3 y2 y3 : Int32) : ∃ v T τ, C_10_act F E P S 3 x2 x3 = some (v, T) ∧ M_act F σ 3 y2 y3 = some (v, τ) ∧ StepOK E S P σ L C H W v T τ := by
  have hh := h
  obtain ⟨t, vr, lw, -, ⟨n, hn, l1, l2, l3⟩, -, -, ko, -⟩ := hh
  obtain ⟨N, e1, hN⟩ := qc_note t
  obtain ⟨q, LS, lq, eq⟩ := force_q (S := S) (o := 1) t.1.2.2.2.1 t.1.2.2.2.2 vr.2.2.1 lw
  have hC4 := vr.1.1.2.1
  have t1 := t_note N t
  have e5 : ca (cF S 7 1 N) 1 12 0 = ma σ 3 5 := t1.2.2.2.2 0 (by omega)
  obtain ⟨hr, hr1, hr2⟩ := vr.2.2.2
  rw [act_3 x2 x3 e1]
  unfold M_act C_10_passIn M_passNow
  rw [if_neg (show ¬ (3 : Int32) = 0 by decide), if_neg (show ¬ (3 : Int32) = 1 by decide), if_neg (show ¬ (3 : Int32) = 2 by decide), e5, hr2]
  by_cases z : hr = 999
  · rw [if_neg (by rw [z]; decide), if_pos (by rw [z]; rfl), bs, bs]
    exact ⟨-3, _, σ, b78_no _ _ (-3) (Or.inr (Or.inr rfl)), rfl, step_no h (Or.inr (Or.inr rfl)) (kd_7 _ _ _) t1 (l0_note _ _) rfl KL.rf⟩
  · rw [if_pos (show nI hr < (999 : Int32) from nI_lt (b := 999) (by omega) (by decide)), if_neg (show ¬ nI hr = (999 : Int32) from fun y => z ((nI_eq (a := hr) (b := 999) (by omega) (by decide)).mp y))]
    obtain ⟨U, r1, r2, r3⟩ := passInL (S := cF S 7 1 N) lq hF (by decide) (by decide) vr.1 eq C 0 F (by omega) (by omega) rfl rfl (by rw [gA_0]; exact t1)
    have hm : M_remember F σ 3 = _ := qm_remember (d := 3) hF hn l2
    obtain ⟨τ, m1, m2⟩ := qm_passIt (σ := mI (mF (mF σ 6 (nwU (ma σ 3) n (ma σ 6))) 7 (nwS 3 n (ma σ 7))) 8 (nI (lgN n + 1))) lq hF vr.1 ko.1
    have e3 : ma (mI (mF (mF σ 6 (nwU (ma σ 3) n (ma σ 6))) 7 (nwS 3 n (ma σ 7))) 8 (nI (lgN n + 1))) 3 = ma σ 3 := rfl
    rw [e3] at m1
    have wl := wnt_le LS (ma σ 3) L C
    obtain ⟨T, k1, k2, k3, k4, k5, k6, k7⟩ := qc_keepNote (S := U) (d := 3) hn (by rw [r3.1]; exact l1)
    refine ⟨nI (wnt LS (ma σ 3) L C), T, mF τ 3 (psR LS (ma σ 3) L C), ?_, ?_, ?_⟩
    · show (C_10_passIn_L19 F E P 1 F (cF S 7 1 N) (nI (wnt LS (ma σ 3) L 0)) (nI 0)).bind _ = _
      rw [r1, bs]
      exact b78_yes (by omega) k1
    · rw [hm, bs, m1, bs, bs]
    · refine step_yes (U := U) h hn (by decide) l3 hN (KZ.kd r3) (fun k => r3.2.2.2 7 k (by decide) (by decide) (Or.inl (by decide))) r2 (VA_ps vr.1 hr2 (by omega)) ?_ (fun i hi => psR_n hC4 (by omega)) k2 k3 k4 k5 k6 k7 ((KY.rf.rem.tr m2.ky).tr (ky_F _ (Or.inl rfl) _)) (ma_F _ _ _) (m2.1 6 (by decide)) (m2.1 7 (by decide)) (m2.2.1 8 (by decide) (by decide)) (by omega)
      refine ⟨hr + 1, by omega, ?_⟩
      unfold psR; rw [pk_us, hr2, nI_succ]
/-- any of them -/
theorem st_act {E : Nat → ClassId} {P : va_W} {F : Nat} {S : CS} {σ : MS} {L C H W d : Nat} (hF : 1000 ≤ F) (h : RelB E S P σ L C H W) (hd : d < 4) (x2 x3 y2 y3 : Int32) (h2 : d < 3 → x2 = y2) (h3 : d = 2 → x3 = y3) : ∃ v T τ, C_10_act F E P S (nI d) x2 x3 = some (v, T) ∧ M_act F σ (nI d) y2 y3 = some (v, τ) ∧ StepOK E S P σ L C H W v T τ := by
  rcases (by omega : d = 0 ∨ d = 1 ∨ d = 2 ∨ d = 3) with rfl | rfl | rfl | rfl
  · rw [← h2 (by omega)]; exact st_wander hF h x2 x3 y3
  · rw [← h2 (by omega)]; exact st_cry hF h x2 x3 y3
  · rw [← h2 (by omega), ← h3 rfl]; exact st_lead hF h x2 x3
  · exact st_pass hF h x2 x3 y2 y3
theorem RelB_0 {E : Nat → ClassId} {S : CS} {P : va_W} {σ : MS} {L C H W : Nat} (h : RelB E S P σ L C H W) (v : Int32) : RelB E S P (mI σ 0 v) L C H W := h
/-- the answer of a step -/
theorem st_answer {E : Nat → ClassId} {P : va_W} {F : Nat} {S : CS} {σ : MS} (hF : 1000 ≤ F) {d : Nat} (hd : d < 4) (h : Rel E S P σ) (x2 x3 : Int32) : ∃ (q : Int32 × CS) (σ1 : MS), ((C_10_act F E P S (nI d) x2 x3).bind fun y1 => (C_10_answer y1.2 y1.1).bind fun y2 => some (y2.1, y2.2)) = some q ∧ ((M_act F (mI σ 0 0) (nI d) x2 x3).bind fun q2 => (M_tell q2.2 q2.1).bind fun q3 => some (q3.1, q3.2)) = some (q.1, σ1) ∧ Rel E q.2 P σ1 := by
  obtain ⟨L, C, H, W, hb⟩ := h
  obtain ⟨v, T, τ, a1, a2, a3⟩ := st_act hF (RelB_0 hb 0) hd x2 x3 x2 x3 (fun _ => rfl) (fun _ => rfl)
  have hr : Rel E T P τ := ⟨L, C, H, W, a3.2.2.1⟩
  rw [a1, a2, bs, bs]
  rcases a3.2.2.2.2 with hv | ⟨n, hn, rfl⟩
  · obtain ⟨k, hk, e⟩ : ∃ k, k < 7 ∧ -v = nI k := by
      rcases hv with rfl | rfl | rfl
      · exact ⟨1, by decide, rfl⟩
      · exact ⟨2, by decide, rfl⟩
      · exact ⟨3, by decide, rfl⟩
    have nv : ¬ 0 ≤ v := by rcases hv with rfl | rfl | rfl <;> decide
    refine ⟨(v, _), _, ?_, ?_, rel_ref hr v k hk⟩
    · unfold C_10_answer; rw [if_neg nv, qc_refuse T v k e hk, bs, bs]; rfl
    · rw [qm_tellN τ v k (neg_lt hv) e hk, bs]
  · refine ⟨(nI n, _), _, ?_, ?_, rel_acc hr⟩
    · unfold C_10_answer; rw [if_pos (nI_pos' (by omega)), qc_accept, bs, bs]; rfl
    · rw [qm_tell0 τ (by omega), bs]
theorem pa_15 {F : Nat} {E : Nat → ClassId} (hF : 1000 ≤ F) : ag_15 F E (Rel E) := fun S P σ x h => by
  obtain ⟨q, σ1, a1, a2, a3⟩ := st_answer hF (d := 0) (by decide) h x (-1)
  refine ⟨q, σ1, a1, ?_, a3⟩
  rw [← a2]
  unfold M_wander M_act
  rw [stt_d, if_pos (show nI 0 = (0 : Int32) from rfl)]
  cases M_wanderNow F (mI σ 0 0) x <;> rfl
theorem pa_16 {F : Nat} {E : Nat → ClassId} (hF : 1000 ≤ F) : ag_16 F E (Rel E) := fun S P σ x h => by
  obtain ⟨q, σ1, a1, a2, a3⟩ := st_answer hF (d := 1) (by decide) h x (-1)
  refine ⟨q, σ1, a1, ?_, a3⟩
  rw [← a2]
  unfold M_cry M_act
  rw [stt_d, if_neg (show ¬ nI 1 = 0 by decide), if_pos (show nI 1 = (1 : Int32) from rfl)]
  cases M_cryNow F (mI σ 0 0) x <;> rfl
theorem pa_17 {F : Nat} {E : Nat → ClassId} (hF : 1000 ≤ F) : ag_17 F E (Rel E) := fun S P σ x y h => by
  obtain ⟨q, σ1, a1, a2, a3⟩ := st_answer hF (d := 2) (by decide) h x y
  refine ⟨q, σ1, a1, ?_, a3⟩
  rw [← a2]
  unfold M_lead M_act
  rw [stt_d, if_neg (show ¬ nI 2 = 0 by decide), if_neg (show ¬ nI 2 = 1 by decide), if_pos (show nI 2 = (2 : Int32) from rfl)]
  cases M_leadNow F (mI σ 0 0) x y <;> rfl
theorem pa_18 {F : Nat} {E : Nat → ClassId} (hF : 1000 ≤ F) : ag_18 F E (Rel E) := fun S P σ h => by
  obtain ⟨q, σ1, a1, a2, a3⟩ := st_answer hF (d := 3) (by decide) h (-1) (-1)
  refine ⟨q, σ1, a1, ?_, a3⟩
  rw [← a2]
  unfold M_pass M_act
  rw [stt_d, if_neg (show ¬ nI 3 = 0 by decide), if_neg (show ¬ nI 3 = 1 by decide), if_neg (show ¬ nI 3 = 2 by decide)]
  cases M_passNow F (mI σ 0 0) <;> rfl
