/-- scratch alone -/
theorem kw_kc {S T : CS} (k : KW S T) : KC S T := by
  obtain ⟨k1, k2, k3, k4⟩ := k
  exact ⟨⟨congrFun (congrFun k1 0) 15, congrFun (congrFun k1 0) 16, congrFun (congrFun k1 0) 17, k4 0 13 (by decide) (Or.inl (by decide)), congrFun k3 0⟩, ⟨congrFun k1 1, funext fun k => k4 1 k (by decide) (Or.inl (by decide)), congrFun k3 1⟩, ⟨k4 7 0 (by decide) (Or.inl (by decide)), congrFun (congrFun k1 7) 2⟩, ⟨congrFun (congrFun k1 10) 1, k4 10 0 (by decide) (Or.inl (by decide))⟩, ⟨congrFun (congrFun k1 3) 5, congrFun (congrFun k1 3) 9, k4 3 7 (by decide) (Or.inl (by decide)), k4 3 4 (by decide) (Or.inl (by decide))⟩, congrFun (congrFun k1 9) 10⟩
theorem kl_km {σ τ : MS} (k : KL σ τ) : KM σ τ := by
  obtain ⟨k1, k2, k3⟩ := k
  exact ⟨⟨congrFun k1 2, congrFun k1 3, congrFun k1 4, congrFun k1 5, fun j _ => by rw [k1], congrFun k1 7, congrFun k1 12, congrFun k1 55⟩, ⟨k2 1 (by decide) (by decide), k2 8 (by decide) (by decide), k2 11 (by decide) (by decide), k2 13 (by decide) (by decide), k2 18 (by decide) (by decide), k2 20 (by decide) (by decide), k2 52 (by decide) (by decide), k2 56 (by decide) (by decide), k2 57 (by decide) (by decide)⟩, k3 31 (by decide) (by decide), k3 32 (by decide) (by decide), k3 33 (by decide) (by decide), k3 48 (by decide) (by decide)⟩
/-- a law by its number -/
theorem law_q {E : Nat → ClassId} {Z : Nat → Prop} {P : va_W} {S : CS} {o W : Nat} {R : Nat → Int32} (h14 : ci S o 14 = R 3) (hW : W ≤ 6) (h3 : R 3 = nI W) (lw : LWS E Z P (cq S o) R W) {x : Int32} (hx : x = -1 ∨ ∃ w, w < W ∧ x = nI w) : ∃ (q : Option Nat) (LS : Nat → (Nat → Int) → Option Int), LQ E P (upd R 4 x) q LS ∧ ∀ T : CS, ci T o = ci S o → cq T o = cq S o → C_7_lawOf T o x = some q := by
  rcases hx with rfl | ⟨w, hw, rfl⟩
  · refine ⟨none, fun _ _ => none, Or.inl ⟨rfl, pk_us, fun _ _ => rfl⟩, fun T e1 e2 => ?_⟩
    unfold C_7_lawOf
    rw [qc_hasLaw hW (by rw [e1, h14, h3]), isAt_m1, bs, if_pos rfl]
  · obtain ⟨a, LS, e, sem⟩ := law_sem (lw.1 w hw)
    refine ⟨some a, LS, Or.inr ⟨a, w, lwR R w, rfl, by omega, pk_us, fun i hi => ?_, sem⟩, fun T e1 e2 => ?_⟩
    · rw [pk_un (by omega)]; unfold lwR; rw [if_pos hi]
    · unfold C_7_lawOf
      rw [qc_hasLaw hW (by rw [e1, h14, h3]), isAt_in hw (by omega), bs, if_neg (by decide), chk_in (by omega) (by decide), nmq_d, nI_clamp (by omega), e2, e]
/-- the law in force -/
theorem force_q {E : Nat → ClassId} {Z : Nat → Prop} {P : va_W} {S : CS} {o W : Nat} {R : Nat → Int32} (h14 : ci S o 14 = R 3) (h15 : ci S o 15 = R 4) (vf : VF R W) (lw : LWS E Z P (cq S o) R W) : ∃ (q : Option Nat) (LS : Nat → (Nat → Int) → Option Int), LQ E P R q LS ∧ ∀ T : CS, ci T o = ci S o → cq T o = cq S o → C_7_lawInForce T o = some q := by
  obtain ⟨q, LS, g1, g2⟩ := law_q h14 vf.1 vf.2.1 lw vf.2.2
  rw [upd_self] at g1
  refine ⟨q, LS, g1, fun T e1 e2 => ?_⟩
  unfold C_7_lawInForce
  rw [e1, h15, g2 T e1 e2, bs]
theorem pa_3 {F : Nat} {E : Nat → ClassId} (hF : 1000 ≤ F) : ag_3 F E (Rel E) := fun S P σ x1 x2 h => by
  have hh := h
  obtain ⟨L, C, H, W, t, vr, lw, -, -, -, -, ko, -⟩ := hh
  have hC4 := vr.1.1.2.1
  have eC : C_7_hasChild S 1 x1 = some (isAt x1 C) := qc_hasChild hC4 (t.1.2.1.trans vr.1.1.2.2.2) x1
  have eM : M_isChild (mI σ 0 0) x1 = some (isAt x1 C) := qm_isChild (S := mI σ 0 0) (by omega) vr.1.1.2.2.2 x1
  unfold C_10_of M_of
  rw [eC, bs, stt_d, eM, bs]
  by_cases z : isAt x1 C = 0
  · rw [if_pos z, if_pos z]; exact ⟨_, _, rfl, rfl, rel_0 h 0⟩
  rw [if_neg z, if_neg z]
  obtain ⟨c, hc, rfl⟩ := isAt_n0 (by omega) z
  obtain ⟨t6, t7, t8⟩ := t.2.2.1 c (by omega)
  obtain ⟨q, LS, lq, eq⟩ := force_q (S := S) (o := 1) t.1.2.2.2.1 t.1.2.2.2.2 vr.2.2.1 lw
  simp (disch := omega) only [a66, a18, a22, chk_in, nI_clamp, t6, t7, t8]
  by_cases e0 : x2 = 0
  · rw [if_pos e0, if_pos e0]; exact ⟨_, _, rfl, rfl, rel_0 h 0⟩
  rw [if_neg e0, if_neg e0]
  by_cases e1 : x2 = 1
  · rw [if_pos e1, if_pos e1]; exact ⟨_, _, rfl, rfl, rel_0 h 0⟩
  rw [if_neg e1, if_neg e1]
  by_cases e2 : x2 = 2
  · rw [if_pos e2, if_pos e2]; exact ⟨_, _, rfl, rfl, rel_0 h 0⟩
  rw [if_neg e2, if_neg e2]
  by_cases e3 : x2 = 3
  · rw [if_pos e3, if_pos e3, eq S rfl rfl, bs]
    obtain ⟨T, g1, g2⟩ := qc_turn lq hF (by decide) (t.tv (show c < 4 by omega)) vr.1 hc
    obtain ⟨τ, m1, m2⟩ := qm_turn (σ := mI σ 0 0) lq hF vr.1 hc ko.1
    rw [g1, bs, m1, bs]
    exact ⟨_, _, rfl, rfl, rel_KM (rel_KC (rel_0 h 0) (kw_kc g2)) (kl_km m2)⟩
  rw [if_neg e3, if_neg e3]
  by_cases e4 : x2 = 4
  · rw [if_pos e4, if_pos e4, eq S rfl rfl, bs]
    obtain ⟨T, g1, g2⟩ := qc_taken lq hF (by decide) (by decide) (t.tv (show c < 4 by omega)) vr.1 hc
    obtain ⟨τ, m1, m2⟩ := qm_laneOf (σ := mI σ 0 0) lq hF vr.1 hc ko.1
    rw [g1, bs, m1, bs]
    exact ⟨_, _, rfl, rfl, rel_KM (rel_KC (rel_0 h 0) (kw_kc g2)) (kl_km m2)⟩
  rw [if_neg e4, if_neg e4]
  exact ⟨_, _, rfl, rfl, rel_0 h 0⟩
theorem pa_4 {F : Nat} {E : Nat → ClassId} (hF : 1000 ≤ F) : ag_4 F E (Rel E) := fun S P σ x1 x2 x3 h => by
  have hh := h
  obtain ⟨L, C, H, W, t, vr, lw, -, -, -, -, ko, -⟩ := hh
  have hC4 := vr.1.1.2.1
  have hL10 := vr.1.1.1
  have eC : C_7_hasChild S 1 x1 = some (isAt x1 C) := qc_hasChild hC4 (t.1.2.1.trans vr.1.1.2.2.2) x1
  have eM : M_isChild (mI σ 0 0) x1 = some (isAt x1 C) := qm_isChild (S := mI σ 0 0) (by omega) vr.1.1.2.2.2 x1
  have fC : C_7_hasLane S 1 x2 = some (isAt x2 L) := qc_hasLane hL10 (t.1.1.trans vr.1.1.2.2.1) x2
  have fM : M_isLane (mI σ 0 0) x2 = some (isAt x2 L) := qm_isLane (S := mI σ 0 0) (by omega) vr.1.1.2.2.1 x2
  unfold C_10_asks M_asks
  rw [eC, bs, stt_d, eM, bs, fC, bs, fM, bs, qm_in01, bs]
  by_cases z : isAt x1 C = 0
  · rw [if_pos z, if_pos z]; exact ⟨_, _, rfl, rfl, rel_0 h 0⟩
  rw [if_neg z, if_neg z]
  by_cases y : isAt x2 L = 0
  · rw [if_pos y, if_pos y]; exact ⟨_, _, rfl, rfl, rel_0 h 0⟩
  rw [if_neg y, if_neg y]
  obtain ⟨c, hc, rfl⟩ := isAt_n0 (by omega) z
  obtain ⟨j, hj, rfl⟩ := isAt_n0 (by omega) y
  obtain ⟨q, LS, lq, eq⟩ := force_q (S := S) (o := 1) t.1.2.2.2.1 t.1.2.2.2.2 vr.2.2.1 lw
  by_cases e0 : x3 = 0
  · subst e0
    rw [if_pos rfl, if_neg (by decide), if_pos rfl]
    obtain ⟨T, g1, g2⟩ := qc_said lq hF (by decide) (by decide) (fun T k => eq T (congrFun k.1 1) (congrFun k.2.2.1 1)) (t.tv (show c < 4 by omega)) vr.1 hc hj
    obtain ⟨τ, m1, m2⟩ := qm_said (σ := mI σ 0 0) lq hF vr.1 hc hj ko.1
    rw [g1, bs, m1, bs]
    exact ⟨_, _, rfl, rfl, rel_KM (rel_KC (rel_0 h 0) (kw_kc g2)) (kl_km m2)⟩
  rw [if_neg e0]
  by_cases e1 : x3 = 1
  · subst e1
    rw [if_pos rfl, if_neg (by decide), if_neg (by decide), eq S rfl rfl, bs]
    obtain ⟨T, g1, g2, -⟩ := qc_bar lq hF (by decide) (t.tv (show c < 4 by omega)) vr.1 hc hj
    obtain ⟨τ, m1, m2⟩ := qm_bar (σ := mI σ 0 0) lq hF vr.1 hc hj ko.1
    rw [g1, bs, m1, bs]
    have k : Rel E T P τ := rel_KM (rel_KC (rel_0 h 0) (kw_kc g2)) (kl_km m2)
    show ∃ q σ1, (if (if brB LS (ma σ 3) c j = true then (1 : Int32) else 0) = 0 then some ((0 : Int32), T) else some ((1 : Int32), T)) = some q ∧ (if (if brB LS (ma σ 3) c j = true then (1 : Int32) else 0) = 0 then some ((0 : Int32), τ) else some ((1 : Int32), τ)) = some (q.1, σ1) ∧ Rel E q.2 P σ1
    by_cases b : brB LS (ma σ 3) c j = true
    · rw [if_pos b, if_neg (by decide), if_neg (by decide)]; exact ⟨_, _, rfl, rfl, k⟩
    · rw [if_neg b, if_pos rfl, if_pos rfl]; exact ⟨_, _, rfl, rfl, k⟩
  rw [if_neg e1, if_pos (show isAt x3 2 = 0 from by
    rcases isAt_01 x3 2 with k | k
    · exact k
    · exfalso
      obtain ⟨i, hi, rfl⟩ := isAt_n0 (by decide) (show ¬ isAt x3 2 = 0 by rw [k]; decide)
      rcases (by omega : i = 0 ∨ i = 1) with rfl | rfl
      · exact e0 rfl
      · exact e1 rfl)]
  exact ⟨_, _, rfl, rfl, rel_0 h 0⟩
