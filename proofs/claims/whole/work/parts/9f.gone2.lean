/-- the reference -/
def K43 (σ τ : MS) : Prop := (∀ k, k ≠ 43 → k ≠ 44 → ma τ k = ma σ k) ∧ mi τ = mi σ ∧ mb τ = mb σ
theorem K43.rf {σ : MS} : K43 σ σ := ⟨fun _ _ _ => rfl, rfl, rfl⟩
theorem K43.tr {σ τ υ : MS} (h : K43 σ τ) (k : K43 τ υ) : K43 σ υ := ⟨fun i a b => (k.1 i a b).trans (h.1 i a b), k.2.1.trans h.2.1, k.2.2.trans h.2.2⟩
theorem k43_F (σ : MS) {k : Nat} (hk : k = 43 ∨ k = 44) (f : Nat → Int32) : K43 σ (mF σ k f) := ⟨fun i a b => by show va_up σ.2.2.1 k f i = _; rw [up_d, if_neg (by omega)], rfl, rfl⟩
theorem K43.km {σ τ : MS} (h : K43 σ τ) : KM σ τ := by
  obtain ⟨h1, h2, h3⟩ := h
  exact ⟨⟨h1 2 (by decide) (by decide), h1 3 (by decide) (by decide), h1 4 (by decide) (by decide), h1 5 (by decide) (by decide), fun j _ => by rw [h1 6 (by decide) (by decide)], h1 7 (by decide) (by decide), h1 12 (by decide) (by decide), h1 55 (by decide) (by decide)⟩, ⟨congrFun h2 1, congrFun h2 8, congrFun h2 11, congrFun h2 13, congrFun h2 18, congrFun h2 20, congrFun h2 52, congrFun h2 56, congrFun h2 57⟩, congrFun h3 31, congrFun h3 32, congrFun h3 33, congrFun h3 48⟩
theorem g166 {F : Nat} {σ : MS} {k32 : MS → Int32 → Option (Int32 × MS)} {x2 : Int32} : ∀ (t c fuel : Nat) (f : Nat → Int32), c + t = 8 → t < fuel → (∀ i, i < c → f i = ma σ 44 i) → ∃ f', M_goneFrom_L166 F k32 x2 fuel (mF σ 43 f) (nI c) = k32 (mF σ 43 f') (x2 + 1) ∧ ∀ i, i < 8 → f' i = ma σ 44 i
  | 0, c, fuel + 1, f, e, _, h => by
    obtain rfl : c = 8 := by omega
    rw [M_goneFrom_L166, if_pos (by decide)]
    exact ⟨f, rfl, h⟩
  | t + 1, c, fuel + 1, f, e, hf, h => by
    rw [M_goneFrom_L166, if_neg (show ¬ (8 : Int32) ≤ nI c from nI_ge (b := 8) (by omega) (by decide)), chk_in (by omega) (by decide), chk_in (by omega) (by decide), nI_clamp (by omega), stt_d, mA_F, mF_mF, ma_F, ← nI_succ]
    refine g166 t (c + 1) fuel _ (by omega) (by omega) (fun i hi => ?_)
    rw [upd_d]
    by_cases z : i = c
    · rw [if_pos z, z]; rfl
    · rw [if_neg z]; exact h i (by omega)
theorem g65 {F L C i : Nat} {σ : MS} {p : Nat → Nat} {k32 : MS → Int32 → Option (Int32 × MS)} (hF : 1000 ≤ F) (va : VA (ma σ 3) L C) (hi : i < 6) (hp : ∀ c, c < 8 → ma σ 43 c = nI (p c)) : ∀ (k j fuel : Nat) (f : Nat → Int32), j + k = L → k < fuel → (∀ c, c < 8 → f c = nI (gw (ma σ 3) (ma σ 3 (70 + i)) p j c)) → ∃ f' g, M_goneFrom_L65 F k32 (nI i) fuel (mF σ 44 f) (nI j) = k32 (mF (mF σ 44 f') 43 g) (nI i + 1) ∧ ∀ c, c < 8 → g c = nI (gw (ma σ 3) (ma σ 3 (70 + i)) p L c)
  | 0, j, fuel + 1, f, e, _, h => by
    obtain rfl : j = L := by omega
    have hL := va.1.1
    rw [M_goneFrom_L65, show ma (mF σ 44 f) 3 0 = nI j from va.1.2.2.1, if_pos (nI_le (Nat.le_refl _) (by omega))]
    obtain ⟨g, r1, r2⟩ := g166 (F := F) (σ := mF σ 44 f) (k32 := k32) (x2 := nI i) 8 0 F (ma (mF σ 44 f) 43) (by omega) (by omega) (fun i hi => by omega)
    rw [mF_self] at r1
    refine ⟨f, g, r1, fun c hc => ?_⟩
    rw [r2 c hc, ma_F]; exact h c hc
  | k + 1, j, fuel + 1, f, e, hf, h => by
    have hL := va.1.1
    obtain ⟨ea, eb, -, ha, hb, ne, -⟩ := ml_ok (va.2.1 j (by omega))
    have f3 : ∀ f : Nat → Int32, ma (mF σ 44 f) 3 = ma σ 3 := fun f => rfl
    have f43 : ∀ f : Nat → Int32, ma (mF σ 44 f) 43 = ma σ 43 := fun f => rfl
    rw [M_goneFrom_L65, show ma (mF σ 44 f) 3 0 = nI L from va.1.2.2.1, if_neg (nI_ge (by omega) (by omega)), a8, a70, a26, a36, chk_in (by omega) (by decide), chk_in (by omega) (by decide), nI_clamp (by omega), nI_clamp (by omega), nI_clamp (by omega), nI_clamp (by omega), f3]
    unfold M_goneFrom_B158
    rw [← nI_succ]
    by_cases z : ma σ 3 (8 + j) = ma σ 3 (70 + i)
    · rw [if_pos z, chk_in (by omega) (by decide), ea, eb, chk_in hb (by decide), chk_in (by omega) (by decide), chk_in ha (by decide), chk_in hb (by decide), stt_d, chk_in (by omega) (by decide), mA_F, mF_mF, f3, ea, eb, chk_in ha (by decide), chk_in (by omega) (by decide), chk_in hb (by decide), chk_in ha (by decide), stt_d, nI_clamp (by omega), nI_clamp (by omega), mA_F, mF_mF, ma_F, ma_F, f43, f43, h _ hb, pk_un (by omega), h _ ha, hp _ ha, hp _ hb, nI_add, nI_add]
      refine g65 hF va hi hp k (j + 1) fuel _ (by omega) (by omega) (fun c hc => ?_)
      rw [gw_s, if_pos z, upd_d, upd_d]
      by_cases y : c = mlA (ma σ 3) j
      · rw [if_pos y, if_neg (by omega), if_pos y, y]
      · rw [if_neg y]
        by_cases w : c = mlB (ma σ 3) j
        · rw [if_pos w, if_pos w, w]
        · rw [if_neg w, if_neg w, if_neg y, Nat.add_zero]; exact h c hc
    · rw [if_neg z]
      refine g65 hF va hi hp k (j + 1) fuel _ (by omega) (by omega) (fun c hc => ?_)
      rw [gw_s, if_neg z, Nat.add_zero]; exact h c hc
theorem g44 {F : Nat} {σ : MS} {k32 : MS → Int32 → Option (Int32 × MS)} {x2 : Int32} : ∀ (t c fuel : Nat) (f : Nat → Int32), c + t = 8 → t < fuel → (∀ i, i < c → f i = 0) → ∃ f', M_goneFrom_L44 F k32 x2 fuel (mF σ 44 f) (nI c) = M_goneFrom_L65 F k32 x2 F (mF σ 44 f') 0 ∧ ∀ i, i < 8 → f' i = 0
  | 0, c, fuel + 1, f, e, _, h => by
    obtain rfl : c = 8 := by omega
    rw [M_goneFrom_L44, if_pos (by decide)]
    exact ⟨f, rfl, h⟩
  | t + 1, c, fuel + 1, f, e, hf, h => by
    rw [M_goneFrom_L44, if_neg (show ¬ (8 : Int32) ≤ nI c from nI_ge (b := 8) (by omega) (by decide)), chk_in (by omega) (by decide), nI_clamp (by omega), stt_d, mA_F, mF_mF, ma_F, ← nI_succ]
    refine g44 t (c + 1) fuel _ (by omega) (by omega) (fun i hi => ?_)
    rw [upd_d]
    by_cases z : i = c
    · rw [if_pos z]
    · rw [if_neg z]; exact h i (by omega)
theorem g200 {F : Nat} {σ : MS} {p : Nat → Nat} (hp : ∀ c, c < 8 → ma σ 43 c = nI (p c)) : ∀ (t c fuel : Nat), c + t = 8 → t < fuel → M_goneFrom_L200 F σ fuel (nI (sm p c)) (nI c) = some (nI (sm p 8), σ)
  | 0, c, fuel + 1, e, _ => by
    obtain rfl : c = 8 := by omega
    rw [M_goneFrom_L200, if_pos (by decide)]
  | t + 1, c, fuel + 1, e, hf => by
    rw [M_goneFrom_L200, if_neg (show ¬ (8 : Int32) ≤ nI c from nI_ge (b := 8) (by omega) (by decide)), chk_in (by omega) (by decide), nI_clamp (by omega), hp c (by omega), nI_add, ← nI_succ]
    exact g200 hp t (c + 1) fuel (by omega) (by omega)
theorem g32 {F L C H b : Nat} {R : Nat → Int32} (hF : 1000 ≤ F) (va : VA R L C) (vh : VH R H) : ∀ (k i fuel : Nat) (σ : MS), i + k = H → k < fuel → ma σ 3 = R → (∀ c, c < 8 → ma σ 43 c = nI (gP R L b i c)) → ∃ τ, M_goneFrom_L32 F fuel σ (nI i) = some (nI (sm (gP R L b H) 8), τ) ∧ K43 σ τ ∧ ∀ c, c < 8 → ma τ 43 c = nI (gP R L b H c)
  | 0, i, fuel + 1, σ, e, _, e3, h => by
    obtain rfl : i = H := by omega
    have hH := vh.1
    rw [M_goneFrom_L32, show ma σ 3 2 = nI i by rw [e3]; exact vh.2.1, if_pos (nI_le (Nat.le_refl _) (by omega))]
    exact ⟨σ, g200 h 8 0 F (by omega) (by omega), K43.rf, h⟩
  | k + 1, i, fuel + 1, σ, e, hf, e3, h => by
    have hH := vh.1
    rw [M_goneFrom_L32, show ma σ 3 2 = nI H by rw [e3]; exact vh.2.1, if_neg (nI_ge (by omega) (by omega))]
    obtain ⟨f', r1, r2⟩ := g44 (F := F) (σ := σ) (k32 := M_goneFrom_L32 F fuel) (x2 := nI i) 8 0 F (ma σ 44) (by omega) (by omega) (fun i hi => by omega)
    rw [mF_self] at r1
    obtain ⟨f2, g, s1, s2⟩ := g65 (F := F) (σ := σ) (i := i) (k32 := M_goneFrom_L32 F fuel) hF (by rw [e3]; exact va) (by omega) h L 0 F f' (by omega) (by have := va.1.1; omega) (fun c hc => by rw [r2 c hc]; rfl)
    have r1' : M_goneFrom_L44 F (M_goneFrom_L32 F fuel) (nI i) F σ 0 = M_goneFrom_L65 F (M_goneFrom_L32 F fuel) (nI i) F (mF σ 44 f') (nI 0) := r1
    rw [r1', s1, ← nI_succ]
    rw [e3] at s2
    have kk : K43 σ (mF (mF σ 44 f2) 43 g) := (k43_F _ (Or.inr rfl) _).tr (k43_F _ (Or.inl rfl) _)
    obtain ⟨τ, u1, u2, u3⟩ := g32 (F := F) (b := b) hF va vh k (i + 1) fuel (mF (mF σ 44 f2) 43 g) (by omega) (by omega) e3 (fun c hc => by rw [ma_F]; exact s2 c hc)
    exact ⟨τ, u1, kk.tr u2, u3⟩
theorem g2L {F b : Nat} {σ : MS} (hb : b < 8) : ∀ (t c fuel : Nat) (f : Nat → Int32), c + t = 8 → t < fuel → (∀ i, i < c → f i = nI (if i = b then 1 else 0)) → ∃ f', M_goneFrom_L2 F (nI b) fuel (mF σ 43 f) (nI c) = M_goneFrom_L32 F F (mF σ 43 f') 0 ∧ ∀ i, i < 8 → f' i = nI (if i = b then 1 else 0)
  | 0, c, fuel + 1, f, e, _, h => by
    obtain rfl : c = 8 := by omega
    rw [M_goneFrom_L2, if_pos (by decide)]
    exact ⟨f, rfl, h⟩
  | t + 1, c, fuel + 1, f, e, hf, h => by
    rw [M_goneFrom_L2, if_neg (show ¬ (8 : Int32) ≤ nI c from nI_ge (b := 8) (by omega) (by decide))]
    unfold M_goneFrom_B23
    rw [chk_in (by omega) (by decide), chk_in (by omega) (by decide), nI_clamp (by omega), stt_d, stt_d, mA_F, mA_F, mF_mF, mF_mF, ma_F, ← nI_succ]
    by_cases z : c = b
    · rw [if_pos (by rw [z])]
      refine g2L hb t (c + 1) fuel _ (by omega) (by omega) (fun i hi => ?_)
      rw [upd_d]
      by_cases y : i = c
      · rw [if_pos y, if_pos (by omega)]; rfl
      · rw [if_neg y]; exact h i (by omega)
    · rw [if_neg (fun w => z ((nI_eq (by omega) (by omega)).mp w))]
      refine g2L hb t (c + 1) fuel _ (by omega) (by omega) (fun i hi => ?_)
      rw [upd_d]
      by_cases y : i = c
      · rw [if_pos y, if_neg (by omega)]; rfl
      · rw [if_neg y]; exact h i (by omega)
theorem qm_goneFrom {F L C H b : Nat} {σ : MS} {R : Nat → Int32} (hF : 1000 ≤ F) (e3 : ma σ 3 = R) (va : VA R L C) (vh : VH R H) (hb : b < 8) : ∃ τ, M_goneFrom F σ (nI b) = some (nI (sm (gP R L b H) 8), τ) ∧ K43 σ τ ∧ ∀ c, c < 8 → ma τ 43 c = nI (gP R L b H c) := by
  obtain ⟨f', r1, r2⟩ := g2L (F := F) (σ := σ) hb 8 0 F (ma σ 43) (by omega) (by omega) (fun i hi => by omega)
  rw [mF_self] at r1
  have hH := vh.1
  obtain ⟨τ, u1, u2, u3⟩ := g32 (F := F) (b := b) hF va vh H 0 F (mF σ 43 f') (by omega) (by omega) e3 (fun c hc => by rw [ma_F]; exact r2 c hc)
  refine ⟨τ, ?_, (k43_F _ (Or.inl rfl) _).tr u2, u3⟩
  unfold M_goneFrom
  show M_goneFrom_L2 F (nI b) F σ (nI 0) = _
  rw [r1]; exact u1
theorem g68 {F : Nat} {σ : MS} {p : Nat → Nat} {k29 : MS → Int32 → Int32 → Int32 → Int32 → Option (Int32 × MS)} {x1 x2 x3 x5 : Int32} (hb : ∀ c, p c ≤ 1000000) (hp : ∀ c, c < 8 → ma σ 43 c = nI (p c)) : ∀ (t c fuel : Nat) (y : Int32), c + t = 8 → t < fuel → M_gone_L68 F k29 σ x1 x2 x3 x5 fuel y (nI c) = k29 σ x2 x3 (fn2 p t c y) (x5 + 1)
  | 0, c, fuel + 1, y, e, _ => by
    obtain rfl : c = 8 := by omega
    rw [M_gone_L68, if_pos (by decide)]; rfl
  | t + 1, c, fuel + 1, y, e, hf => by
    have := hb c
    have ih := fun y => g68 (F := F) (k29 := k29) (x1 := x1) (x2 := x2) (x3 := x3) (x5 := x5) hb hp t (c + 1) fuel y (by omega) (by omega)
    rw [M_gone_L68, if_neg (show ¬ (8 : Int32) ≤ nI c from nI_ge (b := 8) (by omega) (by decide)), chk_in (by omega) (by decide), nI_clamp (by omega), hp c (by omega)]
    unfold M_gone_B95
    rw [← nI_succ, ih, ih, or_0, fn2]
    by_cases z : 0 < p c
    · rw [if_neg (nI_nle z (by omega)), if_pos z]
    · have z0 : p c = 0 := by omega
      rw [if_pos (show nI (p c) ≤ 0 by rw [z0]; decide), if_neg z]
theorem g29 {F L C H : Nat} {R : Nat → Int32} {x1 : Int32} (hF : 1000 ≤ F) (va : VA R L C) (vh : VH R H) : ∀ (k b fuel : Nat) (σ : MS), b + k = 8 → k < fuel → ma σ 3 = R → ∃ τ, M_gone_L29 F x1 fuel σ (nI (gN R L H b)) (gX1 R L H b) (gY1 R L H b) (nI b) = (if x1 = 0 then some (nI (gN R L H 8), τ) else if x1 = (1 : Int32) then some (gX1 R L H 8, τ) else some (gY1 R L H 8, τ)) ∧ K43 σ τ
  | 0, b, fuel + 1, σ, e, _, e3 => by
    obtain rfl : b = 8 := by omega
    rw [M_gone_L29, if_pos (by decide)]
    exact ⟨σ, rfl, K43.rf⟩
  | k + 1, b, fuel + 1, σ, e, hf, e3 => by
    have hH := vh.1
    obtain ⟨τ, r1, r2, r3⟩ := qm_goneFrom (F := F) (σ := σ) (b := b) hF e3 va vh (by omega)
    obtain ⟨υ, s1, s2⟩ := g29 (F := F) (x1 := x1) hF va vh k (b + 1) fuel τ (by omega) (by omega) (by rw [r2.1 3 (by decide) (by decide), e3])
    have hs := sm_b (gP_6 (R := R) (b := b) va.1.1 hH) 8
    refine ⟨υ, ?_, r2.tr s2⟩
    rw [M_gone_L29, if_neg (show ¬ (8 : Int32) ≤ nI b from nI_ge (b := 8) (by omega) (by decide)), r1, bs]
    unfold M_gone_B63
    have h68 := fun x3 => g68 (F := F) (σ := τ) (k29 := M_gone_L29 F x1 fuel) (x1 := x1) (x2 := nI (gN R L H b) + nI (sm (gP R L b H) 8)) (x3 := x3) (x5 := nI b) (gP_6 va.1.1 hH) r3 8 0 F (gY1 R L H b) (by omega) (by omega)
    have h68' : ∀ x3, M_gone_L68 F (M_gone_L29 F x1 fuel) τ x1 (nI (gN R L H b) + nI (sm (gP R L b H) 8)) x3 (nI b) F (gY1 R L H b) 0 = _ := h68
    show (if nI (sm (gP R L b H) 8) ≤ 0 then M_gone_L68 F (M_gone_L29 F x1 fuel) τ x1 (nI (gN R L H b) + nI (sm (gP R L b H) 8)) (gX1 R L H b ||| 0) (nI b) F (gY1 R L H b) 0 else M_gone_L68 F (M_gone_L29 F x1 fuel) τ x1 (nI (gN R L H b) + nI (sm (gP R L b H) 8)) (gX1 R L H b ||| ((1 : Int32) <<< (nI b &&& 31))) (nI b) F (gY1 R L H b) 0) = _
    rw [h68', h68', or_0, ← s1, nI_add, ← nI_succ]
    by_cases z : 0 < sm (gP R L b H) 8
    · rw [if_neg (nI_nle z (by omega)), show gX1 R L H (b + 1) = gX1 R L H b ||| ((1 : Int32) <<< (nI b &&& 31)) from if_pos z]; rfl
    · have z0 : sm (gP R L b H) 8 = 0 := by omega
      rw [if_pos (show nI (sm (gP R L b H) 8) ≤ 0 by rw [z0]; decide), show gX1 R L H (b + 1) = gX1 R L H b from if_neg z]; rfl
theorem pa_28 {F : Nat} {E : Nat → ClassId} (hF : 1000 ≤ F) : ag_28 F E (Rel E) := fun S P σ x h => by
  have hh := h
  obtain ⟨L, C, H, W, t, vr, -⟩ := hh
  have i2 : (2 : Int32).toInt = 2 := by decide
  unfold C_10_gone M_gone
  rw [stt_d, qm_in32 x 0 2 0 2 rfl rfl, bs]
  simp only [lt_i, le_i, i32_0, i2]
  by_cases y : 0 ≤ x.toInt ∧ x.toInt ≤ 2
  rotate_left
  · rw [if_neg y, if_pos rfl]
    refine ⟨(-1, S), _, ?_, rfl, rel_0 h 0⟩
    by_cases w : x.toInt < 0
    · rw [if_pos w]
    · rw [if_neg w, if_neg (by omega)]
  rw [if_neg (show ¬ x.toInt < 0 by omega), if_pos y.2, if_pos y, if_neg (show ¬ (1 : Int32) = 0 by decide)]
  obtain ⟨T, r1, r2, r3, r4, r5⟩ := qc_retrace hF vr.1 vr.2.1 t
  obtain ⟨τ, m1, m2⟩ := g29 (F := F) (x1 := x) (R := ma σ 3) hF vr.1 vr.2.1 8 0 F (mI σ 0 0) (by omega) (by omega) rfl
  have m1' : M_gone_L29 F x F (mI σ 0 0) 0 0 0 0 = _ := m1
  rw [r1, bs, m1', r3, r4, r5]
  have k : Rel E T P τ := rel_KM (rel_KC (rel_0 h 0) r2) m2.km
  by_cases v : x = 0
  · rw [if_pos v, if_pos v]; exact ⟨_, _, rfl, rfl, k⟩
  · rw [if_neg v, if_neg v]
    by_cases w : x = 1
    · rw [if_pos w, if_pos w]; exact ⟨_, _, rfl, rfl, k⟩
    · rw [if_neg w, if_neg w]; exact ⟨_, _, rfl, rfl, k⟩
