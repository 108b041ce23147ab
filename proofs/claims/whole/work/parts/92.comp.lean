theorem TV_4 {I : Nat → Int32} {A : Nat → Nat → Int32} {R : Nat → Int32} {c : Nat} (x : Int32) (t : TV I A R c) : TV I A (upd R 4 x) c := by
  have e : ∀ i, i ≠ 4 → upd R 4 x i = R i := fun i hi => pk_un hi
  obtain ⟨⟨t1, t2, t3, t4⟩, tl, ⟨c6, c7, c8⟩, h5, h7⟩ := t
  refine ⟨⟨by rw [e _ (by omega)]; exact t1, by rw [e _ (by omega)]; exact t2, by rw [e _ (by omega)]; exact t3, trivial⟩, fun j hj => ?_, ⟨by rw [e _ (by omega)]; exact c6, by rw [e _ (by omega)]; exact c7, by rw [e _ (by omega)]; exact c8⟩, by rw [e _ (by omega)]; exact h5, by rw [e _ (by omega)]; exact h7⟩
  rw [e _ (by omega), e _ (by omega), e _ (by omega), e _ (by omega)]; exact tl j hj
theorem qc_beyond {S : CS} {o L C c j : Nat} {R : Nat → Int32} (t : TV (ci S o) (ca S o) R c) (va : VA R L C) (hj : j < L) (he : R (26 + j) = R (18 + c) ∨ R (36 + j) = R (18 + c)) : C_7_endBeyond S o (nI j) (R (18 + c)) = some (acr R j (R (18 + c))) := by
  obtain ⟨⟨vL, vC, v0, v1⟩, -⟩ := va
  obtain ⟨⟨t1, t2, t3, t4⟩, tl, ⟨c6, c7, c8⟩, h5, h7⟩ := t
  obtain ⟨l0, l1, -, -⟩ := tl j (by omega)
  unfold C_7_endBeyond
  rw [qc_isEnd vL (t1.trans v0) l0 l1 hj, bs, if_pos he, if_neg (by decide), chk_in (by omega) (by decide), chk_in (by omega) (by decide), chk_in (by omega) (by decide), nI_clamp (by omega), l0, l1]
  unfold acr; split <;> rfl
theorem upd_4 (R : Nat → Int32) (x : Int32) : upd (upd R 4 x) 4 (R 4) = R := by
  funext i; rw [upd_d, upd_d]
  by_cases z : i = 4
  · rw [if_pos z, z]
  · rw [if_neg z, if_neg z]
theorem pa_36 {F : Nat} {E : Nat → ClassId} (hF : 1000 ≤ F) : ag_36 F E (Rel E) := fun S P σ x1 x2 h => by
  have hh := h
  obtain ⟨L, C, H, W, t, vr, lw, -, -, -, -, ko, -⟩ := hh
  have hC4 := vr.1.1.2.1
  have hL := vr.1.1.1
  obtain ⟨hW, f2, f3⟩ := vr.2.2.1
  have eL : M_isLaw (mI σ 0 0) x1 = _ := qm_isLaw (σ := mI σ 0 0) hW f2 x1
  have eH : C_7_hasLaw S 1 x1 = _ := qc_hasLaw hW (t.1.2.2.2.1.trans f2) x1
  have eC : C_7_hasChild S 1 x2 = some (isAt x2 C) := qc_hasChild hC4 (t.1.2.1.trans vr.1.1.2.2.2) x2
  have eM : M_isChild (mI σ 0 0) x2 = some (isAt x2 C) := qm_isChild (S := mI σ 0 0) (by omega) vr.1.1.2.2.2 x2
  have good : (x1 = -1 ∨ ∃ w, w < W ∧ x1 = nI w) → C_10_compare F E P S x1 x2 = C_10_compare_B16 F E P S x1 x2 → M_isLaw (mI σ 0 0) x1 = some 1 → ∃ (q : Int32 × CS) (σ1 : MS), C_10_compare F E P S x1 x2 = some q ∧ M_compare F σ x1 x2 = some (q.1, σ1) ∧ Rel E q.2 P σ1 := fun hx e1 e2 => by
    rw [e1]
    unfold C_10_compare_B16 M_compare
    rw [stt_d, e2, bs, if_neg (by decide), eC, bs, eM, bs]
    by_cases z : isAt x2 C = 0
    · rw [if_pos z, if_pos z]; exact ⟨_, _, rfl, rfl, rel_0 h 0⟩
    rw [if_neg z, if_neg z]
    obtain ⟨c, hc, rfl⟩ := isAt_n0 (by omega) z
    obtain ⟨q, LS, lq, eq⟩ := law_q (S := S) (o := 1) t.1.2.2.2.1 hW f2 lw hx
    have va : VA (upd (ma σ 3) 4 x1) L C := VA_cg (fun i hi => pk_un (by omega)) vr.1
    have tv := TV_4 x1 (t.tv (show c < 4 by omega))
    obtain ⟨T, g1, g2⟩ := qc_taken lq hF (by decide) (by decide) tv va hc
    obtain ⟨τ, m1, m2⟩ := qm_laneOf (σ := mA (mI σ 0 0) 3 4 x1) lq hF va hc ko.1
    have e3 : ma τ 3 = upd (ma σ 3) 4 x1 := congrFun m2.1 3
    have m1' : M_laneOf F (mA (mI σ 0 0) 3 4 x1) (nI c) = some (laneS LS (upd (ma σ 3) 4 x1) L c, τ) := m1
    have km : KM (mI σ 0 0) (mA τ 3 4 (ma σ 3 4)) := by
      have r3 : ma (mA τ 3 4 (ma σ 3 4)) 3 = ma σ 3 := by
        show upd (ma τ 3) 4 (ma σ 3 4) = _
        rw [e3, upd_4]
      have ra : ∀ k, k ≠ 3 → ma (mA τ 3 4 (ma σ 3 4)) k = ma σ k := fun k hk => by
        show va_up τ.2.2.1 3 _ k = _
        rw [up_d, if_neg hk, show τ.2.2.1 k = ma τ k from rfl, m2.1]
        show va_up σ.2.2.1 3 _ k = _
        rw [up_d, if_neg hk]
      exact ⟨⟨ra 2 (by decide), r3, ra 4 (by decide), ra 5 (by decide), fun j _ => by rw [ra 6 (by decide)]; rfl, ra 7 (by decide), ra 12 (by decide), ra 55 (by decide)⟩, ⟨m2.2.1 1 (by decide) (by decide), m2.2.1 8 (by decide) (by decide), m2.2.1 11 (by decide) (by decide), m2.2.1 13 (by decide) (by decide), m2.2.1 18 (by decide) (by decide), m2.2.1 20 (by decide) (by decide), m2.2.1 52 (by decide) (by decide), m2.2.1 56 (by decide) (by decide), m2.2.1 57 (by decide) (by decide)⟩, m2.2.2 31 (by decide) (by decide), m2.2.2 32 (by decide) (by decide), m2.2.2 33 (by decide) (by decide), m2.2.2 48 (by decide) (by decide)⟩
    have k : Rel E T P (mA τ 3 4 (ma σ 3 4)) := rel_KM (rel_KC (rel_0 h 0) (kw_kc g2)) km
    have t' := TW_KW (by decide) (by decide) g2 t
    have r3 : ma (mA τ 3 4 (ma σ 3 4)) 3 = ma σ 3 := by
      show upd (ma τ 3) 4 (ma σ 3 4) = _
      rw [e3, upd_4]
    rw [eq S rfl rfl, bs, g1, bs, chk_in (by omega) (by decide), nI_clamp (by omega), stt_d, m1', bs, stt_d, a18, chk_in (by omega) (by decide), chk_in (by omega) (by decide), nI_clamp (by omega)]
    have c7 : ca T 1 7 c = ma σ 3 (18 + c) := (t'.2.2.1 c (by omega)).2.1
    rcases laneS_c LS (upd (ma σ 3) 4 x1) L c with y | ⟨j, hj, y, ye⟩
    · rw [y, if_pos rfl, if_pos rfl]
      show ∃ q σ1, some (ca T 1 7 c, T) = some q ∧ some (ma (mA τ 3 4 (ma σ 3 4)) 3 (18 + c), mA τ 3 4 (ma σ 3 4)) = some (q.1, σ1) ∧ _
      rw [r3, c7]; exact ⟨_, _, rfl, rfl, k⟩
    · have nz : ¬ nI j = (-1 : Int32) := nI_m1 (by omega)
      have ye' : ma σ 3 (26 + j) = ma σ 3 (18 + c) ∨ ma σ 3 (36 + j) = ma σ 3 (18 + c) := by
        rw [pk_un (by omega), pk_un (by omega), pk_un (by omega)] at ye; exact ye
      rw [y, if_neg nz, if_neg nz]
      show ∃ q σ1, ((C_7_endBeyond T 1 (nI j) (ca T 1 7 c)).bind fun y4 => some (y4, T)) = some q ∧ ((M_across (mA τ 3 4 (ma σ 3 4)) (nI j) (ma (mA τ 3 4 (ma σ 3 4)) 3 (18 + c))).bind fun q7 => some (q7, mA τ 3 4 (ma σ 3 4))) = some (q.1, σ1) ∧ _
      rw [c7, qc_beyond (t'.tv (show c < 4 by omega)) vr.1 hj ye', bs, r3, qm_across (by omega), r3, bs]
      exact ⟨_, _, rfl, rfl, k⟩
  by_cases e : x1 = -1
  · refine good (Or.inl e) ?_ (by rw [eL, if_pos e])
    unfold C_10_compare; rw [if_pos e]
  · by_cases z : isAt x1 W = 0
    · refine ⟨(-1, S), mI σ 0 0, ?_, ?_, rel_0 h 0⟩
      · unfold C_10_compare; rw [if_neg e, eH, bs, if_pos z]
      · unfold M_compare; rw [stt_d, eL, if_neg e, bs, if_pos z]
    · have z1 : isAt x1 W = 1 := (isAt_01 x1 W).resolve_left z
      refine good (Or.inr (isAt_n0 (by omega) z)) ?_ (by rw [eL, if_neg e, z1])
      unfold C_10_compare; rw [if_neg e, eH, bs, if_neg z]
/-- do two lanes meet -/
def mtB (R : Nat → Int32) (l o : Nat) : Bool := decide (R (26 + l) = R (26 + o)) || decide (R (36 + l) = R (26 + o)) || decide (R (26 + l) = R (36 + o)) || decide (R (36 + l) = R (36 + o))
theorem mtB_d (R : Nat → Int32) (l o : Nat) : mtB R l o = true ↔ (R (26 + l) = R (26 + o) ∨ R (36 + l) = R (26 + o)) ∨ (R (26 + l) = R (36 + o) ∨ R (36 + l) = R (36 + o)) := by
  unfold mtB
  simp only [Bool.or_eq_true, decide_eq_true_eq, or_assoc]
theorem qm_have {σ : MS} {l o : Nat} (hl : l < 10) (ho : o < 10) : M_haveCorner σ (nI l) (nI o) = some (if mtB (ma σ 3) l o then 1 else 0) := by
  unfold M_haveCorner
  rw [a26, a36, chk_in (by omega) (by decide), chk_in (by omega) (by decide), nI_clamp (by omega), nI_clamp (by omega), qm_ends hl, qm_ends hl, bs, bs]
  by_cases z : ma σ 3 (26 + l) = ma σ 3 (26 + o) ∨ ma σ 3 (36 + l) = ma σ 3 (26 + o)
  · rw [if_pos z, if_neg (by decide), if_pos ((mtB_d _ _ _).mpr (Or.inl z))]; rfl
  · rw [if_neg z, if_pos rfl]
    by_cases y : ma σ 3 (26 + l) = ma σ 3 (36 + o) ∨ ma σ 3 (36 + l) = ma σ 3 (36 + o)
    · rw [if_pos y, if_neg (by decide), if_pos ((mtB_d _ _ _).mpr (Or.inr y))]; rfl
    · rw [if_neg y, if_pos rfl, if_neg (fun w => ((mtB_d _ _ _).mp w).elim z y)]
theorem qc_meet {S : CS} {n L l o : Nat} {R : Nat → Int32} (hL : L ≤ 10) (h0 : ci S n 5 = nI L) (tl : ∀ j, j < 10 → ca S n 0 j = R (26 + j) ∧ ca S n 1 j = R (36 + j)) (hl : l < L) (ho : o < L) : C_7_doMeet S n (nI l) (nI o) = some (if mtB R l o then 1 else 0) := by
  unfold C_7_doMeet
  obtain ⟨a0, a1⟩ := tl l (by omega)
  obtain ⟨b0, b1⟩ := tl o (by omega)
  rw [qc_hasLane hL h0, isAt_in hl (by omega), bs, if_neg (by decide), chk_in (by omega) (by decide), chk_in (by omega) (by decide), nI_clamp (by omega), a0, a1, qc_isEnd hL h0 b0 b1 ho, qc_isEnd hL h0 b0 b1 ho, bs, bs]
  have e : ((R (26 + o) = R (26 + l) ∨ R (36 + o) = R (26 + l)) ∨ (R (26 + o) = R (36 + l) ∨ R (36 + o) = R (36 + l))) ↔ mtB R l o = true := by
    rw [mtB_d]
    constructor
    · rintro ((h | h) | (h | h)) <;> simp [h]
    · rintro ((h | h) | (h | h)) <;> simp [h]
  by_cases z : R (26 + o) = R (26 + l) ∨ R (36 + o) = R (26 + l)
  · rw [if_pos z, if_neg (by decide), if_pos (e.mp (Or.inl z))]; rfl
  · rw [if_neg z, if_pos rfl]
    by_cases y : R (26 + o) = R (36 + l) ∨ R (36 + o) = R (36 + l)
    · rw [if_pos y, if_neg (by decide), if_pos (e.mp (Or.inr y))]; rfl
    · rw [if_neg y, if_pos rfl, if_neg (fun w => (e.mpr w).elim z y)]
/-- named alike -/
def al2 (R : Nat → Int32) (l : Nat) : Nat → Nat → Int32 → Int32
  | 0, _, x => x
  | k + 1, o, x => al2 R l k (o + 1) (if ¬ R (8 + l) = -1 ∧ R (8 + l) = R (8 + o) ∧ mtB R l o = true then x + 1 else x)
def al1 (R : Nat → Int32) (L : Nat) : Nat → Nat → Int32 → Int32
  | 0, _, x => x
  | k + 1, l, x => al1 R L k (l + 1) (al2 R l (L - (l + 1)) (l + 1) x)
theorem alC2 {F L l : Nat} {S : CS} {R : Nat → Int32} {k4 : Int32 → Int32 → Option Int32} (hL : L ≤ 10) (h0 : ci S 1 5 = nI L) (tl : ∀ j, j < 10 → ca S 1 0 j = R (26 + j) ∧ ca S 1 1 j = R (36 + j)) (tn : ∀ j, j < 10 → ca S 1 4 j = R (8 + j)) (hl : l < L) : ∀ (k o fuel : Nat) (x : Int32), o + k = L → k < fuel → C_10_alike_L19 F k4 S (nI l) fuel x (nI o) = k4 (al2 R l k o x) (nI l + 1)
  | 0, o, fuel + 1, x, e, _ => by
    rw [C_10_alike_L19, h0, if_pos (nI_le (by omega) (by omega))]; rfl
  | k + 1, o, fuel + 1, x, e, hf => by
    have ih := fun x => alC2 (F := F) (k4 := k4) hL h0 tl tn hl k (o + 1) fuel x (by omega) (by omega)
    rw [C_10_alike_L19, h0, if_neg (nI_ge (by omega) (by omega)), chk_in (by omega) (by decide), chk_in (by omega) (by decide), chk_in (by omega) (by decide), nI_clamp (by omega), nI_clamp (by omega), tn l (by omega), tn o (by omega), qc_meet hL h0 tl hl (by omega), bs]
    unfold C_10_alike_B79
    rw [← nI_succ, ih, ih, al2]
    by_cases z : R (8 + l) = -1
    · rw [if_pos z, if_neg (fun w => w.1 z)]
    · rw [if_neg z]
      by_cases y : R (8 + l) = R (8 + o)
      · rw [if_pos y]
        by_cases w : mtB R l o = true
        · rw [if_pos w, if_neg (by decide), if_pos ⟨z, y, w⟩]
        · rw [if_neg w, if_pos rfl, if_neg (fun u => w u.2.2)]
      · rw [if_neg y, if_neg (fun u => y u.2.1)]
theorem alC1 {F L : Nat} {S : CS} {R : Nat → Int32} (hF : 1000 ≤ F) (hL : L ≤ 10) (h0 : ci S 1 5 = nI L) (tl : ∀ j, j < 10 → ca S 1 0 j = R (26 + j) ∧ ca S 1 1 j = R (36 + j)) (tn : ∀ j, j < 10 → ca S 1 4 j = R (8 + j)) : ∀ (k l fuel : Nat) (x : Int32), l + k = L → k < fuel → C_10_alike_L4 F S fuel x (nI l) = some (al1 R L k l x)
  | 0, l, fuel + 1, x, e, _ => by
    rw [C_10_alike_L4, h0, if_pos (nI_le (by omega) (by omega))]; rfl
  | k + 1, l, fuel + 1, x, e, hf => by
    rw [C_10_alike_L4, h0, if_neg (nI_ge (by omega) (by omega)), ← nI_succ, alC2 hL h0 tl tn (by omega) (L - (l + 1)) (l + 1) F x (by omega) (by omega), ← nI_succ]
    exact alC1 hF hL h0 tl tn k (l + 1) fuel _ (by omega) (by omega)
theorem alM2 {F L l : Nat} {σ : MS} {k9 : Int32 → Int32 → Option (Int32 × MS)} (hL : L ≤ 10) (h0 : ma σ 3 0 = nI L) (hl : l < L) : ∀ (k o fuel : Nat) (x : Int32), o + k = L → k < fuel → M_alike_L23 F k9 σ (nI l) fuel x (nI o) = k9 (al2 (ma σ 3) l k o x) (nI l + 1)
  | 0, o, fuel + 1, x, e, _ => by
    rw [M_alike_L23, h0, if_pos (nI_le (by omega) (by omega))]; rfl
  | k + 1, o, fuel + 1, x, e, hf => by
    have ih := fun x => alM2 (F := F) (k9 := k9) hL h0 hl k (o + 1) fuel x (by omega) (by omega)
    rw [M_alike_L23, h0, if_neg (nI_ge (by omega) (by omega)), a8, a8, chk_in (by omega) (by decide), chk_in (by omega) (by decide), chk_in (by omega) (by decide), nI_clamp (by omega), nI_clamp (by omega), qm_have (by omega) (by omega), bs]
    unfold M_alike_B81 M_alike_B82
    rw [← nI_succ, Int32.add_zero, ih, ih, al2]
    by_cases z : ma σ 3 (8 + l) = -1
    · rw [if_pos z, if_neg (fun w => w.1 z)]
    · rw [if_neg z]
      by_cases y : ma σ 3 (8 + l) = ma σ 3 (8 + o)
      · rw [if_pos y]
        by_cases w : mtB (ma σ 3) l o = true
        · rw [if_pos w, if_neg (by decide), if_pos ⟨z, y, w⟩]
        · rw [if_neg w, if_pos rfl, if_neg (fun u => w u.2.2)]
      · rw [if_neg y, if_neg (fun u => y u.2.1)]
theorem alM1 {F L : Nat} {σ : MS} (hF : 1000 ≤ F) (hL : L ≤ 10) (h0 : ma σ 3 0 = nI L) : ∀ (k l fuel : Nat) (x : Int32), l + k = L → k < fuel → M_alike_L9 F σ fuel x (nI l) = some (al1 (ma σ 3) L k l x, σ)
  | 0, l, fuel + 1, x, e, _ => by
    rw [M_alike_L9, h0, if_pos (nI_le (by omega) (by omega))]; rfl
  | k + 1, l, fuel + 1, x, e, hf => by
    rw [M_alike_L9, h0, if_neg (nI_ge (by omega) (by omega)), ← nI_succ, alM2 hL h0 (by omega) (L - (l + 1)) (l + 1) F x (by omega) (by omega), ← nI_succ]
    exact alM1 hF hL h0 k (l + 1) fuel _ (by omega) (by omega)
theorem pa_32 {F : Nat} {E : Nat → ClassId} (hF : 1000 ≤ F) : ag_32 F E (Rel E) := fun S P σ h => by
  have hh := h
  obtain ⟨L, C, H, W, t, vr, -⟩ := hh
  have hL := vr.1.1.1
  refine ⟨al1 (ma σ 3) L L 0 0, mI σ 0 0, ?_, ?_, rel_0 h 0⟩
  · exact alC1 hF hL (t.1.1.trans vr.1.1.2.2.1) (fun j hj => ⟨(t.2.1 j hj).1, (t.2.1 j hj).2.1⟩) (fun j hj => (t.2.1 j hj).2.2.2.2) L 0 F 0 (by omega) (by omega)
  · exact alM1 (σ := mI σ 0 0) hF hL vr.1.1.2.2.1 L 0 F 0 (by omega) (by omega)
