/-- when it is found -/
def fFd (D : Nat → Nat → Nat) (a : Nat) (cr : Nat → Nat) : Nat → Nat → Nat
  | 0, _ => 1000000
  | k + 1, n => if D a (cr n) ≤ n then n else fFd D a cr k (n + 1)
theorem fFd_b (D : Nat → Nat → Nat) (a : Nat) (cr : Nat → Nat) : ∀ k n, n + k ≤ 61 → fFd D a cr k n = 1000000 ∨ fFd D a cr k n ≤ 60
  | 0, n, _ => Or.inl rfl
  | k + 1, n, h => by
    unfold fFd
    by_cases z : D a (cr n) ≤ n
    · rw [if_pos z]; omega
    · rw [if_neg z]; exact fFd_b D a cr k (n + 1) (by omega)
theorem meetsL {F : Nat} {S : CS} {D : Nat → Nat → Nat} {a B : Nat} {cr : Nat → Nat} (m : MT nI (ca S 13 1) D) (hB : B ≤ 5000) (hb : BD D B) (ha : a < 8) (hT : ∀ i, i ≤ 60 → ca S 11 4 i = nI (cr i) ∧ cr i < 8) : ∀ (k n fuel : Nat), n + k = 61 → k < fuel → C_8_meets_L2 F S (nI a) fuel (nI n) = some (nI (fFd D a cr k n))
  | 0, n, fuel + 1, e, _ => by
    rw [C_8_meets_L2, if_pos (show (61 : Int32) ≤ nI n from nI_le (a := 61) (by omega) (by omega))]; rfl
  | k + 1, n, fuel + 1, e, hf => by
    have hd := hb a (cr n)
    rw [C_8_meets_L2, if_neg (show ¬ (61 : Int32) ≤ nI n from nI_ge (b := 61) (by omega) (by decide)), chk_in (by omega) (by decide), nI_clamp (by omega), (hT n (by omega)).1, qc_btw ha (hT n (by omega)).2, bs, m a _ ha (hT n (by omega)).2, ← nI_succ, meetsL m hB hb ha hT k (n + 1) fuel (by omega) (by omega), fFd]
    by_cases z : D a (cr n) ≤ n
    · rw [if_pos z, if_neg (nI_nlt (by omega) (by omega))]
    · rw [if_neg z, if_pos (nI_lt (by omega) (by omega))]
theorem qc_meets {F : Nat} {S : CS} {D : Nat → Nat → Nat} {a B : Nat} {cr : Nat → Nat} (hF : 1000 ≤ F) (m : MT nI (ca S 13 1) D) (hB : B ≤ 5000) (hb : BD D B) (ha : a < 8) (hT : ∀ i, i ≤ 60 → ca S 11 4 i = nI (cr i) ∧ cr i < 8) : C_8_meets F S (nI a) = some (nI (fFd D a cr 61 0)) := meetsL m hB hb ha hT 61 0 F (by omega) (by omega)
/-- the corners of a child, hour by hour -/
def crO (LS : Nat → (Nat → Int) → Option Int) (R : Nat → Int32) (L C c i : Nat) : Nat := (itR LS R L C i (18 + c)).toNatClampNeg
theorem crO_ok {LS : Nat → (Nat → Int) → Option Int} {R : Nat → Int32} {L C h c : Nat} (va : VA R L C) (h5 : R 5 = nI h) (hh : h ≤ 999) (hc : c < C) {i : Nat} (hi : i ≤ 61) : itR LS R L C i (18 + c) = nI (crO LS R L C c i) ∧ crO LS R L C c i < 8 := by
  obtain ⟨-, ⟨k, hk, ek⟩, -⟩ := (itR_VA (LS := LS) va h5 i (by omega)).2.2.1 c hc
  unfold crO
  rw [ek, nI_clamp (by omega)]
  exact ⟨rfl, hk⟩
theorem foundL {E : Nat → ClassId} {P : va_W} {q : Option Nat} {LS : Nat → (Nat → Int) → Option Int} {F L C h c a B : Nat} {R : Nat → Int32} {D : Nat → Nat → Nat} (lq : LQ E P R q LS) (hF : 1000 ≤ F) (va : VA R L C) (h5 : R 5 = nI h) (hh : h ≤ 999) (hc : c < C) (ha : a < 8) (hB : B ≤ 5000) (hb : BD D B) : ∀ (k n fuel : Nat) (σ : MS), n + k = 61 → k < fuel → ma σ 3 = itR LS R L C n → mi σ 20 = 0 → MT fi (ma σ 42) D → ∃ τ m, M_foundAt_L8 F (nI a) (nI c) fuel σ (nI n) = (M_putBack F τ 16).bind (fun q1 => some (fi (fFd D a (crO LS R L C c) k n), q1.2)) ∧ KX σ τ ∧ ma τ 3 = itR LS R L C m
  | 0, n, fuel + 1, σ, e, _, e3, h20, mt => by
    rw [M_foundAt_L8, if_pos (show (60 : Int32) < nI n from nI_lt (a := 60) (by omega) (by omega))]
    unfold M_foundAt_B43
    refine ⟨σ, n, ?_, KX.rf, e3⟩
    simp only [if_neg (show ¬ nI n ≤ (60 : Int32) from nI_ge (a := 60) (by omega) (by omega))]; rfl
  | k + 1, n, fuel + 1, σ, e, hf, e3, h20, mt => by
    have hC := va.1.2.1
    have hcr := crO_ok (LS := LS) va h5 hh hc (i := n) (by omega)
    have hd := hb a (crO LS R L C c n)
    rw [M_foundAt_L8, if_neg (show ¬ (60 : Int32) < nI n from nI_nlt (a := 60) (by omega) (by decide)), a18, chk_in (by omega) (by decide), nI_clamp (by omega), e3, hcr.1, qm_farOf mt hB hb ha hcr.2, bs]
    have ez : fi (D a (crO LS R L C c n)) ≤ nI n ↔ D a (crO LS R L C c n) ≤ n := by
      rcases hd with y | y
      · rw [y, fi_ge (Nat.le_refl _)]
        refine ⟨fun w => absurd w (nI_ge (b := 100000000) (by omega) (by decide)), fun w => by omega⟩
      · rw [fi_lt (by omega)]; exact nI_leI (by omega) (by omega)
    by_cases z : D a (crO LS R L C c n) ≤ n
    · rw [if_pos (ez.mpr z)]
      unfold M_foundAt_B43
      refine ⟨σ, n, ?_, KX.rf, e3⟩
      simp only [if_pos (show nI n ≤ (60 : Int32) from nI_le (b := 60) (by omega) (by decide)), fFd, if_pos z, fi_lt (show n < 1000000 by omega)]
    · rw [if_neg (fun w => z (ez.mp w))]
      obtain ⟨v, τ, g1, g2, g3, g4⟩ := qm_hour lq hF va h5 (by omega) e3 h20
      obtain ⟨τ', m, r1, r2, r3⟩ := foundL lq hF va h5 hh hc ha hB hb k (n + 1) fuel τ (by omega) (by omega) g2 g4 (by rw [g3.1 42 (by decide) (by decide)]; exact mt)
      rw [g1, bs, ← nI_succ]
      refine ⟨τ', m, ?_, g3.tr r2, r3⟩
      rw [r1, fFd, if_neg z]
theorem qm_foundAt {E : Nat → ClassId} {P : va_W} {q : Option Nat} {LS : Nat → (Nat → Int) → Option Int} {F L C h c a B : Nat} {σ : MS} {R : Nat → Int32} {D : Nat → Nat → Nat} (lq : LQ E P R q LS) (hF : 1000 ≤ F) (e3 : ma σ 3 = R) (va : VA R L C) (h5 : R 5 = nI h) (hh : h ≤ 999) (hc : c < C) (ha : a < 8) (hB : B ≤ 5000) (hb : BD D B) (h20 : mi σ 20 = 0) (mt : MT fi (ma σ 42) D) : ∃ ρ, M_foundAt F σ (nI a) (nI c) = some (fi (fFd D a (crO LS R L C c) 61 0), ρ) ∧ KV σ ρ := by
  obtain ⟨τ, m, m1, m2, m3⟩ := foundL lq hF va h5 hh hc ha hB hb 61 0 F (kp16 σ) (by omega) (by omega) e3 h20 mt
  obtain ⟨ρ, b1, b2⟩ := qm_back16 (σ := σ) hF m2 (fun i hi => by rw [m3, e3]; exact itR_n va.1.2.1 (by omega) m)
  refine ⟨ρ, ?_, b2⟩
  unfold M_foundAt
  rw [qm_keep16 hF, bs]
  show M_foundAt_L8 F (nI a) (nI c) F (kp16 σ) (nI 0) = _
  rw [m1, b1, bs]
theorem pa_22 {F : Nat} {E : Nat → ClassId} (hF : 1000 ≤ F) : ag_22 F E (Rel E) := fun S P σ x1 x2 h => by
  have hh := h
  obtain ⟨L, C, H, W, t, vr, lw, -, -, -, -, ko, -⟩ := hh
  have hC4 := vr.1.1.2.1
  have eC : C_7_hasChild S 1 x2 = some (isAt x2 C) := qc_hasChild hC4 (t.1.2.1.trans vr.1.1.2.2.2) x2
  have eM : M_isChild (mI σ 0 0) x2 = some (isAt x2 C) := qm_isChild (S := mI σ 0 0) (by omega) vr.1.1.2.2.2 x2
  unfold C_10_found M_found
  rw [stt_d, qc_isCorner, qm_isCorner, bs, bs, eC, eM, bs, bs]
  by_cases z : isAt x1 8 = 0
  · rw [if_pos z, if_pos z]; exact ⟨_, _, rfl, rfl, rel_0 h 0⟩
  rw [if_neg z, if_neg z]
  by_cases y : isAt x2 C = 0
  · rw [if_pos y, if_pos y]; exact ⟨_, _, rfl, rfl, rel_0 h 0⟩
  rw [if_neg y, if_neg y]
  obtain ⟨a, ha, rfl⟩ := isAt_n0 (by decide) z
  obtain ⟨c, hc, rfl⟩ := isAt_n0 (by omega) y
  obtain ⟨f, g, c1, c2, c3⟩ := qc_measure hF vr.1 t
  obtain ⟨f', m1, m2⟩ := qm_layFar (σ := mI σ 0 0) hF vr.1
  obtain ⟨q, LS, lq, eq⟩ := force_q (S := S) (o := 1) t.1.2.2.2.1 t.1.2.2.2.2 vr.2.2.1 lw
  obtain ⟨hr, hr1, hr2⟩ := vr.2.2.2
  obtain ⟨T, r1, r2, r3⟩ := qc_follow (N := 60) (S := cF (cF S 13 0 g) 13 1 f) lq hF t lw.2 (eq _ rfl rfl) vr.1 hr2 hr1 (Nat.le_refl _) hc
  have r1' : C_9_follow F E P (cF (cF S 13 0 g) 13 1 f) 1 (nI c) 60 = some ((), T) := r1
  obtain ⟨ρ, p1, p2⟩ := qm_foundAt (σ := mF (mI σ 0 0) 42 f') (B := 2304) lq hF rfl vr.1 hr2 hr1 hc ha (by omega) (DD_b vr.1) ko.1 (by rw [ma_42]; exact m2)
  have q1 := qc_meets (S := T) (B := 2304) (cr := crO LS (ma σ 3) L C c) hF (by rw [r3.2.2 13 1 (by decide) (by decide) (by decide), ca_13]; exact c3) (by omega) (DD_b vr.1) ha (fun i hi => by rw [r2 i hi]; exact crO_ok vr.1 hr2 hr1 hc (by omega))
  rw [c1, bs, r1', bs, q1, bs, m1, bs, p1, bs]
  have k : Rel E T P ρ := rel_KM (rel_KC (rel_KM (rel_KC (rel_0 h 0) (kc_13 _ _ _)) (km_42 _ _)) r3.kc) p2.km
  rcases fFd_b (DD (ma σ 3) L) a (crO LS (ma σ 3) L C c) 61 0 (by omega) with w | w
  · rw [w, if_pos (by decide), fi_ge (Nat.le_refl _), if_pos rfl]; exact ⟨_, _, rfl, rfl, k⟩
  · rw [if_neg (show ¬ (1000000 : Int32) ≤ nI (fFd (DD (ma σ 3) L) a (crO LS (ma σ 3) L C c) 61 0) from nI_ge (b := 1000000) (by omega) (by decide)), fi_lt (by omega), if_neg (show ¬ nI (fFd (DD (ma σ 3) L) a (crO LS (ma σ 3) L C c) 61 0) = (100000000 : Int32) from fun w => by have := (nI_eq (b := 100000000) (by omega) (by decide)).mp w; omega)]
    exact ⟨_, _, rfl, rfl, k⟩
/-- the slowest of the first children -/
def mxF (v : Nat → Nat) : Nat → Nat
  | 0 => 0
  | c + 1 => if mxF v c < v c then v c else mxF v c
theorem mxF_b {v : Nat → Nat} (h : ∀ c, v c = 1000000 ∨ v c ≤ 60) : ∀ c, mxF v c = 1000000 ∨ mxF v c ≤ 60
  | 0 => Or.inr (Nat.zero_le _)
  | c + 1 => by unfold mxF; have := h c; have := mxF_b h c; split <;> omega
theorem fi_leI {x y : Nat} (hx : x = 1000000 ∨ x ≤ 5000) (hy : y = 1000000 ∨ y ≤ 5000) : fi x ≤ fi y ↔ x ≤ y := by
  rcases hx with rfl | hx <;> rcases hy with rfl | hy
  · exact ⟨fun _ => Nat.le_refl _, fun _ => by decide⟩
  · rw [fi_ge (Nat.le_refl _), fi_lt (by omega)]
    exact ⟨fun w => absurd w (nI_ge (b := 100000000) (by omega) (by decide)), fun w => by omega⟩
  · rw [fi_ge (x := 1000000) (Nat.le_refl _), fi_lt (by omega)]
    exact ⟨fun _ => by omega, fun _ => nI_le (b := 100000000) (by omega) (by decide)⟩
  · rw [fi_lt (by omega), fi_lt (by omega)]; exact nI_leI (by omega) (by omega)
theorem slowL {F : Nat} {T : CS} {D : Nat → Nat → Nat} {B c : Nat} {v : Nat → Nat → Nat} {cr : Nat → Nat} (hF : 1000 ≤ F) (m : MT nI (ca T 13 1) D) (hB : B ≤ 5000) (hb : BD D B) (hT : ∀ i, i ≤ 60 → ca T 11 4 i = nI (cr i) ∧ cr i < 8) (hv : ∀ a, v a c = fFd D a cr 61 0) (hm : ∀ a, v a c = 1000000 ∨ v a c ≤ 60) (hx : ∀ a, mxF (v a) c = 1000000 ∨ mxF (v a) c ≤ 60) : ∀ (t a fuel : Nat) (g : Nat → Int32), a + t = 8 → t < fuel → (∀ i, i < 8 → g i = nI (mxF (v i) (if i < a then c + 1 else c))) → ∃ g', C_8_slow_L2 F fuel (cF T 13 4 g) (nI a) = some ((), cF T 13 4 g') ∧ ∀ i, i < 8 → g' i = nI (mxF (v i) (c + 1))
  | 0, a, fuel + 1, g, e, _, h => by
    obtain rfl : a = 8 := by omega
    rw [C_8_slow_L2, if_pos (by decide)]
    exact ⟨g, rfl, fun i hi => by rw [h i hi, if_pos hi]⟩
  | t + 1, a, fuel + 1, g, e, hf, h => by
    have q1 := qc_meets (F := F) (S := cF T 13 4 g) (a := a) (cr := cr) hF (by rw [ca_cFn _ _ _ _ _ _ (Or.inr (by decide))]; exact m) hB hb (by omega) (fun i hi => by rw [ca_cFn _ _ _ _ _ _ (Or.inl (by decide))]; exact hT i hi)
    have ha := h a (by omega)
    rw [if_neg (Nat.lt_irrefl _)] at ha
    rw [C_8_slow_L2, if_neg (show ¬ (8 : Int32) ≤ nI a from nI_ge (b := 8) (by omega) (by decide)), chk_in (by omega) (by decide), q1, bs, chk_in (by omega) (by decide), nI_clamp (by omega), ca_cF, ha, ← hv, stc_d, cA_cF, ← nI_succ]
    refine slowL hF m hB hb hT hv hm hx t (a + 1) fuel _ (by omega) (by omega) (fun i hi => ?_)
    rw [upd_d]
    by_cases z : i = a
    · subst z
      rw [if_pos rfl, if_pos (show i < i + 1 by omega)]
      show _ = nI (if mxF (v i) c < v i c then v i c else mxF (v i) c)
      have := hm i; have := hx i
      by_cases y : mxF (v i) c < v i c
      · rw [if_pos y, if_pos (nI_lt y (by omega))]
      · rw [if_neg y, if_neg (nI_nlt (by omega) (by omega))]
    · rw [if_neg z, h i hi]
      by_cases y : i < a
      · rw [if_pos y, if_pos (by omega)]
      · rw [if_neg y, if_neg (by omega)]
/-- the quickest corner -/
def bst (m : Nat → Nat) : Nat → Nat
  | 0 => 0
  | k + 1 => if m k < m (bst m k) then k else bst m k
theorem bst_lt (m : Nat → Nat) : ∀ k, bst m k ≤ k
  | 0 => Nat.le_refl _
  | k + 1 => by unfold bst; have := bst_lt m k; split <;> omega
theorem quickL {F : Nat} {S : CS} {m : Nat → Nat} (hm : ∀ a, m a = 1000000 ∨ m a ≤ 60) (h : ∀ i, i < 8 → ca S 13 4 i = nI (m i)) : ∀ (t k fuel : Nat), k + t = 8 → 1 ≤ k → t < fuel → C_8_quickest_L4 F S fuel (nI (bst m k)) (nI k) = some (nI (bst m 8))
  | 0, k, fuel + 1, e, _, _ => by
    obtain rfl : k = 8 := by omega
    rw [C_8_quickest_L4, if_pos (by decide)]
  | t + 1, k, fuel + 1, e, h1, hf => by
    have hb := bst_lt m k
    have h3 := hm k; have h4 := hm (bst m k)
    have ih := quickL (F := F) hm h t (k + 1) fuel (by omega) (by omega) (by omega)
    rw [show bst m (k + 1) = if m k < m (bst m k) then k else bst m k from rfl] at ih
    by_cases y : bst m k < 8
    · rw [C_8_quickest_L4, if_neg (show ¬ (8 : Int32) ≤ nI k from nI_ge (b := 8) (by omega) (by decide)), chk_in (by omega) (by decide), chk_in y (by decide), nI_clamp (by omega), nI_clamp (by omega), h _ y, h k (by omega)]
      unfold C_8_quickest_B27
      rw [← nI_succ]
      by_cases z : m k < m (bst m k)
      · rw [if_pos z] at ih
        rw [if_neg (nI_ge z (by omega))]; exact ih
      · rw [if_neg z] at ih
        rw [if_pos (nI_le (by omega) (by omega))]; exact ih
    · omega
theorem post45 {E : Nat → ClassId} {P : va_W} {q : Option Nat} {LS : Nat → (Nat → Int) → Option Int} {F L C h B : Nat} {R : Nat → Int32} {S : CS} {f : Nat → Int32} {D : Nat → Nat → Nat} {x1 : Int32} (lq : LQ E P R q LS) (hF : 1000 ≤ F) (t : TW (ci S 1) (ca S 1) R) (hp : ∀ w, w < 6 → pok P 5 (cq S 1 w) = true) (hq : ∀ T : CS, ci T 1 = ci S 1 → cq T 1 = cq S 1 → C_7_lawInForce T 1 = some q) (va : VA R L C) (h5 : R 5 = nI h) (hh : h ≤ 999) (hB : B ≤ 5000) (hb : BD D B) (mf : MT nI f D) : ∀ (k c fuel : Nat) (S' : CS), c + k = C → k < fuel → ci S' 1 = ci S 1 → ca S' 1 = ca S 1 → cq S' 1 = cq S 1 → ca S' 13 1 = f → (∀ a, a < 8 → ca S' 13 4 a = nI (mxF (fun c => fFd D a (crO LS R L C c) 61 0) c)) → ∃ T, C_10_post_L45 F E P x1 fuel S' (nI c) = (if mxF (fun c => fFd D (bst (fun a => mxF (fun c => fFd D a (crO LS R L C c) 61 0) C) 8) (crO LS R L C c) 61 0) C < 1000000 then (if x1 = 0 then some (nI (bst (fun a => mxF (fun c => fFd D a (crO LS R L C c) 61 0) C) 8), T) else some (nI (mxF (fun c => fFd D (bst (fun a => mxF (fun c => fFd D a (crO LS R L C c) 61 0) C) 8) (crO LS R L C c) 61 0) C), T)) else some (-1, T)) ∧ KC S' T
  | 0, c, fuel + 1, S', e, _, e1, e2, e3, e4, e5 => by
    obtain rfl : c = C := by omega
    have hC := va.1.2.1
    have hm : ∀ a, mxF (fun i => fFd D a (crO LS R L c i) 61 0) c = 1000000 ∨ mxF (fun i => fFd D a (crO LS R L c i) 61 0) c ≤ 60 := fun a => mxF_b (fun i => fFd_b D a _ 61 0 (by omega)) c
    have e9 : ci S' 1 9 = nI c := by rw [e1, t.1.2.1]; exact va.1.2.2.2
    have qk := quickL (F := F) (S := S') (m := fun a => mxF (fun i => fFd D a (crO LS R L c i) 61 0) c) hm e5 7 1 F (by omega) (by omega) (by omega)
    have b1 : bst (fun a => mxF (fun i => fFd D a (crO LS R L c i) 61 0) c) 1 = 0 := by
      show (if _ < _ then 0 else _) = 0
      split <;> rfl
    rw [b1] at qk
    have bl : bst (fun a => mxF (fun i => fFd D a (crO LS R L c i) 61 0) c) 8 < 8 := by
      have aux : ∀ (m : Nat → Nat) k, bst m (k + 1) < k + 1 := fun m k => by
        induction k with
        | zero => show (if _ < _ then 0 else 0) < 1; split <;> omega
        | succ k ih =>
          show (if _ < _ then k + 1 else bst m (k + 1)) < k + 1 + 1
          split <;> omega
      exact aux _ 7
    rw [C_10_post_L45, e9, if_pos (nI_le (Nat.le_refl _) (by omega))]
    unfold C_8_quickest
    show ∃ T, (C_8_quickest_L4 F S' F (nI 0) (nI 1)).bind _ = _ ∧ _
    rw [qk, bs, chk_in bl (by decide), nI_clamp (by omega), e5 _ bl]
    refine ⟨S', ?_, KC.rf⟩
    have := hm (bst (fun a => mxF (fun i => fFd D a (crO LS R L c i) 61 0) c) 8)
    by_cases z : mxF (fun i => fFd D (bst (fun a => mxF (fun i => fFd D a (crO LS R L c i) 61 0) c) 8) (crO LS R L c i) 61 0) c < 1000000
    · rw [if_pos z, if_pos (show nI _ < (1000000 : Int32) from nI_lt (b := 1000000) z (by decide))]
    · rw [if_neg z, if_neg (show ¬ nI _ < (1000000 : Int32) from nI_nlt (b := 1000000) (by omega) (by omega))]
  | k + 1, c, fuel + 1, S', e, hf, e1, e2, e3, e4, e5 => by
    have hC := va.1.2.1
    have e9 : ci S' 1 9 = nI C := by rw [e1, t.1.2.1]; exact va.1.2.2.2
    obtain ⟨T, r1, r2, r3⟩ := qc_follow (N := 60) (S := S') (c := c) lq hF (by rw [e1, e2]; exact t) (by rw [e3]; exact hp) (hq S' e1 e3) va h5 hh (Nat.le_refl _) (by omega)
    have r1' : C_9_follow F E P S' 1 (nI c) 60 = some ((), T) := r1
    have k13 : ∀ k, ca T 13 k = ca S' 13 k := fun k => r3.2.2 13 k (by decide) (by decide) (by decide)
    obtain ⟨g', s1, s2⟩ := slowL (F := F) (T := T) (D := D) (c := c) (v := fun a c => fFd D a (crO LS R L C c) 61 0) (cr := crO LS R L C c) hF (by rw [k13, e4]; exact mf) hB hb (fun i hi => by rw [r2 i hi]; exact crO_ok va h5 hh (by omega) (by omega)) (fun a => rfl) (fun a => fFd_b D a _ 61 0 (by omega)) (fun a => mxF_b (fun i => fFd_b D a _ 61 0 (by omega)) c) 8 0 F (ca T 13 4) (by omega) (by omega) (fun i hi => by rw [if_neg (by omega), k13]; exact e5 i hi)
    rw [cF_self] at s1
    rw [C_10_post_L45, e9, if_neg (nI_ge (by omega) (by omega)), r1', bs]
    unfold C_8_slow
    show ∃ T', (C_8_slow_L2 F F T (nI 0)).bind _ = _ ∧ _
    rw [s1, bs, ← nI_succ]
    obtain ⟨T', a1, a2⟩ := post45 (x1 := x1) lq hF t hp hq va h5 hh hB hb mf k (c + 1) fuel (cF T 13 4 g') (by omega) (by omega) (by rw [← e1]; exact (r3.1 1 (by decide)).1) (by
      rw [← e2]; funext k
      rw [ca_cFn _ _ _ _ _ _ (Or.inl (by decide))]; exact r3.2.2 1 k (by decide) (by decide) (by decide)) (by rw [← e3]; exact (r3.1 1 (by decide)).2) (by rw [ca_cFn _ _ _ _ _ _ (Or.inr (by decide)), k13, e4]) (fun a ha => by rw [ca_cF]; exact s2 a ha)
    refine ⟨T', a1, (r3.kc.tr ?_).tr a2⟩
    exact ⟨⟨rfl, rfl, rfl, rfl, rfl⟩, ⟨rfl, rfl, rfl⟩, ⟨rfl, rfl⟩, ⟨rfl, rfl⟩, ⟨rfl, rfl, rfl, rfl⟩, rfl⟩
