/-- passing on paper leaves -/
def KX (σ τ : MS) : Prop := (∀ k, k ≠ 3 → k ≠ 41 → ma τ k = ma σ k) ∧ (∀ k, k ≠ 34 → k ≠ 38 → mi τ k = mi σ k) ∧ (∀ k, k ≠ 35 → k ≠ 37 → mb τ k = mb σ k)
theorem KX.rf {σ : MS} : KX σ σ := ⟨fun _ _ _ => rfl, fun _ _ _ => rfl, fun _ _ _ => rfl⟩
theorem KX.tr {σ τ υ : MS} (h : KX σ τ) (k : KX τ υ) : KX σ υ := ⟨fun i a b => (k.1 i a b).trans (h.1 i a b), fun i a b => (k.2.1 i a b).trans (h.2.1 i a b), fun i a b => (k.2.2 i a b).trans (h.2.2 i a b)⟩
theorem KP.kx {σ τ : MS} (h : KP σ τ) : KX σ τ := ⟨fun i _ b => h.1 i b, h.2.1, h.2.2⟩
theorem kx_3 (σ : MS) (f : Nat → Int32) : KX σ (mF σ 3 f) := ⟨fun k a _ => by show va_up σ.2.2.1 3 f k = _; rw [up_d, if_neg a], fun _ _ _ => rfl, fun _ _ _ => rfl⟩
/-- all but scratch is as it was -/
def KV (σ τ : MS) : Prop := (∀ k, k ≠ 6 → k ≠ 41 → ma τ k = ma σ k) ∧ (∀ j, j < 336 → ma τ 6 j = ma σ 6 j) ∧ (∀ k, k ≠ 34 → k ≠ 38 → mi τ k = mi σ k) ∧ (∀ k, k ≠ 35 → k ≠ 37 → mb τ k = mb σ k)
theorem KV.rf {σ : MS} : KV σ σ := ⟨fun _ _ _ => rfl, fun _ _ => rfl, fun _ _ _ => rfl, fun _ _ _ => rfl⟩
theorem KV.tr {σ τ υ : MS} (h : KV σ τ) (k : KV τ υ) : KV σ υ := ⟨fun i a b => (k.1 i a b).trans (h.1 i a b), fun j a => (k.2.1 j a).trans (h.2.1 j a), fun i a b => (k.2.2.1 i a b).trans (h.2.2.1 i a b), fun i a b => (k.2.2.2 i a b).trans (h.2.2.2 i a b)⟩
theorem KV.km {σ τ : MS} (h : KV σ τ) : KM σ τ := by
  obtain ⟨a, b, c, d⟩ := h
  exact ⟨⟨a 2 (by decide) (by decide), a 3 (by decide) (by decide), a 4 (by decide) (by decide), a 5 (by decide) (by decide), b, a 7 (by decide) (by decide), a 12 (by decide) (by decide), a 55 (by decide) (by decide)⟩, ⟨c 1 (by decide) (by decide), c 8 (by decide) (by decide), c 11 (by decide) (by decide), c 13 (by decide) (by decide), c 18 (by decide) (by decide), c 20 (by decide) (by decide), c 52 (by decide) (by decide), c 56 (by decide) (by decide), c 57 (by decide) (by decide)⟩, d 31 (by decide) (by decide), d 32 (by decide) (by decide), d 33 (by decide) (by decide), d 48 (by decide) (by decide)⟩
/-- kept, passed, put back -/
def kp16 (σ : MS) : MS := mF σ 6 (kpt (ma σ 3) 16 (ma σ 6) 21)
theorem qm_keep16 {F : Nat} {σ : MS} (hF : 1000 ≤ F) : M_keepAll F σ 16 = some ((), kp16 σ) := qm_keepAll (m := 16) (by omega) (by omega)
theorem qm_back16 {F : Nat} {σ τ : MS} (hF : 1000 ≤ F) (k : KX (kp16 σ) τ) (far : ∀ i, i < 5 ∨ 26 ≤ i → ma τ 3 i = ma σ 3 i) : ∃ ρ, M_putBack F τ 16 = some ((), ρ) ∧ KV σ ρ := by
  refine ⟨_, qm_putBack (m := 16) (by omega) (by omega), ?_⟩
  have e6 : ma τ 6 = kpt (ma σ 3) 16 (ma σ 6) 21 := k.1 6 (by decide) (by decide)
  have e3 : snap (ma τ 6) 16 (ma τ 3) = ma σ 3 := by
    funext i; unfold snap
    by_cases z : 5 ≤ i ∧ i < 26
    · rw [if_pos z, e6]; unfold kpt; rw [if_pos (by omega), show 5 + (21 * 16 + (i - 5) - 21 * 16) = i by omega]
    · rw [if_neg z]; exact far i (by omega)
  rw [e3]
  refine ⟨fun i a b => ?_, fun j hj => ?_, k.2.1, k.2.2⟩
  · show va_up τ.2.2.1 3 (ma σ 3) i = _
    rw [up_d]
    by_cases z : i = 3
    · rw [if_pos z, z]
    · rw [if_neg z]
      have : ma τ i = ma (kp16 σ) i := k.1 i z b
      rw [show τ.2.2.1 i = ma τ i from rfl, this]
      show va_up σ.2.2.1 6 _ i = _
      rw [up_d, if_neg a]
  · show ma τ 6 j = _
    rw [e6]; unfold kpt; rw [if_neg (by omega)]
/-- the reference's hours -/
theorem qm_hour {E : Nat → ClassId} {P : va_W} {q : Option Nat} {LS : Nat → (Nat → Int) → Option Int} {F L C h m : Nat} {R : Nat → Int32} {σ : MS} (lq : LQ E P R q LS) (hF : 1000 ≤ F) (va : VA R L C) (h5 : R 5 = nI h) (hm : h + m ≤ 1999) (e : ma σ 3 = itR LS R L C m) (h20 : mi σ 20 = 0) : ∃ v τ, M_passIt F σ = some (v, τ) ∧ ma τ 3 = itR LS R L C (m + 1) ∧ KX σ τ ∧ mi τ 20 = 0 := by
  have hC := va.1.2.1
  obtain ⟨τ, g1, g2⟩ := qm_passIt (σ := σ) (by rw [e]; exact itR_LQ (L := L) hC lq m) hF (by rw [e]; exact itR_VA va h5 m (by omega)) h20
  rw [e] at g1
  exact ⟨_, _, g1, ma_F _ _ _, g2.kx.tr (kx_3 _ _), (g2.2.1 20 (by decide) (by decide)).trans h20⟩
theorem whereL {E : Nat → ClassId} {P : va_W} {q : Option Nat} {LS : Nat → (Nat → Int) → Option Int} {F L C h c N : Nat} {R : Nat → Int32} (lq : LQ E P R q LS) (hF : 1000 ≤ F) (va : VA R L C) (h5 : R 5 = nI h) (hh : h ≤ 999) (hN : N ≤ 60) (hc : c < C) : ∀ (k m fuel : Nat) (σ : MS), m + k = N → k < fuel → ma σ 3 = itR LS R L C m → mi σ 20 = 0 → ∃ τ, M_where_L35 F (nI c) (nI N) fuel σ (nI m) = (M_putBack F τ 16).bind (fun q1 => some (itR LS R L C N (18 + c), q1.2)) ∧ KX σ τ ∧ ma τ 3 = itR LS R L C N
  | 0, m, fuel + 1, σ, e, _, e3, h20 => by
    obtain rfl : m = N := by omega
    have hC := va.1.2.1
    rw [M_where_L35, if_pos (nI_le (Nat.le_refl _) (by omega)), a18, chk_in (by omega) (by decide), nI_clamp (by omega), e3]
    exact ⟨σ, rfl, KX.rf, e3⟩
  | k + 1, m, fuel + 1, σ, e, hf, e3, h20 => by
    obtain ⟨v, τ, g1, g2, g3, g4⟩ := qm_hour lq hF va h5 (by omega) e3 h20
    obtain ⟨τ', r1, r2, r3⟩ := whereL lq hF va h5 hh hN hc k (m + 1) fuel τ (by omega) (by omega) g2 g4
    rw [M_where_L35, if_neg (nI_ge (by omega) (by omega)), g1, bs, ← nI_succ]
    exact ⟨τ', r1, g3.tr r2, r3⟩
theorem pa_20 {F : Nat} {E : Nat → ClassId} (hF : 1000 ≤ F) : ag_20 F E (Rel E) := fun S P σ x1 x2 h => by
  have hh := h
  obtain ⟨L, C, H, W, t, vr, lw, -, -, -, -, ko, -⟩ := hh
  have hC4 := vr.1.1.2.1
  have eC : C_7_hasChild S 1 x1 = some (isAt x1 C) := qc_hasChild hC4 (t.1.2.1.trans vr.1.1.2.2.2) x1
  have eM : M_isChild (mI σ 0 0) x1 = some (isAt x1 C) := qm_isChild (S := mI σ 0 0) (by omega) vr.1.1.2.2.2 x1
  have e60 : (60 : Int32).toInt = 60 := by decide
  unfold C_10_where M_where
  rw [eC, bs, stt_d, eM, bs]
  by_cases z : isAt x1 C = 0
  · rw [if_pos z, if_pos z]; exact ⟨_, _, rfl, rfl, rel_0 h 0⟩
  rw [if_neg z, if_neg z, qm_in32 x2 0 60 0 60 rfl rfl, bs]
  simp only [lt_i, le_i, i32_0, e60]
  by_cases y : 0 ≤ x2.toInt ∧ x2.toInt ≤ 60
  · rw [if_neg (by omega), if_pos y.2, if_pos y, if_neg (by decide)]
    obtain ⟨c, hc, rfl⟩ := isAt_n0 (by omega) z
    obtain ⟨N, hN, rfl⟩ : ∃ N : Nat, N ≤ 60 ∧ x2 = nI N := ⟨x2.toInt.toNat, by omega, nI_of' y.1⟩
    obtain ⟨q, LS, lq, eq⟩ := force_q (S := S) (o := 1) t.1.2.2.2.1 t.1.2.2.2.2 vr.2.2.1 lw
    obtain ⟨hr, hr1, hr2⟩ := vr.2.2.2
    obtain ⟨T, r1, r2, r3⟩ := qc_follow lq hF t lw.2 (eq S rfl rfl) vr.1 hr2 hr1 hN hc
    obtain ⟨τ, m1, m2, m3⟩ := whereL lq hF vr.1 hr2 hr1 hN hc N 0 F (kp16 (mI σ 0 0)) (by omega) (by omega) rfl ko.1
    obtain ⟨ρ, b1, b2⟩ := qm_back16 (σ := mI σ 0 0) hF m2 (fun i hi => by rw [m3]; exact itR_n hC4 (by omega) N)
    rw [r1, bs, chk_in (by omega) (by decide), nI_clamp (by omega), qm_keep16 hF, bs]
    show ∃ q σ1, some (ca T 11 4 N, T) = some q ∧ M_where_L35 F (nI c) (nI N) F (kp16 (mI σ 0 0)) (nI 0) = some (q.1, σ1) ∧ _
    rw [m1, b1, bs, r2 N (Nat.le_refl _)]
    exact ⟨_, _, rfl, rfl, rel_KM (rel_KC (rel_0 h 0) r3.kc) b2.km⟩
  · rw [if_neg y, if_pos rfl]
    refine ⟨(-1, S), _, ?_, rfl, rel_0 h 0⟩
    by_cases w : x2.toInt < 0
    · rw [if_pos w]
    · rw [if_neg w, if_neg (by omega)]
/-- back where it was -/
def fA (T : Nat → Int32) (x : Int32) : Nat → Nat → Int32
  | 0, _ => -1
  | k + 1, n => if T n = x then nI n else fA T x k (n + 1)
theorem againC {F : Nat} {E : Nat → ClassId} {P : va_W} {S : CS} {T : Nat → Int32} {x : Int32} (hT : ∀ i, i ≤ 60 → ca S 11 4 i = T i) (h0 : T 0 = x) : ∀ (k n fuel : Nat), n + k = 61 → k < fuel → C_10_again_L29 F E P S fuel (nI n) = some (fA T x k n, S)
  | 0, n, fuel + 1, e, _ => by
    rw [C_10_again_L29, if_pos (show (60 : Int32) < nI n from nI_lt (a := 60) (by omega) (by omega))]; rfl
  | k + 1, n, fuel + 1, e, hf => by
    rw [C_10_again_L29, if_neg (show ¬ (60 : Int32) < nI n from nI_nlt (a := 60) (by omega) (by decide)), chk_in (by omega) (by decide), nI_clamp (by omega), hT n (by omega), hT 0 (by omega), h0, ← nI_succ, againC hT h0 k (n + 1) fuel (by omega) (by omega), fA]
    split <;> rfl
theorem againM {E : Nat → ClassId} {P : va_W} {q : Option Nat} {LS : Nat → (Nat → Int) → Option Int} {F L C h c : Nat} {R : Nat → Int32} {x : Int32} (lq : LQ E P R q LS) (hF : 1000 ≤ F) (va : VA R L C) (h5 : R 5 = nI h) (hh : h ≤ 999) (hc : c < C) : ∀ (k n fuel : Nat) (σ : MS), n + k = 61 → k < fuel → ma σ 3 = itR LS R L C n → mi σ 20 = 0 → ∃ τ m, M_again_L38 F (nI c) x fuel σ (nI n) = (M_putBack F τ 16).bind (fun q1 => some (fA (fun i => itR LS R L C i (18 + c)) x k n, q1.2)) ∧ KX σ τ ∧ ma τ 3 = itR LS R L C m
  | 0, n, fuel + 1, σ, e, _, e3, h20 => by
    rw [M_again_L38, if_pos (show (60 : Int32) < nI n from nI_lt (a := 60) (by omega) (by omega))]
    unfold M_again_B68
    refine ⟨σ, n, ?_, KX.rf, e3⟩
    simp only [if_neg (show ¬ nI n ≤ (60 : Int32) from nI_ge (a := 60) (by omega) (by omega))]; rfl
  | k + 1, n, fuel + 1, σ, e, hf, e3, h20 => by
    have hC := va.1.2.1
    rw [M_again_L38, if_neg (show ¬ (60 : Int32) < nI n from nI_nlt (a := 60) (by omega) (by decide)), a18, chk_in (by omega) (by decide), nI_clamp (by omega), e3]
    by_cases z : itR LS R L C n (18 + c) = x
    · rw [if_pos z]
      unfold M_again_B68
      refine ⟨σ, n, ?_, KX.rf, e3⟩
      simp only [if_pos (show nI n ≤ (60 : Int32) from nI_le (b := 60) (by omega) (by decide)), fA, if_pos z]
    · rw [if_neg z]
      obtain ⟨v, τ, g1, g2, g3, g4⟩ := qm_hour lq hF va h5 (by omega) e3 h20
      obtain ⟨τ', m, r1, r2, r3⟩ := againM (x := x) lq hF va h5 hh hc k (n + 1) fuel τ (by omega) (by omega) g2 g4
      rw [g1, bs, ← nI_succ]
      refine ⟨τ', m, ?_, g3.tr r2, r3⟩
      rw [r1, fA, if_neg z]
theorem pa_25 {F : Nat} {E : Nat → ClassId} (hF : 1000 ≤ F) : ag_25 F E (Rel E) := fun S P σ x1 h => by
  have hh := h
  obtain ⟨L, C, H, W, t, vr, lw, -, -, -, -, ko, -⟩ := hh
  have hC4 := vr.1.1.2.1
  have eC : C_7_hasChild S 1 x1 = some (isAt x1 C) := qc_hasChild hC4 (t.1.2.1.trans vr.1.1.2.2.2) x1
  have eM : M_isChild (mI σ 0 0) x1 = some (isAt x1 C) := qm_isChild (S := mI σ 0 0) (by omega) vr.1.1.2.2.2 x1
  unfold C_10_again M_again
  rw [eC, bs, stt_d, eM, bs]
  by_cases z : isAt x1 C = 0
  · rw [if_pos z, if_pos z]; exact ⟨_, _, rfl, rfl, rel_0 h 0⟩
  rw [if_neg z, if_neg z]
  obtain ⟨c, hc, rfl⟩ := isAt_n0 (by omega) z
  obtain ⟨q, LS, lq, eq⟩ := force_q (S := S) (o := 1) t.1.2.2.2.1 t.1.2.2.2.2 vr.2.2.1 lw
  obtain ⟨hr, hr1, hr2⟩ := vr.2.2.2
  obtain ⟨T, r1, r2, r3⟩ := qc_follow (N := 60) lq hF t lw.2 (eq S rfl rfl) vr.1 hr2 hr1 (Nat.le_refl _) hc
  have r1' : C_9_follow F E P S 1 (nI c) 60 = some ((), T) := r1
  obtain ⟨v, τ0, p1, p2, p3, p4⟩ := qm_hour (σ := kp16 (mI σ 0 0)) (m := 0) lq hF vr.1 hr2 (by omega) rfl ko.1
  obtain ⟨τ, m, m1, m2, m3⟩ := againM (x := ma σ 3 (18 + c)) lq hF vr.1 hr2 hr1 hc 60 1 F τ0 (by omega) (by omega) p2 p4
  obtain ⟨ρ, b1, b2⟩ := qm_back16 (σ := mI σ 0 0) hF (p3.tr m2) (fun i hi => by rw [m3]; exact itR_n hC4 (by omega) m)
  have cc := againC (F := F) (E := E) (P := P) (S := T) (T := fun i => itR LS (ma σ 3) L C i (18 + c)) (x := ma σ 3 (18 + c)) r2 rfl 60 1 F (by omega) (by omega)
  rw [r1', bs, a18, chk_in (by omega) (by decide), nI_clamp (by omega), qm_keep16 hF, bs, p1, bs]
  show ∃ q σ1, C_10_again_L29 F E P T F (nI 1) = some q ∧ M_again_L38 F (nI c) (ma σ 3 (18 + c)) F τ0 (nI 1) = some (q.1, σ1) ∧ _
  rw [cc, m1, b1, bs]
  exact ⟨_, _, rfl, rfl, rel_KM (rel_KC (rel_0 h 0) r3.kc) b2.km⟩
