theorem n64 (x : Int32) : x.toInt64.toInt = x.toInt := w_64 x
theorem qm_tellsW {F : Nat} {σ : MS} {L C c w : Nat} {l : Option Nat} {x1 : Int32} {x4 : Int64} (va : VA (ma σ 3) L C) (hc : c < C) (hl : ∀ j, l = some j → j < L) (h4 : ma σ 3 4 = nI w) (hw : w < 6) (h20 : mi σ 20 = 0) : ∃ σ6, M_tells F σ x1 (nI c) (lI l) x4 = M_tells_L186 F x1 F σ6 x4 0 ∧ KL σ σ6 ∧ WM σ6 (wv (ma σ 3) c l) (76 + 900 * w) := by
  have hs : ∀ k, sml (wv (ma σ 3) c l k) := wv_s va hc hl
  have va' := va
  obtain ⟨⟨vL, vC, v0, v1⟩, -⟩ := va
  have hc4 : c < 4 := by omega
  have eb : (76 : Int32) + (900 : Int32) * nI w = nI (76 + 900 * w) := by
    rw [show (76 : Int32) = nI 76 from rfl, show (900 : Int32) = nI 900 from rfl, pk_mul, nI_add]
  have hm : ∀ (S : MS) (k j : Nat) (v : Int64), ma (mB S k j v) = ma S := fun _ _ _ _ => rfl
  have hm2 : ∀ (S : MS) (k : Nat) (v : Int32), ma (mI S k v) = ma S := fun _ _ _ => rfl
  have key : M_tells F σ x1 (nI c) (lI l) x4 = M_tells_L186 F x1 F (mB (mB (mB (mB (mB (mB (mB (mB (mB (mI σ 34 (nI (76 + 900 * w))) 35 1 (nI c).toInt64) 35 2 (ma σ 3 (66 + c)).toInt64) 35 3 (lI l).toInt64) 35 4 (lR (ma σ 3) 46 l).toInt64) 35 5 (lR (ma σ 3) 56 l).toInt64) 35 6 (ma σ 3 (18 + c)).toInt64) 35 7 (ma σ 3 (22 + c)).toInt64) 35 8 (ma σ 3 5).toInt64) 35 9 (ma σ 3 7).toInt64) x4 0 := by
    have k4 : inb (4 : Int32) 13 = true := by decide
    have k5 : inb (5 : Int32) 13 = true := by decide
    have n4 : (4 : Int32).toNatClampNeg = 4 := by decide
    have n5 : (5 : Int32).toNatClampNeg = 5 := by decide
    unfold M_tells M_tells_B88 M_tells_B115
    rw [h4, if_neg (nI_m1 (by omega)), eb]
    cases l with
    | none =>
      simp (disch := omega) only [show lI none = (-1 : Int32) from rfl, stt_d, a66, a18, a22, chk_in, nI_clamp, k4, k5, n4, n5, chk_t, hm, hm2]
      rfl
    | some j =>
      have hj := hl j rfl
      have nm : ¬ nI j = (-1 : Int32) := nI_m1 (by omega)
      simp (disch := omega) only [show lI (some j) = nI j from rfl, if_neg nm, stt_d, a66, a18, a22, a46, a56, chk_in, nI_clamp, k4, k5, n4, n5, chk_t, hm, hm2]
      rfl
  refine ⟨_, key, ?_, h20, rfl, fun k hk => ⟨?_, hs k⟩⟩
  · exact (((((((((kl_34 _ _).tr (kl_35 _ _ _)).tr (kl_35 _ _ _)).tr (kl_35 _ _ _)).tr (kl_35 _ _ _)).tr (kl_35 _ _ _)).tr (kl_35 _ _ _)).tr (kl_35 _ _ _)).tr (kl_35 _ _ _)).tr (kl_35 _ _ _)
  · rcases (by omega : k = 0 ∨ k = 1 ∨ k = 2 ∨ k = 3 ∨ k = 4 ∨ k = 5 ∨ k = 6 ∨ k = 7 ∨ k = 8) with rfl | rfl | rfl | rfl | rfl | rfl | rfl | rfl | rfl <;> exact w_64 _
/-- the law in force (or another one), and what it says -/
def LQ (E : Nat → ClassId) (P : va_W) (R : Nat → Int32) (q : Option Nat) (LS : Nat → (Nat → Int) → Option Int) : Prop := (q = none ∧ R 4 = -1 ∧ ∀ k w, LS k w = none) ∨ (∃ (a w : Nat) (r : Nat → Int32), q = some a ∧ w < 6 ∧ R 4 = nI w ∧ (∀ i, i < 900 → r i = R (76 + 900 * w + i)) ∧ LSem E P a r LS)
theorem LQ_cg {E : Nat → ClassId} {P : va_W} {R R' : Nat → Int32} {q : Option Nat} {LS : Nat → (Nat → Int) → Option Int} (h : LQ E P R q LS) (e4 : R' 4 = R 4) (e : ∀ i, 76 ≤ i → R' i = R i) : LQ E P R' q LS := by
  rcases h with ⟨a1, a2, a3⟩ | ⟨a, w, r, a1, a2, a3, a4, a5⟩
  · exact Or.inl ⟨a1, e4.trans a2, a3⟩
  · exact Or.inr ⟨a, w, r, a1, a2, e4.trans a3, fun i hi => by rw [e _ (by omega)]; exact a4 i hi, a5⟩
theorem qc_tellQ {E : Nat → ClassId} {P : va_W} {R : Nat → Int32} {q : Option Nat} {LS : Nat → (Nat → Int) → Option Int} (h : LQ E P R q LS) {F : Nat} {S : CS} {w : Nat → Int} {kind m : Nat} {x4 : Int32} (hF : 1000 ≤ F) (hw : WD S w) (hk : kind < 2) (hm : m < 2 ^ 31) : ∃ h', C_9_tell F E P S q (nI kind) (nI m) x4 = some (tv (LS kind w) x4 m, cF S 12 0 h') := by
  rcases h with ⟨rfl, -, a3⟩ | ⟨a, v, r, rfl, -, -, -, a5, -⟩
  · exact ⟨ca S 12 0, by rw [a3, c_self]; rfl⟩
  · exact a5 F S w kind m x4 hF hw hk hm
theorem qm_tellQ {E : Nat → ClassId} {P : va_W} {q : Option Nat} {LS : Nat → (Nat → Int) → Option Int} {F : Nat} {σ : MS} {L C c kind : Nat} {l : Option Nat} {x4 : Int64} (h : LQ E P (ma σ 3) q LS) (hF : 1000 ≤ F) (va : VA (ma σ 3) L C) (hc : c < C) (hl : ∀ j, l = some j → j < L) (h20 : mi σ 20 = 0) (hk : kind < 3) : ∃ τ y, M_tells F σ (nI kind) (nI c) (lI l) x4 = some (y, τ) ∧ KL σ τ ∧ (LS kind (wv (ma σ 3) c l) = none → y = x4) ∧ (∀ v, LS kind (wv (ma σ 3) c l) = some v → y.toInt = v ∧ sml v ∧ (kind = 2 → v = 1)) := by
  rcases h with ⟨-, a2, a3⟩ | ⟨a, w, r, -, hw, a3, a4, -, -, a5⟩
  · refine ⟨σ, x4, ?_, KL.rf, fun _ => rfl, fun v z => by rw [a3] at z; cases z⟩
    unfold M_tells; rw [if_pos a2]
  · obtain ⟨σ6, e1, e2, e3⟩ := qm_tellsW (F := F) (x1 := nI kind) (x4 := x4) va hc hl a3 hw h20
    obtain ⟨τ, y, g1, g2, g3, g4⟩ := a5 F σ6 _ (76 + 900 * w) kind x4 hF e3 (by omega) (fun i hi => by rw [e2.1]; exact a4 i hi) hk
    exact ⟨τ, y, e1.trans g1, e2.tr g2.kl, g3, g4⟩
/-- to what it turns, what it says, whether it is barred -/
def tnN (LS : Nat → (Nat → Int) → Option Int) (R : Nat → Int32) (c : Nat) : Nat := match LS 0 (wv R c none) with
  | none => 0
  | some v => cl v 99
def sdN (LS : Nat → (Nat → Int) → Option Int) (R : Nat → Int32) (c j : Nat) : Nat := match LS 1 (wv R c (some j)) with
  | none => (R (56 + j)).toNatClampNeg
  | some v => cl v 19
def brB (LS : Nat → (Nat → Int) → Option Int) (R : Nat → Int32) (c j : Nat) : Bool := (LS 2 (wv R c (some j))).isSome
theorem sdN_lt {LS : Nat → (Nat → Int) → Option Int} {R : Nat → Int32} {c j : Nat} (h : VL R j) : sdN LS R c j < 20 := by
  unfold sdN
  split
  · obtain ⟨-, -, -, -, ⟨g, g1, g2⟩, -⟩ := h
    rw [g2, nI_clamp (by omega)]; omega
  · next v _ => have := cl_le v 19; omega
theorem qc_turn {E : Nat → ClassId} {P : va_W} {R : Nat → Int32} {q : Option Nat} {LS : Nat → (Nat → Int) → Option Int} (h : LQ E P R q LS) {F o L C c : Nat} {S : CS} (hF : 1000 ≤ F) (ho : o ≠ 11) (t : TV (ci S o) (ca S o) R c) (va : VA R L C) (hc : c < C) : ∃ T, C_9_turnOf F E P S o q (nI c) = some (nI (tnN LS R c), T) ∧ KW S T := by
  obtain ⟨f, e1, e2⟩ := qc_look (l := none) ho t va hc (fun j z => by cases z)
  obtain ⟨h', e3⟩ := qc_tellQ h (kind := 0) (m := 99) (x4 := 0) hF e2 (by omega) (by omega)
  refine ⟨cF (cF S 11 2 f) 12 0 h', ?_, (kw_11 S f (Or.inl rfl)).tr (kw_12 _ _)⟩
  unfold C_9_turnOf
  rw [show (-1 : Int32) = lI none from rfl, e1, bs]
  show (C_9_tell F E P (cF S 11 2 f) q (nI 0) (nI 99) 0).bind _ = _
  rw [e3, bs]
  unfold tnN
  cases LS 0 (wv R c none) <;> rfl
theorem qm_turn {E : Nat → ClassId} {P : va_W} {q : Option Nat} {LS : Nat → (Nat → Int) → Option Int} {F : Nat} {σ : MS} {L C c : Nat} (h : LQ E P (ma σ 3) q LS) (hF : 1000 ≤ F) (va : VA (ma σ 3) L C) (hc : c < C) (h20 : mi σ 20 = 0) : ∃ τ, M_turnsTo F σ (nI c) = some (nI (tnN LS (ma σ 3) c), τ) ∧ KL σ τ := by
  obtain ⟨τ, y, g1, g2, g3, g4⟩ := qm_tellQ (l := none) (kind := 0) (x4 := 0) h hF va hc (fun j z => by cases z) h20 (by omega)
  refine ⟨τ, ?_, g2⟩
  unfold M_turnsTo
  show (M_tells F σ (nI 0) (nI c) (lI none) 0).bind _ = _
  rw [g1, bs]
  show (M_bounded y 0 (nI 99)).bind _ = _
  unfold tnN
  cases e : LS 0 (wv (ma σ 3) c none) with
  | none => rw [g3 e]; rfl
  | some v =>
    obtain ⟨v1, v2, -⟩ := g4 v e
    rw [cl_m (by decide) v2 v1]; rfl
theorem qc_said {E : Nat → ClassId} {P : va_W} {R : Nat → Int32} {q : Option Nat} {LS : Nat → (Nat → Int) → Option Int} (h : LQ E P R q LS) {F o L C c j : Nat} {S : CS} (hF : 1000 ≤ F) (ho : o ≠ 11) (ho2 : o ≠ 12) (hq : ∀ T, KW S T → C_7_lawInForce T o = some q) (t : TV (ci S o) (ca S o) R c) (va : VA R L C) (hc : c < C) (hj : j < L) : ∃ T, C_9_nameSaid F E P S o (nI c) (nI j) = some (nI (sdN LS R c j), T) ∧ KW S T := by
  obtain ⟨f, e1, e2⟩ := qc_look (l := some j) ho t va hc (fun i z => by cases z; exact hj)
  have kw := kw_11 S f (Or.inl rfl)
  have t' := TV_KW ho ho2 kw t
  obtain ⟨⟨vL, vC, v0, v1⟩, vl, -⟩ := va
  obtain ⟨-, -, -, -, ⟨g, g1, g2⟩, -⟩ := vl j hj
  obtain ⟨h', e3⟩ := qc_tellQ h (kind := 1) (m := 19) (x4 := R (56 + j)) hF e2 (by omega) (by omega)
  refine ⟨cF (cF S 11 2 f) 12 0 h', ?_, kw.tr (kw_12 _ _)⟩
  unfold C_9_nameSaid C_9_nameSaid_B33
  rw [show nI j = lI (some j) from rfl, e1, bs, hq _ kw, bs]
  show (C_7_hasLane (cF S 11 2 f) o (nI j)).bind _ = _
  rw [qc_hasLane vL (t'.1.1.trans v0), isAt_in hj (by omega), bs, if_neg (by decide)]
  show chk (inb (nI j) 10 = true) _ = _
  rw [chk_in (by omega) (by decide)]
  show (C_9_tell F E P (cF S 11 2 f) q (nI 1) (nI 19) (ca (cF S 11 2 f) o 3 (nI j).toNatClampNeg)).bind _ = _
  rw [nI_clamp (by omega), (t'.2.1 j (by omega)).2.2.2, e3, bs]
  unfold sdN
  cases LS 1 (wv R c (some j)) with
  | none =>
    show some (R (56 + j), _) = some (nI (R (56 + j)).toNatClampNeg, _)
    rw [g2, nI_clamp (by omega)]
  | some v => rfl
theorem qm_said {E : Nat → ClassId} {P : va_W} {q : Option Nat} {LS : Nat → (Nat → Int) → Option Int} {F : Nat} {σ : MS} {L C c j : Nat} (h : LQ E P (ma σ 3) q LS) (hF : 1000 ≤ F) (va : VA (ma σ 3) L C) (hc : c < C) (hj : j < L) (h20 : mi σ 20 = 0) : ∃ τ, M_saysOf F σ (nI c) (nI j) = some (nI (sdN LS (ma σ 3) c j), τ) ∧ KL σ τ := by
  have va' := va
  obtain ⟨⟨vL, vC, v0, v1⟩, vl, -⟩ := va
  obtain ⟨-, -, -, -, ⟨g, k1, k2⟩, -⟩ := vl j hj
  obtain ⟨τ, y, g1, g2, g3, g4⟩ := qm_tellQ (l := some j) (kind := 1) (x4 := (ma σ 3 (56 + j)).toInt64) h hF va' hc (fun i z => by cases z; exact hj) h20 (by omega)
  refine ⟨τ, ?_, g2⟩
  unfold M_saysOf
  rw [a56, chk_in (by omega) (by decide), nI_clamp (by omega)]
  show (M_tells F σ (nI 1) (nI c) (lI (some j)) (ma σ 3 (56 + j)).toInt64).bind _ = _
  rw [g1, bs]
  show (M_bounded y 0 (nI 19)).bind _ = _
  unfold sdN
  cases e : LS 1 (wv (ma σ 3) c (some j)) with
  | none =>
    rw [g3 e, k2, cl_m (m := 19) (v := (g : Int)) (by decide) ⟨by omega, by omega⟩ (by rw [w_64, nI_toInt (by omega)]), bs, nI_clamp (by omega)]
    unfold cl
    rw [if_neg (by omega), if_pos (by omega)]
    rfl
  | some v =>
    obtain ⟨v1, v2, -⟩ := g4 v e
    rw [cl_m (by decide) v2 v1]; rfl
theorem qc_bar {E : Nat → ClassId} {P : va_W} {R : Nat → Int32} {q : Option Nat} {LS : Nat → (Nat → Int) → Option Int} (h : LQ E P R q LS) {F o L C c j : Nat} {S : CS} (hF : 1000 ≤ F) (ho : o ≠ 11) (t : TV (ci S o) (ca S o) R c) (va : VA R L C) (hc : c < C) (hj : j < L) : ∃ T, C_9_isBarred F E P S o q (nI c) (nI j) = some (if brB LS R c j then 1 else 0, T) ∧ KW S T ∧ ca T 11 3 = ca S 11 3 := by
  rcases h with ⟨rfl, -, a3⟩ | ⟨a, v, r, rfl, -, -, -, -, a5, -⟩
  · refine ⟨S, ?_, KW.rf, rfl⟩
    unfold brB; rw [a3]; rfl
  · obtain ⟨f, e1, e2⟩ := qc_look (l := some j) ho t va hc (fun i z => by cases z; exact hj)
    obtain ⟨h', e3⟩ := a5 F o (cF S 11 2 f) _ hF e2
    refine ⟨cF (cF S 11 2 f) 12 0 h', ?_, (kw_11 S f (Or.inl rfl)).tr (kw_12 _ _), rfl⟩
    unfold C_9_isBarred
    show (C_9_look S o (nI c) (lI (some j))).bind _ = _
    rw [e1, bs, e3]
    unfold brB
    cases e : LS 2 (wv R c (some j)) <;> rfl
theorem qm_bar {E : Nat → ClassId} {P : va_W} {q : Option Nat} {LS : Nat → (Nat → Int) → Option Int} {F : Nat} {σ : MS} {L C c j : Nat} (h : LQ E P (ma σ 3) q LS) (hF : 1000 ≤ F) (va : VA (ma σ 3) L C) (hc : c < C) (hj : j < L) (h20 : mi σ 20 = 0) : ∃ τ, M_isBarred F σ (nI c) (nI j) = some (if brB LS (ma σ 3) c j then 1 else 0, τ) ∧ KL σ τ := by
  obtain ⟨τ, y, g1, g2, g3, g4⟩ := qm_tellQ (l := some j) (kind := 2) (x4 := 0) h hF va hc (fun i z => by cases z; exact hj) h20 (by omega)
  refine ⟨τ, ?_, g2⟩
  unfold M_isBarred
  show (M_tells F σ (nI 2) (nI c) (lI (some j)) 0).bind _ = _
  rw [g1, bs]
  unfold brB
  cases e : LS 2 (wv (ma σ 3) c (some j)) with
  | none => rw [g3 e]; rfl
  | some v =>
    obtain ⟨v1, v2, v3⟩ := g4 v e
    rw [if_pos (show y = 1 by rw [eq_l, v1, v3 rfl]; rfl)]; rfl
