/-- in the reference -/
theorem fi_lt {x : Nat} (h : x < 1000000) : fi x = nI x := if_pos h
theorem fi_ge {x : Nat} (h : 1000000 ≤ x) : fi x = 100000000 := if_neg (by omega)
theorem fi_cmp {x y z : Nat} (hx : x = 1000000 ∨ x ≤ 5000) (hy : y = 1000000 ∨ y ≤ 5000) (hz : z = 1000000 ∨ z ≤ 5000) : (z ≤ x + y → fi z ≤ fi x + fi y) ∧ (¬ z ≤ x + y → ¬ fi z ≤ fi x + fi y ∧ fi x + fi y = fi (x + y)) := by
  have big : (100000000 : Int32) = nI 100000000 := rfl
  refine ⟨fun h => ?_, fun h => ?_⟩
  · rcases hz with rfl | hz
    · rw [fi_ge (Nat.le_refl _)]
      rcases hx with rfl | hx
      · rw [fi_ge (x := 1000000) (Nat.le_refl _)]
        rcases hy with rfl | hy
        · rw [fi_ge (x := 1000000) (Nat.le_refl _)]; decide
        · rw [fi_lt (by omega), big, nI_add]; exact nI_le (by omega) (by omega)
      · rw [fi_lt (x := x) (by omega)]
        rcases hy with rfl | hy
        · rw [fi_ge (x := 1000000) (Nat.le_refl _), big, nI_add]; exact nI_le (by omega) (by omega)
        · omega
    · rw [fi_lt (x := z) (by omega)]
      rcases hx with rfl | hx
      · rw [fi_ge (x := 1000000) (Nat.le_refl _)]
        rcases hy with rfl | hy
        · rw [fi_ge (x := 1000000) (Nat.le_refl _), big, nI_add]; exact nI_le (by omega) (by omega)
        · rw [fi_lt (by omega), big, nI_add]; exact nI_le (by omega) (by omega)
      · rw [fi_lt (x := x) (by omega)]
        rcases hy with rfl | hy
        · rw [fi_ge (x := 1000000) (Nat.le_refl _), big, nI_add]; exact nI_le (by omega) (by omega)
        · rw [fi_lt (x := y) (by omega), nI_add]; exact nI_le (by omega) (by omega)
  · have hx' : x ≤ 5000 := by omega
    have hy' : y ≤ 5000 := by omega
    rw [fi_lt (x := x) (by omega), fi_lt (x := y) (by omega), fi_lt (x := x + y) (by omega), nI_add]
    refine ⟨?_, rfl⟩
    rcases hz with rfl | hz
    · rw [fi_ge (Nat.le_refl _), big]; exact nI_ge (by omega) (by omega)
    · rw [fi_lt (x := z) (by omega)]; exact nI_ge (by omega) (by omega)
theorem ma_42 (σ : MS) (f : Nat → Int32) : ma (mF σ 42 f) 42 = f := ma_F _ _ _
theorem lfL170 {F : Nat} {k154 k162 : MS → Int32 → Option (Unit × MS)} {σ : MS} {D : Nat → Nat → Nat} {k a : Nat} (hz : ∀ a, D a a = 0) (hb : BD D 5000) (hk : k < 8) (ha : a < 8) : ∀ (t b fuel : Nat) (f : Nat → Int32), b + t = 8 → t < fuel → MT fi f (fwP D k (8 * a + b)) → ∃ f', M_layFar_L170 F k154 k162 (nI k) (nI a) fuel (mF σ 42 f) (nI b) = k162 (mF σ 42 f') (nI a + 1) ∧ MT fi f' (fwP D k (8 * a + 8))
  | 0, b, fuel + 1, f, e, _, m => by
    obtain rfl : b = 8 := by omega
    rw [M_layFar_L170, if_pos (by decide)]
    exact ⟨f, rfl, m⟩
  | t + 1, b, fuel + 1, f, e, hf, m => by
    have eab : fwP D k (8 * a + b) a b = D a b := by unfold fwP; rw [if_neg (by omega)]
    obtain ⟨c1, c2⟩ := fi_cmp (hb a k) (hb k b) (hb a b)
    rw [M_layFar_L170, if_neg (show ¬ (8 : Int32) ≤ nI b from nI_ge (b := 8) (by omega) (by decide)), m88, m88, m88, chk_in (by omega) (by decide), chk_in (by omega) (by decide), chk_in (by omega) (by decide), nI_clamp (by omega), nI_clamp (by omega), nI_clamp (by omega), ma_42, m a b ha (by omega), m a k ha hk, m k b hk (by omega), fwP_l hz, fwP_k hz, eab]
    unfold M_layFar_B243
    rw [chk_in (by omega) (by decide), chk_in (by omega) (by decide), chk_in (by omega) (by decide), nI_clamp (by omega), stt_d, stt_d, mA_F, mA_F, mF_mF, mF_mF, ma_42, ← nI_succ]
    by_cases z : D a b ≤ D a k + D k b
    · rw [if_pos (c1 z)]
      refine lfL170 hz hb hk ha t (b + 1) fuel _ (by omega) (by omega) (MT_u (v := D a b) m ha (by omega) ?_ (fun i j hi hj y => fwP_s D k (8 * a + b) (by omega)))
      unfold fwP fw; rw [if_pos (by omega), if_pos z]
    · rw [if_neg (c2 z).1, (c2 z).2]
      refine lfL170 hz hb hk ha t (b + 1) fuel _ (by omega) (by omega) (MT_u (v := D a k + D k b) m ha (by omega) ?_ (fun i j hi hj y => fwP_s D k (8 * a + b) (by omega)))
      unfold fwP fw; rw [if_pos (by omega), if_neg z]
theorem lfL162 {F : Nat} {k154 : MS → Int32 → Option (Unit × MS)} {σ : MS} {D : Nat → Nat → Nat} {k : Nat} (hF : 1000 ≤ F) (hz : ∀ a, D a a = 0) (hb : BD D 5000) (hk : k < 8) : ∀ (t a fuel : Nat) (f : Nat → Int32), a + t = 8 → t < fuel → MT fi f (fwP D k (8 * a)) → ∃ f', M_layFar_L162 F k154 (nI k) fuel (mF σ 42 f) (nI a) = k154 (mF σ 42 f') (nI k + 1) ∧ MT fi f' (fw D k)
  | 0, a, fuel + 1, f, e, _, m => by
    obtain rfl : a = 8 := by omega
    rw [M_layFar_L162, if_pos (by decide)]
    exact ⟨f, rfl, MT_cg m (fun i j hi hj => by unfold fwP; rw [if_pos (by omega)])⟩
  | t + 1, a, fuel + 1, f, e, hf, m => by
    rw [M_layFar_L162, if_neg (show ¬ (8 : Int32) ≤ nI a from nI_ge (b := 8) (by omega) (by decide))]
    obtain ⟨f', r1, r2⟩ := lfL170 (F := F) (k154 := k154) (k162 := M_layFar_L162 F k154 (nI k) fuel) (σ := σ) hz hb hk (show a < 8 by omega) 8 0 F f (by omega) (by omega) m
    rw [show (0 : Int32) = nI 0 from rfl, r1, ← nI_succ]
    exact lfL162 hF hz hb hk t (a + 1) fuel f' (by omega) (by omega) r2
theorem lfL154 {F : Nat} {σ : MS} {D : Nat → Nat → Nat} (hF : 1000 ≤ F) (hb : BD D 9) : ∀ (t k fuel : Nat) (f : Nat → Int32), k + t = 8 → t < fuel → MT fi f (fwN D k) → ∃ f', M_layFar_L154 F fuel (mF σ 42 f) (nI k) = some ((), mF σ 42 f') ∧ MT fi f' (fwN D 8)
  | 0, k, fuel + 1, f, e, _, m => by
    obtain rfl : k = 8 := by omega
    rw [M_layFar_L154, if_pos (by decide)]
    exact ⟨f, rfl, m⟩
  | t + 1, k, fuel + 1, f, e, hf, m => by
    rw [M_layFar_L154, if_neg (show ¬ (8 : Int32) ≤ nI k from nI_ge (b := 8) (by omega) (by decide))]
    obtain ⟨f', r1, r2⟩ := lfL162 (F := F) (k154 := M_layFar_L154 F fuel) (σ := σ) hF (fwN_0 D k) (BD_le (BD_8 hb (by omega)) (by omega)) (show k < 8 by omega) 8 0 F f (by omega) (by omega) (MT_cg m (fun i j hi hj => by unfold fwP; rw [if_neg (by omega)]))
    rw [show (0 : Int32) = nI 0 from rfl, r1, ← nI_succ]
    exact lfL154 hF hb t (k + 1) fuel f' (by omega) (by omega) r2
theorem lfL40 {F L : Nat} {σ : MS} (hF : 1000 ≤ F) (hL : L ≤ 10) (vl : ∀ j, j < L → VL (ma σ 3) j) (h0 : ma σ 3 0 = nI L) : ∀ (t j fuel : Nat) (f : Nat → Int32), j + t = L → t < fuel → MT fi f (zd (stW (ma σ 3) j)) → ∃ f', M_layFar_L40 F fuel (mF σ 42 f) (nI j) = some ((), mF σ 42 f') ∧ MT fi f' (fwN (stW (ma σ 3) L) 8)
  | 0, j, fuel + 1, f, e, _, m => by
    obtain rfl : j = L := by omega
    rw [M_layFar_L40, show ma (mF σ 42 f) 3 0 = nI j from h0, if_pos (nI_le (Nat.le_refl _) (by omega))]
    exact lfL154 hF (stW_b vl j (Nat.le_refl _)) 8 0 F f (by omega) (by omega) m
  | t + 1, j, fuel + 1, f, e, hf, m => by
    obtain ⟨ea, eb, ev, ha, hb, ne, v1, v9⟩ := ml_ok (vl j (by omega))
    have hs := stW_b vl j (by omega) (mlA (ma σ 3) j) (mlB (ma σ 3) j)
    have e3 : ma (mF σ 42 f) 3 = ma σ 3 := rfl
    rw [M_layFar_L40, show ma (mF σ 42 f) 3 0 = nI L from h0, if_neg (nI_ge (by omega) (by omega)), a26, a36, a46, chk_in (by omega) (by decide), chk_in (by omega) (by decide), chk_in (by omega) (by decide), nI_clamp (by omega), nI_clamp (by omega), nI_clamp (by omega), e3, ea, eb, ev, m88, chk_in (by omega) (by decide), chk_in (by omega) (by decide), nI_clamp (by omega), ma_42, m _ _ ha hb]
    have ez : zd (stW (ma σ 3) j) (mlA (ma σ 3) j) (mlB (ma σ 3) j) = stW (ma σ 3) j (mlA (ma σ 3) j) (mlB (ma σ 3) j) := if_neg ne
    rw [ez]
    unfold M_layFar_B123
    simp only [m88, nI_clamp (show 8 * mlA (ma σ 3) j + mlB (ma σ 3) j < 2 ^ 31 by omega), nI_clamp (show 8 * mlB (ma σ 3) j + mlA (ma σ 3) j < 2 ^ 31 by omega), chk_in (show 8 * mlA (ma σ 3) j + mlB (ma σ 3) j < 64 by omega) (show 64 < 2 ^ 31 by decide), chk_in (show 8 * mlB (ma σ 3) j + mlA (ma σ 3) j < 64 by omega) (show 64 < 2 ^ 31 by decide), stt_d, mA_F, mF_mF, ma_42, pk_us, ← nI_succ]
    have fin : ∀ v, v = (if mlV (ma σ 3) j < stW (ma σ 3) j (mlA (ma σ 3) j) (mlB (ma σ 3) j) then mlV (ma σ 3) j else stW (ma σ 3) j (mlA (ma σ 3) j) (mlB (ma σ 3) j)) → ∃ f', M_layFar_L40 F fuel (mF σ 42 (upd (upd f (8 * mlA (ma σ 3) j + mlB (ma σ 3) j) (fi v)) (8 * mlB (ma σ 3) j + mlA (ma σ 3) j) (fi v))) (nI (j + 1)) = some ((), mF σ 42 f') ∧ MT fi f' (fwN (stW (ma σ 3) L) 8) := by
      intro v hv
      refine lfL40 hF hL vl h0 t (j + 1) fuel _ (by omega) (by omega) ?_
      have m1 : MT fi (upd f (8 * mlA (ma σ 3) j + mlB (ma σ 3) j) (fi v)) (fun a b => if a = mlA (ma σ 3) j ∧ b = mlB (ma σ 3) j then v else zd (stW (ma σ 3) j) a b) := MT_u m ha hb (if_pos ⟨rfl, rfl⟩) (fun i k _ _ y => if_neg y)
      refine MT_u m1 hb ha ?_ (fun i k hi hk y => ?_)
      · unfold zd; rw [if_neg (by omega), stW_s, if_pos (Or.inr ⟨rfl, rfl⟩), hv]
      · unfold zd
        by_cases z : i = mlA (ma σ 3) j ∧ k = mlB (ma σ 3) j
        · rw [if_neg (by omega), stW_s, if_pos (Or.inl z), if_pos z, hv]
        · rw [if_neg z]
          by_cases w : i = k
          · rw [if_pos w, if_pos w]
          · rw [if_neg w, if_neg w, stW_s, if_neg (by omega)]
    by_cases z : mlV (ma σ 3) j < stW (ma σ 3) j (mlA (ma σ 3) j) (mlB (ma σ 3) j)
    · have nz : ¬ fi (stW (ma σ 3) j (mlA (ma σ 3) j) (mlB (ma σ 3) j)) ≤ nI (mlV (ma σ 3) j) := by
        rcases hs with q | q
        · rw [q, fi_ge (Nat.le_refl _)]; exact nI_ge (b := 100000000) (by omega) (by decide)
        · rw [fi_lt (by omega)]; exact nI_ge (by omega) (by omega)
      rw [if_neg nz, ← fi_lt (x := mlV (ma σ 3) j) (by omega)]
      exact fin _ (by rw [if_pos z])
    · have pz : fi (stW (ma σ 3) j (mlA (ma σ 3) j) (mlB (ma σ 3) j)) ≤ nI (mlV (ma σ 3) j) := by
        rw [fi_lt (by omega)]; exact nI_le (by omega) (by omega)
      rw [if_pos pz]
      exact fin _ (by rw [if_neg z])
theorem d8 {x : Nat} (hx : x < 64) : (nI x / (8 : Int32) = nI x - nI x / (8 : Int32) * (8 : Int32)) ↔ x / 8 = x % 8 := by
  rw [show nI x / (8 : Int32) = nI (x / 8) from pk_div (d := 8) (by omega) (by omega) (by omega), show nI (x / 8) * (8 : Int32) = nI (x / 8 * 8) from pk_mul _ 8, pk_sub (by omega), nI_eq (by omega) (by omega)]
  omega
theorem lfL2 {F L : Nat} {σ : MS} (hF : 1000 ≤ F) (hL : L ≤ 10) (vl : ∀ j, j < L → VL (ma σ 3) j) (h0 : ma σ 3 0 = nI L) : ∀ (t j fuel : Nat) (f : Nat → Int32), j + t = 64 → t < fuel → (∀ i, i < j → f i = if i / 8 = i % 8 then 0 else 100000000) → ∃ f', M_layFar_L2 F fuel (mF σ 42 f) (nI j) = some ((), mF σ 42 f') ∧ MT fi f' (fwN (stW (ma σ 3) L) 8)
  | 0, j, fuel + 1, f, e, _, h => by
    obtain rfl : j = 64 := by omega
    rw [M_layFar_L2, if_pos (by decide)]
    refine lfL40 hF hL vl h0 L 0 F f (by omega) (by omega) (fun a b ha hb => ?_)
    rw [h _ (by omega)]
    unfold zd
    by_cases z : a = b
    · rw [if_pos (by omega), if_pos z]; rfl
    · rw [if_neg (by omega), if_neg z]; rfl
  | t + 1, j, fuel + 1, f, e, hf, h => by
    rw [M_layFar_L2, if_neg (show ¬ (64 : Int32) ≤ nI j from nI_ge (b := 64) (by omega) (by decide))]
    unfold M_layFar_B31
    rw [chk_in (by omega) (by decide), chk_in (by omega) (by decide), nI_clamp (by omega), stt_d, stt_d, mA_F, mA_F, mF_mF, mF_mF, ma_42, ← nI_succ]
    by_cases z : j / 8 = j % 8
    · rw [if_pos ((d8 (by omega)).mpr z)]
      refine lfL2 hF hL vl h0 t (j + 1) fuel _ (by omega) (by omega) (fun i hi => ?_)
      rw [upd_d]
      by_cases y : i = j
      · rw [if_pos y, y, if_pos z]
      · rw [if_neg y]; exact h i (by omega)
    · rw [if_neg (fun w => z ((d8 (by omega)).mp w))]
      refine lfL2 hF hL vl h0 t (j + 1) fuel _ (by omega) (by omega) (fun i hi => ?_)
      rw [upd_d]
      by_cases y : i = j
      · rw [if_pos y, y, if_neg z]
      · rw [if_neg y]; exact h i (by omega)
theorem qm_layFar {F L C : Nat} {σ : MS} (hF : 1000 ≤ F) (va : VA (ma σ 3) L C) : ∃ f, M_layFar F σ = some ((), mF σ 42 f) ∧ MT fi f (DD (ma σ 3) L) := by
  obtain ⟨⟨vL, vC, v0, v1⟩, vl, -⟩ := va
  have := lfL2 (F := F) (σ := σ) hF vL vl v0 64 0 F (ma σ 42) (by omega) (by omega) (fun i hi => by omega)
  rw [mF_self] at this
  exact this
theorem DD_b {R : Nat → Int32} {L C : Nat} (va : VA R L C) (a b : Nat) : DD R L a b = 1000000 ∨ DD R L a b ≤ 2304 := BD_8 (stW_b va.2.1 L (Nat.le_refl _)) (Nat.le_refl _) a b
theorem qm_farOf {σ : MS} {D : Nat → Nat → Nat} {B : Nat} (m : MT fi (ma σ 42) D) (hB : B ≤ 5000) (hb : BD D B) {a b : Nat} (ha : a < 8) (hb' : b < 8) : M_farOf σ (nI a) (nI b) = some (fi (D a b)) := by
  unfold M_farOf
  rw [m88, chk_in (by omega) (by decide), chk_in (by omega) (by decide), nI_clamp (by omega), m a b ha hb']
  rcases hb a b with q | q
  · rw [q, fi_ge (Nat.le_refl _), if_neg (by decide)]
  · rw [fi_lt (by omega), if_pos (show nI (D a b) < (100000000 : Int32) from nI_lt (b := 100000000) (by omega) (by decide))]
theorem kc_13 (S : CS) (f g : Nat → Int32) : KC S (cF (cF S 13 0 g) 13 1 f) := ⟨⟨rfl, rfl, rfl, rfl, rfl⟩, ⟨rfl, rfl, rfl⟩, ⟨rfl, rfl⟩, ⟨rfl, rfl⟩, ⟨rfl, rfl, rfl, rfl⟩, rfl⟩
theorem km_42 (σ : MS) (f : Nat → Int32) : KM σ (mF σ 42 f) := ⟨⟨rfl, rfl, rfl, rfl, fun _ _ => rfl, rfl, rfl, rfl⟩, ⟨rfl, rfl, rfl, rfl, rfl, rfl, rfl, rfl, rfl⟩, rfl, rfl, rfl, rfl⟩
theorem pa_21 {F : Nat} {E : Nat → ClassId} (hF : 1000 ≤ F) : ag_21 F E (Rel E) := fun S P σ x1 x2 h => by
  have hh := h
  obtain ⟨L, C, H, W, t, vr, -⟩ := hh
  unfold C_10_far M_far
  rw [stt_d, qc_isCorner, qm_isCorner, bs, bs, qc_isCorner, qm_isCorner, bs, bs]
  by_cases z : isAt x1 8 = 0
  · rw [if_pos z, if_pos z]; exact ⟨_, _, rfl, rfl, rel_0 h 0⟩
  rw [if_neg z, if_neg z]
  by_cases y : isAt x2 8 = 0
  · rw [if_pos y, if_pos y]; exact ⟨_, _, rfl, rfl, rel_0 h 0⟩
  rw [if_neg y, if_neg y]
  obtain ⟨a, ha, rfl⟩ := isAt_n0 (by decide) z
  obtain ⟨b, hb, rfl⟩ := isAt_n0 (by decide) y
  obtain ⟨f, g, c1, c2, c3⟩ := qc_measure hF vr.1 t
  obtain ⟨f', m1, m2⟩ := qm_layFar (σ := mI σ 0 0) hF vr.1
  have hd := DD_b vr.1 a b
  have m3 := qm_farOf (σ := mF (mI σ 0 0) 42 f') (B := 2304) (by rw [ma_42]; exact m2) (by omega) (DD_b vr.1) ha hb
  have k : Rel E (cF (cF S 13 0 g) 13 1 f) P (mF (mI σ 0 0) 42 f') := rel_KM (rel_KC (rel_0 h 0) (kc_13 _ _ _)) (km_42 _ _)
  rw [c1, bs, qc_btw ha hb, bs, ca_13, c3 a b ha hb, m1, bs, m3, bs, bs]
  rcases hd with q | q
  · rw [q, if_pos (by decide), fi_ge (Nat.le_refl _), if_pos rfl]; exact ⟨_, _, rfl, rfl, k⟩
  · rw [if_neg (show ¬ (1000000 : Int32) ≤ nI (DD (ma σ 3) L a b) from nI_ge (b := 1000000) (by omega) (by decide)), fi_lt (by omega), if_neg (show ¬ nI (DD (ma σ 3) L a b) = (100000000 : Int32) from fun w => by have := (nI_eq (b := 100000000) (by omega) (by decide)).mp w; omega)]
    exact ⟨_, _, rfl, rfl, k⟩
