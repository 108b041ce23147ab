/-- ways: numbers in rows of eight -/
def MT (φ : Nat → Int32) (f : Nat → Int32) (D : Nat → Nat → Nat) : Prop := ∀ a b, a < 8 → b < 8 → f (8 * a + b) = φ (D a b)
def fi (x : Nat) : Int32 := if x < 1000000 then nI x else 100000000
theorem MT_u {φ f : Nat → Int32} {D D' : Nat → Nat → Nat} {a b v : Nat} (h : MT φ f D) (ha : a < 8) (hb : b < 8) (h1 : D' a b = v) (h2 : ∀ i j, i < 8 → j < 8 → ¬ (i = a ∧ j = b) → D' i j = D i j) : MT φ (upd f (8 * a + b) (φ v)) D' := by
  intro i j hi hj
  rw [upd_d]
  by_cases z : i = a ∧ j = b
  · rw [if_pos (by omega), z.1, z.2, h1]
  · rw [if_neg (by omega), h i j hi hj, h2 i j hi hj z]
theorem MT_cg {φ f : Nat → Int32} {D D' : Nat → Nat → Nat} (h : MT φ f D) (e : ∀ i j, i < 8 → j < 8 → D' i j = D i j) : MT φ f D' := fun i j hi hj => by rw [e i j hi hj]; exact h i j hi hj
theorem c88 (a b : Nat) : nI a * (8 : Int32) + nI b = nI (8 * a + b) := by
  rw [show (8 : Int32) = nI 8 from rfl, pk_mul, nI_add, Nat.mul_comm]
theorem m88 (a b : Nat) : (8 : Int32) * nI a + nI b = nI (8 * a + b) := by
  rw [show (8 : Int32) = nI 8 from rfl, pk_mul, nI_add]
def mlA (R : Nat → Int32) (j : Nat) : Nat := (R (26 + j)).toNatClampNeg
def mlB (R : Nat → Int32) (j : Nat) : Nat := (R (36 + j)).toNatClampNeg
def mlV (R : Nat → Int32) (j : Nat) : Nat := (R (46 + j)).toNatClampNeg
theorem ml_ok {R : Nat → Int32} {j : Nat} (h : VL R j) : R (26 + j) = nI (mlA R j) ∧ R (36 + j) = nI (mlB R j) ∧ R (46 + j) = nI (mlV R j) ∧ mlA R j < 8 ∧ mlB R j < 8 ∧ mlA R j ≠ mlB R j ∧ 1 ≤ mlV R j ∧ mlV R j ≤ 9 := by
  obtain ⟨⟨a, a1, a2⟩, ⟨b, b1, b2⟩, ne, ⟨l, l1, l2, l3⟩, -⟩ := h
  have ea : mlA R j = a := by unfold mlA; rw [a2, nI_clamp (by omega)]
  have eb : mlB R j = b := by unfold mlB; rw [b2, nI_clamp (by omega)]
  have ev : mlV R j = l := by unfold mlV; rw [l3, nI_clamp (by omega)]
  rw [ea, eb, ev]
  refine ⟨a2, b2, l3, a1, b1, fun z => ne ?_, l1, l2⟩
  rw [a2, b2, z]
/-- the shortest lane between two -/
def stW (R : Nat → Int32) : Nat → Nat → Nat → Nat
  | 0, _, _ => 1000000
  | j + 1, a, b => if (a = mlA R j ∧ b = mlB R j) ∨ (a = mlB R j ∧ b = mlA R j) then (if mlV R j < stW R j (mlA R j) (mlB R j) then mlV R j else stW R j (mlA R j) (mlB R j)) else stW R j a b
theorem stW_s {R : Nat → Int32} {j a b : Nat} : stW R (j + 1) a b = if (a = mlA R j ∧ b = mlB R j) ∨ (a = mlB R j ∧ b = mlA R j) then (if mlV R j < stW R j (mlA R j) (mlB R j) then mlV R j else stW R j (mlA R j) (mlB R j)) else stW R j a b := rfl
theorem stW_sym (R : Nat → Int32) : ∀ j a b, stW R j a b = stW R j b a
  | 0, _, _ => rfl
  | j + 1, a, b => by
    rw [stW_s, stW_s, stW_sym R j a b]
    by_cases z : (a = mlA R j ∧ b = mlB R j) ∨ (a = mlB R j ∧ b = mlA R j)
    · rw [if_pos z, if_pos (show (b = mlA R j ∧ a = mlB R j) ∨ (b = mlB R j ∧ a = mlA R j) by omega)]
    · rw [if_neg z, if_neg (by omega)]
theorem stW_b {R : Nat → Int32} {L : Nat} (vl : ∀ j, j < L → VL R j) : ∀ j, j ≤ L → ∀ a b, stW R j a b = 1000000 ∨ stW R j a b ≤ 9
  | 0, _, _, _ => Or.inl rfl
  | j + 1, hj, a, b => by
    have ih := stW_b vl j (by omega)
    have := ml_ok (vl j (by omega))
    rw [stW_s]
    by_cases z : (a = mlA R j ∧ b = mlB R j) ∨ (a = mlB R j ∧ b = mlA R j)
    · rw [if_pos z]
      have i2 := ih (mlA R j) (mlB R j)
      split <;> omega
    · rw [if_neg z]; exact ih a b
theorem stW_d {R : Nat → Int32} {L : Nat} (vl : ∀ j, j < L → VL R j) : ∀ j, j ≤ L → ∀ a, stW R j a a = 1000000
  | 0, _, _ => rfl
  | j + 1, hj, a => by
    have := ml_ok (vl j (by omega))
    rw [stW_s, if_neg (by omega)]; exact stW_d vl j (by omega) a
theorem stW_p {R : Nat → Int32} {L : Nat} (vl : ∀ j, j < L → VL R j) : ∀ j, j ≤ L → ∀ a b, 1 ≤ stW R j a b
  | 0, _, _, _ => by show 1 ≤ 1000000; omega
  | j + 1, hj, a, b => by
    have ih := stW_p vl j (by omega)
    have := ml_ok (vl j (by omega))
    rw [stW_s]
    by_cases z : (a = mlA R j ∧ b = mlB R j) ∨ (a = mlB R j ∧ b = mlA R j)
    · rw [if_pos z]
      have i2 := ih (mlA R j) (mlB R j)
      split <;> omega
    · rw [if_neg z]; exact ih a b
/-- over one corner more -/
def fw (D : Nat → Nat → Nat) (k a b : Nat) : Nat := if D a b ≤ D a k + D k b then D a b else D a k + D k b
def fwP (D : Nat → Nat → Nat) (k m a b : Nat) : Nat := if 8 * a + b < m then fw D k a b else D a b
def zd (D : Nat → Nat → Nat) (a b : Nat) : Nat := if a = b then 0 else D a b
def fwN (D : Nat → Nat → Nat) : Nat → Nat → Nat → Nat
  | 0 => zd D
  | k + 1 => fw (fwN D k) k
def BD (D : Nat → Nat → Nat) (B : Nat) : Prop := ∀ a b, D a b = 1000000 ∨ D a b ≤ B
theorem fw_0 {D : Nat → Nat → Nat} (h : ∀ a, D a a = 0) (k a : Nat) : fw D k a a = 0 := by unfold fw; rw [h a, if_pos (by omega)]
theorem fwN_0 (D : Nat → Nat → Nat) : ∀ k a, fwN D k a a = 0
  | 0, a => if_pos rfl
  | k + 1, a => fw_0 (fwN_0 D k) k a
theorem BD_fw {D : Nat → Nat → Nat} {B : Nat} (h : BD D B) (k : Nat) : BD (fw D k) (2 * B) := by
  intro a b
  unfold fw
  have h1 := h a b; have h2 := h a k; have h3 := h k b
  split <;> omega
theorem BD_N {D : Nat → Nat → Nat} (h : BD D 9) : ∀ k, BD (fwN D k) (9 * 2 ^ k)
  | 0 => fun a b => by
    show zd D a b = _ ∨ zd D a b ≤ _
    unfold zd; have := h a b; split <;> omega
  | k + 1 => by
    have := BD_fw (BD_N h k) k
    rw [show 9 * 2 ^ (k + 1) = 2 * (9 * 2 ^ k) by rw [Nat.pow_succ]; omega]; exact this
theorem BD_le {D : Nat → Nat → Nat} {B B' : Nat} (h : BD D B) (k : B ≤ B') : BD D B' := fun a b => by have := h a b; omega
theorem BD_8 {D : Nat → Nat → Nat} (h : BD D 9) {k : Nat} (hk : k ≤ 8) : BD (fwN D k) 2304 := BD_le (BD_N h k) (by
  have : 2 ^ k ≤ 2 ^ 8 := Nat.pow_le_pow_right (by omega) hk
  omega)
theorem fwP_k {D : Nat → Nat → Nat} (h : ∀ a, D a a = 0) (k m a : Nat) : fwP D k m a k = D a k := by
  unfold fwP fw
  rw [h k]
  by_cases z : 8 * a + k < m
  · rw [if_pos z, if_pos (by omega)]
  · rw [if_neg z]
theorem fwP_l {D : Nat → Nat → Nat} (h : ∀ a, D a a = 0) (k m b : Nat) : fwP D k m k b = D k b := by
  unfold fwP fw
  rw [h k]
  by_cases z : 8 * k + b < m
  · rw [if_pos z, if_pos (by omega)]
  · rw [if_neg z]
theorem fwP_s (D : Nat → Nat → Nat) (k m : Nat) {i j : Nat} (h : 8 * i + j ≠ m) : fwP D k (m + 1) i j = fwP D k m i j := by
  unfold fwP
  by_cases z : 8 * i + j < m
  · rw [if_pos z, if_pos (by omega)]
  · rw [if_neg z, if_neg (by omega)]
/-- in the class -/
theorem qc_btw {S : CS} {a b : Nat} (ha : a < 8) (hb : b < 8) : C_8_between S (nI a) (nI b) = some (ca S 13 1 (8 * a + b)) := by
  unfold C_8_between
  rw [qc_isCorner, isAt_in ha (by omega), bs, if_neg (by decide), qc_isCorner, isAt_in hb (by omega), bs, if_neg (by decide), c88, chk_in (by omega) (by decide), nI_clamp (by omega)]
theorem ca_13 (S : CS) (f : Nat → Int32) : ca (cF S 13 1 f) 13 1 = f := ca_cF _ _ _ _
theorem shL18 {F : Nat} {k2 : CS → Int32 → Option (Unit × CS)} {S : CS} {D : Nat → Nat → Nat} {k a : Nat} (hz : ∀ a, D a a = 0) (hb : BD D 5000) (hk : k < 8) (ha : a < 8) (h1 : D a k ≠ 1000000) : ∀ (t b fuel : Nat) (f : Nat → Int32), b + t = 8 → t < fuel → MT nI f (fwP D k (8 * a + b)) → ∃ f', C_8_shorten_L18 F k2 (nI k) (nI a) (nI (D a k)) fuel (cF S 13 1 f) (nI b) = k2 (cF S 13 1 f') (nI a + 1) ∧ MT nI f' (fwP D k (8 * a + 8))
  | 0, b, fuel + 1, f, e, _, m => by
    obtain rfl : b = 8 := by omega
    have hB := hb a k
    rw [C_8_shorten_L18, if_neg (show ¬ (1000000 : Int32) ≤ nI (D a k) from nI_ge (b := 1000000) (by omega) (by decide)), if_pos (by decide)]
    exact ⟨f, rfl, m⟩
  | t + 1, b, fuel + 1, f, e, hf, m => by
    have hB := hb a k
    have hB2 := hb k b
    have hB3 := hb a b
    rw [C_8_shorten_L18, if_neg (show ¬ (1000000 : Int32) ≤ nI (D a k) from nI_ge (b := 1000000) (by omega) (by decide)), if_neg (show ¬ (8 : Int32) ≤ nI b from nI_ge (b := 8) (by omega) (by decide)), qc_btw hk (by omega), bs, qc_btw ha (by omega), bs, ca_13, m k b hk (by omega), m a b ha (by omega), fwP_l hz, nI_add]
    have eab : fwP D k (8 * a + b) a b = D a b := by unfold fwP; rw [if_neg (by omega)]
    rw [eab]
    unfold C_8_shorten_B68
    rw [← nI_succ]
    by_cases z : D a b ≤ D a k + D k b
    · rw [if_pos (nI_le z (by omega))]
      refine shL18 hz hb hk ha h1 t (b + 1) fuel f (by omega) (by omega) (MT_cg m (fun i j hi hj => ?_))
      by_cases y : 8 * i + j = 8 * a + b
      · obtain ⟨rfl, rfl⟩ : i = a ∧ j = b := by omega
        rw [eab]; unfold fwP fw; rw [if_pos (by omega), if_pos z]
      · exact fwP_s D k _ y
    · rw [if_neg (nI_ge (by omega) (by omega)), c88, chk_in (by omega) (by decide), nI_clamp (by omega), stc_d]
      have := shL18 (F := F) (k2 := k2) (S := S) hz hb hk ha h1 t (b + 1) fuel (upd f (8 * a + b) (nI (D a k + D k b))) (by omega) (by omega) (MT_u (v := D a k + D k b) m ha (by omega) (by
        unfold fwP fw; rw [if_pos (by omega), if_neg z]) (fun i j hi hj y => fwP_s D k (8 * a + b) (by omega)))
      rw [show cA (cF S 13 1 f) 13 1 (8 * a + b) (nI (D a k + D k b)) = cF S 13 1 (upd f (8 * a + b) (nI (D a k + D k b))) from cA_cF _ _ _ _ _ _]
      exact this
theorem shL2 {F : Nat} {S : CS} {D : Nat → Nat → Nat} {k : Nat} (hF : 1000 ≤ F) (hz : ∀ a, D a a = 0) (hb : BD D 5000) (hk : k < 8) : ∀ (t a fuel : Nat) (f : Nat → Int32), a + t = 8 → t < fuel → MT nI f (fwP D k (8 * a)) → ∃ f', C_8_shorten_L2 F (nI k) fuel (cF S 13 1 f) (nI a) = some ((), cF S 13 1 f') ∧ MT nI f' (fw D k)
  | 0, a, fuel + 1, f, e, _, m => by
    obtain rfl : a = 8 := by omega
    rw [C_8_shorten_L2, if_pos (by decide)]
    exact ⟨f, rfl, MT_cg m (fun i j hi hj => by unfold fwP; rw [if_pos (by omega)])⟩
  | t + 1, a, fuel + 1, f, e, hf, m => by
    have hB := hb a k
    rw [C_8_shorten_L2, if_neg (show ¬ (8 : Int32) ≤ nI a from nI_ge (b := 8) (by omega) (by decide)), qc_btw (by omega) hk, bs, ca_13, m a k (by omega) hk, fwP_k hz]
    by_cases z : D a k = 1000000
    · obtain ⟨n, rfl⟩ : ∃ n, F = n + 1 := ⟨F - 1, by omega⟩
      rw [z, C_8_shorten_L18, if_pos (show (1000000 : Int32) ≤ nI 1000000 from by decide)]
      unfold C_8_shorten_B74
      rw [← nI_succ]
      refine shL2 hF hz hb hk t (a + 1) fuel f (by omega) (by omega) (MT_cg m (fun i j hi hj => ?_))
      unfold fwP
      by_cases y : 8 * i + j < 8 * a
      · rw [if_pos y, if_pos (by omega)]
      · rw [if_neg y]
        by_cases w : i = a
        · subst w
          have hB3 := hb i j
          rw [if_pos (by omega)]; unfold fw; rw [z, if_pos (by omega)]
        · rw [if_neg (by omega)]
    · obtain ⟨f', r1, r2⟩ := shL18 (F := F) (k2 := C_8_shorten_L2 F (nI k) fuel) (S := S) hz hb hk (show a < 8 by omega) z 8 0 F f (by omega) (by omega) m
      rw [show (0 : Int32) = nI 0 from rfl, r1, ← nI_succ]
      exact shL2 hF hz hb hk t (a + 1) fuel f' (by omega) (by omega) r2
theorem meL155 {F o1 : Nat} {S : CS} {D : Nat → Nat → Nat} (hF : 1000 ≤ F) (hb : BD D 9) : ∀ (t k fuel : Nat) (f : Nat → Int32), k + t = 8 → t < fuel → MT nI f (fwN D k) → ∃ f', C_8_measure_L155 F o1 fuel (cF S 13 1 f) (nI k) = some ((), cF S 13 1 f') ∧ MT nI f' (fwN D 8)
  | 0, k, fuel + 1, f, e, _, m => by
    obtain rfl : k = 8 := by omega
    rw [C_8_measure_L155, if_pos (by decide)]
    exact ⟨f, rfl, m⟩
  | t + 1, k, fuel + 1, f, e, hf, m => by
    rw [C_8_measure_L155, if_neg (show ¬ (8 : Int32) ≤ nI k from nI_ge (b := 8) (by omega) (by decide))]
    obtain ⟨f', r1, r2⟩ := shL2 (S := S) hF (fwN_0 D k) (BD_le (BD_8 hb (by omega)) (by omega)) (show k < 8 by omega) 8 0 F f (by omega) (by omega) (MT_cg m (fun i j hi hj => by unfold fwP; rw [if_neg (by omega)]))
    unfold C_8_shorten
    rw [show (0 : Int32) = nI 0 from rfl, r1, bs, ← nI_succ]
    exact meL155 hF hb t (k + 1) fuel f' (by omega) (by omega) r2
theorem meL129 {F o1 : Nat} {S : CS} {D : Nat → Nat → Nat} (hF : 1000 ≤ F) (hb : BD D 9) : ∀ (t k fuel : Nat) (f : Nat → Int32), k + t = 8 → t < fuel → MT nI f (fun a b => if a = b ∧ a < k then 0 else D a b) → ∃ f', C_8_measure_L129 F o1 fuel (cF S 13 1 f) (nI k) = some ((), cF S 13 1 f') ∧ MT nI f' (fwN D 8)
  | 0, k, fuel + 1, f, e, _, m => by
    obtain rfl : k = 8 := by omega
    rw [C_8_measure_L129, if_pos (by decide)]
    exact meL155 hF hb 8 0 F f (by omega) (by omega) (MT_cg m (fun i j hi hj => by
      show zd D i j = _
      unfold zd
      by_cases z : i = j
      · rw [if_pos z, if_pos (by omega)]
      · rw [if_neg z, if_neg (by omega)]))
  | t + 1, k, fuel + 1, f, e, hf, m => by
    rw [C_8_measure_L129, if_neg (show ¬ (8 : Int32) ≤ nI k from nI_ge (b := 8) (by omega) (by decide)), c88, chk_in (by omega) (by decide), nI_clamp (by omega), stc_d, ← nI_succ, show cA (cF S 13 1 f) 13 1 (8 * k + k) 0 = cF S 13 1 (upd f (8 * k + k) (nI 0)) from cA_cF _ _ _ _ _ _]
    exact meL129 hF hb t (k + 1) fuel _ (by omega) (by omega) (MT_u m (by omega) (by omega) (if_pos (by omega)) (fun i j hi hj y => by
      by_cases z : i = j ∧ i < k
      · rw [if_pos z, if_pos (by omega)]
      · rw [if_neg z, if_neg (by omega)]))
theorem meL11 {F o1 L : Nat} {S : CS} {R : Nat → Int32} (hF : 1000 ≤ F) (ho : o1 ≠ 13) (hL : L ≤ 10) (vl : ∀ j, j < L → VL R j) (h0 : ci S o1 5 = nI L) (tl : ∀ j, j < 10 → ca S o1 0 j = R (26 + j) ∧ ca S o1 1 j = R (36 + j) ∧ ca S o1 2 j = R (46 + j)) : ∀ (t j fuel : Nat) (f : Nat → Int32), j + t = L → t < fuel → MT nI f (stW R j) → ∃ f' g, C_8_measure_L11 F o1 fuel (cF S 13 0 f) (nI j) = some ((), cF (cF S 13 0 g) 13 1 f') ∧ MT nI g (stW R L) ∧ MT nI f' (fwN (stW R L) 8)
  | 0, j, fuel + 1, f, e, _, m => by
    obtain rfl : j = L := by omega
    have n64 : (64 : Int32).toNatClampNeg = 64 := by decide
    rw [C_8_measure_L11, show ci (cF S 13 0 f) o1 5 = nI j from h0, if_pos (nI_le (Nat.le_refl _) (by omega)), chk_t (show cpok (0 : Int32) (0 : Int32) (64 : Int32) 64 64 = true by decide), stc_d, cp_0, n64, ca_cF]
    obtain ⟨f', r1, r2⟩ := meL129 (F := F) (o1 := o1) (S := cF S 13 0 f) hF (stW_b vl j (Nat.le_refl _)) 8 0 F (va_cpy f (ca (cF S 13 0 f) 13 1) 0 0 64) (by omega) (by omega) (fun a b ha hb => by
      show _ = nI (if a = b ∧ a < 0 then 0 else stW R j a b)
      rw [pk_cpy_in (by omega) (by omega), if_neg (show ¬ (a = b ∧ a < 0) by omega), show 0 + (8 * a + b - 0) = 8 * a + b by omega]; exact m a b ha hb)
    exact ⟨f', f, r1, m, r2⟩
  | t + 1, j, fuel + 1, f, e, hf, m => by
    obtain ⟨ea, eb, ev, ha, hb, ne, v1, v9⟩ := ml_ok (vl j (by omega))
    obtain ⟨t0, t1, t2⟩ := tl j (by omega)
    have f0 : ∀ k, ca (cF S 13 0 f) o1 k = ca S o1 k := fun k => ca_cFn _ _ _ _ _ _ (Or.inl ho)
    have hs := stW_b vl j (by omega) (mlA R j) (mlB R j)
    have pl : ∀ a b, a < 8 → b < 8 → C_8_isPlace (nI (8 * a + b)) = some 1 := fun a b ha hb => by
      unfold C_8_isPlace; rw [if_neg (nI_pos (by omega)), if_neg (show ¬ (64 : Int32) ≤ nI (8 * a + b) from nI_ge (b := 64) (by omega) (by decide))]
    rw [C_8_measure_L11, show ci (cF S 13 0 f) o1 5 = nI L from h0, if_neg (nI_ge (by omega) (by omega))]
    simp only [f0]
    rw [nI_clamp (by omega), t0, t1, t2, ea, eb, ev, c88, c88, chk_in (by omega) (by decide), chk_in (by omega) (by decide), chk_in (by omega) (by decide), chk_in (by omega) (by decide), pl _ _ ha hb, bs, if_neg (by decide), pl _ _ hb ha, bs, if_neg (by decide), chk_in (by omega) (by decide), chk_in (by omega) (by decide), chk_in (by omega) (by decide), nI_clamp (by omega), nI_clamp (by omega), ca_cF, m _ _ ha hb, stc_d, chk_in (by omega) (by decide), chk_in (by omega) (by decide), stc_d]
    have ei : (if nI (mlV R j) < nI (stW R j (mlA R j) (mlB R j)) then nI (mlV R j) else nI (stW R j (mlA R j) (mlB R j))) = nI (if mlV R j < stW R j (mlA R j) (mlB R j) then mlV R j else stW R j (mlA R j) (mlB R j)) := by
      by_cases z : mlV R j < stW R j (mlA R j) (mlB R j)
      · rw [if_pos z, if_pos (nI_lt z (by omega))]
      · rw [if_neg z, if_neg (nI_nlt (by omega) (by omega))]
    rw [ei, cA_cF, ca_cF, pk_us, cA_cF]
    unfold C_8_measure_B103
    rw [← nI_succ]
    refine meL11 hF ho hL vl h0 tl t (j + 1) fuel _ (by omega) (by omega) ?_
    have m1 : MT nI (upd f (8 * mlA R j + mlB R j) (nI (if mlV R j < stW R j (mlA R j) (mlB R j) then mlV R j else stW R j (mlA R j) (mlB R j)))) (fun a b => if a = mlA R j ∧ b = mlB R j then (if mlV R j < stW R j (mlA R j) (mlB R j) then mlV R j else stW R j (mlA R j) (mlB R j)) else stW R j a b) := MT_u m ha hb (if_pos ⟨rfl, rfl⟩) (fun i k _ _ y => if_neg y)
    refine MT_u m1 hb ha ?_ (fun i k hi hk y => ?_)
    · rw [stW_s, if_pos (Or.inr ⟨rfl, rfl⟩)]
    · rw [stW_s]
      by_cases z : i = mlA R j ∧ k = mlB R j
      · rw [if_pos (Or.inl z), if_pos z]
      · rw [if_neg (by omega), if_neg z]
theorem fillL {F wo wk wn : Nat} {S : CS} {x : Int32} (hn : wn < 2 ^ 31) : ∀ (t j fuel : Nat) (f : Nat → Int32), j + t = wn → t < fuel → (∀ i, i < j → f i = x) → ∃ g, C_J7_fill_L5 F wo wk wn x (Int32.ofNat wn) fuel (cF S wo wk f) (nI j) = some ((), cF S wo wk g) ∧ ∀ i, i < wn → g i = x
  | 0, j, fuel + 1, f, e, _, h => by
    rw [C_J7_fill_L5, if_pos (show Int32.ofNat wn ≤ nI j from nI_le (a := wn) (by omega) (by omega))]
    exact ⟨f, rfl, fun i hi => h i (by omega)⟩
  | t + 1, j, fuel + 1, f, e, hf, h => by
    rw [C_J7_fill_L5, if_neg (show ¬ Int32.ofNat wn ≤ nI j from nI_ge (b := wn) (by omega) (by omega)), chk_in (by omega) hn, nI_clamp (by omega), stc_d, cA_cF, ← nI_succ]
    refine fillL hn t (j + 1) fuel _ (by omega) (by omega) (fun i hi => ?_)
    rw [upd_d]
    by_cases z : i = j
    · rw [if_pos z]
    · rw [if_neg z]; exact h i (by omega)
theorem cF_self (S : CS) (o k : Nat) : cF S o k (ca S o k) = S := by
  rw [cF_O, show va_up (ca S o) k (ca S o k) = ca S o from up_eq _ _]
  unfold cO
  rw [show va_up S.1 o (ci S o) = S.1 from up_eq _ _, show va_up S.2.1 o (ca S o) = S.2.1 from up_eq _ _]
theorem qc_fill {F wo wk wn : Nat} {S : CS} {x : Int32} (hF : wn < F) (hn : wn < 2 ^ 31) : ∃ g, C_J7_fill F S wo wk wn x = some ((), cF S wo wk g) ∧ ∀ i, i < wn → g i = x := by
  obtain ⟨g, r1, r2⟩ := fillL (F := F) (wo := wo) (wk := wk) (S := S) (x := x) hn wn 0 F (ca S wo wk) (by omega) (by omega) (fun i hi => by omega)
  rw [cF_self] at r1
  exact ⟨g, r1, r2⟩
/-- the distances -/
def DD (R : Nat → Int32) (L : Nat) : Nat → Nat → Nat := fwN (stW R L) 8
theorem qc_measure {F L C : Nat} {S : CS} {R : Nat → Int32} (hF : 1000 ≤ F) (va : VA R L C) (t : TW (ci S 1) (ca S 1) R) : ∃ f g, C_8_measure F S 1 = some ((), cF (cF S 13 0 g) 13 1 f) ∧ MT nI g (stW R L) ∧ MT nI f (DD R L) := by
  obtain ⟨⟨vL, vC, v0, v1⟩, vl, -⟩ := va
  obtain ⟨h, r1, r2⟩ := qc_fill (F := F) (wo := 13) (wk := 0) (wn := 64) (S := S) (x := 1000000) (by omega) (by decide)
  unfold C_8_measure
  rw [r1, bs]
  obtain ⟨f, g, a1, a2, a3⟩ := meL11 (F := F) (o1 := 1) (S := S) hF (by decide) vL vl (t.1.1.trans v0) (fun j hj => ⟨(t.2.1 j hj).1, (t.2.1 j hj).2.1, (t.2.1 j hj).2.2.1⟩) L 0 F h (by omega) (by omega) (fun a b ha hb => by rw [r2 _ (by omega)]; rfl)
  exact ⟨f, g, a1, a2, a3⟩
