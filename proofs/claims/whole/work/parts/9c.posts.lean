/-- corners as bits -/
theorem b_1 (i : Nat) : bt 1 i = decide (i = 0) := by
  rcases Nat.lt_or_ge i 32 with h | h
  · exact (by decide +kernel : ∀ i, i < 32 → bt 1 i = decide (i = 0)) i h
  · rw [b_big h, decide_eq_false (by omega)]
theorem b_one {k i : Nat} (hk : k < 32) (hi : i < 32) : bt ((1 : Int32) <<< (nI k &&& 31)) i = decide (i = k) := by
  rw [b_shl k hk 1 hi, b_1]
  by_cases z : i = k
  · subst z; simp
  · by_cases y : k ≤ i
    · have : ¬ i - k = 0 := by omega
      simp [z, this]
    · simp [z, y]
theorem t_bit {k : Nat} (hk : k < 32) (x : Int32) : (x >>> (nI k &&& 31)) &&& 1 = if bt x k then 1 else 0 := b_ext fun i hi => by
  rw [b_and, b_1, b_sshr k hk x hi]
  by_cases z : i = 0
  · subst z
    rw [if_pos (show k + 0 < 32 by omega), Nat.add_zero]
    cases bt x k <;> simp [b_1, b_0]
  · rw [decide_eq_false z, Bool.and_false]
    cases bt x k <;> simp [b_1, b_0, z]
theorem b_not (x : Int32) {i : Nat} (hi : i < 32) : bt (x ^^^ (-1)) i = !bt x i := by
  rw [b_xor, b_m1 i hi, Bool.xor_true]
/-- lanes' ends at a corner -/
def eB (R : Nat → Int32) (j k : Nat) : Bool := decide (k = mlA R j) || decide (k = mlB R j)
theorem eB_d (R : Nat → Int32) (j k : Nat) : eB R j k = true ↔ k = mlA R j ∨ k = mlB R j := by
  unfold eB; rw [Bool.or_eq_true, decide_eq_true_eq, decide_eq_true_eq]
def cnE (R : Nat → Int32) (k : Nat) : Nat → Nat
  | 0 => 0
  | j + 1 => cnE R k j + (if eB R j k then 1 else 0)
theorem cnE_s (R : Nat → Int32) (k j : Nat) : cnE R k (j + 1) = cnE R k j + (if eB R j k then 1 else 0) := rfl
theorem cnE_le (R : Nat → Int32) (k : Nat) : ∀ j, cnE R k j ≤ j
  | 0 => Nat.le_refl _
  | j + 1 => by have := cnE_le R k j; rw [cnE_s]; split <;> omega
theorem cnE_8 {R : Nat → Int32} {L k : Nat} (vl : ∀ j, j < L → VL R j) (hk : 8 ≤ k) : ∀ j, j ≤ L → cnE R k j = 0
  | 0, _ => rfl
  | j + 1, hj => by
    have := ml_ok (vl j (by omega))
    rw [cnE_s, cnE_8 vl hk j (by omega), if_neg (fun w => by have := (eB_d R j k).mp w; omega)]
theorem b_end {R : Nat → Int32} {j : Nat} (v : VL R j) {i : Nat} (hi : i < 32) : bt (((1 : Int32) <<< (R (26 + j) &&& 31)) ||| ((1 : Int32) <<< (R (36 + j) &&& 31))) i = eB R j i := by
  obtain ⟨ea, eb, -, ha, hb, -⟩ := ml_ok v
  rw [ea, eb, b_or, b_one (by omega) hi, b_one (by omega) hi]; rfl
theorem laneEndsL {F L k : Nat} {σ : MS} (hL : L ≤ 10) (vl : ∀ j, j < L → VL (ma σ 3) j) (h0 : ma σ 3 0 = nI L) (hk : k < 8) : ∀ (t j fuel : Nat), j + t = L → t < fuel → M_laneEnds_L4 F σ (nI k) fuel (nI (cnE (ma σ 3) k j)) (nI j) = some (nI (cnE (ma σ 3) k L))
  | 0, j, fuel + 1, e, _ => by
    obtain rfl : j = L := by omega
    rw [M_laneEnds_L4, h0, if_pos (nI_le (Nat.le_refl _) (by omega))]
  | t + 1, j, fuel + 1, e, hf => by
    obtain ⟨ea, eb, -, ha, hb, -⟩ := ml_ok (vl j (by omega))
    have ih := laneEndsL (F := F) hL vl h0 hk t (j + 1) fuel (by omega) (by omega)
    rw [cnE_s, nI_succ] at ih
    rw [M_laneEnds_L4, h0, if_neg (nI_ge (by omega) (by omega)), qm_ends (by omega), bs, ea, eb]
    unfold M_laneEnds_B29
    have e1 : (nI (mlA (ma σ 3) j) = nI k ∨ nI (mlB (ma σ 3) j) = nI k) ↔ eB (ma σ 3) j k = true := by
      rw [eB_d, nI_eq (by omega) (by omega), nI_eq (by omega) (by omega)]; omega
    by_cases z : eB (ma σ 3) j k = true
    · rw [if_pos z, nI_succ] at ih
      rw [if_pos (e1.mpr z), if_neg (by decide)]; exact ih
    · rw [if_neg z, Nat.add_zero] at ih
      rw [if_neg (fun w => z (e1.mp w)), if_pos rfl, Int32.add_zero]; exact ih
theorem qm_laneEnds {F L C k : Nat} {σ : MS} (hF : 1000 ≤ F) (va : VA (ma σ 3) L C) (hk : k < 8) : M_laneEnds F σ (nI k) = some (nI (cnE (ma σ 3) k L)) := laneEndsL va.1.1 va.2.1 va.1.2.2.1 hk L 0 F (by omega) (by have := va.1.1; omega)
/-- dead ends -/
theorem deadC {F L : Nat} {S : CS} {R : Nat → Int32} (hL : L ≤ 10) (vl : ∀ j, j < L → VL R j) (h0 : ci S 1 5 = nI L) (tl : ∀ j, j < 10 → ca S 1 0 j = R (26 + j) ∧ ca S 1 1 j = R (36 + j)) : ∀ (t j fuel : Nat) (x y : Int32), j + t = L → t < fuel → (∀ i, i < 32 → bt x i = decide (1 ≤ cnE R i j) ∧ bt y i = decide (2 ≤ cnE R i j)) → ∃ z, C_10_dead_L6 F S fuel x y (nI j) = some z ∧ ∀ i, i < 32 → bt z i = decide (cnE R i L = 1)
  | 0, j, fuel + 1, x, y, e, _, h => by
    obtain rfl : j = L := by omega
    rw [C_10_dead_L6, h0, if_pos (nI_le (Nat.le_refl _) (by omega))]
    refine ⟨_, rfl, fun i hi => ?_⟩
    rw [b_and, b_not _ hi, (h i hi).1, (h i hi).2]
    by_cases a : cnE R i j = 1
    · rw [a]; rfl
    · rw [decide_eq_false a]
      by_cases b : 1 ≤ cnE R i j
      · rw [decide_eq_true b, decide_eq_true (show 2 ≤ cnE R i j by omega)]; rfl
      · rw [decide_eq_false b]; rfl
  | t + 1, j, fuel + 1, x, y, e, hf, h => by
    rw [C_10_dead_L6, h0, if_neg (nI_ge (by omega) (by omega)), chk_in (by omega) (by decide), chk_in (by omega) (by decide), nI_clamp (by omega), (tl j (by omega)).1, (tl j (by omega)).2, ← nI_succ]
    refine deadC hL vl h0 tl t (j + 1) fuel _ _ (by omega) (by omega) (fun i hi => ?_)
    rw [b_or, b_or y, b_and, b_end (vl j (by omega)) hi, (h i hi).1, (h i hi).2, cnE_s]
    by_cases z : eB R j i = true
    · rw [z, if_pos rfl, Bool.or_true, Bool.and_true]
      refine ⟨(decide_eq_true (by omega)).symm, ?_⟩
      by_cases b : 1 ≤ cnE R i j
      · rw [decide_eq_true b, Bool.or_true, decide_eq_true (show 2 ≤ cnE R i j + 1 by omega)]
      · rw [decide_eq_false b, Bool.or_false, decide_eq_false (show ¬ 2 ≤ cnE R i j by omega), decide_eq_false (show ¬ 2 ≤ cnE R i j + 1 by omega)]
    · rw [if_neg z, Nat.add_zero]
      have z' : eB R j i = false := by simpa using z
      rw [z', Bool.or_false, Bool.and_false, Bool.or_false]; exact ⟨rfl, rfl⟩
theorem deadM {F L C : Nat} {σ : MS} (hF : 1000 ≤ F) (va : VA (ma σ 3) L C) : ∀ (t k fuel : Nat) (x : Int32), k + t = 8 → t < fuel → (∀ i, i < 32 → bt x i = decide (i < k ∧ cnE (ma σ 3) i L = 1)) → ∃ z, M_dead_L9 F σ fuel x (nI k) = some (z, σ) ∧ ∀ i, i < 32 → bt z i = decide (cnE (ma σ 3) i L = 1)
  | 0, k, fuel + 1, x, e, _, h => by
    obtain rfl : k = 8 := by omega
    rw [M_dead_L9, if_pos (by decide)]
    refine ⟨x, rfl, fun i hi => ?_⟩
    rw [h i hi]
    by_cases z : i < 8
    · simp [z]
    · rw [cnE_8 va.2.1 (by omega) L (Nat.le_refl _)]; simp
  | t + 1, k, fuel + 1, x, e, hf, h => by
    have hle := cnE_le (ma σ 3) k L
    have hL := va.1.1
    rw [M_dead_L9, if_neg (show ¬ (8 : Int32) ≤ nI k from nI_ge (b := 8) (by omega) (by decide)), qm_laneEnds hF va (by omega), bs]
    unfold M_dead_B32
    rw [← nI_succ]
    by_cases z : cnE (ma σ 3) k L = 1
    · rw [if_pos (show nI (cnE (ma σ 3) k L) = (1 : Int32) by rw [z]; rfl)]
      refine deadM hF va t (k + 1) fuel _ (by omega) (by omega) (fun i hi => ?_)
      rw [b_or, h i hi, b_one (by omega) hi]
      by_cases y : i = k
      · subst y; simp [z]
      · have : (i < k + 1) = (i < k) := by apply propext; omega
        simp [y, this]
    · rw [if_neg (show ¬ nI (cnE (ma σ 3) k L) = (1 : Int32) from fun w => z ((nI_eq (b := 1) (by omega) (by decide)).mp w))]
      refine deadM hF va t (k + 1) fuel _ (by omega) (by omega) (fun i hi => ?_)
      rw [b_or, h i hi, b_0, Bool.or_false]
      by_cases y : i = k
      · subst y; simp [z]
      · have : (i < k + 1) = (i < k) := by apply propext; omega
        simp [this]
theorem pa_34 {F : Nat} {E : Nat → ClassId} (hF : 1000 ≤ F) : ag_34 F E (Rel E) := fun S P σ h => by
  have hh := h
  obtain ⟨L, C, H, W, t, vr, -⟩ := hh
  have hL := vr.1.1.1
  obtain ⟨z, c1, c2⟩ := deadC (F := F) (S := S) (R := ma σ 3) hL vr.1.2.1 (t.1.1.trans vr.1.1.2.2.1) (fun j hj => ⟨(t.2.1 j hj).1, (t.2.1 j hj).2.1⟩) L 0 F 0 0 (by omega) (by omega) (fun i hi => by rw [b_0]; exact ⟨rfl, rfl⟩)
  obtain ⟨z', m1, m2⟩ := deadM (F := F) (σ := mI σ 0 0) hF vr.1 8 0 F 0 (by omega) (by omega) (fun i hi => by rw [b_0]; simp)
  have ez : z' = z := b_ext fun i hi => by rw [c2 i hi]; exact m2 i hi
  refine ⟨z, mI σ 0 0, c1, ?_, rel_0 h 0⟩
  unfold M_dead
  rw [stt_d, ← ez]; exact m1
/-- how many corners -/
def pcF (s : Nat) : Nat → Nat
  | 0 => 0
  | k + 1 => pcF s k + (if bt (nI s) k then 1 else 0)
theorem pc_c : ∀ s, s < 256 → C_J6_bitCount (nI s) = some (nI (pcF s 8)) := by decide +kernel
theorem pc_8 : ∀ s, s < 255 → pcF s 8 < 8 := by decide +kernel
theorem pc_le (s : Nat) : ∀ k, pcF s k ≤ k
  | 0 => Nat.le_refl _
  | k + 1 => by have := pc_le s k; unfold pcF; split <;> omega
theorem onesL {F s : Nat} : ∀ (t k fuel : Nat), k + t = 8 → t < fuel → M_ones_L4 F (nI s) fuel (nI (pcF s k)) (nI k) = some (nI (pcF s 8))
  | 0, k, fuel + 1, e, _ => by
    obtain rfl : k = 8 := by omega
    rw [M_ones_L4, if_pos (by decide)]
  | t + 1, k, fuel + 1, e, hf => by
    have ih := onesL (F := F) (s := s) t (k + 1) fuel (by omega) (by omega)
    rw [M_ones_L4, if_neg (show ¬ (8 : Int32) ≤ nI k from nI_ge (b := 8) (by omega) (by decide)), t_bit (by omega), ← nI_succ]
    rw [show pcF s (k + 1) = pcF s k + (if bt (nI s) k then 1 else 0) from rfl] at ih
    by_cases z : bt (nI s) k = true
    · rw [if_pos z, nI_succ] at ih; rw [if_pos z]; exact ih
    · rw [if_neg z, Nat.add_zero] at ih; rw [if_neg z, Int32.add_zero]; exact ih
theorem qm_ones {F s : Nat} (hF : 1000 ≤ F) : M_ones F (nI s) = some (nI (pcF s 8)) := onesL 8 0 F (by omega) (by omega)
theorem qm_is {s k : Nat} (hk : k < 8) : M_is (nI s) (nI k) = some (if bt (nI s) k then 1 else 0) := by
  unfold M_is
  rw [t_bit (by omega)]
  cases bt (nI s) k <;> rfl
/-- covered by these posts -/
def cvO (D : Nat → Nat → Nat) (d s k : Nat) : Nat → Bool
  | 0 => false
  | o + 1 => cvO D d s k o || (bt (nI s) o && decide (D o k ≤ d))
def cvA (R : Nat → Int32) (L : Nat) (D : Nat → Nat → Nat) (d s : Nat) : Nat → Bool
  | 0 => true
  | k + 1 => cvA R L D d s k && (decide (cnE R k L = 0) || cvO D d s k 8)
theorem near31 {F B d s k : Nat} {σ : MS} {D : Nat → Nat → Nat} {k5 : Int32 → Int32 → Option Int32} (mt : MT fi (ma σ 42) D) (hB : B ≤ 5000) (hb : BD D B) (hd : d ≤ 50) (hk : k < 8) (b0 : Bool) (b3 : Bool) : ∀ (t o fuel : Nat), o + t = 8 → t < fuel → M_allNear_L31 F k5 σ (nI s) (nI d) (if b3 then 1 else 0) (nI k) fuel (if (b0 || cvO D d s k o) then 1 else 0) (nI o) = k5 (if (b3 && (b0 || cvO D d s k 8)) then 1 else 0) (nI k + 1)
  | 0, o, fuel + 1, e, _ => by
    obtain rfl : o = 8 := by omega
    rw [M_allNear_L31, if_pos (by decide)]
    unfold M_allNear_B90 M_allNear_B91
    cases b3 <;> cases (b0 || cvO D d s k 8) <;> rfl
  | t + 1, o, fuel + 1, e, hf => by
    have ih := near31 (F := F) (s := s) (k5 := k5) mt hB hb hd hk b0 b3 t (o + 1) fuel (by omega) (by omega)
    rw [show cvO D d s k (o + 1) = (cvO D d s k o || (bt (nI s) o && decide (D o k ≤ d))) from rfl, ← Bool.or_assoc, nI_succ] at ih
    rw [M_allNear_L31, if_neg (show ¬ (8 : Int32) ≤ nI o from nI_ge (b := 8) (by omega) (by decide)), qm_is (by omega), bs, qm_farOf mt hB hb (by omega) hk, bs]
    unfold M_allNear_B68 M_allNear_B64 M_allNear_B69
    cases c : (b0 || cvO D d s k o) with
    | true =>
      rw [c, Bool.true_or] at ih
      rw [if_pos rfl, if_neg (by decide)]; exact ih
    | false =>
      rw [c, Bool.false_or] at ih
      rw [if_pos (show (if false = true then (1 : Int32) else 0) = 0 from rfl)]
      cases c2 : bt (nI s) o with
      | false =>
        rw [c2, Bool.false_and] at ih
        rw [if_pos (show (if false = true then (1 : Int32) else 0) = 0 from rfl)]; exact ih
      | true =>
        rw [c2, Bool.true_and] at ih
        rw [if_neg (show ¬ (if true = true then (1 : Int32) else 0) = 0 by decide)]
        have lt : nI d < fi (D o k) ↔ d < D o k := by
          rcases hb o k with q | q
          · rw [q, fi_ge (Nat.le_refl _)]
            exact ⟨fun _ => by omega, fun _ => nI_lt (b := 100000000) (by omega) (by decide)⟩
          · rw [fi_lt (by omega)]; exact nI_ltI (by omega) (by omega)
        by_cases z : D o k ≤ d
        · rw [decide_eq_true z] at ih
          rw [if_neg (fun w => by have := lt.mp w; omega)]; exact ih
        · rw [decide_eq_false z] at ih
          rw [if_pos (lt.mpr (by omega))]; exact ih
theorem nearL {F L C B d s : Nat} {σ : MS} {D : Nat → Nat → Nat} (hF : 1000 ≤ F) (va : VA (ma σ 3) L C) (mt : MT fi (ma σ 42) D) (hB : B ≤ 5000) (hb : BD D B) (hd : d ≤ 50) : ∀ (t k fuel : Nat), k + t = 8 → t < fuel → M_allNear_L5 F σ (nI s) (nI d) fuel (if cvA (ma σ 3) L D d s k then 1 else 0) (nI k) = some (if cvA (ma σ 3) L D d s 8 then 1 else 0)
  | 0, k, fuel + 1, e, _ => by
    obtain rfl : k = 8 := by omega
    rw [M_allNear_L5, if_pos (by decide), chk_t]
    cases cvA (ma σ 3) L D d s 8
    · exact Or.inl rfl
    · exact Or.inr rfl
  | t + 1, k, fuel + 1, e, hf => by
    have hle := cnE_le (ma σ 3) k L
    have hL := va.1.1
    have ih := nearL (F := F) (s := s) hF va mt hB hb hd t (k + 1) fuel (by omega) (by omega)
    rw [show cvA (ma σ 3) L D d s (k + 1) = (cvA (ma σ 3) L D d s k && (decide (cnE (ma σ 3) k L = 0) || cvO D d s k 8)) from rfl, nI_succ] at ih
    rw [M_allNear_L5, if_neg (show ¬ (8 : Int32) ≤ nI k from nI_ge (b := 8) (by omega) (by decide)), qm_laneEnds hF va (by omega), bs]
    unfold M_allNear_B26
    by_cases z : cnE (ma σ 3) k L = 0
    · rw [if_pos (show nI (cnE (ma σ 3) k L) = 0 by rw [z]; rfl)]
      have := near31 (F := F) (s := s) (k5 := M_allNear_L5 F σ (nI s) (nI d) fuel) mt hB hb hd (show k < 8 by omega) true (cvA (ma σ 3) L D d s k) 8 0 F (by omega) (by omega)
      rw [decide_eq_true z] at ih
      exact this.trans ih
    · rw [if_neg (nI_ne0 (by omega) (by omega))]
      have := near31 (F := F) (s := s) (k5 := M_allNear_L5 F σ (nI s) (nI d) fuel) mt hB hb hd (show k < 8 by omega) false (cvA (ma σ 3) L D d s k) 8 0 F (by omega) (by omega)
      rw [decide_eq_false z] at ih
      exact this.trans ih
theorem qm_allNear {F L C B d s : Nat} {σ : MS} {D : Nat → Nat → Nat} (hF : 1000 ≤ F) (va : VA (ma σ 3) L C) (mt : MT fi (ma σ 42) D) (hB : B ≤ 5000) (hb : BD D B) (hd : d ≤ 50) : M_allNear F σ (nI s) (nI d) = some (if cvA (ma σ 3) L D d s 8 then 1 else 0) := nearL hF va mt hB hb hd 8 0 F (by omega) (by omega)
