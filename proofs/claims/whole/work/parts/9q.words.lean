/-- the words of the class's strings: where each begins, how long it is, its value -/
def wdT : List (List (Nat × Nat × Nat)) := [[(0, 5, 21678547), (6, 4, 624435), (11, 4, 67155)], [(0, 6, 773263538), (7, 3, 3673), (11, 4, 398372), (16, 4, 525939)], [(0, 5, 3417476), (6, 3, 1253), (10, 4, 394693), (15, 4, 409031), (20, 5, 20225300), (26, 6, 116996274), (33, 4, 394868), (38, 4, 278194), (43, 4, 441828)], [(0, 4, 278194), (5, 4, 146885), (10, 6, 404362868), (17, 5, 14726308), (23, 4, 369811), (28, 2, 52), (31, 5, 17172101)], [(0, 2, 655)], [(0, 5, 21279923)], [(0, 2, 294)], [(0, 3, 14836)], [(0, 3, 1476)], [(0, 2, 498)]]
def wdC (i : Nat) : Nat := (wdT.getD i []).length
def wdO (i m : Nat) : Nat := ((wdT.getD i []).getD m (0, 0, 0)).1
def wdL (i m : Nat) : Nat := ((wdT.getD i []).getD m (0, 0, 0)).2.1
def wdH (i m : Nat) : Nat := ((wdT.getD i []).getD m (0, 0, 0)).2.2
def bfC (i x : Nat) : Nat := ((bytC.getD i []).getD x 0).toNatClampNeg
def lnC (i : Nat) : Nat := lenC.getD i 0
theorem w_len : ∀ i, i < 10 → C_J0_length i = some (nI (lnC i)) ∧ lnC i ≤ 47 := by decide +kernel
theorem w_chr : ∀ i, i < 10 → ∀ x, x < lnC i → C_J0_charAt i (nI x) = some (nI (bfC i x)) ∧ bfC i x < 256 := by decide +kernel
theorem w_tab : ∀ i, i < 10 → wdO i 0 = 0 ∧ 1 ≤ wdC i ∧ ∀ m, m < wdC i → wdO i m + wdL i m ≤ lnC i ∧ wdL i m ≤ 10 ∧ wdH i m < 2147483648 ∧ hvT (bfC i) (wdO i m) (wdL i m) = wdH i m ∧ (∀ j, j < wdL i m → 97 ≤ bfC i (wdO i m + j) ∧ bfC i (wdO i m + j) ≤ 122) ∧ ((m + 1 < wdC i ∧ bfC i (wdO i m + wdL i m) = 32 ∧ wdO i (m + 1) = wdO i m + wdL i m + 1 ∧ wdO i m + wdL i m < lnC i) ∨ (m + 1 = wdC i ∧ wdO i m + wdL i m = lnC i)) := by decide +kernel
/-- values tell words -/
theorem lN_inj {a b : Nat} (ha : a < 2 ^ 63) (hb : b < 2 ^ 63) (h : lN a = lN b) : a = b := by
  have := congrArg Int64.toInt h
  unfold lN at this
  rw [Int64.toInt_ofNat_of_lt ha, Int64.toInt_ofNat_of_lt hb] at this
  omega
theorem hv_inj {t u : Nat → Nat} {s o : Nat} : ∀ c d, (∀ j, j < c → 97 ≤ t (s + j) ∧ t (s + j) ≤ 122) → (∀ j, j < d → 97 ≤ u (o + j) ∧ u (o + j) ≤ 122) → hvT t s c = hvT u o d → c = d ∧ ∀ j, j < c → t (s + j) = u (o + j)
  | 0, 0, _, _, _ => ⟨rfl, fun j hj => by omega⟩
  | 0, d + 1, _, h2, e => by
    have := h2 d (by omega)
    have e' : 0 = 32 * hvT u o d + (u (o + d) - 96) := e
    omega
  | c + 1, 0, h1, _, e => by
    have := h1 c (by omega)
    have e' : 32 * hvT t s c + (t (s + c) - 96) = 0 := e
    omega
  | c + 1, d + 1, h1, h2, e => by
    have a := h1 c (by omega)
    have b := h2 d (by omega)
    have e' : 32 * hvT t s c + (t (s + c) - 96) = 32 * hvT u o d + (u (o + d) - 96) := e
    obtain ⟨i1, i2⟩ := hv_inj c d (fun j hj => h1 j (by omega)) (fun j hj => h2 j (by omega)) (by omega)
    refine ⟨by omega, fun j hj => ?_⟩
    by_cases z : j = c
    · subst z; subst i1; omega
    · exact i2 j (by omega)
theorem hv_c {t u : Nat → Nat} {s o : Nat} : ∀ c, (∀ j, j < c → t (s + j) = u (o + j)) → hvT t s c = hvT u o c
  | 0, _ => rfl
  | c + 1, h => by
    show 32 * hvT t s c + (t (s + c) - 96) = 32 * hvT u o c + (u (o + c) - 96)
    rw [hv_c c (fun j hj => h j (by omega)), h c (by omega)]
theorem hv_b {t : Nat → Nat} {s : Nat} : ∀ c, (∀ j, j < c → 97 ≤ t (s + j) ∧ t (s + j) ≤ 122) → hvT t s c < 32 ^ c
  | 0, _ => by show 0 < 1; omega
  | c + 1, h => by
    have := hv_b c (fun j hj => h j (by omega))
    have := h c (by omega)
    show 32 * hvT t s c + (t (s + c) - 96) < 32 ^ (c + 1)
    rw [Nat.pow_succ]; omega
theorem sp_all (f : Nat → Bool) : ∀ r p i, p ≤ i → i < sp f r p → f i = true
  | 0, p, i, h1, h2 => by
    have : sp f 0 p = p := rfl
    omega
  | r + 1, p, i, h1, h2 => by
    rw [sp_s] at h2
    by_cases z : f p = true
    · rw [if_pos z] at h2
      by_cases y : i = p
      · rw [y]; exact z
      · exact sp_all f r (p + 1) i (by omega) h2
    · rw [if_neg z] at h2; omega
/-- the token is that word -/
def isW (t : Nat → Nat) (n s h : Nat) : Bool := decide (kdT t n s = 1 ∧ vlT t n s = lN h)
theorem kd_1 {t : Nat → Nat} {n s : Nat} (h : kdT t n s = 1) : s < n ∧ isL (t s) = true ∧ enT t n s = sp (fun i => isL (t i)) (n - s) s ∧ vlT t n s = wvT t s (enT t n s - s) := by
  unfold kdT at h
  by_cases z : n ≤ s
  · rw [if_pos z] at h; omega
  · rw [if_neg z] at h
    by_cases y : isL (t s) = true
    · refine ⟨by omega, y, ?_, ?_⟩
      · unfold enT; rw [if_neg z, if_pos y]
      · unfold vlT; rw [if_neg z, if_pos y]
    · rw [if_neg y] at h; split at h <;> omega
theorem w_is {t : Nat → Nat} {n s i m : Nat} (hi : i < 10) (hm : m < wdC i) (hk : kdT t n s = 1) : isW t n s (wdH i m) = true ↔ (enT t n s = s + wdL i m ∧ ∀ j, j < wdL i m → t (s + j) = bfC i (wdO i m + j)) := by
  obtain ⟨k1, k2, k3, k4⟩ := kd_1 hk
  obtain ⟨a1, a2, a3, a4, a5, -⟩ := (w_tab i hi).2.2 m hm
  have ge := sp_ge (fun i => isL (t i)) (n - s) s
  rw [← k3] at ge
  have all : ∀ j, j < enT t n s - s → 97 ≤ t (s + j) ∧ t (s + j) ≤ 122 := fun j hj => by
    have := sp_all (fun i => isL (t i)) (n - s) s (s + j) (by omega) (by rw [← k3]; omega)
    exact of_decide_eq_true this
  unfold isW
  rw [decide_eq_true_eq, k4]
  unfold wvT
  constructor
  · rintro ⟨-, e⟩
    by_cases z : enT t n s - s ≤ 10
    · rw [if_pos z] at e
      have hb := hv_b _ all
      have p10 : 32 ^ (enT t n s - s) ≤ 32 ^ 10 := Nat.pow_le_pow_right (by decide) z
      have e2 : hvT t s (enT t n s - s) = wdH i m := lN_inj (by omega) (by omega) e
      rw [← a4] at e2
      obtain ⟨q1, q2⟩ := hv_inj _ _ all a5 e2
      exact ⟨by omega, fun j hj => q2 j (by omega)⟩
    · rw [if_neg z] at e
      exfalso
      have := congrArg Int64.toInt e
      rw [lN_toInt (by omega)] at this
      have m1 : (-1 : Int64).toInt = -1 := by decide
      rw [m1] at this; omega
  · rintro ⟨e1, e2⟩
    have : enT t n s - s = wdL i m := by omega
    rw [this, if_pos a2, ← a4]
    exact ⟨hk, by rw [hv_c _ e2]⟩
/-- how a string is gone through -/
def meq (t : Nat → Nat) (i s e o : Nat) : Nat → Nat → Bool
  | _, 0 => true
  | j, r + 1 => (decide (s + j < e) && decide (t (s + j) = bfC i (o + j))) && meq t i s e o (j + 1) r
theorem meq_d {t : Nat → Nat} {i s e o : Nat} : ∀ r j, meq t i s e o j r = true ↔ ∀ k, j ≤ k → k < j + r → s + k < e ∧ t (s + k) = bfC i (o + k)
  | 0, j => ⟨fun _ k h1 h2 => by omega, fun _ => rfl⟩
  | r + 1, j => by
    show ((decide (s + j < e) && decide (t (s + j) = bfC i (o + j))) && meq t i s e o (j + 1) r) = true ↔ _
    rw [Bool.and_eq_true, Bool.and_eq_true, decide_eq_true_eq, decide_eq_true_eq, meq_d r (j + 1)]
    refine ⟨fun ⟨a, b⟩ k h1 h2 => ?_, fun a => ⟨a j (Nat.le_refl _) (by omega), fun k h1 h2 => a k (by omega) (by omega)⟩⟩
    by_cases z : k = j
    · rw [z]; exact a
    · exact b k (by omega) (by omega)
theorem chW {F n s e i m : Nat} {S : CS} {I : Nat → Int32} {t : Nat → Nat} (h : TPc S t n) (ht : ∀ i, t i < 256) (hi : i < 10) (hm : m < wdC i) (hen : e ≤ n) (hs : s ≤ n) (h5 : I 5 = nI s) (h6 : I 6 = nI e) : ∀ (r j q : Nat) (sm : Bool), j + r = wdL i m → C_3_choice_L23 F i (cJ S I) (r + 1 + q) (nI m) (nI (s + j)) (if sm then 1 else 0) (nI (wdO i m + j)) = if (sm && meq t i s e (wdO i m) j r) = true ∧ s + wdL i m = e then some (nI m) else C_3_choice_L23 F i (cJ S I) q (nI (m + 1)) (nI s) 1 (nI (wdO i m + wdL i m + 1))
  | 0, j, q, sm, e1 => by
    obtain rfl : j = wdL i m := by omega
    have hn := h.1
    obtain ⟨l1, l2⟩ := w_len i hi
    obtain ⟨a1, a2, a3, a4, a5, a6⟩ := (w_tab i hi).2.2 m hm
    have b52 : C_3_choice_B52 F i (C_3_choice_L23 F i (cJ S I) q) (cJ S I) (nI m) (nI (s + wdL i m)) (if sm then 1 else 0) (nI (wdO i m + wdL i m)) = if (sm && meq t i s e (wdO i m) (wdL i m) 0) = true ∧ s + wdL i m = e then some (nI m) else C_3_choice_L23 F i (cJ S I) q (nI (m + 1)) (nI s) 1 (nI (wdO i m + wdL i m + 1)) := by
      unfold C_3_choice_B52 C_3_choice_B67 C_3_choice_B118
      rw [ci_J, h5, h6, ← nI_succ, ← nI_succ, show meq t i s e (wdO i m) (wdL i m) 0 = true from rfl, Bool.and_true]
      cases sm with
      | false => rw [if_pos (by decide), if_neg (fun q => absurd q.1 (by decide))]
      | true =>
        rw [if_pos rfl, if_neg (by decide)]
        by_cases z : s + wdL i m = e
        · rw [if_pos (by rw [z]), if_pos ⟨rfl, z⟩]
        · rw [if_neg (fun w => z ((nI_eq (by omega) (by omega)).mp w)), if_neg (fun w => z w.2)]
    rw [Nat.zero_add, Nat.add_comm 1 q, C_3_choice_L23, l1, bs, bs, if_neg (nI_nlt (by omega) (by omega))]
    rcases a6 with ⟨c1, c2, c3, c4⟩ | ⟨c1, c2⟩
    · have hc := (w_chr i hi (wdO i m + wdL i m) c4).1
      rw [if_neg (fun w => by have := (nI_eq (by omega) (by omega)).mp w; omega), hc, bs, c2, if_pos (show nI 32 = 32 from rfl)]
      exact b52
    · rw [if_pos (by rw [c2])]; exact b52
  | r + 1, j, q, sm, e1 => by
    have hn := h.1
    obtain ⟨l1, l2⟩ := w_len i hi
    obtain ⟨a1, a2, a3, a4, a5, a6⟩ := (w_tab i hi).2.2 m hm
    have a7 := a5 j (by omega)
    obtain ⟨hc, hc2⟩ := w_chr i hi (wdO i m + j) (by omega)
    have ih := fun sm => chW (F := F) (S := S) (I := I) h ht hi hm hen hs h5 h6 r (j + 1) q sm (by omega)
    rw [show r + 1 + 1 + q = (r + 1 + q) + 1 by omega, C_3_choice_L23, l1, bs, bs, if_neg (nI_nlt (by omega) (by omega)), if_neg (fun w => by have := (nI_eq (by omega) (by omega)).mp w; omega), hc, bs, if_neg (show ¬ nI (bfC i (wdO i m + j)) = 32 from fun w => by have := (nI_eq (b := 32) (by omega) (by decide)).mp w; omega), ci_J, h6]
    unfold C_3_choice_B112 C_3_choice_B113 C_3_choice_B118
    rw [← nI_succ, ← nI_succ]
    show _ = if (sm && ((decide (s + j < e) && decide (t (s + j) = bfC i (wdO i m + j))) && meq t i s e (wdO i m) (j + 1) r)) = true ∧ s + wdL i m = e then some (nI m) else C_3_choice_L23 F i (cJ S I) q (nI (m + 1)) (nI s) 1 (nI (wdO i m + wdL i m + 1))
    have i0 := ih false
    rw [Bool.false_and] at i0
    cases sm with
    | false =>
      rw [if_pos (show (if (false = true) then (1 : Int32) else 0) = 0 by decide), Bool.false_and]
      exact i0
    | true =>
      rw [if_neg (show ¬ (if (true = true) then (1 : Int32) else 0) = 0 by decide), Bool.true_and]
      by_cases z : s + j < e
      · have hb := ht (s + j)
        rw [if_neg (nI_ge z (by omega)), qc_byte h (by omega), bs, bs, decide_eq_true z, Bool.true_and]
        by_cases y : t (s + j) = bfC i (wdO i m + j)
        · rw [if_pos (by rw [y]), decide_eq_true y, Bool.true_and]
          have i1 := ih true
          rw [Bool.true_and] at i1
          exact i1
        · rw [if_neg (fun w => y ((nI_eq (by omega) (by omega)).mp w)), decide_eq_false y, Bool.false_and]
          exact i0
      · rw [if_pos (nI_le (by omega) (by omega)), decide_eq_false z, Bool.false_and, Bool.false_and]
        exact i0
/-- the first that fits -/
def fsF (f : Nat → Bool) : Nat → Nat → Int32
  | _, 0 => -1
  | m, r + 1 => if f m = true then nI m else fsF f (m + 1) r
theorem chL' {F n s i : Nat} {S : CS} {I : Nat → Int32} {t : Nat → Nat} (h : TPc S t n) (ht : ∀ i, t i < 256) (hi : i < 10) (hk : kdT t n s = 1) (h5 : I 5 = nI s) (h6 : I 6 = nI (enT t n s)) : ∀ (r m fuel : Nat), m + (r + 1) = wdC i → lnC i + 2 ≤ fuel + wdO i m → C_3_choice_L23 F i (cJ S I) fuel (nI m) (nI s) 1 (nI (wdO i m)) = some (fsF (fun m => isW t n s (wdH i m)) m (r + 1)) := by
  intro r
  obtain ⟨k1, k2, k3, k4⟩ := kd_1 hk
  have ge := sp_ge (fun i => isL (t i)) (n - s) s
  have le := sp_le (fun i => isL (t i)) (n - s) s
  rw [← k3] at ge le
  induction r with
  | zero =>
    intro m fuel e hf
    have hm : m < wdC i := by omega
    obtain ⟨l1, l2⟩ := w_len i hi
    obtain ⟨a1, a2, a3, a4, a5, a6⟩ := (w_tab i hi).2.2 m hm
    have a7 : wdO i m + wdL i m = lnC i := by
      rcases a6 with q | q
      · omega
      · exact q.2
    obtain ⟨q, rfl⟩ : ∃ q, fuel = wdL i m + 1 + (q + 1) := ⟨fuel - (wdL i m + 2), by omega⟩
    have c := chW (F := F) (S := S) (I := I) h ht hi hm (show enT t n s ≤ n by omega) (show s ≤ n by omega) h5 h6 (wdL i m) 0 (q + 1) true (by omega)
    rw [if_pos rfl, Bool.true_and] at c
    have c' : C_3_choice_L23 F i (cJ S I) (wdL i m + 1 + (q + 1)) (nI m) (nI s) 1 (nI (wdO i m)) = _ := c
    rw [c']
    show _ = some (if isW t n s (wdH i m) = true then nI m else -1)
    have iff := w_is (t := t) (n := n) (s := s) hi hm hk
    by_cases z : isW t n s (wdH i m) = true
    · obtain ⟨z1, z2⟩ := iff.mp z
      rw [if_pos z, if_pos ⟨(meq_d _ _).mpr (fun k _ hk2 => ⟨by omega, z2 k (by omega)⟩), z1.symm⟩]
    · rw [if_neg z, if_neg (fun w => z (iff.mpr ⟨w.2.symm, fun j hj => ((meq_d _ _).mp w.1 j (Nat.zero_le _) (by omega)).2⟩)), C_3_choice_L23, l1, bs, if_pos (nI_lt (by omega) (by omega))]
  | succ r ih =>
    intro m fuel e hf
    have hm : m < wdC i := by omega
    obtain ⟨l1, l2⟩ := w_len i hi
    obtain ⟨a1, a2, a3, a4, a5, a6⟩ := (w_tab i hi).2.2 m hm
    have a7 : wdO i (m + 1) = wdO i m + wdL i m + 1 := by
      rcases a6 with q | q
      · exact q.2.2.1
      · omega
    obtain ⟨q, rfl⟩ : ∃ q, fuel = wdL i m + 1 + q := ⟨fuel - (wdL i m + 1), by omega⟩
    have c := chW (F := F) (S := S) (I := I) h ht hi hm (show enT t n s ≤ n by omega) (show s ≤ n by omega) h5 h6 (wdL i m) 0 q true (by omega)
    rw [if_pos rfl, Bool.true_and] at c
    have c' : C_3_choice_L23 F i (cJ S I) (wdL i m + 1 + q) (nI m) (nI s) 1 (nI (wdO i m)) = _ := c
    rw [c', ← a7, ih (m + 1) q (by omega) (by omega)]
    show _ = some (if isW t n s (wdH i m) = true then nI m else fsF (fun m => isW t n s (wdH i m)) (m + 1) (r + 1))
    have iff := w_is (t := t) (n := n) (s := s) hi hm hk
    by_cases z : isW t n s (wdH i m) = true
    · obtain ⟨z1, z2⟩ := iff.mp z
      rw [if_pos z, if_pos ⟨(meq_d _ _).mpr (fun k _ hk2 => ⟨by omega, z2 k (by omega)⟩), z1.symm⟩]
    · rw [if_neg z, if_neg (fun w => z (iff.mpr ⟨w.2.symm, fun j hj => ((meq_d _ _).mp w.1 j (Nat.zero_le _) (by omega)).2⟩))]
def chI (t : Nat → Nat) (n s i : Nat) : Int32 := fsF (fun m => isW t n s (wdH i m)) 0 (wdC i)
theorem fsF_n {f : Nat → Bool} : ∀ r m, (∀ k, m ≤ k → k < m + r → f k = false) → fsF f m r = -1
  | 0, _, _ => rfl
  | r + 1, m, h => by
    show (if f m = true then nI m else fsF f (m + 1) r) = -1
    rw [if_neg (by rw [h m (Nat.le_refl _) (by omega)]; decide)]
    exact fsF_n r (m + 1) (fun k h1 h2 => h k (by omega) (by omega))
theorem qc_choice {F n s i : Nat} {S : CS} {I : Nat → Int32} {t : Nat → Nat} (hF : 1000 ≤ F) (h : TPc S t n) (ht : ∀ i, t i < 256) (hi : i < 10) (tk : TKc t n s I) : C_3_choice F (cJ S I) i = some (chI t n s i) := by
  unfold C_3_choice chI
  rw [ci_J, tk.1]
  have kd : kdT t n s < 4 := by
    unfold kdT
    split
    · omega
    · split
      · omega
      · split <;> omega
  by_cases z : kdT t n s = 1
  · obtain ⟨l1, l2⟩ := w_len i hi
    obtain ⟨w1, w2, -⟩ := w_tab i hi
    have c := chL' (F := F) h ht hi z tk.2.1 tk.2.2.1 (wdC i - 1) 0 F (by omega) (by omega)
    rw [w1, show wdC i - 1 + 1 = wdC i by omega] at c
    rw [if_pos (by rw [z]; rfl), tk.2.1]
    exact c
  · rw [if_neg (show ¬ nI (kdT t n s) = 1 from fun q => z ((nI_eq (b := 1) (by omega) (by decide)).mp q)), fsF_n (f := fun m => isW t n s (wdH i m)) _ _ (fun k _ _ => decide_eq_false (fun q => z q.1))]
