/-- the lowest lane of a name -/
def fN (R : Nat → Int32) (x : Int32) : Nat → Nat → Int32
  | 0, _ => -1
  | k + 1, j => if R (8 + j) = x then nI j else fN R x k (j + 1)
theorem qc_namedW {F : Nat} {S : CS} {L : Nat} {R : Nat → Int32} {x : Int32} (hL : L ≤ 10) (h0 : ci S 1 5 = nI L) (hR : ∀ j, j < 10 → ca S 1 4 j = R (8 + j)) : ∀ (k j n : Nat), j + k = L → k < n → C_10_named_L11 F S x n (nI j) = some (fN R x k j)
  | 0, j, n + 1, e, _ => by
    rw [C_10_named_L11, h0, if_pos (nI_le (by omega) (by omega))]; rfl
  | k + 1, j, n + 1, e, hn => by
    rw [C_10_named_L11, h0, if_neg (nI_ge (by omega) (by omega)), chk_in (by omega) (by decide), nI_clamp (by omega), hR j (by omega), ← nI_succ, qc_namedW hL h0 hR k (j + 1) n (by omega) (by omega), fN]
    split <;> rfl
theorem qm_namedW {F : Nat} {σ : MS} {L : Nat} {x : Int32} (hL : L ≤ 10) (hx : ¬ isAt x 20 = 0) : ∀ (k n : Nat), k ≤ L → k < n → M_named_L16 F σ x n (fN (ma σ 3) x (L - k) k) (nI k - 1) = some (fN (ma σ 3) x L 0, σ)
  | 0, n + 1, _, _ => by
    rw [M_named_L16, if_pos (by decide)]; rfl
  | k + 1, n + 1, hk, hn => by
    rw [M_named_L16, nI_pred, if_neg (nI_pos (by omega)), qm_inName, bs, if_neg hx, a8, chk_in (by omega) (by decide), nI_clamp (by omega)]
    have ih := qm_namedW (F := F) (σ := σ) hL hx k n (by omega) (by omega)
    rw [show L - k = L - (k + 1) + 1 by omega, fN] at ih
    unfold M_named_B49 M_named_B50
    rw [show nI k + (-1 : Int32) = nI k - 1 by rw [Int32.sub_eq_add_neg]]
    split
    · next h => rw [if_pos h] at ih; exact ih
    · next h => rw [if_neg h] at ih; exact ih
theorem qm_namedX {F : Nat} {σ : MS} {x : Int32} (hx : isAt x 20 = 0) : ∀ (k n : Nat), k ≤ 10 → k < n → M_named_L16 F σ x n (-1) (nI k - 1) = some (-1, σ)
  | 0, n + 1, _, _ => by
    rw [M_named_L16, if_pos (by decide)]
  | k + 1, n + 1, hk, hn => by
    rw [M_named_L16, nI_pred, if_neg (nI_pos (by omega)), qm_inName, bs, if_pos hx]
    unfold M_named_B49 M_named_B50
    rw [show nI k + (-1 : Int32) = nI k - 1 by rw [Int32.sub_eq_add_neg]]
    exact qm_namedX hx k n (by omega) (by omega)
theorem pa_29 {F : Nat} {E : Nat → ClassId} (hF : 12 ≤ F) : ag_29 F E (Rel E) := fun S P σ x h => by
  have hh := h
  obtain ⟨L, C, H, W, ⟨⟨t1, t2, t3, t4, t5⟩, tl, tc, th, tt⟩, ⟨⟨⟨vL, vC, v0, v1⟩, -⟩, -⟩, -⟩ := hh
  by_cases z : isAt x 20 = 0
  · refine ⟨-1, mI σ 0 0, ?_, ?_, rel_0 h 0⟩
    · unfold C_10_named; rw [qc_isName, bs, if_pos z]
    · unfold M_named; rw [stt_d, show ma (mI σ 0 0) 3 0 = nI L from v0]; exact qm_namedX z L F (by omega) (by omega)
  · refine ⟨fN (ma σ 3) x L 0, mI σ 0 0, ?_, ?_, rel_0 h 0⟩
    · unfold C_10_named; rw [qc_isName, bs, if_neg z]; exact qc_namedW vL (t1.trans v0) (fun j hj => (tl j hj).2.2.2.2) L 0 F (by omega) (by omega)
    · unfold M_named; rw [stt_d, show ma (mI σ 0 0) 3 0 = nI L from v0]
      have := qm_namedW (F := F) (σ := mI σ 0 0) vL z L F (Nat.le_refl _) (by omega)
      rw [Nat.sub_self, fN] at this
      exact this
/-- a byte more -/
theorem rel_byte {E : Nat → ClassId} {S : CS} {P : va_W} {σ : MS} {t b : Nat} (h : Rel E S P σ) (ht : t < 400) (hb : b < 256) : Rel E (cI (cA S 10 0 t (nI b)) 10 1 (nI (t + 1))) P (mI (mA σ 12 t (nI b)) 13 (nI (t + 1))) := by
  obtain ⟨L, C, H, W, h1, h2, h3, h4, h5, ⟨n, hn, b1, b2, b3⟩, h7, h8, h9⟩ := h
  refine ⟨L, C, H, W, h1, h2, h3, h4, h5, ⟨t + 1, by omega, rfl, rfl, fun j hj => ?_⟩, h7, h8, h9⟩
  show upd (ca S 10 0) t (nI b) j = upd (ma σ 12) t (nI b) j ∧ ∃ c, c < 256 ∧ upd (ma σ 12) t (nI b) j = nI c
  rw [upd_d, upd_d]
  by_cases e : j = t
  · rw [if_pos e, if_pos e]; exact ⟨rfl, b, hb, rfl⟩
  · rw [if_neg e, if_neg e]; exact b3 j hj
theorem m8 (k : Nat) : nI (8 * (k + 1)) + (-8 : Int32) = nI (8 * k) := by
  rw [show 8 * (k + 1) = 8 * k + 8 by omega, ← nI_add, Int32.add_assoc, show nI 8 + (-8 : Int32) = 0 by decide, Int32.add_zero]
theorem fourL {F : Nat} {E : Nat → ClassId} {P : va_W} {x : Int32} : ∀ (k n m t : Nat) (S : CS) (σ : MS), k ≤ 4 → k < n → k < m → t + k ≤ 400 → Rel E S P σ → mi σ 13 = nI t → ci S 10 1 = nI t → ∃ (T : CS) (τ : MS), C_6_addFour_L3 F x n S (nI (8 * k) + (-8)) = some ((), T) ∧ M_four_L3 F x m σ (nI (8 * k) + (-8)) = some ((), τ) ∧ Rel E T P τ ∧ mi τ 13 = nI (t + k) ∧ ci T 10 1 = nI (t + k)
  | 0, n + 1, m + 1, t, S, σ, _, _, _, _, h, e1, e2 => by
    refine ⟨S, σ, ?_, ?_, h, e1, e2⟩
    · rw [C_6_addFour_L3, if_pos (by decide)]
    · rw [M_four_L3, if_pos (by decide)]
  | k + 1, n + 1, m + 1, t, S, σ, hk, hn, hm, ht, h, e1, e2 => by
    obtain ⟨b, hb, eb⟩ := byteE (x >>> (nI (8 * k) &&& 31))
    have h' := rel_byte h (t := t) (by omega) hb
    obtain ⟨T, τ, a1, a2, a3, a4, a5⟩ := fourL k n m (t + 1) _ _ (by omega) (by omega) (by omega) (by omega) h' rfl rfl
    refine ⟨T, τ, ?_, ?_, a3, by rw [a4]; congr 1; omega, by rw [a5]; congr 1; omega⟩
    · rw [C_6_addFour_L3, m8, if_neg (nI_pos (by omega)), e2, if_neg (show ¬ (400 : Int32) ≤ nI t from nI_ge (b := 400) (by omega) (by decide)), chk_in (by omega) (by decide), nI_clamp (by omega), byteEq _ (by omega), eb, stc_d, stc_d]
      have : ci (cA S 10 0 t (nI b)) 10 1 = nI t := e2
      rw [this, ← nI_succ]
      exact a1
    · rw [M_four_L3, m8, if_neg (nI_pos (by omega)), e1, chk_in (by omega) (by decide), nI_clamp (by omega), eb, stt_d, stt_d]
      have : mi (mA σ 12 t (nI b)) 13 = nI t := e1
      rw [this, ← nI_succ]
      exact a2
theorem pa_6 {F : Nat} {E : Nat → ClassId} (hF : 12 ≤ F) : ag_6 F E (Rel E) := fun S P σ x1 x2 x3 x4 x5 h => by
  have hh := h
  obtain ⟨L, C, H, W, -, -, -, -, -, ⟨n, hn, b1, b2, b3⟩, -, -, -⟩ := hh
  by_cases k : n + 20 ≤ 400
  · obtain ⟨S1, σ1, p1, q1, h1, y1, z1⟩ := fourL (F := F) (x := x1) 4 F F n S (mI σ 0 0) (by omega) (by omega) (by omega) (by omega) (rel_0 h 0) b2 b1
    obtain ⟨S2, σ2, p2, q2, h2, y2, z2⟩ := fourL (F := F) (x := x2) 4 F F _ S1 σ1 (by omega) (by omega) (by omega) (by omega) h1 y1 z1
    obtain ⟨S3, σ3, p3, q3, h3, y3, z3⟩ := fourL (F := F) (x := x3) 4 F F _ S2 σ2 (by omega) (by omega) (by omega) (by omega) h2 y2 z2
    obtain ⟨S4, σ4, p4, q4, h4, y4, z4⟩ := fourL (F := F) (x := x4) 4 F F _ S3 σ3 (by omega) (by omega) (by omega) (by omega) h3 y3 z3
    obtain ⟨S5, σ5, p5, q5, h5, y5, z5⟩ := fourL (F := F) (x := x5) 4 F F _ S4 σ4 (by omega) (by omega) (by omega) (by omega) h4 y4 z4
    refine ⟨(ci S5 10 1, S5), σ5, ?_, ?_, h5⟩
    · unfold C_10_feed
      rw [b1, if_pos (show nI n + 20 ≤ (400 : Int32) from by rw [show nI n + (20 : Int32) = nI (n + 20) from nI_add n 20]; exact nI_le (b := 400) k (by decide))]
      unfold C_6_addFour
      rw [show (24 : Int32) = nI (8 * 4) + (-8) by decide, p1, bs, p2, bs, p3, bs, p4, bs, p5, bs]
    · unfold M_feed
      rw [stt_d, show mi (mI σ 0 0) 13 = nI n from b2, if_pos (show nI n + 20 ≤ (400 : Int32) from by rw [show nI n + (20 : Int32) = nI (n + 20) from nI_add n 20]; exact nI_le (b := 400) k (by decide))]
      unfold M_four
      rw [show (24 : Int32) = nI (8 * 4) + (-8) by decide, q1, bs, q2, bs, q3, bs, q4, bs, q5, bs]
      show some (mi σ5 13, σ5) = some (ci S5 10 1, σ5)
      rw [y5, z5]
  · refine ⟨(-1, S), mI σ 0 0, ?_, ?_, rel_0 h 0⟩
    · unfold C_10_feed
      rw [b1, if_neg (show ¬ nI n + 20 ≤ (400 : Int32) from by rw [show nI n + (20 : Int32) = nI (n + 20) from nI_add n 20]; exact nI_ge (a := 400) (by omega) (by omega))]
    · unfold M_feed
      rw [stt_d, show mi (mI σ 0 0) 13 = nI n from b2, if_neg (show ¬ nI n + 20 ≤ (400 : Int32) from by rw [show nI n + (20 : Int32) = nI (n + 20) from nI_add n 20]; exact nI_ge (a := 400) (by omega) (by omega))]
/-- laid back out of the kept ones -/
def psn (U : Nat → Int32) (m : Nat) (R : Nat → Int32) (t : Nat) : Nat → Int32 := fun i => if 5 ≤ i ∧ i < 5 + t then U (21 * m + (i - 5)) else R i
theorem psn_s (U : Nat → Int32) (m : Nat) (R : Nat → Int32) (t : Nat) : upd (psn U m R t) (5 + t) (U (21 * m + t)) = psn U m R (t + 1) := by
  funext i; rw [upd_d]; unfold psn
  by_cases e : i = 5 + t
  · rw [if_pos e, if_pos (by omega), show i - 5 = t by omega]
  · rw [if_neg e]
    by_cases k : 5 ≤ i ∧ i < 5 + t
    · rw [if_pos k, if_pos (by omega)]
    · rw [if_neg k, if_neg (by omega)]
theorem m21 (m t : Nat) : (21 : Int32) * nI m + nI t = nI (21 * m + t) := by
  rw [show (21 : Int32) = nI 21 from rfl, pk_mul, nI_add]
theorem mF_self (σ : MS) (k : Nat) : mF σ k (ma σ k) = σ := by
  unfold mF; rw [show va_up σ.2.2.1 k (ma σ k) = σ.2.2.1 from up_eq _ _]
theorem qm_putBackL {F : Nat} {σ : MS} {m : Nat} (hm : m < 18) : ∀ (k t n : Nat), t + k = 21 → k < n → M_putBack_L2 F (nI m) n (mF σ 3 (psn (ma σ 6) m (ma σ 3) t)) (nI t) = some ((), mF σ 3 (snap (ma σ 6) m (ma σ 3)))
  | 0, t, n + 1, e, _ => by
    obtain rfl : t = 21 := by omega
    rw [M_putBack_L2, if_pos (by decide)]; rfl
  | k + 1, t, n + 1, e, hn => by
    rw [M_putBack_L2, if_neg (show ¬ (21 : Int32) ≤ nI t from nI_ge (b := 21) (by omega) (by decide)), m21, chk_in (by omega) (by decide), a5, chk_in (by omega) (by decide), nI_clamp (by omega), nI_clamp (by omega), stt_d, mA_F, mF_mF, ma_F, show ma (mF σ 3 (psn (ma σ 6) m (ma σ 3) t)) 6 = ma σ 6 from rfl, psn_s, ← nI_succ]
    exact qm_putBackL hm k (t + 1) n (by omega) (by omega)
theorem qm_putBack {F : Nat} {σ : MS} {m : Nat} (hF : 22 ≤ F) (hm : m < 18) : M_putBack F σ (nI m) = some ((), mF σ 3 (snap (ma σ 6) m (ma σ 3))) := by
  have := qm_putBackL (F := F) (σ := σ) hm 21 0 F (by omega) (by omega)
  rw [show psn (ma σ 6) m (ma σ 3) 0 = ma σ 3 from funext fun i => by unfold psn; rw [if_neg (by omega)], mF_self] at this
  exact this
def kpt (R : Nat → Int32) (m : Nat) (U : Nat → Int32) (t : Nat) : Nat → Int32 := fun i => if 21 * m ≤ i ∧ i < 21 * m + t then R (5 + (i - 21 * m)) else U i
theorem kpt_s (R : Nat → Int32) (m : Nat) (U : Nat → Int32) (t : Nat) : upd (kpt R m U t) (21 * m + t) (R (5 + t)) = kpt R m U (t + 1) := by
  funext i; rw [upd_d]; unfold kpt
  by_cases e : i = 21 * m + t
  · rw [if_pos e, if_pos (by omega), show i - 21 * m = t by omega]
  · rw [if_neg e]
    by_cases k : 21 * m ≤ i ∧ i < 21 * m + t
    · rw [if_pos k, if_pos (by omega)]
    · rw [if_neg k, if_neg (by omega)]
theorem qm_keepL {F : Nat} {σ : MS} {m : Nat} (hm : m < 18) : ∀ (k t n : Nat), t + k = 21 → k < n → M_keepAll_L2 F (nI m) n (mF σ 6 (kpt (ma σ 3) m (ma σ 6) t)) (nI t) = some ((), mF σ 6 (kpt (ma σ 3) m (ma σ 6) 21))
  | 0, t, n + 1, e, _ => by
    obtain rfl : t = 21 := by omega
    rw [M_keepAll_L2, if_pos (by decide)]
  | k + 1, t, n + 1, e, hn => by
    rw [M_keepAll_L2, if_neg (show ¬ (21 : Int32) ≤ nI t from nI_ge (b := 21) (by omega) (by decide)), a5, chk_in (by omega) (by decide), m21, chk_in (by omega) (by decide), nI_clamp (by omega), nI_clamp (by omega), stt_d, mA_F, mF_mF, ma_F, show ma (mF σ 6 (kpt (ma σ 3) m (ma σ 6) t)) 3 = ma σ 3 from rfl, kpt_s, ← nI_succ]
    exact qm_keepL hm k (t + 1) n (by omega) (by omega)
theorem qm_keepAll {F : Nat} {σ : MS} {m : Nat} (hF : 22 ≤ F) (hm : m < 18) : M_keepAll F σ (nI m) = some ((), mF σ 6 (kpt (ma σ 3) m (ma σ 6) 21)) := by
  have := qm_keepL (F := F) (σ := σ) hm 21 0 F (by omega) (by omega)
  rw [show kpt (ma σ 3) m (ma σ 6) 0 = ma σ 6 from funext fun i => by unfold kpt; rw [if_neg (by omega)], mF_self] at this
  exact this
