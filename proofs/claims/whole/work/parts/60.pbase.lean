/-- the pure part: class and reference as functions. Base rows. -/
theorem chk_t {α : Type} {q : Prop} [Decidable q] (h : q) (k : Option α) : chk q k = k := if_pos h
theorem stt_d {α : Type} (S : MS) (k : MS → Option α) : stt S k = k S := rfl
theorem stc_d {α : Type} (S : CS) (k : CS → Option α) : stc S k = k S := rfl
theorem stp_d {α : Type} (S : va_W) (k : va_W → Option α) : stp S k = k S := rfl
theorem nmq_d {α : Type} (q : Option Nat) (k : Option Nat → Option α) : nmq q k = k q := rfl
theorem bs {α β : Type} (a : α) (f : α → Option β) : (some a).bind f = f a := rfl
theorem inb_nI {i N : Nat} (h : i < N) (hN : N < 2 ^ 31) : inb (nI i) N = true := by
  have e := nI_toInt (n := i) (by omega)
  simp only [inb, e, Bool.and_eq_true, decide_eq_true_eq]
  omega
theorem chk_in {α : Type} {i N : Nat} (h : i < N) (hN : N < 2 ^ 31) (k : Option α) : chk (inb (nI i) N = true) k = k := chk_t (inb_nI h hN) k
theorem lt_i (a b : Int32) : a < b ↔ a.toInt < b.toInt := Int32.lt_iff_toInt_lt
theorem le_i (a b : Int32) : a ≤ b ↔ a.toInt ≤ b.toInt := Int32.le_iff_toInt_le
theorem eq_i (a b : Int32) : a = b ↔ a.toInt = b.toInt := Int32.toInt_inj.symm
theorem rng_i (x : Int32) : -2147483648 ≤ x.toInt ∧ x.toInt < 2147483648 := ⟨Int32.le_toInt x, Int32.toInt_lt x⟩
theorem nI_m1 {n : Nat} (h : n < 2 ^ 31) : ¬ nI n = (-1 : Int32) := by
  rw [eq_i, nI_toInt h]
  have : (-1 : Int32).toInt = -1 := by decide
  omega
theorem neg_m1 : ¬ (-1 : Int32) = 0 := by decide
/-- an index out of any script: below, beyond, or within -/
theorem ix3 (x : Int32) {n : Nat} (hn : n < 2 ^ 31) : (x < 0) ∨ (¬ x < 0 ∧ nI n ≤ x) ∨ ∃ j : Nat, j < n ∧ x = nI j := by
  rcases pk_ix x hn with h | h | h
  · exact Or.inl h
  · refine Or.inr (Or.inl ⟨?_, h⟩)
    rw [lt_i]
    rw [le_i, nI_toInt hn] at h
    have : (0 : Int32).toInt = 0 := by decide
    omega
  · exact Or.inr (Or.inr h)
/-- in, of widened ints -/
theorem qm_in32 (x a b : Int32) (A B : Int64) (hA : A = a.toInt64) (hB : B = b.toInt64) : M_in x.toInt64 A B = some (if a ≤ x ∧ x ≤ b then 1 else 0) := by
  subst hA hB
  unfold M_in
  by_cases h1 : x.toInt64 < a.toInt64
  · rw [if_pos h1]
    rw [Int64.lt_iff_toInt_lt, Int32.toInt_toInt64, Int32.toInt_toInt64] at h1
    rw [if_neg]
    rw [le_i]; omega
  · rw [if_neg h1]
    rw [Int64.lt_iff_toInt_lt, Int32.toInt_toInt64, Int32.toInt_toInt64] at h1
    by_cases h2 : b.toInt64 < x.toInt64
    · rw [if_pos h2]
      rw [Int64.lt_iff_toInt_lt, Int32.toInt_toInt64, Int32.toInt_toInt64] at h2
      rw [if_neg]
      rw [le_i, le_i]; omega
    · rw [if_neg h2]
      rw [Int64.lt_iff_toInt_lt, Int32.toInt_toInt64, Int32.toInt_toInt64] at h2
      rw [if_pos]
      rw [le_i, le_i]; omega
theorem sub1L (n : Int32) (h : -2147483648 < n.toInt) : n.toInt64 - (1 : Int64) = (n - 1).toInt64 := by
  apply Int64.toInt_inj.mp
  have hr := rng_i n
  have e1 : (n - 1).toInt = n.toInt - 1 := by
    rw [Int32.toInt_sub]
    have : (1 : Int32).toInt = 1 := by decide
    rw [this]
    apply Int.bmod_eq_of_le <;> omega
  have e2 : (n.toInt64 - (1 : Int64)).toInt = n.toInt - 1 := by
    rw [Int64.toInt_sub, Int32.toInt_toInt64]
    have : (1 : Int64).toInt = 1 := by decide
    rw [this]
    apply Int.bmod_eq_of_le <;> omega
  rw [e2, Int32.toInt_toInt64, e1]
/-- is it a place of n -/
def isAt (x : Int32) (n : Nat) : Int32 := if 0 ≤ x.toInt ∧ x.toInt < n then 1 else 0
theorem isAt_in {j n : Nat} (h : j < n) (hn : n < 2 ^ 31) : isAt (nI j) n = 1 := by
  unfold isAt
  rw [nI_toInt (by omega), if_pos]; omega
theorem isAt_01 (x : Int32) (n : Nat) : isAt x n = 0 ∨ isAt x n = 1 := by
  unfold isAt; split
  · exact Or.inr rfl
  · exact Or.inl rfl
theorem isAt_0 {x : Int32} {n : Nat} (h : isAt x n = 0) : ¬ (0 ≤ x.toInt ∧ x.toInt < n) := by
  unfold isAt at h
  split at h
  · exact absurd h (by decide)
  · assumption
theorem isAt_n0 {x : Int32} {n : Nat} (hn : n < 2 ^ 31) (h : ¬ isAt x n = 0) : ∃ j : Nat, j < n ∧ x = nI j := by
  unfold isAt at h
  split at h
  · next hh =>
    refine ⟨x.toInt.toNat, by omega, ?_⟩
    rw [eq_i, nI_toInt (by omega)]; omega
  · exact absurd rfl h
theorem qm_inAt (x : Int32) (n : Nat) (B : Int64) (hn : n < 2 ^ 31) (hB : B = (nI n - 1).toInt64) : M_in x.toInt64 (0 : Int64) B = some (isAt x n) := by
  rw [qm_in32 x 0 (nI n - 1) 0 B rfl hB]
  congr 1
  unfold isAt
  have e : (nI n - 1).toInt = (n : Int) - 1 := by
    rw [Int32.toInt_sub, nI_toInt hn]
    have : (1 : Int32).toInt = 1 := by decide
    rw [this]
    apply Int.bmod_eq_of_le <;> omega
  have e0 : (0 : Int32).toInt = 0 := by decide
  simp only [le_i, e, e0]
  by_cases h : 0 ≤ x.toInt ∧ x.toInt < n
  · rw [if_pos h, if_pos (by omega)]
  · rw [if_neg h, if_neg (by omega)]
theorem qm_isCorner (x : Int32) : M_isCorner x = some (isAt x 8) := by
  unfold M_isCorner
  rw [qm_inAt x 8 7 (by decide) rfl, bs, chk_t (isAt_01 x 8)]
theorem qc_isCorner (x : Int32) : C_10_isCorner x = some (isAt x 8) := by
  unfold C_10_isCorner isAt
  have e0 : (0 : Int32).toInt = 0 := by decide
  have e8 : (8 : Int32).toInt = 8 := by decide
  simp only [lt_i, le_i, e0, e8]
  by_cases h : x.toInt < 0
  · rw [if_pos h, if_neg (by omega)]
  · rw [if_neg h]
    by_cases h2 : 8 ≤ x.toInt
    · rw [if_pos h2, if_neg (by omega)]
    · rw [if_neg h2, if_pos (by omega)]
theorem qc_isName (x : Int32) : C_10_isName x = some (isAt x 20) := by
  unfold C_10_isName isAt
  have e0 : (0 : Int32).toInt = 0 := by decide
  have e8 : (20 : Int32).toInt = 20 := by decide
  simp only [lt_i, le_i, e0, e8]
  by_cases h : x.toInt < 0
  · rw [if_pos h, if_neg (by omega)]
  · rw [if_neg h]
    by_cases h2 : 20 ≤ x.toInt
    · rw [if_pos h2, if_neg (by omega)]
    · rw [if_neg h2, if_pos (by omega)]
theorem qm_inName (x : Int32) : M_in x.toInt64 (0 : Int64) (19 : Int64) = some (isAt x 20) := qm_inAt x 20 19 (by decide) rfl
theorem qm_in01 (x : Int32) : M_in x.toInt64 (0 : Int64) (1 : Int64) = some (isAt x 2) := qm_inAt x 2 1 (by decide) rfl
theorem qm_isLane {S : MS} {L : Nat} (hL : L ≤ 10) (h : ma S 3 0 = nI L) (x : Int32) : M_isLane S x = some (isAt x L) := by
  unfold M_isLane
  rw [h, sub1L _ (by rw [nI_toInt (by omega)]; omega), qm_inAt x L _ (by omega) rfl, bs, chk_t (isAt_01 x L)]
theorem qm_isChild {S : MS} {L : Nat} (hL : L ≤ 10) (h : ma S 3 1 = nI L) (x : Int32) : M_isChild S x = some (isAt x L) := by
  unfold M_isChild
  rw [h, sub1L _ (by rw [nI_toInt (by omega)]; omega), qm_inAt x L _ (by omega) rfl, bs, chk_t (isAt_01 x L)]
theorem qc_hasLane {S : CS} {o L : Nat} (hL : L ≤ 10) (h : ci S o 5 = nI L) (x : Int32) : C_7_hasLane S o x = some (isAt x L) := by
  unfold C_7_hasLane isAt
  have e0 : (0 : Int32).toInt = 0 := by decide
  have e8 : (10 : Int32).toInt = 10 := by decide
  simp only [lt_i, le_i, e0, e8, h, nI_toInt (n := L) (by omega)]
  by_cases h : x.toInt < 0
  · rw [if_pos h, if_neg (by omega)]
  · rw [if_neg h]
    by_cases h2 : (L : Int) ≤ x.toInt
    · rw [if_pos h2, if_neg (by omega)]
    · rw [if_neg h2, if_neg (by omega), if_pos (by omega)]
theorem qc_hasChild {S : CS} {o L : Nat} (hL : L ≤ 4) (h : ci S o 9 = nI L) (x : Int32) : C_7_hasChild S o x = some (isAt x L) := by
  unfold C_7_hasChild isAt
  have e0 : (0 : Int32).toInt = 0 := by decide
  have e8 : (4 : Int32).toInt = 4 := by decide
  simp only [lt_i, le_i, e0, e8, h, nI_toInt (n := L) (by omega)]
  by_cases h : x.toInt < 0
  · rw [if_pos h, if_neg (by omega)]
  · rw [if_neg h]
    by_cases h2 : (L : Int) ≤ x.toInt
    · rw [if_pos h2, if_neg (by omega)]
    · rw [if_neg h2, if_neg (by omega), if_pos (by omega)]
theorem qc_hasLaw {S : CS} {o L : Nat} (hL : L ≤ 6) (h : ci S o 14 = nI L) (x : Int32) : C_7_hasLaw S o x = some (isAt x L) := by
  unfold C_7_hasLaw isAt
  have e0 : (0 : Int32).toInt = 0 := by decide
  have e8 : (6 : Int32).toInt = 6 := by decide
  simp only [lt_i, le_i, e0, e8, h, nI_toInt (n := L) (by omega)]
  by_cases h : x.toInt < 0
  · rw [if_pos h, if_neg (by omega)]
  · rw [if_neg h]
    by_cases h2 : (L : Int) ≤ x.toInt
    · rw [if_pos h2, if_neg (by omega)]
    · rw [if_neg h2, if_neg (by omega), if_pos (by omega)]
/-- states -/
theorem upd_d (f : Nat → Int32) (k : Nat) (x : Int32) (j : Nat) : upd f k x j = if j = k then x else f j := rfl
theorem updL_d (f : Nat → Int64) (k : Nat) (x : Int64) (j : Nat) : vp_updL f k x j = if j = k then x else f j := rfl
theorem up_d {α : Type} (f : Nat → α) (k : Nat) (x : α) (j : Nat) : va_up f k x j = if j = k then x else f j := rfl
theorem cpy_d {α : Type} (f g : Nat → α) (sp dp n k : Nat) : va_cpy f g sp dp n k = if dp ≤ k ∧ k < dp + n then f (sp + (k - dp)) else g k := rfl
