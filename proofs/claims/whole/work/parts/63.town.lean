/-- a whole array anew -/
def mF (S : MS) (k : Nat) (f : Nat → Int32) : MS := (S.1, S.2.1, va_up S.2.2.1 k f, S.2.2.2)
theorem up_up {α : Type} (f : Nat → α) (k : Nat) (x y : α) : va_up (va_up f k x) k y = va_up f k y := by
  funext j; simp only [up_d]; split <;> rfl
theorem up_eq {α : Type} (f : Nat → α) (k : Nat) : va_up f k (f k) = f := by
  funext j; simp only [up_d]; split
  · next h => rw [h]
  · rfl
theorem mF_mF (S : MS) (k : Nat) (f g : Nat → Int32) : mF (mF S k f) k g = mF S k g := by
  unfold mF; simp only [up_up]
theorem mA_F (S : MS) (k j : Nat) (v : Int32) : mA S k j v = mF S k (upd (ma S k) j v) := rfl
theorem ma_F (S : MS) (k : Nat) (f : Nat → Int32) : ma (mF S k f) k = f := va_up_self _ _ _
/-- a whole object of the class anew -/
def cO (S : CS) (o : Nat) (I : Nat → Int32) (A : Nat → Nat → Int32) : CS := (va_up S.1 o I, va_up S.2.1 o A, S.2.2)
theorem cI_O (S : CS) (o k : Nat) (v : Int32) : cI S o k v = cO S o (upd (ci S o) k v) (ca S o) := by
  unfold cI cO; rw [show va_up S.2.1 o (ca S o) = S.2.1 from up_eq _ _]
theorem cF_O (S : CS) (o k : Nat) (f : Nat → Int32) : cF S o k f = cO S o (ci S o) (va_up (ca S o) k f) := by
  unfold cF cO; rw [show va_up S.1 o (ci S o) = S.1 from up_eq _ _]
theorem cA_O (S : CS) (o k j : Nat) (v : Int32) : cA S o k j v = cO S o (ci S o) (va_up (ca S o) k (upd (ca S o k) j v)) := cF_O S o k _
theorem cO_O (S : CS) (o : Nat) (I J : Nat → Int32) (A B : Nat → Nat → Int32) : cO (cO S o I A) o J B = cO S o J B := by
  unfold cO; simp only [up_up]
theorem ci_O (S : CS) (o : Nat) (I : Nat → Int32) (A : Nat → Nat → Int32) : ci (cO S o I A) o = I := va_up_self _ _ _
theorem ca_O (S : CS) (o : Nat) (I : Nat → Int32) (A : Nat → Nat → Int32) : ca (cO S o I A) o = A := va_up_self _ _ _
/-- a lane more -/
def addL (R : Nat → Int32) (n : Nat) (x1 x2 x3 x4 : Int32) : Nat → Int32 := upd (upd (upd (upd (upd (upd R (26 + n) x1) (36 + n) x2) (46 + n) x3) (56 + n) x4) (8 + n) (-1)) 0 (nI (n + 1))
def okL (x1 x2 x3 x4 : Int32) : Prop := ¬ isAt x1 8 = 0 ∧ ¬ isAt x2 8 = 0 ∧ ¬ x1 = x2 ∧ (1 ≤ x3.toInt ∧ x3.toInt ≤ 9) ∧ (0 ≤ x4.toInt ∧ x4.toInt ≤ 4)
theorem i32_0 : (0 : Int32).toInt = 0 := by decide
theorem i32_1 : (1 : Int32).toInt = 1 := by decide
theorem i32_4 : (4 : Int32).toInt = 4 := by decide
theorem i32_9 : (9 : Int32).toInt = 9 := by decide
theorem qc_canBe (x1 x2 x3 x4 : Int32) : (okL x1 x2 x3 x4 ∧ C_10_canBeLane x1 x2 x3 x4 = some 1) ∨ (¬ okL x1 x2 x3 x4 ∧ C_10_canBeLane x1 x2 x3 x4 = some 0) := by
  unfold C_10_canBeLane okL
  rw [qc_isCorner, qc_isCorner, bs]
  simp only [bs, lt_i, i32_0, i32_1, i32_4, i32_9]
  by_cases h1 : isAt x1 8 = 0
  · rw [if_pos h1]; exact Or.inr ⟨fun h => h.1 h1, rfl⟩
  rw [if_neg h1]
  by_cases h2 : isAt x2 8 = 0
  · rw [if_pos h2]; exact Or.inr ⟨fun h => h.2.1 h2, rfl⟩
  rw [if_neg h2]
  by_cases h3 : x1 = x2
  · rw [if_pos h3]; exact Or.inr ⟨fun h => h.2.2.1 h3, rfl⟩
  rw [if_neg h3]
  by_cases h4 : x3.toInt < 1
  · rw [if_pos h4]; exact Or.inr ⟨fun h => by omega, rfl⟩
  rw [if_neg h4]
  by_cases h5 : 9 < x3.toInt
  · rw [if_pos h5]; exact Or.inr ⟨fun h => by omega, rfl⟩
  rw [if_neg h5]
  by_cases h6 : x4.toInt < 0
  · rw [if_pos h6]; exact Or.inr ⟨fun h => by omega, rfl⟩
  rw [if_neg h6]
  by_cases h7 : 4 < x4.toInt
  · rw [if_pos h7]; exact Or.inr ⟨fun h => by omega, rfl⟩
  rw [if_neg h7]
  exact Or.inl ⟨⟨h1, h2, h3, by omega, by omega⟩, rfl⟩
theorem qm_in19 (x : Int32) : M_in x.toInt64 (1 : Int64) (9 : Int64) = some (if 1 ≤ x.toInt ∧ x.toInt ≤ 9 then 1 else 0) := by
  rw [qm_in32 x 1 9 1 9 rfl rfl]; simp only [le_i, i32_1, i32_9]
theorem qm_in04 (x : Int32) : M_in x.toInt64 (0 : Int64) (4 : Int64) = some (if 0 ≤ x.toInt ∧ x.toInt ≤ 4 then 1 else 0) := by
  rw [qm_in32 x 0 4 0 4 rfl rfl]; simp only [le_i, i32_0, i32_4]
theorem qm_come {σ : MS} {L : Nat} (hL : L ≤ 10) (h0 : ma σ 3 0 = nI L) (x1 x2 x3 x4 : Int32) : (¬ okL x1 x2 x3 x4 ∧ M_come σ x1 x2 x3 x4 = some (-1, σ)) ∨ (okL x1 x2 x3 x4 ∧ L = 10 ∧ M_come σ x1 x2 x3 x4 = some (-5, σ)) ∨ (okL x1 x2 x3 x4 ∧ L < 10 ∧ M_come σ x1 x2 x3 x4 = some (nI L, mF σ 3 (addL (ma σ 3) L x1 x2 x3 x4))) := by
  unfold M_come
  rw [qm_isCorner, qm_isCorner, bs, bs, qm_in19, qm_in04, bs, bs]
  by_cases h1 : isAt x1 8 = 0
  · rw [if_pos h1]; exact Or.inl ⟨fun h => h.1 h1, rfl⟩
  rw [if_neg h1]
  by_cases h2 : isAt x2 8 = 0
  · rw [if_pos h2]; exact Or.inl ⟨fun h => h.2.1 h2, rfl⟩
  rw [if_neg h2]
  by_cases h3 : x1 = x2
  · rw [if_pos h3]; exact Or.inl ⟨fun h => h.2.2.1 h3, rfl⟩
  rw [if_neg h3]
  by_cases h4 : 1 ≤ x3.toInt ∧ x3.toInt ≤ 9
  · rw [if_pos h4, if_neg (by decide)]
    by_cases h5 : 0 ≤ x4.toInt ∧ x4.toInt ≤ 4
    · rw [if_pos h5, if_neg (by decide)]
      refine Or.inr ?_
      by_cases h6 : L = 10
      · rw [h0, h6]
        exact Or.inl ⟨⟨h1, h2, h3, h4, h5⟩, rfl, rfl⟩
      · have h7 : ¬ nI L = (10 : Int32) := fun h => h6 ((nI_eq (a := L) (b := 10) (by omega) (by decide)).mp h)
        rw [h0, if_neg h7]
        refine Or.inr ⟨⟨h1, h2, h3, h4, h5⟩, by omega, ?_⟩
        simp (disch := omega) only [a26, a36, a46, a56, a8, chk_in, nI_clamp, stt_d, mA_F, ma_F, mF_mF]
        congr 3
        unfold addL
        rw [show nI (L + 1) = nI L + 1 from nI_succ L, ← h0]
        congr 1
        simp (disch := omega) only [upd_d, if_neg]
    · rw [if_neg h5, if_pos rfl]; exact Or.inl ⟨fun h => h5 h.2.2.2.2, rfl⟩
  · rw [if_neg h4, if_pos rfl]; exact Or.inl ⟨fun h => h4 h.2.2.2.1, rfl⟩
