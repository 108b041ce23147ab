/-- longs of small numbers -/
abbrev sml (x : Int) : Prop := -1000000000 ≤ x ∧ x ≤ 1000000000
theorem l_add {x y : Int64} (hx : sml x.toInt) (hy : sml y.toInt) : (x + y).toInt = x.toInt + y.toInt := by
  unfold sml at hx hy
  rw [Int64.toInt_add]; apply Int.bmod_eq_of_le <;> omega
theorem l_sub {x y : Int64} (hx : sml x.toInt) (hy : sml y.toInt) : (x - y).toInt = x.toInt - y.toInt := by
  unfold sml at hx hy
  rw [Int64.toInt_sub]; apply Int.bmod_eq_of_le <;> omega
theorem abs_of {a : Int} {n : Nat} (h : a.natAbs ≤ n) : -(n : Int) ≤ a ∧ a ≤ n := by omega
theorem sml_abs {a : Int} (h : sml a) : a.natAbs ≤ 1000000000 := by unfold sml at h; omega
theorem l_mul {x y : Int64} (hx : sml x.toInt) (hy : sml y.toInt) : (x * y).toInt = x.toInt * y.toInt := by
  have h : (x.toInt * y.toInt).natAbs ≤ 1000000000 * 1000000000 := by
    rw [Int.natAbs_mul]; exact Nat.mul_le_mul (sml_abs hx) (sml_abs hy)
  have := abs_of h
  rw [Int64.toInt_mul]; apply Int.bmod_eq_of_le <;> omega
theorem tdiv_abs (a b : Int) : (a.tdiv b).natAbs ≤ a.natAbs := by
  rw [Int.natAbs_tdiv]; exact Nat.div_le_self _ _
theorem l_div {x y : Int64} (hx : sml x.toInt) : (x / y).toInt = x.toInt.tdiv y.toInt := by
  have := abs_of (Nat.le_trans (tdiv_abs x.toInt y.toInt) (sml_abs hx))
  rw [Int64.toInt_div]; apply Int.bmod_eq_of_le <;> omega
theorem l_rem {x y : Int64} (hx : sml x.toInt) : (x - x / y * y).toInt = x.toInt - x.toInt.tdiv y.toInt * y.toInt := by
  have h1 : (x.toInt.tdiv y.toInt * y.toInt).natAbs ≤ 1000000000 := by
    rw [Int.natAbs_mul, Int.natAbs_tdiv]; exact Nat.le_trans (Nat.div_mul_le_self _ _) (sml_abs hx)
  have h2 := abs_of h1
  have h3 : (x / y * y).toInt = x.toInt.tdiv y.toInt * y.toInt := by
    rw [Int64.toInt_mul, l_div hx]; apply Int.bmod_eq_of_le <;> omega
  unfold sml at hx
  rw [Int64.toInt_sub, h3]; apply Int.bmod_eq_of_le <;> omega
theorem lt_l (a b : Int64) : a < b ↔ a.toInt < b.toInt := Int64.lt_iff_toInt_lt
theorem le_l (a b : Int64) : a ≤ b ↔ a.toInt ≤ b.toInt := Int64.le_iff_toInt_le
theorem eq_l (a b : Int64) : a = b ↔ a.toInt = b.toInt := Int64.toInt_inj.symm
theorem l_0 : (0 : Int64).toInt = 0 := by decide
theorem l_1 : (1 : Int64).toInt = 1 := by decide
theorem l_g : (1000000000 : Int64).toInt = 1000000000 := by decide
theorem l_mg : (-1000000000 : Int64).toInt = -1000000000 := by decide
theorem n_32 {x : Int64} (h : sml x.toInt) : x.toInt32.toInt = x.toInt := by
  unfold sml at h
  rw [Int64.toInt_toInt32]; apply Int.bmod_eq_of_le <;> omega
theorem w_64 (x : Int32) : x.toInt64.toInt = x.toInt := Int32.toInt_toInt64 x
/-- what a sum is of two -/
def rsum (op : Nat) (a b : Int) : Int := if op = 2 then a + b else if op = 3 then a - b else if op = 4 then a * b else if op = 5 then a.tdiv b else a - a.tdiv b * b
theorem rcomb_d (op : Nat) (a b : Int) : rcomb op a b = if op = 7 then some (if a < b then 1 else 0) else if op = 8 then some (if b < a then 1 else 0) else if op = 9 then some (if a = b then 1 else 0) else if (op = 5 ∨ op = 6) ∧ b = 0 then none else if 1000000000 < rsum op a b ∨ rsum op a b < -1000000000 then none else some (rsum op a b) := rfl
theorem rcomb_s {op : Nat} {a b v : Int} (h : rcomb op a b = some v) : sml v := by
  rw [rcomb_d] at h
  unfold sml
  split at h
  · cases h; split <;> omega
  split at h
  · cases h; split <;> omega
  split at h
  · cases h; split <;> omega
  split at h
  · cases h
  split at h
  · cases h
  · next k => cases h; omega
theorem qc_133 (x : Int64) : ∃ u, C_4_combine_B133 x = some u ∧ ((1000000000 < x.toInt ∨ x.toInt < -1000000000) → u = -2000000000) ∧ (¬ (1000000000 < x.toInt ∨ x.toInt < -1000000000) → u.toInt = x.toInt) := by
  unfold C_4_combine_B133
  simp only [lt_l, le_l, l_g, l_mg]
  by_cases h1 : 1000000000 < x.toInt
  · rw [if_pos h1]; exact ⟨_, rfl, fun _ => rfl, fun k => by omega⟩
  rw [if_neg h1]
  by_cases h2 : -1000000000 ≤ x.toInt
  · rw [if_pos h2]; exact ⟨_, rfl, fun k => by omega, fun _ => n_32 ⟨h2, by omega⟩⟩
  · rw [if_neg h2]; exact ⟨_, rfl, fun _ => rfl, fun k => by omega⟩
theorem qc_133' {x : Int64} {s : Int} (e : x.toInt = s) : ∃ u, C_4_combine_B133 x = some u ∧ ((if 1000000000 < s ∨ s < -1000000000 then (none : Option Int) else some s) = none → u = -2000000000) ∧ ∀ v, (if 1000000000 < s ∨ s < -1000000000 then none else some s) = some v → u.toInt = v := by
  subst e
  obtain ⟨u, h1, h2, h3⟩ := qc_133 x
  refine ⟨u, h1, fun k => ?_, fun v k => ?_⟩
  · split at k
    · next z => exact h2 z
    · cases k
  · split at k
    · cases k
    · next z => cases k; exact h3 z
theorem rc_sum {op : Nat} (h : op = 2 ∨ op = 3 ∨ op = 4) (a b : Int) : rcomb op a b = if 1000000000 < rsum op a b ∨ rsum op a b < -1000000000 then none else some (rsum op a b) := by
  rw [rcomb_d, if_neg (by omega), if_neg (by omega), if_neg (by omega), if_neg (by omega)]
theorem rc_div {op : Nat} (h : op = 5 ∨ op = 6) (a b : Int) : rcomb op a b = if b = 0 then none else if 1000000000 < rsum op a b ∨ rsum op a b < -1000000000 then none else some (rsum op a b) := by
  rw [rcomb_d, if_neg (by omega), if_neg (by omega), if_neg (by omega)]
  by_cases z : b = 0
  · rw [if_pos ⟨h, z⟩, if_pos z]
  · rw [if_neg (fun k => z k.2), if_neg z]
theorem cc_0 (a b : Int64) : C_4_combine (nI 2) a b = C_4_combine_B133 (a + b) ∧ C_4_combine (nI 3) a b = C_4_combine_B133 (a - b) ∧ C_4_combine (nI 4) a b = C_4_combine_B133 (a * b) ∧ C_4_combine (nI 5) a b = C_4_combine_B108 (nI 5) a b ∧ C_4_combine (nI 6) a b = C_4_combine_B108 (nI 6) a b ∧ C_4_combine (nI 7) a b = (if b ≤ a then some 0 else some 1) ∧ C_4_combine (nI 8) a b = (if a ≤ b then some 0 else some 1) ∧ C_4_combine (nI 9) a b = (if a = b then some 1 else some 0) := by
  refine ⟨?_, ?_, ?_, ?_, ?_, ?_, ?_, ?_⟩
  · unfold C_4_combine; rw [if_pos (by decide)]
  · unfold C_4_combine; rw [if_neg (by decide), if_pos (by decide)]
  · unfold C_4_combine; rw [if_neg (by decide), if_neg (by decide), if_pos (by decide)]
  · unfold C_4_combine; rw [if_neg (by decide), if_neg (by decide), if_neg (by decide), if_pos (by decide)]
  · unfold C_4_combine; rw [if_neg (by decide), if_neg (by decide), if_neg (by decide), if_neg (by decide), if_pos (by decide)]
  · unfold C_4_combine; rw [if_neg (by decide), if_neg (by decide), if_neg (by decide), if_neg (by decide), if_neg (by decide), if_pos (by decide)]
  · unfold C_4_combine; rw [if_neg (by decide), if_neg (by decide), if_neg (by decide), if_neg (by decide), if_neg (by decide), if_neg (by decide), if_pos (by decide)]
  · unfold C_4_combine; rw [if_neg (by decide), if_neg (by decide), if_neg (by decide), if_neg (by decide), if_neg (by decide), if_neg (by decide), if_neg (by decide), if_pos (by decide)]
theorem qc_108 {a b : Int32} (ha : sml a.toInt) {op : Nat} (h : op = 5 ∨ op = 6) : ∃ u, C_4_combine_B108 (nI op) a.toInt64 b.toInt64 = some u ∧ (rcomb op a.toInt b.toInt = none → u = -2000000000) ∧ ∀ v, rcomb op a.toInt b.toInt = some v → u.toInt = v := by
  have xa : a.toInt64.toInt = a.toInt := w_64 a
  have xb : b.toInt64.toInt = b.toInt := w_64 b
  have ha' : sml a.toInt64.toInt := by rw [xa]; exact ha
  rw [rc_div h]
  unfold C_4_combine_B108 C_4_combine_B131
  by_cases z : b.toInt = 0
  · rw [if_pos (show b.toInt64 = 0 by rw [eq_l, xb, l_0]; exact z), if_pos z]
    exact ⟨_, rfl, fun _ => rfl, fun v k => by cases k⟩
  · have z' : ¬ b.toInt64 = 0 := by rw [eq_l, xb, l_0]; exact z
    rw [if_neg z', if_neg z]
    rcases h with rfl | rfl
    · rw [if_pos (show nI 5 = (5 : Int32) from rfl), chk_t z']
      exact qc_133' (s := rsum 5 a.toInt b.toInt) (by rw [l_div ha', xa, xb]; rfl)
    · rw [if_neg (show ¬ nI 6 = (5 : Int32) by decide), chk_t z']
      exact qc_133' (s := rsum 6 a.toInt b.toInt) (by rw [l_rem ha', xa, xb]; rfl)
theorem qc_combine {op : Nat} (h2 : 2 ≤ op) (h9 : op < 10) {a b : Int32} (ha : sml a.toInt) (hb : sml b.toInt) : ∃ u, C_4_combine (nI op) a.toInt64 b.toInt64 = some u ∧ (rcomb op a.toInt b.toInt = none → u = -2000000000) ∧ ∀ v, rcomb op a.toInt b.toInt = some v → u.toInt = v := by
  have xa : a.toInt64.toInt = a.toInt := w_64 a
  have xb : b.toInt64.toInt = b.toInt := w_64 b
  have ha' : sml a.toInt64.toInt := by rw [xa]; exact ha
  have hb' : sml b.toInt64.toInt := by rw [xb]; exact hb
  obtain ⟨c2, c3, c4, c5, c6, c7, c8, c9⟩ := cc_0 a.toInt64 b.toInt64
  rcases (by omega : op = 2 ∨ op = 3 ∨ op = 4 ∨ op = 5 ∨ op = 6 ∨ op = 7 ∨ op = 8 ∨ op = 9) with rfl | rfl | rfl | rfl | rfl | rfl | rfl | rfl
  · rw [c2, rc_sum (by omega)]
    exact qc_133' (s := rsum 2 a.toInt b.toInt) (by rw [l_add ha' hb', xa, xb]; rfl)
  · rw [c3, rc_sum (by omega)]
    exact qc_133' (s := rsum 3 a.toInt b.toInt) (by rw [l_sub ha' hb', xa, xb]; rfl)
  · rw [c4, rc_sum (by omega)]
    exact qc_133' (s := rsum 4 a.toInt b.toInt) (by rw [l_mul ha' hb', xa, xb]; rfl)
  · rw [c5]; exact qc_108 ha (Or.inl rfl)
  · rw [c6]; exact qc_108 ha (Or.inr rfl)
  · have e : rcomb 7 a.toInt b.toInt = some (if a.toInt < b.toInt then 1 else 0) := rfl
    rw [c7, e]
    simp only [le_l, xa, xb]
    by_cases z : b.toInt ≤ a.toInt
    · rw [if_pos z, if_neg (by omega)]; exact ⟨_, rfl, (fun k => by cases k), fun v k => by cases k; rfl⟩
    · rw [if_neg z, if_pos (by omega)]; exact ⟨_, rfl, (fun k => by cases k), fun v k => by cases k; rfl⟩
  · have e : rcomb 8 a.toInt b.toInt = some (if b.toInt < a.toInt then 1 else 0) := rfl
    rw [c8, e]
    simp only [le_l, xa, xb]
    by_cases z : a.toInt ≤ b.toInt
    · rw [if_pos z, if_neg (by omega)]; exact ⟨_, rfl, (fun k => by cases k), fun v k => by cases k; rfl⟩
    · rw [if_neg z, if_pos (by omega)]; exact ⟨_, rfl, (fun k => by cases k), fun v k => by cases k; rfl⟩
  · have e : rcomb 9 a.toInt b.toInt = some (if a.toInt = b.toInt then 1 else 0) := rfl
    rw [c9, e]
    simp only [eq_l, xa, xb]
    by_cases z : a.toInt = b.toInt
    · rw [if_pos z, if_pos z]; exact ⟨_, rfl, (fun k => by cases k), fun v k => by cases k; rfl⟩
    · rw [if_neg z, if_neg z]; exact ⟨_, rfl, (fun k => by cases k), fun v k => by cases k; rfl⟩
/-- the reference's way to reckon with two; op as the reference numbers it is 18 more -/
theorem qm_reckon {op : Nat} (h2 : 2 ≤ op) (h9 : op < 10) {σ : MS} (h38 : mi σ 38 = 0) {a b : Int64} (ha : sml a.toInt) (hb : sml b.toInt) : ∃ (u : Int64) (τ : MS), M_reckon σ (nI (op + 18)) a b = some (u, τ) ∧ (∃ y, τ = mI σ 38 y ∧ ((y = 1 ∧ (op = 5 ∨ op = 6) ∧ b.toInt = 0) ∨ (y = 0 ∧ ¬ ((op = 5 ∨ op = 6) ∧ b.toInt = 0) ∧ (op < 7 → u.toInt = rsum op a.toInt b.toInt) ∧ (op = 7 → u.toInt = if a.toInt < b.toInt then 1 else 0) ∧ (op = 8 → u.toInt = if b.toInt < a.toInt then 1 else 0) ∧ (op = 9 → u.toInt = if a.toInt = b.toInt then 1 else 0)))) := by
  have es : mI σ 38 0 = σ := by rw [← h38]; exact mI_self σ 38
  unfold M_reckon M_reckon_B72 M_reckon_B104
  rcases (by omega : op = 2 ∨ op = 3 ∨ op = 4 ∨ op = 5 ∨ op = 6 ∨ op = 7 ∨ op = 8 ∨ op = 9) with rfl | rfl | rfl | rfl | rfl | rfl | rfl | rfl
  · rw [if_pos (by decide)]
    exact ⟨_, _, rfl, 0, es.symm, Or.inr ⟨rfl, by omega, fun _ => l_add ha hb, by omega, by omega, by omega⟩⟩
  · rw [if_neg (by decide), if_pos (by decide)]
    exact ⟨_, _, rfl, 0, es.symm, Or.inr ⟨rfl, by omega, fun _ => l_sub ha hb, by omega, by omega, by omega⟩⟩
  · rw [if_neg (by decide), if_neg (by decide), if_pos (by decide)]
    exact ⟨_, _, rfl, 0, es.symm, Or.inr ⟨rfl, by omega, fun _ => l_mul ha hb, by omega, by omega, by omega⟩⟩
  · rw [if_neg (by decide), if_neg (by decide), if_neg (by decide), if_pos (by decide)]
    by_cases z : b = 0
    · rw [if_pos z, chk_t (Or.inr rfl), stt_d, if_neg (show ¬ mi (mI σ 38 1) 38 = 0 from (by decide : ¬ (1 : Int32) = 0))]
      exact ⟨_, _, rfl, 1, rfl, Or.inl ⟨rfl, Or.inl rfl, by rw [z]; rfl⟩⟩
    · rw [if_neg z, chk_t (Or.inl rfl), stt_d, if_pos (show mi (mI σ 38 0) 38 = 0 from rfl), chk_t z]
      exact ⟨_, _, rfl, 0, rfl, Or.inr ⟨rfl, fun k => z (by rw [eq_l, l_0]; exact k.2), fun _ => l_div ha, by omega, by omega, by omega⟩⟩
  · rw [if_neg (by decide), if_neg (by decide), if_neg (by decide), if_neg (by decide), if_pos (by decide)]
    by_cases z : b = 0
    · rw [if_pos z, chk_t (Or.inr rfl), stt_d, if_neg (show ¬ mi (mI σ 38 1) 38 = 0 from (by decide : ¬ (1 : Int32) = 0))]
      exact ⟨_, _, rfl, 1, rfl, Or.inl ⟨rfl, Or.inr rfl, by rw [z]; rfl⟩⟩
    · rw [if_neg z, chk_t (Or.inl rfl), stt_d, if_pos (show mi (mI σ 38 0) 38 = 0 from rfl), chk_t z]
      exact ⟨_, _, rfl, 0, rfl, Or.inr ⟨rfl, fun k => z (by rw [eq_l, l_0]; exact k.2), fun _ => l_rem ha, by omega, by omega, by omega⟩⟩
  · rw [if_neg (by decide), if_neg (by decide), if_neg (by decide), if_neg (by decide), if_neg (by decide), if_pos (by decide)]
    by_cases z : b ≤ a
    · have z' := (le_l _ _).mp z
      rw [if_pos z]; exact ⟨_, _, rfl, 0, es.symm, Or.inr ⟨rfl, by omega, by omega, fun _ => by rw [if_neg (by omega)]; rfl, by omega, by omega⟩⟩
    · have z' := fun k => z ((le_l _ _).mpr k)
      have z'' := Int.not_le.mp z'
      rw [if_neg z]; exact ⟨_, _, rfl, 0, es.symm, Or.inr ⟨rfl, by omega, by omega, fun _ => by rw [if_pos (by omega)]; rfl, by omega, by omega⟩⟩
  · rw [if_neg (by decide), if_neg (by decide), if_neg (by decide), if_neg (by decide), if_neg (by decide), if_neg (by decide), if_pos (by decide)]
    by_cases z : a ≤ b
    · have z' := (le_l _ _).mp z
      rw [if_pos z]; exact ⟨_, _, rfl, 0, es.symm, Or.inr ⟨rfl, by omega, by omega, by omega, fun _ => by rw [if_neg (by omega)]; rfl, by omega⟩⟩
    · have z' := fun k => z ((le_l _ _).mpr k)
      have z'' := Int.not_le.mp z'
      rw [if_neg z]; exact ⟨_, _, rfl, 0, es.symm, Or.inr ⟨rfl, by omega, by omega, by omega, fun _ => by rw [if_pos (by omega)]; rfl, by omega⟩⟩
  · rw [if_neg (by decide), if_neg (by decide), if_neg (by decide), if_neg (by decide), if_neg (by decide), if_neg (by decide), if_neg (by decide)]
    by_cases z : a = b
    · have z' := (eq_l _ _).mp z
      rw [if_pos z]; exact ⟨_, _, rfl, 0, es.symm, Or.inr ⟨rfl, by omega, by omega, by omega, by omega, fun _ => by rw [if_pos z']; rfl⟩⟩
    · have z' := fun k => z ((eq_l _ _).mpr k)
      rw [if_neg z]; exact ⟨_, _, rfl, 0, es.symm, Or.inr ⟨rfl, by omega, by omega, by omega, by omega, fun _ => by rw [if_neg z']; rfl⟩⟩
