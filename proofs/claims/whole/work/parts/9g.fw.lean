/-- what the distances are -/
theorem fwN_le (W : Nat → Nat → Nat) : ∀ k a b, fwN W k a b ≤ zd W a b
  | 0, _, _ => Nat.le_refl _
  | k + 1, a, b => by
    have := fwN_le W k a b
    show fw (fwN W k) k a b ≤ _
    unfold fw; split <;> omega
theorem fwN_tri (W : Nat → Nat → Nat) : ∀ k a b c, c < k → fwN W k a b ≤ fwN W k a c + fwN W k c b
  | 0, _, _, c, h => by omega
  | k + 1, a, b, c, h => by
    have z := fwN_0 W k k
    show fw (fwN W k) k a b ≤ fw (fwN W k) k a c + fw (fwN W k) k c b
    unfold fw
    by_cases q : c = k
    · subst q
      rw [z]
      split <;> split <;> split <;> omega
    · have i1 := fwN_tri W k a b c (by omega)
      have i2 := fwN_tri W k a k c (by omega)
      have i3 := fwN_tri W k k b c (by omega)
      split <;> split <;> split <;> omega
theorem fwN_ex (W : Nat → Nat → Nat) (hd : ∀ a, W a a = 1000000) : ∀ k a b, a < 8 → b < 8 → k ≤ 8 → a ≠ b → fwN W k a b < 1000000 → ∃ o, o < 8 ∧ W a o < 1000000 ∧ W a o + fwN W k o b ≤ fwN W k a b
  | 0, a, b, ha, hb, _, ne, h => by
    have e : fwN W 0 a b = W a b := if_neg ne
    have e2 : fwN W 0 b b = 0 := if_pos rfl
    rw [e] at h ⊢
    exact ⟨b, hb, h, by rw [e2]; omega⟩
  | k + 1, a, b, ha, hb, hk, ne, h => by
    have hs : fwN W (k + 1) a b = if fwN W k a b ≤ fwN W k a k + fwN W k k b then fwN W k a b else fwN W k a k + fwN W k k b := rfl
    have hle : ∀ o, fwN W (k + 1) o b ≤ fwN W k o b ∧ fwN W (k + 1) o b ≤ fwN W k o k + fwN W k k b := fun o => by
      have : fwN W (k + 1) o b = if fwN W k o b ≤ fwN W k o k + fwN W k k b then fwN W k o b else fwN W k o k + fwN W k k b := rfl
      rw [this]; split <;> omega
    by_cases q : fwN W k a b ≤ fwN W k a k + fwN W k k b
    · rw [if_pos q] at hs
      rw [hs] at h ⊢
      obtain ⟨o, o1, o2, o3⟩ := fwN_ex W hd k a b ha hb (by omega) ne h
      have := (hle o).1
      exact ⟨o, o1, o2, by omega⟩
    · rw [if_neg q] at hs
      rw [hs] at h ⊢
      have nk : a ≠ k := fun e => by rw [e, fwN_0] at q; omega
      obtain ⟨o, o1, o2, o3⟩ := fwN_ex W hd k a k ha (by omega) (by omega) nk (by omega)
      have := (hle o).2
      exact ⟨o, o1, o2, by omega⟩
theorem fwN_sym {W : Nat → Nat → Nat} (hs : ∀ a b, W a b = W b a) : ∀ k a b, fwN W k a b = fwN W k b a
  | 0, a, b => by
    show zd W a b = zd W b a
    unfold zd; rw [hs a b]
    by_cases z : a = b
    · rw [if_pos z, if_pos z.symm]
    · rw [if_neg z, if_neg (fun e => z e.symm)]
  | k + 1, a, b => by
    show fw (fwN W k) k a b = fw (fwN W k) k b a
    unfold fw
    rw [fwN_sym hs k a b, fwN_sym hs k a k, fwN_sym hs k k b, Nat.add_comm]
theorem DD_0 (R : Nat → Int32) (L a : Nat) : DD R L a a = 0 := fwN_0 _ 8 a
theorem DD_tri (R : Nat → Int32) (L a b : Nat) {c : Nat} (hc : c < 8) : DD R L a b ≤ DD R L a c + DD R L c b := fwN_tri _ 8 a b c hc
theorem DD_sym (R : Nat → Int32) (L a b : Nat) : DD R L a b = DD R L b a := fwN_sym (stW_sym R L) 8 a b
theorem DD_w (R : Nat → Int32) (L : Nat) {a b : Nat} (h : a ≠ b) : DD R L a b ≤ stW R L a b := by
  have := fwN_le (stW R L) 8 a b
  rw [show zd (stW R L) a b = stW R L a b from if_neg h] at this
  exact this
/-- the next corner on the way -/
theorem DD_next {R : Nat → Int32} {L C : Nat} (va : VA R L C) {a b : Nat} (ha : a < 8) (hb : b < 8) (ne : a ≠ b) (h : DD R L a b < 1000000) : ∃ o, (o < 8 ∧ stW R L a o < 1000000 ∧ stW R L a o + DD R L o b = DD R L a b) ∧ ∀ j, j < o → ¬ (j < 8 ∧ stW R L a j < 1000000 ∧ stW R L a j + DD R L j b = DD R L a b) := by
  have ex : ∃ o, o < 8 ∧ stW R L a o < 1000000 ∧ stW R L a o + DD R L o b = DD R L a b := by
    obtain ⟨o, o1, o2, o3⟩ := fwN_ex (stW R L) (stW_d va.2.1 L (Nat.le_refl _)) 8 a b ha hb (Nat.le_refl _) ne h
    have o3' : stW R L a o + DD R L o b ≤ DD R L a b := o3
    have t := DD_tri R L a b o1
    have no : a ≠ o := fun e => by rw [← e, stW_d va.2.1 L (Nat.le_refl _)] at o2; omega
    have w := DD_w R L no
    exact ⟨o, o1, o2, by omega⟩
  exact pk_least _ ex
theorem cnB_sub {p q : Nat → Bool} (h : ∀ x, p x = true → q x = true) : ∀ n, cnB p n ≤ cnB q n
  | 0 => Nat.le_refl _
  | n + 1 => by
    have := cnB_sub h n
    show cnB p n + (if p n then 1 else 0) ≤ cnB q n + (if q n then 1 else 0)
    by_cases z : p n = true
    · rw [if_pos z, if_pos (h n z)]; omega
    · rw [if_neg z]; omega
theorem cnB_lt {p q : Nat → Bool} (h : ∀ x, p x = true → q x = true) {y : Nat} (h1 : p y = false) (h2 : q y = true) : ∀ n, y < n → cnB p n < cnB q n
  | 0, hy => by omega
  | n + 1, hy => by
    show cnB p n + (if p n then 1 else 0) < cnB q n + (if q n then 1 else 0)
    by_cases e : y = n
    · subst e
      have := cnB_sub h y
      rw [h1, h2, if_pos rfl, if_neg (by decide)]; omega
    · have := cnB_lt h h1 h2 n (by omega)
      by_cases z : p n = true
      · rw [if_pos z, if_pos (h n z)]; omega
      · rw [if_neg z]; omega
/-- how many corners are nearer -/
def mu (D : Nat → Nat → Nat) (g c : Nat) : Nat := cnB (fun x => decide (D x g < D c g)) 8
theorem mu_7 (D : Nat → Nat → Nat) (g : Nat) {c : Nat} (hc : c < 8) : mu D g c ≤ 7 := by
  have := cnB_lt (p := fun x => decide (D x g < D c g)) (q := fun _ => true) (fun _ _ => rfl) (y := c) (by simp) rfl 8 hc
  have h8 := cnB_le (fun _ : Nat => true) 8
  unfold mu; omega
theorem mu_lt {D : Nat → Nat → Nat} {g c o : Nat} (ho : o < 8) (h : D o g < D c g) : mu D g o < mu D g c :=
  cnB_lt (fun x hx => by
    have := of_decide_eq_true hx
    exact decide_eq_true (by omega)) (y := o) (by simp) (decide_eq_true h) 8 ho
/-- the class and the reference find it -/
theorem nextC {F L C B a b : Nat} {S : CS} {R : Nat → Int32} {D : Nat → Nat → Nat} (m0 : MT nI (ca S 13 0) (stW R L)) (m1 : MT nI (ca S 13 1) D) (va : VA R L C) (hB : B ≤ 5000) (hb : BD D B) (ha : a < 8) (hbb : b < 8) {o : Nat} (h1 : o < 8 ∧ stW R L a o < 1000000 ∧ stW R L a o + D o b = D a b) (h2 : ∀ j, j < o → ¬ (j < 8 ∧ stW R L a j < 1000000 ∧ stW R L a j + D j b = D a b)) : ∀ (t j fuel : Nat), j + t = o → t < fuel → C_8_nextOnWay_L2 F S (nI a) (nI b) fuel (nI j) = some (nI o)
  | t, j, fuel + 1, e, hf => by
    have hw := stW_b va.2.1 L (Nat.le_refl _) a j
    have hd1 := hb j b
    have hd2 := hb a b
    rw [C_8_nextOnWay_L2, if_neg (show ¬ (8 : Int32) ≤ nI j from nI_ge (b := 8) (by omega) (by decide)), qc_isCorner, isAt_in ha (by omega), bs, if_neg (by decide), c88, chk_in (by omega) (by decide), nI_clamp (by omega), m0 a j ha (by omega)]
    unfold C_8_nextOnWay_B31 C_8_nextOnWay_B60
    rw [qc_btw (by omega) hbb, bs, qc_btw ha hbb, bs, m1 j b (by omega) hbb, m1 a b ha hbb, nI_add, ← nI_succ]
    cases t with
    | zero =>
      obtain rfl : j = o := by omega
      rw [if_neg (show ¬ (1000000 : Int32) ≤ nI (stW R L a j) from nI_ge (b := 1000000) (by omega) (by decide)), if_pos (by rw [h1.2.2])]
    | succ t =>
      have ih := nextC (F := F) m0 m1 va hB hb ha hbb h1 h2 t (j + 1) fuel (by omega) (by omega)
      have nj := h2 j (by omega)
      by_cases z : stW R L a j = 1000000
      · rw [z, if_pos (by decide)]; exact ih
      · rw [if_neg (show ¬ (1000000 : Int32) ≤ nI (stW R L a j) from nI_ge (b := 1000000) (by omega) (by decide)), if_neg (fun w => nj ⟨by omega, by omega, (nI_eq (by omega) (by omega)).mp w⟩)]
        exact ih
theorem lbtL {F L C a b : Nat} {σ : MS} (va : VA (ma σ 3) L C) (ha : a < 8) (hb : b < 8) : ∀ (t j fuel : Nat), j + t = L → t < fuel → M_laneBetween_L7 F σ (nI a) (nI b) fuel (fi (stW (ma σ 3) j a b)) (nI j) = some (fi (stW (ma σ 3) L a b))
  | 0, j, fuel + 1, e, _ => by
    obtain rfl : j = L := by omega
    have hL := va.1.1
    rw [M_laneBetween_L7, va.1.2.2.1, if_pos (nI_le (Nat.le_refl _) (by omega))]
  | t + 1, j, fuel + 1, e, hf => by
    have hL := va.1.1
    obtain ⟨ea, eb, ev, hA, hB, ne, v1, v9⟩ := ml_ok (va.2.1 j (by omega))
    have hs := stW_b va.2.1 j (by omega) a b
    have ih := lbtL (F := F) (σ := σ) va ha hb t (j + 1) fuel (by omega) (by omega)
    rw [M_laneBetween_L7, va.1.2.2.1, if_neg (nI_ge (by omega) (by omega)), qm_ends (by omega), bs, qm_ends (by omega), bs, ea, eb]
    unfold M_laneBetween_B47 M_laneBetween_B48 M_laneBetween_B82 M_laneBetween_B83
    rw [if_pos (show (0 : Int32) = 0 from rfl), if_neg (show ¬ (1 : Int32) = 0 by decide), a46, chk_in (by omega) (by decide), chk_in (by omega) (by decide), nI_clamp (by omega), ev, ← nI_succ]
    have q1 : (nI (mlA (ma σ 3) j) = nI a ∨ nI (mlB (ma σ 3) j) = nI a) ↔ (mlA (ma σ 3) j = a ∨ mlB (ma σ 3) j = a) := by rw [nI_eq (by omega) (by omega), nI_eq (by omega) (by omega)]
    have q2 : (nI (mlA (ma σ 3) j) = nI b ∨ nI (mlB (ma σ 3) j) = nI b) ↔ (mlA (ma σ 3) j = b ∨ mlB (ma σ 3) j = b) := by rw [nI_eq (by omega) (by omega), nI_eq (by omega) (by omega)]
    have q3 : nI a = nI b ↔ a = b := nI_eq (by omega) (by omega)
    rw [stW_s] at ih
    by_cases z : (a = mlA (ma σ 3) j ∧ b = mlB (ma σ 3) j) ∨ (a = mlB (ma σ 3) j ∧ b = mlA (ma σ 3) j)
    · rw [if_pos z] at ih
      have es : stW (ma σ 3) j (mlA (ma σ 3) j) (mlB (ma σ 3) j) = stW (ma σ 3) j a b := by
        rcases z with ⟨x, y⟩ | ⟨x, y⟩
        · rw [x, y]
        · rw [x, y]; exact stW_sym _ _ _ _
      rw [es] at ih
      rw [if_pos (q1.mpr (by omega)), if_neg (show ¬ (1 : Int32) = 0 by decide), if_pos (q2.mpr (by omega)), if_neg (show ¬ (1 : Int32) = 0 by decide), if_neg (fun w => by have := q3.mp w; omega)]
      by_cases y : mlV (ma σ 3) j < stW (ma σ 3) j a b
      · have nz : ¬ fi (stW (ma σ 3) j a b) ≤ nI (mlV (ma σ 3) j) := by
          rcases hs with q | q
          · rw [q, fi_ge (Nat.le_refl _)]; exact nI_ge (b := 100000000) (by omega) (by decide)
          · rw [fi_lt (by omega)]; exact nI_ge (by omega) (by omega)
        rw [if_pos y, fi_lt (show mlV (ma σ 3) j < 1000000 by omega)] at ih
        rw [if_neg nz]; exact ih
      · have pz : fi (stW (ma σ 3) j a b) ≤ nI (mlV (ma σ 3) j) := by
          rw [fi_lt (by omega)]; exact nI_le (by omega) (by omega)
        rw [if_neg y] at ih
        rw [if_pos pz]; exact ih
    · rw [if_neg z] at ih
      by_cases y : mlA (ma σ 3) j = a ∨ mlB (ma σ 3) j = a
      · rw [if_pos (q1.mpr y), if_neg (show ¬ (1 : Int32) = 0 by decide)]
        by_cases w : mlA (ma σ 3) j = b ∨ mlB (ma σ 3) j = b
        · rw [if_pos (q2.mpr w), if_neg (show ¬ (1 : Int32) = 0 by decide), if_pos (q3.mpr (by omega))]; exact ih
        · rw [if_neg (fun u => w (q2.mp u)), if_pos (show (0 : Int32) = 0 from rfl)]; exact ih
      · rw [if_neg (fun u => y (q1.mp u)), if_pos (show (0 : Int32) = 0 from rfl)]; exact ih
theorem qm_lbt {F L C a b : Nat} {σ : MS} (hF : 1000 ≤ F) (va : VA (ma σ 3) L C) (ha : a < 8) (hb : b < 8) : M_laneBetween F σ (nI a) (nI b) = some (fi (stW (ma σ 3) L a b)) := lbtL va ha hb L 0 F (by omega) (by have := va.1.1; omega)
theorem nextM {F L C B a b : Nat} {σ : MS} {D : Nat → Nat → Nat} {k169 : Int32 → Int32 → Option (Int32 × MS)} {x3 x8 : Int32} (hF : 1000 ≤ F) (mt : MT fi (ma σ 42) D) (va : VA (ma σ 3) L C) (hB : B ≤ 5000) (hb : BD D B) (ha : a < 8) (hbb : b < 8) (hfin : D a b ≤ 5000) {o : Nat} (h1 : o < 8 ∧ stW (ma σ 3) L a o < 1000000 ∧ stW (ma σ 3) L a o + D o b = D a b) (h2 : ∀ j, j < o → ¬ (j < 8 ∧ stW (ma σ 3) L a j < 1000000 ∧ stW (ma σ 3) L a j + D j b = D a b)) : ∀ (t j fuel : Nat), j + t = o → t < fuel → M_letter_L187 F k169 σ x3 (nI b) (nI a) x8 fuel (nI j) = k169 (nI o) (x8 + 1)
  | t, j, fuel + 1, e, hf => by
    have hw := stW_b va.2.1 L (Nat.le_refl _) a j
    have hd1 := hb j b
    rw [M_letter_L187, qm_lbt hF va ha (by omega), bs, bs, qm_farOf mt hB hb (by omega) hbb, bs, qm_farOf mt hB hb ha hbb, bs]
    unfold M_letter_B229
    rw [← nI_succ]
    cases t with
    | zero =>
      obtain rfl : j = o := by omega
      rw [fi_lt (x := stW (ma σ 3) L a j) (by omega), if_neg (show ¬ nI (stW (ma σ 3) L a j) = (100000000 : Int32) from fun w => by have := (nI_eq (b := 100000000) (by omega) (by decide)).mp w; omega), fi_lt (x := D j b) (by omega), fi_lt (x := D a b) (by omega), nI_add, if_pos (by rw [h1.2.2])]
    | succ t =>
      have ih := nextM (F := F) (k169 := k169) (x3 := x3) (x8 := x8) hF mt va hB hb ha hbb hfin h1 h2 t (j + 1) fuel (by omega) (by omega)
      have nj := h2 j (by omega)
      rcases hw with z | z
      · rw [z, fi_ge (Nat.le_refl _), if_pos rfl]; exact ih
      · rw [fi_lt (x := stW (ma σ 3) L a j) (by omega), if_neg (show ¬ nI (stW (ma σ 3) L a j) = (100000000 : Int32) from fun w => by have := (nI_eq (b := 100000000) (by omega) (by decide)).mp w; omega), fi_lt (x := D a b) (by omega)]
        have ne : ¬ nI (stW (ma σ 3) L a j) + fi (D j b) = nI (D a b) := fun w => by
          rcases hd1 with y | y
          · rw [y, fi_ge (Nat.le_refl _), show (100000000 : Int32) = nI 100000000 from rfl, nI_add] at w
            have := (nI_eq (by omega) (by omega)).mp w
            omega
          · rw [fi_lt (by omega), nI_add] at w
            exact nj ⟨by omega, by omega, (nI_eq (by omega) (by omega)).mp w⟩
        rw [if_neg ne]; exact ih
