theorem isS_end {t : Nat → Nat} {n s x : Nat} (h : n ≤ s) : isS t n s x = false := decide_eq_false fun q => by
  have := (kd_0 (t := t)).mpr h
  omega
theorem okI_s {nw : Nat} {ol : Bool} {lv : Nat} {S : CS} {Ic : Nat → Int32} {σ : MS} {Im : Nat → Int32} {t : Nat → Nat} {n s a b br pa s' N' : Nat} {P : List (Nat × Nat)} {A f g : Nat → Int32} {T' : CS} {τ' : MS} (h : okI nw ol lv S Ic σ Im t n s a b br pa P A f g T' τ' s' N') : s' ≤ n ∧ n ≤ 400 ∧ s < s' ∧ ∃ a' pa' A', RC S Ic t n s' a' br pa' none A' T' := by
  obtain ⟨a', b', pa', Q, A', f', g', φ, h1, h2, h3, h4, h5, -⟩ := h
  obtain ⟨-, -, -, -, -, r6, r7, r8⟩ := rc_ci h3
  exact ⟨r6, r7, h5, a', pa', A', h3⟩
theorem termL {nw F : Nat} {ol : Bool} {x1 : Int32} {S : CS} {Ic : Nat → Int32} {σ : MS} {Im : Nat → Int32} {t : Nat → Nat} {n s a b br pa : Nat} {rs : CS → Option (Int32 × CS)} {P : List (Nat × Nat)} {A f g : Nat → Int32} (hF : 1000 ≤ F) (ht : ∀ i, t i < 256) (IH : SumL nw ol 7 F x1 S Ic σ Im t n br rs) (ha : a + 1 ≤ s) (hP : ∀ e l, P = e :: l → bd e.1 < 6) : ∀ (fuel j s1 N1 : Nat) (T1 : CS) (τ1 : MS), 402 - s1 ≤ fuel → j ≤ s1 → okI nw ol 6 S Ic σ Im t n s a b br pa P A f g T1 τ1 s1 N1 → okS nw ol 6 F x1 S Ic σ Im t n s a b br pa P A f g (C_3_term_L11 rs F fuel T1 (nI j)) (M_readExpression_L20 F x1 N1 τ1 3) ∨ okF S Ic σ Im t n (C_3_term_L11 rs F fuel T1 (nI j)) (M_readExpression_L20 F x1 N1 τ1 3)
  | 0, j, s1, N1, T1, τ1, hf, hj, h => by
    have := okI_s h; omega
  | fuel + 1, j, s1, N1, T1, τ1, hf, hj, h => by
    obtain ⟨q1, q2, q3, a', pa', A', hc⟩ := okI_s h
    have step : ∀ o, (o = 22 ∨ o = 23 ∨ o = 24) → isS t n s1 (sgn o) = true → okS nw ol 6 F x1 S Ic σ Im t n s a b br pa P A f g (C_3_term_B73 rs F (C_3_term_L11 rs F fuel) T1 (nI j) (nI (o - 18))) (M_readExpression_L20 F x1 N1 τ1 3) ∨ okF S Ic σ Im t n (C_3_term_B73 rs F (C_3_term_L11 rs F fuel) T1 (nI j) (nI (o - 18))) (M_readExpression_L20 F x1 N1 τ1 3) := fun o ho z => by
      have b6 : bd o = 6 := by rcases ho with rfl | rfl | rfl <;> rfl
      have bin := binStep (o := o) (fun S => C_3_term_L11 rs F fuel S (nI j + 1)) hF ht (by omega) (by rw [b6]; exact IH) ha (by rw [b6]; exact hP) (by rw [b6]; exact h) z
      rcases bin with r | ⟨T3, τ3, s3, N3, r1, r2, r3, r4, r5⟩
      · exact Or.inr r
      · have r1' : C_3_term_B73 rs F (C_3_term_L11 rs F fuel) T1 (nI j) (nI (o - 18)) = C_3_term_L11 rs F fuel T3 (nI j + 1) := r1
        rw [r1', r2, ← nI_succ]
        rw [b6] at r3
        exact termL hF ht IH ha hP fuel (j + 1) s3 N3 T3 τ3 (by omega) (by omega) r3
    rw [C_3_term_L11]
    unfold C_3_term_B45
    rw [rc_sg 42 (x := 42) rfl ht (by decide) hc, bs, bs, rc_sg 47 (x := 47) rfl ht (by decide) hc, bs, bs, rc_sg 37 (x := 37) rfl ht (by decide) hc, bs]
    by_cases z400 : 400 ≤ j
    · rw [if_pos (show (400 : Int32) ≤ nI j from nI_le (a := 400) z400 (by omega))]
      exact Or.inl (okS_of h ⟨fun _ => ⟨isS_end (by omega), isS_end (by omega), isS_end (by omega)⟩, fun q => by omega⟩)
    rw [if_neg (show ¬ (400 : Int32) ≤ nI j from nI_ge (b := 400) (by omega) (by decide))]
    cases z1 : isS t n s1 42 with
    | true =>
      rw [if_pos rfl, if_neg (show ¬ (1 : Int32) = 0 by decide), if_neg (show ¬ (1 : Int32) = 0 by decide)]
      exact step 22 (by omega) z1
    | false =>
    rw [if_neg (show ¬ (false = true) by decide), if_pos rfl]
    cases z2 : isS t n s1 47 with
    | true =>
      rw [if_pos rfl, if_neg (show ¬ (1 : Int32) = 0 by decide), if_pos rfl, if_neg (show ¬ (1 : Int32) = 0 by decide)]
      exact step 23 (by omega) z2
    | false =>
    rw [if_neg (show ¬ (false = true) by decide), if_pos rfl]
    cases z3 : isS t n s1 37 with
    | true =>
      rw [if_pos rfl, if_neg (show ¬ (1 : Int32) = 0 by decide), if_pos rfl, if_pos rfl]
      exact step 24 (by omega) z3
    | false =>
    rw [if_neg (show ¬ (false = true) by decide), if_pos rfl]
    exact Or.inl (okS_of h ⟨fun _ => ⟨z1, z2, z3⟩, fun q => by omega⟩)
theorem termS {nw F : Nat} {ol : Bool} {x1 : Int32} {S : CS} {Ic : Nat → Int32} {σ : MS} {Im : Nat → Int32} {t : Nat → Nat} {n br : Nat} {rs : CS → Option (Int32 × CS)} (hF : 1000 ≤ F) (ht : ∀ i, t i < 256) (IH : SumL nw ol 7 F x1 S Ic σ Im t n br rs) : SumL nw ol 6 F x1 S Ic σ Im t n br (C_3_term rs F) := by
  intro s a b pa N P A f g T τ hc hm ha hb2 hpa hN hP
  unfold C_3_term
  rcases IH s a b pa N P A f g T τ hc hm ha hb2 hpa hN (fun e l q => by have := hP e l q; omega) with d | ⟨v, T3, τ5, v1, v2, v3, v4, v5⟩
  · obtain ⟨T', τ', s', N', d1, d2, d3, d4⟩ := okS_to d
    rw [d1, bs, if_neg (show ¬ (1 : Int32) = 0 by decide), d2]
    exact termL hF ht IH ha hP F 0 s' N' T' τ' (by omega) (Nat.zero_le _) (okI_lv d3 (by omega))
  · rw [v2, bs, if_pos rfl]
    exact Or.inr ⟨v, T3, τ5, v1, rfl, v3, v4, v5⟩
theorem sumL {nw F : Nat} {ol : Bool} {x1 : Int32} {S : CS} {Ic : Nat → Int32} {σ : MS} {Im : Nat → Int32} {t : Nat → Nat} {n s a b br pa : Nat} {rs : CS → Option (Int32 × CS)} {P : List (Nat × Nat)} {A f g : Nat → Int32} (hF : 1000 ≤ F) (ht : ∀ i, t i < 256) (IH : SumL nw ol 6 F x1 S Ic σ Im t n br rs) (ha : a + 1 ≤ s) (hP : ∀ e l, P = e :: l → bd e.1 < 5) : ∀ (fuel j s1 N1 : Nat) (T1 : CS) (τ1 : MS), 402 - s1 ≤ fuel → j ≤ s1 → okI nw ol 5 S Ic σ Im t n s a b br pa P A f g T1 τ1 s1 N1 → exT t n 6 s1 → okS nw ol 5 F x1 S Ic σ Im t n s a b br pa P A f g (C_3_sum_L11 rs F fuel T1 (nI j)) (M_readExpression_L20 F x1 N1 τ1 3) ∨ okF S Ic σ Im t n (C_3_sum_L11 rs F fuel T1 (nI j)) (M_readExpression_L20 F x1 N1 τ1 3)
  | 0, j, s1, N1, T1, τ1, hf, hj, h, _ => by
    have := okI_s h; omega
  | fuel + 1, j, s1, N1, T1, τ1, hf, hj, h, ex => by
    obtain ⟨q1, q2, q3, a', pa', A', hc⟩ := okI_s h
    have step : ∀ o, (o = 20 ∨ o = 21) → isS t n s1 (sgn o) = true → okS nw ol 5 F x1 S Ic σ Im t n s a b br pa P A f g (C_3_sum_B50 rs F (C_3_sum_L11 rs F fuel) T1 (nI j) (nI (o - 18))) (M_readExpression_L20 F x1 N1 τ1 3) ∨ okF S Ic σ Im t n (C_3_sum_B50 rs F (C_3_sum_L11 rs F fuel) T1 (nI j) (nI (o - 18))) (M_readExpression_L20 F x1 N1 τ1 3) := fun o ho z => by
      have b6 : bd o = 5 := by rcases ho with rfl | rfl <;> rfl
      have bin := binStep (o := o) (fun S => C_3_sum_L11 rs F fuel S (nI j + 1)) hF ht (by omega) (by rw [b6]; exact IH) ha (by rw [b6]; exact hP) (by rw [b6]; exact h) z
      rcases bin with r | ⟨T3, τ3, s3, N3, r1, r2, r3, r4, r5⟩
      · exact Or.inr r
      · have r1' : C_3_sum_B50 rs F (C_3_sum_L11 rs F fuel) T1 (nI j) (nI (o - 18)) = C_3_sum_L11 rs F fuel T3 (nI j + 1) := r1
        rw [r1', r2, ← nI_succ]
        rw [b6] at r3 r5
        exact sumL hF ht IH ha hP fuel (j + 1) s3 N3 T3 τ3 (by omega) (by omega) r3 r5
    rw [C_3_sum_L11]
    unfold C_3_sum_B36
    rw [rc_sg 43 (x := 43) rfl ht (by decide) hc, bs, bs, rc_sg 45 (x := 45) rfl ht (by decide) hc, bs]
    by_cases z400 : 400 ≤ j
    · rw [if_pos (show (400 : Int32) ≤ nI j from nI_le (a := 400) z400 (by omega))]
      exact Or.inl (okS_of h ⟨fun _ => ex.1 (by omega), fun _ => ⟨isS_end (by omega), isS_end (by omega)⟩⟩)
    rw [if_neg (show ¬ (400 : Int32) ≤ nI j from nI_ge (b := 400) (by omega) (by decide))]
    cases z1 : isS t n s1 43 with
    | true =>
      rw [if_pos rfl, if_neg (show ¬ (1 : Int32) = 0 by decide), if_neg (show ¬ (1 : Int32) = 0 by decide)]
      exact step 20 (by omega) z1
    | false =>
    rw [if_neg (show ¬ (false = true) by decide), if_pos rfl]
    cases z2 : isS t n s1 45 with
    | true =>
      rw [if_pos rfl, if_neg (show ¬ (1 : Int32) = 0 by decide), if_pos rfl]
      exact step 21 (by omega) z2
    | false =>
    rw [if_neg (show ¬ (false = true) by decide), if_pos rfl]
    exact Or.inl (okS_of h ⟨fun _ => ex.1 (by omega), fun _ => ⟨z1, z2⟩⟩)
theorem sumS {nw F : Nat} {ol : Bool} {x1 : Int32} {S : CS} {Ic : Nat → Int32} {σ : MS} {Im : Nat → Int32} {t : Nat → Nat} {n br : Nat} {rs : CS → Option (Int32 × CS)} (hF : 1000 ≤ F) (ht : ∀ i, t i < 256) (IH : SumL nw ol 6 F x1 S Ic σ Im t n br rs) : SumL nw ol 5 F x1 S Ic σ Im t n br (C_3_sum rs F) := by
  intro s a b pa N P A f g T τ hc hm ha hb2 hpa hN hP
  unfold C_3_sum
  rcases IH s a b pa N P A f g T τ hc hm ha hb2 hpa hN (fun e l q => by have := hP e l q; omega) with d | ⟨v, T3, τ5, v1, v2, v3, v4, v5⟩
  · obtain ⟨T', τ', s', N', d1, d2, d3, d4⟩ := okS_to d
    rw [d1, bs, if_neg (show ¬ (1 : Int32) = 0 by decide), d2]
    exact sumL hF ht IH ha hP F 0 s' N' T' τ' (by omega) (Nat.zero_le _) (okI_lv d3 (by omega)) d4
  · rw [v2, bs, if_pos rfl]
    exact Or.inr ⟨v, T3, τ5, v1, rfl, v3, v4, v5⟩
/-- sums of laws -/
theorem sumLaw {F : Nat} {x1 : Int32} {S : CS} {Ic : Nat → Int32} {σ : MS} {Im : Nat → Int32} {t : Nat → Nat} {n : Nat} (hF : 1000 ≤ F) (ht : ∀ i, t i < 256) (hb : ∀ m, m < 9 → mb σ 31 m = lN (wdH 2 m)) (h3 : Ic 3 = 1) (h20 : Im 20 = 0) : ∀ (d br : Nat), br ≤ 8 → 9 ≤ d + br → SumL 9 false 5 F x1 S Ic σ Im t n br (C_3_sumD F d)
  | 0, br, h1, h2 => by omega
  | d + 1, br, h1, h2 => sumS hF ht (termS hF ht (partLaw hF ht hb h3 h20 h1 (fun h8 => sumLaw hF ht hb h3 h20 d (br + 1) (by omega) (by omega))))
