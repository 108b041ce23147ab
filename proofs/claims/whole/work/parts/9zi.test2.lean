theorem okJ_s {nw : Nat} {ol : Bool} {lv : Nat} {S : CS} {Ic : Nat → Int32} {σ : MS} {Im : Nat → Int32} {t : Nat → Nat} {n s a b br pa s' N' : Nat} {P : List (Nat × Nat)} {A f g : Nat → Int32} {T' : CS} {τ' : MS} (h : okJ nw ol lv S Ic σ Im t n s a b br pa P A f g T' τ' s' N') : s' ≤ n ∧ n ≤ 400 ∧ s < s' ∧ ∃ a' pa' A', RC S Ic t n s' a' br pa' none A' T' := by
  obtain ⟨a', b', pa', Q, A', f', g', φ, h1, h2, h3, h4, h5, -⟩ := h
  obtain ⟨-, -, -, -, -, r6, r7, r8⟩ := rc_ci h3
  exact ⟨r6, r7, h5, a', pa', A', h3⟩
theorem okJ_lv {nw : Nat} {ol : Bool} {lv lv' : Nat} {S : CS} {Ic : Nat → Int32} {σ : MS} {Im : Nat → Int32} {t : Nat → Nat} {n s a b br pa s' N' : Nat} {P : List (Nat × Nat)} {A f g : Nat → Int32} {T' : CS} {τ' : MS} (h : okJ nw ol lv S Ic σ Im t n s a b br pa P A f g T' τ' s' N') (e : lv' ≤ lv) : okJ nw ol lv' S Ic σ Im t n s a b br pa P A f g T' τ' s' N' := by
  obtain ⟨a', b', pa', Q, A', f', g', φ, h1, h2, h3, h4, h5, h6, h7, h8⟩ := h
  exact ⟨a', b', pa', Q, A', f', g', φ, h1, h2, h3, h4, h5, h6, fun e he => Nat.le_trans ‹_› (h7 e he), h8⟩
theorem rc_kwU {F i : Nat} {S T T' : CS} {I0 : Nat → Int32} {t : Nat → Nat} {n s : Nat} (hF : 1000 ≤ F) (ht : ∀ i, t i < 256) (hi : i < 10) (h1 : wdC i = 1) (e : C_3_isKeyword F T i = some (1, T')) {a br pa : Nat} {fl : Option Nat} {A : Nat → Int32} (h : RC S I0 t n s a br pa fl A T) : RC S I0 t n (nxT t n s) a br pa fl A T' := by
  rcases rc_kw hF ht hi h1 h with ⟨-, T1, e1, e2⟩ | ⟨-, e1⟩
  · rw [e1] at e
    have : T1 = T' := (Prod.mk.inj (Option.some.inj e)).2
    rw [← this]; exact e2
  · rw [e1] at e
    exact absurd (Prod.mk.inj (Option.some.inj e)).1 (by decide)
theorem bothL {nw F : Nat} {ol : Bool} {S : CS} {Ic : Nat → Int32} {σ : MS} {Im : Nat → Int32} {t : Nat → Nat} {n s a b br pa : Nat} {rs : CS → Option (Int32 × CS)} {P : List (Nat × Nat)} {A f g : Nat → Int32} (hF : 1000 ≤ F) (ht : ∀ i, t i < 256) (IH : TestL nw ol 3 F S Ic σ Im t n br rs) (ha : a + 1 ≤ s) (hP : ∀ e l, P = e :: l → bd e.1 < 2) (hi : inn P ≠ 32) : ∀ (fuel j s1 N1 : Nat) (T1 : CS) (τ1 : MS), 402 - s1 ≤ fuel → j ≤ s1 → okJ nw ol 2 S Ic σ Im t n s a b br pa P A f g T1 τ1 s1 N1 → okT nw ol 2 F S Ic σ Im t n s a b br pa P A f g (C_3_both_L11 rs F fuel T1 (nI j)) (M_readExpression_L20 F 1 N1 τ1 2) ∨ okF S Ic σ Im t n (C_3_both_L11 rs F fuel T1 (nI j)) (M_readExpression_L20 F 1 N1 τ1 2)
  | 0, j, s1, N1, T1, τ1, hf, hj, h => by
    have := okJ_s h; omega
  | fuel + 1, j, s1, N1, T1, τ1, hf, hj, h => by
    obtain ⟨q1, q2, q3, a', pa', A', hc⟩ := okJ_s h
    rw [C_3_both_L11]
    by_cases z400 : 400 ≤ j
    · rw [if_pos (show (400 : Int32) ≤ nI j from nI_le (a := 400) z400 (by omega))]
      exact Or.inl ⟨T1, τ1, s1, N1, rfl, rfl, h, fun _ => isW_end (by omega), fun q => by omega⟩
    rw [if_neg (show ¬ (400 : Int32) ≤ nI j from nI_ge (b := 400) (by omega) (by decide))]
    rcases rc_kw (i := 8) hF ht (by decide) rfl hc with ⟨z1, T2, e1, e2⟩ | ⟨z1, e1⟩
    · rw [e1, bs, if_neg (show ¬ (1 : Int32) = 0 by decide)]
      have st := andStep (o := 29) (T2 := T2) (fun S => C_3_both_L11 rs F fuel S (nI j + 1)) hF ht (Or.inl rfl) IH ha hP hi h z1 (fun q => absurd q (by decide)) (fun _ _ _ hr => rc_kwU hF ht (by decide) rfl e1 hr)
      rcases st with r | ⟨T5, τ5, s5, N5, r1, r2, r3, r4, r5⟩
      · exact Or.inr r
      · have r1' : ((C_3_emit T2 11 0).bind fun y2 => (rs y2.2).bind fun y3 => if y3.1 = 0 then some ((0 : Int32), y3.2) else (C_3_land y3.2 y2.1).bind fun y4 => C_3_both_L11 rs F fuel y4.2 (nI j + 1)) = C_3_both_L11 rs F fuel T5 (nI j + 1) := r1
        show okT nw ol 2 F S Ic σ Im t n s a b br pa P A f g ((C_3_emit T2 11 0).bind fun y2 => (rs y2.2).bind fun y3 => if y3.1 = 0 then some ((0 : Int32), y3.2) else (C_3_land y3.2 y2.1).bind fun y4 => C_3_both_L11 rs F fuel y4.2 (nI j + 1)) _ ∨ okF S Ic σ Im t n ((C_3_emit T2 11 0).bind fun y2 => (rs y2.2).bind fun y3 => if y3.1 = 0 then some ((0 : Int32), y3.2) else (C_3_land y3.2 y2.1).bind fun y4 => C_3_both_L11 rs F fuel y4.2 (nI j + 1)) _
        rw [r1', r2, ← nI_succ]
        exact bothL hF ht IH ha hP hi fuel (j + 1) s5 N5 T5 τ5 (by omega) (by omega) r3
    · rw [e1, bs, if_pos rfl]
      exact Or.inl ⟨T1, τ1, s1, N1, rfl, rfl, h, fun _ => z1, fun q => by omega⟩
theorem bothS {nw F : Nat} {ol : Bool} {S : CS} {Ic : Nat → Int32} {σ : MS} {Im : Nat → Int32} {t : Nat → Nat} {n br : Nat} {rs : CS → Option (Int32 × CS)} (hF : 1000 ≤ F) (ht : ∀ i, t i < 256) (IH : TestL nw ol 3 F S Ic σ Im t n br rs) : TestL nw ol 2 F S Ic σ Im t n br (C_3_both rs F) := by
  intro s a b pa N P A f g T τ hc hm ha hb2 hpa hN hP hi
  unfold C_3_both
  rcases IH s a b pa N P A f g T τ hc hm ha hb2 hpa hN (fun e l q => by have := hP e l q; omega) hi with ⟨T', τ', s', N', d1, d2, d3, d4⟩ | ⟨v, T3, τ5, v1, v2, v3, v4, v5⟩
  · rw [d1, bs, if_neg (show ¬ (1 : Int32) = 0 by decide), d2]
    exact bothL hF ht IH ha hP hi F 0 s' N' T' τ' (by omega) (Nat.zero_le _) (okJ_lv d3 (by omega))
  · rw [v2, bs, if_pos rfl]
    exact Or.inr ⟨v, T3, τ5, v1, rfl, v3, v4, v5⟩
theorem testL {nw F : Nat} {ol : Bool} {S : CS} {Ic : Nat → Int32} {σ : MS} {Im : Nat → Int32} {t : Nat → Nat} {n s a b br pa : Nat} {rs : CS → Option (Int32 × CS)} {P : List (Nat × Nat)} {A f g : Nat → Int32} (hF : 1000 ≤ F) (ht : ∀ i, t i < 256) (IH : TestL nw ol 2 F S Ic σ Im t n br rs) (ha : a + 1 ≤ s) (hP : ∀ e l, P = e :: l → bd e.1 < 1) (hi : inn P ≠ 32) : ∀ (fuel j s1 N1 : Nat) (T1 : CS) (τ1 : MS), 402 - s1 ≤ fuel → j ≤ s1 → okJ nw ol 1 S Ic σ Im t n s a b br pa P A f g T1 τ1 s1 N1 → isW t n s1 (wdH 8 0) = false → okT nw ol 1 F S Ic σ Im t n s a b br pa P A f g (C_3_test_L11 rs F fuel T1 (nI j)) (M_readExpression_L20 F 1 N1 τ1 2) ∨ okF S Ic σ Im t n (C_3_test_L11 rs F fuel T1 (nI j)) (M_readExpression_L20 F 1 N1 τ1 2)
  | 0, j, s1, N1, T1, τ1, hf, hj, h, _ => by
    have := okJ_s h; omega
  | fuel + 1, j, s1, N1, T1, τ1, hf, hj, h, za => by
    obtain ⟨q1, q2, q3, a', pa', A', hc⟩ := okJ_s h
    rw [C_3_test_L11]
    by_cases z400 : 400 ≤ j
    · rw [if_pos (show (400 : Int32) ≤ nI j from nI_le (a := 400) z400 (by omega))]
      exact Or.inl ⟨T1, τ1, s1, N1, rfl, rfl, h, fun _ => za, fun _ => isW_end (by omega)⟩
    rw [if_neg (show ¬ (400 : Int32) ≤ nI j from nI_ge (b := 400) (by omega) (by decide))]
    rcases rc_kw (i := 9) hF ht (by decide) rfl hc with ⟨z1, T2, e1, e2⟩ | ⟨z1, e1⟩
    · rw [e1, bs, if_neg (show ¬ (1 : Int32) = 0 by decide)]
      have st := andStep (o := 30) (T2 := T2) (fun S => C_3_test_L11 rs F fuel S (nI j + 1)) hF ht (Or.inr rfl) IH ha hP hi h z1 (fun _ => za) (fun _ _ _ hr => rc_kwU hF ht (by decide) rfl e1 hr)
      rcases st with r | ⟨T5, τ5, s5, N5, r1, r2, r3, r4, r5⟩
      · exact Or.inr r
      · have r1' : ((C_3_emit T2 12 0).bind fun y2 => (rs y2.2).bind fun y3 => if y3.1 = 0 then some ((0 : Int32), y3.2) else (C_3_land y3.2 y2.1).bind fun y4 => C_3_test_L11 rs F fuel y4.2 (nI j + 1)) = C_3_test_L11 rs F fuel T5 (nI j + 1) := r1
        show okT nw ol 1 F S Ic σ Im t n s a b br pa P A f g ((C_3_emit T2 12 0).bind fun y2 => (rs y2.2).bind fun y3 => if y3.1 = 0 then some ((0 : Int32), y3.2) else (C_3_land y3.2 y2.1).bind fun y4 => C_3_test_L11 rs F fuel y4.2 (nI j + 1)) _ ∨ okF S Ic σ Im t n ((C_3_emit T2 12 0).bind fun y2 => (rs y2.2).bind fun y3 => if y3.1 = 0 then some ((0 : Int32), y3.2) else (C_3_land y3.2 y2.1).bind fun y4 => C_3_test_L11 rs F fuel y4.2 (nI j + 1)) _
        rw [r1', r2, ← nI_succ]
        exact testL hF ht IH ha hP hi fuel (j + 1) s5 N5 T5 τ5 (by omega) (by omega) r3 (r5.1 (by decide))
    · rw [e1, bs, if_pos rfl]
      exact Or.inl ⟨T1, τ1, s1, N1, rfl, rfl, h, fun _ => za, fun _ => z1⟩
theorem testS {nw F : Nat} {ol : Bool} {S : CS} {Ic : Nat → Int32} {σ : MS} {Im : Nat → Int32} {t : Nat → Nat} {n br : Nat} {rs : CS → Option (Int32 × CS)} (hF : 1000 ≤ F) (ht : ∀ i, t i < 256) (IH : TestL nw ol 2 F S Ic σ Im t n br rs) : TestL nw ol 1 F S Ic σ Im t n br (C_3_test rs F) := by
  intro s a b pa N P A f g T τ hc hm ha hb2 hpa hN hP hi
  unfold C_3_test
  rcases IH s a b pa N P A f g T τ hc hm ha hb2 hpa hN (fun e l q => by have := hP e l q; omega) hi with ⟨T', τ', s', N', d1, d2, d3, d4⟩ | ⟨v, T3, τ5, v1, v2, v3, v4, v5⟩
  · rw [d1, bs, if_neg (show ¬ (1 : Int32) = 0 by decide), d2]
    exact testL hF ht IH ha hP hi F 0 s' N' T' τ' (by omega) (Nat.zero_le _) (okJ_lv d3 (by omega)) (d4.1 (by omega))
  · rw [v2, bs, if_pos rfl]
    exact Or.inr ⟨v, T3, τ5, v1, rfl, v3, v4, v5⟩
/-- tests, once sums agree -/
theorem testD {nw F : Nat} {ol : Bool} {S : CS} {Ic : Nat → Int32} {σ : MS} {Im : Nat → Int32} {t : Nat → Nat} {n : Nat} (hF : 1000 ≤ F) (ht : ∀ i, t i < 256) (hS : ∀ br, br ≤ 8 → SumL nw ol 5 F 1 S Ic σ Im t n br (C_3_sumD F 10)) : ∀ (d br : Nat), br ≤ 8 → 9 ≤ d + br → TestL nw ol 1 F S Ic σ Im t n br (C_3_testD F d)
  | 0, br, h1, h2 => by omega
  | d + 1, br, h1, h2 => testS hF ht (bothS hF ht (plainS hF ht h1 (fun h8 => testD hF ht hS d (br + 1) (by omega) (by omega)) (hS br h1)))
