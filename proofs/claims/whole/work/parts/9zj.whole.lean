/-- a whole expression: alike at its end -/
def okE (nw : Nat) (ol : Bool) (tst : Prop) (S : CS) (Ic : Nat → Int32) (σ : MS) (Im : Nat → Int32) (t : Nat → Nat) (n s a b pa : Nat) (A f g : Nat → Int32) (c : Option (Int32 × CS)) (m : Option (Unit × MS)) : Prop := ∃ (T' : CS) (τ' : MS) (s' a' b' pa' : Nat) (A' f' g' : Nat → Int32) (φ : (Nat → Int) → Option Int), c = some (1, T') ∧ m = some ((), τ') ∧ RC S Ic t n s' a' 0 pa' none A' T' ∧ RM σ Im t n s' b' [] 0 pa' none f' g' τ' ∧ s < s' ∧ a' + s ≤ a + s' ∧ b' + 2 ≤ s' ∧ pa < pa' ∧ pa' ≤ 50 ∧ Seg nw (ccd A') a a' (pa' - pa) φ ∧ Seg nw (rcf ol f' g') b b' (pa' - pa) φ ∧ (tst → ∀ w v, φ w = some v → v = 0 ∨ v = 1) ∧ (∀ k, k < 2 * a → A' k = A k) ∧ (∀ k, k < b → f' k = f k ∧ g' k = g k)
theorem rd_rst {σ τ : MS} {I0 : Nat → Int32} {t : Nat → Nat} {n s b pa : Nat} {fl : Option Nat} {f g : Nat → Int32} (h : RM σ I0 t n s b [] 0 pa fl f g τ) : RM σ I0 t n s b [] 0 pa fl f g (mI (mI τ 29 0) 30 0) := by
  obtain ⟨I, p, q, rfl, tp, tk, hs, hfl, h23, h29, h30, h26, pl, hb, hk⟩ := h
  rw [mJ_I, mJ_I]
  exact ⟨_, p, q, rfl, ⟨tp.1, by rw [pk_un (by decide), pk_un (by decide)]; exact tp.2.1, tp.2.2⟩, ⟨by rw [pk_un (by decide), pk_un (by decide)]; exact tk.1, by rw [pk_un (by decide), pk_un (by decide)]; exact tk.2.1, by rw [pk_un (by decide), pk_un (by decide)]; exact tk.2.2.1, rfl⟩, hs, FL_c hfl (by rw [pk_un (by decide), pk_un (by decide)]) (by rw [pk_un (by decide), pk_un (by decide)]), by rw [pk_un (by decide), pk_un (by decide)]; exact h23, by rw [pk_un (by decide), pk_us]; rfl, pk_us, by rw [pk_un (by decide), pk_un (by decide)]; exact h26, pl, hb, fun k k1 k2 k3 k4 k5 k6 k7 k8 k9 => by rw [pk_un k9, pk_un k8]; exact hk k k1 k2 k3 k4 k5 k6 k7 k8 k9⟩
theorem L20_4 {F N : Nat} {x1 : Int32} {τ : MS} (h : mi τ 19 = 0) : M_readExpression_L20 F x1 (N + 1) τ 4 = M_readExpression_B76 F τ := by
  rw [M_readExpression_L20, h, if_pos rfl, if_pos rfl]
theorem inn_0 {Q : List (Nat × Nat)} (h : ∀ e ∈ Q, 1 ≤ bd e.1) : inn (Q ++ []) = -1 := inn_app Q (fun e he => bd_31 (h e he))
theorem exprS {nw F : Nat} {ol : Bool} {S : CS} {Ic : Nat → Int32} {σ : MS} {Im : Nat → Int32} {t : Nat → Nat} {n s a b pa : Nat} {fn : CS → Option (Int32 × CS)} {A f g : Nat → Int32} {T : CS} {τ : MS} (hF : 1000 ≤ F) (ht : ∀ i, t i < 256) (hS : SumL nw ol 5 F 0 S Ic σ Im t n 0 fn) (hc : RC S Ic t n s a 0 pa none A T) (hm : RM σ Im t n s b [] 0 pa none f g τ) (ha : a + 1 ≤ s) (hb2 : b + 2 ≤ s) (hpa : pa ≤ 50) : okE nw ol False S Ic σ Im t n s a b pa A f g (fn T) (M_readExpression F τ 0) ∨ okF S Ic σ Im t n (fn T) (M_readExpression F τ 0) := by
  have e0 : M_readExpression F τ 0 = M_readExpression_L20 F 0 F (mI (mI τ 29 0) 30 0) 1 := by
    unfold M_readExpression M_readExpression_B19
    rw [stt_d, stt_d, if_pos rfl]
  rw [e0]
  rcases hS s a b pa F [] A f g T _ hc (rd_rst hm) ha hb2 hpa (by omega) (fun e l q => absurd q (by simp)) with d | r
  rotate_left
  · exact Or.inr r
  obtain ⟨T1, τ1, s1, N1, d1, d2, ⟨a1, b1, pa1, Q, A1, f1, g1, φ, h1, h2, h3, h4, h5, h6, h7, h8, h9, h10, h11, h12, h13, h14⟩, dE⟩ := okS_to d
  obtain ⟨-, -, -, -, -, r6, r7, r8⟩ := rc_ci h3
  obtain ⟨N1, rfl⟩ : ∃ x, N1 = x + 1 + 1 := ⟨N1 - 2, by omega⟩
  have q1 : ∀ e ∈ Q, 1 ≤ bd e.1 := fun e he => by have := h7 e he; omega
  obtain ⟨τ2, e1, e2⟩ := rd_settle (F := F) (lv := 1) (P := []) hF (by omega) (fun e l q => absurd q (by simp)) q1 h4
  have e1' : M_settle F τ1 1 = some ((), τ2) := e1
  have pb := pst_b Q f1 g1 b1
  have h2' : b1 + (Q.length + 0) + 2 ≤ s1 := h2
  rw [d1, d2, L20_3 (rd_19 h4), rd_behind ht h4 dE]
  unfold M_behindSum_B71
  rw [if_pos rfl, rd_inner hF h4, bs, inn_0 q1, if_neg (show ¬ (-1 : Int32) = 32 by decide), if_pos rfl, if_pos rfl, bs, L20_4 (rd_19 h4)]
  unfold M_readExpression_B76
  rw [e1', bs]
  refine Or.inl ⟨T1, τ2, s1, a1, _, pa1, A1, _, _, φ, rfl, rfl, h3, e2, h5, h6, by omega, h8, h9, h10, h11, fun q => q.elim, h13, fun k hk => ?_⟩
  obtain ⟨u1, u2⟩ := pst_lo (k := k) Q f1 g1 b1 (fun e he => by have := h7 e he; omega) (by omega)
  obtain ⟨y1, y2⟩ := h14 k hk
  exact ⟨u1.trans y1, u2.trans y2⟩
theorem exprT {nw F : Nat} {ol : Bool} {S : CS} {Ic : Nat → Int32} {σ : MS} {Im : Nat → Int32} {t : Nat → Nat} {n s a b pa : Nat} {fn : CS → Option (Int32 × CS)} {A f g : Nat → Int32} {T : CS} {τ : MS} (hF : 1000 ≤ F) (hT : TestL nw ol 1 F S Ic σ Im t n 0 fn) (hc : RC S Ic t n s a 0 pa none A T) (hm : RM σ Im t n s b [] 0 pa none f g τ) (ha : a + 1 ≤ s) (hb2 : b + 2 ≤ s) (hpa : pa ≤ 50) : okE nw ol True S Ic σ Im t n s a b pa A f g (fn T) (M_readExpression F τ 1) ∨ okF S Ic σ Im t n (fn T) (M_readExpression F τ 1) := by
  have e0 : M_readExpression F τ 1 = M_readExpression_L20 F 1 F (mI (mI τ 29 0) 30 0) 0 := by
    unfold M_readExpression M_readExpression_B19
    rw [stt_d, stt_d, if_neg (by decide)]
  rw [e0]
  rcases hT s a b pa F [] A f g T _ hc (rd_rst hm) ha hb2 hpa (by omega) (fun e l q => absurd q (by simp)) (by decide) with ⟨T1, τ1, s1, N1, d1, d2, ⟨a1, b1, pa1, Q, A1, f1, g1, φ, h1, h2, h3, h4, h5, h6, h7, h8, h9, h10, h11, h12, h13, h14, h15⟩, dE⟩ | r
  rotate_left
  · exact Or.inr r
  obtain ⟨-, -, -, -, -, r6, r7, r8⟩ := rc_ci h3
  obtain ⟨N1, rfl⟩ : ∃ x, N1 = x + 1 + 1 := ⟨N1 - 2, by omega⟩
  obtain ⟨τ2, e1, e2⟩ := rd_settle (F := F) (lv := 1) (P := []) hF (by omega) (fun e l q => absurd q (by simp)) h7 h4
  have e1' : M_settle F τ1 1 = some ((), τ2) := e1
  have pb := pst_b Q f1 g1 b1
  have h2' : b1 + (Q.length + 0) + 2 ≤ s1 := h2
  have qa : M_isWord τ1 1476 = some (if isW t n s1 (wdH 8 0) then 1 else 0) := rd_word (x := 1476) h4
  have qo : M_isWord τ1 498 = some (if isW t n s1 (wdH 9 0) then 1 else 0) := rd_word (x := 498) h4
  rw [d1, d2, L20_2 (rd_19 h4)]
  unfold M_behindTest
  rw [qa, dE.1 (by omega), bs, if_pos (show (if (false = true) then (1 : Int32) else 0) = 0 by decide), qo, dE.2 (by omega), bs, if_pos (show (if (false = true) then (1 : Int32) else 0) = 0 by decide), rd_inner hF h4, bs, inn_0 h7, if_pos rfl, bs, L20_4 (rd_19 h4)]
  unfold M_readExpression_B76
  rw [e1', bs]
  refine Or.inl ⟨T1, τ2, s1, a1, _, pa1, A1, _, _, φ, rfl, rfl, h3, e2, h5, h6, by omega, h9, h10, h11.1, h12.1, fun _ => h11.2, h14, fun k hk => ?_⟩
  obtain ⟨u1, u2⟩ := pst_lo2 (k := k) (b := b) Q f1 g1 b1 h8 h13 hk
  obtain ⟨y1, y2⟩ := h15 k hk
  exact ⟨u1.trans y1, u2.trans y2⟩
