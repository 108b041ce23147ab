/-- the end of a clause: a test or none, then it is added -/
theorem kc_163 {nw F zs z nc : Nat} {ol : Bool} {E : Nat → ClassId} {S : CS} {Ic : Nat → Int32} {σ : MS} {Im : Nat → Int32} {t : Nat → Nat} {n s a b pa : Nat} {A f g : Nat → Int32} {T : CS} {τ : MS} {P0 P : va_W} {x0 x1 x2 x3 x4 x5 : Int32} {cl : Nat → Option Nat} (hF : 1000 ≤ F) (ht : ∀ i, t i < 256) (hT : TestL nw ol 1 F S Ic σ Im t n 0 (C_3_testD F 10)) (hc : RC S Ic t n s a 0 pa none A T) (hm : RW σ Im t n s b pa none f g τ) (ha : a + 1 ≤ s) (hb : b + 2 ≤ s) (hpa : pa ≤ 50) (ho : PO P0 P z [.int x0, .int x1, .int x2, .int x3, .int x4, .int x5]) (sp : SP E P0 zs nc cl) (hz : zs + 2 < z) (hn : nc < 12) :
    (∃ P', K_3_clause_B163 F E z T P 1 6 zs z = some (1, T, P') ∧ M_isWord τ 294 = some 0 ∧ fnd P' z = some (.inr (0, [.int x0, .int x1, .int x2, .int x3, .int (nI (2 * a)), .int x5])) ∧ SP E P' zs (nc + 1) (va_up cl nc (some z)) ∧ ∀ b, b ≠ z → b ≠ zs → b ≠ zs + 1 → fnd P' b = fnd P0 b) ∨
    (∃ T1 τ1 τ2 P' s' a' b' pa' A' f' g' φ, K_3_clause_B163 F E z T P 1 6 zs z = some (1, T1, P') ∧ M_isWord τ 294 = some 1 ∧ M_next F τ = some ((), τ1) ∧ M_readExpression F τ1 1 = some ((), τ2) ∧ RC S Ic t n s' a' 0 pa' none A' T1 ∧ RW σ Im t n s' b' pa' none f' g' τ2 ∧ s < s' ∧ a' + s ≤ a + s' ∧ b' + 2 ≤ s' ∧ pa' ≤ 50 ∧ TSeg nw (ccd A') a a' 50 φ ∧ TSeg nw (rcf ol f' g') b b' 50 φ ∧ (∀ k, k < 2 * a → A' k = A k) ∧ (∀ k, k < b → f' k = f k ∧ g' k = g k) ∧ fnd P' z = some (.inr (0, [.int x0, .int x1, .int x2, .int x3, .int (nI (2 * a')), .int x5])) ∧ SP E P' zs (nc + 1) (va_up cl nc (some z)) ∧ ∀ b, b ≠ z → b ≠ zs → b ≠ zs + 1 → fnd P' b = fnd P0 b) ∨
    (∃ v T1 τ1 τ2, v ≤ 400 ∧ K_3_clause_B163 F E z T P 1 6 zs z = some (0, T1, P) ∧ M_isWord τ 294 = some 1 ∧ M_next F τ = some ((), τ1) ∧ M_readExpression F τ1 1 = some ((), τ2) ∧ (∃ s a br pa A, RC S Ic t n s a br pa (some v) A T1) ∧ ∃ s b pa f g, RW σ Im t n s b pa (some v) f g τ2) := by
  rcases ifPart hF ht hT hc hm ha hb hpa with ⟨k1, k2⟩ | ⟨T1, τ1, s1, k1, k2, k3, k4, d⟩
  · obtain ⟨P', p1, p2, p3⟩ := kc_181 (F := F) (T := T) ho sp hz hn
    refine Or.inl ⟨P', ?_, k2, ?_, p3⟩
    · unfold K_3_clause_B163
      rw [chk_t (by decide), k1, bs, if_pos rfl]; exact p1
    · rw [p2, (rc_ci hc).2.2.2.2.1]
  · rcases d with ⟨T2, τ2, s', a', b', pa', A', f', g', φ, e1, e2, e3, e4, e5, e6, e7, e8, e9, e10, e11, e12, e13, e14⟩ | ⟨v, T2, τ2, v1, e1, e2, e3, _, _, _, _, _, _, _, e4⟩
    · obtain ⟨P', p1, p2, p3⟩ := kc_181 (F := F) (T := T2) ho sp hz hn
      refine Or.inr (Or.inl ⟨T2, τ1, τ2, P', s', a', b', pa', A', f', g', φ, ?_, k2, k3, e2, e3, rm_w e4, by omega, by omega, e7, e9, ⟨e10.le (by omega), e12 trivial⟩, ⟨e11.le (by omega), e12 trivial⟩, e13, e14, ?_, p3⟩)
      · unfold K_3_clause_B163
        rw [chk_t (by decide), k1, bs, if_neg (show ¬ (1 : Int32) = 0 by decide), chk_t (by decide), e1, bs, if_neg (show ¬ (1 : Int32) = 0 by decide)]; exact p1
      · rw [p2, (rc_ci e3).2.2.2.2.1]
    · refine Or.inr (Or.inr ⟨v, T2, τ1, τ2, v1, ?_, k2, k3, e2, e3, _, _, _, _, _, rm_w e4⟩)
      unfold K_3_clause_B163
      rw [chk_t (by decide), k1, bs, if_neg (show ¬ (1 : Int32) = 0 by decide), chk_t (by decide), e1, bs, if_pos rfl, chk_t (by decide)]
/-- a clause of a law, read -/
def CLa (A f g w : Nat → Int32) (o a b : Nat) (fs : List Value) : Prop := ∃ k b0 e1 e2 e3 s0 s1 s2 s3 : Nat, fs = [.int (nI k), .int (nI (2 * b0)), .int (nI (2 * e1)), .int (nI (2 * e2)), .int (nI (2 * e3)), .int 1] ∧ k < 3 ∧ w o = nI k ∧ w (o + 3) = nI s0 ∧ w (o + 4) = nI s1 ∧ w (o + 5) = nI s2 ∧ w (o + 6) = nI s3 ∧ e1 ≤ a ∧ e2 ≤ a ∧ e3 ≤ a ∧ s0 ≤ b ∧ s1 ≤ b ∧ s2 ≤ b ∧ s3 ≤ b ∧ (k ≠ 2 → ∃ φ, Seg 9 (ccd A) b0 e1 50 φ ∧ Seg 9 (rcf false f g) s0 s1 50 φ) ∧ ((e3 ≤ e2 ∧ s3 ≤ s2) ∨ ∃ φ, TSeg 9 (ccd A) e2 e3 50 φ ∧ TSeg 9 (rcf false f g) s2 s3 50 φ)
theorem ccd_c {A A' : Nat → Int32} {a k : Nat} (h : ∀ k, k < 2 * a → A' k = A k) (hk : k < a) : ccd A k = ccd A' k := by
  unfold ccd; rw [h _ (by omega), h _ (by omega)]
theorem CLa_mv {A f g w A' f' g' w' : Nat → Int32} {o a b a' b' : Nat} {fs : List Value} (hA : ∀ k, k < 2 * a → A' k = A k) (hf : ∀ k, k < b → f' k = f k ∧ g' k = g k) (hw : ∀ j, o ≤ j → j < o + 8 → w' j = w j) (ha : a ≤ a') (hb : b ≤ b') (h : CLa A f g w o a b fs) : CLa A' f' g' w' o a' b' fs := by
  obtain ⟨k, b0, e1, e2, e3, s0, s1, s2, s3, h0, h1, h2, h3, h4, h5, h6, h7, h8, h9, h10, h11, h12, h13, h14, h15⟩ := h
  have r : ∀ k, k < b → rcf false f g k = rcf false f' g' k := fun k hk => (rcf_c (hf k hk).1 (hf k hk).2).symm
  refine ⟨k, b0, e1, e2, e3, s0, s1, s2, s3, h0, h1, by rw [hw _ (by omega) (by omega)]; exact h2, by rw [hw _ (by omega) (by omega)]; exact h3, by rw [hw _ (by omega) (by omega)]; exact h4, by rw [hw _ (by omega) (by omega)]; exact h5, by rw [hw _ (by omega) (by omega)]; exact h6, by omega, by omega, by omega, by omega, by omega, by omega, by omega, fun q => ?_, ?_⟩
  · obtain ⟨φ, g1, g2⟩ := h14 q
    exact ⟨φ, g1.cg (fun k _ hk => ccd_c hA (by omega)), g2.cg (fun k _ hk => r k (by omega))⟩
  · rcases h15 with q | ⟨φ, g1, g2⟩
    · exact Or.inl q
    · exact Or.inr ⟨φ, g1.cg (fun k _ hk => ccd_c hA (by omega)), g2.cg (fun k _ hk => r k (by omega))⟩
/-- the reference, once it has failed: it only writes -/
theorem law135f {F nc : Nat} {σ τ : MS} {I0 w : Nat → Int32} {t : Nat → Nat} {n s b pa v : Nat} {f g : Nat → Int32} (hn : nc < 12) (h : RW (mF σ 22 w) I0 t n s b pa (some v) f g τ) : ∃ τ' w', M_readLaw_B135 F τ (nI (8 * nc)) = some ((), τ') ∧ RW (mF σ 22 w') I0 t n s b pa (some v) f g τ' := by
  have h1 := rd_wr (j := 8 * nc + 4) (x := mi τ 23) (Or.inl rfl) h
  have h2 := rd_wr (j := 8 * nc + 5) (x := mi (mA τ 22 (8 * nc + 4) (mi τ 23)) 23) (Or.inl rfl) h1
  unfold M_readLaw_B135 M_readLaw_B185
  rw [show nI (8 * nc) + 4 = nI (8 * nc + 4) from nI_add _ 4, show nI (8 * nc) + 5 = nI (8 * nc + 5) from nI_add _ 5, show nI (8 * nc) + 6 = nI (8 * nc + 6) from nI_add _ 6, chk_in (show 8 * nc + 4 < 96 by omega) (by decide), nI_clamp (by omega), stt_d, chk_in (show 8 * nc + 5 < 96 by omega) (by decide), nI_clamp (by omega), stt_d, rw_19f h2, if_neg (show ¬ (1 : Int32) = 0 by decide), chk_in (show 8 * nc + 6 < 96 by omega) (by decide), nI_clamp (by omega), stt_d]
  exact ⟨_, _, rfl, rd_wr (Or.inl rfl) h2⟩
