theorem andStep {nw F o : Nat} {ol : Bool} {S : CS} {Ic : Nat → Int32} {σ : MS} {Im : Nat → Int32} {t : Nat → Nat} {n s a b br pa s1 N1 : Nat} {rs : CS → Option (Int32 × CS)} {P : List (Nat × Nat)} {A f g : Nat → Int32} {T1 T2 : CS} {τ1 : MS} (K : CS → Option (Int32 × CS)) (hF : 1000 ≤ F) (ht : ∀ i, t i < 256) (ho : o = 29 ∨ o = 30) (IH : TestL nw ol (bd o + 1) F S Ic σ Im t n br rs) (ha : a + 1 ≤ s) (hP : ∀ e l, P = e :: l → bd e.1 < bd o) (hi : inn P ≠ 32) (h : okJ nw ol (bd o) S Ic σ Im t n s a b br pa P A f g T1 τ1 s1 N1) (z : isW t n s1 (wdH (wAO o) 0) = true) (zo : o = 30 → isW t n s1 (wdH 8 0) = false) (hkw : ∀ a' pa' A', RC S Ic t n s1 a' br pa' none A' T1 → RC S Ic t n (nxT t n s1) a' br pa' none A' T2) : okF S Ic σ Im t n ((C_3_emit T2 (nI (o - 18)) (0 : Int32)).bind fun y2 => (rs y2.2).bind fun y3 => if y3.1 = 0 then some ((0 : Int32), y3.2) else (C_3_land y3.2 y2.1).bind fun y4 => K y4.2) (M_readExpression_L20 F 1 N1 τ1 2) ∨ ∃ T5 τ5 s5 N5, ((C_3_emit T2 (nI (o - 18)) (0 : Int32)).bind fun y2 => (rs y2.2).bind fun y3 => if y3.1 = 0 then some ((0 : Int32), y3.2) else (C_3_land y3.2 y2.1).bind fun y4 => K y4.2) = K T5 ∧ M_readExpression_L20 F 1 N1 τ1 2 = M_readExpression_L20 F 1 N5 τ5 2 ∧ okJ nw ol (bd o) S Ic σ Im t n s a b br pa P A f g T5 τ5 s5 N5 ∧ s1 < s5 ∧ exU t n (bd o + 1) s5 := by
  obtain ⟨a1, b1, pa1, Q, A1, f1, g1, φ, h1, h2, h3, h4, h5, h6, h7, h8, h9, h10, h11, h12, h13, h14, h15⟩ := h
  have hs1 := isW_n z
  have nx := nx_gt (t := t) hs1
  have nx2 : s1 + 2 ≤ nxT t n s1 := by
    have w := nx_w (i := wAO o) (m := 0) (by rcases ho with rfl | rfl <;> decide) (by rcases ho with rfl | rfl <;> decide) z
    have : 2 ≤ wdL (wAO o) 0 := by rcases ho with rfl | rfl <;> decide
    omega
  obtain ⟨-, -, -, -, -, r6, r7, r8⟩ := rc_ci h3
  obtain ⟨N1, rfl⟩ : ∃ x, N1 = x + 1 := ⟨N1 - 1, by omega⟩
  have pb := pst_b Q f1 g1 b1
  obtain ⟨τ2, e1, e2⟩ := rd_and (F := F) hF ht ho h4 h7 hP h2 z zo
  rw [L20_2 (rd_19 h4), e1, bs]
  obtain ⟨T3, c1, c2⟩ := rc_emit (o := nI (o - 18)) (x := 0) (hkw a1 pa1 A1 h3) (by omega)
  rw [c1, bs]
  have bo : bd o ≤ 2 ∧ 1 ≤ bd o := by rcases ho with rfl | rfl <;> decide
  rcases IH (nxT t n s1) (a1 + 1) ((pst Q f1 g1 b1).2.2 + 1) pa1 N1 ((o, (pst Q f1 g1 b1).2.2) :: P) _ _ _ T3 τ2 c2 e2 (by omega) (by show _ + 1 + (P.length + 1) + 2 ≤ _; omega) h10 (by omega) (fun e l q => by rw [← (List.cons.inj q).1]; show bd o < bd o + 1; omega) (by show (if 31 ≤ o then _ else inn P) ≠ 32; rw [if_neg (by omega)]; exact hi) with ⟨T4, τ4, s4, N4, w1, w2, ⟨a4, b4, pa4, Q4, A4, f4, g4, ψ, k1, k2, k3, k4, k5, k6, k7, k8, k9, k10, k11, k12, k13, k14, k15⟩, wE⟩ | ⟨v, T4, τ4, v1, v2, v3, v4, v5⟩
  rotate_left
  · rw [v2, bs, if_pos rfl]
    exact Or.inl ⟨v, T4, τ4, v1, rfl, v3, v4, v5⟩
  have k2' : b4 + (Q4.length + (P.length + 1)) + 2 ≤ s4 := k2
  have ij := k11.1.1
  have ij1 := h11.1.1
  obtain ⟨T5, c3, c4⟩ := rc_land (j := a1) k3 (by omega)
  rw [w1, bs, if_neg (show ¬ (1 : Int32) = 0 by decide), c3, bs]
  obtain ⟨-, -, -, -, -, u6, u7, u8⟩ := rc_ci k3
  have o18 : o - 18 = 11 ∨ o - 18 = 12 := by omega
  refine Or.inr ⟨T5, τ4, s4, N4, rfl, w2, ⟨a4, b4, pa4, Q4 ++ [(o, (pst Q f1 g1 b1).2.2)], _, f4, g4, fAnd (o - 18) φ ψ, k1, ?_, c4, ?_, by omega, by omega, fun e he => ?_, fun e he q => ?_, by omega, k10, ?_, ?_, by omega, fun j hj => ?_, fun j hj => ?_⟩, by omega, wE⟩
  · rw [List.length_append]; show b4 + (Q4.length + 1 + P.length) + 2 ≤ s4; omega
  · rw [List.append_assoc]; exact k4
  · rcases List.mem_append.mp he with q | q
    · have := k7 e q; omega
    · rw [List.mem_singleton.mp q]; exact Nat.le_refl _
  · rcases List.mem_append.mp he with r | r
    · have := k8 e r q; omega
    · rw [List.mem_singleton.mp r]; show b ≤ (pst Q f1 g1 b1).2.2; omega
  · have lft : ∀ j, j < a1 → ccd A1 j = ccd (upd A4 (2 * a1 + 1) (nI (2 * a4))) j := fun j hj => by
      unfold ccd
      rw [pk_un (show 2 * j ≠ 2 * a1 + 1 by omega), pk_un (show 2 * j + 1 ≠ 2 * a1 + 1 by omega), k14 (2 * j) (by omega), k14 (2 * j + 1) (by omega), pk_un (show 2 * j ≠ 2 * a1 + 1 by omega), pk_un (show 2 * j ≠ 2 * a1 by omega), pk_un (show 2 * j + 1 ≠ 2 * a1 + 1 by omega), pk_un (show 2 * j + 1 ≠ 2 * a1 by omega)]
    have rgt : ∀ j, a1 + 1 ≤ j → ccd A4 j = ccd (upd A4 (2 * a1 + 1) (nI (2 * a4))) j := fun j hj => by
      unfold ccd
      rw [pk_un (show 2 * j ≠ 2 * a1 + 1 by omega), pk_un (show 2 * j + 1 ≠ 2 * a1 + 1 by omega)]
    refine sg_and (h11.cg fun j q1 q2 => lft j q2) (k11.cg fun j q1 q2 => rgt j q1) ?_ o18 (by omega) (by omega)
    refine cc_j ?_ o18 pk_us (by omega)
    rw [pk_un (by omega), k14 (2 * a1) (by omega), pk_un (by omega), pk_us]
  · rw [pst_app, pst_s, if_pos ho]
    have pb4 := pst_b Q4 f4 g4 b4
    have lo : ∀ j, j < (pst Q f1 g1 b1).2.2 + 1 → (pst Q4 f4 g4 b4).1 j = upd (pst Q f1 g1 b1).1 (pst Q f1 g1 b1).2.2 (nI o) j ∧ (pst Q4 f4 g4 b4).2.1 j = upd (pst Q f1 g1 b1).2.1 (pst Q f1 g1 b1).2.2 0 j := fun j hj => by
      obtain ⟨x1, x2⟩ := pst_lo2 (k := j) (b := (pst Q f1 g1 b1).2.2 + 1) Q4 f4 g4 b4 k8 k13 hj
      obtain ⟨y1, y2⟩ := k15 j hj
      exact ⟨x1.trans y1, x2.trans y2⟩
    have jk := k12.1.1
    refine sg_and (h12.cg fun j q1 q2 => ?_) (k12.cg fun j q1 q2 => ?_) ?_ o18 (by omega) (by omega)
    · obtain ⟨x1, x2⟩ := lo j (by omega)
      refine (rcf_c ?_ ?_).symm
      · exact x1.trans (pk_un (by omega))
      · exact (pk_un (by show j ≠ (pst Q f1 g1 b1).2.2; omega)).trans (x2.trans (pk_un (by omega)))
    · exact (rcf_c rfl (pk_un (by show j ≠ (pst Q f1 g1 b1).2.2; omega))).symm
    · refine rcf_j ?_ ho (by show (pst Q4 f4 g4 b4).2.2 < _; omega) pk_us
      exact (lo _ (by omega)).1.trans pk_us
  · rw [pk_un (by omega), k14 j (by omega), pk_un (by omega), pk_un (by omega)]
    exact h14 j hj
  · obtain ⟨x1, x2⟩ := k15 j (by omega)
    obtain ⟨y1, y2⟩ := pst_lo2 (k := j) (b := b) Q f1 g1 b1 h8 h13 hj
    obtain ⟨z1, z2⟩ := h15 j hj
    exact ⟨x1.trans ((pk_un (by omega)).trans (y1.trans z1)), x2.trans ((pk_un (by omega)).trans (y2.trans z2))⟩
