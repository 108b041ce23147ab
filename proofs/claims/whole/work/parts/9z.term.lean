/-- so far alike, the pile's part Q still open -/
def okI (nw : Nat) (ol : Bool) (lv : Nat) (S : CS) (Ic : Nat → Int32) (σ : MS) (Im : Nat → Int32) (t : Nat → Nat) (n s a b br pa : Nat) (P : List (Nat × Nat)) (A f g : Nat → Int32) (T' : CS) (τ' : MS) (s' N' : Nat) : Prop := ∃ (a' b' pa' : Nat) (Q : List (Nat × Nat)) (A' f' g' : Nat → Int32) (φ : (Nat → Int) → Option Int), 2 * (401 - s') + 3 ≤ N' ∧ b' + (Q.length + P.length) + 2 ≤ s' ∧ RC S Ic t n s' a' br pa' none A' T' ∧ RM σ Im t n s' b' (Q ++ P) br pa' none f' g' τ' ∧ s < s' ∧ a' + s ≤ a + s' ∧ (∀ e ∈ Q, lv ≤ bd e.1) ∧ pa < pa' ∧ pa' ≤ 50 ∧ Seg nw (ccd A') a a' (pa' - pa) φ ∧ Seg nw (rcf ol (pst Q f' g' b').1 (pst Q f' g' b').2.1) b (pst Q f' g' b').2.2 (pa' - pa) φ ∧ b ≤ b' ∧ (∀ k, k < 2 * a → A' k = A k) ∧ (∀ k, k < b → f' k = f k ∧ g' k = g k)
theorem okS_of {nw : Nat} {ol : Bool} {lv F : Nat} {x1 : Int32} {S : CS} {Ic : Nat → Int32} {σ : MS} {Im : Nat → Int32} {t : Nat → Nat} {n s a b br pa s' N' : Nat} {P : List (Nat × Nat)} {A f g : Nat → Int32} {T' : CS} {τ' : MS} (h : okI nw ol lv S Ic σ Im t n s a b br pa P A f g T' τ' s' N') (e : exT t n lv s') : okS nw ol lv F x1 S Ic σ Im t n s a b br pa P A f g (some (1, T')) (M_readExpression_L20 F x1 N' τ' 3) := by
  obtain ⟨a', b', pa', Q, A', f', g', φ, h1, h2, h3, h4, h5, h6, h7, h8, h9, h10, h11, h12, h13, h14⟩ := h
  exact ⟨T', τ', s', a', b', pa', N', Q, A', f', g', φ, rfl, rfl, h1, h2, h3, h4, h5, h6, h7, h8, h9, h10, h11, h12, h13, h14, e⟩
theorem okS_to {nw : Nat} {ol : Bool} {lv F : Nat} {x1 : Int32} {S : CS} {Ic : Nat → Int32} {σ : MS} {Im : Nat → Int32} {t : Nat → Nat} {n s a b br pa : Nat} {P : List (Nat × Nat)} {A f g : Nat → Int32} {c : Option (Int32 × CS)} {m : Option (Unit × MS)} (h : okS nw ol lv F x1 S Ic σ Im t n s a b br pa P A f g c m) : ∃ T' τ' s' N', c = some (1, T') ∧ m = M_readExpression_L20 F x1 N' τ' 3 ∧ okI nw ol lv S Ic σ Im t n s a b br pa P A f g T' τ' s' N' ∧ exT t n lv s' := by
  obtain ⟨T', τ', s', a', b', pa', N', Q, A', f', g', φ, e1, e2, h1, h2, h3, h4, h5, h6, h7, h8, h9, h10, h11, h12, h13, h14, e⟩ := h
  exact ⟨T', τ', s', N', e1, e2, ⟨a', b', pa', Q, A', f', g', φ, h1, h2, h3, h4, h5, h6, h7, h8, h9, h10, h11, h12, h13, h14⟩, e⟩
theorem okI_lv {nw : Nat} {ol : Bool} {lv lv' : Nat} {S : CS} {Ic : Nat → Int32} {σ : MS} {Im : Nat → Int32} {t : Nat → Nat} {n s a b br pa s' N' : Nat} {P : List (Nat × Nat)} {A f g : Nat → Int32} {T' : CS} {τ' : MS} (h : okI nw ol lv S Ic σ Im t n s a b br pa P A f g T' τ' s' N') (e : lv' ≤ lv) : okI nw ol lv' S Ic σ Im t n s a b br pa P A f g T' τ' s' N' := by
  obtain ⟨a', b', pa', Q, A', f', g', φ, h1, h2, h3, h4, h5, h6, h7, h8⟩ := h
  exact ⟨a', b', pa', Q, A', f', g', φ, h1, h2, h3, h4, h5, h6, fun e he => Nat.le_trans ‹_› (h7 e he), h8⟩
theorem pst_s (e : Nat × Nat) (l : List (Nat × Nat)) (f g : Nat → Int32) (b : Nat) : pst (e :: l) f g b = if e.1 = 29 ∨ e.1 = 30 then pst l f (upd g e.2 (nI b)) b else pst l (upd f b (nI e.1)) (upd g b 0) (b + 1) := rfl
theorem pst_app : ∀ (Q R : List (Nat × Nat)) (f g : Nat → Int32) (b : Nat), pst (Q ++ R) f g b = pst R (pst Q f g b).1 (pst Q f g b).2.1 (pst Q f g b).2.2
  | [], R, f, g, b => rfl
  | e :: Q, R, f, g, b => by
    show pst (e :: (Q ++ R)) f g b = _
    rw [pst_s e Q, pst_s e (Q ++ R)]
    by_cases z : e.1 = 29 ∨ e.1 = 30
    · rw [if_pos z, if_pos z]; exact pst_app Q R _ _ _
    · rw [if_neg z, if_neg z]; exact pst_app Q R _ _ _
theorem pst_lo {k : Nat} : ∀ (Q : List (Nat × Nat)) (f g : Nat → Int32) (c : Nat), (∀ e ∈ Q, 3 ≤ bd e.1) → k < c → (pst Q f g c).1 k = f k ∧ (pst Q f g c).2.1 k = g k
  | [], f, g, c, _, _ => ⟨rfl, rfl⟩
  | e :: Q, f, g, c, hq, hc => by
    have b5 := hq e (List.mem_cons_self ..)
    have n29 : ¬ (e.1 = 29 ∨ e.1 = 30) := by
      rintro (q | q)
      · rw [q] at b5; exact absurd b5 (by decide)
      · rw [q] at b5; exact absurd b5 (by decide)
    rw [pst_s, if_neg n29]
    obtain ⟨i1, i2⟩ := pst_lo (k := k) Q (upd f c (nI e.1)) (upd g c 0) (c + 1) (fun e' he => hq e' (List.mem_cons_of_mem _ he)) (by omega)
    exact ⟨i1.trans (pk_un (by omega)), i2.trans (pk_un (by omega))⟩
theorem isS_ne {t : Nat → Nat} {n s x y : Nat} (h : isS t n s x = true) (ne : x ≠ y) : isS t n s y = false := decide_eq_false fun q => ne ((of_decide_eq_true h).2.symm.trans q.2)
/-- signs of sums -/
def sgn (o : Nat) : Nat := if o = 20 then 43 else if o = 21 then 45 else if o = 22 then 42 else if o = 23 then 47 else 37
theorem rd_sel {F o : Nat} {σ τ : MS} {I0 : Nat → Int32} {t : Nat → Nat} {n s b br pa : Nat} {l : List (Nat × Nat)} {f g : Nat → Int32} {x1 : Int32} (ht : ∀ i, t i < 256) (h : RM σ I0 t n s b l br pa none f g τ) (ho : 20 ≤ o ∧ o ≤ 24) (z : isS t n s (sgn o) = true) : M_behindSum F τ x1 = M_behindSum_B71 F τ x1 (nI o) := by
  have q43 := rd_sg 43 (x := 43) rfl ht (by decide) h
  have q45 := rd_sg 45 (x := 45) rfl ht (by decide) h
  have q42 := rd_sg 42 (x := 42) rfl ht (by decide) h
  have q47 := rd_sg 47 (x := 47) rfl ht (by decide) h
  have q37 := rd_sg 37 (x := 37) rfl ht (by decide) h
  unfold M_behindSum
  rcases (show o = 20 ∨ o = 21 ∨ o = 22 ∨ o = 23 ∨ o = 24 by omega) with rfl | rfl | rfl | rfl | rfl
  · have z' : isS t n s 43 = true := z
    rw [q43, z', bs, if_neg (by decide)]; rfl
  · have z' : isS t n s 45 = true := z
    rw [q43, isS_ne z' (by decide), bs, if_pos (by decide), q45, z', bs, if_neg (by decide)]; rfl
  · have z' : isS t n s 42 = true := z
    rw [q43, isS_ne z' (by decide), bs, if_pos (by decide), q45, isS_ne z' (by decide), bs, if_pos (by decide), q42, z', bs, if_neg (by decide)]; rfl
  · have z' : isS t n s 47 = true := z
    rw [q43, isS_ne z' (by decide), bs, if_pos (by decide), q45, isS_ne z' (by decide), bs, if_pos (by decide), q42, isS_ne z' (by decide), bs, if_pos (by decide), q47, z', bs, if_neg (by decide)]; rfl
  · have z' : isS t n s 37 = true := z
    rw [q43, isS_ne z' (by decide), bs, if_pos (by decide), q45, isS_ne z' (by decide), bs, if_pos (by decide), q42, isS_ne z' (by decide), bs, if_pos (by decide), q47, isS_ne z' (by decide), bs, if_pos (by decide), q37, z', bs, if_neg (by decide)]; rfl
theorem bd_o {o : Nat} (h : 20 ≤ o ∧ o ≤ 24) : 5 ≤ bd o ∧ bd o ≤ 6 := by
  rcases (show o = 20 ∨ o = 21 ∨ o = 22 ∨ o = 23 ∨ o = 24 by omega) with rfl | rfl | rfl | rfl | rfl <;> decide
theorem rcf_o {ol : Bool} {f g : Nat → Int32} {k o : Nat} (h : f k = nI o) (ho : 20 ≤ o) (ho2 : o < 33) (hg : g k = 0) : rcf ol f g k = (o - 18, 0) := by
  have e : (nI o).toInt = o := nI_toInt (by omega)
  unfold rcf ropP ropL
  rw [h, hg, e, i32_0]
  cases ol with
  | true =>
    rw [if_pos rfl, if_neg (by omega), if_neg (by omega), if_neg (by omega)]
    congr 1; omega
  | false =>
    rw [if_neg (by decide), if_neg (by omega), if_neg (by omega)]
    congr 1; omega
/-- a sign and what stands behind it -/
theorem binStep {nw F o : Nat} {ol : Bool} {x1 : Int32} {S : CS} {Ic : Nat → Int32} {σ : MS} {Im : Nat → Int32} {t : Nat → Nat} {n s a b br pa s1 N1 : Nat} {rs : CS → Option (Int32 × CS)} {P : List (Nat × Nat)} {A f g : Nat → Int32} {T1 : CS} {τ1 : MS} (K : CS → Option (Int32 × CS)) (hF : 1000 ≤ F) (ht : ∀ i, t i < 256) (ho : 20 ≤ o ∧ o ≤ 24) (IH : SumL nw ol (bd o + 1) F x1 S Ic σ Im t n br rs) (ha : a + 1 ≤ s) (hP : ∀ e l, P = e :: l → bd e.1 < bd o) (h : okI nw ol (bd o) S Ic σ Im t n s a b br pa P A f g T1 τ1 s1 N1) (z : isS t n s1 (sgn o) = true) : okF S Ic σ Im t n ((C_3_advance F T1).bind fun y1 => (rs y1.2).bind fun y2 => if y2.1 = 0 then some ((0 : Int32), y2.2) else (C_3_emit y2.2 (nI (o - 18)) (0 : Int32)).bind fun y3 => K y3.2) (M_readExpression_L20 F x1 N1 τ1 3) ∨ ∃ T3 τ3 s3 N3, ((C_3_advance F T1).bind fun y1 => (rs y1.2).bind fun y2 => if y2.1 = 0 then some ((0 : Int32), y2.2) else (C_3_emit y2.2 (nI (o - 18)) (0 : Int32)).bind fun y3 => K y3.2) = K T3 ∧ M_readExpression_L20 F x1 N1 τ1 3 = M_readExpression_L20 F x1 N3 τ3 3 ∧ okI nw ol (bd o) S Ic σ Im t n s a b br pa P A f g T3 τ3 s3 N3 ∧ s1 < s3 ∧ exT t n (bd o + 1) s3 := by
  obtain ⟨a1, b1, pa1, Q, A1, f1, g1, φ, h1, h2, h3, h4, h5, h6, h7, h8, h9, h10, h11, h12, h13, h14⟩ := h
  have hs1 := isS_n z
  have nx := nx_gt (t := t) hs1
  have bo := bd_o ho
  obtain ⟨-, -, -, -, -, r6, r7, r8⟩ := rc_ci h3
  obtain ⟨N1, rfl⟩ : ∃ k, N1 = k + 1 := ⟨N1 - 1, by omega⟩
  -- the reference
  obtain ⟨τ2, e1, e2⟩ := rd_settle (F := F) (lv := bd o) hF bo.2 hP h7 h4
  have pb := pst_b Q f1 g1 b1
  obtain ⟨τ3, e3, e4⟩ := rd_push (o := o) (x := 0) e2 (by omega) (by decide) (by omega)
  have e3' : M_push τ2 (nI o) 0 = some ((), τ3) := e3
  obtain ⟨τ4, e5, e6⟩ := rd_next (F := F) hF ht e4
  have em : M_readExpression_L20 F x1 (N1 + 1) τ1 3 = M_readExpression_L20 F x1 N1 τ4 1 := by
    rw [L20_3 (rd_19 h4), rd_sel ht h4 ho z]
    unfold M_behindSum_B71
    rw [if_neg (nI_m1 (by omega)), qm_binds o (by omega), bs, e1, bs, e3', bs, e5, bs, bs]
  -- the class
  obtain ⟨T2, c1, c2⟩ := rc_adv hF ht h3
  rw [c1, bs, em]
  rcases IH (nxT t n s1) a1 (pst Q f1 g1 b1).2.2 pa1 N1 ((o, 0) :: P) A1 (pst Q f1 g1 b1).1 (pst Q f1 g1 b1).2.1 T2 τ4 c2 e6 (by omega) (by show _ + (P.length + 1) + 2 ≤ _; omega) h9 (by omega) (fun e l q => by rw [← (List.cons.inj q).1]; show bd o < bd o + 1; omega) with d | ⟨v, T3, τ5, v1, v2, v3, v4, v5⟩
  rotate_left
  · rw [v2, bs, if_pos rfl]
    exact Or.inl ⟨v, T3, τ5, v1, rfl, v3, v4, v5⟩
  obtain ⟨T3, τ5, s3, N3, d1, d2, ⟨a3, b3, pa3, Q3, A3, f3, g3, ψ, k1, k2, k3, k4, k5, k6, k7, k8, k9, k10, k11, k12, k13, k14⟩, dE⟩ := okS_to d
  have k2' : b3 + (Q3.length + (P.length + 1)) + 2 ≤ s3 := k2
  obtain ⟨T4, c3, c4⟩ := rc_emit (o := nI (o - 18)) (x := 0) k3 (by omega)
  rw [d1, bs, if_neg (show ¬ (1 : Int32) = 0 by decide), c3, bs]
  have e18 : o - 18 < 10 ∧ 2 ≤ o - 18 := by omega
  refine Or.inr ⟨T4, τ5, s3, N3, rfl, d2, ⟨a3 + 1, b3, pa3, Q3 ++ [(o, 0)], _, f3, g3, fOp (o - 18) φ ψ, k1, ?_, c4, ?_, by omega, by omega, fun e he => ?_, by omega, k9, ?_, ?_, by omega, fun k hk => ?_, fun k hk => ?_⟩, by omega, dE⟩
  · rw [List.length_append]; show b3 + (Q3.length + 1 + P.length) + 2 ≤ s3; omega
  · rw [List.append_assoc]; exact k4
  · rcases List.mem_append.mp he with q | q
    · have := k7 e q; omega
    · rw [List.mem_singleton.mp q]; exact Nat.le_refl _
  · have ij := k10.1
    have ij1 := h10.1
    have cl : ∀ k, k < a3 → ccd A3 k = ccd (upd (upd A3 (2 * a3) (nI (o - 18))) (2 * a3 + 1) 0) k := fun k hk => by
      unfold ccd
      rw [pk_un (show 2 * k ≠ 2 * a3 + 1 by omega), pk_un (show 2 * k ≠ 2 * a3 by omega), pk_un (show 2 * k + 1 ≠ 2 * a3 + 1 by omega), pk_un (show 2 * k + 1 ≠ 2 * a3 by omega)]
    have cl1 : ∀ k, k < a1 → ccd A1 k = ccd A3 k := fun k hk => by
      unfold ccd
      rw [k13 (2 * k) (by omega), k13 (2 * k + 1) (by omega)]
    refine sg_op (x := 0) (h10.cg fun k q1 q2 => (cl1 k q2).trans (cl k (by omega))) (k10.cg fun k q1 q2 => cl k q2) ?_ e18.2 e18.1 (by omega) (by omega)
    rw [cc_o (o := o - 18) (by rw [pk_un (by omega), pk_us]) (by omega) (by omega) (by omega), pk_us]; rfl
  · rw [pst_app]
    have q3 : ∀ e ∈ Q3, 3 ≤ bd e.1 := fun e he => by have := k7 e he; omega
    have pb3 := pst_b Q3 f3 g3 b3
    have ij := k11.1
    have no : ¬ (o = 29 ∨ o = 30) := by omega
    have ep : pst [(o, 0)] (pst Q3 f3 g3 b3).1 (pst Q3 f3 g3 b3).2.1 (pst Q3 f3 g3 b3).2.2 = (upd (pst Q3 f3 g3 b3).1 (pst Q3 f3 g3 b3).2.2 (nI o), upd (pst Q3 f3 g3 b3).2.1 (pst Q3 f3 g3 b3).2.2 0, (pst Q3 f3 g3 b3).2.2 + 1) := by
      rw [pst_s, if_neg no]; rfl
    rw [ep]
    have cl : ∀ k, k < (pst Q3 f3 g3 b3).2.2 → rcf ol (pst Q3 f3 g3 b3).1 (pst Q3 f3 g3 b3).2.1 k = rcf ol (upd (pst Q3 f3 g3 b3).1 (pst Q3 f3 g3 b3).2.2 (nI o)) (upd (pst Q3 f3 g3 b3).2.1 (pst Q3 f3 g3 b3).2.2 0) k := fun k hk => (rcf_c (pk_un (by omega)) (pk_un (by omega))).symm
    have cl1 : ∀ k, k < (pst Q f1 g1 b1).2.2 → rcf ol (pst Q f1 g1 b1).1 (pst Q f1 g1 b1).2.1 k = rcf ol (pst Q3 f3 g3 b3).1 (pst Q3 f3 g3 b3).2.1 k := fun k hk => by
      obtain ⟨u1, u2⟩ := pst_lo (k := k) Q3 f3 g3 b3 q3 (by omega)
      obtain ⟨w1, w2⟩ := k14 k hk
      exact (rcf_c (u1.trans w1) (u2.trans w2)).symm
    refine sg_op (x := 0) (h11.cg fun k q1 q2 => (cl1 k q2).trans (cl k (by omega))) (k11.cg fun k q1 q2 => cl k q2) ?_ e18.2 e18.1 (by omega) (by omega)
    exact rcf_o pk_us ho.1 (by omega) pk_us
  · have ij := k10.1
    have ij1 := h10.1
    rw [pk_un (by omega), pk_un (by omega), k13 k (by omega)]
    exact h13 k hk
  · have q7 : ∀ e ∈ Q, 3 ≤ bd e.1 := fun e he => by have := h7 e he; omega
    obtain ⟨w1, w2⟩ := k14 k (by omega)
    obtain ⟨u1, u2⟩ := pst_lo (k := k) Q f1 g1 b1 q7 (by omega)
    obtain ⟨y1, y2⟩ := h14 k hk
    exact ⟨w1.trans (u1.trans y1), w2.trans (u2.trans y2)⟩
