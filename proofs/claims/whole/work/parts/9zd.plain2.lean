theorem ccd_up {A : Nat → Int32} {a k : Nat} {x y : Int32} (h : k < a) : ccd A k = ccd (upd (upd A (2 * a) x) (2 * a + 1) y) k := by
  unfold ccd
  rw [pk_un (show 2 * k ≠ 2 * a + 1 by omega), pk_un (show 2 * k ≠ 2 * a by omega), pk_un (show 2 * k + 1 ≠ 2 * a + 1 by omega), pk_un (show 2 * k + 1 ≠ 2 * a by omega)]
/-- the last of a plain test: not, or not -/
theorem rc_150 {nw F k a a' d : Nat} {S T : CS} {I0 : Nat → Int32} {t : Nat → Nat} {n s br pa : Nat} {A : Nat → Int32} {φ : (Nat → Int) → Option Int} {rt rs : CS → Option (Int32 × CS)} (h : RC S I0 t n s a' br pa none A T) (sg : TSeg nw (ccd A) a a' d φ) (hb : k % 2 = 1 → a' + 1 ≤ s) : ∃ T' A' a'', C_3_plain_B150 rt rs F T (if k % 2 = 0 then 0 else 1) = some (1, T') ∧ RC S I0 t n s a'' br pa none A' T' ∧ TSeg nw (ccd A') a a'' d (fNs φ k) ∧ (∀ j, j < 2 * a' → A' j = A j) ∧ a' ≤ a'' ∧ (k % 2 = 0 → a'' = a') ∧ a'' ≤ a' + 1 := by
  unfold C_3_plain_B150
  rw [fNs_2]
  by_cases z : k % 2 = 0
  · rw [if_pos z, if_pos z, if_pos rfl]
    exact ⟨T, A, a', rfl, h, sg, fun _ _ => rfl, Nat.le_refl _, fun _ => rfl, by omega⟩
  · obtain ⟨T', e1, e2⟩ := rc_emit (o := 10) (x := 0) h (hb (by omega))
    rw [if_neg z, if_neg z, if_neg (by decide), e1, bs]
    have s2 : TSeg nw (ccd (upd (upd A (2 * a') 10) (2 * a' + 1) 0)) a a' d φ := sg.cg fun j q1 q2 => ccd_up q2
    refine ⟨T', _, a' + 1, rfl, e2, sg_not (x := 0) s2 ?_, fun j hj => by rw [pk_un (by omega), pk_un (by omega)], by omega, fun q => absurd q z, Nat.le_refl _⟩
    rw [cc_o (o := 10) (by rw [pk_un (by omega), pk_us]; rfl) (by decide) (by decide) (by decide), pk_us]; rfl
theorem plainC {nw F k : Nat} {ol : Bool} {S : CS} {Ic : Nat → Int32} {σ : MS} {Im : Nat → Int32} {t : Nat → Nat} {n so s a b br pa N : Nat} {rt rs : CS → Option (Int32 × CS)} {P : List (Nat × Nat)} {A f g : Nat → Int32} {T : CS} {τ : MS} (hF : 1000 ≤ F) (ht : ∀ i, t i < 256) (hS : SumL nw ol 5 F 1 S Ic σ Im t n br rs) (hc : RC S Ic t n s a br pa none A T) (hm : RM σ Im t n s b (nts k ++ P) br pa none f g τ) (hso : so + k ≤ s) (ha : a + 1 ≤ so) (hb2 : b + (k + P.length) + 2 ≤ s) (hpa : pa ≤ 50) (hN : 2 * (401 - s) + 3 ≤ N) (hP : ∀ e l, P = e :: l → bd e.1 < 3) (hi : inn P ≠ 32) (z1 : isW t n s (wdH 7 0) = false) (z2 : isS t n s 40 = false) : okT nw ol 3 F S Ic σ Im t n so a b br pa P A f g (C_3_plain_B36 rt rs F T (if k % 2 = 0 then 0 else 1)) (M_readExpression_L20 F 1 N τ 0) ∨ okF S Ic σ Im t n (C_3_plain_B36 rt rs F T (if k % 2 = 0 then 0 else 1)) (M_readExpression_L20 F 1 N τ 0) := by
  obtain ⟨N, rfl⟩ : ∃ x, N = x + 1 := ⟨N - 1, by omega⟩
  have h33 : ∀ e ∈ P, 20 ≤ e.1 ∧ e.1 < 33 := fun e he => rd_pl hm e (List.mem_append_right _ he)
  have hlen : (nts k ++ P).length = k + P.length := by rw [List.length_append, nts_l]
  have top : ∀ e l, nts k ++ P = e :: l → bd e.1 < 5 := fun e l q => by
    cases k with
    | zero => have := hP e l q; omega
    | succ k => rw [← (List.cons.inj (show (28, 0) :: (nts k ++ P) = e :: l from q)).1]; decide
  have inP : inn (nts k ++ P) ≠ 32 := by rw [inn_nts]; exact hi
  unfold C_3_plain_B36
  rw [rd_pln ht hm z1 z2, rc_sg 40 (x := 40) rfl ht (by decide) hc, z2, bs, if_pos (show (if (false = true) then (1 : Int32) else 0) = 0 by decide)]
  rcases hS s a b pa (N + 1) (nts k ++ P) A f g T τ hc hm (by omega) (by omega) hpa hN top with d | ⟨v, T3, τ5, v1, v2, v3, v4, v5⟩
  rotate_left
  · rw [v2, bs, if_pos rfl]
    exact Or.inr ⟨v, T3, τ5, v1, rfl, v3, v4, v5⟩
  obtain ⟨T1, τ1, s1, N1, d1, d2, ⟨a1, b1, pa1, Q, A1, f1, g1, φ, h1, h2, h3, h4, h5, h6, h7, h8, h9, h10, h11, h12, h13, h14⟩, dE⟩ := okS_to d
  rw [hlen] at h2
  obtain ⟨N1, rfl⟩ : ∃ x, N1 = x + 1 := ⟨N1 - 1, by omega⟩
  obtain ⟨-, -, -, -, -, r6, r7, r8⟩ := rc_ci h3
  have cf : cmpd (Q ++ (nts k ++ P)) = false := by rw [cmpd_app Q h7]; exact cmpd_P hP k h33
  have i1 : inn (Q ++ (nts k ++ P)) ≠ 32 := by rw [inn_app Q (fun e he => bd_31 (by have := h7 e he; omega))]; exact inP
  rw [d1, bs, if_neg (show ¬ (1 : Int32) = 0 by decide), d2, L20_3 (rd_19 h4), rd_163 hF ht h4 dE i1, rc_sg 60 (x := 60) rfl ht (by decide) h3, bs, rc_sg 62 (x := 62) rfl ht (by decide) h3, bs]
  unfold C_3_plain_B109
  rw [rc_sg 61 (x := 61) rfl ht (by decide) h3, bs]
  have main : ∀ o, (o = 25 ∨ o = 26 ∨ o = 27) → isS t n s1 (sgc o) = true → okT nw ol 3 F S Ic σ Im t n so a b br pa P A f g (C_3_plain_B130 rt rs F T1 (if k % 2 = 0 then 0 else 1) (nI (o - 18))) ((M_behindSum_B163 F τ1).bind fun q => M_readExpression_L20 F 1 N1 q.2 q.1) ∨ okF S Ic σ Im t n (C_3_plain_B130 rt rs F T1 (if k % 2 = 0 then 0 else 1) (nI (o - 18))) ((M_behindSum_B163 F τ1).bind fun q => M_readExpression_L20 F 1 N1 q.2 q.1) := fun o ho z => by
    have nx := nx_gt (t := t) (isS_n z)
    have b4 : bd o = 4 := by rcases ho with rfl | rfl | rfl <;> rfl
    obtain ⟨τ2, e1, e2⟩ := rd_cmp1 (F := F) hF ht h4 cf h7 top ho z (by rw [hlen]; exact h2)
    obtain ⟨T2, c1, c2⟩ := rc_adv hF ht h3
    have pb := pst_b Q f1 g1 b1
    unfold C_3_plain_B130
    rw [e1, bs, c1, bs]
    rcases hS (nxT t n s1) a1 (pst Q f1 g1 b1).2.2 pa1 N1 ((o, 0) :: (nts k ++ P)) A1 (pst Q f1 g1 b1).1 (pst Q f1 g1 b1).2.1 T2 τ2 c2 e2 (by omega) (by show _ + ((nts k ++ P).length + 1) + 2 ≤ _; rw [hlen]; omega) h9 (by omega) (fun e l q => by rw [← (List.cons.inj q).1]; show bd o < 5; omega) with w | ⟨v, T3, τ5, v1, v2, v3, v4, v5⟩
    rotate_left
    · rw [v2, bs, if_pos rfl]
      exact Or.inr ⟨v, T3, τ5, v1, rfl, v3, v4, v5⟩
    obtain ⟨T3, τ3, s3, N3, w1, w2, ⟨a3, b3, pa3, Q3, A3, f3, g3, ψ, k1, k2, k3, k4, k5, k6, k7, k8, k9, k10, k11, k12, k13, k14⟩, wE⟩ := okS_to w
    obtain ⟨N3, rfl⟩ : ∃ x, N3 = x + 1 := ⟨N3 - 1, by omega⟩
    have k2' : b3 + (Q3.length + (k + P.length + 1)) + 2 ≤ s3 := by
      have : ((o, 0) :: (nts k ++ P)).length = k + P.length + 1 := by show (nts k ++ P).length + 1 = _; rw [hlen]
      rw [this] at k2; exact k2
    have ij3 := k10.1
    have ij1 := h10.1
    have cT : cmpd (Q3 ++ (o, 0) :: (nts k ++ P)) = true := by
      rw [cmpd_app Q3 k7]
      show (if o ≤ 24 then _ else decide (o ≤ 27)) = true
      rw [if_neg (by omega)]; exact decide_eq_true (by omega)
    have i3 : inn (Q3 ++ (o, 0) :: (nts k ++ P)) ≠ 32 := by
      rw [inn_app Q3 (fun e he => bd_31 (by have := k7 e he; omega))]
      show (if 31 ≤ o then _ else inn (nts k ++ P)) ≠ 32
      rw [if_neg (by omega)]; exact inP
    obtain ⟨T4, c3, c4⟩ := rc_emit (o := nI (o - 18)) (x := 0) k3 (by omega)
    have tA : TSeg nw (ccd (upd (upd A3 (2 * a3) (nI (o - 18))) (2 * a3 + 1) 0)) a (a3 + 1) (pa3 - pa) (fOp (o - 18) φ ψ) := by
      have cl1 : ∀ j, j < a1 → ccd A1 j = ccd A3 j := fun j hj => by
        unfold ccd
        rw [k13 (2 * j) (by omega), k13 (2 * j + 1) (by omega)]
      refine sg_cmp (x := 0) (h10.cg fun j q1 q2 => (cl1 j q2).trans (ccd_up (by omega))) (k10.cg fun j q1 q2 => ccd_up q2) ?_ (by omega) (by omega) (by omega)
      rw [cc_o (o := o - 18) (by rw [pk_un (by omega), pk_us]) (by omega) (by omega) (by omega), pk_us]; rfl
    obtain ⟨T5, A5, a5, g1', g2', g3', g4', g5', g6', g7'⟩ := rc_150 (F := F) (k := k) (rt := rt) (rs := rs) c4 tA (fun _ => by omega)
    have tB : TSeg nw (rcf ol (pst (Q3 ++ [(o, 0)]) f3 g3 b3).1 (pst (Q3 ++ [(o, 0)]) f3 g3 b3).2.1) b (pst (Q3 ++ [(o, 0)]) f3 g3 b3).2.2 (pa3 - pa) (fOp (o - 18) φ ψ) := by
      have q3 : ∀ e ∈ Q3, 3 ≤ bd e.1 := fun e he => by have := k7 e he; omega
      have pb3 := pst_b Q3 f3 g3 b3
      have no : ¬ (o = 29 ∨ o = 30) := by omega
      have ij := k11.1
      rw [pst_app, pst_s, if_neg no]
      have cl : ∀ j, j < (pst Q3 f3 g3 b3).2.2 → rcf ol (pst Q3 f3 g3 b3).1 (pst Q3 f3 g3 b3).2.1 j = rcf ol (upd (pst Q3 f3 g3 b3).1 (pst Q3 f3 g3 b3).2.2 (nI o)) (upd (pst Q3 f3 g3 b3).2.1 (pst Q3 f3 g3 b3).2.2 0) j := fun j hj => (rcf_c (pk_un (by omega)) (pk_un (by omega))).symm
      have cl1 : ∀ j, j < (pst Q f1 g1 b1).2.2 → rcf ol (pst Q f1 g1 b1).1 (pst Q f1 g1 b1).2.1 j = rcf ol (pst Q3 f3 g3 b3).1 (pst Q3 f3 g3 b3).2.1 j := fun j hj => by
        obtain ⟨u1, u2⟩ := pst_lo (k := j) Q3 f3 g3 b3 q3 (by omega)
        obtain ⟨w1, w2⟩ := k14 j hj
        exact (rcf_c (u1.trans w1) (u2.trans w2)).symm
      exact sg_cmp (x := 0) (h11.cg fun j q1 q2 => (cl1 j q2).trans (cl j (by omega))) (k11.cg fun j q1 q2 => cl j q2) (rcf_o pk_us (by omega) (by omega) pk_us) (by omega) (by omega) (by omega)
    rw [w1, bs, if_neg (show ¬ (1 : Int32) = 0 by decide), c3, bs, g1', w2, L20_3 (rd_19 k4), rd_163 hF ht k4 wE i3, rd_cmp2 hF k4 cT, bs]
    refine Or.inl ⟨T5, τ3, s3, N3, rfl, rfl, ⟨a5, b3, pa3, (Q3 ++ [(o, 0)]) ++ nts k, A5, f3, g3, fNs (fOp (o - 18) φ ψ) k, by omega, ?_, g2', ?_, by omega, by omega, fun e he => ?_, fun e he q => ?_, by omega, k9, g3', ?_, by omega, fun j hj => ?_, fun j hj => ?_⟩, ⟨fun q => by omega, fun q => by omega⟩⟩
    · rw [List.length_append, List.length_append, nts_l]; show b3 + (Q3.length + 1 + k + P.length) + 2 ≤ s3; omega
    · have : Q3 ++ [(o, 0)] ++ nts k ++ P = Q3 ++ (o, 0) :: (nts k ++ P) := by simp
      rw [this]; exact k4
    · rcases List.mem_append.mp he with q | q
      · rcases List.mem_append.mp q with q | q
        · have := k7 e q; omega
        · rw [List.mem_singleton.mp q]; show 3 ≤ bd o; omega
      · rw [nts_m q]; decide
    · exfalso
      rcases List.mem_append.mp he with r | r
      · rcases List.mem_append.mp r with r | r
        · have := k7 e r
          rcases q with q | q <;> rw [q] at this <;> exact absurd this (by decide)
        · rw [List.mem_singleton.mp r] at q
          have : o = 29 ∨ o = 30 := q
          omega
      · rw [nts_m r] at q; exact absurd q (by decide)
    · rw [pst_app]
      exact sg_nts k _ _ _ tB
    · rw [g4' j (by omega), pk_un (by omega), pk_un (by omega), k13 j (by omega)]
      exact h13 j hj
    · have q7 : ∀ e ∈ Q, 3 ≤ bd e.1 := fun e he => by have := h7 e he; omega
      obtain ⟨w1, w2⟩ := k14 j (by omega)
      obtain ⟨u1, u2⟩ := pst_lo (k := j) Q f1 g1 b1 q7 (by omega)
      obtain ⟨y1, y2⟩ := h14 j hj
      exact ⟨w1.trans (u1.trans y1), w2.trans (u2.trans y2)⟩
  cases y1 : isS t n s1 60 with
  | true =>
    rw [if_pos rfl, if_neg (show ¬ (1 : Int32) = 0 by decide), if_neg (show ¬ (7 : Int32) = 9 by decide)]
    exact main 25 (by omega) y1
  | false =>
  rw [if_neg (show ¬ (false = true) by decide), if_pos rfl]
  cases y2 : isS t n s1 62 with
  | true =>
    rw [if_pos rfl, if_neg (show ¬ (1 : Int32) = 0 by decide), if_neg (show ¬ (8 : Int32) = 9 by decide)]
    exact main 26 (by omega) y2
  | false =>
  rw [if_neg (show ¬ (false = true) by decide), if_pos rfl, if_pos rfl]
  cases y3 : isS t n s1 61 with
  | true =>
    rw [if_pos rfl, if_neg (show ¬ (1 : Int32) = 0 by decide)]
    exact main 27 (by omega) y3
  | false =>
  obtain ⟨T2, f1', f2'⟩ := rc_fail h3
  obtain ⟨τ2, e1, e2⟩ := rd_cmp0 (F := F) hF ht h4 cf y1 y2 y3
  rw [if_neg (show ¬ (false = true) by decide), if_pos rfl, f1', bs, chk_t (Or.inl rfl), e1, bs]
  exact Or.inr (ok_fail hF (by omega) (by omega) f2' e2)
