theorem cc_o {A : Nat → Int32} {a o : Nat} (h : A (2 * a) = nI o) (ho : o < 2 ^ 31) (h1 : o ≠ 11) (h2 : o ≠ 12) : ccd A a = (o, (A (2 * a + 1)).toInt) := by
  unfold ccd
  have e1 : ¬ nI o = 11 := fun q => h1 ((nI_eq (b := 11) ho (by decide)).mp q)
  have e2 : ¬ nI o = 12 := fun q => h2 ((nI_eq (b := 12) ho (by decide)).mp q)
  rw [h, if_neg (show ¬ nI o < 0 from nI_nlt (b := 0) (Nat.zero_le _) ho), nI_clamp ho, if_neg (fun q => q.elim e1 e2)]
theorem cc_j {A : Nat → Int32} {a o j : Nat} (h : A (2 * a) = nI o) (ho : o = 11 ∨ o = 12) (hj : A (2 * a + 1) = nI (2 * j)) (hb : j < 2 ^ 29) : ccd A a = (o, (j : Int)) := by
  unfold ccd
  have e : nI o = 11 ∨ nI o = 12 := by
    rcases ho with q | q
    · rw [q]; exact Or.inl rfl
    · rw [q]; exact Or.inr rfl
  have ho' : o < 2 ^ 31 := by omega
  have ti : (nI (2 * j)).toInt = ((2 * j : Nat) : Int) := nI_toInt (by omega)
  rw [h, hj, if_neg (show ¬ nI o < 0 from nI_nlt (b := 0) (Nat.zero_le _) ho'), nI_clamp ho', if_pos e, ti, if_pos (by omega)]
  congr 1; omega
theorem L20_1 {F N : Nat} {x1 : Int32} {τ : MS} (h : mi τ 19 = 0) : M_readExpression_L20 F x1 (N + 1) τ 1 = (M_readPart F τ).bind fun q => M_readExpression_L20 F x1 N q.2 q.1 := by
  rw [M_readExpression_L20, h, if_pos rfl, if_neg (by decide), if_neg (by decide), if_pos rfl]; rfl
theorem L20_0 {F N : Nat} {x1 : Int32} {τ : MS} (h : mi τ 19 = 0) : M_readExpression_L20 F x1 (N + 1) τ 0 = (M_readPlain F τ).bind fun q => M_readExpression_L20 F x1 N q.2 q.1 := by
  rw [M_readExpression_L20, h, if_pos rfl, if_neg (by decide), if_pos rfl]; rfl
theorem L20_3 {F N : Nat} {x1 : Int32} {τ : MS} (h : mi τ 19 = 0) : M_readExpression_L20 F x1 (N + 1) τ 3 = (M_behindSum F τ x1).bind fun q => M_readExpression_L20 F x1 N q.2 q.1 := by
  rw [M_readExpression_L20, h, if_pos rfl, if_neg (by decide), if_neg (by decide), if_neg (by decide), if_pos rfl]; rfl
theorem L20_2 {F N : Nat} {x1 : Int32} {τ : MS} (h : mi τ 19 = 0) : M_readExpression_L20 F x1 (N + 1) τ 2 = (M_behindTest F τ).bind fun q => M_readExpression_L20 F x1 N q.2 q.1 := by
  rw [M_readExpression_L20, h, if_pos rfl, if_neg (by decide), if_neg (by decide), if_neg (by decide), if_neg (by decide)]; rfl
theorem rd_sg {σ τ : MS} {I0 : Nat → Int32} {t : Nat → Nat} {n s b br pa x : Nat} {l : List (Nat × Nat)} {fl : Option Nat} {f g : Nat → Int32} (y : Int32) (hy : y = nI x) (ht : ∀ i, t i < 256) (hx : x < 256) (h : RM σ I0 t n s b l br pa fl f g τ) : M_isSign τ y = some (if isS t n s x then 1 else 0) := by rw [hy]; exact rd_sign ht hx h
theorem rc_sg {S T : CS} {I0 : Nat → Int32} {t : Nat → Nat} {n s a br pa x : Nat} {fl : Option Nat} {A : Nat → Int32} (y : Int32) (hy : y = nI x) (ht : ∀ i, t i < 256) (hx : x < 256) (h : RC S I0 t n s a br pa fl A T) : C_3_isSign T y = some (if isS t n s x then 1 else 0) := by rw [hy]; exact rc_sign ht hx h
theorem isS_n {t : Nat → Nat} {n s x : Nat} (h : isS t n s x = true) : s < n := (kd_3 (of_decide_eq_true h).1).1
theorem isW_n {t : Nat → Nat} {n s x : Nat} (h : isW t n s x = true) : s < n := (kd_1 (of_decide_eq_true h).1).1
theorem rd_behind {F : Nat} {σ τ : MS} {I0 : Nat → Int32} {t : Nat → Nat} {n s b br pa : Nat} {l : List (Nat × Nat)} {f g : Nat → Int32} {x1 : Int32} (ht : ∀ i, t i < 256) (h : RM σ I0 t n s b l br pa none f g τ) (ex : exT t n 5 s) : M_behindSum F τ x1 = M_behindSum_B71 F τ x1 (-1) := by
  obtain ⟨⟨e1, e2, e3⟩, e4, e5⟩ := (show _ ∧ _ from ⟨ex.1 (by omega), ex.2 (by omega)⟩)
  unfold M_behindSum
  rw [rd_sg 43 (x := 43) rfl ht (by decide) h, e4, bs, if_pos (by decide), rd_sg 45 (x := 45) rfl ht (by decide) h, e5, bs, if_pos (by decide), rd_sg 42 (x := 42) rfl ht (by decide) h, e1, bs, if_pos (by decide), rd_sg 47 (x := 47) rfl ht (by decide) h, e2, bs, if_pos (by decide), rd_sg 37 (x := 37) rfl ht (by decide) h, e3, bs, if_pos (by decide)]
theorem inn_app {P : List (Nat × Nat)} : ∀ Q : List (Nat × Nat), (∀ e ∈ Q, e.1 < 31) → inn (Q ++ P) = inn P
  | [], _ => rfl
  | e :: Q, h => by
    show (if 31 ≤ e.1 then nI e.1 else inn (Q ++ P)) = inn P
    rw [if_neg (by have := h e (List.mem_cons_self ..); omega)]
    exact inn_app Q (fun e' he => h e' (List.mem_cons_of_mem _ he))
theorem bd_31 {o : Nat} (h : 1 ≤ bd o) : o < 31 := by
  unfold bd at h
  by_cases z : o < 31
  · exact z
  · rw [if_neg (by omega), if_neg (by omega), if_neg (by omega), if_neg (by omega), if_neg (by omega)] at h; omega
theorem rd_pop {σ τ : MS} {I0 : Nat → Int32} {t : Nat → Nat} {n s b br pa : Nat} {e : Nat × Nat} {l : List (Nat × Nat)} {f g : Nat → Int32} (h : RM σ I0 t n s b (e :: l) (br + 1) pa none f g τ) : RM σ I0 t n s b l br pa none f g (mI (mI τ 29 (mi τ 29 - 1)) 30 (mi (mI τ 29 (mi τ 29 - 1)) 30 - 1)) := by
  obtain ⟨I, p, q, rfl, tp, tk, hs, hfl, h23, h29, h30, h26, pl, hb, hk⟩ := h
  have hb' : b + (l.length + 1) ≤ s := hb
  rw [mi_J, mJ_I, mi_J, mJ_I, h29, pk_un (show 30 ≠ 29 by decide), h30, show nI (e :: l).length - 1 = nI l.length from nI_pred l.length, nI_pred]
  exact ⟨_, p, q, rfl, ⟨tp.1, by rw [pk_un (by decide), pk_un (by decide)]; exact tp.2.1, tp.2.2⟩, ⟨by rw [pk_un (by decide), pk_un (by decide)]; exact tk.1, by rw [pk_un (by decide), pk_un (by decide)]; exact tk.2.1, by rw [pk_un (by decide), pk_un (by decide)]; exact tk.2.2.1, rfl⟩, hs, FL_c (fl := none) hfl (by rw [pk_un (by decide), pk_un (by decide)]) (by rw [pk_un (by decide), pk_un (by decide)]), by rw [pk_un (by decide), pk_un (by decide)]; exact h23, by rw [pk_un (by decide), pk_us], pk_us, by rw [pk_un (by decide), pk_un (by decide)]; exact h26, (show PL p q (e :: l) from pl).2, by omega, fun k k1 k2 k3 k4 k5 k6 k7 k8 k9 => by rw [pk_un k9, pk_un k8]; exact hk k k1 k2 k3 k4 k5 k6 k7 k8 k9⟩
/-- a bracket of a sum -/
theorem partB {nw F : Nat} {ol : Bool} {x1 : Int32} {S : CS} {Ic : Nat → Int32} {σ : MS} {Im : Nat → Int32} {t : Nat → Nat} {n br s a b pa N : Nat} {rs : CS → Option (Int32 × CS)} {P : List (Nat × Nat)} {A f g : Nat → Int32} {T : CS} {τ : MS} (hF : 1000 ≤ F) (ht : ∀ i, t i < 256) (hbr : br ≤ 8) (IH : br < 8 → SumL nw ol 5 F x1 S Ic σ Im t n (br + 1) rs) (hc : RC S Ic t n s a br pa none A T) (hm : RM σ Im t n s b P br pa none f g τ) (ha : a + 1 ≤ s) (hb2 : b + P.length + 2 ≤ s) (hpa : pa ≤ 50) (hN : 2 * (401 - s) + 3 ≤ N) (z : isS t n s 91 = true) : okS nw ol 7 F x1 S Ic σ Im t n s a b br pa P A f g (C_3_part rs F T) (M_readExpression_L20 F x1 N τ 1) ∨ okF S Ic σ Im t n (C_3_part rs F T) (M_readExpression_L20 F x1 N τ 1) := by
  have hs := isS_n z
  obtain ⟨c1, c2, c3, c4, c5, c6, c7, c8⟩ := rc_ci hc
  have nx := nx_gt (t := t) hs
  obtain ⟨N, rfl⟩ : ∃ k, N = k + 1 := ⟨N - 1, by omega⟩
  have ep : M_readPart F τ = (M_openBracket F τ 32).bind fun q7 => some (1, q7.2) := by
    unfold M_readPart
    rw [rd_sg 91 (x := 91) rfl ht (by decide) hm, z, bs, if_pos rfl, if_neg (by decide)]
  unfold C_3_part
  rw [rc_sg 91 (x := 91) rfl ht (by decide) hc, z, bs, if_pos rfl, if_neg (show ¬ (1 : Int32) = 0 by decide), L20_1 (rd_19 hm), ep]
  rcases rc_opens hF ht hbr hc with ⟨o1, T1, o2, o3⟩ | ⟨o1, T1, o2, o3⟩
  rotate_left
  · obtain ⟨τ1, b1, b2⟩ := rd_open0 (F := F) (o := 32) hm o1 hbr
    rw [o2, bs, if_pos rfl, b1, bs, bs]
    exact Or.inr (ok_fail hF (by omega) (by omega) o3 b2)
  obtain ⟨τ1, b1, b2⟩ := rd_open (F := F) (o := 32) hF ht ⟨by decide, by decide⟩ hs hm o1
  have b1' : M_openBracket F τ 32 = some ((), τ1) := b1
  rw [o2, bs, if_neg (show ¬ (1 : Int32) = 0 by decide), b1', bs, bs]
  rcases IH o1 (nxT t n s) a b pa N ((32, 0) :: P) A f g T1 τ1 o3 b2 (by omega) (by show b + (P.length + 1) + 2 ≤ _; omega) hpa (by omega) (fun e l q => by rw [← (List.cons.inj q).1]; decide) with ⟨T2, τ2, s2, a2, b2', pa2, N2, Q, A2, f2, g2, φ, d1, d2, d3, dX, d4, d5, d6, d7, d8, d9, d10, d11, d12, d13, d14, d15, d16⟩ | ⟨v, T2, τ2, v1, v2, v3, v4, v5⟩
  rotate_left
  · rw [v2, bs, if_pos rfl]
    exact Or.inr ⟨v, T2, τ2, v1, rfl, v3, v4, v5⟩
  obtain ⟨N2, rfl⟩ : ∃ k, N2 = k + 1 := ⟨N2 - 1, by omega⟩
  have hi : inn (Q ++ (32, 0) :: P) = 32 := by
    rw [inn_app Q (fun e he => bd_31 (by have := d8 e he; omega))]; rfl
  rw [d1, bs, if_neg (show ¬ (1 : Int32) = 0 by decide), d2, L20_3 (rd_19 d5), rd_behind ht d5 d16]
  unfold M_behindSum_B71
  rw [if_pos rfl, rd_inner hF d5, bs, hi, if_pos rfl, rd_sg 93 (x := 93) rfl ht (by decide) d5, bs]
  rcases rc_closes (x := 93) hF ht (by decide) d4 with ⟨e1, T3, e2, e3⟩ | ⟨e1, T3, e2, e3⟩
  · have e2' : C_3_closes F T2 93 = some (1, T3) := e2
    have hs2 := isS_n e1
    have nx2 := nx_gt (t := t) hs2
    obtain ⟨τ3, g1, g2'⟩ := rd_must1 (F := F) hF ht d5
    obtain ⟨τ4, h1, h2⟩ := rd_settle (F := F) (lv := 5) hF (by omega) (fun e l q => by rw [← (List.cons.inj q).1]; decide) d8 g2'
    have h1' : M_settle F τ3 5 = some ((), τ4) := h1
    rw [e1, e2', bs, if_neg (show ¬ (1 : Int32) = 0 by decide), if_pos rfl, g1, bs, rd_19 g2', if_pos rfl, h1', bs, stt_d, stt_d, bs]
    have h3 := rd_pop h2
    left
    refine ⟨T3, _, nxT t n s2, a2, _, pa2, N2, [], A2, _, _, φ, rfl, rfl, by omega, ?_, e3, h3, by omega, by omega, fun e he => absurd he (by simp), d9, d10, d11, d12, ?_, d14, fun k hk => ?_, ⟨fun q => by omega, fun q => by omega⟩⟩
    · have p1 := (pst_b Q f2 g2 b2').2
      have p2 : b2' + (Q.length + (P.length + 1)) + 2 ≤ s2 := dX
      show (pst Q f2 g2 b2').2.2 + (0 + P.length) + 2 ≤ nxT t n s2
      omega
    · have := (pst_b Q f2 g2 b2').1; omega
    · have key : ∀ (Q : List (Nat × Nat)) (f g : Nat → Int32) (c : Nat), (∀ e ∈ Q, 5 ≤ bd e.1) → k < c → (pst Q f g c).1 k = f k ∧ (pst Q f g c).2.1 k = g k := by
        intro Q
        induction Q with
        | nil => intro f g c _ _; exact ⟨rfl, rfl⟩
        | cons e Q ih =>
          intro f g c hq hc
          have b5 := hq e (List.mem_cons_self ..)
          have n29 : ¬ (e.1 = 29 ∨ e.1 = 30) := by
            rintro (q | q)
            · rw [q] at b5; exact absurd b5 (by decide)
            · rw [q] at b5; exact absurd b5 (by decide)
          unfold pst
          rw [if_neg n29]
          obtain ⟨i1, i2⟩ := ih (upd f c (nI e.1)) (upd g c 0) (c + 1) (fun e' he => hq e' (List.mem_cons_of_mem _ he)) (by omega)
          exact ⟨i1.trans (pk_un (by omega)), i2.trans (pk_un (by omega))⟩
      obtain ⟨i1, i2⟩ := key Q f2 g2 b2' d8 (by omega)
      obtain ⟨j1, j2⟩ := d15 k hk
      exact ⟨i1.trans j1, i2.trans j2⟩
  · have e2' : C_3_closes F T2 93 = some (0, T3) := e2
    obtain ⟨τ3, g1, g2'⟩ := rd_must0 (F := F) d5
    rw [e1, e2', bs, if_pos (show (0 : Int32) = 0 from rfl), if_neg (show ¬ (false = true) by decide), g1, bs, rd_19f g2', if_neg (show ¬ (1 : Int32) = 0 by decide), bs]
    obtain ⟨-, -, -, -, -, q6, q7, -⟩ := rc_ci d4
    exact Or.inr (ok_fail hF (by omega) (by omega) e3 g2')
