theorem ef1 {F : Nat} {σ τ : MS} {I0 : Nat → Int32} {t : Nat → Nat} {n s b pa v : Nat} {f g : Nat → Int32} (h : RW σ I0 t n s b pa (some v) f g τ) : M_endText F τ = some ((), mI (mI τ 20 0) 13 0) := by
  unfold M_endText M_endText_B19
  rw [rw_19f h, if_neg (show ¬ (1 : Int32) = 0 by decide), stt_d, stt_d]
theorem ef2 {F : Nat} {σ τ : MS} {I0 : Nat → Int32} {t : Nat → Nat} {n s b pa : Nat} {f g : Nat → Int32} (h : RW σ I0 t n s b pa none f g τ) (hk : kdT t n s ≠ 0) : ∃ τ', M_endText F τ = some ((), mI (mI τ' 20 0) 13 0) ∧ RW σ I0 t n s b pa (some s) f g τ' := by
  obtain ⟨τ1, d1, d2⟩ := rw_must0 (F := F) h
  refine ⟨τ1, ?_, d2⟩
  unfold M_endText M_endText_B19
  rw [rw_19 h, if_pos rfl, (rw_mi h).2.1, if_neg (show ¬ nI (kdT t n s) = 0 from fun q => hk ((kd_i 0 (by decide)).mp q)), d1, bs, stt_d, stt_d]
theorem ef3 {F : Nat} {σ τ : MS} {I0 : Nat → Int32} {t : Nat → Nat} {n s b pa : Nat} {f g : Nat → Int32} (h : RW σ I0 t n s b pa none f g τ) (hk : kdT t n s = 0) : M_endText F τ = some ((), mI (mI τ 20 0) 13 0) := by
  unfold M_endText M_endText_B19
  rw [rw_19 h, if_pos rfl, (rw_mi h).2.1, hk, if_pos (show nI 0 = 0 from rfl), stt_d, stt_d]
def RdS (col : Nat) (CL : CLT) (E : Nat → ClassId) (S : CS) (Ic : Nat → Int32) (σ : MS) (Im : Nat → Int32) (t : Nat → Nat) (n zb : Nat) (P0 : va_W) (ed : MS → Option (Int32 × MS)) (cK : Option (Option Nat × CS × va_W)) (m : Option (Int32 × MS)) : Prop := ∃ (T' : CS) (τ' : MS) (P' : va_W) (s' a' b' pa' c' : Nat) (A' f' g' w' : Nat → Int32), cK = some (some zb, T', P') ∧ m = ed τ' ∧ RC S Ic t n s' a' 0 pa' none A' T' ∧ RW (mF σ col w') (upd Im 21 (nI c')) t n s' b' pa' none f' g' τ' ∧ kdT t n s' = 0 ∧ c' ≤ 12 ∧ a' < 400 ∧ LD CL E P0 P' zb c' A' f' g' w' a' b'
def RdF (col F : Nat) (S : CS) (Ic : Nat → Int32) (σ : MS) (Im : Nat → Int32) (t : Nat → Nat) (n zb : Nat) (P0 : va_W) (ed : MS → Option (Int32 × MS)) (cK : Option (Option Nat × CS × va_W)) (m : Option (Int32 × MS)) : Prop := ∃ (v : Nat) (T' : CS) (τ' : MS) (P' : va_W), v ≤ 400 ∧ cK = some (none, T', P') ∧ m = ed τ' ∧ (∃ s a br pa A, RC S Ic t n s a br pa (some v) A T') ∧ (∃ τ'' w x s b pa f g, M_endText F τ' = some ((), mI (mI τ'' 20 0) 13 0) ∧ RW (mF σ col w) (upd Im 21 x) t n s b pa (some v) f g τ'') ∧ ∀ x, x < zb → fnd P' x = fnd P0 x
theorem readLoop {col F zb : Nat} {CL : CLT} {E : Nat → ClassId} {S : CS} {Ic : Nat → Int32} {σ : MS} {Im : Nat → Int32} {t : Nat → Nat} {n : Nat} {P0 : va_W} {rd : MS → Option (Unit × MS)} {lp : Nat → MS → Option (Int32 × MS)} {ed : MS → Option (Int32 × MS)} (hF : 1000 ≤ F) (ht : ∀ i, t i < 256) (hlp : ∀ k τ, lp (k + 1) τ = if (mi τ 19) = 0 then (M_isSign τ (59 : Int32)).bind fun q9 => if q9 = 0 then ed τ else (M_next F τ).bind fun q10 => (rd q10.2).bind fun q11 => lp k q11.2 else ed τ) (mv : CLmv CL)
    (hcl : ∀ (nc s a b pa z : Nat) (A f g w : Nat → Int32) (T : CS) (τ : MS) (P : va_W) (cl : Nat → Option Nat), RC S Ic t n s a 0 pa none A T → RW (mF σ col w) (upd Im 21 (nI nc)) t n s b pa none f g τ → pa ≤ 50 → nc < 12 → fnd P z = none → SP E P zb nc cl → zb + 2 < z → LOK col CL E S Ic σ (upd Im 21 (nI (nc + 1))) t n s zb z nc cl P A f g w a b (K_3_clause F E z T P zb) (rd τ) ∨ LFL col S Ic σ Im t n z P (K_3_clause F E z T P zb) (rd τ))
    (h12 : ∀ (s b pa : Nat) (f g w : Nat → Int32) (τ : MS), RW (mF σ col w) (upd Im 21 (nI 12)) t n s b pa none f g τ → ∃ τ', rd τ = some ((), τ') ∧ RW (mF σ col w) (upd Im 21 (nI 12)) t n s b pa (some s) f g τ') :
    ∀ (r c fC fM s a b pa : Nat) (A f g w : Nat → Int32) (T : CS) (τ : MS) (P : va_W), c + r = 12 → r < fC → r < fM → RC S Ic t n s a 0 pa none A T → RW (mF σ col w) (upd Im 21 (nI c)) t n s b pa none f g τ → pa ≤ 50 → LPl CL E P0 P zb c A f g w a b → RdS col CL E S Ic σ Im t n zb P0 ed (K_3_read_L44 F E zb zb fC T P (3 + c) (15 + 6 * c) (nI c)) ((rd τ).bind fun q => lp fM q.2) ∨ RdF col F S Ic σ Im t n zb P0 ed (K_3_read_L44 F E zb zb fC T P (3 + c) (15 + 6 * c) (nI c)) ((rd τ).bind fun q => lp fM q.2)
  | 0, c, fC + 1, fM + 1, s, a, b, pa, A, f, g, w, T, τ, P, e, _, _, hc, hm, hpa, lp0 => by
    obtain rfl : c = 12 := by omega
    obtain ⟨r1, r2, r3, r4, r5, r6, r7, r8⟩ := rc_ci hc
    obtain ⟨τ1, d1, d2⟩ := h12 _ _ _ _ _ _ _ hm
    obtain ⟨T1, c1, c2⟩ := rc_fail hc
    rw [K_3_read_L44, if_pos (show (12 : Int32) ≤ nI 12 by decide), chk_t (by decide), c1, bs, chk_t (by decide), d1, bs, hlp, rw_19f d2, if_neg (show ¬ (1 : Int32) = 0 by decide)]
    exact Or.inr ⟨s, T1, τ1, P, by omega, rfl, rfl, ⟨_, _, _, _, _, c2⟩, ⟨τ1, _, _, _, _, _, _, _, ef1 d2, d2⟩, lp0.2.2.2.1⟩
  | r + 1, c, fC + 1, fM + 1, s, a, b, pa, A, f, g, w, T, τ, P, e, hf, hg, hc, hm, hpa, lp0 => by
    have mk := LPl_mk lp0
    have lp1 := lp0
    obtain ⟨⟨cl, sp, spc⟩, y2, y3, y4, y5⟩ := lp1
    rw [K_3_read_L44, if_neg (show ¬ (12 : Int32) ≤ nI c from nI_ge (b := 12) (by omega) (by decide)), chk_t ⟨mk, by omega, by omega⟩, show zb + (3 + c) = zb + 3 + c by omega]
    rcases hcl c s a b pa (zb + 3 + c) A f g w T τ P cl hc hm hpa (by omega) (y5 _ (Nat.le_refl _)) sp (by omega) with ⟨T', τ', P', s', a', b', pa', A', f', g', w', fs, x1, x2, x3, x4, x5, x6, x7, x8, x9, x10, x11, x12, x13, x14, x15, x16⟩ | ⟨v, T', τ', P', v1, x1, x2, x3, ⟨w', x', s', b', pa', f', g', x4⟩, x5⟩
    rotate_left
    · rw [x1, bs, if_pos rfl, chk_t ⟨by omega, by omega⟩, x2, bs, hlp, rw_19f x4, if_neg (show ¬ (1 : Int32) = 0 by decide)]
      exact Or.inr ⟨v, T', τ', P', v1, rfl, rfl, x3, ⟨τ', _, _, _, _, _, _, _, ef1 x4, x4⟩, fun x hx => (x5 x (by omega)).trans (y4 x hx)⟩
    have lp2 := LPl_step mv lp0 spc x8 x9 x10 x11 x12 x13 x14 x15 x16
    have mk2 := LPl_mk lp2
    obtain ⟨r1, r2, r3, r4, r5, r6, r7, r8⟩ := rc_ci x3
    rw [x1, bs, if_neg (show ¬ (1 : Int32) = 0 by decide), r2, x2, bs, hlp, rw_19 x4, if_pos rfl, rw_sg 59 (x := 59) rfl ht (by decide) x4, bs]
    by_cases k0 : kdT t n s' = 0
    · have nS : isS t n s' 59 = false := isS_end (kd_0.mp k0)
      have lp3 := lp2
      obtain ⟨⟨cl', sp', spc'⟩, z2, z3, z4, z5⟩ := lp3
      obtain ⟨P4, j1, j2, j3⟩ := kJ7 (E := E) (z := zb + 3 + (c + 1)) (a := a') (T := T') (P := P') (by omega) (z5 _ (Nat.le_refl _))
      have s4 : fnd P4 zb = some (.inr (5, [.ref (zb + 1), .int (nI (c + 1)), .ref (zb + 2)])) := (j3 zb (by omega)).trans sp'.1
      rw [k0, if_pos (show nI 0 = 0 from rfl), chk_t ⟨show mkok P' zb (3 + c + 1) = true from mk2, by omega, by omega⟩, r5, show zb + (3 + c + 1) = zb + 3 + (c + 1) by omega, j1, bs, pobj_o s4, bs, chk_t (by exact (show 2 < 3 by decide)), stp_d, chk_t ⟨by omega, by omega⟩, nS, if_pos (show (if (false = true) then (1 : Int32) else 0) = 0 by decide)]
      refine Or.inl ⟨T', τ', _, s', a', b', pa', c + 1, A', f', g', w', rfl, rfl, x3, x4, k0, by omega, by omega, ?_, ⟨cl', ?_, spc'⟩, ?_, fun i hi => ?_, fun x hx => ?_⟩
      · rw [fnd_set, if_pos rfl, s4]; rfl
      · rw [fnd_set, if_neg (by omega), j3 _ (by omega)]; exact sp'.2
      · rw [fnd_set, if_neg (by omega), j2, rc_A x3]
      · obtain ⟨fs', i1, i2⟩ := z3 i hi
        exact ⟨fs', by rw [fnd_set, if_neg (by omega), j3 _ (by omega)]; exact i1, i2⟩
      · rw [fnd_set, if_neg (by omega), j3 _ (by omega)]; exact z4 x hx
    · rw [if_neg (show ¬ nI (kdT t n s') = 0 from fun q => k0 ((kd_i 0 (by decide)).mp q)), chk_t ⟨by omega, by omega⟩, rc_sg 59 (x := 59) rfl ht (by decide) x3, bs]
      cases sg : isS t n s' 59 with
      | false =>
        obtain ⟨T1, c1, c2⟩ := rc_fail x3
        obtain ⟨τ2, g1, g2⟩ := ef2 (F := F) x4 k0
        rw [if_pos (show (if (false = true) then (1 : Int32) else 0) = 0 by decide), if_pos (show (if (false = true) then (1 : Int32) else 0) = 0 by decide), chk_t ⟨by omega, by omega⟩, c1, bs, chk_t ⟨by omega, by omega⟩]
        exact Or.inr ⟨s', T1, τ', P', by omega, rfl, rfl, ⟨_, _, _, _, _, c2⟩, ⟨τ2, _, _, _, _, _, _, _, g1, g2⟩, lp2.2.2.2.1⟩
      | true =>
        obtain ⟨T1, c1, c2⟩ := rc_adv hF ht x3
        obtain ⟨τ1, d1, d2⟩ := rw_next hF ht x4
        rw [if_neg (show ¬ (if (true = true) then (1 : Int32) else 0) = 0 by decide), if_neg (show ¬ (if (true = true) then (1 : Int32) else 0) = 0 by decide), chk_t ⟨by omega, by omega⟩, c1, bs, d1, bs, ← nI_succ]
        have ih := readLoop (CL := CL) hF ht hlp mv hcl h12 r (c + 1) fC fM _ _ _ _ _ _ _ _ T1 τ1 P' (by omega) (by omega) (by omega) c2 d2 x7 lp2
        rw [show 3 + (c + 1) = 3 + c + 1 by omega, show 15 + 6 * (c + 1) = 15 + 6 * c + 6 by omega] at ih
        exact ih
