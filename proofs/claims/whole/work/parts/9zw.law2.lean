theorem tapeT {x y : Int32} {f g : Nat → Int32} (h : TP x y f g) : ∃ (n : Nat) (t : Nat → Nat), n ≤ 400 ∧ x = nI n ∧ y = nI n ∧ (∀ i, t i < 256) ∧ ∀ j, j < 400 → f j = nI (t j) ∧ g j = nI (t j) := by
  obtain ⟨n, h1, h2, h3, h4⟩ := h
  have hb : ∀ j, j < 400 → (g j).toNatClampNeg < 256 ∧ g j = nI (g j).toNatClampNeg := fun j hj => by
    obtain ⟨-, b, b1, b2⟩ := h4 j hj
    rw [b2, nI_clamp (by omega)]
    exact ⟨b1, rfl⟩
  refine ⟨n, fun j => if j < 400 then (g j).toNatClampNeg else 0, h1, h2, h3, fun i => ?_, fun j hj => ?_⟩
  · show (if i < 400 then (g i).toNatClampNeg else 0) < 256
    by_cases z : i < 400
    · rw [if_pos z]; exact (hb i z).1
    · rw [if_neg z]; omega
  · show f j = nI (if j < 400 then (g j).toNatClampNeg else 0) ∧ g j = nI (if j < 400 then (g j).toNatClampNeg else 0)
    rw [if_pos hj, ← (hb j hj).2]
    exact ⟨(h4 j hj).1, rfl⟩
theorem rc_c1 {S T : CS} {I0 : Nat → Int32} {t : Nat → Nat} {n s a br pa : Nat} {fl : Option Nat} {A : Nat → Int32} (h : RC S I0 t n s a br pa fl A T) : ci T 1 = ci S 1 := by
  obtain ⟨I, rfl, -⟩ := h
  rfl
theorem rw_ma {σ τ : MS} {I0 w : Nat → Int32} {t : Nat → Nat} {n s b pa : Nat} {fl : Option Nat} {f g : Nat → Int32} (h : RW (mF σ 22 w) I0 t n s b pa fl f g τ) : ma τ 3 = ma σ 3 ∧ ma τ 22 = w ∧ ma τ 24 = f ∧ ma τ 25 = g := by
  obtain ⟨I, p, q, rfl, -⟩ := h
  exact ⟨rfl, rfl, rfl, rfl⟩
theorem notZ {E : Nat → ClassId} {S : CS} {P : va_W} {σ : MS} {z x : Nat} (h : Rel E S P σ) (hz : ∀ (k : Nat) (q : Nat × va_E), P[k]? = some q → q.1 < z) (hx : z ≤ x) : ¬ imZ (cq S 0) x := by
  obtain ⟨L, C, H, W, h1, h2, h3, ⟨h4, h4'⟩, -⟩ := h
  intro ⟨k, a, k1, k2, k3, k4⟩
  rcases h4 k k1 with ⟨u1, -⟩ | ⟨a', I, A, Q, L1, C1, H1, W1, u1, u2, u3, -⟩
  · rw [u1] at k2; cases k2
  · rw [u1] at k2; cases k2
    have := fnd_lt hz (FT_some (PT_FT u3))
    omega
theorem law64 {F n s b pa c W : Nat} {σ τ : MS} {I0 w : Nat → Int32} {t : Nat → Nat} {f g : Nat → Int32} (hF : 1000 ≤ F) (h : RW (mF σ 22 w) (upd I0 21 (nI c)) t n s b pa none f g τ) (hk : kdT t n s = 0) (hn : n ≤ 400) (hs : s ≤ n) (hc : c ≤ 12) (h3 : ma σ 3 3 = nI W) (hW : W < 6) : M_law_B64 F τ = some (nI W, mI (mF (mI (mI τ 20 0) 13 0) 3 (lawR (ma σ 3) W c w f g b)) 1 0) := by
  obtain ⟨q1, q2, q3, q4, q7, q8, q9⟩ := rw_mi h
  rw [pk_us] at q9
  obtain ⟨m3, m22, m24, m25⟩ := rw_ma h
  have o0 : (76 : Int32) + (900 : Int32) * nI W = nI (76 + 900 * W) := by
    rw [show (900 : Int32) * nI W = nI (900 * W) from pk_mul 900 W]; exact nI_add 76 (900 * W)
  have m3e : ma (mI (mI τ 20 0) 13 0) 3 = ma σ 3 := m3
  have q19 : mi (mI (mI τ 20 0) 13 0) 19 = 0 := show mi τ 19 = 0 from rw_19 h
  have q21 : mi (mI (mI τ 20 0) 13 0) 21 = nI c := q9
  have q23 : mi (mI (mI τ 20 0) 13 0) 23 = nI b := q4
  have q22 : ma (mI (mI τ 20 0) 13 0) 22 = w := m22
  have q24 : ma (mI (mI τ 20 0) 13 0) 24 = f := m24
  have q25 : ma (mI (mI τ 20 0) 13 0) 25 = g := m25
  unfold M_law_B64
  rw [ef3 h hk, bs, q19, if_pos rfl, m3e, h3, o0, ← nI_succ, chk_in (show 76 + 900 * W + 1 < 5476 by omega) (by decide), stt_d, nI_clamp (by omega), q21, mA_F, m3e]
  have l1 := law110 (F := F) (R := upd (ma σ 3) (76 + 900 * W + 1) (nI c)) (o := 76 + 900 * W) q22 q21 hc (by omega) (8 * c) 0 F (by omega) (by omega)
  rw [wrow_0] at l1
  have l2 := law145 (F := F) (R := wrow (upd (ma σ 3) (76 + 900 * W + 1) (nI c)) (76 + 900 * W + 2) w (8 * c)) (o := 76 + 900 * W) (W := W) q24 q25 q23 (by omega) (by unfold wrow; rw [if_neg (by omega), pk_un (by omega)]; exact h3) (by omega) (by omega) b 0 F (by omega) (by omega)
  rw [crow_0] at l2
  exact l1.trans l2
theorem law12 {F : Nat} {σ : MS} {Im : Nat → Int32} {t : Nat → Nat} {n : Nat} (hF : 1000 ≤ F) (hb33 : ∀ m, m < 3 → mb σ 33 m = lN (wdH 0 m)) (s b pa : Nat) (f g w : Nat → Int32) (τ : MS) (h : RW (mF σ 22 w) (upd Im 21 (nI 12)) t n s b pa none f g τ) : ∃ τ', M_readLaw F τ = some ((), τ') ∧ RW (mF σ 22 w) (upd Im 21 (nI 12)) t n s b pa (some s) f g τ' := by
  obtain ⟨τ1, d1, d2⟩ := rw_must0 (F := F) h
  have km : M_readLaw F τ = _ := kindW (F := F) (σ := mF σ 22 w) hb33 h 3 0 F rfl (by omega)
  have e : ∀ x, M_readLaw_B53 F τ x = some ((), τ1) := fun x => by
    unfold M_readLaw_B53 M_readLaw_B54
    rw [d1, bs, rw_19f d2, if_neg (show ¬ (1 : Int32) = 0 by decide)]
  refine ⟨τ1, ?_, d2⟩
  rw [km, (rw_mi h).2.2.2.2.2.2, pk_us, e]
  split
  · rfl
  · rw [if_pos (show (12 : Int32) ≤ nI 12 by decide)]
theorem pa_10 {F : Nat} {E : Nat → ClassId} (hF : 1000 ≤ F) : ag_10 F E (Rel E) := fun S P σ z h hz => by
  have hh := h
  obtain ⟨L, C, H, W, ⟨⟨t1, t2, t3, t4, t5⟩, -⟩, ⟨-, -, ⟨hW, f2, f3⟩, -⟩, -, -, -, tp, -, ⟨k20, ⟨b0, b1, b2, b3, b4, b5, b6, b7, b8⟩, -, ⟨c0, c1, c2⟩, -⟩, -⟩ := hh
  have e14 : ci S 1 14 = nI W := t4.trans f2
  by_cases z6 : W = 6
  · subst z6
    refine ⟨(-5, cA (cI (cI S 10 1 0) 0 15 (-5)) 0 13 5 (ca (cI S 10 1 0) 0 13 5 + 1), P), mA (mI (mI (mI σ 0 0) 13 0) 1 (-5)) 2 5 (ma (mI (mI σ 0 0) 13 0) 2 5 + 1), ?_, ?_, rel_ref (rel_tape0 (rel_0 h 0)) (-5) 5 (by decide)⟩
    · unfold K_10_law
      rw [e14, if_neg (show ¬ nI 6 < (6 : Int32) by decide), stc_d, qc_refuse _ (-5) 5 rfl (by decide), bs, chk_t (by decide)]
    · unfold M_law
      rw [stt_d, show ma (mI σ 0 0) 3 3 = nI 6 from f2, if_pos (show nI 6 = (6 : Int32) by decide), stt_d, qm_tellN _ (-5) 5 (by decide) rfl (by decide), bs]
  have hW6 : W < 6 := by omega
  obtain ⟨n, t, hn, tx, ty, ht, tf⟩ := tapeT tp
  have r0 : Rel E S P (mI σ 0 0) := rel_0 h 0
  have tpc : TPc S t n := ⟨hn, tx, fun j hj => (tf j hj).1⟩
  have tpm : TPm (mI σ 0 0) (mi (mI σ 0 0)) t n := ⟨hn, ty, fun j hj => (tf j hj).2⟩
  obtain ⟨T0, s1, s2⟩ := rcStart (F := F) (x1 := 1) hF ht tpc
  obtain ⟨τ0, s3, s4⟩ := rwStart (F := F) (c := 22) (x1 := 0) hF ht (Or.inl rfl) tpm
  have hn0 : ∀ b, z ≤ b → fnd P b = none := fun b hb => by
    cases e : fnd P b with
    | none => rfl
    | some v => have := fnd_lt hz (b := b) (by rw [e]; intro q; cases q); omega
  obtain ⟨P5, s5, s6⟩ := k5i (CL := CLa) (E := E) (T := T0) (A := ca S 9 1) (f := ma (mI σ 0 0) 24) (g := ma (mI σ 0 0) 25) (w := ma (mI σ 0 0) 22) (a := 0) (b := 0) hn0
  have hb31 : ∀ m, m < 9 → mb (mI σ 0 0) 31 m = lN (wdH 2 m) := fun m hm => by
    rcases (by omega : m = 0 ∨ m = 1 ∨ m = 2 ∨ m = 3 ∨ m = 4 ∨ m = 5 ∨ m = 6 ∨ m = 7 ∨ m = 8) with rfl | rfl | rfl | rfl | rfl | rfl | rfl | rfl | rfl
    · exact b0
    · exact b1
    · exact b2
    · exact b3
    · exact b4
    · exact b5
    · exact b6
    · exact b7
    · exact b8
  have hb33 : ∀ m, m < 3 → mb (mI σ 0 0) 33 m = lN (wdH 0 m) := fun m hm => by
    rcases (by omega : m = 0 ∨ m = 1 ∨ m = 2) with rfl | rfl | rfl
    · exact c0
    · exact c1
    · exact c2
  have eR : K_3_read F E (z + 0) S P 1 = K_3_read_L44 F E z z F T0 P5 3 15 (nI 0) := by
    unfold K_3_read
    rw [chk_t (Or.inr rfl)]
    simp only [stc_d]
    rw [s1, bs, chk_t ⟨rfl, by decide, by decide⟩, stp_d, chk_t ⟨mkok_f (b := z) (by rw [fnd_app, hn0 z (Nat.le_refl _)]; exact if_pos rfl) rfl, by decide, by decide⟩]
    show ((K_5_init E (z + (0 + 1)) T0 (P ++ [(z + 0, .inr (5, [.null, .int 0, .null]))]) (z + 0)).bind _) = _
    rw [s5, bs]
    rfl
  have eM : M_law F σ = (M_readLaw F τ0).bind fun q => M_law_L37 F F q.2 := by
    unfold M_law
    rw [stt_d, show ma (mI σ 0 0) 3 3 = nI W from f2, if_neg (show ¬ nI W = 6 from fun q => z6 ((nI_eq (b := 6) (by omega) (by decide)).mp q)), s3, bs]
  unfold K_10_law
  rw [e14, if_pos (show nI W < 6 from nI_lt (b := 6) hW6 (by decide)), chk_t ⟨rfl, by decide, by decide⟩, eR, eM]
  have k33 : upd (upd (mi (mI σ 0 0)) 20 0) 18 (-1) 20 = 0 := by rw [pk_un (by decide), pk_us]
  have h12 := law12 (F := F) (σ := mI σ 0 0) (Im := upd (upd (mi (mI σ 0 0)) 20 0) 18 (-1)) (t := t) (n := n) hF hb33
  rcases readLoop (col := 22) (F := F) (zb := z) (CL := CLa) (E := E) (S := S) (Ic := upd (ci S 9) 3 1) (σ := mI σ 0 0) (Im := upd (upd (mi (mI σ 0 0)) 20 0) 18 (-1)) (P0 := P) (rd := M_readLaw F) (lp := M_law_L37 F) (ed := M_law_B64 F) hF ht (fun k τ => by rw [M_law_L37]) (fun _ _ _ _ _ _ _ _ _ _ _ _ _ _ a1 a2 a3 a4 a5 a6 => CLa_mv a1 a2 a3 a4 a5 a6) (fun nc s a b pa z' A f g w T τ P' cl d1 d2 d3 d4 d5 d6 d7 => lawClause hF ht hb31 hb33 pk_us k33 d1 d2 d3 d4 d5 d6 d7) h12 12 0 F F (skP t n 0) 0 0 0 _ _ _ _ T0 τ0 P5 (by omega) (by omega) (by omega) s2 s4 (by omega) s6 with ⟨T', τ', P', s', a', b', pa', c', A', f', g', w', x1, x2, x3, x4, x5, x6, x7, x8⟩ | ⟨v, T', τ', P', v1, x1, x2, ⟨_, _, _, _, _, x3⟩, ⟨τ'', _, _, _, _, _, _, _, x4, x5⟩, x6⟩
  · obtain ⟨r1, r2, r3, r4, r5, r6, r7, r8⟩ := rc_ci x3
    have rl := rel_rd r0 x3 x4 (Or.inl rfl) rfl
    have m3 : ma (mI (mI τ' 20 0) 13 0) 3 = ma σ 3 := (rw_ma x4).1
    have nz : ∀ x, z ≤ x → ¬ imZ (cq (cI T' 10 1 0) 0) x := fun x hx => notZ rl hz hx
    have rl2 := rel_pool rl (P' := P') (fun b hb => x8.2.2.2.2 b (fnd_lt hz hb))
    have b4 : b' ≤ 400 := by have := (rw_mi x4).2.2.2.2.2.1; omega
    have ls := lawS_of (R := ma σ 3) (W := W) x8 x6 x7 b4 nz
    have rl3 := rel_law (R' := lawR (ma σ 3) W c' w' f' g' b') rl2 (by rw [m3]; exact f2) hW6 lawR_3 (fun j j1 j2 => by rw [m3]; exact lawR_lo j1 j2) ls
    have c1' : ci (cI T' 10 1 0) 1 14 = nI W := by
      show ci T' 1 14 = nI W
      rw [rc_c1 x3]; exact e14
    refine ⟨(nI W, cI (cI (cQ (cI T' 10 1 0) 1 W (some z)) 1 14 (nI (W + 1))) 0 15 0, P'), _, ?_, by rw [x2]; exact law64 hF x4 x5 r7 r6 x6 f2 hW6, rel_acc rl3⟩
    have x1' : K_3_read_L44 F E z z F T0 P5 3 15 (nI 0) = some (some z, T', P') := x1
    rw [x1', bs, nmq_d, stc_d]
    show chk (inb (ci (cI T' 10 1 0) 1 14) 6 = true ∧ pok P' 5 (some z) = true) (stc (cQ (cI T' 10 1 0) 1 ((ci (cI T' 10 1 0) 1 14)).toNatClampNeg (some z)) fun S6 => stc (cI S6 1 14 ((ci S6 1 14) + (1 : Int32))) fun S7 => (C_10_accept S7 ((ci S7 1 14) - (1 : Int32))).bind fun y8 => chk ((0 + 17) ≤ 17 ∧ (0 + 900) ≤ 900) (some (y8.1, y8.2, P'))) = _
    rw [c1', chk_t ⟨inb_nI hW6 (by decide), ls.2⟩, stc_d, nI_clamp (by omega), stc_d, show ci (cQ (cI T' 10 1 0) 1 W (some z)) 1 14 = nI W from c1', ← nI_succ, show ci (cI (cQ (cI T' 10 1 0) 1 W (some z)) 1 14 (nI (W + 1))) 1 14 = nI (W + 1) from (show upd (ci (cQ (cI T' 10 1 0) 1 W (some z)) 1) 14 (nI (W + 1)) 14 = nI (W + 1) from pk_us), nI_pred, qc_accept, bs, chk_t (by decide)]
  · have rl := rel_rd r0 x3 x5 (Or.inl rfl) rfl
    have rl2 := rel_pool rl (P' := P') (fun b hb => x6 b (fnd_lt hz hb))
    have x1' : K_3_read_L44 F E z z F T0 P5 3 15 (nI 0) = some (none, T', P') := x1
    refine ⟨(-6, cA (cI (cI T' 10 1 0) 0 15 (-6)) 0 13 6 (ca (cI T' 10 1 0) 0 13 6 + 1), P'), mA (mI (mI (mI τ'' 20 0) 13 0) 1 (-6)) 2 6 (ma (mI (mI τ'' 20 0) 13 0) 2 6 + 1), ?_, ?_, rel_ref rl2 (-6) 6 (by decide)⟩
    · rw [x1', bs, nmq_d, stc_d]
      show ((C_10_refuse (cI T' 10 1 0) (-6 : Int32)).bind fun y5 => chk ((0 + 17) ≤ 17 ∧ (0 + 900) ≤ 900) (some (y5.1, y5.2, P'))) = _
      rw [qc_refuse _ (-6) 6 rfl (by decide), bs, chk_t (by decide)]
    · rw [x2]
      unfold M_law_B64
      have q19 : mi (mI (mI τ'' 20 0) 13 0) 19 = 1 := show mi τ'' 19 = 1 from rw_19f x5
      rw [x4, bs, q19, if_neg (show ¬ (1 : Int32) = 0 by decide), qm_tellN _ (-6) 6 (by decide) rfl (by decide), bs]
