theorem rw_ma9 {σ τ : MS} {I0 w : Nat → Int32} {t : Nat → Nat} {n s b pa : Nat} {fl : Option Nat} {f g : Nat → Int32} (h : RW (mF σ 49 w) I0 t n s b pa fl f g τ) : ma τ 49 = w ∧ ma τ 24 = f ∧ ma τ 25 = g := by
  obtain ⟨I, p, q, rfl, -⟩ := h
  exact ⟨rfl, rfl, rfl⟩
/-- the class before a run -/
theorem bgC {F : Nat} {E : Nat → ClassId} {P : va_W} {S : CS} {σ : MS} {L C H W : Nat} (hF : 1000 ≤ F) (hB : RelB E S P σ L C H W) : ∃ S0, (∀ (K : CS → Option (Int32 × CS × va_W)), ((C_7_become F E P S 2 1).bind fun y15 => (C_1_become y15.2 8 7).bind fun y16 => stc (cA y16.2 0 12 1 (0 : Int32)) fun S17 => stc (cA S17 0 12 2 (-1 : Int32)) K) = K S0) ∧ BG E P L C H W S0 (bgM σ) (mi σ 8) ∧ OI E P L C H W S0 (bgM σ) S0 (bgM σ) 0 := by
  obtain ⟨T, b1, b2, b3, b4⟩ := qc_become (F := F) (E := E) (P := P) (S := S) (o0 := 2) (o1 := 1) hF (by decide) hB.1 hB.2.2.1.2
  have o0 := b4.1 0 (by decide)
  have o1 := b4.1 1 (by decide)
  have o3 := b4.1 3 (by decide)
  have o7 := b4.1 7 (by decide)
  have o9 := b4.1 9 (by decide)
  have o10 := b4.1 10 (by decide)
  have kc : KC S (cA (cA (cI (cF T 8 0 (va_cpy (ca T 7 0) (ca T 8 0) 0 0 320)) 8 2 (ci T 7 2)) 0 12 1 (0 : Int32)) 0 12 2 (-1 : Int32)) := by
    refine ⟨⟨?_, ?_, ?_, ?_, ?_⟩, ⟨?_, ?_, ?_⟩, ⟨?_, ?_⟩, ⟨?_, ?_⟩, ⟨?_, ?_, ?_, ?_⟩, ?_⟩
    · show ci T 0 15 = _
      rw [o0.1]
    · show ci T 0 16 = _
      rw [o0.1]
    · show ci T 0 17 = _
      rw [o0.1]
    · show ca T 0 13 = _
      rw [o0.2.1]
    · show cq T 0 = _
      rw [o0.2.2]
    · show ci T 1 = _
      rw [o1.1]
    · show ca T 1 = _
      rw [o1.2.1]
    · show cq T 1 = _
      rw [o1.2.2]
    · show ca T 7 0 = _
      rw [o7.2.1]
    · show ci T 7 2 = _
      rw [o7.1]
    · show ci T 10 1 = _
      rw [o10.1]
    · show ca T 10 0 = _
      rw [o10.2.1]
    · show ci T 3 5 = _
      rw [o3.1]
    · show ci T 3 9 = _
      rw [o3.1]
    · show ca T 3 7 = _
      rw [o3.2.1]
    · show ca T 3 4 = _
      rw [o3.2.1]
    · show ci T 9 10 = _
      rw [o9.1]
  have km : KM σ (bgM σ) := by
    refine ⟨⟨rfl, rfl, rfl, rfl, fun j hj => ?_, rfl, rfl, rfl⟩, ⟨rfl, rfl, rfl, rfl, rfl, rfl, rfl, rfl, rfl⟩, rfl, rfl, rfl, rfl⟩
    show kpt (ma σ 3) 17 (ma σ 6) 21 j = ma σ 6 j
    unfold kpt; rw [if_neg (by omega)]
  have rb := RelB_KC (RelB_KM hB km) kc
  refine ⟨_, fun K => by rw [b1, bs, qc_logBecome, bs, stc_d, stc_d], ⟨rb, b2, fun w hw => ?_, fun j hj => ?_, rfl, fun j hj => ?_, fun j hj => ?_, fun j hj => ?_, rfl⟩, rb, KO1.rf, KO2.rf, ?_, rfl, ?_, Or.inl rfl⟩
  · show cq T 2 w = cq T 1 w
    rw [b3 w hw, o1.2.2]
  · show va_cpy (ca T 7 0) (ca T 8 0) 0 0 320 j = ca T 7 0 j
    rw [pk_cpy_in (by omega) (by omega), show 0 + (j - 0) = j by omega]
  · show kpt (ma σ 3) 17 (ma σ 6) 21 (357 + j) = ma σ 3 (5 + j)
    unfold kpt; rw [if_pos (by omega), show 5 + (357 + j - 21 * 17) = 5 + j by omega]
  · show cpf (ma σ 9) (kpt (ma σ 3) 17 (ma σ 6) 21) 336 j = kpt (ma σ 3) 17 (ma σ 6) 21 j
    exact cpf_lt hj
  · show cpf (ma σ 10) (ma σ 7) 16 j = ma σ 7 j
    exact cpf_lt hj
  · show upd (upd (ca T 0 12) 1 0) 2 (-1) 1 = nI 0
    rw [pk_un (by decide), pk_us]; rfl
  · show upd (upd (ca T 0 12) 1 0) 2 (-1) 2 = -1
    rw [pk_us]
theorem pa_11 {F : Nat} {E : Nat → ClassId} (hF : 1000 ≤ F) : ag_11 F E (Rel E) := fun S P σ z h hz => by
  have hh := h
  obtain ⟨L, C, H, W, -, -, -, -, -, tp, -, ⟨k20, -, ⟨b0, b1, b2, b3, b4, b5, b6⟩, -, ⟨c0, c1, c2, c3⟩⟩, -⟩ := hh
  obtain ⟨n, t, hn, tx, ty, ht, tf⟩ := tapeT tp
  have tpc : TPc S t n := ⟨hn, tx, fun j hj => (tf j hj).1⟩
  have tpm : TPm (mI (mI σ 0 0) 52 (-1)) (mi (mI (mI σ 0 0) 52 (-1))) t n := ⟨hn, ty, fun j hj => (tf j hj).2⟩
  obtain ⟨T0, s1, s2⟩ := rcStart (F := F) (x1 := 0) hF ht tpc
  obtain ⟨τ0, s3, s4⟩ := rwStart (F := F) (c := 49) (x1 := 1) hF ht (Or.inr rfl) tpm
  have hn0 : ∀ b, z ≤ b → fnd P b = none := fun b hb => by
    cases e : fnd P b with
    | none => rfl
    | some v => have := fnd_lt hz (b := b) (by rw [e]; intro q; cases q); omega
  obtain ⟨P5, s5, s6⟩ := k5i (CL := CLo) (E := E) (T := T0) (A := ca S 9 1) (f := ma (mI (mI σ 0 0) 52 (-1)) 24) (g := ma (mI (mI σ 0 0) 52 (-1)) 25) (w := ma (mI (mI σ 0 0) 52 (-1)) 49) (a := 0) (b := 0) hn0
  have hb32 : ∀ m, m < 7 → mb (mI (mI σ 0 0) 52 (-1)) 32 m = lN (wdH 3 m) := fun m hm => by
    rcases (by omega : m = 0 ∨ m = 1 ∨ m = 2 ∨ m = 3 ∨ m = 4 ∨ m = 5 ∨ m = 6) with rfl | rfl | rfl | rfl | rfl | rfl | rfl
    · exact b0
    · exact b1
    · exact b2
    · exact b3
    · exact b4
    · exact b5
    · exact b6
  have hb48 : ∀ m, m < 4 → mb (mI (mI σ 0 0) 52 (-1)) 48 m = lN (wdH 1 m) := fun m hm => by
    rcases (by omega : m = 0 ∨ m = 1 ∨ m = 2 ∨ m = 3) with rfl | rfl | rfl | rfl
    · exact c0
    · exact c1
    · exact c2
    · exact c3
  have eR : K_3_read F E (z + 0) S P 0 = K_3_read_L44 F E z z F T0 P5 3 15 (nI 0) := by
    unfold K_3_read
    rw [chk_t (Or.inl rfl)]
    simp only [stc_d]
    rw [s1, bs, chk_t ⟨rfl, by decide, by decide⟩, stp_d, chk_t ⟨mkok_f (b := z) (by rw [fnd_app, hn0 z (Nat.le_refl _)]; exact if_pos rfl) rfl, by decide, by decide⟩]
    show ((K_5_init E (z + (0 + 1)) T0 (P ++ [(z + 0, .inr (5, [.null, .int 0, .null]))]) (z + 0)).bind _) = _
    rw [s5, bs]
    rfl
  have eM : M_orders F σ = (M_readOrder F τ0).bind fun q => M_orders_L19 F F q.2 := by
    unfold M_orders
    rw [stt_d, stt_d, s3, bs]
  unfold K_10_orders
  rw [chk_t ⟨rfl, by decide, by decide⟩, eR, eM]
  have k33 : upd (upd (mi (mI (mI σ 0 0) 52 (-1))) 20 1) 18 (-1) 20 = 1 := by rw [pk_un (by decide), pk_us]
  have h12 := ord12 (F := F) (σ := mI (mI σ 0 0) 52 (-1)) (Im := upd (upd (mi (mI (mI σ 0 0) 52 (-1))) 20 1) 18 (-1)) (t := t) (n := n) hF hb48
  rcases readLoop (col := 49) (F := F) (zb := z) (CL := CLo) (E := E) (S := S) (Ic := upd (ci S 9) 3 0) (σ := mI (mI σ 0 0) 52 (-1)) (Im := upd (upd (mi (mI (mI σ 0 0) 52 (-1))) 20 1) 18 (-1)) (P0 := P) (rd := M_readOrder F) (lp := M_orders_L19 F) (ed := M_orders_B46 F) hF ht (fun k τ => by rw [M_orders_L19]) (fun _ _ _ _ _ _ _ _ _ _ _ _ _ _ a1 a2 a3 a4 a5 a6 => CLo_mv a1 a2 a3 a4 a5 a6) (fun nc s a b pa z' A f g w T τ P' cl d1 d2 d3 d4 d5 d6 d7 => ordClause hF ht hb32 hb48 pk_us k33 d1 d2 d3 d4 d5 d6 d7) h12 12 0 F F (skP t n 0) 0 0 0 _ _ _ _ T0 τ0 P5 (by omega) (by omega) (by omega) s2 s4 (by omega) s6 with ⟨T', τ', P', s', a', b', pa', c', A', f', g', w', x1, x2, x3, x4, x5, x6, x7, x8⟩ | ⟨v, T', τ', P', v1, x1, x2, ⟨_, _, _, _, _, x3⟩, ⟨τ'', _, _, _, _, _, _, _, x4, x5⟩, x6⟩
  · obtain ⟨r1, r2, r3, r4, r5, r6, r7, r8⟩ := rc_ci x3
    have rl := rel_rd2 h x3 x4 rfl
    have rl2 := rel_pool rl (P' := P') (fun b hb => x8.2.2.2.2 b (fnd_lt hz hb))
    obtain ⟨L1, C1, H1, W1, rb⟩ := rl2
    obtain ⟨S0, e0, bg, oi⟩ := bgC (F := F) hF (show RelB E _ P' _ L1 C1 H1 W1 from rb)
    have b4' : b' ≤ 400 := by have := (rw_mi x4).2.2.2.2.2.1; omega
    obtain ⟨p1, p2, cl, p3, p4⟩ := ocx_of x8 x7 b4'
    obtain ⟨m49, m24, m25⟩ := rw_ma9 x4
    have q21 : mi τ' 21 = nI c' := by rw [(rw_mi x4).2.2.2.2.2.2, pk_us]
    have fin := ordOuter (F := F) (z := z) (ce := 0 + 17) (se := 0 + 900) (f := f') (g := g') (w := w') hF x6 (by omega) (by omega) p1 p2 p3 p4 bg m49 m24 m25 q21 c' 0 F F 0 S0 _ (by omega) (by omega) (by omega) oi (by omega)
    have x1' : K_3_read_L44 F E z z F T0 P5 3 15 (nI 0) = some (some z, T', P') := x1
    rw [x1', bs, nmq_d, stc_d, stc_d, qcase_s]
    have e0' := e0 (fun S18 => K_10_orders_L71 F E z z F S18 P' (0 + 17) (0 + 900) (0 : Int32))
    have q19 : mi (mI (mI τ' 20 0) 13 0) 19 = 0 := show mi τ' 19 = 0 from rw_19 x4
    have eB : M_orders_B46 F τ' = M_orders_L140 F (mi (mI (mI τ' 20 0) 13 0) 8) F (bgM (mI (mI τ' 20 0) 13 0)) 0 := by
      unfold M_orders_B46
      rw [ef3 x4 x5, bs, q19, if_pos rfl]
      exact qm_bg hF
    obtain ⟨v, T, τ, y1, y2, y3⟩ := fin
    refine ⟨(v, T, P'), τ, ?_, ?_, y3⟩
    · rw [e0']; exact y1
    · rw [x2, eB]; exact y2
  · have rl := rel_rd2 h x3 x5 rfl
    have rl2 := rel_pool rl (P' := P') (fun b hb => x6 b (fnd_lt hz hb))
    have x1' : K_3_read_L44 F E z z F T0 P5 3 15 (nI 0) = some (none, T', P') := x1
    refine ⟨(-6, cA (cI (cI (cI T' 10 1 0) 0 16 (-1)) 0 15 (-6)) 0 13 6 (ca (cI (cI T' 10 1 0) 0 16 (-1)) 0 13 6 + 1), P'), mA (mI (mI (mI τ'' 20 0) 13 0) 1 (-6)) 2 6 (ma (mI (mI τ'' 20 0) 13 0) 2 6 + 1), ?_, ?_, rel_ref rl2 (-6) 6 (by decide)⟩
    · rw [x1', bs, nmq_d, stc_d, stc_d]
      show ((C_10_refuse (cI (cI T' 10 1 0) 0 16 (-1)) (-6 : Int32)).bind fun y5 => chk ((0 + 17) ≤ 17 ∧ (0 + 900) ≤ 900) (some (y5.1, y5.2, P'))) = _
      rw [qc_refuse _ (-6) 6 rfl (by decide), bs, chk_t (by decide)]
    · rw [x2]
      unfold M_orders_B46
      have q19 : mi (mI (mI τ'' 20 0) 13 0) 19 = 1 := show mi τ'' 19 = 1 from rw_19f x5
      rw [x4, bs, q19, if_neg (show ¬ (1 : Int32) = 0 by decide), qm_tellN _ (-6) 6 (by decide) rfl (by decide), bs]
