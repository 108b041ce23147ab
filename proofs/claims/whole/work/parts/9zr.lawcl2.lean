/-- the kind of a clause -/
theorem kindW {F : Nat} {σ τ : MS} {I0 : Nat → Int32} {t : Nat → Nat} {n s b pa : Nat} {fl : Option Nat} {f g : Nat → Int32} (hb : ∀ m, m < 3 → mb σ 33 m = lN (wdH 0 m)) (h : RW σ I0 t n s b pa fl f g τ) : ∀ (r k fuel : Nat), k + r = 3 → r < fuel → M_readLaw_L4 F τ fuel (lsF (fun m => isW t n s (wdH 0 m)) nI k) (nI k) = (if lsF (fun m => isW t n s (wdH 0 m)) nI 3 = (-1 : Int32) then M_readLaw_B53 F τ (lsF (fun m => isW t n s (wdH 0 m)) nI 3) else if (12 : Int32) ≤ (mi τ 21) then M_readLaw_B53 F τ (lsF (fun m => isW t n s (wdH 0 m)) nI 3) else M_readLaw_B54 F τ (lsF (fun m => isW t n s (wdH 0 m)) nI 3) (1 : Int32))
  | 0, k, fuel + 1, e, _ => by
    obtain rfl : k = 3 := by omega
    rw [M_readLaw_L4, if_pos (by decide)]
  | r + 1, k, fuel + 1, e, hf => by
    have ih := kindW (F := F) hb h r (k + 1) fuel (by omega) (by omega)
    have em : mb τ 33 k = lN (wdH 0 k) := by rw [(rw_mi h).2.2.2.2.1]; exact hb k (by omega)
    rw [M_readLaw_L4, if_neg (show ¬ (3 : Int32) ≤ nI k from nI_ge (b := 3) (by omega) (by decide)), chk_in (show k < 3 by omega) (by decide), nI_clamp (by omega), em, rw_word h, bs]
    unfold M_readLaw_B27
    rw [← nI_succ]
    rw [show lsF (fun m => isW t n s (wdH 0 m)) nI (k + 1) = if isW t n s (wdH 0 k) = true then nI k else lsF (fun m => isW t n s (wdH 0 m)) nI k from rfl] at ih
    cases q : isW t n s (wdH 0 k) with
    | true => rw [q, if_pos rfl] at ih; rw [if_pos rfl, if_neg (by decide)]; exact ih
    | false => rw [q, if_neg (by decide)] at ih; rw [if_pos (by decide)]; exact ih
theorem zrL {F nc : Nat} {x1 : Int32} {σ : MS} {I0 : Nat → Int32} {t : Nat → Nat} {n s b pa : Nat} {fl : Option Nat} {f g : Nat → Int32} (hn : nc < 12) : ∀ (r k fuel : Nat) (w : Nat → Int32) (τ : MS), k + r = 8 → r < fuel → RW (mF σ 22 w) I0 t n s b pa fl f g τ → (∀ j, 8 * nc ≤ j → j < 8 * nc + k → w j = 0) → ∃ w' τ' fuel', M_readLaw_L75 F x1 (nI (8 * nc)) fuel τ (nI k) = M_readLaw_L75 F x1 (nI (8 * nc)) (fuel' + 1) τ' 8 ∧ RW (mF σ 22 w') I0 t n s b pa fl f g τ' ∧ (∀ j, j < 8 * nc ∨ 8 * nc + 8 ≤ j → w' j = w j) ∧ ∀ j, 8 * nc ≤ j → j < 8 * nc + 8 → w' j = 0
  | 0, k, fuel + 1, w, τ, e, _, h, hw => by
    obtain rfl : k = 8 := by omega
    exact ⟨w, τ, fuel, rfl, h, fun _ _ => rfl, hw⟩
  | r + 1, k, fuel + 1, w, τ, e, hf, h, hw => by
    obtain ⟨w', τ', fuel', a1, a2, a3, a4⟩ := zrL (F := F) (x1 := x1) hn r (k + 1) fuel (upd w (8 * nc + k) 0) _ (by omega) (by omega) (rd_wr (j := 8 * nc + k) (x := 0) (Or.inl rfl) h) (fun j j1 j2 => by
      by_cases z : j = 8 * nc + k
      · rw [z, pk_us]
      · rw [pk_un z]; exact hw j j1 (by omega))
    refine ⟨w', τ', fuel', ?_, a2, fun j hj => by rw [a3 j hj, pk_un (by omega)], a4⟩
    rw [M_readLaw_L75, if_neg (show ¬ (8 : Int32) ≤ nI k from nI_ge (b := 8) (by omega) (by decide)), nI_add, chk_in (show 8 * nc + k < 96 by omega) (by decide), nI_clamp (by omega), stt_d, ← nI_succ]
    exact a1
theorem wl0 : ∀ m, m < 3 → 4 ≤ wdL 0 m := by decide +kernel
theorem lawClause {F zs z nc : Nat} {E : Nat → ClassId} {S : CS} {Ic : Nat → Int32} {σ : MS} {Im : Nat → Int32} {t : Nat → Nat} {n s a b pa : Nat} {A f g w : Nat → Int32} {T : CS} {τ : MS} {P : va_W} {cl : Nat → Option Nat} (hF : 1000 ≤ F) (ht : ∀ i, t i < 256) (hb31 : ∀ m, m < 9 → mb σ 31 m = lN (wdH 2 m)) (hb33 : ∀ m, m < 3 → mb σ 33 m = lN (wdH 0 m)) (h3 : Ic 3 = 1) (h20 : Im 20 = 0) (hc : RC S Ic t n s a 0 pa none A T) (hm : RW (mF σ 22 w) (upd Im 21 (nI nc)) t n s b pa none f g τ) (hpa : pa ≤ 50) (hn : nc < 12) (hz0 : fnd P z = none) (sp : SP E P zs nc cl) (hz : zs + 2 < z) : LOK 22 CLa E S Ic σ (upd Im 21 (nI (nc + 1))) t n s zs z nc cl P A f g w a b (K_3_clause F E z T P zs) (M_readLaw F τ) ∨ LFL 22 S Ic σ Im t n z P (K_3_clause F E z T P zs) (M_readLaw F τ) := by
  obtain ⟨r1, r2, r3, r4, r5, r6, r7, r8⟩ := rc_ci hc
  obtain ⟨q1, q2, q3, q4, q7, q8, q9⟩ := rw_mi hm
  rw [pk_us] at q9
  have km : M_readLaw F τ = _ := kindW (F := F) (σ := mF σ 22 w) hb33 hm 3 0 F rfl (by omega)
  have eC : K_3_clause F E z T P zs = K_3_clause_B15 F E z T P 0 0 zs 0 := by
    unfold K_3_clause
    rw [r3, h3, if_neg (show ¬ (1 : Int32) = 0 by decide)]
  have hS : ∀ (x1 x : Int32) (w' : Nat → Int32) (br : Nat), br ≤ 8 → SumL 9 false 5 F x1 S Ic (mF σ 22 w') (upd Im 21 x) t n br (C_3_sumD F 10) := fun x1 x w' br hbr => sumLaw (σ := mF σ 22 w') hF ht hb31 h3 (by rw [pk_un (by decide)]; exact h20) 10 br hbr (by omega)
  have hT : ∀ (x : Int32) (w' : Nat → Int32), TestL 9 false 1 F S Ic (mF σ 22 w') (upd Im 21 x) t n 0 (C_3_testD F 10) := fun x w' => testD hF ht (fun br hbr => hS 1 x w' br hbr) 10 0 (by omega) (by omega)
  rw [eC, km]
  unfold K_3_clause_B15
  rw [chk_t (by decide), chk_t (by decide), rc_choice hF ht (by decide) hc, bs]
  rcases ch_ls (t := t) (n := n) (s := s) (show 0 < 10 by decide) nI with ⟨m, m1, m2, m3, m4⟩ | ⟨m3, m4, m5⟩
  rotate_left
  · rw [show wdC 0 = 3 from rfl] at m4
    obtain ⟨T1, c1, c2⟩ := rc_fail hc
    obtain ⟨τ1, d1, d2⟩ := rw_must0 (F := F) hm
    unfold M_readLaw_B53 M_readLaw_B54
    rw [m3, m4, if_pos rfl, if_pos rfl, chk_t (by decide), c1, bs, chk_t (Or.inl rfl), chk_t (by decide), d1, bs, rw_19f d2, if_neg (show ¬ (1 : Int32) = 0 by decide)]
    exact Or.inr ⟨s, T1, τ1, P, by omega, rfl, rfl, ⟨_, _, _, _, _, c2⟩, ⟨_, _, _, _, _, _, _, d2⟩, fun _ _ => rfl⟩
  have m1' : m < 3 := m1
  rw [show wdC 0 = 3 from rfl] at m4
  have nx := nx_w (show 0 < 10 by decide) m1 m2
  have wl := wl0 m m1'
  obtain ⟨T1, c1, c2⟩ := rc_adv hF ht hc
  obtain ⟨τ1, d1, d2⟩ := rw_must1 (F := F) hF ht hm
  obtain ⟨u1, u2, u3, u4, u5, u6, u7, u8⟩ := rc_ci c2
  -- the pool
  have p1 : PO P (P ++ [(z + 0, .inr (0, [.int 0, .int 0, .int 0, .int 0, .int 0, .int 0]))]) z [.int 0, .int 0, .int 0, .int 0, .int 0, .int 0] := ⟨by rw [fnd_app, show fnd P z = none from hz0]; exact if_pos rfl, fun b hb => by
    rw [fnd_app]
    cases fnd P b with
    | some x => rfl
    | none => exact if_neg hb⟩
  obtain ⟨P2, i1, i2⟩ := k0i (E := E) (z' := z + (0 + 1)) (T := T1) (x1 := nI m) (x2 := nI (2 * a)) p1
  have i1' : K_0_init E (z + (0 + 1)) T1 (P ++ [(z + 0, .inr (0, [.int 0, .int 0, .int 0, .int 0, .int 0, .int 0]))]) (z + 0) (nI m) (nI (2 * a)) = some ((), T1, P2) := i1
  -- the reference
  obtain ⟨w2, τ2, fu, e1, e2, e3, e4⟩ := zrL (F := F) (x1 := nI m) hn 8 0 F w τ1 (by omega) (by omega) d2 (fun j j1 j2 => by omega)
  have g1 := rd_wr (j := 8 * nc) (x := nI m) (Or.inl rfl) e2
  have g2 := rd_21 (x := nI (nc + 1)) g1
  rw [upd_upd] at g2
  have g3 := rd_wr (j := 8 * nc + 3) (x := nI b) (Or.inl rfl) g2
  have q21 : mi (mA τ2 22 (8 * nc) (nI m)) 21 = nI nc := by rw [(rw_mi g1).2.2.2.2.2.2, pk_us]
  have q23 : mi (mI (mA τ2 22 (8 * nc) (nI m)) 21 (nI (nc + 1))) 23 = nI b := (rw_mi g2).2.2.2.1
  have e1' : M_readLaw_L75 F (nI m) (nI (8 * nc)) F τ1 0 = M_readLaw_L75 F (nI m) (nI (8 * nc)) (fu + 1) τ2 8 := e1
  rw [m3, m4, if_neg (nI_m1 (by omega)), if_neg (nI_m1 (by omega)), chk_t (by decide), c1, bs, chk_t ⟨rfl, by decide, by decide⟩, stp_d, chk_t ⟨mkok_f p1.1 rfl, by decide, by decide⟩]
  rw [u5, i1', bs, q9, if_neg (show ¬ (12 : Int32) ≤ nI nc from nI_ge (b := 12) hn (by decide))]
  unfold M_readLaw_B54
  rw [d1, bs, rw_19 d2, if_pos rfl, (rw_mi d2).2.2.2.2.2.2, pk_us, show (8 : Int32) * nI nc = nI (8 * nc) from pk_mul 8 nc, e1', M_readLaw_L75, if_pos (show (8 : Int32) ≤ 8 by decide), chk_in (show 8 * nc < 96 by omega) (by decide), nI_clamp (by omega), stt_d, q21, ← nI_succ, stt_d, show nI (8 * nc) + 3 = nI (8 * nc + 3) from nI_add _ 3, chk_in (show 8 * nc + 3 < 96 by omega) (by decide), nI_clamp (by omega), stt_d, q23]
  have hw : ∀ j, j < 8 * nc ∨ 8 * nc + 8 ≤ j → upd (upd w2 (8 * nc) (nI m)) (8 * nc + 3) (nI b) j = w j := fun j hj => by rw [pk_un (by omega), pk_un (by omega)]; exact e3 j hj
  have hw0 : upd (upd w2 (8 * nc) (nI m)) (8 * nc + 3) (nI b) (8 * nc) = nI m := by rw [pk_un (by omega), pk_us]
  show LOK 22 CLa E S Ic σ (upd Im 21 (nI (nc + 1))) t n s zs z nc cl P A f g w a b (if ci T1 9 3 = 0 then _ else _) _ ∨ LFL 22 S Ic σ Im t n z P (if ci T1 9 3 = 0 then _ else _) _
  rw [u3, h3, if_neg (show ¬ (1 : Int32) = 0 by decide)]
  show LOK 22 CLa E S Ic σ (upd Im 21 (nI (nc + 1))) t n s zs z nc cl P A f g w a b (K_3_clause_B59 F E z T1 P2 1 6 zs (nI m) z (nI m) 2) _ ∨ LFL 22 S Ic σ Im t n z P (K_3_clause_B59 F E z T1 P2 1 6 zs (nI m) z (nI m) 2) _
  unfold K_3_clause_B59
  by_cases z2 : m = 2
  · subst z2
    rw [if_pos (show nI 2 = 2 from rfl), if_pos (show nI 2 = 2 from rfl)]
    rcases lawTail (F := F) (b0 := a) (s0 := b) hF ht (fun w' => hT _ w') h3 c2 g3 (by omega) (by omega) hpa i2 sp hz hn m1' hw0 pk_us (Nat.le_refl _) (fun q => absurd rfl q) with d | d
    · exact Or.inl (LOK_mv (by omega) (Nat.le_refl _) (Nat.le_refl _) (fun _ _ => rfl) (fun _ _ => ⟨rfl, rfl⟩) hw d)
    · exact Or.inr d
  · have ne : ¬ nI m = 2 := fun y => z2 ((nI_eq (b := 2) (by omega) (by decide)).mp y)
    rw [if_neg ne, if_neg ne, chk_t (by decide)]
    rw [← rx_rst]
    rcases exprS (F := F) hF ht (hS 0 _ _ 0 (by omega)) c2 (rw_rst g3) (by omega) (by omega) hpa with ⟨T2, τ3, s', a', b', pa', A', f', g', φ, x1, x2, x3, x4, x5, x6, x7, x8, x9, x10, x11, x12, x13, x14⟩ | ⟨v, T2, τ3, v1, x1, x2, x3, s1, b1, l1, br1, pa1, f1, g1', x4⟩
    · rw [x1, bs, if_neg (show ¬ (1 : Int32) = 0 by decide), x2, bs]
      have aa := x10.1
      have bb := x11.1
      rcases lawTail (F := F) (b0 := a) (s0 := b) hF ht (fun w' => hT _ w') h3 x3 (rm_w x4) (by omega) (by omega) x9 i2 sp hz hn m1' hw0 pk_us (by omega) (fun _ => ⟨φ, x10.le (by omega), x11.le (by omega)⟩) with d | d
      · exact Or.inl (LOK_mv (by omega) (by omega) (by omega) x13 x14 hw d)
      · exact Or.inr d
    · obtain ⟨τ4, w4, y1, y2⟩ := law135f (F := F) hn (rm_w x4)
      rw [x1, bs, if_pos rfl, chk_t (by decide), x2, bs, y1]
      exact Or.inr ⟨v, T2, τ4, P2, v1, rfl, rfl, x3, ⟨_, _, _, _, _, _, _, y2⟩, i2.2⟩
