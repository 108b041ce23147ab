/-- the kind of an order -/
theorem kindO {F : Nat} {σ τ : MS} {I0 : Nat → Int32} {t : Nat → Nat} {n s b pa : Nat} {fl : Option Nat} {f g : Nat → Int32} (hb : ∀ m, m < 4 → mb σ 48 m = lN (wdH 1 m)) (h : RW σ I0 t n s b pa fl f g τ) : ∀ (r k fuel : Nat), k + r = 4 → r < fuel → M_readOrder_L4 F τ fuel (lsF (fun m => isW t n s (wdH 1 m)) nI k) (nI k) = (if lsF (fun m => isW t n s (wdH 1 m)) nI 4 = (-1 : Int32) then M_readOrder_B53 F τ (lsF (fun m => isW t n s (wdH 1 m)) nI 4) else if (12 : Int32) ≤ (mi τ 21) then M_readOrder_B53 F τ (lsF (fun m => isW t n s (wdH 1 m)) nI 4) else M_readOrder_B54 F τ (lsF (fun m => isW t n s (wdH 1 m)) nI 4) (1 : Int32))
  | 0, k, fuel + 1, e, _ => by
    obtain rfl : k = 4 := by omega
    rw [M_readOrder_L4, if_pos (by decide)]
  | r + 1, k, fuel + 1, e, hf => by
    have ih := kindO (F := F) hb h r (k + 1) fuel (by omega) (by omega)
    have em : mb τ 48 k = lN (wdH 1 k) := by rw [(rw_mi h).2.2.2.2.1]; exact hb k (by omega)
    rw [M_readOrder_L4, if_neg (show ¬ (4 : Int32) ≤ nI k from nI_ge (b := 4) (by omega) (by decide)), chk_in (show k < 4 by omega) (by decide), nI_clamp (by omega), em, rw_word h, bs]
    unfold M_readOrder_B27
    rw [← nI_succ]
    rw [show lsF (fun m => isW t n s (wdH 1 m)) nI (k + 1) = if isW t n s (wdH 1 k) = true then nI k else lsF (fun m => isW t n s (wdH 1 m)) nI k from rfl] at ih
    cases q : isW t n s (wdH 1 k) with
    | true => rw [q, if_pos rfl] at ih; rw [if_pos rfl, if_neg (by decide)]; exact ih
    | false => rw [q, if_neg (by decide)] at ih; rw [if_pos (by decide)]; exact ih
theorem zoL {F nc : Nat} {x1 : Int32} {σ : MS} {I0 : Nat → Int32} {t : Nat → Nat} {n s b pa : Nat} {fl : Option Nat} {f g : Nat → Int32} (hn : nc < 12) : ∀ (r k fuel : Nat) (w : Nat → Int32) (τ : MS), k + r = 8 → r < fuel → RW (mF σ 49 w) I0 t n s b pa fl f g τ → (∀ j, 8 * nc ≤ j → j < 8 * nc + k → w j = 0) → ∃ w' τ' fuel', M_readOrder_L85 F x1 (nI (8 * nc)) fuel τ (nI k) = M_readOrder_L85 F x1 (nI (8 * nc)) (fuel' + 1) τ' 8 ∧ RW (mF σ 49 w') I0 t n s b pa fl f g τ' ∧ (∀ j, j < 8 * nc ∨ 8 * nc + 8 ≤ j → w' j = w j) ∧ ∀ j, 8 * nc ≤ j → j < 8 * nc + 8 → w' j = 0
  | 0, k, fuel + 1, w, τ, e, _, h, hw => by
    obtain rfl : k = 8 := by omega
    exact ⟨w, τ, fuel, rfl, h, fun _ _ => rfl, hw⟩
  | r + 1, k, fuel + 1, w, τ, e, hf, h, hw => by
    obtain ⟨w', τ', fuel', a1, a2, a3, a4⟩ := zoL (F := F) (x1 := x1) hn r (k + 1) fuel (upd w (8 * nc + k) 0) _ (by omega) (by omega) (rd_wr (j := 8 * nc + k) (x := 0) (Or.inr rfl) h) (fun j j1 j2 => by
      by_cases z : j = 8 * nc + k
      · rw [z, pk_us]
      · rw [pk_un z]; exact hw j j1 (by omega))
    refine ⟨w', τ', fuel', ?_, a2, fun j hj => by rw [a3 j hj, pk_un (by omega)], a4⟩
    rw [M_readOrder_L85, if_neg (show ¬ (8 : Int32) ≤ nI k from nI_ge (b := 8) (by omega) (by decide)), nI_add, chk_in (show 8 * nc + k < 96 by omega) (by decide), nI_clamp (by omega), stt_d, ← nI_succ]
    exact a1
theorem wl1 : ∀ m, m < 4 → 3 ≤ wdL 1 m := by decide +kernel
theorem ordClause {F zs z nc : Nat} {E : Nat → ClassId} {S : CS} {Ic : Nat → Int32} {σ : MS} {Im : Nat → Int32} {t : Nat → Nat} {n s a b pa : Nat} {A f g w : Nat → Int32} {T : CS} {τ : MS} {P : va_W} {cl : Nat → Option Nat} (hF : 1000 ≤ F) (ht : ∀ i, t i < 256) (hb32 : ∀ m, m < 7 → mb σ 32 m = lN (wdH 3 m)) (hb48 : ∀ m, m < 4 → mb σ 48 m = lN (wdH 1 m)) (h3 : Ic 3 = 0) (h20 : Im 20 = 1) (hc : RC S Ic t n s a 0 pa none A T) (hm : RW (mF σ 49 w) (upd Im 21 (nI nc)) t n s b pa none f g τ) (hpa : pa ≤ 50) (hn : nc < 12) (hz0 : fnd P z = none) (sp : SP E P zs nc cl) (hz : zs + 2 < z) : LOK 49 CLo E S Ic σ (upd Im 21 (nI (nc + 1))) t n s zs z nc cl P A f g w a b (K_3_clause F E z T P zs) (M_readOrder F τ) ∨ LFL 49 S Ic σ Im t n z P (K_3_clause F E z T P zs) (M_readOrder F τ) := by
  obtain ⟨r1, r2, r3, r4, r5, r6, r7, r8⟩ := rc_ci hc
  obtain ⟨q1, q2, q3, q4, q7, q8, q9⟩ := rw_mi hm
  rw [pk_us] at q9
  have km : M_readOrder F τ = _ := kindO (F := F) (σ := mF σ 49 w) hb48 hm 4 0 F rfl (by omega)
  have eC : K_3_clause F E z T P zs = K_3_clause_B15 F E z T P 0 0 zs 1 := by
    unfold K_3_clause
    rw [r3, h3, if_pos rfl]
  have hS : ∀ (x1 x : Int32) (w' : Nat → Int32) (br : Nat), br ≤ 8 → SumL 19 true 5 F x1 S Ic (mF σ 49 w') (upd Im 21 x) t n br (C_3_sumD F 10) := fun x1 x w' br hbr => sumOrd (σ := mF σ 49 w') hF ht hb32 h3 (by rw [pk_un (by decide)]; exact h20) 10 br hbr (by omega)
  have hT : ∀ (x : Int32) (w' : Nat → Int32), TestL 19 true 1 F S Ic (mF σ 49 w') (upd Im 21 x) t n 0 (C_3_testD F 10) := fun x w' => testD hF ht (fun br hbr => hS 1 x w' br hbr) 10 0 (by omega) (by omega)
  rw [eC, km]
  unfold K_3_clause_B15
  rw [chk_t (by decide), chk_t (by decide), rc_choice hF ht (by decide) hc, bs]
  rcases ch_ls (t := t) (n := n) (s := s) (show 1 < 10 by decide) nI with ⟨m, m1, m2, m3, m4⟩ | ⟨m3, m4, m5⟩
  rotate_left
  · rw [show wdC 1 = 4 from rfl] at m4
    obtain ⟨T1, c1, c2⟩ := rc_fail hc
    obtain ⟨τ1, d1, d2⟩ := rw_must0 (F := F) hm
    unfold M_readOrder_B53 M_readOrder_B54
    rw [m3, m4, if_pos rfl, if_pos rfl, chk_t (by decide), c1, bs, chk_t (Or.inl rfl), chk_t (by decide), d1, bs, rw_19f d2, if_neg (show ¬ (1 : Int32) = 0 by decide)]
    exact Or.inr ⟨s, T1, τ1, P, by omega, rfl, rfl, ⟨_, _, _, _, _, c2⟩, ⟨_, _, _, _, _, _, _, d2⟩, fun _ _ => rfl⟩
  have m1' : m < 4 := m1
  rw [show wdC 1 = 4 from rfl] at m4
  have nx := nx_w (show 1 < 10 by decide) m1 m2
  have wl := wl1 m m1'
  obtain ⟨T1, c1, c2⟩ := rc_adv hF ht hc
  obtain ⟨τ1, d1, d2⟩ := rw_must1 (F := F) hF ht hm
  obtain ⟨u1, u2, u3, u4, u5, u6, u7, u8⟩ := rc_ci c2
  -- the pool
  have p1 : PO P (P ++ [(z + 0, .inr (0, [.int 0, .int 0, .int 0, .int 0, .int 0, .int 0]))]) z [.int 0, .int 0, .int 0, .int 0, .int 0, .int 0] := ⟨by rw [fnd_app, show fnd P z = none from hz0]; exact if_pos rfl, fun b hb => by
    rw [fnd_app]
    cases fnd P b with
    | some x => rfl
    | none => exact if_neg hb⟩
  obtain ⟨P2, i1, i2⟩ := k0i (E := E) (z' := z + (0 + 1)) (T := T1) (x1 := nI m) (x2 := nI (2 * a)) p1
  have i1' : K_0_init E (z + (0 + 1)) T1 (P ++ [(z + 0, .inr (0, [.int 0, .int 0, .int 0, .int 0, .int 0, .int 0]))]) (z + 0) (nI m) (nI (2 * a)) = some ((), T1, P2) := i1
  -- the reference
  have d3 := rd_21 (x := nI (nc + 1)) d2
  rw [upd_upd] at d3
  obtain ⟨w2, τ2, fu, e1, e2, e3, e4⟩ := zoL (F := F) (x1 := nI m) hn 8 0 F w _ (by omega) (by omega) d3 (fun j j1 j2 => by omega)
  have g1 := rd_wr (j := 8 * nc) (x := nI m) (Or.inr rfl) e2
  have e1' : M_readOrder_L85 F (nI m) (nI (8 * nc)) F (mI τ1 21 (nI (nc + 1))) 0 = M_readOrder_L85 F (nI m) (nI (8 * nc)) (fu + 1) τ2 8 := e1
  have q21 : mi τ1 21 = nI nc := by rw [(rw_mi d2).2.2.2.2.2.2, pk_us]
  rw [m3, m4, if_neg (nI_m1 (by omega)), if_neg (nI_m1 (by omega)), chk_t (by decide), c1, bs, chk_t ⟨rfl, by decide, by decide⟩, stp_d, chk_t ⟨mkok_f p1.1 rfl, by decide, by decide⟩]
  rw [u5, i1', bs, q9, if_neg (show ¬ (12 : Int32) ≤ nI nc from nI_ge (b := 12) hn (by decide))]
  unfold M_readOrder_B54
  rw [d1, bs, rw_19 d2, if_pos rfl, q21, ← nI_succ, stt_d, show (8 : Int32) * nI nc = nI (8 * nc) from pk_mul 8 nc, e1', M_readOrder_L85, if_pos (show (8 : Int32) ≤ 8 by decide), chk_in (show 8 * nc < 96 by omega) (by decide), nI_clamp (by omega), stt_d]
  have z0 : ∀ j, 1 ≤ j → j < 8 → upd w2 (8 * nc) (nI m) (8 * nc + j) = nI 0 := fun j j1 j2 => by rw [pk_un (by omega), e4 _ (by omega) (by omega)]; rfl
  have hw : ∀ j, j < 8 * nc ∨ 8 * nc + 8 ≤ j → upd w2 (8 * nc) (nI m) j = w j := fun j hj => by rw [pk_un (by omega)]; exact e3 j hj
  show LOK 49 CLo E S Ic σ (upd Im 21 (nI (nc + 1))) t n s zs z nc cl P A f g w a b (if ci T1 9 3 = 0 then _ else _) _ ∨ LFL 49 S Ic σ Im t n z P (if ci T1 9 3 = 0 then _ else _) _
  rw [u3, h3, if_pos (show (0 : Int32) = 0 from rfl)]
  show LOK 49 CLo E S Ic σ (upd Im 21 (nI (nc + 1))) t n s zs z nc cl P A f g w a b (K_3_clause_B59 F E z T1 P2 1 6 zs (nI m) z (nI m) 3) _ ∨ LFL 49 S Ic σ Im t n z P (K_3_clause_B59 F E z T1 P2 1 6 zs (nI m) z (nI m) 3) _
  unfold K_3_clause_B59
  by_cases z2 : m = 3
  · subst z2
    rw [if_pos (show nI 3 = 3 from rfl), if_pos (show nI 3 = 3 from rfl)]
    rcases ordTo (F := F) (b0 := a) (s0 := 0) (s1 := 0) hF ht (fun w' => hS 0 _ w' 0 (by omega)) (fun w' => hT _ w') h3 c2 g1 (by omega) (by omega) hpa i2 sp hz hn m1' pk_us (z0 1 (by omega) (by omega)) (z0 2 (by omega) (by omega)) (z0 3 (by omega) (by omega)) (z0 4 (by omega) (by omega)) (Nat.le_refl _) (by omega) (by omega) (fun y => absurd rfl y) (fun _ => ⟨rfl, rfl⟩) with d | d
    · exact Or.inl (LOK_mv (by omega) (Nat.le_refl _) (Nat.le_refl _) (fun _ _ => rfl) (fun _ _ => ⟨rfl, rfl⟩) hw d)
    · exact Or.inr d
  · have ne : ¬ nI m = 3 := fun y => z2 ((nI_eq (b := 3) (by omega) (by decide)).mp y)
    have g2 := rd_wr (j := 8 * nc + 1) (x := nI b) (Or.inr rfl) g1
    rw [if_neg ne, if_neg ne, chk_t (by decide), show nI (8 * nc) + 1 = nI (8 * nc + 1) from nI_add _ 1, rsum1 (by omega) g1, ← rx_rst]
    rcases exprS (F := F) hF ht (hS 0 _ _ 0 (by omega)) c2 (rw_rst g2) (by omega) (by omega) hpa with ⟨T2, τ3, s', a', b', pa', A', f', g', φ, x1, x2, x3, x4, x5, x6, x7, x8, x9, x10, x11, x12, x13, x14⟩ | ⟨v, T2, τ3, v1, x1, x2, x3, s1, b1, l1, br1, pa1, f1, g1', x4⟩
    · have aa := x10.1
      have bb := x11.1
      have g3 := rd_wr (j := 8 * nc + 1 + 1) (x := nI b') (Or.inr rfl) (rm_w x4)
      rw [x1, bs, if_neg (show ¬ (1 : Int32) = 0 by decide), x2, bs, rsum2 (by omega) (rm_w x4), bs]
      have wv : ∀ (x y : Int32) (j : Nat), j ≠ 8 * nc + 1 → j ≠ 8 * nc + 2 → upd (upd (upd w2 (8 * nc) (nI m)) (8 * nc + 1) x) (8 * nc + 1 + 1) y j = upd w2 (8 * nc) (nI m) j := fun x y j h1 h2 => by rw [pk_un h2, pk_un h1]
      rcases ordTo (F := F) (b0 := a) (s0 := b) (s1 := b') hF ht (fun w' => hS 0 _ w' 0 (by omega)) (fun w' => hT _ w') h3 x3 g3 (by omega) (by omega) x9 i2 sp hz hn m1' ((wv _ _ _ (by omega) (by omega)).trans pk_us) (by rw [pk_un (by omega), pk_us]) pk_us ((wv _ _ _ (by omega) (by omega)).trans (z0 3 (by omega) (by omega))) ((wv _ _ _ (by omega) (by omega)).trans (z0 4 (by omega) (by omega))) (by omega) (by omega) (Nat.le_refl _) (fun _ => ⟨φ, x10.le (by omega), x11.le (by omega)⟩) (fun y => absurd y z2) with d | d
      · exact Or.inl (LOK_mv (by omega) (by omega) (by omega) x13 x14 (fun j hj => (wv _ _ j (by omega) (by omega)).trans (hw j hj)) d)
      · exact Or.inr d
    · have hm4 : FW σ (upd Im 21 (nI (nc + 1))) t n v (mA τ3 49 (8 * nc + 1 + 1) (nI b1)) := FW_wr ⟨_, _, _, _, _, _, rm_w x4⟩
      obtain ⟨τ4, q1, q2⟩ := o125f (F := F) (x := nI m) hn hm4
      obtain ⟨_, _, _, _, _, _, q2⟩ := q2
      rw [x1, bs, if_pos rfl, chk_t (by decide), x2, bs, rsum2 (by omega) (rm_w x4), bs, q1]
      exact Or.inr ⟨v, T2, τ4, P2, v1, rfl, rfl, x3, ⟨_, _, _, _, _, _, _, q2⟩, i2.2⟩
theorem ord12 {F : Nat} {σ : MS} {Im : Nat → Int32} {t : Nat → Nat} {n : Nat} (hF : 1000 ≤ F) (hb48 : ∀ m, m < 4 → mb σ 48 m = lN (wdH 1 m)) (s b pa : Nat) (f g w : Nat → Int32) (τ : MS) (h : RW (mF σ 49 w) (upd Im 21 (nI 12)) t n s b pa none f g τ) : ∃ τ', M_readOrder F τ = some ((), τ') ∧ RW (mF σ 49 w) (upd Im 21 (nI 12)) t n s b pa (some s) f g τ' := by
  obtain ⟨τ1, d1, d2⟩ := rw_must0 (F := F) h
  have km : M_readOrder F τ = _ := kindO (F := F) (σ := mF σ 49 w) hb48 h 4 0 F rfl (by omega)
  have e : ∀ x, M_readOrder_B53 F τ x = some ((), τ1) := fun x => by
    unfold M_readOrder_B53 M_readOrder_B54
    rw [d1, bs, rw_19f d2, if_neg (show ¬ (1 : Int32) = 0 by decide)]
  refine ⟨τ1, ?_, d2⟩
  rw [km, (rw_mi h).2.2.2.2.2.2, pk_us, e]
  split
  · rfl
  · rw [if_pos (show (12 : Int32) ≤ nI 12 by decide)]
