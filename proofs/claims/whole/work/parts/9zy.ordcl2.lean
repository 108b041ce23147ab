theorem ordTimes {F zs z nc k b0 e1 s0 s1 u0 u1 : Nat} {E : Nat → ClassId} {S : CS} {Ic : Nat → Int32} {σ : MS} {Im : Nat → Int32} {t : Nat → Nat} {n s a b pa : Nat} {A f g w : Nat → Int32} {T : CS} {τ : MS} {P0 P : va_W} {x3 x4 q : Int32} {cl : Nat → Option Nat} (hF : 1000 ≤ F) (ht : ∀ i, t i < 256) (hT : ∀ w', TestL 19 true 1 F S Ic (mF σ 49 w') (upd Im 21 q) t n 0 (C_3_testD F 10)) (h3 : Ic 3 = 0) (hc : RC S Ic t n s a 0 pa none A T) (hm : RW (mF σ 49 w) (upd Im 21 q) t n s b pa none f g τ) (ha : a + 1 ≤ s) (hb : b + 2 ≤ s) (hpa : pa ≤ 50) (ho : PO P0 P z [.int (nI k), .int (nI (2 * b0)), .int (nI (2 * e1)), .int x3, .int x4, .int 1]) (sp : SP E P0 zs nc cl) (hz : zs + 2 < z) (hn : nc < 12) (hk : k < 4) (w0 : w (8 * nc) = nI k) (w1 : w (8 * nc + 1) = nI s0) (w2 : w (8 * nc + 2) = nI s1) (w3 : w (8 * nc + 3) = nI u0) (w4 : w (8 * nc + 4) = nI u1) (hs : SmO A f g k b0 e1 a s0 s1 u0 u1 a b) : LOK 49 CLo E S Ic σ (upd Im 21 q) t n s zs z nc cl P0 A f g w a b (K_3_clause_B112 F E z T P 1 6 zs z) (M_readOrder_B155 F τ (nI (8 * nc))) ∨ LFL 49 S Ic σ Im t n z P0 (K_3_clause_B112 F E z T P 1 6 zs z) (M_readOrder_B155 F τ (nI (8 * nc))) := by
  obtain ⟨r1, r2, r3, r4, r5, r6, r7, r8⟩ := rc_ci hc
  have o1 := po_set ho (List.set [.int (nI k), .int (nI (2 * b0)), .int (nI (2 * e1)), .int x3, .int x4, .int 1] 3 (.int (nI (2 * a))))
  have m1 := rd_wr (j := 8 * nc + 7) (x := 1) (Or.inr rfl) hm
  have hw : M_isWord (mA τ 49 (8 * nc + 7) 1) 21279923 = some (if isW t n s (wdH 5 0) then 1 else 0) := rw_word (x := 21279923) m1
  have wv : ∀ (x : Int32) (j : Nat), j ≠ 8 * nc + 7 → upd w (8 * nc + 7) x j = w j := fun x j h1 => pk_un h1
  have wv2 : ∀ (x y : Int32) (j : Nat), j ≠ 8 * nc + 7 → upd (upd w (8 * nc + 7) x) (8 * nc + 7) y j = w j := fun x y j h1 => by rw [pk_un h1, pk_un h1]
  unfold K_3_clause_B112 M_readOrder_B155
  rw [pobj_o ho.1, bs, chk_t (by exact (show 3 < 6 by decide)), r5, stp_d, r3, h3, if_pos rfl, chk_t (by decide), show nI (8 * nc) + 7 = nI (8 * nc + 7) from nI_add _ 7, chk_in (show 8 * nc + 7 < 96 by omega) (by decide), nI_clamp (by omega), stt_d, rw_19 m1, if_pos rfl, hw, bs]
  rcases rc_kw hF ht (show 5 < 10 by decide) rfl hc with ⟨y1, T1, y2, y3⟩ | ⟨y1, y2⟩
  rotate_left
  · rw [y2, bs, if_pos rfl, y1, if_pos (show (if (false = true) then (1 : Int32) else 0) = 0 by decide)]
    rcases ordTest (tm := 1) hF ht hT hc m1 ha hb hpa (show PO P0 _ z [.int (nI k), .int (nI (2 * b0)), .int (nI (2 * e1)), .int (nI (2 * a)), .int x4, .int (nI 1)] from o1) sp hz hn hk (by omega) ((wv _ _ (by omega)).trans w0) ((wv _ _ (by omega)).trans w1) ((wv _ _ (by omega)).trans w2) ((wv _ _ (by omega)).trans w3) ((wv _ _ (by omega)).trans w4) pk_us hs with d | d
    · exact Or.inl (LOK_mv (Nat.le_refl _) (Nat.le_refl _) (Nat.le_refl _) (fun _ _ => rfl) (fun _ _ => ⟨rfl, rfl⟩) (fun j hj => wv _ j (by omega)) d)
    · exact Or.inr d
  have nx : s + 5 ≤ nxT t n s := nx_w (i := 5) (m := 0) (by decide) (by decide) y1
  obtain ⟨τ1, d1, d2⟩ := rw_next hF ht m1
  obtain ⟨v1, v2, v3, v4, v5, v6, v7, v8⟩ := rc_ci y3
  have hnum : C_3_isNumber T1 1 20 = _ := rc_num (lo := 1) (hi := 20) (by omega) (by omega) y3
  rw [y2, bs, if_neg (show ¬ (1 : Int32) = 0 by decide), chk_t (by decide), hnum, bs, y1, if_neg (show ¬ (if (true = true) then (1 : Int32) else 0) = 0 by decide), d1, bs]
  rcases rw_number (lo := 1) (hi := 20) hF ht (by omega) (by omega) d2 with ⟨g1, τ2, g2, g3⟩ | ⟨g1, v, τ2, g2, g3⟩
  · have g2' : M_number F τ1 1 20 = some (nI (dvT t (nxT t n s) (enT t n (nxT t n s) - nxT t n s)), τ2) := g2
    have gd := of_decide_eq_true g1
    obtain ⟨T2, e1', e2'⟩ := rc_adv hF ht y3
    have c7 : ci T1 9 7 = nI (dvT t (nxT t n s) (enT t n (nxT t n s) - nxT t n s)) := by rw [v4 gd.1, dc_v (hi := 20) (by omega) gd.2.2]
    have ge := nx_ge (t := t) v6
    have o2 := po_set o1 (List.set (List.set [.int (nI k), .int (nI (2 * b0)), .int (nI (2 * e1)), .int x3, .int x4, .int 1] 3 (.int (nI (2 * a)))) 5 (.int (nI (dvT t (nxT t n s) (enT t n (nxT t n s) - nxT t n s)))))
    rw [g1, if_neg (show ¬ (if (true = true) then (1 : Int32) else 0) = 0 by decide), pobj_o o1.1, bs, chk_t (by exact (show 5 < 6 by decide)), c7, stp_d, chk_t (by decide), e1', bs, g2', bs, chk_in (show 8 * nc + 7 < 96 by omega) (by decide), stt_d]
    rcases ordTest (tm := dvT t (nxT t n s) (enT t n (nxT t n s) - nxT t n s)) hF ht hT e2' (rd_wr (j := 8 * nc + 7) (x := nI (dvT t (nxT t n s) (enT t n (nxT t n s) - nxT t n s))) (Or.inr rfl) g3) (by omega) (by omega) hpa (show PO P0 _ z [.int (nI k), .int (nI (2 * b0)), .int (nI (2 * e1)), .int (nI (2 * a)), .int x4, .int (nI (dvT t (nxT t n s) (enT t n (nxT t n s) - nxT t n s)))] from o2) sp hz hn hk gd.2.2 ((wv2 _ _ _ (by omega)).trans w0) ((wv2 _ _ _ (by omega)).trans w1) ((wv2 _ _ _ (by omega)).trans w2) ((wv2 _ _ _ (by omega)).trans w3) ((wv2 _ _ _ (by omega)).trans w4) pk_us hs with d | d
    · exact Or.inl (LOK_mv (by omega) (Nat.le_refl _) (Nat.le_refl _) (fun _ _ => rfl) (fun _ _ => ⟨rfl, rfl⟩) (fun j hj => wv2 _ _ j (by omega)) d)
    · exact Or.inr d
  · have g2' : M_number F τ1 1 20 = some (v, τ2) := g2
    obtain ⟨T2, e1', e2'⟩ := rc_fail y3
    obtain ⟨τ3, q1, q2⟩ := o203f (F := F) hn (FW_wr (j := 8 * nc + 7) (x := v) ⟨_, _, _, _, _, _, g3⟩)
    obtain ⟨_, _, _, _, _, _, q2⟩ := q2
    rw [g1, if_pos (show (if (false = true) then (1 : Int32) else 0) = 0 by decide), chk_t (by decide), e1', bs, chk_t (Or.inl rfl), chk_t (by decide), g2', bs, chk_in (show 8 * nc + 7 < 96 by omega) (by decide), stt_d, q1]
    exact Or.inr ⟨nxT t n s, T2, τ3, _, by omega, rfl, rfl, ⟨_, _, _, _, _, e2'⟩, ⟨_, _, _, _, _, _, _, q2⟩, o1.2⟩
/-- a sum of the reference, with its places -/
theorem rsum1 {F j : Nat} {σ τ : MS} {I0 w : Nat → Int32} {t : Nat → Nat} {n s b pa : Nat} {f g : Nat → Int32} (hj : j + 1 < 96) (h : RW (mF σ 49 w) I0 t n s b pa none f g τ) : M_readSum F τ (nI j) = (M_readExpression F (mA τ 49 j (nI b)) 0).bind fun q3 => M_readSum_B22 F q3.2 (nI j) := by
  unfold M_readSum
  rw [chk_in (show j < 96 by omega) (by decide), nI_clamp (by omega), (rw_mi h).2.2.2.1, stt_d, rw_19 (rd_wr (Or.inr rfl) h), if_pos rfl]
theorem rsum2 {F j : Nat} {σ τ : MS} {I0 w : Nat → Int32} {t : Nat → Nat} {n s b pa : Nat} {fl : Option Nat} {f g : Nat → Int32} (hj : j + 1 < 96) (h : RW (mF σ 49 w) I0 t n s b pa fl f g τ) : M_readSum_B22 F τ (nI j) = some ((), mA τ 49 (j + 1) (nI b)) := by
  unfold M_readSum_B22
  rw [← nI_succ, chk_in hj (by decide), nI_clamp (by omega), (rw_mi h).2.2.2.1, stt_d]
theorem ordTo {F zs z nc k b0 s0 s1 : Nat} {E : Nat → ClassId} {S : CS} {Ic : Nat → Int32} {σ : MS} {Im : Nat → Int32} {t : Nat → Nat} {n s a b pa : Nat} {A f g w : Nat → Int32} {T : CS} {τ : MS} {P0 P : va_W} {x2 x3 x4 q : Int32} {cl : Nat → Option Nat} (hF : 1000 ≤ F) (ht : ∀ i, t i < 256) (hS : ∀ w', SumL 19 true 5 F 0 S Ic (mF σ 49 w') (upd Im 21 q) t n 0 (C_3_sumD F 10)) (hT : ∀ w', TestL 19 true 1 F S Ic (mF σ 49 w') (upd Im 21 q) t n 0 (C_3_testD F 10)) (h3 : Ic 3 = 0) (hc : RC S Ic t n s a 0 pa none A T) (hm : RW (mF σ 49 w) (upd Im 21 q) t n s b pa none f g τ) (ha : a + 1 ≤ s) (hb : b + 2 ≤ s) (hpa : pa ≤ 50) (ho : PO P0 P z [.int (nI k), .int (nI (2 * b0)), .int x2, .int x3, .int x4, .int 1]) (sp : SP E P0 zs nc cl) (hz : zs + 2 < z) (hn : nc < 12) (hk : k < 4) (w0 : w (8 * nc) = nI k) (w1 : w (8 * nc + 1) = nI s0) (w2 : w (8 * nc + 2) = nI s1) (w3 : w (8 * nc + 3) = nI 0) (w4 : w (8 * nc + 4) = nI 0) (hb0 : b0 ≤ a) (hs0 : s0 ≤ b) (hs1 : s1 ≤ b) (f1 : k ≠ 3 → ∃ φ, Seg 19 (ccd A) b0 a 50 φ ∧ Seg 19 (rcf true f g) s0 s1 50 φ) (f2 : k = 3 → b0 = a ∧ s0 = s1) : LOK 49 CLo E S Ic σ (upd Im 21 q) t n s zs z nc cl P0 A f g w a b (K_3_clause_B71 F E z T P 1 6 zs (nI k) z) (M_readOrder_B125 F τ (nI k) (nI (8 * nc))) ∨ LFL 49 S Ic σ Im t n z P0 (K_3_clause_B71 F E z T P 1 6 zs (nI k) z) (M_readOrder_B125 F τ (nI k) (nI (8 * nc))) := by
  obtain ⟨r1, r2, r3, r4, r5, r6, r7, r8⟩ := rc_ci hc
  have o1 := po_set ho (List.set [.int (nI k), .int (nI (2 * b0)), .int x2, .int x3, .int x4, .int 1] 2 (.int (nI (2 * a))))
  have o1' : PO P0 (pset P z (.inr (0, List.set [.int (nI k), .int (nI (2 * b0)), .int x2, .int x3, .int x4, .int 1] 2 (.int (nI (2 * a)))))) z [.int (nI k), .int (nI (2 * b0)), .int (nI (2 * a)), .int x3, .int x4, .int 1] := o1
  unfold K_3_clause_B71 M_readOrder_B125
  rw [pobj_o ho.1, bs, chk_t (by exact (show 2 < 6 by decide)), r5, stp_d, r3, h3, if_pos rfl]
  by_cases z2 : k = 2
  rotate_left
  · have ne : ¬ nI k = 2 := fun y => z2 ((nI_eq (b := 2) (by omega) (by decide)).mp y)
    rw [if_neg ne, if_neg ne]
    exact ordTimes hF ht hT h3 hc hm ha hb hpa o1' sp hz hn hk w0 w1 w2 w3 w4 ⟨hb0, Nat.le_refl _, Nat.le_refl _, hs0, hs1, by omega, by omega, f1, f2, fun y => absurd y z2, fun _ => ⟨rfl, rfl⟩⟩
  subst z2
  have hw : M_isWord τ 655 = some (if isW t n s (wdH 4 0) then 1 else 0) := rw_word (x := 655) hm
  rw [if_pos (show nI 2 = 2 from rfl), if_pos (show nI 2 = 2 from rfl), rw_19 hm, if_pos rfl, hw, bs, chk_t (by decide)]
  rcases rc_kw hF ht (show 4 < 10 by decide) rfl hc with ⟨y1, T1, y2, y3⟩ | ⟨y1, y2⟩
  rotate_left
  · obtain ⟨T1, c1, c2⟩ := rc_fail hc
    obtain ⟨τ1, d1, d2⟩ := rw_must0 (F := F) hm
    obtain ⟨τ2, q1, q2⟩ := o148f (F := F) hn ⟨_, _, _, _, _, _, d2⟩
    obtain ⟨_, _, _, _, _, _, q2⟩ := q2
    unfold K_3_clause_B107
    rw [y2, bs, if_pos rfl, chk_t (by decide), c1, bs, chk_t (Or.inl rfl), chk_t (by decide), y1, if_neg (show ¬ (false = true) by decide), d1, bs, q1]
    exact Or.inr ⟨s, T1, τ2, _, by omega, rfl, rfl, ⟨_, _, _, _, _, c2⟩, ⟨_, _, _, _, _, _, _, q2⟩, o1.2⟩
  have nx : s + 2 ≤ nxT t n s := nx_w (i := 4) (m := 0) (by decide) (by decide) y1
  obtain ⟨τ1, d1, d2⟩ := rw_must1 (F := F) hF ht hm
  have m1 := rd_wr (j := 8 * nc + 3) (x := nI b) (Or.inr rfl) d2
  unfold M_readOrder_B148
  rw [y2, bs, if_neg (show ¬ (1 : Int32) = 0 by decide), chk_t (by decide), y1, if_pos rfl, d1, bs, show nI (8 * nc) + 3 = nI (8 * nc + 3) from nI_add _ 3, rsum1 (by omega) d2, ← rx_rst]
  rcases exprS (F := F) hF ht (hS _) y3 (rw_rst m1) (by omega) (by omega) hpa with ⟨T2, τ3, s', a', b', pa', A', f', g', φ, x1, x2, x3', x4', x5, x6, x7, x8, x9, x10, x11, x12, x13, x14⟩ | ⟨v, T2, τ3, v1, x1, x2, x3', s1', b1, l1, br1, pa1, f1', g1', x4'⟩
  · have aa := x10.1
    have bb := x11.1
    have hm4 := rd_wr (j := 8 * nc + 3 + 1) (x := nI b') (Or.inr rfl) (rm_w x4')
    rw [x1, bs, if_neg (show ¬ (1 : Int32) = 0 by decide), x2, bs, rsum2 (by omega) (rm_w x4'), bs]
    have wv : ∀ (x y : Int32) (j : Nat), j ≠ 8 * nc + 3 → j ≠ 8 * nc + 4 → upd (upd w (8 * nc + 3) x) (8 * nc + 3 + 1) y j = w j := fun x y j h1 h2 => by rw [pk_un h2, pk_un h1]
    have r : ∀ k, k < b → rcf true f g k = rcf true f' g' k := fun k hk => (rcf_c (x14 k hk).1 (x14 k hk).2).symm
    have f1'' : 2 ≠ 3 → ∃ φ, Seg 19 (ccd A') b0 a 50 φ ∧ Seg 19 (rcf true f' g') s0 s1 50 φ := fun y => by
      obtain ⟨ψ, g1, g2⟩ := f1 y
      exact ⟨ψ, g1.cg (fun k _ hk => ccd_c x13 hk), g2.cg (fun k _ hk => r k (by omega))⟩
    rcases ordTimes (s0 := s0) (s1 := s1) (u0 := b) (u1 := b') (b0 := b0) (e1 := a) hF ht hT h3 x3' hm4 (by omega) (by omega) x9 o1' sp hz hn hk ((wv _ _ _ (by omega) (by omega)).trans w0) ((wv _ _ _ (by omega) (by omega)).trans w1) ((wv _ _ _ (by omega) (by omega)).trans w2) (by rw [pk_un (by omega), pk_us]) pk_us ⟨hb0, by omega, Nat.le_refl _, by omega, by omega, by omega, Nat.le_refl _, f1'', fun y => absurd y (by decide), fun _ => ⟨φ, x10.le (by omega), x11.le (by omega)⟩, fun y => absurd rfl y⟩ with d | d
    · exact Or.inl (LOK_mv (by omega) (by omega) (by omega) x13 x14 (fun j hj => wv _ _ j (by omega) (by omega)) d)
    · exact Or.inr d
  · have hm4 : FW σ (upd Im 21 q) t n v (mA τ3 49 (8 * nc + 3 + 1) (nI b1)) := FW_wr ⟨_, _, _, _, _, _, rm_w x4'⟩
    obtain ⟨τ4, q1, q2⟩ := o155f (F := F) hn hm4
    obtain ⟨_, _, _, _, _, _, q2⟩ := q2
    obtain ⟨_, _, _, _, _, x3'⟩ := x3'
    unfold K_3_clause_B107
    rw [x1, bs, if_pos rfl, chk_t (by decide), rc_fail2 v1 x3', bs, chk_t (Or.inl rfl), chk_t (by decide), x2, bs, rsum2 (by omega) (rm_w x4'), bs, q1]
    exact Or.inr ⟨v, T2, τ4, _, v1, rfl, rfl, ⟨_, _, _, _, _, x3'⟩, ⟨_, _, _, _, _, _, _, q2⟩, o1.2⟩
