theorem i_eq {a b : Int32} {x : Int} (h1 : a.toInt = x) (h2 : b.toInt = x) : a = b := by rw [eq_i, h1, h2]
theorem i_brk {v : Int32} {x : Int} (h : v.toInt = x) (hs : sml x) : v ≠ -2000000000 := fun q => by
  rw [q] at h
  have : (-2000000000 : Int32).toInt = -2000000000 := by decide
  unfold sml at hs
  omega
theorem pieceC {F : Nat} {E : Nat → ClassId} {P : va_W} {S : CS} {co len i j : Nat} {code : Nat → Int32} {R : Nat → Int32} {L C : Nat} {d l : Int32} (hF : 1000 ≤ F) (hp : parE E P co = some (len, code)) (hj : 2 * j ≤ len) (hlen : len ≤ 800) (ws : ∀ k, k < 19 → ca S 0 12 k = wO R L C d l k) (va : VA R L C) (hd : sml d.toInt) (hl : sml l.toInt) (hc : (∃ φ, Seg 19 (ccd code) i j 50 φ) ∨ i = j) : ∃ h y, C_4_reckon F E P S co (nI (2 * i)) (nI (2 * j)) 0 12 19 = some (y, cF S 12 0 h) := by
  rcases hc with ⟨φ, sg⟩ | e
  · obtain ⟨h', v, a1, -⟩ := qc_reckon (w := fun k => (wO R L C d l k).toInt) (S := S) (wo := 0) (wk := 12) (wn := 19) hF hp hj hlen (by decide) (fun k hk => ⟨by rw [ws k hk], smlW va hd hl k hk⟩) (Nat.le_refl _) (by decide) (by omega) sg
    exact ⟨h', v, a1⟩
  · subst e
    obtain ⟨h', a1⟩ := qc_reck0 (F := F) (S := S) (wo := 0) (wk := 12) (wn := 19) hF hp hj hlen
    exact ⟨h', 0, a1⟩
theorem piece {F : Nat} {E : Nat → ClassId} {P : va_W} {S : CS} {σ : MS} {co len i j x s0 s1 : Nat} {code f g : Nat → Int32} {R : Nat → Int32} {L C : Nat} {d l : Int32} (hF : 1000 ≤ F) (hp : parE E P co = some (len, code)) (hj : 2 * j ≤ len) (hlen : len ≤ 800) (ws : ∀ k, k < 19 → ca S 0 12 k = wO R L C d l k) (va : VA R L C) (hd : sml d.toInt) (hl : sml l.toInt) (h53 : mi σ 53 = 0) (hx : x + 1 < 96) (w : WR σ f g R L C d l) (e0 : ma σ 49 x = nI s0) (e1 : ma σ 49 (x + 1) = nI s1) (hs : s1 ≤ 400) (hc : (∃ φ, Seg 19 (ccd code) i j 50 φ ∧ Seg 19 (rcf true f g) s0 s1 50 φ) ∨ (i = j ∧ s0 = s1)) : ∃ h y q τ, C_4_reckon F E P S co (nI (2 * i)) (nI (2 * j)) 0 12 19 = some (y, cF S 12 0 h) ∧ M_sumOf F σ (nI x) = some (q, τ) ∧ KS σ τ ∧ ((y = -2000000000 ∧ mi τ 53 = 1) ∨ (y ≠ -2000000000 ∧ mi τ 53 = 0 ∧ (y = q ∨ (i = j ∧ s0 = s1)))) := by
  rcases hc with ⟨φ, sg, sg'⟩ | ⟨e, e'⟩
  · obtain ⟨h', v, a1, a2, a3⟩ := qc_reckon (w := fun k => (wO R L C d l k).toInt) (S := S) (wo := 0) (wk := 12) (wn := 19) hF hp hj hlen (by decide) (fun k hk => ⟨by rw [ws k hk], smlW va hd hl k hk⟩) (Nat.le_refl _) (by decide) (by omega) sg
    obtain ⟨q, τ, b1, b2, b3, b4⟩ := qm_sumOf hF h53 hx w va hd hl e0 e1 hs sg'
    refine ⟨h', v, q, τ, a1, b1, b2, ?_⟩
    cases e : φ (fun k => (wO R L C d l k).toInt) with
    | none => exact Or.inl ⟨a2 e, b3 e⟩
    | some y =>
      obtain ⟨c1, c2⟩ := a3 y e
      obtain ⟨c3, c4⟩ := b4 y e
      exact Or.inr ⟨i_brk c1 c2, c3, Or.inl (i_eq c1 c4)⟩
  · subst e e'
    obtain ⟨h', a1⟩ := qc_reck0 (F := F) (S := S) (wo := 0) (wk := 12) (wn := 19) hF hp hj hlen
    exact ⟨h', 0, -1, σ, a1, qm_sum0 h53 hx e0 e1, KS.rf, Or.inr ⟨by decide, h53, Or.inr ⟨rfl, rfl⟩⟩⟩
/-- a clause of orders, in the pool and in the reference's rows -/
def OCx (E : Nat → ClassId) (P : va_W) (a1 a2 : Nat) (f g w : Nat → Int32) (o co len : Nat) (code : Nat → Int32) (k b0 e1 e2 e3 tm s0 s1 u0 u1 v0 v1 : Nat) : Prop := (pR P 5 a1 2 = some co ∧ parE E P co = some (len, code) ∧ len ≤ 800 ∧ 2 * e1 ≤ len ∧ 2 * e2 ≤ len ∧ 2 * e3 ≤ len) ∧ (pI P 0 a2 0 = some (nI k) ∧ pI P 0 a2 1 = some (nI (2 * b0)) ∧ pI P 0 a2 2 = some (nI (2 * e1)) ∧ pI P 0 a2 3 = some (nI (2 * e2)) ∧ pI P 0 a2 4 = some (nI (2 * e3)) ∧ pI P 0 a2 5 = some (nI tm)) ∧ k < 4 ∧ tm ≤ 20 ∧ (w o = nI k ∧ w (o + 1) = nI s0 ∧ w (o + 1 + 1) = nI s1 ∧ w (o + 3) = nI u0 ∧ w (o + 3 + 1) = nI u1 ∧ w (o + 5) = nI v0 ∧ w (o + 5 + 1) = nI v1 ∧ w (o + 7) = nI tm) ∧ (s1 ≤ 400 ∧ u1 ≤ 400 ∧ v0 ≤ 400 ∧ v1 ≤ 400 ∧ e2 ≤ 400 ∧ e3 ≤ 400) ∧ (k ≠ 3 → ∃ φ, Seg 19 (ccd code) b0 e1 50 φ ∧ Seg 19 (rcf true f g) s0 s1 50 φ) ∧ (k = 3 → b0 = e1 ∧ s0 = s1) ∧ (k = 2 → ∃ φ, Seg 19 (ccd code) e1 e2 50 φ ∧ Seg 19 (rcf true f g) u0 u1 50 φ) ∧ (k ≠ 2 → e1 = e2 ∧ u0 = u1) ∧ ((e3 ≤ e2 ∧ v1 ≤ v0) ∨ ∃ φ, TSeg 19 (ccd code) e2 e3 50 φ ∧ TSeg 19 (rcf true f g) v0 v1 50 φ)
def lOK (l : Int32) : Prop := l = -1 ∨ ∃ m, m < 1000 ∧ l = nI m
theorem lOK.s {l : Int32} (h : lOK l) : sml l.toInt := by
  rcases h with rfl | ⟨m, m1, rfl⟩
  · exact sml_mm
  · exact sml_n2 (by omega)
def RunR (E : Nat → ClassId) (P : va_W) (L C H W dn : Nat) (S : CS) (σ : MS) (cK : Option (Int32 × CS)) (m : Option (Int32 × MS)) : Prop := ∃ (r v : Int32) (T : CS) (τ : MS), cK = some (r, T) ∧ m = some (v, τ) ∧ RelB E T P τ L C H W ∧ KO1 S T ∧ KO2 σ τ ∧ ((r = 1 ∧ v = 0 ∧ ∃ dn', dn' ≤ dn + 1 ∧ ca T 0 12 1 = nI dn' ∧ mi τ 50 = nI dn' ∧ ca T 0 12 2 = mi τ 51 ∧ lOK (mi τ 51)) ∨ (r = 0 ∧ v = -3))
theorem k2_5 (τ : MS) (x y : Int32) : KO2 τ (mI (mI τ 51 x) 50 y) := ⟨fun _ _ _ _ _ => rfl, fun k _ _ _ d e _ => by show upd (upd τ.1 51 x) 50 y k = mi τ k; rw [pk_un d, pk_un e], fun _ _ => rfl⟩
theorem km_5 (τ : MS) (x y : Int32) : KM τ (mI (mI τ 51 x) 50 y) := ⟨⟨rfl, rfl, rfl, rfl, fun _ _ => rfl, rfl, rfl, rfl⟩, ⟨rfl, rfl, rfl, rfl, rfl, rfl, rfl, rfl, rfl⟩, rfl, rfl, rfl, rfl⟩
theorem actPart {F : Nat} {E : Nat → ClassId} {P : va_W} {S : CS} {σ : MS} {a1 a2 o co len : Nat} {code f g w : Nat → Int32} {k b0 e1 e2 e3 tm s0 s1 u0 u1 v0 v1 L C H W dn : Nat} {l : Int32} (hF : 1000 ≤ F) (ho : o + 8 ≤ 96) (oc : OCx E P a1 a2 f g w o co len code k b0 e1 e2 e3 tm s0 s1 u0 u1 v0 v1) (hB : RelB E S P σ L C H W) (h53 : mi σ 53 = 0) (wr : WR σ f g (ma σ 3) L C (nI dn) l) (ws : ∀ k, k < 19 → ca S 0 12 k = wO (ma σ 3) L C (nI dn) l k) (hdn : dn ≤ 1000) (hl : lOK l) (h49 : ma σ 49 = w) (h50 : mi σ 50 = nI dn) (h51 : mi σ 51 = l) : RunR E P L C H W dn S σ (C_10_obey_B40 F E P S a1 a2) (M_run_B105 F σ (nI o)) := by
  obtain ⟨⟨p1, p2, p3, p4, p5, p6⟩, ⟨c0, c1, c2, c3, c4, c5⟩, hk, htm, ⟨w0, w1, w2, w3, w4, w5, w6, w7⟩, ⟨g1, g2, g3, g4, g5, g6⟩, x1, x2, x3, x4, x5⟩ := oc
  have va := hB.2.1.1
  have hd : sml (nI dn).toInt := sml_n2 (by omega)
  have n1 : nI o + 1 = nI (o + 1) := nI_add o 1
  have n3 : nI o + 3 = nI (o + 3) := nI_add o 3
  have cs1 : (∃ φ, Seg 19 (ccd code) b0 e1 50 φ ∧ Seg 19 (rcf true f g) s0 s1 50 φ) ∨ (b0 = e1 ∧ s0 = s1) := by
    by_cases z : k = 3
    · exact Or.inr (x2 z)
    · exact Or.inl (x1 z)
  have cs2 : (∃ φ, Seg 19 (ccd code) e1 e2 50 φ ∧ Seg 19 (rcf true f g) u0 u1 50 φ) ∨ (e1 = e2 ∧ u0 = u1) := by
    by_cases z : k = 2
    · exact Or.inl (x3 z)
    · exact Or.inr (x4 z)
  obtain ⟨h1, y4, q3, τ1, a1', a2', a3', a4'⟩ := piece (S := S) (i := b0) (j := e1) (x := o + 1) hF p2 p4 p3 ws va hd hl.s h53 (by omega) wr (by rw [h49]; exact w1) (by rw [h49]; exact w2) g1 cs1
  have ws1 : ∀ k, k < 19 → ca (cF S 12 0 h1) 0 12 k = wO (ma σ 3) L C (nI dn) l k := fun k hk => by rw [ca_cFn _ _ _ _ _ _ (Or.inl (by decide))]; exact ws k hk
  unfold C_10_obey_B40 M_run_B105
  rw [p1, bs, c1, bs, c2, bs, a1', bs, bs, bs, c3, bs, n1, n3, a2', bs]
  have fin0 : ∀ (h2 : Nat → Int32) (τ2 : MS), KS τ1 τ2 → RelB E (cF (cF S 12 0 h1) 12 0 h2) P τ2 L C H W ∧ KO1 S (cF (cF S 12 0 h1) 12 0 h2) ∧ KO2 σ τ2 := fun h2 τ2 ks => ⟨RelB_KC (RelB_KM hB (a3'.tr ks).km) ((kc_s _ _).tr (kc_s _ _)), (k1_s _ _).tr (k1_s _ _), (a3'.tr ks).k2⟩
  rcases a4' with ⟨b1, b2⟩ | ⟨b1, b2, b3⟩
  · obtain ⟨h2, y8, d1⟩ := pieceC (S := cF S 12 0 h1) (i := e1) (j := e2) hF p2 p5 p3 ws1 va hd hl.s (by
      rcases cs2 with ⟨φ, sg, -⟩ | ⟨e, -⟩
      · exact Or.inl ⟨φ, sg⟩
      · exact Or.inr e)
    rw [d1, bs, if_pos b1, qm_sumB b2, bs, b2, if_neg (show ¬ (1 : Int32) = 0 by decide)]
    obtain ⟨f1, f2, f3⟩ := fin0 h2 τ1 KS.rf
    exact ⟨0, -3, _, _, rfl, rfl, f1, f2, f3, Or.inr ⟨rfl, rfl⟩⟩
  obtain ⟨h2, y8, q4, τ2, d1, d2, d3, d4⟩ := piece (S := cF S 12 0 h1) (i := e1) (j := e2) (x := o + 3) hF p2 p5 p3 ws1 va hd hl.s b2 (by omega) (WR_KS wr a3') (by rw [a3'.1, h49]; exact w3) (by rw [a3'.1, h49]; exact w4) g2 cs2
  obtain ⟨f1, f2, f3⟩ := fin0 h2 τ2 d3
  have kk := a3'.tr d3
  rw [d1, bs, if_neg b1, d2, bs]
  rcases d4 with ⟨y1, y2⟩ | ⟨y1, y2, y3⟩
  · rw [if_pos y1, y2, if_neg (show ¬ (1 : Int32) = 0 by decide)]
    exact ⟨0, -3, _, _, rfl, rfl, f1, f2, f3, Or.inr ⟨rfl, rfl⟩⟩
  have m49 : ma τ2 49 o = nI k := by rw [kk.1, h49]; exact w0
  obtain ⟨v, T, τ, z1, z2, z3⟩ := st_act (d := k) hF f1 hk y4 y8 q3 q4 (fun hk3 => by
    rcases b3 with b | ⟨b, -⟩
    · exact b
    · obtain ⟨φ, sg, -⟩ := x1 (by omega)
      have := sg.1; omega) (fun hk2 => by
    rcases y3 with b | ⟨b, -⟩
    · exact b
    · obtain ⟨φ, sg, -⟩ := x3 hk2
      have := sg.1; omega)
  obtain ⟨kd, ky, rb, u6, hv⟩ := z3
  have t49 : ma τ 49 o = nI k := by rw [ky.1 49 (by decide) (by decide) (by decide) (by decide)]; exact m49
  rw [if_neg y1, c0, bs, z1, bs, y2, if_pos rfl, chk_in (show o < 96 by omega) (by decide), nI_clamp (by omega), m49, z2, bs]
  have k1 : KO1 S T := f2.tr kd.k1
  have k2 : KO2 σ τ := f3.tr (ky.k2 u6)
  rcases hv with hv | ⟨m, hm, rfl⟩
  · have nv : ¬ 0 ≤ v := by rcases hv with rfl | rfl | rfl <;> decide
    rw [if_neg nv, if_neg nv]
    exact ⟨0, -3, T, τ, rfl, rfl, rb, k1, k2, Or.inr ⟨rfl, rfl⟩⟩
  have cw : ca T 0 12 = ca S 0 12 := by
    rw [kd.2.2.2 0 12 (by decide) (by decide) (by decide) (Or.inl (by decide)), ca_cFn _ _ _ _ _ _ (Or.inl (by decide)), ca_cFn _ _ _ _ _ _ (Or.inl (by decide))]
  have cw1 : ca T 0 12 1 = nI dn := by rw [cw, ws 1 (by omega)]; rfl
  have cw2 : ca T 0 12 2 = l := by rw [cw, ws 2 (by omega)]; rfl
  have t50 : mi τ 50 = nI dn := by rw [ky.2.1 50 (by decide) (by decide) (by decide), kk.2.1 50 (by decide) (by decide)]; exact h50
  have t51 : mi τ 51 = l := by rw [ky.2.1 51 (by decide) (by decide) (by decide), kk.2.1 51 (by decide) (by decide)]; exact h51
  have e11 : ∀ x, cA T 0 12 1 x = cF T 0 12 (upd (ca T 0 12) 1 x) := fun x => rfl
  unfold M_run_B173
  rw [if_pos (nI_pos' (by omega)), if_pos (nI_pos' (by omega)), chk_in (show o < 96 by omega) (by decide), t49, stc_d, e11, cw1, ← nI_succ, bs]
  by_cases zk : nI k = 1
  · rw [if_pos zk, if_pos zk, stc_d, cA_cF, stt_d, stt_d, show mi (mI τ 51 (nI m)) 50 = nI dn from t50, ← nI_succ]
    refine ⟨1, 0, _, _, rfl, rfl, RelB_KC (RelB_KM rb (km_5 _ _ _)) (kc_w _ _), k1.tr (k1_w _ _), k2.tr (k2_5 _ _ _), Or.inl ⟨rfl, rfl, dn + 1, Nat.le_refl _, ?_, rfl, ?_, Or.inr ⟨m, hm, rfl⟩⟩⟩
    · rw [ca_cF, pk_un (by decide), pk_us]
    · rw [ca_cF, pk_us]; rfl
  · rw [if_neg zk, if_neg zk, stt_d, stt_d, show mi (mI τ 51 (mi τ 51)) 50 = nI dn from t50, ← nI_succ]
    refine ⟨1, 0, _, _, rfl, rfl, RelB_KC (RelB_KM rb (km_5 _ _ _)) (kc_w _ _), k1.tr (k1_w _ _), k2.tr (k2_5 _ _ _), Or.inl ⟨rfl, rfl, dn + 1, Nat.le_refl _, ?_, rfl, ?_, ?_⟩⟩
    · rw [ca_cF, pk_us]
    · rw [ca_cF, pk_un (by decide), cw2]
      exact t51.symm
    · show lOK (mi τ 51)
      rw [t51]; exact hl
