theorem RunR_mv {E : Nat → ClassId} {P : va_W} {L C H W dn : Nat} {S S1 : CS} {σ σ1 : MS} {cK : Option (Int32 × CS)} {m : Option (Int32 × MS)} (k1 : KO1 S S1) (k2 : KO2 σ σ1) (h : RunR E P L C H W dn S1 σ1 cK m) : RunR E P L C H W dn S σ cK m := by
  obtain ⟨r, v, T, τ, h1, h2, h3, h4, h5, h6⟩ := h
  exact ⟨r, v, T, τ, h1, h2, h3, k1.tr h4, k2.tr h5, h6⟩
/-- the reference's words -/
def preM (σ : MS) (x : Int32) : MS := mI (mB (mB (mB (mB (mB σ 36 1 (ma σ 3 5).toInt64) 36 2 (mi σ 50).toInt64) 36 3 (mi σ 51).toInt64) 36 4 x.toInt64) 36 5 (ma σ 3 1).toInt64) 53 0
theorem preM_b (σ : MS) (x : Int32) : mb (preM σ x) 36 = vp_updL (vp_updL (vp_updL (vp_updL (vp_updL (mb σ 36) 1 (ma σ 3 5).toInt64) 2 (mi σ 50).toInt64) 3 (mi σ 51).toInt64) 4 x.toInt64) 5 (ma σ 3 1).toInt64 := by
  show mb (mB (mB (mB (mB (mB σ 36 1 (ma σ 3 5).toInt64) 36 2 (mi σ 50).toInt64) 36 3 (mi σ 51).toInt64) 36 4 x.toInt64) 36 5 (ma σ 3 1).toInt64) 36 = _
  rw [mb_mB, mb_mB, mb_mB, mb_mB, mb_mB]
theorem preM_53 (σ : MS) (x : Int32) : mi (preM σ x) 53 = 0 := by
  show upd σ.1 53 0 53 = 0
  rw [pk_us]
theorem preM_m (σ : MS) (x : Int32) : KM σ (preM σ x) := ⟨⟨rfl, rfl, rfl, rfl, fun _ _ => rfl, rfl, rfl, rfl⟩, ⟨rfl, rfl, rfl, rfl, rfl, rfl, rfl, rfl, rfl⟩, rfl, rfl, rfl, rfl⟩
theorem preM_2 (σ : MS) (x : Int32) : KO2 σ (preM σ x) := ⟨fun _ _ _ _ _ => rfl, fun k _ _ _ _ _ f => by show upd σ.1 53 0 k = mi σ k; rw [pk_un f], fun _ _ => rfl⟩
theorem obeyRun {F : Nat} {E : Nat → ClassId} {P : va_W} {S : CS} {σ : MS} {a1 a2 o co len : Nat} {code f g w : Nat → Int32} {k b0 e1 e2 e3 tm s0 s1 u0 u1 v0 v1 L C H W dn : Nat} (hF : 1000 ≤ F) (ho : o + 8 ≤ 96) (oc : OCx E P a1 a2 f g w o co len code k b0 e1 e2 e3 tm s0 s1 u0 u1 v0 v1) (hB : RelB E S P σ L C H W) (hdn : dn ≤ 1000) (hc1 : ca S 0 12 1 = nI dn) (h50 : mi σ 50 = nI dn) (hc2 : ca S 0 12 2 = mi σ 51) (hl : lOK (mi σ 51)) (h49 : ma σ 49 = w) (h24 : ma σ 24 = f) (h25 : ma σ 25 = g) : RunR E P L C H W dn S σ (C_10_obey F E P S a1 a2) (M_run F σ (nI o)) := by
  have oc' := oc
  obtain ⟨⟨p1, p2, p3, p4, p5, p6⟩, ⟨c0, c1, c2, c3, c4, c5⟩, hk, htm, ⟨w0, w1, w2, w3, w4, w5, w6, w7⟩, ⟨g1, g2, g3, g4, g5, g6⟩, x1, x2, x3, x4, x5⟩ := oc'
  have va := hB.2.1.1
  have hd : sml (nI dn).toInt := sml_n2 (by omega)
  obtain ⟨N, nn, nw⟩ := noteC (F := F) hF hB.1 va
  rw [hc1, hc2] at nw
  have ws : ∀ k, k < 19 → ca (cF S 0 12 N) 0 12 k = wO (ma σ 3) L C (nI dn) (mi σ 51) k := fun k hk => by rw [ca_cF]; exact nw k hk
  have hn : M_namedOnes F (mB (mB (mB σ 36 1 (ma σ 3 5).toInt64) 36 2 (mi σ 50).toInt64) 36 3 (mi σ 51).toInt64) = some (nI (cnt (ma σ 3) L)) := qm_namedOnes (σ := mB (mB (mB σ 36 1 (ma σ 3 5).toInt64) 36 2 (mi σ 50).toInt64) 36 3 (mi σ 51).toInt64) (by omega) va.1.1 va.1.2.2.1
  have wr : WR (preM σ (nI (cnt (ma σ 3) L))) f g (ma σ 3) L C (nI dn) (mi σ 51) := by
    refine ⟨hB.2.2.2.2.2.2.2.1.1, h24, h25, rfl, fun k hk => ?_⟩
    rw [preM_b]
    rcases (by omega : k = 0 ∨ k = 1 ∨ k = 2 ∨ k = 3 ∨ k = 4) with rfl | rfl | rfl | rfl | rfl
    · rw [pk_uLn (by decide), pk_uLn (by decide), pk_uLn (by decide), pk_uLn (by decide), pk_uLs]; rfl
    · rw [pk_uLn (by decide), pk_uLn (by decide), pk_uLn (by decide), pk_uLs, h50]; rfl
    · rw [pk_uLn (by decide), pk_uLn (by decide), pk_uLs]; rfl
    · rw [pk_uLn (by decide), pk_uLs]; rfl
    · rw [pk_uLs, va.1.2.2.2]; rfl
  have rb : RelB E (cF S 0 12 N) P (preM σ (nI (cnt (ma σ 3) L))) L C H W := RelB_KC (RelB_KM hB (preM_m _ _)) (kc_w _ _)
  have eM : M_run F σ (nI o) = (if nI v1 ≤ nI v0 then M_run_B105 F (preM σ (nI (cnt (ma σ 3) L))) (nI o) else (M_sumOf F (preM σ (nI (cnt (ma σ 3) L))) (nI (o + 5))).bind fun q13 => if (mi q13.2 53) = 0 then if q13.1 = 0 then some ((0 : Int32), q13.2) else M_run_B105 F q13.2 (nI o) else some ((0 : Int32), q13.2)) := by
    unfold M_run
    simp only [stt_d]
    have hn' : M_namedOnes F (mB (mB (mB σ 36 1 (ma σ 3 5).toInt64) 36 2 (mi (mB σ 36 1 (ma σ 3 5).toInt64) 50).toInt64) 36 3 (mi (mB (mB σ 36 1 (ma σ 3 5).toInt64) 36 2 (mi (mB σ 36 1 (ma σ 3 5).toInt64) 50).toInt64) 51).toInt64) = some (nI (cnt (ma σ 3) L)) := hn
    rw [hn', bs, show nI o + 5 = nI (o + 5) from nI_add o 5, show nI o + 6 = nI (o + 6) from nI_add o 6, chk_in (show o + 5 < 96 by omega) (by decide), chk_in (show o + 6 < 96 by omega) (by decide), nI_clamp (by omega), nI_clamp (by omega)]
    show (if ma σ 49 (o + 6) ≤ ma σ 49 (o + 5) then M_run_B105 F (preM σ (nI (cnt (ma σ 3) L))) (nI o) else _) = _
    rw [h49, show w (o + 6) = nI v1 from w6, w5]
    rfl
  unfold C_10_obey
  rw [eM, nn, bs, chk_t (pI_pobj c0)]
  unfold C_0_hasTest
  rw [c4, bs, c3, bs]
  refine RunR_mv (k1_w S N) (preM_2 σ (nI (cnt (ma σ 3) L))) ?_
  rcases x5 with ⟨y1, y2⟩ | ⟨φ, t1, t2⟩
  · rw [if_pos (nI_le y2 (by omega)), if_pos (nI_le (show 2 * e3 ≤ 2 * e2 by omega) (by omega)), bs, if_pos rfl]
    exact actPart hF ho oc rb (preM_53 _ _) wr ws hdn hl h49 h50 rfl
  have lt1 := t1.1.1
  have lt2 := t2.1.1
  obtain ⟨h', v, b1, b2, b3⟩ := qc_reckon (w := fun k => (wO (ma σ 3) L C (nI dn) (mi σ 51) k).toInt) (S := cF S 0 12 N) (wo := 0) (wk := 12) (wn := 19) hF p2 p6 p3 (by decide) (fun k hk => ⟨by rw [ws k hk], smlW va hd hl.s k hk⟩) (Nat.le_refl _) (by decide) (by omega) t1.1
  obtain ⟨q, τ, d1, d2, d3, d4⟩ := qm_sumOf (σ := preM σ (nI (cnt (ma σ 3) L))) (x := o + 5) hF (preM_53 _ _) (by omega) wr va hd hl.s (show ma σ 49 (o + 5) = nI v0 by rw [h49]; exact w5) (show ma σ 49 (o + 5 + 1) = nI v1 by rw [h49]; exact w6) g4 t2.1
  have skip : RunR E P L C H W dn (cF S 0 12 N) (preM σ (nI (cnt (ma σ 3) L))) (some (1, cF (cF S 0 12 N) 12 0 h')) (some (0, τ)) := by
    refine ⟨1, 0, _, _, rfl, rfl, RelB_KC (RelB_KM rb d2.km) (kc_s _ _), k1_s _ _, d2.k2, Or.inl ⟨rfl, rfl, dn, by omega, ?_, ?_, ?_, ?_⟩⟩
    · rw [ca_cFn _ _ _ _ _ _ (Or.inl (by decide)), ws 1 (by omega)]; rfl
    · rw [d2.2.1 50 (by decide) (by decide)]; exact h50
    · rw [ca_cFn _ _ _ _ _ _ (Or.inl (by decide)), ws 2 (by omega), d2.2.1 51 (by decide) (by decide)]; rfl
    · rw [d2.2.1 51 (by decide) (by decide)]; exact hl
  rw [if_neg (nI_ge lt2 (by omega)), if_neg (nI_ge (show 2 * e2 < 2 * e3 by omega) (by omega)), bs, if_neg (show ¬ (1 : Int32) = 0 by decide), p1, bs, bs, bs, b1, bs, d1, bs]
  cases e : φ (fun k => (wO (ma σ 3) L C (nI dn) (mi σ 51) k).toInt) with
  | none =>
    rw [b2 e, if_neg (show ¬ (-2000000000 : Int32) = 1 by decide), d3 e, if_neg (show ¬ (1 : Int32) = 0 by decide)]
    exact skip
  | some y =>
    obtain ⟨m1, m2⟩ := b3 y e
    obtain ⟨m3, m4⟩ := d4 y e
    rw [m3, if_pos (show (0 : Int32) = 0 from rfl)]
    rcases t1.2 _ y e with rfl | rfl
    · have ev : v = 0 := i_eq m1 (by decide)
      have eq : q = 0 := i_eq m4 (by decide)
      rw [ev, eq, if_neg (show ¬ (0 : Int32) = 1 by decide), if_pos (show (0 : Int32) = 0 from rfl)]
      exact skip
    · have ev : v = 1 := i_eq m1 (by decide)
      have eq : q = 1 := i_eq m4 (by decide)
      rw [ev, eq, if_pos (show (1 : Int32) = 1 from rfl), if_neg (show ¬ (1 : Int32) = 0 by decide)]
      refine RunR_mv (k1_s (cF S 0 12 N) h') d2.k2 ?_
      have m3' : ma τ 3 = ma σ 3 := by rw [d2.1]; rfl
      refine actPart (l := mi σ 51) hF ho oc (RelB_KC (RelB_KM rb d2.km) (kc_s _ _)) m3 ?_ (fun k hk => ?_) hdn hl ?_ ?_ ?_
      · rw [m3']; exact WR_KS wr d2
      · rw [m3', ca_cFn _ _ _ _ _ _ (Or.inl (by decide))]; exact ws k hk
      · rw [d2.1]; exact h49
      · rw [d2.2.1 50 (by decide) (by decide)]; exact h50
      · rw [d2.2.1 51 (by decide) (by decide)]; rfl
