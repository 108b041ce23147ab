/-- a text begins -/
theorem cI9 (S : CS) (k : Nat) (v : Int32) : cI S 9 k v = cJ S (upd (ci S 9) k v) := by
  have := cJ_I S (ci S 9) k v
  rw [cJ_self] at this
  exact this
theorem mI_J (σ : MS) (k : Nat) (v : Int32) : mI σ k v = mJ σ (upd (mi σ) k v) (ml σ 17) := by
  have := mJ_I σ (mi σ) (ml σ 17) k v
  rw [mJ_self] at this
  exact this
theorem mQ_self (σ : MS) : mQ σ (ma σ 24) (ma σ 25) (ma σ 27) (ma σ 28) = σ := by
  unfold mQ
  rw [mF_self, mF_self, mF_self, mF_self]
theorem rcStart {F n : Nat} {S : CS} {t : Nat → Nat} {x1 : Int32} (hF : 1000 ≤ F) (ht : ∀ i, t i < 256) (tp : TPc S t n) : ∃ T', C_3_advance F (cI (cI (cI (cI (cI (cI S 9 3 x1) 9 2 0) 9 6 0) 9 8 0) 9 9 0) 9 10 (-1)) = some ((), T') ∧ RC S (upd (ci S 9) 3 x1) t n (skP t n 0) 0 0 0 none (ca S 9 1) T' := by
  rw [cI9 S 3 x1, cJ_I, cJ_I, cJ_I, cJ_I, cJ_I]
  obtain ⟨I', a1, a2, a3⟩ := qc_adv (F := F) (S := S) (p := 0) (I := upd (upd (upd (upd (upd (upd (ci S 9) 3 x1) 2 0) 6 0) 8 0) 9 0) 10 (-1)) hF tp ht (by omega) (by rw [pk_un (by decide), pk_un (by decide), pk_un (by decide), pk_us]; rfl)
  refine ⟨_, a1, I', by rw [cF_self], tp, a2, (sk_le (by omega)).2, ?_, ?_, ?_, ?_, by omega, fun k k2 k4 k5 k6 k7 k8 k9 k10 => ?_⟩
  · show I' 10 = -1
    rw [a3 10 (by decide) (by decide) (by decide) (by decide), pk_us]
  · rw [a3 2 (by decide) (by decide) (by decide) (by decide), pk_un (by decide), pk_un (by decide), pk_un (by decide), pk_un (by decide), pk_us]; rfl
  · rw [a3 9 (by decide) (by decide) (by decide) (by decide), pk_un (by decide), pk_us]; rfl
  · rw [a3 8 (by decide) (by decide) (by decide) (by decide), pk_un (by decide), pk_un (by decide), pk_us]; rfl
  · rw [a3 k k4 k5 k6 k7, pk_un k10, pk_un k9, pk_un k8, pk_un k6, pk_un k2]
theorem rwStart {F n c : Nat} {σ : MS} {t : Nat → Nat} {x1 : Int32} (hF : 1000 ≤ F) (ht : ∀ i, t i < 256) (hx : x1 = 0 ∨ x1 = 1) (tp : TPm σ (mi σ) t n) : ∃ τ, M_beginText F σ x1 = some ((), τ) ∧ RW (mF σ c (ma σ c)) (upd (upd (upd (mi σ) 20 x1) 18 (-1)) 21 (nI 0)) t n (skP t n 0) 0 0 none (ma σ 24) (ma σ 25) τ := by
  rw [mF_self]
  unfold M_beginText M_begin
  rw [chk_t hx]
  simp only [stt_d]
  rw [mI_J σ 20 x1, mJ_I, mJ_I, mJ_I]
  obtain ⟨I', a1, a2, a3⟩ := qm_next (F := F) (σ := σ) (p := 0) (v := ml σ 17) (I := upd (upd (upd (upd (mi σ) 20 x1) 15 0) 19 0) 18 (-1)) hF ht ⟨tp.1, by rw [pk_un (by decide), pk_un (by decide), pk_un (by decide), pk_un (by decide)]; exact tp.2.1, tp.2.2⟩ (by omega) (by rw [pk_un (by decide), pk_un (by decide), pk_us]; rfl)
  rw [a1, bs, bs, mJ_I, mJ_I, mJ_I]
  refine ⟨_, rfl, _, ma σ 27, ma σ 28, by rw [mQ_self], ⟨tp.1, ?_, tp.2.2⟩, ⟨?_, ?_, ?_, rfl⟩, (sk_le (by omega)).2, ⟨?_, ?_⟩, ?_, ?_, by omega, fun k k1 k2 k3 k4 k5 k6 k7 k8 k9 => ?_⟩
  · rw [pk_un (by decide), pk_un (by decide), pk_un (by decide), a3 13 (by decide) (by decide) (by decide), pk_un (by decide), pk_un (by decide), pk_un (by decide), pk_un (by decide)]; exact tp.2.1
  · rw [pk_un (by decide), pk_un (by decide), pk_un (by decide)]; exact a2.1
  · rw [pk_un (by decide), pk_un (by decide), pk_un (by decide)]; exact a2.2.1
  · rw [pk_un (by decide), pk_un (by decide), pk_un (by decide)]; exact a2.2.2.1
  · rw [pk_un (by decide), pk_un (by decide), pk_un (by decide), a3 19 (by decide) (by decide) (by decide), pk_un (by decide), pk_us]
  · rw [pk_un (by decide), pk_un (by decide), pk_un (by decide), a3 18 (by decide) (by decide) (by decide), pk_us, pk_un (by decide), pk_us]
  · rw [pk_un (by decide), pk_us]; rfl
  · rw [pk_us]; rfl
  · rw [pk_un k7, pk_un k6]
    by_cases z : k = 21
    · rw [z, pk_us, pk_us]; rfl
    · rw [pk_un z, pk_un z, a3 k k1 k2 k3, pk_un k4, pk_un k5, pk_un k2, pk_un k4]
theorem k5i {CL : CLT} {E : Nat → ClassId} {T : CS} {P : va_W} {z : Nat} {A f g w : Nat → Int32} {a b : Nat} (hz : ∀ x, z ≤ x → fnd P x = none) : ∃ P5, K_5_init E (z + (0 + 1)) T (P ++ [(z + 0, .inr (5, [.null, .int 0, .null]))]) (z + 0) = some ((), T, P5) ∧ LPl CL E P P5 z 0 A f g w a b := by
  have key : Ret (stp (P ++ [(z, .inr (5, [.null, .int 0, .null]))]) fun P0 => K_5_init E (z + 1) T P0 z) (fun r => r.2.1 = T ∧ SP E r.2.2 z 0 (fun _ => none) ∧ fnd r.2.2 (z + 2) ≠ none ∧ ∀ x, x ≠ z → x ≠ z + 1 → x ≠ z + 2 → fnd r.2.2 x = fnd P x) := by
    refine R_app (hz z (Nat.le_refl _)) (fun P0 s0 f0 => ?_)
    unfold K_5_init
    refine R_chk ⟨rfl, by decide, by decide⟩ ?_
    refine R_app (z := z + 1) (by rw [f0 _ (by omega)]; exact hz _ (by omega)) (fun P1 s1 f1 => ?_)
    have q1 : fnd P1 z = some (.inr (5, [.null, .int 0, .null])) := (f1 _ (by omega)).trans s0
    refine R_obj q1 (R_chk (by exact (show 0 < 3 by decide)) ?_)
    refine R_set q1 (fun P2 s2 f2 => ?_)
    have q2 : fnd P2 (z + 1) = _ := (f2 _ (by omega)).trans s1
    refine R_chk ⟨mkok_f q2 (by omega), by decide, by decide⟩ ?_
    refine R_app (z := z + 1 + 1) (by rw [f2 _ (by omega), f1 _ (by omega), f0 _ (by omega)]; exact hz _ (by omega)) (fun P4 s4 f4 => ?_)
    have q4 : fnd P4 z = _ := (f4 _ (by omega)).trans s2
    refine R_obj q4 (R_chk (by exact (show 2 < 3 by decide)) ?_)
    refine R_set q4 (fun P5 s5 f5 => ?_)
    refine R_chk (by decide) ⟨_, rfl, rfl, ⟨s5, ?_⟩, ?_, fun x x1 x2 x3 => ?_⟩
    · exact (f5 _ (by omega)).trans ((f4 _ (by omega)).trans q2)
    · rw [show fnd P5 (z + 2) = _ from (f5 _ (by omega)).trans s4]; intro q; cases q
    · rw [f5 _ x1, f4 _ (by omega), f2 _ x1, f1 _ x2, f0 _ x1]
  obtain ⟨⟨u, T', P5⟩, k1, k2, k3, k4, k5⟩ := key
  have k2' : T' = T := k2
  subst k2'
  exact ⟨P5, k1, ⟨_, k3, fun i hi => by omega⟩, k4, fun i hi => by omega, fun x hx => k5 x (by omega) (by omega) (by omega), fun x hx => (k5 x (by omega) (by omega) (by omega)).trans (hz x (by omega))⟩
/-- a reading leaves all else alike -/
theorem rel_f {E : Nat → ClassId} {S : CS} {P : va_W} {σ : MS} (h : Rel E S P σ) (v : Int32) : Rel E (cI S 9 10 v) P (mI σ 18 v) := by
  obtain ⟨L, C, H, W, h1, h2, h3, h4, h5, h6, h7, h8, h9⟩ := h
  refine ⟨L, C, H, W, h1, h2, h3, h4, h5, h6, h7, h8, ?_⟩
  obtain ⟨a1, a2, a3, a4, a5⟩ := h9
  exact ⟨a1, a2, a3, rfl, a5⟩
def fvI (fl : Option Nat) : Int32 := match fl with
  | none => -1
  | some v => nI v
theorem rel_rd {E : Nat → ClassId} {S T : CS} {P : va_W} {σ τ : MS} {Ic Im : Nat → Int32} {t : Nat → Nat} {n s a br pa s' b pa' c : Nat} {fl : Option Nat} {A f g w : Nat → Int32} {x y : Int32} (h : Rel E S P σ) (hc : RC S Ic t n s a br pa fl A T) (hm : RW (mF σ c w) (upd Im 21 x) t n s' b pa' fl f g τ) (hcw : c = 22 ∨ c = 49) (hI : Im = upd (upd (mi σ) 20 y) 18 (-1)) : Rel E (cI T 10 1 0) P (mI (mI τ 20 0) 13 0) := by
  have h20 : mi σ 20 = 0 := by
    obtain ⟨L, C, H, W, h1, h2, h3, h4, h5, h6, h7, h8, h9⟩ := h
    exact h8.1
  subst hI
  refine rel_tape0 ?_
  obtain ⟨I, eT, tpc, tkc, hs, hfc, -⟩ := hc
  obtain ⟨J, p, q, eM, tpm, tkm, hs', hfm, h23, h26, hb, hk⟩ := hm
  have i10 : I 10 = fvI fl := by cases fl <;> exact hfc
  have j18 : J 18 = fvI fl := by
    cases fl with
    | none => exact hfm.2
    | some v => exact hfm.2
  have g : ∀ k, k ≠ 14 → k ≠ 15 → k ≠ 16 → k ≠ 18 → k ≠ 19 → k ≠ 23 → k ≠ 26 → k ≠ 29 → k ≠ 30 → k ≠ 20 → k ≠ 21 → J k = mi σ k := fun k k1 k2 k3 k4 k5 k6 k7 k8 k9 k10 k11 => by rw [hk k k1 k2 k3 k4 k5 k6 k7 k8 k9, pk_un k11, pk_un k4, pk_un k10]
  have gs : ∀ k, (k = 1 ∨ k = 8 ∨ k = 11 ∨ k = 13 ∨ k = 52 ∨ k = 56 ∨ k = 57) → J k = mi σ k := fun k z => g k (by omega) (by omega) (by omega) (by omega) (by omega) (by omega) (by omega) (by omega) (by omega) (by omega) (by omega)
  have r1 := rel_f h (fvI fl)
  have kc : KC (cI S 9 10 (fvI fl)) T := by
    subst eT
    exact ⟨⟨rfl, rfl, rfl, rfl, rfl⟩, ⟨rfl, rfl, rfl⟩, ⟨rfl, rfl⟩, ⟨rfl, rfl⟩, ⟨rfl, rfl, rfl, rfl⟩, i10⟩
  have km : KM (mI σ 18 (fvI fl)) (mI τ 20 0) := by
    subst eM
    rcases hcw with rfl | rfl
    · exact ⟨⟨rfl, rfl, rfl, rfl, fun _ _ => rfl, rfl, rfl, rfl⟩, ⟨gs 1 (by omega), gs 8 (by omega), gs 11 (by omega), gs 13 (by omega), j18, h20.symm, gs 52 (by omega), gs 56 (by omega), gs 57 (by omega)⟩, rfl, rfl, rfl, rfl⟩
    · exact ⟨⟨rfl, rfl, rfl, rfl, fun _ _ => rfl, rfl, rfl, rfl⟩, ⟨gs 1 (by omega), gs 8 (by omega), gs 11 (by omega), gs 13 (by omega), j18, h20.symm, gs 52 (by omega), gs 56 (by omega), gs 57 (by omega)⟩, rfl, rfl, rfl, rfl⟩
  exact rel_KM (rel_KC r1 kc) km
/-- over a larger pool -/
theorem FT_m {E : Nat → ClassId} {P P' : va_W} {a : Nat} {I : Nat → Int32} {A : Nat → Nat → Int32} {Q : Nat → Option Nat} (m : ∀ b, fnd P b ≠ none → fnd P' b = fnd P b) (h : FT E P a I A Q) : FT E P' a I A Q := by
  have s : ∀ {b : Nat} {e : va_E}, fnd P b = some e → fnd P' b = some e := fun {b e} k => (m b (by rw [k]; intro q; cases q)).trans k
  exact ⟨s h.1, s h.2.1, s h.2.2.1, s h.2.2.2.1, s h.2.2.2.2.1, s h.2.2.2.2.2.1, s h.2.2.2.2.2.2.1, s h.2.2.2.2.2.2.2.1, s h.2.2.2.2.2.2.2.2.1, s h.2.2.2.2.2.2.2.2.2.1, s h.2.2.2.2.2.2.2.2.2.2.1, s h.2.2.2.2.2.2.2.2.2.2.2⟩
theorem rel_pool {E : Nat → ClassId} {S : CS} {P P' : va_W} {σ : MS} (h : Rel E S P σ) (m : ∀ b, fnd P b ≠ none → fnd P' b = fnd P b) : Rel E S P' σ := by
  obtain ⟨L, C, H, W, h1, h2, h3, ⟨h4, h4'⟩, h5, h6, h7, h8, h9⟩ := h
  have m1 : ∀ b, ¬ imZ (cq S 0) b → fnd P b ≠ none → fnd P' b = fnd P b ∧ ¬ imZ (cq S 0) b := fun b nb hb => ⟨m b hb, nb⟩
  have m5 : ∀ b fs, fnd P b = some (.inr (5, fs)) → fnd P' b = fnd P b := fun b fs hb => m b (by rw [hb]; intro q; cases q)
  refine ⟨L, C, H, W, h1, h2, LWS_mv m1 m5 h3, ⟨fun k hk => ?_, h4'⟩, h5, h6, h7, h8, h9⟩
  rcases h4 k hk with u | ⟨a, I, A, Q, L1, C1, H1, W1, u1, u2, u3, u4, u5, u6⟩
  · exact Or.inl u
  · exact Or.inr ⟨a, I, A, Q, L1, C1, H1, W1, u1, u2, FT_PT (FT_m m (PT_FT u3)), u4, u5, LWS_mv m1 m5 u6⟩
