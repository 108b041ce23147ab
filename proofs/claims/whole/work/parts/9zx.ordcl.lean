/-- a clause of orders, read -/
def SmO (A f g : Nat → Int32) (k b0 e1 e2 s0 s1 u0 u1 a b : Nat) : Prop := b0 ≤ e1 ∧ e1 ≤ e2 ∧ e2 ≤ a ∧ s0 ≤ b ∧ s1 ≤ b ∧ u0 ≤ b ∧ u1 ≤ b ∧ (k ≠ 3 → ∃ φ, Seg 19 (ccd A) b0 e1 50 φ ∧ Seg 19 (rcf true f g) s0 s1 50 φ) ∧ (k = 3 → b0 = e1 ∧ s0 = s1) ∧ (k = 2 → ∃ φ, Seg 19 (ccd A) e1 e2 50 φ ∧ Seg 19 (rcf true f g) u0 u1 50 φ) ∧ (k ≠ 2 → e1 = e2 ∧ u0 = u1)
def CLo (A f g w : Nat → Int32) (o a b : Nat) (fs : List Value) : Prop := ∃ k b0 e1 e2 e3 tm s0 s1 u0 u1 v0 v1 : Nat, fs = [.int (nI k), .int (nI (2 * b0)), .int (nI (2 * e1)), .int (nI (2 * e2)), .int (nI (2 * e3)), .int (nI tm)] ∧ k < 4 ∧ tm ≤ 20 ∧ w o = nI k ∧ w (o + 1) = nI s0 ∧ w (o + 2) = nI s1 ∧ w (o + 3) = nI u0 ∧ w (o + 4) = nI u1 ∧ w (o + 5) = nI v0 ∧ w (o + 6) = nI v1 ∧ w (o + 7) = nI tm ∧ SmO A f g k b0 e1 e2 s0 s1 u0 u1 a b ∧ e3 ≤ a ∧ v0 ≤ b ∧ v1 ≤ b ∧ ((e3 ≤ e2 ∧ v1 ≤ v0) ∨ ∃ φ, TSeg 19 (ccd A) e2 e3 50 φ ∧ TSeg 19 (rcf true f g) v0 v1 50 φ)
theorem SmO_mv {A f g A' f' g' : Nat → Int32} {k b0 e1 e2 s0 s1 u0 u1 a b a' b' : Nat} (hA : ∀ k, k < 2 * a → A' k = A k) (hf : ∀ k, k < b → f' k = f k ∧ g' k = g k) (ha : a ≤ a') (hb : b ≤ b') (h : SmO A f g k b0 e1 e2 s0 s1 u0 u1 a b) : SmO A' f' g' k b0 e1 e2 s0 s1 u0 u1 a' b' := by
  obtain ⟨h1, h2, h3, h4, h5, h6, h7, h8, h9, h10, h11⟩ := h
  have r : ∀ k, k < b → rcf true f g k = rcf true f' g' k := fun k hk => (rcf_c (hf k hk).1 (hf k hk).2).symm
  refine ⟨h1, h2, by omega, by omega, by omega, by omega, by omega, fun q => ?_, h9, fun q => ?_, h11⟩
  · obtain ⟨φ, g1, g2⟩ := h8 q
    exact ⟨φ, g1.cg (fun k _ hk => ccd_c hA (by omega)), g2.cg (fun k _ hk => r k (by omega))⟩
  · obtain ⟨φ, g1, g2⟩ := h10 q
    exact ⟨φ, g1.cg (fun k _ hk => ccd_c hA (by omega)), g2.cg (fun k _ hk => r k (by omega))⟩
theorem CLo_mv {A f g w A' f' g' w' : Nat → Int32} {o a b a' b' : Nat} {fs : List Value} (hA : ∀ k, k < 2 * a → A' k = A k) (hf : ∀ k, k < b → f' k = f k ∧ g' k = g k) (hw : ∀ j, o ≤ j → j < o + 8 → w' j = w j) (ha : a ≤ a') (hb : b ≤ b') (h : CLo A f g w o a b fs) : CLo A' f' g' w' o a' b' fs := by
  obtain ⟨k, b0, e1, e2, e3, tm, s0, s1, u0, u1, v0, v1, h0, h1, h2, h3, h4, h5, h6, h7, h8, h9, h10, h11, h12, h13, h14, h15⟩ := h
  have r : ∀ k, k < b → rcf true f g k = rcf true f' g' k := fun k hk => (rcf_c (hf k hk).1 (hf k hk).2).symm
  refine ⟨k, b0, e1, e2, e3, tm, s0, s1, u0, u1, v0, v1, h0, h1, h2, by rw [hw _ (by omega) (by omega)]; exact h3, by rw [hw _ (by omega) (by omega)]; exact h4, by rw [hw _ (by omega) (by omega)]; exact h5, by rw [hw _ (by omega) (by omega)]; exact h6, by rw [hw _ (by omega) (by omega)]; exact h7, by rw [hw _ (by omega) (by omega)]; exact h8, by rw [hw _ (by omega) (by omega)]; exact h9, by rw [hw _ (by omega) (by omega)]; exact h10, SmO_mv hA hf ha hb h11, by omega, by omega, by omega, ?_⟩
  rcases h15 with q | ⟨φ, g1, g2⟩
  · exact Or.inl q
  · exact Or.inr ⟨φ, g1.cg (fun k _ hk => ccd_c hA (by omega)), g2.cg (fun k _ hk => r k (by omega))⟩
/-- the reference, once it has failed -/
def FW (σ : MS) (I0 : Nat → Int32) (t : Nat → Nat) (n v : Nat) (τ : MS) : Prop := ∃ w s b pa f g, RW (mF σ 49 w) I0 t n s b pa (some v) f g τ
theorem FW_19 {σ τ : MS} {I0 : Nat → Int32} {t : Nat → Nat} {n v : Nat} (h : FW σ I0 t n v τ) : mi τ 19 = 1 := by
  obtain ⟨_, _, _, _, _, _, h⟩ := h
  exact rw_19f h
theorem FW_wr {σ τ : MS} {I0 : Nat → Int32} {t : Nat → Nat} {n v j : Nat} {x : Int32} (h : FW σ I0 t n v τ) : FW σ I0 t n v (mA τ 49 j x) := by
  obtain ⟨_, _, _, _, _, _, h⟩ := h
  exact ⟨_, _, _, _, _, _, rd_wr (Or.inr rfl) h⟩
theorem o203f {F nc : Nat} {σ τ : MS} {I0 : Nat → Int32} {t : Nat → Nat} {n v : Nat} (hn : nc < 12) (h : FW σ I0 t n v τ) : ∃ τ', M_readOrder_B203 F τ (nI (8 * nc)) = some ((), τ') ∧ FW σ I0 t n v τ' := by
  unfold M_readOrder_B203 M_readOrder_B241
  rw [show nI (8 * nc) + 5 = nI (8 * nc + 5) from nI_add _ 5, show nI (8 * nc) + 6 = nI (8 * nc + 6) from nI_add _ 6, chk_in (show 8 * nc + 5 < 96 by omega) (by decide), nI_clamp (by omega), stt_d, FW_19 (FW_wr h), if_neg (show ¬ (1 : Int32) = 0 by decide), chk_in (show 8 * nc + 6 < 96 by omega) (by decide), nI_clamp (by omega), stt_d]
  exact ⟨_, rfl, FW_wr (FW_wr h)⟩
theorem o155f {F nc : Nat} {σ τ : MS} {I0 : Nat → Int32} {t : Nat → Nat} {n v : Nat} (hn : nc < 12) (h : FW σ I0 t n v τ) : ∃ τ', M_readOrder_B155 F τ (nI (8 * nc)) = some ((), τ') ∧ FW σ I0 t n v τ' := by
  obtain ⟨τ', a1, a2⟩ := o203f (F := F) hn (FW_wr (j := 8 * nc + 7) (x := 1) h)
  unfold M_readOrder_B155
  rw [show nI (8 * nc) + 7 = nI (8 * nc + 7) from nI_add _ 7, chk_in (show 8 * nc + 7 < 96 by omega) (by decide), nI_clamp (by omega), stt_d, FW_19 (FW_wr h), if_neg (show ¬ (1 : Int32) = 0 by decide)]
  exact ⟨τ', a1, a2⟩
theorem rsumf {F j : Nat} {σ τ : MS} {I0 : Nat → Int32} {t : Nat → Nat} {n v : Nat} (hj : j + 1 < 96) (h : FW σ I0 t n v τ) : ∃ τ', M_readSum F τ (nI j) = some ((), τ') ∧ FW σ I0 t n v τ' := by
  unfold M_readSum M_readSum_B22
  rw [← nI_succ, chk_in (show j < 96 by omega) (by decide), nI_clamp (by omega), stt_d, FW_19 (FW_wr h), if_neg (show ¬ (1 : Int32) = 0 by decide), chk_in (show j + 1 < 96 by omega) (by decide), nI_clamp (by omega), stt_d]
  exact ⟨_, rfl, FW_wr (FW_wr h)⟩
theorem o148f {F nc : Nat} {σ τ : MS} {I0 : Nat → Int32} {t : Nat → Nat} {n v : Nat} (hn : nc < 12) (h : FW σ I0 t n v τ) : ∃ τ', M_readOrder_B148 F τ (nI (8 * nc)) = some ((), τ') ∧ FW σ I0 t n v τ' := by
  obtain ⟨τ1, a1, a2⟩ := rsumf (F := F) (j := 8 * nc + 3) (by omega) h
  unfold M_readOrder_B148
  rw [show nI (8 * nc) + 3 = nI (8 * nc + 3) from nI_add _ 3, a1, bs]
  exact o155f hn a2
theorem o125f {F nc : Nat} {x : Int32} {σ τ : MS} {I0 : Nat → Int32} {t : Nat → Nat} {n v : Nat} (hn : nc < 12) (h : FW σ I0 t n v τ) : ∃ τ', M_readOrder_B125 F τ x (nI (8 * nc)) = some ((), τ') ∧ FW σ I0 t n v τ' := by
  unfold M_readOrder_B125
  by_cases z : x = 2
  · rw [if_pos z, FW_19 h, if_neg (show ¬ (1 : Int32) = 0 by decide)]
    exact o148f hn h
  · rw [if_neg z]
    exact o155f hn h
/-- a number of the reference -/
theorem rw_number {F lo hi : Nat} {σ τ : MS} {I0 : Nat → Int32} {t : Nat → Nat} {n s b pa : Nat} {f g : Nat → Int32} (hF : 1000 ≤ F) (ht : ∀ i, t i < 256) (hl : lo ≤ 1000) (hh : hi ≤ 1000) (h : RW σ I0 t n s b pa none f g τ) : (nmB t n s lo hi = true ∧ ∃ τ', M_number F τ (lN lo) (lN hi) = some (nI (dvT t s (enT t n s - s)), τ') ∧ RW σ I0 t n (nxT t n s) b pa none f g τ') ∨ (nmB t n s lo hi = false ∧ ∃ v τ', M_number F τ (lN lo) (lN hi) = some (v, τ') ∧ RW σ I0 t n s b pa (some s) f g τ') := by
  obtain ⟨r1, r2, r3, -⟩ := rw_mi h
  obtain ⟨τ0, a1, a2⟩ := rw_must0 (F := F) h
  obtain ⟨τ1, b1, b2⟩ := rw_must1 (F := F) hF ht h
  unfold M_number M_number_B32 M_number_B33
  rw [r2, r3]
  by_cases z : kdT t n s = 2
  · have hd := dv_b t s ht (enT t n s - s)
    rw [if_pos (show nI (kdT t n s) = 2 by rw [z]; rfl), (kd_2 z).2, qm_inN (by omega) (by omega) (by omega), bs]
    by_cases y : lo ≤ dvT t s (enT t n s - s) ∧ dvT t s (enT t n s - s) ≤ hi
    · rw [if_pos y, if_neg (by decide), b1, bs, lN_i]
      exact Or.inl ⟨decide_eq_true ⟨z, y⟩, τ1, rfl, b2⟩
    · rw [if_neg y, if_pos rfl, a1, bs]
      exact Or.inr ⟨decide_eq_false (fun q => y q.2), _, τ0, rfl, a2⟩
  · rw [if_neg (show ¬ nI (kdT t n s) = 2 from fun q => z ((kd_i 2 (by decide)).mp q)), a1, bs]
    exact Or.inr ⟨decide_eq_false (fun q => z q.1), _, τ0, rfl, a2⟩
/-- the end of a clause of orders -/
theorem ordTest {F zs z nc k b0 e1 tm s0 s1 u0 u1 : Nat} {E : Nat → ClassId} {S : CS} {Ic : Nat → Int32} {σ : MS} {Im : Nat → Int32} {t : Nat → Nat} {n s a b pa : Nat} {A f g w : Nat → Int32} {T : CS} {τ : MS} {P0 P : va_W} {x4 q : Int32} {cl : Nat → Option Nat} (hF : 1000 ≤ F) (ht : ∀ i, t i < 256) (hT : ∀ w', TestL 19 true 1 F S Ic (mF σ 49 w') (upd Im 21 q) t n 0 (C_3_testD F 10)) (hc : RC S Ic t n s a 0 pa none A T) (hm : RW (mF σ 49 w) (upd Im 21 q) t n s b pa none f g τ) (ha : a + 1 ≤ s) (hb : b + 2 ≤ s) (hpa : pa ≤ 50) (ho : PO P0 P z [.int (nI k), .int (nI (2 * b0)), .int (nI (2 * e1)), .int (nI (2 * a)), .int x4, .int (nI tm)]) (sp : SP E P0 zs nc cl) (hz : zs + 2 < z) (hn : nc < 12) (hk : k < 4) (htm : tm ≤ 20) (w0 : w (8 * nc) = nI k) (w1 : w (8 * nc + 1) = nI s0) (w2 : w (8 * nc + 2) = nI s1) (w3 : w (8 * nc + 3) = nI u0) (w4 : w (8 * nc + 4) = nI u1) (w7 : w (8 * nc + 7) = nI tm) (hs : SmO A f g k b0 e1 a s0 s1 u0 u1 a b) : LOK 49 CLo E S Ic σ (upd Im 21 q) t n s zs z nc cl P0 A f g w a b (K_3_clause_B163 F E z T P 1 6 zs z) (M_readOrder_B203 F τ (nI (8 * nc))) ∨ LFL 49 S Ic σ Im t n z P0 (K_3_clause_B163 F E z T P 1 6 zs z) (M_readOrder_B203 F τ (nI (8 * nc))) := by
  have h23 : ∀ {w' : Nat → Int32} {τ' : MS} {s b pa : Nat} {fl : Option Nat} {f g : Nat → Int32}, RW (mF σ 49 w') (upd Im 21 q) t n s b pa fl f g τ' → mi τ' 23 = nI b := fun h => (rw_mi h).2.2.2.1
  have m1 := rd_wr (j := 8 * nc + 5) (x := nI b) (Or.inr rfl) hm
  have eM : M_readOrder_B203 F τ (nI (8 * nc)) = (M_isWord (mA τ 49 (8 * nc + 5) (nI b)) 294).bind fun q4 => if q4 = 0 then M_readOrder_B241 F (mA τ 49 (8 * nc + 5) (nI b)) (nI (8 * nc)) else (M_next F (mA τ 49 (8 * nc + 5) (nI b))).bind fun q5 => (M_readExpression F q5.2 (1 : Int32)).bind fun q6 => M_readOrder_B241 F q6.2 (nI (8 * nc)) := by
    unfold M_readOrder_B203
    rw [show nI (8 * nc) + 5 = nI (8 * nc + 5) from nI_add _ 5, chk_in (show 8 * nc + 5 < 96 by omega) (by decide), nI_clamp (by omega), h23 hm, stt_d, rw_19 m1, if_pos rfl]
  have e241 : ∀ {w' : Nat → Int32} {τ' : MS} {s b pa : Nat} {fl : Option Nat} {f g : Nat → Int32}, RW (mF σ 49 w') (upd Im 21 q) t n s b pa fl f g τ' → ∃ τ'', M_readOrder_B241 F τ' (nI (8 * nc)) = some ((), τ'') ∧ RW (mF σ 49 (upd w' (8 * nc + 6) (nI b))) (upd Im 21 q) t n s b pa fl f g τ'' := fun {w' τ' s b pa fl f g} h => by
    refine ⟨mA τ' 49 (8 * nc + 6) (nI b), ?_, rd_wr (Or.inr rfl) h⟩
    unfold M_readOrder_B241
    rw [show nI (8 * nc) + 6 = nI (8 * nc + 6) from nI_add _ 6, chk_in (show 8 * nc + 6 < 96 by omega) (by decide), nI_clamp (by omega), stt_d, h23 h]
  have wv : ∀ (x : Int32) (j : Nat), j ≠ 8 * nc + 5 → j ≠ 8 * nc + 6 → upd (upd w (8 * nc + 5) (nI b)) (8 * nc + 6) x j = w j := fun x j h1 h2 => by rw [pk_un h2, pk_un h1]
  rw [eM]
  rcases kc_163 (F := F) hF ht (hT _) hc m1 ha hb hpa ho sp hz hn with ⟨P', k1, k2, k3, k4, k5⟩ | ⟨T1, τ1, τ2, P', s', a', b', pa', A', f', g', φ, k1, k2, k3, k4, k5, k6, k7, k8, k9, k10, k11, k12, k13, k14, k15, k16, k17⟩ | ⟨v, T1, τ1, τ2, v1, k1, k2, k3, k4, k5, s1', b1, pa1, f1, g1, k6⟩
  · obtain ⟨τ3, d1, d2⟩ := e241 m1
    rw [k1, k2, bs, if_pos rfl, d1]
    refine Or.inl ⟨T, τ3, P', s, a, b, pa, A, f, g, _, _, rfl, rfl, hc, d2, Nat.le_refl _, ha, hpa, Nat.le_refl _, Nat.le_refl _, fun k _ => rfl, fun k _ => ⟨rfl, rfl⟩, fun j hj => wv _ j (by omega) (by omega), ?_, k3, k4, k5⟩
    exact ⟨k, b0, e1, a, a, tm, s0, s1, u0, u1, b, b, rfl, hk, htm, (wv _ _ (by omega) (by omega)).trans w0, (wv _ _ (by omega) (by omega)).trans w1, (wv _ _ (by omega) (by omega)).trans w2, (wv _ _ (by omega) (by omega)).trans w3, (wv _ _ (by omega) (by omega)).trans w4, by rw [pk_un (by omega), pk_us], pk_us, (wv _ _ (by omega) (by omega)).trans w7, hs, Nat.le_refl _, Nat.le_refl _, Nat.le_refl _, Or.inl ⟨Nat.le_refl _, Nat.le_refl _⟩⟩
  · obtain ⟨τ3, d1, d2⟩ := e241 k6
    rw [k1, k2, bs, if_neg (show ¬ (1 : Int32) = 0 by decide), k3, bs, k4, bs, d1]
    have aa : a ≤ a' := by have := k11.1.1; omega
    have bb : b ≤ b' := by have := k12.1.1; omega
    refine Or.inl ⟨T1, τ3, P', s', a', b', pa', A', f', g', _, _, rfl, rfl, k5, d2, by omega, by omega, k10, aa, bb, k13, k14, fun j hj => wv _ j (by omega) (by omega), ?_, k15, k16, k17⟩
    exact ⟨k, b0, e1, a, a', tm, s0, s1, u0, u1, b, b', rfl, hk, htm, (wv _ _ (by omega) (by omega)).trans w0, (wv _ _ (by omega) (by omega)).trans w1, (wv _ _ (by omega) (by omega)).trans w2, (wv _ _ (by omega) (by omega)).trans w3, (wv _ _ (by omega) (by omega)).trans w4, by rw [pk_un (by omega), pk_us], pk_us, (wv _ _ (by omega) (by omega)).trans w7, SmO_mv k13 k14 aa bb hs, Nat.le_refl _, bb, Nat.le_refl _, Or.inr ⟨φ, k11, k12⟩⟩
  · obtain ⟨τ3, d1, d2⟩ := e241 k6
    rw [k1, k2, bs, if_neg (show ¬ (1 : Int32) = 0 by decide), k3, bs, k4, bs, d1]
    exact Or.inr ⟨v, T1, τ3, P, v1, rfl, rfl, k5, ⟨_, _, _, _, _, _, _, d2⟩, ho.2⟩
