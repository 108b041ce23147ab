def bkI (G R : Nat → Int32) (k t : Nat) : Nat → Int32 := fun i => if i < t then G (5476 * k + i) else R i
theorem bkI_s (G R : Nat → Int32) (k t : Nat) : upd (bkI G R k t) t (G (5476 * k + t)) = bkI G R k (t + 1) := by
  funext i; rw [upd_d]; unfold bkI
  by_cases z : i = t
  · rw [if_pos z, if_pos (by omega), z]
  · rw [if_neg z]
    by_cases y : i < t
    · rw [if_pos y, if_pos (by omega)]
    · rw [if_neg y, if_neg (by omega)]
theorem bckL {F k : Nat} {σ : MS} (hk : k < 2) : ∀ (n t fuel : Nat), t + n = 5476 → n < fuel → M_back_L39 F (nI k) fuel (mF σ 3 (bkI (ma σ 4) (ma σ 3) k t)) (nI t) = some (0, mI (mI (mF σ 3 (bkI (ma σ 4) (ma σ 3) k 5476)) 8 0) 1 0)
  | 0, t, fuel + 1, e, _ => by
    obtain rfl : t = 5476 := by omega
    rw [M_back_L39, if_pos (by decide), show (0 : Int32) = nI 0 from rfl, qm_last0 _ (by decide), bs]; rfl
  | n + 1, t, fuel + 1, e, hf => by
    rw [M_back_L39, if_neg (show ¬ (5476 : Int32) ≤ nI t from nI_ge (b := 5476) (by omega) (by decide)), m54, chk_in (by omega) (by decide), chk_in (by omega) (by decide), nI_clamp (by omega), nI_clamp (by omega), stt_d, mA_F, mF_mF, ma_F, show ma (mF σ 3 (bkI (ma σ 4) (ma σ 3) k t)) 4 = ma σ 4 from rfl, bkI_s, ← nI_succ]
    exact bckL hk n (t + 1) fuel (by omega) (by omega)
theorem qm_bckL {F k : Nat} {σ : MS} (hF : 10000 ≤ F) (hk : k < 2) : M_back_L39 F (nI k) F σ 0 = some (0, mI (mI (mF σ 3 (bkI (ma σ 4) (ma σ 3) k 5476)) 8 0) 1 0) := by
  have := bckL (F := F) (σ := σ) hk 5476 0 F (by omega) (by omega)
  rw [show bkI (ma σ 4) (ma σ 3) k 0 = ma σ 3 from funext fun i => by unfold bkI; rw [if_neg (by omega)], mF_self] at this
  exact this
theorem bkI_im (G R : Nat → Int32) (k : Nat) {i : Nat} (hi : i < 5476) : bkI G R k 5476 i = imR G k i := by
  unfold bkI imR; rw [if_pos hi, if_pos hi]
theorem spL {F a : Nat} {E : Nat → ClassId} {P : va_W} {I : Nat → Int32} {A : Nat → Nat → Int32} {Q : Nat → Option Nat} (h : FT E P a I A Q) (hp : ∀ w, w < 6 → pok P 5 (Q w) = true) : ∀ (k j fuel : Nat) (S : CS), j + k = 6 → k < fuel → (∀ w, w < j → cq S 1 w = Q w) → ∃ T, C_7_becomeSP_L176 F E P 1 a fuel S (nI j) = some ((), T) ∧ ci T 1 = upd (upd (ci S 1) 14 (I 14)) 15 (I 15) ∧ ca T 1 = ca S 1 ∧ (∀ w, w < 6 → cq T 1 w = Q w) ∧ KB 1 S T
  | 0, j, fuel + 1, S, e, _, h2 => by
    rw [C_7_becomeSP_L176, if_pos (show (6 : Int32) ≤ nI j from nI_le (a := 6) (by omega) (by omega)), pI_o h.1 rfl, bs, stc_d, pI_o h.1 rfl, bs, stc_d, cI_O, cI_O S, ci_O, ca_O, cO_O]
    exact ⟨_, rfl, ci_O _ _ _ _, ca_O _ _ _ _, fun w hw => h2 w (by omega), kb_O _ _ _ _⟩
  | k + 1, j, fuel + 1, S, e, hf, h2 => by
    rw [C_7_becomeSP_L176, if_neg (show ¬ (6 : Int32) ≤ nI j from nI_ge (b := 6) (by omega) (by decide)), pR_o h.1 rfl, bs]
    unfold pldl
    rw [parL_o h.2.2.2.2.2.2.2.2.2.2.2, bs, chk_t (show inb (nI j) 6 = true from inb_nI (by omega) (by decide)), nI_clamp (by omega)]
    show ∃ T, chk (inb (nI j) 6 = true ∧ pok P 5 (Q j) = true) (stc (cQ S 1 j (Q j)) fun S7 => C_7_becomeSP_L176 F E P 1 a fuel S7 (nI j + 1)) = some ((), T) ∧ _
    rw [chk_t ⟨show inb (nI j) 6 = true from inb_nI (by omega) (by decide), hp j (by omega)⟩, stc_d, ← nI_succ]
    have e0 : ∀ w, cq (cQ S 1 j (Q j)) 1 w = if w = j then Q j else cq S 1 w := fun w => by
      show va_up S.2.2.2 1 (va_up (S.2.2.2 1) j (Q j)) 1 w = _
      rw [up_d, if_pos rfl, up_d]
    have e1 : ∀ o', o' ≠ 1 → cq (cQ S 1 j (Q j)) o' = cq S o' := fun o' z => by
      show va_up S.2.2.2 1 (va_up (S.2.2.2 1) j (Q j)) o' = _
      rw [up_d, if_neg z]
    obtain ⟨T, r1, r2, r3, r4, r5⟩ := spL (F := F) h hp k (j + 1) fuel (cQ S 1 j (Q j)) (by omega) (by omega) (fun w hw => by
      rw [e0]
      by_cases z : w = j
      · rw [if_pos z, z]
      · rw [if_neg z]; exact h2 w (by omega))
    have kb : KB 1 S (cQ S 1 j (Q j)) := ⟨fun o' z => ⟨rfl, rfl, e1 o' z⟩, rfl⟩
    exact ⟨T, r1, r2, r3, r4, kb.tr r5⟩
set_option maxHeartbeats 4000000 in
theorem qc_becomeSP {F a : Nat} {E : Nat → ClassId} {S : CS} {P : va_W} {I R : Nat → Int32} {A : Nat → Nat → Int32} {Q : Nat → Option Nat} (hF : 1000 ≤ F) (h : FT E P a I A Q) (t : TW I A R) (hp : ∀ w, w < 6 → pok P 5 (Q w) = true) : ∃ T, C_7_becomeSP F E P S 1 a = some ((), T) ∧ TW (ci T 1) (ca T 1) R ∧ (∀ w, w < 6 → cq T 1 w = Q w) ∧ KB 1 S T := by
  have k10 : cpok (0 : Int32) (0 : Int32) (10 : Int32) 10 10 = true := by decide
  have k4 : cpok (0 : Int32) (0 : Int32) (4 : Int32) 4 4 = true := by decide
  have k6 : cpok (0 : Int32) (0 : Int32) (6 : Int32) 6 6 = true := by decide
  have k3 : cpok (0 : Int32) (0 : Int32) (3 : Int32) 3 3 = true := by decide
  have n3 : (3 : Int32).toNatClampNeg = 3 := by decide
  obtain ⟨h0, h1, h2, h3, h4, h5, h6, h7, h8, h9, h10, h11⟩ := id h
  have r0 : pR P 7 a 0 = some (a + 1) := pR_o h0 rfl
  have r1 : pR P 7 a 1 = some (a + 2) := pR_o h0 rfl
  have r2 : pR P 7 a 2 = some (a + 3) := pR_o h0 rfl
  have r3 : pR P 7 a 3 = some (a + 4) := pR_o h0 rfl
  have r4 : pR P 7 a 4 = some (a + 5) := pR_o h0 rfl
  have r6 : pR P 7 a 6 = some (a + 6) := pR_o h0 rfl
  have r7 : pR P 7 a 7 = some (a + 7) := pR_o h0 rfl
  have r8 : pR P 7 a 8 = some (a + 8) := pR_o h0 rfl
  have r10 : pR P 7 a 10 = some (a + 9) := pR_o h0 rfl
  have r12 : pR P 7 a 12 = some (a + 10) := pR_o h0 rfl
  have i5 : pI P 7 a 5 = some (I 5) := pI_o h0 rfl
  have i9 : pI P 7 a 9 = some (I 9) := pI_o h0 rfl
  have i11 : pI P 7 a 11 = some (I 11) := pI_o h0 rfl
  unfold C_7_becomeSP
  simp only [r0, r1, r2, r3, r4, r6, r7, r8, r10, r12, i5, i9, i11, parE_o h1, parE_o h2, parE_o h3, parE_o h4, parE_o h5, parE_o h6, parE_o h7, parE_o h8, parE_o h9, parE_o h10, bs, chk_t k10, chk_t k4, chk_t k6, chk_t k3, stc_d, cF_O, cI_O, cO_O, ci_O, ca_O, cp_0, cp_4, cp_6, cp_10, n3]
  obtain ⟨T, q1, q2, q3, q4, q5⟩ := spL (F := F) (E := E) h hp 6 0 F (cO S 1 (upd (upd (upd (ci S 1) 5 (I 5)) 9 (I 9)) 11 (I 11)) (va_up (va_up (va_up (va_up (va_up (va_up (va_up (va_up (va_up (va_up (ca S 1) 0 (va_cpy (A 0) (ca S 1 0) 0 0 10)) 1 (va_cpy (A 1) (ca S 1 1) 0 0 10)) 2 (va_cpy (A 2) (ca S 1 2) 0 0 10)) 3 (va_cpy (A 3) (ca S 1 3) 0 0 10)) 4 (va_cpy (A 4) (ca S 1 4) 0 0 10)) 6 (va_cpy (A 6) (ca S 1 6) 0 0 4)) 7 (va_cpy (A 7) (ca S 1 7) 0 0 4)) 8 (va_cpy (A 8) (ca S 1 8) 0 0 4)) 10 (va_cpy (A 10) (ca S 1 10) 0 0 6)) 12 (va_cpy (A 12) (ca S 1 12) 0 0 3))) (by omega) (by omega) (fun w hw => by omega)
  rw [ci_O] at q2
  rw [ca_O] at q3
  refine ⟨T, q1, ?_, q4, (kb_O _ _ _ _).tr q5⟩
  rw [q2, q3]
  obtain ⟨⟨t1, t2, t3, t4, t5⟩, tl, tc, th, tt⟩ := t
  refine ⟨⟨t1, t2, t3, t4, t5⟩, fun j hj => ?_, fun j hj => ?_, fun j hj => ?_, fun j hj => ?_⟩
  · have e : ∀ f g : Nat → Int32, va_cpy f g 0 0 10 j = f j := fun f g => by rw [pk_cpy_in (by omega) (by omega)]; congr 1; omega
    refine ⟨?_, ?_, ?_, ?_, ?_⟩
    · exact (e _ _).trans (tl j hj).1
    · exact (e _ _).trans (tl j hj).2.1
    · exact (e _ _).trans (tl j hj).2.2.1
    · exact (e _ _).trans (tl j hj).2.2.2.1
    · exact (e _ _).trans (tl j hj).2.2.2.2
  · have e : ∀ f g : Nat → Int32, va_cpy f g 0 0 4 j = f j := fun f g => by rw [pk_cpy_in (by omega) (by omega)]; congr 1; omega
    refine ⟨?_, ?_, ?_⟩
    · exact (e _ _).trans (tc j hj).1
    · exact (e _ _).trans (tc j hj).2.1
    · exact (e _ _).trans (tc j hj).2.2
  · have e : ∀ f g : Nat → Int32, va_cpy f g 0 0 6 j = f j := fun f g => by rw [pk_cpy_in (by omega) (by omega)]; congr 1; omega
    exact (e _ _).trans (th j hj)
  · have e : ∀ f g : Nat → Int32, va_cpy f g 0 0 3 j = f j := fun f g => by rw [pk_cpy_in (by omega) (by omega)]; congr 1; omega
    exact (e _ _).trans (tt j hj)
theorem pa_40 {F : Nat} {E : Nat → ClassId} (hF : 10000 ≤ F) : ag_40 F E (Rel E) := fun S P σ x h => by
  have hh := rel_0 h 0
  obtain ⟨L, C, H, W, t, vr, lw, ⟨im, im'⟩, lg, tp, dr, ko, mi9⟩ := hh
  have i2 : (2 : Int32).toInt = 2 := by decide
  by_cases y : 0 ≤ x.toInt ∧ x.toInt < 2
  rotate_left
  · obtain ⟨T, τ, r1, r2, r3⟩ := ag_m1 h (-1) 1 (by decide) rfl (by decide)
    have eb : C_10_back_B13 F E P S = some (-1, T) := by
      unfold C_10_back_B13
      rw [r1, bs]
    refine ⟨(-1, T), τ, ?_, ?_, r3⟩
    · unfold C_10_back
      rw [eb]
      simp only [lt_i, i32_0, i2]
      by_cases w : x.toInt < 0
      · rw [if_pos w]
      · rw [if_neg w, if_neg (by omega)]
    · unfold M_back
      rw [stt_d, qm_in01, bs, if_pos, r2, bs]
      rcases isAt_01 x 2 with w | w
      · exact w
      · unfold isAt at w; rw [if_neg (by omega)] at w; exact absurd w (by decide)
  obtain ⟨k, hk, rfl⟩ : ∃ k : Nat, k < 2 ∧ x = nI k := ⟨x.toInt.toNat, by omega, nI_of' y.1⟩
  unfold C_10_back M_back
  rw [stt_d, qm_in01, bs, isAt_in hk (by decide), if_neg (show ¬ (1 : Int32) = 0 by decide), if_neg (nI_pos (by omega)), if_pos (show nI k < (2 : Int32) from nI_lt (b := 2) hk (by decide)), chk_in hk (by decide), nmq_d, chk_in hk (by decide), nI_clamp (by omega)]
  rcases im k hk with ⟨u1, u2⟩ | ⟨a, I, A, Q, L1, C1, H1, W1, u1, u2, u3, u4, u5, u6⟩
  · obtain ⟨T, τ, r1, r2, r3⟩ := ag_m1 h (-2) 2 (by decide) rfl (by decide)
    rw [u1, u2, if_pos rfl, r2, bs]
    refine ⟨(-2, T), τ, ?_, rfl, r3⟩
    show (C_10_refuse S (-2)).bind _ = _
    rw [r1, bs]
  · have ft := PT_FT u3
    obtain ⟨T, g1, g2, g3, g4⟩ := qc_becomeSP (F := F) (S := S) (by omega) ft u4 u6.2
    rw [u1, u2, if_neg (show ¬ (1 : Int32) = 0 by decide), qm_bckL (σ := mI σ 0 0) hF hk]
    refine ⟨(0, cI (cI T 7 2 0) 0 15 0), _, ?_, rfl, rel_acc ?_⟩
    · show (C_7_becomeSP F E P S 1 a).bind _ = _
      rw [g1, bs, stc_d, qc_accept, bs]
    · have e3 : ma (mI (mF (mI σ 0 0) 3 (bkI (ma (mI σ 0 0) 4) (ma (mI σ 0 0) 3) k 5476)) 8 0) 3 = bkI (ma σ 4) (ma σ 3) k 5476 := ma_F _ _ _
      have cE : ∀ o, o ≠ 1 → ci T o = ci S o ∧ ca T o = ca S o ∧ cq T o = cq S o := g4.1
      refine ⟨L1, C1, H1, W1, ?_, ?_, ?_, ?_, LG_0, ?_, ?_, ko, ?_⟩
      · rw [e3]; exact TW_R (fun i hi => bkI_im _ _ _ (by omega)) g2
      · rw [e3]; exact VR_R (fun i hi => bkI_im _ _ _ (by omega)) u5
      · rw [e3, show cq (cI T 7 2 0) 0 = cq S 0 from (cE 0 (by decide)).2.2]
        exact LWS_q u5.2.2.1.1 g3 (fun i _ b => bkI_im _ _ _ b) u6
      · rw [show cq (cI T 7 2 0) 0 = cq S 0 from (cE 0 (by decide)).2.2]; exact ⟨im, im'⟩
      · rw [show ci (cI T 7 2 0) 10 = ci S 10 from (cE 10 (by decide)).1, show ca (cI T 7 2 0) 10 = ca S 10 from (cE 10 (by decide)).2.1]; exact tp
      · rw [show ci (cI T 7 2 0) 3 = ci S 3 from (cE 3 (by decide)).1, show ca (cI T 7 2 0) 3 = ca S 3 from (cE 3 (by decide)).2.1]; exact dr
      · unfold MI at mi9 ⊢
        rw [show ci (cI T 7 2 0) 0 = ci S 0 from (cE 0 (by decide)).1, show ci (cI T 7 2 0) 9 = ci S 9 from (cE 9 (by decide)).1, show ca (cI T 7 2 0) 0 = ca S 0 from (cE 0 (by decide)).2.1]; exact mi9
