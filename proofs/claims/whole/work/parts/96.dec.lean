/-- draws -/
def nd (s : Nat) : Nat := (s * 1103 + 12345) % 1000003
theorem nd_lt (s : Nat) : nd s ≤ 1000002 := by unfold nd; have := Nat.mod_lt (s * 1103 + 12345) (show 0 < 1000003 by omega); omega
theorem nd_l {s : Nat} (hs : s ≤ 1000002) : (lN s * (1103 : Int64) + (12345 : Int64)) - (lN s * (1103 : Int64) + (12345 : Int64)) / (1000003 : Int64) * (1000003 : Int64) = lN (nd s) := by
  rw [show (1103 : Int64) = lN 1103 from rfl, show (12345 : Int64) = lN 12345 from rfl, show (1000003 : Int64) = lN 1000003 from rfl, lN_mul, lN_add, pk_lRem (by omega) (by omega) (by omega)]
  rfl
theorem qc_draw {s : Nat} (hs : s ≤ 1000002) : C_10_nextDraw (nI s) = some (nI (nd s)) := by
  unfold C_10_nextDraw
  rw [nI_l (by omega), nd_l hs, lN_i]
theorem qm_draw {σ : MS} {s m : Nat} (hs : s ≤ 1000002) (h : ml σ 54 = lN s) (h0 : 0 < m) (hm : m < 100) : M_draw σ (nI m) = some (nI (nd s % m), mL σ 54 (lN (nd s))) := by
  have hl := nd_lt s
  unfold M_draw
  rw [h, nd_l hs, stt_d, nI_l (by omega)]
  have e := ml_L σ 54 (lN (nd s))
  rw [e, chk_t (show ¬ lN m = 0 from fun z => by
    have := (pk_lEQ (a := m) (b := 0) (by omega) (by omega)).mp z; omega), pk_lRem (by omega) h0 (by omega), lN_i]
theorem kx_L (σ : MS) (k : Nat) (v : Int64) : KX σ (mL σ k v) := ⟨fun _ _ _ => rfl, fun _ _ _ => rfl, fun _ _ _ => rfl⟩
theorem KL.kx {σ τ : MS} (h : KL σ τ) : KX σ τ := h.kp.kx
theorem qc_passIn {E : Nat → ClassId} {P : va_W} {q : Option Nat} {LS : Nat → (Nat → Int) → Option Int} {F o L C h : Nat} {R : Nat → Int32} {S : CS} (lq : LQ E P R q LS) (hF : 1000 ≤ F) (ho : o ≠ 11) (ho2 : o ≠ 12) (va : VA R L C) (h5 : R 5 = nI h) (hh : h < 999) (hq : ∀ T : CS, ci T o = ci S o → cq T o = cq S o → C_7_lawInForce T o = some q) (t : TW (ci S o) (ca S o) R) : ∃ T, C_10_passIn F E P S o = some (nI (wnt LS R L C), T) ∧ TW (ci T o) (ca T o) (psR LS R L C) ∧ KZ o S T := by
  have hC := va.1.2.1
  obtain ⟨T, r1, r2, r3⟩ := passInL lq hF ho ho2 va hq C 0 F S (by omega) (by omega) rfl rfl (by rw [gA_0]; exact t)
  refine ⟨T, ?_, r2, r3⟩
  unfold C_10_passIn
  rw [t.2.2.2.2 0 (by omega), h5, if_pos (show nI h < (999 : Int32) from nI_lt (b := 999) hh (by decide))]
  exact r1
theorem qc_cryIn {E : Nat → ClassId} {P : va_W} {q : Option Nat} {LS : Nat → (Nat → Int) → Option Int} {F o L C c : Nat} {R : Nat → Int32} {S : CS} (lq : LQ E P R q LS) (hF : 1000 ≤ F) (ho : o ≠ 11) (ho2 : o ≠ 12) (va : VA R L C) (hc : c < C) (hq : ∀ T : CS, ci T o = ci S o → cq T o = cq S o → C_7_lawInForce T o = some q) (t : TW (ci S o) (ca S o) R) : (R (22 + c) = -1 → C_10_cryIn F E P S o (nI c) = some (-3, S)) ∧ ∀ l, l < L → R (22 + c) = nI l → ∃ U, C_10_cryIn F E P S o (nI c) = some (nI (sdN LS R c l), cA U o 4 l (nI (sdN LS R c l))) ∧ KW S U := by
  have hC := va.1.2.1
  have hL := va.1.1
  have e8 : ca S o 8 c = R (22 + c) := (t.2.2.1 c (by omega)).2.2
  have eC : C_7_hasChild S o (nI c) = some 1 := by rw [qc_hasChild hC (t.1.2.1.trans va.1.2.2.2), isAt_in hc (by omega)]
  unfold C_10_cryIn
  rw [eC, bs, if_neg (by decide), chk_in (by omega) (by decide), nI_clamp (by omega), e8, qc_hasLane hL (t.1.1.trans va.1.2.2.1)]
  refine ⟨fun z => ?_, fun l hl z => ?_⟩
  · rw [z, isAt_m1, bs, if_pos rfl]
  · obtain ⟨U, g1, g2⟩ := qc_said (S := S) lq hF ho ho2 (fun T k => hq T (by rw [k.1]) (by rw [k.2.2.1])) (t.tv (show c < 4 by omega)) va hc hl
    refine ⟨U, ?_, g2⟩
    rw [z, isAt_in hl (by omega), bs, if_neg (by decide), g1, bs, chk_in (by omega) (by decide), stc_d, chk_in (by omega) (by decide), nI_clamp (by omega)]
    have : ca (cA U o 4 l (nI (sdN LS R c l))) o 4 l = nI (sdN LS R c l) := by
      show ca (cF U o 4 (upd (ca U o 4) l _)) o 4 l = _
      rw [ca_cF, pk_us]
    show some (ca (cA U o 4 l (nI (sdN LS R c l))) o 4 l, _) = _
    rw [this]
theorem qm_cryIt {E : Nat → ClassId} {P : va_W} {q : Option Nat} {LS : Nat → (Nat → Int) → Option Int} {F L C c l : Nat} {σ : MS} (lq : LQ E P (ma σ 3) q LS) (hF : 1000 ≤ F) (va : VA (ma σ 3) L C) (hc : c < C) (hl : l < L) (e : ma σ 3 (22 + c) = nI l) (h20 : mi σ 20 = 0) : ∃ τ, M_cryIt F σ (nI c) = some (nI (sdN LS (ma σ 3) c l), mF τ 3 (upd (ma σ 3) (8 + l) (nI (sdN LS (ma σ 3) c l)))) ∧ KL σ τ := by
  have hC := va.1.2.1
  have hL := va.1.1
  obtain ⟨τ, m1, m2⟩ := qm_said (σ := σ) lq hF va hc hl h20
  refine ⟨τ, ?_, m2⟩
  unfold M_cryIt
  rw [a22, chk_in (by omega) (by decide), nI_clamp (by omega), e, m1, bs, a8, chk_in (by omega) (by decide), stt_d, chk_in (by omega) (by decide), nI_clamp (by omega), mA_F, congrFun m2.1 3, ma_F, pk_us]
/-- the row behind what a draw did -/
def dcA (LS : Nat → (Nat → Int) → Option Int) (R : Nat → Int32) (c x w : Nat) : Nat → Int32 := if w < 2 then (if R (22 + c) = -1 then R else upd R (8 + (R (22 + c)).toNatClampNeg) (nI (sdN LS R c (R (22 + c)).toNatClampNeg))) else if w = 2 then upd R (18 + c) (nI x) else R
theorem dcA_n {LS : Nat → (Nat → Int) → Option Int} {R : Nat → Int32} {L C c x w : Nat} (va : VA R L C) (hc : c < C) {i : Nat} (hi : i < 8 ∨ 26 ≤ i) : dcA LS R c x w i = R i := by
  have hC := va.1.2.1
  have hL := va.1.1
  obtain ⟨-, -, lst⟩ := va.2.2.1 c hc
  unfold dcA
  by_cases a : w < 2
  · rw [if_pos a]
    rcases lst with y | ⟨l, hl, y⟩
    · rw [if_pos y]
    · rw [if_neg (by rw [y]; exact nI_m1 (by omega)), y, nI_clamp (by omega), pk_un (by omega)]
  · rw [if_neg a]
    by_cases b : w = 2
    · rw [if_pos b, pk_un (by omega)]
    · rw [if_neg b]
theorem dcA_VA {LS : Nat → (Nat → Int) → Option Int} {R : Nat → Int32} {L C c x w : Nat} (va : VA R L C) (hc : c < C) (hx : x < 8) : VA (dcA LS R c x w) L C := by
  have hL := va.1.1
  obtain ⟨-, -, lst⟩ := va.2.2.1 c hc
  unfold dcA
  by_cases a : w < 2
  · rw [if_pos a]
    rcases lst with y | ⟨l, hl, y⟩
    · rw [if_pos y]; exact va
    · rw [if_neg (by rw [y]; exact nI_m1 (by omega)), y, nI_clamp (by omega)]
      exact VA_name hl (sdN_lt (va.2.1 l hl)) va
  · rw [if_neg a]
    by_cases b : w = 2
    · rw [if_pos b]; exact VA_lead hc hx va
    · rw [if_neg b]; exact va
theorem mA_self (σ : MS) (k j : Nat) : mA σ k j (ma σ k j) = σ := by rw [mA_F, upd_self, mF_self]
theorem b136 {F : Nat} {k65 : MS → Int32 → Option (Int32 × MS)} {σ : MS} {x2 x3 : Int32} {c x w : Nat} (hc : c < 4) (hw : w < 4) : M_decades_B136 F k65 σ x2 x3 (nI c) (nI x) (nI w) = (M_passIt F (mF σ 3 (if w = 2 then upd (ma σ 3) (18 + c) (nI x) else ma σ 3))).bind fun q8 => k65 q8.2 (x3 + 1) := by
  unfold M_decades_B136 M_decades_B166
  rw [a18, chk_in (by omega) (by decide), chk_in (by omega) (by decide), chk_in (by omega) (by decide), nI_clamp (by omega), stt_d, stt_d, mA_self]
  by_cases z : w = 2
  · rw [if_pos (show nI w = (2 : Int32) by rw [z]; rfl), if_pos z]; rfl
  · rw [if_neg (show ¬ nI w = (2 : Int32) from fun y => z ((nI_eq (b := 2) (by omega) (by decide)).mp y)), if_neg z, mF_self]
theorem decS {E : Nat → ClassId} {P : va_W} {q : Option Nat} {LS : Nat → (Nat → Int) → Option Int} {F L C c x w : Nat} {K : CS → Int32 → Int32 → Option (Int32 × CS)} {k65 : MS → Int32 → Option (Int32 × MS)} {S : CS} {σ : MS} {x2 y7 x4 u2 u3 : Int32} (lq : LQ E P (ma σ 3) q LS) (hF : 1000 ≤ F) (va : VA (ma σ 3) L C) (hc : c < C) (hx : x < 8) (hw : w < 4) (hq : ∀ T : CS, ci T 3 = ci S 3 → cq T 3 = cq S 3 → C_7_lawInForce T 3 = some q) (t : TW (ci S 3) (ca S 3) (ma σ 3)) (h20 : mi σ 20 = 0) : ∃ S1 σ1, (if nI w = 0 then C_10_decades_B134 F E P K S x2 y7 x4 (nI c) else if nI w = (1 : Int32) then C_10_decades_B134 F E P K S x2 y7 x4 (nI c) else if nI w = (2 : Int32) then (C_10_leadIn S 3 (nI c) (nI x)).bind fun y8 => C_10_decades_B167 F E P K y8.2 x2 y7 x4 else C_10_decades_B167 F E P K S x2 y7 x4) = C_10_decades_B167 F E P K S1 x2 y7 x4 ∧ (if (2 : Int32) ≤ nI w then M_decades_B136 F k65 σ u2 u3 (nI c) (nI x) (nI w) else chk (inb ((22 : Int32) + nI c) 5476 = true) (if ma σ 3 ((22 : Int32) + nI c).toNatClampNeg = (-1 : Int32) then M_decades_B136 F k65 σ u2 u3 (nI c) (nI x) (nI w) else (M_cryIt F σ (nI c)).bind fun q12 => M_decades_B136 F k65 q12.2 u2 u3 (nI c) (nI x) (nI w))) = ((M_passIt F σ1).bind fun q8 => k65 q8.2 (u3 + 1)) ∧ KZ 3 S S1 ∧ KX σ σ1 ∧ TW (ci S1 3) (ca S1 3) (dcA LS (ma σ 3) c x w) ∧ ma σ1 3 = dcA LS (ma σ 3) c x w ∧ ml σ1 54 = ml σ 54 := by
  have hC := va.1.2.1
  have hL := va.1.1
  rw [b136 (by omega) hw]
  by_cases a : w < 2
  · have ng : ¬ (2 : Int32) ≤ nI w := nI_ge (b := 2) a (by decide)
    have ec : (if nI w = 0 then C_10_decades_B134 F E P K S x2 y7 x4 (nI c) else if nI w = (1 : Int32) then C_10_decades_B134 F E P K S x2 y7 x4 (nI c) else if nI w = (2 : Int32) then (C_10_leadIn S 3 (nI c) (nI x)).bind fun y8 => C_10_decades_B167 F E P K y8.2 x2 y7 x4 else C_10_decades_B167 F E P K S x2 y7 x4) = C_10_decades_B134 F E P K S x2 y7 x4 (nI c) := by
      rcases (by omega : w = 0 ∨ w = 1) with rfl | rfl
      · exact if_pos rfl
      · rw [if_neg (by decide), if_pos (show nI 1 = (1 : Int32) from rfl)]
    rw [ec, if_neg ng, a22, chk_in (by omega) (by decide), nI_clamp (by omega), if_neg (show ¬ w = 2 by omega), mF_self]
    obtain ⟨cn, cy⟩ := qc_cryIn (S := S) (o := 3) lq hF (by decide) (by decide) va hc hq t
    unfold C_10_decades_B134
    have ed : dcA LS (ma σ 3) c x w = (if ma σ 3 (22 + c) = -1 then ma σ 3 else upd (ma σ 3) (8 + (ma σ 3 (22 + c)).toNatClampNeg) (nI (sdN LS (ma σ 3) c (ma σ 3 (22 + c)).toNatClampNeg))) := by unfold dcA; rw [if_pos a]
    rw [ed]
    obtain ⟨-, -, lst⟩ := va.2.2.1 c hc
    rcases lst with y | ⟨l, hl, y⟩
    · rw [cn y, bs, if_pos y, if_pos y]
      exact ⟨S, σ, rfl, rfl, KZ.rf, KX.rf, t, rfl, rfl⟩
    · have nz : ¬ nI l = (-1 : Int32) := nI_m1 (by omega)
      obtain ⟨U, u1, u2⟩ := cy l hl y
      obtain ⟨τ, m1, m2⟩ := qm_cryIt (σ := σ) lq hF va hc hl y h20
      rw [u1, bs, y, if_neg nz, if_neg nz, nI_clamp (by omega), m1, bs]
      have t2 := TW_KW (by decide) (by decide) u2 t
      refine ⟨_, mF τ 3 (upd (ma σ 3) (8 + l) (nI (sdN LS (ma σ 3) c l))), rfl, ?_, u2.kz.tr (kz_F _ (Or.inl rfl) _), m2.kx.tr (kx_3 _ _), TW_name (by omega) _ t2 (ca_cF _ _ _ _) (fun k a => ca_cFn _ _ _ _ _ _ (Or.inr a)), ma_F _ _ _, p54_cry rfl F _ _ _ m1⟩
      show M_decades_B136 F k65 (mF τ 3 (upd (ma σ 3) (8 + l) (nI (sdN LS (ma σ 3) c l)))) _ _ (nI c) (nI x) (nI w) = _
      rw [b136 (by omega) hw, if_neg (by omega), mF_self]
  · have pg : (2 : Int32) ≤ nI w := nI_le (a := 2) (by omega) (by omega)
    rw [if_neg (nI_ne0 (by omega) (by omega)), if_neg (show ¬ nI w = (1 : Int32) from fun y => by have := (nI_eq (b := 1) (by omega) (by decide)).mp y; omega), if_pos pg]
    have ed : dcA LS (ma σ 3) c x w = (if w = 2 then upd (ma σ 3) (18 + c) (nI x) else ma σ 3) := by unfold dcA; rw [if_neg a]
    rw [ed]
    by_cases b : w = 2
    · rw [if_pos (show nI w = (2 : Int32) by rw [b]; rfl), if_pos b]
      have e7 : ca S 3 7 c = ma σ 3 (18 + c) := (t.2.2.1 c (by omega)).2.1
      unfold C_10_leadIn
      rw [qc_isCorner, isAt_in hx (by omega), bs, if_neg (by decide), qc_hasChild hC (t.1.2.1.trans va.1.2.2.2), isAt_in hc (by omega), bs, if_neg (by decide), chk_in (by omega) (by decide), chk_in (by omega) (by decide), nI_clamp (by omega), e7]
      by_cases y : ma σ 3 (18 + c) = nI x
      · rw [if_pos y, bs]
        refine ⟨S, _, rfl, rfl, KZ.rf, kx_3 _ _, ?_, ma_F _ _ _, rfl⟩
        rw [← y, upd_self]; exact t
      · rw [if_neg y, stc_d, bs]
        exact ⟨_, _, rfl, rfl, kz_F _ (Or.inr (Or.inl rfl)) _, kx_3 _ _, TW_lead (by omega) _ t (ca_cF _ _ _ _) (fun k a => ca_cFn _ _ _ _ _ _ (Or.inr a)), ma_F _ _ _, rfl⟩
    · rw [if_neg (show ¬ nI w = (2 : Int32) from fun y => b ((nI_eq (b := 2) (by omega) (by decide)).mp y)), if_neg b, mF_self]
      exact ⟨S, σ, rfl, rfl, KZ.rf, KX.rf, t, rfl, rfl⟩
set_option maxHeartbeats 4000000 in
theorem decL {E : Nat → ClassId} {P : va_W} {q : Option Nat} {LS : Nat → (Nat → Int) → Option Int} {F L C N : Nat} {R0 I0 : Nat → Int32} {Q0 : Nat → Option Nat} (hF : 1000 ≤ F) (hN : N ≤ 60) (hC1 : 1 ≤ C) (hC : C ≤ 4) (hL : L ≤ 10) (hq : ∀ T : CS, ci T 3 = I0 → cq T 3 = Q0 → C_7_lawInForce T 3 = some q) : ∀ (k n fC fM s h : Nat) (S : CS) (σ : MS) (R : Nat → Int32), n + k = N → k < fC → k < fM → s ≤ 1000002 → R 5 = nI h → h ≤ 999 → ci S 3 = I0 → cq S 3 = Q0 → TW (ci S 3) (ca S 3) R → ma σ 3 = R → VA R L C → LQ E P R q LS → mi σ 20 = 0 → ml σ 54 = lN s → (∀ i, i < 5 ∨ 26 ≤ i → R i = R0 i) → ∃ (R' : Nat → Int32) (S' : CS) (σ' : MS), C_10_decades_L61 F E P (nI N) fC S (nI s) (nI n) = C_10_decades_B182 F E P S' ∧ M_decades_L65 F (nI N) fM σ (nI n) = M_decades_B178 F σ' ∧ TW (ci S' 3) (ca S' 3) R' ∧ ma σ' 3 = R' ∧ VA R' L C ∧ KZ 3 S S' ∧ KX σ σ' ∧ ∀ i, i < 5 ∨ 26 ≤ i → R' i = R0 i
  | 0, n, fC + 1, fM + 1, s, h, S, σ, R, e, _, _, hs, h5, hh, eI, eQ, t, e3, va, lq, h20, hl, far => by
    obtain rfl : n = N := by omega
    rw [C_10_decades_L61, if_pos (nI_le (Nat.le_refl _) (by omega)), M_decades_L65, if_pos (nI_le (Nat.le_refl _) (by omega))]
    exact ⟨R, S, σ, rfl, rfl, t, e3, va, KZ.rf, KX.rf, far⟩
  | k + 1, n, fC + 1, fM + 1, s, h, S, σ, R, e, hfC, hfM, hs, h5, hh, eI, eQ, t, e3, va, lq, h20, hl, far => by
    have e12 : ca S 3 12 0 = nI h := (t.2.2.2.2 0 (by omega)).trans h5
    have e5 : ma σ 3 5 = nI h := by rw [e3, h5]
    rw [C_10_decades_L61, if_neg (nI_ge (by omega) (by omega)), M_decades_L65, if_neg (nI_ge (by omega) (by omega)), e12, e5]
    by_cases hz : h = 999
    · rw [if_pos (by rw [hz]; decide), if_pos (by rw [hz]; decide)]
      exact ⟨R, S, σ, rfl, rfl, t, e3, va, KZ.rf, KX.rf, far⟩
    · have n999 : ¬ (999 : Int32) ≤ nI h := nI_ge (b := 999) (by omega) (by decide)
      have l1 := nd_lt s
      have l2 := nd_lt (nd s)
      have l3 := nd_lt (nd (nd s))
      have e9 : ci S 3 9 = nI C := t.1.2.1.trans va.1.2.2.2
      have e1 : ma σ 3 1 = nI C := by rw [e3]; exact va.1.2.2.2
      have em : (if (1 : Int32) < nI C then nI C else (1 : Int32)) = nI C := by
        by_cases z : C = 1
        · subst z; rfl
        · rw [if_pos (show (1 : Int32) < nI C from nI_lt (a := 1) (by omega) (by omega))]
      have k1 := qm_draw (σ := σ) hs hl (show 0 < C by omega) (by omega)
      have k2 := qm_draw (σ := mL σ 54 (lN (nd s))) (m := 8) l1 (ml_L _ _ _) (by omega) (by omega)
      have k3 := qm_draw (σ := mL (mL σ 54 (lN (nd s))) 54 (lN (nd (nd s)))) (m := 4) l2 (ml_L _ _ _) (by omega) (by omega)
      have k2' : M_draw (mL σ 54 (lN (nd s))) 8 = _ := k2
      have k3' : M_draw (mL (mL σ 54 (lN (nd s))) 54 (lN (nd (nd s)))) 4 = _ := k3
      have p4 : nI (nd (nd (nd s))) - nI (nd (nd (nd s))) / (4 : Int32) * (4 : Int32) = nI (nd (nd (nd s)) % 4) := pk_rem (d := 4) (by omega) (by omega) (by omega)
      have p8 : nI (nd (nd s)) - nI (nd (nd s)) / (8 : Int32) * (8 : Int32) = nI (nd (nd s) % 8) := pk_rem (d := 8) (by omega) (by omega) (by omega)
      have pC : nI (nd s) - nI (nd s) / nI C * nI C = nI (nd s % C) := pk_rem (by omega) (by omega) (by omega)
      have hc : nd s % C < C := Nat.mod_lt _ (by omega)
      have hx : nd (nd s) % 8 < 8 := Nat.mod_lt _ (by omega)
      have hw : nd (nd (nd s)) % 4 < 4 := Nat.mod_lt _ (by omega)
      rw [if_neg n999, if_neg n999, qc_draw hs, bs, e9, em, chk_t (show ¬ nI C = 0 from nI_ne0 (by omega) (by omega)), qc_draw l1, bs, qc_draw l2, bs, p4, p8, pC, e1, k1, bs, k2', bs, k3', bs]
      have lq3 : LQ E P (ma (mL (mL (mL σ 54 (lN (nd s))) 54 (lN (nd (nd s)))) 54 (lN (nd (nd (nd s))))) 3) q LS := by show LQ E P (ma σ 3) q LS; rw [e3]; exact lq
      have va3 : VA (ma (mL (mL (mL σ 54 (lN (nd s))) 54 (lN (nd (nd s)))) 54 (lN (nd (nd (nd s))))) 3) L C := by show VA (ma σ 3) L C; rw [e3]; exact va
      obtain ⟨S1, σ1, d1, d2, kz, kx0, tw, m3, ml0⟩ := decS (F := F) (K := C_10_decades_L61 F E P (nI N) fC) (k65 := M_decades_L65 F (nI N) fM) (S := S) (σ := mL (mL (mL σ 54 (lN (nd s))) 54 (lN (nd (nd s)))) 54 (lN (nd (nd (nd s))))) (x2 := nI N) (y7 := nI (nd (nd (nd s)))) (x4 := nI n) (u2 := nI N) (u3 := nI n) lq3 hF va3 hc hx hw (fun T a b => hq T (by rw [a]; exact eI) (by rw [b]; exact eQ)) (by show TW (ci S 3) (ca S 3) (ma σ 3); rw [e3]; exact t) h20
      have e3' : ma (mL (mL (mL σ 54 (lN (nd s))) 54 (lN (nd (nd s)))) 54 (lN (nd (nd (nd s))))) 3 = R := e3
      rw [e3'] at tw m3
      have ml1 : ml σ1 54 = lN (nd (nd (nd s))) := ml0.trans (ml_L _ _ _)
      have kx : KX σ σ1 := ((kx_L σ 54 _).tr ((kx_L _ 54 _).tr (kx_L _ 54 _))).tr kx0
      have va1 := dcA_VA (LS := LS) (w := nd (nd (nd s)) % 4) va hc hx
      have g5 : dcA LS R (nd s % C) (nd (nd s) % 8) (nd (nd (nd s)) % 4) 5 = nI h := by rw [dcA_n va hc (by omega)]; exact h5
      have lq1 : LQ E P (dcA LS R (nd s % C) (nd (nd s) % 8) (nd (nd (nd s)) % 4)) q LS := LQ_cg lq (dcA_n va hc (by omega)) (fun i hi => dcA_n va hc (by omega))
      obtain ⟨T, r1, r2, r3⟩ := qc_passIn (S := S1) (o := 3) lq1 hF (by decide) (by decide) va1 g5 (by omega) (fun T a b => hq T (by rw [a, kz.1]; exact eI) (by rw [b, kz.2.2.1]; exact eQ)) tw
      obtain ⟨τ, m1, m2⟩ := qm_passIt (σ := σ1) (by rw [m3]; exact lq1) hF (by rw [m3]; exact va1) (by rw [kx.2.1 20 (by decide) (by decide)]; exact h20)
      have ml2 := p54_pass ml1 F _ _ m1
      rw [m3] at m1 ml2
      obtain ⟨R', S', σ', c1, c2, c3, c4, c5, c6, c7, c8⟩ := decL (LS := LS) (R0 := R0) hF hN hC1 hC hL hq k (n + 1) fC fM (nd (nd (nd s))) (h + 1) T (mF τ 3 (psR LS (dcA LS R (nd s % C) (nd (nd s) % 8) (nd (nd (nd s)) % 4)) L C)) (psR LS (dcA LS R (nd s % C) (nd (nd s) % 8) (nd (nd (nd s)) % 4)) L C) (by omega) (by omega) (by omega) l3 (by unfold psR; rw [pk_us, g5, nI_succ]) (by omega) (by rw [r3.1, kz.1]; exact eI) (by rw [r3.2.2.1, kz.2.2.1]; exact eQ) r2 (ma_F _ _ _) (VA_ps va1 g5 (by omega)) (LQ_cg lq1 (psR_n hC (by omega)) (fun i hi => psR_n hC (by omega))) (by
        show mi τ 20 = 0
        rw [m2.2.1 20 (by decide) (by decide), kx.2.1 20 (by decide) (by decide)]; exact h20) ml2 (fun i hi => by rw [psR_n hC (by omega), dcA_n va hc (by omega)]; exact far i hi)
      refine ⟨R', S', σ', ?_, ?_, c3, c4, c5, (kz.tr r3).tr c6, ((kx.tr m2.kx).tr (kx_3 _ _)).tr c7, c8⟩
      · refine d1.trans ?_
        unfold C_10_decades_B167
        rw [r1, bs, ← nI_succ]; exact c1
      · refine d2.trans ?_
        rw [m1, bs, ← nI_succ]; exact c2
theorem snap16 {σ τ : MS} (e6 : ma τ 6 = kpt (ma σ 3) 16 (ma σ 6) 21) (far : ∀ i, i < 5 ∨ 26 ≤ i → ma τ 3 i = ma σ 3 i) : snap (ma τ 6) 16 (ma τ 3) = ma σ 3 := by
  funext i; unfold snap
  by_cases z : 5 ≤ i ∧ i < 26
  · rw [if_pos z, e6]; unfold kpt; rw [if_pos (by omega), show 5 + (21 * 16 + (i - 5) - 21 * 16) = i by omega]
  · rw [if_neg z]; exact far i (by omega)
theorem dec180 {F : Nat} {σ : MS} : ∀ (k j fuel : Nat) (f : Nat → Int32), j + k = 21 → k < fuel → (∀ i, i < j → f i = ma σ 3 (5 + i)) → ∃ f', M_decades_L180 F fuel (mF σ 55 f) (nI j) = ((M_namedOnes F (mI (mI (mF σ 55 f') 56 (ma σ 3 0)) 57 (ma σ 3 1))).bind fun q3 => (M_putBack F (mI (mI (mF σ 55 f') 56 (ma σ 3 0)) 57 (ma σ 3 1)) 16).bind fun q4 => (M_tell q4.2 q3).bind fun q5 => some (q5.1, q5.2)) ∧ ∀ i, i < 21 → f' i = ma σ 3 (5 + i)
  | 0, j, fuel + 1, f, e, _, h => by
    obtain rfl : j = 21 := by omega
    rw [M_decades_L180, if_pos (by decide)]
    exact ⟨f, rfl, h⟩
  | k + 1, j, fuel + 1, f, e, hf, h => by
    rw [M_decades_L180, if_neg (show ¬ (21 : Int32) ≤ nI j from nI_ge (b := 21) (by omega) (by decide)), a5, chk_in (by omega) (by decide), chk_in (by omega) (by decide), nI_clamp (by omega), nI_clamp (by omega), stt_d, mA_F, mF_mF, ma_F, ← nI_succ]
    refine dec180 k (j + 1) fuel _ (by omega) (by omega) (fun i hi => ?_)
    rw [upd_d]
    by_cases z : i = j
    · rw [if_pos z, z]; rfl
    · rw [if_neg z]; exact h i (by omega)
theorem cnt_small (R : Nat → Int32) {L : Nat} (hL : L ≤ 10) : cnt R L < 2 ^ 31 := by have := cnt_le R L; omega
set_option maxHeartbeats 4000000 in
theorem pa_37 {F : Nat} {E : Nat → ClassId} (hF : 1000 ≤ F) : ag_37 F E (Rel E) := fun S P σ x1 x2 h => by
  have hh := h
  obtain ⟨L, C, H, W, t, vr, lw, im, lg, tp, dr, ko, mi9⟩ := hh
  have hC4 := vr.1.1.2.1
  have hL := vr.1.1.1
  have e9 : ci S 1 9 = nI C := t.1.2.1.trans vr.1.1.2.2.2
  have e1 : ma (mI σ 0 0) 3 1 = nI C := vr.1.1.2.2.2
  have i60 : (60 : Int32).toInt = 60 := by decide
  have iM : (1000000 : Int32).toInt = 1000000 := by decide
  unfold C_10_decades M_decades C_10_decades_B22 M_decades_B29
  rw [stt_d, qm_in32 x1 0 1000000 0 1000000 rfl rfl, bs, qm_in32 x2 1 60 1 60 rfl rfl, bs, e9, e1]
  simp only [lt_i, le_i, i32_0, i32_1, i60, iM]
  obtain ⟨Tr, τr, r1, r2, r3⟩ := ag_m1 h (-1) 1 (by decide) rfl (by decide)
  rw [r1, r2, bs, bs]
  by_cases y : 0 ≤ x1.toInt ∧ x1.toInt ≤ 1000000
  rotate_left
  · rw [if_neg y, if_pos rfl]
    refine ⟨(-1, Tr), τr, ?_, rfl, r3⟩
    by_cases w : x1.toInt < 0
    · rw [if_pos w]
    · rw [if_neg w, if_pos (by omega)]
  rw [if_neg (show ¬ x1.toInt < 0 by omega), if_neg (show ¬ 1000000 < x1.toInt by omega), if_pos y, if_neg (show ¬ (1 : Int32) = 0 by decide)]
  by_cases z : 1 ≤ x2.toInt ∧ x2.toInt ≤ 60
  rotate_left
  · rw [if_neg z, if_pos rfl]
    refine ⟨(-1, Tr), τr, ?_, rfl, r3⟩
    by_cases w : x2.toInt < 1
    · rw [if_pos w]
    · rw [if_neg w, if_neg (by omega)]
  rw [if_neg (show ¬ x2.toInt < 1 by omega), if_pos z.2, if_pos z, if_neg (show ¬ (1 : Int32) = 0 by decide)]
  by_cases c0 : C = 0
  · subst c0
    obtain ⟨Tr, τr, r1, r2, r3⟩ := ag_m1 h (-3) 3 (by decide) rfl (by decide)
    rw [if_pos (show nI 0 = (0 : Int32) from rfl), if_pos (show nI 0 = (0 : Int32) from rfl), r1, r2, bs, bs]
    exact ⟨_, _, rfl, rfl, r3⟩
  rw [if_neg (nI_ne0 (by omega) (by omega)), if_neg (nI_ne0 (by omega) (by omega))]
  obtain ⟨s, hs, rfl⟩ : ∃ s : Nat, s ≤ 1000000 ∧ x1 = nI s := ⟨x1.toInt.toNat, by omega, nI_of' y.1⟩
  obtain ⟨N, hN, rfl⟩ : ∃ N : Nat, N ≤ 60 ∧ x2 = nI N := ⟨x2.toInt.toNat, by omega, nI_of' (by omega)⟩
  obtain ⟨q, LS, lq, eq⟩ := force_q (S := S) (o := 1) t.1.2.2.2.1 t.1.2.2.2.2 vr.2.2.1 lw
  obtain ⟨hr, hr1, hr2⟩ := vr.2.2.2
  obtain ⟨U, g1, g2, g3, g4⟩ := qc_become (F := F) (E := E) (S := S) (o0 := 3) (o1 := 1) hF (by decide) t lw.2
  have hq' : ∀ T : CS, ci T 3 = ci U 3 → cq T 3 = cq U 3 → C_7_lawInForce T 3 = some q := fun T a b => by
    rw [← eq S rfl rfl]
    refine lif_cg ?_ ?_ (fun w hw => ?_)
    · rw [a, g2.1.2.2.2.1, t.1.2.2.2.1]
    · rw [a, g2.1.2.2.2.2, t.1.2.2.2.2]
    · rw [b]; exact g3 w hw
  obtain ⟨R', S', σ', c1, c2, c3, c4, c5, c6, c7, c8⟩ := decL (F := F) (L := L) (C := C) (N := N) (LS := LS) (R0 := ma σ 3) hF hN (by omega) hC4 hL hq' N 0 F F s hr U (mL (kp16 (mI σ 0 0)) 54 (nI s).toInt64) (ma σ 3) (by omega) (by omega) (by omega) (by omega) hr2 hr1 rfl rfl g2 rfl vr.1 lq ko.1 ((ml_L _ _ _).trans (nI_l (by omega))) (fun _ _ => rfl)
  rw [g1, bs, qm_keep16 hF, bs, stt_d]
  show ∃ q σ1, C_10_decades_L61 F E P (nI N) F U (nI s) (nI 0) = some q ∧ M_decades_L65 F (nI N) F (mL (kp16 (mI σ 0 0)) 54 (nI s).toInt64) (nI 0) = some (q.1, σ1) ∧ Rel E q.2 P σ1
  rw [c1, c2]
  unfold C_10_decades_B182 M_decades_B178
  obtain ⟨f', d1, d2⟩ := dec180 (F := F) (σ := σ') 21 0 F (ma σ' 55) (by omega) (by omega) (fun i hi => by omega)
  rw [mF_self] at d1
  have d1' : M_decades_L180 F F σ' 0 = _ := d1
  have v0 : R' 0 = nI L := c5.1.2.2.1
  have v1 : R' 1 = nI C := c5.1.2.2.2
  have nC := qc_namedLanes (F := F) (S := S') (o := 3) (R := R') (by omega) hL (c3.1.1.trans v0) (fun j hj => (c3.2.1 j hj).2.2.2.2)
  have nM := qm_namedOnes (F := F) (σ := mI (mI (mF σ' 55 f') 56 (ma σ' 3 0)) 57 (ma σ' 3 1)) (by omega) hL (show ma σ' 3 0 = nI L by rw [c4]; exact v0)
  have nM' : M_namedOnes F (mI (mI (mF σ' 55 f') 56 (ma σ' 3 0)) 57 (ma σ' 3 1)) = some (nI (cnt R' L)) := by rw [nM]; show some (nI (cnt (ma σ' 3) L)) = _; rw [c4]
  have pb := qm_putBack (F := F) (σ := mI (mI (mF σ' 55 f') 56 (ma σ' 3 0)) 57 (ma σ' 3 1)) (m := 16) (by omega) (by omega)
  have pb' : M_putBack F (mI (mI (mF σ' 55 f') 56 (ma σ' 3 0)) 57 (ma σ' 3 1)) 16 = _ := pb
  have k6 : ma σ' 6 = kpt (ma σ 3) 16 (ma σ 6) 21 := c7.1 6 (by decide) (by decide)
  have sn : snap (ma (mI (mI (mF σ' 55 f') 56 (ma σ' 3 0)) 57 (ma σ' 3 1)) 6) 16 (ma (mI (mI (mF σ' 55 f') 56 (ma σ' 3 0)) 57 (ma σ' 3 1)) 3) = ma σ 3 := snap16 (σ := σ) (τ := σ') k6 (fun i hi => by rw [c4]; exact c8 i hi)
  rw [sn] at pb'
  rw [nC, bs, qc_accept, bs, d1', nM', bs, pb', bs, qm_tell0 _ (cnt_small R' hL), bs]
  refine ⟨_, _, rfl, rfl, rel_acc ?_⟩
  have ciE : ∀ o, o ≠ 3 → ci S' o = ci S o := fun o ho => by rw [c6.1]; exact (g4.1 o ho).1
  have cqE : ∀ o, o ≠ 3 → cq S' o = cq S o := fun o ho => by rw [c6.2.2.1]; exact (g4.1 o ho).2.2
  have caE : ∀ o k, o ≠ 3 → o ≠ 11 → o ≠ 12 → ca S' o k = ca S o k := fun o k ho a b => by rw [c6.2.2.2 o k b a (Or.inl ho), (g4.1 o ho).2.1]
  have maE : ∀ k, k ≠ 3 → k ≠ 6 → k ≠ 41 → k ≠ 55 → ma (mF (mI (mI (mF σ' 55 f') 56 (ma σ' 3 0)) 57 (ma σ' 3 1)) 3 (ma σ 3)) k = ma σ k := fun k a b c d => by
    show va_up (va_up σ'.2.2.1 55 f') 3 (ma σ 3) k = _
    rw [up_d, if_neg a, up_d, if_neg d, show σ'.2.2.1 k = ma σ' k from rfl, c7.1 k a c]
    show va_up σ.2.2.1 6 _ k = _
    rw [up_d, if_neg b]
  have m3 : ma (mF (mI (mI (mF σ' 55 f') 56 (ma σ' 3 0)) 57 (ma σ' 3 1)) 3 (ma σ 3)) 3 = ma σ 3 := ma_F _ _ _
  have miE : ∀ k, k ≠ 34 → k ≠ 38 → k ≠ 56 → k ≠ 57 → mi (mF (mI (mI (mF σ' 55 f') 56 (ma σ' 3 0)) 57 (ma σ' 3 1)) 3 (ma σ 3)) k = mi (mI σ 0 0) k := fun k a b c d => by
    show upd (upd σ'.1 56 _) 57 _ k = _
    rw [pk_un d, pk_un c]; exact c7.2.1 k a b
  have mbE : ∀ k, k ≠ 35 → k ≠ 37 → mb (mF (mI (mI (mF σ' 55 f') 56 (ma σ' 3 0)) 57 (ma σ' 3 1)) 3 (ma σ 3)) k = mb σ k := fun k a b => c7.2.2 k a b
  have m6 : ∀ j, j < 336 → ma (mF (mI (mI (mF σ' 55 f') 56 (ma σ' 3 0)) 57 (ma σ' 3 1)) 3 (ma σ 3)) 6 j = ma σ 6 j := fun j hj => by
    show ma σ' 6 j = _
    rw [k6]; unfold kpt; rw [if_neg (by omega)]
  refine ⟨L, C, H, W, ?_, ?_, ?_, ?_, ?_, ?_, ?_, ?_, ?_⟩
  · rw [m3, ciE 1 (by decide), show ca S' 1 = ca S 1 from funext fun k => caE 1 k (by decide) (by decide) (by decide)]; exact t
  · rw [m3]; exact vr
  · rw [m3, cqE 0 (by decide), cqE 1 (by decide)]; exact lw
  · rw [cqE 0 (by decide), maE 4 (by decide) (by decide) (by decide) (by decide), maE 5 (by decide) (by decide) (by decide) (by decide)]; exact im
  · rw [m3, caE 7 0 (by decide) (by decide) (by decide), ciE 7 (by decide), maE 7 (by decide) (by decide) (by decide) (by decide), miE 8 (by decide) (by decide) (by decide) (by decide)]
    exact LG_cg lg m6
  · rw [caE 10 0 (by decide) (by decide) (by decide), ciE 10 (by decide), maE 12 (by decide) (by decide) (by decide) (by decide), miE 13 (by decide) (by decide) (by decide) (by decide)]; exact tp
  · have d55 : ma (mF (mI (mI (mF σ' 55 f') 56 (ma σ' 3 0)) 57 (ma σ' 3 1)) 3 (ma σ 3)) 55 = f' := rfl
    rw [d55]
    refine Or.inr ⟨L, C, hL, hC4, c3.1.1.trans v0, ?_, c3.1.2.1.trans v1, ?_, fun j hj => ?_, fun j hj => ?_⟩
    · show ma σ' 3 0 = _; rw [c4]; exact v0
    · show ma σ' 3 1 = _; rw [c4]; exact v1
    · rw [(c3.2.2.1 j hj).2.1, d2 _ (by omega), c4]; congr 1; omega
    · rw [(c3.2.1 j hj).2.2.2.2, d2 _ (by omega), c4]; congr 1; omega
  · unfold KO at ko ⊢
    rw [miE 20 (by decide) (by decide) (by decide) (by decide), mbE 31 (by decide) (by decide), mbE 32 (by decide) (by decide), mbE 33 (by decide) (by decide), mbE 48 (by decide) (by decide)]; exact ko
  · unfold MI at mi9 ⊢
    rw [ciE 0 (by decide), ciE 9 (by decide), caE 0 13 (by decide) (by decide) (by decide), maE 2 (by decide) (by decide) (by decide) (by decide), miE 1 (by decide) (by decide) (by decide) (by decide), miE 52 (by decide) (by decide) (by decide) (by decide), miE 11 (by decide) (by decide) (by decide) (by decide), miE 18 (by decide) (by decide) (by decide) (by decide)]; exact mi9
