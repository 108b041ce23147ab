/-- the row laid into an image -/
def cpI (G R : Nat → Int32) (k t : Nat) : Nat → Int32 := fun j => if 5476 * k ≤ j ∧ j < 5476 * k + t then R (j - 5476 * k) else G j
theorem cpI_s (G R : Nat → Int32) (k t : Nat) : upd (cpI G R k t) (5476 * k + t) (R t) = cpI G R k (t + 1) := by
  funext j; rw [upd_d]; unfold cpI
  by_cases z : j = 5476 * k + t
  · rw [if_pos z, if_pos (by omega), show j - 5476 * k = t by omega]
  · rw [if_neg z]
    by_cases y : 5476 * k ≤ j ∧ j < 5476 * k + t
    · rw [if_pos y, if_pos (by omega)]
    · rw [if_neg y, if_neg (by omega)]
theorem m54 (k t : Nat) : (5476 : Int32) * nI k + nI t = nI (5476 * k + t) := by
  rw [show (5476 : Int32) = nI 5476 from rfl, pk_mul, nI_add]
theorem imgL {F k : Nat} {σ : MS} (hk : k < 2) : ∀ (n t fuel : Nat), t + n = 5476 → n < fuel → M_image_L23 F (nI k) fuel (mF σ 4 (cpI (ma σ 4) (ma σ 3) k t)) (nI t) = some (0, mI (mA (mF σ 4 (cpI (ma σ 4) (ma σ 3) k 5476)) 5 k 1) 1 0)
  | 0, t, fuel + 1, e, _ => by
    obtain rfl : t = 5476 := by omega
    rw [M_image_L23, if_pos (by decide), chk_in hk (by decide), stt_d, nI_clamp (by omega), qm_tell0', bs]
  | n + 1, t, fuel + 1, e, hf => by
    rw [M_image_L23, if_neg (show ¬ (5476 : Int32) ≤ nI t from nI_ge (b := 5476) (by omega) (by decide)), m54, chk_in (by omega) (by decide), chk_in (by omega) (by decide), nI_clamp (by omega), nI_clamp (by omega), stt_d, mA_F, mF_mF, ma_F, show ma (mF σ 4 (cpI (ma σ 4) (ma σ 3) k t)) 3 = ma σ 3 from rfl, cpI_s, ← nI_succ]
    exact imgL hk n (t + 1) fuel (by omega) (by omega)
theorem qm_imgL {F k : Nat} {σ : MS} (hF : 10000 ≤ F) (hk : k < 2) : M_image_L23 F (nI k) F σ 0 = some (0, mI (mA (mF σ 4 (cpI (ma σ 4) (ma σ 3) k 5476)) 5 k 1) 1 0) := by
  have := imgL (F := F) (σ := σ) hk 5476 0 F (by omega) (by omega)
  rw [show cpI (ma σ 4) (ma σ 3) k 0 = ma σ 4 from funext fun j => by unfold cpI; rw [if_neg (by omega)], mF_self] at this
  exact this
theorem imR_k (G R : Nat → Int32) (k : Nat) {i : Nat} (hi : i < 5476) : imR (cpI G R k 5476) k i = R i := by
  unfold imR cpI; rw [if_pos hi, if_pos (by omega), show 5476 * k + i - 5476 * k = i by omega]
theorem imR_n (G R : Nat → Int32) {k k' : Nat} (h : k' ≠ k) : imR (cpI G R k 5476) k' = imR G k' := by
  funext i; unfold imR cpI
  by_cases z : i < 5476
  · rw [if_pos z, if_pos z, if_neg (by omega)]
  · rw [if_neg z, if_neg z]
theorem TW_R {I : Nat → Int32} {A : Nat → Nat → Int32} {R R' : Nat → Int32} (h : ∀ i, i < 76 → R' i = R i) (t : TW I A R) : TW I A R' := by
  obtain ⟨⟨t1, t2, t3, t4, t5⟩, tl, tc, th, tt⟩ := t
  refine ⟨⟨by rw [h _ (by omega)]; exact t1, by rw [h _ (by omega)]; exact t2, by rw [h _ (by omega)]; exact t3, by rw [h _ (by omega)]; exact t4, by rw [h _ (by omega)]; exact t5⟩, fun j hj => ?_, fun j hj => ?_, fun j hj => ?_, fun j hj => ?_⟩
  · rw [h _ (by omega), h _ (by omega), h _ (by omega), h _ (by omega), h _ (by omega)]; exact tl j hj
  · rw [h _ (by omega), h _ (by omega), h _ (by omega)]; exact tc j hj
  · rw [h _ (by omega)]; exact th j hj
  · rw [h _ (by omega)]; exact tt j hj
theorem VR_R {R R' : Nat → Int32} {L C H W : Nat} (h : ∀ i, i < 76 → R' i = R i) (v : VR R L C H W) : VR R' L C H W := ⟨VA_cg (fun i hi => h i (by omega)) v.1, VH_cg (h 2 (by omega)) (fun i _ b => h i b) v.2.1, VF_cg (h 3 (by omega)) (h 4 (by omega)) v.2.2.1, hO_cg (h 5 (by omega)) v.2.2.2⟩
/-- an image is laid -/
theorem rel_image {E : Nat → ClassId} {S : CS} {P P' : va_W} {σ : MS} {k a : Nat} {I' : Nat → Int32} {A' : Nat → Nat → Int32} {Q' q' : Nat → Option Nat} (h : Rel E S P σ) (hk : k < 2) (hq : q' k = some a) (hqn : ∀ j, j ≠ k → q' j = cq S 0 j) (ft : FT E P' a I' A' Q') (tw : TW I' A' (ma σ 3)) (hQ : ∀ w, w < 6 → Q' w = cq S 1 w) (fr : ∀ b, b < a ∨ a + 12 ≤ b → fnd P' b = fnd P b) (m : ∀ b, ¬ imZ (cq S 0) b → fnd P b ≠ none → fnd P' b = fnd P b ∧ ¬ imZ q' b) (m5 : ∀ b fs, fnd P b = some (.inr (5, fs)) → fnd P' b = fnd P b) (dj : ∀ b, cq S 0 (1 - k) = some b → a + 12 ≤ b ∨ b + 12 ≤ a) : Rel E (S.1, S.2.1, S.2.2.1, va_up S.2.2.2 0 q') P' (mA (mF σ 4 (cpI (ma σ 4) (ma σ 3) k 5476)) 5 k 1) := by
  obtain ⟨L, C, H, W, h1, h2, h3, ⟨h4, h4'⟩, h5, h6, h7, h8, h9⟩ := h
  have e0 : cq (S.1, S.2.1, S.2.2.1, va_up S.2.2.2 0 q') 0 = q' := rfl
  have e1 : cq (S.1, S.2.1, S.2.2.1, va_up S.2.2.2 0 q') 1 = cq S 1 := rfl
  have hW := h2.2.2.1.1
  refine ⟨L, C, H, W, h1, h2, ?_, ?_, h5, h6, h7, h8, h9⟩
  · rw [e0, e1]; exact LWS_mv m m5 h3
  · rw [e0]
    show IM E P' q' (cpI (ma σ 4) (ma σ 3) k 5476) (upd (ma σ 5) k 1)
    refine ⟨fun j hj => ?_, fun x y hx hy => ?_⟩
    · by_cases z : j = k
      · subst z
        refine Or.inr ⟨a, I', A', Q', L, C, H, W, hq, pk_us, FT_PT ft, TW_R (fun i hi => imR_k _ _ _ (by omega)) tw, VR_R (fun i hi => imR_k _ _ _ (by omega)) h2, ?_⟩
        exact LWS_q hW hQ (fun i _ b => imR_k _ _ _ b) (LWS_mv m m5 h3)
      · rw [hqn j z, pk_un z, imR_n _ _ z]
        rcases h4 j hj with ⟨u1, u2⟩ | ⟨b, I, A, Q, L1, C1, H1, W1, u1, u2, u3, u4, u5, u6⟩
        · exact Or.inl ⟨u1, u2⟩
        · have d := dj b (by rw [show 1 - k = j by omega]; exact u1)
          exact Or.inr ⟨b, I, A, Q, L1, C1, H1, W1, u1, u2, FT_PT (FT_mv (fun x x1 x2 => fr x (by omega)) (PT_FT u3)), u4, u5, LWS_mv m m5 u6⟩
    · rcases (by omega : k = 0 ∨ k = 1) with rfl | rfl
      · rw [hq] at hx; cases hx
        rw [hqn 1 (by decide)] at hy
        exact dj y hy
      · rw [hq] at hy; cases hy
        rw [hqn 0 (by decide)] at hx
        have := dj x hx; omega
theorem FT_some {E : Nat → ClassId} {P : va_W} {a : Nat} {I : Nat → Int32} {A : Nat → Nat → Int32} {Q : Nat → Option Nat} (h : FT E P a I A Q) : fnd P (a + 11) ≠ none := by
  rw [h.2.2.2.2.2.2.2.2.2.2.2]; intro z; cases z
theorem c_b45 {F z ce se a : Nat} {E : Nat → ClassId} {S : CS} {P P' : va_W} {I : Nat → Int32} {A : Nat → Nat → Int32} {Q : Nat → Option Nat} (h : FT E P a I A Q) (hm : mkok P z ce = true) (h1 : ce ≤ 12) (h2 : se ≤ 116) (e : K_7_becomePS F E (z + ce) S P a 1 = some ((), S, P')) : K_10_image_B45 F E z S P ce se a = some (0, cI S 0 15 0, P') := by
  unfold K_10_image_B45
  rw [chk_t (show (pobj P 7 a).isSome = true by rw [pobj_o h.1]; rfl), chk_t ⟨hm, by omega, by omega⟩, e, bs, chk_t ⟨by omega, by omega⟩, qc_accept, bs, chk_t ⟨by omega, by omega⟩]
theorem pa_39 {F : Nat} {E : Nat → ClassId} (hF : 10000 ≤ F) : ag_39 F E (Rel E) := fun S P σ z x h hz => by
  have hh := h
  obtain ⟨L, C, H, W, t, vr, lw, ⟨im, im'⟩, -, -, -, -, -⟩ := hh
  have i2 : (2 : Int32).toInt = 2 := by decide
  have bad : ¬ (0 ≤ x.toInt ∧ x.toInt < 2) → ∃ (q : Int32 × CS × va_W) (σ1 : MS), K_10_image F E z S P x = some q ∧ M_image F σ x = some (q.1, σ1) ∧ Rel E q.2.1 q.2.2 σ1 := fun y => by
    obtain ⟨T, τ, r1, r2, r3⟩ := ag_m1 h (-1) 1 (by decide) rfl (by decide)
    have eb : K_10_image_B13 F E z S P 0 0 = some (-1, T, P) := by
      unfold K_10_image_B13
      rw [chk_t (by decide), r1, bs, chk_t (by decide)]
    refine ⟨(-1, T, P), τ, ?_, ?_, r3⟩
    · unfold K_10_image
      rw [eb]
      simp only [lt_i, i32_0, i2]
      by_cases w : x.toInt < 0
      · rw [if_pos w]
      · rw [if_neg w, if_neg (by omega)]
    · unfold M_image
      rw [stt_d, qm_in01, bs, if_pos, r2, bs]
      rcases isAt_01 x 2 with w | w
      · exact w
      · unfold isAt at w; rw [if_neg (by omega)] at w; exact absurd w (by decide)
  by_cases y : 0 ≤ x.toInt ∧ x.toInt < 2
  rotate_left
  · exact bad y
  obtain ⟨k, hk, rfl⟩ : ∃ k : Nat, k < 2 ∧ x = nI k := ⟨x.toInt.toNat, by omega, nI_of' y.1⟩
  have eM : M_image F σ (nI k) = some (0, mI (mA (mF (mI σ 0 0) 4 (cpI (ma σ 4) (ma σ 3) k 5476)) 5 k 1) 1 0) := by
    unfold M_image
    rw [stt_d, qm_in01, bs, isAt_in hk (by decide), if_neg (by decide)]
    exact qm_imgL (σ := mI σ 0 0) hF hk
  unfold K_10_image
  rw [eM, if_neg (nI_pos (by omega)), if_pos (show nI k < (2 : Int32) from nI_lt (b := 2) hk (by decide)), chk_in hk (by decide), nmq_d, nI_clamp (by omega)]
  have other : ∀ b, cq S 0 (1 - k) = some b → ∃ I A Q, FT E P b I A Q := fun b hb => by
    rcases im (1 - k) (by omega) with ⟨u1, -⟩ | ⟨b', I, A, Q, L1, C1, H1, W1, u1, u2, u3, -⟩
    · rw [u1] at hb; cases hb
    · rw [u1] at hb; cases hb; exact ⟨I, A, Q, PT_FT u3⟩
  rcases im k hk with ⟨u1, -⟩ | ⟨a, I, A, Q, L1, C1, H1, W1, u1, u2, u3, -⟩
  · rw [u1]
    have hn : ∀ b, z ≤ b → fnd P b = none := fun b hb => by
      cases e : fnd P b with
      | none => rfl
      | some v => have := fnd_lt hz (b := b) (by rw [e]; intro q; cases q); omega
    have s6 : fnd (P ++ [(z, .inr (7, [.null, .null, .null, .null, .null, .int 0, .null, .null, .null, .int 0, .null, .int 0, .null, .null, .int 0, .int 0]))]) z = some (.inr (7, [.null, .null, .null, .null, .null, .int 0, .null, .null, .null, .int 0, .null, .int 0, .null, .null, .int 0, .int 0])) := by rw [fnd_app, hn z (Nat.le_refl _)]; exact if_pos rfl
    have f6 : ∀ b, b ≠ z → fnd (P ++ [(z, .inr (7, [.null, .null, .null, .null, .null, .int 0, .null, .null, .null, .int 0, .null, .int 0, .null, .null, .int 0, .int 0]))]) b = fnd P b := fun b hb => by
      rw [fnd_app]
      cases fnd P b with
      | some x => rfl
      | none => exact if_neg hb
    obtain ⟨P1, I1, A1, Q1, k1, k2, k3⟩ := qk_init (E := E) (S := S) hn s6 f6
    have m51 : ∀ b fs, fnd P b = some (.inr (5, fs)) → fnd P1 b = fnd P b := fun b fs hb => k3 b (Or.inl (fnd_lt hz (by rw [hb]; intro q; cases q)))
    obtain ⟨P2, I2, A2, Q2, b1, b2, b3, b4, b5⟩ := qk_becomePS (F := F) (z := z + 12) (S := cQ S 0 k (some z)) (R := ma σ 3) (by omega) k2 t (fun w hw => pok_mv m51 (lw.2 w hw))
    have ok12 : mkok P1 z 12 = true := mkok_f (b := z + 11) k2.2.2.2.2.2.2.2.2.2.2.2 (by omega)
    have cb := c_b45 (F := F) (z := z) (ce := 12) (se := 116) (S := cQ S 0 k (some z)) k2 ok12 (by omega) (by omega) b1
    have m1 : mkok (P ++ [(z, .inr (7, [.null, .null, .null, .null, .null, .int 0, .null, .null, .null, .int 0, .null, .int 0, .null, .null, .int 0, .int 0]))]) z 1 = true := mkok_f (b := z) s6 rfl
    refine ⟨(0, cI (cQ S 0 k (some z)) 0 15 0, P2), _, ?_, rfl, ?_⟩
    · show chk (mkok P z 0 = true ∧ 0 + 1 ≤ 12 ∧ 0 + 16 ≤ 116) _ = _
      rw [chk_t ⟨rfl, by decide, by decide⟩, stp_d]
      show chk (mkok (P ++ [(z, .inr (7, [.null, .null, .null, .null, .null, .int 0, .null, .null, .null, .int 0, .null, .int 0, .null, .null, .int 0, .int 0]))]) z 1 = true ∧ 1 + 11 ≤ 12 ∧ 16 + 100 ≤ 116) ((K_7_init E (z + 1) S (P ++ [(z, .inr (7, [.null, .null, .null, .null, .null, .int 0, .null, .null, .null, .int 0, .null, .int 0, .null, .null, .int 0, .int 0]))]) z).bind _) = _
      rw [chk_t ⟨m1, by decide, by decide⟩, k1, bs, chk_t ⟨inb_nI hk (by decide), show (pobj P1 7 z).isSome = true by rw [pobj_o k2.1]; rfl⟩, stc_d]
      exact cb
    · have fr : ∀ b, b < z ∨ z + 12 ≤ b → fnd P2 b = fnd P b := fun b hb => (b5 b hb).trans (k3 b hb)
      refine rel_acc (rel_image (rel_0 h 0) hk (a := z) (q' := va_up (cq S 0) k (some z)) ?_ (fun j hj => ?_) b2 b3 b4 fr (fun b nb hb => ?_) (fun b fs hb => ?_) (fun b hb => ?_))
      · rw [up_d, if_pos rfl]
      · rw [up_d, if_neg hj]
      · have hl := fnd_lt hz hb
        refine ⟨fr b (Or.inl hl), fun ⟨j, a, j2, j3, j4, j5⟩ => ?_⟩
        rw [up_d] at j3
        by_cases q : j = k
        · rw [if_pos q] at j3; cases j3; omega
        · rw [if_neg q] at j3; exact nb ⟨j, a, j2, j3, j4, j5⟩
      · exact fr b (Or.inl (fnd_lt hz (by rw [hb]; intro q; cases q)))
      · obtain ⟨I, A, Q, ft⟩ := other b hb
        have := fnd_lt hz (FT_some ft)
        right; omega
  · rw [u1]
    have ft := PT_FT u3
    obtain ⟨P2, I2, A2, Q2, b1, b2, b3, b4, b5⟩ := qk_becomePS (F := F) (z := z + 0) (S := S) (R := ma σ 3) (by omega) ft t lw.2
    have cb := c_b45 (F := F) (z := z) (ce := 0) (se := 0) (S := S) ft rfl (by omega) (by omega) b1
    refine ⟨(0, cI S 0 15 0, P2), _, cb, rfl, ?_⟩
    have es : (S.1, S.2.1, S.2.2.1, va_up S.2.2.2 0 (cq S 0)) = S := by rw [show va_up S.2.2.2 0 (cq S 0) = S.2.2.2 from up_eq _ _]
    have r := rel_image (rel_0 h 0) hk (a := a) (q' := cq S 0) u1 (fun j _ => rfl) b2 b3 b4 b5 (fun b nb hb => ⟨b5 b ?_, nb⟩) (fun b fs hb => b5 b (FT_5 ft hb)) (fun b hb => ?_)
    · rw [es] at r
      exact rel_acc r
    · rcases Nat.lt_or_ge b a with q | q
      · exact Or.inl q
      · rcases Nat.lt_or_ge b (a + 12) with w | w
        · exact absurd ⟨k, a, hk, u1, q, w⟩ nb
        · exact Or.inr w
    · rcases (by omega : k = 0 ∨ k = 1) with rfl | rfl
      · exact im' a b u1 hb
      · have := im' b a hb u1; omega
