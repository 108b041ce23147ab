/-- rows copied -/
def cpf (U V : Nat → Int32) (t : Nat) : Nat → Int32 := fun j => if j < t then V j else U j
theorem cpf_s (U V : Nat → Int32) (t : Nat) : upd (cpf U V t) t (V t) = cpf U V (t + 1) := by
  funext j; rw [upd_d]; unfold cpf
  by_cases z : j = t
  · rw [if_pos z, if_pos (by omega), z]
  · rw [if_neg z]
    by_cases y : j < t
    · rw [if_pos y, if_pos (by omega)]
    · rw [if_neg y, if_neg (by omega)]
theorem cpf_0 (U V : Nat → Int32) : cpf U V 0 = U := by
  funext j; unfold cpf; rw [if_neg (by omega)]
theorem cpf_lt {U V : Nat → Int32} {t j : Nat} (h : j < t) : cpf U V t j = V j := if_pos h
theorem cpf_ge {U V : Nat → Int32} {t j : Nat} (h : t ≤ j) : cpf U V t j = U j := if_neg (by omega)
theorem mAk (τ : MS) (k : Nat) (X : Nat → Int32) (j : Nat) (v : Int32) : mA (mF τ k X) k j v = mF τ k (upd X j v) := by
  rw [mA_F, mF_mF, ma_F]
theorem gb8 {F : Nat} {σ : MS} {x1 : Int32} : ∀ (n t fuel : Nat), t + n = 336 → n < fuel → M_giveBack_L8 F x1 fuel (mF σ 6 (cpf (ma σ 6) (ma σ 9) t)) (nI t) = M_giveBack_L35 F x1 F (mF σ 6 (cpf (ma σ 6) (ma σ 9) 336)) 0
  | 0, t, fuel + 1, e, _ => by
    obtain rfl : t = 336 := by omega
    rw [M_giveBack_L8, if_pos (by decide)]
  | n + 1, t, fuel + 1, e, hf => by
    rw [M_giveBack_L8, if_neg (show ¬ (336 : Int32) ≤ nI t from nI_ge (b := 336) (by omega) (by decide)), chk_in (show t < 336 by omega) (by decide), chk_in (show t < 378 by omega) (by decide), stt_d, nI_clamp (by omega), show ma (mF σ 6 (cpf (ma σ 6) (ma σ 9) t)) 9 = ma σ 9 from rfl, mAk, cpf_s, ← nI_succ]
    exact gb8 n (t + 1) fuel (by omega) (by omega)
theorem gb35 {F : Nat} {σ : MS} {x1 : Int32} : ∀ (n t fuel : Nat), t + n = 16 → n < fuel → M_giveBack_L35 F x1 fuel (mF σ 7 (cpf (ma σ 7) (ma σ 10) t)) (nI t) = some ((), mI (mF σ 7 (cpf (ma σ 7) (ma σ 10) 16)) 8 x1)
  | 0, t, fuel + 1, e, _ => by
    obtain rfl : t = 16 := by omega
    rw [M_giveBack_L35, if_pos (by decide), stt_d]
  | n + 1, t, fuel + 1, e, hf => by
    rw [M_giveBack_L35, if_neg (show ¬ (16 : Int32) ≤ nI t from nI_ge (b := 16) (by omega) (by decide)), chk_in (show t < 16 by omega) (by decide), chk_in (show t < 16 by omega) (by decide), stt_d, nI_clamp (by omega), show ma (mF σ 7 (cpf (ma σ 7) (ma σ 10) t)) 10 = ma σ 10 from rfl, mAk, cpf_s, ← nI_succ]
    exact gb35 n (t + 1) fuel (by omega) (by omega)
def gvB (σ : MS) (x1 : Int32) : MS := mI (mF (mF (mF σ 3 (snap (ma σ 6) 17 (ma σ 3))) 6 (cpf (ma σ 6) (ma σ 9) 336)) 7 (cpf (ma σ 7) (ma σ 10) 16)) 8 x1
theorem qm_giveBack {F : Nat} {σ : MS} {x1 : Int32} (hF : 1000 ≤ F) : M_giveBack F σ x1 = some ((), gvB σ x1) := by
  have l1 := gb8 (F := F) (σ := mF σ 3 (snap (ma σ 6) 17 (ma σ 3))) (x1 := x1) 336 0 F (by omega) (by omega)
  rw [cpf_0] at l1
  have e1 : mF (mF σ 3 (snap (ma σ 6) 17 (ma σ 3))) 6 (ma (mF σ 3 (snap (ma σ 6) 17 (ma σ 3))) 6) = mF σ 3 (snap (ma σ 6) 17 (ma σ 3)) := mF_self _ _
  rw [e1] at l1
  have l2 := gb35 (F := F) (σ := mF (mF σ 3 (snap (ma σ 6) 17 (ma σ 3))) 6 (cpf (ma σ 6) (ma σ 9) 336)) (x1 := x1) 16 0 F (by omega) (by omega)
  rw [cpf_0, mF_self] at l2
  unfold M_giveBack
  rw [show (17 : Int32) = nI 17 from rfl, qm_putBack (by omega) (by omega), bs]
  exact l1.trans l2
theorem or77 {F : Nat} {σ : MS} {x1 : Int32} : ∀ (n t fuel : Nat), t + n = 336 → n < fuel → M_orders_L77 F x1 fuel (mF σ 9 (cpf (ma σ 9) (ma σ 6) t)) (nI t) = M_orders_L104 F x1 F (mF σ 9 (cpf (ma σ 9) (ma σ 6) 336)) 0
  | 0, t, fuel + 1, e, _ => by
    obtain rfl : t = 336 := by omega
    rw [M_orders_L77, if_pos (by decide)]
  | n + 1, t, fuel + 1, e, hf => by
    rw [M_orders_L77, if_neg (show ¬ (336 : Int32) ≤ nI t from nI_ge (b := 336) (by omega) (by decide)), chk_in (show t < 378 by omega) (by decide), chk_in (show t < 336 by omega) (by decide), stt_d, nI_clamp (by omega), show ma (mF σ 9 (cpf (ma σ 9) (ma σ 6) t)) 6 = ma σ 6 from rfl, mAk, cpf_s, ← nI_succ]
    exact or77 n (t + 1) fuel (by omega) (by omega)
theorem or104 {F : Nat} {σ : MS} {x1 : Int32} : ∀ (n t fuel : Nat), t + n = 16 → n < fuel → M_orders_L104 F x1 fuel (mF σ 10 (cpf (ma σ 10) (ma σ 7) t)) (nI t) = M_orders_L140 F x1 F (mI (mI (mF σ 10 (cpf (ma σ 10) (ma σ 7) 16)) 50 0) 51 (-1)) 0
  | 0, t, fuel + 1, e, _ => by
    obtain rfl : t = 16 := by omega
    rw [M_orders_L104, if_pos (by decide), stt_d, stt_d]
  | n + 1, t, fuel + 1, e, hf => by
    rw [M_orders_L104, if_neg (show ¬ (16 : Int32) ≤ nI t from nI_ge (b := 16) (by omega) (by decide)), chk_in (show t < 16 by omega) (by decide), chk_in (show t < 16 by omega) (by decide), stt_d, nI_clamp (by omega), show ma (mF σ 10 (cpf (ma σ 10) (ma σ 7) t)) 7 = ma σ 7 from rfl, mAk, cpf_s, ← nI_succ]
    exact or104 n (t + 1) fuel (by omega) (by omega)
/-- the reference before a run -/
def bgM (σ : MS) : MS := mI (mI (mF (mF (mF σ 6 (kpt (ma σ 3) 17 (ma σ 6) 21)) 9 (cpf (ma σ 9) (kpt (ma σ 3) 17 (ma σ 6) 21) 336)) 10 (cpf (ma σ 10) (ma σ 7) 16)) 50 0) 51 (-1)
theorem qm_bg {F : Nat} {σ : MS} (hF : 1000 ≤ F) : ((M_keepAll F σ 17).bind fun q11 => M_orders_L77 F (mi q11.2 8) F q11.2 (0 : Int32)) = M_orders_L140 F (mi σ 8) F (bgM σ) 0 := by
  rw [show (17 : Int32) = nI 17 from rfl, qm_keepAll (by omega) (by omega), bs]
  have l1 := or77 (F := F) (σ := mF σ 6 (kpt (ma σ 3) 17 (ma σ 6) 21)) (x1 := mi σ 8) 336 0 F (by omega) (by omega)
  rw [cpf_0, mF_self] at l1
  have l2 := or104 (F := F) (σ := mF (mF σ 6 (kpt (ma σ 3) 17 (ma σ 6) 21)) 9 (cpf (ma (mF σ 6 (kpt (ma σ 3) 17 (ma σ 6) 21)) 9) (ma (mF σ 6 (kpt (ma σ 3) 17 (ma σ 6) 21)) 6) 336)) (x1 := mi σ 8) 16 0 F (by omega) (by omega)
  rw [cpf_0, mF_self] at l2
  refine (l1.trans l2).trans ?_
  rw [ma_F]
  rfl
theorem TW_far {I I' : Nat → Int32} {A A' : Nat → Nat → Int32} {R R' : Nat → Int32} (t : TW I A R) (t' : TW I' A' R') (hI : ∀ k, k = 5 ∨ k = 9 ∨ k = 11 ∨ k = 14 ∨ k = 15 → I' k = I k) (hA : ∀ k, k = 0 ∨ k = 1 ∨ k = 2 ∨ k = 3 ∨ k = 6 ∨ k = 10 → A' k = A k) : ∀ i, i < 5 ∨ (26 ≤ i ∧ i < 76) → R' i = R i := fun i hi => by
  obtain ⟨⟨t1, t2, t3, t4, t5⟩, tl, tc, th, tt⟩ := t
  obtain ⟨⟨s1, s2, s3, s4, s5⟩, sl, sc, sh, st⟩ := t'
  by_cases a0 : i < 5
  · rcases (by omega : i = 0 ∨ i = 1 ∨ i = 2 ∨ i = 3 ∨ i = 4) with rfl | rfl | rfl | rfl | rfl
    · rw [← s1, ← t1]; exact hI _ (by omega)
    · rw [← s2, ← t2]; exact hI _ (by omega)
    · rw [← s3, ← t3]; exact hI _ (by omega)
    · rw [← s4, ← t4]; exact hI _ (by omega)
    · rw [← s5, ← t5]; exact hI _ (by omega)
  by_cases a1 : i < 36
  · obtain ⟨j, rfl⟩ : ∃ j, i = 26 + j := ⟨i - 26, by omega⟩
    rw [← (sl j (by omega)).1, ← (tl j (by omega)).1, hA 0 (by omega)]
  by_cases a2 : i < 46
  · obtain ⟨j, rfl⟩ : ∃ j, i = 36 + j := ⟨i - 36, by omega⟩
    rw [← (sl j (by omega)).2.1, ← (tl j (by omega)).2.1, hA 1 (by omega)]
  by_cases a3 : i < 56
  · obtain ⟨j, rfl⟩ : ∃ j, i = 46 + j := ⟨i - 46, by omega⟩
    rw [← (sl j (by omega)).2.2.1, ← (tl j (by omega)).2.2.1, hA 2 (by omega)]
  by_cases a4 : i < 66
  · obtain ⟨j, rfl⟩ : ∃ j, i = 56 + j := ⟨i - 56, by omega⟩
    rw [← (sl j (by omega)).2.2.2.1, ← (tl j (by omega)).2.2.2.1, hA 3 (by omega)]
  by_cases a5 : i < 70
  · obtain ⟨j, rfl⟩ : ∃ j, i = 66 + j := ⟨i - 66, by omega⟩
    rw [← (sc j (by omega)).1, ← (tc j (by omega)).1, hA 6 (by omega)]
  obtain ⟨j, rfl⟩ : ∃ j, i = 70 + j := ⟨i - 70, by omega⟩
  rw [← sh j (by omega), ← th j (by omega), hA 10 (by omega)]
theorem LG_all {r r' U V s s' R : Nat → Int32} {x y : Int32} {L C : Nat} (h : LG r U s R x y L C) (hr : ∀ j, j < 320 → r' j = r j) (hs : ∀ j, j < 16 → s' j = s j) (hU : ∀ j, j < 336 → V j = U j) : LG r' V s' R x y L C := by
  obtain ⟨n, h1, h2, h3, h4⟩ := h
  exact ⟨n, h1, h2, h3, fun k hk => LgE_cg (h4 k hk) (fun j hj => hr _ (by omega)) (hs _ (by omega)) (fun j hj => hU _ (by omega))⟩
/-- what was kept before a run -/
def BG (E : Nat → ClassId) (P : va_W) (L C H W : Nat) (S0 : CS) (σ0 : MS) (x1 : Int32) : Prop := RelB E S0 P σ0 L C H W ∧ TW (ci S0 2) (ca S0 2) (ma σ0 3) ∧ (∀ w, w < 6 → cq S0 2 w = cq S0 1 w) ∧ (∀ j, j < 320 → ca S0 8 0 j = ca S0 7 0 j) ∧ ci S0 8 2 = ci S0 7 2 ∧ (∀ j, j < 21 → ma σ0 6 (357 + j) = ma σ0 3 (5 + j)) ∧ (∀ j, j < 336 → ma σ0 9 j = ma σ0 6 j) ∧ (∀ j, j < 16 → ma σ0 10 j = ma σ0 7 j) ∧ x1 = mi σ0 8
theorem qc_logBecome (S : CS) (o0 o1 : Nat) : C_1_become S o0 o1 = some ((), cI (cF S o0 0 (va_cpy (ca S o1 0) (ca S o0 0) 0 0 320)) o0 2 (ci S o1 2)) := by
  unfold C_1_become
  rw [chk_t (by decide), stc_d, cp_0, cp_320, stc_d]
  rfl
theorem giveUp {F : Nat} {E : Nat → ClassId} {P : va_W} {L C H W i : Nat} {S0 S : CS} {σ0 σ : MS} {x1 : Int32} (hF : 1000 ≤ F) (hi : i < 12) (bg : BG E P L C H W S0 σ0 x1) (hB : RelB E S P σ L C H W) (k1 : KO1 S0 S) (k2 : KO2 σ0 σ) : ∃ T τ, C_10_giveUp F E P S (nI i) = some (-3, T) ∧ ((M_giveBack F σ x1).bind fun q2 => stt (mI q2.2 52 (nI i)) fun S3 => (M_tell S3 (-3 : Int32)).bind fun q4 => some (q4.1, q4.2)) = some (-3, τ) ∧ Rel E T P τ := by
  obtain ⟨h0, t2, q2, l8, l82, u6, u9, u10, ux⟩ := bg
  have c2 : ci S 2 = ci S0 2 := funext fun k => k1.1 2 k (Or.inl (by decide))
  have a2 : ca S 2 = ca S0 2 := funext fun k => k1.2.2 2 k (by decide) (by decide) (by decide) (by omega) (Or.inl (by decide))
  have tS : TW (ci S 2) (ca S 2) (ma σ0 3) := by rw [c2, a2]; exact t2
  have qq : ∀ w, w < 6 → cq S 2 w = cq S 1 w := fun w hw => by rw [k1.2.1]; exact q2 w hw
  obtain ⟨T1, b1, b2, b3, b4⟩ := qc_become (F := F) (E := E) (P := P) (S := S) (o0 := 1) (o1 := 2) hF (by decide) tS (fun w hw => by rw [qq w hw]; exact hB.2.2.1.2 w hw)
  have far : ∀ i, i < 76 → snap (ma σ 6) 17 (ma σ 3) i = ma σ0 3 i := fun i hi => by
    unfold snap
    by_cases z : 5 ≤ i ∧ i < 26
    · rw [if_pos z, k2.2.2 _ (by omega), u6 _ (by omega), show 5 + (i - 5) = i by omega]
    · rw [if_neg z]
      exact TW_far h0.1 hB.1 (fun k hk => k1.1 1 k (Or.inl (by decide))) (fun k hk => k1.2.2 1 k (by decide) (by decide) (by decide) (by omega) (Or.inr (by omega))) i (by omega)
  refine ⟨cA (cI (cI (cI (cF T1 7 0 (va_cpy (ca T1 8 0) (ca T1 7 0) 0 0 320)) 7 2 (ci T1 8 2)) 0 16 (nI i)) 0 15 (-3)) 0 13 3 (ca (cI (cI (cF T1 7 0 (va_cpy (ca T1 8 0) (ca T1 7 0) 0 0 320)) 7 2 (ci T1 8 2)) 0 16 (nI i)) 0 13 3 + 1), mA (mI (mI (gvB σ x1) 52 (nI i)) 1 (-3)) 2 3 (ma (mI (gvB σ x1) 52 (nI i)) 2 3 + 1), ?_, ?_, rel_ref ?_ (-3) 3 (by decide)⟩
  · unfold C_10_giveUp
    rw [b1, bs, qc_logBecome, bs, stc_d, qc_refuse _ (-3) 3 rfl (by decide), bs]
  · rw [qm_giveBack hF, bs, stt_d, qm_tellN _ (-3) 3 (by decide) rfl (by decide), bs]
  obtain ⟨h1, h2, h3, h4, h5, h6, h7, h8, h9⟩ := hB
  have o0 := b4.1 0 (by decide)
  have o3 := b4.1 3 (by decide)
  have o7 := b4.1 7 (by decide)
  have o8 := b4.1 8 (by decide)
  have o9 := b4.1 9 (by decide)
  have o10 := b4.1 10 (by decide)
  have m3 : ma (mI (gvB σ x1) 52 (nI i)) 3 = snap (ma σ 6) 17 (ma σ 3) := rfl
  have e7 : ca (cI (cI (cF T1 7 0 (va_cpy (ca T1 8 0) (ca T1 7 0) 0 0 320)) 7 2 (ci T1 8 2)) 0 16 (nI i)) 7 0 = va_cpy (ca T1 8 0) (ca T1 7 0) 0 0 320 := rfl
  have e8 : ca T1 8 0 = ca S0 8 0 := by rw [o8.2.1]; exact k1.2.2 8 0 (by decide) (by decide) (by decide) (by omega) (Or.inl (by decide))
  have e82 : ci T1 8 2 = ci S0 7 2 := by rw [o8.1, k1.1 8 2 (Or.inl (by decide))]; exact l82
  refine ⟨L, C, H, W, ?_, ?_, ?_, ?_, ?_, ?_, ?_, h8, ?_⟩
  · rw [m3]
    exact TW_R far b2
  · rw [m3]
    exact VR_R far h0.2.1
  · rw [m3]
    show LWS E (imZ (cq T1 0)) P (cq T1 1) (snap (ma σ 6) 17 (ma σ 3)) W
    rw [o0.2.2]
    refine LWS_q h2.2.2.1.1 (fun w hw => (b3 w hw).trans (qq w hw)) (fun j j1 j2 => ?_) h3
    unfold snap
    rw [if_neg (by omega)]
  · show IM E P (cq T1 0) (ma σ 4) (ma σ 5)
    rw [o0.2.2]; exact h4
  · rw [m3, e7]
    show LG (va_cpy (ca T1 8 0) (ca T1 7 0) 0 0 320) (cpf (ma σ 6) (ma σ 9) 336) (cpf (ma σ 7) (ma σ 10) 16) (snap (ma σ 6) 17 (ma σ 3)) (ci T1 8 2) x1 L C
    rw [e82, ux]
    refine LG_R (fun j hj => far j (by omega)) (LG_all h0.2.2.2.2.1 (fun j hj => ?_) (fun j hj => ?_) (fun j hj => ?_))
    · rw [pk_cpy_in (by omega) (by omega), e8, show 0 + (j - 0) = j by omega]; exact l8 j hj
    · rw [cpf_lt hj, k2.1 10 (by decide) (by decide) (by decide) (by decide)]; exact u10 j hj
    · rw [cpf_lt hj, k2.1 9 (by decide) (by decide) (by decide) (by decide)]; exact u9 j hj
  · show TP (ci T1 10 1) (mi σ 13) (ca T1 10 0) (ma σ 12)
    rw [o10.1, o10.2.1]; exact h6
  · show DR (ci T1 3 5) (ci T1 3 9) (ca T1 3 7) (ca T1 3 4) (mi σ 56) (mi σ 57) (ma σ 55)
    rw [o3.1, o3.2.1]; exact h7
  · obtain ⟨r1, r2, r3, r4, r5⟩ := h9
    refine ⟨?_, rfl, ?_, ?_, fun j hj => ?_⟩
    · show ci T1 0 15 = mi σ 1
      rw [o0.1]; exact r1
    · show ci T1 0 17 = mi σ 11
      rw [o0.1]; exact r3
    · show ci T1 9 10 = mi σ 18
      rw [o9.1]; exact r4
    · show ca T1 0 13 j = ma σ 2 j
      rw [o0.2.1]; exact r5 j hj
