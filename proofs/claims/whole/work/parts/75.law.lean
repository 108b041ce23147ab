/-- the words of a law, as the class holds them -/
def WD (S : CS) (w : Nat → Int) : Prop := ∀ k, k < 9 → (ca S 11 2 k).toInt = w k ∧ sml (w k)
theorem WD_F {S : CS} {w : Nat → Int} (h : WD S w) (f : Nat → Int32) : WD (cF S 12 0 f) w := fun k hk => by
  rw [ca_cFn _ _ _ _ _ _ (Or.inl (by decide))]; exact h k hk
/-- as the reference holds them, and where the law lies -/
def WM (σ : MS) (w : Nat → Int) (b : Nat) : Prop := mi σ 20 = 0 ∧ mi σ 34 = nI b ∧ ∀ k, k < 9 → (mb σ 35 (k + 1)).toInt = w k ∧ sml (w k)
theorem WM_KR {σ τ : MS} {w : Nat → Int} {b : Nat} (h : WM σ w b) (k : KR σ τ) : WM τ w b := ⟨by rw [k.2.1 20 (by decide)]; exact h.1, by rw [k.2.1 34 (by decide)]; exact h.2.1, fun i hi => by rw [k.2.2 35 (by decide)]; exact h.2.2 i hi⟩
theorem rc_law {F : Nat} {σ : MS} {w : Nat → Int} {b j : Nat} {r : Nat → Int32} (hw : WM σ w b) (hb : b + 900 ≤ 5476) (hj : j ≤ 400) (hr : ∀ i, i < 900 → r i = ma σ 3 (b + i)) : RCode F σ 9 j (rcd r) w (fun k => ma σ 3 (b + 98 + 2 * k)) (fun k => ma σ 3 (b + 98 + 2 * k + 1)) := by
  obtain ⟨w1, w2, w3⟩ := hw
  have cd : ∀ k, k < j → rcd r k = ropL (ma σ 3 (b + 98 + 2 * k)) (ma σ 3 (b + 98 + 2 * k + 1)) := fun k hk => by
    unfold rcd
    rw [hr _ (by omega), hr _ (by omega), show b + (98 + 2 * k) = b + 98 + 2 * k by omega, show b + (98 + 2 * k + 1) = b + 98 + 2 * k + 1 by omega]
  refine ⟨fun τ k m x3 kr h38 hk => ?_, fun k hk h0 => ?_, fun k τ hk kr h1 h2 h3 => ?_, fun k hk h2 h3 => ?_, fun k hk => (w3 k hk).2⟩
  · have e20 : mi τ 20 = 0 := by rw [kr.2.1 20 (by decide)]; exact w1
    have e34 : mi τ 34 = nI b := by rw [kr.2.1 34 (by decide)]; exact w2
    have ea : ∀ i, i = nI b + 98 + (2 : Int32) * nI k → i = nI (b + 98 + 2 * k) := fun i e => by
      rw [e, show (98 : Int32) = nI 98 from rfl, show (2 : Int32) = nI 2 from rfl, pk_mul, nI_add, nI_add]
    rw [M_reckonAll_L10, if_neg (nI_ge hk (by omega)), if_pos h38, if_pos e20, e34, ea _ rfl, chk_in (by omega) (by decide), nI_clamp (by omega)]
    unfold M_reckonAll_B57
    rw [if_pos e20, e34, ea _ rfl, ← nI_succ, chk_in (by omega) (by decide), nI_clamp (by omega), kr.1]
  · rw [cd k hk] at h0 ⊢
    unfold ropL at h0 ⊢
    split at h0
    · next z => rw [if_pos z]; exact ⟨by rw [eq_i, z]; rfl, rfl⟩
    · next z =>
      split at h0
      · cases h0
      · next z2 => exfalso; have h0' : (Int32.toInt (ma σ 3 (b + 98 + 2 * k)) - 18).toNat = 0 := h0; omega
  · rw [cd k hk] at h1 h2 h3 ⊢
    unfold ropL at h1 h2 h3 ⊢
    split at h1
    · cases h1
    · next z =>
      rw [if_neg z] at h2 h3 ⊢
      split at h1
      · next z2 =>
        rw [if_pos z2] at h2 h3 ⊢
        obtain ⟨q, hq, eq⟩ : ∃ q : Nat, q < 9 ∧ ma σ 3 (b + 98 + 2 * k) = nI (q + 1) := by
          have h2' : 0 ≤ (ma σ 3 (b + 98 + 2 * k)).toInt - 1 := h2
          have h3' : (ma σ 3 (b + 98 + 2 * k)).toInt - 1 < (9 : Nat) := h3
          refine ⟨((ma σ 3 (b + 98 + 2 * k)).toInt - 1).toNat, by omega, ?_⟩
          rw [eq_i, nI_toInt (by omega)]; omega
        refine ⟨mb σ 35 (q + 1), ?_, fun kk x3 => ?_⟩
        · rw [(w3 q hq).1, eq]
          congr 1
          show q = ((nI (q + 1)).toInt - 1).toNat
          rw [nI_toInt (by omega)]; omega
        · rw [show (fun k => ma σ 3 (b + 98 + 2 * k)) k = nI (q + 1) from eq]
          unfold M_reckonAll_B95
          rw [if_neg (show ¬ (20 : Int32) ≤ nI (q + 1) from nI_ge (b := 20) (by omega) (by decide)), if_neg (nI_ne0 (by omega) (by omega)), if_pos (show mi τ 20 = 0 by rw [kr.2.1 20 (by decide)]; exact w1), chk_in (by omega) (by decide), nI_clamp (by omega), kr.2.2 35 (by decide), ← nI_succ]
      · next z2 => exfalso; have h1' : ((ma σ 3 (b + 98 + 2 * k)).toInt - 18).toNat = 1 := h1; omega
  · rw [cd k hk] at h2 h3 ⊢
    unfold ropL at h2 h3 ⊢
    split at h2
    · exfalso; have : 2 ≤ 0 := h2; omega
    · next z =>
      rw [if_neg z] at h3 ⊢
      split at h2
      · exfalso; have : 2 ≤ 1 := h2; omega
      · next z2 =>
        rw [if_neg z2] at h3 ⊢
        have h3' : ((ma σ 3 (b + 98 + 2 * k)).toInt - 18).toNat ≤ 12 := h3
        refine ⟨?_, rfl⟩
        show ma σ 3 (b + 98 + 2 * k) = nI (((ma σ 3 (b + 98 + 2 * k)).toInt - 18).toNat + 18)
        rw [eq_i, nI_toInt (by omega)]; omega
/-- held within 0 .. m -/
def cl (v : Int) (m : Nat) : Nat := if v < 0 then 0 else if v < m then v.toNat else m
theorem cl_le (v : Int) (m : Nat) : cl v m ≤ m := by unfold cl; split <;> (try split) <;> omega
theorem cl_c {u : Int32} {v : Int} {m : Nat} (hm : m < 2 ^ 31) (h : u.toInt = v) : (if (0 : Int32) < (if u < nI m then u else nI m) then (if u < nI m then u else nI m) else (0 : Int32)) = nI (cl v m) := by
  unfold cl
  have e : (u < nI m) = (v < (m : Int)) := by rw [lt_i, h, nI_toInt hm]
  by_cases z : v < (m : Int)
  · have z' : u < nI m := by rw [e]; exact z
    rw [if_pos z']
    by_cases y : v < 0
    · rw [if_pos y, if_neg (by rw [lt_i, h, i32_0]; omega)]; rfl
    · rw [if_neg y, if_pos z]
      by_cases x : v = 0
      · rw [if_neg (by rw [lt_i, h, i32_0]; omega), x]; rfl
      · rw [if_pos (by rw [lt_i, h, i32_0]; omega), eq_i, nI_toInt (by omega), h]; omega
  · have z' : ¬ u < nI m := by rw [e]; exact z
    rw [if_neg z', if_neg (show ¬ v < 0 by omega), if_neg z]
    by_cases x : m = 0
    · rw [x]; rfl
    · rw [if_pos (show (0 : Int32) < nI m from by rw [lt_i, i32_0, nI_toInt hm]; omega)]
theorem cl_m {x : Int64} {v : Int} {m : Nat} (hm : m < 2 ^ 31) (hv : sml v) (h : x.toInt = v) : M_bounded x (0 : Int32) (nI m) = some (nI (cl v m)) := by
  unfold M_bounded cl
  have e0 : ((0 : Int32).toInt64 ≤ x) = (0 ≤ v) := by rw [le_l, w_64, i32_0, h]
  have em : (x ≤ (nI m).toInt64) = (v ≤ (m : Int)) := by rw [le_l, w_64, nI_toInt hm, h]
  by_cases y : v < 0
  · rw [if_neg (by rw [e0]; omega), if_pos y]; rfl
  · rw [if_pos (by rw [e0]; omega), if_neg y]
    by_cases z : v < (m : Int)
    · rw [if_pos (by rw [em]; omega), if_pos z]
      congr 1
      rw [eq_i, n_32 (by rw [h]; exact hv), h, nI_toInt (by omega)]; omega
    · rw [if_neg z]
      by_cases q : v = (m : Int)
      · rw [if_pos (by rw [em]; omega)]
        congr 1
        rw [eq_i, n_32 (by rw [h]; exact hv), h, nI_toInt (by omega)]; omega
      · rw [if_neg (by rw [em]; omega)]
theorem pI_pobj {P : va_W} {c a k : Nat} {v : Int32} (h : pI P c a k = some v) : (pobj P c a).isSome = true := by
  unfold pI at h
  cases e : pobj P c a with
  | none => rw [e] at h; cases h
  | some _ => rfl
/-- what a clause says -/
theorem cl_sem {E : Nat → ClassId} {P : va_W} {len co ai k a : Nat} {code r : Nat → Int32} {r3 r4 r5 r6 : Int32} (hco : parE E P co = some (len, code)) (hl : len ≤ 800) (hk3 : k < 3) (ha : pR P 5 a 2 = some co) (h : ClR P len (ccd code) (rcd r) ai k r3 r4 r5 r6) : ∃ g : (Nat → Int) → Option Int,
  (∀ (F : Nat) (S : CS) (w : Nat → Int) (K : CS → Int32 → Option (Int32 × CS)) (x2 x4 x5 : Int32) (m : Nat), 1000 ≤ F → WD S w → k ≠ 2 → m < 2 ^ 31 → ∃ h' : Nat → Int32, (g w = none → chk ((pobj P 0 ai).isSome = true) ((C_0_hasTest E P S ai).bind fun y9 => if y9 = 0 then C_9_tell_B85 F E P K S a x2 (nI m) x4 x5 ai else (pR P 5 a 2).bind fun b10 => (pI P 0 ai 3).bind fun v11 => (pI P 0 ai 4).bind fun v12 => (C_4_reckon F E P S b10 v11 v12 11 2 9).bind fun y13 => if y13.1 = (1 : Int32) then C_9_tell_B85 F E P K y13.2 a x2 (nI m) x4 x5 ai else C_9_tell_B130 F E P K y13.2 a x2 (nI m) x4 x5) = K (cF S 12 0 h') (x5 + (-1))) ∧ (∀ v, g w = some v → chk ((pobj P 0 ai).isSome = true) ((C_0_hasTest E P S ai).bind fun y9 => if y9 = 0 then C_9_tell_B85 F E P K S a x2 (nI m) x4 x5 ai else (pR P 5 a 2).bind fun b10 => (pI P 0 ai 3).bind fun v11 => (pI P 0 ai 4).bind fun v12 => (C_4_reckon F E P S b10 v11 v12 11 2 9).bind fun y13 => if y13.1 = (1 : Int32) then C_9_tell_B85 F E P K y13.2 a x2 (nI m) x4 x5 ai else C_9_tell_B130 F E P K y13.2 a x2 (nI m) x4 x5) = some (nI (cl v m), cF S 12 0 h'))) ∧
  (∀ (F o : Nat) (S : CS) (w : Nat → Int) (K : CS → Int32 → Option (Int32 × CS)) (x5 : Int32), 1000 ≤ F → WD S w → k = 2 → ∃ h' : Nat → Int32, (chk ((pobj P 0 ai).isSome = true) ((C_0_hasTest E P S ai).bind fun y6 => if y6 = 0 then some ((1 : Int32), S) else (pR P 5 a 2).bind fun b7 => (pI P 0 ai 3).bind fun v8 => (pI P 0 ai 4).bind fun v9 => (C_4_reckon F E P S b7 v8 v9 11 2 9).bind fun y10 => if y10.1 = (1 : Int32) then some ((1 : Int32), y10.2) else C_9_isBarred_B88 F E P o K y10.2 a x5)) = if g w = none then K (cF S 12 0 h') (x5 + 1) else some (1, cF S 12 0 h')) ∧
  (∀ (F : Nat) (σ : MS) (w : Nat → Int) (b i : Nat), 1000 ≤ F → WM σ w b → b + 900 ≤ 5476 → i < 12 → (∀ i, i < 900 → r i = ma σ 3 (b + i)) → r (2 + 8 * i) = nI k → r (2 + 8 * i + 3) = r3 → r (2 + 8 * i + 4) = r4 → r (2 + 8 * i + 5) = r5 → r (2 + 8 * i + 6) = r6 → ∃ τ : MS, KR σ τ ∧ (g w = none → M_isSo F σ (nI (b + 2 + 8 * i)) = some (0, τ)) ∧ (∀ v, g w = some v → M_isSo F σ (nI (b + 2 + 8 * i)) = some (1, τ) ∧ (k ≠ 2 → (ml τ 40).toInt = v ∧ sml v) ∧ (k = 2 → v = 1))) := by
  obtain ⟨b0, e1, e2, e3, s0, s1, s2, s3, p0, p1, p2, p3, p4, l1, l2, l3, q3, q4, q5, q6, m0, m1, m2, m3, hsum, htest⟩ := h
  have pob : (pobj P 0 ai).isSome = true := pI_pobj p0
  have hT : ∀ S, C_0_hasTest E P S ai = some (if 2 * e3 ≤ 2 * e2 then 0 else 1) := fun S => by
    unfold C_0_hasTest
    rw [p4, p3, bs, bs]
    by_cases z : 2 * e3 ≤ 2 * e2
    · rw [if_pos (nI_le z (by omega)), if_pos z]
    · rw [if_neg (nI_ge (by omega) (by omega)), if_neg z]
  obtain ⟨f, hf⟩ : ∃ f : (Nat → Int) → Option Int, k ≠ 2 → Seg 9 (ccd code) b0 e1 50 f ∧ Seg 9 (rcd r) s0 s1 50 f := by
    by_cases z : k = 2
    · exact ⟨fun _ => none, fun y => absurd z y⟩
    · obtain ⟨f, hf⟩ := hsum z; exact ⟨f, fun _ => hf⟩
  -- the sum
  have sumC : ∀ (F : Nat) (S : CS) (w : Nat → Int) (K : CS → Int32 → Option (Int32 × CS)) (x2 x4 x5 : Int32) (m : Nat), 1000 ≤ F → WD S w → k ≠ 2 → m < 2 ^ 31 → ∃ h' : Nat → Int32, (f w = none → C_9_tell_B85 F E P K S a x2 (nI m) x4 x5 ai = K (cF S 12 0 h') (x5 + (-1))) ∧ (∀ v, f w = some v → C_9_tell_B85 F E P K S a x2 (nI m) x4 x5 ai = some (nI (cl v m), cF S 12 0 h')) := by
    intro F S w K x2 x4 x5 m hF hw hk hm
    obtain ⟨h', u, g1, g2, g3⟩ := qc_reckon (wo := 11) (wk := 2) (wn := 9) hF hco l1 hl (by decide) hw (Nat.le_refl 9) (by decide) (Nat.le_refl 50) (hf hk).1
    refine ⟨h', fun z => ?_, fun v z => ?_⟩
    · unfold C_9_tell_B85 C_9_tell_B130
      rw [ha, bs, p1, bs, p2, bs, g1, bs, if_pos (g2 z)]
    · obtain ⟨u1, u2⟩ := g3 v z
      unfold C_9_tell_B85
      rw [ha, bs, p1, bs, p2, bs, g1, bs, if_neg (fun y => by rw [show u = -2000000000 from y] at u1; rw [← u1] at u2; exact absurd u2 (by decide))]
      show some (_, cF S 12 0 h') = _
      rw [cl_c hm u1]
  have sumM : ∀ (F : Nat) (σ : MS) (w : Nat → Int) (b i : Nat), 1000 ≤ F → WM σ w b → b + 900 ≤ 5476 → i < 12 → (∀ i, i < 900 → r i = ma σ 3 (b + i)) → r (2 + 8 * i) = nI k → r (2 + 8 * i + 3) = r3 → r (2 + 8 * i + 4) = r4 → ∃ τ : MS, KR σ τ ∧ ((if k = 2 then some 1 else f w) = none → M_isSo_B59 F σ (nI (b + 2 + 8 * i)) = some (0, τ)) ∧ (∀ v, (if k = 2 then some 1 else f w) = some v → M_isSo_B59 F σ (nI (b + 2 + 8 * i)) = some (1, τ) ∧ (k ≠ 2 → (ml τ 40).toInt = v ∧ sml v) ∧ (k = 2 → v = 1)) := by
    intro F σ w b i hF hw hb hi hr hk h3 h4
    rw [hr _ (by omega)] at hk h3 h4
    have ek : ma σ 3 (b + 2 + 8 * i) = nI k := by rw [← hk]; congr 1; omega
    unfold M_isSo_B59
    rw [chk_in (by omega) (by decide), nI_clamp (by omega), ek]
    by_cases z : k = 2
    · refine ⟨σ, KR.rf, fun y => ?_, fun v y => ?_⟩
      · rw [if_pos z] at y; cases y
      · rw [if_pos z] at y; cases y
        rw [if_pos (show nI k = (2 : Int32) by rw [z]; rfl)]
        exact ⟨rfl, fun n => absurd z n, fun _ => rfl⟩
    · have a3 : nI (b + 2 + 8 * i) + (3 : Int32) = nI (b + 2 + 8 * i + 3) := nI_add _ 3
      have a4 : nI (b + 2 + 8 * i) + (4 : Int32) = nI (b + 2 + 8 * i + 4) := nI_add _ 4
      obtain ⟨τ, g1, g2, g3, g4⟩ := qm_reckonAll hF m1 (rc_law (j := s1) (WM_KR hw (kr_i σ 0)) hb m1 hr) (Nat.le_refl 50) (hf z).2
      have e3' : ma σ 3 (b + 2 + 8 * i + 3) = nI s0 := by rw [← q3, ← h3]; congr 1; omega
      have e4' : ma σ 3 (b + 2 + 8 * i + 4) = nI s1 := by rw [← q4, ← h4]; congr 1; omega
      rw [if_neg (show ¬ nI k = (2 : Int32) from fun y => z ((nI_eq (a := k) (b := 2) (by omega) (by decide)).mp y)), a3, a4, chk_in (by omega) (by decide), chk_in (by omega) (by decide), nI_clamp (by omega), nI_clamp (by omega), e3', e4', g1, bs, stt_d]
      refine ⟨mL τ 40 (ml τ 39), g2.tr (kr_l _ _ _), fun y => ?_, fun v y => ?_⟩
      · rw [if_neg z] at y
        rw [if_neg (show ¬ mi (mL τ 40 (ml τ 39)) 38 = 0 from by rw [show mi (mL τ 40 (ml τ 39)) 38 = 1 from g3 y]; decide)]
      · rw [if_neg z] at y
        obtain ⟨y1, y2, y3⟩ := g4 v y
        rw [if_pos (show mi (mL τ 40 (ml τ 39)) 38 = 0 from y1)]
        exact ⟨rfl, fun _ => ⟨y2, y3⟩, fun n => absurd n z⟩
  have c0 : ∀ S : CS, cF S 12 0 (ca S 12 0) = S := fun S => by
    rw [cF_O, show va_up (ca S 12) 0 (ca S 12 0) = ca S 12 from up_eq _ _]
    unfold cO
    rw [show va_up S.1 12 (ci S 12) = S.1 from up_eq _ _, show va_up S.2.1 12 (ca S 12) = S.2.1 from up_eq _ _]
  rcases htest with ⟨n1, n2⟩ | ⟨ft, ⟨t1, t01⟩, ⟨t2, -⟩⟩
  · refine ⟨fun w => if k = 2 then some 1 else f w, ?_, ?_, ?_⟩
    · intro F S w K x2 x4 x5 m hF hw hk hm
      obtain ⟨h', g1, g2⟩ := sumC F S w K x2 x4 x5 m hF hw hk hm
      refine ⟨h', fun z => ?_, fun v z => ?_⟩
      · rw [chk_t pob, hT, bs, if_pos (by rw [if_pos (by omega)]), g1 (by simpa [hk] using z)]
      · rw [chk_t pob, hT, bs, if_pos (by rw [if_pos (by omega)]), g2 v (by simpa [hk] using z)]
    · intro F o S w K x5 hF hw hk
      refine ⟨ca S 12 0, ?_⟩
      rw [chk_t pob, hT, bs, if_pos (by rw [if_pos (by omega)]), if_neg (show ¬ (if k = 2 then some 1 else f w) = none by rw [if_pos hk]; exact (fun z => by cases z)), c0]
    · intro F σ w b i hF hw hb hi hr hk h3 h4 h5 h6
      obtain ⟨τ, g1, g2, g3⟩ := sumM F σ w b i hF hw hb hi hr hk h3 h4
      rw [hr _ (by omega)] at h5 h6
      have a5' : nI (b + 2 + 8 * i) + (5 : Int32) = nI (b + 2 + 8 * i + 5) := nI_add _ 5
      have a6' : nI (b + 2 + 8 * i) + (6 : Int32) = nI (b + 2 + 8 * i + 6) := nI_add _ 6
      have e5' : ma σ 3 (b + 2 + 8 * i + 5) = nI s2 := by rw [← q5, ← h5]; congr 1; omega
      have e6' : ma σ 3 (b + 2 + 8 * i + 6) = nI s3 := by rw [← q6, ← h6]; congr 1; omega
      have eq : M_isSo F σ (nI (b + 2 + 8 * i)) = M_isSo_B59 F σ (nI (b + 2 + 8 * i)) := by
        unfold M_isSo
        rw [a5', a6', chk_in (by omega) (by decide), chk_in (by omega) (by decide), nI_clamp (by omega), nI_clamp (by omega), e5', e6', if_pos (nI_le n2 (by omega))]
      rw [eq]
      exact ⟨τ, g1, g2, g3⟩
  · have lt1 := t1.1
    have lt2 := t2.1
    have tstC : ∀ (F : Nat) (S : CS) (w : Nat → Int), 1000 ≤ F → WD S w → ∃ (h' : Nat → Int32) (u : Int32), C_4_reckon F E P S co (nI (2 * e2)) (nI (2 * e3)) 11 2 9 = some (u, cF S 12 0 h') ∧ (u = 1 ↔ ft w = some 1) := by
      intro F S w hF hw
      obtain ⟨h', u, g1, g2, g3⟩ := qc_reckon (wo := 11) (wk := 2) (wn := 9) hF hco l3 hl (by decide) hw (Nat.le_refl 9) (by decide) (Nat.le_refl 50) t1
      refine ⟨h', u, g1, ?_⟩
      cases e : ft w with
      | none => rw [g2 e]; exact ⟨fun z => absurd z (by decide), fun z => by cases z⟩
      | some x =>
        obtain ⟨u1, -⟩ := g3 x e
        rw [eq_i, u1, i32_1]
        exact ⟨fun z => by rw [z], fun z => by cases z; rfl⟩
    refine ⟨fun w => if ft w = some 1 then (if k = 2 then some 1 else f w) else none, ?_, ?_, ?_⟩
    · intro F S w K x2 x4 x5 m hF hw hk hm
      obtain ⟨h1, u, a1, a2⟩ := tstC F S w hF hw
      by_cases y : ft w = some 1
      · obtain ⟨h', g1, g2⟩ := sumC F (cF S 12 0 h1) w K x2 x4 x5 m hF (WD_F hw h1) hk hm
        rw [cF_cF] at g1 g2
        refine ⟨h', fun z => ?_, fun v z => ?_⟩
        · rw [chk_t pob, hT, bs, if_neg (by rw [if_neg (by omega)]; decide), ha, bs, p3, bs, p4, bs, a1, bs, if_pos (show (u, cF S 12 0 h1).1 = 1 from a2.mpr y), g1 (by simpa [hk, y] using z)]
        · rw [chk_t pob, hT, bs, if_neg (by rw [if_neg (by omega)]; decide), ha, bs, p3, bs, p4, bs, a1, bs, if_pos (show (u, cF S 12 0 h1).1 = 1 from a2.mpr y), g2 v (by simpa [hk, y] using z)]
      · refine ⟨h1, fun z => ?_, fun v z => ?_⟩
        · rw [chk_t pob, hT, bs, if_neg (by rw [if_neg (by omega)]; decide), ha, bs, p3, bs, p4, bs, a1, bs, if_neg (show ¬ (u, cF S 12 0 h1).1 = 1 from fun q => y (a2.mp q))]
          rfl
        · dsimp only at z; rw [if_neg y] at z; cases z
    · intro F o S w K x5 hF hw hk
      obtain ⟨h1, u, a1, a2⟩ := tstC F S w hF hw
      refine ⟨h1, ?_⟩
      rw [chk_t pob, hT, bs, if_neg (by rw [if_neg (by omega)]; decide), ha, bs, p3, bs, p4, bs, a1, bs]
      by_cases y : ft w = some 1
      · rw [if_pos (show (u, cF S 12 0 h1).1 = 1 from a2.mpr y), if_neg (show ¬ (if ft w = some 1 then (if k = 2 then some 1 else f w) else none) = none by rw [if_pos y, if_pos hk]; exact (fun z => by cases z))]
      · rw [if_neg (show ¬ (u, cF S 12 0 h1).1 = 1 from fun q => y (a2.mp q)), if_pos (show (if ft w = some 1 then (if k = 2 then some 1 else f w) else none) = none from if_neg y)]
        rfl
    · intro F σ w b i hF hw hb hi hr hk h3 h4 h5 h6
      have hr0 := hr
      rw [hr _ (by omega)] at h5 h6
      have a5' : nI (b + 2 + 8 * i) + (5 : Int32) = nI (b + 2 + 8 * i + 5) := nI_add _ 5
      have a6' : nI (b + 2 + 8 * i) + (6 : Int32) = nI (b + 2 + 8 * i + 6) := nI_add _ 6
      have e5' : ma σ 3 (b + 2 + 8 * i + 5) = nI s2 := by rw [← q5, ← h5]; congr 1; omega
      have e6' : ma σ 3 (b + 2 + 8 * i + 6) = nI s3 := by rw [← q6, ← h6]; congr 1; omega
      obtain ⟨τ, g1, g2, g3, g4⟩ := qm_reckonAll hF m3 (rc_law (j := s3) (WM_KR hw (kr_i σ 0)) hb m3 hr) (Nat.le_refl 50) t2
      have eq : M_isSo F σ (nI (b + 2 + 8 * i)) = if mi τ 38 = 0 then (if ml τ 39 = 0 then some (0, τ) else M_isSo_B59 F τ (nI (b + 2 + 8 * i))) else some (0, τ) := by
        unfold M_isSo
        rw [a5', a6', chk_in (by omega) (by decide), chk_in (by omega) (by decide), nI_clamp (by omega), nI_clamp (by omega), e5', e6', if_neg (nI_ge lt2 (by omega)), chk_in (by omega) (by decide), chk_in (by omega) (by decide), g1, bs]
      rw [eq]
      cases e : ft w with
      | none =>
        rw [if_neg (by rw [g3 e]; decide)]
        exact ⟨τ, g2, fun _ => rfl, fun v z => by dsimp only at z; rw [e, if_neg (by simp)] at z; cases z⟩
      | some x =>
        obtain ⟨y1, y2, y3⟩ := g4 x e
        rw [if_pos y1]
        rcases t01 w x e with rfl | rfl
        · rw [if_pos (by rw [eq_l, y2, l_0])]
          exact ⟨τ, g2, fun _ => rfl, fun v z => by dsimp only at z; rw [e, if_neg (by decide)] at z; cases z⟩
        · rw [if_neg (by rw [eq_l, y2, l_0]; decide)]
          obtain ⟨τ', k1, k2, k3⟩ := sumM F τ w b i hF (WM_KR hw g2) hb hi (fun i hi => by rw [g2.1]; exact hr i hi) hk h3 h4
          refine ⟨τ', g2.tr k1, fun z => ?_, fun v z => ?_⟩
          · dsimp only at z; rw [e, if_pos rfl] at z; exact k2 z
          · dsimp only at z; rw [e, if_pos rfl] at z; exact k3 v z
