def ClT (E : Nat → ClassId) (P : va_W) (a ai k : Nat) (g : (Nat → Int) → Option Int) : Prop := ∀ (F : Nat) (S : CS) (w : Nat → Int) (K : CS → Int32 → Option (Int32 × CS)) (x2 x4 x5 : Int32) (m : Nat), 1000 ≤ F → WD S w → k ≠ 2 → m < 2 ^ 31 → ∃ h' : Nat → Int32, (g w = none → chk ((pobj P 0 ai).isSome = true) ((C_0_hasTest E P S ai).bind fun y9 => if y9 = 0 then C_9_tell_B85 F E P K S a x2 (nI m) x4 x5 ai else (pR P 5 a 2).bind fun b10 => (pI P 0 ai 3).bind fun v11 => (pI P 0 ai 4).bind fun v12 => (C_4_reckon F E P S b10 v11 v12 11 2 9).bind fun y13 => if y13.1 = (1 : Int32) then C_9_tell_B85 F E P K y13.2 a x2 (nI m) x4 x5 ai else C_9_tell_B130 F E P K y13.2 a x2 (nI m) x4 x5) = K (cF S 12 0 h') (x5 + (-1))) ∧ (∀ v, g w = some v → chk ((pobj P 0 ai).isSome = true) ((C_0_hasTest E P S ai).bind fun y9 => if y9 = 0 then C_9_tell_B85 F E P K S a x2 (nI m) x4 x5 ai else (pR P 5 a 2).bind fun b10 => (pI P 0 ai 3).bind fun v11 => (pI P 0 ai 4).bind fun v12 => (C_4_reckon F E P S b10 v11 v12 11 2 9).bind fun y13 => if y13.1 = (1 : Int32) then C_9_tell_B85 F E P K y13.2 a x2 (nI m) x4 x5 ai else C_9_tell_B130 F E P K y13.2 a x2 (nI m) x4 x5) = some (nI (cl v m), cF S 12 0 h'))
def ClB (E : Nat → ClassId) (P : va_W) (a ai k : Nat) (g : (Nat → Int) → Option Int) : Prop := ∀ (F o : Nat) (S : CS) (w : Nat → Int) (K : CS → Int32 → Option (Int32 × CS)) (x5 : Int32), 1000 ≤ F → WD S w → k = 2 → ∃ h' : Nat → Int32, (chk ((pobj P 0 ai).isSome = true) ((C_0_hasTest E P S ai).bind fun y6 => if y6 = 0 then some ((1 : Int32), S) else (pR P 5 a 2).bind fun b7 => (pI P 0 ai 3).bind fun v8 => (pI P 0 ai 4).bind fun v9 => (C_4_reckon F E P S b7 v8 v9 11 2 9).bind fun y10 => if y10.1 = (1 : Int32) then some ((1 : Int32), y10.2) else C_9_isBarred_B88 F E P o K y10.2 a x5)) = if g w = none then K (cF S 12 0 h') (x5 + 1) else some (1, cF S 12 0 h')
def ClM (r : Nat → Int32) (i k : Nat) (g : (Nat → Int) → Option Int) : Prop := ∀ (F : Nat) (σ : MS) (w : Nat → Int) (b : Nat), 1000 ≤ F → WM σ w b → b + 900 ≤ 5476 → (∀ i, i < 900 → r i = ma σ 3 (b + i)) → ∃ τ : MS, KR σ τ ∧ (g w = none → M_isSo F σ (nI (b + 2 + 8 * i)) = some (0, τ)) ∧ (∀ v, g w = some v → M_isSo F σ (nI (b + 2 + 8 * i)) = some (1, τ) ∧ (k ≠ 2 → (ml τ 40).toInt = v ∧ sml v) ∧ (k = 2 → v = 1))
def ClF (E : Nat → ClassId) (P : va_W) (a : Nat) (r : Nat → Int32) (cl : Nat → Option Nat) (i : Nat) (x : Nat × Nat × ((Nat → Int) → Option Int)) : Prop := cl i = some x.1 ∧ x.2.1 < 3 ∧ pI P 0 x.1 0 = some (nI x.2.1) ∧ r (2 + 8 * i) = nI x.2.1 ∧ ClT E P a x.1 x.2.1 x.2.2 ∧ ClB E P a x.1 x.2.1 x.2.2 ∧ ClM r i x.2.1 x.2.2
/-- what the last of a kind that holds tells -/
def lastv (X : Nat → Nat × Nat × ((Nat → Int) → Option Int)) (kind : Nat) (w : Nat → Int) : Nat → Option Int
  | 0 => none
  | i + 1 => if (X i).2.1 = kind ∧ (X i).2.2 w ≠ none then (X i).2.2 w else lastv X kind w i
theorem lastv_none {X : Nat → Nat × Nat × ((Nat → Int) → Option Int)} {kind : Nat} {w : Nat → Int} : ∀ n, lastv X kind w n = none ↔ ∀ j, j < n → ¬ ((X j).2.1 = kind ∧ (X j).2.2 w ≠ none)
  | 0 => ⟨fun _ j hj => by omega, fun _ => rfl⟩
  | n + 1 => by
    unfold lastv
    by_cases z : (X n).2.1 = kind ∧ (X n).2.2 w ≠ none
    · rw [if_pos z]; exact ⟨fun y => absurd y z.2, fun y => absurd z (y n (by omega))⟩
    · rw [if_neg z, lastv_none n]
      exact ⟨fun y j hj => by
        rcases Nat.lt_or_ge j n with q | q
        · exact y j q
        · rw [show j = n by omega]; exact z, fun y j hj => y j (by omega)⟩
theorem c_self (S : CS) : cF S 12 0 (ca S 12 0) = S := by
  rw [cF_O, show va_up (ca S 12) 0 (ca S 12 0) = ca S 12 from up_eq _ _]
  unfold cO
  rw [show va_up S.1 12 (ci S 12) = S.1 from up_eq _ _, show va_up S.2.1 12 (ca S 12) = S.2.1 from up_eq _ _]
theorem m1s (k : Nat) : nI k + (-1 : Int32) = nI k - 1 := by rw [Int32.sub_eq_add_neg]
theorem pldq_d {α : Type} {E : Nat → ClassId} {P : va_W} {a len : Nat} {f : Nat → Option Nat} (hp : parQ E P a = some (len, f)) {k : Nat} (hk : k < len) (hl : len < 2 ^ 31) (K : Option Nat → Option α) : pldq E P a (nI k) K = K (f k) := by
  unfold pldq; rw [hp, bs, chk_in hk hl, nI_clamp (by omega)]
def tv (x : Option Int) (x4 : Int32) (m : Nat) : Int32 := match x with
  | none => x4
  | some v => nI (cl v m)
theorem tellL {E : Nat → ClassId} {P : va_W} {a ka n : Nat} {r : Nat → Int32} {cl : Nat → Option Nat} {X : Nat → Nat × Nat × ((Nat → Int) → Option Int)} (hka : pR P 5 a 0 = some ka) (hcl : parQ E P ka = some (12, cl)) (hn : n ≤ 12) (hX : ∀ i, i < n → ClF E P a r cl i (X i)) {F : Nat} {w : Nat → Int} {kind m : Nat} {x4 : Int32} (hF : 1000 ≤ F) (hk : kind < 2) (hm : m < 2 ^ 31) : ∀ (i fuel : Nat) (S : CS), i ≤ n → i < fuel → WD S w → ∃ h', C_9_tell_L20 F E P a (nI kind) (nI m) x4 fuel S (nI i - 1) = some (tv (lastv X kind w i) x4 m, cF S 12 0 h')
  | 0, fuel + 1, S, _, _, hw => by
    refine ⟨ca S 12 0, ?_⟩
    rw [C_9_tell_L20, if_pos (by decide), c_self]; rfl
  | i + 1, fuel + 1, S, hi, hf, hw => by
    obtain ⟨f1, f2, f3, f4, f5, f6, f7⟩ := hX i (by omega)
    rw [C_9_tell_L20, nI_pred, if_neg (nI_pos (by omega)), hka, bs, pldq_d hcl (by omega) (by decide), f1]
    show ∃ h', (pI P 0 (X i).1 0).bind _ = _
    rw [f3, bs]
    unfold lastv
    by_cases z : (X i).2.1 = kind
    · rw [if_pos (by rw [z])]
      obtain ⟨h1, g1, g2⟩ := f5 F S w (C_9_tell_L20 F E P a (nI kind) (nI m) x4 fuel) (nI kind) x4 (nI i) m hF hw (by omega) hm
      cases e : (X i).2.2 w with
      | none =>
        rw [g1 e, m1s, if_neg (fun y => y.2 rfl)]
        obtain ⟨h2, e2⟩ := tellL hka hcl hn hX hF hk hm i fuel (cF S 12 0 h1) (by omega) (by omega) (WD_F hw h1)
        exact ⟨h2, by rw [e2, cF_cF]⟩
      | some v =>
        rw [g2 v e, if_pos ⟨z, fun y => by cases y⟩]
        exact ⟨h1, rfl⟩
    · rw [if_neg (fun y => z ((nI_eq (by omega) (by omega)).mp y)), if_neg (fun y => z y.1)]
      unfold C_9_tell_B130
      rw [m1s]
      exact tellL hka hcl hn hX hF hk hm i fuel S (by omega) (by omega) hw
theorem barL {E : Nat → ClassId} {P : va_W} {a ka n : Nat} {r : Nat → Int32} {cl : Nat → Option Nat} {X : Nat → Nat × Nat × ((Nat → Int) → Option Int)} (hka : pR P 5 a 0 = some ka) (hna : pI P 5 a 1 = some (nI n)) (hcl : parQ E P ka = some (12, cl)) (hn : n ≤ 12) (hX : ∀ i, i < n → ClF E P a r cl i (X i)) {F o : Nat} {w : Nat → Int} (hF : 1000 ≤ F) : ∀ (k i fuel : Nat) (S : CS), i + k = n → k < fuel → WD S w → ∃ h' v, C_9_isBarred_L17 F E P o a fuel S (nI i) = some (v, cF S 12 0 h') ∧ ((∃ j, i ≤ j ∧ j < n ∧ (X j).2.1 = 2 ∧ (X j).2.2 w ≠ none) → v = 1) ∧ ((∀ j, i ≤ j → j < n → ¬ ((X j).2.1 = 2 ∧ (X j).2.2 w ≠ none)) → v = 0)
  | 0, i, fuel + 1, S, e, _, hw => by
    refine ⟨ca S 12 0, 0, ?_, fun ⟨j, a, b, _⟩ => by omega, fun _ => rfl⟩
    rw [C_9_isBarred_L17, hna, bs, if_pos (nI_le (by omega) (by omega)), c_self]
  | k + 1, i, fuel + 1, S, e, hf, hw => by
    obtain ⟨f1, f2, f3, f4, f5, f6, f7⟩ := hX i (by omega)
    rw [C_9_isBarred_L17, hna, bs, if_neg (nI_ge (by omega) (by omega)), hka, bs, pldq_d hcl (by omega) (by decide), f1]
    show ∃ h' v, (pI P 0 (X i).1 0).bind _ = _ ∧ _
    rw [f3, bs]
    have next : ∀ (S' : CS) (h1 : Nat → Int32), S' = cF S 12 0 h1 → ¬ ((X i).2.1 = 2 ∧ (X i).2.2 w ≠ none) → ∃ h' v, C_9_isBarred_L17 F E P o a fuel S' (nI i + 1) = some (v, cF S 12 0 h') ∧ ((∃ j, i ≤ j ∧ j < n ∧ (X j).2.1 = 2 ∧ (X j).2.2 w ≠ none) → v = 1) ∧ ((∀ j, i ≤ j → j < n → ¬ ((X j).2.1 = 2 ∧ (X j).2.2 w ≠ none)) → v = 0) := by
      intro S' h1 eS nz
      subst eS
      obtain ⟨h2, v, g1, g2, g3⟩ := barL hka hna hcl hn hX hF k (i + 1) fuel (cF S 12 0 h1) (by omega) (by omega) (WD_F hw h1)
      rw [nI_succ, cF_cF] at g1
      refine ⟨h2, v, g1, fun ⟨j, a1, a2, a3⟩ => g2 ⟨j, ?_, a2, a3⟩, fun y => g3 (fun j a b => y j (by omega) b)⟩
      rcases Nat.lt_or_ge i j with q | q
      · exact q
      · rw [show j = i by omega] at a3; exact absurd a3 nz
    by_cases z : (X i).2.1 = 2
    · rw [if_pos (show nI (X i).2.1 = (2 : Int32) by rw [z]; rfl)]
      obtain ⟨h1, g1⟩ := f6 F o S w (C_9_isBarred_L17 F E P o a fuel) (nI i) hF hw z
      rw [g1]
      by_cases y : (X i).2.2 w = none
      · rw [if_pos y]
        exact next _ h1 rfl (fun q => q.2 y)
      · rw [if_neg y]
        exact ⟨h1, 1, rfl, fun _ => rfl, fun q => absurd ⟨z, y⟩ (q i (by omega) (by omega))⟩
    · rw [if_neg (show ¬ nI (X i).2.1 = (2 : Int32) from fun y => z ((nI_eq (b := 2) (by omega) (by decide)).mp y))]
      exact next S (ca S 12 0) (c_self S).symm (fun q => z q.1)
theorem tellsL {E : Nat → ClassId} {P : va_W} {a n : Nat} {r : Nat → Int32} {cl : Nat → Option Nat} {X : Nat → Nat × Nat × ((Nat → Int) → Option Int)} (hn : n ≤ 12) (hr1 : r 1 = nI n) (hX : ∀ i, i < n → ClF E P a r cl i (X i)) {F : Nat} {w : Nat → Int} {b kind : Nat} {x4 : Int64} (hF : 1000 ≤ F) (hb : b + 900 ≤ 5476) (hk : kind < 3) : ∀ (k i fuel : Nat) (σ : MS) (x6 : Int64), i + k = n → k < fuel → WM σ w b → (∀ i, i < 900 → r i = ma σ 3 (b + i)) → (lastv X kind w i = none → x6 = x4) → (∀ v, lastv X kind w i = some v → x6.toInt = v ∧ sml v ∧ (kind = 2 → v = 1)) → ∃ τ y, M_tells_L186 F (nI kind) fuel σ x6 (nI i) = some (y, τ) ∧ KR σ τ ∧ (lastv X kind w n = none → y = x4) ∧ (∀ v, lastv X kind w n = some v → y.toInt = v ∧ sml v ∧ (kind = 2 → v = 1))
  | 0, i, fuel + 1, σ, x6, e, _, hw, hr, a1, a2 => by
    have e1 : ma σ 3 (b + 1) = nI n := by rw [← hr 1 (by omega)]; exact hr1
    rw [M_tells_L186, hw.2.1, ← nI_succ, chk_in (by omega) (by decide), nI_clamp (by omega), e1, if_pos (nI_le (by omega) (by omega))]
    have : i = n := by omega
    subst this
    exact ⟨σ, x6, rfl, KR.rf, a1, a2⟩
  | k + 1, i, fuel + 1, σ, x6, e, hf, hw, hr, a1, a2 => by
    have e1 : ma σ 3 (b + 1) = nI n := by rw [← hr 1 (by omega)]; exact hr1
    obtain ⟨f1, f2, f3, f4, f5, f6, f7⟩ := hX i (by omega)
    have e2 : ma σ 3 (b + 2 + 8 * i) = nI (X i).2.1 := by rw [← f4, hr _ (by omega)]; congr 1; omega
    have ea : nI b + (2 : Int32) + (8 : Int32) * nI i = nI (b + 2 + 8 * i) := by
      rw [show (2 : Int32) = nI 2 from rfl, show (8 : Int32) = nI 8 from rfl, pk_mul, nI_add, nI_add]
    rw [M_tells_L186, hw.2.1, ← nI_succ, chk_in (by omega) (by decide), nI_clamp (by omega), e1, if_neg (nI_ge (by omega) (by omega)), ea, chk_in (by omega) (by decide), nI_clamp (by omega), e2]
    have go : ∀ (τ : MS) (y6 : Int64), KR σ τ → (lastv X kind w (i + 1) = none → y6 = x4) → (∀ v, lastv X kind w (i + 1) = some v → y6.toInt = v ∧ sml v ∧ (kind = 2 → v = 1)) → ∃ τ' y, M_tells_L186 F (nI kind) fuel τ y6 (nI i + 1) = some (y, τ') ∧ KR σ τ' ∧ (lastv X kind w n = none → y = x4) ∧ (∀ v, lastv X kind w n = some v → y.toInt = v ∧ sml v ∧ (kind = 2 → v = 1)) := by
      intro τ y6 kr b1 b2
      obtain ⟨τ', y, g1, g2, g3, g4⟩ := tellsL hn hr1 hX hF hb hk k (i + 1) fuel τ y6 (by omega) (by omega) (WM_KR hw kr) (fun i hi => by rw [kr.1]; exact hr i hi) b1 b2
      rw [nI_succ] at g1
      exact ⟨τ', y, g1, kr.tr g2, g3, g4⟩
    by_cases z : (X i).2.1 = kind
    · rw [if_pos (by rw [z])]
      obtain ⟨τ, k1, k2, k3⟩ := f7 F σ w b hF hw hb hr
      cases c : (X i).2.2 w with
      | none =>
        rw [k2 c, bs, if_pos rfl]
        unfold M_tells_B251
        refine go τ x6 k1 ?_ ?_
        · unfold lastv; rw [c, if_neg (fun y => y.2 rfl)]; exact a1
        · unfold lastv; rw [c, if_neg (fun y => y.2 rfl)]; exact a2
      | some v =>
        obtain ⟨g1, g2, g3⟩ := k3 v c
        rw [g1, bs, if_neg (show ¬ ((1 : Int32), τ).1 = 0 from (by decide : ¬ (1 : Int32) = 0))]
        unfold M_tells_B249 M_tells_B251
        have el : lastv X kind w (i + 1) = some v := by
          unfold lastv; rw [c, if_pos ⟨z, fun y => by cases y⟩]
        by_cases y : kind = 2
        · rw [if_pos (show nI kind = (2 : Int32) by rw [y]; rfl)]
          have v1 := g3 (by omega)
          refine go τ 1 k1 (fun q => by rw [el] at q; cases q) (fun u q => ?_)
          rw [el] at q; cases q
          exact ⟨by rw [v1]; rfl, by rw [v1]; decide, fun _ => v1⟩
        · rw [if_neg (show ¬ nI kind = (2 : Int32) from fun q => y ((nI_eq (b := 2) (by omega) (by decide)).mp q))]
          obtain ⟨v1, v2⟩ := g2 (by omega)
          refine go τ (ml τ 40) k1 (fun q => by rw [el] at q; cases q) (fun u q => ?_)
          rw [el] at q; cases q
          exact ⟨v1, v2, fun q => absurd q y⟩
    · rw [if_neg (fun y => z ((nI_eq (by omega) (by omega)).mp y))]
      unfold M_tells_B251
      refine go σ x6 KR.rf ?_ ?_
      · unfold lastv; rw [if_neg (fun y => z y.1)]; exact a1
      · unfold lastv; rw [if_neg (fun y => z y.1)]; exact a2
/-- what a law says -/
def LSem (E : Nat → ClassId) (P : va_W) (a : Nat) (r : Nat → Int32) (LS : Nat → (Nat → Int) → Option Int) : Prop :=
  (∀ (F : Nat) (S : CS) (w : Nat → Int) (kind m : Nat) (x4 : Int32), 1000 ≤ F → WD S w → kind < 2 → m < 2 ^ 31 → ∃ h', C_9_tell F E P S (some a) (nI kind) (nI m) x4 = some (tv (LS kind w) x4 m, cF S 12 0 h')) ∧
  (∀ (F o : Nat) (S : CS) (w : Nat → Int), 1000 ≤ F → WD S w → ∃ h', C_9_isBarred_L17 F E P o a F S 0 = some (if LS 2 w = none then 0 else 1, cF S 12 0 h')) ∧
  (∀ (F : Nat) (σ : MS) (w : Nat → Int) (b kind : Nat) (x4 : Int64), 1000 ≤ F → WM σ w b → b + 900 ≤ 5476 → (∀ i, i < 900 → r i = ma σ 3 (b + i)) → kind < 3 → ∃ τ y, M_tells_L186 F (nI kind) F σ x4 0 = some (y, τ) ∧ KR σ τ ∧ (LS kind w = none → y = x4) ∧ (∀ v, LS kind w = some v → y.toInt = v ∧ sml v ∧ (kind = 2 → v = 1)))
theorem law_sem {E : Nat → ClassId} {Z : Nat → Prop} {P : va_W} {q : Option Nat} {r : Nat → Int32} (h : LawS E Z P q r) : ∃ (a : Nat) (LS : Nat → (Nat → Int) → Option Int), q = some a ∧ LSem E P a r LS := by
  obtain ⟨a, n, ka, co, len, code, cl, e0, -, hn, h1, h2, -, h3, h4, -, h5, h6, h7, h8⟩ := h
  have hx : ∀ i, ∃ x : Nat × Nat × ((Nat → Int) → Option Int), i < n → ClF E P a r cl i x := fun i => by
    by_cases hi : i < n
    · obtain ⟨ai, k, c1, -, c2, c3, c4⟩ := h8 i hi
      obtain ⟨g, g1, g2, g3⟩ := cl_sem h5 h6 c2 h4 c4
      have p0 : pI P 0 ai 0 = some (nI k) := by
        obtain ⟨_, _, _, _, _, _, _, _, p, _⟩ := c4; exact p
      exact ⟨(ai, k, g), fun _ => ⟨c1, c2, p0, c3, g1, g2, fun F σ w b a1 a2 a3 a4 => g3 F σ w b i a1 a2 a3 (by omega) a4 c3 rfl rfl rfl rfl⟩⟩
    · exact ⟨(0, 0, fun _ => none), fun y => absurd y hi⟩
  obtain ⟨X, hX⟩ := Classical.axiomOfChoice hx
  refine ⟨a, fun kind w => lastv X kind w n, e0, ?_, ?_, ?_⟩
  · intro F S w kind m x4 hF hw hk hm
    obtain ⟨h', g⟩ := tellL h2 h3 hn hX hF hk hm n F S (Nat.le_refl _) (by omega) hw (x4 := x4)
    refine ⟨h', ?_⟩
    unfold C_9_tell
    show (pI P 5 a 1).bind _ = _
    rw [h1, bs, if_neg (show ¬ (12 : Int32) < nI n from nI_nlt (a := 12) hn (by decide))]
    exact g
  · intro F o S w hF hw
    obtain ⟨h', v, g1, g2, g3⟩ := barL h2 h1 h3 hn hX hF n 0 F S (by omega) (by omega) hw (o := o)
    refine ⟨h', ?_⟩
    rw [show (0 : Int32) = nI 0 from rfl, g1]
    by_cases z : lastv X 2 w n = none
    · rw [if_pos z, g3 (fun j _ b => (lastv_none n).mp z j b)]; rfl
    · rw [if_neg z, g2]
      refine Classical.byContradiction fun y => z ((lastv_none n).mpr (fun j hj k => y ⟨j, Nat.zero_le _, hj, k⟩))
  · intro F σ w b kind x4 hF hw hb hr hk
    exact tellsL hn h7 hX hF hb hk n 0 F σ x4 (by omega) (by omega) hw hr (fun _ => rfl) (fun v q => by cases q)
