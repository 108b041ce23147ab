def cnB (p : Nat → Bool) : Nat → Nat
  | 0 => 0
  | j + 1 => cnB p j + (if p j then 1 else 0)
theorem cnB_le (p : Nat → Bool) : ∀ j, cnB p j ≤ j
  | 0 => Nat.le_refl _
  | j + 1 => by have := cnB_le p j; unfold cnB; split <;> omega
theorem cnB_mono (p : Nat → Bool) {i : Nat} : ∀ j, i ≤ j → cnB p i ≤ cnB p j
  | 0, h => by rw [show i = 0 by omega]; exact Nat.le_refl _
  | j + 1, h => by
    rcases Nat.lt_or_ge i (j + 1) with q | q
    · have := cnB_mono p j (by omega) (i := i); show _ ≤ cnB p j + _; omega
    · rw [show i = j + 1 by omega]; exact Nat.le_refl _
def pickL (p : Nat → Bool) (t : Nat) : Nat → Int32
  | 0 => -1
  | j + 1 => if p j = true ∧ cnB p j = t then nI j else pickL p t j
theorem pick_at (p : Nat → Bool) {t i : Nat} (hp : p i = true) (ht : cnB p i = t) : ∀ j, i < j → pickL p t j = nI i
  | 0, h => by omega
  | j + 1, h => by
    unfold pickL
    rcases Nat.lt_or_ge i j with q | q
    · have := cnB_mono p j (i := i + 1) (by omega)
      have e : cnB p (i + 1) = cnB p i + 1 := by show cnB p i + _ = _; rw [if_pos hp]
      rw [if_neg (by omega)]; exact pick_at p hp ht j q
    · rw [show j = i by omega, if_pos ⟨hp, ht⟩]
theorem pick_ex (p : Nat → Bool) {t : Nat} : ∀ j, t < cnB p j → ∃ i, i < j ∧ p i = true ∧ cnB p i = t
  | 0, h => by unfold cnB at h; omega
  | j + 1, h => by
    rcases Nat.lt_or_ge t (cnB p j) with q | q
    · obtain ⟨i, a, b⟩ := pick_ex p j q; exact ⟨i, by omega, b⟩
    · have h' : t < cnB p j + (if p j then 1 else 0) := h
      by_cases z : p j = true
      · rw [if_pos z] at h'; exact ⟨j, by omega, z, by omega⟩
      · rw [if_neg z] at h'; omega
/-- may it go along -/
def canB (LS : Nat → (Nat → Int) → Option Int) (R : Nat → Int32) (c j : Nat) : Bool := (decide (R (26 + j) = R (18 + c)) || decide (R (36 + j) = R (18 + c))) && !brB LS R c j
def laneS (LS : Nat → (Nat → Int) → Option Int) (R : Nat → Int32) (L c : Nat) : Int32 := if cnB (canB LS R c) L = 0 then -1 else pickL (canB LS R c) (tnN LS R c % cnB (canB LS R c) L) L
theorem laneS_c (LS : Nat → (Nat → Int) → Option Int) (R : Nat → Int32) (L c : Nat) : laneS LS R L c = -1 ∨ ∃ j, j < L ∧ laneS LS R L c = nI j ∧ (R (26 + j) = R (18 + c) ∨ R (36 + j) = R (18 + c)) := by
  unfold laneS
  by_cases z : cnB (canB LS R c) L = 0
  · rw [if_pos z]; exact Or.inl rfl
  · rw [if_neg z]
    obtain ⟨i, a1, a2, a3⟩ := pick_ex (canB LS R c) L (Nat.mod_lt (tnN LS R c) (by omega))
    refine Or.inr ⟨i, a1, pick_at _ a2 a3 L a1, ?_⟩
    unfold canB at a2
    simp only [Bool.and_eq_true, Bool.or_eq_true, decide_eq_true_eq] at a2
    exact a2.1
theorem qc_isEnd {S : CS} {o L j : Nat} {R : Nat → Int32} (hL : L ≤ 10) (h0 : ci S o 5 = nI L) (e0 : ca S o 0 j = R (26 + j)) (e1 : ca S o 1 j = R (36 + j)) (hj : j < L) (x : Int32) : C_7_isEnd S o (nI j) x = some (if R (26 + j) = x ∨ R (36 + j) = x then 1 else 0) := by
  unfold C_7_isEnd C_7_isEnd_B28
  rw [qc_hasLane hL h0, isAt_in hj (by omega), bs, if_neg (by decide), chk_in (by omega) (by decide), chk_in (by omega) (by decide), nI_clamp (by omega), e0, e1]
  by_cases z : R (26 + j) = x
  · rw [if_pos z, if_pos (Or.inl z)]
  · rw [if_neg z]
    by_cases y : R (36 + j) = x
    · rw [if_pos y, if_pos (Or.inr y)]
    · rw [if_neg y, if_neg (by rintro (q | q) <;> contradiction)]
theorem qm_ends {σ : MS} {j : Nat} (hj : j < 10) (x : Int32) : M_ends σ (nI j) x = some (if ma σ 3 (26 + j) = x ∨ ma σ 3 (36 + j) = x then 1 else 0) := by
  unfold M_ends M_ends_B26
  rw [a26, a36, chk_in (by omega) (by decide), chk_in (by omega) (by decide), nI_clamp (by omega), nI_clamp (by omega)]
  by_cases z : ma σ 3 (26 + j) = x
  · rw [if_pos z, if_pos (Or.inl z)]
  · rw [if_neg z]
    by_cases y : ma σ 3 (36 + j) = x
    · rw [if_pos y, if_pos (Or.inr y)]
    · rw [if_neg y, if_neg (by rintro (q | q) <;> contradiction)]
theorem canB_d (LS : Nat → (Nat → Int) → Option Int) (R : Nat → Int32) (c j : Nat) : canB LS R c j = true ↔ (R (26 + j) = R (18 + c) ∨ R (36 + j) = R (18 + c)) ∧ brB LS R c j = false := by
  unfold canB
  simp only [Bool.and_eq_true, Bool.or_eq_true, decide_eq_true_eq, Bool.not_eq_true']
theorem qm_canGo {E : Nat → ClassId} {P : va_W} {q : Option Nat} {LS : Nat → (Nat → Int) → Option Int} {F : Nat} {σ : MS} {L C c j : Nat} (h : LQ E P (ma σ 3) q LS) (hF : 1000 ≤ F) (va : VA (ma σ 3) L C) (hc : c < C) (hj : j < L) (h20 : mi σ 20 = 0) : ∃ τ, M_canGo F σ (nI c) (nI j) = some (if canB LS (ma σ 3) c j then 1 else 0, τ) ∧ KL σ τ := by
  have hb := va.1
  unfold M_canGo
  rw [a18, chk_in (by omega) (by decide), nI_clamp (by omega), qm_ends (by omega), bs]
  by_cases z : ma σ 3 (26 + j) = ma σ 3 (18 + c) ∨ ma σ 3 (36 + j) = ma σ 3 (18 + c)
  · rw [if_pos z, if_neg (by decide)]
    obtain ⟨τ, g1, g2⟩ := qm_bar h hF va hc hj h20
    rw [g1, bs]
    refine ⟨τ, ?_, g2⟩
    by_cases y : brB LS (ma σ 3) c j = true
    · rw [if_pos y, if_neg (show ¬ ((1 : Int32), τ).1 = 0 from (by decide : ¬ (1 : Int32) = 0)), if_neg (fun k => by rw [((canB_d LS (ma σ 3) c j).mp k).2] at y; cases y)]
    · rw [if_neg y, if_pos rfl, if_pos ((canB_d LS (ma σ 3) c j).mpr ⟨z, by simpa using y⟩)]
  · rw [if_neg z, if_pos rfl]
    exact ⟨σ, by rw [if_neg (fun k => z ((canB_d LS (ma σ 3) c j).mp k).1)], KL.rf⟩
theorem takeL {E : Nat → ClassId} {P : va_W} {R : Nat → Int32} {q : Option Nat} {LS : Nat → (Nat → Int) → Option Int} (h : LQ E P R q LS) {F o L C c : Nat} (hF : 1000 ≤ F) (ho : o ≠ 11) (ho2 : o ≠ 12) (va : VA R L C) (hc : c < C) : ∀ (k j fuel : Nat) (S : CS), j + k = L → k < fuel → TV (ci S o) (ca S o) R c → (∀ i, i < j → canB LS R c i = true → ca S 11 3 (cnB (canB LS R c) i) = nI i) → ∃ T, C_9_laneTaken_L16 F E P o q (nI c) fuel S (nI (cnB (canB LS R c) j)) (nI j) = some (laneS LS R L c, T) ∧ KW S T
  | 0, j, fuel + 1, S, e, _, t, hf => by
    have hj : j = L := by omega
    subst hj
    have hb := va.1
    have hn := cnB_le (canB LS R c) j
    have e0 : ci S o 5 = nI j := t.1.1.trans va.1.2.2.1
    rw [C_9_laneTaken_L16, e0, if_pos (nI_le (Nat.le_refl _) (by omega))]
    unfold C_9_laneTaken_B80 laneS
    by_cases z : cnB (canB LS R c) j = 0
    · rw [if_pos (by rw [z]; rfl), if_pos z]; exact ⟨S, rfl, KW.rf⟩
    · have nz : ¬ nI (cnB (canB LS R c) j) = 0 := nI_ne0 (by omega) (by omega)
      rw [if_neg nz, if_neg z]
      obtain ⟨f, e1, e2⟩ := qc_look (l := none) ho t va hc (fun j z => by cases z)
      obtain ⟨h', e3⟩ := qc_tellQ h (kind := 0) (m := 99) (x4 := 0) hF e2 (by omega) (by omega)
      have et : tv (LS 0 (wv R c none)) 0 99 = nI (tnN LS R c) := by unfold tnN; cases LS 0 (wv R c none) <;> rfl
      have tl : tnN LS R c < 2 ^ 31 := by
        unfold tnN; split
        · omega
        · next v _ => have := cl_le v 99; omega
      rw [show (-1 : Int32) = lI none from rfl, e1, bs]
      show ∃ T, (C_9_tell F E P (cF S 11 2 f) q (nI 0) (nI 99) 0).bind _ = _ ∧ _
      rw [e3, bs, chk_t nz]
      have hm := Nat.mod_lt (tnN LS R c) (show 0 < cnB (canB LS R c) j by omega)
      have er : (tv (LS 0 (wv R c none)) 0 99, cF (cF S 11 2 f) 12 0 h').1 - (tv (LS 0 (wv R c none)) 0 99, cF (cF S 11 2 f) 12 0 h').1 / nI (cnB (canB LS R c) j) * nI (cnB (canB LS R c) j) = nI (tnN LS R c % cnB (canB LS R c) j) := by
        show tv (LS 0 (wv R c none)) 0 99 - tv (LS 0 (wv R c none)) 0 99 / _ * _ = _
        rw [et, pk_rem tl (by omega) (by omega)]
      rw [er, if_neg (nI_pos (by omega)), if_neg (nI_ge hm (by omega)), chk_in (by omega) (by decide), nI_clamp (by omega)]
      obtain ⟨i, a1, a2, a3⟩ := pick_ex (canB LS R c) j hm
      refine ⟨cF (cF S 11 2 f) 12 0 h', ?_, (kw_11 S f (Or.inl rfl)).tr (kw_12 _ _)⟩
      rw [pick_at _ a2 a3 j a1]
      show some (ca S 11 3 _, _) = _
      rw [← a3, hf i a1 a2]
  | k + 1, j, fuel + 1, S, e, hfu, t, hf => by
    have hb := va.1
    have hn := cnB_le (canB LS R c) j
    have e0 : ci S o 5 = nI L := t.1.1.trans va.1.2.2.1
    obtain ⟨l0, l1, -, -⟩ := t.2.1 j (by omega)
    rw [C_9_laneTaken_L16, e0, if_neg (nI_ge (by omega) (by omega)), if_neg (show ¬ (10 : Int32) ≤ nI (cnB (canB LS R c) j) from nI_ge (b := 10) (by omega) (by decide)), chk_in (by omega) (by decide), nI_clamp (by omega), t.2.2.1.2.1, qc_isEnd hb.1 e0 l0 l1 (by omega), bs]
    unfold C_9_laneTaken_B74
    have skip : ∀ T, KW S T → ca T 11 3 = ca S 11 3 → canB LS R c j = false → ∃ T', C_9_laneTaken_L16 F E P o q (nI c) fuel T (nI (cnB (canB LS R c) j)) (nI j + 1) = some (laneS LS R L c, T') ∧ KW S T' := by
      intro T kw e3 nb
      obtain ⟨T', g1, g2⟩ := takeL h hF ho ho2 va hc k (j + 1) fuel T (by omega) (by omega) (TV_KW ho ho2 kw t) (fun i hi hp => by
        rw [e3]
        rcases Nat.lt_or_ge i j with y | y
        · exact hf i y hp
        · rw [show i = j by omega, nb] at hp; cases hp)
      have ec : cnB (canB LS R c) (j + 1) = cnB (canB LS R c) j := by
        show cnB _ j + _ = _; rw [nb]; rfl
      rw [ec, nI_succ] at g1
      exact ⟨T', g1, kw.tr g2⟩
    by_cases z : R (26 + j) = R (18 + c) ∨ R (36 + j) = R (18 + c)
    · rw [if_pos z, if_neg (by decide)]
      obtain ⟨T, g1, g2, g3⟩ := qc_bar h hF ho t va hc (show j < L by omega)
      rw [g1, bs]
      by_cases y : brB LS R c j = true
      · rw [if_pos y, if_neg (show ¬ ((1 : Int32), T).1 = 0 from (by decide : ¬ (1 : Int32) = 0))]
        exact skip T g2 g3 (by
          cases hcb : canB LS R c j with
          | false => rfl
          | true => rw [((canB_d LS R c j).mp hcb).2] at y; cases y)
      · have cb : canB LS R c j = true := (canB_d LS R c j).mpr ⟨z, by simpa using y⟩
        rw [if_neg y, if_pos rfl, chk_in (by omega) (by decide), nI_clamp (by omega), stc_d]
        have ec : cnB (canB LS R c) (j + 1) = cnB (canB LS R c) j + 1 := by
          show cnB _ j + _ = _; rw [if_pos cb]
        have kw2 : KW S (cA T 11 3 (cnB (canB LS R c) j) (nI j)) := g2.tr (kw_11 T _ (Or.inr rfl))
        obtain ⟨T', r1, r2⟩ := takeL h hF ho ho2 va hc k (j + 1) fuel (cA T 11 3 (cnB (canB LS R c) j) (nI j)) (by omega) (by omega) (TV_KW ho ho2 kw2 t) (fun i hi hp => by
          show upd (ca T 11 3) (cnB (canB LS R c) j) (nI j) (cnB (canB LS R c) i) = nI i
          rw [g3]
          rcases Nat.lt_or_ge i j with y | y
          · have := cnB_mono (canB LS R c) j (i := i + 1) (by omega)
            have e' : cnB (canB LS R c) (i + 1) = cnB (canB LS R c) i + 1 := by show cnB _ i + _ = _; rw [if_pos hp]
            rw [pk_un (by omega)]; exact hf i y hp
          · rw [show i = j by omega, pk_us])
        rw [ec, nI_succ, nI_succ] at r1
        exact ⟨T', r1, kw2.tr r2⟩
    · rw [if_neg z, if_pos rfl]
      exact skip S KW.rf rfl (by
        cases hcb : canB LS R c j with
        | false => rfl
        | true => exact absurd ((canB_d LS R c j).mp hcb).1 z)
/-- along which lane, by the class -/
theorem qc_taken {E : Nat → ClassId} {P : va_W} {R : Nat → Int32} {q : Option Nat} {LS : Nat → (Nat → Int) → Option Int} (h : LQ E P R q LS) {F o L C c : Nat} {S : CS} (hF : 1000 ≤ F) (ho : o ≠ 11) (ho2 : o ≠ 12) (t : TV (ci S o) (ca S o) R c) (va : VA R L C) (hc : c < C) : ∃ T, C_9_laneTaken F E P S o q (nI c) = some (laneS LS R L c, T) ∧ KW S T := by
  have hb := va.1
  obtain ⟨T, g1, g2⟩ := takeL h hF ho ho2 va hc L 0 F S (by omega) (by omega) t (fun i hi => by omega)
  refine ⟨T, ?_, g2⟩
  unfold C_9_laneTaken
  rw [qc_hasChild hb.2.1 (t.1.2.1.trans hb.2.2.2), isAt_in hc (by omega), bs, if_neg (by decide)]
  exact g1
theorem subN {t a : Nat} (ht : t < 2 ^ 30) (ha : a < 2 ^ 30) : (nI t - nI a = 0) ↔ a = t := by
  rw [eq_i, pk_sub_toInt ht ha, i32_0]; omega
theorem subS (t a : Nat) : nI t - nI a + (-1 : Int32) = nI t - nI (a + 1) := by
  rw [nI_succ, Int32.sub_eq_add_neg, Int32.sub_eq_add_neg, Int32.neg_add, Int32.sub_eq_add_neg, Int32.add_assoc]
theorem ofL2 {E : Nat → ClassId} {P : va_W} {q : Option Nat} {LS : Nat → (Nat → Int) → Option Int} {F L C c t : Nat} {R : Nat → Int32} (h : LQ E P R q LS) (hF : 1000 ≤ F) (va : VA R L C) (hc : c < C) (ht : t < 2 ^ 30) : ∀ (k j fuel : Nat) (σ : MS), ma σ 3 = R → mi σ 20 = 0 → j + k = L → k < fuel → ∃ τ, M_laneOf_L57 F (nI c) fuel σ (nI t - nI (cnB (canB LS R c) j)) (pickL (canB LS R c) t j) (nI j) = some (pickL (canB LS R c) t L, τ) ∧ KL σ τ
  | 0, j, fuel + 1, σ, eR, h20, e, _ => by
    have hb := va.1
    have e0 : ma σ 3 0 = nI L := by rw [eR]; exact hb.2.2.1
    rw [M_laneOf_L57, e0, if_pos (nI_le (by omega) (by omega)), show j = L by omega]
    exact ⟨σ, rfl, KL.rf⟩
  | k + 1, j, fuel + 1, σ, eR, h20, e, hf => by
    have hb := va.1
    have hn := cnB_le (canB LS R c) j
    have e0 : ma σ 3 0 = nI L := by rw [eR]; exact hb.2.2.1
    obtain ⟨τ, g1, g2⟩ := qm_canGo (σ := σ) (by rw [eR]; exact h) hF (by rw [eR]; exact va) hc (show j < L by omega) h20
    rw [eR] at g1
    rw [M_laneOf_L57, e0, if_neg (nI_ge (by omega) (by omega)), g1, bs]
    have eR' : ma τ 3 = R := by rw [g2.1, eR]
    have h20' : mi τ 20 = 0 := by rw [g2.2.1 20 (by decide) (by decide)]; exact h20
    obtain ⟨τ', r1, r2⟩ := ofL2 h hF va hc ht k (j + 1) fuel τ eR' h20' (by omega) (by omega)
    refine ⟨τ', ?_, g2.tr r2⟩
    unfold M_laneOf_B94 M_laneOf_B89 M_laneOf_B94
    rw [nI_succ] at r1
    by_cases z : canB LS R c j = true
    · have ec : cnB (canB LS R c) (j + 1) = cnB (canB LS R c) j + 1 := by
        show cnB _ j + _ = _; rw [if_pos z]
      rw [if_pos z, if_neg (show ¬ ((1 : Int32), τ).1 = 0 from (by decide : ¬ (1 : Int32) = 0)), subS]
      rw [ec] at r1
      by_cases y : cnB (canB LS R c) j = t
      · rw [if_pos ((subN ht (by omega)).mpr y)]
        rw [show pickL (canB LS R c) t (j + 1) = (if canB LS R c j = true ∧ cnB (canB LS R c) j = t then nI j else pickL (canB LS R c) t j) from rfl] at r1
        rw [if_pos ⟨z, y⟩] at r1
        exact r1
      · rw [if_neg (fun w => y ((subN ht (by omega)).mp w))]
        rw [show pickL (canB LS R c) t (j + 1) = (if canB LS R c j = true ∧ cnB (canB LS R c) j = t then nI j else pickL (canB LS R c) t j) from rfl] at r1
        rw [if_neg (fun w => y w.2)] at r1
        exact r1
    · have ec : cnB (canB LS R c) (j + 1) = cnB (canB LS R c) j := by
        show cnB _ j + _ = _; rw [if_neg z]; rfl
      rw [if_neg z, if_pos rfl]
      rw [ec] at r1
      rw [show pickL (canB LS R c) t (j + 1) = (if canB LS R c j = true ∧ cnB (canB LS R c) j = t then nI j else pickL (canB LS R c) t j) from rfl] at r1
      rw [if_neg (fun w => z w.1)] at r1
      exact r1
theorem ofL1 {E : Nat → ClassId} {P : va_W} {q : Option Nat} {LS : Nat → (Nat → Int) → Option Int} {F L C c : Nat} {R : Nat → Int32} (h : LQ E P R q LS) (hF : 1000 ≤ F) (va : VA R L C) (hc : c < C) : ∀ (k j fuel : Nat) (σ : MS), ma σ 3 = R → mi σ 20 = 0 → j + k = L → k < fuel → ∃ τ, M_laneOf_L4 F (nI c) fuel σ (nI (cnB (canB LS R c) j)) (nI j) = some (laneS LS R L c, τ) ∧ KL σ τ
  | 0, j, fuel + 1, σ, eR, h20, e, _ => by
    have hb := va.1
    have hj : j = L := by omega
    subst hj
    have hn := cnB_le (canB LS R c) j
    have e0 : ma σ 3 0 = nI j := by rw [eR]; exact hb.2.2.1
    rw [M_laneOf_L4, e0, if_pos (nI_le (Nat.le_refl _) (by omega))]
    unfold laneS
    by_cases z : cnB (canB LS R c) j = 0
    · rw [if_pos (by rw [z]; rfl), if_pos z]; exact ⟨σ, rfl, KL.rf⟩
    · have nz : ¬ nI (cnB (canB LS R c) j) = 0 := nI_ne0 (by omega) (by omega)
      rw [if_neg nz, if_neg z]
      obtain ⟨τ, g1, g2⟩ := qm_turn (σ := σ) (by rw [eR]; exact h) hF (by rw [eR]; exact va) hc h20
      have tl : tnN LS R c < 2 ^ 30 := by
        unfold tnN; split
        · omega
        · next v _ => have := cl_le v 99; omega
      rw [eR] at g1
      rw [g1, bs, chk_t nz, pk_rem (by omega) (by omega) (by omega)]
      obtain ⟨τ', r1, r2⟩ := ofL2 h hF va hc (t := tnN LS R c % cnB (canB LS R c) j) (by have := Nat.mod_lt (tnN LS R c) (show 0 < cnB (canB LS R c) j by omega); omega) j 0 F τ (by rw [g2.1, eR]) (by rw [g2.2.1 20 (by decide) (by decide)]; exact h20) (by omega) (by omega)
      rw [show cnB (canB LS R c) 0 = 0 from rfl, show nI (tnN LS R c % cnB (canB LS R c) j) - nI 0 = nI (tnN LS R c % cnB (canB LS R c) j) from pk_sub (Nat.zero_le _)] at r1
      exact ⟨τ', r1, g2.tr r2⟩
  | k + 1, j, fuel + 1, σ, eR, h20, e, hf => by
    have hb := va.1
    have hn := cnB_le (canB LS R c) j
    have e0 : ma σ 3 0 = nI L := by rw [eR]; exact hb.2.2.1
    obtain ⟨τ, g1, g2⟩ := qm_canGo (σ := σ) (by rw [eR]; exact h) hF (by rw [eR]; exact va) hc (show j < L by omega) h20
    rw [eR] at g1
    rw [M_laneOf_L4, e0, if_neg (nI_ge (by omega) (by omega)), g1, bs]
    obtain ⟨τ', r1, r2⟩ := ofL1 h hF va hc k (j + 1) fuel τ (by rw [g2.1, eR]) (by rw [g2.2.1 20 (by decide) (by decide)]; exact h20) (by omega) (by omega)
    refine ⟨τ', ?_, g2.tr r2⟩
    unfold M_laneOf_B29
    by_cases z : canB LS R c j = true
    · have ec : cnB (canB LS R c) (j + 1) = cnB (canB LS R c) j + 1 := by
        show cnB _ j + _ = _; rw [if_pos z]
      rw [if_pos z, if_neg (show ¬ ((1 : Int32), τ).1 = 0 from (by decide : ¬ (1 : Int32) = 0))]
      rw [ec, nI_succ, nI_succ] at r1
      exact r1
    · have ec : cnB (canB LS R c) (j + 1) = cnB (canB LS R c) j := by
        show cnB _ j + _ = _; rw [if_neg z]; rfl
      rw [if_neg z, if_pos rfl, Int32.add_zero]
      rw [ec, nI_succ] at r1
      exact r1
theorem qm_laneOf {E : Nat → ClassId} {P : va_W} {q : Option Nat} {LS : Nat → (Nat → Int) → Option Int} {F L C c : Nat} {σ : MS} (h : LQ E P (ma σ 3) q LS) (hF : 1000 ≤ F) (va : VA (ma σ 3) L C) (hc : c < C) (h20 : mi σ 20 = 0) : ∃ τ, M_laneOf F σ (nI c) = some (laneS LS (ma σ 3) L c, τ) ∧ KL σ τ := ofL1 h hF va hc L 0 F σ rfl h20 (by omega) (by have := va.1; omega)
