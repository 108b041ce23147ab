/-- the words of orders -/
def wO (R : Nat → Int32) (L C : Nat) (d l : Int32) : Nat → Int32 := fun k => if k = 0 then R 5 else if k = 1 then d else if k = 2 then l else if k = 3 then nI (cnt R L) else if k = 4 then nI C else if k < 9 then (if k - 5 < C then R (18 + (k - 5)) else -1) else if k - 9 < L then R (8 + (k - 9)) else -1
theorem wO_5 (R : Nat → Int32) (L C : Nat) (d l : Int32) {j : Nat} (h : j < 4) : wO R L C d l (5 + j) = if j < C then R (18 + j) else -1 := by
  unfold wO
  rw [if_neg (by omega), if_neg (by omega), if_neg (by omega), if_neg (by omega), if_neg (by omega), if_pos (by omega), show 5 + j - 5 = j by omega]
theorem wO_9 (R : Nat → Int32) (L C : Nat) (d l : Int32) (j : Nat) : wO R L C d l (9 + j) = if j < L then R (8 + j) else -1 := by
  unfold wO
  rw [if_neg (by omega), if_neg (by omega), if_neg (by omega), if_neg (by omega), if_neg (by omega), if_neg (by omega), show 9 + j - 9 = j by omega]
theorem isAt_no {j n : Nat} (h : ¬ j < n) (hj : j < 2 ^ 31) : isAt (nI j) n = 0 := by
  unfold isAt
  rw [nI_toInt hj, if_neg (by omega)]
theorem noteL88 {F L C : Nat} {S : CS} {R : Nat → Int32} {d l : Int32} (t : TW (ci S 1) (ca S 1) R) (va : VA R L C) : ∀ (r j fuel : Nat) (N : Nat → Int32), j + r = 10 → r < fuel → (∀ k, k < 9 + j → N k = wO R L C d l k) → ∃ N', C_10_noteOrderWords_L88 F fuel (cF S 0 12 N) (nI j) = some ((), cF S 0 12 N') ∧ ∀ k, k < 19 → N' k = wO R L C d l k
  | 0, j, fuel + 1, N, e, _, hN => by
    obtain rfl : j = 10 := by omega
    exact ⟨N, by rw [C_10_noteOrderWords_L88, if_pos (by decide)], hN⟩
  | r + 1, j, fuel + 1, N, e, hf, hN => by
    have hl : C_7_hasLane (cF S 0 12 N) 1 (nI j) = some (isAt (nI j) L) := qc_hasLane va.1.1 (t.1.1.trans va.1.2.2.1) (nI j)
    have step : ∀ x : Int32, x = wO R L C d l (9 + j) → ∃ N', C_10_noteOrderWords_B126 F (C_10_noteOrderWords_L88 F fuel) (cF S 0 12 N) (nI j) ((9 : Int32) + nI j) x = some ((), cF S 0 12 N') ∧ ∀ k, k < 19 → N' k = wO R L C d l k := fun x hx => by
      unfold C_10_noteOrderWords_B126
      rw [show (9 : Int32) + nI j = nI (9 + j) from nI_add 9 j, chk_in (show 9 + j < 19 by omega) (by decide), stc_d, nI_clamp (by omega), cA_cF, ← nI_succ]
      refine noteL88 t va r (j + 1) fuel _ (by omega) (by omega) (fun k hk => ?_)
      by_cases z : k = 9 + j
      · rw [z, pk_us]; exact hx
      · rw [pk_un z]; exact hN k (by omega)
    rw [C_10_noteOrderWords_L88, if_neg (show ¬ (10 : Int32) ≤ nI j from nI_ge (b := 10) (by omega) (by decide)), hl, bs]
    by_cases z : j < L
    · rw [isAt_in z (by have := va.1.1; omega), if_neg (show ¬ (1 : Int32) = 0 by decide), chk_in (show j < 10 by omega) (by decide), nI_clamp (by omega)]
      refine step _ ?_
      rw [ca_cFn _ _ _ _ _ _ (Or.inl (by decide)), wO_9, if_pos z]
      exact (t.2.1 j (by omega)).2.2.2.2
    · rw [isAt_no z (by omega), if_pos rfl]
      refine step _ ?_
      rw [wO_9, if_neg z]
theorem noteL43 {F L C : Nat} {S : CS} {R : Nat → Int32} {d l : Int32} (hF : 1000 ≤ F) (t : TW (ci S 1) (ca S 1) R) (va : VA R L C) : ∀ (r j fuel : Nat) (N : Nat → Int32), j + r = 4 → r < fuel → (∀ k, k < 5 + j → N k = wO R L C d l k) → ∃ N', C_10_noteOrderWords_L43 F fuel (cF S 0 12 N) (nI j) = some ((), cF S 0 12 N') ∧ ∀ k, k < 19 → N' k = wO R L C d l k
  | 0, j, fuel + 1, N, e, _, hN => by
    obtain rfl : j = 4 := by omega
    rw [C_10_noteOrderWords_L43, if_pos (by decide)]
    exact noteL88 (d := d) (l := l) t va 10 0 F N (by omega) (by omega) (fun k hk => hN k (by omega))
  | r + 1, j, fuel + 1, N, e, hf, hN => by
    have hl : C_7_hasChild (cF S 0 12 N) 1 (nI j) = some (isAt (nI j) C) := qc_hasChild va.1.2.1 (t.1.2.1.trans va.1.2.2.2) (nI j)
    have step : ∀ x : Int32, x = wO R L C d l (5 + j) → ∃ N', C_10_noteOrderWords_B79 F (C_10_noteOrderWords_L43 F fuel) (cF S 0 12 N) (nI j) ((5 : Int32) + nI j) x = some ((), cF S 0 12 N') ∧ ∀ k, k < 19 → N' k = wO R L C d l k := fun x hx => by
      unfold C_10_noteOrderWords_B79
      rw [show (5 : Int32) + nI j = nI (5 + j) from nI_add 5 j, chk_in (show 5 + j < 19 by omega) (by decide), stc_d, nI_clamp (by omega), cA_cF, ← nI_succ]
      refine noteL43 hF t va r (j + 1) fuel _ (by omega) (by omega) (fun k hk => ?_)
      by_cases z : k = 5 + j
      · rw [z, pk_us]; exact hx
      · rw [pk_un z]; exact hN k (by omega)
    rw [C_10_noteOrderWords_L43, if_neg (show ¬ (4 : Int32) ≤ nI j from nI_ge (b := 4) (by omega) (by decide)), hl, bs]
    by_cases z : j < C
    · rw [isAt_in z (by have := va.1.2.1; omega), if_neg (show ¬ (1 : Int32) = 0 by decide), chk_in (show j < 4 by omega) (by decide), nI_clamp (by omega)]
      refine step _ ?_
      rw [ca_cFn _ _ _ _ _ _ (Or.inl (by decide)), wO_5 _ _ _ _ _ (by omega), if_pos z]
      exact (t.2.2.1 j (by omega)).2.1
    · rw [isAt_no z (by omega), if_pos rfl]
      refine step _ ?_
      rw [wO_5 _ _ _ _ _ (by omega), if_neg z]
theorem noteC {F L C : Nat} {S : CS} {R : Nat → Int32} (hF : 1000 ≤ F) (t : TW (ci S 1) (ca S 1) R) (va : VA R L C) : ∃ N, C_10_noteOrderWords F S = some ((), cF S 0 12 N) ∧ ∀ k, k < 19 → N k = wO R L C (ca S 0 12 1) (ca S 0 12 2) k := by
  have e1 : ∀ x, cA S 0 12 0 x = cF S 0 12 (upd (ca S 0 12) 0 x) := fun x => rfl
  have hn : ∀ N, C_7_namedLanes F (cF S 0 12 N) 1 = some (nI (cnt R L)) := fun N => qc_namedLanes (by omega) va.1.1 (t.1.1.trans va.1.2.2.1) (fun j hj => by
    rw [ca_cFn _ _ _ _ _ _ (Or.inl (by decide))]
    exact (t.2.1 j hj).2.2.2.2)
  unfold C_10_noteOrderWords
  rw [stc_d, e1, hn, bs, stc_d, cA_cF, stc_d, cA_cF]
  refine noteL43 hF t va 4 0 F _ (by omega) (by omega) (fun k hk => ?_)
  rcases (by omega : k = 0 ∨ k = 1 ∨ k = 2 ∨ k = 3 ∨ k = 4) with rfl | rfl | rfl | rfl | rfl
  · rw [pk_un (by decide), pk_un (by decide), pk_us]
    exact t.2.2.2.2 0 (by omega)
  · rw [pk_un (by decide), pk_un (by decide), pk_un (by decide)]; rfl
  · rw [pk_un (by decide), pk_un (by decide), pk_un (by decide)]; rfl
  · rw [pk_un (by decide), pk_us]; rfl
  · rw [pk_us]
    exact t.1.2.1.trans va.1.2.2.2
theorem sml_n2 {n : Nat} (h : n ≤ 2000) : sml (nI n).toInt := by
  rw [nI_toInt (by omega)]; exact ⟨by omega, by omega⟩
theorem sml_mm : sml (-1 : Int32).toInt := by decide
theorem smlW {R : Nat → Int32} {L C : Nat} {d l : Int32} (va : VA R L C) (hd : sml d.toInt) (hl : sml l.toInt) : ∀ k, k < 19 → sml (wO R L C d l k).toInt := fun k hk => by
  obtain ⟨⟨v1, v2, v3, v4⟩, vl, vc, ⟨h, h1, h2⟩, -⟩ := va
  by_cases a0 : k = 0
  · subst a0
    show sml (R 5).toInt
    rw [h2]; exact sml_n2 h1
  by_cases a1 : k = 1
  · subst a1; exact hd
  by_cases a2 : k = 2
  · subst a2; exact hl
  by_cases a3 : k = 3
  · subst a3
    show sml (nI (cnt R L)).toInt
    have := cnt_le R L
    exact sml_n2 (by omega)
  by_cases a4 : k = 4
  · subst a4
    show sml (nI C).toInt
    exact sml_n2 (by omega)
  by_cases a5 : k < 9
  · obtain ⟨j, rfl⟩ : ∃ j, k = 5 + j := ⟨k - 5, by omega⟩
    rw [wO_5 _ _ _ _ _ (by omega)]
    by_cases z : j < C
    · rw [if_pos z]
      obtain ⟨-, ⟨q, q1, q2⟩, -⟩ := vc j z
      rw [q2]; exact sml_n2 (by omega)
    · rw [if_neg z]; exact sml_mm
  · obtain ⟨j, rfl⟩ : ∃ j, k = 9 + j := ⟨k - 9, by omega⟩
    rw [wO_9]
    by_cases z : j < L
    · rw [if_pos z]
      obtain ⟨-, -, -, -, -, q | ⟨q, q1, q2⟩⟩ := vl j z
      · rw [q]; exact sml_mm
      · rw [q2]; exact sml_n2 (by omega)
    · rw [if_neg z]; exact sml_mm
/-- orders' code as the reference reads it -/
theorem rc_ord {F L C j : Nat} {σ : MS} {f g R : Nat → Int32} {d l : Int32} (hj : j ≤ 400) (h20 : mi σ 20 = 1) (h24 : ma σ 24 = f) (h25 : ma σ 25 = g) (h3 : ma σ 3 = R) (va : VA R L C) (hm : ∀ k, k < 5 → mb σ 36 (k + 1) = (wO R L C d l k).toInt64) (hd : sml d.toInt) (hl : sml l.toInt) : RCode F σ 19 j (rcf true f g) (fun k => (wO R L C d l k).toInt) f g := by
  have cd : ∀ k, rcf true f g k = ropP (f k) (g k) := fun k => rfl
  refine ⟨fun τ k m x3 kr h38 hk => ?_, fun k hk h0 => ?_, fun k τ hk kr h1 h2 h3' => ?_, fun k hk h2 h3' => ?_, fun k hk => smlW va hd hl k hk⟩
  · have e20 : mi τ 20 = 1 := by rw [kr.2.1 20 (by decide)]; exact h20
    rw [M_reckonAll_L10, if_neg (nI_ge hk (by omega)), if_pos h38, e20, if_neg (show ¬ (1 : Int32) = 0 by decide), chk_in (show k < 400 by omega) (by decide), nI_clamp (by omega)]
    unfold M_reckonAll_B57
    rw [e20, if_neg (show ¬ (1 : Int32) = 0 by decide), chk_in (show k < 400 by omega) (by decide), nI_clamp (by omega), kr.1, h24, h25]
  · rw [cd k] at h0 ⊢
    unfold ropP at h0 ⊢
    by_cases z : (f k).toInt = 0
    · rw [if_pos z]; exact ⟨by rw [eq_i, z]; rfl, rfl⟩
    · exfalso
      rw [if_neg z] at h0
      by_cases z2 : (f k).toInt < 6
      · rw [if_pos z2] at h0; cases h0
      rw [if_neg z2] at h0
      by_cases z3 : (f k).toInt < 20
      · rw [if_pos z3] at h0
        split at h0
        · split at h0 <;> cases h0
        · split at h0 <;> cases h0
      · rw [if_neg z3] at h0
        have h0' : ((f k).toInt - 18).toNat = 0 := h0
        omega
  · rw [cd k] at h1 h2 h3' ⊢
    unfold ropP at h1 h2 h3' ⊢
    have e20 : mi τ 20 = 1 := by rw [kr.2.1 20 (by decide)]; exact h20
    by_cases z : (f k).toInt = 0
    · rw [if_pos z] at h1; cases h1
    rw [if_neg z] at h1 h2 h3' ⊢
    by_cases z2 : (f k).toInt < 6
    · rw [if_pos z2] at h1 h2 h3' ⊢
      obtain ⟨q, hq, eq⟩ : ∃ q : Nat, q < 5 ∧ f k = nI (q + 1) := by
        have h2' : 0 ≤ (f k).toInt - 1 := h2
        refine ⟨((f k).toInt - 1).toNat, by omega, ?_⟩
        rw [eq_i, nI_toInt (by omega)]; omega
      refine ⟨mb σ 36 (q + 1), ?_, fun kk x3 => ?_⟩
      · rw [hm q hq, w_64, eq]
        show _ = (wO R L C d l ((nI (q + 1)).toInt - 1).toNat).toInt
        rw [nI_toInt (by omega)]
        congr 2; omega
      · rw [eq]
        unfold M_reckonAll_B95
        rw [if_neg (show ¬ (20 : Int32) ≤ nI (q + 1) from nI_ge (b := 20) (by omega) (by decide)), if_neg (nI_ne0 (by omega) (by omega)), e20, if_neg (show ¬ (1 : Int32) = 0 by decide), if_neg (show ¬ (6 : Int32) ≤ nI (q + 1) from nI_ge (b := 6) (by omega) (by decide)), chk_in (by omega) (by decide), nI_clamp (by omega), kr.2.2 36 (by decide), ← nI_succ]
    rw [if_neg z2] at h1 h2 h3' ⊢
    by_cases z3 : (f k).toInt < 20
    rotate_left
    · rw [if_neg z3] at h1
      have h1' : ((f k).toInt - 18).toNat = 1 := h1
      omega
    rw [if_pos z3] at h1 h2 h3' ⊢
    by_cases z4 : (f k).toInt = 6
    · rw [if_pos z4] at h1 h2 h3' ⊢
      by_cases z5 : 0 ≤ (g k).toInt ∧ (g k).toInt ≤ 3
      rotate_left
      · rw [if_neg z5] at h1; cases h1
      rw [if_pos z5]
      have ef : f k = 6 := by rw [eq_i, z4]; rfl
      obtain ⟨a, ha, eg⟩ : ∃ a : Nat, a < 4 ∧ g k = nI a := ⟨(g k).toInt.toNat, by omega, nI_of' z5.1⟩
      have hc : M_isChild τ (nI a) = some (isAt (nI a) C) := qm_isChild (by have := va.1.2.1; omega) (by rw [kr.1, h3]; exact va.1.2.2.2) (nI a)
      refine ⟨(wO R L C d l (5 + a)).toInt64, ?_, fun kk x3 => ?_⟩
      · rw [w_64]
        show _ = (wO R L C d l (5 + (g k).toInt).toNat).toInt
        rw [eg, nI_toInt (by omega)]
        congr 2
      · rw [ef, eg]
        unfold M_reckonAll_B95 M_reckonAll_B187
        rw [if_neg (show ¬ (20 : Int32) ≤ 6 by decide), if_neg (show ¬ (6 : Int32) = 0 by decide), e20, if_neg (show ¬ (1 : Int32) = 0 by decide), if_pos (show (6 : Int32) ≤ 6 by decide), if_pos (show (6 : Int32) = 6 from rfl), hc, bs, wO_5 _ _ _ _ _ ha, ← nI_succ]
        by_cases y : a < C
        · rw [isAt_in y (by have := va.1.2.1; omega), if_neg (show ¬ (1 : Int32) = 0 by decide), show (18 : Int32) + nI a = nI (18 + a) from nI_add 18 a, chk_in (show 18 + a < 5476 by omega) (by decide), nI_clamp (by omega), if_pos y, kr.1, h3]
        · rw [isAt_no y (by omega), if_pos rfl, if_neg y]
    · rw [if_neg z4] at h1 h2 h3' ⊢
      by_cases z5 : (f k).toInt = 7 ∧ 0 ≤ (g k).toInt ∧ (g k).toInt ≤ 9
      rotate_left
      · rw [if_neg z5] at h1; cases h1
      rw [if_pos z5]
      have ef : f k = 7 := by rw [eq_i, z5.1]; rfl
      obtain ⟨a, ha, eg⟩ : ∃ a : Nat, a < 10 ∧ g k = nI a := ⟨(g k).toInt.toNat, by omega, nI_of' z5.2.1⟩
      have hc : M_isLane τ (nI a) = some (isAt (nI a) L) := qm_isLane va.1.1 (by rw [kr.1, h3]; exact va.1.2.2.1) (nI a)
      refine ⟨(wO R L C d l (9 + a)).toInt64, ?_, fun kk x3 => ?_⟩
      · rw [w_64]
        show _ = (wO R L C d l (9 + (g k).toInt).toNat).toInt
        rw [eg, nI_toInt (by omega)]
        congr 2
      · rw [ef, eg]
        unfold M_reckonAll_B95
        rw [if_neg (show ¬ (20 : Int32) ≤ 7 by decide), if_neg (show ¬ (7 : Int32) = 0 by decide), e20, if_neg (show ¬ (1 : Int32) = 0 by decide), if_pos (show (6 : Int32) ≤ 7 by decide), if_neg (show ¬ (7 : Int32) = 6 by decide), hc, bs, wO_9, ← nI_succ]
        by_cases y : a < L
        · rw [isAt_in y (by have := va.1.1; omega), if_neg (show ¬ (1 : Int32) = 0 by decide), show (8 : Int32) + nI a = nI (8 + a) from nI_add 8 a, chk_in (show 8 + a < 5476 by omega) (by decide), nI_clamp (by omega), if_pos y, kr.1, h3]
        · rw [isAt_no y (by omega), if_pos rfl, if_neg y]; rfl
  · rw [cd k] at h2 h3' ⊢
    unfold ropP at h2 h3' ⊢
    by_cases z : (f k).toInt = 0
    · rw [if_pos z] at h2; have : 2 ≤ 0 := h2; omega
    rw [if_neg z] at h2 h3' ⊢
    by_cases z2 : (f k).toInt < 6
    · rw [if_pos z2] at h2; have : 2 ≤ 1 := h2; omega
    rw [if_neg z2] at h2 h3' ⊢
    by_cases z3 : (f k).toInt < 20
    · exfalso
      rw [if_pos z3] at h2 h3'
      split at h2
      · next z4 =>
        rw [if_pos z4] at h3'
        split at h2
        · have : 2 ≤ 1 := h2; omega
        · next z5 => rw [if_neg z5] at h3'; have : 99 ≤ 12 := h3'; omega
      · next z4 =>
        rw [if_neg z4] at h3'
        split at h2
        · have : 2 ≤ 1 := h2; omega
        · next z5 => rw [if_neg z5] at h3'; have : 99 ≤ 12 := h3'; omega
    · rw [if_neg z3] at h3' ⊢
      have h3'' : ((f k).toInt - 18).toNat ≤ 12 := h3'
      refine ⟨?_, rfl⟩
      show f k = nI (((f k).toInt - 18).toNat + 18)
      rw [eq_i, nI_toInt (by omega)]; omega
