theorem cO_7 (S : CS) (I : Nat → Int32) (A : Nat → Nat → Int32) (v : Int32) : cO (cI S 7 2 v) 1 I A = cI (cO S 1 I A) 7 2 v := by
  unfold cO cI
  refine Prod.ext ?_ rfl
  funext o
  show va_up (va_up S.1 7 _) 1 I o = va_up (va_up S.1 1 I) 7 _ o
  rw [up_d, up_d, up_d, up_d]
  by_cases a : o = 1
  · subst a; rfl
  · rw [if_neg a]
    by_cases b : o = 7
    · subst b; rfl
    · rw [if_neg b, if_neg b, if_neg a]
theorem rel_gr {E : Nat → ClassId} {S : CS} {P : va_W} {σ : MS} (h : Rel E S P σ) (v : Int32) : Rel E (cI S 0 17 v) P (mI σ 11 v) := by
  obtain ⟨L, C, H, W, h1, h2, h3, h4, h5, h6, h7, h8, h9⟩ := h
  refine ⟨L, C, H, W, h1, h2, h3, h4, h5, h6, h7, h8, ?_⟩
  obtain ⟨a1, a2, a3, a4, a5⟩ := h9
  exact ⟨a1, a2, rfl, a4, a5⟩
theorem rel_log0 {E : Nat → ClassId} {S : CS} {P : va_W} {σ : MS} (h : Rel E S P σ) : Rel E (cI S 7 2 0) P (mI σ 8 0) := by
  obtain ⟨L, C, H, W, h1, h2, h3, h4, h5, h6, h7, h8, h9⟩ := h
  exact ⟨L, C, H, W, h1, h2, h3, h4, LG_0, h6, h7, h8, h9⟩
theorem rel_tape0 {E : Nat → ClassId} {S : CS} {P : va_W} {σ : MS} (h : Rel E S P σ) : Rel E (cI S 10 1 0) P (mI σ 13 0) := by
  obtain ⟨L, C, H, W, h1, h2, h3, h4, h5, ⟨n, hn, b1, b2, b3⟩, h7, h8, h9⟩ := h
  exact ⟨L, C, H, W, h1, h2, h3, h4, h5, ⟨0, by omega, rfl, rfl, b3⟩, h7, h8, h9⟩
theorem mI_cm (σ : MS) {a b : Nat} (h : a ≠ b) (x y : Int32) : mI (mI σ a x) b y = mI (mI σ b y) a x := by
  unfold mI
  refine Prod.ext ?_ rfl
  funext k
  show upd (upd σ.1 a x) b y k = upd (upd σ.1 b y) a x k
  simp only [upd_d]
  by_cases z : k = a
  · rw [if_pos z, if_pos z, if_neg (by omega)]
  · rw [if_neg z, if_neg z]
theorem mI_mI (σ : MS) (a : Nat) (x y : Int32) : mI (mI σ a x) a y = mI σ a y := by
  unfold mI
  refine Prod.ext ?_ rfl
  funext k
  show upd (upd σ.1 a x) a y k = upd σ.1 a y k
  simp only [upd_d]; split <;> rfl
theorem cI_cm (S : CS) {a b c d : Nat} (h : a ≠ c) (x y : Int32) : cI (cI S a b x) c d y = cI (cI S c d y) a b x := by
  unfold cI
  refine Prod.ext ?_ rfl
  funext o
  show va_up (va_up S.1 a _) c (upd (va_up S.1 a _ c) d y) o = va_up (va_up S.1 c _) a (upd (va_up S.1 c _ a) b x) o
  simp only [up_d]
  by_cases z : o = a
  · rw [if_neg (by omega), if_pos z, if_pos z, if_neg (by omega)]
  · rw [if_neg z]
    by_cases y : o = c
    · rw [if_pos y, if_pos y, if_neg (by omega), if_neg z]
    · rw [if_neg y, if_neg y, if_neg z]
theorem upd_upd (f : Nat → Int32) (k : Nat) (x y : Int32) : upd (upd f k x) k y = upd f k y := by
  funext i; simp only [upd_d]; split <;> rfl
theorem cI_cI (T : CS) (o k : Nat) (x y : Int32) : cI (cI T o k x) o k y = cI T o k y := by
  rw [cI_O (cI T o k x), cI_O T o k x, cO_O, ci_O, ca_O, upd_upd, ← cI_O]
theorem rowL {F : Nat} {E : Nat → ClassId} {P : va_W} {n : Nat} (hn : n ≤ 400) : ∀ (k i fC fM m : Nat) (S : CS) (σ : MS), n ≤ 4 * (i + k) → k < fC → k < fM → m ≤ i → 4 * i < n + 4 → ci S 10 1 = nI n → mi σ 13 = 0 → Rel E (cI S 7 2 0) P (mI (mI σ 8 0) 13 (nI n)) → ∃ (q : Int32 × CS) (σ1 : MS), C_10_row_L26 F fC S (nI m) (nI (4 * i)) = some q ∧ M_row_L35 F (nI n) fM σ (nI m) (nI (4 * i)) = some (q.1, σ1) ∧ Rel E q.2 P σ1 := by
  intro k
  induction k with
  | zero =>
    intro i fC fM m S σ hk hC hM hm hi e1 e2 h
    obtain ⟨fC, rfl⟩ : ∃ x, fC = x + 1 := ⟨fC - 1, by omega⟩
    obtain ⟨fM, rfl⟩ : ∃ x, fM = x + 1 := ⟨fM - 1, by omega⟩
    have h' := rel_tape0 h
    have em0 := mI_self (mI σ 8 0) 13
    rw [show mi (mI σ 8 0) 13 = (0 : Int32) from e2] at em0
    rw [mI_mI, em0, cI_cm _ (by decide)] at h'
    rw [C_10_row_L26, e1, if_pos (nI_le (by omega) (by omega)), stc_d, stc_d, qc_accept, bs, M_row_L35, if_pos (nI_le (by omega) (by omega)), qm_last0 _ (by omega), bs]
    exact ⟨_, _, rfl, rfl, rel_acc h'⟩
  | succ k ih =>
    intro i fC fM m S σ hk hC hM hm hi e1 e2 h
    by_cases y : n ≤ 4 * i
    · obtain ⟨fC, rfl⟩ : ∃ x, fC = x + 1 := ⟨fC - 1, by omega⟩
      obtain ⟨fM, rfl⟩ : ∃ x, fM = x + 1 := ⟨fM - 1, by omega⟩
      have h' := rel_tape0 h
      have em0 := mI_self (mI σ 8 0) 13
      rw [show mi (mI σ 8 0) 13 = (0 : Int32) from e2] at em0
      rw [mI_mI, em0, cI_cm _ (by decide)] at h'
      rw [C_10_row_L26, e1, if_pos (nI_le (by omega) (by omega)), stc_d, stc_d, qc_accept, bs, M_row_L35, if_pos (nI_le (by omega) (by omega)), qm_last0 _ (by omega), bs]
      exact ⟨_, _, rfl, rfl, rel_acc h'⟩
    · obtain ⟨fC, rfl⟩ : ∃ x, fC = x + 1 := ⟨fC - 1, by omega⟩
      obtain ⟨fM, rfl⟩ : ∃ x, fM = x + 1 := ⟨fM - 1, by omega⟩
      have s1 : nI (4 * i) + (1 : Int32) = nI (4 * i + 1) := nI_add _ 1
      have s2 : nI (4 * i) + (2 : Int32) = nI (4 * i + 2) := nI_add _ 2
      have s3 : nI (4 * i) + (3 : Int32) = nI (4 * i + 3) := nI_add _ 3
      have s4 : nI (4 * i) + (4 : Int32) = nI (4 * (i + 1)) := nI_add _ 4
      rw [C_10_row_L26, e1, if_neg (nI_ge (by omega) (by omega)), M_row_L35, if_neg (nI_ge (by omega) (by omega))]
      unfold M_row_B90 M_row_B100 C_10_row_B61 C_10_layLane
      rw [s3, s4, e1, if_neg (nI_pos (by omega))]
      obtain ⟨L, C, H, W, t, vr, -, -, -, ⟨n', -, -, -, tp⟩, -, -, mi9⟩ := id h
      have egr : ci S 0 17 = mi σ 11 := mi9.2.2.1
      have grav : ∀ (fC' : Nat), fC' = fC → ∃ (q : Int32 × CS) (σ1 : MS), (stc (cI S 0 17 (ci S 0 17 + 1)) fun S5 => C_10_row_L26 F fC S5 (nI m) (nI (4 * (i + 1)))) = some q ∧ (stt (mI σ 11 (mi σ 11 + 1)) fun S1 => M_row_L35 F (nI n) fM S1 (nI m) (nI (4 * (i + 1)))) = some (q.1, σ1) ∧ Rel E q.2 P σ1 := fun _ _ => by
        rw [stc_d, stt_d]
        refine ih (i + 1) fC fM m _ _ (by omega) (by omega) (by omega) (by omega) (by omega) e1 e2 ?_
        have := rel_gr h (mi σ 11 + 1)
        rw [egr, cI_cm _ (by decide), mI_cm σ (by decide), mI_cm _ (by decide)]; exact this
      by_cases z : n < 4 * (i + 1)
      · rw [if_pos (nI_lt (by omega) (by omega)), if_pos (nI_le (by omega) (by omega)), bs, if_pos rfl]
        exact grav fC rfl
      · rw [if_neg (nI_nlt (by omega) (by omega)), if_neg (nI_ge (by omega) (by omega)), s1, s2, chk_in (by omega) (by decide), chk_in (by omega) (by decide), chk_in (by omega) (by decide), chk_in (by omega) (by decide), chk_in (by omega) (by decide), chk_in (by omega) (by decide), chk_in (by omega) (by decide), chk_in (by omega) (by decide), nI_clamp (by omega), nI_clamp (by omega), nI_clamp (by omega), nI_clamp (by omega)]
        have b0 : ca S 10 0 (4 * i) = ma σ 12 (4 * i) := (tp (4 * i) (by omega)).1
        have b1 : ca S 10 0 (4 * i + 1) = ma σ 12 (4 * i + 1) := (tp _ (by omega)).1
        have b2 : ca S 10 0 (4 * i + 2) = ma σ 12 (4 * i + 2) := (tp _ (by omega)).1
        have b3 : ca S 10 0 (4 * i + 3) = ma σ 12 (4 * i + 3) := (tp _ (by omega)).1
        rw [b0, b1, b2, b3]
        have e5 : ci S 1 5 = nI L := t.1.1.trans vr.1.1.2.2.1
        have v0 : ma σ 3 0 = nI L := vr.1.1.2.2.1
        have hL := vr.1.1.1
        rcases qm_come (σ := σ) hL v0 (ma σ 12 (4 * i)) (ma σ 12 (4 * i + 1)) (ma σ 12 (4 * i + 2)) (ma σ 12 (4 * i + 3)) with ⟨nk, eM⟩ | ⟨ok, hL10, eM⟩ | ⟨ok, hLl, eM⟩
        · rcases qc_canBe (ma σ 12 (4 * i)) (ma σ 12 (4 * i + 1)) (ma σ 12 (4 * i + 2)) (ma σ 12 (4 * i + 3)) with ⟨kk, -⟩ | ⟨-, eC⟩
          · exact absurd kk nk
          rw [eM, eC, bs, bs, if_pos (show (-1 : Int32) < 0 by decide), if_pos (show (0 : Int32) = 0 from rfl)]
          by_cases w : ci S 1 5 < 10
          · rw [if_pos w, bs, if_pos (show (0 : Int32) = 0 from rfl)]; exact grav fC rfl
          · rw [if_neg w, bs, if_pos (show (0 : Int32) = 0 from rfl)]; exact grav fC rfl
        · rw [eM, bs, if_pos (show (-5 : Int32) < 0 by decide), if_neg (show ¬ ci S 1 5 < 10 by rw [e5, hL10]; decide), bs, if_pos (show (0 : Int32) = 0 from rfl)]
          exact grav fC rfl
        · rcases qc_canBe (ma σ 12 (4 * i)) (ma σ 12 (4 * i + 1)) (ma σ 12 (4 * i + 2)) (ma σ 12 (4 * i + 3)) with ⟨-, eC⟩ | ⟨kk, -⟩
          rotate_left
          · exact absurd ok kk
          rw [eM, eC, bs, bs, if_neg (show ¬ nI L < 0 from nI_pos (by omega)), if_pos (show ci S 1 5 < 10 by rw [e5]; exact nI_lt (b := 10) hLl (by decide)), if_neg (show ¬ (1 : Int32) = 0 by decide), qc_addLane S hLl e5, bs, bs, if_neg (show ¬ (1 : Int32) = 0 by decide), ← nI_succ]
          refine ih (i + 1) fC fM (m + 1) _ _ (by omega) (by omega) (by omega) (by omega) (by omega) e1 e2 ?_
          have := rel_lane h hLl v0 ok
          rw [cO_7, cO_7] at this
          rw [cI_cI] at this
          have em : mI (mF (mI (mI σ 8 0) 13 (nI n)) 3 (addL (ma (mI (mI σ 8 0) 13 (nI n)) 3) L (ma σ 12 (4 * i)) (ma σ 12 (4 * i + 1)) (ma σ 12 (4 * i + 2)) (ma σ 12 (4 * i + 3)))) 8 0 = mI (mI (mF σ 3 (addL (ma σ 3) L (ma σ 12 (4 * i)) (ma σ 12 (4 * i + 1)) (ma σ 12 (4 * i + 2)) (ma σ 12 (4 * i + 3)))) 8 0) 13 (nI n) := by
            have a1 : mF (mI (mI σ 8 0) 13 (nI n)) 3 (addL (ma (mI (mI σ 8 0) 13 (nI n)) 3) L (ma σ 12 (4 * i)) (ma σ 12 (4 * i + 1)) (ma σ 12 (4 * i + 2)) (ma σ 12 (4 * i + 3))) = mI (mI (mF σ 3 (addL (ma σ 3) L (ma σ 12 (4 * i)) (ma σ 12 (4 * i + 1)) (ma σ 12 (4 * i + 2)) (ma σ 12 (4 * i + 3)))) 8 0) 13 (nI n) := rfl
            rw [a1, mI_cm _ (by decide), mI_mI, mI_cm _ (by decide)]
          rw [em] at this
          exact this
theorem pa_8 {F : Nat} {E : Nat → ClassId} (hF : 1000 ≤ F) : ag_8 F E (Rel E) := fun S P σ h => by
  have hh := h
  obtain ⟨L, C, H, W, -, -, -, -, -, ⟨n, hn, b1, b2, b3⟩, -, -, -⟩ := hh
  unfold C_10_row M_row
  rw [stt_d, stt_d, show mi (mI σ 0 0) 13 = nI n from b2, b1]
  by_cases z : n = 0
  · subst z
    rw [if_pos (show nI 0 = (0 : Int32) from rfl), if_pos (show nI 0 = (0 : Int32) from rfl)]
    have e : mI (mI σ 0 0) 13 0 = mI σ 0 0 := by
      have := mI_self (mI σ 0 0) 13
      rw [show mi (mI σ 0 0) 13 = nI 0 from b2] at this
      exact this
    rw [e]
    obtain ⟨T, τ, r1, r2, r3⟩ := ag_m1 h (-6) 6 (by decide) rfl (by decide)
    rw [r1, r2, bs, bs]
    exact ⟨_, _, rfl, rfl, r3⟩
  · rw [if_neg (nI_ne0 (by omega) (by omega)), if_neg (nI_ne0 (by omega) (by omega)), stc_d, stt_d]
    refine rowL hn 100 0 F F 0 (cI S 0 17 0) (mI (mI (mI σ 0 0) 13 0) 11 0) (by omega) (by omega) (by omega) (by omega) (by omega) b1 rfl ?_
    have k := rel_gr (rel_log0 (rel_0 h 0)) 0
    rw [cI_cm _ (by decide)] at k
    have e : mI (mI (mI (mI (mI σ 0 0) 13 0) 11 0) 8 0) 13 (nI n) = mI (mI (mI σ 0 0) 8 0) 11 0 := by
      rw [mI_cm (mI (mI (mI σ 0 0) 13 0) 11 0) (by decide), mI_cm (mI (mI σ 0 0) 13 0) (by decide), mI_mI]
      have := mI_self (mI σ 0 0) 13
      rw [show mi (mI σ 0 0) 13 = nI n from b2] at this
      rw [this, mI_cm _ (by decide)]
    rw [e]; exact k
