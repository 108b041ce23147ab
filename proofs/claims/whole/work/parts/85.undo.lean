theorem qc_takeBack0 {S : CS} {m : Nat} (hm : m < 16) (h : ci S 7 2 = nI (m + 1)) : C_1_takeBack S 7 1 = some (ca S 7 0 (m * 20), cF (cF (cF (cF (cI S 7 2 (nI m)) 1 12 (upd (ca S 1 12) 0 (ca S 7 0 (m * 20 + 1)))) 1 7 (va_cpy (ca S 7 0) (ca S 1 7) (m * 20 + 2) 0 4)) 1 8 (va_cpy (ca S 7 0) (ca S 1 8) (m * 20 + 2 + 4) 0 4)) 1 4 (va_cpy (ca S 7 0) (ca S 1 4) (m * 20 + 2 + 8) 0 10)) := by
  unfold C_1_takeBack
  have e2 : ci (cI S 7 2 (nI m)) 7 2 = nI m := rfl
  have em : nI m * (20 : Int32) = nI (m * 20) := pk_mul m 20
  have e4 : nI (m * 20 + 2) + (4 : Int32) = nI (m * 20 + 2 + 4) := nI_add _ 4
  have e8 : nI (m * 20 + 2) + (8 : Int32) = nI (m * 20 + 2 + 8) := nI_add _ 8
  have ea : nI (m * 20) + (2 : Int32) = nI (m * 20 + 2) := nI_add _ 2
  rw [if_pos (by rw [h]; exact nI_lt (a := 0) (b := m + 1) (by omega) (by omega)), h, stc_d, nI_pred, e2, em, ea, e4, e8, ← nI_succ, chk_in (by omega) (by decide), stc_d, chk_t (show cpok (nI (m * 20 + 2)) (0 : Int32) (4 : Int32) 320 4 = true from cpok_in (a := m * 20 + 2) (b := 0) (c := 4) (by omega) (by omega) (by omega) (by omega)), stc_d, chk_t (show cpok (nI (m * 20 + 2 + 4)) (0 : Int32) (4 : Int32) 320 4 = true from cpok_in (a := m * 20 + 2 + 4) (b := 0) (c := 4) (by omega) (by omega) (by omega) (by omega)), stc_d, chk_t (show cpok (nI (m * 20 + 2 + 8)) (0 : Int32) (10 : Int32) 320 10 = true from cpok_in (a := m * 20 + 2 + 8) (b := 0) (c := 10) (by omega) (by omega) (by omega) (by omega)), stc_d, chk_in (by omega) (by decide), nI_clamp (by omega), nI_clamp (by omega), nI_clamp (by omega), nI_clamp (by omega), nI_clamp (by omega), cp_0, cp_4, cp_10]
  rfl
theorem qc_takeBack {S : CS} {m : Nat} (hm : m < 16) (h : ci S 7 2 = nI (m + 1)) : ∃ T, C_1_takeBack S 7 1 = some (ca S 7 0 (m * 20), T) ∧ KD S T ∧ ca T 7 0 = ca S 7 0 ∧ ci T 7 2 = nI m ∧ ca T 1 12 = upd (ca S 1 12) 0 (ca S 7 0 (m * 20 + 1)) ∧ ca T 1 7 = va_cpy (ca S 7 0) (ca S 1 7) (m * 20 + 2) 0 4 ∧ ca T 1 8 = va_cpy (ca S 7 0) (ca S 1 8) (m * 20 + 2 + 4) 0 4 ∧ ca T 1 4 = va_cpy (ca S 7 0) (ca S 1 4) (m * 20 + 2 + 8) 0 10 := by
  refine ⟨_, qc_takeBack0 hm h, ⟨fun o k z => ?_, rfl, rfl, fun o k a b c d => ?_⟩, rfl, rfl, ?_, ?_, ?_, ca_cF _ _ _ _⟩
  · show va_up S.1 7 (upd (S.1 7) 2 (nI m)) o k = _
    rw [up_d]
    by_cases y : o = 7
    · rw [if_pos y, pk_un (by omega), y]
    · rw [if_neg y]
  · rw [ca_cFn _ _ _ _ _ _ (by omega), ca_cFn _ _ _ _ _ _ (by omega), ca_cFn _ _ _ _ _ _ (by omega), ca_cFn _ _ _ _ _ _ (by omega)]; rfl
  · rw [ca_cFn _ _ _ _ _ _ (by omega), ca_cFn _ _ _ _ _ _ (by omega), ca_cFn _ _ _ _ _ _ (by omega), ca_cF]
  · rw [ca_cFn _ _ _ _ _ _ (by omega), ca_cFn _ _ _ _ _ _ (by omega), ca_cF]
  · rw [ca_cFn _ _ _ _ _ _ (by omega), ca_cF]
theorem pa_19 {F : Nat} {E : Nat → ClassId} (hF : 1000 ≤ F) : ag_19 F E (Rel E) := fun S P σ h => by
  have hh := h
  obtain ⟨L, C, H, W, hb⟩ := hh
  obtain ⟨t, vr, -, -, ⟨n, hn, l1, l2, l3⟩, -, -, -, -⟩ := id hb
  unfold C_10_undo M_undo
  rw [stt_d, show mi (mI σ 0 0) 8 = nI n from l2, l1]
  by_cases z : n = 0
  · subst z
    obtain ⟨T, τ, r1, r2, r3⟩ := ag_m1 h (-3) 3 (by decide) rfl (by decide)
    rw [if_neg (by decide), if_pos (show nI 0 = (0 : Int32) from rfl), r1, bs, r2, bs]
    exact ⟨_, _, rfl, rfl, r3⟩
  · obtain ⟨m, rfl⟩ : ∃ m, n = m + 1 := ⟨n - 1, by omega⟩
    obtain ⟨T, g0, g1, g2, g3, g4, g5, g6, g7⟩ := qc_takeBack (by omega) l1
    rw [if_pos (show (0 : Int32) < nI (m + 1) from nI_lt (a := 0) (b := m + 1) (by omega) (by omega)), if_neg (nI_ne0 (by omega) (by omega)), g0, bs, qc_accept, bs, nI_pred, stt_d]
    have e8 : mi (mI (mI σ 0 0) 8 (nI m)) 8 = nI m := rfl
    rw [e8, qm_putBack (by omega) (by omega), bs]
    have e8' : mi (mF (mI (mI σ 0 0) 8 (nI m)) 3 (snap (ma (mI (mI σ 0 0) 8 (nI m)) 6) m (ma (mI (mI σ 0 0) 8 (nI m)) 3))) 8 = nI m := rfl
    have e3 : ma (mF (mI (mI σ 0 0) 8 (nI m)) 3 (snap (ma (mI (mI σ 0 0) 8 (nI m)) 6) m (ma (mI (mI σ 0 0) 8 (nI m)) 3))) 3 = snap (ma σ 6) m (ma σ 3) := ma_F _ _ _
    show ∃ q σ1, _ = some q ∧ (chk (inb (mi (mF (mI (mI σ 0 0) 8 (nI m)) 3 (snap (ma (mI (mI σ 0 0) 8 (nI m)) 6) m (ma (mI (mI σ 0 0) 8 (nI m)) 3))) 8) 16 = true) ((M_tell (mF (mI (mI σ 0 0) 8 (nI m)) 3 (snap (ma (mI (mI σ 0 0) 8 (nI m)) 6) m (ma (mI (mI σ 0 0) 8 (nI m)) 3))) (ma σ 7 (mi (mF (mI (mI σ 0 0) 8 (nI m)) 3 (snap (ma (mI (mI σ 0 0) 8 (nI m)) 6) m (ma (mI (mI σ 0 0) 8 (nI m)) 3))) 8).toNatClampNeg)).bind _)) = _ ∧ _
    rw [e8', chk_in (by omega) (by decide), nI_clamp (by omega)]
    obtain ⟨⟨d, hd, d1, d2⟩, b1, b2, b3, b4, b5, b6, b7⟩ := l3 m (by omega)
    rw [d2, qm_tell0 _ (by omega), bs, Nat.mul_comm m 20, d1]
    rw [Nat.mul_comm m 20] at g4 g5 g6 g7
    have s : ∀ i, i < 5 ∨ 26 ≤ i → snap (ma σ 6) m (ma σ 3) i = ma σ 3 i := fun i hi => by unfold snap; rw [if_neg (by omega)]
    have u : ∀ i, i < 21 → snap (ma σ 6) m (ma σ 3) (5 + i) = ma σ 6 (21 * m + i) := fun i hi => by unfold snap; rw [if_pos (by omega), show 5 + i - 5 = i by omega]
    have s6 : snap (ma σ 6) m (ma σ 3) 6 = ma σ 3 6 := (u 1 (by omega)).trans b4
    have s7 : snap (ma σ 6) m (ma σ 3) 7 = ma σ 3 7 := (u 2 (by omega)).trans b5
    refine ⟨_, _, rfl, rfl, rel_acc ⟨L, C, H, W, rel_step (RelB_0 hb 0) g1 ((ky_8 _ _).tr (ky_F _ (Or.inl rfl) _)) ?_ ?_ ?_ (fun i hi => ?_) ?_⟩⟩
    · rw [e3, show ci T 1 = ci S 1 from funext fun k => g1.1 1 k (Or.inl (by decide))]
      have en : ∀ k, k ≠ 4 → k ≠ 7 → k ≠ 8 → k ≠ 12 → ca T 1 k = ca S 1 k := fun k a b c d => g1.2.2.2 1 k (by decide) (by decide) (by decide) (Or.inr ⟨a, b, c, d⟩)
      obtain ⟨⟨t1, t2, t3, t4, t5⟩, tl, tc, th, tt⟩ := t
      refine ⟨⟨?_, ?_, ?_, ?_, ?_⟩, fun i hi => ?_, fun i hi => ?_, fun i hi => ?_, fun i hi => ?_⟩
      · rw [s _ (by omega)]; exact t1
      · rw [s _ (by omega)]; exact t2
      · rw [s _ (by omega)]; exact t3
      · rw [s _ (by omega)]; exact t4
      · rw [s _ (by omega)]; exact t5
      · obtain ⟨c0, c1, c2, c3, c4⟩ := tl i hi
        refine ⟨by rw [en 0 (by decide) (by decide) (by decide) (by decide), s _ (by omega)]; exact c0, by rw [en 1 (by decide) (by decide) (by decide) (by decide), s _ (by omega)]; exact c1, by rw [en 2 (by decide) (by decide) (by decide) (by decide), s _ (by omega)]; exact c2, by rw [en 3 (by decide) (by decide) (by decide) (by decide), s _ (by omega)]; exact c3, ?_⟩
        rw [g7, pk_cpy_in (by omega) (by omega), show 8 + i = 5 + (3 + i) by omega, u _ (by omega), ← Nat.add_assoc, ← b3 i hi]; congr 1
      · obtain ⟨c0, c1, c2⟩ := tc i hi
        refine ⟨by rw [en 6 (by decide) (by decide) (by decide) (by decide), s _ (by omega)]; exact c0, ?_, ?_⟩
        · rw [g5, pk_cpy_in (by omega) (by omega), show 18 + i = 5 + (13 + i) by omega, u _ (by omega), ← Nat.add_assoc, ← (b2 i hi).1]; congr 1
        · rw [g6, pk_cpy_in (by omega) (by omega), show 22 + i = 5 + (17 + i) by omega, u _ (by omega), ← Nat.add_assoc, ← (b2 i hi).2]; congr 1
      · rw [en 10 (by decide) (by decide) (by decide) (by decide), s _ (by omega)]; exact th i hi
      · rw [g4]
        rcases (by omega : i = 0 ∨ i = 1 ∨ i = 2) with rfl | rfl | rfl
        · rw [pk_us, b1]; exact (u 0 (by omega)).symm
        · rw [pk_un (by decide)]; exact (tt 1 (by omega)).trans s6.symm
        · rw [pk_un (by decide)]; exact (tt 2 (by omega)).trans s7.symm
    · rw [e3]; exact b6
    · rw [e3]; exact b7
    · rw [e3]
      by_cases y : 6 ≤ i ∧ i < 8
      · rcases (by omega : i = 6 ∨ i = 7) with rfl | rfl
        · exact s6
        · exact s7
      · exact s i (by omega)
    · rw [e3, g2, g3]
      refine LG_R (R := ma σ 3) (fun i hi => ?_) ⟨m, by omega, rfl, e8', fun k hk => l3 k (by omega)⟩
      by_cases y : 6 ≤ i ∧ i < 8
      · rcases (by omega : i = 6 ∨ i = 7) with rfl | rfl
        · exact s6
        · exact s7
      · exact s i (by omega)
