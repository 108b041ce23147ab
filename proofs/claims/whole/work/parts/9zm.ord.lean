/-- a part of orders that is no bracket -/
theorem rd_partO {F : Nat} {σ τ : MS} {I0 : Nat → Int32} {t : Nat → Nat} {n s b br pa : Nat} {l : List (Nat × Nat)} {f g : Nat → Int32} (hF : 1000 ≤ F) (ht : ∀ i, t i < 256) (hb : ∀ m, m < 7 → mb σ 32 m = lN (wdH 3 m)) (h20 : I0 20 = 1) (h : RM σ I0 t n s b l br pa none f g τ) (hz : isS t n s 91 = false) : ∃ x1 y o x, M_readPart F τ = M_readPart_B99 F τ x1 y o x ∧ ((∃ m, m < 7 ∧ isW t n s (wdH 3 m) = true ∧ chI t n s 3 = nI m ∧ x1 = nI (m + 1) ∧ y = 1 ∧ o = nI (m + 1) ∧ x = 0) ∨ (chI t n s 3 = -1 ∧ nmB t n s 0 1000 = true ∧ x1 = -1 ∧ y = 1 ∧ o = 0 ∧ x = nI (dvT t s (enT t n s - s))) ∨ (chI t n s 3 = -1 ∧ nmB t n s 0 1000 = false ∧ x1 = -1 ∧ y = 0)) := by
  obtain ⟨r1, r2, r3, r4, r5, r6, r7, r8, r9⟩ := rd_mi h
  have start : M_readPart F τ = M_readPart_B35 F τ (lsF (fun m => isW t n s (wdH 3 m)) (fun m => nI (m + 1)) 7) := by
    unfold M_readPart
    rw [rd_sg 91 (x := 91) rfl ht (by decide) h, hz, bs, if_pos (by decide), r1, h20, if_neg (by decide), rd_ordAt hF hb h, bs]
  rw [start]
  unfold M_readPart_B35 M_readPart_B59 M_readPart_B60 M_readPart_B71 M_readPart_B76 M_readPart_B86
  rw [r2, r3]
  rcases ch_ls (t := t) (n := n) (s := s) (show 3 < 10 by decide) (fun m => nI (m + 1)) with ⟨m, m1, m2, m3, m4⟩ | ⟨m3, m4, m5⟩
  · have m1' : m < 7 := m1
    have k1 := kd_w m2
    rw [show wdC 3 = 7 from rfl] at m4
    rw [m4, k1]
    have nz : ¬ nI (m + 1) = (-1 : Int32) := nI_m1 (by omega)
    refine ⟨nI (m + 1), 1, nI (m + 1), 0, ?_, Or.inl ⟨m, m1', m2, m3, rfl, rfl, rfl, rfl⟩⟩
    rw [if_neg (show ¬ nI 1 = 2 by decide), if_neg nz, if_neg nz, if_pos rfl]
  · rw [show wdC 3 = 7 from rfl] at m4
    rw [m4]
    by_cases k2 : kdT t n s = 2
    · have hd := dv_b t s ht (enT t n s - s)
      rw [k2, (kd_2 k2).2, if_pos (show nI 2 = 2 from rfl), show (1000 : Int64) = lN 1000 from rfl]
      by_cases z : 1000 < dvT t s (enT t n s - s)
      · refine ⟨-1, 0, 0, 0, ?_, Or.inr (Or.inr ⟨m3, decide_eq_false (fun q => by have := q.2.2; omega), rfl, rfl⟩)⟩
        rw [if_pos ((lN_lt (by decide) (by omega)).mpr z), if_pos rfl, if_pos rfl, if_pos rfl, if_pos rfl]
      · refine ⟨-1, 1, 0, nI (dvT t s (enT t n s - s)), ?_, Or.inr (Or.inl ⟨m3, decide_eq_true ⟨k2, Nat.zero_le _, by omega⟩, rfl, rfl, rfl, rfl⟩)⟩
        rw [if_neg (fun q => z ((lN_lt (by decide) (by omega)).mp q)), if_pos rfl, if_neg (by decide), if_pos rfl, if_neg (by decide), lN_i]
    · refine ⟨-1, 0, 0, 0, ?_, Or.inr (Or.inr ⟨m3, decide_eq_false (fun q => k2 q.1), rfl, rfl⟩)⟩
      rw [if_neg (show ¬ nI (kdT t n s) = 2 from fun q => k2 ((kd_i 2 (by decide)).mp q)), if_pos rfl, if_pos rfl, if_pos rfl, if_pos rfl]
