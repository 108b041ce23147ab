/-- what the states tell -/
theorem rc_ci {S T : CS} {I0 : Nat → Int32} {t : Nat → Nat} {n s a br pa : Nat} {fl : Option Nat} {A : Nat → Int32} (h : RC S I0 t n s a br pa fl A T) : ci T 9 8 = nI pa ∧ ci T 9 4 = nI (kdT t n s) ∧ ci T 9 3 = I0 3 ∧ (kdT t n s = 2 → ci T 9 7 = nI (dcT t s (enT t n s - s))) ∧ ci T 9 2 = nI (2 * a) ∧ s ≤ n ∧ n ≤ 400 ∧ a ≤ s := by
  obtain ⟨I, rfl, tp, tk, hs, hfl, h2, h9, h8, ha, hk⟩ := h
  rw [ci_J]
  exact ⟨h8, tk.1, hk 3 (by decide) (by decide) (by decide) (by decide) (by decide) (by decide) (by decide) (by decide), tk.2.2.2, h2, hs, tp.1, ha⟩
theorem rc_pa {S T : CS} {I0 : Nat → Int32} {t : Nat → Nat} {n s a br pa : Nat} {fl : Option Nat} {A : Nat → Int32} (h : RC S I0 t n s a br pa fl A T) : RC S I0 t n s a br (pa + 1) fl A (cI T 9 8 (nI pa + 1)) := by
  have hh := h
  obtain ⟨I, rfl, tp, tk, hs, hfl, h2, h9, h8, ha, hk⟩ := hh
  rw [cJ_I, ← nI_succ]
  exact rc_set h (Or.inr (Or.inl rfl)) (by rw [pk_un (by decide)]; exact h2) (by rw [pk_un (by decide)]; exact h9) pk_us (FC_c hfl (pk_un (by decide))) ha
theorem rd_mi {σ τ : MS} {I0 : Nat → Int32} {t : Nat → Nat} {n s b br pa : Nat} {l : List (Nat × Nat)} {fl : Option Nat} {f g : Nat → Int32} (h : RM σ I0 t n s b l br pa fl f g τ) : mi τ 20 = I0 20 ∧ mi τ 16 = nI (kdT t n s) ∧ ml τ 17 = vlT t n s ∧ mi τ 23 = nI b ∧ mi τ 30 = nI br ∧ mi τ 29 = nI l.length ∧ mb τ = mb σ ∧ b + l.length ≤ s ∧ mi τ 21 = I0 21 := by
  obtain ⟨I, p, q, rfl, tp, tk, hs, hfl, h23, h29, h30, h26, pl, hb, hk⟩ := h
  exact ⟨hk 20 (by decide) (by decide) (by decide) (by decide) (by decide) (by decide) (by decide) (by decide) (by decide), tk.2.2.1, ml_J _ _ _, h23, h30, h29, rfl, hb, hk 21 (by decide) (by decide) (by decide) (by decide) (by decide) (by decide) (by decide) (by decide) (by decide)⟩
theorem rd_partAt {F : Nat} {σ τ : MS} {I0 : Nat → Int32} {t : Nat → Nat} {n s b br pa : Nat} {l : List (Nat × Nat)} {fl : Option Nat} {f g : Nat → Int32} (hF : 1000 ≤ F) (hb : ∀ m, m < 9 → mb σ 31 m = lN (wdH 2 m)) (h : RM σ I0 t n s b l br pa fl f g τ) : M_partAt F τ = some (lsF (fun m => isW t n s (wdH 2 m)) (fun m => nI (m + 1)) 9) := by
  obtain ⟨I, p, q, rfl, tp, tk, -⟩ := h
  exact qm_partAt hF hb tk
theorem kd_w {t : Nat → Nat} {n s h : Nat} (q : isW t n s h = true) : kdT t n s = 1 := (of_decide_eq_true q).1
/-- a part of a law that is no bracket -/
theorem rd_partL {F : Nat} {σ τ : MS} {I0 : Nat → Int32} {t : Nat → Nat} {n s b br pa : Nat} {l : List (Nat × Nat)} {f g : Nat → Int32} (hF : 1000 ≤ F) (ht : ∀ i, t i < 256) (hb : ∀ m, m < 9 → mb σ 31 m = lN (wdH 2 m)) (h20 : I0 20 = 0) (h : RM σ I0 t n s b l br pa none f g τ) (hz : isS t n s 91 = false) (hpa : pa ≤ 50) : ∃ y o x, (∀ τ1, (∃ s b l br pa fl f g, RM σ I0 t n s b l br pa fl f g τ1) → M_leaf F τ y o x = some ((), τ1) → M_readPart F τ = some (3, τ1)) ∧ ((∃ m, m < 9 ∧ isW t n s (wdH 2 m) = true ∧ chI t n s 2 = nI m ∧ y = 1 ∧ o = nI (m + 1) ∧ x = 0) ∨ (chI t n s 2 = -1 ∧ nmB t n s 0 1000 = true ∧ y = 1 ∧ o = 0 ∧ x = nI (dvT t s (enT t n s - s))) ∨ (chI t n s 2 = -1 ∧ nmB t n s 0 1000 = false ∧ y = 0)) := by
  obtain ⟨r1, r2, r3, r4, r5, r6, r7, r8, r9⟩ := rd_mi h
  have fin : ∀ (x1 y o x : Int32) (τ1 : MS), (∃ s b l br pa fl f g, RM σ I0 t n s b l br pa fl f g τ1) → M_leaf F τ y o x = some ((), τ1) → M_readPart_B99 F τ x1 y o x = some (3, τ1) := fun x1 y o x τ1 hr e => by
    obtain ⟨_, _, _, _, _, _, _, _, hr⟩ := hr
    unfold M_readPart_B99
    rw [e, bs, (rd_mi hr).1, h20, if_pos rfl]
  have start : M_readPart F τ = M_readPart_B35 F τ (lsF (fun m => isW t n s (wdH 2 m)) (fun m => nI (m + 1)) 9) := by
    unfold M_readPart
    have := rd_sign ht (show 91 < 256 by decide) h
    have this' : M_isSign τ 91 = some (if isS t n s 91 then 1 else 0) := this
    rw [this', hz, bs, if_pos (by decide), r1, h20, if_pos rfl, rd_partAt hF hb h, bs]
  rw [start]
  unfold M_readPart_B35 M_readPart_B59 M_readPart_B60 M_readPart_B71 M_readPart_B76 M_readPart_B86
  rw [r2, r3]
  rcases ch_ls (t := t) (n := n) (s := s) (show 2 < 10 by decide) (fun m => nI (m + 1)) with ⟨m, m1, m2, m3, m4⟩ | ⟨m3, m4, m5⟩
  · have m1' : m < 9 := m1
    have k1 := kd_w m2
    rw [show wdC 2 = 9 from rfl] at m4
    rw [m4, k1]
    have nz : ¬ nI (m + 1) = (-1 : Int32) := nI_m1 (by omega)
    refine ⟨1, nI (m + 1), 0, fun τ1 hr e => ?_, Or.inl ⟨m, m1', m2, m3, rfl, rfl, rfl⟩⟩
    rw [if_neg (show ¬ nI 1 = 2 by decide), if_neg nz, if_neg nz, if_pos rfl]
    exact fin _ _ _ _ τ1 hr e
  · rw [show wdC 2 = 9 from rfl] at m4
    rw [m4]
    by_cases k2 : kdT t n s = 2
    · have hd := dv_b t s ht (enT t n s - s)
      rw [k2, (kd_2 k2).2, if_pos (show nI 2 = 2 from rfl), show (1000 : Int64) = lN 1000 from rfl]
      by_cases z : 1000 < dvT t s (enT t n s - s)
      · refine ⟨0, 0, 0, fun τ1 hr e => ?_, Or.inr (Or.inr ⟨m3, decide_eq_false (fun q => by have := q.2.2; omega), rfl⟩)⟩
        rw [if_pos ((lN_lt (by decide) (by omega)).mpr z), if_pos rfl, if_pos rfl, if_pos rfl, if_pos rfl]
        exact fin _ _ _ _ τ1 hr e
      · refine ⟨1, 0, nI (dvT t s (enT t n s - s)), fun τ1 hr e => ?_, Or.inr (Or.inl ⟨m3, decide_eq_true ⟨k2, Nat.zero_le _, by omega⟩, rfl, rfl, rfl⟩)⟩
        rw [if_neg (fun q => z ((lN_lt (by decide) (by omega)).mp q)), if_pos rfl, if_neg (by decide), if_pos rfl, if_neg (by decide), lN_i]
        exact fin _ _ _ _ τ1 hr e
    · refine ⟨0, 0, 0, fun τ1 hr e => ?_, Or.inr (Or.inr ⟨m3, decide_eq_false (fun q => k2 q.1), rfl⟩)⟩
      rw [if_neg (show ¬ nI (kdT t n s) = 2 from fun q => k2 ((kd_i 2 (by decide)).mp q)), if_pos rfl, if_pos rfl, if_pos rfl, if_pos rfl]
      exact fin _ _ _ _ τ1 hr e
