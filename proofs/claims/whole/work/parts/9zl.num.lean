/-- a number of the reference -/
theorem rd_number {F lo hi : Nat} {σ τ : MS} {I0 : Nat → Int32} {t : Nat → Nat} {n s b br pa : Nat} {l : List (Nat × Nat)} {f g : Nat → Int32} (hF : 1000 ≤ F) (ht : ∀ i, t i < 256) (hl : lo ≤ 1000) (hh : hi ≤ 1000) (h : RM σ I0 t n s b l br pa none f g τ) : (nmB t n s lo hi = true ∧ ∃ τ', M_number F τ (lN lo) (lN hi) = some (nI (dvT t s (enT t n s - s)), τ') ∧ RM σ I0 t n (nxT t n s) b l br pa none f g τ') ∨ (nmB t n s lo hi = false ∧ ∃ v τ', M_number F τ (lN lo) (lN hi) = some (v, τ') ∧ RM σ I0 t n s b l br pa (some s) f g τ') := by
  obtain ⟨r1, r2, r3, -⟩ := rd_mi h
  obtain ⟨τ0, a1, a2⟩ := rd_must0 (F := F) h
  obtain ⟨τ1, b1, b2⟩ := rd_must1 (F := F) hF ht h
  unfold M_number M_number_B32 M_number_B33
  rw [r2, r3]
  by_cases z : kdT t n s = 2
  · have hd := dv_b t s ht (enT t n s - s)
    rw [if_pos (show nI (kdT t n s) = 2 by rw [z]; rfl), (kd_2 z).2, qm_inN (by omega) (by omega) (by omega), bs]
    by_cases y : lo ≤ dvT t s (enT t n s - s) ∧ dvT t s (enT t n s - s) ≤ hi
    · rw [if_pos y, if_neg (by decide), b1, bs, lN_i]
      exact Or.inl ⟨decide_eq_true ⟨z, y⟩, τ1, rfl, b2⟩
    · rw [if_neg y, if_pos rfl, a1, bs]
      exact Or.inr ⟨decide_eq_false (fun q => y q.2), _, τ0, rfl, a2⟩
  · rw [if_neg (show ¬ nI (kdT t n s) = 2 from fun q => z ((kd_i 2 (by decide)).mp q)), a1, bs]
    exact Or.inr ⟨decide_eq_false (fun q => z q.1), _, τ0, rfl, a2⟩
theorem rd_ordAt {F : Nat} {σ τ : MS} {I0 : Nat → Int32} {t : Nat → Nat} {n s b br pa : Nat} {l : List (Nat × Nat)} {fl : Option Nat} {f g : Nat → Int32} (hF : 1000 ≤ F) (hb : ∀ m, m < 7 → mb σ 32 m = lN (wdH 3 m)) (h : RM σ I0 t n s b l br pa fl f g τ) : M_orderPartAt F τ = some (lsF (fun m => isW t n s (wdH 3 m)) (fun m => nI (m + 1)) 7) := by
  obtain ⟨I, p, q, rfl, tp, tk, -⟩ := h
  exact qm_ordAt hF hb tk
/-- the reference sets an argument -/
theorem rd_arg {σ τ : MS} {I0 : Nat → Int32} {t : Nat → Nat} {n s b br pa j : Nat} {l : List (Nat × Nat)} {fl : Option Nat} {f g : Nat → Int32} {x : Int32} (h : RM σ I0 t n s b l br pa fl f g τ) : RM σ I0 t n s b l br pa fl f (upd g j x) (mA τ 25 j x) := by
  obtain ⟨I, p, q, rfl, r⟩ := h
  rw [mQ_25]
  exact ⟨I, p, q, rfl, r⟩
