/-- behind a sum within a test -/
theorem rd_163 {F : Nat} {σ τ : MS} {I0 : Nat → Int32} {t : Nat → Nat} {n s b br pa : Nat} {l : List (Nat × Nat)} {f g : Nat → Int32} (hF : 1000 ≤ F) (ht : ∀ i, t i < 256) (h : RM σ I0 t n s b l br pa none f g τ) (ex : exT t n 5 s) (hi : inn l ≠ 32) : M_behindSum F τ 1 = M_behindSum_B163 F τ := by
  rw [rd_behind ht h ex]
  unfold M_behindSum_B71
  rw [if_pos rfl, rd_inner hF h, bs, if_neg hi, if_neg (show ¬ (1 : Int32) = 0 by decide)]
  split <;> rfl
/-- signs that compare -/
def sgc (o : Nat) : Nat := if o = 25 then 60 else if o = 26 then 62 else 61
theorem rd_cmp1 {F o : Nat} {σ τ : MS} {I0 : Nat → Int32} {t : Nat → Nat} {n s b br pa : Nat} {Q P : List (Nat × Nat)} {f g : Nat → Int32} (hF : 1000 ≤ F) (ht : ∀ i, t i < 256) (h : RM σ I0 t n s b (Q ++ P) br pa none f g τ) (hc : cmpd (Q ++ P) = false) (hQ : ∀ e ∈ Q, 5 ≤ bd e.1) (hP : ∀ e l, P = e :: l → bd e.1 < 5) (ho : o = 25 ∨ o = 26 ∨ o = 27) (z : isS t n s (sgc o) = true) (hb : b + (Q.length + P.length) + 2 ≤ s) : ∃ τ', M_behindSum_B163 F τ = some (1, τ') ∧ RM σ I0 t n (nxT t n s) (pst Q f g b).2.2 ((o, 0) :: P) br pa none (pst Q f g b).1 (pst Q f g b).2.1 τ' := by
  have q60 := rd_sg 60 (x := 60) rfl ht (by decide) h
  have q62 := rd_sg 62 (x := 62) rfl ht (by decide) h
  have q61 := rd_sg 61 (x := 61) rfl ht (by decide) h
  have nx := nx_gt (t := t) (isS_n z)
  obtain ⟨τ1, a1, a2⟩ := rd_must1 (F := F) hF ht h
  obtain ⟨τ2, b1, b2⟩ := rd_settle (F := F) (lv := 5) hF (by omega) hP hQ a2
  have b1' : M_settle F τ1 5 = some ((), τ2) := b1
  have pb := pst_b Q f g b
  obtain ⟨τ3, c1, c2⟩ := rd_push (o := o) (x := 0) b2 (by omega) (by decide) (by omega)
  have c1' : M_push τ2 (nI o) 0 = some ((), τ3) := c1
  have e : M_behindSum_B224 F τ (nI o) 1 = some (1, τ3) := by
    unfold M_behindSum_B224
    rw [a1, bs, rd_19 a2, if_pos rfl, b1', bs, c1', bs]
  refine ⟨τ3, ?_, c2⟩
  unfold M_behindSum_B163 M_behindSum_B202 M_behindSum_B219
  rw [rd_cmpd hF h, hc, bs, if_pos (by decide), q60, bs]
  rcases ho with rfl | rfl | rfl
  · have z' : isS t n s 60 = true := z
    rw [z', if_neg (by decide), if_neg (by decide)]; exact e
  · have z' : isS t n s 62 = true := z
    rw [isS_ne z' (by decide), if_pos (by decide), q62, z', bs, if_neg (by decide), if_neg (by decide)]; exact e
  · have z' : isS t n s 61 = true := z
    rw [isS_ne z' (by decide), if_pos (by decide), q62, isS_ne z' (by decide), bs, if_pos (by decide), if_pos rfl, q61, z', bs, if_neg (by decide)]; exact e
theorem rd_cmp0 {F : Nat} {σ τ : MS} {I0 : Nat → Int32} {t : Nat → Nat} {n s b br pa : Nat} {l : List (Nat × Nat)} {f g : Nat → Int32} (hF : 1000 ≤ F) (ht : ∀ i, t i < 256) (h : RM σ I0 t n s b l br pa none f g τ) (hc : cmpd l = false) (z1 : isS t n s 60 = false) (z2 : isS t n s 62 = false) (z3 : isS t n s 61 = false) : ∃ τ', M_behindSum_B163 F τ = some (1, τ') ∧ RM σ I0 t n s b l br pa (some s) f g τ' := by
  have q60 := rd_sg 60 (x := 60) rfl ht (by decide) h
  have q62 := rd_sg 62 (x := 62) rfl ht (by decide) h
  have q61 := rd_sg 61 (x := 61) rfl ht (by decide) h
  obtain ⟨τ1, a1, a2⟩ := rd_must0 (F := F) h
  refine ⟨τ1, ?_, a2⟩
  unfold M_behindSum_B163 M_behindSum_B202 M_behindSum_B224
  rw [rd_cmpd hF h, hc, bs, if_pos (by decide), q60, z1, bs, if_pos (by decide), q62, z2, bs, if_pos (by decide), if_pos rfl, q61, z3, bs, if_pos (by decide), a1, bs, rd_19f a2, if_neg (by decide)]
theorem rd_cmp2 {F : Nat} {σ τ : MS} {I0 : Nat → Int32} {t : Nat → Nat} {n s b br pa : Nat} {l : List (Nat × Nat)} {f g : Nat → Int32} (hF : 1000 ≤ F) (h : RM σ I0 t n s b l br pa none f g τ) (hc : cmpd l = true) : M_behindSum_B163 F τ = some (2, τ) := by
  unfold M_behindSum_B163
  rw [rd_cmpd hF h, hc, bs, if_neg (by decide)]
theorem rd_pln {F : Nat} {σ τ : MS} {I0 : Nat → Int32} {t : Nat → Nat} {n s b br pa N : Nat} {l : List (Nat × Nat)} {f g : Nat → Int32} (ht : ∀ i, t i < 256) (h : RM σ I0 t n s b l br pa none f g τ) (z1 : isW t n s (wdH 7 0) = false) (z2 : isS t n s 40 = false) : M_readExpression_L20 F 1 (N + 1) τ 0 = M_readExpression_L20 F 1 (N + 1) τ 1 := by
  rw [L20_0 (rd_19 h), L20_1 (rd_19 h)]
  unfold M_readPlain
  have q1 := rd_word (x := 14836) h
  have q1' : M_isWord τ 14836 = some (if isW t n s (wdH 7 0) then 1 else 0) := q1
  rw [q1', z1, bs, if_pos (by decide), rd_sg 40 (x := 40) rfl ht (by decide) h, z2, bs, if_pos (by decide)]
  cases M_readPart F τ with
  | none => rfl
  | some q => rfl
