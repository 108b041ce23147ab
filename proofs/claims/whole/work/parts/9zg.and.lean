theorem rcf_j {ol : Bool} {f g : Nat → Int32} {k o j : Nat} (h : f k = nI o) (ho : o = 29 ∨ o = 30) (hj : j < 2 ^ 31) (hg : g k = nI j) : rcf ol f g k = (o - 18, (j : Int)) := by
  have e : (nI o).toInt = o := nI_toInt (by omega)
  have e2 : (nI j).toInt = j := nI_toInt hj
  unfold rcf ropP ropL
  rw [h, hg, e, e2]
  cases ol with
  | true =>
    rw [if_pos rfl, if_neg (by omega), if_neg (by omega), if_neg (by omega)]
    congr 1; omega
  | false =>
    rw [if_neg (by decide), if_neg (by omega), if_neg (by omega)]
    congr 1; omega
/-- the word of and, or -/
def wAO (o : Nat) : Nat := if o = 29 then 8 else 9
theorem rd_and {F o : Nat} {σ τ : MS} {I0 : Nat → Int32} {t : Nat → Nat} {n s b br pa : Nat} {Q P : List (Nat × Nat)} {f g : Nat → Int32} (hF : 1000 ≤ F) (ht : ∀ i, t i < 256) (ho : o = 29 ∨ o = 30) (h : RM σ I0 t n s b (Q ++ P) br pa none f g τ) (hQ : ∀ e ∈ Q, bd o ≤ bd e.1) (hP : ∀ e l, P = e :: l → bd e.1 < bd o) (hb : b + (Q.length + P.length) + 2 ≤ s) (z : isW t n s (wdH (wAO o) 0) = true) (zo : o = 30 → isW t n s (wdH 8 0) = false) : ∃ τ', M_behindTest F τ = some (0, τ') ∧ RM σ I0 t n (nxT t n s) ((pst Q f g b).2.2 + 1) ((o, (pst Q f g b).2.2) :: P) br pa none (upd (pst Q f g b).1 (pst Q f g b).2.2 (nI o)) (upd (pst Q f g b).2.1 (pst Q f g b).2.2 0) τ' := by
  have qa : M_isWord τ 1476 = some (if isW t n s (wdH 8 0) then 1 else 0) := rd_word (x := 1476) h
  have qo : M_isWord τ 498 = some (if isW t n s (wdH 9 0) then 1 else 0) := rd_word (x := 498) h
  have hs := isW_n z
  have hn : n ≤ 400 := by
    obtain ⟨I, p, q, rfl, tp, -⟩ := h
    exact tp.1
  have pb := pst_b Q f g b
  obtain ⟨τ1, a1, a2⟩ := rd_settle (F := F) (lv := bd o) hF (by rcases ho with rfl | rfl <;> decide) hP hQ h
  obtain ⟨-, -, -, m23, -⟩ := rd_mi a2
  obtain ⟨τ2, b1, b2⟩ := rd_push (o := o) (x := (pst Q f g b).2.2) a2 (by omega) (by omega) (by omega)
  obtain ⟨τ3, c1, c2⟩ := rd_emit (o := nI o) (x := 0) b2 (by show _ + 1 + (P.length + 1) ≤ s; omega)
  obtain ⟨τ4, d1, d2⟩ := rd_next (F := F) hF ht c2
  refine ⟨τ4, ?_, d2⟩
  unfold M_behindTest M_behindTest_B22 M_behindTest_B32 M_behindTest_B47 M_behindTest_B66
  rw [qa, bs]
  rcases ho with rfl | rfl
  · have z' : isW t n s (wdH 8 0) = true := z
    have a1' : M_settle F τ 2 = some ((), τ1) := a1
    have b1' : M_push τ1 29 (nI (pst Q f g b).2.2) = some ((), τ2) := b1
    have c1' : M_emit τ2 29 0 = some ((), τ3) := c1
    rw [z', if_pos rfl, if_neg (show ¬ (1 : Int32) = 0 by decide), if_neg (show ¬ (1 : Int32) = 0 by decide), a1', bs, if_neg (show ¬ (1 : Int32) = 0 by decide), m23, b1', bs, if_neg (show ¬ (1 : Int32) = 0 by decide), c1', bs, d1, bs]
  · have z' : isW t n s (wdH 9 0) = true := z
    have a1' : M_settle F τ 1 = some ((), τ1) := a1
    have b1' : M_push τ1 30 (nI (pst Q f g b).2.2) = some ((), τ2) := b1
    have c1' : M_emit τ2 30 0 = some ((), τ3) := c1
    rw [zo rfl, if_neg (show ¬ (false = true) by decide), if_pos rfl, qo, z', bs, if_pos rfl, if_neg (show ¬ (1 : Int32) = 0 by decide), if_pos rfl, a1', bs, if_pos rfl, m23, b1', bs, if_pos rfl, c1', bs, d1, bs]
