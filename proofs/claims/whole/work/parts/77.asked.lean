/-- what law evaluation leaves -/
def KL (σ τ : MS) : Prop := ma τ = ma σ ∧ (∀ k, k ≠ 34 → k ≠ 38 → mi τ k = mi σ k) ∧ (∀ k, k ≠ 35 → k ≠ 37 → mb τ k = mb σ k)
theorem KL.rf {σ : MS} : KL σ σ := ⟨rfl, fun _ _ _ => rfl, fun _ _ _ => rfl⟩
theorem KL.tr {σ τ υ : MS} (h : KL σ τ) (k : KL τ υ) : KL σ υ := ⟨k.1.trans h.1, fun i a b => (k.2.1 i a b).trans (h.2.1 i a b), fun i a b => (k.2.2 i a b).trans (h.2.2 i a b)⟩
theorem KR.kl {σ τ : MS} (h : KR σ τ) : KL σ τ := ⟨h.1, fun i _ b => h.2.1 i b, fun i _ b => h.2.2 i b⟩
theorem kl_34 (σ : MS) (v : Int32) : KL σ (mI σ 34 v) := ⟨rfl, fun k a _ => by show upd σ.1 34 v k = _; exact pk_un a, fun _ _ _ => rfl⟩
theorem kl_35 (σ : MS) (j : Nat) (v : Int64) : KL σ (mB σ 35 j v) := ⟨rfl, fun _ _ _ => rfl, fun k a _ => by show va_up σ.2.2.2 35 _ k = _; rw [up_d, if_neg a]⟩
def KW (S T : CS) : Prop := ci T = ci S ∧ cb T = cb S ∧ cq T = cq S ∧ ∀ o k, o ≠ 12 → (o ≠ 11 ∨ (k ≠ 2 ∧ k ≠ 3)) → ca T o k = ca S o k
theorem KW.rf {S : CS} : KW S S := ⟨rfl, rfl, rfl, fun _ _ _ _ => rfl⟩
theorem KW.tr {S T U : CS} (h : KW S T) (k : KW T U) : KW S U := ⟨k.1.trans h.1, k.2.1.trans h.2.1, k.2.2.1.trans h.2.2.1, fun o i a b => (k.2.2.2 o i a b).trans (h.2.2.2 o i a b)⟩
theorem kw_12 (S : CS) (f : Nat → Int32) : KW S (cF S 12 0 f) := ⟨rfl, rfl, rfl, fun o k a _ => ca_cFn _ _ _ _ _ _ (Or.inl a)⟩
theorem kw_11 (S : CS) (f : Nat → Int32) {i : Nat} (hi : i = 2 ∨ i = 3) : KW S (cF S 11 i f) := ⟨rfl, rfl, rfl, fun o k _ b => ca_cFn _ _ _ _ _ _ (by omega)⟩
/-- a town and a row, as a law sees one child -/
def TV (I : Nat → Int32) (A : Nat → Nat → Int32) (R : Nat → Int32) (c : Nat) : Prop := (I 5 = R 0 ∧ I 9 = R 1 ∧ I 14 = R 3 ∧ True) ∧ (∀ j, j < 10 → A 0 j = R (26 + j) ∧ A 1 j = R (36 + j) ∧ A 2 j = R (46 + j) ∧ A 3 j = R (56 + j)) ∧ (A 6 c = R (66 + c) ∧ A 7 c = R (18 + c) ∧ A 8 c = R (22 + c)) ∧ A 12 0 = R 5 ∧ A 12 2 = R 7
theorem TW.tv {I : Nat → Int32} {A : Nat → Nat → Int32} {R : Nat → Int32} (h : TW I A R) {c : Nat} (hc : c < 4) : TV I A R c := by
  obtain ⟨⟨t1, t2, t3, t4, t5⟩, tl, tc, th, tt⟩ := h
  exact ⟨⟨t1, t2, t4, trivial⟩, fun j hj => ⟨(tl j hj).1, (tl j hj).2.1, (tl j hj).2.2.1, (tl j hj).2.2.2.1⟩, tc c hc, tt 0 (by omega), tt 2 (by omega)⟩
theorem TV_KW {S T : CS} {o c : Nat} {R : Nat → Int32} (h1 : o ≠ 11) (h2 : o ≠ 12) (k : KW S T) (h : TV (ci S o) (ca S o) R c) : TV (ci T o) (ca T o) R c := by
  have e : ca T o = ca S o := funext fun i => k.2.2.2 o i h2 (Or.inl h1)
  rw [k.1, e]; exact h
def lI (l : Option Nat) : Int32 := match l with
  | none => -1
  | some j => nI j
def lR (R : Nat → Int32) (d : Nat) (l : Option Nat) : Int32 := match l with
  | none => -1
  | some j => R (d + j)
def wv (R : Nat → Int32) (c : Nat) (l : Option Nat) : Nat → Int := fun k => (if k = 0 then nI c else if k = 1 then R (66 + c) else if k = 2 then lI l else if k = 3 then lR R 46 l else if k = 4 then lR R 56 l else if k = 5 then R (18 + c) else if k = 6 then R (22 + c) else if k = 7 then R 5 else R 7 : Int32).toInt
theorem sml_nI {x : Int32} {n N : Nat} (e : x = nI n) (h : n ≤ N) (hN : N ≤ 5000) : sml x.toInt := by
  rw [e, nI_toInt (by omega)]; exact ⟨by omega, by omega⟩
theorem sml_m1 : sml (-1 : Int32).toInt := by decide
theorem wv_s {R : Nat → Int32} {L C c : Nat} {l : Option Nat} (va : VA R L C) (hc : c < C) (hl : ∀ j, l = some j → j < L) (k : Nat) : sml (wv R c l k) := by
  obtain ⟨⟨vL, vC, v0, v1⟩, vl, vc, ⟨h, h1, h2⟩, vq, ⟨g, g1, g2⟩⟩ := va
  obtain ⟨⟨a, a1, a2⟩, ⟨b, b1, b2⟩, vt⟩ := vc c hc
  unfold wv
  split
  · exact sml_nI rfl (Nat.le_refl c) (by omega)
  split
  · exact sml_nI a2 (Nat.le_refl a) (by omega)
  split
  · cases l with
    | none => exact sml_m1
    | some j => exact sml_nI rfl (Nat.le_refl j) (by have := hl j rfl; omega)
  split
  · cases l with
    | none => exact sml_m1
    | some j =>
      obtain ⟨-, -, -, ⟨q, -, q1, q2⟩, -⟩ := vl j (hl j rfl)
      exact sml_nI q2 q1 (by omega)
  split
  · cases l with
    | none => exact sml_m1
    | some j =>
      obtain ⟨-, -, -, -, ⟨q, q1, q2⟩, -⟩ := vl j (hl j rfl)
      exact sml_nI q2 q1 (by omega)
  split
  · exact sml_nI b2 (Nat.le_refl b) (by omega)
  split
  · rcases vt with z | ⟨q, q1, q2⟩
    · rw [z]; exact sml_m1
    · exact sml_nI q2 (Nat.le_refl q) (by omega)
  split
  · exact sml_nI h2 h1 (by omega)
  · exact sml_nI g2 g1 (by omega)
theorem isAt_m1 {n : Nat} : isAt (-1) n = 0 := by
  have e : (-1 : Int32).toInt = -1 := by decide
  unfold isAt; rw [if_neg (by omega)]
theorem qc_look {S : CS} {o L C c : Nat} {R : Nat → Int32} {l : Option Nat} (ho : o ≠ 11) (t : TV (ci S o) (ca S o) R c) (va : VA R L C) (hc : c < C) (hl : ∀ j, l = some j → j < L) : ∃ f, C_9_look S o (nI c) (lI l) = some ((), cF S 11 2 f) ∧ WD (cF S 11 2 f) (wv R c l) := by
  have va' := va
  obtain ⟨⟨vL, vC, v0, v1⟩, -⟩ := va
  obtain ⟨⟨t1, t2, t3, t4⟩, tl, ⟨c6, c7, c8⟩, h5, h7⟩ := t
  have e2 : C_7_hasChild S o (nI c) = some 1 := by rw [qc_hasChild vC (t2.trans v1), isAt_in hc (by omega)]
  have e1 : C_7_hasLane S o (lI l) = some (match l with | none => 0 | some _ => 1) := by
    rw [qc_hasLane vL (t1.trans v0)]
    cases l with
    | none => show some (isAt (-1) L) = _; rw [isAt_m1]
    | some j => show some (isAt (nI j) L) = _; rw [isAt_in (hl j rfl) (by omega)]
  have far : ∀ (f : Nat → Int32) (k : Nat), ca (cF S 11 2 f) o k = ca S o k := fun f k => ca_cFn _ _ _ _ _ _ (Or.inl ho)
  have key : C_9_look S o (nI c) (lI l) = some ((), cF S 11 2 (upd (upd (upd (upd (upd (upd (upd (upd (upd (ca S 11 2) 0 (nI c)) 1 (R (66 + c))) 2 (lI l)) 3 (lR R 46 l)) 4 (lR R 56 l)) 5 (R (18 + c))) 6 (R (22 + c))) 7 (R 5)) 8 (R 7))) := by
    have cA0 : cA S 11 2 0 (nI c) = cF S 11 2 (upd (ca S 11 2) 0 (nI c)) := rfl
    have k1 : inb (1 : Int32) 9 = true := by decide
    have k2 : inb (2 : Int32) 9 = true := by decide
    have k3 : inb (3 : Int32) 9 = true := by decide
    have k4 : inb (4 : Int32) 9 = true := by decide
    have k5 : inb (5 : Int32) 9 = true := by decide
    have k6 : inb (6 : Int32) 9 = true := by decide
    have n1 : (1 : Int32).toNatClampNeg = 1 := by decide
    have n2 : (2 : Int32).toNatClampNeg = 2 := by decide
    have n3 : (3 : Int32).toNatClampNeg = 3 := by decide
    have n4 : (4 : Int32).toNatClampNeg = 4 := by decide
    have n5 : (5 : Int32).toNatClampNeg = 5 := by decide
    have n6 : (6 : Int32).toNatClampNeg = 6 := by decide
    unfold C_9_look C_9_look_B41 C_9_look_B57 C_9_look_B78 C_9_look_B99 C_9_look_B120 C_9_look_B142
    have hc4 : c < 4 := by omega
    cases l with
    | none =>
      have e1' : C_7_hasLane S o (lI none) = some 0 := e1
      rw [e1', e2, bs, bs, stc_d, cA0]
      simp (disch := omega) only [if_neg (show ¬ (1 : Int32) = 0 by decide), if_pos (show (0 : Int32) = 0 from rfl), stc_d, cA_cF, far, k1, k2, k3, k4, k5, k6, n1, n2, n3, n4, n5, n6, chk_t, chk_in, nI_clamp, c6, c7, c8, h5, h7]
      rfl
    | some j =>
      have hj := hl j rfl
      obtain ⟨l0, l1, l2, l3⟩ := tl j (by omega)
      have e1' : C_7_hasLane S o (nI j) = some 1 := e1
      rw [show lI (some j) = nI j from rfl, e1', e2, bs, bs, stc_d, cA0]
      simp (disch := omega) only [if_neg (show ¬ (1 : Int32) = 0 by decide), stc_d, cA_cF, far, k1, k2, k3, k4, k5, k6, n1, n2, n3, n4, n5, n6, chk_t, chk_in, nI_clamp, c6, c7, c8, h5, h7, l2, l3]
      rfl
  refine ⟨_, key, fun k hk => ?_⟩
  rw [ca_cF]
  refine ⟨?_, wv_s va' hc hl k⟩
  rcases (by omega : k = 0 ∨ k = 1 ∨ k = 2 ∨ k = 3 ∨ k = 4 ∨ k = 5 ∨ k = 6 ∨ k = 7 ∨ k = 8) with rfl | rfl | rfl | rfl | rfl | rfl | rfl | rfl | rfl <;> rfl
