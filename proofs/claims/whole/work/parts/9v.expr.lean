/-- orders' code, where a number behind a word is within -/
def ropP (op arg : Int32) : Nat × Int := if op.toInt = 0 then (0, arg.toInt) else if op.toInt < 6 then (1, op.toInt - 1) else if op.toInt < 20 then (if op.toInt = 6 then (if 0 ≤ arg.toInt ∧ arg.toInt ≤ 3 then (1, 5 + arg.toInt) else (99, 0)) else if op.toInt = 7 ∧ 0 ≤ arg.toInt ∧ arg.toInt ≤ 9 then (1, 9 + arg.toInt) else (99, 0)) else ((op.toInt - 18).toNat, arg.toInt)
/-- the reference's code, read -/
def rcf (ol : Bool) (f g : Nat → Int32) : Nat → Nat × Int := fun k => if ol then ropP (f k) (g k) else ropL (f k) (g k)
theorem rcf_c {ol : Bool} {f g f' g' : Nat → Int32} {k : Nat} (a : f' k = f k) (b : g' k = g k) : rcf ol f' g' k = rcf ol f g k := by unfold rcf; rw [a, b]
/-- both fail at the same place -/
def okF (S : CS) (Ic : Nat → Int32) (σ : MS) (Im : Nat → Int32) (t : Nat → Nat) (n : Nat) (c : Option (Int32 × CS)) (m : Option (Unit × MS)) : Prop := ∃ (v : Nat) (T' : CS) (τ' : MS), v ≤ 400 ∧ c = some (0, T') ∧ m = some ((), τ') ∧ (∃ s a br pa A, RC S Ic t n s a br pa (some v) A T') ∧ ∃ s b l br pa f g, RM σ Im t n s b l br pa (some v) f g τ'
/-- both go on alike -/
def exT (t : Nat → Nat) (n lv s : Nat) : Prop := (lv ≤ 6 → isS t n s 42 = false ∧ isS t n s 47 = false ∧ isS t n s 37 = false) ∧ (lv ≤ 5 → isS t n s 43 = false ∧ isS t n s 45 = false)
def okS (nw : Nat) (ol : Bool) (lv F : Nat) (x1 : Int32) (S : CS) (Ic : Nat → Int32) (σ : MS) (Im : Nat → Int32) (t : Nat → Nat) (n s a b br pa : Nat) (P : List (Nat × Nat)) (A f g : Nat → Int32) (c : Option (Int32 × CS)) (m : Option (Unit × MS)) : Prop := ∃ (T' : CS) (τ' : MS) (s' a' b' pa' N' : Nat) (Q : List (Nat × Nat)) (A' f' g' : Nat → Int32) (φ : (Nat → Int) → Option Int), c = some (1, T') ∧ m = M_readExpression_L20 F x1 N' τ' 3 ∧ 2 * (401 - s') + 3 ≤ N' ∧ b' + (Q.length + P.length) + 2 ≤ s' ∧ RC S Ic t n s' a' br pa' none A' T' ∧ RM σ Im t n s' b' (Q ++ P) br pa' none f' g' τ' ∧ s < s' ∧ a' + s ≤ a + s' ∧ (∀ e ∈ Q, lv ≤ bd e.1) ∧ pa < pa' ∧ pa' ≤ 50 ∧ Seg nw (ccd A') a a' (pa' - pa) φ ∧ Seg nw (rcf ol (pst Q f' g' b').1 (pst Q f' g' b').2.1) b (pst Q f' g' b').2.2 (pa' - pa) φ ∧ b ≤ b' ∧ (∀ k, k < 2 * a → A' k = A k) ∧ (∀ k, k < b → f' k = f k ∧ g' k = g k) ∧ exT t n lv s'
/-- what a rule of sums does -/
def SumL (nw : Nat) (ol : Bool) (lv F : Nat) (x1 : Int32) (S : CS) (Ic : Nat → Int32) (σ : MS) (Im : Nat → Int32) (t : Nat → Nat) (n br : Nat) (fn : CS → Option (Int32 × CS)) : Prop := ∀ (s a b pa N : Nat) (P : List (Nat × Nat)) (A f g : Nat → Int32) (T : CS) (τ : MS), RC S Ic t n s a br pa none A T → RM σ Im t n s b P br pa none f g τ → a + 1 ≤ s → b + P.length + 2 ≤ s → pa ≤ 50 → 2 * (401 - s) + 3 ≤ N → (∀ e l, P = e :: l → bd e.1 < lv) → okS nw ol lv F x1 S Ic σ Im t n s a b br pa P A f g (fn T) (M_readExpression_L20 F x1 N τ 1) ∨ okF S Ic σ Im t n (fn T) (M_readExpression_L20 F x1 N τ 1)
/-- the pile is cut where it binds less -/
theorem cut (lv : Nat) : ∀ l : List (Nat × Nat), ∃ Q P, l = Q ++ P ∧ (∀ e ∈ Q, lv ≤ bd e.1) ∧ ∀ e r, P = e :: r → bd e.1 < lv
  | [] => ⟨[], [], rfl, fun e h => absurd h (by simp), fun e r h => absurd h (by simp)⟩
  | e :: l => by
    by_cases z : lv ≤ bd e.1
    · obtain ⟨Q, P, h1, h2, h3⟩ := cut lv l
      refine ⟨e :: Q, P, by rw [h1]; rfl, fun e' h => ?_, h3⟩
      rcases List.mem_cons.mp h with q | q
      · rw [q]; exact z
      · exact h2 e' q
    · refine ⟨[], e :: l, rfl, fun e h => absurd h (by simp), fun e' r h => ?_⟩
      have := (List.cons.inj h).1
      rw [← this]; omega
theorem rd_end {F N : Nat} {σ τ : MS} {I0 : Nat → Int32} {t : Nat → Nat} {n s b br pa v : Nat} {l : List (Nat × Nat)} {f g : Nat → Int32} {x1 x : Int32} (hF : 1000 ≤ F) (hN : 1 ≤ N) (h : RM σ I0 t n s b l br pa (some v) f g τ) : ∃ τ', M_readExpression_L20 F x1 N τ x = some ((), τ') ∧ ∃ s b l br pa f g, RM σ I0 t n s b l br pa (some v) f g τ' := by
  obtain ⟨N, rfl⟩ : ∃ k, N = k + 1 := ⟨N - 1, by omega⟩
  obtain ⟨Q, P, e, hQ, hP⟩ := cut 1 l
  subst e
  obtain ⟨τ', a1, a2⟩ := rd_settle (F := F) hF (show 1 ≤ 6 by omega) hP hQ h
  rw [M_readExpression_L20, rd_19f h, if_neg (by decide)]
  unfold M_readExpression_B76
  have a1' : M_settle F τ 1 = some ((), τ') := a1
  rw [a1', bs]
  exact ⟨τ', rfl, _, _, _, _, _, _, _, a2⟩
theorem ok_fail {F N : Nat} {S T : CS} {σ τ : MS} {Ic Im : Nat → Int32} {t : Nat → Nat} {n s a b br pa br' pa' s' v : Nat} {l : List (Nat × Nat)} {A f g : Nat → Int32} {x1 x : Int32} (hF : 1000 ≤ F) (hN : 1 ≤ N) (hv : v ≤ 400) (hc : RC S Ic t n s a br pa (some v) A T) (h : RM σ Im t n s' b l br' pa' (some v) f g τ) : okF S Ic σ Im t n (some (0, T)) (M_readExpression_L20 F x1 N τ x) := by
  obtain ⟨τ', a1, a2⟩ := rd_end (x1 := x1) (x := x) hF hN h
  exact ⟨v, T, τ', hv, rfl, a1, ⟨_, _, _, _, _, hc⟩, a2⟩
/-- a leaf of the reference -/
theorem rd_leaf0 {F : Nat} {σ τ : MS} {I0 : Nat → Int32} {t : Nat → Nat} {n s b br pa : Nat} {l : List (Nat × Nat)} {f g : Nat → Int32} {o x y : Int32} (h : RM σ I0 t n s b l br pa none f g τ) (hy : y = 0 ∨ 50 ≤ pa) (hp : pa ≤ 50) : ∃ τ', M_leaf F τ y o x = some ((), τ') ∧ RM σ I0 t n s b l br pa (some s) f g τ' := by
  obtain ⟨τ', a1, a2⟩ := rd_must0 (F := F) h
  have e : M_leaf_B18 F τ o x = some ((), τ') := by
    unfold M_leaf_B18 M_leaf_B19
    rw [a1, bs, rd_19f a2, if_neg (by decide)]
  refine ⟨τ', ?_, a2⟩
  unfold M_leaf
  by_cases z : y = 0
  · rw [if_pos z, e]
  · rw [if_neg z]
    have h26 : mi τ 26 = nI pa := by
      obtain ⟨I, p, q, rfl, tp, tk, hs, hfl, h23, h29, h30, h26, -⟩ := h
      exact h26
    have z2 : 50 ≤ pa := hy.resolve_left z
    rw [h26, if_pos (show (50 : Int32) ≤ nI pa from nI_le (a := 50) z2 (by omega)), e]
theorem rd_leaf1 {F : Nat} {σ τ : MS} {I0 : Nat → Int32} {t : Nat → Nat} {n s b br pa : Nat} {l : List (Nat × Nat)} {f g : Nat → Int32} {o x : Int32} (hF : 1000 ≤ F) (ht : ∀ i, t i < 256) (hs : s < n) (h : RM σ I0 t n s b l br pa none f g τ) (hp : pa < 50) : ∃ τ', M_leaf F τ 1 o x = some ((), τ') ∧ RM σ I0 t n (nxT t n s) (b + 1) l br (pa + 1) none (upd f b o) (upd g b x) τ' := by
  have h26 : mi τ 26 = nI pa ∧ b + l.length ≤ s := by
    obtain ⟨I, p, q, rfl, tp, tk, hs, hfl, h23, h29, h30, h26, pl, hb, -⟩ := h
    exact ⟨h26, hb⟩
  obtain ⟨τ1, a1, a2⟩ := rd_must1 (F := F) hF ht h
  have nx := nx_gt (t := t) hs
  obtain ⟨τ2, b1, b2⟩ := rd_emit (o := o) (x := x) a2 (by omega)
  unfold M_leaf M_leaf_B19
  rw [if_neg (by decide), h26.1, if_neg (show ¬ (50 : Int32) ≤ nI pa from nI_ge (b := 50) hp (by decide)), a1, bs, rd_19 a2, if_pos rfl, b1, bs]
  obtain ⟨I, p, q, rfl, tp, tk, hs', hfl, h23, h29, h30, h26', pl, hb, hk⟩ := b2
  rw [stt_d, mi_J, h26', mJ_I, ← nI_succ]
  refine ⟨_, rfl, _, p, q, rfl, ⟨tp.1, by rw [pk_un (by decide)]; exact tp.2.1, tp.2.2⟩, ⟨by rw [pk_un (by decide)]; exact tk.1, by rw [pk_un (by decide)]; exact tk.2.1, by rw [pk_un (by decide)]; exact tk.2.2.1, rfl⟩, hs', FL_c hfl (pk_un (by decide)) (pk_un (by decide)), by rw [pk_un (by decide)]; exact h23, by rw [pk_un (by decide)]; exact h29, by rw [pk_un (by decide)]; exact h30, pk_us, pl, hb, fun k k1 k2 k3 k4 k5 k6 k7 k8 k9 => ?_⟩
  rw [pk_un k7]; exact hk k k1 k2 k3 k4 k5 k6 k7 k8 k9
theorem rd_open {F : Nat} {σ τ : MS} {I0 : Nat → Int32} {t : Nat → Nat} {n s b br pa o : Nat} {l : List (Nat × Nat)} {f g : Nat → Int32} (hF : 1000 ≤ F) (ht : ∀ i, t i < 256) (ho : 20 ≤ o ∧ o < 33) (hs : s < n) (h : RM σ I0 t n s b l br pa none f g τ) (hb : br < 8) : ∃ τ', M_openBracket F τ (nI o) = some ((), τ') ∧ RM σ I0 t n (nxT t n s) b ((o, 0) :: l) (br + 1) pa none f g τ' := by
  have h30 : mi τ 30 = nI br ∧ b + l.length ≤ s := by
    obtain ⟨I, p, q, rfl, tp, tk, hs, hfl, h23, h29, h30, h26, pl, hb, -⟩ := h
    exact ⟨h30, hb⟩
  obtain ⟨τ1, a1, a2⟩ := rd_must1 (F := F) hF ht h
  have nx := nx_gt (t := t) hs
  unfold M_openBracket M_openBracket_B15
  rw [h30.1, if_neg (show ¬ (8 : Int32) ≤ nI br from nI_ge (b := 8) hb (by decide)), a1, bs, rd_19 a2, if_pos rfl]
  obtain ⟨I, p, q, rfl, tp, tk, hs', hfl, h23, h29, h30', h26', pl, hb', hk⟩ := a2
  have k1 : RM σ I0 t n (nxT t n s) b l (br + 1) pa none f g (mJ (mQ σ f g p q) (upd I 30 (nI (br + 1))) (vlT t n (nxT t n s))) := ⟨_, p, q, rfl, ⟨tp.1, by rw [pk_un (by decide)]; exact tp.2.1, tp.2.2⟩, ⟨by rw [pk_un (by decide)]; exact tk.1, by rw [pk_un (by decide)]; exact tk.2.1, by rw [pk_un (by decide)]; exact tk.2.2.1, rfl⟩, hs', FL_c (fl := none) hfl (pk_un (by decide)) (pk_un (by decide)), by rw [pk_un (by decide)]; exact h23, by rw [pk_un (by decide)]; exact h29, pk_us, by rw [pk_un (by decide)]; exact h26', pl, hb', fun k k1 k2 k3 k4 k5 k6 k7 k8 k9 => by rw [pk_un k9]; exact hk k k1 k2 k3 k4 k5 k6 k7 k8 k9⟩
  rw [stt_d, mi_J, h30', mJ_I, ← nI_succ]
  obtain ⟨τ2, b1, b2⟩ := rd_push (o := o) (x := 0) k1 ho (by decide) (by omega)
  have b1' : M_push (mJ (mQ σ f g p q) (upd I 30 (nI (br + 1))) (vlT t n (nxT t n s))) (nI o) 0 = some ((), τ2) := b1
  rw [b1', bs]
  exact ⟨τ2, rfl, b2⟩
theorem rd_open0 {F : Nat} {σ τ : MS} {I0 : Nat → Int32} {t : Nat → Nat} {n s b br pa : Nat} {o : Int32} {l : List (Nat × Nat)} {f g : Nat → Int32} (h : RM σ I0 t n s b l br pa none f g τ) (hb : 8 ≤ br) (hb' : br ≤ 8) : ∃ τ', M_openBracket F τ o = some ((), τ') ∧ RM σ I0 t n s b l br pa (some s) f g τ' := by
  have h30 : mi τ 30 = nI br := by
    obtain ⟨I, p, q, rfl, tp, tk, hs, hfl, h23, h29, h30, -⟩ := h
    exact h30
  obtain ⟨τ1, a1, a2⟩ := rd_must0 (F := F) h
  unfold M_openBracket M_openBracket_B15
  rw [h30, if_pos (show (8 : Int32) ≤ nI br from nI_le (a := 8) hb (by omega)), a1, bs, rd_19f a2, if_neg (by decide)]
  exact ⟨τ1, rfl, a2⟩
