/-- both readers behind a test; Q still open -/
def exU (t : Nat → Nat) (n lv s : Nat) : Prop := (lv ≤ 2 → isW t n s (wdH 8 0) = false) ∧ (lv ≤ 1 → isW t n s (wdH 9 0) = false)
def okJ (nw : Nat) (ol : Bool) (lv : Nat) (S : CS) (Ic : Nat → Int32) (σ : MS) (Im : Nat → Int32) (t : Nat → Nat) (n s a b br pa : Nat) (P : List (Nat × Nat)) (A f g : Nat → Int32) (T' : CS) (τ' : MS) (s' N' : Nat) : Prop := ∃ (a' b' pa' : Nat) (Q : List (Nat × Nat)) (A' f' g' : Nat → Int32) (φ : (Nat → Int) → Option Int), 2 * (401 - s') + 2 ≤ N' ∧ b' + (Q.length + P.length) + 2 ≤ s' ∧ RC S Ic t n s' a' br pa' none A' T' ∧ RM σ Im t n s' b' (Q ++ P) br pa' none f' g' τ' ∧ s < s' ∧ a' + s ≤ a + s' ∧ (∀ e ∈ Q, lv ≤ bd e.1) ∧ (∀ e ∈ Q, e.1 = 29 ∨ e.1 = 30 → b ≤ e.2) ∧ pa < pa' ∧ pa' ≤ 50 ∧ TSeg nw (ccd A') a a' (pa' - pa) φ ∧ TSeg nw (rcf ol (pst Q f' g' b').1 (pst Q f' g' b').2.1) b (pst Q f' g' b').2.2 (pa' - pa) φ ∧ b ≤ b' ∧ (∀ k, k < 2 * a → A' k = A k) ∧ (∀ k, k < b → f' k = f k ∧ g' k = g k)
def okT (nw : Nat) (ol : Bool) (lv F : Nat) (S : CS) (Ic : Nat → Int32) (σ : MS) (Im : Nat → Int32) (t : Nat → Nat) (n s a b br pa : Nat) (P : List (Nat × Nat)) (A f g : Nat → Int32) (c : Option (Int32 × CS)) (m : Option (Unit × MS)) : Prop := ∃ (T' : CS) (τ' : MS) (s' N' : Nat), c = some (1, T') ∧ m = M_readExpression_L20 F 1 N' τ' 2 ∧ okJ nw ol lv S Ic σ Im t n s a b br pa P A f g T' τ' s' N' ∧ exU t n lv s'
def TestL (nw : Nat) (ol : Bool) (lv F : Nat) (S : CS) (Ic : Nat → Int32) (σ : MS) (Im : Nat → Int32) (t : Nat → Nat) (n br : Nat) (fn : CS → Option (Int32 × CS)) : Prop := ∀ (s a b pa N : Nat) (P : List (Nat × Nat)) (A f g : Nat → Int32) (T : CS) (τ : MS), RC S Ic t n s a br pa none A T → RM σ Im t n s b P br pa none f g τ → a + 1 ≤ s → b + P.length + 2 ≤ s → pa ≤ 50 → 2 * (401 - s) + 3 ≤ N → (∀ e l, P = e :: l → bd e.1 < lv) → inn P ≠ 32 → okT nw ol lv F S Ic σ Im t n s a b br pa P A f g (fn T) (M_readExpression_L20 F 1 N τ 0) ∨ okF S Ic σ Im t n (fn T) (M_readExpression_L20 F 1 N τ 0)
/-- many nots -/
def nts (k : Nat) : List (Nat × Nat) := List.replicate k (28, 0)
def fNs (f : (Nat → Int) → Option Int) : Nat → (Nat → Int) → Option Int
  | 0 => f
  | k + 1 => fNot (fNs f k)
theorem fNs_2 (f : (Nat → Int) → Option Int) : ∀ k, fNs f k = if k % 2 = 0 then f else fNot f
  | 0 => by rw [if_pos (by decide)]; rfl
  | k + 1 => by
    show fNot (fNs f k) = _
    rw [fNs_2 f k]
    by_cases z : k % 2 = 0
    · rw [if_pos z, if_neg (by omega)]
    · rw [if_neg z, if_pos (by omega)]; exact fNot_2 f
theorem nts_s (k : Nat) : nts (k + 1) = (28, 0) :: nts k := rfl
theorem nts_a : ∀ k, nts (k + 1) = nts k ++ [(28, 0)]
  | 0 => rfl
  | k + 1 => congrArg (List.cons (28, 0)) (nts_a k)
theorem nts_m {k : Nat} {e : Nat × Nat} (h : e ∈ nts k) : e = (28, 0) := List.eq_of_mem_replicate h
theorem nts_l (k : Nat) : (nts k).length = k := List.length_replicate
/-- nots settled -/
theorem sg_nts {nw i d : Nat} {ol : Bool} {φ : (Nat → Int) → Option Int} : ∀ (k b : Nat) (f g : Nat → Int32), TSeg nw (rcf ol f g) i b d φ → TSeg nw (rcf ol (pst (nts k) f g b).1 (pst (nts k) f g b).2.1) i (pst (nts k) f g b).2.2 d (fNs φ k)
  | 0, b, f, g, h => h
  | k + 1, b, f, g, h => by
    rw [nts_a, pst_app]
    have ih := sg_nts k b f g h
    have no : ¬ ((28 : Nat) = 29 ∨ (28 : Nat) = 30) := by decide
    rw [pst_s, if_neg no]
    have ij := ih.1.1
    have s2 : TSeg nw (rcf ol (upd (pst (nts k) f g b).1 (pst (nts k) f g b).2.2 (nI 28)) (upd (pst (nts k) f g b).2.1 (pst (nts k) f g b).2.2 0)) i (pst (nts k) f g b).2.2 d (fNs φ k) := ih.cg fun j q1 q2 => (rcf_c (pk_un (by omega)) (pk_un (by omega))).symm
    exact sg_not (x := 0) s2 (rcf_o (o := 28) pk_us (by decide) (by decide) pk_us)
theorem inn_nts {P : List (Nat × Nat)} (k : Nat) : inn (nts k ++ P) = inn P := inn_app _ fun e he => by rw [nts_m he]; decide
theorem bd_lt3 {o : Nat} (h : bd o < 3) (h33 : o < 33) (h20 : 20 ≤ o) : 29 ≤ o := by
  by_cases z : 29 ≤ o
  · exact z
  · exfalso
    rcases (show o = 20 ∨ o = 21 ∨ o = 22 ∨ o = 23 ∨ o = 24 ∨ o = 25 ∨ o = 26 ∨ o = 27 ∨ o = 28 by omega) with rfl | rfl | rfl | rfl | rfl | rfl | rfl | rfl | rfl <;> exact absurd h (by decide)
theorem cmpd_app {P : List (Nat × Nat)} : ∀ Q : List (Nat × Nat), (∀ e ∈ Q, 5 ≤ bd e.1) → cmpd (Q ++ P) = cmpd P
  | [], _ => rfl
  | e :: Q, h => by
    have b5 := h e (List.mem_cons_self ..)
    have : e.1 ≤ 24 := by
      unfold bd at b5
      by_cases z : e.1 ≤ 24
      · exact z
      · exfalso
        by_cases y : e.1 = 30
        · rw [if_pos y] at b5; omega
        · rw [if_neg y] at b5
          by_cases x : e.1 = 29
          · rw [if_pos x] at b5; omega
          · rw [if_neg x] at b5
            by_cases w : e.1 = 28
            · rw [if_pos w] at b5; omega
            · rw [if_neg w, if_neg (by omega)] at b5
              split at b5 <;> omega
    show (if e.1 ≤ 24 then cmpd (Q ++ P) else _) = _
    rw [if_pos this]
    exact cmpd_app Q (fun e' he => h e' (List.mem_cons_of_mem _ he))
/-- the pile's signs are signs -/
theorem rd_pl {σ τ : MS} {I0 : Nat → Int32} {t : Nat → Nat} {n s b br pa : Nat} {l : List (Nat × Nat)} {fl : Option Nat} {f g : Nat → Int32} (h : RM σ I0 t n s b l br pa fl f g τ) : ∀ e ∈ l, 20 ≤ e.1 ∧ e.1 < 33 := by
  obtain ⟨I, p, q, rfl, tp, tk, hs, hfl, h23, h29, h30, h26, pl, hb, hk⟩ := h
  have : ∀ l : List (Nat × Nat), PL p q l → ∀ e ∈ l, 20 ≤ e.1 ∧ e.1 < 33 := by
    intro l
    induction l with
    | nil => intro _ e he; exact absurd he (by simp)
    | cons a l ih =>
      intro hp e he
      rcases List.mem_cons.mp he with z | z
      · rw [z]; exact ⟨hp.1.2.2.1, hp.1.2.2.2.1⟩
      · exact ih hp.2 e z
  exact this l pl
theorem cmpd_P {P : List (Nat × Nat)} (h : ∀ e l, P = e :: l → bd e.1 < 3) (k : Nat) (h33 : ∀ e ∈ P, 20 ≤ e.1 ∧ e.1 < 33) : cmpd (nts k ++ P) = false := by
  cases k with
  | zero =>
    show cmpd P = false
    cases P with
    | nil => rfl
    | cons e l =>
      have b3 := h e l rfl
      obtain ⟨u, v⟩ := h33 e (List.mem_cons_self ..)
      have := bd_lt3 b3 v u
      show (if e.1 ≤ 24 then _ else decide (e.1 ≤ 27)) = false
      rw [if_neg (by omega)]; exact decide_eq_false (by omega)
  | succ k => rfl
