/-- pieces of code put together -/
theorem rn_m {nw : Nat} {c : Nat → Nat × Int} {w : Nat → Int} {j : Nat} : ∀ (n m i : Nat) (st : List Int) (r : Option (List Int)), run nw c w j n i st = some r → run nw c w j (n + m) i st = some r
  | 0, m, i, st, r, h => by
    have e : i = j := by
      unfold run at h
      by_cases z : i = j
      · exact z
      · rw [if_neg z] at h; exact absurd h (by simp)
    unfold run at h
    rw [if_pos e] at h
    cases m with
    | zero => unfold run; rw [if_pos e]; exact h
    | succ m => rw [Nat.zero_add]; unfold run; rw [if_pos e]; exact h
  | n + 1, m, i, st, r, h => by
    rw [show n + 1 + m = (n + m) + 1 by omega]
    unfold run at h ⊢
    split at h
    · rename_i z; rw [if_pos z]; exact h
    · rename_i z; rw [if_neg z]
      split at h
      · exact absurd h (by simp)
      · rename_i y; rw [if_neg y]
        split at h
        · rename_i x; rw [if_pos x]
          split at h
          · rename_i u; rw [if_pos u]; exact rn_m n m _ _ _ h
          · exact absurd h (by simp)
        · rename_i x; rw [if_neg x]
          cases st with
          | nil => exact absurd h (by simp)
          | cons a st1 =>
            simp only at h ⊢
            split at h
            · rename_i u; rw [if_pos u]
              split at h
              · rename_i v; rw [if_pos v]; exact rn_m n m _ _ _ h
              · exact absurd h (by simp)
            · rename_i u; rw [if_neg u]
              split at h
              · rename_i v; rw [if_pos v]
                split at h
                · rename_i b; rw [if_pos b]
                  by_cases b2 : a = (if (c i).1 = 11 then 0 else 1)
                  · rw [if_pos b2] at h ⊢; exact rn_m n m _ _ _ h
                  · rw [if_neg b2] at h ⊢; exact rn_m n m _ _ _ h
                · exact absurd h (by simp)
              · rename_i v; rw [if_neg v]
                cases st1 with
                | nil => exact absurd h (by simp)
                | cons b st2 =>
                  simp only at h ⊢
                  split at h
                  · rename_i x1; rw [if_pos x1]
                    cases q : rcomb (c i).1 b a with
                    | none => rw [q] at h; exact h
                    | some v => rw [q] at h; exact rn_m n m _ _ _ h
                  · exact absurd h (by simp)
/-- one run behind another -/
theorem rn_s {nw : Nat} {c : Nat → Nat × Int} {w : Nat → Int} {j k : Nat} (hk : k ≤ j) : ∀ (n m i : Nat) (st : List Int) (r : Option (List Int)) (r' : Option (List Int)), run nw c w k n i st = some r → (∀ st', r = some st' → run nw c w j m k st' = some r') → (r = none → r' = none) → run nw c w j (n + m) i st = some r'
  | 0, m, i, st, r, r', h, h2, h3 => by
    unfold run at h
    by_cases z : i = k
    · rw [if_pos z] at h
      rw [Nat.zero_add, z]
      exact h2 st (Option.some.inj h).symm
    · rw [if_neg z] at h; exact absurd h (by simp)
  | n + 1, m, i, st, r, r', h, h2, h3 => by
    unfold run at h
    by_cases z : i = k
    · rw [if_pos z] at h
      rw [z, Nat.add_comm]
      exact rn_m _ _ _ _ _ (h2 st (Option.some.inj h).symm)
    rw [if_neg z] at h
    by_cases y : k < i
    · rw [if_pos y] at h; exact absurd h (by simp)
    rw [if_neg y] at h
    rw [show n + 1 + m = (n + m) + 1 by omega]
    unfold run
    rw [if_neg (show ¬ i = j by omega), if_neg (show ¬ j < i by omega)]
    split at h
    · rename_i x; rw [if_pos x]
      split at h
      · rename_i u; rw [if_pos u]; exact rn_s hk n m _ _ _ _ h h2 h3
      · exact absurd h (by simp)
    · rename_i x; rw [if_neg x]
      cases st with
      | nil => exact absurd h (by simp)
      | cons a st1 =>
        simp only at h ⊢
        split at h
        · rename_i u; rw [if_pos u]
          split at h
          · rename_i v; rw [if_pos v]; exact rn_s hk n m _ _ _ _ h h2 h3
          · exact absurd h (by simp)
        · rename_i u; rw [if_neg u]
          split at h
          · rename_i v; rw [if_pos v]
            split at h
            · rename_i b; rw [if_pos b]
              by_cases b2 : a = (if (c i).1 = 11 then 0 else 1)
              · rw [if_pos b2] at h ⊢; exact rn_s hk n m _ _ _ _ h h2 h3
              · rw [if_neg b2] at h ⊢; exact rn_s hk n m _ _ _ _ h h2 h3
            · exact absurd h (by simp)
          · rename_i v; rw [if_neg v]
            cases st1 with
            | nil => exact absurd h (by simp)
            | cons b st2 =>
              simp only at h ⊢
              split at h
              · rename_i x1; rw [if_pos x1]
                cases q : rcomb (c i).1 b a with
                | none =>
                  rw [q] at h
                  show some none = some r'
                  rw [h3 (Option.some.inj h).symm]
                | some v => rw [q] at h; exact rn_s hk n m _ _ _ _ h h2 h3
              · exact absurd h (by simp)
/-- only the code between counts -/
theorem rn_c {nw : Nat} {c c' : Nat → Nat × Int} {w : Nat → Int} {i0 j : Nat} (e : ∀ k, i0 ≤ k → k < j → c k = c' k) : ∀ (n i : Nat) (st : List Int), i0 ≤ i → run nw c w j n i st = run nw c' w j n i st
  | 0, i, st, _ => by unfold run; rfl
  | n + 1, i, st, hi => by
    unfold run
    by_cases z : i = j
    · rw [if_pos z, if_pos z]
    rw [if_neg z, if_neg z]
    by_cases y : j < i
    · rw [if_pos y, if_pos y]
    rw [if_neg y, if_neg y, ← e i hi (by omega)]
    split
    · split
      · exact rn_c e n _ _ (by omega)
      · rfl
    · cases st with
      | nil => rfl
      | cons a st1 =>
        simp only
        split
        · split
          · exact rn_c e n _ _ (by omega)
          · rfl
        · split
          · split
            · rename_i b
              by_cases b2 : a = (if (c i).1 = 11 then 0 else 1)
              · rw [if_pos b2, if_pos b2]; exact rn_c e n _ _ (by have := b.2; omega)
              · rw [if_neg b2, if_neg b2]; exact rn_c e n _ _ (by omega)
            · rfl
          · cases st1 with
            | nil => rfl
            | cons b st2 =>
              simp only
              split
              · cases q : rcomb (c i).1 b a with
                | none => rfl
                | some v => exact rn_c e n _ _ (by omega)
              · rfl
theorem Seg.cg {nw : Nat} {c c' : Nat → Nat × Int} {i j d : Nat} {f : (Nat → Int) → Option Int} (s : Seg nw c i j d f) (e : ∀ k, i ≤ k → k < j → c k = c' k) : Seg nw c' i j d f := ⟨s.1, fun w st h => (rn_c (fun k a b => (e k a b).symm) _ _ _ (Nat.le_refl _)).trans (s.2 w st h)⟩
theorem TSeg.cg {nw : Nat} {c c' : Nat → Nat × Int} {i j d : Nat} {f : (Nat → Int) → Option Int} (s : TSeg nw c i j d f) (e : ∀ k, i ≤ k → k < j → c k = c' k) : TSeg nw c' i j d f := ⟨s.1.cg e, s.2⟩
theorem Seg.le {nw : Nat} {c : Nat → Nat × Int} {i j d d' : Nat} {f : (Nat → Int) → Option Int} (s : Seg nw c i j d f) (h : d ≤ d') : Seg nw c i j d' f := ⟨s.1, fun w st q => s.2 w st (by omega)⟩
theorem TSeg.le {nw : Nat} {c : Nat → Nat × Int} {i j d d' : Nat} {f : (Nat → Int) → Option Int} (s : TSeg nw c i j d f) (h : d ≤ d') : TSeg nw c i j d' f := ⟨s.1.le h, s.2⟩
def fOp (op : Nat) (f g : (Nat → Int) → Option Int) (w : Nat → Int) : Option Int := (f w).bind fun a => (g w).bind fun b => rcomb op a b
def fNot (f : (Nat → Int) → Option Int) (w : Nat → Int) : Option Int := (f w).map fun a => 1 - a
def fAnd (op : Nat) (f g : (Nat → Int) → Option Int) (w : Nat → Int) : Option Int := (f w).bind fun a => if a = (if op = 11 then 0 else 1) then some a else g w
def fNum (v : Nat) (_ : Nat → Int) : Option Int := some (v : Int)
def fWrd (m : Nat) (w : Nat → Int) : Option Int := some (w m)
theorem fOp_n {op : Nat} {f g : (Nat → Int) → Option Int} {w : Nat → Int} (h : f w = none) : fOp op f g w = none := by unfold fOp; rw [h]; rfl
theorem fOp_m {op : Nat} {f g : (Nat → Int) → Option Int} {w : Nat → Int} {a : Int} (h : f w = some a) (k : g w = none) : fOp op f g w = none := by unfold fOp; rw [h, k]; rfl
theorem fOp_s {op : Nat} {f g : (Nat → Int) → Option Int} {w : Nat → Int} {a b : Int} (h : f w = some a) (k : g w = some b) : fOp op f g w = rcomb op a b := by unfold fOp; rw [h, k]; rfl
theorem fNot_n {f : (Nat → Int) → Option Int} {w : Nat → Int} (h : f w = none) : fNot f w = none := by unfold fNot; rw [h]; rfl
theorem fNot_s {f : (Nat → Int) → Option Int} {w : Nat → Int} {a : Int} (h : f w = some a) : fNot f w = some (1 - a) := by unfold fNot; rw [h]; rfl
theorem fNot_2 (f : (Nat → Int) → Option Int) : fNot (fNot f) = f := by
  funext w
  cases q : f w with
  | none => exact fNot_n (fNot_n q)
  | some a => rw [fNot_s (fNot_s q)]; congr 1; omega
theorem fAnd_n {op : Nat} {f g : (Nat → Int) → Option Int} {w : Nat → Int} (h : f w = none) : fAnd op f g w = none := by unfold fAnd; rw [h]; rfl
theorem fAnd_s {op : Nat} {f g : (Nat → Int) → Option Int} {w : Nat → Int} {a : Int} (h : f w = some a) : fAnd op f g w = if a = (if op = 11 then 0 else 1) then some a else g w := by unfold fAnd; rw [h]; rfl
theorem mp_n {st : List Int} : (none : Option Int).map (fun v => v :: st) = none := rfl
theorem mp_s {st : List Int} {a : Int} : (some a).map (fun v => v :: st) = some (a :: st) := rfl
theorem rn_0 {nw : Nat} {c : Nat → Nat × Int} {w : Nat → Int} {j n : Nat} {st : List Int} : run nw c w j n j st = some (some st) := by
  cases n with
  | zero => unfold run; rw [if_pos rfl]
  | succ n => unfold run; rw [if_pos rfl]
theorem sg_num {nw i : Nat} {c : Nat → Nat × Int} {v : Nat} (h : c i = (0, (v : Int))) (hv : v ≤ 1000) : Seg nw c i (i + 1) 1 (fNum v) := ⟨by omega, fun w st hl => by
  have e1 : (c i).1 = 0 := by rw [h]
  have e2 : (c i).2 = v := by rw [h]
  rw [show i + 1 - i = 0 + 1 by omega]
  unfold run
  rw [if_neg (by omega), if_neg (by omega), e1, e2, if_pos (Or.inl rfl), if_pos ⟨by omega, by omega, by omega, fun q => absurd q (by decide)⟩, if_pos rfl, rn_0]; rfl⟩
theorem sg_wrd {nw i : Nat} {c : Nat → Nat × Int} {m : Nat} (h : c i = (1, (m : Int))) (hm : m < nw) (hn : nw ≤ 1000) : Seg nw c i (i + 1) 1 (fWrd m) := ⟨by omega, fun w st hl => by
  have e1 : (c i).1 = 1 := by rw [h]
  have e2 : (c i).2 = m := by rw [h]
  rw [show i + 1 - i = 0 + 1 by omega]
  unfold run
  rw [if_neg (by omega), if_neg (by omega), e1, e2, if_pos (Or.inr rfl), if_pos ⟨by omega, by omega, by omega, fun _ => by omega⟩, if_neg (by decide), rn_0]; rfl⟩
theorem sg_op {nw i j k d e D op : Nat} {x : Int} {c : Nat → Nat × Int} {f g : (Nat → Int) → Option Int} (s1 : Seg nw c i j d f) (s2 : Seg nw c j k e g) (h : c k = (op, x)) (h2 : 2 ≤ op) (h9 : op < 10) (hd : d ≤ D) (he : e + 1 ≤ D) : Seg nw c i (k + 1) D (fOp op f g) := by
  have hij := s1.1
  have hjk := s2.1
  have e1 : (c k).1 = op := by rw [h]
  refine ⟨by omega, fun w st hl => ?_⟩
  rw [show k + 1 - i = (j - i) + ((k - j) + (0 + 1)) by omega]
  have r1 := s1.2 w st (by omega)
  cases q : f w with
  | none =>
    rw [q, mp_n] at r1
    rw [fOp_n q, mp_n]
    exact rn_s (show j ≤ k + 1 by omega) _ _ _ _ _ _ r1 (fun st' h1 => absurd h1 (by simp)) (fun _ => rfl)
  | some a =>
    rw [q, mp_s] at r1
    have r2 := s2.2 w (a :: st) (by show st.length + 1 + e ≤ 50; omega)
    refine rn_s (show j ≤ k + 1 by omega) _ _ _ _ _ _ r1 (fun st' h1 => ?_) (fun h1 => absurd h1 (by simp))
    rw [← Option.some.inj h1]
    cases p : g w with
    | none =>
      rw [p, mp_n] at r2
      rw [fOp_m q p, mp_n]
      exact rn_s (show k ≤ k + 1 by omega) _ _ _ _ _ _ r2 (fun st' h1 => absurd h1 (by simp)) (fun _ => rfl)
    | some b =>
      rw [p, mp_s] at r2
      refine rn_s (show k ≤ k + 1 by omega) _ _ _ _ _ _ r2 (fun st' h1 => ?_) (fun h1 => absurd h1 (by simp))
      rw [← Option.some.inj h1, fOp_s q p]
      unfold run
      rw [if_neg (by omega), if_neg (by omega), e1, if_neg (by omega)]
      simp only
      rw [if_neg (by omega), if_neg (by omega), if_pos ⟨h2, h9⟩]
      cases r : rcomb op a b with
      | none => rfl
      | some v => rw [mp_s]; exact rn_0
theorem rc_01 {op : Nat} {a b v : Int} (h : op = 7 ∨ op = 8 ∨ op = 9) (e : rcomb op a b = some v) : v = 0 ∨ v = 1 := by
  unfold rcomb at e
  rcases h with h | h | h
  · rw [if_pos h] at e
    have := Option.some.inj e
    split at this <;> omega
  · rw [if_neg (by omega), if_pos h] at e
    have := Option.some.inj e
    split at this <;> omega
  · rw [if_neg (by omega), if_neg (by omega), if_pos h] at e
    have := Option.some.inj e
    split at this <;> omega
theorem sg_cmp {nw i j k d e D op : Nat} {x : Int} {c : Nat → Nat × Int} {f g : (Nat → Int) → Option Int} (s1 : Seg nw c i j d f) (s2 : Seg nw c j k e g) (h : c k = (op, x)) (h7 : op = 7 ∨ op = 8 ∨ op = 9) (hd : d ≤ D) (he : e + 1 ≤ D) : TSeg nw c i (k + 1) D (fOp op f g) := by
  refine ⟨sg_op s1 s2 h (by omega) (by omega) hd he, fun w v q => ?_⟩
  cases p : f w with
  | none => rw [fOp_n p] at q; exact absurd q (by simp)
  | some a =>
    cases r : g w with
    | none => rw [fOp_m p r] at q; exact absurd q (by simp)
    | some b => rw [fOp_s p r] at q; exact rc_01 h7 q
theorem sg_not {nw i j d : Nat} {x : Int} {c : Nat → Nat × Int} {f : (Nat → Int) → Option Int} (s : TSeg nw c i j d f) (h : c j = (10, x)) : TSeg nw c i (j + 1) d (fNot f) := by
  have hij := s.1.1
  have e1 : (c j).1 = 10 := by rw [h]
  refine ⟨⟨by omega, fun w st hl => ?_⟩, fun w v q => ?_⟩
  · rw [show j + 1 - i = (j - i) + (0 + 1) by omega]
    have r1 := s.1.2 w st hl
    cases q : f w with
    | none =>
      rw [q, mp_n] at r1
      rw [fNot_n q, mp_n]
      exact rn_s (show j ≤ j + 1 by omega) _ _ _ _ _ _ r1 (fun st' h1 => absurd h1 (by simp)) (fun _ => rfl)
    | some a =>
      rw [q, mp_s] at r1
      refine rn_s (show j ≤ j + 1 by omega) _ _ _ _ _ _ r1 (fun st' h1 => ?_) (fun h1 => absurd h1 (by simp))
      rw [← Option.some.inj h1, fNot_s q, mp_s]
      unfold run
      rw [if_neg (by omega), if_neg (by omega), e1, if_neg (by decide)]
      simp only
      rw [if_pos (s.2 w a q)]
      exact rn_0
  · cases p : f w with
    | none => rw [fNot_n p] at q; exact absurd q (by simp)
    | some a =>
      rw [fNot_s p] at q
      have e : 1 - a = v := Option.some.inj q
      have := s.2 w a p
      omega
theorem sg_and {nw i j k d e D op : Nat} {c : Nat → Nat × Int} {f g : (Nat → Int) → Option Int} (s1 : TSeg nw c i j d f) (s2 : TSeg nw c (j + 1) k e g) (h : c j = (op, (k : Int))) (ho : op = 11 ∨ op = 12) (hd : d ≤ D) (he : e ≤ D) : TSeg nw c i k D (fAnd op f g) := by
  have hij := s1.1.1
  have hjk := s2.1.1
  have e1 : (c j).1 = op := by rw [h]
  have e2 : (c j).2 = k := by rw [h]
  refine ⟨⟨by omega, fun w st hl => ?_⟩, fun w v q => ?_⟩
  · rw [show k - i = (j - i) + ((k - (j + 1)) + 1) by omega]
    have r1 := s1.1.2 w st (by omega)
    cases q : f w with
    | none =>
      rw [q, mp_n] at r1
      rw [fAnd_n q, mp_n]
      exact rn_s (show j ≤ k by omega) _ _ _ _ _ _ r1 (fun st' h1 => absurd h1 (by simp)) (fun _ => rfl)
    | some a =>
      rw [q, mp_s] at r1
      refine rn_s (show j ≤ k by omega) _ _ _ _ _ _ r1 (fun st' h1 => ?_) (fun h1 => absurd h1 (by simp))
      rw [← Option.some.inj h1, fAnd_s q]
      unfold run
      rw [if_neg (by omega), if_neg (by omega), e1, e2, if_neg (by omega)]
      simp only
      rw [if_neg (show ¬ op = 10 by omega), if_pos ho, if_pos ⟨s1.2 w a q, by omega⟩]
      by_cases z : a = (if op = 11 then 0 else 1)
      · rw [if_pos z, if_pos z, mp_s, Int.toNat_natCast]
        exact rn_0
      · rw [if_neg z, if_neg z]
        exact s2.1.2 w st (by omega)
  · cases p : f w with
    | none => rw [fAnd_n p] at q; exact absurd q (by simp)
    | some a =>
      rw [fAnd_s p] at q
      by_cases z : a = (if op = 11 then 0 else 1)
      · rw [if_pos z] at q
        rw [← Option.some.inj q]; exact s1.2 w a p
      · rw [if_neg z] at q
        exact s2.2 w v q
