/-- the pool by what lies at an address -/
def fnd (P : va_W) (a : Nat) : Option va_E := (P.find? (fun q => q.1 == a)).map (fun q => q.2)
theorem fnd_app (P : va_W) (z : Nat) (e : va_E) (b : Nat) : fnd (P ++ [(z, e)]) b = match fnd P b with
  | some x => some x
  | none => if b = z then some e else none := by
  unfold fnd
  rw [List.find?_append]
  cases P.find? (fun q => q.1 == b) with
  | some q => rfl
  | none =>
    by_cases h : b = z
    · subst h; simp
    · have : ¬ z = b := fun k => h k.symm
      simp [this, h]
theorem fnd_cons (q : Nat × va_E) (P : va_W) (b : Nat) : fnd (q :: P) b = if q.1 = b then some q.2 else fnd P b := by
  unfold fnd
  rw [List.find?_cons]
  by_cases h : q.1 = b
  · rw [if_pos h, show (q.1 == b) = true by simp [h]]; rfl
  · rw [if_neg h, show (q.1 == b) = false by simp [h]]
theorem fnd_set (a : Nat) (e : va_E) (b : Nat) : ∀ P : va_W, fnd (pset P a e) b = if b = a then (fnd P a).map (fun _ => e) else fnd P b
  | [] => by
    show (none : Option va_E) = if b = a then none else none
    split <;> rfl
  | q :: P => by
    have ih := fnd_set a e b P
    show fnd ((if q.1 = a then (a, e) else q) :: pset P a e) b = _
    rw [fnd_cons, fnd_cons, fnd_cons, ih]
    by_cases h : q.1 = a
    · rw [if_pos h, if_pos h]
      by_cases k : b = a
      · subst k; rw [if_pos rfl, if_pos rfl]; rfl
      · rw [if_neg (show ¬ a = b from fun z => k z.symm), if_neg k, if_neg k, if_neg (show ¬ q.1 = b by omega)]
    · rw [if_neg h, if_neg h]
      by_cases k : b = a
      · subst k; rw [if_neg h, if_pos rfl, if_pos rfl]
      · rw [if_neg k, if_neg k]
theorem pobj_f (P : va_W) (c a : Nat) : pobj P c a = match fnd P a with
  | some (.inr (c', fs)) => if c' = c then some fs else none
  | _ => none := by
  unfold pobj fnd
  cases P.find? (fun q => q.1 == a) with
  | none => rfl
  | some q =>
    obtain ⟨k, v⟩ := q
    cases v <;> rfl
theorem parr_f (P : va_W) (a : Nat) : parr P a = match fnd P a with
  | some (.inl (c, n, .inl f)) => some (c, n, f)
  | _ => none := by
  unfold parr fnd
  cases P.find? (fun q => q.1 == a) with
  | none => rfl
  | some q =>
    obtain ⟨k, v⟩ := q
    cases v with
    | inr x => rfl
    | inl x =>
      obtain ⟨c, n, d⟩ := x
      cases d <;> rfl
theorem parq_f (P : va_W) (a : Nat) : parq P a = match fnd P a with
  | some (.inl (c, n, .inr (.inr (.inr (.inr f))))) => some (c, n, f)
  | _ => none := by
  unfold parq fnd
  cases P.find? (fun q => q.1 == a) with
  | none => rfl
  | some q =>
    obtain ⟨k, v⟩ := q
    cases v with
    | inr x => rfl
    | inl x =>
      obtain ⟨c, n, d⟩ := x
      cases d with
      | inl f => rfl
      | inr d =>
        cases d with
        | inl f => rfl
        | inr d =>
          cases d with
          | inl f => rfl
          | inr d =>
            cases d with
            | inl f => rfl
            | inr f => rfl
theorem pobj_o {P : va_W} {c a : Nat} {fs : List Value} (h : fnd P a = some (.inr (c, fs))) : pobj P c a = some fs := by
  rw [pobj_f, h]; exact if_pos rfl
theorem pobj_i {P : va_W} {c a : Nat} {fs : List Value} (h : pobj P c a = some fs) : fnd P a = some (.inr (c, fs)) := by
  rw [pobj_f] at h
  split at h
  · next c' fs' e =>
    by_cases z : c' = c
    · rw [if_pos z] at h; rw [e, z, Option.some.inj h]
    · rw [if_neg z] at h; cases h
  · cases h
theorem parE_o {E : Nat → ClassId} {P : va_W} {a n : Nat} {f : Nat → Int32} (h : fnd P a = some (.inl (E 0, n, .inl f))) : parE E P a = some (n, f) := by
  unfold parE; rw [parr_f, h]
  show (if E 0 = E 0 then some (n, f) else none) = _
  exact if_pos rfl
theorem parE_i {E : Nat → ClassId} {P : va_W} {a n : Nat} {f : Nat → Int32} (h : parE E P a = some (n, f)) : fnd P a = some (.inl (E 0, n, .inl f)) := by
  unfold parE at h
  rw [parr_f] at h
  split at h
  · next c n' f' e =>
    have h' : (if c = E 0 then some (n', f') else none) = some (n, f) := h
    by_cases z : c = E 0
    · rw [if_pos z] at h'; cases h'; rw [e, z]
    · rw [if_neg z] at h'; cases h'
  · cases h
theorem parL_o {E : Nat → ClassId} {P : va_W} {a n : Nat} {f : Nat → Option Nat} (h : fnd P a = some (.inl (E 3, n, .inr (.inr (.inr (.inr f)))))) : parL E P a = some (n, f) := by
  unfold parL; rw [parq_f, h]
  show (if E 3 = E 3 then some (n, f) else none) = _
  exact if_pos rfl
theorem parL_i {E : Nat → ClassId} {P : va_W} {a n : Nat} {f : Nat → Option Nat} (h : parL E P a = some (n, f)) : fnd P a = some (.inl (E 3, n, .inr (.inr (.inr (.inr f))))) := by
  unfold parL at h
  rw [parq_f] at h
  split at h
  · next c n' f' e =>
    have h' : (if c = E 3 then some (n', f') else none) = some (n, f) := h
    by_cases z : c = E 3
    · rw [if_pos z] at h'; cases h'; rw [e, z]
    · rw [if_neg z] at h'; cases h'
  · cases h
theorem pobj_cg {P P' : va_W} {a : Nat} (h : fnd P' a = fnd P a) (c : Nat) : pobj P' c a = pobj P c a := by rw [pobj_f, pobj_f, h]
theorem pI_cg {P P' : va_W} {a : Nat} (h : fnd P' a = fnd P a) (c k : Nat) : pI P' c a k = pI P c a k := by unfold pI; rw [pobj_cg h]
theorem pR_cg {P P' : va_W} {a : Nat} (h : fnd P' a = fnd P a) (c k : Nat) : pR P' c a k = pR P c a k := by unfold pR; rw [pobj_cg h]
theorem parE_cg {E : Nat → ClassId} {P P' : va_W} {a : Nat} (h : fnd P' a = fnd P a) : parE E P' a = parE E P a := by unfold parE; rw [parr_f, parr_f, h]
theorem parQ_cg {E : Nat → ClassId} {P P' : va_W} {a : Nat} (h : fnd P' a = fnd P a) : parQ E P' a = parQ E P a := by unfold parQ; rw [parq_f, parq_f, h]
theorem parL_cg {E : Nat → ClassId} {P P' : va_W} {a : Nat} (h : fnd P' a = fnd P a) : parL E P' a = parL E P a := by unfold parL; rw [parq_f, parq_f, h]
theorem nn_obj {P : va_W} {c a : Nat} {fs : List Value} (h : pobj P c a = some fs) : fnd P a ≠ none := by rw [pobj_i h]; intro z; cases z
theorem nn_pI {P : va_W} {c a k : Nat} {v : Int32} (h : pI P c a k = some v) : fnd P a ≠ none := by
  unfold pI at h
  obtain ⟨fs, h1, -⟩ := Option.bind_eq_some_iff.mp h
  exact nn_obj h1
theorem nn_parE {E : Nat → ClassId} {P : va_W} {a : Nat} {t : Nat × (Nat → Int32)} (h : parE E P a = some t) : fnd P a ≠ none := by
  rw [parE_i (n := t.1) (f := t.2) h]; intro z; cases z
theorem nn_parQ {E : Nat → ClassId} {P : va_W} {a : Nat} {t : Nat × (Nat → Option Nat)} (h : parQ E P a = some t) : fnd P a ≠ none := by
  intro z
  unfold parQ at h
  rw [parq_f, z] at h
  cases h
theorem pI_o {P : va_W} {c a k : Nat} {fs : List Value} {v : Int32} (h : fnd P a = some (.inr (c, fs))) (hk : fs[k]? = some (.int v)) : pI P c a k = some v := by
  unfold pI; rw [pobj_o h, bs, hk]
theorem pR_o {P : va_W} {c a k b : Nat} {fs : List Value} (h : fnd P a = some (.inr (c, fs))) (hk : fs[k]? = some (.ref b)) : pR P c a k = some b := by
  unfold pR; rw [pobj_o h, bs, hk]
/-- a script's law over another pool -/
theorem LawS_mv {E : Nat → ClassId} {Z Z' : Nat → Prop} {P P' : va_W} {q : Option Nat} {r : Nat → Int32} (m : ∀ b, ¬ Z b → fnd P b ≠ none → fnd P' b = fnd P b ∧ ¬ Z' b) (h : LawS E Z P q r) : LawS E Z' P' q r := by
  obtain ⟨a, n, ka, co, len, code, cl, e1, z1, hn, p1, p2, z2, p3, p4, z3, p5, hl, r1, h2⟩ := h
  obtain ⟨m1, y1⟩ := m a z1 (nn_pI p1)
  obtain ⟨m2, y2⟩ := m ka z2 (nn_parQ p3)
  obtain ⟨m3, y3⟩ := m co z3 (nn_parE p5)
  refine ⟨a, n, ka, co, len, code, cl, e1, y1, hn, by rw [pI_cg m1]; exact p1, by rw [pR_cg m1]; exact p2, y2, by rw [parQ_cg m2]; exact p3, by rw [pR_cg m1]; exact p4, y3, by rw [parE_cg m3]; exact p5, hl, r1, fun i hi => ?_⟩
  obtain ⟨ai, k, c1, c2, c3, c4, c5⟩ := h2 i hi
  obtain ⟨b0, e1', e2', e3', s0, s1, s2, s3, q1, q2, q3, q4, q5, rest⟩ := c5
  obtain ⟨m4, y4⟩ := m ai c2 (nn_pI q1)
  exact ⟨ai, k, c1, y4, c3, c4, b0, e1', e2', e3', s0, s1, s2, s3, by rw [pI_cg m4]; exact q1, by rw [pI_cg m4]; exact q2, by rw [pI_cg m4]; exact q3, by rw [pI_cg m4]; exact q4, by rw [pI_cg m4]; exact q5, rest⟩
theorem pok_mv {P P' : va_W} {q : Option Nat} (m : ∀ b fs, fnd P b = some (.inr (5, fs)) → fnd P' b = fnd P b) (h : pok P 5 q = true) : pok P' 5 q = true := by
  cases q with
  | none => rfl
  | some a =>
    have h' : (pobj P 5 a).isSome = true := h
    cases e : pobj P 5 a with
    | none => rw [e] at h'; cases h'
    | some fs =>
      show (pobj P' 5 a).isSome = true
      rw [pobj_cg (m a fs (pobj_i e)), e]; rfl
theorem LWS_mv {E : Nat → ClassId} {Z Z' : Nat → Prop} {P P' : va_W} {Q : Nat → Option Nat} {R : Nat → Int32} {W : Nat} (m : ∀ b, ¬ Z b → fnd P b ≠ none → fnd P' b = fnd P b ∧ ¬ Z' b) (m5 : ∀ b fs, fnd P b = some (.inr (5, fs)) → fnd P' b = fnd P b) (h : LWS E Z P Q R W) : LWS E Z' P' Q R W := ⟨fun w hw => LawS_mv m (h.1 w hw), fun w hw => pok_mv m5 (h.2 w hw)⟩
theorem LWS_q {E : Nat → ClassId} {Z : Nat → Prop} {P : va_W} {Q Q' : Nat → Option Nat} {R R' : Nat → Int32} {W : Nat} (hW : W ≤ 6) (hq : ∀ w, w < 6 → Q' w = Q w) (hr : ∀ i, 76 ≤ i → i < 5476 → R' i = R i) (h : LWS E Z P Q R W) : LWS E Z P Q' R' W := by
  refine ⟨fun w hw => ?_, fun w hw => by rw [hq w hw]; exact h.2 w hw⟩
  rw [hq w (by omega), show lwR R' w = lwR R w from funext fun i => by
    unfold lwR
    by_cases z : i < 900
    · rw [if_pos z, if_pos z, hr _ (by omega) (by omega)]
    · rw [if_neg z, if_neg z]]
  exact h.1 w hw
/-- rules for what makes -/
def Ret {α : Type} (X : Option α) (Q : α → Prop) : Prop := ∃ r, X = some r ∧ Q r
theorem R_chk {α : Type} {c : Prop} [Decidable c] {X : Option α} {Q : α → Prop} (h : c) (k : Ret X Q) : Ret (chk c X) Q := by rw [chk_t h]; exact k
theorem R_bind {α β : Type} {Y : Option β} {y : β} {K : β → Option α} {Q : α → Prop} (h : Y = some y) (k : Ret (K y) Q) : Ret (Y.bind K) Q := by rw [h]; exact k
theorem R_app {α : Type} {P : va_W} {z : Nat} {e : va_E} {K : va_W → Option α} {Q : α → Prop} (hn : fnd P z = none) (kk : ∀ P1, fnd P1 z = some e → (∀ b, b ≠ z → fnd P1 b = fnd P b) → Ret (K P1) Q) : Ret (stp (P ++ [(z, e)]) K) Q := kk _ (by rw [fnd_app, hn]; exact if_pos rfl) (fun b hb => by
  rw [fnd_app]
  cases fnd P b with
  | some x => rfl
  | none => exact if_neg hb)
theorem R_set {α : Type} {P : va_W} {a : Nat} {e e0 : va_E} {K : va_W → Option α} {Q : α → Prop} (h : fnd P a = some e0) (kk : ∀ P1, fnd P1 a = some e → (∀ b, b ≠ a → fnd P1 b = fnd P b) → Ret (K P1) Q) : Ret (stp (pset P a e) K) Q := kk _ (by rw [fnd_set, if_pos rfl, h]; rfl) (fun b hb => by rw [fnd_set, if_neg hb])
theorem R_obj {α : Type} {P : va_W} {c a : Nat} {fs : List Value} {K : List Value → Option α} {Q : α → Prop} (h : fnd P a = some (.inr (c, fs))) (k : Ret (K fs) Q) : Ret ((pobj P c a).bind K) Q := R_bind (pobj_o h) k
theorem R_arr {α : Type} {E : Nat → ClassId} {P : va_W} {a n : Nat} {f : Nat → Int32} {K : Nat × (Nat → Int32) → Option α} {Q : α → Prop} (h : fnd P a = some (.inl (E 0, n, .inl f))) (k : Ret (K (n, f)) Q) : Ret ((parE E P a).bind K) Q := R_bind (parE_o h) k
theorem R_ref {α : Type} {P : va_W} {c a b i : Nat} {fs : List Value} {K : Nat → Option α} {Q : α → Prop} (h : fnd P a = some (.inr (c, fs))) (hk : fs[i]? = some (.ref b)) (k : Ret (K b) Q) : Ret ((pR P c a i).bind K) Q := R_bind (pR_o h hk) k
theorem mkok_f {P : va_W} {z ce b : Nat} {e : va_E} (h : fnd P b = some e) (hb : b + 1 = z + ce) : mkok P z ce = true := by
  unfold mkok
  unfold fnd at h
  cases h2 : P.find? (fun q => q.1 == b) with
  | none => rw [h2] at h; cases h
  | some q =>
    have m1 := List.mem_of_find?_eq_some h2
    have m2 := List.find?_some h2
    have e1 : q.1 = b := by simpa using m2
    rw [Bool.or_eq_true, List.any_eq_true]
    exact Or.inr ⟨q, m1, by simp only [beq_iff_eq]; omega⟩
theorem fnd_lt {P : va_W} {z : Nat} (h : ∀ (k : Nat) (q : Nat × va_E), P[k]? = some q → q.1 < z) {b : Nat} (hb : fnd P b ≠ none) : b < z := by
  unfold fnd at hb
  cases h2 : P.find? (fun q => q.1 == b) with
  | none => rw [h2] at hb; exact absurd rfl hb
  | some q =>
    obtain ⟨k, hk⟩ := pfind h2
    exact h k _ hk
