theorem rc_A {S T : CS} {I0 : Nat → Int32} {t : Nat → Nat} {n s a br pa : Nat} {fl : Option Nat} {A : Nat → Int32} (h : RC S I0 t n s a br pa fl A T) : ca T 9 1 = A := by
  obtain ⟨I, rfl, -⟩ := h
  show ca (cF S 9 1 A) 9 1 = A
  exact ca_cF S 9 1 A
/-- the code is copied -/
theorem kJ7 {E : Nat → ClassId} {z a : Nat} {T : CS} {P : va_W} (ha : a < 400) (hz : fnd P z = none) : ∃ P4, K_J7_copyOf E z T P (nI (2 * a)) = some (z, T, P4) ∧ fnd P4 z = some (.inl (E 0, 2 * a, .inl (va_cpy (ca T 9 1) (fun _ => 0) 0 0 (2 * a)))) ∧ ∀ b, b ≠ z → fnd P4 b = fnd P b := by
  have c1 : (nI (2 * a)).toNatClampNeg = 2 * a := nI_clamp (by omega)
  have lt : nI (2 * a) < (800 : Int32) := nI_lt (b := 800) (by omega) (by decide)
  have s1 : fnd (P ++ [(z + 0, .inl (E 0, 2 * a, .inl (fun _ => (0 : Int32))))]) z = some (.inl (E 0, 2 * a, .inl (fun _ => (0 : Int32)))) := by rw [fnd_app, hz]; exact if_pos rfl
  have f1 : ∀ b, b ≠ z → fnd (P ++ [(z + 0, .inl (E 0, 2 * a, .inl (fun _ => (0 : Int32))))]) b = fnd P b := fun b hb => by
    rw [fnd_app]
    cases fnd P b with
    | some x => rfl
    | none => exact if_neg hb
  have s1' : parE E (P ++ [(z + 0, .inl (E 0, 2 * a, .inl (fun _ => (0 : Int32))))]) (z + 0) = some (2 * a, fun _ => (0 : Int32)) := parE_o s1
  refine ⟨pset (P ++ [(z + 0, .inl (E 0, 2 * a, .inl (fun _ => (0 : Int32))))]) (z + 0) (.inl (E 0, 2 * a, .inl (va_cpy (ca T 9 1) (fun _ => (0 : Int32)) 0 0 (2 * a)))), ?_, ?_, fun b hb => ?_⟩
  · unfold K_J7_copyOf
    rw [if_neg (show ¬ nI (2 * a) = (800 : Int32) from fun q => by have := (nI_eq (b := 800) (by omega) (by decide)).mp q; omega), chk_in (show 2 * a < 65536 by omega) (by decide), c1, chk_t ⟨rfl, by omega, by omega⟩, stp_d, chk_t ⟨by omega, by omega⟩, s1', bs, if_pos lt, chk_t (show cpok (0 : Int32) (0 : Int32) (nI (2 * a)) 800 (2 * a) = true from cpok_in (a := 0) (b := 0) (c := 2 * a) (by omega) (by omega) (by omega) (by omega)), stp_d, c1, chk_t ⟨by omega, by omega⟩]
    rfl
  · show fnd (pset _ z _) z = _
    rw [fnd_set, if_pos rfl, s1]; rfl
  · show fnd (pset _ z _) b = _
    rw [fnd_set, if_neg hb]; exact f1 b hb
/-- the pool while a text is read -/
def LPl (CL : CLT) (E : Nat → ClassId) (P0 P : va_W) (zb c : Nat) (A f g w : Nat → Int32) (a b : Nat) : Prop := (∃ cl, SP E P zb c cl ∧ ∀ i, i < c → cl i = some (zb + 3 + i)) ∧ fnd P (zb + 2) ≠ none ∧ (∀ i, i < c → ∃ fs, fnd P (zb + 3 + i) = some (.inr (0, fs)) ∧ CL A f g w (8 * i) a b fs) ∧ (∀ x, x < zb → fnd P x = fnd P0 x) ∧ ∀ x, zb + 3 + c ≤ x → fnd P x = none
/-- the pool once it was read -/
def LD (CL : CLT) (E : Nat → ClassId) (P0 P : va_W) (zb c : Nat) (A f g w : Nat → Int32) (a b : Nat) : Prop := fnd P zb = some (.inr (5, [.ref (zb + 1), .int (nI c), .ref (zb + 3 + c)])) ∧ (∃ cl, fnd P (zb + 1) = some (.inl (E 4, 12, .inr (.inr (.inr (.inr cl))))) ∧ ∀ i, i < c → cl i = some (zb + 3 + i)) ∧ fnd P (zb + 3 + c) = some (.inl (E 0, 2 * a, .inl (va_cpy A (fun _ => 0) 0 0 (2 * a)))) ∧ (∀ i, i < c → ∃ fs, fnd P (zb + 3 + i) = some (.inr (0, fs)) ∧ CL A f g w (8 * i) a b fs) ∧ ∀ x, x < zb → fnd P x = fnd P0 x
def CLmv (CL : CLT) : Prop := ∀ (A f g w A' f' g' w' : Nat → Int32) (o a b a' b' : Nat) (fs : List Value), (∀ k, k < 2 * a → A' k = A k) → (∀ k, k < b → f' k = f k ∧ g' k = g k) → (∀ j, o ≤ j → j < o + 8 → w' j = w j) → a ≤ a' → b ≤ b' → CL A f g w o a b fs → CL A' f' g' w' o a' b' fs
theorem LPl_mk {CL : CLT} {E : Nat → ClassId} {P0 P : va_W} {zb c : Nat} {A f g w : Nat → Int32} {a b : Nat} (h : LPl CL E P0 P zb c A f g w a b) : mkok P zb (3 + c) = true := by
  obtain ⟨h1, h2, h3, h4, h5⟩ := h
  cases c with
  | zero =>
    cases e : fnd P (zb + 2) with
    | none => exact absurd e h2
    | some v => exact mkok_f e (by omega)
  | succ c =>
    obtain ⟨fs, e, -⟩ := h3 c (Nat.lt_succ_self _)
    exact mkok_f e (by omega)
/-- a clause more -/
theorem LPl_step {CL : CLT} {E : Nat → ClassId} {P0 P P' : va_W} {zb c : Nat} {A f g w A' f' g' w' : Nat → Int32} {a b a' b' : Nat} {cl : Nat → Option Nat} {fs : List Value} (mv : CLmv CL) (h : LPl CL E P0 P zb c A f g w a b) (hcl : ∀ i, i < c → cl i = some (zb + 3 + i)) (ha : a ≤ a') (hb : b ≤ b') (hA : ∀ k, k < 2 * a → A' k = A k) (hf : ∀ k, k < b → f' k = f k ∧ g' k = g k) (hw : ∀ j, j < 8 * c ∨ 8 * c + 8 ≤ j → w' j = w j) (hC : CL A' f' g' w' (8 * c) a' b' fs) (hz : fnd P' (zb + 3 + c) = some (.inr (0, fs))) (sp : SP E P' zb (c + 1) (va_up cl c (some (zb + 3 + c)))) (fr : ∀ b, b ≠ zb + 3 + c → b ≠ zb → b ≠ zb + 1 → fnd P' b = fnd P b) : LPl CL E P0 P' zb (c + 1) A' f' g' w' a' b' := by
  obtain ⟨h1, h2, h3, h4, h5⟩ := h
  refine ⟨⟨_, sp, fun i hi => ?_⟩, by rw [fr _ (by omega) (by omega) (by omega)]; exact h2, fun i hi => ?_, fun x hx => (fr x (by omega) (by omega) (by omega)).trans (h4 x hx), fun x hx => (fr x (by omega) (by omega) (by omega)).trans (h5 x (by omega))⟩
  · rw [up_d]
    by_cases z : i = c
    · rw [if_pos z, z]
    · rw [if_neg z]; exact hcl i (by omega)
  · by_cases z : i = c
    · subst z; exact ⟨fs, hz, hC⟩
    · obtain ⟨fs', y1, y2⟩ := h3 i (by omega)
      exact ⟨fs', (fr _ (by omega) (by omega) (by omega)).trans y1, mv _ _ _ _ _ _ _ _ _ _ _ _ _ _ hA hf (fun j j1 j2 => hw j (by omega)) ha hb y2⟩
