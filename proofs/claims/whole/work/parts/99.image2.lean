/-- a town in the making -/
def ini (E : Nat → ClassId) (j : Nat) : va_E := if j < 5 then .inl (E 0, 10, .inl (fun _ => 0)) else if j < 8 then .inl (E 0, 4, .inl (fun _ => 0)) else if j = 8 then .inl (E 0, 6, .inl (fun _ => 0)) else if j = 9 then .inl (E 0, 3, .inl (upd (upd (upd (fun _ => 0) 0 0) 1 1) 2 0)) else .inl (E 3, 6, .inr (.inr (.inr (.inr (fun _ => none)))))
def TI (E : Nat → ClassId) (P0 P : va_W) (a i : Nat) (fs : List Value) : Prop := fnd P a = some (.inr (7, fs)) ∧ (∀ j, j < i → fnd P (a + 1 + j) = some (ini E j)) ∧ ∀ b, b ≠ a → (b < a + 1 ∨ a + 1 + i ≤ b) → fnd P b = fnd P0 b
theorem TI_ok {E : Nat → ClassId} {P0 P : va_W} {a i : Nat} {fs : List Value} (h : TI E P0 P a i fs) : mkok P (a + 1) i = true := by
  cases i with
  | zero => rfl
  | succ i => exact mkok_f (h.2.1 i (by omega)) (by omega)
theorem TI_s {E : Nat → ClassId} {P0 P P1 P2 : va_W} {a i k : Nat} {fs : List Value} {arr : va_E} {v : Value} (h : TI E P0 P a i fs) (ha : ini E i = arr) (s1 : fnd P1 (a + 1 + i) = some arr) (f1 : ∀ b, b ≠ a + 1 + i → fnd P1 b = fnd P b) (s2 : fnd P2 a = some (.inr (7, fs.set k v))) (f2 : ∀ b, b ≠ a → fnd P2 b = fnd P1 b) : TI E P0 P2 a (i + 1) (fs.set k v) := by
  refine ⟨s2, fun j hj => ?_, fun b b1 b2 => ?_⟩
  · rw [f2 _ (by omega)]
    by_cases z : j = i
    · rw [z, s1, ha]
    · rw [f1 _ (by omega)]; exact h.2.1 j (by omega)
  · rw [f2 b b1, f1 b (by omega)]; exact h.2.2 b b1 (by omega)
theorem R_mk {α : Type} {E : Nat → ClassId} {P0 P : va_W} {a i k : Nat} {fs : List Value} {arr : va_E} {B : Prop} [Decidable B] {K : va_W → Option α} {Po : α → Prop} (h : TI E P0 P a i fs) (hn : fnd P0 (a + 1 + i) = none) (ha : ini E i = arr) (hl : k < fs.length) (hB : B) (kk : ∀ P2, TI E P0 P2 a (i + 1) (fs.set k (.ref (a + 1 + i))) → Ret (K P2) Po) : Ret (chk (mkok P (a + 1) i = true ∧ B) (stp (P ++ [((a + 1) + i, arr)]) fun P1 => (pobj P1 7 a).bind fun fs3 => chk (k < fs3.length) (stp (pset P1 a (.inr (7, fs3.set k (.ref ((a + 1) + i))))) K))) Po := by
  have h' : fnd P (a + 1 + i) = none := (h.2.2 _ (by omega) (by omega)).trans hn
  refine R_chk ⟨TI_ok h, hB⟩ (R_app h' (fun P1 s1 f1 => ?_))
  have g : fnd P1 a = some (.inr (7, fs)) := (f1 a (by omega)).trans h.1
  exact R_obj g (R_chk hl (R_set g (fun P2 s2 f2 => kk P2 (TI_s h ha s1 f1 s2 f2))))
theorem R_mk9 {α : Type} {E : Nat → ClassId} {P0 P : va_W} {a : Nat} {fs : List Value} {B : Prop} [Decidable B] {K : va_W → Option α} {Po : α → Prop} (h : TI E P0 P a 9 fs) (hn : fnd P0 (a + 1 + 9) = none) (hl : 12 < fs.length) (hB : B) (kk : ∀ P2, TI E P0 P2 a (9 + 1) (fs.set 12 (.ref (a + 1 + 9))) → Ret (K P2) Po) : Ret (chk (mkok P (a + 1) 9 = true ∧ B) (stp (P ++ [((a + 1) + 9, .inl (E 0, 3, .inl (fun _ => 0)))]) fun P28 => (parE E P28 ((a + 1) + 9)).bind fun t30 => chk (inb (0 : Int32) t30.1 = true) (stp (pset P28 ((a + 1) + 9) (.inl (E 0, t30.1, .inl (upd t30.2 ((0 : Int32)).toNatClampNeg (0 : Int32))))) fun P29 => (parE E P29 ((a + 1) + 9)).bind fun t32 => chk (inb (1 : Int32) t32.1 = true) (stp (pset P29 ((a + 1) + 9) (.inl (E 0, t32.1, .inl (upd t32.2 ((1 : Int32)).toNatClampNeg (1 : Int32))))) fun P31 => (parE E P31 ((a + 1) + 9)).bind fun t34 => chk (inb (2 : Int32) t34.1 = true) (stp (pset P31 ((a + 1) + 9) (.inl (E 0, t34.1, .inl (upd t34.2 ((2 : Int32)).toNatClampNeg (0 : Int32))))) fun P33 => (pobj P33 7 a).bind fun fs36 => chk (12 < fs36.length) (stp (pset P33 a (.inr (7, fs36.set 12 (.ref ((a + 1) + 9))))) K)))))) Po := by
  have h' : fnd P (a + 1 + 9) = none := (h.2.2 _ (by omega) (by omega)).trans hn
  refine R_chk ⟨TI_ok h, hB⟩ (R_app h' (fun P1 s1 f1 => R_arr s1 (R_chk (show inb (0 : Int32) 3 = true by decide) (R_set s1 (fun P2 s2 f2 => R_arr s2 (R_chk (show inb (1 : Int32) 3 = true by decide) (R_set s2 (fun P3 s3 f3 => R_arr s3 (R_chk (show inb (2 : Int32) 3 = true by decide) (R_set s3 (fun P4 s4 f4 => ?_)))))))))))
  have g : fnd P4 a = some (.inr (7, fs)) := (f4 a (by omega)).trans ((f3 a (by omega)).trans ((f2 a (by omega)).trans ((f1 a (by omega)).trans h.1)))
  refine R_obj g (R_chk hl (R_set g (fun P5 s5 f5 => kk P5 (TI_s (P1 := P4) h rfl ?_ (fun b hb => (f4 b hb).trans ((f3 b hb).trans ((f2 b hb).trans (f1 b hb)))) s5 f5))))
  rw [s4, cp_0, cp_2, show (1 : Int32).toNatClampNeg = 1 by decide]; rfl
theorem qk_init {E : Nat → ClassId} {z : Nat} {S : CS} {P : va_W} (hn : ∀ b, z ≤ b → fnd P b = none) {P6 : va_W} (s6 : fnd P6 z = some (.inr (7, [.null, .null, .null, .null, .null, .int 0, .null, .null, .null, .int 0, .null, .int 0, .null, .null, .int 0, .int 0]))) (f6 : ∀ b, b ≠ z → fnd P6 b = fnd P b) : ∃ P' I A Q, K_7_init E (z + 1) S P6 z = some ((), S, P') ∧ FT E P' z I A Q ∧ ∀ b, b < z ∨ z + 12 ≤ b → fnd P' b = fnd P b := by
  have t0 : TI E P6 P6 z 0 [.null, .null, .null, .null, .null, .int 0, .null, .null, .null, .int 0, .null, .int 0, .null, .null, .int 0, .int 0] := ⟨s6, fun j hj => by omega, fun b _ _ => rfl⟩
  have hm : ∀ i, fnd P6 (z + 1 + i) = none := fun i => (f6 _ (by omega)).trans (hn _ (by omega))
  have key : Ret (K_7_init E (z + 1) S P6 z) (fun r => r.2.1 = S ∧ ∃ I A Q, FT E r.2.2 z I A Q ∧ ∀ b, b < z ∨ z + 12 ≤ b → fnd r.2.2 b = fnd P b) := by
    unfold K_7_init
    refine R_mk t0 (hm 0) rfl (by decide) (by decide) (fun P1 t1 => ?_)
    refine R_mk t1 (hm 1) rfl (show 1 < 16 by decide) (by decide) (fun P2 t2 => ?_)
    refine R_mk t2 (hm 2) rfl (show 2 < 16 by decide) (by decide) (fun P3 t3 => ?_)
    refine R_mk t3 (hm 3) rfl (show 3 < 16 by decide) (by decide) (fun P4 t4 => ?_)
    refine R_mk t4 (hm 4) rfl (show 4 < 16 by decide) (by decide) (fun P5 t5 => ?_)
    refine R_mk t5 (hm 5) rfl (show 6 < 16 by decide) (by decide) (fun P6' t6 => ?_)
    refine R_mk t6 (hm 6) rfl (show 7 < 16 by decide) (by decide) (fun P7 t7 => ?_)
    refine R_mk t7 (hm 7) rfl (show 8 < 16 by decide) (by decide) (fun P8 t8 => ?_)
    refine R_mk t8 (hm 8) rfl (show 10 < 16 by decide) (by decide) (fun P9 t9 => ?_)
    refine R_mk9 t9 (hm 9) (show 12 < 16 by decide) (by decide) (fun P10 t10 => ?_)
    refine R_mk t10 (hm 10) rfl (show 13 < 16 by decide) (by decide) (fun P11 t11 => ?_)
    refine R_obj t11.1 (R_chk (show 15 < 16 by decide) (R_set t11.1 (fun P12 s12 f12 => R_chk (by decide) ⟨_, rfl, rfl, fun k => if k = 15 then -1 else 0, fun k => if k = 12 then upd (upd (upd (fun _ => 0) 0 0) 1 1) 2 0 else fun _ => 0, fun _ => none, ?_, fun b hb => ?_⟩)))
    · have g : ∀ j, j < 11 → fnd P12 (z + 1 + j) = some (ini E j) := fun j hj => (f12 _ (by omega)).trans (t11.2.1 j (by omega))
      exact ⟨s12, g 0 (by omega), g 1 (by omega), g 2 (by omega), g 3 (by omega), g 4 (by omega), g 5 (by omega), g 6 (by omega), g 7 (by omega), g 8 (by omega), g 9 (by omega), g 10 (by omega)⟩
    · show fnd P12 b = fnd P b
      rw [f12 b (by omega), t11.2.2 b (by omega) (by omega), f6 b (by omega)]
  obtain ⟨⟨u, S', P'⟩, k1, k2, I, A, Q, k3, k4⟩ := key
  exact ⟨P', I, A, Q, by rw [k1, show S' = S from k2], k3, k4⟩
