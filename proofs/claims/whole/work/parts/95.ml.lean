/-- the draws' state stays over what children do -/
def Q54 {α : Type} (v : Int64) (r : Option (α × MS)) : Prop := ∀ x τ, r = some (x, τ) → ml τ 54 = v
theorem Q_none {α : Type} {v : Int64} : Q54 v (none : Option (α × MS)) := fun x τ h => by cases h
theorem Q_some {α : Type} {v : Int64} {x : α} {τ : MS} (h : ml τ 54 = v) : Q54 v (some (x, τ)) := fun y ρ e => by cases e; exact h
theorem Q_if {α : Type} {v : Int64} {c : Prop} [Decidable c] {a b : Option (α × MS)} (h1 : Q54 v a) (h2 : Q54 v b) : Q54 v (if c then a else b) := by split <;> assumption
theorem Q_chk {α : Type} {v : Int64} {c : Prop} [Decidable c] {a : Option (α × MS)} (h1 : Q54 v a) : Q54 v (chk c a) := by unfold chk; split; exact h1; exact Q_none
theorem Q_stt {α : Type} {v : Int64} {S : MS} {k : MS → Option (α × MS)} (h1 : Q54 v (k S)) : Q54 v (stt S k) := h1
theorem Q_bind {α β : Type} {v : Int64} {r : Option (α × MS)} {k : α × MS → Option (β × MS)} (h : Q54 v r) (h2 : ∀ x τ, ml τ 54 = v → Q54 v (k (x, τ))) : Q54 v (r.bind k) := by
  cases r with
  | none => exact Q_none
  | some p => exact h2 p.1 p.2 (h p.1 p.2 rfl)
theorem Q_bv {α β : Type} {v : Int64} {r : Option α} {k : α → Option (β × MS)} (h2 : ∀ x, Q54 v (k x)) : Q54 v (r.bind k) := by
  cases r with
  | none => exact Q_none
  | some p => exact h2 p
theorem p54_reckon {v : Int64} {S : MS} (h : ml S 54 = v) (a : Int32) (b c : Int64) : Q54 v (M_reckon S a b c) := by
  unfold M_reckon M_reckon_B72 M_reckon_B104
  repeat' (first | with_reducible exact Q_none | ((with_reducible refine Q_some ?_); assumption) | with_reducible refine Q_if ?_ ?_ | with_reducible refine Q_chk ?_ | with_reducible refine Q_stt ?_ | with_reducible refine Q_bv (fun _ => ?_))
theorem p54_raL {v : Int64} {F : Nat} {x2 : Int32} : ∀ (n : Nat) (S : MS) (x3 : Int32) (x4 : Int32), ml S 54 = v → Q54 v (M_reckonAll_L10 F x2 n S x3 x4)
  | 0, _, _, _, _ => Q_none
  | n + 1, S, x3, x4, h => by
    have ih := p54_raL (v := v) (F := F) (x2 := x2) n
    rw [M_reckonAll_L10]
    unfold M_reckonAll_B57 M_reckonAll_B95 M_reckonAll_B187 M_reckonAll_B217 M_reckonAll_B290 M_reckonAll_B295 M_reckonAll_B349 M_reckonAll_B363 M_reckonAll_B366 M_reckonAll_B381
    repeat' (first | with_reducible exact Q_none | ((with_reducible refine Q_some ?_); assumption) | ((with_reducible refine ih _ _ _ ?_); assumption) | with_reducible refine Q_if ?_ ?_ | with_reducible refine Q_chk ?_ | with_reducible refine Q_stt ?_ | ((with_reducible refine Q_bind (p54_reckon ?_ _ _ _) (fun _ _ _ => ?_)); assumption) | with_reducible refine Q_bv (fun _ => ?_))
theorem p54_ra {v : Int64} {S : MS} (h : ml S 54 = v) (F : Nat) (a b : Int32) : Q54 v (M_reckonAll F S a b) := p54_raL F (mI S 38 0) 0 a h
theorem p54_isSo {v : Int64} {S : MS} (h : ml S 54 = v) (F : Nat) (a : Int32) : Q54 v (M_isSo F S a) := by
  unfold M_isSo M_isSo_B59
  repeat' (first | with_reducible exact Q_none | ((with_reducible refine Q_some ?_); assumption) | with_reducible refine Q_if ?_ ?_ | with_reducible refine Q_chk ?_ | with_reducible refine Q_stt ?_ | ((with_reducible refine Q_bind (p54_ra ?_ _ _ _) (fun _ _ _ => ?_)); assumption) | with_reducible refine Q_bv (fun _ => ?_))
theorem p54_tellsL {v : Int64} {F : Nat} {x1 : Int32} : ∀ (n : Nat) (S : MS) (x6 : Int64) (x8 : Int32), ml S 54 = v → Q54 v (M_tells_L186 F x1 n S x6 x8)
  | 0, _, _, _, _ => Q_none
  | n + 1, S, x6, x8, h => by
    have ih := p54_tellsL (v := v) (F := F) (x1 := x1) n
    rw [M_tells_L186]
    unfold M_tells_B249 M_tells_B251
    repeat' (first | with_reducible exact Q_none | ((with_reducible refine Q_some ?_); assumption) | ((with_reducible refine ih _ _ _ ?_); assumption) | with_reducible refine Q_if ?_ ?_ | with_reducible refine Q_chk ?_ | with_reducible refine Q_stt ?_ | ((with_reducible refine Q_bind (p54_isSo ?_ _ _) (fun _ _ _ => ?_)); assumption) | with_reducible refine Q_bv (fun _ => ?_))
theorem p54_tells {v : Int64} {S : MS} (h : ml S 54 = v) (F : Nat) (a b c : Int32) (d : Int64) : Q54 v (M_tells F S a b c d) := by
  unfold M_tells M_tells_B88 M_tells_B115
  repeat' (first | with_reducible exact Q_none | ((with_reducible refine Q_some ?_); assumption) | ((with_reducible refine p54_tellsL _ _ _ _ ?_); assumption) | with_reducible refine Q_if ?_ ?_ | with_reducible refine Q_chk ?_ | with_reducible refine Q_stt ?_ | with_reducible refine Q_bv (fun _ => ?_))
theorem p54_bar {v : Int64} {S : MS} (h : ml S 54 = v) (F : Nat) (a b : Int32) : Q54 v (M_isBarred F S a b) := by
  unfold M_isBarred
  repeat' (first | with_reducible exact Q_none | ((with_reducible refine Q_some ?_); assumption) | with_reducible refine Q_if ?_ ?_ | with_reducible refine Q_chk ?_ | with_reducible refine Q_stt ?_ | ((with_reducible refine Q_bind (p54_tells ?_ _ _ _ _ _) (fun _ _ _ => ?_)); assumption) | with_reducible refine Q_bv (fun _ => ?_))
theorem p54_can {v : Int64} {S : MS} (h : ml S 54 = v) (F : Nat) (a b : Int32) : Q54 v (M_canGo F S a b) := by
  unfold M_canGo
  repeat' (first | with_reducible exact Q_none | ((with_reducible refine Q_some ?_); assumption) | with_reducible refine Q_if ?_ ?_ | with_reducible refine Q_chk ?_ | with_reducible refine Q_stt ?_ | ((with_reducible refine Q_bind (p54_bar ?_ _ _ _) (fun _ _ _ => ?_)); assumption) | with_reducible refine Q_bv (fun _ => ?_))
theorem p54_turn {v : Int64} {S : MS} (h : ml S 54 = v) (F : Nat) (a : Int32) : Q54 v (M_turnsTo F S a) := by
  unfold M_turnsTo
  repeat' (first | with_reducible exact Q_none | ((with_reducible refine Q_some ?_); assumption) | with_reducible refine Q_if ?_ ?_ | with_reducible refine Q_chk ?_ | with_reducible refine Q_stt ?_ | ((with_reducible refine Q_bind (p54_tells ?_ _ _ _ _ _) (fun _ _ _ => ?_)); assumption) | with_reducible refine Q_bv (fun _ => ?_))
theorem p54_says {v : Int64} {S : MS} (h : ml S 54 = v) (F : Nat) (a b : Int32) : Q54 v (M_saysOf F S a b) := by
  unfold M_saysOf
  repeat' (first | with_reducible exact Q_none | ((with_reducible refine Q_some ?_); assumption) | with_reducible refine Q_if ?_ ?_ | with_reducible refine Q_chk ?_ | with_reducible refine Q_stt ?_ | ((with_reducible refine Q_bind (p54_tells ?_ _ _ _ _ _) (fun _ _ _ => ?_)); assumption) | with_reducible refine Q_bv (fun _ => ?_))
theorem p54_of57 {v : Int64} {F : Nat} {x1 : Int32} : ∀ (n : Nat) (S : MS) (x3 : Int32) (x4 : Int32) (x5 : Int32), ml S 54 = v → Q54 v (M_laneOf_L57 F x1 n S x3 x4 x5)
  | 0, _, _, _, _, _ => Q_none
  | n + 1, S, x3, x4, x5, h => by
    have ih := p54_of57 (v := v) (F := F) (x1 := x1) n
    rw [M_laneOf_L57]
    unfold M_laneOf_B89 M_laneOf_B94
    repeat' (first | with_reducible exact Q_none | ((with_reducible refine Q_some ?_); assumption) | ((with_reducible refine ih _ _ _ _ ?_); assumption) | with_reducible refine Q_if ?_ ?_ | with_reducible refine Q_chk ?_ | with_reducible refine Q_stt ?_ | ((with_reducible refine Q_bind (p54_can ?_ _ _ _) (fun _ _ _ => ?_)); assumption) | with_reducible refine Q_bv (fun _ => ?_))
theorem p54_of4 {v : Int64} {F : Nat} {x1 : Int32} : ∀ (n : Nat) (S : MS) (x2 : Int32) (x3 : Int32), ml S 54 = v → Q54 v (M_laneOf_L4 F x1 n S x2 x3)
  | 0, _, _, _, _ => Q_none
  | n + 1, S, x2, x3, h => by
    have ih := p54_of4 (v := v) (F := F) (x1 := x1) n
    rw [M_laneOf_L4]
    unfold M_laneOf_B29
    repeat' (first | with_reducible exact Q_none | ((with_reducible refine Q_some ?_); assumption) | ((with_reducible refine ih _ _ _ ?_); assumption) | ((with_reducible refine p54_of57 _ _ _ _ _ ?_); assumption) | with_reducible refine Q_if ?_ ?_ | with_reducible refine Q_chk ?_ | with_reducible refine Q_stt ?_ | ((with_reducible refine Q_bind (p54_can ?_ _ _ _) (fun _ _ _ => ?_)); assumption) | ((with_reducible refine Q_bind (p54_turn ?_ _ _) (fun _ _ _ => ?_)); assumption) | with_reducible refine Q_bv (fun _ => ?_))
theorem p54_of {v : Int64} {S : MS} (h : ml S 54 = v) (F : Nat) (a : Int32) : Q54 v (M_laneOf F S a) := p54_of4 F S 0 0 h
theorem p54_go {v : Int64} {S : MS} (h : ml S 54 = v) (a b : Int32) : Q54 v (M_goAlong S a b) := by
  unfold M_goAlong
  repeat' (first | with_reducible exact Q_none | ((with_reducible refine Q_some ?_); assumption) | with_reducible refine Q_if ?_ ?_ | with_reducible refine Q_chk ?_ | with_reducible refine Q_stt ?_ | with_reducible refine Q_bv (fun _ => ?_))
theorem p54_cry {v : Int64} {S : MS} (h : ml S 54 = v) (F : Nat) (a : Int32) : Q54 v (M_cryIt F S a) := by
  unfold M_cryIt
  repeat' (first | with_reducible exact Q_none | ((with_reducible refine Q_some ?_); assumption) | with_reducible refine Q_if ?_ ?_ | with_reducible refine Q_chk ?_ | with_reducible refine Q_stt ?_ | ((with_reducible refine Q_bind (p54_says ?_ _ _ _) (fun _ _ _ => ?_)); assumption) | with_reducible refine Q_bv (fun _ => ?_))
theorem p54_pa33 {v : Int64} {F : Nat} : ∀ (n : Nat) (S : MS) (x1 : Int32) (x2 : Int32), ml S 54 = v → Q54 v (M_passIt_L33 F n S x1 x2)
  | 0, _, _, _, _ => Q_none
  | n + 1, S, x1, x2, h => by
    have ih := p54_pa33 (v := v) (F := F) n
    rw [M_passIt_L33]
    unfold M_passIt_B67
    repeat' (first | with_reducible exact Q_none | ((with_reducible refine Q_some ?_); assumption) | ((with_reducible refine ih _ _ _ ?_); assumption) | with_reducible refine Q_if ?_ ?_ | with_reducible refine Q_chk ?_ | with_reducible refine Q_stt ?_ | ((with_reducible refine Q_bind (p54_go ?_ _ _) (fun _ _ _ => ?_)); assumption) | with_reducible refine Q_bv (fun _ => ?_))
theorem p54_pa4 {v : Int64} {F : Nat} {x1 : Int32} : ∀ (n : Nat) (S : MS) (x2 : Int32), ml S 54 = v → Q54 v (M_passIt_L4 F x1 n S x2)
  | 0, _, _, _ => Q_none
  | n + 1, S, x2, h => by
    have ih := p54_pa4 (v := v) (F := F) (x1 := x1) n
    rw [M_passIt_L4]
    repeat' (first | with_reducible exact Q_none | ((with_reducible refine Q_some ?_); assumption) | ((with_reducible refine ih _ _ ?_); assumption) | ((with_reducible refine p54_pa33 _ _ _ _ ?_); assumption) | with_reducible refine Q_if ?_ ?_ | with_reducible refine Q_chk ?_ | with_reducible refine Q_stt ?_ | ((with_reducible refine Q_bind (p54_of ?_ _ _) (fun _ _ _ => ?_)); assumption) | with_reducible refine Q_bv (fun _ => ?_))
theorem p54_pass {v : Int64} {S : MS} (h : ml S 54 = v) (F : Nat) : Q54 v (M_passIt F S) := p54_pa4 F S 0 h
theorem ml_L (σ : MS) (k : Nat) (v : Int64) : ml (mL σ k v) k = v := pk_uLs
