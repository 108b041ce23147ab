/-- at the start -/
theorem s0_r {i : Nat} (h : i ≠ 4) (h2 : i ≠ 6) : ma σ0 3 i = 0 := by
  show upd (upd (fun _ => 0) 4 (-1 : Int32)) 6 (1 : Int32) i = 0
  rw [pk_un h2, pk_un h]
theorem s0_4 : ma σ0 3 4 = -1 := by
  show upd (upd (fun _ => 0) 4 (-1 : Int32)) 6 (1 : Int32) 4 = -1
  rw [pk_un (by decide), pk_us]
theorem s0_6 : ma σ0 3 6 = 1 := by
  show upd (upd (fun _ => 0) 4 (-1 : Int32)) 6 (1 : Int32) 6 = 1
  rw [pk_us]
theorem rel0 (E : Nat → ClassId) : Rel E S0 [] σ0 := by
  refine ⟨0, 0, 0, 0, ⟨⟨?_, ?_, ?_, ?_, ?_⟩, fun j hj => ?_, fun j hj => ?_, fun j hj => ?_, fun j hj => ?_⟩, ⟨⟨⟨by omega, by omega, s0_r (by decide) (by decide), s0_r (by decide) (by decide)⟩, fun j hj => by omega, fun j hj => by omega, ⟨0, by omega, s0_r (by decide) (by decide)⟩, ⟨1, by omega, s0_6⟩, ⟨0, by omega, s0_r (by decide) (by decide)⟩⟩, ⟨by omega, s0_r (by decide) (by decide), fun j hj => by omega⟩, ⟨by omega, s0_r (by decide) (by decide), Or.inl s0_4⟩, ⟨0, by omega, s0_r (by decide) (by decide)⟩⟩, ⟨fun w hw => by omega, fun w hw => rfl⟩, ⟨fun k hk => Or.inl ⟨rfl, rfl⟩, fun a b h _ => by cases h⟩, LG_0, ⟨0, by omega, rfl, rfl, fun j hj => ⟨rfl, 0, by omega, rfl⟩⟩, Or.inl ⟨rfl, rfl, rfl, rfl⟩, ?_, ⟨rfl, rfl, rfl, rfl, fun j hj => rfl⟩⟩
  · rw [s0_r (by decide) (by decide)]; rfl
  · rw [s0_r (by decide) (by decide)]; rfl
  · rw [s0_r (by decide) (by decide)]; rfl
  · rw [s0_r (by decide) (by decide)]; rfl
  · rw [s0_4]; rfl
  · rw [s0_r (by omega) (by omega), s0_r (by omega) (by omega), s0_r (by omega) (by omega), s0_r (by omega) (by omega), s0_r (by omega) (by omega)]
    exact ⟨rfl, rfl, rfl, rfl, rfl⟩
  · rw [s0_r (by omega) (by omega), s0_r (by omega) (by omega), s0_r (by omega) (by omega)]
    exact ⟨rfl, rfl, rfl⟩
  · rw [s0_r (by omega) (by omega)]; rfl
  · rcases (by omega : j = 0 ∨ j = 1 ∨ j = 2) with rfl | rfl | rfl
    · rw [s0_r (by omega) (by omega)]; rfl
    · rw [s0_6]; rfl
    · rw [s0_r (by omega) (by omega)]; rfl
  · exact ⟨rfl, ⟨rfl, rfl, rfl, rfl, rfl, rfl, rfl, rfl, rfl⟩, ⟨rfl, rfl, rfl, rfl, rfl, rfl, rfl⟩, ⟨rfl, rfl, rfl⟩, ⟨rfl, rfl, rfl, rfl⟩⟩
theorem agree {F : Nat} {E : Nat → ClassId} (hF : 100000000000 ≤ F) : Agree F E (Rel E) := ⟨pa_0, pa_1, pa_2, pa_3 (by omega), pa_4 (by omega), pa_5, pa_6 (by omega), pa_7, pa_8 (by omega), pa_9, pa_10 (by omega), pa_11 (by omega), pa_12, pa_13, pa_14, pa_15 (by omega), pa_16 (by omega), pa_17 (by omega), pa_18 (by omega), pa_19 (by omega), pa_20 (by omega), pa_21 (by omega), pa_22 (by omega), pa_23 (by omega), pa_24 (by omega), pa_25 (by omega), pa_26, pa_27, pa_28 (by omega), pa_29 (by omega), pa_30 (by omega), pa_31 (by omega), pa_32 (by omega), pa_33 (by omega), pa_34 (by omega), pa_35 (by omega), pa_36 (by omega), pa_37 (by omega), pa_38, pa_39 (by omega), pa_40 (by omega), pa_41 (by omega), pa_42⟩
