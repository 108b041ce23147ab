theorem ikJ_X10_11 : cJf "LostLanes" 11 yX7_init cX7_init 1 0 := ⟨wd1_33, List.mem_of_getElem? (i := 0) rfl, wd1_32, wd1_2, rfl, by decide +kernel⟩
theorem ikJ_X10_28 : cJf "LostLanes" 28 yX1_init cX1_init 1 0 := ⟨wd1_130, List.mem_of_getElem? (i := 1) rfl, wd1_129, wd1_3, rfl, by decide +kernel⟩
theorem ikJ_X10_38 : cJf "LostLanes" 38 yX3_init cX3_init 1 0 := ⟨wd1_147, List.mem_of_getElem? (i := 2) rfl, wd1_146, wd1_4, rfl, by decide +kernel⟩
theorem ikJ_X10_50 : cJf "LostLanes" 50 yX9_init cX9_init 1 0 := ⟨wd1_206, List.mem_of_getElem? (i := 4) rfl, wd1_205, wd1_6, rfl, by decide +kernel⟩
theorem ikJ_X10_62 : cJf "LostLanes" 62 yX8_init cX8_init 1 0 := ⟨wd2_2, List.mem_of_getElem? (i := 7) rfl, wd2_1, wd1_8, rfl, by decide +kernel⟩
theorem ikJ_X10_69 : cJf "LostLanes" 69 yX2_init cX2_init 1 0 := ⟨wd2_25, List.mem_of_getElem? (i := 8) rfl, wd2_24, wd1_9, rfl, by decide +kernel⟩
theorem ikJ_X3_11 : cJf "LostLanes$Reader" 11 yX6_init cX6_init 1 0 := ⟨wd1_153, List.mem_of_getElem? (i := 3) rfl, wd1_152, wd1_5, rfl, by decide +kernel⟩
theorem ikJ_X9_11 : cJf "LostLanes$Wits" 11 yX4_init cX4_init 1 0 := ⟨wd1_212, List.mem_of_getElem? (i := 5) rfl, wd1_211, wd1_7, rfl, by decide +kernel⟩
theorem ikJ_X9_20 : cJf "LostLanes$Wits" 20 yX7_init cX7_init 1 0 := ⟨wd1_33, List.mem_of_getElem? (i := 6) rfl, wd1_32, wd1_2, rfl, by decide +kernel⟩
def XC7 (E : Nat → ClassId) (h : Nat) (r : Nat → Nat) : va_W := ((h, .inr (7, [.ref (r 0), .ref (r 1), .ref (r 2), .ref (r 3), .ref (r 4), .int 0, .ref (r 5), .ref (r 6), .ref (r 7), .int 0, .ref (r 8), .int 0, .ref (r 9), .ref (r 10), .int 0, .int (-1 : Int32)])) :: (((r 0), .inl (E 0, 10, .inl (fun _ => 0))) :: (((r 1), .inl (E 0, 10, .inl (fun _ => 0))) :: (((r 2), .inl (E 0, 10, .inl (fun _ => 0))) :: (((r 3), .inl (E 0, 10, .inl (fun _ => 0))) :: (((r 4), .inl (E 0, 10, .inl (fun _ => 0))) :: (((r 5), .inl (E 0, 4, .inl (fun _ => 0))) :: (((r 6), .inl (E 0, 4, .inl (fun _ => 0))) :: (((r 7), .inl (E 0, 4, .inl (fun _ => 0))) :: (((r 8), .inl (E 0, 6, .inl (fun _ => 0))) :: (((r 9), .inl (E 0, 3, .inl (upd (upd (upd (fun _ => 0) 0 (0 : Int32)) 1 (1 : Int32)) 2 (0 : Int32)))) :: (((r 10), .inl (E 3, 6, .inr (.inr (.inr (.inr (fun _ => none)))))) :: []))))))))))))
def XC1 (E : Nat → ClassId) (h : Nat) (r : Nat → Nat) : va_W := ((h, .inr (1, [.ref (r 0), .ref (r 1), .int 0])) :: (((r 0), .inl (E 0, 320, .inl (fun _ => 0))) :: (((r 1), .inl (E 0, 20, .inl (fun _ => 0))) :: [])))
def XC6 (E : Nat → ClassId) (h : Nat) (r : Nat → Nat) : va_W := ((h, .inr (6, [.ref (r 0), .int 0])) :: (((r 0), .inl (E 0, 400, .inl (fun _ => 0))) :: []))
def XC3 (E : Nat → ClassId) (h : Nat) (r : Nat → Nat) : va_W := ((h, .inr (3, [.ref (r 0), .ref (r 2), .int 0, .int 0, .int 0, .int 0, .int 0, .int 0, .int 0, .int 0, .int (-1 : Int32)])) :: (XC6 E (r 0) (fun k => r (k + 1)) ++ (((r 2), .inl (E 0, 800, .inl (fun _ => 0))) :: [])))
def XC4 (E : Nat → ClassId) (h : Nat) (r : Nat → Nat) : va_W := ((h, .inr (4, [.ref (r 0)])) :: (((r 0), .inl (E 0, 52, .inl (fun _ => 0))) :: []))
def XC9 (E : Nat → ClassId) (h : Nat) (r : Nat → Nat) : va_W := ((h, .inr (9, [.ref (r 0), .ref (r 2), .ref (r 14), .ref (r 15), .ref (r 16)])) :: (XC4 E (r 0) (fun k => r (k + 1)) ++ (XC7 E (r 2) (fun k => r (k + 3)) ++ (((r 14), .inl (E 0, 9, .inl (fun _ => 0))) :: (((r 15), .inl (E 0, 10, .inl (fun _ => 0))) :: (((r 16), .inl (E 0, 61, .inl (fun _ => 0))) :: []))))))
def XC8 (E : Nat → ClassId) (h : Nat) (r : Nat → Nat) : va_W := ((h, .inr (8, [.ref (r 0), .ref (r 1), .ref (r 2), .ref (r 3), .ref (r 4)])) :: (((r 0), .inl (E 0, 64, .inl (fun _ => 0))) :: (((r 1), .inl (E 0, 64, .inl (fun _ => 0))) :: (((r 2), .inl (E 0, 8, .inl (fun _ => 0))) :: (((r 3), .inl (E 0, 256, .inl (fun _ => 0))) :: (((r 4), .inl (E 0, 8, .inl (fun _ => 0))) :: []))))))
def XC2 (E : Nat → ClassId) (h : Nat) (r : Nat → Nat) : va_W := ((h, .inr (2, [.ref (r 0), .ref (r 1), .ref (r 2), .int 0, .int 0, .int 0])) :: (((r 0), .inl (E 0, 10, .inl (fun _ => 0))) :: (((r 1), .inl (E 0, 8, .inl (fun _ => 0))) :: (((r 2), .inl (E 0, 8, .inl (fun _ => 0))) :: []))))
theorem ne_7 : ∀ j, j < 16 → defaultValue (tyX7 j) = vp_V [.null, .null, .null, .null, .null, .int 0, .null, .null, .null, .int 0, .null, .int 0, .null, .null, .int 0, .int 0] j := by
  intro j hj
  rcases (show j = 0 ∨ j = 1 ∨ j = 2 ∨ j = 3 ∨ j = 4 ∨ j = 5 ∨ j = 6 ∨ j = 7 ∨ j = 8 ∨ j = 9 ∨ j = 10 ∨ j = 11 ∨ j = 12 ∨ j = 13 ∨ j = 14 ∨ j = 15 by omega) with rfl | rfl | rfl | rfl | rfl | rfl | rfl | rfl | rfl | rfl | rfl | rfl | rfl | rfl | rfl | rfl <;> rfl
def ri_7 : Room := { frames := 1, cells := 11, slots := 77, locals := 20 }
set_option maxRecDepth 100000 in
set_option maxHeartbeats 4000000 in
theorem ci_7 (l : Launch) (dC : Nat → ClassId) (dI : Nat → Nat → Nat) (E : Nat → ClassId) (ev : Nat → Nat) (W0 : va_W) (h : Nat) : CK l dC dI E ev yX7_init cX7_init 1 ri_7 W0 h 7 [.null, .null, .null, .null, .null, .int 0, .null, .null, .null, .int 0, .null, .int 0, .null, .null, .int 0, .int 0] (XC7 E) 11 77 := by
  refine CK_of (own := "LostLanes$Town") (by decide) rfl (Nat.le_of_ble_eq_true rfl) ?_
  intro p e s m args below meth c A Q X Y hr hlk hin hret
  refine g_aload_n X dX7_init_0 0 rfl ?_
  refine g_objInit X wd1_34 wd1_27 wd1_28 ⟨Nat.le_of_ble_eq_true rfl, Nat.le_of_ble_eq_true rfl⟩ (Nat.le_of_ble_eq_true rfl) dX7_init_1 ?_
  refine g_aload_n X dX7_init_4 0 rfl ?_
  refine g_bipush X dX7_init_5 kb_10 ?_
  refine i_newa X (ty := .int) (atype := .int) (a0 := (10, .inl (fun _ => 0))) rfl 0 rfl (fun _ h => h) wd1_124 (ha_int 10) kx_10_65536 kt_10 (Nat.le_of_ble_eq_true rfl) ⟨Nat.le_of_ble_eq_true rfl, Nat.le_of_ble_eq_true rfl⟩ dX7_init_7 (fun q7 => ?_)
  refine g_eqL (L' := ((h, .inr (7, [.null, .null, .null, .null, .null, .int 0, .null, .null, .null, .int 0, .null, .int 0, .null, .null, .int 0, .int 0])) :: ((q7, .inl (E 0, 10, .inl (fun _ => 0))) :: []))) (by simp only [List.append_assoc, List.cons_append, List.nil_append, List.append_nil]) ?_
  refine i_putF X (j := 0) (cix := 7) (ty0 := tyX7) (v := .ref q7) (L' := ((h, .inr (7, [.ref q7, .null, .null, .null, .null, .int 0, .null, .null, .null, .int 0, .null, .int 0, .null, .null, .int 0, .int 0])) :: ((q7, .inl (E 0, 10, .inl (fun _ => 0))) :: []))) u_in7 tyX7_ok nmX7 rfl rfl 0 (by decide) wd1_37 rfl hin rfl rfl rfl (Nat.le_of_ble_eq_true rfl) dX7_init_9 rfl ?_
  refine g_aload_n X dX7_init_12 0 rfl ?_
  refine g_bipush X dX7_init_13 kb_10 ?_
  refine i_newa X (ty := .int) (atype := .int) (a0 := (10, .inl (fun _ => 0))) rfl 0 rfl (fun _ h => h) wd1_124 (ha_int 10) kx_10_65536 kt_10 (Nat.le_of_ble_eq_true rfl) ⟨Nat.le_of_ble_eq_true rfl, Nat.le_of_ble_eq_true rfl⟩ dX7_init_15 (fun q15 => ?_)
  refine g_eqL (L' := ((h, .inr (7, [.ref q7, .null, .null, .null, .null, .int 0, .null, .null, .null, .int 0, .null, .int 0, .null, .null, .int 0, .int 0])) :: ((q7, .inl (E 0, 10, .inl (fun _ => 0))) :: ((q15, .inl (E 0, 10, .inl (fun _ => 0))) :: [])))) (by simp only [List.append_assoc, List.cons_append, List.nil_append, List.append_nil]) ?_
  refine i_putF X (j := 0) (cix := 7) (ty0 := tyX7) (v := .ref q15) (L' := ((h, .inr (7, [.ref q7, .ref q15, .null, .null, .null, .int 0, .null, .null, .null, .int 0, .null, .int 0, .null, .null, .int 0, .int 0])) :: ((q7, .inl (E 0, 10, .inl (fun _ => 0))) :: ((q15, .inl (E 0, 10, .inl (fun _ => 0))) :: [])))) u_in7 tyX7_ok nmX7 rfl rfl 1 (by decide) wd1_41 rfl hin rfl rfl rfl (Nat.le_of_ble_eq_true rfl) dX7_init_17 rfl ?_
  refine g_aload_n X dX7_init_20 0 rfl ?_
  refine g_bipush X dX7_init_21 kb_10 ?_
  refine i_newa X (ty := .int) (atype := .int) (a0 := (10, .inl (fun _ => 0))) rfl 0 rfl (fun _ h => h) wd1_124 (ha_int 10) kx_10_65536 kt_10 (Nat.le_of_ble_eq_true rfl) ⟨Nat.le_of_ble_eq_true rfl, Nat.le_of_ble_eq_true rfl⟩ dX7_init_23 (fun q23 => ?_)
  refine g_eqL (L' := ((h, .inr (7, [.ref q7, .ref q15, .null, .null, .null, .int 0, .null, .null, .null, .int 0, .null, .int 0, .null, .null, .int 0, .int 0])) :: ((q7, .inl (E 0, 10, .inl (fun _ => 0))) :: ((q15, .inl (E 0, 10, .inl (fun _ => 0))) :: ((q23, .inl (E 0, 10, .inl (fun _ => 0))) :: []))))) (by simp only [List.append_assoc, List.cons_append, List.nil_append, List.append_nil]) ?_
  refine i_putF X (j := 0) (cix := 7) (ty0 := tyX7) (v := .ref q23) (L' := ((h, .inr (7, [.ref q7, .ref q15, .ref q23, .null, .null, .int 0, .null, .null, .null, .int 0, .null, .int 0, .null, .null, .int 0, .int 0])) :: ((q7, .inl (E 0, 10, .inl (fun _ => 0))) :: ((q15, .inl (E 0, 10, .inl (fun _ => 0))) :: ((q23, .inl (E 0, 10, .inl (fun _ => 0))) :: []))))) u_in7 tyX7_ok nmX7 rfl rfl 2 (by decide) wd1_45 rfl hin rfl rfl rfl (Nat.le_of_ble_eq_true rfl) dX7_init_25 rfl ?_
  refine g_aload_n X dX7_init_28 0 rfl ?_
  refine g_bipush X dX7_init_29 kb_10 ?_
  refine i_newa X (ty := .int) (atype := .int) (a0 := (10, .inl (fun _ => 0))) rfl 0 rfl (fun _ h => h) wd1_124 (ha_int 10) kx_10_65536 kt_10 (Nat.le_of_ble_eq_true rfl) ⟨Nat.le_of_ble_eq_true rfl, Nat.le_of_ble_eq_true rfl⟩ dX7_init_31 (fun q31 => ?_)
  refine g_eqL (L' := ((h, .inr (7, [.ref q7, .ref q15, .ref q23, .null, .null, .int 0, .null, .null, .null, .int 0, .null, .int 0, .null, .null, .int 0, .int 0])) :: ((q7, .inl (E 0, 10, .inl (fun _ => 0))) :: ((q15, .inl (E 0, 10, .inl (fun _ => 0))) :: ((q23, .inl (E 0, 10, .inl (fun _ => 0))) :: ((q31, .inl (E 0, 10, .inl (fun _ => 0))) :: [])))))) (by simp only [List.append_assoc, List.cons_append, List.nil_append, List.append_nil]) ?_
  refine i_putF X (j := 0) (cix := 7) (ty0 := tyX7) (v := .ref q31) (L' := ((h, .inr (7, [.ref q7, .ref q15, .ref q23, .ref q31, .null, .int 0, .null, .null, .null, .int 0, .null, .int 0, .null, .null, .int 0, .int 0])) :: ((q7, .inl (E 0, 10, .inl (fun _ => 0))) :: ((q15, .inl (E 0, 10, .inl (fun _ => 0))) :: ((q23, .inl (E 0, 10, .inl (fun _ => 0))) :: ((q31, .inl (E 0, 10, .inl (fun _ => 0))) :: [])))))) u_in7 tyX7_ok nmX7 rfl rfl 3 (by decide) wd1_49 rfl hin rfl rfl rfl (Nat.le_of_ble_eq_true rfl) dX7_init_33 rfl ?_
  refine g_aload_n X dX7_init_36 0 rfl ?_
  refine g_bipush X dX7_init_37 kb_10 ?_
  refine i_newa X (ty := .int) (atype := .int) (a0 := (10, .inl (fun _ => 0))) rfl 0 rfl (fun _ h => h) wd1_124 (ha_int 10) kx_10_65536 kt_10 (Nat.le_of_ble_eq_true rfl) ⟨Nat.le_of_ble_eq_true rfl, Nat.le_of_ble_eq_true rfl⟩ dX7_init_39 (fun q39 => ?_)
  refine g_eqL (L' := ((h, .inr (7, [.ref q7, .ref q15, .ref q23, .ref q31, .null, .int 0, .null, .null, .null, .int 0, .null, .int 0, .null, .null, .int 0, .int 0])) :: ((q7, .inl (E 0, 10, .inl (fun _ => 0))) :: ((q15, .inl (E 0, 10, .inl (fun _ => 0))) :: ((q23, .inl (E 0, 10, .inl (fun _ => 0))) :: ((q31, .inl (E 0, 10, .inl (fun _ => 0))) :: ((q39, .inl (E 0, 10, .inl (fun _ => 0))) :: []))))))) (by simp only [List.append_assoc, List.cons_append, List.nil_append, List.append_nil]) ?_
  refine i_putF X (j := 0) (cix := 7) (ty0 := tyX7) (v := .ref q39) (L' := ((h, .inr (7, [.ref q7, .ref q15, .ref q23, .ref q31, .ref q39, .int 0, .null, .null, .null, .int 0, .null, .int 0, .null, .null, .int 0, .int 0])) :: ((q7, .inl (E 0, 10, .inl (fun _ => 0))) :: ((q15, .inl (E 0, 10, .inl (fun _ => 0))) :: ((q23, .inl (E 0, 10, .inl (fun _ => 0))) :: ((q31, .inl (E 0, 10, .inl (fun _ => 0))) :: ((q39, .inl (E 0, 10, .inl (fun _ => 0))) :: []))))))) u_in7 tyX7_ok nmX7 rfl rfl 4 (by decide) wd1_52 rfl hin rfl rfl rfl (Nat.le_of_ble_eq_true rfl) dX7_init_41 rfl ?_
  refine g_aload_n X dX7_init_44 0 rfl ?_
  refine g_iconst X dX7_init_45 kc_4 ?_
  refine i_newa X (ty := .int) (atype := .int) (a0 := (4, .inl (fun _ => 0))) rfl 0 rfl (fun _ h => h) wd1_124 (ha_int 4) kx_4_65536 kt_4 (Nat.le_of_ble_eq_true rfl) ⟨Nat.le_of_ble_eq_true rfl, Nat.le_of_ble_eq_true rfl⟩ dX7_init_46 (fun q46 => ?_)
  refine g_eqL (L' := ((h, .inr (7, [.ref q7, .ref q15, .ref q23, .ref q31, .ref q39, .int 0, .null, .null, .null, .int 0, .null, .int 0, .null, .null, .int 0, .int 0])) :: ((q7, .inl (E 0, 10, .inl (fun _ => 0))) :: ((q15, .inl (E 0, 10, .inl (fun _ => 0))) :: ((q23, .inl (E 0, 10, .inl (fun _ => 0))) :: ((q31, .inl (E 0, 10, .inl (fun _ => 0))) :: ((q39, .inl (E 0, 10, .inl (fun _ => 0))) :: ((q46, .inl (E 0, 4, .inl (fun _ => 0))) :: [])))))))) (by simp only [List.append_assoc, List.cons_append, List.nil_append, List.append_nil]) ?_
  refine i_putF X (j := 0) (cix := 7) (ty0 := tyX7) (v := .ref q46) (L' := ((h, .inr (7, [.ref q7, .ref q15, .ref q23, .ref q31, .ref q39, .int 0, .ref q46, .null, .null, .int 0, .null, .int 0, .null, .null, .int 0, .int 0])) :: ((q7, .inl (E 0, 10, .inl (fun _ => 0))) :: ((q15, .inl (E 0, 10, .inl (fun _ => 0))) :: ((q23, .inl (E 0, 10, .inl (fun _ => 0))) :: ((q31, .inl (E 0, 10, .inl (fun _ => 0))) :: ((q39, .inl (E 0, 10, .inl (fun _ => 0))) :: ((q46, .inl (E 0, 4, .inl (fun _ => 0))) :: [])))))))) u_in7 tyX7_ok nmX7 rfl rfl 6 (by decide) wd1_62 rfl hin rfl rfl rfl (Nat.le_of_ble_eq_true rfl) dX7_init_48 rfl ?_
  refine g_aload_n X dX7_init_51 0 rfl ?_
  refine g_iconst X dX7_init_52 kc_4 ?_
  refine i_newa X (ty := .int) (atype := .int) (a0 := (4, .inl (fun _ => 0))) rfl 0 rfl (fun _ h => h) wd1_124 (ha_int 4) kx_4_65536 kt_4 (Nat.le_of_ble_eq_true rfl) ⟨Nat.le_of_ble_eq_true rfl, Nat.le_of_ble_eq_true rfl⟩ dX7_init_53 (fun q53 => ?_)
  refine g_eqL (L' := ((h, .inr (7, [.ref q7, .ref q15, .ref q23, .ref q31, .ref q39, .int 0, .ref q46, .null, .null, .int 0, .null, .int 0, .null, .null, .int 0, .int 0])) :: ((q7, .inl (E 0, 10, .inl (fun _ => 0))) :: ((q15, .inl (E 0, 10, .inl (fun _ => 0))) :: ((q23, .inl (E 0, 10, .inl (fun _ => 0))) :: ((q31, .inl (E 0, 10, .inl (fun _ => 0))) :: ((q39, .inl (E 0, 10, .inl (fun _ => 0))) :: ((q46, .inl (E 0, 4, .inl (fun _ => 0))) :: ((q53, .inl (E 0, 4, .inl (fun _ => 0))) :: []))))))))) (by simp only [List.append_assoc, List.cons_append, List.nil_append, List.append_nil]) ?_
  refine i_putF X (j := 0) (cix := 7) (ty0 := tyX7) (v := .ref q53) (L' := ((h, .inr (7, [.ref q7, .ref q15, .ref q23, .ref q31, .ref q39, .int 0, .ref q46, .ref q53, .null, .int 0, .null, .int 0, .null, .null, .int 0, .int 0])) :: ((q7, .inl (E 0, 10, .inl (fun _ => 0))) :: ((q15, .inl (E 0, 10, .inl (fun _ => 0))) :: ((q23, .inl (E 0, 10, .inl (fun _ => 0))) :: ((q31, .inl (E 0, 10, .inl (fun _ => 0))) :: ((q39, .inl (E 0, 10, .inl (fun _ => 0))) :: ((q46, .inl (E 0, 4, .inl (fun _ => 0))) :: ((q53, .inl (E 0, 4, .inl (fun _ => 0))) :: []))))))))) u_in7 tyX7_ok nmX7 rfl rfl 7 (by decide) wd1_65 rfl hin rfl rfl rfl (Nat.le_of_ble_eq_true rfl) dX7_init_55 rfl ?_
  refine g_aload_n X dX7_init_58 0 rfl ?_
  refine g_iconst X dX7_init_59 kc_4 ?_
  refine i_newa X (ty := .int) (atype := .int) (a0 := (4, .inl (fun _ => 0))) rfl 0 rfl (fun _ h => h) wd1_124 (ha_int 4) kx_4_65536 kt_4 (Nat.le_of_ble_eq_true rfl) ⟨Nat.le_of_ble_eq_true rfl, Nat.le_of_ble_eq_true rfl⟩ dX7_init_60 (fun q60 => ?_)
  refine g_eqL (L' := ((h, .inr (7, [.ref q7, .ref q15, .ref q23, .ref q31, .ref q39, .int 0, .ref q46, .ref q53, .null, .int 0, .null, .int 0, .null, .null, .int 0, .int 0])) :: ((q7, .inl (E 0, 10, .inl (fun _ => 0))) :: ((q15, .inl (E 0, 10, .inl (fun _ => 0))) :: ((q23, .inl (E 0, 10, .inl (fun _ => 0))) :: ((q31, .inl (E 0, 10, .inl (fun _ => 0))) :: ((q39, .inl (E 0, 10, .inl (fun _ => 0))) :: ((q46, .inl (E 0, 4, .inl (fun _ => 0))) :: ((q53, .inl (E 0, 4, .inl (fun _ => 0))) :: ((q60, .inl (E 0, 4, .inl (fun _ => 0))) :: [])))))))))) (by simp only [List.append_assoc, List.cons_append, List.nil_append, List.append_nil]) ?_
  refine i_putF X (j := 0) (cix := 7) (ty0 := tyX7) (v := .ref q60) (L' := ((h, .inr (7, [.ref q7, .ref q15, .ref q23, .ref q31, .ref q39, .int 0, .ref q46, .ref q53, .ref q60, .int 0, .null, .int 0, .null, .null, .int 0, .int 0])) :: ((q7, .inl (E 0, 10, .inl (fun _ => 0))) :: ((q15, .inl (E 0, 10, .inl (fun _ => 0))) :: ((q23, .inl (E 0, 10, .inl (fun _ => 0))) :: ((q31, .inl (E 0, 10, .inl (fun _ => 0))) :: ((q39, .inl (E 0, 10, .inl (fun _ => 0))) :: ((q46, .inl (E 0, 4, .inl (fun _ => 0))) :: ((q53, .inl (E 0, 4, .inl (fun _ => 0))) :: ((q60, .inl (E 0, 4, .inl (fun _ => 0))) :: [])))))))))) u_in7 tyX7_ok nmX7 rfl rfl 8 (by decide) wd1_69 rfl hin rfl rfl rfl (Nat.le_of_ble_eq_true rfl) dX7_init_62 rfl ?_
  refine g_aload_n X dX7_init_65 0 rfl ?_
  refine g_bipush X dX7_init_66 kb_6 ?_
  refine i_newa X (ty := .int) (atype := .int) (a0 := (6, .inl (fun _ => 0))) rfl 0 rfl (fun _ h => h) wd1_124 (ha_int 6) kx_6_65536 kt_6 (Nat.le_of_ble_eq_true rfl) ⟨Nat.le_of_ble_eq_true rfl, Nat.le_of_ble_eq_true rfl⟩ dX7_init_68 (fun q68 => ?_)
  refine g_eqL (L' := ((h, .inr (7, [.ref q7, .ref q15, .ref q23, .ref q31, .ref q39, .int 0, .ref q46, .ref q53, .ref q60, .int 0, .null, .int 0, .null, .null, .int 0, .int 0])) :: ((q7, .inl (E 0, 10, .inl (fun _ => 0))) :: ((q15, .inl (E 0, 10, .inl (fun _ => 0))) :: ((q23, .inl (E 0, 10, .inl (fun _ => 0))) :: ((q31, .inl (E 0, 10, .inl (fun _ => 0))) :: ((q39, .inl (E 0, 10, .inl (fun _ => 0))) :: ((q46, .inl (E 0, 4, .inl (fun _ => 0))) :: ((q53, .inl (E 0, 4, .inl (fun _ => 0))) :: ((q60, .inl (E 0, 4, .inl (fun _ => 0))) :: ((q68, .inl (E 0, 6, .inl (fun _ => 0))) :: []))))))))))) (by simp only [List.append_assoc, List.cons_append, List.nil_append, List.append_nil]) ?_
  refine i_putF X (j := 0) (cix := 7) (ty0 := tyX7) (v := .ref q68) (L' := ((h, .inr (7, [.ref q7, .ref q15, .ref q23, .ref q31, .ref q39, .int 0, .ref q46, .ref q53, .ref q60, .int 0, .ref q68, .int 0, .null, .null, .int 0, .int 0])) :: ((q7, .inl (E 0, 10, .inl (fun _ => 0))) :: ((q15, .inl (E 0, 10, .inl (fun _ => 0))) :: ((q23, .inl (E 0, 10, .inl (fun _ => 0))) :: ((q31, .inl (E 0, 10, .inl (fun _ => 0))) :: ((q39, .inl (E 0, 10, .inl (fun _ => 0))) :: ((q46, .inl (E 0, 4, .inl (fun _ => 0))) :: ((q53, .inl (E 0, 4, .inl (fun _ => 0))) :: ((q60, .inl (E 0, 4, .inl (fun _ => 0))) :: ((q68, .inl (E 0, 6, .inl (fun _ => 0))) :: []))))))))))) u_in7 tyX7_ok nmX7 rfl rfl 10 (by decide) wd1_75 rfl hin rfl rfl rfl (Nat.le_of_ble_eq_true rfl) dX7_init_70 rfl ?_
  refine g_aload_n X dX7_init_73 0 rfl ?_
  refine g_iconst X dX7_init_74 kc_3 ?_
  refine i_newa X (ty := .int) (atype := .int) (a0 := (3, .inl (fun _ => 0))) rfl 0 rfl (fun _ h => h) wd1_124 (ha_int 3) kx_3_65536 kt_3 (Nat.le_of_ble_eq_true rfl) ⟨Nat.le_of_ble_eq_true rfl, Nat.le_of_ble_eq_true rfl⟩ dX7_init_75 (fun q75 => ?_)
  refine g_eqL (L' := ((h, .inr (7, [.ref q7, .ref q15, .ref q23, .ref q31, .ref q39, .int 0, .ref q46, .ref q53, .ref q60, .int 0, .ref q68, .int 0, .null, .null, .int 0, .int 0])) :: ((q7, .inl (E 0, 10, .inl (fun _ => 0))) :: ((q15, .inl (E 0, 10, .inl (fun _ => 0))) :: ((q23, .inl (E 0, 10, .inl (fun _ => 0))) :: ((q31, .inl (E 0, 10, .inl (fun _ => 0))) :: ((q39, .inl (E 0, 10, .inl (fun _ => 0))) :: ((q46, .inl (E 0, 4, .inl (fun _ => 0))) :: ((q53, .inl (E 0, 4, .inl (fun _ => 0))) :: ((q60, .inl (E 0, 4, .inl (fun _ => 0))) :: ((q68, .inl (E 0, 6, .inl (fun _ => 0))) :: ((q75, .inl (E 0, 3, .inl (fun _ => 0))) :: [])))))))))))) (by simp only [List.append_assoc, List.cons_append, List.nil_append, List.append_nil]) ?_
  refine g_dup X dX7_init_77 rfl ?_
  refine g_iconst X dX7_init_78 kc_0 ?_
  refine g_iconst X dX7_init_79 kc_0 ?_
  refine i_ast X (j := 10) (L' := ((h, .inr (7, [.ref q7, .ref q15, .ref q23, .ref q31, .ref q39, .int 0, .ref q46, .ref q53, .ref q60, .int 0, .ref q68, .int 0, .null, .null, .int 0, .int 0])) :: ((q7, .inl (E 0, 10, .inl (fun _ => 0))) :: ((q15, .inl (E 0, 10, .inl (fun _ => 0))) :: ((q23, .inl (E 0, 10, .inl (fun _ => 0))) :: ((q31, .inl (E 0, 10, .inl (fun _ => 0))) :: ((q39, .inl (E 0, 10, .inl (fun _ => 0))) :: ((q46, .inl (E 0, 4, .inl (fun _ => 0))) :: ((q53, .inl (E 0, 4, .inl (fun _ => 0))) :: ((q60, .inl (E 0, 4, .inl (fun _ => 0))) :: ((q68, .inl (E 0, 6, .inl (fun _ => 0))) :: ((q75, .inl (E 0, 3, .inl (upd (fun _ => 0) 0 (0 : Int32)))) :: [])))))))))))) rfl kt_0 kx_0_3 dX7_init_80 rfl ?_
  refine g_dup X dX7_init_81 rfl ?_
  refine g_iconst X dX7_init_82 kc_1 ?_
  refine g_iconst X dX7_init_83 kc_1 ?_
  refine i_ast X (j := 10) (L' := ((h, .inr (7, [.ref q7, .ref q15, .ref q23, .ref q31, .ref q39, .int 0, .ref q46, .ref q53, .ref q60, .int 0, .ref q68, .int 0, .null, .null, .int 0, .int 0])) :: ((q7, .inl (E 0, 10, .inl (fun _ => 0))) :: ((q15, .inl (E 0, 10, .inl (fun _ => 0))) :: ((q23, .inl (E 0, 10, .inl (fun _ => 0))) :: ((q31, .inl (E 0, 10, .inl (fun _ => 0))) :: ((q39, .inl (E 0, 10, .inl (fun _ => 0))) :: ((q46, .inl (E 0, 4, .inl (fun _ => 0))) :: ((q53, .inl (E 0, 4, .inl (fun _ => 0))) :: ((q60, .inl (E 0, 4, .inl (fun _ => 0))) :: ((q68, .inl (E 0, 6, .inl (fun _ => 0))) :: ((q75, .inl (E 0, 3, .inl (upd (upd (fun _ => 0) 0 (0 : Int32)) 1 (1 : Int32)))) :: [])))))))))))) rfl kt_1 kx_1_3 dX7_init_84 rfl ?_
  refine g_dup X dX7_init_85 rfl ?_
  refine g_iconst X dX7_init_86 kc_2 ?_
  refine g_iconst X dX7_init_87 kc_0 ?_
  refine i_ast X (j := 10) (L' := ((h, .inr (7, [.ref q7, .ref q15, .ref q23, .ref q31, .ref q39, .int 0, .ref q46, .ref q53, .ref q60, .int 0, .ref q68, .int 0, .null, .null, .int 0, .int 0])) :: ((q7, .inl (E 0, 10, .inl (fun _ => 0))) :: ((q15, .inl (E 0, 10, .inl (fun _ => 0))) :: ((q23, .inl (E 0, 10, .inl (fun _ => 0))) :: ((q31, .inl (E 0, 10, .inl (fun _ => 0))) :: ((q39, .inl (E 0, 10, .inl (fun _ => 0))) :: ((q46, .inl (E 0, 4, .inl (fun _ => 0))) :: ((q53, .inl (E 0, 4, .inl (fun _ => 0))) :: ((q60, .inl (E 0, 4, .inl (fun _ => 0))) :: ((q68, .inl (E 0, 6, .inl (fun _ => 0))) :: ((q75, .inl (E 0, 3, .inl (upd (upd (upd (fun _ => 0) 0 (0 : Int32)) 1 (1 : Int32)) 2 (0 : Int32)))) :: [])))))))))))) rfl kt_2 kx_2_3 dX7_init_88 rfl ?_
  refine i_putF X (j := 0) (cix := 7) (ty0 := tyX7) (v := .ref q75) (L' := ((h, .inr (7, [.ref q7, .ref q15, .ref q23, .ref q31, .ref q39, .int 0, .ref q46, .ref q53, .ref q60, .int 0, .ref q68, .int 0, .ref q75, .null, .int 0, .int 0])) :: ((q7, .inl (E 0, 10, .inl (fun _ => 0))) :: ((q15, .inl (E 0, 10, .inl (fun _ => 0))) :: ((q23, .inl (E 0, 10, .inl (fun _ => 0))) :: ((q31, .inl (E 0, 10, .inl (fun _ => 0))) :: ((q39, .inl (E 0, 10, .inl (fun _ => 0))) :: ((q46, .inl (E 0, 4, .inl (fun _ => 0))) :: ((q53, .inl (E 0, 4, .inl (fun _ => 0))) :: ((q60, .inl (E 0, 4, .inl (fun _ => 0))) :: ((q68, .inl (E 0, 6, .inl (fun _ => 0))) :: ((q75, .inl (E 0, 3, .inl (upd (upd (upd (fun _ => 0) 0 (0 : Int32)) 1 (1 : Int32)) 2 (0 : Int32)))) :: [])))))))))))) u_in7 tyX7_ok nmX7 rfl rfl 12 (by decide) wd1_81 rfl hin rfl rfl rfl (Nat.le_of_ble_eq_true rfl) dX7_init_89 rfl ?_
  refine g_aload_n X dX7_init_92 0 rfl ?_
  refine g_bipush X dX7_init_93 kb_6 ?_
  refine i_newq X 3 rfl Y.2.2.2.2.2.2.2.1 wd1_35 kx_6_65536 kt_6 (Nat.le_of_ble_eq_true rfl) ⟨Nat.le_of_ble_eq_true rfl, Nat.le_of_ble_eq_true rfl⟩ dX7_init_95 (fun q95 => ?_)
  refine g_eqL (L' := ((h, .inr (7, [.ref q7, .ref q15, .ref q23, .ref q31, .ref q39, .int 0, .ref q46, .ref q53, .ref q60, .int 0, .ref q68, .int 0, .ref q75, .null, .int 0, .int 0])) :: ((q7, .inl (E 0, 10, .inl (fun _ => 0))) :: ((q15, .inl (E 0, 10, .inl (fun _ => 0))) :: ((q23, .inl (E 0, 10, .inl (fun _ => 0))) :: ((q31, .inl (E 0, 10, .inl (fun _ => 0))) :: ((q39, .inl (E 0, 10, .inl (fun _ => 0))) :: ((q46, .inl (E 0, 4, .inl (fun _ => 0))) :: ((q53, .inl (E 0, 4, .inl (fun _ => 0))) :: ((q60, .inl (E 0, 4, .inl (fun _ => 0))) :: ((q68, .inl (E 0, 6, .inl (fun _ => 0))) :: ((q75, .inl (E 0, 3, .inl (upd (upd (upd (fun _ => 0) 0 (0 : Int32)) 1 (1 : Int32)) 2 (0 : Int32)))) :: ((q95, .inl (E 3, 6, .inr (.inr (.inr (.inr (fun _ => none)))))) :: []))))))))))))) (by simp only [List.append_assoc, List.cons_append, List.nil_append, List.append_nil]) ?_
  refine i_putF X (j := 0) (cix := 7) (ty0 := tyX7) (v := .ref q95) (L' := ((h, .inr (7, [.ref q7, .ref q15, .ref q23, .ref q31, .ref q39, .int 0, .ref q46, .ref q53, .ref q60, .int 0, .ref q68, .int 0, .ref q75, .ref q95, .int 0, .int 0])) :: ((q7, .inl (E 0, 10, .inl (fun _ => 0))) :: ((q15, .inl (E 0, 10, .inl (fun _ => 0))) :: ((q23, .inl (E 0, 10, .inl (fun _ => 0))) :: ((q31, .inl (E 0, 10, .inl (fun _ => 0))) :: ((q39, .inl (E 0, 10, .inl (fun _ => 0))) :: ((q46, .inl (E 0, 4, .inl (fun _ => 0))) :: ((q53, .inl (E 0, 4, .inl (fun _ => 0))) :: ((q60, .inl (E 0, 4, .inl (fun _ => 0))) :: ((q68, .inl (E 0, 6, .inl (fun _ => 0))) :: ((q75, .inl (E 0, 3, .inl (upd (upd (upd (fun _ => 0) 0 (0 : Int32)) 1 (1 : Int32)) 2 (0 : Int32)))) :: ((q95, .inl (E 3, 6, .inr (.inr (.inr (.inr (fun _ => none)))))) :: []))))))))))))) u_in7 tyX7_ok nmX7 rfl rfl 13 (by decide) wd1_85 rfl hin rfl rfl rfl (Nat.le_of_ble_eq_true rfl) dX7_init_98 rfl ?_
  refine g_aload_n X dX7_init_101 0 rfl ?_
  refine g_iconst X dX7_init_102 kc_m1 ?_
  refine i_put X (j := 0) (cix := 7) (ty0 := tyX7) (v := .int (-1 : Int32)) (L' := ((h, .inr (7, [.ref q7, .ref q15, .ref q23, .ref q31, .ref q39, .int 0, .ref q46, .ref q53, .ref q60, .int 0, .ref q68, .int 0, .ref q75, .ref q95, .int 0, .int (-1 : Int32)])) :: ((q7, .inl (E 0, 10, .inl (fun _ => 0))) :: ((q15, .inl (E 0, 10, .inl (fun _ => 0))) :: ((q23, .inl (E 0, 10, .inl (fun _ => 0))) :: ((q31, .inl (E 0, 10, .inl (fun _ => 0))) :: ((q39, .inl (E 0, 10, .inl (fun _ => 0))) :: ((q46, .inl (E 0, 4, .inl (fun _ => 0))) :: ((q53, .inl (E 0, 4, .inl (fun _ => 0))) :: ((q60, .inl (E 0, 4, .inl (fun _ => 0))) :: ((q68, .inl (E 0, 6, .inl (fun _ => 0))) :: ((q75, .inl (E 0, 3, .inl (upd (upd (upd (fun _ => 0) 0 (0 : Int32)) 1 (1 : Int32)) 2 (0 : Int32)))) :: ((q95, .inl (E 3, 6, .inr (.inr (.inr (.inr (fun _ => none)))))) :: []))))))))))))) u_in7 tyX7_ok nmX7 rfl rfl 15 (by decide) wd1_89 rfl rfl rfl (Nat.le_of_ble_eq_true rfl) dX7_init_103 rfl ?_
  exact hret (fun k => if k < 1 then q7 else if k < 2 then q15 else if k < 3 then q23 else if k < 4 then q31 else if k < 5 then q39 else if k < 6 then q46 else if k < 7 then q53 else if k < 8 then q60 else if k < 9 then q68 else if k < 10 then q75 else if k < 11 then q95 else 0) _ 106 11 77 _ dX7_init_106 ⟨Nat.le_of_ble_eq_true rfl, Nat.le_of_ble_eq_true rfl⟩ rfl
theorem ne_1 : ∀ j, j < 3 → defaultValue (tyX1 j) = vp_V [.null, .null, .int 0] j := by
  intro j hj
  rcases (show j = 0 ∨ j = 1 ∨ j = 2 by omega) with rfl | rfl | rfl <;> rfl
def ri_1 : Room := { frames := 1, cells := 2, slots := 340, locals := 20 }
set_option maxRecDepth 100000 in
set_option maxHeartbeats 4000000 in
theorem ci_1 (l : Launch) (dC : Nat → ClassId) (dI : Nat → Nat → Nat) (E : Nat → ClassId) (ev : Nat → Nat) (W0 : va_W) (h : Nat) : CK l dC dI E ev yX1_init cX1_init 1 ri_1 W0 h 1 [.null, .null, .int 0] (XC1 E) 2 340 := by
  refine CK_of (own := "LostLanes$Log") (by decide) rfl (Nat.le_of_ble_eq_true rfl) ?_
  intro p e s m args below meth c A Q X Y hr hlk hin hret
  refine g_aload_n X dX1_init_0 0 rfl ?_
  refine g_objInit X wd1_131 wd1_27 wd1_28 ⟨Nat.le_of_ble_eq_true rfl, Nat.le_of_ble_eq_true rfl⟩ (Nat.le_of_ble_eq_true rfl) dX1_init_1 ?_
  refine g_aload_n X dX1_init_4 0 rfl ?_
  refine g_sipush X dX1_init_5 ks_320 ?_
  refine i_newa X (ty := .int) (atype := .int) (a0 := (320, .inl (fun _ => 0))) rfl 0 rfl (fun _ h => h) wd1_124 (ha_int 320) kx_320_65536 kt_320 (Nat.le_of_ble_eq_true rfl) ⟨Nat.le_of_ble_eq_true rfl, Nat.le_of_ble_eq_true rfl⟩ dX1_init_8 (fun q8 => ?_)
  refine g_eqL (L' := ((h, .inr (1, [.null, .null, .int 0])) :: ((q8, .inl (E 0, 320, .inl (fun _ => 0))) :: []))) (by simp only [List.append_assoc, List.cons_append, List.nil_append, List.append_nil]) ?_
  refine i_putF X (j := 0) (cix := 1) (ty0 := tyX1) (v := .ref q8) (L' := ((h, .inr (1, [.ref q8, .null, .int 0])) :: ((q8, .inl (E 0, 320, .inl (fun _ => 0))) :: []))) u_in1 tyX1_ok nmX1 rfl rfl 0 (by decide) wd1_132 rfl hin rfl rfl rfl (Nat.le_of_ble_eq_true rfl) dX1_init_10 rfl ?_
  refine g_aload_n X dX1_init_13 0 rfl ?_
  refine g_bipush X dX1_init_14 kb_20 ?_
  refine i_newa X (ty := .int) (atype := .int) (a0 := (20, .inl (fun _ => 0))) rfl 0 rfl (fun _ h => h) wd1_124 (ha_int 20) kx_20_65536 kt_20 (Nat.le_of_ble_eq_true rfl) ⟨Nat.le_of_ble_eq_true rfl, Nat.le_of_ble_eq_true rfl⟩ dX1_init_16 (fun q16 => ?_)
  refine g_eqL (L' := ((h, .inr (1, [.ref q8, .null, .int 0])) :: ((q8, .inl (E 0, 320, .inl (fun _ => 0))) :: ((q16, .inl (E 0, 20, .inl (fun _ => 0))) :: [])))) (by simp only [List.append_assoc, List.cons_append, List.nil_append, List.append_nil]) ?_
  refine i_putF X (j := 0) (cix := 1) (ty0 := tyX1) (v := .ref q16) (L' := ((h, .inr (1, [.ref q8, .ref q16, .int 0])) :: ((q8, .inl (E 0, 320, .inl (fun _ => 0))) :: ((q16, .inl (E 0, 20, .inl (fun _ => 0))) :: [])))) u_in1 tyX1_ok nmX1 rfl rfl 1 (by decide) wd1_133 rfl hin rfl rfl rfl (Nat.le_of_ble_eq_true rfl) dX1_init_18 rfl ?_
  exact hret (fun k => if k < 1 then q8 else if k < 2 then q16 else 0) _ 21 2 340 _ dX1_init_21 ⟨Nat.le_of_ble_eq_true rfl, Nat.le_of_ble_eq_true rfl⟩ rfl
theorem ne_6 : ∀ j, j < 2 → defaultValue (tyX6 j) = vp_V [.null, .int 0] j := by
  intro j hj
  rcases (show j = 0 ∨ j = 1 by omega) with rfl | rfl <;> rfl
def ri_6 : Room := { frames := 1, cells := 1, slots := 400, locals := 20 }
set_option maxRecDepth 100000 in
set_option maxHeartbeats 4000000 in
theorem ci_6 (l : Launch) (dC : Nat → ClassId) (dI : Nat → Nat → Nat) (E : Nat → ClassId) (ev : Nat → Nat) (W0 : va_W) (h : Nat) : CK l dC dI E ev yX6_init cX6_init 1 ri_6 W0 h 6 [.null, .int 0] (XC6 E) 1 400 := by
  refine CK_of (own := "LostLanes$Tape") (by decide) rfl (Nat.le_of_ble_eq_true rfl) ?_
  intro p e s m args below meth c A Q X Y hr hlk hin hret
  refine g_aload_n X dX6_init_0 0 rfl ?_
  refine g_objInit X wd1_154 wd1_27 wd1_28 ⟨Nat.le_of_ble_eq_true rfl, Nat.le_of_ble_eq_true rfl⟩ (Nat.le_of_ble_eq_true rfl) dX6_init_1 ?_
  refine g_aload_n X dX6_init_4 0 rfl ?_
  refine g_sipush X dX6_init_5 ks_400 ?_
  refine i_newa X (ty := .int) (atype := .int) (a0 := (400, .inl (fun _ => 0))) rfl 0 rfl (fun _ h => h) wd1_124 (ha_int 400) kx_400_65536 kt_400 (Nat.le_of_ble_eq_true rfl) ⟨Nat.le_of_ble_eq_true rfl, Nat.le_of_ble_eq_true rfl⟩ dX6_init_8 (fun q8 => ?_)
  refine g_eqL (L' := ((h, .inr (6, [.null, .int 0])) :: ((q8, .inl (E 0, 400, .inl (fun _ => 0))) :: []))) (by simp only [List.append_assoc, List.cons_append, List.nil_append, List.append_nil]) ?_
  refine i_putF X (j := 0) (cix := 6) (ty0 := tyX6) (v := .ref q8) (L' := ((h, .inr (6, [.ref q8, .int 0])) :: ((q8, .inl (E 0, 400, .inl (fun _ => 0))) :: []))) u_in6 tyX6_ok nmX6 rfl rfl 0 (by decide) wd1_155 rfl hin rfl rfl rfl (Nat.le_of_ble_eq_true rfl) dX6_init_10 rfl ?_
  exact hret (fun k => if k < 1 then q8 else 0) _ 13 1 400 _ dX6_init_13 ⟨Nat.le_of_ble_eq_true rfl, Nat.le_of_ble_eq_true rfl⟩ rfl
theorem ne_3 : ∀ j, j < 11 → defaultValue (tyX3 j) = vp_V [.null, .null, .int 0, .int 0, .int 0, .int 0, .int 0, .int 0, .int 0, .int 0, .int 0] j := by
  intro j hj
  rcases (show j = 0 ∨ j = 1 ∨ j = 2 ∨ j = 3 ∨ j = 4 ∨ j = 5 ∨ j = 6 ∨ j = 7 ∨ j = 8 ∨ j = 9 ∨ j = 10 by omega) with rfl | rfl | rfl | rfl | rfl | rfl | rfl | rfl | rfl | rfl | rfl <;> rfl
def ri_3 : Room := { frames := 2, cells := 3, slots := 1202, locals := 40 }
set_option maxRecDepth 100000 in
set_option maxHeartbeats 4000000 in
theorem ci_3 (l : Launch) (dC : Nat → ClassId) (dI : Nat → Nat → Nat) (E : Nat → ClassId) (ev : Nat → Nat) (W0 : va_W) (h : Nat) : CK l dC dI E ev yX3_init cX3_init 1 ri_3 W0 h 3 [.null, .null, .int 0, .int 0, .int 0, .int 0, .int 0, .int 0, .int 0, .int 0, .int 0] (XC3 E) 3 1202 := by
  refine CK_of (own := "LostLanes$Reader") (by decide) rfl (Nat.le_of_ble_eq_true rfl) ?_
  intro p e s m args below meth c A Q X Y hr hlk hin hret
  refine g_aload_n X dX3_init_0 0 rfl ?_
  refine g_objInit X wd1_148 wd1_27 wd1_28 ⟨Nat.le_of_ble_eq_true rfl, Nat.le_of_ble_eq_true rfl⟩ (Nat.le_of_ble_eq_true rfl) dX3_init_1 ?_
  refine g_aload_n X dX3_init_4 0 rfl ?_
  refine i_new X (cix := 6) (ty := tyX6) (fs := [.null, .int 0]) u_in6 tyX6_ok wd1_149 wd1_150 wd1_5 rfl ne_6 ⟨Nat.le_of_ble_eq_true rfl, Nat.le_of_ble_eq_true rfl⟩ dX3_init_5 (fun q5 => ?_)
  refine g_eqL (L' := ((h, .inr (3, [.null, .null, .int 0, .int 0, .int 0, .int 0, .int 0, .int 0, .int 0, .int 0, .int 0])) :: ((q5, .inr (6, [.null, .int 0])) :: []))) (by simp only [List.append_assoc, List.cons_append, List.nil_append, List.append_nil]) ?_
  refine g_dup X dX3_init_8 rfl ?_
  refine i_call (L0 := ((h, .inr (3, [.null, .null, .int 0, .int 0, .int 0, .int 0, .int 0, .int 0, .int 0, .int 0, .int 0])) :: [])) (XC := XC6 E) X Y ikJ_X3_11 (ci_6 l dC dI E ev _ q5) ⟨Nat.le_of_ble_eq_true rfl, Nat.le_of_ble_eq_true rfl⟩ ⟨rfl, rfl⟩ (Nat.le_of_ble_eq_true rfl) ⟨Nat.le_of_ble_eq_true rfl, Nat.le_of_ble_eq_true rfl⟩ (by simp only [List.append_assoc, List.cons_append, List.nil_append, List.append_nil]) dX3_init_9 (fun r9 => ?_)
  refine g_eqL (L' := ((h, .inr (3, [.null, .null, .int 0, .int 0, .int 0, .int 0, .int 0, .int 0, .int 0, .int 0, .int 0])) :: (XC6 E q5 r9 ++ []))) (by simp only [List.append_assoc, List.cons_append, List.nil_append, List.append_nil]) ?_
  refine i_putF X (j := 0) (cix := 3) (ty0 := tyX3) (v := .ref q5) (L' := ((h, .inr (3, [.ref q5, .null, .int 0, .int 0, .int 0, .int 0, .int 0, .int 0, .int 0, .int 0, .int 0])) :: (XC6 E q5 r9 ++ []))) u_in3 tyX3_ok nmX3 rfl rfl 0 (by decide) wd1_166 rfl hin rfl rfl rfl (Nat.le_of_ble_eq_true rfl) dX3_init_12 rfl ?_
  refine g_aload_n X dX3_init_15 0 rfl ?_
  refine g_sipush X dX3_init_16 ks_800 ?_
  refine i_newa X (ty := .int) (atype := .int) (a0 := (800, .inl (fun _ => 0))) rfl 0 rfl (fun _ h => h) wd1_124 (ha_int 800) kx_800_65536 kt_800 (Nat.le_of_ble_eq_true rfl) ⟨Nat.le_of_ble_eq_true rfl, Nat.le_of_ble_eq_true rfl⟩ dX3_init_19 (fun q19 => ?_)
  refine g_eqL (L' := ((h, .inr (3, [.ref q5, .null, .int 0, .int 0, .int 0, .int 0, .int 0, .int 0, .int 0, .int 0, .int 0])) :: (XC6 E q5 r9 ++ ((q19, .inl (E 0, 800, .inl (fun _ => 0))) :: [])))) (by simp only [List.append_assoc, List.cons_append, List.nil_append, List.append_nil]) ?_
  refine i_putF X (j := 0) (cix := 3) (ty0 := tyX3) (v := .ref q19) (L' := ((h, .inr (3, [.ref q5, .ref q19, .int 0, .int 0, .int 0, .int 0, .int 0, .int 0, .int 0, .int 0, .int 0])) :: (XC6 E q5 r9 ++ ((q19, .inl (E 0, 800, .inl (fun _ => 0))) :: [])))) u_in3 tyX3_ok nmX3 rfl rfl 1 (by decide) wd1_168 rfl hin rfl rfl rfl (Nat.le_of_ble_eq_true rfl) dX3_init_21 rfl ?_
  refine g_aload_n X dX3_init_24 0 rfl ?_
  refine g_iconst X dX3_init_25 kc_m1 ?_
  refine i_put X (j := 0) (cix := 3) (ty0 := tyX3) (v := .int (-1 : Int32)) (L' := ((h, .inr (3, [.ref q5, .ref q19, .int 0, .int 0, .int 0, .int 0, .int 0, .int 0, .int 0, .int 0, .int (-1 : Int32)])) :: (XC6 E q5 r9 ++ ((q19, .inl (E 0, 800, .inl (fun _ => 0))) :: [])))) u_in3 tyX3_ok nmX3 rfl rfl 10 (by decide) wd1_177 rfl rfl rfl (Nat.le_of_ble_eq_true rfl) dX3_init_26 rfl ?_
  exact hret (fun k => if k < 1 then q5 else if k < 2 then r9 (k - 1) else if k < 3 then q19 else 0) _ 29 3 1202 _ dX3_init_29 ⟨Nat.le_of_ble_eq_true rfl, Nat.le_of_ble_eq_true rfl⟩ rfl
theorem ne_4 : ∀ j, j < 1 → defaultValue (tyX4 j) = vp_V [.null] j := by
  intro j hj
  rcases (show j = 0 by omega) with rfl <;> rfl
def ri_4 : Room := { frames := 1, cells := 1, slots := 52, locals := 20 }
set_option maxRecDepth 100000 in
set_option maxHeartbeats 4000000 in
theorem ci_4 (l : Launch) (dC : Nat → ClassId) (dI : Nat → Nat → Nat) (E : Nat → ClassId) (ev : Nat → Nat) (W0 : va_W) (h : Nat) : CK l dC dI E ev yX4_init cX4_init 1 ri_4 W0 h 4 [.null] (XC4 E) 1 52 := by
  refine CK_of (own := "LostLanes$Reckoner") (by decide) rfl (Nat.le_of_ble_eq_true rfl) ?_
  intro p e s m args below meth c A Q X Y hr hlk hin hret
  refine g_aload_n X dX4_init_0 0 rfl ?_
  refine g_objInit X wd1_213 wd1_27 wd1_28 ⟨Nat.le_of_ble_eq_true rfl, Nat.le_of_ble_eq_true rfl⟩ (Nat.le_of_ble_eq_true rfl) dX4_init_1 ?_
  refine g_aload_n X dX4_init_4 0 rfl ?_
  refine g_bipush X dX4_init_5 kb_52 ?_
  refine i_newa X (ty := .int) (atype := .int) (a0 := (52, .inl (fun _ => 0))) rfl 0 rfl (fun _ h => h) wd1_124 (ha_int 52) kx_52_65536 kt_52 (Nat.le_of_ble_eq_true rfl) ⟨Nat.le_of_ble_eq_true rfl, Nat.le_of_ble_eq_true rfl⟩ dX4_init_7 (fun q7 => ?_)
  refine g_eqL (L' := ((h, .inr (4, [.null])) :: ((q7, .inl (E 0, 52, .inl (fun _ => 0))) :: []))) (by simp only [List.append_assoc, List.cons_append, List.nil_append, List.append_nil]) ?_
  refine i_putF X (j := 0) (cix := 4) (ty0 := tyX4) (v := .ref q7) (L' := ((h, .inr (4, [.ref q7])) :: ((q7, .inl (E 0, 52, .inl (fun _ => 0))) :: []))) u_in4 tyX4_ok nmX4 rfl rfl 0 (by decide) wd1_214 rfl hin rfl rfl rfl (Nat.le_of_ble_eq_true rfl) dX4_init_9 rfl ?_
  exact hret (fun k => if k < 1 then q7 else 0) _ 12 1 52 _ dX4_init_12 ⟨Nat.le_of_ble_eq_true rfl, Nat.le_of_ble_eq_true rfl⟩ rfl
theorem ne_9 : ∀ j, j < 5 → defaultValue (tyX9 j) = vp_V [.null, .null, .null, .null, .null] j := by
  intro j hj
  rcases (show j = 0 ∨ j = 1 ∨ j = 2 ∨ j = 3 ∨ j = 4 by omega) with rfl | rfl | rfl | rfl | rfl <;> rfl
def ri_9 : Room := { frames := 2, cells := 17, slots := 226, locals := 40 }
set_option maxRecDepth 100000 in
set_option maxHeartbeats 4000000 in
theorem ci_9 (l : Launch) (dC : Nat → ClassId) (dI : Nat → Nat → Nat) (E : Nat → ClassId) (ev : Nat → Nat) (W0 : va_W) (h : Nat) : CK l dC dI E ev yX9_init cX9_init 1 ri_9 W0 h 9 [.null, .null, .null, .null, .null] (XC9 E) 17 226 := by
  refine CK_of (own := "LostLanes$Wits") (by decide) rfl (Nat.le_of_ble_eq_true rfl) ?_
  intro p e s m args below meth c A Q X Y hr hlk hin hret
  refine g_aload_n X dX9_init_0 0 rfl ?_
  refine g_objInit X wd1_207 wd1_27 wd1_28 ⟨Nat.le_of_ble_eq_true rfl, Nat.le_of_ble_eq_true rfl⟩ (Nat.le_of_ble_eq_true rfl) dX9_init_1 ?_
  refine g_aload_n X dX9_init_4 0 rfl ?_
  refine i_new X (cix := 4) (ty := tyX4) (fs := [.null]) u_in4 tyX4_ok wd1_208 wd1_209 wd1_7 rfl ne_4 ⟨Nat.le_of_ble_eq_true rfl, Nat.le_of_ble_eq_true rfl⟩ dX9_init_5 (fun q5 => ?_)
  refine g_eqL (L' := ((h, .inr (9, [.null, .null, .null, .null, .null])) :: ((q5, .inr (4, [.null])) :: []))) (by simp only [List.append_assoc, List.cons_append, List.nil_append, List.append_nil]) ?_
  refine g_dup X dX9_init_8 rfl ?_
  refine i_call (L0 := ((h, .inr (9, [.null, .null, .null, .null, .null])) :: [])) (XC := XC4 E) X Y ikJ_X9_11 (ci_4 l dC dI E ev _ q5) ⟨Nat.le_of_ble_eq_true rfl, Nat.le_of_ble_eq_true rfl⟩ ⟨rfl, rfl⟩ (Nat.le_of_ble_eq_true rfl) ⟨Nat.le_of_ble_eq_true rfl, Nat.le_of_ble_eq_true rfl⟩ (by simp only [List.append_assoc, List.cons_append, List.nil_append, List.append_nil]) dX9_init_9 (fun r9 => ?_)
  refine g_eqL (L' := ((h, .inr (9, [.null, .null, .null, .null, .null])) :: (XC4 E q5 r9 ++ []))) (by simp only [List.append_assoc, List.cons_append, List.nil_append, List.append_nil]) ?_
  refine i_putF X (j := 0) (cix := 9) (ty0 := tyX9) (v := .ref q5) (L' := ((h, .inr (9, [.ref q5, .null, .null, .null, .null])) :: (XC4 E q5 r9 ++ []))) u_in9 tyX9_ok nmX9 rfl rfl 0 (by decide) wd1_220 rfl hin rfl rfl rfl (Nat.le_of_ble_eq_true rfl) dX9_init_12 rfl ?_
  refine g_aload_n X dX9_init_15 0 rfl ?_
  refine i_new X (cix := 7) (ty := tyX7) (fs := [.null, .null, .null, .null, .null, .int 0, .null, .null, .null, .int 0, .null, .int 0, .null, .null, .int 0, .int 0]) u_in7 tyX7_ok wd1_218 wd1_30 wd1_2 rfl ne_7 ⟨Nat.le_of_ble_eq_true rfl, Nat.le_of_ble_eq_true rfl⟩ dX9_init_16 (fun q16 => ?_)
  refine g_eqL (L' := ((h, .inr (9, [.ref q5, .null, .null, .null, .null])) :: (XC4 E q5 r9 ++ ((q16, .inr (7, [.null, .null, .null, .null, .null, .int 0, .null, .null, .null, .int 0, .null, .int 0, .null, .null, .int 0, .int 0])) :: [])))) (by simp only [List.append_assoc, List.cons_append, List.nil_append, List.append_nil]) ?_
  refine g_dup X dX9_init_19 rfl ?_
  refine i_call (L0 := ((h, .inr (9, [.ref q5, .null, .null, .null, .null])) :: (XC4 E q5 r9 ++ []))) (XC := XC7 E) X Y ikJ_X9_20 (ci_7 l dC dI E ev _ q16) ⟨Nat.le_of_ble_eq_true rfl, Nat.le_of_ble_eq_true rfl⟩ ⟨rfl, rfl⟩ (Nat.le_of_ble_eq_true rfl) ⟨Nat.le_of_ble_eq_true rfl, Nat.le_of_ble_eq_true rfl⟩ (by simp only [List.append_assoc, List.cons_append, List.nil_append, List.append_nil]) dX9_init_20 (fun r20 => ?_)
  refine g_eqL (L' := ((h, .inr (9, [.ref q5, .null, .null, .null, .null])) :: (XC4 E q5 r9 ++ (XC7 E q16 r20 ++ [])))) (by simp only [List.append_assoc, List.cons_append, List.nil_append, List.append_nil]) ?_
  refine i_putF X (j := 0) (cix := 9) (ty0 := tyX9) (v := .ref q16) (L' := ((h, .inr (9, [.ref q5, .ref q16, .null, .null, .null])) :: (XC4 E q5 r9 ++ (XC7 E q16 r20 ++ [])))) u_in9 tyX9_ok nmX9 rfl rfl 1 (by decide) wd1_222 rfl hin rfl rfl rfl (Nat.le_of_ble_eq_true rfl) dX9_init_23 rfl ?_
  refine g_aload_n X dX9_init_26 0 rfl ?_
  refine g_bipush X dX9_init_27 kb_9 ?_
  refine i_newa X (ty := .int) (atype := .int) (a0 := (9, .inl (fun _ => 0))) rfl 0 rfl (fun _ h => h) wd1_124 (ha_int 9) kx_9_65536 kt_9 (Nat.le_of_ble_eq_true rfl) ⟨Nat.le_of_ble_eq_true rfl, Nat.le_of_ble_eq_true rfl⟩ dX9_init_29 (fun q29 => ?_)
  refine g_eqL (L' := ((h, .inr (9, [.ref q5, .ref q16, .null, .null, .null])) :: (XC4 E q5 r9 ++ (XC7 E q16 r20 ++ ((q29, .inl (E 0, 9, .inl (fun _ => 0))) :: []))))) (by simp only [List.append_assoc, List.cons_append, List.nil_append, List.append_nil]) ?_
  refine i_putF X (j := 0) (cix := 9) (ty0 := tyX9) (v := .ref q29) (L' := ((h, .inr (9, [.ref q5, .ref q16, .ref q29, .null, .null])) :: (XC4 E q5 r9 ++ (XC7 E q16 r20 ++ ((q29, .inl (E 0, 9, .inl (fun _ => 0))) :: []))))) u_in9 tyX9_ok nmX9 rfl rfl 2 (by decide) wd1_223 rfl hin rfl rfl rfl (Nat.le_of_ble_eq_true rfl) dX9_init_31 rfl ?_
  refine g_aload_n X dX9_init_34 0 rfl ?_
  refine g_bipush X dX9_init_35 kb_10 ?_
  refine i_newa X (ty := .int) (atype := .int) (a0 := (10, .inl (fun _ => 0))) rfl 0 rfl (fun _ h => h) wd1_124 (ha_int 10) kx_10_65536 kt_10 (Nat.le_of_ble_eq_true rfl) ⟨Nat.le_of_ble_eq_true rfl, Nat.le_of_ble_eq_true rfl⟩ dX9_init_37 (fun q37 => ?_)
  refine g_eqL (L' := ((h, .inr (9, [.ref q5, .ref q16, .ref q29, .null, .null])) :: (XC4 E q5 r9 ++ (XC7 E q16 r20 ++ ((q29, .inl (E 0, 9, .inl (fun _ => 0))) :: ((q37, .inl (E 0, 10, .inl (fun _ => 0))) :: [])))))) (by simp only [List.append_assoc, List.cons_append, List.nil_append, List.append_nil]) ?_
  refine i_putF X (j := 0) (cix := 9) (ty0 := tyX9) (v := .ref q37) (L' := ((h, .inr (9, [.ref q5, .ref q16, .ref q29, .ref q37, .null])) :: (XC4 E q5 r9 ++ (XC7 E q16 r20 ++ ((q29, .inl (E 0, 9, .inl (fun _ => 0))) :: ((q37, .inl (E 0, 10, .inl (fun _ => 0))) :: [])))))) u_in9 tyX9_ok nmX9 rfl rfl 3 (by decide) wd1_224 rfl hin rfl rfl rfl (Nat.le_of_ble_eq_true rfl) dX9_init_39 rfl ?_
  refine g_aload_n X dX9_init_42 0 rfl ?_
  refine g_bipush X dX9_init_43 kb_61 ?_
  refine i_newa X (ty := .int) (atype := .int) (a0 := (61, .inl (fun _ => 0))) rfl 0 rfl (fun _ h => h) wd1_124 (ha_int 61) kx_61_65536 kt_61 (Nat.le_of_ble_eq_true rfl) ⟨Nat.le_of_ble_eq_true rfl, Nat.le_of_ble_eq_true rfl⟩ dX9_init_45 (fun q45 => ?_)
  refine g_eqL (L' := ((h, .inr (9, [.ref q5, .ref q16, .ref q29, .ref q37, .null])) :: (XC4 E q5 r9 ++ (XC7 E q16 r20 ++ ((q29, .inl (E 0, 9, .inl (fun _ => 0))) :: ((q37, .inl (E 0, 10, .inl (fun _ => 0))) :: ((q45, .inl (E 0, 61, .inl (fun _ => 0))) :: []))))))) (by simp only [List.append_assoc, List.cons_append, List.nil_append, List.append_nil]) ?_
  refine i_putF X (j := 0) (cix := 9) (ty0 := tyX9) (v := .ref q45) (L' := ((h, .inr (9, [.ref q5, .ref q16, .ref q29, .ref q37, .ref q45])) :: (XC4 E q5 r9 ++ (XC7 E q16 r20 ++ ((q29, .inl (E 0, 9, .inl (fun _ => 0))) :: ((q37, .inl (E 0, 10, .inl (fun _ => 0))) :: ((q45, .inl (E 0, 61, .inl (fun _ => 0))) :: []))))))) u_in9 tyX9_ok nmX9 rfl rfl 4 (by decide) wd1_225 rfl hin rfl rfl rfl (Nat.le_of_ble_eq_true rfl) dX9_init_47 rfl ?_
  exact hret (fun k => if k < 1 then q5 else if k < 2 then r9 (k - 1) else if k < 3 then q16 else if k < 14 then r20 (k - 3) else if k < 15 then q29 else if k < 16 then q37 else if k < 17 then q45 else 0) _ 50 17 226 _ dX9_init_50 ⟨Nat.le_of_ble_eq_true rfl, Nat.le_of_ble_eq_true rfl⟩ rfl
theorem ne_8 : ∀ j, j < 5 → defaultValue (tyX8 j) = vp_V [.null, .null, .null, .null, .null] j := by
  intro j hj
  rcases (show j = 0 ∨ j = 1 ∨ j = 2 ∨ j = 3 ∨ j = 4 by omega) with rfl | rfl | rfl | rfl | rfl <;> rfl
def ri_8 : Room := { frames := 1, cells := 5, slots := 400, locals := 20 }
set_option maxRecDepth 100000 in
set_option maxHeartbeats 4000000 in
theorem ci_8 (l : Launch) (dC : Nat → ClassId) (dI : Nat → Nat → Nat) (E : Nat → ClassId) (ev : Nat → Nat) (W0 : va_W) (h : Nat) : CK l dC dI E ev yX8_init cX8_init 1 ri_8 W0 h 8 [.null, .null, .null, .null, .null] (XC8 E) 5 400 := by
  refine CK_of (own := "LostLanes$Ways") (by decide) rfl (Nat.le_of_ble_eq_true rfl) ?_
  intro p e s m args below meth c A Q X Y hr hlk hin hret
  refine g_aload_n X dX8_init_0 0 rfl ?_
  refine g_objInit X wd2_3 wd1_27 wd1_28 ⟨Nat.le_of_ble_eq_true rfl, Nat.le_of_ble_eq_true rfl⟩ (Nat.le_of_ble_eq_true rfl) dX8_init_1 ?_
  refine g_aload_n X dX8_init_4 0 rfl ?_
  refine g_bipush X dX8_init_5 kb_64 ?_
  refine i_newa X (ty := .int) (atype := .int) (a0 := (64, .inl (fun _ => 0))) rfl 0 rfl (fun _ h => h) wd1_124 (ha_int 64) kx_64_65536 kt_64 (Nat.le_of_ble_eq_true rfl) ⟨Nat.le_of_ble_eq_true rfl, Nat.le_of_ble_eq_true rfl⟩ dX8_init_7 (fun q7 => ?_)
  refine g_eqL (L' := ((h, .inr (8, [.null, .null, .null, .null, .null])) :: ((q7, .inl (E 0, 64, .inl (fun _ => 0))) :: []))) (by simp only [List.append_assoc, List.cons_append, List.nil_append, List.append_nil]) ?_
  refine i_putF X (j := 0) (cix := 8) (ty0 := tyX8) (v := .ref q7) (L' := ((h, .inr (8, [.ref q7, .null, .null, .null, .null])) :: ((q7, .inl (E 0, 64, .inl (fun _ => 0))) :: []))) u_in8 tyX8_ok nmX8 rfl rfl 0 (by decide) wd2_4 rfl hin rfl rfl rfl (Nat.le_of_ble_eq_true rfl) dX8_init_9 rfl ?_
  refine g_aload_n X dX8_init_12 0 rfl ?_
  refine g_bipush X dX8_init_13 kb_64 ?_
  refine i_newa X (ty := .int) (atype := .int) (a0 := (64, .inl (fun _ => 0))) rfl 0 rfl (fun _ h => h) wd1_124 (ha_int 64) kx_64_65536 kt_64 (Nat.le_of_ble_eq_true rfl) ⟨Nat.le_of_ble_eq_true rfl, Nat.le_of_ble_eq_true rfl⟩ dX8_init_15 (fun q15 => ?_)
  refine g_eqL (L' := ((h, .inr (8, [.ref q7, .null, .null, .null, .null])) :: ((q7, .inl (E 0, 64, .inl (fun _ => 0))) :: ((q15, .inl (E 0, 64, .inl (fun _ => 0))) :: [])))) (by simp only [List.append_assoc, List.cons_append, List.nil_append, List.append_nil]) ?_
  refine i_putF X (j := 0) (cix := 8) (ty0 := tyX8) (v := .ref q15) (L' := ((h, .inr (8, [.ref q7, .ref q15, .null, .null, .null])) :: ((q7, .inl (E 0, 64, .inl (fun _ => 0))) :: ((q15, .inl (E 0, 64, .inl (fun _ => 0))) :: [])))) u_in8 tyX8_ok nmX8 rfl rfl 1 (by decide) wd2_5 rfl hin rfl rfl rfl (Nat.le_of_ble_eq_true rfl) dX8_init_17 rfl ?_
  refine g_aload_n X dX8_init_20 0 rfl ?_
  refine g_bipush X dX8_init_21 kb_8 ?_
  refine i_newa X (ty := .int) (atype := .int) (a0 := (8, .inl (fun _ => 0))) rfl 0 rfl (fun _ h => h) wd1_124 (ha_int 8) kx_8_65536 kt_8 (Nat.le_of_ble_eq_true rfl) ⟨Nat.le_of_ble_eq_true rfl, Nat.le_of_ble_eq_true rfl⟩ dX8_init_23 (fun q23 => ?_)
  refine g_eqL (L' := ((h, .inr (8, [.ref q7, .ref q15, .null, .null, .null])) :: ((q7, .inl (E 0, 64, .inl (fun _ => 0))) :: ((q15, .inl (E 0, 64, .inl (fun _ => 0))) :: ((q23, .inl (E 0, 8, .inl (fun _ => 0))) :: []))))) (by simp only [List.append_assoc, List.cons_append, List.nil_append, List.append_nil]) ?_
  refine i_putF X (j := 0) (cix := 8) (ty0 := tyX8) (v := .ref q23) (L' := ((h, .inr (8, [.ref q7, .ref q15, .ref q23, .null, .null])) :: ((q7, .inl (E 0, 64, .inl (fun _ => 0))) :: ((q15, .inl (E 0, 64, .inl (fun _ => 0))) :: ((q23, .inl (E 0, 8, .inl (fun _ => 0))) :: []))))) u_in8 tyX8_ok nmX8 rfl rfl 2 (by decide) wd2_6 rfl hin rfl rfl rfl (Nat.le_of_ble_eq_true rfl) dX8_init_25 rfl ?_
  refine g_aload_n X dX8_init_28 0 rfl ?_
  refine g_sipush X dX8_init_29 ks_256 ?_
  refine i_newa X (ty := .int) (atype := .int) (a0 := (256, .inl (fun _ => 0))) rfl 0 rfl (fun _ h => h) wd1_124 (ha_int 256) kx_256_65536 kt_256 (Nat.le_of_ble_eq_true rfl) ⟨Nat.le_of_ble_eq_true rfl, Nat.le_of_ble_eq_true rfl⟩ dX8_init_32 (fun q32 => ?_)
  refine g_eqL (L' := ((h, .inr (8, [.ref q7, .ref q15, .ref q23, .null, .null])) :: ((q7, .inl (E 0, 64, .inl (fun _ => 0))) :: ((q15, .inl (E 0, 64, .inl (fun _ => 0))) :: ((q23, .inl (E 0, 8, .inl (fun _ => 0))) :: ((q32, .inl (E 0, 256, .inl (fun _ => 0))) :: [])))))) (by simp only [List.append_assoc, List.cons_append, List.nil_append, List.append_nil]) ?_
  refine i_putF X (j := 0) (cix := 8) (ty0 := tyX8) (v := .ref q32) (L' := ((h, .inr (8, [.ref q7, .ref q15, .ref q23, .ref q32, .null])) :: ((q7, .inl (E 0, 64, .inl (fun _ => 0))) :: ((q15, .inl (E 0, 64, .inl (fun _ => 0))) :: ((q23, .inl (E 0, 8, .inl (fun _ => 0))) :: ((q32, .inl (E 0, 256, .inl (fun _ => 0))) :: [])))))) u_in8 tyX8_ok nmX8 rfl rfl 3 (by decide) wd2_7 rfl hin rfl rfl rfl (Nat.le_of_ble_eq_true rfl) dX8_init_34 rfl ?_
  refine g_aload_n X dX8_init_37 0 rfl ?_
  refine g_bipush X dX8_init_38 kb_8 ?_
  refine i_newa X (ty := .int) (atype := .int) (a0 := (8, .inl (fun _ => 0))) rfl 0 rfl (fun _ h => h) wd1_124 (ha_int 8) kx_8_65536 kt_8 (Nat.le_of_ble_eq_true rfl) ⟨Nat.le_of_ble_eq_true rfl, Nat.le_of_ble_eq_true rfl⟩ dX8_init_40 (fun q40 => ?_)
  refine g_eqL (L' := ((h, .inr (8, [.ref q7, .ref q15, .ref q23, .ref q32, .null])) :: ((q7, .inl (E 0, 64, .inl (fun _ => 0))) :: ((q15, .inl (E 0, 64, .inl (fun _ => 0))) :: ((q23, .inl (E 0, 8, .inl (fun _ => 0))) :: ((q32, .inl (E 0, 256, .inl (fun _ => 0))) :: ((q40, .inl (E 0, 8, .inl (fun _ => 0))) :: []))))))) (by simp only [List.append_assoc, List.cons_append, List.nil_append, List.append_nil]) ?_
  refine i_putF X (j := 0) (cix := 8) (ty0 := tyX8) (v := .ref q40) (L' := ((h, .inr (8, [.ref q7, .ref q15, .ref q23, .ref q32, .ref q40])) :: ((q7, .inl (E 0, 64, .inl (fun _ => 0))) :: ((q15, .inl (E 0, 64, .inl (fun _ => 0))) :: ((q23, .inl (E 0, 8, .inl (fun _ => 0))) :: ((q32, .inl (E 0, 256, .inl (fun _ => 0))) :: ((q40, .inl (E 0, 8, .inl (fun _ => 0))) :: []))))))) u_in8 tyX8_ok nmX8 rfl rfl 4 (by decide) wd2_8 rfl hin rfl rfl rfl (Nat.le_of_ble_eq_true rfl) dX8_init_42 rfl ?_
  exact hret (fun k => if k < 1 then q7 else if k < 2 then q15 else if k < 3 then q23 else if k < 4 then q32 else if k < 5 then q40 else 0) _ 45 5 400 _ dX8_init_45 ⟨Nat.le_of_ble_eq_true rfl, Nat.le_of_ble_eq_true rfl⟩ rfl
theorem ne_2 : ∀ j, j < 6 → defaultValue (tyX2 j) = vp_V [.null, .null, .null, .int 0, .int 0, .int 0] j := by
  intro j hj
  rcases (show j = 0 ∨ j = 1 ∨ j = 2 ∨ j = 3 ∨ j = 4 ∨ j = 5 by omega) with rfl | rfl | rfl | rfl | rfl | rfl <;> rfl
def ri_2 : Room := { frames := 1, cells := 3, slots := 26, locals := 20 }
set_option maxRecDepth 100000 in
set_option maxHeartbeats 4000000 in
theorem ci_2 (l : Launch) (dC : Nat → ClassId) (dI : Nat → Nat → Nat) (E : Nat → ClassId) (ev : Nat → Nat) (W0 : va_W) (h : Nat) : CK l dC dI E ev yX2_init cX2_init 1 ri_2 W0 h 2 [.null, .null, .null, .int 0, .int 0, .int 0] (XC2 E) 3 26 := by
  refine CK_of (own := "LostLanes$Plates") (by decide) rfl (Nat.le_of_ble_eq_true rfl) ?_
  intro p e s m args below meth c A Q X Y hr hlk hin hret
  refine g_aload_n X dX2_init_0 0 rfl ?_
  refine g_objInit X wd2_26 wd1_27 wd1_28 ⟨Nat.le_of_ble_eq_true rfl, Nat.le_of_ble_eq_true rfl⟩ (Nat.le_of_ble_eq_true rfl) dX2_init_1 ?_
  refine g_aload_n X dX2_init_4 0 rfl ?_
  refine g_bipush X dX2_init_5 kb_10 ?_
  refine i_newa X (ty := .int) (atype := .int) (a0 := (10, .inl (fun _ => 0))) rfl 0 rfl (fun _ h => h) wd1_124 (ha_int 10) kx_10_65536 kt_10 (Nat.le_of_ble_eq_true rfl) ⟨Nat.le_of_ble_eq_true rfl, Nat.le_of_ble_eq_true rfl⟩ dX2_init_7 (fun q7 => ?_)
  refine g_eqL (L' := ((h, .inr (2, [.null, .null, .null, .int 0, .int 0, .int 0])) :: ((q7, .inl (E 0, 10, .inl (fun _ => 0))) :: []))) (by simp only [List.append_assoc, List.cons_append, List.nil_append, List.append_nil]) ?_
  refine i_putF X (j := 0) (cix := 2) (ty0 := tyX2) (v := .ref q7) (L' := ((h, .inr (2, [.ref q7, .null, .null, .int 0, .int 0, .int 0])) :: ((q7, .inl (E 0, 10, .inl (fun _ => 0))) :: []))) u_in2 tyX2_ok nmX2 rfl rfl 0 (by decide) wd2_27 rfl hin rfl rfl rfl (Nat.le_of_ble_eq_true rfl) dX2_init_9 rfl ?_
  refine g_aload_n X dX2_init_12 0 rfl ?_
  refine g_bipush X dX2_init_13 kb_8 ?_
  refine i_newa X (ty := .int) (atype := .int) (a0 := (8, .inl (fun _ => 0))) rfl 0 rfl (fun _ h => h) wd1_124 (ha_int 8) kx_8_65536 kt_8 (Nat.le_of_ble_eq_true rfl) ⟨Nat.le_of_ble_eq_true rfl, Nat.le_of_ble_eq_true rfl⟩ dX2_init_15 (fun q15 => ?_)
  refine g_eqL (L' := ((h, .inr (2, [.ref q7, .null, .null, .int 0, .int 0, .int 0])) :: ((q7, .inl (E 0, 10, .inl (fun _ => 0))) :: ((q15, .inl (E 0, 8, .inl (fun _ => 0))) :: [])))) (by simp only [List.append_assoc, List.cons_append, List.nil_append, List.append_nil]) ?_
  refine i_putF X (j := 0) (cix := 2) (ty0 := tyX2) (v := .ref q15) (L' := ((h, .inr (2, [.ref q7, .ref q15, .null, .int 0, .int 0, .int 0])) :: ((q7, .inl (E 0, 10, .inl (fun _ => 0))) :: ((q15, .inl (E 0, 8, .inl (fun _ => 0))) :: [])))) u_in2 tyX2_ok nmX2 rfl rfl 1 (by decide) wd2_29 rfl hin rfl rfl rfl (Nat.le_of_ble_eq_true rfl) dX2_init_17 rfl ?_
  refine g_aload_n X dX2_init_20 0 rfl ?_
  refine g_bipush X dX2_init_21 kb_8 ?_
  refine i_newa X (ty := .int) (atype := .int) (a0 := (8, .inl (fun _ => 0))) rfl 0 rfl (fun _ h => h) wd1_124 (ha_int 8) kx_8_65536 kt_8 (Nat.le_of_ble_eq_true rfl) ⟨Nat.le_of_ble_eq_true rfl, Nat.le_of_ble_eq_true rfl⟩ dX2_init_23 (fun q23 => ?_)
  refine g_eqL (L' := ((h, .inr (2, [.ref q7, .ref q15, .null, .int 0, .int 0, .int 0])) :: ((q7, .inl (E 0, 10, .inl (fun _ => 0))) :: ((q15, .inl (E 0, 8, .inl (fun _ => 0))) :: ((q23, .inl (E 0, 8, .inl (fun _ => 0))) :: []))))) (by simp only [List.append_assoc, List.cons_append, List.nil_append, List.append_nil]) ?_
  refine i_putF X (j := 0) (cix := 2) (ty0 := tyX2) (v := .ref q23) (L' := ((h, .inr (2, [.ref q7, .ref q15, .ref q23, .int 0, .int 0, .int 0])) :: ((q7, .inl (E 0, 10, .inl (fun _ => 0))) :: ((q15, .inl (E 0, 8, .inl (fun _ => 0))) :: ((q23, .inl (E 0, 8, .inl (fun _ => 0))) :: []))))) u_in2 tyX2_ok nmX2 rfl rfl 2 (by decide) wd2_30 rfl hin rfl rfl rfl (Nat.le_of_ble_eq_true rfl) dX2_init_25 rfl ?_
  exact hret (fun k => if k < 1 then q7 else if k < 2 then q15 else if k < 3 then q23 else 0) _ 28 3 26 _ dX2_init_28 ⟨Nat.le_of_ble_eq_true rfl, Nat.le_of_ble_eq_true rfl⟩ rfl
