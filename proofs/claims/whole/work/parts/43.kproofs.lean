theorem nmq_eq {α : Type} {q : Option Nat} {K : Option Nat → Option α} {res : α} (hf : nmq q K = some res) : K q = some res := hf
theorem nd_0 : ∀ j, j < 6 → defaultValue (tyX0 j) = vp_V [.int 0, .int 0, .int 0, .int 0, .int 0, .int 0] j := by
  intro j hj
  rcases (show j = 0 ∨ j = 1 ∨ j = 2 ∨ j = 3 ∨ j = 4 ∨ j = 5 by omega) with rfl | rfl | rfl | rfl | rfl | rfl <;> rfl
theorem nd_5 : ∀ j, j < 3 → defaultValue (tyX5 j) = vp_V [.null, .int 0, .null] j := by
  intro j hj
  rcases (show j = 0 ∨ j = 1 ∨ j = 2 by omega) with rfl | rfl | rfl <;> rfl
theorem nd_7 : ∀ j, j < 16 → defaultValue (tyX7 j) = vp_V [.null, .null, .null, .null, .null, .int 0, .null, .null, .null, .int 0, .null, .int 0, .null, .null, .int 0, .int 0] j := by
  intro j hj
  rcases (show j = 0 ∨ j = 1 ∨ j = 2 ∨ j = 3 ∨ j = 4 ∨ j = 5 ∨ j = 6 ∨ j = 7 ∨ j = 8 ∨ j = 9 ∨ j = 10 ∨ j = 11 ∨ j = 12 ∨ j = 13 ∨ j = 14 ∨ j = 15 by omega) with rfl | rfl | rfl | rfl | rfl | rfl | rfl | rfl | rfl | rfl | rfl | rfl | rfl | rfl | rfl | rfl <;> rfl
theorem kI_X3_80 : cIf "LostLanes$Reader" 80 yX0_init cX0_init 3 2 := ⟨wd3_128, wd3_126, wd3_127, wd1_17, rfl, by decide +kernel⟩
theorem kJ_X10_11 : cJf "LostLanes" 11 yX7_init cX7_init 1 0 := ⟨wd1_33, List.mem_of_getElem? (i := 0) rfl, wd1_32, wd1_2, rfl, by decide +kernel⟩
theorem kJ_X3_47 : cJf "LostLanes$Reader" 47 yX5_init cX5_init 1 0 := ⟨wd3_41, List.mem_of_getElem? (i := 9) rfl, wd3_40, wd1_12, rfl, by decide +kernel⟩
def rk_0_init : Room := { frames := 1, cells := 0, slots := 0, locals := 20 }
set_option maxRecDepth 100000 in
set_option maxHeartbeats 4000000 in
theorem cm_0_init (l : Launch) (dC : Nat → ClassId) (dI : Nat → Nat → Nat) (E : Nat → ClassId) (ev : Nat → Nat) (ho : Nat → Nat) (ro : Nat → Nat → Nat) (z : Nat) (P : va_W) (S : CS) (a0 : Nat) (x1 : Int32) (x2 : Int32)  (res : Unit × CS × va_W) (hf : K_0_init E z S P a0 x1 x2 = some res) : CM l dC dI E ev yX0_init cX0_init 3 none rk_0_init [.ref a0, .int x1, .int x2] z (CW E ho ro S ++ P) (CW E ho ro res.2.1 ++ res.2.2) none 0 0 := by
  refine CM_of (own := "LostLanes$Clause") (by decide) rfl (Nat.le_of_ble_eq_true rfl) ?_
  intro p e s m args below meth c A Q X Y hr hlk hin hsz hA hQ
  refine g_lv [0, 1, 2] (lv' := [(0, .ref a0), (1, .int x1), (2, .int x2)]) rfl ?_
  unfold K_0_init at hf
  refine g_aload_n X dX0_init_0 0 rfl ?_
  refine g_objInit X wd3_129 wd1_27 wd1_28 ⟨Nat.le_of_ble_eq_true rfl, Nat.le_of_ble_eq_true rfl⟩ (Nat.le_of_ble_eq_true rfl) dX0_init_1 ?_
  refine g_aload_n X dX0_init_4 0 rfl ?_
  refine g_iconst X dX0_init_5 kc_1 ?_
  refine pm_put X (cix := 0) (ty0 := tyX0) (v := .int (1 : Int32)) u_in0 tyX0_ok nmX0 rfl 5 (by decide) wd3_147 rfl rfl rfl dX0_init_6 hf (fun P1 hf => ?_)
  refine g_aload_n X dX0_init_9 0 rfl ?_
  refine g_iload_n X dX0_init_10 1 rfl ?_
  refine pm_putF X (cix := 0) (ty0 := tyX0) (v := .int x1) u_in0 tyX0_ok nmX0 rfl 0 (by decide) wd3_130 rfl hin rfl rfl rfl dX0_init_11 hf (fun P3 hf => ?_)
  refine g_aload_n X dX0_init_14 0 rfl ?_
  refine g_iload_n X dX0_init_15 2 rfl ?_
  refine pm_putF X (cix := 0) (ty0 := tyX0) (v := .int x2) u_in0 tyX0_ok nmX0 rfl 1 (by decide) wd3_133 rfl hin rfl rfl rfl dX0_init_16 hf (fun P5 hf => ?_)
  exact k_retv (P := P5) (S := S) (wf := fun res => CW E ho ro res.2.1 ++ res.2.2) hA hQ X hr hlk dX0_init_19 hf rfl
def rk_5_init : Room := { frames := 1, cells := 2, slots := 12, locals := 20 }
set_option maxRecDepth 100000 in
set_option maxHeartbeats 4000000 in
theorem cm_5_init (l : Launch) (dC : Nat → ClassId) (dI : Nat → Nat → Nat) (E : Nat → ClassId) (ev : Nat → Nat) (ho : Nat → Nat) (ro : Nat → Nat → Nat) (z : Nat) (P : va_W) (S : CS) (a0 : Nat)  (res : Unit × CS × va_W) (hf : K_5_init E z S P a0 = some res) : CM l dC dI E ev yX5_init cX5_init 1 none rk_5_init [.ref a0] z (CW E ho ro S ++ P) (CW E ho ro res.2.1 ++ res.2.2) none 2 12 := by
  refine CM_of (own := "LostLanes$Script") (by decide) rfl (Nat.le_of_ble_eq_true rfl) ?_
  intro p e s m args below meth c A Q X Y hr hlk hin hsz hA hQ
  refine g_lv [0] (lv' := [(0, .ref a0)]) rfl ?_
  unfold K_5_init at hf
  refine g_aload_n X dX5_init_0 0 rfl ?_
  refine g_objInit X wd3_42 wd1_27 wd1_28 ⟨Nat.le_of_ble_eq_true rfl, Nat.le_of_ble_eq_true rfl⟩ (Nat.le_of_ble_eq_true rfl) dX5_init_1 ?_
  refine g_aload_n X dX5_init_4 0 rfl ?_
  refine g_bipush X dX5_init_5 kb_12 ?_
  refine mk_newq X Y 4 rfl Y.2.2.2.2.2.2.2.2.1 wd3_43 kx_12_65536 kt_12 (Nat.le_of_ble_eq_true rfl) hsz dX5_init_7 hf (fun P1 hf => ?_)
  refine pm_putF X (cix := 5) (ty0 := tyX5) (v := .ref (z + 0)) u_in5 tyX5_ok nmX5 rfl 0 (by decide) wd3_45 rfl hin rfl rfl rfl dX5_init_10 hf (fun P2 hf => ?_)
  refine g_aload_n X dX5_init_13 0 rfl ?_
  refine g_iconst X dX5_init_14 kc_0 ?_
  refine mk_newa X (ty := .int) (atype := .int) (a0 := (0, .inl (fun _ => 0))) rfl 0 rfl (fun _ h => h) wd1_124 (fun _ => rfl) kx_0_65536 kt_0 (Nat.le_of_ble_eq_true rfl) hsz dX5_init_15 hf (fun P4 hf => ?_)
  refine pm_put X (cix := 5) (ty0 := tyX5) (v := .ref (z + (0 + 1))) u_in5 tyX5_ok nmX5 rfl 2 (by decide) wd3_51 rfl rfl rfl dX5_init_17 hf (fun P5 hf => ?_)
  exact k_retv (P := P5) (S := S) (wf := fun res => CW E ho ro res.2.1 ++ res.2.2) hA hQ X hr hlk dX5_init_20 hf rfl
def rk_5_add : Room := { frames := 0, cells := 0, slots := 0, locals := 0 }
set_option maxRecDepth 100000 in
set_option maxHeartbeats 4000000 in
theorem cm_5_add (l : Launch) (dC : Nat → ClassId) (dI : Nat → Nat → Nat) (E : Nat → ClassId) (ev : Nat → Nat) (ho : Nat → Nat) (ro : Nat → Nat → Nat) (z : Nat) (P : va_W) (S : CS) (a0 : Nat) (a1 : Nat)  (res : Unit × CS × va_W) (hf : K_5_add E z S P a0 a1 = some res) : CM l dC dI E ev yX5_add cX5_add 2 none rk_5_add [.ref a0, .ref a1] z (CW E ho ro S ++ P) (CW E ho ro res.2.1 ++ res.2.2) none 0 0 := by
  refine CM_of (own := "LostLanes$Script") (by decide) rfl (Nat.le_of_ble_eq_true rfl) ?_
  intro p e s m args below meth c A Q X Y hr hlk hin hsz hA hQ
  refine g_lv [0, 1] (lv' := [(0, .ref a0), (1, .ref a1)]) rfl ?_
  unfold K_5_add at hf
  refine g_aload_n X dX5_add_0 0 rfl ?_
  refine pg_5_1 X wd3_48 dX5_add_1 hf (fun v1 hf => ?_)
  refine g_bipush X dX5_add_4 kb_12 ?_
  refine g_icmp_ge (tgt := 29) X dX5_add_6 (by decide) hf (fun hf => ?_) (fun hf => ?_)
  · exact k_retv (P := P) (S := S) (wf := fun res => CW E ho ro res.2.1 ++ res.2.2) hA hQ X hr hlk dX5_add_29 hf rfl
  refine g_aload_n X dX5_add_9 0 rfl ?_
  refine pg_5_0 X wd3_45 dX5_add_10 hf (fun b2 hf => ?_)
  refine g_aload_n X dX5_add_13 0 rfl ?_
  refine pg_5_1 X wd3_48 dX5_add_14 hf (fun v3 hf => ?_)
  refine g_aload_n X dX5_add_17 1 rfl ?_
  refine pm_astq X dX5_add_18 hf (fun P4 hf => ?_)
  refine g_aload_n X dX5_add_19 0 rfl ?_
  refine g_dup X dX5_add_20 rfl ?_
  refine pg_5_1 X wd3_48 dX5_add_21 hf (fun v6 hf => ?_)
  refine g_iconst X dX5_add_24 kc_1 ?_
  refine g_iadd X dX5_add_25 ?_
  refine pm_put X (cix := 5) (ty0 := tyX5) (v := .int (v6 + (1 : Int32))) u_in5 tyX5_ok nmX5 rfl 1 (by decide) wd3_48 rfl rfl rfl dX5_add_26 hf (fun P7 hf => ?_)
  exact k_retv (P := P7) (S := S) (wf := fun res => CW E ho ro res.2.1 ++ res.2.2) hA hQ X hr hlk dX5_add_29 hf rfl
def rk_J7_copyOf : Room := { frames := 1, cells := 1, slots := 800, locals := 60 }
set_option maxRecDepth 100000 in
set_option maxHeartbeats 4000000 in
theorem cm_J7_copyOf (l : Launch) (dC : Nat → ClassId) (dI : Nat → Nat → Nat) (E : Nat → ClassId) (ev : Nat → Nat) (ho : Nat → Nat) (ro : Nat → Nat → Nat) (z : Nat) (P : va_W) (S : CS) (x1 : Int32)  (res : Nat × CS × va_W) (hf : K_J7_copyOf E z S P x1 = some res) : CM l dC dI E ev yJ7_copyOf_59c91 cJ7_copyOf_59c91 3 (some (.array .int)) rk_J7_copyOf [.ref (ro 9 1), .int x1] z (CW E ho ro S ++ P) (CW E ho ro res.2.1 ++ res.2.2) (some (.ref res.1)) 1 800 := by
  refine CM_of (own := "java/util/Arrays") (by decide) rfl (Nat.le_of_ble_eq_true rfl) ?_
  intro p e s m args below meth c A Q X Y hr hlk hin hsz hA hQ
  refine g_lv [0, 1] (lv' := [(0, .ref (ro 9 1)), (1, .int x1)]) rfl ?_
  unfold K_J7_copyOf at hf
  refine g_iload_n X dJ7_copyOf_59c91_0 1 rfl ?_
  refine g_aload_n X dJ7_copyOf_59c91_1 0 rfl ?_
  refine ca_len_3_1 X kn_800 dJ7_copyOf_59c91_2 ?_
  refine g_icmp_ne (tgt := 14) X dJ7_copyOf_59c91_3 (by decide) hf (fun hf => ?_) (fun hf => ?_)
  · refine g_iload_n X dJ7_copyOf_59c91_14 1 rfl ?_
    obtain ⟨hz15, hf⟩ := chk_some hf
    refine mk_newa X (ty := .int) (atype := .int) (a0 := ((x1).toNatClampNeg, .inl (fun _ => 0))) rfl 0 rfl (fun _ h => h) wd1_124 (fun _ => rfl) hz15 rfl (mk_by hz15) hsz dJ7_copyOf_59c91_15 hf (fun P1 hf => ?_)
    refine g_astore_n (i := 2) (lv' := [(2, .ref (z + 0)), (0, .ref (ro 9 1)), (1, .int x1)]) X dJ7_copyOf_59c91_17 rfl (by decide) rfl ?_
    refine g_aload_n X dJ7_copyOf_59c91_18 1 rfl ?_
    refine g_iconst X dJ7_copyOf_59c91_19 kc_0 ?_
    refine g_aload_n X dJ7_copyOf_59c91_20 0 rfl ?_
    refine g_iconst X dJ7_copyOf_59c91_21 kc_0 ?_
    refine g_aload_n X dJ7_copyOf_59c91_22 1 rfl ?_
    refine ca_len_3_1 X kn_800 dJ7_copyOf_59c91_23 ?_
    refine g_iload_n X dJ7_copyOf_59c91_24 2 rfl ?_
    obtain ⟨hr25, hf⟩ := chk_some hf
    refine g_mmin X wd4_2 wd2_179 wd1_11 wd2_180 ⟨Nat.le_of_ble_eq_true rfl, Nat.le_of_ble_eq_true rfl⟩ (Nat.le_of_ble_eq_true rfl) hr25 dJ7_copyOf_59c91_25 ?_
    refine pm_copySP X ars_3_1 wd4_3 wd4_5 wd4_4 wd1_19 ⟨Nat.le_of_ble_eq_true rfl, by decide⟩ (Nat.le_of_ble_eq_true rfl) dJ7_copyOf_59c91_28 hf (fun P4 hf => ?_)
    refine g_aload_n X dJ7_copyOf_59c91_31 0 rfl ?_
    exact k_reta (P := P4) (S := S) (v := (z + 0)) (wf := fun res => CW E ho ro res.2.1 ++ res.2.2) hA hQ X hr hlk dJ7_copyOf_59c91_32 hf rfl
  cases hf
def rk_3_clause : Room := { frames := 841, cells := 1, slots := 6, locals := 19222 }
set_option maxRecDepth 100000 in
set_option maxHeartbeats 4000000 in
theorem cm_3_clause (l : Launch) (dC : Nat → ClassId) (dI : Nat → Nat → Nat) (E : Nat → ClassId) (ev : Nat → Nat) (ho : Nat → Nat) (ro : Nat → Nat → Nat) (F : Nat) (z : Nat) (P : va_W) (S : CS) (a1 : Nat)  (res : Int32 × CS × va_W) (hf : K_3_clause F E z S P a1 = some res) : CM l dC dI E ev yX3_clause cX3_clause 4 (some .boolean) rk_3_clause [.ref (ho 9), .ref a1] z (CW E ho ro S ++ P) (CW E ho ro res.2.1 ++ res.2.2) (some (.int res.1)) 1 6 := by
  refine CM_of (own := "LostLanes$Reader") (by decide) rfl (Nat.le_of_ble_eq_true rfl) ?_
  intro p e s m args below meth c A Q X Y hr hlk hin hsz hA hQ
  have hB181 : ∀ (S : CS) (P : va_W) (ce : Nat) (se : Nat) (a1 : Nat) (a3 : Nat), K_3_clause_B181 F E z S P ce se a1 a3 = some res → GG p l e rk_3_clause s m args below meth c dC dI A 4 ce se Q (CW E ho ro S ++ P) 181 [(0, .ref (ho 9)), (1, .ref a1), (3, .ref a3)] [] := by
    intro S P ce se a1 a3 hf
    unfold K_3_clause_B181 at hf
    refine g_aload_n X dX3_clause_181 2 rfl ?_
    refine g_aload_n X dX3_clause_182 0 rfl ?_
    refine cg_3_2 X wd1_169 dX3_clause_183 ?_
    refine pm_put X (cix := 0) (ty0 := tyX0) (v := .int (ci S 9 2)) u_in0 tyX0_ok nmX0 rfl 4 (by decide) wd3_144 rfl rfl rfl dX3_clause_186 hf (fun P1 hf => ?_)
    refine g_aload_n X dX3_clause_189 1 rfl ?_
    refine g_aload_n X dX3_clause_190 2 rfl ?_
    obtain ⟨hz191, hf⟩ := chk_some hf
    obtain ⟨hm191, hf⟩ := chk_some hf
    refine m_bind hf (fun y3 hy3 hf => ?_)
    refine cm_V (cix := 5) (As := [.ref a3]) (st := []) X Y kV_X3_117 (cm_5_add l dC dI E ev ho ro (z + ce) P1 S a1 a3 y3 hy3) (ob_pool hz191) rfl ⟨Nat.le_of_ble_eq_true rfl, Nat.le_of_ble_eq_true rfl⟩ ⟨rfl, rfl⟩ (Nat.le_of_ble_eq_true rfl) hsz hm191 dX3_clause_191 ?_
    refine g_iconst X dX3_clause_194 kc_1 ?_
    exact k_retz (P := y3.2.2) (S := y3.2.1) (wf := fun res => CW E ho ro res.2.1 ++ res.2.2) hA hQ X hr hlk (Or.inr rfl) dX3_clause_195 hf rfl
  have hB163 : ∀ (S : CS) (P : va_W) (ce : Nat) (se : Nat) (a1 : Nat) (a3 : Nat), K_3_clause_B163 F E z S P ce se a1 a3 = some res → GG p l e rk_3_clause s m args below meth c dC dI A 4 ce se Q (CW E ho ro S ++ P) 163 [(0, .ref (ho 9)), (1, .ref a1), (3, .ref a3)] [] := by
    intro S P ce se a1 a3 hf
    unfold K_3_clause_B163 at hf
    refine g_aload_n X dX3_clause_163 0 rfl ?_
    refine s_str (i := 6) X Y rfl dX3_clause_164 ?_
    obtain ⟨hr166, hf⟩ := chk_some hf
    refine m_bind hf (fun y4 hy4 hf => ?_)
    refine cw_V_i (cix := 3) (As := [.ref (ev (2 * 6 + 2))]) (st := []) X Y kV_X3_91 (cc_3_isKeyword l dC dI E ev ho ro F P S 6 (by decide) y4 hy4) ob_3 rfl ⟨Nat.le_of_ble_eq_true rfl, Nat.le_of_ble_eq_true rfl⟩ ⟨rfl, rfl⟩ (Nat.le_of_ble_eq_true rfl) hr166 dX3_clause_166 ?_
    refine g_if_eq (tgt := 181) X dX3_clause_169 (by decide) hf (fun hf => ?_) (fun hf => ?_)
    · exact hB181 _ _ _ _ _ _ hf
    refine g_aload_n X dX3_clause_172 0 rfl ?_
    obtain ⟨hr173, hf⟩ := chk_some hf
    refine m_bind hf (fun y5 hy5 hf => ?_)
    refine cw_V_i (cix := 3) (As := []) (st := []) X Y kV_X3_111 (cc_3_testD l dC dI E ev ho ro F P 10 y4.2 y5 hy5) ob_3 rfl ⟨Nat.le_of_ble_eq_true rfl, Nat.le_of_ble_eq_true rfl⟩ ⟨rfl, rfl⟩ (Nat.le_of_ble_eq_true rfl) hr173 dX3_clause_173 ?_
    refine g_if_ne (tgt := 181) X dX3_clause_176 (by decide) hf (fun hf => ?_) (fun hf => ?_)
    · exact hB181 _ _ _ _ _ _ hf
    refine g_iconst X dX3_clause_179 kc_0 ?_
    exact k_retz (P := P) (S := y5.2) (wf := fun res => CW E ho ro res.2.1 ++ res.2.2) hA hQ X hr hlk (Or.inl rfl) dX3_clause_180 hf rfl
  have hB112 : ∀ (S : CS) (P : va_W) (ce : Nat) (se : Nat) (a1 : Nat) (a3 : Nat), K_3_clause_B112 F E z S P ce se a1 a3 = some res → GG p l e rk_3_clause s m args below meth c dC dI A 4 ce se Q (CW E ho ro S ++ P) 112 [(0, .ref (ho 9)), (1, .ref a1), (3, .ref a3)] [] := by
    intro S P ce se a1 a3 hf
    unfold K_3_clause_B112 at hf
    refine g_aload_n X dX3_clause_112 2 rfl ?_
    refine g_aload_n X dX3_clause_113 0 rfl ?_
    refine cg_3_2 X wd1_169 dX3_clause_114 ?_
    refine pm_put X (cix := 0) (ty0 := tyX0) (v := .int (ci S 9 2)) u_in0 tyX0_ok nmX0 rfl 3 (by decide) wd3_140 rfl rfl rfl dX3_clause_117 hf (fun P6 hf => ?_)
    refine g_aload_n X dX3_clause_120 0 rfl ?_
    refine cg_3_3 X wd1_170 dX3_clause_121 ?_
    refine g_if_ne (tgt := 163) X dX3_clause_124 (by decide) hf (fun hf => ?_) (fun hf => ?_)
    · exact hB163 _ _ _ _ _ _ hf
    refine g_aload_n X dX3_clause_127 0 rfl ?_
    refine s_str (i := 5) X Y rfl dX3_clause_128 ?_
    obtain ⟨hr130, hf⟩ := chk_some hf
    refine m_bind hf (fun y8 hy8 hf => ?_)
    refine cw_V_i (cix := 3) (As := [.ref (ev (2 * 5 + 2))]) (st := []) X Y kV_X3_91 (cc_3_isKeyword l dC dI E ev ho ro F P6 S 5 (by decide) y8 hy8) ob_3 rfl ⟨Nat.le_of_ble_eq_true rfl, Nat.le_of_ble_eq_true rfl⟩ ⟨rfl, rfl⟩ (Nat.le_of_ble_eq_true rfl) hr130 dX3_clause_130 ?_
    refine g_if_eq (tgt := 163) X dX3_clause_133 (by decide) hf (fun hf => ?_) (fun hf => ?_)
    · exact hB163 _ _ _ _ _ _ hf
    refine g_aload_n X dX3_clause_136 0 rfl ?_
    refine g_iconst X dX3_clause_137 kc_1 ?_
    refine g_bipush X dX3_clause_138 kb_20 ?_
    obtain ⟨hr140, hf⟩ := chk_some hf
    refine m_bind hf (fun y9 hy9 hf => ?_)
    refine cw_V_i (cix := 3) (As := [.int (1 : Int32), .int (20 : Int32)]) (st := []) X Y kV_X3_100 (cc_3_isNumber l dC dI E ev ho ro P6 y8.2 (1 : Int32) (20 : Int32) y9 hy9) ob_3 rfl ⟨Nat.le_of_ble_eq_true rfl, Nat.le_of_ble_eq_true rfl⟩ ⟨rfl, rfl⟩ (Nat.le_of_ble_eq_true rfl) hr140 dX3_clause_140 ?_
    refine g_if_ne (tgt := 151) X dX3_clause_143 (by decide) hf (fun hf => ?_) (fun hf => ?_)
    · refine g_aload_n X dX3_clause_151 2 rfl ?_
      refine g_aload_n X dX3_clause_152 0 rfl ?_
      refine cg_3_7 X wd1_174 dX3_clause_153 ?_
      refine pm_put X (cix := 0) (ty0 := tyX0) (v := .int (ci y8.2 9 7)) u_in0 tyX0_ok nmX0 rfl 5 (by decide) wd3_148 rfl rfl rfl dX3_clause_156 hf (fun P10 hf => ?_)
      refine g_aload_n X dX3_clause_159 0 rfl ?_
      obtain ⟨hr160, hf⟩ := chk_some hf
      refine m_bind hf (fun y12 hy12 hf => ?_)
      refine cw_V_v (cix := 3) (As := []) (st := []) X Y kV_X3_42 (cc_3_advance l dC dI E ev ho ro F P10 y8.2 y12 hy12) ob_3 rfl ⟨Nat.le_of_ble_eq_true rfl, Nat.le_of_ble_eq_true rfl⟩ ⟨rfl, rfl⟩ (Nat.le_of_ble_eq_true rfl) hr160 dX3_clause_160 ?_
      exact hB163 _ _ _ _ _ _ hf
    refine g_aload_n X dX3_clause_146 0 rfl ?_
    obtain ⟨hr147, hf⟩ := chk_some hf
    refine m_bind hf (fun y13 hy13 hf => ?_)
    refine cw_V_i (cix := 3) (As := []) (st := []) X Y kV_X3_66 (cc_3_fail l dC dI E ev ho ro P6 y8.2 y13 hy13) ob_3 rfl ⟨Nat.le_of_ble_eq_true rfl, Nat.le_of_ble_eq_true rfl⟩ ⟨rfl, rfl⟩ (Nat.le_of_ble_eq_true rfl) hr147 dX3_clause_147 ?_
    obtain ⟨hz150, hf⟩ := chk_some hf
    exact k_retz (P := P6) (S := y13.2) (wf := fun res => CW E ho ro res.2.1 ++ res.2.2) hA hQ X hr hlk hz150 dX3_clause_150 hf rfl
  have hB107 : ∀ (S : CS) (P : va_W) (ce : Nat) (se : Nat), K_3_clause_B107 F E z S P ce se = some res → GG p l e rk_3_clause s m args below meth c dC dI A 4 ce se Q (CW E ho ro S ++ P) 107 [(0, .ref (ho 9))] [] := by
    intro S P ce se hf
    unfold K_3_clause_B107 at hf
    refine g_aload_n X dX3_clause_107 0 rfl ?_
    obtain ⟨hr108, hf⟩ := chk_some hf
    refine m_bind hf (fun y14 hy14 hf => ?_)
    refine cw_V_i (cix := 3) (As := []) (st := []) X Y kV_X3_66 (cc_3_fail l dC dI E ev ho ro P S y14 hy14) ob_3 rfl ⟨Nat.le_of_ble_eq_true rfl, Nat.le_of_ble_eq_true rfl⟩ ⟨rfl, rfl⟩ (Nat.le_of_ble_eq_true rfl) hr108 dX3_clause_108 ?_
    obtain ⟨hz111, hf⟩ := chk_some hf
    exact k_retz (P := P) (S := y14.2) (wf := fun res => CW E ho ro res.2.1 ++ res.2.2) hA hQ X hr hlk hz111 dX3_clause_111 hf rfl
  have hB71 : ∀ (S : CS) (P : va_W) (ce : Nat) (se : Nat) (a1 : Nat) (x2 : Int32) (a3 : Nat), K_3_clause_B71 F E z S P ce se a1 x2 a3 = some res → GG p l e rk_3_clause s m args below meth c dC dI A 4 ce se Q (CW E ho ro S ++ P) 71 [(0, .ref (ho 9)), (1, .ref a1), (2, .int x2), (3, .ref a3)] [] := by
    intro S P ce se a1 x2 a3 hf
    unfold K_3_clause_B71 at hf
    refine g_aload_n X dX3_clause_71 3 rfl ?_
    refine g_aload_n X dX3_clause_72 0 rfl ?_
    refine cg_3_2 X wd1_169 dX3_clause_73 ?_
    refine pm_put X (cix := 0) (ty0 := tyX0) (v := .int (ci S 9 2)) u_in0 tyX0_ok nmX0 rfl 2 (by decide) wd3_136 rfl rfl rfl dX3_clause_76 hf (fun P15 hf => ?_)
    refine g_aload_n X dX3_clause_79 0 rfl ?_
    refine cg_3_3 X wd1_170 dX3_clause_80 ?_
    refine g_if_ne (tgt := 112) X dX3_clause_83 (by decide) hf (fun hf => ?_) (fun hf => ?_)
    · refine g_lv [0, 1, 3] (lv' := [(0, .ref (ho 9)), (1, .ref a1), (3, .ref a3)]) rfl ?_
      exact hB112 _ _ _ _ _ _ hf
    refine g_iload_n X dX3_clause_86 2 rfl ?_
    refine g_iconst X dX3_clause_87 kc_2 ?_
    refine g_icmp_ne (tgt := 112) X dX3_clause_88 (by decide) hf (fun hf => ?_) (fun hf => ?_)
    · refine g_lv [0, 1, 3] (lv' := [(0, .ref (ho 9)), (1, .ref a1), (3, .ref a3)]) rfl ?_
      exact hB112 _ _ _ _ _ _ hf
    refine g_aload_n X dX3_clause_91 0 rfl ?_
    refine s_str (i := 4) X Y rfl dX3_clause_92 ?_
    obtain ⟨hr94, hf⟩ := chk_some hf
    refine m_bind hf (fun y17 hy17 hf => ?_)
    refine cw_V_i (cix := 3) (As := [.ref (ev (2 * 4 + 2))]) (st := []) X Y kV_X3_91 (cc_3_isKeyword l dC dI E ev ho ro F P15 S 4 (by decide) y17 hy17) ob_3 rfl ⟨Nat.le_of_ble_eq_true rfl, Nat.le_of_ble_eq_true rfl⟩ ⟨rfl, rfl⟩ (Nat.le_of_ble_eq_true rfl) hr94 dX3_clause_94 ?_
    refine g_if_eq (tgt := 107) X dX3_clause_97 (by decide) hf (fun hf => ?_) (fun hf => ?_)
    · refine g_lv [0] (lv' := [(0, .ref (ho 9))]) rfl ?_
      exact hB107 _ _ _ _ hf
    refine g_aload_n X dX3_clause_100 0 rfl ?_
    obtain ⟨hr101, hf⟩ := chk_some hf
    refine m_bind hf (fun y18 hy18 hf => ?_)
    refine cw_V_i (cix := 3) (As := []) (st := []) X Y kV_X3_83 (cc_3_sumD l dC dI E ev ho ro F P15 10 y17.2 y18 hy18) ob_3 rfl ⟨Nat.le_of_ble_eq_true rfl, Nat.le_of_ble_eq_true rfl⟩ ⟨rfl, rfl⟩ (Nat.le_of_ble_eq_true rfl) hr101 dX3_clause_101 ?_
    refine g_if_ne (tgt := 112) X dX3_clause_104 (by decide) hf (fun hf => ?_) (fun hf => ?_)
    · refine g_lv [0, 1, 3] (lv' := [(0, .ref (ho 9)), (1, .ref a1), (3, .ref a3)]) rfl ?_
      exact hB112 _ _ _ _ _ _ hf
    refine g_lv [0] (lv' := [(0, .ref (ho 9))]) rfl ?_
    exact hB107 _ _ _ _ hf
  have hB59 : ∀ (S : CS) (P : va_W) (ce : Nat) (se : Nat) (a1 : Nat) (x2 : Int32) (a3 : Nat) (tx0 : Int32) (tx1 : Int32), K_3_clause_B59 F E z S P ce se a1 x2 a3 tx0 tx1 = some res → GG p l e rk_3_clause s m args below meth c dC dI A 4 ce se Q (CW E ho ro S ++ P) 59 [(0, .ref (ho 9)), (1, .ref a1), (2, .int x2), (3, .ref a3)] [.int tx1, .int tx0] := by
    intro S P ce se a1 x2 a3 tx0 tx1 hf
    unfold K_3_clause_B59 at hf
    refine g_icmp_eq (tgt := 71) X dX3_clause_59 (by decide) hf (fun hf => ?_) (fun hf => ?_)
    · exact hB71 _ _ _ _ _ _ _ hf
    refine g_aload_n X dX3_clause_62 0 rfl ?_
    obtain ⟨hr63, hf⟩ := chk_some hf
    refine m_bind hf (fun y19 hy19 hf => ?_)
    refine cw_V_i (cix := 3) (As := []) (st := []) X Y kV_X3_83 (cc_3_sumD l dC dI E ev ho ro F P 10 S y19 hy19) ob_3 rfl ⟨Nat.le_of_ble_eq_true rfl, Nat.le_of_ble_eq_true rfl⟩ ⟨rfl, rfl⟩ (Nat.le_of_ble_eq_true rfl) hr63 dX3_clause_63 ?_
    refine g_if_ne (tgt := 71) X dX3_clause_66 (by decide) hf (fun hf => ?_) (fun hf => ?_)
    · exact hB71 _ _ _ _ _ _ _ hf
    refine g_iconst X dX3_clause_69 kc_0 ?_
    exact k_retz (P := P) (S := y19.2) (wf := fun res => CW E ho ro res.2.1 ++ res.2.2) hA hQ X hr hlk (Or.inl rfl) dX3_clause_70 hf rfl
  have hB15 : ∀ (S : CS) (P : va_W) (ce : Nat) (se : Nat) (a1 : Nat) (ti1 : Nat), K_3_clause_B15 F E z S P ce se a1 ti1 = some res → GG p l e rk_3_clause s m args below meth c dC dI A 4 ce se Q (CW E ho ro S ++ P) 15 [(0, .ref (ho 9)), (1, .ref a1)] [.ref (ev (2 * ti1 + 2)), .ref (ho 9)] := by
    intro S P ce se a1 ti1 hf
    unfold K_3_clause_B15 at hf
    obtain ⟨hzs15, hf⟩ := chk_some hf
    obtain ⟨hr15, hf⟩ := chk_some hf
    refine m_bind hf (fun y20 hy20 hf => ?_)
    refine cw_V_i (cix := 3) (As := [.ref (ev (2 * ti1 + 2))]) (st := []) X Y kV_X3_74 (cc_3_choice l dC dI E ev ho ro F P S ti1 hzs15 y20 hy20) ob_3 rfl ⟨Nat.le_of_ble_eq_true rfl, Nat.le_of_ble_eq_true rfl⟩ ⟨rfl, rfl⟩ (Nat.le_of_ble_eq_true rfl) hr15 dX3_clause_15 ?_
    refine g_istore_n (i := 2) (lv' := [(2, .int y20), (0, .ref (ho 9)), (1, .ref a1)]) X dX3_clause_18 rfl (by decide) rfl ?_
    refine g_iload_n X dX3_clause_19 0 rfl ?_
    refine g_iconst X dX3_clause_20 kc_m1 ?_
    refine g_icmp_ne (tgt := 29) X dX3_clause_21 (by decide) hf (fun hf => ?_) (fun hf => ?_)
    · refine g_aload_n X dX3_clause_29 1 rfl ?_
      obtain ⟨hr30, hf⟩ := chk_some hf
      refine m_bind hf (fun y21 hy21 hf => ?_)
      refine cw_V_v (cix := 3) (As := []) (st := []) X Y kV_X3_42 (cc_3_advance l dC dI E ev ho ro F P S y21 hy21) ob_3 rfl ⟨Nat.le_of_ble_eq_true rfl, Nat.le_of_ble_eq_true rfl⟩ ⟨rfl, rfl⟩ (Nat.le_of_ble_eq_true rfl) hr30 dX3_clause_30 ?_
      refine mk_new X (cix := 0) (ty := tyX0) (fs := [.int 0, .int 0, .int 0, .int 0, .int 0, .int 0]) u_in0 tyX0_ok wd3_124 wd3_125 wd1_17 rfl nd_0 hsz dX3_clause_33 hf (fun P22 hf => ?_)
      refine g_dup X dX3_clause_36 rfl ?_
      refine g_iload_n X dX3_clause_37 0 rfl ?_
      refine g_aload_n X dX3_clause_38 1 rfl ?_
      refine cg_3_2 X wd1_169 dX3_clause_39 ?_
      obtain ⟨hm42, hf⟩ := chk_some hf
      refine m_bind hf (fun y23 hy23 hf => ?_)
      refine cm_I (As := [.int y20, .int (ci y21.2 9 2)]) (st := [.ref (z + ce)]) X Y kI_X3_80 (cm_0_init l dC dI E ev ho ro (z + (ce + 1)) P22 y21.2 (z + ce) y20 (ci y21.2 9 2) y23 hy23) ⟨Nat.le_of_ble_eq_true rfl, Nat.le_of_ble_eq_true rfl⟩ ⟨rfl, rfl⟩ (Nat.le_of_ble_eq_true rfl) hsz hm42 dX3_clause_42 ?_
      refine g_astore_n (i := 3) (lv' := [(3, .ref (z + ce)), (2, .int y20), (0, .ref (ho 9)), (1, .ref a1)]) X dX3_clause_45 rfl (by decide) rfl ?_
      refine g_iload_n X dX3_clause_46 1 rfl ?_
      refine g_aload_n X dX3_clause_47 2 rfl ?_
      refine cg_3_3 X wd1_170 dX3_clause_48 ?_
      refine g_if_eq (tgt := 58) X dX3_clause_51 (by decide) hf (fun hf => ?_) (fun hf => ?_)
      · refine g_iconst X dX3_clause_58 kc_3 ?_
        refine g_lv [2, 3, 1, 0] (lv' := [(0, .ref (ho 9)), (1, .ref a1), (2, .int y20), (3, .ref (z + ce))]) rfl ?_
        exact hB59 _ _ _ _ _ _ _ _ _ hf
      refine g_iconst X dX3_clause_54 kc_2 ?_
      refine g_goto (tgt := 59) X dX3_clause_55 (by decide) ?_
      refine g_lv [2, 3, 1, 0] (lv' := [(0, .ref (ho 9)), (1, .ref a1), (2, .int y20), (3, .ref (z + ce))]) rfl ?_
      exact hB59 _ _ _ _ _ _ _ _ _ hf
    refine g_aload_n X dX3_clause_24 1 rfl ?_
    obtain ⟨hr25, hf⟩ := chk_some hf
    refine m_bind hf (fun y24 hy24 hf => ?_)
    refine cw_V_i (cix := 3) (As := []) (st := []) X Y kV_X3_66 (cc_3_fail l dC dI E ev ho ro P S y24 hy24) ob_3 rfl ⟨Nat.le_of_ble_eq_true rfl, Nat.le_of_ble_eq_true rfl⟩ ⟨rfl, rfl⟩ (Nat.le_of_ble_eq_true rfl) hr25 dX3_clause_25 ?_
    obtain ⟨hz28, hf⟩ := chk_some hf
    exact k_retz (P := P) (S := y24.2) (wf := fun res => CW E ho ro res.2.1 ++ res.2.2) hA hQ X hr hlk hz28 dX3_clause_28 hf rfl
  refine g_lv [0, 1] (lv' := [(0, .ref (ho 9)), (1, .ref a1)]) rfl ?_
  unfold K_3_clause at hf
  refine g_aload_n X dX3_clause_0 0 rfl ?_
  refine g_aload_n X dX3_clause_1 0 rfl ?_
  refine cg_3_3 X wd1_170 dX3_clause_2 ?_
  refine g_if_eq (tgt := 13) X dX3_clause_5 (by decide) hf (fun hf => ?_) (fun hf => ?_)
  · refine s_str (i := 1) X Y rfl dX3_clause_13 ?_
    exact hB15 _ _ _ _ _ _ hf
  refine s_str (i := 0) X Y rfl dX3_clause_8 ?_
  refine g_goto (tgt := 15) X dX3_clause_10 (by decide) ?_
  exact hB15 _ _ _ _ _ _ hf
def rk_3_read : Room := { frames := 842, cells := 17, slots := 900, locals := 19245 }
set_option maxRecDepth 100000 in
set_option maxHeartbeats 4000000 in
theorem cm_3_read (l : Launch) (dC : Nat → ClassId) (dI : Nat → Nat → Nat) (E : Nat → ClassId) (ev : Nat → Nat) (ho : Nat → Nat) (ro : Nat → Nat → Nat) (F : Nat) (z : Nat) (P : va_W) (S : CS) (x1 : Int32)  (res : (Option Nat) × CS × va_W) (hf : K_3_read F E z S P x1 = some res) : CM l dC dI E ev yX3_read cX3_read 4 (some (.object "LostLanes$Script")) rk_3_read [.ref (ho 9), .int x1] z (CW E ho ro S ++ P) (CW E ho ro res.2.1 ++ res.2.2) (some (va_rf res.1)) 17 900 := by
  refine CM_of (own := "LostLanes$Reader") (by decide) rfl (Nat.le_of_ble_eq_true rfl) ?_
  intro p e s m args below meth c A Q X Y hr hlk hin hsz hA hQ
  have hL44 : ∀ (a2 : Nat) (n : Nat) (S : CS) (P : va_W) (ce : Nat) (se : Nat) (x3 : Int32), K_3_read_L44 F E z a2 n S P ce se x3 = some res → GG p l e rk_3_read s m args below meth c dC dI A 4 ce se Q (CW E ho ro S ++ P) 44 [(0, .ref (ho 9)), (2, .ref a2), (3, .int x3)] [] := by
    intro a2 n
    induction n with
    | zero => intro S P ce se x3 hf; have hf : (none : Option ((Option Nat) × CS × va_W)) = some res := hf; cases hf
    | succ n ih =>
      intro S P ce se x3 hf
      rw [K_3_read_L44] at hf
      refine g_iload_n X dX3_read_44 2 rfl ?_
      refine g_bipush X dX3_read_45 kb_12 ?_
      refine g_icmp_ge (tgt := 110) X dX3_read_47 (by decide) hf (fun hf => ?_) (fun hf => ?_)
      · refine g_aload_n X dX3_read_110 0 rfl ?_
        obtain ⟨hr111, hf⟩ := chk_some hf
        refine m_bind hf (fun y1 hy1 hf => ?_)
        refine cw_V_i (cix := 3) (As := []) (st := []) X Y kV_X3_66 (cc_3_fail l dC dI E ev ho ro P S y1 hy1) ob_3 rfl ⟨Nat.le_of_ble_eq_true rfl, Nat.le_of_ble_eq_true rfl⟩ ⟨rfl, rfl⟩ (Nat.le_of_ble_eq_true rfl) hr111 dX3_read_111 ?_
        refine g_pop X dX3_read_114 rfl ?_
        refine g_null X dX3_read_115 ?_
        exact k_retq (P := P) (S := y1.2) (v := none) (wf := fun res => CW E ho ro res.2.1 ++ res.2.2) hA hQ X hr hlk dX3_read_116 hf rfl
      refine g_aload_n X dX3_read_50 0 rfl ?_
      refine g_aload_n X dX3_read_51 1 rfl ?_
      obtain ⟨hm52, hf⟩ := chk_some hf
      refine m_bind hf (fun y2 hy2 hf => ?_)
      refine cm_V (cix := 3) (As := [.ref a2]) (st := []) X Y kV_X3_48 (cm_3_clause l dC dI E ev ho ro F (z + ce) P S a2 y2 hy2) ob_3 rfl ⟨Nat.le_of_ble_eq_true rfl, Nat.le_of_ble_eq_true rfl⟩ ⟨rfl, rfl⟩ (Nat.le_of_ble_eq_true rfl) hsz hm52 dX3_read_52 ?_
      refine g_if_ne (tgt := 60) X dX3_read_55 (by decide) hf (fun hf => ?_) (fun hf => ?_)
      · refine g_aload_n X dX3_read_60 0 rfl ?_
        refine cg_3_4 X wd1_171 dX3_read_61 ?_
        refine g_if_ne (tgt := 84) X dX3_read_64 (by decide) hf (fun hf => ?_) (fun hf => ?_)
        · refine g_aload_n X dX3_read_84 0 rfl ?_
          refine g_bipush X dX3_read_85 kb_59 ?_
          obtain ⟨hr87, hf⟩ := chk_some hf
          refine m_bind hf (fun y3 hy3 hf => ?_)
          refine cw_V_i (cix := 3) (As := [.int (59 : Int32)]) (st := []) X Y kV_X3_62 (cc_3_isSign l dC dI E ev ho ro y2.2.2 y2.2.1 (59 : Int32) y3 hy3) ob_3 rfl ⟨Nat.le_of_ble_eq_true rfl, Nat.le_of_ble_eq_true rfl⟩ ⟨rfl, rfl⟩ (Nat.le_of_ble_eq_true rfl) hr87 dX3_read_87 ?_
          refine g_if_ne (tgt := 100) X dX3_read_90 (by decide) hf (fun hf => ?_) (fun hf => ?_)
          · refine g_aload_n X dX3_read_100 0 rfl ?_
            obtain ⟨hr101, hf⟩ := chk_some hf
            refine m_bind hf (fun y4 hy4 hf => ?_)
            refine cw_V_v (cix := 3) (As := []) (st := []) X Y kV_X3_42 (cc_3_advance l dC dI E ev ho ro F y2.2.2 y2.2.1 y4 hy4) ob_3 rfl ⟨Nat.le_of_ble_eq_true rfl, Nat.le_of_ble_eq_true rfl⟩ ⟨rfl, rfl⟩ (Nat.le_of_ble_eq_true rfl) hr101 dX3_read_101 ?_
            refine g_iinc (lv' := [(3, .int (x3 + (1 : Int32))), (0, .ref (ho 9)), (2, .ref a2)]) X dX3_read_104 2 rfl kc_1 (by decide) rfl ?_
            refine g_goto (tgt := 44) X dX3_read_107 (by decide) ?_
            refine g_lv [1, 2, 0] (lv' := [(0, .ref (ho 9)), (2, .ref a2), (3, .int (x3 + (1 : Int32)))]) rfl ?_
            exact ih _ _ _ _ _ hf
          refine g_aload_n X dX3_read_93 0 rfl ?_
          obtain ⟨hr94, hf⟩ := chk_some hf
          refine m_bind hf (fun y5 hy5 hf => ?_)
          refine cw_V_i (cix := 3) (As := []) (st := []) X Y kV_X3_66 (cc_3_fail l dC dI E ev ho ro y2.2.2 y2.2.1 y5 hy5) ob_3 rfl ⟨Nat.le_of_ble_eq_true rfl, Nat.le_of_ble_eq_true rfl⟩ ⟨rfl, rfl⟩ (Nat.le_of_ble_eq_true rfl) hr94 dX3_read_94 ?_
          refine g_pop X dX3_read_97 rfl ?_
          refine g_null X dX3_read_98 ?_
          exact k_retq (P := y2.2.2) (S := y5.2) (v := none) (wf := fun res => CW E ho ro res.2.1 ++ res.2.2) hA hQ X hr hlk dX3_read_99 hf rfl
        refine g_aload_n X dX3_read_67 1 rfl ?_
        refine g_aload_n X dX3_read_68 0 rfl ?_
        refine cg_3_1 X wd1_168 dX3_read_69 ?_
        refine g_aload_n X dX3_read_72 0 rfl ?_
        refine cg_3_2 X wd1_169 dX3_read_73 ?_
        obtain ⟨hm76, hf⟩ := chk_some hf
        refine m_bind hf (fun y6 hy6 hf => ?_)
        refine cm_T (As := [.ref (ro 9 1), .int (ci y2.2.1 9 2)]) (st := [.ref a2]) X Y kT_X3_55 (cm_J7_copyOf l dC dI E ev ho ro (z + (ce + 1)) y2.2.2 y2.2.1 (ci y2.2.1 9 2) y6 hy6) ⟨Nat.le_of_ble_eq_true rfl, Nat.le_of_ble_eq_true rfl⟩ ⟨rfl, rfl⟩ (Nat.le_of_ble_eq_true rfl) hsz hm76 dX3_read_76 ?_
        refine pm_put X (cix := 5) (ty0 := tyX5) (v := .ref y6.1) u_in5 tyX5_ok nmX5 rfl 2 (by decide) wd3_52 rfl rfl rfl dX3_read_79 hf (fun P7 hf => ?_)
        refine g_aload_n X dX3_read_82 1 rfl ?_
        exact k_retq (P := P7) (S := y6.2.1) (v := (some a2)) (wf := fun res => CW E ho ro res.2.1 ++ res.2.2) hA hQ X hr hlk dX3_read_83 hf rfl
      refine g_null X dX3_read_58 ?_
      exact k_retq (P := y2.2.2) (S := y2.2.1) (v := none) (wf := fun res => CW E ho ro res.2.1 ++ res.2.2) hA hQ X hr hlk dX3_read_59 hf rfl
  refine g_lv [0, 1] (lv' := [(0, .ref (ho 9)), (1, .int x1)]) rfl ?_
  unfold K_3_read at hf
  refine g_aload_n X dX3_read_0 0 rfl ?_
  refine g_iload_n X dX3_read_1 1 rfl ?_
  obtain ⟨hz2, hf⟩ := chk_some hf
  refine cp_3_3 X hz2 wd1_170 dX3_read_2 hf (fun S9 hf => ?_)
  refine g_aload_n X dX3_read_5 0 rfl ?_
  refine g_iconst X dX3_read_6 kc_0 ?_
  refine cp_3_2 X wd1_169 dX3_read_7 hf (fun S10 hf => ?_)
  refine g_aload_n X dX3_read_10 0 rfl ?_
  refine g_iconst X dX3_read_11 kc_0 ?_
  refine cp_3_6 X wd1_173 dX3_read_12 hf (fun S11 hf => ?_)
  refine g_aload_n X dX3_read_15 0 rfl ?_
  refine g_iconst X dX3_read_16 kc_0 ?_
  refine cp_3_8 X wd1_175 dX3_read_17 hf (fun S12 hf => ?_)
  refine g_aload_n X dX3_read_20 0 rfl ?_
  refine g_iconst X dX3_read_21 kc_0 ?_
  refine cp_3_9 X wd1_176 dX3_read_22 hf (fun S13 hf => ?_)
  refine g_aload_n X dX3_read_25 0 rfl ?_
  refine g_iconst X dX3_read_26 kc_m1 ?_
  refine cp_3_10 X wd1_177 dX3_read_27 hf (fun S14 hf => ?_)
  refine g_aload_n X dX3_read_30 0 rfl ?_
  refine m_bind hf (fun y15 hy15 hf => ?_)
  refine cw_V_v (cix := 3) (As := []) (st := []) X Y kV_X3_42 (cc_3_advance l dC dI E ev ho ro F P S14 y15 hy15) ob_3 rfl ⟨Nat.le_of_ble_eq_true rfl, Nat.le_of_ble_eq_true rfl⟩ ⟨rfl, rfl⟩ (Nat.le_of_ble_eq_true rfl) ⟨Nat.le_of_ble_eq_true rfl, Nat.le_of_ble_eq_true rfl⟩ dX3_read_31 ?_
  refine mk_new X (cix := 5) (ty := tyX5) (fs := [.null, .int 0, .null]) u_in5 tyX5_ok wd3_37 wd3_38 wd1_12 rfl nd_5 hsz dX3_read_34 hf (fun P16 hf => ?_)
  refine g_dup X dX3_read_37 rfl ?_
  obtain ⟨hm38, hf⟩ := chk_some hf
  refine m_bind hf (fun y17 hy17 hf => ?_)
  refine cm_J (As := []) (st := [.ref (z + 0)]) X Y kJ_X3_47 (cm_5_init l dC dI E ev ho ro (z + (0 + 1)) P16 y15.2 (z + 0) y17 hy17) ⟨Nat.le_of_ble_eq_true rfl, Nat.le_of_ble_eq_true rfl⟩ ⟨rfl, rfl⟩ (Nat.le_of_ble_eq_true rfl) hsz hm38 dX3_read_38 ?_
  refine g_astore_n (i := 2) (lv' := [(2, .ref (z + 0)), (0, .ref (ho 9)), (1, .int x1)]) X dX3_read_41 rfl (by decide) rfl ?_
  refine g_iconst X dX3_read_42 kc_0 ?_
  refine g_istore_n (i := 3) (lv' := [(3, .int (0 : Int32)), (2, .ref (z + 0)), (0, .ref (ho 9)), (1, .int x1)]) X dX3_read_43 rfl (by decide) rfl ?_
  refine g_lv [2, 1, 0] (lv' := [(0, .ref (ho 9)), (2, .ref (z + 0)), (3, .int (0 : Int32))]) rfl ?_
  exact hL44 _ _ _ _ _ _ _ hf
def rk_10_law : Room := { frames := 843, cells := 17, slots := 900, locals := 19268 }
set_option maxRecDepth 100000 in
set_option maxHeartbeats 4000000 in
theorem cm_10_law (l : Launch) (dC : Nat → ClassId) (dI : Nat → Nat → Nat) (E : Nat → ClassId) (ev : Nat → Nat) (ho : Nat → Nat) (ro : Nat → Nat → Nat) (F : Nat) (z : Nat) (P : va_W) (S : CS)   (res : Int32 × CS × va_W) (hf : K_10_law F E z S P = some res) : CM l dC dI E ev yX10_law cX10_law 2 (some .int) rk_10_law [.ref (ho 0)] z (CW E ho ro S ++ P) (CW E ho ro res.2.1 ++ res.2.2) (some (.int res.1)) 17 900 := by
  refine CM_of (own := "LostLanes") (by decide) rfl (Nat.le_of_ble_eq_true rfl) ?_
  intro p e s m args below meth c A Q X Y hr hlk hin hsz hA hQ
  refine g_lv [0] (lv' := [(0, .ref (ho 0))]) rfl ?_
  unfold K_10_law at hf
  refine g_aload_n X dX10_law_0 0 rfl ?_
  refine cg_10_0 X wd2_50 dX10_law_1 ?_
  refine cg_7_14 X tw_1 wd1_88 dX10_law_4 ?_
  refine g_bipush X dX10_law_7 kb_6 ?_
  refine g_icmp_lt (tgt := 27) X dX10_law_9 (by decide) hf (fun hf => ?_) (fun hf => ?_)
  · refine g_aload_n X dX10_law_27 0 rfl ?_
    refine cg_10_6 X wd2_56 dX10_law_28 ?_
    refine g_iconst X dX10_law_31 kc_1 ?_
    obtain ⟨hm32, hf⟩ := chk_some hf
    refine m_bind hf (fun y1 hy1 hf => ?_)
    refine cm_V (cix := 3) (As := [.int (1 : Int32)]) (st := []) X Y kV_X10_194 (cm_3_read l dC dI E ev ho ro F (z + 0) P S (1 : Int32) y1 hy1) ob_3 rfl ⟨Nat.le_of_ble_eq_true rfl, Nat.le_of_ble_eq_true rfl⟩ ⟨rfl, rfl⟩ (Nat.le_of_ble_eq_true rfl) hsz hm32 dX10_law_32 ?_
    generalize y1.1 = qv2 at hf ⊢
    have hf := nmq_eq hf
    refine g_astore_nq (i := 1) (lv' := [(1, va_rf qv2), (0, .ref (ho 0))]) X dX10_law_35 rfl (by decide) rfl ?_
    refine g_aload_n X dX10_law_36 1 rfl ?_
    refine cg_10_7 X wd2_57 dX10_law_37 ?_
    refine g_iconst X dX10_law_40 kc_0 ?_
    refine cp_6_1 X wd1_159 dX10_law_41 hf (fun S3 hf => ?_)
    refine g_aload_nq (q := qv2) X dX10_law_44 0 rfl ?_
    refine g_ifnonnull (tgt := 55) X dX10_law_45 (by decide) hf (fun hq hfn => ?_) (fun an4 hq hfn => ?_)
    · subst hq
      have hf := hfn
      refine g_aload_n X dX10_law_48 1 rfl ?_
      refine g_bipush X dX10_law_49 kb_m6 ?_
      refine m_bind hf (fun y5 hy5 hf => ?_)
      refine cw_V_i (cix := 10) (As := [.int (-6 : Int32)]) (st := []) X Y kV_X10_93 (cc_10_refuse l dC dI E ev ho ro y1.2.2 S3 (-6 : Int32) y5 hy5) ob_10 rfl ⟨Nat.le_of_ble_eq_true rfl, Nat.le_of_ble_eq_true rfl⟩ ⟨rfl, rfl⟩ (Nat.le_of_ble_eq_true rfl) ⟨Nat.le_of_ble_eq_true rfl, Nat.le_of_ble_eq_true rfl⟩ dX10_law_51 ?_
      exact k_reti (P := y1.2.2) (S := y5.2) (wf := fun res => CW E ho ro res.2.1 ++ res.2.2) hA hQ X hr hlk dX10_law_54 hf rfl
    subst hq
    have hf := hfn
    refine g_aload_n X dX10_law_55 1 rfl ?_
    refine cg_10_0 X wd2_50 dX10_law_56 ?_
    refine cg_7_13 X tw_1 wd1_86 dX10_law_59 ?_
    refine g_aload_n X dX10_law_62 1 rfl ?_
    refine cg_10_0 X wd2_50 dX10_law_63 ?_
    refine cg_7_14 X tw_1 wd1_88 dX10_law_66 ?_
    refine g_aload_n X dX10_law_69 0 rfl ?_
    refine ca_stq_7_13 (q := (some an4)) X tw_1 dX10_law_70 hf (fun S6 hf => ?_)
    refine g_aload_n X dX10_law_71 1 rfl ?_
    refine cg_10_0 X wd2_50 dX10_law_72 ?_
    refine g_dup X dX10_law_75 rfl ?_
    refine cg_7_14 X tw_1 wd1_88 dX10_law_76 ?_
    refine g_iconst X dX10_law_79 kc_1 ?_
    refine g_iadd X dX10_law_80 ?_
    refine cp_7_14 X tw_1 wd1_88 dX10_law_81 hf (fun S7 hf => ?_)
    refine g_aload_n X dX10_law_84 1 rfl ?_
    refine g_aload_n X dX10_law_85 1 rfl ?_
    refine cg_10_0 X wd2_50 dX10_law_86 ?_
    refine cg_7_14 X tw_1 wd1_88 dX10_law_89 ?_
    refine g_iconst X dX10_law_92 kc_1 ?_
    refine g_isub X dX10_law_93 ?_
    refine m_bind hf (fun y8 hy8 hf => ?_)
    refine cw_V_i (cix := 10) (As := [.int ((ci S7 1 14) - (1 : Int32))]) (st := []) X Y kV_X10_107 (cc_10_accept l dC dI E ev ho ro y1.2.2 S7 ((ci S7 1 14) - (1 : Int32)) y8 hy8) ob_10 rfl ⟨Nat.le_of_ble_eq_true rfl, Nat.le_of_ble_eq_true rfl⟩ ⟨rfl, rfl⟩ (Nat.le_of_ble_eq_true rfl) ⟨Nat.le_of_ble_eq_true rfl, Nat.le_of_ble_eq_true rfl⟩ dX10_law_94 ?_
    exact k_reti (P := y1.2.2) (S := y8.2) (wf := fun res => CW E ho ro res.2.1 ++ res.2.2) hA hQ X hr hlk dX10_law_97 hf rfl
  refine g_aload_n X dX10_law_12 0 rfl ?_
  refine cg_10_7 X wd2_57 dX10_law_13 ?_
  refine g_iconst X dX10_law_16 kc_0 ?_
  refine cp_6_1 X wd1_159 dX10_law_17 hf (fun S9 hf => ?_)
  refine g_aload_n X dX10_law_20 0 rfl ?_
  refine g_bipush X dX10_law_21 kb_m5 ?_
  refine m_bind hf (fun y10 hy10 hf => ?_)
  refine cw_V_i (cix := 10) (As := [.int (-5 : Int32)]) (st := []) X Y kV_X10_93 (cc_10_refuse l dC dI E ev ho ro P S9 (-5 : Int32) y10 hy10) ob_10 rfl ⟨Nat.le_of_ble_eq_true rfl, Nat.le_of_ble_eq_true rfl⟩ ⟨rfl, rfl⟩ (Nat.le_of_ble_eq_true rfl) ⟨Nat.le_of_ble_eq_true rfl, Nat.le_of_ble_eq_true rfl⟩ dX10_law_23 ?_
  exact k_reti (P := P) (S := y10.2) (wf := fun res => CW E ho ro res.2.1 ++ res.2.2) hA hQ X hr hlk dX10_law_26 hf rfl
def rk_10_orders : Room := { frames := 843, cells := 17, slots := 900, locals := 19268 }
set_option maxRecDepth 100000 in
set_option maxHeartbeats 4000000 in
theorem cm_10_orders (l : Launch) (dC : Nat → ClassId) (dI : Nat → Nat → Nat) (E : Nat → ClassId) (ev : Nat → Nat) (ho : Nat → Nat) (ro : Nat → Nat → Nat) (F : Nat) (z : Nat) (P : va_W) (S : CS)   (res : Int32 × CS × va_W) (hf : K_10_orders F E z S P = some res) : CM l dC dI E ev yX10_orders cX10_orders 5 (some .int) rk_10_orders [.ref (ho 0)] z (CW E ho ro S ++ P) (CW E ho ro res.2.1 ++ res.2.2) (some (.int res.1)) 17 900 := by
  refine CM_of (own := "LostLanes") (by decide) rfl (Nat.le_of_ble_eq_true rfl) ?_
  intro p e s m args below meth c A Q X Y hr hlk hin hsz hA hQ
  have hB123 : ∀ (a1 : Nat) (k71 : CS → va_W → Nat → Nat → Int32 → Option (Int32 × CS × va_W)) (hk71 : ∀ (S : CS) (P : va_W) (ce : Nat) (se : Nat) (x2 : Int32), k71 S P ce se x2 = some res → GG p l e rk_10_orders s m args below meth c dC dI A 5 ce se Q (CW E ho ro S ++ P) 71 [(0, .ref (ho 0)), (1, .ref a1), (2, .int x2)] []) (S : CS) (P : va_W) (ce : Nat) (se : Nat) (x2 : Int32), K_10_orders_B123 F E z k71 S P ce se a1 x2 = some res → GG p l e rk_10_orders s m args below meth c dC dI A 5 ce se Q (CW E ho ro S ++ P) 123 [(0, .ref (ho 0)), (1, .ref a1), (2, .int x2)] [] := by
    intro a1 k71 hk71 S P ce se x2 hf
    unfold K_10_orders_B123 at hf
    refine g_iinc (lv' := [(2, .int (x2 + (1 : Int32))), (0, .ref (ho 0)), (1, .ref a1)]) X dX10_orders_123 2 rfl kc_1 (by decide) rfl ?_
    refine g_goto (tgt := 71) X dX10_orders_126 (by decide) ?_
    refine g_lv [1, 2, 0] (lv' := [(0, .ref (ho 0)), (1, .ref a1), (2, .int (x2 + (1 : Int32)))]) rfl ?_
    exact hk71 _ _ _ _ _ hf
  have hL89 : ∀ (a1 : Nat) (k71 : CS → va_W → Nat → Nat → Int32 → Option (Int32 × CS × va_W)) (hk71 : ∀ (S : CS) (P : va_W) (ce : Nat) (se : Nat) (x2 : Int32), k71 S P ce se x2 = some res → GG p l e rk_10_orders s m args below meth c dC dI A 5 ce se Q (CW E ho ro S ++ P) 71 [(0, .ref (ho 0)), (1, .ref a1), (2, .int x2)] []) (x2 : Int32) (q3 : Option Nat) (n : Nat) (S : CS) (P : va_W) (ce : Nat) (se : Nat) (x4 : Int32), K_10_orders_L89 F E z k71 a1 x2 q3 n S P ce se x4 = some res → GG p l e rk_10_orders s m args below meth c dC dI A 5 ce se Q (CW E ho ro S ++ P) 89 [(0, .ref (ho 0)), (1, .ref a1), (2, .int x2), (3, va_rf q3), (4, .int x4)] [] := by
    intro a1 k71 hk71 x2 q3 n
    induction n with
    | zero => intro S P ce se x4 hf; have hf : (none : Option (Int32 × CS × va_W)) = some res := hf; cases hf
    | succ n ih =>
      intro S P ce se x4 hf
      rw [K_10_orders_L89] at hf
      refine g_aload_nq (q := q3) X dX10_orders_89 3 rfl ?_
      refine g_ifnull (tgt := 123) X dX10_orders_90 (by decide) hf (fun hq hfn => ?_) (fun an1 hq hfn => ?_)
      · subst hq
        have hf := hfn
        refine g_lv [0, 1, 2] (lv' := [(0, .ref (ho 0)), (1, .ref a1), (2, .int x2)]) rfl ?_
        exact hB123 _ _ hk71 _ _ _ _ _ hf
      subst hq
      have hf := hfn
      refine g_iload X dX10_orders_93 4 rfl ?_
      refine g_aload_n X dX10_orders_95 3 rfl ?_
      refine pg_0_5 X wd3_149 dX10_orders_96 hf (fun v2 hf => ?_)
      refine g_icmp_ge (tgt := 123) X dX10_orders_99 (by decide) hf (fun hf => ?_) (fun hf => ?_)
      · refine g_lv [0, 1, 2] (lv' := [(0, .ref (ho 0)), (1, .ref a1), (2, .int x2)]) rfl ?_
        exact hB123 _ _ hk71 _ _ _ _ _ hf
      refine g_aload_n X dX10_orders_102 0 rfl ?_
      refine g_aload_n X dX10_orders_103 1 rfl ?_
      refine g_aload_n X dX10_orders_104 3 rfl ?_
      obtain ⟨hr105, hf⟩ := chk_some hf
      refine m_bind hf (fun y3 hy3 hf => ?_)
      refine cw_V_i (cix := 10) (As := [.ref a1, .ref an1]) (st := []) X Y kV_X10_221 (cc_10_obey l dC dI E ev ho ro F P S a1 an1 y3 hy3) ob_10 rfl ⟨Nat.le_of_ble_eq_true rfl, Nat.le_of_ble_eq_true rfl⟩ ⟨rfl, rfl⟩ (Nat.le_of_ble_eq_true rfl) hr105 dX10_orders_105 ?_
      refine g_if_ne (tgt := 117) X dX10_orders_108 (by decide) hf (fun hf => ?_) (fun hf => ?_)
      · refine g_iinc (lv' := [(4, .int (x4 + (1 : Int32))), (0, .ref (ho 0)), (1, .ref a1), (2, .int x2), (3, .ref an1)]) X dX10_orders_117 4 rfl kc_1 (by decide) rfl ?_
        refine g_goto (tgt := 89) X dX10_orders_120 (by decide) ?_
        refine g_lv [1, 2, 3, 4, 0] (lv' := [(0, .ref (ho 0)), (1, .ref a1), (2, .int x2), (3, .ref an1), (4, .int (x4 + (1 : Int32)))]) rfl ?_
        exact ih _ _ _ _ _ hf
      refine g_aload_n X dX10_orders_111 0 rfl ?_
      refine g_iload_n X dX10_orders_112 2 rfl ?_
      obtain ⟨hr113, hf⟩ := chk_some hf
      refine m_bind hf (fun y4 hy4 hf => ?_)
      refine cw_V_i (cix := 10) (As := [.int x2]) (st := []) X Y kV_X10_225 (cc_10_giveUp l dC dI E ev ho ro F P y3.2 x2 y4 hy4) ob_10 rfl ⟨Nat.le_of_ble_eq_true rfl, Nat.le_of_ble_eq_true rfl⟩ ⟨rfl, rfl⟩ (Nat.le_of_ble_eq_true rfl) hr113 dX10_orders_113 ?_
      exact k_reti (P := P) (S := y4.2) (wf := fun res => CW E ho ro res.2.1 ++ res.2.2) hA hQ X hr hlk dX10_orders_116 hf rfl
  have hL71 : ∀ (a1 : Nat) (n : Nat) (S : CS) (P : va_W) (ce : Nat) (se : Nat) (x2 : Int32), K_10_orders_L71 F E z a1 n S P ce se x2 = some res → GG p l e rk_10_orders s m args below meth c dC dI A 5 ce se Q (CW E ho ro S ++ P) 71 [(0, .ref (ho 0)), (1, .ref a1), (2, .int x2)] [] := by
    intro a1 n
    induction n with
    | zero => intro S P ce se x2 hf; have hf : (none : Option (Int32 × CS × va_W)) = some res := hf; cases hf
    | succ n ih =>
      intro S P ce se x2 hf
      rw [K_10_orders_L71] at hf
      refine g_iload_n X dX10_orders_71 2 rfl ?_
      refine g_aload_n X dX10_orders_72 1 rfl ?_
      refine pg_5_1 X wd3_50 dX10_orders_73 hf (fun v5 hf => ?_)
      refine g_icmp_ge (tgt := 129) X dX10_orders_76 (by decide) hf (fun hf => ?_) (fun hf => ?_)
      · refine g_aload_n X dX10_orders_129 0 rfl ?_
        refine g_aload_n X dX10_orders_130 0 rfl ?_
        refine cg_10_12 X wd2_62 dX10_orders_131 ?_
        refine g_iconst X dX10_orders_134 kc_1 ?_
        refine ca_ldc_10_12 X kt_1 kx_1_19 dX10_orders_135 ?_
        obtain ⟨hr136, hf⟩ := chk_some hf
        refine m_bind hf (fun y6 hy6 hf => ?_)
        refine cw_V_i (cix := 10) (As := [.int (ca S 0 12 1)]) (st := []) X Y kV_X10_107 (cc_10_accept l dC dI E ev ho ro P S (ca S 0 12 1) y6 hy6) ob_10 rfl ⟨Nat.le_of_ble_eq_true rfl, Nat.le_of_ble_eq_true rfl⟩ ⟨rfl, rfl⟩ (Nat.le_of_ble_eq_true rfl) hr136 dX10_orders_136 ?_
        exact k_reti (P := P) (S := y6.2) (wf := fun res => CW E ho ro res.2.1 ++ res.2.2) hA hQ X hr hlk dX10_orders_139 hf rfl
      refine g_aload_n X dX10_orders_79 1 rfl ?_
      refine pg_5_0 X wd3_47 dX10_orders_80 hf (fun b7 hf => ?_)
      refine g_iload_n X dX10_orders_83 2 rfl ?_
      refine p_aldq X dX10_orders_84 hf (fun qv8 hf => ?_)
      refine g_astore_nq (i := 3) (lv' := [(3, va_rf qv8), (0, .ref (ho 0)), (1, .ref a1), (2, .int x2)]) X dX10_orders_85 rfl (by decide) rfl ?_
      refine g_iconst X dX10_orders_86 kc_0 ?_
      refine g_istore (lv' := [(4, .int (0 : Int32)), (3, va_rf qv8), (0, .ref (ho 0)), (1, .ref a1), (2, .int x2)]) X dX10_orders_87 (by decide) (by cases qv8 <;> rfl) ?_
      refine g_lv [2, 3, 4, 1, 0] (lv' := [(0, .ref (ho 0)), (1, .ref a1), (2, .int x2), (3, va_rf qv8), (4, .int (0 : Int32))]) rfl ?_
      exact hL89 _ _ ih _ _ _ _ _ _ _ _ hf
  refine g_lv [0] (lv' := [(0, .ref (ho 0))]) rfl ?_
  unfold K_10_orders at hf
  refine g_aload_n X dX10_orders_0 0 rfl ?_
  refine cg_10_6 X wd2_56 dX10_orders_1 ?_
  refine g_iconst X dX10_orders_4 kc_0 ?_
  obtain ⟨hm5, hf⟩ := chk_some hf
  refine m_bind hf (fun y9 hy9 hf => ?_)
  refine cm_V (cix := 3) (As := [.int (0 : Int32)]) (st := []) X Y kV_X10_194 (cm_3_read l dC dI E ev ho ro F (z + 0) P S (0 : Int32) y9 hy9) ob_3 rfl ⟨Nat.le_of_ble_eq_true rfl, Nat.le_of_ble_eq_true rfl⟩ ⟨rfl, rfl⟩ (Nat.le_of_ble_eq_true rfl) hsz hm5 dX10_orders_5 ?_
  generalize y9.1 = qv10 at hf ⊢
  have hf := nmq_eq hf
  refine g_astore_nq (i := 1) (lv' := [(1, va_rf qv10), (0, .ref (ho 0))]) X dX10_orders_8 rfl (by decide) rfl ?_
  refine g_aload_n X dX10_orders_9 1 rfl ?_
  refine cg_10_7 X wd2_57 dX10_orders_10 ?_
  refine g_iconst X dX10_orders_13 kc_0 ?_
  refine cp_6_1 X wd1_159 dX10_orders_14 hf (fun S11 hf => ?_)
  refine g_aload_n X dX10_orders_17 1 rfl ?_
  refine g_iconst X dX10_orders_18 kc_m1 ?_
  refine cp_10_16 X wd2_66 dX10_orders_19 hf (fun S12 hf => ?_)
  refine g_aload_nq (q := qv10) X dX10_orders_22 0 rfl ?_
  refine g_ifnonnull (tgt := 33) X dX10_orders_23 (by decide) hf (fun hq hfn => ?_) (fun an13 hq hfn => ?_)
  · subst hq
    have hf := hfn
    refine g_aload_n X dX10_orders_26 1 rfl ?_
    refine g_bipush X dX10_orders_27 kb_m6 ?_
    refine m_bind hf (fun y14 hy14 hf => ?_)
    refine cw_V_i (cix := 10) (As := [.int (-6 : Int32)]) (st := []) X Y kV_X10_93 (cc_10_refuse l dC dI E ev ho ro y9.2.2 S12 (-6 : Int32) y14 hy14) ob_10 rfl ⟨Nat.le_of_ble_eq_true rfl, Nat.le_of_ble_eq_true rfl⟩ ⟨rfl, rfl⟩ (Nat.le_of_ble_eq_true rfl) ⟨Nat.le_of_ble_eq_true rfl, Nat.le_of_ble_eq_true rfl⟩ dX10_orders_29 ?_
    exact k_reti (P := y9.2.2) (S := y14.2) (wf := fun res => CW E ho ro res.2.1 ++ res.2.2) hA hQ X hr hlk dX10_orders_32 hf rfl
  subst hq
  have hf := hfn
  refine g_aload_n X dX10_orders_33 1 rfl ?_
  refine cg_10_1 X wd2_51 dX10_orders_34 ?_
  refine g_aload_n X dX10_orders_37 1 rfl ?_
  refine cg_10_0 X wd2_50 dX10_orders_38 ?_
  refine m_bind hf (fun y15 hy15 hf => ?_)
  refine cw_V_v (cix := 7) (As := [.ref (ho 1)]) (st := []) X Y kV_X10_202 (cc_7_become l dC dI E ev ho ro F y9.2.2 S12 2 1 tw_2 tw_1 y15 hy15) (ob_7 tw_2) rfl ⟨Nat.le_of_ble_eq_true rfl, Nat.le_of_ble_eq_true rfl⟩ ⟨rfl, rfl⟩ (Nat.le_of_ble_eq_true rfl) ⟨Nat.le_of_ble_eq_true rfl, Nat.le_of_ble_eq_true rfl⟩ dX10_orders_41 ?_
  refine g_aload_n X dX10_orders_44 1 rfl ?_
  refine cg_10_5 X wd2_55 dX10_orders_45 ?_
  refine g_aload_n X dX10_orders_48 1 rfl ?_
  refine cg_10_4 X wd2_54 dX10_orders_49 ?_
  refine m_bind hf (fun y16 hy16 hf => ?_)
  refine cw_V_v (cix := 1) (As := [.ref (ho 7)]) (st := []) X Y kV_X10_206 (cc_1_become l dC dI E ev ho ro y9.2.2 y15.2 8 7 lg_8 lg_7 y16 hy16) (ob_1 lg_8) rfl ⟨Nat.le_of_ble_eq_true rfl, Nat.le_of_ble_eq_true rfl⟩ ⟨rfl, rfl⟩ (Nat.le_of_ble_eq_true rfl) ⟨Nat.le_of_ble_eq_true rfl, Nat.le_of_ble_eq_true rfl⟩ dX10_orders_52 ?_
  refine g_aload_n X dX10_orders_55 1 rfl ?_
  refine cg_10_12 X wd2_62 dX10_orders_56 ?_
  refine g_iconst X dX10_orders_59 kc_1 ?_
  refine g_iconst X dX10_orders_60 kc_0 ?_
  refine ca_stc_10_12 X kt_1 kx_1_19 dX10_orders_61 hf (fun S17 hf => ?_)
  refine g_aload_n X dX10_orders_62 1 rfl ?_
  refine cg_10_12 X wd2_62 dX10_orders_63 ?_
  refine g_iconst X dX10_orders_66 kc_2 ?_
  refine g_iconst X dX10_orders_67 kc_m1 ?_
  refine ca_stc_10_12 X kt_2 kx_2_19 dX10_orders_68 hf (fun S18 hf => ?_)
  refine g_iconst X dX10_orders_69 kc_0 ?_
  refine g_istore_n (i := 2) (lv' := [(2, .int (0 : Int32)), (1, .ref an13), (0, .ref (ho 0))]) X dX10_orders_70 rfl (by decide) rfl ?_
  refine g_lv [2, 1, 0] (lv' := [(0, .ref (ho 0)), (1, .ref an13), (2, .int (0 : Int32))]) rfl ?_
  exact hL71 _ _ _ _ _ _ _ hf
def rk_7_init : Room := { frames := 1, cells := 11, slots := 100, locals := 20 }
set_option maxRecDepth 100000 in
set_option maxHeartbeats 4000000 in
theorem cm_7_init (l : Launch) (dC : Nat → ClassId) (dI : Nat → Nat → Nat) (E : Nat → ClassId) (ev : Nat → Nat) (ho : Nat → Nat) (ro : Nat → Nat → Nat) (z : Nat) (P : va_W) (S : CS) (a0 : Nat)  (res : Unit × CS × va_W) (hf : K_7_init E z S P a0 = some res) : CM l dC dI E ev yX7_init cX7_init 1 none rk_7_init [.ref a0] z (CW E ho ro S ++ P) (CW E ho ro res.2.1 ++ res.2.2) none 11 100 := by
  refine CM_of (own := "LostLanes$Town") (by decide) rfl (Nat.le_of_ble_eq_true rfl) ?_
  intro p e s m args below meth c A Q X Y hr hlk hin hsz hA hQ
  refine g_lv [0] (lv' := [(0, .ref a0)]) rfl ?_
  unfold K_7_init at hf
  refine g_aload_n X dX7_init_0 0 rfl ?_
  refine g_objInit X wd1_34 wd1_27 wd1_28 ⟨Nat.le_of_ble_eq_true rfl, Nat.le_of_ble_eq_true rfl⟩ (Nat.le_of_ble_eq_true rfl) dX7_init_1 ?_
  refine g_aload_n X dX7_init_4 0 rfl ?_
  refine g_bipush X dX7_init_5 kb_10 ?_
  refine mk_newa X (ty := .int) (atype := .int) (a0 := (10, .inl (fun _ => 0))) rfl 0 rfl (fun _ h => h) wd1_124 (fun _ => rfl) kx_10_65536 kt_10 (Nat.le_of_ble_eq_true rfl) hsz dX7_init_7 hf (fun P1 hf => ?_)
  refine pm_putF X (cix := 7) (ty0 := tyX7) (v := .ref (z + 0)) u_in7 tyX7_ok nmX7 rfl 0 (by decide) wd1_37 rfl hin rfl rfl rfl dX7_init_9 hf (fun P2 hf => ?_)
  refine g_aload_n X dX7_init_12 0 rfl ?_
  refine g_bipush X dX7_init_13 kb_10 ?_
  refine mk_newa X (ty := .int) (atype := .int) (a0 := (10, .inl (fun _ => 0))) rfl 0 rfl (fun _ h => h) wd1_124 (fun _ => rfl) kx_10_65536 kt_10 (Nat.le_of_ble_eq_true rfl) hsz dX7_init_15 hf (fun P4 hf => ?_)
  refine pm_putF X (cix := 7) (ty0 := tyX7) (v := .ref (z + (0 + 1))) u_in7 tyX7_ok nmX7 rfl 1 (by decide) wd1_41 rfl hin rfl rfl rfl dX7_init_17 hf (fun P5 hf => ?_)
  refine g_aload_n X dX7_init_20 0 rfl ?_
  refine g_bipush X dX7_init_21 kb_10 ?_
  refine mk_newa X (ty := .int) (atype := .int) (a0 := (10, .inl (fun _ => 0))) rfl 0 rfl (fun _ h => h) wd1_124 (fun _ => rfl) kx_10_65536 kt_10 (Nat.le_of_ble_eq_true rfl) hsz dX7_init_23 hf (fun P7 hf => ?_)
  refine pm_putF X (cix := 7) (ty0 := tyX7) (v := .ref (z + ((0 + 1) + 1))) u_in7 tyX7_ok nmX7 rfl 2 (by decide) wd1_45 rfl hin rfl rfl rfl dX7_init_25 hf (fun P8 hf => ?_)
  refine g_aload_n X dX7_init_28 0 rfl ?_
  refine g_bipush X dX7_init_29 kb_10 ?_
  refine mk_newa X (ty := .int) (atype := .int) (a0 := (10, .inl (fun _ => 0))) rfl 0 rfl (fun _ h => h) wd1_124 (fun _ => rfl) kx_10_65536 kt_10 (Nat.le_of_ble_eq_true rfl) hsz dX7_init_31 hf (fun P10 hf => ?_)
  refine pm_putF X (cix := 7) (ty0 := tyX7) (v := .ref (z + (((0 + 1) + 1) + 1))) u_in7 tyX7_ok nmX7 rfl 3 (by decide) wd1_49 rfl hin rfl rfl rfl dX7_init_33 hf (fun P11 hf => ?_)
  refine g_aload_n X dX7_init_36 0 rfl ?_
  refine g_bipush X dX7_init_37 kb_10 ?_
  refine mk_newa X (ty := .int) (atype := .int) (a0 := (10, .inl (fun _ => 0))) rfl 0 rfl (fun _ h => h) wd1_124 (fun _ => rfl) kx_10_65536 kt_10 (Nat.le_of_ble_eq_true rfl) hsz dX7_init_39 hf (fun P13 hf => ?_)
  refine pm_putF X (cix := 7) (ty0 := tyX7) (v := .ref (z + ((((0 + 1) + 1) + 1) + 1))) u_in7 tyX7_ok nmX7 rfl 4 (by decide) wd1_52 rfl hin rfl rfl rfl dX7_init_41 hf (fun P14 hf => ?_)
  refine g_aload_n X dX7_init_44 0 rfl ?_
  refine g_iconst X dX7_init_45 kc_4 ?_
  refine mk_newa X (ty := .int) (atype := .int) (a0 := (4, .inl (fun _ => 0))) rfl 0 rfl (fun _ h => h) wd1_124 (fun _ => rfl) kx_4_65536 kt_4 (Nat.le_of_ble_eq_true rfl) hsz dX7_init_46 hf (fun P16 hf => ?_)
  refine pm_putF X (cix := 7) (ty0 := tyX7) (v := .ref (z + (((((0 + 1) + 1) + 1) + 1) + 1))) u_in7 tyX7_ok nmX7 rfl 6 (by decide) wd1_62 rfl hin rfl rfl rfl dX7_init_48 hf (fun P17 hf => ?_)
  refine g_aload_n X dX7_init_51 0 rfl ?_
  refine g_iconst X dX7_init_52 kc_4 ?_
  refine mk_newa X (ty := .int) (atype := .int) (a0 := (4, .inl (fun _ => 0))) rfl 0 rfl (fun _ h => h) wd1_124 (fun _ => rfl) kx_4_65536 kt_4 (Nat.le_of_ble_eq_true rfl) hsz dX7_init_53 hf (fun P19 hf => ?_)
  refine pm_putF X (cix := 7) (ty0 := tyX7) (v := .ref (z + ((((((0 + 1) + 1) + 1) + 1) + 1) + 1))) u_in7 tyX7_ok nmX7 rfl 7 (by decide) wd1_65 rfl hin rfl rfl rfl dX7_init_55 hf (fun P20 hf => ?_)
  refine g_aload_n X dX7_init_58 0 rfl ?_
  refine g_iconst X dX7_init_59 kc_4 ?_
  refine mk_newa X (ty := .int) (atype := .int) (a0 := (4, .inl (fun _ => 0))) rfl 0 rfl (fun _ h => h) wd1_124 (fun _ => rfl) kx_4_65536 kt_4 (Nat.le_of_ble_eq_true rfl) hsz dX7_init_60 hf (fun P22 hf => ?_)
  refine pm_putF X (cix := 7) (ty0 := tyX7) (v := .ref (z + (((((((0 + 1) + 1) + 1) + 1) + 1) + 1) + 1))) u_in7 tyX7_ok nmX7 rfl 8 (by decide) wd1_69 rfl hin rfl rfl rfl dX7_init_62 hf (fun P23 hf => ?_)
  refine g_aload_n X dX7_init_65 0 rfl ?_
  refine g_bipush X dX7_init_66 kb_6 ?_
  refine mk_newa X (ty := .int) (atype := .int) (a0 := (6, .inl (fun _ => 0))) rfl 0 rfl (fun _ h => h) wd1_124 (fun _ => rfl) kx_6_65536 kt_6 (Nat.le_of_ble_eq_true rfl) hsz dX7_init_68 hf (fun P25 hf => ?_)
  refine pm_putF X (cix := 7) (ty0 := tyX7) (v := .ref (z + ((((((((0 + 1) + 1) + 1) + 1) + 1) + 1) + 1) + 1))) u_in7 tyX7_ok nmX7 rfl 10 (by decide) wd1_75 rfl hin rfl rfl rfl dX7_init_70 hf (fun P26 hf => ?_)
  refine g_aload_n X dX7_init_73 0 rfl ?_
  refine g_iconst X dX7_init_74 kc_3 ?_
  refine mk_newa X (ty := .int) (atype := .int) (a0 := (3, .inl (fun _ => 0))) rfl 0 rfl (fun _ h => h) wd1_124 (fun _ => rfl) kx_3_65536 kt_3 (Nat.le_of_ble_eq_true rfl) hsz dX7_init_75 hf (fun P28 hf => ?_)
  refine g_dup X dX7_init_77 rfl ?_
  refine g_iconst X dX7_init_78 kc_0 ?_
  refine g_iconst X dX7_init_79 kc_0 ?_
  refine pm_ast X dX7_init_80 hf (fun P29 hf => ?_)
  refine g_dup X dX7_init_81 rfl ?_
  refine g_iconst X dX7_init_82 kc_1 ?_
  refine g_iconst X dX7_init_83 kc_1 ?_
  refine pm_ast X dX7_init_84 hf (fun P31 hf => ?_)
  refine g_dup X dX7_init_85 rfl ?_
  refine g_iconst X dX7_init_86 kc_2 ?_
  refine g_iconst X dX7_init_87 kc_0 ?_
  refine pm_ast X dX7_init_88 hf (fun P33 hf => ?_)
  refine pm_putF X (cix := 7) (ty0 := tyX7) (v := .ref (z + (((((((((0 + 1) + 1) + 1) + 1) + 1) + 1) + 1) + 1) + 1))) u_in7 tyX7_ok nmX7 rfl 12 (by decide) wd1_81 rfl hin rfl rfl rfl dX7_init_89 hf (fun P35 hf => ?_)
  refine g_aload_n X dX7_init_92 0 rfl ?_
  refine g_bipush X dX7_init_93 kb_6 ?_
  refine mk_newq X Y 3 rfl Y.2.2.2.2.2.2.2.1 wd1_35 kx_6_65536 kt_6 (Nat.le_of_ble_eq_true rfl) hsz dX7_init_95 hf (fun P37 hf => ?_)
  refine pm_putF X (cix := 7) (ty0 := tyX7) (v := .ref (z + ((((((((((0 + 1) + 1) + 1) + 1) + 1) + 1) + 1) + 1) + 1) + 1))) u_in7 tyX7_ok nmX7 rfl 13 (by decide) wd1_85 rfl hin rfl rfl rfl dX7_init_98 hf (fun P38 hf => ?_)
  refine g_aload_n X dX7_init_101 0 rfl ?_
  refine g_iconst X dX7_init_102 kc_m1 ?_
  refine pm_put X (cix := 7) (ty0 := tyX7) (v := .int (-1 : Int32)) u_in7 tyX7_ok nmX7 rfl 15 (by decide) wd1_89 rfl rfl rfl dX7_init_103 hf (fun P40 hf => ?_)
  exact k_retv (P := P40) (S := S) (wf := fun res => CW E ho ro res.2.1 ++ res.2.2) hA hQ X hr hlk dX7_init_106 hf rfl
def rk_7_becomePS : Room := { frames := 1, cells := 0, slots := 0, locals := 60 }
set_option maxRecDepth 100000 in
set_option maxHeartbeats 4000000 in
theorem cm_7_becomePS (l : Launch) (dC : Nat → ClassId) (dI : Nat → Nat → Nat) (E : Nat → ClassId) (ev : Nat → Nat) (ho : Nat → Nat) (ro : Nat → Nat → Nat) (F : Nat) (z : Nat) (P : va_W) (S : CS) (a0 : Nat) (o1 : Nat) (h_o1 : tw o1) (res : Unit × CS × va_W) (hf : K_7_becomePS F E z S P a0 o1 = some res) : CM l dC dI E ev yX7_become cX7_become 3 none rk_7_becomePS [.ref a0, .ref (ho o1)] z (CW E ho ro S ++ P) (CW E ho ro res.2.1 ++ res.2.2) none 0 0 := by
  refine CM_of (own := "LostLanes$Town") (by decide) rfl (Nat.le_of_ble_eq_true rfl) ?_
  intro p e s m args below meth c A Q X Y hr hlk hin hsz hA hQ
  have hL176 : ∀ (a0 : Nat) (n : Nat) (S : CS) (P : va_W) (ce : Nat) (se : Nat) (x2 : Int32), K_7_becomePS_L176 F E z o1 a0 n S P ce se x2 = some res → GG p l e rk_7_becomePS s m args below meth c dC dI A 3 ce se Q (CW E ho ro S ++ P) 176 [(0, .ref a0), (1, .ref (ho o1)), (2, .int x2)] [] := by
    intro a0 n
    induction n with
    | zero => intro S P ce se x2 hf; have hf : (none : Option (Unit × CS × va_W)) = some res := hf; cases hf
    | succ n ih =>
      intro S P ce se x2 hf
      rw [K_7_becomePS_L176] at hf
      refine g_iload_n X dX7_become_176 2 rfl ?_
      refine g_bipush X dX7_become_177 kb_6 ?_
      refine g_icmp_ge (tgt := 200) X dX7_become_179 (by decide) hf (fun hf => ?_) (fun hf => ?_)
      · refine g_aload_n X dX7_become_200 0 rfl ?_
        refine g_aload_n X dX7_become_201 1 rfl ?_
        refine cg_7_14 X h_o1 wd1_87 dX7_become_202 ?_
        refine pm_put X (cix := 7) (ty0 := tyX7) (v := .int (ci S o1 14)) u_in7 tyX7_ok nmX7 rfl 14 (by decide) wd1_87 rfl rfl rfl dX7_become_205 hf (fun P1 hf => ?_)
        refine g_aload_n X dX7_become_208 0 rfl ?_
        refine g_aload_n X dX7_become_209 1 rfl ?_
        refine cg_7_15 X h_o1 wd1_89 dX7_become_210 ?_
        refine pm_put X (cix := 7) (ty0 := tyX7) (v := .int (ci S o1 15)) u_in7 tyX7_ok nmX7 rfl 15 (by decide) wd1_89 rfl rfl rfl dX7_become_213 hf (fun P3 hf => ?_)
        exact k_retv (P := P3) (S := S) (wf := fun res => CW E ho ro res.2.1 ++ res.2.2) hA hQ X hr hlk dX7_become_216 hf rfl
      refine g_aload_n X dX7_become_182 0 rfl ?_
      refine pg_7_13 X wd1_85 dX7_become_183 hf (fun b5 hf => ?_)
      refine g_iload_n X dX7_become_186 2 rfl ?_
      refine g_aload_n X dX7_become_187 1 rfl ?_
      refine cg_7_13 X h_o1 wd1_85 dX7_become_188 ?_
      refine g_iload_n X dX7_become_191 2 rfl ?_
      refine ca_ldq_7_13 X h_o1 dX7_become_192 hf (fun qv6 hf => ?_)
      refine pm_astl (q := qv6) X dX7_become_193 hf (fun P7 hf => ?_)
      refine g_iinc (lv' := [(2, .int (x2 + (1 : Int32))), (0, .ref a0), (1, .ref (ho o1))]) X dX7_become_194 2 rfl kc_1 (by decide) rfl ?_
      refine g_goto (tgt := 176) X dX7_become_197 (by decide) ?_
      refine g_lv [1, 2, 0] (lv' := [(0, .ref a0), (1, .ref (ho o1)), (2, .int (x2 + (1 : Int32)))]) rfl ?_
      exact ih _ _ _ _ _ hf
  refine g_lv [0, 1] (lv' := [(0, .ref a0), (1, .ref (ho o1))]) rfl ?_
  unfold K_7_becomePS at hf
  refine g_aload_n X dX7_become_0 1 rfl ?_
  refine cg_7_0 X h_o1 wd1_37 dX7_become_1 ?_
  refine g_iconst X dX7_become_4 kc_0 ?_
  refine g_aload_n X dX7_become_5 0 rfl ?_
  refine pg_7_0 X wd1_37 dX7_become_6 hf (fun b9 hf => ?_)
  refine g_iconst X dX7_become_9 kc_0 ?_
  refine g_bipush X dX7_become_10 kb_10 ?_
  refine pm_copySP X (ars_7_0 h_o1) wd4_14 wd4_5 wd4_4 wd1_19 ⟨Nat.le_of_ble_eq_true rfl, by decide⟩ (Nat.le_of_ble_eq_true rfl) dX7_become_12 hf (fun P12 hf => ?_)
  refine g_aload_n X dX7_become_15 1 rfl ?_
  refine cg_7_1 X h_o1 wd1_41 dX7_become_16 ?_
  refine g_iconst X dX7_become_19 kc_0 ?_
  refine g_aload_n X dX7_become_20 0 rfl ?_
  refine pg_7_1 X wd1_41 dX7_become_21 hf (fun b13 hf => ?_)
  refine g_iconst X dX7_become_24 kc_0 ?_
  refine g_bipush X dX7_become_25 kb_10 ?_
  refine pm_copySP X (ars_7_1 h_o1) wd4_14 wd4_5 wd4_4 wd1_19 ⟨Nat.le_of_ble_eq_true rfl, by decide⟩ (Nat.le_of_ble_eq_true rfl) dX7_become_27 hf (fun P16 hf => ?_)
  refine g_aload_n X dX7_become_30 1 rfl ?_
  refine cg_7_2 X h_o1 wd1_45 dX7_become_31 ?_
  refine g_iconst X dX7_become_34 kc_0 ?_
  refine g_aload_n X dX7_become_35 0 rfl ?_
  refine pg_7_2 X wd1_45 dX7_become_36 hf (fun b17 hf => ?_)
  refine g_iconst X dX7_become_39 kc_0 ?_
  refine g_bipush X dX7_become_40 kb_10 ?_
  refine pm_copySP X (ars_7_2 h_o1) wd4_14 wd4_5 wd4_4 wd1_19 ⟨Nat.le_of_ble_eq_true rfl, by decide⟩ (Nat.le_of_ble_eq_true rfl) dX7_become_42 hf (fun P20 hf => ?_)
  refine g_aload_n X dX7_become_45 1 rfl ?_
  refine cg_7_3 X h_o1 wd1_49 dX7_become_46 ?_
  refine g_iconst X dX7_become_49 kc_0 ?_
  refine g_aload_n X dX7_become_50 0 rfl ?_
  refine pg_7_3 X wd1_49 dX7_become_51 hf (fun b21 hf => ?_)
  refine g_iconst X dX7_become_54 kc_0 ?_
  refine g_bipush X dX7_become_55 kb_10 ?_
  refine pm_copySP X (ars_7_3 h_o1) wd4_14 wd4_5 wd4_4 wd1_19 ⟨Nat.le_of_ble_eq_true rfl, by decide⟩ (Nat.le_of_ble_eq_true rfl) dX7_become_57 hf (fun P24 hf => ?_)
  refine g_aload_n X dX7_become_60 1 rfl ?_
  refine cg_7_4 X h_o1 wd1_52 dX7_become_61 ?_
  refine g_iconst X dX7_become_64 kc_0 ?_
  refine g_aload_n X dX7_become_65 0 rfl ?_
  refine pg_7_4 X wd1_52 dX7_become_66 hf (fun b25 hf => ?_)
  refine g_iconst X dX7_become_69 kc_0 ?_
  refine g_bipush X dX7_become_70 kb_10 ?_
  refine pm_copySP X (ars_7_4 h_o1) wd4_14 wd4_5 wd4_4 wd1_19 ⟨Nat.le_of_ble_eq_true rfl, by decide⟩ (Nat.le_of_ble_eq_true rfl) dX7_become_72 hf (fun P28 hf => ?_)
  refine g_aload_n X dX7_become_75 0 rfl ?_
  refine g_aload_n X dX7_become_76 1 rfl ?_
  refine cg_7_5 X h_o1 wd1_57 dX7_become_77 ?_
  refine pm_put X (cix := 7) (ty0 := tyX7) (v := .int (ci S o1 5)) u_in7 tyX7_ok nmX7 rfl 5 (by decide) wd1_57 rfl rfl rfl dX7_become_80 hf (fun P29 hf => ?_)
  refine g_aload_n X dX7_become_83 1 rfl ?_
  refine cg_7_6 X h_o1 wd1_62 dX7_become_84 ?_
  refine g_iconst X dX7_become_87 kc_0 ?_
  refine g_aload_n X dX7_become_88 0 rfl ?_
  refine pg_7_6 X wd1_62 dX7_become_89 hf (fun b31 hf => ?_)
  refine g_iconst X dX7_become_92 kc_0 ?_
  refine g_iconst X dX7_become_93 kc_4 ?_
  refine pm_copySP X (ars_7_6 h_o1) wd4_14 wd4_5 wd4_4 wd1_19 ⟨Nat.le_of_ble_eq_true rfl, by decide⟩ (Nat.le_of_ble_eq_true rfl) dX7_become_94 hf (fun P34 hf => ?_)
  refine g_aload_n X dX7_become_97 1 rfl ?_
  refine cg_7_7 X h_o1 wd1_65 dX7_become_98 ?_
  refine g_iconst X dX7_become_101 kc_0 ?_
  refine g_aload_n X dX7_become_102 0 rfl ?_
  refine pg_7_7 X wd1_65 dX7_become_103 hf (fun b35 hf => ?_)
  refine g_iconst X dX7_become_106 kc_0 ?_
  refine g_iconst X dX7_become_107 kc_4 ?_
  refine pm_copySP X (ars_7_7 h_o1) wd4_14 wd4_5 wd4_4 wd1_19 ⟨Nat.le_of_ble_eq_true rfl, by decide⟩ (Nat.le_of_ble_eq_true rfl) dX7_become_108 hf (fun P38 hf => ?_)
  refine g_aload_n X dX7_become_111 1 rfl ?_
  refine cg_7_8 X h_o1 wd1_69 dX7_become_112 ?_
  refine g_iconst X dX7_become_115 kc_0 ?_
  refine g_aload_n X dX7_become_116 0 rfl ?_
  refine pg_7_8 X wd1_69 dX7_become_117 hf (fun b39 hf => ?_)
  refine g_iconst X dX7_become_120 kc_0 ?_
  refine g_iconst X dX7_become_121 kc_4 ?_
  refine pm_copySP X (ars_7_8 h_o1) wd4_14 wd4_5 wd4_4 wd1_19 ⟨Nat.le_of_ble_eq_true rfl, by decide⟩ (Nat.le_of_ble_eq_true rfl) dX7_become_122 hf (fun P42 hf => ?_)
  refine g_aload_n X dX7_become_125 0 rfl ?_
  refine g_aload_n X dX7_become_126 1 rfl ?_
  refine cg_7_9 X h_o1 wd1_73 dX7_become_127 ?_
  refine pm_put X (cix := 7) (ty0 := tyX7) (v := .int (ci S o1 9)) u_in7 tyX7_ok nmX7 rfl 9 (by decide) wd1_73 rfl rfl rfl dX7_become_130 hf (fun P43 hf => ?_)
  refine g_aload_n X dX7_become_133 1 rfl ?_
  refine cg_7_10 X h_o1 wd1_75 dX7_become_134 ?_
  refine g_iconst X dX7_become_137 kc_0 ?_
  refine g_aload_n X dX7_become_138 0 rfl ?_
  refine pg_7_10 X wd1_75 dX7_become_139 hf (fun b45 hf => ?_)
  refine g_iconst X dX7_become_142 kc_0 ?_
  refine g_bipush X dX7_become_143 kb_6 ?_
  refine pm_copySP X (ars_7_10 h_o1) wd4_14 wd4_5 wd4_4 wd1_19 ⟨Nat.le_of_ble_eq_true rfl, by decide⟩ (Nat.le_of_ble_eq_true rfl) dX7_become_145 hf (fun P48 hf => ?_)
  refine g_aload_n X dX7_become_148 0 rfl ?_
  refine g_aload_n X dX7_become_149 1 rfl ?_
  refine cg_7_11 X h_o1 wd1_79 dX7_become_150 ?_
  refine pm_put X (cix := 7) (ty0 := tyX7) (v := .int (ci S o1 11)) u_in7 tyX7_ok nmX7 rfl 11 (by decide) wd1_79 rfl rfl rfl dX7_become_153 hf (fun P49 hf => ?_)
  refine g_aload_n X dX7_become_156 1 rfl ?_
  refine cg_7_12 X h_o1 wd1_81 dX7_become_157 ?_
  refine g_iconst X dX7_become_160 kc_0 ?_
  refine g_aload_n X dX7_become_161 0 rfl ?_
  refine pg_7_12 X wd1_81 dX7_become_162 hf (fun b51 hf => ?_)
  refine g_iconst X dX7_become_165 kc_0 ?_
  refine g_aload_n X dX7_become_166 0 rfl ?_
  refine pg_7_12 X wd1_81 dX7_become_167 hf (fun b52 hf => ?_)
  refine p_alen X dX7_become_170 hf (fun v53 hf => ?_)
  refine pm_copySP X (ars_7_12 h_o1) wd4_14 wd4_5 wd4_4 wd1_19 ⟨Nat.le_of_ble_eq_true rfl, by decide⟩ (Nat.le_of_ble_eq_true rfl) dX7_become_171 hf (fun P56 hf => ?_)
  refine g_iconst X dX7_become_174 kc_0 ?_
  refine g_istore_n (i := 2) (lv' := [(2, .int (0 : Int32)), (0, .ref a0), (1, .ref (ho o1))]) X dX7_become_175 rfl (by decide) rfl ?_
  refine g_lv [1, 2, 0] (lv' := [(0, .ref a0), (1, .ref (ho o1)), (2, .int (0 : Int32))]) rfl ?_
  exact hL176 _ _ _ _ _ _ _ hf
def rk_10_image : Room := { frames := 2, cells := 12, slots := 116, locals := 82 }
set_option maxRecDepth 100000 in
set_option maxHeartbeats 4000000 in
theorem cm_10_image (l : Launch) (dC : Nat → ClassId) (dI : Nat → Nat → Nat) (E : Nat → ClassId) (ev : Nat → Nat) (ho : Nat → Nat) (ro : Nat → Nat → Nat) (F : Nat) (z : Nat) (P : va_W) (S : CS) (x1 : Int32)  (res : Int32 × CS × va_W) (hf : K_10_image F E z S P x1 = some res) : CM l dC dI E ev yX10_image cX10_image 3 (some .int) rk_10_image [.ref (ho 0), .int x1] z (CW E ho ro S ++ P) (CW E ho ro res.2.1 ++ res.2.2) (some (.int res.1)) 12 116 := by
  refine CM_of (own := "LostLanes") (by decide) rfl (Nat.le_of_ble_eq_true rfl) ?_
  intro p e s m args below meth c A Q X Y hr hlk hin hsz hA hQ
  have hB45 : ∀ (S : CS) (P : va_W) (ce : Nat) (se : Nat) (a2 : Nat), K_10_image_B45 F E z S P ce se a2 = some res → GG p l e rk_10_image s m args below meth c dC dI A 3 ce se Q (CW E ho ro S ++ P) 45 [(0, .ref (ho 0)), (2, .ref a2)] [] := by
    intro S P ce se a2 hf
    unfold K_10_image_B45 at hf
    refine g_aload_n X dX10_image_45 1 rfl ?_
    refine g_aload_n X dX10_image_46 0 rfl ?_
    refine cg_10_0 X wd2_50 dX10_image_47 ?_
    obtain ⟨hz50, hf⟩ := chk_some hf
    obtain ⟨hm50, hf⟩ := chk_some hf
    refine m_bind hf (fun y1 hy1 hf => ?_)
    refine cm_V (cix := 7) (As := [.ref (ho 1)]) (st := []) X Y kV_X10_202 (cm_7_becomePS l dC dI E ev ho ro F (z + ce) P S a2 1 tw_1 y1 hy1) (ob_pool hz50) rfl ⟨Nat.le_of_ble_eq_true rfl, Nat.le_of_ble_eq_true rfl⟩ ⟨rfl, rfl⟩ (Nat.le_of_ble_eq_true rfl) hsz hm50 dX10_image_50 ?_
    refine g_aload_n X dX10_image_53 0 rfl ?_
    refine g_iconst X dX10_image_54 kc_0 ?_
    obtain ⟨hr55, hf⟩ := chk_some hf
    refine m_bind hf (fun y2 hy2 hf => ?_)
    refine cw_V_i (cix := 10) (As := [.int (0 : Int32)]) (st := []) X Y kV_X10_107 (cc_10_accept l dC dI E ev ho ro y1.2.2 y1.2.1 (0 : Int32) y2 hy2) ob_10 rfl ⟨Nat.le_of_ble_eq_true rfl, Nat.le_of_ble_eq_true rfl⟩ ⟨rfl, rfl⟩ (Nat.le_of_ble_eq_true rfl) hr55 dX10_image_55 ?_
    exact k_reti (P := y1.2.2) (S := y2.2) (wf := fun res => CW E ho ro res.2.1 ++ res.2.2) hA hQ X hr hlk dX10_image_58 hf rfl
  have hB13 : ∀ (S : CS) (P : va_W) (ce : Nat) (se : Nat), K_10_image_B13 F E z S P ce se = some res → GG p l e rk_10_image s m args below meth c dC dI A 3 ce se Q (CW E ho ro S ++ P) 13 [(0, .ref (ho 0))] [] := by
    intro S P ce se hf
    unfold K_10_image_B13 at hf
    refine g_aload_n X dX10_image_13 0 rfl ?_
    refine g_iconst X dX10_image_14 kc_m1 ?_
    obtain ⟨hr15, hf⟩ := chk_some hf
    refine m_bind hf (fun y3 hy3 hf => ?_)
    refine cw_V_i (cix := 10) (As := [.int (-1 : Int32)]) (st := []) X Y kV_X10_93 (cc_10_refuse l dC dI E ev ho ro P S (-1 : Int32) y3 hy3) ob_10 rfl ⟨Nat.le_of_ble_eq_true rfl, Nat.le_of_ble_eq_true rfl⟩ ⟨rfl, rfl⟩ (Nat.le_of_ble_eq_true rfl) hr15 dX10_image_15 ?_
    exact k_reti (P := P) (S := y3.2) (wf := fun res => CW E ho ro res.2.1 ++ res.2.2) hA hQ X hr hlk dX10_image_18 hf rfl
  refine g_lv [0, 1] (lv' := [(0, .ref (ho 0)), (1, .int x1)]) rfl ?_
  unfold K_10_image at hf
  refine g_iload_n X dX10_image_0 1 rfl ?_
  refine g_if_lt (tgt := 13) X dX10_image_1 (by decide) hf (fun hf => ?_) (fun hf => ?_)
  · refine g_lv [0] (lv' := [(0, .ref (ho 0))]) rfl ?_
    exact hB13 _ _ _ _ hf
  refine g_iload_n X dX10_image_4 1 rfl ?_
  refine g_aload_n X dX10_image_5 0 rfl ?_
  refine cg_10_3 X wd2_53 dX10_image_6 ?_
  refine ca_len_10_3 X kn_2 dX10_image_9 ?_
  refine g_icmp_lt (tgt := 19) X dX10_image_10 (by decide) hf (fun hf => ?_) (fun hf => ?_)
  · refine g_aload_n X dX10_image_19 0 rfl ?_
    refine cg_10_3 X wd2_53 dX10_image_20 ?_
    refine g_iload_n X dX10_image_23 1 rfl ?_
    refine ca_ldq_10_3 X dX10_image_24 hf (fun qv4 hf => ?_)
    refine g_astore_nq (i := 2) (lv' := [(2, va_rf qv4), (0, .ref (ho 0)), (1, .int x1)]) X dX10_image_25 rfl (by decide) rfl ?_
    refine g_aload_nq (q := qv4) X dX10_image_26 0 rfl ?_
    refine g_ifnonnull (tgt := 45) X dX10_image_27 (by decide) hf (fun hq hfn => ?_) (fun an5 hq hfn => ?_)
    · subst hq
      have hf := hfn
      refine mk_new X (cix := 7) (ty := tyX7) (fs := [.null, .null, .null, .null, .null, .int 0, .null, .null, .null, .int 0, .null, .int 0, .null, .null, .int 0, .int 0]) u_in7 tyX7_ok wd1_29 wd1_30 wd1_2 rfl nd_7 hsz dX10_image_30 hf (fun P6 hf => ?_)
      refine g_dup X dX10_image_33 rfl ?_
      obtain ⟨hm34, hf⟩ := chk_some hf
      refine m_bind hf (fun y7 hy7 hf => ?_)
      refine cm_J (As := []) (st := [.ref (z + 0)]) X Y kJ_X10_11 (cm_7_init l dC dI E ev ho ro (z + (0 + 1)) P6 S (z + 0) y7 hy7) ⟨Nat.le_of_ble_eq_true rfl, Nat.le_of_ble_eq_true rfl⟩ ⟨rfl, rfl⟩ (Nat.le_of_ble_eq_true rfl) hsz hm34 dX10_image_34 ?_
      refine g_astore_n (i := 2) (lv' := [(2, .ref (z + 0)), (0, .ref (ho 0)), (1, .int x1)]) X dX10_image_37 rfl (by decide) rfl ?_
      refine g_aload_n X dX10_image_38 1 rfl ?_
      refine cg_10_3 X wd2_53 dX10_image_39 ?_
      refine g_iload_n X dX10_image_42 2 rfl ?_
      refine g_aload_n X dX10_image_43 0 rfl ?_
      refine ca_stq_10_3 X dX10_image_44 hf (fun S8 hf => ?_)
      refine g_lv [1, 0] (lv' := [(0, .ref (ho 0)), (2, .ref (z + 0))]) rfl ?_
      exact hB45 _ _ _ _ _ hf
    subst hq
    have hf := hfn
    refine g_lv [1, 0] (lv' := [(0, .ref (ho 0)), (2, .ref an5)]) rfl ?_
    exact hB45 _ _ _ _ _ hf
  refine g_lv [0] (lv' := [(0, .ref (ho 0))]) rfl ?_
  exact hB13 _ _ _ _ hf
