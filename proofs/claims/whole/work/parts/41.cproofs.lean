def rc_0_hasTest : Room := { frames := 0, cells := 0, slots := 0, locals := 0 }
set_option maxRecDepth 100000 in
set_option maxHeartbeats 4000000 in
theorem cc_0_hasTest (l : Launch) (dC : Nat → ClassId) (dI : Nat → Nat → Nat) (E : Nat → ClassId) (ev : Nat → Nat) (ho : Nat → Nat) (ro : Nat → Nat → Nat) (P : va_W) (S : CS) (a0 : Nat)  (res : Int32) (hf : C_0_hasTest E P S a0 = some res) : CC l dC dI E ev yX0_hasTest cX0_hasTest 1 (some .boolean) rc_0_hasTest [.ref a0] (CW E ho ro S ++ P) (CW E ho ro S ++ P) (some (.int res)) := by
  refine CC_of (own := "LostLanes$Clause") (by decide) rfl (Nat.le_of_ble_eq_true rfl) ?_
  intro p e s m args below meth c A Q X Y hr hlk hA hQ
  refine g_lv [0] (lv' := [(0, .ref a0)]) rfl ?_
  unfold C_0_hasTest at hf
  refine g_aload_n X dX0_hasTest_0 0 rfl ?_
  refine pg_0_4 X wd3_143 dX0_hasTest_1 hf (fun v1 hf => ?_)
  refine g_aload_n X dX0_hasTest_4 0 rfl ?_
  refine pg_0_3 X wd3_139 dX0_hasTest_5 hf (fun v2 hf => ?_)
  refine g_icmp_le (tgt := 15) X dX0_hasTest_8 (by decide) hf (fun hf => ?_) (fun hf => ?_)
  · refine g_iconst X dX0_hasTest_15 kc_0 ?_
    exact c_retz_o hA hQ X hr hlk (Or.inl rfl) dX0_hasTest_16 hf
  refine g_iconst X dX0_hasTest_11 kc_1 ?_
  refine g_goto (tgt := 16) X dX0_hasTest_12 (by decide) ?_
  exact c_retz_o hA hQ X hr hlk (Or.inr rfl) dX0_hasTest_16 hf
def rc_1_note : Room := { frames := 1, cells := 0, slots := 0, locals := 60 }
set_option maxRecDepth 100000 in
set_option maxHeartbeats 4000000 in
theorem cc_1_note (l : Launch) (dC : Nat → ClassId) (dI : Nat → Nat → Nat) (E : Nat → ClassId) (ev : Nat → Nat) (ho : Nat → Nat) (ro : Nat → Nat → Nat) (P : va_W) (S : CS) (o0 : Nat) (o1 : Nat) (h_o0 : lg o0) (h_o1 : tw o1) (res : Unit × CS) (hf : C_1_note S o0 o1 = some res) : CC l dC dI E ev yX1_note cX1_note 2 none rc_1_note [.ref (ho o0), .ref (ho o1)] (CW E ho ro S ++ P) (CW E ho ro res.2 ++ P) none := by
  refine CC_of (own := "LostLanes$Log") (by decide) rfl (Nat.le_of_ble_eq_true rfl) ?_
  intro p e s m args below meth c A Q X Y hr hlk hA hQ
  refine g_lv [0, 1] (lv' := [(0, .ref (ho o0)), (1, .ref (ho o1))]) rfl ?_
  unfold C_1_note at hf
  refine g_aload_n X dX1_note_0 0 rfl ?_
  refine cg_1_1 X h_o0 wd1_133 dX1_note_1 ?_
  refine g_iconst X dX1_note_4 kc_1 ?_
  refine g_aload_n X dX1_note_5 1 rfl ?_
  refine cg_7_12 X h_o1 wd1_82 dX1_note_6 ?_
  refine g_iconst X dX1_note_9 kc_0 ?_
  refine ca_ldc_7_12 X h_o1 kt_0 kx_0_3 dX1_note_10 ?_
  refine ca_stc_1_1 X h_o0 kt_1 kx_1_20 dX1_note_11 hf (fun S1 hf => ?_)
  refine g_aload_n X dX1_note_12 1 rfl ?_
  refine cg_7_7 X h_o1 wd1_66 dX1_note_13 ?_
  refine g_iconst X dX1_note_16 kc_0 ?_
  refine g_aload_n X dX1_note_17 0 rfl ?_
  refine cg_1_1 X h_o0 wd1_133 dX1_note_18 ?_
  refine g_iconst X dX1_note_21 kc_2 ?_
  refine g_iconst X dX1_note_22 kc_4 ?_
  refine ars_copy X (ars_7_7 h_o1) (ars_1_1 h_o0) wd4_19 wd4_5 wd4_4 wd1_19 ⟨Nat.le_of_ble_eq_true rfl, by decide⟩ (Nat.le_of_ble_eq_true rfl) dX1_note_23 hf (fun S2 hf => ?_)
  refine g_aload_n X dX1_note_26 1 rfl ?_
  refine cg_7_8 X h_o1 wd1_70 dX1_note_27 ?_
  refine g_iconst X dX1_note_30 kc_0 ?_
  refine g_aload_n X dX1_note_31 0 rfl ?_
  refine cg_1_1 X h_o0 wd1_133 dX1_note_32 ?_
  refine g_bipush X dX1_note_35 kb_6 ?_
  refine g_iconst X dX1_note_37 kc_4 ?_
  refine ars_copy X (ars_7_8 h_o1) (ars_1_1 h_o0) wd4_19 wd4_5 wd4_4 wd1_19 ⟨Nat.le_of_ble_eq_true rfl, by decide⟩ (Nat.le_of_ble_eq_true rfl) dX1_note_38 hf (fun S3 hf => ?_)
  refine g_aload_n X dX1_note_41 1 rfl ?_
  refine cg_7_4 X h_o1 wd1_53 dX1_note_42 ?_
  refine g_iconst X dX1_note_45 kc_0 ?_
  refine g_aload_n X dX1_note_46 0 rfl ?_
  refine cg_1_1 X h_o0 wd1_133 dX1_note_47 ?_
  refine g_bipush X dX1_note_50 kb_10 ?_
  refine g_bipush X dX1_note_52 kb_10 ?_
  refine ars_copy X (ars_7_4 h_o1) (ars_1_1 h_o0) wd4_19 wd4_5 wd4_4 wd1_19 ⟨Nat.le_of_ble_eq_true rfl, by decide⟩ (Nat.le_of_ble_eq_true rfl) dX1_note_54 hf (fun S4 hf => ?_)
  exact c_retv_s hA hQ X hr hlk dX1_note_57 hf
def rc_1_keepNote : Room := { frames := 1, cells := 0, slots := 0, locals := 60 }
set_option maxRecDepth 100000 in
set_option maxHeartbeats 4000000 in
theorem cc_1_keepNote (l : Launch) (dC : Nat → ClassId) (dI : Nat → Nat → Nat) (E : Nat → ClassId) (ev : Nat → Nat) (ho : Nat → Nat) (ro : Nat → Nat → Nat) (P : va_W) (S : CS) (o0 : Nat) (x1 : Int32) (h_o0 : lg o0) (res : Unit × CS) (hf : C_1_keepNote S o0 x1 = some res) : CC l dC dI E ev yX1_keepNote cX1_keepNote 2 none rc_1_keepNote [.ref (ho o0), .int x1] (CW E ho ro S ++ P) (CW E ho ro res.2 ++ P) none := by
  refine CC_of (own := "LostLanes$Log") (by decide) rfl (Nat.le_of_ble_eq_true rfl) ?_
  intro p e s m args below meth c A Q X Y hr hlk hA hQ
  have hB32 : ∀ (S : CS) (x1 : Int32), C_1_keepNote_B32 o0 S x1 = some res → GG p l e rc_1_keepNote s m args below meth c dC dI A 2 0 0 Q (CW E ho ro S ++ P) 32 [(0, .ref (ho o0)), (1, .int x1)] [] := by
    intro S x1 hf
    unfold C_1_keepNote_B32 at hf
    refine g_aload_n X dX1_keepNote_32 0 rfl ?_
    refine cg_1_1 X h_o0 wd1_133 dX1_keepNote_33 ?_
    refine g_iconst X dX1_keepNote_36 kc_0 ?_
    refine g_iload_n X dX1_keepNote_37 1 rfl ?_
    refine ca_stc_1_1 X h_o0 kt_0 kx_0_20 dX1_keepNote_38 hf (fun S1 hf => ?_)
    refine g_aload_n X dX1_keepNote_39 0 rfl ?_
    refine cg_1_1 X h_o0 wd1_133 dX1_keepNote_40 ?_
    refine g_iconst X dX1_keepNote_43 kc_0 ?_
    refine g_aload_n X dX1_keepNote_44 0 rfl ?_
    refine cg_1_0 X h_o0 wd1_132 dX1_keepNote_45 ?_
    refine g_aload_n X dX1_keepNote_48 0 rfl ?_
    refine cg_1_2 X h_o0 wd1_135 dX1_keepNote_49 ?_
    refine g_bipush X dX1_keepNote_52 kb_20 ?_
    refine g_imul X dX1_keepNote_54 ?_
    refine g_bipush X dX1_keepNote_55 kb_20 ?_
    refine ars_copy X (ars_1_1 h_o0) (ars_1_0 h_o0) wd4_19 wd4_5 wd4_4 wd1_19 ⟨Nat.le_of_ble_eq_true rfl, by decide⟩ (Nat.le_of_ble_eq_true rfl) dX1_keepNote_57 hf (fun S2 hf => ?_)
    refine g_aload_n X dX1_keepNote_60 0 rfl ?_
    refine g_dup X dX1_keepNote_61 rfl ?_
    refine cg_1_2 X h_o0 wd1_135 dX1_keepNote_62 ?_
    refine g_iconst X dX1_keepNote_65 kc_1 ?_
    refine g_iadd X dX1_keepNote_66 ?_
    refine cp_1_2 X h_o0 wd1_135 dX1_keepNote_67 hf (fun S3 hf => ?_)
    exact c_retv_s hA hQ X hr hlk dX1_keepNote_70 hf
  refine g_lv [0, 1] (lv' := [(0, .ref (ho o0)), (1, .int x1)]) rfl ?_
  unfold C_1_keepNote at hf
  refine g_aload_n X dX1_keepNote_0 0 rfl ?_
  refine cg_1_2 X h_o0 wd1_135 dX1_keepNote_1 ?_
  refine g_bipush X dX1_keepNote_4 kb_16 ?_
  refine g_icmp_lt (tgt := 32) X dX1_keepNote_6 (by decide) hf (fun hf => ?_) (fun hf => ?_)
  · exact hB32 _ _ hf
  refine g_aload_n X dX1_keepNote_9 0 rfl ?_
  refine cg_1_0 X h_o0 wd1_132 dX1_keepNote_10 ?_
  refine g_bipush X dX1_keepNote_13 kb_20 ?_
  refine g_aload_n X dX1_keepNote_15 0 rfl ?_
  refine cg_1_0 X h_o0 wd1_132 dX1_keepNote_16 ?_
  refine g_iconst X dX1_keepNote_19 kc_0 ?_
  refine g_sipush X dX1_keepNote_20 ks_300 ?_
  refine ars_copy X (ars_1_0 h_o0) (ars_1_0 h_o0) wd4_19 wd4_5 wd4_4 wd1_19 ⟨Nat.le_of_ble_eq_true rfl, by decide⟩ (Nat.le_of_ble_eq_true rfl) dX1_keepNote_23 hf (fun S4 hf => ?_)
  refine g_aload_n X dX1_keepNote_26 0 rfl ?_
  refine g_bipush X dX1_keepNote_27 kb_15 ?_
  refine cp_1_2 X h_o0 wd1_135 dX1_keepNote_29 hf (fun S5 hf => ?_)
  exact hB32 _ _ hf
def rc_1_takeBack : Room := { frames := 1, cells := 0, slots := 0, locals := 60 }
set_option maxRecDepth 100000 in
set_option maxHeartbeats 4000000 in
theorem cc_1_takeBack (l : Launch) (dC : Nat → ClassId) (dI : Nat → Nat → Nat) (E : Nat → ClassId) (ev : Nat → Nat) (ho : Nat → Nat) (ro : Nat → Nat → Nat) (P : va_W) (S : CS) (o0 : Nat) (o1 : Nat) (h_o0 : lg o0) (h_o1 : tw o1) (res : Int32 × CS) (hf : C_1_takeBack S o0 o1 = some res) : CC l dC dI E ev yX1_takeBack cX1_takeBack 3 (some .int) rc_1_takeBack [.ref (ho o0), .ref (ho o1)] (CW E ho ro S ++ P) (CW E ho ro res.2 ++ P) (some (.int res.1)) := by
  refine CC_of (own := "LostLanes$Log") (by decide) rfl (Nat.le_of_ble_eq_true rfl) ?_
  intro p e s m args below meth c A Q X Y hr hlk hA hQ
  refine g_lv [0, 1] (lv' := [(0, .ref (ho o0)), (1, .ref (ho o1))]) rfl ?_
  unfold C_1_takeBack at hf
  refine g_aload_n X dX1_takeBack_0 0 rfl ?_
  refine cg_1_2 X h_o0 wd1_135 dX1_takeBack_1 ?_
  refine g_if_gt (tgt := 9) X dX1_takeBack_4 (by decide) hf (fun hf => ?_) (fun hf => ?_)
  · refine g_aload_n X dX1_takeBack_9 0 rfl ?_
    refine g_dup X dX1_takeBack_10 rfl ?_
    refine cg_1_2 X h_o0 wd1_135 dX1_takeBack_11 ?_
    refine g_iconst X dX1_takeBack_14 kc_1 ?_
    refine g_isub X dX1_takeBack_15 ?_
    refine cp_1_2 X h_o0 wd1_135 dX1_takeBack_16 hf (fun S1 hf => ?_)
    refine g_aload_n X dX1_takeBack_19 0 rfl ?_
    refine cg_1_2 X h_o0 wd1_135 dX1_takeBack_20 ?_
    refine g_bipush X dX1_takeBack_23 kb_20 ?_
    refine g_imul X dX1_takeBack_25 ?_
    refine g_istore_n (i := 2) (lv' := [(2, .int ((ci S1 o0 2) * (20 : Int32))), (0, .ref (ho o0)), (1, .ref (ho o1))]) X dX1_takeBack_26 rfl (by decide) rfl ?_
    refine g_aload_n X dX1_takeBack_27 2 rfl ?_
    refine cg_7_12 X h_o1 wd1_82 dX1_takeBack_28 ?_
    refine g_iconst X dX1_takeBack_31 kc_0 ?_
    refine g_aload_n X dX1_takeBack_32 1 rfl ?_
    refine cg_1_0 X h_o0 wd1_132 dX1_takeBack_33 ?_
    refine g_iload_n X dX1_takeBack_36 0 rfl ?_
    refine g_iconst X dX1_takeBack_37 kc_1 ?_
    refine g_iadd X dX1_takeBack_38 ?_
    refine ca_ld_1_0 X h_o0 dX1_takeBack_39 hf (fun hf => ?_)
    refine ca_stc_7_12 X h_o1 kt_0 kx_0_3 dX1_takeBack_40 hf (fun S2 hf => ?_)
    refine g_aload_n X dX1_takeBack_41 1 rfl ?_
    refine cg_1_0 X h_o0 wd1_132 dX1_takeBack_42 ?_
    refine g_iload_n X dX1_takeBack_45 0 rfl ?_
    refine g_iconst X dX1_takeBack_46 kc_2 ?_
    refine g_iadd X dX1_takeBack_47 ?_
    refine g_aload_n X dX1_takeBack_48 2 rfl ?_
    refine cg_7_7 X h_o1 wd1_66 dX1_takeBack_49 ?_
    refine g_iconst X dX1_takeBack_52 kc_0 ?_
    refine g_iconst X dX1_takeBack_53 kc_4 ?_
    refine ars_copy X (ars_1_0 h_o0) (ars_7_7 h_o1) wd4_19 wd4_5 wd4_4 wd1_19 ⟨Nat.le_of_ble_eq_true rfl, by decide⟩ (Nat.le_of_ble_eq_true rfl) dX1_takeBack_54 hf (fun S3 hf => ?_)
    refine g_aload_n X dX1_takeBack_57 1 rfl ?_
    refine cg_1_0 X h_o0 wd1_132 dX1_takeBack_58 ?_
    refine g_iload_n X dX1_takeBack_61 0 rfl ?_
    refine g_iconst X dX1_takeBack_62 kc_2 ?_
    refine g_iadd X dX1_takeBack_63 ?_
    refine g_iconst X dX1_takeBack_64 kc_4 ?_
    refine g_iadd X dX1_takeBack_65 ?_
    refine g_aload_n X dX1_takeBack_66 2 rfl ?_
    refine cg_7_8 X h_o1 wd1_70 dX1_takeBack_67 ?_
    refine g_iconst X dX1_takeBack_70 kc_0 ?_
    refine g_iconst X dX1_takeBack_71 kc_4 ?_
    refine ars_copy X (ars_1_0 h_o0) (ars_7_8 h_o1) wd4_19 wd4_5 wd4_4 wd1_19 ⟨Nat.le_of_ble_eq_true rfl, by decide⟩ (Nat.le_of_ble_eq_true rfl) dX1_takeBack_72 hf (fun S4 hf => ?_)
    refine g_aload_n X dX1_takeBack_75 1 rfl ?_
    refine cg_1_0 X h_o0 wd1_132 dX1_takeBack_76 ?_
    refine g_iload_n X dX1_takeBack_79 0 rfl ?_
    refine g_iconst X dX1_takeBack_80 kc_2 ?_
    refine g_iadd X dX1_takeBack_81 ?_
    refine g_bipush X dX1_takeBack_82 kb_8 ?_
    refine g_iadd X dX1_takeBack_84 ?_
    refine g_aload_n X dX1_takeBack_85 2 rfl ?_
    refine cg_7_4 X h_o1 wd1_53 dX1_takeBack_86 ?_
    refine g_iconst X dX1_takeBack_89 kc_0 ?_
    refine g_bipush X dX1_takeBack_90 kb_10 ?_
    refine ars_copy X (ars_1_0 h_o0) (ars_7_4 h_o1) wd4_19 wd4_5 wd4_4 wd1_19 ⟨Nat.le_of_ble_eq_true rfl, by decide⟩ (Nat.le_of_ble_eq_true rfl) dX1_takeBack_92 hf (fun S5 hf => ?_)
    refine g_aload_n X dX1_takeBack_95 1 rfl ?_
    refine cg_1_0 X h_o0 wd1_132 dX1_takeBack_96 ?_
    refine g_iload_n X dX1_takeBack_99 0 rfl ?_
    refine ca_ld_1_0 X h_o0 dX1_takeBack_100 hf (fun hf => ?_)
    exact c_reti_s hA hQ X hr hlk dX1_takeBack_101 hf
  refine g_iconst X dX1_takeBack_7 kc_m1 ?_
  exact c_reti_s hA hQ X hr hlk dX1_takeBack_8 hf
def rc_1_become : Room := { frames := 1, cells := 0, slots := 0, locals := 60 }
set_option maxRecDepth 100000 in
set_option maxHeartbeats 4000000 in
theorem cc_1_become (l : Launch) (dC : Nat → ClassId) (dI : Nat → Nat → Nat) (E : Nat → ClassId) (ev : Nat → Nat) (ho : Nat → Nat) (ro : Nat → Nat → Nat) (P : va_W) (S : CS) (o0 : Nat) (o1 : Nat) (h_o0 : lg o0) (h_o1 : lg o1) (res : Unit × CS) (hf : C_1_become S o0 o1 = some res) : CC l dC dI E ev yX1_become cX1_become 2 none rc_1_become [.ref (ho o0), .ref (ho o1)] (CW E ho ro S ++ P) (CW E ho ro res.2 ++ P) none := by
  refine CC_of (own := "LostLanes$Log") (by decide) rfl (Nat.le_of_ble_eq_true rfl) ?_
  intro p e s m args below meth c A Q X Y hr hlk hA hQ
  refine g_lv [0, 1] (lv' := [(0, .ref (ho o0)), (1, .ref (ho o1))]) rfl ?_
  unfold C_1_become at hf
  refine g_aload_n X dX1_become_0 1 rfl ?_
  refine cg_1_0 X h_o1 wd1_132 dX1_become_1 ?_
  refine g_iconst X dX1_become_4 kc_0 ?_
  refine g_aload_n X dX1_become_5 0 rfl ?_
  refine cg_1_0 X h_o0 wd1_132 dX1_become_6 ?_
  refine g_iconst X dX1_become_9 kc_0 ?_
  refine g_aload_n X dX1_become_10 0 rfl ?_
  refine cg_1_0 X h_o0 wd1_132 dX1_become_11 ?_
  refine ca_len_1_0 X h_o0 kn_320 dX1_become_14 ?_
  refine ars_copy X (ars_1_0 h_o1) (ars_1_0 h_o0) wd4_19 wd4_5 wd4_4 wd1_19 ⟨Nat.le_of_ble_eq_true rfl, by decide⟩ (Nat.le_of_ble_eq_true rfl) dX1_become_15 hf (fun S1 hf => ?_)
  refine g_aload_n X dX1_become_18 0 rfl ?_
  refine g_aload_n X dX1_become_19 1 rfl ?_
  refine cg_1_2 X h_o1 wd1_135 dX1_become_20 ?_
  refine cp_1_2 X h_o0 wd1_135 dX1_become_23 hf (fun S2 hf => ?_)
  exact c_retv_s hA hQ X hr hlk dX1_become_26 hf
def rc_7_hasLane : Room := { frames := 0, cells := 0, slots := 0, locals := 0 }
set_option maxRecDepth 100000 in
set_option maxHeartbeats 4000000 in
theorem cc_7_hasLane (l : Launch) (dC : Nat → ClassId) (dI : Nat → Nat → Nat) (E : Nat → ClassId) (ev : Nat → Nat) (ho : Nat → Nat) (ro : Nat → Nat → Nat) (P : va_W) (S : CS) (o0 : Nat) (x1 : Int32) (h_o0 : tw o0) (res : Int32) (hf : C_7_hasLane S o0 x1 = some res) : CC l dC dI E ev yX7_hasLane cX7_hasLane 2 (some .boolean) rc_7_hasLane [.ref (ho o0), .int x1] (CW E ho ro S ++ P) (CW E ho ro S ++ P) (some (.int res)) := by
  refine CC_of (own := "LostLanes$Town") (by decide) rfl (Nat.le_of_ble_eq_true rfl) ?_
  intro p e s m args below meth c A Q X Y hr hlk hA hQ
  refine g_lv [0, 1] (lv' := [(0, .ref (ho o0)), (1, .int x1)]) rfl ?_
  unfold C_7_hasLane at hf
  refine g_iload_n X dX7_hasLane_0 1 rfl ?_
  refine g_if_lt (tgt := 22) X dX7_hasLane_1 (by decide) hf (fun hf => ?_) (fun hf => ?_)
  · refine g_iconst X dX7_hasLane_22 kc_0 ?_
    exact c_retz_o hA hQ X hr hlk (Or.inl rfl) dX7_hasLane_23 hf
  refine g_iload_n X dX7_hasLane_4 1 rfl ?_
  refine g_aload_n X dX7_hasLane_5 0 rfl ?_
  refine cg_7_5 X h_o0 wd1_57 dX7_hasLane_6 ?_
  refine g_icmp_ge (tgt := 22) X dX7_hasLane_9 (by decide) hf (fun hf => ?_) (fun hf => ?_)
  · refine g_iconst X dX7_hasLane_22 kc_0 ?_
    exact c_retz_o hA hQ X hr hlk (Or.inl rfl) dX7_hasLane_23 hf
  refine g_iload_n X dX7_hasLane_12 1 rfl ?_
  refine g_bipush X dX7_hasLane_13 kb_10 ?_
  refine g_icmp_ge (tgt := 22) X dX7_hasLane_15 (by decide) hf (fun hf => ?_) (fun hf => ?_)
  · refine g_iconst X dX7_hasLane_22 kc_0 ?_
    exact c_retz_o hA hQ X hr hlk (Or.inl rfl) dX7_hasLane_23 hf
  refine g_iconst X dX7_hasLane_18 kc_1 ?_
  refine g_goto (tgt := 23) X dX7_hasLane_19 (by decide) ?_
  exact c_retz_o hA hQ X hr hlk (Or.inr rfl) dX7_hasLane_23 hf
def rc_7_isEnd : Room := { frames := 1, cells := 0, slots := 0, locals := 21 }
set_option maxRecDepth 100000 in
set_option maxHeartbeats 4000000 in
theorem cc_7_isEnd (l : Launch) (dC : Nat → ClassId) (dI : Nat → Nat → Nat) (E : Nat → ClassId) (ev : Nat → Nat) (ho : Nat → Nat) (ro : Nat → Nat → Nat) (P : va_W) (S : CS) (o0 : Nat) (x1 : Int32) (x2 : Int32) (h_o0 : tw o0) (res : Int32) (hf : C_7_isEnd S o0 x1 x2 = some res) : CC l dC dI E ev yX7_isEnd cX7_isEnd 3 (some .boolean) rc_7_isEnd [.ref (ho o0), .int x1, .int x2] (CW E ho ro S ++ P) (CW E ho ro S ++ P) (some (.int res)) := by
  refine CC_of (own := "LostLanes$Town") (by decide) rfl (Nat.le_of_ble_eq_true rfl) ?_
  intro p e s m args below meth c A Q X Y hr hlk hA hQ
  have hB28 : C_7_isEnd_B28 o0 S  = some res → GG p l e rc_7_isEnd s m args below meth c dC dI A 3 0 0 Q (CW E ho ro S ++ P) 28 [] [] := by
    intro  hf
    unfold C_7_isEnd_B28 at hf
    refine g_iconst X dX7_isEnd_28 kc_1 ?_
    refine g_goto (tgt := 33) X dX7_isEnd_29 (by decide) ?_
    exact c_retz_o hA hQ X hr hlk (Or.inr rfl) dX7_isEnd_33 hf
  refine g_lv [0, 1, 2] (lv' := [(0, .ref (ho o0)), (1, .int x1), (2, .int x2)]) rfl ?_
  unfold C_7_isEnd at hf
  refine g_aload_n X dX7_isEnd_0 0 rfl ?_
  refine g_iload_n X dX7_isEnd_1 1 rfl ?_
  refine m_bind hf (fun y1 hy1 hf => ?_)
  refine cw_V_i (cix := 7) (As := [.int x1]) (st := []) X Y kV_X7_69 (cc_7_hasLane l dC dI E ev ho ro P S o0 x1 h_o0 y1 hy1) (ob_7 h_o0) rfl ⟨Nat.le_of_ble_eq_true rfl, Nat.le_of_ble_eq_true rfl⟩ ⟨rfl, rfl⟩ (Nat.le_of_ble_eq_true rfl) ⟨Nat.le_of_ble_eq_true rfl, Nat.le_of_ble_eq_true rfl⟩ dX7_isEnd_2 ?_
  refine g_if_eq (tgt := 32) X dX7_isEnd_5 (by decide) hf (fun hf => ?_) (fun hf => ?_)
  · refine g_iconst X dX7_isEnd_32 kc_0 ?_
    exact c_retz_o hA hQ X hr hlk (Or.inl rfl) dX7_isEnd_33 hf
  refine g_aload_n X dX7_isEnd_8 0 rfl ?_
  refine cg_7_0 X h_o0 wd1_37 dX7_isEnd_9 ?_
  refine g_iload_n X dX7_isEnd_12 1 rfl ?_
  refine ca_ld_7_0 X h_o0 dX7_isEnd_13 hf (fun hf => ?_)
  refine g_iload_n X dX7_isEnd_14 2 rfl ?_
  refine g_icmp_eq (tgt := 28) X dX7_isEnd_15 (by decide) hf (fun hf => ?_) (fun hf => ?_)
  · refine g_lv [] (lv' := []) rfl ?_
    exact hB28  hf
  refine g_aload_n X dX7_isEnd_18 0 rfl ?_
  refine cg_7_1 X h_o0 wd1_41 dX7_isEnd_19 ?_
  refine g_iload_n X dX7_isEnd_22 1 rfl ?_
  refine ca_ld_7_1 X h_o0 dX7_isEnd_23 hf (fun hf => ?_)
  refine g_iload_n X dX7_isEnd_24 2 rfl ?_
  refine g_icmp_ne (tgt := 32) X dX7_isEnd_25 (by decide) hf (fun hf => ?_) (fun hf => ?_)
  · refine g_iconst X dX7_isEnd_32 kc_0 ?_
    exact c_retz_o hA hQ X hr hlk (Or.inl rfl) dX7_isEnd_33 hf
  refine g_lv [] (lv' := []) rfl ?_
  exact hB28  hf
def rc_7_doMeet : Room := { frames := 2, cells := 0, slots := 0, locals := 43 }
set_option maxRecDepth 100000 in
set_option maxHeartbeats 4000000 in
theorem cc_7_doMeet (l : Launch) (dC : Nat → ClassId) (dI : Nat → Nat → Nat) (E : Nat → ClassId) (ev : Nat → Nat) (ho : Nat → Nat) (ro : Nat → Nat → Nat) (P : va_W) (S : CS) (o0 : Nat) (x1 : Int32) (x2 : Int32) (h_o0 : tw o0) (res : Int32) (hf : C_7_doMeet S o0 x1 x2 = some res) : CC l dC dI E ev yX7_doMeet cX7_doMeet 3 (some .boolean) rc_7_doMeet [.ref (ho o0), .int x1, .int x2] (CW E ho ro S ++ P) (CW E ho ro S ++ P) (some (.int res)) := by
  refine CC_of (own := "LostLanes$Town") (by decide) rfl (Nat.le_of_ble_eq_true rfl) ?_
  intro p e s m args below meth c A Q X Y hr hlk hA hQ
  have hB36 : C_7_doMeet_B36 o0 S  = some res → GG p l e rc_7_doMeet s m args below meth c dC dI A 3 0 0 Q (CW E ho ro S ++ P) 36 [] [] := by
    intro  hf
    unfold C_7_doMeet_B36 at hf
    refine g_iconst X dX7_doMeet_36 kc_1 ?_
    refine g_goto (tgt := 41) X dX7_doMeet_37 (by decide) ?_
    exact c_retz_o hA hQ X hr hlk (Or.inr rfl) dX7_doMeet_41 hf
  refine g_lv [0, 1, 2] (lv' := [(0, .ref (ho o0)), (1, .int x1), (2, .int x2)]) rfl ?_
  unfold C_7_doMeet at hf
  refine g_aload_n X dX7_doMeet_0 0 rfl ?_
  refine g_iload_n X dX7_doMeet_1 1 rfl ?_
  refine m_bind hf (fun y1 hy1 hf => ?_)
  refine cw_V_i (cix := 7) (As := [.int x1]) (st := []) X Y kV_X7_69 (cc_7_hasLane l dC dI E ev ho ro P S o0 x1 h_o0 y1 hy1) (ob_7 h_o0) rfl ⟨Nat.le_of_ble_eq_true rfl, Nat.le_of_ble_eq_true rfl⟩ ⟨rfl, rfl⟩ (Nat.le_of_ble_eq_true rfl) ⟨Nat.le_of_ble_eq_true rfl, Nat.le_of_ble_eq_true rfl⟩ dX7_doMeet_2 ?_
  refine g_if_eq (tgt := 40) X dX7_doMeet_5 (by decide) hf (fun hf => ?_) (fun hf => ?_)
  · refine g_iconst X dX7_doMeet_40 kc_0 ?_
    exact c_retz_o hA hQ X hr hlk (Or.inl rfl) dX7_doMeet_41 hf
  refine g_aload_n X dX7_doMeet_8 0 rfl ?_
  refine g_iload_n X dX7_doMeet_9 2 rfl ?_
  refine g_aload_n X dX7_doMeet_10 0 rfl ?_
  refine cg_7_0 X h_o0 wd1_37 dX7_doMeet_11 ?_
  refine g_iload_n X dX7_doMeet_14 1 rfl ?_
  refine ca_ld_7_0 X h_o0 dX7_doMeet_15 hf (fun hf => ?_)
  refine m_bind hf (fun y2 hy2 hf => ?_)
  refine cw_V_i (cix := 7) (As := [.int x2, .int (ca S o0 0 (x1).toNatClampNeg)]) (st := []) X Y kV_X7_72 (cc_7_isEnd l dC dI E ev ho ro P S o0 x2 (ca S o0 0 (x1).toNatClampNeg) h_o0 y2 hy2) (ob_7 h_o0) rfl ⟨Nat.le_of_ble_eq_true rfl, Nat.le_of_ble_eq_true rfl⟩ ⟨rfl, rfl⟩ (Nat.le_of_ble_eq_true rfl) ⟨Nat.le_of_ble_eq_true rfl, Nat.le_of_ble_eq_true rfl⟩ dX7_doMeet_16 ?_
  refine g_if_ne (tgt := 36) X dX7_doMeet_19 (by decide) hf (fun hf => ?_) (fun hf => ?_)
  · refine g_lv [] (lv' := []) rfl ?_
    exact hB36  hf
  refine g_aload_n X dX7_doMeet_22 0 rfl ?_
  refine g_iload_n X dX7_doMeet_23 2 rfl ?_
  refine g_aload_n X dX7_doMeet_24 0 rfl ?_
  refine cg_7_1 X h_o0 wd1_41 dX7_doMeet_25 ?_
  refine g_iload_n X dX7_doMeet_28 1 rfl ?_
  refine ca_ld_7_1 X h_o0 dX7_doMeet_29 hf (fun hf => ?_)
  refine m_bind hf (fun y3 hy3 hf => ?_)
  refine cw_V_i (cix := 7) (As := [.int x2, .int (ca S o0 1 (x1).toNatClampNeg)]) (st := []) X Y kV_X7_72 (cc_7_isEnd l dC dI E ev ho ro P S o0 x2 (ca S o0 1 (x1).toNatClampNeg) h_o0 y3 hy3) (ob_7 h_o0) rfl ⟨Nat.le_of_ble_eq_true rfl, Nat.le_of_ble_eq_true rfl⟩ ⟨rfl, rfl⟩ (Nat.le_of_ble_eq_true rfl) ⟨Nat.le_of_ble_eq_true rfl, Nat.le_of_ble_eq_true rfl⟩ dX7_doMeet_30 ?_
  refine g_if_eq (tgt := 40) X dX7_doMeet_33 (by decide) hf (fun hf => ?_) (fun hf => ?_)
  · refine g_iconst X dX7_doMeet_40 kc_0 ?_
    exact c_retz_o hA hQ X hr hlk (Or.inl rfl) dX7_doMeet_41 hf
  refine g_lv [] (lv' := []) rfl ?_
  exact hB36  hf
def rc_2_isFree : Room := { frames := 3, cells := 0, slots := 0, locals := 65 }
set_option maxRecDepth 100000 in
set_option maxHeartbeats 4000000 in
theorem cc_2_isFree (l : Launch) (dC : Nat → ClassId) (dI : Nat → Nat → Nat) (E : Nat → ClassId) (ev : Nat → Nat) (ho : Nat → Nat) (ro : Nat → Nat → Nat) (F : Nat) (P : va_W) (S : CS) (o1 : Nat) (x2 : Int32) (x3 : Int32) (h_o1 : tw o1) (res : Int32) (hf : C_2_isFree F S o1 x2 x3 = some res) : CC l dC dI E ev yX2_isFree cX2_isFree 5 (some .boolean) rc_2_isFree [.ref (ho 14), .ref (ho o1), .int x2, .int x3] (CW E ho ro S ++ P) (CW E ho ro S ++ P) (some (.int res)) := by
  refine CC_of (own := "LostLanes$Plates") (by decide) rfl (Nat.le_of_ble_eq_true rfl) ?_
  intro p e s m args below meth c A Q X Y hr hlk hA hQ
  have hB39 : ∀ (x2 : Int32) (x3 : Int32) (k3 : Int32 → Option Int32) (hk3 : ∀ (x4 : Int32), k3 x4 = some res → GG p l e rc_2_isFree s m args below meth c dC dI A 5 0 0 Q (CW E ho ro S ++ P) 3 [(0, .ref (ho 14)), (1, .ref (ho o1)), (2, .int x2), (3, .int x3), (4, .int x4)] []) (x4 : Int32), C_2_isFree_B39 F o1 k3 S x2 x3 x4 = some res → GG p l e rc_2_isFree s m args below meth c dC dI A 5 0 0 Q (CW E ho ro S ++ P) 39 [(0, .ref (ho 14)), (1, .ref (ho o1)), (2, .int x2), (3, .int x3), (4, .int x4)] [] := by
    intro x2 x3 k3 hk3 x4 hf
    unfold C_2_isFree_B39 at hf
    refine g_iinc (lv' := [(4, .int (x4 + (1 : Int32))), (0, .ref (ho 14)), (1, .ref (ho o1)), (2, .int x2), (3, .int x3)]) X dX2_isFree_39 4 rfl kc_1 (by decide) rfl ?_
    refine g_goto (tgt := 3) X dX2_isFree_42 (by decide) ?_
    refine g_lv [1, 2, 3, 4, 0] (lv' := [(0, .ref (ho 14)), (1, .ref (ho o1)), (2, .int x2), (3, .int x3), (4, .int (x4 + (1 : Int32)))]) rfl ?_
    exact hk3 _ hf
  have hL3 : ∀ (x2 : Int32) (x3 : Int32) (n : Nat) (x4 : Int32), C_2_isFree_L3 F o1 S x2 x3 n x4 = some res → GG p l e rc_2_isFree s m args below meth c dC dI A 5 0 0 Q (CW E ho ro S ++ P) 3 [(0, .ref (ho 14)), (1, .ref (ho o1)), (2, .int x2), (3, .int x3), (4, .int x4)] [] := by
    intro x2 x3 n
    induction n with
    | zero => intro x4 hf; have hf : (none : Option Int32) = some res := hf; cases hf
    | succ n ih =>
      intro x4 hf
      rw [C_2_isFree_L3] at hf
      refine g_iload X dX2_isFree_3 4 rfl ?_
      refine g_iload_n X dX2_isFree_5 2 rfl ?_
      refine g_icmp_ge (tgt := 45) X dX2_isFree_6 (by decide) hf (fun hf => ?_) (fun hf => ?_)
      · refine g_iconst X dX2_isFree_45 kc_1 ?_
        exact c_retz_o hA hQ X hr hlk (Or.inr rfl) dX2_isFree_46 hf
      refine g_iload X dX2_isFree_9 4 rfl ?_
      refine g_bipush X dX2_isFree_11 kb_10 ?_
      refine g_icmp_ge (tgt := 45) X dX2_isFree_13 (by decide) hf (fun hf => ?_) (fun hf => ?_)
      · refine g_iconst X dX2_isFree_45 kc_1 ?_
        exact c_retz_o hA hQ X hr hlk (Or.inr rfl) dX2_isFree_46 hf
      refine g_aload_n X dX2_isFree_16 0 rfl ?_
      refine cg_2_0 X wd2_27 dX2_isFree_17 ?_
      refine g_iload X dX2_isFree_20 4 rfl ?_
      refine ca_ld_2_0 X dX2_isFree_22 hf (fun hf => ?_)
      refine g_iload_n X dX2_isFree_23 3 rfl ?_
      refine g_icmp_ne (tgt := 39) X dX2_isFree_24 (by decide) hf (fun hf => ?_) (fun hf => ?_)
      · exact hB39 _ _ _ ih _ hf
      refine g_aload_n X dX2_isFree_27 1 rfl ?_
      refine g_iload X dX2_isFree_28 4 rfl ?_
      refine g_iload_n X dX2_isFree_30 2 rfl ?_
      refine m_bind hf (fun y1 hy1 hf => ?_)
      refine cw_V_i (cix := 7) (As := [.int x4, .int x2]) (st := []) X Y kV_X2_41 (cc_7_doMeet l dC dI E ev ho ro P S o1 x4 x2 h_o1 y1 hy1) (ob_7 h_o1) rfl ⟨Nat.le_of_ble_eq_true rfl, Nat.le_of_ble_eq_true rfl⟩ ⟨rfl, rfl⟩ (Nat.le_of_ble_eq_true rfl) ⟨Nat.le_of_ble_eq_true rfl, Nat.le_of_ble_eq_true rfl⟩ dX2_isFree_31 ?_
      refine g_if_eq (tgt := 39) X dX2_isFree_34 (by decide) hf (fun hf => ?_) (fun hf => ?_)
      · exact hB39 _ _ _ ih _ hf
      refine g_iconst X dX2_isFree_37 kc_0 ?_
      exact c_retz_o hA hQ X hr hlk (Or.inl rfl) dX2_isFree_38 hf
  refine g_lv [0, 1, 2, 3] (lv' := [(0, .ref (ho 14)), (1, .ref (ho o1)), (2, .int x2), (3, .int x3)]) rfl ?_
  unfold C_2_isFree at hf
  refine g_iconst X dX2_isFree_0 kc_0 ?_
  refine g_istore (lv' := [(4, .int (0 : Int32)), (0, .ref (ho 14)), (1, .ref (ho o1)), (2, .int x2), (3, .int x3)]) X dX2_isFree_1 (by decide) rfl ?_
  refine g_lv [1, 2, 3, 4, 0] (lv' := [(0, .ref (ho 14)), (1, .ref (ho o1)), (2, .int x2), (3, .int x3), (4, .int (0 : Int32))]) rfl ?_
  exact hL3 _ _ _ _ hf
def rc_2_paint (f_paint g_paint : Nat) : Room := { frames := f_paint + 14, cells := 0, slots := 0, locals := g_paint + 320 }
set_option maxRecDepth 100000 in
set_option maxHeartbeats 4000000 in
theorem cc_2_paint (l : Launch) (dC : Nat → ClassId) (dI : Nat → Nat → Nat) (E : Nat → ClassId) (ev : Nat → Nat) (ho : Nat → Nat) (ro : Nat → Nat → Nat) (F : Nat) (P : va_W) (S : CS) (f_paint g_paint : Nat) (rs_paint : CS → Nat → Int32 → Int32 → Int32 → Option (Int32 × CS)) (hrs_paint : ∀ (S : CS) (o : Nat) (x2 x3 x4 : Int32) (_ : tw o) (res : Int32 × CS), rs_paint S o x2 x3 x4 = some res → CC l dC dI E ev yX2_paint cX2_paint 6 (some .boolean) { frames := f_paint, cells := 0, slots := 0, locals := g_paint } [.ref (ho 14), .ref (ho o), .int x2, .int x3, .int x4] (CW E ho ro S ++ P) (CW E ho ro res.2 ++ P) (some (.int res.1))) (o1 : Nat) (x2 : Int32) (x3 : Int32) (x4 : Int32) (h_o1 : tw o1) (res : Int32 × CS) (hf : C_2_paint rs_paint F S o1 x2 x3 x4 = some res) : CC l dC dI E ev yX2_paint cX2_paint 6 (some .boolean) (rc_2_paint f_paint g_paint) [.ref (ho 14), .ref (ho o1), .int x2, .int x3, .int x4] (CW E ho ro S ++ P) (CW E ho ro res.2 ++ P) (some (.int res.1)) := by
  refine CC_of (own := "LostLanes$Plates") (by decide) rfl (Nat.le_of_ble_eq_true rfl) ?_
  intro p e s m args below meth c A Q X Y hr hlk hA hQ
  have hB74 : ∀ (x2 : Int32) (x3 : Int32) (x4 : Int32) (k19 : CS → Int32 → Option (Int32 × CS)) (hk19 : ∀ (S : CS) (x5 : Int32), k19 S x5 = some res → GG p l e (rc_2_paint f_paint g_paint) s m args below meth c dC dI A 6 0 0 Q (CW E ho ro S ++ P) 19 [(0, .ref (ho 14)), (1, .ref (ho o1)), (2, .int x2), (3, .int x3), (4, .int x4), (5, .int x5)] []) (S : CS) (x5 : Int32), C_2_paint_B74 rs_paint F o1 k19 S x2 x3 x4 x5 = some res → GG p l e (rc_2_paint f_paint g_paint) s m args below meth c dC dI A 6 0 0 Q (CW E ho ro S ++ P) 74 [(0, .ref (ho 14)), (1, .ref (ho o1)), (2, .int x2), (3, .int x3), (4, .int x4), (5, .int x5)] [] := by
    intro x2 x3 x4 k19 hk19 S x5 hf
    unfold C_2_paint_B74 at hf
    refine g_iinc (lv' := [(5, .int (x5 + (1 : Int32))), (0, .ref (ho 14)), (1, .ref (ho o1)), (2, .int x2), (3, .int x3), (4, .int x4)]) X dX2_paint_74 5 rfl kc_1 (by decide) rfl ?_
    refine g_goto (tgt := 19) X dX2_paint_77 (by decide) ?_
    refine g_lv [1, 2, 3, 4, 5, 0] (lv' := [(0, .ref (ho 14)), (1, .ref (ho o1)), (2, .int x2), (3, .int x3), (4, .int x4), (5, .int (x5 + (1 : Int32)))]) rfl ?_
    exact hk19 _ _ hf
  have hL19 : ∀ (x2 : Int32) (x3 : Int32) (x4 : Int32) (n : Nat) (S : CS) (x5 : Int32), C_2_paint_L19 rs_paint F o1 x2 x3 x4 n S x5 = some res → GG p l e (rc_2_paint f_paint g_paint) s m args below meth c dC dI A 6 0 0 Q (CW E ho ro S ++ P) 19 [(0, .ref (ho 14)), (1, .ref (ho o1)), (2, .int x2), (3, .int x3), (4, .int x4), (5, .int x5)] [] := by
    intro x2 x3 x4 n
    induction n with
    | zero => intro S x5 hf; have hf : (none : Option (Int32 × CS)) = some res := hf; cases hf
    | succ n ih =>
      intro S x5 hf
      rw [C_2_paint_L19] at hf
      refine g_iload X dX2_paint_19 5 rfl ?_
      refine g_iload_n X dX2_paint_21 3 rfl ?_
      refine g_icmp_gt (tgt := 80) X dX2_paint_22 (by decide) hf (fun hf => ?_) (fun hf => ?_)
      · refine g_iconst X dX2_paint_80 kc_0 ?_
        exact c_retz_s hA hQ X hr hlk (Or.inl rfl) dX2_paint_81 hf
      refine g_iload X dX2_paint_25 5 rfl ?_
      refine g_iload X dX2_paint_27 4 rfl ?_
      refine g_icmp_ge (tgt := 80) X dX2_paint_29 (by decide) hf (fun hf => ?_) (fun hf => ?_)
      · refine g_iconst X dX2_paint_80 kc_0 ?_
        exact c_retz_s hA hQ X hr hlk (Or.inl rfl) dX2_paint_81 hf
      refine g_aload_n X dX2_paint_32 0 rfl ?_
      refine g_aload_n X dX2_paint_33 1 rfl ?_
      refine g_iload_n X dX2_paint_34 2 rfl ?_
      refine g_iload X dX2_paint_35 5 rfl ?_
      refine m_bind hf (fun y1 hy1 hf => ?_)
      refine cw_V_i (cix := 2) (As := [.ref (ho o1), .int x2, .int x5]) (st := []) X Y kV_X2_31 (cc_2_isFree l dC dI E ev ho ro F P S o1 x2 x5 h_o1 y1 hy1) ob_2 rfl ⟨by dsimp only [rc_2_paint, rc_2_isFree]; omega, by dsimp only [rc_2_paint, rc_2_isFree]; omega⟩ ⟨rfl, rfl⟩ (Nat.le_of_ble_eq_true rfl) ⟨Nat.le_of_ble_eq_true rfl, Nat.le_of_ble_eq_true rfl⟩ dX2_paint_37 ?_
      refine g_if_eq (tgt := 74) X dX2_paint_40 (by decide) hf (fun hf => ?_) (fun hf => ?_)
      · exact hB74 _ _ _ _ ih _ _ hf
      refine g_aload_n X dX2_paint_43 0 rfl ?_
      refine cg_2_0 X wd2_27 dX2_paint_44 ?_
      refine g_iload_n X dX2_paint_47 2 rfl ?_
      refine g_iload X dX2_paint_48 5 rfl ?_
      refine ca_st_2_0 X dX2_paint_50 hf (fun S2 hf => ?_)
      refine g_aload_n X dX2_paint_51 0 rfl ?_
      refine g_aload_n X dX2_paint_52 1 rfl ?_
      refine g_iload_n X dX2_paint_53 2 rfl ?_
      refine g_iconst X dX2_paint_54 kc_1 ?_
      refine g_iadd X dX2_paint_55 ?_
      refine g_iload_n X dX2_paint_56 3 rfl ?_
      refine g_iload X dX2_paint_57 5 rfl ?_
      refine g_iconst X dX2_paint_59 kc_1 ?_
      refine g_iadd X dX2_paint_60 ?_
      refine g_mmax X wd5_42 wd2_191 wd1_11 wd2_192 ⟨by dsimp only [rc_2_paint]; omega, by dsimp only [rc_2_paint]; omega⟩ (Nat.le_of_ble_eq_true rfl) ⟨Nat.le_of_ble_eq_true rfl, Nat.le_of_ble_eq_true rfl⟩ dX2_paint_61 ?_
      refine g_iload X dX2_paint_64 4 rfl ?_
      refine m_bind hf (fun y3 hy3 hf => ?_)
      refine cw_V_i (cix := 2) (As := [.ref (ho o1), .int (x2 + (1 : Int32)), .int (if x3 < (x5 + (1 : Int32)) then (x5 + (1 : Int32)) else x3), .int x4]) (st := []) X Y kV_X2_21 (hrs_paint S2 o1 (x2 + (1 : Int32)) (if x3 < (x5 + (1 : Int32)) then (x5 + (1 : Int32)) else x3) x4 h_o1 y3 hy3) ob_2 rfl ⟨by dsimp only [rc_2_paint]; omega, by dsimp only [rc_2_paint]; omega⟩ ⟨rfl, rfl⟩ (Nat.le_of_ble_eq_true rfl) ⟨Nat.le_of_ble_eq_true rfl, Nat.le_of_ble_eq_true rfl⟩ dX2_paint_66 ?_
      refine g_if_eq (tgt := 74) X dX2_paint_69 (by decide) hf (fun hf => ?_) (fun hf => ?_)
      · exact hB74 _ _ _ _ ih _ _ hf
      refine g_iconst X dX2_paint_72 kc_1 ?_
      exact c_retz_s hA hQ X hr hlk (Or.inr rfl) dX2_paint_73 hf
  refine g_lv [0, 1, 2, 3, 4] (lv' := [(0, .ref (ho 14)), (1, .ref (ho o1)), (2, .int x2), (3, .int x3), (4, .int x4)]) rfl ?_
  unfold C_2_paint at hf
  refine g_iload_n X dX2_paint_0 2 rfl ?_
  refine g_aload_n X dX2_paint_1 1 rfl ?_
  refine cg_7_5 X h_o1 wd1_60 dX2_paint_2 ?_
  refine g_icmp_ge (tgt := 14) X dX2_paint_5 (by decide) hf (fun hf => ?_) (fun hf => ?_)
  · refine g_iconst X dX2_paint_14 kc_1 ?_
    exact c_retz_s hA hQ X hr hlk (Or.inr rfl) dX2_paint_15 hf
  refine g_iload_n X dX2_paint_8 2 rfl ?_
  refine g_bipush X dX2_paint_9 kb_10 ?_
  refine g_icmp_lt (tgt := 16) X dX2_paint_11 (by decide) hf (fun hf => ?_) (fun hf => ?_)
  · refine g_iconst X dX2_paint_16 kc_0 ?_
    refine g_istore (lv' := [(5, .int (0 : Int32)), (0, .ref (ho 14)), (1, .ref (ho o1)), (2, .int x2), (3, .int x3), (4, .int x4)]) X dX2_paint_17 (by decide) rfl ?_
    refine g_lv [1, 2, 3, 4, 5, 0] (lv' := [(0, .ref (ho 14)), (1, .ref (ho o1)), (2, .int x2), (3, .int x3), (4, .int x4), (5, .int (0 : Int32))]) rfl ?_
    exact hL19 _ _ _ _ _ _ hf
  refine g_iconst X dX2_paint_14 kc_1 ?_
  exact c_retz_s hA hQ X hr hlk (Or.inr rfl) dX2_paint_15 hf
def rd_2_paint (d : Nat) : Room := { frames := 14 * d, cells := 0, slots := 0, locals := 320 * d }
set_option maxRecDepth 100000 in
set_option maxHeartbeats 4000000 in
theorem cc_2_paintD (l : Launch) (dC : Nat → ClassId) (dI : Nat → Nat → Nat) (E : Nat → ClassId) (ev : Nat → Nat) (ho : Nat → Nat) (ro : Nat → Nat → Nat) (F : Nat) (P : va_W) : ∀ (d : Nat) (S : CS) (o : Nat) (x2 x3 x4 : Int32) (h_o : tw o) (res : Int32 × CS), C_2_paintD F d S o x2 x3 x4 = some res → CC l dC dI E ev yX2_paint cX2_paint 6 (some .boolean) (rd_2_paint d) [.ref (ho 14), .ref (ho o), .int x2, .int x3, .int x4] (CW E ho ro S ++ P) (CW E ho ro res.2 ++ P) (some (.int res.1)) := by
  intro d
  induction d with
  | zero => intro S o x2 x3 x4 h_o res hf; have hf : (none : Option (Int32 × CS)) = some res := hf; cases hf
  | succ d ih =>
    intro S o x2 x3 x4 h_o res hf
    have h := cc_2_paint l dC dI E ev ho ro F P S _ _ (C_2_paintD F d) (fun S o x2 x3 x4 h res hf => ih S o x2 x3 x4 h res hf) o x2 x3 x4 h_o res hf
    exact h
def rc_2_tellApart : Room := { frames := 169, cells := 0, slots := 0, locals := 3865 }
set_option maxRecDepth 100000 in
set_option maxHeartbeats 4000000 in
theorem cc_2_tellApart (l : Launch) (dC : Nat → ClassId) (dI : Nat → Nat → Nat) (E : Nat → ClassId) (ev : Nat → Nat) (ho : Nat → Nat) (ro : Nat → Nat → Nat) (F : Nat) (P : va_W) (S : CS) (o1 : Nat) (h_o1 : tw o1) (res : Int32 × CS) (hf : C_2_tellApart F S o1 = some res) : CC l dC dI E ev yX2_tellApart cX2_tellApart 3 (some .int) rc_2_tellApart [.ref (ho 14), .ref (ho o1)] (CW E ho ro S ++ P) (CW E ho ro res.2 ++ P) (some (.int res.1)) := by
  refine CC_of (own := "LostLanes$Plates") (by decide) rfl (Nat.le_of_ble_eq_true rfl) ?_
  intro p e s m args below meth c A Q X Y hr hlk hA hQ
  have hL2 : ∀  (n : Nat) (S : CS) (x2 : Int32), C_2_tellApart_L2 F o1 n S x2 = some res → GG p l e rc_2_tellApart s m args below meth c dC dI A 3 0 0 Q (CW E ho ro S ++ P) 2 [(0, .ref (ho 14)), (1, .ref (ho o1)), (2, .int x2)] [] := by
    intro  n
    induction n with
    | zero => intro S x2 hf; have hf : (none : Option (Int32 × CS)) = some res := hf; cases hf
    | succ n ih =>
      intro S x2 hf
      rw [C_2_tellApart_L2] at hf
      refine g_iload_n X dX2_tellApart_2 2 rfl ?_
      refine g_bipush X dX2_tellApart_3 kb_10 ?_
      refine g_icmp_ge (tgt := 27) X dX2_tellApart_5 (by decide) hf (fun hf => ?_) (fun hf => ?_)
      · refine g_aload_n X dX2_tellApart_27 0 rfl ?_
        refine g_aload_n X dX2_tellApart_28 1 rfl ?_
        refine g_iconst X dX2_tellApart_29 kc_0 ?_
        refine g_iconst X dX2_tellApart_30 kc_0 ?_
        refine g_bipush X dX2_tellApart_31 kb_10 ?_
        refine m_bind hf (fun y1 hy1 hf => ?_)
        refine cw_V_i (cix := 2) (As := [.ref (ho o1), .int (0 : Int32), .int (0 : Int32), .int (10 : Int32)]) (st := []) X Y kV_X2_21 (cc_2_paintD l dC dI E ev ho ro F P 12 S o1 (0 : Int32) (0 : Int32) (10 : Int32) h_o1 y1 hy1) ob_2 rfl ⟨Nat.le_of_ble_eq_true rfl, Nat.le_of_ble_eq_true rfl⟩ ⟨rfl, rfl⟩ (Nat.le_of_ble_eq_true rfl) ⟨Nat.le_of_ble_eq_true rfl, Nat.le_of_ble_eq_true rfl⟩ dX2_tellApart_33 ?_
        refine g_pop X dX2_tellApart_36 rfl ?_
        refine g_bipush X dX2_tellApart_37 kb_10 ?_
        exact c_reti_s hA hQ X hr hlk dX2_tellApart_39 hf
      refine g_aload_n X dX2_tellApart_8 0 rfl ?_
      refine g_aload_n X dX2_tellApart_9 1 rfl ?_
      refine g_iconst X dX2_tellApart_10 kc_0 ?_
      refine g_iconst X dX2_tellApart_11 kc_0 ?_
      refine g_iload_n X dX2_tellApart_12 2 rfl ?_
      refine m_bind hf (fun y2 hy2 hf => ?_)
      refine cw_V_i (cix := 2) (As := [.ref (ho o1), .int (0 : Int32), .int (0 : Int32), .int x2]) (st := []) X Y kV_X2_21 (cc_2_paintD l dC dI E ev ho ro F P 12 S o1 (0 : Int32) (0 : Int32) x2 h_o1 y2 hy2) ob_2 rfl ⟨Nat.le_of_ble_eq_true rfl, Nat.le_of_ble_eq_true rfl⟩ ⟨rfl, rfl⟩ (Nat.le_of_ble_eq_true rfl) ⟨Nat.le_of_ble_eq_true rfl, Nat.le_of_ble_eq_true rfl⟩ dX2_tellApart_13 ?_
      refine g_if_eq (tgt := 21) X dX2_tellApart_16 (by decide) hf (fun hf => ?_) (fun hf => ?_)
      · refine g_iinc (lv' := [(2, .int (x2 + (1 : Int32))), (0, .ref (ho 14)), (1, .ref (ho o1))]) X dX2_tellApart_21 2 rfl kc_1 (by decide) rfl ?_
        refine g_goto (tgt := 2) X dX2_tellApart_24 (by decide) ?_
        refine g_lv [1, 2, 0] (lv' := [(0, .ref (ho 14)), (1, .ref (ho o1)), (2, .int (x2 + (1 : Int32)))]) rfl ?_
        exact ih _ _ hf
      refine g_iload_n X dX2_tellApart_19 2 rfl ?_
      exact c_reti_s hA hQ X hr hlk dX2_tellApart_20 hf
  refine g_lv [0, 1] (lv' := [(0, .ref (ho 14)), (1, .ref (ho o1))]) rfl ?_
  unfold C_2_tellApart at hf
  refine g_iconst X dX2_tellApart_0 kc_0 ?_
  refine g_istore_n (i := 2) (lv' := [(2, .int (0 : Int32)), (0, .ref (ho 14)), (1, .ref (ho o1))]) X dX2_tellApart_1 rfl (by decide) rfl ?_
  refine g_lv [1, 2, 0] (lv' := [(0, .ref (ho 14)), (1, .ref (ho o1)), (2, .int (0 : Int32))]) rfl ?_
  exact hL2 _ _ _ hf
def rc_J7_fill : Room := { frames := 0, cells := 0, slots := 0, locals := 0 }
set_option maxRecDepth 100000 in
set_option maxHeartbeats 4000000 in
theorem cc_J7_fill (l : Launch) (dC : Nat → ClassId) (dI : Nat → Nat → Nat) (E : Nat → ClassId) (ev : Nat → Nat) (ho : Nat → Nat) (ro : Nat → Nat → Nat) (F : Nat) (P : va_W) (S : CS) (wo : Nat) (wk : Nat) (wn : Nat) (x1 : Int32) (h_w : ars wo wk wn) (res : Unit × CS) (hf : C_J7_fill F S wo wk wn x1 = some res) : CC l dC dI E ev yJ7_fill_53178 cJ7_fill_53178 4 none rc_J7_fill [.ref (ro wo wk), .int x1] (CW E ho ro S ++ P) (CW E ho ro res.2 ++ P) none := by
  refine CC_of (own := "java/util/Arrays") (by decide) rfl (Nat.le_of_ble_eq_true rfl) ?_
  intro p e s m args below meth c A Q X Y hr hlk hA hQ
  have hL5 : ∀ (x1 : Int32) (x3 : Int32) (n : Nat) (S : CS) (x2 : Int32), C_J7_fill_L5 F wo wk wn x1 x3 n S x2 = some res → GG p l e rc_J7_fill s m args below meth c dC dI A 4 0 0 Q (CW E ho ro S ++ P) 5 [(0, .ref (ro wo wk)), (1, .int x1), (2, .int x2), (3, .int x3)] [] := by
    intro x1 x3 n
    induction n with
    | zero => intro S x2 hf; have hf : (none : Option (Unit × CS)) = some res := hf; cases hf
    | succ n ih =>
      intro S x2 hf
      rw [C_J7_fill_L5] at hf
      refine g_iload_n X dJ7_fill_53178_5 2 rfl ?_
      refine g_iload_n X dJ7_fill_53178_6 3 rfl ?_
      refine g_icmp_ge (tgt := 20) X dJ7_fill_53178_7 (by decide) hf (fun hf => ?_) (fun hf => ?_)
      · exact c_retv_s hA hQ X hr hlk dJ7_fill_53178_20 hf
      refine g_aload_n X dJ7_fill_53178_10 0 rfl ?_
      refine g_iload_n X dJ7_fill_53178_11 2 rfl ?_
      refine g_iload_n X dJ7_fill_53178_12 1 rfl ?_
      refine ars_st X h_w dJ7_fill_53178_13 hf (fun S1 hf => ?_)
      refine g_iinc (lv' := [(2, .int (x2 + (1 : Int32))), (0, .ref (ro wo wk)), (1, .int x1), (3, .int x3)]) X dJ7_fill_53178_14 2 rfl kc_1 (by decide) rfl ?_
      refine g_goto (tgt := 5) X dJ7_fill_53178_17 (by decide) ?_
      refine g_lv [1, 2, 0, 3] (lv' := [(0, .ref (ro wo wk)), (1, .int x1), (2, .int (x2 + (1 : Int32))), (3, .int x3)]) rfl ?_
      exact ih _ _ hf
  refine g_lv [0, 1] (lv' := [(0, .ref (ro wo wk)), (1, .int x1)]) rfl ?_
  unfold C_J7_fill at hf
  refine g_iconst X dJ7_fill_53178_0 kc_0 ?_
  refine g_istore_n (i := 2) (lv' := [(2, .int (0 : Int32)), (0, .ref (ro wo wk)), (1, .int x1)]) X dJ7_fill_53178_1 rfl (by decide) rfl ?_
  refine g_aload_n X dJ7_fill_53178_2 1 rfl ?_
  refine ars_len X h_w dJ7_fill_53178_3 ?_
  refine g_istore_n (i := 3) (lv' := [(3, .int (Int32.ofNat wn)), (2, .int (0 : Int32)), (0, .ref (ro wo wk)), (1, .int x1)]) X dJ7_fill_53178_4 rfl (by decide) rfl ?_
  refine g_lv [2, 3, 1, 0] (lv' := [(0, .ref (ro wo wk)), (1, .int x1), (2, .int (0 : Int32)), (3, .int (Int32.ofNat wn))]) rfl ?_
  exact hL5 _ _ _ _ _ hf
def rc_10_isCorner : Room := { frames := 0, cells := 0, slots := 0, locals := 0 }
set_option maxRecDepth 100000 in
set_option maxHeartbeats 4000000 in
theorem cc_10_isCorner (l : Launch) (dC : Nat → ClassId) (dI : Nat → Nat → Nat) (E : Nat → ClassId) (ev : Nat → Nat) (ho : Nat → Nat) (ro : Nat → Nat → Nat) (P : va_W) (S : CS) (x0 : Int32)  (res : Int32) (hf : C_10_isCorner x0 = some res) : CC l dC dI E ev yX10_isCorner cX10_isCorner 1 (some .boolean) rc_10_isCorner [.int x0] (CW E ho ro S ++ P) (CW E ho ro S ++ P) (some (.int res)) := by
  refine CC_of (own := "LostLanes") (by decide) rfl (Nat.le_of_ble_eq_true rfl) ?_
  intro p e s m args below meth c A Q X Y hr hlk hA hQ
  refine g_lv [0] (lv' := [(0, .int x0)]) rfl ?_
  unfold C_10_isCorner at hf
  refine g_iload_n X dX10_isCorner_0 0 rfl ?_
  refine g_if_lt (tgt := 14) X dX10_isCorner_1 (by decide) hf (fun hf => ?_) (fun hf => ?_)
  · refine g_iconst X dX10_isCorner_14 kc_0 ?_
    exact c_retz_o hA hQ X hr hlk (Or.inl rfl) dX10_isCorner_15 hf
  refine g_iload_n X dX10_isCorner_4 0 rfl ?_
  refine g_bipush X dX10_isCorner_5 kb_8 ?_
  refine g_icmp_ge (tgt := 14) X dX10_isCorner_7 (by decide) hf (fun hf => ?_) (fun hf => ?_)
  · refine g_iconst X dX10_isCorner_14 kc_0 ?_
    exact c_retz_o hA hQ X hr hlk (Or.inl rfl) dX10_isCorner_15 hf
  refine g_iconst X dX10_isCorner_10 kc_1 ?_
  refine g_goto (tgt := 15) X dX10_isCorner_11 (by decide) ?_
  exact c_retz_o hA hQ X hr hlk (Or.inr rfl) dX10_isCorner_15 hf
def rc_2_goOn : Room := { frames := 1, cells := 0, slots := 0, locals := 60 }
set_option maxRecDepth 100000 in
set_option maxHeartbeats 4000000 in
theorem cc_2_goOn (l : Launch) (dC : Nat → ClassId) (dI : Nat → Nat → Nat) (E : Nat → ClassId) (ev : Nat → Nat) (ho : Nat → Nat) (ro : Nat → Nat → Nat) (F : Nat) (P : va_W) (S : CS) (o1 : Nat) (x2 : Int32) (h_o1 : tw o1) (res : Unit × CS) (hf : C_2_goOn F S o1 x2 = some res) : CC l dC dI E ev yX2_goOn cX2_goOn 6 none rc_2_goOn [.ref (ho 14), .ref (ho o1), .int x2] (CW E ho ro S ++ P) (CW E ho ro res.2 ++ P) none := by
  refine CC_of (own := "LostLanes$Plates") (by decide) rfl (Nat.le_of_ble_eq_true rfl) ?_
  intro p e s m args below meth c A Q X Y hr hlk hA hQ
  have hB94 : ∀ (x2 : Int32) (k10 : CS → Int32 → Option (Unit × CS)) (hk10 : ∀ (S : CS) (x3 : Int32), k10 S x3 = some res → GG p l e rc_2_goOn s m args below meth c dC dI A 6 0 0 Q (CW E ho ro S ++ P) 10 [(0, .ref (ho 14)), (1, .ref (ho o1)), (2, .int x2), (3, .int x3)] []) (S : CS) (x3 : Int32), C_2_goOn_B94 F o1 k10 S x2 x3 = some res → GG p l e rc_2_goOn s m args below meth c dC dI A 6 0 0 Q (CW E ho ro S ++ P) 94 [(0, .ref (ho 14)), (1, .ref (ho o1)), (2, .int x2), (3, .int x3)] [] := by
    intro x2 k10 hk10 S x3 hf
    unfold C_2_goOn_B94 at hf
    refine g_iinc (lv' := [(3, .int (x3 + (1 : Int32))), (0, .ref (ho 14)), (1, .ref (ho o1)), (2, .int x2)]) X dX2_goOn_94 3 rfl kc_1 (by decide) rfl ?_
    refine g_goto (tgt := 10) X dX2_goOn_97 (by decide) ?_
    refine g_lv [1, 2, 3, 0] (lv' := [(0, .ref (ho 14)), (1, .ref (ho o1)), (2, .int x2), (3, .int (x3 + (1 : Int32)))]) rfl ?_
    exact hk10 _ _ hf
  have hL10 : ∀ (x2 : Int32) (n : Nat) (S : CS) (x3 : Int32), C_2_goOn_L10 F o1 x2 n S x3 = some res → GG p l e rc_2_goOn s m args below meth c dC dI A 6 0 0 Q (CW E ho ro S ++ P) 10 [(0, .ref (ho 14)), (1, .ref (ho o1)), (2, .int x2), (3, .int x3)] [] := by
    intro x2 n
    induction n with
    | zero => intro S x3 hf; have hf : (none : Option (Unit × CS)) = some res := hf; cases hf
    | succ n ih =>
      intro S x3 hf
      rw [C_2_goOn_L10] at hf
      refine g_iload_n X dX2_goOn_10 3 rfl ?_
      refine g_aload_n X dX2_goOn_11 1 rfl ?_
      refine cg_7_5 X h_o1 wd1_60 dX2_goOn_12 ?_
      refine g_icmp_ge (tgt := 100) X dX2_goOn_15 (by decide) hf (fun hf => ?_) (fun hf => ?_)
      · refine g_aload_n X dX2_goOn_100 0 rfl ?_
        refine cg_2_2 X wd2_30 dX2_goOn_101 ?_
        refine g_iconst X dX2_goOn_104 kc_0 ?_
        refine g_aload_n X dX2_goOn_105 0 rfl ?_
        refine cg_2_1 X wd2_29 dX2_goOn_106 ?_
        refine g_iconst X dX2_goOn_109 kc_0 ?_
        refine g_bipush X dX2_goOn_110 kb_8 ?_
        refine ars_copy X ars_2_2 ars_2_1 wd4_236 wd4_5 wd4_4 wd1_19 ⟨Nat.le_of_ble_eq_true rfl, by decide⟩ (Nat.le_of_ble_eq_true rfl) dX2_goOn_112 hf (fun S1 hf => ?_)
        exact c_retv_s hA hQ X hr hlk dX2_goOn_115 hf
      refine g_aload_n X dX2_goOn_18 1 rfl ?_
      refine cg_7_0 X h_o1 wd1_40 dX2_goOn_19 ?_
      refine g_iload_n X dX2_goOn_22 3 rfl ?_
      refine ca_ld_7_0 X h_o1 dX2_goOn_23 hf (fun hf => ?_)
      refine g_istore (lv' := [(4, .int (ca S o1 0 (x3).toNatClampNeg)), (0, .ref (ho 14)), (1, .ref (ho o1)), (2, .int x2), (3, .int x3)]) X dX2_goOn_24 (by decide) rfl ?_
      refine g_aload_n X dX2_goOn_26 2 rfl ?_
      refine cg_7_1 X h_o1 wd1_44 dX2_goOn_27 ?_
      refine g_iload_n X dX2_goOn_30 4 rfl ?_
      refine ca_ld_7_1 X h_o1 dX2_goOn_31 hf (fun hf => ?_)
      refine g_istore (lv' := [(5, .int (ca S o1 1 (x3).toNatClampNeg)), (4, .int (ca S o1 0 (x3).toNatClampNeg)), (0, .ref (ho 14)), (1, .ref (ho o1)), (2, .int x2), (3, .int x3)]) X dX2_goOn_32 (by decide) rfl ?_
      refine g_aload_n X dX2_goOn_34 3 rfl ?_
      refine cg_7_4 X h_o1 wd1_55 dX2_goOn_35 ?_
      refine g_iload_n X dX2_goOn_38 5 rfl ?_
      refine ca_ld_7_4 X h_o1 dX2_goOn_39 hf (fun hf => ?_)
      refine g_iload_n X dX2_goOn_40 4 rfl ?_
      refine g_icmp_ne (tgt := 94) X dX2_goOn_41 (by decide) hf (fun hf => ?_) (fun hf => ?_)
      · refine g_lv [2, 3, 4, 5] (lv' := [(0, .ref (ho 14)), (1, .ref (ho o1)), (2, .int x2), (3, .int x3)]) rfl ?_
        exact hB94 _ _ ih _ _ hf
      refine g_iload X dX2_goOn_44 1 rfl ?_
      refine m_bind hf (fun y2 hy2 hf => ?_)
      refine cw_N_i (As := [.int (ca S o1 0 (x3).toNatClampNeg)]) (st := []) X Y kN_X2_79 (cc_10_isCorner l dC dI E ev ho ro P S (ca S o1 0 (x3).toNatClampNeg) y2 hy2) ⟨Nat.le_of_ble_eq_true rfl, Nat.le_of_ble_eq_true rfl⟩ ⟨rfl, rfl⟩ (Nat.le_of_ble_eq_true rfl) ⟨Nat.le_of_ble_eq_true rfl, Nat.le_of_ble_eq_true rfl⟩ dX2_goOn_46 ?_
      refine g_if_eq (tgt := 94) X dX2_goOn_49 (by decide) hf (fun hf => ?_) (fun hf => ?_)
      · refine g_lv [2, 3, 4, 5] (lv' := [(0, .ref (ho 14)), (1, .ref (ho o1)), (2, .int x2), (3, .int x3)]) rfl ?_
        exact hB94 _ _ ih _ _ hf
      refine g_iload X dX2_goOn_52 0 rfl ?_
      refine m_bind hf (fun y3 hy3 hf => ?_)
      refine cw_N_i (As := [.int (ca S o1 1 (x3).toNatClampNeg)]) (st := []) X Y kN_X2_79 (cc_10_isCorner l dC dI E ev ho ro P S (ca S o1 1 (x3).toNatClampNeg) y3 hy3) ⟨Nat.le_of_ble_eq_true rfl, Nat.le_of_ble_eq_true rfl⟩ ⟨rfl, rfl⟩ (Nat.le_of_ble_eq_true rfl) ⟨Nat.le_of_ble_eq_true rfl, Nat.le_of_ble_eq_true rfl⟩ dX2_goOn_54 ?_
      refine g_if_eq (tgt := 94) X dX2_goOn_57 (by decide) hf (fun hf => ?_) (fun hf => ?_)
      · refine g_lv [2, 3, 4, 5] (lv' := [(0, .ref (ho 14)), (1, .ref (ho o1)), (2, .int x2), (3, .int x3)]) rfl ?_
        exact hB94 _ _ ih _ _ hf
      refine g_aload_n X dX2_goOn_60 2 rfl ?_
      refine cg_2_2 X wd2_30 dX2_goOn_61 ?_
      refine g_iload X dX2_goOn_64 0 rfl ?_
      refine g_dup2 X dX2_goOn_66 rfl rfl ?_
      refine ca_ld_2_2 X dX2_goOn_67 hf (fun hf => ?_)
      refine g_aload_n X dX2_goOn_68 2 rfl ?_
      refine cg_2_1 X wd2_29 dX2_goOn_69 ?_
      refine g_iload X dX2_goOn_72 1 rfl ?_
      refine ca_ld_2_1 X dX2_goOn_74 hf (fun hf => ?_)
      refine g_iadd X dX2_goOn_75 ?_
      refine ca_st_2_2 X dX2_goOn_76 hf (fun S4 hf => ?_)
      refine g_aload_n X dX2_goOn_77 2 rfl ?_
      refine cg_2_2 X wd2_30 dX2_goOn_78 ?_
      refine g_iload X dX2_goOn_81 1 rfl ?_
      refine g_dup2 X dX2_goOn_83 rfl rfl ?_
      refine ca_ld_2_2 X dX2_goOn_84 hf (fun hf => ?_)
      refine g_aload_n X dX2_goOn_85 2 rfl ?_
      refine cg_2_1 X wd2_29 dX2_goOn_86 ?_
      refine g_iload X dX2_goOn_89 0 rfl ?_
      refine ca_ld_2_1 X dX2_goOn_91 hf (fun hf => ?_)
      refine g_iadd X dX2_goOn_92 ?_
      refine ca_st_2_2 X dX2_goOn_93 hf (fun S5 hf => ?_)
      refine g_lv [2, 3, 4, 5] (lv' := [(0, .ref (ho 14)), (1, .ref (ho o1)), (2, .int x2), (3, .int x3)]) rfl ?_
      exact hB94 _ _ ih _ _ hf
  refine g_lv [0, 1, 2] (lv' := [(0, .ref (ho 14)), (1, .ref (ho o1)), (2, .int x2)]) rfl ?_
  unfold C_2_goOn at hf
  refine g_aload_n X dX2_goOn_0 0 rfl ?_
  refine cg_2_2 X wd2_30 dX2_goOn_1 ?_
  refine g_iconst X dX2_goOn_4 kc_0 ?_
  refine m_bind hf (fun y6 hy6 hf => ?_)
  refine cw_T_v (As := [.ref (ro 14 2), .int (0 : Int32)]) (st := []) X Y kT_X2_54 (cc_J7_fill l dC dI E ev ho ro F P S 14 2 8 (0 : Int32) ars_2_2 y6 hy6) ⟨Nat.le_of_ble_eq_true rfl, Nat.le_of_ble_eq_true rfl⟩ ⟨rfl, rfl⟩ (Nat.le_of_ble_eq_true rfl) ⟨Nat.le_of_ble_eq_true rfl, Nat.le_of_ble_eq_true rfl⟩ dX2_goOn_5 ?_
  refine g_iconst X dX2_goOn_8 kc_0 ?_
  refine g_istore_n (i := 3) (lv' := [(3, .int (0 : Int32)), (0, .ref (ho 14)), (1, .ref (ho o1)), (2, .int x2)]) X dX2_goOn_9 rfl (by decide) rfl ?_
  refine g_lv [1, 2, 3, 0] (lv' := [(0, .ref (ho 14)), (1, .ref (ho o1)), (2, .int x2), (3, .int (0 : Int32))]) rfl ?_
  exact hL10 _ _ _ _ hf
def rc_2_retrace : Room := { frames := 2, cells := 0, slots := 0, locals := 85 }
set_option maxRecDepth 100000 in
set_option maxHeartbeats 4000000 in
theorem cc_2_retrace (l : Launch) (dC : Nat → ClassId) (dI : Nat → Nat → Nat) (E : Nat → ClassId) (ev : Nat → Nat) (ho : Nat → Nat) (ro : Nat → Nat → Nat) (F : Nat) (P : va_W) (S : CS) (o1 : Nat) (h_o1 : tw o1) (res : Unit × CS) (hf : C_2_retrace F S o1 = some res) : CC l dC dI E ev yX2_retrace cX2_retrace 4 none rc_2_retrace [.ref (ho 14), .ref (ho o1)] (CW E ho ro S ++ P) (CW E ho ro res.2 ++ P) none := by
  refine CC_of (own := "LostLanes$Plates") (by decide) rfl (Nat.le_of_ble_eq_true rfl) ?_
  intro p e s m args below meth c A Q X Y hr hlk hA hQ
  have hB127 : ∀ (x2 : Int32) (k17 : CS → Int32 → Option (Unit × CS)) (hk17 : ∀ (S : CS) (x2 : Int32), k17 S x2 = some res → GG p l e rc_2_retrace s m args below meth c dC dI A 4 0 0 Q (CW E ho ro S ++ P) 17 [(0, .ref (ho 14)), (1, .ref (ho o1)), (2, .int x2)] []) (k73 : CS → Int32 → Option (Unit × CS)) (hk73 : ∀ (S : CS) (x3 : Int32), k73 S x3 = some res → GG p l e rc_2_retrace s m args below meth c dC dI A 4 0 0 Q (CW E ho ro S ++ P) 73 [(0, .ref (ho 14)), (1, .ref (ho o1)), (2, .int x2), (3, .int x3)] []) (S : CS) (x3 : Int32), C_2_retrace_B127 F o1 k17 k73 S x2 x3 = some res → GG p l e rc_2_retrace s m args below meth c dC dI A 4 0 0 Q (CW E ho ro S ++ P) 127 [(0, .ref (ho 14)), (1, .ref (ho o1)), (2, .int x2), (3, .int x3)] [] := by
    intro x2 k17 hk17 k73 hk73 S x3 hf
    unfold C_2_retrace_B127 at hf
    refine g_iinc (lv' := [(3, .int (x3 + (1 : Int32))), (0, .ref (ho 14)), (1, .ref (ho o1)), (2, .int x2)]) X dX2_retrace_127 3 rfl kc_1 (by decide) rfl ?_
    refine g_goto (tgt := 73) X dX2_retrace_130 (by decide) ?_
    refine g_lv [1, 2, 3, 0] (lv' := [(0, .ref (ho 14)), (1, .ref (ho o1)), (2, .int x2), (3, .int (x3 + (1 : Int32)))]) rfl ?_
    exact hk73 _ _ hf
  have hL73 : ∀ (k17 : CS → Int32 → Option (Unit × CS)) (hk17 : ∀ (S : CS) (x2 : Int32), k17 S x2 = some res → GG p l e rc_2_retrace s m args below meth c dC dI A 4 0 0 Q (CW E ho ro S ++ P) 17 [(0, .ref (ho 14)), (1, .ref (ho o1)), (2, .int x2)] []) (x2 : Int32) (n : Nat) (S : CS) (x3 : Int32), C_2_retrace_L73 F o1 k17 x2 n S x3 = some res → GG p l e rc_2_retrace s m args below meth c dC dI A 4 0 0 Q (CW E ho ro S ++ P) 73 [(0, .ref (ho 14)), (1, .ref (ho o1)), (2, .int x2), (3, .int x3)] [] := by
    intro k17 hk17 x2 n
    induction n with
    | zero => intro S x3 hf; have hf : (none : Option (Unit × CS)) = some res := hf; cases hf
    | succ n ih =>
      intro S x3 hf
      rw [C_2_retrace_L73] at hf
      refine g_iload_n X dX2_retrace_73 3 rfl ?_
      refine g_bipush X dX2_retrace_74 kb_8 ?_
      refine g_icmp_ge (tgt := 133) X dX2_retrace_76 (by decide) hf (fun hf => ?_) (fun hf => ?_)
      · refine g_iinc (lv' := [(2, .int (x2 + (1 : Int32))), (0, .ref (ho 14)), (1, .ref (ho o1)), (3, .int x3)]) X dX2_retrace_133 2 rfl kc_1 (by decide) rfl ?_
        refine g_goto (tgt := 17) X dX2_retrace_136 (by decide) ?_
        refine g_lv [1, 2, 0] (lv' := [(0, .ref (ho 14)), (1, .ref (ho o1)), (2, .int (x2 + (1 : Int32)))]) rfl ?_
        exact hk17 _ _ hf
      refine g_aload_n X dX2_retrace_79 0 rfl ?_
      refine cg_2_1 X wd2_29 dX2_retrace_80 ?_
      refine g_iload_n X dX2_retrace_83 3 rfl ?_
      refine ca_ld_2_1 X dX2_retrace_84 hf (fun hf => ?_)
      refine g_if_le (tgt := 127) X dX2_retrace_85 (by decide) hf (fun hf => ?_) (fun hf => ?_)
      · exact hB127 _ _ hk17 _ ih _ _ hf
      refine g_aload_n X dX2_retrace_88 0 rfl ?_
      refine g_dup X dX2_retrace_89 rfl ?_
      refine cg_2_3 X wd2_31 dX2_retrace_90 ?_
      refine g_aload_n X dX2_retrace_93 0 rfl ?_
      refine cg_2_1 X wd2_29 dX2_retrace_94 ?_
      refine g_iload_n X dX2_retrace_97 3 rfl ?_
      refine ca_ld_2_1 X dX2_retrace_98 hf (fun hf => ?_)
      refine g_iadd X dX2_retrace_99 ?_
      refine cp_2_3 X wd2_31 dX2_retrace_100 hf (fun S1 hf => ?_)
      refine g_aload_n X dX2_retrace_103 0 rfl ?_
      refine g_dup X dX2_retrace_104 rfl ?_
      refine cg_2_4 X wd2_33 dX2_retrace_105 ?_
      refine g_iconst X dX2_retrace_108 kc_1 ?_
      refine g_iload_n X dX2_retrace_109 2 rfl ?_
      refine g_ishl X dX2_retrace_110 ?_
      refine g_ior X dX2_retrace_111 ?_
      refine cp_2_4 X wd2_33 dX2_retrace_112 hf (fun S2 hf => ?_)
      refine g_aload_n X dX2_retrace_115 0 rfl ?_
      refine g_dup X dX2_retrace_116 rfl ?_
      refine cg_2_5 X wd2_35 dX2_retrace_117 ?_
      refine g_iconst X dX2_retrace_120 kc_1 ?_
      refine g_iload_n X dX2_retrace_121 3 rfl ?_
      refine g_ishl X dX2_retrace_122 ?_
      refine g_ior X dX2_retrace_123 ?_
      refine cp_2_5 X wd2_35 dX2_retrace_124 hf (fun S3 hf => ?_)
      exact hB127 _ _ hk17 _ ih _ _ hf
  have hB71 : ∀ (k17 : CS → Int32 → Option (Unit × CS)) (hk17 : ∀ (S : CS) (x2 : Int32), k17 S x2 = some res → GG p l e rc_2_retrace s m args below meth c dC dI A 4 0 0 Q (CW E ho ro S ++ P) 17 [(0, .ref (ho 14)), (1, .ref (ho o1)), (2, .int x2)] []) (S : CS) (x2 : Int32), C_2_retrace_B71 F o1 k17 S x2 = some res → GG p l e rc_2_retrace s m args below meth c dC dI A 4 0 0 Q (CW E ho ro S ++ P) 71 [(0, .ref (ho 14)), (1, .ref (ho o1)), (2, .int x2)] [] := by
    intro k17 hk17 S x2 hf
    unfold C_2_retrace_B71 at hf
    refine g_iconst X dX2_retrace_71 kc_0 ?_
    refine g_istore_n (i := 3) (lv' := [(3, .int (0 : Int32)), (0, .ref (ho 14)), (1, .ref (ho o1)), (2, .int x2)]) X dX2_retrace_72 rfl (by decide) rfl ?_
    refine g_lv [1, 2, 3, 0] (lv' := [(0, .ref (ho 14)), (1, .ref (ho o1)), (2, .int x2), (3, .int (0 : Int32))]) rfl ?_
    exact hL73 _ hk17 _ _ _ _ hf
  have hL40 : ∀ (k17 : CS → Int32 → Option (Unit × CS)) (hk17 : ∀ (S : CS) (x2 : Int32), k17 S x2 = some res → GG p l e rc_2_retrace s m args below meth c dC dI A 4 0 0 Q (CW E ho ro S ++ P) 17 [(0, .ref (ho 14)), (1, .ref (ho o1)), (2, .int x2)] []) (x2 : Int32) (n : Nat) (S : CS) (x3 : Int32), C_2_retrace_L40 F o1 k17 x2 n S x3 = some res → GG p l e rc_2_retrace s m args below meth c dC dI A 4 0 0 Q (CW E ho ro S ++ P) 40 [(0, .ref (ho 14)), (1, .ref (ho o1)), (2, .int x2), (3, .int x3)] [] := by
    intro k17 hk17 x2 n
    induction n with
    | zero => intro S x3 hf; have hf : (none : Option (Unit × CS)) = some res := hf; cases hf
    | succ n ih =>
      intro S x3 hf
      rw [C_2_retrace_L40] at hf
      refine g_iload_n X dX2_retrace_40 3 rfl ?_
      refine g_aload_n X dX2_retrace_41 1 rfl ?_
      refine cg_7_11 X h_o1 wd1_78 dX2_retrace_42 ?_
      refine g_icmp_ge (tgt := 71) X dX2_retrace_45 (by decide) hf (fun hf => ?_) (fun hf => ?_)
      · refine g_lv [0, 1, 2] (lv' := [(0, .ref (ho 14)), (1, .ref (ho o1)), (2, .int x2)]) rfl ?_
        exact hB71 _ hk17 _ _ hf
      refine g_iload_n X dX2_retrace_48 3 rfl ?_
      refine g_bipush X dX2_retrace_49 kb_6 ?_
      refine g_icmp_ge (tgt := 71) X dX2_retrace_51 (by decide) hf (fun hf => ?_) (fun hf => ?_)
      · refine g_lv [0, 1, 2] (lv' := [(0, .ref (ho 14)), (1, .ref (ho o1)), (2, .int x2)]) rfl ?_
        exact hB71 _ hk17 _ _ hf
      refine g_aload_n X dX2_retrace_54 0 rfl ?_
      refine g_aload_n X dX2_retrace_55 1 rfl ?_
      refine g_aload_n X dX2_retrace_56 1 rfl ?_
      refine cg_7_10 X h_o1 wd1_76 dX2_retrace_57 ?_
      refine g_iload_n X dX2_retrace_60 3 rfl ?_
      refine ca_ld_7_10 X h_o1 dX2_retrace_61 hf (fun hf => ?_)
      refine m_bind hf (fun y4 hy4 hf => ?_)
      refine cw_V_v (cix := 2) (As := [.ref (ho o1), .int (ca S o1 10 (x3).toNatClampNeg)]) (st := []) X Y kV_X2_66 (cc_2_goOn l dC dI E ev ho ro F P S o1 (ca S o1 10 (x3).toNatClampNeg) h_o1 y4 hy4) ob_2 rfl ⟨Nat.le_of_ble_eq_true rfl, Nat.le_of_ble_eq_true rfl⟩ ⟨rfl, rfl⟩ (Nat.le_of_ble_eq_true rfl) ⟨Nat.le_of_ble_eq_true rfl, Nat.le_of_ble_eq_true rfl⟩ dX2_retrace_62 ?_
      refine g_iinc (lv' := [(3, .int (x3 + (1 : Int32))), (0, .ref (ho 14)), (1, .ref (ho o1)), (2, .int x2)]) X dX2_retrace_65 3 rfl kc_1 (by decide) rfl ?_
      refine g_goto (tgt := 40) X dX2_retrace_68 (by decide) ?_
      refine g_lv [1, 2, 3, 0] (lv' := [(0, .ref (ho 14)), (1, .ref (ho o1)), (2, .int x2), (3, .int (x3 + (1 : Int32)))]) rfl ?_
      exact ih _ _ hf
  have hL17 : ∀  (n : Nat) (S : CS) (x2 : Int32), C_2_retrace_L17 F o1 n S x2 = some res → GG p l e rc_2_retrace s m args below meth c dC dI A 4 0 0 Q (CW E ho ro S ++ P) 17 [(0, .ref (ho 14)), (1, .ref (ho o1)), (2, .int x2)] [] := by
    intro  n
    induction n with
    | zero => intro S x2 hf; have hf : (none : Option (Unit × CS)) = some res := hf; cases hf
    | succ n ih =>
      intro S x2 hf
      rw [C_2_retrace_L17] at hf
      refine g_iload_n X dX2_retrace_17 2 rfl ?_
      refine g_bipush X dX2_retrace_18 kb_8 ?_
      refine g_icmp_ge (tgt := 139) X dX2_retrace_20 (by decide) hf (fun hf => ?_) (fun hf => ?_)
      · exact c_retv_s hA hQ X hr hlk dX2_retrace_139 hf
      refine g_aload_n X dX2_retrace_23 0 rfl ?_
      refine cg_2_1 X wd2_29 dX2_retrace_24 ?_
      refine g_iconst X dX2_retrace_27 kc_0 ?_
      refine m_bind hf (fun y5 hy5 hf => ?_)
      refine cw_T_v (As := [.ref (ro 14 1), .int (0 : Int32)]) (st := []) X Y kT_X2_54 (cc_J7_fill l dC dI E ev ho ro F P S 14 1 8 (0 : Int32) ars_2_1 y5 hy5) ⟨Nat.le_of_ble_eq_true rfl, Nat.le_of_ble_eq_true rfl⟩ ⟨rfl, rfl⟩ (Nat.le_of_ble_eq_true rfl) ⟨Nat.le_of_ble_eq_true rfl, Nat.le_of_ble_eq_true rfl⟩ dX2_retrace_28 ?_
      refine g_aload_n X dX2_retrace_31 0 rfl ?_
      refine cg_2_1 X wd2_29 dX2_retrace_32 ?_
      refine g_iload_n X dX2_retrace_35 2 rfl ?_
      refine g_iconst X dX2_retrace_36 kc_1 ?_
      refine ca_st_2_1 X dX2_retrace_37 hf (fun S6 hf => ?_)
      refine g_iconst X dX2_retrace_38 kc_0 ?_
      refine g_istore_n (i := 3) (lv' := [(3, .int (0 : Int32)), (0, .ref (ho 14)), (1, .ref (ho o1)), (2, .int x2)]) X dX2_retrace_39 rfl (by decide) rfl ?_
      refine g_lv [1, 2, 3, 0] (lv' := [(0, .ref (ho 14)), (1, .ref (ho o1)), (2, .int x2), (3, .int (0 : Int32))]) rfl ?_
      exact hL40 _ ih _ _ _ _ hf
  refine g_lv [0, 1] (lv' := [(0, .ref (ho 14)), (1, .ref (ho o1))]) rfl ?_
  unfold C_2_retrace at hf
  refine g_aload_n X dX2_retrace_0 0 rfl ?_
  refine g_iconst X dX2_retrace_1 kc_0 ?_
  refine cp_2_3 X wd2_31 dX2_retrace_2 hf (fun S7 hf => ?_)
  refine g_aload_n X dX2_retrace_5 0 rfl ?_
  refine g_iconst X dX2_retrace_6 kc_0 ?_
  refine cp_2_4 X wd2_33 dX2_retrace_7 hf (fun S8 hf => ?_)
  refine g_aload_n X dX2_retrace_10 0 rfl ?_
  refine g_iconst X dX2_retrace_11 kc_0 ?_
  refine cp_2_5 X wd2_35 dX2_retrace_12 hf (fun S9 hf => ?_)
  refine g_iconst X dX2_retrace_15 kc_0 ?_
  refine g_istore_n (i := 2) (lv' := [(2, .int (0 : Int32)), (0, .ref (ho 14)), (1, .ref (ho o1))]) X dX2_retrace_16 rfl (by decide) rfl ?_
  refine g_lv [1, 2, 0] (lv' := [(0, .ref (ho 14)), (1, .ref (ho o1)), (2, .int (0 : Int32))]) rfl ?_
  exact hL17 _ _ _ hf
def rc_3_byteAt : Room := { frames := 0, cells := 0, slots := 0, locals := 0 }
set_option maxRecDepth 100000 in
set_option maxHeartbeats 4000000 in
theorem cc_3_byteAt (l : Launch) (dC : Nat → ClassId) (dI : Nat → Nat → Nat) (E : Nat → ClassId) (ev : Nat → Nat) (ho : Nat → Nat) (ro : Nat → Nat → Nat) (P : va_W) (S : CS) (x1 : Int32)  (res : Int32) (hf : C_3_byteAt S x1 = some res) : CC l dC dI E ev yX3_byteAt cX3_byteAt 2 (some .int) rc_3_byteAt [.ref (ho 9), .int x1] (CW E ho ro S ++ P) (CW E ho ro S ++ P) (some (.int res)) := by
  refine CC_of (own := "LostLanes$Reader") (by decide) rfl (Nat.le_of_ble_eq_true rfl) ?_
  intro p e s m args below meth c A Q X Y hr hlk hA hQ
  refine g_lv [0, 1] (lv' := [(0, .ref (ho 9)), (1, .int x1)]) rfl ?_
  unfold C_3_byteAt at hf
  refine g_iload_n X dX3_byteAt_0 1 rfl ?_
  refine g_if_lt (tgt := 34) X dX3_byteAt_1 (by decide) hf (fun hf => ?_) (fun hf => ?_)
  · refine g_iconst X dX3_byteAt_34 kc_m1 ?_
    exact c_reti_o hA hQ X hr hlk dX3_byteAt_35 hf
  refine g_iload_n X dX3_byteAt_4 1 rfl ?_
  refine g_aload_n X dX3_byteAt_5 0 rfl ?_
  refine cg_3_0 X wd1_166 dX3_byteAt_6 ?_
  refine cg_6_1 X wd1_160 dX3_byteAt_9 ?_
  refine g_icmp_ge (tgt := 34) X dX3_byteAt_12 (by decide) hf (fun hf => ?_) (fun hf => ?_)
  · refine g_iconst X dX3_byteAt_34 kc_m1 ?_
    exact c_reti_o hA hQ X hr hlk dX3_byteAt_35 hf
  refine g_iload_n X dX3_byteAt_15 1 rfl ?_
  refine g_sipush X dX3_byteAt_16 ks_400 ?_
  refine g_icmp_ge (tgt := 34) X dX3_byteAt_19 (by decide) hf (fun hf => ?_) (fun hf => ?_)
  · refine g_iconst X dX3_byteAt_34 kc_m1 ?_
    exact c_reti_o hA hQ X hr hlk dX3_byteAt_35 hf
  refine g_aload_n X dX3_byteAt_22 0 rfl ?_
  refine cg_3_0 X wd1_166 dX3_byteAt_23 ?_
  refine cg_6_0 X wd1_156 dX3_byteAt_26 ?_
  refine g_iload_n X dX3_byteAt_29 1 rfl ?_
  refine ca_ld_6_0 X dX3_byteAt_30 hf (fun hf => ?_)
  refine g_goto (tgt := 35) X dX3_byteAt_31 (by decide) ?_
  exact c_reti_o hA hQ X hr hlk dX3_byteAt_35 hf
def rc_3_isDigit : Room := { frames := 0, cells := 0, slots := 0, locals := 0 }
set_option maxRecDepth 100000 in
set_option maxHeartbeats 4000000 in
theorem cc_3_isDigit (l : Launch) (dC : Nat → ClassId) (dI : Nat → Nat → Nat) (E : Nat → ClassId) (ev : Nat → Nat) (ho : Nat → Nat) (ro : Nat → Nat → Nat) (P : va_W) (S : CS) (x0 : Int32)  (res : Int32) (hf : C_3_isDigit x0 = some res) : CC l dC dI E ev yX3_isDigit cX3_isDigit 1 (some .boolean) rc_3_isDigit [.int x0] (CW E ho ro S ++ P) (CW E ho ro S ++ P) (some (.int res)) := by
  refine CC_of (own := "LostLanes$Reader") (by decide) rfl (Nat.le_of_ble_eq_true rfl) ?_
  intro p e s m args below meth c A Q X Y hr hlk hA hQ
  refine g_lv [0] (lv' := [(0, .int x0)]) rfl ?_
  unfold C_3_isDigit at hf
  refine g_iload_n X dX3_isDigit_0 0 rfl ?_
  refine g_bipush X dX3_isDigit_1 kb_48 ?_
  refine g_icmp_lt (tgt := 16) X dX3_isDigit_3 (by decide) hf (fun hf => ?_) (fun hf => ?_)
  · refine g_iconst X dX3_isDigit_16 kc_0 ?_
    exact c_retz_o hA hQ X hr hlk (Or.inl rfl) dX3_isDigit_17 hf
  refine g_iload_n X dX3_isDigit_6 0 rfl ?_
  refine g_bipush X dX3_isDigit_7 kb_57 ?_
  refine g_icmp_gt (tgt := 16) X dX3_isDigit_9 (by decide) hf (fun hf => ?_) (fun hf => ?_)
  · refine g_iconst X dX3_isDigit_16 kc_0 ?_
    exact c_retz_o hA hQ X hr hlk (Or.inl rfl) dX3_isDigit_17 hf
  refine g_iconst X dX3_isDigit_12 kc_1 ?_
  refine g_goto (tgt := 17) X dX3_isDigit_13 (by decide) ?_
  exact c_retz_o hA hQ X hr hlk (Or.inr rfl) dX3_isDigit_17 hf
def rc_3_isLetter : Room := { frames := 0, cells := 0, slots := 0, locals := 0 }
set_option maxRecDepth 100000 in
set_option maxHeartbeats 4000000 in
theorem cc_3_isLetter (l : Launch) (dC : Nat → ClassId) (dI : Nat → Nat → Nat) (E : Nat → ClassId) (ev : Nat → Nat) (ho : Nat → Nat) (ro : Nat → Nat → Nat) (P : va_W) (S : CS) (x0 : Int32)  (res : Int32) (hf : C_3_isLetter x0 = some res) : CC l dC dI E ev yX3_isLetter cX3_isLetter 1 (some .boolean) rc_3_isLetter [.int x0] (CW E ho ro S ++ P) (CW E ho ro S ++ P) (some (.int res)) := by
  refine CC_of (own := "LostLanes$Reader") (by decide) rfl (Nat.le_of_ble_eq_true rfl) ?_
  intro p e s m args below meth c A Q X Y hr hlk hA hQ
  refine g_lv [0] (lv' := [(0, .int x0)]) rfl ?_
  unfold C_3_isLetter at hf
  refine g_iload_n X dX3_isLetter_0 0 rfl ?_
  refine g_bipush X dX3_isLetter_1 kb_97 ?_
  refine g_icmp_lt (tgt := 16) X dX3_isLetter_3 (by decide) hf (fun hf => ?_) (fun hf => ?_)
  · refine g_iconst X dX3_isLetter_16 kc_0 ?_
    exact c_retz_o hA hQ X hr hlk (Or.inl rfl) dX3_isLetter_17 hf
  refine g_iload_n X dX3_isLetter_6 0 rfl ?_
  refine g_bipush X dX3_isLetter_7 kb_122 ?_
  refine g_icmp_gt (tgt := 16) X dX3_isLetter_9 (by decide) hf (fun hf => ?_) (fun hf => ?_)
  · refine g_iconst X dX3_isLetter_16 kc_0 ?_
    exact c_retz_o hA hQ X hr hlk (Or.inl rfl) dX3_isLetter_17 hf
  refine g_iconst X dX3_isLetter_12 kc_1 ?_
  refine g_goto (tgt := 17) X dX3_isLetter_13 (by decide) ?_
  exact c_retz_o hA hQ X hr hlk (Or.inr rfl) dX3_isLetter_17 hf
def rc_3_advance : Room := { frames := 1, cells := 0, slots := 0, locals := 21 }
set_option maxRecDepth 100000 in
set_option maxHeartbeats 4000000 in
theorem cc_3_advance (l : Launch) (dC : Nat → ClassId) (dI : Nat → Nat → Nat) (E : Nat → ClassId) (ev : Nat → Nat) (ho : Nat → Nat) (ro : Nat → Nat → Nat) (F : Nat) (P : va_W) (S : CS)   (res : Unit × CS) (hf : C_3_advance F S = some res) : CC l dC dI E ev yX3_advance cX3_advance 1 none rc_3_advance [.ref (ho 9)] (CW E ho ro S ++ P) (CW E ho ro res.2 ++ P) none := by
  refine CC_of (own := "LostLanes$Reader") (by decide) rfl (Nat.le_of_ble_eq_true rfl) ?_
  intro p e s m args below meth c A Q X Y hr hlk hA hQ
  have hL154 : ∀  (n : Nat) (S : CS), C_3_advance_L154 F n S = some res → GG p l e rc_3_advance s m args below meth c dC dI A 1 0 0 Q (CW E ho ro S ++ P) 154 [(0, .ref (ho 9))] [] := by
    intro  n
    induction n with
    | zero => intro S hf; have hf : (none : Option (Unit × CS)) = some res := hf; cases hf
    | succ n ih =>
      intro S hf
      rw [C_3_advance_L154] at hf
      refine g_aload_n X dX3_advance_154 0 rfl ?_
      refine cg_3_6 X wd1_173 dX3_advance_155 ?_
      refine g_aload_n X dX3_advance_158 0 rfl ?_
      refine cg_3_0 X wd1_166 dX3_advance_159 ?_
      refine cg_6_1 X wd1_160 dX3_advance_162 ?_
      refine g_icmp_ge (tgt := 239) X dX3_advance_165 (by decide) hf (fun hf => ?_) (fun hf => ?_)
      · exact c_retv_s hA hQ X hr hlk dX3_advance_239 hf
      refine g_aload_n X dX3_advance_168 0 rfl ?_
      refine g_aload_n X dX3_advance_169 0 rfl ?_
      refine cg_3_6 X wd1_173 dX3_advance_170 ?_
      refine m_bind hf (fun y1 hy1 hf => ?_)
      refine cw_V_i (cix := 3) (As := [.int (ci S 9 6)]) (st := []) X Y kV_X3_166 (cc_3_byteAt l dC dI E ev ho ro P S (ci S 9 6) y1 hy1) ob_3 rfl ⟨Nat.le_of_ble_eq_true rfl, Nat.le_of_ble_eq_true rfl⟩ ⟨rfl, rfl⟩ (Nat.le_of_ble_eq_true rfl) ⟨Nat.le_of_ble_eq_true rfl, Nat.le_of_ble_eq_true rfl⟩ dX3_advance_173 ?_
      refine m_bind hf (fun y2 hy2 hf => ?_)
      refine cw_S_i (As := [.int y1]) (st := []) X Y kS_X3_189 (cc_3_isDigit l dC dI E ev ho ro P S y1 y2 hy2) ⟨Nat.le_of_ble_eq_true rfl, Nat.le_of_ble_eq_true rfl⟩ ⟨rfl, rfl⟩ (Nat.le_of_ble_eq_true rfl) ⟨Nat.le_of_ble_eq_true rfl, Nat.le_of_ble_eq_true rfl⟩ dX3_advance_176 ?_
      refine g_if_eq (tgt := 239) X dX3_advance_179 (by decide) hf (fun hf => ?_) (fun hf => ?_)
      · exact c_retv_s hA hQ X hr hlk dX3_advance_239 hf
      refine g_aload_n X dX3_advance_182 0 rfl ?_
      refine g_aload_n X dX3_advance_183 0 rfl ?_
      refine cg_3_7 X wd1_174 dX3_advance_184 ?_
      refine g_bipush X dX3_advance_187 kb_10 ?_
      refine g_imul X dX3_advance_189 ?_
      refine g_aload_n X dX3_advance_190 0 rfl ?_
      refine g_aload_n X dX3_advance_191 0 rfl ?_
      refine cg_3_6 X wd1_173 dX3_advance_192 ?_
      refine m_bind hf (fun y3 hy3 hf => ?_)
      refine cw_V_i (cix := 3) (As := [.int (ci S 9 6)]) (st := [.int ((ci S 9 7) * (10 : Int32)), .ref (ho 9)]) X Y kV_X3_166 (cc_3_byteAt l dC dI E ev ho ro P S (ci S 9 6) y3 hy3) ob_3 rfl ⟨Nat.le_of_ble_eq_true rfl, Nat.le_of_ble_eq_true rfl⟩ ⟨rfl, rfl⟩ (Nat.le_of_ble_eq_true rfl) ⟨Nat.le_of_ble_eq_true rfl, Nat.le_of_ble_eq_true rfl⟩ dX3_advance_195 ?_
      refine g_iadd X dX3_advance_198 ?_
      refine g_bipush X dX3_advance_199 kb_48 ?_
      refine g_isub X dX3_advance_201 ?_
      refine g_sipush X dX3_advance_202 ks_1001 ?_
      refine g_mmin X wd3_36 wd2_179 wd1_11 wd2_180 ⟨Nat.le_of_ble_eq_true rfl, Nat.le_of_ble_eq_true rfl⟩ (Nat.le_of_ble_eq_true rfl) ⟨Nat.le_of_ble_eq_true rfl, Nat.le_of_ble_eq_true rfl⟩ dX3_advance_205 ?_
      refine cp_3_7 X wd1_174 dX3_advance_208 hf (fun S4 hf => ?_)
      refine g_aload_n X dX3_advance_211 0 rfl ?_
      refine g_dup X dX3_advance_212 rfl ?_
      refine cg_3_6 X wd1_173 dX3_advance_213 ?_
      refine g_iconst X dX3_advance_216 kc_1 ?_
      refine g_iadd X dX3_advance_217 ?_
      refine cp_3_6 X wd1_173 dX3_advance_218 hf (fun S5 hf => ?_)
      refine g_goto (tgt := 154) X dX3_advance_221 (by decide) ?_
      exact ih _ hf
  have hL89 : ∀  (n : Nat) (S : CS), C_3_advance_L89 F n S = some res → GG p l e rc_3_advance s m args below meth c dC dI A 1 0 0 Q (CW E ho ro S ++ P) 89 [(0, .ref (ho 9))] [] := by
    intro  n
    induction n with
    | zero => intro S hf; have hf : (none : Option (Unit × CS)) = some res := hf; cases hf
    | succ n ih =>
      intro S hf
      rw [C_3_advance_L89] at hf
      refine g_aload_n X dX3_advance_89 0 rfl ?_
      refine cg_3_6 X wd1_173 dX3_advance_90 ?_
      refine g_aload_n X dX3_advance_93 0 rfl ?_
      refine cg_3_0 X wd1_166 dX3_advance_94 ?_
      refine cg_6_1 X wd1_160 dX3_advance_97 ?_
      refine g_icmp_ge (tgt := 239) X dX3_advance_100 (by decide) hf (fun hf => ?_) (fun hf => ?_)
      · exact c_retv_s hA hQ X hr hlk dX3_advance_239 hf
      refine g_aload_n X dX3_advance_103 0 rfl ?_
      refine g_aload_n X dX3_advance_104 0 rfl ?_
      refine cg_3_6 X wd1_173 dX3_advance_105 ?_
      refine m_bind hf (fun y6 hy6 hf => ?_)
      refine cw_V_i (cix := 3) (As := [.int (ci S 9 6)]) (st := []) X Y kV_X3_166 (cc_3_byteAt l dC dI E ev ho ro P S (ci S 9 6) y6 hy6) ob_3 rfl ⟨Nat.le_of_ble_eq_true rfl, Nat.le_of_ble_eq_true rfl⟩ ⟨rfl, rfl⟩ (Nat.le_of_ble_eq_true rfl) ⟨Nat.le_of_ble_eq_true rfl, Nat.le_of_ble_eq_true rfl⟩ dX3_advance_108 ?_
      refine m_bind hf (fun y7 hy7 hf => ?_)
      refine cw_S_i (As := [.int y6]) (st := []) X Y kS_X3_185 (cc_3_isLetter l dC dI E ev ho ro P S y6 y7 hy7) ⟨Nat.le_of_ble_eq_true rfl, Nat.le_of_ble_eq_true rfl⟩ ⟨rfl, rfl⟩ (Nat.le_of_ble_eq_true rfl) ⟨Nat.le_of_ble_eq_true rfl, Nat.le_of_ble_eq_true rfl⟩ dX3_advance_111 ?_
      refine g_if_eq (tgt := 239) X dX3_advance_114 (by decide) hf (fun hf => ?_) (fun hf => ?_)
      · exact c_retv_s hA hQ X hr hlk dX3_advance_239 hf
      refine g_aload_n X dX3_advance_117 0 rfl ?_
      refine g_dup X dX3_advance_118 rfl ?_
      refine cg_3_6 X wd1_173 dX3_advance_119 ?_
      refine g_iconst X dX3_advance_122 kc_1 ?_
      refine g_iadd X dX3_advance_123 ?_
      refine cp_3_6 X wd1_173 dX3_advance_124 hf (fun S8 hf => ?_)
      refine g_goto (tgt := 89) X dX3_advance_127 (by decide) ?_
      exact ih _ hf
  have hB40 : ∀ (S : CS), C_3_advance_B40 F S = some res → GG p l e rc_3_advance s m args below meth c dC dI A 1 0 0 Q (CW E ho ro S ++ P) 40 [(0, .ref (ho 9))] [] := by
    intro S hf
    unfold C_3_advance_B40 at hf
    refine g_aload_n X dX3_advance_40 0 rfl ?_
    refine g_aload_n X dX3_advance_41 0 rfl ?_
    refine cg_3_6 X wd1_173 dX3_advance_42 ?_
    refine cp_3_5 X wd1_172 dX3_advance_45 hf (fun S9 hf => ?_)
    refine g_aload_n X dX3_advance_48 0 rfl ?_
    refine cg_3_6 X wd1_173 dX3_advance_49 ?_
    refine g_aload_n X dX3_advance_52 0 rfl ?_
    refine cg_3_0 X wd1_166 dX3_advance_53 ?_
    refine cg_6_1 X wd1_160 dX3_advance_56 ?_
    refine g_icmp_lt (tgt := 70) X dX3_advance_59 (by decide) hf (fun hf => ?_) (fun hf => ?_)
    · refine g_aload_n X dX3_advance_70 0 rfl ?_
      refine g_aload_n X dX3_advance_71 0 rfl ?_
      refine cg_3_6 X wd1_173 dX3_advance_72 ?_
      refine m_bind hf (fun y10 hy10 hf => ?_)
      refine cw_V_i (cix := 3) (As := [.int (ci S9 9 6)]) (st := []) X Y kV_X3_166 (cc_3_byteAt l dC dI E ev ho ro P S9 (ci S9 9 6) y10 hy10) ob_3 rfl ⟨Nat.le_of_ble_eq_true rfl, Nat.le_of_ble_eq_true rfl⟩ ⟨rfl, rfl⟩ (Nat.le_of_ble_eq_true rfl) ⟨Nat.le_of_ble_eq_true rfl, Nat.le_of_ble_eq_true rfl⟩ dX3_advance_75 ?_
      refine m_bind hf (fun y11 hy11 hf => ?_)
      refine cw_S_i (As := [.int y10]) (st := []) X Y kS_X3_185 (cc_3_isLetter l dC dI E ev ho ro P S9 y10 y11 hy11) ⟨Nat.le_of_ble_eq_true rfl, Nat.le_of_ble_eq_true rfl⟩ ⟨rfl, rfl⟩ (Nat.le_of_ble_eq_true rfl) ⟨Nat.le_of_ble_eq_true rfl, Nat.le_of_ble_eq_true rfl⟩ dX3_advance_78 ?_
      refine g_if_eq (tgt := 130) X dX3_advance_81 (by decide) hf (fun hf => ?_) (fun hf => ?_)
      · refine g_aload_n X dX3_advance_130 0 rfl ?_
        refine g_aload_n X dX3_advance_131 0 rfl ?_
        refine cg_3_6 X wd1_173 dX3_advance_132 ?_
        refine m_bind hf (fun y12 hy12 hf => ?_)
        refine cw_V_i (cix := 3) (As := [.int (ci S9 9 6)]) (st := []) X Y kV_X3_166 (cc_3_byteAt l dC dI E ev ho ro P S9 (ci S9 9 6) y12 hy12) ob_3 rfl ⟨Nat.le_of_ble_eq_true rfl, Nat.le_of_ble_eq_true rfl⟩ ⟨rfl, rfl⟩ (Nat.le_of_ble_eq_true rfl) ⟨Nat.le_of_ble_eq_true rfl, Nat.le_of_ble_eq_true rfl⟩ dX3_advance_135 ?_
        refine m_bind hf (fun y13 hy13 hf => ?_)
        refine cw_S_i (As := [.int y12]) (st := []) X Y kS_X3_189 (cc_3_isDigit l dC dI E ev ho ro P S9 y12 y13 hy13) ⟨Nat.le_of_ble_eq_true rfl, Nat.le_of_ble_eq_true rfl⟩ ⟨rfl, rfl⟩ (Nat.le_of_ble_eq_true rfl) ⟨Nat.le_of_ble_eq_true rfl, Nat.le_of_ble_eq_true rfl⟩ dX3_advance_138 ?_
        refine g_if_eq (tgt := 224) X dX3_advance_141 (by decide) hf (fun hf => ?_) (fun hf => ?_)
        · refine g_aload_n X dX3_advance_224 0 rfl ?_
          refine g_iconst X dX3_advance_225 kc_3 ?_
          refine cp_3_4 X wd1_171 dX3_advance_226 hf (fun S14 hf => ?_)
          refine g_aload_n X dX3_advance_229 0 rfl ?_
          refine g_dup X dX3_advance_230 rfl ?_
          refine cg_3_6 X wd1_173 dX3_advance_231 ?_
          refine g_iconst X dX3_advance_234 kc_1 ?_
          refine g_iadd X dX3_advance_235 ?_
          refine cp_3_6 X wd1_173 dX3_advance_236 hf (fun S15 hf => ?_)
          exact c_retv_s hA hQ X hr hlk dX3_advance_239 hf
        refine g_aload_n X dX3_advance_144 0 rfl ?_
        refine g_iconst X dX3_advance_145 kc_2 ?_
        refine cp_3_4 X wd1_171 dX3_advance_146 hf (fun S16 hf => ?_)
        refine g_aload_n X dX3_advance_149 0 rfl ?_
        refine g_iconst X dX3_advance_150 kc_0 ?_
        refine cp_3_7 X wd1_174 dX3_advance_151 hf (fun S17 hf => ?_)
        exact hL154 _ _ hf
      refine g_aload_n X dX3_advance_84 0 rfl ?_
      refine g_iconst X dX3_advance_85 kc_1 ?_
      refine cp_3_4 X wd1_171 dX3_advance_86 hf (fun S18 hf => ?_)
      exact hL89 _ _ hf
    refine g_aload_n X dX3_advance_62 0 rfl ?_
    refine g_iconst X dX3_advance_63 kc_0 ?_
    refine cp_3_4 X wd1_171 dX3_advance_64 hf (fun S19 hf => ?_)
    refine g_goto (tgt := 239) X dX3_advance_67 (by decide) ?_
    exact c_retv_s hA hQ X hr hlk dX3_advance_239 hf
  have hL0 : ∀  (n : Nat) (S : CS), C_3_advance_L0 F n S = some res → GG p l e rc_3_advance s m args below meth c dC dI A 1 0 0 Q (CW E ho ro S ++ P) 0 [(0, .ref (ho 9))] [] := by
    intro  n
    induction n with
    | zero => intro S hf; have hf : (none : Option (Unit × CS)) = some res := hf; cases hf
    | succ n ih =>
      intro S hf
      rw [C_3_advance_L0] at hf
      refine g_aload_n X dX3_advance_0 0 rfl ?_
      refine cg_3_6 X wd1_173 dX3_advance_1 ?_
      refine g_aload_n X dX3_advance_4 0 rfl ?_
      refine cg_3_0 X wd1_166 dX3_advance_5 ?_
      refine cg_6_1 X wd1_160 dX3_advance_8 ?_
      refine g_icmp_ge (tgt := 40) X dX3_advance_11 (by decide) hf (fun hf => ?_) (fun hf => ?_)
      · exact hB40 _ hf
      refine g_aload_n X dX3_advance_14 0 rfl ?_
      refine g_aload_n X dX3_advance_15 0 rfl ?_
      refine cg_3_6 X wd1_173 dX3_advance_16 ?_
      refine m_bind hf (fun y20 hy20 hf => ?_)
      refine cw_V_i (cix := 3) (As := [.int (ci S 9 6)]) (st := []) X Y kV_X3_166 (cc_3_byteAt l dC dI E ev ho ro P S (ci S 9 6) y20 hy20) ob_3 rfl ⟨Nat.le_of_ble_eq_true rfl, Nat.le_of_ble_eq_true rfl⟩ ⟨rfl, rfl⟩ (Nat.le_of_ble_eq_true rfl) ⟨Nat.le_of_ble_eq_true rfl, Nat.le_of_ble_eq_true rfl⟩ dX3_advance_19 ?_
      refine g_bipush X dX3_advance_22 kb_32 ?_
      refine g_icmp_ne (tgt := 40) X dX3_advance_24 (by decide) hf (fun hf => ?_) (fun hf => ?_)
      · exact hB40 _ hf
      refine g_aload_n X dX3_advance_27 0 rfl ?_
      refine g_dup X dX3_advance_28 rfl ?_
      refine cg_3_6 X wd1_173 dX3_advance_29 ?_
      refine g_iconst X dX3_advance_32 kc_1 ?_
      refine g_iadd X dX3_advance_33 ?_
      refine cp_3_6 X wd1_173 dX3_advance_34 hf (fun S21 hf => ?_)
      refine g_goto (tgt := 0) X dX3_advance_37 (by decide) ?_
      exact ih _ hf
  refine g_lv [0] (lv' := [(0, .ref (ho 9))]) rfl ?_
  unfold C_3_advance at hf
  exact hL0 _ _ hf
def rc_J0_isLatin1 : Room := { frames := 0, cells := 0, slots := 0, locals := 0 }
set_option maxRecDepth 100000 in
set_option maxHeartbeats 4000000 in
theorem cc_J0_isLatin1 (l : Launch) (dC : Nat → ClassId) (dI : Nat → Nat → Nat) (E : Nat → ClassId) (ev : Nat → Nat) (ho : Nat → Nat) (ro : Nat → Nat → Nat) (P : va_W) (S : CS) (i0 : Nat) (h_s0 : i0 < 10) (res : Int32) (hf : C_J0_isLatin1 i0 = some res) : CC l dC dI E ev yJ0_isLatin1_aae02 cJ0_isLatin1_aae02 1 (some .boolean) rc_J0_isLatin1 [.ref (ev (2 * i0 + 2))] (CW E ho ro S ++ P) (CW E ho ro S ++ P) (some (.int res)) := by
  refine CC_of (own := "java/lang/String") (by decide) rfl (Nat.le_of_ble_eq_true rfl) ?_
  intro p e s m args below meth c A Q X Y hr hlk hA hQ
  refine g_lv [0] (lv' := [(0, .ref (ev (2 * i0 + 2)))]) rfl ?_
  unfold C_J0_isLatin1 at hf
  refine s_cmp X Y wd3_80 dJ0_isLatin1_aae02_0 ?_
  refine g_if_eq (tgt := 17) X dJ0_isLatin1_aae02_3 (by decide) hf (fun hf => ?_) (fun hf => ?_)
  · refine g_iconst X dJ0_isLatin1_aae02_17 kc_0 ?_
    exact c_retz_o hA hQ X hr hlk (Or.inl rfl) dJ0_isLatin1_aae02_18 hf
  refine g_aload_n X dJ0_isLatin1_aae02_6 0 rfl ?_
  refine s_cod X Y h_s0 wd8_127 dJ0_isLatin1_aae02_7 ?_
  refine g_if_ne (tgt := 17) X dJ0_isLatin1_aae02_10 (by decide) hf (fun hf => ?_) (fun hf => ?_)
  · refine g_iconst X dJ0_isLatin1_aae02_17 kc_0 ?_
    exact c_retz_o hA hQ X hr hlk (Or.inl rfl) dJ0_isLatin1_aae02_18 hf
  refine g_iconst X dJ0_isLatin1_aae02_13 kc_1 ?_
  refine g_goto (tgt := 18) X dJ0_isLatin1_aae02_14 (by decide) ?_
  exact c_retz_o hA hQ X hr hlk (Or.inr rfl) dJ0_isLatin1_aae02_18 hf
def rc_J3_checkIndex : Room := { frames := 0, cells := 0, slots := 0, locals := 0 }
set_option maxRecDepth 100000 in
set_option maxHeartbeats 4000000 in
theorem cc_J3_checkIndex (l : Launch) (dC : Nat → ClassId) (dI : Nat → Nat → Nat) (E : Nat → ClassId) (ev : Nat → Nat) (ho : Nat → Nat) (ro : Nat → Nat → Nat) (P : va_W) (S : CS) (x0 : Int32) (x1 : Int32) (q2 : Option Nat) (res : Int32) (hf : C_J3_checkIndex x0 x1 = some res) : CC l dC dI E ev yJ3_checkIndex_8e157 cJ3_checkIndex_8e157 3 (some .int) rc_J3_checkIndex [.int x0, .int x1, va_rf q2] (CW E ho ro S ++ P) (CW E ho ro S ++ P) (some (.int res)) := by
  refine CC_of (own := "jdk/internal/util/Preconditions") (by decide) rfl (by cases q2 <;> exact Nat.le_of_ble_eq_true rfl) ?_
  intro p e s m args below meth c A Q X Y hr hlk hA hQ
  refine g_lv [0, 1, 2] (lv' := [(0, .int x0), (1, .int x1), (2, va_rf q2)]) (by cases q2 <;> rfl) ?_
  unfold C_J3_checkIndex at hf
  refine g_iload_n X dJ3_checkIndex_8e157_0 0 rfl ?_
  refine g_if_lt (tgt := 9) X dJ3_checkIndex_8e157_1 (by decide) hf (fun hf => ?_) (fun hf => ?_)
  · cases hf
  refine g_iload_n X dJ3_checkIndex_8e157_4 0 rfl ?_
  refine g_iload_n X dJ3_checkIndex_8e157_5 1 rfl ?_
  refine g_icmp_lt (tgt := 16) X dJ3_checkIndex_8e157_6 (by decide) hf (fun hf => ?_) (fun hf => ?_)
  · refine g_iload_n X dJ3_checkIndex_8e157_16 0 rfl ?_
    exact c_reti_o hA hQ X hr hlk dJ3_checkIndex_8e157_17 hf
  cases hf
def rc_J0_checkIndex : Room := { frames := 1, cells := 0, slots := 0, locals := 22 }
set_option maxRecDepth 100000 in
set_option maxHeartbeats 4000000 in
theorem cc_J0_checkIndex (l : Launch) (dC : Nat → ClassId) (dI : Nat → Nat → Nat) (E : Nat → ClassId) (ev : Nat → Nat) (ho : Nat → Nat) (ro : Nat → Nat → Nat) (P : va_W) (S : CS) (x0 : Int32) (x1 : Int32)  (res : Unit) (hf : C_J0_checkIndex x0 x1 = some res) : CC l dC dI E ev yJ0_checkIndex_df160 cJ0_checkIndex_df160 2 none rc_J0_checkIndex [.int x0, .int x1] (CW E ho ro S ++ P) (CW E ho ro S ++ P) none := by
  refine CC_of (own := "java/lang/String") (by decide) rfl (Nat.le_of_ble_eq_true rfl) ?_
  intro p e s m args below meth c A Q X Y hr hlk hA hQ
  refine g_lv [0, 1] (lv' := [(0, .int x0), (1, .int x1)]) rfl ?_
  unfold C_J0_checkIndex at hf
  refine g_iload_n X dJ0_checkIndex_df160_0 0 rfl ?_
  refine g_iload_n X dJ0_checkIndex_df160_1 1 rfl ?_
  refine s_sio X Y wd3_96 dJ0_checkIndex_df160_2 (fun qv1 => ?_)
  refine m_bind hf (fun y2 hy2 hf => ?_)
  refine cw_T_i (As := [.int x0, .int x1, va_rf qv1]) (st := []) X Y kT_J0_1059 (cc_J3_checkIndex l dC dI E ev ho ro P S x0 x1 qv1 y2 hy2) ⟨Nat.le_of_ble_eq_true rfl, Nat.le_of_ble_eq_true rfl⟩ ⟨rfl, rfl⟩ (Nat.le_of_ble_eq_true rfl) ⟨Nat.le_of_ble_eq_true rfl, Nat.le_of_ble_eq_true rfl⟩ dJ0_checkIndex_df160_5 ?_
  refine g_pop X dJ0_checkIndex_df160_8 rfl ?_
  exact c_retv_o hA hQ X hr hlk dJ0_checkIndex_df160_9 hf
def rc_J1_charAt : Room := { frames := 2, cells := 0, slots := 0, locals := 43 }
set_option maxRecDepth 100000 in
set_option maxHeartbeats 4000000 in
theorem cc_J1_charAt (l : Launch) (dC : Nat → ClassId) (dI : Nat → Nat → Nat) (E : Nat → ClassId) (ev : Nat → Nat) (ho : Nat → Nat) (ro : Nat → Nat → Nat) (P : va_W) (S : CS) (i0 : Nat) (x1 : Int32) (h_s0 : i0 < 10) (res : Int32) (hf : C_J1_charAt i0 x1 = some res) : CC l dC dI E ev yJ1_charAt_3b067 cJ1_charAt_3b067 2 (some .char) rc_J1_charAt [.ref (ev (2 * i0 + 3)), .int x1] (CW E ho ro S ++ P) (CW E ho ro S ++ P) (some (.int res)) := by
  refine CC_of (own := "java/lang/StringLatin1") (by decide) rfl (Nat.le_of_ble_eq_true rfl) ?_
  intro p e s m args below meth c A Q X Y hr hlk hA hQ
  refine g_lv [0, 1] (lv' := [(0, .ref (ev (2 * i0 + 3))), (1, .int x1)]) rfl ?_
  unfold C_J1_charAt at hf
  refine g_iload_n X dJ1_charAt_3b067_0 1 rfl ?_
  refine g_aload_n X dJ1_charAt_3b067_1 0 rfl ?_
  refine s_vlen X Y h_s0 dJ1_charAt_3b067_2 ?_
  refine m_bind hf (fun y1 hy1 hf => ?_)
  refine cw_T_v (As := [.int x1, .int (Int32.ofNat (lenC.getD i0 0))]) (st := []) X Y kT_J1_9 (cc_J0_checkIndex l dC dI E ev ho ro P S x1 (Int32.ofNat (lenC.getD i0 0)) y1 hy1) ⟨Nat.le_of_ble_eq_true rfl, Nat.le_of_ble_eq_true rfl⟩ ⟨rfl, rfl⟩ (Nat.le_of_ble_eq_true rfl) ⟨Nat.le_of_ble_eq_true rfl, Nat.le_of_ble_eq_true rfl⟩ dJ1_charAt_3b067_3 ?_
  refine g_aload_n X dJ1_charAt_3b067_6 0 rfl ?_
  refine g_iload_n X dJ1_charAt_3b067_7 1 rfl ?_
  refine s_vld X Y h_s0 dJ1_charAt_3b067_8 hf (fun hf => ?_)
  refine g_sipush X dJ1_charAt_3b067_9 ks_255 ?_
  refine g_iand X dJ1_charAt_3b067_12 ?_
  refine g_i2c X dJ1_charAt_3b067_13 ?_
  obtain ⟨hz14, hf⟩ := chk_some hf
  exact c_reth_o hA hQ X hr hlk hz14 dJ1_charAt_3b067_14 hf
def rc_J0_charAt : Room := { frames := 3, cells := 0, slots := 0, locals := 64 }
set_option maxRecDepth 100000 in
set_option maxHeartbeats 4000000 in
theorem cc_J0_charAt (l : Launch) (dC : Nat → ClassId) (dI : Nat → Nat → Nat) (E : Nat → ClassId) (ev : Nat → Nat) (ho : Nat → Nat) (ro : Nat → Nat → Nat) (P : va_W) (S : CS) (i0 : Nat) (x1 : Int32) (h_s0 : i0 < 10) (res : Int32) (hf : C_J0_charAt i0 x1 = some res) : CC l dC dI E ev yJ0_charAt_5068e cJ0_charAt_5068e 2 (some .char) rc_J0_charAt [.ref (ev (2 * i0 + 2)), .int x1] (CW E ho ro S ++ P) (CW E ho ro S ++ P) (some (.int res)) := by
  refine CC_of (own := "java/lang/String") (by decide) rfl (Nat.le_of_ble_eq_true rfl) ?_
  intro p e s m args below meth c A Q X Y hr hlk hA hQ
  refine g_lv [0, 1] (lv' := [(0, .ref (ev (2 * i0 + 2))), (1, .int x1)]) rfl ?_
  unfold C_J0_charAt at hf
  refine g_aload_n X dJ0_charAt_5068e_0 0 rfl ?_
  refine m_bind hf (fun y1 hy1 hf => ?_)
  refine cw_U_i (i := i0) (As := []) (st := []) X Y kU_J0_492 (cc_J0_isLatin1 l dC dI E ev ho ro P S i0 h_s0 y1 hy1) h_s0 ⟨Nat.le_of_ble_eq_true rfl, Nat.le_of_ble_eq_true rfl⟩ ⟨rfl, rfl⟩ (Nat.le_of_ble_eq_true rfl) ⟨Nat.le_of_ble_eq_true rfl, Nat.le_of_ble_eq_true rfl⟩ dJ0_charAt_5068e_1 ?_
  refine g_if_eq (tgt := 16) X dJ0_charAt_5068e_4 (by decide) hf (fun hf => ?_) (fun hf => ?_)
  · cases hf
  refine g_aload_n X dJ0_charAt_5068e_7 0 rfl ?_
  refine s_val X Y h_s0 wd8_126 dJ0_charAt_5068e_8 ?_
  refine g_iload_n X dJ0_charAt_5068e_11 1 rfl ?_
  refine m_bind hf (fun y2 hy2 hf => ?_)
  refine cw_T_i (As := [.ref (ev (2 * i0 + 3)), .int x1]) (st := []) X Y kT_J0_495 (cc_J1_charAt l dC dI E ev ho ro P S i0 x1 h_s0 y2 hy2) ⟨Nat.le_of_ble_eq_true rfl, Nat.le_of_ble_eq_true rfl⟩ ⟨rfl, rfl⟩ (Nat.le_of_ble_eq_true rfl) ⟨Nat.le_of_ble_eq_true rfl, Nat.le_of_ble_eq_true rfl⟩ dJ0_charAt_5068e_12 ?_
  obtain ⟨hz15, hf⟩ := chk_some hf
  exact c_reth_o hA hQ X hr hlk hz15 dJ0_charAt_5068e_15 hf
def rc_J0_coder : Room := { frames := 0, cells := 0, slots := 0, locals := 0 }
set_option maxRecDepth 100000 in
set_option maxHeartbeats 4000000 in
theorem cc_J0_coder (l : Launch) (dC : Nat → ClassId) (dI : Nat → Nat → Nat) (E : Nat → ClassId) (ev : Nat → Nat) (ho : Nat → Nat) (ro : Nat → Nat → Nat) (P : va_W) (S : CS) (i0 : Nat) (h_s0 : i0 < 10) (res : Int32) (hf : C_J0_coder i0 = some res) : CC l dC dI E ev yJ0_coder_7d493 cJ0_coder_7d493 1 (some .byte) rc_J0_coder [.ref (ev (2 * i0 + 2))] (CW E ho ro S ++ P) (CW E ho ro S ++ P) (some (.int res)) := by
  refine CC_of (own := "java/lang/String") (by decide) rfl (Nat.le_of_ble_eq_true rfl) ?_
  intro p e s m args below meth c A Q X Y hr hlk hA hQ
  refine g_lv [0] (lv' := [(0, .ref (ev (2 * i0 + 2)))]) rfl ?_
  unfold C_J0_coder at hf
  refine s_cmp X Y wd3_80 dJ0_coder_7d493_0 ?_
  refine g_if_eq (tgt := 13) X dJ0_coder_7d493_3 (by decide) hf (fun hf => ?_) (fun hf => ?_)
  · refine g_iconst X dJ0_coder_7d493_13 kc_1 ?_
    obtain ⟨hz14, hf⟩ := chk_some hf
    exact c_retb_o hA hQ X hr hlk hz14 dJ0_coder_7d493_14 hf
  refine g_aload_n X dJ0_coder_7d493_6 0 rfl ?_
  refine s_cod X Y h_s0 wd8_127 dJ0_coder_7d493_7 ?_
  refine g_goto (tgt := 14) X dJ0_coder_7d493_10 (by decide) ?_
  obtain ⟨hz14, hf⟩ := chk_some hf
  exact c_retb_o hA hQ X hr hlk hz14 dJ0_coder_7d493_14 hf
def rc_J0_length : Room := { frames := 1, cells := 0, slots := 0, locals := 20 }
set_option maxRecDepth 100000 in
set_option maxHeartbeats 4000000 in
theorem cc_J0_length (l : Launch) (dC : Nat → ClassId) (dI : Nat → Nat → Nat) (E : Nat → ClassId) (ev : Nat → Nat) (ho : Nat → Nat) (ro : Nat → Nat → Nat) (P : va_W) (S : CS) (i0 : Nat) (h_s0 : i0 < 10) (res : Int32) (hf : C_J0_length i0 = some res) : CC l dC dI E ev yJ0_length_8abf5 cJ0_length_8abf5 1 (some .int) rc_J0_length [.ref (ev (2 * i0 + 2))] (CW E ho ro S ++ P) (CW E ho ro S ++ P) (some (.int res)) := by
  refine CC_of (own := "java/lang/String") (by decide) rfl (Nat.le_of_ble_eq_true rfl) ?_
  intro p e s m args below meth c A Q X Y hr hlk hA hQ
  refine g_lv [0] (lv' := [(0, .ref (ev (2 * i0 + 2)))]) rfl ?_
  unfold C_J0_length at hf
  refine g_aload_n X dJ0_length_8abf5_0 0 rfl ?_
  refine s_val X Y h_s0 wd8_126 dJ0_length_8abf5_1 ?_
  refine s_vlen X Y h_s0 dJ0_length_8abf5_4 ?_
  refine g_aload_n X dJ0_length_8abf5_5 0 rfl ?_
  refine m_bind hf (fun y1 hy1 hf => ?_)
  refine cw_U_i (i := i0) (As := []) (st := [.int (Int32.ofNat (lenC.getD i0 0))]) X Y kU_J0_335 (cc_J0_coder l dC dI E ev ho ro P S i0 h_s0 y1 hy1) h_s0 ⟨Nat.le_of_ble_eq_true rfl, Nat.le_of_ble_eq_true rfl⟩ ⟨rfl, rfl⟩ (Nat.le_of_ble_eq_true rfl) ⟨Nat.le_of_ble_eq_true rfl, Nat.le_of_ble_eq_true rfl⟩ dJ0_length_8abf5_6 ?_
  refine g_ishr X dJ0_length_8abf5_9 ?_
  exact c_reti_o hA hQ X hr hlk dJ0_length_8abf5_10 hf
def rc_3_choice : Room := { frames := 4, cells := 0, slots := 0, locals := 85 }
set_option maxRecDepth 100000 in
set_option maxHeartbeats 4000000 in
theorem cc_3_choice (l : Launch) (dC : Nat → ClassId) (dI : Nat → Nat → Nat) (E : Nat → ClassId) (ev : Nat → Nat) (ho : Nat → Nat) (ro : Nat → Nat → Nat) (F : Nat) (P : va_W) (S : CS) (i1 : Nat) (h_s1 : i1 < 10) (res : Int32) (hf : C_3_choice F S i1 = some res) : CC l dC dI E ev yX3_choice cX3_choice 6 (some .int) rc_3_choice [.ref (ho 9), .ref (ev (2 * i1 + 2))] (CW E ho ro S ++ P) (CW E ho ro S ++ P) (some (.int res)) := by
  refine CC_of (own := "LostLanes$Reader") (by decide) rfl (Nat.le_of_ble_eq_true rfl) ?_
  intro p e s m args below meth c A Q X Y hr hlk hA hQ
  have hB118 : ∀ (k23 : Int32 → Int32 → Int32 → Int32 → Option Int32) (hk23 : ∀ (x2 : Int32) (x3 : Int32) (x4 : Int32) (x5 : Int32), k23 x2 x3 x4 x5 = some res → GG p l e rc_3_choice s m args below meth c dC dI A 6 0 0 Q (CW E ho ro S ++ P) 23 [(0, .ref (ho 9)), (1, .ref (ev (2 * i1 + 2))), (2, .int x2), (3, .int x3), (4, .int x4), (5, .int x5)] []) (x2 : Int32) (x3 : Int32) (x4 : Int32) (x5 : Int32), C_3_choice_B118 F i1 k23 S x2 x3 x4 x5 = some res → GG p l e rc_3_choice s m args below meth c dC dI A 6 0 0 Q (CW E ho ro S ++ P) 118 [(0, .ref (ho 9)), (1, .ref (ev (2 * i1 + 2))), (2, .int x2), (3, .int x3), (4, .int x4), (5, .int x5)] [] := by
    intro k23 hk23 x2 x3 x4 x5 hf
    unfold C_3_choice_B118 at hf
    refine g_iinc (lv' := [(5, .int (x5 + (1 : Int32))), (0, .ref (ho 9)), (1, .ref (ev (2 * i1 + 2))), (2, .int x2), (3, .int x3), (4, .int x4)]) X dX3_choice_118 5 rfl kc_1 (by decide) rfl ?_
    refine g_goto (tgt := 23) X dX3_choice_121 (by decide) ?_
    refine g_lv [1, 2, 3, 4, 5, 0] (lv' := [(0, .ref (ho 9)), (1, .ref (ev (2 * i1 + 2))), (2, .int x2), (3, .int x3), (4, .int x4), (5, .int (x5 + (1 : Int32)))]) rfl ?_
    exact hk23 _ _ _ _ hf
  have hB113 : ∀ (k23 : Int32 → Int32 → Int32 → Int32 → Option Int32) (hk23 : ∀ (x2 : Int32) (x3 : Int32) (x4 : Int32) (x5 : Int32), k23 x2 x3 x4 x5 = some res → GG p l e rc_3_choice s m args below meth c dC dI A 6 0 0 Q (CW E ho ro S ++ P) 23 [(0, .ref (ho 9)), (1, .ref (ev (2 * i1 + 2))), (2, .int x2), (3, .int x3), (4, .int x4), (5, .int x5)] []) (x2 : Int32) (x3 : Int32) (x5 : Int32) (tx0 : Int32), C_3_choice_B113 F i1 k23 S x2 x3 x5 tx0 = some res → GG p l e rc_3_choice s m args below meth c dC dI A 6 0 0 Q (CW E ho ro S ++ P) 113 [(0, .ref (ho 9)), (1, .ref (ev (2 * i1 + 2))), (2, .int x2), (3, .int x3), (5, .int x5)] [.int tx0] := by
    intro k23 hk23 x2 x3 x5 tx0 hf
    unfold C_3_choice_B113 at hf
    refine g_istore (lv' := [(4, .int tx0), (0, .ref (ho 9)), (1, .ref (ev (2 * i1 + 2))), (2, .int x2), (3, .int x3), (5, .int x5)]) X dX3_choice_113 (by decide) rfl ?_
    refine g_iinc (lv' := [(3, .int (x3 + (1 : Int32))), (4, .int tx0), (0, .ref (ho 9)), (1, .ref (ev (2 * i1 + 2))), (2, .int x2), (5, .int x5)]) X dX3_choice_115 4 rfl kc_1 (by decide) rfl ?_
    refine g_lv [2, 3, 4, 0, 1, 5] (lv' := [(0, .ref (ho 9)), (1, .ref (ev (2 * i1 + 2))), (2, .int x2), (3, .int (x3 + (1 : Int32))), (4, .int tx0), (5, .int x5)]) rfl ?_
    exact hB118 _ hk23 _ _ _ _ hf
  have hB112 : ∀ (k23 : Int32 → Int32 → Int32 → Int32 → Option Int32) (hk23 : ∀ (x2 : Int32) (x3 : Int32) (x4 : Int32) (x5 : Int32), k23 x2 x3 x4 x5 = some res → GG p l e rc_3_choice s m args below meth c dC dI A 6 0 0 Q (CW E ho ro S ++ P) 23 [(0, .ref (ho 9)), (1, .ref (ev (2 * i1 + 2))), (2, .int x2), (3, .int x3), (4, .int x4), (5, .int x5)] []) (x2 : Int32) (x3 : Int32) (x5 : Int32), C_3_choice_B112 F i1 k23 S x2 x3 x5 = some res → GG p l e rc_3_choice s m args below meth c dC dI A 6 0 0 Q (CW E ho ro S ++ P) 112 [(0, .ref (ho 9)), (1, .ref (ev (2 * i1 + 2))), (2, .int x2), (3, .int x3), (5, .int x5)] [] := by
    intro k23 hk23 x2 x3 x5 hf
    unfold C_3_choice_B112 at hf
    refine g_iconst X dX3_choice_112 kc_0 ?_
    exact hB113 _ hk23 _ _ _ _ hf
  have hB67 : ∀ (k23 : Int32 → Int32 → Int32 → Int32 → Option Int32) (hk23 : ∀ (x2 : Int32) (x3 : Int32) (x4 : Int32) (x5 : Int32), k23 x2 x3 x4 x5 = some res → GG p l e rc_3_choice s m args below meth c dC dI A 6 0 0 Q (CW E ho ro S ++ P) 23 [(0, .ref (ho 9)), (1, .ref (ev (2 * i1 + 2))), (2, .int x2), (3, .int x3), (4, .int x4), (5, .int x5)] []) (x2 : Int32) (x5 : Int32), C_3_choice_B67 F i1 k23 S x2 x5 = some res → GG p l e rc_3_choice s m args below meth c dC dI A 6 0 0 Q (CW E ho ro S ++ P) 67 [(0, .ref (ho 9)), (1, .ref (ev (2 * i1 + 2))), (2, .int x2), (5, .int x5)] [] := by
    intro k23 hk23 x2 x5 hf
    unfold C_3_choice_B67 at hf
    refine g_iinc (lv' := [(2, .int (x2 + (1 : Int32))), (0, .ref (ho 9)), (1, .ref (ev (2 * i1 + 2))), (5, .int x5)]) X dX3_choice_67 2 rfl kc_1 (by decide) rfl ?_
    refine g_aload_n X dX3_choice_70 1 rfl ?_
    refine cg_3_5 X wd1_172 dX3_choice_71 ?_
    refine g_istore_n (i := 3) (lv' := [(3, .int (ci S 9 5)), (2, .int (x2 + (1 : Int32))), (0, .ref (ho 9)), (1, .ref (ev (2 * i1 + 2))), (5, .int x5)]) X dX3_choice_74 rfl (by decide) rfl ?_
    refine g_iconst X dX3_choice_75 kc_1 ?_
    refine g_istore (lv' := [(4, .int (1 : Int32)), (3, .int (ci S 9 5)), (2, .int (x2 + (1 : Int32))), (0, .ref (ho 9)), (1, .ref (ev (2 * i1 + 2))), (5, .int x5)]) X dX3_choice_76 (by decide) rfl ?_
    refine g_goto (tgt := 118) X dX3_choice_78 (by decide) ?_
    refine g_lv [3, 4, 2, 1, 0, 5] (lv' := [(0, .ref (ho 9)), (1, .ref (ev (2 * i1 + 2))), (2, .int (x2 + (1 : Int32))), (3, .int (ci S 9 5)), (4, .int (1 : Int32)), (5, .int x5)]) rfl ?_
    exact hB118 _ hk23 _ _ _ _ hf
  have hB52 : ∀ (k23 : Int32 → Int32 → Int32 → Int32 → Option Int32) (hk23 : ∀ (x2 : Int32) (x3 : Int32) (x4 : Int32) (x5 : Int32), k23 x2 x3 x4 x5 = some res → GG p l e rc_3_choice s m args below meth c dC dI A 6 0 0 Q (CW E ho ro S ++ P) 23 [(0, .ref (ho 9)), (1, .ref (ev (2 * i1 + 2))), (2, .int x2), (3, .int x3), (4, .int x4), (5, .int x5)] []) (x2 : Int32) (x3 : Int32) (x4 : Int32) (x5 : Int32), C_3_choice_B52 F i1 k23 S x2 x3 x4 x5 = some res → GG p l e rc_3_choice s m args below meth c dC dI A 6 0 0 Q (CW E ho ro S ++ P) 52 [(0, .ref (ho 9)), (1, .ref (ev (2 * i1 + 2))), (2, .int x2), (3, .int x3), (4, .int x4), (5, .int x5)] [] := by
    intro k23 hk23 x2 x3 x4 x5 hf
    unfold C_3_choice_B52 at hf
    refine g_iload X dX3_choice_52 4 rfl ?_
    refine g_if_eq (tgt := 67) X dX3_choice_54 (by decide) hf (fun hf => ?_) (fun hf => ?_)
    · refine g_lv [0, 1, 2, 5] (lv' := [(0, .ref (ho 9)), (1, .ref (ev (2 * i1 + 2))), (2, .int x2), (5, .int x5)]) rfl ?_
      exact hB67 _ hk23 _ _ hf
    refine g_iload_n X dX3_choice_57 3 rfl ?_
    refine g_aload_n X dX3_choice_58 0 rfl ?_
    refine cg_3_6 X wd1_173 dX3_choice_59 ?_
    refine g_icmp_ne (tgt := 67) X dX3_choice_62 (by decide) hf (fun hf => ?_) (fun hf => ?_)
    · refine g_lv [0, 1, 2, 5] (lv' := [(0, .ref (ho 9)), (1, .ref (ev (2 * i1 + 2))), (2, .int x2), (5, .int x5)]) rfl ?_
      exact hB67 _ hk23 _ _ hf
    refine g_iload_n X dX3_choice_65 2 rfl ?_
    exact c_reti_o hA hQ X hr hlk dX3_choice_66 hf
  have hL23 : ∀  (n : Nat) (x2 : Int32) (x3 : Int32) (x4 : Int32) (x5 : Int32), C_3_choice_L23 F i1 S n x2 x3 x4 x5 = some res → GG p l e rc_3_choice s m args below meth c dC dI A 6 0 0 Q (CW E ho ro S ++ P) 23 [(0, .ref (ho 9)), (1, .ref (ev (2 * i1 + 2))), (2, .int x2), (3, .int x3), (4, .int x4), (5, .int x5)] [] := by
    intro  n
    induction n with
    | zero => intro x2 x3 x4 x5 hf; have hf : (none : Option Int32) = some res := hf; cases hf
    | succ n ih =>
      intro x2 x3 x4 x5 hf
      rw [C_3_choice_L23] at hf
      refine g_iload X dX3_choice_23 5 rfl ?_
      refine g_aload_n X dX3_choice_25 1 rfl ?_
      refine m_bind hf (fun y1 hy1 hf => ?_)
      refine cw_U_i (i := i1) (As := []) (st := [.int x5]) X Y kU_X3_170 (cc_J0_length l dC dI E ev ho ro P S i1 h_s1 y1 hy1) h_s1 ⟨Nat.le_of_ble_eq_true rfl, Nat.le_of_ble_eq_true rfl⟩ ⟨rfl, rfl⟩ (Nat.le_of_ble_eq_true rfl) ⟨Nat.le_of_ble_eq_true rfl, Nat.le_of_ble_eq_true rfl⟩ dX3_choice_26 ?_
      refine g_icmp_gt (tgt := 124) X dX3_choice_29 (by decide) hf (fun hf => ?_) (fun hf => ?_)
      · refine g_iconst X dX3_choice_124 kc_m1 ?_
        exact c_reti_o hA hQ X hr hlk dX3_choice_125 hf
      refine g_iload X dX3_choice_32 5 rfl ?_
      refine g_aload_n X dX3_choice_34 1 rfl ?_
      refine m_bind hf (fun y2 hy2 hf => ?_)
      refine cw_U_i (i := i1) (As := []) (st := [.int x5]) X Y kU_X3_170 (cc_J0_length l dC dI E ev ho ro P S i1 h_s1 y2 hy2) h_s1 ⟨Nat.le_of_ble_eq_true rfl, Nat.le_of_ble_eq_true rfl⟩ ⟨rfl, rfl⟩ (Nat.le_of_ble_eq_true rfl) ⟨Nat.le_of_ble_eq_true rfl, Nat.le_of_ble_eq_true rfl⟩ dX3_choice_35 ?_
      refine g_icmp_eq (tgt := 52) X dX3_choice_38 (by decide) hf (fun hf => ?_) (fun hf => ?_)
      · exact hB52 _ ih _ _ _ _ hf
      refine g_aload_n X dX3_choice_41 1 rfl ?_
      refine g_iload X dX3_choice_42 5 rfl ?_
      refine m_bind hf (fun y3 hy3 hf => ?_)
      refine cw_U_i (i := i1) (As := [.int x5]) (st := []) X Y kU_X3_176 (cc_J0_charAt l dC dI E ev ho ro P S i1 x5 h_s1 y3 hy3) h_s1 ⟨Nat.le_of_ble_eq_true rfl, Nat.le_of_ble_eq_true rfl⟩ ⟨rfl, rfl⟩ (Nat.le_of_ble_eq_true rfl) ⟨Nat.le_of_ble_eq_true rfl, Nat.le_of_ble_eq_true rfl⟩ dX3_choice_44 ?_
      refine g_bipush X dX3_choice_47 kb_32 ?_
      refine g_icmp_ne (tgt := 81) X dX3_choice_49 (by decide) hf (fun hf => ?_) (fun hf => ?_)
      · refine g_iload X dX3_choice_81 4 rfl ?_
        refine g_if_eq (tgt := 112) X dX3_choice_83 (by decide) hf (fun hf => ?_) (fun hf => ?_)
        · refine g_lv [0, 1, 2, 3, 5] (lv' := [(0, .ref (ho 9)), (1, .ref (ev (2 * i1 + 2))), (2, .int x2), (3, .int x3), (5, .int x5)]) rfl ?_
          exact hB112 _ ih _ _ _ hf
        refine g_iload_n X dX3_choice_86 3 rfl ?_
        refine g_aload_n X dX3_choice_87 0 rfl ?_
        refine cg_3_6 X wd1_173 dX3_choice_88 ?_
        refine g_icmp_ge (tgt := 112) X dX3_choice_91 (by decide) hf (fun hf => ?_) (fun hf => ?_)
        · refine g_lv [0, 1, 2, 3, 5] (lv' := [(0, .ref (ho 9)), (1, .ref (ev (2 * i1 + 2))), (2, .int x2), (3, .int x3), (5, .int x5)]) rfl ?_
          exact hB112 _ ih _ _ _ hf
        refine g_aload_n X dX3_choice_94 0 rfl ?_
        refine g_iload_n X dX3_choice_95 3 rfl ?_
        refine m_bind hf (fun y4 hy4 hf => ?_)
        refine cw_V_i (cix := 3) (As := [.int x3]) (st := []) X Y kV_X3_166 (cc_3_byteAt l dC dI E ev ho ro P S x3 y4 hy4) ob_3 rfl ⟨Nat.le_of_ble_eq_true rfl, Nat.le_of_ble_eq_true rfl⟩ ⟨rfl, rfl⟩ (Nat.le_of_ble_eq_true rfl) ⟨Nat.le_of_ble_eq_true rfl, Nat.le_of_ble_eq_true rfl⟩ dX3_choice_96 ?_
        refine g_aload_n X dX3_choice_99 1 rfl ?_
        refine g_iload X dX3_choice_100 5 rfl ?_
        refine m_bind hf (fun y5 hy5 hf => ?_)
        refine cw_U_i (i := i1) (As := [.int x5]) (st := [.int y4]) X Y kU_X3_176 (cc_J0_charAt l dC dI E ev ho ro P S i1 x5 h_s1 y5 hy5) h_s1 ⟨Nat.le_of_ble_eq_true rfl, Nat.le_of_ble_eq_true rfl⟩ ⟨rfl, rfl⟩ (Nat.le_of_ble_eq_true rfl) ⟨Nat.le_of_ble_eq_true rfl, Nat.le_of_ble_eq_true rfl⟩ dX3_choice_102 ?_
        refine g_icmp_ne (tgt := 112) X dX3_choice_105 (by decide) hf (fun hf => ?_) (fun hf => ?_)
        · refine g_lv [0, 1, 2, 3, 5] (lv' := [(0, .ref (ho 9)), (1, .ref (ev (2 * i1 + 2))), (2, .int x2), (3, .int x3), (5, .int x5)]) rfl ?_
          exact hB112 _ ih _ _ _ hf
        refine g_iconst X dX3_choice_108 kc_1 ?_
        refine g_goto (tgt := 113) X dX3_choice_109 (by decide) ?_
        refine g_lv [0, 1, 2, 3, 5] (lv' := [(0, .ref (ho 9)), (1, .ref (ev (2 * i1 + 2))), (2, .int x2), (3, .int x3), (5, .int x5)]) rfl ?_
        exact hB113 _ ih _ _ _ _ hf
      exact hB52 _ ih _ _ _ _ hf
  refine g_lv [0, 1] (lv' := [(0, .ref (ho 9)), (1, .ref (ev (2 * i1 + 2)))]) rfl ?_
  unfold C_3_choice at hf
  refine g_aload_n X dX3_choice_0 0 rfl ?_
  refine cg_3_4 X wd1_171 dX3_choice_1 ?_
  refine g_iconst X dX3_choice_4 kc_1 ?_
  refine g_icmp_eq (tgt := 10) X dX3_choice_5 (by decide) hf (fun hf => ?_) (fun hf => ?_)
  · refine g_iconst X dX3_choice_10 kc_0 ?_
    refine g_istore_n (i := 2) (lv' := [(2, .int (0 : Int32)), (0, .ref (ho 9)), (1, .ref (ev (2 * i1 + 2)))]) X dX3_choice_11 rfl (by decide) rfl ?_
    refine g_aload_n X dX3_choice_12 1 rfl ?_
    refine cg_3_5 X wd1_172 dX3_choice_13 ?_
    refine g_istore_n (i := 3) (lv' := [(3, .int (ci S 9 5)), (2, .int (0 : Int32)), (0, .ref (ho 9)), (1, .ref (ev (2 * i1 + 2)))]) X dX3_choice_16 rfl (by decide) rfl ?_
    refine g_iconst X dX3_choice_17 kc_1 ?_
    refine g_istore (lv' := [(4, .int (1 : Int32)), (3, .int (ci S 9 5)), (2, .int (0 : Int32)), (0, .ref (ho 9)), (1, .ref (ev (2 * i1 + 2)))]) X dX3_choice_18 (by decide) rfl ?_
    refine g_iconst X dX3_choice_20 kc_0 ?_
    refine g_istore (lv' := [(5, .int (0 : Int32)), (4, .int (1 : Int32)), (3, .int (ci S 9 5)), (2, .int (0 : Int32)), (0, .ref (ho 9)), (1, .ref (ev (2 * i1 + 2)))]) X dX3_choice_21 (by decide) rfl ?_
    refine g_lv [4, 5, 3, 2, 1, 0] (lv' := [(0, .ref (ho 9)), (1, .ref (ev (2 * i1 + 2))), (2, .int (0 : Int32)), (3, .int (ci S 9 5)), (4, .int (1 : Int32)), (5, .int (0 : Int32))]) rfl ?_
    exact hL23 _ _ _ _ _ hf
  refine g_iconst X dX3_choice_8 kc_m1 ?_
  exact c_reti_o hA hQ X hr hlk dX3_choice_9 hf
def rc_3_fail : Room := { frames := 0, cells := 0, slots := 0, locals := 0 }
set_option maxRecDepth 100000 in
set_option maxHeartbeats 4000000 in
theorem cc_3_fail (l : Launch) (dC : Nat → ClassId) (dI : Nat → Nat → Nat) (E : Nat → ClassId) (ev : Nat → Nat) (ho : Nat → Nat) (ro : Nat → Nat → Nat) (P : va_W) (S : CS)   (res : Int32 × CS) (hf : C_3_fail S = some res) : CC l dC dI E ev yX3_fail cX3_fail 1 (some .boolean) rc_3_fail [.ref (ho 9)] (CW E ho ro S ++ P) (CW E ho ro res.2 ++ P) (some (.int res.1)) := by
  refine CC_of (own := "LostLanes$Reader") (by decide) rfl (Nat.le_of_ble_eq_true rfl) ?_
  intro p e s m args below meth c A Q X Y hr hlk hA hQ
  refine g_lv [0] (lv' := [(0, .ref (ho 9))]) rfl ?_
  unfold C_3_fail at hf
  refine g_aload_n X dX3_fail_0 0 rfl ?_
  refine cg_3_10 X wd1_177 dX3_fail_1 ?_
  refine g_iconst X dX3_fail_4 kc_m1 ?_
  refine g_icmp_ne (tgt := 16) X dX3_fail_5 (by decide) hf (fun hf => ?_) (fun hf => ?_)
  · refine g_iconst X dX3_fail_16 kc_0 ?_
    exact c_retz_s hA hQ X hr hlk (Or.inl rfl) dX3_fail_17 hf
  refine g_aload_n X dX3_fail_8 0 rfl ?_
  refine g_aload_n X dX3_fail_9 0 rfl ?_
  refine cg_3_5 X wd1_172 dX3_fail_10 ?_
  refine cp_3_10 X wd1_177 dX3_fail_13 hf (fun S1 hf => ?_)
  refine g_iconst X dX3_fail_16 kc_0 ?_
  exact c_retz_s hA hQ X hr hlk (Or.inl rfl) dX3_fail_17 hf
def rc_3_isSign : Room := { frames := 1, cells := 0, slots := 0, locals := 21 }
set_option maxRecDepth 100000 in
set_option maxHeartbeats 4000000 in
theorem cc_3_isSign (l : Launch) (dC : Nat → ClassId) (dI : Nat → Nat → Nat) (E : Nat → ClassId) (ev : Nat → Nat) (ho : Nat → Nat) (ro : Nat → Nat → Nat) (P : va_W) (S : CS) (x1 : Int32)  (res : Int32) (hf : C_3_isSign S x1 = some res) : CC l dC dI E ev yX3_isSign cX3_isSign 2 (some .boolean) rc_3_isSign [.ref (ho 9), .int x1] (CW E ho ro S ++ P) (CW E ho ro S ++ P) (some (.int res)) := by
  refine CC_of (own := "LostLanes$Reader") (by decide) rfl (Nat.le_of_ble_eq_true rfl) ?_
  intro p e s m args below meth c A Q X Y hr hlk hA hQ
  refine g_lv [0, 1] (lv' := [(0, .ref (ho 9)), (1, .int x1)]) rfl ?_
  unfold C_3_isSign at hf
  refine g_aload_n X dX3_isSign_0 0 rfl ?_
  refine cg_3_4 X wd1_171 dX3_isSign_1 ?_
  refine g_iconst X dX3_isSign_4 kc_3 ?_
  refine g_icmp_ne (tgt := 24) X dX3_isSign_5 (by decide) hf (fun hf => ?_) (fun hf => ?_)
  · refine g_iconst X dX3_isSign_24 kc_0 ?_
    exact c_retz_o hA hQ X hr hlk (Or.inl rfl) dX3_isSign_25 hf
  refine g_aload_n X dX3_isSign_8 0 rfl ?_
  refine g_aload_n X dX3_isSign_9 0 rfl ?_
  refine cg_3_5 X wd1_172 dX3_isSign_10 ?_
  refine m_bind hf (fun y1 hy1 hf => ?_)
  refine cw_V_i (cix := 3) (As := [.int (ci S 9 5)]) (st := []) X Y kV_X3_166 (cc_3_byteAt l dC dI E ev ho ro P S (ci S 9 5) y1 hy1) ob_3 rfl ⟨Nat.le_of_ble_eq_true rfl, Nat.le_of_ble_eq_true rfl⟩ ⟨rfl, rfl⟩ (Nat.le_of_ble_eq_true rfl) ⟨Nat.le_of_ble_eq_true rfl, Nat.le_of_ble_eq_true rfl⟩ dX3_isSign_13 ?_
  refine g_iload_n X dX3_isSign_16 1 rfl ?_
  refine g_icmp_ne (tgt := 24) X dX3_isSign_17 (by decide) hf (fun hf => ?_) (fun hf => ?_)
  · refine g_iconst X dX3_isSign_24 kc_0 ?_
    exact c_retz_o hA hQ X hr hlk (Or.inl rfl) dX3_isSign_25 hf
  refine g_iconst X dX3_isSign_20 kc_1 ?_
  refine g_goto (tgt := 25) X dX3_isSign_21 (by decide) ?_
  exact c_retz_o hA hQ X hr hlk (Or.inr rfl) dX3_isSign_25 hf
def rc_3_closes : Room := { frames := 2, cells := 0, slots := 0, locals := 42 }
set_option maxRecDepth 100000 in
set_option maxHeartbeats 4000000 in
theorem cc_3_closes (l : Launch) (dC : Nat → ClassId) (dI : Nat → Nat → Nat) (E : Nat → ClassId) (ev : Nat → Nat) (ho : Nat → Nat) (ro : Nat → Nat → Nat) (F : Nat) (P : va_W) (S : CS) (x1 : Int32)  (res : Int32 × CS) (hf : C_3_closes F S x1 = some res) : CC l dC dI E ev yX3_closes cX3_closes 2 (some .boolean) rc_3_closes [.ref (ho 9), .int x1] (CW E ho ro S ++ P) (CW E ho ro res.2 ++ P) (some (.int res.1)) := by
  refine CC_of (own := "LostLanes$Reader") (by decide) rfl (Nat.le_of_ble_eq_true rfl) ?_
  intro p e s m args below meth c A Q X Y hr hlk hA hQ
  refine g_lv [0, 1] (lv' := [(0, .ref (ho 9)), (1, .int x1)]) rfl ?_
  unfold C_3_closes at hf
  refine g_aload_n X dX3_closes_0 0 rfl ?_
  refine g_iload_n X dX3_closes_1 1 rfl ?_
  refine m_bind hf (fun y1 hy1 hf => ?_)
  refine cw_V_i (cix := 3) (As := [.int x1]) (st := []) X Y kV_X3_62 (cc_3_isSign l dC dI E ev ho ro P S x1 y1 hy1) ob_3 rfl ⟨Nat.le_of_ble_eq_true rfl, Nat.le_of_ble_eq_true rfl⟩ ⟨rfl, rfl⟩ (Nat.le_of_ble_eq_true rfl) ⟨Nat.le_of_ble_eq_true rfl, Nat.le_of_ble_eq_true rfl⟩ dX3_closes_2 ?_
  refine g_if_ne (tgt := 13) X dX3_closes_5 (by decide) hf (fun hf => ?_) (fun hf => ?_)
  · refine g_aload_n X dX3_closes_13 0 rfl ?_
    refine g_dup X dX3_closes_14 rfl ?_
    refine cg_3_9 X wd1_176 dX3_closes_15 ?_
    refine g_iconst X dX3_closes_18 kc_1 ?_
    refine g_isub X dX3_closes_19 ?_
    refine cp_3_9 X wd1_176 dX3_closes_20 hf (fun S2 hf => ?_)
    refine g_aload_n X dX3_closes_23 0 rfl ?_
    refine m_bind hf (fun y3 hy3 hf => ?_)
    refine cw_V_v (cix := 3) (As := []) (st := []) X Y kV_X3_42 (cc_3_advance l dC dI E ev ho ro F P S2 y3 hy3) ob_3 rfl ⟨Nat.le_of_ble_eq_true rfl, Nat.le_of_ble_eq_true rfl⟩ ⟨rfl, rfl⟩ (Nat.le_of_ble_eq_true rfl) ⟨Nat.le_of_ble_eq_true rfl, Nat.le_of_ble_eq_true rfl⟩ dX3_closes_24 ?_
    refine g_iconst X dX3_closes_27 kc_1 ?_
    exact c_retz_s hA hQ X hr hlk (Or.inr rfl) dX3_closes_28 hf
  refine g_aload_n X dX3_closes_8 0 rfl ?_
  refine m_bind hf (fun y4 hy4 hf => ?_)
  refine cw_V_i (cix := 3) (As := []) (st := []) X Y kV_X3_66 (cc_3_fail l dC dI E ev ho ro P S y4 hy4) ob_3 rfl ⟨Nat.le_of_ble_eq_true rfl, Nat.le_of_ble_eq_true rfl⟩ ⟨rfl, rfl⟩ (Nat.le_of_ble_eq_true rfl) ⟨Nat.le_of_ble_eq_true rfl, Nat.le_of_ble_eq_true rfl⟩ dX3_closes_9 ?_
  obtain ⟨hz12, hf⟩ := chk_some hf
  exact c_retz_s hA hQ X hr hlk hz12 dX3_closes_12 hf
def rc_3_emit : Room := { frames := 0, cells := 0, slots := 0, locals := 0 }
set_option maxRecDepth 100000 in
set_option maxHeartbeats 4000000 in
theorem cc_3_emit (l : Launch) (dC : Nat → ClassId) (dI : Nat → Nat → Nat) (E : Nat → ClassId) (ev : Nat → Nat) (ho : Nat → Nat) (ro : Nat → Nat → Nat) (P : va_W) (S : CS) (x1 : Int32) (x2 : Int32)  (res : Int32 × CS) (hf : C_3_emit S x1 x2 = some res) : CC l dC dI E ev yX3_emit cX3_emit 4 (some .int) rc_3_emit [.ref (ho 9), .int x1, .int x2] (CW E ho ro S ++ P) (CW E ho ro res.2 ++ P) (some (.int res.1)) := by
  refine CC_of (own := "LostLanes$Reader") (by decide) rfl (Nat.le_of_ble_eq_true rfl) ?_
  intro p e s m args below meth c A Q X Y hr hlk hA hQ
  refine g_lv [0, 1, 2] (lv' := [(0, .ref (ho 9)), (1, .int x1), (2, .int x2)]) rfl ?_
  unfold C_3_emit at hf
  refine g_aload_n X dX3_emit_0 0 rfl ?_
  refine cg_3_2 X wd1_169 dX3_emit_1 ?_
  refine g_istore_n (i := 3) (lv' := [(3, .int (ci S 9 2)), (0, .ref (ho 9)), (1, .int x1), (2, .int x2)]) X dX3_emit_4 rfl (by decide) rfl ?_
  refine g_aload_n X dX3_emit_5 1 rfl ?_
  refine cg_3_2 X wd1_169 dX3_emit_6 ?_
  refine g_iconst X dX3_emit_9 kc_1 ?_
  refine g_iadd X dX3_emit_10 ?_
  refine g_aload_n X dX3_emit_11 1 rfl ?_
  refine cg_3_1 X wd1_168 dX3_emit_12 ?_
  refine ca_len_3_1 X kn_800 dX3_emit_15 ?_
  refine g_icmp_ge (tgt := 51) X dX3_emit_16 (by decide) hf (fun hf => ?_) (fun hf => ?_)
  · refine g_iload_n X dX3_emit_51 0 rfl ?_
    exact c_reti_s hA hQ X hr hlk dX3_emit_52 hf
  refine g_aload_n X dX3_emit_19 1 rfl ?_
  refine cg_3_1 X wd1_168 dX3_emit_20 ?_
  refine g_aload_n X dX3_emit_23 1 rfl ?_
  refine cg_3_2 X wd1_169 dX3_emit_24 ?_
  refine g_iload_n X dX3_emit_27 2 rfl ?_
  refine ca_st_3_1 X dX3_emit_28 hf (fun S1 hf => ?_)
  refine g_aload_n X dX3_emit_29 1 rfl ?_
  refine cg_3_1 X wd1_168 dX3_emit_30 ?_
  refine g_aload_n X dX3_emit_33 1 rfl ?_
  refine cg_3_2 X wd1_169 dX3_emit_34 ?_
  refine g_iconst X dX3_emit_37 kc_1 ?_
  refine g_iadd X dX3_emit_38 ?_
  refine g_iload_n X dX3_emit_39 3 rfl ?_
  refine ca_st_3_1 X dX3_emit_40 hf (fun S2 hf => ?_)
  refine g_aload_n X dX3_emit_41 1 rfl ?_
  refine g_dup X dX3_emit_42 rfl ?_
  refine cg_3_2 X wd1_169 dX3_emit_43 ?_
  refine g_iconst X dX3_emit_46 kc_2 ?_
  refine g_iadd X dX3_emit_47 ?_
  refine cp_3_2 X wd1_169 dX3_emit_48 hf (fun S3 hf => ?_)
  refine g_iload_n X dX3_emit_51 0 rfl ?_
  exact c_reti_s hA hQ X hr hlk dX3_emit_52 hf
def rc_3_isNumber : Room := { frames := 0, cells := 0, slots := 0, locals := 0 }
set_option maxRecDepth 100000 in
set_option maxHeartbeats 4000000 in
theorem cc_3_isNumber (l : Launch) (dC : Nat → ClassId) (dI : Nat → Nat → Nat) (E : Nat → ClassId) (ev : Nat → Nat) (ho : Nat → Nat) (ro : Nat → Nat → Nat) (P : va_W) (S : CS) (x1 : Int32) (x2 : Int32)  (res : Int32) (hf : C_3_isNumber S x1 x2 = some res) : CC l dC dI E ev yX3_isNumber cX3_isNumber 3 (some .boolean) rc_3_isNumber [.ref (ho 9), .int x1, .int x2] (CW E ho ro S ++ P) (CW E ho ro S ++ P) (some (.int res)) := by
  refine CC_of (own := "LostLanes$Reader") (by decide) rfl (Nat.le_of_ble_eq_true rfl) ?_
  intro p e s m args below meth c A Q X Y hr hlk hA hQ
  refine g_lv [0, 1, 2] (lv' := [(0, .ref (ho 9)), (1, .int x1), (2, .int x2)]) rfl ?_
  unfold C_3_isNumber at hf
  refine g_aload_n X dX3_isNumber_0 0 rfl ?_
  refine cg_3_4 X wd1_171 dX3_isNumber_1 ?_
  refine g_iconst X dX3_isNumber_4 kc_2 ?_
  refine g_icmp_ne (tgt := 28) X dX3_isNumber_5 (by decide) hf (fun hf => ?_) (fun hf => ?_)
  · refine g_iconst X dX3_isNumber_28 kc_0 ?_
    exact c_retz_o hA hQ X hr hlk (Or.inl rfl) dX3_isNumber_29 hf
  refine g_aload_n X dX3_isNumber_8 0 rfl ?_
  refine cg_3_7 X wd1_174 dX3_isNumber_9 ?_
  refine g_iload_n X dX3_isNumber_12 1 rfl ?_
  refine g_icmp_lt (tgt := 28) X dX3_isNumber_13 (by decide) hf (fun hf => ?_) (fun hf => ?_)
  · refine g_iconst X dX3_isNumber_28 kc_0 ?_
    exact c_retz_o hA hQ X hr hlk (Or.inl rfl) dX3_isNumber_29 hf
  refine g_aload_n X dX3_isNumber_16 0 rfl ?_
  refine cg_3_7 X wd1_174 dX3_isNumber_17 ?_
  refine g_iload_n X dX3_isNumber_20 2 rfl ?_
  refine g_icmp_gt (tgt := 28) X dX3_isNumber_21 (by decide) hf (fun hf => ?_) (fun hf => ?_)
  · refine g_iconst X dX3_isNumber_28 kc_0 ?_
    exact c_retz_o hA hQ X hr hlk (Or.inl rfl) dX3_isNumber_29 hf
  refine g_iconst X dX3_isNumber_24 kc_1 ?_
  refine g_goto (tgt := 29) X dX3_isNumber_25 (by decide) ?_
  exact c_retz_o hA hQ X hr hlk (Or.inr rfl) dX3_isNumber_29 hf
def rc_3_numberedWord : Room := { frames := 2, cells := 0, slots := 0, locals := 41 }
set_option maxRecDepth 100000 in
set_option maxHeartbeats 4000000 in
theorem cc_3_numberedWord (l : Launch) (dC : Nat → ClassId) (dI : Nat → Nat → Nat) (E : Nat → ClassId) (ev : Nat → Nat) (ho : Nat → Nat) (ro : Nat → Nat → Nat) (F : Nat) (P : va_W) (S : CS) (x1 : Int32)  (res : Int32 × CS) (hf : C_3_numberedWord F S x1 = some res) : CC l dC dI E ev yX3_numberedWord cX3_numberedWord 2 (some .boolean) rc_3_numberedWord [.ref (ho 9), .int x1] (CW E ho ro S ++ P) (CW E ho ro res.2 ++ P) (some (.int res.1)) := by
  refine CC_of (own := "LostLanes$Reader") (by decide) rfl (Nat.le_of_ble_eq_true rfl) ?_
  intro p e s m args below meth c A Q X Y hr hlk hA hQ
  have hB35 : ∀ (S : CS) (tx1 : Int32) (tx2 : Int32), C_3_numberedWord_B35 F S tx1 tx2 = some res → GG p l e rc_3_numberedWord s m args below meth c dC dI A 2 0 0 Q (CW E ho ro S ++ P) 35 [(0, .ref (ho 9))] [.int tx2, .int tx1, .ref (ho 9)] := by
    intro S tx1 tx2 hf
    unfold C_3_numberedWord_B35 at hf
    refine g_aload_n X dX3_numberedWord_35 0 rfl ?_
    refine cg_3_7 X wd1_174 dX3_numberedWord_36 ?_
    refine g_iadd X dX3_numberedWord_39 ?_
    refine m_bind hf (fun y1 hy1 hf => ?_)
    refine cw_V_i (cix := 3) (As := [.int tx1, .int (tx2 + (ci S 9 7))]) (st := []) X Y kV_X3_128 (cc_3_emit l dC dI E ev ho ro P S tx1 (tx2 + (ci S 9 7)) y1 hy1) ob_3 rfl ⟨Nat.le_of_ble_eq_true rfl, Nat.le_of_ble_eq_true rfl⟩ ⟨rfl, rfl⟩ (Nat.le_of_ble_eq_true rfl) ⟨Nat.le_of_ble_eq_true rfl, Nat.le_of_ble_eq_true rfl⟩ dX3_numberedWord_40 ?_
    refine g_pop X dX3_numberedWord_43 rfl ?_
    refine g_aload_n X dX3_numberedWord_44 0 rfl ?_
    refine m_bind hf (fun y2 hy2 hf => ?_)
    refine cw_V_v (cix := 3) (As := []) (st := []) X Y kV_X3_42 (cc_3_advance l dC dI E ev ho ro F P y1.2 y2 hy2) ob_3 rfl ⟨Nat.le_of_ble_eq_true rfl, Nat.le_of_ble_eq_true rfl⟩ ⟨rfl, rfl⟩ (Nat.le_of_ble_eq_true rfl) ⟨Nat.le_of_ble_eq_true rfl, Nat.le_of_ble_eq_true rfl⟩ dX3_numberedWord_45 ?_
    refine g_iconst X dX3_numberedWord_48 kc_1 ?_
    exact c_retz_s hA hQ X hr hlk (Or.inr rfl) dX3_numberedWord_49 hf
  have hB12 : ∀ (S : CS) (x1 : Int32) (tx1 : Int32) (tx2 : Int32), C_3_numberedWord_B12 F S x1 tx1 tx2 = some res → GG p l e rc_3_numberedWord s m args below meth c dC dI A 2 0 0 Q (CW E ho ro S ++ P) 12 [(0, .ref (ho 9)), (1, .int x1)] [.int tx2, .int tx1, .ref (ho 9)] := by
    intro S x1 tx1 tx2 hf
    unfold C_3_numberedWord_B12 at hf
    refine m_bind hf (fun y3 hy3 hf => ?_)
    refine cw_V_i (cix := 3) (As := [.int tx1, .int tx2]) (st := []) X Y kV_X3_100 (cc_3_isNumber l dC dI E ev ho ro P S tx1 tx2 y3 hy3) ob_3 rfl ⟨Nat.le_of_ble_eq_true rfl, Nat.le_of_ble_eq_true rfl⟩ ⟨rfl, rfl⟩ (Nat.le_of_ble_eq_true rfl) ⟨Nat.le_of_ble_eq_true rfl, Nat.le_of_ble_eq_true rfl⟩ dX3_numberedWord_12 ?_
    refine g_if_ne (tgt := 23) X dX3_numberedWord_15 (by decide) hf (fun hf => ?_) (fun hf => ?_)
    · refine g_aload_n X dX3_numberedWord_23 0 rfl ?_
      refine g_iconst X dX3_numberedWord_24 kc_1 ?_
      refine g_iload_n X dX3_numberedWord_25 1 rfl ?_
      refine g_if_eq (tgt := 33) X dX3_numberedWord_26 (by decide) hf (fun hf => ?_) (fun hf => ?_)
      · refine g_bipush X dX3_numberedWord_33 kb_9 ?_
        refine g_lv [0] (lv' := [(0, .ref (ho 9))]) rfl ?_
        exact hB35 _ _ _ hf
      refine g_iconst X dX3_numberedWord_29 kc_5 ?_
      refine g_goto (tgt := 35) X dX3_numberedWord_30 (by decide) ?_
      refine g_lv [0] (lv' := [(0, .ref (ho 9))]) rfl ?_
      exact hB35 _ _ _ hf
    refine g_aload_n X dX3_numberedWord_18 0 rfl ?_
    refine m_bind hf (fun y4 hy4 hf => ?_)
    refine cw_V_i (cix := 3) (As := []) (st := []) X Y kV_X3_66 (cc_3_fail l dC dI E ev ho ro P S y4 hy4) ob_3 rfl ⟨Nat.le_of_ble_eq_true rfl, Nat.le_of_ble_eq_true rfl⟩ ⟨rfl, rfl⟩ (Nat.le_of_ble_eq_true rfl) ⟨Nat.le_of_ble_eq_true rfl, Nat.le_of_ble_eq_true rfl⟩ dX3_numberedWord_19 ?_
    obtain ⟨hz22, hf⟩ := chk_some hf
    exact c_retz_s hA hQ X hr hlk hz22 dX3_numberedWord_22 hf
  refine g_lv [0, 1] (lv' := [(0, .ref (ho 9)), (1, .int x1)]) rfl ?_
  unfold C_3_numberedWord at hf
  refine g_aload_n X dX3_numberedWord_0 0 rfl ?_
  refine g_iconst X dX3_numberedWord_1 kc_0 ?_
  refine g_iload_n X dX3_numberedWord_2 1 rfl ?_
  refine g_if_eq (tgt := 10) X dX3_numberedWord_3 (by decide) hf (fun hf => ?_) (fun hf => ?_)
  · refine g_bipush X dX3_numberedWord_10 kb_9 ?_
    exact hB12 _ _ _ _ hf
  refine g_iconst X dX3_numberedWord_6 kc_3 ?_
  refine g_goto (tgt := 12) X dX3_numberedWord_7 (by decide) ?_
  exact hB12 _ _ _ _ hf
def rc_3_opens : Room := { frames := 2, cells := 0, slots := 0, locals := 41 }
set_option maxRecDepth 100000 in
set_option maxHeartbeats 4000000 in
theorem cc_3_opens (l : Launch) (dC : Nat → ClassId) (dI : Nat → Nat → Nat) (E : Nat → ClassId) (ev : Nat → Nat) (ho : Nat → Nat) (ro : Nat → Nat → Nat) (F : Nat) (P : va_W) (S : CS)   (res : Int32 × CS) (hf : C_3_opens F S = some res) : CC l dC dI E ev yX3_opens cX3_opens 1 (some .boolean) rc_3_opens [.ref (ho 9)] (CW E ho ro S ++ P) (CW E ho ro res.2 ++ P) (some (.int res.1)) := by
  refine CC_of (own := "LostLanes$Reader") (by decide) rfl (Nat.le_of_ble_eq_true rfl) ?_
  intro p e s m args below meth c A Q X Y hr hlk hA hQ
  refine g_lv [0] (lv' := [(0, .ref (ho 9))]) rfl ?_
  unfold C_3_opens at hf
  refine g_aload_n X dX3_opens_0 0 rfl ?_
  refine cg_3_9 X wd1_176 dX3_opens_1 ?_
  refine g_bipush X dX3_opens_4 kb_8 ?_
  refine g_icmp_lt (tgt := 14) X dX3_opens_6 (by decide) hf (fun hf => ?_) (fun hf => ?_)
  · refine g_aload_n X dX3_opens_14 0 rfl ?_
    refine g_dup X dX3_opens_15 rfl ?_
    refine cg_3_9 X wd1_176 dX3_opens_16 ?_
    refine g_iconst X dX3_opens_19 kc_1 ?_
    refine g_iadd X dX3_opens_20 ?_
    refine cp_3_9 X wd1_176 dX3_opens_21 hf (fun S1 hf => ?_)
    refine g_aload_n X dX3_opens_24 0 rfl ?_
    refine m_bind hf (fun y2 hy2 hf => ?_)
    refine cw_V_v (cix := 3) (As := []) (st := []) X Y kV_X3_42 (cc_3_advance l dC dI E ev ho ro F P S1 y2 hy2) ob_3 rfl ⟨Nat.le_of_ble_eq_true rfl, Nat.le_of_ble_eq_true rfl⟩ ⟨rfl, rfl⟩ (Nat.le_of_ble_eq_true rfl) ⟨Nat.le_of_ble_eq_true rfl, Nat.le_of_ble_eq_true rfl⟩ dX3_opens_25 ?_
    refine g_iconst X dX3_opens_28 kc_1 ?_
    exact c_retz_s hA hQ X hr hlk (Or.inr rfl) dX3_opens_29 hf
  refine g_aload_n X dX3_opens_9 0 rfl ?_
  refine m_bind hf (fun y3 hy3 hf => ?_)
  refine cw_V_i (cix := 3) (As := []) (st := []) X Y kV_X3_66 (cc_3_fail l dC dI E ev ho ro P S y3 hy3) ob_3 rfl ⟨Nat.le_of_ble_eq_true rfl, Nat.le_of_ble_eq_true rfl⟩ ⟨rfl, rfl⟩ (Nat.le_of_ble_eq_true rfl) ⟨Nat.le_of_ble_eq_true rfl, Nat.le_of_ble_eq_true rfl⟩ dX3_opens_10 ?_
  obtain ⟨hz13, hf⟩ := chk_some hf
  exact c_retz_s hA hQ X hr hlk hz13 dX3_opens_13 hf
def rc_3_part (f_sum g_sum : Nat) : Room := { frames := f_sum + 14, cells := 0, slots := 0, locals := g_sum + 320 }
set_option maxRecDepth 100000 in
set_option maxHeartbeats 4000000 in
theorem cc_3_part (l : Launch) (dC : Nat → ClassId) (dI : Nat → Nat → Nat) (E : Nat → ClassId) (ev : Nat → Nat) (ho : Nat → Nat) (ro : Nat → Nat → Nat) (F : Nat) (P : va_W) (S : CS) (f_sum g_sum : Nat) (rs_sum : CS → Option (Int32 × CS)) (hrs_sum : ∀ (S : CS) (res : Int32 × CS), rs_sum S = some res → CC l dC dI E ev yX3_sum cX3_sum 3 (some .boolean) { frames := f_sum, cells := 0, slots := 0, locals := g_sum } [.ref (ho 9)] (CW E ho ro S ++ P) (CW E ho ro res.2 ++ P) (some (.int res.1)))   (res : Int32 × CS) (hf : C_3_part rs_sum F S = some res) : CC l dC dI E ev yX3_part cX3_part 2 (some .boolean) (rc_3_part f_sum g_sum) [.ref (ho 9)] (CW E ho ro S ++ P) (CW E ho ro res.2 ++ P) (some (.int res.1)) := by
  refine CC_of (own := "LostLanes$Reader") (by decide) rfl (Nat.le_of_ble_eq_true rfl) ?_
  intro p e s m args below meth c A Q X Y hr hlk hA hQ
  have hB162 : ∀ (S : CS) (x1 : Int32), C_3_part_B162 rs_sum F S x1 = some res → GG p l e (rc_3_part f_sum g_sum) s m args below meth c dC dI A 2 0 0 Q (CW E ho ro S ++ P) 162 [(0, .ref (ho 9)), (1, .int x1)] [] := by
    intro S x1 hf
    unfold C_3_part_B162 at hf
    refine g_aload_n X dX3_part_162 0 rfl ?_
    refine g_iconst X dX3_part_163 kc_1 ?_
    refine g_iload_n X dX3_part_164 1 rfl ?_
    refine m_bind hf (fun y1 hy1 hf => ?_)
    refine cw_V_i (cix := 3) (As := [.int (1 : Int32), .int x1]) (st := []) X Y kV_X3_128 (cc_3_emit l dC dI E ev ho ro P S (1 : Int32) x1 y1 hy1) ob_3 rfl ⟨by dsimp only [rc_3_part, rc_3_emit]; omega, by dsimp only [rc_3_part, rc_3_emit]; omega⟩ ⟨rfl, rfl⟩ (Nat.le_of_ble_eq_true rfl) ⟨Nat.le_of_ble_eq_true rfl, Nat.le_of_ble_eq_true rfl⟩ dX3_part_165 ?_
    refine g_pop X dX3_part_168 rfl ?_
    refine g_iconst X dX3_part_169 kc_1 ?_
    exact c_retz_s hA hQ X hr hlk (Or.inr rfl) dX3_part_170 hf
  have hB158 : ∀ (S : CS) (tx1 : Int32), C_3_part_B158 rs_sum F S tx1 = some res → GG p l e (rc_3_part f_sum g_sum) s m args below meth c dC dI A 2 0 0 Q (CW E ho ro S ++ P) 158 [] [.int tx1, .ref (ho 9)] := by
    intro S tx1 hf
    unfold C_3_part_B158 at hf
    refine m_bind hf (fun y2 hy2 hf => ?_)
    refine cw_V_i (cix := 3) (As := [.int tx1]) (st := []) X Y kV_X3_159 (cc_3_numberedWord l dC dI E ev ho ro F P S tx1 y2 hy2) ob_3 rfl ⟨by dsimp only [rc_3_part, rc_3_numberedWord]; omega, by dsimp only [rc_3_part, rc_3_numberedWord]; omega⟩ ⟨rfl, rfl⟩ (Nat.le_of_ble_eq_true rfl) ⟨Nat.le_of_ble_eq_true rfl, Nat.le_of_ble_eq_true rfl⟩ dX3_part_158 ?_
    obtain ⟨hz161, hf⟩ := chk_some hf
    exact c_retz_s hA hQ X hr hlk hz161 dX3_part_161 hf
  have hB117 : ∀ (S : CS) (ti1 : Nat), C_3_part_B117 rs_sum F S ti1 = some res → GG p l e (rc_3_part f_sum g_sum) s m args below meth c dC dI A 2 0 0 Q (CW E ho ro S ++ P) 117 [(0, .ref (ho 9))] [.ref (ev (2 * ti1 + 2)), .ref (ho 9)] := by
    intro S ti1 hf
    unfold C_3_part_B117 at hf
    obtain ⟨hzs117, hf⟩ := chk_some hf
    refine m_bind hf (fun y3 hy3 hf => ?_)
    refine cw_V_i (cix := 3) (As := [.ref (ev (2 * ti1 + 2))]) (st := []) X Y kV_X3_74 (cc_3_choice l dC dI E ev ho ro F P S ti1 hzs117 y3 hy3) ob_3 rfl ⟨by dsimp only [rc_3_part, rc_3_choice]; omega, by dsimp only [rc_3_part, rc_3_choice]; omega⟩ ⟨rfl, rfl⟩ (Nat.le_of_ble_eq_true rfl) ⟨Nat.le_of_ble_eq_true rfl, Nat.le_of_ble_eq_true rfl⟩ dX3_part_117 ?_
    refine g_istore_n (i := 1) (lv' := [(1, .int y3), (0, .ref (ho 9))]) X dX3_part_120 rfl (by decide) rfl ?_
    refine g_iload_n X dX3_part_121 0 rfl ?_
    refine g_iconst X dX3_part_122 kc_m1 ?_
    refine g_icmp_ne (tgt := 131) X dX3_part_123 (by decide) hf (fun hf => ?_) (fun hf => ?_)
    · refine g_aload_n X dX3_part_131 1 rfl ?_
      refine m_bind hf (fun y4 hy4 hf => ?_)
      refine cw_V_v (cix := 3) (As := []) (st := []) X Y kV_X3_42 (cc_3_advance l dC dI E ev ho ro F P S y4 hy4) ob_3 rfl ⟨by dsimp only [rc_3_part, rc_3_advance]; omega, by dsimp only [rc_3_part, rc_3_advance]; omega⟩ ⟨rfl, rfl⟩ (Nat.le_of_ble_eq_true rfl) ⟨Nat.le_of_ble_eq_true rfl, Nat.le_of_ble_eq_true rfl⟩ dX3_part_132 ?_
      refine g_aload_n X dX3_part_135 1 rfl ?_
      refine cg_3_3 X wd1_170 dX3_part_136 ?_
      refine g_if_ne (tgt := 162) X dX3_part_139 (by decide) hf (fun hf => ?_) (fun hf => ?_)
      · refine g_lv [1, 0] (lv' := [(0, .ref (ho 9)), (1, .int y3)]) rfl ?_
        exact hB162 _ _ hf
      refine g_iload_n X dX3_part_142 0 rfl ?_
      refine g_iconst X dX3_part_143 kc_5 ?_
      refine g_icmp_lt (tgt := 162) X dX3_part_144 (by decide) hf (fun hf => ?_) (fun hf => ?_)
      · refine g_lv [1, 0] (lv' := [(0, .ref (ho 9)), (1, .int y3)]) rfl ?_
        exact hB162 _ _ hf
      refine g_aload_n X dX3_part_147 1 rfl ?_
      refine g_iload_n X dX3_part_148 0 rfl ?_
      refine g_iconst X dX3_part_149 kc_5 ?_
      refine g_icmp_ne (tgt := 157) X dX3_part_150 (by decide) hf (fun hf => ?_) (fun hf => ?_)
      · refine g_iconst X dX3_part_157 kc_0 ?_
        refine g_lv [] (lv' := []) rfl ?_
        exact hB158 _ _ hf
      refine g_iconst X dX3_part_153 kc_1 ?_
      refine g_goto (tgt := 158) X dX3_part_154 (by decide) ?_
      refine g_lv [] (lv' := []) rfl ?_
      exact hB158 _ _ hf
    refine g_aload_n X dX3_part_126 1 rfl ?_
    refine m_bind hf (fun y5 hy5 hf => ?_)
    refine cw_V_i (cix := 3) (As := []) (st := []) X Y kV_X3_66 (cc_3_fail l dC dI E ev ho ro P S y5 hy5) ob_3 rfl ⟨by dsimp only [rc_3_part, rc_3_fail]; omega, by dsimp only [rc_3_part, rc_3_fail]; omega⟩ ⟨rfl, rfl⟩ (Nat.le_of_ble_eq_true rfl) ⟨Nat.le_of_ble_eq_true rfl, Nat.le_of_ble_eq_true rfl⟩ dX3_part_127 ?_
    obtain ⟨hz130, hf⟩ := chk_some hf
    exact c_retz_s hA hQ X hr hlk hz130 dX3_part_130 hf
  refine g_lv [0] (lv' := [(0, .ref (ho 9))]) rfl ?_
  unfold C_3_part at hf
  refine g_aload_n X dX3_part_0 0 rfl ?_
  refine g_bipush X dX3_part_1 kb_91 ?_
  refine m_bind hf (fun y6 hy6 hf => ?_)
  refine cw_V_i (cix := 3) (As := [.int (91 : Int32)]) (st := []) X Y kV_X3_62 (cc_3_isSign l dC dI E ev ho ro P S (91 : Int32) y6 hy6) ob_3 rfl ⟨by dsimp only [rc_3_part, rc_3_isSign]; omega, by dsimp only [rc_3_part, rc_3_isSign]; omega⟩ ⟨rfl, rfl⟩ (Nat.le_of_ble_eq_true rfl) ⟨Nat.le_of_ble_eq_true rfl, Nat.le_of_ble_eq_true rfl⟩ dX3_part_3 ?_
  refine g_if_eq (tgt := 38) X dX3_part_6 (by decide) hf (fun hf => ?_) (fun hf => ?_)
  · refine g_aload_n X dX3_part_38 0 rfl ?_
    refine cg_3_8 X wd1_175 dX3_part_39 ?_
    refine g_bipush X dX3_part_42 kb_50 ?_
    refine g_icmp_lt (tgt := 52) X dX3_part_44 (by decide) hf (fun hf => ?_) (fun hf => ?_)
    · refine g_aload_n X dX3_part_52 0 rfl ?_
      refine g_dup X dX3_part_53 rfl ?_
      refine cg_3_8 X wd1_175 dX3_part_54 ?_
      refine g_iconst X dX3_part_57 kc_1 ?_
      refine g_iadd X dX3_part_58 ?_
      refine cp_3_8 X wd1_175 dX3_part_59 hf (fun S7 hf => ?_)
      refine g_aload_n X dX3_part_62 0 rfl ?_
      refine cg_3_4 X wd1_171 dX3_part_63 ?_
      refine g_iconst X dX3_part_66 kc_2 ?_
      refine g_icmp_ne (tgt := 102) X dX3_part_67 (by decide) hf (fun hf => ?_) (fun hf => ?_)
      · refine g_aload_n X dX3_part_102 0 rfl ?_
        refine g_aload_n X dX3_part_103 0 rfl ?_
        refine cg_3_3 X wd1_170 dX3_part_104 ?_
        refine g_if_eq (tgt := 115) X dX3_part_107 (by decide) hf (fun hf => ?_) (fun hf => ?_)
        · refine s_str (i := 3) X Y rfl dX3_part_115 ?_
          exact hB117 _ _ hf
        refine s_str (i := 2) X Y rfl dX3_part_110 ?_
        refine g_goto (tgt := 117) X dX3_part_112 (by decide) ?_
        exact hB117 _ _ hf
      refine g_aload_n X dX3_part_70 0 rfl ?_
      refine g_iconst X dX3_part_71 kc_0 ?_
      refine g_sipush X dX3_part_72 ks_1000 ?_
      refine m_bind hf (fun y8 hy8 hf => ?_)
      refine cw_V_i (cix := 3) (As := [.int (0 : Int32), .int (1000 : Int32)]) (st := []) X Y kV_X3_100 (cc_3_isNumber l dC dI E ev ho ro P S7 (0 : Int32) (1000 : Int32) y8 hy8) ob_3 rfl ⟨by dsimp only [rc_3_part, rc_3_isNumber]; omega, by dsimp only [rc_3_part, rc_3_isNumber]; omega⟩ ⟨rfl, rfl⟩ (Nat.le_of_ble_eq_true rfl) ⟨Nat.le_of_ble_eq_true rfl, Nat.le_of_ble_eq_true rfl⟩ dX3_part_75 ?_
      refine g_if_ne (tgt := 86) X dX3_part_78 (by decide) hf (fun hf => ?_) (fun hf => ?_)
      · refine g_aload_n X dX3_part_86 0 rfl ?_
        refine g_iconst X dX3_part_87 kc_0 ?_
        refine g_aload_n X dX3_part_88 0 rfl ?_
        refine cg_3_7 X wd1_174 dX3_part_89 ?_
        refine m_bind hf (fun y9 hy9 hf => ?_)
        refine cw_V_i (cix := 3) (As := [.int (0 : Int32), .int (ci S7 9 7)]) (st := []) X Y kV_X3_128 (cc_3_emit l dC dI E ev ho ro P S7 (0 : Int32) (ci S7 9 7) y9 hy9) ob_3 rfl ⟨by dsimp only [rc_3_part, rc_3_emit]; omega, by dsimp only [rc_3_part, rc_3_emit]; omega⟩ ⟨rfl, rfl⟩ (Nat.le_of_ble_eq_true rfl) ⟨Nat.le_of_ble_eq_true rfl, Nat.le_of_ble_eq_true rfl⟩ dX3_part_92 ?_
        refine g_pop X dX3_part_95 rfl ?_
        refine g_aload_n X dX3_part_96 0 rfl ?_
        refine m_bind hf (fun y10 hy10 hf => ?_)
        refine cw_V_v (cix := 3) (As := []) (st := []) X Y kV_X3_42 (cc_3_advance l dC dI E ev ho ro F P y9.2 y10 hy10) ob_3 rfl ⟨by dsimp only [rc_3_part, rc_3_advance]; omega, by dsimp only [rc_3_part, rc_3_advance]; omega⟩ ⟨rfl, rfl⟩ (Nat.le_of_ble_eq_true rfl) ⟨Nat.le_of_ble_eq_true rfl, Nat.le_of_ble_eq_true rfl⟩ dX3_part_97 ?_
        refine g_iconst X dX3_part_100 kc_1 ?_
        exact c_retz_s hA hQ X hr hlk (Or.inr rfl) dX3_part_101 hf
      refine g_aload_n X dX3_part_81 0 rfl ?_
      refine m_bind hf (fun y11 hy11 hf => ?_)
      refine cw_V_i (cix := 3) (As := []) (st := []) X Y kV_X3_66 (cc_3_fail l dC dI E ev ho ro P S7 y11 hy11) ob_3 rfl ⟨by dsimp only [rc_3_part, rc_3_fail]; omega, by dsimp only [rc_3_part, rc_3_fail]; omega⟩ ⟨rfl, rfl⟩ (Nat.le_of_ble_eq_true rfl) ⟨Nat.le_of_ble_eq_true rfl, Nat.le_of_ble_eq_true rfl⟩ dX3_part_82 ?_
      obtain ⟨hz85, hf⟩ := chk_some hf
      exact c_retz_s hA hQ X hr hlk hz85 dX3_part_85 hf
    refine g_aload_n X dX3_part_47 0 rfl ?_
    refine m_bind hf (fun y12 hy12 hf => ?_)
    refine cw_V_i (cix := 3) (As := []) (st := []) X Y kV_X3_66 (cc_3_fail l dC dI E ev ho ro P S y12 hy12) ob_3 rfl ⟨by dsimp only [rc_3_part, rc_3_fail]; omega, by dsimp only [rc_3_part, rc_3_fail]; omega⟩ ⟨rfl, rfl⟩ (Nat.le_of_ble_eq_true rfl) ⟨Nat.le_of_ble_eq_true rfl, Nat.le_of_ble_eq_true rfl⟩ dX3_part_48 ?_
    obtain ⟨hz51, hf⟩ := chk_some hf
    exact c_retz_s hA hQ X hr hlk hz51 dX3_part_51 hf
  refine g_aload_n X dX3_part_9 0 rfl ?_
  refine m_bind hf (fun y13 hy13 hf => ?_)
  refine cw_V_i (cix := 3) (As := []) (st := []) X Y kV_X3_143 (cc_3_opens l dC dI E ev ho ro F P S y13 hy13) ob_3 rfl ⟨by dsimp only [rc_3_part, rc_3_opens]; omega, by dsimp only [rc_3_part, rc_3_opens]; omega⟩ ⟨rfl, rfl⟩ (Nat.le_of_ble_eq_true rfl) ⟨Nat.le_of_ble_eq_true rfl, Nat.le_of_ble_eq_true rfl⟩ dX3_part_10 ?_
  refine g_if_eq (tgt := 36) X dX3_part_13 (by decide) hf (fun hf => ?_) (fun hf => ?_)
  · refine g_iconst X dX3_part_36 kc_0 ?_
    exact c_retz_s hA hQ X hr hlk (Or.inl rfl) dX3_part_37 hf
  refine g_aload_n X dX3_part_16 0 rfl ?_
  refine m_bind hf (fun y14 hy14 hf => ?_)
  refine cw_V_i (cix := 3) (As := []) (st := []) X Y kV_X3_83 (hrs_sum y13.2 y14 hy14) ob_3 rfl ⟨by dsimp only [rc_3_part]; omega, by dsimp only [rc_3_part]; omega⟩ ⟨rfl, rfl⟩ (Nat.le_of_ble_eq_true rfl) ⟨Nat.le_of_ble_eq_true rfl, Nat.le_of_ble_eq_true rfl⟩ dX3_part_17 ?_
  refine g_if_eq (tgt := 36) X dX3_part_20 (by decide) hf (fun hf => ?_) (fun hf => ?_)
  · refine g_iconst X dX3_part_36 kc_0 ?_
    exact c_retz_s hA hQ X hr hlk (Or.inl rfl) dX3_part_37 hf
  refine g_aload_n X dX3_part_23 0 rfl ?_
  refine g_bipush X dX3_part_24 kb_93 ?_
  refine m_bind hf (fun y15 hy15 hf => ?_)
  refine cw_V_i (cix := 3) (As := [.int (93 : Int32)]) (st := []) X Y kV_X3_146 (cc_3_closes l dC dI E ev ho ro F P y14.2 (93 : Int32) y15 hy15) ob_3 rfl ⟨by dsimp only [rc_3_part, rc_3_closes]; omega, by dsimp only [rc_3_part, rc_3_closes]; omega⟩ ⟨rfl, rfl⟩ (Nat.le_of_ble_eq_true rfl) ⟨Nat.le_of_ble_eq_true rfl, Nat.le_of_ble_eq_true rfl⟩ dX3_part_26 ?_
  refine g_if_eq (tgt := 36) X dX3_part_29 (by decide) hf (fun hf => ?_) (fun hf => ?_)
  · refine g_iconst X dX3_part_36 kc_0 ?_
    exact c_retz_s hA hQ X hr hlk (Or.inl rfl) dX3_part_37 hf
  refine g_iconst X dX3_part_32 kc_1 ?_
  refine g_goto (tgt := 37) X dX3_part_33 (by decide) ?_
  exact c_retz_s hA hQ X hr hlk (Or.inr rfl) dX3_part_37 hf
def rc_3_term (f_part g_part : Nat) : Room := { frames := f_part + 14, cells := 0, slots := 0, locals := g_part + 320 }
set_option maxRecDepth 100000 in
set_option maxHeartbeats 4000000 in
theorem cc_3_term (l : Launch) (dC : Nat → ClassId) (dI : Nat → Nat → Nat) (E : Nat → ClassId) (ev : Nat → Nat) (ho : Nat → Nat) (ro : Nat → Nat → Nat) (F : Nat) (P : va_W) (S : CS) (f_part g_part : Nat) (rs_part : CS → Option (Int32 × CS)) (hrs_part : ∀ (S : CS) (res : Int32 × CS), rs_part S = some res → CC l dC dI E ev yX3_part cX3_part 2 (some .boolean) { frames := f_part, cells := 0, slots := 0, locals := g_part } [.ref (ho 9)] (CW E ho ro S ++ P) (CW E ho ro res.2 ++ P) (some (.int res.1)))   (res : Int32 × CS) (hf : C_3_term rs_part F S = some res) : CC l dC dI E ev yX3_term cX3_term 3 (some .boolean) (rc_3_term f_part g_part) [.ref (ho 9)] (CW E ho ro S ++ P) (CW E ho ro res.2 ++ P) (some (.int res.1)) := by
  refine CC_of (own := "LostLanes$Reader") (by decide) rfl (Nat.le_of_ble_eq_true rfl) ?_
  intro p e s m args below meth c A Q X Y hr hlk hA hQ
  have hB73 : ∀ (k11 : CS → Int32 → Option (Int32 × CS)) (hk11 : ∀ (S : CS) (x1 : Int32), k11 S x1 = some res → GG p l e (rc_3_term f_part g_part) s m args below meth c dC dI A 3 0 0 Q (CW E ho ro S ++ P) 11 [(0, .ref (ho 9)), (1, .int x1)] []) (S : CS) (x1 : Int32) (tx0 : Int32), C_3_term_B73 rs_part F k11 S x1 tx0 = some res → GG p l e (rc_3_term f_part g_part) s m args below meth c dC dI A 3 0 0 Q (CW E ho ro S ++ P) 73 [(0, .ref (ho 9)), (1, .int x1)] [.int tx0] := by
    intro k11 hk11 S x1 tx0 hf
    unfold C_3_term_B73 at hf
    refine g_istore_n (i := 2) (lv' := [(2, .int tx0), (0, .ref (ho 9)), (1, .int x1)]) X dX3_term_73 rfl (by decide) rfl ?_
    refine g_aload_n X dX3_term_74 1 rfl ?_
    refine m_bind hf (fun y1 hy1 hf => ?_)
    refine cw_V_v (cix := 3) (As := []) (st := []) X Y kV_X3_42 (cc_3_advance l dC dI E ev ho ro F P S y1 hy1) ob_3 rfl ⟨by dsimp only [rc_3_term, rc_3_advance]; omega, by dsimp only [rc_3_term, rc_3_advance]; omega⟩ ⟨rfl, rfl⟩ (Nat.le_of_ble_eq_true rfl) ⟨Nat.le_of_ble_eq_true rfl, Nat.le_of_ble_eq_true rfl⟩ dX3_term_75 ?_
    refine g_aload_n X dX3_term_78 1 rfl ?_
    refine m_bind hf (fun y2 hy2 hf => ?_)
    refine cw_V_i (cix := 3) (As := []) (st := []) X Y kV_X3_152 (hrs_part y1.2 y2 hy2) ob_3 rfl ⟨by dsimp only [rc_3_term]; omega, by dsimp only [rc_3_term]; omega⟩ ⟨rfl, rfl⟩ (Nat.le_of_ble_eq_true rfl) ⟨Nat.le_of_ble_eq_true rfl, Nat.le_of_ble_eq_true rfl⟩ dX3_term_79 ?_
    refine g_if_ne (tgt := 87) X dX3_term_82 (by decide) hf (fun hf => ?_) (fun hf => ?_)
    · refine g_aload_n X dX3_term_87 1 rfl ?_
      refine g_iload_n X dX3_term_88 0 rfl ?_
      refine g_iconst X dX3_term_89 kc_0 ?_
      refine m_bind hf (fun y3 hy3 hf => ?_)
      refine cw_V_i (cix := 3) (As := [.int tx0, .int (0 : Int32)]) (st := []) X Y kV_X3_128 (cc_3_emit l dC dI E ev ho ro P y2.2 tx0 (0 : Int32) y3 hy3) ob_3 rfl ⟨by dsimp only [rc_3_term, rc_3_emit]; omega, by dsimp only [rc_3_term, rc_3_emit]; omega⟩ ⟨rfl, rfl⟩ (Nat.le_of_ble_eq_true rfl) ⟨Nat.le_of_ble_eq_true rfl, Nat.le_of_ble_eq_true rfl⟩ dX3_term_90 ?_
      refine g_pop X dX3_term_93 rfl ?_
      refine g_iinc (lv' := [(1, .int (x1 + (1 : Int32))), (2, .int tx0), (0, .ref (ho 9))]) X dX3_term_94 2 rfl kc_1 (by decide) rfl ?_
      refine g_goto (tgt := 11) X dX3_term_97 (by decide) ?_
      refine g_lv [2, 0] (lv' := [(0, .ref (ho 9)), (1, .int (x1 + (1 : Int32)))]) rfl ?_
      exact hk11 _ _ hf
    refine g_iconst X dX3_term_85 kc_0 ?_
    exact c_retz_s hA hQ X hr hlk (Or.inl rfl) dX3_term_86 hf
  have hB45 : ∀ (k11 : CS → Int32 → Option (Int32 × CS)) (hk11 : ∀ (S : CS) (x1 : Int32), k11 S x1 = some res → GG p l e (rc_3_term f_part g_part) s m args below meth c dC dI A 3 0 0 Q (CW E ho ro S ++ P) 11 [(0, .ref (ho 9)), (1, .int x1)] []) (S : CS) (x1 : Int32), C_3_term_B45 rs_part F k11 S x1 = some res → GG p l e (rc_3_term f_part g_part) s m args below meth c dC dI A 3 0 0 Q (CW E ho ro S ++ P) 45 [(0, .ref (ho 9)), (1, .int x1)] [] := by
    intro k11 hk11 S x1 hf
    unfold C_3_term_B45 at hf
    refine g_aload_n X dX3_term_45 0 rfl ?_
    refine g_bipush X dX3_term_46 kb_42 ?_
    refine m_bind hf (fun y4 hy4 hf => ?_)
    refine cw_V_i (cix := 3) (As := [.int (42 : Int32)]) (st := []) X Y kV_X3_62 (cc_3_isSign l dC dI E ev ho ro P S (42 : Int32) y4 hy4) ob_3 rfl ⟨by dsimp only [rc_3_term, rc_3_isSign]; omega, by dsimp only [rc_3_term, rc_3_isSign]; omega⟩ ⟨rfl, rfl⟩ (Nat.le_of_ble_eq_true rfl) ⟨Nat.le_of_ble_eq_true rfl, Nat.le_of_ble_eq_true rfl⟩ dX3_term_48 ?_
    refine g_if_eq (tgt := 58) X dX3_term_51 (by decide) hf (fun hf => ?_) (fun hf => ?_)
    · refine g_aload_n X dX3_term_58 0 rfl ?_
      refine g_bipush X dX3_term_59 kb_47 ?_
      refine m_bind hf (fun y5 hy5 hf => ?_)
      refine cw_V_i (cix := 3) (As := [.int (47 : Int32)]) (st := []) X Y kV_X3_62 (cc_3_isSign l dC dI E ev ho ro P S (47 : Int32) y5 hy5) ob_3 rfl ⟨by dsimp only [rc_3_term, rc_3_isSign]; omega, by dsimp only [rc_3_term, rc_3_isSign]; omega⟩ ⟨rfl, rfl⟩ (Nat.le_of_ble_eq_true rfl) ⟨Nat.le_of_ble_eq_true rfl, Nat.le_of_ble_eq_true rfl⟩ dX3_term_61 ?_
      refine g_if_eq (tgt := 71) X dX3_term_64 (by decide) hf (fun hf => ?_) (fun hf => ?_)
      · refine g_bipush X dX3_term_71 kb_6 ?_
        exact hB73 _ hk11 _ _ _ hf
      refine g_iconst X dX3_term_67 kc_5 ?_
      refine g_goto (tgt := 73) X dX3_term_68 (by decide) ?_
      exact hB73 _ hk11 _ _ _ hf
    refine g_iconst X dX3_term_54 kc_4 ?_
    refine g_goto (tgt := 73) X dX3_term_55 (by decide) ?_
    exact hB73 _ hk11 _ _ _ hf
  have hL11 : ∀  (n : Nat) (S : CS) (x1 : Int32), C_3_term_L11 rs_part F n S x1 = some res → GG p l e (rc_3_term f_part g_part) s m args below meth c dC dI A 3 0 0 Q (CW E ho ro S ++ P) 11 [(0, .ref (ho 9)), (1, .int x1)] [] := by
    intro  n
    induction n with
    | zero => intro S x1 hf; have hf : (none : Option (Int32 × CS)) = some res := hf; cases hf
    | succ n ih =>
      intro S x1 hf
      rw [C_3_term_L11] at hf
      refine g_iload_n X dX3_term_11 1 rfl ?_
      refine g_sipush X dX3_term_12 ks_400 ?_
      refine g_icmp_ge (tgt := 100) X dX3_term_15 (by decide) hf (fun hf => ?_) (fun hf => ?_)
      · refine g_iconst X dX3_term_100 kc_1 ?_
        exact c_retz_s hA hQ X hr hlk (Or.inr rfl) dX3_term_101 hf
      refine g_aload_n X dX3_term_18 0 rfl ?_
      refine g_bipush X dX3_term_19 kb_42 ?_
      refine m_bind hf (fun y6 hy6 hf => ?_)
      refine cw_V_i (cix := 3) (As := [.int (42 : Int32)]) (st := []) X Y kV_X3_62 (cc_3_isSign l dC dI E ev ho ro P S (42 : Int32) y6 hy6) ob_3 rfl ⟨by dsimp only [rc_3_term, rc_3_isSign]; omega, by dsimp only [rc_3_term, rc_3_isSign]; omega⟩ ⟨rfl, rfl⟩ (Nat.le_of_ble_eq_true rfl) ⟨Nat.le_of_ble_eq_true rfl, Nat.le_of_ble_eq_true rfl⟩ dX3_term_21 ?_
      refine g_if_ne (tgt := 45) X dX3_term_24 (by decide) hf (fun hf => ?_) (fun hf => ?_)
      · exact hB45 _ ih _ _ hf
      refine g_aload_n X dX3_term_27 0 rfl ?_
      refine g_bipush X dX3_term_28 kb_47 ?_
      refine m_bind hf (fun y7 hy7 hf => ?_)
      refine cw_V_i (cix := 3) (As := [.int (47 : Int32)]) (st := []) X Y kV_X3_62 (cc_3_isSign l dC dI E ev ho ro P S (47 : Int32) y7 hy7) ob_3 rfl ⟨by dsimp only [rc_3_term, rc_3_isSign]; omega, by dsimp only [rc_3_term, rc_3_isSign]; omega⟩ ⟨rfl, rfl⟩ (Nat.le_of_ble_eq_true rfl) ⟨Nat.le_of_ble_eq_true rfl, Nat.le_of_ble_eq_true rfl⟩ dX3_term_30 ?_
      refine g_if_ne (tgt := 45) X dX3_term_33 (by decide) hf (fun hf => ?_) (fun hf => ?_)
      · exact hB45 _ ih _ _ hf
      refine g_aload_n X dX3_term_36 0 rfl ?_
      refine g_bipush X dX3_term_37 kb_37 ?_
      refine m_bind hf (fun y8 hy8 hf => ?_)
      refine cw_V_i (cix := 3) (As := [.int (37 : Int32)]) (st := []) X Y kV_X3_62 (cc_3_isSign l dC dI E ev ho ro P S (37 : Int32) y8 hy8) ob_3 rfl ⟨by dsimp only [rc_3_term, rc_3_isSign]; omega, by dsimp only [rc_3_term, rc_3_isSign]; omega⟩ ⟨rfl, rfl⟩ (Nat.le_of_ble_eq_true rfl) ⟨Nat.le_of_ble_eq_true rfl, Nat.le_of_ble_eq_true rfl⟩ dX3_term_39 ?_
      refine g_if_eq (tgt := 100) X dX3_term_42 (by decide) hf (fun hf => ?_) (fun hf => ?_)
      · refine g_iconst X dX3_term_100 kc_1 ?_
        exact c_retz_s hA hQ X hr hlk (Or.inr rfl) dX3_term_101 hf
      exact hB45 _ ih _ _ hf
  refine g_lv [0] (lv' := [(0, .ref (ho 9))]) rfl ?_
  unfold C_3_term at hf
  refine g_aload_n X dX3_term_0 0 rfl ?_
  refine m_bind hf (fun y9 hy9 hf => ?_)
  refine cw_V_i (cix := 3) (As := []) (st := []) X Y kV_X3_152 (hrs_part S y9 hy9) ob_3 rfl ⟨by dsimp only [rc_3_term]; omega, by dsimp only [rc_3_term]; omega⟩ ⟨rfl, rfl⟩ (Nat.le_of_ble_eq_true rfl) ⟨Nat.le_of_ble_eq_true rfl, Nat.le_of_ble_eq_true rfl⟩ dX3_term_1 ?_
  refine g_if_ne (tgt := 9) X dX3_term_4 (by decide) hf (fun hf => ?_) (fun hf => ?_)
  · refine g_iconst X dX3_term_9 kc_0 ?_
    refine g_istore_n (i := 1) (lv' := [(1, .int (0 : Int32)), (0, .ref (ho 9))]) X dX3_term_10 rfl (by decide) rfl ?_
    refine g_lv [1, 0] (lv' := [(0, .ref (ho 9)), (1, .int (0 : Int32))]) rfl ?_
    exact hL11 _ _ _ hf
  refine g_iconst X dX3_term_7 kc_0 ?_
  exact c_retz_s hA hQ X hr hlk (Or.inl rfl) dX3_term_8 hf
def rc_3_sum (f_term g_term : Nat) : Room := { frames := f_term + 14, cells := 0, slots := 0, locals := g_term + 320 }
set_option maxRecDepth 100000 in
set_option maxHeartbeats 4000000 in
theorem cc_3_sum (l : Launch) (dC : Nat → ClassId) (dI : Nat → Nat → Nat) (E : Nat → ClassId) (ev : Nat → Nat) (ho : Nat → Nat) (ro : Nat → Nat → Nat) (F : Nat) (P : va_W) (S : CS) (f_term g_term : Nat) (rs_term : CS → Option (Int32 × CS)) (hrs_term : ∀ (S : CS) (res : Int32 × CS), rs_term S = some res → CC l dC dI E ev yX3_term cX3_term 3 (some .boolean) { frames := f_term, cells := 0, slots := 0, locals := g_term } [.ref (ho 9)] (CW E ho ro S ++ P) (CW E ho ro res.2 ++ P) (some (.int res.1)))   (res : Int32 × CS) (hf : C_3_sum rs_term F S = some res) : CC l dC dI E ev yX3_sum cX3_sum 3 (some .boolean) (rc_3_sum f_term g_term) [.ref (ho 9)] (CW E ho ro S ++ P) (CW E ho ro res.2 ++ P) (some (.int res.1)) := by
  refine CC_of (own := "LostLanes$Reader") (by decide) rfl (Nat.le_of_ble_eq_true rfl) ?_
  intro p e s m args below meth c A Q X Y hr hlk hA hQ
  have hB50 : ∀ (k11 : CS → Int32 → Option (Int32 × CS)) (hk11 : ∀ (S : CS) (x1 : Int32), k11 S x1 = some res → GG p l e (rc_3_sum f_term g_term) s m args below meth c dC dI A 3 0 0 Q (CW E ho ro S ++ P) 11 [(0, .ref (ho 9)), (1, .int x1)] []) (S : CS) (x1 : Int32) (tx0 : Int32), C_3_sum_B50 rs_term F k11 S x1 tx0 = some res → GG p l e (rc_3_sum f_term g_term) s m args below meth c dC dI A 3 0 0 Q (CW E ho ro S ++ P) 50 [(0, .ref (ho 9)), (1, .int x1)] [.int tx0] := by
    intro k11 hk11 S x1 tx0 hf
    unfold C_3_sum_B50 at hf
    refine g_istore_n (i := 2) (lv' := [(2, .int tx0), (0, .ref (ho 9)), (1, .int x1)]) X dX3_sum_50 rfl (by decide) rfl ?_
    refine g_aload_n X dX3_sum_51 1 rfl ?_
    refine m_bind hf (fun y1 hy1 hf => ?_)
    refine cw_V_v (cix := 3) (As := []) (st := []) X Y kV_X3_42 (cc_3_advance l dC dI E ev ho ro F P S y1 hy1) ob_3 rfl ⟨by dsimp only [rc_3_sum, rc_3_advance]; omega, by dsimp only [rc_3_sum, rc_3_advance]; omega⟩ ⟨rfl, rfl⟩ (Nat.le_of_ble_eq_true rfl) ⟨Nat.le_of_ble_eq_true rfl, Nat.le_of_ble_eq_true rfl⟩ dX3_sum_52 ?_
    refine g_aload_n X dX3_sum_55 1 rfl ?_
    refine m_bind hf (fun y2 hy2 hf => ?_)
    refine cw_V_i (cix := 3) (As := []) (st := []) X Y kV_X3_149 (hrs_term y1.2 y2 hy2) ob_3 rfl ⟨by dsimp only [rc_3_sum]; omega, by dsimp only [rc_3_sum]; omega⟩ ⟨rfl, rfl⟩ (Nat.le_of_ble_eq_true rfl) ⟨Nat.le_of_ble_eq_true rfl, Nat.le_of_ble_eq_true rfl⟩ dX3_sum_56 ?_
    refine g_if_ne (tgt := 64) X dX3_sum_59 (by decide) hf (fun hf => ?_) (fun hf => ?_)
    · refine g_aload_n X dX3_sum_64 1 rfl ?_
      refine g_iload_n X dX3_sum_65 0 rfl ?_
      refine g_iconst X dX3_sum_66 kc_0 ?_
      refine m_bind hf (fun y3 hy3 hf => ?_)
      refine cw_V_i (cix := 3) (As := [.int tx0, .int (0 : Int32)]) (st := []) X Y kV_X3_128 (cc_3_emit l dC dI E ev ho ro P y2.2 tx0 (0 : Int32) y3 hy3) ob_3 rfl ⟨by dsimp only [rc_3_sum, rc_3_emit]; omega, by dsimp only [rc_3_sum, rc_3_emit]; omega⟩ ⟨rfl, rfl⟩ (Nat.le_of_ble_eq_true rfl) ⟨Nat.le_of_ble_eq_true rfl, Nat.le_of_ble_eq_true rfl⟩ dX3_sum_67 ?_
      refine g_pop X dX3_sum_70 rfl ?_
      refine g_iinc (lv' := [(1, .int (x1 + (1 : Int32))), (2, .int tx0), (0, .ref (ho 9))]) X dX3_sum_71 2 rfl kc_1 (by decide) rfl ?_
      refine g_goto (tgt := 11) X dX3_sum_74 (by decide) ?_
      refine g_lv [2, 0] (lv' := [(0, .ref (ho 9)), (1, .int (x1 + (1 : Int32)))]) rfl ?_
      exact hk11 _ _ hf
    refine g_iconst X dX3_sum_62 kc_0 ?_
    exact c_retz_s hA hQ X hr hlk (Or.inl rfl) dX3_sum_63 hf
  have hB36 : ∀ (k11 : CS → Int32 → Option (Int32 × CS)) (hk11 : ∀ (S : CS) (x1 : Int32), k11 S x1 = some res → GG p l e (rc_3_sum f_term g_term) s m args below meth c dC dI A 3 0 0 Q (CW E ho ro S ++ P) 11 [(0, .ref (ho 9)), (1, .int x1)] []) (S : CS) (x1 : Int32), C_3_sum_B36 rs_term F k11 S x1 = some res → GG p l e (rc_3_sum f_term g_term) s m args below meth c dC dI A 3 0 0 Q (CW E ho ro S ++ P) 36 [(0, .ref (ho 9)), (1, .int x1)] [] := by
    intro k11 hk11 S x1 hf
    unfold C_3_sum_B36 at hf
    refine g_aload_n X dX3_sum_36 0 rfl ?_
    refine g_bipush X dX3_sum_37 kb_43 ?_
    refine m_bind hf (fun y4 hy4 hf => ?_)
    refine cw_V_i (cix := 3) (As := [.int (43 : Int32)]) (st := []) X Y kV_X3_62 (cc_3_isSign l dC dI E ev ho ro P S (43 : Int32) y4 hy4) ob_3 rfl ⟨by dsimp only [rc_3_sum, rc_3_isSign]; omega, by dsimp only [rc_3_sum, rc_3_isSign]; omega⟩ ⟨rfl, rfl⟩ (Nat.le_of_ble_eq_true rfl) ⟨Nat.le_of_ble_eq_true rfl, Nat.le_of_ble_eq_true rfl⟩ dX3_sum_39 ?_
    refine g_if_eq (tgt := 49) X dX3_sum_42 (by decide) hf (fun hf => ?_) (fun hf => ?_)
    · refine g_iconst X dX3_sum_49 kc_3 ?_
      exact hB50 _ hk11 _ _ _ hf
    refine g_iconst X dX3_sum_45 kc_2 ?_
    refine g_goto (tgt := 50) X dX3_sum_46 (by decide) ?_
    exact hB50 _ hk11 _ _ _ hf
  have hL11 : ∀  (n : Nat) (S : CS) (x1 : Int32), C_3_sum_L11 rs_term F n S x1 = some res → GG p l e (rc_3_sum f_term g_term) s m args below meth c dC dI A 3 0 0 Q (CW E ho ro S ++ P) 11 [(0, .ref (ho 9)), (1, .int x1)] [] := by
    intro  n
    induction n with
    | zero => intro S x1 hf; have hf : (none : Option (Int32 × CS)) = some res := hf; cases hf
    | succ n ih =>
      intro S x1 hf
      rw [C_3_sum_L11] at hf
      refine g_iload_n X dX3_sum_11 1 rfl ?_
      refine g_sipush X dX3_sum_12 ks_400 ?_
      refine g_icmp_ge (tgt := 77) X dX3_sum_15 (by decide) hf (fun hf => ?_) (fun hf => ?_)
      · refine g_iconst X dX3_sum_77 kc_1 ?_
        exact c_retz_s hA hQ X hr hlk (Or.inr rfl) dX3_sum_78 hf
      refine g_aload_n X dX3_sum_18 0 rfl ?_
      refine g_bipush X dX3_sum_19 kb_43 ?_
      refine m_bind hf (fun y5 hy5 hf => ?_)
      refine cw_V_i (cix := 3) (As := [.int (43 : Int32)]) (st := []) X Y kV_X3_62 (cc_3_isSign l dC dI E ev ho ro P S (43 : Int32) y5 hy5) ob_3 rfl ⟨by dsimp only [rc_3_sum, rc_3_isSign]; omega, by dsimp only [rc_3_sum, rc_3_isSign]; omega⟩ ⟨rfl, rfl⟩ (Nat.le_of_ble_eq_true rfl) ⟨Nat.le_of_ble_eq_true rfl, Nat.le_of_ble_eq_true rfl⟩ dX3_sum_21 ?_
      refine g_if_ne (tgt := 36) X dX3_sum_24 (by decide) hf (fun hf => ?_) (fun hf => ?_)
      · exact hB36 _ ih _ _ hf
      refine g_aload_n X dX3_sum_27 0 rfl ?_
      refine g_bipush X dX3_sum_28 kb_45 ?_
      refine m_bind hf (fun y6 hy6 hf => ?_)
      refine cw_V_i (cix := 3) (As := [.int (45 : Int32)]) (st := []) X Y kV_X3_62 (cc_3_isSign l dC dI E ev ho ro P S (45 : Int32) y6 hy6) ob_3 rfl ⟨by dsimp only [rc_3_sum, rc_3_isSign]; omega, by dsimp only [rc_3_sum, rc_3_isSign]; omega⟩ ⟨rfl, rfl⟩ (Nat.le_of_ble_eq_true rfl) ⟨Nat.le_of_ble_eq_true rfl, Nat.le_of_ble_eq_true rfl⟩ dX3_sum_30 ?_
      refine g_if_eq (tgt := 77) X dX3_sum_33 (by decide) hf (fun hf => ?_) (fun hf => ?_)
      · refine g_iconst X dX3_sum_77 kc_1 ?_
        exact c_retz_s hA hQ X hr hlk (Or.inr rfl) dX3_sum_78 hf
      exact hB36 _ ih _ _ hf
  refine g_lv [0] (lv' := [(0, .ref (ho 9))]) rfl ?_
  unfold C_3_sum at hf
  refine g_aload_n X dX3_sum_0 0 rfl ?_
  refine m_bind hf (fun y7 hy7 hf => ?_)
  refine cw_V_i (cix := 3) (As := []) (st := []) X Y kV_X3_149 (hrs_term S y7 hy7) ob_3 rfl ⟨by dsimp only [rc_3_sum]; omega, by dsimp only [rc_3_sum]; omega⟩ ⟨rfl, rfl⟩ (Nat.le_of_ble_eq_true rfl) ⟨Nat.le_of_ble_eq_true rfl, Nat.le_of_ble_eq_true rfl⟩ dX3_sum_1 ?_
  refine g_if_ne (tgt := 9) X dX3_sum_4 (by decide) hf (fun hf => ?_) (fun hf => ?_)
  · refine g_iconst X dX3_sum_9 kc_0 ?_
    refine g_istore_n (i := 1) (lv' := [(1, .int (0 : Int32)), (0, .ref (ho 9))]) X dX3_sum_10 rfl (by decide) rfl ?_
    refine g_lv [1, 0] (lv' := [(0, .ref (ho 9)), (1, .int (0 : Int32))]) rfl ?_
    exact hL11 _ _ _ hf
  refine g_iconst X dX3_sum_7 kc_0 ?_
  exact c_retz_s hA hQ X hr hlk (Or.inl rfl) dX3_sum_8 hf
def rd_3_sum (d : Nat) : Room := { frames := 42 * d, cells := 0, slots := 0, locals := 960 * d }
set_option maxRecDepth 100000 in
set_option maxHeartbeats 4000000 in
theorem cc_3_sumD (l : Launch) (dC : Nat → ClassId) (dI : Nat → Nat → Nat) (E : Nat → ClassId) (ev : Nat → Nat) (ho : Nat → Nat) (ro : Nat → Nat → Nat) (F : Nat) (P : va_W) : ∀ (d : Nat) (S : CS) (res : Int32 × CS), C_3_sumD F d S = some res → CC l dC dI E ev yX3_sum cX3_sum 3 (some .boolean) (rd_3_sum d) [.ref (ho 9)] (CW E ho ro S ++ P) (CW E ho ro res.2 ++ P) (some (.int res.1)) := by
  intro d
  induction d with
  | zero => intro S res hf; have hf : (none : Option (Int32 × CS)) = some res := hf; cases hf
  | succ d ih =>
    intro S res hf
    exact cc_3_sum l dC dI E ev ho ro F P S _ _ _ (fun S res hf => cc_3_term l dC dI E ev ho ro F P S _ _ _ (fun S res hf => cc_3_part l dC dI E ev ho ro F P S _ _ _ (fun S res hf => ih S res hf) res hf) res hf) res hf
def rc_3_isKeyword : Room := { frames := 5, cells := 0, slots := 0, locals := 110 }
set_option maxRecDepth 100000 in
set_option maxHeartbeats 4000000 in
theorem cc_3_isKeyword (l : Launch) (dC : Nat → ClassId) (dI : Nat → Nat → Nat) (E : Nat → ClassId) (ev : Nat → Nat) (ho : Nat → Nat) (ro : Nat → Nat → Nat) (F : Nat) (P : va_W) (S : CS) (i1 : Nat) (h_s1 : i1 < 10) (res : Int32 × CS) (hf : C_3_isKeyword F S i1 = some res) : CC l dC dI E ev yX3_isKeyword cX3_isKeyword 2 (some .boolean) rc_3_isKeyword [.ref (ho 9), .ref (ev (2 * i1 + 2))] (CW E ho ro S ++ P) (CW E ho ro res.2 ++ P) (some (.int res.1)) := by
  refine CC_of (own := "LostLanes$Reader") (by decide) rfl (Nat.le_of_ble_eq_true rfl) ?_
  intro p e s m args below meth c A Q X Y hr hlk hA hQ
  refine g_lv [0, 1] (lv' := [(0, .ref (ho 9)), (1, .ref (ev (2 * i1 + 2)))]) rfl ?_
  unfold C_3_isKeyword at hf
  refine g_aload_n X dX3_isKeyword_0 0 rfl ?_
  refine g_aload_n X dX3_isKeyword_1 1 rfl ?_
  refine m_bind hf (fun y1 hy1 hf => ?_)
  refine cw_V_i (cix := 3) (As := [.ref (ev (2 * i1 + 2))]) (st := []) X Y kV_X3_74 (cc_3_choice l dC dI E ev ho ro F P S i1 h_s1 y1 hy1) ob_3 rfl ⟨Nat.le_of_ble_eq_true rfl, Nat.le_of_ble_eq_true rfl⟩ ⟨rfl, rfl⟩ (Nat.le_of_ble_eq_true rfl) ⟨Nat.le_of_ble_eq_true rfl, Nat.le_of_ble_eq_true rfl⟩ dX3_isKeyword_2 ?_
  refine g_iconst X dX3_isKeyword_5 kc_m1 ?_
  refine g_icmp_ne (tgt := 11) X dX3_isKeyword_6 (by decide) hf (fun hf => ?_) (fun hf => ?_)
  · refine g_aload_n X dX3_isKeyword_11 0 rfl ?_
    refine m_bind hf (fun y2 hy2 hf => ?_)
    refine cw_V_v (cix := 3) (As := []) (st := []) X Y kV_X3_42 (cc_3_advance l dC dI E ev ho ro F P S y2 hy2) ob_3 rfl ⟨Nat.le_of_ble_eq_true rfl, Nat.le_of_ble_eq_true rfl⟩ ⟨rfl, rfl⟩ (Nat.le_of_ble_eq_true rfl) ⟨Nat.le_of_ble_eq_true rfl, Nat.le_of_ble_eq_true rfl⟩ dX3_isKeyword_12 ?_
    refine g_iconst X dX3_isKeyword_15 kc_1 ?_
    exact c_retz_s hA hQ X hr hlk (Or.inr rfl) dX3_isKeyword_16 hf
  refine g_iconst X dX3_isKeyword_9 kc_0 ?_
  exact c_retz_s hA hQ X hr hlk (Or.inl rfl) dX3_isKeyword_10 hf
def rc_3_plain (f_test g_test f_sum g_sum : Nat) : Room := { frames := (max f_test f_sum) + 14, cells := 0, slots := 0, locals := (max g_test g_sum) + 320 }
set_option maxRecDepth 100000 in
set_option maxHeartbeats 4000000 in
theorem cc_3_plain (l : Launch) (dC : Nat → ClassId) (dI : Nat → Nat → Nat) (E : Nat → ClassId) (ev : Nat → Nat) (ho : Nat → Nat) (ro : Nat → Nat → Nat) (F : Nat) (P : va_W) (S : CS) (f_test g_test : Nat) (rs_test : CS → Option (Int32 × CS)) (hrs_test : ∀ (S : CS) (res : Int32 × CS), rs_test S = some res → CC l dC dI E ev yX3_test cX3_test 3 (some .boolean) { frames := f_test, cells := 0, slots := 0, locals := g_test } [.ref (ho 9)] (CW E ho ro S ++ P) (CW E ho ro res.2 ++ P) (some (.int res.1))) (f_sum g_sum : Nat) (rs_sum : CS → Option (Int32 × CS)) (hrs_sum : ∀ (S : CS) (res : Int32 × CS), rs_sum S = some res → CC l dC dI E ev yX3_sum cX3_sum 3 (some .boolean) { frames := f_sum, cells := 0, slots := 0, locals := g_sum } [.ref (ho 9)] (CW E ho ro S ++ P) (CW E ho ro res.2 ++ P) (some (.int res.1)))   (res : Int32 × CS) (hf : C_3_plain rs_test rs_sum F S = some res) : CC l dC dI E ev yX3_plain cX3_plain 3 (some .boolean) (rc_3_plain f_test g_test f_sum g_sum) [.ref (ho 9)] (CW E ho ro S ++ P) (CW E ho ro res.2 ++ P) (some (.int res.1)) := by
  refine CC_of (own := "LostLanes$Reader") (by decide) rfl (Nat.le_of_ble_eq_true rfl) ?_
  intro p e s m args below meth c A Q X Y hr hlk hA hQ
  have hB150 : ∀ (S : CS) (x1 : Int32), C_3_plain_B150 rs_test rs_sum F S x1 = some res → GG p l e (rc_3_plain f_test g_test f_sum g_sum) s m args below meth c dC dI A 3 0 0 Q (CW E ho ro S ++ P) 150 [(0, .ref (ho 9)), (1, .int x1)] [] := by
    intro S x1 hf
    unfold C_3_plain_B150 at hf
    refine g_iload_n X dX3_plain_150 1 rfl ?_
    refine g_if_eq (tgt := 162) X dX3_plain_151 (by decide) hf (fun hf => ?_) (fun hf => ?_)
    · refine g_iconst X dX3_plain_162 kc_1 ?_
      exact c_retz_s hA hQ X hr hlk (Or.inr rfl) dX3_plain_163 hf
    refine g_aload_n X dX3_plain_154 0 rfl ?_
    refine g_bipush X dX3_plain_155 kb_10 ?_
    refine g_iconst X dX3_plain_157 kc_0 ?_
    refine m_bind hf (fun y1 hy1 hf => ?_)
    refine cw_V_i (cix := 3) (As := [.int (10 : Int32), .int (0 : Int32)]) (st := []) X Y kV_X3_128 (cc_3_emit l dC dI E ev ho ro P S (10 : Int32) (0 : Int32) y1 hy1) ob_3 rfl ⟨by dsimp only [rc_3_plain, rc_3_emit]; omega, by dsimp only [rc_3_plain, rc_3_emit]; omega⟩ ⟨rfl, rfl⟩ (Nat.le_of_ble_eq_true rfl) ⟨Nat.le_of_ble_eq_true rfl, Nat.le_of_ble_eq_true rfl⟩ dX3_plain_158 ?_
    refine g_pop X dX3_plain_161 rfl ?_
    refine g_iconst X dX3_plain_162 kc_1 ?_
    exact c_retz_s hA hQ X hr hlk (Or.inr rfl) dX3_plain_163 hf
  have hB130 : ∀ (S : CS) (x1 : Int32) (x2 : Int32), C_3_plain_B130 rs_test rs_sum F S x1 x2 = some res → GG p l e (rc_3_plain f_test g_test f_sum g_sum) s m args below meth c dC dI A 3 0 0 Q (CW E ho ro S ++ P) 130 [(0, .ref (ho 9)), (1, .int x1), (2, .int x2)] [] := by
    intro S x1 x2 hf
    unfold C_3_plain_B130 at hf
    refine g_aload_n X dX3_plain_130 0 rfl ?_
    refine m_bind hf (fun y2 hy2 hf => ?_)
    refine cw_V_v (cix := 3) (As := []) (st := []) X Y kV_X3_42 (cc_3_advance l dC dI E ev ho ro F P S y2 hy2) ob_3 rfl ⟨by dsimp only [rc_3_plain, rc_3_advance]; omega, by dsimp only [rc_3_plain, rc_3_advance]; omega⟩ ⟨rfl, rfl⟩ (Nat.le_of_ble_eq_true rfl) ⟨Nat.le_of_ble_eq_true rfl, Nat.le_of_ble_eq_true rfl⟩ dX3_plain_131 ?_
    refine g_aload_n X dX3_plain_134 0 rfl ?_
    refine m_bind hf (fun y3 hy3 hf => ?_)
    refine cw_V_i (cix := 3) (As := []) (st := []) X Y kV_X3_83 (hrs_sum y2.2 y3 hy3) ob_3 rfl ⟨by dsimp only [rc_3_plain]; omega, by dsimp only [rc_3_plain]; omega⟩ ⟨rfl, rfl⟩ (Nat.le_of_ble_eq_true rfl) ⟨Nat.le_of_ble_eq_true rfl, Nat.le_of_ble_eq_true rfl⟩ dX3_plain_135 ?_
    refine g_if_ne (tgt := 143) X dX3_plain_138 (by decide) hf (fun hf => ?_) (fun hf => ?_)
    · refine g_aload_n X dX3_plain_143 0 rfl ?_
      refine g_iload_n X dX3_plain_144 2 rfl ?_
      refine g_iconst X dX3_plain_145 kc_0 ?_
      refine m_bind hf (fun y4 hy4 hf => ?_)
      refine cw_V_i (cix := 3) (As := [.int x2, .int (0 : Int32)]) (st := []) X Y kV_X3_128 (cc_3_emit l dC dI E ev ho ro P y3.2 x2 (0 : Int32) y4 hy4) ob_3 rfl ⟨by dsimp only [rc_3_plain, rc_3_emit]; omega, by dsimp only [rc_3_plain, rc_3_emit]; omega⟩ ⟨rfl, rfl⟩ (Nat.le_of_ble_eq_true rfl) ⟨Nat.le_of_ble_eq_true rfl, Nat.le_of_ble_eq_true rfl⟩ dX3_plain_146 ?_
      refine g_pop X dX3_plain_149 rfl ?_
      refine g_lv [0, 1] (lv' := [(0, .ref (ho 9)), (1, .int x1)]) rfl ?_
      exact hB150 _ _ hf
    refine g_iconst X dX3_plain_141 kc_0 ?_
    exact c_retz_s hA hQ X hr hlk (Or.inl rfl) dX3_plain_142 hf
  have hB109 : ∀ (S : CS) (x1 : Int32) (tx0 : Int32), C_3_plain_B109 rs_test rs_sum F S x1 tx0 = some res → GG p l e (rc_3_plain f_test g_test f_sum g_sum) s m args below meth c dC dI A 3 0 0 Q (CW E ho ro S ++ P) 109 [(0, .ref (ho 9)), (1, .int x1)] [.int tx0] := by
    intro S x1 tx0 hf
    unfold C_3_plain_B109 at hf
    refine g_istore_n (i := 2) (lv' := [(2, .int tx0), (0, .ref (ho 9)), (1, .int x1)]) X dX3_plain_109 rfl (by decide) rfl ?_
    refine g_iload_n X dX3_plain_110 0 rfl ?_
    refine g_bipush X dX3_plain_111 kb_9 ?_
    refine g_icmp_ne (tgt := 130) X dX3_plain_113 (by decide) hf (fun hf => ?_) (fun hf => ?_)
    · refine g_lv [1, 2, 0] (lv' := [(0, .ref (ho 9)), (1, .int x1), (2, .int tx0)]) rfl ?_
      exact hB130 _ _ _ hf
    refine g_aload_n X dX3_plain_116 1 rfl ?_
    refine g_bipush X dX3_plain_117 kb_61 ?_
    refine m_bind hf (fun y5 hy5 hf => ?_)
    refine cw_V_i (cix := 3) (As := [.int (61 : Int32)]) (st := []) X Y kV_X3_62 (cc_3_isSign l dC dI E ev ho ro P S (61 : Int32) y5 hy5) ob_3 rfl ⟨by dsimp only [rc_3_plain, rc_3_isSign]; omega, by dsimp only [rc_3_plain, rc_3_isSign]; omega⟩ ⟨rfl, rfl⟩ (Nat.le_of_ble_eq_true rfl) ⟨Nat.le_of_ble_eq_true rfl, Nat.le_of_ble_eq_true rfl⟩ dX3_plain_119 ?_
    refine g_if_ne (tgt := 130) X dX3_plain_122 (by decide) hf (fun hf => ?_) (fun hf => ?_)
    · refine g_lv [1, 2, 0] (lv' := [(0, .ref (ho 9)), (1, .int x1), (2, .int tx0)]) rfl ?_
      exact hB130 _ _ _ hf
    refine g_aload_n X dX3_plain_125 1 rfl ?_
    refine m_bind hf (fun y6 hy6 hf => ?_)
    refine cw_V_i (cix := 3) (As := []) (st := []) X Y kV_X3_66 (cc_3_fail l dC dI E ev ho ro P S y6 hy6) ob_3 rfl ⟨by dsimp only [rc_3_plain, rc_3_fail]; omega, by dsimp only [rc_3_plain, rc_3_fail]; omega⟩ ⟨rfl, rfl⟩ (Nat.le_of_ble_eq_true rfl) ⟨Nat.le_of_ble_eq_true rfl, Nat.le_of_ble_eq_true rfl⟩ dX3_plain_126 ?_
    obtain ⟨hz129, hf⟩ := chk_some hf
    exact c_retz_s hA hQ X hr hlk hz129 dX3_plain_129 hf
  have hB36 : ∀ (S : CS) (x1 : Int32), C_3_plain_B36 rs_test rs_sum F S x1 = some res → GG p l e (rc_3_plain f_test g_test f_sum g_sum) s m args below meth c dC dI A 3 0 0 Q (CW E ho ro S ++ P) 36 [(0, .ref (ho 9)), (1, .int x1)] [] := by
    intro S x1 hf
    unfold C_3_plain_B36 at hf
    refine g_aload_n X dX3_plain_36 0 rfl ?_
    refine g_bipush X dX3_plain_37 kb_40 ?_
    refine m_bind hf (fun y7 hy7 hf => ?_)
    refine cw_V_i (cix := 3) (As := [.int (40 : Int32)]) (st := []) X Y kV_X3_62 (cc_3_isSign l dC dI E ev ho ro P S (40 : Int32) y7 hy7) ob_3 rfl ⟨by dsimp only [rc_3_plain, rc_3_isSign]; omega, by dsimp only [rc_3_plain, rc_3_isSign]; omega⟩ ⟨rfl, rfl⟩ (Nat.le_of_ble_eq_true rfl) ⟨Nat.le_of_ble_eq_true rfl, Nat.le_of_ble_eq_true rfl⟩ dX3_plain_39 ?_
    refine g_if_eq (tgt := 70) X dX3_plain_42 (by decide) hf (fun hf => ?_) (fun hf => ?_)
    · refine g_aload_n X dX3_plain_70 0 rfl ?_
      refine m_bind hf (fun y8 hy8 hf => ?_)
      refine cw_V_i (cix := 3) (As := []) (st := []) X Y kV_X3_83 (hrs_sum S y8 hy8) ob_3 rfl ⟨by dsimp only [rc_3_plain]; omega, by dsimp only [rc_3_plain]; omega⟩ ⟨rfl, rfl⟩ (Nat.le_of_ble_eq_true rfl) ⟨Nat.le_of_ble_eq_true rfl, Nat.le_of_ble_eq_true rfl⟩ dX3_plain_71 ?_
      refine g_if_ne (tgt := 79) X dX3_plain_74 (by decide) hf (fun hf => ?_) (fun hf => ?_)
      · refine g_aload_n X dX3_plain_79 0 rfl ?_
        refine g_bipush X dX3_plain_80 kb_60 ?_
        refine m_bind hf (fun y9 hy9 hf => ?_)
        refine cw_V_i (cix := 3) (As := [.int (60 : Int32)]) (st := []) X Y kV_X3_62 (cc_3_isSign l dC dI E ev ho ro P y8.2 (60 : Int32) y9 hy9) ob_3 rfl ⟨by dsimp only [rc_3_plain, rc_3_isSign]; omega, by dsimp only [rc_3_plain, rc_3_isSign]; omega⟩ ⟨rfl, rfl⟩ (Nat.le_of_ble_eq_true rfl) ⟨Nat.le_of_ble_eq_true rfl, Nat.le_of_ble_eq_true rfl⟩ dX3_plain_82 ?_
        refine g_if_eq (tgt := 93) X dX3_plain_85 (by decide) hf (fun hf => ?_) (fun hf => ?_)
        · refine g_aload_n X dX3_plain_93 0 rfl ?_
          refine g_bipush X dX3_plain_94 kb_62 ?_
          refine m_bind hf (fun y10 hy10 hf => ?_)
          refine cw_V_i (cix := 3) (As := [.int (62 : Int32)]) (st := []) X Y kV_X3_62 (cc_3_isSign l dC dI E ev ho ro P y8.2 (62 : Int32) y10 hy10) ob_3 rfl ⟨by dsimp only [rc_3_plain, rc_3_isSign]; omega, by dsimp only [rc_3_plain, rc_3_isSign]; omega⟩ ⟨rfl, rfl⟩ (Nat.le_of_ble_eq_true rfl) ⟨Nat.le_of_ble_eq_true rfl, Nat.le_of_ble_eq_true rfl⟩ dX3_plain_96 ?_
          refine g_if_eq (tgt := 107) X dX3_plain_99 (by decide) hf (fun hf => ?_) (fun hf => ?_)
          · refine g_bipush X dX3_plain_107 kb_9 ?_
            exact hB109 _ _ _ hf
          refine g_bipush X dX3_plain_102 kb_8 ?_
          refine g_goto (tgt := 109) X dX3_plain_104 (by decide) ?_
          exact hB109 _ _ _ hf
        refine g_bipush X dX3_plain_88 kb_7 ?_
        refine g_goto (tgt := 109) X dX3_plain_90 (by decide) ?_
        exact hB109 _ _ _ hf
      refine g_iconst X dX3_plain_77 kc_0 ?_
      exact c_retz_s hA hQ X hr hlk (Or.inl rfl) dX3_plain_78 hf
    refine g_aload_n X dX3_plain_45 0 rfl ?_
    refine m_bind hf (fun y11 hy11 hf => ?_)
    refine cw_V_i (cix := 3) (As := []) (st := []) X Y kV_X3_143 (cc_3_opens l dC dI E ev ho ro F P S y11 hy11) ob_3 rfl ⟨by dsimp only [rc_3_plain, rc_3_opens]; omega, by dsimp only [rc_3_plain, rc_3_opens]; omega⟩ ⟨rfl, rfl⟩ (Nat.le_of_ble_eq_true rfl) ⟨Nat.le_of_ble_eq_true rfl, Nat.le_of_ble_eq_true rfl⟩ dX3_plain_46 ?_
    refine g_if_eq (tgt := 68) X dX3_plain_49 (by decide) hf (fun hf => ?_) (fun hf => ?_)
    · refine g_iconst X dX3_plain_68 kc_0 ?_
      exact c_retz_s hA hQ X hr hlk (Or.inl rfl) dX3_plain_69 hf
    refine g_aload_n X dX3_plain_52 0 rfl ?_
    refine m_bind hf (fun y12 hy12 hf => ?_)
    refine cw_V_i (cix := 3) (As := []) (st := []) X Y kV_X3_111 (hrs_test y11.2 y12 hy12) ob_3 rfl ⟨by dsimp only [rc_3_plain]; omega, by dsimp only [rc_3_plain]; omega⟩ ⟨rfl, rfl⟩ (Nat.le_of_ble_eq_true rfl) ⟨Nat.le_of_ble_eq_true rfl, Nat.le_of_ble_eq_true rfl⟩ dX3_plain_53 ?_
    refine g_if_eq (tgt := 68) X dX3_plain_56 (by decide) hf (fun hf => ?_) (fun hf => ?_)
    · refine g_iconst X dX3_plain_68 kc_0 ?_
      exact c_retz_s hA hQ X hr hlk (Or.inl rfl) dX3_plain_69 hf
    refine g_aload_n X dX3_plain_59 0 rfl ?_
    refine g_bipush X dX3_plain_60 kb_41 ?_
    refine m_bind hf (fun y13 hy13 hf => ?_)
    refine cw_V_i (cix := 3) (As := [.int (41 : Int32)]) (st := []) X Y kV_X3_146 (cc_3_closes l dC dI E ev ho ro F P y12.2 (41 : Int32) y13 hy13) ob_3 rfl ⟨by dsimp only [rc_3_plain, rc_3_closes]; omega, by dsimp only [rc_3_plain, rc_3_closes]; omega⟩ ⟨rfl, rfl⟩ (Nat.le_of_ble_eq_true rfl) ⟨Nat.le_of_ble_eq_true rfl, Nat.le_of_ble_eq_true rfl⟩ dX3_plain_62 ?_
    refine g_if_ne (tgt := 150) X dX3_plain_65 (by decide) hf (fun hf => ?_) (fun hf => ?_)
    · exact hB150 _ _ hf
    refine g_iconst X dX3_plain_68 kc_0 ?_
    exact c_retz_s hA hQ X hr hlk (Or.inl rfl) dX3_plain_69 hf
  have hB29 : ∀ (k4 : CS → Int32 → Int32 → Option (Int32 × CS)) (hk4 : ∀ (S : CS) (x1 : Int32) (x2 : Int32), k4 S x1 x2 = some res → GG p l e (rc_3_plain f_test g_test f_sum g_sum) s m args below meth c dC dI A 3 0 0 Q (CW E ho ro S ++ P) 4 [(0, .ref (ho 9)), (1, .int x1), (2, .int x2)] []) (S : CS) (x2 : Int32) (tx0 : Int32), C_3_plain_B29 rs_test rs_sum F k4 S x2 tx0 = some res → GG p l e (rc_3_plain f_test g_test f_sum g_sum) s m args below meth c dC dI A 3 0 0 Q (CW E ho ro S ++ P) 29 [(0, .ref (ho 9)), (2, .int x2)] [.int tx0] := by
    intro k4 hk4 S x2 tx0 hf
    unfold C_3_plain_B29 at hf
    refine g_istore_n (i := 1) (lv' := [(1, .int tx0), (0, .ref (ho 9)), (2, .int x2)]) X dX3_plain_29 rfl (by decide) rfl ?_
    refine g_iinc (lv' := [(2, .int (x2 + (1 : Int32))), (1, .int tx0), (0, .ref (ho 9))]) X dX3_plain_30 2 rfl kc_1 (by decide) rfl ?_
    refine g_goto (tgt := 4) X dX3_plain_33 (by decide) ?_
    refine g_lv [2, 1, 0] (lv' := [(0, .ref (ho 9)), (1, .int tx0), (2, .int (x2 + (1 : Int32)))]) rfl ?_
    exact hk4 _ _ _ hf
  have hL4 : ∀  (n : Nat) (S : CS) (x1 : Int32) (x2 : Int32), C_3_plain_L4 rs_test rs_sum F n S x1 x2 = some res → GG p l e (rc_3_plain f_test g_test f_sum g_sum) s m args below meth c dC dI A 3 0 0 Q (CW E ho ro S ++ P) 4 [(0, .ref (ho 9)), (1, .int x1), (2, .int x2)] [] := by
    intro  n
    induction n with
    | zero => intro S x1 x2 hf; have hf : (none : Option (Int32 × CS)) = some res := hf; cases hf
    | succ n ih =>
      intro S x1 x2 hf
      rw [C_3_plain_L4] at hf
      refine g_iload_n X dX3_plain_4 2 rfl ?_
      refine g_sipush X dX3_plain_5 ks_400 ?_
      refine g_icmp_ge (tgt := 36) X dX3_plain_8 (by decide) hf (fun hf => ?_) (fun hf => ?_)
      · refine g_lv [0, 1] (lv' := [(0, .ref (ho 9)), (1, .int x1)]) rfl ?_
        exact hB36 _ _ hf
      refine g_aload_n X dX3_plain_11 0 rfl ?_
      refine s_str (i := 7) X Y rfl dX3_plain_12 ?_
      refine m_bind hf (fun y14 hy14 hf => ?_)
      refine cw_V_i (cix := 3) (As := [.ref (ev (2 * 7 + 2))]) (st := []) X Y kV_X3_91 (cc_3_isKeyword l dC dI E ev ho ro F P S 7 (by decide) y14 hy14) ob_3 rfl ⟨by dsimp only [rc_3_plain, rc_3_isKeyword]; omega, by dsimp only [rc_3_plain, rc_3_isKeyword]; omega⟩ ⟨rfl, rfl⟩ (Nat.le_of_ble_eq_true rfl) ⟨Nat.le_of_ble_eq_true rfl, Nat.le_of_ble_eq_true rfl⟩ dX3_plain_14 ?_
      refine g_if_eq (tgt := 36) X dX3_plain_17 (by decide) hf (fun hf => ?_) (fun hf => ?_)
      · refine g_lv [0, 1] (lv' := [(0, .ref (ho 9)), (1, .int x1)]) rfl ?_
        exact hB36 _ _ hf
      refine g_iload_n X dX3_plain_20 1 rfl ?_
      refine g_if_ne (tgt := 28) X dX3_plain_21 (by decide) hf (fun hf => ?_) (fun hf => ?_)
      · refine g_iconst X dX3_plain_28 kc_0 ?_
        refine g_lv [0, 2] (lv' := [(0, .ref (ho 9)), (2, .int x2)]) rfl ?_
        exact hB29 _ ih _ _ _ hf
      refine g_iconst X dX3_plain_24 kc_1 ?_
      refine g_goto (tgt := 29) X dX3_plain_25 (by decide) ?_
      refine g_lv [0, 2] (lv' := [(0, .ref (ho 9)), (2, .int x2)]) rfl ?_
      exact hB29 _ ih _ _ _ hf
  refine g_lv [0] (lv' := [(0, .ref (ho 9))]) rfl ?_
  unfold C_3_plain at hf
  refine g_iconst X dX3_plain_0 kc_0 ?_
  refine g_istore_n (i := 1) (lv' := [(1, .int (0 : Int32)), (0, .ref (ho 9))]) X dX3_plain_1 rfl (by decide) rfl ?_
  refine g_iconst X dX3_plain_2 kc_0 ?_
  refine g_istore_n (i := 2) (lv' := [(2, .int (0 : Int32)), (1, .int (0 : Int32)), (0, .ref (ho 9))]) X dX3_plain_3 rfl (by decide) rfl ?_
  refine g_lv [2, 1, 0] (lv' := [(0, .ref (ho 9)), (1, .int (0 : Int32)), (2, .int (0 : Int32))]) rfl ?_
  exact hL4 _ _ _ _ hf
def rc_3_land : Room := { frames := 0, cells := 0, slots := 0, locals := 0 }
set_option maxRecDepth 100000 in
set_option maxHeartbeats 4000000 in
theorem cc_3_land (l : Launch) (dC : Nat → ClassId) (dI : Nat → Nat → Nat) (E : Nat → ClassId) (ev : Nat → Nat) (ho : Nat → Nat) (ro : Nat → Nat → Nat) (P : va_W) (S : CS) (x1 : Int32)  (res : Unit × CS) (hf : C_3_land S x1 = some res) : CC l dC dI E ev yX3_land cX3_land 2 none rc_3_land [.ref (ho 9), .int x1] (CW E ho ro S ++ P) (CW E ho ro res.2 ++ P) none := by
  refine CC_of (own := "LostLanes$Reader") (by decide) rfl (Nat.le_of_ble_eq_true rfl) ?_
  intro p e s m args below meth c A Q X Y hr hlk hA hQ
  refine g_lv [0, 1] (lv' := [(0, .ref (ho 9)), (1, .int x1)]) rfl ?_
  unfold C_3_land at hf
  refine g_iload_n X dX3_land_0 1 rfl ?_
  refine g_if_lt (tgt := 26) X dX3_land_1 (by decide) hf (fun hf => ?_) (fun hf => ?_)
  · exact c_retv_s hA hQ X hr hlk dX3_land_26 hf
  refine g_iload_n X dX3_land_4 1 rfl ?_
  refine g_iconst X dX3_land_5 kc_1 ?_
  refine g_iadd X dX3_land_6 ?_
  refine g_aload_n X dX3_land_7 0 rfl ?_
  refine cg_3_2 X wd1_169 dX3_land_8 ?_
  refine g_icmp_ge (tgt := 26) X dX3_land_11 (by decide) hf (fun hf => ?_) (fun hf => ?_)
  · exact c_retv_s hA hQ X hr hlk dX3_land_26 hf
  refine g_aload_n X dX3_land_14 0 rfl ?_
  refine cg_3_1 X wd1_168 dX3_land_15 ?_
  refine g_iload_n X dX3_land_18 1 rfl ?_
  refine g_iconst X dX3_land_19 kc_1 ?_
  refine g_iadd X dX3_land_20 ?_
  refine g_aload_n X dX3_land_21 0 rfl ?_
  refine cg_3_2 X wd1_169 dX3_land_22 ?_
  refine ca_st_3_1 X dX3_land_25 hf (fun S1 hf => ?_)
  exact c_retv_s hA hQ X hr hlk dX3_land_26 hf
def rc_3_both (f_plain g_plain : Nat) : Room := { frames := f_plain + 14, cells := 0, slots := 0, locals := g_plain + 320 }
set_option maxRecDepth 100000 in
set_option maxHeartbeats 4000000 in
theorem cc_3_both (l : Launch) (dC : Nat → ClassId) (dI : Nat → Nat → Nat) (E : Nat → ClassId) (ev : Nat → Nat) (ho : Nat → Nat) (ro : Nat → Nat → Nat) (F : Nat) (P : va_W) (S : CS) (f_plain g_plain : Nat) (rs_plain : CS → Option (Int32 × CS)) (hrs_plain : ∀ (S : CS) (res : Int32 × CS), rs_plain S = some res → CC l dC dI E ev yX3_plain cX3_plain 3 (some .boolean) { frames := f_plain, cells := 0, slots := 0, locals := g_plain } [.ref (ho 9)] (CW E ho ro S ++ P) (CW E ho ro res.2 ++ P) (some (.int res.1)))   (res : Int32 × CS) (hf : C_3_both rs_plain F S = some res) : CC l dC dI E ev yX3_both cX3_both 3 (some .boolean) (rc_3_both f_plain g_plain) [.ref (ho 9)] (CW E ho ro S ++ P) (CW E ho ro res.2 ++ P) (some (.int res.1)) := by
  refine CC_of (own := "LostLanes$Reader") (by decide) rfl (Nat.le_of_ble_eq_true rfl) ?_
  intro p e s m args below meth c A Q X Y hr hlk hA hQ
  have hL11 : ∀  (n : Nat) (S : CS) (x1 : Int32), C_3_both_L11 rs_plain F n S x1 = some res → GG p l e (rc_3_both f_plain g_plain) s m args below meth c dC dI A 3 0 0 Q (CW E ho ro S ++ P) 11 [(0, .ref (ho 9)), (1, .int x1)] [] := by
    intro  n
    induction n with
    | zero => intro S x1 hf; have hf : (none : Option (Int32 × CS)) = some res := hf; cases hf
    | succ n ih =>
      intro S x1 hf
      rw [C_3_both_L11] at hf
      refine g_iload_n X dX3_both_11 1 rfl ?_
      refine g_sipush X dX3_both_12 ks_400 ?_
      refine g_icmp_ge (tgt := 55) X dX3_both_15 (by decide) hf (fun hf => ?_) (fun hf => ?_)
      · refine g_iconst X dX3_both_55 kc_1 ?_
        exact c_retz_s hA hQ X hr hlk (Or.inr rfl) dX3_both_56 hf
      refine g_aload_n X dX3_both_18 0 rfl ?_
      refine s_str (i := 8) X Y rfl dX3_both_19 ?_
      refine m_bind hf (fun y1 hy1 hf => ?_)
      refine cw_V_i (cix := 3) (As := [.ref (ev (2 * 8 + 2))]) (st := []) X Y kV_X3_91 (cc_3_isKeyword l dC dI E ev ho ro F P S 8 (by decide) y1 hy1) ob_3 rfl ⟨by dsimp only [rc_3_both, rc_3_isKeyword]; omega, by dsimp only [rc_3_both, rc_3_isKeyword]; omega⟩ ⟨rfl, rfl⟩ (Nat.le_of_ble_eq_true rfl) ⟨Nat.le_of_ble_eq_true rfl, Nat.le_of_ble_eq_true rfl⟩ dX3_both_21 ?_
      refine g_if_eq (tgt := 55) X dX3_both_24 (by decide) hf (fun hf => ?_) (fun hf => ?_)
      · refine g_iconst X dX3_both_55 kc_1 ?_
        exact c_retz_s hA hQ X hr hlk (Or.inr rfl) dX3_both_56 hf
      refine g_aload_n X dX3_both_27 0 rfl ?_
      refine g_bipush X dX3_both_28 kb_11 ?_
      refine g_iconst X dX3_both_30 kc_0 ?_
      refine m_bind hf (fun y2 hy2 hf => ?_)
      refine cw_V_i (cix := 3) (As := [.int (11 : Int32), .int (0 : Int32)]) (st := []) X Y kV_X3_128 (cc_3_emit l dC dI E ev ho ro P y1.2 (11 : Int32) (0 : Int32) y2 hy2) ob_3 rfl ⟨by dsimp only [rc_3_both, rc_3_emit]; omega, by dsimp only [rc_3_both, rc_3_emit]; omega⟩ ⟨rfl, rfl⟩ (Nat.le_of_ble_eq_true rfl) ⟨Nat.le_of_ble_eq_true rfl, Nat.le_of_ble_eq_true rfl⟩ dX3_both_31 ?_
      refine g_istore_n (i := 2) (lv' := [(2, .int y2.1), (0, .ref (ho 9)), (1, .int x1)]) X dX3_both_34 rfl (by decide) rfl ?_
      refine g_aload_n X dX3_both_35 1 rfl ?_
      refine m_bind hf (fun y3 hy3 hf => ?_)
      refine cw_V_i (cix := 3) (As := []) (st := []) X Y kV_X3_136 (hrs_plain y2.2 y3 hy3) ob_3 rfl ⟨by dsimp only [rc_3_both]; omega, by dsimp only [rc_3_both]; omega⟩ ⟨rfl, rfl⟩ (Nat.le_of_ble_eq_true rfl) ⟨Nat.le_of_ble_eq_true rfl, Nat.le_of_ble_eq_true rfl⟩ dX3_both_36 ?_
      refine g_if_ne (tgt := 44) X dX3_both_39 (by decide) hf (fun hf => ?_) (fun hf => ?_)
      · refine g_aload_n X dX3_both_44 1 rfl ?_
        refine g_iload_n X dX3_both_45 0 rfl ?_
        refine m_bind hf (fun y4 hy4 hf => ?_)
        refine cw_V_v (cix := 3) (As := [.int y2.1]) (st := []) X Y kV_X3_132 (cc_3_land l dC dI E ev ho ro P y3.2 y2.1 y4 hy4) ob_3 rfl ⟨by dsimp only [rc_3_both, rc_3_land]; omega, by dsimp only [rc_3_both, rc_3_land]; omega⟩ ⟨rfl, rfl⟩ (Nat.le_of_ble_eq_true rfl) ⟨Nat.le_of_ble_eq_true rfl, Nat.le_of_ble_eq_true rfl⟩ dX3_both_46 ?_
        refine g_iinc (lv' := [(1, .int (x1 + (1 : Int32))), (2, .int y2.1), (0, .ref (ho 9))]) X dX3_both_49 2 rfl kc_1 (by decide) rfl ?_
        refine g_goto (tgt := 11) X dX3_both_52 (by decide) ?_
        refine g_lv [2, 0] (lv' := [(0, .ref (ho 9)), (1, .int (x1 + (1 : Int32)))]) rfl ?_
        exact ih _ _ hf
      refine g_iconst X dX3_both_42 kc_0 ?_
      exact c_retz_s hA hQ X hr hlk (Or.inl rfl) dX3_both_43 hf
  refine g_lv [0] (lv' := [(0, .ref (ho 9))]) rfl ?_
  unfold C_3_both at hf
  refine g_aload_n X dX3_both_0 0 rfl ?_
  refine m_bind hf (fun y5 hy5 hf => ?_)
  refine cw_V_i (cix := 3) (As := []) (st := []) X Y kV_X3_136 (hrs_plain S y5 hy5) ob_3 rfl ⟨by dsimp only [rc_3_both]; omega, by dsimp only [rc_3_both]; omega⟩ ⟨rfl, rfl⟩ (Nat.le_of_ble_eq_true rfl) ⟨Nat.le_of_ble_eq_true rfl, Nat.le_of_ble_eq_true rfl⟩ dX3_both_1 ?_
  refine g_if_ne (tgt := 9) X dX3_both_4 (by decide) hf (fun hf => ?_) (fun hf => ?_)
  · refine g_iconst X dX3_both_9 kc_0 ?_
    refine g_istore_n (i := 1) (lv' := [(1, .int (0 : Int32)), (0, .ref (ho 9))]) X dX3_both_10 rfl (by decide) rfl ?_
    refine g_lv [1, 0] (lv' := [(0, .ref (ho 9)), (1, .int (0 : Int32))]) rfl ?_
    exact hL11 _ _ _ hf
  refine g_iconst X dX3_both_7 kc_0 ?_
  exact c_retz_s hA hQ X hr hlk (Or.inl rfl) dX3_both_8 hf
def rc_3_test (f_both g_both : Nat) : Room := { frames := f_both + 14, cells := 0, slots := 0, locals := g_both + 320 }
set_option maxRecDepth 100000 in
set_option maxHeartbeats 4000000 in
theorem cc_3_test (l : Launch) (dC : Nat → ClassId) (dI : Nat → Nat → Nat) (E : Nat → ClassId) (ev : Nat → Nat) (ho : Nat → Nat) (ro : Nat → Nat → Nat) (F : Nat) (P : va_W) (S : CS) (f_both g_both : Nat) (rs_both : CS → Option (Int32 × CS)) (hrs_both : ∀ (S : CS) (res : Int32 × CS), rs_both S = some res → CC l dC dI E ev yX3_both cX3_both 3 (some .boolean) { frames := f_both, cells := 0, slots := 0, locals := g_both } [.ref (ho 9)] (CW E ho ro S ++ P) (CW E ho ro res.2 ++ P) (some (.int res.1)))   (res : Int32 × CS) (hf : C_3_test rs_both F S = some res) : CC l dC dI E ev yX3_test cX3_test 3 (some .boolean) (rc_3_test f_both g_both) [.ref (ho 9)] (CW E ho ro S ++ P) (CW E ho ro res.2 ++ P) (some (.int res.1)) := by
  refine CC_of (own := "LostLanes$Reader") (by decide) rfl (Nat.le_of_ble_eq_true rfl) ?_
  intro p e s m args below meth c A Q X Y hr hlk hA hQ
  have hL11 : ∀  (n : Nat) (S : CS) (x1 : Int32), C_3_test_L11 rs_both F n S x1 = some res → GG p l e (rc_3_test f_both g_both) s m args below meth c dC dI A 3 0 0 Q (CW E ho ro S ++ P) 11 [(0, .ref (ho 9)), (1, .int x1)] [] := by
    intro  n
    induction n with
    | zero => intro S x1 hf; have hf : (none : Option (Int32 × CS)) = some res := hf; cases hf
    | succ n ih =>
      intro S x1 hf
      rw [C_3_test_L11] at hf
      refine g_iload_n X dX3_test_11 1 rfl ?_
      refine g_sipush X dX3_test_12 ks_400 ?_
      refine g_icmp_ge (tgt := 55) X dX3_test_15 (by decide) hf (fun hf => ?_) (fun hf => ?_)
      · refine g_iconst X dX3_test_55 kc_1 ?_
        exact c_retz_s hA hQ X hr hlk (Or.inr rfl) dX3_test_56 hf
      refine g_aload_n X dX3_test_18 0 rfl ?_
      refine s_str (i := 9) X Y rfl dX3_test_19 ?_
      refine m_bind hf (fun y1 hy1 hf => ?_)
      refine cw_V_i (cix := 3) (As := [.ref (ev (2 * 9 + 2))]) (st := []) X Y kV_X3_91 (cc_3_isKeyword l dC dI E ev ho ro F P S 9 (by decide) y1 hy1) ob_3 rfl ⟨by dsimp only [rc_3_test, rc_3_isKeyword]; omega, by dsimp only [rc_3_test, rc_3_isKeyword]; omega⟩ ⟨rfl, rfl⟩ (Nat.le_of_ble_eq_true rfl) ⟨Nat.le_of_ble_eq_true rfl, Nat.le_of_ble_eq_true rfl⟩ dX3_test_21 ?_
      refine g_if_eq (tgt := 55) X dX3_test_24 (by decide) hf (fun hf => ?_) (fun hf => ?_)
      · refine g_iconst X dX3_test_55 kc_1 ?_
        exact c_retz_s hA hQ X hr hlk (Or.inr rfl) dX3_test_56 hf
      refine g_aload_n X dX3_test_27 0 rfl ?_
      refine g_bipush X dX3_test_28 kb_12 ?_
      refine g_iconst X dX3_test_30 kc_0 ?_
      refine m_bind hf (fun y2 hy2 hf => ?_)
      refine cw_V_i (cix := 3) (As := [.int (12 : Int32), .int (0 : Int32)]) (st := []) X Y kV_X3_128 (cc_3_emit l dC dI E ev ho ro P y1.2 (12 : Int32) (0 : Int32) y2 hy2) ob_3 rfl ⟨by dsimp only [rc_3_test, rc_3_emit]; omega, by dsimp only [rc_3_test, rc_3_emit]; omega⟩ ⟨rfl, rfl⟩ (Nat.le_of_ble_eq_true rfl) ⟨Nat.le_of_ble_eq_true rfl, Nat.le_of_ble_eq_true rfl⟩ dX3_test_31 ?_
      refine g_istore_n (i := 2) (lv' := [(2, .int y2.1), (0, .ref (ho 9)), (1, .int x1)]) X dX3_test_34 rfl (by decide) rfl ?_
      refine g_aload_n X dX3_test_35 1 rfl ?_
      refine m_bind hf (fun y3 hy3 hf => ?_)
      refine cw_V_i (cix := 3) (As := []) (st := []) X Y kV_X3_121 (hrs_both y2.2 y3 hy3) ob_3 rfl ⟨by dsimp only [rc_3_test]; omega, by dsimp only [rc_3_test]; omega⟩ ⟨rfl, rfl⟩ (Nat.le_of_ble_eq_true rfl) ⟨Nat.le_of_ble_eq_true rfl, Nat.le_of_ble_eq_true rfl⟩ dX3_test_36 ?_
      refine g_if_ne (tgt := 44) X dX3_test_39 (by decide) hf (fun hf => ?_) (fun hf => ?_)
      · refine g_aload_n X dX3_test_44 1 rfl ?_
        refine g_iload_n X dX3_test_45 0 rfl ?_
        refine m_bind hf (fun y4 hy4 hf => ?_)
        refine cw_V_v (cix := 3) (As := [.int y2.1]) (st := []) X Y kV_X3_132 (cc_3_land l dC dI E ev ho ro P y3.2 y2.1 y4 hy4) ob_3 rfl ⟨by dsimp only [rc_3_test, rc_3_land]; omega, by dsimp only [rc_3_test, rc_3_land]; omega⟩ ⟨rfl, rfl⟩ (Nat.le_of_ble_eq_true rfl) ⟨Nat.le_of_ble_eq_true rfl, Nat.le_of_ble_eq_true rfl⟩ dX3_test_46 ?_
        refine g_iinc (lv' := [(1, .int (x1 + (1 : Int32))), (2, .int y2.1), (0, .ref (ho 9))]) X dX3_test_49 2 rfl kc_1 (by decide) rfl ?_
        refine g_goto (tgt := 11) X dX3_test_52 (by decide) ?_
        refine g_lv [2, 0] (lv' := [(0, .ref (ho 9)), (1, .int (x1 + (1 : Int32)))]) rfl ?_
        exact ih _ _ hf
      refine g_iconst X dX3_test_42 kc_0 ?_
      exact c_retz_s hA hQ X hr hlk (Or.inl rfl) dX3_test_43 hf
  refine g_lv [0] (lv' := [(0, .ref (ho 9))]) rfl ?_
  unfold C_3_test at hf
  refine g_aload_n X dX3_test_0 0 rfl ?_
  refine m_bind hf (fun y5 hy5 hf => ?_)
  refine cw_V_i (cix := 3) (As := []) (st := []) X Y kV_X3_121 (hrs_both S y5 hy5) ob_3 rfl ⟨by dsimp only [rc_3_test]; omega, by dsimp only [rc_3_test]; omega⟩ ⟨rfl, rfl⟩ (Nat.le_of_ble_eq_true rfl) ⟨Nat.le_of_ble_eq_true rfl, Nat.le_of_ble_eq_true rfl⟩ dX3_test_1 ?_
  refine g_if_ne (tgt := 9) X dX3_test_4 (by decide) hf (fun hf => ?_) (fun hf => ?_)
  · refine g_iconst X dX3_test_9 kc_0 ?_
    refine g_istore_n (i := 1) (lv' := [(1, .int (0 : Int32)), (0, .ref (ho 9))]) X dX3_test_10 rfl (by decide) rfl ?_
    refine g_lv [1, 0] (lv' := [(0, .ref (ho 9)), (1, .int (0 : Int32))]) rfl ?_
    exact hL11 _ _ _ hf
  refine g_iconst X dX3_test_7 kc_0 ?_
  exact c_retz_s hA hQ X hr hlk (Or.inl rfl) dX3_test_8 hf
def rd_3_test (d : Nat) : Room := { frames := 420 + 42 * d, cells := 0, slots := 0, locals := 9600 + 960 * d }
set_option maxRecDepth 100000 in
set_option maxHeartbeats 4000000 in
theorem cc_3_testD (l : Launch) (dC : Nat → ClassId) (dI : Nat → Nat → Nat) (E : Nat → ClassId) (ev : Nat → Nat) (ho : Nat → Nat) (ro : Nat → Nat → Nat) (F : Nat) (P : va_W) : ∀ (d : Nat) (S : CS) (res : Int32 × CS), C_3_testD F d S = some res → CC l dC dI E ev yX3_test cX3_test 3 (some .boolean) (rd_3_test d) [.ref (ho 9)] (CW E ho ro S ++ P) (CW E ho ro res.2 ++ P) (some (.int res.1)) := by
  intro d
  induction d with
  | zero => intro S res hf; have hf : (none : Option (Int32 × CS)) = some res := hf; cases hf
  | succ d ih =>
    intro S res hf
    have hm : max (420 + 42 * d) (42 * 10) = 420 + 42 * d := by omega
    have hm2 : max (9600 + 960 * d) (960 * 10) = 9600 + 960 * d := by omega
    have h := cc_3_test l dC dI E ev ho ro F P S _ _ _ (fun S res hf => cc_3_both l dC dI E ev ho ro F P S _ _ _ (fun S res hf => cc_3_plain l dC dI E ev ho ro F P S _ _ _ (fun S res hf => ih S res hf) _ _ _ (fun S res hf => cc_3_sumD l dC dI E ev ho ro F P 10 S res hf) res hf) res hf) res hf
    have e : rc_3_test (rc_3_both (rc_3_plain (420 + 42 * d) (9600 + 960 * d) (42 * 10) (960 * 10)).frames (rc_3_plain (420 + 42 * d) (9600 + 960 * d) (42 * 10) (960 * 10)).locals).frames (rc_3_both (rc_3_plain (420 + 42 * d) (9600 + 960 * d) (42 * 10) (960 * 10)).frames (rc_3_plain (420 + 42 * d) (9600 + 960 * d) (42 * 10) (960 * 10)).locals).locals = rd_3_test (d + 1) := by
      simp only [rc_3_test, rc_3_both, rc_3_plain, rd_3_test, hm, hm2]
      congr 1
    rw [← e]
    exact h
def rc_4_combine : Room := { frames := 0, cells := 0, slots := 0, locals := 0 }
set_option maxRecDepth 100000 in
set_option maxHeartbeats 4000000 in
theorem cc_4_combine (l : Launch) (dC : Nat → ClassId) (dI : Nat → Nat → Nat) (E : Nat → ClassId) (ev : Nat → Nat) (ho : Nat → Nat) (ro : Nat → Nat → Nat) (P : va_W) (S : CS) (x0 : Int32) (x1 : Int64) (x3 : Int64)  (res : Int32) (hf : C_4_combine x0 x1 x3 = some res) : CC l dC dI E ev yX4_combine cX4_combine 7 (some .int) rc_4_combine [.int x0, .long x1, .long x3] (CW E ho ro S ++ P) (CW E ho ro S ++ P) (some (.int res)) := by
  refine CC_of (own := "LostLanes$Reckoner") (by decide) rfl (Nat.le_of_ble_eq_true rfl) ?_
  intro p e s m args below meth c A Q X Y hr hlk hA hQ
  have hB151 : C_4_combine_B151  = some res → GG p l e rc_4_combine s m args below meth c dC dI A 7 0 0 Q (CW E ho ro S ++ P) 151 [] [] := by
    intro  hf
    unfold C_4_combine_B151 at hf
    refine g_ldc X dX4_combine_151 wd2_193 ?_
    refine g_goto (tgt := 159) X dX4_combine_153 (by decide) ?_
    exact c_reti_o hA hQ X hr hlk dX4_combine_159 hf
  have hB133 : ∀ (x5 : Int64), C_4_combine_B133 x5 = some res → GG p l e rc_4_combine s m args below meth c dC dI A 7 0 0 Q (CW E ho ro S ++ P) 133 [(5, .long x5)] [] := by
    intro x5 hf
    unfold C_4_combine_B133 at hf
    refine g_lload X dX4_combine_133 0 rfl ?_
    refine g_ldc2 X dX4_combine_135 wd2_197 ?_
    refine g_lcmp_gt (tgt := 151) X dX4_combine_138 dX4_combine_139 (by decide) hf (fun hf => ?_) (fun hf => ?_)
    · refine g_lv [] (lv' := []) rfl ?_
      exact hB151  hf
    refine g_lload X dX4_combine_142 0 rfl ?_
    refine g_ldc2 X dX4_combine_144 wd2_198 ?_
    refine g_lcmp_ge (tgt := 156) X dX4_combine_147 dX4_combine_148 (by decide) hf (fun hf => ?_) (fun hf => ?_)
    · refine g_lload X dX4_combine_156 0 rfl ?_
      refine g_l2i X dX4_combine_158 ?_
      exact c_reti_o hA hQ X hr hlk dX4_combine_159 hf
    refine g_lv [] (lv' := []) rfl ?_
    exact hB151  hf
  have hB131 : ∀ (tx0 : Int64), C_4_combine_B131 tx0 = some res → GG p l e rc_4_combine s m args below meth c dC dI A 7 0 0 Q (CW E ho ro S ++ P) 131 [] [.long tx0] := by
    intro tx0 hf
    unfold C_4_combine_B131 at hf
    refine g_lstore (lv' := [(5, .long tx0)]) X dX4_combine_131 (by decide) rfl ?_
    exact hB133 _ hf
  have hB108 : ∀ (x0 : Int32) (x1 : Int64) (x3 : Int64), C_4_combine_B108 x0 x1 x3 = some res → GG p l e rc_4_combine s m args below meth c dC dI A 7 0 0 Q (CW E ho ro S ++ P) 108 [(0, .int x0), (1, .long x1), (3, .long x3)] [] := by
    intro x0 x1 x3 hf
    unfold C_4_combine_B108 at hf
    refine g_lload_n X dX4_combine_108 2 rfl ?_
    refine g_lconst X dX4_combine_109 kl_0 ?_
    refine g_lcmp_ne (tgt := 117) X dX4_combine_110 dX4_combine_111 (by decide) hf (fun hf => ?_) (fun hf => ?_)
    · refine g_iload_n X dX4_combine_117 0 rfl ?_
      refine g_iconst X dX4_combine_118 kc_5 ?_
      refine g_icmp_ne (tgt := 128) X dX4_combine_119 (by decide) hf (fun hf => ?_) (fun hf => ?_)
      · refine g_lload_n X dX4_combine_128 1 rfl ?_
        refine g_lload_n X dX4_combine_129 2 rfl ?_
        obtain ⟨hz130, hf⟩ := chk_some hf
        refine g_lrem X dX4_combine_130 hz130 ?_
        refine g_lv [] (lv' := []) rfl ?_
        exact hB131 _ hf
      refine g_lload_n X dX4_combine_122 1 rfl ?_
      refine g_lload_n X dX4_combine_123 2 rfl ?_
      obtain ⟨hz124, hf⟩ := chk_some hf
      refine g_ldiv X dX4_combine_124 hz124 ?_
      refine g_goto (tgt := 131) X dX4_combine_125 (by decide) ?_
      refine g_lv [] (lv' := []) rfl ?_
      exact hB131 _ hf
    refine g_ldc X dX4_combine_114 wd2_193 ?_
    exact c_reti_o hA hQ X hr hlk dX4_combine_116 hf
  refine g_lv [0, 1, 2] (lv' := [(0, .int x0), (1, .long x1), (3, .long x3)]) rfl ?_
  unfold C_4_combine at hf
  refine g_iload_n X dX4_combine_0 0 rfl ?_
  refine g_ite hf (fun hs1_0 hf => ?_) (fun hs1_0 hf => ?_)
  · refine g_tsw (tgt := 48) (off := 47) X dX4_combine_1 (by rw [hs1_0]; decide) (by rw [hs1_0]; decide) (by rw [hs1_0]; rfl) (by decide) ?_
    refine g_lload_n X dX4_combine_48 1 rfl ?_
    refine g_lload_n X dX4_combine_49 2 rfl ?_
    refine g_ladd X dX4_combine_50 ?_
    refine g_lstore (lv' := [(5, .long (x1 + x3)), (0, .int x0), (1, .long x1), (3, .long x3)]) X dX4_combine_51 (by decide) rfl ?_
    refine g_goto (tgt := 133) X dX4_combine_53 (by decide) ?_
    refine g_lv [0] (lv' := [(5, .long (x1 + x3))]) rfl ?_
    exact hB133 _ hf
  refine g_ite hf (fun hs1_1 hf => ?_) (fun hs1_1 hf => ?_)
  · refine g_tsw (tgt := 56) (off := 55) X dX4_combine_1 (by rw [hs1_1]; decide) (by rw [hs1_1]; decide) (by rw [hs1_1]; rfl) (by decide) ?_
    refine g_lload_n X dX4_combine_56 1 rfl ?_
    refine g_lload_n X dX4_combine_57 2 rfl ?_
    refine g_lsub X dX4_combine_58 ?_
    refine g_lstore (lv' := [(5, .long (x1 - x3)), (0, .int x0), (1, .long x1), (3, .long x3)]) X dX4_combine_59 (by decide) rfl ?_
    refine g_goto (tgt := 133) X dX4_combine_61 (by decide) ?_
    refine g_lv [0] (lv' := [(5, .long (x1 - x3))]) rfl ?_
    exact hB133 _ hf
  refine g_ite hf (fun hs1_2 hf => ?_) (fun hs1_2 hf => ?_)
  · refine g_tsw (tgt := 64) (off := 63) X dX4_combine_1 (by rw [hs1_2]; decide) (by rw [hs1_2]; decide) (by rw [hs1_2]; rfl) (by decide) ?_
    refine g_lload_n X dX4_combine_64 1 rfl ?_
    refine g_lload_n X dX4_combine_65 2 rfl ?_
    refine g_lmul X dX4_combine_66 ?_
    refine g_lstore (lv' := [(5, .long (x1 * x3)), (0, .int x0), (1, .long x1), (3, .long x3)]) X dX4_combine_67 (by decide) rfl ?_
    refine g_goto (tgt := 133) X dX4_combine_69 (by decide) ?_
    refine g_lv [0] (lv' := [(5, .long (x1 * x3))]) rfl ?_
    exact hB133 _ hf
  refine g_ite hf (fun hs1_3 hf => ?_) (fun hs1_3 hf => ?_)
  · refine g_tsw (tgt := 108) (off := 107) X dX4_combine_1 (by rw [hs1_3]; decide) (by rw [hs1_3]; decide) (by rw [hs1_3]; rfl) (by decide) ?_
    exact hB108 _ _ _ hf
  refine g_ite hf (fun hs1_4 hf => ?_) (fun hs1_4 hf => ?_)
  · refine g_tsw (tgt := 108) (off := 107) X dX4_combine_1 (by rw [hs1_4]; decide) (by rw [hs1_4]; decide) (by rw [hs1_4]; rfl) (by decide) ?_
    exact hB108 _ _ _ hf
  refine g_ite hf (fun hs1_5 hf => ?_) (fun hs1_5 hf => ?_)
  · refine g_tsw (tgt := 72) (off := 71) X dX4_combine_1 (by rw [hs1_5]; decide) (by rw [hs1_5]; decide) (by rw [hs1_5]; rfl) (by decide) ?_
    refine g_lload_n X dX4_combine_72 1 rfl ?_
    refine g_lload_n X dX4_combine_73 2 rfl ?_
    refine g_lcmp_ge (tgt := 82) X dX4_combine_74 dX4_combine_75 (by decide) hf (fun hf => ?_) (fun hf => ?_)
    · refine g_iconst X dX4_combine_82 kc_0 ?_
      exact c_reti_o hA hQ X hr hlk dX4_combine_83 hf
    refine g_iconst X dX4_combine_78 kc_1 ?_
    refine g_goto (tgt := 83) X dX4_combine_79 (by decide) ?_
    exact c_reti_o hA hQ X hr hlk dX4_combine_83 hf
  refine g_ite hf (fun hs1_6 hf => ?_) (fun hs1_6 hf => ?_)
  · refine g_tsw (tgt := 84) (off := 83) X dX4_combine_1 (by rw [hs1_6]; decide) (by rw [hs1_6]; decide) (by rw [hs1_6]; rfl) (by decide) ?_
    refine g_lload_n X dX4_combine_84 1 rfl ?_
    refine g_lload_n X dX4_combine_85 2 rfl ?_
    refine g_lcmp_le (tgt := 94) X dX4_combine_86 dX4_combine_87 (by decide) hf (fun hf => ?_) (fun hf => ?_)
    · refine g_iconst X dX4_combine_94 kc_0 ?_
      exact c_reti_o hA hQ X hr hlk dX4_combine_95 hf
    refine g_iconst X dX4_combine_90 kc_1 ?_
    refine g_goto (tgt := 95) X dX4_combine_91 (by decide) ?_
    exact c_reti_o hA hQ X hr hlk dX4_combine_95 hf
  refine g_ite hf (fun hs1_7 hf => ?_) (fun hs1_7 hf => ?_)
  · refine g_tsw (tgt := 96) (off := 95) X dX4_combine_1 (by rw [hs1_7]; decide) (by rw [hs1_7]; decide) (by rw [hs1_7]; rfl) (by decide) ?_
    refine g_lload_n X dX4_combine_96 1 rfl ?_
    refine g_lload_n X dX4_combine_97 2 rfl ?_
    refine g_lcmp_ne (tgt := 106) X dX4_combine_98 dX4_combine_99 (by decide) hf (fun hf => ?_) (fun hf => ?_)
    · refine g_iconst X dX4_combine_106 kc_0 ?_
      exact c_reti_o hA hQ X hr hlk dX4_combine_107 hf
    refine g_iconst X dX4_combine_102 kc_1 ?_
    refine g_goto (tgt := 107) X dX4_combine_103 (by decide) ?_
    exact c_reti_o hA hQ X hr hlk dX4_combine_107 hf
  refine g_tswO (tgt := 108) X dX4_combine_1 (g_out2_9 (lv_neT hs1_0 (by decide)) (lv_neT hs1_1 (by decide)) (lv_neT hs1_2 (by decide)) (lv_neT hs1_3 (by decide)) (lv_neT hs1_4 (by decide)) (lv_neT hs1_5 (by decide)) (lv_neT hs1_6 (by decide)) (lv_neT hs1_7 (by decide))) (by decide) ?_
  exact hB108 _ _ _ hf
def rc_4_reckon : Room := { frames := 1, cells := 0, slots := 0, locals := 26 }
set_option maxRecDepth 100000 in
set_option maxHeartbeats 4000000 in
theorem cc_4_reckon (l : Launch) (dC : Nat → ClassId) (dI : Nat → Nat → Nat) (E : Nat → ClassId) (ev : Nat → Nat) (ho : Nat → Nat) (ro : Nat → Nat → Nat) (F : Nat) (P : va_W) (S : CS) (a1 : Nat) (x2 : Int32) (x3 : Int32) (wo : Nat) (wk : Nat) (wn : Nat) (h_w : ars wo wk wn) (res : Int32 × CS) (hf : C_4_reckon F E P S a1 x2 x3 wo wk wn = some res) : CC l dC dI E ev yX4_reckon cX4_reckon 10 (some .int) rc_4_reckon [.ref (ho 12), .ref a1, .int x2, .int x3, .ref (ro wo wk)] (CW E ho ro S ++ P) (CW E ho ro res.2 ++ P) (some (.int res.1)) := by
  refine CC_of (own := "LostLanes$Reckoner") (by decide) rfl (Nat.le_of_ble_eq_true rfl) ?_
  intro p e s m args below meth c A Q X Y hr hlk hA hQ
  have hB260 : ∀ (a1 : Nat) (x6 : Int32) (k25 : CS → Int32 → Int32 → Option (Int32 × CS)) (hk25 : ∀ (S : CS) (x5 : Int32) (x7 : Int32), k25 S x5 x7 = some res → GG p l e rc_4_reckon s m args below meth c dC dI A 10 0 0 Q (CW E ho ro S ++ P) 25 [(0, .ref (ho 12)), (1, .ref a1), (4, .ref (ro wo wk)), (5, .int x5), (6, .int x6), (7, .int x7)] []) (S : CS) (x5 : Int32) (x7 : Int32), C_4_reckon_B260 F E P wo wk wn k25 S a1 x5 x6 x7 = some res → GG p l e rc_4_reckon s m args below meth c dC dI A 10 0 0 Q (CW E ho ro S ++ P) 260 [(0, .ref (ho 12)), (1, .ref a1), (4, .ref (ro wo wk)), (5, .int x5), (6, .int x6), (7, .int x7)] [] := by
    intro a1 x6 k25 hk25 S x5 x7 hf
    unfold C_4_reckon_B260 at hf
    refine g_iinc (lv' := [(7, .int (x7 + (2 : Int32))), (0, .ref (ho 12)), (1, .ref a1), (4, .ref (ro wo wk)), (5, .int x5), (6, .int x6)]) X dX4_reckon_260 5 rfl kc_2 (by decide) rfl ?_
    refine g_goto (tgt := 25) X dX4_reckon_263 (by decide) ?_
    refine g_lv [1, 2, 3, 4, 5, 0] (lv' := [(0, .ref (ho 12)), (1, .ref a1), (4, .ref (ro wo wk)), (5, .int x5), (6, .int x6), (7, .int (x7 + (2 : Int32)))]) rfl ?_
    exact hk25 _ _ _ hf
  have hB189 : ∀ (a1 : Nat) (x6 : Int32) (k25 : CS → Int32 → Int32 → Option (Int32 × CS)) (hk25 : ∀ (S : CS) (x5 : Int32) (x7 : Int32), k25 S x5 x7 = some res → GG p l e rc_4_reckon s m args below meth c dC dI A 10 0 0 Q (CW E ho ro S ++ P) 25 [(0, .ref (ho 12)), (1, .ref a1), (4, .ref (ro wo wk)), (5, .int x5), (6, .int x6), (7, .int x7)] []) (S : CS) (x5 : Int32) (x7 : Int32) (x9 : Int32) (tx0 : Int32) (tx1 : Int32), C_4_reckon_B189 F E P wo wk wn k25 S a1 x5 x6 x7 x9 tx0 tx1 = some res → GG p l e rc_4_reckon s m args below meth c dC dI A 10 0 0 Q (CW E ho ro S ++ P) 189 [(0, .ref (ho 12)), (1, .ref a1), (4, .ref (ro wo wk)), (5, .int x5), (6, .int x6), (7, .int x7), (9, .int x9)] [.int tx1, .int tx0] := by
    intro a1 x6 k25 hk25 S x5 x7 x9 tx0 tx1 hf
    unfold C_4_reckon_B189 at hf
    refine g_icmp_ne (tgt := 206) X dX4_reckon_189 (by decide) hf (fun hf => ?_) (fun hf => ?_)
    · refine g_iinc (lv' := [(5, .int (x5 + (-1 : Int32))), (0, .ref (ho 12)), (1, .ref a1), (4, .ref (ro wo wk)), (6, .int x6), (7, .int x7), (9, .int x9)]) X dX4_reckon_206 3 rfl kc_m1 (by decide) rfl ?_
      refine g_goto (tgt := 260) X dX4_reckon_209 (by decide) ?_
      refine g_lv [1, 2, 3, 0, 4, 5] (lv' := [(0, .ref (ho 12)), (1, .ref a1), (4, .ref (ro wo wk)), (5, .int (x5 + (-1 : Int32))), (6, .int x6), (7, .int x7)]) rfl ?_
      exact hB260 _ _ _ hk25 _ _ _ hf
    refine g_iload X dX4_reckon_192 5 rfl ?_
    refine g_iload X dX4_reckon_194 6 rfl ?_
    refine g_iconst X dX4_reckon_196 kc_2 ?_
    refine g_isub X dX4_reckon_197 ?_
    refine g_mmax X wd2_190 wd2_191 wd1_11 wd2_192 ⟨Nat.le_of_ble_eq_true rfl, Nat.le_of_ble_eq_true rfl⟩ (Nat.le_of_ble_eq_true rfl) ⟨Nat.le_of_ble_eq_true rfl, Nat.le_of_ble_eq_true rfl⟩ dX4_reckon_198 ?_
    refine g_istore (lv' := [(7, .int (if x7 < (x9 - (2 : Int32)) then (x9 - (2 : Int32)) else x7)), (0, .ref (ho 12)), (1, .ref a1), (4, .ref (ro wo wk)), (5, .int x5), (6, .int x6), (9, .int x9)]) X dX4_reckon_201 (by decide) rfl ?_
    refine g_goto (tgt := 260) X dX4_reckon_203 (by decide) ?_
    refine g_lv [1, 2, 3, 4, 5, 0] (lv' := [(0, .ref (ho 12)), (1, .ref a1), (4, .ref (ro wo wk)), (5, .int x5), (6, .int x6), (7, .int (if x7 < (x9 - (2 : Int32)) then (x9 - (2 : Int32)) else x7))]) rfl ?_
    exact hB260 _ _ _ hk25 _ _ _ hf
  have hB170 : ∀ (a1 : Nat) (x6 : Int32) (k25 : CS → Int32 → Int32 → Option (Int32 × CS)) (hk25 : ∀ (S : CS) (x5 : Int32) (x7 : Int32), k25 S x5 x7 = some res → GG p l e rc_4_reckon s m args below meth c dC dI A 10 0 0 Q (CW E ho ro S ++ P) 25 [(0, .ref (ho 12)), (1, .ref a1), (4, .ref (ro wo wk)), (5, .int x5), (6, .int x6), (7, .int x7)] []) (S : CS) (x5 : Int32) (x7 : Int32) (x8 : Int32) (x9 : Int32), C_4_reckon_B170 F E P wo wk wn k25 S a1 x5 x6 x7 x8 x9 = some res → GG p l e rc_4_reckon s m args below meth c dC dI A 10 0 0 Q (CW E ho ro S ++ P) 170 [(0, .ref (ho 12)), (1, .ref a1), (4, .ref (ro wo wk)), (5, .int x5), (6, .int x6), (7, .int x7), (8, .int x8), (9, .int x9)] [] := by
    intro a1 x6 k25 hk25 S x5 x7 x8 x9 hf
    unfold C_4_reckon_B170 at hf
    refine g_aload_n X dX4_reckon_170 0 rfl ?_
    refine cg_4_0 X wd1_214 dX4_reckon_171 ?_
    refine g_iload X dX4_reckon_174 3 rfl ?_
    refine ca_ld_4_0 X dX4_reckon_176 hf (fun hf => ?_)
    refine g_iload X dX4_reckon_177 6 rfl ?_
    refine g_bipush X dX4_reckon_179 kb_12 ?_
    refine g_icmp_ne (tgt := 188) X dX4_reckon_181 (by decide) hf (fun hf => ?_) (fun hf => ?_)
    · refine g_iconst X dX4_reckon_188 kc_0 ?_
      refine g_lv [0, 1, 2, 3, 4, 5, 7] (lv' := [(0, .ref (ho 12)), (1, .ref a1), (4, .ref (ro wo wk)), (5, .int x5), (6, .int x6), (7, .int x7), (9, .int x9)]) rfl ?_
      exact hB189 _ _ _ hk25 _ _ _ _ _ _ hf
    refine g_iconst X dX4_reckon_184 kc_1 ?_
    refine g_goto (tgt := 189) X dX4_reckon_185 (by decide) ?_
    refine g_lv [0, 1, 2, 3, 4, 5, 7] (lv' := [(0, .ref (ho 12)), (1, .ref a1), (4, .ref (ro wo wk)), (5, .int x5), (6, .int x6), (7, .int x7), (9, .int x9)]) rfl ?_
    exact hB189 _ _ _ hk25 _ _ _ _ _ _ hf
  have hB117 : ∀ (a1 : Nat) (x6 : Int32) (k25 : CS → Int32 → Int32 → Option (Int32 × CS)) (hk25 : ∀ (S : CS) (x5 : Int32) (x7 : Int32), k25 S x5 x7 = some res → GG p l e rc_4_reckon s m args below meth c dC dI A 10 0 0 Q (CW E ho ro S ++ P) 25 [(0, .ref (ho 12)), (1, .ref a1), (4, .ref (ro wo wk)), (5, .int x5), (6, .int x6), (7, .int x7)] []) (S : CS) (x5 : Int32) (x7 : Int32) (tx1 : Int32) (tx2 : Int32), C_4_reckon_B117 F E P wo wk wn k25 S a1 x5 x6 x7 tx1 tx2 = some res → GG p l e rc_4_reckon s m args below meth c dC dI A 10 0 0 Q (CW E ho ro S ++ P) 117 [(0, .ref (ho 12)), (1, .ref a1), (4, .ref (ro wo wk)), (5, .int x5), (6, .int x6), (7, .int x7)] [.int tx2, .int tx1, .ref (ro 12 0)] := by
    intro a1 x6 k25 hk25 S x5 x7 tx1 tx2 hf
    unfold C_4_reckon_B117 at hf
    refine ca_st_4_0 X dX4_reckon_117 hf (fun S1 hf => ?_)
    refine g_goto (tgt := 260) X dX4_reckon_118 (by decide) ?_
    exact hB260 _ _ _ hk25 _ _ _ hf
  have hB93 : ∀ (a1 : Nat) (x6 : Int32) (k25 : CS → Int32 → Int32 → Option (Int32 × CS)) (hk25 : ∀ (S : CS) (x5 : Int32) (x7 : Int32), k25 S x5 x7 = some res → GG p l e rc_4_reckon s m args below meth c dC dI A 10 0 0 Q (CW E ho ro S ++ P) 25 [(0, .ref (ho 12)), (1, .ref a1), (4, .ref (ro wo wk)), (5, .int x5), (6, .int x6), (7, .int x7)] []) (S : CS) (x5 : Int32) (x7 : Int32) (x8 : Int32) (x9 : Int32), C_4_reckon_B93 F E P wo wk wn k25 S a1 x5 x6 x7 x8 x9 = some res → GG p l e rc_4_reckon s m args below meth c dC dI A 10 0 0 Q (CW E ho ro S ++ P) 93 [(0, .ref (ho 12)), (1, .ref a1), (4, .ref (ro wo wk)), (5, .int x5), (6, .int x6), (7, .int x7), (8, .int x8), (9, .int x9)] [] := by
    intro a1 x6 k25 hk25 S x5 x7 x8 x9 hf
    unfold C_4_reckon_B93 at hf
    refine g_iinc (lv' := [(5, .int (x5 + (1 : Int32))), (0, .ref (ho 12)), (1, .ref a1), (4, .ref (ro wo wk)), (6, .int x6), (7, .int x7), (8, .int x8), (9, .int x9)]) X dX4_reckon_93 3 rfl kc_1 (by decide) rfl ?_
    refine g_aload_n X dX4_reckon_96 1 rfl ?_
    refine cg_4_0 X wd1_214 dX4_reckon_97 ?_
    refine g_iload X dX4_reckon_100 0 rfl ?_
    refine g_iload X dX4_reckon_102 6 rfl ?_
    refine g_if_ne (tgt := 112) X dX4_reckon_104 (by decide) hf (fun hf => ?_) (fun hf => ?_)
    · refine g_aload X dX4_reckon_112 3 rfl ?_
      refine g_iload X dX4_reckon_114 7 rfl ?_
      refine ars_ld X h_w dX4_reckon_116 hf (fun hf => ?_)
      refine g_lv [1, 2, 3, 0, 4, 5] (lv' := [(0, .ref (ho 12)), (1, .ref a1), (4, .ref (ro wo wk)), (5, .int (x5 + (1 : Int32))), (6, .int x6), (7, .int x7)]) rfl ?_
      exact hB117 _ _ _ hk25 _ _ _ _ _ hf
    refine g_iload X dX4_reckon_107 7 rfl ?_
    refine g_goto (tgt := 117) X dX4_reckon_109 (by decide) ?_
    refine g_lv [1, 2, 3, 0, 4, 5] (lv' := [(0, .ref (ho 12)), (1, .ref a1), (4, .ref (ro wo wk)), (5, .int (x5 + (1 : Int32))), (6, .int x6), (7, .int x7)]) rfl ?_
    exact hB117 _ _ _ hk25 _ _ _ _ _ hf
  have hB90 : ∀ (S : CS), C_4_reckon_B90 F E P wo wk wn S = some res → GG p l e rc_4_reckon s m args below meth c dC dI A 10 0 0 Q (CW E ho ro S ++ P) 90 [] [] := by
    intro S hf
    unfold C_4_reckon_B90 at hf
    refine g_ldc X dX4_reckon_90 wd2_193 ?_
    exact c_reti_s hA hQ X hr hlk dX4_reckon_92 hf
  have hB59 : ∀ (a1 : Nat) (x6 : Int32) (k25 : CS → Int32 → Int32 → Option (Int32 × CS)) (hk25 : ∀ (S : CS) (x5 : Int32) (x7 : Int32), k25 S x5 x7 = some res → GG p l e rc_4_reckon s m args below meth c dC dI A 10 0 0 Q (CW E ho ro S ++ P) 25 [(0, .ref (ho 12)), (1, .ref a1), (4, .ref (ro wo wk)), (5, .int x5), (6, .int x6), (7, .int x7)] []) (S : CS) (x5 : Int32) (x7 : Int32) (x8 : Int32) (x9 : Int32), C_4_reckon_B59 F E P wo wk wn k25 S a1 x5 x6 x7 x8 x9 = some res → GG p l e rc_4_reckon s m args below meth c dC dI A 10 0 0 Q (CW E ho ro S ++ P) 59 [(0, .ref (ho 12)), (1, .ref a1), (4, .ref (ro wo wk)), (5, .int x5), (6, .int x6), (7, .int x7), (8, .int x8), (9, .int x9)] [] := by
    intro a1 x6 k25 hk25 S x5 x7 x8 x9 hf
    unfold C_4_reckon_B59 at hf
    refine g_iload X dX4_reckon_59 3 rfl ?_
    refine g_iconst X dX4_reckon_61 kc_1 ?_
    refine g_iadd X dX4_reckon_62 ?_
    refine g_aload_n X dX4_reckon_63 0 rfl ?_
    refine cg_4_0 X wd1_214 dX4_reckon_64 ?_
    refine ca_len_4_0 X kn_52 dX4_reckon_67 ?_
    refine g_icmp_ge (tgt := 90) X dX4_reckon_68 (by decide) hf (fun hf => ?_) (fun hf => ?_)
    · refine g_lv [] (lv' := []) rfl ?_
      exact hB90 _ hf
    refine g_iload X dX4_reckon_71 6 rfl ?_
    refine g_iconst X dX4_reckon_73 kc_1 ?_
    refine g_icmp_ne (tgt := 93) X dX4_reckon_74 (by decide) hf (fun hf => ?_) (fun hf => ?_)
    · exact hB93 _ _ _ hk25 _ _ _ _ _ hf
    refine g_iload X dX4_reckon_77 7 rfl ?_
    refine g_if_lt (tgt := 90) X dX4_reckon_79 (by decide) hf (fun hf => ?_) (fun hf => ?_)
    · refine g_lv [] (lv' := []) rfl ?_
      exact hB90 _ hf
    refine g_iload X dX4_reckon_82 7 rfl ?_
    refine g_aload X dX4_reckon_84 2 rfl ?_
    refine ars_len X h_w dX4_reckon_86 ?_
    refine g_icmp_lt (tgt := 93) X dX4_reckon_87 (by decide) hf (fun hf => ?_) (fun hf => ?_)
    · exact hB93 _ _ _ hk25 _ _ _ _ _ hf
    refine g_lv [] (lv' := []) rfl ?_
    exact hB90 _ hf
  have hL25 : ∀ (a1 : Nat) (x6 : Int32) (n : Nat) (S : CS) (x5 : Int32) (x7 : Int32), C_4_reckon_L25 F E P wo wk wn a1 x6 n S x5 x7 = some res → GG p l e rc_4_reckon s m args below meth c dC dI A 10 0 0 Q (CW E ho ro S ++ P) 25 [(0, .ref (ho 12)), (1, .ref a1), (4, .ref (ro wo wk)), (5, .int x5), (6, .int x6), (7, .int x7)] [] := by
    intro a1 x6 n
    induction n with
    | zero => intro S x5 x7 hf; have hf : (none : Option (Int32 × CS)) = some res := hf; cases hf
    | succ n ih =>
      intro S x5 x7 hf
      rw [C_4_reckon_L25] at hf
      refine g_iload X dX4_reckon_25 5 rfl ?_
      refine g_iconst X dX4_reckon_27 kc_1 ?_
      refine g_iadd X dX4_reckon_28 ?_
      refine g_iload X dX4_reckon_29 4 rfl ?_
      refine g_icmp_ge (tgt := 266) X dX4_reckon_31 (by decide) hf (fun hf => ?_) (fun hf => ?_)
      · refine g_aload_n X dX4_reckon_266 0 rfl ?_
        refine cg_4_0 X wd1_214 dX4_reckon_267 ?_
        refine g_iload X dX4_reckon_270 3 rfl ?_
        refine ca_ld_4_0 X dX4_reckon_272 hf (fun hf => ?_)
        exact c_reti_s hA hQ X hr hlk dX4_reckon_273 hf
      refine g_aload_n X dX4_reckon_34 1 rfl ?_
      refine g_iload X dX4_reckon_35 5 rfl ?_
      refine p_ald X dX4_reckon_37 hf (fun v2 hf => ?_)
      refine g_istore (lv' := [(8, .int v2), (0, .ref (ho 12)), (1, .ref a1), (4, .ref (ro wo wk)), (5, .int x5), (6, .int x6), (7, .int x7)]) X dX4_reckon_38 (by decide) rfl ?_
      refine g_aload_n X dX4_reckon_40 2 rfl ?_
      refine g_iload X dX4_reckon_41 6 rfl ?_
      refine g_iconst X dX4_reckon_43 kc_1 ?_
      refine g_iadd X dX4_reckon_44 ?_
      refine p_ald X dX4_reckon_45 hf (fun v3 hf => ?_)
      refine g_istore (lv' := [(9, .int v3), (8, .int v2), (0, .ref (ho 12)), (1, .ref a1), (4, .ref (ro wo wk)), (5, .int x5), (6, .int x6), (7, .int x7)]) X dX4_reckon_46 (by decide) rfl ?_
      refine g_iload X dX4_reckon_48 1 rfl ?_
      refine g_if_eq (tgt := 59) X dX4_reckon_50 (by decide) hf (fun hf => ?_) (fun hf => ?_)
      · refine g_lv [2, 3, 4, 5, 6, 7, 1, 0] (lv' := [(0, .ref (ho 12)), (1, .ref a1), (4, .ref (ro wo wk)), (5, .int x5), (6, .int x6), (7, .int x7), (8, .int v2), (9, .int v3)]) rfl ?_
        exact hB59 _ _ _ ih _ _ _ _ _ hf
      refine g_iload X dX4_reckon_53 1 rfl ?_
      refine g_iconst X dX4_reckon_55 kc_1 ?_
      refine g_icmp_ne (tgt := 121) X dX4_reckon_56 (by decide) hf (fun hf => ?_) (fun hf => ?_)
      · refine g_iload X dX4_reckon_121 1 rfl ?_
        refine g_bipush X dX4_reckon_123 kb_10 ?_
        refine g_icmp_ne (tgt := 147) X dX4_reckon_125 (by decide) hf (fun hf => ?_) (fun hf => ?_)
        · refine g_iload X dX4_reckon_147 5 rfl ?_
          refine g_iconst X dX4_reckon_149 kc_1 ?_
          refine g_icmp_ge (tgt := 156) X dX4_reckon_150 (by decide) hf (fun hf => ?_) (fun hf => ?_)
          · refine g_iload X dX4_reckon_156 1 rfl ?_
            refine g_bipush X dX4_reckon_158 kb_11 ?_
            refine g_icmp_eq (tgt := 170) X dX4_reckon_160 (by decide) hf (fun hf => ?_) (fun hf => ?_)
            · refine g_lv [2, 3, 4, 5, 6, 7, 1, 0] (lv' := [(0, .ref (ho 12)), (1, .ref a1), (4, .ref (ro wo wk)), (5, .int x5), (6, .int x6), (7, .int x7), (8, .int v2), (9, .int v3)]) rfl ?_
              exact hB170 _ _ _ ih _ _ _ _ _ hf
            refine g_iload X dX4_reckon_163 1 rfl ?_
            refine g_bipush X dX4_reckon_165 kb_12 ?_
            refine g_icmp_ne (tgt := 212) X dX4_reckon_167 (by decide) hf (fun hf => ?_) (fun hf => ?_)
            · refine g_iinc (lv' := [(5, .int (x5 + (-1 : Int32))), (9, .int v3), (8, .int v2), (0, .ref (ho 12)), (1, .ref a1), (4, .ref (ro wo wk)), (6, .int x6), (7, .int x7)]) X dX4_reckon_212 5 rfl kc_m1 (by decide) rfl ?_
              refine g_aload_n X dX4_reckon_215 3 rfl ?_
              refine cg_4_0 X wd1_214 dX4_reckon_216 ?_
              refine g_iload X dX4_reckon_219 0 rfl ?_
              refine g_iload X dX4_reckon_221 2 rfl ?_
              refine g_aload_n X dX4_reckon_223 3 rfl ?_
              refine cg_4_0 X wd1_214 dX4_reckon_224 ?_
              refine g_iload X dX4_reckon_227 0 rfl ?_
              refine ca_ld_4_0 X dX4_reckon_229 hf (fun hf => ?_)
              refine g_i2l X dX4_reckon_230 ?_
              refine g_aload_n X dX4_reckon_231 3 rfl ?_
              refine cg_4_0 X wd1_214 dX4_reckon_232 ?_
              refine g_iload X dX4_reckon_235 0 rfl ?_
              refine g_iconst X dX4_reckon_237 kc_1 ?_
              refine g_iadd X dX4_reckon_238 ?_
              refine ca_ld_4_0 X dX4_reckon_239 hf (fun hf => ?_)
              refine g_i2l X dX4_reckon_240 ?_
              refine m_bind hf (fun y4 hy4 hf => ?_)
              refine cw_S_i (As := [.int v2, .long ((ca S 12 0 ((x5 + (-1 : Int32))).toNatClampNeg)).toInt64, .long ((ca S 12 0 (((x5 + (-1 : Int32)) + (1 : Int32))).toNatClampNeg)).toInt64]) (st := [.int (x5 + (-1 : Int32)), .ref (ro 12 0)]) X Y kS_X4_27 (cc_4_combine l dC dI E ev ho ro P S v2 ((ca S 12 0 ((x5 + (-1 : Int32))).toNatClampNeg)).toInt64 ((ca S 12 0 (((x5 + (-1 : Int32)) + (1 : Int32))).toNatClampNeg)).toInt64 y4 hy4) ⟨Nat.le_of_ble_eq_true rfl, Nat.le_of_ble_eq_true rfl⟩ ⟨rfl, rfl⟩ (Nat.le_of_ble_eq_true rfl) ⟨Nat.le_of_ble_eq_true rfl, Nat.le_of_ble_eq_true rfl⟩ dX4_reckon_241 ?_
              refine ca_st_4_0 X dX4_reckon_244 hf (fun S5 hf => ?_)
              refine g_aload_n X dX4_reckon_245 3 rfl ?_
              refine cg_4_0 X wd1_214 dX4_reckon_246 ?_
              refine g_iload X dX4_reckon_249 0 rfl ?_
              refine ca_ld_4_0 X dX4_reckon_251 hf (fun hf => ?_)
              refine g_ldc X dX4_reckon_252 wd2_193 ?_
              refine g_icmp_ne (tgt := 260) X dX4_reckon_254 (by decide) hf (fun hf => ?_) (fun hf => ?_)
              · refine g_lv [3, 4, 5, 0, 6, 7] (lv' := [(0, .ref (ho 12)), (1, .ref a1), (4, .ref (ro wo wk)), (5, .int (x5 + (-1 : Int32))), (6, .int x6), (7, .int x7)]) rfl ?_
                exact hB260 _ _ _ ih _ _ _ hf
              refine g_ldc X dX4_reckon_257 wd2_193 ?_
              exact c_reti_s hA hQ X hr hlk dX4_reckon_259 hf
            refine g_lv [2, 3, 4, 5, 6, 7, 1, 0] (lv' := [(0, .ref (ho 12)), (1, .ref a1), (4, .ref (ro wo wk)), (5, .int x5), (6, .int x6), (7, .int x7), (8, .int v2), (9, .int v3)]) rfl ?_
            exact hB170 _ _ _ ih _ _ _ _ _ hf
          refine g_ldc X dX4_reckon_153 wd2_193 ?_
          exact c_reti_s hA hQ X hr hlk dX4_reckon_155 hf
        refine g_aload_n X dX4_reckon_128 2 rfl ?_
        refine cg_4_0 X wd1_214 dX4_reckon_129 ?_
        refine g_iload X dX4_reckon_132 5 rfl ?_
        refine g_iconst X dX4_reckon_134 kc_1 ?_
        refine g_aload_n X dX4_reckon_135 2 rfl ?_
        refine cg_4_0 X wd1_214 dX4_reckon_136 ?_
        refine g_iload X dX4_reckon_139 5 rfl ?_
        refine ca_ld_4_0 X dX4_reckon_141 hf (fun hf => ?_)
        refine g_isub X dX4_reckon_142 ?_
        refine ca_st_4_0 X dX4_reckon_143 hf (fun S6 hf => ?_)
        refine g_goto (tgt := 260) X dX4_reckon_144 (by decide) ?_
        refine g_lv [2, 3, 4, 5, 6, 7] (lv' := [(0, .ref (ho 12)), (1, .ref a1), (4, .ref (ro wo wk)), (5, .int x5), (6, .int x6), (7, .int x7)]) rfl ?_
        exact hB260 _ _ _ ih _ _ _ hf
      refine g_lv [2, 3, 4, 5, 6, 7, 1, 0] (lv' := [(0, .ref (ho 12)), (1, .ref a1), (4, .ref (ro wo wk)), (5, .int x5), (6, .int x6), (7, .int x7), (8, .int v2), (9, .int v3)]) rfl ?_
      exact hB59 _ _ _ ih _ _ _ _ _ hf
  refine g_lv [0, 1, 2, 3, 4] (lv' := [(0, .ref (ho 12)), (1, .ref a1), (2, .int x2), (3, .int x3), (4, .ref (ro wo wk))]) rfl ?_
  unfold C_4_reckon at hf
  refine g_iconst X dX4_reckon_0 kc_0 ?_
  refine g_istore (lv' := [(5, .int (0 : Int32)), (0, .ref (ho 12)), (1, .ref a1), (2, .int x2), (3, .int x3), (4, .ref (ro wo wk))]) X dX4_reckon_1 (by decide) rfl ?_
  refine g_aload_n X dX4_reckon_3 1 rfl ?_
  refine cg_4_0 X wd1_214 dX4_reckon_4 ?_
  refine g_iconst X dX4_reckon_7 kc_0 ?_
  refine g_iconst X dX4_reckon_8 kc_0 ?_
  refine ca_stc_4_0 X kt_0 kx_0_52 dX4_reckon_9 hf (fun S7 hf => ?_)
  refine g_iload_n X dX4_reckon_10 4 rfl ?_
  refine g_aload_n X dX4_reckon_11 2 rfl ?_
  refine p_alen X dX4_reckon_12 hf (fun v8 hf => ?_)
  refine g_mmin X wd2_189 wd2_179 wd1_11 wd2_180 ⟨Nat.le_of_ble_eq_true rfl, Nat.le_of_ble_eq_true rfl⟩ (Nat.le_of_ble_eq_true rfl) ⟨Nat.le_of_ble_eq_true rfl, Nat.le_of_ble_eq_true rfl⟩ dX4_reckon_13 ?_
  refine g_istore (lv' := [(6, .int (if v8 < x3 then v8 else x3)), (5, .int (0 : Int32)), (0, .ref (ho 12)), (1, .ref a1), (2, .int x2), (3, .int x3), (4, .ref (ro wo wk))]) X dX4_reckon_16 (by decide) rfl ?_
  refine g_iload_n X dX4_reckon_18 4 rfl ?_
  refine g_iconst X dX4_reckon_19 kc_0 ?_
  refine g_mmax X wd2_190 wd2_191 wd1_11 wd2_192 ⟨Nat.le_of_ble_eq_true rfl, Nat.le_of_ble_eq_true rfl⟩ (Nat.le_of_ble_eq_true rfl) ⟨Nat.le_of_ble_eq_true rfl, Nat.le_of_ble_eq_true rfl⟩ dX4_reckon_20 ?_
  refine g_istore (lv' := [(7, .int (if x2 < (0 : Int32) then (0 : Int32) else x2)), (6, .int (if v8 < x3 then v8 else x3)), (5, .int (0 : Int32)), (0, .ref (ho 12)), (1, .ref a1), (2, .int x2), (3, .int x3), (4, .ref (ro wo wk))]) X dX4_reckon_23 (by decide) rfl ?_
  refine g_lv [3, 4, 7, 2, 1, 0] (lv' := [(0, .ref (ho 12)), (1, .ref a1), (4, .ref (ro wo wk)), (5, .int (0 : Int32)), (6, .int (if v8 < x3 then v8 else x3)), (7, .int (if x2 < (0 : Int32) then (0 : Int32) else x2))]) rfl ?_
  exact hL25 _ _ _ _ _ _ hf
def rc_6_addFour : Room := { frames := 0, cells := 0, slots := 0, locals := 0 }
set_option maxRecDepth 100000 in
set_option maxHeartbeats 4000000 in
theorem cc_6_addFour (l : Launch) (dC : Nat → ClassId) (dI : Nat → Nat → Nat) (E : Nat → ClassId) (ev : Nat → Nat) (ho : Nat → Nat) (ro : Nat → Nat → Nat) (F : Nat) (P : va_W) (S : CS) (x1 : Int32)  (res : Unit × CS) (hf : C_6_addFour F S x1 = some res) : CC l dC dI E ev yX6_addFour cX6_addFour 3 none rc_6_addFour [.ref (ho 10), .int x1] (CW E ho ro S ++ P) (CW E ho ro res.2 ++ P) none := by
  refine CC_of (own := "LostLanes$Tape") (by decide) rfl (Nat.le_of_ble_eq_true rfl) ?_
  intro p e s m args below meth c A Q X Y hr hlk hA hQ
  have hL3 : ∀ (x1 : Int32) (n : Nat) (S : CS) (x2 : Int32), C_6_addFour_L3 F x1 n S x2 = some res → GG p l e rc_6_addFour s m args below meth c dC dI A 3 0 0 Q (CW E ho ro S ++ P) 3 [(0, .ref (ho 10)), (1, .int x1), (2, .int x2)] [] := by
    intro x1 n
    induction n with
    | zero => intro S x2 hf; have hf : (none : Option (Unit × CS)) = some res := hf; cases hf
    | succ n ih =>
      intro S x2 hf
      rw [C_6_addFour_L3] at hf
      refine g_iload_n X dX6_addFour_3 2 rfl ?_
      refine g_if_lt (tgt := 49) X dX6_addFour_4 (by decide) hf (fun hf => ?_) (fun hf => ?_)
      · exact c_retv_s hA hQ X hr hlk dX6_addFour_49 hf
      refine g_aload_n X dX6_addFour_7 0 rfl ?_
      refine cg_6_1 X wd1_158 dX6_addFour_8 ?_
      refine g_sipush X dX6_addFour_11 ks_400 ?_
      refine g_icmp_ge (tgt := 49) X dX6_addFour_14 (by decide) hf (fun hf => ?_) (fun hf => ?_)
      · exact c_retv_s hA hQ X hr hlk dX6_addFour_49 hf
      refine g_aload_n X dX6_addFour_17 0 rfl ?_
      refine cg_6_0 X wd1_155 dX6_addFour_18 ?_
      refine g_aload_n X dX6_addFour_21 0 rfl ?_
      refine cg_6_1 X wd1_158 dX6_addFour_22 ?_
      refine g_iload_n X dX6_addFour_25 1 rfl ?_
      refine g_iload_n X dX6_addFour_26 2 rfl ?_
      refine g_iushr X dX6_addFour_27 ?_
      refine g_sipush X dX6_addFour_28 ks_255 ?_
      refine g_iand X dX6_addFour_31 ?_
      refine ca_st_6_0 X dX6_addFour_32 hf (fun S1 hf => ?_)
      refine g_aload_n X dX6_addFour_33 0 rfl ?_
      refine g_dup X dX6_addFour_34 rfl ?_
      refine cg_6_1 X wd1_158 dX6_addFour_35 ?_
      refine g_iconst X dX6_addFour_38 kc_1 ?_
      refine g_iadd X dX6_addFour_39 ?_
      refine cp_6_1 X wd1_158 dX6_addFour_40 hf (fun S2 hf => ?_)
      refine g_iinc (lv' := [(2, .int (x2 + (-8 : Int32))), (0, .ref (ho 10)), (1, .int x1)]) X dX6_addFour_43 2 rfl kc_m8 (by decide) rfl ?_
      refine g_goto (tgt := 3) X dX6_addFour_46 (by decide) ?_
      refine g_lv [1, 2, 0] (lv' := [(0, .ref (ho 10)), (1, .int x1), (2, .int (x2 + (-8 : Int32)))]) rfl ?_
      exact ih _ _ hf
  refine g_lv [0, 1] (lv' := [(0, .ref (ho 10)), (1, .int x1)]) rfl ?_
  unfold C_6_addFour at hf
  refine g_bipush X dX6_addFour_0 kb_24 ?_
  refine g_istore_n (i := 2) (lv' := [(2, .int (24 : Int32)), (0, .ref (ho 10)), (1, .int x1)]) X dX6_addFour_2 rfl (by decide) rfl ?_
  refine g_lv [1, 2, 0] (lv' := [(0, .ref (ho 10)), (1, .int x1), (2, .int (24 : Int32))]) rfl ?_
  exact hL3 _ _ _ _ hf
def rc_7_hasChild : Room := { frames := 0, cells := 0, slots := 0, locals := 0 }
set_option maxRecDepth 100000 in
set_option maxHeartbeats 4000000 in
theorem cc_7_hasChild (l : Launch) (dC : Nat → ClassId) (dI : Nat → Nat → Nat) (E : Nat → ClassId) (ev : Nat → Nat) (ho : Nat → Nat) (ro : Nat → Nat → Nat) (P : va_W) (S : CS) (o0 : Nat) (x1 : Int32) (h_o0 : tw o0) (res : Int32) (hf : C_7_hasChild S o0 x1 = some res) : CC l dC dI E ev yX7_hasChild cX7_hasChild 2 (some .boolean) rc_7_hasChild [.ref (ho o0), .int x1] (CW E ho ro S ++ P) (CW E ho ro S ++ P) (some (.int res)) := by
  refine CC_of (own := "LostLanes$Town") (by decide) rfl (Nat.le_of_ble_eq_true rfl) ?_
  intro p e s m args below meth c A Q X Y hr hlk hA hQ
  refine g_lv [0, 1] (lv' := [(0, .ref (ho o0)), (1, .int x1)]) rfl ?_
  unfold C_7_hasChild at hf
  refine g_iload_n X dX7_hasChild_0 1 rfl ?_
  refine g_if_lt (tgt := 21) X dX7_hasChild_1 (by decide) hf (fun hf => ?_) (fun hf => ?_)
  · refine g_iconst X dX7_hasChild_21 kc_0 ?_
    exact c_retz_o hA hQ X hr hlk (Or.inl rfl) dX7_hasChild_22 hf
  refine g_iload_n X dX7_hasChild_4 1 rfl ?_
  refine g_aload_n X dX7_hasChild_5 0 rfl ?_
  refine cg_7_9 X h_o0 wd1_73 dX7_hasChild_6 ?_
  refine g_icmp_ge (tgt := 21) X dX7_hasChild_9 (by decide) hf (fun hf => ?_) (fun hf => ?_)
  · refine g_iconst X dX7_hasChild_21 kc_0 ?_
    exact c_retz_o hA hQ X hr hlk (Or.inl rfl) dX7_hasChild_22 hf
  refine g_iload_n X dX7_hasChild_12 1 rfl ?_
  refine g_iconst X dX7_hasChild_13 kc_4 ?_
  refine g_icmp_ge (tgt := 21) X dX7_hasChild_14 (by decide) hf (fun hf => ?_) (fun hf => ?_)
  · refine g_iconst X dX7_hasChild_21 kc_0 ?_
    exact c_retz_o hA hQ X hr hlk (Or.inl rfl) dX7_hasChild_22 hf
  refine g_iconst X dX7_hasChild_17 kc_1 ?_
  refine g_goto (tgt := 22) X dX7_hasChild_18 (by decide) ?_
  exact c_retz_o hA hQ X hr hlk (Or.inr rfl) dX7_hasChild_22 hf
def rc_7_hasLaw : Room := { frames := 0, cells := 0, slots := 0, locals := 0 }
set_option maxRecDepth 100000 in
set_option maxHeartbeats 4000000 in
theorem cc_7_hasLaw (l : Launch) (dC : Nat → ClassId) (dI : Nat → Nat → Nat) (E : Nat → ClassId) (ev : Nat → Nat) (ho : Nat → Nat) (ro : Nat → Nat → Nat) (P : va_W) (S : CS) (o0 : Nat) (x1 : Int32) (h_o0 : tw o0) (res : Int32) (hf : C_7_hasLaw S o0 x1 = some res) : CC l dC dI E ev yX7_hasLaw cX7_hasLaw 2 (some .boolean) rc_7_hasLaw [.ref (ho o0), .int x1] (CW E ho ro S ++ P) (CW E ho ro S ++ P) (some (.int res)) := by
  refine CC_of (own := "LostLanes$Town") (by decide) rfl (Nat.le_of_ble_eq_true rfl) ?_
  intro p e s m args below meth c A Q X Y hr hlk hA hQ
  refine g_lv [0, 1] (lv' := [(0, .ref (ho o0)), (1, .int x1)]) rfl ?_
  unfold C_7_hasLaw at hf
  refine g_iload_n X dX7_hasLaw_0 1 rfl ?_
  refine g_if_lt (tgt := 22) X dX7_hasLaw_1 (by decide) hf (fun hf => ?_) (fun hf => ?_)
  · refine g_iconst X dX7_hasLaw_22 kc_0 ?_
    exact c_retz_o hA hQ X hr hlk (Or.inl rfl) dX7_hasLaw_23 hf
  refine g_iload_n X dX7_hasLaw_4 1 rfl ?_
  refine g_aload_n X dX7_hasLaw_5 0 rfl ?_
  refine cg_7_14 X h_o0 wd1_87 dX7_hasLaw_6 ?_
  refine g_icmp_ge (tgt := 22) X dX7_hasLaw_9 (by decide) hf (fun hf => ?_) (fun hf => ?_)
  · refine g_iconst X dX7_hasLaw_22 kc_0 ?_
    exact c_retz_o hA hQ X hr hlk (Or.inl rfl) dX7_hasLaw_23 hf
  refine g_iload_n X dX7_hasLaw_12 1 rfl ?_
  refine g_bipush X dX7_hasLaw_13 kb_6 ?_
  refine g_icmp_ge (tgt := 22) X dX7_hasLaw_15 (by decide) hf (fun hf => ?_) (fun hf => ?_)
  · refine g_iconst X dX7_hasLaw_22 kc_0 ?_
    exact c_retz_o hA hQ X hr hlk (Or.inl rfl) dX7_hasLaw_23 hf
  refine g_iconst X dX7_hasLaw_18 kc_1 ?_
  refine g_goto (tgt := 23) X dX7_hasLaw_19 (by decide) ?_
  exact c_retz_o hA hQ X hr hlk (Or.inr rfl) dX7_hasLaw_23 hf
def rc_7_lawOf : Room := { frames := 1, cells := 0, slots := 0, locals := 21 }
set_option maxRecDepth 100000 in
set_option maxHeartbeats 4000000 in
theorem cc_7_lawOf (l : Launch) (dC : Nat → ClassId) (dI : Nat → Nat → Nat) (E : Nat → ClassId) (ev : Nat → Nat) (ho : Nat → Nat) (ro : Nat → Nat → Nat) (P : va_W) (S : CS) (o0 : Nat) (x1 : Int32) (h_o0 : tw o0) (res : (Option Nat)) (hf : C_7_lawOf S o0 x1 = some res) : CC l dC dI E ev yX7_lawOf cX7_lawOf 2 (some (.object "LostLanes$Script")) rc_7_lawOf [.ref (ho o0), .int x1] (CW E ho ro S ++ P) (CW E ho ro S ++ P) (some (va_rf res)) := by
  refine CC_of (own := "LostLanes$Town") (by decide) rfl (Nat.le_of_ble_eq_true rfl) ?_
  intro p e s m args below meth c A Q X Y hr hlk hA hQ
  refine g_lv [0, 1] (lv' := [(0, .ref (ho o0)), (1, .int x1)]) rfl ?_
  unfold C_7_lawOf at hf
  refine g_aload_n X dX7_lawOf_0 0 rfl ?_
  refine g_iload_n X dX7_lawOf_1 1 rfl ?_
  refine m_bind hf (fun y1 hy1 hf => ?_)
  refine cw_V_i (cix := 7) (As := [.int x1]) (st := []) X Y kV_X7_61 (cc_7_hasLaw l dC dI E ev ho ro P S o0 x1 h_o0 y1 hy1) (ob_7 h_o0) rfl ⟨Nat.le_of_ble_eq_true rfl, Nat.le_of_ble_eq_true rfl⟩ ⟨rfl, rfl⟩ (Nat.le_of_ble_eq_true rfl) ⟨Nat.le_of_ble_eq_true rfl, Nat.le_of_ble_eq_true rfl⟩ dX7_lawOf_2 ?_
  refine g_if_eq (tgt := 17) X dX7_lawOf_5 (by decide) hf (fun hf => ?_) (fun hf => ?_)
  · refine g_null X dX7_lawOf_17 ?_
    exact c_retq_o (v := none) hA hQ X hr hlk dX7_lawOf_18 hf
  refine g_aload_n X dX7_lawOf_8 0 rfl ?_
  refine cg_7_13 X h_o0 wd1_85 dX7_lawOf_9 ?_
  refine g_iload_n X dX7_lawOf_12 1 rfl ?_
  refine ca_ldq_7_13 X h_o0 dX7_lawOf_13 hf (fun qv2 hf => ?_)
  refine g_goto (tgt := 18) X dX7_lawOf_14 (by decide) ?_
  exact c_retq_o (v := qv2) hA hQ X hr hlk dX7_lawOf_18 hf
def rc_7_lawInForce : Room := { frames := 2, cells := 0, slots := 0, locals := 42 }
set_option maxRecDepth 100000 in
set_option maxHeartbeats 4000000 in
theorem cc_7_lawInForce (l : Launch) (dC : Nat → ClassId) (dI : Nat → Nat → Nat) (E : Nat → ClassId) (ev : Nat → Nat) (ho : Nat → Nat) (ro : Nat → Nat → Nat) (P : va_W) (S : CS) (o0 : Nat) (h_o0 : tw o0) (res : (Option Nat)) (hf : C_7_lawInForce S o0 = some res) : CC l dC dI E ev yX7_lawInForce cX7_lawInForce 1 (some (.object "LostLanes$Script")) rc_7_lawInForce [.ref (ho o0)] (CW E ho ro S ++ P) (CW E ho ro S ++ P) (some (va_rf res)) := by
  refine CC_of (own := "LostLanes$Town") (by decide) rfl (Nat.le_of_ble_eq_true rfl) ?_
  intro p e s m args below meth c A Q X Y hr hlk hA hQ
  refine g_lv [0] (lv' := [(0, .ref (ho o0))]) rfl ?_
  unfold C_7_lawInForce at hf
  refine g_aload_n X dX7_lawInForce_0 0 rfl ?_
  refine g_aload_n X dX7_lawInForce_1 0 rfl ?_
  refine cg_7_15 X h_o0 wd1_89 dX7_lawInForce_2 ?_
  refine m_bind hf (fun y1 hy1 hf => ?_)
  refine cw_V_q (cix := 7) (As := [.int (ci S o0 15)]) (st := []) X Y kV_X7_65 (cc_7_lawOf l dC dI E ev ho ro P S o0 (ci S o0 15) h_o0 y1 hy1) (ob_7 h_o0) rfl ⟨Nat.le_of_ble_eq_true rfl, Nat.le_of_ble_eq_true rfl⟩ ⟨rfl, rfl⟩ (Nat.le_of_ble_eq_true rfl) ⟨Nat.le_of_ble_eq_true rfl, Nat.le_of_ble_eq_true rfl⟩ dX7_lawInForce_5 ?_
  exact c_retq_o (v := y1) hA hQ X hr hlk dX7_lawInForce_8 hf
def rc_7_addLane : Room := { frames := 0, cells := 0, slots := 0, locals := 0 }
set_option maxRecDepth 100000 in
set_option maxHeartbeats 4000000 in
theorem cc_7_addLane (l : Launch) (dC : Nat → ClassId) (dI : Nat → Nat → Nat) (E : Nat → ClassId) (ev : Nat → Nat) (ho : Nat → Nat) (ro : Nat → Nat → Nat) (P : va_W) (S : CS) (o0 : Nat) (x1 : Int32) (x2 : Int32) (x3 : Int32) (x4 : Int32) (h_o0 : tw o0) (res : Int32 × CS) (hf : C_7_addLane S o0 x1 x2 x3 x4 = some res) : CC l dC dI E ev yX7_addLane cX7_addLane 5 (some .int) rc_7_addLane [.ref (ho o0), .int x1, .int x2, .int x3, .int x4] (CW E ho ro S ++ P) (CW E ho ro res.2 ++ P) (some (.int res.1)) := by
  refine CC_of (own := "LostLanes$Town") (by decide) rfl (Nat.le_of_ble_eq_true rfl) ?_
  intro p e s m args below meth c A Q X Y hr hlk hA hQ
  refine g_lv [0, 1, 2, 3, 4] (lv' := [(0, .ref (ho o0)), (1, .int x1), (2, .int x2), (3, .int x3), (4, .int x4)]) rfl ?_
  unfold C_7_addLane at hf
  refine g_aload_n X dX7_addLane_0 0 rfl ?_
  refine cg_7_5 X h_o0 wd1_57 dX7_addLane_1 ?_
  refine g_bipush X dX7_addLane_4 kb_10 ?_
  refine g_icmp_lt (tgt := 11) X dX7_addLane_6 (by decide) hf (fun hf => ?_) (fun hf => ?_)
  · refine g_aload_n X dX7_addLane_11 0 rfl ?_
    refine cg_7_0 X h_o0 wd1_37 dX7_addLane_12 ?_
    refine g_aload_n X dX7_addLane_15 0 rfl ?_
    refine cg_7_5 X h_o0 wd1_57 dX7_addLane_16 ?_
    refine g_iload_n X dX7_addLane_19 1 rfl ?_
    refine ca_st_7_0 X h_o0 dX7_addLane_20 hf (fun S1 hf => ?_)
    refine g_aload_n X dX7_addLane_21 0 rfl ?_
    refine cg_7_1 X h_o0 wd1_41 dX7_addLane_22 ?_
    refine g_aload_n X dX7_addLane_25 0 rfl ?_
    refine cg_7_5 X h_o0 wd1_57 dX7_addLane_26 ?_
    refine g_iload_n X dX7_addLane_29 2 rfl ?_
    refine ca_st_7_1 X h_o0 dX7_addLane_30 hf (fun S2 hf => ?_)
    refine g_aload_n X dX7_addLane_31 0 rfl ?_
    refine cg_7_2 X h_o0 wd1_45 dX7_addLane_32 ?_
    refine g_aload_n X dX7_addLane_35 0 rfl ?_
    refine cg_7_5 X h_o0 wd1_57 dX7_addLane_36 ?_
    refine g_iload_n X dX7_addLane_39 3 rfl ?_
    refine ca_st_7_2 X h_o0 dX7_addLane_40 hf (fun S3 hf => ?_)
    refine g_aload_n X dX7_addLane_41 0 rfl ?_
    refine cg_7_3 X h_o0 wd1_49 dX7_addLane_42 ?_
    refine g_aload_n X dX7_addLane_45 0 rfl ?_
    refine cg_7_5 X h_o0 wd1_57 dX7_addLane_46 ?_
    refine g_iload X dX7_addLane_49 4 rfl ?_
    refine ca_st_7_3 X h_o0 dX7_addLane_51 hf (fun S4 hf => ?_)
    refine g_aload_n X dX7_addLane_52 0 rfl ?_
    refine cg_7_4 X h_o0 wd1_52 dX7_addLane_53 ?_
    refine g_aload_n X dX7_addLane_56 0 rfl ?_
    refine cg_7_5 X h_o0 wd1_57 dX7_addLane_57 ?_
    refine g_iconst X dX7_addLane_60 kc_m1 ?_
    refine ca_st_7_4 X h_o0 dX7_addLane_61 hf (fun S5 hf => ?_)
    refine g_aload_n X dX7_addLane_62 0 rfl ?_
    refine g_dup X dX7_addLane_63 rfl ?_
    refine cg_7_5 X h_o0 wd1_57 dX7_addLane_64 ?_
    refine g_iconst X dX7_addLane_67 kc_1 ?_
    refine g_iadd X dX7_addLane_68 ?_
    refine cp_7_5 X h_o0 wd1_57 dX7_addLane_69 hf (fun S6 hf => ?_)
    refine g_aload_n X dX7_addLane_72 0 rfl ?_
    refine cg_7_5 X h_o0 wd1_57 dX7_addLane_73 ?_
    refine g_iconst X dX7_addLane_76 kc_1 ?_
    refine g_isub X dX7_addLane_77 ?_
    exact c_reti_s hA hQ X hr hlk dX7_addLane_78 hf
  refine g_iconst X dX7_addLane_9 kc_m1 ?_
  exact c_reti_s hA hQ X hr hlk dX7_addLane_10 hf
def rc_7_addChild : Room := { frames := 0, cells := 0, slots := 0, locals := 0 }
set_option maxRecDepth 100000 in
set_option maxHeartbeats 4000000 in
theorem cc_7_addChild (l : Launch) (dC : Nat → ClassId) (dI : Nat → Nat → Nat) (E : Nat → ClassId) (ev : Nat → Nat) (ho : Nat → Nat) (ro : Nat → Nat → Nat) (P : va_W) (S : CS) (o0 : Nat) (x1 : Int32) (x2 : Int32) (h_o0 : tw o0) (res : Int32 × CS) (hf : C_7_addChild S o0 x1 x2 = some res) : CC l dC dI E ev yX7_addChild cX7_addChild 3 (some .int) rc_7_addChild [.ref (ho o0), .int x1, .int x2] (CW E ho ro S ++ P) (CW E ho ro res.2 ++ P) (some (.int res.1)) := by
  refine CC_of (own := "LostLanes$Town") (by decide) rfl (Nat.le_of_ble_eq_true rfl) ?_
  intro p e s m args below meth c A Q X Y hr hlk hA hQ
  refine g_lv [0, 1, 2] (lv' := [(0, .ref (ho o0)), (1, .int x1), (2, .int x2)]) rfl ?_
  unfold C_7_addChild at hf
  refine g_aload_n X dX7_addChild_0 0 rfl ?_
  refine cg_7_9 X h_o0 wd1_73 dX7_addChild_1 ?_
  refine g_iconst X dX7_addChild_4 kc_4 ?_
  refine g_icmp_lt (tgt := 10) X dX7_addChild_5 (by decide) hf (fun hf => ?_) (fun hf => ?_)
  · refine g_aload_n X dX7_addChild_10 0 rfl ?_
    refine cg_7_6 X h_o0 wd1_62 dX7_addChild_11 ?_
    refine g_aload_n X dX7_addChild_14 0 rfl ?_
    refine cg_7_9 X h_o0 wd1_73 dX7_addChild_15 ?_
    refine g_iload_n X dX7_addChild_18 1 rfl ?_
    refine ca_st_7_6 X h_o0 dX7_addChild_19 hf (fun S1 hf => ?_)
    refine g_aload_n X dX7_addChild_20 0 rfl ?_
    refine cg_7_7 X h_o0 wd1_65 dX7_addChild_21 ?_
    refine g_aload_n X dX7_addChild_24 0 rfl ?_
    refine cg_7_9 X h_o0 wd1_73 dX7_addChild_25 ?_
    refine g_iload_n X dX7_addChild_28 2 rfl ?_
    refine ca_st_7_7 X h_o0 dX7_addChild_29 hf (fun S2 hf => ?_)
    refine g_aload_n X dX7_addChild_30 0 rfl ?_
    refine cg_7_8 X h_o0 wd1_69 dX7_addChild_31 ?_
    refine g_aload_n X dX7_addChild_34 0 rfl ?_
    refine cg_7_9 X h_o0 wd1_73 dX7_addChild_35 ?_
    refine g_iconst X dX7_addChild_38 kc_m1 ?_
    refine ca_st_7_8 X h_o0 dX7_addChild_39 hf (fun S3 hf => ?_)
    refine g_aload_n X dX7_addChild_40 0 rfl ?_
    refine g_dup X dX7_addChild_41 rfl ?_
    refine cg_7_9 X h_o0 wd1_73 dX7_addChild_42 ?_
    refine g_iconst X dX7_addChild_45 kc_1 ?_
    refine g_iadd X dX7_addChild_46 ?_
    refine cp_7_9 X h_o0 wd1_73 dX7_addChild_47 hf (fun S4 hf => ?_)
    refine g_aload_n X dX7_addChild_50 0 rfl ?_
    refine cg_7_9 X h_o0 wd1_73 dX7_addChild_51 ?_
    refine g_iconst X dX7_addChild_54 kc_1 ?_
    refine g_isub X dX7_addChild_55 ?_
    exact c_reti_s hA hQ X hr hlk dX7_addChild_56 hf
  refine g_iconst X dX7_addChild_8 kc_m1 ?_
  exact c_reti_s hA hQ X hr hlk dX7_addChild_9 hf
def rc_7_endBeyond : Room := { frames := 2, cells := 0, slots := 0, locals := 43 }
set_option maxRecDepth 100000 in
set_option maxHeartbeats 4000000 in
theorem cc_7_endBeyond (l : Launch) (dC : Nat → ClassId) (dI : Nat → Nat → Nat) (E : Nat → ClassId) (ev : Nat → Nat) (ho : Nat → Nat) (ro : Nat → Nat → Nat) (P : va_W) (S : CS) (o0 : Nat) (x1 : Int32) (x2 : Int32) (h_o0 : tw o0) (res : Int32) (hf : C_7_endBeyond S o0 x1 x2 = some res) : CC l dC dI E ev yX7_endBeyond cX7_endBeyond 3 (some .int) rc_7_endBeyond [.ref (ho o0), .int x1, .int x2] (CW E ho ro S ++ P) (CW E ho ro S ++ P) (some (.int res)) := by
  refine CC_of (own := "LostLanes$Town") (by decide) rfl (Nat.le_of_ble_eq_true rfl) ?_
  intro p e s m args below meth c A Q X Y hr hlk hA hQ
  refine g_lv [0, 1, 2] (lv' := [(0, .ref (ho o0)), (1, .int x1), (2, .int x2)]) rfl ?_
  unfold C_7_endBeyond at hf
  refine g_aload_n X dX7_endBeyond_0 0 rfl ?_
  refine g_iload_n X dX7_endBeyond_1 1 rfl ?_
  refine g_iload_n X dX7_endBeyond_2 2 rfl ?_
  refine m_bind hf (fun y1 hy1 hf => ?_)
  refine cw_V_i (cix := 7) (As := [.int x1, .int x2]) (st := []) X Y kV_X7_72 (cc_7_isEnd l dC dI E ev ho ro P S o0 x1 x2 h_o0 y1 hy1) (ob_7 h_o0) rfl ⟨Nat.le_of_ble_eq_true rfl, Nat.le_of_ble_eq_true rfl⟩ ⟨rfl, rfl⟩ (Nat.le_of_ble_eq_true rfl) ⟨Nat.le_of_ble_eq_true rfl, Nat.le_of_ble_eq_true rfl⟩ dX7_endBeyond_3 ?_
  refine g_if_ne (tgt := 11) X dX7_endBeyond_6 (by decide) hf (fun hf => ?_) (fun hf => ?_)
  · refine g_aload_n X dX7_endBeyond_11 0 rfl ?_
    refine cg_7_0 X h_o0 wd1_37 dX7_endBeyond_12 ?_
    refine g_iload_n X dX7_endBeyond_15 1 rfl ?_
    refine ca_ld_7_0 X h_o0 dX7_endBeyond_16 hf (fun hf => ?_)
    refine g_iload_n X dX7_endBeyond_17 2 rfl ?_
    refine g_icmp_ne (tgt := 30) X dX7_endBeyond_18 (by decide) hf (fun hf => ?_) (fun hf => ?_)
    · refine g_aload_n X dX7_endBeyond_30 0 rfl ?_
      refine cg_7_0 X h_o0 wd1_37 dX7_endBeyond_31 ?_
      refine g_iload_n X dX7_endBeyond_34 1 rfl ?_
      refine ca_ld_7_0 X h_o0 dX7_endBeyond_35 hf (fun hf => ?_)
      exact c_reti_o hA hQ X hr hlk dX7_endBeyond_36 hf
    refine g_aload_n X dX7_endBeyond_21 0 rfl ?_
    refine cg_7_1 X h_o0 wd1_41 dX7_endBeyond_22 ?_
    refine g_iload_n X dX7_endBeyond_25 1 rfl ?_
    refine ca_ld_7_1 X h_o0 dX7_endBeyond_26 hf (fun hf => ?_)
    refine g_goto (tgt := 36) X dX7_endBeyond_27 (by decide) ?_
    exact c_reti_o hA hQ X hr hlk dX7_endBeyond_36 hf
  refine g_iload_n X dX7_endBeyond_9 2 rfl ?_
  exact c_reti_o hA hQ X hr hlk dX7_endBeyond_10 hf
def rc_7_goAlong : Room := { frames := 3, cells := 0, slots := 0, locals := 65 }
set_option maxRecDepth 100000 in
set_option maxHeartbeats 4000000 in
theorem cc_7_goAlong (l : Launch) (dC : Nat → ClassId) (dI : Nat → Nat → Nat) (E : Nat → ClassId) (ev : Nat → Nat) (ho : Nat → Nat) (ro : Nat → Nat → Nat) (P : va_W) (S : CS) (o0 : Nat) (x1 : Int32) (x2 : Int32) (h_o0 : tw o0) (res : Unit × CS) (hf : C_7_goAlong S o0 x1 x2 = some res) : CC l dC dI E ev yX7_goAlong cX7_goAlong 3 none rc_7_goAlong [.ref (ho o0), .int x1, .int x2] (CW E ho ro S ++ P) (CW E ho ro res.2 ++ P) none := by
  refine CC_of (own := "LostLanes$Town") (by decide) rfl (Nat.le_of_ble_eq_true rfl) ?_
  intro p e s m args below meth c A Q X Y hr hlk hA hQ
  refine g_lv [0, 1, 2] (lv' := [(0, .ref (ho o0)), (1, .int x1), (2, .int x2)]) rfl ?_
  unfold C_7_goAlong at hf
  refine g_aload_n X dX7_goAlong_0 0 rfl ?_
  refine g_iload_n X dX7_goAlong_1 1 rfl ?_
  refine m_bind hf (fun y1 hy1 hf => ?_)
  refine cw_V_i (cix := 7) (As := [.int x1]) (st := []) X Y kV_X7_76 (cc_7_hasChild l dC dI E ev ho ro P S o0 x1 h_o0 y1 hy1) (ob_7 h_o0) rfl ⟨Nat.le_of_ble_eq_true rfl, Nat.le_of_ble_eq_true rfl⟩ ⟨rfl, rfl⟩ (Nat.le_of_ble_eq_true rfl) ⟨Nat.le_of_ble_eq_true rfl, Nat.le_of_ble_eq_true rfl⟩ dX7_goAlong_2 ?_
  refine g_if_eq (tgt := 32) X dX7_goAlong_5 (by decide) hf (fun hf => ?_) (fun hf => ?_)
  · exact c_retv_s hA hQ X hr hlk dX7_goAlong_32 hf
  refine g_aload_n X dX7_goAlong_8 0 rfl ?_
  refine cg_7_7 X h_o0 wd1_65 dX7_goAlong_9 ?_
  refine g_iload_n X dX7_goAlong_12 1 rfl ?_
  refine g_aload_n X dX7_goAlong_13 0 rfl ?_
  refine g_iload_n X dX7_goAlong_14 2 rfl ?_
  refine g_aload_n X dX7_goAlong_15 0 rfl ?_
  refine cg_7_7 X h_o0 wd1_65 dX7_goAlong_16 ?_
  refine g_iload_n X dX7_goAlong_19 1 rfl ?_
  refine ca_ld_7_7 X h_o0 dX7_goAlong_20 hf (fun hf => ?_)
  refine m_bind hf (fun y2 hy2 hf => ?_)
  refine cw_V_i (cix := 7) (As := [.int x2, .int (ca S o0 7 (x1).toNatClampNeg)]) (st := [.int x1, .ref (ro o0 7)]) X Y kV_X7_79 (cc_7_endBeyond l dC dI E ev ho ro P S o0 x2 (ca S o0 7 (x1).toNatClampNeg) h_o0 y2 hy2) (ob_7 h_o0) rfl ⟨Nat.le_of_ble_eq_true rfl, Nat.le_of_ble_eq_true rfl⟩ ⟨rfl, rfl⟩ (Nat.le_of_ble_eq_true rfl) ⟨Nat.le_of_ble_eq_true rfl, Nat.le_of_ble_eq_true rfl⟩ dX7_goAlong_21 ?_
  refine ca_st_7_7 X h_o0 dX7_goAlong_24 hf (fun S3 hf => ?_)
  refine g_aload_n X dX7_goAlong_25 0 rfl ?_
  refine cg_7_8 X h_o0 wd1_69 dX7_goAlong_26 ?_
  refine g_iload_n X dX7_goAlong_29 1 rfl ?_
  refine g_iload_n X dX7_goAlong_30 2 rfl ?_
  refine ca_st_7_8 X h_o0 dX7_goAlong_31 hf (fun S4 hf => ?_)
  exact c_retv_s hA hQ X hr hlk dX7_goAlong_32 hf
def rc_7_namedLanes : Room := { frames := 1, cells := 0, slots := 0, locals := 21 }
set_option maxRecDepth 100000 in
set_option maxHeartbeats 4000000 in
theorem cc_7_namedLanes (l : Launch) (dC : Nat → ClassId) (dI : Nat → Nat → Nat) (E : Nat → ClassId) (ev : Nat → Nat) (ho : Nat → Nat) (ro : Nat → Nat → Nat) (F : Nat) (P : va_W) (S : CS) (o0 : Nat) (h_o0 : tw o0) (res : Int32) (hf : C_7_namedLanes F S o0 = some res) : CC l dC dI E ev yX7_namedLanes cX7_namedLanes 3 (some .int) rc_7_namedLanes [.ref (ho o0)] (CW E ho ro S ++ P) (CW E ho ro S ++ P) (some (.int res)) := by
  refine CC_of (own := "LostLanes$Town") (by decide) rfl (Nat.le_of_ble_eq_true rfl) ?_
  intro p e s m args below meth c A Q X Y hr hlk hA hQ
  have hB33 : ∀ (k4 : Int32 → Int32 → Option Int32) (hk4 : ∀ (x1 : Int32) (x2 : Int32), k4 x1 x2 = some res → GG p l e rc_7_namedLanes s m args below meth c dC dI A 3 0 0 Q (CW E ho ro S ++ P) 4 [(0, .ref (ho o0)), (1, .int x1), (2, .int x2)] []) (x1 : Int32) (x2 : Int32), C_7_namedLanes_B33 F o0 k4 S x1 x2 = some res → GG p l e rc_7_namedLanes s m args below meth c dC dI A 3 0 0 Q (CW E ho ro S ++ P) 33 [(0, .ref (ho o0)), (1, .int x1), (2, .int x2)] [] := by
    intro k4 hk4 x1 x2 hf
    unfold C_7_namedLanes_B33 at hf
    refine g_iinc (lv' := [(2, .int (x2 + (1 : Int32))), (0, .ref (ho o0)), (1, .int x1)]) X dX7_namedLanes_33 2 rfl kc_1 (by decide) rfl ?_
    refine g_goto (tgt := 4) X dX7_namedLanes_36 (by decide) ?_
    refine g_lv [1, 2, 0] (lv' := [(0, .ref (ho o0)), (1, .int x1), (2, .int (x2 + (1 : Int32)))]) rfl ?_
    exact hk4 _ _ hf
  have hL4 : ∀  (n : Nat) (x1 : Int32) (x2 : Int32), C_7_namedLanes_L4 F o0 S n x1 x2 = some res → GG p l e rc_7_namedLanes s m args below meth c dC dI A 3 0 0 Q (CW E ho ro S ++ P) 4 [(0, .ref (ho o0)), (1, .int x1), (2, .int x2)] [] := by
    intro  n
    induction n with
    | zero => intro x1 x2 hf; have hf : (none : Option Int32) = some res := hf; cases hf
    | succ n ih =>
      intro x1 x2 hf
      rw [C_7_namedLanes_L4] at hf
      refine g_iload_n X dX7_namedLanes_4 2 rfl ?_
      refine g_aload_n X dX7_namedLanes_5 0 rfl ?_
      refine cg_7_5 X h_o0 wd1_57 dX7_namedLanes_6 ?_
      refine g_icmp_ge (tgt := 39) X dX7_namedLanes_9 (by decide) hf (fun hf => ?_) (fun hf => ?_)
      · refine g_iload_n X dX7_namedLanes_39 1 rfl ?_
        exact c_reti_o hA hQ X hr hlk dX7_namedLanes_40 hf
      refine g_aload_n X dX7_namedLanes_12 0 rfl ?_
      refine g_iload_n X dX7_namedLanes_13 2 rfl ?_
      refine m_bind hf (fun y1 hy1 hf => ?_)
      refine cw_V_i (cix := 7) (As := [.int x2]) (st := []) X Y kV_X7_69 (cc_7_hasLane l dC dI E ev ho ro P S o0 x2 h_o0 y1 hy1) (ob_7 h_o0) rfl ⟨Nat.le_of_ble_eq_true rfl, Nat.le_of_ble_eq_true rfl⟩ ⟨rfl, rfl⟩ (Nat.le_of_ble_eq_true rfl) ⟨Nat.le_of_ble_eq_true rfl, Nat.le_of_ble_eq_true rfl⟩ dX7_namedLanes_14 ?_
      refine g_if_eq (tgt := 33) X dX7_namedLanes_17 (by decide) hf (fun hf => ?_) (fun hf => ?_)
      · exact hB33 _ ih _ _ hf
      refine g_aload_n X dX7_namedLanes_20 0 rfl ?_
      refine cg_7_4 X h_o0 wd1_52 dX7_namedLanes_21 ?_
      refine g_iload_n X dX7_namedLanes_24 2 rfl ?_
      refine ca_ld_7_4 X h_o0 dX7_namedLanes_25 hf (fun hf => ?_)
      refine g_iconst X dX7_namedLanes_26 kc_m1 ?_
      refine g_icmp_eq (tgt := 33) X dX7_namedLanes_27 (by decide) hf (fun hf => ?_) (fun hf => ?_)
      · exact hB33 _ ih _ _ hf
      refine g_iinc (lv' := [(1, .int (x1 + (1 : Int32))), (0, .ref (ho o0)), (2, .int x2)]) X dX7_namedLanes_30 1 rfl kc_1 (by decide) rfl ?_
      refine g_lv [1, 0, 2] (lv' := [(0, .ref (ho o0)), (1, .int (x1 + (1 : Int32))), (2, .int x2)]) rfl ?_
      exact hB33 _ ih _ _ hf
  refine g_lv [0] (lv' := [(0, .ref (ho o0))]) rfl ?_
  unfold C_7_namedLanes at hf
  refine g_iconst X dX7_namedLanes_0 kc_0 ?_
  refine g_istore_n (i := 1) (lv' := [(1, .int (0 : Int32)), (0, .ref (ho o0))]) X dX7_namedLanes_1 rfl (by decide) rfl ?_
  refine g_iconst X dX7_namedLanes_2 kc_0 ?_
  refine g_istore_n (i := 2) (lv' := [(2, .int (0 : Int32)), (1, .int (0 : Int32)), (0, .ref (ho o0))]) X dX7_namedLanes_3 rfl (by decide) rfl ?_
  refine g_lv [2, 1, 0] (lv' := [(0, .ref (ho o0)), (1, .int (0 : Int32)), (2, .int (0 : Int32))]) rfl ?_
  exact hL4 _ _ _ hf
def rc_7_become : Room := { frames := 1, cells := 0, slots := 0, locals := 60 }
set_option maxRecDepth 100000 in
set_option maxHeartbeats 4000000 in
theorem cc_7_become (l : Launch) (dC : Nat → ClassId) (dI : Nat → Nat → Nat) (E : Nat → ClassId) (ev : Nat → Nat) (ho : Nat → Nat) (ro : Nat → Nat → Nat) (F : Nat) (P : va_W) (S : CS) (o0 : Nat) (o1 : Nat) (h_o0 : tw o0) (h_o1 : tw o1) (res : Unit × CS) (hf : C_7_become F E P S o0 o1 = some res) : CC l dC dI E ev yX7_become cX7_become 3 none rc_7_become [.ref (ho o0), .ref (ho o1)] (CW E ho ro S ++ P) (CW E ho ro res.2 ++ P) none := by
  refine CC_of (own := "LostLanes$Town") (by decide) rfl (Nat.le_of_ble_eq_true rfl) ?_
  intro p e s m args below meth c A Q X Y hr hlk hA hQ
  have hL176 : ∀  (n : Nat) (S : CS) (x2 : Int32), C_7_become_L176 F E P o0 o1 n S x2 = some res → GG p l e rc_7_become s m args below meth c dC dI A 3 0 0 Q (CW E ho ro S ++ P) 176 [(0, .ref (ho o0)), (1, .ref (ho o1)), (2, .int x2)] [] := by
    intro  n
    induction n with
    | zero => intro S x2 hf; have hf : (none : Option (Unit × CS)) = some res := hf; cases hf
    | succ n ih =>
      intro S x2 hf
      rw [C_7_become_L176] at hf
      refine g_iload_n X dX7_become_176 2 rfl ?_
      refine g_bipush X dX7_become_177 kb_6 ?_
      refine g_icmp_ge (tgt := 200) X dX7_become_179 (by decide) hf (fun hf => ?_) (fun hf => ?_)
      · refine g_aload_n X dX7_become_200 0 rfl ?_
        refine g_aload_n X dX7_become_201 1 rfl ?_
        refine cg_7_14 X h_o1 wd1_87 dX7_become_202 ?_
        refine cp_7_14 X h_o0 wd1_87 dX7_become_205 hf (fun S1 hf => ?_)
        refine g_aload_n X dX7_become_208 0 rfl ?_
        refine g_aload_n X dX7_become_209 1 rfl ?_
        refine cg_7_15 X h_o1 wd1_89 dX7_become_210 ?_
        refine cp_7_15 X h_o0 wd1_89 dX7_become_213 hf (fun S2 hf => ?_)
        exact c_retv_s hA hQ X hr hlk dX7_become_216 hf
      refine g_aload_n X dX7_become_182 0 rfl ?_
      refine cg_7_13 X h_o0 wd1_85 dX7_become_183 ?_
      refine g_iload_n X dX7_become_186 2 rfl ?_
      refine g_aload_n X dX7_become_187 1 rfl ?_
      refine cg_7_13 X h_o1 wd1_85 dX7_become_188 ?_
      refine g_iload_n X dX7_become_191 2 rfl ?_
      refine ca_ldq_7_13 X h_o1 dX7_become_192 hf (fun qv3 hf => ?_)
      refine ca_stq_7_13 (q := qv3) X h_o0 dX7_become_193 hf (fun S4 hf => ?_)
      refine g_iinc (lv' := [(2, .int (x2 + (1 : Int32))), (0, .ref (ho o0)), (1, .ref (ho o1))]) X dX7_become_194 2 rfl kc_1 (by decide) rfl ?_
      refine g_goto (tgt := 176) X dX7_become_197 (by decide) ?_
      refine g_lv [1, 2, 0] (lv' := [(0, .ref (ho o0)), (1, .ref (ho o1)), (2, .int (x2 + (1 : Int32)))]) rfl ?_
      exact ih _ _ hf
  refine g_lv [0, 1] (lv' := [(0, .ref (ho o0)), (1, .ref (ho o1))]) rfl ?_
  unfold C_7_become at hf
  refine g_aload_n X dX7_become_0 1 rfl ?_
  refine cg_7_0 X h_o1 wd1_37 dX7_become_1 ?_
  refine g_iconst X dX7_become_4 kc_0 ?_
  refine g_aload_n X dX7_become_5 0 rfl ?_
  refine cg_7_0 X h_o0 wd1_37 dX7_become_6 ?_
  refine g_iconst X dX7_become_9 kc_0 ?_
  refine g_bipush X dX7_become_10 kb_10 ?_
  refine ars_copy X (ars_7_0 h_o1) (ars_7_0 h_o0) wd4_14 wd4_5 wd4_4 wd1_19 ⟨Nat.le_of_ble_eq_true rfl, by decide⟩ (Nat.le_of_ble_eq_true rfl) dX7_become_12 hf (fun S5 hf => ?_)
  refine g_aload_n X dX7_become_15 1 rfl ?_
  refine cg_7_1 X h_o1 wd1_41 dX7_become_16 ?_
  refine g_iconst X dX7_become_19 kc_0 ?_
  refine g_aload_n X dX7_become_20 0 rfl ?_
  refine cg_7_1 X h_o0 wd1_41 dX7_become_21 ?_
  refine g_iconst X dX7_become_24 kc_0 ?_
  refine g_bipush X dX7_become_25 kb_10 ?_
  refine ars_copy X (ars_7_1 h_o1) (ars_7_1 h_o0) wd4_14 wd4_5 wd4_4 wd1_19 ⟨Nat.le_of_ble_eq_true rfl, by decide⟩ (Nat.le_of_ble_eq_true rfl) dX7_become_27 hf (fun S6 hf => ?_)
  refine g_aload_n X dX7_become_30 1 rfl ?_
  refine cg_7_2 X h_o1 wd1_45 dX7_become_31 ?_
  refine g_iconst X dX7_become_34 kc_0 ?_
  refine g_aload_n X dX7_become_35 0 rfl ?_
  refine cg_7_2 X h_o0 wd1_45 dX7_become_36 ?_
  refine g_iconst X dX7_become_39 kc_0 ?_
  refine g_bipush X dX7_become_40 kb_10 ?_
  refine ars_copy X (ars_7_2 h_o1) (ars_7_2 h_o0) wd4_14 wd4_5 wd4_4 wd1_19 ⟨Nat.le_of_ble_eq_true rfl, by decide⟩ (Nat.le_of_ble_eq_true rfl) dX7_become_42 hf (fun S7 hf => ?_)
  refine g_aload_n X dX7_become_45 1 rfl ?_
  refine cg_7_3 X h_o1 wd1_49 dX7_become_46 ?_
  refine g_iconst X dX7_become_49 kc_0 ?_
  refine g_aload_n X dX7_become_50 0 rfl ?_
  refine cg_7_3 X h_o0 wd1_49 dX7_become_51 ?_
  refine g_iconst X dX7_become_54 kc_0 ?_
  refine g_bipush X dX7_become_55 kb_10 ?_
  refine ars_copy X (ars_7_3 h_o1) (ars_7_3 h_o0) wd4_14 wd4_5 wd4_4 wd1_19 ⟨Nat.le_of_ble_eq_true rfl, by decide⟩ (Nat.le_of_ble_eq_true rfl) dX7_become_57 hf (fun S8 hf => ?_)
  refine g_aload_n X dX7_become_60 1 rfl ?_
  refine cg_7_4 X h_o1 wd1_52 dX7_become_61 ?_
  refine g_iconst X dX7_become_64 kc_0 ?_
  refine g_aload_n X dX7_become_65 0 rfl ?_
  refine cg_7_4 X h_o0 wd1_52 dX7_become_66 ?_
  refine g_iconst X dX7_become_69 kc_0 ?_
  refine g_bipush X dX7_become_70 kb_10 ?_
  refine ars_copy X (ars_7_4 h_o1) (ars_7_4 h_o0) wd4_14 wd4_5 wd4_4 wd1_19 ⟨Nat.le_of_ble_eq_true rfl, by decide⟩ (Nat.le_of_ble_eq_true rfl) dX7_become_72 hf (fun S9 hf => ?_)
  refine g_aload_n X dX7_become_75 0 rfl ?_
  refine g_aload_n X dX7_become_76 1 rfl ?_
  refine cg_7_5 X h_o1 wd1_57 dX7_become_77 ?_
  refine cp_7_5 X h_o0 wd1_57 dX7_become_80 hf (fun S10 hf => ?_)
  refine g_aload_n X dX7_become_83 1 rfl ?_
  refine cg_7_6 X h_o1 wd1_62 dX7_become_84 ?_
  refine g_iconst X dX7_become_87 kc_0 ?_
  refine g_aload_n X dX7_become_88 0 rfl ?_
  refine cg_7_6 X h_o0 wd1_62 dX7_become_89 ?_
  refine g_iconst X dX7_become_92 kc_0 ?_
  refine g_iconst X dX7_become_93 kc_4 ?_
  refine ars_copy X (ars_7_6 h_o1) (ars_7_6 h_o0) wd4_14 wd4_5 wd4_4 wd1_19 ⟨Nat.le_of_ble_eq_true rfl, by decide⟩ (Nat.le_of_ble_eq_true rfl) dX7_become_94 hf (fun S11 hf => ?_)
  refine g_aload_n X dX7_become_97 1 rfl ?_
  refine cg_7_7 X h_o1 wd1_65 dX7_become_98 ?_
  refine g_iconst X dX7_become_101 kc_0 ?_
  refine g_aload_n X dX7_become_102 0 rfl ?_
  refine cg_7_7 X h_o0 wd1_65 dX7_become_103 ?_
  refine g_iconst X dX7_become_106 kc_0 ?_
  refine g_iconst X dX7_become_107 kc_4 ?_
  refine ars_copy X (ars_7_7 h_o1) (ars_7_7 h_o0) wd4_14 wd4_5 wd4_4 wd1_19 ⟨Nat.le_of_ble_eq_true rfl, by decide⟩ (Nat.le_of_ble_eq_true rfl) dX7_become_108 hf (fun S12 hf => ?_)
  refine g_aload_n X dX7_become_111 1 rfl ?_
  refine cg_7_8 X h_o1 wd1_69 dX7_become_112 ?_
  refine g_iconst X dX7_become_115 kc_0 ?_
  refine g_aload_n X dX7_become_116 0 rfl ?_
  refine cg_7_8 X h_o0 wd1_69 dX7_become_117 ?_
  refine g_iconst X dX7_become_120 kc_0 ?_
  refine g_iconst X dX7_become_121 kc_4 ?_
  refine ars_copy X (ars_7_8 h_o1) (ars_7_8 h_o0) wd4_14 wd4_5 wd4_4 wd1_19 ⟨Nat.le_of_ble_eq_true rfl, by decide⟩ (Nat.le_of_ble_eq_true rfl) dX7_become_122 hf (fun S13 hf => ?_)
  refine g_aload_n X dX7_become_125 0 rfl ?_
  refine g_aload_n X dX7_become_126 1 rfl ?_
  refine cg_7_9 X h_o1 wd1_73 dX7_become_127 ?_
  refine cp_7_9 X h_o0 wd1_73 dX7_become_130 hf (fun S14 hf => ?_)
  refine g_aload_n X dX7_become_133 1 rfl ?_
  refine cg_7_10 X h_o1 wd1_75 dX7_become_134 ?_
  refine g_iconst X dX7_become_137 kc_0 ?_
  refine g_aload_n X dX7_become_138 0 rfl ?_
  refine cg_7_10 X h_o0 wd1_75 dX7_become_139 ?_
  refine g_iconst X dX7_become_142 kc_0 ?_
  refine g_bipush X dX7_become_143 kb_6 ?_
  refine ars_copy X (ars_7_10 h_o1) (ars_7_10 h_o0) wd4_14 wd4_5 wd4_4 wd1_19 ⟨Nat.le_of_ble_eq_true rfl, by decide⟩ (Nat.le_of_ble_eq_true rfl) dX7_become_145 hf (fun S15 hf => ?_)
  refine g_aload_n X dX7_become_148 0 rfl ?_
  refine g_aload_n X dX7_become_149 1 rfl ?_
  refine cg_7_11 X h_o1 wd1_79 dX7_become_150 ?_
  refine cp_7_11 X h_o0 wd1_79 dX7_become_153 hf (fun S16 hf => ?_)
  refine g_aload_n X dX7_become_156 1 rfl ?_
  refine cg_7_12 X h_o1 wd1_81 dX7_become_157 ?_
  refine g_iconst X dX7_become_160 kc_0 ?_
  refine g_aload_n X dX7_become_161 0 rfl ?_
  refine cg_7_12 X h_o0 wd1_81 dX7_become_162 ?_
  refine g_iconst X dX7_become_165 kc_0 ?_
  refine g_aload_n X dX7_become_166 0 rfl ?_
  refine cg_7_12 X h_o0 wd1_81 dX7_become_167 ?_
  refine ca_len_7_12 X h_o0 kn_3 dX7_become_170 ?_
  refine ars_copy X (ars_7_12 h_o1) (ars_7_12 h_o0) wd4_14 wd4_5 wd4_4 wd1_19 ⟨Nat.le_of_ble_eq_true rfl, by decide⟩ (Nat.le_of_ble_eq_true rfl) dX7_become_171 hf (fun S17 hf => ?_)
  refine g_iconst X dX7_become_174 kc_0 ?_
  refine g_istore_n (i := 2) (lv' := [(2, .int (0 : Int32)), (0, .ref (ho o0)), (1, .ref (ho o1))]) X dX7_become_175 rfl (by decide) rfl ?_
  refine g_lv [1, 2, 0] (lv' := [(0, .ref (ho o0)), (1, .ref (ho o1)), (2, .int (0 : Int32))]) rfl ?_
  exact hL176 _ _ _ hf
def rc_8_isPlace : Room := { frames := 0, cells := 0, slots := 0, locals := 0 }
set_option maxRecDepth 100000 in
set_option maxHeartbeats 4000000 in
theorem cc_8_isPlace (l : Launch) (dC : Nat → ClassId) (dI : Nat → Nat → Nat) (E : Nat → ClassId) (ev : Nat → Nat) (ho : Nat → Nat) (ro : Nat → Nat → Nat) (P : va_W) (S : CS) (x0 : Int32)  (res : Int32) (hf : C_8_isPlace x0 = some res) : CC l dC dI E ev yX8_isPlace cX8_isPlace 1 (some .boolean) rc_8_isPlace [.int x0] (CW E ho ro S ++ P) (CW E ho ro S ++ P) (some (.int res)) := by
  refine CC_of (own := "LostLanes$Ways") (by decide) rfl (Nat.le_of_ble_eq_true rfl) ?_
  intro p e s m args below meth c A Q X Y hr hlk hA hQ
  refine g_lv [0] (lv' := [(0, .int x0)]) rfl ?_
  unfold C_8_isPlace at hf
  refine g_iload_n X dX8_isPlace_0 0 rfl ?_
  refine g_if_lt (tgt := 14) X dX8_isPlace_1 (by decide) hf (fun hf => ?_) (fun hf => ?_)
  · refine g_iconst X dX8_isPlace_14 kc_0 ?_
    exact c_retz_o hA hQ X hr hlk (Or.inl rfl) dX8_isPlace_15 hf
  refine g_iload_n X dX8_isPlace_4 0 rfl ?_
  refine g_bipush X dX8_isPlace_5 kb_64 ?_
  refine g_icmp_ge (tgt := 14) X dX8_isPlace_7 (by decide) hf (fun hf => ?_) (fun hf => ?_)
  · refine g_iconst X dX8_isPlace_14 kc_0 ?_
    exact c_retz_o hA hQ X hr hlk (Or.inl rfl) dX8_isPlace_15 hf
  refine g_iconst X dX8_isPlace_10 kc_1 ?_
  refine g_goto (tgt := 15) X dX8_isPlace_11 (by decide) ?_
  exact c_retz_o hA hQ X hr hlk (Or.inr rfl) dX8_isPlace_15 hf
def rc_8_between : Room := { frames := 1, cells := 0, slots := 0, locals := 20 }
set_option maxRecDepth 100000 in
set_option maxHeartbeats 4000000 in
theorem cc_8_between (l : Launch) (dC : Nat → ClassId) (dI : Nat → Nat → Nat) (E : Nat → ClassId) (ev : Nat → Nat) (ho : Nat → Nat) (ro : Nat → Nat → Nat) (P : va_W) (S : CS) (x1 : Int32) (x2 : Int32)  (res : Int32) (hf : C_8_between S x1 x2 = some res) : CC l dC dI E ev yX8_between cX8_between 3 (some .int) rc_8_between [.ref (ho 13), .int x1, .int x2] (CW E ho ro S ++ P) (CW E ho ro S ++ P) (some (.int res)) := by
  refine CC_of (own := "LostLanes$Ways") (by decide) rfl (Nat.le_of_ble_eq_true rfl) ?_
  intro p e s m args below meth c A Q X Y hr hlk hA hQ
  have hB28 : C_8_between_B28 S  = some res → GG p l e rc_8_between s m args below meth c dC dI A 3 0 0 Q (CW E ho ro S ++ P) 28 [] [] := by
    intro  hf
    unfold C_8_between_B28 at hf
    refine g_ldc X dX8_between_28 wd4_137 ?_
    exact c_reti_o hA hQ X hr hlk dX8_between_30 hf
  refine g_lv [0, 1, 2] (lv' := [(0, .ref (ho 13)), (1, .int x1), (2, .int x2)]) rfl ?_
  unfold C_8_between at hf
  refine g_iload_n X dX8_between_0 1 rfl ?_
  refine m_bind hf (fun y1 hy1 hf => ?_)
  refine cw_N_i (As := [.int x1]) (st := []) X Y kN_X8_72 (cc_10_isCorner l dC dI E ev ho ro P S x1 y1 hy1) ⟨Nat.le_of_ble_eq_true rfl, Nat.le_of_ble_eq_true rfl⟩ ⟨rfl, rfl⟩ (Nat.le_of_ble_eq_true rfl) ⟨Nat.le_of_ble_eq_true rfl, Nat.le_of_ble_eq_true rfl⟩ dX8_between_1 ?_
  refine g_if_eq (tgt := 28) X dX8_between_4 (by decide) hf (fun hf => ?_) (fun hf => ?_)
  · refine g_lv [] (lv' := []) rfl ?_
    exact hB28  hf
  refine g_iload_n X dX8_between_7 2 rfl ?_
  refine m_bind hf (fun y2 hy2 hf => ?_)
  refine cw_N_i (As := [.int x2]) (st := []) X Y kN_X8_72 (cc_10_isCorner l dC dI E ev ho ro P S x2 y2 hy2) ⟨Nat.le_of_ble_eq_true rfl, Nat.le_of_ble_eq_true rfl⟩ ⟨rfl, rfl⟩ (Nat.le_of_ble_eq_true rfl) ⟨Nat.le_of_ble_eq_true rfl, Nat.le_of_ble_eq_true rfl⟩ dX8_between_8 ?_
  refine g_if_eq (tgt := 28) X dX8_between_11 (by decide) hf (fun hf => ?_) (fun hf => ?_)
  · refine g_lv [] (lv' := []) rfl ?_
    exact hB28  hf
  refine g_aload_n X dX8_between_14 0 rfl ?_
  refine cg_8_1 X wd2_5 dX8_between_15 ?_
  refine g_iload_n X dX8_between_18 1 rfl ?_
  refine g_bipush X dX8_between_19 kb_8 ?_
  refine g_imul X dX8_between_21 ?_
  refine g_iload_n X dX8_between_22 2 rfl ?_
  refine g_iadd X dX8_between_23 ?_
  refine ca_ld_8_1 X dX8_between_24 hf (fun hf => ?_)
  refine g_goto (tgt := 30) X dX8_between_25 (by decide) ?_
  exact c_reti_o hA hQ X hr hlk dX8_between_30 hf
def rc_8_shorten : Room := { frames := 2, cells := 0, slots := 0, locals := 42 }
set_option maxRecDepth 100000 in
set_option maxHeartbeats 4000000 in
theorem cc_8_shorten (l : Launch) (dC : Nat → ClassId) (dI : Nat → Nat → Nat) (E : Nat → ClassId) (ev : Nat → Nat) (ho : Nat → Nat) (ro : Nat → Nat → Nat) (F : Nat) (P : va_W) (S : CS) (x1 : Int32)  (res : Unit × CS) (hf : C_8_shorten F S x1 = some res) : CC l dC dI E ev yX8_shorten cX8_shorten 6 none rc_8_shorten [.ref (ho 13), .int x1] (CW E ho ro S ++ P) (CW E ho ro res.2 ++ P) none := by
  refine CC_of (own := "LostLanes$Ways") (by decide) rfl (Nat.le_of_ble_eq_true rfl) ?_
  intro p e s m args below meth c A Q X Y hr hlk hA hQ
  have hB74 : ∀ (x1 : Int32) (k2 : CS → Int32 → Option (Unit × CS)) (hk2 : ∀ (S : CS) (x2 : Int32), k2 S x2 = some res → GG p l e rc_8_shorten s m args below meth c dC dI A 6 0 0 Q (CW E ho ro S ++ P) 2 [(0, .ref (ho 13)), (1, .int x1), (2, .int x2)] []) (S : CS) (x2 : Int32), C_8_shorten_B74 F k2 S x1 x2 = some res → GG p l e rc_8_shorten s m args below meth c dC dI A 6 0 0 Q (CW E ho ro S ++ P) 74 [(0, .ref (ho 13)), (1, .int x1), (2, .int x2)] [] := by
    intro x1 k2 hk2 S x2 hf
    unfold C_8_shorten_B74 at hf
    refine g_iinc (lv' := [(2, .int (x2 + (1 : Int32))), (0, .ref (ho 13)), (1, .int x1)]) X dX8_shorten_74 2 rfl kc_1 (by decide) rfl ?_
    refine g_goto (tgt := 2) X dX8_shorten_77 (by decide) ?_
    refine g_lv [1, 2, 0] (lv' := [(0, .ref (ho 13)), (1, .int x1), (2, .int (x2 + (1 : Int32)))]) rfl ?_
    exact hk2 _ _ hf
  have hB68 : ∀ (x1 : Int32) (x2 : Int32) (x3 : Int32) (k2 : CS → Int32 → Option (Unit × CS)) (hk2 : ∀ (S : CS) (x2 : Int32), k2 S x2 = some res → GG p l e rc_8_shorten s m args below meth c dC dI A 6 0 0 Q (CW E ho ro S ++ P) 2 [(0, .ref (ho 13)), (1, .int x1), (2, .int x2)] []) (k18 : CS → Int32 → Option (Unit × CS)) (hk18 : ∀ (S : CS) (x4 : Int32), k18 S x4 = some res → GG p l e rc_8_shorten s m args below meth c dC dI A 6 0 0 Q (CW E ho ro S ++ P) 18 [(0, .ref (ho 13)), (1, .int x1), (2, .int x2), (3, .int x3), (4, .int x4)] []) (S : CS) (x4 : Int32), C_8_shorten_B68 F k2 k18 S x1 x2 x3 x4 = some res → GG p l e rc_8_shorten s m args below meth c dC dI A 6 0 0 Q (CW E ho ro S ++ P) 68 [(0, .ref (ho 13)), (1, .int x1), (2, .int x2), (3, .int x3), (4, .int x4)] [] := by
    intro x1 x2 x3 k2 hk2 k18 hk18 S x4 hf
    unfold C_8_shorten_B68 at hf
    refine g_iinc (lv' := [(4, .int (x4 + (1 : Int32))), (0, .ref (ho 13)), (1, .int x1), (2, .int x2), (3, .int x3)]) X dX8_shorten_68 4 rfl kc_1 (by decide) rfl ?_
    refine g_goto (tgt := 18) X dX8_shorten_71 (by decide) ?_
    refine g_lv [1, 2, 3, 4, 0] (lv' := [(0, .ref (ho 13)), (1, .int x1), (2, .int x2), (3, .int x3), (4, .int (x4 + (1 : Int32)))]) rfl ?_
    exact hk18 _ _ hf
  have hL18 : ∀ (x1 : Int32) (k2 : CS → Int32 → Option (Unit × CS)) (hk2 : ∀ (S : CS) (x2 : Int32), k2 S x2 = some res → GG p l e rc_8_shorten s m args below meth c dC dI A 6 0 0 Q (CW E ho ro S ++ P) 2 [(0, .ref (ho 13)), (1, .int x1), (2, .int x2)] []) (x2 : Int32) (x3 : Int32) (n : Nat) (S : CS) (x4 : Int32), C_8_shorten_L18 F k2 x1 x2 x3 n S x4 = some res → GG p l e rc_8_shorten s m args below meth c dC dI A 6 0 0 Q (CW E ho ro S ++ P) 18 [(0, .ref (ho 13)), (1, .int x1), (2, .int x2), (3, .int x3), (4, .int x4)] [] := by
    intro x1 k2 hk2 x2 x3 n
    induction n with
    | zero => intro S x4 hf; have hf : (none : Option (Unit × CS)) = some res := hf; cases hf
    | succ n ih =>
      intro S x4 hf
      rw [C_8_shorten_L18] at hf
      refine g_iload_n X dX8_shorten_18 3 rfl ?_
      refine g_ldc X dX8_shorten_19 wd4_137 ?_
      refine g_icmp_ge (tgt := 74) X dX8_shorten_21 (by decide) hf (fun hf => ?_) (fun hf => ?_)
      · refine g_lv [0, 1, 2] (lv' := [(0, .ref (ho 13)), (1, .int x1), (2, .int x2)]) rfl ?_
        exact hB74 _ _ hk2 _ _ hf
      refine g_iload X dX8_shorten_24 4 rfl ?_
      refine g_bipush X dX8_shorten_26 kb_8 ?_
      refine g_icmp_ge (tgt := 74) X dX8_shorten_28 (by decide) hf (fun hf => ?_) (fun hf => ?_)
      · refine g_lv [0, 1, 2] (lv' := [(0, .ref (ho 13)), (1, .int x1), (2, .int x2)]) rfl ?_
        exact hB74 _ _ hk2 _ _ hf
      refine g_iload_n X dX8_shorten_31 3 rfl ?_
      refine g_aload_n X dX8_shorten_32 0 rfl ?_
      refine g_iload_n X dX8_shorten_33 1 rfl ?_
      refine g_iload X dX8_shorten_34 4 rfl ?_
      refine m_bind hf (fun y1 hy1 hf => ?_)
      refine cw_V_i (cix := 8) (As := [.int x1, .int x4]) (st := [.int x3]) X Y kV_X8_69 (cc_8_between l dC dI E ev ho ro P S x1 x4 y1 hy1) ob_8 rfl ⟨Nat.le_of_ble_eq_true rfl, Nat.le_of_ble_eq_true rfl⟩ ⟨rfl, rfl⟩ (Nat.le_of_ble_eq_true rfl) ⟨Nat.le_of_ble_eq_true rfl, Nat.le_of_ble_eq_true rfl⟩ dX8_shorten_36 ?_
      refine g_iadd X dX8_shorten_39 ?_
      refine g_istore (lv' := [(5, .int (x3 + y1)), (0, .ref (ho 13)), (1, .int x1), (2, .int x2), (3, .int x3), (4, .int x4)]) X dX8_shorten_40 (by decide) rfl ?_
      refine g_iload X dX8_shorten_42 0 rfl ?_
      refine g_aload_n X dX8_shorten_44 1 rfl ?_
      refine g_iload_n X dX8_shorten_45 3 rfl ?_
      refine g_iload X dX8_shorten_46 5 rfl ?_
      refine m_bind hf (fun y2 hy2 hf => ?_)
      refine cw_V_i (cix := 8) (As := [.int x2, .int x4]) (st := [.int (x3 + y1)]) X Y kV_X8_69 (cc_8_between l dC dI E ev ho ro P S x2 x4 y2 hy2) ob_8 rfl ⟨Nat.le_of_ble_eq_true rfl, Nat.le_of_ble_eq_true rfl⟩ ⟨rfl, rfl⟩ (Nat.le_of_ble_eq_true rfl) ⟨Nat.le_of_ble_eq_true rfl, Nat.le_of_ble_eq_true rfl⟩ dX8_shorten_48 ?_
      refine g_icmp_ge (tgt := 68) X dX8_shorten_51 (by decide) hf (fun hf => ?_) (fun hf => ?_)
      · refine g_lv [1, 2, 3, 4, 5] (lv' := [(0, .ref (ho 13)), (1, .int x1), (2, .int x2), (3, .int x3), (4, .int x4)]) rfl ?_
        exact hB68 _ _ _ _ hk2 _ ih _ _ hf
      refine g_aload_n X dX8_shorten_54 1 rfl ?_
      refine cg_8_1 X wd2_5 dX8_shorten_55 ?_
      refine g_iload_n X dX8_shorten_58 3 rfl ?_
      refine g_bipush X dX8_shorten_59 kb_8 ?_
      refine g_imul X dX8_shorten_61 ?_
      refine g_iload X dX8_shorten_62 5 rfl ?_
      refine g_iadd X dX8_shorten_64 ?_
      refine g_iload X dX8_shorten_65 0 rfl ?_
      refine ca_st_8_1 X dX8_shorten_67 hf (fun S3 hf => ?_)
      refine g_lv [1, 2, 3, 4, 5] (lv' := [(0, .ref (ho 13)), (1, .int x1), (2, .int x2), (3, .int x3), (4, .int x4)]) rfl ?_
      exact hB68 _ _ _ _ hk2 _ ih _ _ hf
  have hL2 : ∀ (x1 : Int32) (n : Nat) (S : CS) (x2 : Int32), C_8_shorten_L2 F x1 n S x2 = some res → GG p l e rc_8_shorten s m args below meth c dC dI A 6 0 0 Q (CW E ho ro S ++ P) 2 [(0, .ref (ho 13)), (1, .int x1), (2, .int x2)] [] := by
    intro x1 n
    induction n with
    | zero => intro S x2 hf; have hf : (none : Option (Unit × CS)) = some res := hf; cases hf
    | succ n ih =>
      intro S x2 hf
      rw [C_8_shorten_L2] at hf
      refine g_iload_n X dX8_shorten_2 2 rfl ?_
      refine g_bipush X dX8_shorten_3 kb_8 ?_
      refine g_icmp_ge (tgt := 80) X dX8_shorten_5 (by decide) hf (fun hf => ?_) (fun hf => ?_)
      · exact c_retv_s hA hQ X hr hlk dX8_shorten_80 hf
      refine g_aload_n X dX8_shorten_8 0 rfl ?_
      refine g_iload_n X dX8_shorten_9 2 rfl ?_
      refine g_iload_n X dX8_shorten_10 1 rfl ?_
      refine m_bind hf (fun y4 hy4 hf => ?_)
      refine cw_V_i (cix := 8) (As := [.int x2, .int x1]) (st := []) X Y kV_X8_69 (cc_8_between l dC dI E ev ho ro P S x2 x1 y4 hy4) ob_8 rfl ⟨Nat.le_of_ble_eq_true rfl, Nat.le_of_ble_eq_true rfl⟩ ⟨rfl, rfl⟩ (Nat.le_of_ble_eq_true rfl) ⟨Nat.le_of_ble_eq_true rfl, Nat.le_of_ble_eq_true rfl⟩ dX8_shorten_11 ?_
      refine g_istore_n (i := 3) (lv' := [(3, .int y4), (0, .ref (ho 13)), (1, .int x1), (2, .int x2)]) X dX8_shorten_14 rfl (by decide) rfl ?_
      refine g_iconst X dX8_shorten_15 kc_0 ?_
      refine g_istore (lv' := [(4, .int (0 : Int32)), (3, .int y4), (0, .ref (ho 13)), (1, .int x1), (2, .int x2)]) X dX8_shorten_16 (by decide) rfl ?_
      refine g_lv [2, 3, 4, 1, 0] (lv' := [(0, .ref (ho 13)), (1, .int x1), (2, .int x2), (3, .int y4), (4, .int (0 : Int32))]) rfl ?_
      exact hL18 _ _ ih _ _ _ _ _ hf
  refine g_lv [0, 1] (lv' := [(0, .ref (ho 13)), (1, .int x1)]) rfl ?_
  unfold C_8_shorten at hf
  refine g_iconst X dX8_shorten_0 kc_0 ?_
  refine g_istore_n (i := 2) (lv' := [(2, .int (0 : Int32)), (0, .ref (ho 13)), (1, .int x1)]) X dX8_shorten_1 rfl (by decide) rfl ?_
  refine g_lv [1, 2, 0] (lv' := [(0, .ref (ho 13)), (1, .int x1), (2, .int (0 : Int32))]) rfl ?_
  exact hL2 _ _ _ _ hf
def rc_8_measure : Room := { frames := 3, cells := 0, slots := 0, locals := 67 }
set_option maxRecDepth 100000 in
set_option maxHeartbeats 4000000 in
theorem cc_8_measure (l : Launch) (dC : Nat → ClassId) (dI : Nat → Nat → Nat) (E : Nat → ClassId) (ev : Nat → Nat) (ho : Nat → Nat) (ro : Nat → Nat → Nat) (F : Nat) (P : va_W) (S : CS) (o1 : Nat) (h_o1 : tw o1) (res : Unit × CS) (hf : C_8_measure F S o1 = some res) : CC l dC dI E ev yX8_measure cX8_measure 5 none rc_8_measure [.ref (ho 13), .ref (ho o1)] (CW E ho ro S ++ P) (CW E ho ro res.2 ++ P) none := by
  refine CC_of (own := "LostLanes$Ways") (by decide) rfl (Nat.le_of_ble_eq_true rfl) ?_
  intro p e s m args below meth c A Q X Y hr hlk hA hQ
  have hL155 : ∀  (n : Nat) (S : CS) (x2 : Int32), C_8_measure_L155 F o1 n S x2 = some res → GG p l e rc_8_measure s m args below meth c dC dI A 5 0 0 Q (CW E ho ro S ++ P) 155 [(0, .ref (ho 13)), (2, .int x2)] [] := by
    intro  n
    induction n with
    | zero => intro S x2 hf; have hf : (none : Option (Unit × CS)) = some res := hf; cases hf
    | succ n ih =>
      intro S x2 hf
      rw [C_8_measure_L155] at hf
      refine g_iload_n X dX8_measure_155 1 rfl ?_
      refine g_bipush X dX8_measure_156 kb_8 ?_
      refine g_icmp_ge (tgt := 172) X dX8_measure_158 (by decide) hf (fun hf => ?_) (fun hf => ?_)
      · exact c_retv_s hA hQ X hr hlk dX8_measure_172 hf
      refine g_aload_n X dX8_measure_161 0 rfl ?_
      refine g_iload_n X dX8_measure_162 1 rfl ?_
      refine m_bind hf (fun y1 hy1 hf => ?_)
      refine cw_V_v (cix := 8) (As := [.int x2]) (st := []) X Y kV_X8_65 (cc_8_shorten l dC dI E ev ho ro F P S x2 y1 hy1) ob_8 rfl ⟨Nat.le_of_ble_eq_true rfl, Nat.le_of_ble_eq_true rfl⟩ ⟨rfl, rfl⟩ (Nat.le_of_ble_eq_true rfl) ⟨Nat.le_of_ble_eq_true rfl, Nat.le_of_ble_eq_true rfl⟩ dX8_measure_163 ?_
      refine g_iinc (lv' := [(2, .int (x2 + (1 : Int32))), (0, .ref (ho 13))]) X dX8_measure_166 1 rfl kc_1 (by decide) rfl ?_
      refine g_goto (tgt := 155) X dX8_measure_169 (by decide) ?_
      refine g_lv [1, 0] (lv' := [(0, .ref (ho 13)), (2, .int (x2 + (1 : Int32)))]) rfl ?_
      exact ih _ _ hf
  have hL129 : ∀  (n : Nat) (S : CS) (x2 : Int32), C_8_measure_L129 F o1 n S x2 = some res → GG p l e rc_8_measure s m args below meth c dC dI A 5 0 0 Q (CW E ho ro S ++ P) 129 [(0, .ref (ho 13)), (2, .int x2)] [] := by
    intro  n
    induction n with
    | zero => intro S x2 hf; have hf : (none : Option (Unit × CS)) = some res := hf; cases hf
    | succ n ih =>
      intro S x2 hf
      rw [C_8_measure_L129] at hf
      refine g_iload_n X dX8_measure_129 1 rfl ?_
      refine g_bipush X dX8_measure_130 kb_8 ?_
      refine g_icmp_ge (tgt := 153) X dX8_measure_132 (by decide) hf (fun hf => ?_) (fun hf => ?_)
      · refine g_iconst X dX8_measure_153 kc_0 ?_
        refine g_istore_n (i := 2) (lv' := [(2, .int (0 : Int32)), (0, .ref (ho 13))]) X dX8_measure_154 rfl (by decide) rfl ?_
        refine g_lv [1, 0] (lv' := [(0, .ref (ho 13)), (2, .int (0 : Int32))]) rfl ?_
        exact hL155 _ _ _ hf
      refine g_aload_n X dX8_measure_135 0 rfl ?_
      refine cg_8_1 X wd2_5 dX8_measure_136 ?_
      refine g_iload_n X dX8_measure_139 1 rfl ?_
      refine g_bipush X dX8_measure_140 kb_8 ?_
      refine g_imul X dX8_measure_142 ?_
      refine g_iload_n X dX8_measure_143 1 rfl ?_
      refine g_iadd X dX8_measure_144 ?_
      refine g_iconst X dX8_measure_145 kc_0 ?_
      refine ca_st_8_1 X dX8_measure_146 hf (fun S2 hf => ?_)
      refine g_iinc (lv' := [(2, .int (x2 + (1 : Int32))), (0, .ref (ho 13))]) X dX8_measure_147 1 rfl kc_1 (by decide) rfl ?_
      refine g_goto (tgt := 129) X dX8_measure_150 (by decide) ?_
      refine g_lv [1, 0] (lv' := [(0, .ref (ho 13)), (2, .int (x2 + (1 : Int32)))]) rfl ?_
      exact ih _ _ hf
  have hB103 : ∀ (k11 : CS → Int32 → Option (Unit × CS)) (hk11 : ∀ (S : CS) (x2 : Int32), k11 S x2 = some res → GG p l e rc_8_measure s m args below meth c dC dI A 5 0 0 Q (CW E ho ro S ++ P) 11 [(0, .ref (ho 13)), (1, .ref (ho o1)), (2, .int x2)] []) (S : CS) (x2 : Int32), C_8_measure_B103 F o1 k11 S x2 = some res → GG p l e rc_8_measure s m args below meth c dC dI A 5 0 0 Q (CW E ho ro S ++ P) 103 [(0, .ref (ho 13)), (1, .ref (ho o1)), (2, .int x2)] [] := by
    intro k11 hk11 S x2 hf
    unfold C_8_measure_B103 at hf
    refine g_iinc (lv' := [(2, .int (x2 + (1 : Int32))), (0, .ref (ho 13)), (1, .ref (ho o1))]) X dX8_measure_103 2 rfl kc_1 (by decide) rfl ?_
    refine g_goto (tgt := 11) X dX8_measure_106 (by decide) ?_
    refine g_lv [1, 2, 0] (lv' := [(0, .ref (ho 13)), (1, .ref (ho o1)), (2, .int (x2 + (1 : Int32)))]) rfl ?_
    exact hk11 _ _ hf
  have hL11 : ∀  (n : Nat) (S : CS) (x2 : Int32), C_8_measure_L11 F o1 n S x2 = some res → GG p l e rc_8_measure s m args below meth c dC dI A 5 0 0 Q (CW E ho ro S ++ P) 11 [(0, .ref (ho 13)), (1, .ref (ho o1)), (2, .int x2)] [] := by
    intro  n
    induction n with
    | zero => intro S x2 hf; have hf : (none : Option (Unit × CS)) = some res := hf; cases hf
    | succ n ih =>
      intro S x2 hf
      rw [C_8_measure_L11] at hf
      refine g_iload_n X dX8_measure_11 2 rfl ?_
      refine g_aload_n X dX8_measure_12 1 rfl ?_
      refine cg_7_5 X h_o1 wd1_58 dX8_measure_13 ?_
      refine g_icmp_ge (tgt := 109) X dX8_measure_16 (by decide) hf (fun hf => ?_) (fun hf => ?_)
      · refine g_aload_n X dX8_measure_109 0 rfl ?_
        refine cg_8_0 X wd2_4 dX8_measure_110 ?_
        refine g_iconst X dX8_measure_113 kc_0 ?_
        refine g_aload_n X dX8_measure_114 0 rfl ?_
        refine cg_8_1 X wd2_5 dX8_measure_115 ?_
        refine g_iconst X dX8_measure_118 kc_0 ?_
        refine g_aload_n X dX8_measure_119 0 rfl ?_
        refine cg_8_1 X wd2_5 dX8_measure_120 ?_
        refine ca_len_8_1 X kn_64 dX8_measure_123 ?_
        refine ars_copy X ars_8_0 ars_8_1 wd4_145 wd4_5 wd4_4 wd1_19 ⟨Nat.le_of_ble_eq_true rfl, by decide⟩ (Nat.le_of_ble_eq_true rfl) dX8_measure_124 hf (fun S3 hf => ?_)
        refine g_iconst X dX8_measure_127 kc_0 ?_
        refine g_istore_n (i := 2) (lv' := [(2, .int (0 : Int32)), (0, .ref (ho 13)), (1, .ref (ho o1))]) X dX8_measure_128 rfl (by decide) rfl ?_
        refine g_lv [1, 0] (lv' := [(0, .ref (ho 13)), (2, .int (0 : Int32))]) rfl ?_
        exact hL129 _ _ _ hf
      refine g_aload_n X dX8_measure_19 1 rfl ?_
      refine cg_7_0 X h_o1 wd1_38 dX8_measure_20 ?_
      refine g_iload_n X dX8_measure_23 2 rfl ?_
      refine ca_ld_7_0 X h_o1 dX8_measure_24 hf (fun hf => ?_)
      refine g_bipush X dX8_measure_25 kb_8 ?_
      refine g_imul X dX8_measure_27 ?_
      refine g_aload_n X dX8_measure_28 1 rfl ?_
      refine cg_7_1 X h_o1 wd1_42 dX8_measure_29 ?_
      refine g_iload_n X dX8_measure_32 2 rfl ?_
      refine ca_ld_7_1 X h_o1 dX8_measure_33 hf (fun hf => ?_)
      refine g_iadd X dX8_measure_34 ?_
      refine g_istore_n (i := 3) (lv' := [(3, .int (((ca S o1 0 (x2).toNatClampNeg) * (8 : Int32)) + (ca S o1 1 (x2).toNatClampNeg))), (0, .ref (ho 13)), (1, .ref (ho o1)), (2, .int x2)]) X dX8_measure_35 rfl (by decide) rfl ?_
      refine g_aload_n X dX8_measure_36 2 rfl ?_
      refine cg_7_1 X h_o1 wd1_42 dX8_measure_37 ?_
      refine g_iload_n X dX8_measure_40 3 rfl ?_
      refine ca_ld_7_1 X h_o1 dX8_measure_41 hf (fun hf => ?_)
      refine g_bipush X dX8_measure_42 kb_8 ?_
      refine g_imul X dX8_measure_44 ?_
      refine g_aload_n X dX8_measure_45 2 rfl ?_
      refine cg_7_0 X h_o1 wd1_38 dX8_measure_46 ?_
      refine g_iload_n X dX8_measure_49 3 rfl ?_
      refine ca_ld_7_0 X h_o1 dX8_measure_50 hf (fun hf => ?_)
      refine g_iadd X dX8_measure_51 ?_
      refine g_istore (lv' := [(4, .int (((ca S o1 1 (x2).toNatClampNeg) * (8 : Int32)) + (ca S o1 0 (x2).toNatClampNeg))), (3, .int (((ca S o1 0 (x2).toNatClampNeg) * (8 : Int32)) + (ca S o1 1 (x2).toNatClampNeg))), (0, .ref (ho 13)), (1, .ref (ho o1)), (2, .int x2)]) X dX8_measure_52 (by decide) rfl ?_
      refine g_iload_n X dX8_measure_54 1 rfl ?_
      refine m_bind hf (fun y4 hy4 hf => ?_)
      refine cw_S_i (As := [.int (((ca S o1 0 (x2).toNatClampNeg) * (8 : Int32)) + (ca S o1 1 (x2).toNatClampNeg))]) (st := []) X Y kS_X8_46 (cc_8_isPlace l dC dI E ev ho ro P S (((ca S o1 0 (x2).toNatClampNeg) * (8 : Int32)) + (ca S o1 1 (x2).toNatClampNeg)) y4 hy4) ⟨Nat.le_of_ble_eq_true rfl, Nat.le_of_ble_eq_true rfl⟩ ⟨rfl, rfl⟩ (Nat.le_of_ble_eq_true rfl) ⟨Nat.le_of_ble_eq_true rfl, Nat.le_of_ble_eq_true rfl⟩ dX8_measure_55 ?_
      refine g_if_eq (tgt := 103) X dX8_measure_58 (by decide) hf (fun hf => ?_) (fun hf => ?_)
      · refine g_lv [2, 3, 4] (lv' := [(0, .ref (ho 13)), (1, .ref (ho o1)), (2, .int x2)]) rfl ?_
        exact hB103 _ ih _ _ hf
      refine g_iload X dX8_measure_61 0 rfl ?_
      refine m_bind hf (fun y5 hy5 hf => ?_)
      refine cw_S_i (As := [.int (((ca S o1 1 (x2).toNatClampNeg) * (8 : Int32)) + (ca S o1 0 (x2).toNatClampNeg))]) (st := []) X Y kS_X8_46 (cc_8_isPlace l dC dI E ev ho ro P S (((ca S o1 1 (x2).toNatClampNeg) * (8 : Int32)) + (ca S o1 0 (x2).toNatClampNeg)) y5 hy5) ⟨Nat.le_of_ble_eq_true rfl, Nat.le_of_ble_eq_true rfl⟩ ⟨rfl, rfl⟩ (Nat.le_of_ble_eq_true rfl) ⟨Nat.le_of_ble_eq_true rfl, Nat.le_of_ble_eq_true rfl⟩ dX8_measure_63 ?_
      refine g_if_eq (tgt := 103) X dX8_measure_66 (by decide) hf (fun hf => ?_) (fun hf => ?_)
      · refine g_lv [2, 3, 4] (lv' := [(0, .ref (ho 13)), (1, .ref (ho o1)), (2, .int x2)]) rfl ?_
        exact hB103 _ ih _ _ hf
      refine g_aload_n X dX8_measure_69 2 rfl ?_
      refine cg_8_0 X wd2_4 dX8_measure_70 ?_
      refine g_iload_n X dX8_measure_73 1 rfl ?_
      refine g_aload_n X dX8_measure_74 2 rfl ?_
      refine cg_8_0 X wd2_4 dX8_measure_75 ?_
      refine g_iload_n X dX8_measure_78 1 rfl ?_
      refine ca_ld_8_0 X dX8_measure_79 hf (fun hf => ?_)
      refine g_aload_n X dX8_measure_80 3 rfl ?_
      refine cg_7_2 X h_o1 wd1_46 dX8_measure_81 ?_
      refine g_iload_n X dX8_measure_84 4 rfl ?_
      refine ca_ld_7_2 X h_o1 dX8_measure_85 hf (fun hf => ?_)
      refine g_mmin X wd4_144 wd2_179 wd1_11 wd2_180 ⟨Nat.le_of_ble_eq_true rfl, Nat.le_of_ble_eq_true rfl⟩ (Nat.le_of_ble_eq_true rfl) ⟨Nat.le_of_ble_eq_true rfl, Nat.le_of_ble_eq_true rfl⟩ dX8_measure_86 ?_
      refine ca_st_8_0 X dX8_measure_89 hf (fun S6 hf => ?_)
      refine g_aload_n X dX8_measure_90 2 rfl ?_
      refine cg_8_0 X wd2_4 dX8_measure_91 ?_
      refine g_iload X dX8_measure_94 0 rfl ?_
      refine g_aload_n X dX8_measure_96 2 rfl ?_
      refine cg_8_0 X wd2_4 dX8_measure_97 ?_
      refine g_iload_n X dX8_measure_100 1 rfl ?_
      refine ca_ld_8_0 X dX8_measure_101 hf (fun hf => ?_)
      refine ca_st_8_0 X dX8_measure_102 hf (fun S7 hf => ?_)
      refine g_lv [2, 3, 4] (lv' := [(0, .ref (ho 13)), (1, .ref (ho o1)), (2, .int x2)]) rfl ?_
      exact hB103 _ ih _ _ hf
  refine g_lv [0, 1] (lv' := [(0, .ref (ho 13)), (1, .ref (ho o1))]) rfl ?_
  unfold C_8_measure at hf
  refine g_aload_n X dX8_measure_0 0 rfl ?_
  refine cg_8_0 X wd2_4 dX8_measure_1 ?_
  refine g_ldc X dX8_measure_4 wd4_137 ?_
  refine m_bind hf (fun y8 hy8 hf => ?_)
  refine cw_T_v (As := [.ref (ro 13 0), .int (1000000 : Int32)]) (st := []) X Y kT_X8_28 (cc_J7_fill l dC dI E ev ho ro F P S 13 0 64 (1000000 : Int32) ars_8_0 y8 hy8) ⟨Nat.le_of_ble_eq_true rfl, Nat.le_of_ble_eq_true rfl⟩ ⟨rfl, rfl⟩ (Nat.le_of_ble_eq_true rfl) ⟨Nat.le_of_ble_eq_true rfl, Nat.le_of_ble_eq_true rfl⟩ dX8_measure_6 ?_
  refine g_iconst X dX8_measure_9 kc_0 ?_
  refine g_istore_n (i := 2) (lv' := [(2, .int (0 : Int32)), (0, .ref (ho 13)), (1, .ref (ho o1))]) X dX8_measure_10 rfl (by decide) rfl ?_
  refine g_lv [1, 2, 0] (lv' := [(0, .ref (ho 13)), (1, .ref (ho o1)), (2, .int (0 : Int32))]) rfl ?_
  exact hL11 _ _ _ hf
def rc_8_cornersWithLanes : Room := { frames := 0, cells := 0, slots := 0, locals := 0 }
set_option maxRecDepth 100000 in
set_option maxHeartbeats 4000000 in
theorem cc_8_cornersWithLanes (l : Launch) (dC : Nat → ClassId) (dI : Nat → Nat → Nat) (E : Nat → ClassId) (ev : Nat → Nat) (ho : Nat → Nat) (ro : Nat → Nat → Nat) (F : Nat) (P : va_W) (S : CS) (o1 : Nat) (h_o1 : tw o1) (res : Int32) (hf : C_8_cornersWithLanes F S o1 = some res) : CC l dC dI E ev yX8_cornersWithLanes cX8_cornersWithLanes 4 (some .int) rc_8_cornersWithLanes [.ref (ho 13), .ref (ho o1)] (CW E ho ro S ++ P) (CW E ho ro S ++ P) (some (.int res)) := by
  refine CC_of (own := "LostLanes$Ways") (by decide) rfl (Nat.le_of_ble_eq_true rfl) ?_
  intro p e s m args below meth c A Q X Y hr hlk hA hQ
  have hL4 : ∀  (n : Nat) (x2 : Int32) (x3 : Int32), C_8_cornersWithLanes_L4 F o1 S n x2 x3 = some res → GG p l e rc_8_cornersWithLanes s m args below meth c dC dI A 4 0 0 Q (CW E ho ro S ++ P) 4 [(1, .ref (ho o1)), (2, .int x2), (3, .int x3)] [] := by
    intro  n
    induction n with
    | zero => intro x2 x3 hf; have hf : (none : Option Int32) = some res := hf; cases hf
    | succ n ih =>
      intro x2 x3 hf
      rw [C_8_cornersWithLanes_L4] at hf
      refine g_iload_n X dX8_cornersWithLanes_4 2 rfl ?_
      refine g_aload_n X dX8_cornersWithLanes_5 0 rfl ?_
      refine cg_7_5 X h_o1 wd1_58 dX8_cornersWithLanes_6 ?_
      refine g_icmp_ge (tgt := 38) X dX8_cornersWithLanes_9 (by decide) hf (fun hf => ?_) (fun hf => ?_)
      · refine g_iload_n X dX8_cornersWithLanes_38 1 rfl ?_
        exact c_reti_o hA hQ X hr hlk dX8_cornersWithLanes_39 hf
      refine g_iload_n X dX8_cornersWithLanes_12 1 rfl ?_
      refine g_iconst X dX8_cornersWithLanes_13 kc_1 ?_
      refine g_aload_n X dX8_cornersWithLanes_14 0 rfl ?_
      refine cg_7_0 X h_o1 wd1_38 dX8_cornersWithLanes_15 ?_
      refine g_iload_n X dX8_cornersWithLanes_18 2 rfl ?_
      refine ca_ld_7_0 X h_o1 dX8_cornersWithLanes_19 hf (fun hf => ?_)
      refine g_ishl X dX8_cornersWithLanes_20 ?_
      refine g_iconst X dX8_cornersWithLanes_21 kc_1 ?_
      refine g_aload_n X dX8_cornersWithLanes_22 0 rfl ?_
      refine cg_7_1 X h_o1 wd1_42 dX8_cornersWithLanes_23 ?_
      refine g_iload_n X dX8_cornersWithLanes_26 2 rfl ?_
      refine ca_ld_7_1 X h_o1 dX8_cornersWithLanes_27 hf (fun hf => ?_)
      refine g_ishl X dX8_cornersWithLanes_28 ?_
      refine g_ior X dX8_cornersWithLanes_29 ?_
      refine g_ior X dX8_cornersWithLanes_30 ?_
      refine g_istore_n (i := 2) (lv' := [(2, .int (x2 ||| (((1 : Int32) <<< ((ca S o1 0 (x3).toNatClampNeg) &&& 31)) ||| ((1 : Int32) <<< ((ca S o1 1 (x3).toNatClampNeg) &&& 31))))), (1, .ref (ho o1)), (3, .int x3)]) X dX8_cornersWithLanes_31 rfl (by decide) rfl ?_
      refine g_iinc (lv' := [(3, .int (x3 + (1 : Int32))), (2, .int (x2 ||| (((1 : Int32) <<< ((ca S o1 0 (x3).toNatClampNeg) &&& 31)) ||| ((1 : Int32) <<< ((ca S o1 1 (x3).toNatClampNeg) &&& 31))))), (1, .ref (ho o1))]) X dX8_cornersWithLanes_32 2 rfl kc_1 (by decide) rfl ?_
      refine g_goto (tgt := 4) X dX8_cornersWithLanes_35 (by decide) ?_
      refine g_lv [2, 1, 0] (lv' := [(1, .ref (ho o1)), (2, .int (x2 ||| (((1 : Int32) <<< ((ca S o1 0 (x3).toNatClampNeg) &&& 31)) ||| ((1 : Int32) <<< ((ca S o1 1 (x3).toNatClampNeg) &&& 31))))), (3, .int (x3 + (1 : Int32)))]) rfl ?_
      exact ih _ _ hf
  refine g_lv [0, 1] (lv' := [(0, .ref (ho 13)), (1, .ref (ho o1))]) rfl ?_
  unfold C_8_cornersWithLanes at hf
  refine g_iconst X dX8_cornersWithLanes_0 kc_0 ?_
  refine g_istore_n (i := 2) (lv' := [(2, .int (0 : Int32)), (0, .ref (ho 13)), (1, .ref (ho o1))]) X dX8_cornersWithLanes_1 rfl (by decide) rfl ?_
  refine g_iconst X dX8_cornersWithLanes_2 kc_0 ?_
  refine g_istore_n (i := 3) (lv' := [(3, .int (0 : Int32)), (2, .int (0 : Int32)), (0, .ref (ho 13)), (1, .ref (ho o1))]) X dX8_cornersWithLanes_3 rfl (by decide) rfl ?_
  refine g_lv [3, 1, 0] (lv' := [(1, .ref (ho o1)), (2, .int (0 : Int32)), (3, .int (0 : Int32))]) rfl ?_
  exact hL4 _ _ _ hf
def rc_8_meets : Room := { frames := 2, cells := 0, slots := 0, locals := 42 }
set_option maxRecDepth 100000 in
set_option maxHeartbeats 4000000 in
theorem cc_8_meets (l : Launch) (dC : Nat → ClassId) (dI : Nat → Nat → Nat) (E : Nat → ClassId) (ev : Nat → Nat) (ho : Nat → Nat) (ro : Nat → Nat → Nat) (F : Nat) (P : va_W) (S : CS) (x1 : Int32)  (res : Int32) (hf : C_8_meets F S x1 = some res) : CC l dC dI E ev yX8_meets cX8_meets 4 (some .int) rc_8_meets [.ref (ho 13), .int x1, .ref (ro 11 4)] (CW E ho ro S ++ P) (CW E ho ro S ++ P) (some (.int res)) := by
  refine CC_of (own := "LostLanes$Ways") (by decide) rfl (Nat.le_of_ble_eq_true rfl) ?_
  intro p e s m args below meth c A Q X Y hr hlk hA hQ
  have hL2 : ∀ (x1 : Int32) (n : Nat) (x3 : Int32), C_8_meets_L2 F S x1 n x3 = some res → GG p l e rc_8_meets s m args below meth c dC dI A 4 0 0 Q (CW E ho ro S ++ P) 2 [(0, .ref (ho 13)), (1, .int x1), (2, .ref (ro 11 4)), (3, .int x3)] [] := by
    intro x1 n
    induction n with
    | zero => intro x3 hf; have hf : (none : Option Int32) = some res := hf; cases hf
    | succ n ih =>
      intro x3 hf
      rw [C_8_meets_L2] at hf
      refine g_iload_n X dX8_meets_2 3 rfl ?_
      refine g_aload_n X dX8_meets_3 2 rfl ?_
      refine ca_len_9_4 X kn_61 dX8_meets_4 ?_
      refine g_icmp_ge (tgt := 28) X dX8_meets_5 (by decide) hf (fun hf => ?_) (fun hf => ?_)
      · refine g_ldc X dX8_meets_28 wd4_137 ?_
        exact c_reti_o hA hQ X hr hlk dX8_meets_30 hf
      refine g_aload_n X dX8_meets_8 0 rfl ?_
      refine g_iload_n X dX8_meets_9 1 rfl ?_
      refine g_aload_n X dX8_meets_10 2 rfl ?_
      refine g_iload_n X dX8_meets_11 3 rfl ?_
      refine ca_ld_9_4 X dX8_meets_12 hf (fun hf => ?_)
      refine m_bind hf (fun y1 hy1 hf => ?_)
      refine cw_V_i (cix := 8) (As := [.int x1, .int (ca S 11 4 (x3).toNatClampNeg)]) (st := []) X Y kV_X8_69 (cc_8_between l dC dI E ev ho ro P S x1 (ca S 11 4 (x3).toNatClampNeg) y1 hy1) ob_8 rfl ⟨Nat.le_of_ble_eq_true rfl, Nat.le_of_ble_eq_true rfl⟩ ⟨rfl, rfl⟩ (Nat.le_of_ble_eq_true rfl) ⟨Nat.le_of_ble_eq_true rfl, Nat.le_of_ble_eq_true rfl⟩ dX8_meets_13 ?_
      refine g_iload_n X dX8_meets_16 3 rfl ?_
      refine g_icmp_gt (tgt := 22) X dX8_meets_17 (by decide) hf (fun hf => ?_) (fun hf => ?_)
      · refine g_iinc (lv' := [(3, .int (x3 + (1 : Int32))), (0, .ref (ho 13)), (1, .int x1), (2, .ref (ro 11 4))]) X dX8_meets_22 3 rfl kc_1 (by decide) rfl ?_
        refine g_goto (tgt := 2) X dX8_meets_25 (by decide) ?_
        refine g_lv [1, 2, 3, 0] (lv' := [(0, .ref (ho 13)), (1, .int x1), (2, .ref (ro 11 4)), (3, .int (x3 + (1 : Int32)))]) rfl ?_
        exact ih _ hf
      refine g_iload_n X dX8_meets_20 3 rfl ?_
      exact c_reti_o hA hQ X hr hlk dX8_meets_21 hf
  refine g_lv [0, 1, 2] (lv' := [(0, .ref (ho 13)), (1, .int x1), (2, .ref (ro 11 4))]) rfl ?_
  unfold C_8_meets at hf
  refine g_iconst X dX8_meets_0 kc_0 ?_
  refine g_istore_n (i := 3) (lv' := [(3, .int (0 : Int32)), (0, .ref (ho 13)), (1, .int x1), (2, .ref (ro 11 4))]) X dX8_meets_1 rfl (by decide) rfl ?_
  refine g_lv [1, 2, 3, 0] (lv' := [(0, .ref (ho 13)), (1, .int x1), (2, .ref (ro 11 4)), (3, .int (0 : Int32))]) rfl ?_
  exact hL2 _ _ _ hf
def rc_8_slow : Room := { frames := 3, cells := 0, slots := 0, locals := 65 }
set_option maxRecDepth 100000 in
set_option maxHeartbeats 4000000 in
theorem cc_8_slow (l : Launch) (dC : Nat → ClassId) (dI : Nat → Nat → Nat) (E : Nat → ClassId) (ev : Nat → Nat) (ho : Nat → Nat) (ro : Nat → Nat → Nat) (F : Nat) (P : va_W) (S : CS)   (res : Unit × CS) (hf : C_8_slow F S = some res) : CC l dC dI E ev yX8_slow cX8_slow 3 none rc_8_slow [.ref (ho 13), .ref (ro 11 4)] (CW E ho ro S ++ P) (CW E ho ro res.2 ++ P) none := by
  refine CC_of (own := "LostLanes$Ways") (by decide) rfl (Nat.le_of_ble_eq_true rfl) ?_
  intro p e s m args below meth c A Q X Y hr hlk hA hQ
  have hL2 : ∀  (n : Nat) (S : CS) (x2 : Int32), C_8_slow_L2 F n S x2 = some res → GG p l e rc_8_slow s m args below meth c dC dI A 3 0 0 Q (CW E ho ro S ++ P) 2 [(0, .ref (ho 13)), (1, .ref (ro 11 4)), (2, .int x2)] [] := by
    intro  n
    induction n with
    | zero => intro S x2 hf; have hf : (none : Option (Unit × CS)) = some res := hf; cases hf
    | succ n ih =>
      intro S x2 hf
      rw [C_8_slow_L2] at hf
      refine g_iload_n X dX8_slow_2 2 rfl ?_
      refine g_bipush X dX8_slow_3 kb_8 ?_
      refine g_icmp_ge (tgt := 35) X dX8_slow_5 (by decide) hf (fun hf => ?_) (fun hf => ?_)
      · exact c_retv_s hA hQ X hr hlk dX8_slow_35 hf
      refine g_aload_n X dX8_slow_8 0 rfl ?_
      refine cg_8_4 X wd2_8 dX8_slow_9 ?_
      refine g_iload_n X dX8_slow_12 2 rfl ?_
      refine g_aload_n X dX8_slow_13 0 rfl ?_
      refine cg_8_4 X wd2_8 dX8_slow_14 ?_
      refine g_iload_n X dX8_slow_17 2 rfl ?_
      refine ca_ld_8_4 X dX8_slow_18 hf (fun hf => ?_)
      refine g_aload_n X dX8_slow_19 0 rfl ?_
      refine g_iload_n X dX8_slow_20 2 rfl ?_
      refine g_aload_n X dX8_slow_21 1 rfl ?_
      refine m_bind hf (fun y1 hy1 hf => ?_)
      refine cw_V_i (cix := 8) (As := [.int x2, .ref (ro 11 4)]) (st := [.int (ca S 13 4 (x2).toNatClampNeg), .int x2, .ref (ro 13 4)]) X Y kV_X8_75 (cc_8_meets l dC dI E ev ho ro F P S x2 y1 hy1) ob_8 rfl ⟨Nat.le_of_ble_eq_true rfl, Nat.le_of_ble_eq_true rfl⟩ ⟨rfl, rfl⟩ (Nat.le_of_ble_eq_true rfl) ⟨Nat.le_of_ble_eq_true rfl, Nat.le_of_ble_eq_true rfl⟩ dX8_slow_22 ?_
      refine g_mmax X wd4_175 wd2_191 wd1_11 wd2_192 ⟨Nat.le_of_ble_eq_true rfl, Nat.le_of_ble_eq_true rfl⟩ (Nat.le_of_ble_eq_true rfl) ⟨Nat.le_of_ble_eq_true rfl, Nat.le_of_ble_eq_true rfl⟩ dX8_slow_25 ?_
      refine ca_st_8_4 X dX8_slow_28 hf (fun S2 hf => ?_)
      refine g_iinc (lv' := [(2, .int (x2 + (1 : Int32))), (0, .ref (ho 13)), (1, .ref (ro 11 4))]) X dX8_slow_29 2 rfl kc_1 (by decide) rfl ?_
      refine g_goto (tgt := 2) X dX8_slow_32 (by decide) ?_
      refine g_lv [1, 2, 0] (lv' := [(0, .ref (ho 13)), (1, .ref (ro 11 4)), (2, .int (x2 + (1 : Int32)))]) rfl ?_
      exact ih _ _ hf
  refine g_lv [0, 1] (lv' := [(0, .ref (ho 13)), (1, .ref (ro 11 4))]) rfl ?_
  unfold C_8_slow at hf
  refine g_iconst X dX8_slow_0 kc_0 ?_
  refine g_istore_n (i := 2) (lv' := [(2, .int (0 : Int32)), (0, .ref (ho 13)), (1, .ref (ro 11 4))]) X dX8_slow_1 rfl (by decide) rfl ?_
  refine g_lv [1, 2, 0] (lv' := [(0, .ref (ho 13)), (1, .ref (ro 11 4)), (2, .int (0 : Int32))]) rfl ?_
  exact hL2 _ _ _ hf
def rc_8_quickest : Room := { frames := 0, cells := 0, slots := 0, locals := 0 }
set_option maxRecDepth 100000 in
set_option maxHeartbeats 4000000 in
theorem cc_8_quickest (l : Launch) (dC : Nat → ClassId) (dI : Nat → Nat → Nat) (E : Nat → ClassId) (ev : Nat → Nat) (ho : Nat → Nat) (ro : Nat → Nat → Nat) (F : Nat) (P : va_W) (S : CS)   (res : Int32) (hf : C_8_quickest F S = some res) : CC l dC dI E ev yX8_quickest cX8_quickest 3 (some .int) rc_8_quickest [.ref (ho 13)] (CW E ho ro S ++ P) (CW E ho ro S ++ P) (some (.int res)) := by
  refine CC_of (own := "LostLanes$Ways") (by decide) rfl (Nat.le_of_ble_eq_true rfl) ?_
  intro p e s m args below meth c A Q X Y hr hlk hA hQ
  have hB27 : ∀ (k4 : Int32 → Int32 → Option Int32) (hk4 : ∀ (x1 : Int32) (x2 : Int32), k4 x1 x2 = some res → GG p l e rc_8_quickest s m args below meth c dC dI A 3 0 0 Q (CW E ho ro S ++ P) 4 [(0, .ref (ho 13)), (1, .int x1), (2, .int x2)] []) (x1 : Int32) (x2 : Int32), C_8_quickest_B27 F k4 S x1 x2 = some res → GG p l e rc_8_quickest s m args below meth c dC dI A 3 0 0 Q (CW E ho ro S ++ P) 27 [(0, .ref (ho 13)), (1, .int x1), (2, .int x2)] [] := by
    intro k4 hk4 x1 x2 hf
    unfold C_8_quickest_B27 at hf
    refine g_iinc (lv' := [(2, .int (x2 + (1 : Int32))), (0, .ref (ho 13)), (1, .int x1)]) X dX8_quickest_27 2 rfl kc_1 (by decide) rfl ?_
    refine g_goto (tgt := 4) X dX8_quickest_30 (by decide) ?_
    refine g_lv [1, 2, 0] (lv' := [(0, .ref (ho 13)), (1, .int x1), (2, .int (x2 + (1 : Int32)))]) rfl ?_
    exact hk4 _ _ hf
  have hL4 : ∀  (n : Nat) (x1 : Int32) (x2 : Int32), C_8_quickest_L4 F S n x1 x2 = some res → GG p l e rc_8_quickest s m args below meth c dC dI A 3 0 0 Q (CW E ho ro S ++ P) 4 [(0, .ref (ho 13)), (1, .int x1), (2, .int x2)] [] := by
    intro  n
    induction n with
    | zero => intro x1 x2 hf; have hf : (none : Option Int32) = some res := hf; cases hf
    | succ n ih =>
      intro x1 x2 hf
      rw [C_8_quickest_L4] at hf
      refine g_iload_n X dX8_quickest_4 2 rfl ?_
      refine g_bipush X dX8_quickest_5 kb_8 ?_
      refine g_icmp_ge (tgt := 33) X dX8_quickest_7 (by decide) hf (fun hf => ?_) (fun hf => ?_)
      · refine g_iload_n X dX8_quickest_33 1 rfl ?_
        exact c_reti_o hA hQ X hr hlk dX8_quickest_34 hf
      refine g_aload_n X dX8_quickest_10 0 rfl ?_
      refine cg_8_4 X wd2_8 dX8_quickest_11 ?_
      refine g_iload_n X dX8_quickest_14 2 rfl ?_
      refine ca_ld_8_4 X dX8_quickest_15 hf (fun hf => ?_)
      refine g_aload_n X dX8_quickest_16 0 rfl ?_
      refine cg_8_4 X wd2_8 dX8_quickest_17 ?_
      refine g_iload_n X dX8_quickest_20 1 rfl ?_
      refine ca_ld_8_4 X dX8_quickest_21 hf (fun hf => ?_)
      refine g_icmp_ge (tgt := 27) X dX8_quickest_22 (by decide) hf (fun hf => ?_) (fun hf => ?_)
      · exact hB27 _ ih _ _ hf
      refine g_iload_n X dX8_quickest_25 2 rfl ?_
      refine g_istore_n (i := 1) (lv' := [(1, .int x2), (0, .ref (ho 13)), (2, .int x2)]) X dX8_quickest_26 rfl (by decide) rfl ?_
      refine g_lv [1, 0, 2] (lv' := [(0, .ref (ho 13)), (1, .int x2), (2, .int x2)]) rfl ?_
      exact hB27 _ ih _ _ hf
  refine g_lv [0] (lv' := [(0, .ref (ho 13))]) rfl ?_
  unfold C_8_quickest at hf
  refine g_iconst X dX8_quickest_0 kc_0 ?_
  refine g_istore_n (i := 1) (lv' := [(1, .int (0 : Int32)), (0, .ref (ho 13))]) X dX8_quickest_1 rfl (by decide) rfl ?_
  refine g_iconst X dX8_quickest_2 kc_1 ?_
  refine g_istore_n (i := 2) (lv' := [(2, .int (1 : Int32)), (1, .int (0 : Int32)), (0, .ref (ho 13))]) X dX8_quickest_3 rfl (by decide) rfl ?_
  refine g_lv [2, 1, 0] (lv' := [(0, .ref (ho 13)), (1, .int (0 : Int32)), (2, .int (1 : Int32))]) rfl ?_
  exact hL4 _ _ _ hf
def rc_J6_bitCount : Room := { frames := 0, cells := 0, slots := 0, locals := 0 }
set_option maxRecDepth 100000 in
set_option maxHeartbeats 4000000 in
theorem cc_J6_bitCount (l : Launch) (dC : Nat → ClassId) (dI : Nat → Nat → Nat) (E : Nat → ClassId) (ev : Nat → Nat) (ho : Nat → Nat) (ro : Nat → Nat → Nat) (P : va_W) (S : CS) (x0 : Int32)  (res : Int32) (hf : C_J6_bitCount x0 = some res) : CC l dC dI E ev yJ6_bitCount_0f7a4 cJ6_bitCount_0f7a4 1 (some .int) rc_J6_bitCount [.int x0] (CW E ho ro S ++ P) (CW E ho ro S ++ P) (some (.int res)) := by
  refine CC_of (own := "java/lang/Integer") (by decide) rfl (Nat.le_of_ble_eq_true rfl) ?_
  intro p e s m args below meth c A Q X Y hr hlk hA hQ
  refine g_lv [0] (lv' := [(0, .int x0)]) rfl ?_
  unfold C_J6_bitCount at hf
  refine g_iload_n X dJ6_bitCount_0f7a4_0 0 rfl ?_
  refine g_iload_n X dJ6_bitCount_0f7a4_1 0 rfl ?_
  refine g_iconst X dJ6_bitCount_0f7a4_2 kc_1 ?_
  refine g_iushr X dJ6_bitCount_0f7a4_3 ?_
  refine g_ldcw X dJ6_bitCount_0f7a4_4 wd4_199 ?_
  refine g_iand X dJ6_bitCount_0f7a4_7 ?_
  refine g_isub X dJ6_bitCount_0f7a4_8 ?_
  refine g_istore_n (i := 0) (lv' := [(0, .int (x0 - (((x0).toUInt32 >>> (((1 : Int32)).toUInt32 &&& Int32.toUInt32 31)).toInt32 &&& (1431655765 : Int32))))]) X dJ6_bitCount_0f7a4_9 rfl (by decide) rfl ?_
  refine g_iload_n X dJ6_bitCount_0f7a4_10 0 rfl ?_
  refine g_ldcw X dJ6_bitCount_0f7a4_11 wd4_200 ?_
  refine g_iand X dJ6_bitCount_0f7a4_14 ?_
  refine g_iload_n X dJ6_bitCount_0f7a4_15 0 rfl ?_
  refine g_iconst X dJ6_bitCount_0f7a4_16 kc_2 ?_
  refine g_iushr X dJ6_bitCount_0f7a4_17 ?_
  refine g_ldcw X dJ6_bitCount_0f7a4_18 wd4_200 ?_
  refine g_iand X dJ6_bitCount_0f7a4_21 ?_
  refine g_iadd X dJ6_bitCount_0f7a4_22 ?_
  refine g_istore_n (i := 0) (lv' := [(0, .int (((x0 - (((x0).toUInt32 >>> (((1 : Int32)).toUInt32 &&& Int32.toUInt32 31)).toInt32 &&& (1431655765 : Int32))) &&& (858993459 : Int32)) + ((((x0 - (((x0).toUInt32 >>> (((1 : Int32)).toUInt32 &&& Int32.toUInt32 31)).toInt32 &&& (1431655765 : Int32)))).toUInt32 >>> (((2 : Int32)).toUInt32 &&& Int32.toUInt32 31)).toInt32 &&& (858993459 : Int32))))]) X dJ6_bitCount_0f7a4_23 rfl (by decide) rfl ?_
  refine g_iload_n X dJ6_bitCount_0f7a4_24 0 rfl ?_
  refine g_iload_n X dJ6_bitCount_0f7a4_25 0 rfl ?_
  refine g_iconst X dJ6_bitCount_0f7a4_26 kc_4 ?_
  refine g_iushr X dJ6_bitCount_0f7a4_27 ?_
  refine g_iadd X dJ6_bitCount_0f7a4_28 ?_
  refine g_ldcw X dJ6_bitCount_0f7a4_29 wd4_201 ?_
  refine g_iand X dJ6_bitCount_0f7a4_32 ?_
  refine g_istore_n (i := 0) (lv' := [(0, .int (((((x0 - (((x0).toUInt32 >>> (((1 : Int32)).toUInt32 &&& Int32.toUInt32 31)).toInt32 &&& (1431655765 : Int32))) &&& (858993459 : Int32)) + ((((x0 - (((x0).toUInt32 >>> (((1 : Int32)).toUInt32 &&& Int32.toUInt32 31)).toInt32 &&& (1431655765 : Int32)))).toUInt32 >>> (((2 : Int32)).toUInt32 &&& Int32.toUInt32 31)).toInt32 &&& (858993459 : Int32))) + (((((x0 - (((x0).toUInt32 >>> (((1 : Int32)).toUInt32 &&& Int32.toUInt32 31)).toInt32 &&& (1431655765 : Int32))) &&& (858993459 : Int32)) + ((((x0 - (((x0).toUInt32 >>> (((1 : Int32)).toUInt32 &&& Int32.toUInt32 31)).toInt32 &&& (1431655765 : Int32)))).toUInt32 >>> (((2 : Int32)).toUInt32 &&& Int32.toUInt32 31)).toInt32 &&& (858993459 : Int32)))).toUInt32 >>> (((4 : Int32)).toUInt32 &&& Int32.toUInt32 31)).toInt32) &&& (252645135 : Int32)))]) X dJ6_bitCount_0f7a4_33 rfl (by decide) rfl ?_
  refine g_iload_n X dJ6_bitCount_0f7a4_34 0 rfl ?_
  refine g_iload_n X dJ6_bitCount_0f7a4_35 0 rfl ?_
  refine g_bipush X dJ6_bitCount_0f7a4_36 kb_8 ?_
  refine g_iushr X dJ6_bitCount_0f7a4_38 ?_
  refine g_iadd X dJ6_bitCount_0f7a4_39 ?_
  refine g_istore_n (i := 0) (lv' := [(0, .int ((((((x0 - (((x0).toUInt32 >>> (((1 : Int32)).toUInt32 &&& Int32.toUInt32 31)).toInt32 &&& (1431655765 : Int32))) &&& (858993459 : Int32)) + ((((x0 - (((x0).toUInt32 >>> (((1 : Int32)).toUInt32 &&& Int32.toUInt32 31)).toInt32 &&& (1431655765 : Int32)))).toUInt32 >>> (((2 : Int32)).toUInt32 &&& Int32.toUInt32 31)).toInt32 &&& (858993459 : Int32))) + (((((x0 - (((x0).toUInt32 >>> (((1 : Int32)).toUInt32 &&& Int32.toUInt32 31)).toInt32 &&& (1431655765 : Int32))) &&& (858993459 : Int32)) + ((((x0 - (((x0).toUInt32 >>> (((1 : Int32)).toUInt32 &&& Int32.toUInt32 31)).toInt32 &&& (1431655765 : Int32)))).toUInt32 >>> (((2 : Int32)).toUInt32 &&& Int32.toUInt32 31)).toInt32 &&& (858993459 : Int32)))).toUInt32 >>> (((4 : Int32)).toUInt32 &&& Int32.toUInt32 31)).toInt32) &&& (252645135 : Int32)) + (((((((x0 - (((x0).toUInt32 >>> (((1 : Int32)).toUInt32 &&& Int32.toUInt32 31)).toInt32 &&& (1431655765 : Int32))) &&& (858993459 : Int32)) + ((((x0 - (((x0).toUInt32 >>> (((1 : Int32)).toUInt32 &&& Int32.toUInt32 31)).toInt32 &&& (1431655765 : Int32)))).toUInt32 >>> (((2 : Int32)).toUInt32 &&& Int32.toUInt32 31)).toInt32 &&& (858993459 : Int32))) + (((((x0 - (((x0).toUInt32 >>> (((1 : Int32)).toUInt32 &&& Int32.toUInt32 31)).toInt32 &&& (1431655765 : Int32))) &&& (858993459 : Int32)) + ((((x0 - (((x0).toUInt32 >>> (((1 : Int32)).toUInt32 &&& Int32.toUInt32 31)).toInt32 &&& (1431655765 : Int32)))).toUInt32 >>> (((2 : Int32)).toUInt32 &&& Int32.toUInt32 31)).toInt32 &&& (858993459 : Int32)))).toUInt32 >>> (((4 : Int32)).toUInt32 &&& Int32.toUInt32 31)).toInt32) &&& (252645135 : Int32))).toUInt32 >>> (((8 : Int32)).toUInt32 &&& Int32.toUInt32 31)).toInt32))]) X dJ6_bitCount_0f7a4_40 rfl (by decide) rfl ?_
  refine g_iload_n X dJ6_bitCount_0f7a4_41 0 rfl ?_
  refine g_iload_n X dJ6_bitCount_0f7a4_42 0 rfl ?_
  refine g_bipush X dJ6_bitCount_0f7a4_43 kb_16 ?_
  refine g_iushr X dJ6_bitCount_0f7a4_45 ?_
  refine g_iadd X dJ6_bitCount_0f7a4_46 ?_
  refine g_istore_n (i := 0) (lv' := [(0, .int (((((((x0 - (((x0).toUInt32 >>> (((1 : Int32)).toUInt32 &&& Int32.toUInt32 31)).toInt32 &&& (1431655765 : Int32))) &&& (858993459 : Int32)) + ((((x0 - (((x0).toUInt32 >>> (((1 : Int32)).toUInt32 &&& Int32.toUInt32 31)).toInt32 &&& (1431655765 : Int32)))).toUInt32 >>> (((2 : Int32)).toUInt32 &&& Int32.toUInt32 31)).toInt32 &&& (858993459 : Int32))) + (((((x0 - (((x0).toUInt32 >>> (((1 : Int32)).toUInt32 &&& Int32.toUInt32 31)).toInt32 &&& (1431655765 : Int32))) &&& (858993459 : Int32)) + ((((x0 - (((x0).toUInt32 >>> (((1 : Int32)).toUInt32 &&& Int32.toUInt32 31)).toInt32 &&& (1431655765 : Int32)))).toUInt32 >>> (((2 : Int32)).toUInt32 &&& Int32.toUInt32 31)).toInt32 &&& (858993459 : Int32)))).toUInt32 >>> (((4 : Int32)).toUInt32 &&& Int32.toUInt32 31)).toInt32) &&& (252645135 : Int32)) + (((((((x0 - (((x0).toUInt32 >>> (((1 : Int32)).toUInt32 &&& Int32.toUInt32 31)).toInt32 &&& (1431655765 : Int32))) &&& (858993459 : Int32)) + ((((x0 - (((x0).toUInt32 >>> (((1 : Int32)).toUInt32 &&& Int32.toUInt32 31)).toInt32 &&& (1431655765 : Int32)))).toUInt32 >>> (((2 : Int32)).toUInt32 &&& Int32.toUInt32 31)).toInt32 &&& (858993459 : Int32))) + (((((x0 - (((x0).toUInt32 >>> (((1 : Int32)).toUInt32 &&& Int32.toUInt32 31)).toInt32 &&& (1431655765 : Int32))) &&& (858993459 : Int32)) + ((((x0 - (((x0).toUInt32 >>> (((1 : Int32)).toUInt32 &&& Int32.toUInt32 31)).toInt32 &&& (1431655765 : Int32)))).toUInt32 >>> (((2 : Int32)).toUInt32 &&& Int32.toUInt32 31)).toInt32 &&& (858993459 : Int32)))).toUInt32 >>> (((4 : Int32)).toUInt32 &&& Int32.toUInt32 31)).toInt32) &&& (252645135 : Int32))).toUInt32 >>> (((8 : Int32)).toUInt32 &&& Int32.toUInt32 31)).toInt32) + ((((((((x0 - (((x0).toUInt32 >>> (((1 : Int32)).toUInt32 &&& Int32.toUInt32 31)).toInt32 &&& (1431655765 : Int32))) &&& (858993459 : Int32)) + ((((x0 - (((x0).toUInt32 >>> (((1 : Int32)).toUInt32 &&& Int32.toUInt32 31)).toInt32 &&& (1431655765 : Int32)))).toUInt32 >>> (((2 : Int32)).toUInt32 &&& Int32.toUInt32 31)).toInt32 &&& (858993459 : Int32))) + (((((x0 - (((x0).toUInt32 >>> (((1 : Int32)).toUInt32 &&& Int32.toUInt32 31)).toInt32 &&& (1431655765 : Int32))) &&& (858993459 : Int32)) + ((((x0 - (((x0).toUInt32 >>> (((1 : Int32)).toUInt32 &&& Int32.toUInt32 31)).toInt32 &&& (1431655765 : Int32)))).toUInt32 >>> (((2 : Int32)).toUInt32 &&& Int32.toUInt32 31)).toInt32 &&& (858993459 : Int32)))).toUInt32 >>> (((4 : Int32)).toUInt32 &&& Int32.toUInt32 31)).toInt32) &&& (252645135 : Int32)) + (((((((x0 - (((x0).toUInt32 >>> (((1 : Int32)).toUInt32 &&& Int32.toUInt32 31)).toInt32 &&& (1431655765 : Int32))) &&& (858993459 : Int32)) + ((((x0 - (((x0).toUInt32 >>> (((1 : Int32)).toUInt32 &&& Int32.toUInt32 31)).toInt32 &&& (1431655765 : Int32)))).toUInt32 >>> (((2 : Int32)).toUInt32 &&& Int32.toUInt32 31)).toInt32 &&& (858993459 : Int32))) + (((((x0 - (((x0).toUInt32 >>> (((1 : Int32)).toUInt32 &&& Int32.toUInt32 31)).toInt32 &&& (1431655765 : Int32))) &&& (858993459 : Int32)) + ((((x0 - (((x0).toUInt32 >>> (((1 : Int32)).toUInt32 &&& Int32.toUInt32 31)).toInt32 &&& (1431655765 : Int32)))).toUInt32 >>> (((2 : Int32)).toUInt32 &&& Int32.toUInt32 31)).toInt32 &&& (858993459 : Int32)))).toUInt32 >>> (((4 : Int32)).toUInt32 &&& Int32.toUInt32 31)).toInt32) &&& (252645135 : Int32))).toUInt32 >>> (((8 : Int32)).toUInt32 &&& Int32.toUInt32 31)).toInt32)).toUInt32 >>> (((16 : Int32)).toUInt32 &&& Int32.toUInt32 31)).toInt32))]) X dJ6_bitCount_0f7a4_47 rfl (by decide) rfl ?_
  refine g_iload_n X dJ6_bitCount_0f7a4_48 0 rfl ?_
  refine g_bipush X dJ6_bitCount_0f7a4_49 kb_63 ?_
  refine g_iand X dJ6_bitCount_0f7a4_51 ?_
  exact c_reti_o hA hQ X hr hlk dJ6_bitCount_0f7a4_52 hf
def rc_8_cornersWithin : Room := { frames := 2, cells := 0, slots := 0, locals := 42 }
set_option maxRecDepth 100000 in
set_option maxHeartbeats 4000000 in
theorem cc_8_cornersWithin (l : Launch) (dC : Nat → ClassId) (dI : Nat → Nat → Nat) (E : Nat → ClassId) (ev : Nat → Nat) (ho : Nat → Nat) (ro : Nat → Nat → Nat) (F : Nat) (P : va_W) (S : CS) (x1 : Int32) (x2 : Int32)  (res : Int32) (hf : C_8_cornersWithin F S x1 x2 = some res) : CC l dC dI E ev yX8_cornersWithin cX8_cornersWithin 5 (some .int) rc_8_cornersWithin [.ref (ho 13), .int x1, .int x2] (CW E ho ro S ++ P) (CW E ho ro S ++ P) (some (.int res)) := by
  refine CC_of (own := "LostLanes$Ways") (by decide) rfl (Nat.le_of_ble_eq_true rfl) ?_
  intro p e s m args below meth c A Q X Y hr hlk hA hQ
  have hB30 : ∀ (x1 : Int32) (x2 : Int32) (k5 : Int32 → Int32 → Option Int32) (hk5 : ∀ (x3 : Int32) (x4 : Int32), k5 x3 x4 = some res → GG p l e rc_8_cornersWithin s m args below meth c dC dI A 5 0 0 Q (CW E ho ro S ++ P) 5 [(0, .ref (ho 13)), (1, .int x1), (2, .int x2), (3, .int x3), (4, .int x4)] []) (x3 : Int32) (x4 : Int32), C_8_cornersWithin_B30 F k5 S x1 x2 x3 x4 = some res → GG p l e rc_8_cornersWithin s m args below meth c dC dI A 5 0 0 Q (CW E ho ro S ++ P) 30 [(0, .ref (ho 13)), (1, .int x1), (2, .int x2), (3, .int x3), (4, .int x4)] [] := by
    intro x1 x2 k5 hk5 x3 x4 hf
    unfold C_8_cornersWithin_B30 at hf
    refine g_iinc (lv' := [(4, .int (x4 + (1 : Int32))), (0, .ref (ho 13)), (1, .int x1), (2, .int x2), (3, .int x3)]) X dX8_cornersWithin_30 4 rfl kc_1 (by decide) rfl ?_
    refine g_goto (tgt := 5) X dX8_cornersWithin_33 (by decide) ?_
    refine g_lv [1, 2, 3, 4, 0] (lv' := [(0, .ref (ho 13)), (1, .int x1), (2, .int x2), (3, .int x3), (4, .int (x4 + (1 : Int32)))]) rfl ?_
    exact hk5 _ _ hf
  have hL5 : ∀ (x1 : Int32) (x2 : Int32) (n : Nat) (x3 : Int32) (x4 : Int32), C_8_cornersWithin_L5 F S x1 x2 n x3 x4 = some res → GG p l e rc_8_cornersWithin s m args below meth c dC dI A 5 0 0 Q (CW E ho ro S ++ P) 5 [(0, .ref (ho 13)), (1, .int x1), (2, .int x2), (3, .int x3), (4, .int x4)] [] := by
    intro x1 x2 n
    induction n with
    | zero => intro x3 x4 hf; have hf : (none : Option Int32) = some res := hf; cases hf
    | succ n ih =>
      intro x3 x4 hf
      rw [C_8_cornersWithin_L5] at hf
      refine g_iload X dX8_cornersWithin_5 4 rfl ?_
      refine g_bipush X dX8_cornersWithin_7 kb_8 ?_
      refine g_icmp_ge (tgt := 36) X dX8_cornersWithin_9 (by decide) hf (fun hf => ?_) (fun hf => ?_)
      · refine g_iload_n X dX8_cornersWithin_36 3 rfl ?_
        exact c_reti_o hA hQ X hr hlk dX8_cornersWithin_37 hf
      refine g_aload_n X dX8_cornersWithin_12 0 rfl ?_
      refine g_iload_n X dX8_cornersWithin_13 2 rfl ?_
      refine g_iload X dX8_cornersWithin_14 4 rfl ?_
      refine m_bind hf (fun y1 hy1 hf => ?_)
      refine cw_V_i (cix := 8) (As := [.int x2, .int x4]) (st := []) X Y kV_X8_69 (cc_8_between l dC dI E ev ho ro P S x2 x4 y1 hy1) ob_8 rfl ⟨Nat.le_of_ble_eq_true rfl, Nat.le_of_ble_eq_true rfl⟩ ⟨rfl, rfl⟩ (Nat.le_of_ble_eq_true rfl) ⟨Nat.le_of_ble_eq_true rfl, Nat.le_of_ble_eq_true rfl⟩ dX8_cornersWithin_16 ?_
      refine g_iload_n X dX8_cornersWithin_19 1 rfl ?_
      refine g_icmp_gt (tgt := 30) X dX8_cornersWithin_20 (by decide) hf (fun hf => ?_) (fun hf => ?_)
      · exact hB30 _ _ _ ih _ _ hf
      refine g_iload_n X dX8_cornersWithin_23 3 rfl ?_
      refine g_iconst X dX8_cornersWithin_24 kc_1 ?_
      refine g_iload X dX8_cornersWithin_25 4 rfl ?_
      refine g_ishl X dX8_cornersWithin_27 ?_
      refine g_ior X dX8_cornersWithin_28 ?_
      refine g_istore_n (i := 3) (lv' := [(3, .int (x3 ||| ((1 : Int32) <<< (x4 &&& 31)))), (0, .ref (ho 13)), (1, .int x1), (2, .int x2), (4, .int x4)]) X dX8_cornersWithin_29 rfl (by decide) rfl ?_
      refine g_lv [1, 2, 3, 0, 4] (lv' := [(0, .ref (ho 13)), (1, .int x1), (2, .int x2), (3, .int (x3 ||| ((1 : Int32) <<< (x4 &&& 31)))), (4, .int x4)]) rfl ?_
      exact hB30 _ _ _ ih _ _ hf
  refine g_lv [0, 1, 2] (lv' := [(0, .ref (ho 13)), (1, .int x1), (2, .int x2)]) rfl ?_
  unfold C_8_cornersWithin at hf
  refine g_iconst X dX8_cornersWithin_0 kc_0 ?_
  refine g_istore_n (i := 3) (lv' := [(3, .int (0 : Int32)), (0, .ref (ho 13)), (1, .int x1), (2, .int x2)]) X dX8_cornersWithin_1 rfl (by decide) rfl ?_
  refine g_iconst X dX8_cornersWithin_2 kc_0 ?_
  refine g_istore (lv' := [(4, .int (0 : Int32)), (3, .int (0 : Int32)), (0, .ref (ho 13)), (1, .int x1), (2, .int x2)]) X dX8_cornersWithin_3 (by decide) rfl ?_
  refine g_lv [2, 3, 4, 1, 0] (lv' := [(0, .ref (ho 13)), (1, .int x1), (2, .int x2), (3, .int (0 : Int32)), (4, .int (0 : Int32))]) rfl ?_
  exact hL5 _ _ _ _ _ hf
def rc_8_doCover : Room := { frames := 0, cells := 0, slots := 0, locals := 0 }
set_option maxRecDepth 100000 in
set_option maxHeartbeats 4000000 in
theorem cc_8_doCover (l : Launch) (dC : Nat → ClassId) (dI : Nat → Nat → Nat) (E : Nat → ClassId) (ev : Nat → Nat) (ho : Nat → Nat) (ro : Nat → Nat → Nat) (F : Nat) (P : va_W) (S : CS) (x1 : Int32) (x2 : Int32)  (res : Int32) (hf : C_8_doCover F S x1 x2 = some res) : CC l dC dI E ev yX8_doCover cX8_doCover 5 (some .boolean) rc_8_doCover [.ref (ho 13), .int x1, .int x2] (CW E ho ro S ++ P) (CW E ho ro S ++ P) (some (.int res)) := by
  refine CC_of (own := "LostLanes$Ways") (by decide) rfl (Nat.le_of_ble_eq_true rfl) ?_
  intro p e s m args below meth c A Q X Y hr hlk hA hQ
  have hB32 : ∀ (x1 : Int32) (x2 : Int32) (k5 : Int32 → Int32 → Option Int32) (hk5 : ∀ (x3 : Int32) (x4 : Int32), k5 x3 x4 = some res → GG p l e rc_8_doCover s m args below meth c dC dI A 5 0 0 Q (CW E ho ro S ++ P) 5 [(0, .ref (ho 13)), (1, .int x1), (2, .int x2), (3, .int x3), (4, .int x4)] []) (x3 : Int32) (x4 : Int32), C_8_doCover_B32 F k5 S x1 x2 x3 x4 = some res → GG p l e rc_8_doCover s m args below meth c dC dI A 5 0 0 Q (CW E ho ro S ++ P) 32 [(0, .ref (ho 13)), (1, .int x1), (2, .int x2), (3, .int x3), (4, .int x4)] [] := by
    intro x1 x2 k5 hk5 x3 x4 hf
    unfold C_8_doCover_B32 at hf
    refine g_iinc (lv' := [(4, .int (x4 + (1 : Int32))), (0, .ref (ho 13)), (1, .int x1), (2, .int x2), (3, .int x3)]) X dX8_doCover_32 4 rfl kc_1 (by decide) rfl ?_
    refine g_goto (tgt := 5) X dX8_doCover_35 (by decide) ?_
    refine g_lv [1, 2, 3, 4, 0] (lv' := [(0, .ref (ho 13)), (1, .int x1), (2, .int x2), (3, .int x3), (4, .int (x4 + (1 : Int32)))]) rfl ?_
    exact hk5 _ _ hf
  have hL5 : ∀ (x1 : Int32) (x2 : Int32) (n : Nat) (x3 : Int32) (x4 : Int32), C_8_doCover_L5 F S x1 x2 n x3 x4 = some res → GG p l e rc_8_doCover s m args below meth c dC dI A 5 0 0 Q (CW E ho ro S ++ P) 5 [(0, .ref (ho 13)), (1, .int x1), (2, .int x2), (3, .int x3), (4, .int x4)] [] := by
    intro x1 x2 n
    induction n with
    | zero => intro x3 x4 hf; have hf : (none : Option Int32) = some res := hf; cases hf
    | succ n ih =>
      intro x3 x4 hf
      rw [C_8_doCover_L5] at hf
      refine g_iload X dX8_doCover_5 4 rfl ?_
      refine g_bipush X dX8_doCover_7 kb_8 ?_
      refine g_icmp_ge (tgt := 38) X dX8_doCover_9 (by decide) hf (fun hf => ?_) (fun hf => ?_)
      · refine g_iload_n X dX8_doCover_38 2 rfl ?_
        refine g_iload_n X dX8_doCover_39 3 rfl ?_
        refine g_iconst X dX8_doCover_40 kc_m1 ?_
        refine g_ixor X dX8_doCover_41 ?_
        refine g_iand X dX8_doCover_42 ?_
        refine g_if_ne (tgt := 50) X dX8_doCover_43 (by decide) hf (fun hf => ?_) (fun hf => ?_)
        · refine g_iconst X dX8_doCover_50 kc_0 ?_
          exact c_retz_o hA hQ X hr hlk (Or.inl rfl) dX8_doCover_51 hf
        refine g_iconst X dX8_doCover_46 kc_1 ?_
        refine g_goto (tgt := 51) X dX8_doCover_47 (by decide) ?_
        exact c_retz_o hA hQ X hr hlk (Or.inr rfl) dX8_doCover_51 hf
      refine g_iload_n X dX8_doCover_12 1 rfl ?_
      refine g_iload X dX8_doCover_13 4 rfl ?_
      refine g_ishr X dX8_doCover_15 ?_
      refine g_iconst X dX8_doCover_16 kc_1 ?_
      refine g_iand X dX8_doCover_17 ?_
      refine g_iconst X dX8_doCover_18 kc_1 ?_
      refine g_icmp_ne (tgt := 32) X dX8_doCover_19 (by decide) hf (fun hf => ?_) (fun hf => ?_)
      · exact hB32 _ _ _ ih _ _ hf
      refine g_iload_n X dX8_doCover_22 3 rfl ?_
      refine g_aload_n X dX8_doCover_23 0 rfl ?_
      refine cg_8_2 X wd2_6 dX8_doCover_24 ?_
      refine g_iload X dX8_doCover_27 4 rfl ?_
      refine ca_ld_8_2 X dX8_doCover_29 hf (fun hf => ?_)
      refine g_ior X dX8_doCover_30 ?_
      refine g_istore_n (i := 3) (lv' := [(3, .int (x3 ||| (ca S 13 2 (x4).toNatClampNeg))), (0, .ref (ho 13)), (1, .int x1), (2, .int x2), (4, .int x4)]) X dX8_doCover_31 rfl (by decide) rfl ?_
      refine g_lv [1, 2, 3, 0, 4] (lv' := [(0, .ref (ho 13)), (1, .int x1), (2, .int x2), (3, .int (x3 ||| (ca S 13 2 (x4).toNatClampNeg))), (4, .int x4)]) rfl ?_
      exact hB32 _ _ _ ih _ _ hf
  refine g_lv [0, 1, 2] (lv' := [(0, .ref (ho 13)), (1, .int x1), (2, .int x2)]) rfl ?_
  unfold C_8_doCover at hf
  refine g_iconst X dX8_doCover_0 kc_0 ?_
  refine g_istore_n (i := 3) (lv' := [(3, .int (0 : Int32)), (0, .ref (ho 13)), (1, .int x1), (2, .int x2)]) X dX8_doCover_1 rfl (by decide) rfl ?_
  refine g_iconst X dX8_doCover_2 kc_0 ?_
  refine g_istore (lv' := [(4, .int (0 : Int32)), (3, .int (0 : Int32)), (0, .ref (ho 13)), (1, .int x1), (2, .int x2)]) X dX8_doCover_3 (by decide) rfl ?_
  refine g_lv [2, 3, 4, 1, 0] (lv' := [(0, .ref (ho 13)), (1, .int x1), (2, .int x2), (3, .int (0 : Int32)), (4, .int (0 : Int32))]) rfl ?_
  exact hL5 _ _ _ _ _ hf
def rc_8_fewestPosts : Room := { frames := 3, cells := 0, slots := 0, locals := 66 }
set_option maxRecDepth 100000 in
set_option maxHeartbeats 4000000 in
theorem cc_8_fewestPosts (l : Launch) (dC : Nat → ClassId) (dI : Nat → Nat → Nat) (E : Nat → ClassId) (ev : Nat → Nat) (ho : Nat → Nat) (ro : Nat → Nat → Nat) (F : Nat) (P : va_W) (S : CS) (x1 : Int32) (x2 : Int32)  (res : Int32 × CS) (hf : C_8_fewestPosts F S x1 x2 = some res) : CC l dC dI E ev yX8_fewestPosts cX8_fewestPosts 5 (some .int) rc_8_fewestPosts [.ref (ho 13), .int x1, .int x2] (CW E ho ro S ++ P) (CW E ho ro res.2 ++ P) (some (.int res.1)) := by
  refine CC_of (own := "LostLanes$Ways") (by decide) rfl (Nat.le_of_ble_eq_true rfl) ?_
  intro p e s m args below meth c A Q X Y hr hlk hA hQ
  have hB66 : ∀ (S : CS) (x2 : Int32) (k33 : Int32 → Int32 → Option (Int32 × CS)) (hk33 : ∀ (x3 : Int32) (x4 : Int32), k33 x3 x4 = some res → GG p l e rc_8_fewestPosts s m args below meth c dC dI A 5 0 0 Q (CW E ho ro S ++ P) 33 [(0, .ref (ho 13)), (2, .int x2), (3, .int x3), (4, .int x4)] []) (x3 : Int32) (x4 : Int32), C_8_fewestPosts_B66 F k33 S x2 x3 x4 = some res → GG p l e rc_8_fewestPosts s m args below meth c dC dI A 5 0 0 Q (CW E ho ro S ++ P) 66 [(0, .ref (ho 13)), (2, .int x2), (3, .int x3), (4, .int x4)] [] := by
    intro S x2 k33 hk33 x3 x4 hf
    unfold C_8_fewestPosts_B66 at hf
    refine g_iinc (lv' := [(4, .int (x4 + (1 : Int32))), (0, .ref (ho 13)), (2, .int x2), (3, .int x3)]) X dX8_fewestPosts_66 3 rfl kc_1 (by decide) rfl ?_
    refine g_goto (tgt := 33) X dX8_fewestPosts_69 (by decide) ?_
    refine g_lv [1, 2, 3, 0] (lv' := [(0, .ref (ho 13)), (2, .int x2), (3, .int x3), (4, .int (x4 + (1 : Int32)))]) rfl ?_
    exact hk33 _ _ hf
  have hL33 : ∀ (S : CS) (x2 : Int32) (n : Nat) (x3 : Int32) (x4 : Int32), C_8_fewestPosts_L33 F S x2 n x3 x4 = some res → GG p l e rc_8_fewestPosts s m args below meth c dC dI A 5 0 0 Q (CW E ho ro S ++ P) 33 [(0, .ref (ho 13)), (2, .int x2), (3, .int x3), (4, .int x4)] [] := by
    intro S x2 n
    induction n with
    | zero => intro x3 x4 hf; have hf : (none : Option (Int32 × CS)) = some res := hf; cases hf
    | succ n ih =>
      intro x3 x4 hf
      rw [C_8_fewestPosts_L33] at hf
      refine g_iload X dX8_fewestPosts_33 3 rfl ?_
      refine g_sipush X dX8_fewestPosts_35 ks_256 ?_
      refine g_icmp_ge (tgt := 72) X dX8_fewestPosts_38 (by decide) hf (fun hf => ?_) (fun hf => ?_)
      · refine g_iload_n X dX8_fewestPosts_72 2 rfl ?_
        exact c_reti_s hA hQ X hr hlk dX8_fewestPosts_73 hf
      refine g_iload X dX8_fewestPosts_41 3 rfl ?_
      refine m_bind hf (fun y1 hy1 hf => ?_)
      refine cw_T_i (As := [.int x4]) (st := []) X Y kT_X8_85 (cc_J6_bitCount l dC dI E ev ho ro P S x4 y1 hy1) ⟨Nat.le_of_ble_eq_true rfl, Nat.le_of_ble_eq_true rfl⟩ ⟨rfl, rfl⟩ (Nat.le_of_ble_eq_true rfl) ⟨Nat.le_of_ble_eq_true rfl, Nat.le_of_ble_eq_true rfl⟩ dX8_fewestPosts_43 ?_
      refine g_iload_n X dX8_fewestPosts_46 2 rfl ?_
      refine m_bind hf (fun y2 hy2 hf => ?_)
      refine cw_T_i (As := [.int x3]) (st := [.int y1]) X Y kT_X8_85 (cc_J6_bitCount l dC dI E ev ho ro P S x3 y2 hy2) ⟨Nat.le_of_ble_eq_true rfl, Nat.le_of_ble_eq_true rfl⟩ ⟨rfl, rfl⟩ (Nat.le_of_ble_eq_true rfl) ⟨Nat.le_of_ble_eq_true rfl, Nat.le_of_ble_eq_true rfl⟩ dX8_fewestPosts_47 ?_
      refine g_icmp_ge (tgt := 66) X dX8_fewestPosts_50 (by decide) hf (fun hf => ?_) (fun hf => ?_)
      · exact hB66 _ _ _ ih _ _ hf
      refine g_aload_n X dX8_fewestPosts_53 0 rfl ?_
      refine g_iload X dX8_fewestPosts_54 3 rfl ?_
      refine g_iload_n X dX8_fewestPosts_56 1 rfl ?_
      refine m_bind hf (fun y3 hy3 hf => ?_)
      refine cw_V_i (cix := 8) (As := [.int x4, .int x2]) (st := []) X Y kV_X8_91 (cc_8_doCover l dC dI E ev ho ro F P S x4 x2 y3 hy3) ob_8 rfl ⟨Nat.le_of_ble_eq_true rfl, Nat.le_of_ble_eq_true rfl⟩ ⟨rfl, rfl⟩ (Nat.le_of_ble_eq_true rfl) ⟨Nat.le_of_ble_eq_true rfl, Nat.le_of_ble_eq_true rfl⟩ dX8_fewestPosts_57 ?_
      refine g_if_eq (tgt := 66) X dX8_fewestPosts_60 (by decide) hf (fun hf => ?_) (fun hf => ?_)
      · exact hB66 _ _ _ ih _ _ hf
      refine g_iload X dX8_fewestPosts_63 3 rfl ?_
      refine g_istore_n (i := 3) (lv' := [(3, .int x4), (0, .ref (ho 13)), (2, .int x2), (4, .int x4)]) X dX8_fewestPosts_65 rfl (by decide) rfl ?_
      refine g_lv [1, 2, 0, 3] (lv' := [(0, .ref (ho 13)), (2, .int x2), (3, .int x4), (4, .int x4)]) rfl ?_
      exact hB66 _ _ _ ih _ _ hf
  have hL2 : ∀ (x1 : Int32) (x2 : Int32) (n : Nat) (S : CS) (x3 : Int32), C_8_fewestPosts_L2 F x1 x2 n S x3 = some res → GG p l e rc_8_fewestPosts s m args below meth c dC dI A 5 0 0 Q (CW E ho ro S ++ P) 2 [(0, .ref (ho 13)), (1, .int x1), (2, .int x2), (3, .int x3)] [] := by
    intro x1 x2 n
    induction n with
    | zero => intro S x3 hf; have hf : (none : Option (Int32 × CS)) = some res := hf; cases hf
    | succ n ih =>
      intro S x3 hf
      rw [C_8_fewestPosts_L2] at hf
      refine g_iload_n X dX8_fewestPosts_2 3 rfl ?_
      refine g_bipush X dX8_fewestPosts_3 kb_8 ?_
      refine g_icmp_ge (tgt := 26) X dX8_fewestPosts_5 (by decide) hf (fun hf => ?_) (fun hf => ?_)
      · refine g_sipush X dX8_fewestPosts_26 ks_255 ?_
        refine g_istore_n (i := 3) (lv' := [(3, .int (255 : Int32)), (0, .ref (ho 13)), (1, .int x1), (2, .int x2)]) X dX8_fewestPosts_29 rfl (by decide) rfl ?_
        refine g_iconst X dX8_fewestPosts_30 kc_0 ?_
        refine g_istore (lv' := [(4, .int (0 : Int32)), (3, .int (255 : Int32)), (0, .ref (ho 13)), (1, .int x1), (2, .int x2)]) X dX8_fewestPosts_31 (by decide) rfl ?_
        refine g_lv [2, 4, 1, 0] (lv' := [(0, .ref (ho 13)), (2, .int x2), (3, .int (255 : Int32)), (4, .int (0 : Int32))]) rfl ?_
        exact hL33 _ _ _ _ _ hf
      refine g_aload_n X dX8_fewestPosts_8 0 rfl ?_
      refine cg_8_2 X wd2_6 dX8_fewestPosts_9 ?_
      refine g_iload_n X dX8_fewestPosts_12 3 rfl ?_
      refine g_aload_n X dX8_fewestPosts_13 0 rfl ?_
      refine g_iload_n X dX8_fewestPosts_14 1 rfl ?_
      refine g_iload_n X dX8_fewestPosts_15 3 rfl ?_
      refine m_bind hf (fun y4 hy4 hf => ?_)
      refine cw_V_i (cix := 8) (As := [.int x1, .int x3]) (st := [.int x3, .ref (ro 13 2)]) X Y kV_X8_82 (cc_8_cornersWithin l dC dI E ev ho ro F P S x1 x3 y4 hy4) ob_8 rfl ⟨Nat.le_of_ble_eq_true rfl, Nat.le_of_ble_eq_true rfl⟩ ⟨rfl, rfl⟩ (Nat.le_of_ble_eq_true rfl) ⟨Nat.le_of_ble_eq_true rfl, Nat.le_of_ble_eq_true rfl⟩ dX8_fewestPosts_16 ?_
      refine ca_st_8_2 X dX8_fewestPosts_19 hf (fun S5 hf => ?_)
      refine g_iinc (lv' := [(3, .int (x3 + (1 : Int32))), (0, .ref (ho 13)), (1, .int x1), (2, .int x2)]) X dX8_fewestPosts_20 3 rfl kc_1 (by decide) rfl ?_
      refine g_goto (tgt := 2) X dX8_fewestPosts_23 (by decide) ?_
      refine g_lv [1, 2, 3, 0] (lv' := [(0, .ref (ho 13)), (1, .int x1), (2, .int x2), (3, .int (x3 + (1 : Int32)))]) rfl ?_
      exact ih _ _ hf
  refine g_lv [0, 1, 2] (lv' := [(0, .ref (ho 13)), (1, .int x1), (2, .int x2)]) rfl ?_
  unfold C_8_fewestPosts at hf
  refine g_iconst X dX8_fewestPosts_0 kc_0 ?_
  refine g_istore_n (i := 3) (lv' := [(3, .int (0 : Int32)), (0, .ref (ho 13)), (1, .int x1), (2, .int x2)]) X dX8_fewestPosts_1 rfl (by decide) rfl ?_
  refine g_lv [1, 2, 3, 0] (lv' := [(0, .ref (ho 13)), (1, .int x1), (2, .int x2), (3, .int (0 : Int32))]) rfl ?_
  exact hL2 _ _ _ _ _ hf
def rc_8_nearestNamed : Room := { frames := 2, cells := 0, slots := 0, locals := 42 }
set_option maxRecDepth 100000 in
set_option maxHeartbeats 4000000 in
theorem cc_8_nearestNamed (l : Launch) (dC : Nat → ClassId) (dI : Nat → Nat → Nat) (E : Nat → ClassId) (ev : Nat → Nat) (ho : Nat → Nat) (ro : Nat → Nat → Nat) (F : Nat) (P : va_W) (S : CS) (o1 : Nat) (x2 : Int32) (x3 : Int32) (h_o1 : tw o1) (res : Int32) (hf : C_8_nearestNamed F S o1 x2 x3 = some res) : CC l dC dI E ev yX8_nearestNamed cX8_nearestNamed 8 (some .int) rc_8_nearestNamed [.ref (ho 13), .ref (ho o1), .int x2, .int x3] (CW E ho ro S ++ P) (CW E ho ro S ++ P) (some (.int res)) := by
  refine CC_of (own := "LostLanes$Ways") (by decide) rfl (Nat.le_of_ble_eq_true rfl) ?_
  intro p e s m args below meth c A Q X Y hr hlk hA hQ
  have hB74 : ∀ (x2 : Int32) (x3 : Int32) (k10 : Int32 → Int32 → Int32 → Option Int32) (hk10 : ∀ (x4 : Int32) (x5 : Int32) (x6 : Int32), k10 x4 x5 x6 = some res → GG p l e rc_8_nearestNamed s m args below meth c dC dI A 8 0 0 Q (CW E ho ro S ++ P) 10 [(0, .ref (ho 13)), (1, .ref (ho o1)), (2, .int x2), (3, .int x3), (4, .int x4), (5, .int x5), (6, .int x6)] []) (x4 : Int32) (x5 : Int32) (x6 : Int32), C_8_nearestNamed_B74 F o1 k10 S x2 x3 x4 x5 x6 = some res → GG p l e rc_8_nearestNamed s m args below meth c dC dI A 8 0 0 Q (CW E ho ro S ++ P) 74 [(0, .ref (ho 13)), (1, .ref (ho o1)), (2, .int x2), (3, .int x3), (4, .int x4), (5, .int x5), (6, .int x6)] [] := by
    intro x2 x3 k10 hk10 x4 x5 x6 hf
    unfold C_8_nearestNamed_B74 at hf
    refine g_iinc (lv' := [(6, .int (x6 + (1 : Int32))), (0, .ref (ho 13)), (1, .ref (ho o1)), (2, .int x2), (3, .int x3), (4, .int x4), (5, .int x5)]) X dX8_nearestNamed_74 6 rfl kc_1 (by decide) rfl ?_
    refine g_goto (tgt := 10) X dX8_nearestNamed_77 (by decide) ?_
    refine g_lv [1, 2, 3, 4, 5, 6, 0] (lv' := [(0, .ref (ho 13)), (1, .ref (ho o1)), (2, .int x2), (3, .int x3), (4, .int x4), (5, .int x5), (6, .int (x6 + (1 : Int32)))]) rfl ?_
    exact hk10 _ _ _ hf
  have hL10 : ∀ (x2 : Int32) (x3 : Int32) (n : Nat) (x4 : Int32) (x5 : Int32) (x6 : Int32), C_8_nearestNamed_L10 F o1 S x2 x3 n x4 x5 x6 = some res → GG p l e rc_8_nearestNamed s m args below meth c dC dI A 8 0 0 Q (CW E ho ro S ++ P) 10 [(0, .ref (ho 13)), (1, .ref (ho o1)), (2, .int x2), (3, .int x3), (4, .int x4), (5, .int x5), (6, .int x6)] [] := by
    intro x2 x3 n
    induction n with
    | zero => intro x4 x5 x6 hf; have hf : (none : Option Int32) = some res := hf; cases hf
    | succ n ih =>
      intro x4 x5 x6 hf
      rw [C_8_nearestNamed_L10] at hf
      refine g_iload X dX8_nearestNamed_10 6 rfl ?_
      refine g_aload_n X dX8_nearestNamed_12 1 rfl ?_
      refine cg_7_5 X h_o1 wd1_58 dX8_nearestNamed_13 ?_
      refine g_icmp_ge (tgt := 80) X dX8_nearestNamed_16 (by decide) hf (fun hf => ?_) (fun hf => ?_)
      · refine g_iload X dX8_nearestNamed_80 4 rfl ?_
        exact c_reti_o hA hQ X hr hlk dX8_nearestNamed_82 hf
      refine g_aload_n X dX8_nearestNamed_19 1 rfl ?_
      refine cg_7_4 X h_o1 wd1_56 dX8_nearestNamed_20 ?_
      refine g_iload X dX8_nearestNamed_23 6 rfl ?_
      refine ca_ld_7_4 X h_o1 dX8_nearestNamed_25 hf (fun hf => ?_)
      refine g_iload_n X dX8_nearestNamed_26 3 rfl ?_
      refine g_icmp_ne (tgt := 74) X dX8_nearestNamed_27 (by decide) hf (fun hf => ?_) (fun hf => ?_)
      · exact hB74 _ _ _ ih _ _ _ hf
      refine g_aload_n X dX8_nearestNamed_30 0 rfl ?_
      refine g_iload_n X dX8_nearestNamed_31 2 rfl ?_
      refine g_aload_n X dX8_nearestNamed_32 1 rfl ?_
      refine cg_7_0 X h_o1 wd1_38 dX8_nearestNamed_33 ?_
      refine g_iload X dX8_nearestNamed_36 6 rfl ?_
      refine ca_ld_7_0 X h_o1 dX8_nearestNamed_38 hf (fun hf => ?_)
      refine m_bind hf (fun y1 hy1 hf => ?_)
      refine cw_V_i (cix := 8) (As := [.int x2, .int (ca S o1 0 (x6).toNatClampNeg)]) (st := []) X Y kV_X8_69 (cc_8_between l dC dI E ev ho ro P S x2 (ca S o1 0 (x6).toNatClampNeg) y1 hy1) ob_8 rfl ⟨Nat.le_of_ble_eq_true rfl, Nat.le_of_ble_eq_true rfl⟩ ⟨rfl, rfl⟩ (Nat.le_of_ble_eq_true rfl) ⟨Nat.le_of_ble_eq_true rfl, Nat.le_of_ble_eq_true rfl⟩ dX8_nearestNamed_39 ?_
      refine g_aload_n X dX8_nearestNamed_42 0 rfl ?_
      refine g_iload_n X dX8_nearestNamed_43 2 rfl ?_
      refine g_aload_n X dX8_nearestNamed_44 1 rfl ?_
      refine cg_7_1 X h_o1 wd1_42 dX8_nearestNamed_45 ?_
      refine g_iload X dX8_nearestNamed_48 6 rfl ?_
      refine ca_ld_7_1 X h_o1 dX8_nearestNamed_50 hf (fun hf => ?_)
      refine m_bind hf (fun y2 hy2 hf => ?_)
      refine cw_V_i (cix := 8) (As := [.int x2, .int (ca S o1 1 (x6).toNatClampNeg)]) (st := [.int y1]) X Y kV_X8_69 (cc_8_between l dC dI E ev ho ro P S x2 (ca S o1 1 (x6).toNatClampNeg) y2 hy2) ob_8 rfl ⟨Nat.le_of_ble_eq_true rfl, Nat.le_of_ble_eq_true rfl⟩ ⟨rfl, rfl⟩ (Nat.le_of_ble_eq_true rfl) ⟨Nat.le_of_ble_eq_true rfl, Nat.le_of_ble_eq_true rfl⟩ dX8_nearestNamed_51 ?_
      refine g_mmin X wd4_144 wd2_179 wd1_11 wd2_180 ⟨Nat.le_of_ble_eq_true rfl, Nat.le_of_ble_eq_true rfl⟩ (Nat.le_of_ble_eq_true rfl) ⟨Nat.le_of_ble_eq_true rfl, Nat.le_of_ble_eq_true rfl⟩ dX8_nearestNamed_54 ?_
      refine g_istore (lv' := [(7, .int (if y2 < y1 then y2 else y1)), (0, .ref (ho 13)), (1, .ref (ho o1)), (2, .int x2), (3, .int x3), (4, .int x4), (5, .int x5), (6, .int x6)]) X dX8_nearestNamed_57 (by decide) rfl ?_
      refine g_iload X dX8_nearestNamed_59 0 rfl ?_
      refine g_iload X dX8_nearestNamed_61 6 rfl ?_
      refine g_icmp_ge (tgt := 74) X dX8_nearestNamed_63 (by decide) hf (fun hf => ?_) (fun hf => ?_)
      · refine g_lv [1, 2, 3, 4, 5, 6, 7] (lv' := [(0, .ref (ho 13)), (1, .ref (ho o1)), (2, .int x2), (3, .int x3), (4, .int x4), (5, .int x5), (6, .int x6)]) rfl ?_
        exact hB74 _ _ _ ih _ _ _ hf
      refine g_iload X dX8_nearestNamed_66 0 rfl ?_
      refine g_istore (lv' := [(5, .int (if y2 < y1 then y2 else y1)), (7, .int (if y2 < y1 then y2 else y1)), (0, .ref (ho 13)), (1, .ref (ho o1)), (2, .int x2), (3, .int x3), (4, .int x4), (6, .int x6)]) X dX8_nearestNamed_68 (by decide) rfl ?_
      refine g_iload X dX8_nearestNamed_70 7 rfl ?_
      refine g_istore (lv' := [(4, .int x6), (5, .int (if y2 < y1 then y2 else y1)), (7, .int (if y2 < y1 then y2 else y1)), (0, .ref (ho 13)), (1, .ref (ho o1)), (2, .int x2), (3, .int x3), (6, .int x6)]) X dX8_nearestNamed_72 (by decide) rfl ?_
      refine g_lv [3, 4, 5, 6, 0, 1, 7] (lv' := [(0, .ref (ho 13)), (1, .ref (ho o1)), (2, .int x2), (3, .int x3), (4, .int x6), (5, .int (if y2 < y1 then y2 else y1)), (6, .int x6)]) rfl ?_
      exact hB74 _ _ _ ih _ _ _ hf
  refine g_lv [0, 1, 2, 3] (lv' := [(0, .ref (ho 13)), (1, .ref (ho o1)), (2, .int x2), (3, .int x3)]) rfl ?_
  unfold C_8_nearestNamed at hf
  refine g_iconst X dX8_nearestNamed_0 kc_m1 ?_
  refine g_istore (lv' := [(4, .int (-1 : Int32)), (0, .ref (ho 13)), (1, .ref (ho o1)), (2, .int x2), (3, .int x3)]) X dX8_nearestNamed_1 (by decide) rfl ?_
  refine g_ldc X dX8_nearestNamed_3 wd4_137 ?_
  refine g_istore (lv' := [(5, .int (1000000 : Int32)), (4, .int (-1 : Int32)), (0, .ref (ho 13)), (1, .ref (ho o1)), (2, .int x2), (3, .int x3)]) X dX8_nearestNamed_5 (by decide) rfl ?_
  refine g_iconst X dX8_nearestNamed_7 kc_0 ?_
  refine g_istore (lv' := [(6, .int (0 : Int32)), (5, .int (1000000 : Int32)), (4, .int (-1 : Int32)), (0, .ref (ho 13)), (1, .ref (ho o1)), (2, .int x2), (3, .int x3)]) X dX8_nearestNamed_8 (by decide) rfl ?_
  refine g_lv [3, 4, 5, 6, 2, 1, 0] (lv' := [(0, .ref (ho 13)), (1, .ref (ho o1)), (2, .int x2), (3, .int x3), (4, .int (-1 : Int32)), (5, .int (1000000 : Int32)), (6, .int (0 : Int32))]) rfl ?_
  exact hL10 _ _ _ _ _ _ hf
def rc_8_nearerEnd : Room := { frames := 2, cells := 0, slots := 0, locals := 42 }
set_option maxRecDepth 100000 in
set_option maxHeartbeats 4000000 in
theorem cc_8_nearerEnd (l : Launch) (dC : Nat → ClassId) (dI : Nat → Nat → Nat) (E : Nat → ClassId) (ev : Nat → Nat) (ho : Nat → Nat) (ro : Nat → Nat → Nat) (P : va_W) (S : CS) (o1 : Nat) (x2 : Int32) (x3 : Int32) (h_o1 : tw o1) (res : Int32) (hf : C_8_nearerEnd S o1 x2 x3 = some res) : CC l dC dI E ev yX8_nearerEnd cX8_nearerEnd 6 (some .int) rc_8_nearerEnd [.ref (ho 13), .ref (ho o1), .int x2, .int x3] (CW E ho ro S ++ P) (CW E ho ro S ++ P) (some (.int res)) := by
  refine CC_of (own := "LostLanes$Ways") (by decide) rfl (Nat.le_of_ble_eq_true rfl) ?_
  intro p e s m args below meth c A Q X Y hr hlk hA hQ
  refine g_lv [0, 1, 2, 3] (lv' := [(0, .ref (ho 13)), (1, .ref (ho o1)), (2, .int x2), (3, .int x3)]) rfl ?_
  unfold C_8_nearerEnd at hf
  refine g_aload_n X dX8_nearerEnd_0 1 rfl ?_
  refine g_iload_n X dX8_nearerEnd_1 3 rfl ?_
  refine m_bind hf (fun y1 hy1 hf => ?_)
  refine cw_V_i (cix := 7) (As := [.int x3]) (st := []) X Y kV_X8_98 (cc_7_hasLane l dC dI E ev ho ro P S o1 x3 h_o1 y1 hy1) (ob_7 h_o1) rfl ⟨Nat.le_of_ble_eq_true rfl, Nat.le_of_ble_eq_true rfl⟩ ⟨rfl, rfl⟩ (Nat.le_of_ble_eq_true rfl) ⟨Nat.le_of_ble_eq_true rfl, Nat.le_of_ble_eq_true rfl⟩ dX8_nearerEnd_2 ?_
  refine g_if_ne (tgt := 10) X dX8_nearerEnd_5 (by decide) hf (fun hf => ?_) (fun hf => ?_)
  · refine g_aload_n X dX8_nearerEnd_10 1 rfl ?_
    refine cg_7_0 X h_o1 wd1_38 dX8_nearerEnd_11 ?_
    refine g_iload_n X dX8_nearerEnd_14 3 rfl ?_
    refine ca_ld_7_0 X h_o1 dX8_nearerEnd_15 hf (fun hf => ?_)
    refine g_aload_n X dX8_nearerEnd_16 1 rfl ?_
    refine cg_7_1 X h_o1 wd1_42 dX8_nearerEnd_17 ?_
    refine g_iload_n X dX8_nearerEnd_20 3 rfl ?_
    refine ca_ld_7_1 X h_o1 dX8_nearerEnd_21 hf (fun hf => ?_)
    refine g_mmin X wd4_144 wd2_179 wd1_11 wd2_180 ⟨Nat.le_of_ble_eq_true rfl, Nat.le_of_ble_eq_true rfl⟩ (Nat.le_of_ble_eq_true rfl) ⟨Nat.le_of_ble_eq_true rfl, Nat.le_of_ble_eq_true rfl⟩ dX8_nearerEnd_22 ?_
    refine g_istore (lv' := [(4, .int (if (ca S o1 1 (x3).toNatClampNeg) < (ca S o1 0 (x3).toNatClampNeg) then (ca S o1 1 (x3).toNatClampNeg) else (ca S o1 0 (x3).toNatClampNeg))), (0, .ref (ho 13)), (1, .ref (ho o1)), (2, .int x2), (3, .int x3)]) X dX8_nearerEnd_25 (by decide) rfl ?_
    refine g_aload_n X dX8_nearerEnd_27 2 rfl ?_
    refine cg_7_0 X h_o1 wd1_38 dX8_nearerEnd_28 ?_
    refine g_iload_n X dX8_nearerEnd_31 4 rfl ?_
    refine ca_ld_7_0 X h_o1 dX8_nearerEnd_32 hf (fun hf => ?_)
    refine g_aload_n X dX8_nearerEnd_33 2 rfl ?_
    refine cg_7_1 X h_o1 wd1_42 dX8_nearerEnd_34 ?_
    refine g_iload_n X dX8_nearerEnd_37 4 rfl ?_
    refine ca_ld_7_1 X h_o1 dX8_nearerEnd_38 hf (fun hf => ?_)
    refine g_mmax X wd4_175 wd2_191 wd1_11 wd2_192 ⟨Nat.le_of_ble_eq_true rfl, Nat.le_of_ble_eq_true rfl⟩ (Nat.le_of_ble_eq_true rfl) ⟨Nat.le_of_ble_eq_true rfl, Nat.le_of_ble_eq_true rfl⟩ dX8_nearerEnd_39 ?_
    refine g_istore (lv' := [(5, .int (if (ca S o1 0 (x3).toNatClampNeg) < (ca S o1 1 (x3).toNatClampNeg) then (ca S o1 1 (x3).toNatClampNeg) else (ca S o1 0 (x3).toNatClampNeg))), (4, .int (if (ca S o1 1 (x3).toNatClampNeg) < (ca S o1 0 (x3).toNatClampNeg) then (ca S o1 1 (x3).toNatClampNeg) else (ca S o1 0 (x3).toNatClampNeg))), (0, .ref (ho 13)), (1, .ref (ho o1)), (2, .int x2), (3, .int x3)]) X dX8_nearerEnd_42 (by decide) rfl ?_
    refine g_aload_n X dX8_nearerEnd_44 2 rfl ?_
    refine g_iload_n X dX8_nearerEnd_45 4 rfl ?_
    refine g_iload X dX8_nearerEnd_46 0 rfl ?_
    refine m_bind hf (fun y2 hy2 hf => ?_)
    refine cw_V_i (cix := 8) (As := [.int x2, .int (if (ca S o1 0 (x3).toNatClampNeg) < (ca S o1 1 (x3).toNatClampNeg) then (ca S o1 1 (x3).toNatClampNeg) else (ca S o1 0 (x3).toNatClampNeg))]) (st := []) X Y kV_X8_69 (cc_8_between l dC dI E ev ho ro P S x2 (if (ca S o1 0 (x3).toNatClampNeg) < (ca S o1 1 (x3).toNatClampNeg) then (ca S o1 1 (x3).toNatClampNeg) else (ca S o1 0 (x3).toNatClampNeg)) y2 hy2) ob_8 rfl ⟨Nat.le_of_ble_eq_true rfl, Nat.le_of_ble_eq_true rfl⟩ ⟨rfl, rfl⟩ (Nat.le_of_ble_eq_true rfl) ⟨Nat.le_of_ble_eq_true rfl, Nat.le_of_ble_eq_true rfl⟩ dX8_nearerEnd_48 ?_
    refine g_aload_n X dX8_nearerEnd_51 2 rfl ?_
    refine g_iload_n X dX8_nearerEnd_52 4 rfl ?_
    refine g_iload X dX8_nearerEnd_53 1 rfl ?_
    refine m_bind hf (fun y3 hy3 hf => ?_)
    refine cw_V_i (cix := 8) (As := [.int x2, .int (if (ca S o1 1 (x3).toNatClampNeg) < (ca S o1 0 (x3).toNatClampNeg) then (ca S o1 1 (x3).toNatClampNeg) else (ca S o1 0 (x3).toNatClampNeg))]) (st := [.int y2]) X Y kV_X8_69 (cc_8_between l dC dI E ev ho ro P S x2 (if (ca S o1 1 (x3).toNatClampNeg) < (ca S o1 0 (x3).toNatClampNeg) then (ca S o1 1 (x3).toNatClampNeg) else (ca S o1 0 (x3).toNatClampNeg)) y3 hy3) ob_8 rfl ⟨Nat.le_of_ble_eq_true rfl, Nat.le_of_ble_eq_true rfl⟩ ⟨rfl, rfl⟩ (Nat.le_of_ble_eq_true rfl) ⟨Nat.le_of_ble_eq_true rfl, Nat.le_of_ble_eq_true rfl⟩ dX8_nearerEnd_55 ?_
    refine g_icmp_ge (tgt := 66) X dX8_nearerEnd_58 (by decide) hf (fun hf => ?_) (fun hf => ?_)
    · refine g_iload X dX8_nearerEnd_66 1 rfl ?_
      exact c_reti_o hA hQ X hr hlk dX8_nearerEnd_68 hf
    refine g_iload X dX8_nearerEnd_61 0 rfl ?_
    refine g_goto (tgt := 68) X dX8_nearerEnd_63 (by decide) ?_
    exact c_reti_o hA hQ X hr hlk dX8_nearerEnd_68 hf
  refine g_iload_n X dX8_nearerEnd_8 2 rfl ?_
  exact c_reti_o hA hQ X hr hlk dX8_nearerEnd_9 hf
def rc_8_nextOnWay : Room := { frames := 2, cells := 0, slots := 0, locals := 42 }
set_option maxRecDepth 100000 in
set_option maxHeartbeats 4000000 in
theorem cc_8_nextOnWay (l : Launch) (dC : Nat → ClassId) (dI : Nat → Nat → Nat) (E : Nat → ClassId) (ev : Nat → Nat) (ho : Nat → Nat) (ro : Nat → Nat → Nat) (F : Nat) (P : va_W) (S : CS) (x1 : Int32) (x2 : Int32)  (res : Int32) (hf : C_8_nextOnWay F S x1 x2 = some res) : CC l dC dI E ev yX8_nextOnWay cX8_nextOnWay 5 (some .int) rc_8_nextOnWay [.ref (ho 13), .int x1, .int x2] (CW E ho ro S ++ P) (CW E ho ro S ++ P) (some (.int res)) := by
  refine CC_of (own := "LostLanes$Ways") (by decide) rfl (Nat.le_of_ble_eq_true rfl) ?_
  intro p e s m args below meth c A Q X Y hr hlk hA hQ
  have hB60 : ∀ (x1 : Int32) (x2 : Int32) (k2 : Int32 → Option Int32) (hk2 : ∀ (x3 : Int32), k2 x3 = some res → GG p l e rc_8_nextOnWay s m args below meth c dC dI A 5 0 0 Q (CW E ho ro S ++ P) 2 [(0, .ref (ho 13)), (1, .int x1), (2, .int x2), (3, .int x3)] []) (x3 : Int32), C_8_nextOnWay_B60 F k2 S x1 x2 x3 = some res → GG p l e rc_8_nextOnWay s m args below meth c dC dI A 5 0 0 Q (CW E ho ro S ++ P) 60 [(0, .ref (ho 13)), (1, .int x1), (2, .int x2), (3, .int x3)] [] := by
    intro x1 x2 k2 hk2 x3 hf
    unfold C_8_nextOnWay_B60 at hf
    refine g_iinc (lv' := [(3, .int (x3 + (1 : Int32))), (0, .ref (ho 13)), (1, .int x1), (2, .int x2)]) X dX8_nextOnWay_60 3 rfl kc_1 (by decide) rfl ?_
    refine g_goto (tgt := 2) X dX8_nextOnWay_63 (by decide) ?_
    refine g_lv [1, 2, 3, 0] (lv' := [(0, .ref (ho 13)), (1, .int x1), (2, .int x2), (3, .int (x3 + (1 : Int32)))]) rfl ?_
    exact hk2 _ hf
  have hB31 : ∀ (x1 : Int32) (x2 : Int32) (k2 : Int32 → Option Int32) (hk2 : ∀ (x3 : Int32), k2 x3 = some res → GG p l e rc_8_nextOnWay s m args below meth c dC dI A 5 0 0 Q (CW E ho ro S ++ P) 2 [(0, .ref (ho 13)), (1, .int x1), (2, .int x2), (3, .int x3)] []) (x3 : Int32) (tx0 : Int32), C_8_nextOnWay_B31 F k2 S x1 x2 x3 tx0 = some res → GG p l e rc_8_nextOnWay s m args below meth c dC dI A 5 0 0 Q (CW E ho ro S ++ P) 31 [(0, .ref (ho 13)), (1, .int x1), (2, .int x2), (3, .int x3)] [.int tx0] := by
    intro x1 x2 k2 hk2 x3 tx0 hf
    unfold C_8_nextOnWay_B31 at hf
    refine g_istore (lv' := [(4, .int tx0), (0, .ref (ho 13)), (1, .int x1), (2, .int x2), (3, .int x3)]) X dX8_nextOnWay_31 (by decide) rfl ?_
    refine g_iload X dX8_nextOnWay_33 0 rfl ?_
    refine g_ldc X dX8_nextOnWay_35 wd4_137 ?_
    refine g_icmp_ge (tgt := 60) X dX8_nextOnWay_37 (by decide) hf (fun hf => ?_) (fun hf => ?_)
    · refine g_lv [1, 2, 3, 4] (lv' := [(0, .ref (ho 13)), (1, .int x1), (2, .int x2), (3, .int x3)]) rfl ?_
      exact hB60 _ _ _ hk2 _ hf
    refine g_iload X dX8_nextOnWay_40 0 rfl ?_
    refine g_aload_n X dX8_nextOnWay_42 1 rfl ?_
    refine g_iload_n X dX8_nextOnWay_43 4 rfl ?_
    refine g_iload_n X dX8_nextOnWay_44 3 rfl ?_
    refine m_bind hf (fun y1 hy1 hf => ?_)
    refine cw_V_i (cix := 8) (As := [.int x3, .int x2]) (st := [.int tx0]) X Y kV_X8_69 (cc_8_between l dC dI E ev ho ro P S x3 x2 y1 hy1) ob_8 rfl ⟨Nat.le_of_ble_eq_true rfl, Nat.le_of_ble_eq_true rfl⟩ ⟨rfl, rfl⟩ (Nat.le_of_ble_eq_true rfl) ⟨Nat.le_of_ble_eq_true rfl, Nat.le_of_ble_eq_true rfl⟩ dX8_nextOnWay_45 ?_
    refine g_iadd X dX8_nextOnWay_48 ?_
    refine g_aload_n X dX8_nextOnWay_49 1 rfl ?_
    refine g_iload_n X dX8_nextOnWay_50 2 rfl ?_
    refine g_iload_n X dX8_nextOnWay_51 3 rfl ?_
    refine m_bind hf (fun y2 hy2 hf => ?_)
    refine cw_V_i (cix := 8) (As := [.int x1, .int x2]) (st := [.int (tx0 + y1)]) X Y kV_X8_69 (cc_8_between l dC dI E ev ho ro P S x1 x2 y2 hy2) ob_8 rfl ⟨Nat.le_of_ble_eq_true rfl, Nat.le_of_ble_eq_true rfl⟩ ⟨rfl, rfl⟩ (Nat.le_of_ble_eq_true rfl) ⟨Nat.le_of_ble_eq_true rfl, Nat.le_of_ble_eq_true rfl⟩ dX8_nextOnWay_52 ?_
    refine g_icmp_ne (tgt := 60) X dX8_nextOnWay_55 (by decide) hf (fun hf => ?_) (fun hf => ?_)
    · refine g_lv [1, 2, 3, 4] (lv' := [(0, .ref (ho 13)), (1, .int x1), (2, .int x2), (3, .int x3)]) rfl ?_
      exact hB60 _ _ _ hk2 _ hf
    refine g_iload_n X dX8_nextOnWay_58 4 rfl ?_
    exact c_reti_o hA hQ X hr hlk dX8_nextOnWay_59 hf
  have hL2 : ∀ (x1 : Int32) (x2 : Int32) (n : Nat) (x3 : Int32), C_8_nextOnWay_L2 F S x1 x2 n x3 = some res → GG p l e rc_8_nextOnWay s m args below meth c dC dI A 5 0 0 Q (CW E ho ro S ++ P) 2 [(0, .ref (ho 13)), (1, .int x1), (2, .int x2), (3, .int x3)] [] := by
    intro x1 x2 n
    induction n with
    | zero => intro x3 hf; have hf : (none : Option Int32) = some res := hf; cases hf
    | succ n ih =>
      intro x3 hf
      rw [C_8_nextOnWay_L2] at hf
      refine g_iload_n X dX8_nextOnWay_2 3 rfl ?_
      refine g_bipush X dX8_nextOnWay_3 kb_8 ?_
      refine g_icmp_ge (tgt := 66) X dX8_nextOnWay_5 (by decide) hf (fun hf => ?_) (fun hf => ?_)
      · refine g_iconst X dX8_nextOnWay_66 kc_m1 ?_
        exact c_reti_o hA hQ X hr hlk dX8_nextOnWay_67 hf
      refine g_iload_n X dX8_nextOnWay_8 1 rfl ?_
      refine m_bind hf (fun y3 hy3 hf => ?_)
      refine cw_N_i (As := [.int x1]) (st := []) X Y kN_X8_72 (cc_10_isCorner l dC dI E ev ho ro P S x1 y3 hy3) ⟨Nat.le_of_ble_eq_true rfl, Nat.le_of_ble_eq_true rfl⟩ ⟨rfl, rfl⟩ (Nat.le_of_ble_eq_true rfl) ⟨Nat.le_of_ble_eq_true rfl, Nat.le_of_ble_eq_true rfl⟩ dX8_nextOnWay_9 ?_
      refine g_if_eq (tgt := 29) X dX8_nextOnWay_12 (by decide) hf (fun hf => ?_) (fun hf => ?_)
      · refine g_ldc X dX8_nextOnWay_29 wd4_137 ?_
        exact hB31 _ _ _ ih _ _ hf
      refine g_aload_n X dX8_nextOnWay_15 0 rfl ?_
      refine cg_8_0 X wd2_4 dX8_nextOnWay_16 ?_
      refine g_iload_n X dX8_nextOnWay_19 1 rfl ?_
      refine g_bipush X dX8_nextOnWay_20 kb_8 ?_
      refine g_imul X dX8_nextOnWay_22 ?_
      refine g_iload_n X dX8_nextOnWay_23 3 rfl ?_
      refine g_iadd X dX8_nextOnWay_24 ?_
      refine ca_ld_8_0 X dX8_nextOnWay_25 hf (fun hf => ?_)
      refine g_goto (tgt := 31) X dX8_nextOnWay_26 (by decide) ?_
      exact hB31 _ _ _ ih _ _ hf
  refine g_lv [0, 1, 2] (lv' := [(0, .ref (ho 13)), (1, .int x1), (2, .int x2)]) rfl ?_
  unfold C_8_nextOnWay at hf
  refine g_iconst X dX8_nextOnWay_0 kc_0 ?_
  refine g_istore_n (i := 3) (lv' := [(3, .int (0 : Int32)), (0, .ref (ho 13)), (1, .int x1), (2, .int x2)]) X dX8_nextOnWay_1 rfl (by decide) rfl ?_
  refine g_lv [1, 2, 3, 0] (lv' := [(0, .ref (ho 13)), (1, .int x1), (2, .int x2), (3, .int (0 : Int32))]) rfl ?_
  exact hL2 _ _ _ _ hf
def rc_8_cornerOnWay : Room := { frames := 3, cells := 0, slots := 0, locals := 66 }
set_option maxRecDepth 100000 in
set_option maxHeartbeats 4000000 in
theorem cc_8_cornerOnWay (l : Launch) (dC : Nat → ClassId) (dI : Nat → Nat → Nat) (E : Nat → ClassId) (ev : Nat → Nat) (ho : Nat → Nat) (ro : Nat → Nat → Nat) (F : Nat) (P : va_W) (S : CS) (x1 : Int32) (x2 : Int32) (x3 : Int32)  (res : Int32) (hf : C_8_cornerOnWay F S x1 x2 x3 = some res) : CC l dC dI E ev yX8_cornerOnWay cX8_cornerOnWay 6 (some .int) rc_8_cornerOnWay [.ref (ho 13), .int x1, .int x2, .int x3] (CW E ho ro S ++ P) (CW E ho ro S ++ P) (some (.int res)) := by
  refine CC_of (own := "LostLanes$Ways") (by decide) rfl (Nat.le_of_ble_eq_true rfl) ?_
  intro p e s m args below meth c A Q X Y hr hlk hA hQ
  have hL6 : ∀ (x2 : Int32) (x3 : Int32) (n : Nat) (x4 : Int32) (x5 : Int32), C_8_cornerOnWay_L6 F S x2 x3 n x4 x5 = some res → GG p l e rc_8_cornerOnWay s m args below meth c dC dI A 6 0 0 Q (CW E ho ro S ++ P) 6 [(0, .ref (ho 13)), (2, .int x2), (3, .int x3), (4, .int x4), (5, .int x5)] [] := by
    intro x2 x3 n
    induction n with
    | zero => intro x4 x5 hf; have hf : (none : Option Int32) = some res := hf; cases hf
    | succ n ih =>
      intro x4 x5 hf
      rw [C_8_cornerOnWay_L6] at hf
      refine g_iload X dX8_cornerOnWay_6 4 rfl ?_
      refine g_bipush X dX8_cornerOnWay_8 kb_8 ?_
      refine g_icmp_ge (tgt := 49) X dX8_cornerOnWay_10 (by decide) hf (fun hf => ?_) (fun hf => ?_)
      · refine g_iconst X dX8_cornerOnWay_49 kc_m1 ?_
        exact c_reti_o hA hQ X hr hlk dX8_cornerOnWay_50 hf
      refine g_iload X dX8_cornerOnWay_13 3 rfl ?_
      refine g_iload_n X dX8_cornerOnWay_15 1 rfl ?_
      refine g_icmp_eq (tgt := 49) X dX8_cornerOnWay_16 (by decide) hf (fun hf => ?_) (fun hf => ?_)
      · refine g_iconst X dX8_cornerOnWay_49 kc_m1 ?_
        exact c_reti_o hA hQ X hr hlk dX8_cornerOnWay_50 hf
      refine g_iload X dX8_cornerOnWay_19 3 rfl ?_
      refine g_iconst X dX8_cornerOnWay_21 kc_m1 ?_
      refine g_icmp_eq (tgt := 49) X dX8_cornerOnWay_22 (by decide) hf (fun hf => ?_) (fun hf => ?_)
      · refine g_iconst X dX8_cornerOnWay_49 kc_m1 ?_
        exact c_reti_o hA hQ X hr hlk dX8_cornerOnWay_50 hf
      refine g_aload_n X dX8_cornerOnWay_25 0 rfl ?_
      refine g_iload X dX8_cornerOnWay_26 3 rfl ?_
      refine g_iload_n X dX8_cornerOnWay_28 1 rfl ?_
      refine m_bind hf (fun y1 hy1 hf => ?_)
      refine cw_V_i (cix := 8) (As := [.int x4, .int x2]) (st := []) X Y kV_X8_101 (cc_8_nextOnWay l dC dI E ev ho ro F P S x4 x2 y1 hy1) ob_8 rfl ⟨Nat.le_of_ble_eq_true rfl, Nat.le_of_ble_eq_true rfl⟩ ⟨rfl, rfl⟩ (Nat.le_of_ble_eq_true rfl) ⟨Nat.le_of_ble_eq_true rfl, Nat.le_of_ble_eq_true rfl⟩ dX8_cornerOnWay_29 ?_
      refine g_istore (lv' := [(4, .int y1), (0, .ref (ho 13)), (2, .int x2), (3, .int x3), (5, .int x5)]) X dX8_cornerOnWay_32 (by decide) rfl ?_
      refine g_iload X dX8_cornerOnWay_34 4 rfl ?_
      refine g_iload_n X dX8_cornerOnWay_36 3 rfl ?_
      refine g_icmp_ne (tgt := 43) X dX8_cornerOnWay_37 (by decide) hf (fun hf => ?_) (fun hf => ?_)
      · refine g_iinc (lv' := [(5, .int (x5 + (1 : Int32))), (4, .int y1), (0, .ref (ho 13)), (2, .int x2), (3, .int x3)]) X dX8_cornerOnWay_43 4 rfl kc_1 (by decide) rfl ?_
        refine g_goto (tgt := 6) X dX8_cornerOnWay_46 (by decide) ?_
        refine g_lv [2, 3, 4, 1, 0] (lv' := [(0, .ref (ho 13)), (2, .int x2), (3, .int x3), (4, .int y1), (5, .int (x5 + (1 : Int32)))]) rfl ?_
        exact ih _ _ hf
      refine g_iload X dX8_cornerOnWay_40 0 rfl ?_
      exact c_reti_o hA hQ X hr hlk dX8_cornerOnWay_42 hf
  refine g_lv [0, 1, 2, 3] (lv' := [(0, .ref (ho 13)), (1, .int x1), (2, .int x2), (3, .int x3)]) rfl ?_
  unfold C_8_cornerOnWay at hf
  refine g_iload_n X dX8_cornerOnWay_0 1 rfl ?_
  refine g_istore (lv' := [(4, .int x1), (0, .ref (ho 13)), (1, .int x1), (2, .int x2), (3, .int x3)]) X dX8_cornerOnWay_1 (by decide) rfl ?_
  refine g_iconst X dX8_cornerOnWay_3 kc_0 ?_
  refine g_istore (lv' := [(5, .int (0 : Int32)), (4, .int x1), (0, .ref (ho 13)), (1, .int x1), (2, .int x2), (3, .int x3)]) X dX8_cornerOnWay_4 (by decide) rfl ?_
  refine g_lv [2, 4, 5, 1, 0] (lv' := [(0, .ref (ho 13)), (2, .int x2), (3, .int x3), (4, .int x1), (5, .int (0 : Int32))]) rfl ?_
  exact hL6 _ _ _ _ _ hf
def rc_8_lowestOf : Room := { frames := 0, cells := 0, slots := 0, locals := 0 }
set_option maxRecDepth 100000 in
set_option maxHeartbeats 4000000 in
theorem cc_8_lowestOf (l : Launch) (dC : Nat → ClassId) (dI : Nat → Nat → Nat) (E : Nat → ClassId) (ev : Nat → Nat) (ho : Nat → Nat) (ro : Nat → Nat → Nat) (F : Nat) (P : va_W) (S : CS) (x0 : Int32)  (res : Int32) (hf : C_8_lowestOf F x0 = some res) : CC l dC dI E ev yX8_lowestOf cX8_lowestOf 2 (some .int) rc_8_lowestOf [.int x0] (CW E ho ro S ++ P) (CW E ho ro S ++ P) (some (.int res)) := by
  refine CC_of (own := "LostLanes$Ways") (by decide) rfl (Nat.le_of_ble_eq_true rfl) ?_
  intro p e s m args below meth c A Q X Y hr hlk hA hQ
  have hL2 : ∀ (x0 : Int32) (n : Nat) (x1 : Int32), C_8_lowestOf_L2 F x0 n x1 = some res → GG p l e rc_8_lowestOf s m args below meth c dC dI A 2 0 0 Q (CW E ho ro S ++ P) 2 [(0, .int x0), (1, .int x1)] [] := by
    intro x0 n
    induction n with
    | zero => intro x1 hf; have hf : (none : Option Int32) = some res := hf; cases hf
    | succ n ih =>
      intro x1 hf
      rw [C_8_lowestOf_L2] at hf
      refine g_iload_n X dX8_lowestOf_2 1 rfl ?_
      refine g_bipush X dX8_lowestOf_3 kb_8 ?_
      refine g_icmp_ge (tgt := 22) X dX8_lowestOf_5 (by decide) hf (fun hf => ?_) (fun hf => ?_)
      · refine g_iload_n X dX8_lowestOf_22 1 rfl ?_
        exact c_reti_o hA hQ X hr hlk dX8_lowestOf_23 hf
      refine g_iload_n X dX8_lowestOf_8 0 rfl ?_
      refine g_iload_n X dX8_lowestOf_9 1 rfl ?_
      refine g_ishr X dX8_lowestOf_10 ?_
      refine g_iconst X dX8_lowestOf_11 kc_1 ?_
      refine g_iand X dX8_lowestOf_12 ?_
      refine g_if_ne (tgt := 22) X dX8_lowestOf_13 (by decide) hf (fun hf => ?_) (fun hf => ?_)
      · refine g_iload_n X dX8_lowestOf_22 1 rfl ?_
        exact c_reti_o hA hQ X hr hlk dX8_lowestOf_23 hf
      refine g_iinc (lv' := [(1, .int (x1 + (1 : Int32))), (0, .int x0)]) X dX8_lowestOf_16 1 rfl kc_1 (by decide) rfl ?_
      refine g_goto (tgt := 2) X dX8_lowestOf_19 (by decide) ?_
      refine g_lv [1, 0] (lv' := [(0, .int x0), (1, .int (x1 + (1 : Int32)))]) rfl ?_
      exact ih _ hf
  refine g_lv [0] (lv' := [(0, .int x0)]) rfl ?_
  unfold C_8_lowestOf at hf
  refine g_iconst X dX8_lowestOf_0 kc_0 ?_
  refine g_istore_n (i := 1) (lv' := [(1, .int (0 : Int32)), (0, .int x0)]) X dX8_lowestOf_1 rfl (by decide) rfl ?_
  refine g_lv [1, 0] (lv' := [(0, .int x0), (1, .int (0 : Int32))]) rfl ?_
  exact hL2 _ _ _ hf
def rc_8_hangTogether : Room := { frames := 2, cells := 0, slots := 0, locals := 42 }
set_option maxRecDepth 100000 in
set_option maxHeartbeats 4000000 in
theorem cc_8_hangTogether (l : Launch) (dC : Nat → ClassId) (dI : Nat → Nat → Nat) (E : Nat → ClassId) (ev : Nat → Nat) (ho : Nat → Nat) (ro : Nat → Nat → Nat) (F : Nat) (P : va_W) (S : CS) (x1 : Int32)  (res : Int32) (hf : C_8_hangTogether F S x1 = some res) : CC l dC dI E ev yX8_hangTogether cX8_hangTogether 4 (some .boolean) rc_8_hangTogether [.ref (ho 13), .int x1] (CW E ho ro S ++ P) (CW E ho ro S ++ P) (some (.int res)) := by
  refine CC_of (own := "LostLanes$Ways") (by decide) rfl (Nat.le_of_ble_eq_true rfl) ?_
  intro p e s m args below meth c A Q X Y hr hlk hA hQ
  have hB35 : ∀ (x1 : Int32) (x2 : Int32) (k7 : Int32 → Option Int32) (hk7 : ∀ (x3 : Int32), k7 x3 = some res → GG p l e rc_8_hangTogether s m args below meth c dC dI A 4 0 0 Q (CW E ho ro S ++ P) 7 [(0, .ref (ho 13)), (1, .int x1), (2, .int x2), (3, .int x3)] []) (x3 : Int32), C_8_hangTogether_B35 F k7 S x1 x2 x3 = some res → GG p l e rc_8_hangTogether s m args below meth c dC dI A 4 0 0 Q (CW E ho ro S ++ P) 35 [(0, .ref (ho 13)), (1, .int x1), (2, .int x2), (3, .int x3)] [] := by
    intro x1 x2 k7 hk7 x3 hf
    unfold C_8_hangTogether_B35 at hf
    refine g_iinc (lv' := [(3, .int (x3 + (1 : Int32))), (0, .ref (ho 13)), (1, .int x1), (2, .int x2)]) X dX8_hangTogether_35 3 rfl kc_1 (by decide) rfl ?_
    refine g_goto (tgt := 7) X dX8_hangTogether_38 (by decide) ?_
    refine g_lv [1, 2, 3, 0] (lv' := [(0, .ref (ho 13)), (1, .int x1), (2, .int x2), (3, .int (x3 + (1 : Int32)))]) rfl ?_
    exact hk7 _ hf
  have hL7 : ∀ (x1 : Int32) (x2 : Int32) (n : Nat) (x3 : Int32), C_8_hangTogether_L7 F S x1 x2 n x3 = some res → GG p l e rc_8_hangTogether s m args below meth c dC dI A 4 0 0 Q (CW E ho ro S ++ P) 7 [(0, .ref (ho 13)), (1, .int x1), (2, .int x2), (3, .int x3)] [] := by
    intro x1 x2 n
    induction n with
    | zero => intro x3 hf; have hf : (none : Option Int32) = some res := hf; cases hf
    | succ n ih =>
      intro x3 hf
      rw [C_8_hangTogether_L7] at hf
      refine g_iload_n X dX8_hangTogether_7 3 rfl ?_
      refine g_bipush X dX8_hangTogether_8 kb_8 ?_
      refine g_icmp_ge (tgt := 41) X dX8_hangTogether_10 (by decide) hf (fun hf => ?_) (fun hf => ?_)
      · refine g_iconst X dX8_hangTogether_41 kc_1 ?_
        exact c_retz_o hA hQ X hr hlk (Or.inr rfl) dX8_hangTogether_42 hf
      refine g_iload_n X dX8_hangTogether_13 1 rfl ?_
      refine g_iload_n X dX8_hangTogether_14 3 rfl ?_
      refine g_ishr X dX8_hangTogether_15 ?_
      refine g_iconst X dX8_hangTogether_16 kc_1 ?_
      refine g_iand X dX8_hangTogether_17 ?_
      refine g_iconst X dX8_hangTogether_18 kc_1 ?_
      refine g_icmp_ne (tgt := 35) X dX8_hangTogether_19 (by decide) hf (fun hf => ?_) (fun hf => ?_)
      · exact hB35 _ _ _ ih _ hf
      refine g_aload_n X dX8_hangTogether_22 0 rfl ?_
      refine g_iload_n X dX8_hangTogether_23 2 rfl ?_
      refine g_iload_n X dX8_hangTogether_24 3 rfl ?_
      refine m_bind hf (fun y1 hy1 hf => ?_)
      refine cw_V_i (cix := 8) (As := [.int x2, .int x3]) (st := []) X Y kV_X8_69 (cc_8_between l dC dI E ev ho ro P S x2 x3 y1 hy1) ob_8 rfl ⟨Nat.le_of_ble_eq_true rfl, Nat.le_of_ble_eq_true rfl⟩ ⟨rfl, rfl⟩ (Nat.le_of_ble_eq_true rfl) ⟨Nat.le_of_ble_eq_true rfl, Nat.le_of_ble_eq_true rfl⟩ dX8_hangTogether_25 ?_
      refine g_ldc X dX8_hangTogether_28 wd4_137 ?_
      refine g_icmp_lt (tgt := 35) X dX8_hangTogether_30 (by decide) hf (fun hf => ?_) (fun hf => ?_)
      · exact hB35 _ _ _ ih _ hf
      refine g_iconst X dX8_hangTogether_33 kc_0 ?_
      exact c_retz_o hA hQ X hr hlk (Or.inl rfl) dX8_hangTogether_34 hf
  refine g_lv [0, 1] (lv' := [(0, .ref (ho 13)), (1, .int x1)]) rfl ?_
  unfold C_8_hangTogether at hf
  refine g_iload_n X dX8_hangTogether_0 1 rfl ?_
  refine m_bind hf (fun y2 hy2 hf => ?_)
  refine cw_S_i (As := [.int x1]) (st := []) X Y kS_X8_104 (cc_8_lowestOf l dC dI E ev ho ro F P S x1 y2 hy2) ⟨Nat.le_of_ble_eq_true rfl, Nat.le_of_ble_eq_true rfl⟩ ⟨rfl, rfl⟩ (Nat.le_of_ble_eq_true rfl) ⟨Nat.le_of_ble_eq_true rfl, Nat.le_of_ble_eq_true rfl⟩ dX8_hangTogether_1 ?_
  refine g_istore_n (i := 2) (lv' := [(2, .int y2), (0, .ref (ho 13)), (1, .int x1)]) X dX8_hangTogether_4 rfl (by decide) rfl ?_
  refine g_iconst X dX8_hangTogether_5 kc_0 ?_
  refine g_istore_n (i := 3) (lv' := [(3, .int (0 : Int32)), (2, .int y2), (0, .ref (ho 13)), (1, .int x1)]) X dX8_hangTogether_6 rfl (by decide) rfl ?_
  refine g_lv [2, 3, 1, 0] (lv' := [(0, .ref (ho 13)), (1, .int x1), (2, .int y2), (3, .int (0 : Int32))]) rfl ?_
  exact hL7 _ _ _ _ hf
def rc_8_cheapestWithLowest : Room := { frames := 2, cells := 0, slots := 0, locals := 42 }
set_option maxRecDepth 100000 in
set_option maxHeartbeats 4000000 in
theorem cc_8_cheapestWithLowest (l : Launch) (dC : Nat → ClassId) (dI : Nat → Nat → Nat) (E : Nat → ClassId) (ev : Nat → Nat) (ho : Nat → Nat) (ro : Nat → Nat → Nat) (F : Nat) (P : va_W) (S : CS) (x1 : Int32)  (res : Int32) (hf : C_8_cheapestWithLowest F S x1 = some res) : CC l dC dI E ev yX8_cheapestWithLowest cX8_cheapestWithLowest 6 (some .int) rc_8_cheapestWithLowest [.ref (ho 13), .int x1] (CW E ho ro S ++ P) (CW E ho ro S ++ P) (some (.int res)) := by
  refine CC_of (own := "LostLanes$Ways") (by decide) rfl (Nat.le_of_ble_eq_true rfl) ?_
  intro p e s m args below meth c A Q X Y hr hlk hA hQ
  have hB77 : ∀ (x1 : Int32) (x3 : Int32) (k13 : Int32 → Int32 → Option Int32) (hk13 : ∀ (x2 : Int32) (x4 : Int32), k13 x2 x4 = some res → GG p l e rc_8_cheapestWithLowest s m args below meth c dC dI A 6 0 0 Q (CW E ho ro S ++ P) 13 [(0, .ref (ho 13)), (1, .int x1), (2, .int x2), (3, .int x3), (4, .int x4)] []) (x2 : Int32) (x4 : Int32), C_8_cheapestWithLowest_B77 F k13 S x1 x2 x3 x4 = some res → GG p l e rc_8_cheapestWithLowest s m args below meth c dC dI A 6 0 0 Q (CW E ho ro S ++ P) 77 [(0, .ref (ho 13)), (1, .int x1), (2, .int x2), (3, .int x3), (4, .int x4)] [] := by
    intro x1 x3 k13 hk13 x2 x4 hf
    unfold C_8_cheapestWithLowest_B77 at hf
    refine g_iinc (lv' := [(4, .int (x4 + (1 : Int32))), (0, .ref (ho 13)), (1, .int x1), (2, .int x2), (3, .int x3)]) X dX8_cheapestWithLowest_77 4 rfl kc_1 (by decide) rfl ?_
    refine g_goto (tgt := 13) X dX8_cheapestWithLowest_80 (by decide) ?_
    refine g_lv [1, 2, 3, 4, 0] (lv' := [(0, .ref (ho 13)), (1, .int x1), (2, .int x2), (3, .int x3), (4, .int (x4 + (1 : Int32)))]) rfl ?_
    exact hk13 _ _ hf
  have hL13 : ∀ (x1 : Int32) (x3 : Int32) (n : Nat) (x2 : Int32) (x4 : Int32), C_8_cheapestWithLowest_L13 F S x1 x3 n x2 x4 = some res → GG p l e rc_8_cheapestWithLowest s m args below meth c dC dI A 6 0 0 Q (CW E ho ro S ++ P) 13 [(0, .ref (ho 13)), (1, .int x1), (2, .int x2), (3, .int x3), (4, .int x4)] [] := by
    intro x1 x3 n
    induction n with
    | zero => intro x2 x4 hf; have hf : (none : Option Int32) = some res := hf; cases hf
    | succ n ih =>
      intro x2 x4 hf
      rw [C_8_cheapestWithLowest_L13] at hf
      refine g_iload X dX8_cheapestWithLowest_13 4 rfl ?_
      refine g_bipush X dX8_cheapestWithLowest_15 kb_8 ?_
      refine g_icmp_ge (tgt := 83) X dX8_cheapestWithLowest_17 (by decide) hf (fun hf => ?_) (fun hf => ?_)
      · refine g_iload_n X dX8_cheapestWithLowest_83 2 rfl ?_
        exact c_reti_o hA hQ X hr hlk dX8_cheapestWithLowest_84 hf
      refine g_iload_n X dX8_cheapestWithLowest_20 1 rfl ?_
      refine g_iconst X dX8_cheapestWithLowest_21 kc_1 ?_
      refine g_iload_n X dX8_cheapestWithLowest_22 3 rfl ?_
      refine g_ishl X dX8_cheapestWithLowest_23 ?_
      refine g_iconst X dX8_cheapestWithLowest_24 kc_1 ?_
      refine g_iload X dX8_cheapestWithLowest_25 4 rfl ?_
      refine g_ishl X dX8_cheapestWithLowest_27 ?_
      refine g_ior X dX8_cheapestWithLowest_28 ?_
      refine g_iconst X dX8_cheapestWithLowest_29 kc_m1 ?_
      refine g_ixor X dX8_cheapestWithLowest_30 ?_
      refine g_iand X dX8_cheapestWithLowest_31 ?_
      refine g_istore (lv' := [(5, .int (x1 &&& ((((1 : Int32) <<< (x3 &&& 31)) ||| ((1 : Int32) <<< (x4 &&& 31))) ^^^ (-1 : Int32)))), (0, .ref (ho 13)), (1, .int x1), (2, .int x2), (3, .int x3), (4, .int x4)]) X dX8_cheapestWithLowest_32 (by decide) rfl ?_
      refine g_iload_n X dX8_cheapestWithLowest_34 2 rfl ?_
      refine g_iload X dX8_cheapestWithLowest_35 5 rfl ?_
      refine g_ishr X dX8_cheapestWithLowest_37 ?_
      refine g_iconst X dX8_cheapestWithLowest_38 kc_1 ?_
      refine g_iand X dX8_cheapestWithLowest_39 ?_
      refine g_iconst X dX8_cheapestWithLowest_40 kc_1 ?_
      refine g_icmp_ne (tgt := 77) X dX8_cheapestWithLowest_41 (by decide) hf (fun hf => ?_) (fun hf => ?_)
      · refine g_lv [1, 2, 3, 4, 5] (lv' := [(0, .ref (ho 13)), (1, .int x1), (2, .int x2), (3, .int x3), (4, .int x4)]) rfl ?_
        exact hB77 _ _ _ ih _ _ hf
      refine g_iload X dX8_cheapestWithLowest_44 0 rfl ?_
      refine g_if_lt (tgt := 77) X dX8_cheapestWithLowest_46 (by decide) hf (fun hf => ?_) (fun hf => ?_)
      · refine g_lv [1, 2, 3, 4, 5] (lv' := [(0, .ref (ho 13)), (1, .int x1), (2, .int x2), (3, .int x3), (4, .int x4)]) rfl ?_
        exact hB77 _ _ _ ih _ _ hf
      refine g_iload X dX8_cheapestWithLowest_49 0 rfl ?_
      refine g_sipush X dX8_cheapestWithLowest_51 ks_256 ?_
      refine g_icmp_ge (tgt := 77) X dX8_cheapestWithLowest_54 (by decide) hf (fun hf => ?_) (fun hf => ?_)
      · refine g_lv [1, 2, 3, 4, 5] (lv' := [(0, .ref (ho 13)), (1, .int x1), (2, .int x2), (3, .int x3), (4, .int x4)]) rfl ?_
        exact hB77 _ _ _ ih _ _ hf
      refine g_iload_n X dX8_cheapestWithLowest_57 3 rfl ?_
      refine g_aload_n X dX8_cheapestWithLowest_58 1 rfl ?_
      refine g_iload_n X dX8_cheapestWithLowest_59 4 rfl ?_
      refine g_iload X dX8_cheapestWithLowest_60 5 rfl ?_
      refine m_bind hf (fun y1 hy1 hf => ?_)
      refine cw_V_i (cix := 8) (As := [.int x3, .int x4]) (st := [.int x2]) X Y kV_X8_69 (cc_8_between l dC dI E ev ho ro P S x3 x4 y1 hy1) ob_8 rfl ⟨Nat.le_of_ble_eq_true rfl, Nat.le_of_ble_eq_true rfl⟩ ⟨rfl, rfl⟩ (Nat.le_of_ble_eq_true rfl) ⟨Nat.le_of_ble_eq_true rfl, Nat.le_of_ble_eq_true rfl⟩ dX8_cheapestWithLowest_62 ?_
      refine g_aload_n X dX8_cheapestWithLowest_65 1 rfl ?_
      refine cg_8_3 X wd2_7 dX8_cheapestWithLowest_66 ?_
      refine g_iload X dX8_cheapestWithLowest_69 0 rfl ?_
      refine ca_ld_8_3 X dX8_cheapestWithLowest_71 hf (fun hf => ?_)
      refine g_iadd X dX8_cheapestWithLowest_72 ?_
      refine g_mmin X wd4_144 wd2_179 wd1_11 wd2_180 ⟨Nat.le_of_ble_eq_true rfl, Nat.le_of_ble_eq_true rfl⟩ (Nat.le_of_ble_eq_true rfl) ⟨Nat.le_of_ble_eq_true rfl, Nat.le_of_ble_eq_true rfl⟩ dX8_cheapestWithLowest_73 ?_
      refine g_istore_n (i := 2) (lv' := [(2, .int (if (y1 + (ca S 13 3 ((x1 &&& ((((1 : Int32) <<< (x3 &&& 31)) ||| ((1 : Int32) <<< (x4 &&& 31))) ^^^ (-1 : Int32)))).toNatClampNeg)) < x2 then (y1 + (ca S 13 3 ((x1 &&& ((((1 : Int32) <<< (x3 &&& 31)) ||| ((1 : Int32) <<< (x4 &&& 31))) ^^^ (-1 : Int32)))).toNatClampNeg)) else x2)), (5, .int (x1 &&& ((((1 : Int32) <<< (x3 &&& 31)) ||| ((1 : Int32) <<< (x4 &&& 31))) ^^^ (-1 : Int32)))), (0, .ref (ho 13)), (1, .int x1), (3, .int x3), (4, .int x4)]) X dX8_cheapestWithLowest_76 rfl (by decide) rfl ?_
      refine g_lv [2, 3, 0, 4, 5] (lv' := [(0, .ref (ho 13)), (1, .int x1), (2, .int (if (y1 + (ca S 13 3 ((x1 &&& ((((1 : Int32) <<< (x3 &&& 31)) ||| ((1 : Int32) <<< (x4 &&& 31))) ^^^ (-1 : Int32)))).toNatClampNeg)) < x2 then (y1 + (ca S 13 3 ((x1 &&& ((((1 : Int32) <<< (x3 &&& 31)) ||| ((1 : Int32) <<< (x4 &&& 31))) ^^^ (-1 : Int32)))).toNatClampNeg)) else x2)), (3, .int x3), (4, .int x4)]) rfl ?_
      exact hB77 _ _ _ ih _ _ hf
  refine g_lv [0, 1] (lv' := [(0, .ref (ho 13)), (1, .int x1)]) rfl ?_
  unfold C_8_cheapestWithLowest at hf
  refine g_ldc X dX8_cheapestWithLowest_0 wd4_137 ?_
  refine g_istore_n (i := 2) (lv' := [(2, .int (1000000 : Int32)), (0, .ref (ho 13)), (1, .int x1)]) X dX8_cheapestWithLowest_2 rfl (by decide) rfl ?_
  refine g_iload_n X dX8_cheapestWithLowest_3 2 rfl ?_
  refine m_bind hf (fun y2 hy2 hf => ?_)
  refine cw_S_i (As := [.int x1]) (st := []) X Y kS_X8_104 (cc_8_lowestOf l dC dI E ev ho ro F P S x1 y2 hy2) ⟨Nat.le_of_ble_eq_true rfl, Nat.le_of_ble_eq_true rfl⟩ ⟨rfl, rfl⟩ (Nat.le_of_ble_eq_true rfl) ⟨Nat.le_of_ble_eq_true rfl, Nat.le_of_ble_eq_true rfl⟩ dX8_cheapestWithLowest_4 ?_
  refine g_istore_n (i := 3) (lv' := [(3, .int y2), (2, .int (1000000 : Int32)), (0, .ref (ho 13)), (1, .int x1)]) X dX8_cheapestWithLowest_7 rfl (by decide) rfl ?_
  refine g_iload_n X dX8_cheapestWithLowest_8 0 rfl ?_
  refine g_iconst X dX8_cheapestWithLowest_9 kc_1 ?_
  refine g_iadd X dX8_cheapestWithLowest_10 ?_
  refine g_istore (lv' := [(4, .int (y2 + (1 : Int32))), (3, .int y2), (2, .int (1000000 : Int32)), (0, .ref (ho 13)), (1, .int x1)]) X dX8_cheapestWithLowest_11 (by decide) rfl ?_
  refine g_lv [3, 4, 2, 1, 0] (lv' := [(0, .ref (ho 13)), (1, .int x1), (2, .int (1000000 : Int32)), (3, .int y2), (4, .int (y2 + (1 : Int32)))]) rfl ?_
  exact hL13 _ _ _ _ _ hf
def rc_8_cheapestPairs : Room := { frames := 3, cells := 0, slots := 0, locals := 67 }
set_option maxRecDepth 100000 in
set_option maxHeartbeats 4000000 in
theorem cc_8_cheapestPairs (l : Launch) (dC : Nat → ClassId) (dI : Nat → Nat → Nat) (E : Nat → ClassId) (ev : Nat → Nat) (ho : Nat → Nat) (ro : Nat → Nat → Nat) (F : Nat) (P : va_W) (S : CS) (x1 : Int32)  (res : Int32 × CS) (hf : C_8_cheapestPairs F S x1 = some res) : CC l dC dI E ev yX8_cheapestPairs cX8_cheapestPairs 3 (some .int) rc_8_cheapestPairs [.ref (ho 13), .int x1] (CW E ho ro S ++ P) (CW E ho ro res.2 ++ P) (some (.int res.1)) := by
  refine CC_of (own := "LostLanes$Ways") (by decide) rfl (Nat.le_of_ble_eq_true rfl) ?_
  intro p e s m args below meth c A Q X Y hr hlk hA hQ
  have hB35 : ∀ (x1 : Int32) (k9 : CS → Int32 → Option (Int32 × CS)) (hk9 : ∀ (S : CS) (x2 : Int32), k9 S x2 = some res → GG p l e rc_8_cheapestPairs s m args below meth c dC dI A 3 0 0 Q (CW E ho ro S ++ P) 9 [(0, .ref (ho 13)), (1, .int x1), (2, .int x2)] []) (S : CS) (x2 : Int32), C_8_cheapestPairs_B35 F k9 S x1 x2 = some res → GG p l e rc_8_cheapestPairs s m args below meth c dC dI A 3 0 0 Q (CW E ho ro S ++ P) 35 [(0, .ref (ho 13)), (1, .int x1), (2, .int x2)] [] := by
    intro x1 k9 hk9 S x2 hf
    unfold C_8_cheapestPairs_B35 at hf
    refine g_iinc (lv' := [(2, .int (x2 + (1 : Int32))), (0, .ref (ho 13)), (1, .int x1)]) X dX8_cheapestPairs_35 2 rfl kc_1 (by decide) rfl ?_
    refine g_goto (tgt := 9) X dX8_cheapestPairs_38 (by decide) ?_
    refine g_lv [1, 2, 0] (lv' := [(0, .ref (ho 13)), (1, .int x1), (2, .int (x2 + (1 : Int32)))]) rfl ?_
    exact hk9 _ _ hf
  have hL9 : ∀ (x1 : Int32) (n : Nat) (S : CS) (x2 : Int32), C_8_cheapestPairs_L9 F x1 n S x2 = some res → GG p l e rc_8_cheapestPairs s m args below meth c dC dI A 3 0 0 Q (CW E ho ro S ++ P) 9 [(0, .ref (ho 13)), (1, .int x1), (2, .int x2)] [] := by
    intro x1 n
    induction n with
    | zero => intro S x2 hf; have hf : (none : Option (Int32 × CS)) = some res := hf; cases hf
    | succ n ih =>
      intro S x2 hf
      rw [C_8_cheapestPairs_L9] at hf
      refine g_iload_n X dX8_cheapestPairs_9 2 rfl ?_
      refine g_sipush X dX8_cheapestPairs_10 ks_256 ?_
      refine g_icmp_ge (tgt := 41) X dX8_cheapestPairs_13 (by decide) hf (fun hf => ?_) (fun hf => ?_)
      · refine g_iload_n X dX8_cheapestPairs_41 1 rfl ?_
        refine g_if_lt (tgt := 61) X dX8_cheapestPairs_42 (by decide) hf (fun hf => ?_) (fun hf => ?_)
        · refine g_iconst X dX8_cheapestPairs_61 kc_0 ?_
          exact c_reti_s hA hQ X hr hlk dX8_cheapestPairs_62 hf
        refine g_iload_n X dX8_cheapestPairs_45 1 rfl ?_
        refine g_sipush X dX8_cheapestPairs_46 ks_256 ?_
        refine g_icmp_ge (tgt := 61) X dX8_cheapestPairs_49 (by decide) hf (fun hf => ?_) (fun hf => ?_)
        · refine g_iconst X dX8_cheapestPairs_61 kc_0 ?_
          exact c_reti_s hA hQ X hr hlk dX8_cheapestPairs_62 hf
        refine g_aload_n X dX8_cheapestPairs_52 0 rfl ?_
        refine cg_8_3 X wd2_7 dX8_cheapestPairs_53 ?_
        refine g_iload_n X dX8_cheapestPairs_56 1 rfl ?_
        refine ca_ld_8_3 X dX8_cheapestPairs_57 hf (fun hf => ?_)
        refine g_goto (tgt := 62) X dX8_cheapestPairs_58 (by decide) ?_
        exact c_reti_s hA hQ X hr hlk dX8_cheapestPairs_62 hf
      refine g_iload_n X dX8_cheapestPairs_16 2 rfl ?_
      refine g_iload_n X dX8_cheapestPairs_17 1 rfl ?_
      refine g_iconst X dX8_cheapestPairs_18 kc_m1 ?_
      refine g_ixor X dX8_cheapestPairs_19 ?_
      refine g_iand X dX8_cheapestPairs_20 ?_
      refine g_if_ne (tgt := 35) X dX8_cheapestPairs_21 (by decide) hf (fun hf => ?_) (fun hf => ?_)
      · exact hB35 _ _ ih _ _ hf
      refine g_aload_n X dX8_cheapestPairs_24 0 rfl ?_
      refine cg_8_3 X wd2_7 dX8_cheapestPairs_25 ?_
      refine g_iload_n X dX8_cheapestPairs_28 2 rfl ?_
      refine g_aload_n X dX8_cheapestPairs_29 0 rfl ?_
      refine g_iload_n X dX8_cheapestPairs_30 2 rfl ?_
      refine m_bind hf (fun y1 hy1 hf => ?_)
      refine cw_V_i (cix := 8) (As := [.int x2]) (st := [.int x2, .ref (ro 13 3)]) X Y kV_X8_107 (cc_8_cheapestWithLowest l dC dI E ev ho ro F P S x2 y1 hy1) ob_8 rfl ⟨Nat.le_of_ble_eq_true rfl, Nat.le_of_ble_eq_true rfl⟩ ⟨rfl, rfl⟩ (Nat.le_of_ble_eq_true rfl) ⟨Nat.le_of_ble_eq_true rfl, Nat.le_of_ble_eq_true rfl⟩ dX8_cheapestPairs_31 ?_
      refine ca_st_8_3 X dX8_cheapestPairs_34 hf (fun S2 hf => ?_)
      exact hB35 _ _ ih _ _ hf
  refine g_lv [0, 1] (lv' := [(0, .ref (ho 13)), (1, .int x1)]) rfl ?_
  unfold C_8_cheapestPairs at hf
  refine g_aload_n X dX8_cheapestPairs_0 0 rfl ?_
  refine cg_8_3 X wd2_7 dX8_cheapestPairs_1 ?_
  refine g_iconst X dX8_cheapestPairs_4 kc_0 ?_
  refine g_iconst X dX8_cheapestPairs_5 kc_0 ?_
  refine ca_stc_8_3 X kt_0 kx_0_256 dX8_cheapestPairs_6 hf (fun S3 hf => ?_)
  refine g_iconst X dX8_cheapestPairs_7 kc_1 ?_
  refine g_istore_n (i := 2) (lv' := [(2, .int (1 : Int32)), (0, .ref (ho 13)), (1, .int x1)]) X dX8_cheapestPairs_8 rfl (by decide) rfl ?_
  refine g_lv [1, 2, 0] (lv' := [(0, .ref (ho 13)), (1, .int x1), (2, .int (1 : Int32))]) rfl ?_
  exact hL9 _ _ _ _ hf
def rc_9_look : Room := { frames := 1, cells := 0, slots := 0, locals := 21 }
set_option maxRecDepth 100000 in
set_option maxHeartbeats 4000000 in
theorem cc_9_look (l : Launch) (dC : Nat → ClassId) (dI : Nat → Nat → Nat) (E : Nat → ClassId) (ev : Nat → Nat) (ho : Nat → Nat) (ro : Nat → Nat → Nat) (P : va_W) (S : CS) (o1 : Nat) (x2 : Int32) (x3 : Int32) (h_o1 : tw o1) (res : Unit × CS) (hf : C_9_look S o1 x2 x3 = some res) : CC l dC dI E ev yX9_look cX9_look 6 none rc_9_look [.ref (ho 11), .ref (ho o1), .int x2, .int x3] (CW E ho ro S ++ P) (CW E ho ro res.2 ++ P) none := by
  refine CC_of (own := "LostLanes$Wits") (by decide) rfl (Nat.le_of_ble_eq_true rfl) ?_
  intro p e s m args below meth c A Q X Y hr hlk hA hQ
  have hB142 : ∀ (S : CS) (tx1 : Int32) (tx2 : Int32), C_9_look_B142 o1 S tx1 tx2 = some res → GG p l e rc_9_look s m args below meth c dC dI A 6 0 0 Q (CW E ho ro S ++ P) 142 [(0, .ref (ho 11)), (1, .ref (ho o1))] [.int tx2, .int tx1, .ref (ro 11 2)] := by
    intro S tx1 tx2 hf
    unfold C_9_look_B142 at hf
    refine ca_st_9_2 X dX9_look_142 hf (fun S1 hf => ?_)
    refine g_aload_n X dX9_look_143 0 rfl ?_
    refine cg_9_2 X wd1_223 dX9_look_144 ?_
    refine g_bipush X dX9_look_147 kb_7 ?_
    refine g_aload_n X dX9_look_149 1 rfl ?_
    refine cg_7_12 X h_o1 wd1_83 dX9_look_150 ?_
    refine g_iconst X dX9_look_153 kc_0 ?_
    refine ca_ldc_7_12 X h_o1 kt_0 kx_0_3 dX9_look_154 ?_
    refine ca_stc_9_2 X kt_7 kx_7_9 dX9_look_155 hf (fun S2 hf => ?_)
    refine g_aload_n X dX9_look_156 0 rfl ?_
    refine cg_9_2 X wd1_223 dX9_look_157 ?_
    refine g_bipush X dX9_look_160 kb_8 ?_
    refine g_aload_n X dX9_look_162 1 rfl ?_
    refine cg_7_12 X h_o1 wd1_83 dX9_look_163 ?_
    refine g_iconst X dX9_look_166 kc_2 ?_
    refine ca_ldc_7_12 X h_o1 kt_2 kx_2_3 dX9_look_167 ?_
    refine ca_stc_9_2 X kt_8 kx_8_9 dX9_look_168 hf (fun S3 hf => ?_)
    exact c_retv_s hA hQ X hr hlk dX9_look_169 hf
  have hB120 : ∀ (S : CS) (x2 : Int32) (x5 : Int32) (tx1 : Int32) (tx2 : Int32), C_9_look_B120 o1 S x2 x5 tx1 tx2 = some res → GG p l e rc_9_look s m args below meth c dC dI A 6 0 0 Q (CW E ho ro S ++ P) 120 [(0, .ref (ho 11)), (1, .ref (ho o1)), (2, .int x2), (5, .int x5)] [.int tx2, .int tx1, .ref (ro 11 2)] := by
    intro S x2 x5 tx1 tx2 hf
    unfold C_9_look_B120 at hf
    refine ca_st_9_2 X dX9_look_120 hf (fun S4 hf => ?_)
    refine g_aload_n X dX9_look_121 0 rfl ?_
    refine cg_9_2 X wd1_223 dX9_look_122 ?_
    refine g_bipush X dX9_look_125 kb_6 ?_
    refine g_iload X dX9_look_127 3 rfl ?_
    refine g_if_eq (tgt := 141) X dX9_look_129 (by decide) hf (fun hf => ?_) (fun hf => ?_)
    · refine g_iconst X dX9_look_141 kc_m1 ?_
      refine g_lv [0, 1] (lv' := [(0, .ref (ho 11)), (1, .ref (ho o1))]) rfl ?_
      exact hB142 _ _ _ hf
    refine g_aload_n X dX9_look_132 1 rfl ?_
    refine cg_7_8 X h_o1 wd1_72 dX9_look_133 ?_
    refine g_iload_n X dX9_look_136 2 rfl ?_
    refine ca_ld_7_8 X h_o1 dX9_look_137 hf (fun hf => ?_)
    refine g_goto (tgt := 142) X dX9_look_138 (by decide) ?_
    refine g_lv [0, 1] (lv' := [(0, .ref (ho 11)), (1, .ref (ho o1))]) rfl ?_
    exact hB142 _ _ _ hf
  have hB99 : ∀ (S : CS) (x2 : Int32) (x5 : Int32) (tx1 : Int32) (tx2 : Int32), C_9_look_B99 o1 S x2 x5 tx1 tx2 = some res → GG p l e rc_9_look s m args below meth c dC dI A 6 0 0 Q (CW E ho ro S ++ P) 99 [(0, .ref (ho 11)), (1, .ref (ho o1)), (2, .int x2), (5, .int x5)] [.int tx2, .int tx1, .ref (ro 11 2)] := by
    intro S x2 x5 tx1 tx2 hf
    unfold C_9_look_B99 at hf
    refine ca_st_9_2 X dX9_look_99 hf (fun S5 hf => ?_)
    refine g_aload_n X dX9_look_100 0 rfl ?_
    refine cg_9_2 X wd1_223 dX9_look_101 ?_
    refine g_iconst X dX9_look_104 kc_5 ?_
    refine g_iload X dX9_look_105 3 rfl ?_
    refine g_if_eq (tgt := 119) X dX9_look_107 (by decide) hf (fun hf => ?_) (fun hf => ?_)
    · refine g_iconst X dX9_look_119 kc_m1 ?_
      exact hB120 _ _ _ _ _ hf
    refine g_aload_n X dX9_look_110 1 rfl ?_
    refine cg_7_7 X h_o1 wd1_67 dX9_look_111 ?_
    refine g_iload_n X dX9_look_114 2 rfl ?_
    refine ca_ld_7_7 X h_o1 dX9_look_115 hf (fun hf => ?_)
    refine g_goto (tgt := 120) X dX9_look_116 (by decide) ?_
    exact hB120 _ _ _ _ _ hf
  have hB78 : ∀ (S : CS) (x2 : Int32) (x3 : Int32) (x4 : Int32) (x5 : Int32) (tx1 : Int32) (tx2 : Int32), C_9_look_B78 o1 S x2 x3 x4 x5 tx1 tx2 = some res → GG p l e rc_9_look s m args below meth c dC dI A 6 0 0 Q (CW E ho ro S ++ P) 78 [(0, .ref (ho 11)), (1, .ref (ho o1)), (2, .int x2), (3, .int x3), (4, .int x4), (5, .int x5)] [.int tx2, .int tx1, .ref (ro 11 2)] := by
    intro S x2 x3 x4 x5 tx1 tx2 hf
    unfold C_9_look_B78 at hf
    refine ca_st_9_2 X dX9_look_78 hf (fun S6 hf => ?_)
    refine g_aload_n X dX9_look_79 0 rfl ?_
    refine cg_9_2 X wd1_223 dX9_look_80 ?_
    refine g_iconst X dX9_look_83 kc_4 ?_
    refine g_iload X dX9_look_84 4 rfl ?_
    refine g_if_eq (tgt := 98) X dX9_look_86 (by decide) hf (fun hf => ?_) (fun hf => ?_)
    · refine g_iconst X dX9_look_98 kc_m1 ?_
      refine g_lv [0, 1, 2, 5] (lv' := [(0, .ref (ho 11)), (1, .ref (ho o1)), (2, .int x2), (5, .int x5)]) rfl ?_
      exact hB99 _ _ _ _ _ hf
    refine g_aload_n X dX9_look_89 1 rfl ?_
    refine cg_7_3 X h_o1 wd1_50 dX9_look_90 ?_
    refine g_iload_n X dX9_look_93 3 rfl ?_
    refine ca_ld_7_3 X h_o1 dX9_look_94 hf (fun hf => ?_)
    refine g_goto (tgt := 99) X dX9_look_95 (by decide) ?_
    refine g_lv [0, 1, 2, 5] (lv' := [(0, .ref (ho 11)), (1, .ref (ho o1)), (2, .int x2), (5, .int x5)]) rfl ?_
    exact hB99 _ _ _ _ _ hf
  have hB57 : ∀ (S : CS) (x2 : Int32) (x3 : Int32) (x4 : Int32) (x5 : Int32) (tx1 : Int32) (tx2 : Int32), C_9_look_B57 o1 S x2 x3 x4 x5 tx1 tx2 = some res → GG p l e rc_9_look s m args below meth c dC dI A 6 0 0 Q (CW E ho ro S ++ P) 57 [(0, .ref (ho 11)), (1, .ref (ho o1)), (2, .int x2), (3, .int x3), (4, .int x4), (5, .int x5)] [.int tx2, .int tx1, .ref (ro 11 2)] := by
    intro S x2 x3 x4 x5 tx1 tx2 hf
    unfold C_9_look_B57 at hf
    refine ca_st_9_2 X dX9_look_57 hf (fun S7 hf => ?_)
    refine g_aload_n X dX9_look_58 0 rfl ?_
    refine cg_9_2 X wd1_223 dX9_look_59 ?_
    refine g_iconst X dX9_look_62 kc_3 ?_
    refine g_iload X dX9_look_63 4 rfl ?_
    refine g_if_eq (tgt := 77) X dX9_look_65 (by decide) hf (fun hf => ?_) (fun hf => ?_)
    · refine g_iconst X dX9_look_77 kc_m1 ?_
      exact hB78 _ _ _ _ _ _ _ hf
    refine g_aload_n X dX9_look_68 1 rfl ?_
    refine cg_7_2 X h_o1 wd1_48 dX9_look_69 ?_
    refine g_iload_n X dX9_look_72 3 rfl ?_
    refine ca_ld_7_2 X h_o1 dX9_look_73 hf (fun hf => ?_)
    refine g_goto (tgt := 78) X dX9_look_74 (by decide) ?_
    exact hB78 _ _ _ _ _ _ _ hf
  have hB41 : ∀ (S : CS) (x2 : Int32) (x3 : Int32) (x4 : Int32) (x5 : Int32) (tx1 : Int32) (tx2 : Int32), C_9_look_B41 o1 S x2 x3 x4 x5 tx1 tx2 = some res → GG p l e rc_9_look s m args below meth c dC dI A 6 0 0 Q (CW E ho ro S ++ P) 41 [(0, .ref (ho 11)), (1, .ref (ho o1)), (2, .int x2), (3, .int x3), (4, .int x4), (5, .int x5)] [.int tx2, .int tx1, .ref (ro 11 2)] := by
    intro S x2 x3 x4 x5 tx1 tx2 hf
    unfold C_9_look_B41 at hf
    refine ca_st_9_2 X dX9_look_41 hf (fun S8 hf => ?_)
    refine g_aload_n X dX9_look_42 0 rfl ?_
    refine cg_9_2 X wd1_223 dX9_look_43 ?_
    refine g_iconst X dX9_look_46 kc_2 ?_
    refine g_iload X dX9_look_47 4 rfl ?_
    refine g_if_eq (tgt := 56) X dX9_look_49 (by decide) hf (fun hf => ?_) (fun hf => ?_)
    · refine g_iconst X dX9_look_56 kc_m1 ?_
      exact hB57 _ _ _ _ _ _ _ hf
    refine g_iload_n X dX9_look_52 3 rfl ?_
    refine g_goto (tgt := 57) X dX9_look_53 (by decide) ?_
    exact hB57 _ _ _ _ _ _ _ hf
  refine g_lv [0, 1, 2, 3] (lv' := [(0, .ref (ho 11)), (1, .ref (ho o1)), (2, .int x2), (3, .int x3)]) rfl ?_
  unfold C_9_look at hf
  refine g_aload_n X dX9_look_0 1 rfl ?_
  refine g_iload_n X dX9_look_1 3 rfl ?_
  refine m_bind hf (fun y9 hy9 hf => ?_)
  refine cw_V_i (cix := 7) (As := [.int x3]) (st := []) X Y kV_X9_47 (cc_7_hasLane l dC dI E ev ho ro P S o1 x3 h_o1 y9 hy9) (ob_7 h_o1) rfl ⟨Nat.le_of_ble_eq_true rfl, Nat.le_of_ble_eq_true rfl⟩ ⟨rfl, rfl⟩ (Nat.le_of_ble_eq_true rfl) ⟨Nat.le_of_ble_eq_true rfl, Nat.le_of_ble_eq_true rfl⟩ dX9_look_2 ?_
  refine g_istore (lv' := [(4, .int y9), (0, .ref (ho 11)), (1, .ref (ho o1)), (2, .int x2), (3, .int x3)]) X dX9_look_5 (by decide) rfl ?_
  refine g_aload_n X dX9_look_7 2 rfl ?_
  refine g_iload_n X dX9_look_8 3 rfl ?_
  refine m_bind hf (fun y10 hy10 hf => ?_)
  refine cw_V_i (cix := 7) (As := [.int x2]) (st := []) X Y kV_X9_86 (cc_7_hasChild l dC dI E ev ho ro P S o1 x2 h_o1 y10 hy10) (ob_7 h_o1) rfl ⟨Nat.le_of_ble_eq_true rfl, Nat.le_of_ble_eq_true rfl⟩ ⟨rfl, rfl⟩ (Nat.le_of_ble_eq_true rfl) ⟨Nat.le_of_ble_eq_true rfl, Nat.le_of_ble_eq_true rfl⟩ dX9_look_9 ?_
  refine g_istore (lv' := [(5, .int y10), (4, .int y9), (0, .ref (ho 11)), (1, .ref (ho o1)), (2, .int x2), (3, .int x3)]) X dX9_look_12 (by decide) rfl ?_
  refine g_aload_n X dX9_look_14 2 rfl ?_
  refine cg_9_2 X wd1_223 dX9_look_15 ?_
  refine g_iconst X dX9_look_18 kc_0 ?_
  refine g_iload_n X dX9_look_19 4 rfl ?_
  refine ca_stc_9_2 X kt_0 kx_0_9 dX9_look_20 hf (fun S11 hf => ?_)
  refine g_aload_n X dX9_look_21 2 rfl ?_
  refine cg_9_2 X wd1_223 dX9_look_22 ?_
  refine g_iconst X dX9_look_25 kc_1 ?_
  refine g_iload X dX9_look_26 0 rfl ?_
  refine g_if_eq (tgt := 40) X dX9_look_28 (by decide) hf (fun hf => ?_) (fun hf => ?_)
  · refine g_iconst X dX9_look_40 kc_m1 ?_
    refine g_lv [2, 3, 4, 5, 1, 0] (lv' := [(0, .ref (ho 11)), (1, .ref (ho o1)), (2, .int x2), (3, .int x3), (4, .int y9), (5, .int y10)]) rfl ?_
    exact hB41 _ _ _ _ _ _ _ hf
  refine g_aload_n X dX9_look_31 3 rfl ?_
  refine cg_7_6 X h_o1 wd1_64 dX9_look_32 ?_
  refine g_iload_n X dX9_look_35 4 rfl ?_
  refine ca_ld_7_6 X h_o1 dX9_look_36 hf (fun hf => ?_)
  refine g_goto (tgt := 41) X dX9_look_37 (by decide) ?_
  refine g_lv [2, 3, 4, 5, 1, 0] (lv' := [(0, .ref (ho 11)), (1, .ref (ho o1)), (2, .int x2), (3, .int x3), (4, .int y9), (5, .int y10)]) rfl ?_
  exact hB41 _ _ _ _ _ _ _ hf
def rc_9_tell : Room := { frames := 2, cells := 0, slots := 0, locals := 55 }
set_option maxRecDepth 100000 in
set_option maxHeartbeats 4000000 in
theorem cc_9_tell (l : Launch) (dC : Nat → ClassId) (dI : Nat → Nat → Nat) (E : Nat → ClassId) (ev : Nat → Nat) (ho : Nat → Nat) (ro : Nat → Nat → Nat) (F : Nat) (P : va_W) (S : CS) (q1 : Option Nat) (x2 : Int32) (x3 : Int32) (x4 : Int32)  (res : Int32 × CS) (hf : C_9_tell F E P S q1 x2 x3 x4 = some res) : CC l dC dI E ev yX9_tell cX9_tell 8 (some .int) rc_9_tell [.ref (ho 11), va_rf q1, .int x2, .int x3, .int x4] (CW E ho ro S ++ P) (CW E ho ro res.2 ++ P) (some (.int res.1)) := by
  refine CC_of (own := "LostLanes$Wits") (by decide) rfl (by cases q1 <;> exact Nat.le_of_ble_eq_true rfl) ?_
  intro p e s m args below meth c A Q X Y hr hlk hA hQ
  have hB130 : ∀ (a1 : Nat) (x2 : Int32) (x3 : Int32) (x4 : Int32) (k20 : CS → Int32 → Option (Int32 × CS)) (hk20 : ∀ (S : CS) (x5 : Int32), k20 S x5 = some res → GG p l e rc_9_tell s m args below meth c dC dI A 8 0 0 Q (CW E ho ro S ++ P) 20 [(0, .ref (ho 11)), (1, .ref a1), (2, .int x2), (3, .int x3), (4, .int x4), (5, .int x5)] []) (S : CS) (x5 : Int32), C_9_tell_B130 F E P k20 S a1 x2 x3 x4 x5 = some res → GG p l e rc_9_tell s m args below meth c dC dI A 8 0 0 Q (CW E ho ro S ++ P) 130 [(0, .ref (ho 11)), (1, .ref a1), (2, .int x2), (3, .int x3), (4, .int x4), (5, .int x5)] [] := by
    intro a1 x2 x3 x4 k20 hk20 S x5 hf
    unfold C_9_tell_B130 at hf
    refine g_iinc (lv' := [(5, .int (x5 + (-1 : Int32))), (0, .ref (ho 11)), (1, .ref a1), (2, .int x2), (3, .int x3), (4, .int x4)]) X dX9_tell_130 5 rfl kc_m1 (by decide) rfl ?_
    refine g_goto (tgt := 20) X dX9_tell_133 (by decide) ?_
    refine g_lv [1, 2, 3, 4, 5, 0] (lv' := [(0, .ref (ho 11)), (1, .ref a1), (2, .int x2), (3, .int x3), (4, .int x4), (5, .int (x5 + (-1 : Int32)))]) rfl ?_
    exact hk20 _ _ hf
  have hB85 : ∀ (a1 : Nat) (x2 : Int32) (x3 : Int32) (x4 : Int32) (k20 : CS → Int32 → Option (Int32 × CS)) (hk20 : ∀ (S : CS) (x5 : Int32), k20 S x5 = some res → GG p l e rc_9_tell s m args below meth c dC dI A 8 0 0 Q (CW E ho ro S ++ P) 20 [(0, .ref (ho 11)), (1, .ref a1), (2, .int x2), (3, .int x3), (4, .int x4), (5, .int x5)] []) (S : CS) (x5 : Int32) (a6 : Nat), C_9_tell_B85 F E P k20 S a1 x2 x3 x4 x5 a6 = some res → GG p l e rc_9_tell s m args below meth c dC dI A 8 0 0 Q (CW E ho ro S ++ P) 85 [(0, .ref (ho 11)), (1, .ref a1), (2, .int x2), (3, .int x3), (4, .int x4), (5, .int x5), (6, .ref a6)] [] := by
    intro a1 x2 x3 x4 k20 hk20 S x5 a6 hf
    unfold C_9_tell_B85 at hf
    refine g_aload_n X dX9_tell_85 0 rfl ?_
    refine cg_9_0 X wd1_220 dX9_tell_86 ?_
    refine g_aload_n X dX9_tell_89 1 rfl ?_
    refine pg_5_2 X wd3_53 dX9_tell_90 hf (fun b1 hf => ?_)
    refine g_aload X dX9_tell_93 6 rfl ?_
    refine pg_0_1 X wd3_134 dX9_tell_95 hf (fun v2 hf => ?_)
    refine g_aload X dX9_tell_98 6 rfl ?_
    refine pg_0_2 X wd3_137 dX9_tell_100 hf (fun v3 hf => ?_)
    refine g_aload_n X dX9_tell_103 0 rfl ?_
    refine cg_9_2 X wd1_223 dX9_tell_104 ?_
    refine m_bind hf (fun y4 hy4 hf => ?_)
    refine cw_V_i (cix := 4) (As := [.ref b1, .int v2, .int v3, .ref (ro 11 2)]) (st := []) X Y kV_X9_82 (cc_4_reckon l dC dI E ev ho ro F P S b1 v2 v3 11 2 9 ars_9_2 y4 hy4) ob_4 rfl ⟨Nat.le_of_ble_eq_true rfl, Nat.le_of_ble_eq_true rfl⟩ ⟨rfl, rfl⟩ (Nat.le_of_ble_eq_true rfl) ⟨Nat.le_of_ble_eq_true rfl, Nat.le_of_ble_eq_true rfl⟩ dX9_tell_107 ?_
    refine g_istore (lv' := [(7, .int y4.1), (0, .ref (ho 11)), (1, .ref a1), (2, .int x2), (3, .int x3), (4, .int x4), (5, .int x5), (6, .ref a6)]) X dX9_tell_110 (by decide) rfl ?_
    refine g_iload X dX9_tell_112 0 rfl ?_
    refine g_ldc X dX9_tell_114 wd2_199 ?_
    refine g_icmp_eq (tgt := 130) X dX9_tell_116 (by decide) hf (fun hf => ?_) (fun hf => ?_)
    · refine g_lv [1, 2, 3, 4, 5, 6] (lv' := [(0, .ref (ho 11)), (1, .ref a1), (2, .int x2), (3, .int x3), (4, .int x4), (5, .int x5)]) rfl ?_
      exact hB130 _ _ _ _ _ hk20 _ _ hf
    refine g_iconst X dX9_tell_119 kc_0 ?_
    refine g_iload_n X dX9_tell_120 4 rfl ?_
    refine g_iload X dX9_tell_121 0 rfl ?_
    refine g_mmin X wd2_178 wd2_179 wd1_11 wd2_180 ⟨Nat.le_of_ble_eq_true rfl, Nat.le_of_ble_eq_true rfl⟩ (Nat.le_of_ble_eq_true rfl) ⟨Nat.le_of_ble_eq_true rfl, Nat.le_of_ble_eq_true rfl⟩ dX9_tell_123 ?_
    refine g_mmax X wd2_200 wd2_191 wd1_11 wd2_192 ⟨Nat.le_of_ble_eq_true rfl, Nat.le_of_ble_eq_true rfl⟩ (Nat.le_of_ble_eq_true rfl) ⟨Nat.le_of_ble_eq_true rfl, Nat.le_of_ble_eq_true rfl⟩ dX9_tell_126 ?_
    exact c_reti_s hA hQ X hr hlk dX9_tell_129 hf
  have hL20 : ∀ (a1 : Nat) (x2 : Int32) (x3 : Int32) (x4 : Int32) (n : Nat) (S : CS) (x5 : Int32), C_9_tell_L20 F E P a1 x2 x3 x4 n S x5 = some res → GG p l e rc_9_tell s m args below meth c dC dI A 8 0 0 Q (CW E ho ro S ++ P) 20 [(0, .ref (ho 11)), (1, .ref a1), (2, .int x2), (3, .int x3), (4, .int x4), (5, .int x5)] [] := by
    intro a1 x2 x3 x4 n
    induction n with
    | zero => intro S x5 hf; have hf : (none : Option (Int32 × CS)) = some res := hf; cases hf
    | succ n ih =>
      intro S x5 hf
      rw [C_9_tell_L20] at hf
      refine g_iload X dX9_tell_20 5 rfl ?_
      refine g_if_lt (tgt := 136) X dX9_tell_22 (by decide) hf (fun hf => ?_) (fun hf => ?_)
      · refine g_iload X dX9_tell_136 4 rfl ?_
        exact c_reti_s hA hQ X hr hlk dX9_tell_138 hf
      refine g_aload_n X dX9_tell_25 1 rfl ?_
      refine pg_5_0 X wd3_46 dX9_tell_26 hf (fun b5 hf => ?_)
      refine g_iload X dX9_tell_29 5 rfl ?_
      refine p_aldq X dX9_tell_31 hf (fun qv6 hf => ?_)
      refine g_astoreq (lv' := [(6, va_rf qv6), (0, .ref (ho 11)), (1, .ref a1), (2, .int x2), (3, .int x3), (4, .int x4), (5, .int x5)]) X dX9_tell_32 (by decide) rfl ?_
      refine g_aloadq (q := qv6) X dX9_tell_34 0 rfl ?_
      refine g_ifnull (tgt := 130) X dX9_tell_36 (by decide) hf (fun hq hfn => ?_) (fun an7 hq hfn => ?_)
      · subst hq
        have hf := hfn
        refine g_lv [1, 2, 3, 4, 5, 6] (lv' := [(0, .ref (ho 11)), (1, .ref a1), (2, .int x2), (3, .int x3), (4, .int x4), (5, .int x5)]) rfl ?_
        exact hB130 _ _ _ _ _ ih _ _ hf
      subst hq
      have hf := hfn
      refine g_aload X dX9_tell_39 0 rfl ?_
      refine pg_0_0 X wd3_131 dX9_tell_41 hf (fun v8 hf => ?_)
      refine g_iload_n X dX9_tell_44 3 rfl ?_
      refine g_icmp_ne (tgt := 130) X dX9_tell_45 (by decide) hf (fun hf => ?_) (fun hf => ?_)
      · refine g_lv [1, 2, 3, 4, 5, 6] (lv' := [(0, .ref (ho 11)), (1, .ref a1), (2, .int x2), (3, .int x3), (4, .int x4), (5, .int x5)]) rfl ?_
        exact hB130 _ _ _ _ _ ih _ _ hf
      refine g_aload X dX9_tell_48 0 rfl ?_
      obtain ⟨hz50, hf⟩ := chk_some hf
      refine m_bind hf (fun y9 hy9 hf => ?_)
      refine cw_V_i (cix := 0) (As := []) (st := []) X Y kV_X9_69 (cc_0_hasTest l dC dI E ev ho ro P S an7 y9 hy9) (ob_pool hz50) rfl ⟨Nat.le_of_ble_eq_true rfl, Nat.le_of_ble_eq_true rfl⟩ ⟨rfl, rfl⟩ (Nat.le_of_ble_eq_true rfl) ⟨Nat.le_of_ble_eq_true rfl, Nat.le_of_ble_eq_true rfl⟩ dX9_tell_50 ?_
      refine g_if_eq (tgt := 85) X dX9_tell_53 (by decide) hf (fun hf => ?_) (fun hf => ?_)
      · refine g_lv [1, 2, 3, 4, 5, 6, 0] (lv' := [(0, .ref (ho 11)), (1, .ref a1), (2, .int x2), (3, .int x3), (4, .int x4), (5, .int x5), (6, .ref an7)]) rfl ?_
        exact hB85 _ _ _ _ _ ih _ _ _ hf
      refine g_aload_n X dX9_tell_56 1 rfl ?_
      refine cg_9_0 X wd1_220 dX9_tell_57 ?_
      refine g_aload_n X dX9_tell_60 2 rfl ?_
      refine pg_5_2 X wd3_53 dX9_tell_61 hf (fun b10 hf => ?_)
      refine g_aload X dX9_tell_64 0 rfl ?_
      refine pg_0_3 X wd3_141 dX9_tell_66 hf (fun v11 hf => ?_)
      refine g_aload X dX9_tell_69 0 rfl ?_
      refine pg_0_4 X wd3_145 dX9_tell_71 hf (fun v12 hf => ?_)
      refine g_aload_n X dX9_tell_74 1 rfl ?_
      refine cg_9_2 X wd1_223 dX9_tell_75 ?_
      refine m_bind hf (fun y13 hy13 hf => ?_)
      refine cw_V_i (cix := 4) (As := [.ref b10, .int v11, .int v12, .ref (ro 11 2)]) (st := []) X Y kV_X9_82 (cc_4_reckon l dC dI E ev ho ro F P S b10 v11 v12 11 2 9 ars_9_2 y13 hy13) ob_4 rfl ⟨Nat.le_of_ble_eq_true rfl, Nat.le_of_ble_eq_true rfl⟩ ⟨rfl, rfl⟩ (Nat.le_of_ble_eq_true rfl) ⟨Nat.le_of_ble_eq_true rfl, Nat.le_of_ble_eq_true rfl⟩ dX9_tell_78 ?_
      refine g_iconst X dX9_tell_81 kc_1 ?_
      refine g_icmp_ne (tgt := 130) X dX9_tell_82 (by decide) hf (fun hf => ?_) (fun hf => ?_)
      · refine g_lv [1, 2, 3, 4, 5, 6] (lv' := [(0, .ref (ho 11)), (1, .ref a1), (2, .int x2), (3, .int x3), (4, .int x4), (5, .int x5)]) rfl ?_
        exact hB130 _ _ _ _ _ ih _ _ hf
      refine g_lv [1, 2, 3, 4, 5, 6, 0] (lv' := [(0, .ref (ho 11)), (1, .ref a1), (2, .int x2), (3, .int x3), (4, .int x4), (5, .int x5), (6, .ref an7)]) rfl ?_
      exact hB85 _ _ _ _ _ ih _ _ _ hf
  refine g_lv [0, 1, 2, 3, 4] (lv' := [(0, .ref (ho 11)), (1, va_rf q1), (2, .int x2), (3, .int x3), (4, .int x4)]) (by cases q1 <;> rfl) ?_
  unfold C_9_tell at hf
  refine g_aload_nq (q := q1) X dX9_tell_0 1 rfl ?_
  refine g_ifnonnull (tgt := 7) X dX9_tell_1 (by decide) hf (fun hq hfn => ?_) (fun an14 hq hfn => ?_)
  · subst hq
    have hf := hfn
    refine g_iload X dX9_tell_4 4 rfl ?_
    exact c_reti_s hA hQ X hr hlk dX9_tell_6 hf
  subst hq
  have hf := hfn
  refine g_aload_n X dX9_tell_7 1 rfl ?_
  refine pg_5_1 X wd3_49 dX9_tell_8 hf (fun v15 hf => ?_)
  refine g_bipush X dX9_tell_11 kb_12 ?_
  refine g_mmin X wd2_178 wd2_179 wd1_11 wd2_180 ⟨Nat.le_of_ble_eq_true rfl, Nat.le_of_ble_eq_true rfl⟩ (Nat.le_of_ble_eq_true rfl) ⟨Nat.le_of_ble_eq_true rfl, Nat.le_of_ble_eq_true rfl⟩ dX9_tell_13 ?_
  refine g_iconst X dX9_tell_16 kc_1 ?_
  refine g_isub X dX9_tell_17 ?_
  refine g_istore (lv' := [(5, .int ((if (12 : Int32) < v15 then (12 : Int32) else v15) - (1 : Int32))), (0, .ref (ho 11)), (1, .ref an14), (2, .int x2), (3, .int x3), (4, .int x4)]) X dX9_tell_18 (by decide) rfl ?_
  refine g_lv [1, 2, 3, 4, 5, 0] (lv' := [(0, .ref (ho 11)), (1, .ref an14), (2, .int x2), (3, .int x3), (4, .int x4), (5, .int ((if (12 : Int32) < v15 then (12 : Int32) else v15) - (1 : Int32)))]) rfl ?_
  exact hL20 _ _ _ _ _ _ _ hf
def rc_9_turnOf : Room := { frames := 3, cells := 0, slots := 0, locals := 82 }
set_option maxRecDepth 100000 in
set_option maxHeartbeats 4000000 in
theorem cc_9_turnOf (l : Launch) (dC : Nat → ClassId) (dI : Nat → Nat → Nat) (E : Nat → ClassId) (ev : Nat → Nat) (ho : Nat → Nat) (ro : Nat → Nat → Nat) (F : Nat) (P : va_W) (S : CS) (o1 : Nat) (q2 : Option Nat) (x3 : Int32) (h_o1 : tw o1) (res : Int32 × CS) (hf : C_9_turnOf F E P S o1 q2 x3 = some res) : CC l dC dI E ev yX9_turnOf cX9_turnOf 4 (some .int) rc_9_turnOf [.ref (ho 11), .ref (ho o1), va_rf q2, .int x3] (CW E ho ro S ++ P) (CW E ho ro res.2 ++ P) (some (.int res.1)) := by
  refine CC_of (own := "LostLanes$Wits") (by decide) rfl (by cases q2 <;> exact Nat.le_of_ble_eq_true rfl) ?_
  intro p e s m args below meth c A Q X Y hr hlk hA hQ
  refine g_lv [0, 1, 2, 3] (lv' := [(0, .ref (ho 11)), (1, .ref (ho o1)), (2, va_rf q2), (3, .int x3)]) (by cases q2 <;> rfl) ?_
  unfold C_9_turnOf at hf
  refine g_aload_n X dX9_turnOf_0 0 rfl ?_
  refine g_aload_n X dX9_turnOf_1 1 rfl ?_
  refine g_iload_n X dX9_turnOf_2 3 rfl ?_
  refine g_iconst X dX9_turnOf_3 kc_m1 ?_
  refine m_bind hf (fun y1 hy1 hf => ?_)
  refine cw_V_v (cix := 9) (As := [.ref (ho o1), .int x3, .int (-1 : Int32)]) (st := []) X Y kV_X9_35 (cc_9_look l dC dI E ev ho ro P S o1 x3 (-1 : Int32) h_o1 y1 hy1) ob_9 rfl ⟨Nat.le_of_ble_eq_true rfl, Nat.le_of_ble_eq_true rfl⟩ ⟨rfl, rfl⟩ (Nat.le_of_ble_eq_true rfl) ⟨Nat.le_of_ble_eq_true rfl, Nat.le_of_ble_eq_true rfl⟩ dX9_turnOf_4 ?_
  refine g_aload_n X dX9_turnOf_7 0 rfl ?_
  refine g_aload_nq (q := q2) X dX9_turnOf_8 2 rfl ?_
  refine g_iconst X dX9_turnOf_9 kc_0 ?_
  refine g_bipush X dX9_turnOf_10 kb_99 ?_
  refine g_iconst X dX9_turnOf_12 kc_0 ?_
  refine m_bind hf (fun y2 hy2 hf => ?_)
  refine cw_V_i (cix := 9) (As := [va_rf q2, .int (0 : Int32), .int (99 : Int32), .int (0 : Int32)]) (st := []) X Y kV_X9_39 (cc_9_tell l dC dI E ev ho ro F P y1.2 q2 (0 : Int32) (99 : Int32) (0 : Int32) y2 hy2) ob_9 rfl ⟨Nat.le_of_ble_eq_true rfl, Nat.le_of_ble_eq_true rfl⟩ ⟨rfl, rfl⟩ (Nat.le_of_ble_eq_true rfl) ⟨Nat.le_of_ble_eq_true rfl, Nat.le_of_ble_eq_true rfl⟩ dX9_turnOf_13 ?_
  exact c_reti_s hA hQ X hr hlk dX9_turnOf_16 hf
def rc_9_nameSaid : Room := { frames := 3, cells := 0, slots := 0, locals := 82 }
set_option maxRecDepth 100000 in
set_option maxHeartbeats 4000000 in
theorem cc_9_nameSaid (l : Launch) (dC : Nat → ClassId) (dI : Nat → Nat → Nat) (E : Nat → ClassId) (ev : Nat → Nat) (ho : Nat → Nat) (ro : Nat → Nat → Nat) (F : Nat) (P : va_W) (S : CS) (o1 : Nat) (x2 : Int32) (x3 : Int32) (h_o1 : tw o1) (res : Int32 × CS) (hf : C_9_nameSaid F E P S o1 x2 x3 = some res) : CC l dC dI E ev yX9_nameSaid cX9_nameSaid 4 (some .int) rc_9_nameSaid [.ref (ho 11), .ref (ho o1), .int x2, .int x3] (CW E ho ro S ++ P) (CW E ho ro res.2 ++ P) (some (.int res.1)) := by
  refine CC_of (own := "LostLanes$Wits") (by decide) rfl (Nat.le_of_ble_eq_true rfl) ?_
  intro p e s m args below meth c A Q X Y hr hlk hA hQ
  have hB33 : ∀ (S : CS) (tq1 : Option Nat) (tx2 : Int32) (tx3 : Int32) (tx4 : Int32), C_9_nameSaid_B33 F E P o1 S tq1 tx2 tx3 tx4 = some res → GG p l e rc_9_nameSaid s m args below meth c dC dI A 4 0 0 Q (CW E ho ro S ++ P) 33 [] [.int tx4, .int tx3, .int tx2, va_rf tq1, .ref (ho 11)] := by
    intro S tq1 tx2 tx3 tx4 hf
    unfold C_9_nameSaid_B33 at hf
    refine m_bind hf (fun y1 hy1 hf => ?_)
    refine cw_V_i (cix := 9) (As := [va_rf tq1, .int tx2, .int tx3, .int tx4]) (st := []) X Y kV_X9_39 (cc_9_tell l dC dI E ev ho ro F P S tq1 tx2 tx3 tx4 y1 hy1) ob_9 rfl ⟨Nat.le_of_ble_eq_true rfl, Nat.le_of_ble_eq_true rfl⟩ ⟨rfl, rfl⟩ (Nat.le_of_ble_eq_true rfl) ⟨Nat.le_of_ble_eq_true rfl, Nat.le_of_ble_eq_true rfl⟩ dX9_nameSaid_33 ?_
    exact c_reti_s hA hQ X hr hlk dX9_nameSaid_36 hf
  refine g_lv [0, 1, 2, 3] (lv' := [(0, .ref (ho 11)), (1, .ref (ho o1)), (2, .int x2), (3, .int x3)]) rfl ?_
  unfold C_9_nameSaid at hf
  refine g_aload_n X dX9_nameSaid_0 0 rfl ?_
  refine g_aload_n X dX9_nameSaid_1 1 rfl ?_
  refine g_iload_n X dX9_nameSaid_2 2 rfl ?_
  refine g_iload_n X dX9_nameSaid_3 3 rfl ?_
  refine m_bind hf (fun y2 hy2 hf => ?_)
  refine cw_V_v (cix := 9) (As := [.ref (ho o1), .int x2, .int x3]) (st := []) X Y kV_X9_35 (cc_9_look l dC dI E ev ho ro P S o1 x2 x3 h_o1 y2 hy2) ob_9 rfl ⟨Nat.le_of_ble_eq_true rfl, Nat.le_of_ble_eq_true rfl⟩ ⟨rfl, rfl⟩ (Nat.le_of_ble_eq_true rfl) ⟨Nat.le_of_ble_eq_true rfl, Nat.le_of_ble_eq_true rfl⟩ dX9_nameSaid_4 ?_
  refine g_aload_n X dX9_nameSaid_7 0 rfl ?_
  refine g_aload_n X dX9_nameSaid_8 1 rfl ?_
  refine m_bind hf (fun y3 hy3 hf => ?_)
  refine cw_V_q (cix := 7) (As := []) (st := [.ref (ho 11)]) X Y kV_X9_43 (cc_7_lawInForce l dC dI E ev ho ro P y2.2 o1 h_o1 y3 hy3) (ob_7 h_o1) rfl ⟨Nat.le_of_ble_eq_true rfl, Nat.le_of_ble_eq_true rfl⟩ ⟨rfl, rfl⟩ (Nat.le_of_ble_eq_true rfl) ⟨Nat.le_of_ble_eq_true rfl, Nat.le_of_ble_eq_true rfl⟩ dX9_nameSaid_9 ?_
  refine g_iconst X dX9_nameSaid_12 kc_1 ?_
  refine g_bipush X dX9_nameSaid_13 kb_19 ?_
  refine g_aload_n X dX9_nameSaid_15 1 rfl ?_
  refine g_iload_n X dX9_nameSaid_16 3 rfl ?_
  refine m_bind hf (fun y4 hy4 hf => ?_)
  refine cw_V_i (cix := 7) (As := [.int x3]) (st := [.int (19 : Int32), .int (1 : Int32), va_rf y3, .ref (ho 11)]) X Y kV_X9_47 (cc_7_hasLane l dC dI E ev ho ro P y2.2 o1 x3 h_o1 y4 hy4) (ob_7 h_o1) rfl ⟨Nat.le_of_ble_eq_true rfl, Nat.le_of_ble_eq_true rfl⟩ ⟨rfl, rfl⟩ (by cases y3 <;> exact Nat.le_of_ble_eq_true rfl) ⟨Nat.le_of_ble_eq_true rfl, Nat.le_of_ble_eq_true rfl⟩ dX9_nameSaid_17 ?_
  refine g_if_eq (tgt := 32) X dX9_nameSaid_20 (by decide) hf (fun hf => ?_) (fun hf => ?_)
  · refine g_iconst X dX9_nameSaid_32 kc_0 ?_
    refine g_lv [] (lv' := []) rfl ?_
    exact hB33 _ _ _ _ _ hf
  refine g_aload_n X dX9_nameSaid_23 1 rfl ?_
  refine cg_7_3 X h_o1 wd1_50 dX9_nameSaid_24 ?_
  refine g_iload_n X dX9_nameSaid_27 3 rfl ?_
  refine ca_ld_7_3 X h_o1 dX9_nameSaid_28 hf (fun hf => ?_)
  refine g_goto (tgt := 33) X dX9_nameSaid_29 (by decide) ?_
  refine g_lv [] (lv' := []) rfl ?_
  exact hB33 _ _ _ _ _ hf
def rc_9_isBarred : Room := { frames := 2, cells := 0, slots := 0, locals := 55 }
set_option maxRecDepth 100000 in
set_option maxHeartbeats 4000000 in
theorem cc_9_isBarred (l : Launch) (dC : Nat → ClassId) (dI : Nat → Nat → Nat) (E : Nat → ClassId) (ev : Nat → Nat) (ho : Nat → Nat) (ro : Nat → Nat → Nat) (F : Nat) (P : va_W) (S : CS) (o1 : Nat) (q2 : Option Nat) (x3 : Int32) (x4 : Int32) (h_o1 : tw o1) (res : Int32 × CS) (hf : C_9_isBarred F E P S o1 q2 x3 x4 = some res) : CC l dC dI E ev yX9_isBarred cX9_isBarred 7 (some .boolean) rc_9_isBarred [.ref (ho 11), .ref (ho o1), va_rf q2, .int x3, .int x4] (CW E ho ro S ++ P) (CW E ho ro res.2 ++ P) (some (.int res.1)) := by
  refine CC_of (own := "LostLanes$Wits") (by decide) rfl (by cases q2 <;> exact Nat.le_of_ble_eq_true rfl) ?_
  intro p e s m args below meth c A Q X Y hr hlk hA hQ
  have hB88 : ∀ (a2 : Nat) (k17 : CS → Int32 → Option (Int32 × CS)) (hk17 : ∀ (S : CS) (x5 : Int32), k17 S x5 = some res → GG p l e rc_9_isBarred s m args below meth c dC dI A 7 0 0 Q (CW E ho ro S ++ P) 17 [(0, .ref (ho 11)), (2, .ref a2), (5, .int x5)] []) (S : CS) (x5 : Int32), C_9_isBarred_B88 F E P o1 k17 S a2 x5 = some res → GG p l e rc_9_isBarred s m args below meth c dC dI A 7 0 0 Q (CW E ho ro S ++ P) 88 [(0, .ref (ho 11)), (2, .ref a2), (5, .int x5)] [] := by
    intro a2 k17 hk17 S x5 hf
    unfold C_9_isBarred_B88 at hf
    refine g_iinc (lv' := [(5, .int (x5 + (1 : Int32))), (0, .ref (ho 11)), (2, .ref a2)]) X dX9_isBarred_88 2 rfl kc_1 (by decide) rfl ?_
    refine g_goto (tgt := 17) X dX9_isBarred_91 (by decide) ?_
    refine g_lv [1, 2, 0] (lv' := [(0, .ref (ho 11)), (2, .ref a2), (5, .int (x5 + (1 : Int32)))]) rfl ?_
    exact hk17 _ _ hf
  have hL17 : ∀ (a2 : Nat) (n : Nat) (S : CS) (x5 : Int32), C_9_isBarred_L17 F E P o1 a2 n S x5 = some res → GG p l e rc_9_isBarred s m args below meth c dC dI A 7 0 0 Q (CW E ho ro S ++ P) 17 [(0, .ref (ho 11)), (2, .ref a2), (5, .int x5)] [] := by
    intro a2 n
    induction n with
    | zero => intro S x5 hf; have hf : (none : Option (Int32 × CS)) = some res := hf; cases hf
    | succ n ih =>
      intro S x5 hf
      rw [C_9_isBarred_L17] at hf
      refine g_iload X dX9_isBarred_17 2 rfl ?_
      refine g_aload_n X dX9_isBarred_19 1 rfl ?_
      refine pg_5_1 X wd3_49 dX9_isBarred_20 hf (fun v1 hf => ?_)
      refine g_icmp_ge (tgt := 94) X dX9_isBarred_23 (by decide) hf (fun hf => ?_) (fun hf => ?_)
      · refine g_iconst X dX9_isBarred_94 kc_0 ?_
        exact c_retz_s hA hQ X hr hlk (Or.inl rfl) dX9_isBarred_95 hf
      refine g_aload_n X dX9_isBarred_26 1 rfl ?_
      refine pg_5_0 X wd3_46 dX9_isBarred_27 hf (fun b2 hf => ?_)
      refine g_iload X dX9_isBarred_30 2 rfl ?_
      refine p_aldq X dX9_isBarred_32 hf (fun qv3 hf => ?_)
      refine g_astoreq (lv' := [(6, va_rf qv3), (0, .ref (ho 11)), (2, .ref a2), (5, .int x5)]) X dX9_isBarred_33 (by decide) rfl ?_
      refine g_aloadq (q := qv3) X dX9_isBarred_35 0 rfl ?_
      refine g_ifnull (tgt := 88) X dX9_isBarred_37 (by decide) hf (fun hq hfn => ?_) (fun an4 hq hfn => ?_)
      · subst hq
        have hf := hfn
        refine g_lv [1, 2, 3] (lv' := [(0, .ref (ho 11)), (2, .ref a2), (5, .int x5)]) rfl ?_
        exact hB88 _ _ ih _ _ hf
      subst hq
      have hf := hfn
      refine g_aload X dX9_isBarred_40 0 rfl ?_
      refine pg_0_0 X wd3_131 dX9_isBarred_42 hf (fun v5 hf => ?_)
      refine g_iconst X dX9_isBarred_45 kc_2 ?_
      refine g_icmp_ne (tgt := 88) X dX9_isBarred_46 (by decide) hf (fun hf => ?_) (fun hf => ?_)
      · refine g_lv [1, 2, 3] (lv' := [(0, .ref (ho 11)), (2, .ref a2), (5, .int x5)]) rfl ?_
        exact hB88 _ _ ih _ _ hf
      refine g_aload X dX9_isBarred_49 0 rfl ?_
      obtain ⟨hz51, hf⟩ := chk_some hf
      refine m_bind hf (fun y6 hy6 hf => ?_)
      refine cw_V_i (cix := 0) (As := []) (st := []) X Y kV_X9_69 (cc_0_hasTest l dC dI E ev ho ro P S an4 y6 hy6) (ob_pool hz51) rfl ⟨Nat.le_of_ble_eq_true rfl, Nat.le_of_ble_eq_true rfl⟩ ⟨rfl, rfl⟩ (Nat.le_of_ble_eq_true rfl) ⟨Nat.le_of_ble_eq_true rfl, Nat.le_of_ble_eq_true rfl⟩ dX9_isBarred_51 ?_
      refine g_if_eq (tgt := 86) X dX9_isBarred_54 (by decide) hf (fun hf => ?_) (fun hf => ?_)
      · refine g_iconst X dX9_isBarred_86 kc_1 ?_
        exact c_retz_s hA hQ X hr hlk (Or.inr rfl) dX9_isBarred_87 hf
      refine g_aload_n X dX9_isBarred_57 1 rfl ?_
      refine cg_9_0 X wd1_220 dX9_isBarred_58 ?_
      refine g_aload_n X dX9_isBarred_61 2 rfl ?_
      refine pg_5_2 X wd3_53 dX9_isBarred_62 hf (fun b7 hf => ?_)
      refine g_aload X dX9_isBarred_65 0 rfl ?_
      refine pg_0_3 X wd3_141 dX9_isBarred_67 hf (fun v8 hf => ?_)
      refine g_aload X dX9_isBarred_70 0 rfl ?_
      refine pg_0_4 X wd3_145 dX9_isBarred_72 hf (fun v9 hf => ?_)
      refine g_aload_n X dX9_isBarred_75 1 rfl ?_
      refine cg_9_2 X wd1_223 dX9_isBarred_76 ?_
      refine m_bind hf (fun y10 hy10 hf => ?_)
      refine cw_V_i (cix := 4) (As := [.ref b7, .int v8, .int v9, .ref (ro 11 2)]) (st := []) X Y kV_X9_82 (cc_4_reckon l dC dI E ev ho ro F P S b7 v8 v9 11 2 9 ars_9_2 y10 hy10) ob_4 rfl ⟨Nat.le_of_ble_eq_true rfl, Nat.le_of_ble_eq_true rfl⟩ ⟨rfl, rfl⟩ (Nat.le_of_ble_eq_true rfl) ⟨Nat.le_of_ble_eq_true rfl, Nat.le_of_ble_eq_true rfl⟩ dX9_isBarred_79 ?_
      refine g_iconst X dX9_isBarred_82 kc_1 ?_
      refine g_icmp_ne (tgt := 88) X dX9_isBarred_83 (by decide) hf (fun hf => ?_) (fun hf => ?_)
      · refine g_lv [1, 2, 3] (lv' := [(0, .ref (ho 11)), (2, .ref a2), (5, .int x5)]) rfl ?_
        exact hB88 _ _ ih _ _ hf
      refine g_iconst X dX9_isBarred_86 kc_1 ?_
      exact c_retz_s hA hQ X hr hlk (Or.inr rfl) dX9_isBarred_87 hf
  refine g_lv [0, 1, 2, 3, 4] (lv' := [(0, .ref (ho 11)), (1, .ref (ho o1)), (2, va_rf q2), (3, .int x3), (4, .int x4)]) (by cases q2 <;> rfl) ?_
  unfold C_9_isBarred at hf
  refine g_aload_nq (q := q2) X dX9_isBarred_0 2 rfl ?_
  refine g_ifnonnull (tgt := 6) X dX9_isBarred_1 (by decide) hf (fun hq hfn => ?_) (fun an11 hq hfn => ?_)
  · subst hq
    have hf := hfn
    refine g_iconst X dX9_isBarred_4 kc_0 ?_
    exact c_retz_s hA hQ X hr hlk (Or.inl rfl) dX9_isBarred_5 hf
  subst hq
  have hf := hfn
  refine g_aload_n X dX9_isBarred_6 0 rfl ?_
  refine g_aload_n X dX9_isBarred_7 1 rfl ?_
  refine g_iload_n X dX9_isBarred_8 3 rfl ?_
  refine g_iload X dX9_isBarred_9 4 rfl ?_
  refine m_bind hf (fun y12 hy12 hf => ?_)
  refine cw_V_v (cix := 9) (As := [.ref (ho o1), .int x3, .int x4]) (st := []) X Y kV_X9_35 (cc_9_look l dC dI E ev ho ro P S o1 x3 x4 h_o1 y12 hy12) ob_9 rfl ⟨Nat.le_of_ble_eq_true rfl, Nat.le_of_ble_eq_true rfl⟩ ⟨rfl, rfl⟩ (Nat.le_of_ble_eq_true rfl) ⟨Nat.le_of_ble_eq_true rfl, Nat.le_of_ble_eq_true rfl⟩ dX9_isBarred_11 ?_
  refine g_iconst X dX9_isBarred_14 kc_0 ?_
  refine g_istore (lv' := [(5, .int (0 : Int32)), (0, .ref (ho 11)), (1, .ref (ho o1)), (2, .ref an11), (3, .int x3), (4, .int x4)]) X dX9_isBarred_15 (by decide) rfl ?_
  refine g_lv [1, 3, 0] (lv' := [(0, .ref (ho 11)), (2, .ref an11), (5, .int (0 : Int32))]) rfl ?_
  exact hL17 _ _ _ _ hf
def rc_9_laneTaken : Room := { frames := 3, cells := 0, slots := 0, locals := 82 }
set_option maxRecDepth 100000 in
set_option maxHeartbeats 4000000 in
theorem cc_9_laneTaken (l : Launch) (dC : Nat → ClassId) (dI : Nat → Nat → Nat) (E : Nat → ClassId) (ev : Nat → Nat) (ho : Nat → Nat) (ro : Nat → Nat → Nat) (F : Nat) (P : va_W) (S : CS) (o1 : Nat) (q2 : Option Nat) (x3 : Int32) (h_o1 : tw o1) (res : Int32 × CS) (hf : C_9_laneTaken F E P S o1 q2 x3 = some res) : CC l dC dI E ev yX9_laneTaken cX9_laneTaken 6 (some .int) rc_9_laneTaken [.ref (ho 11), .ref (ho o1), va_rf q2, .int x3] (CW E ho ro S ++ P) (CW E ho ro res.2 ++ P) (some (.int res.1)) := by
  refine CC_of (own := "LostLanes$Wits") (by decide) rfl (by cases q2 <;> exact Nat.le_of_ble_eq_true rfl) ?_
  intro p e s m args below meth c A Q X Y hr hlk hA hQ
  have hB80 : ∀ (S : CS) (q2 : Option Nat) (x3 : Int32) (x4 : Int32), C_9_laneTaken_B80 F E P o1 S q2 x3 x4 = some res → GG p l e rc_9_laneTaken s m args below meth c dC dI A 6 0 0 Q (CW E ho ro S ++ P) 80 [(0, .ref (ho 11)), (1, .ref (ho o1)), (2, va_rf q2), (3, .int x3), (4, .int x4)] [] := by
    intro S q2 x3 x4 hf
    unfold C_9_laneTaken_B80 at hf
    refine g_iload X dX9_laneTaken_80 4 rfl ?_
    refine g_if_ne (tgt := 87) X dX9_laneTaken_82 (by decide) hf (fun hf => ?_) (fun hf => ?_)
    · refine g_aload_n X dX9_laneTaken_87 0 rfl ?_
      refine g_aload_n X dX9_laneTaken_88 1 rfl ?_
      refine g_iload_n X dX9_laneTaken_89 3 rfl ?_
      refine g_iconst X dX9_laneTaken_90 kc_m1 ?_
      refine m_bind hf (fun y1 hy1 hf => ?_)
      refine cw_V_v (cix := 9) (As := [.ref (ho o1), .int x3, .int (-1 : Int32)]) (st := []) X Y kV_X9_35 (cc_9_look l dC dI E ev ho ro P S o1 x3 (-1 : Int32) h_o1 y1 hy1) ob_9 rfl ⟨Nat.le_of_ble_eq_true rfl, Nat.le_of_ble_eq_true rfl⟩ ⟨rfl, rfl⟩ (Nat.le_of_ble_eq_true rfl) ⟨Nat.le_of_ble_eq_true rfl, Nat.le_of_ble_eq_true rfl⟩ dX9_laneTaken_91 ?_
      refine g_aload_n X dX9_laneTaken_94 0 rfl ?_
      refine g_aload_nq (q := q2) X dX9_laneTaken_95 2 rfl ?_
      refine g_iconst X dX9_laneTaken_96 kc_0 ?_
      refine g_bipush X dX9_laneTaken_97 kb_99 ?_
      refine g_iconst X dX9_laneTaken_99 kc_0 ?_
      refine m_bind hf (fun y2 hy2 hf => ?_)
      refine cw_V_i (cix := 9) (As := [va_rf q2, .int (0 : Int32), .int (99 : Int32), .int (0 : Int32)]) (st := []) X Y kV_X9_39 (cc_9_tell l dC dI E ev ho ro F P y1.2 q2 (0 : Int32) (99 : Int32) (0 : Int32) y2 hy2) ob_9 rfl ⟨Nat.le_of_ble_eq_true rfl, Nat.le_of_ble_eq_true rfl⟩ ⟨rfl, rfl⟩ (Nat.le_of_ble_eq_true rfl) ⟨Nat.le_of_ble_eq_true rfl, Nat.le_of_ble_eq_true rfl⟩ dX9_laneTaken_100 ?_
      refine g_iload X dX9_laneTaken_103 4 rfl ?_
      obtain ⟨hz105, hf⟩ := chk_some hf
      refine g_irem X dX9_laneTaken_105 hz105 ?_
      refine g_istore (lv' := [(5, .int (y2.1 - y2.1 / x4 * x4)), (0, .ref (ho 11)), (1, .ref (ho o1)), (2, va_rf q2), (3, .int x3), (4, .int x4)]) X dX9_laneTaken_106 (by decide) rfl ?_
      refine g_iload X dX9_laneTaken_108 0 rfl ?_
      refine g_if_lt (tgt := 130) X dX9_laneTaken_110 (by decide) hf (fun hf => ?_) (fun hf => ?_)
      · refine g_iconst X dX9_laneTaken_130 kc_m1 ?_
        exact c_reti_s hA hQ X hr hlk dX9_laneTaken_131 hf
      refine g_iload X dX9_laneTaken_113 0 rfl ?_
      refine g_iload X dX9_laneTaken_115 5 rfl ?_
      refine g_icmp_ge (tgt := 130) X dX9_laneTaken_117 (by decide) hf (fun hf => ?_) (fun hf => ?_)
      · refine g_iconst X dX9_laneTaken_130 kc_m1 ?_
        exact c_reti_s hA hQ X hr hlk dX9_laneTaken_131 hf
      refine g_aload_n X dX9_laneTaken_120 1 rfl ?_
      refine cg_9_3 X wd1_224 dX9_laneTaken_121 ?_
      refine g_iload X dX9_laneTaken_124 0 rfl ?_
      refine ca_ld_9_3 X dX9_laneTaken_126 hf (fun hf => ?_)
      refine g_goto (tgt := 131) X dX9_laneTaken_127 (by decide) ?_
      exact c_reti_s hA hQ X hr hlk dX9_laneTaken_131 hf
    refine g_iconst X dX9_laneTaken_85 kc_m1 ?_
    exact c_reti_s hA hQ X hr hlk dX9_laneTaken_86 hf
  have hB74 : ∀ (q2 : Option Nat) (x3 : Int32) (k16 : CS → Int32 → Int32 → Option (Int32 × CS)) (hk16 : ∀ (S : CS) (x4 : Int32) (x5 : Int32), k16 S x4 x5 = some res → GG p l e rc_9_laneTaken s m args below meth c dC dI A 6 0 0 Q (CW E ho ro S ++ P) 16 [(0, .ref (ho 11)), (1, .ref (ho o1)), (2, va_rf q2), (3, .int x3), (4, .int x4), (5, .int x5)] []) (S : CS) (x4 : Int32) (x5 : Int32), C_9_laneTaken_B74 F E P o1 k16 S q2 x3 x4 x5 = some res → GG p l e rc_9_laneTaken s m args below meth c dC dI A 6 0 0 Q (CW E ho ro S ++ P) 74 [(0, .ref (ho 11)), (1, .ref (ho o1)), (2, va_rf q2), (3, .int x3), (4, .int x4), (5, .int x5)] [] := by
    intro q2 x3 k16 hk16 S x4 x5 hf
    unfold C_9_laneTaken_B74 at hf
    refine g_iinc (lv' := [(5, .int (x5 + (1 : Int32))), (0, .ref (ho 11)), (1, .ref (ho o1)), (2, va_rf q2), (3, .int x3), (4, .int x4)]) X dX9_laneTaken_74 5 rfl kc_1 (by decide) rfl ?_
    refine g_goto (tgt := 16) X dX9_laneTaken_77 (by decide) ?_
    refine g_lv [1, 2, 3, 4, 5, 0] (lv' := [(0, .ref (ho 11)), (1, .ref (ho o1)), (2, va_rf q2), (3, .int x3), (4, .int x4), (5, .int (x5 + (1 : Int32)))]) rfl ?_
    exact hk16 _ _ _ hf
  have hL16 : ∀ (q2 : Option Nat) (x3 : Int32) (n : Nat) (S : CS) (x4 : Int32) (x5 : Int32), C_9_laneTaken_L16 F E P o1 q2 x3 n S x4 x5 = some res → GG p l e rc_9_laneTaken s m args below meth c dC dI A 6 0 0 Q (CW E ho ro S ++ P) 16 [(0, .ref (ho 11)), (1, .ref (ho o1)), (2, va_rf q2), (3, .int x3), (4, .int x4), (5, .int x5)] [] := by
    intro q2 x3 n
    induction n with
    | zero => intro S x4 x5 hf; have hf : (none : Option (Int32 × CS)) = some res := hf; cases hf
    | succ n ih =>
      intro S x4 x5 hf
      rw [C_9_laneTaken_L16] at hf
      refine g_iload X dX9_laneTaken_16 5 rfl ?_
      refine g_aload_n X dX9_laneTaken_18 1 rfl ?_
      refine cg_7_5 X h_o1 wd1_61 dX9_laneTaken_19 ?_
      refine g_icmp_ge (tgt := 80) X dX9_laneTaken_22 (by decide) hf (fun hf => ?_) (fun hf => ?_)
      · refine g_lv [0, 1, 2, 3, 4] (lv' := [(0, .ref (ho 11)), (1, .ref (ho o1)), (2, va_rf q2), (3, .int x3), (4, .int x4)]) rfl ?_
        exact hB80 _ _ _ _ hf
      refine g_iload X dX9_laneTaken_25 4 rfl ?_
      refine g_aload_n X dX9_laneTaken_27 0 rfl ?_
      refine cg_9_3 X wd1_224 dX9_laneTaken_28 ?_
      refine ca_len_9_3 X kn_10 dX9_laneTaken_31 ?_
      refine g_icmp_ge (tgt := 80) X dX9_laneTaken_32 (by decide) hf (fun hf => ?_) (fun hf => ?_)
      · refine g_lv [0, 1, 2, 3, 4] (lv' := [(0, .ref (ho 11)), (1, .ref (ho o1)), (2, va_rf q2), (3, .int x3), (4, .int x4)]) rfl ?_
        exact hB80 _ _ _ _ hf
      refine g_aload_n X dX9_laneTaken_35 1 rfl ?_
      refine g_iload X dX9_laneTaken_36 5 rfl ?_
      refine g_aload_n X dX9_laneTaken_38 1 rfl ?_
      refine cg_7_7 X h_o1 wd1_67 dX9_laneTaken_39 ?_
      refine g_iload_n X dX9_laneTaken_42 3 rfl ?_
      refine ca_ld_7_7 X h_o1 dX9_laneTaken_43 hf (fun hf => ?_)
      refine m_bind hf (fun y3 hy3 hf => ?_)
      refine cw_V_i (cix := 7) (As := [.int x5, .int (ca S o1 7 (x3).toNatClampNeg)]) (st := []) X Y kV_X9_95 (cc_7_isEnd l dC dI E ev ho ro P S o1 x5 (ca S o1 7 (x3).toNatClampNeg) h_o1 y3 hy3) (ob_7 h_o1) rfl ⟨Nat.le_of_ble_eq_true rfl, Nat.le_of_ble_eq_true rfl⟩ ⟨rfl, rfl⟩ (Nat.le_of_ble_eq_true rfl) ⟨Nat.le_of_ble_eq_true rfl, Nat.le_of_ble_eq_true rfl⟩ dX9_laneTaken_44 ?_
      refine g_if_eq (tgt := 74) X dX9_laneTaken_47 (by decide) hf (fun hf => ?_) (fun hf => ?_)
      · exact hB74 _ _ _ ih _ _ _ hf
      refine g_aload_n X dX9_laneTaken_50 0 rfl ?_
      refine g_aload_n X dX9_laneTaken_51 1 rfl ?_
      refine g_aload_nq (q := q2) X dX9_laneTaken_52 2 rfl ?_
      refine g_iload_n X dX9_laneTaken_53 3 rfl ?_
      refine g_iload X dX9_laneTaken_54 5 rfl ?_
      refine m_bind hf (fun y4 hy4 hf => ?_)
      refine cw_V_i (cix := 9) (As := [.ref (ho o1), va_rf q2, .int x3, .int x5]) (st := []) X Y kV_X9_99 (cc_9_isBarred l dC dI E ev ho ro F P S o1 q2 x3 x5 h_o1 y4 hy4) ob_9 rfl ⟨Nat.le_of_ble_eq_true rfl, Nat.le_of_ble_eq_true rfl⟩ ⟨rfl, rfl⟩ (Nat.le_of_ble_eq_true rfl) ⟨Nat.le_of_ble_eq_true rfl, Nat.le_of_ble_eq_true rfl⟩ dX9_laneTaken_56 ?_
      refine g_if_ne (tgt := 74) X dX9_laneTaken_59 (by decide) hf (fun hf => ?_) (fun hf => ?_)
      · exact hB74 _ _ _ ih _ _ _ hf
      refine g_aload_n X dX9_laneTaken_62 0 rfl ?_
      refine cg_9_3 X wd1_224 dX9_laneTaken_63 ?_
      refine g_iload X dX9_laneTaken_66 4 rfl ?_
      refine g_iload X dX9_laneTaken_68 5 rfl ?_
      refine ca_st_9_3 X dX9_laneTaken_70 hf (fun S5 hf => ?_)
      refine g_iinc (lv' := [(4, .int (x4 + (1 : Int32))), (0, .ref (ho 11)), (1, .ref (ho o1)), (2, va_rf q2), (3, .int x3), (5, .int x5)]) X dX9_laneTaken_71 4 rfl kc_1 (by decide) rfl ?_
      refine g_lv [1, 2, 3, 4, 0, 5] (lv' := [(0, .ref (ho 11)), (1, .ref (ho o1)), (2, va_rf q2), (3, .int x3), (4, .int (x4 + (1 : Int32))), (5, .int x5)]) rfl ?_
      exact hB74 _ _ _ ih _ _ _ hf
  refine g_lv [0, 1, 2, 3] (lv' := [(0, .ref (ho 11)), (1, .ref (ho o1)), (2, va_rf q2), (3, .int x3)]) (by cases q2 <;> rfl) ?_
  unfold C_9_laneTaken at hf
  refine g_aload_n X dX9_laneTaken_0 1 rfl ?_
  refine g_iload_n X dX9_laneTaken_1 3 rfl ?_
  refine m_bind hf (fun y6 hy6 hf => ?_)
  refine cw_V_i (cix := 7) (As := [.int x3]) (st := []) X Y kV_X9_86 (cc_7_hasChild l dC dI E ev ho ro P S o1 x3 h_o1 y6 hy6) (ob_7 h_o1) rfl ⟨Nat.le_of_ble_eq_true rfl, Nat.le_of_ble_eq_true rfl⟩ ⟨rfl, rfl⟩ (Nat.le_of_ble_eq_true rfl) ⟨Nat.le_of_ble_eq_true rfl, Nat.le_of_ble_eq_true rfl⟩ dX9_laneTaken_2 ?_
  refine g_if_ne (tgt := 10) X dX9_laneTaken_5 (by decide) hf (fun hf => ?_) (fun hf => ?_)
  · refine g_iconst X dX9_laneTaken_10 kc_0 ?_
    refine g_istore (lv' := [(4, .int (0 : Int32)), (0, .ref (ho 11)), (1, .ref (ho o1)), (2, va_rf q2), (3, .int x3)]) X dX9_laneTaken_11 (by decide) rfl ?_
    refine g_iconst X dX9_laneTaken_13 kc_0 ?_
    refine g_istore (lv' := [(5, .int (0 : Int32)), (4, .int (0 : Int32)), (0, .ref (ho 11)), (1, .ref (ho o1)), (2, va_rf q2), (3, .int x3)]) X dX9_laneTaken_14 (by decide) rfl ?_
    refine g_lv [2, 3, 4, 5, 1, 0] (lv' := [(0, .ref (ho 11)), (1, .ref (ho o1)), (2, va_rf q2), (3, .int x3), (4, .int (0 : Int32)), (5, .int (0 : Int32))]) rfl ?_
    exact hL16 _ _ _ _ _ _ hf
  refine g_iconst X dX9_laneTaken_8 kc_m1 ?_
  exact c_reti_s hA hQ X hr hlk dX9_laneTaken_9 hf
def rc_9_follow : Room := { frames := 4, cells := 0, slots := 0, locals := 107 }
set_option maxRecDepth 100000 in
set_option maxHeartbeats 4000000 in
theorem cc_9_follow (l : Launch) (dC : Nat → ClassId) (dI : Nat → Nat → Nat) (E : Nat → ClassId) (ev : Nat → Nat) (ho : Nat → Nat) (ro : Nat → Nat → Nat) (F : Nat) (P : va_W) (S : CS) (o1 : Nat) (x2 : Int32) (x3 : Int32) (h_o1 : tw o1) (res : Unit × CS) (hf : C_9_follow F E P S o1 x2 x3 = some res) : CC l dC dI E ev yX9_follow cX9_follow 6 none rc_9_follow [.ref (ho 11), .ref (ho o1), .int x2, .int x3] (CW E ho ro S ++ P) (CW E ho ro res.2 ++ P) none := by
  refine CC_of (own := "LostLanes$Wits") (by decide) rfl (Nat.le_of_ble_eq_true rfl) ?_
  intro p e s m args below meth c A Q X Y hr hlk hA hQ
  have hB85 : ∀ (x2 : Int32) (x3 : Int32) (k35 : CS → Int32 → Option (Unit × CS)) (hk35 : ∀ (S : CS) (x4 : Int32), k35 S x4 = some res → GG p l e rc_9_follow s m args below meth c dC dI A 6 0 0 Q (CW E ho ro S ++ P) 35 [(0, .ref (ho 11)), (2, .int x2), (3, .int x3), (4, .int x4)] []) (S : CS) (x4 : Int32), C_9_follow_B85 F E P o1 k35 S x2 x3 x4 = some res → GG p l e rc_9_follow s m args below meth c dC dI A 6 0 0 Q (CW E ho ro S ++ P) 85 [(0, .ref (ho 11)), (2, .int x2), (3, .int x3), (4, .int x4)] [] := by
    intro x2 x3 k35 hk35 S x4 hf
    unfold C_9_follow_B85 at hf
    refine g_aload_n X dX9_follow_85 0 rfl ?_
    refine cg_9_1 X wd1_222 dX9_follow_86 ?_
    refine cg_7_12 X tw_4 wd1_83 dX9_follow_89 ?_
    refine g_iconst X dX9_follow_92 kc_0 ?_
    refine g_dup2 X dX9_follow_93 rfl rfl ?_
    refine ca_ldc_7_12 X tw_4 kt_0 kx_0_3 dX9_follow_94 ?_
    refine g_iconst X dX9_follow_95 kc_1 ?_
    refine g_iadd X dX9_follow_96 ?_
    refine ca_stc_7_12 X tw_4 kt_0 kx_0_3 dX9_follow_97 hf (fun S1 hf => ?_)
    refine g_aload_n X dX9_follow_98 0 rfl ?_
    refine cg_9_4 X wd1_225 dX9_follow_99 ?_
    refine g_iload X dX9_follow_102 3 rfl ?_
    refine g_aload_n X dX9_follow_104 0 rfl ?_
    refine cg_9_1 X wd1_222 dX9_follow_105 ?_
    refine cg_7_7 X tw_4 wd1_67 dX9_follow_108 ?_
    refine g_iload_n X dX9_follow_111 1 rfl ?_
    refine ca_ld_7_7 X tw_4 dX9_follow_112 hf (fun hf => ?_)
    refine ca_st_9_4 X dX9_follow_113 hf (fun S2 hf => ?_)
    refine g_iinc (lv' := [(4, .int (x4 + (1 : Int32))), (0, .ref (ho 11)), (2, .int x2), (3, .int x3)]) X dX9_follow_114 3 rfl kc_1 (by decide) rfl ?_
    refine g_goto (tgt := 35) X dX9_follow_117 (by decide) ?_
    refine g_lv [1, 2, 3, 0] (lv' := [(0, .ref (ho 11)), (2, .int x2), (3, .int x3), (4, .int (x4 + (1 : Int32)))]) rfl ?_
    exact hk35 _ _ hf
  have hL35 : ∀ (x2 : Int32) (x3 : Int32) (n : Nat) (S : CS) (x4 : Int32), C_9_follow_L35 F E P o1 x2 x3 n S x4 = some res → GG p l e rc_9_follow s m args below meth c dC dI A 6 0 0 Q (CW E ho ro S ++ P) 35 [(0, .ref (ho 11)), (2, .int x2), (3, .int x3), (4, .int x4)] [] := by
    intro x2 x3 n
    induction n with
    | zero => intro S x4 hf; have hf : (none : Option (Unit × CS)) = some res := hf; cases hf
    | succ n ih =>
      intro S x4 hf
      rw [C_9_follow_L35] at hf
      refine g_iload X dX9_follow_35 3 rfl ?_
      refine g_iload_n X dX9_follow_37 2 rfl ?_
      refine g_icmp_gt (tgt := 120) X dX9_follow_38 (by decide) hf (fun hf => ?_) (fun hf => ?_)
      · exact c_retv_s hA hQ X hr hlk dX9_follow_120 hf
      refine g_iload X dX9_follow_41 3 rfl ?_
      refine g_aload_n X dX9_follow_43 0 rfl ?_
      refine cg_9_4 X wd1_225 dX9_follow_44 ?_
      refine ca_len_9_4 X kn_61 dX9_follow_47 ?_
      refine g_icmp_ge (tgt := 120) X dX9_follow_48 (by decide) hf (fun hf => ?_) (fun hf => ?_)
      · exact c_retv_s hA hQ X hr hlk dX9_follow_120 hf
      refine g_aload_n X dX9_follow_51 0 rfl ?_
      refine g_aload_n X dX9_follow_52 0 rfl ?_
      refine cg_9_1 X wd1_222 dX9_follow_53 ?_
      refine g_aload_n X dX9_follow_56 0 rfl ?_
      refine cg_9_1 X wd1_222 dX9_follow_57 ?_
      refine m_bind hf (fun y3 hy3 hf => ?_)
      refine cw_V_q (cix := 7) (As := []) (st := [.ref (ho 4), .ref (ho 11)]) X Y kV_X9_43 (cc_7_lawInForce l dC dI E ev ho ro P S 4 tw_4 y3 hy3) (ob_7 tw_4) rfl ⟨Nat.le_of_ble_eq_true rfl, Nat.le_of_ble_eq_true rfl⟩ ⟨rfl, rfl⟩ (Nat.le_of_ble_eq_true rfl) ⟨Nat.le_of_ble_eq_true rfl, Nat.le_of_ble_eq_true rfl⟩ dX9_follow_60 ?_
      refine g_iload_n X dX9_follow_63 1 rfl ?_
      refine m_bind hf (fun y4 hy4 hf => ?_)
      refine cw_V_i (cix := 9) (As := [.ref (ho 4), va_rf y3, .int x2]) (st := []) X Y kV_X9_107 (cc_9_laneTaken l dC dI E ev ho ro F P S 4 y3 x2 tw_4 y4 hy4) ob_9 rfl ⟨Nat.le_of_ble_eq_true rfl, Nat.le_of_ble_eq_true rfl⟩ ⟨rfl, rfl⟩ (Nat.le_of_ble_eq_true rfl) ⟨Nat.le_of_ble_eq_true rfl, Nat.le_of_ble_eq_true rfl⟩ dX9_follow_64 ?_
      refine g_istore (lv' := [(5, .int y4.1), (0, .ref (ho 11)), (2, .int x2), (3, .int x3), (4, .int x4)]) X dX9_follow_67 (by decide) rfl ?_
      refine g_iload X dX9_follow_69 0 rfl ?_
      refine g_iconst X dX9_follow_71 kc_m1 ?_
      refine g_icmp_eq (tgt := 85) X dX9_follow_72 (by decide) hf (fun hf => ?_) (fun hf => ?_)
      · refine g_lv [1, 2, 3, 4] (lv' := [(0, .ref (ho 11)), (2, .int x2), (3, .int x3), (4, .int x4)]) rfl ?_
        exact hB85 _ _ _ ih _ _ hf
      refine g_aload_n X dX9_follow_75 1 rfl ?_
      refine cg_9_1 X wd1_222 dX9_follow_76 ?_
      refine g_iload_n X dX9_follow_79 2 rfl ?_
      refine g_iload X dX9_follow_80 0 rfl ?_
      refine m_bind hf (fun y5 hy5 hf => ?_)
      refine cw_V_v (cix := 7) (As := [.int x2, .int y4.1]) (st := []) X Y kV_X9_111 (cc_7_goAlong l dC dI E ev ho ro P y4.2 4 x2 y4.1 tw_4 y5 hy5) (ob_7 tw_4) rfl ⟨Nat.le_of_ble_eq_true rfl, Nat.le_of_ble_eq_true rfl⟩ ⟨rfl, rfl⟩ (Nat.le_of_ble_eq_true rfl) ⟨Nat.le_of_ble_eq_true rfl, Nat.le_of_ble_eq_true rfl⟩ dX9_follow_82 ?_
      refine g_lv [1, 2, 3, 4] (lv' := [(0, .ref (ho 11)), (2, .int x2), (3, .int x3), (4, .int x4)]) rfl ?_
      exact hB85 _ _ _ ih _ _ hf
  refine g_lv [0, 1, 2, 3] (lv' := [(0, .ref (ho 11)), (1, .ref (ho o1)), (2, .int x2), (3, .int x3)]) rfl ?_
  unfold C_9_follow at hf
  refine g_aload_n X dX9_follow_0 1 rfl ?_
  refine g_iload_n X dX9_follow_1 2 rfl ?_
  refine m_bind hf (fun y6 hy6 hf => ?_)
  refine cw_V_i (cix := 7) (As := [.int x2]) (st := []) X Y kV_X9_86 (cc_7_hasChild l dC dI E ev ho ro P S o1 x2 h_o1 y6 hy6) (ob_7 h_o1) rfl ⟨Nat.le_of_ble_eq_true rfl, Nat.le_of_ble_eq_true rfl⟩ ⟨rfl, rfl⟩ (Nat.le_of_ble_eq_true rfl) ⟨Nat.le_of_ble_eq_true rfl, Nat.le_of_ble_eq_true rfl⟩ dX9_follow_2 ?_
  refine g_if_ne (tgt := 9) X dX9_follow_5 (by decide) hf (fun hf => ?_) (fun hf => ?_)
  · refine g_aload_n X dX9_follow_9 0 rfl ?_
    refine cg_9_1 X wd1_222 dX9_follow_10 ?_
    refine g_aload_n X dX9_follow_13 1 rfl ?_
    refine m_bind hf (fun y7 hy7 hf => ?_)
    refine cw_V_v (cix := 7) (As := [.ref (ho o1)]) (st := []) X Y kV_X9_103 (cc_7_become l dC dI E ev ho ro F P S 4 o1 tw_4 h_o1 y7 hy7) (ob_7 tw_4) rfl ⟨Nat.le_of_ble_eq_true rfl, Nat.le_of_ble_eq_true rfl⟩ ⟨rfl, rfl⟩ (Nat.le_of_ble_eq_true rfl) ⟨Nat.le_of_ble_eq_true rfl, Nat.le_of_ble_eq_true rfl⟩ dX9_follow_14 ?_
    refine g_aload_n X dX9_follow_17 0 rfl ?_
    refine cg_9_4 X wd1_225 dX9_follow_18 ?_
    refine g_iconst X dX9_follow_21 kc_0 ?_
    refine g_aload_n X dX9_follow_22 0 rfl ?_
    refine cg_9_1 X wd1_222 dX9_follow_23 ?_
    refine cg_7_7 X tw_4 wd1_67 dX9_follow_26 ?_
    refine g_iload_n X dX9_follow_29 2 rfl ?_
    refine ca_ld_7_7 X tw_4 dX9_follow_30 hf (fun hf => ?_)
    refine ca_stc_9_4 X kt_0 kx_0_61 dX9_follow_31 hf (fun S8 hf => ?_)
    refine g_iconst X dX9_follow_32 kc_1 ?_
    refine g_istore (lv' := [(4, .int (1 : Int32)), (0, .ref (ho 11)), (1, .ref (ho o1)), (2, .int x2), (3, .int x3)]) X dX9_follow_33 (by decide) rfl ?_
    refine g_lv [1, 3, 4, 0] (lv' := [(0, .ref (ho 11)), (2, .int x2), (3, .int x3), (4, .int (1 : Int32))]) rfl ?_
    exact hL35 _ _ _ _ _ hf
  exact c_retv_s hA hQ X hr hlk dX9_follow_8 hf
def rc_10_accept : Room := { frames := 0, cells := 0, slots := 0, locals := 0 }
set_option maxRecDepth 100000 in
set_option maxHeartbeats 4000000 in
theorem cc_10_accept (l : Launch) (dC : Nat → ClassId) (dI : Nat → Nat → Nat) (E : Nat → ClassId) (ev : Nat → Nat) (ho : Nat → Nat) (ro : Nat → Nat → Nat) (P : va_W) (S : CS) (x1 : Int32)  (res : Int32 × CS) (hf : C_10_accept S x1 = some res) : CC l dC dI E ev yX10_accept cX10_accept 2 (some .int) rc_10_accept [.ref (ho 0), .int x1] (CW E ho ro S ++ P) (CW E ho ro res.2 ++ P) (some (.int res.1)) := by
  refine CC_of (own := "LostLanes") (by decide) rfl (Nat.le_of_ble_eq_true rfl) ?_
  intro p e s m args below meth c A Q X Y hr hlk hA hQ
  refine g_lv [0, 1] (lv' := [(0, .ref (ho 0)), (1, .int x1)]) rfl ?_
  unfold C_10_accept at hf
  refine g_aload_n X dX10_accept_0 0 rfl ?_
  refine g_iconst X dX10_accept_1 kc_0 ?_
  refine cp_10_15 X wd2_65 dX10_accept_2 hf (fun S1 hf => ?_)
  refine g_iload_n X dX10_accept_5 1 rfl ?_
  exact c_reti_s hA hQ X hr hlk dX10_accept_6 hf
def rc_10_canBeLane : Room := { frames := 1, cells := 0, slots := 0, locals := 20 }
set_option maxRecDepth 100000 in
set_option maxHeartbeats 4000000 in
theorem cc_10_canBeLane (l : Launch) (dC : Nat → ClassId) (dI : Nat → Nat → Nat) (E : Nat → ClassId) (ev : Nat → Nat) (ho : Nat → Nat) (ro : Nat → Nat → Nat) (P : va_W) (S : CS) (x0 : Int32) (x1 : Int32) (x2 : Int32) (x3 : Int32)  (res : Int32) (hf : C_10_canBeLane x0 x1 x2 x3 = some res) : CC l dC dI E ev yX10_canBeLane cX10_canBeLane 4 (some .boolean) rc_10_canBeLane [.int x0, .int x1, .int x2, .int x3] (CW E ho ro S ++ P) (CW E ho ro S ++ P) (some (.int res)) := by
  refine CC_of (own := "LostLanes") (by decide) rfl (Nat.le_of_ble_eq_true rfl) ?_
  intro p e s m args below meth c A Q X Y hr hlk hA hQ
  refine g_lv [0, 1, 2, 3] (lv' := [(0, .int x0), (1, .int x1), (2, .int x2), (3, .int x3)]) rfl ?_
  unfold C_10_canBeLane at hf
  refine g_iload_n X dX10_canBeLane_0 0 rfl ?_
  refine m_bind hf (fun y1 hy1 hf => ?_)
  refine cw_S_i (As := [.int x0]) (st := []) X Y kS_X10_129 (cc_10_isCorner l dC dI E ev ho ro P S x0 y1 hy1) ⟨Nat.le_of_ble_eq_true rfl, Nat.le_of_ble_eq_true rfl⟩ ⟨rfl, rfl⟩ (Nat.le_of_ble_eq_true rfl) ⟨Nat.le_of_ble_eq_true rfl, Nat.le_of_ble_eq_true rfl⟩ dX10_canBeLane_1 ?_
  refine g_if_eq (tgt := 43) X dX10_canBeLane_4 (by decide) hf (fun hf => ?_) (fun hf => ?_)
  · refine g_iconst X dX10_canBeLane_43 kc_0 ?_
    exact c_retz_o hA hQ X hr hlk (Or.inl rfl) dX10_canBeLane_44 hf
  refine g_iload_n X dX10_canBeLane_7 1 rfl ?_
  refine m_bind hf (fun y2 hy2 hf => ?_)
  refine cw_S_i (As := [.int x1]) (st := []) X Y kS_X10_129 (cc_10_isCorner l dC dI E ev ho ro P S x1 y2 hy2) ⟨Nat.le_of_ble_eq_true rfl, Nat.le_of_ble_eq_true rfl⟩ ⟨rfl, rfl⟩ (Nat.le_of_ble_eq_true rfl) ⟨Nat.le_of_ble_eq_true rfl, Nat.le_of_ble_eq_true rfl⟩ dX10_canBeLane_8 ?_
  refine g_if_eq (tgt := 43) X dX10_canBeLane_11 (by decide) hf (fun hf => ?_) (fun hf => ?_)
  · refine g_iconst X dX10_canBeLane_43 kc_0 ?_
    exact c_retz_o hA hQ X hr hlk (Or.inl rfl) dX10_canBeLane_44 hf
  refine g_iload_n X dX10_canBeLane_14 0 rfl ?_
  refine g_iload_n X dX10_canBeLane_15 1 rfl ?_
  refine g_icmp_eq (tgt := 43) X dX10_canBeLane_16 (by decide) hf (fun hf => ?_) (fun hf => ?_)
  · refine g_iconst X dX10_canBeLane_43 kc_0 ?_
    exact c_retz_o hA hQ X hr hlk (Or.inl rfl) dX10_canBeLane_44 hf
  refine g_iload_n X dX10_canBeLane_19 2 rfl ?_
  refine g_iconst X dX10_canBeLane_20 kc_1 ?_
  refine g_icmp_lt (tgt := 43) X dX10_canBeLane_21 (by decide) hf (fun hf => ?_) (fun hf => ?_)
  · refine g_iconst X dX10_canBeLane_43 kc_0 ?_
    exact c_retz_o hA hQ X hr hlk (Or.inl rfl) dX10_canBeLane_44 hf
  refine g_iload_n X dX10_canBeLane_24 2 rfl ?_
  refine g_bipush X dX10_canBeLane_25 kb_9 ?_
  refine g_icmp_gt (tgt := 43) X dX10_canBeLane_27 (by decide) hf (fun hf => ?_) (fun hf => ?_)
  · refine g_iconst X dX10_canBeLane_43 kc_0 ?_
    exact c_retz_o hA hQ X hr hlk (Or.inl rfl) dX10_canBeLane_44 hf
  refine g_iload_n X dX10_canBeLane_30 3 rfl ?_
  refine g_if_lt (tgt := 43) X dX10_canBeLane_31 (by decide) hf (fun hf => ?_) (fun hf => ?_)
  · refine g_iconst X dX10_canBeLane_43 kc_0 ?_
    exact c_retz_o hA hQ X hr hlk (Or.inl rfl) dX10_canBeLane_44 hf
  refine g_iload_n X dX10_canBeLane_34 3 rfl ?_
  refine g_iconst X dX10_canBeLane_35 kc_4 ?_
  refine g_icmp_gt (tgt := 43) X dX10_canBeLane_36 (by decide) hf (fun hf => ?_) (fun hf => ?_)
  · refine g_iconst X dX10_canBeLane_43 kc_0 ?_
    exact c_retz_o hA hQ X hr hlk (Or.inl rfl) dX10_canBeLane_44 hf
  refine g_iconst X dX10_canBeLane_39 kc_1 ?_
  refine g_goto (tgt := 44) X dX10_canBeLane_40 (by decide) ?_
  exact c_retz_o hA hQ X hr hlk (Or.inr rfl) dX10_canBeLane_44 hf
def rc_10_refuse : Room := { frames := 0, cells := 0, slots := 0, locals := 0 }
set_option maxRecDepth 100000 in
set_option maxHeartbeats 4000000 in
theorem cc_10_refuse (l : Launch) (dC : Nat → ClassId) (dI : Nat → Nat → Nat) (E : Nat → ClassId) (ev : Nat → Nat) (ho : Nat → Nat) (ro : Nat → Nat → Nat) (P : va_W) (S : CS) (x1 : Int32)  (res : Int32 × CS) (hf : C_10_refuse S x1 = some res) : CC l dC dI E ev yX10_refuse cX10_refuse 3 (some .int) rc_10_refuse [.ref (ho 0), .int x1] (CW E ho ro S ++ P) (CW E ho ro res.2 ++ P) (some (.int res.1)) := by
  refine CC_of (own := "LostLanes") (by decide) rfl (Nat.le_of_ble_eq_true rfl) ?_
  intro p e s m args below meth c A Q X Y hr hlk hA hQ
  refine g_lv [0, 1] (lv' := [(0, .ref (ho 0)), (1, .int x1)]) rfl ?_
  unfold C_10_refuse at hf
  refine g_aload_n X dX10_refuse_0 0 rfl ?_
  refine g_iload_n X dX10_refuse_1 1 rfl ?_
  refine cp_10_15 X wd2_65 dX10_refuse_2 hf (fun S1 hf => ?_)
  refine g_iload_n X dX10_refuse_5 1 rfl ?_
  refine g_ineg X dX10_refuse_6 ?_
  refine g_istore_n (i := 2) (lv' := [(2, .int (-x1)), (0, .ref (ho 0)), (1, .int x1)]) X dX10_refuse_7 rfl (by decide) rfl ?_
  refine g_iload_n X dX10_refuse_8 0 rfl ?_
  refine g_if_lt (tgt := 31) X dX10_refuse_9 (by decide) hf (fun hf => ?_) (fun hf => ?_)
  · refine g_iload_n X dX10_refuse_31 2 rfl ?_
    exact c_reti_s hA hQ X hr hlk dX10_refuse_32 hf
  refine g_iload_n X dX10_refuse_12 0 rfl ?_
  refine g_aload_n X dX10_refuse_13 1 rfl ?_
  refine cg_10_13 X wd2_63 dX10_refuse_14 ?_
  refine ca_len_10_13 X kn_7 dX10_refuse_17 ?_
  refine g_icmp_ge (tgt := 31) X dX10_refuse_18 (by decide) hf (fun hf => ?_) (fun hf => ?_)
  · refine g_iload_n X dX10_refuse_31 2 rfl ?_
    exact c_reti_s hA hQ X hr hlk dX10_refuse_32 hf
  refine g_aload_n X dX10_refuse_21 1 rfl ?_
  refine cg_10_13 X wd2_63 dX10_refuse_22 ?_
  refine g_iload_n X dX10_refuse_25 0 rfl ?_
  refine g_dup2 X dX10_refuse_26 rfl rfl ?_
  refine ca_ld_10_13 X dX10_refuse_27 hf (fun hf => ?_)
  refine g_iconst X dX10_refuse_28 kc_1 ?_
  refine g_iadd X dX10_refuse_29 ?_
  refine ca_st_10_13 X dX10_refuse_30 hf (fun S2 hf => ?_)
  refine g_iload_n X dX10_refuse_31 2 rfl ?_
  exact c_reti_s hA hQ X hr hlk dX10_refuse_32 hf
def rc_10_lane : Room := { frames := 2, cells := 0, slots := 0, locals := 43 }
set_option maxRecDepth 100000 in
set_option maxHeartbeats 4000000 in
theorem cc_10_lane (l : Launch) (dC : Nat → ClassId) (dI : Nat → Nat → Nat) (E : Nat → ClassId) (ev : Nat → Nat) (ho : Nat → Nat) (ro : Nat → Nat → Nat) (P : va_W) (S : CS) (x1 : Int32) (x2 : Int32) (x3 : Int32) (x4 : Int32)  (res : Int32 × CS) (hf : C_10_lane S x1 x2 x3 x4 = some res) : CC l dC dI E ev yX10_lane cX10_lane 5 (some .int) rc_10_lane [.ref (ho 0), .int x1, .int x2, .int x3, .int x4] (CW E ho ro S ++ P) (CW E ho ro res.2 ++ P) (some (.int res.1)) := by
  refine CC_of (own := "LostLanes") (by decide) rfl (Nat.le_of_ble_eq_true rfl) ?_
  intro p e s m args below meth c A Q X Y hr hlk hA hQ
  refine g_lv [0, 1, 2, 3, 4] (lv' := [(0, .ref (ho 0)), (1, .int x1), (2, .int x2), (3, .int x3), (4, .int x4)]) rfl ?_
  unfold C_10_lane at hf
  refine g_iload_n X dX10_lane_0 1 rfl ?_
  refine g_iload_n X dX10_lane_1 2 rfl ?_
  refine g_iload_n X dX10_lane_2 3 rfl ?_
  refine g_iload X dX10_lane_3 4 rfl ?_
  refine m_bind hf (fun y1 hy1 hf => ?_)
  refine cw_S_i (As := [.int x1, .int x2, .int x3, .int x4]) (st := []) X Y kS_X10_89 (cc_10_canBeLane l dC dI E ev ho ro P S x1 x2 x3 x4 y1 hy1) ⟨Nat.le_of_ble_eq_true rfl, Nat.le_of_ble_eq_true rfl⟩ ⟨rfl, rfl⟩ (Nat.le_of_ble_eq_true rfl) ⟨Nat.le_of_ble_eq_true rfl, Nat.le_of_ble_eq_true rfl⟩ dX10_lane_5 ?_
  refine g_if_ne (tgt := 17) X dX10_lane_8 (by decide) hf (fun hf => ?_) (fun hf => ?_)
  · refine g_aload_n X dX10_lane_17 0 rfl ?_
    refine cg_10_0 X wd2_50 dX10_lane_18 ?_
    refine cg_7_5 X tw_1 wd1_59 dX10_lane_21 ?_
    refine g_bipush X dX10_lane_24 kb_10 ?_
    refine g_icmp_lt (tgt := 36) X dX10_lane_26 (by decide) hf (fun hf => ?_) (fun hf => ?_)
    · refine g_aload_n X dX10_lane_36 0 rfl ?_
      refine cg_10_4 X wd2_54 dX10_lane_37 ?_
      refine g_iconst X dX10_lane_40 kc_0 ?_
      refine cp_1_2 X lg_7 wd1_134 dX10_lane_41 hf (fun S2 hf => ?_)
      refine g_aload_n X dX10_lane_44 0 rfl ?_
      refine g_aload_n X dX10_lane_45 0 rfl ?_
      refine cg_10_0 X wd2_50 dX10_lane_46 ?_
      refine g_iload_n X dX10_lane_49 1 rfl ?_
      refine g_iload_n X dX10_lane_50 2 rfl ?_
      refine g_iload_n X dX10_lane_51 3 rfl ?_
      refine g_iload X dX10_lane_52 4 rfl ?_
      refine m_bind hf (fun y3 hy3 hf => ?_)
      refine cw_V_i (cix := 7) (As := [.int x1, .int x2, .int x3, .int x4]) (st := [.ref (ho 0)]) X Y kV_X10_103 (cc_7_addLane l dC dI E ev ho ro P S2 1 x1 x2 x3 x4 tw_1 y3 hy3) (ob_7 tw_1) rfl ⟨Nat.le_of_ble_eq_true rfl, Nat.le_of_ble_eq_true rfl⟩ ⟨rfl, rfl⟩ (Nat.le_of_ble_eq_true rfl) ⟨Nat.le_of_ble_eq_true rfl, Nat.le_of_ble_eq_true rfl⟩ dX10_lane_54 ?_
      refine m_bind hf (fun y4 hy4 hf => ?_)
      refine cw_V_i (cix := 10) (As := [.int y3.1]) (st := []) X Y kV_X10_107 (cc_10_accept l dC dI E ev ho ro P y3.2 y3.1 y4 hy4) ob_10 rfl ⟨Nat.le_of_ble_eq_true rfl, Nat.le_of_ble_eq_true rfl⟩ ⟨rfl, rfl⟩ (Nat.le_of_ble_eq_true rfl) ⟨Nat.le_of_ble_eq_true rfl, Nat.le_of_ble_eq_true rfl⟩ dX10_lane_57 ?_
      exact c_reti_s hA hQ X hr hlk dX10_lane_60 hf
    refine g_aload_n X dX10_lane_29 0 rfl ?_
    refine g_bipush X dX10_lane_30 kb_m5 ?_
    refine m_bind hf (fun y5 hy5 hf => ?_)
    refine cw_V_i (cix := 10) (As := [.int (-5 : Int32)]) (st := []) X Y kV_X10_93 (cc_10_refuse l dC dI E ev ho ro P S (-5 : Int32) y5 hy5) ob_10 rfl ⟨Nat.le_of_ble_eq_true rfl, Nat.le_of_ble_eq_true rfl⟩ ⟨rfl, rfl⟩ (Nat.le_of_ble_eq_true rfl) ⟨Nat.le_of_ble_eq_true rfl, Nat.le_of_ble_eq_true rfl⟩ dX10_lane_32 ?_
    exact c_reti_s hA hQ X hr hlk dX10_lane_35 hf
  refine g_aload_n X dX10_lane_11 0 rfl ?_
  refine g_iconst X dX10_lane_12 kc_m1 ?_
  refine m_bind hf (fun y6 hy6 hf => ?_)
  refine cw_V_i (cix := 10) (As := [.int (-1 : Int32)]) (st := []) X Y kV_X10_93 (cc_10_refuse l dC dI E ev ho ro P S (-1 : Int32) y6 hy6) ob_10 rfl ⟨Nat.le_of_ble_eq_true rfl, Nat.le_of_ble_eq_true rfl⟩ ⟨rfl, rfl⟩ (Nat.le_of_ble_eq_true rfl) ⟨Nat.le_of_ble_eq_true rfl, Nat.le_of_ble_eq_true rfl⟩ dX10_lane_13 ?_
  exact c_reti_s hA hQ X hr hlk dX10_lane_16 hf
def rc_10_at : Room := { frames := 1, cells := 0, slots := 0, locals := 21 }
set_option maxRecDepth 100000 in
set_option maxHeartbeats 4000000 in
theorem cc_10_at (l : Launch) (dC : Nat → ClassId) (dI : Nat → Nat → Nat) (E : Nat → ClassId) (ev : Nat → Nat) (ho : Nat → Nat) (ro : Nat → Nat → Nat) (P : va_W) (S : CS) (x1 : Int32) (x2 : Int32)  (res : Int32) (hf : C_10_at S x1 x2 = some res) : CC l dC dI E ev yX10_at cX10_at 3 (some .int) rc_10_at [.ref (ho 0), .int x1, .int x2] (CW E ho ro S ++ P) (CW E ho ro S ++ P) (some (.int res)) := by
  refine CC_of (own := "LostLanes") (by decide) rfl (Nat.le_of_ble_eq_true rfl) ?_
  intro p e s m args below meth c A Q X Y hr hlk hA hQ
  refine g_lv [0, 1, 2] (lv' := [(0, .ref (ho 0)), (1, .int x1), (2, .int x2)]) rfl ?_
  unfold C_10_at at hf
  refine g_aload_n X dX10_at_0 0 rfl ?_
  refine cg_10_0 X wd2_50 dX10_at_1 ?_
  refine g_iload_n X dX10_at_4 1 rfl ?_
  refine m_bind hf (fun y1 hy1 hf => ?_)
  refine cw_V_i (cix := 7) (As := [.int x1]) (st := []) X Y kV_X10_110 (cc_7_hasLane l dC dI E ev ho ro P S 1 x1 tw_1 y1 hy1) (ob_7 tw_1) rfl ⟨Nat.le_of_ble_eq_true rfl, Nat.le_of_ble_eq_true rfl⟩ ⟨rfl, rfl⟩ (Nat.le_of_ble_eq_true rfl) ⟨Nat.le_of_ble_eq_true rfl, Nat.le_of_ble_eq_true rfl⟩ dX10_at_5 ?_
  refine g_if_ne (tgt := 13) X dX10_at_8 (by decide) hf (fun hf => ?_) (fun hf => ?_)
  · refine g_iload_n X dX10_at_13 2 rfl ?_
    refine g_ite hf (fun hs14_0 hf => ?_) (fun hs14_0 hf => ?_)
    · refine g_tsw (tgt := 48) (off := 34) X dX10_at_14 (by rw [hs14_0]; decide) (by rw [hs14_0]; decide) (by rw [hs14_0]; rfl) (by decide) ?_
      refine g_aload_n X dX10_at_48 0 rfl ?_
      refine cg_10_0 X wd2_50 dX10_at_49 ?_
      refine cg_7_0 X tw_1 wd1_39 dX10_at_52 ?_
      refine g_iload_n X dX10_at_55 1 rfl ?_
      refine ca_ld_7_0 X tw_1 dX10_at_56 hf (fun hf => ?_)
      exact c_reti_o hA hQ X hr hlk dX10_at_57 hf
    refine g_ite hf (fun hs14_1 hf => ?_) (fun hs14_1 hf => ?_)
    · refine g_tsw (tgt := 58) (off := 44) X dX10_at_14 (by rw [hs14_1]; decide) (by rw [hs14_1]; decide) (by rw [hs14_1]; rfl) (by decide) ?_
      refine g_aload_n X dX10_at_58 0 rfl ?_
      refine cg_10_0 X wd2_50 dX10_at_59 ?_
      refine cg_7_1 X tw_1 wd1_43 dX10_at_62 ?_
      refine g_iload_n X dX10_at_65 1 rfl ?_
      refine ca_ld_7_1 X tw_1 dX10_at_66 hf (fun hf => ?_)
      exact c_reti_o hA hQ X hr hlk dX10_at_67 hf
    refine g_ite hf (fun hs14_2 hf => ?_) (fun hs14_2 hf => ?_)
    · refine g_tsw (tgt := 68) (off := 54) X dX10_at_14 (by rw [hs14_2]; decide) (by rw [hs14_2]; decide) (by rw [hs14_2]; rfl) (by decide) ?_
      refine g_aload_n X dX10_at_68 0 rfl ?_
      refine cg_10_0 X wd2_50 dX10_at_69 ?_
      refine cg_7_2 X tw_1 wd1_47 dX10_at_72 ?_
      refine g_iload_n X dX10_at_75 1 rfl ?_
      refine ca_ld_7_2 X tw_1 dX10_at_76 hf (fun hf => ?_)
      exact c_reti_o hA hQ X hr hlk dX10_at_77 hf
    refine g_ite hf (fun hs14_3 hf => ?_) (fun hs14_3 hf => ?_)
    · refine g_tsw (tgt := 78) (off := 64) X dX10_at_14 (by rw [hs14_3]; decide) (by rw [hs14_3]; decide) (by rw [hs14_3]; rfl) (by decide) ?_
      refine g_aload_n X dX10_at_78 0 rfl ?_
      refine cg_10_0 X wd2_50 dX10_at_79 ?_
      refine cg_7_3 X tw_1 wd1_51 dX10_at_82 ?_
      refine g_iload_n X dX10_at_85 1 rfl ?_
      refine ca_ld_7_3 X tw_1 dX10_at_86 hf (fun hf => ?_)
      exact c_reti_o hA hQ X hr hlk dX10_at_87 hf
    refine g_ite hf (fun hs14_4 hf => ?_) (fun hs14_4 hf => ?_)
    · refine g_tsw (tgt := 88) (off := 74) X dX10_at_14 (by rw [hs14_4]; decide) (by rw [hs14_4]; decide) (by rw [hs14_4]; rfl) (by decide) ?_
      refine g_aload_n X dX10_at_88 0 rfl ?_
      refine cg_10_0 X wd2_50 dX10_at_89 ?_
      refine cg_7_4 X tw_1 wd1_54 dX10_at_92 ?_
      refine g_iload_n X dX10_at_95 1 rfl ?_
      refine ca_ld_7_4 X tw_1 dX10_at_96 hf (fun hf => ?_)
      exact c_reti_o hA hQ X hr hlk dX10_at_97 hf
    refine g_tswO (tgt := 98) X dX10_at_14 (g_out0_4 (lv_neT hs14_0 (by decide)) (lv_neT hs14_1 (by decide)) (lv_neT hs14_2 (by decide)) (lv_neT hs14_3 (by decide)) (lv_neT hs14_4 (by decide))) (by decide) ?_
    refine g_iconst X dX10_at_98 kc_m1 ?_
    exact c_reti_o hA hQ X hr hlk dX10_at_99 hf
  refine g_iconst X dX10_at_11 kc_m1 ?_
  exact c_reti_o hA hQ X hr hlk dX10_at_12 hf
def rc_10_child : Room := { frames := 1, cells := 0, slots := 0, locals := 22 }
set_option maxRecDepth 100000 in
set_option maxHeartbeats 4000000 in
theorem cc_10_child (l : Launch) (dC : Nat → ClassId) (dI : Nat → Nat → Nat) (E : Nat → ClassId) (ev : Nat → Nat) (ho : Nat → Nat) (ro : Nat → Nat → Nat) (P : va_W) (S : CS) (x1 : Int32) (x2 : Int32)  (res : Int32 × CS) (hf : C_10_child S x1 x2 = some res) : CC l dC dI E ev yX10_child cX10_child 3 (some .int) rc_10_child [.ref (ho 0), .int x1, .int x2] (CW E ho ro S ++ P) (CW E ho ro res.2 ++ P) (some (.int res.1)) := by
  refine CC_of (own := "LostLanes") (by decide) rfl (Nat.le_of_ble_eq_true rfl) ?_
  intro p e s m args below meth c A Q X Y hr hlk hA hQ
  have hB18 : ∀ (S : CS), C_10_child_B18 S = some res → GG p l e rc_10_child s m args below meth c dC dI A 3 0 0 Q (CW E ho ro S ++ P) 18 [(0, .ref (ho 0))] [] := by
    intro S hf
    unfold C_10_child_B18 at hf
    refine g_aload_n X dX10_child_18 0 rfl ?_
    refine g_iconst X dX10_child_19 kc_m1 ?_
    refine m_bind hf (fun y1 hy1 hf => ?_)
    refine cw_V_i (cix := 10) (As := [.int (-1 : Int32)]) (st := []) X Y kV_X10_93 (cc_10_refuse l dC dI E ev ho ro P S (-1 : Int32) y1 hy1) ob_10 rfl ⟨Nat.le_of_ble_eq_true rfl, Nat.le_of_ble_eq_true rfl⟩ ⟨rfl, rfl⟩ (Nat.le_of_ble_eq_true rfl) ⟨Nat.le_of_ble_eq_true rfl, Nat.le_of_ble_eq_true rfl⟩ dX10_child_20 ?_
    exact c_reti_s hA hQ X hr hlk dX10_child_23 hf
  refine g_lv [0, 1, 2] (lv' := [(0, .ref (ho 0)), (1, .int x1), (2, .int x2)]) rfl ?_
  unfold C_10_child at hf
  refine g_iload_n X dX10_child_0 1 rfl ?_
  refine g_iconst X dX10_child_1 kc_1 ?_
  refine g_icmp_lt (tgt := 18) X dX10_child_2 (by decide) hf (fun hf => ?_) (fun hf => ?_)
  · refine g_lv [0] (lv' := [(0, .ref (ho 0))]) rfl ?_
    exact hB18 _ hf
  refine g_iload_n X dX10_child_5 1 rfl ?_
  refine g_bipush X dX10_child_6 kb_9 ?_
  refine g_icmp_gt (tgt := 18) X dX10_child_8 (by decide) hf (fun hf => ?_) (fun hf => ?_)
  · refine g_lv [0] (lv' := [(0, .ref (ho 0))]) rfl ?_
    exact hB18 _ hf
  refine g_iload_n X dX10_child_11 2 rfl ?_
  refine m_bind hf (fun y2 hy2 hf => ?_)
  refine cw_S_i (As := [.int x2]) (st := []) X Y kS_X10_129 (cc_10_isCorner l dC dI E ev ho ro P S x2 y2 hy2) ⟨Nat.le_of_ble_eq_true rfl, Nat.le_of_ble_eq_true rfl⟩ ⟨rfl, rfl⟩ (Nat.le_of_ble_eq_true rfl) ⟨Nat.le_of_ble_eq_true rfl, Nat.le_of_ble_eq_true rfl⟩ dX10_child_12 ?_
  refine g_if_ne (tgt := 24) X dX10_child_15 (by decide) hf (fun hf => ?_) (fun hf => ?_)
  · refine g_aload_n X dX10_child_24 0 rfl ?_
    refine cg_10_0 X wd2_50 dX10_child_25 ?_
    refine cg_7_9 X tw_1 wd1_74 dX10_child_28 ?_
    refine g_iconst X dX10_child_31 kc_4 ?_
    refine g_icmp_lt (tgt := 42) X dX10_child_32 (by decide) hf (fun hf => ?_) (fun hf => ?_)
    · refine g_aload_n X dX10_child_42 0 rfl ?_
      refine cg_10_4 X wd2_54 dX10_child_43 ?_
      refine g_iconst X dX10_child_46 kc_0 ?_
      refine cp_1_2 X lg_7 wd1_134 dX10_child_47 hf (fun S3 hf => ?_)
      refine g_aload_n X dX10_child_50 0 rfl ?_
      refine g_aload_n X dX10_child_51 0 rfl ?_
      refine cg_10_0 X wd2_50 dX10_child_52 ?_
      refine g_iload_n X dX10_child_55 1 rfl ?_
      refine g_iload_n X dX10_child_56 2 rfl ?_
      refine m_bind hf (fun y4 hy4 hf => ?_)
      refine cw_V_i (cix := 7) (As := [.int x1, .int x2]) (st := [.ref (ho 0)]) X Y kV_X10_135 (cc_7_addChild l dC dI E ev ho ro P S3 1 x1 x2 tw_1 y4 hy4) (ob_7 tw_1) rfl ⟨Nat.le_of_ble_eq_true rfl, Nat.le_of_ble_eq_true rfl⟩ ⟨rfl, rfl⟩ (Nat.le_of_ble_eq_true rfl) ⟨Nat.le_of_ble_eq_true rfl, Nat.le_of_ble_eq_true rfl⟩ dX10_child_57 ?_
      refine m_bind hf (fun y5 hy5 hf => ?_)
      refine cw_V_i (cix := 10) (As := [.int y4.1]) (st := []) X Y kV_X10_107 (cc_10_accept l dC dI E ev ho ro P y4.2 y4.1 y5 hy5) ob_10 rfl ⟨Nat.le_of_ble_eq_true rfl, Nat.le_of_ble_eq_true rfl⟩ ⟨rfl, rfl⟩ (Nat.le_of_ble_eq_true rfl) ⟨Nat.le_of_ble_eq_true rfl, Nat.le_of_ble_eq_true rfl⟩ dX10_child_60 ?_
      exact c_reti_s hA hQ X hr hlk dX10_child_63 hf
    refine g_aload_n X dX10_child_35 0 rfl ?_
    refine g_bipush X dX10_child_36 kb_m5 ?_
    refine m_bind hf (fun y6 hy6 hf => ?_)
    refine cw_V_i (cix := 10) (As := [.int (-5 : Int32)]) (st := []) X Y kV_X10_93 (cc_10_refuse l dC dI E ev ho ro P S (-5 : Int32) y6 hy6) ob_10 rfl ⟨Nat.le_of_ble_eq_true rfl, Nat.le_of_ble_eq_true rfl⟩ ⟨rfl, rfl⟩ (Nat.le_of_ble_eq_true rfl) ⟨Nat.le_of_ble_eq_true rfl, Nat.le_of_ble_eq_true rfl⟩ dX10_child_38 ?_
    exact c_reti_s hA hQ X hr hlk dX10_child_41 hf
  refine g_lv [0] (lv' := [(0, .ref (ho 0))]) rfl ?_
  exact hB18 _ hf
def rc_10_of : Room := { frames := 4, cells := 0, slots := 0, locals := 107 }
set_option maxRecDepth 100000 in
set_option maxHeartbeats 4000000 in
theorem cc_10_of (l : Launch) (dC : Nat → ClassId) (dI : Nat → Nat → Nat) (E : Nat → ClassId) (ev : Nat → Nat) (ho : Nat → Nat) (ro : Nat → Nat → Nat) (F : Nat) (P : va_W) (S : CS) (x1 : Int32) (x2 : Int32)  (res : Int32 × CS) (hf : C_10_of F E P S x1 x2 = some res) : CC l dC dI E ev yX10_of cX10_of 3 (some .int) rc_10_of [.ref (ho 0), .int x1, .int x2] (CW E ho ro S ++ P) (CW E ho ro res.2 ++ P) (some (.int res.1)) := by
  refine CC_of (own := "LostLanes") (by decide) rfl (Nat.le_of_ble_eq_true rfl) ?_
  intro p e s m args below meth c A Q X Y hr hlk hA hQ
  refine g_lv [0, 1, 2] (lv' := [(0, .ref (ho 0)), (1, .int x1), (2, .int x2)]) rfl ?_
  unfold C_10_of at hf
  refine g_aload_n X dX10_of_0 0 rfl ?_
  refine cg_10_0 X wd2_50 dX10_of_1 ?_
  refine g_iload_n X dX10_of_4 1 rfl ?_
  refine m_bind hf (fun y1 hy1 hf => ?_)
  refine cw_V_i (cix := 7) (As := [.int x1]) (st := []) X Y kV_X10_139 (cc_7_hasChild l dC dI E ev ho ro P S 1 x1 tw_1 y1 hy1) (ob_7 tw_1) rfl ⟨Nat.le_of_ble_eq_true rfl, Nat.le_of_ble_eq_true rfl⟩ ⟨rfl, rfl⟩ (Nat.le_of_ble_eq_true rfl) ⟨Nat.le_of_ble_eq_true rfl, Nat.le_of_ble_eq_true rfl⟩ dX10_of_5 ?_
  refine g_if_ne (tgt := 13) X dX10_of_8 (by decide) hf (fun hf => ?_) (fun hf => ?_)
  · refine g_iload_n X dX10_of_13 2 rfl ?_
    refine g_ite hf (fun hs14_0 hf => ?_) (fun hs14_0 hf => ?_)
    · refine g_tsw (tgt := 48) (off := 34) X dX10_of_14 (by rw [hs14_0]; decide) (by rw [hs14_0]; decide) (by rw [hs14_0]; rfl) (by decide) ?_
      refine g_aload_n X dX10_of_48 0 rfl ?_
      refine cg_10_0 X wd2_50 dX10_of_49 ?_
      refine cg_7_6 X tw_1 wd1_63 dX10_of_52 ?_
      refine g_iload_n X dX10_of_55 1 rfl ?_
      refine ca_ld_7_6 X tw_1 dX10_of_56 hf (fun hf => ?_)
      exact c_reti_s hA hQ X hr hlk dX10_of_57 hf
    refine g_ite hf (fun hs14_1 hf => ?_) (fun hs14_1 hf => ?_)
    · refine g_tsw (tgt := 58) (off := 44) X dX10_of_14 (by rw [hs14_1]; decide) (by rw [hs14_1]; decide) (by rw [hs14_1]; rfl) (by decide) ?_
      refine g_aload_n X dX10_of_58 0 rfl ?_
      refine cg_10_0 X wd2_50 dX10_of_59 ?_
      refine cg_7_7 X tw_1 wd1_68 dX10_of_62 ?_
      refine g_iload_n X dX10_of_65 1 rfl ?_
      refine ca_ld_7_7 X tw_1 dX10_of_66 hf (fun hf => ?_)
      exact c_reti_s hA hQ X hr hlk dX10_of_67 hf
    refine g_ite hf (fun hs14_2 hf => ?_) (fun hs14_2 hf => ?_)
    · refine g_tsw (tgt := 68) (off := 54) X dX10_of_14 (by rw [hs14_2]; decide) (by rw [hs14_2]; decide) (by rw [hs14_2]; rfl) (by decide) ?_
      refine g_aload_n X dX10_of_68 0 rfl ?_
      refine cg_10_0 X wd2_50 dX10_of_69 ?_
      refine cg_7_8 X tw_1 wd1_71 dX10_of_72 ?_
      refine g_iload_n X dX10_of_75 1 rfl ?_
      refine ca_ld_7_8 X tw_1 dX10_of_76 hf (fun hf => ?_)
      exact c_reti_s hA hQ X hr hlk dX10_of_77 hf
    refine g_ite hf (fun hs14_3 hf => ?_) (fun hs14_3 hf => ?_)
    · refine g_tsw (tgt := 78) (off := 64) X dX10_of_14 (by rw [hs14_3]; decide) (by rw [hs14_3]; decide) (by rw [hs14_3]; rfl) (by decide) ?_
      refine g_aload_n X dX10_of_78 0 rfl ?_
      refine cg_10_8 X wd2_58 dX10_of_79 ?_
      refine g_aload_n X dX10_of_82 0 rfl ?_
      refine cg_10_0 X wd2_50 dX10_of_83 ?_
      refine g_aload_n X dX10_of_86 0 rfl ?_
      refine cg_10_0 X wd2_50 dX10_of_87 ?_
      refine m_bind hf (fun y2 hy2 hf => ?_)
      refine cw_V_q (cix := 7) (As := []) (st := [.ref (ho 1), .ref (ho 11)]) X Y kV_X10_151 (cc_7_lawInForce l dC dI E ev ho ro P S 1 tw_1 y2 hy2) (ob_7 tw_1) rfl ⟨Nat.le_of_ble_eq_true rfl, Nat.le_of_ble_eq_true rfl⟩ ⟨rfl, rfl⟩ (Nat.le_of_ble_eq_true rfl) ⟨Nat.le_of_ble_eq_true rfl, Nat.le_of_ble_eq_true rfl⟩ dX10_of_90 ?_
      refine g_iload_n X dX10_of_93 1 rfl ?_
      refine m_bind hf (fun y3 hy3 hf => ?_)
      refine cw_V_i (cix := 9) (As := [.ref (ho 1), va_rf y2, .int x1]) (st := []) X Y kV_X10_155 (cc_9_turnOf l dC dI E ev ho ro F P S 1 y2 x1 tw_1 y3 hy3) ob_9 rfl ⟨Nat.le_of_ble_eq_true rfl, Nat.le_of_ble_eq_true rfl⟩ ⟨rfl, rfl⟩ (Nat.le_of_ble_eq_true rfl) ⟨Nat.le_of_ble_eq_true rfl, Nat.le_of_ble_eq_true rfl⟩ dX10_of_94 ?_
      exact c_reti_s hA hQ X hr hlk dX10_of_97 hf
    refine g_ite hf (fun hs14_4 hf => ?_) (fun hs14_4 hf => ?_)
    · refine g_tsw (tgt := 98) (off := 84) X dX10_of_14 (by rw [hs14_4]; decide) (by rw [hs14_4]; decide) (by rw [hs14_4]; rfl) (by decide) ?_
      refine g_aload_n X dX10_of_98 0 rfl ?_
      refine cg_10_8 X wd2_58 dX10_of_99 ?_
      refine g_aload_n X dX10_of_102 0 rfl ?_
      refine cg_10_0 X wd2_50 dX10_of_103 ?_
      refine g_aload_n X dX10_of_106 0 rfl ?_
      refine cg_10_0 X wd2_50 dX10_of_107 ?_
      refine m_bind hf (fun y4 hy4 hf => ?_)
      refine cw_V_q (cix := 7) (As := []) (st := [.ref (ho 1), .ref (ho 11)]) X Y kV_X10_151 (cc_7_lawInForce l dC dI E ev ho ro P S 1 tw_1 y4 hy4) (ob_7 tw_1) rfl ⟨Nat.le_of_ble_eq_true rfl, Nat.le_of_ble_eq_true rfl⟩ ⟨rfl, rfl⟩ (Nat.le_of_ble_eq_true rfl) ⟨Nat.le_of_ble_eq_true rfl, Nat.le_of_ble_eq_true rfl⟩ dX10_of_110 ?_
      refine g_iload_n X dX10_of_113 1 rfl ?_
      refine m_bind hf (fun y5 hy5 hf => ?_)
      refine cw_V_i (cix := 9) (As := [.ref (ho 1), va_rf y4, .int x1]) (st := []) X Y kV_X10_159 (cc_9_laneTaken l dC dI E ev ho ro F P S 1 y4 x1 tw_1 y5 hy5) ob_9 rfl ⟨Nat.le_of_ble_eq_true rfl, Nat.le_of_ble_eq_true rfl⟩ ⟨rfl, rfl⟩ (Nat.le_of_ble_eq_true rfl) ⟨Nat.le_of_ble_eq_true rfl, Nat.le_of_ble_eq_true rfl⟩ dX10_of_114 ?_
      exact c_reti_s hA hQ X hr hlk dX10_of_117 hf
    refine g_tswO (tgt := 118) X dX10_of_14 (g_out0_4 (lv_neT hs14_0 (by decide)) (lv_neT hs14_1 (by decide)) (lv_neT hs14_2 (by decide)) (lv_neT hs14_3 (by decide)) (lv_neT hs14_4 (by decide))) (by decide) ?_
    refine g_iconst X dX10_of_118 kc_m1 ?_
    exact c_reti_s hA hQ X hr hlk dX10_of_119 hf
  refine g_iconst X dX10_of_11 kc_m1 ?_
  exact c_reti_s hA hQ X hr hlk dX10_of_12 hf
def rc_10_asks : Room := { frames := 4, cells := 0, slots := 0, locals := 105 }
set_option maxRecDepth 100000 in
set_option maxHeartbeats 4000000 in
theorem cc_10_asks (l : Launch) (dC : Nat → ClassId) (dI : Nat → Nat → Nat) (E : Nat → ClassId) (ev : Nat → Nat) (ho : Nat → Nat) (ro : Nat → Nat → Nat) (F : Nat) (P : va_W) (S : CS) (x1 : Int32) (x2 : Int32) (x3 : Int32)  (res : Int32 × CS) (hf : C_10_asks F E P S x1 x2 x3 = some res) : CC l dC dI E ev yX10_asks cX10_asks 4 (some .int) rc_10_asks [.ref (ho 0), .int x1, .int x2, .int x3] (CW E ho ro S ++ P) (CW E ho ro res.2 ++ P) (some (.int res.1)) := by
  refine CC_of (own := "LostLanes") (by decide) rfl (Nat.le_of_ble_eq_true rfl) ?_
  intro p e s m args below meth c A Q X Y hr hlk hA hQ
  refine g_lv [0, 1, 2, 3] (lv' := [(0, .ref (ho 0)), (1, .int x1), (2, .int x2), (3, .int x3)]) rfl ?_
  unfold C_10_asks at hf
  refine g_aload_n X dX10_asks_0 0 rfl ?_
  refine cg_10_0 X wd2_50 dX10_asks_1 ?_
  refine g_iload_n X dX10_asks_4 1 rfl ?_
  refine m_bind hf (fun y1 hy1 hf => ?_)
  refine cw_V_i (cix := 7) (As := [.int x1]) (st := []) X Y kV_X10_139 (cc_7_hasChild l dC dI E ev ho ro P S 1 x1 tw_1 y1 hy1) (ob_7 tw_1) rfl ⟨Nat.le_of_ble_eq_true rfl, Nat.le_of_ble_eq_true rfl⟩ ⟨rfl, rfl⟩ (Nat.le_of_ble_eq_true rfl) ⟨Nat.le_of_ble_eq_true rfl, Nat.le_of_ble_eq_true rfl⟩ dX10_asks_5 ?_
  refine g_if_eq (tgt := 22) X dX10_asks_8 (by decide) hf (fun hf => ?_) (fun hf => ?_)
  · refine g_iconst X dX10_asks_22 kc_m1 ?_
    exact c_reti_s hA hQ X hr hlk dX10_asks_23 hf
  refine g_aload_n X dX10_asks_11 0 rfl ?_
  refine cg_10_0 X wd2_50 dX10_asks_12 ?_
  refine g_iload_n X dX10_asks_15 2 rfl ?_
  refine m_bind hf (fun y2 hy2 hf => ?_)
  refine cw_V_i (cix := 7) (As := [.int x2]) (st := []) X Y kV_X10_110 (cc_7_hasLane l dC dI E ev ho ro P S 1 x2 tw_1 y2 hy2) (ob_7 tw_1) rfl ⟨Nat.le_of_ble_eq_true rfl, Nat.le_of_ble_eq_true rfl⟩ ⟨rfl, rfl⟩ (Nat.le_of_ble_eq_true rfl) ⟨Nat.le_of_ble_eq_true rfl, Nat.le_of_ble_eq_true rfl⟩ dX10_asks_16 ?_
  refine g_if_ne (tgt := 24) X dX10_asks_19 (by decide) hf (fun hf => ?_) (fun hf => ?_)
  · refine g_iload_n X dX10_asks_24 3 rfl ?_
    refine g_if_ne (tgt := 42) X dX10_asks_25 (by decide) hf (fun hf => ?_) (fun hf => ?_)
    · refine g_iload_n X dX10_asks_42 3 rfl ?_
      refine g_iconst X dX10_asks_43 kc_1 ?_
      refine g_icmp_ne (tgt := 76) X dX10_asks_44 (by decide) hf (fun hf => ?_) (fun hf => ?_)
      · refine g_iconst X dX10_asks_76 kc_m1 ?_
        exact c_reti_s hA hQ X hr hlk dX10_asks_77 hf
      refine g_aload_n X dX10_asks_47 0 rfl ?_
      refine cg_10_8 X wd2_58 dX10_asks_48 ?_
      refine g_aload_n X dX10_asks_51 0 rfl ?_
      refine cg_10_0 X wd2_50 dX10_asks_52 ?_
      refine g_aload_n X dX10_asks_55 0 rfl ?_
      refine cg_10_0 X wd2_50 dX10_asks_56 ?_
      refine m_bind hf (fun y3 hy3 hf => ?_)
      refine cw_V_q (cix := 7) (As := []) (st := [.ref (ho 1), .ref (ho 11)]) X Y kV_X10_151 (cc_7_lawInForce l dC dI E ev ho ro P S 1 tw_1 y3 hy3) (ob_7 tw_1) rfl ⟨Nat.le_of_ble_eq_true rfl, Nat.le_of_ble_eq_true rfl⟩ ⟨rfl, rfl⟩ (Nat.le_of_ble_eq_true rfl) ⟨Nat.le_of_ble_eq_true rfl, Nat.le_of_ble_eq_true rfl⟩ dX10_asks_59 ?_
      refine g_iload_n X dX10_asks_62 1 rfl ?_
      refine g_iload_n X dX10_asks_63 2 rfl ?_
      refine m_bind hf (fun y4 hy4 hf => ?_)
      refine cw_V_i (cix := 9) (As := [.ref (ho 1), va_rf y3, .int x1, .int x2]) (st := []) X Y kV_X10_166 (cc_9_isBarred l dC dI E ev ho ro F P S 1 y3 x1 x2 tw_1 y4 hy4) ob_9 rfl ⟨Nat.le_of_ble_eq_true rfl, Nat.le_of_ble_eq_true rfl⟩ ⟨rfl, rfl⟩ (Nat.le_of_ble_eq_true rfl) ⟨Nat.le_of_ble_eq_true rfl, Nat.le_of_ble_eq_true rfl⟩ dX10_asks_64 ?_
      refine g_if_eq (tgt := 74) X dX10_asks_67 (by decide) hf (fun hf => ?_) (fun hf => ?_)
      · refine g_iconst X dX10_asks_74 kc_0 ?_
        exact c_reti_s hA hQ X hr hlk dX10_asks_75 hf
      refine g_iconst X dX10_asks_70 kc_1 ?_
      refine g_goto (tgt := 75) X dX10_asks_71 (by decide) ?_
      exact c_reti_s hA hQ X hr hlk dX10_asks_75 hf
    refine g_aload_n X dX10_asks_28 0 rfl ?_
    refine cg_10_8 X wd2_58 dX10_asks_29 ?_
    refine g_aload_n X dX10_asks_32 0 rfl ?_
    refine cg_10_0 X wd2_50 dX10_asks_33 ?_
    refine g_iload_n X dX10_asks_36 1 rfl ?_
    refine g_iload_n X dX10_asks_37 2 rfl ?_
    refine m_bind hf (fun y5 hy5 hf => ?_)
    refine cw_V_i (cix := 9) (As := [.ref (ho 1), .int x1, .int x2]) (st := []) X Y kV_X10_162 (cc_9_nameSaid l dC dI E ev ho ro F P S 1 x1 x2 tw_1 y5 hy5) ob_9 rfl ⟨Nat.le_of_ble_eq_true rfl, Nat.le_of_ble_eq_true rfl⟩ ⟨rfl, rfl⟩ (Nat.le_of_ble_eq_true rfl) ⟨Nat.le_of_ble_eq_true rfl, Nat.le_of_ble_eq_true rfl⟩ dX10_asks_38 ?_
    exact c_reti_s hA hQ X hr hlk dX10_asks_41 hf
  refine g_iconst X dX10_asks_22 kc_m1 ?_
  exact c_reti_s hA hQ X hr hlk dX10_asks_23 hf
def rc_10_terms : Room := { frames := 1, cells := 0, slots := 0, locals := 22 }
set_option maxRecDepth 100000 in
set_option maxHeartbeats 4000000 in
theorem cc_10_terms (l : Launch) (dC : Nat → ClassId) (dI : Nat → Nat → Nat) (E : Nat → ClassId) (ev : Nat → Nat) (ho : Nat → Nat) (ro : Nat → Nat → Nat) (P : va_W) (S : CS) (x1 : Int32) (x2 : Int32)  (res : Int32 × CS) (hf : C_10_terms S x1 x2 = some res) : CC l dC dI E ev yX10_terms cX10_terms 4 (some .int) rc_10_terms [.ref (ho 0), .int x1, .int x2] (CW E ho ro S ++ P) (CW E ho ro res.2 ++ P) (some (.int res.1)) := by
  refine CC_of (own := "LostLanes") (by decide) rfl (Nat.le_of_ble_eq_true rfl) ?_
  intro p e s m args below meth c A Q X Y hr hlk hA hQ
  have hB25 : ∀ (S : CS), C_10_terms_B25 S = some res → GG p l e rc_10_terms s m args below meth c dC dI A 4 0 0 Q (CW E ho ro S ++ P) 25 [(0, .ref (ho 0))] [] := by
    intro S hf
    unfold C_10_terms_B25 at hf
    refine g_aload_n X dX10_terms_25 0 rfl ?_
    refine g_iconst X dX10_terms_26 kc_m1 ?_
    refine m_bind hf (fun y1 hy1 hf => ?_)
    refine cw_V_i (cix := 10) (As := [.int (-1 : Int32)]) (st := []) X Y kV_X10_93 (cc_10_refuse l dC dI E ev ho ro P S (-1 : Int32) y1 hy1) ob_10 rfl ⟨Nat.le_of_ble_eq_true rfl, Nat.le_of_ble_eq_true rfl⟩ ⟨rfl, rfl⟩ (Nat.le_of_ble_eq_true rfl) ⟨Nat.le_of_ble_eq_true rfl, Nat.le_of_ble_eq_true rfl⟩ dX10_terms_27 ?_
    exact c_reti_s hA hQ X hr hlk dX10_terms_30 hf
  refine g_lv [0, 1, 2] (lv' := [(0, .ref (ho 0)), (1, .int x1), (2, .int x2)]) rfl ?_
  unfold C_10_terms at hf
  refine g_iload_n X dX10_terms_0 1 rfl ?_
  refine g_if_lt (tgt := 25) X dX10_terms_1 (by decide) hf (fun hf => ?_) (fun hf => ?_)
  · refine g_lv [0] (lv' := [(0, .ref (ho 0))]) rfl ?_
    exact hB25 _ hf
  refine g_iload_n X dX10_terms_4 1 rfl ?_
  refine s_most X Y wd2_228 dX10_terms_5 ?_
  refine s_mlen X Y dX10_terms_8 ?_
  refine g_icmp_ge (tgt := 25) X dX10_terms_9 (by decide) hf (fun hf => ?_) (fun hf => ?_)
  · refine g_lv [0] (lv' := [(0, .ref (ho 0))]) rfl ?_
    exact hB25 _ hf
  refine g_iload_n X dX10_terms_12 2 rfl ?_
  refine g_if_lt (tgt := 25) X dX10_terms_13 (by decide) hf (fun hf => ?_) (fun hf => ?_)
  · refine g_lv [0] (lv' := [(0, .ref (ho 0))]) rfl ?_
    exact hB25 _ hf
  refine g_iload_n X dX10_terms_16 2 rfl ?_
  refine s_most X Y wd2_228 dX10_terms_17 ?_
  refine g_iload_n X dX10_terms_20 1 rfl ?_
  refine s_mld X Y dX10_terms_21 hf (fun hf => ?_)
  refine g_icmp_le (tgt := 31) X dX10_terms_22 (by decide) hf (fun hf => ?_) (fun hf => ?_)
  · refine g_aload_n X dX10_terms_31 0 rfl ?_
    refine cg_10_0 X wd2_50 dX10_terms_32 ?_
    refine cg_7_12 X tw_1 wd1_84 dX10_terms_35 ?_
    refine g_iload_n X dX10_terms_38 1 rfl ?_
    refine ca_ld_7_12 X tw_1 dX10_terms_39 hf (fun hf => ?_)
    refine g_istore_n (i := 3) (lv' := [(3, .int (ca S 1 12 (x1).toNatClampNeg)), (0, .ref (ho 0)), (1, .int x1), (2, .int x2)]) X dX10_terms_40 rfl (by decide) rfl ?_
    refine g_aload_n X dX10_terms_41 1 rfl ?_
    refine cg_10_0 X wd2_50 dX10_terms_42 ?_
    refine cg_7_12 X tw_1 wd1_84 dX10_terms_45 ?_
    refine g_iload_n X dX10_terms_48 2 rfl ?_
    refine g_iload_n X dX10_terms_49 3 rfl ?_
    refine ca_st_7_12 X tw_1 dX10_terms_50 hf (fun S2 hf => ?_)
    refine g_aload_n X dX10_terms_51 1 rfl ?_
    refine cg_10_4 X wd2_54 dX10_terms_52 ?_
    refine g_iconst X dX10_terms_55 kc_0 ?_
    refine cp_1_2 X lg_7 wd1_134 dX10_terms_56 hf (fun S3 hf => ?_)
    refine g_aload_n X dX10_terms_59 1 rfl ?_
    refine g_iload_n X dX10_terms_60 0 rfl ?_
    refine m_bind hf (fun y4 hy4 hf => ?_)
    refine cw_V_i (cix := 10) (As := [.int (ca S 1 12 (x1).toNatClampNeg)]) (st := []) X Y kV_X10_107 (cc_10_accept l dC dI E ev ho ro P S3 (ca S 1 12 (x1).toNatClampNeg) y4 hy4) ob_10 rfl ⟨Nat.le_of_ble_eq_true rfl, Nat.le_of_ble_eq_true rfl⟩ ⟨rfl, rfl⟩ (Nat.le_of_ble_eq_true rfl) ⟨Nat.le_of_ble_eq_true rfl, Nat.le_of_ble_eq_true rfl⟩ dX10_terms_61 ?_
    exact c_reti_s hA hQ X hr hlk dX10_terms_64 hf
  refine g_lv [0] (lv' := [(0, .ref (ho 0))]) rfl ?_
  exact hB25 _ hf
def rc_10_feed : Room := { frames := 1, cells := 0, slots := 0, locals := 22 }
set_option maxRecDepth 100000 in
set_option maxHeartbeats 4000000 in
theorem cc_10_feed (l : Launch) (dC : Nat → ClassId) (dI : Nat → Nat → Nat) (E : Nat → ClassId) (ev : Nat → Nat) (ho : Nat → Nat) (ro : Nat → Nat → Nat) (F : Nat) (P : va_W) (S : CS) (x1 : Int32) (x2 : Int32) (x3 : Int32) (x4 : Int32) (x5 : Int32)  (res : Int32 × CS) (hf : C_10_feed F S x1 x2 x3 x4 x5 = some res) : CC l dC dI E ev yX10_feed cX10_feed 6 (some .int) rc_10_feed [.ref (ho 0), .int x1, .int x2, .int x3, .int x4, .int x5] (CW E ho ro S ++ P) (CW E ho ro res.2 ++ P) (some (.int res.1)) := by
  refine CC_of (own := "LostLanes") (by decide) rfl (Nat.le_of_ble_eq_true rfl) ?_
  intro p e s m args below meth c A Q X Y hr hlk hA hQ
  refine g_lv [0, 1, 2, 3, 4, 5] (lv' := [(0, .ref (ho 0)), (1, .int x1), (2, .int x2), (3, .int x3), (4, .int x4), (5, .int x5)]) rfl ?_
  unfold C_10_feed at hf
  refine g_aload_n X dX10_feed_0 0 rfl ?_
  refine cg_10_7 X wd2_57 dX10_feed_1 ?_
  refine cg_6_1 X wd1_159 dX10_feed_4 ?_
  refine g_bipush X dX10_feed_7 kb_20 ?_
  refine g_iadd X dX10_feed_9 ?_
  refine g_sipush X dX10_feed_10 ks_400 ?_
  refine g_icmp_le (tgt := 18) X dX10_feed_13 (by decide) hf (fun hf => ?_) (fun hf => ?_)
  · refine g_aload_n X dX10_feed_18 0 rfl ?_
    refine cg_10_7 X wd2_57 dX10_feed_19 ?_
    refine g_iload_n X dX10_feed_22 1 rfl ?_
    refine m_bind hf (fun y1 hy1 hf => ?_)
    refine cw_V_v (cix := 6) (As := [.int x1]) (st := []) X Y kV_X10_181 (cc_6_addFour l dC dI E ev ho ro F P S x1 y1 hy1) ob_6 rfl ⟨Nat.le_of_ble_eq_true rfl, Nat.le_of_ble_eq_true rfl⟩ ⟨rfl, rfl⟩ (Nat.le_of_ble_eq_true rfl) ⟨Nat.le_of_ble_eq_true rfl, Nat.le_of_ble_eq_true rfl⟩ dX10_feed_23 ?_
    refine g_aload_n X dX10_feed_26 0 rfl ?_
    refine cg_10_7 X wd2_57 dX10_feed_27 ?_
    refine g_iload_n X dX10_feed_30 2 rfl ?_
    refine m_bind hf (fun y2 hy2 hf => ?_)
    refine cw_V_v (cix := 6) (As := [.int x2]) (st := []) X Y kV_X10_181 (cc_6_addFour l dC dI E ev ho ro F P y1.2 x2 y2 hy2) ob_6 rfl ⟨Nat.le_of_ble_eq_true rfl, Nat.le_of_ble_eq_true rfl⟩ ⟨rfl, rfl⟩ (Nat.le_of_ble_eq_true rfl) ⟨Nat.le_of_ble_eq_true rfl, Nat.le_of_ble_eq_true rfl⟩ dX10_feed_31 ?_
    refine g_aload_n X dX10_feed_34 0 rfl ?_
    refine cg_10_7 X wd2_57 dX10_feed_35 ?_
    refine g_iload_n X dX10_feed_38 3 rfl ?_
    refine m_bind hf (fun y3 hy3 hf => ?_)
    refine cw_V_v (cix := 6) (As := [.int x3]) (st := []) X Y kV_X10_181 (cc_6_addFour l dC dI E ev ho ro F P y2.2 x3 y3 hy3) ob_6 rfl ⟨Nat.le_of_ble_eq_true rfl, Nat.le_of_ble_eq_true rfl⟩ ⟨rfl, rfl⟩ (Nat.le_of_ble_eq_true rfl) ⟨Nat.le_of_ble_eq_true rfl, Nat.le_of_ble_eq_true rfl⟩ dX10_feed_39 ?_
    refine g_aload_n X dX10_feed_42 0 rfl ?_
    refine cg_10_7 X wd2_57 dX10_feed_43 ?_
    refine g_iload X dX10_feed_46 4 rfl ?_
    refine m_bind hf (fun y4 hy4 hf => ?_)
    refine cw_V_v (cix := 6) (As := [.int x4]) (st := []) X Y kV_X10_181 (cc_6_addFour l dC dI E ev ho ro F P y3.2 x4 y4 hy4) ob_6 rfl ⟨Nat.le_of_ble_eq_true rfl, Nat.le_of_ble_eq_true rfl⟩ ⟨rfl, rfl⟩ (Nat.le_of_ble_eq_true rfl) ⟨Nat.le_of_ble_eq_true rfl, Nat.le_of_ble_eq_true rfl⟩ dX10_feed_48 ?_
    refine g_aload_n X dX10_feed_51 0 rfl ?_
    refine cg_10_7 X wd2_57 dX10_feed_52 ?_
    refine g_iload X dX10_feed_55 5 rfl ?_
    refine m_bind hf (fun y5 hy5 hf => ?_)
    refine cw_V_v (cix := 6) (As := [.int x5]) (st := []) X Y kV_X10_181 (cc_6_addFour l dC dI E ev ho ro F P y4.2 x5 y5 hy5) ob_6 rfl ⟨Nat.le_of_ble_eq_true rfl, Nat.le_of_ble_eq_true rfl⟩ ⟨rfl, rfl⟩ (Nat.le_of_ble_eq_true rfl) ⟨Nat.le_of_ble_eq_true rfl, Nat.le_of_ble_eq_true rfl⟩ dX10_feed_57 ?_
    refine g_aload_n X dX10_feed_60 0 rfl ?_
    refine cg_10_7 X wd2_57 dX10_feed_61 ?_
    refine cg_6_1 X wd1_159 dX10_feed_64 ?_
    exact c_reti_s hA hQ X hr hlk dX10_feed_67 hf
  refine g_iconst X dX10_feed_16 kc_m1 ?_
  exact c_reti_s hA hQ X hr hlk dX10_feed_17 hf
def rc_10_end : Room := { frames := 0, cells := 0, slots := 0, locals := 0 }
set_option maxRecDepth 100000 in
set_option maxHeartbeats 4000000 in
theorem cc_10_end (l : Launch) (dC : Nat → ClassId) (dI : Nat → Nat → Nat) (E : Nat → ClassId) (ev : Nat → Nat) (ho : Nat → Nat) (ro : Nat → Nat → Nat) (P : va_W) (S : CS) (x1 : Int32)  (res : Int32 × CS) (hf : C_10_end S x1 = some res) : CC l dC dI E ev yX10_end cX10_end 2 (some .int) rc_10_end [.ref (ho 0), .int x1] (CW E ho ro S ++ P) (CW E ho ro res.2 ++ P) (some (.int res.1)) := by
  refine CC_of (own := "LostLanes") (by decide) rfl (Nat.le_of_ble_eq_true rfl) ?_
  intro p e s m args below meth c A Q X Y hr hlk hA hQ
  refine g_lv [0, 1] (lv' := [(0, .ref (ho 0)), (1, .int x1)]) rfl ?_
  unfold C_10_end at hf
  refine g_iload_n X dX10_end_0 1 rfl ?_
  refine g_if_lt (tgt := 15) X dX10_end_1 (by decide) hf (fun hf => ?_) (fun hf => ?_)
  · refine g_iconst X dX10_end_15 kc_m1 ?_
    exact c_reti_s hA hQ X hr hlk dX10_end_16 hf
  refine g_iload_n X dX10_end_4 1 rfl ?_
  refine g_aload_n X dX10_end_5 0 rfl ?_
  refine cg_10_7 X wd2_57 dX10_end_6 ?_
  refine cg_6_1 X wd1_159 dX10_end_9 ?_
  refine g_icmp_le (tgt := 17) X dX10_end_12 (by decide) hf (fun hf => ?_) (fun hf => ?_)
  · refine g_aload_n X dX10_end_17 0 rfl ?_
    refine cg_10_7 X wd2_57 dX10_end_18 ?_
    refine g_iload_n X dX10_end_21 1 rfl ?_
    refine cp_6_1 X wd1_159 dX10_end_22 hf (fun S1 hf => ?_)
    refine g_iload_n X dX10_end_25 1 rfl ?_
    exact c_reti_s hA hQ X hr hlk dX10_end_26 hf
  refine g_iconst X dX10_end_15 kc_m1 ?_
  exact c_reti_s hA hQ X hr hlk dX10_end_16 hf
def rc_10_layLane : Room := { frames := 2, cells := 0, slots := 0, locals := 43 }
set_option maxRecDepth 100000 in
set_option maxHeartbeats 4000000 in
theorem cc_10_layLane (l : Launch) (dC : Nat → ClassId) (dI : Nat → Nat → Nat) (E : Nat → ClassId) (ev : Nat → Nat) (ho : Nat → Nat) (ro : Nat → Nat → Nat) (P : va_W) (S : CS) (x1 : Int32)  (res : Int32 × CS) (hf : C_10_layLane S x1 = some res) : CC l dC dI E ev yX10_layLane cX10_layLane 6 (some .boolean) rc_10_layLane [.ref (ho 0), .int x1] (CW E ho ro S ++ P) (CW E ho ro res.2 ++ P) (some (.int res.1)) := by
  refine CC_of (own := "LostLanes") (by decide) rfl (Nat.le_of_ble_eq_true rfl) ?_
  intro p e s m args below meth c A Q X Y hr hlk hA hQ
  refine g_lv [0, 1] (lv' := [(0, .ref (ho 0)), (1, .int x1)]) rfl ?_
  unfold C_10_layLane at hf
  refine g_iload_n X dX10_layLane_0 1 rfl ?_
  refine g_if_lt (tgt := 29) X dX10_layLane_1 (by decide) hf (fun hf => ?_) (fun hf => ?_)
  · refine g_iconst X dX10_layLane_29 kc_0 ?_
    exact c_retz_s hA hQ X hr hlk (Or.inl rfl) dX10_layLane_30 hf
  refine g_iload_n X dX10_layLane_4 1 rfl ?_
  refine g_iconst X dX10_layLane_5 kc_4 ?_
  refine g_iadd X dX10_layLane_6 ?_
  refine g_aload_n X dX10_layLane_7 0 rfl ?_
  refine cg_10_7 X wd2_57 dX10_layLane_8 ?_
  refine cg_6_1 X wd1_159 dX10_layLane_11 ?_
  refine g_icmp_gt (tgt := 29) X dX10_layLane_14 (by decide) hf (fun hf => ?_) (fun hf => ?_)
  · refine g_iconst X dX10_layLane_29 kc_0 ?_
    exact c_retz_s hA hQ X hr hlk (Or.inl rfl) dX10_layLane_30 hf
  refine g_aload_n X dX10_layLane_17 0 rfl ?_
  refine cg_10_0 X wd2_50 dX10_layLane_18 ?_
  refine cg_7_5 X tw_1 wd1_59 dX10_layLane_21 ?_
  refine g_bipush X dX10_layLane_24 kb_10 ?_
  refine g_icmp_lt (tgt := 31) X dX10_layLane_26 (by decide) hf (fun hf => ?_) (fun hf => ?_)
  · refine g_aload_n X dX10_layLane_31 0 rfl ?_
    refine cg_10_7 X wd2_57 dX10_layLane_32 ?_
    refine cg_6_0 X wd1_157 dX10_layLane_35 ?_
    refine g_iload_n X dX10_layLane_38 1 rfl ?_
    refine ca_ld_6_0 X dX10_layLane_39 hf (fun hf => ?_)
    refine g_istore_n (i := 2) (lv' := [(2, .int (ca S 10 0 (x1).toNatClampNeg)), (0, .ref (ho 0)), (1, .int x1)]) X dX10_layLane_40 rfl (by decide) rfl ?_
    refine g_aload_n X dX10_layLane_41 1 rfl ?_
    refine cg_10_7 X wd2_57 dX10_layLane_42 ?_
    refine cg_6_0 X wd1_157 dX10_layLane_45 ?_
    refine g_iload_n X dX10_layLane_48 2 rfl ?_
    refine g_iconst X dX10_layLane_49 kc_1 ?_
    refine g_iadd X dX10_layLane_50 ?_
    refine ca_ld_6_0 X dX10_layLane_51 hf (fun hf => ?_)
    refine g_istore_n (i := 3) (lv' := [(3, .int (ca S 10 0 ((x1 + (1 : Int32))).toNatClampNeg)), (2, .int (ca S 10 0 (x1).toNatClampNeg)), (0, .ref (ho 0)), (1, .int x1)]) X dX10_layLane_52 rfl (by decide) rfl ?_
    refine g_aload_n X dX10_layLane_53 2 rfl ?_
    refine cg_10_7 X wd2_57 dX10_layLane_54 ?_
    refine cg_6_0 X wd1_157 dX10_layLane_57 ?_
    refine g_iload_n X dX10_layLane_60 3 rfl ?_
    refine g_iconst X dX10_layLane_61 kc_2 ?_
    refine g_iadd X dX10_layLane_62 ?_
    refine ca_ld_6_0 X dX10_layLane_63 hf (fun hf => ?_)
    refine g_istore (lv' := [(4, .int (ca S 10 0 ((x1 + (2 : Int32))).toNatClampNeg)), (3, .int (ca S 10 0 ((x1 + (1 : Int32))).toNatClampNeg)), (2, .int (ca S 10 0 (x1).toNatClampNeg)), (0, .ref (ho 0)), (1, .int x1)]) X dX10_layLane_64 (by decide) rfl ?_
    refine g_aload_n X dX10_layLane_66 3 rfl ?_
    refine cg_10_7 X wd2_57 dX10_layLane_67 ?_
    refine cg_6_0 X wd1_157 dX10_layLane_70 ?_
    refine g_iload_n X dX10_layLane_73 4 rfl ?_
    refine g_iconst X dX10_layLane_74 kc_3 ?_
    refine g_iadd X dX10_layLane_75 ?_
    refine ca_ld_6_0 X dX10_layLane_76 hf (fun hf => ?_)
    refine g_istore (lv' := [(5, .int (ca S 10 0 ((x1 + (3 : Int32))).toNatClampNeg)), (4, .int (ca S 10 0 ((x1 + (2 : Int32))).toNatClampNeg)), (3, .int (ca S 10 0 ((x1 + (1 : Int32))).toNatClampNeg)), (2, .int (ca S 10 0 (x1).toNatClampNeg)), (0, .ref (ho 0)), (1, .int x1)]) X dX10_layLane_77 (by decide) rfl ?_
    refine g_iload_n X dX10_layLane_79 3 rfl ?_
    refine g_iload_n X dX10_layLane_80 2 rfl ?_
    refine g_iload X dX10_layLane_81 1 rfl ?_
    refine g_iload X dX10_layLane_83 0 rfl ?_
    refine m_bind hf (fun y1 hy1 hf => ?_)
    refine cw_S_i (As := [.int (ca S 10 0 (x1).toNatClampNeg), .int (ca S 10 0 ((x1 + (1 : Int32))).toNatClampNeg), .int (ca S 10 0 ((x1 + (2 : Int32))).toNatClampNeg), .int (ca S 10 0 ((x1 + (3 : Int32))).toNatClampNeg)]) (st := []) X Y kS_X10_89 (cc_10_canBeLane l dC dI E ev ho ro P S (ca S 10 0 (x1).toNatClampNeg) (ca S 10 0 ((x1 + (1 : Int32))).toNatClampNeg) (ca S 10 0 ((x1 + (2 : Int32))).toNatClampNeg) (ca S 10 0 ((x1 + (3 : Int32))).toNatClampNeg) y1 hy1) ⟨Nat.le_of_ble_eq_true rfl, Nat.le_of_ble_eq_true rfl⟩ ⟨rfl, rfl⟩ (Nat.le_of_ble_eq_true rfl) ⟨Nat.le_of_ble_eq_true rfl, Nat.le_of_ble_eq_true rfl⟩ dX10_layLane_85 ?_
    refine g_if_ne (tgt := 93) X dX10_layLane_88 (by decide) hf (fun hf => ?_) (fun hf => ?_)
    · refine g_aload_n X dX10_layLane_93 4 rfl ?_
      refine cg_10_0 X wd2_50 dX10_layLane_94 ?_
      refine g_iload_n X dX10_layLane_97 3 rfl ?_
      refine g_iload_n X dX10_layLane_98 2 rfl ?_
      refine g_iload X dX10_layLane_99 1 rfl ?_
      refine g_iload X dX10_layLane_101 0 rfl ?_
      refine m_bind hf (fun y2 hy2 hf => ?_)
      refine cw_V_i (cix := 7) (As := [.int (ca S 10 0 (x1).toNatClampNeg), .int (ca S 10 0 ((x1 + (1 : Int32))).toNatClampNeg), .int (ca S 10 0 ((x1 + (2 : Int32))).toNatClampNeg), .int (ca S 10 0 ((x1 + (3 : Int32))).toNatClampNeg)]) (st := []) X Y kV_X10_103 (cc_7_addLane l dC dI E ev ho ro P S 1 (ca S 10 0 (x1).toNatClampNeg) (ca S 10 0 ((x1 + (1 : Int32))).toNatClampNeg) (ca S 10 0 ((x1 + (2 : Int32))).toNatClampNeg) (ca S 10 0 ((x1 + (3 : Int32))).toNatClampNeg) tw_1 y2 hy2) (ob_7 tw_1) rfl ⟨Nat.le_of_ble_eq_true rfl, Nat.le_of_ble_eq_true rfl⟩ ⟨rfl, rfl⟩ (Nat.le_of_ble_eq_true rfl) ⟨Nat.le_of_ble_eq_true rfl, Nat.le_of_ble_eq_true rfl⟩ dX10_layLane_103 ?_
      refine g_pop X dX10_layLane_106 rfl ?_
      refine g_iconst X dX10_layLane_107 kc_1 ?_
      exact c_retz_s hA hQ X hr hlk (Or.inr rfl) dX10_layLane_108 hf
    refine g_iconst X dX10_layLane_91 kc_0 ?_
    exact c_retz_s hA hQ X hr hlk (Or.inl rfl) dX10_layLane_92 hf
  refine g_iconst X dX10_layLane_29 kc_0 ?_
  exact c_retz_s hA hQ X hr hlk (Or.inl rfl) dX10_layLane_30 hf
def rc_10_row : Room := { frames := 3, cells := 0, slots := 0, locals := 68 }
set_option maxRecDepth 100000 in
set_option maxHeartbeats 4000000 in
theorem cc_10_row (l : Launch) (dC : Nat → ClassId) (dI : Nat → Nat → Nat) (E : Nat → ClassId) (ev : Nat → Nat) (ho : Nat → Nat) (ro : Nat → Nat → Nat) (F : Nat) (P : va_W) (S : CS)   (res : Int32 × CS) (hf : C_10_row F S = some res) : CC l dC dI E ev yX10_row cX10_row 3 (some .int) rc_10_row [.ref (ho 0)] (CW E ho ro S ++ P) (CW E ho ro res.2 ++ P) (some (.int res.1)) := by
  refine CC_of (own := "LostLanes") (by decide) rfl (Nat.le_of_ble_eq_true rfl) ?_
  intro p e s m args below meth c A Q X Y hr hlk hA hQ
  have hB61 : ∀ (k26 : CS → Int32 → Int32 → Option (Int32 × CS)) (hk26 : ∀ (S : CS) (x1 : Int32) (x2 : Int32), k26 S x1 x2 = some res → GG p l e rc_10_row s m args below meth c dC dI A 3 0 0 Q (CW E ho ro S ++ P) 26 [(0, .ref (ho 0)), (1, .int x1), (2, .int x2)] []) (S : CS) (x1 : Int32) (x2 : Int32), C_10_row_B61 F k26 S x1 x2 = some res → GG p l e rc_10_row s m args below meth c dC dI A 3 0 0 Q (CW E ho ro S ++ P) 61 [(0, .ref (ho 0)), (1, .int x1), (2, .int x2)] [] := by
    intro k26 hk26 S x1 x2 hf
    unfold C_10_row_B61 at hf
    refine g_iinc (lv' := [(2, .int (x2 + (4 : Int32))), (0, .ref (ho 0)), (1, .int x1)]) X dX10_row_61 2 rfl kc_4 (by decide) rfl ?_
    refine g_goto (tgt := 26) X dX10_row_64 (by decide) ?_
    refine g_lv [1, 2, 0] (lv' := [(0, .ref (ho 0)), (1, .int x1), (2, .int (x2 + (4 : Int32)))]) rfl ?_
    exact hk26 _ _ _ hf
  have hL26 : ∀  (n : Nat) (S : CS) (x1 : Int32) (x2 : Int32), C_10_row_L26 F n S x1 x2 = some res → GG p l e rc_10_row s m args below meth c dC dI A 3 0 0 Q (CW E ho ro S ++ P) 26 [(0, .ref (ho 0)), (1, .int x1), (2, .int x2)] [] := by
    intro  n
    induction n with
    | zero => intro S x1 x2 hf; have hf : (none : Option (Int32 × CS)) = some res := hf; cases hf
    | succ n ih =>
      intro S x1 x2 hf
      rw [C_10_row_L26] at hf
      refine g_iload_n X dX10_row_26 2 rfl ?_
      refine g_aload_n X dX10_row_27 0 rfl ?_
      refine cg_10_7 X wd2_57 dX10_row_28 ?_
      refine cg_6_1 X wd1_159 dX10_row_31 ?_
      refine g_icmp_ge (tgt := 67) X dX10_row_34 (by decide) hf (fun hf => ?_) (fun hf => ?_)
      · refine g_aload_n X dX10_row_67 0 rfl ?_
        refine cg_10_7 X wd2_57 dX10_row_68 ?_
        refine g_iconst X dX10_row_71 kc_0 ?_
        refine cp_6_1 X wd1_159 dX10_row_72 hf (fun S1 hf => ?_)
        refine g_aload_n X dX10_row_75 0 rfl ?_
        refine cg_10_4 X wd2_54 dX10_row_76 ?_
        refine g_iconst X dX10_row_79 kc_0 ?_
        refine cp_1_2 X lg_7 wd1_134 dX10_row_80 hf (fun S2 hf => ?_)
        refine g_aload_n X dX10_row_83 0 rfl ?_
        refine g_iload_n X dX10_row_84 1 rfl ?_
        refine m_bind hf (fun y3 hy3 hf => ?_)
        refine cw_V_i (cix := 10) (As := [.int x1]) (st := []) X Y kV_X10_107 (cc_10_accept l dC dI E ev ho ro P S2 x1 y3 hy3) ob_10 rfl ⟨Nat.le_of_ble_eq_true rfl, Nat.le_of_ble_eq_true rfl⟩ ⟨rfl, rfl⟩ (Nat.le_of_ble_eq_true rfl) ⟨Nat.le_of_ble_eq_true rfl, Nat.le_of_ble_eq_true rfl⟩ dX10_row_85 ?_
        exact c_reti_s hA hQ X hr hlk dX10_row_88 hf
      refine g_aload_n X dX10_row_37 0 rfl ?_
      refine g_iload_n X dX10_row_38 2 rfl ?_
      refine m_bind hf (fun y4 hy4 hf => ?_)
      refine cw_V_i (cix := 10) (As := [.int x2]) (st := []) X Y kV_X10_188 (cc_10_layLane l dC dI E ev ho ro P S x2 y4 hy4) ob_10 rfl ⟨Nat.le_of_ble_eq_true rfl, Nat.le_of_ble_eq_true rfl⟩ ⟨rfl, rfl⟩ (Nat.le_of_ble_eq_true rfl) ⟨Nat.le_of_ble_eq_true rfl, Nat.le_of_ble_eq_true rfl⟩ dX10_row_39 ?_
      refine g_if_eq (tgt := 51) X dX10_row_42 (by decide) hf (fun hf => ?_) (fun hf => ?_)
      · refine g_aload_n X dX10_row_51 0 rfl ?_
        refine g_dup X dX10_row_52 rfl ?_
        refine cg_10_17 X wd2_67 dX10_row_53 ?_
        refine g_iconst X dX10_row_56 kc_1 ?_
        refine g_iadd X dX10_row_57 ?_
        refine cp_10_17 X wd2_67 dX10_row_58 hf (fun S5 hf => ?_)
        exact hB61 _ ih _ _ _ hf
      refine g_iinc (lv' := [(1, .int (x1 + (1 : Int32))), (0, .ref (ho 0)), (2, .int x2)]) X dX10_row_45 1 rfl kc_1 (by decide) rfl ?_
      refine g_goto (tgt := 61) X dX10_row_48 (by decide) ?_
      refine g_lv [1, 0, 2] (lv' := [(0, .ref (ho 0)), (1, .int (x1 + (1 : Int32))), (2, .int x2)]) rfl ?_
      exact hB61 _ ih _ _ _ hf
  refine g_lv [0] (lv' := [(0, .ref (ho 0))]) rfl ?_
  unfold C_10_row at hf
  refine g_aload_n X dX10_row_0 0 rfl ?_
  refine cg_10_7 X wd2_57 dX10_row_1 ?_
  refine cg_6_1 X wd1_159 dX10_row_4 ?_
  refine g_if_ne (tgt := 17) X dX10_row_7 (by decide) hf (fun hf => ?_) (fun hf => ?_)
  · refine g_iconst X dX10_row_17 kc_0 ?_
    refine g_istore_n (i := 1) (lv' := [(1, .int (0 : Int32)), (0, .ref (ho 0))]) X dX10_row_18 rfl (by decide) rfl ?_
    refine g_aload_n X dX10_row_19 1 rfl ?_
    refine g_iconst X dX10_row_20 kc_0 ?_
    refine cp_10_17 X wd2_67 dX10_row_21 hf (fun S6 hf => ?_)
    refine g_iconst X dX10_row_24 kc_0 ?_
    refine g_istore_n (i := 2) (lv' := [(2, .int (0 : Int32)), (1, .int (0 : Int32)), (0, .ref (ho 0))]) X dX10_row_25 rfl (by decide) rfl ?_
    refine g_lv [2, 1, 0] (lv' := [(0, .ref (ho 0)), (1, .int (0 : Int32)), (2, .int (0 : Int32))]) rfl ?_
    exact hL26 _ _ _ _ hf
  refine g_aload_n X dX10_row_10 0 rfl ?_
  refine g_bipush X dX10_row_11 kb_m6 ?_
  refine m_bind hf (fun y7 hy7 hf => ?_)
  refine cw_V_i (cix := 10) (As := [.int (-6 : Int32)]) (st := []) X Y kV_X10_93 (cc_10_refuse l dC dI E ev ho ro P S (-6 : Int32) y7 hy7) ob_10 rfl ⟨Nat.le_of_ble_eq_true rfl, Nat.le_of_ble_eq_true rfl⟩ ⟨rfl, rfl⟩ (Nat.le_of_ble_eq_true rfl) ⟨Nat.le_of_ble_eq_true rfl, Nat.le_of_ble_eq_true rfl⟩ dX10_row_13 ?_
  exact c_reti_s hA hQ X hr hlk dX10_row_16 hf
def rc_10_gravel : Room := { frames := 0, cells := 0, slots := 0, locals := 0 }
set_option maxRecDepth 100000 in
set_option maxHeartbeats 4000000 in
theorem cc_10_gravel (l : Launch) (dC : Nat → ClassId) (dI : Nat → Nat → Nat) (E : Nat → ClassId) (ev : Nat → Nat) (ho : Nat → Nat) (ro : Nat → Nat → Nat) (P : va_W) (S : CS)   (res : Int32) (hf : C_10_gravel S = some res) : CC l dC dI E ev yX10_gravel cX10_gravel 1 (some .int) rc_10_gravel [.ref (ho 0)] (CW E ho ro S ++ P) (CW E ho ro S ++ P) (some (.int res)) := by
  refine CC_of (own := "LostLanes") (by decide) rfl (Nat.le_of_ble_eq_true rfl) ?_
  intro p e s m args below meth c A Q X Y hr hlk hA hQ
  refine g_lv [0] (lv' := [(0, .ref (ho 0))]) rfl ?_
  unfold C_10_gravel at hf
  refine g_aload_n X dX10_gravel_0 0 rfl ?_
  refine cg_10_17 X wd2_67 dX10_gravel_1 ?_
  exact c_reti_o hA hQ X hr hlk dX10_gravel_4 hf
def rc_10_fault : Room := { frames := 0, cells := 0, slots := 0, locals := 0 }
set_option maxRecDepth 100000 in
set_option maxHeartbeats 4000000 in
theorem cc_10_fault (l : Launch) (dC : Nat → ClassId) (dI : Nat → Nat → Nat) (E : Nat → ClassId) (ev : Nat → Nat) (ho : Nat → Nat) (ro : Nat → Nat → Nat) (P : va_W) (S : CS)   (res : Int32) (hf : C_10_fault S = some res) : CC l dC dI E ev yX10_fault cX10_fault 1 (some .int) rc_10_fault [.ref (ho 0)] (CW E ho ro S ++ P) (CW E ho ro S ++ P) (some (.int res)) := by
  refine CC_of (own := "LostLanes") (by decide) rfl (Nat.le_of_ble_eq_true rfl) ?_
  intro p e s m args below meth c A Q X Y hr hlk hA hQ
  refine g_lv [0] (lv' := [(0, .ref (ho 0))]) rfl ?_
  unfold C_10_fault at hf
  refine g_aload_n X dX10_fault_0 0 rfl ?_
  refine cg_10_6 X wd2_56 dX10_fault_1 ?_
  refine cg_3_10 X wd1_178 dX10_fault_4 ?_
  exact c_reti_o hA hQ X hr hlk dX10_fault_7 hf
def rc_10_stopped : Room := { frames := 0, cells := 0, slots := 0, locals := 0 }
set_option maxRecDepth 100000 in
set_option maxHeartbeats 4000000 in
theorem cc_10_stopped (l : Launch) (dC : Nat → ClassId) (dI : Nat → Nat → Nat) (E : Nat → ClassId) (ev : Nat → Nat) (ho : Nat → Nat) (ro : Nat → Nat → Nat) (P : va_W) (S : CS)   (res : Int32) (hf : C_10_stopped S = some res) : CC l dC dI E ev yX10_stopped cX10_stopped 1 (some .int) rc_10_stopped [.ref (ho 0)] (CW E ho ro S ++ P) (CW E ho ro S ++ P) (some (.int res)) := by
  refine CC_of (own := "LostLanes") (by decide) rfl (Nat.le_of_ble_eq_true rfl) ?_
  intro p e s m args below meth c A Q X Y hr hlk hA hQ
  refine g_lv [0] (lv' := [(0, .ref (ho 0))]) rfl ?_
  unfold C_10_stopped at hf
  refine g_aload_n X dX10_stopped_0 0 rfl ?_
  refine cg_10_16 X wd2_66 dX10_stopped_1 ?_
  exact c_reti_o hA hQ X hr hlk dX10_stopped_4 hf
def rc_10_force : Room := { frames := 1, cells := 0, slots := 0, locals := 22 }
set_option maxRecDepth 100000 in
set_option maxHeartbeats 4000000 in
theorem cc_10_force (l : Launch) (dC : Nat → ClassId) (dI : Nat → Nat → Nat) (E : Nat → ClassId) (ev : Nat → Nat) (ho : Nat → Nat) (ro : Nat → Nat → Nat) (P : va_W) (S : CS) (x1 : Int32)  (res : Int32 × CS) (hf : C_10_force S x1 = some res) : CC l dC dI E ev yX10_force cX10_force 3 (some .int) rc_10_force [.ref (ho 0), .int x1] (CW E ho ro S ++ P) (CW E ho ro res.2 ++ P) (some (.int res.1)) := by
  refine CC_of (own := "LostLanes") (by decide) rfl (Nat.le_of_ble_eq_true rfl) ?_
  intro p e s m args below meth c A Q X Y hr hlk hA hQ
  have hB23 : ∀ (S : CS) (x1 : Int32), C_10_force_B23 S x1 = some res → GG p l e rc_10_force s m args below meth c dC dI A 3 0 0 Q (CW E ho ro S ++ P) 23 [(0, .ref (ho 0)), (1, .int x1)] [] := by
    intro S x1 hf
    unfold C_10_force_B23 at hf
    refine g_aload_n X dX10_force_23 0 rfl ?_
    refine cg_10_0 X wd2_50 dX10_force_24 ?_
    refine cg_7_15 X tw_1 wd1_90 dX10_force_27 ?_
    refine g_istore_n (i := 2) (lv' := [(2, .int (ci S 1 15)), (0, .ref (ho 0)), (1, .int x1)]) X dX10_force_30 rfl (by decide) rfl ?_
    refine g_aload_n X dX10_force_31 1 rfl ?_
    refine cg_10_0 X wd2_50 dX10_force_32 ?_
    refine g_iload_n X dX10_force_35 2 rfl ?_
    refine cp_7_15 X tw_1 wd1_90 dX10_force_36 hf (fun S1 hf => ?_)
    refine g_aload_n X dX10_force_39 1 rfl ?_
    refine g_iload_n X dX10_force_40 0 rfl ?_
    refine m_bind hf (fun y2 hy2 hf => ?_)
    refine cw_V_i (cix := 10) (As := [.int (ci S 1 15)]) (st := []) X Y kV_X10_107 (cc_10_accept l dC dI E ev ho ro P S1 (ci S 1 15) y2 hy2) ob_10 rfl ⟨Nat.le_of_ble_eq_true rfl, Nat.le_of_ble_eq_true rfl⟩ ⟨rfl, rfl⟩ (Nat.le_of_ble_eq_true rfl) ⟨Nat.le_of_ble_eq_true rfl, Nat.le_of_ble_eq_true rfl⟩ dX10_force_41 ?_
    exact c_reti_s hA hQ X hr hlk dX10_force_44 hf
  refine g_lv [0, 1] (lv' := [(0, .ref (ho 0)), (1, .int x1)]) rfl ?_
  unfold C_10_force at hf
  refine g_iload_n X dX10_force_0 1 rfl ?_
  refine g_iconst X dX10_force_1 kc_m1 ?_
  refine g_icmp_eq (tgt := 23) X dX10_force_2 (by decide) hf (fun hf => ?_) (fun hf => ?_)
  · exact hB23 _ _ hf
  refine g_aload_n X dX10_force_5 0 rfl ?_
  refine cg_10_0 X wd2_50 dX10_force_6 ?_
  refine g_iload_n X dX10_force_9 1 rfl ?_
  refine m_bind hf (fun y3 hy3 hf => ?_)
  refine cw_V_i (cix := 7) (As := [.int x1]) (st := []) X Y kV_X10_231 (cc_7_hasLaw l dC dI E ev ho ro P S 1 x1 tw_1 y3 hy3) (ob_7 tw_1) rfl ⟨Nat.le_of_ble_eq_true rfl, Nat.le_of_ble_eq_true rfl⟩ ⟨rfl, rfl⟩ (Nat.le_of_ble_eq_true rfl) ⟨Nat.le_of_ble_eq_true rfl, Nat.le_of_ble_eq_true rfl⟩ dX10_force_10 ?_
  refine g_if_ne (tgt := 23) X dX10_force_13 (by decide) hf (fun hf => ?_) (fun hf => ?_)
  · exact hB23 _ _ hf
  refine g_aload_n X dX10_force_16 0 rfl ?_
  refine g_bipush X dX10_force_17 kb_m2 ?_
  refine m_bind hf (fun y4 hy4 hf => ?_)
  refine cw_V_i (cix := 10) (As := [.int (-2 : Int32)]) (st := []) X Y kV_X10_93 (cc_10_refuse l dC dI E ev ho ro P S (-2 : Int32) y4 hy4) ob_10 rfl ⟨Nat.le_of_ble_eq_true rfl, Nat.le_of_ble_eq_true rfl⟩ ⟨rfl, rfl⟩ (Nat.le_of_ble_eq_true rfl) ⟨Nat.le_of_ble_eq_true rfl, Nat.le_of_ble_eq_true rfl⟩ dX10_force_19 ?_
  exact c_reti_s hA hQ X hr hlk dX10_force_22 hf
def rc_10_cryIn : Room := { frames := 4, cells := 0, slots := 0, locals := 105 }
set_option maxRecDepth 100000 in
set_option maxHeartbeats 4000000 in
theorem cc_10_cryIn (l : Launch) (dC : Nat → ClassId) (dI : Nat → Nat → Nat) (E : Nat → ClassId) (ev : Nat → Nat) (ho : Nat → Nat) (ro : Nat → Nat → Nat) (F : Nat) (P : va_W) (S : CS) (o1 : Nat) (x2 : Int32) (h_o1 : tw o1) (res : Int32 × CS) (hf : C_10_cryIn F E P S o1 x2 = some res) : CC l dC dI E ev yX10_cryIn cX10_cryIn 4 (some .int) rc_10_cryIn [.ref (ho 0), .ref (ho o1), .int x2] (CW E ho ro S ++ P) (CW E ho ro res.2 ++ P) (some (.int res.1)) := by
  refine CC_of (own := "LostLanes") (by decide) rfl (Nat.le_of_ble_eq_true rfl) ?_
  intro p e s m args below meth c A Q X Y hr hlk hA hQ
  refine g_lv [0, 1, 2] (lv' := [(0, .ref (ho 0)), (1, .ref (ho o1)), (2, .int x2)]) rfl ?_
  unfold C_10_cryIn at hf
  refine g_aload_n X dX10_cryIn_0 1 rfl ?_
  refine g_iload_n X dX10_cryIn_1 2 rfl ?_
  refine m_bind hf (fun y1 hy1 hf => ?_)
  refine cw_V_i (cix := 7) (As := [.int x2]) (st := []) X Y kV_X10_139 (cc_7_hasChild l dC dI E ev ho ro P S o1 x2 h_o1 y1 hy1) (ob_7 h_o1) rfl ⟨Nat.le_of_ble_eq_true rfl, Nat.le_of_ble_eq_true rfl⟩ ⟨rfl, rfl⟩ (Nat.le_of_ble_eq_true rfl) ⟨Nat.le_of_ble_eq_true rfl, Nat.le_of_ble_eq_true rfl⟩ dX10_cryIn_2 ?_
  refine g_if_ne (tgt := 11) X dX10_cryIn_5 (by decide) hf (fun hf => ?_) (fun hf => ?_)
  · refine g_aload_n X dX10_cryIn_11 1 rfl ?_
    refine cg_7_8 X h_o1 wd1_71 dX10_cryIn_12 ?_
    refine g_iload_n X dX10_cryIn_15 2 rfl ?_
    refine ca_ld_7_8 X h_o1 dX10_cryIn_16 hf (fun hf => ?_)
    refine g_istore_n (i := 3) (lv' := [(3, .int (ca S o1 8 (x2).toNatClampNeg)), (0, .ref (ho 0)), (1, .ref (ho o1)), (2, .int x2)]) X dX10_cryIn_17 rfl (by decide) rfl ?_
    refine g_aload_n X dX10_cryIn_18 2 rfl ?_
    refine g_iload_n X dX10_cryIn_19 0 rfl ?_
    refine m_bind hf (fun y2 hy2 hf => ?_)
    refine cw_V_i (cix := 7) (As := [.int (ca S o1 8 (x2).toNatClampNeg)]) (st := []) X Y kV_X10_110 (cc_7_hasLane l dC dI E ev ho ro P S o1 (ca S o1 8 (x2).toNatClampNeg) h_o1 y2 hy2) (ob_7 h_o1) rfl ⟨Nat.le_of_ble_eq_true rfl, Nat.le_of_ble_eq_true rfl⟩ ⟨rfl, rfl⟩ (Nat.le_of_ble_eq_true rfl) ⟨Nat.le_of_ble_eq_true rfl, Nat.le_of_ble_eq_true rfl⟩ dX10_cryIn_20 ?_
    refine g_if_ne (tgt := 29) X dX10_cryIn_23 (by decide) hf (fun hf => ?_) (fun hf => ?_)
    · refine g_aload_n X dX10_cryIn_29 2 rfl ?_
      refine cg_7_4 X h_o1 wd1_54 dX10_cryIn_30 ?_
      refine g_iload_n X dX10_cryIn_33 0 rfl ?_
      refine g_aload_n X dX10_cryIn_34 1 rfl ?_
      refine cg_10_8 X wd2_58 dX10_cryIn_35 ?_
      refine g_aload_n X dX10_cryIn_38 2 rfl ?_
      refine g_iload_n X dX10_cryIn_39 3 rfl ?_
      refine g_iload_n X dX10_cryIn_40 0 rfl ?_
      refine m_bind hf (fun y3 hy3 hf => ?_)
      refine cw_V_i (cix := 9) (As := [.ref (ho o1), .int x2, .int (ca S o1 8 (x2).toNatClampNeg)]) (st := [.int (ca S o1 8 (x2).toNatClampNeg), .ref (ro o1 4)]) X Y kV_X10_162 (cc_9_nameSaid l dC dI E ev ho ro F P S o1 x2 (ca S o1 8 (x2).toNatClampNeg) h_o1 y3 hy3) ob_9 rfl ⟨Nat.le_of_ble_eq_true rfl, Nat.le_of_ble_eq_true rfl⟩ ⟨rfl, rfl⟩ (Nat.le_of_ble_eq_true rfl) ⟨Nat.le_of_ble_eq_true rfl, Nat.le_of_ble_eq_true rfl⟩ dX10_cryIn_41 ?_
      refine ca_st_7_4 X h_o1 dX10_cryIn_44 hf (fun S4 hf => ?_)
      refine g_aload_n X dX10_cryIn_45 2 rfl ?_
      refine cg_7_4 X h_o1 wd1_54 dX10_cryIn_46 ?_
      refine g_iload_n X dX10_cryIn_49 0 rfl ?_
      refine ca_ld_7_4 X h_o1 dX10_cryIn_50 hf (fun hf => ?_)
      exact c_reti_s hA hQ X hr hlk dX10_cryIn_51 hf
    refine g_bipush X dX10_cryIn_26 kb_m3 ?_
    exact c_reti_s hA hQ X hr hlk dX10_cryIn_28 hf
  refine g_bipush X dX10_cryIn_8 kb_m2 ?_
  exact c_reti_s hA hQ X hr hlk dX10_cryIn_10 hf
def rc_10_leadIn : Room := { frames := 1, cells := 0, slots := 0, locals := 21 }
set_option maxRecDepth 100000 in
set_option maxHeartbeats 4000000 in
theorem cc_10_leadIn (l : Launch) (dC : Nat → ClassId) (dI : Nat → Nat → Nat) (E : Nat → ClassId) (ev : Nat → Nat) (ho : Nat → Nat) (ro : Nat → Nat → Nat) (P : va_W) (S : CS) (o1 : Nat) (x2 : Int32) (x3 : Int32) (h_o1 : tw o1) (res : Int32 × CS) (hf : C_10_leadIn S o1 x2 x3 = some res) : CC l dC dI E ev yX10_leadIn cX10_leadIn 5 (some .int) rc_10_leadIn [.ref (ho 0), .ref (ho o1), .int x2, .int x3] (CW E ho ro S ++ P) (CW E ho ro res.2 ++ P) (some (.int res.1)) := by
  refine CC_of (own := "LostLanes") (by decide) rfl (Nat.le_of_ble_eq_true rfl) ?_
  intro p e s m args below meth c A Q X Y hr hlk hA hQ
  refine g_lv [0, 1, 2, 3] (lv' := [(0, .ref (ho 0)), (1, .ref (ho o1)), (2, .int x2), (3, .int x3)]) rfl ?_
  unfold C_10_leadIn at hf
  refine g_iload_n X dX10_leadIn_0 3 rfl ?_
  refine m_bind hf (fun y1 hy1 hf => ?_)
  refine cw_S_i (As := [.int x3]) (st := []) X Y kS_X10_129 (cc_10_isCorner l dC dI E ev ho ro P S x3 y1 hy1) ⟨Nat.le_of_ble_eq_true rfl, Nat.le_of_ble_eq_true rfl⟩ ⟨rfl, rfl⟩ (Nat.le_of_ble_eq_true rfl) ⟨Nat.le_of_ble_eq_true rfl, Nat.le_of_ble_eq_true rfl⟩ dX10_leadIn_1 ?_
  refine g_if_ne (tgt := 9) X dX10_leadIn_4 (by decide) hf (fun hf => ?_) (fun hf => ?_)
  · refine g_aload_n X dX10_leadIn_9 1 rfl ?_
    refine g_iload_n X dX10_leadIn_10 2 rfl ?_
    refine m_bind hf (fun y2 hy2 hf => ?_)
    refine cw_V_i (cix := 7) (As := [.int x2]) (st := []) X Y kV_X10_139 (cc_7_hasChild l dC dI E ev ho ro P S o1 x2 h_o1 y2 hy2) (ob_7 h_o1) rfl ⟨Nat.le_of_ble_eq_true rfl, Nat.le_of_ble_eq_true rfl⟩ ⟨rfl, rfl⟩ (Nat.le_of_ble_eq_true rfl) ⟨Nat.le_of_ble_eq_true rfl, Nat.le_of_ble_eq_true rfl⟩ dX10_leadIn_11 ?_
    refine g_if_ne (tgt := 20) X dX10_leadIn_14 (by decide) hf (fun hf => ?_) (fun hf => ?_)
    · refine g_aload_n X dX10_leadIn_20 1 rfl ?_
      refine cg_7_7 X h_o1 wd1_68 dX10_leadIn_21 ?_
      refine g_iload_n X dX10_leadIn_24 2 rfl ?_
      refine ca_ld_7_7 X h_o1 dX10_leadIn_25 hf (fun hf => ?_)
      refine g_istore (lv' := [(4, .int (ca S o1 7 (x2).toNatClampNeg)), (0, .ref (ho 0)), (1, .ref (ho o1)), (2, .int x2), (3, .int x3)]) X dX10_leadIn_26 (by decide) rfl ?_
      refine g_iload X dX10_leadIn_28 0 rfl ?_
      refine g_iload_n X dX10_leadIn_30 4 rfl ?_
      refine g_icmp_ne (tgt := 37) X dX10_leadIn_31 (by decide) hf (fun hf => ?_) (fun hf => ?_)
      · refine g_aload_n X dX10_leadIn_37 2 rfl ?_
        refine cg_7_7 X h_o1 wd1_68 dX10_leadIn_38 ?_
        refine g_iload_n X dX10_leadIn_41 3 rfl ?_
        refine g_iload_n X dX10_leadIn_42 4 rfl ?_
        refine ca_st_7_7 X h_o1 dX10_leadIn_43 hf (fun S3 hf => ?_)
        refine g_iload X dX10_leadIn_44 0 rfl ?_
        exact c_reti_s hA hQ X hr hlk dX10_leadIn_46 hf
      refine g_bipush X dX10_leadIn_34 kb_m3 ?_
      exact c_reti_s hA hQ X hr hlk dX10_leadIn_36 hf
    refine g_bipush X dX10_leadIn_17 kb_m2 ?_
    exact c_reti_s hA hQ X hr hlk dX10_leadIn_19 hf
  refine g_iconst X dX10_leadIn_7 kc_m1 ?_
  exact c_reti_s hA hQ X hr hlk dX10_leadIn_8 hf
def rc_10_passIn : Room := { frames := 4, cells := 0, slots := 0, locals := 107 }
set_option maxRecDepth 100000 in
set_option maxHeartbeats 4000000 in
theorem cc_10_passIn (l : Launch) (dC : Nat → ClassId) (dI : Nat → Nat → Nat) (E : Nat → ClassId) (ev : Nat → Nat) (ho : Nat → Nat) (ro : Nat → Nat → Nat) (F : Nat) (P : va_W) (S : CS) (o1 : Nat) (h_o1 : tw o1) (res : Int32 × CS) (hf : C_10_passIn F E P S o1 = some res) : CC l dC dI E ev yX10_passIn cX10_passIn 5 (some .int) rc_10_passIn [.ref (ho 0), .ref (ho o1)] (CW E ho ro S ++ P) (CW E ho ro res.2 ++ P) (some (.int res.1)) := by
  refine CC_of (own := "LostLanes") (by decide) rfl (Nat.le_of_ble_eq_true rfl) ?_
  intro p e s m args below meth c A Q X Y hr hlk hA hQ
  have hB58 : ∀ (k19 : CS → Int32 → Int32 → Option (Int32 × CS)) (hk19 : ∀ (S : CS) (x2 : Int32) (x3 : Int32), k19 S x2 x3 = some res → GG p l e rc_10_passIn s m args below meth c dC dI A 5 0 0 Q (CW E ho ro S ++ P) 19 [(0, .ref (ho 0)), (1, .ref (ho o1)), (2, .int x2), (3, .int x3)] []) (S : CS) (x2 : Int32) (x3 : Int32), C_10_passIn_B58 F E P o1 k19 S x2 x3 = some res → GG p l e rc_10_passIn s m args below meth c dC dI A 5 0 0 Q (CW E ho ro S ++ P) 58 [(0, .ref (ho 0)), (1, .ref (ho o1)), (2, .int x2), (3, .int x3)] [] := by
    intro k19 hk19 S x2 x3 hf
    unfold C_10_passIn_B58 at hf
    refine g_iinc (lv' := [(3, .int (x3 + (1 : Int32))), (0, .ref (ho 0)), (1, .ref (ho o1)), (2, .int x2)]) X dX10_passIn_58 3 rfl kc_1 (by decide) rfl ?_
    refine g_goto (tgt := 19) X dX10_passIn_61 (by decide) ?_
    refine g_lv [1, 2, 3, 0] (lv' := [(0, .ref (ho 0)), (1, .ref (ho o1)), (2, .int x2), (3, .int (x3 + (1 : Int32)))]) rfl ?_
    exact hk19 _ _ _ hf
  have hL19 : ∀  (n : Nat) (S : CS) (x2 : Int32) (x3 : Int32), C_10_passIn_L19 F E P o1 n S x2 x3 = some res → GG p l e rc_10_passIn s m args below meth c dC dI A 5 0 0 Q (CW E ho ro S ++ P) 19 [(0, .ref (ho 0)), (1, .ref (ho o1)), (2, .int x2), (3, .int x3)] [] := by
    intro  n
    induction n with
    | zero => intro S x2 x3 hf; have hf : (none : Option (Int32 × CS)) = some res := hf; cases hf
    | succ n ih =>
      intro S x2 x3 hf
      rw [C_10_passIn_L19] at hf
      refine g_iload_n X dX10_passIn_19 3 rfl ?_
      refine g_aload_n X dX10_passIn_20 1 rfl ?_
      refine cg_7_9 X h_o1 wd1_74 dX10_passIn_21 ?_
      refine g_icmp_ge (tgt := 64) X dX10_passIn_24 (by decide) hf (fun hf => ?_) (fun hf => ?_)
      · refine g_aload_n X dX10_passIn_64 1 rfl ?_
        refine cg_7_12 X h_o1 wd1_84 dX10_passIn_65 ?_
        refine g_iconst X dX10_passIn_68 kc_0 ?_
        refine g_dup2 X dX10_passIn_69 rfl rfl ?_
        refine ca_ldc_7_12 X h_o1 kt_0 kx_0_3 dX10_passIn_70 ?_
        refine g_iconst X dX10_passIn_71 kc_1 ?_
        refine g_iadd X dX10_passIn_72 ?_
        refine ca_stc_7_12 X h_o1 kt_0 kx_0_3 dX10_passIn_73 hf (fun S1 hf => ?_)
        refine g_iload_n X dX10_passIn_74 2 rfl ?_
        exact c_reti_s hA hQ X hr hlk dX10_passIn_75 hf
      refine g_aload_n X dX10_passIn_27 0 rfl ?_
      refine cg_10_8 X wd2_58 dX10_passIn_28 ?_
      refine g_aload_n X dX10_passIn_31 1 rfl ?_
      refine g_aload_n X dX10_passIn_32 1 rfl ?_
      refine m_bind hf (fun y2 hy2 hf => ?_)
      refine cw_V_q (cix := 7) (As := []) (st := [.ref (ho o1), .ref (ho 11)]) X Y kV_X10_151 (cc_7_lawInForce l dC dI E ev ho ro P S o1 h_o1 y2 hy2) (ob_7 h_o1) rfl ⟨Nat.le_of_ble_eq_true rfl, Nat.le_of_ble_eq_true rfl⟩ ⟨rfl, rfl⟩ (Nat.le_of_ble_eq_true rfl) ⟨Nat.le_of_ble_eq_true rfl, Nat.le_of_ble_eq_true rfl⟩ dX10_passIn_33 ?_
      refine g_iload_n X dX10_passIn_36 3 rfl ?_
      refine m_bind hf (fun y3 hy3 hf => ?_)
      refine cw_V_i (cix := 9) (As := [.ref (ho o1), va_rf y2, .int x3]) (st := []) X Y kV_X10_159 (cc_9_laneTaken l dC dI E ev ho ro F P S o1 y2 x3 h_o1 y3 hy3) ob_9 rfl ⟨Nat.le_of_ble_eq_true rfl, Nat.le_of_ble_eq_true rfl⟩ ⟨rfl, rfl⟩ (Nat.le_of_ble_eq_true rfl) ⟨Nat.le_of_ble_eq_true rfl, Nat.le_of_ble_eq_true rfl⟩ dX10_passIn_37 ?_
      refine g_istore (lv' := [(4, .int y3.1), (0, .ref (ho 0)), (1, .ref (ho o1)), (2, .int x2), (3, .int x3)]) X dX10_passIn_40 (by decide) rfl ?_
      refine g_iload X dX10_passIn_42 0 rfl ?_
      refine g_iconst X dX10_passIn_44 kc_m1 ?_
      refine g_icmp_eq (tgt := 58) X dX10_passIn_45 (by decide) hf (fun hf => ?_) (fun hf => ?_)
      · refine g_lv [1, 2, 3, 4] (lv' := [(0, .ref (ho 0)), (1, .ref (ho o1)), (2, .int x2), (3, .int x3)]) rfl ?_
        exact hB58 _ ih _ _ _ hf
      refine g_aload_n X dX10_passIn_48 2 rfl ?_
      refine g_iload_n X dX10_passIn_49 4 rfl ?_
      refine g_iload X dX10_passIn_50 0 rfl ?_
      refine m_bind hf (fun y4 hy4 hf => ?_)
      refine cw_V_v (cix := 7) (As := [.int x3, .int y3.1]) (st := []) X Y kV_X10_424 (cc_7_goAlong l dC dI E ev ho ro P y3.2 o1 x3 y3.1 h_o1 y4 hy4) (ob_7 h_o1) rfl ⟨Nat.le_of_ble_eq_true rfl, Nat.le_of_ble_eq_true rfl⟩ ⟨rfl, rfl⟩ (Nat.le_of_ble_eq_true rfl) ⟨Nat.le_of_ble_eq_true rfl, Nat.le_of_ble_eq_true rfl⟩ dX10_passIn_52 ?_
      refine g_iinc (lv' := [(2, .int (x2 + (1 : Int32))), (4, .int y3.1), (0, .ref (ho 0)), (1, .ref (ho o1)), (3, .int x3)]) X dX10_passIn_55 3 rfl kc_1 (by decide) rfl ?_
      refine g_lv [2, 3, 0, 4] (lv' := [(0, .ref (ho 0)), (1, .ref (ho o1)), (2, .int (x2 + (1 : Int32))), (3, .int x3)]) rfl ?_
      exact hB58 _ ih _ _ _ hf
  refine g_lv [0, 1] (lv' := [(0, .ref (ho 0)), (1, .ref (ho o1))]) rfl ?_
  unfold C_10_passIn at hf
  refine g_aload_n X dX10_passIn_0 1 rfl ?_
  refine cg_7_12 X h_o1 wd1_84 dX10_passIn_1 ?_
  refine g_iconst X dX10_passIn_4 kc_0 ?_
  refine ca_ldc_7_12 X h_o1 kt_0 kx_0_3 dX10_passIn_5 ?_
  refine g_sipush X dX10_passIn_6 ks_999 ?_
  refine g_icmp_lt (tgt := 15) X dX10_passIn_9 (by decide) hf (fun hf => ?_) (fun hf => ?_)
  · refine g_iconst X dX10_passIn_15 kc_0 ?_
    refine g_istore_n (i := 2) (lv' := [(2, .int (0 : Int32)), (0, .ref (ho 0)), (1, .ref (ho o1))]) X dX10_passIn_16 rfl (by decide) rfl ?_
    refine g_iconst X dX10_passIn_17 kc_0 ?_
    refine g_istore_n (i := 3) (lv' := [(3, .int (0 : Int32)), (2, .int (0 : Int32)), (0, .ref (ho 0)), (1, .ref (ho o1))]) X dX10_passIn_18 rfl (by decide) rfl ?_
    refine g_lv [2, 3, 1, 0] (lv' := [(0, .ref (ho 0)), (1, .ref (ho o1)), (2, .int (0 : Int32)), (3, .int (0 : Int32))]) rfl ?_
    exact hL19 _ _ _ _ hf
  refine g_bipush X dX10_passIn_12 kb_m3 ?_
  exact c_reti_s hA hQ X hr hlk dX10_passIn_14 hf
def rc_10_wanderIn : Room := { frames := 4, cells := 0, slots := 0, locals := 107 }
set_option maxRecDepth 100000 in
set_option maxHeartbeats 4000000 in
theorem cc_10_wanderIn (l : Launch) (dC : Nat → ClassId) (dI : Nat → Nat → Nat) (E : Nat → ClassId) (ev : Nat → Nat) (ho : Nat → Nat) (ro : Nat → Nat → Nat) (F : Nat) (P : va_W) (S : CS) (o1 : Nat) (x2 : Int32) (h_o1 : tw o1) (res : Int32 × CS) (hf : C_10_wanderIn F E P S o1 x2 = some res) : CC l dC dI E ev yX10_wanderIn cX10_wanderIn 4 (some .int) rc_10_wanderIn [.ref (ho 0), .ref (ho o1), .int x2] (CW E ho ro S ++ P) (CW E ho ro res.2 ++ P) (some (.int res.1)) := by
  refine CC_of (own := "LostLanes") (by decide) rfl (Nat.le_of_ble_eq_true rfl) ?_
  intro p e s m args below meth c A Q X Y hr hlk hA hQ
  refine g_lv [0, 1, 2] (lv' := [(0, .ref (ho 0)), (1, .ref (ho o1)), (2, .int x2)]) rfl ?_
  unfold C_10_wanderIn at hf
  refine g_aload_n X dX10_wanderIn_0 1 rfl ?_
  refine g_iload_n X dX10_wanderIn_1 2 rfl ?_
  refine m_bind hf (fun y1 hy1 hf => ?_)
  refine cw_V_i (cix := 7) (As := [.int x2]) (st := []) X Y kV_X10_139 (cc_7_hasChild l dC dI E ev ho ro P S o1 x2 h_o1 y1 hy1) (ob_7 h_o1) rfl ⟨Nat.le_of_ble_eq_true rfl, Nat.le_of_ble_eq_true rfl⟩ ⟨rfl, rfl⟩ (Nat.le_of_ble_eq_true rfl) ⟨Nat.le_of_ble_eq_true rfl, Nat.le_of_ble_eq_true rfl⟩ dX10_wanderIn_2 ?_
  refine g_if_ne (tgt := 11) X dX10_wanderIn_5 (by decide) hf (fun hf => ?_) (fun hf => ?_)
  · refine g_aload_n X dX10_wanderIn_11 0 rfl ?_
    refine cg_10_8 X wd2_58 dX10_wanderIn_12 ?_
    refine g_aload_n X dX10_wanderIn_15 1 rfl ?_
    refine g_aload_n X dX10_wanderIn_16 1 rfl ?_
    refine m_bind hf (fun y2 hy2 hf => ?_)
    refine cw_V_q (cix := 7) (As := []) (st := [.ref (ho o1), .ref (ho 11)]) X Y kV_X10_151 (cc_7_lawInForce l dC dI E ev ho ro P S o1 h_o1 y2 hy2) (ob_7 h_o1) rfl ⟨Nat.le_of_ble_eq_true rfl, Nat.le_of_ble_eq_true rfl⟩ ⟨rfl, rfl⟩ (Nat.le_of_ble_eq_true rfl) ⟨Nat.le_of_ble_eq_true rfl, Nat.le_of_ble_eq_true rfl⟩ dX10_wanderIn_17 ?_
    refine g_iload_n X dX10_wanderIn_20 2 rfl ?_
    refine m_bind hf (fun y3 hy3 hf => ?_)
    refine cw_V_i (cix := 9) (As := [.ref (ho o1), va_rf y2, .int x2]) (st := []) X Y kV_X10_159 (cc_9_laneTaken l dC dI E ev ho ro F P S o1 y2 x2 h_o1 y3 hy3) ob_9 rfl ⟨Nat.le_of_ble_eq_true rfl, Nat.le_of_ble_eq_true rfl⟩ ⟨rfl, rfl⟩ (Nat.le_of_ble_eq_true rfl) ⟨Nat.le_of_ble_eq_true rfl, Nat.le_of_ble_eq_true rfl⟩ dX10_wanderIn_21 ?_
    refine g_istore_n (i := 3) (lv' := [(3, .int y3.1), (0, .ref (ho 0)), (1, .ref (ho o1)), (2, .int x2)]) X dX10_wanderIn_24 rfl (by decide) rfl ?_
    refine g_iload_n X dX10_wanderIn_25 0 rfl ?_
    refine g_iconst X dX10_wanderIn_26 kc_m1 ?_
    refine g_icmp_ne (tgt := 33) X dX10_wanderIn_27 (by decide) hf (fun hf => ?_) (fun hf => ?_)
    · refine g_aload_n X dX10_wanderIn_33 2 rfl ?_
      refine g_iload_n X dX10_wanderIn_34 3 rfl ?_
      refine g_iload_n X dX10_wanderIn_35 0 rfl ?_
      refine m_bind hf (fun y4 hy4 hf => ?_)
      refine cw_V_v (cix := 7) (As := [.int x2, .int y3.1]) (st := []) X Y kV_X10_424 (cc_7_goAlong l dC dI E ev ho ro P y3.2 o1 x2 y3.1 h_o1 y4 hy4) (ob_7 h_o1) rfl ⟨Nat.le_of_ble_eq_true rfl, Nat.le_of_ble_eq_true rfl⟩ ⟨rfl, rfl⟩ (Nat.le_of_ble_eq_true rfl) ⟨Nat.le_of_ble_eq_true rfl, Nat.le_of_ble_eq_true rfl⟩ dX10_wanderIn_36 ?_
      refine g_aload_n X dX10_wanderIn_39 2 rfl ?_
      refine cg_7_7 X h_o1 wd1_68 dX10_wanderIn_40 ?_
      refine g_iload_n X dX10_wanderIn_43 3 rfl ?_
      refine ca_ld_7_7 X h_o1 dX10_wanderIn_44 hf (fun hf => ?_)
      exact c_reti_s hA hQ X hr hlk dX10_wanderIn_45 hf
    refine g_bipush X dX10_wanderIn_30 kb_m3 ?_
    exact c_reti_s hA hQ X hr hlk dX10_wanderIn_32 hf
  refine g_bipush X dX10_wanderIn_8 kb_m2 ?_
  exact c_reti_s hA hQ X hr hlk dX10_wanderIn_10 hf
def rc_10_act : Room := { frames := 5, cells := 0, slots := 0, locals := 131 }
set_option maxRecDepth 100000 in
set_option maxHeartbeats 4000000 in
theorem cc_10_act (l : Launch) (dC : Nat → ClassId) (dI : Nat → Nat → Nat) (E : Nat → ClassId) (ev : Nat → Nat) (ho : Nat → Nat) (ro : Nat → Nat → Nat) (F : Nat) (P : va_W) (S : CS) (x1 : Int32) (x2 : Int32) (x3 : Int32)  (res : Int32 × CS) (hf : C_10_act F E P S x1 x2 x3 = some res) : CC l dC dI E ev yX10_act cX10_act 5 (some .int) rc_10_act [.ref (ho 0), .int x1, .int x2, .int x3] (CW E ho ro S ++ P) (CW E ho ro res.2 ++ P) (some (.int res.1)) := by
  refine CC_of (own := "LostLanes") (by decide) rfl (Nat.le_of_ble_eq_true rfl) ?_
  intro p e s m args below meth c A Q X Y hr hlk hA hQ
  have hB78 : ∀ (S : CS) (x1 : Int32) (x4 : Int32), C_10_act_B78 F E P S x1 x4 = some res → GG p l e rc_10_act s m args below meth c dC dI A 5 0 0 Q (CW E ho ro S ++ P) 78 [(0, .ref (ho 0)), (1, .int x1), (4, .int x4)] [] := by
    intro S x1 x4 hf
    unfold C_10_act_B78 at hf
    refine g_iload X dX10_act_78 2 rfl ?_
    refine g_if_lt (tgt := 91) X dX10_act_80 (by decide) hf (fun hf => ?_) (fun hf => ?_)
    · refine g_iload X dX10_act_91 2 rfl ?_
      exact c_reti_s hA hQ X hr hlk dX10_act_93 hf
    refine g_aload_n X dX10_act_83 0 rfl ?_
    refine cg_10_4 X wd2_54 dX10_act_84 ?_
    refine g_iload_n X dX10_act_87 1 rfl ?_
    refine m_bind hf (fun y1 hy1 hf => ?_)
    refine cw_V_v (cix := 1) (As := [.int x1]) (st := []) X Y kV_X10_421 (cc_1_keepNote l dC dI E ev ho ro P S 7 x1 lg_7 y1 hy1) (ob_1 lg_7) rfl ⟨Nat.le_of_ble_eq_true rfl, Nat.le_of_ble_eq_true rfl⟩ ⟨rfl, rfl⟩ (Nat.le_of_ble_eq_true rfl) ⟨Nat.le_of_ble_eq_true rfl, Nat.le_of_ble_eq_true rfl⟩ dX10_act_88 ?_
    refine g_iload X dX10_act_91 2 rfl ?_
    exact c_reti_s hA hQ X hr hlk dX10_act_93 hf
  refine g_lv [0, 1, 2, 3] (lv' := [(0, .ref (ho 0)), (1, .int x1), (2, .int x2), (3, .int x3)]) rfl ?_
  unfold C_10_act at hf
  refine g_aload_n X dX10_act_0 0 rfl ?_
  refine cg_10_4 X wd2_54 dX10_act_1 ?_
  refine g_aload_n X dX10_act_4 0 rfl ?_
  refine cg_10_0 X wd2_50 dX10_act_5 ?_
  refine m_bind hf (fun y2 hy2 hf => ?_)
  refine cw_V_v (cix := 1) (As := [.ref (ho 1)]) (st := []) X Y kV_X10_415 (cc_1_note l dC dI E ev ho ro P S 7 1 lg_7 tw_1 y2 hy2) (ob_1 lg_7) rfl ⟨Nat.le_of_ble_eq_true rfl, Nat.le_of_ble_eq_true rfl⟩ ⟨rfl, rfl⟩ (Nat.le_of_ble_eq_true rfl) ⟨Nat.le_of_ble_eq_true rfl, Nat.le_of_ble_eq_true rfl⟩ dX10_act_8 ?_
  refine g_iload_n X dX10_act_11 1 rfl ?_
  refine g_if_ne (tgt := 29) X dX10_act_12 (by decide) hf (fun hf => ?_) (fun hf => ?_)
  · refine g_iload_n X dX10_act_29 1 rfl ?_
    refine g_iconst X dX10_act_30 kc_1 ?_
    refine g_icmp_ne (tgt := 48) X dX10_act_31 (by decide) hf (fun hf => ?_) (fun hf => ?_)
    · refine g_iload_n X dX10_act_48 1 rfl ?_
      refine g_iconst X dX10_act_49 kc_2 ?_
      refine g_icmp_ne (tgt := 68) X dX10_act_50 (by decide) hf (fun hf => ?_) (fun hf => ?_)
      · refine g_aload_n X dX10_act_68 0 rfl ?_
        refine g_aload_n X dX10_act_69 0 rfl ?_
        refine cg_10_0 X wd2_50 dX10_act_70 ?_
        refine m_bind hf (fun y3 hy3 hf => ?_)
        refine cw_V_i (cix := 10) (As := [.ref (ho 1)]) (st := []) X Y kV_X10_371 (cc_10_passIn l dC dI E ev ho ro F P y2.2 1 tw_1 y3 hy3) ob_10 rfl ⟨Nat.le_of_ble_eq_true rfl, Nat.le_of_ble_eq_true rfl⟩ ⟨rfl, rfl⟩ (Nat.le_of_ble_eq_true rfl) ⟨Nat.le_of_ble_eq_true rfl, Nat.le_of_ble_eq_true rfl⟩ dX10_act_73 ?_
        refine g_istore (lv' := [(4, .int y3.1), (0, .ref (ho 0)), (1, .int x1), (2, .int x2), (3, .int x3)]) X dX10_act_76 (by decide) rfl ?_
        refine g_lv [1, 2, 0] (lv' := [(0, .ref (ho 0)), (1, .int x1), (4, .int y3.1)]) rfl ?_
        exact hB78 _ _ _ hf
      refine g_aload_n X dX10_act_53 0 rfl ?_
      refine g_aload_n X dX10_act_54 0 rfl ?_
      refine cg_10_0 X wd2_50 dX10_act_55 ?_
      refine g_iload_n X dX10_act_58 2 rfl ?_
      refine g_iload_n X dX10_act_59 3 rfl ?_
      refine m_bind hf (fun y4 hy4 hf => ?_)
      refine cw_V_i (cix := 10) (As := [.ref (ho 1), .int x2, .int x3]) (st := []) X Y kV_X10_368 (cc_10_leadIn l dC dI E ev ho ro P y2.2 1 x2 x3 tw_1 y4 hy4) ob_10 rfl ⟨Nat.le_of_ble_eq_true rfl, Nat.le_of_ble_eq_true rfl⟩ ⟨rfl, rfl⟩ (Nat.le_of_ble_eq_true rfl) ⟨Nat.le_of_ble_eq_true rfl, Nat.le_of_ble_eq_true rfl⟩ dX10_act_60 ?_
      refine g_istore (lv' := [(4, .int y4.1), (0, .ref (ho 0)), (1, .int x1), (2, .int x2), (3, .int x3)]) X dX10_act_63 (by decide) rfl ?_
      refine g_goto (tgt := 78) X dX10_act_65 (by decide) ?_
      refine g_lv [1, 2, 0] (lv' := [(0, .ref (ho 0)), (1, .int x1), (4, .int y4.1)]) rfl ?_
      exact hB78 _ _ _ hf
    refine g_aload_n X dX10_act_34 0 rfl ?_
    refine g_aload_n X dX10_act_35 0 rfl ?_
    refine cg_10_0 X wd2_50 dX10_act_36 ?_
    refine g_iload_n X dX10_act_39 2 rfl ?_
    refine m_bind hf (fun y5 hy5 hf => ?_)
    refine cw_V_i (cix := 10) (As := [.ref (ho 1), .int x2]) (st := []) X Y kV_X10_364 (cc_10_cryIn l dC dI E ev ho ro F P y2.2 1 x2 tw_1 y5 hy5) ob_10 rfl ⟨Nat.le_of_ble_eq_true rfl, Nat.le_of_ble_eq_true rfl⟩ ⟨rfl, rfl⟩ (Nat.le_of_ble_eq_true rfl) ⟨Nat.le_of_ble_eq_true rfl, Nat.le_of_ble_eq_true rfl⟩ dX10_act_40 ?_
    refine g_istore (lv' := [(4, .int y5.1), (0, .ref (ho 0)), (1, .int x1), (2, .int x2), (3, .int x3)]) X dX10_act_43 (by decide) rfl ?_
    refine g_goto (tgt := 78) X dX10_act_45 (by decide) ?_
    refine g_lv [1, 2, 0] (lv' := [(0, .ref (ho 0)), (1, .int x1), (4, .int y5.1)]) rfl ?_
    exact hB78 _ _ _ hf
  refine g_aload_n X dX10_act_15 0 rfl ?_
  refine g_aload_n X dX10_act_16 0 rfl ?_
  refine cg_10_0 X wd2_50 dX10_act_17 ?_
  refine g_iload_n X dX10_act_20 2 rfl ?_
  refine m_bind hf (fun y6 hy6 hf => ?_)
  refine cw_V_i (cix := 10) (As := [.ref (ho 1), .int x2]) (st := []) X Y kV_X10_418 (cc_10_wanderIn l dC dI E ev ho ro F P y2.2 1 x2 tw_1 y6 hy6) ob_10 rfl ⟨Nat.le_of_ble_eq_true rfl, Nat.le_of_ble_eq_true rfl⟩ ⟨rfl, rfl⟩ (Nat.le_of_ble_eq_true rfl) ⟨Nat.le_of_ble_eq_true rfl, Nat.le_of_ble_eq_true rfl⟩ dX10_act_21 ?_
  refine g_istore (lv' := [(4, .int y6.1), (0, .ref (ho 0)), (1, .int x1), (2, .int x2), (3, .int x3)]) X dX10_act_24 (by decide) rfl ?_
  refine g_goto (tgt := 78) X dX10_act_26 (by decide) ?_
  refine g_lv [1, 2, 0] (lv' := [(0, .ref (ho 0)), (1, .int x1), (4, .int y6.1)]) rfl ?_
  exact hB78 _ _ _ hf
def rc_10_answer : Room := { frames := 1, cells := 0, slots := 0, locals := 22 }
set_option maxRecDepth 100000 in
set_option maxHeartbeats 4000000 in
theorem cc_10_answer (l : Launch) (dC : Nat → ClassId) (dI : Nat → Nat → Nat) (E : Nat → ClassId) (ev : Nat → Nat) (ho : Nat → Nat) (ro : Nat → Nat → Nat) (P : va_W) (S : CS) (x1 : Int32)  (res : Int32 × CS) (hf : C_10_answer S x1 = some res) : CC l dC dI E ev yX10_answer cX10_answer 2 (some .int) rc_10_answer [.ref (ho 0), .int x1] (CW E ho ro S ++ P) (CW E ho ro res.2 ++ P) (some (.int res.1)) := by
  refine CC_of (own := "LostLanes") (by decide) rfl (Nat.le_of_ble_eq_true rfl) ?_
  intro p e s m args below meth c A Q X Y hr hlk hA hQ
  refine g_lv [0, 1] (lv' := [(0, .ref (ho 0)), (1, .int x1)]) rfl ?_
  unfold C_10_answer at hf
  refine g_iload_n X dX10_answer_0 1 rfl ?_
  refine g_if_ge (tgt := 12) X dX10_answer_1 (by decide) hf (fun hf => ?_) (fun hf => ?_)
  · refine g_aload_n X dX10_answer_12 0 rfl ?_
    refine g_iload_n X dX10_answer_13 1 rfl ?_
    refine m_bind hf (fun y1 hy1 hf => ?_)
    refine cw_V_i (cix := 10) (As := [.int x1]) (st := []) X Y kV_X10_107 (cc_10_accept l dC dI E ev ho ro P S x1 y1 hy1) ob_10 rfl ⟨Nat.le_of_ble_eq_true rfl, Nat.le_of_ble_eq_true rfl⟩ ⟨rfl, rfl⟩ (Nat.le_of_ble_eq_true rfl) ⟨Nat.le_of_ble_eq_true rfl, Nat.le_of_ble_eq_true rfl⟩ dX10_answer_14 ?_
    exact c_reti_s hA hQ X hr hlk dX10_answer_17 hf
  refine g_aload_n X dX10_answer_4 0 rfl ?_
  refine g_iload_n X dX10_answer_5 1 rfl ?_
  refine m_bind hf (fun y2 hy2 hf => ?_)
  refine cw_V_i (cix := 10) (As := [.int x1]) (st := []) X Y kV_X10_93 (cc_10_refuse l dC dI E ev ho ro P S x1 y2 hy2) ob_10 rfl ⟨Nat.le_of_ble_eq_true rfl, Nat.le_of_ble_eq_true rfl⟩ ⟨rfl, rfl⟩ (Nat.le_of_ble_eq_true rfl) ⟨Nat.le_of_ble_eq_true rfl, Nat.le_of_ble_eq_true rfl⟩ dX10_answer_6 ?_
  refine g_goto (tgt := 17) X dX10_answer_9 (by decide) ?_
  exact c_reti_s hA hQ X hr hlk dX10_answer_17 hf
def rc_10_wander : Room := { frames := 6, cells := 0, slots := 0, locals := 155 }
set_option maxRecDepth 100000 in
set_option maxHeartbeats 4000000 in
theorem cc_10_wander (l : Launch) (dC : Nat → ClassId) (dI : Nat → Nat → Nat) (E : Nat → ClassId) (ev : Nat → Nat) (ho : Nat → Nat) (ro : Nat → Nat → Nat) (F : Nat) (P : va_W) (S : CS) (x1 : Int32)  (res : Int32 × CS) (hf : C_10_wander F E P S x1 = some res) : CC l dC dI E ev yX10_wander cX10_wander 2 (some .int) rc_10_wander [.ref (ho 0), .int x1] (CW E ho ro S ++ P) (CW E ho ro res.2 ++ P) (some (.int res.1)) := by
  refine CC_of (own := "LostLanes") (by decide) rfl (Nat.le_of_ble_eq_true rfl) ?_
  intro p e s m args below meth c A Q X Y hr hlk hA hQ
  refine g_lv [0, 1] (lv' := [(0, .ref (ho 0)), (1, .int x1)]) rfl ?_
  unfold C_10_wander at hf
  refine g_aload_n X dX10_wander_0 0 rfl ?_
  refine g_aload_n X dX10_wander_1 0 rfl ?_
  refine g_iconst X dX10_wander_2 kc_0 ?_
  refine g_iload_n X dX10_wander_3 1 rfl ?_
  refine g_iconst X dX10_wander_4 kc_m1 ?_
  refine m_bind hf (fun y1 hy1 hf => ?_)
  refine cw_V_i (cix := 10) (As := [.int (0 : Int32), .int x1, .int (-1 : Int32)]) (st := [.ref (ho 0)]) X Y kV_X10_237 (cc_10_act l dC dI E ev ho ro F P S (0 : Int32) x1 (-1 : Int32) y1 hy1) ob_10 rfl ⟨Nat.le_of_ble_eq_true rfl, Nat.le_of_ble_eq_true rfl⟩ ⟨rfl, rfl⟩ (Nat.le_of_ble_eq_true rfl) ⟨Nat.le_of_ble_eq_true rfl, Nat.le_of_ble_eq_true rfl⟩ dX10_wander_5 ?_
  refine m_bind hf (fun y2 hy2 hf => ?_)
  refine cw_V_i (cix := 10) (As := [.int y1.1]) (st := []) X Y kV_X10_241 (cc_10_answer l dC dI E ev ho ro P y1.2 y1.1 y2 hy2) ob_10 rfl ⟨Nat.le_of_ble_eq_true rfl, Nat.le_of_ble_eq_true rfl⟩ ⟨rfl, rfl⟩ (Nat.le_of_ble_eq_true rfl) ⟨Nat.le_of_ble_eq_true rfl, Nat.le_of_ble_eq_true rfl⟩ dX10_wander_8 ?_
  exact c_reti_s hA hQ X hr hlk dX10_wander_11 hf
def rc_10_cry : Room := { frames := 6, cells := 0, slots := 0, locals := 155 }
set_option maxRecDepth 100000 in
set_option maxHeartbeats 4000000 in
theorem cc_10_cry (l : Launch) (dC : Nat → ClassId) (dI : Nat → Nat → Nat) (E : Nat → ClassId) (ev : Nat → Nat) (ho : Nat → Nat) (ro : Nat → Nat → Nat) (F : Nat) (P : va_W) (S : CS) (x1 : Int32)  (res : Int32 × CS) (hf : C_10_cry F E P S x1 = some res) : CC l dC dI E ev yX10_cry cX10_cry 2 (some .int) rc_10_cry [.ref (ho 0), .int x1] (CW E ho ro S ++ P) (CW E ho ro res.2 ++ P) (some (.int res.1)) := by
  refine CC_of (own := "LostLanes") (by decide) rfl (Nat.le_of_ble_eq_true rfl) ?_
  intro p e s m args below meth c A Q X Y hr hlk hA hQ
  refine g_lv [0, 1] (lv' := [(0, .ref (ho 0)), (1, .int x1)]) rfl ?_
  unfold C_10_cry at hf
  refine g_aload_n X dX10_cry_0 0 rfl ?_
  refine g_aload_n X dX10_cry_1 0 rfl ?_
  refine g_iconst X dX10_cry_2 kc_1 ?_
  refine g_iload_n X dX10_cry_3 1 rfl ?_
  refine g_iconst X dX10_cry_4 kc_m1 ?_
  refine m_bind hf (fun y1 hy1 hf => ?_)
  refine cw_V_i (cix := 10) (As := [.int (1 : Int32), .int x1, .int (-1 : Int32)]) (st := [.ref (ho 0)]) X Y kV_X10_237 (cc_10_act l dC dI E ev ho ro F P S (1 : Int32) x1 (-1 : Int32) y1 hy1) ob_10 rfl ⟨Nat.le_of_ble_eq_true rfl, Nat.le_of_ble_eq_true rfl⟩ ⟨rfl, rfl⟩ (Nat.le_of_ble_eq_true rfl) ⟨Nat.le_of_ble_eq_true rfl, Nat.le_of_ble_eq_true rfl⟩ dX10_cry_5 ?_
  refine m_bind hf (fun y2 hy2 hf => ?_)
  refine cw_V_i (cix := 10) (As := [.int y1.1]) (st := []) X Y kV_X10_241 (cc_10_answer l dC dI E ev ho ro P y1.2 y1.1 y2 hy2) ob_10 rfl ⟨Nat.le_of_ble_eq_true rfl, Nat.le_of_ble_eq_true rfl⟩ ⟨rfl, rfl⟩ (Nat.le_of_ble_eq_true rfl) ⟨Nat.le_of_ble_eq_true rfl, Nat.le_of_ble_eq_true rfl⟩ dX10_cry_8 ?_
  exact c_reti_s hA hQ X hr hlk dX10_cry_11 hf
def rc_10_lead : Room := { frames := 6, cells := 0, slots := 0, locals := 155 }
set_option maxRecDepth 100000 in
set_option maxHeartbeats 4000000 in
theorem cc_10_lead (l : Launch) (dC : Nat → ClassId) (dI : Nat → Nat → Nat) (E : Nat → ClassId) (ev : Nat → Nat) (ho : Nat → Nat) (ro : Nat → Nat → Nat) (F : Nat) (P : va_W) (S : CS) (x1 : Int32) (x2 : Int32)  (res : Int32 × CS) (hf : C_10_lead F E P S x1 x2 = some res) : CC l dC dI E ev yX10_lead cX10_lead 3 (some .int) rc_10_lead [.ref (ho 0), .int x1, .int x2] (CW E ho ro S ++ P) (CW E ho ro res.2 ++ P) (some (.int res.1)) := by
  refine CC_of (own := "LostLanes") (by decide) rfl (Nat.le_of_ble_eq_true rfl) ?_
  intro p e s m args below meth c A Q X Y hr hlk hA hQ
  refine g_lv [0, 1, 2] (lv' := [(0, .ref (ho 0)), (1, .int x1), (2, .int x2)]) rfl ?_
  unfold C_10_lead at hf
  refine g_aload_n X dX10_lead_0 0 rfl ?_
  refine g_aload_n X dX10_lead_1 0 rfl ?_
  refine g_iconst X dX10_lead_2 kc_2 ?_
  refine g_iload_n X dX10_lead_3 1 rfl ?_
  refine g_iload_n X dX10_lead_4 2 rfl ?_
  refine m_bind hf (fun y1 hy1 hf => ?_)
  refine cw_V_i (cix := 10) (As := [.int (2 : Int32), .int x1, .int x2]) (st := [.ref (ho 0)]) X Y kV_X10_237 (cc_10_act l dC dI E ev ho ro F P S (2 : Int32) x1 x2 y1 hy1) ob_10 rfl ⟨Nat.le_of_ble_eq_true rfl, Nat.le_of_ble_eq_true rfl⟩ ⟨rfl, rfl⟩ (Nat.le_of_ble_eq_true rfl) ⟨Nat.le_of_ble_eq_true rfl, Nat.le_of_ble_eq_true rfl⟩ dX10_lead_5 ?_
  refine m_bind hf (fun y2 hy2 hf => ?_)
  refine cw_V_i (cix := 10) (As := [.int y1.1]) (st := []) X Y kV_X10_241 (cc_10_answer l dC dI E ev ho ro P y1.2 y1.1 y2 hy2) ob_10 rfl ⟨Nat.le_of_ble_eq_true rfl, Nat.le_of_ble_eq_true rfl⟩ ⟨rfl, rfl⟩ (Nat.le_of_ble_eq_true rfl) ⟨Nat.le_of_ble_eq_true rfl, Nat.le_of_ble_eq_true rfl⟩ dX10_lead_8 ?_
  exact c_reti_s hA hQ X hr hlk dX10_lead_11 hf
def rc_10_pass : Room := { frames := 6, cells := 0, slots := 0, locals := 155 }
set_option maxRecDepth 100000 in
set_option maxHeartbeats 4000000 in
theorem cc_10_pass (l : Launch) (dC : Nat → ClassId) (dI : Nat → Nat → Nat) (E : Nat → ClassId) (ev : Nat → Nat) (ho : Nat → Nat) (ro : Nat → Nat → Nat) (F : Nat) (P : va_W) (S : CS)   (res : Int32 × CS) (hf : C_10_pass F E P S = some res) : CC l dC dI E ev yX10_pass cX10_pass 1 (some .int) rc_10_pass [.ref (ho 0)] (CW E ho ro S ++ P) (CW E ho ro res.2 ++ P) (some (.int res.1)) := by
  refine CC_of (own := "LostLanes") (by decide) rfl (Nat.le_of_ble_eq_true rfl) ?_
  intro p e s m args below meth c A Q X Y hr hlk hA hQ
  refine g_lv [0] (lv' := [(0, .ref (ho 0))]) rfl ?_
  unfold C_10_pass at hf
  refine g_aload_n X dX10_pass_0 0 rfl ?_
  refine g_aload_n X dX10_pass_1 0 rfl ?_
  refine g_iconst X dX10_pass_2 kc_3 ?_
  refine g_iconst X dX10_pass_3 kc_m1 ?_
  refine g_iconst X dX10_pass_4 kc_m1 ?_
  refine m_bind hf (fun y1 hy1 hf => ?_)
  refine cw_V_i (cix := 10) (As := [.int (3 : Int32), .int (-1 : Int32), .int (-1 : Int32)]) (st := [.ref (ho 0)]) X Y kV_X10_237 (cc_10_act l dC dI E ev ho ro F P S (3 : Int32) (-1 : Int32) (-1 : Int32) y1 hy1) ob_10 rfl ⟨Nat.le_of_ble_eq_true rfl, Nat.le_of_ble_eq_true rfl⟩ ⟨rfl, rfl⟩ (Nat.le_of_ble_eq_true rfl) ⟨Nat.le_of_ble_eq_true rfl, Nat.le_of_ble_eq_true rfl⟩ dX10_pass_5 ?_
  refine m_bind hf (fun y2 hy2 hf => ?_)
  refine cw_V_i (cix := 10) (As := [.int y1.1]) (st := []) X Y kV_X10_241 (cc_10_answer l dC dI E ev ho ro P y1.2 y1.1 y2 hy2) ob_10 rfl ⟨Nat.le_of_ble_eq_true rfl, Nat.le_of_ble_eq_true rfl⟩ ⟨rfl, rfl⟩ (Nat.le_of_ble_eq_true rfl) ⟨Nat.le_of_ble_eq_true rfl, Nat.le_of_ble_eq_true rfl⟩ dX10_pass_8 ?_
  exact c_reti_s hA hQ X hr hlk dX10_pass_11 hf
def rc_10_undo : Room := { frames := 2, cells := 0, slots := 0, locals := 82 }
set_option maxRecDepth 100000 in
set_option maxHeartbeats 4000000 in
theorem cc_10_undo (l : Launch) (dC : Nat → ClassId) (dI : Nat → Nat → Nat) (E : Nat → ClassId) (ev : Nat → Nat) (ho : Nat → Nat) (ro : Nat → Nat → Nat) (P : va_W) (S : CS)   (res : Int32 × CS) (hf : C_10_undo S = some res) : CC l dC dI E ev yX10_undo cX10_undo 1 (some .int) rc_10_undo [.ref (ho 0)] (CW E ho ro S ++ P) (CW E ho ro res.2 ++ P) (some (.int res.1)) := by
  refine CC_of (own := "LostLanes") (by decide) rfl (Nat.le_of_ble_eq_true rfl) ?_
  intro p e s m args below meth c A Q X Y hr hlk hA hQ
  refine g_lv [0] (lv' := [(0, .ref (ho 0))]) rfl ?_
  unfold C_10_undo at hf
  refine g_aload_n X dX10_undo_0 0 rfl ?_
  refine cg_10_4 X wd2_54 dX10_undo_1 ?_
  refine cg_1_2 X lg_7 wd1_134 dX10_undo_4 ?_
  refine g_if_gt (tgt := 17) X dX10_undo_7 (by decide) hf (fun hf => ?_) (fun hf => ?_)
  · refine g_aload_n X dX10_undo_17 0 rfl ?_
    refine g_aload_n X dX10_undo_18 0 rfl ?_
    refine cg_10_4 X wd2_54 dX10_undo_19 ?_
    refine g_aload_n X dX10_undo_22 0 rfl ?_
    refine cg_10_0 X wd2_50 dX10_undo_23 ?_
    refine m_bind hf (fun y1 hy1 hf => ?_)
    refine cw_V_i (cix := 1) (As := [.ref (ho 1)]) (st := [.ref (ho 0)]) X Y kV_X10_244 (cc_1_takeBack l dC dI E ev ho ro P S 7 1 lg_7 tw_1 y1 hy1) (ob_1 lg_7) rfl ⟨Nat.le_of_ble_eq_true rfl, Nat.le_of_ble_eq_true rfl⟩ ⟨rfl, rfl⟩ (Nat.le_of_ble_eq_true rfl) ⟨Nat.le_of_ble_eq_true rfl, Nat.le_of_ble_eq_true rfl⟩ dX10_undo_26 ?_
    refine m_bind hf (fun y2 hy2 hf => ?_)
    refine cw_V_i (cix := 10) (As := [.int y1.1]) (st := []) X Y kV_X10_107 (cc_10_accept l dC dI E ev ho ro P y1.2 y1.1 y2 hy2) ob_10 rfl ⟨Nat.le_of_ble_eq_true rfl, Nat.le_of_ble_eq_true rfl⟩ ⟨rfl, rfl⟩ (Nat.le_of_ble_eq_true rfl) ⟨Nat.le_of_ble_eq_true rfl, Nat.le_of_ble_eq_true rfl⟩ dX10_undo_29 ?_
    exact c_reti_s hA hQ X hr hlk dX10_undo_32 hf
  refine g_aload_n X dX10_undo_10 0 rfl ?_
  refine g_bipush X dX10_undo_11 kb_m3 ?_
  refine m_bind hf (fun y3 hy3 hf => ?_)
  refine cw_V_i (cix := 10) (As := [.int (-3 : Int32)]) (st := []) X Y kV_X10_93 (cc_10_refuse l dC dI E ev ho ro P S (-3 : Int32) y3 hy3) ob_10 rfl ⟨Nat.le_of_ble_eq_true rfl, Nat.le_of_ble_eq_true rfl⟩ ⟨rfl, rfl⟩ (Nat.le_of_ble_eq_true rfl) ⟨Nat.le_of_ble_eq_true rfl, Nat.le_of_ble_eq_true rfl⟩ dX10_undo_13 ?_
  exact c_reti_s hA hQ X hr hlk dX10_undo_16 hf
def rc_10_where : Room := { frames := 5, cells := 0, slots := 0, locals := 132 }
set_option maxRecDepth 100000 in
set_option maxHeartbeats 4000000 in
theorem cc_10_where (l : Launch) (dC : Nat → ClassId) (dI : Nat → Nat → Nat) (E : Nat → ClassId) (ev : Nat → Nat) (ho : Nat → Nat) (ro : Nat → Nat → Nat) (F : Nat) (P : va_W) (S : CS) (x1 : Int32) (x2 : Int32)  (res : Int32 × CS) (hf : C_10_where F E P S x1 x2 = some res) : CC l dC dI E ev yX10_where cX10_where 3 (some .int) rc_10_where [.ref (ho 0), .int x1, .int x2] (CW E ho ro S ++ P) (CW E ho ro res.2 ++ P) (some (.int res.1)) := by
  refine CC_of (own := "LostLanes") (by decide) rfl (Nat.le_of_ble_eq_true rfl) ?_
  intro p e s m args below meth c A Q X Y hr hlk hA hQ
  refine g_lv [0, 1, 2] (lv' := [(0, .ref (ho 0)), (1, .int x1), (2, .int x2)]) rfl ?_
  unfold C_10_where at hf
  refine g_aload_n X dX10_where_0 0 rfl ?_
  refine cg_10_0 X wd2_50 dX10_where_1 ?_
  refine g_iload_n X dX10_where_4 1 rfl ?_
  refine m_bind hf (fun y1 hy1 hf => ?_)
  refine cw_V_i (cix := 7) (As := [.int x1]) (st := []) X Y kV_X10_139 (cc_7_hasChild l dC dI E ev ho ro P S 1 x1 tw_1 y1 hy1) (ob_7 tw_1) rfl ⟨Nat.le_of_ble_eq_true rfl, Nat.le_of_ble_eq_true rfl⟩ ⟨rfl, rfl⟩ (Nat.le_of_ble_eq_true rfl) ⟨Nat.le_of_ble_eq_true rfl, Nat.le_of_ble_eq_true rfl⟩ dX10_where_5 ?_
  refine g_if_eq (tgt := 21) X dX10_where_8 (by decide) hf (fun hf => ?_) (fun hf => ?_)
  · refine g_iconst X dX10_where_21 kc_m1 ?_
    exact c_reti_s hA hQ X hr hlk dX10_where_22 hf
  refine g_iload_n X dX10_where_11 2 rfl ?_
  refine g_if_lt (tgt := 21) X dX10_where_12 (by decide) hf (fun hf => ?_) (fun hf => ?_)
  · refine g_iconst X dX10_where_21 kc_m1 ?_
    exact c_reti_s hA hQ X hr hlk dX10_where_22 hf
  refine g_iload_n X dX10_where_15 2 rfl ?_
  refine g_bipush X dX10_where_16 kb_60 ?_
  refine g_icmp_le (tgt := 23) X dX10_where_18 (by decide) hf (fun hf => ?_) (fun hf => ?_)
  · refine g_aload_n X dX10_where_23 0 rfl ?_
    refine cg_10_8 X wd2_58 dX10_where_24 ?_
    refine g_aload_n X dX10_where_27 0 rfl ?_
    refine cg_10_0 X wd2_50 dX10_where_28 ?_
    refine g_iload_n X dX10_where_31 1 rfl ?_
    refine g_iload_n X dX10_where_32 2 rfl ?_
    refine m_bind hf (fun y2 hy2 hf => ?_)
    refine cw_V_v (cix := 9) (As := [.ref (ho 1), .int x1, .int x2]) (st := []) X Y kV_X10_248 (cc_9_follow l dC dI E ev ho ro F P S 1 x1 x2 tw_1 y2 hy2) ob_9 rfl ⟨Nat.le_of_ble_eq_true rfl, Nat.le_of_ble_eq_true rfl⟩ ⟨rfl, rfl⟩ (Nat.le_of_ble_eq_true rfl) ⟨Nat.le_of_ble_eq_true rfl, Nat.le_of_ble_eq_true rfl⟩ dX10_where_33 ?_
    refine g_aload_n X dX10_where_36 0 rfl ?_
    refine cg_10_8 X wd2_58 dX10_where_37 ?_
    refine cg_9_4 X wd1_226 dX10_where_40 ?_
    refine g_iload_n X dX10_where_43 2 rfl ?_
    refine ca_ld_9_4 X dX10_where_44 hf (fun hf => ?_)
    exact c_reti_s hA hQ X hr hlk dX10_where_45 hf
  refine g_iconst X dX10_where_21 kc_m1 ?_
  exact c_reti_s hA hQ X hr hlk dX10_where_22 hf
def rc_10_far : Room := { frames := 4, cells := 0, slots := 0, locals := 91 }
set_option maxRecDepth 100000 in
set_option maxHeartbeats 4000000 in
theorem cc_10_far (l : Launch) (dC : Nat → ClassId) (dI : Nat → Nat → Nat) (E : Nat → ClassId) (ev : Nat → Nat) (ho : Nat → Nat) (ro : Nat → Nat → Nat) (F : Nat) (P : va_W) (S : CS) (x1 : Int32) (x2 : Int32)  (res : Int32 × CS) (hf : C_10_far F S x1 x2 = some res) : CC l dC dI E ev yX10_far cX10_far 4 (some .int) rc_10_far [.ref (ho 0), .int x1, .int x2] (CW E ho ro S ++ P) (CW E ho ro res.2 ++ P) (some (.int res.1)) := by
  refine CC_of (own := "LostLanes") (by decide) rfl (Nat.le_of_ble_eq_true rfl) ?_
  intro p e s m args below meth c A Q X Y hr hlk hA hQ
  refine g_lv [0, 1, 2] (lv' := [(0, .ref (ho 0)), (1, .int x1), (2, .int x2)]) rfl ?_
  unfold C_10_far at hf
  refine g_iload_n X dX10_far_0 1 rfl ?_
  refine m_bind hf (fun y1 hy1 hf => ?_)
  refine cw_S_i (As := [.int x1]) (st := []) X Y kS_X10_129 (cc_10_isCorner l dC dI E ev ho ro P S x1 y1 hy1) ⟨Nat.le_of_ble_eq_true rfl, Nat.le_of_ble_eq_true rfl⟩ ⟨rfl, rfl⟩ (Nat.le_of_ble_eq_true rfl) ⟨Nat.le_of_ble_eq_true rfl, Nat.le_of_ble_eq_true rfl⟩ dX10_far_1 ?_
  refine g_if_eq (tgt := 14) X dX10_far_4 (by decide) hf (fun hf => ?_) (fun hf => ?_)
  · refine g_iconst X dX10_far_14 kc_m1 ?_
    exact c_reti_s hA hQ X hr hlk dX10_far_15 hf
  refine g_iload_n X dX10_far_7 2 rfl ?_
  refine m_bind hf (fun y2 hy2 hf => ?_)
  refine cw_S_i (As := [.int x2]) (st := []) X Y kS_X10_129 (cc_10_isCorner l dC dI E ev ho ro P S x2 y2 hy2) ⟨Nat.le_of_ble_eq_true rfl, Nat.le_of_ble_eq_true rfl⟩ ⟨rfl, rfl⟩ (Nat.le_of_ble_eq_true rfl) ⟨Nat.le_of_ble_eq_true rfl, Nat.le_of_ble_eq_true rfl⟩ dX10_far_8 ?_
  refine g_if_ne (tgt := 16) X dX10_far_11 (by decide) hf (fun hf => ?_) (fun hf => ?_)
  · refine g_aload_n X dX10_far_16 0 rfl ?_
    refine cg_10_10 X wd2_60 dX10_far_17 ?_
    refine g_aload_n X dX10_far_20 0 rfl ?_
    refine cg_10_0 X wd2_50 dX10_far_21 ?_
    refine m_bind hf (fun y3 hy3 hf => ?_)
    refine cw_V_v (cix := 8) (As := [.ref (ho 1)]) (st := []) X Y kV_X10_255 (cc_8_measure l dC dI E ev ho ro F P S 1 tw_1 y3 hy3) ob_8 rfl ⟨Nat.le_of_ble_eq_true rfl, Nat.le_of_ble_eq_true rfl⟩ ⟨rfl, rfl⟩ (Nat.le_of_ble_eq_true rfl) ⟨Nat.le_of_ble_eq_true rfl, Nat.le_of_ble_eq_true rfl⟩ dX10_far_24 ?_
    refine g_aload_n X dX10_far_27 0 rfl ?_
    refine cg_10_10 X wd2_60 dX10_far_28 ?_
    refine g_iload_n X dX10_far_31 1 rfl ?_
    refine g_iload_n X dX10_far_32 2 rfl ?_
    refine m_bind hf (fun y4 hy4 hf => ?_)
    refine cw_V_i (cix := 8) (As := [.int x1, .int x2]) (st := []) X Y kV_X10_258 (cc_8_between l dC dI E ev ho ro P y3.2 x1 x2 y4 hy4) ob_8 rfl ⟨Nat.le_of_ble_eq_true rfl, Nat.le_of_ble_eq_true rfl⟩ ⟨rfl, rfl⟩ (Nat.le_of_ble_eq_true rfl) ⟨Nat.le_of_ble_eq_true rfl, Nat.le_of_ble_eq_true rfl⟩ dX10_far_33 ?_
    refine g_istore_n (i := 3) (lv' := [(3, .int y4), (0, .ref (ho 0)), (1, .int x1), (2, .int x2)]) X dX10_far_36 rfl (by decide) rfl ?_
    refine g_iload_n X dX10_far_37 0 rfl ?_
    refine g_ldcw X dX10_far_38 wd4_156 ?_
    refine g_icmp_ge (tgt := 48) X dX10_far_41 (by decide) hf (fun hf => ?_) (fun hf => ?_)
    · refine g_iconst X dX10_far_48 kc_m1 ?_
      exact c_reti_s hA hQ X hr hlk dX10_far_49 hf
    refine g_iload_n X dX10_far_44 0 rfl ?_
    refine g_goto (tgt := 49) X dX10_far_45 (by decide) ?_
    exact c_reti_s hA hQ X hr hlk dX10_far_49 hf
  refine g_iconst X dX10_far_14 kc_m1 ?_
  exact c_reti_s hA hQ X hr hlk dX10_far_15 hf
def rc_10_found : Room := { frames := 5, cells := 0, slots := 0, locals := 132 }
set_option maxRecDepth 100000 in
set_option maxHeartbeats 4000000 in
theorem cc_10_found (l : Launch) (dC : Nat → ClassId) (dI : Nat → Nat → Nat) (E : Nat → ClassId) (ev : Nat → Nat) (ho : Nat → Nat) (ro : Nat → Nat → Nat) (F : Nat) (P : va_W) (S : CS) (x1 : Int32) (x2 : Int32)  (res : Int32 × CS) (hf : C_10_found F E P S x1 x2 = some res) : CC l dC dI E ev yX10_found cX10_found 4 (some .int) rc_10_found [.ref (ho 0), .int x1, .int x2] (CW E ho ro S ++ P) (CW E ho ro res.2 ++ P) (some (.int res.1)) := by
  refine CC_of (own := "LostLanes") (by decide) rfl (Nat.le_of_ble_eq_true rfl) ?_
  intro p e s m args below meth c A Q X Y hr hlk hA hQ
  refine g_lv [0, 1, 2] (lv' := [(0, .ref (ho 0)), (1, .int x1), (2, .int x2)]) rfl ?_
  unfold C_10_found at hf
  refine g_iload_n X dX10_found_0 1 rfl ?_
  refine m_bind hf (fun y1 hy1 hf => ?_)
  refine cw_S_i (As := [.int x1]) (st := []) X Y kS_X10_129 (cc_10_isCorner l dC dI E ev ho ro P S x1 y1 hy1) ⟨Nat.le_of_ble_eq_true rfl, Nat.le_of_ble_eq_true rfl⟩ ⟨rfl, rfl⟩ (Nat.le_of_ble_eq_true rfl) ⟨Nat.le_of_ble_eq_true rfl, Nat.le_of_ble_eq_true rfl⟩ dX10_found_1 ?_
  refine g_if_eq (tgt := 18) X dX10_found_4 (by decide) hf (fun hf => ?_) (fun hf => ?_)
  · refine g_iconst X dX10_found_18 kc_m1 ?_
    exact c_reti_s hA hQ X hr hlk dX10_found_19 hf
  refine g_aload_n X dX10_found_7 0 rfl ?_
  refine cg_10_0 X wd2_50 dX10_found_8 ?_
  refine g_iload_n X dX10_found_11 2 rfl ?_
  refine m_bind hf (fun y2 hy2 hf => ?_)
  refine cw_V_i (cix := 7) (As := [.int x2]) (st := []) X Y kV_X10_139 (cc_7_hasChild l dC dI E ev ho ro P S 1 x2 tw_1 y2 hy2) (ob_7 tw_1) rfl ⟨Nat.le_of_ble_eq_true rfl, Nat.le_of_ble_eq_true rfl⟩ ⟨rfl, rfl⟩ (Nat.le_of_ble_eq_true rfl) ⟨Nat.le_of_ble_eq_true rfl, Nat.le_of_ble_eq_true rfl⟩ dX10_found_12 ?_
  refine g_if_ne (tgt := 20) X dX10_found_15 (by decide) hf (fun hf => ?_) (fun hf => ?_)
  · refine g_aload_n X dX10_found_20 0 rfl ?_
    refine cg_10_10 X wd2_60 dX10_found_21 ?_
    refine g_aload_n X dX10_found_24 0 rfl ?_
    refine cg_10_0 X wd2_50 dX10_found_25 ?_
    refine m_bind hf (fun y3 hy3 hf => ?_)
    refine cw_V_v (cix := 8) (As := [.ref (ho 1)]) (st := []) X Y kV_X10_255 (cc_8_measure l dC dI E ev ho ro F P S 1 tw_1 y3 hy3) ob_8 rfl ⟨Nat.le_of_ble_eq_true rfl, Nat.le_of_ble_eq_true rfl⟩ ⟨rfl, rfl⟩ (Nat.le_of_ble_eq_true rfl) ⟨Nat.le_of_ble_eq_true rfl, Nat.le_of_ble_eq_true rfl⟩ dX10_found_28 ?_
    refine g_aload_n X dX10_found_31 0 rfl ?_
    refine cg_10_8 X wd2_58 dX10_found_32 ?_
    refine g_aload_n X dX10_found_35 0 rfl ?_
    refine cg_10_0 X wd2_50 dX10_found_36 ?_
    refine g_iload_n X dX10_found_39 2 rfl ?_
    refine g_bipush X dX10_found_40 kb_60 ?_
    refine m_bind hf (fun y4 hy4 hf => ?_)
    refine cw_V_v (cix := 9) (As := [.ref (ho 1), .int x2, .int (60 : Int32)]) (st := []) X Y kV_X10_248 (cc_9_follow l dC dI E ev ho ro F P y3.2 1 x2 (60 : Int32) tw_1 y4 hy4) ob_9 rfl ⟨Nat.le_of_ble_eq_true rfl, Nat.le_of_ble_eq_true rfl⟩ ⟨rfl, rfl⟩ (Nat.le_of_ble_eq_true rfl) ⟨Nat.le_of_ble_eq_true rfl, Nat.le_of_ble_eq_true rfl⟩ dX10_found_42 ?_
    refine g_aload_n X dX10_found_45 0 rfl ?_
    refine cg_10_10 X wd2_60 dX10_found_46 ?_
    refine g_iload_n X dX10_found_49 1 rfl ?_
    refine g_aload_n X dX10_found_50 0 rfl ?_
    refine cg_10_8 X wd2_58 dX10_found_51 ?_
    refine cg_9_4 X wd1_226 dX10_found_54 ?_
    refine m_bind hf (fun y5 hy5 hf => ?_)
    refine cw_V_i (cix := 8) (As := [.int x1, .ref (ro 11 4)]) (st := []) X Y kV_X10_262 (cc_8_meets l dC dI E ev ho ro F P y4.2 x1 y5 hy5) ob_8 rfl ⟨Nat.le_of_ble_eq_true rfl, Nat.le_of_ble_eq_true rfl⟩ ⟨rfl, rfl⟩ (Nat.le_of_ble_eq_true rfl) ⟨Nat.le_of_ble_eq_true rfl, Nat.le_of_ble_eq_true rfl⟩ dX10_found_57 ?_
    refine g_istore_n (i := 3) (lv' := [(3, .int y5), (0, .ref (ho 0)), (1, .int x1), (2, .int x2)]) X dX10_found_60 rfl (by decide) rfl ?_
    refine g_iload_n X dX10_found_61 0 rfl ?_
    refine g_ldcw X dX10_found_62 wd4_156 ?_
    refine g_icmp_ge (tgt := 72) X dX10_found_65 (by decide) hf (fun hf => ?_) (fun hf => ?_)
    · refine g_iconst X dX10_found_72 kc_m1 ?_
      exact c_reti_s hA hQ X hr hlk dX10_found_73 hf
    refine g_iload_n X dX10_found_68 0 rfl ?_
    refine g_goto (tgt := 73) X dX10_found_69 (by decide) ?_
    exact c_reti_s hA hQ X hr hlk dX10_found_73 hf
  refine g_iconst X dX10_found_18 kc_m1 ?_
  exact c_reti_s hA hQ X hr hlk dX10_found_19 hf
def rc_10_post : Room := { frames := 5, cells := 0, slots := 0, locals := 132 }
set_option maxRecDepth 100000 in
set_option maxHeartbeats 4000000 in
theorem cc_10_post (l : Launch) (dC : Nat → ClassId) (dI : Nat → Nat → Nat) (E : Nat → ClassId) (ev : Nat → Nat) (ho : Nat → Nat) (ro : Nat → Nat → Nat) (F : Nat) (P : va_W) (S : CS) (x1 : Int32)  (res : Int32 × CS) (hf : C_10_post F E P S x1 = some res) : CC l dC dI E ev yX10_post cX10_post 4 (some .int) rc_10_post [.ref (ho 0), .int x1] (CW E ho ro S ++ P) (CW E ho ro res.2 ++ P) (some (.int res.1)) := by
  refine CC_of (own := "LostLanes") (by decide) rfl (Nat.le_of_ble_eq_true rfl) ?_
  intro p e s m args below meth c A Q X Y hr hlk hA hQ
  have hL45 : ∀ (x1 : Int32) (n : Nat) (S : CS) (x2 : Int32), C_10_post_L45 F E P x1 n S x2 = some res → GG p l e rc_10_post s m args below meth c dC dI A 4 0 0 Q (CW E ho ro S ++ P) 45 [(0, .ref (ho 0)), (1, .int x1), (2, .int x2)] [] := by
    intro x1 n
    induction n with
    | zero => intro S x2 hf; have hf : (none : Option (Int32 × CS)) = some res := hf; cases hf
    | succ n ih =>
      intro S x2 hf
      rw [C_10_post_L45] at hf
      refine g_iload_n X dX10_post_45 2 rfl ?_
      refine g_aload_n X dX10_post_46 0 rfl ?_
      refine cg_10_0 X wd2_50 dX10_post_47 ?_
      refine cg_7_9 X tw_1 wd1_74 dX10_post_50 ?_
      refine g_icmp_ge (tgt := 90) X dX10_post_53 (by decide) hf (fun hf => ?_) (fun hf => ?_)
      · refine g_aload_n X dX10_post_90 0 rfl ?_
        refine cg_10_10 X wd2_60 dX10_post_91 ?_
        refine m_bind hf (fun y1 hy1 hf => ?_)
        refine cw_V_i (cix := 8) (As := []) (st := []) X Y kV_X10_279 (cc_8_quickest l dC dI E ev ho ro F P S y1 hy1) ob_8 rfl ⟨Nat.le_of_ble_eq_true rfl, Nat.le_of_ble_eq_true rfl⟩ ⟨rfl, rfl⟩ (Nat.le_of_ble_eq_true rfl) ⟨Nat.le_of_ble_eq_true rfl, Nat.le_of_ble_eq_true rfl⟩ dX10_post_94 ?_
        refine g_istore_n (i := 2) (lv' := [(2, .int y1), (0, .ref (ho 0)), (1, .int x1)]) X dX10_post_97 rfl (by decide) rfl ?_
        refine g_aload_n X dX10_post_98 1 rfl ?_
        refine cg_10_10 X wd2_60 dX10_post_99 ?_
        refine cg_8_4 X wd2_9 dX10_post_102 ?_
        refine g_iload_n X dX10_post_105 0 rfl ?_
        refine ca_ld_8_4 X dX10_post_106 hf (fun hf => ?_)
        refine g_istore_n (i := 3) (lv' := [(3, .int (ca S 13 4 (y1).toNatClampNeg)), (2, .int y1), (0, .ref (ho 0)), (1, .int x1)]) X dX10_post_107 rfl (by decide) rfl ?_
        refine g_iload_n X dX10_post_108 0 rfl ?_
        refine g_ldcw X dX10_post_109 wd4_156 ?_
        refine g_icmp_lt (tgt := 117) X dX10_post_112 (by decide) hf (fun hf => ?_) (fun hf => ?_)
        · refine g_iload_n X dX10_post_117 3 rfl ?_
          refine g_if_ne (tgt := 125) X dX10_post_118 (by decide) hf (fun hf => ?_) (fun hf => ?_)
          · refine g_iload_n X dX10_post_125 0 rfl ?_
            exact c_reti_s hA hQ X hr hlk dX10_post_126 hf
          refine g_iload_n X dX10_post_121 1 rfl ?_
          refine g_goto (tgt := 126) X dX10_post_122 (by decide) ?_
          exact c_reti_s hA hQ X hr hlk dX10_post_126 hf
        refine g_iconst X dX10_post_115 kc_m1 ?_
        exact c_reti_s hA hQ X hr hlk dX10_post_116 hf
      refine g_aload_n X dX10_post_56 0 rfl ?_
      refine cg_10_8 X wd2_58 dX10_post_57 ?_
      refine g_aload_n X dX10_post_60 0 rfl ?_
      refine cg_10_0 X wd2_50 dX10_post_61 ?_
      refine g_iload_n X dX10_post_64 2 rfl ?_
      refine g_bipush X dX10_post_65 kb_60 ?_
      refine m_bind hf (fun y2 hy2 hf => ?_)
      refine cw_V_v (cix := 9) (As := [.ref (ho 1), .int x2, .int (60 : Int32)]) (st := []) X Y kV_X10_248 (cc_9_follow l dC dI E ev ho ro F P S 1 x2 (60 : Int32) tw_1 y2 hy2) ob_9 rfl ⟨Nat.le_of_ble_eq_true rfl, Nat.le_of_ble_eq_true rfl⟩ ⟨rfl, rfl⟩ (Nat.le_of_ble_eq_true rfl) ⟨Nat.le_of_ble_eq_true rfl, Nat.le_of_ble_eq_true rfl⟩ dX10_post_67 ?_
      refine g_aload_n X dX10_post_70 0 rfl ?_
      refine cg_10_10 X wd2_60 dX10_post_71 ?_
      refine g_aload_n X dX10_post_74 0 rfl ?_
      refine cg_10_8 X wd2_58 dX10_post_75 ?_
      refine cg_9_4 X wd1_226 dX10_post_78 ?_
      refine m_bind hf (fun y3 hy3 hf => ?_)
      refine cw_V_v (cix := 8) (As := [.ref (ro 11 4)]) (st := []) X Y kV_X10_275 (cc_8_slow l dC dI E ev ho ro F P y2.2 y3 hy3) ob_8 rfl ⟨Nat.le_of_ble_eq_true rfl, Nat.le_of_ble_eq_true rfl⟩ ⟨rfl, rfl⟩ (Nat.le_of_ble_eq_true rfl) ⟨Nat.le_of_ble_eq_true rfl, Nat.le_of_ble_eq_true rfl⟩ dX10_post_81 ?_
      refine g_iinc (lv' := [(2, .int (x2 + (1 : Int32))), (0, .ref (ho 0)), (1, .int x1)]) X dX10_post_84 2 rfl kc_1 (by decide) rfl ?_
      refine g_goto (tgt := 45) X dX10_post_87 (by decide) ?_
      refine g_lv [1, 2, 0] (lv' := [(0, .ref (ho 0)), (1, .int x1), (2, .int (x2 + (1 : Int32)))]) rfl ?_
      exact ih _ _ hf
  refine g_lv [0, 1] (lv' := [(0, .ref (ho 0)), (1, .int x1)]) rfl ?_
  unfold C_10_post at hf
  refine g_iload_n X dX10_post_0 1 rfl ?_
  refine g_if_lt (tgt := 19) X dX10_post_1 (by decide) hf (fun hf => ?_) (fun hf => ?_)
  · refine g_iconst X dX10_post_19 kc_m1 ?_
    exact c_reti_s hA hQ X hr hlk dX10_post_20 hf
  refine g_iload_n X dX10_post_4 1 rfl ?_
  refine g_iconst X dX10_post_5 kc_1 ?_
  refine g_icmp_gt (tgt := 19) X dX10_post_6 (by decide) hf (fun hf => ?_) (fun hf => ?_)
  · refine g_iconst X dX10_post_19 kc_m1 ?_
    exact c_reti_s hA hQ X hr hlk dX10_post_20 hf
  refine g_aload_n X dX10_post_9 0 rfl ?_
  refine cg_10_0 X wd2_50 dX10_post_10 ?_
  refine cg_7_9 X tw_1 wd1_74 dX10_post_13 ?_
  refine g_if_ne (tgt := 21) X dX10_post_16 (by decide) hf (fun hf => ?_) (fun hf => ?_)
  · refine g_aload_n X dX10_post_21 0 rfl ?_
    refine cg_10_10 X wd2_60 dX10_post_22 ?_
    refine g_aload_n X dX10_post_25 0 rfl ?_
    refine cg_10_0 X wd2_50 dX10_post_26 ?_
    refine m_bind hf (fun y4 hy4 hf => ?_)
    refine cw_V_v (cix := 8) (As := [.ref (ho 1)]) (st := []) X Y kV_X10_255 (cc_8_measure l dC dI E ev ho ro F P S 1 tw_1 y4 hy4) ob_8 rfl ⟨Nat.le_of_ble_eq_true rfl, Nat.le_of_ble_eq_true rfl⟩ ⟨rfl, rfl⟩ (Nat.le_of_ble_eq_true rfl) ⟨Nat.le_of_ble_eq_true rfl, Nat.le_of_ble_eq_true rfl⟩ dX10_post_29 ?_
    refine g_aload_n X dX10_post_32 0 rfl ?_
    refine cg_10_10 X wd2_60 dX10_post_33 ?_
    refine cg_8_4 X wd2_9 dX10_post_36 ?_
    refine g_iconst X dX10_post_39 kc_0 ?_
    refine m_bind hf (fun y5 hy5 hf => ?_)
    refine cw_T_v (As := [.ref (ro 13 4), .int (0 : Int32)]) (st := []) X Y kT_X10_269 (cc_J7_fill l dC dI E ev ho ro F P y4.2 13 4 8 (0 : Int32) ars_8_4 y5 hy5) ⟨Nat.le_of_ble_eq_true rfl, Nat.le_of_ble_eq_true rfl⟩ ⟨rfl, rfl⟩ (Nat.le_of_ble_eq_true rfl) ⟨Nat.le_of_ble_eq_true rfl, Nat.le_of_ble_eq_true rfl⟩ dX10_post_40 ?_
    refine g_iconst X dX10_post_43 kc_0 ?_
    refine g_istore_n (i := 2) (lv' := [(2, .int (0 : Int32)), (0, .ref (ho 0)), (1, .int x1)]) X dX10_post_44 rfl (by decide) rfl ?_
    refine g_lv [1, 2, 0] (lv' := [(0, .ref (ho 0)), (1, .int x1), (2, .int (0 : Int32))]) rfl ?_
    exact hL45 _ _ _ _ hf
  refine g_iconst X dX10_post_19 kc_m1 ?_
  exact c_reti_s hA hQ X hr hlk dX10_post_20 hf
def rc_10_posts : Room := { frames := 4, cells := 0, slots := 0, locals := 91 }
set_option maxRecDepth 100000 in
set_option maxHeartbeats 4000000 in
theorem cc_10_posts (l : Launch) (dC : Nat → ClassId) (dI : Nat → Nat → Nat) (E : Nat → ClassId) (ev : Nat → Nat) (ho : Nat → Nat) (ro : Nat → Nat → Nat) (F : Nat) (P : va_W) (S : CS) (x1 : Int32) (x2 : Int32)  (res : Int32 × CS) (hf : C_10_posts F S x1 x2 = some res) : CC l dC dI E ev yX10_posts cX10_posts 4 (some .int) rc_10_posts [.ref (ho 0), .int x1, .int x2] (CW E ho ro S ++ P) (CW E ho ro res.2 ++ P) (some (.int res.1)) := by
  refine CC_of (own := "LostLanes") (by decide) rfl (Nat.le_of_ble_eq_true rfl) ?_
  intro p e s m args below meth c A Q X Y hr hlk hA hQ
  refine g_lv [0, 1, 2] (lv' := [(0, .ref (ho 0)), (1, .int x1), (2, .int x2)]) rfl ?_
  unfold C_10_posts at hf
  refine g_iload_n X dX10_posts_0 1 rfl ?_
  refine g_if_lt (tgt := 19) X dX10_posts_1 (by decide) hf (fun hf => ?_) (fun hf => ?_)
  · refine g_iconst X dX10_posts_19 kc_m1 ?_
    exact c_reti_s hA hQ X hr hlk dX10_posts_20 hf
  refine g_iload_n X dX10_posts_4 1 rfl ?_
  refine g_bipush X dX10_posts_5 kb_50 ?_
  refine g_icmp_gt (tgt := 19) X dX10_posts_7 (by decide) hf (fun hf => ?_) (fun hf => ?_)
  · refine g_iconst X dX10_posts_19 kc_m1 ?_
    exact c_reti_s hA hQ X hr hlk dX10_posts_20 hf
  refine g_iload_n X dX10_posts_10 2 rfl ?_
  refine g_if_lt (tgt := 19) X dX10_posts_11 (by decide) hf (fun hf => ?_) (fun hf => ?_)
  · refine g_iconst X dX10_posts_19 kc_m1 ?_
    exact c_reti_s hA hQ X hr hlk dX10_posts_20 hf
  refine g_iload_n X dX10_posts_14 2 rfl ?_
  refine g_iconst X dX10_posts_15 kc_1 ?_
  refine g_icmp_le (tgt := 21) X dX10_posts_16 (by decide) hf (fun hf => ?_) (fun hf => ?_)
  · refine g_aload_n X dX10_posts_21 0 rfl ?_
    refine cg_10_10 X wd2_60 dX10_posts_22 ?_
    refine g_aload_n X dX10_posts_25 0 rfl ?_
    refine cg_10_0 X wd2_50 dX10_posts_26 ?_
    refine m_bind hf (fun y1 hy1 hf => ?_)
    refine cw_V_v (cix := 8) (As := [.ref (ho 1)]) (st := []) X Y kV_X10_255 (cc_8_measure l dC dI E ev ho ro F P S 1 tw_1 y1 hy1) ob_8 rfl ⟨Nat.le_of_ble_eq_true rfl, Nat.le_of_ble_eq_true rfl⟩ ⟨rfl, rfl⟩ (Nat.le_of_ble_eq_true rfl) ⟨Nat.le_of_ble_eq_true rfl, Nat.le_of_ble_eq_true rfl⟩ dX10_posts_29 ?_
    refine g_aload_n X dX10_posts_32 0 rfl ?_
    refine cg_10_10 X wd2_60 dX10_posts_33 ?_
    refine g_iload_n X dX10_posts_36 1 rfl ?_
    refine g_aload_n X dX10_posts_37 0 rfl ?_
    refine cg_10_10 X wd2_60 dX10_posts_38 ?_
    refine g_aload_n X dX10_posts_41 0 rfl ?_
    refine cg_10_0 X wd2_50 dX10_posts_42 ?_
    refine m_bind hf (fun y2 hy2 hf => ?_)
    refine cw_V_i (cix := 8) (As := [.ref (ho 1)]) (st := [.int x1, .ref (ho 13)]) X Y kV_X10_283 (cc_8_cornersWithLanes l dC dI E ev ho ro F P y1.2 1 tw_1 y2 hy2) ob_8 rfl ⟨Nat.le_of_ble_eq_true rfl, Nat.le_of_ble_eq_true rfl⟩ ⟨rfl, rfl⟩ (Nat.le_of_ble_eq_true rfl) ⟨Nat.le_of_ble_eq_true rfl, Nat.le_of_ble_eq_true rfl⟩ dX10_posts_45 ?_
    refine m_bind hf (fun y3 hy3 hf => ?_)
    refine cw_V_i (cix := 8) (As := [.int x1, .int y2]) (st := []) X Y kV_X10_286 (cc_8_fewestPosts l dC dI E ev ho ro F P y1.2 x1 y2 y3 hy3) ob_8 rfl ⟨Nat.le_of_ble_eq_true rfl, Nat.le_of_ble_eq_true rfl⟩ ⟨rfl, rfl⟩ (Nat.le_of_ble_eq_true rfl) ⟨Nat.le_of_ble_eq_true rfl, Nat.le_of_ble_eq_true rfl⟩ dX10_posts_48 ?_
    refine g_istore_n (i := 3) (lv' := [(3, .int y3.1), (0, .ref (ho 0)), (1, .int x1), (2, .int x2)]) X dX10_posts_51 rfl (by decide) rfl ?_
    refine g_iload_n X dX10_posts_52 3 rfl ?_
    refine g_if_ne (tgt := 63) X dX10_posts_53 (by decide) hf (fun hf => ?_) (fun hf => ?_)
    · refine g_iload_n X dX10_posts_63 0 rfl ?_
      exact c_reti_s hA hQ X hr hlk dX10_posts_64 hf
    refine g_iload_n X dX10_posts_56 0 rfl ?_
    refine m_bind hf (fun y4 hy4 hf => ?_)
    refine cw_T_i (As := [.int y3.1]) (st := []) X Y kT_X10_289 (cc_J6_bitCount l dC dI E ev ho ro P y3.2 y3.1 y4 hy4) ⟨Nat.le_of_ble_eq_true rfl, Nat.le_of_ble_eq_true rfl⟩ ⟨rfl, rfl⟩ (Nat.le_of_ble_eq_true rfl) ⟨Nat.le_of_ble_eq_true rfl, Nat.le_of_ble_eq_true rfl⟩ dX10_posts_57 ?_
    refine g_goto (tgt := 64) X dX10_posts_60 (by decide) ?_
    exact c_reti_s hA hQ X hr hlk dX10_posts_64 hf
  refine g_iconst X dX10_posts_19 kc_m1 ?_
  exact c_reti_s hA hQ X hr hlk dX10_posts_20 hf
def rc_10_again : Room := { frames := 5, cells := 0, slots := 0, locals := 132 }
set_option maxRecDepth 100000 in
set_option maxHeartbeats 4000000 in
theorem cc_10_again (l : Launch) (dC : Nat → ClassId) (dI : Nat → Nat → Nat) (E : Nat → ClassId) (ev : Nat → Nat) (ho : Nat → Nat) (ro : Nat → Nat → Nat) (F : Nat) (P : va_W) (S : CS) (x1 : Int32)  (res : Int32 × CS) (hf : C_10_again F E P S x1 = some res) : CC l dC dI E ev yX10_again cX10_again 3 (some .int) rc_10_again [.ref (ho 0), .int x1] (CW E ho ro S ++ P) (CW E ho ro res.2 ++ P) (some (.int res.1)) := by
  refine CC_of (own := "LostLanes") (by decide) rfl (Nat.le_of_ble_eq_true rfl) ?_
  intro p e s m args below meth c A Q X Y hr hlk hA hQ
  have hL29 : ∀ (S : CS) (n : Nat) (x2 : Int32), C_10_again_L29 F E P S n x2 = some res → GG p l e rc_10_again s m args below meth c dC dI A 3 0 0 Q (CW E ho ro S ++ P) 29 [(0, .ref (ho 0)), (2, .int x2)] [] := by
    intro S n
    induction n with
    | zero => intro x2 hf; have hf : (none : Option (Int32 × CS)) = some res := hf; cases hf
    | succ n ih =>
      intro x2 hf
      rw [C_10_again_L29] at hf
      refine g_iload_n X dX10_again_29 1 rfl ?_
      refine g_bipush X dX10_again_30 kb_60 ?_
      refine g_icmp_gt (tgt := 64) X dX10_again_32 (by decide) hf (fun hf => ?_) (fun hf => ?_)
      · refine g_iconst X dX10_again_64 kc_m1 ?_
        exact c_reti_s hA hQ X hr hlk dX10_again_65 hf
      refine g_aload_n X dX10_again_35 0 rfl ?_
      refine cg_10_8 X wd2_58 dX10_again_36 ?_
      refine cg_9_4 X wd1_226 dX10_again_39 ?_
      refine g_iload_n X dX10_again_42 1 rfl ?_
      refine ca_ld_9_4 X dX10_again_43 hf (fun hf => ?_)
      refine g_aload_n X dX10_again_44 0 rfl ?_
      refine cg_10_8 X wd2_58 dX10_again_45 ?_
      refine cg_9_4 X wd1_226 dX10_again_48 ?_
      refine g_iconst X dX10_again_51 kc_0 ?_
      refine ca_ldc_9_4 X kt_0 kx_0_61 dX10_again_52 ?_
      refine g_icmp_ne (tgt := 58) X dX10_again_53 (by decide) hf (fun hf => ?_) (fun hf => ?_)
      · refine g_iinc (lv' := [(2, .int (x2 + (1 : Int32))), (0, .ref (ho 0))]) X dX10_again_58 1 rfl kc_1 (by decide) rfl ?_
        refine g_goto (tgt := 29) X dX10_again_61 (by decide) ?_
        refine g_lv [1, 0] (lv' := [(0, .ref (ho 0)), (2, .int (x2 + (1 : Int32)))]) rfl ?_
        exact ih _ hf
      refine g_iload_n X dX10_again_56 1 rfl ?_
      exact c_reti_s hA hQ X hr hlk dX10_again_57 hf
  refine g_lv [0, 1] (lv' := [(0, .ref (ho 0)), (1, .int x1)]) rfl ?_
  unfold C_10_again at hf
  refine g_aload_n X dX10_again_0 0 rfl ?_
  refine cg_10_0 X wd2_50 dX10_again_1 ?_
  refine g_iload_n X dX10_again_4 1 rfl ?_
  refine m_bind hf (fun y1 hy1 hf => ?_)
  refine cw_V_i (cix := 7) (As := [.int x1]) (st := []) X Y kV_X10_139 (cc_7_hasChild l dC dI E ev ho ro P S 1 x1 tw_1 y1 hy1) (ob_7 tw_1) rfl ⟨Nat.le_of_ble_eq_true rfl, Nat.le_of_ble_eq_true rfl⟩ ⟨rfl, rfl⟩ (Nat.le_of_ble_eq_true rfl) ⟨Nat.le_of_ble_eq_true rfl, Nat.le_of_ble_eq_true rfl⟩ dX10_again_5 ?_
  refine g_if_ne (tgt := 13) X dX10_again_8 (by decide) hf (fun hf => ?_) (fun hf => ?_)
  · refine g_aload_n X dX10_again_13 0 rfl ?_
    refine cg_10_8 X wd2_58 dX10_again_14 ?_
    refine g_aload_n X dX10_again_17 0 rfl ?_
    refine cg_10_0 X wd2_50 dX10_again_18 ?_
    refine g_iload_n X dX10_again_21 1 rfl ?_
    refine g_bipush X dX10_again_22 kb_60 ?_
    refine m_bind hf (fun y2 hy2 hf => ?_)
    refine cw_V_v (cix := 9) (As := [.ref (ho 1), .int x1, .int (60 : Int32)]) (st := []) X Y kV_X10_248 (cc_9_follow l dC dI E ev ho ro F P S 1 x1 (60 : Int32) tw_1 y2 hy2) ob_9 rfl ⟨Nat.le_of_ble_eq_true rfl, Nat.le_of_ble_eq_true rfl⟩ ⟨rfl, rfl⟩ (Nat.le_of_ble_eq_true rfl) ⟨Nat.le_of_ble_eq_true rfl, Nat.le_of_ble_eq_true rfl⟩ dX10_again_24 ?_
    refine g_iconst X dX10_again_27 kc_1 ?_
    refine g_istore_n (i := 2) (lv' := [(2, .int (1 : Int32)), (0, .ref (ho 0)), (1, .int x1)]) X dX10_again_28 rfl (by decide) rfl ?_
    refine g_lv [1, 0] (lv' := [(0, .ref (ho 0)), (2, .int (1 : Int32))]) rfl ?_
    exact hL29 _ _ _ hf
  refine g_iconst X dX10_again_11 kc_m1 ?_
  exact c_reti_s hA hQ X hr hlk dX10_again_12 hf
def rc_10_isName : Room := { frames := 0, cells := 0, slots := 0, locals := 0 }
set_option maxRecDepth 100000 in
set_option maxHeartbeats 4000000 in
theorem cc_10_isName (l : Launch) (dC : Nat → ClassId) (dI : Nat → Nat → Nat) (E : Nat → ClassId) (ev : Nat → Nat) (ho : Nat → Nat) (ro : Nat → Nat → Nat) (P : va_W) (S : CS) (x0 : Int32)  (res : Int32) (hf : C_10_isName x0 = some res) : CC l dC dI E ev yX10_isName cX10_isName 1 (some .boolean) rc_10_isName [.int x0] (CW E ho ro S ++ P) (CW E ho ro S ++ P) (some (.int res)) := by
  refine CC_of (own := "LostLanes") (by decide) rfl (Nat.le_of_ble_eq_true rfl) ?_
  intro p e s m args below meth c A Q X Y hr hlk hA hQ
  refine g_lv [0] (lv' := [(0, .int x0)]) rfl ?_
  unfold C_10_isName at hf
  refine g_iload_n X dX10_isName_0 0 rfl ?_
  refine g_if_lt (tgt := 14) X dX10_isName_1 (by decide) hf (fun hf => ?_) (fun hf => ?_)
  · refine g_iconst X dX10_isName_14 kc_0 ?_
    exact c_retz_o hA hQ X hr hlk (Or.inl rfl) dX10_isName_15 hf
  refine g_iload_n X dX10_isName_4 0 rfl ?_
  refine g_bipush X dX10_isName_5 kb_20 ?_
  refine g_icmp_ge (tgt := 14) X dX10_isName_7 (by decide) hf (fun hf => ?_) (fun hf => ?_)
  · refine g_iconst X dX10_isName_14 kc_0 ?_
    exact c_retz_o hA hQ X hr hlk (Or.inl rfl) dX10_isName_15 hf
  refine g_iconst X dX10_isName_10 kc_1 ?_
  refine g_goto (tgt := 15) X dX10_isName_11 (by decide) ?_
  exact c_retz_o hA hQ X hr hlk (Or.inr rfl) dX10_isName_15 hf
def rc_10_hear : Room := { frames := 1, cells := 0, slots := 0, locals := 22 }
set_option maxRecDepth 100000 in
set_option maxHeartbeats 4000000 in
theorem cc_10_hear (l : Launch) (dC : Nat → ClassId) (dI : Nat → Nat → Nat) (E : Nat → ClassId) (ev : Nat → Nat) (ho : Nat → Nat) (ro : Nat → Nat → Nat) (P : va_W) (S : CS) (x1 : Int32)  (res : Int32 × CS) (hf : C_10_hear S x1 = some res) : CC l dC dI E ev yX10_hear cX10_hear 2 (some .int) rc_10_hear [.ref (ho 0), .int x1] (CW E ho ro S ++ P) (CW E ho ro res.2 ++ P) (some (.int res.1)) := by
  refine CC_of (own := "LostLanes") (by decide) rfl (Nat.le_of_ble_eq_true rfl) ?_
  intro p e s m args below meth c A Q X Y hr hlk hA hQ
  refine g_lv [0, 1] (lv' := [(0, .ref (ho 0)), (1, .int x1)]) rfl ?_
  unfold C_10_hear at hf
  refine g_iload_n X dX10_hear_0 1 rfl ?_
  refine m_bind hf (fun y1 hy1 hf => ?_)
  refine cw_S_i (As := [.int x1]) (st := []) X Y kS_X10_294 (cc_10_isName l dC dI E ev ho ro P S x1 y1 hy1) ⟨Nat.le_of_ble_eq_true rfl, Nat.le_of_ble_eq_true rfl⟩ ⟨rfl, rfl⟩ (Nat.le_of_ble_eq_true rfl) ⟨Nat.le_of_ble_eq_true rfl, Nat.le_of_ble_eq_true rfl⟩ dX10_hear_1 ?_
  refine g_if_ne (tgt := 13) X dX10_hear_4 (by decide) hf (fun hf => ?_) (fun hf => ?_)
  · refine g_aload_n X dX10_hear_13 0 rfl ?_
    refine cg_10_0 X wd2_50 dX10_hear_14 ?_
    refine cg_7_11 X tw_1 wd1_80 dX10_hear_17 ?_
    refine g_bipush X dX10_hear_20 kb_6 ?_
    refine g_icmp_lt (tgt := 32) X dX10_hear_22 (by decide) hf (fun hf => ?_) (fun hf => ?_)
    · refine g_aload_n X dX10_hear_32 0 rfl ?_
      refine cg_10_0 X wd2_50 dX10_hear_33 ?_
      refine cg_7_10 X tw_1 wd1_77 dX10_hear_36 ?_
      refine g_aload_n X dX10_hear_39 0 rfl ?_
      refine cg_10_0 X wd2_50 dX10_hear_40 ?_
      refine cg_7_11 X tw_1 wd1_80 dX10_hear_43 ?_
      refine g_iload_n X dX10_hear_46 1 rfl ?_
      refine ca_st_7_10 X tw_1 dX10_hear_47 hf (fun S2 hf => ?_)
      refine g_aload_n X dX10_hear_48 0 rfl ?_
      refine cg_10_0 X wd2_50 dX10_hear_49 ?_
      refine g_dup X dX10_hear_52 rfl ?_
      refine cg_7_11 X tw_1 wd1_80 dX10_hear_53 ?_
      refine g_iconst X dX10_hear_56 kc_1 ?_
      refine g_iadd X dX10_hear_57 ?_
      refine cp_7_11 X tw_1 wd1_80 dX10_hear_58 hf (fun S3 hf => ?_)
      refine g_aload_n X dX10_hear_61 0 rfl ?_
      refine g_aload_n X dX10_hear_62 0 rfl ?_
      refine cg_10_0 X wd2_50 dX10_hear_63 ?_
      refine cg_7_11 X tw_1 wd1_80 dX10_hear_66 ?_
      refine m_bind hf (fun y4 hy4 hf => ?_)
      refine cw_V_i (cix := 10) (As := [.int (ci S3 1 11)]) (st := []) X Y kV_X10_107 (cc_10_accept l dC dI E ev ho ro P S3 (ci S3 1 11) y4 hy4) ob_10 rfl ⟨Nat.le_of_ble_eq_true rfl, Nat.le_of_ble_eq_true rfl⟩ ⟨rfl, rfl⟩ (Nat.le_of_ble_eq_true rfl) ⟨Nat.le_of_ble_eq_true rfl, Nat.le_of_ble_eq_true rfl⟩ dX10_hear_69 ?_
      exact c_reti_s hA hQ X hr hlk dX10_hear_72 hf
    refine g_aload_n X dX10_hear_25 0 rfl ?_
    refine g_bipush X dX10_hear_26 kb_m5 ?_
    refine m_bind hf (fun y5 hy5 hf => ?_)
    refine cw_V_i (cix := 10) (As := [.int (-5 : Int32)]) (st := []) X Y kV_X10_93 (cc_10_refuse l dC dI E ev ho ro P S (-5 : Int32) y5 hy5) ob_10 rfl ⟨Nat.le_of_ble_eq_true rfl, Nat.le_of_ble_eq_true rfl⟩ ⟨rfl, rfl⟩ (Nat.le_of_ble_eq_true rfl) ⟨Nat.le_of_ble_eq_true rfl, Nat.le_of_ble_eq_true rfl⟩ dX10_hear_28 ?_
    exact c_reti_s hA hQ X hr hlk dX10_hear_31 hf
  refine g_aload_n X dX10_hear_7 0 rfl ?_
  refine g_iconst X dX10_hear_8 kc_m1 ?_
  refine m_bind hf (fun y6 hy6 hf => ?_)
  refine cw_V_i (cix := 10) (As := [.int (-1 : Int32)]) (st := []) X Y kV_X10_93 (cc_10_refuse l dC dI E ev ho ro P S (-1 : Int32) y6 hy6) ob_10 rfl ⟨Nat.le_of_ble_eq_true rfl, Nat.le_of_ble_eq_true rfl⟩ ⟨rfl, rfl⟩ (Nat.le_of_ble_eq_true rfl) ⟨Nat.le_of_ble_eq_true rfl, Nat.le_of_ble_eq_true rfl⟩ dX10_hear_9 ?_
  exact c_reti_s hA hQ X hr hlk dX10_hear_12 hf
def rc_10_forget : Room := { frames := 0, cells := 0, slots := 0, locals := 0 }
set_option maxRecDepth 100000 in
set_option maxHeartbeats 4000000 in
theorem cc_10_forget (l : Launch) (dC : Nat → ClassId) (dI : Nat → Nat → Nat) (E : Nat → ClassId) (ev : Nat → Nat) (ho : Nat → Nat) (ro : Nat → Nat → Nat) (P : va_W) (S : CS)   (res : Int32 × CS) (hf : C_10_forget S = some res) : CC l dC dI E ev yX10_forget cX10_forget 2 (some .int) rc_10_forget [.ref (ho 0)] (CW E ho ro S ++ P) (CW E ho ro res.2 ++ P) (some (.int res.1)) := by
  refine CC_of (own := "LostLanes") (by decide) rfl (Nat.le_of_ble_eq_true rfl) ?_
  intro p e s m args below meth c A Q X Y hr hlk hA hQ
  refine g_lv [0] (lv' := [(0, .ref (ho 0))]) rfl ?_
  unfold C_10_forget at hf
  refine g_aload_n X dX10_forget_0 0 rfl ?_
  refine cg_10_0 X wd2_50 dX10_forget_1 ?_
  refine cg_7_11 X tw_1 wd1_80 dX10_forget_4 ?_
  refine g_istore_n (i := 1) (lv' := [(1, .int (ci S 1 11)), (0, .ref (ho 0))]) X dX10_forget_7 rfl (by decide) rfl ?_
  refine g_aload_n X dX10_forget_8 1 rfl ?_
  refine cg_10_0 X wd2_50 dX10_forget_9 ?_
  refine g_iconst X dX10_forget_12 kc_0 ?_
  refine cp_7_11 X tw_1 wd1_80 dX10_forget_13 hf (fun S1 hf => ?_)
  refine g_iload_n X dX10_forget_16 0 rfl ?_
  exact c_reti_s hA hQ X hr hlk dX10_forget_17 hf
def rc_10_gone : Room := { frames := 3, cells := 0, slots := 0, locals := 108 }
set_option maxRecDepth 100000 in
set_option maxHeartbeats 4000000 in
theorem cc_10_gone (l : Launch) (dC : Nat → ClassId) (dI : Nat → Nat → Nat) (E : Nat → ClassId) (ev : Nat → Nat) (ho : Nat → Nat) (ro : Nat → Nat → Nat) (F : Nat) (P : va_W) (S : CS) (x1 : Int32)  (res : Int32 × CS) (hf : C_10_gone F S x1 = some res) : CC l dC dI E ev yX10_gone cX10_gone 2 (some .int) rc_10_gone [.ref (ho 0), .int x1] (CW E ho ro S ++ P) (CW E ho ro res.2 ++ P) (some (.int res.1)) := by
  refine CC_of (own := "LostLanes") (by decide) rfl (Nat.le_of_ble_eq_true rfl) ?_
  intro p e s m args below meth c A Q X Y hr hlk hA hQ
  refine g_lv [0, 1] (lv' := [(0, .ref (ho 0)), (1, .int x1)]) rfl ?_
  unfold C_10_gone at hf
  refine g_iload_n X dX10_gone_0 1 rfl ?_
  refine g_if_lt (tgt := 9) X dX10_gone_1 (by decide) hf (fun hf => ?_) (fun hf => ?_)
  · refine g_iconst X dX10_gone_9 kc_m1 ?_
    exact c_reti_s hA hQ X hr hlk dX10_gone_10 hf
  refine g_iload_n X dX10_gone_4 1 rfl ?_
  refine g_iconst X dX10_gone_5 kc_2 ?_
  refine g_icmp_le (tgt := 11) X dX10_gone_6 (by decide) hf (fun hf => ?_) (fun hf => ?_)
  · refine g_aload_n X dX10_gone_11 0 rfl ?_
    refine cg_10_11 X wd2_61 dX10_gone_12 ?_
    refine g_aload_n X dX10_gone_15 0 rfl ?_
    refine cg_10_0 X wd2_50 dX10_gone_16 ?_
    refine m_bind hf (fun y1 hy1 hf => ?_)
    refine cw_V_v (cix := 2) (As := [.ref (ho 1)]) (st := []) X Y kV_X10_303 (cc_2_retrace l dC dI E ev ho ro F P S 1 tw_1 y1 hy1) ob_2 rfl ⟨Nat.le_of_ble_eq_true rfl, Nat.le_of_ble_eq_true rfl⟩ ⟨rfl, rfl⟩ (Nat.le_of_ble_eq_true rfl) ⟨Nat.le_of_ble_eq_true rfl, Nat.le_of_ble_eq_true rfl⟩ dX10_gone_19 ?_
    refine g_iload_n X dX10_gone_22 1 rfl ?_
    refine g_if_ne (tgt := 34) X dX10_gone_23 (by decide) hf (fun hf => ?_) (fun hf => ?_)
    · refine g_iload_n X dX10_gone_34 1 rfl ?_
      refine g_iconst X dX10_gone_35 kc_1 ?_
      refine g_icmp_ne (tgt := 49) X dX10_gone_36 (by decide) hf (fun hf => ?_) (fun hf => ?_)
      · refine g_aload_n X dX10_gone_49 0 rfl ?_
        refine cg_10_11 X wd2_61 dX10_gone_50 ?_
        refine cg_2_5 X wd2_36 dX10_gone_53 ?_
        exact c_reti_s hA hQ X hr hlk dX10_gone_56 hf
      refine g_aload_n X dX10_gone_39 0 rfl ?_
      refine cg_10_11 X wd2_61 dX10_gone_40 ?_
      refine cg_2_4 X wd2_34 dX10_gone_43 ?_
      refine g_goto (tgt := 56) X dX10_gone_46 (by decide) ?_
      exact c_reti_s hA hQ X hr hlk dX10_gone_56 hf
    refine g_aload_n X dX10_gone_26 0 rfl ?_
    refine cg_10_11 X wd2_61 dX10_gone_27 ?_
    refine cg_2_3 X wd2_32 dX10_gone_30 ?_
    exact c_reti_s hA hQ X hr hlk dX10_gone_33 hf
  refine g_iconst X dX10_gone_9 kc_m1 ?_
  exact c_reti_s hA hQ X hr hlk dX10_gone_10 hf
def rc_10_named : Room := { frames := 1, cells := 0, slots := 0, locals := 20 }
set_option maxRecDepth 100000 in
set_option maxHeartbeats 4000000 in
theorem cc_10_named (l : Launch) (dC : Nat → ClassId) (dI : Nat → Nat → Nat) (E : Nat → ClassId) (ev : Nat → Nat) (ho : Nat → Nat) (ro : Nat → Nat → Nat) (F : Nat) (P : va_W) (S : CS) (x1 : Int32)  (res : Int32) (hf : C_10_named F S x1 = some res) : CC l dC dI E ev yX10_named cX10_named 3 (some .int) rc_10_named [.ref (ho 0), .int x1] (CW E ho ro S ++ P) (CW E ho ro S ++ P) (some (.int res)) := by
  refine CC_of (own := "LostLanes") (by decide) rfl (Nat.le_of_ble_eq_true rfl) ?_
  intro p e s m args below meth c A Q X Y hr hlk hA hQ
  have hL11 : ∀ (x1 : Int32) (n : Nat) (x2 : Int32), C_10_named_L11 F S x1 n x2 = some res → GG p l e rc_10_named s m args below meth c dC dI A 3 0 0 Q (CW E ho ro S ++ P) 11 [(0, .ref (ho 0)), (1, .int x1), (2, .int x2)] [] := by
    intro x1 n
    induction n with
    | zero => intro x2 hf; have hf : (none : Option Int32) = some res := hf; cases hf
    | succ n ih =>
      intro x2 hf
      rw [C_10_named_L11] at hf
      refine g_iload_n X dX10_named_11 2 rfl ?_
      refine g_aload_n X dX10_named_12 0 rfl ?_
      refine cg_10_0 X wd2_50 dX10_named_13 ?_
      refine cg_7_5 X tw_1 wd1_59 dX10_named_16 ?_
      refine g_icmp_ge (tgt := 43) X dX10_named_19 (by decide) hf (fun hf => ?_) (fun hf => ?_)
      · refine g_iconst X dX10_named_43 kc_m1 ?_
        exact c_reti_o hA hQ X hr hlk dX10_named_44 hf
      refine g_aload_n X dX10_named_22 0 rfl ?_
      refine cg_10_0 X wd2_50 dX10_named_23 ?_
      refine cg_7_4 X tw_1 wd1_54 dX10_named_26 ?_
      refine g_iload_n X dX10_named_29 2 rfl ?_
      refine ca_ld_7_4 X tw_1 dX10_named_30 hf (fun hf => ?_)
      refine g_iload_n X dX10_named_31 1 rfl ?_
      refine g_icmp_ne (tgt := 37) X dX10_named_32 (by decide) hf (fun hf => ?_) (fun hf => ?_)
      · refine g_iinc (lv' := [(2, .int (x2 + (1 : Int32))), (0, .ref (ho 0)), (1, .int x1)]) X dX10_named_37 2 rfl kc_1 (by decide) rfl ?_
        refine g_goto (tgt := 11) X dX10_named_40 (by decide) ?_
        refine g_lv [1, 2, 0] (lv' := [(0, .ref (ho 0)), (1, .int x1), (2, .int (x2 + (1 : Int32)))]) rfl ?_
        exact ih _ hf
      refine g_iload_n X dX10_named_35 2 rfl ?_
      exact c_reti_o hA hQ X hr hlk dX10_named_36 hf
  refine g_lv [0, 1] (lv' := [(0, .ref (ho 0)), (1, .int x1)]) rfl ?_
  unfold C_10_named at hf
  refine g_iload_n X dX10_named_0 1 rfl ?_
  refine m_bind hf (fun y1 hy1 hf => ?_)
  refine cw_S_i (As := [.int x1]) (st := []) X Y kS_X10_294 (cc_10_isName l dC dI E ev ho ro P S x1 y1 hy1) ⟨Nat.le_of_ble_eq_true rfl, Nat.le_of_ble_eq_true rfl⟩ ⟨rfl, rfl⟩ (Nat.le_of_ble_eq_true rfl) ⟨Nat.le_of_ble_eq_true rfl, Nat.le_of_ble_eq_true rfl⟩ dX10_named_1 ?_
  refine g_if_ne (tgt := 9) X dX10_named_4 (by decide) hf (fun hf => ?_) (fun hf => ?_)
  · refine g_iconst X dX10_named_9 kc_0 ?_
    refine g_istore_n (i := 2) (lv' := [(2, .int (0 : Int32)), (0, .ref (ho 0)), (1, .int x1)]) X dX10_named_10 rfl (by decide) rfl ?_
    refine g_lv [1, 2, 0] (lv' := [(0, .ref (ho 0)), (1, .int x1), (2, .int (0 : Int32))]) rfl ?_
    exact hL11 _ _ _ hf
  refine g_iconst X dX10_named_7 kc_m1 ?_
  exact c_reti_o hA hQ X hr hlk dX10_named_8 hf
def rc_10_letter : Room := { frames := 4, cells := 0, slots := 0, locals := 91 }
set_option maxRecDepth 100000 in
set_option maxHeartbeats 4000000 in
theorem cc_10_letter (l : Launch) (dC : Nat → ClassId) (dI : Nat → Nat → Nat) (E : Nat → ClassId) (ev : Nat → Nat) (ho : Nat → Nat) (ro : Nat → Nat → Nat) (F : Nat) (P : va_W) (S : CS) (x1 : Int32) (x2 : Int32) (x3 : Int32)  (res : Int32 × CS) (hf : C_10_letter F S x1 x2 x3 = some res) : CC l dC dI E ev yX10_letter cX10_letter 6 (some .int) rc_10_letter [.ref (ho 0), .int x1, .int x2, .int x3] (CW E ho ro S ++ P) (CW E ho ro res.2 ++ P) (some (.int res.1)) := by
  refine CC_of (own := "LostLanes") (by decide) rfl (Nat.le_of_ble_eq_true rfl) ?_
  intro p e s m args below meth c A Q X Y hr hlk hA hQ
  refine g_lv [0, 1, 2, 3] (lv' := [(0, .ref (ho 0)), (1, .int x1), (2, .int x2), (3, .int x3)]) rfl ?_
  unfold C_10_letter at hf
  refine g_iload_n X dX10_letter_0 1 rfl ?_
  refine m_bind hf (fun y1 hy1 hf => ?_)
  refine cw_S_i (As := [.int x1]) (st := []) X Y kS_X10_129 (cc_10_isCorner l dC dI E ev ho ro P S x1 y1 hy1) ⟨Nat.le_of_ble_eq_true rfl, Nat.le_of_ble_eq_true rfl⟩ ⟨rfl, rfl⟩ (Nat.le_of_ble_eq_true rfl) ⟨Nat.le_of_ble_eq_true rfl, Nat.le_of_ble_eq_true rfl⟩ dX10_letter_1 ?_
  refine g_if_eq (tgt := 20) X dX10_letter_4 (by decide) hf (fun hf => ?_) (fun hf => ?_)
  · refine g_iconst X dX10_letter_20 kc_m1 ?_
    exact c_reti_s hA hQ X hr hlk dX10_letter_21 hf
  refine g_iload_n X dX10_letter_7 2 rfl ?_
  refine m_bind hf (fun y2 hy2 hf => ?_)
  refine cw_S_i (As := [.int x2]) (st := []) X Y kS_X10_294 (cc_10_isName l dC dI E ev ho ro P S x2 y2 hy2) ⟨Nat.le_of_ble_eq_true rfl, Nat.le_of_ble_eq_true rfl⟩ ⟨rfl, rfl⟩ (Nat.le_of_ble_eq_true rfl) ⟨Nat.le_of_ble_eq_true rfl, Nat.le_of_ble_eq_true rfl⟩ dX10_letter_8 ?_
  refine g_if_eq (tgt := 20) X dX10_letter_11 (by decide) hf (fun hf => ?_) (fun hf => ?_)
  · refine g_iconst X dX10_letter_20 kc_m1 ?_
    exact c_reti_s hA hQ X hr hlk dX10_letter_21 hf
  refine g_iload_n X dX10_letter_14 3 rfl ?_
  refine g_bipush X dX10_letter_15 kb_m2 ?_
  refine g_icmp_ge (tgt := 22) X dX10_letter_17 (by decide) hf (fun hf => ?_) (fun hf => ?_)
  · refine g_aload_n X dX10_letter_22 0 rfl ?_
    refine cg_10_10 X wd2_60 dX10_letter_23 ?_
    refine g_aload_n X dX10_letter_26 0 rfl ?_
    refine cg_10_0 X wd2_50 dX10_letter_27 ?_
    refine m_bind hf (fun y3 hy3 hf => ?_)
    refine cw_V_v (cix := 8) (As := [.ref (ho 1)]) (st := []) X Y kV_X10_255 (cc_8_measure l dC dI E ev ho ro F P S 1 tw_1 y3 hy3) ob_8 rfl ⟨Nat.le_of_ble_eq_true rfl, Nat.le_of_ble_eq_true rfl⟩ ⟨rfl, rfl⟩ (Nat.le_of_ble_eq_true rfl) ⟨Nat.le_of_ble_eq_true rfl, Nat.le_of_ble_eq_true rfl⟩ dX10_letter_30 ?_
    refine g_aload_n X dX10_letter_33 0 rfl ?_
    refine cg_10_10 X wd2_60 dX10_letter_34 ?_
    refine g_aload_n X dX10_letter_37 0 rfl ?_
    refine cg_10_0 X wd2_50 dX10_letter_38 ?_
    refine g_iload_n X dX10_letter_41 1 rfl ?_
    refine g_iload_n X dX10_letter_42 2 rfl ?_
    refine m_bind hf (fun y4 hy4 hf => ?_)
    refine cw_V_i (cix := 8) (As := [.ref (ho 1), .int x1, .int x2]) (st := []) X Y kV_X10_315 (cc_8_nearestNamed l dC dI E ev ho ro F P y3.2 1 x1 x2 tw_1 y4 hy4) ob_8 rfl ⟨Nat.le_of_ble_eq_true rfl, Nat.le_of_ble_eq_true rfl⟩ ⟨rfl, rfl⟩ (Nat.le_of_ble_eq_true rfl) ⟨Nat.le_of_ble_eq_true rfl, Nat.le_of_ble_eq_true rfl⟩ dX10_letter_43 ?_
    refine g_istore (lv' := [(4, .int y4), (0, .ref (ho 0)), (1, .int x1), (2, .int x2), (3, .int x3)]) X dX10_letter_46 (by decide) rfl ?_
    refine g_iload X dX10_letter_48 0 rfl ?_
    refine g_iconst X dX10_letter_50 kc_m1 ?_
    refine g_icmp_eq (tgt := 60) X dX10_letter_51 (by decide) hf (fun hf => ?_) (fun hf => ?_)
    · refine g_iload X dX10_letter_60 0 rfl ?_
      exact c_reti_s hA hQ X hr hlk dX10_letter_62 hf
    refine g_iload_n X dX10_letter_54 4 rfl ?_
    refine g_bipush X dX10_letter_55 kb_m2 ?_
    refine g_icmp_ne (tgt := 63) X dX10_letter_57 (by decide) hf (fun hf => ?_) (fun hf => ?_)
    · refine g_aload_n X dX10_letter_63 1 rfl ?_
      refine cg_10_10 X wd2_60 dX10_letter_64 ?_
      refine g_aload_n X dX10_letter_67 1 rfl ?_
      refine cg_10_0 X wd2_50 dX10_letter_68 ?_
      refine g_iload_n X dX10_letter_71 2 rfl ?_
      refine g_iload X dX10_letter_72 0 rfl ?_
      refine m_bind hf (fun y5 hy5 hf => ?_)
      refine cw_V_i (cix := 8) (As := [.ref (ho 1), .int x1, .int y4]) (st := []) X Y kV_X10_318 (cc_8_nearerEnd l dC dI E ev ho ro P y3.2 1 x1 y4 tw_1 y5 hy5) ob_8 rfl ⟨Nat.le_of_ble_eq_true rfl, Nat.le_of_ble_eq_true rfl⟩ ⟨rfl, rfl⟩ (Nat.le_of_ble_eq_true rfl) ⟨Nat.le_of_ble_eq_true rfl, Nat.le_of_ble_eq_true rfl⟩ dX10_letter_74 ?_
      refine g_istore (lv' := [(5, .int y5), (4, .int y4), (0, .ref (ho 0)), (1, .int x1), (2, .int x2), (3, .int x3)]) X dX10_letter_77 (by decide) rfl ?_
      refine g_iload_n X dX10_letter_79 5 rfl ?_
      refine g_iconst X dX10_letter_80 kc_m1 ?_
      refine g_icmp_ne (tgt := 97) X dX10_letter_81 (by decide) hf (fun hf => ?_) (fun hf => ?_)
      · refine g_aload_n X dX10_letter_97 2 rfl ?_
        refine cg_10_10 X wd2_60 dX10_letter_98 ?_
        refine g_iload_n X dX10_letter_101 3 rfl ?_
        refine g_iload X dX10_letter_102 0 rfl ?_
        refine g_iload_n X dX10_letter_104 5 rfl ?_
        refine m_bind hf (fun y6 hy6 hf => ?_)
        refine cw_V_i (cix := 8) (As := [.int x1, .int y5, .int x3]) (st := []) X Y kV_X10_321 (cc_8_cornerOnWay l dC dI E ev ho ro F P y3.2 x1 y5 x3 y6 hy6) ob_8 rfl ⟨Nat.le_of_ble_eq_true rfl, Nat.le_of_ble_eq_true rfl⟩ ⟨rfl, rfl⟩ (Nat.le_of_ble_eq_true rfl) ⟨Nat.le_of_ble_eq_true rfl, Nat.le_of_ble_eq_true rfl⟩ dX10_letter_105 ?_
        exact c_reti_s hA hQ X hr hlk dX10_letter_108 hf
      refine g_aload_n X dX10_letter_84 2 rfl ?_
      refine cg_10_10 X wd2_60 dX10_letter_85 ?_
      refine g_iload_n X dX10_letter_88 3 rfl ?_
      refine g_iload X dX10_letter_89 0 rfl ?_
      refine m_bind hf (fun y7 hy7 hf => ?_)
      refine cw_V_i (cix := 8) (As := [.int x1, .int y5]) (st := []) X Y kV_X10_258 (cc_8_between l dC dI E ev ho ro P y3.2 x1 y5 y7 hy7) ob_8 rfl ⟨Nat.le_of_ble_eq_true rfl, Nat.le_of_ble_eq_true rfl⟩ ⟨rfl, rfl⟩ (Nat.le_of_ble_eq_true rfl) ⟨Nat.le_of_ble_eq_true rfl, Nat.le_of_ble_eq_true rfl⟩ dX10_letter_91 ?_
      refine g_goto (tgt := 108) X dX10_letter_94 (by decide) ?_
      exact c_reti_s hA hQ X hr hlk dX10_letter_108 hf
    refine g_iload X dX10_letter_60 0 rfl ?_
    exact c_reti_s hA hQ X hr hlk dX10_letter_62 hf
  refine g_iconst X dX10_letter_20 kc_m1 ?_
  exact c_reti_s hA hQ X hr hlk dX10_letter_21 hf
def rc_10_apart : Room := { frames := 170, cells := 0, slots := 0, locals := 3887 }
set_option maxRecDepth 100000 in
set_option maxHeartbeats 4000000 in
theorem cc_10_apart (l : Launch) (dC : Nat → ClassId) (dI : Nat → Nat → Nat) (E : Nat → ClassId) (ev : Nat → Nat) (ho : Nat → Nat) (ro : Nat → Nat → Nat) (F : Nat) (P : va_W) (S : CS) (x1 : Int32)  (res : Int32 × CS) (hf : C_10_apart F S x1 = some res) : CC l dC dI E ev yX10_apart cX10_apart 3 (some .int) rc_10_apart [.ref (ho 0), .int x1] (CW E ho ro S ++ P) (CW E ho ro res.2 ++ P) (some (.int res.1)) := by
  refine CC_of (own := "LostLanes") (by decide) rfl (Nat.le_of_ble_eq_true rfl) ?_
  intro p e s m args below meth c A Q X Y hr hlk hA hQ
  have hB19 : ∀ (S : CS) (x1 : Int32), C_10_apart_B19 F S x1 = some res → GG p l e rc_10_apart s m args below meth c dC dI A 3 0 0 Q (CW E ho ro S ++ P) 19 [(0, .ref (ho 0)), (1, .int x1)] [] := by
    intro S x1 hf
    unfold C_10_apart_B19 at hf
    refine g_aload_n X dX10_apart_19 0 rfl ?_
    refine cg_10_11 X wd2_61 dX10_apart_20 ?_
    refine g_aload_n X dX10_apart_23 0 rfl ?_
    refine cg_10_0 X wd2_50 dX10_apart_24 ?_
    refine m_bind hf (fun y1 hy1 hf => ?_)
    refine cw_V_i (cix := 2) (As := [.ref (ho 1)]) (st := []) X Y kV_X10_324 (cc_2_tellApart l dC dI E ev ho ro F P S 1 tw_1 y1 hy1) ob_2 rfl ⟨Nat.le_of_ble_eq_true rfl, Nat.le_of_ble_eq_true rfl⟩ ⟨rfl, rfl⟩ (Nat.le_of_ble_eq_true rfl) ⟨Nat.le_of_ble_eq_true rfl, Nat.le_of_ble_eq_true rfl⟩ dX10_apart_27 ?_
    refine g_istore_n (i := 2) (lv' := [(2, .int y1.1), (0, .ref (ho 0)), (1, .int x1)]) X dX10_apart_30 rfl (by decide) rfl ?_
    refine g_iload_n X dX10_apart_31 2 rfl ?_
    refine g_if_ne (tgt := 39) X dX10_apart_32 (by decide) hf (fun hf => ?_) (fun hf => ?_)
    · refine g_aload_n X dX10_apart_39 1 rfl ?_
      refine cg_10_11 X wd2_61 dX10_apart_40 ?_
      refine cg_2_0 X wd2_28 dX10_apart_43 ?_
      refine g_iload_n X dX10_apart_46 2 rfl ?_
      refine g_iconst X dX10_apart_47 kc_1 ?_
      refine g_isub X dX10_apart_48 ?_
      refine ca_ld_2_0 X dX10_apart_49 hf (fun hf => ?_)
      exact c_reti_s hA hQ X hr hlk dX10_apart_50 hf
    refine g_iload_n X dX10_apart_35 0 rfl ?_
    refine g_goto (tgt := 50) X dX10_apart_36 (by decide) ?_
    exact c_reti_s hA hQ X hr hlk dX10_apart_50 hf
  refine g_lv [0, 1] (lv' := [(0, .ref (ho 0)), (1, .int x1)]) rfl ?_
  unfold C_10_apart at hf
  refine g_iload_n X dX10_apart_0 1 rfl ?_
  refine g_if_eq (tgt := 19) X dX10_apart_1 (by decide) hf (fun hf => ?_) (fun hf => ?_)
  · exact hB19 _ _ hf
  refine g_aload_n X dX10_apart_4 0 rfl ?_
  refine cg_10_0 X wd2_50 dX10_apart_5 ?_
  refine g_iload_n X dX10_apart_8 1 rfl ?_
  refine g_iconst X dX10_apart_9 kc_1 ?_
  refine g_isub X dX10_apart_10 ?_
  refine m_bind hf (fun y2 hy2 hf => ?_)
  refine cw_V_i (cix := 7) (As := [.int (x1 - (1 : Int32))]) (st := []) X Y kV_X10_110 (cc_7_hasLane l dC dI E ev ho ro P S 1 (x1 - (1 : Int32)) tw_1 y2 hy2) (ob_7 tw_1) rfl ⟨Nat.le_of_ble_eq_true rfl, Nat.le_of_ble_eq_true rfl⟩ ⟨rfl, rfl⟩ (Nat.le_of_ble_eq_true rfl) ⟨Nat.le_of_ble_eq_true rfl, Nat.le_of_ble_eq_true rfl⟩ dX10_apart_11 ?_
  refine g_if_ne (tgt := 19) X dX10_apart_14 (by decide) hf (fun hf => ?_) (fun hf => ?_)
  · exact hB19 _ _ hf
  refine g_iconst X dX10_apart_17 kc_m1 ?_
  exact c_reti_s hA hQ X hr hlk dX10_apart_18 hf
def rc_10_alike : Room := { frames := 3, cells := 0, slots := 0, locals := 65 }
set_option maxRecDepth 100000 in
set_option maxHeartbeats 4000000 in
theorem cc_10_alike (l : Launch) (dC : Nat → ClassId) (dI : Nat → Nat → Nat) (E : Nat → ClassId) (ev : Nat → Nat) (ho : Nat → Nat) (ro : Nat → Nat → Nat) (F : Nat) (P : va_W) (S : CS)   (res : Int32) (hf : C_10_alike F S = some res) : CC l dC dI E ev yX10_alike cX10_alike 4 (some .int) rc_10_alike [.ref (ho 0)] (CW E ho ro S ++ P) (CW E ho ro S ++ P) (some (.int res)) := by
  refine CC_of (own := "LostLanes") (by decide) rfl (Nat.le_of_ble_eq_true rfl) ?_
  intro p e s m args below meth c A Q X Y hr hlk hA hQ
  have hB79 : ∀ (x2 : Int32) (k4 : Int32 → Int32 → Option Int32) (hk4 : ∀ (x1 : Int32) (x2 : Int32), k4 x1 x2 = some res → GG p l e rc_10_alike s m args below meth c dC dI A 4 0 0 Q (CW E ho ro S ++ P) 4 [(0, .ref (ho 0)), (1, .int x1), (2, .int x2)] []) (k19 : Int32 → Int32 → Option Int32) (hk19 : ∀ (x1 : Int32) (x3 : Int32), k19 x1 x3 = some res → GG p l e rc_10_alike s m args below meth c dC dI A 4 0 0 Q (CW E ho ro S ++ P) 19 [(0, .ref (ho 0)), (1, .int x1), (2, .int x2), (3, .int x3)] []) (x1 : Int32) (x3 : Int32), C_10_alike_B79 F k4 k19 S x1 x2 x3 = some res → GG p l e rc_10_alike s m args below meth c dC dI A 4 0 0 Q (CW E ho ro S ++ P) 79 [(0, .ref (ho 0)), (1, .int x1), (2, .int x2), (3, .int x3)] [] := by
    intro x2 k4 hk4 k19 hk19 x1 x3 hf
    unfold C_10_alike_B79 at hf
    refine g_iinc (lv' := [(3, .int (x3 + (1 : Int32))), (0, .ref (ho 0)), (1, .int x1), (2, .int x2)]) X dX10_alike_79 3 rfl kc_1 (by decide) rfl ?_
    refine g_goto (tgt := 19) X dX10_alike_82 (by decide) ?_
    refine g_lv [1, 2, 3, 0] (lv' := [(0, .ref (ho 0)), (1, .int x1), (2, .int x2), (3, .int (x3 + (1 : Int32)))]) rfl ?_
    exact hk19 _ _ hf
  have hL19 : ∀ (k4 : Int32 → Int32 → Option Int32) (hk4 : ∀ (x1 : Int32) (x2 : Int32), k4 x1 x2 = some res → GG p l e rc_10_alike s m args below meth c dC dI A 4 0 0 Q (CW E ho ro S ++ P) 4 [(0, .ref (ho 0)), (1, .int x1), (2, .int x2)] []) (x2 : Int32) (n : Nat) (x1 : Int32) (x3 : Int32), C_10_alike_L19 F k4 S x2 n x1 x3 = some res → GG p l e rc_10_alike s m args below meth c dC dI A 4 0 0 Q (CW E ho ro S ++ P) 19 [(0, .ref (ho 0)), (1, .int x1), (2, .int x2), (3, .int x3)] [] := by
    intro k4 hk4 x2 n
    induction n with
    | zero => intro x1 x3 hf; have hf : (none : Option Int32) = some res := hf; cases hf
    | succ n ih =>
      intro x1 x3 hf
      rw [C_10_alike_L19] at hf
      refine g_iload_n X dX10_alike_19 3 rfl ?_
      refine g_aload_n X dX10_alike_20 0 rfl ?_
      refine cg_10_0 X wd2_50 dX10_alike_21 ?_
      refine cg_7_5 X tw_1 wd1_59 dX10_alike_24 ?_
      refine g_icmp_ge (tgt := 85) X dX10_alike_27 (by decide) hf (fun hf => ?_) (fun hf => ?_)
      · refine g_iinc (lv' := [(2, .int (x2 + (1 : Int32))), (0, .ref (ho 0)), (1, .int x1), (3, .int x3)]) X dX10_alike_85 2 rfl kc_1 (by decide) rfl ?_
        refine g_goto (tgt := 4) X dX10_alike_88 (by decide) ?_
        refine g_lv [1, 2, 0] (lv' := [(0, .ref (ho 0)), (1, .int x1), (2, .int (x2 + (1 : Int32)))]) rfl ?_
        exact hk4 _ _ hf
      refine g_aload_n X dX10_alike_30 0 rfl ?_
      refine cg_10_0 X wd2_50 dX10_alike_31 ?_
      refine cg_7_4 X tw_1 wd1_54 dX10_alike_34 ?_
      refine g_iload_n X dX10_alike_37 2 rfl ?_
      refine ca_ld_7_4 X tw_1 dX10_alike_38 hf (fun hf => ?_)
      refine g_iconst X dX10_alike_39 kc_m1 ?_
      refine g_icmp_eq (tgt := 79) X dX10_alike_40 (by decide) hf (fun hf => ?_) (fun hf => ?_)
      · exact hB79 _ _ hk4 _ ih _ _ hf
      refine g_aload_n X dX10_alike_43 0 rfl ?_
      refine cg_10_0 X wd2_50 dX10_alike_44 ?_
      refine cg_7_4 X tw_1 wd1_54 dX10_alike_47 ?_
      refine g_iload_n X dX10_alike_50 2 rfl ?_
      refine ca_ld_7_4 X tw_1 dX10_alike_51 hf (fun hf => ?_)
      refine g_aload_n X dX10_alike_52 0 rfl ?_
      refine cg_10_0 X wd2_50 dX10_alike_53 ?_
      refine cg_7_4 X tw_1 wd1_54 dX10_alike_56 ?_
      refine g_iload_n X dX10_alike_59 3 rfl ?_
      refine ca_ld_7_4 X tw_1 dX10_alike_60 hf (fun hf => ?_)
      refine g_icmp_ne (tgt := 79) X dX10_alike_61 (by decide) hf (fun hf => ?_) (fun hf => ?_)
      · exact hB79 _ _ hk4 _ ih _ _ hf
      refine g_aload_n X dX10_alike_64 0 rfl ?_
      refine cg_10_0 X wd2_50 dX10_alike_65 ?_
      refine g_iload_n X dX10_alike_68 2 rfl ?_
      refine g_iload_n X dX10_alike_69 3 rfl ?_
      refine m_bind hf (fun y1 hy1 hf => ?_)
      refine cw_V_i (cix := 7) (As := [.int x2, .int x3]) (st := []) X Y kV_X10_330 (cc_7_doMeet l dC dI E ev ho ro P S 1 x2 x3 tw_1 y1 hy1) (ob_7 tw_1) rfl ⟨Nat.le_of_ble_eq_true rfl, Nat.le_of_ble_eq_true rfl⟩ ⟨rfl, rfl⟩ (Nat.le_of_ble_eq_true rfl) ⟨Nat.le_of_ble_eq_true rfl, Nat.le_of_ble_eq_true rfl⟩ dX10_alike_70 ?_
      refine g_if_eq (tgt := 79) X dX10_alike_73 (by decide) hf (fun hf => ?_) (fun hf => ?_)
      · exact hB79 _ _ hk4 _ ih _ _ hf
      refine g_iinc (lv' := [(1, .int (x1 + (1 : Int32))), (0, .ref (ho 0)), (2, .int x2), (3, .int x3)]) X dX10_alike_76 1 rfl kc_1 (by decide) rfl ?_
      refine g_lv [1, 0, 2, 3] (lv' := [(0, .ref (ho 0)), (1, .int (x1 + (1 : Int32))), (2, .int x2), (3, .int x3)]) rfl ?_
      exact hB79 _ _ hk4 _ ih _ _ hf
  have hL4 : ∀  (n : Nat) (x1 : Int32) (x2 : Int32), C_10_alike_L4 F S n x1 x2 = some res → GG p l e rc_10_alike s m args below meth c dC dI A 4 0 0 Q (CW E ho ro S ++ P) 4 [(0, .ref (ho 0)), (1, .int x1), (2, .int x2)] [] := by
    intro  n
    induction n with
    | zero => intro x1 x2 hf; have hf : (none : Option Int32) = some res := hf; cases hf
    | succ n ih =>
      intro x1 x2 hf
      rw [C_10_alike_L4] at hf
      refine g_iload_n X dX10_alike_4 2 rfl ?_
      refine g_aload_n X dX10_alike_5 0 rfl ?_
      refine cg_10_0 X wd2_50 dX10_alike_6 ?_
      refine cg_7_5 X tw_1 wd1_59 dX10_alike_9 ?_
      refine g_icmp_ge (tgt := 91) X dX10_alike_12 (by decide) hf (fun hf => ?_) (fun hf => ?_)
      · refine g_iload_n X dX10_alike_91 1 rfl ?_
        exact c_reti_o hA hQ X hr hlk dX10_alike_92 hf
      refine g_iload_n X dX10_alike_15 2 rfl ?_
      refine g_iconst X dX10_alike_16 kc_1 ?_
      refine g_iadd X dX10_alike_17 ?_
      refine g_istore_n (i := 3) (lv' := [(3, .int (x2 + (1 : Int32))), (0, .ref (ho 0)), (1, .int x1), (2, .int x2)]) X dX10_alike_18 rfl (by decide) rfl ?_
      refine g_lv [1, 2, 3, 0] (lv' := [(0, .ref (ho 0)), (1, .int x1), (2, .int x2), (3, .int (x2 + (1 : Int32)))]) rfl ?_
      exact hL19 _ ih _ _ _ _ hf
  refine g_lv [0] (lv' := [(0, .ref (ho 0))]) rfl ?_
  unfold C_10_alike at hf
  refine g_iconst X dX10_alike_0 kc_0 ?_
  refine g_istore_n (i := 1) (lv' := [(1, .int (0 : Int32)), (0, .ref (ho 0))]) X dX10_alike_1 rfl (by decide) rfl ?_
  refine g_iconst X dX10_alike_2 kc_0 ?_
  refine g_istore_n (i := 2) (lv' := [(2, .int (0 : Int32)), (1, .int (0 : Int32)), (0, .ref (ho 0))]) X dX10_alike_3 rfl (by decide) rfl ?_
  refine g_lv [2, 1, 0] (lv' := [(0, .ref (ho 0)), (1, .int (0 : Int32)), (2, .int (0 : Int32))]) rfl ?_
  exact hL4 _ _ _ hf
def rc_10_round : Room := { frames := 4, cells := 0, slots := 0, locals := 91 }
set_option maxRecDepth 100000 in
set_option maxHeartbeats 4000000 in
theorem cc_10_round (l : Launch) (dC : Nat → ClassId) (dI : Nat → Nat → Nat) (E : Nat → ClassId) (ev : Nat → Nat) (ho : Nat → Nat) (ro : Nat → Nat → Nat) (F : Nat) (P : va_W) (S : CS)   (res : Int32 × CS) (hf : C_10_round F S = some res) : CC l dC dI E ev yX10_round cX10_round 4 (some .int) rc_10_round [.ref (ho 0)] (CW E ho ro S ++ P) (CW E ho ro res.2 ++ P) (some (.int res.1)) := by
  refine CC_of (own := "LostLanes") (by decide) rfl (Nat.le_of_ble_eq_true rfl) ?_
  intro p e s m args below meth c A Q X Y hr hlk hA hQ
  have hL40 : ∀ (S : CS) (n : Nat) (x1 : Int32) (x2 : Int32) (x3 : Int32), C_10_round_L40 F S n x1 x2 x3 = some res → GG p l e rc_10_round s m args below meth c dC dI A 4 0 0 Q (CW E ho ro S ++ P) 40 [(0, .ref (ho 0)), (1, .int x1), (2, .int x2), (3, .int x3)] [] := by
    intro S n
    induction n with
    | zero => intro x1 x2 x3 hf; have hf : (none : Option (Int32 × CS)) = some res := hf; cases hf
    | succ n ih =>
      intro x1 x2 x3 hf
      rw [C_10_round_L40] at hf
      refine g_iload_n X dX10_round_40 3 rfl ?_
      refine g_aload_n X dX10_round_41 0 rfl ?_
      refine cg_10_0 X wd2_50 dX10_round_42 ?_
      refine cg_7_5 X tw_1 wd1_59 dX10_round_45 ?_
      refine g_icmp_ge (tgt := 95) X dX10_round_48 (by decide) hf (fun hf => ?_) (fun hf => ?_)
      · refine g_iload_n X dX10_round_95 1 rfl ?_
        refine g_aload_n X dX10_round_96 0 rfl ?_
        refine cg_10_10 X wd2_60 dX10_round_97 ?_
        refine g_iload_n X dX10_round_100 2 rfl ?_
        refine m_bind hf (fun y1 hy1 hf => ?_)
        refine cw_V_i (cix := 8) (As := [.int x2]) (st := [.int x1]) X Y kV_X10_337 (cc_8_cheapestPairs l dC dI E ev ho ro F P S x2 y1 hy1) ob_8 rfl ⟨Nat.le_of_ble_eq_true rfl, Nat.le_of_ble_eq_true rfl⟩ ⟨rfl, rfl⟩ (Nat.le_of_ble_eq_true rfl) ⟨Nat.le_of_ble_eq_true rfl, Nat.le_of_ble_eq_true rfl⟩ dX10_round_101 ?_
        refine g_iadd X dX10_round_104 ?_
        exact c_reti_s hA hQ X hr hlk dX10_round_105 hf
      refine g_iload_n X dX10_round_51 1 rfl ?_
      refine g_aload_n X dX10_round_52 0 rfl ?_
      refine cg_10_0 X wd2_50 dX10_round_53 ?_
      refine cg_7_2 X tw_1 wd1_47 dX10_round_56 ?_
      refine g_iload_n X dX10_round_59 3 rfl ?_
      refine ca_ld_7_2 X tw_1 dX10_round_60 hf (fun hf => ?_)
      refine g_iadd X dX10_round_61 ?_
      refine g_istore_n (i := 1) (lv' := [(1, .int (x1 + (ca S 1 2 (x3).toNatClampNeg))), (0, .ref (ho 0)), (2, .int x2), (3, .int x3)]) X dX10_round_62 rfl (by decide) rfl ?_
      refine g_iload_n X dX10_round_63 2 rfl ?_
      refine g_iconst X dX10_round_64 kc_1 ?_
      refine g_aload_n X dX10_round_65 1 rfl ?_
      refine cg_10_0 X wd2_50 dX10_round_66 ?_
      refine cg_7_0 X tw_1 wd1_39 dX10_round_69 ?_
      refine g_iload_n X dX10_round_72 3 rfl ?_
      refine ca_ld_7_0 X tw_1 dX10_round_73 hf (fun hf => ?_)
      refine g_ishl X dX10_round_74 ?_
      refine g_iconst X dX10_round_75 kc_1 ?_
      refine g_aload_n X dX10_round_76 1 rfl ?_
      refine cg_10_0 X wd2_50 dX10_round_77 ?_
      refine cg_7_1 X tw_1 wd1_43 dX10_round_80 ?_
      refine g_iload_n X dX10_round_83 3 rfl ?_
      refine ca_ld_7_1 X tw_1 dX10_round_84 hf (fun hf => ?_)
      refine g_ishl X dX10_round_85 ?_
      refine g_ixor X dX10_round_86 ?_
      refine g_ixor X dX10_round_87 ?_
      refine g_istore_n (i := 2) (lv' := [(2, .int (x2 ^^^ (((1 : Int32) <<< ((ca S 1 0 (x3).toNatClampNeg) &&& 31)) ^^^ ((1 : Int32) <<< ((ca S 1 1 (x3).toNatClampNeg) &&& 31))))), (1, .int (x1 + (ca S 1 2 (x3).toNatClampNeg))), (0, .ref (ho 0)), (3, .int x3)]) X dX10_round_88 rfl (by decide) rfl ?_
      refine g_iinc (lv' := [(3, .int (x3 + (1 : Int32))), (2, .int (x2 ^^^ (((1 : Int32) <<< ((ca S 1 0 (x3).toNatClampNeg) &&& 31)) ^^^ ((1 : Int32) <<< ((ca S 1 1 (x3).toNatClampNeg) &&& 31))))), (1, .int (x1 + (ca S 1 2 (x3).toNatClampNeg))), (0, .ref (ho 0))]) X dX10_round_89 3 rfl kc_1 (by decide) rfl ?_
      refine g_goto (tgt := 40) X dX10_round_92 (by decide) ?_
      refine g_lv [3, 2, 1, 0] (lv' := [(0, .ref (ho 0)), (1, .int (x1 + (ca S 1 2 (x3).toNatClampNeg))), (2, .int (x2 ^^^ (((1 : Int32) <<< ((ca S 1 0 (x3).toNatClampNeg) &&& 31)) ^^^ ((1 : Int32) <<< ((ca S 1 1 (x3).toNatClampNeg) &&& 31))))), (3, .int (x3 + (1 : Int32)))]) rfl ?_
      exact ih _ _ _ hf
  refine g_lv [0] (lv' := [(0, .ref (ho 0))]) rfl ?_
  unfold C_10_round at hf
  refine g_aload_n X dX10_round_0 0 rfl ?_
  refine cg_10_10 X wd2_60 dX10_round_1 ?_
  refine g_aload_n X dX10_round_4 0 rfl ?_
  refine cg_10_0 X wd2_50 dX10_round_5 ?_
  refine m_bind hf (fun y2 hy2 hf => ?_)
  refine cw_V_v (cix := 8) (As := [.ref (ho 1)]) (st := []) X Y kV_X10_255 (cc_8_measure l dC dI E ev ho ro F P S 1 tw_1 y2 hy2) ob_8 rfl ⟨Nat.le_of_ble_eq_true rfl, Nat.le_of_ble_eq_true rfl⟩ ⟨rfl, rfl⟩ (Nat.le_of_ble_eq_true rfl) ⟨Nat.le_of_ble_eq_true rfl, Nat.le_of_ble_eq_true rfl⟩ dX10_round_8 ?_
  refine g_aload_n X dX10_round_11 0 rfl ?_
  refine cg_10_10 X wd2_60 dX10_round_12 ?_
  refine g_aload_n X dX10_round_15 0 rfl ?_
  refine cg_10_10 X wd2_60 dX10_round_16 ?_
  refine g_aload_n X dX10_round_19 0 rfl ?_
  refine cg_10_0 X wd2_50 dX10_round_20 ?_
  refine m_bind hf (fun y3 hy3 hf => ?_)
  refine cw_V_i (cix := 8) (As := [.ref (ho 1)]) (st := [.ref (ho 13)]) X Y kV_X10_283 (cc_8_cornersWithLanes l dC dI E ev ho ro F P y2.2 1 tw_1 y3 hy3) ob_8 rfl ⟨Nat.le_of_ble_eq_true rfl, Nat.le_of_ble_eq_true rfl⟩ ⟨rfl, rfl⟩ (Nat.le_of_ble_eq_true rfl) ⟨Nat.le_of_ble_eq_true rfl, Nat.le_of_ble_eq_true rfl⟩ dX10_round_23 ?_
  refine m_bind hf (fun y4 hy4 hf => ?_)
  refine cw_V_i (cix := 8) (As := [.int y3]) (st := []) X Y kV_X10_334 (cc_8_hangTogether l dC dI E ev ho ro F P y2.2 y3 y4 hy4) ob_8 rfl ⟨Nat.le_of_ble_eq_true rfl, Nat.le_of_ble_eq_true rfl⟩ ⟨rfl, rfl⟩ (Nat.le_of_ble_eq_true rfl) ⟨Nat.le_of_ble_eq_true rfl, Nat.le_of_ble_eq_true rfl⟩ dX10_round_26 ?_
  refine g_if_ne (tgt := 34) X dX10_round_29 (by decide) hf (fun hf => ?_) (fun hf => ?_)
  · refine g_iconst X dX10_round_34 kc_0 ?_
    refine g_istore_n (i := 1) (lv' := [(1, .int (0 : Int32)), (0, .ref (ho 0))]) X dX10_round_35 rfl (by decide) rfl ?_
    refine g_iconst X dX10_round_36 kc_0 ?_
    refine g_istore_n (i := 2) (lv' := [(2, .int (0 : Int32)), (1, .int (0 : Int32)), (0, .ref (ho 0))]) X dX10_round_37 rfl (by decide) rfl ?_
    refine g_iconst X dX10_round_38 kc_0 ?_
    refine g_istore_n (i := 3) (lv' := [(3, .int (0 : Int32)), (2, .int (0 : Int32)), (1, .int (0 : Int32)), (0, .ref (ho 0))]) X dX10_round_39 rfl (by decide) rfl ?_
    refine g_lv [3, 2, 1, 0] (lv' := [(0, .ref (ho 0)), (1, .int (0 : Int32)), (2, .int (0 : Int32)), (3, .int (0 : Int32))]) rfl ?_
    exact hL40 _ _ _ _ _ hf
  refine g_iconst X dX10_round_32 kc_m1 ?_
  exact c_reti_s hA hQ X hr hlk dX10_round_33 hf
def rc_10_dead : Room := { frames := 0, cells := 0, slots := 0, locals := 0 }
set_option maxRecDepth 100000 in
set_option maxHeartbeats 4000000 in
theorem cc_10_dead (l : Launch) (dC : Nat → ClassId) (dI : Nat → Nat → Nat) (E : Nat → ClassId) (ev : Nat → Nat) (ho : Nat → Nat) (ro : Nat → Nat → Nat) (F : Nat) (P : va_W) (S : CS)   (res : Int32) (hf : C_10_dead F S = some res) : CC l dC dI E ev yX10_dead cX10_dead 5 (some .int) rc_10_dead [.ref (ho 0)] (CW E ho ro S ++ P) (CW E ho ro S ++ P) (some (.int res)) := by
  refine CC_of (own := "LostLanes") (by decide) rfl (Nat.le_of_ble_eq_true rfl) ?_
  intro p e s m args below meth c A Q X Y hr hlk hA hQ
  have hL6 : ∀  (n : Nat) (x1 : Int32) (x2 : Int32) (x3 : Int32), C_10_dead_L6 F S n x1 x2 x3 = some res → GG p l e rc_10_dead s m args below meth c dC dI A 5 0 0 Q (CW E ho ro S ++ P) 6 [(0, .ref (ho 0)), (1, .int x1), (2, .int x2), (3, .int x3)] [] := by
    intro  n
    induction n with
    | zero => intro x1 x2 x3 hf; have hf : (none : Option Int32) = some res := hf; cases hf
    | succ n ih =>
      intro x1 x2 x3 hf
      rw [C_10_dead_L6] at hf
      refine g_iload_n X dX10_dead_6 3 rfl ?_
      refine g_aload_n X dX10_dead_7 0 rfl ?_
      refine cg_10_0 X wd2_50 dX10_dead_8 ?_
      refine cg_7_5 X tw_1 wd1_59 dX10_dead_11 ?_
      refine g_icmp_ge (tgt := 60) X dX10_dead_14 (by decide) hf (fun hf => ?_) (fun hf => ?_)
      · refine g_iload_n X dX10_dead_60 1 rfl ?_
        refine g_iload_n X dX10_dead_61 2 rfl ?_
        refine g_iconst X dX10_dead_62 kc_m1 ?_
        refine g_ixor X dX10_dead_63 ?_
        refine g_iand X dX10_dead_64 ?_
        exact c_reti_o hA hQ X hr hlk dX10_dead_65 hf
      refine g_iconst X dX10_dead_17 kc_1 ?_
      refine g_aload_n X dX10_dead_18 0 rfl ?_
      refine cg_10_0 X wd2_50 dX10_dead_19 ?_
      refine cg_7_0 X tw_1 wd1_39 dX10_dead_22 ?_
      refine g_iload_n X dX10_dead_25 3 rfl ?_
      refine ca_ld_7_0 X tw_1 dX10_dead_26 hf (fun hf => ?_)
      refine g_ishl X dX10_dead_27 ?_
      refine g_iconst X dX10_dead_28 kc_1 ?_
      refine g_aload_n X dX10_dead_29 0 rfl ?_
      refine cg_10_0 X wd2_50 dX10_dead_30 ?_
      refine cg_7_1 X tw_1 wd1_43 dX10_dead_33 ?_
      refine g_iload_n X dX10_dead_36 3 rfl ?_
      refine ca_ld_7_1 X tw_1 dX10_dead_37 hf (fun hf => ?_)
      refine g_ishl X dX10_dead_38 ?_
      refine g_ior X dX10_dead_39 ?_
      refine g_istore (lv' := [(4, .int (((1 : Int32) <<< ((ca S 1 0 (x3).toNatClampNeg) &&& 31)) ||| ((1 : Int32) <<< ((ca S 1 1 (x3).toNatClampNeg) &&& 31)))), (0, .ref (ho 0)), (1, .int x1), (2, .int x2), (3, .int x3)]) X dX10_dead_40 (by decide) rfl ?_
      refine g_iload_n X dX10_dead_42 3 rfl ?_
      refine g_iload_n X dX10_dead_43 2 rfl ?_
      refine g_iload X dX10_dead_44 0 rfl ?_
      refine g_iand X dX10_dead_46 ?_
      refine g_ior X dX10_dead_47 ?_
      refine g_istore_n (i := 2) (lv' := [(2, .int (x2 ||| (x1 &&& (((1 : Int32) <<< ((ca S 1 0 (x3).toNatClampNeg) &&& 31)) ||| ((1 : Int32) <<< ((ca S 1 1 (x3).toNatClampNeg) &&& 31)))))), (4, .int (((1 : Int32) <<< ((ca S 1 0 (x3).toNatClampNeg) &&& 31)) ||| ((1 : Int32) <<< ((ca S 1 1 (x3).toNatClampNeg) &&& 31)))), (0, .ref (ho 0)), (1, .int x1), (3, .int x3)]) X dX10_dead_48 rfl (by decide) rfl ?_
      refine g_iload_n X dX10_dead_49 3 rfl ?_
      refine g_iload X dX10_dead_50 1 rfl ?_
      refine g_ior X dX10_dead_52 ?_
      refine g_istore_n (i := 1) (lv' := [(1, .int (x1 ||| (((1 : Int32) <<< ((ca S 1 0 (x3).toNatClampNeg) &&& 31)) ||| ((1 : Int32) <<< ((ca S 1 1 (x3).toNatClampNeg) &&& 31))))), (2, .int (x2 ||| (x1 &&& (((1 : Int32) <<< ((ca S 1 0 (x3).toNatClampNeg) &&& 31)) ||| ((1 : Int32) <<< ((ca S 1 1 (x3).toNatClampNeg) &&& 31)))))), (4, .int (((1 : Int32) <<< ((ca S 1 0 (x3).toNatClampNeg) &&& 31)) ||| ((1 : Int32) <<< ((ca S 1 1 (x3).toNatClampNeg) &&& 31)))), (0, .ref (ho 0)), (3, .int x3)]) X dX10_dead_53 rfl (by decide) rfl ?_
      refine g_iinc (lv' := [(3, .int (x3 + (1 : Int32))), (1, .int (x1 ||| (((1 : Int32) <<< ((ca S 1 0 (x3).toNatClampNeg) &&& 31)) ||| ((1 : Int32) <<< ((ca S 1 1 (x3).toNatClampNeg) &&& 31))))), (2, .int (x2 ||| (x1 &&& (((1 : Int32) <<< ((ca S 1 0 (x3).toNatClampNeg) &&& 31)) ||| ((1 : Int32) <<< ((ca S 1 1 (x3).toNatClampNeg) &&& 31)))))), (4, .int (((1 : Int32) <<< ((ca S 1 0 (x3).toNatClampNeg) &&& 31)) ||| ((1 : Int32) <<< ((ca S 1 1 (x3).toNatClampNeg) &&& 31)))), (0, .ref (ho 0))]) X dX10_dead_54 4 rfl kc_1 (by decide) rfl ?_
      refine g_goto (tgt := 6) X dX10_dead_57 (by decide) ?_
      refine g_lv [4, 1, 2, 0] (lv' := [(0, .ref (ho 0)), (1, .int (x1 ||| (((1 : Int32) <<< ((ca S 1 0 (x3).toNatClampNeg) &&& 31)) ||| ((1 : Int32) <<< ((ca S 1 1 (x3).toNatClampNeg) &&& 31))))), (2, .int (x2 ||| (x1 &&& (((1 : Int32) <<< ((ca S 1 0 (x3).toNatClampNeg) &&& 31)) ||| ((1 : Int32) <<< ((ca S 1 1 (x3).toNatClampNeg) &&& 31)))))), (3, .int (x3 + (1 : Int32)))]) rfl ?_
      exact ih _ _ _ hf
  refine g_lv [0] (lv' := [(0, .ref (ho 0))]) rfl ?_
  unfold C_10_dead at hf
  refine g_iconst X dX10_dead_0 kc_0 ?_
  refine g_istore_n (i := 1) (lv' := [(1, .int (0 : Int32)), (0, .ref (ho 0))]) X dX10_dead_1 rfl (by decide) rfl ?_
  refine g_iconst X dX10_dead_2 kc_0 ?_
  refine g_istore_n (i := 2) (lv' := [(2, .int (0 : Int32)), (1, .int (0 : Int32)), (0, .ref (ho 0))]) X dX10_dead_3 rfl (by decide) rfl ?_
  refine g_iconst X dX10_dead_4 kc_0 ?_
  refine g_istore_n (i := 3) (lv' := [(3, .int (0 : Int32)), (2, .int (0 : Int32)), (1, .int (0 : Int32)), (0, .ref (ho 0))]) X dX10_dead_5 rfl (by decide) rfl ?_
  refine g_lv [3, 2, 1, 0] (lv' := [(0, .ref (ho 0)), (1, .int (0 : Int32)), (2, .int (0 : Int32)), (3, .int (0 : Int32))]) rfl ?_
  exact hL6 _ _ _ _ hf
def rc_J7_fillL : Room := { frames := 0, cells := 0, slots := 0, locals := 0 }
set_option maxRecDepth 100000 in
set_option maxHeartbeats 4000000 in
theorem cc_J7_fillL (l : Launch) (dC : Nat → ClassId) (dI : Nat → Nat → Nat) (E : Nat → ClassId) (ev : Nat → Nat) (ho : Nat → Nat) (ro : Nat → Nat → Nat) (F : Nat) (P : va_W) (S : CS) (x1 : Int64)  (res : Unit × CS) (hf : C_J7_fillL F S x1 = some res) : CC l dC dI E ev yJ7_fill_d0a16 cJ7_fill_d0a16 5 none rc_J7_fillL [.ref (ro 0 14), .long x1] (CW E ho ro S ++ P) (CW E ho ro res.2 ++ P) none := by
  refine CC_of (own := "java/util/Arrays") (by decide) rfl (Nat.le_of_ble_eq_true rfl) ?_
  intro p e s m args below meth c A Q X Y hr hlk hA hQ
  have hL6 : ∀ (x1 : Int64) (x4 : Int32) (n : Nat) (S : CS) (x3 : Int32), C_J7_fillL_L6 F x1 x4 n S x3 = some res → GG p l e rc_J7_fillL s m args below meth c dC dI A 5 0 0 Q (CW E ho ro S ++ P) 6 [(0, .ref (ro 0 14)), (1, .long x1), (3, .int x3), (4, .int x4)] [] := by
    intro x1 x4 n
    induction n with
    | zero => intro S x3 hf; have hf : (none : Option (Unit × CS)) = some res := hf; cases hf
    | succ n ih =>
      intro S x3 hf
      rw [C_J7_fillL_L6] at hf
      refine g_iload_n X dJ7_fill_d0a16_6 2 rfl ?_
      refine g_iload X dJ7_fill_d0a16_7 3 rfl ?_
      refine g_icmp_ge (tgt := 22) X dJ7_fill_d0a16_9 (by decide) hf (fun hf => ?_) (fun hf => ?_)
      · exact c_retv_s hA hQ X hr hlk dJ7_fill_d0a16_22 hf
      refine g_aload_n X dJ7_fill_d0a16_12 0 rfl ?_
      refine g_iload_n X dJ7_fill_d0a16_13 2 rfl ?_
      refine g_lload_n X dJ7_fill_d0a16_14 1 rfl ?_
      refine ca_st_10_14 X dJ7_fill_d0a16_15 hf (fun S1 hf => ?_)
      refine g_iinc (lv' := [(3, .int (x3 + (1 : Int32))), (0, .ref (ro 0 14)), (1, .long x1), (4, .int x4)]) X dJ7_fill_d0a16_16 2 rfl kc_1 (by decide) rfl ?_
      refine g_goto (tgt := 6) X dJ7_fill_d0a16_19 (by decide) ?_
      refine g_lv [1, 2, 0, 3] (lv' := [(0, .ref (ro 0 14)), (1, .long x1), (3, .int (x3 + (1 : Int32))), (4, .int x4)]) rfl ?_
      exact ih _ _ hf
  refine g_lv [0, 1] (lv' := [(0, .ref (ro 0 14)), (1, .long x1)]) rfl ?_
  unfold C_J7_fillL at hf
  refine g_iconst X dJ7_fill_d0a16_0 kc_0 ?_
  refine g_istore_n (i := 3) (lv' := [(3, .int (0 : Int32)), (0, .ref (ro 0 14)), (1, .long x1)]) X dJ7_fill_d0a16_1 rfl (by decide) rfl ?_
  refine g_aload_n X dJ7_fill_d0a16_2 1 rfl ?_
  refine ca_len_10_14 X kn_20 dJ7_fill_d0a16_3 ?_
  refine g_istore (lv' := [(4, .int (20 : Int32)), (3, .int (0 : Int32)), (0, .ref (ro 0 14)), (1, .long x1)]) X dJ7_fill_d0a16_4 (by decide) rfl ?_
  refine g_lv [2, 3, 1, 0] (lv' := [(0, .ref (ro 0 14)), (1, .long x1), (3, .int (0 : Int32)), (4, .int (20 : Int32))]) rfl ?_
  exact hL6 _ _ _ _ _ hf
def rc_10_few : Room := { frames := 1, cells := 0, slots := 0, locals := 24 }
set_option maxRecDepth 100000 in
set_option maxHeartbeats 4000000 in
theorem cc_10_few (l : Launch) (dC : Nat → ClassId) (dI : Nat → Nat → Nat) (E : Nat → ClassId) (ev : Nat → Nat) (ho : Nat → Nat) (ro : Nat → Nat → Nat) (F : Nat) (P : va_W) (S : CS) (x1 : Int32) (x2 : Int32)  (res : Int64 × CS) (hf : C_10_few F S x1 x2 = some res) : CC l dC dI E ev yX10_few cX10_few 8 (some .long) rc_10_few [.ref (ho 0), .int x1, .int x2] (CW E ho ro S ++ P) (CW E ho ro res.2 ++ P) (some (.long res.1)) := by
  refine CC_of (own := "LostLanes") (by decide) rfl (Nat.le_of_ble_eq_true rfl) ?_
  intro p e s m args below meth c A Q X Y hr hlk hA hQ
  have hL152 : ∀ (S : CS) (x1 : Int32) (n : Nat) (x5 : Int64) (x7 : Int32), C_10_few_L152 F S x1 n x5 x7 = some res → GG p l e rc_10_few s m args below meth c dC dI A 8 0 0 Q (CW E ho ro S ++ P) 152 [(0, .ref (ho 0)), (1, .int x1), (5, .long x5), (7, .int x7)] [] := by
    intro S x1 n
    induction n with
    | zero => intro x5 x7 hf; have hf : (none : Option (Int64 × CS)) = some res := hf; cases hf
    | succ n ih =>
      intro x5 x7 hf
      rw [C_10_few_L152] at hf
      refine g_iload X dX10_few_152 3 rfl ?_
      refine g_iload_n X dX10_few_154 1 rfl ?_
      refine g_icmp_ge (tgt := 176) X dX10_few_155 (by decide) hf (fun hf => ?_) (fun hf => ?_)
      · refine g_lload X dX10_few_176 2 rfl ?_
        exact c_retl_s hA hQ X hr hlk dX10_few_178 hf
      refine g_lload X dX10_few_158 2 rfl ?_
      refine g_aload_n X dX10_few_160 0 rfl ?_
      refine cg_10_14 X wd2_64 dX10_few_161 ?_
      refine g_iload X dX10_few_164 3 rfl ?_
      refine ca_ld_10_14 X dX10_few_166 hf (fun hf => ?_)
      refine g_ladd X dX10_few_167 ?_
      refine g_lstore (lv' := [(5, .long (x5 + (cb S (x7).toNatClampNeg))), (0, .ref (ho 0)), (1, .int x1), (7, .int x7)]) X dX10_few_168 (by decide) rfl ?_
      refine g_iinc (lv' := [(7, .int (x7 + (1 : Int32))), (5, .long (x5 + (cb S (x7).toNatClampNeg))), (0, .ref (ho 0)), (1, .int x1)]) X dX10_few_170 3 rfl kc_1 (by decide) rfl ?_
      refine g_goto (tgt := 152) X dX10_few_173 (by decide) ?_
      refine g_lv [2, 3, 1, 0] (lv' := [(0, .ref (ho 0)), (1, .int x1), (5, .long (x5 + (cb S (x7).toNatClampNeg))), (7, .int (x7 + (1 : Int32)))]) rfl ?_
      exact ih _ _ hf
  have hL67 : ∀ (x1 : Int32) (x2 : Int32) (x3 : Int64) (k56 : CS → Int32 → Option (Int64 × CS)) (hk56 : ∀ (S : CS) (x5 : Int32), k56 S x5 = some res → GG p l e rc_10_few s m args below meth c dC dI A 8 0 0 Q (CW E ho ro S ++ P) 56 [(0, .ref (ho 0)), (1, .int x1), (2, .int x2), (3, .long x3), (5, .int x5)] []) (x5 : Int32) (n : Nat) (S : CS) (x6 : Int32), C_10_few_L67 F k56 x1 x2 x3 x5 n S x6 = some res → GG p l e rc_10_few s m args below meth c dC dI A 8 0 0 Q (CW E ho ro S ++ P) 67 [(0, .ref (ho 0)), (1, .int x1), (2, .int x2), (3, .long x3), (5, .int x5), (6, .int x6)] [] := by
    intro x1 x2 x3 k56 hk56 x5 n
    induction n with
    | zero => intro S x6 hf; have hf : (none : Option (Int64 × CS)) = some res := hf; cases hf
    | succ n ih =>
      intro S x6 hf
      rw [C_10_few_L67] at hf
      refine g_iload X dX10_few_67 5 rfl ?_
      refine g_if_le (tgt := 118) X dX10_few_69 (by decide) hf (fun hf => ?_) (fun hf => ?_)
      · refine g_aload_n X dX10_few_118 0 rfl ?_
        refine cg_10_14 X wd2_64 dX10_few_119 ?_
        refine g_iconst X dX10_few_122 kc_0 ?_
        refine g_aload_n X dX10_few_123 0 rfl ?_
        refine cg_10_14 X wd2_64 dX10_few_124 ?_
        refine g_iconst X dX10_few_127 kc_0 ?_
        refine ca_ldc_10_14 X kt_0 kx_0_20 dX10_few_128 ?_
        refine g_ldc2 X dX10_few_129 wd5_80 ?_
        refine g_lload_n X dX10_few_132 3 rfl ?_
        refine g_lsub X dX10_few_133 ?_
        refine g_lmul X dX10_few_134 ?_
        refine g_ldc2 X dX10_few_135 wd5_80 ?_
        refine g_ldiv X dX10_few_138 (by decide) ?_
        refine ca_stc_10_14 X kt_0 kx_0_20 dX10_few_139 hf (fun S1 hf => ?_)
        refine g_iinc (lv' := [(5, .int (x5 + (1 : Int32))), (0, .ref (ho 0)), (1, .int x1), (2, .int x2), (3, .long x3), (6, .int x6)]) X dX10_few_140 4 rfl kc_1 (by decide) rfl ?_
        refine g_goto (tgt := 56) X dX10_few_143 (by decide) ?_
        refine g_lv [1, 2, 3, 4, 0] (lv' := [(0, .ref (ho 0)), (1, .int x1), (2, .int x2), (3, .long x3), (5, .int (x5 + (1 : Int32)))]) rfl ?_
        exact hk56 _ _ hf
      refine g_aload_n X dX10_few_72 0 rfl ?_
      refine cg_10_14 X wd2_64 dX10_few_73 ?_
      refine g_iload X dX10_few_76 5 rfl ?_
      refine g_aload_n X dX10_few_78 0 rfl ?_
      refine cg_10_14 X wd2_64 dX10_few_79 ?_
      refine g_iload X dX10_few_82 5 rfl ?_
      refine ca_ld_10_14 X dX10_few_84 hf (fun hf => ?_)
      refine g_ldc2 X dX10_few_85 wd5_80 ?_
      refine g_lload_n X dX10_few_88 3 rfl ?_
      refine g_lsub X dX10_few_89 ?_
      refine g_lmul X dX10_few_90 ?_
      refine g_ldc2 X dX10_few_91 wd5_80 ?_
      refine g_ldiv X dX10_few_94 (by decide) ?_
      refine g_aload_n X dX10_few_95 0 rfl ?_
      refine cg_10_14 X wd2_64 dX10_few_96 ?_
      refine g_iload X dX10_few_99 5 rfl ?_
      refine g_iconst X dX10_few_101 kc_1 ?_
      refine g_isub X dX10_few_102 ?_
      refine ca_ld_10_14 X dX10_few_103 hf (fun hf => ?_)
      refine g_lload_n X dX10_few_104 3 rfl ?_
      refine g_lmul X dX10_few_105 ?_
      refine g_ldc2 X dX10_few_106 wd5_80 ?_
      refine g_ldiv X dX10_few_109 (by decide) ?_
      refine g_ladd X dX10_few_110 ?_
      refine ca_st_10_14 X dX10_few_111 hf (fun S2 hf => ?_)
      refine g_iinc (lv' := [(6, .int (x6 + (-1 : Int32))), (0, .ref (ho 0)), (1, .int x1), (2, .int x2), (3, .long x3), (5, .int x5)]) X dX10_few_112 5 rfl kc_m1 (by decide) rfl ?_
      refine g_goto (tgt := 67) X dX10_few_115 (by decide) ?_
      refine g_lv [1, 2, 3, 4, 5, 0] (lv' := [(0, .ref (ho 0)), (1, .int x1), (2, .int x2), (3, .long x3), (5, .int x5), (6, .int (x6 + (-1 : Int32)))]) rfl ?_
      exact ih _ _ hf
  have hL56 : ∀ (x1 : Int32) (x2 : Int32) (x3 : Int64) (n : Nat) (S : CS) (x5 : Int32), C_10_few_L56 F x1 x2 x3 n S x5 = some res → GG p l e rc_10_few s m args below meth c dC dI A 8 0 0 Q (CW E ho ro S ++ P) 56 [(0, .ref (ho 0)), (1, .int x1), (2, .int x2), (3, .long x3), (5, .int x5)] [] := by
    intro x1 x2 x3 n
    induction n with
    | zero => intro S x5 hf; have hf : (none : Option (Int64 × CS)) = some res := hf; cases hf
    | succ n ih =>
      intro S x5 hf
      rw [C_10_few_L56] at hf
      refine g_iload X dX10_few_56 4 rfl ?_
      refine g_iload_n X dX10_few_58 2 rfl ?_
      refine g_icmp_ge (tgt := 146) X dX10_few_59 (by decide) hf (fun hf => ?_) (fun hf => ?_)
      · refine g_lconst X dX10_few_146 kl_0 ?_
        refine g_lstore (lv' := [(5, .long (0 : Int64)), (0, .ref (ho 0)), (1, .int x1), (2, .int x2), (3, .long x3)]) X dX10_few_147 (by decide) rfl ?_
        refine g_iconst X dX10_few_149 kc_0 ?_
        refine g_istore (lv' := [(7, .int (0 : Int32)), (5, .long (0 : Int64)), (0, .ref (ho 0)), (1, .int x1), (2, .int x2), (3, .long x3)]) X dX10_few_150 (by decide) rfl ?_
        refine g_lv [2, 3, 1, 0] (lv' := [(0, .ref (ho 0)), (1, .int x1), (5, .long (0 : Int64)), (7, .int (0 : Int32))]) rfl ?_
        exact hL152 _ _ _ _ _ hf
      refine g_iload_n X dX10_few_62 1 rfl ?_
      refine g_iconst X dX10_few_63 kc_1 ?_
      refine g_isub X dX10_few_64 ?_
      refine g_istore (lv' := [(6, .int (x1 - (1 : Int32))), (0, .ref (ho 0)), (1, .int x1), (2, .int x2), (3, .long x3), (5, .int x5)]) X dX10_few_65 (by decide) rfl ?_
      refine g_lv [1, 2, 3, 4, 5, 0] (lv' := [(0, .ref (ho 0)), (1, .int x1), (2, .int x2), (3, .long x3), (5, .int x5), (6, .int (x1 - (1 : Int32)))]) rfl ?_
      exact hL67 _ _ _ _ ih _ _ _ _ hf
  have hB21 : ∀ (S : CS), C_10_few_B21 F S = some res → GG p l e rc_10_few s m args below meth c dC dI A 8 0 0 Q (CW E ho ro S ++ P) 21 [] [] := by
    intro S hf
    unfold C_10_few_B21 at hf
    refine g_ldc2 X dX10_few_21 wd5_75 ?_
    exact c_retl_s hA hQ X hr hlk dX10_few_24 hf
  refine g_lv [0, 1, 2] (lv' := [(0, .ref (ho 0)), (1, .int x1), (2, .int x2)]) rfl ?_
  unfold C_10_few at hf
  refine g_iload_n X dX10_few_0 1 rfl ?_
  refine g_iconst X dX10_few_1 kc_1 ?_
  refine g_icmp_lt (tgt := 21) X dX10_few_2 (by decide) hf (fun hf => ?_) (fun hf => ?_)
  · refine g_lv [] (lv' := []) rfl ?_
    exact hB21 _ hf
  refine g_iload_n X dX10_few_5 1 rfl ?_
  refine g_bipush X dX10_few_6 kb_20 ?_
  refine g_icmp_gt (tgt := 21) X dX10_few_8 (by decide) hf (fun hf => ?_) (fun hf => ?_)
  · refine g_lv [] (lv' := []) rfl ?_
    exact hB21 _ hf
  refine g_iload_n X dX10_few_11 2 rfl ?_
  refine g_if_lt (tgt := 21) X dX10_few_12 (by decide) hf (fun hf => ?_) (fun hf => ?_)
  · refine g_lv [] (lv' := []) rfl ?_
    exact hB21 _ hf
  refine g_iload_n X dX10_few_15 2 rfl ?_
  refine g_bipush X dX10_few_16 kb_99 ?_
  refine g_icmp_le (tgt := 25) X dX10_few_18 (by decide) hf (fun hf => ?_) (fun hf => ?_)
  · refine g_aload_n X dX10_few_25 0 rfl ?_
    refine cg_10_14 X wd2_64 dX10_few_26 ?_
    refine g_lconst X dX10_few_29 kl_0 ?_
    refine m_bind hf (fun y3 hy3 hf => ?_)
    refine cw_T_v (As := [.ref (ro 0 14), .long (0 : Int64)]) (st := []) X Y kT_X10_342 (cc_J7_fillL l dC dI E ev ho ro F P S (0 : Int64) y3 hy3) ⟨Nat.le_of_ble_eq_true rfl, Nat.le_of_ble_eq_true rfl⟩ ⟨rfl, rfl⟩ (Nat.le_of_ble_eq_true rfl) ⟨Nat.le_of_ble_eq_true rfl, Nat.le_of_ble_eq_true rfl⟩ dX10_few_30 ?_
    refine g_aload_n X dX10_few_33 0 rfl ?_
    refine cg_10_14 X wd2_64 dX10_few_34 ?_
    refine g_iconst X dX10_few_37 kc_0 ?_
    refine g_ldc2 X dX10_few_38 wd5_79 ?_
    refine ca_stc_10_14 X kt_0 kx_0_20 dX10_few_41 hf (fun S4 hf => ?_)
    refine g_aload_n X dX10_few_42 0 rfl ?_
    refine cg_10_0 X wd2_50 dX10_few_43 ?_
    refine cg_7_12 X tw_1 wd1_84 dX10_few_46 ?_
    refine g_iconst X dX10_few_49 kc_1 ?_
    refine ca_ldc_7_12 X tw_1 kt_1 kx_1_3 dX10_few_50 ?_
    refine g_i2l X dX10_few_51 ?_
    refine g_lstore_n (i := 3) (lv' := [(3, .long ((ca S4 1 12 1)).toInt64), (0, .ref (ho 0)), (1, .int x1), (2, .int x2)]) X dX10_few_52 rfl (by decide) rfl ?_
    refine g_iconst X dX10_few_53 kc_0 ?_
    refine g_istore (lv' := [(5, .int (0 : Int32)), (3, .long ((ca S4 1 12 1)).toInt64), (0, .ref (ho 0)), (1, .int x1), (2, .int x2)]) X dX10_few_54 (by decide) rfl ?_
    refine g_lv [2, 3, 4, 1, 0] (lv' := [(0, .ref (ho 0)), (1, .int x1), (2, .int x2), (3, .long ((ca S4 1 12 1)).toInt64), (5, .int (0 : Int32))]) rfl ?_
    exact hL56 _ _ _ _ _ _ hf
  refine g_lv [] (lv' := []) rfl ?_
  exact hB21 _ hf
def rc_10_compare : Room := { frames := 4, cells := 0, slots := 0, locals := 107 }
set_option maxRecDepth 100000 in
set_option maxHeartbeats 4000000 in
theorem cc_10_compare (l : Launch) (dC : Nat → ClassId) (dI : Nat → Nat → Nat) (E : Nat → ClassId) (ev : Nat → Nat) (ho : Nat → Nat) (ro : Nat → Nat → Nat) (F : Nat) (P : va_W) (S : CS) (x1 : Int32) (x2 : Int32)  (res : Int32 × CS) (hf : C_10_compare F E P S x1 x2 = some res) : CC l dC dI E ev yX10_compare cX10_compare 5 (some .int) rc_10_compare [.ref (ho 0), .int x1, .int x2] (CW E ho ro S ++ P) (CW E ho ro res.2 ++ P) (some (.int res.1)) := by
  refine CC_of (own := "LostLanes") (by decide) rfl (Nat.le_of_ble_eq_true rfl) ?_
  intro p e s m args below meth c A Q X Y hr hlk hA hQ
  have hB16 : ∀ (S : CS) (x1 : Int32) (x2 : Int32), C_10_compare_B16 F E P S x1 x2 = some res → GG p l e rc_10_compare s m args below meth c dC dI A 5 0 0 Q (CW E ho ro S ++ P) 16 [(0, .ref (ho 0)), (1, .int x1), (2, .int x2)] [] := by
    intro S x1 x2 hf
    unfold C_10_compare_B16 at hf
    refine g_aload_n X dX10_compare_16 0 rfl ?_
    refine cg_10_0 X wd2_50 dX10_compare_17 ?_
    refine g_iload_n X dX10_compare_20 2 rfl ?_
    refine m_bind hf (fun y1 hy1 hf => ?_)
    refine cw_V_i (cix := 7) (As := [.int x2]) (st := []) X Y kV_X10_139 (cc_7_hasChild l dC dI E ev ho ro P S 1 x2 tw_1 y1 hy1) (ob_7 tw_1) rfl ⟨Nat.le_of_ble_eq_true rfl, Nat.le_of_ble_eq_true rfl⟩ ⟨rfl, rfl⟩ (Nat.le_of_ble_eq_true rfl) ⟨Nat.le_of_ble_eq_true rfl, Nat.le_of_ble_eq_true rfl⟩ dX10_compare_21 ?_
    refine g_if_ne (tgt := 29) X dX10_compare_24 (by decide) hf (fun hf => ?_) (fun hf => ?_)
    · refine g_aload_n X dX10_compare_29 0 rfl ?_
      refine cg_10_8 X wd2_58 dX10_compare_30 ?_
      refine g_aload_n X dX10_compare_33 0 rfl ?_
      refine cg_10_0 X wd2_50 dX10_compare_34 ?_
      refine g_aload_n X dX10_compare_37 0 rfl ?_
      refine cg_10_0 X wd2_50 dX10_compare_38 ?_
      refine g_iload_n X dX10_compare_41 1 rfl ?_
      refine m_bind hf (fun y2 hy2 hf => ?_)
      refine cw_V_q (cix := 7) (As := [.int x1]) (st := [.ref (ho 1), .ref (ho 11)]) X Y kV_X10_349 (cc_7_lawOf l dC dI E ev ho ro P S 1 x1 tw_1 y2 hy2) (ob_7 tw_1) rfl ⟨Nat.le_of_ble_eq_true rfl, Nat.le_of_ble_eq_true rfl⟩ ⟨rfl, rfl⟩ (Nat.le_of_ble_eq_true rfl) ⟨Nat.le_of_ble_eq_true rfl, Nat.le_of_ble_eq_true rfl⟩ dX10_compare_42 ?_
      refine g_iload_n X dX10_compare_45 2 rfl ?_
      refine m_bind hf (fun y3 hy3 hf => ?_)
      refine cw_V_i (cix := 9) (As := [.ref (ho 1), va_rf y2, .int x2]) (st := []) X Y kV_X10_159 (cc_9_laneTaken l dC dI E ev ho ro F P S 1 y2 x2 tw_1 y3 hy3) ob_9 rfl ⟨Nat.le_of_ble_eq_true rfl, Nat.le_of_ble_eq_true rfl⟩ ⟨rfl, rfl⟩ (Nat.le_of_ble_eq_true rfl) ⟨Nat.le_of_ble_eq_true rfl, Nat.le_of_ble_eq_true rfl⟩ dX10_compare_46 ?_
      refine g_istore_n (i := 3) (lv' := [(3, .int y3.1), (0, .ref (ho 0)), (1, .int x1), (2, .int x2)]) X dX10_compare_49 rfl (by decide) rfl ?_
      refine g_aload_n X dX10_compare_50 1 rfl ?_
      refine cg_10_0 X wd2_50 dX10_compare_51 ?_
      refine cg_7_7 X tw_1 wd1_68 dX10_compare_54 ?_
      refine g_iload_n X dX10_compare_57 3 rfl ?_
      refine ca_ld_7_7 X tw_1 dX10_compare_58 hf (fun hf => ?_)
      refine g_istore (lv' := [(4, .int (ca y3.2 1 7 (x2).toNatClampNeg)), (3, .int y3.1), (0, .ref (ho 0)), (1, .int x1), (2, .int x2)]) X dX10_compare_59 (by decide) rfl ?_
      refine g_iload_n X dX10_compare_61 1 rfl ?_
      refine g_iconst X dX10_compare_62 kc_m1 ?_
      refine g_icmp_ne (tgt := 71) X dX10_compare_63 (by decide) hf (fun hf => ?_) (fun hf => ?_)
      · refine g_aload_n X dX10_compare_71 2 rfl ?_
        refine cg_10_0 X wd2_50 dX10_compare_72 ?_
        refine g_iload_n X dX10_compare_75 1 rfl ?_
        refine g_iload X dX10_compare_76 0 rfl ?_
        refine m_bind hf (fun y4 hy4 hf => ?_)
        refine cw_V_i (cix := 7) (As := [.int y3.1, .int (ca y3.2 1 7 (x2).toNatClampNeg)]) (st := []) X Y kV_X10_353 (cc_7_endBeyond l dC dI E ev ho ro P y3.2 1 y3.1 (ca y3.2 1 7 (x2).toNatClampNeg) tw_1 y4 hy4) (ob_7 tw_1) rfl ⟨Nat.le_of_ble_eq_true rfl, Nat.le_of_ble_eq_true rfl⟩ ⟨rfl, rfl⟩ (Nat.le_of_ble_eq_true rfl) ⟨Nat.le_of_ble_eq_true rfl, Nat.le_of_ble_eq_true rfl⟩ dX10_compare_78 ?_
        exact c_reti_s hA hQ X hr hlk dX10_compare_81 hf
      refine g_iload X dX10_compare_66 0 rfl ?_
      refine g_goto (tgt := 81) X dX10_compare_68 (by decide) ?_
      exact c_reti_s hA hQ X hr hlk dX10_compare_81 hf
    refine g_iconst X dX10_compare_27 kc_m1 ?_
    exact c_reti_s hA hQ X hr hlk dX10_compare_28 hf
  refine g_lv [0, 1, 2] (lv' := [(0, .ref (ho 0)), (1, .int x1), (2, .int x2)]) rfl ?_
  unfold C_10_compare at hf
  refine g_iload_n X dX10_compare_0 1 rfl ?_
  refine g_iconst X dX10_compare_1 kc_m1 ?_
  refine g_icmp_eq (tgt := 16) X dX10_compare_2 (by decide) hf (fun hf => ?_) (fun hf => ?_)
  · exact hB16 _ _ _ hf
  refine g_aload_n X dX10_compare_5 0 rfl ?_
  refine cg_10_0 X wd2_50 dX10_compare_6 ?_
  refine g_iload_n X dX10_compare_9 1 rfl ?_
  refine m_bind hf (fun y5 hy5 hf => ?_)
  refine cw_V_i (cix := 7) (As := [.int x1]) (st := []) X Y kV_X10_231 (cc_7_hasLaw l dC dI E ev ho ro P S 1 x1 tw_1 y5 hy5) (ob_7 tw_1) rfl ⟨Nat.le_of_ble_eq_true rfl, Nat.le_of_ble_eq_true rfl⟩ ⟨rfl, rfl⟩ (Nat.le_of_ble_eq_true rfl) ⟨Nat.le_of_ble_eq_true rfl, Nat.le_of_ble_eq_true rfl⟩ dX10_compare_10 ?_
  refine g_if_eq (tgt := 27) X dX10_compare_13 (by decide) hf (fun hf => ?_) (fun hf => ?_)
  · refine g_iconst X dX10_compare_27 kc_m1 ?_
    exact c_reti_s hA hQ X hr hlk dX10_compare_28 hf
  exact hB16 _ _ _ hf
def rc_10_nextDraw : Room := { frames := 0, cells := 0, slots := 0, locals := 0 }
set_option maxRecDepth 100000 in
set_option maxHeartbeats 4000000 in
theorem cc_10_nextDraw (l : Launch) (dC : Nat → ClassId) (dI : Nat → Nat → Nat) (E : Nat → ClassId) (ev : Nat → Nat) (ho : Nat → Nat) (ro : Nat → Nat → Nat) (P : va_W) (S : CS) (x0 : Int32)  (res : Int32) (hf : C_10_nextDraw x0 = some res) : CC l dC dI E ev yX10_nextDraw cX10_nextDraw 1 (some .int) rc_10_nextDraw [.int x0] (CW E ho ro S ++ P) (CW E ho ro S ++ P) (some (.int res)) := by
  refine CC_of (own := "LostLanes") (by decide) rfl (Nat.le_of_ble_eq_true rfl) ?_
  intro p e s m args below meth c A Q X Y hr hlk hA hQ
  refine g_lv [0] (lv' := [(0, .int x0)]) rfl ?_
  unfold C_10_nextDraw at hf
  refine g_iload_n X dX10_nextDraw_0 0 rfl ?_
  refine g_i2l X dX10_nextDraw_1 ?_
  refine g_ldc2 X dX10_nextDraw_2 wd5_94 ?_
  refine g_lmul X dX10_nextDraw_5 ?_
  refine g_ldc2 X dX10_nextDraw_6 wd5_95 ?_
  refine g_ladd X dX10_nextDraw_9 ?_
  refine g_ldc2 X dX10_nextDraw_10 wd5_96 ?_
  refine g_lrem X dX10_nextDraw_13 (by decide) ?_
  refine g_l2i X dX10_nextDraw_14 ?_
  exact c_reti_o hA hQ X hr hlk dX10_nextDraw_15 hf
def rc_10_decades : Room := { frames := 5, cells := 0, slots := 0, locals := 131 }
set_option maxRecDepth 100000 in
set_option maxHeartbeats 4000000 in
theorem cc_10_decades (l : Launch) (dC : Nat → ClassId) (dI : Nat → Nat → Nat) (E : Nat → ClassId) (ev : Nat → Nat) (ho : Nat → Nat) (ro : Nat → Nat → Nat) (F : Nat) (P : va_W) (S : CS) (x1 : Int32) (x2 : Int32)  (res : Int32 × CS) (hf : C_10_decades F E P S x1 x2 = some res) : CC l dC dI E ev yX10_decades cX10_decades 8 (some .int) rc_10_decades [.ref (ho 0), .int x1, .int x2] (CW E ho ro S ++ P) (CW E ho ro res.2 ++ P) (some (.int res.1)) := by
  refine CC_of (own := "LostLanes") (by decide) rfl (Nat.le_of_ble_eq_true rfl) ?_
  intro p e s m args below meth c A Q X Y hr hlk hA hQ
  have hB182 : ∀ (S : CS), C_10_decades_B182 F E P S = some res → GG p l e rc_10_decades s m args below meth c dC dI A 8 0 0 Q (CW E ho ro S ++ P) 182 [(0, .ref (ho 0))] [] := by
    intro S hf
    unfold C_10_decades_B182 at hf
    refine g_aload_n X dX10_decades_182 0 rfl ?_
    refine g_aload_n X dX10_decades_183 0 rfl ?_
    refine cg_10_2 X wd2_52 dX10_decades_184 ?_
    refine m_bind hf (fun y1 hy1 hf => ?_)
    refine cw_V_i (cix := 7) (As := []) (st := [.ref (ho 0)]) X Y kV_X10_374 (cc_7_namedLanes l dC dI E ev ho ro F P S 3 tw_3 y1 hy1) (ob_7 tw_3) rfl ⟨Nat.le_of_ble_eq_true rfl, Nat.le_of_ble_eq_true rfl⟩ ⟨rfl, rfl⟩ (Nat.le_of_ble_eq_true rfl) ⟨Nat.le_of_ble_eq_true rfl, Nat.le_of_ble_eq_true rfl⟩ dX10_decades_187 ?_
    refine m_bind hf (fun y2 hy2 hf => ?_)
    refine cw_V_i (cix := 10) (As := [.int y1]) (st := []) X Y kV_X10_107 (cc_10_accept l dC dI E ev ho ro P S y1 y2 hy2) ob_10 rfl ⟨Nat.le_of_ble_eq_true rfl, Nat.le_of_ble_eq_true rfl⟩ ⟨rfl, rfl⟩ (Nat.le_of_ble_eq_true rfl) ⟨Nat.le_of_ble_eq_true rfl, Nat.le_of_ble_eq_true rfl⟩ dX10_decades_190 ?_
    exact c_reti_s hA hQ X hr hlk dX10_decades_193 hf
  have hB167 : ∀ (x2 : Int32) (k61 : CS → Int32 → Int32 → Option (Int32 × CS)) (hk61 : ∀ (S : CS) (x3 : Int32) (x4 : Int32), k61 S x3 x4 = some res → GG p l e rc_10_decades s m args below meth c dC dI A 8 0 0 Q (CW E ho ro S ++ P) 61 [(0, .ref (ho 0)), (2, .int x2), (3, .int x3), (4, .int x4)] []) (S : CS) (x3 : Int32) (x4 : Int32), C_10_decades_B167 F E P k61 S x2 x3 x4 = some res → GG p l e rc_10_decades s m args below meth c dC dI A 8 0 0 Q (CW E ho ro S ++ P) 167 [(0, .ref (ho 0)), (2, .int x2), (3, .int x3), (4, .int x4)] [] := by
    intro x2 k61 hk61 S x3 x4 hf
    unfold C_10_decades_B167 at hf
    refine g_aload_n X dX10_decades_167 0 rfl ?_
    refine g_aload_n X dX10_decades_168 0 rfl ?_
    refine cg_10_2 X wd2_52 dX10_decades_169 ?_
    refine m_bind hf (fun y3 hy3 hf => ?_)
    refine cw_V_i (cix := 10) (As := [.ref (ho 3)]) (st := []) X Y kV_X10_371 (cc_10_passIn l dC dI E ev ho ro F P S 3 tw_3 y3 hy3) ob_10 rfl ⟨Nat.le_of_ble_eq_true rfl, Nat.le_of_ble_eq_true rfl⟩ ⟨rfl, rfl⟩ (Nat.le_of_ble_eq_true rfl) ⟨Nat.le_of_ble_eq_true rfl, Nat.le_of_ble_eq_true rfl⟩ dX10_decades_172 ?_
    refine g_pop X dX10_decades_175 rfl ?_
    refine g_iinc (lv' := [(4, .int (x4 + (1 : Int32))), (0, .ref (ho 0)), (2, .int x2), (3, .int x3)]) X dX10_decades_176 3 rfl kc_1 (by decide) rfl ?_
    refine g_goto (tgt := 61) X dX10_decades_179 (by decide) ?_
    refine g_lv [1, 2, 3, 0] (lv' := [(0, .ref (ho 0)), (2, .int x2), (3, .int x3), (4, .int (x4 + (1 : Int32)))]) rfl ?_
    exact hk61 _ _ _ hf
  have hB134 : ∀ (x2 : Int32) (k61 : CS → Int32 → Int32 → Option (Int32 × CS)) (hk61 : ∀ (S : CS) (x3 : Int32) (x4 : Int32), k61 S x3 x4 = some res → GG p l e rc_10_decades s m args below meth c dC dI A 8 0 0 Q (CW E ho ro S ++ P) 61 [(0, .ref (ho 0)), (2, .int x2), (3, .int x3), (4, .int x4)] []) (S : CS) (x3 : Int32) (x4 : Int32) (x5 : Int32), C_10_decades_B134 F E P k61 S x2 x3 x4 x5 = some res → GG p l e rc_10_decades s m args below meth c dC dI A 8 0 0 Q (CW E ho ro S ++ P) 134 [(0, .ref (ho 0)), (2, .int x2), (3, .int x3), (4, .int x4), (5, .int x5)] [] := by
    intro x2 k61 hk61 S x3 x4 x5 hf
    unfold C_10_decades_B134 at hf
    refine g_aload_n X dX10_decades_134 0 rfl ?_
    refine g_aload_n X dX10_decades_135 0 rfl ?_
    refine cg_10_2 X wd2_52 dX10_decades_136 ?_
    refine g_iload X dX10_decades_139 4 rfl ?_
    refine m_bind hf (fun y4 hy4 hf => ?_)
    refine cw_V_i (cix := 10) (As := [.ref (ho 3), .int x5]) (st := []) X Y kV_X10_364 (cc_10_cryIn l dC dI E ev ho ro F P S 3 x5 tw_3 y4 hy4) ob_10 rfl ⟨Nat.le_of_ble_eq_true rfl, Nat.le_of_ble_eq_true rfl⟩ ⟨rfl, rfl⟩ (Nat.le_of_ble_eq_true rfl) ⟨Nat.le_of_ble_eq_true rfl, Nat.le_of_ble_eq_true rfl⟩ dX10_decades_141 ?_
    refine g_pop X dX10_decades_144 rfl ?_
    refine g_goto (tgt := 167) X dX10_decades_145 (by decide) ?_
    refine g_lv [0, 1, 2, 3] (lv' := [(0, .ref (ho 0)), (2, .int x2), (3, .int x3), (4, .int x4)]) rfl ?_
    exact hB167 _ _ hk61 _ _ _ hf
  have hL61 : ∀ (x2 : Int32) (n : Nat) (S : CS) (x3 : Int32) (x4 : Int32), C_10_decades_L61 F E P x2 n S x3 x4 = some res → GG p l e rc_10_decades s m args below meth c dC dI A 8 0 0 Q (CW E ho ro S ++ P) 61 [(0, .ref (ho 0)), (2, .int x2), (3, .int x3), (4, .int x4)] [] := by
    intro x2 n
    induction n with
    | zero => intro S x3 x4 hf; have hf : (none : Option (Int32 × CS)) = some res := hf; cases hf
    | succ n ih =>
      intro S x3 x4 hf
      rw [C_10_decades_L61] at hf
      refine g_iload X dX10_decades_61 3 rfl ?_
      refine g_iload_n X dX10_decades_63 1 rfl ?_
      refine g_icmp_ge (tgt := 182) X dX10_decades_64 (by decide) hf (fun hf => ?_) (fun hf => ?_)
      · refine g_lv [0] (lv' := [(0, .ref (ho 0))]) rfl ?_
        exact hB182 _ hf
      refine g_aload_n X dX10_decades_67 0 rfl ?_
      refine cg_10_2 X wd2_52 dX10_decades_68 ?_
      refine cg_7_12 X tw_3 wd1_84 dX10_decades_71 ?_
      refine g_iconst X dX10_decades_74 kc_0 ?_
      refine ca_ldc_7_12 X tw_3 kt_0 kx_0_3 dX10_decades_75 ?_
      refine g_sipush X dX10_decades_76 ks_999 ?_
      refine g_icmp_ge (tgt := 182) X dX10_decades_79 (by decide) hf (fun hf => ?_) (fun hf => ?_)
      · refine g_lv [0] (lv' := [(0, .ref (ho 0))]) rfl ?_
        exact hB182 _ hf
      refine g_iload_n X dX10_decades_82 2 rfl ?_
      refine m_bind hf (fun y5 hy5 hf => ?_)
      refine cw_S_i (As := [.int x3]) (st := []) X Y kS_X10_356 (cc_10_nextDraw l dC dI E ev ho ro P S x3 y5 hy5) ⟨Nat.le_of_ble_eq_true rfl, Nat.le_of_ble_eq_true rfl⟩ ⟨rfl, rfl⟩ (Nat.le_of_ble_eq_true rfl) ⟨Nat.le_of_ble_eq_true rfl, Nat.le_of_ble_eq_true rfl⟩ dX10_decades_83 ?_
      refine g_istore_n (i := 3) (lv' := [(3, .int y5), (0, .ref (ho 0)), (2, .int x2), (4, .int x4)]) X dX10_decades_86 rfl (by decide) rfl ?_
      refine g_iload_n X dX10_decades_87 0 rfl ?_
      refine g_iconst X dX10_decades_88 kc_1 ?_
      refine g_aload_n X dX10_decades_89 1 rfl ?_
      refine cg_10_2 X wd2_52 dX10_decades_90 ?_
      refine cg_7_9 X tw_3 wd1_74 dX10_decades_93 ?_
      refine g_mmax X wd5_97 wd2_191 wd1_11 wd2_192 ⟨Nat.le_of_ble_eq_true rfl, Nat.le_of_ble_eq_true rfl⟩ (Nat.le_of_ble_eq_true rfl) ⟨Nat.le_of_ble_eq_true rfl, Nat.le_of_ble_eq_true rfl⟩ dX10_decades_96 ?_
      obtain ⟨hz99, hf⟩ := chk_some hf
      refine g_irem X dX10_decades_99 hz99 ?_
      refine g_istore (lv' := [(5, .int (y5 - y5 / (if (1 : Int32) < (ci S 3 9) then (ci S 3 9) else (1 : Int32)) * (if (1 : Int32) < (ci S 3 9) then (ci S 3 9) else (1 : Int32)))), (3, .int y5), (0, .ref (ho 0)), (2, .int x2), (4, .int x4)]) X dX10_decades_100 (by decide) rfl ?_
      refine g_iload_n X dX10_decades_102 1 rfl ?_
      refine m_bind hf (fun y6 hy6 hf => ?_)
      refine cw_S_i (As := [.int y5]) (st := []) X Y kS_X10_356 (cc_10_nextDraw l dC dI E ev ho ro P S y5 y6 hy6) ⟨Nat.le_of_ble_eq_true rfl, Nat.le_of_ble_eq_true rfl⟩ ⟨rfl, rfl⟩ (Nat.le_of_ble_eq_true rfl) ⟨Nat.le_of_ble_eq_true rfl, Nat.le_of_ble_eq_true rfl⟩ dX10_decades_103 ?_
      refine g_istore_n (i := 3) (lv' := [(3, .int y6), (5, .int (y5 - y5 / (if (1 : Int32) < (ci S 3 9) then (ci S 3 9) else (1 : Int32)) * (if (1 : Int32) < (ci S 3 9) then (ci S 3 9) else (1 : Int32)))), (0, .ref (ho 0)), (2, .int x2), (4, .int x4)]) X dX10_decades_106 rfl (by decide) rfl ?_
      refine g_iload_n X dX10_decades_107 0 rfl ?_
      refine g_bipush X dX10_decades_108 kb_8 ?_
      refine g_irem X dX10_decades_110 (by decide) ?_
      refine g_istore (lv' := [(6, .int (y6 - y6 / (8 : Int32) * (8 : Int32))), (3, .int y6), (5, .int (y5 - y5 / (if (1 : Int32) < (ci S 3 9) then (ci S 3 9) else (1 : Int32)) * (if (1 : Int32) < (ci S 3 9) then (ci S 3 9) else (1 : Int32)))), (0, .ref (ho 0)), (2, .int x2), (4, .int x4)]) X dX10_decades_111 (by decide) rfl ?_
      refine g_iload_n X dX10_decades_113 1 rfl ?_
      refine m_bind hf (fun y7 hy7 hf => ?_)
      refine cw_S_i (As := [.int y6]) (st := []) X Y kS_X10_356 (cc_10_nextDraw l dC dI E ev ho ro P S y6 y7 hy7) ⟨Nat.le_of_ble_eq_true rfl, Nat.le_of_ble_eq_true rfl⟩ ⟨rfl, rfl⟩ (Nat.le_of_ble_eq_true rfl) ⟨Nat.le_of_ble_eq_true rfl, Nat.le_of_ble_eq_true rfl⟩ dX10_decades_114 ?_
      refine g_istore_n (i := 3) (lv' := [(3, .int y7), (6, .int (y6 - y6 / (8 : Int32) * (8 : Int32))), (5, .int (y5 - y5 / (if (1 : Int32) < (ci S 3 9) then (ci S 3 9) else (1 : Int32)) * (if (1 : Int32) < (ci S 3 9) then (ci S 3 9) else (1 : Int32)))), (0, .ref (ho 0)), (2, .int x2), (4, .int x4)]) X dX10_decades_117 rfl (by decide) rfl ?_
      refine g_iload_n X dX10_decades_118 0 rfl ?_
      refine g_iconst X dX10_decades_119 kc_4 ?_
      refine g_irem X dX10_decades_120 (by decide) ?_
      refine g_istore (lv' := [(7, .int (y7 - y7 / (4 : Int32) * (4 : Int32))), (3, .int y7), (6, .int (y6 - y6 / (8 : Int32) * (8 : Int32))), (5, .int (y5 - y5 / (if (1 : Int32) < (ci S 3 9) then (ci S 3 9) else (1 : Int32)) * (if (1 : Int32) < (ci S 3 9) then (ci S 3 9) else (1 : Int32)))), (0, .ref (ho 0)), (2, .int x2), (4, .int x4)]) X dX10_decades_121 (by decide) rfl ?_
      refine g_iload X dX10_decades_123 0 rfl ?_
      refine g_if_eq (tgt := 134) X dX10_decades_125 (by decide) hf (fun hf => ?_) (fun hf => ?_)
      · refine g_lv [4, 5, 1, 6, 3] (lv' := [(0, .ref (ho 0)), (2, .int x2), (3, .int y7), (4, .int x4), (5, .int (y5 - y5 / (if (1 : Int32) < (ci S 3 9) then (ci S 3 9) else (1 : Int32)) * (if (1 : Int32) < (ci S 3 9) then (ci S 3 9) else (1 : Int32))))]) rfl ?_
        exact hB134 _ _ ih _ _ _ _ hf
      refine g_iload X dX10_decades_128 0 rfl ?_
      refine g_iconst X dX10_decades_130 kc_1 ?_
      refine g_icmp_ne (tgt := 148) X dX10_decades_131 (by decide) hf (fun hf => ?_) (fun hf => ?_)
      · refine g_iload X dX10_decades_148 0 rfl ?_
        refine g_iconst X dX10_decades_150 kc_2 ?_
        refine g_icmp_ne (tgt := 167) X dX10_decades_151 (by decide) hf (fun hf => ?_) (fun hf => ?_)
        · refine g_lv [4, 5, 1, 6] (lv' := [(0, .ref (ho 0)), (2, .int x2), (3, .int y7), (4, .int x4)]) rfl ?_
          exact hB167 _ _ ih _ _ _ hf
        refine g_aload_n X dX10_decades_154 4 rfl ?_
        refine g_aload_n X dX10_decades_155 4 rfl ?_
        refine cg_10_2 X wd2_52 dX10_decades_156 ?_
        refine g_iload X dX10_decades_159 3 rfl ?_
        refine g_iload X dX10_decades_161 2 rfl ?_
        refine m_bind hf (fun y8 hy8 hf => ?_)
        refine cw_V_i (cix := 10) (As := [.ref (ho 3), .int (y5 - y5 / (if (1 : Int32) < (ci S 3 9) then (ci S 3 9) else (1 : Int32)) * (if (1 : Int32) < (ci S 3 9) then (ci S 3 9) else (1 : Int32))), .int (y6 - y6 / (8 : Int32) * (8 : Int32))]) (st := []) X Y kV_X10_368 (cc_10_leadIn l dC dI E ev ho ro P S 3 (y5 - y5 / (if (1 : Int32) < (ci S 3 9) then (ci S 3 9) else (1 : Int32)) * (if (1 : Int32) < (ci S 3 9) then (ci S 3 9) else (1 : Int32))) (y6 - y6 / (8 : Int32) * (8 : Int32)) tw_3 y8 hy8) ob_10 rfl ⟨Nat.le_of_ble_eq_true rfl, Nat.le_of_ble_eq_true rfl⟩ ⟨rfl, rfl⟩ (Nat.le_of_ble_eq_true rfl) ⟨Nat.le_of_ble_eq_true rfl, Nat.le_of_ble_eq_true rfl⟩ dX10_decades_163 ?_
        refine g_pop X dX10_decades_166 rfl ?_
        refine g_lv [4, 5, 1, 6] (lv' := [(0, .ref (ho 0)), (2, .int x2), (3, .int y7), (4, .int x4)]) rfl ?_
        exact hB167 _ _ ih _ _ _ hf
      refine g_lv [4, 5, 1, 6, 3] (lv' := [(0, .ref (ho 0)), (2, .int x2), (3, .int y7), (4, .int x4), (5, .int (y5 - y5 / (if (1 : Int32) < (ci S 3 9) then (ci S 3 9) else (1 : Int32)) * (if (1 : Int32) < (ci S 3 9) then (ci S 3 9) else (1 : Int32))))]) rfl ?_
      exact hB134 _ _ ih _ _ _ _ hf
  have hB22 : ∀ (S : CS), C_10_decades_B22 F E P S = some res → GG p l e rc_10_decades s m args below meth c dC dI A 8 0 0 Q (CW E ho ro S ++ P) 22 [(0, .ref (ho 0))] [] := by
    intro S hf
    unfold C_10_decades_B22 at hf
    refine g_aload_n X dX10_decades_22 0 rfl ?_
    refine g_iconst X dX10_decades_23 kc_m1 ?_
    refine m_bind hf (fun y9 hy9 hf => ?_)
    refine cw_V_i (cix := 10) (As := [.int (-1 : Int32)]) (st := []) X Y kV_X10_93 (cc_10_refuse l dC dI E ev ho ro P S (-1 : Int32) y9 hy9) ob_10 rfl ⟨Nat.le_of_ble_eq_true rfl, Nat.le_of_ble_eq_true rfl⟩ ⟨rfl, rfl⟩ (Nat.le_of_ble_eq_true rfl) ⟨Nat.le_of_ble_eq_true rfl, Nat.le_of_ble_eq_true rfl⟩ dX10_decades_24 ?_
    exact c_reti_s hA hQ X hr hlk dX10_decades_27 hf
  refine g_lv [0, 1, 2] (lv' := [(0, .ref (ho 0)), (1, .int x1), (2, .int x2)]) rfl ?_
  unfold C_10_decades at hf
  refine g_iload_n X dX10_decades_0 1 rfl ?_
  refine g_if_lt (tgt := 22) X dX10_decades_1 (by decide) hf (fun hf => ?_) (fun hf => ?_)
  · refine g_lv [0] (lv' := [(0, .ref (ho 0))]) rfl ?_
    exact hB22 _ hf
  refine g_iload_n X dX10_decades_4 1 rfl ?_
  refine g_ldcw X dX10_decades_5 wd4_156 ?_
  refine g_icmp_gt (tgt := 22) X dX10_decades_8 (by decide) hf (fun hf => ?_) (fun hf => ?_)
  · refine g_lv [0] (lv' := [(0, .ref (ho 0))]) rfl ?_
    exact hB22 _ hf
  refine g_iload_n X dX10_decades_11 2 rfl ?_
  refine g_iconst X dX10_decades_12 kc_1 ?_
  refine g_icmp_lt (tgt := 22) X dX10_decades_13 (by decide) hf (fun hf => ?_) (fun hf => ?_)
  · refine g_lv [0] (lv' := [(0, .ref (ho 0))]) rfl ?_
    exact hB22 _ hf
  refine g_iload_n X dX10_decades_16 2 rfl ?_
  refine g_bipush X dX10_decades_17 kb_60 ?_
  refine g_icmp_le (tgt := 28) X dX10_decades_19 (by decide) hf (fun hf => ?_) (fun hf => ?_)
  · refine g_aload_n X dX10_decades_28 0 rfl ?_
    refine cg_10_0 X wd2_50 dX10_decades_29 ?_
    refine cg_7_9 X tw_1 wd1_74 dX10_decades_32 ?_
    refine g_if_ne (tgt := 45) X dX10_decades_35 (by decide) hf (fun hf => ?_) (fun hf => ?_)
    · refine g_aload_n X dX10_decades_45 0 rfl ?_
      refine cg_10_2 X wd2_52 dX10_decades_46 ?_
      refine g_aload_n X dX10_decades_49 0 rfl ?_
      refine cg_10_0 X wd2_50 dX10_decades_50 ?_
      refine m_bind hf (fun y10 hy10 hf => ?_)
      refine cw_V_v (cix := 7) (As := [.ref (ho 1)]) (st := []) X Y kV_X10_202 (cc_7_become l dC dI E ev ho ro F P S 3 1 tw_3 tw_1 y10 hy10) (ob_7 tw_3) rfl ⟨Nat.le_of_ble_eq_true rfl, Nat.le_of_ble_eq_true rfl⟩ ⟨rfl, rfl⟩ (Nat.le_of_ble_eq_true rfl) ⟨Nat.le_of_ble_eq_true rfl, Nat.le_of_ble_eq_true rfl⟩ dX10_decades_53 ?_
      refine g_iload_n X dX10_decades_56 1 rfl ?_
      refine g_istore_n (i := 3) (lv' := [(3, .int x1), (0, .ref (ho 0)), (1, .int x1), (2, .int x2)]) X dX10_decades_57 rfl (by decide) rfl ?_
      refine g_iconst X dX10_decades_58 kc_0 ?_
      refine g_istore (lv' := [(4, .int (0 : Int32)), (3, .int x1), (0, .ref (ho 0)), (1, .int x1), (2, .int x2)]) X dX10_decades_59 (by decide) rfl ?_
      refine g_lv [2, 4, 1, 0] (lv' := [(0, .ref (ho 0)), (2, .int x2), (3, .int x1), (4, .int (0 : Int32))]) rfl ?_
      exact hL61 _ _ _ _ _ hf
    refine g_aload_n X dX10_decades_38 0 rfl ?_
    refine g_bipush X dX10_decades_39 kb_m3 ?_
    refine m_bind hf (fun y11 hy11 hf => ?_)
    refine cw_V_i (cix := 10) (As := [.int (-3 : Int32)]) (st := []) X Y kV_X10_93 (cc_10_refuse l dC dI E ev ho ro P S (-3 : Int32) y11 hy11) ob_10 rfl ⟨Nat.le_of_ble_eq_true rfl, Nat.le_of_ble_eq_true rfl⟩ ⟨rfl, rfl⟩ (Nat.le_of_ble_eq_true rfl) ⟨Nat.le_of_ble_eq_true rfl, Nat.le_of_ble_eq_true rfl⟩ dX10_decades_41 ?_
    exact c_reti_s hA hQ X hr hlk dX10_decades_44 hf
  refine g_lv [0] (lv' := [(0, .ref (ho 0))]) rfl ?_
  exact hB22 _ hf
def rc_10_drawn : Room := { frames := 1, cells := 0, slots := 0, locals := 21 }
set_option maxRecDepth 100000 in
set_option maxHeartbeats 4000000 in
theorem cc_10_drawn (l : Launch) (dC : Nat → ClassId) (dI : Nat → Nat → Nat) (E : Nat → ClassId) (ev : Nat → Nat) (ho : Nat → Nat) (ro : Nat → Nat → Nat) (P : va_W) (S : CS) (x1 : Int32) (x2 : Int32)  (res : Int32) (hf : C_10_drawn S x1 x2 = some res) : CC l dC dI E ev yX10_drawn cX10_drawn 3 (some .int) rc_10_drawn [.ref (ho 0), .int x1, .int x2] (CW E ho ro S ++ P) (CW E ho ro S ++ P) (some (.int res)) := by
  refine CC_of (own := "LostLanes") (by decide) rfl (Nat.le_of_ble_eq_true rfl) ?_
  intro p e s m args below meth c A Q X Y hr hlk hA hQ
  have hB25 : ∀ (x1 : Int32) (x2 : Int32), C_10_drawn_B25 S x1 x2 = some res → GG p l e rc_10_drawn s m args below meth c dC dI A 3 0 0 Q (CW E ho ro S ++ P) 25 [(0, .ref (ho 0)), (1, .int x1), (2, .int x2)] [] := by
    intro x1 x2 hf
    unfold C_10_drawn_B25 at hf
    refine g_iload_n X dX10_drawn_25 2 rfl ?_
    refine g_iconst X dX10_drawn_26 kc_1 ?_
    refine g_icmp_ne (tgt := 51) X dX10_drawn_27 (by decide) hf (fun hf => ?_) (fun hf => ?_)
    · refine g_iconst X dX10_drawn_51 kc_m1 ?_
      exact c_reti_o hA hQ X hr hlk dX10_drawn_52 hf
    refine g_aload_n X dX10_drawn_30 0 rfl ?_
    refine cg_10_2 X wd2_52 dX10_drawn_31 ?_
    refine g_iload_n X dX10_drawn_34 1 rfl ?_
    refine m_bind hf (fun y1 hy1 hf => ?_)
    refine cw_V_i (cix := 7) (As := [.int x1]) (st := []) X Y kV_X10_110 (cc_7_hasLane l dC dI E ev ho ro P S 3 x1 tw_3 y1 hy1) (ob_7 tw_3) rfl ⟨Nat.le_of_ble_eq_true rfl, Nat.le_of_ble_eq_true rfl⟩ ⟨rfl, rfl⟩ (Nat.le_of_ble_eq_true rfl) ⟨Nat.le_of_ble_eq_true rfl, Nat.le_of_ble_eq_true rfl⟩ dX10_drawn_35 ?_
    refine g_if_eq (tgt := 51) X dX10_drawn_38 (by decide) hf (fun hf => ?_) (fun hf => ?_)
    · refine g_iconst X dX10_drawn_51 kc_m1 ?_
      exact c_reti_o hA hQ X hr hlk dX10_drawn_52 hf
    refine g_aload_n X dX10_drawn_41 0 rfl ?_
    refine cg_10_2 X wd2_52 dX10_drawn_42 ?_
    refine cg_7_4 X tw_3 wd1_54 dX10_drawn_45 ?_
    refine g_iload_n X dX10_drawn_48 1 rfl ?_
    refine ca_ld_7_4 X tw_3 dX10_drawn_49 hf (fun hf => ?_)
    exact c_reti_o hA hQ X hr hlk dX10_drawn_50 hf
  refine g_lv [0, 1, 2] (lv' := [(0, .ref (ho 0)), (1, .int x1), (2, .int x2)]) rfl ?_
  unfold C_10_drawn at hf
  refine g_iload_n X dX10_drawn_0 2 rfl ?_
  refine g_if_ne (tgt := 25) X dX10_drawn_1 (by decide) hf (fun hf => ?_) (fun hf => ?_)
  · exact hB25 _ _ hf
  refine g_aload_n X dX10_drawn_4 0 rfl ?_
  refine cg_10_2 X wd2_52 dX10_drawn_5 ?_
  refine g_iload_n X dX10_drawn_8 1 rfl ?_
  refine m_bind hf (fun y2 hy2 hf => ?_)
  refine cw_V_i (cix := 7) (As := [.int x1]) (st := []) X Y kV_X10_139 (cc_7_hasChild l dC dI E ev ho ro P S 3 x1 tw_3 y2 hy2) (ob_7 tw_3) rfl ⟨Nat.le_of_ble_eq_true rfl, Nat.le_of_ble_eq_true rfl⟩ ⟨rfl, rfl⟩ (Nat.le_of_ble_eq_true rfl) ⟨Nat.le_of_ble_eq_true rfl, Nat.le_of_ble_eq_true rfl⟩ dX10_drawn_9 ?_
  refine g_if_eq (tgt := 25) X dX10_drawn_12 (by decide) hf (fun hf => ?_) (fun hf => ?_)
  · exact hB25 _ _ hf
  refine g_aload_n X dX10_drawn_15 0 rfl ?_
  refine cg_10_2 X wd2_52 dX10_drawn_16 ?_
  refine cg_7_7 X tw_3 wd1_68 dX10_drawn_19 ?_
  refine g_iload_n X dX10_drawn_22 1 rfl ?_
  refine ca_ld_7_7 X tw_3 dX10_drawn_23 hf (fun hf => ?_)
  exact c_reti_o hA hQ X hr hlk dX10_drawn_24 hf
def rc_7_becomeSP : Room := { frames := 1, cells := 0, slots := 0, locals := 60 }
set_option maxRecDepth 100000 in
set_option maxHeartbeats 4000000 in
theorem cc_7_becomeSP (l : Launch) (dC : Nat → ClassId) (dI : Nat → Nat → Nat) (E : Nat → ClassId) (ev : Nat → Nat) (ho : Nat → Nat) (ro : Nat → Nat → Nat) (F : Nat) (P : va_W) (S : CS) (o0 : Nat) (a1 : Nat) (h_o0 : tw o0) (res : Unit × CS) (hf : C_7_becomeSP F E P S o0 a1 = some res) : CC l dC dI E ev yX7_become cX7_become 3 none rc_7_becomeSP [.ref (ho o0), .ref a1] (CW E ho ro S ++ P) (CW E ho ro res.2 ++ P) none := by
  refine CC_of (own := "LostLanes$Town") (by decide) rfl (Nat.le_of_ble_eq_true rfl) ?_
  intro p e s m args below meth c A Q X Y hr hlk hA hQ
  have hL176 : ∀ (a1 : Nat) (n : Nat) (S : CS) (x2 : Int32), C_7_becomeSP_L176 F E P o0 a1 n S x2 = some res → GG p l e rc_7_becomeSP s m args below meth c dC dI A 3 0 0 Q (CW E ho ro S ++ P) 176 [(0, .ref (ho o0)), (1, .ref a1), (2, .int x2)] [] := by
    intro a1 n
    induction n with
    | zero => intro S x2 hf; have hf : (none : Option (Unit × CS)) = some res := hf; cases hf
    | succ n ih =>
      intro S x2 hf
      rw [C_7_becomeSP_L176] at hf
      refine g_iload_n X dX7_become_176 2 rfl ?_
      refine g_bipush X dX7_become_177 kb_6 ?_
      refine g_icmp_ge (tgt := 200) X dX7_become_179 (by decide) hf (fun hf => ?_) (fun hf => ?_)
      · refine g_aload_n X dX7_become_200 0 rfl ?_
        refine g_aload_n X dX7_become_201 1 rfl ?_
        refine pg_7_14 X wd1_87 dX7_become_202 hf (fun v1 hf => ?_)
        refine cp_7_14 X h_o0 wd1_87 dX7_become_205 hf (fun S2 hf => ?_)
        refine g_aload_n X dX7_become_208 0 rfl ?_
        refine g_aload_n X dX7_become_209 1 rfl ?_
        refine pg_7_15 X wd1_89 dX7_become_210 hf (fun v3 hf => ?_)
        refine cp_7_15 X h_o0 wd1_89 dX7_become_213 hf (fun S4 hf => ?_)
        exact c_retv_s hA hQ X hr hlk dX7_become_216 hf
      refine g_aload_n X dX7_become_182 0 rfl ?_
      refine cg_7_13 X h_o0 wd1_85 dX7_become_183 ?_
      refine g_iload_n X dX7_become_186 2 rfl ?_
      refine g_aload_n X dX7_become_187 1 rfl ?_
      refine pg_7_13 X wd1_85 dX7_become_188 hf (fun b5 hf => ?_)
      refine g_iload_n X dX7_become_191 2 rfl ?_
      refine p_aldl X dX7_become_192 hf (fun qv6 hf => ?_)
      refine ca_stq_7_13 (q := qv6) X h_o0 dX7_become_193 hf (fun S7 hf => ?_)
      refine g_iinc (lv' := [(2, .int (x2 + (1 : Int32))), (0, .ref (ho o0)), (1, .ref a1)]) X dX7_become_194 2 rfl kc_1 (by decide) rfl ?_
      refine g_goto (tgt := 176) X dX7_become_197 (by decide) ?_
      refine g_lv [1, 2, 0] (lv' := [(0, .ref (ho o0)), (1, .ref a1), (2, .int (x2 + (1 : Int32)))]) rfl ?_
      exact ih _ _ hf
  refine g_lv [0, 1] (lv' := [(0, .ref (ho o0)), (1, .ref a1)]) rfl ?_
  unfold C_7_becomeSP at hf
  refine g_aload_n X dX7_become_0 1 rfl ?_
  refine pg_7_0 X wd1_37 dX7_become_1 hf (fun b8 hf => ?_)
  refine g_iconst X dX7_become_4 kc_0 ?_
  refine g_aload_n X dX7_become_5 0 rfl ?_
  refine cg_7_0 X h_o0 wd1_37 dX7_become_6 ?_
  refine g_iconst X dX7_become_9 kc_0 ?_
  refine g_bipush X dX7_become_10 kb_10 ?_
  refine pm_copyPS X (ars_7_0 h_o0) wd4_14 wd4_5 wd4_4 wd1_19 ⟨Nat.le_of_ble_eq_true rfl, by decide⟩ (Nat.le_of_ble_eq_true rfl) dX7_become_12 hf (fun S11 hf => ?_)
  refine g_aload_n X dX7_become_15 1 rfl ?_
  refine pg_7_1 X wd1_41 dX7_become_16 hf (fun b12 hf => ?_)
  refine g_iconst X dX7_become_19 kc_0 ?_
  refine g_aload_n X dX7_become_20 0 rfl ?_
  refine cg_7_1 X h_o0 wd1_41 dX7_become_21 ?_
  refine g_iconst X dX7_become_24 kc_0 ?_
  refine g_bipush X dX7_become_25 kb_10 ?_
  refine pm_copyPS X (ars_7_1 h_o0) wd4_14 wd4_5 wd4_4 wd1_19 ⟨Nat.le_of_ble_eq_true rfl, by decide⟩ (Nat.le_of_ble_eq_true rfl) dX7_become_27 hf (fun S15 hf => ?_)
  refine g_aload_n X dX7_become_30 1 rfl ?_
  refine pg_7_2 X wd1_45 dX7_become_31 hf (fun b16 hf => ?_)
  refine g_iconst X dX7_become_34 kc_0 ?_
  refine g_aload_n X dX7_become_35 0 rfl ?_
  refine cg_7_2 X h_o0 wd1_45 dX7_become_36 ?_
  refine g_iconst X dX7_become_39 kc_0 ?_
  refine g_bipush X dX7_become_40 kb_10 ?_
  refine pm_copyPS X (ars_7_2 h_o0) wd4_14 wd4_5 wd4_4 wd1_19 ⟨Nat.le_of_ble_eq_true rfl, by decide⟩ (Nat.le_of_ble_eq_true rfl) dX7_become_42 hf (fun S19 hf => ?_)
  refine g_aload_n X dX7_become_45 1 rfl ?_
  refine pg_7_3 X wd1_49 dX7_become_46 hf (fun b20 hf => ?_)
  refine g_iconst X dX7_become_49 kc_0 ?_
  refine g_aload_n X dX7_become_50 0 rfl ?_
  refine cg_7_3 X h_o0 wd1_49 dX7_become_51 ?_
  refine g_iconst X dX7_become_54 kc_0 ?_
  refine g_bipush X dX7_become_55 kb_10 ?_
  refine pm_copyPS X (ars_7_3 h_o0) wd4_14 wd4_5 wd4_4 wd1_19 ⟨Nat.le_of_ble_eq_true rfl, by decide⟩ (Nat.le_of_ble_eq_true rfl) dX7_become_57 hf (fun S23 hf => ?_)
  refine g_aload_n X dX7_become_60 1 rfl ?_
  refine pg_7_4 X wd1_52 dX7_become_61 hf (fun b24 hf => ?_)
  refine g_iconst X dX7_become_64 kc_0 ?_
  refine g_aload_n X dX7_become_65 0 rfl ?_
  refine cg_7_4 X h_o0 wd1_52 dX7_become_66 ?_
  refine g_iconst X dX7_become_69 kc_0 ?_
  refine g_bipush X dX7_become_70 kb_10 ?_
  refine pm_copyPS X (ars_7_4 h_o0) wd4_14 wd4_5 wd4_4 wd1_19 ⟨Nat.le_of_ble_eq_true rfl, by decide⟩ (Nat.le_of_ble_eq_true rfl) dX7_become_72 hf (fun S27 hf => ?_)
  refine g_aload_n X dX7_become_75 0 rfl ?_
  refine g_aload_n X dX7_become_76 1 rfl ?_
  refine pg_7_5 X wd1_57 dX7_become_77 hf (fun v28 hf => ?_)
  refine cp_7_5 X h_o0 wd1_57 dX7_become_80 hf (fun S29 hf => ?_)
  refine g_aload_n X dX7_become_83 1 rfl ?_
  refine pg_7_6 X wd1_62 dX7_become_84 hf (fun b30 hf => ?_)
  refine g_iconst X dX7_become_87 kc_0 ?_
  refine g_aload_n X dX7_become_88 0 rfl ?_
  refine cg_7_6 X h_o0 wd1_62 dX7_become_89 ?_
  refine g_iconst X dX7_become_92 kc_0 ?_
  refine g_iconst X dX7_become_93 kc_4 ?_
  refine pm_copyPS X (ars_7_6 h_o0) wd4_14 wd4_5 wd4_4 wd1_19 ⟨Nat.le_of_ble_eq_true rfl, by decide⟩ (Nat.le_of_ble_eq_true rfl) dX7_become_94 hf (fun S33 hf => ?_)
  refine g_aload_n X dX7_become_97 1 rfl ?_
  refine pg_7_7 X wd1_65 dX7_become_98 hf (fun b34 hf => ?_)
  refine g_iconst X dX7_become_101 kc_0 ?_
  refine g_aload_n X dX7_become_102 0 rfl ?_
  refine cg_7_7 X h_o0 wd1_65 dX7_become_103 ?_
  refine g_iconst X dX7_become_106 kc_0 ?_
  refine g_iconst X dX7_become_107 kc_4 ?_
  refine pm_copyPS X (ars_7_7 h_o0) wd4_14 wd4_5 wd4_4 wd1_19 ⟨Nat.le_of_ble_eq_true rfl, by decide⟩ (Nat.le_of_ble_eq_true rfl) dX7_become_108 hf (fun S37 hf => ?_)
  refine g_aload_n X dX7_become_111 1 rfl ?_
  refine pg_7_8 X wd1_69 dX7_become_112 hf (fun b38 hf => ?_)
  refine g_iconst X dX7_become_115 kc_0 ?_
  refine g_aload_n X dX7_become_116 0 rfl ?_
  refine cg_7_8 X h_o0 wd1_69 dX7_become_117 ?_
  refine g_iconst X dX7_become_120 kc_0 ?_
  refine g_iconst X dX7_become_121 kc_4 ?_
  refine pm_copyPS X (ars_7_8 h_o0) wd4_14 wd4_5 wd4_4 wd1_19 ⟨Nat.le_of_ble_eq_true rfl, by decide⟩ (Nat.le_of_ble_eq_true rfl) dX7_become_122 hf (fun S41 hf => ?_)
  refine g_aload_n X dX7_become_125 0 rfl ?_
  refine g_aload_n X dX7_become_126 1 rfl ?_
  refine pg_7_9 X wd1_73 dX7_become_127 hf (fun v42 hf => ?_)
  refine cp_7_9 X h_o0 wd1_73 dX7_become_130 hf (fun S43 hf => ?_)
  refine g_aload_n X dX7_become_133 1 rfl ?_
  refine pg_7_10 X wd1_75 dX7_become_134 hf (fun b44 hf => ?_)
  refine g_iconst X dX7_become_137 kc_0 ?_
  refine g_aload_n X dX7_become_138 0 rfl ?_
  refine cg_7_10 X h_o0 wd1_75 dX7_become_139 ?_
  refine g_iconst X dX7_become_142 kc_0 ?_
  refine g_bipush X dX7_become_143 kb_6 ?_
  refine pm_copyPS X (ars_7_10 h_o0) wd4_14 wd4_5 wd4_4 wd1_19 ⟨Nat.le_of_ble_eq_true rfl, by decide⟩ (Nat.le_of_ble_eq_true rfl) dX7_become_145 hf (fun S47 hf => ?_)
  refine g_aload_n X dX7_become_148 0 rfl ?_
  refine g_aload_n X dX7_become_149 1 rfl ?_
  refine pg_7_11 X wd1_79 dX7_become_150 hf (fun v48 hf => ?_)
  refine cp_7_11 X h_o0 wd1_79 dX7_become_153 hf (fun S49 hf => ?_)
  refine g_aload_n X dX7_become_156 1 rfl ?_
  refine pg_7_12 X wd1_81 dX7_become_157 hf (fun b50 hf => ?_)
  refine g_iconst X dX7_become_160 kc_0 ?_
  refine g_aload_n X dX7_become_161 0 rfl ?_
  refine cg_7_12 X h_o0 wd1_81 dX7_become_162 ?_
  refine g_iconst X dX7_become_165 kc_0 ?_
  refine g_aload_n X dX7_become_166 0 rfl ?_
  refine cg_7_12 X h_o0 wd1_81 dX7_become_167 ?_
  refine ca_len_7_12 X h_o0 kn_3 dX7_become_170 ?_
  refine pm_copyPS X (ars_7_12 h_o0) wd4_14 wd4_5 wd4_4 wd1_19 ⟨Nat.le_of_ble_eq_true rfl, by decide⟩ (Nat.le_of_ble_eq_true rfl) dX7_become_171 hf (fun S53 hf => ?_)
  refine g_iconst X dX7_become_174 kc_0 ?_
  refine g_istore_n (i := 2) (lv' := [(2, .int (0 : Int32)), (0, .ref (ho o0)), (1, .ref a1)]) X dX7_become_175 rfl (by decide) rfl ?_
  refine g_lv [1, 2, 0] (lv' := [(0, .ref (ho o0)), (1, .ref a1), (2, .int (0 : Int32))]) rfl ?_
  exact hL176 _ _ _ _ hf
def rc_10_back : Room := { frames := 2, cells := 0, slots := 0, locals := 82 }
set_option maxRecDepth 100000 in
set_option maxHeartbeats 4000000 in
theorem cc_10_back (l : Launch) (dC : Nat → ClassId) (dI : Nat → Nat → Nat) (E : Nat → ClassId) (ev : Nat → Nat) (ho : Nat → Nat) (ro : Nat → Nat → Nat) (F : Nat) (P : va_W) (S : CS) (x1 : Int32)  (res : Int32 × CS) (hf : C_10_back F E P S x1 = some res) : CC l dC dI E ev yX10_back cX10_back 3 (some .int) rc_10_back [.ref (ho 0), .int x1] (CW E ho ro S ++ P) (CW E ho ro res.2 ++ P) (some (.int res.1)) := by
  refine CC_of (own := "LostLanes") (by decide) rfl (Nat.le_of_ble_eq_true rfl) ?_
  intro p e s m args below meth c A Q X Y hr hlk hA hQ
  have hB13 : ∀ (S : CS), C_10_back_B13 F E P S = some res → GG p l e rc_10_back s m args below meth c dC dI A 3 0 0 Q (CW E ho ro S ++ P) 13 [(0, .ref (ho 0))] [] := by
    intro S hf
    unfold C_10_back_B13 at hf
    refine g_aload_n X dX10_back_13 0 rfl ?_
    refine g_iconst X dX10_back_14 kc_m1 ?_
    refine m_bind hf (fun y1 hy1 hf => ?_)
    refine cw_V_i (cix := 10) (As := [.int (-1 : Int32)]) (st := []) X Y kV_X10_93 (cc_10_refuse l dC dI E ev ho ro P S (-1 : Int32) y1 hy1) ob_10 rfl ⟨Nat.le_of_ble_eq_true rfl, Nat.le_of_ble_eq_true rfl⟩ ⟨rfl, rfl⟩ (Nat.le_of_ble_eq_true rfl) ⟨Nat.le_of_ble_eq_true rfl, Nat.le_of_ble_eq_true rfl⟩ dX10_back_15 ?_
    exact c_reti_s hA hQ X hr hlk dX10_back_18 hf
  refine g_lv [0, 1] (lv' := [(0, .ref (ho 0)), (1, .int x1)]) rfl ?_
  unfold C_10_back at hf
  refine g_iload_n X dX10_back_0 1 rfl ?_
  refine g_if_lt (tgt := 13) X dX10_back_1 (by decide) hf (fun hf => ?_) (fun hf => ?_)
  · refine g_lv [0] (lv' := [(0, .ref (ho 0))]) rfl ?_
    exact hB13 _ hf
  refine g_iload_n X dX10_back_4 1 rfl ?_
  refine g_aload_n X dX10_back_5 0 rfl ?_
  refine cg_10_3 X wd2_53 dX10_back_6 ?_
  refine ca_len_10_3 X kn_2 dX10_back_9 ?_
  refine g_icmp_lt (tgt := 19) X dX10_back_10 (by decide) hf (fun hf => ?_) (fun hf => ?_)
  · refine g_aload_n X dX10_back_19 0 rfl ?_
    refine cg_10_3 X wd2_53 dX10_back_20 ?_
    refine g_iload_n X dX10_back_23 1 rfl ?_
    refine ca_ldq_10_3 X dX10_back_24 hf (fun qv2 hf => ?_)
    refine g_astore_nq (i := 2) (lv' := [(2, va_rf qv2), (0, .ref (ho 0)), (1, .int x1)]) X dX10_back_25 rfl (by decide) rfl ?_
    refine g_aload_nq (q := qv2) X dX10_back_26 0 rfl ?_
    refine g_ifnonnull (tgt := 37) X dX10_back_27 (by decide) hf (fun hq hfn => ?_) (fun an3 hq hfn => ?_)
    · subst hq
      have hf := hfn
      refine g_aload_n X dX10_back_30 1 rfl ?_
      refine g_bipush X dX10_back_31 kb_m2 ?_
      refine m_bind hf (fun y4 hy4 hf => ?_)
      refine cw_V_i (cix := 10) (As := [.int (-2 : Int32)]) (st := []) X Y kV_X10_93 (cc_10_refuse l dC dI E ev ho ro P S (-2 : Int32) y4 hy4) ob_10 rfl ⟨Nat.le_of_ble_eq_true rfl, Nat.le_of_ble_eq_true rfl⟩ ⟨rfl, rfl⟩ (Nat.le_of_ble_eq_true rfl) ⟨Nat.le_of_ble_eq_true rfl, Nat.le_of_ble_eq_true rfl⟩ dX10_back_33 ?_
      exact c_reti_s hA hQ X hr hlk dX10_back_36 hf
    subst hq
    have hf := hfn
    refine g_aload_n X dX10_back_37 1 rfl ?_
    refine cg_10_0 X wd2_50 dX10_back_38 ?_
    refine g_aload_n X dX10_back_41 0 rfl ?_
    refine m_bind hf (fun y5 hy5 hf => ?_)
    refine cw_V_v (cix := 7) (As := [.ref an3]) (st := []) X Y kV_X10_202 (cc_7_becomeSP l dC dI E ev ho ro F P S 1 an3 tw_1 y5 hy5) (ob_7 tw_1) rfl ⟨Nat.le_of_ble_eq_true rfl, Nat.le_of_ble_eq_true rfl⟩ ⟨rfl, rfl⟩ (Nat.le_of_ble_eq_true rfl) ⟨Nat.le_of_ble_eq_true rfl, Nat.le_of_ble_eq_true rfl⟩ dX10_back_42 ?_
    refine g_aload_n X dX10_back_45 1 rfl ?_
    refine cg_10_4 X wd2_54 dX10_back_46 ?_
    refine g_iconst X dX10_back_49 kc_0 ?_
    refine cp_1_2 X lg_7 wd1_134 dX10_back_50 hf (fun S6 hf => ?_)
    refine g_aload_n X dX10_back_53 1 rfl ?_
    refine g_iconst X dX10_back_54 kc_0 ?_
    refine m_bind hf (fun y7 hy7 hf => ?_)
    refine cw_V_i (cix := 10) (As := [.int (0 : Int32)]) (st := []) X Y kV_X10_107 (cc_10_accept l dC dI E ev ho ro P S6 (0 : Int32) y7 hy7) ob_10 rfl ⟨Nat.le_of_ble_eq_true rfl, Nat.le_of_ble_eq_true rfl⟩ ⟨rfl, rfl⟩ (Nat.le_of_ble_eq_true rfl) ⟨Nat.le_of_ble_eq_true rfl, Nat.le_of_ble_eq_true rfl⟩ dX10_back_55 ?_
    exact c_reti_s hA hQ X hr hlk dX10_back_58 hf
  refine g_lv [0] (lv' := [(0, .ref (ho 0))]) rfl ?_
  exact hB13 _ hf
def rc_10_count : Room := { frames := 2, cells := 0, slots := 0, locals := 43 }
set_option maxRecDepth 100000 in
set_option maxHeartbeats 4000000 in
theorem cc_10_count (l : Launch) (dC : Nat → ClassId) (dI : Nat → Nat → Nat) (E : Nat → ClassId) (ev : Nat → Nat) (ho : Nat → Nat) (ro : Nat → Nat → Nat) (F : Nat) (P : va_W) (S : CS) (x1 : Int32)  (res : Int32) (hf : C_10_count F S x1 = some res) : CC l dC dI E ev yX10_count cX10_count 2 (some .int) rc_10_count [.ref (ho 0), .int x1] (CW E ho ro S ++ P) (CW E ho ro S ++ P) (some (.int res)) := by
  refine CC_of (own := "LostLanes") (by decide) rfl (Nat.le_of_ble_eq_true rfl) ?_
  intro p e s m args below meth c A Q X Y hr hlk hA hQ
  refine g_lv [0, 1] (lv' := [(0, .ref (ho 0)), (1, .int x1)]) rfl ?_
  unfold C_10_count at hf
  refine g_iload_n X dX10_count_0 1 rfl ?_
  refine g_ite hf (fun hs1_0 hf => ?_) (fun hs1_0 hf => ?_)
  · refine g_tsw (tgt := 80) (off := 79) X dX10_count_1 (by rw [hs1_0]; decide) (by rw [hs1_0]; decide) (by rw [hs1_0]; rfl) (by decide) ?_
    refine g_aload_n X dX10_count_80 0 rfl ?_
    refine cg_10_0 X wd2_50 dX10_count_81 ?_
    refine cg_7_5 X tw_1 wd1_59 dX10_count_84 ?_
    exact c_reti_o hA hQ X hr hlk dX10_count_87 hf
  refine g_ite hf (fun hs1_1 hf => ?_) (fun hs1_1 hf => ?_)
  · refine g_tsw (tgt := 88) (off := 87) X dX10_count_1 (by rw [hs1_1]; decide) (by rw [hs1_1]; decide) (by rw [hs1_1]; rfl) (by decide) ?_
    refine g_aload_n X dX10_count_88 0 rfl ?_
    refine cg_10_0 X wd2_50 dX10_count_89 ?_
    refine cg_7_9 X tw_1 wd1_74 dX10_count_92 ?_
    exact c_reti_o hA hQ X hr hlk dX10_count_95 hf
  refine g_ite hf (fun hs1_2 hf => ?_) (fun hs1_2 hf => ?_)
  · refine g_tsw (tgt := 96) (off := 95) X dX10_count_1 (by rw [hs1_2]; decide) (by rw [hs1_2]; decide) (by rw [hs1_2]; rfl) (by decide) ?_
    refine g_aload_n X dX10_count_96 0 rfl ?_
    refine cg_10_0 X wd2_50 dX10_count_97 ?_
    refine m_bind hf (fun y1 hy1 hf => ?_)
    refine cw_V_i (cix := 7) (As := []) (st := []) X Y kV_X10_374 (cc_7_namedLanes l dC dI E ev ho ro F P S 1 tw_1 y1 hy1) (ob_7 tw_1) rfl ⟨Nat.le_of_ble_eq_true rfl, Nat.le_of_ble_eq_true rfl⟩ ⟨rfl, rfl⟩ (Nat.le_of_ble_eq_true rfl) ⟨Nat.le_of_ble_eq_true rfl, Nat.le_of_ble_eq_true rfl⟩ dX10_count_100 ?_
    exact c_reti_o hA hQ X hr hlk dX10_count_103 hf
  refine g_ite hf (fun hs1_3 hf => ?_) (fun hs1_3 hf => ?_)
  · refine g_tsw (tgt := 104) (off := 103) X dX10_count_1 (by rw [hs1_3]; decide) (by rw [hs1_3]; decide) (by rw [hs1_3]; rfl) (by decide) ?_
    refine g_aload_n X dX10_count_104 0 rfl ?_
    refine cg_10_0 X wd2_50 dX10_count_105 ?_
    refine cg_7_11 X tw_1 wd1_80 dX10_count_108 ?_
    exact c_reti_o hA hQ X hr hlk dX10_count_111 hf
  refine g_ite hf (fun hs1_4 hf => ?_) (fun hs1_4 hf => ?_)
  · refine g_tsw (tgt := 112) (off := 111) X dX10_count_1 (by rw [hs1_4]; decide) (by rw [hs1_4]; decide) (by rw [hs1_4]; rfl) (by decide) ?_
    refine g_aload_n X dX10_count_112 0 rfl ?_
    refine cg_10_0 X wd2_50 dX10_count_113 ?_
    refine cg_7_14 X tw_1 wd1_88 dX10_count_116 ?_
    exact c_reti_o hA hQ X hr hlk dX10_count_119 hf
  refine g_ite hf (fun hs1_5 hf => ?_) (fun hs1_5 hf => ?_)
  · refine g_tsw (tgt := 120) (off := 119) X dX10_count_1 (by rw [hs1_5]; decide) (by rw [hs1_5]; decide) (by rw [hs1_5]; rfl) (by decide) ?_
    refine g_aload_n X dX10_count_120 0 rfl ?_
    refine cg_10_4 X wd2_54 dX10_count_121 ?_
    refine cg_1_2 X lg_7 wd1_134 dX10_count_124 ?_
    exact c_reti_o hA hQ X hr hlk dX10_count_127 hf
  refine g_ite hf (fun hs1_6 hf => ?_) (fun hs1_6 hf => ?_)
  · refine g_tsw (tgt := 128) (off := 127) X dX10_count_1 (by rw [hs1_6]; decide) (by rw [hs1_6]; decide) (by rw [hs1_6]; rfl) (by decide) ?_
    refine g_aload_n X dX10_count_128 0 rfl ?_
    refine cg_10_7 X wd2_57 dX10_count_129 ?_
    refine cg_6_1 X wd1_159 dX10_count_132 ?_
    exact c_reti_o hA hQ X hr hlk dX10_count_135 hf
  refine g_ite hf (fun hs1_7 hf => ?_) (fun hs1_7 hf => ?_)
  · refine g_tsw (tgt := 136) (off := 135) X dX10_count_1 (by rw [hs1_7]; decide) (by rw [hs1_7]; decide) (by rw [hs1_7]; rfl) (by decide) ?_
    refine g_aload_n X dX10_count_136 0 rfl ?_
    refine cg_10_13 X wd2_63 dX10_count_137 ?_
    refine g_iconst X dX10_count_140 kc_1 ?_
    refine ca_ldc_10_13 X kt_1 kx_1_7 dX10_count_141 ?_
    exact c_reti_o hA hQ X hr hlk dX10_count_142 hf
  refine g_ite hf (fun hs1_8 hf => ?_) (fun hs1_8 hf => ?_)
  · refine g_tsw (tgt := 143) (off := 142) X dX10_count_1 (by rw [hs1_8]; decide) (by rw [hs1_8]; decide) (by rw [hs1_8]; rfl) (by decide) ?_
    refine g_aload_n X dX10_count_143 0 rfl ?_
    refine cg_10_13 X wd2_63 dX10_count_144 ?_
    refine g_iconst X dX10_count_147 kc_2 ?_
    refine ca_ldc_10_13 X kt_2 kx_2_7 dX10_count_148 ?_
    exact c_reti_o hA hQ X hr hlk dX10_count_149 hf
  refine g_ite hf (fun hs1_9 hf => ?_) (fun hs1_9 hf => ?_)
  · refine g_tsw (tgt := 150) (off := 149) X dX10_count_1 (by rw [hs1_9]; decide) (by rw [hs1_9]; decide) (by rw [hs1_9]; rfl) (by decide) ?_
    refine g_aload_n X dX10_count_150 0 rfl ?_
    refine cg_10_13 X wd2_63 dX10_count_151 ?_
    refine g_iconst X dX10_count_154 kc_3 ?_
    refine ca_ldc_10_13 X kt_3 kx_3_7 dX10_count_155 ?_
    exact c_reti_o hA hQ X hr hlk dX10_count_156 hf
  refine g_ite hf (fun hs1_10 hf => ?_) (fun hs1_10 hf => ?_)
  · refine g_tsw (tgt := 157) (off := 156) X dX10_count_1 (by rw [hs1_10]; decide) (by rw [hs1_10]; decide) (by rw [hs1_10]; rfl) (by decide) ?_
    refine g_aload_n X dX10_count_157 0 rfl ?_
    refine cg_10_13 X wd2_63 dX10_count_158 ?_
    refine g_iconst X dX10_count_161 kc_5 ?_
    refine ca_ldc_10_13 X kt_5 kx_5_7 dX10_count_162 ?_
    exact c_reti_o hA hQ X hr hlk dX10_count_163 hf
  refine g_ite hf (fun hs1_11 hf => ?_) (fun hs1_11 hf => ?_)
  · refine g_tsw (tgt := 164) (off := 163) X dX10_count_1 (by rw [hs1_11]; decide) (by rw [hs1_11]; decide) (by rw [hs1_11]; rfl) (by decide) ?_
    refine g_aload_n X dX10_count_164 0 rfl ?_
    refine cg_10_13 X wd2_63 dX10_count_165 ?_
    refine g_bipush X dX10_count_168 kb_6 ?_
    refine ca_ldc_10_13 X kt_6 kx_6_7 dX10_count_170 ?_
    exact c_reti_o hA hQ X hr hlk dX10_count_171 hf
  refine g_ite hf (fun hs1_12 hf => ?_) (fun hs1_12 hf => ?_)
  · refine g_tsw (tgt := 172) (off := 171) X dX10_count_1 (by rw [hs1_12]; decide) (by rw [hs1_12]; decide) (by rw [hs1_12]; rfl) (by decide) ?_
    refine g_aload_n X dX10_count_172 0 rfl ?_
    refine cg_10_0 X wd2_50 dX10_count_173 ?_
    refine cg_7_15 X tw_1 wd1_90 dX10_count_176 ?_
    exact c_reti_o hA hQ X hr hlk dX10_count_179 hf
  refine g_ite hf (fun hs1_13 hf => ?_) (fun hs1_13 hf => ?_)
  · refine g_tsw (tgt := 180) (off := 179) X dX10_count_1 (by rw [hs1_13]; decide) (by rw [hs1_13]; decide) (by rw [hs1_13]; rfl) (by decide) ?_
    refine g_aload_n X dX10_count_180 0 rfl ?_
    refine cg_10_0 X wd2_50 dX10_count_181 ?_
    refine cg_7_12 X tw_1 wd1_84 dX10_count_184 ?_
    refine g_iconst X dX10_count_187 kc_0 ?_
    refine ca_ldc_7_12 X tw_1 kt_0 kx_0_3 dX10_count_188 ?_
    exact c_reti_o hA hQ X hr hlk dX10_count_189 hf
  refine g_ite hf (fun hs1_14 hf => ?_) (fun hs1_14 hf => ?_)
  · refine g_tsw (tgt := 190) (off := 189) X dX10_count_1 (by rw [hs1_14]; decide) (by rw [hs1_14]; decide) (by rw [hs1_14]; rfl) (by decide) ?_
    refine g_aload_n X dX10_count_190 0 rfl ?_
    refine cg_10_0 X wd2_50 dX10_count_191 ?_
    refine cg_7_12 X tw_1 wd1_84 dX10_count_194 ?_
    refine g_iconst X dX10_count_197 kc_1 ?_
    refine ca_ldc_7_12 X tw_1 kt_1 kx_1_3 dX10_count_198 ?_
    exact c_reti_o hA hQ X hr hlk dX10_count_199 hf
  refine g_ite hf (fun hs1_15 hf => ?_) (fun hs1_15 hf => ?_)
  · refine g_tsw (tgt := 200) (off := 199) X dX10_count_1 (by rw [hs1_15]; decide) (by rw [hs1_15]; decide) (by rw [hs1_15]; rfl) (by decide) ?_
    refine g_aload_n X dX10_count_200 0 rfl ?_
    refine cg_10_0 X wd2_50 dX10_count_201 ?_
    refine cg_7_12 X tw_1 wd1_84 dX10_count_204 ?_
    refine g_iconst X dX10_count_207 kc_2 ?_
    refine ca_ldc_7_12 X tw_1 kt_2 kx_2_3 dX10_count_208 ?_
    exact c_reti_o hA hQ X hr hlk dX10_count_209 hf
  refine g_tswO (tgt := 210) X dX10_count_1 (g_out0_15 (lv_neT hs1_0 (by decide)) (lv_neT hs1_1 (by decide)) (lv_neT hs1_2 (by decide)) (lv_neT hs1_3 (by decide)) (lv_neT hs1_4 (by decide)) (lv_neT hs1_5 (by decide)) (lv_neT hs1_6 (by decide)) (lv_neT hs1_7 (by decide)) (lv_neT hs1_8 (by decide)) (lv_neT hs1_9 (by decide)) (lv_neT hs1_10 (by decide)) (lv_neT hs1_11 (by decide)) (lv_neT hs1_12 (by decide)) (lv_neT hs1_13 (by decide)) (lv_neT hs1_14 (by decide)) (lv_neT hs1_15 (by decide))) (by decide) ?_
  refine g_iconst X dX10_count_210 kc_m1 ?_
  exact c_reti_o hA hQ X hr hlk dX10_count_211 hf
def rc_10_status : Room := { frames := 0, cells := 0, slots := 0, locals := 0 }
set_option maxRecDepth 100000 in
set_option maxHeartbeats 4000000 in
theorem cc_10_status (l : Launch) (dC : Nat → ClassId) (dI : Nat → Nat → Nat) (E : Nat → ClassId) (ev : Nat → Nat) (ho : Nat → Nat) (ro : Nat → Nat → Nat) (P : va_W) (S : CS)   (res : Int32) (hf : C_10_status S = some res) : CC l dC dI E ev yX10_status cX10_status 1 (some .int) rc_10_status [.ref (ho 0)] (CW E ho ro S ++ P) (CW E ho ro S ++ P) (some (.int res)) := by
  refine CC_of (own := "LostLanes") (by decide) rfl (Nat.le_of_ble_eq_true rfl) ?_
  intro p e s m args below meth c A Q X Y hr hlk hA hQ
  refine g_lv [0] (lv' := [(0, .ref (ho 0))]) rfl ?_
  unfold C_10_status at hf
  refine g_aload_n X dX10_status_0 0 rfl ?_
  refine cg_10_15 X wd2_65 dX10_status_1 ?_
  exact c_reti_o hA hQ X hr hlk dX10_status_4 hf
def rc_10_noteOrderWords : Room := { frames := 2, cells := 0, slots := 0, locals := 43 }
set_option maxRecDepth 100000 in
set_option maxHeartbeats 4000000 in
theorem cc_10_noteOrderWords (l : Launch) (dC : Nat → ClassId) (dI : Nat → Nat → Nat) (E : Nat → ClassId) (ev : Nat → Nat) (ho : Nat → Nat) (ro : Nat → Nat → Nat) (F : Nat) (P : va_W) (S : CS)   (res : Unit × CS) (hf : C_10_noteOrderWords F S = some res) : CC l dC dI E ev yX10_noteOrderWords cX10_noteOrderWords 2 none rc_10_noteOrderWords [.ref (ho 0)] (CW E ho ro S ++ P) (CW E ho ro res.2 ++ P) none := by
  refine CC_of (own := "LostLanes") (by decide) rfl (Nat.le_of_ble_eq_true rfl) ?_
  intro p e s m args below meth c A Q X Y hr hlk hA hQ
  have hB126 : ∀ (k88 : CS → Int32 → Option (Unit × CS)) (hk88 : ∀ (S : CS) (x1 : Int32), k88 S x1 = some res → GG p l e rc_10_noteOrderWords s m args below meth c dC dI A 2 0 0 Q (CW E ho ro S ++ P) 88 [(0, .ref (ho 0)), (1, .int x1)] []) (S : CS) (x1 : Int32) (tx1 : Int32) (tx2 : Int32), C_10_noteOrderWords_B126 F k88 S x1 tx1 tx2 = some res → GG p l e rc_10_noteOrderWords s m args below meth c dC dI A 2 0 0 Q (CW E ho ro S ++ P) 126 [(0, .ref (ho 0)), (1, .int x1)] [.int tx2, .int tx1, .ref (ro 0 12)] := by
    intro k88 hk88 S x1 tx1 tx2 hf
    unfold C_10_noteOrderWords_B126 at hf
    refine ca_st_10_12 X dX10_noteOrderWords_126 hf (fun S1 hf => ?_)
    refine g_iinc (lv' := [(1, .int (x1 + (1 : Int32))), (0, .ref (ho 0))]) X dX10_noteOrderWords_127 1 rfl kc_1 (by decide) rfl ?_
    refine g_goto (tgt := 88) X dX10_noteOrderWords_130 (by decide) ?_
    refine g_lv [1, 0] (lv' := [(0, .ref (ho 0)), (1, .int (x1 + (1 : Int32)))]) rfl ?_
    exact hk88 _ _ hf
  have hL88 : ∀  (n : Nat) (S : CS) (x1 : Int32), C_10_noteOrderWords_L88 F n S x1 = some res → GG p l e rc_10_noteOrderWords s m args below meth c dC dI A 2 0 0 Q (CW E ho ro S ++ P) 88 [(0, .ref (ho 0)), (1, .int x1)] [] := by
    intro  n
    induction n with
    | zero => intro S x1 hf; have hf : (none : Option (Unit × CS)) = some res := hf; cases hf
    | succ n ih =>
      intro S x1 hf
      rw [C_10_noteOrderWords_L88] at hf
      refine g_iload_n X dX10_noteOrderWords_88 1 rfl ?_
      refine g_bipush X dX10_noteOrderWords_89 kb_10 ?_
      refine g_icmp_ge (tgt := 133) X dX10_noteOrderWords_91 (by decide) hf (fun hf => ?_) (fun hf => ?_)
      · exact c_retv_s hA hQ X hr hlk dX10_noteOrderWords_133 hf
      refine g_aload_n X dX10_noteOrderWords_94 0 rfl ?_
      refine cg_10_12 X wd2_62 dX10_noteOrderWords_95 ?_
      refine g_bipush X dX10_noteOrderWords_98 kb_9 ?_
      refine g_iload_n X dX10_noteOrderWords_100 1 rfl ?_
      refine g_iadd X dX10_noteOrderWords_101 ?_
      refine g_aload_n X dX10_noteOrderWords_102 0 rfl ?_
      refine cg_10_0 X wd2_50 dX10_noteOrderWords_103 ?_
      refine g_iload_n X dX10_noteOrderWords_106 1 rfl ?_
      refine m_bind hf (fun y2 hy2 hf => ?_)
      refine cw_V_i (cix := 7) (As := [.int x1]) (st := [.int ((9 : Int32) + x1), .ref (ro 0 12)]) X Y kV_X10_110 (cc_7_hasLane l dC dI E ev ho ro P S 1 x1 tw_1 y2 hy2) (ob_7 tw_1) rfl ⟨Nat.le_of_ble_eq_true rfl, Nat.le_of_ble_eq_true rfl⟩ ⟨rfl, rfl⟩ (Nat.le_of_ble_eq_true rfl) ⟨Nat.le_of_ble_eq_true rfl, Nat.le_of_ble_eq_true rfl⟩ dX10_noteOrderWords_107 ?_
      refine g_if_eq (tgt := 125) X dX10_noteOrderWords_110 (by decide) hf (fun hf => ?_) (fun hf => ?_)
      · refine g_iconst X dX10_noteOrderWords_125 kc_m1 ?_
        exact hB126 _ ih _ _ _ _ hf
      refine g_aload_n X dX10_noteOrderWords_113 0 rfl ?_
      refine cg_10_0 X wd2_50 dX10_noteOrderWords_114 ?_
      refine cg_7_4 X tw_1 wd1_54 dX10_noteOrderWords_117 ?_
      refine g_iload_n X dX10_noteOrderWords_120 1 rfl ?_
      refine ca_ld_7_4 X tw_1 dX10_noteOrderWords_121 hf (fun hf => ?_)
      refine g_goto (tgt := 126) X dX10_noteOrderWords_122 (by decide) ?_
      exact hB126 _ ih _ _ _ _ hf
  have hB79 : ∀ (k43 : CS → Int32 → Option (Unit × CS)) (hk43 : ∀ (S : CS) (x1 : Int32), k43 S x1 = some res → GG p l e rc_10_noteOrderWords s m args below meth c dC dI A 2 0 0 Q (CW E ho ro S ++ P) 43 [(0, .ref (ho 0)), (1, .int x1)] []) (S : CS) (x1 : Int32) (tx1 : Int32) (tx2 : Int32), C_10_noteOrderWords_B79 F k43 S x1 tx1 tx2 = some res → GG p l e rc_10_noteOrderWords s m args below meth c dC dI A 2 0 0 Q (CW E ho ro S ++ P) 79 [(0, .ref (ho 0)), (1, .int x1)] [.int tx2, .int tx1, .ref (ro 0 12)] := by
    intro k43 hk43 S x1 tx1 tx2 hf
    unfold C_10_noteOrderWords_B79 at hf
    refine ca_st_10_12 X dX10_noteOrderWords_79 hf (fun S3 hf => ?_)
    refine g_iinc (lv' := [(1, .int (x1 + (1 : Int32))), (0, .ref (ho 0))]) X dX10_noteOrderWords_80 1 rfl kc_1 (by decide) rfl ?_
    refine g_goto (tgt := 43) X dX10_noteOrderWords_83 (by decide) ?_
    refine g_lv [1, 0] (lv' := [(0, .ref (ho 0)), (1, .int (x1 + (1 : Int32)))]) rfl ?_
    exact hk43 _ _ hf
  have hL43 : ∀  (n : Nat) (S : CS) (x1 : Int32), C_10_noteOrderWords_L43 F n S x1 = some res → GG p l e rc_10_noteOrderWords s m args below meth c dC dI A 2 0 0 Q (CW E ho ro S ++ P) 43 [(0, .ref (ho 0)), (1, .int x1)] [] := by
    intro  n
    induction n with
    | zero => intro S x1 hf; have hf : (none : Option (Unit × CS)) = some res := hf; cases hf
    | succ n ih =>
      intro S x1 hf
      rw [C_10_noteOrderWords_L43] at hf
      refine g_iload_n X dX10_noteOrderWords_43 1 rfl ?_
      refine g_iconst X dX10_noteOrderWords_44 kc_4 ?_
      refine g_icmp_ge (tgt := 86) X dX10_noteOrderWords_45 (by decide) hf (fun hf => ?_) (fun hf => ?_)
      · refine g_iconst X dX10_noteOrderWords_86 kc_0 ?_
        refine g_istore_n (i := 1) (lv' := [(1, .int (0 : Int32)), (0, .ref (ho 0))]) X dX10_noteOrderWords_87 rfl (by decide) rfl ?_
        refine g_lv [1, 0] (lv' := [(0, .ref (ho 0)), (1, .int (0 : Int32))]) rfl ?_
        exact hL88 _ _ _ hf
      refine g_aload_n X dX10_noteOrderWords_48 0 rfl ?_
      refine cg_10_12 X wd2_62 dX10_noteOrderWords_49 ?_
      refine g_iconst X dX10_noteOrderWords_52 kc_5 ?_
      refine g_iload_n X dX10_noteOrderWords_53 1 rfl ?_
      refine g_iadd X dX10_noteOrderWords_54 ?_
      refine g_aload_n X dX10_noteOrderWords_55 0 rfl ?_
      refine cg_10_0 X wd2_50 dX10_noteOrderWords_56 ?_
      refine g_iload_n X dX10_noteOrderWords_59 1 rfl ?_
      refine m_bind hf (fun y4 hy4 hf => ?_)
      refine cw_V_i (cix := 7) (As := [.int x1]) (st := [.int ((5 : Int32) + x1), .ref (ro 0 12)]) X Y kV_X10_139 (cc_7_hasChild l dC dI E ev ho ro P S 1 x1 tw_1 y4 hy4) (ob_7 tw_1) rfl ⟨Nat.le_of_ble_eq_true rfl, Nat.le_of_ble_eq_true rfl⟩ ⟨rfl, rfl⟩ (Nat.le_of_ble_eq_true rfl) ⟨Nat.le_of_ble_eq_true rfl, Nat.le_of_ble_eq_true rfl⟩ dX10_noteOrderWords_60 ?_
      refine g_if_eq (tgt := 78) X dX10_noteOrderWords_63 (by decide) hf (fun hf => ?_) (fun hf => ?_)
      · refine g_iconst X dX10_noteOrderWords_78 kc_m1 ?_
        exact hB79 _ ih _ _ _ _ hf
      refine g_aload_n X dX10_noteOrderWords_66 0 rfl ?_
      refine cg_10_0 X wd2_50 dX10_noteOrderWords_67 ?_
      refine cg_7_7 X tw_1 wd1_68 dX10_noteOrderWords_70 ?_
      refine g_iload_n X dX10_noteOrderWords_73 1 rfl ?_
      refine ca_ld_7_7 X tw_1 dX10_noteOrderWords_74 hf (fun hf => ?_)
      refine g_goto (tgt := 79) X dX10_noteOrderWords_75 (by decide) ?_
      exact hB79 _ ih _ _ _ _ hf
  refine g_lv [0] (lv' := [(0, .ref (ho 0))]) rfl ?_
  unfold C_10_noteOrderWords at hf
  refine g_aload_n X dX10_noteOrderWords_0 0 rfl ?_
  refine cg_10_12 X wd2_62 dX10_noteOrderWords_1 ?_
  refine g_iconst X dX10_noteOrderWords_4 kc_0 ?_
  refine g_aload_n X dX10_noteOrderWords_5 0 rfl ?_
  refine cg_10_0 X wd2_50 dX10_noteOrderWords_6 ?_
  refine cg_7_12 X tw_1 wd1_84 dX10_noteOrderWords_9 ?_
  refine g_iconst X dX10_noteOrderWords_12 kc_0 ?_
  refine ca_ldc_7_12 X tw_1 kt_0 kx_0_3 dX10_noteOrderWords_13 ?_
  refine ca_stc_10_12 X kt_0 kx_0_19 dX10_noteOrderWords_14 hf (fun S5 hf => ?_)
  refine g_aload_n X dX10_noteOrderWords_15 0 rfl ?_
  refine cg_10_12 X wd2_62 dX10_noteOrderWords_16 ?_
  refine g_iconst X dX10_noteOrderWords_19 kc_3 ?_
  refine g_aload_n X dX10_noteOrderWords_20 0 rfl ?_
  refine cg_10_0 X wd2_50 dX10_noteOrderWords_21 ?_
  refine m_bind hf (fun y6 hy6 hf => ?_)
  refine cw_V_i (cix := 7) (As := []) (st := [.int (3 : Int32), .ref (ro 0 12)]) X Y kV_X10_374 (cc_7_namedLanes l dC dI E ev ho ro F P S5 1 tw_1 y6 hy6) (ob_7 tw_1) rfl ⟨Nat.le_of_ble_eq_true rfl, Nat.le_of_ble_eq_true rfl⟩ ⟨rfl, rfl⟩ (Nat.le_of_ble_eq_true rfl) ⟨Nat.le_of_ble_eq_true rfl, Nat.le_of_ble_eq_true rfl⟩ dX10_noteOrderWords_24 ?_
  refine ca_stc_10_12 X kt_3 kx_3_19 dX10_noteOrderWords_27 hf (fun S7 hf => ?_)
  refine g_aload_n X dX10_noteOrderWords_28 0 rfl ?_
  refine cg_10_12 X wd2_62 dX10_noteOrderWords_29 ?_
  refine g_iconst X dX10_noteOrderWords_32 kc_4 ?_
  refine g_aload_n X dX10_noteOrderWords_33 0 rfl ?_
  refine cg_10_0 X wd2_50 dX10_noteOrderWords_34 ?_
  refine cg_7_9 X tw_1 wd1_74 dX10_noteOrderWords_37 ?_
  refine ca_stc_10_12 X kt_4 kx_4_19 dX10_noteOrderWords_40 hf (fun S8 hf => ?_)
  refine g_iconst X dX10_noteOrderWords_41 kc_0 ?_
  refine g_istore_n (i := 1) (lv' := [(1, .int (0 : Int32)), (0, .ref (ho 0))]) X dX10_noteOrderWords_42 rfl (by decide) rfl ?_
  refine g_lv [1, 0] (lv' := [(0, .ref (ho 0)), (1, .int (0 : Int32))]) rfl ?_
  exact hL43 _ _ _ hf
def rc_10_obey : Room := { frames := 6, cells := 0, slots := 0, locals := 155 }
set_option maxRecDepth 100000 in
set_option maxHeartbeats 4000000 in
theorem cc_10_obey (l : Launch) (dC : Nat → ClassId) (dI : Nat → Nat → Nat) (E : Nat → ClassId) (ev : Nat → Nat) (ho : Nat → Nat) (ro : Nat → Nat → Nat) (F : Nat) (P : va_W) (S : CS) (a1 : Nat) (a2 : Nat)  (res : Int32 × CS) (hf : C_10_obey F E P S a1 a2 = some res) : CC l dC dI E ev yX10_obey cX10_obey 6 (some .boolean) rc_10_obey [.ref (ho 0), .ref a1, .ref a2] (CW E ho ro S ++ P) (CW E ho ro res.2 ++ P) (some (.int res.1)) := by
  refine CC_of (own := "LostLanes") (by decide) rfl (Nat.le_of_ble_eq_true rfl) ?_
  intro p e s m args below meth c A Q X Y hr hlk hA hQ
  have hB40 : ∀ (S : CS) (a1 : Nat) (a2 : Nat), C_10_obey_B40 F E P S a1 a2 = some res → GG p l e rc_10_obey s m args below meth c dC dI A 6 0 0 Q (CW E ho ro S ++ P) 40 [(0, .ref (ho 0)), (1, .ref a1), (2, .ref a2)] [] := by
    intro S a1 a2 hf
    unfold C_10_obey_B40 at hf
    refine g_aload_n X dX10_obey_40 0 rfl ?_
    refine cg_10_9 X wd2_59 dX10_obey_41 ?_
    refine g_aload_n X dX10_obey_44 1 rfl ?_
    refine pg_5_2 X wd3_54 dX10_obey_45 hf (fun b1 hf => ?_)
    refine g_aload_n X dX10_obey_48 2 rfl ?_
    refine pg_0_1 X wd3_135 dX10_obey_49 hf (fun v2 hf => ?_)
    refine g_aload_n X dX10_obey_52 2 rfl ?_
    refine pg_0_2 X wd3_138 dX10_obey_53 hf (fun v3 hf => ?_)
    refine g_aload_n X dX10_obey_56 0 rfl ?_
    refine cg_10_12 X wd2_62 dX10_obey_57 ?_
    refine m_bind hf (fun y4 hy4 hf => ?_)
    refine cw_V_i (cix := 4) (As := [.ref b1, .int v2, .int v3, .ref (ro 0 12)]) (st := []) X Y kV_X10_399 (cc_4_reckon l dC dI E ev ho ro F P S b1 v2 v3 0 12 19 ars_10_12 y4 hy4) ob_4 rfl ⟨Nat.le_of_ble_eq_true rfl, Nat.le_of_ble_eq_true rfl⟩ ⟨rfl, rfl⟩ (Nat.le_of_ble_eq_true rfl) ⟨Nat.le_of_ble_eq_true rfl, Nat.le_of_ble_eq_true rfl⟩ dX10_obey_60 ?_
    refine g_istore_n (i := 3) (lv' := [(3, .int y4.1), (0, .ref (ho 0)), (1, .ref a1), (2, .ref a2)]) X dX10_obey_63 rfl (by decide) rfl ?_
    refine g_aload_n X dX10_obey_64 1 rfl ?_
    refine cg_10_9 X wd2_59 dX10_obey_65 ?_
    refine g_aload_n X dX10_obey_68 2 rfl ?_
    refine pg_5_2 X wd3_54 dX10_obey_69 hf (fun b5 hf => ?_)
    refine g_aload_n X dX10_obey_72 3 rfl ?_
    refine pg_0_2 X wd3_138 dX10_obey_73 hf (fun v6 hf => ?_)
    refine g_aload_n X dX10_obey_76 3 rfl ?_
    refine pg_0_3 X wd3_142 dX10_obey_77 hf (fun v7 hf => ?_)
    refine g_aload_n X dX10_obey_80 1 rfl ?_
    refine cg_10_12 X wd2_62 dX10_obey_81 ?_
    refine m_bind hf (fun y8 hy8 hf => ?_)
    refine cw_V_i (cix := 4) (As := [.ref b5, .int v6, .int v7, .ref (ro 0 12)]) (st := []) X Y kV_X10_399 (cc_4_reckon l dC dI E ev ho ro F P y4.2 b5 v6 v7 0 12 19 ars_10_12 y8 hy8) ob_4 rfl ⟨Nat.le_of_ble_eq_true rfl, Nat.le_of_ble_eq_true rfl⟩ ⟨rfl, rfl⟩ (Nat.le_of_ble_eq_true rfl) ⟨Nat.le_of_ble_eq_true rfl, Nat.le_of_ble_eq_true rfl⟩ dX10_obey_84 ?_
    refine g_istore (lv' := [(4, .int y8.1), (3, .int y4.1), (0, .ref (ho 0)), (1, .ref a1), (2, .ref a2)]) X dX10_obey_87 (by decide) rfl ?_
    refine g_iload_n X dX10_obey_89 1 rfl ?_
    refine g_ldcw X dX10_obey_90 wd4_34 ?_
    refine g_icmp_eq (tgt := 104) X dX10_obey_93 (by decide) hf (fun hf => ?_) (fun hf => ?_)
    · refine g_iconst X dX10_obey_104 kc_0 ?_
      exact c_retz_s hA hQ X hr hlk (Or.inl rfl) dX10_obey_105 hf
    refine g_iload X dX10_obey_96 0 rfl ?_
    refine g_ldcw X dX10_obey_98 wd4_34 ?_
    refine g_icmp_ne (tgt := 106) X dX10_obey_101 (by decide) hf (fun hf => ?_) (fun hf => ?_)
    · refine g_aload_n X dX10_obey_106 2 rfl ?_
      refine g_aload_n X dX10_obey_107 4 rfl ?_
      refine pg_0_0 X wd3_132 dX10_obey_108 hf (fun v9 hf => ?_)
      refine g_iload_n X dX10_obey_111 1 rfl ?_
      refine g_iload X dX10_obey_112 0 rfl ?_
      refine m_bind hf (fun y10 hy10 hf => ?_)
      refine cw_V_i (cix := 10) (As := [.int v9, .int y4.1, .int y8.1]) (st := []) X Y kV_X10_237 (cc_10_act l dC dI E ev ho ro F P y8.2 v9 y4.1 y8.1 y10 hy10) ob_10 rfl ⟨Nat.le_of_ble_eq_true rfl, Nat.le_of_ble_eq_true rfl⟩ ⟨rfl, rfl⟩ (Nat.le_of_ble_eq_true rfl) ⟨Nat.le_of_ble_eq_true rfl, Nat.le_of_ble_eq_true rfl⟩ dX10_obey_114 ?_
      refine g_istore (lv' := [(5, .int y10.1), (4, .int y8.1), (3, .int y4.1), (0, .ref (ho 0)), (1, .ref a1), (2, .ref a2)]) X dX10_obey_117 (by decide) rfl ?_
      refine g_iload X dX10_obey_119 0 rfl ?_
      refine g_if_ge (tgt := 126) X dX10_obey_121 (by decide) hf (fun hf => ?_) (fun hf => ?_)
      · refine g_aload_n X dX10_obey_126 3 rfl ?_
        refine cg_10_12 X wd2_62 dX10_obey_127 ?_
        refine g_iconst X dX10_obey_130 kc_1 ?_
        refine g_dup2 X dX10_obey_131 rfl rfl ?_
        refine ca_ldc_10_12 X kt_1 kx_1_19 dX10_obey_132 ?_
        refine g_iconst X dX10_obey_133 kc_1 ?_
        refine g_iadd X dX10_obey_134 ?_
        refine ca_stc_10_12 X kt_1 kx_1_19 dX10_obey_135 hf (fun S11 hf => ?_)
        refine g_aload_n X dX10_obey_136 5 rfl ?_
        refine pg_0_0 X wd3_132 dX10_obey_137 hf (fun v12 hf => ?_)
        refine g_iconst X dX10_obey_140 kc_1 ?_
        refine g_icmp_ne (tgt := 152) X dX10_obey_141 (by decide) hf (fun hf => ?_) (fun hf => ?_)
        · refine g_iconst X dX10_obey_152 kc_1 ?_
          exact c_retz_s hA hQ X hr hlk (Or.inr rfl) dX10_obey_153 hf
        refine g_aload_n X dX10_obey_144 3 rfl ?_
        refine cg_10_12 X wd2_62 dX10_obey_145 ?_
        refine g_iconst X dX10_obey_148 kc_2 ?_
        refine g_iload X dX10_obey_149 0 rfl ?_
        refine ca_stc_10_12 X kt_2 kx_2_19 dX10_obey_151 hf (fun S13 hf => ?_)
        refine g_iconst X dX10_obey_152 kc_1 ?_
        exact c_retz_s hA hQ X hr hlk (Or.inr rfl) dX10_obey_153 hf
      refine g_iconst X dX10_obey_124 kc_0 ?_
      exact c_retz_s hA hQ X hr hlk (Or.inl rfl) dX10_obey_125 hf
    refine g_iconst X dX10_obey_104 kc_0 ?_
    exact c_retz_s hA hQ X hr hlk (Or.inl rfl) dX10_obey_105 hf
  refine g_lv [0, 1, 2] (lv' := [(0, .ref (ho 0)), (1, .ref a1), (2, .ref a2)]) rfl ?_
  unfold C_10_obey at hf
  refine g_aload_n X dX10_obey_0 0 rfl ?_
  refine m_bind hf (fun y14 hy14 hf => ?_)
  refine cw_V_v (cix := 10) (As := []) (st := []) X Y kV_X10_383 (cc_10_noteOrderWords l dC dI E ev ho ro F P S y14 hy14) ob_10 rfl ⟨Nat.le_of_ble_eq_true rfl, Nat.le_of_ble_eq_true rfl⟩ ⟨rfl, rfl⟩ (Nat.le_of_ble_eq_true rfl) ⟨Nat.le_of_ble_eq_true rfl, Nat.le_of_ble_eq_true rfl⟩ dX10_obey_1 ?_
  refine g_aload_n X dX10_obey_4 2 rfl ?_
  obtain ⟨hz5, hf⟩ := chk_some hf
  refine m_bind hf (fun y15 hy15 hf => ?_)
  refine cw_V_i (cix := 0) (As := []) (st := []) X Y kV_X10_386 (cc_0_hasTest l dC dI E ev ho ro P y14.2 a2 y15 hy15) (ob_pool hz5) rfl ⟨Nat.le_of_ble_eq_true rfl, Nat.le_of_ble_eq_true rfl⟩ ⟨rfl, rfl⟩ (Nat.le_of_ble_eq_true rfl) ⟨Nat.le_of_ble_eq_true rfl, Nat.le_of_ble_eq_true rfl⟩ dX10_obey_5 ?_
  refine g_if_eq (tgt := 40) X dX10_obey_8 (by decide) hf (fun hf => ?_) (fun hf => ?_)
  · exact hB40 _ _ _ hf
  refine g_aload_n X dX10_obey_11 0 rfl ?_
  refine cg_10_9 X wd2_59 dX10_obey_12 ?_
  refine g_aload_n X dX10_obey_15 1 rfl ?_
  refine pg_5_2 X wd3_54 dX10_obey_16 hf (fun b16 hf => ?_)
  refine g_aload_n X dX10_obey_19 2 rfl ?_
  refine pg_0_3 X wd3_142 dX10_obey_20 hf (fun v17 hf => ?_)
  refine g_aload_n X dX10_obey_23 2 rfl ?_
  refine pg_0_4 X wd3_146 dX10_obey_24 hf (fun v18 hf => ?_)
  refine g_aload_n X dX10_obey_27 0 rfl ?_
  refine cg_10_12 X wd2_62 dX10_obey_28 ?_
  refine m_bind hf (fun y19 hy19 hf => ?_)
  refine cw_V_i (cix := 4) (As := [.ref b16, .int v17, .int v18, .ref (ro 0 12)]) (st := []) X Y kV_X10_399 (cc_4_reckon l dC dI E ev ho ro F P y14.2 b16 v17 v18 0 12 19 ars_10_12 y19 hy19) ob_4 rfl ⟨Nat.le_of_ble_eq_true rfl, Nat.le_of_ble_eq_true rfl⟩ ⟨rfl, rfl⟩ (Nat.le_of_ble_eq_true rfl) ⟨Nat.le_of_ble_eq_true rfl, Nat.le_of_ble_eq_true rfl⟩ dX10_obey_31 ?_
  refine g_iconst X dX10_obey_34 kc_1 ?_
  refine g_icmp_eq (tgt := 40) X dX10_obey_35 (by decide) hf (fun hf => ?_) (fun hf => ?_)
  · exact hB40 _ _ _ hf
  refine g_iconst X dX10_obey_38 kc_1 ?_
  exact c_retz_s hA hQ X hr hlk (Or.inr rfl) dX10_obey_39 hf
def rc_10_giveUp : Room := { frames := 2, cells := 0, slots := 0, locals := 82 }
set_option maxRecDepth 100000 in
set_option maxHeartbeats 4000000 in
theorem cc_10_giveUp (l : Launch) (dC : Nat → ClassId) (dI : Nat → Nat → Nat) (E : Nat → ClassId) (ev : Nat → Nat) (ho : Nat → Nat) (ro : Nat → Nat → Nat) (F : Nat) (P : va_W) (S : CS) (x1 : Int32)  (res : Int32 × CS) (hf : C_10_giveUp F E P S x1 = some res) : CC l dC dI E ev yX10_giveUp cX10_giveUp 2 (some .int) rc_10_giveUp [.ref (ho 0), .int x1] (CW E ho ro S ++ P) (CW E ho ro res.2 ++ P) (some (.int res.1)) := by
  refine CC_of (own := "LostLanes") (by decide) rfl (Nat.le_of_ble_eq_true rfl) ?_
  intro p e s m args below meth c A Q X Y hr hlk hA hQ
  refine g_lv [0, 1] (lv' := [(0, .ref (ho 0)), (1, .int x1)]) rfl ?_
  unfold C_10_giveUp at hf
  refine g_aload_n X dX10_giveUp_0 0 rfl ?_
  refine cg_10_0 X wd2_50 dX10_giveUp_1 ?_
  refine g_aload_n X dX10_giveUp_4 0 rfl ?_
  refine cg_10_1 X wd2_51 dX10_giveUp_5 ?_
  refine m_bind hf (fun y1 hy1 hf => ?_)
  refine cw_V_v (cix := 7) (As := [.ref (ho 2)]) (st := []) X Y kV_X10_202 (cc_7_become l dC dI E ev ho ro F P S 1 2 tw_1 tw_2 y1 hy1) (ob_7 tw_1) rfl ⟨Nat.le_of_ble_eq_true rfl, Nat.le_of_ble_eq_true rfl⟩ ⟨rfl, rfl⟩ (Nat.le_of_ble_eq_true rfl) ⟨Nat.le_of_ble_eq_true rfl, Nat.le_of_ble_eq_true rfl⟩ dX10_giveUp_8 ?_
  refine g_aload_n X dX10_giveUp_11 0 rfl ?_
  refine cg_10_4 X wd2_54 dX10_giveUp_12 ?_
  refine g_aload_n X dX10_giveUp_15 0 rfl ?_
  refine cg_10_5 X wd2_55 dX10_giveUp_16 ?_
  refine m_bind hf (fun y2 hy2 hf => ?_)
  refine cw_V_v (cix := 1) (As := [.ref (ho 8)]) (st := []) X Y kV_X10_206 (cc_1_become l dC dI E ev ho ro P y1.2 7 8 lg_7 lg_8 y2 hy2) (ob_1 lg_7) rfl ⟨Nat.le_of_ble_eq_true rfl, Nat.le_of_ble_eq_true rfl⟩ ⟨rfl, rfl⟩ (Nat.le_of_ble_eq_true rfl) ⟨Nat.le_of_ble_eq_true rfl, Nat.le_of_ble_eq_true rfl⟩ dX10_giveUp_19 ?_
  refine g_aload_n X dX10_giveUp_22 0 rfl ?_
  refine g_iload_n X dX10_giveUp_23 1 rfl ?_
  refine cp_10_16 X wd2_66 dX10_giveUp_24 hf (fun S3 hf => ?_)
  refine g_aload_n X dX10_giveUp_27 0 rfl ?_
  refine g_bipush X dX10_giveUp_28 kb_m3 ?_
  refine m_bind hf (fun y4 hy4 hf => ?_)
  refine cw_V_i (cix := 10) (As := [.int (-3 : Int32)]) (st := []) X Y kV_X10_93 (cc_10_refuse l dC dI E ev ho ro P S3 (-3 : Int32) y4 hy4) ob_10 rfl ⟨Nat.le_of_ble_eq_true rfl, Nat.le_of_ble_eq_true rfl⟩ ⟨rfl, rfl⟩ (Nat.le_of_ble_eq_true rfl) ⟨Nat.le_of_ble_eq_true rfl, Nat.le_of_ble_eq_true rfl⟩ dX10_giveUp_30 ?_
  exact c_reti_s hA hQ X hr hlk dX10_giveUp_33 hf
