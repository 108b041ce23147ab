def rm_in : Room := { frames := 0, cells := 0, slots := 0, locals := 0 }
set_option maxRecDepth 100000 in
set_option maxHeartbeats 4000000 in
theorem c_in (l : Launch) (dC : Nat → ClassId) (dI : Nat → Nat → Nat) (E : Nat → ClassId) (h : Nat) (r : Nat → Nat) (S : MS) (x0 : Int64) (x2 : Int64) (x4 : Int64) (res : Int32) (hf : M_in x0 x2 x4 = some res) : MC l dC dI E yX11_in cX11_in 6 (some .boolean) rm_in [.long x0, .long x2, .long x4] (MW E h r S) (MW E h r S) (some (.int res)) := by
  refine MC_of (own := "LostLanesModel") (by decide) rfl (Nat.le_of_ble_eq_true rfl) ?_
  intro p e s m args below meth c A Q X hr hlk hA hQ
  refine g_lv [0, 1, 2] (lv' := [(0, .long x0), (2, .long x2), (4, .long x4)]) rfl ?_
  unfold M_in at hf
  refine g_lload_n X dX11_in_0 0 rfl ?_
  refine g_lload_n X dX11_in_1 1 rfl ?_
  refine g_lcmp_lt (tgt := 17) X dX11_in_2 dX11_in_3 (by decide) hf (fun hf => ?_) (fun hf => ?_)
  · refine g_iconst X dX11_in_17 kc_0 ?_
    exact m_retz_o hA hQ X hr hlk (Or.inl rfl) dX11_in_18 hf
  refine g_lload_n X dX11_in_6 0 rfl ?_
  refine g_lload X dX11_in_7 2 rfl ?_
  refine g_lcmp_gt (tgt := 17) X dX11_in_9 dX11_in_10 (by decide) hf (fun hf => ?_) (fun hf => ?_)
  · refine g_iconst X dX11_in_17 kc_0 ?_
    exact m_retz_o hA hQ X hr hlk (Or.inl rfl) dX11_in_18 hf
  refine g_iconst X dX11_in_13 kc_1 ?_
  refine g_goto (tgt := 18) X dX11_in_14 (by decide) ?_
  exact m_retz_o hA hQ X hr hlk (Or.inr rfl) dX11_in_18 hf
def rm_is : Room := { frames := 0, cells := 0, slots := 0, locals := 0 }
set_option maxRecDepth 100000 in
set_option maxHeartbeats 4000000 in
theorem c_is (l : Launch) (dC : Nat → ClassId) (dI : Nat → Nat → Nat) (E : Nat → ClassId) (h : Nat) (r : Nat → Nat) (S : MS) (x0 : Int32) (x1 : Int32) (res : Int32) (hf : M_is x0 x1 = some res) : MC l dC dI E yX11_is cX11_is 2 (some .boolean) rm_is [.int x0, .int x1] (MW E h r S) (MW E h r S) (some (.int res)) := by
  refine MC_of (own := "LostLanesModel") (by decide) rfl (Nat.le_of_ble_eq_true rfl) ?_
  intro p e s m args below meth c A Q X hr hlk hA hQ
  refine g_lv [0, 1] (lv' := [(0, .int x0), (1, .int x1)]) rfl ?_
  unfold M_is at hf
  refine g_iload_n X dX11_is_0 0 rfl ?_
  refine g_iload_n X dX11_is_1 1 rfl ?_
  refine g_ishr X dX11_is_2 ?_
  refine g_iconst X dX11_is_3 kc_1 ?_
  refine g_iand X dX11_is_4 ?_
  refine g_iconst X dX11_is_5 kc_1 ?_
  refine g_icmp_ne (tgt := 13) X dX11_is_6 (by decide) hf (fun hf => ?_) (fun hf => ?_)
  · refine g_iconst X dX11_is_13 kc_0 ?_
    exact m_retz_o hA hQ X hr hlk (Or.inl rfl) dX11_is_14 hf
  refine g_iconst X dX11_is_9 kc_1 ?_
  refine g_goto (tgt := 14) X dX11_is_10 (by decide) ?_
  exact m_retz_o hA hQ X hr hlk (Or.inr rfl) dX11_is_14 hf
def rm_ones : Room := { frames := 0, cells := 0, slots := 0, locals := 0 }
set_option maxRecDepth 100000 in
set_option maxHeartbeats 4000000 in
theorem c_ones (l : Launch) (dC : Nat → ClassId) (dI : Nat → Nat → Nat) (E : Nat → ClassId) (h : Nat) (r : Nat → Nat) (F : Nat) (S : MS) (x0 : Int32) (res : Int32) (hf : M_ones F x0 = some res) : MC l dC dI E yX11_ones cX11_ones 3 (some .int) rm_ones [.int x0] (MW E h r S) (MW E h r S) (some (.int res)) := by
  refine MC_of (own := "LostLanesModel") (by decide) rfl (Nat.le_of_ble_eq_true rfl) ?_
  intro p e s m args below meth c A Q X hr hlk hA hQ
  have hL4 : ∀ (x0 : Int32) (n : Nat) (x1 : Int32) (x2 : Int32), M_ones_L4 F x0 n x1 x2 = some res → GG p l e rm_ones s m args below meth c dC dI A 3 0 0 Q (MW E h r S) 4 [(0, .int x0), (1, .int x1), (2, .int x2)] [] := by
    intro x0 n
    induction n with
    | zero => intro x1 x2 hf; have hf : (none : Option Int32) = some res := hf; cases hf
    | succ n ih =>
      intro x1 x2 hf
      rw [M_ones_L4] at hf
      refine g_iload_n X dX11_ones_4 2 rfl ?_
      refine g_bipush X dX11_ones_5 kb_8 ?_
      refine g_icmp_ge (tgt := 24) X dX11_ones_7 (by decide) hf (fun hf => ?_) (fun hf => ?_)
      · refine g_iload_n X dX11_ones_24 1 rfl ?_
        exact m_reti_o hA hQ X hr hlk dX11_ones_25 hf
      refine g_iload_n X dX11_ones_10 1 rfl ?_
      refine g_iload_n X dX11_ones_11 0 rfl ?_
      refine g_iload_n X dX11_ones_12 2 rfl ?_
      refine g_ishr X dX11_ones_13 ?_
      refine g_iconst X dX11_ones_14 kc_1 ?_
      refine g_iand X dX11_ones_15 ?_
      refine g_iadd X dX11_ones_16 ?_
      refine g_istore_n (i := 1) (lv' := [(1, .int (x1 + ((x0 >>> (x2 &&& 31)) &&& (1 : Int32)))), (0, .int x0), (2, .int x2)]) X dX11_ones_17 rfl (by decide) rfl ?_
      refine g_iinc (lv' := [(2, .int (x2 + (1 : Int32))), (1, .int (x1 + ((x0 >>> (x2 &&& 31)) &&& (1 : Int32)))), (0, .int x0)]) X dX11_ones_18 2 rfl kc_1 (by decide) rfl ?_
      refine g_goto (tgt := 4) X dX11_ones_21 (by decide) ?_
      refine g_lv [2, 1, 0] (lv' := [(0, .int x0), (1, .int (x1 + ((x0 >>> (x2 &&& 31)) &&& (1 : Int32)))), (2, .int (x2 + (1 : Int32)))]) rfl ?_
      exact ih _ _ hf
  refine g_lv [0] (lv' := [(0, .int x0)]) rfl ?_
  unfold M_ones at hf
  refine g_iconst X dX11_ones_0 kc_0 ?_
  refine g_istore_n (i := 1) (lv' := [(1, .int (0 : Int32)), (0, .int x0)]) X dX11_ones_1 rfl (by decide) rfl ?_
  refine g_iconst X dX11_ones_2 kc_0 ?_
  refine g_istore_n (i := 2) (lv' := [(2, .int (0 : Int32)), (1, .int (0 : Int32)), (0, .int x0)]) X dX11_ones_3 rfl (by decide) rfl ?_
  refine g_lv [2, 1, 0] (lv' := [(0, .int x0), (1, .int (0 : Int32)), (2, .int (0 : Int32))]) rfl ?_
  exact hL4 _ _ _ _ hf
def rm_bounded : Room := { frames := 0, cells := 0, slots := 0, locals := 0 }
set_option maxRecDepth 100000 in
set_option maxHeartbeats 4000000 in
theorem c_bounded (l : Launch) (dC : Nat → ClassId) (dI : Nat → Nat → Nat) (E : Nat → ClassId) (h : Nat) (r : Nat → Nat) (S : MS) (x0 : Int64) (x2 : Int32) (x3 : Int32) (res : Int32) (hf : M_bounded x0 x2 x3 = some res) : MC l dC dI E yX11_bounded cX11_bounded 4 (some .int) rm_bounded [.long x0, .int x2, .int x3] (MW E h r S) (MW E h r S) (some (.int res)) := by
  refine MC_of (own := "LostLanesModel") (by decide) rfl (Nat.le_of_ble_eq_true rfl) ?_
  intro p e s m args below meth c A Q X hr hlk hA hQ
  refine g_lv [0, 1, 2] (lv' := [(0, .long x0), (2, .int x2), (3, .int x3)]) rfl ?_
  unfold M_bounded at hf
  refine g_lload_n X dX11_bounded_0 0 rfl ?_
  refine g_iload_n X dX11_bounded_1 1 rfl ?_
  refine g_i2l X dX11_bounded_2 ?_
  refine g_lcmp_ge (tgt := 11) X dX11_bounded_3 dX11_bounded_4 (by decide) hf (fun hf => ?_) (fun hf => ?_)
  · refine g_lload_n X dX11_bounded_11 0 rfl ?_
    refine g_iload_n X dX11_bounded_12 2 rfl ?_
    refine g_i2l X dX11_bounded_13 ?_
    refine g_lcmp_le (tgt := 22) X dX11_bounded_14 dX11_bounded_15 (by decide) hf (fun hf => ?_) (fun hf => ?_)
    · refine g_lload_n X dX11_bounded_22 0 rfl ?_
      refine g_l2i X dX11_bounded_23 ?_
      exact m_reti_o hA hQ X hr hlk dX11_bounded_24 hf
    refine g_iload_n X dX11_bounded_18 2 rfl ?_
    refine g_goto (tgt := 24) X dX11_bounded_19 (by decide) ?_
    exact m_reti_o hA hQ X hr hlk dX11_bounded_24 hf
  refine g_iload_n X dX11_bounded_7 1 rfl ?_
  refine g_goto (tgt := 24) X dX11_bounded_8 (by decide) ?_
  exact m_reti_o hA hQ X hr hlk dX11_bounded_24 hf
def rm_tell : Room := { frames := 0, cells := 0, slots := 0, locals := 0 }
set_option maxRecDepth 100000 in
set_option maxHeartbeats 4000000 in
theorem c_tell (l : Launch) (dC : Nat → ClassId) (dI : Nat → Nat → Nat) (E : Nat → ClassId) (h : Nat) (r : Nat → Nat) (S : MS) (x1 : Int32) (res : Int32 × MS) (hf : M_tell S x1 = some res) : MC l dC dI E yX11_tell cX11_tell 2 (some .int) rm_tell [.ref h, .int x1] (MW E h r S) (MW E h r res.2) (some (.int res.1)) := by
  refine MC_of (own := "LostLanesModel") (by decide) rfl (Nat.le_of_ble_eq_true rfl) ?_
  intro p e s m args below meth c A Q X hr hlk hA hQ
  have hB10 : ∀ (S : MS) (x1 : Int32) (t1 : Int32), M_tell_B10 S x1 t1 = some res → GG p l e rm_tell s m args below meth c dC dI A 2 0 0 Q (MW E h r S) 10 [(0, .ref h), (1, .int x1)] [.int t1, .ref h] := by
    intro S x1 t1 hf
    unfold M_tell_B10 at hf
    refine m_put_1 X dX11_tell_10 hf (fun S1 hf => ?_)
    refine g_iload_n X dX11_tell_13 1 rfl ?_
    refine g_if_ge (tgt := 28) X dX11_tell_14 (by decide) hf (fun hf => ?_) (fun hf => ?_)
    · refine g_iload_n X dX11_tell_28 1 rfl ?_
      exact m_reti_s hA hQ X hr hlk dX11_tell_29 hf
    refine g_aload_n X dX11_tell_17 0 rfl ?_
    refine m_get_2 X dX11_tell_18 ?_
    refine g_iload_n X dX11_tell_21 1 rfl ?_
    refine g_ineg X dX11_tell_22 ?_
    refine g_dup2 X dX11_tell_23 rfl rfl ?_
    refine m_ald_2 X dX11_tell_24 hf (fun hf => ?_)
    refine g_iconst X dX11_tell_25 kc_1 ?_
    refine g_iadd X dX11_tell_26 ?_
    refine m_ast_2 X dX11_tell_27 hf (fun S2 hf => ?_)
    refine g_iload_n X dX11_tell_28 1 rfl ?_
    exact m_reti_s hA hQ X hr hlk dX11_tell_29 hf
  refine g_lv [0, 1] (lv' := [(0, .ref h), (1, .int x1)]) rfl ?_
  unfold M_tell at hf
  refine g_aload_n X dX11_tell_0 0 rfl ?_
  refine g_iload_n X dX11_tell_1 1 rfl ?_
  refine g_if_ge (tgt := 9) X dX11_tell_2 (by decide) hf (fun hf => ?_) (fun hf => ?_)
  · refine g_iconst X dX11_tell_9 kc_0 ?_
    exact hB10 _ _ _ hf
  refine g_iload_n X dX11_tell_5 1 rfl ?_
  refine g_goto (tgt := 10) X dX11_tell_6 (by decide) ?_
  exact hB10 _ _ _ hf
def rm_change : Room := { frames := 0, cells := 0, slots := 0, locals := 0 }
set_option maxRecDepth 100000 in
set_option maxHeartbeats 4000000 in
theorem c_change (l : Launch) (dC : Nat → ClassId) (dI : Nat → Nat → Nat) (E : Nat → ClassId) (h : Nat) (r : Nat → Nat) (S : MS) (x1 : Int32) (x2 : Int32) (res : Int32 × MS) (hf : M_change S x1 x2 = some res) : MC l dC dI E yX11_change cX11_change 4 (some .int) rm_change [.ref h, .int x1, .int x2] (MW E h r S) (MW E h r res.2) (some (.int res.1)) := by
  refine MC_of (own := "LostLanesModel") (by decide) rfl (Nat.le_of_ble_eq_true rfl) ?_
  intro p e s m args below meth c A Q X hr hlk hA hQ
  refine g_lv [0, 1, 2] (lv' := [(0, .ref h), (1, .int x1), (2, .int x2)]) rfl ?_
  unfold M_change at hf
  refine g_aload_n X dX11_change_0 0 rfl ?_
  refine m_get_3 X dX11_change_1 ?_
  refine g_iload_n X dX11_change_4 1 rfl ?_
  refine m_ald_3 X dX11_change_5 hf (fun hf => ?_)
  refine g_istore_n (i := 3) (lv' := [(3, .int (ma S 3 (x1).toNatClampNeg)), (0, .ref h), (1, .int x1), (2, .int x2)]) X dX11_change_6 rfl (by decide) rfl ?_
  refine g_aload_n X dX11_change_7 1 rfl ?_
  refine m_get_3 X dX11_change_8 ?_
  refine g_iload_n X dX11_change_11 2 rfl ?_
  refine g_iload_n X dX11_change_12 3 rfl ?_
  refine m_ast_3 X dX11_change_13 hf (fun S1 hf => ?_)
  refine g_aload_n X dX11_change_14 1 rfl ?_
  refine g_iconst X dX11_change_15 kc_0 ?_
  refine m_put_1 X dX11_change_16 hf (fun S2 hf => ?_)
  refine g_iload_n X dX11_change_19 0 rfl ?_
  exact m_reti_s hA hQ X hr hlk dX11_change_20 hf
def rm_lasting : Room := { frames := 1, cells := 0, slots := 0, locals := 21 }
set_option maxRecDepth 100000 in
set_option maxHeartbeats 4000000 in
theorem c_lasting (l : Launch) (dC : Nat → ClassId) (dI : Nat → Nat → Nat) (E : Nat → ClassId) (h : Nat) (r : Nat → Nat) (S : MS) (x1 : Int32) (res : Int32 × MS) (hf : M_lasting S x1 = some res) : MC l dC dI E yX11_lasting cX11_lasting 2 (some .int) rm_lasting [.ref h, .int x1] (MW E h r S) (MW E h r res.2) (some (.int res.1)) := by
  refine MC_of (own := "LostLanesModel") (by decide) rfl (Nat.le_of_ble_eq_true rfl) ?_
  intro p e s m args below meth c A Q X hr hlk hA hQ
  have hB13 : ∀ (S : MS) (x1 : Int32) (t1 : Int32), M_lasting_B13 S x1 t1 = some res → GG p l e rm_lasting s m args below meth c dC dI A 2 0 0 Q (MW E h r S) 13 [(0, .ref h), (1, .int x1)] [.int t1, .ref h] := by
    intro S x1 t1 hf
    unfold M_lasting_B13 at hf
    refine m_put_8 X dX11_lasting_13 hf (fun S1 hf => ?_)
    refine g_aload_n X dX11_lasting_16 0 rfl ?_
    refine g_iload_n X dX11_lasting_17 1 rfl ?_
    refine m_bind hf (fun q2 hq2 hf => ?_)
    refine m_callV_i (As := [.int x1]) (st := []) X kV_168 (c_tell l dC dI E h r S1 x1 q2 hq2) ⟨Nat.le_of_ble_eq_true rfl, Nat.le_of_ble_eq_true rfl⟩ ⟨rfl, rfl⟩ (Nat.le_of_ble_eq_true rfl) ⟨Nat.le_of_ble_eq_true rfl, Nat.le_of_ble_eq_true rfl⟩ dX11_lasting_18 ?_
    exact m_reti_s hA hQ X hr hlk dX11_lasting_21 hf
  refine g_lv [0, 1] (lv' := [(0, .ref h), (1, .int x1)]) rfl ?_
  unfold M_lasting at hf
  refine g_aload_n X dX11_lasting_0 0 rfl ?_
  refine g_iload_n X dX11_lasting_1 1 rfl ?_
  refine g_if_ge (tgt := 12) X dX11_lasting_2 (by decide) hf (fun hf => ?_) (fun hf => ?_)
  · refine g_iconst X dX11_lasting_12 kc_0 ?_
    exact hB13 _ _ _ hf
  refine g_aload_n X dX11_lasting_5 0 rfl ?_
  refine m_get_8 X dX11_lasting_6 ?_
  refine g_goto (tgt := 13) X dX11_lasting_9 (by decide) ?_
  exact hB13 _ _ _ hf
def rm_keepAll : Room := { frames := 0, cells := 0, slots := 0, locals := 0 }
set_option maxRecDepth 100000 in
set_option maxHeartbeats 4000000 in
theorem c_keepAll (l : Launch) (dC : Nat → ClassId) (dI : Nat → Nat → Nat) (E : Nat → ClassId) (h : Nat) (r : Nat → Nat) (F : Nat) (S : MS) (x1 : Int32) (res : Unit × MS) (hf : M_keepAll F S x1 = some res) : MC l dC dI E yX11_keepAll cX11_keepAll 3 none rm_keepAll [.ref h, .int x1] (MW E h r S) (MW E h r res.2) none := by
  refine MC_of (own := "LostLanesModel") (by decide) rfl (Nat.le_of_ble_eq_true rfl) ?_
  intro p e s m args below meth c A Q X hr hlk hA hQ
  have hL2 : ∀ (x1 : Int32) (n : Nat) (S : MS) (x2 : Int32), M_keepAll_L2 F x1 n S x2 = some res → GG p l e rm_keepAll s m args below meth c dC dI A 3 0 0 Q (MW E h r S) 2 [(0, .ref h), (1, .int x1), (2, .int x2)] [] := by
    intro x1 n
    induction n with
    | zero => intro S x2 hf; have hf : (none : Option (Unit × MS)) = some res := hf; cases hf
    | succ n ih =>
      intro S x2 hf
      rw [M_keepAll_L2] at hf
      refine g_iload_n X dX11_keepAll_2 2 rfl ?_
      refine g_bipush X dX11_keepAll_3 kb_21 ?_
      refine g_icmp_ge (tgt := 33) X dX11_keepAll_5 (by decide) hf (fun hf => ?_) (fun hf => ?_)
      · exact m_retv_s hA hQ X hr hlk dX11_keepAll_33 hf
      refine g_aload_n X dX11_keepAll_8 0 rfl ?_
      refine m_get_6 X dX11_keepAll_9 ?_
      refine g_bipush X dX11_keepAll_12 kb_21 ?_
      refine g_iload_n X dX11_keepAll_14 1 rfl ?_
      refine g_imul X dX11_keepAll_15 ?_
      refine g_iload_n X dX11_keepAll_16 2 rfl ?_
      refine g_iadd X dX11_keepAll_17 ?_
      refine g_aload_n X dX11_keepAll_18 0 rfl ?_
      refine m_get_3 X dX11_keepAll_19 ?_
      refine g_iconst X dX11_keepAll_22 kc_5 ?_
      refine g_iload_n X dX11_keepAll_23 2 rfl ?_
      refine g_iadd X dX11_keepAll_24 ?_
      refine m_ald_3 X dX11_keepAll_25 hf (fun hf => ?_)
      refine m_ast_6 X dX11_keepAll_26 hf (fun S1 hf => ?_)
      refine g_iinc (lv' := [(2, .int (x2 + (1 : Int32))), (0, .ref h), (1, .int x1)]) X dX11_keepAll_27 2 rfl kc_1 (by decide) rfl ?_
      refine g_goto (tgt := 2) X dX11_keepAll_30 (by decide) ?_
      refine g_lv [1, 2, 0] (lv' := [(0, .ref h), (1, .int x1), (2, .int (x2 + (1 : Int32)))]) rfl ?_
      exact ih _ _ hf
  refine g_lv [0, 1] (lv' := [(0, .ref h), (1, .int x1)]) rfl ?_
  unfold M_keepAll at hf
  refine g_iconst X dX11_keepAll_0 kc_0 ?_
  refine g_istore_n (i := 2) (lv' := [(2, .int (0 : Int32)), (0, .ref h), (1, .int x1)]) X dX11_keepAll_1 rfl (by decide) rfl ?_
  refine g_lv [1, 2, 0] (lv' := [(0, .ref h), (1, .int x1), (2, .int (0 : Int32))]) rfl ?_
  exact hL2 _ _ _ _ hf
def rm_putBack : Room := { frames := 0, cells := 0, slots := 0, locals := 0 }
set_option maxRecDepth 100000 in
set_option maxHeartbeats 4000000 in
theorem c_putBack (l : Launch) (dC : Nat → ClassId) (dI : Nat → Nat → Nat) (E : Nat → ClassId) (h : Nat) (r : Nat → Nat) (F : Nat) (S : MS) (x1 : Int32) (res : Unit × MS) (hf : M_putBack F S x1 = some res) : MC l dC dI E yX11_putBack cX11_putBack 3 none rm_putBack [.ref h, .int x1] (MW E h r S) (MW E h r res.2) none := by
  refine MC_of (own := "LostLanesModel") (by decide) rfl (Nat.le_of_ble_eq_true rfl) ?_
  intro p e s m args below meth c A Q X hr hlk hA hQ
  have hL2 : ∀ (x1 : Int32) (n : Nat) (S : MS) (x2 : Int32), M_putBack_L2 F x1 n S x2 = some res → GG p l e rm_putBack s m args below meth c dC dI A 3 0 0 Q (MW E h r S) 2 [(0, .ref h), (1, .int x1), (2, .int x2)] [] := by
    intro x1 n
    induction n with
    | zero => intro S x2 hf; have hf : (none : Option (Unit × MS)) = some res := hf; cases hf
    | succ n ih =>
      intro S x2 hf
      rw [M_putBack_L2] at hf
      refine g_iload_n X dX11_putBack_2 2 rfl ?_
      refine g_bipush X dX11_putBack_3 kb_21 ?_
      refine g_icmp_ge (tgt := 33) X dX11_putBack_5 (by decide) hf (fun hf => ?_) (fun hf => ?_)
      · exact m_retv_s hA hQ X hr hlk dX11_putBack_33 hf
      refine g_aload_n X dX11_putBack_8 0 rfl ?_
      refine m_get_3 X dX11_putBack_9 ?_
      refine g_iconst X dX11_putBack_12 kc_5 ?_
      refine g_iload_n X dX11_putBack_13 2 rfl ?_
      refine g_iadd X dX11_putBack_14 ?_
      refine g_aload_n X dX11_putBack_15 0 rfl ?_
      refine m_get_6 X dX11_putBack_16 ?_
      refine g_bipush X dX11_putBack_19 kb_21 ?_
      refine g_iload_n X dX11_putBack_21 1 rfl ?_
      refine g_imul X dX11_putBack_22 ?_
      refine g_iload_n X dX11_putBack_23 2 rfl ?_
      refine g_iadd X dX11_putBack_24 ?_
      refine m_ald_6 X dX11_putBack_25 hf (fun hf => ?_)
      refine m_ast_3 X dX11_putBack_26 hf (fun S1 hf => ?_)
      refine g_iinc (lv' := [(2, .int (x2 + (1 : Int32))), (0, .ref h), (1, .int x1)]) X dX11_putBack_27 2 rfl kc_1 (by decide) rfl ?_
      refine g_goto (tgt := 2) X dX11_putBack_30 (by decide) ?_
      refine g_lv [1, 2, 0] (lv' := [(0, .ref h), (1, .int x1), (2, .int (x2 + (1 : Int32)))]) rfl ?_
      exact ih _ _ hf
  refine g_lv [0, 1] (lv' := [(0, .ref h), (1, .int x1)]) rfl ?_
  unfold M_putBack at hf
  refine g_iconst X dX11_putBack_0 kc_0 ?_
  refine g_istore_n (i := 2) (lv' := [(2, .int (0 : Int32)), (0, .ref h), (1, .int x1)]) X dX11_putBack_1 rfl (by decide) rfl ?_
  refine g_lv [1, 2, 0] (lv' := [(0, .ref h), (1, .int x1), (2, .int (0 : Int32))]) rfl ?_
  exact hL2 _ _ _ _ hf
def rm_remember : Room := { frames := 1, cells := 0, slots := 0, locals := 22 }
set_option maxRecDepth 100000 in
set_option maxHeartbeats 4000000 in
theorem c_remember (l : Launch) (dC : Nat → ClassId) (dI : Nat → Nat → Nat) (E : Nat → ClassId) (h : Nat) (r : Nat → Nat) (F : Nat) (S : MS) (x1 : Int32) (res : Unit × MS) (hf : M_remember F S x1 = some res) : MC l dC dI E yX11_remember cX11_remember 3 none rm_remember [.ref h, .int x1] (MW E h r S) (MW E h r res.2) none := by
  refine MC_of (own := "LostLanesModel") (by decide) rfl (Nat.le_of_ble_eq_true rfl) ?_
  intro p e s m args below meth c A Q X hr hlk hA hQ
  have hB77 : ∀ (S : MS) (x1 : Int32), M_remember_B77 F S x1 = some res → GG p l e rm_remember s m args below meth c dC dI A 3 0 0 Q (MW E h r S) 77 [(0, .ref h), (1, .int x1)] [] := by
    intro S x1 hf
    unfold M_remember_B77 at hf
    refine g_aload_n X dX11_remember_77 0 rfl ?_
    refine g_aload_n X dX11_remember_78 0 rfl ?_
    refine m_get_8 X dX11_remember_79 ?_
    refine m_bind hf (fun q1 hq1 hf => ?_)
    refine m_callV_v (As := [.int (mi S 8)]) (st := []) X kV_172 (c_keepAll l dC dI E h r F S (mi S 8) q1 hq1) ⟨Nat.le_of_ble_eq_true rfl, Nat.le_of_ble_eq_true rfl⟩ ⟨rfl, rfl⟩ (Nat.le_of_ble_eq_true rfl) ⟨Nat.le_of_ble_eq_true rfl, Nat.le_of_ble_eq_true rfl⟩ dX11_remember_82 ?_
    refine g_aload_n X dX11_remember_85 0 rfl ?_
    refine m_get_7 X dX11_remember_86 ?_
    refine g_aload_n X dX11_remember_89 0 rfl ?_
    refine m_get_8 X dX11_remember_90 ?_
    refine g_iload_n X dX11_remember_93 1 rfl ?_
    refine m_ast_7 X dX11_remember_94 hf (fun S2 hf => ?_)
    refine g_aload_n X dX11_remember_95 0 rfl ?_
    refine g_dup X dX11_remember_96 rfl ?_
    refine m_get_8 X dX11_remember_97 ?_
    refine g_iconst X dX11_remember_100 kc_1 ?_
    refine g_iadd X dX11_remember_101 ?_
    refine m_put_8 X dX11_remember_102 hf (fun S3 hf => ?_)
    exact m_retv_s hA hQ X hr hlk dX11_remember_105 hf
  have hL41 : ∀ (x1 : Int32) (n : Nat) (S : MS) (x2 : Int32), M_remember_L41 F x1 n S x2 = some res → GG p l e rm_remember s m args below meth c dC dI A 3 0 0 Q (MW E h r S) 41 [(0, .ref h), (1, .int x1), (2, .int x2)] [] := by
    intro x1 n
    induction n with
    | zero => intro S x2 hf; have hf : (none : Option (Unit × MS)) = some res := hf; cases hf
    | succ n ih =>
      intro S x2 hf
      rw [M_remember_L41] at hf
      refine g_iload_n X dX11_remember_41 2 rfl ?_
      refine g_bipush X dX11_remember_42 kb_15 ?_
      refine g_icmp_ge (tgt := 67) X dX11_remember_44 (by decide) hf (fun hf => ?_) (fun hf => ?_)
      · refine g_aload_n X dX11_remember_67 0 rfl ?_
        refine g_dup X dX11_remember_68 rfl ?_
        refine m_get_8 X dX11_remember_69 ?_
        refine g_iconst X dX11_remember_72 kc_1 ?_
        refine g_isub X dX11_remember_73 ?_
        refine m_put_8 X dX11_remember_74 hf (fun S4 hf => ?_)
        refine g_lv [0, 1] (lv' := [(0, .ref h), (1, .int x1)]) rfl ?_
        exact hB77 _ _ hf
      refine g_aload_n X dX11_remember_47 0 rfl ?_
      refine m_get_7 X dX11_remember_48 ?_
      refine g_iload_n X dX11_remember_51 2 rfl ?_
      refine g_aload_n X dX11_remember_52 0 rfl ?_
      refine m_get_7 X dX11_remember_53 ?_
      refine g_iload_n X dX11_remember_56 2 rfl ?_
      refine g_iconst X dX11_remember_57 kc_1 ?_
      refine g_iadd X dX11_remember_58 ?_
      refine m_ald_7 X dX11_remember_59 hf (fun hf => ?_)
      refine m_ast_7 X dX11_remember_60 hf (fun S5 hf => ?_)
      refine g_iinc (lv' := [(2, .int (x2 + (1 : Int32))), (0, .ref h), (1, .int x1)]) X dX11_remember_61 2 rfl kc_1 (by decide) rfl ?_
      refine g_goto (tgt := 41) X dX11_remember_64 (by decide) ?_
      refine g_lv [1, 2, 0] (lv' := [(0, .ref h), (1, .int x1), (2, .int (x2 + (1 : Int32)))]) rfl ?_
      exact ih _ _ hf
  have hL11 : ∀ (x1 : Int32) (n : Nat) (S : MS) (x2 : Int32), M_remember_L11 F x1 n S x2 = some res → GG p l e rm_remember s m args below meth c dC dI A 3 0 0 Q (MW E h r S) 11 [(0, .ref h), (1, .int x1), (2, .int x2)] [] := by
    intro x1 n
    induction n with
    | zero => intro S x2 hf; have hf : (none : Option (Unit × MS)) = some res := hf; cases hf
    | succ n ih =>
      intro S x2 hf
      rw [M_remember_L11] at hf
      refine g_iload_n X dX11_remember_11 2 rfl ?_
      refine g_sipush X dX11_remember_12 ks_315 ?_
      refine g_icmp_ge (tgt := 39) X dX11_remember_15 (by decide) hf (fun hf => ?_) (fun hf => ?_)
      · refine g_iconst X dX11_remember_39 kc_0 ?_
        refine g_istore_n (i := 2) (lv' := [(2, .int (0 : Int32)), (0, .ref h), (1, .int x1)]) X dX11_remember_40 rfl (by decide) rfl ?_
        refine g_lv [1, 2, 0] (lv' := [(0, .ref h), (1, .int x1), (2, .int (0 : Int32))]) rfl ?_
        exact hL41 _ _ _ _ hf
      refine g_aload_n X dX11_remember_18 0 rfl ?_
      refine m_get_6 X dX11_remember_19 ?_
      refine g_iload_n X dX11_remember_22 2 rfl ?_
      refine g_aload_n X dX11_remember_23 0 rfl ?_
      refine m_get_6 X dX11_remember_24 ?_
      refine g_iload_n X dX11_remember_27 2 rfl ?_
      refine g_bipush X dX11_remember_28 kb_21 ?_
      refine g_iadd X dX11_remember_30 ?_
      refine m_ald_6 X dX11_remember_31 hf (fun hf => ?_)
      refine m_ast_6 X dX11_remember_32 hf (fun S6 hf => ?_)
      refine g_iinc (lv' := [(2, .int (x2 + (1 : Int32))), (0, .ref h), (1, .int x1)]) X dX11_remember_33 2 rfl kc_1 (by decide) rfl ?_
      refine g_goto (tgt := 11) X dX11_remember_36 (by decide) ?_
      refine g_lv [1, 2, 0] (lv' := [(0, .ref h), (1, .int x1), (2, .int (x2 + (1 : Int32)))]) rfl ?_
      exact ih _ _ hf
  refine g_lv [0, 1] (lv' := [(0, .ref h), (1, .int x1)]) rfl ?_
  unfold M_remember at hf
  refine g_aload_n X dX11_remember_0 0 rfl ?_
  refine m_get_8 X dX11_remember_1 ?_
  refine g_bipush X dX11_remember_4 kb_16 ?_
  refine g_icmp_ne (tgt := 77) X dX11_remember_6 (by decide) hf (fun hf => ?_) (fun hf => ?_)
  · exact hB77 _ _ hf
  refine g_iconst X dX11_remember_9 kc_0 ?_
  refine g_istore_n (i := 2) (lv' := [(2, .int (0 : Int32)), (0, .ref h), (1, .int x1)]) X dX11_remember_10 rfl (by decide) rfl ?_
  refine g_lv [1, 2, 0] (lv' := [(0, .ref h), (1, .int x1), (2, .int (0 : Int32))]) rfl ?_
  exact hL11 _ _ _ _ hf
def rm_undo : Room := { frames := 1, cells := 0, slots := 0, locals := 22 }
set_option maxRecDepth 100000 in
set_option maxHeartbeats 4000000 in
theorem c_undo (l : Launch) (dC : Nat → ClassId) (dI : Nat → Nat → Nat) (E : Nat → ClassId) (h : Nat) (r : Nat → Nat) (F : Nat) (S : MS)  (res : Int32 × MS) (hf : M_undo F S = some res) : MC l dC dI E yX11_undo cX11_undo 1 (some .int) rm_undo [.ref h] (MW E h r S) (MW E h r res.2) (some (.int res.1)) := by
  refine MC_of (own := "LostLanesModel") (by decide) rfl (Nat.le_of_ble_eq_true rfl) ?_
  intro p e s m args below meth c A Q X hr hlk hA hQ
  refine g_lv [0] (lv' := [(0, .ref h)]) rfl ?_
  unfold M_undo at hf
  refine g_aload_n X dX11_undo_0 0 rfl ?_
  refine g_iconst X dX11_undo_1 kc_0 ?_
  refine m_put_0 X dX11_undo_2 hf (fun S1 hf => ?_)
  refine g_aload_n X dX11_undo_5 0 rfl ?_
  refine m_get_8 X dX11_undo_6 ?_
  refine g_if_ne (tgt := 19) X dX11_undo_9 (by decide) hf (fun hf => ?_) (fun hf => ?_)
  · refine g_aload_n X dX11_undo_19 0 rfl ?_
    refine g_dup X dX11_undo_20 rfl ?_
    refine m_get_8 X dX11_undo_21 ?_
    refine g_iconst X dX11_undo_24 kc_1 ?_
    refine g_isub X dX11_undo_25 ?_
    refine m_put_8 X dX11_undo_26 hf (fun S2 hf => ?_)
    refine g_aload_n X dX11_undo_29 0 rfl ?_
    refine g_aload_n X dX11_undo_30 0 rfl ?_
    refine m_get_8 X dX11_undo_31 ?_
    refine m_bind hf (fun q3 hq3 hf => ?_)
    refine m_callV_v (As := [.int (mi S2 8)]) (st := []) X kV_176 (c_putBack l dC dI E h r F S2 (mi S2 8) q3 hq3) ⟨Nat.le_of_ble_eq_true rfl, Nat.le_of_ble_eq_true rfl⟩ ⟨rfl, rfl⟩ (Nat.le_of_ble_eq_true rfl) ⟨Nat.le_of_ble_eq_true rfl, Nat.le_of_ble_eq_true rfl⟩ dX11_undo_34 ?_
    refine g_aload_n X dX11_undo_37 0 rfl ?_
    refine g_aload_n X dX11_undo_38 0 rfl ?_
    refine m_get_7 X dX11_undo_39 ?_
    refine g_aload_n X dX11_undo_42 0 rfl ?_
    refine m_get_8 X dX11_undo_43 ?_
    refine m_ald_7 X dX11_undo_46 hf (fun hf => ?_)
    refine m_bind hf (fun q4 hq4 hf => ?_)
    refine m_callV_i (As := [.int (ma q3.2 7 ((mi q3.2 8)).toNatClampNeg)]) (st := []) X kV_168 (c_tell l dC dI E h r q3.2 (ma q3.2 7 ((mi q3.2 8)).toNatClampNeg) q4 hq4) ⟨Nat.le_of_ble_eq_true rfl, Nat.le_of_ble_eq_true rfl⟩ ⟨rfl, rfl⟩ (Nat.le_of_ble_eq_true rfl) ⟨Nat.le_of_ble_eq_true rfl, Nat.le_of_ble_eq_true rfl⟩ dX11_undo_47 ?_
    exact m_reti_s hA hQ X hr hlk dX11_undo_50 hf
  refine g_aload_n X dX11_undo_12 0 rfl ?_
  refine g_bipush X dX11_undo_13 kb_m3 ?_
  refine m_bind hf (fun q5 hq5 hf => ?_)
  refine m_callV_i (As := [.int (-3 : Int32)]) (st := []) X kV_168 (c_tell l dC dI E h r S1 (-3 : Int32) q5 hq5) ⟨Nat.le_of_ble_eq_true rfl, Nat.le_of_ble_eq_true rfl⟩ ⟨rfl, rfl⟩ (Nat.le_of_ble_eq_true rfl) ⟨Nat.le_of_ble_eq_true rfl, Nat.le_of_ble_eq_true rfl⟩ dX11_undo_15 ?_
  exact m_reti_s hA hQ X hr hlk dX11_undo_18 hf
def rm_image : Room := { frames := 1, cells := 0, slots := 0, locals := 25 }
set_option maxRecDepth 100000 in
set_option maxHeartbeats 4000000 in
theorem c_image (l : Launch) (dC : Nat → ClassId) (dI : Nat → Nat → Nat) (E : Nat → ClassId) (h : Nat) (r : Nat → Nat) (F : Nat) (S : MS) (x1 : Int32) (res : Int32 × MS) (hf : M_image F S x1 = some res) : MC l dC dI E yX11_image cX11_image 3 (some .int) rm_image [.ref h, .int x1] (MW E h r S) (MW E h r res.2) (some (.int res.1)) := by
  refine MC_of (own := "LostLanesModel") (by decide) rfl (Nat.le_of_ble_eq_true rfl) ?_
  intro p e s m args below meth c A Q X hr hlk hA hQ
  have hL23 : ∀ (x1 : Int32) (n : Nat) (S : MS) (x2 : Int32), M_image_L23 F x1 n S x2 = some res → GG p l e rm_image s m args below meth c dC dI A 3 0 0 Q (MW E h r S) 23 [(0, .ref h), (1, .int x1), (2, .int x2)] [] := by
    intro x1 n
    induction n with
    | zero => intro S x2 hf; have hf : (none : Option (Int32 × MS)) = some res := hf; cases hf
    | succ n ih =>
      intro S x2 hf
      rw [M_image_L23] at hf
      refine g_iload_n X dX11_image_23 2 rfl ?_
      refine g_sipush X dX11_image_24 ks_5476 ?_
      refine g_icmp_ge (tgt := 54) X dX11_image_27 (by decide) hf (fun hf => ?_) (fun hf => ?_)
      · refine g_aload_n X dX11_image_54 0 rfl ?_
        refine m_get_5 X dX11_image_55 ?_
        refine g_iload_n X dX11_image_58 1 rfl ?_
        refine g_iconst X dX11_image_59 kc_1 ?_
        refine m_ast_5 X (Or.inr rfl) dX11_image_60 hf (fun S1 hf => ?_)
        refine g_aload_n X dX11_image_61 0 rfl ?_
        refine g_iconst X dX11_image_62 kc_0 ?_
        refine m_bind hf (fun q2 hq2 hf => ?_)
        refine m_callV_i (As := [.int (0 : Int32)]) (st := []) X kV_168 (c_tell l dC dI E h r S1 (0 : Int32) q2 hq2) ⟨Nat.le_of_ble_eq_true rfl, Nat.le_of_ble_eq_true rfl⟩ ⟨rfl, rfl⟩ (Nat.le_of_ble_eq_true rfl) ⟨Nat.le_of_ble_eq_true rfl, Nat.le_of_ble_eq_true rfl⟩ dX11_image_63 ?_
        exact m_reti_s hA hQ X hr hlk dX11_image_66 hf
      refine g_aload_n X dX11_image_30 0 rfl ?_
      refine m_get_4 X dX11_image_31 ?_
      refine g_sipush X dX11_image_34 ks_5476 ?_
      refine g_iload_n X dX11_image_37 1 rfl ?_
      refine g_imul X dX11_image_38 ?_
      refine g_iload_n X dX11_image_39 2 rfl ?_
      refine g_iadd X dX11_image_40 ?_
      refine g_aload_n X dX11_image_41 0 rfl ?_
      refine m_get_3 X dX11_image_42 ?_
      refine g_iload_n X dX11_image_45 2 rfl ?_
      refine m_ald_3 X dX11_image_46 hf (fun hf => ?_)
      refine m_ast_4 X dX11_image_47 hf (fun S3 hf => ?_)
      refine g_iinc (lv' := [(2, .int (x2 + (1 : Int32))), (0, .ref h), (1, .int x1)]) X dX11_image_48 2 rfl kc_1 (by decide) rfl ?_
      refine g_goto (tgt := 23) X dX11_image_51 (by decide) ?_
      refine g_lv [1, 2, 0] (lv' := [(0, .ref h), (1, .int x1), (2, .int (x2 + (1 : Int32)))]) rfl ?_
      exact ih _ _ hf
  refine g_lv [0, 1] (lv' := [(0, .ref h), (1, .int x1)]) rfl ?_
  unfold M_image at hf
  refine g_aload_n X dX11_image_0 0 rfl ?_
  refine g_iconst X dX11_image_1 kc_0 ?_
  refine m_put_0 X dX11_image_2 hf (fun S4 hf => ?_)
  refine g_iload_n X dX11_image_5 1 rfl ?_
  refine g_i2l X dX11_image_6 ?_
  refine g_lconst X dX11_image_7 kl_0 ?_
  refine g_lconst X dX11_image_8 kl_1 ?_
  refine m_bind hf (fun q5 hq5 hf => ?_)
  refine m_callS_i (As := [.long (x1).toInt64, .long (0 : Int64), .long (1 : Int64)]) (st := []) X kS_179 (c_in l dC dI E h r S4 (x1).toInt64 (0 : Int64) (1 : Int64) q5 hq5) ⟨Nat.le_of_ble_eq_true rfl, Nat.le_of_ble_eq_true rfl⟩ ⟨rfl, rfl⟩ (Nat.le_of_ble_eq_true rfl) ⟨Nat.le_of_ble_eq_true rfl, Nat.le_of_ble_eq_true rfl⟩ dX11_image_9 ?_
  refine g_if_ne (tgt := 21) X dX11_image_12 (by decide) hf (fun hf => ?_) (fun hf => ?_)
  · refine g_iconst X dX11_image_21 kc_0 ?_
    refine g_istore_n (i := 2) (lv' := [(2, .int (0 : Int32)), (0, .ref h), (1, .int x1)]) X dX11_image_22 rfl (by decide) rfl ?_
    refine g_lv [1, 2, 0] (lv' := [(0, .ref h), (1, .int x1), (2, .int (0 : Int32))]) rfl ?_
    exact hL23 _ _ _ _ hf
  refine g_aload_n X dX11_image_15 0 rfl ?_
  refine g_iconst X dX11_image_16 kc_m1 ?_
  refine m_bind hf (fun q6 hq6 hf => ?_)
  refine m_callV_i (As := [.int (-1 : Int32)]) (st := []) X kV_168 (c_tell l dC dI E h r S4 (-1 : Int32) q6 hq6) ⟨Nat.le_of_ble_eq_true rfl, Nat.le_of_ble_eq_true rfl⟩ ⟨rfl, rfl⟩ (Nat.le_of_ble_eq_true rfl) ⟨Nat.le_of_ble_eq_true rfl, Nat.le_of_ble_eq_true rfl⟩ dX11_image_17 ?_
  exact m_reti_s hA hQ X hr hlk dX11_image_20 hf
def rm_back : Room := { frames := 2, cells := 0, slots := 0, locals := 42 }
set_option maxRecDepth 100000 in
set_option maxHeartbeats 4000000 in
theorem c_back (l : Launch) (dC : Nat → ClassId) (dI : Nat → Nat → Nat) (E : Nat → ClassId) (h : Nat) (r : Nat → Nat) (F : Nat) (S : MS) (x1 : Int32) (res : Int32 × MS) (hf : M_back F S x1 = some res) : MC l dC dI E yX11_back cX11_back 3 (some .int) rm_back [.ref h, .int x1] (MW E h r S) (MW E h r res.2) (some (.int res.1)) := by
  refine MC_of (own := "LostLanesModel") (by decide) rfl (Nat.le_of_ble_eq_true rfl) ?_
  intro p e s m args below meth c A Q X hr hlk hA hQ
  have hL39 : ∀ (x1 : Int32) (n : Nat) (S : MS) (x2 : Int32), M_back_L39 F x1 n S x2 = some res → GG p l e rm_back s m args below meth c dC dI A 3 0 0 Q (MW E h r S) 39 [(0, .ref h), (1, .int x1), (2, .int x2)] [] := by
    intro x1 n
    induction n with
    | zero => intro S x2 hf; have hf : (none : Option (Int32 × MS)) = some res := hf; cases hf
    | succ n ih =>
      intro S x2 hf
      rw [M_back_L39] at hf
      refine g_iload_n X dX11_back_39 2 rfl ?_
      refine g_sipush X dX11_back_40 ks_5476 ?_
      refine g_icmp_ge (tgt := 70) X dX11_back_43 (by decide) hf (fun hf => ?_) (fun hf => ?_)
      · refine g_aload_n X dX11_back_70 0 rfl ?_
        refine g_iconst X dX11_back_71 kc_0 ?_
        refine m_bind hf (fun q1 hq1 hf => ?_)
        refine m_callV_i (As := [.int (0 : Int32)]) (st := []) X kV_183 (c_lasting l dC dI E h r S (0 : Int32) q1 hq1) ⟨Nat.le_of_ble_eq_true rfl, Nat.le_of_ble_eq_true rfl⟩ ⟨rfl, rfl⟩ (Nat.le_of_ble_eq_true rfl) ⟨Nat.le_of_ble_eq_true rfl, Nat.le_of_ble_eq_true rfl⟩ dX11_back_72 ?_
        exact m_reti_s hA hQ X hr hlk dX11_back_75 hf
      refine g_aload_n X dX11_back_46 0 rfl ?_
      refine m_get_3 X dX11_back_47 ?_
      refine g_iload_n X dX11_back_50 2 rfl ?_
      refine g_aload_n X dX11_back_51 0 rfl ?_
      refine m_get_4 X dX11_back_52 ?_
      refine g_sipush X dX11_back_55 ks_5476 ?_
      refine g_iload_n X dX11_back_58 1 rfl ?_
      refine g_imul X dX11_back_59 ?_
      refine g_iload_n X dX11_back_60 2 rfl ?_
      refine g_iadd X dX11_back_61 ?_
      refine m_ald_4 X dX11_back_62 hf (fun hf => ?_)
      refine m_ast_3 X dX11_back_63 hf (fun S2 hf => ?_)
      refine g_iinc (lv' := [(2, .int (x2 + (1 : Int32))), (0, .ref h), (1, .int x1)]) X dX11_back_64 2 rfl kc_1 (by decide) rfl ?_
      refine g_goto (tgt := 39) X dX11_back_67 (by decide) ?_
      refine g_lv [1, 2, 0] (lv' := [(0, .ref h), (1, .int x1), (2, .int (x2 + (1 : Int32)))]) rfl ?_
      exact ih _ _ hf
  refine g_lv [0, 1] (lv' := [(0, .ref h), (1, .int x1)]) rfl ?_
  unfold M_back at hf
  refine g_aload_n X dX11_back_0 0 rfl ?_
  refine g_iconst X dX11_back_1 kc_0 ?_
  refine m_put_0 X dX11_back_2 hf (fun S3 hf => ?_)
  refine g_iload_n X dX11_back_5 1 rfl ?_
  refine g_i2l X dX11_back_6 ?_
  refine g_lconst X dX11_back_7 kl_0 ?_
  refine g_lconst X dX11_back_8 kl_1 ?_
  refine m_bind hf (fun q4 hq4 hf => ?_)
  refine m_callS_i (As := [.long (x1).toInt64, .long (0 : Int64), .long (1 : Int64)]) (st := []) X kS_179 (c_in l dC dI E h r S3 (x1).toInt64 (0 : Int64) (1 : Int64) q4 hq4) ⟨Nat.le_of_ble_eq_true rfl, Nat.le_of_ble_eq_true rfl⟩ ⟨rfl, rfl⟩ (Nat.le_of_ble_eq_true rfl) ⟨Nat.le_of_ble_eq_true rfl, Nat.le_of_ble_eq_true rfl⟩ dX11_back_9 ?_
  refine g_if_ne (tgt := 21) X dX11_back_12 (by decide) hf (fun hf => ?_) (fun hf => ?_)
  · refine g_aload_n X dX11_back_21 0 rfl ?_
    refine m_get_5 X dX11_back_22 ?_
    refine g_iload_n X dX11_back_25 1 rfl ?_
    refine m_ald_5 X dX11_back_26 hf (fun hf => ?_)
    refine g_if_ne (tgt := 37) X dX11_back_27 (by decide) hf (fun hf => ?_) (fun hf => ?_)
    · refine g_iconst X dX11_back_37 kc_0 ?_
      refine g_istore_n (i := 2) (lv' := [(2, .int (0 : Int32)), (0, .ref h), (1, .int x1)]) X dX11_back_38 rfl (by decide) rfl ?_
      refine g_lv [1, 2, 0] (lv' := [(0, .ref h), (1, .int x1), (2, .int (0 : Int32))]) rfl ?_
      exact hL39 _ _ _ _ hf
    refine g_aload_n X dX11_back_30 0 rfl ?_
    refine g_bipush X dX11_back_31 kb_m2 ?_
    refine m_bind hf (fun q5 hq5 hf => ?_)
    refine m_callV_i (As := [.int (-2 : Int32)]) (st := []) X kV_168 (c_tell l dC dI E h r S3 (-2 : Int32) q5 hq5) ⟨Nat.le_of_ble_eq_true rfl, Nat.le_of_ble_eq_true rfl⟩ ⟨rfl, rfl⟩ (Nat.le_of_ble_eq_true rfl) ⟨Nat.le_of_ble_eq_true rfl, Nat.le_of_ble_eq_true rfl⟩ dX11_back_33 ?_
    exact m_reti_s hA hQ X hr hlk dX11_back_36 hf
  refine g_aload_n X dX11_back_15 0 rfl ?_
  refine g_iconst X dX11_back_16 kc_m1 ?_
  refine m_bind hf (fun q6 hq6 hf => ?_)
  refine m_callV_i (As := [.int (-1 : Int32)]) (st := []) X kV_168 (c_tell l dC dI E h r S3 (-1 : Int32) q6 hq6) ⟨Nat.le_of_ble_eq_true rfl, Nat.le_of_ble_eq_true rfl⟩ ⟨rfl, rfl⟩ (Nat.le_of_ble_eq_true rfl) ⟨Nat.le_of_ble_eq_true rfl, Nat.le_of_ble_eq_true rfl⟩ dX11_back_17 ?_
  exact m_reti_s hA hQ X hr hlk dX11_back_20 hf
def rm_isLane : Room := { frames := 1, cells := 0, slots := 0, locals := 25 }
set_option maxRecDepth 100000 in
set_option maxHeartbeats 4000000 in
theorem c_isLane (l : Launch) (dC : Nat → ClassId) (dI : Nat → Nat → Nat) (E : Nat → ClassId) (h : Nat) (r : Nat → Nat) (S : MS) (x1 : Int32) (res : Int32) (hf : M_isLane S x1 = some res) : MC l dC dI E yX11_isLane cX11_isLane 2 (some .boolean) rm_isLane [.ref h, .int x1] (MW E h r S) (MW E h r S) (some (.int res)) := by
  refine MC_of (own := "LostLanesModel") (by decide) rfl (Nat.le_of_ble_eq_true rfl) ?_
  intro p e s m args below meth c A Q X hr hlk hA hQ
  refine g_lv [0, 1] (lv' := [(0, .ref h), (1, .int x1)]) rfl ?_
  unfold M_isLane at hf
  refine g_iload_n X dX11_isLane_0 1 rfl ?_
  refine g_i2l X dX11_isLane_1 ?_
  refine g_lconst X dX11_isLane_2 kl_0 ?_
  refine g_aload_n X dX11_isLane_3 0 rfl ?_
  refine m_get_3 X dX11_isLane_4 ?_
  refine g_iconst X dX11_isLane_7 kc_0 ?_
  refine m_aldc_3 X kt_0 kx_0_5476 dX11_isLane_8 ?_
  refine g_i2l X dX11_isLane_9 ?_
  refine g_lconst X dX11_isLane_10 kl_1 ?_
  refine g_lsub X dX11_isLane_11 ?_
  refine m_bind hf (fun q1 hq1 hf => ?_)
  refine m_callS_i (As := [.long (x1).toInt64, .long (0 : Int64), .long ((ma S 3 0).toInt64 - (1 : Int64))]) (st := []) X kS_179 (c_in l dC dI E h r S (x1).toInt64 (0 : Int64) ((ma S 3 0).toInt64 - (1 : Int64)) q1 hq1) ⟨Nat.le_of_ble_eq_true rfl, Nat.le_of_ble_eq_true rfl⟩ ⟨rfl, rfl⟩ (Nat.le_of_ble_eq_true rfl) ⟨Nat.le_of_ble_eq_true rfl, Nat.le_of_ble_eq_true rfl⟩ dX11_isLane_12 ?_
  obtain ⟨hz15, hf⟩ := chk_some hf
  exact m_retz_o hA hQ X hr hlk hz15 dX11_isLane_15 hf
def rm_isChild : Room := { frames := 1, cells := 0, slots := 0, locals := 25 }
set_option maxRecDepth 100000 in
set_option maxHeartbeats 4000000 in
theorem c_isChild (l : Launch) (dC : Nat → ClassId) (dI : Nat → Nat → Nat) (E : Nat → ClassId) (h : Nat) (r : Nat → Nat) (S : MS) (x1 : Int32) (res : Int32) (hf : M_isChild S x1 = some res) : MC l dC dI E yX11_isChild cX11_isChild 2 (some .boolean) rm_isChild [.ref h, .int x1] (MW E h r S) (MW E h r S) (some (.int res)) := by
  refine MC_of (own := "LostLanesModel") (by decide) rfl (Nat.le_of_ble_eq_true rfl) ?_
  intro p e s m args below meth c A Q X hr hlk hA hQ
  refine g_lv [0, 1] (lv' := [(0, .ref h), (1, .int x1)]) rfl ?_
  unfold M_isChild at hf
  refine g_iload_n X dX11_isChild_0 1 rfl ?_
  refine g_i2l X dX11_isChild_1 ?_
  refine g_lconst X dX11_isChild_2 kl_0 ?_
  refine g_aload_n X dX11_isChild_3 0 rfl ?_
  refine m_get_3 X dX11_isChild_4 ?_
  refine g_iconst X dX11_isChild_7 kc_1 ?_
  refine m_aldc_3 X kt_1 kx_1_5476 dX11_isChild_8 ?_
  refine g_i2l X dX11_isChild_9 ?_
  refine g_lconst X dX11_isChild_10 kl_1 ?_
  refine g_lsub X dX11_isChild_11 ?_
  refine m_bind hf (fun q1 hq1 hf => ?_)
  refine m_callS_i (As := [.long (x1).toInt64, .long (0 : Int64), .long ((ma S 3 1).toInt64 - (1 : Int64))]) (st := []) X kS_179 (c_in l dC dI E h r S (x1).toInt64 (0 : Int64) ((ma S 3 1).toInt64 - (1 : Int64)) q1 hq1) ⟨Nat.le_of_ble_eq_true rfl, Nat.le_of_ble_eq_true rfl⟩ ⟨rfl, rfl⟩ (Nat.le_of_ble_eq_true rfl) ⟨Nat.le_of_ble_eq_true rfl, Nat.le_of_ble_eq_true rfl⟩ dX11_isChild_12 ?_
  obtain ⟨hz15, hf⟩ := chk_some hf
  exact m_retz_o hA hQ X hr hlk hz15 dX11_isChild_15 hf
def rm_isCorner : Room := { frames := 1, cells := 0, slots := 0, locals := 25 }
set_option maxRecDepth 100000 in
set_option maxHeartbeats 4000000 in
theorem c_isCorner (l : Launch) (dC : Nat → ClassId) (dI : Nat → Nat → Nat) (E : Nat → ClassId) (h : Nat) (r : Nat → Nat) (S : MS) (x0 : Int32) (res : Int32) (hf : M_isCorner x0 = some res) : MC l dC dI E yX11_isCorner cX11_isCorner 1 (some .boolean) rm_isCorner [.int x0] (MW E h r S) (MW E h r S) (some (.int res)) := by
  refine MC_of (own := "LostLanesModel") (by decide) rfl (Nat.le_of_ble_eq_true rfl) ?_
  intro p e s m args below meth c A Q X hr hlk hA hQ
  refine g_lv [0] (lv' := [(0, .int x0)]) rfl ?_
  unfold M_isCorner at hf
  refine g_iload_n X dX11_isCorner_0 0 rfl ?_
  refine g_i2l X dX11_isCorner_1 ?_
  refine g_lconst X dX11_isCorner_2 kl_0 ?_
  refine g_ldc2 X dX11_isCorner_3 wd6_120 ?_
  refine m_bind hf (fun q1 hq1 hf => ?_)
  refine m_callS_i (As := [.long (x0).toInt64, .long (0 : Int64), .long (7 : Int64)]) (st := []) X kS_179 (c_in l dC dI E h r S (x0).toInt64 (0 : Int64) (7 : Int64) q1 hq1) ⟨Nat.le_of_ble_eq_true rfl, Nat.le_of_ble_eq_true rfl⟩ ⟨rfl, rfl⟩ (Nat.le_of_ble_eq_true rfl) ⟨Nat.le_of_ble_eq_true rfl, Nat.le_of_ble_eq_true rfl⟩ dX11_isCorner_6 ?_
  obtain ⟨hz9, hf⟩ := chk_some hf
  exact m_retz_o hA hQ X hr hlk hz9 dX11_isCorner_9 hf
def rm_ends : Room := { frames := 0, cells := 0, slots := 0, locals := 0 }
set_option maxRecDepth 100000 in
set_option maxHeartbeats 4000000 in
theorem c_ends (l : Launch) (dC : Nat → ClassId) (dI : Nat → Nat → Nat) (E : Nat → ClassId) (h : Nat) (r : Nat → Nat) (S : MS) (x1 : Int32) (x2 : Int32) (res : Int32) (hf : M_ends S x1 x2 = some res) : MC l dC dI E yX11_ends cX11_ends 3 (some .boolean) rm_ends [.ref h, .int x1, .int x2] (MW E h r S) (MW E h r S) (some (.int res)) := by
  refine MC_of (own := "LostLanesModel") (by decide) rfl (Nat.le_of_ble_eq_true rfl) ?_
  intro p e s m args below meth c A Q X hr hlk hA hQ
  have hB26 : M_ends_B26 S  = some res → GG p l e rm_ends s m args below meth c dC dI A 3 0 0 Q (MW E h r S) 26 [] [] := by
    intro  hf
    unfold M_ends_B26 at hf
    refine g_iconst X dX11_ends_26 kc_1 ?_
    refine g_goto (tgt := 31) X dX11_ends_27 (by decide) ?_
    exact m_retz_o hA hQ X hr hlk (Or.inr rfl) dX11_ends_31 hf
  refine g_lv [0, 1, 2] (lv' := [(0, .ref h), (1, .int x1), (2, .int x2)]) rfl ?_
  unfold M_ends at hf
  refine g_aload_n X dX11_ends_0 0 rfl ?_
  refine m_get_3 X dX11_ends_1 ?_
  refine g_bipush X dX11_ends_4 kb_26 ?_
  refine g_iload_n X dX11_ends_6 1 rfl ?_
  refine g_iadd X dX11_ends_7 ?_
  refine m_ald_3 X dX11_ends_8 hf (fun hf => ?_)
  refine g_iload_n X dX11_ends_9 2 rfl ?_
  refine g_icmp_eq (tgt := 26) X dX11_ends_10 (by decide) hf (fun hf => ?_) (fun hf => ?_)
  · refine g_lv [] (lv' := []) rfl ?_
    exact hB26  hf
  refine g_aload_n X dX11_ends_13 0 rfl ?_
  refine m_get_3 X dX11_ends_14 ?_
  refine g_bipush X dX11_ends_17 kb_36 ?_
  refine g_iload_n X dX11_ends_19 1 rfl ?_
  refine g_iadd X dX11_ends_20 ?_
  refine m_ald_3 X dX11_ends_21 hf (fun hf => ?_)
  refine g_iload_n X dX11_ends_22 2 rfl ?_
  refine g_icmp_ne (tgt := 30) X dX11_ends_23 (by decide) hf (fun hf => ?_) (fun hf => ?_)
  · refine g_iconst X dX11_ends_30 kc_0 ?_
    exact m_retz_o hA hQ X hr hlk (Or.inl rfl) dX11_ends_31 hf
  refine g_lv [] (lv' := []) rfl ?_
  exact hB26  hf
def rm_across : Room := { frames := 0, cells := 0, slots := 0, locals := 0 }
set_option maxRecDepth 100000 in
set_option maxHeartbeats 4000000 in
theorem c_across (l : Launch) (dC : Nat → ClassId) (dI : Nat → Nat → Nat) (E : Nat → ClassId) (h : Nat) (r : Nat → Nat) (S : MS) (x1 : Int32) (x2 : Int32) (res : Int32) (hf : M_across S x1 x2 = some res) : MC l dC dI E yX11_across cX11_across 3 (some .int) rm_across [.ref h, .int x1, .int x2] (MW E h r S) (MW E h r S) (some (.int res)) := by
  refine MC_of (own := "LostLanesModel") (by decide) rfl (Nat.le_of_ble_eq_true rfl) ?_
  intro p e s m args below meth c A Q X hr hlk hA hQ
  refine g_lv [0, 1, 2] (lv' := [(0, .ref h), (1, .int x1), (2, .int x2)]) rfl ?_
  unfold M_across at hf
  refine g_aload_n X dX11_across_0 0 rfl ?_
  refine m_get_3 X dX11_across_1 ?_
  refine g_bipush X dX11_across_4 kb_26 ?_
  refine g_iload_n X dX11_across_6 1 rfl ?_
  refine g_iadd X dX11_across_7 ?_
  refine m_ald_3 X dX11_across_8 hf (fun hf => ?_)
  refine g_iload_n X dX11_across_9 2 rfl ?_
  refine g_icmp_ne (tgt := 25) X dX11_across_10 (by decide) hf (fun hf => ?_) (fun hf => ?_)
  · refine g_aload_n X dX11_across_25 0 rfl ?_
    refine m_get_3 X dX11_across_26 ?_
    refine g_bipush X dX11_across_29 kb_26 ?_
    refine g_iload_n X dX11_across_31 1 rfl ?_
    refine g_iadd X dX11_across_32 ?_
    refine m_ald_3 X dX11_across_33 hf (fun hf => ?_)
    exact m_reti_o hA hQ X hr hlk dX11_across_34 hf
  refine g_aload_n X dX11_across_13 0 rfl ?_
  refine m_get_3 X dX11_across_14 ?_
  refine g_bipush X dX11_across_17 kb_36 ?_
  refine g_iload_n X dX11_across_19 1 rfl ?_
  refine g_iadd X dX11_across_20 ?_
  refine m_ald_3 X dX11_across_21 hf (fun hf => ?_)
  refine g_goto (tgt := 34) X dX11_across_22 (by decide) ?_
  exact m_reti_o hA hQ X hr hlk dX11_across_34 hf
def rm_namedOnes : Room := { frames := 0, cells := 0, slots := 0, locals := 0 }
set_option maxRecDepth 100000 in
set_option maxHeartbeats 4000000 in
theorem c_namedOnes (l : Launch) (dC : Nat → ClassId) (dI : Nat → Nat → Nat) (E : Nat → ClassId) (h : Nat) (r : Nat → Nat) (F : Nat) (S : MS)  (res : Int32) (hf : M_namedOnes F S = some res) : MC l dC dI E yX11_namedOnes cX11_namedOnes 3 (some .int) rm_namedOnes [.ref h] (MW E h r S) (MW E h r S) (some (.int res)) := by
  refine MC_of (own := "LostLanesModel") (by decide) rfl (Nat.le_of_ble_eq_true rfl) ?_
  intro p e s m args below meth c A Q X hr hlk hA hQ
  have hB33 : ∀ (k4 : Int32 → Int32 → Option Int32) (hk4 : ∀ (x1 : Int32) (x2 : Int32), k4 x1 x2 = some res → GG p l e rm_namedOnes s m args below meth c dC dI A 3 0 0 Q (MW E h r S) 4 [(0, .ref h), (1, .int x1), (2, .int x2)] []) (x2 : Int32) (t0 : Int32) (t1 : Int32), M_namedOnes_B33 F k4 S x2 t0 t1 = some res → GG p l e rm_namedOnes s m args below meth c dC dI A 3 0 0 Q (MW E h r S) 33 [(0, .ref h), (2, .int x2)] [.int t1, .int t0] := by
    intro k4 hk4 x2 t0 t1 hf
    unfold M_namedOnes_B33 at hf
    refine g_iadd X dX11_namedOnes_33 ?_
    refine g_istore_n (i := 1) (lv' := [(1, .int (t0 + t1)), (0, .ref h), (2, .int x2)]) X dX11_namedOnes_34 rfl (by decide) rfl ?_
    refine g_iinc (lv' := [(2, .int (x2 + (1 : Int32))), (1, .int (t0 + t1)), (0, .ref h)]) X dX11_namedOnes_35 2 rfl kc_1 (by decide) rfl ?_
    refine g_goto (tgt := 4) X dX11_namedOnes_38 (by decide) ?_
    refine g_lv [2, 1, 0] (lv' := [(0, .ref h), (1, .int (t0 + t1)), (2, .int (x2 + (1 : Int32)))]) rfl ?_
    exact hk4 _ _ hf
  have hL4 : ∀  (n : Nat) (x1 : Int32) (x2 : Int32), M_namedOnes_L4 F S n x1 x2 = some res → GG p l e rm_namedOnes s m args below meth c dC dI A 3 0 0 Q (MW E h r S) 4 [(0, .ref h), (1, .int x1), (2, .int x2)] [] := by
    intro  n
    induction n with
    | zero => intro x1 x2 hf; have hf : (none : Option Int32) = some res := hf; cases hf
    | succ n ih =>
      intro x1 x2 hf
      rw [M_namedOnes_L4] at hf
      refine g_iload_n X dX11_namedOnes_4 2 rfl ?_
      refine g_aload_n X dX11_namedOnes_5 0 rfl ?_
      refine m_get_3 X dX11_namedOnes_6 ?_
      refine g_iconst X dX11_namedOnes_9 kc_0 ?_
      refine m_aldc_3 X kt_0 kx_0_5476 dX11_namedOnes_10 ?_
      refine g_icmp_ge (tgt := 41) X dX11_namedOnes_11 (by decide) hf (fun hf => ?_) (fun hf => ?_)
      · refine g_iload_n X dX11_namedOnes_41 1 rfl ?_
        exact m_reti_o hA hQ X hr hlk dX11_namedOnes_42 hf
      refine g_iload_n X dX11_namedOnes_14 1 rfl ?_
      refine g_aload_n X dX11_namedOnes_15 0 rfl ?_
      refine m_get_3 X dX11_namedOnes_16 ?_
      refine g_bipush X dX11_namedOnes_19 kb_8 ?_
      refine g_iload_n X dX11_namedOnes_21 2 rfl ?_
      refine g_iadd X dX11_namedOnes_22 ?_
      refine m_ald_3 X dX11_namedOnes_23 hf (fun hf => ?_)
      refine g_iconst X dX11_namedOnes_24 kc_m1 ?_
      refine g_icmp_ne (tgt := 32) X dX11_namedOnes_25 (by decide) hf (fun hf => ?_) (fun hf => ?_)
      · refine g_iconst X dX11_namedOnes_32 kc_1 ?_
        refine g_lv [0, 2] (lv' := [(0, .ref h), (2, .int x2)]) rfl ?_
        exact hB33 _ ih _ _ _ hf
      refine g_iconst X dX11_namedOnes_28 kc_0 ?_
      refine g_goto (tgt := 33) X dX11_namedOnes_29 (by decide) ?_
      refine g_lv [0, 2] (lv' := [(0, .ref h), (2, .int x2)]) rfl ?_
      exact hB33 _ ih _ _ _ hf
  refine g_lv [0] (lv' := [(0, .ref h)]) rfl ?_
  unfold M_namedOnes at hf
  refine g_iconst X dX11_namedOnes_0 kc_0 ?_
  refine g_istore_n (i := 1) (lv' := [(1, .int (0 : Int32)), (0, .ref h)]) X dX11_namedOnes_1 rfl (by decide) rfl ?_
  refine g_iconst X dX11_namedOnes_2 kc_0 ?_
  refine g_istore_n (i := 2) (lv' := [(2, .int (0 : Int32)), (1, .int (0 : Int32)), (0, .ref h)]) X dX11_namedOnes_3 rfl (by decide) rfl ?_
  refine g_lv [2, 1, 0] (lv' := [(0, .ref h), (1, .int (0 : Int32)), (2, .int (0 : Int32))]) rfl ?_
  exact hL4 _ _ _ hf
def rm_come : Room := { frames := 2, cells := 0, slots := 0, locals := 45 }
set_option maxRecDepth 100000 in
set_option maxHeartbeats 4000000 in
theorem c_come (l : Launch) (dC : Nat → ClassId) (dI : Nat → Nat → Nat) (E : Nat → ClassId) (h : Nat) (r : Nat → Nat) (S : MS) (x1 : Int32) (x2 : Int32) (x3 : Int32) (x4 : Int32) (res : Int32 × MS) (hf : M_come S x1 x2 x3 x4 = some res) : MC l dC dI E yX11_come cX11_come 6 (some .int) rm_come [.ref h, .int x1, .int x2, .int x3, .int x4] (MW E h r S) (MW E h r res.2) (some (.int res.1)) := by
  refine MC_of (own := "LostLanesModel") (by decide) rfl (Nat.le_of_ble_eq_true rfl) ?_
  intro p e s m args below meth c A Q X hr hlk hA hQ
  refine g_lv [0, 1, 2, 3, 4] (lv' := [(0, .ref h), (1, .int x1), (2, .int x2), (3, .int x3), (4, .int x4)]) rfl ?_
  unfold M_come at hf
  refine g_iload_n X dX11_come_0 1 rfl ?_
  refine m_bind hf (fun q1 hq1 hf => ?_)
  refine m_callS_i (As := [.int x1]) (st := []) X kS_188 (c_isCorner l dC dI E h r S x1 q1 hq1) ⟨Nat.le_of_ble_eq_true rfl, Nat.le_of_ble_eq_true rfl⟩ ⟨rfl, rfl⟩ (Nat.le_of_ble_eq_true rfl) ⟨Nat.le_of_ble_eq_true rfl, Nat.le_of_ble_eq_true rfl⟩ dX11_come_1 ?_
  refine g_if_eq (tgt := 44) X dX11_come_4 (by decide) hf (fun hf => ?_) (fun hf => ?_)
  · refine g_iconst X dX11_come_44 kc_m1 ?_
    exact m_reti_s hA hQ X hr hlk dX11_come_45 hf
  refine g_iload_n X dX11_come_7 2 rfl ?_
  refine m_bind hf (fun q2 hq2 hf => ?_)
  refine m_callS_i (As := [.int x2]) (st := []) X kS_188 (c_isCorner l dC dI E h r S x2 q2 hq2) ⟨Nat.le_of_ble_eq_true rfl, Nat.le_of_ble_eq_true rfl⟩ ⟨rfl, rfl⟩ (Nat.le_of_ble_eq_true rfl) ⟨Nat.le_of_ble_eq_true rfl, Nat.le_of_ble_eq_true rfl⟩ dX11_come_8 ?_
  refine g_if_eq (tgt := 44) X dX11_come_11 (by decide) hf (fun hf => ?_) (fun hf => ?_)
  · refine g_iconst X dX11_come_44 kc_m1 ?_
    exact m_reti_s hA hQ X hr hlk dX11_come_45 hf
  refine g_iload_n X dX11_come_14 1 rfl ?_
  refine g_iload_n X dX11_come_15 2 rfl ?_
  refine g_icmp_eq (tgt := 44) X dX11_come_16 (by decide) hf (fun hf => ?_) (fun hf => ?_)
  · refine g_iconst X dX11_come_44 kc_m1 ?_
    exact m_reti_s hA hQ X hr hlk dX11_come_45 hf
  refine g_iload_n X dX11_come_19 3 rfl ?_
  refine g_i2l X dX11_come_20 ?_
  refine g_lconst X dX11_come_21 kl_1 ?_
  refine g_ldc2 X dX11_come_22 wd6_121 ?_
  refine m_bind hf (fun q3 hq3 hf => ?_)
  refine m_callS_i (As := [.long (x3).toInt64, .long (1 : Int64), .long (9 : Int64)]) (st := []) X kS_179 (c_in l dC dI E h r S (x3).toInt64 (1 : Int64) (9 : Int64) q3 hq3) ⟨Nat.le_of_ble_eq_true rfl, Nat.le_of_ble_eq_true rfl⟩ ⟨rfl, rfl⟩ (Nat.le_of_ble_eq_true rfl) ⟨Nat.le_of_ble_eq_true rfl, Nat.le_of_ble_eq_true rfl⟩ dX11_come_25 ?_
  refine g_if_eq (tgt := 44) X dX11_come_28 (by decide) hf (fun hf => ?_) (fun hf => ?_)
  · refine g_iconst X dX11_come_44 kc_m1 ?_
    exact m_reti_s hA hQ X hr hlk dX11_come_45 hf
  refine g_iload X dX11_come_31 4 rfl ?_
  refine g_i2l X dX11_come_33 ?_
  refine g_lconst X dX11_come_34 kl_0 ?_
  refine g_ldc2 X dX11_come_35 wd6_122 ?_
  refine m_bind hf (fun q4 hq4 hf => ?_)
  refine m_callS_i (As := [.long (x4).toInt64, .long (0 : Int64), .long (4 : Int64)]) (st := []) X kS_179 (c_in l dC dI E h r S (x4).toInt64 (0 : Int64) (4 : Int64) q4 hq4) ⟨Nat.le_of_ble_eq_true rfl, Nat.le_of_ble_eq_true rfl⟩ ⟨rfl, rfl⟩ (Nat.le_of_ble_eq_true rfl) ⟨Nat.le_of_ble_eq_true rfl, Nat.le_of_ble_eq_true rfl⟩ dX11_come_38 ?_
  refine g_if_ne (tgt := 46) X dX11_come_41 (by decide) hf (fun hf => ?_) (fun hf => ?_)
  · refine g_aload_n X dX11_come_46 0 rfl ?_
    refine m_get_3 X dX11_come_47 ?_
    refine g_iconst X dX11_come_50 kc_0 ?_
    refine m_aldc_3 X kt_0 kx_0_5476 dX11_come_51 ?_
    refine g_istore (lv' := [(5, .int (ma S 3 0)), (0, .ref h), (1, .int x1), (2, .int x2), (3, .int x3), (4, .int x4)]) X dX11_come_52 (by decide) rfl ?_
    refine g_iload X dX11_come_54 0 rfl ?_
    refine g_bipush X dX11_come_56 kb_10 ?_
    refine g_icmp_ne (tgt := 64) X dX11_come_58 (by decide) hf (fun hf => ?_) (fun hf => ?_)
    · refine g_aload_n X dX11_come_64 1 rfl ?_
      refine m_get_3 X dX11_come_65 ?_
      refine g_bipush X dX11_come_68 kb_26 ?_
      refine g_iload X dX11_come_70 0 rfl ?_
      refine g_iadd X dX11_come_72 ?_
      refine g_iload_n X dX11_come_73 2 rfl ?_
      refine m_ast_3 X dX11_come_74 hf (fun S5 hf => ?_)
      refine g_aload_n X dX11_come_75 1 rfl ?_
      refine m_get_3 X dX11_come_76 ?_
      refine g_bipush X dX11_come_79 kb_36 ?_
      refine g_iload X dX11_come_81 0 rfl ?_
      refine g_iadd X dX11_come_83 ?_
      refine g_iload_n X dX11_come_84 3 rfl ?_
      refine m_ast_3 X dX11_come_85 hf (fun S6 hf => ?_)
      refine g_aload_n X dX11_come_86 1 rfl ?_
      refine m_get_3 X dX11_come_87 ?_
      refine g_bipush X dX11_come_90 kb_46 ?_
      refine g_iload X dX11_come_92 0 rfl ?_
      refine g_iadd X dX11_come_94 ?_
      refine g_iload_n X dX11_come_95 4 rfl ?_
      refine m_ast_3 X dX11_come_96 hf (fun S7 hf => ?_)
      refine g_aload_n X dX11_come_97 1 rfl ?_
      refine m_get_3 X dX11_come_98 ?_
      refine g_bipush X dX11_come_101 kb_56 ?_
      refine g_iload X dX11_come_103 0 rfl ?_
      refine g_iadd X dX11_come_105 ?_
      refine g_iload X dX11_come_106 5 rfl ?_
      refine m_ast_3 X dX11_come_108 hf (fun S8 hf => ?_)
      refine g_aload_n X dX11_come_109 1 rfl ?_
      refine m_get_3 X dX11_come_110 ?_
      refine g_bipush X dX11_come_113 kb_8 ?_
      refine g_iload X dX11_come_115 0 rfl ?_
      refine g_iadd X dX11_come_117 ?_
      refine g_iconst X dX11_come_118 kc_m1 ?_
      refine m_ast_3 X dX11_come_119 hf (fun S9 hf => ?_)
      refine g_aload_n X dX11_come_120 1 rfl ?_
      refine m_get_3 X dX11_come_121 ?_
      refine g_iconst X dX11_come_124 kc_0 ?_
      refine g_dup2 X dX11_come_125 rfl rfl ?_
      refine m_aldc_3 X kt_0 kx_0_5476 dX11_come_126 ?_
      refine g_iconst X dX11_come_127 kc_1 ?_
      refine g_iadd X dX11_come_128 ?_
      refine m_astc_3 X kt_0 kx_0_5476 dX11_come_129 hf (fun S10 hf => ?_)
      refine g_iload X dX11_come_130 0 rfl ?_
      exact m_reti_s hA hQ X hr hlk dX11_come_132 hf
    refine g_bipush X dX11_come_61 kb_m5 ?_
    exact m_reti_s hA hQ X hr hlk dX11_come_63 hf
  refine g_iconst X dX11_come_44 kc_m1 ?_
  exact m_reti_s hA hQ X hr hlk dX11_come_45 hf
def rm_lane : Room := { frames := 3, cells := 0, slots := 0, locals := 70 }
set_option maxRecDepth 100000 in
set_option maxHeartbeats 4000000 in
theorem c_lane (l : Launch) (dC : Nat → ClassId) (dI : Nat → Nat → Nat) (E : Nat → ClassId) (h : Nat) (r : Nat → Nat) (S : MS) (x1 : Int32) (x2 : Int32) (x3 : Int32) (x4 : Int32) (res : Int32 × MS) (hf : M_lane S x1 x2 x3 x4 = some res) : MC l dC dI E yX11_lane cX11_lane 5 (some .int) rm_lane [.ref h, .int x1, .int x2, .int x3, .int x4] (MW E h r S) (MW E h r res.2) (some (.int res.1)) := by
  refine MC_of (own := "LostLanesModel") (by decide) rfl (Nat.le_of_ble_eq_true rfl) ?_
  intro p e s m args below meth c A Q X hr hlk hA hQ
  refine g_lv [0, 1, 2, 3, 4] (lv' := [(0, .ref h), (1, .int x1), (2, .int x2), (3, .int x3), (4, .int x4)]) rfl ?_
  unfold M_lane at hf
  refine g_aload_n X dX11_lane_0 0 rfl ?_
  refine g_iconst X dX11_lane_1 kc_0 ?_
  refine m_put_0 X dX11_lane_2 hf (fun S1 hf => ?_)
  refine g_aload_n X dX11_lane_5 0 rfl ?_
  refine g_aload_n X dX11_lane_6 0 rfl ?_
  refine g_iload_n X dX11_lane_7 1 rfl ?_
  refine g_iload_n X dX11_lane_8 2 rfl ?_
  refine g_iload_n X dX11_lane_9 3 rfl ?_
  refine g_iload X dX11_lane_10 4 rfl ?_
  refine m_bind hf (fun q2 hq2 hf => ?_)
  refine m_callV_i (As := [.int x1, .int x2, .int x3, .int x4]) (st := [.ref h]) X kV_196 (c_come l dC dI E h r S1 x1 x2 x3 x4 q2 hq2) ⟨Nat.le_of_ble_eq_true rfl, Nat.le_of_ble_eq_true rfl⟩ ⟨rfl, rfl⟩ (Nat.le_of_ble_eq_true rfl) ⟨Nat.le_of_ble_eq_true rfl, Nat.le_of_ble_eq_true rfl⟩ dX11_lane_12 ?_
  refine m_bind hf (fun q3 hq3 hf => ?_)
  refine m_callV_i (As := [.int q2.1]) (st := []) X kV_183 (c_lasting l dC dI E h r q2.2 q2.1 q3 hq3) ⟨Nat.le_of_ble_eq_true rfl, Nat.le_of_ble_eq_true rfl⟩ ⟨rfl, rfl⟩ (Nat.le_of_ble_eq_true rfl) ⟨Nat.le_of_ble_eq_true rfl, Nat.le_of_ble_eq_true rfl⟩ dX11_lane_15 ?_
  exact m_reti_s hA hQ X hr hlk dX11_lane_18 hf
def rm_at : Room := { frames := 2, cells := 0, slots := 0, locals := 46 }
set_option maxRecDepth 100000 in
set_option maxHeartbeats 4000000 in
theorem c_at (l : Launch) (dC : Nat → ClassId) (dI : Nat → Nat → Nat) (E : Nat → ClassId) (h : Nat) (r : Nat → Nat) (S : MS) (x1 : Int32) (x2 : Int32) (res : Int32 × MS) (hf : M_at S x1 x2 = some res) : MC l dC dI E yX11_at cX11_at 3 (some .int) rm_at [.ref h, .int x1, .int x2] (MW E h r S) (MW E h r res.2) (some (.int res.1)) := by
  refine MC_of (own := "LostLanesModel") (by decide) rfl (Nat.le_of_ble_eq_true rfl) ?_
  intro p e s m args below meth c A Q X hr hlk hA hQ
  refine g_lv [0, 1, 2] (lv' := [(0, .ref h), (1, .int x1), (2, .int x2)]) rfl ?_
  unfold M_at at hf
  refine g_aload_n X dX11_at_0 0 rfl ?_
  refine g_iconst X dX11_at_1 kc_0 ?_
  refine m_put_0 X dX11_at_2 hf (fun S1 hf => ?_)
  refine g_aload_n X dX11_at_5 0 rfl ?_
  refine g_iload_n X dX11_at_6 1 rfl ?_
  refine m_bind hf (fun q2 hq2 hf => ?_)
  refine m_callV_i (As := [.int x1]) (st := []) X kV_200 (c_isLane l dC dI E h r S1 x1 q2 hq2) ⟨Nat.le_of_ble_eq_true rfl, Nat.le_of_ble_eq_true rfl⟩ ⟨rfl, rfl⟩ (Nat.le_of_ble_eq_true rfl) ⟨Nat.le_of_ble_eq_true rfl, Nat.le_of_ble_eq_true rfl⟩ dX11_at_7 ?_
  refine g_if_ne (tgt := 15) X dX11_at_10 (by decide) hf (fun hf => ?_) (fun hf => ?_)
  · refine g_iload_n X dX11_at_15 2 rfl ?_
    refine g_ite hf (fun hs16_0 hf => ?_) (fun hs16_0 hf => ?_)
    · refine g_tsw (tgt := 52) (off := 36) X dX11_at_16 (by rw [hs16_0]; decide) (by rw [hs16_0]; decide) (by rw [hs16_0]; rfl) (by decide) ?_
      refine g_aload_n X dX11_at_52 0 rfl ?_
      refine m_get_3 X dX11_at_53 ?_
      refine g_bipush X dX11_at_56 kb_26 ?_
      refine g_iload_n X dX11_at_58 1 rfl ?_
      refine g_iadd X dX11_at_59 ?_
      refine m_ald_3 X dX11_at_60 hf (fun hf => ?_)
      exact m_reti_s hA hQ X hr hlk dX11_at_61 hf
    refine g_ite hf (fun hs16_1 hf => ?_) (fun hs16_1 hf => ?_)
    · refine g_tsw (tgt := 62) (off := 46) X dX11_at_16 (by rw [hs16_1]; decide) (by rw [hs16_1]; decide) (by rw [hs16_1]; rfl) (by decide) ?_
      refine g_aload_n X dX11_at_62 0 rfl ?_
      refine m_get_3 X dX11_at_63 ?_
      refine g_bipush X dX11_at_66 kb_36 ?_
      refine g_iload_n X dX11_at_68 1 rfl ?_
      refine g_iadd X dX11_at_69 ?_
      refine m_ald_3 X dX11_at_70 hf (fun hf => ?_)
      exact m_reti_s hA hQ X hr hlk dX11_at_71 hf
    refine g_ite hf (fun hs16_2 hf => ?_) (fun hs16_2 hf => ?_)
    · refine g_tsw (tgt := 72) (off := 56) X dX11_at_16 (by rw [hs16_2]; decide) (by rw [hs16_2]; decide) (by rw [hs16_2]; rfl) (by decide) ?_
      refine g_aload_n X dX11_at_72 0 rfl ?_
      refine m_get_3 X dX11_at_73 ?_
      refine g_bipush X dX11_at_76 kb_46 ?_
      refine g_iload_n X dX11_at_78 1 rfl ?_
      refine g_iadd X dX11_at_79 ?_
      refine m_ald_3 X dX11_at_80 hf (fun hf => ?_)
      exact m_reti_s hA hQ X hr hlk dX11_at_81 hf
    refine g_ite hf (fun hs16_3 hf => ?_) (fun hs16_3 hf => ?_)
    · refine g_tsw (tgt := 82) (off := 66) X dX11_at_16 (by rw [hs16_3]; decide) (by rw [hs16_3]; decide) (by rw [hs16_3]; rfl) (by decide) ?_
      refine g_aload_n X dX11_at_82 0 rfl ?_
      refine m_get_3 X dX11_at_83 ?_
      refine g_bipush X dX11_at_86 kb_56 ?_
      refine g_iload_n X dX11_at_88 1 rfl ?_
      refine g_iadd X dX11_at_89 ?_
      refine m_ald_3 X dX11_at_90 hf (fun hf => ?_)
      exact m_reti_s hA hQ X hr hlk dX11_at_91 hf
    refine g_ite hf (fun hs16_4 hf => ?_) (fun hs16_4 hf => ?_)
    · refine g_tsw (tgt := 92) (off := 76) X dX11_at_16 (by rw [hs16_4]; decide) (by rw [hs16_4]; decide) (by rw [hs16_4]; rfl) (by decide) ?_
      refine g_aload_n X dX11_at_92 0 rfl ?_
      refine m_get_3 X dX11_at_93 ?_
      refine g_bipush X dX11_at_96 kb_8 ?_
      refine g_iload_n X dX11_at_98 1 rfl ?_
      refine g_iadd X dX11_at_99 ?_
      refine m_ald_3 X dX11_at_100 hf (fun hf => ?_)
      exact m_reti_s hA hQ X hr hlk dX11_at_101 hf
    refine g_tswO (tgt := 102) X dX11_at_16 (g_out0_4 (lv_neT hs16_0 (by decide)) (lv_neT hs16_1 (by decide)) (lv_neT hs16_2 (by decide)) (lv_neT hs16_3 (by decide)) (lv_neT hs16_4 (by decide))) (by decide) ?_
    refine g_iconst X dX11_at_102 kc_m1 ?_
    exact m_reti_s hA hQ X hr hlk dX11_at_103 hf
  refine g_iconst X dX11_at_13 kc_m1 ?_
  exact m_reti_s hA hQ X hr hlk dX11_at_14 hf
def rm_child : Room := { frames := 2, cells := 0, slots := 0, locals := 45 }
set_option maxRecDepth 100000 in
set_option maxHeartbeats 4000000 in
theorem c_child (l : Launch) (dC : Nat → ClassId) (dI : Nat → Nat → Nat) (E : Nat → ClassId) (h : Nat) (r : Nat → Nat) (S : MS) (x1 : Int32) (x2 : Int32) (res : Int32 × MS) (hf : M_child S x1 x2 = some res) : MC l dC dI E yX11_child cX11_child 4 (some .int) rm_child [.ref h, .int x1, .int x2] (MW E h r S) (MW E h r res.2) (some (.int res.1)) := by
  refine MC_of (own := "LostLanesModel") (by decide) rfl (Nat.le_of_ble_eq_true rfl) ?_
  intro p e s m args below meth c A Q X hr hlk hA hQ
  have hB24 : ∀ (S : MS), M_child_B24 S = some res → GG p l e rm_child s m args below meth c dC dI A 4 0 0 Q (MW E h r S) 24 [(0, .ref h)] [] := by
    intro S hf
    unfold M_child_B24 at hf
    refine g_aload_n X dX11_child_24 0 rfl ?_
    refine g_iconst X dX11_child_25 kc_m1 ?_
    refine m_bind hf (fun q1 hq1 hf => ?_)
    refine m_callV_i (As := [.int (-1 : Int32)]) (st := []) X kV_168 (c_tell l dC dI E h r S (-1 : Int32) q1 hq1) ⟨Nat.le_of_ble_eq_true rfl, Nat.le_of_ble_eq_true rfl⟩ ⟨rfl, rfl⟩ (Nat.le_of_ble_eq_true rfl) ⟨Nat.le_of_ble_eq_true rfl, Nat.le_of_ble_eq_true rfl⟩ dX11_child_26 ?_
    exact m_reti_s hA hQ X hr hlk dX11_child_29 hf
  refine g_lv [0, 1, 2] (lv' := [(0, .ref h), (1, .int x1), (2, .int x2)]) rfl ?_
  unfold M_child at hf
  refine g_aload_n X dX11_child_0 0 rfl ?_
  refine g_iconst X dX11_child_1 kc_0 ?_
  refine m_put_0 X dX11_child_2 hf (fun S2 hf => ?_)
  refine g_iload_n X dX11_child_5 1 rfl ?_
  refine g_i2l X dX11_child_6 ?_
  refine g_lconst X dX11_child_7 kl_1 ?_
  refine g_ldc2 X dX11_child_8 wd6_121 ?_
  refine m_bind hf (fun q3 hq3 hf => ?_)
  refine m_callS_i (As := [.long (x1).toInt64, .long (1 : Int64), .long (9 : Int64)]) (st := []) X kS_179 (c_in l dC dI E h r S2 (x1).toInt64 (1 : Int64) (9 : Int64) q3 hq3) ⟨Nat.le_of_ble_eq_true rfl, Nat.le_of_ble_eq_true rfl⟩ ⟨rfl, rfl⟩ (Nat.le_of_ble_eq_true rfl) ⟨Nat.le_of_ble_eq_true rfl, Nat.le_of_ble_eq_true rfl⟩ dX11_child_11 ?_
  refine g_if_eq (tgt := 24) X dX11_child_14 (by decide) hf (fun hf => ?_) (fun hf => ?_)
  · refine g_lv [0] (lv' := [(0, .ref h)]) rfl ?_
    exact hB24 _ hf
  refine g_iload_n X dX11_child_17 2 rfl ?_
  refine m_bind hf (fun q4 hq4 hf => ?_)
  refine m_callS_i (As := [.int x2]) (st := []) X kS_188 (c_isCorner l dC dI E h r S2 x2 q4 hq4) ⟨Nat.le_of_ble_eq_true rfl, Nat.le_of_ble_eq_true rfl⟩ ⟨rfl, rfl⟩ (Nat.le_of_ble_eq_true rfl) ⟨Nat.le_of_ble_eq_true rfl, Nat.le_of_ble_eq_true rfl⟩ dX11_child_18 ?_
  refine g_if_ne (tgt := 30) X dX11_child_21 (by decide) hf (fun hf => ?_) (fun hf => ?_)
  · refine g_aload_n X dX11_child_30 0 rfl ?_
    refine m_get_3 X dX11_child_31 ?_
    refine g_iconst X dX11_child_34 kc_1 ?_
    refine m_aldc_3 X kt_1 kx_1_5476 dX11_child_35 ?_
    refine g_istore_n (i := 3) (lv' := [(3, .int (ma S2 3 1)), (0, .ref h), (1, .int x1), (2, .int x2)]) X dX11_child_36 rfl (by decide) rfl ?_
    refine g_iload_n X dX11_child_37 0 rfl ?_
    refine g_iconst X dX11_child_38 kc_4 ?_
    refine g_icmp_ne (tgt := 49) X dX11_child_39 (by decide) hf (fun hf => ?_) (fun hf => ?_)
    · refine g_aload_n X dX11_child_49 1 rfl ?_
      refine m_get_3 X dX11_child_50 ?_
      refine g_bipush X dX11_child_53 kb_66 ?_
      refine g_iload_n X dX11_child_55 0 rfl ?_
      refine g_iadd X dX11_child_56 ?_
      refine g_iload_n X dX11_child_57 2 rfl ?_
      refine m_ast_3 X dX11_child_58 hf (fun S5 hf => ?_)
      refine g_aload_n X dX11_child_59 1 rfl ?_
      refine m_get_3 X dX11_child_60 ?_
      refine g_bipush X dX11_child_63 kb_18 ?_
      refine g_iload_n X dX11_child_65 0 rfl ?_
      refine g_iadd X dX11_child_66 ?_
      refine g_iload_n X dX11_child_67 3 rfl ?_
      refine m_ast_3 X dX11_child_68 hf (fun S6 hf => ?_)
      refine g_aload_n X dX11_child_69 1 rfl ?_
      refine m_get_3 X dX11_child_70 ?_
      refine g_bipush X dX11_child_73 kb_22 ?_
      refine g_iload_n X dX11_child_75 0 rfl ?_
      refine g_iadd X dX11_child_76 ?_
      refine g_iconst X dX11_child_77 kc_m1 ?_
      refine m_ast_3 X dX11_child_78 hf (fun S7 hf => ?_)
      refine g_aload_n X dX11_child_79 1 rfl ?_
      refine m_get_3 X dX11_child_80 ?_
      refine g_iconst X dX11_child_83 kc_1 ?_
      refine g_dup2 X dX11_child_84 rfl rfl ?_
      refine m_aldc_3 X kt_1 kx_1_5476 dX11_child_85 ?_
      refine g_iconst X dX11_child_86 kc_1 ?_
      refine g_iadd X dX11_child_87 ?_
      refine m_astc_3 X kt_1 kx_1_5476 dX11_child_88 hf (fun S8 hf => ?_)
      refine g_aload_n X dX11_child_89 1 rfl ?_
      refine g_iload_n X dX11_child_90 0 rfl ?_
      refine m_bind hf (fun q9 hq9 hf => ?_)
      refine m_callV_i (As := [.int (ma S2 3 1)]) (st := []) X kV_183 (c_lasting l dC dI E h r S8 (ma S2 3 1) q9 hq9) ⟨Nat.le_of_ble_eq_true rfl, Nat.le_of_ble_eq_true rfl⟩ ⟨rfl, rfl⟩ (Nat.le_of_ble_eq_true rfl) ⟨Nat.le_of_ble_eq_true rfl, Nat.le_of_ble_eq_true rfl⟩ dX11_child_91 ?_
      exact m_reti_s hA hQ X hr hlk dX11_child_94 hf
    refine g_aload_n X dX11_child_42 1 rfl ?_
    refine g_bipush X dX11_child_43 kb_m5 ?_
    refine m_bind hf (fun q10 hq10 hf => ?_)
    refine m_callV_i (As := [.int (-5 : Int32)]) (st := []) X kV_168 (c_tell l dC dI E h r S2 (-5 : Int32) q10 hq10) ⟨Nat.le_of_ble_eq_true rfl, Nat.le_of_ble_eq_true rfl⟩ ⟨rfl, rfl⟩ (Nat.le_of_ble_eq_true rfl) ⟨Nat.le_of_ble_eq_true rfl, Nat.le_of_ble_eq_true rfl⟩ dX11_child_45 ?_
    exact m_reti_s hA hQ X hr hlk dX11_child_48 hf
  refine g_lv [0] (lv' := [(0, .ref h)]) rfl ?_
  exact hB24 _ hf
def rm_reckon : Room := { frames := 0, cells := 0, slots := 0, locals := 0 }
set_option maxRecDepth 100000 in
set_option maxHeartbeats 4000000 in
theorem c_reckon (l : Launch) (dC : Nat → ClassId) (dI : Nat → Nat → Nat) (E : Nat → ClassId) (h : Nat) (r : Nat → Nat) (S : MS) (x1 : Int32) (x2 : Int64) (x4 : Int64) (res : Int64 × MS) (hf : M_reckon S x1 x2 x4 = some res) : MC l dC dI E yX11_reckon cX11_reckon 6 (some .long) rm_reckon [.ref h, .int x1, .long x2, .long x4] (MW E h r S) (MW E h r res.2) (some (.long res.1)) := by
  refine MC_of (own := "LostLanesModel") (by decide) rfl (Nat.le_of_ble_eq_true rfl) ?_
  intro p e s m args below meth c A Q X hr hlk hA hQ
  have hB104 : ∀ (S : MS) (x2 : Int64) (x4 : Int64) (t1 : Int32), M_reckon_B104 S x2 x4 t1 = some res → GG p l e rm_reckon s m args below meth c dC dI A 6 0 0 Q (MW E h r S) 104 [(0, .ref h), (2, .long x2), (4, .long x4)] [.int t1, .ref h] := by
    intro S x2 x4 t1 hf
    unfold M_reckon_B104 at hf
    obtain ⟨hz104, hf⟩ := chk_some hf
    refine m_put_38 X hz104 dX11_reckon_104 hf (fun S1 hf => ?_)
    refine g_aload_n X dX11_reckon_107 0 rfl ?_
    refine m_get_38 X dX11_reckon_108 ?_
    refine g_if_eq (tgt := 118) X dX11_reckon_111 (by decide) hf (fun hf => ?_) (fun hf => ?_)
    · refine g_lload_n X dX11_reckon_118 1 rfl ?_
      refine g_lload X dX11_reckon_119 2 rfl ?_
      obtain ⟨hz121, hf⟩ := chk_some hf
      refine g_lrem X dX11_reckon_121 hz121 ?_
      exact m_retl_s hA hQ X hr hlk dX11_reckon_122 hf
    refine g_lconst X dX11_reckon_114 kl_0 ?_
    refine g_goto (tgt := 122) X dX11_reckon_115 (by decide) ?_
    exact m_retl_s hA hQ X hr hlk dX11_reckon_122 hf
  have hB72 : ∀ (S : MS) (x2 : Int64) (x4 : Int64) (t1 : Int32), M_reckon_B72 S x2 x4 t1 = some res → GG p l e rm_reckon s m args below meth c dC dI A 6 0 0 Q (MW E h r S) 72 [(0, .ref h), (2, .long x2), (4, .long x4)] [.int t1, .ref h] := by
    intro S x2 x4 t1 hf
    unfold M_reckon_B72 at hf
    obtain ⟨hz72, hf⟩ := chk_some hf
    refine m_put_38 X hz72 dX11_reckon_72 hf (fun S2 hf => ?_)
    refine g_aload_n X dX11_reckon_75 0 rfl ?_
    refine m_get_38 X dX11_reckon_76 ?_
    refine g_if_eq (tgt := 86) X dX11_reckon_79 (by decide) hf (fun hf => ?_) (fun hf => ?_)
    · refine g_lload_n X dX11_reckon_86 1 rfl ?_
      refine g_lload X dX11_reckon_87 2 rfl ?_
      obtain ⟨hz89, hf⟩ := chk_some hf
      refine g_ldiv X dX11_reckon_89 hz89 ?_
      exact m_retl_s hA hQ X hr hlk dX11_reckon_90 hf
    refine g_lconst X dX11_reckon_82 kl_0 ?_
    refine g_goto (tgt := 90) X dX11_reckon_83 (by decide) ?_
    exact m_retl_s hA hQ X hr hlk dX11_reckon_90 hf
  refine g_lv [0, 1, 2, 3] (lv' := [(0, .ref h), (1, .int x1), (2, .long x2), (4, .long x4)]) rfl ?_
  unfold M_reckon at hf
  refine g_iload_n X dX11_reckon_0 1 rfl ?_
  refine g_ite hf (fun hs1_0 hf => ?_) (fun hs1_0 hf => ?_)
  · refine g_tsw (tgt := 44) (off := 43) X dX11_reckon_1 (by rw [hs1_0]; decide) (by rw [hs1_0]; decide) (by rw [hs1_0]; rfl) (by decide) ?_
    refine g_lload_n X dX11_reckon_44 2 rfl ?_
    refine g_lload X dX11_reckon_45 3 rfl ?_
    refine g_ladd X dX11_reckon_47 ?_
    exact m_retl_s hA hQ X hr hlk dX11_reckon_48 hf
  refine g_ite hf (fun hs1_1 hf => ?_) (fun hs1_1 hf => ?_)
  · refine g_tsw (tgt := 49) (off := 48) X dX11_reckon_1 (by rw [hs1_1]; decide) (by rw [hs1_1]; decide) (by rw [hs1_1]; rfl) (by decide) ?_
    refine g_lload_n X dX11_reckon_49 2 rfl ?_
    refine g_lload X dX11_reckon_50 3 rfl ?_
    refine g_lsub X dX11_reckon_52 ?_
    exact m_retl_s hA hQ X hr hlk dX11_reckon_53 hf
  refine g_ite hf (fun hs1_2 hf => ?_) (fun hs1_2 hf => ?_)
  · refine g_tsw (tgt := 54) (off := 53) X dX11_reckon_1 (by rw [hs1_2]; decide) (by rw [hs1_2]; decide) (by rw [hs1_2]; rfl) (by decide) ?_
    refine g_lload_n X dX11_reckon_54 2 rfl ?_
    refine g_lload X dX11_reckon_55 3 rfl ?_
    refine g_lmul X dX11_reckon_57 ?_
    exact m_retl_s hA hQ X hr hlk dX11_reckon_58 hf
  refine g_ite hf (fun hs1_3 hf => ?_) (fun hs1_3 hf => ?_)
  · refine g_tsw (tgt := 59) (off := 58) X dX11_reckon_1 (by rw [hs1_3]; decide) (by rw [hs1_3]; decide) (by rw [hs1_3]; rfl) (by decide) ?_
    refine g_aload_n X dX11_reckon_59 0 rfl ?_
    refine g_lload X dX11_reckon_60 3 rfl ?_
    refine g_lconst X dX11_reckon_62 kl_0 ?_
    refine g_lcmp_ne (tgt := 71) X dX11_reckon_63 dX11_reckon_64 (by decide) hf (fun hf => ?_) (fun hf => ?_)
    · refine g_iconst X dX11_reckon_71 kc_0 ?_
      refine g_lv [0, 2, 3] (lv' := [(0, .ref h), (2, .long x2), (4, .long x4)]) rfl ?_
      exact hB72 _ _ _ _ hf
    refine g_iconst X dX11_reckon_67 kc_1 ?_
    refine g_goto (tgt := 72) X dX11_reckon_68 (by decide) ?_
    refine g_lv [0, 2, 3] (lv' := [(0, .ref h), (2, .long x2), (4, .long x4)]) rfl ?_
    exact hB72 _ _ _ _ hf
  refine g_ite hf (fun hs1_4 hf => ?_) (fun hs1_4 hf => ?_)
  · refine g_tsw (tgt := 91) (off := 90) X dX11_reckon_1 (by rw [hs1_4]; decide) (by rw [hs1_4]; decide) (by rw [hs1_4]; rfl) (by decide) ?_
    refine g_aload_n X dX11_reckon_91 0 rfl ?_
    refine g_lload X dX11_reckon_92 3 rfl ?_
    refine g_lconst X dX11_reckon_94 kl_0 ?_
    refine g_lcmp_ne (tgt := 103) X dX11_reckon_95 dX11_reckon_96 (by decide) hf (fun hf => ?_) (fun hf => ?_)
    · refine g_iconst X dX11_reckon_103 kc_0 ?_
      refine g_lv [0, 2, 3] (lv' := [(0, .ref h), (2, .long x2), (4, .long x4)]) rfl ?_
      exact hB104 _ _ _ _ hf
    refine g_iconst X dX11_reckon_99 kc_1 ?_
    refine g_goto (tgt := 104) X dX11_reckon_100 (by decide) ?_
    refine g_lv [0, 2, 3] (lv' := [(0, .ref h), (2, .long x2), (4, .long x4)]) rfl ?_
    exact hB104 _ _ _ _ hf
  refine g_ite hf (fun hs1_5 hf => ?_) (fun hs1_5 hf => ?_)
  · refine g_tsw (tgt := 123) (off := 122) X dX11_reckon_1 (by rw [hs1_5]; decide) (by rw [hs1_5]; decide) (by rw [hs1_5]; rfl) (by decide) ?_
    refine g_lload_n X dX11_reckon_123 2 rfl ?_
    refine g_lload X dX11_reckon_124 3 rfl ?_
    refine g_lcmp_ge (tgt := 134) X dX11_reckon_126 dX11_reckon_127 (by decide) hf (fun hf => ?_) (fun hf => ?_)
    · refine g_lconst X dX11_reckon_134 kl_0 ?_
      exact m_retl_s hA hQ X hr hlk dX11_reckon_135 hf
    refine g_lconst X dX11_reckon_130 kl_1 ?_
    refine g_goto (tgt := 135) X dX11_reckon_131 (by decide) ?_
    exact m_retl_s hA hQ X hr hlk dX11_reckon_135 hf
  refine g_ite hf (fun hs1_6 hf => ?_) (fun hs1_6 hf => ?_)
  · refine g_tsw (tgt := 136) (off := 135) X dX11_reckon_1 (by rw [hs1_6]; decide) (by rw [hs1_6]; decide) (by rw [hs1_6]; rfl) (by decide) ?_
    refine g_lload_n X dX11_reckon_136 2 rfl ?_
    refine g_lload X dX11_reckon_137 3 rfl ?_
    refine g_lcmp_le (tgt := 147) X dX11_reckon_139 dX11_reckon_140 (by decide) hf (fun hf => ?_) (fun hf => ?_)
    · refine g_lconst X dX11_reckon_147 kl_0 ?_
      exact m_retl_s hA hQ X hr hlk dX11_reckon_148 hf
    refine g_lconst X dX11_reckon_143 kl_1 ?_
    refine g_goto (tgt := 148) X dX11_reckon_144 (by decide) ?_
    exact m_retl_s hA hQ X hr hlk dX11_reckon_148 hf
  refine g_tswO (tgt := 149) X dX11_reckon_1 (g_out20_26 (lv_neT hs1_0 (by decide)) (lv_neT hs1_1 (by decide)) (lv_neT hs1_2 (by decide)) (lv_neT hs1_3 (by decide)) (lv_neT hs1_4 (by decide)) (lv_neT hs1_5 (by decide)) (lv_neT hs1_6 (by decide))) (by decide) ?_
  refine g_lload_n X dX11_reckon_149 2 rfl ?_
  refine g_lload X dX11_reckon_150 3 rfl ?_
  refine g_lcmp_ne (tgt := 160) X dX11_reckon_152 dX11_reckon_153 (by decide) hf (fun hf => ?_) (fun hf => ?_)
  · refine g_lconst X dX11_reckon_160 kl_0 ?_
    exact m_retl_s hA hQ X hr hlk dX11_reckon_161 hf
  refine g_lconst X dX11_reckon_156 kl_1 ?_
  refine g_goto (tgt := 161) X dX11_reckon_157 (by decide) ?_
  exact m_retl_s hA hQ X hr hlk dX11_reckon_161 hf
def rm_reckonAll : Room := { frames := 2, cells := 0, slots := 0, locals := 46 }
set_option maxRecDepth 100000 in
set_option maxHeartbeats 4000000 in
theorem c_reckonAll (l : Launch) (dC : Nat → ClassId) (dI : Nat → Nat → Nat) (E : Nat → ClassId) (h : Nat) (r : Nat → Nat) (F : Nat) (S : MS) (x1 : Int32) (x2 : Int32) (res : Unit × MS) (hf : M_reckonAll F S x1 x2 = some res) : MC l dC dI E yX11_reckonAll cX11_reckonAll 7 none rm_reckonAll [.ref h, .int x1, .int x2] (MW E h r S) (MW E h r res.2) none := by
  refine MC_of (own := "LostLanesModel") (by decide) rfl (Nat.le_of_ble_eq_true rfl) ?_
  intro p e s m args below meth c A Q X hr hlk hA hQ
  have hB381 : ∀ (S : MS) (t1 : Int64), M_reckonAll_B381 F S t1 = some res → GG p l e rm_reckonAll s m args below meth c dC dI A 7 0 0 Q (MW E h r S) 381 [] [.long t1, .ref h] := by
    intro S t1 hf
    unfold M_reckonAll_B381 at hf
    refine m_put_39 X dX11_reckonAll_381 hf (fun S1 hf => ?_)
    exact m_retv_s hA hQ X hr hlk dX11_reckonAll_384 hf
  have hB366 : ∀ (S : MS) (x3 : Int32), M_reckonAll_B366 F S x3 = some res → GG p l e rm_reckonAll s m args below meth c dC dI A 7 0 0 Q (MW E h r S) 366 [(0, .ref h), (3, .int x3)] [] := by
    intro S x3 hf
    unfold M_reckonAll_B366 at hf
    refine g_aload_n X dX11_reckonAll_366 0 rfl ?_
    refine g_iload_n X dX11_reckonAll_367 1 rfl ?_
    refine g_if_le (tgt := 380) X dX11_reckonAll_368 (by decide) hf (fun hf => ?_) (fun hf => ?_)
    · refine g_lconst X dX11_reckonAll_380 kl_0 ?_
      refine g_lv [] (lv' := []) rfl ?_
      exact hB381 _ _ hf
    refine g_aload_n X dX11_reckonAll_371 0 rfl ?_
    refine m_get_37 X dX11_reckonAll_372 ?_
    refine g_iconst X dX11_reckonAll_375 kc_0 ?_
    refine m_aldc_37 X kt_0 kx_0_400 dX11_reckonAll_376 ?_
    refine g_goto (tgt := 381) X dX11_reckonAll_377 (by decide) ?_
    refine g_lv [] (lv' := []) rfl ?_
    exact hB381 _ _ hf
  have hB363 : ∀ (x2 : Int32) (k10 : MS → Int32 → Int32 → Option (Unit × MS)) (hk10 : ∀ (S : MS) (x3 : Int32) (x4 : Int32), k10 S x3 x4 = some res → GG p l e rm_reckonAll s m args below meth c dC dI A 7 0 0 Q (MW E h r S) 10 [(0, .ref h), (2, .int x2), (3, .int x3), (4, .int x4)] []) (S : MS) (x3 : Int32) (x4 : Int32), M_reckonAll_B363 F k10 S x2 x3 x4 = some res → GG p l e rm_reckonAll s m args below meth c dC dI A 7 0 0 Q (MW E h r S) 363 [(0, .ref h), (2, .int x2), (3, .int x3), (4, .int x4)] [] := by
    intro x2 k10 hk10 S x3 x4 hf
    unfold M_reckonAll_B363 at hf
    refine g_goto (tgt := 10) X dX11_reckonAll_363 (by decide) ?_
    exact hk10 _ _ _ hf
  have hB349 : ∀ (x2 : Int32) (k10 : MS → Int32 → Int32 → Option (Unit × MS)) (hk10 : ∀ (S : MS) (x3 : Int32) (x4 : Int32), k10 S x3 x4 = some res → GG p l e rm_reckonAll s m args below meth c dC dI A 7 0 0 Q (MW E h r S) 10 [(0, .ref h), (2, .int x2), (3, .int x3), (4, .int x4)] []) (S : MS) (x3 : Int32) (x4 : Int32) (x6 : Int32) (t0 : Int64) (t1 : Int64), M_reckonAll_B349 F k10 S x2 x3 x4 x6 t0 t1 = some res → GG p l e rm_reckonAll s m args below meth c dC dI A 7 0 0 Q (MW E h r S) 349 [(0, .ref h), (2, .int x2), (3, .int x3), (4, .int x4), (6, .int x6)] [.long t1, .long t0] := by
    intro x2 k10 hk10 S x3 x4 x6 t0 t1 hf
    unfold M_reckonAll_B349 at hf
    refine g_lcmp_ne (tgt := 360) X dX11_reckonAll_349 dX11_reckonAll_350 (by decide) hf (fun hf => ?_) (fun hf => ?_)
    · refine g_iinc (lv' := [(3, .int (x3 + (-1 : Int32))), (0, .ref h), (2, .int x2), (4, .int x4), (6, .int x6)]) X dX11_reckonAll_360 2 rfl kc_m1 (by decide) rfl ?_
      refine g_lv [1, 2, 0, 3] (lv' := [(0, .ref h), (2, .int x2), (3, .int (x3 + (-1 : Int32))), (4, .int x4)]) rfl ?_
      exact hB363 _ _ hk10 _ _ _ hf
    refine g_iload X dX11_reckonAll_353 4 rfl ?_
    refine g_istore (lv' := [(4, .int x6), (0, .ref h), (2, .int x2), (3, .int x3), (6, .int x6)]) X dX11_reckonAll_355 (by decide) rfl ?_
    refine g_goto (tgt := 363) X dX11_reckonAll_357 (by decide) ?_
    refine g_lv [1, 2, 3, 0] (lv' := [(0, .ref h), (2, .int x2), (3, .int x3), (4, .int x6)]) rfl ?_
    exact hB363 _ _ hk10 _ _ _ hf
  have hB295 : ∀ (x2 : Int32) (k10 : MS → Int32 → Int32 → Option (Unit × MS)) (hk10 : ∀ (S : MS) (x3 : Int32) (x4 : Int32), k10 S x3 x4 = some res → GG p l e rm_reckonAll s m args below meth c dC dI A 7 0 0 Q (MW E h r S) 10 [(0, .ref h), (2, .int x2), (3, .int x3), (4, .int x4)] []) (S : MS) (x3 : Int32) (x4 : Int32) (t1 : Int32), M_reckonAll_B295 F k10 S x2 x3 x4 t1 = some res → GG p l e rm_reckonAll s m args below meth c dC dI A 7 0 0 Q (MW E h r S) 295 [(0, .ref h), (2, .int x2), (3, .int x3), (4, .int x4)] [.int t1, .ref h] := by
    intro x2 k10 hk10 S x3 x4 t1 hf
    unfold M_reckonAll_B295 at hf
    obtain ⟨hz295, hf⟩ := chk_some hf
    refine m_put_38 X hz295 dX11_reckonAll_295 hf (fun S2 hf => ?_)
    refine g_goto (tgt := 363) X dX11_reckonAll_298 (by decide) ?_
    exact hB363 _ _ hk10 _ _ _ hf
  have hB290 : ∀ (x2 : Int32) (k10 : MS → Int32 → Int32 → Option (Unit × MS)) (hk10 : ∀ (S : MS) (x3 : Int32) (x4 : Int32), k10 S x3 x4 = some res → GG p l e rm_reckonAll s m args below meth c dC dI A 7 0 0 Q (MW E h r S) 10 [(0, .ref h), (2, .int x2), (3, .int x3), (4, .int x4)] []) (S : MS) (x3 : Int32) (x4 : Int32), M_reckonAll_B290 F k10 S x2 x3 x4 = some res → GG p l e rm_reckonAll s m args below meth c dC dI A 7 0 0 Q (MW E h r S) 290 [(0, .ref h), (2, .int x2), (3, .int x3), (4, .int x4)] [.ref h] := by
    intro x2 k10 hk10 S x3 x4 hf
    unfold M_reckonAll_B290 at hf
    refine g_iconst X dX11_reckonAll_290 kc_1 ?_
    refine g_goto (tgt := 295) X dX11_reckonAll_291 (by decide) ?_
    exact hB295 _ _ hk10 _ _ _ _ hf
  have hB217 : ∀ (x2 : Int32) (k10 : MS → Int32 → Int32 → Option (Unit × MS)) (hk10 : ∀ (S : MS) (x3 : Int32) (x4 : Int32), k10 S x3 x4 = some res → GG p l e rm_reckonAll s m args below meth c dC dI A 7 0 0 Q (MW E h r S) 10 [(0, .ref h), (2, .int x2), (3, .int x3), (4, .int x4)] []) (S : MS) (x3 : Int32) (x4 : Int32) (t1 : Int32) (t2 : Int64), M_reckonAll_B217 F k10 S x2 x3 x4 t1 t2 = some res → GG p l e rm_reckonAll s m args below meth c dC dI A 7 0 0 Q (MW E h r S) 217 [(0, .ref h), (2, .int x2), (3, .int x3), (4, .int x4)] [.long t2, .int t1, .ref (r 37)] := by
    intro x2 k10 hk10 S x3 x4 t1 t2 hf
    unfold M_reckonAll_B217 at hf
    refine m_ast_37 X dX11_reckonAll_217 hf (fun S3 hf => ?_)
    refine g_iinc (lv' := [(3, .int (x3 + (1 : Int32))), (0, .ref h), (2, .int x2), (4, .int x4)]) X dX11_reckonAll_218 2 rfl kc_1 (by decide) rfl ?_
    refine g_goto (tgt := 363) X dX11_reckonAll_221 (by decide) ?_
    refine g_lv [1, 2, 0, 3] (lv' := [(0, .ref h), (2, .int x2), (3, .int (x3 + (1 : Int32))), (4, .int x4)]) rfl ?_
    exact hB363 _ _ hk10 _ _ _ hf
  have hB187 : ∀ (x2 : Int32) (k10 : MS → Int32 → Int32 → Option (Unit × MS)) (hk10 : ∀ (S : MS) (x3 : Int32) (x4 : Int32), k10 S x3 x4 = some res → GG p l e rm_reckonAll s m args below meth c dC dI A 7 0 0 Q (MW E h r S) 10 [(0, .ref h), (2, .int x2), (3, .int x3), (4, .int x4)] []) (S : MS) (x3 : Int32) (x4 : Int32) (t1 : Int32) (t2 : Int32), M_reckonAll_B187 F k10 S x2 x3 x4 t1 t2 = some res → GG p l e rm_reckonAll s m args below meth c dC dI A 7 0 0 Q (MW E h r S) 187 [(0, .ref h), (2, .int x2), (3, .int x3), (4, .int x4)] [.int t2, .int t1, .ref (r 37)] := by
    intro x2 k10 hk10 S x3 x4 t1 t2 hf
    unfold M_reckonAll_B187 at hf
    refine g_i2l X dX11_reckonAll_187 ?_
    refine g_goto (tgt := 217) X dX11_reckonAll_188 (by decide) ?_
    exact hB217 _ _ hk10 _ _ _ _ _ hf
  have hB95 : ∀ (x2 : Int32) (k10 : MS → Int32 → Int32 → Option (Unit × MS)) (hk10 : ∀ (S : MS) (x3 : Int32) (x4 : Int32), k10 S x3 x4 = some res → GG p l e rm_reckonAll s m args below meth c dC dI A 7 0 0 Q (MW E h r S) 10 [(0, .ref h), (2, .int x2), (3, .int x3), (4, .int x4)] []) (S : MS) (x3 : Int32) (x4 : Int32) (x5 : Int32) (t0 : Int32), M_reckonAll_B95 F k10 S x2 x3 x4 x5 t0 = some res → GG p l e rm_reckonAll s m args below meth c dC dI A 7 0 0 Q (MW E h r S) 95 [(0, .ref h), (2, .int x2), (3, .int x3), (4, .int x4), (5, .int x5)] [.int t0] := by
    intro x2 k10 hk10 S x3 x4 x5 t0 hf
    unfold M_reckonAll_B95 at hf
    refine g_istore (lv' := [(6, .int t0), (0, .ref h), (2, .int x2), (3, .int x3), (4, .int x4), (5, .int x5)]) X dX11_reckonAll_95 (by decide) rfl ?_
    refine g_iinc (lv' := [(4, .int (x4 + (1 : Int32))), (6, .int t0), (0, .ref h), (2, .int x2), (3, .int x3), (5, .int x5)]) X dX11_reckonAll_97 4 rfl kc_1 (by decide) rfl ?_
    refine g_iload X dX11_reckonAll_100 5 rfl ?_
    refine g_bipush X dX11_reckonAll_102 kb_20 ?_
    refine g_icmp_ge (tgt := 224) X dX11_reckonAll_104 (by decide) hf (fun hf => ?_) (fun hf => ?_)
    · refine g_iload X dX11_reckonAll_224 5 rfl ?_
      refine g_bipush X dX11_reckonAll_226 kb_28 ?_
      refine g_icmp_ge (tgt := 301) X dX11_reckonAll_228 (by decide) hf (fun hf => ?_) (fun hf => ?_)
      · refine g_iload X dX11_reckonAll_301 5 rfl ?_
        refine g_bipush X dX11_reckonAll_303 kb_28 ?_
        refine g_icmp_ne (tgt := 329) X dX11_reckonAll_305 (by decide) hf (fun hf => ?_) (fun hf => ?_)
        · refine g_aload_n X dX11_reckonAll_329 2 rfl ?_
          refine m_get_37 X dX11_reckonAll_330 ?_
          refine g_iload_n X dX11_reckonAll_333 4 rfl ?_
          refine g_iconst X dX11_reckonAll_334 kc_1 ?_
          refine g_isub X dX11_reckonAll_335 ?_
          refine m_ald_37 X dX11_reckonAll_336 hf (fun hf => ?_)
          refine g_iload X dX11_reckonAll_337 5 rfl ?_
          refine g_bipush X dX11_reckonAll_339 kb_29 ?_
          refine g_icmp_ne (tgt := 348) X dX11_reckonAll_341 (by decide) hf (fun hf => ?_) (fun hf => ?_)
          · refine g_lconst X dX11_reckonAll_348 kl_1 ?_
            refine g_lv [2, 3, 4, 0, 1] (lv' := [(0, .ref h), (2, .int x2), (3, .int x3), (4, .int (x4 + (1 : Int32))), (6, .int t0)]) rfl ?_
            exact hB349 _ _ hk10 _ _ _ _ _ _ hf
          refine g_lconst X dX11_reckonAll_344 kl_0 ?_
          refine g_goto (tgt := 349) X dX11_reckonAll_345 (by decide) ?_
          refine g_lv [2, 3, 4, 0, 1] (lv' := [(0, .ref h), (2, .int x2), (3, .int x3), (4, .int (x4 + (1 : Int32))), (6, .int t0)]) rfl ?_
          exact hB349 _ _ hk10 _ _ _ _ _ _ hf
        refine g_aload_n X dX11_reckonAll_308 2 rfl ?_
        refine m_get_37 X dX11_reckonAll_309 ?_
        refine g_iload_n X dX11_reckonAll_312 4 rfl ?_
        refine g_iconst X dX11_reckonAll_313 kc_1 ?_
        refine g_isub X dX11_reckonAll_314 ?_
        refine g_lconst X dX11_reckonAll_315 kl_1 ?_
        refine g_aload_n X dX11_reckonAll_316 2 rfl ?_
        refine m_get_37 X dX11_reckonAll_317 ?_
        refine g_iload_n X dX11_reckonAll_320 4 rfl ?_
        refine g_iconst X dX11_reckonAll_321 kc_1 ?_
        refine g_isub X dX11_reckonAll_322 ?_
        refine m_ald_37 X dX11_reckonAll_323 hf (fun hf => ?_)
        refine g_lsub X dX11_reckonAll_324 ?_
        refine m_ast_37 X dX11_reckonAll_325 hf (fun S4 hf => ?_)
        refine g_goto (tgt := 363) X dX11_reckonAll_326 (by decide) ?_
        refine g_lv [2, 3, 4, 0] (lv' := [(0, .ref h), (2, .int x2), (3, .int x3), (4, .int (x4 + (1 : Int32)))]) rfl ?_
        exact hB363 _ _ hk10 _ _ _ hf
      refine g_iinc (lv' := [(3, .int (x3 + (-1 : Int32))), (4, .int (x4 + (1 : Int32))), (6, .int t0), (0, .ref h), (2, .int x2), (5, .int x5)]) X dX11_reckonAll_231 4 rfl kc_m1 (by decide) rfl ?_
      refine g_aload_n X dX11_reckonAll_234 3 rfl ?_
      refine m_get_37 X dX11_reckonAll_235 ?_
      refine g_iload_n X dX11_reckonAll_238 0 rfl ?_
      refine g_iconst X dX11_reckonAll_239 kc_1 ?_
      refine g_isub X dX11_reckonAll_240 ?_
      refine g_aload_n X dX11_reckonAll_241 3 rfl ?_
      refine g_iload X dX11_reckonAll_242 5 rfl ?_
      refine g_aload_n X dX11_reckonAll_244 3 rfl ?_
      refine m_get_37 X dX11_reckonAll_245 ?_
      refine g_iload_n X dX11_reckonAll_248 0 rfl ?_
      refine g_iconst X dX11_reckonAll_249 kc_1 ?_
      refine g_isub X dX11_reckonAll_250 ?_
      refine m_ald_37 X dX11_reckonAll_251 hf (fun hf => ?_)
      refine g_aload_n X dX11_reckonAll_252 3 rfl ?_
      refine m_get_37 X dX11_reckonAll_253 ?_
      refine g_iload_n X dX11_reckonAll_256 0 rfl ?_
      refine m_ald_37 X dX11_reckonAll_257 hf (fun hf => ?_)
      refine m_bind hf (fun q5 hq5 hf => ?_)
      refine m_callV_l (As := [.int x5, .long (mb S 37 (((x3 + (-1 : Int32)) - (1 : Int32))).toNatClampNeg), .long (mb S 37 ((x3 + (-1 : Int32))).toNatClampNeg)]) (st := [.int ((x3 + (-1 : Int32)) - (1 : Int32)), .ref (r 37)]) X kV_396 (c_reckon l dC dI E h r S x5 (mb S 37 (((x3 + (-1 : Int32)) - (1 : Int32))).toNatClampNeg) (mb S 37 ((x3 + (-1 : Int32))).toNatClampNeg) q5 hq5) ⟨Nat.le_of_ble_eq_true rfl, Nat.le_of_ble_eq_true rfl⟩ ⟨rfl, rfl⟩ (Nat.le_of_ble_eq_true rfl) ⟨Nat.le_of_ble_eq_true rfl, Nat.le_of_ble_eq_true rfl⟩ dX11_reckonAll_258 ?_
      refine m_ast_37 X dX11_reckonAll_261 hf (fun S6 hf => ?_)
      refine g_aload_n X dX11_reckonAll_262 3 rfl ?_
      refine g_aload_n X dX11_reckonAll_263 3 rfl ?_
      refine m_get_38 X dX11_reckonAll_264 ?_
      refine g_if_ne (tgt := 290) X dX11_reckonAll_267 (by decide) hf (fun hf => ?_) (fun hf => ?_)
      · refine g_lv [3, 4, 0, 1] (lv' := [(0, .ref h), (2, .int x2), (3, .int (x3 + (-1 : Int32))), (4, .int (x4 + (1 : Int32)))]) rfl ?_
        exact hB290 _ _ hk10 _ _ _ hf
      refine g_aload_n X dX11_reckonAll_270 3 rfl ?_
      refine m_get_37 X dX11_reckonAll_271 ?_
      refine g_iload_n X dX11_reckonAll_274 0 rfl ?_
      refine g_iconst X dX11_reckonAll_275 kc_1 ?_
      refine g_isub X dX11_reckonAll_276 ?_
      refine m_ald_37 X dX11_reckonAll_277 hf (fun hf => ?_)
      refine g_ldc2 X dX11_reckonAll_278 wd6_164 ?_
      refine g_ldc2 X dX11_reckonAll_281 wd6_165 ?_
      refine m_bind hf (fun q7 hq7 hf => ?_)
      refine m_callS_i (As := [.long (mb S6 37 (((x3 + (-1 : Int32)) - (1 : Int32))).toNatClampNeg), .long (-1000000000 : Int64), .long (1000000000 : Int64)]) (st := [.ref h]) X kS_179 (c_in l dC dI E h r S6 (mb S6 37 (((x3 + (-1 : Int32)) - (1 : Int32))).toNatClampNeg) (-1000000000 : Int64) (1000000000 : Int64) q7 hq7) ⟨Nat.le_of_ble_eq_true rfl, Nat.le_of_ble_eq_true rfl⟩ ⟨rfl, rfl⟩ (Nat.le_of_ble_eq_true rfl) ⟨Nat.le_of_ble_eq_true rfl, Nat.le_of_ble_eq_true rfl⟩ dX11_reckonAll_284 ?_
      refine g_if_ne (tgt := 294) X dX11_reckonAll_287 (by decide) hf (fun hf => ?_) (fun hf => ?_)
      · refine g_iconst X dX11_reckonAll_294 kc_0 ?_
        refine g_lv [3, 4, 0, 1] (lv' := [(0, .ref h), (2, .int x2), (3, .int (x3 + (-1 : Int32))), (4, .int (x4 + (1 : Int32)))]) rfl ?_
        exact hB295 _ _ hk10 _ _ _ _ hf
      refine g_lv [3, 4, 0, 1] (lv' := [(0, .ref h), (2, .int x2), (3, .int (x3 + (-1 : Int32))), (4, .int (x4 + (1 : Int32)))]) rfl ?_
      exact hB290 _ _ hk10 _ _ _ hf
    refine g_aload_n X dX11_reckonAll_107 2 rfl ?_
    refine m_get_37 X dX11_reckonAll_108 ?_
    refine g_iload_n X dX11_reckonAll_111 4 rfl ?_
    refine g_iload X dX11_reckonAll_112 5 rfl ?_
    refine g_if_ne (tgt := 123) X dX11_reckonAll_114 (by decide) hf (fun hf => ?_) (fun hf => ?_)
    · refine g_aload_n X dX11_reckonAll_123 2 rfl ?_
      refine m_get_20 X dX11_reckonAll_124 ?_
      refine g_if_ne (tgt := 140) X dX11_reckonAll_127 (by decide) hf (fun hf => ?_) (fun hf => ?_)
      · refine g_iload X dX11_reckonAll_140 5 rfl ?_
        refine g_bipush X dX11_reckonAll_142 kb_6 ?_
        refine g_icmp_ge (tgt := 157) X dX11_reckonAll_144 (by decide) hf (fun hf => ?_) (fun hf => ?_)
        · refine g_iload X dX11_reckonAll_157 5 rfl ?_
          refine g_bipush X dX11_reckonAll_159 kb_6 ?_
          refine g_icmp_ne (tgt := 191) X dX11_reckonAll_161 (by decide) hf (fun hf => ?_) (fun hf => ?_)
          · refine g_aload_n X dX11_reckonAll_191 2 rfl ?_
            refine g_iload X dX11_reckonAll_192 1 rfl ?_
            refine m_bind hf (fun q8 hq8 hf => ?_)
            refine m_callV_i (As := [.int t0]) (st := [.int x3, .ref (r 37)]) X kV_200 (c_isLane l dC dI E h r S t0 q8 hq8) ⟨Nat.le_of_ble_eq_true rfl, Nat.le_of_ble_eq_true rfl⟩ ⟨rfl, rfl⟩ (Nat.le_of_ble_eq_true rfl) ⟨Nat.le_of_ble_eq_true rfl, Nat.le_of_ble_eq_true rfl⟩ dX11_reckonAll_194 ?_
            refine g_if_eq (tgt := 214) X dX11_reckonAll_197 (by decide) hf (fun hf => ?_) (fun hf => ?_)
            · refine g_ldc2 X dX11_reckonAll_214 wd6_151 ?_
              refine g_lv [2, 3, 4, 0] (lv' := [(0, .ref h), (2, .int x2), (3, .int x3), (4, .int (x4 + (1 : Int32)))]) rfl ?_
              exact hB217 _ _ hk10 _ _ _ _ _ hf
            refine g_aload_n X dX11_reckonAll_200 2 rfl ?_
            refine m_get_3 X dX11_reckonAll_201 ?_
            refine g_bipush X dX11_reckonAll_204 kb_8 ?_
            refine g_iload X dX11_reckonAll_206 1 rfl ?_
            refine g_iadd X dX11_reckonAll_208 ?_
            refine m_ald_3 X dX11_reckonAll_209 hf (fun hf => ?_)
            refine g_i2l X dX11_reckonAll_210 ?_
            refine g_goto (tgt := 217) X dX11_reckonAll_211 (by decide) ?_
            refine g_lv [2, 3, 4, 0] (lv' := [(0, .ref h), (2, .int x2), (3, .int x3), (4, .int (x4 + (1 : Int32)))]) rfl ?_
            exact hB217 _ _ hk10 _ _ _ _ _ hf
          refine g_aload_n X dX11_reckonAll_164 2 rfl ?_
          refine g_iload X dX11_reckonAll_165 1 rfl ?_
          refine m_bind hf (fun q9 hq9 hf => ?_)
          refine m_callV_i (As := [.int t0]) (st := [.int x3, .ref (r 37)]) X kV_203 (c_isChild l dC dI E h r S t0 q9 hq9) ⟨Nat.le_of_ble_eq_true rfl, Nat.le_of_ble_eq_true rfl⟩ ⟨rfl, rfl⟩ (Nat.le_of_ble_eq_true rfl) ⟨Nat.le_of_ble_eq_true rfl, Nat.le_of_ble_eq_true rfl⟩ dX11_reckonAll_167 ?_
          refine g_if_eq (tgt := 186) X dX11_reckonAll_170 (by decide) hf (fun hf => ?_) (fun hf => ?_)
          · refine g_iconst X dX11_reckonAll_186 kc_m1 ?_
            refine g_lv [2, 3, 4, 0] (lv' := [(0, .ref h), (2, .int x2), (3, .int x3), (4, .int (x4 + (1 : Int32)))]) rfl ?_
            exact hB187 _ _ hk10 _ _ _ _ _ hf
          refine g_aload_n X dX11_reckonAll_173 2 rfl ?_
          refine m_get_3 X dX11_reckonAll_174 ?_
          refine g_bipush X dX11_reckonAll_177 kb_18 ?_
          refine g_iload X dX11_reckonAll_179 1 rfl ?_
          refine g_iadd X dX11_reckonAll_181 ?_
          refine m_ald_3 X dX11_reckonAll_182 hf (fun hf => ?_)
          refine g_goto (tgt := 187) X dX11_reckonAll_183 (by decide) ?_
          refine g_lv [2, 3, 4, 0] (lv' := [(0, .ref h), (2, .int x2), (3, .int x3), (4, .int (x4 + (1 : Int32)))]) rfl ?_
          exact hB187 _ _ hk10 _ _ _ _ _ hf
        refine g_aload_n X dX11_reckonAll_147 2 rfl ?_
        refine m_get_36 X dX11_reckonAll_148 ?_
        refine g_iload X dX11_reckonAll_151 5 rfl ?_
        refine m_ald_36 X dX11_reckonAll_153 hf (fun hf => ?_)
        refine g_goto (tgt := 217) X dX11_reckonAll_154 (by decide) ?_
        refine g_lv [2, 3, 4, 0] (lv' := [(0, .ref h), (2, .int x2), (3, .int x3), (4, .int (x4 + (1 : Int32)))]) rfl ?_
        exact hB217 _ _ hk10 _ _ _ _ _ hf
      refine g_aload_n X dX11_reckonAll_130 2 rfl ?_
      refine m_get_35 X dX11_reckonAll_131 ?_
      refine g_iload X dX11_reckonAll_134 5 rfl ?_
      refine m_ald_35 X dX11_reckonAll_136 hf (fun hf => ?_)
      refine g_goto (tgt := 217) X dX11_reckonAll_137 (by decide) ?_
      refine g_lv [2, 3, 4, 0] (lv' := [(0, .ref h), (2, .int x2), (3, .int x3), (4, .int (x4 + (1 : Int32)))]) rfl ?_
      exact hB217 _ _ hk10 _ _ _ _ _ hf
    refine g_iload X dX11_reckonAll_117 1 rfl ?_
    refine g_i2l X dX11_reckonAll_119 ?_
    refine g_goto (tgt := 217) X dX11_reckonAll_120 (by decide) ?_
    refine g_lv [2, 3, 4, 0] (lv' := [(0, .ref h), (2, .int x2), (3, .int x3), (4, .int (x4 + (1 : Int32)))]) rfl ?_
    exact hB217 _ _ hk10 _ _ _ _ _ hf
  have hB57 : ∀ (x2 : Int32) (k10 : MS → Int32 → Int32 → Option (Unit × MS)) (hk10 : ∀ (S : MS) (x3 : Int32) (x4 : Int32), k10 S x3 x4 = some res → GG p l e rm_reckonAll s m args below meth c dC dI A 7 0 0 Q (MW E h r S) 10 [(0, .ref h), (2, .int x2), (3, .int x3), (4, .int x4)] []) (S : MS) (x3 : Int32) (x4 : Int32) (t0 : Int32), M_reckonAll_B57 F k10 S x2 x3 x4 t0 = some res → GG p l e rm_reckonAll s m args below meth c dC dI A 7 0 0 Q (MW E h r S) 57 [(0, .ref h), (2, .int x2), (3, .int x3), (4, .int x4)] [.int t0] := by
    intro x2 k10 hk10 S x3 x4 t0 hf
    unfold M_reckonAll_B57 at hf
    refine g_istore (lv' := [(5, .int t0), (0, .ref h), (2, .int x2), (3, .int x3), (4, .int x4)]) X dX11_reckonAll_57 (by decide) rfl ?_
    refine g_aload_n X dX11_reckonAll_59 1 rfl ?_
    refine m_get_20 X dX11_reckonAll_60 ?_
    refine g_if_eq (tgt := 76) X dX11_reckonAll_63 (by decide) hf (fun hf => ?_) (fun hf => ?_)
    · refine g_aload_n X dX11_reckonAll_76 1 rfl ?_
      refine m_get_3 X dX11_reckonAll_77 ?_
      refine g_aload_n X dX11_reckonAll_80 1 rfl ?_
      refine m_get_34 X dX11_reckonAll_81 ?_
      refine g_bipush X dX11_reckonAll_84 kb_98 ?_
      refine g_iadd X dX11_reckonAll_86 ?_
      refine g_iconst X dX11_reckonAll_87 kc_2 ?_
      refine g_iload X dX11_reckonAll_88 4 rfl ?_
      refine g_imul X dX11_reckonAll_90 ?_
      refine g_iadd X dX11_reckonAll_91 ?_
      refine g_iconst X dX11_reckonAll_92 kc_1 ?_
      refine g_iadd X dX11_reckonAll_93 ?_
      refine m_ald_3 X dX11_reckonAll_94 hf (fun hf => ?_)
      refine g_lv [1, 2, 3, 4, 0] (lv' := [(0, .ref h), (2, .int x2), (3, .int x3), (4, .int x4), (5, .int t0)]) rfl ?_
      exact hB95 _ _ hk10 _ _ _ _ _ hf
    refine g_aload_n X dX11_reckonAll_66 1 rfl ?_
    refine m_get_25 X dX11_reckonAll_67 ?_
    refine g_iload X dX11_reckonAll_70 4 rfl ?_
    refine m_ald_25 X dX11_reckonAll_72 hf (fun hf => ?_)
    refine g_goto (tgt := 95) X dX11_reckonAll_73 (by decide) ?_
    refine g_lv [1, 2, 3, 4, 0] (lv' := [(0, .ref h), (2, .int x2), (3, .int x3), (4, .int x4), (5, .int t0)]) rfl ?_
    exact hB95 _ _ hk10 _ _ _ _ _ hf
  have hL10 : ∀ (x2 : Int32) (n : Nat) (S : MS) (x3 : Int32) (x4 : Int32), M_reckonAll_L10 F x2 n S x3 x4 = some res → GG p l e rm_reckonAll s m args below meth c dC dI A 7 0 0 Q (MW E h r S) 10 [(0, .ref h), (2, .int x2), (3, .int x3), (4, .int x4)] [] := by
    intro x2 n
    induction n with
    | zero => intro S x3 x4 hf; have hf : (none : Option (Unit × MS)) = some res := hf; cases hf
    | succ n ih =>
      intro S x3 x4 hf
      rw [M_reckonAll_L10] at hf
      refine g_iload X dX11_reckonAll_10 3 rfl ?_
      refine g_iload_n X dX11_reckonAll_12 1 rfl ?_
      refine g_icmp_ge (tgt := 366) X dX11_reckonAll_13 (by decide) hf (fun hf => ?_) (fun hf => ?_)
      · refine g_lv [0, 2] (lv' := [(0, .ref h), (3, .int x3)]) rfl ?_
        exact hB366 _ _ hf
      refine g_aload_n X dX11_reckonAll_16 0 rfl ?_
      refine m_get_38 X dX11_reckonAll_17 ?_
      refine g_if_ne (tgt := 366) X dX11_reckonAll_20 (by decide) hf (fun hf => ?_) (fun hf => ?_)
      · refine g_lv [0, 2] (lv' := [(0, .ref h), (3, .int x3)]) rfl ?_
        exact hB366 _ _ hf
      refine g_aload_n X dX11_reckonAll_23 0 rfl ?_
      refine m_get_20 X dX11_reckonAll_24 ?_
      refine g_if_eq (tgt := 40) X dX11_reckonAll_27 (by decide) hf (fun hf => ?_) (fun hf => ?_)
      · refine g_aload_n X dX11_reckonAll_40 0 rfl ?_
        refine m_get_3 X dX11_reckonAll_41 ?_
        refine g_aload_n X dX11_reckonAll_44 0 rfl ?_
        refine m_get_34 X dX11_reckonAll_45 ?_
        refine g_bipush X dX11_reckonAll_48 kb_98 ?_
        refine g_iadd X dX11_reckonAll_50 ?_
        refine g_iconst X dX11_reckonAll_51 kc_2 ?_
        refine g_iload X dX11_reckonAll_52 3 rfl ?_
        refine g_imul X dX11_reckonAll_54 ?_
        refine g_iadd X dX11_reckonAll_55 ?_
        refine m_ald_3 X dX11_reckonAll_56 hf (fun hf => ?_)
        exact hB57 _ _ ih _ _ _ _ hf
      refine g_aload_n X dX11_reckonAll_30 0 rfl ?_
      refine m_get_24 X dX11_reckonAll_31 ?_
      refine g_iload X dX11_reckonAll_34 3 rfl ?_
      refine m_ald_24 X dX11_reckonAll_36 hf (fun hf => ?_)
      refine g_goto (tgt := 57) X dX11_reckonAll_37 (by decide) ?_
      exact hB57 _ _ ih _ _ _ _ hf
  refine g_lv [0, 1, 2] (lv' := [(0, .ref h), (1, .int x1), (2, .int x2)]) rfl ?_
  unfold M_reckonAll at hf
  refine g_aload_n X dX11_reckonAll_0 0 rfl ?_
  refine g_iconst X dX11_reckonAll_1 kc_0 ?_
  refine m_put_38 X (Or.inl rfl) dX11_reckonAll_2 hf (fun S10 hf => ?_)
  refine g_iconst X dX11_reckonAll_5 kc_0 ?_
  refine g_istore_n (i := 3) (lv' := [(3, .int (0 : Int32)), (0, .ref h), (1, .int x1), (2, .int x2)]) X dX11_reckonAll_6 rfl (by decide) rfl ?_
  refine g_iload_n X dX11_reckonAll_7 2 rfl ?_
  refine g_istore (lv' := [(4, .int x1), (3, .int (0 : Int32)), (0, .ref h), (1, .int x1), (2, .int x2)]) X dX11_reckonAll_8 (by decide) rfl ?_
  refine g_lv [2, 4, 1, 0] (lv' := [(0, .ref h), (2, .int x2), (3, .int (0 : Int32)), (4, .int x1)]) rfl ?_
  exact hL10 _ _ _ _ _ hf
def rm_isSo : Room := { frames := 3, cells := 0, slots := 0, locals := 72 }
set_option maxRecDepth 100000 in
set_option maxHeartbeats 4000000 in
theorem c_isSo (l : Launch) (dC : Nat → ClassId) (dI : Nat → Nat → Nat) (E : Nat → ClassId) (h : Nat) (r : Nat → Nat) (F : Nat) (S : MS) (x1 : Int32) (res : Int32 × MS) (hf : M_isSo F S x1 = some res) : MC l dC dI E yX11_isSo cX11_isSo 2 (some .boolean) rm_isSo [.ref h, .int x1] (MW E h r S) (MW E h r res.2) (some (.int res.1)) := by
  refine MC_of (own := "LostLanesModel") (by decide) rfl (Nat.le_of_ble_eq_true rfl) ?_
  intro p e s m args below meth c A Q X hr hlk hA hQ
  have hB59 : ∀ (S : MS) (x1 : Int32), M_isSo_B59 F S x1 = some res → GG p l e rm_isSo s m args below meth c dC dI A 2 0 0 Q (MW E h r S) 59 [(0, .ref h), (1, .int x1)] [] := by
    intro S x1 hf
    unfold M_isSo_B59 at hf
    refine g_aload_n X dX11_isSo_59 0 rfl ?_
    refine m_get_3 X dX11_isSo_60 ?_
    refine g_iload_n X dX11_isSo_63 1 rfl ?_
    refine m_ald_3 X dX11_isSo_64 hf (fun hf => ?_)
    refine g_iconst X dX11_isSo_65 kc_2 ?_
    refine g_icmp_eq (tgt := 110) X dX11_isSo_66 (by decide) hf (fun hf => ?_) (fun hf => ?_)
    · refine g_iconst X dX11_isSo_110 kc_1 ?_
      exact m_retz_s hA hQ X hr hlk (Or.inr rfl) dX11_isSo_111 hf
    refine g_aload_n X dX11_isSo_69 0 rfl ?_
    refine g_aload_n X dX11_isSo_70 0 rfl ?_
    refine m_get_3 X dX11_isSo_71 ?_
    refine g_iload_n X dX11_isSo_74 1 rfl ?_
    refine g_iconst X dX11_isSo_75 kc_3 ?_
    refine g_iadd X dX11_isSo_76 ?_
    refine m_ald_3 X dX11_isSo_77 hf (fun hf => ?_)
    refine g_aload_n X dX11_isSo_78 0 rfl ?_
    refine m_get_3 X dX11_isSo_79 ?_
    refine g_iload_n X dX11_isSo_82 1 rfl ?_
    refine g_iconst X dX11_isSo_83 kc_4 ?_
    refine g_iadd X dX11_isSo_84 ?_
    refine m_ald_3 X dX11_isSo_85 hf (fun hf => ?_)
    refine m_bind hf (fun q1 hq1 hf => ?_)
    refine m_callV_v (As := [.int (ma S 3 ((x1 + (3 : Int32))).toNatClampNeg), .int (ma S 3 ((x1 + (4 : Int32))).toNatClampNeg)]) (st := []) X kV_407 (c_reckonAll l dC dI E h r F S (ma S 3 ((x1 + (3 : Int32))).toNatClampNeg) (ma S 3 ((x1 + (4 : Int32))).toNatClampNeg) q1 hq1) ⟨Nat.le_of_ble_eq_true rfl, Nat.le_of_ble_eq_true rfl⟩ ⟨rfl, rfl⟩ (Nat.le_of_ble_eq_true rfl) ⟨Nat.le_of_ble_eq_true rfl, Nat.le_of_ble_eq_true rfl⟩ dX11_isSo_86 ?_
    refine g_aload_n X dX11_isSo_89 0 rfl ?_
    refine g_aload_n X dX11_isSo_90 0 rfl ?_
    refine m_get_39 X dX11_isSo_91 ?_
    refine m_put_40 X dX11_isSo_94 hf (fun S2 hf => ?_)
    refine g_aload_n X dX11_isSo_97 0 rfl ?_
    refine m_get_38 X dX11_isSo_98 ?_
    refine g_if_ne (tgt := 108) X dX11_isSo_101 (by decide) hf (fun hf => ?_) (fun hf => ?_)
    · refine g_iconst X dX11_isSo_108 kc_0 ?_
      exact m_retz_s hA hQ X hr hlk (Or.inl rfl) dX11_isSo_109 hf
    refine g_iconst X dX11_isSo_104 kc_1 ?_
    refine g_goto (tgt := 109) X dX11_isSo_105 (by decide) ?_
    exact m_retz_s hA hQ X hr hlk (Or.inr rfl) dX11_isSo_109 hf
  refine g_lv [0, 1] (lv' := [(0, .ref h), (1, .int x1)]) rfl ?_
  unfold M_isSo at hf
  refine g_aload_n X dX11_isSo_0 0 rfl ?_
  refine m_get_3 X dX11_isSo_1 ?_
  refine g_iload_n X dX11_isSo_4 1 rfl ?_
  refine g_iconst X dX11_isSo_5 kc_5 ?_
  refine g_iadd X dX11_isSo_6 ?_
  refine m_ald_3 X dX11_isSo_7 hf (fun hf => ?_)
  refine g_aload_n X dX11_isSo_8 0 rfl ?_
  refine m_get_3 X dX11_isSo_9 ?_
  refine g_iload_n X dX11_isSo_12 1 rfl ?_
  refine g_bipush X dX11_isSo_13 kb_6 ?_
  refine g_iadd X dX11_isSo_15 ?_
  refine m_ald_3 X dX11_isSo_16 hf (fun hf => ?_)
  refine g_icmp_ge (tgt := 59) X dX11_isSo_17 (by decide) hf (fun hf => ?_) (fun hf => ?_)
  · exact hB59 _ _ hf
  refine g_aload_n X dX11_isSo_20 0 rfl ?_
  refine g_aload_n X dX11_isSo_21 0 rfl ?_
  refine m_get_3 X dX11_isSo_22 ?_
  refine g_iload_n X dX11_isSo_25 1 rfl ?_
  refine g_iconst X dX11_isSo_26 kc_5 ?_
  refine g_iadd X dX11_isSo_27 ?_
  refine m_ald_3 X dX11_isSo_28 hf (fun hf => ?_)
  refine g_aload_n X dX11_isSo_29 0 rfl ?_
  refine m_get_3 X dX11_isSo_30 ?_
  refine g_iload_n X dX11_isSo_33 1 rfl ?_
  refine g_bipush X dX11_isSo_34 kb_6 ?_
  refine g_iadd X dX11_isSo_36 ?_
  refine m_ald_3 X dX11_isSo_37 hf (fun hf => ?_)
  refine m_bind hf (fun q3 hq3 hf => ?_)
  refine m_callV_v (As := [.int (ma S 3 ((x1 + (5 : Int32))).toNatClampNeg), .int (ma S 3 ((x1 + (6 : Int32))).toNatClampNeg)]) (st := []) X kV_407 (c_reckonAll l dC dI E h r F S (ma S 3 ((x1 + (5 : Int32))).toNatClampNeg) (ma S 3 ((x1 + (6 : Int32))).toNatClampNeg) q3 hq3) ⟨Nat.le_of_ble_eq_true rfl, Nat.le_of_ble_eq_true rfl⟩ ⟨rfl, rfl⟩ (Nat.le_of_ble_eq_true rfl) ⟨Nat.le_of_ble_eq_true rfl, Nat.le_of_ble_eq_true rfl⟩ dX11_isSo_38 ?_
  refine g_aload_n X dX11_isSo_41 0 rfl ?_
  refine m_get_38 X dX11_isSo_42 ?_
  refine g_if_ne (tgt := 57) X dX11_isSo_45 (by decide) hf (fun hf => ?_) (fun hf => ?_)
  · refine g_iconst X dX11_isSo_57 kc_0 ?_
    exact m_retz_s hA hQ X hr hlk (Or.inl rfl) dX11_isSo_58 hf
  refine g_aload_n X dX11_isSo_48 0 rfl ?_
  refine m_get_39 X dX11_isSo_49 ?_
  refine g_lconst X dX11_isSo_52 kl_0 ?_
  refine g_lcmp_ne (tgt := 59) X dX11_isSo_53 dX11_isSo_54 (by decide) hf (fun hf => ?_) (fun hf => ?_)
  · exact hB59 _ _ hf
  refine g_iconst X dX11_isSo_57 kc_0 ?_
  exact m_retz_s hA hQ X hr hlk (Or.inl rfl) dX11_isSo_58 hf
def rm_tells : Room := { frames := 4, cells := 0, slots := 0, locals := 93 }
set_option maxRecDepth 100000 in
set_option maxHeartbeats 4000000 in
theorem c_tells (l : Launch) (dC : Nat → ClassId) (dI : Nat → Nat → Nat) (E : Nat → ClassId) (h : Nat) (r : Nat → Nat) (F : Nat) (S : MS) (x1 : Int32) (x2 : Int32) (x3 : Int32) (x4 : Int64) (res : Int64 × MS) (hf : M_tells F S x1 x2 x3 x4 = some res) : MC l dC dI E yX11_tells cX11_tells 10 (some .long) rm_tells [.ref h, .int x1, .int x2, .int x3, .long x4] (MW E h r S) (MW E h r res.2) (some (.long res.1)) := by
  refine MC_of (own := "LostLanesModel") (by decide) rfl (Nat.le_of_ble_eq_true rfl) ?_
  intro p e s m args below meth c A Q X hr hlk hA hQ
  have hB251 : ∀ (x1 : Int32) (k186 : MS → Int64 → Int32 → Option (Int64 × MS)) (hk186 : ∀ (S : MS) (x6 : Int64) (x8 : Int32), k186 S x6 x8 = some res → GG p l e rm_tells s m args below meth c dC dI A 10 0 0 Q (MW E h r S) 186 [(0, .ref h), (1, .int x1), (6, .long x6), (8, .int x8)] []) (S : MS) (x6 : Int64) (x8 : Int32), M_tells_B251 F k186 S x1 x6 x8 = some res → GG p l e rm_tells s m args below meth c dC dI A 10 0 0 Q (MW E h r S) 251 [(0, .ref h), (1, .int x1), (6, .long x6), (8, .int x8)] [] := by
    intro x1 k186 hk186 S x6 x8 hf
    unfold M_tells_B251 at hf
    refine g_iinc (lv' := [(8, .int (x8 + (1 : Int32))), (0, .ref h), (1, .int x1), (6, .long x6)]) X dX11_tells_251 3 rfl kc_1 (by decide) rfl ?_
    refine g_goto (tgt := 186) X dX11_tells_254 (by decide) ?_
    refine g_lv [1, 2, 3, 0] (lv' := [(0, .ref h), (1, .int x1), (6, .long x6), (8, .int (x8 + (1 : Int32)))]) rfl ?_
    exact hk186 _ _ _ hf
  have hB249 : ∀ (x1 : Int32) (k186 : MS → Int64 → Int32 → Option (Int64 × MS)) (hk186 : ∀ (S : MS) (x6 : Int64) (x8 : Int32), k186 S x6 x8 = some res → GG p l e rm_tells s m args below meth c dC dI A 10 0 0 Q (MW E h r S) 186 [(0, .ref h), (1, .int x1), (6, .long x6), (8, .int x8)] []) (S : MS) (x8 : Int32) (t0 : Int64), M_tells_B249 F k186 S x1 x8 t0 = some res → GG p l e rm_tells s m args below meth c dC dI A 10 0 0 Q (MW E h r S) 249 [(0, .ref h), (1, .int x1), (8, .int x8)] [.long t0] := by
    intro x1 k186 hk186 S x8 t0 hf
    unfold M_tells_B249 at hf
    refine g_lstore (lv' := [(6, .long t0), (0, .ref h), (1, .int x1), (8, .int x8)]) X dX11_tells_249 (by decide) rfl ?_
    refine g_lv [1, 2, 0, 3] (lv' := [(0, .ref h), (1, .int x1), (6, .long t0), (8, .int x8)]) rfl ?_
    exact hB251 _ _ hk186 _ _ _ hf
  have hL186 : ∀ (x1 : Int32) (n : Nat) (S : MS) (x6 : Int64) (x8 : Int32), M_tells_L186 F x1 n S x6 x8 = some res → GG p l e rm_tells s m args below meth c dC dI A 10 0 0 Q (MW E h r S) 186 [(0, .ref h), (1, .int x1), (6, .long x6), (8, .int x8)] [] := by
    intro x1 n
    induction n with
    | zero => intro S x6 x8 hf; have hf : (none : Option (Int64 × MS)) = some res := hf; cases hf
    | succ n ih =>
      intro S x6 x8 hf
      rw [M_tells_L186] at hf
      refine g_iload X dX11_tells_186 3 rfl ?_
      refine g_aload_n X dX11_tells_188 0 rfl ?_
      refine m_get_3 X dX11_tells_189 ?_
      refine g_aload_n X dX11_tells_192 0 rfl ?_
      refine m_get_34 X dX11_tells_193 ?_
      refine g_iconst X dX11_tells_196 kc_1 ?_
      refine g_iadd X dX11_tells_197 ?_
      refine m_ald_3 X dX11_tells_198 hf (fun hf => ?_)
      refine g_icmp_ge (tgt := 257) X dX11_tells_199 (by decide) hf (fun hf => ?_) (fun hf => ?_)
      · refine g_lload X dX11_tells_257 2 rfl ?_
        exact m_retl_s hA hQ X hr hlk dX11_tells_259 hf
      refine g_aload_n X dX11_tells_202 0 rfl ?_
      refine m_get_34 X dX11_tells_203 ?_
      refine g_iconst X dX11_tells_206 kc_2 ?_
      refine g_iadd X dX11_tells_207 ?_
      refine g_bipush X dX11_tells_208 kb_8 ?_
      refine g_iload X dX11_tells_210 3 rfl ?_
      refine g_imul X dX11_tells_212 ?_
      refine g_iadd X dX11_tells_213 ?_
      refine g_istore (lv' := [(9, .int (((mi S 34) + (2 : Int32)) + ((8 : Int32) * x8))), (0, .ref h), (1, .int x1), (6, .long x6), (8, .int x8)]) X dX11_tells_214 (by decide) rfl ?_
      refine g_aload_n X dX11_tells_216 1 rfl ?_
      refine m_get_3 X dX11_tells_217 ?_
      refine g_iload X dX11_tells_220 0 rfl ?_
      refine m_ald_3 X dX11_tells_222 hf (fun hf => ?_)
      refine g_iload_n X dX11_tells_223 2 rfl ?_
      refine g_icmp_ne (tgt := 251) X dX11_tells_224 (by decide) hf (fun hf => ?_) (fun hf => ?_)
      · refine g_lv [1, 2, 3, 4] (lv' := [(0, .ref h), (1, .int x1), (6, .long x6), (8, .int x8)]) rfl ?_
        exact hB251 _ _ ih _ _ _ hf
      refine g_aload_n X dX11_tells_227 1 rfl ?_
      refine g_iload X dX11_tells_228 0 rfl ?_
      refine m_bind hf (fun q1 hq1 hf => ?_)
      refine m_callV_i (As := [.int (((mi S 34) + (2 : Int32)) + ((8 : Int32) * x8))]) (st := []) X kV_413 (c_isSo l dC dI E h r F S (((mi S 34) + (2 : Int32)) + ((8 : Int32) * x8)) q1 hq1) ⟨Nat.le_of_ble_eq_true rfl, Nat.le_of_ble_eq_true rfl⟩ ⟨rfl, rfl⟩ (Nat.le_of_ble_eq_true rfl) ⟨Nat.le_of_ble_eq_true rfl, Nat.le_of_ble_eq_true rfl⟩ dX11_tells_230 ?_
      refine g_if_eq (tgt := 251) X dX11_tells_233 (by decide) hf (fun hf => ?_) (fun hf => ?_)
      · refine g_lv [1, 2, 3, 4] (lv' := [(0, .ref h), (1, .int x1), (6, .long x6), (8, .int x8)]) rfl ?_
        exact hB251 _ _ ih _ _ _ hf
      refine g_iload_n X dX11_tells_236 2 rfl ?_
      refine g_iconst X dX11_tells_237 kc_2 ?_
      refine g_icmp_ne (tgt := 245) X dX11_tells_238 (by decide) hf (fun hf => ?_) (fun hf => ?_)
      · refine g_aload_n X dX11_tells_245 1 rfl ?_
        refine m_get_40 X dX11_tells_246 ?_
        refine g_lv [1, 2, 4] (lv' := [(0, .ref h), (1, .int x1), (8, .int x8)]) rfl ?_
        exact hB249 _ _ ih _ _ _ hf
      refine g_lconst X dX11_tells_241 kl_1 ?_
      refine g_goto (tgt := 249) X dX11_tells_242 (by decide) ?_
      refine g_lv [1, 2, 4] (lv' := [(0, .ref h), (1, .int x1), (8, .int x8)]) rfl ?_
      exact hB249 _ _ ih _ _ _ hf
  have hB115 : ∀ (S : MS) (x1 : Int32) (x2 : Int32) (x4 : Int64) (t1 : Int32) (t2 : Int64), M_tells_B115 F S x1 x2 x4 t1 t2 = some res → GG p l e rm_tells s m args below meth c dC dI A 10 0 0 Q (MW E h r S) 115 [(0, .ref h), (1, .int x1), (2, .int x2), (4, .long x4)] [.long t2, .int t1, .ref (r 35)] := by
    intro S x1 x2 x4 t1 t2 hf
    unfold M_tells_B115 at hf
    refine m_ast_35 X dX11_tells_115 hf (fun S2 hf => ?_)
    refine g_aload_n X dX11_tells_116 0 rfl ?_
    refine m_get_35 X dX11_tells_117 ?_
    refine g_bipush X dX11_tells_120 kb_6 ?_
    refine g_aload_n X dX11_tells_122 0 rfl ?_
    refine m_get_3 X dX11_tells_123 ?_
    refine g_bipush X dX11_tells_126 kb_18 ?_
    refine g_iload_n X dX11_tells_128 2 rfl ?_
    refine g_iadd X dX11_tells_129 ?_
    refine m_ald_3 X dX11_tells_130 hf (fun hf => ?_)
    refine g_i2l X dX11_tells_131 ?_
    refine m_astc_35 X kt_6 kx_6_13 dX11_tells_132 hf (fun S3 hf => ?_)
    refine g_aload_n X dX11_tells_133 0 rfl ?_
    refine m_get_35 X dX11_tells_134 ?_
    refine g_bipush X dX11_tells_137 kb_7 ?_
    refine g_aload_n X dX11_tells_139 0 rfl ?_
    refine m_get_3 X dX11_tells_140 ?_
    refine g_bipush X dX11_tells_143 kb_22 ?_
    refine g_iload_n X dX11_tells_145 2 rfl ?_
    refine g_iadd X dX11_tells_146 ?_
    refine m_ald_3 X dX11_tells_147 hf (fun hf => ?_)
    refine g_i2l X dX11_tells_148 ?_
    refine m_astc_35 X kt_7 kx_7_13 dX11_tells_149 hf (fun S4 hf => ?_)
    refine g_aload_n X dX11_tells_150 0 rfl ?_
    refine m_get_35 X dX11_tells_151 ?_
    refine g_bipush X dX11_tells_154 kb_8 ?_
    refine g_aload_n X dX11_tells_156 0 rfl ?_
    refine m_get_3 X dX11_tells_157 ?_
    refine g_iconst X dX11_tells_160 kc_5 ?_
    refine m_aldc_3 X kt_5 kx_5_5476 dX11_tells_161 ?_
    refine g_i2l X dX11_tells_162 ?_
    refine m_astc_35 X kt_8 kx_8_13 dX11_tells_163 hf (fun S5 hf => ?_)
    refine g_aload_n X dX11_tells_164 0 rfl ?_
    refine m_get_35 X dX11_tells_165 ?_
    refine g_bipush X dX11_tells_168 kb_9 ?_
    refine g_aload_n X dX11_tells_170 0 rfl ?_
    refine m_get_3 X dX11_tells_171 ?_
    refine g_bipush X dX11_tells_174 kb_7 ?_
    refine m_aldc_3 X kt_7 kx_7_5476 dX11_tells_176 ?_
    refine g_i2l X dX11_tells_177 ?_
    refine m_astc_35 X kt_9 kx_9_13 dX11_tells_178 hf (fun S6 hf => ?_)
    refine g_lload X dX11_tells_179 3 rfl ?_
    refine g_lstore (lv' := [(6, .long x4), (0, .ref h), (1, .int x1), (2, .int x2), (4, .long x4)]) X dX11_tells_181 (by decide) rfl ?_
    refine g_iconst X dX11_tells_183 kc_0 ?_
    refine g_istore (lv' := [(8, .int (0 : Int32)), (6, .long x4), (0, .ref h), (1, .int x1), (2, .int x2), (4, .long x4)]) X dX11_tells_184 (by decide) rfl ?_
    refine g_lv [2, 3, 1, 0] (lv' := [(0, .ref h), (1, .int x1), (6, .long x4), (8, .int (0 : Int32))]) rfl ?_
    exact hL186 _ _ _ _ _ hf
  have hB88 : ∀ (S : MS) (x1 : Int32) (x2 : Int32) (x3 : Int32) (x4 : Int64) (t1 : Int32) (t2 : Int64), M_tells_B88 F S x1 x2 x3 x4 t1 t2 = some res → GG p l e rm_tells s m args below meth c dC dI A 10 0 0 Q (MW E h r S) 88 [(0, .ref h), (1, .int x1), (2, .int x2), (3, .int x3), (4, .long x4)] [.long t2, .int t1, .ref (r 35)] := by
    intro S x1 x2 x3 x4 t1 t2 hf
    unfold M_tells_B88 at hf
    refine m_ast_35 X dX11_tells_88 hf (fun S7 hf => ?_)
    refine g_aload_n X dX11_tells_89 0 rfl ?_
    refine m_get_35 X dX11_tells_90 ?_
    refine g_iconst X dX11_tells_93 kc_5 ?_
    refine g_iload_n X dX11_tells_94 3 rfl ?_
    refine g_iconst X dX11_tells_95 kc_m1 ?_
    refine g_icmp_ne (tgt := 105) X dX11_tells_96 (by decide) hf (fun hf => ?_) (fun hf => ?_)
    · refine g_aload_n X dX11_tells_105 0 rfl ?_
      refine m_get_3 X dX11_tells_106 ?_
      refine g_bipush X dX11_tells_109 kb_56 ?_
      refine g_iload_n X dX11_tells_111 3 rfl ?_
      refine g_iadd X dX11_tells_112 ?_
      refine m_ald_3 X dX11_tells_113 hf (fun hf => ?_)
      refine g_i2l X dX11_tells_114 ?_
      refine g_lv [0, 1, 2, 4] (lv' := [(0, .ref h), (1, .int x1), (2, .int x2), (4, .long x4)]) rfl ?_
      exact hB115 _ _ _ _ _ _ hf
    refine g_ldc2 X dX11_tells_99 wd6_151 ?_
    refine g_goto (tgt := 115) X dX11_tells_102 (by decide) ?_
    refine g_lv [0, 1, 2, 4] (lv' := [(0, .ref h), (1, .int x1), (2, .int x2), (4, .long x4)]) rfl ?_
    exact hB115 _ _ _ _ _ _ hf
  refine g_lv [0, 1, 2, 3, 4] (lv' := [(0, .ref h), (1, .int x1), (2, .int x2), (3, .int x3), (4, .long x4)]) rfl ?_
  unfold M_tells at hf
  refine g_aload_n X dX11_tells_0 0 rfl ?_
  refine m_get_3 X dX11_tells_1 ?_
  refine g_iconst X dX11_tells_4 kc_4 ?_
  refine m_aldc_3 X kt_4 kx_4_5476 dX11_tells_5 ?_
  refine g_iconst X dX11_tells_6 kc_m1 ?_
  refine g_icmp_ne (tgt := 13) X dX11_tells_7 (by decide) hf (fun hf => ?_) (fun hf => ?_)
  · refine g_aload_n X dX11_tells_13 0 rfl ?_
    refine g_bipush X dX11_tells_14 kb_76 ?_
    refine g_sipush X dX11_tells_16 ks_900 ?_
    refine g_aload_n X dX11_tells_19 0 rfl ?_
    refine m_get_3 X dX11_tells_20 ?_
    refine g_iconst X dX11_tells_23 kc_4 ?_
    refine m_aldc_3 X kt_4 kx_4_5476 dX11_tells_24 ?_
    refine g_imul X dX11_tells_25 ?_
    refine g_iadd X dX11_tells_26 ?_
    refine m_put_34 X dX11_tells_27 hf (fun S8 hf => ?_)
    refine g_aload_n X dX11_tells_30 0 rfl ?_
    refine m_get_35 X dX11_tells_31 ?_
    refine g_iconst X dX11_tells_34 kc_1 ?_
    refine g_iload_n X dX11_tells_35 2 rfl ?_
    refine g_i2l X dX11_tells_36 ?_
    refine m_astc_35 X kt_1 kx_1_13 dX11_tells_37 hf (fun S9 hf => ?_)
    refine g_aload_n X dX11_tells_38 0 rfl ?_
    refine m_get_35 X dX11_tells_39 ?_
    refine g_iconst X dX11_tells_42 kc_2 ?_
    refine g_aload_n X dX11_tells_43 0 rfl ?_
    refine m_get_3 X dX11_tells_44 ?_
    refine g_bipush X dX11_tells_47 kb_66 ?_
    refine g_iload_n X dX11_tells_49 2 rfl ?_
    refine g_iadd X dX11_tells_50 ?_
    refine m_ald_3 X dX11_tells_51 hf (fun hf => ?_)
    refine g_i2l X dX11_tells_52 ?_
    refine m_astc_35 X kt_2 kx_2_13 dX11_tells_53 hf (fun S10 hf => ?_)
    refine g_aload_n X dX11_tells_54 0 rfl ?_
    refine m_get_35 X dX11_tells_55 ?_
    refine g_iconst X dX11_tells_58 kc_3 ?_
    refine g_iload_n X dX11_tells_59 3 rfl ?_
    refine g_i2l X dX11_tells_60 ?_
    refine m_astc_35 X kt_3 kx_3_13 dX11_tells_61 hf (fun S11 hf => ?_)
    refine g_aload_n X dX11_tells_62 0 rfl ?_
    refine m_get_35 X dX11_tells_63 ?_
    refine g_iconst X dX11_tells_66 kc_4 ?_
    refine g_iload_n X dX11_tells_67 3 rfl ?_
    refine g_iconst X dX11_tells_68 kc_m1 ?_
    refine g_icmp_ne (tgt := 78) X dX11_tells_69 (by decide) hf (fun hf => ?_) (fun hf => ?_)
    · refine g_aload_n X dX11_tells_78 0 rfl ?_
      refine m_get_3 X dX11_tells_79 ?_
      refine g_bipush X dX11_tells_82 kb_46 ?_
      refine g_iload_n X dX11_tells_84 3 rfl ?_
      refine g_iadd X dX11_tells_85 ?_
      refine m_ald_3 X dX11_tells_86 hf (fun hf => ?_)
      refine g_i2l X dX11_tells_87 ?_
      exact hB88 _ _ _ _ _ _ _ hf
    refine g_ldc2 X dX11_tells_72 wd6_151 ?_
    refine g_goto (tgt := 88) X dX11_tells_75 (by decide) ?_
    exact hB88 _ _ _ _ _ _ _ hf
  refine g_lload X dX11_tells_10 4 rfl ?_
  exact m_retl_s hA hQ X hr hlk dX11_tells_12 hf
def rm_isBarred : Room := { frames := 5, cells := 0, slots := 0, locals := 122 }
set_option maxRecDepth 100000 in
set_option maxHeartbeats 4000000 in
theorem c_isBarred (l : Launch) (dC : Nat → ClassId) (dI : Nat → Nat → Nat) (E : Nat → ClassId) (h : Nat) (r : Nat → Nat) (F : Nat) (S : MS) (x1 : Int32) (x2 : Int32) (res : Int32 × MS) (hf : M_isBarred F S x1 x2 = some res) : MC l dC dI E yX11_isBarred cX11_isBarred 3 (some .boolean) rm_isBarred [.ref h, .int x1, .int x2] (MW E h r S) (MW E h r res.2) (some (.int res.1)) := by
  refine MC_of (own := "LostLanesModel") (by decide) rfl (Nat.le_of_ble_eq_true rfl) ?_
  intro p e s m args below meth c A Q X hr hlk hA hQ
  refine g_lv [0, 1, 2] (lv' := [(0, .ref h), (1, .int x1), (2, .int x2)]) rfl ?_
  unfold M_isBarred at hf
  refine g_aload_n X dX11_isBarred_0 0 rfl ?_
  refine g_iconst X dX11_isBarred_1 kc_2 ?_
  refine g_iload_n X dX11_isBarred_2 1 rfl ?_
  refine g_iload_n X dX11_isBarred_3 2 rfl ?_
  refine g_lconst X dX11_isBarred_4 kl_0 ?_
  refine m_bind hf (fun q1 hq1 hf => ?_)
  refine m_callV_l (As := [.int (2 : Int32), .int x1, .int x2, .long (0 : Int64)]) (st := []) X kV_416 (c_tells l dC dI E h r F S (2 : Int32) x1 x2 (0 : Int64) q1 hq1) ⟨Nat.le_of_ble_eq_true rfl, Nat.le_of_ble_eq_true rfl⟩ ⟨rfl, rfl⟩ (Nat.le_of_ble_eq_true rfl) ⟨Nat.le_of_ble_eq_true rfl, Nat.le_of_ble_eq_true rfl⟩ dX11_isBarred_5 ?_
  refine g_lconst X dX11_isBarred_8 kl_1 ?_
  refine g_lcmp_ne (tgt := 17) X dX11_isBarred_9 dX11_isBarred_10 (by decide) hf (fun hf => ?_) (fun hf => ?_)
  · refine g_iconst X dX11_isBarred_17 kc_0 ?_
    exact m_retz_s hA hQ X hr hlk (Or.inl rfl) dX11_isBarred_18 hf
  refine g_iconst X dX11_isBarred_13 kc_1 ?_
  refine g_goto (tgt := 18) X dX11_isBarred_14 (by decide) ?_
  exact m_retz_s hA hQ X hr hlk (Or.inr rfl) dX11_isBarred_18 hf
def rm_canGo : Room := { frames := 6, cells := 0, slots := 0, locals := 144 }
set_option maxRecDepth 100000 in
set_option maxHeartbeats 4000000 in
theorem c_canGo (l : Launch) (dC : Nat → ClassId) (dI : Nat → Nat → Nat) (E : Nat → ClassId) (h : Nat) (r : Nat → Nat) (F : Nat) (S : MS) (x1 : Int32) (x2 : Int32) (res : Int32 × MS) (hf : M_canGo F S x1 x2 = some res) : MC l dC dI E yX11_canGo cX11_canGo 3 (some .boolean) rm_canGo [.ref h, .int x1, .int x2] (MW E h r S) (MW E h r res.2) (some (.int res.1)) := by
  refine MC_of (own := "LostLanesModel") (by decide) rfl (Nat.le_of_ble_eq_true rfl) ?_
  intro p e s m args below meth c A Q X hr hlk hA hQ
  refine g_lv [0, 1, 2] (lv' := [(0, .ref h), (1, .int x1), (2, .int x2)]) rfl ?_
  unfold M_canGo at hf
  refine g_aload_n X dX11_canGo_0 0 rfl ?_
  refine g_iload_n X dX11_canGo_1 2 rfl ?_
  refine g_aload_n X dX11_canGo_2 0 rfl ?_
  refine m_get_3 X dX11_canGo_3 ?_
  refine g_bipush X dX11_canGo_6 kb_18 ?_
  refine g_iload_n X dX11_canGo_8 1 rfl ?_
  refine g_iadd X dX11_canGo_9 ?_
  refine m_ald_3 X dX11_canGo_10 hf (fun hf => ?_)
  refine m_bind hf (fun q1 hq1 hf => ?_)
  refine m_callV_i (As := [.int x2, .int (ma S 3 (((18 : Int32) + x1)).toNatClampNeg)]) (st := []) X kV_424 (c_ends l dC dI E h r S x2 (ma S 3 (((18 : Int32) + x1)).toNatClampNeg) q1 hq1) ⟨Nat.le_of_ble_eq_true rfl, Nat.le_of_ble_eq_true rfl⟩ ⟨rfl, rfl⟩ (Nat.le_of_ble_eq_true rfl) ⟨Nat.le_of_ble_eq_true rfl, Nat.le_of_ble_eq_true rfl⟩ dX11_canGo_11 ?_
  refine g_if_eq (tgt := 30) X dX11_canGo_14 (by decide) hf (fun hf => ?_) (fun hf => ?_)
  · refine g_iconst X dX11_canGo_30 kc_0 ?_
    exact m_retz_s hA hQ X hr hlk (Or.inl rfl) dX11_canGo_31 hf
  refine g_aload_n X dX11_canGo_17 0 rfl ?_
  refine g_iload_n X dX11_canGo_18 1 rfl ?_
  refine g_iload_n X dX11_canGo_19 2 rfl ?_
  refine m_bind hf (fun q2 hq2 hf => ?_)
  refine m_callV_i (As := [.int x1, .int x2]) (st := []) X kV_216 (c_isBarred l dC dI E h r F S x1 x2 q2 hq2) ⟨Nat.le_of_ble_eq_true rfl, Nat.le_of_ble_eq_true rfl⟩ ⟨rfl, rfl⟩ (Nat.le_of_ble_eq_true rfl) ⟨Nat.le_of_ble_eq_true rfl, Nat.le_of_ble_eq_true rfl⟩ dX11_canGo_20 ?_
  refine g_if_ne (tgt := 30) X dX11_canGo_23 (by decide) hf (fun hf => ?_) (fun hf => ?_)
  · refine g_iconst X dX11_canGo_30 kc_0 ?_
    exact m_retz_s hA hQ X hr hlk (Or.inl rfl) dX11_canGo_31 hf
  refine g_iconst X dX11_canGo_26 kc_1 ?_
  refine g_goto (tgt := 31) X dX11_canGo_27 (by decide) ?_
  exact m_retz_s hA hQ X hr hlk (Or.inr rfl) dX11_canGo_31 hf
def rm_turnsTo : Room := { frames := 5, cells := 0, slots := 0, locals := 122 }
set_option maxRecDepth 100000 in
set_option maxHeartbeats 4000000 in
theorem c_turnsTo (l : Launch) (dC : Nat → ClassId) (dI : Nat → Nat → Nat) (E : Nat → ClassId) (h : Nat) (r : Nat → Nat) (F : Nat) (S : MS) (x1 : Int32) (res : Int32 × MS) (hf : M_turnsTo F S x1 = some res) : MC l dC dI E yX11_turnsTo cX11_turnsTo 2 (some .int) rm_turnsTo [.ref h, .int x1] (MW E h r S) (MW E h r res.2) (some (.int res.1)) := by
  refine MC_of (own := "LostLanesModel") (by decide) rfl (Nat.le_of_ble_eq_true rfl) ?_
  intro p e s m args below meth c A Q X hr hlk hA hQ
  refine g_lv [0, 1] (lv' := [(0, .ref h), (1, .int x1)]) rfl ?_
  unfold M_turnsTo at hf
  refine g_aload_n X dX11_turnsTo_0 0 rfl ?_
  refine g_iconst X dX11_turnsTo_1 kc_0 ?_
  refine g_iload_n X dX11_turnsTo_2 1 rfl ?_
  refine g_iconst X dX11_turnsTo_3 kc_m1 ?_
  refine g_lconst X dX11_turnsTo_4 kl_0 ?_
  refine m_bind hf (fun q1 hq1 hf => ?_)
  refine m_callV_l (As := [.int (0 : Int32), .int x1, .int (-1 : Int32), .long (0 : Int64)]) (st := []) X kV_416 (c_tells l dC dI E h r F S (0 : Int32) x1 (-1 : Int32) (0 : Int64) q1 hq1) ⟨Nat.le_of_ble_eq_true rfl, Nat.le_of_ble_eq_true rfl⟩ ⟨rfl, rfl⟩ (Nat.le_of_ble_eq_true rfl) ⟨Nat.le_of_ble_eq_true rfl, Nat.le_of_ble_eq_true rfl⟩ dX11_turnsTo_5 ?_
  refine g_iconst X dX11_turnsTo_8 kc_0 ?_
  refine g_bipush X dX11_turnsTo_9 kb_99 ?_
  refine m_bind hf (fun q2 hq2 hf => ?_)
  refine m_callS_i (As := [.long q1.1, .int (0 : Int32), .int (99 : Int32)]) (st := []) X kS_420 (c_bounded l dC dI E h r q1.2 q1.1 (0 : Int32) (99 : Int32) q2 hq2) ⟨Nat.le_of_ble_eq_true rfl, Nat.le_of_ble_eq_true rfl⟩ ⟨rfl, rfl⟩ (Nat.le_of_ble_eq_true rfl) ⟨Nat.le_of_ble_eq_true rfl, Nat.le_of_ble_eq_true rfl⟩ dX11_turnsTo_11 ?_
  exact m_reti_s hA hQ X hr hlk dX11_turnsTo_14 hf
def rm_laneOf : Room := { frames := 7, cells := 0, slots := 0, locals := 166 }
set_option maxRecDepth 100000 in
set_option maxHeartbeats 4000000 in
theorem c_laneOf (l : Launch) (dC : Nat → ClassId) (dI : Nat → Nat → Nat) (E : Nat → ClassId) (h : Nat) (r : Nat → Nat) (F : Nat) (S : MS) (x1 : Int32) (res : Int32 × MS) (hf : M_laneOf F S x1 = some res) : MC l dC dI E yX11_laneOf cX11_laneOf 6 (some .int) rm_laneOf [.ref h, .int x1] (MW E h r S) (MW E h r res.2) (some (.int res.1)) := by
  refine MC_of (own := "LostLanesModel") (by decide) rfl (Nat.le_of_ble_eq_true rfl) ?_
  intro p e s m args below meth c A Q X hr hlk hA hQ
  have hB94 : ∀ (x1 : Int32) (k57 : MS → Int32 → Int32 → Int32 → Option (Int32 × MS)) (hk57 : ∀ (S : MS) (x3 : Int32) (x4 : Int32) (x5 : Int32), k57 S x3 x4 x5 = some res → GG p l e rm_laneOf s m args below meth c dC dI A 6 0 0 Q (MW E h r S) 57 [(0, .ref h), (1, .int x1), (3, .int x3), (4, .int x4), (5, .int x5)] []) (S : MS) (x3 : Int32) (x4 : Int32) (x5 : Int32), M_laneOf_B94 F k57 S x1 x3 x4 x5 = some res → GG p l e rm_laneOf s m args below meth c dC dI A 6 0 0 Q (MW E h r S) 94 [(0, .ref h), (1, .int x1), (3, .int x3), (4, .int x4), (5, .int x5)] [] := by
    intro x1 k57 hk57 S x3 x4 x5 hf
    unfold M_laneOf_B94 at hf
    refine g_iinc (lv' := [(5, .int (x5 + (1 : Int32))), (0, .ref h), (1, .int x1), (3, .int x3), (4, .int x4)]) X dX11_laneOf_94 4 rfl kc_1 (by decide) rfl ?_
    refine g_goto (tgt := 57) X dX11_laneOf_97 (by decide) ?_
    refine g_lv [1, 2, 3, 4, 0] (lv' := [(0, .ref h), (1, .int x1), (3, .int x3), (4, .int x4), (5, .int (x5 + (1 : Int32)))]) rfl ?_
    exact hk57 _ _ _ _ hf
  have hB89 : ∀ (x1 : Int32) (k57 : MS → Int32 → Int32 → Int32 → Option (Int32 × MS)) (hk57 : ∀ (S : MS) (x3 : Int32) (x4 : Int32) (x5 : Int32), k57 S x3 x4 x5 = some res → GG p l e rm_laneOf s m args below meth c dC dI A 6 0 0 Q (MW E h r S) 57 [(0, .ref h), (1, .int x1), (3, .int x3), (4, .int x4), (5, .int x5)] []) (S : MS) (x3 : Int32) (x5 : Int32) (t0 : Int32), M_laneOf_B89 F k57 S x1 x3 x5 t0 = some res → GG p l e rm_laneOf s m args below meth c dC dI A 6 0 0 Q (MW E h r S) 89 [(0, .ref h), (1, .int x1), (3, .int x3), (5, .int x5)] [.int t0] := by
    intro x1 k57 hk57 S x3 x5 t0 hf
    unfold M_laneOf_B89 at hf
    refine g_istore (lv' := [(4, .int t0), (0, .ref h), (1, .int x1), (3, .int x3), (5, .int x5)]) X dX11_laneOf_89 (by decide) rfl ?_
    refine g_iinc (lv' := [(3, .int (x3 + (-1 : Int32))), (4, .int t0), (0, .ref h), (1, .int x1), (5, .int x5)]) X dX11_laneOf_91 3 rfl kc_m1 (by decide) rfl ?_
    refine g_lv [2, 3, 0, 1, 4] (lv' := [(0, .ref h), (1, .int x1), (3, .int (x3 + (-1 : Int32))), (4, .int t0), (5, .int x5)]) rfl ?_
    exact hB94 _ _ hk57 _ _ _ _ hf
  have hL57 : ∀ (x1 : Int32) (n : Nat) (S : MS) (x3 : Int32) (x4 : Int32) (x5 : Int32), M_laneOf_L57 F x1 n S x3 x4 x5 = some res → GG p l e rm_laneOf s m args below meth c dC dI A 6 0 0 Q (MW E h r S) 57 [(0, .ref h), (1, .int x1), (3, .int x3), (4, .int x4), (5, .int x5)] [] := by
    intro x1 n
    induction n with
    | zero => intro S x3 x4 x5 hf; have hf : (none : Option (Int32 × MS)) = some res := hf; cases hf
    | succ n ih =>
      intro S x3 x4 x5 hf
      rw [M_laneOf_L57] at hf
      refine g_iload X dX11_laneOf_57 4 rfl ?_
      refine g_aload_n X dX11_laneOf_59 0 rfl ?_
      refine m_get_3 X dX11_laneOf_60 ?_
      refine g_iconst X dX11_laneOf_63 kc_0 ?_
      refine m_aldc_3 X kt_0 kx_0_5476 dX11_laneOf_64 ?_
      refine g_icmp_ge (tgt := 100) X dX11_laneOf_65 (by decide) hf (fun hf => ?_) (fun hf => ?_)
      · refine g_iload X dX11_laneOf_100 3 rfl ?_
        exact m_reti_s hA hQ X hr hlk dX11_laneOf_102 hf
      refine g_aload_n X dX11_laneOf_68 0 rfl ?_
      refine g_iload_n X dX11_laneOf_69 1 rfl ?_
      refine g_iload X dX11_laneOf_70 4 rfl ?_
      refine m_bind hf (fun q1 hq1 hf => ?_)
      refine m_callV_i (As := [.int x1, .int x5]) (st := []) X kV_427 (c_canGo l dC dI E h r F S x1 x5 q1 hq1) ⟨Nat.le_of_ble_eq_true rfl, Nat.le_of_ble_eq_true rfl⟩ ⟨rfl, rfl⟩ (Nat.le_of_ble_eq_true rfl) ⟨Nat.le_of_ble_eq_true rfl, Nat.le_of_ble_eq_true rfl⟩ dX11_laneOf_72 ?_
      refine g_if_eq (tgt := 94) X dX11_laneOf_75 (by decide) hf (fun hf => ?_) (fun hf => ?_)
      · exact hB94 _ _ ih _ _ _ _ hf
      refine g_iload_n X dX11_laneOf_78 2 rfl ?_
      refine g_if_ne (tgt := 87) X dX11_laneOf_79 (by decide) hf (fun hf => ?_) (fun hf => ?_)
      · refine g_iload X dX11_laneOf_87 3 rfl ?_
        refine g_lv [0, 1, 2, 4] (lv' := [(0, .ref h), (1, .int x1), (3, .int x3), (5, .int x5)]) rfl ?_
        exact hB89 _ _ ih _ _ _ _ hf
      refine g_iload X dX11_laneOf_82 4 rfl ?_
      refine g_goto (tgt := 89) X dX11_laneOf_84 (by decide) ?_
      refine g_lv [0, 1, 2, 4] (lv' := [(0, .ref h), (1, .int x1), (3, .int x3), (5, .int x5)]) rfl ?_
      exact hB89 _ _ ih _ _ _ _ hf
  have hB29 : ∀ (x1 : Int32) (k4 : MS → Int32 → Int32 → Option (Int32 × MS)) (hk4 : ∀ (S : MS) (x2 : Int32) (x3 : Int32), k4 S x2 x3 = some res → GG p l e rm_laneOf s m args below meth c dC dI A 6 0 0 Q (MW E h r S) 4 [(0, .ref h), (1, .int x1), (2, .int x2), (3, .int x3)] []) (S : MS) (x3 : Int32) (t0 : Int32) (t1 : Int32), M_laneOf_B29 F k4 S x1 x3 t0 t1 = some res → GG p l e rm_laneOf s m args below meth c dC dI A 6 0 0 Q (MW E h r S) 29 [(0, .ref h), (1, .int x1), (3, .int x3)] [.int t1, .int t0] := by
    intro x1 k4 hk4 S x3 t0 t1 hf
    unfold M_laneOf_B29 at hf
    refine g_iadd X dX11_laneOf_29 ?_
    refine g_istore_n (i := 2) (lv' := [(2, .int (t0 + t1)), (0, .ref h), (1, .int x1), (3, .int x3)]) X dX11_laneOf_30 rfl (by decide) rfl ?_
    refine g_iinc (lv' := [(3, .int (x3 + (1 : Int32))), (2, .int (t0 + t1)), (0, .ref h), (1, .int x1)]) X dX11_laneOf_31 3 rfl kc_1 (by decide) rfl ?_
    refine g_goto (tgt := 4) X dX11_laneOf_34 (by decide) ?_
    refine g_lv [2, 3, 1, 0] (lv' := [(0, .ref h), (1, .int x1), (2, .int (t0 + t1)), (3, .int (x3 + (1 : Int32)))]) rfl ?_
    exact hk4 _ _ _ hf
  have hL4 : ∀ (x1 : Int32) (n : Nat) (S : MS) (x2 : Int32) (x3 : Int32), M_laneOf_L4 F x1 n S x2 x3 = some res → GG p l e rm_laneOf s m args below meth c dC dI A 6 0 0 Q (MW E h r S) 4 [(0, .ref h), (1, .int x1), (2, .int x2), (3, .int x3)] [] := by
    intro x1 n
    induction n with
    | zero => intro S x2 x3 hf; have hf : (none : Option (Int32 × MS)) = some res := hf; cases hf
    | succ n ih =>
      intro S x2 x3 hf
      rw [M_laneOf_L4] at hf
      refine g_iload_n X dX11_laneOf_4 3 rfl ?_
      refine g_aload_n X dX11_laneOf_5 0 rfl ?_
      refine m_get_3 X dX11_laneOf_6 ?_
      refine g_iconst X dX11_laneOf_9 kc_0 ?_
      refine m_aldc_3 X kt_0 kx_0_5476 dX11_laneOf_10 ?_
      refine g_icmp_ge (tgt := 37) X dX11_laneOf_11 (by decide) hf (fun hf => ?_) (fun hf => ?_)
      · refine g_iload_n X dX11_laneOf_37 2 rfl ?_
        refine g_if_ne (tgt := 43) X dX11_laneOf_38 (by decide) hf (fun hf => ?_) (fun hf => ?_)
        · refine g_aload_n X dX11_laneOf_43 0 rfl ?_
          refine g_iload_n X dX11_laneOf_44 1 rfl ?_
          refine m_bind hf (fun q2 hq2 hf => ?_)
          refine m_callV_i (As := [.int x1]) (st := []) X kV_206 (c_turnsTo l dC dI E h r F S x1 q2 hq2) ⟨Nat.le_of_ble_eq_true rfl, Nat.le_of_ble_eq_true rfl⟩ ⟨rfl, rfl⟩ (Nat.le_of_ble_eq_true rfl) ⟨Nat.le_of_ble_eq_true rfl, Nat.le_of_ble_eq_true rfl⟩ dX11_laneOf_45 ?_
          refine g_iload_n X dX11_laneOf_48 2 rfl ?_
          obtain ⟨hz49, hf⟩ := chk_some hf
          refine g_irem X dX11_laneOf_49 hz49 ?_
          refine g_istore_n (i := 3) (lv' := [(3, .int (q2.1 - q2.1 / x2 * x2)), (0, .ref h), (1, .int x1), (2, .int x2)]) X dX11_laneOf_50 rfl (by decide) rfl ?_
          refine g_iconst X dX11_laneOf_51 kc_m1 ?_
          refine g_istore (lv' := [(4, .int (-1 : Int32)), (3, .int (q2.1 - q2.1 / x2 * x2)), (0, .ref h), (1, .int x1), (2, .int x2)]) X dX11_laneOf_52 (by decide) rfl ?_
          refine g_iconst X dX11_laneOf_54 kc_0 ?_
          refine g_istore (lv' := [(5, .int (0 : Int32)), (4, .int (-1 : Int32)), (3, .int (q2.1 - q2.1 / x2 * x2)), (0, .ref h), (1, .int x1), (2, .int x2)]) X dX11_laneOf_55 (by decide) rfl ?_
          refine g_lv [3, 4, 2, 1, 0] (lv' := [(0, .ref h), (1, .int x1), (3, .int (q2.1 - q2.1 / x2 * x2)), (4, .int (-1 : Int32)), (5, .int (0 : Int32))]) rfl ?_
          exact hL57 _ _ _ _ _ _ hf
        refine g_iconst X dX11_laneOf_41 kc_m1 ?_
        exact m_reti_s hA hQ X hr hlk dX11_laneOf_42 hf
      refine g_iload_n X dX11_laneOf_14 2 rfl ?_
      refine g_aload_n X dX11_laneOf_15 0 rfl ?_
      refine g_iload_n X dX11_laneOf_16 1 rfl ?_
      refine g_iload_n X dX11_laneOf_17 3 rfl ?_
      refine m_bind hf (fun q3 hq3 hf => ?_)
      refine m_callV_i (As := [.int x1, .int x3]) (st := [.int x2]) X kV_427 (c_canGo l dC dI E h r F S x1 x3 q3 hq3) ⟨Nat.le_of_ble_eq_true rfl, Nat.le_of_ble_eq_true rfl⟩ ⟨rfl, rfl⟩ (Nat.le_of_ble_eq_true rfl) ⟨Nat.le_of_ble_eq_true rfl, Nat.le_of_ble_eq_true rfl⟩ dX11_laneOf_18 ?_
      refine g_if_eq (tgt := 28) X dX11_laneOf_21 (by decide) hf (fun hf => ?_) (fun hf => ?_)
      · refine g_iconst X dX11_laneOf_28 kc_0 ?_
        refine g_lv [0, 1, 3] (lv' := [(0, .ref h), (1, .int x1), (3, .int x3)]) rfl ?_
        exact hB29 _ _ ih _ _ _ _ hf
      refine g_iconst X dX11_laneOf_24 kc_1 ?_
      refine g_goto (tgt := 29) X dX11_laneOf_25 (by decide) ?_
      refine g_lv [0, 1, 3] (lv' := [(0, .ref h), (1, .int x1), (3, .int x3)]) rfl ?_
      exact hB29 _ _ ih _ _ _ _ hf
  refine g_lv [0, 1] (lv' := [(0, .ref h), (1, .int x1)]) rfl ?_
  unfold M_laneOf at hf
  refine g_iconst X dX11_laneOf_0 kc_0 ?_
  refine g_istore_n (i := 2) (lv' := [(2, .int (0 : Int32)), (0, .ref h), (1, .int x1)]) X dX11_laneOf_1 rfl (by decide) rfl ?_
  refine g_iconst X dX11_laneOf_2 kc_0 ?_
  refine g_istore_n (i := 3) (lv' := [(3, .int (0 : Int32)), (2, .int (0 : Int32)), (0, .ref h), (1, .int x1)]) X dX11_laneOf_3 rfl (by decide) rfl ?_
  refine g_lv [2, 3, 1, 0] (lv' := [(0, .ref h), (1, .int x1), (2, .int (0 : Int32)), (3, .int (0 : Int32))]) rfl ?_
  exact hL4 _ _ _ _ _ hf
def rm_of : Room := { frames := 8, cells := 0, slots := 0, locals := 191 }
set_option maxRecDepth 100000 in
set_option maxHeartbeats 4000000 in
theorem c_of (l : Launch) (dC : Nat → ClassId) (dI : Nat → Nat → Nat) (E : Nat → ClassId) (h : Nat) (r : Nat → Nat) (F : Nat) (S : MS) (x1 : Int32) (x2 : Int32) (res : Int32 × MS) (hf : M_of F S x1 x2 = some res) : MC l dC dI E yX11_of cX11_of 3 (some .int) rm_of [.ref h, .int x1, .int x2] (MW E h r S) (MW E h r res.2) (some (.int res.1)) := by
  refine MC_of (own := "LostLanesModel") (by decide) rfl (Nat.le_of_ble_eq_true rfl) ?_
  intro p e s m args below meth c A Q X hr hlk hA hQ
  refine g_lv [0, 1, 2] (lv' := [(0, .ref h), (1, .int x1), (2, .int x2)]) rfl ?_
  unfold M_of at hf
  refine g_aload_n X dX11_of_0 0 rfl ?_
  refine g_iconst X dX11_of_1 kc_0 ?_
  refine m_put_0 X dX11_of_2 hf (fun S1 hf => ?_)
  refine g_aload_n X dX11_of_5 0 rfl ?_
  refine g_iload_n X dX11_of_6 1 rfl ?_
  refine m_bind hf (fun q2 hq2 hf => ?_)
  refine m_callV_i (As := [.int x1]) (st := []) X kV_203 (c_isChild l dC dI E h r S1 x1 q2 hq2) ⟨Nat.le_of_ble_eq_true rfl, Nat.le_of_ble_eq_true rfl⟩ ⟨rfl, rfl⟩ (Nat.le_of_ble_eq_true rfl) ⟨Nat.le_of_ble_eq_true rfl, Nat.le_of_ble_eq_true rfl⟩ dX11_of_7 ?_
  refine g_if_ne (tgt := 15) X dX11_of_10 (by decide) hf (fun hf => ?_) (fun hf => ?_)
  · refine g_iload_n X dX11_of_15 2 rfl ?_
    refine g_ite hf (fun hs16_0 hf => ?_) (fun hs16_0 hf => ?_)
    · refine g_tsw (tgt := 52) (off := 36) X dX11_of_16 (by rw [hs16_0]; decide) (by rw [hs16_0]; decide) (by rw [hs16_0]; rfl) (by decide) ?_
      refine g_aload_n X dX11_of_52 0 rfl ?_
      refine m_get_3 X dX11_of_53 ?_
      refine g_bipush X dX11_of_56 kb_66 ?_
      refine g_iload_n X dX11_of_58 1 rfl ?_
      refine g_iadd X dX11_of_59 ?_
      refine m_ald_3 X dX11_of_60 hf (fun hf => ?_)
      exact m_reti_s hA hQ X hr hlk dX11_of_61 hf
    refine g_ite hf (fun hs16_1 hf => ?_) (fun hs16_1 hf => ?_)
    · refine g_tsw (tgt := 62) (off := 46) X dX11_of_16 (by rw [hs16_1]; decide) (by rw [hs16_1]; decide) (by rw [hs16_1]; rfl) (by decide) ?_
      refine g_aload_n X dX11_of_62 0 rfl ?_
      refine m_get_3 X dX11_of_63 ?_
      refine g_bipush X dX11_of_66 kb_18 ?_
      refine g_iload_n X dX11_of_68 1 rfl ?_
      refine g_iadd X dX11_of_69 ?_
      refine m_ald_3 X dX11_of_70 hf (fun hf => ?_)
      exact m_reti_s hA hQ X hr hlk dX11_of_71 hf
    refine g_ite hf (fun hs16_2 hf => ?_) (fun hs16_2 hf => ?_)
    · refine g_tsw (tgt := 72) (off := 56) X dX11_of_16 (by rw [hs16_2]; decide) (by rw [hs16_2]; decide) (by rw [hs16_2]; rfl) (by decide) ?_
      refine g_aload_n X dX11_of_72 0 rfl ?_
      refine m_get_3 X dX11_of_73 ?_
      refine g_bipush X dX11_of_76 kb_22 ?_
      refine g_iload_n X dX11_of_78 1 rfl ?_
      refine g_iadd X dX11_of_79 ?_
      refine m_ald_3 X dX11_of_80 hf (fun hf => ?_)
      exact m_reti_s hA hQ X hr hlk dX11_of_81 hf
    refine g_ite hf (fun hs16_3 hf => ?_) (fun hs16_3 hf => ?_)
    · refine g_tsw (tgt := 82) (off := 66) X dX11_of_16 (by rw [hs16_3]; decide) (by rw [hs16_3]; decide) (by rw [hs16_3]; rfl) (by decide) ?_
      refine g_aload_n X dX11_of_82 0 rfl ?_
      refine g_iload_n X dX11_of_83 1 rfl ?_
      refine m_bind hf (fun q3 hq3 hf => ?_)
      refine m_callV_i (As := [.int x1]) (st := []) X kV_206 (c_turnsTo l dC dI E h r F S1 x1 q3 hq3) ⟨Nat.le_of_ble_eq_true rfl, Nat.le_of_ble_eq_true rfl⟩ ⟨rfl, rfl⟩ (Nat.le_of_ble_eq_true rfl) ⟨Nat.le_of_ble_eq_true rfl, Nat.le_of_ble_eq_true rfl⟩ dX11_of_84 ?_
      exact m_reti_s hA hQ X hr hlk dX11_of_87 hf
    refine g_ite hf (fun hs16_4 hf => ?_) (fun hs16_4 hf => ?_)
    · refine g_tsw (tgt := 88) (off := 72) X dX11_of_16 (by rw [hs16_4]; decide) (by rw [hs16_4]; decide) (by rw [hs16_4]; rfl) (by decide) ?_
      refine g_aload_n X dX11_of_88 0 rfl ?_
      refine g_iload_n X dX11_of_89 1 rfl ?_
      refine m_bind hf (fun q4 hq4 hf => ?_)
      refine m_callV_i (As := [.int x1]) (st := []) X kV_209 (c_laneOf l dC dI E h r F S1 x1 q4 hq4) ⟨Nat.le_of_ble_eq_true rfl, Nat.le_of_ble_eq_true rfl⟩ ⟨rfl, rfl⟩ (Nat.le_of_ble_eq_true rfl) ⟨Nat.le_of_ble_eq_true rfl, Nat.le_of_ble_eq_true rfl⟩ dX11_of_90 ?_
      exact m_reti_s hA hQ X hr hlk dX11_of_93 hf
    refine g_tswO (tgt := 94) X dX11_of_16 (g_out0_4 (lv_neT hs16_0 (by decide)) (lv_neT hs16_1 (by decide)) (lv_neT hs16_2 (by decide)) (lv_neT hs16_3 (by decide)) (lv_neT hs16_4 (by decide))) (by decide) ?_
    refine g_iconst X dX11_of_94 kc_m1 ?_
    exact m_reti_s hA hQ X hr hlk dX11_of_95 hf
  refine g_iconst X dX11_of_13 kc_m1 ?_
  exact m_reti_s hA hQ X hr hlk dX11_of_14 hf
def rm_saysOf : Room := { frames := 5, cells := 0, slots := 0, locals := 122 }
set_option maxRecDepth 100000 in
set_option maxHeartbeats 4000000 in
theorem c_saysOf (l : Launch) (dC : Nat → ClassId) (dI : Nat → Nat → Nat) (E : Nat → ClassId) (h : Nat) (r : Nat → Nat) (F : Nat) (S : MS) (x1 : Int32) (x2 : Int32) (res : Int32 × MS) (hf : M_saysOf F S x1 x2 = some res) : MC l dC dI E yX11_saysOf cX11_saysOf 3 (some .int) rm_saysOf [.ref h, .int x1, .int x2] (MW E h r S) (MW E h r res.2) (some (.int res.1)) := by
  refine MC_of (own := "LostLanesModel") (by decide) rfl (Nat.le_of_ble_eq_true rfl) ?_
  intro p e s m args below meth c A Q X hr hlk hA hQ
  refine g_lv [0, 1, 2] (lv' := [(0, .ref h), (1, .int x1), (2, .int x2)]) rfl ?_
  unfold M_saysOf at hf
  refine g_aload_n X dX11_saysOf_0 0 rfl ?_
  refine g_iconst X dX11_saysOf_1 kc_1 ?_
  refine g_iload_n X dX11_saysOf_2 1 rfl ?_
  refine g_iload_n X dX11_saysOf_3 2 rfl ?_
  refine g_aload_n X dX11_saysOf_4 0 rfl ?_
  refine m_get_3 X dX11_saysOf_5 ?_
  refine g_bipush X dX11_saysOf_8 kb_56 ?_
  refine g_iload_n X dX11_saysOf_10 2 rfl ?_
  refine g_iadd X dX11_saysOf_11 ?_
  refine m_ald_3 X dX11_saysOf_12 hf (fun hf => ?_)
  refine g_i2l X dX11_saysOf_13 ?_
  refine m_bind hf (fun q1 hq1 hf => ?_)
  refine m_callV_l (As := [.int (1 : Int32), .int x1, .int x2, .long (ma S 3 (((56 : Int32) + x2)).toNatClampNeg).toInt64]) (st := []) X kV_416 (c_tells l dC dI E h r F S (1 : Int32) x1 x2 (ma S 3 (((56 : Int32) + x2)).toNatClampNeg).toInt64 q1 hq1) ⟨Nat.le_of_ble_eq_true rfl, Nat.le_of_ble_eq_true rfl⟩ ⟨rfl, rfl⟩ (Nat.le_of_ble_eq_true rfl) ⟨Nat.le_of_ble_eq_true rfl, Nat.le_of_ble_eq_true rfl⟩ dX11_saysOf_14 ?_
  refine g_iconst X dX11_saysOf_17 kc_0 ?_
  refine g_bipush X dX11_saysOf_18 kb_19 ?_
  refine m_bind hf (fun q2 hq2 hf => ?_)
  refine m_callS_i (As := [.long q1.1, .int (0 : Int32), .int (19 : Int32)]) (st := []) X kS_420 (c_bounded l dC dI E h r q1.2 q1.1 (0 : Int32) (19 : Int32) q2 hq2) ⟨Nat.le_of_ble_eq_true rfl, Nat.le_of_ble_eq_true rfl⟩ ⟨rfl, rfl⟩ (Nat.le_of_ble_eq_true rfl) ⟨Nat.le_of_ble_eq_true rfl, Nat.le_of_ble_eq_true rfl⟩ dX11_saysOf_20 ?_
  exact m_reti_s hA hQ X hr hlk dX11_saysOf_23 hf
def rm_asks : Room := { frames := 6, cells := 0, slots := 0, locals := 144 }
set_option maxRecDepth 100000 in
set_option maxHeartbeats 4000000 in
theorem c_asks (l : Launch) (dC : Nat → ClassId) (dI : Nat → Nat → Nat) (E : Nat → ClassId) (h : Nat) (r : Nat → Nat) (F : Nat) (S : MS) (x1 : Int32) (x2 : Int32) (x3 : Int32) (res : Int32 × MS) (hf : M_asks F S x1 x2 x3 = some res) : MC l dC dI E yX11_asks cX11_asks 4 (some .int) rm_asks [.ref h, .int x1, .int x2, .int x3] (MW E h r S) (MW E h r res.2) (some (.int res.1)) := by
  refine MC_of (own := "LostLanesModel") (by decide) rfl (Nat.le_of_ble_eq_true rfl) ?_
  intro p e s m args below meth c A Q X hr hlk hA hQ
  refine g_lv [0, 1, 2, 3] (lv' := [(0, .ref h), (1, .int x1), (2, .int x2), (3, .int x3)]) rfl ?_
  unfold M_asks at hf
  refine g_aload_n X dX11_asks_0 0 rfl ?_
  refine g_iconst X dX11_asks_1 kc_0 ?_
  refine m_put_0 X dX11_asks_2 hf (fun S1 hf => ?_)
  refine g_aload_n X dX11_asks_5 0 rfl ?_
  refine g_iload_n X dX11_asks_6 1 rfl ?_
  refine m_bind hf (fun q2 hq2 hf => ?_)
  refine m_callV_i (As := [.int x1]) (st := []) X kV_203 (c_isChild l dC dI E h r S1 x1 q2 hq2) ⟨Nat.le_of_ble_eq_true rfl, Nat.le_of_ble_eq_true rfl⟩ ⟨rfl, rfl⟩ (Nat.le_of_ble_eq_true rfl) ⟨Nat.le_of_ble_eq_true rfl, Nat.le_of_ble_eq_true rfl⟩ dX11_asks_7 ?_
  refine g_if_eq (tgt := 31) X dX11_asks_10 (by decide) hf (fun hf => ?_) (fun hf => ?_)
  · refine g_iconst X dX11_asks_31 kc_m1 ?_
    exact m_reti_s hA hQ X hr hlk dX11_asks_32 hf
  refine g_aload_n X dX11_asks_13 0 rfl ?_
  refine g_iload_n X dX11_asks_14 2 rfl ?_
  refine m_bind hf (fun q3 hq3 hf => ?_)
  refine m_callV_i (As := [.int x2]) (st := []) X kV_200 (c_isLane l dC dI E h r S1 x2 q3 hq3) ⟨Nat.le_of_ble_eq_true rfl, Nat.le_of_ble_eq_true rfl⟩ ⟨rfl, rfl⟩ (Nat.le_of_ble_eq_true rfl) ⟨Nat.le_of_ble_eq_true rfl, Nat.le_of_ble_eq_true rfl⟩ dX11_asks_15 ?_
  refine g_if_eq (tgt := 31) X dX11_asks_18 (by decide) hf (fun hf => ?_) (fun hf => ?_)
  · refine g_iconst X dX11_asks_31 kc_m1 ?_
    exact m_reti_s hA hQ X hr hlk dX11_asks_32 hf
  refine g_iload_n X dX11_asks_21 3 rfl ?_
  refine g_i2l X dX11_asks_22 ?_
  refine g_lconst X dX11_asks_23 kl_0 ?_
  refine g_lconst X dX11_asks_24 kl_1 ?_
  refine m_bind hf (fun q4 hq4 hf => ?_)
  refine m_callS_i (As := [.long (x3).toInt64, .long (0 : Int64), .long (1 : Int64)]) (st := []) X kS_179 (c_in l dC dI E h r S1 (x3).toInt64 (0 : Int64) (1 : Int64) q4 hq4) ⟨Nat.le_of_ble_eq_true rfl, Nat.le_of_ble_eq_true rfl⟩ ⟨rfl, rfl⟩ (Nat.le_of_ble_eq_true rfl) ⟨Nat.le_of_ble_eq_true rfl, Nat.le_of_ble_eq_true rfl⟩ dX11_asks_25 ?_
  refine g_if_ne (tgt := 33) X dX11_asks_28 (by decide) hf (fun hf => ?_) (fun hf => ?_)
  · refine g_iload_n X dX11_asks_33 3 rfl ?_
    refine g_if_ne (tgt := 46) X dX11_asks_34 (by decide) hf (fun hf => ?_) (fun hf => ?_)
    · refine g_aload_n X dX11_asks_46 0 rfl ?_
      refine g_iload_n X dX11_asks_47 1 rfl ?_
      refine g_iload_n X dX11_asks_48 2 rfl ?_
      refine m_bind hf (fun q5 hq5 hf => ?_)
      refine m_callV_i (As := [.int x1, .int x2]) (st := []) X kV_216 (c_isBarred l dC dI E h r F S1 x1 x2 q5 hq5) ⟨Nat.le_of_ble_eq_true rfl, Nat.le_of_ble_eq_true rfl⟩ ⟨rfl, rfl⟩ (Nat.le_of_ble_eq_true rfl) ⟨Nat.le_of_ble_eq_true rfl, Nat.le_of_ble_eq_true rfl⟩ dX11_asks_49 ?_
      refine g_if_eq (tgt := 59) X dX11_asks_52 (by decide) hf (fun hf => ?_) (fun hf => ?_)
      · refine g_iconst X dX11_asks_59 kc_0 ?_
        exact m_reti_s hA hQ X hr hlk dX11_asks_60 hf
      refine g_iconst X dX11_asks_55 kc_1 ?_
      refine g_goto (tgt := 60) X dX11_asks_56 (by decide) ?_
      exact m_reti_s hA hQ X hr hlk dX11_asks_60 hf
    refine g_aload_n X dX11_asks_37 0 rfl ?_
    refine g_iload_n X dX11_asks_38 1 rfl ?_
    refine g_iload_n X dX11_asks_39 2 rfl ?_
    refine m_bind hf (fun q6 hq6 hf => ?_)
    refine m_callV_i (As := [.int x1, .int x2]) (st := []) X kV_212 (c_saysOf l dC dI E h r F S1 x1 x2 q6 hq6) ⟨Nat.le_of_ble_eq_true rfl, Nat.le_of_ble_eq_true rfl⟩ ⟨rfl, rfl⟩ (Nat.le_of_ble_eq_true rfl) ⟨Nat.le_of_ble_eq_true rfl, Nat.le_of_ble_eq_true rfl⟩ dX11_asks_40 ?_
    refine g_goto (tgt := 60) X dX11_asks_43 (by decide) ?_
    exact m_reti_s hA hQ X hr hlk dX11_asks_60 hf
  refine g_iconst X dX11_asks_31 kc_m1 ?_
  exact m_reti_s hA hQ X hr hlk dX11_asks_32 hf
def rm_terms : Room := { frames := 1, cells := 0, slots := 0, locals := 25 }
set_option maxRecDepth 100000 in
set_option maxHeartbeats 4000000 in
theorem c_terms (l : Launch) (dC : Nat → ClassId) (dI : Nat → Nat → Nat) (E : Nat → ClassId) (h : Nat) (r : Nat → Nat) (S : MS) (x1 : Int32) (x2 : Int32) (res : Int32 × MS) (hf : M_terms S x1 x2 = some res) : MC l dC dI E yX11_terms cX11_terms 4 (some .int) rm_terms [.ref h, .int x1, .int x2] (MW E h r S) (MW E h r res.2) (some (.int res.1)) := by
  refine MC_of (own := "LostLanesModel") (by decide) rfl (Nat.le_of_ble_eq_true rfl) ?_
  intro p e s m args below meth c A Q X hr hlk hA hQ
  have hB60 : ∀ (S : MS) (x1 : Int32) (x2 : Int32) (t0 : Int32), M_terms_B60 S x1 x2 t0 = some res → GG p l e rm_terms s m args below meth c dC dI A 4 0 0 Q (MW E h r S) 60 [(0, .ref h), (1, .int x1), (2, .int x2)] [.int t0] := by
    intro S x1 x2 t0 hf
    unfold M_terms_B60 at hf
    refine g_istore_n (i := 3) (lv' := [(3, .int t0), (0, .ref h), (1, .int x1), (2, .int x2)]) X dX11_terms_60 rfl (by decide) rfl ?_
    refine g_iload_n X dX11_terms_61 0 rfl ?_
    refine g_if_ne (tgt := 71) X dX11_terms_62 (by decide) hf (fun hf => ?_) (fun hf => ?_)
    · refine g_aload_n X dX11_terms_71 1 rfl ?_
      refine g_iconst X dX11_terms_72 kc_0 ?_
      refine m_put_8 X dX11_terms_73 hf (fun S1 hf => ?_)
      refine g_aload_n X dX11_terms_76 1 rfl ?_
      refine g_iconst X dX11_terms_77 kc_5 ?_
      refine g_iload_n X dX11_terms_78 2 rfl ?_
      refine g_iadd X dX11_terms_79 ?_
      refine g_iload_n X dX11_terms_80 3 rfl ?_
      refine m_bind hf (fun q2 hq2 hf => ?_)
      refine m_callV_i (As := [.int ((5 : Int32) + x1), .int x2]) (st := []) X kV_224 (c_change l dC dI E h r S1 ((5 : Int32) + x1) x2 q2 hq2) ⟨Nat.le_of_ble_eq_true rfl, Nat.le_of_ble_eq_true rfl⟩ ⟨rfl, rfl⟩ (Nat.le_of_ble_eq_true rfl) ⟨Nat.le_of_ble_eq_true rfl, Nat.le_of_ble_eq_true rfl⟩ dX11_terms_81 ?_
      exact m_reti_s hA hQ X hr hlk dX11_terms_84 hf
    refine g_aload_n X dX11_terms_65 1 rfl ?_
    refine g_iconst X dX11_terms_66 kc_m1 ?_
    refine m_bind hf (fun q3 hq3 hf => ?_)
    refine m_callV_i (As := [.int (-1 : Int32)]) (st := []) X kV_168 (c_tell l dC dI E h r S (-1 : Int32) q3 hq3) ⟨Nat.le_of_ble_eq_true rfl, Nat.le_of_ble_eq_true rfl⟩ ⟨rfl, rfl⟩ (Nat.le_of_ble_eq_true rfl) ⟨Nat.le_of_ble_eq_true rfl, Nat.le_of_ble_eq_true rfl⟩ dX11_terms_67 ?_
    exact m_reti_s hA hQ X hr hlk dX11_terms_70 hf
  have hB59 : ∀ (S : MS) (x1 : Int32) (x2 : Int32), M_terms_B59 S x1 x2 = some res → GG p l e rm_terms s m args below meth c dC dI A 4 0 0 Q (MW E h r S) 59 [(0, .ref h), (1, .int x1), (2, .int x2)] [] := by
    intro S x1 x2 hf
    unfold M_terms_B59 at hf
    refine g_iconst X dX11_terms_59 kc_0 ?_
    exact hB60 _ _ _ _ hf
  refine g_lv [0, 1, 2] (lv' := [(0, .ref h), (1, .int x1), (2, .int x2)]) rfl ?_
  unfold M_terms at hf
  refine g_aload_n X dX11_terms_0 0 rfl ?_
  refine g_iconst X dX11_terms_1 kc_0 ?_
  refine m_put_0 X dX11_terms_2 hf (fun S4 hf => ?_)
  refine g_iload_n X dX11_terms_5 1 rfl ?_
  refine g_if_ne (tgt := 21) X dX11_terms_6 (by decide) hf (fun hf => ?_) (fun hf => ?_)
  · refine g_iload_n X dX11_terms_21 1 rfl ?_
    refine g_iconst X dX11_terms_22 kc_1 ?_
    refine g_icmp_ne (tgt := 38) X dX11_terms_23 (by decide) hf (fun hf => ?_) (fun hf => ?_)
    · refine g_iload_n X dX11_terms_38 1 rfl ?_
      refine g_iconst X dX11_terms_39 kc_2 ?_
      refine g_icmp_ne (tgt := 59) X dX11_terms_40 (by decide) hf (fun hf => ?_) (fun hf => ?_)
      · exact hB59 _ _ _ hf
      refine g_iload_n X dX11_terms_43 2 rfl ?_
      refine g_i2l X dX11_terms_44 ?_
      refine g_lconst X dX11_terms_45 kl_0 ?_
      refine g_ldc2 X dX11_terms_46 wd6_121 ?_
      refine m_bind hf (fun q5 hq5 hf => ?_)
      refine m_callS_i (As := [.long (x2).toInt64, .long (0 : Int64), .long (9 : Int64)]) (st := []) X kS_179 (c_in l dC dI E h r S4 (x2).toInt64 (0 : Int64) (9 : Int64) q5 hq5) ⟨Nat.le_of_ble_eq_true rfl, Nat.le_of_ble_eq_true rfl⟩ ⟨rfl, rfl⟩ (Nat.le_of_ble_eq_true rfl) ⟨Nat.le_of_ble_eq_true rfl, Nat.le_of_ble_eq_true rfl⟩ dX11_terms_49 ?_
      refine g_if_eq (tgt := 59) X dX11_terms_52 (by decide) hf (fun hf => ?_) (fun hf => ?_)
      · exact hB59 _ _ _ hf
      refine g_iconst X dX11_terms_55 kc_1 ?_
      refine g_goto (tgt := 60) X dX11_terms_56 (by decide) ?_
      exact hB60 _ _ _ _ hf
    refine g_iload_n X dX11_terms_26 2 rfl ?_
    refine g_i2l X dX11_terms_27 ?_
    refine g_lconst X dX11_terms_28 kl_0 ?_
    refine g_ldc2 X dX11_terms_29 wd6_198 ?_
    refine m_bind hf (fun q6 hq6 hf => ?_)
    refine m_callS_i (As := [.long (x2).toInt64, .long (0 : Int64), .long (10 : Int64)]) (st := []) X kS_179 (c_in l dC dI E h r S4 (x2).toInt64 (0 : Int64) (10 : Int64) q6 hq6) ⟨Nat.le_of_ble_eq_true rfl, Nat.le_of_ble_eq_true rfl⟩ ⟨rfl, rfl⟩ (Nat.le_of_ble_eq_true rfl) ⟨Nat.le_of_ble_eq_true rfl, Nat.le_of_ble_eq_true rfl⟩ dX11_terms_32 ?_
    refine g_goto (tgt := 60) X dX11_terms_35 (by decide) ?_
    exact hB60 _ _ _ _ hf
  refine g_iload_n X dX11_terms_9 2 rfl ?_
  refine g_i2l X dX11_terms_10 ?_
  refine g_lconst X dX11_terms_11 kl_0 ?_
  refine g_ldc2 X dX11_terms_12 wd6_197 ?_
  refine m_bind hf (fun q7 hq7 hf => ?_)
  refine m_callS_i (As := [.long (x2).toInt64, .long (0 : Int64), .long (999 : Int64)]) (st := []) X kS_179 (c_in l dC dI E h r S4 (x2).toInt64 (0 : Int64) (999 : Int64) q7 hq7) ⟨Nat.le_of_ble_eq_true rfl, Nat.le_of_ble_eq_true rfl⟩ ⟨rfl, rfl⟩ (Nat.le_of_ble_eq_true rfl) ⟨Nat.le_of_ble_eq_true rfl, Nat.le_of_ble_eq_true rfl⟩ dX11_terms_15 ?_
  refine g_goto (tgt := 60) X dX11_terms_18 (by decide) ?_
  exact hB60 _ _ _ _ hf
def rm_row : Room := { frames := 3, cells := 0, slots := 0, locals := 70 }
set_option maxRecDepth 100000 in
set_option maxHeartbeats 4000000 in
theorem c_row (l : Launch) (dC : Nat → ClassId) (dI : Nat → Nat → Nat) (E : Nat → ClassId) (h : Nat) (r : Nat → Nat) (F : Nat) (S : MS)  (res : Int32 × MS) (hf : M_row F S = some res) : MC l dC dI E yX11_row cX11_row 4 (some .int) rm_row [.ref h] (MW E h r S) (MW E h r res.2) (some (.int res.1)) := by
  refine MC_of (own := "LostLanesModel") (by decide) rfl (Nat.le_of_ble_eq_true rfl) ?_
  intro p e s m args below meth c A Q X hr hlk hA hQ
  have hB100 : ∀ (x1 : Int32) (k35 : MS → Int32 → Int32 → Option (Int32 × MS)) (hk35 : ∀ (S : MS) (x2 : Int32) (x3 : Int32), k35 S x2 x3 = some res → GG p l e rm_row s m args below meth c dC dI A 4 0 0 Q (MW E h r S) 35 [(0, .ref h), (1, .int x1), (2, .int x2), (3, .int x3)] []) (S : MS) (x2 : Int32) (x3 : Int32), M_row_B100 F k35 S x1 x2 x3 = some res → GG p l e rm_row s m args below meth c dC dI A 4 0 0 Q (MW E h r S) 100 [(0, .ref h), (1, .int x1), (2, .int x2), (3, .int x3)] [] := by
    intro x1 k35 hk35 S x2 x3 hf
    unfold M_row_B100 at hf
    refine g_iinc (lv' := [(3, .int (x3 + (4 : Int32))), (0, .ref h), (1, .int x1), (2, .int x2)]) X dX11_row_100 3 rfl kc_4 (by decide) rfl ?_
    refine g_goto (tgt := 35) X dX11_row_103 (by decide) ?_
    refine g_lv [1, 2, 3, 0] (lv' := [(0, .ref h), (1, .int x1), (2, .int x2), (3, .int (x3 + (4 : Int32)))]) rfl ?_
    exact hk35 _ _ _ hf
  have hB90 : ∀ (x1 : Int32) (k35 : MS → Int32 → Int32 → Option (Int32 × MS)) (hk35 : ∀ (S : MS) (x2 : Int32) (x3 : Int32), k35 S x2 x3 = some res → GG p l e rm_row s m args below meth c dC dI A 4 0 0 Q (MW E h r S) 35 [(0, .ref h), (1, .int x1), (2, .int x2), (3, .int x3)] []) (S : MS) (x2 : Int32) (x3 : Int32), M_row_B90 F k35 S x1 x2 x3 = some res → GG p l e rm_row s m args below meth c dC dI A 4 0 0 Q (MW E h r S) 90 [(0, .ref h), (1, .int x1), (2, .int x2), (3, .int x3)] [] := by
    intro x1 k35 hk35 S x2 x3 hf
    unfold M_row_B90 at hf
    refine g_aload_n X dX11_row_90 0 rfl ?_
    refine g_dup X dX11_row_91 rfl ?_
    refine m_get_11 X dX11_row_92 ?_
    refine g_iconst X dX11_row_95 kc_1 ?_
    refine g_iadd X dX11_row_96 ?_
    refine m_put_11 X dX11_row_97 hf (fun S1 hf => ?_)
    exact hB100 _ _ hk35 _ _ _ hf
  have hL35 : ∀ (x1 : Int32) (n : Nat) (S : MS) (x2 : Int32) (x3 : Int32), M_row_L35 F x1 n S x2 x3 = some res → GG p l e rm_row s m args below meth c dC dI A 4 0 0 Q (MW E h r S) 35 [(0, .ref h), (1, .int x1), (2, .int x2), (3, .int x3)] [] := by
    intro x1 n
    induction n with
    | zero => intro S x2 x3 hf; have hf : (none : Option (Int32 × MS)) = some res := hf; cases hf
    | succ n ih =>
      intro S x2 x3 hf
      rw [M_row_L35] at hf
      refine g_iload_n X dX11_row_35 3 rfl ?_
      refine g_iload_n X dX11_row_36 1 rfl ?_
      refine g_icmp_ge (tgt := 106) X dX11_row_37 (by decide) hf (fun hf => ?_) (fun hf => ?_)
      · refine g_aload_n X dX11_row_106 0 rfl ?_
        refine g_iload_n X dX11_row_107 2 rfl ?_
        refine m_bind hf (fun q2 hq2 hf => ?_)
        refine m_callV_i (As := [.int x2]) (st := []) X kV_183 (c_lasting l dC dI E h r S x2 q2 hq2) ⟨Nat.le_of_ble_eq_true rfl, Nat.le_of_ble_eq_true rfl⟩ ⟨rfl, rfl⟩ (Nat.le_of_ble_eq_true rfl) ⟨Nat.le_of_ble_eq_true rfl, Nat.le_of_ble_eq_true rfl⟩ dX11_row_108 ?_
        exact m_reti_s hA hQ X hr hlk dX11_row_111 hf
      refine g_iload_n X dX11_row_40 3 rfl ?_
      refine g_iconst X dX11_row_41 kc_3 ?_
      refine g_iadd X dX11_row_42 ?_
      refine g_iload_n X dX11_row_43 1 rfl ?_
      refine g_icmp_ge (tgt := 90) X dX11_row_44 (by decide) hf (fun hf => ?_) (fun hf => ?_)
      · exact hB90 _ _ ih _ _ _ hf
      refine g_aload_n X dX11_row_47 0 rfl ?_
      refine g_aload_n X dX11_row_48 0 rfl ?_
      refine m_get_12 X dX11_row_49 ?_
      refine g_iload_n X dX11_row_52 3 rfl ?_
      refine m_ald_12 X dX11_row_53 hf (fun hf => ?_)
      refine g_aload_n X dX11_row_54 0 rfl ?_
      refine m_get_12 X dX11_row_55 ?_
      refine g_iload_n X dX11_row_58 3 rfl ?_
      refine g_iconst X dX11_row_59 kc_1 ?_
      refine g_iadd X dX11_row_60 ?_
      refine m_ald_12 X dX11_row_61 hf (fun hf => ?_)
      refine g_aload_n X dX11_row_62 0 rfl ?_
      refine m_get_12 X dX11_row_63 ?_
      refine g_iload_n X dX11_row_66 3 rfl ?_
      refine g_iconst X dX11_row_67 kc_2 ?_
      refine g_iadd X dX11_row_68 ?_
      refine m_ald_12 X dX11_row_69 hf (fun hf => ?_)
      refine g_aload_n X dX11_row_70 0 rfl ?_
      refine m_get_12 X dX11_row_71 ?_
      refine g_iload_n X dX11_row_74 3 rfl ?_
      refine g_iconst X dX11_row_75 kc_3 ?_
      refine g_iadd X dX11_row_76 ?_
      refine m_ald_12 X dX11_row_77 hf (fun hf => ?_)
      refine m_bind hf (fun q3 hq3 hf => ?_)
      refine m_callV_i (As := [.int (ma S 12 (x3).toNatClampNeg), .int (ma S 12 ((x3 + (1 : Int32))).toNatClampNeg), .int (ma S 12 ((x3 + (2 : Int32))).toNatClampNeg), .int (ma S 12 ((x3 + (3 : Int32))).toNatClampNeg)]) (st := []) X kV_196 (c_come l dC dI E h r S (ma S 12 (x3).toNatClampNeg) (ma S 12 ((x3 + (1 : Int32))).toNatClampNeg) (ma S 12 ((x3 + (2 : Int32))).toNatClampNeg) (ma S 12 ((x3 + (3 : Int32))).toNatClampNeg) q3 hq3) ⟨Nat.le_of_ble_eq_true rfl, Nat.le_of_ble_eq_true rfl⟩ ⟨rfl, rfl⟩ (Nat.le_of_ble_eq_true rfl) ⟨Nat.le_of_ble_eq_true rfl, Nat.le_of_ble_eq_true rfl⟩ dX11_row_78 ?_
      refine g_if_lt (tgt := 90) X dX11_row_81 (by decide) hf (fun hf => ?_) (fun hf => ?_)
      · exact hB90 _ _ ih _ _ _ hf
      refine g_iinc (lv' := [(2, .int (x2 + (1 : Int32))), (0, .ref h), (1, .int x1), (3, .int x3)]) X dX11_row_84 2 rfl kc_1 (by decide) rfl ?_
      refine g_goto (tgt := 100) X dX11_row_87 (by decide) ?_
      refine g_lv [1, 2, 0, 3] (lv' := [(0, .ref h), (1, .int x1), (2, .int (x2 + (1 : Int32))), (3, .int x3)]) rfl ?_
      exact hB100 _ _ ih _ _ _ hf
  refine g_lv [0] (lv' := [(0, .ref h)]) rfl ?_
  unfold M_row at hf
  refine g_aload_n X dX11_row_0 0 rfl ?_
  refine g_iconst X dX11_row_1 kc_0 ?_
  refine m_put_0 X dX11_row_2 hf (fun S4 hf => ?_)
  refine g_aload_n X dX11_row_5 0 rfl ?_
  refine m_get_13 X dX11_row_6 ?_
  refine g_istore_n (i := 1) (lv' := [(1, .int (mi S4 13)), (0, .ref h)]) X dX11_row_9 rfl (by decide) rfl ?_
  refine g_aload_n X dX11_row_10 1 rfl ?_
  refine g_iconst X dX11_row_11 kc_0 ?_
  refine m_put_13 X dX11_row_12 hf (fun S5 hf => ?_)
  refine g_iload_n X dX11_row_15 0 rfl ?_
  refine g_if_ne (tgt := 26) X dX11_row_16 (by decide) hf (fun hf => ?_) (fun hf => ?_)
  · refine g_aload_n X dX11_row_26 1 rfl ?_
    refine g_iconst X dX11_row_27 kc_0 ?_
    refine m_put_11 X dX11_row_28 hf (fun S6 hf => ?_)
    refine g_iconst X dX11_row_31 kc_0 ?_
    refine g_istore_n (i := 2) (lv' := [(2, .int (0 : Int32)), (1, .int (mi S4 13)), (0, .ref h)]) X dX11_row_32 rfl (by decide) rfl ?_
    refine g_iconst X dX11_row_33 kc_0 ?_
    refine g_istore_n (i := 3) (lv' := [(3, .int (0 : Int32)), (2, .int (0 : Int32)), (1, .int (mi S4 13)), (0, .ref h)]) X dX11_row_34 rfl (by decide) rfl ?_
    refine g_lv [3, 2, 1, 0] (lv' := [(0, .ref h), (1, .int (mi S4 13)), (2, .int (0 : Int32)), (3, .int (0 : Int32))]) rfl ?_
    exact hL35 _ _ _ _ _ hf
  refine g_aload_n X dX11_row_19 1 rfl ?_
  refine g_bipush X dX11_row_20 kb_m6 ?_
  refine m_bind hf (fun q7 hq7 hf => ?_)
  refine m_callV_i (As := [.int (-6 : Int32)]) (st := []) X kV_168 (c_tell l dC dI E h r S5 (-6 : Int32) q7 hq7) ⟨Nat.le_of_ble_eq_true rfl, Nat.le_of_ble_eq_true rfl⟩ ⟨rfl, rfl⟩ (Nat.le_of_ble_eq_true rfl) ⟨Nat.le_of_ble_eq_true rfl, Nat.le_of_ble_eq_true rfl⟩ dX11_row_22 ?_
  exact m_reti_s hA hQ X hr hlk dX11_row_25 hf
def rm_gravel : Room := { frames := 0, cells := 0, slots := 0, locals := 0 }
set_option maxRecDepth 100000 in
set_option maxHeartbeats 4000000 in
theorem c_gravel (l : Launch) (dC : Nat → ClassId) (dI : Nat → Nat → Nat) (E : Nat → ClassId) (h : Nat) (r : Nat → Nat) (S : MS)  (res : Int32 × MS) (hf : M_gravel S = some res) : MC l dC dI E yX11_gravel cX11_gravel 1 (some .int) rm_gravel [.ref h] (MW E h r S) (MW E h r res.2) (some (.int res.1)) := by
  refine MC_of (own := "LostLanesModel") (by decide) rfl (Nat.le_of_ble_eq_true rfl) ?_
  intro p e s m args below meth c A Q X hr hlk hA hQ
  refine g_lv [0] (lv' := [(0, .ref h)]) rfl ?_
  unfold M_gravel at hf
  refine g_aload_n X dX11_gravel_0 0 rfl ?_
  refine g_iconst X dX11_gravel_1 kc_0 ?_
  refine m_put_0 X dX11_gravel_2 hf (fun S1 hf => ?_)
  refine g_aload_n X dX11_gravel_5 0 rfl ?_
  refine m_get_11 X dX11_gravel_6 ?_
  exact m_reti_s hA hQ X hr hlk dX11_gravel_9 hf
def rm_four : Room := { frames := 0, cells := 0, slots := 0, locals := 0 }
set_option maxRecDepth 100000 in
set_option maxHeartbeats 4000000 in
theorem c_four (l : Launch) (dC : Nat → ClassId) (dI : Nat → Nat → Nat) (E : Nat → ClassId) (h : Nat) (r : Nat → Nat) (F : Nat) (S : MS) (x1 : Int32) (res : Unit × MS) (hf : M_four F S x1 = some res) : MC l dC dI E yX11_four cX11_four 3 none rm_four [.ref h, .int x1] (MW E h r S) (MW E h r res.2) none := by
  refine MC_of (own := "LostLanesModel") (by decide) rfl (Nat.le_of_ble_eq_true rfl) ?_
  intro p e s m args below meth c A Q X hr hlk hA hQ
  have hL3 : ∀ (x1 : Int32) (n : Nat) (S : MS) (x2 : Int32), M_four_L3 F x1 n S x2 = some res → GG p l e rm_four s m args below meth c dC dI A 3 0 0 Q (MW E h r S) 3 [(0, .ref h), (1, .int x1), (2, .int x2)] [] := by
    intro x1 n
    induction n with
    | zero => intro S x2 hf; have hf : (none : Option (Unit × MS)) = some res := hf; cases hf
    | succ n ih =>
      intro S x2 hf
      rw [M_four_L3] at hf
      refine g_iload_n X dX11_four_3 2 rfl ?_
      refine g_if_lt (tgt := 39) X dX11_four_4 (by decide) hf (fun hf => ?_) (fun hf => ?_)
      · exact m_retv_s hA hQ X hr hlk dX11_four_39 hf
      refine g_aload_n X dX11_four_7 0 rfl ?_
      refine m_get_12 X dX11_four_8 ?_
      refine g_aload_n X dX11_four_11 0 rfl ?_
      refine m_get_13 X dX11_four_12 ?_
      refine g_iload_n X dX11_four_15 1 rfl ?_
      refine g_iload_n X dX11_four_16 2 rfl ?_
      refine g_ishr X dX11_four_17 ?_
      refine g_sipush X dX11_four_18 ks_255 ?_
      refine g_iand X dX11_four_21 ?_
      refine m_ast_12 X dX11_four_22 hf (fun S1 hf => ?_)
      refine g_aload_n X dX11_four_23 0 rfl ?_
      refine g_dup X dX11_four_24 rfl ?_
      refine m_get_13 X dX11_four_25 ?_
      refine g_iconst X dX11_four_28 kc_1 ?_
      refine g_iadd X dX11_four_29 ?_
      refine m_put_13 X dX11_four_30 hf (fun S2 hf => ?_)
      refine g_iinc (lv' := [(2, .int (x2 + (-8 : Int32))), (0, .ref h), (1, .int x1)]) X dX11_four_33 2 rfl kc_m8 (by decide) rfl ?_
      refine g_goto (tgt := 3) X dX11_four_36 (by decide) ?_
      refine g_lv [1, 2, 0] (lv' := [(0, .ref h), (1, .int x1), (2, .int (x2 + (-8 : Int32)))]) rfl ?_
      exact ih _ _ hf
  refine g_lv [0, 1] (lv' := [(0, .ref h), (1, .int x1)]) rfl ?_
  unfold M_four at hf
  refine g_bipush X dX11_four_0 kb_24 ?_
  refine g_istore_n (i := 2) (lv' := [(2, .int (24 : Int32)), (0, .ref h), (1, .int x1)]) X dX11_four_2 rfl (by decide) rfl ?_
  refine g_lv [1, 2, 0] (lv' := [(0, .ref h), (1, .int x1), (2, .int (24 : Int32))]) rfl ?_
  exact hL3 _ _ _ _ hf
def rm_feed : Room := { frames := 1, cells := 0, slots := 0, locals := 22 }
set_option maxRecDepth 100000 in
set_option maxHeartbeats 4000000 in
theorem c_feed (l : Launch) (dC : Nat → ClassId) (dI : Nat → Nat → Nat) (E : Nat → ClassId) (h : Nat) (r : Nat → Nat) (F : Nat) (S : MS) (x1 : Int32) (x2 : Int32) (x3 : Int32) (x4 : Int32) (x5 : Int32) (res : Int32 × MS) (hf : M_feed F S x1 x2 x3 x4 x5 = some res) : MC l dC dI E yX11_feed cX11_feed 6 (some .int) rm_feed [.ref h, .int x1, .int x2, .int x3, .int x4, .int x5] (MW E h r S) (MW E h r res.2) (some (.int res.1)) := by
  refine MC_of (own := "LostLanesModel") (by decide) rfl (Nat.le_of_ble_eq_true rfl) ?_
  intro p e s m args below meth c A Q X hr hlk hA hQ
  refine g_lv [0, 1, 2, 3, 4, 5] (lv' := [(0, .ref h), (1, .int x1), (2, .int x2), (3, .int x3), (4, .int x4), (5, .int x5)]) rfl ?_
  unfold M_feed at hf
  refine g_aload_n X dX11_feed_0 0 rfl ?_
  refine g_iconst X dX11_feed_1 kc_0 ?_
  refine m_put_0 X dX11_feed_2 hf (fun S1 hf => ?_)
  refine g_aload_n X dX11_feed_5 0 rfl ?_
  refine m_get_13 X dX11_feed_6 ?_
  refine g_bipush X dX11_feed_9 kb_20 ?_
  refine g_iadd X dX11_feed_11 ?_
  refine g_sipush X dX11_feed_12 ks_400 ?_
  refine g_icmp_le (tgt := 20) X dX11_feed_15 (by decide) hf (fun hf => ?_) (fun hf => ?_)
  · refine g_aload_n X dX11_feed_20 0 rfl ?_
    refine g_iload_n X dX11_feed_21 1 rfl ?_
    refine m_bind hf (fun q2 hq2 hf => ?_)
    refine m_callV_v (As := [.int x1]) (st := []) X kV_233 (c_four l dC dI E h r F S1 x1 q2 hq2) ⟨Nat.le_of_ble_eq_true rfl, Nat.le_of_ble_eq_true rfl⟩ ⟨rfl, rfl⟩ (Nat.le_of_ble_eq_true rfl) ⟨Nat.le_of_ble_eq_true rfl, Nat.le_of_ble_eq_true rfl⟩ dX11_feed_22 ?_
    refine g_aload_n X dX11_feed_25 0 rfl ?_
    refine g_iload_n X dX11_feed_26 2 rfl ?_
    refine m_bind hf (fun q3 hq3 hf => ?_)
    refine m_callV_v (As := [.int x2]) (st := []) X kV_233 (c_four l dC dI E h r F q2.2 x2 q3 hq3) ⟨Nat.le_of_ble_eq_true rfl, Nat.le_of_ble_eq_true rfl⟩ ⟨rfl, rfl⟩ (Nat.le_of_ble_eq_true rfl) ⟨Nat.le_of_ble_eq_true rfl, Nat.le_of_ble_eq_true rfl⟩ dX11_feed_27 ?_
    refine g_aload_n X dX11_feed_30 0 rfl ?_
    refine g_iload_n X dX11_feed_31 3 rfl ?_
    refine m_bind hf (fun q4 hq4 hf => ?_)
    refine m_callV_v (As := [.int x3]) (st := []) X kV_233 (c_four l dC dI E h r F q3.2 x3 q4 hq4) ⟨Nat.le_of_ble_eq_true rfl, Nat.le_of_ble_eq_true rfl⟩ ⟨rfl, rfl⟩ (Nat.le_of_ble_eq_true rfl) ⟨Nat.le_of_ble_eq_true rfl, Nat.le_of_ble_eq_true rfl⟩ dX11_feed_32 ?_
    refine g_aload_n X dX11_feed_35 0 rfl ?_
    refine g_iload X dX11_feed_36 4 rfl ?_
    refine m_bind hf (fun q5 hq5 hf => ?_)
    refine m_callV_v (As := [.int x4]) (st := []) X kV_233 (c_four l dC dI E h r F q4.2 x4 q5 hq5) ⟨Nat.le_of_ble_eq_true rfl, Nat.le_of_ble_eq_true rfl⟩ ⟨rfl, rfl⟩ (Nat.le_of_ble_eq_true rfl) ⟨Nat.le_of_ble_eq_true rfl, Nat.le_of_ble_eq_true rfl⟩ dX11_feed_38 ?_
    refine g_aload_n X dX11_feed_41 0 rfl ?_
    refine g_iload X dX11_feed_42 5 rfl ?_
    refine m_bind hf (fun q6 hq6 hf => ?_)
    refine m_callV_v (As := [.int x5]) (st := []) X kV_233 (c_four l dC dI E h r F q5.2 x5 q6 hq6) ⟨Nat.le_of_ble_eq_true rfl, Nat.le_of_ble_eq_true rfl⟩ ⟨rfl, rfl⟩ (Nat.le_of_ble_eq_true rfl) ⟨Nat.le_of_ble_eq_true rfl, Nat.le_of_ble_eq_true rfl⟩ dX11_feed_44 ?_
    refine g_aload_n X dX11_feed_47 0 rfl ?_
    refine m_get_13 X dX11_feed_48 ?_
    exact m_reti_s hA hQ X hr hlk dX11_feed_51 hf
  refine g_iconst X dX11_feed_18 kc_m1 ?_
  exact m_reti_s hA hQ X hr hlk dX11_feed_19 hf
def rm_end : Room := { frames := 0, cells := 0, slots := 0, locals := 0 }
set_option maxRecDepth 100000 in
set_option maxHeartbeats 4000000 in
theorem c_end (l : Launch) (dC : Nat → ClassId) (dI : Nat → Nat → Nat) (E : Nat → ClassId) (h : Nat) (r : Nat → Nat) (S : MS) (x1 : Int32) (res : Int32 × MS) (hf : M_end S x1 = some res) : MC l dC dI E yX11_end cX11_end 2 (some .int) rm_end [.ref h, .int x1] (MW E h r S) (MW E h r res.2) (some (.int res.1)) := by
  refine MC_of (own := "LostLanesModel") (by decide) rfl (Nat.le_of_ble_eq_true rfl) ?_
  intro p e s m args below meth c A Q X hr hlk hA hQ
  refine g_lv [0, 1] (lv' := [(0, .ref h), (1, .int x1)]) rfl ?_
  unfold M_end at hf
  refine g_aload_n X dX11_end_0 0 rfl ?_
  refine g_iconst X dX11_end_1 kc_0 ?_
  refine m_put_0 X dX11_end_2 hf (fun S1 hf => ?_)
  refine g_iload_n X dX11_end_5 1 rfl ?_
  refine g_if_lt (tgt := 17) X dX11_end_6 (by decide) hf (fun hf => ?_) (fun hf => ?_)
  · refine g_iconst X dX11_end_17 kc_m1 ?_
    exact m_reti_s hA hQ X hr hlk dX11_end_18 hf
  refine g_iload_n X dX11_end_9 1 rfl ?_
  refine g_aload_n X dX11_end_10 0 rfl ?_
  refine m_get_13 X dX11_end_11 ?_
  refine g_icmp_le (tgt := 19) X dX11_end_14 (by decide) hf (fun hf => ?_) (fun hf => ?_)
  · refine g_aload_n X dX11_end_19 0 rfl ?_
    refine g_iload_n X dX11_end_20 1 rfl ?_
    refine m_put_13 X dX11_end_21 hf (fun S2 hf => ?_)
    refine g_iload_n X dX11_end_24 1 rfl ?_
    exact m_reti_s hA hQ X hr hlk dX11_end_25 hf
  refine g_iconst X dX11_end_17 kc_m1 ?_
  exact m_reti_s hA hQ X hr hlk dX11_end_18 hf
def rm_isSmall : Room := { frames := 0, cells := 0, slots := 0, locals := 0 }
set_option maxRecDepth 100000 in
set_option maxHeartbeats 4000000 in
theorem c_isSmall (l : Launch) (dC : Nat → ClassId) (dI : Nat → Nat → Nat) (E : Nat → ClassId) (h : Nat) (r : Nat → Nat) (S : MS) (x0 : Int32) (res : Int32) (hf : M_isSmall x0 = some res) : MC l dC dI E yX11_isSmall cX11_isSmall 1 (some .boolean) rm_isSmall [.int x0] (MW E h r S) (MW E h r S) (some (.int res)) := by
  refine MC_of (own := "LostLanesModel") (by decide) rfl (Nat.le_of_ble_eq_true rfl) ?_
  intro p e s m args below meth c A Q X hr hlk hA hQ
  refine g_lv [0] (lv' := [(0, .int x0)]) rfl ?_
  unfold M_isSmall at hf
  refine g_iload_n X dX11_isSmall_0 0 rfl ?_
  refine g_bipush X dX11_isSmall_1 kb_97 ?_
  refine g_icmp_lt (tgt := 16) X dX11_isSmall_3 (by decide) hf (fun hf => ?_) (fun hf => ?_)
  · refine g_iconst X dX11_isSmall_16 kc_0 ?_
    exact m_retz_o hA hQ X hr hlk (Or.inl rfl) dX11_isSmall_17 hf
  refine g_iload_n X dX11_isSmall_6 0 rfl ?_
  refine g_bipush X dX11_isSmall_7 kb_122 ?_
  refine g_icmp_gt (tgt := 16) X dX11_isSmall_9 (by decide) hf (fun hf => ?_) (fun hf => ?_)
  · refine g_iconst X dX11_isSmall_16 kc_0 ?_
    exact m_retz_o hA hQ X hr hlk (Or.inl rfl) dX11_isSmall_17 hf
  refine g_iconst X dX11_isSmall_12 kc_1 ?_
  refine g_goto (tgt := 17) X dX11_isSmall_13 (by decide) ?_
  exact m_retz_o hA hQ X hr hlk (Or.inr rfl) dX11_isSmall_17 hf
def rm_isDigit : Room := { frames := 0, cells := 0, slots := 0, locals := 0 }
set_option maxRecDepth 100000 in
set_option maxHeartbeats 4000000 in
theorem c_isDigit (l : Launch) (dC : Nat → ClassId) (dI : Nat → Nat → Nat) (E : Nat → ClassId) (h : Nat) (r : Nat → Nat) (S : MS) (x0 : Int32) (res : Int32) (hf : M_isDigit x0 = some res) : MC l dC dI E yX11_isDigit cX11_isDigit 1 (some .boolean) rm_isDigit [.int x0] (MW E h r S) (MW E h r S) (some (.int res)) := by
  refine MC_of (own := "LostLanesModel") (by decide) rfl (Nat.le_of_ble_eq_true rfl) ?_
  intro p e s m args below meth c A Q X hr hlk hA hQ
  refine g_lv [0] (lv' := [(0, .int x0)]) rfl ?_
  unfold M_isDigit at hf
  refine g_iload_n X dX11_isDigit_0 0 rfl ?_
  refine g_bipush X dX11_isDigit_1 kb_48 ?_
  refine g_icmp_lt (tgt := 16) X dX11_isDigit_3 (by decide) hf (fun hf => ?_) (fun hf => ?_)
  · refine g_iconst X dX11_isDigit_16 kc_0 ?_
    exact m_retz_o hA hQ X hr hlk (Or.inl rfl) dX11_isDigit_17 hf
  refine g_iload_n X dX11_isDigit_6 0 rfl ?_
  refine g_bipush X dX11_isDigit_7 kb_57 ?_
  refine g_icmp_gt (tgt := 16) X dX11_isDigit_9 (by decide) hf (fun hf => ?_) (fun hf => ?_)
  · refine g_iconst X dX11_isDigit_16 kc_0 ?_
    exact m_retz_o hA hQ X hr hlk (Or.inl rfl) dX11_isDigit_17 hf
  refine g_iconst X dX11_isDigit_12 kc_1 ?_
  refine g_goto (tgt := 17) X dX11_isDigit_13 (by decide) ?_
  exact m_retz_o hA hQ X hr hlk (Or.inr rfl) dX11_isDigit_17 hf
def rm_next : Room := { frames := 1, cells := 0, slots := 0, locals := 20 }
set_option maxRecDepth 100000 in
set_option maxHeartbeats 4000000 in
theorem c_next (l : Launch) (dC : Nat → ClassId) (dI : Nat → Nat → Nat) (E : Nat → ClassId) (h : Nat) (r : Nat → Nat) (F : Nat) (S : MS)  (res : Unit × MS) (hf : M_next F S = some res) : MC l dC dI E yX11_next cX11_next 1 none rm_next [.ref h] (MW E h r S) (MW E h r res.2) none := by
  refine MC_of (own := "LostLanesModel") (by decide) rfl (Nat.le_of_ble_eq_true rfl) ?_
  intro p e s m args below meth c A Q X hr hlk hA hQ
  have hB319 : ∀ (k243 : MS → Option (Unit × MS)) (hk243 : ∀ (S : MS), k243 S = some res → GG p l e rm_next s m args below meth c dC dI A 1 0 0 Q (MW E h r S) 243 [(0, .ref h)] []) (S : MS) (t1 : Int64), M_next_B319 F k243 S t1 = some res → GG p l e rm_next s m args below meth c dC dI A 1 0 0 Q (MW E h r S) 319 [(0, .ref h)] [.long t1, .ref h] := by
    intro k243 hk243 S t1 hf
    unfold M_next_B319 at hf
    refine m_put_17 X dX11_next_319 hf (fun S1 hf => ?_)
    refine g_aload_n X dX11_next_322 0 rfl ?_
    refine g_dup X dX11_next_323 rfl ?_
    refine m_get_15 X dX11_next_324 ?_
    refine g_iconst X dX11_next_327 kc_1 ?_
    refine g_iadd X dX11_next_328 ?_
    refine m_put_15 X dX11_next_329 hf (fun S2 hf => ?_)
    refine g_goto (tgt := 243) X dX11_next_332 (by decide) ?_
    exact hk243 _ hf
  have hL243 : ∀  (n : Nat) (S : MS), M_next_L243 F n S = some res → GG p l e rm_next s m args below meth c dC dI A 1 0 0 Q (MW E h r S) 243 [(0, .ref h)] [] := by
    intro  n
    induction n with
    | zero => intro S hf; have hf : (none : Option (Unit × MS)) = some res := hf; cases hf
    | succ n ih =>
      intro S hf
      rw [M_next_L243] at hf
      refine g_aload_n X dX11_next_243 0 rfl ?_
      refine m_get_16 X dX11_next_244 ?_
      refine g_iconst X dX11_next_247 kc_2 ?_
      refine g_icmp_ne (tgt := 335) X dX11_next_248 (by decide) hf (fun hf => ?_) (fun hf => ?_)
      · exact m_retv_s hA hQ X hr hlk dX11_next_335 hf
      refine g_aload_n X dX11_next_251 0 rfl ?_
      refine m_get_15 X dX11_next_252 ?_
      refine g_aload_n X dX11_next_255 0 rfl ?_
      refine m_get_13 X dX11_next_256 ?_
      refine g_icmp_ge (tgt := 335) X dX11_next_259 (by decide) hf (fun hf => ?_) (fun hf => ?_)
      · exact m_retv_s hA hQ X hr hlk dX11_next_335 hf
      refine g_aload_n X dX11_next_262 0 rfl ?_
      refine m_get_12 X dX11_next_263 ?_
      refine g_aload_n X dX11_next_266 0 rfl ?_
      refine m_get_15 X dX11_next_267 ?_
      refine m_ald_12 X dX11_next_270 hf (fun hf => ?_)
      refine m_bind hf (fun q3 hq3 hf => ?_)
      refine m_callS_i (As := [.int (ma S 12 ((mi S 15)).toNatClampNeg)]) (st := []) X kS_256 (c_isDigit l dC dI E h r S (ma S 12 ((mi S 15)).toNatClampNeg) q3 hq3) ⟨Nat.le_of_ble_eq_true rfl, Nat.le_of_ble_eq_true rfl⟩ ⟨rfl, rfl⟩ (Nat.le_of_ble_eq_true rfl) ⟨Nat.le_of_ble_eq_true rfl, Nat.le_of_ble_eq_true rfl⟩ dX11_next_271 ?_
      refine g_if_eq (tgt := 335) X dX11_next_274 (by decide) hf (fun hf => ?_) (fun hf => ?_)
      · exact m_retv_s hA hQ X hr hlk dX11_next_335 hf
      refine g_aload_n X dX11_next_277 0 rfl ?_
      refine g_aload_n X dX11_next_278 0 rfl ?_
      refine m_get_17 X dX11_next_279 ?_
      refine g_ldc2 X dX11_next_282 wd7_11 ?_
      refine g_lcmp_le (tgt := 296) X dX11_next_285 dX11_next_286 (by decide) hf (fun hf => ?_) (fun hf => ?_)
      · refine g_aload_n X dX11_next_296 0 rfl ?_
        refine m_get_17 X dX11_next_297 ?_
        refine g_ldc2 X dX11_next_300 wd6_198 ?_
        refine g_lmul X dX11_next_303 ?_
        refine g_aload_n X dX11_next_304 0 rfl ?_
        refine m_get_12 X dX11_next_305 ?_
        refine g_aload_n X dX11_next_308 0 rfl ?_
        refine m_get_15 X dX11_next_309 ?_
        refine m_ald_12 X dX11_next_312 hf (fun hf => ?_)
        refine g_i2l X dX11_next_313 ?_
        refine g_ladd X dX11_next_314 ?_
        refine g_ldc2 X dX11_next_315 wd7_12 ?_
        refine g_lsub X dX11_next_318 ?_
        exact hB319 _ ih _ _ hf
      refine g_aload_n X dX11_next_289 0 rfl ?_
      refine m_get_17 X dX11_next_290 ?_
      refine g_goto (tgt := 319) X dX11_next_293 (by decide) ?_
      exact hB319 _ ih _ _ hf
  have hB227 : ∀ (k149 : MS → Option (Unit × MS)) (hk149 : ∀ (S : MS), k149 S = some res → GG p l e rm_next s m args below meth c dC dI A 1 0 0 Q (MW E h r S) 149 [(0, .ref h)] []) (S : MS) (t1 : Int64), M_next_B227 F k149 S t1 = some res → GG p l e rm_next s m args below meth c dC dI A 1 0 0 Q (MW E h r S) 227 [(0, .ref h)] [.long t1, .ref h] := by
    intro k149 hk149 S t1 hf
    unfold M_next_B227 at hf
    refine m_put_17 X dX11_next_227 hf (fun S4 hf => ?_)
    refine g_aload_n X dX11_next_230 0 rfl ?_
    refine g_dup X dX11_next_231 rfl ?_
    refine m_get_15 X dX11_next_232 ?_
    refine g_iconst X dX11_next_235 kc_1 ?_
    refine g_iadd X dX11_next_236 ?_
    refine m_put_15 X dX11_next_237 hf (fun S5 hf => ?_)
    refine g_goto (tgt := 149) X dX11_next_240 (by decide) ?_
    exact hk149 _ hf
  have hL149 : ∀  (n : Nat) (S : MS), M_next_L149 F n S = some res → GG p l e rm_next s m args below meth c dC dI A 1 0 0 Q (MW E h r S) 149 [(0, .ref h)] [] := by
    intro  n
    induction n with
    | zero => intro S hf; have hf : (none : Option (Unit × MS)) = some res := hf; cases hf
    | succ n ih =>
      intro S hf
      rw [M_next_L149] at hf
      refine g_aload_n X dX11_next_149 0 rfl ?_
      refine m_get_16 X dX11_next_150 ?_
      refine g_iconst X dX11_next_153 kc_1 ?_
      refine g_icmp_ne (tgt := 243) X dX11_next_154 (by decide) hf (fun hf => ?_) (fun hf => ?_)
      · exact hL243 _ _ hf
      refine g_aload_n X dX11_next_157 0 rfl ?_
      refine m_get_15 X dX11_next_158 ?_
      refine g_aload_n X dX11_next_161 0 rfl ?_
      refine m_get_13 X dX11_next_162 ?_
      refine g_icmp_ge (tgt := 243) X dX11_next_165 (by decide) hf (fun hf => ?_) (fun hf => ?_)
      · exact hL243 _ _ hf
      refine g_aload_n X dX11_next_168 0 rfl ?_
      refine m_get_12 X dX11_next_169 ?_
      refine g_aload_n X dX11_next_172 0 rfl ?_
      refine m_get_15 X dX11_next_173 ?_
      refine m_ald_12 X dX11_next_176 hf (fun hf => ?_)
      refine m_bind hf (fun q6 hq6 hf => ?_)
      refine m_callS_i (As := [.int (ma S 12 ((mi S 15)).toNatClampNeg)]) (st := []) X kS_253 (c_isSmall l dC dI E h r S (ma S 12 ((mi S 15)).toNatClampNeg) q6 hq6) ⟨Nat.le_of_ble_eq_true rfl, Nat.le_of_ble_eq_true rfl⟩ ⟨rfl, rfl⟩ (Nat.le_of_ble_eq_true rfl) ⟨Nat.le_of_ble_eq_true rfl, Nat.le_of_ble_eq_true rfl⟩ dX11_next_177 ?_
      refine g_if_eq (tgt := 243) X dX11_next_180 (by decide) hf (fun hf => ?_) (fun hf => ?_)
      · exact hL243 _ _ hf
      refine g_aload_n X dX11_next_183 0 rfl ?_
      refine g_aload_n X dX11_next_184 0 rfl ?_
      refine m_get_15 X dX11_next_185 ?_
      refine g_aload_n X dX11_next_188 0 rfl ?_
      refine m_get_14 X dX11_next_189 ?_
      refine g_isub X dX11_next_192 ?_
      refine g_bipush X dX11_next_193 kb_10 ?_
      refine g_icmp_ge (tgt := 224) X dX11_next_195 (by decide) hf (fun hf => ?_) (fun hf => ?_)
      · refine g_ldc2 X dX11_next_224 wd6_151 ?_
        exact hB227 _ ih _ _ hf
      refine g_aload_n X dX11_next_198 0 rfl ?_
      refine m_get_17 X dX11_next_199 ?_
      refine g_ldc2 X dX11_next_202 wd7_9 ?_
      refine g_lmul X dX11_next_205 ?_
      refine g_aload_n X dX11_next_206 0 rfl ?_
      refine m_get_12 X dX11_next_207 ?_
      refine g_aload_n X dX11_next_210 0 rfl ?_
      refine m_get_15 X dX11_next_211 ?_
      refine m_ald_12 X dX11_next_214 hf (fun hf => ?_)
      refine g_i2l X dX11_next_215 ?_
      refine g_ladd X dX11_next_216 ?_
      refine g_ldc2 X dX11_next_217 wd7_10 ?_
      refine g_lsub X dX11_next_220 ?_
      refine g_goto (tgt := 227) X dX11_next_221 (by decide) ?_
      exact hB227 _ ih _ _ hf
  have hB114 : ∀ (S : MS) (t1 : Int32), M_next_B114 F S t1 = some res → GG p l e rm_next s m args below meth c dC dI A 1 0 0 Q (MW E h r S) 114 [(0, .ref h)] [.int t1, .ref h] := by
    intro S t1 hf
    unfold M_next_B114 at hf
    refine m_put_16 X dX11_next_114 hf (fun S7 hf => ?_)
    refine g_aload_n X dX11_next_117 0 rfl ?_
    refine m_get_16 X dX11_next_118 ?_
    refine g_iconst X dX11_next_121 kc_3 ?_
    refine g_icmp_ne (tgt := 149) X dX11_next_122 (by decide) hf (fun hf => ?_) (fun hf => ?_)
    · exact hL149 _ _ hf
    refine g_aload_n X dX11_next_125 0 rfl ?_
    refine g_aload_n X dX11_next_126 0 rfl ?_
    refine m_get_12 X dX11_next_127 ?_
    refine g_aload_n X dX11_next_130 0 rfl ?_
    refine m_get_14 X dX11_next_131 ?_
    refine m_ald_12 X dX11_next_134 hf (fun hf => ?_)
    refine g_i2l X dX11_next_135 ?_
    refine m_put_17 X dX11_next_136 hf (fun S8 hf => ?_)
    refine g_aload_n X dX11_next_139 0 rfl ?_
    refine g_dup X dX11_next_140 rfl ?_
    refine m_get_15 X dX11_next_141 ?_
    refine g_iconst X dX11_next_144 kc_1 ?_
    refine g_iadd X dX11_next_145 ?_
    refine m_put_15 X dX11_next_146 hf (fun S9 hf => ?_)
    exact hL149 _ _ hf
  have hB46 : ∀ (S : MS), M_next_B46 F S = some res → GG p l e rm_next s m args below meth c dC dI A 1 0 0 Q (MW E h r S) 46 [(0, .ref h)] [] := by
    intro S hf
    unfold M_next_B46 at hf
    refine g_aload_n X dX11_next_46 0 rfl ?_
    refine g_aload_n X dX11_next_47 0 rfl ?_
    refine m_get_14 X dX11_next_48 ?_
    refine m_put_15 X dX11_next_51 hf (fun S10 hf => ?_)
    refine g_aload_n X dX11_next_54 0 rfl ?_
    refine g_lconst X dX11_next_55 kl_0 ?_
    refine m_put_17 X dX11_next_56 hf (fun S11 hf => ?_)
    refine g_aload_n X dX11_next_59 0 rfl ?_
    refine g_aload_n X dX11_next_60 0 rfl ?_
    refine m_get_14 X dX11_next_61 ?_
    refine g_aload_n X dX11_next_64 0 rfl ?_
    refine m_get_13 X dX11_next_65 ?_
    refine g_icmp_ne (tgt := 75) X dX11_next_68 (by decide) hf (fun hf => ?_) (fun hf => ?_)
    · refine g_aload_n X dX11_next_75 0 rfl ?_
      refine m_get_12 X dX11_next_76 ?_
      refine g_aload_n X dX11_next_79 0 rfl ?_
      refine m_get_14 X dX11_next_80 ?_
      refine m_ald_12 X dX11_next_83 hf (fun hf => ?_)
      refine m_bind hf (fun q12 hq12 hf => ?_)
      refine m_callS_i (As := [.int (ma S11 12 ((mi S11 14)).toNatClampNeg)]) (st := [.ref h]) X kS_253 (c_isSmall l dC dI E h r S11 (ma S11 12 ((mi S11 14)).toNatClampNeg) q12 hq12) ⟨Nat.le_of_ble_eq_true rfl, Nat.le_of_ble_eq_true rfl⟩ ⟨rfl, rfl⟩ (Nat.le_of_ble_eq_true rfl) ⟨Nat.le_of_ble_eq_true rfl, Nat.le_of_ble_eq_true rfl⟩ dX11_next_84 ?_
      refine g_if_eq (tgt := 94) X dX11_next_87 (by decide) hf (fun hf => ?_) (fun hf => ?_)
      · refine g_aload_n X dX11_next_94 0 rfl ?_
        refine m_get_12 X dX11_next_95 ?_
        refine g_aload_n X dX11_next_98 0 rfl ?_
        refine m_get_14 X dX11_next_99 ?_
        refine m_ald_12 X dX11_next_102 hf (fun hf => ?_)
        refine m_bind hf (fun q13 hq13 hf => ?_)
        refine m_callS_i (As := [.int (ma S11 12 ((mi S11 14)).toNatClampNeg)]) (st := [.ref h]) X kS_256 (c_isDigit l dC dI E h r S11 (ma S11 12 ((mi S11 14)).toNatClampNeg) q13 hq13) ⟨Nat.le_of_ble_eq_true rfl, Nat.le_of_ble_eq_true rfl⟩ ⟨rfl, rfl⟩ (Nat.le_of_ble_eq_true rfl) ⟨Nat.le_of_ble_eq_true rfl, Nat.le_of_ble_eq_true rfl⟩ dX11_next_103 ?_
        refine g_if_eq (tgt := 113) X dX11_next_106 (by decide) hf (fun hf => ?_) (fun hf => ?_)
        · refine g_iconst X dX11_next_113 kc_3 ?_
          exact hB114 _ _ hf
        refine g_iconst X dX11_next_109 kc_2 ?_
        refine g_goto (tgt := 114) X dX11_next_110 (by decide) ?_
        exact hB114 _ _ hf
      refine g_iconst X dX11_next_90 kc_1 ?_
      refine g_goto (tgt := 114) X dX11_next_91 (by decide) ?_
      exact hB114 _ _ hf
    refine g_iconst X dX11_next_71 kc_0 ?_
    refine g_goto (tgt := 114) X dX11_next_72 (by decide) ?_
    exact hB114 _ _ hf
  have hL8 : ∀  (n : Nat) (S : MS), M_next_L8 F n S = some res → GG p l e rm_next s m args below meth c dC dI A 1 0 0 Q (MW E h r S) 8 [(0, .ref h)] [] := by
    intro  n
    induction n with
    | zero => intro S hf; have hf : (none : Option (Unit × MS)) = some res := hf; cases hf
    | succ n ih =>
      intro S hf
      rw [M_next_L8] at hf
      refine g_aload_n X dX11_next_8 0 rfl ?_
      refine m_get_14 X dX11_next_9 ?_
      refine g_aload_n X dX11_next_12 0 rfl ?_
      refine m_get_13 X dX11_next_13 ?_
      refine g_icmp_ge (tgt := 46) X dX11_next_16 (by decide) hf (fun hf => ?_) (fun hf => ?_)
      · exact hB46 _ hf
      refine g_aload_n X dX11_next_19 0 rfl ?_
      refine m_get_12 X dX11_next_20 ?_
      refine g_aload_n X dX11_next_23 0 rfl ?_
      refine m_get_14 X dX11_next_24 ?_
      refine m_ald_12 X dX11_next_27 hf (fun hf => ?_)
      refine g_bipush X dX11_next_28 kb_32 ?_
      refine g_icmp_ne (tgt := 46) X dX11_next_30 (by decide) hf (fun hf => ?_) (fun hf => ?_)
      · exact hB46 _ hf
      refine g_aload_n X dX11_next_33 0 rfl ?_
      refine g_dup X dX11_next_34 rfl ?_
      refine m_get_14 X dX11_next_35 ?_
      refine g_iconst X dX11_next_38 kc_1 ?_
      refine g_iadd X dX11_next_39 ?_
      refine m_put_14 X dX11_next_40 hf (fun S14 hf => ?_)
      refine g_goto (tgt := 8) X dX11_next_43 (by decide) ?_
      exact ih _ hf
  refine g_lv [0] (lv' := [(0, .ref h)]) rfl ?_
  unfold M_next at hf
  refine g_aload_n X dX11_next_0 0 rfl ?_
  refine g_aload_n X dX11_next_1 0 rfl ?_
  refine m_get_15 X dX11_next_2 ?_
  refine m_put_14 X dX11_next_5 hf (fun S15 hf => ?_)
  exact hL8 _ _ hf
def rm_begin : Room := { frames := 2, cells := 0, slots := 0, locals := 40 }
set_option maxRecDepth 100000 in
set_option maxHeartbeats 4000000 in
theorem c_begin (l : Launch) (dC : Nat → ClassId) (dI : Nat → Nat → Nat) (E : Nat → ClassId) (h : Nat) (r : Nat → Nat) (F : Nat) (S : MS)  (res : Unit × MS) (hf : M_begin F S = some res) : MC l dC dI E yX11_begin cX11_begin 1 none rm_begin [.ref h] (MW E h r S) (MW E h r res.2) none := by
  refine MC_of (own := "LostLanesModel") (by decide) rfl (Nat.le_of_ble_eq_true rfl) ?_
  intro p e s m args below meth c A Q X hr hlk hA hQ
  refine g_lv [0] (lv' := [(0, .ref h)]) rfl ?_
  unfold M_begin at hf
  refine g_aload_n X dX11_begin_0 0 rfl ?_
  refine g_iconst X dX11_begin_1 kc_0 ?_
  refine m_put_15 X dX11_begin_2 hf (fun S1 hf => ?_)
  refine g_aload_n X dX11_begin_5 0 rfl ?_
  refine g_iconst X dX11_begin_6 kc_0 ?_
  refine m_put_19 X (Or.inl rfl) dX11_begin_7 hf (fun S2 hf => ?_)
  refine g_aload_n X dX11_begin_10 0 rfl ?_
  refine g_iconst X dX11_begin_11 kc_m1 ?_
  refine m_put_18 X dX11_begin_12 hf (fun S3 hf => ?_)
  refine g_aload_n X dX11_begin_15 0 rfl ?_
  refine m_bind hf (fun q4 hq4 hf => ?_)
  refine m_callV_v (As := []) (st := []) X kV_243 (c_next l dC dI E h r F S3 q4 hq4) ⟨Nat.le_of_ble_eq_true rfl, Nat.le_of_ble_eq_true rfl⟩ ⟨rfl, rfl⟩ (Nat.le_of_ble_eq_true rfl) ⟨Nat.le_of_ble_eq_true rfl, Nat.le_of_ble_eq_true rfl⟩ dX11_begin_16 ?_
  exact m_retv_s hA hQ X hr hlk dX11_begin_19 hf
def rm_isWord : Room := { frames := 0, cells := 0, slots := 0, locals := 0 }
set_option maxRecDepth 100000 in
set_option maxHeartbeats 4000000 in
theorem c_isWord (l : Launch) (dC : Nat → ClassId) (dI : Nat → Nat → Nat) (E : Nat → ClassId) (h : Nat) (r : Nat → Nat) (S : MS) (x1 : Int64) (res : Int32) (hf : M_isWord S x1 = some res) : MC l dC dI E yX11_isWord cX11_isWord 3 (some .boolean) rm_isWord [.ref h, .long x1] (MW E h r S) (MW E h r S) (some (.int res)) := by
  refine MC_of (own := "LostLanesModel") (by decide) rfl (Nat.le_of_ble_eq_true rfl) ?_
  intro p e s m args below meth c A Q X hr hlk hA hQ
  refine g_lv [0, 1] (lv' := [(0, .ref h), (1, .long x1)]) rfl ?_
  unfold M_isWord at hf
  refine g_aload_n X dX11_isWord_0 0 rfl ?_
  refine m_get_16 X dX11_isWord_1 ?_
  refine g_iconst X dX11_isWord_4 kc_1 ?_
  refine g_icmp_ne (tgt := 21) X dX11_isWord_5 (by decide) hf (fun hf => ?_) (fun hf => ?_)
  · refine g_iconst X dX11_isWord_21 kc_0 ?_
    exact m_retz_o hA hQ X hr hlk (Or.inl rfl) dX11_isWord_22 hf
  refine g_aload_n X dX11_isWord_8 0 rfl ?_
  refine m_get_17 X dX11_isWord_9 ?_
  refine g_lload_n X dX11_isWord_12 1 rfl ?_
  refine g_lcmp_ne (tgt := 21) X dX11_isWord_13 dX11_isWord_14 (by decide) hf (fun hf => ?_) (fun hf => ?_)
  · refine g_iconst X dX11_isWord_21 kc_0 ?_
    exact m_retz_o hA hQ X hr hlk (Or.inl rfl) dX11_isWord_22 hf
  refine g_iconst X dX11_isWord_17 kc_1 ?_
  refine g_goto (tgt := 22) X dX11_isWord_18 (by decide) ?_
  exact m_retz_o hA hQ X hr hlk (Or.inr rfl) dX11_isWord_22 hf
def rm_isSign : Room := { frames := 0, cells := 0, slots := 0, locals := 0 }
set_option maxRecDepth 100000 in
set_option maxHeartbeats 4000000 in
theorem c_isSign (l : Launch) (dC : Nat → ClassId) (dI : Nat → Nat → Nat) (E : Nat → ClassId) (h : Nat) (r : Nat → Nat) (S : MS) (x1 : Int32) (res : Int32) (hf : M_isSign S x1 = some res) : MC l dC dI E yX11_isSign cX11_isSign 2 (some .boolean) rm_isSign [.ref h, .int x1] (MW E h r S) (MW E h r S) (some (.int res)) := by
  refine MC_of (own := "LostLanesModel") (by decide) rfl (Nat.le_of_ble_eq_true rfl) ?_
  intro p e s m args below meth c A Q X hr hlk hA hQ
  refine g_lv [0, 1] (lv' := [(0, .ref h), (1, .int x1)]) rfl ?_
  unfold M_isSign at hf
  refine g_aload_n X dX11_isSign_0 0 rfl ?_
  refine m_get_16 X dX11_isSign_1 ?_
  refine g_iconst X dX11_isSign_4 kc_3 ?_
  refine g_icmp_ne (tgt := 22) X dX11_isSign_5 (by decide) hf (fun hf => ?_) (fun hf => ?_)
  · refine g_iconst X dX11_isSign_22 kc_0 ?_
    exact m_retz_o hA hQ X hr hlk (Or.inl rfl) dX11_isSign_23 hf
  refine g_aload_n X dX11_isSign_8 0 rfl ?_
  refine m_get_17 X dX11_isSign_9 ?_
  refine g_iload_n X dX11_isSign_12 1 rfl ?_
  refine g_i2l X dX11_isSign_13 ?_
  refine g_lcmp_ne (tgt := 22) X dX11_isSign_14 dX11_isSign_15 (by decide) hf (fun hf => ?_) (fun hf => ?_)
  · refine g_iconst X dX11_isSign_22 kc_0 ?_
    exact m_retz_o hA hQ X hr hlk (Or.inl rfl) dX11_isSign_23 hf
  refine g_iconst X dX11_isSign_18 kc_1 ?_
  refine g_goto (tgt := 23) X dX11_isSign_19 (by decide) ?_
  exact m_retz_o hA hQ X hr hlk (Or.inr rfl) dX11_isSign_23 hf
def rm_must : Room := { frames := 2, cells := 0, slots := 0, locals := 40 }
set_option maxRecDepth 100000 in
set_option maxHeartbeats 4000000 in
theorem c_must (l : Launch) (dC : Nat → ClassId) (dI : Nat → Nat → Nat) (E : Nat → ClassId) (h : Nat) (r : Nat → Nat) (F : Nat) (S : MS) (x1 : Int32) (res : Unit × MS) (hf : M_must F S x1 = some res) : MC l dC dI E yX11_must cX11_must 2 none rm_must [.ref h, .int x1] (MW E h r S) (MW E h r res.2) none := by
  refine MC_of (own := "LostLanesModel") (by decide) rfl (Nat.le_of_ble_eq_true rfl) ?_
  intro p e s m args below meth c A Q X hr hlk hA hQ
  have hB24 : ∀ (S : MS), M_must_B24 F S = some res → GG p l e rm_must s m args below meth c dC dI A 2 0 0 Q (MW E h r S) 24 [(0, .ref h)] [] := by
    intro S hf
    unfold M_must_B24 at hf
    refine g_aload_n X dX11_must_24 0 rfl ?_
    refine m_get_19 X dX11_must_25 ?_
    refine g_if_ne (tgt := 35) X dX11_must_28 (by decide) hf (fun hf => ?_) (fun hf => ?_)
    · exact m_retv_s hA hQ X hr hlk dX11_must_35 hf
    refine g_aload_n X dX11_must_31 0 rfl ?_
    refine m_bind hf (fun q1 hq1 hf => ?_)
    refine m_callV_v (As := []) (st := []) X kV_243 (c_next l dC dI E h r F S q1 hq1) ⟨Nat.le_of_ble_eq_true rfl, Nat.le_of_ble_eq_true rfl⟩ ⟨rfl, rfl⟩ (Nat.le_of_ble_eq_true rfl) ⟨Nat.le_of_ble_eq_true rfl, Nat.le_of_ble_eq_true rfl⟩ dX11_must_32 ?_
    exact m_retv_s hA hQ X hr hlk dX11_must_35 hf
  refine g_lv [0, 1] (lv' := [(0, .ref h), (1, .int x1)]) rfl ?_
  unfold M_must at hf
  refine g_aload_n X dX11_must_0 0 rfl ?_
  refine m_get_19 X dX11_must_1 ?_
  refine g_if_ne (tgt := 24) X dX11_must_4 (by decide) hf (fun hf => ?_) (fun hf => ?_)
  · refine g_lv [0] (lv' := [(0, .ref h)]) rfl ?_
    exact hB24 _ hf
  refine g_iload_n X dX11_must_7 1 rfl ?_
  refine g_if_ne (tgt := 24) X dX11_must_8 (by decide) hf (fun hf => ?_) (fun hf => ?_)
  · refine g_lv [0] (lv' := [(0, .ref h)]) rfl ?_
    exact hB24 _ hf
  refine g_aload_n X dX11_must_11 0 rfl ?_
  refine g_iconst X dX11_must_12 kc_1 ?_
  refine m_put_19 X (Or.inr rfl) dX11_must_13 hf (fun S2 hf => ?_)
  refine g_aload_n X dX11_must_16 0 rfl ?_
  refine g_aload_n X dX11_must_17 0 rfl ?_
  refine m_get_14 X dX11_must_18 ?_
  refine m_put_18 X dX11_must_21 hf (fun S3 hf => ?_)
  refine g_lv [0] (lv' := [(0, .ref h)]) rfl ?_
  exact hB24 _ hf
def rm_number : Room := { frames := 3, cells := 0, slots := 0, locals := 61 }
set_option maxRecDepth 100000 in
set_option maxHeartbeats 4000000 in
theorem c_number (l : Launch) (dC : Nat → ClassId) (dI : Nat → Nat → Nat) (E : Nat → ClassId) (h : Nat) (r : Nat → Nat) (F : Nat) (S : MS) (x1 : Int64) (x3 : Int64) (res : Int32 × MS) (hf : M_number F S x1 x3 = some res) : MC l dC dI E yX11_number cX11_number 6 (some .int) rm_number [.ref h, .long x1, .long x3] (MW E h r S) (MW E h r res.2) (some (.int res.1)) := by
  refine MC_of (own := "LostLanesModel") (by decide) rfl (Nat.le_of_ble_eq_true rfl) ?_
  intro p e s m args below meth c A Q X hr hlk hA hQ
  have hB33 : ∀ (S : MS) (x5 : Int32) (t1 : Int32), M_number_B33 F S x5 t1 = some res → GG p l e rm_number s m args below meth c dC dI A 6 0 0 Q (MW E h r S) 33 [(5, .int x5)] [.int t1, .ref h] := by
    intro S x5 t1 hf
    unfold M_number_B33 at hf
    refine m_bind hf (fun q1 hq1 hf => ?_)
    refine m_callV_v (As := [.int t1]) (st := []) X kV_272 (c_must l dC dI E h r F S t1 q1 hq1) ⟨Nat.le_of_ble_eq_true rfl, Nat.le_of_ble_eq_true rfl⟩ ⟨rfl, rfl⟩ (Nat.le_of_ble_eq_true rfl) ⟨Nat.le_of_ble_eq_true rfl, Nat.le_of_ble_eq_true rfl⟩ dX11_number_33 ?_
    refine g_iload X dX11_number_36 0 rfl ?_
    exact m_reti_s hA hQ X hr hlk dX11_number_38 hf
  have hB32 : ∀ (S : MS) (x5 : Int32), M_number_B32 F S x5 = some res → GG p l e rm_number s m args below meth c dC dI A 6 0 0 Q (MW E h r S) 32 [(5, .int x5)] [.ref h] := by
    intro S x5 hf
    unfold M_number_B32 at hf
    refine g_iconst X dX11_number_32 kc_0 ?_
    exact hB33 _ _ _ hf
  refine g_lv [0, 1, 2] (lv' := [(0, .ref h), (1, .long x1), (3, .long x3)]) rfl ?_
  unfold M_number at hf
  refine g_aload_n X dX11_number_0 0 rfl ?_
  refine m_get_17 X dX11_number_1 ?_
  refine g_l2i X dX11_number_4 ?_
  refine g_istore (lv' := [(5, .int ((ml S 17)).toInt32), (0, .ref h), (1, .long x1), (3, .long x3)]) X dX11_number_5 (by decide) rfl ?_
  refine g_aload_n X dX11_number_7 1 rfl ?_
  refine g_aload_n X dX11_number_8 1 rfl ?_
  refine m_get_16 X dX11_number_9 ?_
  refine g_iconst X dX11_number_12 kc_2 ?_
  refine g_icmp_ne (tgt := 32) X dX11_number_13 (by decide) hf (fun hf => ?_) (fun hf => ?_)
  · refine g_lv [0] (lv' := [(5, .int ((ml S 17)).toInt32)]) rfl ?_
    exact hB32 _ _ hf
  refine g_aload_n X dX11_number_16 1 rfl ?_
  refine m_get_17 X dX11_number_17 ?_
  refine g_lload_n X dX11_number_20 2 rfl ?_
  refine g_lload_n X dX11_number_21 3 rfl ?_
  refine m_bind hf (fun q2 hq2 hf => ?_)
  refine m_callS_i (As := [.long (ml S 17), .long x1, .long x3]) (st := [.ref h]) X kS_179 (c_in l dC dI E h r S (ml S 17) x1 x3 q2 hq2) ⟨Nat.le_of_ble_eq_true rfl, Nat.le_of_ble_eq_true rfl⟩ ⟨rfl, rfl⟩ (Nat.le_of_ble_eq_true rfl) ⟨Nat.le_of_ble_eq_true rfl, Nat.le_of_ble_eq_true rfl⟩ dX11_number_22 ?_
  refine g_if_eq (tgt := 32) X dX11_number_25 (by decide) hf (fun hf => ?_) (fun hf => ?_)
  · refine g_lv [0] (lv' := [(5, .int ((ml S 17)).toInt32)]) rfl ?_
    exact hB32 _ _ hf
  refine g_iconst X dX11_number_28 kc_1 ?_
  refine g_goto (tgt := 33) X dX11_number_29 (by decide) ?_
  refine g_lv [0] (lv' := [(5, .int ((ml S 17)).toInt32)]) rfl ?_
  exact hB33 _ _ _ hf
def rm_fault : Room := { frames := 0, cells := 0, slots := 0, locals := 0 }
set_option maxRecDepth 100000 in
set_option maxHeartbeats 4000000 in
theorem c_fault (l : Launch) (dC : Nat → ClassId) (dI : Nat → Nat → Nat) (E : Nat → ClassId) (h : Nat) (r : Nat → Nat) (S : MS)  (res : Int32 × MS) (hf : M_fault S = some res) : MC l dC dI E yX11_fault cX11_fault 1 (some .int) rm_fault [.ref h] (MW E h r S) (MW E h r res.2) (some (.int res.1)) := by
  refine MC_of (own := "LostLanesModel") (by decide) rfl (Nat.le_of_ble_eq_true rfl) ?_
  intro p e s m args below meth c A Q X hr hlk hA hQ
  refine g_lv [0] (lv' := [(0, .ref h)]) rfl ?_
  unfold M_fault at hf
  refine g_aload_n X dX11_fault_0 0 rfl ?_
  refine g_iconst X dX11_fault_1 kc_0 ?_
  refine m_put_0 X dX11_fault_2 hf (fun S1 hf => ?_)
  refine g_aload_n X dX11_fault_5 0 rfl ?_
  refine m_get_18 X dX11_fault_6 ?_
  exact m_reti_s hA hQ X hr hlk dX11_fault_9 hf
def rm_emit : Room := { frames := 0, cells := 0, slots := 0, locals := 0 }
set_option maxRecDepth 100000 in
set_option maxHeartbeats 4000000 in
theorem c_emit (l : Launch) (dC : Nat → ClassId) (dI : Nat → Nat → Nat) (E : Nat → ClassId) (h : Nat) (r : Nat → Nat) (S : MS) (x1 : Int32) (x2 : Int32) (res : Unit × MS) (hf : M_emit S x1 x2 = some res) : MC l dC dI E yX11_emit cX11_emit 3 none rm_emit [.ref h, .int x1, .int x2] (MW E h r S) (MW E h r res.2) none := by
  refine MC_of (own := "LostLanesModel") (by decide) rfl (Nat.le_of_ble_eq_true rfl) ?_
  intro p e s m args below meth c A Q X hr hlk hA hQ
  refine g_lv [0, 1, 2] (lv' := [(0, .ref h), (1, .int x1), (2, .int x2)]) rfl ?_
  unfold M_emit at hf
  refine g_aload_n X dX11_emit_0 0 rfl ?_
  refine m_get_24 X dX11_emit_1 ?_
  refine g_aload_n X dX11_emit_4 0 rfl ?_
  refine m_get_23 X dX11_emit_5 ?_
  refine g_iload_n X dX11_emit_8 1 rfl ?_
  refine m_ast_24 X dX11_emit_9 hf (fun S1 hf => ?_)
  refine g_aload_n X dX11_emit_10 0 rfl ?_
  refine m_get_25 X dX11_emit_11 ?_
  refine g_aload_n X dX11_emit_14 0 rfl ?_
  refine m_get_23 X dX11_emit_15 ?_
  refine g_iload_n X dX11_emit_18 2 rfl ?_
  refine m_ast_25 X dX11_emit_19 hf (fun S2 hf => ?_)
  refine g_aload_n X dX11_emit_20 0 rfl ?_
  refine g_dup X dX11_emit_21 rfl ?_
  refine m_get_23 X dX11_emit_22 ?_
  refine g_iconst X dX11_emit_25 kc_1 ?_
  refine g_iadd X dX11_emit_26 ?_
  refine m_put_23 X dX11_emit_27 hf (fun S3 hf => ?_)
  exact m_retv_s hA hQ X hr hlk dX11_emit_30 hf
def rm_push : Room := { frames := 0, cells := 0, slots := 0, locals := 0 }
set_option maxRecDepth 100000 in
set_option maxHeartbeats 4000000 in
theorem c_push (l : Launch) (dC : Nat → ClassId) (dI : Nat → Nat → Nat) (E : Nat → ClassId) (h : Nat) (r : Nat → Nat) (S : MS) (x1 : Int32) (x2 : Int32) (res : Unit × MS) (hf : M_push S x1 x2 = some res) : MC l dC dI E yX11_push cX11_push 3 none rm_push [.ref h, .int x1, .int x2] (MW E h r S) (MW E h r res.2) none := by
  refine MC_of (own := "LostLanesModel") (by decide) rfl (Nat.le_of_ble_eq_true rfl) ?_
  intro p e s m args below meth c A Q X hr hlk hA hQ
  refine g_lv [0, 1, 2] (lv' := [(0, .ref h), (1, .int x1), (2, .int x2)]) rfl ?_
  unfold M_push at hf
  refine g_aload_n X dX11_push_0 0 rfl ?_
  refine m_get_27 X dX11_push_1 ?_
  refine g_aload_n X dX11_push_4 0 rfl ?_
  refine m_get_29 X dX11_push_5 ?_
  refine g_iload_n X dX11_push_8 1 rfl ?_
  refine m_ast_27 X dX11_push_9 hf (fun S1 hf => ?_)
  refine g_aload_n X dX11_push_10 0 rfl ?_
  refine m_get_28 X dX11_push_11 ?_
  refine g_aload_n X dX11_push_14 0 rfl ?_
  refine m_get_29 X dX11_push_15 ?_
  refine g_iload_n X dX11_push_18 2 rfl ?_
  refine m_ast_28 X dX11_push_19 hf (fun S2 hf => ?_)
  refine g_aload_n X dX11_push_20 0 rfl ?_
  refine g_dup X dX11_push_21 rfl ?_
  refine m_get_29 X dX11_push_22 ?_
  refine g_iconst X dX11_push_25 kc_1 ?_
  refine g_iadd X dX11_push_26 ?_
  refine m_put_29 X dX11_push_27 hf (fun S3 hf => ?_)
  exact m_retv_s hA hQ X hr hlk dX11_push_30 hf
def rm_binds : Room := { frames := 0, cells := 0, slots := 0, locals := 0 }
set_option maxRecDepth 100000 in
set_option maxHeartbeats 4000000 in
theorem c_binds (l : Launch) (dC : Nat → ClassId) (dI : Nat → Nat → Nat) (E : Nat → ClassId) (h : Nat) (r : Nat → Nat) (S : MS) (x0 : Int32) (res : Int32) (hf : M_binds x0 = some res) : MC l dC dI E yX11_binds cX11_binds 1 (some .int) rm_binds [.int x0] (MW E h r S) (MW E h r S) (some (.int res)) := by
  refine MC_of (own := "LostLanesModel") (by decide) rfl (Nat.le_of_ble_eq_true rfl) ?_
  intro p e s m args below meth c A Q X hr hlk hA hQ
  refine g_lv [0] (lv' := [(0, .int x0)]) rfl ?_
  unfold M_binds at hf
  refine g_iload_n X dX11_binds_0 0 rfl ?_
  refine g_bipush X dX11_binds_1 kb_31 ?_
  refine g_icmp_lt (tgt := 10) X dX11_binds_3 (by decide) hf (fun hf => ?_) (fun hf => ?_)
  · refine g_iload_n X dX11_binds_10 0 rfl ?_
    refine g_bipush X dX11_binds_11 kb_30 ?_
    refine g_icmp_ne (tgt := 20) X dX11_binds_13 (by decide) hf (fun hf => ?_) (fun hf => ?_)
    · refine g_iload_n X dX11_binds_20 0 rfl ?_
      refine g_bipush X dX11_binds_21 kb_29 ?_
      refine g_icmp_ne (tgt := 30) X dX11_binds_23 (by decide) hf (fun hf => ?_) (fun hf => ?_)
      · refine g_iload_n X dX11_binds_30 0 rfl ?_
        refine g_bipush X dX11_binds_31 kb_28 ?_
        refine g_icmp_ne (tgt := 40) X dX11_binds_33 (by decide) hf (fun hf => ?_) (fun hf => ?_)
        · refine g_iload_n X dX11_binds_40 0 rfl ?_
          refine g_bipush X dX11_binds_41 kb_25 ?_
          refine g_icmp_lt (tgt := 50) X dX11_binds_43 (by decide) hf (fun hf => ?_) (fun hf => ?_)
          · refine g_iload_n X dX11_binds_50 0 rfl ?_
            refine g_bipush X dX11_binds_51 kb_22 ?_
            refine g_icmp_lt (tgt := 61) X dX11_binds_53 (by decide) hf (fun hf => ?_) (fun hf => ?_)
            · refine g_iconst X dX11_binds_61 kc_5 ?_
              exact m_reti_o hA hQ X hr hlk dX11_binds_62 hf
            refine g_bipush X dX11_binds_56 kb_6 ?_
            refine g_goto (tgt := 62) X dX11_binds_58 (by decide) ?_
            exact m_reti_o hA hQ X hr hlk dX11_binds_62 hf
          refine g_iconst X dX11_binds_46 kc_4 ?_
          refine g_goto (tgt := 62) X dX11_binds_47 (by decide) ?_
          exact m_reti_o hA hQ X hr hlk dX11_binds_62 hf
        refine g_iconst X dX11_binds_36 kc_3 ?_
        refine g_goto (tgt := 62) X dX11_binds_37 (by decide) ?_
        exact m_reti_o hA hQ X hr hlk dX11_binds_62 hf
      refine g_iconst X dX11_binds_26 kc_2 ?_
      refine g_goto (tgt := 62) X dX11_binds_27 (by decide) ?_
      exact m_reti_o hA hQ X hr hlk dX11_binds_62 hf
    refine g_iconst X dX11_binds_16 kc_1 ?_
    refine g_goto (tgt := 62) X dX11_binds_17 (by decide) ?_
    exact m_reti_o hA hQ X hr hlk dX11_binds_62 hf
  refine g_iconst X dX11_binds_6 kc_0 ?_
  refine g_goto (tgt := 62) X dX11_binds_7 (by decide) ?_
  exact m_reti_o hA hQ X hr hlk dX11_binds_62 hf
def rm_settle : Room := { frames := 1, cells := 0, slots := 0, locals := 22 }
set_option maxRecDepth 100000 in
set_option maxHeartbeats 4000000 in
theorem c_settle (l : Launch) (dC : Nat → ClassId) (dI : Nat → Nat → Nat) (E : Nat → ClassId) (h : Nat) (r : Nat → Nat) (F : Nat) (S : MS) (x1 : Int32) (res : Unit × MS) (hf : M_settle F S x1 = some res) : MC l dC dI E yX11_settle cX11_settle 2 none rm_settle [.ref h, .int x1] (MW E h r S) (MW E h r res.2) none := by
  refine MC_of (own := "LostLanesModel") (by decide) rfl (Nat.le_of_ble_eq_true rfl) ?_
  intro p e s m args below meth c A Q X hr hlk hA hQ
  have hB63 : ∀ (x1 : Int32) (k0 : MS → Option (Unit × MS)) (hk0 : ∀ (S : MS), k0 S = some res → GG p l e rm_settle s m args below meth c dC dI A 2 0 0 Q (MW E h r S) 0 [(0, .ref h), (1, .int x1)] []) (S : MS), M_settle_B63 F k0 S x1 = some res → GG p l e rm_settle s m args below meth c dC dI A 2 0 0 Q (MW E h r S) 63 [(0, .ref h), (1, .int x1)] [] := by
    intro x1 k0 hk0 S hf
    unfold M_settle_B63 at hf
    refine g_aload_n X dX11_settle_63 0 rfl ?_
    refine m_get_25 X dX11_settle_64 ?_
    refine g_aload_n X dX11_settle_67 0 rfl ?_
    refine m_get_28 X dX11_settle_68 ?_
    refine g_aload_n X dX11_settle_71 0 rfl ?_
    refine m_get_29 X dX11_settle_72 ?_
    refine m_ald_28 X dX11_settle_75 hf (fun hf => ?_)
    refine g_aload_n X dX11_settle_76 0 rfl ?_
    refine m_get_23 X dX11_settle_77 ?_
    refine m_ast_25 X dX11_settle_80 hf (fun S1 hf => ?_)
    refine g_goto (tgt := 0) X dX11_settle_81 (by decide) ?_
    exact hk0 _ hf
  have hL0 : ∀ (x1 : Int32) (n : Nat) (S : MS), M_settle_L0 F x1 n S = some res → GG p l e rm_settle s m args below meth c dC dI A 2 0 0 Q (MW E h r S) 0 [(0, .ref h), (1, .int x1)] [] := by
    intro x1 n
    induction n with
    | zero => intro S hf; have hf : (none : Option (Unit × MS)) = some res := hf; cases hf
    | succ n ih =>
      intro S hf
      rw [M_settle_L0] at hf
      refine g_aload_n X dX11_settle_0 0 rfl ?_
      refine m_get_29 X dX11_settle_1 ?_
      refine g_if_le (tgt := 101) X dX11_settle_4 (by decide) hf (fun hf => ?_) (fun hf => ?_)
      · exact m_retv_s hA hQ X hr hlk dX11_settle_101 hf
      refine g_aload_n X dX11_settle_7 0 rfl ?_
      refine m_get_27 X dX11_settle_8 ?_
      refine g_aload_n X dX11_settle_11 0 rfl ?_
      refine m_get_29 X dX11_settle_12 ?_
      refine g_iconst X dX11_settle_15 kc_1 ?_
      refine g_isub X dX11_settle_16 ?_
      refine m_ald_27 X dX11_settle_17 hf (fun hf => ?_)
      refine m_bind hf (fun q2 hq2 hf => ?_)
      refine m_callS_i (As := [.int (ma S 27 (((mi S 29) - (1 : Int32))).toNatClampNeg)]) (st := []) X kS_282 (c_binds l dC dI E h r S (ma S 27 (((mi S 29) - (1 : Int32))).toNatClampNeg) q2 hq2) ⟨Nat.le_of_ble_eq_true rfl, Nat.le_of_ble_eq_true rfl⟩ ⟨rfl, rfl⟩ (Nat.le_of_ble_eq_true rfl) ⟨Nat.le_of_ble_eq_true rfl, Nat.le_of_ble_eq_true rfl⟩ dX11_settle_18 ?_
      refine g_iload_n X dX11_settle_21 1 rfl ?_
      refine g_icmp_lt (tgt := 101) X dX11_settle_22 (by decide) hf (fun hf => ?_) (fun hf => ?_)
      · exact m_retv_s hA hQ X hr hlk dX11_settle_101 hf
      refine g_aload_n X dX11_settle_25 0 rfl ?_
      refine g_dup X dX11_settle_26 rfl ?_
      refine m_get_29 X dX11_settle_27 ?_
      refine g_iconst X dX11_settle_30 kc_1 ?_
      refine g_isub X dX11_settle_31 ?_
      refine m_put_29 X dX11_settle_32 hf (fun S3 hf => ?_)
      refine g_aload_n X dX11_settle_35 0 rfl ?_
      refine m_get_27 X dX11_settle_36 ?_
      refine g_aload_n X dX11_settle_39 0 rfl ?_
      refine m_get_29 X dX11_settle_40 ?_
      refine m_ald_27 X dX11_settle_43 hf (fun hf => ?_)
      refine g_bipush X dX11_settle_44 kb_29 ?_
      refine g_icmp_eq (tgt := 63) X dX11_settle_46 (by decide) hf (fun hf => ?_) (fun hf => ?_)
      · exact hB63 _ _ ih _ hf
      refine g_aload_n X dX11_settle_49 0 rfl ?_
      refine m_get_27 X dX11_settle_50 ?_
      refine g_aload_n X dX11_settle_53 0 rfl ?_
      refine m_get_29 X dX11_settle_54 ?_
      refine m_ald_27 X dX11_settle_57 hf (fun hf => ?_)
      refine g_bipush X dX11_settle_58 kb_30 ?_
      refine g_icmp_ne (tgt := 84) X dX11_settle_60 (by decide) hf (fun hf => ?_) (fun hf => ?_)
      · refine g_aload_n X dX11_settle_84 0 rfl ?_
        refine g_aload_n X dX11_settle_85 0 rfl ?_
        refine m_get_27 X dX11_settle_86 ?_
        refine g_aload_n X dX11_settle_89 0 rfl ?_
        refine m_get_29 X dX11_settle_90 ?_
        refine m_ald_27 X dX11_settle_93 hf (fun hf => ?_)
        refine g_iconst X dX11_settle_94 kc_0 ?_
        refine m_bind hf (fun q4 hq4 hf => ?_)
        refine m_callV_v (As := [.int (ma S3 27 ((mi S3 29)).toNatClampNeg), .int (0 : Int32)]) (st := []) X kV_285 (c_emit l dC dI E h r S3 (ma S3 27 ((mi S3 29)).toNatClampNeg) (0 : Int32) q4 hq4) ⟨Nat.le_of_ble_eq_true rfl, Nat.le_of_ble_eq_true rfl⟩ ⟨rfl, rfl⟩ (Nat.le_of_ble_eq_true rfl) ⟨Nat.le_of_ble_eq_true rfl, Nat.le_of_ble_eq_true rfl⟩ dX11_settle_95 ?_
        refine g_goto (tgt := 0) X dX11_settle_98 (by decide) ?_
        exact ih _ hf
      exact hB63 _ _ ih _ hf
  refine g_lv [0, 1] (lv' := [(0, .ref h), (1, .int x1)]) rfl ?_
  unfold M_settle at hf
  exact hL0 _ _ _ hf
def rm_inner : Room := { frames := 0, cells := 0, slots := 0, locals := 0 }
set_option maxRecDepth 100000 in
set_option maxHeartbeats 4000000 in
theorem c_inner (l : Launch) (dC : Nat → ClassId) (dI : Nat → Nat → Nat) (E : Nat → ClassId) (h : Nat) (r : Nat → Nat) (F : Nat) (S : MS)  (res : Int32) (hf : M_inner F S = some res) : MC l dC dI E yX11_inner cX11_inner 3 (some .int) rm_inner [.ref h] (MW E h r S) (MW E h r S) (some (.int res)) := by
  refine MC_of (own := "LostLanesModel") (by decide) rfl (Nat.le_of_ble_eq_true rfl) ?_
  intro p e s m args below meth c A Q X hr hlk hA hQ
  have hB33 : ∀ (k4 : Int32 → Int32 → Option Int32) (hk4 : ∀ (x1 : Int32) (x2 : Int32), k4 x1 x2 = some res → GG p l e rm_inner s m args below meth c dC dI A 3 0 0 Q (MW E h r S) 4 [(0, .ref h), (1, .int x1), (2, .int x2)] []) (x2 : Int32) (t0 : Int32), M_inner_B33 F k4 S x2 t0 = some res → GG p l e rm_inner s m args below meth c dC dI A 3 0 0 Q (MW E h r S) 33 [(0, .ref h), (2, .int x2)] [.int t0] := by
    intro k4 hk4 x2 t0 hf
    unfold M_inner_B33 at hf
    refine g_istore_n (i := 1) (lv' := [(1, .int t0), (0, .ref h), (2, .int x2)]) X dX11_inner_33 rfl (by decide) rfl ?_
    refine g_iinc (lv' := [(2, .int (x2 + (1 : Int32))), (1, .int t0), (0, .ref h)]) X dX11_inner_34 2 rfl kc_1 (by decide) rfl ?_
    refine g_goto (tgt := 4) X dX11_inner_37 (by decide) ?_
    refine g_lv [2, 1, 0] (lv' := [(0, .ref h), (1, .int t0), (2, .int (x2 + (1 : Int32)))]) rfl ?_
    exact hk4 _ _ hf
  have hL4 : ∀  (n : Nat) (x1 : Int32) (x2 : Int32), M_inner_L4 F S n x1 x2 = some res → GG p l e rm_inner s m args below meth c dC dI A 3 0 0 Q (MW E h r S) 4 [(0, .ref h), (1, .int x1), (2, .int x2)] [] := by
    intro  n
    induction n with
    | zero => intro x1 x2 hf; have hf : (none : Option Int32) = some res := hf; cases hf
    | succ n ih =>
      intro x1 x2 hf
      rw [M_inner_L4] at hf
      refine g_iload_n X dX11_inner_4 2 rfl ?_
      refine g_aload_n X dX11_inner_5 0 rfl ?_
      refine m_get_29 X dX11_inner_6 ?_
      refine g_icmp_ge (tgt := 40) X dX11_inner_9 (by decide) hf (fun hf => ?_) (fun hf => ?_)
      · refine g_iload_n X dX11_inner_40 1 rfl ?_
        exact m_reti_o hA hQ X hr hlk dX11_inner_41 hf
      refine g_aload_n X dX11_inner_12 0 rfl ?_
      refine m_get_27 X dX11_inner_13 ?_
      refine g_iload_n X dX11_inner_16 2 rfl ?_
      refine m_ald_27 X dX11_inner_17 hf (fun hf => ?_)
      refine g_bipush X dX11_inner_18 kb_31 ?_
      refine g_icmp_lt (tgt := 32) X dX11_inner_20 (by decide) hf (fun hf => ?_) (fun hf => ?_)
      · refine g_iload_n X dX11_inner_32 1 rfl ?_
        refine g_lv [0, 2] (lv' := [(0, .ref h), (2, .int x2)]) rfl ?_
        exact hB33 _ ih _ _ hf
      refine g_aload_n X dX11_inner_23 0 rfl ?_
      refine m_get_27 X dX11_inner_24 ?_
      refine g_iload_n X dX11_inner_27 2 rfl ?_
      refine m_ald_27 X dX11_inner_28 hf (fun hf => ?_)
      refine g_goto (tgt := 33) X dX11_inner_29 (by decide) ?_
      refine g_lv [0, 2] (lv' := [(0, .ref h), (2, .int x2)]) rfl ?_
      exact hB33 _ ih _ _ hf
  refine g_lv [0] (lv' := [(0, .ref h)]) rfl ?_
  unfold M_inner at hf
  refine g_iconst X dX11_inner_0 kc_m1 ?_
  refine g_istore_n (i := 1) (lv' := [(1, .int (-1 : Int32)), (0, .ref h)]) X dX11_inner_1 rfl (by decide) rfl ?_
  refine g_iconst X dX11_inner_2 kc_0 ?_
  refine g_istore_n (i := 2) (lv' := [(2, .int (0 : Int32)), (1, .int (-1 : Int32)), (0, .ref h)]) X dX11_inner_3 rfl (by decide) rfl ?_
  refine g_lv [2, 1, 0] (lv' := [(0, .ref h), (1, .int (-1 : Int32)), (2, .int (0 : Int32))]) rfl ?_
  exact hL4 _ _ _ hf
def rm_isCompared : Room := { frames := 1, cells := 0, slots := 0, locals := 25 }
set_option maxRecDepth 100000 in
set_option maxHeartbeats 4000000 in
theorem c_isCompared (l : Launch) (dC : Nat → ClassId) (dI : Nat → Nat → Nat) (E : Nat → ClassId) (h : Nat) (r : Nat → Nat) (F : Nat) (S : MS)  (res : Int32) (hf : M_isCompared F S = some res) : MC l dC dI E yX11_isCompared cX11_isCompared 2 (some .boolean) rm_isCompared [.ref h] (MW E h r S) (MW E h r S) (some (.int res)) := by
  refine MC_of (own := "LostLanesModel") (by decide) rfl (Nat.le_of_ble_eq_true rfl) ?_
  intro p e s m args below meth c A Q X hr hlk hA hQ
  have hB36 : ∀ (x1 : Int32), M_isCompared_B36 F S x1 = some res → GG p l e rm_isCompared s m args below meth c dC dI A 2 0 0 Q (MW E h r S) 36 [(0, .ref h), (1, .int x1)] [] := by
    intro x1 hf
    unfold M_isCompared_B36 at hf
    refine g_iload_n X dX11_isCompared_36 1 rfl ?_
    refine g_if_lt (tgt := 63) X dX11_isCompared_37 (by decide) hf (fun hf => ?_) (fun hf => ?_)
    · refine g_iconst X dX11_isCompared_63 kc_0 ?_
      exact m_retz_o hA hQ X hr hlk (Or.inl rfl) dX11_isCompared_64 hf
    refine g_aload_n X dX11_isCompared_40 0 rfl ?_
    refine m_get_27 X dX11_isCompared_41 ?_
    refine g_iload_n X dX11_isCompared_44 1 rfl ?_
    refine m_ald_27 X dX11_isCompared_45 hf (fun hf => ?_)
    refine g_i2l X dX11_isCompared_46 ?_
    refine g_ldc2 X dX11_isCompared_47 wd7_93 ?_
    refine g_ldc2 X dX11_isCompared_50 wd7_94 ?_
    refine m_bind hf (fun q1 hq1 hf => ?_)
    refine m_callS_i (As := [.long (ma S 27 (x1).toNatClampNeg).toInt64, .long (25 : Int64), .long (27 : Int64)]) (st := []) X kS_179 (c_in l dC dI E h r S (ma S 27 (x1).toNatClampNeg).toInt64 (25 : Int64) (27 : Int64) q1 hq1) ⟨Nat.le_of_ble_eq_true rfl, Nat.le_of_ble_eq_true rfl⟩ ⟨rfl, rfl⟩ (Nat.le_of_ble_eq_true rfl) ⟨Nat.le_of_ble_eq_true rfl, Nat.le_of_ble_eq_true rfl⟩ dX11_isCompared_53 ?_
    refine g_if_eq (tgt := 63) X dX11_isCompared_56 (by decide) hf (fun hf => ?_) (fun hf => ?_)
    · refine g_iconst X dX11_isCompared_63 kc_0 ?_
      exact m_retz_o hA hQ X hr hlk (Or.inl rfl) dX11_isCompared_64 hf
    refine g_iconst X dX11_isCompared_59 kc_1 ?_
    refine g_goto (tgt := 64) X dX11_isCompared_60 (by decide) ?_
    exact m_retz_o hA hQ X hr hlk (Or.inr rfl) dX11_isCompared_64 hf
  have hL7 : ∀  (n : Nat) (x1 : Int32), M_isCompared_L7 F S n x1 = some res → GG p l e rm_isCompared s m args below meth c dC dI A 2 0 0 Q (MW E h r S) 7 [(0, .ref h), (1, .int x1)] [] := by
    intro  n
    induction n with
    | zero => intro x1 hf; have hf : (none : Option Int32) = some res := hf; cases hf
    | succ n ih =>
      intro x1 hf
      rw [M_isCompared_L7] at hf
      refine g_iload_n X dX11_isCompared_7 1 rfl ?_
      refine g_if_lt (tgt := 36) X dX11_isCompared_8 (by decide) hf (fun hf => ?_) (fun hf => ?_)
      · exact hB36 _ hf
      refine g_aload_n X dX11_isCompared_11 0 rfl ?_
      refine m_get_27 X dX11_isCompared_12 ?_
      refine g_iload_n X dX11_isCompared_15 1 rfl ?_
      refine m_ald_27 X dX11_isCompared_16 hf (fun hf => ?_)
      refine g_i2l X dX11_isCompared_17 ?_
      refine g_ldc2 X dX11_isCompared_18 wd7_91 ?_
      refine g_ldc2 X dX11_isCompared_21 wd7_92 ?_
      refine m_bind hf (fun q2 hq2 hf => ?_)
      refine m_callS_i (As := [.long (ma S 27 (x1).toNatClampNeg).toInt64, .long (20 : Int64), .long (24 : Int64)]) (st := []) X kS_179 (c_in l dC dI E h r S (ma S 27 (x1).toNatClampNeg).toInt64 (20 : Int64) (24 : Int64) q2 hq2) ⟨Nat.le_of_ble_eq_true rfl, Nat.le_of_ble_eq_true rfl⟩ ⟨rfl, rfl⟩ (Nat.le_of_ble_eq_true rfl) ⟨Nat.le_of_ble_eq_true rfl, Nat.le_of_ble_eq_true rfl⟩ dX11_isCompared_24 ?_
      refine g_if_eq (tgt := 36) X dX11_isCompared_27 (by decide) hf (fun hf => ?_) (fun hf => ?_)
      · exact hB36 _ hf
      refine g_iinc (lv' := [(1, .int (x1 + (-1 : Int32))), (0, .ref h)]) X dX11_isCompared_30 1 rfl kc_m1 (by decide) rfl ?_
      refine g_goto (tgt := 7) X dX11_isCompared_33 (by decide) ?_
      refine g_lv [1, 0] (lv' := [(0, .ref h), (1, .int (x1 + (-1 : Int32)))]) rfl ?_
      exact ih _ hf
  refine g_lv [0] (lv' := [(0, .ref h)]) rfl ?_
  unfold M_isCompared at hf
  refine g_aload_n X dX11_isCompared_0 0 rfl ?_
  refine m_get_29 X dX11_isCompared_1 ?_
  refine g_iconst X dX11_isCompared_4 kc_1 ?_
  refine g_isub X dX11_isCompared_5 ?_
  refine g_istore_n (i := 1) (lv' := [(1, .int ((mi S 29) - (1 : Int32))), (0, .ref h)]) X dX11_isCompared_6 rfl (by decide) rfl ?_
  refine g_lv [1, 0] (lv' := [(0, .ref h), (1, .int ((mi S 29) - (1 : Int32)))]) rfl ?_
  exact hL7 _ _ hf
def rm_partAt : Room := { frames := 1, cells := 0, slots := 0, locals := 22 }
set_option maxRecDepth 100000 in
set_option maxHeartbeats 4000000 in
theorem c_partAt (l : Launch) (dC : Nat → ClassId) (dI : Nat → Nat → Nat) (E : Nat → ClassId) (h : Nat) (r : Nat → Nat) (F : Nat) (S : MS)  (res : Int32) (hf : M_partAt F S = some res) : MC l dC dI E yX11_partAt cX11_partAt 3 (some .int) rm_partAt [.ref h] (MW E h r S) (MW E h r S) (some (.int res)) := by
  refine MC_of (own := "LostLanesModel") (by decide) rfl (Nat.le_of_ble_eq_true rfl) ?_
  intro p e s m args below meth c A Q X hr hlk hA hQ
  have hB30 : ∀ (k4 : Int32 → Int32 → Option Int32) (hk4 : ∀ (x1 : Int32) (x2 : Int32), k4 x1 x2 = some res → GG p l e rm_partAt s m args below meth c dC dI A 3 0 0 Q (MW E h r S) 4 [(0, .ref h), (1, .int x1), (2, .int x2)] []) (x2 : Int32) (t0 : Int32), M_partAt_B30 F k4 S x2 t0 = some res → GG p l e rm_partAt s m args below meth c dC dI A 3 0 0 Q (MW E h r S) 30 [(0, .ref h), (2, .int x2)] [.int t0] := by
    intro k4 hk4 x2 t0 hf
    unfold M_partAt_B30 at hf
    refine g_istore_n (i := 1) (lv' := [(1, .int t0), (0, .ref h), (2, .int x2)]) X dX11_partAt_30 rfl (by decide) rfl ?_
    refine g_iinc (lv' := [(2, .int (x2 + (1 : Int32))), (1, .int t0), (0, .ref h)]) X dX11_partAt_31 2 rfl kc_1 (by decide) rfl ?_
    refine g_goto (tgt := 4) X dX11_partAt_34 (by decide) ?_
    refine g_lv [2, 1, 0] (lv' := [(0, .ref h), (1, .int t0), (2, .int (x2 + (1 : Int32)))]) rfl ?_
    exact hk4 _ _ hf
  have hL4 : ∀  (n : Nat) (x1 : Int32) (x2 : Int32), M_partAt_L4 F S n x1 x2 = some res → GG p l e rm_partAt s m args below meth c dC dI A 3 0 0 Q (MW E h r S) 4 [(0, .ref h), (1, .int x1), (2, .int x2)] [] := by
    intro  n
    induction n with
    | zero => intro x1 x2 hf; have hf : (none : Option Int32) = some res := hf; cases hf
    | succ n ih =>
      intro x1 x2 hf
      rw [M_partAt_L4] at hf
      refine g_iload_n X dX11_partAt_4 2 rfl ?_
      refine g_bipush X dX11_partAt_5 kb_9 ?_
      refine g_icmp_ge (tgt := 37) X dX11_partAt_7 (by decide) hf (fun hf => ?_) (fun hf => ?_)
      · refine g_iload_n X dX11_partAt_37 1 rfl ?_
        exact m_reti_o hA hQ X hr hlk dX11_partAt_38 hf
      refine g_aload_n X dX11_partAt_10 0 rfl ?_
      refine g_aload_n X dX11_partAt_11 0 rfl ?_
      refine m_get_31 X dX11_partAt_12 ?_
      refine g_iload_n X dX11_partAt_15 2 rfl ?_
      refine m_ald_31 X dX11_partAt_16 hf (fun hf => ?_)
      refine m_bind hf (fun q1 hq1 hf => ?_)
      refine m_callV_i (As := [.long (mb S 31 (x2).toNatClampNeg)]) (st := []) X kV_297 (c_isWord l dC dI E h r S (mb S 31 (x2).toNatClampNeg) q1 hq1) ⟨Nat.le_of_ble_eq_true rfl, Nat.le_of_ble_eq_true rfl⟩ ⟨rfl, rfl⟩ (Nat.le_of_ble_eq_true rfl) ⟨Nat.le_of_ble_eq_true rfl, Nat.le_of_ble_eq_true rfl⟩ dX11_partAt_17 ?_
      refine g_if_eq (tgt := 29) X dX11_partAt_20 (by decide) hf (fun hf => ?_) (fun hf => ?_)
      · refine g_iload_n X dX11_partAt_29 1 rfl ?_
        refine g_lv [0, 2] (lv' := [(0, .ref h), (2, .int x2)]) rfl ?_
        exact hB30 _ ih _ _ hf
      refine g_iload_n X dX11_partAt_23 2 rfl ?_
      refine g_iconst X dX11_partAt_24 kc_1 ?_
      refine g_iadd X dX11_partAt_25 ?_
      refine g_goto (tgt := 30) X dX11_partAt_26 (by decide) ?_
      refine g_lv [0, 2] (lv' := [(0, .ref h), (2, .int x2)]) rfl ?_
      exact hB30 _ ih _ _ hf
  refine g_lv [0] (lv' := [(0, .ref h)]) rfl ?_
  unfold M_partAt at hf
  refine g_iconst X dX11_partAt_0 kc_m1 ?_
  refine g_istore_n (i := 1) (lv' := [(1, .int (-1 : Int32)), (0, .ref h)]) X dX11_partAt_1 rfl (by decide) rfl ?_
  refine g_iconst X dX11_partAt_2 kc_0 ?_
  refine g_istore_n (i := 2) (lv' := [(2, .int (0 : Int32)), (1, .int (-1 : Int32)), (0, .ref h)]) X dX11_partAt_3 rfl (by decide) rfl ?_
  refine g_lv [2, 1, 0] (lv' := [(0, .ref h), (1, .int (-1 : Int32)), (2, .int (0 : Int32))]) rfl ?_
  exact hL4 _ _ _ hf
def rm_orderPartAt : Room := { frames := 1, cells := 0, slots := 0, locals := 22 }
set_option maxRecDepth 100000 in
set_option maxHeartbeats 4000000 in
theorem c_orderPartAt (l : Launch) (dC : Nat → ClassId) (dI : Nat → Nat → Nat) (E : Nat → ClassId) (h : Nat) (r : Nat → Nat) (F : Nat) (S : MS)  (res : Int32) (hf : M_orderPartAt F S = some res) : MC l dC dI E yX11_orderPartAt cX11_orderPartAt 3 (some .int) rm_orderPartAt [.ref h] (MW E h r S) (MW E h r S) (some (.int res)) := by
  refine MC_of (own := "LostLanesModel") (by decide) rfl (Nat.le_of_ble_eq_true rfl) ?_
  intro p e s m args below meth c A Q X hr hlk hA hQ
  have hB30 : ∀ (k4 : Int32 → Int32 → Option Int32) (hk4 : ∀ (x1 : Int32) (x2 : Int32), k4 x1 x2 = some res → GG p l e rm_orderPartAt s m args below meth c dC dI A 3 0 0 Q (MW E h r S) 4 [(0, .ref h), (1, .int x1), (2, .int x2)] []) (x2 : Int32) (t0 : Int32), M_orderPartAt_B30 F k4 S x2 t0 = some res → GG p l e rm_orderPartAt s m args below meth c dC dI A 3 0 0 Q (MW E h r S) 30 [(0, .ref h), (2, .int x2)] [.int t0] := by
    intro k4 hk4 x2 t0 hf
    unfold M_orderPartAt_B30 at hf
    refine g_istore_n (i := 1) (lv' := [(1, .int t0), (0, .ref h), (2, .int x2)]) X dX11_orderPartAt_30 rfl (by decide) rfl ?_
    refine g_iinc (lv' := [(2, .int (x2 + (1 : Int32))), (1, .int t0), (0, .ref h)]) X dX11_orderPartAt_31 2 rfl kc_1 (by decide) rfl ?_
    refine g_goto (tgt := 4) X dX11_orderPartAt_34 (by decide) ?_
    refine g_lv [2, 1, 0] (lv' := [(0, .ref h), (1, .int t0), (2, .int (x2 + (1 : Int32)))]) rfl ?_
    exact hk4 _ _ hf
  have hL4 : ∀  (n : Nat) (x1 : Int32) (x2 : Int32), M_orderPartAt_L4 F S n x1 x2 = some res → GG p l e rm_orderPartAt s m args below meth c dC dI A 3 0 0 Q (MW E h r S) 4 [(0, .ref h), (1, .int x1), (2, .int x2)] [] := by
    intro  n
    induction n with
    | zero => intro x1 x2 hf; have hf : (none : Option Int32) = some res := hf; cases hf
    | succ n ih =>
      intro x1 x2 hf
      rw [M_orderPartAt_L4] at hf
      refine g_iload_n X dX11_orderPartAt_4 2 rfl ?_
      refine g_bipush X dX11_orderPartAt_5 kb_7 ?_
      refine g_icmp_ge (tgt := 37) X dX11_orderPartAt_7 (by decide) hf (fun hf => ?_) (fun hf => ?_)
      · refine g_iload_n X dX11_orderPartAt_37 1 rfl ?_
        exact m_reti_o hA hQ X hr hlk dX11_orderPartAt_38 hf
      refine g_aload_n X dX11_orderPartAt_10 0 rfl ?_
      refine g_aload_n X dX11_orderPartAt_11 0 rfl ?_
      refine m_get_32 X dX11_orderPartAt_12 ?_
      refine g_iload_n X dX11_orderPartAt_15 2 rfl ?_
      refine m_ald_32 X dX11_orderPartAt_16 hf (fun hf => ?_)
      refine m_bind hf (fun q1 hq1 hf => ?_)
      refine m_callV_i (As := [.long (mb S 32 (x2).toNatClampNeg)]) (st := []) X kV_297 (c_isWord l dC dI E h r S (mb S 32 (x2).toNatClampNeg) q1 hq1) ⟨Nat.le_of_ble_eq_true rfl, Nat.le_of_ble_eq_true rfl⟩ ⟨rfl, rfl⟩ (Nat.le_of_ble_eq_true rfl) ⟨Nat.le_of_ble_eq_true rfl, Nat.le_of_ble_eq_true rfl⟩ dX11_orderPartAt_17 ?_
      refine g_if_eq (tgt := 29) X dX11_orderPartAt_20 (by decide) hf (fun hf => ?_) (fun hf => ?_)
      · refine g_iload_n X dX11_orderPartAt_29 1 rfl ?_
        refine g_lv [0, 2] (lv' := [(0, .ref h), (2, .int x2)]) rfl ?_
        exact hB30 _ ih _ _ hf
      refine g_iload_n X dX11_orderPartAt_23 2 rfl ?_
      refine g_iconst X dX11_orderPartAt_24 kc_1 ?_
      refine g_iadd X dX11_orderPartAt_25 ?_
      refine g_goto (tgt := 30) X dX11_orderPartAt_26 (by decide) ?_
      refine g_lv [0, 2] (lv' := [(0, .ref h), (2, .int x2)]) rfl ?_
      exact hB30 _ ih _ _ hf
  refine g_lv [0] (lv' := [(0, .ref h)]) rfl ?_
  unfold M_orderPartAt at hf
  refine g_iconst X dX11_orderPartAt_0 kc_m1 ?_
  refine g_istore_n (i := 1) (lv' := [(1, .int (-1 : Int32)), (0, .ref h)]) X dX11_orderPartAt_1 rfl (by decide) rfl ?_
  refine g_iconst X dX11_orderPartAt_2 kc_0 ?_
  refine g_istore_n (i := 2) (lv' := [(2, .int (0 : Int32)), (1, .int (-1 : Int32)), (0, .ref h)]) X dX11_orderPartAt_3 rfl (by decide) rfl ?_
  refine g_lv [2, 1, 0] (lv' := [(0, .ref h), (1, .int (-1 : Int32)), (2, .int (0 : Int32))]) rfl ?_
  exact hL4 _ _ _ hf
def rm_openBracket : Room := { frames := 3, cells := 0, slots := 0, locals := 61 }
set_option maxRecDepth 100000 in
set_option maxHeartbeats 4000000 in
theorem c_openBracket (l : Launch) (dC : Nat → ClassId) (dI : Nat → Nat → Nat) (E : Nat → ClassId) (h : Nat) (r : Nat → Nat) (F : Nat) (S : MS) (x1 : Int32) (res : Unit × MS) (hf : M_openBracket F S x1 = some res) : MC l dC dI E yX11_openBracket cX11_openBracket 2 none rm_openBracket [.ref h, .int x1] (MW E h r S) (MW E h r res.2) none := by
  refine MC_of (own := "LostLanesModel") (by decide) rfl (Nat.le_of_ble_eq_true rfl) ?_
  intro p e s m args below meth c A Q X hr hlk hA hQ
  have hB15 : ∀ (S : MS) (x1 : Int32) (t1 : Int32), M_openBracket_B15 F S x1 t1 = some res → GG p l e rm_openBracket s m args below meth c dC dI A 2 0 0 Q (MW E h r S) 15 [(0, .ref h), (1, .int x1)] [.int t1, .ref h] := by
    intro S x1 t1 hf
    unfold M_openBracket_B15 at hf
    refine m_bind hf (fun q1 hq1 hf => ?_)
    refine m_callV_v (As := [.int t1]) (st := []) X kV_272 (c_must l dC dI E h r F S t1 q1 hq1) ⟨Nat.le_of_ble_eq_true rfl, Nat.le_of_ble_eq_true rfl⟩ ⟨rfl, rfl⟩ (Nat.le_of_ble_eq_true rfl) ⟨Nat.le_of_ble_eq_true rfl, Nat.le_of_ble_eq_true rfl⟩ dX11_openBracket_15 ?_
    refine g_aload_n X dX11_openBracket_18 0 rfl ?_
    refine m_get_19 X dX11_openBracket_19 ?_
    refine g_if_ne (tgt := 41) X dX11_openBracket_22 (by decide) hf (fun hf => ?_) (fun hf => ?_)
    · exact m_retv_s hA hQ X hr hlk dX11_openBracket_41 hf
    refine g_aload_n X dX11_openBracket_25 0 rfl ?_
    refine g_dup X dX11_openBracket_26 rfl ?_
    refine m_get_30 X dX11_openBracket_27 ?_
    refine g_iconst X dX11_openBracket_30 kc_1 ?_
    refine g_iadd X dX11_openBracket_31 ?_
    refine m_put_30 X dX11_openBracket_32 hf (fun S2 hf => ?_)
    refine g_aload_n X dX11_openBracket_35 0 rfl ?_
    refine g_iload_n X dX11_openBracket_36 1 rfl ?_
    refine g_iconst X dX11_openBracket_37 kc_0 ?_
    refine m_bind hf (fun q3 hq3 hf => ?_)
    refine m_callV_v (As := [.int x1, .int (0 : Int32)]) (st := []) X kV_304 (c_push l dC dI E h r S2 x1 (0 : Int32) q3 hq3) ⟨Nat.le_of_ble_eq_true rfl, Nat.le_of_ble_eq_true rfl⟩ ⟨rfl, rfl⟩ (Nat.le_of_ble_eq_true rfl) ⟨Nat.le_of_ble_eq_true rfl, Nat.le_of_ble_eq_true rfl⟩ dX11_openBracket_38 ?_
    exact m_retv_s hA hQ X hr hlk dX11_openBracket_41 hf
  refine g_lv [0, 1] (lv' := [(0, .ref h), (1, .int x1)]) rfl ?_
  unfold M_openBracket at hf
  refine g_aload_n X dX11_openBracket_0 0 rfl ?_
  refine g_aload_n X dX11_openBracket_1 0 rfl ?_
  refine m_get_30 X dX11_openBracket_2 ?_
  refine g_bipush X dX11_openBracket_5 kb_8 ?_
  refine g_icmp_ge (tgt := 14) X dX11_openBracket_7 (by decide) hf (fun hf => ?_) (fun hf => ?_)
  · refine g_iconst X dX11_openBracket_14 kc_0 ?_
    exact hB15 _ _ _ hf
  refine g_iconst X dX11_openBracket_10 kc_1 ?_
  refine g_goto (tgt := 15) X dX11_openBracket_11 (by decide) ?_
  exact hB15 _ _ _ hf
def rm_leaf : Room := { frames := 3, cells := 0, slots := 0, locals := 61 }
set_option maxRecDepth 100000 in
set_option maxHeartbeats 4000000 in
theorem c_leaf (l : Launch) (dC : Nat → ClassId) (dI : Nat → Nat → Nat) (E : Nat → ClassId) (h : Nat) (r : Nat → Nat) (F : Nat) (S : MS) (x1 : Int32) (x2 : Int32) (x3 : Int32) (res : Unit × MS) (hf : M_leaf F S x1 x2 x3 = some res) : MC l dC dI E yX11_leaf cX11_leaf 4 none rm_leaf [.ref h, .int x1, .int x2, .int x3] (MW E h r S) (MW E h r res.2) none := by
  refine MC_of (own := "LostLanesModel") (by decide) rfl (Nat.le_of_ble_eq_true rfl) ?_
  intro p e s m args below meth c A Q X hr hlk hA hQ
  have hB19 : ∀ (S : MS) (x2 : Int32) (x3 : Int32) (t1 : Int32), M_leaf_B19 F S x2 x3 t1 = some res → GG p l e rm_leaf s m args below meth c dC dI A 4 0 0 Q (MW E h r S) 19 [(0, .ref h), (2, .int x2), (3, .int x3)] [.int t1, .ref h] := by
    intro S x2 x3 t1 hf
    unfold M_leaf_B19 at hf
    refine m_bind hf (fun q1 hq1 hf => ?_)
    refine m_callV_v (As := [.int t1]) (st := []) X kV_272 (c_must l dC dI E h r F S t1 q1 hq1) ⟨Nat.le_of_ble_eq_true rfl, Nat.le_of_ble_eq_true rfl⟩ ⟨rfl, rfl⟩ (Nat.le_of_ble_eq_true rfl) ⟨Nat.le_of_ble_eq_true rfl, Nat.le_of_ble_eq_true rfl⟩ dX11_leaf_19 ?_
    refine g_aload_n X dX11_leaf_22 0 rfl ?_
    refine m_get_19 X dX11_leaf_23 ?_
    refine g_if_ne (tgt := 45) X dX11_leaf_26 (by decide) hf (fun hf => ?_) (fun hf => ?_)
    · exact m_retv_s hA hQ X hr hlk dX11_leaf_45 hf
    refine g_aload_n X dX11_leaf_29 0 rfl ?_
    refine g_iload_n X dX11_leaf_30 1 rfl ?_
    refine g_iload_n X dX11_leaf_31 2 rfl ?_
    refine m_bind hf (fun q2 hq2 hf => ?_)
    refine m_callV_v (As := [.int x2, .int x3]) (st := []) X kV_285 (c_emit l dC dI E h r q1.2 x2 x3 q2 hq2) ⟨Nat.le_of_ble_eq_true rfl, Nat.le_of_ble_eq_true rfl⟩ ⟨rfl, rfl⟩ (Nat.le_of_ble_eq_true rfl) ⟨Nat.le_of_ble_eq_true rfl, Nat.le_of_ble_eq_true rfl⟩ dX11_leaf_32 ?_
    refine g_aload_n X dX11_leaf_35 0 rfl ?_
    refine g_dup X dX11_leaf_36 rfl ?_
    refine m_get_26 X dX11_leaf_37 ?_
    refine g_iconst X dX11_leaf_40 kc_1 ?_
    refine g_iadd X dX11_leaf_41 ?_
    refine m_put_26 X dX11_leaf_42 hf (fun S3 hf => ?_)
    exact m_retv_s hA hQ X hr hlk dX11_leaf_45 hf
  have hB18 : ∀ (S : MS) (x2 : Int32) (x3 : Int32), M_leaf_B18 F S x2 x3 = some res → GG p l e rm_leaf s m args below meth c dC dI A 4 0 0 Q (MW E h r S) 18 [(0, .ref h), (2, .int x2), (3, .int x3)] [.ref h] := by
    intro S x2 x3 hf
    unfold M_leaf_B18 at hf
    refine g_iconst X dX11_leaf_18 kc_0 ?_
    exact hB19 _ _ _ _ hf
  refine g_lv [0, 1, 2, 3] (lv' := [(0, .ref h), (1, .int x1), (2, .int x2), (3, .int x3)]) rfl ?_
  unfold M_leaf at hf
  refine g_aload_n X dX11_leaf_0 0 rfl ?_
  refine g_iload_n X dX11_leaf_1 1 rfl ?_
  refine g_if_eq (tgt := 18) X dX11_leaf_2 (by decide) hf (fun hf => ?_) (fun hf => ?_)
  · refine g_lv [0, 2, 3] (lv' := [(0, .ref h), (2, .int x2), (3, .int x3)]) rfl ?_
    exact hB18 _ _ _ hf
  refine g_aload_n X dX11_leaf_5 0 rfl ?_
  refine m_get_26 X dX11_leaf_6 ?_
  refine g_bipush X dX11_leaf_9 kb_50 ?_
  refine g_icmp_ge (tgt := 18) X dX11_leaf_11 (by decide) hf (fun hf => ?_) (fun hf => ?_)
  · refine g_lv [0, 2, 3] (lv' := [(0, .ref h), (2, .int x2), (3, .int x3)]) rfl ?_
    exact hB18 _ _ _ hf
  refine g_iconst X dX11_leaf_14 kc_1 ?_
  refine g_goto (tgt := 19) X dX11_leaf_15 (by decide) ?_
  refine g_lv [0, 2, 3] (lv' := [(0, .ref h), (2, .int x2), (3, .int x3)]) rfl ?_
  exact hB19 _ _ _ _ hf
def rm_readPart : Room := { frames := 4, cells := 0, slots := 0, locals := 86 }
set_option maxRecDepth 100000 in
set_option maxHeartbeats 4000000 in
theorem c_readPart (l : Launch) (dC : Nat → ClassId) (dI : Nat → Nat → Nat) (E : Nat → ClassId) (h : Nat) (r : Nat → Nat) (F : Nat) (S : MS)  (res : Int32 × MS) (hf : M_readPart F S = some res) : MC l dC dI E yX11_readPart cX11_readPart 4 (some .int) rm_readPart [.ref h] (MW E h r S) (MW E h r res.2) (some (.int res.1)) := by
  refine MC_of (own := "LostLanesModel") (by decide) rfl (Nat.le_of_ble_eq_true rfl) ?_
  intro p e s m args below meth c A Q X hr hlk hA hQ
  have hB151 : ∀ (S : MS) (t1 : Int32) (t3 : Int64) (t4 : Int64), M_readPart_B151 F S t1 t3 t4 = some res → GG p l e rm_readPart s m args below meth c dC dI A 4 0 0 Q (MW E h r S) 151 [] [.long t4, .long t3, .ref h, .int t1, .ref (r 25)] := by
    intro S t1 t3 t4 hf
    unfold M_readPart_B151 at hf
    refine m_bind hf (fun q1 hq1 hf => ?_)
    refine m_callV_i (As := [.long t3, .long t4]) (st := [.int t1, .ref (r 25)]) X kV_334 (c_number l dC dI E h r F S t3 t4 q1 hq1) ⟨Nat.le_of_ble_eq_true rfl, Nat.le_of_ble_eq_true rfl⟩ ⟨rfl, rfl⟩ (Nat.le_of_ble_eq_true rfl) ⟨Nat.le_of_ble_eq_true rfl, Nat.le_of_ble_eq_true rfl⟩ dX11_readPart_151 ?_
    refine m_ast_25 X dX11_readPart_154 hf (fun S2 hf => ?_)
    refine g_iconst X dX11_readPart_155 kc_3 ?_
    exact m_reti_s hA hQ X hr hlk dX11_readPart_156 hf
  have hB99 : ∀ (S : MS) (x1 : Int32) (t1 : Int32) (t2 : Int32) (t3 : Int32), M_readPart_B99 F S x1 t1 t2 t3 = some res → GG p l e rm_readPart s m args below meth c dC dI A 4 0 0 Q (MW E h r S) 99 [(0, .ref h), (1, .int x1)] [.int t3, .int t2, .int t1, .ref h] := by
    intro S x1 t1 t2 t3 hf
    unfold M_readPart_B99 at hf
    refine m_bind hf (fun q3 hq3 hf => ?_)
    refine m_callV_v (As := [.int t1, .int t2, .int t3]) (st := []) X kV_328 (c_leaf l dC dI E h r F S t1 t2 t3 q3 hq3) ⟨Nat.le_of_ble_eq_true rfl, Nat.le_of_ble_eq_true rfl⟩ ⟨rfl, rfl⟩ (Nat.le_of_ble_eq_true rfl) ⟨Nat.le_of_ble_eq_true rfl, Nat.le_of_ble_eq_true rfl⟩ dX11_readPart_99 ?_
    refine g_aload_n X dX11_readPart_102 0 rfl ?_
    refine m_get_20 X dX11_readPart_103 ?_
    refine g_if_eq (tgt := 155) X dX11_readPart_106 (by decide) hf (fun hf => ?_) (fun hf => ?_)
    · refine g_iconst X dX11_readPart_155 kc_3 ?_
      exact m_reti_s hA hQ X hr hlk dX11_readPart_156 hf
    refine g_iload_n X dX11_readPart_109 1 rfl ?_
    refine g_bipush X dX11_readPart_110 kb_6 ?_
    refine g_icmp_lt (tgt := 155) X dX11_readPart_112 (by decide) hf (fun hf => ?_) (fun hf => ?_)
    · refine g_iconst X dX11_readPart_155 kc_3 ?_
      exact m_reti_s hA hQ X hr hlk dX11_readPart_156 hf
    refine g_aload_n X dX11_readPart_115 0 rfl ?_
    refine m_get_19 X dX11_readPart_116 ?_
    refine g_if_ne (tgt := 155) X dX11_readPart_119 (by decide) hf (fun hf => ?_) (fun hf => ?_)
    · refine g_iconst X dX11_readPart_155 kc_3 ?_
      exact m_reti_s hA hQ X hr hlk dX11_readPart_156 hf
    refine g_aload_n X dX11_readPart_122 0 rfl ?_
    refine m_get_23 X dX11_readPart_123 ?_
    refine g_iconst X dX11_readPart_126 kc_1 ?_
    refine g_isub X dX11_readPart_127 ?_
    refine g_istore_n (i := 3) (lv' := [(3, .int ((mi q3.2 23) - (1 : Int32))), (0, .ref h), (1, .int x1)]) X dX11_readPart_128 rfl (by decide) rfl ?_
    refine g_aload_n X dX11_readPart_129 1 rfl ?_
    refine m_get_25 X dX11_readPart_130 ?_
    refine g_iload_n X dX11_readPart_133 0 rfl ?_
    refine g_aload_n X dX11_readPart_134 1 rfl ?_
    refine g_lconst X dX11_readPart_135 kl_0 ?_
    refine g_iload_n X dX11_readPart_136 2 rfl ?_
    refine g_bipush X dX11_readPart_137 kb_6 ?_
    refine g_icmp_ne (tgt := 148) X dX11_readPart_139 (by decide) hf (fun hf => ?_) (fun hf => ?_)
    · refine g_ldc2 X dX11_readPart_148 wd6_121 ?_
      refine g_lv [] (lv' := []) rfl ?_
      exact hB151 _ _ _ _ hf
    refine g_ldc2 X dX11_readPart_142 wd7_67 ?_
    refine g_goto (tgt := 151) X dX11_readPart_145 (by decide) ?_
    refine g_lv [] (lv' := []) rfl ?_
    exact hB151 _ _ _ _ hf
  have hB86 : ∀ (S : MS) (x1 : Int32) (x2 : Int32) (t1 : Int32) (t2 : Int32), M_readPart_B86 F S x1 x2 t1 t2 = some res → GG p l e rm_readPart s m args below meth c dC dI A 4 0 0 Q (MW E h r S) 86 [(0, .ref h), (1, .int x1), (2, .int x2)] [.int t2, .int t1, .ref h] := by
    intro S x1 x2 t1 t2 hf
    unfold M_readPart_B86 at hf
    refine g_iload_n X dX11_readPart_86 2 rfl ?_
    refine g_if_eq (tgt := 98) X dX11_readPart_87 (by decide) hf (fun hf => ?_) (fun hf => ?_)
    · refine g_iconst X dX11_readPart_98 kc_0 ?_
      refine g_lv [0, 1] (lv' := [(0, .ref h), (1, .int x1)]) rfl ?_
      exact hB99 _ _ _ _ _ hf
    refine g_aload_n X dX11_readPart_90 0 rfl ?_
    refine m_get_17 X dX11_readPart_91 ?_
    refine g_l2i X dX11_readPart_94 ?_
    refine g_goto (tgt := 99) X dX11_readPart_95 (by decide) ?_
    refine g_lv [0, 1] (lv' := [(0, .ref h), (1, .int x1)]) rfl ?_
    exact hB99 _ _ _ _ _ hf
  have hB76 : ∀ (S : MS) (x1 : Int32) (x2 : Int32) (t1 : Int32), M_readPart_B76 F S x1 x2 t1 = some res → GG p l e rm_readPart s m args below meth c dC dI A 4 0 0 Q (MW E h r S) 76 [(0, .ref h), (1, .int x1), (2, .int x2)] [.int t1, .ref h] := by
    intro S x1 x2 t1 hf
    unfold M_readPart_B76 at hf
    refine g_iload_n X dX11_readPart_76 1 rfl ?_
    refine g_iconst X dX11_readPart_77 kc_m1 ?_
    refine g_icmp_ne (tgt := 85) X dX11_readPart_78 (by decide) hf (fun hf => ?_) (fun hf => ?_)
    · refine g_iload_n X dX11_readPart_85 1 rfl ?_
      exact hB86 _ _ _ _ _ hf
    refine g_iconst X dX11_readPart_81 kc_0 ?_
    refine g_goto (tgt := 86) X dX11_readPart_82 (by decide) ?_
    exact hB86 _ _ _ _ _ hf
  have hB71 : ∀ (S : MS) (x1 : Int32) (x2 : Int32), M_readPart_B71 F S x1 x2 = some res → GG p l e rm_readPart s m args below meth c dC dI A 4 0 0 Q (MW E h r S) 71 [(0, .ref h), (1, .int x1), (2, .int x2)] [.ref h] := by
    intro S x1 x2 hf
    unfold M_readPart_B71 at hf
    refine g_iconst X dX11_readPart_71 kc_1 ?_
    refine g_goto (tgt := 76) X dX11_readPart_72 (by decide) ?_
    exact hB76 _ _ _ _ hf
  have hB60 : ∀ (S : MS) (x1 : Int32) (t0 : Int32), M_readPart_B60 F S x1 t0 = some res → GG p l e rm_readPart s m args below meth c dC dI A 4 0 0 Q (MW E h r S) 60 [(0, .ref h), (1, .int x1)] [.int t0] := by
    intro S x1 t0 hf
    unfold M_readPart_B60 at hf
    refine g_istore_n (i := 2) (lv' := [(2, .int t0), (0, .ref h), (1, .int x1)]) X dX11_readPart_60 rfl (by decide) rfl ?_
    refine g_aload_n X dX11_readPart_61 1 rfl ?_
    refine g_iload_n X dX11_readPart_62 2 rfl ?_
    refine g_iconst X dX11_readPart_63 kc_m1 ?_
    refine g_icmp_ne (tgt := 71) X dX11_readPart_64 (by decide) hf (fun hf => ?_) (fun hf => ?_)
    · refine g_lv [1, 2, 0] (lv' := [(0, .ref h), (1, .int x1), (2, .int t0)]) rfl ?_
      exact hB71 _ _ _ hf
    refine g_iload_n X dX11_readPart_67 0 rfl ?_
    refine g_if_eq (tgt := 75) X dX11_readPart_68 (by decide) hf (fun hf => ?_) (fun hf => ?_)
    · refine g_iconst X dX11_readPart_75 kc_0 ?_
      refine g_lv [1, 2, 0] (lv' := [(0, .ref h), (1, .int x1), (2, .int t0)]) rfl ?_
      exact hB76 _ _ _ _ hf
    refine g_lv [1, 2, 0] (lv' := [(0, .ref h), (1, .int x1), (2, .int t0)]) rfl ?_
    exact hB71 _ _ _ hf
  have hB59 : ∀ (S : MS) (x1 : Int32), M_readPart_B59 F S x1 = some res → GG p l e rm_readPart s m args below meth c dC dI A 4 0 0 Q (MW E h r S) 59 [(0, .ref h), (1, .int x1)] [] := by
    intro S x1 hf
    unfold M_readPart_B59 at hf
    refine g_iconst X dX11_readPart_59 kc_0 ?_
    exact hB60 _ _ _ hf
  have hB35 : ∀ (S : MS) (t0 : Int32), M_readPart_B35 F S t0 = some res → GG p l e rm_readPart s m args below meth c dC dI A 4 0 0 Q (MW E h r S) 35 [(0, .ref h)] [.int t0] := by
    intro S t0 hf
    unfold M_readPart_B35 at hf
    refine g_istore_n (i := 1) (lv' := [(1, .int t0), (0, .ref h)]) X dX11_readPart_35 rfl (by decide) rfl ?_
    refine g_aload_n X dX11_readPart_36 1 rfl ?_
    refine m_get_16 X dX11_readPart_37 ?_
    refine g_iconst X dX11_readPart_40 kc_2 ?_
    refine g_icmp_ne (tgt := 59) X dX11_readPart_41 (by decide) hf (fun hf => ?_) (fun hf => ?_)
    · refine g_lv [1, 0] (lv' := [(0, .ref h), (1, .int t0)]) rfl ?_
      exact hB59 _ _ hf
    refine g_aload_n X dX11_readPart_44 1 rfl ?_
    refine m_get_17 X dX11_readPart_45 ?_
    refine g_ldc2 X dX11_readPart_48 wd7_58 ?_
    refine g_lcmp_gt (tgt := 59) X dX11_readPart_51 dX11_readPart_52 (by decide) hf (fun hf => ?_) (fun hf => ?_)
    · refine g_lv [1, 0] (lv' := [(0, .ref h), (1, .int t0)]) rfl ?_
      exact hB59 _ _ hf
    refine g_iconst X dX11_readPart_55 kc_1 ?_
    refine g_goto (tgt := 60) X dX11_readPart_56 (by decide) ?_
    refine g_lv [1, 0] (lv' := [(0, .ref h), (1, .int t0)]) rfl ?_
    exact hB60 _ _ _ hf
  refine g_lv [0] (lv' := [(0, .ref h)]) rfl ?_
  unfold M_readPart at hf
  refine g_aload_n X dX11_readPart_0 0 rfl ?_
  refine g_bipush X dX11_readPart_1 kb_91 ?_
  refine m_bind hf (fun q4 hq4 hf => ?_)
  refine m_callV_i (As := [.int (91 : Int32)]) (st := []) X kV_310 (c_isSign l dC dI E h r S (91 : Int32) q4 hq4) ⟨Nat.le_of_ble_eq_true rfl, Nat.le_of_ble_eq_true rfl⟩ ⟨rfl, rfl⟩ (Nat.le_of_ble_eq_true rfl) ⟨Nat.le_of_ble_eq_true rfl, Nat.le_of_ble_eq_true rfl⟩ dX11_readPart_3 ?_
  refine g_if_eq (tgt := 17) X dX11_readPart_6 (by decide) hf (fun hf => ?_) (fun hf => ?_)
  · refine g_aload_n X dX11_readPart_17 0 rfl ?_
    refine m_get_20 X dX11_readPart_18 ?_
    refine g_if_eq (tgt := 31) X dX11_readPart_21 (by decide) hf (fun hf => ?_) (fun hf => ?_)
    · refine g_aload_n X dX11_readPart_31 0 rfl ?_
      refine m_bind hf (fun q5 hq5 hf => ?_)
      refine m_callV_i (As := []) (st := []) X kV_323 (c_partAt l dC dI E h r F S q5 hq5) ⟨Nat.le_of_ble_eq_true rfl, Nat.le_of_ble_eq_true rfl⟩ ⟨rfl, rfl⟩ (Nat.le_of_ble_eq_true rfl) ⟨Nat.le_of_ble_eq_true rfl, Nat.le_of_ble_eq_true rfl⟩ dX11_readPart_32 ?_
      exact hB35 _ _ hf
    refine g_aload_n X dX11_readPart_24 0 rfl ?_
    refine m_bind hf (fun q6 hq6 hf => ?_)
    refine m_callV_i (As := []) (st := []) X kV_319 (c_orderPartAt l dC dI E h r F S q6 hq6) ⟨Nat.le_of_ble_eq_true rfl, Nat.le_of_ble_eq_true rfl⟩ ⟨rfl, rfl⟩ (Nat.le_of_ble_eq_true rfl) ⟨Nat.le_of_ble_eq_true rfl, Nat.le_of_ble_eq_true rfl⟩ dX11_readPart_25 ?_
    refine g_goto (tgt := 35) X dX11_readPart_28 (by decide) ?_
    exact hB35 _ _ hf
  refine g_aload_n X dX11_readPart_9 0 rfl ?_
  refine g_bipush X dX11_readPart_10 kb_32 ?_
  refine m_bind hf (fun q7 hq7 hf => ?_)
  refine m_callV_v (As := [.int (32 : Int32)]) (st := []) X kV_313 (c_openBracket l dC dI E h r F S (32 : Int32) q7 hq7) ⟨Nat.le_of_ble_eq_true rfl, Nat.le_of_ble_eq_true rfl⟩ ⟨rfl, rfl⟩ (Nat.le_of_ble_eq_true rfl) ⟨Nat.le_of_ble_eq_true rfl, Nat.le_of_ble_eq_true rfl⟩ dX11_readPart_12 ?_
  refine g_iconst X dX11_readPart_15 kc_1 ?_
  exact m_reti_s hA hQ X hr hlk dX11_readPart_16 hf
def rm_readPlain : Room := { frames := 5, cells := 0, slots := 0, locals := 109 }
set_option maxRecDepth 100000 in
set_option maxHeartbeats 4000000 in
theorem c_readPlain (l : Launch) (dC : Nat → ClassId) (dI : Nat → Nat → Nat) (E : Nat → ClassId) (h : Nat) (r : Nat → Nat) (F : Nat) (S : MS)  (res : Int32 × MS) (hf : M_readPlain F S = some res) : MC l dC dI E yX11_readPlain cX11_readPlain 1 (some .int) rm_readPlain [.ref h] (MW E h r S) (MW E h r res.2) (some (.int res.1)) := by
  refine MC_of (own := "LostLanesModel") (by decide) rfl (Nat.le_of_ble_eq_true rfl) ?_
  intro p e s m args below meth c A Q X hr hlk hA hQ
  refine g_lv [0] (lv' := [(0, .ref h)]) rfl ?_
  unfold M_readPlain at hf
  refine g_aload_n X dX11_readPlain_0 0 rfl ?_
  refine g_ldc2 X dX11_readPlain_1 wd7_33 ?_
  refine m_bind hf (fun q1 hq1 hf => ?_)
  refine m_callV_i (As := [.long (14836 : Int64)]) (st := []) X kV_297 (c_isWord l dC dI E h r S (14836 : Int64) q1 hq1) ⟨Nat.le_of_ble_eq_true rfl, Nat.le_of_ble_eq_true rfl⟩ ⟨rfl, rfl⟩ (Nat.le_of_ble_eq_true rfl) ⟨Nat.le_of_ble_eq_true rfl, Nat.le_of_ble_eq_true rfl⟩ dX11_readPlain_4 ?_
  refine g_if_eq (tgt := 23) X dX11_readPlain_7 (by decide) hf (fun hf => ?_) (fun hf => ?_)
  · refine g_aload_n X dX11_readPlain_23 0 rfl ?_
    refine g_bipush X dX11_readPlain_24 kb_40 ?_
    refine m_bind hf (fun q2 hq2 hf => ?_)
    refine m_callV_i (As := [.int (40 : Int32)]) (st := []) X kV_310 (c_isSign l dC dI E h r S (40 : Int32) q2 hq2) ⟨Nat.le_of_ble_eq_true rfl, Nat.le_of_ble_eq_true rfl⟩ ⟨rfl, rfl⟩ (Nat.le_of_ble_eq_true rfl) ⟨Nat.le_of_ble_eq_true rfl, Nat.le_of_ble_eq_true rfl⟩ dX11_readPlain_26 ?_
    refine g_if_eq (tgt := 40) X dX11_readPlain_29 (by decide) hf (fun hf => ?_) (fun hf => ?_)
    · refine g_aload_n X dX11_readPlain_40 0 rfl ?_
      refine m_bind hf (fun q3 hq3 hf => ?_)
      refine m_callV_i (As := []) (st := []) X kV_340 (c_readPart l dC dI E h r F S q3 hq3) ⟨Nat.le_of_ble_eq_true rfl, Nat.le_of_ble_eq_true rfl⟩ ⟨rfl, rfl⟩ (Nat.le_of_ble_eq_true rfl) ⟨Nat.le_of_ble_eq_true rfl, Nat.le_of_ble_eq_true rfl⟩ dX11_readPlain_41 ?_
      exact m_reti_s hA hQ X hr hlk dX11_readPlain_44 hf
    refine g_aload_n X dX11_readPlain_32 0 rfl ?_
    refine g_bipush X dX11_readPlain_33 kb_31 ?_
    refine m_bind hf (fun q4 hq4 hf => ?_)
    refine m_callV_v (As := [.int (31 : Int32)]) (st := []) X kV_313 (c_openBracket l dC dI E h r F S (31 : Int32) q4 hq4) ⟨Nat.le_of_ble_eq_true rfl, Nat.le_of_ble_eq_true rfl⟩ ⟨rfl, rfl⟩ (Nat.le_of_ble_eq_true rfl) ⟨Nat.le_of_ble_eq_true rfl, Nat.le_of_ble_eq_true rfl⟩ dX11_readPlain_35 ?_
    refine g_iconst X dX11_readPlain_38 kc_0 ?_
    exact m_reti_s hA hQ X hr hlk dX11_readPlain_39 hf
  refine g_aload_n X dX11_readPlain_10 0 rfl ?_
  refine g_bipush X dX11_readPlain_11 kb_28 ?_
  refine g_iconst X dX11_readPlain_13 kc_0 ?_
  refine m_bind hf (fun q5 hq5 hf => ?_)
  refine m_callV_v (As := [.int (28 : Int32), .int (0 : Int32)]) (st := []) X kV_304 (c_push l dC dI E h r S (28 : Int32) (0 : Int32) q5 hq5) ⟨Nat.le_of_ble_eq_true rfl, Nat.le_of_ble_eq_true rfl⟩ ⟨rfl, rfl⟩ (Nat.le_of_ble_eq_true rfl) ⟨Nat.le_of_ble_eq_true rfl, Nat.le_of_ble_eq_true rfl⟩ dX11_readPlain_14 ?_
  refine g_aload_n X dX11_readPlain_17 0 rfl ?_
  refine m_bind hf (fun q6 hq6 hf => ?_)
  refine m_callV_v (As := []) (st := []) X kV_243 (c_next l dC dI E h r F q5.2 q6 hq6) ⟨Nat.le_of_ble_eq_true rfl, Nat.le_of_ble_eq_true rfl⟩ ⟨rfl, rfl⟩ (Nat.le_of_ble_eq_true rfl) ⟨Nat.le_of_ble_eq_true rfl, Nat.le_of_ble_eq_true rfl⟩ dX11_readPlain_18 ?_
  refine g_iconst X dX11_readPlain_21 kc_0 ?_
  exact m_reti_s hA hQ X hr hlk dX11_readPlain_22 hf
def rm_behindSum : Room := { frames := 3, cells := 0, slots := 0, locals := 61 }
set_option maxRecDepth 100000 in
set_option maxHeartbeats 4000000 in
theorem c_behindSum (l : Launch) (dC : Nat → ClassId) (dI : Nat → Nat → Nat) (E : Nat → ClassId) (h : Nat) (r : Nat → Nat) (F : Nat) (S : MS) (x1 : Int32) (res : Int32 × MS) (hf : M_behindSum F S x1 = some res) : MC l dC dI E yX11_behindSum cX11_behindSum 4 (some .int) rm_behindSum [.ref h, .int x1] (MW E h r S) (MW E h r res.2) (some (.int res.1)) := by
  refine MC_of (own := "LostLanesModel") (by decide) rfl (Nat.le_of_ble_eq_true rfl) ?_
  intro p e s m args below meth c A Q X hr hlk hA hQ
  have hB224 : ∀ (S : MS) (x2 : Int32) (t1 : Int32), M_behindSum_B224 F S x2 t1 = some res → GG p l e rm_behindSum s m args below meth c dC dI A 4 0 0 Q (MW E h r S) 224 [(0, .ref h), (2, .int x2)] [.int t1, .ref h] := by
    intro S x2 t1 hf
    unfold M_behindSum_B224 at hf
    refine m_bind hf (fun q1 hq1 hf => ?_)
    refine m_callV_v (As := [.int t1]) (st := []) X kV_272 (c_must l dC dI E h r F S t1 q1 hq1) ⟨Nat.le_of_ble_eq_true rfl, Nat.le_of_ble_eq_true rfl⟩ ⟨rfl, rfl⟩ (Nat.le_of_ble_eq_true rfl) ⟨Nat.le_of_ble_eq_true rfl, Nat.le_of_ble_eq_true rfl⟩ dX11_behindSum_224 ?_
    refine g_aload_n X dX11_behindSum_227 0 rfl ?_
    refine m_get_19 X dX11_behindSum_228 ?_
    refine g_if_ne (tgt := 245) X dX11_behindSum_231 (by decide) hf (fun hf => ?_) (fun hf => ?_)
    · refine g_iconst X dX11_behindSum_245 kc_1 ?_
      exact m_reti_s hA hQ X hr hlk dX11_behindSum_246 hf
    refine g_aload_n X dX11_behindSum_234 0 rfl ?_
    refine g_iconst X dX11_behindSum_235 kc_5 ?_
    refine m_bind hf (fun q2 hq2 hf => ?_)
    refine m_callV_v (As := [.int (5 : Int32)]) (st := []) X kV_343 (c_settle l dC dI E h r F q1.2 (5 : Int32) q2 hq2) ⟨Nat.le_of_ble_eq_true rfl, Nat.le_of_ble_eq_true rfl⟩ ⟨rfl, rfl⟩ (Nat.le_of_ble_eq_true rfl) ⟨Nat.le_of_ble_eq_true rfl, Nat.le_of_ble_eq_true rfl⟩ dX11_behindSum_236 ?_
    refine g_aload_n X dX11_behindSum_239 0 rfl ?_
    refine g_iload_n X dX11_behindSum_240 1 rfl ?_
    refine g_iconst X dX11_behindSum_241 kc_0 ?_
    refine m_bind hf (fun q3 hq3 hf => ?_)
    refine m_callV_v (As := [.int x2, .int (0 : Int32)]) (st := []) X kV_304 (c_push l dC dI E h r q2.2 x2 (0 : Int32) q3 hq3) ⟨Nat.le_of_ble_eq_true rfl, Nat.le_of_ble_eq_true rfl⟩ ⟨rfl, rfl⟩ (Nat.le_of_ble_eq_true rfl) ⟨Nat.le_of_ble_eq_true rfl, Nat.le_of_ble_eq_true rfl⟩ dX11_behindSum_242 ?_
    refine g_iconst X dX11_behindSum_245 kc_1 ?_
    exact m_reti_s hA hQ X hr hlk dX11_behindSum_246 hf
  have hB219 : ∀ (S : MS) (x2 : Int32), M_behindSum_B219 F S x2 = some res → GG p l e rm_behindSum s m args below meth c dC dI A 4 0 0 Q (MW E h r S) 219 [(0, .ref h), (2, .int x2)] [.ref h] := by
    intro S x2 hf
    unfold M_behindSum_B219 at hf
    refine g_iconst X dX11_behindSum_219 kc_1 ?_
    refine g_goto (tgt := 224) X dX11_behindSum_220 (by decide) ?_
    exact hB224 _ _ _ hf
  have hB202 : ∀ (S : MS) (t0 : Int32), M_behindSum_B202 F S t0 = some res → GG p l e rm_behindSum s m args below meth c dC dI A 4 0 0 Q (MW E h r S) 202 [(0, .ref h)] [.int t0] := by
    intro S t0 hf
    unfold M_behindSum_B202 at hf
    refine g_istore_n (i := 2) (lv' := [(2, .int t0), (0, .ref h)]) X dX11_behindSum_202 rfl (by decide) rfl ?_
    refine g_aload_n X dX11_behindSum_203 1 rfl ?_
    refine g_iload_n X dX11_behindSum_204 0 rfl ?_
    refine g_bipush X dX11_behindSum_205 kb_27 ?_
    refine g_icmp_ne (tgt := 219) X dX11_behindSum_207 (by decide) hf (fun hf => ?_) (fun hf => ?_)
    · refine g_lv [1, 0] (lv' := [(0, .ref h), (2, .int t0)]) rfl ?_
      exact hB219 _ _ hf
    refine g_aload_n X dX11_behindSum_210 1 rfl ?_
    refine g_bipush X dX11_behindSum_211 kb_61 ?_
    refine m_bind hf (fun q4 hq4 hf => ?_)
    refine m_callV_i (As := [.int (61 : Int32)]) (st := [.ref h]) X kV_310 (c_isSign l dC dI E h r S (61 : Int32) q4 hq4) ⟨Nat.le_of_ble_eq_true rfl, Nat.le_of_ble_eq_true rfl⟩ ⟨rfl, rfl⟩ (Nat.le_of_ble_eq_true rfl) ⟨Nat.le_of_ble_eq_true rfl, Nat.le_of_ble_eq_true rfl⟩ dX11_behindSum_213 ?_
    refine g_if_eq (tgt := 223) X dX11_behindSum_216 (by decide) hf (fun hf => ?_) (fun hf => ?_)
    · refine g_iconst X dX11_behindSum_223 kc_0 ?_
      refine g_lv [1, 0] (lv' := [(0, .ref h), (2, .int t0)]) rfl ?_
      exact hB224 _ _ _ hf
    refine g_lv [1, 0] (lv' := [(0, .ref h), (2, .int t0)]) rfl ?_
    exact hB219 _ _ hf
  have hB163 : ∀ (S : MS), M_behindSum_B163 F S = some res → GG p l e rm_behindSum s m args below meth c dC dI A 4 0 0 Q (MW E h r S) 163 [(0, .ref h)] [] := by
    intro S hf
    unfold M_behindSum_B163 at hf
    refine g_aload_n X dX11_behindSum_163 0 rfl ?_
    refine m_bind hf (fun q5 hq5 hf => ?_)
    refine m_callV_i (As := []) (st := []) X kV_349 (c_isCompared l dC dI E h r F S q5 hq5) ⟨Nat.le_of_ble_eq_true rfl, Nat.le_of_ble_eq_true rfl⟩ ⟨rfl, rfl⟩ (Nat.le_of_ble_eq_true rfl) ⟨Nat.le_of_ble_eq_true rfl, Nat.le_of_ble_eq_true rfl⟩ dX11_behindSum_164 ?_
    refine g_if_eq (tgt := 172) X dX11_behindSum_167 (by decide) hf (fun hf => ?_) (fun hf => ?_)
    · refine g_aload_n X dX11_behindSum_172 0 rfl ?_
      refine g_bipush X dX11_behindSum_173 kb_60 ?_
      refine m_bind hf (fun q6 hq6 hf => ?_)
      refine m_callV_i (As := [.int (60 : Int32)]) (st := []) X kV_310 (c_isSign l dC dI E h r S (60 : Int32) q6 hq6) ⟨Nat.le_of_ble_eq_true rfl, Nat.le_of_ble_eq_true rfl⟩ ⟨rfl, rfl⟩ (Nat.le_of_ble_eq_true rfl) ⟨Nat.le_of_ble_eq_true rfl, Nat.le_of_ble_eq_true rfl⟩ dX11_behindSum_175 ?_
      refine g_if_eq (tgt := 186) X dX11_behindSum_178 (by decide) hf (fun hf => ?_) (fun hf => ?_)
      · refine g_aload_n X dX11_behindSum_186 0 rfl ?_
        refine g_bipush X dX11_behindSum_187 kb_62 ?_
        refine m_bind hf (fun q7 hq7 hf => ?_)
        refine m_callV_i (As := [.int (62 : Int32)]) (st := []) X kV_310 (c_isSign l dC dI E h r S (62 : Int32) q7 hq7) ⟨Nat.le_of_ble_eq_true rfl, Nat.le_of_ble_eq_true rfl⟩ ⟨rfl, rfl⟩ (Nat.le_of_ble_eq_true rfl) ⟨Nat.le_of_ble_eq_true rfl, Nat.le_of_ble_eq_true rfl⟩ dX11_behindSum_189 ?_
        refine g_if_eq (tgt := 200) X dX11_behindSum_192 (by decide) hf (fun hf => ?_) (fun hf => ?_)
        · refine g_bipush X dX11_behindSum_200 kb_27 ?_
          exact hB202 _ _ hf
        refine g_bipush X dX11_behindSum_195 kb_26 ?_
        refine g_goto (tgt := 202) X dX11_behindSum_197 (by decide) ?_
        exact hB202 _ _ hf
      refine g_bipush X dX11_behindSum_181 kb_25 ?_
      refine g_goto (tgt := 202) X dX11_behindSum_183 (by decide) ?_
      exact hB202 _ _ hf
    refine g_iconst X dX11_behindSum_170 kc_2 ?_
    exact m_reti_s hA hQ X hr hlk dX11_behindSum_171 hf
  have hB71 : ∀ (S : MS) (x1 : Int32) (t0 : Int32), M_behindSum_B71 F S x1 t0 = some res → GG p l e rm_behindSum s m args below meth c dC dI A 4 0 0 Q (MW E h r S) 71 [(0, .ref h), (1, .int x1)] [.int t0] := by
    intro S x1 t0 hf
    unfold M_behindSum_B71 at hf
    refine g_istore_n (i := 2) (lv' := [(2, .int t0), (0, .ref h), (1, .int x1)]) X dX11_behindSum_71 rfl (by decide) rfl ?_
    refine g_iload_n X dX11_behindSum_72 0 rfl ?_
    refine g_iconst X dX11_behindSum_73 kc_m1 ?_
    refine g_icmp_eq (tgt := 97) X dX11_behindSum_74 (by decide) hf (fun hf => ?_) (fun hf => ?_)
    · refine g_aload_n X dX11_behindSum_97 1 rfl ?_
      refine m_bind hf (fun q8 hq8 hf => ?_)
      refine m_callV_i (As := []) (st := []) X kV_346 (c_inner l dC dI E h r F S q8 hq8) ⟨Nat.le_of_ble_eq_true rfl, Nat.le_of_ble_eq_true rfl⟩ ⟨rfl, rfl⟩ (Nat.le_of_ble_eq_true rfl) ⟨Nat.le_of_ble_eq_true rfl, Nat.le_of_ble_eq_true rfl⟩ dX11_behindSum_98 ?_
      refine g_istore_n (i := 3) (lv' := [(3, .int q8), (2, .int t0), (0, .ref h), (1, .int x1)]) X dX11_behindSum_101 rfl (by decide) rfl ?_
      refine g_iload_n X dX11_behindSum_102 0 rfl ?_
      refine g_bipush X dX11_behindSum_103 kb_32 ?_
      refine g_icmp_ne (tgt := 152) X dX11_behindSum_105 (by decide) hf (fun hf => ?_) (fun hf => ?_)
      · refine g_iload_n X dX11_behindSum_152 0 rfl ?_
        refine g_iconst X dX11_behindSum_153 kc_m1 ?_
        refine g_icmp_ne (tgt := 163) X dX11_behindSum_154 (by decide) hf (fun hf => ?_) (fun hf => ?_)
        · refine g_lv [2] (lv' := [(0, .ref h)]) rfl ?_
          exact hB163 _ hf
        refine g_iload_n X dX11_behindSum_157 3 rfl ?_
        refine g_if_ne (tgt := 163) X dX11_behindSum_158 (by decide) hf (fun hf => ?_) (fun hf => ?_)
        · refine g_lv [2] (lv' := [(0, .ref h)]) rfl ?_
          exact hB163 _ hf
        refine g_iconst X dX11_behindSum_161 kc_4 ?_
        exact m_reti_s hA hQ X hr hlk dX11_behindSum_162 hf
      refine g_aload_n X dX11_behindSum_108 2 rfl ?_
      refine g_aload_n X dX11_behindSum_109 2 rfl ?_
      refine g_bipush X dX11_behindSum_110 kb_93 ?_
      refine m_bind hf (fun q9 hq9 hf => ?_)
      refine m_callV_i (As := [.int (93 : Int32)]) (st := [.ref h]) X kV_310 (c_isSign l dC dI E h r S (93 : Int32) q9 hq9) ⟨Nat.le_of_ble_eq_true rfl, Nat.le_of_ble_eq_true rfl⟩ ⟨rfl, rfl⟩ (Nat.le_of_ble_eq_true rfl) ⟨Nat.le_of_ble_eq_true rfl, Nat.le_of_ble_eq_true rfl⟩ dX11_behindSum_112 ?_
      refine m_bind hf (fun q10 hq10 hf => ?_)
      refine m_callV_v (As := [.int q9]) (st := []) X kV_272 (c_must l dC dI E h r F S q9 q10 hq10) ⟨Nat.le_of_ble_eq_true rfl, Nat.le_of_ble_eq_true rfl⟩ ⟨rfl, rfl⟩ (Nat.le_of_ble_eq_true rfl) ⟨Nat.le_of_ble_eq_true rfl, Nat.le_of_ble_eq_true rfl⟩ dX11_behindSum_115 ?_
      refine g_aload_n X dX11_behindSum_118 2 rfl ?_
      refine m_get_19 X dX11_behindSum_119 ?_
      refine g_if_ne (tgt := 150) X dX11_behindSum_122 (by decide) hf (fun hf => ?_) (fun hf => ?_)
      · refine g_iconst X dX11_behindSum_150 kc_3 ?_
        exact m_reti_s hA hQ X hr hlk dX11_behindSum_151 hf
      refine g_aload_n X dX11_behindSum_125 2 rfl ?_
      refine g_iconst X dX11_behindSum_126 kc_5 ?_
      refine m_bind hf (fun q11 hq11 hf => ?_)
      refine m_callV_v (As := [.int (5 : Int32)]) (st := []) X kV_343 (c_settle l dC dI E h r F q10.2 (5 : Int32) q11 hq11) ⟨Nat.le_of_ble_eq_true rfl, Nat.le_of_ble_eq_true rfl⟩ ⟨rfl, rfl⟩ (Nat.le_of_ble_eq_true rfl) ⟨Nat.le_of_ble_eq_true rfl, Nat.le_of_ble_eq_true rfl⟩ dX11_behindSum_127 ?_
      refine g_aload_n X dX11_behindSum_130 2 rfl ?_
      refine g_dup X dX11_behindSum_131 rfl ?_
      refine m_get_29 X dX11_behindSum_132 ?_
      refine g_iconst X dX11_behindSum_135 kc_1 ?_
      refine g_isub X dX11_behindSum_136 ?_
      refine m_put_29 X dX11_behindSum_137 hf (fun S12 hf => ?_)
      refine g_aload_n X dX11_behindSum_140 2 rfl ?_
      refine g_dup X dX11_behindSum_141 rfl ?_
      refine m_get_30 X dX11_behindSum_142 ?_
      refine g_iconst X dX11_behindSum_145 kc_1 ?_
      refine g_isub X dX11_behindSum_146 ?_
      refine m_put_30 X dX11_behindSum_147 hf (fun S13 hf => ?_)
      refine g_iconst X dX11_behindSum_150 kc_3 ?_
      exact m_reti_s hA hQ X hr hlk dX11_behindSum_151 hf
    refine g_aload_n X dX11_behindSum_77 1 rfl ?_
    refine g_iload_n X dX11_behindSum_78 0 rfl ?_
    refine m_bind hf (fun q14 hq14 hf => ?_)
    refine m_callS_i (As := [.int t0]) (st := [.ref h]) X kS_282 (c_binds l dC dI E h r S t0 q14 hq14) ⟨Nat.le_of_ble_eq_true rfl, Nat.le_of_ble_eq_true rfl⟩ ⟨rfl, rfl⟩ (Nat.le_of_ble_eq_true rfl) ⟨Nat.le_of_ble_eq_true rfl, Nat.le_of_ble_eq_true rfl⟩ dX11_behindSum_79 ?_
    refine m_bind hf (fun q15 hq15 hf => ?_)
    refine m_callV_v (As := [.int q14]) (st := []) X kV_343 (c_settle l dC dI E h r F S q14 q15 hq15) ⟨Nat.le_of_ble_eq_true rfl, Nat.le_of_ble_eq_true rfl⟩ ⟨rfl, rfl⟩ (Nat.le_of_ble_eq_true rfl) ⟨Nat.le_of_ble_eq_true rfl, Nat.le_of_ble_eq_true rfl⟩ dX11_behindSum_82 ?_
    refine g_aload_n X dX11_behindSum_85 1 rfl ?_
    refine g_iload_n X dX11_behindSum_86 0 rfl ?_
    refine g_iconst X dX11_behindSum_87 kc_0 ?_
    refine m_bind hf (fun q16 hq16 hf => ?_)
    refine m_callV_v (As := [.int t0, .int (0 : Int32)]) (st := []) X kV_304 (c_push l dC dI E h r q15.2 t0 (0 : Int32) q16 hq16) ⟨Nat.le_of_ble_eq_true rfl, Nat.le_of_ble_eq_true rfl⟩ ⟨rfl, rfl⟩ (Nat.le_of_ble_eq_true rfl) ⟨Nat.le_of_ble_eq_true rfl, Nat.le_of_ble_eq_true rfl⟩ dX11_behindSum_88 ?_
    refine g_aload_n X dX11_behindSum_91 1 rfl ?_
    refine m_bind hf (fun q17 hq17 hf => ?_)
    refine m_callV_v (As := []) (st := []) X kV_243 (c_next l dC dI E h r F q16.2 q17 hq17) ⟨Nat.le_of_ble_eq_true rfl, Nat.le_of_ble_eq_true rfl⟩ ⟨rfl, rfl⟩ (Nat.le_of_ble_eq_true rfl) ⟨Nat.le_of_ble_eq_true rfl, Nat.le_of_ble_eq_true rfl⟩ dX11_behindSum_92 ?_
    refine g_iconst X dX11_behindSum_95 kc_1 ?_
    exact m_reti_s hA hQ X hr hlk dX11_behindSum_96 hf
  refine g_lv [0, 1] (lv' := [(0, .ref h), (1, .int x1)]) rfl ?_
  unfold M_behindSum at hf
  refine g_aload_n X dX11_behindSum_0 0 rfl ?_
  refine g_bipush X dX11_behindSum_1 kb_43 ?_
  refine m_bind hf (fun q18 hq18 hf => ?_)
  refine m_callV_i (As := [.int (43 : Int32)]) (st := []) X kV_310 (c_isSign l dC dI E h r S (43 : Int32) q18 hq18) ⟨Nat.le_of_ble_eq_true rfl, Nat.le_of_ble_eq_true rfl⟩ ⟨rfl, rfl⟩ (Nat.le_of_ble_eq_true rfl) ⟨Nat.le_of_ble_eq_true rfl, Nat.le_of_ble_eq_true rfl⟩ dX11_behindSum_3 ?_
  refine g_if_eq (tgt := 14) X dX11_behindSum_6 (by decide) hf (fun hf => ?_) (fun hf => ?_)
  · refine g_aload_n X dX11_behindSum_14 0 rfl ?_
    refine g_bipush X dX11_behindSum_15 kb_45 ?_
    refine m_bind hf (fun q19 hq19 hf => ?_)
    refine m_callV_i (As := [.int (45 : Int32)]) (st := []) X kV_310 (c_isSign l dC dI E h r S (45 : Int32) q19 hq19) ⟨Nat.le_of_ble_eq_true rfl, Nat.le_of_ble_eq_true rfl⟩ ⟨rfl, rfl⟩ (Nat.le_of_ble_eq_true rfl) ⟨Nat.le_of_ble_eq_true rfl, Nat.le_of_ble_eq_true rfl⟩ dX11_behindSum_17 ?_
    refine g_if_eq (tgt := 28) X dX11_behindSum_20 (by decide) hf (fun hf => ?_) (fun hf => ?_)
    · refine g_aload_n X dX11_behindSum_28 0 rfl ?_
      refine g_bipush X dX11_behindSum_29 kb_42 ?_
      refine m_bind hf (fun q20 hq20 hf => ?_)
      refine m_callV_i (As := [.int (42 : Int32)]) (st := []) X kV_310 (c_isSign l dC dI E h r S (42 : Int32) q20 hq20) ⟨Nat.le_of_ble_eq_true rfl, Nat.le_of_ble_eq_true rfl⟩ ⟨rfl, rfl⟩ (Nat.le_of_ble_eq_true rfl) ⟨Nat.le_of_ble_eq_true rfl, Nat.le_of_ble_eq_true rfl⟩ dX11_behindSum_31 ?_
      refine g_if_eq (tgt := 42) X dX11_behindSum_34 (by decide) hf (fun hf => ?_) (fun hf => ?_)
      · refine g_aload_n X dX11_behindSum_42 0 rfl ?_
        refine g_bipush X dX11_behindSum_43 kb_47 ?_
        refine m_bind hf (fun q21 hq21 hf => ?_)
        refine m_callV_i (As := [.int (47 : Int32)]) (st := []) X kV_310 (c_isSign l dC dI E h r S (47 : Int32) q21 hq21) ⟨Nat.le_of_ble_eq_true rfl, Nat.le_of_ble_eq_true rfl⟩ ⟨rfl, rfl⟩ (Nat.le_of_ble_eq_true rfl) ⟨Nat.le_of_ble_eq_true rfl, Nat.le_of_ble_eq_true rfl⟩ dX11_behindSum_45 ?_
        refine g_if_eq (tgt := 56) X dX11_behindSum_48 (by decide) hf (fun hf => ?_) (fun hf => ?_)
        · refine g_aload_n X dX11_behindSum_56 0 rfl ?_
          refine g_bipush X dX11_behindSum_57 kb_37 ?_
          refine m_bind hf (fun q22 hq22 hf => ?_)
          refine m_callV_i (As := [.int (37 : Int32)]) (st := []) X kV_310 (c_isSign l dC dI E h r S (37 : Int32) q22 hq22) ⟨Nat.le_of_ble_eq_true rfl, Nat.le_of_ble_eq_true rfl⟩ ⟨rfl, rfl⟩ (Nat.le_of_ble_eq_true rfl) ⟨Nat.le_of_ble_eq_true rfl, Nat.le_of_ble_eq_true rfl⟩ dX11_behindSum_59 ?_
          refine g_if_eq (tgt := 70) X dX11_behindSum_62 (by decide) hf (fun hf => ?_) (fun hf => ?_)
          · refine g_iconst X dX11_behindSum_70 kc_m1 ?_
            exact hB71 _ _ _ hf
          refine g_bipush X dX11_behindSum_65 kb_24 ?_
          refine g_goto (tgt := 71) X dX11_behindSum_67 (by decide) ?_
          exact hB71 _ _ _ hf
        refine g_bipush X dX11_behindSum_51 kb_23 ?_
        refine g_goto (tgt := 71) X dX11_behindSum_53 (by decide) ?_
        exact hB71 _ _ _ hf
      refine g_bipush X dX11_behindSum_37 kb_22 ?_
      refine g_goto (tgt := 71) X dX11_behindSum_39 (by decide) ?_
      exact hB71 _ _ _ hf
    refine g_bipush X dX11_behindSum_23 kb_21 ?_
    refine g_goto (tgt := 71) X dX11_behindSum_25 (by decide) ?_
    exact hB71 _ _ _ hf
  refine g_bipush X dX11_behindSum_9 kb_20 ?_
  refine g_goto (tgt := 71) X dX11_behindSum_11 (by decide) ?_
  exact hB71 _ _ _ hf
def rm_behindTest : Room := { frames := 3, cells := 0, slots := 0, locals := 61 }
set_option maxRecDepth 100000 in
set_option maxHeartbeats 4000000 in
theorem c_behindTest (l : Launch) (dC : Nat → ClassId) (dI : Nat → Nat → Nat) (E : Nat → ClassId) (h : Nat) (r : Nat → Nat) (F : Nat) (S : MS)  (res : Int32 × MS) (hf : M_behindTest F S = some res) : MC l dC dI E yX11_behindTest cX11_behindTest 2 (some .int) rm_behindTest [.ref h] (MW E h r S) (MW E h r res.2) (some (.int res.1)) := by
  refine MC_of (own := "LostLanesModel") (by decide) rfl (Nat.le_of_ble_eq_true rfl) ?_
  intro p e s m args below meth c A Q X hr hlk hA hQ
  have hB66 : ∀ (S : MS) (t1 : Int32), M_behindTest_B66 F S t1 = some res → GG p l e rm_behindTest s m args below meth c dC dI A 2 0 0 Q (MW E h r S) 66 [(0, .ref h)] [.int t1, .ref h] := by
    intro S t1 hf
    unfold M_behindTest_B66 at hf
    refine g_iconst X dX11_behindTest_66 kc_0 ?_
    refine m_bind hf (fun q1 hq1 hf => ?_)
    refine m_callV_v (As := [.int t1, .int (0 : Int32)]) (st := []) X kV_285 (c_emit l dC dI E h r S t1 (0 : Int32) q1 hq1) ⟨Nat.le_of_ble_eq_true rfl, Nat.le_of_ble_eq_true rfl⟩ ⟨rfl, rfl⟩ (Nat.le_of_ble_eq_true rfl) ⟨Nat.le_of_ble_eq_true rfl, Nat.le_of_ble_eq_true rfl⟩ dX11_behindTest_67 ?_
    refine g_aload_n X dX11_behindTest_70 0 rfl ?_
    refine m_bind hf (fun q2 hq2 hf => ?_)
    refine m_callV_v (As := []) (st := []) X kV_243 (c_next l dC dI E h r F q1.2 q2 hq2) ⟨Nat.le_of_ble_eq_true rfl, Nat.le_of_ble_eq_true rfl⟩ ⟨rfl, rfl⟩ (Nat.le_of_ble_eq_true rfl) ⟨Nat.le_of_ble_eq_true rfl, Nat.le_of_ble_eq_true rfl⟩ dX11_behindTest_71 ?_
    refine g_iconst X dX11_behindTest_74 kc_0 ?_
    exact m_reti_s hA hQ X hr hlk dX11_behindTest_75 hf
  have hB47 : ∀ (S : MS) (x1 : Int32) (t1 : Int32), M_behindTest_B47 F S x1 t1 = some res → GG p l e rm_behindTest s m args below meth c dC dI A 2 0 0 Q (MW E h r S) 47 [(0, .ref h), (1, .int x1)] [.int t1, .ref h] := by
    intro S x1 t1 hf
    unfold M_behindTest_B47 at hf
    refine g_aload_n X dX11_behindTest_47 0 rfl ?_
    refine m_get_23 X dX11_behindTest_48 ?_
    refine m_bind hf (fun q3 hq3 hf => ?_)
    refine m_callV_v (As := [.int t1, .int (mi S 23)]) (st := []) X kV_304 (c_push l dC dI E h r S t1 (mi S 23) q3 hq3) ⟨Nat.le_of_ble_eq_true rfl, Nat.le_of_ble_eq_true rfl⟩ ⟨rfl, rfl⟩ (Nat.le_of_ble_eq_true rfl) ⟨Nat.le_of_ble_eq_true rfl, Nat.le_of_ble_eq_true rfl⟩ dX11_behindTest_51 ?_
    refine g_aload_n X dX11_behindTest_54 0 rfl ?_
    refine g_iload_n X dX11_behindTest_55 1 rfl ?_
    refine g_if_eq (tgt := 64) X dX11_behindTest_56 (by decide) hf (fun hf => ?_) (fun hf => ?_)
    · refine g_bipush X dX11_behindTest_64 kb_30 ?_
      refine g_lv [0] (lv' := [(0, .ref h)]) rfl ?_
      exact hB66 _ _ hf
    refine g_bipush X dX11_behindTest_59 kb_29 ?_
    refine g_goto (tgt := 66) X dX11_behindTest_61 (by decide) ?_
    refine g_lv [0] (lv' := [(0, .ref h)]) rfl ?_
    exact hB66 _ _ hf
  have hB32 : ∀ (S : MS) (x1 : Int32) (t1 : Int32), M_behindTest_B32 F S x1 t1 = some res → GG p l e rm_behindTest s m args below meth c dC dI A 2 0 0 Q (MW E h r S) 32 [(0, .ref h), (1, .int x1)] [.int t1, .ref h] := by
    intro S x1 t1 hf
    unfold M_behindTest_B32 at hf
    refine m_bind hf (fun q4 hq4 hf => ?_)
    refine m_callV_v (As := [.int t1]) (st := []) X kV_343 (c_settle l dC dI E h r F S t1 q4 hq4) ⟨Nat.le_of_ble_eq_true rfl, Nat.le_of_ble_eq_true rfl⟩ ⟨rfl, rfl⟩ (Nat.le_of_ble_eq_true rfl) ⟨Nat.le_of_ble_eq_true rfl, Nat.le_of_ble_eq_true rfl⟩ dX11_behindTest_32 ?_
    refine g_aload_n X dX11_behindTest_35 0 rfl ?_
    refine g_iload_n X dX11_behindTest_36 1 rfl ?_
    refine g_if_eq (tgt := 45) X dX11_behindTest_37 (by decide) hf (fun hf => ?_) (fun hf => ?_)
    · refine g_bipush X dX11_behindTest_45 kb_30 ?_
      exact hB47 _ _ _ hf
    refine g_bipush X dX11_behindTest_40 kb_29 ?_
    refine g_goto (tgt := 47) X dX11_behindTest_42 (by decide) ?_
    exact hB47 _ _ _ hf
  have hB22 : ∀ (S : MS) (x1 : Int32), M_behindTest_B22 F S x1 = some res → GG p l e rm_behindTest s m args below meth c dC dI A 2 0 0 Q (MW E h r S) 22 [(0, .ref h), (1, .int x1)] [] := by
    intro S x1 hf
    unfold M_behindTest_B22 at hf
    refine g_aload_n X dX11_behindTest_22 0 rfl ?_
    refine g_iload_n X dX11_behindTest_23 1 rfl ?_
    refine g_if_eq (tgt := 31) X dX11_behindTest_24 (by decide) hf (fun hf => ?_) (fun hf => ?_)
    · refine g_iconst X dX11_behindTest_31 kc_1 ?_
      exact hB32 _ _ _ hf
    refine g_iconst X dX11_behindTest_27 kc_2 ?_
    refine g_goto (tgt := 32) X dX11_behindTest_28 (by decide) ?_
    exact hB32 _ _ _ hf
  refine g_lv [0] (lv' := [(0, .ref h)]) rfl ?_
  unfold M_behindTest at hf
  refine g_aload_n X dX11_behindTest_0 0 rfl ?_
  refine g_ldc2 X dX11_behindTest_1 wd7_99 ?_
  refine m_bind hf (fun q5 hq5 hf => ?_)
  refine m_callV_i (As := [.long (1476 : Int64)]) (st := []) X kV_297 (c_isWord l dC dI E h r S (1476 : Int64) q5 hq5) ⟨Nat.le_of_ble_eq_true rfl, Nat.le_of_ble_eq_true rfl⟩ ⟨rfl, rfl⟩ (Nat.le_of_ble_eq_true rfl) ⟨Nat.le_of_ble_eq_true rfl, Nat.le_of_ble_eq_true rfl⟩ dX11_behindTest_4 ?_
  refine g_istore_n (i := 1) (lv' := [(1, .int q5), (0, .ref h)]) X dX11_behindTest_7 rfl (by decide) rfl ?_
  refine g_iload_n X dX11_behindTest_8 0 rfl ?_
  refine g_if_ne (tgt := 22) X dX11_behindTest_9 (by decide) hf (fun hf => ?_) (fun hf => ?_)
  · refine g_lv [1, 0] (lv' := [(0, .ref h), (1, .int q5)]) rfl ?_
    exact hB22 _ _ hf
  refine g_aload_n X dX11_behindTest_12 1 rfl ?_
  refine g_ldc2 X dX11_behindTest_13 wd7_100 ?_
  refine m_bind hf (fun q6 hq6 hf => ?_)
  refine m_callV_i (As := [.long (498 : Int64)]) (st := []) X kV_297 (c_isWord l dC dI E h r S (498 : Int64) q6 hq6) ⟨Nat.le_of_ble_eq_true rfl, Nat.le_of_ble_eq_true rfl⟩ ⟨rfl, rfl⟩ (Nat.le_of_ble_eq_true rfl) ⟨Nat.le_of_ble_eq_true rfl, Nat.le_of_ble_eq_true rfl⟩ dX11_behindTest_16 ?_
  refine g_if_eq (tgt := 76) X dX11_behindTest_19 (by decide) hf (fun hf => ?_) (fun hf => ?_)
  · refine g_aload_n X dX11_behindTest_76 1 rfl ?_
    refine m_bind hf (fun q7 hq7 hf => ?_)
    refine m_callV_i (As := []) (st := []) X kV_346 (c_inner l dC dI E h r F S q7 hq7) ⟨Nat.le_of_ble_eq_true rfl, Nat.le_of_ble_eq_true rfl⟩ ⟨rfl, rfl⟩ (Nat.le_of_ble_eq_true rfl) ⟨Nat.le_of_ble_eq_true rfl, Nat.le_of_ble_eq_true rfl⟩ dX11_behindTest_77 ?_
    refine g_iconst X dX11_behindTest_80 kc_m1 ?_
    refine g_icmp_ne (tgt := 86) X dX11_behindTest_81 (by decide) hf (fun hf => ?_) (fun hf => ?_)
    · refine g_aload_n X dX11_behindTest_86 1 rfl ?_
      refine g_aload_n X dX11_behindTest_87 1 rfl ?_
      refine g_bipush X dX11_behindTest_88 kb_41 ?_
      refine m_bind hf (fun q8 hq8 hf => ?_)
      refine m_callV_i (As := [.int (41 : Int32)]) (st := [.ref h]) X kV_310 (c_isSign l dC dI E h r S (41 : Int32) q8 hq8) ⟨Nat.le_of_ble_eq_true rfl, Nat.le_of_ble_eq_true rfl⟩ ⟨rfl, rfl⟩ (Nat.le_of_ble_eq_true rfl) ⟨Nat.le_of_ble_eq_true rfl, Nat.le_of_ble_eq_true rfl⟩ dX11_behindTest_90 ?_
      refine m_bind hf (fun q9 hq9 hf => ?_)
      refine m_callV_v (As := [.int q8]) (st := []) X kV_272 (c_must l dC dI E h r F S q8 q9 hq9) ⟨Nat.le_of_ble_eq_true rfl, Nat.le_of_ble_eq_true rfl⟩ ⟨rfl, rfl⟩ (Nat.le_of_ble_eq_true rfl) ⟨Nat.le_of_ble_eq_true rfl, Nat.le_of_ble_eq_true rfl⟩ dX11_behindTest_93 ?_
      refine g_aload_n X dX11_behindTest_96 1 rfl ?_
      refine m_get_19 X dX11_behindTest_97 ?_
      refine g_if_ne (tgt := 128) X dX11_behindTest_100 (by decide) hf (fun hf => ?_) (fun hf => ?_)
      · refine g_iconst X dX11_behindTest_128 kc_2 ?_
        exact m_reti_s hA hQ X hr hlk dX11_behindTest_129 hf
      refine g_aload_n X dX11_behindTest_103 1 rfl ?_
      refine g_iconst X dX11_behindTest_104 kc_1 ?_
      refine m_bind hf (fun q10 hq10 hf => ?_)
      refine m_callV_v (As := [.int (1 : Int32)]) (st := []) X kV_343 (c_settle l dC dI E h r F q9.2 (1 : Int32) q10 hq10) ⟨Nat.le_of_ble_eq_true rfl, Nat.le_of_ble_eq_true rfl⟩ ⟨rfl, rfl⟩ (Nat.le_of_ble_eq_true rfl) ⟨Nat.le_of_ble_eq_true rfl, Nat.le_of_ble_eq_true rfl⟩ dX11_behindTest_105 ?_
      refine g_aload_n X dX11_behindTest_108 1 rfl ?_
      refine g_dup X dX11_behindTest_109 rfl ?_
      refine m_get_29 X dX11_behindTest_110 ?_
      refine g_iconst X dX11_behindTest_113 kc_1 ?_
      refine g_isub X dX11_behindTest_114 ?_
      refine m_put_29 X dX11_behindTest_115 hf (fun S11 hf => ?_)
      refine g_aload_n X dX11_behindTest_118 1 rfl ?_
      refine g_dup X dX11_behindTest_119 rfl ?_
      refine m_get_30 X dX11_behindTest_120 ?_
      refine g_iconst X dX11_behindTest_123 kc_1 ?_
      refine g_isub X dX11_behindTest_124 ?_
      refine m_put_30 X dX11_behindTest_125 hf (fun S12 hf => ?_)
      refine g_iconst X dX11_behindTest_128 kc_2 ?_
      exact m_reti_s hA hQ X hr hlk dX11_behindTest_129 hf
    refine g_iconst X dX11_behindTest_84 kc_4 ?_
    exact m_reti_s hA hQ X hr hlk dX11_behindTest_85 hf
  refine g_lv [1, 0] (lv' := [(0, .ref h), (1, .int q5)]) rfl ?_
  exact hB22 _ _ hf
def rm_readExpression : Room := { frames := 6, cells := 0, slots := 0, locals := 129 }
set_option maxRecDepth 100000 in
set_option maxHeartbeats 4000000 in
theorem c_readExpression (l : Launch) (dC : Nat → ClassId) (dI : Nat → Nat → Nat) (E : Nat → ClassId) (h : Nat) (r : Nat → Nat) (F : Nat) (S : MS) (x1 : Int32) (res : Unit × MS) (hf : M_readExpression F S x1 = some res) : MC l dC dI E yX11_readExpression cX11_readExpression 3 none rm_readExpression [.ref h, .int x1] (MW E h r S) (MW E h r res.2) none := by
  refine MC_of (own := "LostLanesModel") (by decide) rfl (Nat.le_of_ble_eq_true rfl) ?_
  intro p e s m args below meth c A Q X hr hlk hA hQ
  have hB76 : ∀ (S : MS), M_readExpression_B76 F S = some res → GG p l e rm_readExpression s m args below meth c dC dI A 3 0 0 Q (MW E h r S) 76 [(0, .ref h)] [] := by
    intro S hf
    unfold M_readExpression_B76 at hf
    refine g_aload_n X dX11_readExpression_76 0 rfl ?_
    refine g_iconst X dX11_readExpression_77 kc_1 ?_
    refine m_bind hf (fun q1 hq1 hf => ?_)
    refine m_callV_v (As := [.int (1 : Int32)]) (st := []) X kV_343 (c_settle l dC dI E h r F S (1 : Int32) q1 hq1) ⟨Nat.le_of_ble_eq_true rfl, Nat.le_of_ble_eq_true rfl⟩ ⟨rfl, rfl⟩ (Nat.le_of_ble_eq_true rfl) ⟨Nat.le_of_ble_eq_true rfl, Nat.le_of_ble_eq_true rfl⟩ dX11_readExpression_78 ?_
    exact m_retv_s hA hQ X hr hlk dX11_readExpression_81 hf
  have hB72 : ∀ (x1 : Int32) (k20 : MS → Int32 → Option (Unit × MS)) (hk20 : ∀ (S : MS) (x2 : Int32), k20 S x2 = some res → GG p l e rm_readExpression s m args below meth c dC dI A 3 0 0 Q (MW E h r S) 20 [(0, .ref h), (1, .int x1), (2, .int x2)] []) (S : MS) (t0 : Int32), M_readExpression_B72 F k20 S x1 t0 = some res → GG p l e rm_readExpression s m args below meth c dC dI A 3 0 0 Q (MW E h r S) 72 [(0, .ref h), (1, .int x1)] [.int t0] := by
    intro x1 k20 hk20 S t0 hf
    unfold M_readExpression_B72 at hf
    refine g_istore_n (i := 2) (lv' := [(2, .int t0), (0, .ref h), (1, .int x1)]) X dX11_readExpression_72 rfl (by decide) rfl ?_
    refine g_goto (tgt := 20) X dX11_readExpression_73 (by decide) ?_
    refine g_lv [1, 2, 0] (lv' := [(0, .ref h), (1, .int x1), (2, .int t0)]) rfl ?_
    exact hk20 _ _ hf
  have hL20 : ∀ (x1 : Int32) (n : Nat) (S : MS) (x2 : Int32), M_readExpression_L20 F x1 n S x2 = some res → GG p l e rm_readExpression s m args below meth c dC dI A 3 0 0 Q (MW E h r S) 20 [(0, .ref h), (1, .int x1), (2, .int x2)] [] := by
    intro x1 n
    induction n with
    | zero => intro S x2 hf; have hf : (none : Option (Unit × MS)) = some res := hf; cases hf
    | succ n ih =>
      intro S x2 hf
      rw [M_readExpression_L20] at hf
      refine g_aload_n X dX11_readExpression_20 0 rfl ?_
      refine m_get_19 X dX11_readExpression_21 ?_
      refine g_if_ne (tgt := 76) X dX11_readExpression_24 (by decide) hf (fun hf => ?_) (fun hf => ?_)
      · refine g_lv [0] (lv' := [(0, .ref h)]) rfl ?_
        exact hB76 _ hf
      refine g_iload_n X dX11_readExpression_27 2 rfl ?_
      refine g_iconst X dX11_readExpression_28 kc_4 ?_
      refine g_icmp_eq (tgt := 76) X dX11_readExpression_29 (by decide) hf (fun hf => ?_) (fun hf => ?_)
      · refine g_lv [0] (lv' := [(0, .ref h)]) rfl ?_
        exact hB76 _ hf
      refine g_iload_n X dX11_readExpression_32 2 rfl ?_
      refine g_if_ne (tgt := 43) X dX11_readExpression_33 (by decide) hf (fun hf => ?_) (fun hf => ?_)
      · refine g_iload_n X dX11_readExpression_43 2 rfl ?_
        refine g_iconst X dX11_readExpression_44 kc_1 ?_
        refine g_icmp_ne (tgt := 55) X dX11_readExpression_45 (by decide) hf (fun hf => ?_) (fun hf => ?_)
        · refine g_iload_n X dX11_readExpression_55 2 rfl ?_
          refine g_iconst X dX11_readExpression_56 kc_3 ?_
          refine g_icmp_ne (tgt := 68) X dX11_readExpression_57 (by decide) hf (fun hf => ?_) (fun hf => ?_)
          · refine g_aload_n X dX11_readExpression_68 0 rfl ?_
            refine m_bind hf (fun q2 hq2 hf => ?_)
            refine m_callV_i (As := []) (st := []) X kV_364 (c_behindTest l dC dI E h r F S q2 hq2) ⟨Nat.le_of_ble_eq_true rfl, Nat.le_of_ble_eq_true rfl⟩ ⟨rfl, rfl⟩ (Nat.le_of_ble_eq_true rfl) ⟨Nat.le_of_ble_eq_true rfl, Nat.le_of_ble_eq_true rfl⟩ dX11_readExpression_69 ?_
            refine g_lv [0, 1] (lv' := [(0, .ref h), (1, .int x1)]) rfl ?_
            exact hB72 _ _ ih _ _ hf
          refine g_aload_n X dX11_readExpression_60 0 rfl ?_
          refine g_iload_n X dX11_readExpression_61 1 rfl ?_
          refine m_bind hf (fun q3 hq3 hf => ?_)
          refine m_callV_i (As := [.int x1]) (st := []) X kV_360 (c_behindSum l dC dI E h r F S x1 q3 hq3) ⟨Nat.le_of_ble_eq_true rfl, Nat.le_of_ble_eq_true rfl⟩ ⟨rfl, rfl⟩ (Nat.le_of_ble_eq_true rfl) ⟨Nat.le_of_ble_eq_true rfl, Nat.le_of_ble_eq_true rfl⟩ dX11_readExpression_62 ?_
          refine g_goto (tgt := 72) X dX11_readExpression_65 (by decide) ?_
          refine g_lv [0, 1] (lv' := [(0, .ref h), (1, .int x1)]) rfl ?_
          exact hB72 _ _ ih _ _ hf
        refine g_aload_n X dX11_readExpression_48 0 rfl ?_
        refine m_bind hf (fun q4 hq4 hf => ?_)
        refine m_callV_i (As := []) (st := []) X kV_340 (c_readPart l dC dI E h r F S q4 hq4) ⟨Nat.le_of_ble_eq_true rfl, Nat.le_of_ble_eq_true rfl⟩ ⟨rfl, rfl⟩ (Nat.le_of_ble_eq_true rfl) ⟨Nat.le_of_ble_eq_true rfl, Nat.le_of_ble_eq_true rfl⟩ dX11_readExpression_49 ?_
        refine g_goto (tgt := 72) X dX11_readExpression_52 (by decide) ?_
        refine g_lv [0, 1] (lv' := [(0, .ref h), (1, .int x1)]) rfl ?_
        exact hB72 _ _ ih _ _ hf
      refine g_aload_n X dX11_readExpression_36 0 rfl ?_
      refine m_bind hf (fun q5 hq5 hf => ?_)
      refine m_callV_i (As := []) (st := []) X kV_357 (c_readPlain l dC dI E h r F S q5 hq5) ⟨Nat.le_of_ble_eq_true rfl, Nat.le_of_ble_eq_true rfl⟩ ⟨rfl, rfl⟩ (Nat.le_of_ble_eq_true rfl) ⟨Nat.le_of_ble_eq_true rfl, Nat.le_of_ble_eq_true rfl⟩ dX11_readExpression_37 ?_
      refine g_goto (tgt := 72) X dX11_readExpression_40 (by decide) ?_
      refine g_lv [0, 1] (lv' := [(0, .ref h), (1, .int x1)]) rfl ?_
      exact hB72 _ _ ih _ _ hf
  have hB19 : ∀ (S : MS) (x1 : Int32) (t0 : Int32), M_readExpression_B19 F S x1 t0 = some res → GG p l e rm_readExpression s m args below meth c dC dI A 3 0 0 Q (MW E h r S) 19 [(0, .ref h), (1, .int x1)] [.int t0] := by
    intro S x1 t0 hf
    unfold M_readExpression_B19 at hf
    refine g_istore_n (i := 2) (lv' := [(2, .int t0), (0, .ref h), (1, .int x1)]) X dX11_readExpression_19 rfl (by decide) rfl ?_
    refine g_lv [1, 2, 0] (lv' := [(0, .ref h), (1, .int x1), (2, .int t0)]) rfl ?_
    exact hL20 _ _ _ _ hf
  refine g_lv [0, 1] (lv' := [(0, .ref h), (1, .int x1)]) rfl ?_
  unfold M_readExpression at hf
  refine g_aload_n X dX11_readExpression_0 0 rfl ?_
  refine g_iconst X dX11_readExpression_1 kc_0 ?_
  refine m_put_29 X dX11_readExpression_2 hf (fun S6 hf => ?_)
  refine g_aload_n X dX11_readExpression_5 0 rfl ?_
  refine g_iconst X dX11_readExpression_6 kc_0 ?_
  refine m_put_30 X dX11_readExpression_7 hf (fun S7 hf => ?_)
  refine g_iload_n X dX11_readExpression_10 1 rfl ?_
  refine g_if_eq (tgt := 18) X dX11_readExpression_11 (by decide) hf (fun hf => ?_) (fun hf => ?_)
  · refine g_iconst X dX11_readExpression_18 kc_1 ?_
    exact hB19 _ _ _ hf
  refine g_iconst X dX11_readExpression_14 kc_0 ?_
  refine g_goto (tgt := 19) X dX11_readExpression_15 (by decide) ?_
  exact hB19 _ _ _ hf
def rm_beginText : Room := { frames := 3, cells := 0, slots := 0, locals := 60 }
set_option maxRecDepth 100000 in
set_option maxHeartbeats 4000000 in
theorem c_beginText (l : Launch) (dC : Nat → ClassId) (dI : Nat → Nat → Nat) (E : Nat → ClassId) (h : Nat) (r : Nat → Nat) (F : Nat) (S : MS) (x1 : Int32) (res : Unit × MS) (hf : M_beginText F S x1 = some res) : MC l dC dI E yX11_beginText cX11_beginText 2 none rm_beginText [.ref h, .int x1] (MW E h r S) (MW E h r res.2) none := by
  refine MC_of (own := "LostLanesModel") (by decide) rfl (Nat.le_of_ble_eq_true rfl) ?_
  intro p e s m args below meth c A Q X hr hlk hA hQ
  refine g_lv [0, 1] (lv' := [(0, .ref h), (1, .int x1)]) rfl ?_
  unfold M_beginText at hf
  refine g_aload_n X dX11_beginText_0 0 rfl ?_
  refine g_iload_n X dX11_beginText_1 1 rfl ?_
  obtain ⟨hz2, hf⟩ := chk_some hf
  refine m_put_20 X hz2 dX11_beginText_2 hf (fun S1 hf => ?_)
  refine g_aload_n X dX11_beginText_5 0 rfl ?_
  refine m_bind hf (fun q2 hq2 hf => ?_)
  refine m_callV_v (As := []) (st := []) X kV_367 (c_begin l dC dI E h r F S1 q2 hq2) ⟨Nat.le_of_ble_eq_true rfl, Nat.le_of_ble_eq_true rfl⟩ ⟨rfl, rfl⟩ (Nat.le_of_ble_eq_true rfl) ⟨Nat.le_of_ble_eq_true rfl, Nat.le_of_ble_eq_true rfl⟩ dX11_beginText_6 ?_
  refine g_aload_n X dX11_beginText_9 0 rfl ?_
  refine g_iconst X dX11_beginText_10 kc_0 ?_
  refine m_put_21 X dX11_beginText_11 hf (fun S3 hf => ?_)
  refine g_aload_n X dX11_beginText_14 0 rfl ?_
  refine g_iconst X dX11_beginText_15 kc_0 ?_
  refine m_put_23 X dX11_beginText_16 hf (fun S4 hf => ?_)
  refine g_aload_n X dX11_beginText_19 0 rfl ?_
  refine g_iconst X dX11_beginText_20 kc_0 ?_
  refine m_put_26 X dX11_beginText_21 hf (fun S5 hf => ?_)
  exact m_retv_s hA hQ X hr hlk dX11_beginText_24 hf
def rm_endText : Room := { frames := 3, cells := 0, slots := 0, locals := 61 }
set_option maxRecDepth 100000 in
set_option maxHeartbeats 4000000 in
theorem c_endText (l : Launch) (dC : Nat → ClassId) (dI : Nat → Nat → Nat) (E : Nat → ClassId) (h : Nat) (r : Nat → Nat) (F : Nat) (S : MS)  (res : Unit × MS) (hf : M_endText F S = some res) : MC l dC dI E yX11_endText cX11_endText 1 none rm_endText [.ref h] (MW E h r S) (MW E h r res.2) none := by
  refine MC_of (own := "LostLanesModel") (by decide) rfl (Nat.le_of_ble_eq_true rfl) ?_
  intro p e s m args below meth c A Q X hr hlk hA hQ
  have hB19 : ∀ (S : MS), M_endText_B19 F S = some res → GG p l e rm_endText s m args below meth c dC dI A 1 0 0 Q (MW E h r S) 19 [(0, .ref h)] [] := by
    intro S hf
    unfold M_endText_B19 at hf
    refine g_aload_n X dX11_endText_19 0 rfl ?_
    refine g_iconst X dX11_endText_20 kc_0 ?_
    refine m_put_20 X (Or.inl rfl) dX11_endText_21 hf (fun S1 hf => ?_)
    refine g_aload_n X dX11_endText_24 0 rfl ?_
    refine g_iconst X dX11_endText_25 kc_0 ?_
    refine m_put_13 X dX11_endText_26 hf (fun S2 hf => ?_)
    exact m_retv_s hA hQ X hr hlk dX11_endText_29 hf
  refine g_lv [0] (lv' := [(0, .ref h)]) rfl ?_
  unfold M_endText at hf
  refine g_aload_n X dX11_endText_0 0 rfl ?_
  refine m_get_19 X dX11_endText_1 ?_
  refine g_if_ne (tgt := 19) X dX11_endText_4 (by decide) hf (fun hf => ?_) (fun hf => ?_)
  · exact hB19 _ hf
  refine g_aload_n X dX11_endText_7 0 rfl ?_
  refine m_get_16 X dX11_endText_8 ?_
  refine g_if_eq (tgt := 19) X dX11_endText_11 (by decide) hf (fun hf => ?_) (fun hf => ?_)
  · exact hB19 _ hf
  refine g_aload_n X dX11_endText_14 0 rfl ?_
  refine g_iconst X dX11_endText_15 kc_0 ?_
  refine m_bind hf (fun q3 hq3 hf => ?_)
  refine m_callV_v (As := [.int (0 : Int32)]) (st := []) X kV_272 (c_must l dC dI E h r F S (0 : Int32) q3 hq3) ⟨Nat.le_of_ble_eq_true rfl, Nat.le_of_ble_eq_true rfl⟩ ⟨rfl, rfl⟩ (Nat.le_of_ble_eq_true rfl) ⟨Nat.le_of_ble_eq_true rfl, Nat.le_of_ble_eq_true rfl⟩ dX11_endText_16 ?_
  exact hB19 _ hf
def rm_readLaw : Room := { frames := 7, cells := 0, slots := 0, locals := 151 }
set_option maxRecDepth 100000 in
set_option maxHeartbeats 4000000 in
theorem c_readLaw (l : Launch) (dC : Nat → ClassId) (dI : Nat → Nat → Nat) (E : Nat → ClassId) (h : Nat) (r : Nat → Nat) (F : Nat) (S : MS)  (res : Unit × MS) (hf : M_readLaw F S = some res) : MC l dC dI E yX11_readLaw cX11_readLaw 4 none rm_readLaw [.ref h] (MW E h r S) (MW E h r res.2) none := by
  refine MC_of (own := "LostLanesModel") (by decide) rfl (Nat.le_of_ble_eq_true rfl) ?_
  intro p e s m args below meth c A Q X hr hlk hA hQ
  have hB185 : ∀ (S : MS) (x2 : Int32), M_readLaw_B185 F S x2 = some res → GG p l e rm_readLaw s m args below meth c dC dI A 4 0 0 Q (MW E h r S) 185 [(0, .ref h), (2, .int x2)] [] := by
    intro S x2 hf
    unfold M_readLaw_B185 at hf
    refine g_aload_n X dX11_readLaw_185 0 rfl ?_
    refine m_get_22 X dX11_readLaw_186 ?_
    refine g_iload_n X dX11_readLaw_189 1 rfl ?_
    refine g_bipush X dX11_readLaw_190 kb_6 ?_
    refine g_iadd X dX11_readLaw_192 ?_
    refine g_aload_n X dX11_readLaw_193 0 rfl ?_
    refine m_get_23 X dX11_readLaw_194 ?_
    refine m_ast_22 X dX11_readLaw_197 hf (fun S1 hf => ?_)
    exact m_retv_s hA hQ X hr hlk dX11_readLaw_198 hf
  have hB135 : ∀ (S : MS) (x2 : Int32), M_readLaw_B135 F S x2 = some res → GG p l e rm_readLaw s m args below meth c dC dI A 4 0 0 Q (MW E h r S) 135 [(0, .ref h), (2, .int x2)] [] := by
    intro S x2 hf
    unfold M_readLaw_B135 at hf
    refine g_aload_n X dX11_readLaw_135 0 rfl ?_
    refine m_get_22 X dX11_readLaw_136 ?_
    refine g_iload_n X dX11_readLaw_139 1 rfl ?_
    refine g_iconst X dX11_readLaw_140 kc_4 ?_
    refine g_iadd X dX11_readLaw_141 ?_
    refine g_aload_n X dX11_readLaw_142 0 rfl ?_
    refine m_get_23 X dX11_readLaw_143 ?_
    refine m_ast_22 X dX11_readLaw_146 hf (fun S2 hf => ?_)
    refine g_aload_n X dX11_readLaw_147 0 rfl ?_
    refine m_get_22 X dX11_readLaw_148 ?_
    refine g_iload_n X dX11_readLaw_151 1 rfl ?_
    refine g_iconst X dX11_readLaw_152 kc_5 ?_
    refine g_iadd X dX11_readLaw_153 ?_
    refine g_aload_n X dX11_readLaw_154 0 rfl ?_
    refine m_get_23 X dX11_readLaw_155 ?_
    refine m_ast_22 X dX11_readLaw_158 hf (fun S3 hf => ?_)
    refine g_aload_n X dX11_readLaw_159 0 rfl ?_
    refine m_get_19 X dX11_readLaw_160 ?_
    refine g_if_ne (tgt := 185) X dX11_readLaw_163 (by decide) hf (fun hf => ?_) (fun hf => ?_)
    · exact hB185 _ _ hf
    refine g_aload_n X dX11_readLaw_166 0 rfl ?_
    refine g_ldc2 X dX11_readLaw_167 wd7_101 ?_
    refine m_bind hf (fun q4 hq4 hf => ?_)
    refine m_callV_i (As := [.long (294 : Int64)]) (st := []) X kV_297 (c_isWord l dC dI E h r S3 (294 : Int64) q4 hq4) ⟨Nat.le_of_ble_eq_true rfl, Nat.le_of_ble_eq_true rfl⟩ ⟨rfl, rfl⟩ (Nat.le_of_ble_eq_true rfl) ⟨Nat.le_of_ble_eq_true rfl, Nat.le_of_ble_eq_true rfl⟩ dX11_readLaw_170 ?_
    refine g_if_eq (tgt := 185) X dX11_readLaw_173 (by decide) hf (fun hf => ?_) (fun hf => ?_)
    · exact hB185 _ _ hf
    refine g_aload_n X dX11_readLaw_176 0 rfl ?_
    refine m_bind hf (fun q5 hq5 hf => ?_)
    refine m_callV_v (As := []) (st := []) X kV_243 (c_next l dC dI E h r F S3 q5 hq5) ⟨Nat.le_of_ble_eq_true rfl, Nat.le_of_ble_eq_true rfl⟩ ⟨rfl, rfl⟩ (Nat.le_of_ble_eq_true rfl) ⟨Nat.le_of_ble_eq_true rfl, Nat.le_of_ble_eq_true rfl⟩ dX11_readLaw_177 ?_
    refine g_aload_n X dX11_readLaw_180 0 rfl ?_
    refine g_iconst X dX11_readLaw_181 kc_1 ?_
    refine m_bind hf (fun q6 hq6 hf => ?_)
    refine m_callV_v (As := [.int (1 : Int32)]) (st := []) X kV_373 (c_readExpression l dC dI E h r F q5.2 (1 : Int32) q6 hq6) ⟨Nat.le_of_ble_eq_true rfl, Nat.le_of_ble_eq_true rfl⟩ ⟨rfl, rfl⟩ (Nat.le_of_ble_eq_true rfl) ⟨Nat.le_of_ble_eq_true rfl, Nat.le_of_ble_eq_true rfl⟩ dX11_readLaw_182 ?_
    exact hB185 _ _ hf
  have hL75 : ∀ (x1 : Int32) (x2 : Int32) (n : Nat) (S : MS) (x3 : Int32), M_readLaw_L75 F x1 x2 n S x3 = some res → GG p l e rm_readLaw s m args below meth c dC dI A 4 0 0 Q (MW E h r S) 75 [(0, .ref h), (1, .int x1), (2, .int x2), (3, .int x3)] [] := by
    intro x1 x2 n
    induction n with
    | zero => intro S x3 hf; have hf : (none : Option (Unit × MS)) = some res := hf; cases hf
    | succ n ih =>
      intro S x3 hf
      rw [M_readLaw_L75] at hf
      refine g_iload_n X dX11_readLaw_75 3 rfl ?_
      refine g_bipush X dX11_readLaw_76 kb_8 ?_
      refine g_icmp_ge (tgt := 96) X dX11_readLaw_78 (by decide) hf (fun hf => ?_) (fun hf => ?_)
      · refine g_aload_n X dX11_readLaw_96 0 rfl ?_
        refine m_get_22 X dX11_readLaw_97 ?_
        refine g_iload_n X dX11_readLaw_100 2 rfl ?_
        refine g_iload_n X dX11_readLaw_101 1 rfl ?_
        refine m_ast_22 X dX11_readLaw_102 hf (fun S7 hf => ?_)
        refine g_aload_n X dX11_readLaw_103 0 rfl ?_
        refine g_dup X dX11_readLaw_104 rfl ?_
        refine m_get_21 X dX11_readLaw_105 ?_
        refine g_iconst X dX11_readLaw_108 kc_1 ?_
        refine g_iadd X dX11_readLaw_109 ?_
        refine m_put_21 X dX11_readLaw_110 hf (fun S8 hf => ?_)
        refine g_aload_n X dX11_readLaw_113 0 rfl ?_
        refine m_get_22 X dX11_readLaw_114 ?_
        refine g_iload_n X dX11_readLaw_117 2 rfl ?_
        refine g_iconst X dX11_readLaw_118 kc_3 ?_
        refine g_iadd X dX11_readLaw_119 ?_
        refine g_aload_n X dX11_readLaw_120 0 rfl ?_
        refine m_get_23 X dX11_readLaw_121 ?_
        refine m_ast_22 X dX11_readLaw_124 hf (fun S9 hf => ?_)
        refine g_iload_n X dX11_readLaw_125 1 rfl ?_
        refine g_iconst X dX11_readLaw_126 kc_2 ?_
        refine g_icmp_eq (tgt := 135) X dX11_readLaw_127 (by decide) hf (fun hf => ?_) (fun hf => ?_)
        · refine g_lv [0, 2] (lv' := [(0, .ref h), (2, .int x2)]) rfl ?_
          exact hB135 _ _ hf
        refine g_aload_n X dX11_readLaw_130 0 rfl ?_
        refine g_iconst X dX11_readLaw_131 kc_0 ?_
        refine m_bind hf (fun q10 hq10 hf => ?_)
        refine m_callV_v (As := [.int (0 : Int32)]) (st := []) X kV_373 (c_readExpression l dC dI E h r F S9 (0 : Int32) q10 hq10) ⟨Nat.le_of_ble_eq_true rfl, Nat.le_of_ble_eq_true rfl⟩ ⟨rfl, rfl⟩ (Nat.le_of_ble_eq_true rfl) ⟨Nat.le_of_ble_eq_true rfl, Nat.le_of_ble_eq_true rfl⟩ dX11_readLaw_132 ?_
        refine g_lv [0, 2] (lv' := [(0, .ref h), (2, .int x2)]) rfl ?_
        exact hB135 _ _ hf
      refine g_aload_n X dX11_readLaw_81 0 rfl ?_
      refine m_get_22 X dX11_readLaw_82 ?_
      refine g_iload_n X dX11_readLaw_85 2 rfl ?_
      refine g_iload_n X dX11_readLaw_86 3 rfl ?_
      refine g_iadd X dX11_readLaw_87 ?_
      refine g_iconst X dX11_readLaw_88 kc_0 ?_
      refine m_ast_22 X dX11_readLaw_89 hf (fun S11 hf => ?_)
      refine g_iinc (lv' := [(3, .int (x3 + (1 : Int32))), (0, .ref h), (1, .int x1), (2, .int x2)]) X dX11_readLaw_90 3 rfl kc_1 (by decide) rfl ?_
      refine g_goto (tgt := 75) X dX11_readLaw_93 (by decide) ?_
      refine g_lv [1, 2, 3, 0] (lv' := [(0, .ref h), (1, .int x1), (2, .int x2), (3, .int (x3 + (1 : Int32)))]) rfl ?_
      exact ih _ _ hf
  have hB54 : ∀ (S : MS) (x1 : Int32) (t1 : Int32), M_readLaw_B54 F S x1 t1 = some res → GG p l e rm_readLaw s m args below meth c dC dI A 4 0 0 Q (MW E h r S) 54 [(0, .ref h), (1, .int x1)] [.int t1, .ref h] := by
    intro S x1 t1 hf
    unfold M_readLaw_B54 at hf
    refine m_bind hf (fun q12 hq12 hf => ?_)
    refine m_callV_v (As := [.int t1]) (st := []) X kV_272 (c_must l dC dI E h r F S t1 q12 hq12) ⟨Nat.le_of_ble_eq_true rfl, Nat.le_of_ble_eq_true rfl⟩ ⟨rfl, rfl⟩ (Nat.le_of_ble_eq_true rfl) ⟨Nat.le_of_ble_eq_true rfl, Nat.le_of_ble_eq_true rfl⟩ dX11_readLaw_54 ?_
    refine g_aload_n X dX11_readLaw_57 0 rfl ?_
    refine m_get_19 X dX11_readLaw_58 ?_
    refine g_if_eq (tgt := 65) X dX11_readLaw_61 (by decide) hf (fun hf => ?_) (fun hf => ?_)
    · refine g_bipush X dX11_readLaw_65 kb_8 ?_
      refine g_aload_n X dX11_readLaw_67 0 rfl ?_
      refine m_get_21 X dX11_readLaw_68 ?_
      refine g_imul X dX11_readLaw_71 ?_
      refine g_istore_n (i := 2) (lv' := [(2, .int ((8 : Int32) * (mi q12.2 21))), (0, .ref h), (1, .int x1)]) X dX11_readLaw_72 rfl (by decide) rfl ?_
      refine g_iconst X dX11_readLaw_73 kc_0 ?_
      refine g_istore_n (i := 3) (lv' := [(3, .int (0 : Int32)), (2, .int ((8 : Int32) * (mi q12.2 21))), (0, .ref h), (1, .int x1)]) X dX11_readLaw_74 rfl (by decide) rfl ?_
      refine g_lv [2, 3, 1, 0] (lv' := [(0, .ref h), (1, .int x1), (2, .int ((8 : Int32) * (mi q12.2 21))), (3, .int (0 : Int32))]) rfl ?_
      exact hL75 _ _ _ _ _ hf
    exact m_retv_s hA hQ X hr hlk dX11_readLaw_64 hf
  have hB53 : ∀ (S : MS) (x1 : Int32), M_readLaw_B53 F S x1 = some res → GG p l e rm_readLaw s m args below meth c dC dI A 4 0 0 Q (MW E h r S) 53 [(0, .ref h), (1, .int x1)] [.ref h] := by
    intro S x1 hf
    unfold M_readLaw_B53 at hf
    refine g_iconst X dX11_readLaw_53 kc_0 ?_
    exact hB54 _ _ _ hf
  have hB27 : ∀ (S : MS) (k4 : Int32 → Int32 → Option (Unit × MS)) (hk4 : ∀ (x1 : Int32) (x2 : Int32), k4 x1 x2 = some res → GG p l e rm_readLaw s m args below meth c dC dI A 4 0 0 Q (MW E h r S) 4 [(0, .ref h), (1, .int x1), (2, .int x2)] []) (x2 : Int32) (t0 : Int32), M_readLaw_B27 F k4 S x2 t0 = some res → GG p l e rm_readLaw s m args below meth c dC dI A 4 0 0 Q (MW E h r S) 27 [(0, .ref h), (2, .int x2)] [.int t0] := by
    intro S k4 hk4 x2 t0 hf
    unfold M_readLaw_B27 at hf
    refine g_istore_n (i := 1) (lv' := [(1, .int t0), (0, .ref h), (2, .int x2)]) X dX11_readLaw_27 rfl (by decide) rfl ?_
    refine g_iinc (lv' := [(2, .int (x2 + (1 : Int32))), (1, .int t0), (0, .ref h)]) X dX11_readLaw_28 2 rfl kc_1 (by decide) rfl ?_
    refine g_goto (tgt := 4) X dX11_readLaw_31 (by decide) ?_
    refine g_lv [2, 1, 0] (lv' := [(0, .ref h), (1, .int t0), (2, .int (x2 + (1 : Int32)))]) rfl ?_
    exact hk4 _ _ hf
  have hL4 : ∀ (S : MS) (n : Nat) (x1 : Int32) (x2 : Int32), M_readLaw_L4 F S n x1 x2 = some res → GG p l e rm_readLaw s m args below meth c dC dI A 4 0 0 Q (MW E h r S) 4 [(0, .ref h), (1, .int x1), (2, .int x2)] [] := by
    intro S n
    induction n with
    | zero => intro x1 x2 hf; have hf : (none : Option (Unit × MS)) = some res := hf; cases hf
    | succ n ih =>
      intro x1 x2 hf
      rw [M_readLaw_L4] at hf
      refine g_iload_n X dX11_readLaw_4 2 rfl ?_
      refine g_iconst X dX11_readLaw_5 kc_3 ?_
      refine g_icmp_ge (tgt := 34) X dX11_readLaw_6 (by decide) hf (fun hf => ?_) (fun hf => ?_)
      · refine g_aload_n X dX11_readLaw_34 0 rfl ?_
        refine g_iload_n X dX11_readLaw_35 1 rfl ?_
        refine g_iconst X dX11_readLaw_36 kc_m1 ?_
        refine g_icmp_eq (tgt := 53) X dX11_readLaw_37 (by decide) hf (fun hf => ?_) (fun hf => ?_)
        · refine g_lv [0, 1] (lv' := [(0, .ref h), (1, .int x1)]) rfl ?_
          exact hB53 _ _ hf
        refine g_aload_n X dX11_readLaw_40 0 rfl ?_
        refine m_get_21 X dX11_readLaw_41 ?_
        refine g_bipush X dX11_readLaw_44 kb_12 ?_
        refine g_icmp_ge (tgt := 53) X dX11_readLaw_46 (by decide) hf (fun hf => ?_) (fun hf => ?_)
        · refine g_lv [0, 1] (lv' := [(0, .ref h), (1, .int x1)]) rfl ?_
          exact hB53 _ _ hf
        refine g_iconst X dX11_readLaw_49 kc_1 ?_
        refine g_goto (tgt := 54) X dX11_readLaw_50 (by decide) ?_
        refine g_lv [0, 1] (lv' := [(0, .ref h), (1, .int x1)]) rfl ?_
        exact hB54 _ _ _ hf
      refine g_aload_n X dX11_readLaw_9 0 rfl ?_
      refine g_aload_n X dX11_readLaw_10 0 rfl ?_
      refine m_get_33 X dX11_readLaw_11 ?_
      refine g_iload_n X dX11_readLaw_14 2 rfl ?_
      refine m_ald_33 X dX11_readLaw_15 hf (fun hf => ?_)
      refine m_bind hf (fun q13 hq13 hf => ?_)
      refine m_callV_i (As := [.long (mb S 33 (x2).toNatClampNeg)]) (st := []) X kV_297 (c_isWord l dC dI E h r S (mb S 33 (x2).toNatClampNeg) q13 hq13) ⟨Nat.le_of_ble_eq_true rfl, Nat.le_of_ble_eq_true rfl⟩ ⟨rfl, rfl⟩ (Nat.le_of_ble_eq_true rfl) ⟨Nat.le_of_ble_eq_true rfl, Nat.le_of_ble_eq_true rfl⟩ dX11_readLaw_16 ?_
      refine g_if_eq (tgt := 26) X dX11_readLaw_19 (by decide) hf (fun hf => ?_) (fun hf => ?_)
      · refine g_iload_n X dX11_readLaw_26 1 rfl ?_
        refine g_lv [0, 2] (lv' := [(0, .ref h), (2, .int x2)]) rfl ?_
        exact hB27 _ _ ih _ _ hf
      refine g_iload_n X dX11_readLaw_22 2 rfl ?_
      refine g_goto (tgt := 27) X dX11_readLaw_23 (by decide) ?_
      refine g_lv [0, 2] (lv' := [(0, .ref h), (2, .int x2)]) rfl ?_
      exact hB27 _ _ ih _ _ hf
  refine g_lv [0] (lv' := [(0, .ref h)]) rfl ?_
  unfold M_readLaw at hf
  refine g_iconst X dX11_readLaw_0 kc_m1 ?_
  refine g_istore_n (i := 1) (lv' := [(1, .int (-1 : Int32)), (0, .ref h)]) X dX11_readLaw_1 rfl (by decide) rfl ?_
  refine g_iconst X dX11_readLaw_2 kc_0 ?_
  refine g_istore_n (i := 2) (lv' := [(2, .int (0 : Int32)), (1, .int (-1 : Int32)), (0, .ref h)]) X dX11_readLaw_3 rfl (by decide) rfl ?_
  refine g_lv [2, 1, 0] (lv' := [(0, .ref h), (1, .int (-1 : Int32)), (2, .int (0 : Int32))]) rfl ?_
  exact hL4 _ _ _ _ hf
def rm_law : Room := { frames := 8, cells := 0, slots := 0, locals := 174 }
set_option maxRecDepth 100000 in
set_option maxHeartbeats 4000000 in
theorem c_law (l : Launch) (dC : Nat → ClassId) (dI : Nat → Nat → Nat) (E : Nat → ClassId) (h : Nat) (r : Nat → Nat) (F : Nat) (S : MS)  (res : Int32 × MS) (hf : M_law F S = some res) : MC l dC dI E yX11_law cX11_law 3 (some .int) rm_law [.ref h] (MW E h r S) (MW E h r res.2) (some (.int res.1)) := by
  refine MC_of (own := "LostLanesModel") (by decide) rfl (Nat.le_of_ble_eq_true rfl) ?_
  intro p e s m args below meth c A Q X hr hlk hA hQ
  have hL145 : ∀ (x1 : Int32) (n : Nat) (S : MS) (x2 : Int32), M_law_L145 F x1 n S x2 = some res → GG p l e rm_law s m args below meth c dC dI A 3 0 0 Q (MW E h r S) 145 [(0, .ref h), (1, .int x1), (2, .int x2)] [] := by
    intro x1 n
    induction n with
    | zero => intro S x2 hf; have hf : (none : Option (Int32 × MS)) = some res := hf; cases hf
    | succ n ih =>
      intro S x2 hf
      rw [M_law_L145] at hf
      refine g_iload_n X dX11_law_145 2 rfl ?_
      refine g_aload_n X dX11_law_146 0 rfl ?_
      refine m_get_23 X dX11_law_147 ?_
      refine g_icmp_ge (tgt := 199) X dX11_law_150 (by decide) hf (fun hf => ?_) (fun hf => ?_)
      · refine g_aload_n X dX11_law_199 0 rfl ?_
        refine m_get_3 X dX11_law_200 ?_
        refine g_iconst X dX11_law_203 kc_3 ?_
        refine g_dup2 X dX11_law_204 rfl rfl ?_
        refine m_aldc_3 X kt_3 kx_3_5476 dX11_law_205 ?_
        refine g_iconst X dX11_law_206 kc_1 ?_
        refine g_iadd X dX11_law_207 ?_
        refine m_astc_3 X kt_3 kx_3_5476 dX11_law_208 hf (fun S1 hf => ?_)
        refine g_aload_n X dX11_law_209 0 rfl ?_
        refine g_aload_n X dX11_law_210 0 rfl ?_
        refine m_get_3 X dX11_law_211 ?_
        refine g_iconst X dX11_law_214 kc_3 ?_
        refine m_aldc_3 X kt_3 kx_3_5476 dX11_law_215 ?_
        refine g_iconst X dX11_law_216 kc_1 ?_
        refine g_isub X dX11_law_217 ?_
        refine m_bind hf (fun q2 hq2 hf => ?_)
        refine m_callV_i (As := [.int ((ma S1 3 3) - (1 : Int32))]) (st := []) X kV_168 (c_tell l dC dI E h r S1 ((ma S1 3 3) - (1 : Int32)) q2 hq2) ⟨Nat.le_of_ble_eq_true rfl, Nat.le_of_ble_eq_true rfl⟩ ⟨rfl, rfl⟩ (Nat.le_of_ble_eq_true rfl) ⟨Nat.le_of_ble_eq_true rfl, Nat.le_of_ble_eq_true rfl⟩ dX11_law_218 ?_
        exact m_reti_s hA hQ X hr hlk dX11_law_221 hf
      refine g_aload_n X dX11_law_153 0 rfl ?_
      refine m_get_3 X dX11_law_154 ?_
      refine g_iload_n X dX11_law_157 1 rfl ?_
      refine g_bipush X dX11_law_158 kb_98 ?_
      refine g_iadd X dX11_law_160 ?_
      refine g_iconst X dX11_law_161 kc_2 ?_
      refine g_iload_n X dX11_law_162 2 rfl ?_
      refine g_imul X dX11_law_163 ?_
      refine g_iadd X dX11_law_164 ?_
      refine g_aload_n X dX11_law_165 0 rfl ?_
      refine m_get_24 X dX11_law_166 ?_
      refine g_iload_n X dX11_law_169 2 rfl ?_
      refine m_ald_24 X dX11_law_170 hf (fun hf => ?_)
      refine m_ast_3 X dX11_law_171 hf (fun S3 hf => ?_)
      refine g_aload_n X dX11_law_172 0 rfl ?_
      refine m_get_3 X dX11_law_173 ?_
      refine g_iload_n X dX11_law_176 1 rfl ?_
      refine g_bipush X dX11_law_177 kb_98 ?_
      refine g_iadd X dX11_law_179 ?_
      refine g_iconst X dX11_law_180 kc_2 ?_
      refine g_iload_n X dX11_law_181 2 rfl ?_
      refine g_imul X dX11_law_182 ?_
      refine g_iadd X dX11_law_183 ?_
      refine g_iconst X dX11_law_184 kc_1 ?_
      refine g_iadd X dX11_law_185 ?_
      refine g_aload_n X dX11_law_186 0 rfl ?_
      refine m_get_25 X dX11_law_187 ?_
      refine g_iload_n X dX11_law_190 2 rfl ?_
      refine m_ald_25 X dX11_law_191 hf (fun hf => ?_)
      refine m_ast_3 X dX11_law_192 hf (fun S4 hf => ?_)
      refine g_iinc (lv' := [(2, .int (x2 + (1 : Int32))), (0, .ref h), (1, .int x1)]) X dX11_law_193 2 rfl kc_1 (by decide) rfl ?_
      refine g_goto (tgt := 145) X dX11_law_196 (by decide) ?_
      refine g_lv [1, 2, 0] (lv' := [(0, .ref h), (1, .int x1), (2, .int (x2 + (1 : Int32)))]) rfl ?_
      exact ih _ _ hf
  have hL110 : ∀ (x1 : Int32) (n : Nat) (S : MS) (x2 : Int32), M_law_L110 F x1 n S x2 = some res → GG p l e rm_law s m args below meth c dC dI A 3 0 0 Q (MW E h r S) 110 [(0, .ref h), (1, .int x1), (2, .int x2)] [] := by
    intro x1 n
    induction n with
    | zero => intro S x2 hf; have hf : (none : Option (Int32 × MS)) = some res := hf; cases hf
    | succ n ih =>
      intro S x2 hf
      rw [M_law_L110] at hf
      refine g_iload_n X dX11_law_110 2 rfl ?_
      refine g_bipush X dX11_law_111 kb_8 ?_
      refine g_aload_n X dX11_law_113 0 rfl ?_
      refine m_get_21 X dX11_law_114 ?_
      refine g_imul X dX11_law_117 ?_
      refine g_icmp_ge (tgt := 143) X dX11_law_118 (by decide) hf (fun hf => ?_) (fun hf => ?_)
      · refine g_iconst X dX11_law_143 kc_0 ?_
        refine g_istore_n (i := 2) (lv' := [(2, .int (0 : Int32)), (0, .ref h), (1, .int x1)]) X dX11_law_144 rfl (by decide) rfl ?_
        refine g_lv [1, 2, 0] (lv' := [(0, .ref h), (1, .int x1), (2, .int (0 : Int32))]) rfl ?_
        exact hL145 _ _ _ _ hf
      refine g_aload_n X dX11_law_121 0 rfl ?_
      refine m_get_3 X dX11_law_122 ?_
      refine g_iload_n X dX11_law_125 1 rfl ?_
      refine g_iconst X dX11_law_126 kc_2 ?_
      refine g_iadd X dX11_law_127 ?_
      refine g_iload_n X dX11_law_128 2 rfl ?_
      refine g_iadd X dX11_law_129 ?_
      refine g_aload_n X dX11_law_130 0 rfl ?_
      refine m_get_22 X dX11_law_131 ?_
      refine g_iload_n X dX11_law_134 2 rfl ?_
      refine m_ald_22 X dX11_law_135 hf (fun hf => ?_)
      refine m_ast_3 X dX11_law_136 hf (fun S5 hf => ?_)
      refine g_iinc (lv' := [(2, .int (x2 + (1 : Int32))), (0, .ref h), (1, .int x1)]) X dX11_law_137 2 rfl kc_1 (by decide) rfl ?_
      refine g_goto (tgt := 110) X dX11_law_140 (by decide) ?_
      refine g_lv [1, 2, 0] (lv' := [(0, .ref h), (1, .int x1), (2, .int (x2 + (1 : Int32)))]) rfl ?_
      exact ih _ _ hf
  have hB64 : ∀ (S : MS), M_law_B64 F S = some res → GG p l e rm_law s m args below meth c dC dI A 3 0 0 Q (MW E h r S) 64 [(0, .ref h)] [] := by
    intro S hf
    unfold M_law_B64 at hf
    refine g_aload_n X dX11_law_64 0 rfl ?_
    refine m_bind hf (fun q6 hq6 hf => ?_)
    refine m_callV_v (As := []) (st := []) X kV_384 (c_endText l dC dI E h r F S q6 hq6) ⟨Nat.le_of_ble_eq_true rfl, Nat.le_of_ble_eq_true rfl⟩ ⟨rfl, rfl⟩ (Nat.le_of_ble_eq_true rfl) ⟨Nat.le_of_ble_eq_true rfl, Nat.le_of_ble_eq_true rfl⟩ dX11_law_65 ?_
    refine g_aload_n X dX11_law_68 0 rfl ?_
    refine m_get_19 X dX11_law_69 ?_
    refine g_if_eq (tgt := 82) X dX11_law_72 (by decide) hf (fun hf => ?_) (fun hf => ?_)
    · refine g_bipush X dX11_law_82 kb_76 ?_
      refine g_sipush X dX11_law_84 ks_900 ?_
      refine g_aload_n X dX11_law_87 0 rfl ?_
      refine m_get_3 X dX11_law_88 ?_
      refine g_iconst X dX11_law_91 kc_3 ?_
      refine m_aldc_3 X kt_3 kx_3_5476 dX11_law_92 ?_
      refine g_imul X dX11_law_93 ?_
      refine g_iadd X dX11_law_94 ?_
      refine g_istore_n (i := 1) (lv' := [(1, .int ((76 : Int32) + ((900 : Int32) * (ma q6.2 3 3)))), (0, .ref h)]) X dX11_law_95 rfl (by decide) rfl ?_
      refine g_aload_n X dX11_law_96 1 rfl ?_
      refine m_get_3 X dX11_law_97 ?_
      refine g_iload_n X dX11_law_100 0 rfl ?_
      refine g_iconst X dX11_law_101 kc_1 ?_
      refine g_iadd X dX11_law_102 ?_
      refine g_aload_n X dX11_law_103 1 rfl ?_
      refine m_get_21 X dX11_law_104 ?_
      refine m_ast_3 X dX11_law_107 hf (fun S7 hf => ?_)
      refine g_iconst X dX11_law_108 kc_0 ?_
      refine g_istore_n (i := 2) (lv' := [(2, .int (0 : Int32)), (1, .int ((76 : Int32) + ((900 : Int32) * (ma q6.2 3 3)))), (0, .ref h)]) X dX11_law_109 rfl (by decide) rfl ?_
      refine g_lv [2, 1, 0] (lv' := [(0, .ref h), (1, .int ((76 : Int32) + ((900 : Int32) * (ma q6.2 3 3)))), (2, .int (0 : Int32))]) rfl ?_
      exact hL110 _ _ _ _ hf
    refine g_aload_n X dX11_law_75 0 rfl ?_
    refine g_bipush X dX11_law_76 kb_m6 ?_
    refine m_bind hf (fun q8 hq8 hf => ?_)
    refine m_callV_i (As := [.int (-6 : Int32)]) (st := []) X kV_168 (c_tell l dC dI E h r q6.2 (-6 : Int32) q8 hq8) ⟨Nat.le_of_ble_eq_true rfl, Nat.le_of_ble_eq_true rfl⟩ ⟨rfl, rfl⟩ (Nat.le_of_ble_eq_true rfl) ⟨Nat.le_of_ble_eq_true rfl, Nat.le_of_ble_eq_true rfl⟩ dX11_law_78 ?_
    exact m_reti_s hA hQ X hr hlk dX11_law_81 hf
  have hL37 : ∀  (n : Nat) (S : MS), M_law_L37 F n S = some res → GG p l e rm_law s m args below meth c dC dI A 3 0 0 Q (MW E h r S) 37 [(0, .ref h)] [] := by
    intro  n
    induction n with
    | zero => intro S hf; have hf : (none : Option (Int32 × MS)) = some res := hf; cases hf
    | succ n ih =>
      intro S hf
      rw [M_law_L37] at hf
      refine g_aload_n X dX11_law_37 0 rfl ?_
      refine m_get_19 X dX11_law_38 ?_
      refine g_if_ne (tgt := 64) X dX11_law_41 (by decide) hf (fun hf => ?_) (fun hf => ?_)
      · exact hB64 _ hf
      refine g_aload_n X dX11_law_44 0 rfl ?_
      refine g_bipush X dX11_law_45 kb_59 ?_
      refine m_bind hf (fun q9 hq9 hf => ?_)
      refine m_callV_i (As := [.int (59 : Int32)]) (st := []) X kV_310 (c_isSign l dC dI E h r S (59 : Int32) q9 hq9) ⟨Nat.le_of_ble_eq_true rfl, Nat.le_of_ble_eq_true rfl⟩ ⟨rfl, rfl⟩ (Nat.le_of_ble_eq_true rfl) ⟨Nat.le_of_ble_eq_true rfl, Nat.le_of_ble_eq_true rfl⟩ dX11_law_47 ?_
      refine g_if_eq (tgt := 64) X dX11_law_50 (by decide) hf (fun hf => ?_) (fun hf => ?_)
      · exact hB64 _ hf
      refine g_aload_n X dX11_law_53 0 rfl ?_
      refine m_bind hf (fun q10 hq10 hf => ?_)
      refine m_callV_v (As := []) (st := []) X kV_243 (c_next l dC dI E h r F S q10 hq10) ⟨Nat.le_of_ble_eq_true rfl, Nat.le_of_ble_eq_true rfl⟩ ⟨rfl, rfl⟩ (Nat.le_of_ble_eq_true rfl) ⟨Nat.le_of_ble_eq_true rfl, Nat.le_of_ble_eq_true rfl⟩ dX11_law_54 ?_
      refine g_aload_n X dX11_law_57 0 rfl ?_
      refine m_bind hf (fun q11 hq11 hf => ?_)
      refine m_callV_v (As := []) (st := []) X kV_381 (c_readLaw l dC dI E h r F q10.2 q11 hq11) ⟨Nat.le_of_ble_eq_true rfl, Nat.le_of_ble_eq_true rfl⟩ ⟨rfl, rfl⟩ (Nat.le_of_ble_eq_true rfl) ⟨Nat.le_of_ble_eq_true rfl, Nat.le_of_ble_eq_true rfl⟩ dX11_law_58 ?_
      refine g_goto (tgt := 37) X dX11_law_61 (by decide) ?_
      exact ih _ hf
  refine g_lv [0] (lv' := [(0, .ref h)]) rfl ?_
  unfold M_law at hf
  refine g_aload_n X dX11_law_0 0 rfl ?_
  refine g_iconst X dX11_law_1 kc_0 ?_
  refine m_put_0 X dX11_law_2 hf (fun S12 hf => ?_)
  refine g_aload_n X dX11_law_5 0 rfl ?_
  refine m_get_3 X dX11_law_6 ?_
  refine g_iconst X dX11_law_9 kc_3 ?_
  refine m_aldc_3 X kt_3 kx_3_5476 dX11_law_10 ?_
  refine g_bipush X dX11_law_11 kb_6 ?_
  refine g_icmp_ne (tgt := 28) X dX11_law_13 (by decide) hf (fun hf => ?_) (fun hf => ?_)
  · refine g_aload_n X dX11_law_28 0 rfl ?_
    refine g_iconst X dX11_law_29 kc_0 ?_
    refine m_bind hf (fun q13 hq13 hf => ?_)
    refine m_callV_v (As := [.int (0 : Int32)]) (st := []) X kV_378 (c_beginText l dC dI E h r F S12 (0 : Int32) q13 hq13) ⟨Nat.le_of_ble_eq_true rfl, Nat.le_of_ble_eq_true rfl⟩ ⟨rfl, rfl⟩ (Nat.le_of_ble_eq_true rfl) ⟨Nat.le_of_ble_eq_true rfl, Nat.le_of_ble_eq_true rfl⟩ dX11_law_30 ?_
    refine g_aload_n X dX11_law_33 0 rfl ?_
    refine m_bind hf (fun q14 hq14 hf => ?_)
    refine m_callV_v (As := []) (st := []) X kV_381 (c_readLaw l dC dI E h r F q13.2 q14 hq14) ⟨Nat.le_of_ble_eq_true rfl, Nat.le_of_ble_eq_true rfl⟩ ⟨rfl, rfl⟩ (Nat.le_of_ble_eq_true rfl) ⟨Nat.le_of_ble_eq_true rfl, Nat.le_of_ble_eq_true rfl⟩ dX11_law_34 ?_
    exact hL37 _ _ hf
  refine g_aload_n X dX11_law_16 0 rfl ?_
  refine g_iconst X dX11_law_17 kc_0 ?_
  refine m_put_13 X dX11_law_18 hf (fun S15 hf => ?_)
  refine g_aload_n X dX11_law_21 0 rfl ?_
  refine g_bipush X dX11_law_22 kb_m5 ?_
  refine m_bind hf (fun q16 hq16 hf => ?_)
  refine m_callV_i (As := [.int (-5 : Int32)]) (st := []) X kV_168 (c_tell l dC dI E h r S15 (-5 : Int32) q16 hq16) ⟨Nat.le_of_ble_eq_true rfl, Nat.le_of_ble_eq_true rfl⟩ ⟨rfl, rfl⟩ (Nat.le_of_ble_eq_true rfl) ⟨Nat.le_of_ble_eq_true rfl, Nat.le_of_ble_eq_true rfl⟩ dX11_law_24 ?_
  exact m_reti_s hA hQ X hr hlk dX11_law_27 hf
def rm_isLaw : Room := { frames := 1, cells := 0, slots := 0, locals := 25 }
set_option maxRecDepth 100000 in
set_option maxHeartbeats 4000000 in
theorem c_isLaw (l : Launch) (dC : Nat → ClassId) (dI : Nat → Nat → Nat) (E : Nat → ClassId) (h : Nat) (r : Nat → Nat) (S : MS) (x1 : Int32) (res : Int32) (hf : M_isLaw S x1 = some res) : MC l dC dI E yX11_isLaw cX11_isLaw 2 (some .boolean) rm_isLaw [.ref h, .int x1] (MW E h r S) (MW E h r S) (some (.int res)) := by
  refine MC_of (own := "LostLanesModel") (by decide) rfl (Nat.le_of_ble_eq_true rfl) ?_
  intro p e s m args below meth c A Q X hr hlk hA hQ
  have hB23 : M_isLaw_B23 S  = some res → GG p l e rm_isLaw s m args below meth c dC dI A 2 0 0 Q (MW E h r S) 23 [] [] := by
    intro  hf
    unfold M_isLaw_B23 at hf
    refine g_iconst X dX11_isLaw_23 kc_1 ?_
    refine g_goto (tgt := 28) X dX11_isLaw_24 (by decide) ?_
    exact m_retz_o hA hQ X hr hlk (Or.inr rfl) dX11_isLaw_28 hf
  refine g_lv [0, 1] (lv' := [(0, .ref h), (1, .int x1)]) rfl ?_
  unfold M_isLaw at hf
  refine g_iload_n X dX11_isLaw_0 1 rfl ?_
  refine g_iconst X dX11_isLaw_1 kc_m1 ?_
  refine g_icmp_eq (tgt := 23) X dX11_isLaw_2 (by decide) hf (fun hf => ?_) (fun hf => ?_)
  · refine g_lv [] (lv' := []) rfl ?_
    exact hB23  hf
  refine g_iload_n X dX11_isLaw_5 1 rfl ?_
  refine g_i2l X dX11_isLaw_6 ?_
  refine g_lconst X dX11_isLaw_7 kl_0 ?_
  refine g_aload_n X dX11_isLaw_8 0 rfl ?_
  refine m_get_3 X dX11_isLaw_9 ?_
  refine g_iconst X dX11_isLaw_12 kc_3 ?_
  refine m_aldc_3 X kt_3 kx_3_5476 dX11_isLaw_13 ?_
  refine g_i2l X dX11_isLaw_14 ?_
  refine g_lconst X dX11_isLaw_15 kl_1 ?_
  refine g_lsub X dX11_isLaw_16 ?_
  refine m_bind hf (fun q1 hq1 hf => ?_)
  refine m_callS_i (As := [.long (x1).toInt64, .long (0 : Int64), .long ((ma S 3 3).toInt64 - (1 : Int64))]) (st := []) X kS_179 (c_in l dC dI E h r S (x1).toInt64 (0 : Int64) ((ma S 3 3).toInt64 - (1 : Int64)) q1 hq1) ⟨Nat.le_of_ble_eq_true rfl, Nat.le_of_ble_eq_true rfl⟩ ⟨rfl, rfl⟩ (Nat.le_of_ble_eq_true rfl) ⟨Nat.le_of_ble_eq_true rfl, Nat.le_of_ble_eq_true rfl⟩ dX11_isLaw_17 ?_
  refine g_if_eq (tgt := 27) X dX11_isLaw_20 (by decide) hf (fun hf => ?_) (fun hf => ?_)
  · refine g_iconst X dX11_isLaw_27 kc_0 ?_
    exact m_retz_o hA hQ X hr hlk (Or.inl rfl) dX11_isLaw_28 hf
  refine g_lv [] (lv' := []) rfl ?_
  exact hB23  hf
def rm_force : Room := { frames := 2, cells := 0, slots := 0, locals := 46 }
set_option maxRecDepth 100000 in
set_option maxHeartbeats 4000000 in
theorem c_force (l : Launch) (dC : Nat → ClassId) (dI : Nat → Nat → Nat) (E : Nat → ClassId) (h : Nat) (r : Nat → Nat) (S : MS) (x1 : Int32) (res : Int32 × MS) (hf : M_force S x1 = some res) : MC l dC dI E yX11_force cX11_force 2 (some .int) rm_force [.ref h, .int x1] (MW E h r S) (MW E h r res.2) (some (.int res.1)) := by
  refine MC_of (own := "LostLanesModel") (by decide) rfl (Nat.le_of_ble_eq_true rfl) ?_
  intro p e s m args below meth c A Q X hr hlk hA hQ
  refine g_lv [0, 1] (lv' := [(0, .ref h), (1, .int x1)]) rfl ?_
  unfold M_force at hf
  refine g_aload_n X dX11_force_0 0 rfl ?_
  refine g_iconst X dX11_force_1 kc_0 ?_
  refine m_put_0 X dX11_force_2 hf (fun S1 hf => ?_)
  refine g_aload_n X dX11_force_5 0 rfl ?_
  refine g_iload_n X dX11_force_6 1 rfl ?_
  refine m_bind hf (fun q2 hq2 hf => ?_)
  refine m_callV_i (As := [.int x1]) (st := []) X kV_387 (c_isLaw l dC dI E h r S1 x1 q2 hq2) ⟨Nat.le_of_ble_eq_true rfl, Nat.le_of_ble_eq_true rfl⟩ ⟨rfl, rfl⟩ (Nat.le_of_ble_eq_true rfl) ⟨Nat.le_of_ble_eq_true rfl, Nat.le_of_ble_eq_true rfl⟩ dX11_force_7 ?_
  refine g_if_eq (tgt := 22) X dX11_force_10 (by decide) hf (fun hf => ?_) (fun hf => ?_)
  · refine g_aload_n X dX11_force_22 0 rfl ?_
    refine g_bipush X dX11_force_23 kb_m2 ?_
    refine m_bind hf (fun q3 hq3 hf => ?_)
    refine m_callV_i (As := [.int (-2 : Int32)]) (st := []) X kV_168 (c_tell l dC dI E h r S1 (-2 : Int32) q3 hq3) ⟨Nat.le_of_ble_eq_true rfl, Nat.le_of_ble_eq_true rfl⟩ ⟨rfl, rfl⟩ (Nat.le_of_ble_eq_true rfl) ⟨Nat.le_of_ble_eq_true rfl, Nat.le_of_ble_eq_true rfl⟩ dX11_force_25 ?_
    exact m_reti_s hA hQ X hr hlk dX11_force_28 hf
  refine g_aload_n X dX11_force_13 0 rfl ?_
  refine g_iconst X dX11_force_14 kc_4 ?_
  refine g_iload_n X dX11_force_15 1 rfl ?_
  refine m_bind hf (fun q4 hq4 hf => ?_)
  refine m_callV_i (As := [.int (4 : Int32), .int x1]) (st := []) X kV_224 (c_change l dC dI E h r S1 (4 : Int32) x1 q4 hq4) ⟨Nat.le_of_ble_eq_true rfl, Nat.le_of_ble_eq_true rfl⟩ ⟨rfl, rfl⟩ (Nat.le_of_ble_eq_true rfl) ⟨Nat.le_of_ble_eq_true rfl, Nat.le_of_ble_eq_true rfl⟩ dX11_force_16 ?_
  refine g_goto (tgt := 28) X dX11_force_19 (by decide) ?_
  exact m_reti_s hA hQ X hr hlk dX11_force_28 hf
def rm_goAlong : Room := { frames := 1, cells := 0, slots := 0, locals := 22 }
set_option maxRecDepth 100000 in
set_option maxHeartbeats 4000000 in
theorem c_goAlong (l : Launch) (dC : Nat → ClassId) (dI : Nat → Nat → Nat) (E : Nat → ClassId) (h : Nat) (r : Nat → Nat) (S : MS) (x1 : Int32) (x2 : Int32) (res : Unit × MS) (hf : M_goAlong S x1 x2 = some res) : MC l dC dI E yX11_goAlong cX11_goAlong 3 none rm_goAlong [.ref h, .int x1, .int x2] (MW E h r S) (MW E h r res.2) none := by
  refine MC_of (own := "LostLanesModel") (by decide) rfl (Nat.le_of_ble_eq_true rfl) ?_
  intro p e s m args below meth c A Q X hr hlk hA hQ
  refine g_lv [0, 1, 2] (lv' := [(0, .ref h), (1, .int x1), (2, .int x2)]) rfl ?_
  unfold M_goAlong at hf
  refine g_aload_n X dX11_goAlong_0 0 rfl ?_
  refine m_get_3 X dX11_goAlong_1 ?_
  refine g_bipush X dX11_goAlong_4 kb_18 ?_
  refine g_iload_n X dX11_goAlong_6 1 rfl ?_
  refine g_iadd X dX11_goAlong_7 ?_
  refine g_aload_n X dX11_goAlong_8 0 rfl ?_
  refine g_iload_n X dX11_goAlong_9 2 rfl ?_
  refine g_aload_n X dX11_goAlong_10 0 rfl ?_
  refine m_get_3 X dX11_goAlong_11 ?_
  refine g_bipush X dX11_goAlong_14 kb_18 ?_
  refine g_iload_n X dX11_goAlong_16 1 rfl ?_
  refine g_iadd X dX11_goAlong_17 ?_
  refine m_ald_3 X dX11_goAlong_18 hf (fun hf => ?_)
  refine m_bind hf (fun q1 hq1 hf => ?_)
  refine m_callV_i (As := [.int x2, .int (ma S 3 (((18 : Int32) + x1)).toNatClampNeg)]) (st := [.int ((18 : Int32) + x1), .ref (r 3)]) X kV_430 (c_across l dC dI E h r S x2 (ma S 3 (((18 : Int32) + x1)).toNatClampNeg) q1 hq1) ⟨Nat.le_of_ble_eq_true rfl, Nat.le_of_ble_eq_true rfl⟩ ⟨rfl, rfl⟩ (Nat.le_of_ble_eq_true rfl) ⟨Nat.le_of_ble_eq_true rfl, Nat.le_of_ble_eq_true rfl⟩ dX11_goAlong_19 ?_
  refine m_ast_3 X dX11_goAlong_22 hf (fun S2 hf => ?_)
  refine g_aload_n X dX11_goAlong_23 0 rfl ?_
  refine m_get_3 X dX11_goAlong_24 ?_
  refine g_bipush X dX11_goAlong_27 kb_22 ?_
  refine g_iload_n X dX11_goAlong_29 1 rfl ?_
  refine g_iadd X dX11_goAlong_30 ?_
  refine g_iload_n X dX11_goAlong_31 2 rfl ?_
  refine m_ast_3 X dX11_goAlong_32 hf (fun S3 hf => ?_)
  exact m_retv_s hA hQ X hr hlk dX11_goAlong_33 hf
def rm_wanderNow : Room := { frames := 8, cells := 0, slots := 0, locals := 191 }
set_option maxRecDepth 100000 in
set_option maxHeartbeats 4000000 in
theorem c_wanderNow (l : Launch) (dC : Nat → ClassId) (dI : Nat → Nat → Nat) (E : Nat → ClassId) (h : Nat) (r : Nat → Nat) (F : Nat) (S : MS) (x1 : Int32) (res : Int32 × MS) (hf : M_wanderNow F S x1 = some res) : MC l dC dI E yX11_wanderNow cX11_wanderNow 3 (some .int) rm_wanderNow [.ref h, .int x1] (MW E h r S) (MW E h r res.2) (some (.int res.1)) := by
  refine MC_of (own := "LostLanesModel") (by decide) rfl (Nat.le_of_ble_eq_true rfl) ?_
  intro p e s m args below meth c A Q X hr hlk hA hQ
  refine g_lv [0, 1] (lv' := [(0, .ref h), (1, .int x1)]) rfl ?_
  unfold M_wanderNow at hf
  refine g_aload_n X dX11_wanderNow_0 0 rfl ?_
  refine g_iload_n X dX11_wanderNow_1 1 rfl ?_
  refine m_bind hf (fun q1 hq1 hf => ?_)
  refine m_callV_i (As := [.int x1]) (st := []) X kV_203 (c_isChild l dC dI E h r S x1 q1 hq1) ⟨Nat.le_of_ble_eq_true rfl, Nat.le_of_ble_eq_true rfl⟩ ⟨rfl, rfl⟩ (Nat.le_of_ble_eq_true rfl) ⟨Nat.le_of_ble_eq_true rfl, Nat.le_of_ble_eq_true rfl⟩ dX11_wanderNow_2 ?_
  refine g_if_ne (tgt := 11) X dX11_wanderNow_5 (by decide) hf (fun hf => ?_) (fun hf => ?_)
  · refine g_aload_n X dX11_wanderNow_11 0 rfl ?_
    refine g_iload_n X dX11_wanderNow_12 1 rfl ?_
    refine m_bind hf (fun q2 hq2 hf => ?_)
    refine m_callV_i (As := [.int x1]) (st := []) X kV_209 (c_laneOf l dC dI E h r F S x1 q2 hq2) ⟨Nat.le_of_ble_eq_true rfl, Nat.le_of_ble_eq_true rfl⟩ ⟨rfl, rfl⟩ (Nat.le_of_ble_eq_true rfl) ⟨Nat.le_of_ble_eq_true rfl, Nat.le_of_ble_eq_true rfl⟩ dX11_wanderNow_13 ?_
    refine g_istore_n (i := 2) (lv' := [(2, .int q2.1), (0, .ref h), (1, .int x1)]) X dX11_wanderNow_16 rfl (by decide) rfl ?_
    refine g_iload_n X dX11_wanderNow_17 0 rfl ?_
    refine g_iconst X dX11_wanderNow_18 kc_m1 ?_
    refine g_icmp_ne (tgt := 25) X dX11_wanderNow_19 (by decide) hf (fun hf => ?_) (fun hf => ?_)
    · refine g_aload_n X dX11_wanderNow_25 1 rfl ?_
      refine g_iconst X dX11_wanderNow_26 kc_0 ?_
      refine m_bind hf (fun q3 hq3 hf => ?_)
      refine m_callV_v (As := [.int (0 : Int32)]) (st := []) X kV_433 (c_remember l dC dI E h r F q2.2 (0 : Int32) q3 hq3) ⟨Nat.le_of_ble_eq_true rfl, Nat.le_of_ble_eq_true rfl⟩ ⟨rfl, rfl⟩ (Nat.le_of_ble_eq_true rfl) ⟨Nat.le_of_ble_eq_true rfl, Nat.le_of_ble_eq_true rfl⟩ dX11_wanderNow_27 ?_
      refine g_aload_n X dX11_wanderNow_30 1 rfl ?_
      refine g_iload_n X dX11_wanderNow_31 2 rfl ?_
      refine g_iload_n X dX11_wanderNow_32 0 rfl ?_
      refine m_bind hf (fun q4 hq4 hf => ?_)
      refine m_callV_v (As := [.int x1, .int q2.1]) (st := []) X kV_436 (c_goAlong l dC dI E h r q3.2 x1 q2.1 q4 hq4) ⟨Nat.le_of_ble_eq_true rfl, Nat.le_of_ble_eq_true rfl⟩ ⟨rfl, rfl⟩ (Nat.le_of_ble_eq_true rfl) ⟨Nat.le_of_ble_eq_true rfl, Nat.le_of_ble_eq_true rfl⟩ dX11_wanderNow_33 ?_
      refine g_aload_n X dX11_wanderNow_36 1 rfl ?_
      refine m_get_3 X dX11_wanderNow_37 ?_
      refine g_bipush X dX11_wanderNow_40 kb_18 ?_
      refine g_iload_n X dX11_wanderNow_42 2 rfl ?_
      refine g_iadd X dX11_wanderNow_43 ?_
      refine m_ald_3 X dX11_wanderNow_44 hf (fun hf => ?_)
      exact m_reti_s hA hQ X hr hlk dX11_wanderNow_45 hf
    refine g_bipush X dX11_wanderNow_22 kb_m3 ?_
    exact m_reti_s hA hQ X hr hlk dX11_wanderNow_24 hf
  refine g_bipush X dX11_wanderNow_8 kb_m2 ?_
  exact m_reti_s hA hQ X hr hlk dX11_wanderNow_10 hf
def rm_wander : Room := { frames := 9, cells := 0, slots := 0, locals := 213 }
set_option maxRecDepth 100000 in
set_option maxHeartbeats 4000000 in
theorem c_wander (l : Launch) (dC : Nat → ClassId) (dI : Nat → Nat → Nat) (E : Nat → ClassId) (h : Nat) (r : Nat → Nat) (F : Nat) (S : MS) (x1 : Int32) (res : Int32 × MS) (hf : M_wander F S x1 = some res) : MC l dC dI E yX11_wander cX11_wander 2 (some .int) rm_wander [.ref h, .int x1] (MW E h r S) (MW E h r res.2) (some (.int res.1)) := by
  refine MC_of (own := "LostLanesModel") (by decide) rfl (Nat.le_of_ble_eq_true rfl) ?_
  intro p e s m args below meth c A Q X hr hlk hA hQ
  refine g_lv [0, 1] (lv' := [(0, .ref h), (1, .int x1)]) rfl ?_
  unfold M_wander at hf
  refine g_aload_n X dX11_wander_0 0 rfl ?_
  refine g_iconst X dX11_wander_1 kc_0 ?_
  refine m_put_0 X dX11_wander_2 hf (fun S1 hf => ?_)
  refine g_aload_n X dX11_wander_5 0 rfl ?_
  refine g_aload_n X dX11_wander_6 0 rfl ?_
  refine g_iload_n X dX11_wander_7 1 rfl ?_
  refine m_bind hf (fun q2 hq2 hf => ?_)
  refine m_callV_i (As := [.int x1]) (st := [.ref h]) X kV_439 (c_wanderNow l dC dI E h r F S1 x1 q2 hq2) ⟨Nat.le_of_ble_eq_true rfl, Nat.le_of_ble_eq_true rfl⟩ ⟨rfl, rfl⟩ (Nat.le_of_ble_eq_true rfl) ⟨Nat.le_of_ble_eq_true rfl, Nat.le_of_ble_eq_true rfl⟩ dX11_wander_8 ?_
  refine m_bind hf (fun q3 hq3 hf => ?_)
  refine m_callV_i (As := [.int q2.1]) (st := []) X kV_168 (c_tell l dC dI E h r q2.2 q2.1 q3 hq3) ⟨Nat.le_of_ble_eq_true rfl, Nat.le_of_ble_eq_true rfl⟩ ⟨rfl, rfl⟩ (Nat.le_of_ble_eq_true rfl) ⟨Nat.le_of_ble_eq_true rfl, Nat.le_of_ble_eq_true rfl⟩ dX11_wander_11 ?_
  exact m_reti_s hA hQ X hr hlk dX11_wander_14 hf
def rm_cryIt : Room := { frames := 6, cells := 0, slots := 0, locals := 144 }
set_option maxRecDepth 100000 in
set_option maxHeartbeats 4000000 in
theorem c_cryIt (l : Launch) (dC : Nat → ClassId) (dI : Nat → Nat → Nat) (E : Nat → ClassId) (h : Nat) (r : Nat → Nat) (F : Nat) (S : MS) (x1 : Int32) (res : Int32 × MS) (hf : M_cryIt F S x1 = some res) : MC l dC dI E yX11_cryIt cX11_cryIt 3 (some .int) rm_cryIt [.ref h, .int x1] (MW E h r S) (MW E h r res.2) (some (.int res.1)) := by
  refine MC_of (own := "LostLanesModel") (by decide) rfl (Nat.le_of_ble_eq_true rfl) ?_
  intro p e s m args below meth c A Q X hr hlk hA hQ
  refine g_lv [0, 1] (lv' := [(0, .ref h), (1, .int x1)]) rfl ?_
  unfold M_cryIt at hf
  refine g_aload_n X dX11_cryIt_0 0 rfl ?_
  refine m_get_3 X dX11_cryIt_1 ?_
  refine g_bipush X dX11_cryIt_4 kb_22 ?_
  refine g_iload_n X dX11_cryIt_6 1 rfl ?_
  refine g_iadd X dX11_cryIt_7 ?_
  refine m_ald_3 X dX11_cryIt_8 hf (fun hf => ?_)
  refine g_istore_n (i := 2) (lv' := [(2, .int (ma S 3 (((22 : Int32) + x1)).toNatClampNeg)), (0, .ref h), (1, .int x1)]) X dX11_cryIt_9 rfl (by decide) rfl ?_
  refine g_aload_n X dX11_cryIt_10 1 rfl ?_
  refine m_get_3 X dX11_cryIt_11 ?_
  refine g_bipush X dX11_cryIt_14 kb_8 ?_
  refine g_iload_n X dX11_cryIt_16 0 rfl ?_
  refine g_iadd X dX11_cryIt_17 ?_
  refine g_aload_n X dX11_cryIt_18 1 rfl ?_
  refine g_iload_n X dX11_cryIt_19 2 rfl ?_
  refine g_iload_n X dX11_cryIt_20 0 rfl ?_
  refine m_bind hf (fun q1 hq1 hf => ?_)
  refine m_callV_i (As := [.int x1, .int (ma S 3 (((22 : Int32) + x1)).toNatClampNeg)]) (st := [.int ((8 : Int32) + (ma S 3 (((22 : Int32) + x1)).toNatClampNeg)), .ref (r 3)]) X kV_212 (c_saysOf l dC dI E h r F S x1 (ma S 3 (((22 : Int32) + x1)).toNatClampNeg) q1 hq1) ⟨Nat.le_of_ble_eq_true rfl, Nat.le_of_ble_eq_true rfl⟩ ⟨rfl, rfl⟩ (Nat.le_of_ble_eq_true rfl) ⟨Nat.le_of_ble_eq_true rfl, Nat.le_of_ble_eq_true rfl⟩ dX11_cryIt_21 ?_
  refine m_ast_3 X dX11_cryIt_24 hf (fun S2 hf => ?_)
  refine g_aload_n X dX11_cryIt_25 1 rfl ?_
  refine m_get_3 X dX11_cryIt_26 ?_
  refine g_bipush X dX11_cryIt_29 kb_8 ?_
  refine g_iload_n X dX11_cryIt_31 0 rfl ?_
  refine g_iadd X dX11_cryIt_32 ?_
  refine m_ald_3 X dX11_cryIt_33 hf (fun hf => ?_)
  exact m_reti_s hA hQ X hr hlk dX11_cryIt_34 hf
def rm_cryNow : Room := { frames := 7, cells := 0, slots := 0, locals := 166 }
set_option maxRecDepth 100000 in
set_option maxHeartbeats 4000000 in
theorem c_cryNow (l : Launch) (dC : Nat → ClassId) (dI : Nat → Nat → Nat) (E : Nat → ClassId) (h : Nat) (r : Nat → Nat) (F : Nat) (S : MS) (x1 : Int32) (res : Int32 × MS) (hf : M_cryNow F S x1 = some res) : MC l dC dI E yX11_cryNow cX11_cryNow 2 (some .int) rm_cryNow [.ref h, .int x1] (MW E h r S) (MW E h r res.2) (some (.int res.1)) := by
  refine MC_of (own := "LostLanesModel") (by decide) rfl (Nat.le_of_ble_eq_true rfl) ?_
  intro p e s m args below meth c A Q X hr hlk hA hQ
  refine g_lv [0, 1] (lv' := [(0, .ref h), (1, .int x1)]) rfl ?_
  unfold M_cryNow at hf
  refine g_aload_n X dX11_cryNow_0 0 rfl ?_
  refine g_iload_n X dX11_cryNow_1 1 rfl ?_
  refine m_bind hf (fun q1 hq1 hf => ?_)
  refine m_callV_i (As := [.int x1]) (st := []) X kV_203 (c_isChild l dC dI E h r S x1 q1 hq1) ⟨Nat.le_of_ble_eq_true rfl, Nat.le_of_ble_eq_true rfl⟩ ⟨rfl, rfl⟩ (Nat.le_of_ble_eq_true rfl) ⟨Nat.le_of_ble_eq_true rfl, Nat.le_of_ble_eq_true rfl⟩ dX11_cryNow_2 ?_
  refine g_if_ne (tgt := 11) X dX11_cryNow_5 (by decide) hf (fun hf => ?_) (fun hf => ?_)
  · refine g_aload_n X dX11_cryNow_11 0 rfl ?_
    refine m_get_3 X dX11_cryNow_12 ?_
    refine g_bipush X dX11_cryNow_15 kb_22 ?_
    refine g_iload_n X dX11_cryNow_17 1 rfl ?_
    refine g_iadd X dX11_cryNow_18 ?_
    refine m_ald_3 X dX11_cryNow_19 hf (fun hf => ?_)
    refine g_iconst X dX11_cryNow_20 kc_m1 ?_
    refine g_icmp_ne (tgt := 27) X dX11_cryNow_21 (by decide) hf (fun hf => ?_) (fun hf => ?_)
    · refine g_aload_n X dX11_cryNow_27 0 rfl ?_
      refine g_iconst X dX11_cryNow_28 kc_1 ?_
      refine m_bind hf (fun q2 hq2 hf => ?_)
      refine m_callV_v (As := [.int (1 : Int32)]) (st := []) X kV_433 (c_remember l dC dI E h r F S (1 : Int32) q2 hq2) ⟨Nat.le_of_ble_eq_true rfl, Nat.le_of_ble_eq_true rfl⟩ ⟨rfl, rfl⟩ (Nat.le_of_ble_eq_true rfl) ⟨Nat.le_of_ble_eq_true rfl, Nat.le_of_ble_eq_true rfl⟩ dX11_cryNow_29 ?_
      refine g_aload_n X dX11_cryNow_32 0 rfl ?_
      refine g_iload_n X dX11_cryNow_33 1 rfl ?_
      refine m_bind hf (fun q3 hq3 hf => ?_)
      refine m_callV_i (As := [.int x1]) (st := []) X kV_442 (c_cryIt l dC dI E h r F q2.2 x1 q3 hq3) ⟨Nat.le_of_ble_eq_true rfl, Nat.le_of_ble_eq_true rfl⟩ ⟨rfl, rfl⟩ (Nat.le_of_ble_eq_true rfl) ⟨Nat.le_of_ble_eq_true rfl, Nat.le_of_ble_eq_true rfl⟩ dX11_cryNow_34 ?_
      exact m_reti_s hA hQ X hr hlk dX11_cryNow_37 hf
    refine g_bipush X dX11_cryNow_24 kb_m3 ?_
    exact m_reti_s hA hQ X hr hlk dX11_cryNow_26 hf
  refine g_bipush X dX11_cryNow_8 kb_m2 ?_
  exact m_reti_s hA hQ X hr hlk dX11_cryNow_10 hf
def rm_cry : Room := { frames := 8, cells := 0, slots := 0, locals := 187 }
set_option maxRecDepth 100000 in
set_option maxHeartbeats 4000000 in
theorem c_cry (l : Launch) (dC : Nat → ClassId) (dI : Nat → Nat → Nat) (E : Nat → ClassId) (h : Nat) (r : Nat → Nat) (F : Nat) (S : MS) (x1 : Int32) (res : Int32 × MS) (hf : M_cry F S x1 = some res) : MC l dC dI E yX11_cry cX11_cry 2 (some .int) rm_cry [.ref h, .int x1] (MW E h r S) (MW E h r res.2) (some (.int res.1)) := by
  refine MC_of (own := "LostLanesModel") (by decide) rfl (Nat.le_of_ble_eq_true rfl) ?_
  intro p e s m args below meth c A Q X hr hlk hA hQ
  refine g_lv [0, 1] (lv' := [(0, .ref h), (1, .int x1)]) rfl ?_
  unfold M_cry at hf
  refine g_aload_n X dX11_cry_0 0 rfl ?_
  refine g_iconst X dX11_cry_1 kc_0 ?_
  refine m_put_0 X dX11_cry_2 hf (fun S1 hf => ?_)
  refine g_aload_n X dX11_cry_5 0 rfl ?_
  refine g_aload_n X dX11_cry_6 0 rfl ?_
  refine g_iload_n X dX11_cry_7 1 rfl ?_
  refine m_bind hf (fun q2 hq2 hf => ?_)
  refine m_callV_i (As := [.int x1]) (st := [.ref h]) X kV_445 (c_cryNow l dC dI E h r F S1 x1 q2 hq2) ⟨Nat.le_of_ble_eq_true rfl, Nat.le_of_ble_eq_true rfl⟩ ⟨rfl, rfl⟩ (Nat.le_of_ble_eq_true rfl) ⟨Nat.le_of_ble_eq_true rfl, Nat.le_of_ble_eq_true rfl⟩ dX11_cry_8 ?_
  refine m_bind hf (fun q3 hq3 hf => ?_)
  refine m_callV_i (As := [.int q2.1]) (st := []) X kV_168 (c_tell l dC dI E h r q2.2 q2.1 q3 hq3) ⟨Nat.le_of_ble_eq_true rfl, Nat.le_of_ble_eq_true rfl⟩ ⟨rfl, rfl⟩ (Nat.le_of_ble_eq_true rfl) ⟨Nat.le_of_ble_eq_true rfl, Nat.le_of_ble_eq_true rfl⟩ dX11_cry_11 ?_
  exact m_reti_s hA hQ X hr hlk dX11_cry_14 hf
def rm_leadNow : Room := { frames := 2, cells := 0, slots := 0, locals := 46 }
set_option maxRecDepth 100000 in
set_option maxHeartbeats 4000000 in
theorem c_leadNow (l : Launch) (dC : Nat → ClassId) (dI : Nat → Nat → Nat) (E : Nat → ClassId) (h : Nat) (r : Nat → Nat) (F : Nat) (S : MS) (x1 : Int32) (x2 : Int32) (res : Int32 × MS) (hf : M_leadNow F S x1 x2 = some res) : MC l dC dI E yX11_leadNow cX11_leadNow 4 (some .int) rm_leadNow [.ref h, .int x1, .int x2] (MW E h r S) (MW E h r res.2) (some (.int res.1)) := by
  refine MC_of (own := "LostLanesModel") (by decide) rfl (Nat.le_of_ble_eq_true rfl) ?_
  intro p e s m args below meth c A Q X hr hlk hA hQ
  refine g_lv [0, 1, 2] (lv' := [(0, .ref h), (1, .int x1), (2, .int x2)]) rfl ?_
  unfold M_leadNow at hf
  refine g_iload_n X dX11_leadNow_0 2 rfl ?_
  refine m_bind hf (fun q1 hq1 hf => ?_)
  refine m_callS_i (As := [.int x2]) (st := []) X kS_188 (c_isCorner l dC dI E h r S x2 q1 hq1) ⟨Nat.le_of_ble_eq_true rfl, Nat.le_of_ble_eq_true rfl⟩ ⟨rfl, rfl⟩ (Nat.le_of_ble_eq_true rfl) ⟨Nat.le_of_ble_eq_true rfl, Nat.le_of_ble_eq_true rfl⟩ dX11_leadNow_1 ?_
  refine g_if_ne (tgt := 9) X dX11_leadNow_4 (by decide) hf (fun hf => ?_) (fun hf => ?_)
  · refine g_aload_n X dX11_leadNow_9 0 rfl ?_
    refine g_iload_n X dX11_leadNow_10 1 rfl ?_
    refine m_bind hf (fun q2 hq2 hf => ?_)
    refine m_callV_i (As := [.int x1]) (st := []) X kV_203 (c_isChild l dC dI E h r S x1 q2 hq2) ⟨Nat.le_of_ble_eq_true rfl, Nat.le_of_ble_eq_true rfl⟩ ⟨rfl, rfl⟩ (Nat.le_of_ble_eq_true rfl) ⟨Nat.le_of_ble_eq_true rfl, Nat.le_of_ble_eq_true rfl⟩ dX11_leadNow_11 ?_
    refine g_if_ne (tgt := 20) X dX11_leadNow_14 (by decide) hf (fun hf => ?_) (fun hf => ?_)
    · refine g_aload_n X dX11_leadNow_20 0 rfl ?_
      refine m_get_3 X dX11_leadNow_21 ?_
      refine g_bipush X dX11_leadNow_24 kb_18 ?_
      refine g_iload_n X dX11_leadNow_26 1 rfl ?_
      refine g_iadd X dX11_leadNow_27 ?_
      refine m_ald_3 X dX11_leadNow_28 hf (fun hf => ?_)
      refine g_istore_n (i := 3) (lv' := [(3, .int (ma S 3 (((18 : Int32) + x1)).toNatClampNeg)), (0, .ref h), (1, .int x1), (2, .int x2)]) X dX11_leadNow_29 rfl (by decide) rfl ?_
      refine g_iload_n X dX11_leadNow_30 0 rfl ?_
      refine g_iload_n X dX11_leadNow_31 3 rfl ?_
      refine g_icmp_ne (tgt := 38) X dX11_leadNow_32 (by decide) hf (fun hf => ?_) (fun hf => ?_)
      · refine g_aload_n X dX11_leadNow_38 1 rfl ?_
        refine g_iconst X dX11_leadNow_39 kc_2 ?_
        refine m_bind hf (fun q3 hq3 hf => ?_)
        refine m_callV_v (As := [.int (2 : Int32)]) (st := []) X kV_433 (c_remember l dC dI E h r F S (2 : Int32) q3 hq3) ⟨Nat.le_of_ble_eq_true rfl, Nat.le_of_ble_eq_true rfl⟩ ⟨rfl, rfl⟩ (Nat.le_of_ble_eq_true rfl) ⟨Nat.le_of_ble_eq_true rfl, Nat.le_of_ble_eq_true rfl⟩ dX11_leadNow_40 ?_
        refine g_aload_n X dX11_leadNow_43 1 rfl ?_
        refine m_get_3 X dX11_leadNow_44 ?_
        refine g_bipush X dX11_leadNow_47 kb_18 ?_
        refine g_iload_n X dX11_leadNow_49 2 rfl ?_
        refine g_iadd X dX11_leadNow_50 ?_
        refine g_iload_n X dX11_leadNow_51 3 rfl ?_
        refine m_ast_3 X dX11_leadNow_52 hf (fun S4 hf => ?_)
        refine g_iload_n X dX11_leadNow_53 0 rfl ?_
        exact m_reti_s hA hQ X hr hlk dX11_leadNow_54 hf
      refine g_bipush X dX11_leadNow_35 kb_m3 ?_
      exact m_reti_s hA hQ X hr hlk dX11_leadNow_37 hf
    refine g_bipush X dX11_leadNow_17 kb_m2 ?_
    exact m_reti_s hA hQ X hr hlk dX11_leadNow_19 hf
  refine g_iconst X dX11_leadNow_7 kc_m1 ?_
  exact m_reti_s hA hQ X hr hlk dX11_leadNow_8 hf
def rm_lead : Room := { frames := 3, cells := 0, slots := 0, locals := 69 }
set_option maxRecDepth 100000 in
set_option maxHeartbeats 4000000 in
theorem c_lead (l : Launch) (dC : Nat → ClassId) (dI : Nat → Nat → Nat) (E : Nat → ClassId) (h : Nat) (r : Nat → Nat) (F : Nat) (S : MS) (x1 : Int32) (x2 : Int32) (res : Int32 × MS) (hf : M_lead F S x1 x2 = some res) : MC l dC dI E yX11_lead cX11_lead 3 (some .int) rm_lead [.ref h, .int x1, .int x2] (MW E h r S) (MW E h r res.2) (some (.int res.1)) := by
  refine MC_of (own := "LostLanesModel") (by decide) rfl (Nat.le_of_ble_eq_true rfl) ?_
  intro p e s m args below meth c A Q X hr hlk hA hQ
  refine g_lv [0, 1, 2] (lv' := [(0, .ref h), (1, .int x1), (2, .int x2)]) rfl ?_
  unfold M_lead at hf
  refine g_aload_n X dX11_lead_0 0 rfl ?_
  refine g_iconst X dX11_lead_1 kc_0 ?_
  refine m_put_0 X dX11_lead_2 hf (fun S1 hf => ?_)
  refine g_aload_n X dX11_lead_5 0 rfl ?_
  refine g_aload_n X dX11_lead_6 0 rfl ?_
  refine g_iload_n X dX11_lead_7 1 rfl ?_
  refine g_iload_n X dX11_lead_8 2 rfl ?_
  refine m_bind hf (fun q2 hq2 hf => ?_)
  refine m_callV_i (As := [.int x1, .int x2]) (st := [.ref h]) X kV_448 (c_leadNow l dC dI E h r F S1 x1 x2 q2 hq2) ⟨Nat.le_of_ble_eq_true rfl, Nat.le_of_ble_eq_true rfl⟩ ⟨rfl, rfl⟩ (Nat.le_of_ble_eq_true rfl) ⟨Nat.le_of_ble_eq_true rfl, Nat.le_of_ble_eq_true rfl⟩ dX11_lead_9 ?_
  refine m_bind hf (fun q3 hq3 hf => ?_)
  refine m_callV_i (As := [.int q2.1]) (st := []) X kV_168 (c_tell l dC dI E h r q2.2 q2.1 q3 hq3) ⟨Nat.le_of_ble_eq_true rfl, Nat.le_of_ble_eq_true rfl⟩ ⟨rfl, rfl⟩ (Nat.le_of_ble_eq_true rfl) ⟨Nat.le_of_ble_eq_true rfl, Nat.le_of_ble_eq_true rfl⟩ dX11_lead_12 ?_
  exact m_reti_s hA hQ X hr hlk dX11_lead_15 hf
def rm_passIt : Room := { frames := 8, cells := 0, slots := 0, locals := 191 }
set_option maxRecDepth 100000 in
set_option maxHeartbeats 4000000 in
theorem c_passIt (l : Launch) (dC : Nat → ClassId) (dI : Nat → Nat → Nat) (E : Nat → ClassId) (h : Nat) (r : Nat → Nat) (F : Nat) (S : MS)  (res : Int32 × MS) (hf : M_passIt F S = some res) : MC l dC dI E yX11_passIt cX11_passIt 3 (some .int) rm_passIt [.ref h] (MW E h r S) (MW E h r res.2) (some (.int res.1)) := by
  refine MC_of (own := "LostLanesModel") (by decide) rfl (Nat.le_of_ble_eq_true rfl) ?_
  intro p e s m args below meth c A Q X hr hlk hA hQ
  have hB67 : ∀ (k33 : MS → Int32 → Int32 → Option (Int32 × MS)) (hk33 : ∀ (S : MS) (x1 : Int32) (x2 : Int32), k33 S x1 x2 = some res → GG p l e rm_passIt s m args below meth c dC dI A 3 0 0 Q (MW E h r S) 33 [(0, .ref h), (1, .int x1), (2, .int x2)] []) (S : MS) (x1 : Int32) (x2 : Int32), M_passIt_B67 F k33 S x1 x2 = some res → GG p l e rm_passIt s m args below meth c dC dI A 3 0 0 Q (MW E h r S) 67 [(0, .ref h), (1, .int x1), (2, .int x2)] [] := by
    intro k33 hk33 S x1 x2 hf
    unfold M_passIt_B67 at hf
    refine g_iinc (lv' := [(2, .int (x2 + (1 : Int32))), (0, .ref h), (1, .int x1)]) X dX11_passIt_67 2 rfl kc_1 (by decide) rfl ?_
    refine g_goto (tgt := 33) X dX11_passIt_70 (by decide) ?_
    refine g_lv [1, 2, 0] (lv' := [(0, .ref h), (1, .int x1), (2, .int (x2 + (1 : Int32)))]) rfl ?_
    exact hk33 _ _ _ hf
  have hL33 : ∀  (n : Nat) (S : MS) (x1 : Int32) (x2 : Int32), M_passIt_L33 F n S x1 x2 = some res → GG p l e rm_passIt s m args below meth c dC dI A 3 0 0 Q (MW E h r S) 33 [(0, .ref h), (1, .int x1), (2, .int x2)] [] := by
    intro  n
    induction n with
    | zero => intro S x1 x2 hf; have hf : (none : Option (Int32 × MS)) = some res := hf; cases hf
    | succ n ih =>
      intro S x1 x2 hf
      rw [M_passIt_L33] at hf
      refine g_iload_n X dX11_passIt_33 2 rfl ?_
      refine g_aload_n X dX11_passIt_34 0 rfl ?_
      refine m_get_3 X dX11_passIt_35 ?_
      refine g_iconst X dX11_passIt_38 kc_1 ?_
      refine m_aldc_3 X kt_1 kx_1_5476 dX11_passIt_39 ?_
      refine g_icmp_ge (tgt := 73) X dX11_passIt_40 (by decide) hf (fun hf => ?_) (fun hf => ?_)
      · refine g_aload_n X dX11_passIt_73 0 rfl ?_
        refine m_get_3 X dX11_passIt_74 ?_
        refine g_iconst X dX11_passIt_77 kc_5 ?_
        refine g_dup2 X dX11_passIt_78 rfl rfl ?_
        refine m_aldc_3 X kt_5 kx_5_5476 dX11_passIt_79 ?_
        refine g_iconst X dX11_passIt_80 kc_1 ?_
        refine g_iadd X dX11_passIt_81 ?_
        refine m_astc_3 X kt_5 kx_5_5476 dX11_passIt_82 hf (fun S1 hf => ?_)
        refine g_iload_n X dX11_passIt_83 1 rfl ?_
        exact m_reti_s hA hQ X hr hlk dX11_passIt_84 hf
      refine g_aload_n X dX11_passIt_43 0 rfl ?_
      refine m_get_41 X dX11_passIt_44 ?_
      refine g_iload_n X dX11_passIt_47 2 rfl ?_
      refine m_ald_41 X dX11_passIt_48 hf (fun hf => ?_)
      refine g_iconst X dX11_passIt_49 kc_m1 ?_
      refine g_icmp_eq (tgt := 67) X dX11_passIt_50 (by decide) hf (fun hf => ?_) (fun hf => ?_)
      · exact hB67 _ ih _ _ _ hf
      refine g_aload_n X dX11_passIt_53 0 rfl ?_
      refine g_iload_n X dX11_passIt_54 2 rfl ?_
      refine g_aload_n X dX11_passIt_55 0 rfl ?_
      refine m_get_41 X dX11_passIt_56 ?_
      refine g_iload_n X dX11_passIt_59 2 rfl ?_
      refine m_ald_41 X dX11_passIt_60 hf (fun hf => ?_)
      refine m_bind hf (fun q2 hq2 hf => ?_)
      refine m_callV_v (As := [.int x2, .int (ma S 41 (x2).toNatClampNeg)]) (st := []) X kV_436 (c_goAlong l dC dI E h r S x2 (ma S 41 (x2).toNatClampNeg) q2 hq2) ⟨Nat.le_of_ble_eq_true rfl, Nat.le_of_ble_eq_true rfl⟩ ⟨rfl, rfl⟩ (Nat.le_of_ble_eq_true rfl) ⟨Nat.le_of_ble_eq_true rfl, Nat.le_of_ble_eq_true rfl⟩ dX11_passIt_61 ?_
      refine g_iinc (lv' := [(1, .int (x1 + (1 : Int32))), (0, .ref h), (2, .int x2)]) X dX11_passIt_64 1 rfl kc_1 (by decide) rfl ?_
      refine g_lv [1, 0, 2] (lv' := [(0, .ref h), (1, .int (x1 + (1 : Int32))), (2, .int x2)]) rfl ?_
      exact hB67 _ ih _ _ _ hf
  have hL4 : ∀ (x1 : Int32) (n : Nat) (S : MS) (x2 : Int32), M_passIt_L4 F x1 n S x2 = some res → GG p l e rm_passIt s m args below meth c dC dI A 3 0 0 Q (MW E h r S) 4 [(0, .ref h), (1, .int x1), (2, .int x2)] [] := by
    intro x1 n
    induction n with
    | zero => intro S x2 hf; have hf : (none : Option (Int32 × MS)) = some res := hf; cases hf
    | succ n ih =>
      intro S x2 hf
      rw [M_passIt_L4] at hf
      refine g_iload_n X dX11_passIt_4 2 rfl ?_
      refine g_aload_n X dX11_passIt_5 0 rfl ?_
      refine m_get_3 X dX11_passIt_6 ?_
      refine g_iconst X dX11_passIt_9 kc_1 ?_
      refine m_aldc_3 X kt_1 kx_1_5476 dX11_passIt_10 ?_
      refine g_icmp_ge (tgt := 31) X dX11_passIt_11 (by decide) hf (fun hf => ?_) (fun hf => ?_)
      · refine g_iconst X dX11_passIt_31 kc_0 ?_
        refine g_istore_n (i := 2) (lv' := [(2, .int (0 : Int32)), (0, .ref h), (1, .int x1)]) X dX11_passIt_32 rfl (by decide) rfl ?_
        refine g_lv [1, 2, 0] (lv' := [(0, .ref h), (1, .int x1), (2, .int (0 : Int32))]) rfl ?_
        exact hL33 _ _ _ _ hf
      refine g_aload_n X dX11_passIt_14 0 rfl ?_
      refine m_get_41 X dX11_passIt_15 ?_
      refine g_iload_n X dX11_passIt_18 2 rfl ?_
      refine g_aload_n X dX11_passIt_19 0 rfl ?_
      refine g_iload_n X dX11_passIt_20 2 rfl ?_
      refine m_bind hf (fun q3 hq3 hf => ?_)
      refine m_callV_i (As := [.int x2]) (st := [.int x2, .ref (r 41)]) X kV_209 (c_laneOf l dC dI E h r F S x2 q3 hq3) ⟨Nat.le_of_ble_eq_true rfl, Nat.le_of_ble_eq_true rfl⟩ ⟨rfl, rfl⟩ (Nat.le_of_ble_eq_true rfl) ⟨Nat.le_of_ble_eq_true rfl, Nat.le_of_ble_eq_true rfl⟩ dX11_passIt_21 ?_
      refine m_ast_41 X dX11_passIt_24 hf (fun S4 hf => ?_)
      refine g_iinc (lv' := [(2, .int (x2 + (1 : Int32))), (0, .ref h), (1, .int x1)]) X dX11_passIt_25 2 rfl kc_1 (by decide) rfl ?_
      refine g_goto (tgt := 4) X dX11_passIt_28 (by decide) ?_
      refine g_lv [1, 2, 0] (lv' := [(0, .ref h), (1, .int x1), (2, .int (x2 + (1 : Int32)))]) rfl ?_
      exact ih _ _ hf
  refine g_lv [0] (lv' := [(0, .ref h)]) rfl ?_
  unfold M_passIt at hf
  refine g_iconst X dX11_passIt_0 kc_0 ?_
  refine g_istore_n (i := 1) (lv' := [(1, .int (0 : Int32)), (0, .ref h)]) X dX11_passIt_1 rfl (by decide) rfl ?_
  refine g_iconst X dX11_passIt_2 kc_0 ?_
  refine g_istore_n (i := 2) (lv' := [(2, .int (0 : Int32)), (1, .int (0 : Int32)), (0, .ref h)]) X dX11_passIt_3 rfl (by decide) rfl ?_
  refine g_lv [2, 1, 0] (lv' := [(0, .ref h), (1, .int (0 : Int32)), (2, .int (0 : Int32))]) rfl ?_
  exact hL4 _ _ _ _ hf
def rm_passNow : Room := { frames := 9, cells := 0, slots := 0, locals := 213 }
set_option maxRecDepth 100000 in
set_option maxHeartbeats 4000000 in
theorem c_passNow (l : Launch) (dC : Nat → ClassId) (dI : Nat → Nat → Nat) (E : Nat → ClassId) (h : Nat) (r : Nat → Nat) (F : Nat) (S : MS)  (res : Int32 × MS) (hf : M_passNow F S = some res) : MC l dC dI E yX11_passNow cX11_passNow 1 (some .int) rm_passNow [.ref h] (MW E h r S) (MW E h r res.2) (some (.int res.1)) := by
  refine MC_of (own := "LostLanesModel") (by decide) rfl (Nat.le_of_ble_eq_true rfl) ?_
  intro p e s m args below meth c A Q X hr hlk hA hQ
  refine g_lv [0] (lv' := [(0, .ref h)]) rfl ?_
  unfold M_passNow at hf
  refine g_aload_n X dX11_passNow_0 0 rfl ?_
  refine m_get_3 X dX11_passNow_1 ?_
  refine g_iconst X dX11_passNow_4 kc_5 ?_
  refine m_aldc_3 X kt_5 kx_5_5476 dX11_passNow_5 ?_
  refine g_sipush X dX11_passNow_6 ks_999 ?_
  refine g_icmp_ne (tgt := 15) X dX11_passNow_9 (by decide) hf (fun hf => ?_) (fun hf => ?_)
  · refine g_aload_n X dX11_passNow_15 0 rfl ?_
    refine g_iconst X dX11_passNow_16 kc_3 ?_
    refine m_bind hf (fun q1 hq1 hf => ?_)
    refine m_callV_v (As := [.int (3 : Int32)]) (st := []) X kV_433 (c_remember l dC dI E h r F S (3 : Int32) q1 hq1) ⟨Nat.le_of_ble_eq_true rfl, Nat.le_of_ble_eq_true rfl⟩ ⟨rfl, rfl⟩ (Nat.le_of_ble_eq_true rfl) ⟨Nat.le_of_ble_eq_true rfl, Nat.le_of_ble_eq_true rfl⟩ dX11_passNow_17 ?_
    refine g_aload_n X dX11_passNow_20 0 rfl ?_
    refine m_bind hf (fun q2 hq2 hf => ?_)
    refine m_callV_i (As := []) (st := []) X kV_451 (c_passIt l dC dI E h r F q1.2 q2 hq2) ⟨Nat.le_of_ble_eq_true rfl, Nat.le_of_ble_eq_true rfl⟩ ⟨rfl, rfl⟩ (Nat.le_of_ble_eq_true rfl) ⟨Nat.le_of_ble_eq_true rfl, Nat.le_of_ble_eq_true rfl⟩ dX11_passNow_21 ?_
    exact m_reti_s hA hQ X hr hlk dX11_passNow_24 hf
  refine g_bipush X dX11_passNow_12 kb_m3 ?_
  exact m_reti_s hA hQ X hr hlk dX11_passNow_14 hf
def rm_pass : Room := { frames := 10, cells := 0, slots := 0, locals := 233 }
set_option maxRecDepth 100000 in
set_option maxHeartbeats 4000000 in
theorem c_pass (l : Launch) (dC : Nat → ClassId) (dI : Nat → Nat → Nat) (E : Nat → ClassId) (h : Nat) (r : Nat → Nat) (F : Nat) (S : MS)  (res : Int32 × MS) (hf : M_pass F S = some res) : MC l dC dI E yX11_pass cX11_pass 1 (some .int) rm_pass [.ref h] (MW E h r S) (MW E h r res.2) (some (.int res.1)) := by
  refine MC_of (own := "LostLanesModel") (by decide) rfl (Nat.le_of_ble_eq_true rfl) ?_
  intro p e s m args below meth c A Q X hr hlk hA hQ
  refine g_lv [0] (lv' := [(0, .ref h)]) rfl ?_
  unfold M_pass at hf
  refine g_aload_n X dX11_pass_0 0 rfl ?_
  refine g_iconst X dX11_pass_1 kc_0 ?_
  refine m_put_0 X dX11_pass_2 hf (fun S1 hf => ?_)
  refine g_aload_n X dX11_pass_5 0 rfl ?_
  refine g_aload_n X dX11_pass_6 0 rfl ?_
  refine m_bind hf (fun q2 hq2 hf => ?_)
  refine m_callV_i (As := []) (st := [.ref h]) X kV_454 (c_passNow l dC dI E h r F S1 q2 hq2) ⟨Nat.le_of_ble_eq_true rfl, Nat.le_of_ble_eq_true rfl⟩ ⟨rfl, rfl⟩ (Nat.le_of_ble_eq_true rfl) ⟨Nat.le_of_ble_eq_true rfl, Nat.le_of_ble_eq_true rfl⟩ dX11_pass_7 ?_
  refine m_bind hf (fun q3 hq3 hf => ?_)
  refine m_callV_i (As := [.int q2.1]) (st := []) X kV_168 (c_tell l dC dI E h r q2.2 q2.1 q3 hq3) ⟨Nat.le_of_ble_eq_true rfl, Nat.le_of_ble_eq_true rfl⟩ ⟨rfl, rfl⟩ (Nat.le_of_ble_eq_true rfl) ⟨Nat.le_of_ble_eq_true rfl, Nat.le_of_ble_eq_true rfl⟩ dX11_pass_10 ?_
  exact m_reti_s hA hQ X hr hlk dX11_pass_13 hf
def rm_where : Room := { frames := 9, cells := 0, slots := 0, locals := 213 }
set_option maxRecDepth 100000 in
set_option maxHeartbeats 4000000 in
theorem c_where (l : Launch) (dC : Nat → ClassId) (dI : Nat → Nat → Nat) (E : Nat → ClassId) (h : Nat) (r : Nat → Nat) (F : Nat) (S : MS) (x1 : Int32) (x2 : Int32) (res : Int32 × MS) (hf : M_where F S x1 x2 = some res) : MC l dC dI E yX11_where cX11_where 4 (some .int) rm_where [.ref h, .int x1, .int x2] (MW E h r S) (MW E h r res.2) (some (.int res.1)) := by
  refine MC_of (own := "LostLanesModel") (by decide) rfl (Nat.le_of_ble_eq_true rfl) ?_
  intro p e s m args below meth c A Q X hr hlk hA hQ
  have hL35 : ∀ (x1 : Int32) (x2 : Int32) (n : Nat) (S : MS) (x3 : Int32), M_where_L35 F x1 x2 n S x3 = some res → GG p l e rm_where s m args below meth c dC dI A 4 0 0 Q (MW E h r S) 35 [(0, .ref h), (1, .int x1), (2, .int x2), (3, .int x3)] [] := by
    intro x1 x2 n
    induction n with
    | zero => intro S x3 hf; have hf : (none : Option (Int32 × MS)) = some res := hf; cases hf
    | succ n ih =>
      intro S x3 hf
      rw [M_where_L35] at hf
      refine g_iload_n X dX11_where_35 3 rfl ?_
      refine g_iload_n X dX11_where_36 2 rfl ?_
      refine g_icmp_ge (tgt := 51) X dX11_where_37 (by decide) hf (fun hf => ?_) (fun hf => ?_)
      · refine g_aload_n X dX11_where_51 0 rfl ?_
        refine m_get_3 X dX11_where_52 ?_
        refine g_bipush X dX11_where_55 kb_18 ?_
        refine g_iload_n X dX11_where_57 1 rfl ?_
        refine g_iadd X dX11_where_58 ?_
        refine m_ald_3 X dX11_where_59 hf (fun hf => ?_)
        refine g_istore_n (i := 3) (lv' := [(3, .int (ma S 3 (((18 : Int32) + x1)).toNatClampNeg)), (0, .ref h), (1, .int x1), (2, .int x2)]) X dX11_where_60 rfl (by decide) rfl ?_
        refine g_aload_n X dX11_where_61 1 rfl ?_
        refine g_bipush X dX11_where_62 kb_16 ?_
        refine m_bind hf (fun q1 hq1 hf => ?_)
        refine m_callV_v (As := [.int (16 : Int32)]) (st := []) X kV_176 (c_putBack l dC dI E h r F S (16 : Int32) q1 hq1) ⟨Nat.le_of_ble_eq_true rfl, Nat.le_of_ble_eq_true rfl⟩ ⟨rfl, rfl⟩ (Nat.le_of_ble_eq_true rfl) ⟨Nat.le_of_ble_eq_true rfl, Nat.le_of_ble_eq_true rfl⟩ dX11_where_64 ?_
        refine g_iload_n X dX11_where_67 0 rfl ?_
        exact m_reti_s hA hQ X hr hlk dX11_where_68 hf
      refine g_aload_n X dX11_where_40 0 rfl ?_
      refine m_bind hf (fun q2 hq2 hf => ?_)
      refine m_callV_i (As := []) (st := []) X kV_451 (c_passIt l dC dI E h r F S q2 hq2) ⟨Nat.le_of_ble_eq_true rfl, Nat.le_of_ble_eq_true rfl⟩ ⟨rfl, rfl⟩ (Nat.le_of_ble_eq_true rfl) ⟨Nat.le_of_ble_eq_true rfl, Nat.le_of_ble_eq_true rfl⟩ dX11_where_41 ?_
      refine g_pop X dX11_where_44 rfl ?_
      refine g_iinc (lv' := [(3, .int (x3 + (1 : Int32))), (0, .ref h), (1, .int x1), (2, .int x2)]) X dX11_where_45 3 rfl kc_1 (by decide) rfl ?_
      refine g_goto (tgt := 35) X dX11_where_48 (by decide) ?_
      refine g_lv [1, 2, 3, 0] (lv' := [(0, .ref h), (1, .int x1), (2, .int x2), (3, .int (x3 + (1 : Int32)))]) rfl ?_
      exact ih _ _ hf
  refine g_lv [0, 1, 2] (lv' := [(0, .ref h), (1, .int x1), (2, .int x2)]) rfl ?_
  unfold M_where at hf
  refine g_aload_n X dX11_where_0 0 rfl ?_
  refine g_iconst X dX11_where_1 kc_0 ?_
  refine m_put_0 X dX11_where_2 hf (fun S3 hf => ?_)
  refine g_aload_n X dX11_where_5 0 rfl ?_
  refine g_iload_n X dX11_where_6 1 rfl ?_
  refine m_bind hf (fun q4 hq4 hf => ?_)
  refine m_callV_i (As := [.int x1]) (st := []) X kV_203 (c_isChild l dC dI E h r S3 x1 q4 hq4) ⟨Nat.le_of_ble_eq_true rfl, Nat.le_of_ble_eq_true rfl⟩ ⟨rfl, rfl⟩ (Nat.le_of_ble_eq_true rfl) ⟨Nat.le_of_ble_eq_true rfl, Nat.le_of_ble_eq_true rfl⟩ dX11_where_7 ?_
  refine g_if_eq (tgt := 25) X dX11_where_10 (by decide) hf (fun hf => ?_) (fun hf => ?_)
  · refine g_iconst X dX11_where_25 kc_m1 ?_
    exact m_reti_s hA hQ X hr hlk dX11_where_26 hf
  refine g_iload_n X dX11_where_13 2 rfl ?_
  refine g_i2l X dX11_where_14 ?_
  refine g_lconst X dX11_where_15 kl_0 ?_
  refine g_ldc2 X dX11_where_16 wd7_174 ?_
  refine m_bind hf (fun q5 hq5 hf => ?_)
  refine m_callS_i (As := [.long (x2).toInt64, .long (0 : Int64), .long (60 : Int64)]) (st := []) X kS_179 (c_in l dC dI E h r S3 (x2).toInt64 (0 : Int64) (60 : Int64) q5 hq5) ⟨Nat.le_of_ble_eq_true rfl, Nat.le_of_ble_eq_true rfl⟩ ⟨rfl, rfl⟩ (Nat.le_of_ble_eq_true rfl) ⟨Nat.le_of_ble_eq_true rfl, Nat.le_of_ble_eq_true rfl⟩ dX11_where_19 ?_
  refine g_if_ne (tgt := 27) X dX11_where_22 (by decide) hf (fun hf => ?_) (fun hf => ?_)
  · refine g_aload_n X dX11_where_27 0 rfl ?_
    refine g_bipush X dX11_where_28 kb_16 ?_
    refine m_bind hf (fun q6 hq6 hf => ?_)
    refine m_callV_v (As := [.int (16 : Int32)]) (st := []) X kV_172 (c_keepAll l dC dI E h r F S3 (16 : Int32) q6 hq6) ⟨Nat.le_of_ble_eq_true rfl, Nat.le_of_ble_eq_true rfl⟩ ⟨rfl, rfl⟩ (Nat.le_of_ble_eq_true rfl) ⟨Nat.le_of_ble_eq_true rfl, Nat.le_of_ble_eq_true rfl⟩ dX11_where_30 ?_
    refine g_iconst X dX11_where_33 kc_0 ?_
    refine g_istore_n (i := 3) (lv' := [(3, .int (0 : Int32)), (0, .ref h), (1, .int x1), (2, .int x2)]) X dX11_where_34 rfl (by decide) rfl ?_
    refine g_lv [1, 2, 3, 0] (lv' := [(0, .ref h), (1, .int x1), (2, .int x2), (3, .int (0 : Int32))]) rfl ?_
    exact hL35 _ _ _ _ _ hf
  refine g_iconst X dX11_where_25 kc_m1 ?_
  exact m_reti_s hA hQ X hr hlk dX11_where_26 hf
def rm_layFar : Room := { frames := 0, cells := 0, slots := 0, locals := 0 }
set_option maxRecDepth 100000 in
set_option maxHeartbeats 4000000 in
theorem c_layFar (l : Launch) (dC : Nat → ClassId) (dI : Nat → Nat → Nat) (E : Nat → ClassId) (h : Nat) (r : Nat → Nat) (F : Nat) (S : MS)  (res : Unit × MS) (hf : M_layFar F S = some res) : MC l dC dI E yX11_layFar cX11_layFar 5 none rm_layFar [.ref h] (MW E h r S) (MW E h r res.2) none := by
  refine MC_of (own := "LostLanesModel") (by decide) rfl (Nat.le_of_ble_eq_true rfl) ?_
  intro p e s m args below meth c A Q X hr hlk hA hQ
  have hB243 : ∀ (x1 : Int32) (x2 : Int32) (k154 : MS → Int32 → Option (Unit × MS)) (hk154 : ∀ (S : MS) (x1 : Int32), k154 S x1 = some res → GG p l e rm_layFar s m args below meth c dC dI A 5 0 0 Q (MW E h r S) 154 [(0, .ref h), (1, .int x1)] []) (k162 : MS → Int32 → Option (Unit × MS)) (hk162 : ∀ (S : MS) (x2 : Int32), k162 S x2 = some res → GG p l e rm_layFar s m args below meth c dC dI A 5 0 0 Q (MW E h r S) 162 [(0, .ref h), (1, .int x1), (2, .int x2)] []) (k170 : MS → Int32 → Option (Unit × MS)) (hk170 : ∀ (S : MS) (x3 : Int32), k170 S x3 = some res → GG p l e rm_layFar s m args below meth c dC dI A 5 0 0 Q (MW E h r S) 170 [(0, .ref h), (1, .int x1), (2, .int x2), (3, .int x3)] []) (S : MS) (x3 : Int32) (t1 : Int32) (t2 : Int32), M_layFar_B243 F k154 k162 k170 S x1 x2 x3 t1 t2 = some res → GG p l e rm_layFar s m args below meth c dC dI A 5 0 0 Q (MW E h r S) 243 [(0, .ref h), (1, .int x1), (2, .int x2), (3, .int x3)] [.int t2, .int t1, .ref (r 42)] := by
    intro x1 x2 k154 hk154 k162 hk162 k170 hk170 S x3 t1 t2 hf
    unfold M_layFar_B243 at hf
    refine m_ast_42 X dX11_layFar_243 hf (fun S1 hf => ?_)
    refine g_iinc (lv' := [(3, .int (x3 + (1 : Int32))), (0, .ref h), (1, .int x1), (2, .int x2)]) X dX11_layFar_244 3 rfl kc_1 (by decide) rfl ?_
    refine g_goto (tgt := 170) X dX11_layFar_247 (by decide) ?_
    refine g_lv [1, 2, 3, 0] (lv' := [(0, .ref h), (1, .int x1), (2, .int x2), (3, .int (x3 + (1 : Int32)))]) rfl ?_
    exact hk170 _ _ hf
  have hL170 : ∀ (x1 : Int32) (k154 : MS → Int32 → Option (Unit × MS)) (hk154 : ∀ (S : MS) (x1 : Int32), k154 S x1 = some res → GG p l e rm_layFar s m args below meth c dC dI A 5 0 0 Q (MW E h r S) 154 [(0, .ref h), (1, .int x1)] []) (k162 : MS → Int32 → Option (Unit × MS)) (hk162 : ∀ (S : MS) (x2 : Int32), k162 S x2 = some res → GG p l e rm_layFar s m args below meth c dC dI A 5 0 0 Q (MW E h r S) 162 [(0, .ref h), (1, .int x1), (2, .int x2)] []) (x2 : Int32) (n : Nat) (S : MS) (x3 : Int32), M_layFar_L170 F k154 k162 x1 x2 n S x3 = some res → GG p l e rm_layFar s m args below meth c dC dI A 5 0 0 Q (MW E h r S) 170 [(0, .ref h), (1, .int x1), (2, .int x2), (3, .int x3)] [] := by
    intro x1 k154 hk154 k162 hk162 x2 n
    induction n with
    | zero => intro S x3 hf; have hf : (none : Option (Unit × MS)) = some res := hf; cases hf
    | succ n ih =>
      intro S x3 hf
      rw [M_layFar_L170] at hf
      refine g_iload_n X dX11_layFar_170 3 rfl ?_
      refine g_bipush X dX11_layFar_171 kb_8 ?_
      refine g_icmp_ge (tgt := 250) X dX11_layFar_173 (by decide) hf (fun hf => ?_) (fun hf => ?_)
      · refine g_iinc (lv' := [(2, .int (x2 + (1 : Int32))), (0, .ref h), (1, .int x1), (3, .int x3)]) X dX11_layFar_250 2 rfl kc_1 (by decide) rfl ?_
        refine g_goto (tgt := 162) X dX11_layFar_253 (by decide) ?_
        refine g_lv [1, 2, 0] (lv' := [(0, .ref h), (1, .int x1), (2, .int (x2 + (1 : Int32)))]) rfl ?_
        exact hk162 _ _ hf
      refine g_aload_n X dX11_layFar_176 0 rfl ?_
      refine m_get_42 X dX11_layFar_177 ?_
      refine g_bipush X dX11_layFar_180 kb_8 ?_
      refine g_iload_n X dX11_layFar_182 2 rfl ?_
      refine g_imul X dX11_layFar_183 ?_
      refine g_iload_n X dX11_layFar_184 1 rfl ?_
      refine g_iadd X dX11_layFar_185 ?_
      refine m_ald_42 X dX11_layFar_186 hf (fun hf => ?_)
      refine g_aload_n X dX11_layFar_187 0 rfl ?_
      refine m_get_42 X dX11_layFar_188 ?_
      refine g_bipush X dX11_layFar_191 kb_8 ?_
      refine g_iload_n X dX11_layFar_193 1 rfl ?_
      refine g_imul X dX11_layFar_194 ?_
      refine g_iload_n X dX11_layFar_195 3 rfl ?_
      refine g_iadd X dX11_layFar_196 ?_
      refine m_ald_42 X dX11_layFar_197 hf (fun hf => ?_)
      refine g_iadd X dX11_layFar_198 ?_
      refine g_istore (lv' := [(4, .int ((ma S 42 ((((8 : Int32) * x2) + x1)).toNatClampNeg) + (ma S 42 ((((8 : Int32) * x1) + x3)).toNatClampNeg))), (0, .ref h), (1, .int x1), (2, .int x2), (3, .int x3)]) X dX11_layFar_199 (by decide) rfl ?_
      refine g_aload_n X dX11_layFar_201 1 rfl ?_
      refine m_get_42 X dX11_layFar_202 ?_
      refine g_bipush X dX11_layFar_205 kb_8 ?_
      refine g_iload_n X dX11_layFar_207 3 rfl ?_
      refine g_imul X dX11_layFar_208 ?_
      refine g_iload_n X dX11_layFar_209 4 rfl ?_
      refine g_iadd X dX11_layFar_210 ?_
      refine g_iload X dX11_layFar_211 0 rfl ?_
      refine g_aload_n X dX11_layFar_213 1 rfl ?_
      refine m_get_42 X dX11_layFar_214 ?_
      refine g_bipush X dX11_layFar_217 kb_8 ?_
      refine g_iload_n X dX11_layFar_219 3 rfl ?_
      refine g_imul X dX11_layFar_220 ?_
      refine g_iload_n X dX11_layFar_221 4 rfl ?_
      refine g_iadd X dX11_layFar_222 ?_
      refine m_ald_42 X dX11_layFar_223 hf (fun hf => ?_)
      refine g_icmp_ge (tgt := 232) X dX11_layFar_224 (by decide) hf (fun hf => ?_) (fun hf => ?_)
      · refine g_aload_n X dX11_layFar_232 1 rfl ?_
        refine m_get_42 X dX11_layFar_233 ?_
        refine g_bipush X dX11_layFar_236 kb_8 ?_
        refine g_iload_n X dX11_layFar_238 3 rfl ?_
        refine g_imul X dX11_layFar_239 ?_
        refine g_iload_n X dX11_layFar_240 4 rfl ?_
        refine g_iadd X dX11_layFar_241 ?_
        refine m_ald_42 X dX11_layFar_242 hf (fun hf => ?_)
        refine g_lv [1, 2, 3, 4] (lv' := [(0, .ref h), (1, .int x1), (2, .int x2), (3, .int x3)]) rfl ?_
        exact hB243 _ _ _ hk154 _ hk162 _ ih _ _ _ _ hf
      refine g_iload X dX11_layFar_227 0 rfl ?_
      refine g_goto (tgt := 243) X dX11_layFar_229 (by decide) ?_
      refine g_lv [1, 2, 3, 4] (lv' := [(0, .ref h), (1, .int x1), (2, .int x2), (3, .int x3)]) rfl ?_
      exact hB243 _ _ _ hk154 _ hk162 _ ih _ _ _ _ hf
  have hL162 : ∀ (k154 : MS → Int32 → Option (Unit × MS)) (hk154 : ∀ (S : MS) (x1 : Int32), k154 S x1 = some res → GG p l e rm_layFar s m args below meth c dC dI A 5 0 0 Q (MW E h r S) 154 [(0, .ref h), (1, .int x1)] []) (x1 : Int32) (n : Nat) (S : MS) (x2 : Int32), M_layFar_L162 F k154 x1 n S x2 = some res → GG p l e rm_layFar s m args below meth c dC dI A 5 0 0 Q (MW E h r S) 162 [(0, .ref h), (1, .int x1), (2, .int x2)] [] := by
    intro k154 hk154 x1 n
    induction n with
    | zero => intro S x2 hf; have hf : (none : Option (Unit × MS)) = some res := hf; cases hf
    | succ n ih =>
      intro S x2 hf
      rw [M_layFar_L162] at hf
      refine g_iload_n X dX11_layFar_162 2 rfl ?_
      refine g_bipush X dX11_layFar_163 kb_8 ?_
      refine g_icmp_ge (tgt := 256) X dX11_layFar_165 (by decide) hf (fun hf => ?_) (fun hf => ?_)
      · refine g_iinc (lv' := [(1, .int (x1 + (1 : Int32))), (0, .ref h), (2, .int x2)]) X dX11_layFar_256 1 rfl kc_1 (by decide) rfl ?_
        refine g_goto (tgt := 154) X dX11_layFar_259 (by decide) ?_
        refine g_lv [1, 0] (lv' := [(0, .ref h), (1, .int (x1 + (1 : Int32)))]) rfl ?_
        exact hk154 _ _ hf
      refine g_iconst X dX11_layFar_168 kc_0 ?_
      refine g_istore_n (i := 3) (lv' := [(3, .int (0 : Int32)), (0, .ref h), (1, .int x1), (2, .int x2)]) X dX11_layFar_169 rfl (by decide) rfl ?_
      refine g_lv [1, 2, 3, 0] (lv' := [(0, .ref h), (1, .int x1), (2, .int x2), (3, .int (0 : Int32))]) rfl ?_
      exact hL170 _ _ hk154 _ ih _ _ _ _ hf
  have hL154 : ∀  (n : Nat) (S : MS) (x1 : Int32), M_layFar_L154 F n S x1 = some res → GG p l e rm_layFar s m args below meth c dC dI A 5 0 0 Q (MW E h r S) 154 [(0, .ref h), (1, .int x1)] [] := by
    intro  n
    induction n with
    | zero => intro S x1 hf; have hf : (none : Option (Unit × MS)) = some res := hf; cases hf
    | succ n ih =>
      intro S x1 hf
      rw [M_layFar_L154] at hf
      refine g_iload_n X dX11_layFar_154 1 rfl ?_
      refine g_bipush X dX11_layFar_155 kb_8 ?_
      refine g_icmp_ge (tgt := 262) X dX11_layFar_157 (by decide) hf (fun hf => ?_) (fun hf => ?_)
      · exact m_retv_s hA hQ X hr hlk dX11_layFar_262 hf
      refine g_iconst X dX11_layFar_160 kc_0 ?_
      refine g_istore_n (i := 2) (lv' := [(2, .int (0 : Int32)), (0, .ref h), (1, .int x1)]) X dX11_layFar_161 rfl (by decide) rfl ?_
      refine g_lv [1, 2, 0] (lv' := [(0, .ref h), (1, .int x1), (2, .int (0 : Int32))]) rfl ?_
      exact hL162 _ ih _ _ _ _ hf
  have hB123 : ∀ (k40 : MS → Int32 → Option (Unit × MS)) (hk40 : ∀ (S : MS) (x1 : Int32), k40 S x1 = some res → GG p l e rm_layFar s m args below meth c dC dI A 5 0 0 Q (MW E h r S) 40 [(0, .ref h), (1, .int x1)] []) (S : MS) (x1 : Int32) (x2 : Int32) (x3 : Int32) (t1 : Int32) (t2 : Int32), M_layFar_B123 F k40 S x1 x2 x3 t1 t2 = some res → GG p l e rm_layFar s m args below meth c dC dI A 5 0 0 Q (MW E h r S) 123 [(0, .ref h), (1, .int x1), (2, .int x2), (3, .int x3)] [.int t2, .int t1, .ref (r 42)] := by
    intro k40 hk40 S x1 x2 x3 t1 t2 hf
    unfold M_layFar_B123 at hf
    refine m_ast_42 X dX11_layFar_123 hf (fun S2 hf => ?_)
    refine g_aload_n X dX11_layFar_124 0 rfl ?_
    refine m_get_42 X dX11_layFar_125 ?_
    refine g_bipush X dX11_layFar_128 kb_8 ?_
    refine g_iload_n X dX11_layFar_130 3 rfl ?_
    refine g_imul X dX11_layFar_131 ?_
    refine g_iload_n X dX11_layFar_132 2 rfl ?_
    refine g_iadd X dX11_layFar_133 ?_
    refine g_aload_n X dX11_layFar_134 0 rfl ?_
    refine m_get_42 X dX11_layFar_135 ?_
    refine g_bipush X dX11_layFar_138 kb_8 ?_
    refine g_iload_n X dX11_layFar_140 2 rfl ?_
    refine g_imul X dX11_layFar_141 ?_
    refine g_iload_n X dX11_layFar_142 3 rfl ?_
    refine g_iadd X dX11_layFar_143 ?_
    refine m_ald_42 X dX11_layFar_144 hf (fun hf => ?_)
    refine m_ast_42 X dX11_layFar_145 hf (fun S3 hf => ?_)
    refine g_iinc (lv' := [(1, .int (x1 + (1 : Int32))), (0, .ref h), (2, .int x2), (3, .int x3)]) X dX11_layFar_146 1 rfl kc_1 (by decide) rfl ?_
    refine g_goto (tgt := 40) X dX11_layFar_149 (by decide) ?_
    refine g_lv [1, 0] (lv' := [(0, .ref h), (1, .int (x1 + (1 : Int32)))]) rfl ?_
    exact hk40 _ _ hf
  have hL40 : ∀  (n : Nat) (S : MS) (x1 : Int32), M_layFar_L40 F n S x1 = some res → GG p l e rm_layFar s m args below meth c dC dI A 5 0 0 Q (MW E h r S) 40 [(0, .ref h), (1, .int x1)] [] := by
    intro  n
    induction n with
    | zero => intro S x1 hf; have hf : (none : Option (Unit × MS)) = some res := hf; cases hf
    | succ n ih =>
      intro S x1 hf
      rw [M_layFar_L40] at hf
      refine g_iload_n X dX11_layFar_40 1 rfl ?_
      refine g_aload_n X dX11_layFar_41 0 rfl ?_
      refine m_get_3 X dX11_layFar_42 ?_
      refine g_iconst X dX11_layFar_45 kc_0 ?_
      refine m_aldc_3 X kt_0 kx_0_5476 dX11_layFar_46 ?_
      refine g_icmp_ge (tgt := 152) X dX11_layFar_47 (by decide) hf (fun hf => ?_) (fun hf => ?_)
      · refine g_iconst X dX11_layFar_152 kc_0 ?_
        refine g_istore_n (i := 1) (lv' := [(1, .int (0 : Int32)), (0, .ref h)]) X dX11_layFar_153 rfl (by decide) rfl ?_
        refine g_lv [1, 0] (lv' := [(0, .ref h), (1, .int (0 : Int32))]) rfl ?_
        exact hL154 _ _ _ hf
      refine g_aload_n X dX11_layFar_50 0 rfl ?_
      refine m_get_3 X dX11_layFar_51 ?_
      refine g_bipush X dX11_layFar_54 kb_26 ?_
      refine g_iload_n X dX11_layFar_56 1 rfl ?_
      refine g_iadd X dX11_layFar_57 ?_
      refine m_ald_3 X dX11_layFar_58 hf (fun hf => ?_)
      refine g_istore_n (i := 2) (lv' := [(2, .int (ma S 3 (((26 : Int32) + x1)).toNatClampNeg)), (0, .ref h), (1, .int x1)]) X dX11_layFar_59 rfl (by decide) rfl ?_
      refine g_aload_n X dX11_layFar_60 1 rfl ?_
      refine m_get_3 X dX11_layFar_61 ?_
      refine g_bipush X dX11_layFar_64 kb_36 ?_
      refine g_iload_n X dX11_layFar_66 2 rfl ?_
      refine g_iadd X dX11_layFar_67 ?_
      refine m_ald_3 X dX11_layFar_68 hf (fun hf => ?_)
      refine g_istore_n (i := 3) (lv' := [(3, .int (ma S 3 (((36 : Int32) + x1)).toNatClampNeg)), (2, .int (ma S 3 (((26 : Int32) + x1)).toNatClampNeg)), (0, .ref h), (1, .int x1)]) X dX11_layFar_69 rfl (by decide) rfl ?_
      refine g_aload_n X dX11_layFar_70 2 rfl ?_
      refine m_get_3 X dX11_layFar_71 ?_
      refine g_bipush X dX11_layFar_74 kb_46 ?_
      refine g_iload_n X dX11_layFar_76 3 rfl ?_
      refine g_iadd X dX11_layFar_77 ?_
      refine m_ald_3 X dX11_layFar_78 hf (fun hf => ?_)
      refine g_istore (lv' := [(4, .int (ma S 3 (((46 : Int32) + x1)).toNatClampNeg)), (3, .int (ma S 3 (((36 : Int32) + x1)).toNatClampNeg)), (2, .int (ma S 3 (((26 : Int32) + x1)).toNatClampNeg)), (0, .ref h), (1, .int x1)]) X dX11_layFar_79 (by decide) rfl ?_
      refine g_aload_n X dX11_layFar_81 3 rfl ?_
      refine m_get_42 X dX11_layFar_82 ?_
      refine g_bipush X dX11_layFar_85 kb_8 ?_
      refine g_iload_n X dX11_layFar_87 2 rfl ?_
      refine g_imul X dX11_layFar_88 ?_
      refine g_iload_n X dX11_layFar_89 1 rfl ?_
      refine g_iadd X dX11_layFar_90 ?_
      refine g_iload X dX11_layFar_91 0 rfl ?_
      refine g_aload_n X dX11_layFar_93 3 rfl ?_
      refine m_get_42 X dX11_layFar_94 ?_
      refine g_bipush X dX11_layFar_97 kb_8 ?_
      refine g_iload_n X dX11_layFar_99 2 rfl ?_
      refine g_imul X dX11_layFar_100 ?_
      refine g_iload_n X dX11_layFar_101 1 rfl ?_
      refine g_iadd X dX11_layFar_102 ?_
      refine m_ald_42 X dX11_layFar_103 hf (fun hf => ?_)
      refine g_icmp_ge (tgt := 112) X dX11_layFar_104 (by decide) hf (fun hf => ?_) (fun hf => ?_)
      · refine g_aload_n X dX11_layFar_112 3 rfl ?_
        refine m_get_42 X dX11_layFar_113 ?_
        refine g_bipush X dX11_layFar_116 kb_8 ?_
        refine g_iload_n X dX11_layFar_118 2 rfl ?_
        refine g_imul X dX11_layFar_119 ?_
        refine g_iload_n X dX11_layFar_120 1 rfl ?_
        refine g_iadd X dX11_layFar_121 ?_
        refine m_ald_42 X dX11_layFar_122 hf (fun hf => ?_)
        refine g_lv [3, 4, 2, 1] (lv' := [(0, .ref h), (1, .int x1), (2, .int (ma S 3 (((26 : Int32) + x1)).toNatClampNeg)), (3, .int (ma S 3 (((36 : Int32) + x1)).toNatClampNeg))]) rfl ?_
        exact hB123 _ ih _ _ _ _ _ _ hf
      refine g_iload X dX11_layFar_107 0 rfl ?_
      refine g_goto (tgt := 123) X dX11_layFar_109 (by decide) ?_
      refine g_lv [3, 4, 2, 1] (lv' := [(0, .ref h), (1, .int x1), (2, .int (ma S 3 (((26 : Int32) + x1)).toNatClampNeg)), (3, .int (ma S 3 (((36 : Int32) + x1)).toNatClampNeg))]) rfl ?_
      exact hB123 _ ih _ _ _ _ _ _ hf
  have hB31 : ∀ (k2 : MS → Int32 → Option (Unit × MS)) (hk2 : ∀ (S : MS) (x1 : Int32), k2 S x1 = some res → GG p l e rm_layFar s m args below meth c dC dI A 5 0 0 Q (MW E h r S) 2 [(0, .ref h), (1, .int x1)] []) (S : MS) (x1 : Int32) (t1 : Int32) (t2 : Int32), M_layFar_B31 F k2 S x1 t1 t2 = some res → GG p l e rm_layFar s m args below meth c dC dI A 5 0 0 Q (MW E h r S) 31 [(0, .ref h), (1, .int x1)] [.int t2, .int t1, .ref (r 42)] := by
    intro k2 hk2 S x1 t1 t2 hf
    unfold M_layFar_B31 at hf
    refine m_ast_42 X dX11_layFar_31 hf (fun S4 hf => ?_)
    refine g_iinc (lv' := [(1, .int (x1 + (1 : Int32))), (0, .ref h)]) X dX11_layFar_32 1 rfl kc_1 (by decide) rfl ?_
    refine g_goto (tgt := 2) X dX11_layFar_35 (by decide) ?_
    refine g_lv [1, 0] (lv' := [(0, .ref h), (1, .int (x1 + (1 : Int32)))]) rfl ?_
    exact hk2 _ _ hf
  have hL2 : ∀  (n : Nat) (S : MS) (x1 : Int32), M_layFar_L2 F n S x1 = some res → GG p l e rm_layFar s m args below meth c dC dI A 5 0 0 Q (MW E h r S) 2 [(0, .ref h), (1, .int x1)] [] := by
    intro  n
    induction n with
    | zero => intro S x1 hf; have hf : (none : Option (Unit × MS)) = some res := hf; cases hf
    | succ n ih =>
      intro S x1 hf
      rw [M_layFar_L2] at hf
      refine g_iload_n X dX11_layFar_2 1 rfl ?_
      refine g_bipush X dX11_layFar_3 kb_64 ?_
      refine g_icmp_ge (tgt := 38) X dX11_layFar_5 (by decide) hf (fun hf => ?_) (fun hf => ?_)
      · refine g_iconst X dX11_layFar_38 kc_0 ?_
        refine g_istore_n (i := 1) (lv' := [(1, .int (0 : Int32)), (0, .ref h)]) X dX11_layFar_39 rfl (by decide) rfl ?_
        refine g_lv [1, 0] (lv' := [(0, .ref h), (1, .int (0 : Int32))]) rfl ?_
        exact hL40 _ _ _ hf
      refine g_aload_n X dX11_layFar_8 0 rfl ?_
      refine m_get_42 X dX11_layFar_9 ?_
      refine g_iload_n X dX11_layFar_12 1 rfl ?_
      refine g_iload_n X dX11_layFar_13 1 rfl ?_
      refine g_bipush X dX11_layFar_14 kb_8 ?_
      refine g_idiv X dX11_layFar_16 (by decide) ?_
      refine g_iload_n X dX11_layFar_17 1 rfl ?_
      refine g_bipush X dX11_layFar_18 kb_8 ?_
      refine g_irem X dX11_layFar_20 (by decide) ?_
      refine g_icmp_ne (tgt := 28) X dX11_layFar_21 (by decide) hf (fun hf => ?_) (fun hf => ?_)
      · refine g_ldcw X dX11_layFar_28 wd7_183 ?_
        exact hB31 _ ih _ _ _ _ hf
      refine g_iconst X dX11_layFar_24 kc_0 ?_
      refine g_goto (tgt := 31) X dX11_layFar_25 (by decide) ?_
      exact hB31 _ ih _ _ _ _ hf
  refine g_lv [0] (lv' := [(0, .ref h)]) rfl ?_
  unfold M_layFar at hf
  refine g_iconst X dX11_layFar_0 kc_0 ?_
  refine g_istore_n (i := 1) (lv' := [(1, .int (0 : Int32)), (0, .ref h)]) X dX11_layFar_1 rfl (by decide) rfl ?_
  refine g_lv [1, 0] (lv' := [(0, .ref h), (1, .int (0 : Int32))]) rfl ?_
  exact hL2 _ _ _ hf
def rm_farOf : Room := { frames := 0, cells := 0, slots := 0, locals := 0 }
set_option maxRecDepth 100000 in
set_option maxHeartbeats 4000000 in
theorem c_farOf (l : Launch) (dC : Nat → ClassId) (dI : Nat → Nat → Nat) (E : Nat → ClassId) (h : Nat) (r : Nat → Nat) (S : MS) (x1 : Int32) (x2 : Int32) (res : Int32) (hf : M_farOf S x1 x2 = some res) : MC l dC dI E yX11_farOf cX11_farOf 3 (some .int) rm_farOf [.ref h, .int x1, .int x2] (MW E h r S) (MW E h r S) (some (.int res)) := by
  refine MC_of (own := "LostLanesModel") (by decide) rfl (Nat.le_of_ble_eq_true rfl) ?_
  intro p e s m args below meth c A Q X hr hlk hA hQ
  refine g_lv [0, 1, 2] (lv' := [(0, .ref h), (1, .int x1), (2, .int x2)]) rfl ?_
  unfold M_farOf at hf
  refine g_aload_n X dX11_farOf_0 0 rfl ?_
  refine m_get_42 X dX11_farOf_1 ?_
  refine g_bipush X dX11_farOf_4 kb_8 ?_
  refine g_iload_n X dX11_farOf_6 1 rfl ?_
  refine g_imul X dX11_farOf_7 ?_
  refine g_iload_n X dX11_farOf_8 2 rfl ?_
  refine g_iadd X dX11_farOf_9 ?_
  refine m_ald_42 X dX11_farOf_10 hf (fun hf => ?_)
  refine g_ldcw X dX11_farOf_11 wd7_183 ?_
  refine g_icmp_lt (tgt := 23) X dX11_farOf_14 (by decide) hf (fun hf => ?_) (fun hf => ?_)
  · refine g_aload_n X dX11_farOf_23 0 rfl ?_
    refine m_get_42 X dX11_farOf_24 ?_
    refine g_bipush X dX11_farOf_27 kb_8 ?_
    refine g_iload_n X dX11_farOf_29 1 rfl ?_
    refine g_imul X dX11_farOf_30 ?_
    refine g_iload_n X dX11_farOf_31 2 rfl ?_
    refine g_iadd X dX11_farOf_32 ?_
    refine m_ald_42 X dX11_farOf_33 hf (fun hf => ?_)
    exact m_reti_o hA hQ X hr hlk dX11_farOf_34 hf
  refine g_ldcw X dX11_farOf_17 wd7_183 ?_
  refine g_goto (tgt := 34) X dX11_farOf_20 (by decide) ?_
  exact m_reti_o hA hQ X hr hlk dX11_farOf_34 hf
def rm_far : Room := { frames := 2, cells := 0, slots := 0, locals := 45 }
set_option maxRecDepth 100000 in
set_option maxHeartbeats 4000000 in
theorem c_far (l : Launch) (dC : Nat → ClassId) (dI : Nat → Nat → Nat) (E : Nat → ClassId) (h : Nat) (r : Nat → Nat) (F : Nat) (S : MS) (x1 : Int32) (x2 : Int32) (res : Int32 × MS) (hf : M_far F S x1 x2 = some res) : MC l dC dI E yX11_far cX11_far 3 (some .int) rm_far [.ref h, .int x1, .int x2] (MW E h r S) (MW E h r res.2) (some (.int res.1)) := by
  refine MC_of (own := "LostLanesModel") (by decide) rfl (Nat.le_of_ble_eq_true rfl) ?_
  intro p e s m args below meth c A Q X hr hlk hA hQ
  refine g_lv [0, 1, 2] (lv' := [(0, .ref h), (1, .int x1), (2, .int x2)]) rfl ?_
  unfold M_far at hf
  refine g_aload_n X dX11_far_0 0 rfl ?_
  refine g_iconst X dX11_far_1 kc_0 ?_
  refine m_put_0 X dX11_far_2 hf (fun S1 hf => ?_)
  refine g_iload_n X dX11_far_5 1 rfl ?_
  refine m_bind hf (fun q2 hq2 hf => ?_)
  refine m_callS_i (As := [.int x1]) (st := []) X kS_188 (c_isCorner l dC dI E h r S1 x1 q2 hq2) ⟨Nat.le_of_ble_eq_true rfl, Nat.le_of_ble_eq_true rfl⟩ ⟨rfl, rfl⟩ (Nat.le_of_ble_eq_true rfl) ⟨Nat.le_of_ble_eq_true rfl, Nat.le_of_ble_eq_true rfl⟩ dX11_far_6 ?_
  refine g_if_eq (tgt := 19) X dX11_far_9 (by decide) hf (fun hf => ?_) (fun hf => ?_)
  · refine g_iconst X dX11_far_19 kc_m1 ?_
    exact m_reti_s hA hQ X hr hlk dX11_far_20 hf
  refine g_iload_n X dX11_far_12 2 rfl ?_
  refine m_bind hf (fun q3 hq3 hf => ?_)
  refine m_callS_i (As := [.int x2]) (st := []) X kS_188 (c_isCorner l dC dI E h r S1 x2 q3 hq3) ⟨Nat.le_of_ble_eq_true rfl, Nat.le_of_ble_eq_true rfl⟩ ⟨rfl, rfl⟩ (Nat.le_of_ble_eq_true rfl) ⟨Nat.le_of_ble_eq_true rfl, Nat.le_of_ble_eq_true rfl⟩ dX11_far_13 ?_
  refine g_if_ne (tgt := 21) X dX11_far_16 (by decide) hf (fun hf => ?_) (fun hf => ?_)
  · refine g_aload_n X dX11_far_21 0 rfl ?_
    refine m_bind hf (fun q4 hq4 hf => ?_)
    refine m_callV_v (As := []) (st := []) X kV_460 (c_layFar l dC dI E h r F S1 q4 hq4) ⟨Nat.le_of_ble_eq_true rfl, Nat.le_of_ble_eq_true rfl⟩ ⟨rfl, rfl⟩ (Nat.le_of_ble_eq_true rfl) ⟨Nat.le_of_ble_eq_true rfl, Nat.le_of_ble_eq_true rfl⟩ dX11_far_22 ?_
    refine g_aload_n X dX11_far_25 0 rfl ?_
    refine g_iload_n X dX11_far_26 1 rfl ?_
    refine g_iload_n X dX11_far_27 2 rfl ?_
    refine m_bind hf (fun q5 hq5 hf => ?_)
    refine m_callV_i (As := [.int x1, .int x2]) (st := []) X kV_463 (c_farOf l dC dI E h r q4.2 x1 x2 q5 hq5) ⟨Nat.le_of_ble_eq_true rfl, Nat.le_of_ble_eq_true rfl⟩ ⟨rfl, rfl⟩ (Nat.le_of_ble_eq_true rfl) ⟨Nat.le_of_ble_eq_true rfl, Nat.le_of_ble_eq_true rfl⟩ dX11_far_28 ?_
    refine g_ldcw X dX11_far_31 wd7_183 ?_
    refine g_icmp_ne (tgt := 41) X dX11_far_34 (by decide) hf (fun hf => ?_) (fun hf => ?_)
    · refine g_aload_n X dX11_far_41 0 rfl ?_
      refine g_iload_n X dX11_far_42 1 rfl ?_
      refine g_iload_n X dX11_far_43 2 rfl ?_
      refine m_bind hf (fun q6 hq6 hf => ?_)
      refine m_callV_i (As := [.int x1, .int x2]) (st := []) X kV_463 (c_farOf l dC dI E h r q4.2 x1 x2 q6 hq6) ⟨Nat.le_of_ble_eq_true rfl, Nat.le_of_ble_eq_true rfl⟩ ⟨rfl, rfl⟩ (Nat.le_of_ble_eq_true rfl) ⟨Nat.le_of_ble_eq_true rfl, Nat.le_of_ble_eq_true rfl⟩ dX11_far_44 ?_
      exact m_reti_s hA hQ X hr hlk dX11_far_47 hf
    refine g_iconst X dX11_far_37 kc_m1 ?_
    refine g_goto (tgt := 47) X dX11_far_38 (by decide) ?_
    exact m_reti_s hA hQ X hr hlk dX11_far_47 hf
  refine g_iconst X dX11_far_19 kc_m1 ?_
  exact m_reti_s hA hQ X hr hlk dX11_far_20 hf
def rm_foundAt : Room := { frames := 9, cells := 0, slots := 0, locals := 213 }
set_option maxRecDepth 100000 in
set_option maxHeartbeats 4000000 in
theorem c_foundAt (l : Launch) (dC : Nat → ClassId) (dI : Nat → Nat → Nat) (E : Nat → ClassId) (h : Nat) (r : Nat → Nat) (F : Nat) (S : MS) (x1 : Int32) (x2 : Int32) (res : Int32 × MS) (hf : M_foundAt F S x1 x2 = some res) : MC l dC dI E yX11_foundAt cX11_foundAt 4 (some .int) rm_foundAt [.ref h, .int x1, .int x2] (MW E h r S) (MW E h r res.2) (some (.int res.1)) := by
  refine MC_of (own := "LostLanesModel") (by decide) rfl (Nat.le_of_ble_eq_true rfl) ?_
  intro p e s m args below meth c A Q X hr hlk hA hQ
  have hB43 : ∀ (S : MS) (x3 : Int32), M_foundAt_B43 F S x3 = some res → GG p l e rm_foundAt s m args below meth c dC dI A 4 0 0 Q (MW E h r S) 43 [(0, .ref h), (3, .int x3)] [] := by
    intro S x3 hf
    unfold M_foundAt_B43 at hf
    refine g_aload_n X dX11_foundAt_43 0 rfl ?_
    refine g_bipush X dX11_foundAt_44 kb_16 ?_
    refine m_bind hf (fun q1 hq1 hf => ?_)
    refine m_callV_v (As := [.int (16 : Int32)]) (st := []) X kV_176 (c_putBack l dC dI E h r F S (16 : Int32) q1 hq1) ⟨Nat.le_of_ble_eq_true rfl, Nat.le_of_ble_eq_true rfl⟩ ⟨rfl, rfl⟩ (Nat.le_of_ble_eq_true rfl) ⟨Nat.le_of_ble_eq_true rfl, Nat.le_of_ble_eq_true rfl⟩ dX11_foundAt_46 ?_
    refine g_iload_n X dX11_foundAt_49 1 rfl ?_
    refine g_bipush X dX11_foundAt_50 kb_60 ?_
    refine g_icmp_le (tgt := 61) X dX11_foundAt_52 (by decide) hf (fun hf => ?_) (fun hf => ?_)
    · refine g_iload_n X dX11_foundAt_61 1 rfl ?_
      exact m_reti_s hA hQ X hr hlk dX11_foundAt_62 hf
    refine g_ldcw X dX11_foundAt_55 wd7_183 ?_
    refine g_goto (tgt := 62) X dX11_foundAt_58 (by decide) ?_
    exact m_reti_s hA hQ X hr hlk dX11_foundAt_62 hf
  have hL8 : ∀ (x1 : Int32) (x2 : Int32) (n : Nat) (S : MS) (x3 : Int32), M_foundAt_L8 F x1 x2 n S x3 = some res → GG p l e rm_foundAt s m args below meth c dC dI A 4 0 0 Q (MW E h r S) 8 [(0, .ref h), (1, .int x1), (2, .int x2), (3, .int x3)] [] := by
    intro x1 x2 n
    induction n with
    | zero => intro S x3 hf; have hf : (none : Option (Int32 × MS)) = some res := hf; cases hf
    | succ n ih =>
      intro S x3 hf
      rw [M_foundAt_L8] at hf
      refine g_iload_n X dX11_foundAt_8 3 rfl ?_
      refine g_bipush X dX11_foundAt_9 kb_60 ?_
      refine g_icmp_gt (tgt := 43) X dX11_foundAt_11 (by decide) hf (fun hf => ?_) (fun hf => ?_)
      · refine g_lv [0, 3] (lv' := [(0, .ref h), (3, .int x3)]) rfl ?_
        exact hB43 _ _ hf
      refine g_aload_n X dX11_foundAt_14 0 rfl ?_
      refine g_iload_n X dX11_foundAt_15 1 rfl ?_
      refine g_aload_n X dX11_foundAt_16 0 rfl ?_
      refine m_get_3 X dX11_foundAt_17 ?_
      refine g_bipush X dX11_foundAt_20 kb_18 ?_
      refine g_iload_n X dX11_foundAt_22 2 rfl ?_
      refine g_iadd X dX11_foundAt_23 ?_
      refine m_ald_3 X dX11_foundAt_24 hf (fun hf => ?_)
      refine m_bind hf (fun q2 hq2 hf => ?_)
      refine m_callV_i (As := [.int x1, .int (ma S 3 (((18 : Int32) + x2)).toNatClampNeg)]) (st := []) X kV_463 (c_farOf l dC dI E h r S x1 (ma S 3 (((18 : Int32) + x2)).toNatClampNeg) q2 hq2) ⟨Nat.le_of_ble_eq_true rfl, Nat.le_of_ble_eq_true rfl⟩ ⟨rfl, rfl⟩ (Nat.le_of_ble_eq_true rfl) ⟨Nat.le_of_ble_eq_true rfl, Nat.le_of_ble_eq_true rfl⟩ dX11_foundAt_25 ?_
      refine g_iload_n X dX11_foundAt_28 3 rfl ?_
      refine g_icmp_le (tgt := 43) X dX11_foundAt_29 (by decide) hf (fun hf => ?_) (fun hf => ?_)
      · refine g_lv [0, 3] (lv' := [(0, .ref h), (3, .int x3)]) rfl ?_
        exact hB43 _ _ hf
      refine g_aload_n X dX11_foundAt_32 0 rfl ?_
      refine m_bind hf (fun q3 hq3 hf => ?_)
      refine m_callV_i (As := []) (st := []) X kV_451 (c_passIt l dC dI E h r F S q3 hq3) ⟨Nat.le_of_ble_eq_true rfl, Nat.le_of_ble_eq_true rfl⟩ ⟨rfl, rfl⟩ (Nat.le_of_ble_eq_true rfl) ⟨Nat.le_of_ble_eq_true rfl, Nat.le_of_ble_eq_true rfl⟩ dX11_foundAt_33 ?_
      refine g_pop X dX11_foundAt_36 rfl ?_
      refine g_iinc (lv' := [(3, .int (x3 + (1 : Int32))), (0, .ref h), (1, .int x1), (2, .int x2)]) X dX11_foundAt_37 3 rfl kc_1 (by decide) rfl ?_
      refine g_goto (tgt := 8) X dX11_foundAt_40 (by decide) ?_
      refine g_lv [1, 2, 3, 0] (lv' := [(0, .ref h), (1, .int x1), (2, .int x2), (3, .int (x3 + (1 : Int32)))]) rfl ?_
      exact ih _ _ hf
  refine g_lv [0, 1, 2] (lv' := [(0, .ref h), (1, .int x1), (2, .int x2)]) rfl ?_
  unfold M_foundAt at hf
  refine g_aload_n X dX11_foundAt_0 0 rfl ?_
  refine g_bipush X dX11_foundAt_1 kb_16 ?_
  refine m_bind hf (fun q4 hq4 hf => ?_)
  refine m_callV_v (As := [.int (16 : Int32)]) (st := []) X kV_172 (c_keepAll l dC dI E h r F S (16 : Int32) q4 hq4) ⟨Nat.le_of_ble_eq_true rfl, Nat.le_of_ble_eq_true rfl⟩ ⟨rfl, rfl⟩ (Nat.le_of_ble_eq_true rfl) ⟨Nat.le_of_ble_eq_true rfl, Nat.le_of_ble_eq_true rfl⟩ dX11_foundAt_3 ?_
  refine g_iconst X dX11_foundAt_6 kc_0 ?_
  refine g_istore_n (i := 3) (lv' := [(3, .int (0 : Int32)), (0, .ref h), (1, .int x1), (2, .int x2)]) X dX11_foundAt_7 rfl (by decide) rfl ?_
  refine g_lv [1, 2, 3, 0] (lv' := [(0, .ref h), (1, .int x1), (2, .int x2), (3, .int (0 : Int32))]) rfl ?_
  exact hL8 _ _ _ _ _ hf
def rm_found : Room := { frames := 10, cells := 0, slots := 0, locals := 236 }
set_option maxRecDepth 100000 in
set_option maxHeartbeats 4000000 in
theorem c_found (l : Launch) (dC : Nat → ClassId) (dI : Nat → Nat → Nat) (E : Nat → ClassId) (h : Nat) (r : Nat → Nat) (F : Nat) (S : MS) (x1 : Int32) (x2 : Int32) (res : Int32 × MS) (hf : M_found F S x1 x2 = some res) : MC l dC dI E yX11_found cX11_found 4 (some .int) rm_found [.ref h, .int x1, .int x2] (MW E h r S) (MW E h r res.2) (some (.int res.1)) := by
  refine MC_of (own := "LostLanesModel") (by decide) rfl (Nat.le_of_ble_eq_true rfl) ?_
  intro p e s m args below meth c A Q X hr hlk hA hQ
  refine g_lv [0, 1, 2] (lv' := [(0, .ref h), (1, .int x1), (2, .int x2)]) rfl ?_
  unfold M_found at hf
  refine g_aload_n X dX11_found_0 0 rfl ?_
  refine g_iconst X dX11_found_1 kc_0 ?_
  refine m_put_0 X dX11_found_2 hf (fun S1 hf => ?_)
  refine g_iload_n X dX11_found_5 1 rfl ?_
  refine m_bind hf (fun q2 hq2 hf => ?_)
  refine m_callS_i (As := [.int x1]) (st := []) X kS_188 (c_isCorner l dC dI E h r S1 x1 q2 hq2) ⟨Nat.le_of_ble_eq_true rfl, Nat.le_of_ble_eq_true rfl⟩ ⟨rfl, rfl⟩ (Nat.le_of_ble_eq_true rfl) ⟨Nat.le_of_ble_eq_true rfl, Nat.le_of_ble_eq_true rfl⟩ dX11_found_6 ?_
  refine g_if_eq (tgt := 20) X dX11_found_9 (by decide) hf (fun hf => ?_) (fun hf => ?_)
  · refine g_iconst X dX11_found_20 kc_m1 ?_
    exact m_reti_s hA hQ X hr hlk dX11_found_21 hf
  refine g_aload_n X dX11_found_12 0 rfl ?_
  refine g_iload_n X dX11_found_13 2 rfl ?_
  refine m_bind hf (fun q3 hq3 hf => ?_)
  refine m_callV_i (As := [.int x2]) (st := []) X kV_203 (c_isChild l dC dI E h r S1 x2 q3 hq3) ⟨Nat.le_of_ble_eq_true rfl, Nat.le_of_ble_eq_true rfl⟩ ⟨rfl, rfl⟩ (Nat.le_of_ble_eq_true rfl) ⟨Nat.le_of_ble_eq_true rfl, Nat.le_of_ble_eq_true rfl⟩ dX11_found_14 ?_
  refine g_if_ne (tgt := 22) X dX11_found_17 (by decide) hf (fun hf => ?_) (fun hf => ?_)
  · refine g_aload_n X dX11_found_22 0 rfl ?_
    refine m_bind hf (fun q4 hq4 hf => ?_)
    refine m_callV_v (As := []) (st := []) X kV_460 (c_layFar l dC dI E h r F S1 q4 hq4) ⟨Nat.le_of_ble_eq_true rfl, Nat.le_of_ble_eq_true rfl⟩ ⟨rfl, rfl⟩ (Nat.le_of_ble_eq_true rfl) ⟨Nat.le_of_ble_eq_true rfl, Nat.le_of_ble_eq_true rfl⟩ dX11_found_23 ?_
    refine g_aload_n X dX11_found_26 0 rfl ?_
    refine g_iload_n X dX11_found_27 1 rfl ?_
    refine g_iload_n X dX11_found_28 2 rfl ?_
    refine m_bind hf (fun q5 hq5 hf => ?_)
    refine m_callV_i (As := [.int x1, .int x2]) (st := []) X kV_466 (c_foundAt l dC dI E h r F q4.2 x1 x2 q5 hq5) ⟨Nat.le_of_ble_eq_true rfl, Nat.le_of_ble_eq_true rfl⟩ ⟨rfl, rfl⟩ (Nat.le_of_ble_eq_true rfl) ⟨Nat.le_of_ble_eq_true rfl, Nat.le_of_ble_eq_true rfl⟩ dX11_found_29 ?_
    refine g_istore_n (i := 3) (lv' := [(3, .int q5.1), (0, .ref h), (1, .int x1), (2, .int x2)]) X dX11_found_32 rfl (by decide) rfl ?_
    refine g_iload_n X dX11_found_33 0 rfl ?_
    refine g_ldcw X dX11_found_34 wd7_183 ?_
    refine g_icmp_ne (tgt := 44) X dX11_found_37 (by decide) hf (fun hf => ?_) (fun hf => ?_)
    · refine g_iload_n X dX11_found_44 0 rfl ?_
      exact m_reti_s hA hQ X hr hlk dX11_found_45 hf
    refine g_iconst X dX11_found_40 kc_m1 ?_
    refine g_goto (tgt := 45) X dX11_found_41 (by decide) ?_
    exact m_reti_s hA hQ X hr hlk dX11_found_45 hf
  refine g_iconst X dX11_found_20 kc_m1 ?_
  exact m_reti_s hA hQ X hr hlk dX11_found_21 hf
def rm_post : Room := { frames := 10, cells := 0, slots := 0, locals := 236 }
set_option maxRecDepth 100000 in
set_option maxHeartbeats 4000000 in
theorem c_post (l : Launch) (dC : Nat → ClassId) (dI : Nat → Nat → Nat) (E : Nat → ClassId) (h : Nat) (r : Nat → Nat) (F : Nat) (S : MS) (x1 : Int32) (res : Int32 × MS) (hf : M_post F S x1 = some res) : MC l dC dI E yX11_post cX11_post 8 (some .int) rm_post [.ref h, .int x1] (MW E h r S) (MW E h r res.2) (some (.int res.1)) := by
  refine MC_of (own := "LostLanesModel") (by decide) rfl (Nat.le_of_ble_eq_true rfl) ?_
  intro p e s m args below meth c A Q X hr hlk hA hQ
  have hB136 : ∀ (S : MS) (x3 : Int32), M_post_B136 F S x3 = some res → GG p l e rm_post s m args below meth c dC dI A 8 0 0 Q (MW E h r S) 136 [(3, .int x3)] [] := by
    intro S x3 hf
    unfold M_post_B136 at hf
    refine g_iload_n X dX11_post_136 0 rfl ?_
    refine g_goto (tgt := 141) X dX11_post_137 (by decide) ?_
    exact m_reti_s hA hQ X hr hlk dX11_post_141 hf
  have hB120 : ∀ (x1 : Int32) (k39 : MS → Int32 → Int32 → Int32 → Option (Int32 × MS)) (hk39 : ∀ (S : MS) (x2 : Int32) (x3 : Int32) (x4 : Int32), k39 S x2 x3 x4 = some res → GG p l e rm_post s m args below meth c dC dI A 8 0 0 Q (MW E h r S) 39 [(0, .ref h), (1, .int x1), (2, .int x2), (3, .int x3), (4, .int x4)] []) (S : MS) (x3 : Int32) (x4 : Int32) (t0 : Int32), M_post_B120 F k39 S x1 x3 x4 t0 = some res → GG p l e rm_post s m args below meth c dC dI A 8 0 0 Q (MW E h r S) 120 [(0, .ref h), (1, .int x1), (3, .int x3), (4, .int x4)] [.int t0] := by
    intro x1 k39 hk39 S x3 x4 t0 hf
    unfold M_post_B120 at hf
    refine g_istore_n (i := 2) (lv' := [(2, .int t0), (0, .ref h), (1, .int x1), (3, .int x3), (4, .int x4)]) X dX11_post_120 rfl (by decide) rfl ?_
    refine g_iinc (lv' := [(4, .int (x4 + (1 : Int32))), (2, .int t0), (0, .ref h), (1, .int x1), (3, .int x3)]) X dX11_post_121 4 rfl kc_1 (by decide) rfl ?_
    refine g_goto (tgt := 39) X dX11_post_124 (by decide) ?_
    refine g_lv [2, 3, 1, 4, 0] (lv' := [(0, .ref h), (1, .int x1), (2, .int t0), (3, .int x3), (4, .int (x4 + (1 : Int32)))]) rfl ?_
    exact hk39 _ _ _ _ hf
  have hB107 : ∀ (x1 : Int32) (k39 : MS → Int32 → Int32 → Int32 → Option (Int32 × MS)) (hk39 : ∀ (S : MS) (x2 : Int32) (x3 : Int32) (x4 : Int32), k39 S x2 x3 x4 = some res → GG p l e rm_post s m args below meth c dC dI A 8 0 0 Q (MW E h r S) 39 [(0, .ref h), (1, .int x1), (2, .int x2), (3, .int x3), (4, .int x4)] []) (S : MS) (x2 : Int32) (x4 : Int32) (x5 : Int32) (t0 : Int32), M_post_B107 F k39 S x1 x2 x4 x5 t0 = some res → GG p l e rm_post s m args below meth c dC dI A 8 0 0 Q (MW E h r S) 107 [(0, .ref h), (1, .int x1), (2, .int x2), (4, .int x4), (5, .int x5)] [.int t0] := by
    intro x1 k39 hk39 S x2 x4 x5 t0 hf
    unfold M_post_B107 at hf
    refine g_istore_n (i := 3) (lv' := [(3, .int t0), (0, .ref h), (1, .int x1), (2, .int x2), (4, .int x4), (5, .int x5)]) X dX11_post_107 rfl (by decide) rfl ?_
    refine g_iload X dX11_post_108 5 rfl ?_
    refine g_iload_n X dX11_post_110 3 rfl ?_
    refine g_icmp_ge (tgt := 119) X dX11_post_111 (by decide) hf (fun hf => ?_) (fun hf => ?_)
    · refine g_iload_n X dX11_post_119 3 rfl ?_
      refine g_lv [1, 2, 0, 4] (lv' := [(0, .ref h), (1, .int x1), (3, .int t0), (4, .int x4)]) rfl ?_
      exact hB120 _ _ hk39 _ _ _ _ hf
    refine g_iload X dX11_post_114 5 rfl ?_
    refine g_goto (tgt := 120) X dX11_post_116 (by decide) ?_
    refine g_lv [1, 2, 0, 4] (lv' := [(0, .ref h), (1, .int x1), (3, .int t0), (4, .int x4)]) rfl ?_
    exact hB120 _ _ hk39 _ _ _ _ hf
  have hB87 : ∀ (x1 : Int32) (x2 : Int32) (x3 : Int32) (x4 : Int32) (k39 : MS → Int32 → Int32 → Int32 → Option (Int32 × MS)) (hk39 : ∀ (S : MS) (x2 : Int32) (x3 : Int32) (x4 : Int32), k39 S x2 x3 x4 = some res → GG p l e rm_post s m args below meth c dC dI A 8 0 0 Q (MW E h r S) 39 [(0, .ref h), (1, .int x1), (2, .int x2), (3, .int x3), (4, .int x4)] []) (k52 : MS → Int32 → Int32 → Option (Int32 × MS)) (hk52 : ∀ (S : MS) (x5 : Int32) (x6 : Int32), k52 S x5 x6 = some res → GG p l e rm_post s m args below meth c dC dI A 8 0 0 Q (MW E h r S) 52 [(0, .ref h), (1, .int x1), (2, .int x2), (3, .int x3), (4, .int x4), (5, .int x5), (6, .int x6)] []) (S : MS) (x6 : Int32) (t0 : Int32), M_post_B87 F k39 k52 S x1 x2 x3 x4 x6 t0 = some res → GG p l e rm_post s m args below meth c dC dI A 8 0 0 Q (MW E h r S) 87 [(0, .ref h), (1, .int x1), (2, .int x2), (3, .int x3), (4, .int x4), (6, .int x6)] [.int t0] := by
    intro x1 x2 x3 x4 k39 hk39 k52 hk52 S x6 t0 hf
    unfold M_post_B87 at hf
    refine g_istore (lv' := [(5, .int t0), (0, .ref h), (1, .int x1), (2, .int x2), (3, .int x3), (4, .int x4), (6, .int x6)]) X dX11_post_87 (by decide) rfl ?_
    refine g_iinc (lv' := [(6, .int (x6 + (1 : Int32))), (5, .int t0), (0, .ref h), (1, .int x1), (2, .int x2), (3, .int x3), (4, .int x4)]) X dX11_post_89 6 rfl kc_1 (by decide) rfl ?_
    refine g_goto (tgt := 52) X dX11_post_92 (by decide) ?_
    refine g_lv [2, 3, 4, 5, 6, 1, 0] (lv' := [(0, .ref h), (1, .int x1), (2, .int x2), (3, .int x3), (4, .int x4), (5, .int t0), (6, .int (x6 + (1 : Int32)))]) rfl ?_
    exact hk52 _ _ _ hf
  have hL52 : ∀ (x1 : Int32) (k39 : MS → Int32 → Int32 → Int32 → Option (Int32 × MS)) (hk39 : ∀ (S : MS) (x2 : Int32) (x3 : Int32) (x4 : Int32), k39 S x2 x3 x4 = some res → GG p l e rm_post s m args below meth c dC dI A 8 0 0 Q (MW E h r S) 39 [(0, .ref h), (1, .int x1), (2, .int x2), (3, .int x3), (4, .int x4)] []) (x2 : Int32) (x3 : Int32) (x4 : Int32) (n : Nat) (S : MS) (x5 : Int32) (x6 : Int32), M_post_L52 F k39 x1 x2 x3 x4 n S x5 x6 = some res → GG p l e rm_post s m args below meth c dC dI A 8 0 0 Q (MW E h r S) 52 [(0, .ref h), (1, .int x1), (2, .int x2), (3, .int x3), (4, .int x4), (5, .int x5), (6, .int x6)] [] := by
    intro x1 k39 hk39 x2 x3 x4 n
    induction n with
    | zero => intro S x5 x6 hf; have hf : (none : Option (Int32 × MS)) = some res := hf; cases hf
    | succ n ih =>
      intro S x5 x6 hf
      rw [M_post_L52] at hf
      refine g_iload X dX11_post_52 6 rfl ?_
      refine g_aload_n X dX11_post_54 0 rfl ?_
      refine m_get_3 X dX11_post_55 ?_
      refine g_iconst X dX11_post_58 kc_1 ?_
      refine m_aldc_3 X kt_1 kx_1_5476 dX11_post_59 ?_
      refine g_icmp_ge (tgt := 95) X dX11_post_60 (by decide) hf (fun hf => ?_) (fun hf => ?_)
      · refine g_iload X dX11_post_95 5 rfl ?_
        refine g_iload_n X dX11_post_97 2 rfl ?_
        refine g_icmp_ge (tgt := 106) X dX11_post_98 (by decide) hf (fun hf => ?_) (fun hf => ?_)
        · refine g_iload_n X dX11_post_106 3 rfl ?_
          refine g_lv [0, 1, 2, 4, 5] (lv' := [(0, .ref h), (1, .int x1), (2, .int x2), (4, .int x4), (5, .int x5)]) rfl ?_
          exact hB107 _ _ hk39 _ _ _ _ _ hf
        refine g_iload X dX11_post_101 4 rfl ?_
        refine g_goto (tgt := 107) X dX11_post_103 (by decide) ?_
        refine g_lv [0, 1, 2, 4, 5] (lv' := [(0, .ref h), (1, .int x1), (2, .int x2), (4, .int x4), (5, .int x5)]) rfl ?_
        exact hB107 _ _ hk39 _ _ _ _ _ hf
      refine g_aload_n X dX11_post_63 0 rfl ?_
      refine g_iload X dX11_post_64 4 rfl ?_
      refine g_iload X dX11_post_66 6 rfl ?_
      refine m_bind hf (fun q1 hq1 hf => ?_)
      refine m_callV_i (As := [.int x4, .int x6]) (st := []) X kV_466 (c_foundAt l dC dI E h r F S x4 x6 q1 hq1) ⟨Nat.le_of_ble_eq_true rfl, Nat.le_of_ble_eq_true rfl⟩ ⟨rfl, rfl⟩ (Nat.le_of_ble_eq_true rfl) ⟨Nat.le_of_ble_eq_true rfl, Nat.le_of_ble_eq_true rfl⟩ dX11_post_68 ?_
      refine g_istore (lv' := [(7, .int q1.1), (0, .ref h), (1, .int x1), (2, .int x2), (3, .int x3), (4, .int x4), (5, .int x5), (6, .int x6)]) X dX11_post_71 (by decide) rfl ?_
      refine g_iload X dX11_post_73 0 rfl ?_
      refine g_iload X dX11_post_75 6 rfl ?_
      refine g_icmp_le (tgt := 85) X dX11_post_77 (by decide) hf (fun hf => ?_) (fun hf => ?_)
      · refine g_iload X dX11_post_85 6 rfl ?_
        refine g_lv [1, 2, 3, 4, 5, 7] (lv' := [(0, .ref h), (1, .int x1), (2, .int x2), (3, .int x3), (4, .int x4), (6, .int x6)]) rfl ?_
        exact hB87 _ _ _ _ _ hk39 _ ih _ _ _ hf
      refine g_iload X dX11_post_80 0 rfl ?_
      refine g_goto (tgt := 87) X dX11_post_82 (by decide) ?_
      refine g_lv [1, 2, 3, 4, 5, 7] (lv' := [(0, .ref h), (1, .int x1), (2, .int x2), (3, .int x3), (4, .int x4), (6, .int x6)]) rfl ?_
      exact hB87 _ _ _ _ _ hk39 _ ih _ _ _ hf
  have hL39 : ∀ (x1 : Int32) (n : Nat) (S : MS) (x2 : Int32) (x3 : Int32) (x4 : Int32), M_post_L39 F x1 n S x2 x3 x4 = some res → GG p l e rm_post s m args below meth c dC dI A 8 0 0 Q (MW E h r S) 39 [(0, .ref h), (1, .int x1), (2, .int x2), (3, .int x3), (4, .int x4)] [] := by
    intro x1 n
    induction n with
    | zero => intro S x2 x3 x4 hf; have hf : (none : Option (Int32 × MS)) = some res := hf; cases hf
    | succ n ih =>
      intro S x2 x3 x4 hf
      rw [M_post_L39] at hf
      refine g_iload X dX11_post_39 4 rfl ?_
      refine g_bipush X dX11_post_41 kb_8 ?_
      refine g_icmp_ge (tgt := 127) X dX11_post_43 (by decide) hf (fun hf => ?_) (fun hf => ?_)
      · refine g_iload_n X dX11_post_127 3 rfl ?_
        refine g_iconst X dX11_post_128 kc_m1 ?_
        refine g_icmp_eq (tgt := 136) X dX11_post_129 (by decide) hf (fun hf => ?_) (fun hf => ?_)
        · refine g_lv [3] (lv' := [(3, .int x3)]) rfl ?_
          exact hB136 _ _ hf
        refine g_iload_n X dX11_post_132 1 rfl ?_
        refine g_if_ne (tgt := 140) X dX11_post_133 (by decide) hf (fun hf => ?_) (fun hf => ?_)
        · refine g_iload_n X dX11_post_140 2 rfl ?_
          exact m_reti_s hA hQ X hr hlk dX11_post_141 hf
        refine g_lv [3] (lv' := [(3, .int x3)]) rfl ?_
        exact hB136 _ _ hf
      refine g_iconst X dX11_post_46 kc_0 ?_
      refine g_istore (lv' := [(5, .int (0 : Int32)), (0, .ref h), (1, .int x1), (2, .int x2), (3, .int x3), (4, .int x4)]) X dX11_post_47 (by decide) rfl ?_
      refine g_iconst X dX11_post_49 kc_0 ?_
      refine g_istore (lv' := [(6, .int (0 : Int32)), (5, .int (0 : Int32)), (0, .ref h), (1, .int x1), (2, .int x2), (3, .int x3), (4, .int x4)]) X dX11_post_50 (by decide) rfl ?_
      refine g_lv [2, 3, 4, 5, 6, 1, 0] (lv' := [(0, .ref h), (1, .int x1), (2, .int x2), (3, .int x3), (4, .int x4), (5, .int (0 : Int32)), (6, .int (0 : Int32))]) rfl ?_
      exact hL52 _ _ ih _ _ _ _ _ _ _ hf
  refine g_lv [0, 1] (lv' := [(0, .ref h), (1, .int x1)]) rfl ?_
  unfold M_post at hf
  refine g_aload_n X dX11_post_0 0 rfl ?_
  refine g_iconst X dX11_post_1 kc_0 ?_
  refine m_put_0 X dX11_post_2 hf (fun S2 hf => ?_)
  refine g_iload_n X dX11_post_5 1 rfl ?_
  refine g_i2l X dX11_post_6 ?_
  refine g_lconst X dX11_post_7 kl_0 ?_
  refine g_lconst X dX11_post_8 kl_1 ?_
  refine m_bind hf (fun q3 hq3 hf => ?_)
  refine m_callS_i (As := [.long (x1).toInt64, .long (0 : Int64), .long (1 : Int64)]) (st := []) X kS_179 (c_in l dC dI E h r S2 (x1).toInt64 (0 : Int64) (1 : Int64) q3 hq3) ⟨Nat.le_of_ble_eq_true rfl, Nat.le_of_ble_eq_true rfl⟩ ⟨rfl, rfl⟩ (Nat.le_of_ble_eq_true rfl) ⟨Nat.le_of_ble_eq_true rfl, Nat.le_of_ble_eq_true rfl⟩ dX11_post_9 ?_
  refine g_if_eq (tgt := 24) X dX11_post_12 (by decide) hf (fun hf => ?_) (fun hf => ?_)
  · refine g_iconst X dX11_post_24 kc_m1 ?_
    exact m_reti_s hA hQ X hr hlk dX11_post_25 hf
  refine g_aload_n X dX11_post_15 0 rfl ?_
  refine m_get_3 X dX11_post_16 ?_
  refine g_iconst X dX11_post_19 kc_1 ?_
  refine m_aldc_3 X kt_1 kx_1_5476 dX11_post_20 ?_
  refine g_if_ne (tgt := 26) X dX11_post_21 (by decide) hf (fun hf => ?_) (fun hf => ?_)
  · refine g_aload_n X dX11_post_26 0 rfl ?_
    refine m_bind hf (fun q4 hq4 hf => ?_)
    refine m_callV_v (As := []) (st := []) X kV_460 (c_layFar l dC dI E h r F S2 q4 hq4) ⟨Nat.le_of_ble_eq_true rfl, Nat.le_of_ble_eq_true rfl⟩ ⟨rfl, rfl⟩ (Nat.le_of_ble_eq_true rfl) ⟨Nat.le_of_ble_eq_true rfl, Nat.le_of_ble_eq_true rfl⟩ dX11_post_27 ?_
    refine g_ldcw X dX11_post_30 wd7_183 ?_
    refine g_istore_n (i := 2) (lv' := [(2, .int (100000000 : Int32)), (0, .ref h), (1, .int x1)]) X dX11_post_33 rfl (by decide) rfl ?_
    refine g_iconst X dX11_post_34 kc_m1 ?_
    refine g_istore_n (i := 3) (lv' := [(3, .int (-1 : Int32)), (2, .int (100000000 : Int32)), (0, .ref h), (1, .int x1)]) X dX11_post_35 rfl (by decide) rfl ?_
    refine g_iconst X dX11_post_36 kc_0 ?_
    refine g_istore (lv' := [(4, .int (0 : Int32)), (3, .int (-1 : Int32)), (2, .int (100000000 : Int32)), (0, .ref h), (1, .int x1)]) X dX11_post_37 (by decide) rfl ?_
    refine g_lv [3, 4, 2, 1, 0] (lv' := [(0, .ref h), (1, .int x1), (2, .int (100000000 : Int32)), (3, .int (-1 : Int32)), (4, .int (0 : Int32))]) rfl ?_
    exact hL39 _ _ _ _ _ _ hf
  refine g_iconst X dX11_post_24 kc_m1 ?_
  exact m_reti_s hA hQ X hr hlk dX11_post_25 hf
def rm_laneEnds : Room := { frames := 1, cells := 0, slots := 0, locals := 22 }
set_option maxRecDepth 100000 in
set_option maxHeartbeats 4000000 in
theorem c_laneEnds (l : Launch) (dC : Nat → ClassId) (dI : Nat → Nat → Nat) (E : Nat → ClassId) (h : Nat) (r : Nat → Nat) (F : Nat) (S : MS) (x1 : Int32) (res : Int32) (hf : M_laneEnds F S x1 = some res) : MC l dC dI E yX11_laneEnds cX11_laneEnds 4 (some .int) rm_laneEnds [.ref h, .int x1] (MW E h r S) (MW E h r S) (some (.int res)) := by
  refine MC_of (own := "LostLanesModel") (by decide) rfl (Nat.le_of_ble_eq_true rfl) ?_
  intro p e s m args below meth c A Q X hr hlk hA hQ
  have hB29 : ∀ (x1 : Int32) (k4 : Int32 → Int32 → Option Int32) (hk4 : ∀ (x2 : Int32) (x3 : Int32), k4 x2 x3 = some res → GG p l e rm_laneEnds s m args below meth c dC dI A 4 0 0 Q (MW E h r S) 4 [(0, .ref h), (1, .int x1), (2, .int x2), (3, .int x3)] []) (x3 : Int32) (t0 : Int32) (t1 : Int32), M_laneEnds_B29 F k4 S x1 x3 t0 t1 = some res → GG p l e rm_laneEnds s m args below meth c dC dI A 4 0 0 Q (MW E h r S) 29 [(0, .ref h), (1, .int x1), (3, .int x3)] [.int t1, .int t0] := by
    intro x1 k4 hk4 x3 t0 t1 hf
    unfold M_laneEnds_B29 at hf
    refine g_iadd X dX11_laneEnds_29 ?_
    refine g_istore_n (i := 2) (lv' := [(2, .int (t0 + t1)), (0, .ref h), (1, .int x1), (3, .int x3)]) X dX11_laneEnds_30 rfl (by decide) rfl ?_
    refine g_iinc (lv' := [(3, .int (x3 + (1 : Int32))), (2, .int (t0 + t1)), (0, .ref h), (1, .int x1)]) X dX11_laneEnds_31 3 rfl kc_1 (by decide) rfl ?_
    refine g_goto (tgt := 4) X dX11_laneEnds_34 (by decide) ?_
    refine g_lv [2, 3, 1, 0] (lv' := [(0, .ref h), (1, .int x1), (2, .int (t0 + t1)), (3, .int (x3 + (1 : Int32)))]) rfl ?_
    exact hk4 _ _ hf
  have hL4 : ∀ (x1 : Int32) (n : Nat) (x2 : Int32) (x3 : Int32), M_laneEnds_L4 F S x1 n x2 x3 = some res → GG p l e rm_laneEnds s m args below meth c dC dI A 4 0 0 Q (MW E h r S) 4 [(0, .ref h), (1, .int x1), (2, .int x2), (3, .int x3)] [] := by
    intro x1 n
    induction n with
    | zero => intro x2 x3 hf; have hf : (none : Option Int32) = some res := hf; cases hf
    | succ n ih =>
      intro x2 x3 hf
      rw [M_laneEnds_L4] at hf
      refine g_iload_n X dX11_laneEnds_4 3 rfl ?_
      refine g_aload_n X dX11_laneEnds_5 0 rfl ?_
      refine m_get_3 X dX11_laneEnds_6 ?_
      refine g_iconst X dX11_laneEnds_9 kc_0 ?_
      refine m_aldc_3 X kt_0 kx_0_5476 dX11_laneEnds_10 ?_
      refine g_icmp_ge (tgt := 37) X dX11_laneEnds_11 (by decide) hf (fun hf => ?_) (fun hf => ?_)
      · refine g_iload_n X dX11_laneEnds_37 2 rfl ?_
        exact m_reti_o hA hQ X hr hlk dX11_laneEnds_38 hf
      refine g_iload_n X dX11_laneEnds_14 2 rfl ?_
      refine g_aload_n X dX11_laneEnds_15 0 rfl ?_
      refine g_iload_n X dX11_laneEnds_16 3 rfl ?_
      refine g_iload_n X dX11_laneEnds_17 1 rfl ?_
      refine m_bind hf (fun q1 hq1 hf => ?_)
      refine m_callV_i (As := [.int x3, .int x1]) (st := [.int x2]) X kV_424 (c_ends l dC dI E h r S x3 x1 q1 hq1) ⟨Nat.le_of_ble_eq_true rfl, Nat.le_of_ble_eq_true rfl⟩ ⟨rfl, rfl⟩ (Nat.le_of_ble_eq_true rfl) ⟨Nat.le_of_ble_eq_true rfl, Nat.le_of_ble_eq_true rfl⟩ dX11_laneEnds_18 ?_
      refine g_if_eq (tgt := 28) X dX11_laneEnds_21 (by decide) hf (fun hf => ?_) (fun hf => ?_)
      · refine g_iconst X dX11_laneEnds_28 kc_0 ?_
        refine g_lv [0, 1, 3] (lv' := [(0, .ref h), (1, .int x1), (3, .int x3)]) rfl ?_
        exact hB29 _ _ ih _ _ _ hf
      refine g_iconst X dX11_laneEnds_24 kc_1 ?_
      refine g_goto (tgt := 29) X dX11_laneEnds_25 (by decide) ?_
      refine g_lv [0, 1, 3] (lv' := [(0, .ref h), (1, .int x1), (3, .int x3)]) rfl ?_
      exact hB29 _ _ ih _ _ _ hf
  refine g_lv [0, 1] (lv' := [(0, .ref h), (1, .int x1)]) rfl ?_
  unfold M_laneEnds at hf
  refine g_iconst X dX11_laneEnds_0 kc_0 ?_
  refine g_istore_n (i := 2) (lv' := [(2, .int (0 : Int32)), (0, .ref h), (1, .int x1)]) X dX11_laneEnds_1 rfl (by decide) rfl ?_
  refine g_iconst X dX11_laneEnds_2 kc_0 ?_
  refine g_istore_n (i := 3) (lv' := [(3, .int (0 : Int32)), (2, .int (0 : Int32)), (0, .ref h), (1, .int x1)]) X dX11_laneEnds_3 rfl (by decide) rfl ?_
  refine g_lv [2, 3, 1, 0] (lv' := [(0, .ref h), (1, .int x1), (2, .int (0 : Int32)), (3, .int (0 : Int32))]) rfl ?_
  exact hL4 _ _ _ _ hf
def rm_allNear : Room := { frames := 2, cells := 0, slots := 0, locals := 45 }
set_option maxRecDepth 100000 in
set_option maxHeartbeats 4000000 in
theorem c_allNear (l : Launch) (dC : Nat → ClassId) (dI : Nat → Nat → Nat) (E : Nat → ClassId) (h : Nat) (r : Nat → Nat) (F : Nat) (S : MS) (x1 : Int32) (x2 : Int32) (res : Int32) (hf : M_allNear F S x1 x2 = some res) : MC l dC dI E yX11_allNear cX11_allNear 7 (some .boolean) rm_allNear [.ref h, .int x1, .int x2] (MW E h r S) (MW E h r S) (some (.int res)) := by
  refine MC_of (own := "LostLanesModel") (by decide) rfl (Nat.le_of_ble_eq_true rfl) ?_
  intro p e s m args below meth c A Q X hr hlk hA hQ
  have hB91 : ∀ (x1 : Int32) (x2 : Int32) (k5 : Int32 → Int32 → Option Int32) (hk5 : ∀ (x3 : Int32) (x4 : Int32), k5 x3 x4 = some res → GG p l e rm_allNear s m args below meth c dC dI A 7 0 0 Q (MW E h r S) 5 [(0, .ref h), (1, .int x1), (2, .int x2), (3, .int x3), (4, .int x4)] []) (x4 : Int32) (t0 : Int32), M_allNear_B91 F k5 S x1 x2 x4 t0 = some res → GG p l e rm_allNear s m args below meth c dC dI A 7 0 0 Q (MW E h r S) 91 [(0, .ref h), (1, .int x1), (2, .int x2), (4, .int x4)] [.int t0] := by
    intro x1 x2 k5 hk5 x4 t0 hf
    unfold M_allNear_B91 at hf
    refine g_istore_n (i := 3) (lv' := [(3, .int t0), (0, .ref h), (1, .int x1), (2, .int x2), (4, .int x4)]) X dX11_allNear_91 rfl (by decide) rfl ?_
    refine g_iinc (lv' := [(4, .int (x4 + (1 : Int32))), (3, .int t0), (0, .ref h), (1, .int x1), (2, .int x2)]) X dX11_allNear_92 4 rfl kc_1 (by decide) rfl ?_
    refine g_goto (tgt := 5) X dX11_allNear_95 (by decide) ?_
    refine g_lv [2, 3, 4, 1, 0] (lv' := [(0, .ref h), (1, .int x1), (2, .int x2), (3, .int t0), (4, .int (x4 + (1 : Int32)))]) rfl ?_
    exact hk5 _ _ hf
  have hB90 : ∀ (x1 : Int32) (x2 : Int32) (k5 : Int32 → Int32 → Option Int32) (hk5 : ∀ (x3 : Int32) (x4 : Int32), k5 x3 x4 = some res → GG p l e rm_allNear s m args below meth c dC dI A 7 0 0 Q (MW E h r S) 5 [(0, .ref h), (1, .int x1), (2, .int x2), (3, .int x3), (4, .int x4)] []) (x4 : Int32), M_allNear_B90 F k5 S x1 x2 x4 = some res → GG p l e rm_allNear s m args below meth c dC dI A 7 0 0 Q (MW E h r S) 90 [(0, .ref h), (1, .int x1), (2, .int x2), (4, .int x4)] [] := by
    intro x1 x2 k5 hk5 x4 hf
    unfold M_allNear_B90 at hf
    refine g_iconst X dX11_allNear_90 kc_0 ?_
    exact hB91 _ _ _ hk5 _ _ hf
  have hB69 : ∀ (x1 : Int32) (x2 : Int32) (x3 : Int32) (x4 : Int32) (k5 : Int32 → Int32 → Option Int32) (hk5 : ∀ (x3 : Int32) (x4 : Int32), k5 x3 x4 = some res → GG p l e rm_allNear s m args below meth c dC dI A 7 0 0 Q (MW E h r S) 5 [(0, .ref h), (1, .int x1), (2, .int x2), (3, .int x3), (4, .int x4)] []) (k31 : Int32 → Int32 → Option Int32) (hk31 : ∀ (x5 : Int32) (x6 : Int32), k31 x5 x6 = some res → GG p l e rm_allNear s m args below meth c dC dI A 7 0 0 Q (MW E h r S) 31 [(0, .ref h), (1, .int x1), (2, .int x2), (3, .int x3), (4, .int x4), (5, .int x5), (6, .int x6)] []) (x6 : Int32) (t0 : Int32), M_allNear_B69 F k5 k31 S x1 x2 x3 x4 x6 t0 = some res → GG p l e rm_allNear s m args below meth c dC dI A 7 0 0 Q (MW E h r S) 69 [(0, .ref h), (1, .int x1), (2, .int x2), (3, .int x3), (4, .int x4), (6, .int x6)] [.int t0] := by
    intro x1 x2 x3 x4 k5 hk5 k31 hk31 x6 t0 hf
    unfold M_allNear_B69 at hf
    refine g_istore (lv' := [(5, .int t0), (0, .ref h), (1, .int x1), (2, .int x2), (3, .int x3), (4, .int x4), (6, .int x6)]) X dX11_allNear_69 (by decide) rfl ?_
    refine g_iinc (lv' := [(6, .int (x6 + (1 : Int32))), (5, .int t0), (0, .ref h), (1, .int x1), (2, .int x2), (3, .int x3), (4, .int x4)]) X dX11_allNear_71 6 rfl kc_1 (by decide) rfl ?_
    refine g_goto (tgt := 31) X dX11_allNear_74 (by decide) ?_
    refine g_lv [2, 3, 4, 5, 6, 1, 0] (lv' := [(0, .ref h), (1, .int x1), (2, .int x2), (3, .int x3), (4, .int x4), (5, .int t0), (6, .int (x6 + (1 : Int32)))]) rfl ?_
    exact hk31 _ _ hf
  have hB68 : ∀ (x1 : Int32) (x2 : Int32) (x3 : Int32) (x4 : Int32) (k5 : Int32 → Int32 → Option Int32) (hk5 : ∀ (x3 : Int32) (x4 : Int32), k5 x3 x4 = some res → GG p l e rm_allNear s m args below meth c dC dI A 7 0 0 Q (MW E h r S) 5 [(0, .ref h), (1, .int x1), (2, .int x2), (3, .int x3), (4, .int x4)] []) (k31 : Int32 → Int32 → Option Int32) (hk31 : ∀ (x5 : Int32) (x6 : Int32), k31 x5 x6 = some res → GG p l e rm_allNear s m args below meth c dC dI A 7 0 0 Q (MW E h r S) 31 [(0, .ref h), (1, .int x1), (2, .int x2), (3, .int x3), (4, .int x4), (5, .int x5), (6, .int x6)] []) (x6 : Int32), M_allNear_B68 F k5 k31 S x1 x2 x3 x4 x6 = some res → GG p l e rm_allNear s m args below meth c dC dI A 7 0 0 Q (MW E h r S) 68 [(0, .ref h), (1, .int x1), (2, .int x2), (3, .int x3), (4, .int x4), (6, .int x6)] [] := by
    intro x1 x2 x3 x4 k5 hk5 k31 hk31 x6 hf
    unfold M_allNear_B68 at hf
    refine g_iconst X dX11_allNear_68 kc_0 ?_
    exact hB69 _ _ _ _ _ hk5 _ hk31 _ _ hf
  have hB64 : ∀ (x1 : Int32) (x2 : Int32) (x3 : Int32) (x4 : Int32) (k5 : Int32 → Int32 → Option Int32) (hk5 : ∀ (x3 : Int32) (x4 : Int32), k5 x3 x4 = some res → GG p l e rm_allNear s m args below meth c dC dI A 7 0 0 Q (MW E h r S) 5 [(0, .ref h), (1, .int x1), (2, .int x2), (3, .int x3), (4, .int x4)] []) (k31 : Int32 → Int32 → Option Int32) (hk31 : ∀ (x5 : Int32) (x6 : Int32), k31 x5 x6 = some res → GG p l e rm_allNear s m args below meth c dC dI A 7 0 0 Q (MW E h r S) 31 [(0, .ref h), (1, .int x1), (2, .int x2), (3, .int x3), (4, .int x4), (5, .int x5), (6, .int x6)] []) (x6 : Int32), M_allNear_B64 F k5 k31 S x1 x2 x3 x4 x6 = some res → GG p l e rm_allNear s m args below meth c dC dI A 7 0 0 Q (MW E h r S) 64 [(0, .ref h), (1, .int x1), (2, .int x2), (3, .int x3), (4, .int x4), (6, .int x6)] [] := by
    intro x1 x2 x3 x4 k5 hk5 k31 hk31 x6 hf
    unfold M_allNear_B64 at hf
    refine g_iconst X dX11_allNear_64 kc_1 ?_
    refine g_goto (tgt := 69) X dX11_allNear_65 (by decide) ?_
    exact hB69 _ _ _ _ _ hk5 _ hk31 _ _ hf
  have hL31 : ∀ (x1 : Int32) (x2 : Int32) (k5 : Int32 → Int32 → Option Int32) (hk5 : ∀ (x3 : Int32) (x4 : Int32), k5 x3 x4 = some res → GG p l e rm_allNear s m args below meth c dC dI A 7 0 0 Q (MW E h r S) 5 [(0, .ref h), (1, .int x1), (2, .int x2), (3, .int x3), (4, .int x4)] []) (x3 : Int32) (x4 : Int32) (n : Nat) (x5 : Int32) (x6 : Int32), M_allNear_L31 F k5 S x1 x2 x3 x4 n x5 x6 = some res → GG p l e rm_allNear s m args below meth c dC dI A 7 0 0 Q (MW E h r S) 31 [(0, .ref h), (1, .int x1), (2, .int x2), (3, .int x3), (4, .int x4), (5, .int x5), (6, .int x6)] [] := by
    intro x1 x2 k5 hk5 x3 x4 n
    induction n with
    | zero => intro x5 x6 hf; have hf : (none : Option Int32) = some res := hf; cases hf
    | succ n ih =>
      intro x5 x6 hf
      rw [M_allNear_L31] at hf
      refine g_iload X dX11_allNear_31 6 rfl ?_
      refine g_bipush X dX11_allNear_33 kb_8 ?_
      refine g_icmp_ge (tgt := 77) X dX11_allNear_35 (by decide) hf (fun hf => ?_) (fun hf => ?_)
      · refine g_iload_n X dX11_allNear_77 3 rfl ?_
        refine g_if_eq (tgt := 90) X dX11_allNear_78 (by decide) hf (fun hf => ?_) (fun hf => ?_)
        · refine g_lv [0, 1, 2, 4] (lv' := [(0, .ref h), (1, .int x1), (2, .int x2), (4, .int x4)]) rfl ?_
          exact hB90 _ _ _ hk5 _ hf
        refine g_iload X dX11_allNear_81 5 rfl ?_
        refine g_if_eq (tgt := 90) X dX11_allNear_83 (by decide) hf (fun hf => ?_) (fun hf => ?_)
        · refine g_lv [0, 1, 2, 4] (lv' := [(0, .ref h), (1, .int x1), (2, .int x2), (4, .int x4)]) rfl ?_
          exact hB90 _ _ _ hk5 _ hf
        refine g_iconst X dX11_allNear_86 kc_1 ?_
        refine g_goto (tgt := 91) X dX11_allNear_87 (by decide) ?_
        refine g_lv [0, 1, 2, 4] (lv' := [(0, .ref h), (1, .int x1), (2, .int x2), (4, .int x4)]) rfl ?_
        exact hB91 _ _ _ hk5 _ _ hf
      refine g_iload X dX11_allNear_38 5 rfl ?_
      refine g_if_ne (tgt := 64) X dX11_allNear_40 (by decide) hf (fun hf => ?_) (fun hf => ?_)
      · refine g_lv [0, 1, 2, 3, 4, 6] (lv' := [(0, .ref h), (1, .int x1), (2, .int x2), (3, .int x3), (4, .int x4), (6, .int x6)]) rfl ?_
        exact hB64 _ _ _ _ _ hk5 _ ih _ hf
      refine g_iload_n X dX11_allNear_43 1 rfl ?_
      refine g_iload X dX11_allNear_44 6 rfl ?_
      refine m_bind hf (fun q1 hq1 hf => ?_)
      refine m_callS_i (As := [.int x1, .int x6]) (st := []) X kS_472 (c_is l dC dI E h r S x1 x6 q1 hq1) ⟨Nat.le_of_ble_eq_true rfl, Nat.le_of_ble_eq_true rfl⟩ ⟨rfl, rfl⟩ (Nat.le_of_ble_eq_true rfl) ⟨Nat.le_of_ble_eq_true rfl, Nat.le_of_ble_eq_true rfl⟩ dX11_allNear_46 ?_
      refine g_if_eq (tgt := 68) X dX11_allNear_49 (by decide) hf (fun hf => ?_) (fun hf => ?_)
      · refine g_lv [0, 1, 2, 3, 4, 6] (lv' := [(0, .ref h), (1, .int x1), (2, .int x2), (3, .int x3), (4, .int x4), (6, .int x6)]) rfl ?_
        exact hB68 _ _ _ _ _ hk5 _ ih _ hf
      refine g_aload_n X dX11_allNear_52 0 rfl ?_
      refine g_iload X dX11_allNear_53 6 rfl ?_
      refine g_iload X dX11_allNear_55 4 rfl ?_
      refine m_bind hf (fun q2 hq2 hf => ?_)
      refine m_callV_i (As := [.int x6, .int x4]) (st := []) X kV_463 (c_farOf l dC dI E h r S x6 x4 q2 hq2) ⟨Nat.le_of_ble_eq_true rfl, Nat.le_of_ble_eq_true rfl⟩ ⟨rfl, rfl⟩ (Nat.le_of_ble_eq_true rfl) ⟨Nat.le_of_ble_eq_true rfl, Nat.le_of_ble_eq_true rfl⟩ dX11_allNear_57 ?_
      refine g_iload_n X dX11_allNear_60 2 rfl ?_
      refine g_icmp_gt (tgt := 68) X dX11_allNear_61 (by decide) hf (fun hf => ?_) (fun hf => ?_)
      · refine g_lv [0, 1, 2, 3, 4, 6] (lv' := [(0, .ref h), (1, .int x1), (2, .int x2), (3, .int x3), (4, .int x4), (6, .int x6)]) rfl ?_
        exact hB68 _ _ _ _ _ hk5 _ ih _ hf
      refine g_lv [0, 1, 2, 3, 4, 6] (lv' := [(0, .ref h), (1, .int x1), (2, .int x2), (3, .int x3), (4, .int x4), (6, .int x6)]) rfl ?_
      exact hB64 _ _ _ _ _ hk5 _ ih _ hf
  have hB26 : ∀ (x1 : Int32) (x2 : Int32) (k5 : Int32 → Int32 → Option Int32) (hk5 : ∀ (x3 : Int32) (x4 : Int32), k5 x3 x4 = some res → GG p l e rm_allNear s m args below meth c dC dI A 7 0 0 Q (MW E h r S) 5 [(0, .ref h), (1, .int x1), (2, .int x2), (3, .int x3), (4, .int x4)] []) (x3 : Int32) (x4 : Int32) (t0 : Int32), M_allNear_B26 F k5 S x1 x2 x3 x4 t0 = some res → GG p l e rm_allNear s m args below meth c dC dI A 7 0 0 Q (MW E h r S) 26 [(0, .ref h), (1, .int x1), (2, .int x2), (3, .int x3), (4, .int x4)] [.int t0] := by
    intro x1 x2 k5 hk5 x3 x4 t0 hf
    unfold M_allNear_B26 at hf
    refine g_istore (lv' := [(5, .int t0), (0, .ref h), (1, .int x1), (2, .int x2), (3, .int x3), (4, .int x4)]) X dX11_allNear_26 (by decide) rfl ?_
    refine g_iconst X dX11_allNear_28 kc_0 ?_
    refine g_istore (lv' := [(6, .int (0 : Int32)), (5, .int t0), (0, .ref h), (1, .int x1), (2, .int x2), (3, .int x3), (4, .int x4)]) X dX11_allNear_29 (by decide) rfl ?_
    refine g_lv [2, 3, 4, 5, 6, 1, 0] (lv' := [(0, .ref h), (1, .int x1), (2, .int x2), (3, .int x3), (4, .int x4), (5, .int t0), (6, .int (0 : Int32))]) rfl ?_
    exact hL31 _ _ _ hk5 _ _ _ _ _ hf
  have hL5 : ∀ (x1 : Int32) (x2 : Int32) (n : Nat) (x3 : Int32) (x4 : Int32), M_allNear_L5 F S x1 x2 n x3 x4 = some res → GG p l e rm_allNear s m args below meth c dC dI A 7 0 0 Q (MW E h r S) 5 [(0, .ref h), (1, .int x1), (2, .int x2), (3, .int x3), (4, .int x4)] [] := by
    intro x1 x2 n
    induction n with
    | zero => intro x3 x4 hf; have hf : (none : Option Int32) = some res := hf; cases hf
    | succ n ih =>
      intro x3 x4 hf
      rw [M_allNear_L5] at hf
      refine g_iload X dX11_allNear_5 4 rfl ?_
      refine g_bipush X dX11_allNear_7 kb_8 ?_
      refine g_icmp_ge (tgt := 98) X dX11_allNear_9 (by decide) hf (fun hf => ?_) (fun hf => ?_)
      · refine g_iload_n X dX11_allNear_98 3 rfl ?_
        obtain ⟨hz99, hf⟩ := chk_some hf
        exact m_retz_o hA hQ X hr hlk hz99 dX11_allNear_99 hf
      refine g_aload_n X dX11_allNear_12 0 rfl ?_
      refine g_iload X dX11_allNear_13 4 rfl ?_
      refine m_bind hf (fun q3 hq3 hf => ?_)
      refine m_callV_i (As := [.int x4]) (st := []) X kV_469 (c_laneEnds l dC dI E h r F S x4 q3 hq3) ⟨Nat.le_of_ble_eq_true rfl, Nat.le_of_ble_eq_true rfl⟩ ⟨rfl, rfl⟩ (Nat.le_of_ble_eq_true rfl) ⟨Nat.le_of_ble_eq_true rfl, Nat.le_of_ble_eq_true rfl⟩ dX11_allNear_15 ?_
      refine g_if_ne (tgt := 25) X dX11_allNear_18 (by decide) hf (fun hf => ?_) (fun hf => ?_)
      · refine g_iconst X dX11_allNear_25 kc_0 ?_
        exact hB26 _ _ _ ih _ _ _ hf
      refine g_iconst X dX11_allNear_21 kc_1 ?_
      refine g_goto (tgt := 26) X dX11_allNear_22 (by decide) ?_
      exact hB26 _ _ _ ih _ _ _ hf
  refine g_lv [0, 1, 2] (lv' := [(0, .ref h), (1, .int x1), (2, .int x2)]) rfl ?_
  unfold M_allNear at hf
  refine g_iconst X dX11_allNear_0 kc_1 ?_
  refine g_istore_n (i := 3) (lv' := [(3, .int (1 : Int32)), (0, .ref h), (1, .int x1), (2, .int x2)]) X dX11_allNear_1 rfl (by decide) rfl ?_
  refine g_iconst X dX11_allNear_2 kc_0 ?_
  refine g_istore (lv' := [(4, .int (0 : Int32)), (3, .int (1 : Int32)), (0, .ref h), (1, .int x1), (2, .int x2)]) X dX11_allNear_3 (by decide) rfl ?_
  refine g_lv [2, 3, 4, 1, 0] (lv' := [(0, .ref h), (1, .int x1), (2, .int x2), (3, .int (1 : Int32)), (4, .int (0 : Int32))]) rfl ?_
  exact hL5 _ _ _ _ _ hf
def rm_posts : Room := { frames := 3, cells := 0, slots := 0, locals := 71 }
set_option maxRecDepth 100000 in
set_option maxHeartbeats 4000000 in
theorem c_posts (l : Launch) (dC : Nat → ClassId) (dI : Nat → Nat → Nat) (E : Nat → ClassId) (h : Nat) (r : Nat → Nat) (F : Nat) (S : MS) (x1 : Int32) (x2 : Int32) (res : Int32 × MS) (hf : M_posts F S x1 x2 = some res) : MC l dC dI E yX11_posts cX11_posts 6 (some .int) rm_posts [.ref h, .int x1, .int x2] (MW E h r S) (MW E h r res.2) (some (.int res.1)) := by
  refine MC_of (own := "LostLanesModel") (by decide) rfl (Nat.le_of_ble_eq_true rfl) ?_
  intro p e s m args below meth c A Q X hr hlk hA hQ
  have hB80 : ∀ (S : MS) (x1 : Int32) (x2 : Int32) (k43 : Int32 → Int32 → Int32 → Option (Int32 × MS)) (hk43 : ∀ (x3 : Int32) (x4 : Int32) (x5 : Int32), k43 x3 x4 x5 = some res → GG p l e rm_posts s m args below meth c dC dI A 6 0 0 Q (MW E h r S) 43 [(0, .ref h), (1, .int x1), (2, .int x2), (3, .int x3), (4, .int x4), (5, .int x5)] []) (x3 : Int32) (x4 : Int32) (x5 : Int32), M_posts_B80 F k43 S x1 x2 x3 x4 x5 = some res → GG p l e rm_posts s m args below meth c dC dI A 6 0 0 Q (MW E h r S) 80 [(0, .ref h), (1, .int x1), (2, .int x2), (3, .int x3), (4, .int x4), (5, .int x5)] [] := by
    intro S x1 x2 k43 hk43 x3 x4 x5 hf
    unfold M_posts_B80 at hf
    refine g_iinc (lv' := [(5, .int (x5 + (1 : Int32))), (0, .ref h), (1, .int x1), (2, .int x2), (3, .int x3), (4, .int x4)]) X dX11_posts_80 5 rfl kc_1 (by decide) rfl ?_
    refine g_goto (tgt := 43) X dX11_posts_83 (by decide) ?_
    refine g_lv [1, 2, 3, 4, 5, 0] (lv' := [(0, .ref h), (1, .int x1), (2, .int x2), (3, .int x3), (4, .int x4), (5, .int (x5 + (1 : Int32)))]) rfl ?_
    exact hk43 _ _ _ hf
  have hL43 : ∀ (S : MS) (x1 : Int32) (x2 : Int32) (n : Nat) (x3 : Int32) (x4 : Int32) (x5 : Int32), M_posts_L43 F S x1 x2 n x3 x4 x5 = some res → GG p l e rm_posts s m args below meth c dC dI A 6 0 0 Q (MW E h r S) 43 [(0, .ref h), (1, .int x1), (2, .int x2), (3, .int x3), (4, .int x4), (5, .int x5)] [] := by
    intro S x1 x2 n
    induction n with
    | zero => intro x3 x4 x5 hf; have hf : (none : Option (Int32 × MS)) = some res := hf; cases hf
    | succ n ih =>
      intro x3 x4 x5 hf
      rw [M_posts_L43] at hf
      refine g_iload X dX11_posts_43 5 rfl ?_
      refine g_sipush X dX11_posts_45 ks_256 ?_
      refine g_icmp_ge (tgt := 86) X dX11_posts_48 (by decide) hf (fun hf => ?_) (fun hf => ?_)
      · refine g_iload_n X dX11_posts_86 2 rfl ?_
        refine g_if_ne (tgt := 94) X dX11_posts_87 (by decide) hf (fun hf => ?_) (fun hf => ?_)
        · refine g_iload X dX11_posts_94 4 rfl ?_
          exact m_reti_s hA hQ X hr hlk dX11_posts_96 hf
        refine g_iload_n X dX11_posts_90 3 rfl ?_
        refine g_goto (tgt := 96) X dX11_posts_91 (by decide) ?_
        exact m_reti_s hA hQ X hr hlk dX11_posts_96 hf
      refine g_iload X dX11_posts_51 5 rfl ?_
      refine m_bind hf (fun q1 hq1 hf => ?_)
      refine m_callS_i (As := [.int x5]) (st := []) X kS_477 (c_ones l dC dI E h r F S x5 q1 hq1) ⟨Nat.le_of_ble_eq_true rfl, Nat.le_of_ble_eq_true rfl⟩ ⟨rfl, rfl⟩ (Nat.le_of_ble_eq_true rfl) ⟨Nat.le_of_ble_eq_true rfl, Nat.le_of_ble_eq_true rfl⟩ dX11_posts_53 ?_
      refine g_iload_n X dX11_posts_56 3 rfl ?_
      refine g_icmp_ge (tgt := 80) X dX11_posts_57 (by decide) hf (fun hf => ?_) (fun hf => ?_)
      · exact hB80 _ _ _ _ ih _ _ _ hf
      refine g_aload_n X dX11_posts_60 0 rfl ?_
      refine g_iload X dX11_posts_61 5 rfl ?_
      refine g_iload_n X dX11_posts_63 1 rfl ?_
      refine m_bind hf (fun q2 hq2 hf => ?_)
      refine m_callV_i (As := [.int x5, .int x1]) (st := []) X kV_480 (c_allNear l dC dI E h r F S x5 x1 q2 hq2) ⟨Nat.le_of_ble_eq_true rfl, Nat.le_of_ble_eq_true rfl⟩ ⟨rfl, rfl⟩ (Nat.le_of_ble_eq_true rfl) ⟨Nat.le_of_ble_eq_true rfl, Nat.le_of_ble_eq_true rfl⟩ dX11_posts_64 ?_
      refine g_if_eq (tgt := 80) X dX11_posts_67 (by decide) hf (fun hf => ?_) (fun hf => ?_)
      · exact hB80 _ _ _ _ ih _ _ _ hf
      refine g_iload X dX11_posts_70 5 rfl ?_
      refine m_bind hf (fun q3 hq3 hf => ?_)
      refine m_callS_i (As := [.int x5]) (st := []) X kS_477 (c_ones l dC dI E h r F S x5 q3 hq3) ⟨Nat.le_of_ble_eq_true rfl, Nat.le_of_ble_eq_true rfl⟩ ⟨rfl, rfl⟩ (Nat.le_of_ble_eq_true rfl) ⟨Nat.le_of_ble_eq_true rfl, Nat.le_of_ble_eq_true rfl⟩ dX11_posts_72 ?_
      refine g_istore_n (i := 3) (lv' := [(3, .int q3), (0, .ref h), (1, .int x1), (2, .int x2), (4, .int x4), (5, .int x5)]) X dX11_posts_75 rfl (by decide) rfl ?_
      refine g_iload X dX11_posts_76 5 rfl ?_
      refine g_istore (lv' := [(4, .int x5), (3, .int q3), (0, .ref h), (1, .int x1), (2, .int x2), (5, .int x5)]) X dX11_posts_78 (by decide) rfl ?_
      refine g_lv [2, 3, 4, 1, 0, 5] (lv' := [(0, .ref h), (1, .int x1), (2, .int x2), (3, .int q3), (4, .int x5), (5, .int x5)]) rfl ?_
      exact hB80 _ _ _ _ ih _ _ _ hf
  refine g_lv [0, 1, 2] (lv' := [(0, .ref h), (1, .int x1), (2, .int x2)]) rfl ?_
  unfold M_posts at hf
  refine g_aload_n X dX11_posts_0 0 rfl ?_
  refine g_iconst X dX11_posts_1 kc_0 ?_
  refine m_put_0 X dX11_posts_2 hf (fun S4 hf => ?_)
  refine g_iload_n X dX11_posts_5 1 rfl ?_
  refine g_i2l X dX11_posts_6 ?_
  refine g_lconst X dX11_posts_7 kl_0 ?_
  refine g_ldc2 X dX11_posts_8 wd7_204 ?_
  refine m_bind hf (fun q5 hq5 hf => ?_)
  refine m_callS_i (As := [.long (x1).toInt64, .long (0 : Int64), .long (50 : Int64)]) (st := []) X kS_179 (c_in l dC dI E h r S4 (x1).toInt64 (0 : Int64) (50 : Int64) q5 hq5) ⟨Nat.le_of_ble_eq_true rfl, Nat.le_of_ble_eq_true rfl⟩ ⟨rfl, rfl⟩ (Nat.le_of_ble_eq_true rfl) ⟨Nat.le_of_ble_eq_true rfl, Nat.le_of_ble_eq_true rfl⟩ dX11_posts_11 ?_
  refine g_if_eq (tgt := 27) X dX11_posts_14 (by decide) hf (fun hf => ?_) (fun hf => ?_)
  · refine g_iconst X dX11_posts_27 kc_m1 ?_
    exact m_reti_s hA hQ X hr hlk dX11_posts_28 hf
  refine g_iload_n X dX11_posts_17 2 rfl ?_
  refine g_i2l X dX11_posts_18 ?_
  refine g_lconst X dX11_posts_19 kl_0 ?_
  refine g_lconst X dX11_posts_20 kl_1 ?_
  refine m_bind hf (fun q6 hq6 hf => ?_)
  refine m_callS_i (As := [.long (x2).toInt64, .long (0 : Int64), .long (1 : Int64)]) (st := []) X kS_179 (c_in l dC dI E h r S4 (x2).toInt64 (0 : Int64) (1 : Int64) q6 hq6) ⟨Nat.le_of_ble_eq_true rfl, Nat.le_of_ble_eq_true rfl⟩ ⟨rfl, rfl⟩ (Nat.le_of_ble_eq_true rfl) ⟨Nat.le_of_ble_eq_true rfl, Nat.le_of_ble_eq_true rfl⟩ dX11_posts_21 ?_
  refine g_if_ne (tgt := 29) X dX11_posts_24 (by decide) hf (fun hf => ?_) (fun hf => ?_)
  · refine g_aload_n X dX11_posts_29 0 rfl ?_
    refine m_bind hf (fun q7 hq7 hf => ?_)
    refine m_callV_v (As := []) (st := []) X kV_460 (c_layFar l dC dI E h r F S4 q7 hq7) ⟨Nat.le_of_ble_eq_true rfl, Nat.le_of_ble_eq_true rfl⟩ ⟨rfl, rfl⟩ (Nat.le_of_ble_eq_true rfl) ⟨Nat.le_of_ble_eq_true rfl, Nat.le_of_ble_eq_true rfl⟩ dX11_posts_30 ?_
    refine g_ldcw X dX11_posts_33 wd7_183 ?_
    refine g_istore_n (i := 3) (lv' := [(3, .int (100000000 : Int32)), (0, .ref h), (1, .int x1), (2, .int x2)]) X dX11_posts_36 rfl (by decide) rfl ?_
    refine g_iconst X dX11_posts_37 kc_0 ?_
    refine g_istore (lv' := [(4, .int (0 : Int32)), (3, .int (100000000 : Int32)), (0, .ref h), (1, .int x1), (2, .int x2)]) X dX11_posts_38 (by decide) rfl ?_
    refine g_iconst X dX11_posts_40 kc_0 ?_
    refine g_istore (lv' := [(5, .int (0 : Int32)), (4, .int (0 : Int32)), (3, .int (100000000 : Int32)), (0, .ref h), (1, .int x1), (2, .int x2)]) X dX11_posts_41 (by decide) rfl ?_
    refine g_lv [3, 4, 5, 2, 1, 0] (lv' := [(0, .ref h), (1, .int x1), (2, .int x2), (3, .int (100000000 : Int32)), (4, .int (0 : Int32)), (5, .int (0 : Int32))]) rfl ?_
    exact hL43 _ _ _ _ _ _ _ hf
  refine g_iconst X dX11_posts_27 kc_m1 ?_
  exact m_reti_s hA hQ X hr hlk dX11_posts_28 hf
def rm_again : Room := { frames := 9, cells := 0, slots := 0, locals := 213 }
set_option maxRecDepth 100000 in
set_option maxHeartbeats 4000000 in
theorem c_again (l : Launch) (dC : Nat → ClassId) (dI : Nat → Nat → Nat) (E : Nat → ClassId) (h : Nat) (r : Nat → Nat) (F : Nat) (S : MS) (x1 : Int32) (res : Int32 × MS) (hf : M_again F S x1 = some res) : MC l dC dI E yX11_again cX11_again 4 (some .int) rm_again [.ref h, .int x1] (MW E h r S) (MW E h r res.2) (some (.int res.1)) := by
  refine MC_of (own := "LostLanesModel") (by decide) rfl (Nat.le_of_ble_eq_true rfl) ?_
  intro p e s m args below meth c A Q X hr hlk hA hQ
  have hB68 : ∀ (S : MS) (x3 : Int32), M_again_B68 F S x3 = some res → GG p l e rm_again s m args below meth c dC dI A 4 0 0 Q (MW E h r S) 68 [(0, .ref h), (3, .int x3)] [] := by
    intro S x3 hf
    unfold M_again_B68 at hf
    refine g_aload_n X dX11_again_68 0 rfl ?_
    refine g_bipush X dX11_again_69 kb_16 ?_
    refine m_bind hf (fun q1 hq1 hf => ?_)
    refine m_callV_v (As := [.int (16 : Int32)]) (st := []) X kV_176 (c_putBack l dC dI E h r F S (16 : Int32) q1 hq1) ⟨Nat.le_of_ble_eq_true rfl, Nat.le_of_ble_eq_true rfl⟩ ⟨rfl, rfl⟩ (Nat.le_of_ble_eq_true rfl) ⟨Nat.le_of_ble_eq_true rfl, Nat.le_of_ble_eq_true rfl⟩ dX11_again_71 ?_
    refine g_iload_n X dX11_again_74 1 rfl ?_
    refine g_bipush X dX11_again_75 kb_60 ?_
    refine g_icmp_le (tgt := 84) X dX11_again_77 (by decide) hf (fun hf => ?_) (fun hf => ?_)
    · refine g_iload_n X dX11_again_84 1 rfl ?_
      exact m_reti_s hA hQ X hr hlk dX11_again_85 hf
    refine g_iconst X dX11_again_80 kc_m1 ?_
    refine g_goto (tgt := 85) X dX11_again_81 (by decide) ?_
    exact m_reti_s hA hQ X hr hlk dX11_again_85 hf
  have hL38 : ∀ (x1 : Int32) (x2 : Int32) (n : Nat) (S : MS) (x3 : Int32), M_again_L38 F x1 x2 n S x3 = some res → GG p l e rm_again s m args below meth c dC dI A 4 0 0 Q (MW E h r S) 38 [(0, .ref h), (1, .int x1), (2, .int x2), (3, .int x3)] [] := by
    intro x1 x2 n
    induction n with
    | zero => intro S x3 hf; have hf : (none : Option (Int32 × MS)) = some res := hf; cases hf
    | succ n ih =>
      intro S x3 hf
      rw [M_again_L38] at hf
      refine g_iload_n X dX11_again_38 3 rfl ?_
      refine g_bipush X dX11_again_39 kb_60 ?_
      refine g_icmp_gt (tgt := 68) X dX11_again_41 (by decide) hf (fun hf => ?_) (fun hf => ?_)
      · refine g_lv [0, 3] (lv' := [(0, .ref h), (3, .int x3)]) rfl ?_
        exact hB68 _ _ hf
      refine g_aload_n X dX11_again_44 0 rfl ?_
      refine m_get_3 X dX11_again_45 ?_
      refine g_bipush X dX11_again_48 kb_18 ?_
      refine g_iload_n X dX11_again_50 1 rfl ?_
      refine g_iadd X dX11_again_51 ?_
      refine m_ald_3 X dX11_again_52 hf (fun hf => ?_)
      refine g_iload_n X dX11_again_53 2 rfl ?_
      refine g_icmp_eq (tgt := 68) X dX11_again_54 (by decide) hf (fun hf => ?_) (fun hf => ?_)
      · refine g_lv [0, 3] (lv' := [(0, .ref h), (3, .int x3)]) rfl ?_
        exact hB68 _ _ hf
      refine g_aload_n X dX11_again_57 0 rfl ?_
      refine m_bind hf (fun q2 hq2 hf => ?_)
      refine m_callV_i (As := []) (st := []) X kV_451 (c_passIt l dC dI E h r F S q2 hq2) ⟨Nat.le_of_ble_eq_true rfl, Nat.le_of_ble_eq_true rfl⟩ ⟨rfl, rfl⟩ (Nat.le_of_ble_eq_true rfl) ⟨Nat.le_of_ble_eq_true rfl, Nat.le_of_ble_eq_true rfl⟩ dX11_again_58 ?_
      refine g_pop X dX11_again_61 rfl ?_
      refine g_iinc (lv' := [(3, .int (x3 + (1 : Int32))), (0, .ref h), (1, .int x1), (2, .int x2)]) X dX11_again_62 3 rfl kc_1 (by decide) rfl ?_
      refine g_goto (tgt := 38) X dX11_again_65 (by decide) ?_
      refine g_lv [1, 2, 3, 0] (lv' := [(0, .ref h), (1, .int x1), (2, .int x2), (3, .int (x3 + (1 : Int32)))]) rfl ?_
      exact ih _ _ hf
  refine g_lv [0, 1] (lv' := [(0, .ref h), (1, .int x1)]) rfl ?_
  unfold M_again at hf
  refine g_aload_n X dX11_again_0 0 rfl ?_
  refine g_iconst X dX11_again_1 kc_0 ?_
  refine m_put_0 X dX11_again_2 hf (fun S3 hf => ?_)
  refine g_aload_n X dX11_again_5 0 rfl ?_
  refine g_iload_n X dX11_again_6 1 rfl ?_
  refine m_bind hf (fun q4 hq4 hf => ?_)
  refine m_callV_i (As := [.int x1]) (st := []) X kV_203 (c_isChild l dC dI E h r S3 x1 q4 hq4) ⟨Nat.le_of_ble_eq_true rfl, Nat.le_of_ble_eq_true rfl⟩ ⟨rfl, rfl⟩ (Nat.le_of_ble_eq_true rfl) ⟨Nat.le_of_ble_eq_true rfl, Nat.le_of_ble_eq_true rfl⟩ dX11_again_7 ?_
  refine g_if_ne (tgt := 15) X dX11_again_10 (by decide) hf (fun hf => ?_) (fun hf => ?_)
  · refine g_aload_n X dX11_again_15 0 rfl ?_
    refine m_get_3 X dX11_again_16 ?_
    refine g_bipush X dX11_again_19 kb_18 ?_
    refine g_iload_n X dX11_again_21 1 rfl ?_
    refine g_iadd X dX11_again_22 ?_
    refine m_ald_3 X dX11_again_23 hf (fun hf => ?_)
    refine g_istore_n (i := 2) (lv' := [(2, .int (ma S3 3 (((18 : Int32) + x1)).toNatClampNeg)), (0, .ref h), (1, .int x1)]) X dX11_again_24 rfl (by decide) rfl ?_
    refine g_aload_n X dX11_again_25 1 rfl ?_
    refine g_bipush X dX11_again_26 kb_16 ?_
    refine m_bind hf (fun q5 hq5 hf => ?_)
    refine m_callV_v (As := [.int (16 : Int32)]) (st := []) X kV_172 (c_keepAll l dC dI E h r F S3 (16 : Int32) q5 hq5) ⟨Nat.le_of_ble_eq_true rfl, Nat.le_of_ble_eq_true rfl⟩ ⟨rfl, rfl⟩ (Nat.le_of_ble_eq_true rfl) ⟨Nat.le_of_ble_eq_true rfl, Nat.le_of_ble_eq_true rfl⟩ dX11_again_28 ?_
    refine g_aload_n X dX11_again_31 1 rfl ?_
    refine m_bind hf (fun q6 hq6 hf => ?_)
    refine m_callV_i (As := []) (st := []) X kV_451 (c_passIt l dC dI E h r F q5.2 q6 hq6) ⟨Nat.le_of_ble_eq_true rfl, Nat.le_of_ble_eq_true rfl⟩ ⟨rfl, rfl⟩ (Nat.le_of_ble_eq_true rfl) ⟨Nat.le_of_ble_eq_true rfl, Nat.le_of_ble_eq_true rfl⟩ dX11_again_32 ?_
    refine g_pop X dX11_again_35 rfl ?_
    refine g_iconst X dX11_again_36 kc_1 ?_
    refine g_istore_n (i := 3) (lv' := [(3, .int (1 : Int32)), (2, .int (ma S3 3 (((18 : Int32) + x1)).toNatClampNeg)), (0, .ref h), (1, .int x1)]) X dX11_again_37 rfl (by decide) rfl ?_
    refine g_lv [2, 3, 1, 0] (lv' := [(0, .ref h), (1, .int x1), (2, .int (ma S3 3 (((18 : Int32) + x1)).toNatClampNeg)), (3, .int (1 : Int32))]) rfl ?_
    exact hL38 _ _ _ _ _ hf
  refine g_iconst X dX11_again_13 kc_m1 ?_
  exact m_reti_s hA hQ X hr hlk dX11_again_14 hf
def rm_hear : Room := { frames := 1, cells := 0, slots := 0, locals := 25 }
set_option maxRecDepth 100000 in
set_option maxHeartbeats 4000000 in
theorem c_hear (l : Launch) (dC : Nat → ClassId) (dI : Nat → Nat → Nat) (E : Nat → ClassId) (h : Nat) (r : Nat → Nat) (S : MS) (x1 : Int32) (res : Int32 × MS) (hf : M_hear S x1 = some res) : MC l dC dI E yX11_hear cX11_hear 3 (some .int) rm_hear [.ref h, .int x1] (MW E h r S) (MW E h r res.2) (some (.int res.1)) := by
  refine MC_of (own := "LostLanesModel") (by decide) rfl (Nat.le_of_ble_eq_true rfl) ?_
  intro p e s m args below meth c A Q X hr hlk hA hQ
  refine g_lv [0, 1] (lv' := [(0, .ref h), (1, .int x1)]) rfl ?_
  unfold M_hear at hf
  refine g_aload_n X dX11_hear_0 0 rfl ?_
  refine g_iconst X dX11_hear_1 kc_0 ?_
  refine m_put_0 X dX11_hear_2 hf (fun S1 hf => ?_)
  refine g_iload_n X dX11_hear_5 1 rfl ?_
  refine g_i2l X dX11_hear_6 ?_
  refine g_lconst X dX11_hear_7 kl_0 ?_
  refine g_ldc2 X dX11_hear_8 wd7_227 ?_
  refine m_bind hf (fun q2 hq2 hf => ?_)
  refine m_callS_i (As := [.long (x1).toInt64, .long (0 : Int64), .long (19 : Int64)]) (st := []) X kS_179 (c_in l dC dI E h r S1 (x1).toInt64 (0 : Int64) (19 : Int64) q2 hq2) ⟨Nat.le_of_ble_eq_true rfl, Nat.le_of_ble_eq_true rfl⟩ ⟨rfl, rfl⟩ (Nat.le_of_ble_eq_true rfl) ⟨Nat.le_of_ble_eq_true rfl, Nat.le_of_ble_eq_true rfl⟩ dX11_hear_11 ?_
  refine g_if_ne (tgt := 23) X dX11_hear_14 (by decide) hf (fun hf => ?_) (fun hf => ?_)
  · refine g_aload_n X dX11_hear_23 0 rfl ?_
    refine m_get_3 X dX11_hear_24 ?_
    refine g_iconst X dX11_hear_27 kc_2 ?_
    refine m_aldc_3 X kt_2 kx_2_5476 dX11_hear_28 ?_
    refine g_istore_n (i := 2) (lv' := [(2, .int (ma S1 3 2)), (0, .ref h), (1, .int x1)]) X dX11_hear_29 rfl (by decide) rfl ?_
    refine g_iload_n X dX11_hear_30 0 rfl ?_
    refine g_bipush X dX11_hear_31 kb_6 ?_
    refine g_icmp_ne (tgt := 43) X dX11_hear_33 (by decide) hf (fun hf => ?_) (fun hf => ?_)
    · refine g_aload_n X dX11_hear_43 1 rfl ?_
      refine m_get_3 X dX11_hear_44 ?_
      refine g_bipush X dX11_hear_47 kb_70 ?_
      refine g_iload_n X dX11_hear_49 0 rfl ?_
      refine g_iadd X dX11_hear_50 ?_
      refine g_iload_n X dX11_hear_51 2 rfl ?_
      refine m_ast_3 X dX11_hear_52 hf (fun S3 hf => ?_)
      refine g_aload_n X dX11_hear_53 1 rfl ?_
      refine m_get_3 X dX11_hear_54 ?_
      refine g_iconst X dX11_hear_57 kc_2 ?_
      refine g_dup2 X dX11_hear_58 rfl rfl ?_
      refine m_aldc_3 X kt_2 kx_2_5476 dX11_hear_59 ?_
      refine g_iconst X dX11_hear_60 kc_1 ?_
      refine g_iadd X dX11_hear_61 ?_
      refine m_astc_3 X kt_2 kx_2_5476 dX11_hear_62 hf (fun S4 hf => ?_)
      refine g_aload_n X dX11_hear_63 1 rfl ?_
      refine g_iload_n X dX11_hear_64 0 rfl ?_
      refine g_iconst X dX11_hear_65 kc_1 ?_
      refine g_iadd X dX11_hear_66 ?_
      refine m_bind hf (fun q5 hq5 hf => ?_)
      refine m_callV_i (As := [.int ((ma S1 3 2) + (1 : Int32))]) (st := []) X kV_168 (c_tell l dC dI E h r S4 ((ma S1 3 2) + (1 : Int32)) q5 hq5) ⟨Nat.le_of_ble_eq_true rfl, Nat.le_of_ble_eq_true rfl⟩ ⟨rfl, rfl⟩ (Nat.le_of_ble_eq_true rfl) ⟨Nat.le_of_ble_eq_true rfl, Nat.le_of_ble_eq_true rfl⟩ dX11_hear_67 ?_
      exact m_reti_s hA hQ X hr hlk dX11_hear_70 hf
    refine g_aload_n X dX11_hear_36 1 rfl ?_
    refine g_bipush X dX11_hear_37 kb_m5 ?_
    refine m_bind hf (fun q6 hq6 hf => ?_)
    refine m_callV_i (As := [.int (-5 : Int32)]) (st := []) X kV_168 (c_tell l dC dI E h r S1 (-5 : Int32) q6 hq6) ⟨Nat.le_of_ble_eq_true rfl, Nat.le_of_ble_eq_true rfl⟩ ⟨rfl, rfl⟩ (Nat.le_of_ble_eq_true rfl) ⟨Nat.le_of_ble_eq_true rfl, Nat.le_of_ble_eq_true rfl⟩ dX11_hear_39 ?_
    exact m_reti_s hA hQ X hr hlk dX11_hear_42 hf
  refine g_aload_n X dX11_hear_17 0 rfl ?_
  refine g_iconst X dX11_hear_18 kc_m1 ?_
  refine m_bind hf (fun q7 hq7 hf => ?_)
  refine m_callV_i (As := [.int (-1 : Int32)]) (st := []) X kV_168 (c_tell l dC dI E h r S1 (-1 : Int32) q7 hq7) ⟨Nat.le_of_ble_eq_true rfl, Nat.le_of_ble_eq_true rfl⟩ ⟨rfl, rfl⟩ (Nat.le_of_ble_eq_true rfl) ⟨Nat.le_of_ble_eq_true rfl, Nat.le_of_ble_eq_true rfl⟩ dX11_hear_19 ?_
  exact m_reti_s hA hQ X hr hlk dX11_hear_22 hf
def rm_forget : Room := { frames := 0, cells := 0, slots := 0, locals := 0 }
set_option maxRecDepth 100000 in
set_option maxHeartbeats 4000000 in
theorem c_forget (l : Launch) (dC : Nat → ClassId) (dI : Nat → Nat → Nat) (E : Nat → ClassId) (h : Nat) (r : Nat → Nat) (S : MS)  (res : Int32 × MS) (hf : M_forget S = some res) : MC l dC dI E yX11_forget cX11_forget 2 (some .int) rm_forget [.ref h] (MW E h r S) (MW E h r res.2) (some (.int res.1)) := by
  refine MC_of (own := "LostLanesModel") (by decide) rfl (Nat.le_of_ble_eq_true rfl) ?_
  intro p e s m args below meth c A Q X hr hlk hA hQ
  refine g_lv [0] (lv' := [(0, .ref h)]) rfl ?_
  unfold M_forget at hf
  refine g_aload_n X dX11_forget_0 0 rfl ?_
  refine g_iconst X dX11_forget_1 kc_0 ?_
  refine m_put_0 X dX11_forget_2 hf (fun S1 hf => ?_)
  refine g_aload_n X dX11_forget_5 0 rfl ?_
  refine m_get_3 X dX11_forget_6 ?_
  refine g_iconst X dX11_forget_9 kc_2 ?_
  refine m_aldc_3 X kt_2 kx_2_5476 dX11_forget_10 ?_
  refine g_istore_n (i := 1) (lv' := [(1, .int (ma S1 3 2)), (0, .ref h)]) X dX11_forget_11 rfl (by decide) rfl ?_
  refine g_aload_n X dX11_forget_12 1 rfl ?_
  refine m_get_3 X dX11_forget_13 ?_
  refine g_iconst X dX11_forget_16 kc_2 ?_
  refine g_iconst X dX11_forget_17 kc_0 ?_
  refine m_astc_3 X kt_2 kx_2_5476 dX11_forget_18 hf (fun S2 hf => ?_)
  refine g_iload_n X dX11_forget_19 0 rfl ?_
  exact m_reti_s hA hQ X hr hlk dX11_forget_20 hf
def rm_goneFrom : Room := { frames := 0, cells := 0, slots := 0, locals := 0 }
set_option maxRecDepth 100000 in
set_option maxHeartbeats 4000000 in
theorem c_goneFrom (l : Launch) (dC : Nat → ClassId) (dI : Nat → Nat → Nat) (E : Nat → ClassId) (h : Nat) (r : Nat → Nat) (F : Nat) (S : MS) (x1 : Int32) (res : Int32 × MS) (hf : M_goneFrom F S x1 = some res) : MC l dC dI E yX11_goneFrom cX11_goneFrom 4 (some .int) rm_goneFrom [.ref h, .int x1] (MW E h r S) (MW E h r res.2) (some (.int res.1)) := by
  refine MC_of (own := "LostLanesModel") (by decide) rfl (Nat.le_of_ble_eq_true rfl) ?_
  intro p e s m args below meth c A Q X hr hlk hA hQ
  have hL200 : ∀ (S : MS) (n : Nat) (x2 : Int32) (x3 : Int32), M_goneFrom_L200 F S n x2 x3 = some res → GG p l e rm_goneFrom s m args below meth c dC dI A 4 0 0 Q (MW E h r S) 200 [(0, .ref h), (2, .int x2), (3, .int x3)] [] := by
    intro S n
    induction n with
    | zero => intro x2 x3 hf; have hf : (none : Option (Int32 × MS)) = some res := hf; cases hf
    | succ n ih =>
      intro x2 x3 hf
      rw [M_goneFrom_L200] at hf
      refine g_iload_n X dX11_goneFrom_200 2 rfl ?_
      refine g_bipush X dX11_goneFrom_201 kb_8 ?_
      refine g_icmp_ge (tgt := 221) X dX11_goneFrom_203 (by decide) hf (fun hf => ?_) (fun hf => ?_)
      · refine g_iload_n X dX11_goneFrom_221 1 rfl ?_
        exact m_reti_s hA hQ X hr hlk dX11_goneFrom_222 hf
      refine g_iload_n X dX11_goneFrom_206 1 rfl ?_
      refine g_aload_n X dX11_goneFrom_207 0 rfl ?_
      refine m_get_43 X dX11_goneFrom_208 ?_
      refine g_iload_n X dX11_goneFrom_211 2 rfl ?_
      refine m_ald_43 X dX11_goneFrom_212 hf (fun hf => ?_)
      refine g_iadd X dX11_goneFrom_213 ?_
      refine g_istore_n (i := 2) (lv' := [(2, .int (x2 + (ma S 43 (x3).toNatClampNeg))), (0, .ref h), (3, .int x3)]) X dX11_goneFrom_214 rfl (by decide) rfl ?_
      refine g_iinc (lv' := [(3, .int (x3 + (1 : Int32))), (2, .int (x2 + (ma S 43 (x3).toNatClampNeg))), (0, .ref h)]) X dX11_goneFrom_215 2 rfl kc_1 (by decide) rfl ?_
      refine g_goto (tgt := 200) X dX11_goneFrom_218 (by decide) ?_
      refine g_lv [2, 1, 0] (lv' := [(0, .ref h), (2, .int (x2 + (ma S 43 (x3).toNatClampNeg))), (3, .int (x3 + (1 : Int32)))]) rfl ?_
      exact ih _ _ hf
  have hL166 : ∀ (k32 : MS → Int32 → Option (Int32 × MS)) (hk32 : ∀ (S : MS) (x2 : Int32), k32 S x2 = some res → GG p l e rm_goneFrom s m args below meth c dC dI A 4 0 0 Q (MW E h r S) 32 [(0, .ref h), (2, .int x2)] []) (x2 : Int32) (n : Nat) (S : MS) (x3 : Int32), M_goneFrom_L166 F k32 x2 n S x3 = some res → GG p l e rm_goneFrom s m args below meth c dC dI A 4 0 0 Q (MW E h r S) 166 [(0, .ref h), (2, .int x2), (3, .int x3)] [] := by
    intro k32 hk32 x2 n
    induction n with
    | zero => intro S x3 hf; have hf : (none : Option (Int32 × MS)) = some res := hf; cases hf
    | succ n ih =>
      intro S x3 hf
      rw [M_goneFrom_L166] at hf
      refine g_iload_n X dX11_goneFrom_166 2 rfl ?_
      refine g_bipush X dX11_goneFrom_167 kb_8 ?_
      refine g_icmp_ge (tgt := 190) X dX11_goneFrom_169 (by decide) hf (fun hf => ?_) (fun hf => ?_)
      · refine g_iinc (lv' := [(2, .int (x2 + (1 : Int32))), (0, .ref h), (3, .int x3)]) X dX11_goneFrom_190 1 rfl kc_1 (by decide) rfl ?_
        refine g_goto (tgt := 32) X dX11_goneFrom_193 (by decide) ?_
        refine g_lv [1, 0] (lv' := [(0, .ref h), (2, .int (x2 + (1 : Int32)))]) rfl ?_
        exact hk32 _ _ hf
      refine g_aload_n X dX11_goneFrom_172 0 rfl ?_
      refine m_get_43 X dX11_goneFrom_173 ?_
      refine g_iload_n X dX11_goneFrom_176 2 rfl ?_
      refine g_aload_n X dX11_goneFrom_177 0 rfl ?_
      refine m_get_44 X dX11_goneFrom_178 ?_
      refine g_iload_n X dX11_goneFrom_181 2 rfl ?_
      refine m_ald_44 X dX11_goneFrom_182 hf (fun hf => ?_)
      refine m_ast_43 X dX11_goneFrom_183 hf (fun S1 hf => ?_)
      refine g_iinc (lv' := [(3, .int (x3 + (1 : Int32))), (0, .ref h), (2, .int x2)]) X dX11_goneFrom_184 2 rfl kc_1 (by decide) rfl ?_
      refine g_goto (tgt := 166) X dX11_goneFrom_187 (by decide) ?_
      refine g_lv [1, 2, 0] (lv' := [(0, .ref h), (2, .int x2), (3, .int (x3 + (1 : Int32)))]) rfl ?_
      exact ih _ _ hf
  have hB158 : ∀ (x2 : Int32) (k32 : MS → Int32 → Option (Int32 × MS)) (hk32 : ∀ (S : MS) (x2 : Int32), k32 S x2 = some res → GG p l e rm_goneFrom s m args below meth c dC dI A 4 0 0 Q (MW E h r S) 32 [(0, .ref h), (2, .int x2)] []) (k65 : MS → Int32 → Option (Int32 × MS)) (hk65 : ∀ (S : MS) (x3 : Int32), k65 S x3 = some res → GG p l e rm_goneFrom s m args below meth c dC dI A 4 0 0 Q (MW E h r S) 65 [(0, .ref h), (2, .int x2), (3, .int x3)] []) (S : MS) (x3 : Int32), M_goneFrom_B158 F k32 k65 S x2 x3 = some res → GG p l e rm_goneFrom s m args below meth c dC dI A 4 0 0 Q (MW E h r S) 158 [(0, .ref h), (2, .int x2), (3, .int x3)] [] := by
    intro x2 k32 hk32 k65 hk65 S x3 hf
    unfold M_goneFrom_B158 at hf
    refine g_iinc (lv' := [(3, .int (x3 + (1 : Int32))), (0, .ref h), (2, .int x2)]) X dX11_goneFrom_158 2 rfl kc_1 (by decide) rfl ?_
    refine g_goto (tgt := 65) X dX11_goneFrom_161 (by decide) ?_
    refine g_lv [1, 2, 0] (lv' := [(0, .ref h), (2, .int x2), (3, .int (x3 + (1 : Int32)))]) rfl ?_
    exact hk65 _ _ hf
  have hL65 : ∀ (k32 : MS → Int32 → Option (Int32 × MS)) (hk32 : ∀ (S : MS) (x2 : Int32), k32 S x2 = some res → GG p l e rm_goneFrom s m args below meth c dC dI A 4 0 0 Q (MW E h r S) 32 [(0, .ref h), (2, .int x2)] []) (x2 : Int32) (n : Nat) (S : MS) (x3 : Int32), M_goneFrom_L65 F k32 x2 n S x3 = some res → GG p l e rm_goneFrom s m args below meth c dC dI A 4 0 0 Q (MW E h r S) 65 [(0, .ref h), (2, .int x2), (3, .int x3)] [] := by
    intro k32 hk32 x2 n
    induction n with
    | zero => intro S x3 hf; have hf : (none : Option (Int32 × MS)) = some res := hf; cases hf
    | succ n ih =>
      intro S x3 hf
      rw [M_goneFrom_L65] at hf
      refine g_iload_n X dX11_goneFrom_65 2 rfl ?_
      refine g_aload_n X dX11_goneFrom_66 0 rfl ?_
      refine m_get_3 X dX11_goneFrom_67 ?_
      refine g_iconst X dX11_goneFrom_70 kc_0 ?_
      refine m_aldc_3 X kt_0 kx_0_5476 dX11_goneFrom_71 ?_
      refine g_icmp_ge (tgt := 164) X dX11_goneFrom_72 (by decide) hf (fun hf => ?_) (fun hf => ?_)
      · refine g_iconst X dX11_goneFrom_164 kc_0 ?_
        refine g_istore_n (i := 3) (lv' := [(3, .int (0 : Int32)), (0, .ref h), (2, .int x2)]) X dX11_goneFrom_165 rfl (by decide) rfl ?_
        refine g_lv [1, 2, 0] (lv' := [(0, .ref h), (2, .int x2), (3, .int (0 : Int32))]) rfl ?_
        exact hL166 _ hk32 _ _ _ _ hf
      refine g_aload_n X dX11_goneFrom_75 0 rfl ?_
      refine m_get_3 X dX11_goneFrom_76 ?_
      refine g_bipush X dX11_goneFrom_79 kb_8 ?_
      refine g_iload_n X dX11_goneFrom_81 2 rfl ?_
      refine g_iadd X dX11_goneFrom_82 ?_
      refine m_ald_3 X dX11_goneFrom_83 hf (fun hf => ?_)
      refine g_aload_n X dX11_goneFrom_84 0 rfl ?_
      refine m_get_3 X dX11_goneFrom_85 ?_
      refine g_bipush X dX11_goneFrom_88 kb_70 ?_
      refine g_iload_n X dX11_goneFrom_90 1 rfl ?_
      refine g_iadd X dX11_goneFrom_91 ?_
      refine m_ald_3 X dX11_goneFrom_92 hf (fun hf => ?_)
      refine g_icmp_ne (tgt := 158) X dX11_goneFrom_93 (by decide) hf (fun hf => ?_) (fun hf => ?_)
      · exact hB158 _ _ hk32 _ ih _ _ hf
      refine g_aload_n X dX11_goneFrom_96 0 rfl ?_
      refine m_get_44 X dX11_goneFrom_97 ?_
      refine g_aload_n X dX11_goneFrom_100 0 rfl ?_
      refine m_get_3 X dX11_goneFrom_101 ?_
      refine g_bipush X dX11_goneFrom_104 kb_36 ?_
      refine g_iload_n X dX11_goneFrom_106 2 rfl ?_
      refine g_iadd X dX11_goneFrom_107 ?_
      refine m_ald_3 X dX11_goneFrom_108 hf (fun hf => ?_)
      refine g_dup2 X dX11_goneFrom_109 rfl rfl ?_
      refine m_ald_44 X dX11_goneFrom_110 hf (fun hf => ?_)
      refine g_aload_n X dX11_goneFrom_111 0 rfl ?_
      refine m_get_43 X dX11_goneFrom_112 ?_
      refine g_aload_n X dX11_goneFrom_115 0 rfl ?_
      refine m_get_3 X dX11_goneFrom_116 ?_
      refine g_bipush X dX11_goneFrom_119 kb_26 ?_
      refine g_iload_n X dX11_goneFrom_121 2 rfl ?_
      refine g_iadd X dX11_goneFrom_122 ?_
      refine m_ald_3 X dX11_goneFrom_123 hf (fun hf => ?_)
      refine m_ald_43 X dX11_goneFrom_124 hf (fun hf => ?_)
      refine g_iadd X dX11_goneFrom_125 ?_
      refine m_ast_44 X dX11_goneFrom_126 hf (fun S2 hf => ?_)
      refine g_aload_n X dX11_goneFrom_127 0 rfl ?_
      refine m_get_44 X dX11_goneFrom_128 ?_
      refine g_aload_n X dX11_goneFrom_131 0 rfl ?_
      refine m_get_3 X dX11_goneFrom_132 ?_
      refine g_bipush X dX11_goneFrom_135 kb_26 ?_
      refine g_iload_n X dX11_goneFrom_137 2 rfl ?_
      refine g_iadd X dX11_goneFrom_138 ?_
      refine m_ald_3 X dX11_goneFrom_139 hf (fun hf => ?_)
      refine g_dup2 X dX11_goneFrom_140 rfl rfl ?_
      refine m_ald_44 X dX11_goneFrom_141 hf (fun hf => ?_)
      refine g_aload_n X dX11_goneFrom_142 0 rfl ?_
      refine m_get_43 X dX11_goneFrom_143 ?_
      refine g_aload_n X dX11_goneFrom_146 0 rfl ?_
      refine m_get_3 X dX11_goneFrom_147 ?_
      refine g_bipush X dX11_goneFrom_150 kb_36 ?_
      refine g_iload_n X dX11_goneFrom_152 2 rfl ?_
      refine g_iadd X dX11_goneFrom_153 ?_
      refine m_ald_3 X dX11_goneFrom_154 hf (fun hf => ?_)
      refine m_ald_43 X dX11_goneFrom_155 hf (fun hf => ?_)
      refine g_iadd X dX11_goneFrom_156 ?_
      refine m_ast_44 X dX11_goneFrom_157 hf (fun S3 hf => ?_)
      exact hB158 _ _ hk32 _ ih _ _ hf
  have hL44 : ∀ (k32 : MS → Int32 → Option (Int32 × MS)) (hk32 : ∀ (S : MS) (x2 : Int32), k32 S x2 = some res → GG p l e rm_goneFrom s m args below meth c dC dI A 4 0 0 Q (MW E h r S) 32 [(0, .ref h), (2, .int x2)] []) (x2 : Int32) (n : Nat) (S : MS) (x3 : Int32), M_goneFrom_L44 F k32 x2 n S x3 = some res → GG p l e rm_goneFrom s m args below meth c dC dI A 4 0 0 Q (MW E h r S) 44 [(0, .ref h), (2, .int x2), (3, .int x3)] [] := by
    intro k32 hk32 x2 n
    induction n with
    | zero => intro S x3 hf; have hf : (none : Option (Int32 × MS)) = some res := hf; cases hf
    | succ n ih =>
      intro S x3 hf
      rw [M_goneFrom_L44] at hf
      refine g_iload_n X dX11_goneFrom_44 2 rfl ?_
      refine g_bipush X dX11_goneFrom_45 kb_8 ?_
      refine g_icmp_ge (tgt := 63) X dX11_goneFrom_47 (by decide) hf (fun hf => ?_) (fun hf => ?_)
      · refine g_iconst X dX11_goneFrom_63 kc_0 ?_
        refine g_istore_n (i := 3) (lv' := [(3, .int (0 : Int32)), (0, .ref h), (2, .int x2)]) X dX11_goneFrom_64 rfl (by decide) rfl ?_
        refine g_lv [1, 2, 0] (lv' := [(0, .ref h), (2, .int x2), (3, .int (0 : Int32))]) rfl ?_
        exact hL65 _ hk32 _ _ _ _ hf
      refine g_aload_n X dX11_goneFrom_50 0 rfl ?_
      refine m_get_44 X dX11_goneFrom_51 ?_
      refine g_iload_n X dX11_goneFrom_54 2 rfl ?_
      refine g_iconst X dX11_goneFrom_55 kc_0 ?_
      refine m_ast_44 X dX11_goneFrom_56 hf (fun S4 hf => ?_)
      refine g_iinc (lv' := [(3, .int (x3 + (1 : Int32))), (0, .ref h), (2, .int x2)]) X dX11_goneFrom_57 2 rfl kc_1 (by decide) rfl ?_
      refine g_goto (tgt := 44) X dX11_goneFrom_60 (by decide) ?_
      refine g_lv [1, 2, 0] (lv' := [(0, .ref h), (2, .int x2), (3, .int (x3 + (1 : Int32)))]) rfl ?_
      exact ih _ _ hf
  have hL32 : ∀  (n : Nat) (S : MS) (x2 : Int32), M_goneFrom_L32 F n S x2 = some res → GG p l e rm_goneFrom s m args below meth c dC dI A 4 0 0 Q (MW E h r S) 32 [(0, .ref h), (2, .int x2)] [] := by
    intro  n
    induction n with
    | zero => intro S x2 hf; have hf : (none : Option (Int32 × MS)) = some res := hf; cases hf
    | succ n ih =>
      intro S x2 hf
      rw [M_goneFrom_L32] at hf
      refine g_iload_n X dX11_goneFrom_32 1 rfl ?_
      refine g_aload_n X dX11_goneFrom_33 0 rfl ?_
      refine m_get_3 X dX11_goneFrom_34 ?_
      refine g_iconst X dX11_goneFrom_37 kc_2 ?_
      refine m_aldc_3 X kt_2 kx_2_5476 dX11_goneFrom_38 ?_
      refine g_icmp_ge (tgt := 196) X dX11_goneFrom_39 (by decide) hf (fun hf => ?_) (fun hf => ?_)
      · refine g_iconst X dX11_goneFrom_196 kc_0 ?_
        refine g_istore_n (i := 2) (lv' := [(2, .int (0 : Int32)), (0, .ref h)]) X dX11_goneFrom_197 rfl (by decide) rfl ?_
        refine g_iconst X dX11_goneFrom_198 kc_0 ?_
        refine g_istore_n (i := 3) (lv' := [(3, .int (0 : Int32)), (2, .int (0 : Int32)), (0, .ref h)]) X dX11_goneFrom_199 rfl (by decide) rfl ?_
        refine g_lv [2, 1, 0] (lv' := [(0, .ref h), (2, .int (0 : Int32)), (3, .int (0 : Int32))]) rfl ?_
        exact hL200 _ _ _ _ hf
      refine g_iconst X dX11_goneFrom_42 kc_0 ?_
      refine g_istore_n (i := 3) (lv' := [(3, .int (0 : Int32)), (0, .ref h), (2, .int x2)]) X dX11_goneFrom_43 rfl (by decide) rfl ?_
      refine g_lv [1, 2, 0] (lv' := [(0, .ref h), (2, .int x2), (3, .int (0 : Int32))]) rfl ?_
      exact hL44 _ ih _ _ _ _ hf
  have hB23 : ∀ (x1 : Int32) (k2 : MS → Int32 → Option (Int32 × MS)) (hk2 : ∀ (S : MS) (x2 : Int32), k2 S x2 = some res → GG p l e rm_goneFrom s m args below meth c dC dI A 4 0 0 Q (MW E h r S) 2 [(0, .ref h), (1, .int x1), (2, .int x2)] []) (S : MS) (x2 : Int32) (t1 : Int32) (t2 : Int32), M_goneFrom_B23 F k2 S x1 x2 t1 t2 = some res → GG p l e rm_goneFrom s m args below meth c dC dI A 4 0 0 Q (MW E h r S) 23 [(0, .ref h), (1, .int x1), (2, .int x2)] [.int t2, .int t1, .ref (r 43)] := by
    intro x1 k2 hk2 S x2 t1 t2 hf
    unfold M_goneFrom_B23 at hf
    refine m_ast_43 X dX11_goneFrom_23 hf (fun S5 hf => ?_)
    refine g_iinc (lv' := [(2, .int (x2 + (1 : Int32))), (0, .ref h), (1, .int x1)]) X dX11_goneFrom_24 2 rfl kc_1 (by decide) rfl ?_
    refine g_goto (tgt := 2) X dX11_goneFrom_27 (by decide) ?_
    refine g_lv [1, 2, 0] (lv' := [(0, .ref h), (1, .int x1), (2, .int (x2 + (1 : Int32)))]) rfl ?_
    exact hk2 _ _ hf
  have hL2 : ∀ (x1 : Int32) (n : Nat) (S : MS) (x2 : Int32), M_goneFrom_L2 F x1 n S x2 = some res → GG p l e rm_goneFrom s m args below meth c dC dI A 4 0 0 Q (MW E h r S) 2 [(0, .ref h), (1, .int x1), (2, .int x2)] [] := by
    intro x1 n
    induction n with
    | zero => intro S x2 hf; have hf : (none : Option (Int32 × MS)) = some res := hf; cases hf
    | succ n ih =>
      intro S x2 hf
      rw [M_goneFrom_L2] at hf
      refine g_iload_n X dX11_goneFrom_2 2 rfl ?_
      refine g_bipush X dX11_goneFrom_3 kb_8 ?_
      refine g_icmp_ge (tgt := 30) X dX11_goneFrom_5 (by decide) hf (fun hf => ?_) (fun hf => ?_)
      · refine g_iconst X dX11_goneFrom_30 kc_0 ?_
        refine g_istore_n (i := 2) (lv' := [(2, .int (0 : Int32)), (0, .ref h), (1, .int x1)]) X dX11_goneFrom_31 rfl (by decide) rfl ?_
        refine g_lv [1, 0] (lv' := [(0, .ref h), (2, .int (0 : Int32))]) rfl ?_
        exact hL32 _ _ _ hf
      refine g_aload_n X dX11_goneFrom_8 0 rfl ?_
      refine m_get_43 X dX11_goneFrom_9 ?_
      refine g_iload_n X dX11_goneFrom_12 2 rfl ?_
      refine g_iload_n X dX11_goneFrom_13 2 rfl ?_
      refine g_iload_n X dX11_goneFrom_14 1 rfl ?_
      refine g_icmp_ne (tgt := 22) X dX11_goneFrom_15 (by decide) hf (fun hf => ?_) (fun hf => ?_)
      · refine g_iconst X dX11_goneFrom_22 kc_0 ?_
        exact hB23 _ _ ih _ _ _ _ hf
      refine g_iconst X dX11_goneFrom_18 kc_1 ?_
      refine g_goto (tgt := 23) X dX11_goneFrom_19 (by decide) ?_
      exact hB23 _ _ ih _ _ _ _ hf
  refine g_lv [0, 1] (lv' := [(0, .ref h), (1, .int x1)]) rfl ?_
  unfold M_goneFrom at hf
  refine g_iconst X dX11_goneFrom_0 kc_0 ?_
  refine g_istore_n (i := 2) (lv' := [(2, .int (0 : Int32)), (0, .ref h), (1, .int x1)]) X dX11_goneFrom_1 rfl (by decide) rfl ?_
  refine g_lv [1, 2, 0] (lv' := [(0, .ref h), (1, .int x1), (2, .int (0 : Int32))]) rfl ?_
  exact hL2 _ _ _ _ hf
def rm_gone : Room := { frames := 1, cells := 0, slots := 0, locals := 25 }
set_option maxRecDepth 100000 in
set_option maxHeartbeats 4000000 in
theorem c_gone (l : Launch) (dC : Nat → ClassId) (dI : Nat → Nat → Nat) (E : Nat → ClassId) (h : Nat) (r : Nat → Nat) (F : Nat) (S : MS) (x1 : Int32) (res : Int32 × MS) (hf : M_gone F S x1 = some res) : MC l dC dI E yX11_gone cX11_gone 8 (some .int) rm_gone [.ref h, .int x1] (MW E h r S) (MW E h r res.2) (some (.int res.1)) := by
  refine MC_of (own := "LostLanesModel") (by decide) rfl (Nat.le_of_ble_eq_true rfl) ?_
  intro p e s m args below meth c A Q X hr hlk hA hQ
  have hB95 : ∀ (x1 : Int32) (S : MS) (x2 : Int32) (x3 : Int32) (x5 : Int32) (k29 : MS → Int32 → Int32 → Int32 → Int32 → Option (Int32 × MS)) (hk29 : ∀ (S : MS) (x2 : Int32) (x3 : Int32) (x4 : Int32) (x5 : Int32), k29 S x2 x3 x4 x5 = some res → GG p l e rm_gone s m args below meth c dC dI A 8 0 0 Q (MW E h r S) 29 [(0, .ref h), (1, .int x1), (2, .int x2), (3, .int x3), (4, .int x4), (5, .int x5)] []) (k68 : Int32 → Int32 → Option (Int32 × MS)) (hk68 : ∀ (x4 : Int32) (x7 : Int32), k68 x4 x7 = some res → GG p l e rm_gone s m args below meth c dC dI A 8 0 0 Q (MW E h r S) 68 [(0, .ref h), (1, .int x1), (2, .int x2), (3, .int x3), (4, .int x4), (5, .int x5), (7, .int x7)] []) (x7 : Int32) (t0 : Int32) (t1 : Int32), M_gone_B95 F k29 k68 S x1 x2 x3 x5 x7 t0 t1 = some res → GG p l e rm_gone s m args below meth c dC dI A 8 0 0 Q (MW E h r S) 95 [(0, .ref h), (1, .int x1), (2, .int x2), (3, .int x3), (5, .int x5), (7, .int x7)] [.int t1, .int t0] := by
    intro x1 S x2 x3 x5 k29 hk29 k68 hk68 x7 t0 t1 hf
    unfold M_gone_B95 at hf
    refine g_ior X dX11_gone_95 ?_
    refine g_istore (lv' := [(4, .int (t0 ||| t1)), (0, .ref h), (1, .int x1), (2, .int x2), (3, .int x3), (5, .int x5), (7, .int x7)]) X dX11_gone_96 (by decide) rfl ?_
    refine g_iinc (lv' := [(7, .int (x7 + (1 : Int32))), (4, .int (t0 ||| t1)), (0, .ref h), (1, .int x1), (2, .int x2), (3, .int x3), (5, .int x5)]) X dX11_gone_98 6 rfl kc_1 (by decide) rfl ?_
    refine g_goto (tgt := 68) X dX11_gone_101 (by decide) ?_
    refine g_lv [2, 3, 4, 5, 1, 6, 0] (lv' := [(0, .ref h), (1, .int x1), (2, .int x2), (3, .int x3), (4, .int (t0 ||| t1)), (5, .int x5), (7, .int (x7 + (1 : Int32)))]) rfl ?_
    exact hk68 _ _ hf
  have hL68 : ∀ (x1 : Int32) (k29 : MS → Int32 → Int32 → Int32 → Int32 → Option (Int32 × MS)) (hk29 : ∀ (S : MS) (x2 : Int32) (x3 : Int32) (x4 : Int32) (x5 : Int32), k29 S x2 x3 x4 x5 = some res → GG p l e rm_gone s m args below meth c dC dI A 8 0 0 Q (MW E h r S) 29 [(0, .ref h), (1, .int x1), (2, .int x2), (3, .int x3), (4, .int x4), (5, .int x5)] []) (S : MS) (x2 : Int32) (x3 : Int32) (x5 : Int32) (n : Nat) (x4 : Int32) (x7 : Int32), M_gone_L68 F k29 S x1 x2 x3 x5 n x4 x7 = some res → GG p l e rm_gone s m args below meth c dC dI A 8 0 0 Q (MW E h r S) 68 [(0, .ref h), (1, .int x1), (2, .int x2), (3, .int x3), (4, .int x4), (5, .int x5), (7, .int x7)] [] := by
    intro x1 k29 hk29 S x2 x3 x5 n
    induction n with
    | zero => intro x4 x7 hf; have hf : (none : Option (Int32 × MS)) = some res := hf; cases hf
    | succ n ih =>
      intro x4 x7 hf
      rw [M_gone_L68] at hf
      refine g_iload X dX11_gone_68 6 rfl ?_
      refine g_bipush X dX11_gone_70 kb_8 ?_
      refine g_icmp_ge (tgt := 104) X dX11_gone_72 (by decide) hf (fun hf => ?_) (fun hf => ?_)
      · refine g_iinc (lv' := [(5, .int (x5 + (1 : Int32))), (0, .ref h), (1, .int x1), (2, .int x2), (3, .int x3), (4, .int x4), (7, .int x7)]) X dX11_gone_104 5 rfl kc_1 (by decide) rfl ?_
        refine g_goto (tgt := 29) X dX11_gone_107 (by decide) ?_
        refine g_lv [1, 2, 3, 4, 5, 0] (lv' := [(0, .ref h), (1, .int x1), (2, .int x2), (3, .int x3), (4, .int x4), (5, .int (x5 + (1 : Int32)))]) rfl ?_
        exact hk29 _ _ _ _ _ hf
      refine g_iload X dX11_gone_75 4 rfl ?_
      refine g_aload_n X dX11_gone_77 0 rfl ?_
      refine m_get_43 X dX11_gone_78 ?_
      refine g_iload X dX11_gone_81 6 rfl ?_
      refine m_ald_43 X dX11_gone_83 hf (fun hf => ?_)
      refine g_if_le (tgt := 94) X dX11_gone_84 (by decide) hf (fun hf => ?_) (fun hf => ?_)
      · refine g_iconst X dX11_gone_94 kc_0 ?_
        refine g_lv [0, 1, 2, 3, 5, 6] (lv' := [(0, .ref h), (1, .int x1), (2, .int x2), (3, .int x3), (5, .int x5), (7, .int x7)]) rfl ?_
        exact hB95 _ _ _ _ _ _ hk29 _ ih _ _ _ hf
      refine g_iconst X dX11_gone_87 kc_1 ?_
      refine g_iload X dX11_gone_88 6 rfl ?_
      refine g_ishl X dX11_gone_90 ?_
      refine g_goto (tgt := 95) X dX11_gone_91 (by decide) ?_
      refine g_lv [0, 1, 2, 3, 5, 6] (lv' := [(0, .ref h), (1, .int x1), (2, .int x2), (3, .int x3), (5, .int x5), (7, .int x7)]) rfl ?_
      exact hB95 _ _ _ _ _ _ hk29 _ ih _ _ _ hf
  have hB63 : ∀ (x1 : Int32) (k29 : MS → Int32 → Int32 → Int32 → Int32 → Option (Int32 × MS)) (hk29 : ∀ (S : MS) (x2 : Int32) (x3 : Int32) (x4 : Int32) (x5 : Int32), k29 S x2 x3 x4 x5 = some res → GG p l e rm_gone s m args below meth c dC dI A 8 0 0 Q (MW E h r S) 29 [(0, .ref h), (1, .int x1), (2, .int x2), (3, .int x3), (4, .int x4), (5, .int x5)] []) (S : MS) (x2 : Int32) (x4 : Int32) (x5 : Int32) (t0 : Int32) (t1 : Int32), M_gone_B63 F k29 S x1 x2 x4 x5 t0 t1 = some res → GG p l e rm_gone s m args below meth c dC dI A 8 0 0 Q (MW E h r S) 63 [(0, .ref h), (1, .int x1), (2, .int x2), (4, .int x4), (5, .int x5)] [.int t1, .int t0] := by
    intro x1 k29 hk29 S x2 x4 x5 t0 t1 hf
    unfold M_gone_B63 at hf
    refine g_ior X dX11_gone_63 ?_
    refine g_istore_n (i := 3) (lv' := [(3, .int (t0 ||| t1)), (0, .ref h), (1, .int x1), (2, .int x2), (4, .int x4), (5, .int x5)]) X dX11_gone_64 rfl (by decide) rfl ?_
    refine g_iconst X dX11_gone_65 kc_0 ?_
    refine g_istore (lv' := [(7, .int (0 : Int32)), (3, .int (t0 ||| t1)), (0, .ref h), (1, .int x1), (2, .int x2), (4, .int x4), (5, .int x5)]) X dX11_gone_66 (by decide) rfl ?_
    refine g_lv [2, 3, 4, 1, 5, 6, 0] (lv' := [(0, .ref h), (1, .int x1), (2, .int x2), (3, .int (t0 ||| t1)), (4, .int x4), (5, .int x5), (7, .int (0 : Int32))]) rfl ?_
    exact hL68 _ _ hk29 _ _ _ _ _ _ _ hf
  have hL29 : ∀ (x1 : Int32) (n : Nat) (S : MS) (x2 : Int32) (x3 : Int32) (x4 : Int32) (x5 : Int32), M_gone_L29 F x1 n S x2 x3 x4 x5 = some res → GG p l e rm_gone s m args below meth c dC dI A 8 0 0 Q (MW E h r S) 29 [(0, .ref h), (1, .int x1), (2, .int x2), (3, .int x3), (4, .int x4), (5, .int x5)] [] := by
    intro x1 n
    induction n with
    | zero => intro S x2 x3 x4 x5 hf; have hf : (none : Option (Int32 × MS)) = some res := hf; cases hf
    | succ n ih =>
      intro S x2 x3 x4 x5 hf
      rw [M_gone_L29] at hf
      refine g_iload X dX11_gone_29 5 rfl ?_
      refine g_bipush X dX11_gone_31 kb_8 ?_
      refine g_icmp_ge (tgt := 110) X dX11_gone_33 (by decide) hf (fun hf => ?_) (fun hf => ?_)
      · refine g_iload_n X dX11_gone_110 1 rfl ?_
        refine g_if_ne (tgt := 118) X dX11_gone_111 (by decide) hf (fun hf => ?_) (fun hf => ?_)
        · refine g_iload_n X dX11_gone_118 1 rfl ?_
          refine g_iconst X dX11_gone_119 kc_1 ?_
          refine g_icmp_ne (tgt := 127) X dX11_gone_120 (by decide) hf (fun hf => ?_) (fun hf => ?_)
          · refine g_iload X dX11_gone_127 4 rfl ?_
            exact m_reti_s hA hQ X hr hlk dX11_gone_129 hf
          refine g_iload_n X dX11_gone_123 3 rfl ?_
          refine g_goto (tgt := 129) X dX11_gone_124 (by decide) ?_
          exact m_reti_s hA hQ X hr hlk dX11_gone_129 hf
        refine g_iload_n X dX11_gone_114 2 rfl ?_
        refine g_goto (tgt := 129) X dX11_gone_115 (by decide) ?_
        exact m_reti_s hA hQ X hr hlk dX11_gone_129 hf
      refine g_aload_n X dX11_gone_36 0 rfl ?_
      refine g_iload X dX11_gone_37 5 rfl ?_
      refine m_bind hf (fun q1 hq1 hf => ?_)
      refine m_callV_i (As := [.int x5]) (st := []) X kV_487 (c_goneFrom l dC dI E h r F S x5 q1 hq1) ⟨Nat.le_of_ble_eq_true rfl, Nat.le_of_ble_eq_true rfl⟩ ⟨rfl, rfl⟩ (Nat.le_of_ble_eq_true rfl) ⟨Nat.le_of_ble_eq_true rfl, Nat.le_of_ble_eq_true rfl⟩ dX11_gone_39 ?_
      refine g_istore (lv' := [(6, .int q1.1), (0, .ref h), (1, .int x1), (2, .int x2), (3, .int x3), (4, .int x4), (5, .int x5)]) X dX11_gone_42 (by decide) rfl ?_
      refine g_iload_n X dX11_gone_44 3 rfl ?_
      refine g_iload X dX11_gone_45 0 rfl ?_
      refine g_iadd X dX11_gone_47 ?_
      refine g_istore_n (i := 2) (lv' := [(2, .int (x2 + q1.1)), (6, .int q1.1), (0, .ref h), (1, .int x1), (3, .int x3), (4, .int x4), (5, .int x5)]) X dX11_gone_48 rfl (by decide) rfl ?_
      refine g_iload_n X dX11_gone_49 4 rfl ?_
      refine g_iload X dX11_gone_50 1 rfl ?_
      refine g_if_le (tgt := 62) X dX11_gone_52 (by decide) hf (fun hf => ?_) (fun hf => ?_)
      · refine g_iconst X dX11_gone_62 kc_0 ?_
        refine g_lv [2, 3, 0, 5, 6] (lv' := [(0, .ref h), (1, .int x1), (2, .int (x2 + q1.1)), (4, .int x4), (5, .int x5)]) rfl ?_
        exact hB63 _ _ ih _ _ _ _ _ _ hf
      refine g_iconst X dX11_gone_55 kc_1 ?_
      refine g_iload X dX11_gone_56 6 rfl ?_
      refine g_ishl X dX11_gone_58 ?_
      refine g_goto (tgt := 63) X dX11_gone_59 (by decide) ?_
      refine g_lv [2, 3, 0, 5, 6] (lv' := [(0, .ref h), (1, .int x1), (2, .int (x2 + q1.1)), (4, .int x4), (5, .int x5)]) rfl ?_
      exact hB63 _ _ ih _ _ _ _ _ _ hf
  refine g_lv [0, 1] (lv' := [(0, .ref h), (1, .int x1)]) rfl ?_
  unfold M_gone at hf
  refine g_aload_n X dX11_gone_0 0 rfl ?_
  refine g_iconst X dX11_gone_1 kc_0 ?_
  refine m_put_0 X dX11_gone_2 hf (fun S2 hf => ?_)
  refine g_iload_n X dX11_gone_5 1 rfl ?_
  refine g_i2l X dX11_gone_6 ?_
  refine g_lconst X dX11_gone_7 kl_0 ?_
  refine g_ldc2 X dX11_gone_8 wd7_236 ?_
  refine m_bind hf (fun q3 hq3 hf => ?_)
  refine m_callS_i (As := [.long (x1).toInt64, .long (0 : Int64), .long (2 : Int64)]) (st := []) X kS_179 (c_in l dC dI E h r S2 (x1).toInt64 (0 : Int64) (2 : Int64) q3 hq3) ⟨Nat.le_of_ble_eq_true rfl, Nat.le_of_ble_eq_true rfl⟩ ⟨rfl, rfl⟩ (Nat.le_of_ble_eq_true rfl) ⟨Nat.le_of_ble_eq_true rfl, Nat.le_of_ble_eq_true rfl⟩ dX11_gone_11 ?_
  refine g_if_ne (tgt := 19) X dX11_gone_14 (by decide) hf (fun hf => ?_) (fun hf => ?_)
  · refine g_iconst X dX11_gone_19 kc_0 ?_
    refine g_istore_n (i := 2) (lv' := [(2, .int (0 : Int32)), (0, .ref h), (1, .int x1)]) X dX11_gone_20 rfl (by decide) rfl ?_
    refine g_iconst X dX11_gone_21 kc_0 ?_
    refine g_istore_n (i := 3) (lv' := [(3, .int (0 : Int32)), (2, .int (0 : Int32)), (0, .ref h), (1, .int x1)]) X dX11_gone_22 rfl (by decide) rfl ?_
    refine g_iconst X dX11_gone_23 kc_0 ?_
    refine g_istore (lv' := [(4, .int (0 : Int32)), (3, .int (0 : Int32)), (2, .int (0 : Int32)), (0, .ref h), (1, .int x1)]) X dX11_gone_24 (by decide) rfl ?_
    refine g_iconst X dX11_gone_26 kc_0 ?_
    refine g_istore (lv' := [(5, .int (0 : Int32)), (4, .int (0 : Int32)), (3, .int (0 : Int32)), (2, .int (0 : Int32)), (0, .ref h), (1, .int x1)]) X dX11_gone_27 (by decide) rfl ?_
    refine g_lv [4, 5, 3, 2, 1, 0] (lv' := [(0, .ref h), (1, .int x1), (2, .int (0 : Int32)), (3, .int (0 : Int32)), (4, .int (0 : Int32)), (5, .int (0 : Int32))]) rfl ?_
    exact hL29 _ _ _ _ _ _ _ hf
  refine g_iconst X dX11_gone_17 kc_m1 ?_
  exact m_reti_s hA hQ X hr hlk dX11_gone_18 hf
def rm_named : Room := { frames := 1, cells := 0, slots := 0, locals := 25 }
set_option maxRecDepth 100000 in
set_option maxHeartbeats 4000000 in
theorem c_named (l : Launch) (dC : Nat → ClassId) (dI : Nat → Nat → Nat) (E : Nat → ClassId) (h : Nat) (r : Nat → Nat) (F : Nat) (S : MS) (x1 : Int32) (res : Int32 × MS) (hf : M_named F S x1 = some res) : MC l dC dI E yX11_named cX11_named 4 (some .int) rm_named [.ref h, .int x1] (MW E h r S) (MW E h r res.2) (some (.int res.1)) := by
  refine MC_of (own := "LostLanesModel") (by decide) rfl (Nat.le_of_ble_eq_true rfl) ?_
  intro p e s m args below meth c A Q X hr hlk hA hQ
  have hB50 : ∀ (S : MS) (x1 : Int32) (k16 : Int32 → Int32 → Option (Int32 × MS)) (hk16 : ∀ (x2 : Int32) (x3 : Int32), k16 x2 x3 = some res → GG p l e rm_named s m args below meth c dC dI A 4 0 0 Q (MW E h r S) 16 [(0, .ref h), (1, .int x1), (2, .int x2), (3, .int x3)] []) (x3 : Int32) (t0 : Int32), M_named_B50 F k16 S x1 x3 t0 = some res → GG p l e rm_named s m args below meth c dC dI A 4 0 0 Q (MW E h r S) 50 [(0, .ref h), (1, .int x1), (3, .int x3)] [.int t0] := by
    intro S x1 k16 hk16 x3 t0 hf
    unfold M_named_B50 at hf
    refine g_istore_n (i := 2) (lv' := [(2, .int t0), (0, .ref h), (1, .int x1), (3, .int x3)]) X dX11_named_50 rfl (by decide) rfl ?_
    refine g_iinc (lv' := [(3, .int (x3 + (-1 : Int32))), (2, .int t0), (0, .ref h), (1, .int x1)]) X dX11_named_51 3 rfl kc_m1 (by decide) rfl ?_
    refine g_goto (tgt := 16) X dX11_named_54 (by decide) ?_
    refine g_lv [2, 3, 1, 0] (lv' := [(0, .ref h), (1, .int x1), (2, .int t0), (3, .int (x3 + (-1 : Int32)))]) rfl ?_
    exact hk16 _ _ hf
  have hB49 : ∀ (S : MS) (x1 : Int32) (k16 : Int32 → Int32 → Option (Int32 × MS)) (hk16 : ∀ (x2 : Int32) (x3 : Int32), k16 x2 x3 = some res → GG p l e rm_named s m args below meth c dC dI A 4 0 0 Q (MW E h r S) 16 [(0, .ref h), (1, .int x1), (2, .int x2), (3, .int x3)] []) (x2 : Int32) (x3 : Int32), M_named_B49 F k16 S x1 x2 x3 = some res → GG p l e rm_named s m args below meth c dC dI A 4 0 0 Q (MW E h r S) 49 [(0, .ref h), (1, .int x1), (2, .int x2), (3, .int x3)] [] := by
    intro S x1 k16 hk16 x2 x3 hf
    unfold M_named_B49 at hf
    refine g_iload_n X dX11_named_49 2 rfl ?_
    refine g_lv [0, 1, 3] (lv' := [(0, .ref h), (1, .int x1), (3, .int x3)]) rfl ?_
    exact hB50 _ _ _ hk16 _ _ hf
  have hL16 : ∀ (S : MS) (x1 : Int32) (n : Nat) (x2 : Int32) (x3 : Int32), M_named_L16 F S x1 n x2 x3 = some res → GG p l e rm_named s m args below meth c dC dI A 4 0 0 Q (MW E h r S) 16 [(0, .ref h), (1, .int x1), (2, .int x2), (3, .int x3)] [] := by
    intro S x1 n
    induction n with
    | zero => intro x2 x3 hf; have hf : (none : Option (Int32 × MS)) = some res := hf; cases hf
    | succ n ih =>
      intro x2 x3 hf
      rw [M_named_L16] at hf
      refine g_iload_n X dX11_named_16 3 rfl ?_
      refine g_if_lt (tgt := 57) X dX11_named_17 (by decide) hf (fun hf => ?_) (fun hf => ?_)
      · refine g_iload_n X dX11_named_57 2 rfl ?_
        exact m_reti_s hA hQ X hr hlk dX11_named_58 hf
      refine g_iload_n X dX11_named_20 1 rfl ?_
      refine g_i2l X dX11_named_21 ?_
      refine g_lconst X dX11_named_22 kl_0 ?_
      refine g_ldc2 X dX11_named_23 wd7_227 ?_
      refine m_bind hf (fun q1 hq1 hf => ?_)
      refine m_callS_i (As := [.long (x1).toInt64, .long (0 : Int64), .long (19 : Int64)]) (st := []) X kS_179 (c_in l dC dI E h r S (x1).toInt64 (0 : Int64) (19 : Int64) q1 hq1) ⟨Nat.le_of_ble_eq_true rfl, Nat.le_of_ble_eq_true rfl⟩ ⟨rfl, rfl⟩ (Nat.le_of_ble_eq_true rfl) ⟨Nat.le_of_ble_eq_true rfl, Nat.le_of_ble_eq_true rfl⟩ dX11_named_26 ?_
      refine g_if_eq (tgt := 49) X dX11_named_29 (by decide) hf (fun hf => ?_) (fun hf => ?_)
      · exact hB49 _ _ _ ih _ _ hf
      refine g_aload_n X dX11_named_32 0 rfl ?_
      refine m_get_3 X dX11_named_33 ?_
      refine g_bipush X dX11_named_36 kb_8 ?_
      refine g_iload_n X dX11_named_38 3 rfl ?_
      refine g_iadd X dX11_named_39 ?_
      refine m_ald_3 X dX11_named_40 hf (fun hf => ?_)
      refine g_iload_n X dX11_named_41 1 rfl ?_
      refine g_icmp_ne (tgt := 49) X dX11_named_42 (by decide) hf (fun hf => ?_) (fun hf => ?_)
      · exact hB49 _ _ _ ih _ _ hf
      refine g_iload_n X dX11_named_45 3 rfl ?_
      refine g_goto (tgt := 50) X dX11_named_46 (by decide) ?_
      refine g_lv [0, 1, 3] (lv' := [(0, .ref h), (1, .int x1), (3, .int x3)]) rfl ?_
      exact hB50 _ _ _ ih _ _ hf
  refine g_lv [0, 1] (lv' := [(0, .ref h), (1, .int x1)]) rfl ?_
  unfold M_named at hf
  refine g_aload_n X dX11_named_0 0 rfl ?_
  refine g_iconst X dX11_named_1 kc_0 ?_
  refine m_put_0 X dX11_named_2 hf (fun S2 hf => ?_)
  refine g_iconst X dX11_named_5 kc_m1 ?_
  refine g_istore_n (i := 2) (lv' := [(2, .int (-1 : Int32)), (0, .ref h), (1, .int x1)]) X dX11_named_6 rfl (by decide) rfl ?_
  refine g_aload_n X dX11_named_7 1 rfl ?_
  refine m_get_3 X dX11_named_8 ?_
  refine g_iconst X dX11_named_11 kc_0 ?_
  refine m_aldc_3 X kt_0 kx_0_5476 dX11_named_12 ?_
  refine g_iconst X dX11_named_13 kc_1 ?_
  refine g_isub X dX11_named_14 ?_
  refine g_istore_n (i := 3) (lv' := [(3, .int ((ma S2 3 0) - (1 : Int32))), (2, .int (-1 : Int32)), (0, .ref h), (1, .int x1)]) X dX11_named_15 rfl (by decide) rfl ?_
  refine g_lv [2, 3, 1, 0] (lv' := [(0, .ref h), (1, .int x1), (2, .int (-1 : Int32)), (3, .int ((ma S2 3 0) - (1 : Int32)))]) rfl ?_
  exact hL16 _ _ _ _ _ hf
def rm_nearEnd : Room := { frames := 1, cells := 0, slots := 0, locals := 22 }
set_option maxRecDepth 100000 in
set_option maxHeartbeats 4000000 in
theorem c_nearEnd (l : Launch) (dC : Nat → ClassId) (dI : Nat → Nat → Nat) (E : Nat → ClassId) (h : Nat) (r : Nat → Nat) (S : MS) (x1 : Int32) (x2 : Int32) (res : Int32) (hf : M_nearEnd S x1 x2 = some res) : MC l dC dI E yX11_nearEnd cX11_nearEnd 6 (some .int) rm_nearEnd [.ref h, .int x1, .int x2] (MW E h r S) (MW E h r S) (some (.int res)) := by
  refine MC_of (own := "LostLanesModel") (by decide) rfl (Nat.le_of_ble_eq_true rfl) ?_
  intro p e s m args below meth c A Q X hr hlk hA hQ
  have hB53 : ∀ (x3 : Int32), M_nearEnd_B53 S x3 = some res → GG p l e rm_nearEnd s m args below meth c dC dI A 6 0 0 Q (MW E h r S) 53 [(3, .int x3)] [] := by
    intro x3 hf
    unfold M_nearEnd_B53 at hf
    refine g_iload_n X dX11_nearEnd_53 0 rfl ?_
    refine g_goto (tgt := 59) X dX11_nearEnd_54 (by decide) ?_
    exact m_reti_o hA hQ X hr hlk dX11_nearEnd_59 hf
  refine g_lv [0, 1, 2] (lv' := [(0, .ref h), (1, .int x1), (2, .int x2)]) rfl ?_
  unfold M_nearEnd at hf
  refine g_aload_n X dX11_nearEnd_0 0 rfl ?_
  refine m_get_3 X dX11_nearEnd_1 ?_
  refine g_bipush X dX11_nearEnd_4 kb_26 ?_
  refine g_iload_n X dX11_nearEnd_6 2 rfl ?_
  refine g_iadd X dX11_nearEnd_7 ?_
  refine m_ald_3 X dX11_nearEnd_8 hf (fun hf => ?_)
  refine g_istore_n (i := 3) (lv' := [(3, .int (ma S 3 (((26 : Int32) + x2)).toNatClampNeg)), (0, .ref h), (1, .int x1), (2, .int x2)]) X dX11_nearEnd_9 rfl (by decide) rfl ?_
  refine g_aload_n X dX11_nearEnd_10 1 rfl ?_
  refine m_get_3 X dX11_nearEnd_11 ?_
  refine g_bipush X dX11_nearEnd_14 kb_36 ?_
  refine g_iload_n X dX11_nearEnd_16 3 rfl ?_
  refine g_iadd X dX11_nearEnd_17 ?_
  refine m_ald_3 X dX11_nearEnd_18 hf (fun hf => ?_)
  refine g_istore (lv' := [(4, .int (ma S 3 (((36 : Int32) + x2)).toNatClampNeg)), (3, .int (ma S 3 (((26 : Int32) + x2)).toNatClampNeg)), (0, .ref h), (1, .int x1), (2, .int x2)]) X dX11_nearEnd_19 (by decide) rfl ?_
  refine g_aload_n X dX11_nearEnd_21 2 rfl ?_
  refine g_iload_n X dX11_nearEnd_22 3 rfl ?_
  refine g_iload_n X dX11_nearEnd_23 1 rfl ?_
  refine m_bind hf (fun q1 hq1 hf => ?_)
  refine m_callV_i (As := [.int x1, .int (ma S 3 (((26 : Int32) + x2)).toNatClampNeg)]) (st := []) X kV_463 (c_farOf l dC dI E h r S x1 (ma S 3 (((26 : Int32) + x2)).toNatClampNeg) q1 hq1) ⟨Nat.le_of_ble_eq_true rfl, Nat.le_of_ble_eq_true rfl⟩ ⟨rfl, rfl⟩ (Nat.le_of_ble_eq_true rfl) ⟨Nat.le_of_ble_eq_true rfl, Nat.le_of_ble_eq_true rfl⟩ dX11_nearEnd_24 ?_
  refine g_aload_n X dX11_nearEnd_27 2 rfl ?_
  refine g_iload_n X dX11_nearEnd_28 3 rfl ?_
  refine g_iload X dX11_nearEnd_29 0 rfl ?_
  refine m_bind hf (fun q2 hq2 hf => ?_)
  refine m_callV_i (As := [.int x1, .int (ma S 3 (((36 : Int32) + x2)).toNatClampNeg)]) (st := [.int q1]) X kV_463 (c_farOf l dC dI E h r S x1 (ma S 3 (((36 : Int32) + x2)).toNatClampNeg) q2 hq2) ⟨Nat.le_of_ble_eq_true rfl, Nat.le_of_ble_eq_true rfl⟩ ⟨rfl, rfl⟩ (Nat.le_of_ble_eq_true rfl) ⟨Nat.le_of_ble_eq_true rfl, Nat.le_of_ble_eq_true rfl⟩ dX11_nearEnd_31 ?_
  refine g_isub X dX11_nearEnd_34 ?_
  refine g_istore (lv' := [(5, .int (q1 - q2)), (4, .int (ma S 3 (((36 : Int32) + x2)).toNatClampNeg)), (3, .int (ma S 3 (((26 : Int32) + x2)).toNatClampNeg)), (0, .ref h), (1, .int x1), (2, .int x2)]) X dX11_nearEnd_35 (by decide) rfl ?_
  refine g_iload X dX11_nearEnd_37 0 rfl ?_
  refine g_if_lt (tgt := 53) X dX11_nearEnd_39 (by decide) hf (fun hf => ?_) (fun hf => ?_)
  · refine g_lv [2] (lv' := [(3, .int (ma S 3 (((26 : Int32) + x2)).toNatClampNeg))]) rfl ?_
    exact hB53 _ hf
  refine g_iload X dX11_nearEnd_42 0 rfl ?_
  refine g_if_ne (tgt := 57) X dX11_nearEnd_44 (by decide) hf (fun hf => ?_) (fun hf => ?_)
  · refine g_iload X dX11_nearEnd_57 1 rfl ?_
    exact m_reti_o hA hQ X hr hlk dX11_nearEnd_59 hf
  refine g_iload_n X dX11_nearEnd_47 2 rfl ?_
  refine g_iload X dX11_nearEnd_48 1 rfl ?_
  refine g_icmp_ge (tgt := 57) X dX11_nearEnd_50 (by decide) hf (fun hf => ?_) (fun hf => ?_)
  · refine g_iload X dX11_nearEnd_57 1 rfl ?_
    exact m_reti_o hA hQ X hr hlk dX11_nearEnd_59 hf
  refine g_lv [2] (lv' := [(3, .int (ma S 3 (((26 : Int32) + x2)).toNatClampNeg))]) rfl ?_
  exact hB53 _ hf
def rm_laneBetween : Room := { frames := 1, cells := 0, slots := 0, locals := 22 }
set_option maxRecDepth 100000 in
set_option maxHeartbeats 4000000 in
theorem c_laneBetween (l : Launch) (dC : Nat → ClassId) (dI : Nat → Nat → Nat) (E : Nat → ClassId) (h : Nat) (r : Nat → Nat) (F : Nat) (S : MS) (x1 : Int32) (x2 : Int32) (res : Int32) (hf : M_laneBetween F S x1 x2 = some res) : MC l dC dI E yX11_laneBetween cX11_laneBetween 6 (some .int) rm_laneBetween [.ref h, .int x1, .int x2] (MW E h r S) (MW E h r S) (some (.int res)) := by
  refine MC_of (own := "LostLanesModel") (by decide) rfl (Nat.le_of_ble_eq_true rfl) ?_
  intro p e s m args below meth c A Q X hr hlk hA hQ
  have hB83 : ∀ (x1 : Int32) (x2 : Int32) (k7 : Int32 → Int32 → Option Int32) (hk7 : ∀ (x3 : Int32) (x4 : Int32), k7 x3 x4 = some res → GG p l e rm_laneBetween s m args below meth c dC dI A 6 0 0 Q (MW E h r S) 7 [(0, .ref h), (1, .int x1), (2, .int x2), (3, .int x3), (4, .int x4)] []) (x4 : Int32) (t0 : Int32), M_laneBetween_B83 F k7 S x1 x2 x4 t0 = some res → GG p l e rm_laneBetween s m args below meth c dC dI A 6 0 0 Q (MW E h r S) 83 [(0, .ref h), (1, .int x1), (2, .int x2), (4, .int x4)] [.int t0] := by
    intro x1 x2 k7 hk7 x4 t0 hf
    unfold M_laneBetween_B83 at hf
    refine g_istore_n (i := 3) (lv' := [(3, .int t0), (0, .ref h), (1, .int x1), (2, .int x2), (4, .int x4)]) X dX11_laneBetween_83 rfl (by decide) rfl ?_
    refine g_iinc (lv' := [(4, .int (x4 + (1 : Int32))), (3, .int t0), (0, .ref h), (1, .int x1), (2, .int x2)]) X dX11_laneBetween_84 4 rfl kc_1 (by decide) rfl ?_
    refine g_goto (tgt := 7) X dX11_laneBetween_87 (by decide) ?_
    refine g_lv [2, 3, 4, 1, 0] (lv' := [(0, .ref h), (1, .int x1), (2, .int x2), (3, .int t0), (4, .int (x4 + (1 : Int32)))]) rfl ?_
    exact hk7 _ _ hf
  have hB82 : ∀ (x1 : Int32) (x2 : Int32) (k7 : Int32 → Int32 → Option Int32) (hk7 : ∀ (x3 : Int32) (x4 : Int32), k7 x3 x4 = some res → GG p l e rm_laneBetween s m args below meth c dC dI A 6 0 0 Q (MW E h r S) 7 [(0, .ref h), (1, .int x1), (2, .int x2), (3, .int x3), (4, .int x4)] []) (x3 : Int32) (x4 : Int32), M_laneBetween_B82 F k7 S x1 x2 x3 x4 = some res → GG p l e rm_laneBetween s m args below meth c dC dI A 6 0 0 Q (MW E h r S) 82 [(0, .ref h), (1, .int x1), (2, .int x2), (3, .int x3), (4, .int x4)] [] := by
    intro x1 x2 k7 hk7 x3 x4 hf
    unfold M_laneBetween_B82 at hf
    refine g_iload_n X dX11_laneBetween_82 3 rfl ?_
    refine g_lv [0, 1, 2, 4] (lv' := [(0, .ref h), (1, .int x1), (2, .int x2), (4, .int x4)]) rfl ?_
    exact hB83 _ _ _ hk7 _ _ hf
  have hB48 : ∀ (x1 : Int32) (x2 : Int32) (k7 : Int32 → Int32 → Option Int32) (hk7 : ∀ (x3 : Int32) (x4 : Int32), k7 x3 x4 = some res → GG p l e rm_laneBetween s m args below meth c dC dI A 6 0 0 Q (MW E h r S) 7 [(0, .ref h), (1, .int x1), (2, .int x2), (3, .int x3), (4, .int x4)] []) (x3 : Int32) (x4 : Int32) (t0 : Int32), M_laneBetween_B48 F k7 S x1 x2 x3 x4 t0 = some res → GG p l e rm_laneBetween s m args below meth c dC dI A 6 0 0 Q (MW E h r S) 48 [(0, .ref h), (1, .int x1), (2, .int x2), (3, .int x3), (4, .int x4)] [.int t0] := by
    intro x1 x2 k7 hk7 x3 x4 t0 hf
    unfold M_laneBetween_B48 at hf
    refine g_istore (lv' := [(5, .int t0), (0, .ref h), (1, .int x1), (2, .int x2), (3, .int x3), (4, .int x4)]) X dX11_laneBetween_48 (by decide) rfl ?_
    refine g_iload X dX11_laneBetween_50 0 rfl ?_
    refine g_if_eq (tgt := 82) X dX11_laneBetween_52 (by decide) hf (fun hf => ?_) (fun hf => ?_)
    · refine g_lv [1, 2, 3, 4, 5] (lv' := [(0, .ref h), (1, .int x1), (2, .int x2), (3, .int x3), (4, .int x4)]) rfl ?_
      exact hB82 _ _ _ hk7 _ _ hf
    refine g_aload_n X dX11_laneBetween_55 1 rfl ?_
    refine m_get_3 X dX11_laneBetween_56 ?_
    refine g_bipush X dX11_laneBetween_59 kb_46 ?_
    refine g_iload X dX11_laneBetween_61 5 rfl ?_
    refine g_iadd X dX11_laneBetween_63 ?_
    refine m_ald_3 X dX11_laneBetween_64 hf (fun hf => ?_)
    refine g_iload_n X dX11_laneBetween_65 4 rfl ?_
    refine g_icmp_ge (tgt := 82) X dX11_laneBetween_66 (by decide) hf (fun hf => ?_) (fun hf => ?_)
    · refine g_lv [1, 2, 3, 4, 5] (lv' := [(0, .ref h), (1, .int x1), (2, .int x2), (3, .int x3), (4, .int x4)]) rfl ?_
      exact hB82 _ _ _ hk7 _ _ hf
    refine g_aload_n X dX11_laneBetween_69 1 rfl ?_
    refine m_get_3 X dX11_laneBetween_70 ?_
    refine g_bipush X dX11_laneBetween_73 kb_46 ?_
    refine g_iload X dX11_laneBetween_75 5 rfl ?_
    refine g_iadd X dX11_laneBetween_77 ?_
    refine m_ald_3 X dX11_laneBetween_78 hf (fun hf => ?_)
    refine g_goto (tgt := 83) X dX11_laneBetween_79 (by decide) ?_
    refine g_lv [1, 2, 3, 5] (lv' := [(0, .ref h), (1, .int x1), (2, .int x2), (4, .int x4)]) rfl ?_
    exact hB83 _ _ _ hk7 _ _ hf
  have hB47 : ∀ (x1 : Int32) (x2 : Int32) (k7 : Int32 → Int32 → Option Int32) (hk7 : ∀ (x3 : Int32) (x4 : Int32), k7 x3 x4 = some res → GG p l e rm_laneBetween s m args below meth c dC dI A 6 0 0 Q (MW E h r S) 7 [(0, .ref h), (1, .int x1), (2, .int x2), (3, .int x3), (4, .int x4)] []) (x3 : Int32) (x4 : Int32), M_laneBetween_B47 F k7 S x1 x2 x3 x4 = some res → GG p l e rm_laneBetween s m args below meth c dC dI A 6 0 0 Q (MW E h r S) 47 [(0, .ref h), (1, .int x1), (2, .int x2), (3, .int x3), (4, .int x4)] [] := by
    intro x1 x2 k7 hk7 x3 x4 hf
    unfold M_laneBetween_B47 at hf
    refine g_iconst X dX11_laneBetween_47 kc_0 ?_
    exact hB48 _ _ _ hk7 _ _ _ hf
  have hL7 : ∀ (x1 : Int32) (x2 : Int32) (n : Nat) (x3 : Int32) (x4 : Int32), M_laneBetween_L7 F S x1 x2 n x3 x4 = some res → GG p l e rm_laneBetween s m args below meth c dC dI A 6 0 0 Q (MW E h r S) 7 [(0, .ref h), (1, .int x1), (2, .int x2), (3, .int x3), (4, .int x4)] [] := by
    intro x1 x2 n
    induction n with
    | zero => intro x3 x4 hf; have hf : (none : Option Int32) = some res := hf; cases hf
    | succ n ih =>
      intro x3 x4 hf
      rw [M_laneBetween_L7] at hf
      refine g_iload X dX11_laneBetween_7 4 rfl ?_
      refine g_aload_n X dX11_laneBetween_9 0 rfl ?_
      refine m_get_3 X dX11_laneBetween_10 ?_
      refine g_iconst X dX11_laneBetween_13 kc_0 ?_
      refine m_aldc_3 X kt_0 kx_0_5476 dX11_laneBetween_14 ?_
      refine g_icmp_ge (tgt := 90) X dX11_laneBetween_15 (by decide) hf (fun hf => ?_) (fun hf => ?_)
      · refine g_iload_n X dX11_laneBetween_90 3 rfl ?_
        exact m_reti_o hA hQ X hr hlk dX11_laneBetween_91 hf
      refine g_aload_n X dX11_laneBetween_18 0 rfl ?_
      refine g_iload X dX11_laneBetween_19 4 rfl ?_
      refine g_iload_n X dX11_laneBetween_21 1 rfl ?_
      refine m_bind hf (fun q1 hq1 hf => ?_)
      refine m_callV_i (As := [.int x4, .int x1]) (st := []) X kV_424 (c_ends l dC dI E h r S x4 x1 q1 hq1) ⟨Nat.le_of_ble_eq_true rfl, Nat.le_of_ble_eq_true rfl⟩ ⟨rfl, rfl⟩ (Nat.le_of_ble_eq_true rfl) ⟨Nat.le_of_ble_eq_true rfl, Nat.le_of_ble_eq_true rfl⟩ dX11_laneBetween_22 ?_
      refine g_if_eq (tgt := 47) X dX11_laneBetween_25 (by decide) hf (fun hf => ?_) (fun hf => ?_)
      · exact hB47 _ _ _ ih _ _ hf
      refine g_aload_n X dX11_laneBetween_28 0 rfl ?_
      refine g_iload X dX11_laneBetween_29 4 rfl ?_
      refine g_iload_n X dX11_laneBetween_31 2 rfl ?_
      refine m_bind hf (fun q2 hq2 hf => ?_)
      refine m_callV_i (As := [.int x4, .int x2]) (st := []) X kV_424 (c_ends l dC dI E h r S x4 x2 q2 hq2) ⟨Nat.le_of_ble_eq_true rfl, Nat.le_of_ble_eq_true rfl⟩ ⟨rfl, rfl⟩ (Nat.le_of_ble_eq_true rfl) ⟨Nat.le_of_ble_eq_true rfl, Nat.le_of_ble_eq_true rfl⟩ dX11_laneBetween_32 ?_
      refine g_if_eq (tgt := 47) X dX11_laneBetween_35 (by decide) hf (fun hf => ?_) (fun hf => ?_)
      · exact hB47 _ _ _ ih _ _ hf
      refine g_iload_n X dX11_laneBetween_38 1 rfl ?_
      refine g_iload_n X dX11_laneBetween_39 2 rfl ?_
      refine g_icmp_eq (tgt := 47) X dX11_laneBetween_40 (by decide) hf (fun hf => ?_) (fun hf => ?_)
      · exact hB47 _ _ _ ih _ _ hf
      refine g_iconst X dX11_laneBetween_43 kc_1 ?_
      refine g_goto (tgt := 48) X dX11_laneBetween_44 (by decide) ?_
      exact hB48 _ _ _ ih _ _ _ hf
  refine g_lv [0, 1, 2] (lv' := [(0, .ref h), (1, .int x1), (2, .int x2)]) rfl ?_
  unfold M_laneBetween at hf
  refine g_ldcw X dX11_laneBetween_0 wd7_183 ?_
  refine g_istore_n (i := 3) (lv' := [(3, .int (100000000 : Int32)), (0, .ref h), (1, .int x1), (2, .int x2)]) X dX11_laneBetween_3 rfl (by decide) rfl ?_
  refine g_iconst X dX11_laneBetween_4 kc_0 ?_
  refine g_istore (lv' := [(4, .int (0 : Int32)), (3, .int (100000000 : Int32)), (0, .ref h), (1, .int x1), (2, .int x2)]) X dX11_laneBetween_5 (by decide) rfl ?_
  refine g_lv [2, 3, 4, 1, 0] (lv' := [(0, .ref h), (1, .int x1), (2, .int x2), (3, .int (100000000 : Int32)), (4, .int (0 : Int32))]) rfl ?_
  exact hL7 _ _ _ _ _ hf
def rm_letter : Room := { frames := 2, cells := 0, slots := 0, locals := 47 }
set_option maxRecDepth 100000 in
set_option maxHeartbeats 4000000 in
theorem c_letter (l : Launch) (dC : Nat → ClassId) (dI : Nat → Nat → Nat) (E : Nat → ClassId) (h : Nat) (r : Nat → Nat) (F : Nat) (S : MS) (x1 : Int32) (x2 : Int32) (x3 : Int32) (res : Int32 × MS) (hf : M_letter F S x1 x2 x3 = some res) : MC l dC dI E yX11_letter cX11_letter 10 (some .int) rm_letter [.ref h, .int x1, .int x2, .int x3] (MW E h r S) (MW E h r res.2) (some (.int res.1)) := by
  refine MC_of (own := "LostLanesModel") (by decide) rfl (Nat.le_of_ble_eq_true rfl) ?_
  intro p e s m args below meth c A Q X hr hlk hA hQ
  have hB229 : ∀ (S : MS) (x3 : Int32) (x6 : Int32) (x7 : Int32) (x8 : Int32) (k169 : Int32 → Int32 → Option (Int32 × MS)) (hk169 : ∀ (x7 : Int32) (x8 : Int32), k169 x7 x8 = some res → GG p l e rm_letter s m args below meth c dC dI A 10 0 0 Q (MW E h r S) 169 [(0, .ref h), (3, .int x3), (6, .int x6), (7, .int x7), (8, .int x8)] []) (k187 : Int32 → Option (Int32 × MS)) (hk187 : ∀ (x9 : Int32), k187 x9 = some res → GG p l e rm_letter s m args below meth c dC dI A 10 0 0 Q (MW E h r S) 187 [(0, .ref h), (3, .int x3), (6, .int x6), (7, .int x7), (8, .int x8), (9, .int x9)] []) (x9 : Int32), M_letter_B229 F k169 k187 S x3 x6 x7 x8 x9 = some res → GG p l e rm_letter s m args below meth c dC dI A 10 0 0 Q (MW E h r S) 229 [(0, .ref h), (3, .int x3), (6, .int x6), (7, .int x7), (8, .int x8), (9, .int x9)] [] := by
    intro S x3 x6 x7 x8 k169 hk169 k187 hk187 x9 hf
    unfold M_letter_B229 at hf
    refine g_iinc (lv' := [(9, .int (x9 + (1 : Int32))), (0, .ref h), (3, .int x3), (6, .int x6), (7, .int x7), (8, .int x8)]) X dX11_letter_229 5 rfl kc_1 (by decide) rfl ?_
    refine g_goto (tgt := 187) X dX11_letter_232 (by decide) ?_
    refine g_lv [1, 2, 3, 4, 5, 0] (lv' := [(0, .ref h), (3, .int x3), (6, .int x6), (7, .int x7), (8, .int x8), (9, .int (x9 + (1 : Int32)))]) rfl ?_
    exact hk187 _ hf
  have hL187 : ∀ (S : MS) (x3 : Int32) (x6 : Int32) (k169 : Int32 → Int32 → Option (Int32 × MS)) (hk169 : ∀ (x7 : Int32) (x8 : Int32), k169 x7 x8 = some res → GG p l e rm_letter s m args below meth c dC dI A 10 0 0 Q (MW E h r S) 169 [(0, .ref h), (3, .int x3), (6, .int x6), (7, .int x7), (8, .int x8)] []) (x7 : Int32) (x8 : Int32) (n : Nat) (x9 : Int32), M_letter_L187 F k169 S x3 x6 x7 x8 n x9 = some res → GG p l e rm_letter s m args below meth c dC dI A 10 0 0 Q (MW E h r S) 187 [(0, .ref h), (3, .int x3), (6, .int x6), (7, .int x7), (8, .int x8), (9, .int x9)] [] := by
    intro S x3 x6 k169 hk169 x7 x8 n
    induction n with
    | zero => intro x9 hf; have hf : (none : Option (Int32 × MS)) = some res := hf; cases hf
    | succ n ih =>
      intro x9 hf
      rw [M_letter_L187] at hf
      refine g_aload_n X dX11_letter_187 0 rfl ?_
      refine g_iload X dX11_letter_188 3 rfl ?_
      refine g_iload X dX11_letter_190 5 rfl ?_
      refine m_bind hf (fun q1 hq1 hf => ?_)
      refine m_callV_i (As := [.int x7, .int x9]) (st := []) X kV_493 (c_laneBetween l dC dI E h r F S x7 x9 q1 hq1) ⟨Nat.le_of_ble_eq_true rfl, Nat.le_of_ble_eq_true rfl⟩ ⟨rfl, rfl⟩ (Nat.le_of_ble_eq_true rfl) ⟨Nat.le_of_ble_eq_true rfl, Nat.le_of_ble_eq_true rfl⟩ dX11_letter_192 ?_
      refine g_ldcw X dX11_letter_195 wd7_183 ?_
      refine g_icmp_eq (tgt := 229) X dX11_letter_198 (by decide) hf (fun hf => ?_) (fun hf => ?_)
      · exact hB229 _ _ _ _ _ _ hk169 _ ih _ hf
      refine g_aload_n X dX11_letter_201 0 rfl ?_
      refine g_iload X dX11_letter_202 3 rfl ?_
      refine g_iload X dX11_letter_204 5 rfl ?_
      refine m_bind hf (fun q2 hq2 hf => ?_)
      refine m_callV_i (As := [.int x7, .int x9]) (st := []) X kV_493 (c_laneBetween l dC dI E h r F S x7 x9 q2 hq2) ⟨Nat.le_of_ble_eq_true rfl, Nat.le_of_ble_eq_true rfl⟩ ⟨rfl, rfl⟩ (Nat.le_of_ble_eq_true rfl) ⟨Nat.le_of_ble_eq_true rfl, Nat.le_of_ble_eq_true rfl⟩ dX11_letter_206 ?_
      refine g_aload_n X dX11_letter_209 0 rfl ?_
      refine g_iload X dX11_letter_210 5 rfl ?_
      refine g_iload X dX11_letter_212 2 rfl ?_
      refine m_bind hf (fun q3 hq3 hf => ?_)
      refine m_callV_i (As := [.int x9, .int x6]) (st := [.int q2]) X kV_463 (c_farOf l dC dI E h r S x9 x6 q3 hq3) ⟨Nat.le_of_ble_eq_true rfl, Nat.le_of_ble_eq_true rfl⟩ ⟨rfl, rfl⟩ (Nat.le_of_ble_eq_true rfl) ⟨Nat.le_of_ble_eq_true rfl, Nat.le_of_ble_eq_true rfl⟩ dX11_letter_214 ?_
      refine g_iadd X dX11_letter_217 ?_
      refine g_aload_n X dX11_letter_218 0 rfl ?_
      refine g_iload X dX11_letter_219 3 rfl ?_
      refine g_iload X dX11_letter_221 2 rfl ?_
      refine m_bind hf (fun q4 hq4 hf => ?_)
      refine m_callV_i (As := [.int x7, .int x6]) (st := [.int (q2 + q3)]) X kV_463 (c_farOf l dC dI E h r S x7 x6 q4 hq4) ⟨Nat.le_of_ble_eq_true rfl, Nat.le_of_ble_eq_true rfl⟩ ⟨rfl, rfl⟩ (Nat.le_of_ble_eq_true rfl) ⟨Nat.le_of_ble_eq_true rfl, Nat.le_of_ble_eq_true rfl⟩ dX11_letter_223 ?_
      refine g_icmp_eq (tgt := 235) X dX11_letter_226 (by decide) hf (fun hf => ?_) (fun hf => ?_)
      · refine g_iload X dX11_letter_235 5 rfl ?_
        refine g_istore (lv' := [(7, .int x9), (0, .ref h), (3, .int x3), (6, .int x6), (8, .int x8), (9, .int x9)]) X dX11_letter_237 (by decide) rfl ?_
        refine g_iinc (lv' := [(8, .int (x8 + (1 : Int32))), (7, .int x9), (0, .ref h), (3, .int x3), (6, .int x6), (9, .int x9)]) X dX11_letter_239 4 rfl kc_1 (by decide) rfl ?_
        refine g_goto (tgt := 169) X dX11_letter_242 (by decide) ?_
        refine g_lv [2, 3, 4, 1, 0] (lv' := [(0, .ref h), (3, .int x3), (6, .int x6), (7, .int x9), (8, .int (x8 + (1 : Int32)))]) rfl ?_
        exact hk169 _ _ hf
      exact hB229 _ _ _ _ _ _ hk169 _ ih _ hf
  have hL169 : ∀ (S : MS) (x3 : Int32) (x6 : Int32) (n : Nat) (x7 : Int32) (x8 : Int32), M_letter_L169 F S x3 x6 n x7 x8 = some res → GG p l e rm_letter s m args below meth c dC dI A 10 0 0 Q (MW E h r S) 169 [(0, .ref h), (3, .int x3), (6, .int x6), (7, .int x7), (8, .int x8)] [] := by
    intro S x3 x6 n
    induction n with
    | zero => intro x7 x8 hf; have hf : (none : Option (Int32 × MS)) = some res := hf; cases hf
    | succ n ih =>
      intro x7 x8 hf
      rw [M_letter_L169] at hf
      refine g_iload X dX11_letter_169 4 rfl ?_
      refine g_iload_n X dX11_letter_171 1 rfl ?_
      refine g_icmp_gt (tgt := 245) X dX11_letter_172 (by decide) hf (fun hf => ?_) (fun hf => ?_)
      · refine g_iload X dX11_letter_245 3 rfl ?_
        exact m_reti_s hA hQ X hr hlk dX11_letter_247 hf
      refine g_iload X dX11_letter_175 3 rfl ?_
      refine g_iload X dX11_letter_177 2 rfl ?_
      refine g_icmp_ne (tgt := 184) X dX11_letter_179 (by decide) hf (fun hf => ?_) (fun hf => ?_)
      · refine g_iconst X dX11_letter_184 kc_0 ?_
        refine g_istore (lv' := [(9, .int (0 : Int32)), (0, .ref h), (3, .int x3), (6, .int x6), (7, .int x7), (8, .int x8)]) X dX11_letter_185 (by decide) rfl ?_
        refine g_lv [1, 2, 3, 4, 5, 0] (lv' := [(0, .ref h), (3, .int x3), (6, .int x6), (7, .int x7), (8, .int x8), (9, .int (0 : Int32))]) rfl ?_
        exact hL187 _ _ _ _ ih _ _ _ _ hf
      refine g_iconst X dX11_letter_182 kc_m1 ?_
      exact m_reti_s hA hQ X hr hlk dX11_letter_183 hf
  have hB146 : ∀ (S : MS) (x5 : Int32), M_letter_B146 F S x5 = some res → GG p l e rm_letter s m args below meth c dC dI A 10 0 0 Q (MW E h r S) 146 [(5, .int x5)] [] := by
    intro S x5 hf
    unfold M_letter_B146 at hf
    refine g_iload X dX11_letter_146 0 rfl ?_
    refine g_goto (tgt := 153) X dX11_letter_148 (by decide) ?_
    exact m_reti_s hA hQ X hr hlk dX11_letter_153 hf
  have hB134 : ∀ (S : MS) (x3 : Int32) (x4 : Int32) (x5 : Int32), M_letter_B134 F S x3 x4 x5 = some res → GG p l e rm_letter s m args below meth c dC dI A 10 0 0 Q (MW E h r S) 134 [(3, .int x3), (4, .int x4), (5, .int x5)] [] := by
    intro S x3 x4 x5 hf
    unfold M_letter_B134 at hf
    refine g_iload X dX11_letter_134 2 rfl ?_
    refine g_iconst X dX11_letter_136 kc_m1 ?_
    refine g_icmp_eq (tgt := 146) X dX11_letter_137 (by decide) hf (fun hf => ?_) (fun hf => ?_)
    · refine g_lv [2] (lv' := [(5, .int x5)]) rfl ?_
      exact hB146 _ _ hf
    refine g_iload_n X dX11_letter_140 0 rfl ?_
    refine g_bipush X dX11_letter_141 kb_m2 ?_
    refine g_icmp_ne (tgt := 151) X dX11_letter_143 (by decide) hf (fun hf => ?_) (fun hf => ?_)
    · refine g_iload X dX11_letter_151 1 rfl ?_
      exact m_reti_s hA hQ X hr hlk dX11_letter_153 hf
    refine g_lv [2] (lv' := [(5, .int x5)]) rfl ?_
    exact hB146 _ _ hf
  have hB118 : ∀ (S : MS) (x1 : Int32) (x2 : Int32) (x3 : Int32) (k47 : Int32 → Int32 → Int32 → Option (Int32 × MS)) (hk47 : ∀ (x4 : Int32) (x5 : Int32) (x6 : Int32), k47 x4 x5 x6 = some res → GG p l e rm_letter s m args below meth c dC dI A 10 0 0 Q (MW E h r S) 47 [(0, .ref h), (1, .int x1), (2, .int x2), (3, .int x3), (4, .int x4), (5, .int x5), (6, .int x6)] []) (x4 : Int32) (x5 : Int32) (x6 : Int32), M_letter_B118 F k47 S x1 x2 x3 x4 x5 x6 = some res → GG p l e rm_letter s m args below meth c dC dI A 10 0 0 Q (MW E h r S) 118 [(0, .ref h), (1, .int x1), (2, .int x2), (3, .int x3), (4, .int x4), (5, .int x5), (6, .int x6)] [] := by
    intro S x1 x2 x3 k47 hk47 x4 x5 x6 hf
    unfold M_letter_B118 at hf
    refine g_iinc (lv' := [(6, .int (x6 + (1 : Int32))), (0, .ref h), (1, .int x1), (2, .int x2), (3, .int x3), (4, .int x4), (5, .int x5)]) X dX11_letter_118 6 rfl kc_1 (by decide) rfl ?_
    refine g_goto (tgt := 47) X dX11_letter_121 (by decide) ?_
    refine g_lv [1, 2, 3, 4, 5, 6, 0] (lv' := [(0, .ref h), (1, .int x1), (2, .int x2), (3, .int x3), (4, .int x4), (5, .int x5), (6, .int (x6 + (1 : Int32)))]) rfl ?_
    exact hk47 _ _ _ hf
  have hB116 : ∀ (S : MS) (x1 : Int32) (x2 : Int32) (x3 : Int32) (k47 : Int32 → Int32 → Int32 → Option (Int32 × MS)) (hk47 : ∀ (x4 : Int32) (x5 : Int32) (x6 : Int32), k47 x4 x5 x6 = some res → GG p l e rm_letter s m args below meth c dC dI A 10 0 0 Q (MW E h r S) 47 [(0, .ref h), (1, .int x1), (2, .int x2), (3, .int x3), (4, .int x4), (5, .int x5), (6, .int x6)] []) (x5 : Int32) (x6 : Int32) (t0 : Int32), M_letter_B116 F k47 S x1 x2 x3 x5 x6 t0 = some res → GG p l e rm_letter s m args below meth c dC dI A 10 0 0 Q (MW E h r S) 116 [(0, .ref h), (1, .int x1), (2, .int x2), (3, .int x3), (5, .int x5), (6, .int x6)] [.int t0] := by
    intro S x1 x2 x3 k47 hk47 x5 x6 t0 hf
    unfold M_letter_B116 at hf
    refine g_istore (lv' := [(4, .int t0), (0, .ref h), (1, .int x1), (2, .int x2), (3, .int x3), (5, .int x5), (6, .int x6)]) X dX11_letter_116 (by decide) rfl ?_
    refine g_lv [1, 2, 3, 4, 0, 5, 6] (lv' := [(0, .ref h), (1, .int x1), (2, .int x2), (3, .int x3), (4, .int t0), (5, .int x5), (6, .int x6)]) rfl ?_
    exact hB118 _ _ _ _ _ hk47 _ _ _ hf
  have hB100 : ∀ (S : MS) (x1 : Int32) (x2 : Int32) (x3 : Int32) (k47 : Int32 → Int32 → Int32 → Option (Int32 × MS)) (hk47 : ∀ (x4 : Int32) (x5 : Int32) (x6 : Int32), k47 x4 x5 x6 = some res → GG p l e rm_letter s m args below meth c dC dI A 10 0 0 Q (MW E h r S) 47 [(0, .ref h), (1, .int x1), (2, .int x2), (3, .int x3), (4, .int x4), (5, .int x5), (6, .int x6)] []) (x4 : Int32) (x6 : Int32) (x7 : Int32) (t0 : Int32), M_letter_B100 F k47 S x1 x2 x3 x4 x6 x7 t0 = some res → GG p l e rm_letter s m args below meth c dC dI A 10 0 0 Q (MW E h r S) 100 [(0, .ref h), (1, .int x1), (2, .int x2), (3, .int x3), (4, .int x4), (6, .int x6), (7, .int x7)] [.int t0] := by
    intro S x1 x2 x3 k47 hk47 x4 x6 x7 t0 hf
    unfold M_letter_B100 at hf
    refine g_istore (lv' := [(5, .int t0), (0, .ref h), (1, .int x1), (2, .int x2), (3, .int x3), (4, .int x4), (6, .int x6), (7, .int x7)]) X dX11_letter_100 (by decide) rfl ?_
    refine g_iload X dX11_letter_102 7 rfl ?_
    refine g_iload X dX11_letter_104 5 rfl ?_
    refine g_icmp_ge (tgt := 114) X dX11_letter_106 (by decide) hf (fun hf => ?_) (fun hf => ?_)
    · refine g_iload X dX11_letter_114 5 rfl ?_
      refine g_lv [1, 2, 3, 4, 0, 6] (lv' := [(0, .ref h), (1, .int x1), (2, .int x2), (3, .int x3), (5, .int t0), (6, .int x6)]) rfl ?_
      exact hB116 _ _ _ _ _ hk47 _ _ _ hf
    refine g_iload X dX11_letter_109 7 rfl ?_
    refine g_goto (tgt := 116) X dX11_letter_111 (by decide) ?_
    refine g_lv [1, 2, 3, 4, 0, 6] (lv' := [(0, .ref h), (1, .int x1), (2, .int x2), (3, .int x3), (5, .int t0), (6, .int x6)]) rfl ?_
    exact hB116 _ _ _ _ _ hk47 _ _ _ hf
  have hL47 : ∀ (S : MS) (x1 : Int32) (x2 : Int32) (x3 : Int32) (n : Nat) (x4 : Int32) (x5 : Int32) (x6 : Int32), M_letter_L47 F S x1 x2 x3 n x4 x5 x6 = some res → GG p l e rm_letter s m args below meth c dC dI A 10 0 0 Q (MW E h r S) 47 [(0, .ref h), (1, .int x1), (2, .int x2), (3, .int x3), (4, .int x4), (5, .int x5), (6, .int x6)] [] := by
    intro S x1 x2 x3 n
    induction n with
    | zero => intro x4 x5 x6 hf; have hf : (none : Option (Int32 × MS)) = some res := hf; cases hf
    | succ n ih =>
      intro x4 x5 x6 hf
      rw [M_letter_L47] at hf
      refine g_iload X dX11_letter_47 6 rfl ?_
      refine g_aload_n X dX11_letter_49 0 rfl ?_
      refine m_get_3 X dX11_letter_50 ?_
      refine g_iconst X dX11_letter_53 kc_0 ?_
      refine m_aldc_3 X kt_0 kx_0_5476 dX11_letter_54 ?_
      refine g_icmp_ge (tgt := 124) X dX11_letter_55 (by decide) hf (fun hf => ?_) (fun hf => ?_)
      · refine g_iload X dX11_letter_124 5 rfl ?_
        refine g_iconst X dX11_letter_126 kc_m1 ?_
        refine g_icmp_eq (tgt := 134) X dX11_letter_127 (by decide) hf (fun hf => ?_) (fun hf => ?_)
        · refine g_lv [3, 4, 5] (lv' := [(3, .int x3), (4, .int x4), (5, .int x5)]) rfl ?_
          exact hB134 _ _ _ _ hf
        refine g_iload_n X dX11_letter_130 3 rfl ?_
        refine g_if_ge (tgt := 154) X dX11_letter_131 (by decide) hf (fun hf => ?_) (fun hf => ?_)
        · refine g_aload_n X dX11_letter_154 0 rfl ?_
          refine g_iload_n X dX11_letter_155 1 rfl ?_
          refine g_iload X dX11_letter_156 5 rfl ?_
          refine m_bind hf (fun q5 hq5 hf => ?_)
          refine m_callV_i (As := [.int x1, .int x5]) (st := []) X kV_490 (c_nearEnd l dC dI E h r S x1 x5 q5 hq5) ⟨Nat.le_of_ble_eq_true rfl, Nat.le_of_ble_eq_true rfl⟩ ⟨rfl, rfl⟩ (Nat.le_of_ble_eq_true rfl) ⟨Nat.le_of_ble_eq_true rfl, Nat.le_of_ble_eq_true rfl⟩ dX11_letter_158 ?_
          refine g_istore (lv' := [(6, .int q5), (0, .ref h), (1, .int x1), (2, .int x2), (3, .int x3), (4, .int x4), (5, .int x5)]) X dX11_letter_161 (by decide) rfl ?_
          refine g_iload_n X dX11_letter_163 2 rfl ?_
          refine g_istore (lv' := [(7, .int x1), (6, .int q5), (0, .ref h), (1, .int x1), (2, .int x2), (3, .int x3), (4, .int x4), (5, .int x5)]) X dX11_letter_164 (by decide) rfl ?_
          refine g_iconst X dX11_letter_166 kc_0 ?_
          refine g_istore (lv' := [(8, .int (0 : Int32)), (7, .int x1), (6, .int q5), (0, .ref h), (1, .int x1), (2, .int x2), (3, .int x3), (4, .int x4), (5, .int x5)]) X dX11_letter_167 (by decide) rfl ?_
          refine g_lv [3, 6, 2, 1, 0] (lv' := [(0, .ref h), (3, .int x3), (6, .int q5), (7, .int x1), (8, .int (0 : Int32))]) rfl ?_
          exact hL169 _ _ _ _ _ _ hf
        refine g_lv [3, 4, 5] (lv' := [(3, .int x3), (4, .int x4), (5, .int x5)]) rfl ?_
        exact hB134 _ _ _ _ hf
      refine g_aload_n X dX11_letter_58 0 rfl ?_
      refine m_get_3 X dX11_letter_59 ?_
      refine g_bipush X dX11_letter_62 kb_8 ?_
      refine g_iload X dX11_letter_64 6 rfl ?_
      refine g_iadd X dX11_letter_66 ?_
      refine m_ald_3 X dX11_letter_67 hf (fun hf => ?_)
      refine g_iload_n X dX11_letter_68 2 rfl ?_
      refine g_icmp_ne (tgt := 118) X dX11_letter_69 (by decide) hf (fun hf => ?_) (fun hf => ?_)
      · exact hB118 _ _ _ _ _ ih _ _ _ hf
      refine g_aload_n X dX11_letter_72 0 rfl ?_
      refine g_iload_n X dX11_letter_73 1 rfl ?_
      refine g_aload_n X dX11_letter_74 0 rfl ?_
      refine g_iload_n X dX11_letter_75 1 rfl ?_
      refine g_iload X dX11_letter_76 6 rfl ?_
      refine m_bind hf (fun q6 hq6 hf => ?_)
      refine m_callV_i (As := [.int x1, .int x6]) (st := [.int x1, .ref h]) X kV_490 (c_nearEnd l dC dI E h r S x1 x6 q6 hq6) ⟨Nat.le_of_ble_eq_true rfl, Nat.le_of_ble_eq_true rfl⟩ ⟨rfl, rfl⟩ (Nat.le_of_ble_eq_true rfl) ⟨Nat.le_of_ble_eq_true rfl, Nat.le_of_ble_eq_true rfl⟩ dX11_letter_78 ?_
      refine m_bind hf (fun q7 hq7 hf => ?_)
      refine m_callV_i (As := [.int x1, .int q6]) (st := []) X kV_463 (c_farOf l dC dI E h r S x1 q6 q7 hq7) ⟨Nat.le_of_ble_eq_true rfl, Nat.le_of_ble_eq_true rfl⟩ ⟨rfl, rfl⟩ (Nat.le_of_ble_eq_true rfl) ⟨Nat.le_of_ble_eq_true rfl, Nat.le_of_ble_eq_true rfl⟩ dX11_letter_81 ?_
      refine g_istore (lv' := [(7, .int q7), (0, .ref h), (1, .int x1), (2, .int x2), (3, .int x3), (4, .int x4), (5, .int x5), (6, .int x6)]) X dX11_letter_84 (by decide) rfl ?_
      refine g_iload X dX11_letter_86 0 rfl ?_
      refine g_iload X dX11_letter_88 5 rfl ?_
      refine g_icmp_ge (tgt := 98) X dX11_letter_90 (by decide) hf (fun hf => ?_) (fun hf => ?_)
      · refine g_iload X dX11_letter_98 6 rfl ?_
        refine g_lv [1, 2, 3, 4, 5, 7, 0] (lv' := [(0, .ref h), (1, .int x1), (2, .int x2), (3, .int x3), (4, .int x4), (6, .int x6), (7, .int q7)]) rfl ?_
        exact hB100 _ _ _ _ _ ih _ _ _ _ hf
      refine g_iload X dX11_letter_93 7 rfl ?_
      refine g_goto (tgt := 100) X dX11_letter_95 (by decide) ?_
      refine g_lv [1, 2, 3, 4, 5, 7, 0] (lv' := [(0, .ref h), (1, .int x1), (2, .int x2), (3, .int x3), (4, .int x4), (6, .int x6), (7, .int q7)]) rfl ?_
      exact hB100 _ _ _ _ _ ih _ _ _ _ hf
  refine g_lv [0, 1, 2, 3] (lv' := [(0, .ref h), (1, .int x1), (2, .int x2), (3, .int x3)]) rfl ?_
  unfold M_letter at hf
  refine g_aload_n X dX11_letter_0 0 rfl ?_
  refine g_iconst X dX11_letter_1 kc_0 ?_
  refine m_put_0 X dX11_letter_2 hf (fun S8 hf => ?_)
  refine g_iload_n X dX11_letter_5 1 rfl ?_
  refine m_bind hf (fun q9 hq9 hf => ?_)
  refine m_callS_i (As := [.int x1]) (st := []) X kS_188 (c_isCorner l dC dI E h r S8 x1 q9 hq9) ⟨Nat.le_of_ble_eq_true rfl, Nat.le_of_ble_eq_true rfl⟩ ⟨rfl, rfl⟩ (Nat.le_of_ble_eq_true rfl) ⟨Nat.le_of_ble_eq_true rfl, Nat.le_of_ble_eq_true rfl⟩ dX11_letter_6 ?_
  refine g_if_eq (tgt := 30) X dX11_letter_9 (by decide) hf (fun hf => ?_) (fun hf => ?_)
  · refine g_iconst X dX11_letter_30 kc_m1 ?_
    exact m_reti_s hA hQ X hr hlk dX11_letter_31 hf
  refine g_iload_n X dX11_letter_12 2 rfl ?_
  refine g_i2l X dX11_letter_13 ?_
  refine g_lconst X dX11_letter_14 kl_0 ?_
  refine g_ldc2 X dX11_letter_15 wd7_227 ?_
  refine m_bind hf (fun q10 hq10 hf => ?_)
  refine m_callS_i (As := [.long (x2).toInt64, .long (0 : Int64), .long (19 : Int64)]) (st := []) X kS_179 (c_in l dC dI E h r S8 (x2).toInt64 (0 : Int64) (19 : Int64) q10 hq10) ⟨Nat.le_of_ble_eq_true rfl, Nat.le_of_ble_eq_true rfl⟩ ⟨rfl, rfl⟩ (Nat.le_of_ble_eq_true rfl) ⟨Nat.le_of_ble_eq_true rfl, Nat.le_of_ble_eq_true rfl⟩ dX11_letter_18 ?_
  refine g_if_eq (tgt := 30) X dX11_letter_21 (by decide) hf (fun hf => ?_) (fun hf => ?_)
  · refine g_iconst X dX11_letter_30 kc_m1 ?_
    exact m_reti_s hA hQ X hr hlk dX11_letter_31 hf
  refine g_iload_n X dX11_letter_24 3 rfl ?_
  refine g_bipush X dX11_letter_25 kb_m2 ?_
  refine g_icmp_ge (tgt := 32) X dX11_letter_27 (by decide) hf (fun hf => ?_) (fun hf => ?_)
  · refine g_aload_n X dX11_letter_32 0 rfl ?_
    refine m_bind hf (fun q11 hq11 hf => ?_)
    refine m_callV_v (As := []) (st := []) X kV_460 (c_layFar l dC dI E h r F S8 q11 hq11) ⟨Nat.le_of_ble_eq_true rfl, Nat.le_of_ble_eq_true rfl⟩ ⟨rfl, rfl⟩ (Nat.le_of_ble_eq_true rfl) ⟨Nat.le_of_ble_eq_true rfl, Nat.le_of_ble_eq_true rfl⟩ dX11_letter_33 ?_
    refine g_ldcw X dX11_letter_36 wd7_183 ?_
    refine g_istore (lv' := [(4, .int (100000000 : Int32)), (0, .ref h), (1, .int x1), (2, .int x2), (3, .int x3)]) X dX11_letter_39 (by decide) rfl ?_
    refine g_iconst X dX11_letter_41 kc_m1 ?_
    refine g_istore (lv' := [(5, .int (-1 : Int32)), (4, .int (100000000 : Int32)), (0, .ref h), (1, .int x1), (2, .int x2), (3, .int x3)]) X dX11_letter_42 (by decide) rfl ?_
    refine g_iconst X dX11_letter_44 kc_0 ?_
    refine g_istore (lv' := [(6, .int (0 : Int32)), (5, .int (-1 : Int32)), (4, .int (100000000 : Int32)), (0, .ref h), (1, .int x1), (2, .int x2), (3, .int x3)]) X dX11_letter_45 (by decide) rfl ?_
    refine g_lv [3, 4, 5, 6, 2, 1, 0] (lv' := [(0, .ref h), (1, .int x1), (2, .int x2), (3, .int x3), (4, .int (100000000 : Int32)), (5, .int (-1 : Int32)), (6, .int (0 : Int32))]) rfl ?_
    exact hL47 _ _ _ _ _ _ _ _ hf
  refine g_iconst X dX11_letter_30 kc_m1 ?_
  exact m_reti_s hA hQ X hr hlk dX11_letter_31 hf
def rm_haveCorner : Room := { frames := 1, cells := 0, slots := 0, locals := 22 }
set_option maxRecDepth 100000 in
set_option maxHeartbeats 4000000 in
theorem c_haveCorner (l : Launch) (dC : Nat → ClassId) (dI : Nat → Nat → Nat) (E : Nat → ClassId) (h : Nat) (r : Nat → Nat) (S : MS) (x1 : Int32) (x2 : Int32) (res : Int32) (hf : M_haveCorner S x1 x2 = some res) : MC l dC dI E yX11_haveCorner cX11_haveCorner 3 (some .boolean) rm_haveCorner [.ref h, .int x1, .int x2] (MW E h r S) (MW E h r S) (some (.int res)) := by
  refine MC_of (own := "LostLanesModel") (by decide) rfl (Nat.le_of_ble_eq_true rfl) ?_
  intro p e s m args below meth c A Q X hr hlk hA hQ
  have hB34 : M_haveCorner_B34 S  = some res → GG p l e rm_haveCorner s m args below meth c dC dI A 3 0 0 Q (MW E h r S) 34 [] [] := by
    intro  hf
    unfold M_haveCorner_B34 at hf
    refine g_iconst X dX11_haveCorner_34 kc_1 ?_
    refine g_goto (tgt := 39) X dX11_haveCorner_35 (by decide) ?_
    exact m_retz_o hA hQ X hr hlk (Or.inr rfl) dX11_haveCorner_39 hf
  refine g_lv [0, 1, 2] (lv' := [(0, .ref h), (1, .int x1), (2, .int x2)]) rfl ?_
  unfold M_haveCorner at hf
  refine g_aload_n X dX11_haveCorner_0 0 rfl ?_
  refine g_iload_n X dX11_haveCorner_1 1 rfl ?_
  refine g_aload_n X dX11_haveCorner_2 0 rfl ?_
  refine m_get_3 X dX11_haveCorner_3 ?_
  refine g_bipush X dX11_haveCorner_6 kb_26 ?_
  refine g_iload_n X dX11_haveCorner_8 2 rfl ?_
  refine g_iadd X dX11_haveCorner_9 ?_
  refine m_ald_3 X dX11_haveCorner_10 hf (fun hf => ?_)
  refine m_bind hf (fun q1 hq1 hf => ?_)
  refine m_callV_i (As := [.int x1, .int (ma S 3 (((26 : Int32) + x2)).toNatClampNeg)]) (st := []) X kV_424 (c_ends l dC dI E h r S x1 (ma S 3 (((26 : Int32) + x2)).toNatClampNeg) q1 hq1) ⟨Nat.le_of_ble_eq_true rfl, Nat.le_of_ble_eq_true rfl⟩ ⟨rfl, rfl⟩ (Nat.le_of_ble_eq_true rfl) ⟨Nat.le_of_ble_eq_true rfl, Nat.le_of_ble_eq_true rfl⟩ dX11_haveCorner_11 ?_
  refine g_if_ne (tgt := 34) X dX11_haveCorner_14 (by decide) hf (fun hf => ?_) (fun hf => ?_)
  · refine g_lv [] (lv' := []) rfl ?_
    exact hB34  hf
  refine g_aload_n X dX11_haveCorner_17 0 rfl ?_
  refine g_iload_n X dX11_haveCorner_18 1 rfl ?_
  refine g_aload_n X dX11_haveCorner_19 0 rfl ?_
  refine m_get_3 X dX11_haveCorner_20 ?_
  refine g_bipush X dX11_haveCorner_23 kb_36 ?_
  refine g_iload_n X dX11_haveCorner_25 2 rfl ?_
  refine g_iadd X dX11_haveCorner_26 ?_
  refine m_ald_3 X dX11_haveCorner_27 hf (fun hf => ?_)
  refine m_bind hf (fun q2 hq2 hf => ?_)
  refine m_callV_i (As := [.int x1, .int (ma S 3 (((36 : Int32) + x2)).toNatClampNeg)]) (st := []) X kV_424 (c_ends l dC dI E h r S x1 (ma S 3 (((36 : Int32) + x2)).toNatClampNeg) q2 hq2) ⟨Nat.le_of_ble_eq_true rfl, Nat.le_of_ble_eq_true rfl⟩ ⟨rfl, rfl⟩ (Nat.le_of_ble_eq_true rfl) ⟨Nat.le_of_ble_eq_true rfl, Nat.le_of_ble_eq_true rfl⟩ dX11_haveCorner_28 ?_
  refine g_if_eq (tgt := 38) X dX11_haveCorner_31 (by decide) hf (fun hf => ?_) (fun hf => ?_)
  · refine g_iconst X dX11_haveCorner_38 kc_0 ?_
    exact m_retz_o hA hQ X hr hlk (Or.inl rfl) dX11_haveCorner_39 hf
  refine g_lv [] (lv' := []) rfl ?_
  exact hB34  hf
def rm_fitsName : Room := { frames := 2, cells := 0, slots := 0, locals := 44 }
set_option maxRecDepth 100000 in
set_option maxHeartbeats 4000000 in
theorem c_fitsName (l : Launch) (dC : Nat → ClassId) (dI : Nat → Nat → Nat) (E : Nat → ClassId) (h : Nat) (r : Nat → Nat) (F : Nat) (S : MS) (x1 : Int32) (res : Int32) (hf : M_fitsName F S x1 = some res) : MC l dC dI E yX11_fitsName cX11_fitsName 4 (some .boolean) rm_fitsName [.ref h, .int x1] (MW E h r S) (MW E h r S) (some (.int res)) := by
  refine MC_of (own := "LostLanesModel") (by decide) rfl (Nat.le_of_ble_eq_true rfl) ?_
  intro p e s m args below meth c A Q X hr hlk hA hQ
  have hB42 : ∀ (x1 : Int32) (k4 : Int32 → Int32 → Option Int32) (hk4 : ∀ (x2 : Int32) (x3 : Int32), k4 x2 x3 = some res → GG p l e rm_fitsName s m args below meth c dC dI A 4 0 0 Q (MW E h r S) 4 [(0, .ref h), (1, .int x1), (2, .int x2), (3, .int x3)] []) (x3 : Int32) (t0 : Int32), M_fitsName_B42 F k4 S x1 x3 t0 = some res → GG p l e rm_fitsName s m args below meth c dC dI A 4 0 0 Q (MW E h r S) 42 [(0, .ref h), (1, .int x1), (3, .int x3)] [.int t0] := by
    intro x1 k4 hk4 x3 t0 hf
    unfold M_fitsName_B42 at hf
    refine g_istore_n (i := 2) (lv' := [(2, .int t0), (0, .ref h), (1, .int x1), (3, .int x3)]) X dX11_fitsName_42 rfl (by decide) rfl ?_
    refine g_iinc (lv' := [(3, .int (x3 + (1 : Int32))), (2, .int t0), (0, .ref h), (1, .int x1)]) X dX11_fitsName_43 3 rfl kc_1 (by decide) rfl ?_
    refine g_goto (tgt := 4) X dX11_fitsName_46 (by decide) ?_
    refine g_lv [2, 3, 1, 0] (lv' := [(0, .ref h), (1, .int x1), (2, .int t0), (3, .int (x3 + (1 : Int32)))]) rfl ?_
    exact hk4 _ _ hf
  have hB41 : ∀ (x1 : Int32) (k4 : Int32 → Int32 → Option Int32) (hk4 : ∀ (x2 : Int32) (x3 : Int32), k4 x2 x3 = some res → GG p l e rm_fitsName s m args below meth c dC dI A 4 0 0 Q (MW E h r S) 4 [(0, .ref h), (1, .int x1), (2, .int x2), (3, .int x3)] []) (x3 : Int32), M_fitsName_B41 F k4 S x1 x3 = some res → GG p l e rm_fitsName s m args below meth c dC dI A 4 0 0 Q (MW E h r S) 41 [(0, .ref h), (1, .int x1), (3, .int x3)] [] := by
    intro x1 k4 hk4 x3 hf
    unfold M_fitsName_B41 at hf
    refine g_iconst X dX11_fitsName_41 kc_0 ?_
    exact hB42 _ _ hk4 _ _ hf
  have hB37 : ∀ (x1 : Int32) (k4 : Int32 → Int32 → Option Int32) (hk4 : ∀ (x2 : Int32) (x3 : Int32), k4 x2 x3 = some res → GG p l e rm_fitsName s m args below meth c dC dI A 4 0 0 Q (MW E h r S) 4 [(0, .ref h), (1, .int x1), (2, .int x2), (3, .int x3)] []) (x3 : Int32), M_fitsName_B37 F k4 S x1 x3 = some res → GG p l e rm_fitsName s m args below meth c dC dI A 4 0 0 Q (MW E h r S) 37 [(0, .ref h), (1, .int x1), (3, .int x3)] [] := by
    intro x1 k4 hk4 x3 hf
    unfold M_fitsName_B37 at hf
    refine g_iconst X dX11_fitsName_37 kc_1 ?_
    refine g_goto (tgt := 42) X dX11_fitsName_38 (by decide) ?_
    exact hB42 _ _ hk4 _ _ hf
  have hL4 : ∀ (x1 : Int32) (n : Nat) (x2 : Int32) (x3 : Int32), M_fitsName_L4 F S x1 n x2 x3 = some res → GG p l e rm_fitsName s m args below meth c dC dI A 4 0 0 Q (MW E h r S) 4 [(0, .ref h), (1, .int x1), (2, .int x2), (3, .int x3)] [] := by
    intro x1 n
    induction n with
    | zero => intro x2 x3 hf; have hf : (none : Option Int32) = some res := hf; cases hf
    | succ n ih =>
      intro x2 x3 hf
      rw [M_fitsName_L4] at hf
      refine g_iload_n X dX11_fitsName_4 3 rfl ?_
      refine g_iload_n X dX11_fitsName_5 1 rfl ?_
      refine g_icmp_ge (tgt := 49) X dX11_fitsName_6 (by decide) hf (fun hf => ?_) (fun hf => ?_)
      · refine g_iload_n X dX11_fitsName_49 2 rfl ?_
        obtain ⟨hz50, hf⟩ := chk_some hf
        exact m_retz_o hA hQ X hr hlk hz50 dX11_fitsName_50 hf
      refine g_iload_n X dX11_fitsName_9 2 rfl ?_
      refine g_if_eq (tgt := 41) X dX11_fitsName_10 (by decide) hf (fun hf => ?_) (fun hf => ?_)
      · refine g_lv [0, 1, 3] (lv' := [(0, .ref h), (1, .int x1), (3, .int x3)]) rfl ?_
        exact hB41 _ _ ih _ hf
      refine g_aload_n X dX11_fitsName_13 0 rfl ?_
      refine m_get_45 X dX11_fitsName_14 ?_
      refine g_iload_n X dX11_fitsName_17 3 rfl ?_
      refine m_ald_45 X dX11_fitsName_18 hf (fun hf => ?_)
      refine g_aload_n X dX11_fitsName_19 0 rfl ?_
      refine m_get_45 X dX11_fitsName_20 ?_
      refine g_iload_n X dX11_fitsName_23 1 rfl ?_
      refine m_ald_45 X dX11_fitsName_24 hf (fun hf => ?_)
      refine g_icmp_ne (tgt := 37) X dX11_fitsName_25 (by decide) hf (fun hf => ?_) (fun hf => ?_)
      · refine g_lv [0, 1, 3] (lv' := [(0, .ref h), (1, .int x1), (3, .int x3)]) rfl ?_
        exact hB37 _ _ ih _ hf
      refine g_aload_n X dX11_fitsName_28 0 rfl ?_
      refine g_iload_n X dX11_fitsName_29 3 rfl ?_
      refine g_iload_n X dX11_fitsName_30 1 rfl ?_
      refine m_bind hf (fun q1 hq1 hf => ?_)
      refine m_callV_i (As := [.int x3, .int x1]) (st := []) X kV_496 (c_haveCorner l dC dI E h r S x3 x1 q1 hq1) ⟨Nat.le_of_ble_eq_true rfl, Nat.le_of_ble_eq_true rfl⟩ ⟨rfl, rfl⟩ (Nat.le_of_ble_eq_true rfl) ⟨Nat.le_of_ble_eq_true rfl, Nat.le_of_ble_eq_true rfl⟩ dX11_fitsName_31 ?_
      refine g_if_ne (tgt := 41) X dX11_fitsName_34 (by decide) hf (fun hf => ?_) (fun hf => ?_)
      · refine g_lv [0, 1, 3] (lv' := [(0, .ref h), (1, .int x1), (3, .int x3)]) rfl ?_
        exact hB41 _ _ ih _ hf
      refine g_lv [0, 1, 3] (lv' := [(0, .ref h), (1, .int x1), (3, .int x3)]) rfl ?_
      exact hB37 _ _ ih _ hf
  refine g_lv [0, 1] (lv' := [(0, .ref h), (1, .int x1)]) rfl ?_
  unfold M_fitsName at hf
  refine g_iconst X dX11_fitsName_0 kc_1 ?_
  refine g_istore_n (i := 2) (lv' := [(2, .int (1 : Int32)), (0, .ref h), (1, .int x1)]) X dX11_fitsName_1 rfl (by decide) rfl ?_
  refine g_iconst X dX11_fitsName_2 kc_0 ?_
  refine g_istore_n (i := 3) (lv' := [(3, .int (0 : Int32)), (2, .int (1 : Int32)), (0, .ref h), (1, .int x1)]) X dX11_fitsName_3 rfl (by decide) rfl ?_
  refine g_lv [2, 3, 1, 0] (lv' := [(0, .ref h), (1, .int x1), (2, .int (1 : Int32)), (3, .int (0 : Int32))]) rfl ?_
  exact hL4 _ _ _ _ hf
def rm_nameAhead : Room := { frames := 0, cells := 0, slots := 0, locals := 0 }
set_option maxRecDepth 100000 in
set_option maxHeartbeats 4000000 in
theorem c_nameAhead (l : Launch) (dC : Nat → ClassId) (dI : Nat → Nat → Nat) (E : Nat → ClassId) (h : Nat) (r : Nat → Nat) (F : Nat) (S : MS) (x1 : Int32) (res : Int32) (hf : M_nameAhead F S x1 = some res) : MC l dC dI E yX11_nameAhead cX11_nameAhead 4 (some .int) rm_nameAhead [.ref h, .int x1] (MW E h r S) (MW E h r S) (some (.int res)) := by
  refine MC_of (own := "LostLanesModel") (by decide) rfl (Nat.le_of_ble_eq_true rfl) ?_
  intro p e s m args below meth c A Q X hr hlk hA hQ
  have hB31 : ∀ (x1 : Int32) (k4 : Int32 → Int32 → Option Int32) (hk4 : ∀ (x2 : Int32) (x3 : Int32), k4 x2 x3 = some res → GG p l e rm_nameAhead s m args below meth c dC dI A 4 0 0 Q (MW E h r S) 4 [(0, .ref h), (1, .int x1), (2, .int x2), (3, .int x3)] []) (x3 : Int32) (t0 : Int32), M_nameAhead_B31 F k4 S x1 x3 t0 = some res → GG p l e rm_nameAhead s m args below meth c dC dI A 4 0 0 Q (MW E h r S) 31 [(0, .ref h), (1, .int x1), (3, .int x3)] [.int t0] := by
    intro x1 k4 hk4 x3 t0 hf
    unfold M_nameAhead_B31 at hf
    refine g_istore_n (i := 2) (lv' := [(2, .int t0), (0, .ref h), (1, .int x1), (3, .int x3)]) X dX11_nameAhead_31 rfl (by decide) rfl ?_
    refine g_iinc (lv' := [(3, .int (x3 + (1 : Int32))), (2, .int t0), (0, .ref h), (1, .int x1)]) X dX11_nameAhead_32 3 rfl kc_1 (by decide) rfl ?_
    refine g_goto (tgt := 4) X dX11_nameAhead_35 (by decide) ?_
    refine g_lv [2, 3, 1, 0] (lv' := [(0, .ref h), (1, .int x1), (2, .int t0), (3, .int (x3 + (1 : Int32)))]) rfl ?_
    exact hk4 _ _ hf
  have hL4 : ∀ (x1 : Int32) (n : Nat) (x2 : Int32) (x3 : Int32), M_nameAhead_L4 F S x1 n x2 x3 = some res → GG p l e rm_nameAhead s m args below meth c dC dI A 4 0 0 Q (MW E h r S) 4 [(0, .ref h), (1, .int x1), (2, .int x2), (3, .int x3)] [] := by
    intro x1 n
    induction n with
    | zero => intro x2 x3 hf; have hf : (none : Option Int32) = some res := hf; cases hf
    | succ n ih =>
      intro x2 x3 hf
      rw [M_nameAhead_L4] at hf
      refine g_iload_n X dX11_nameAhead_4 3 rfl ?_
      refine g_iload_n X dX11_nameAhead_5 1 rfl ?_
      refine g_icmp_ge (tgt := 38) X dX11_nameAhead_6 (by decide) hf (fun hf => ?_) (fun hf => ?_)
      · refine g_iload_n X dX11_nameAhead_38 2 rfl ?_
        exact m_reti_o hA hQ X hr hlk dX11_nameAhead_39 hf
      refine g_aload_n X dX11_nameAhead_9 0 rfl ?_
      refine m_get_45 X dX11_nameAhead_10 ?_
      refine g_iload_n X dX11_nameAhead_13 3 rfl ?_
      refine m_ald_45 X dX11_nameAhead_14 hf (fun hf => ?_)
      refine g_iload_n X dX11_nameAhead_15 2 rfl ?_
      refine g_icmp_lt (tgt := 30) X dX11_nameAhead_16 (by decide) hf (fun hf => ?_) (fun hf => ?_)
      · refine g_iload_n X dX11_nameAhead_30 2 rfl ?_
        refine g_lv [0, 1, 3] (lv' := [(0, .ref h), (1, .int x1), (3, .int x3)]) rfl ?_
        exact hB31 _ _ ih _ _ hf
      refine g_aload_n X dX11_nameAhead_19 0 rfl ?_
      refine m_get_45 X dX11_nameAhead_20 ?_
      refine g_iload_n X dX11_nameAhead_23 3 rfl ?_
      refine m_ald_45 X dX11_nameAhead_24 hf (fun hf => ?_)
      refine g_iconst X dX11_nameAhead_25 kc_1 ?_
      refine g_iadd X dX11_nameAhead_26 ?_
      refine g_goto (tgt := 31) X dX11_nameAhead_27 (by decide) ?_
      refine g_lv [0, 1, 3] (lv' := [(0, .ref h), (1, .int x1), (3, .int x3)]) rfl ?_
      exact hB31 _ _ ih _ _ hf
  refine g_lv [0, 1] (lv' := [(0, .ref h), (1, .int x1)]) rfl ?_
  unfold M_nameAhead at hf
  refine g_iconst X dX11_nameAhead_0 kc_0 ?_
  refine g_istore_n (i := 2) (lv' := [(2, .int (0 : Int32)), (0, .ref h), (1, .int x1)]) X dX11_nameAhead_1 rfl (by decide) rfl ?_
  refine g_iconst X dX11_nameAhead_2 kc_0 ?_
  refine g_istore_n (i := 3) (lv' := [(3, .int (0 : Int32)), (2, .int (0 : Int32)), (0, .ref h), (1, .int x1)]) X dX11_nameAhead_3 rfl (by decide) rfl ?_
  refine g_lv [2, 3, 1, 0] (lv' := [(0, .ref h), (1, .int x1), (2, .int (0 : Int32)), (3, .int (0 : Int32))]) rfl ?_
  exact hL4 _ _ _ _ hf
def rm_findNames : Room := { frames := 3, cells := 0, slots := 0, locals := 67 }
set_option maxRecDepth 100000 in
set_option maxHeartbeats 4000000 in
theorem c_findNames (l : Launch) (dC : Nat → ClassId) (dI : Nat → Nat → Nat) (E : Nat → ClassId) (h : Nat) (r : Nat → Nat) (F : Nat) (S : MS) (x1 : Int32) (res : Int32 × MS) (hf : M_findNames F S x1 = some res) : MC l dC dI E yX11_findNames cX11_findNames 4 (some .boolean) rm_findNames [.ref h, .int x1] (MW E h r S) (MW E h r res.2) (some (.int res.1)) := by
  refine MC_of (own := "LostLanesModel") (by decide) rfl (Nat.le_of_ble_eq_true rfl) ?_
  intro p e s m args below meth c A Q X hr hlk hA hQ
  have hB86 : ∀ (S : MS) (x2 : Int32) (x3 : Int32), M_findNames_B86 F S x2 x3 = some res → GG p l e rm_findNames s m args below meth c dC dI A 4 0 0 Q (MW E h r S) 86 [(2, .int x2), (3, .int x3)] [] := by
    intro S x2 x3 hf
    unfold M_findNames_B86 at hf
    refine g_iload_n X dX11_findNames_86 1 rfl ?_
    refine g_iload_n X dX11_findNames_87 0 rfl ?_
    refine g_icmp_ne (tgt := 95) X dX11_findNames_88 (by decide) hf (fun hf => ?_) (fun hf => ?_)
    · refine g_iconst X dX11_findNames_95 kc_0 ?_
      exact m_retz_s hA hQ X hr hlk (Or.inl rfl) dX11_findNames_96 hf
    refine g_iconst X dX11_findNames_91 kc_1 ?_
    refine g_goto (tgt := 96) X dX11_findNames_92 (by decide) ?_
    exact m_retz_s hA hQ X hr hlk (Or.inr rfl) dX11_findNames_96 hf
  have hB59 : ∀ (x1 : Int32) (x2 : Int32) (k16 : MS → Int32 → Option (Int32 × MS)) (hk16 : ∀ (S : MS) (x3 : Int32), k16 S x3 = some res → GG p l e rm_findNames s m args below meth c dC dI A 4 0 0 Q (MW E h r S) 16 [(0, .ref h), (1, .int x1), (2, .int x2), (3, .int x3)] []) (S : MS) (x3 : Int32), M_findNames_B59 F k16 S x1 x2 x3 = some res → GG p l e rm_findNames s m args below meth c dC dI A 4 0 0 Q (MW E h r S) 59 [(0, .ref h), (1, .int x1), (2, .int x2), (3, .int x3)] [] := by
    intro x1 x2 k16 hk16 S x3 hf
    unfold M_findNames_B59 at hf
    refine g_iinc (lv' := [(3, .int (x3 + (-1 : Int32))), (0, .ref h), (1, .int x1), (2, .int x2)]) X dX11_findNames_59 3 rfl kc_m1 (by decide) rfl ?_
    refine g_goto (tgt := 16) X dX11_findNames_62 (by decide) ?_
    refine g_lv [1, 2, 3, 0] (lv' := [(0, .ref h), (1, .int x1), (2, .int x2), (3, .int (x3 + (-1 : Int32)))]) rfl ?_
    exact hk16 _ _ hf
  have hL16 : ∀ (x1 : Int32) (x2 : Int32) (n : Nat) (S : MS) (x3 : Int32), M_findNames_L16 F x1 x2 n S x3 = some res → GG p l e rm_findNames s m args below meth c dC dI A 4 0 0 Q (MW E h r S) 16 [(0, .ref h), (1, .int x1), (2, .int x2), (3, .int x3)] [] := by
    intro x1 x2 n
    induction n with
    | zero => intro S x3 hf; have hf : (none : Option (Int32 × MS)) = some res := hf; cases hf
    | succ n ih =>
      intro S x3 hf
      rw [M_findNames_L16] at hf
      refine g_iload_n X dX11_findNames_16 3 rfl ?_
      refine g_if_lt (tgt := 86) X dX11_findNames_17 (by decide) hf (fun hf => ?_) (fun hf => ?_)
      · refine g_lv [2, 3] (lv' := [(2, .int x2), (3, .int x3)]) rfl ?_
        exact hB86 _ _ _ hf
      refine g_iload_n X dX11_findNames_20 3 rfl ?_
      refine g_iload_n X dX11_findNames_21 2 rfl ?_
      refine g_icmp_ge (tgt := 86) X dX11_findNames_22 (by decide) hf (fun hf => ?_) (fun hf => ?_)
      · refine g_lv [2, 3] (lv' := [(2, .int x2), (3, .int x3)]) rfl ?_
        exact hB86 _ _ _ hf
      refine g_aload_n X dX11_findNames_25 0 rfl ?_
      refine m_get_45 X dX11_findNames_26 ?_
      refine g_iload_n X dX11_findNames_29 3 rfl ?_
      refine g_dup2 X dX11_findNames_30 rfl rfl ?_
      refine m_ald_45 X dX11_findNames_31 hf (fun hf => ?_)
      refine g_iconst X dX11_findNames_32 kc_1 ?_
      refine g_iadd X dX11_findNames_33 ?_
      refine m_ast_45 X dX11_findNames_34 hf (fun S1 hf => ?_)
      refine g_aload_n X dX11_findNames_35 0 rfl ?_
      refine m_get_45 X dX11_findNames_36 ?_
      refine g_iload_n X dX11_findNames_39 3 rfl ?_
      refine m_ald_45 X dX11_findNames_40 hf (fun hf => ?_)
      refine g_iload_n X dX11_findNames_41 1 rfl ?_
      refine g_icmp_ge (tgt := 59) X dX11_findNames_42 (by decide) hf (fun hf => ?_) (fun hf => ?_)
      · exact hB59 _ _ _ ih _ _ hf
      refine g_aload_n X dX11_findNames_45 0 rfl ?_
      refine m_get_45 X dX11_findNames_46 ?_
      refine g_iload_n X dX11_findNames_49 3 rfl ?_
      refine m_ald_45 X dX11_findNames_50 hf (fun hf => ?_)
      refine g_aload_n X dX11_findNames_51 0 rfl ?_
      refine g_iload_n X dX11_findNames_52 3 rfl ?_
      refine m_bind hf (fun q2 hq2 hf => ?_)
      refine m_callV_i (As := [.int x3]) (st := [.int (ma S1 45 (x3).toNatClampNeg)]) X kV_499 (c_nameAhead l dC dI E h r F S1 x3 q2 hq2) ⟨Nat.le_of_ble_eq_true rfl, Nat.le_of_ble_eq_true rfl⟩ ⟨rfl, rfl⟩ (Nat.le_of_ble_eq_true rfl) ⟨Nat.le_of_ble_eq_true rfl, Nat.le_of_ble_eq_true rfl⟩ dX11_findNames_53 ?_
      refine g_icmp_le (tgt := 65) X dX11_findNames_56 (by decide) hf (fun hf => ?_) (fun hf => ?_)
      · refine g_aload_n X dX11_findNames_65 0 rfl ?_
        refine g_iload_n X dX11_findNames_66 3 rfl ?_
        refine m_bind hf (fun q3 hq3 hf => ?_)
        refine m_callV_i (As := [.int x3]) (st := []) X kV_502 (c_fitsName l dC dI E h r F S1 x3 q3 hq3) ⟨Nat.le_of_ble_eq_true rfl, Nat.le_of_ble_eq_true rfl⟩ ⟨rfl, rfl⟩ (Nat.le_of_ble_eq_true rfl) ⟨Nat.le_of_ble_eq_true rfl, Nat.le_of_ble_eq_true rfl⟩ dX11_findNames_67 ?_
        refine g_if_eq (tgt := 16) X dX11_findNames_70 (by decide) hf (fun hf => ?_) (fun hf => ?_)
        · exact ih _ _ hf
        refine g_iinc (lv' := [(3, .int (x3 + (1 : Int32))), (0, .ref h), (1, .int x1), (2, .int x2)]) X dX11_findNames_73 3 rfl kc_1 (by decide) rfl ?_
        refine g_aload_n X dX11_findNames_76 1 rfl ?_
        refine m_get_45 X dX11_findNames_77 ?_
        refine g_iload_n X dX11_findNames_80 0 rfl ?_
        refine g_iconst X dX11_findNames_81 kc_m1 ?_
        refine m_ast_45 X dX11_findNames_82 hf (fun S4 hf => ?_)
        refine g_goto (tgt := 16) X dX11_findNames_83 (by decide) ?_
        refine g_lv [1, 2, 3, 0] (lv' := [(0, .ref h), (1, .int x1), (2, .int x2), (3, .int (x3 + (1 : Int32)))]) rfl ?_
        exact ih _ _ hf
      exact hB59 _ _ _ ih _ _ hf
  refine g_lv [0, 1] (lv' := [(0, .ref h), (1, .int x1)]) rfl ?_
  unfold M_findNames at hf
  refine g_aload_n X dX11_findNames_0 0 rfl ?_
  refine m_get_3 X dX11_findNames_1 ?_
  refine g_iconst X dX11_findNames_4 kc_0 ?_
  refine m_aldc_3 X kt_0 kx_0_5476 dX11_findNames_5 ?_
  refine g_istore_n (i := 2) (lv' := [(2, .int (ma S 3 0)), (0, .ref h), (1, .int x1)]) X dX11_findNames_6 rfl (by decide) rfl ?_
  refine g_iconst X dX11_findNames_7 kc_0 ?_
  refine g_istore_n (i := 3) (lv' := [(3, .int (0 : Int32)), (2, .int (ma S 3 0)), (0, .ref h), (1, .int x1)]) X dX11_findNames_8 rfl (by decide) rfl ?_
  refine g_aload_n X dX11_findNames_9 2 rfl ?_
  refine m_get_45 X dX11_findNames_10 ?_
  refine g_iconst X dX11_findNames_13 kc_0 ?_
  refine g_iconst X dX11_findNames_14 kc_m1 ?_
  refine m_astc_45 X kt_0 kx_0_11 dX11_findNames_15 hf (fun S5 hf => ?_)
  refine g_lv [2, 3, 1, 0] (lv' := [(0, .ref h), (1, .int x1), (2, .int (ma S 3 0)), (3, .int (0 : Int32))]) rfl ?_
  exact hL16 _ _ _ _ _ hf
def rm_apart : Room := { frames := 4, cells := 0, slots := 0, locals := 90 }
set_option maxRecDepth 100000 in
set_option maxHeartbeats 4000000 in
theorem c_apart (l : Launch) (dC : Nat → ClassId) (dI : Nat → Nat → Nat) (E : Nat → ClassId) (h : Nat) (r : Nat → Nat) (F : Nat) (S : MS) (x1 : Int32) (res : Int32 × MS) (hf : M_apart F S x1 = some res) : MC l dC dI E yX11_apart cX11_apart 3 (some .int) rm_apart [.ref h, .int x1] (MW E h r S) (MW E h r res.2) (some (.int res.1)) := by
  refine MC_of (own := "LostLanesModel") (by decide) rfl (Nat.le_of_ble_eq_true rfl) ?_
  intro p e s m args below meth c A Q X hr hlk hA hQ
  have hL25 : ∀ (x1 : Int32) (n : Nat) (S : MS) (x2 : Int32), M_apart_L25 F x1 n S x2 = some res → GG p l e rm_apart s m args below meth c dC dI A 3 0 0 Q (MW E h r S) 25 [(0, .ref h), (1, .int x1), (2, .int x2)] [] := by
    intro x1 n
    induction n with
    | zero => intro S x2 hf; have hf : (none : Option (Int32 × MS)) = some res := hf; cases hf
    | succ n ih =>
      intro S x2 hf
      rw [M_apart_L25] at hf
      refine g_aload_n X dX11_apart_25 0 rfl ?_
      refine g_iload_n X dX11_apart_26 2 rfl ?_
      refine m_bind hf (fun q1 hq1 hf => ?_)
      refine m_callV_i (As := [.int x2]) (st := []) X kV_505 (c_findNames l dC dI E h r F S x2 q1 hq1) ⟨Nat.le_of_ble_eq_true rfl, Nat.le_of_ble_eq_true rfl⟩ ⟨rfl, rfl⟩ (Nat.le_of_ble_eq_true rfl) ⟨Nat.le_of_ble_eq_true rfl, Nat.le_of_ble_eq_true rfl⟩ dX11_apart_27 ?_
      refine g_if_ne (tgt := 39) X dX11_apart_30 (by decide) hf (fun hf => ?_) (fun hf => ?_)
      · refine g_iload_n X dX11_apart_39 1 rfl ?_
        refine g_if_ne (tgt := 47) X dX11_apart_40 (by decide) hf (fun hf => ?_) (fun hf => ?_)
        · refine g_aload_n X dX11_apart_47 0 rfl ?_
          refine m_get_45 X dX11_apart_48 ?_
          refine g_iload_n X dX11_apart_51 1 rfl ?_
          refine g_iconst X dX11_apart_52 kc_1 ?_
          refine g_isub X dX11_apart_53 ?_
          refine m_ald_45 X dX11_apart_54 hf (fun hf => ?_)
          exact m_reti_s hA hQ X hr hlk dX11_apart_55 hf
        refine g_iload_n X dX11_apart_43 2 rfl ?_
        refine g_goto (tgt := 55) X dX11_apart_44 (by decide) ?_
        exact m_reti_s hA hQ X hr hlk dX11_apart_55 hf
      refine g_iinc (lv' := [(2, .int (x2 + (1 : Int32))), (0, .ref h), (1, .int x1)]) X dX11_apart_33 2 rfl kc_1 (by decide) rfl ?_
      refine g_goto (tgt := 25) X dX11_apart_36 (by decide) ?_
      refine g_lv [1, 2, 0] (lv' := [(0, .ref h), (1, .int x1), (2, .int (x2 + (1 : Int32)))]) rfl ?_
      exact ih _ _ hf
  refine g_lv [0, 1] (lv' := [(0, .ref h), (1, .int x1)]) rfl ?_
  unfold M_apart at hf
  refine g_aload_n X dX11_apart_0 0 rfl ?_
  refine g_iconst X dX11_apart_1 kc_0 ?_
  refine m_put_0 X dX11_apart_2 hf (fun S2 hf => ?_)
  refine g_iload_n X dX11_apart_5 1 rfl ?_
  refine g_i2l X dX11_apart_6 ?_
  refine g_lconst X dX11_apart_7 kl_0 ?_
  refine g_aload_n X dX11_apart_8 0 rfl ?_
  refine m_get_3 X dX11_apart_9 ?_
  refine g_iconst X dX11_apart_12 kc_0 ?_
  refine m_aldc_3 X kt_0 kx_0_5476 dX11_apart_13 ?_
  refine g_i2l X dX11_apart_14 ?_
  refine m_bind hf (fun q3 hq3 hf => ?_)
  refine m_callS_i (As := [.long (x1).toInt64, .long (0 : Int64), .long (ma S2 3 0).toInt64]) (st := []) X kS_179 (c_in l dC dI E h r S2 (x1).toInt64 (0 : Int64) (ma S2 3 0).toInt64 q3 hq3) ⟨Nat.le_of_ble_eq_true rfl, Nat.le_of_ble_eq_true rfl⟩ ⟨rfl, rfl⟩ (Nat.le_of_ble_eq_true rfl) ⟨Nat.le_of_ble_eq_true rfl, Nat.le_of_ble_eq_true rfl⟩ dX11_apart_15 ?_
  refine g_if_ne (tgt := 23) X dX11_apart_18 (by decide) hf (fun hf => ?_) (fun hf => ?_)
  · refine g_iconst X dX11_apart_23 kc_0 ?_
    refine g_istore_n (i := 2) (lv' := [(2, .int (0 : Int32)), (0, .ref h), (1, .int x1)]) X dX11_apart_24 rfl (by decide) rfl ?_
    refine g_lv [1, 2, 0] (lv' := [(0, .ref h), (1, .int x1), (2, .int (0 : Int32))]) rfl ?_
    exact hL25 _ _ _ _ hf
  refine g_iconst X dX11_apart_21 kc_m1 ?_
  exact m_reti_s hA hQ X hr hlk dX11_apart_22 hf
def rm_alike : Room := { frames := 2, cells := 0, slots := 0, locals := 44 }
set_option maxRecDepth 100000 in
set_option maxHeartbeats 4000000 in
theorem c_alike (l : Launch) (dC : Nat → ClassId) (dI : Nat → Nat → Nat) (E : Nat → ClassId) (h : Nat) (r : Nat → Nat) (F : Nat) (S : MS)  (res : Int32 × MS) (hf : M_alike F S = some res) : MC l dC dI E yX11_alike cX11_alike 4 (some .int) rm_alike [.ref h] (MW E h r S) (MW E h r res.2) (some (.int res.1)) := by
  refine MC_of (own := "LostLanesModel") (by decide) rfl (Nat.le_of_ble_eq_true rfl) ?_
  intro p e s m args below meth c A Q X hr hlk hA hQ
  have hB82 : ∀ (S : MS) (x2 : Int32) (k9 : Int32 → Int32 → Option (Int32 × MS)) (hk9 : ∀ (x1 : Int32) (x2 : Int32), k9 x1 x2 = some res → GG p l e rm_alike s m args below meth c dC dI A 4 0 0 Q (MW E h r S) 9 [(0, .ref h), (1, .int x1), (2, .int x2)] []) (k23 : Int32 → Int32 → Option (Int32 × MS)) (hk23 : ∀ (x1 : Int32) (x3 : Int32), k23 x1 x3 = some res → GG p l e rm_alike s m args below meth c dC dI A 4 0 0 Q (MW E h r S) 23 [(0, .ref h), (1, .int x1), (2, .int x2), (3, .int x3)] []) (x3 : Int32) (t0 : Int32) (t1 : Int32), M_alike_B82 F k9 k23 S x2 x3 t0 t1 = some res → GG p l e rm_alike s m args below meth c dC dI A 4 0 0 Q (MW E h r S) 82 [(0, .ref h), (2, .int x2), (3, .int x3)] [.int t1, .int t0] := by
    intro S x2 k9 hk9 k23 hk23 x3 t0 t1 hf
    unfold M_alike_B82 at hf
    refine g_iadd X dX11_alike_82 ?_
    refine g_istore_n (i := 1) (lv' := [(1, .int (t0 + t1)), (0, .ref h), (2, .int x2), (3, .int x3)]) X dX11_alike_83 rfl (by decide) rfl ?_
    refine g_iinc (lv' := [(3, .int (x3 + (1 : Int32))), (1, .int (t0 + t1)), (0, .ref h), (2, .int x2)]) X dX11_alike_84 3 rfl kc_1 (by decide) rfl ?_
    refine g_goto (tgt := 23) X dX11_alike_87 (by decide) ?_
    refine g_lv [2, 1, 3, 0] (lv' := [(0, .ref h), (1, .int (t0 + t1)), (2, .int x2), (3, .int (x3 + (1 : Int32)))]) rfl ?_
    exact hk23 _ _ hf
  have hB81 : ∀ (S : MS) (x2 : Int32) (k9 : Int32 → Int32 → Option (Int32 × MS)) (hk9 : ∀ (x1 : Int32) (x2 : Int32), k9 x1 x2 = some res → GG p l e rm_alike s m args below meth c dC dI A 4 0 0 Q (MW E h r S) 9 [(0, .ref h), (1, .int x1), (2, .int x2)] []) (k23 : Int32 → Int32 → Option (Int32 × MS)) (hk23 : ∀ (x1 : Int32) (x3 : Int32), k23 x1 x3 = some res → GG p l e rm_alike s m args below meth c dC dI A 4 0 0 Q (MW E h r S) 23 [(0, .ref h), (1, .int x1), (2, .int x2), (3, .int x3)] []) (x3 : Int32) (t0 : Int32), M_alike_B81 F k9 k23 S x2 x3 t0 = some res → GG p l e rm_alike s m args below meth c dC dI A 4 0 0 Q (MW E h r S) 81 [(0, .ref h), (2, .int x2), (3, .int x3)] [.int t0] := by
    intro S x2 k9 hk9 k23 hk23 x3 t0 hf
    unfold M_alike_B81 at hf
    refine g_iconst X dX11_alike_81 kc_0 ?_
    exact hB82 _ _ _ hk9 _ hk23 _ _ _ hf
  have hL23 : ∀ (S : MS) (k9 : Int32 → Int32 → Option (Int32 × MS)) (hk9 : ∀ (x1 : Int32) (x2 : Int32), k9 x1 x2 = some res → GG p l e rm_alike s m args below meth c dC dI A 4 0 0 Q (MW E h r S) 9 [(0, .ref h), (1, .int x1), (2, .int x2)] []) (x2 : Int32) (n : Nat) (x1 : Int32) (x3 : Int32), M_alike_L23 F k9 S x2 n x1 x3 = some res → GG p l e rm_alike s m args below meth c dC dI A 4 0 0 Q (MW E h r S) 23 [(0, .ref h), (1, .int x1), (2, .int x2), (3, .int x3)] [] := by
    intro S k9 hk9 x2 n
    induction n with
    | zero => intro x1 x3 hf; have hf : (none : Option (Int32 × MS)) = some res := hf; cases hf
    | succ n ih =>
      intro x1 x3 hf
      rw [M_alike_L23] at hf
      refine g_iload_n X dX11_alike_23 3 rfl ?_
      refine g_aload_n X dX11_alike_24 0 rfl ?_
      refine m_get_3 X dX11_alike_25 ?_
      refine g_iconst X dX11_alike_28 kc_0 ?_
      refine m_aldc_3 X kt_0 kx_0_5476 dX11_alike_29 ?_
      refine g_icmp_ge (tgt := 90) X dX11_alike_30 (by decide) hf (fun hf => ?_) (fun hf => ?_)
      · refine g_iinc (lv' := [(2, .int (x2 + (1 : Int32))), (0, .ref h), (1, .int x1), (3, .int x3)]) X dX11_alike_90 2 rfl kc_1 (by decide) rfl ?_
        refine g_goto (tgt := 9) X dX11_alike_93 (by decide) ?_
        refine g_lv [1, 2, 0] (lv' := [(0, .ref h), (1, .int x1), (2, .int (x2 + (1 : Int32)))]) rfl ?_
        exact hk9 _ _ hf
      refine g_iload_n X dX11_alike_33 1 rfl ?_
      refine g_aload_n X dX11_alike_34 0 rfl ?_
      refine m_get_3 X dX11_alike_35 ?_
      refine g_bipush X dX11_alike_38 kb_8 ?_
      refine g_iload_n X dX11_alike_40 2 rfl ?_
      refine g_iadd X dX11_alike_41 ?_
      refine m_ald_3 X dX11_alike_42 hf (fun hf => ?_)
      refine g_iconst X dX11_alike_43 kc_m1 ?_
      refine g_icmp_eq (tgt := 81) X dX11_alike_44 (by decide) hf (fun hf => ?_) (fun hf => ?_)
      · refine g_lv [0, 2, 3] (lv' := [(0, .ref h), (2, .int x2), (3, .int x3)]) rfl ?_
        exact hB81 _ _ _ hk9 _ ih _ _ hf
      refine g_aload_n X dX11_alike_47 0 rfl ?_
      refine m_get_3 X dX11_alike_48 ?_
      refine g_bipush X dX11_alike_51 kb_8 ?_
      refine g_iload_n X dX11_alike_53 2 rfl ?_
      refine g_iadd X dX11_alike_54 ?_
      refine m_ald_3 X dX11_alike_55 hf (fun hf => ?_)
      refine g_aload_n X dX11_alike_56 0 rfl ?_
      refine m_get_3 X dX11_alike_57 ?_
      refine g_bipush X dX11_alike_60 kb_8 ?_
      refine g_iload_n X dX11_alike_62 3 rfl ?_
      refine g_iadd X dX11_alike_63 ?_
      refine m_ald_3 X dX11_alike_64 hf (fun hf => ?_)
      refine g_icmp_ne (tgt := 81) X dX11_alike_65 (by decide) hf (fun hf => ?_) (fun hf => ?_)
      · refine g_lv [0, 2, 3] (lv' := [(0, .ref h), (2, .int x2), (3, .int x3)]) rfl ?_
        exact hB81 _ _ _ hk9 _ ih _ _ hf
      refine g_aload_n X dX11_alike_68 0 rfl ?_
      refine g_iload_n X dX11_alike_69 2 rfl ?_
      refine g_iload_n X dX11_alike_70 3 rfl ?_
      refine m_bind hf (fun q1 hq1 hf => ?_)
      refine m_callV_i (As := [.int x2, .int x3]) (st := [.int x1]) X kV_496 (c_haveCorner l dC dI E h r S x2 x3 q1 hq1) ⟨Nat.le_of_ble_eq_true rfl, Nat.le_of_ble_eq_true rfl⟩ ⟨rfl, rfl⟩ (Nat.le_of_ble_eq_true rfl) ⟨Nat.le_of_ble_eq_true rfl, Nat.le_of_ble_eq_true rfl⟩ dX11_alike_71 ?_
      refine g_if_eq (tgt := 81) X dX11_alike_74 (by decide) hf (fun hf => ?_) (fun hf => ?_)
      · refine g_lv [0, 2, 3] (lv' := [(0, .ref h), (2, .int x2), (3, .int x3)]) rfl ?_
        exact hB81 _ _ _ hk9 _ ih _ _ hf
      refine g_iconst X dX11_alike_77 kc_1 ?_
      refine g_goto (tgt := 82) X dX11_alike_78 (by decide) ?_
      refine g_lv [0, 2, 3] (lv' := [(0, .ref h), (2, .int x2), (3, .int x3)]) rfl ?_
      exact hB82 _ _ _ hk9 _ ih _ _ _ hf
  have hL9 : ∀ (S : MS) (n : Nat) (x1 : Int32) (x2 : Int32), M_alike_L9 F S n x1 x2 = some res → GG p l e rm_alike s m args below meth c dC dI A 4 0 0 Q (MW E h r S) 9 [(0, .ref h), (1, .int x1), (2, .int x2)] [] := by
    intro S n
    induction n with
    | zero => intro x1 x2 hf; have hf : (none : Option (Int32 × MS)) = some res := hf; cases hf
    | succ n ih =>
      intro x1 x2 hf
      rw [M_alike_L9] at hf
      refine g_iload_n X dX11_alike_9 2 rfl ?_
      refine g_aload_n X dX11_alike_10 0 rfl ?_
      refine m_get_3 X dX11_alike_11 ?_
      refine g_iconst X dX11_alike_14 kc_0 ?_
      refine m_aldc_3 X kt_0 kx_0_5476 dX11_alike_15 ?_
      refine g_icmp_ge (tgt := 96) X dX11_alike_16 (by decide) hf (fun hf => ?_) (fun hf => ?_)
      · refine g_iload_n X dX11_alike_96 1 rfl ?_
        exact m_reti_s hA hQ X hr hlk dX11_alike_97 hf
      refine g_iload_n X dX11_alike_19 2 rfl ?_
      refine g_iconst X dX11_alike_20 kc_1 ?_
      refine g_iadd X dX11_alike_21 ?_
      refine g_istore_n (i := 3) (lv' := [(3, .int (x2 + (1 : Int32))), (0, .ref h), (1, .int x1), (2, .int x2)]) X dX11_alike_22 rfl (by decide) rfl ?_
      refine g_lv [1, 2, 3, 0] (lv' := [(0, .ref h), (1, .int x1), (2, .int x2), (3, .int (x2 + (1 : Int32)))]) rfl ?_
      exact hL23 _ _ ih _ _ _ _ hf
  refine g_lv [0] (lv' := [(0, .ref h)]) rfl ?_
  unfold M_alike at hf
  refine g_aload_n X dX11_alike_0 0 rfl ?_
  refine g_iconst X dX11_alike_1 kc_0 ?_
  refine m_put_0 X dX11_alike_2 hf (fun S2 hf => ?_)
  refine g_iconst X dX11_alike_5 kc_0 ?_
  refine g_istore_n (i := 1) (lv' := [(1, .int (0 : Int32)), (0, .ref h)]) X dX11_alike_6 rfl (by decide) rfl ?_
  refine g_iconst X dX11_alike_7 kc_0 ?_
  refine g_istore_n (i := 2) (lv' := [(2, .int (0 : Int32)), (1, .int (0 : Int32)), (0, .ref h)]) X dX11_alike_8 rfl (by decide) rfl ?_
  refine g_lv [2, 1, 0] (lv' := [(0, .ref h), (1, .int (0 : Int32)), (2, .int (0 : Int32))]) rfl ?_
  exact hL9 _ _ _ _ hf
def rm_layPaired : Room := { frames := 1, cells := 0, slots := 0, locals := 22 }
set_option maxRecDepth 100000 in
set_option maxHeartbeats 4000000 in
theorem c_layPaired (l : Launch) (dC : Nat → ClassId) (dI : Nat → Nat → Nat) (E : Nat → ClassId) (h : Nat) (r : Nat → Nat) (F : Nat) (S : MS)  (res : Unit × MS) (hf : M_layPaired F S = some res) : MC l dC dI E yX11_layPaired cX11_layPaired 5 none rm_layPaired [.ref h] (MW E h r S) (MW E h r res.2) none := by
  refine MC_of (own := "LostLanesModel") (by decide) rfl (Nat.le_of_ble_eq_true rfl) ?_
  intro p e s m args below meth c A Q X hr hlk hA hQ
  have hB124 : ∀ (x1 : Int32) (x2 : Int32) (k2 : MS → Int32 → Option (Unit × MS)) (hk2 : ∀ (S : MS) (x1 : Int32), k2 S x1 = some res → GG p l e rm_layPaired s m args below meth c dC dI A 5 0 0 Q (MW E h r S) 2 [(0, .ref h), (1, .int x1)] []) (k28 : MS → Int32 → Option (Unit × MS)) (hk28 : ∀ (S : MS) (x2 : Int32), k28 S x2 = some res → GG p l e rm_layPaired s m args below meth c dC dI A 5 0 0 Q (MW E h r S) 28 [(0, .ref h), (1, .int x1), (2, .int x2)] []) (k36 : MS → Int32 → Option (Unit × MS)) (hk36 : ∀ (S : MS) (x3 : Int32), k36 S x3 = some res → GG p l e rm_layPaired s m args below meth c dC dI A 5 0 0 Q (MW E h r S) 36 [(0, .ref h), (1, .int x1), (2, .int x2), (3, .int x3)] []) (S : MS) (x3 : Int32), M_layPaired_B124 F k2 k28 k36 S x1 x2 x3 = some res → GG p l e rm_layPaired s m args below meth c dC dI A 5 0 0 Q (MW E h r S) 124 [(0, .ref h), (1, .int x1), (2, .int x2), (3, .int x3)] [] := by
    intro x1 x2 k2 hk2 k28 hk28 k36 hk36 S x3 hf
    unfold M_layPaired_B124 at hf
    refine g_iinc (lv' := [(3, .int (x3 + (1 : Int32))), (0, .ref h), (1, .int x1), (2, .int x2)]) X dX11_layPaired_124 3 rfl kc_1 (by decide) rfl ?_
    refine g_goto (tgt := 36) X dX11_layPaired_127 (by decide) ?_
    refine g_lv [1, 2, 3, 0] (lv' := [(0, .ref h), (1, .int x1), (2, .int x2), (3, .int (x3 + (1 : Int32)))]) rfl ?_
    exact hk36 _ _ hf
  have hB123 : ∀ (x1 : Int32) (x2 : Int32) (k2 : MS → Int32 → Option (Unit × MS)) (hk2 : ∀ (S : MS) (x1 : Int32), k2 S x1 = some res → GG p l e rm_layPaired s m args below meth c dC dI A 5 0 0 Q (MW E h r S) 2 [(0, .ref h), (1, .int x1)] []) (k28 : MS → Int32 → Option (Unit × MS)) (hk28 : ∀ (S : MS) (x2 : Int32), k28 S x2 = some res → GG p l e rm_layPaired s m args below meth c dC dI A 5 0 0 Q (MW E h r S) 28 [(0, .ref h), (1, .int x1), (2, .int x2)] []) (k36 : MS → Int32 → Option (Unit × MS)) (hk36 : ∀ (S : MS) (x3 : Int32), k36 S x3 = some res → GG p l e rm_layPaired s m args below meth c dC dI A 5 0 0 Q (MW E h r S) 36 [(0, .ref h), (1, .int x1), (2, .int x2), (3, .int x3)] []) (S : MS) (x3 : Int32) (t1 : Int32) (t2 : Int32), M_layPaired_B123 F k2 k28 k36 S x1 x2 x3 t1 t2 = some res → GG p l e rm_layPaired s m args below meth c dC dI A 5 0 0 Q (MW E h r S) 123 [(0, .ref h), (1, .int x1), (2, .int x2), (3, .int x3)] [.int t2, .int t1, .ref (r 46)] := by
    intro x1 x2 k2 hk2 k28 hk28 k36 hk36 S x3 t1 t2 hf
    unfold M_layPaired_B123 at hf
    refine m_ast_46 X dX11_layPaired_123 hf (fun S1 hf => ?_)
    exact hB124 _ _ _ hk2 _ hk28 _ hk36 _ _ hf
  have hL36 : ∀ (x1 : Int32) (k2 : MS → Int32 → Option (Unit × MS)) (hk2 : ∀ (S : MS) (x1 : Int32), k2 S x1 = some res → GG p l e rm_layPaired s m args below meth c dC dI A 5 0 0 Q (MW E h r S) 2 [(0, .ref h), (1, .int x1)] []) (k28 : MS → Int32 → Option (Unit × MS)) (hk28 : ∀ (S : MS) (x2 : Int32), k28 S x2 = some res → GG p l e rm_layPaired s m args below meth c dC dI A 5 0 0 Q (MW E h r S) 28 [(0, .ref h), (1, .int x1), (2, .int x2)] []) (x2 : Int32) (n : Nat) (S : MS) (x3 : Int32), M_layPaired_L36 F k2 k28 x1 x2 n S x3 = some res → GG p l e rm_layPaired s m args below meth c dC dI A 5 0 0 Q (MW E h r S) 36 [(0, .ref h), (1, .int x1), (2, .int x2), (3, .int x3)] [] := by
    intro x1 k2 hk2 k28 hk28 x2 n
    induction n with
    | zero => intro S x3 hf; have hf : (none : Option (Unit × MS)) = some res := hf; cases hf
    | succ n ih =>
      intro S x3 hf
      rw [M_layPaired_L36] at hf
      refine g_iload_n X dX11_layPaired_36 3 rfl ?_
      refine g_iload_n X dX11_layPaired_37 2 rfl ?_
      refine g_icmp_ge (tgt := 130) X dX11_layPaired_38 (by decide) hf (fun hf => ?_) (fun hf => ?_)
      · refine g_iinc (lv' := [(2, .int (x2 + (1 : Int32))), (0, .ref h), (1, .int x1), (3, .int x3)]) X dX11_layPaired_130 2 rfl kc_1 (by decide) rfl ?_
        refine g_goto (tgt := 28) X dX11_layPaired_133 (by decide) ?_
        refine g_lv [1, 2, 0] (lv' := [(0, .ref h), (1, .int x1), (2, .int (x2 + (1 : Int32)))]) rfl ?_
        exact hk28 _ _ hf
      refine g_iload_n X dX11_layPaired_41 1 rfl ?_
      refine g_iload_n X dX11_layPaired_42 2 rfl ?_
      refine m_bind hf (fun q2 hq2 hf => ?_)
      refine m_callS_i (As := [.int x1, .int x2]) (st := []) X kS_472 (c_is l dC dI E h r S x1 x2 q2 hq2) ⟨Nat.le_of_ble_eq_true rfl, Nat.le_of_ble_eq_true rfl⟩ ⟨rfl, rfl⟩ (Nat.le_of_ble_eq_true rfl) ⟨Nat.le_of_ble_eq_true rfl, Nat.le_of_ble_eq_true rfl⟩ dX11_layPaired_43 ?_
      refine g_if_eq (tgt := 124) X dX11_layPaired_46 (by decide) hf (fun hf => ?_) (fun hf => ?_)
      · exact hB124 _ _ _ hk2 _ hk28 _ ih _ _ hf
      refine g_iload_n X dX11_layPaired_49 1 rfl ?_
      refine g_iload_n X dX11_layPaired_50 3 rfl ?_
      refine m_bind hf (fun q3 hq3 hf => ?_)
      refine m_callS_i (As := [.int x1, .int x3]) (st := []) X kS_472 (c_is l dC dI E h r S x1 x3 q3 hq3) ⟨Nat.le_of_ble_eq_true rfl, Nat.le_of_ble_eq_true rfl⟩ ⟨rfl, rfl⟩ (Nat.le_of_ble_eq_true rfl) ⟨Nat.le_of_ble_eq_true rfl, Nat.le_of_ble_eq_true rfl⟩ dX11_layPaired_51 ?_
      refine g_if_eq (tgt := 124) X dX11_layPaired_54 (by decide) hf (fun hf => ?_) (fun hf => ?_)
      · exact hB124 _ _ _ hk2 _ hk28 _ ih _ _ hf
      refine g_aload_n X dX11_layPaired_57 0 rfl ?_
      refine g_iload_n X dX11_layPaired_58 2 rfl ?_
      refine g_iload_n X dX11_layPaired_59 3 rfl ?_
      refine m_bind hf (fun q4 hq4 hf => ?_)
      refine m_callV_i (As := [.int x2, .int x3]) (st := []) X kV_463 (c_farOf l dC dI E h r S x2 x3 q4 hq4) ⟨Nat.le_of_ble_eq_true rfl, Nat.le_of_ble_eq_true rfl⟩ ⟨rfl, rfl⟩ (Nat.le_of_ble_eq_true rfl) ⟨Nat.le_of_ble_eq_true rfl, Nat.le_of_ble_eq_true rfl⟩ dX11_layPaired_60 ?_
      refine g_ldcw X dX11_layPaired_63 wd7_183 ?_
      refine g_icmp_ge (tgt := 124) X dX11_layPaired_66 (by decide) hf (fun hf => ?_) (fun hf => ?_)
      · exact hB124 _ _ _ hk2 _ hk28 _ ih _ _ hf
      refine g_aload_n X dX11_layPaired_69 0 rfl ?_
      refine m_get_46 X dX11_layPaired_70 ?_
      refine g_iload_n X dX11_layPaired_73 1 rfl ?_
      refine g_iconst X dX11_layPaired_74 kc_1 ?_
      refine g_iload_n X dX11_layPaired_75 2 rfl ?_
      refine g_ishl X dX11_layPaired_76 ?_
      refine g_iconst X dX11_layPaired_77 kc_m1 ?_
      refine g_ixor X dX11_layPaired_78 ?_
      refine g_iand X dX11_layPaired_79 ?_
      refine g_iconst X dX11_layPaired_80 kc_1 ?_
      refine g_iload_n X dX11_layPaired_81 3 rfl ?_
      refine g_ishl X dX11_layPaired_82 ?_
      refine g_iconst X dX11_layPaired_83 kc_m1 ?_
      refine g_ixor X dX11_layPaired_84 ?_
      refine g_iand X dX11_layPaired_85 ?_
      refine m_ald_46 X dX11_layPaired_86 hf (fun hf => ?_)
      refine g_aload_n X dX11_layPaired_87 0 rfl ?_
      refine g_iload_n X dX11_layPaired_88 2 rfl ?_
      refine g_iload_n X dX11_layPaired_89 3 rfl ?_
      refine m_bind hf (fun q5 hq5 hf => ?_)
      refine m_callV_i (As := [.int x2, .int x3]) (st := [.int (ma S 46 (((x1 &&& (((1 : Int32) <<< (x2 &&& 31)) ^^^ (-1 : Int32))) &&& (((1 : Int32) <<< (x3 &&& 31)) ^^^ (-1 : Int32)))).toNatClampNeg)]) X kV_463 (c_farOf l dC dI E h r S x2 x3 q5 hq5) ⟨Nat.le_of_ble_eq_true rfl, Nat.le_of_ble_eq_true rfl⟩ ⟨rfl, rfl⟩ (Nat.le_of_ble_eq_true rfl) ⟨Nat.le_of_ble_eq_true rfl, Nat.le_of_ble_eq_true rfl⟩ dX11_layPaired_90 ?_
      refine g_iadd X dX11_layPaired_93 ?_
      refine g_istore (lv' := [(4, .int ((ma S 46 (((x1 &&& (((1 : Int32) <<< (x2 &&& 31)) ^^^ (-1 : Int32))) &&& (((1 : Int32) <<< (x3 &&& 31)) ^^^ (-1 : Int32)))).toNatClampNeg) + q5)), (0, .ref h), (1, .int x1), (2, .int x2), (3, .int x3)]) X dX11_layPaired_94 (by decide) rfl ?_
      refine g_aload_n X dX11_layPaired_96 1 rfl ?_
      refine m_get_46 X dX11_layPaired_97 ?_
      refine g_iload_n X dX11_layPaired_100 2 rfl ?_
      refine g_iload X dX11_layPaired_101 0 rfl ?_
      refine g_aload_n X dX11_layPaired_103 1 rfl ?_
      refine m_get_46 X dX11_layPaired_104 ?_
      refine g_iload_n X dX11_layPaired_107 2 rfl ?_
      refine m_ald_46 X dX11_layPaired_108 hf (fun hf => ?_)
      refine g_icmp_ge (tgt := 117) X dX11_layPaired_109 (by decide) hf (fun hf => ?_) (fun hf => ?_)
      · refine g_aload_n X dX11_layPaired_117 1 rfl ?_
        refine m_get_46 X dX11_layPaired_118 ?_
        refine g_iload_n X dX11_layPaired_121 2 rfl ?_
        refine m_ald_46 X dX11_layPaired_122 hf (fun hf => ?_)
        refine g_lv [1, 2, 3, 4] (lv' := [(0, .ref h), (1, .int x1), (2, .int x2), (3, .int x3)]) rfl ?_
        exact hB123 _ _ _ hk2 _ hk28 _ ih _ _ _ _ hf
      refine g_iload X dX11_layPaired_112 0 rfl ?_
      refine g_goto (tgt := 123) X dX11_layPaired_114 (by decide) ?_
      refine g_lv [1, 2, 3, 4] (lv' := [(0, .ref h), (1, .int x1), (2, .int x2), (3, .int x3)]) rfl ?_
      exact hB123 _ _ _ hk2 _ hk28 _ ih _ _ _ _ hf
  have hL28 : ∀ (k2 : MS → Int32 → Option (Unit × MS)) (hk2 : ∀ (S : MS) (x1 : Int32), k2 S x1 = some res → GG p l e rm_layPaired s m args below meth c dC dI A 5 0 0 Q (MW E h r S) 2 [(0, .ref h), (1, .int x1)] []) (x1 : Int32) (n : Nat) (S : MS) (x2 : Int32), M_layPaired_L28 F k2 x1 n S x2 = some res → GG p l e rm_layPaired s m args below meth c dC dI A 5 0 0 Q (MW E h r S) 28 [(0, .ref h), (1, .int x1), (2, .int x2)] [] := by
    intro k2 hk2 x1 n
    induction n with
    | zero => intro S x2 hf; have hf : (none : Option (Unit × MS)) = some res := hf; cases hf
    | succ n ih =>
      intro S x2 hf
      rw [M_layPaired_L28] at hf
      refine g_iload_n X dX11_layPaired_28 2 rfl ?_
      refine g_bipush X dX11_layPaired_29 kb_8 ?_
      refine g_icmp_ge (tgt := 136) X dX11_layPaired_31 (by decide) hf (fun hf => ?_) (fun hf => ?_)
      · refine g_iinc (lv' := [(1, .int (x1 + (1 : Int32))), (0, .ref h), (2, .int x2)]) X dX11_layPaired_136 1 rfl kc_1 (by decide) rfl ?_
        refine g_goto (tgt := 2) X dX11_layPaired_139 (by decide) ?_
        refine g_lv [1, 0] (lv' := [(0, .ref h), (1, .int (x1 + (1 : Int32)))]) rfl ?_
        exact hk2 _ _ hf
      refine g_iconst X dX11_layPaired_34 kc_0 ?_
      refine g_istore_n (i := 3) (lv' := [(3, .int (0 : Int32)), (0, .ref h), (1, .int x1), (2, .int x2)]) X dX11_layPaired_35 rfl (by decide) rfl ?_
      refine g_lv [1, 2, 3, 0] (lv' := [(0, .ref h), (1, .int x1), (2, .int x2), (3, .int (0 : Int32))]) rfl ?_
      exact hL36 _ _ hk2 _ ih _ _ _ _ hf
  have hB25 : ∀ (k2 : MS → Int32 → Option (Unit × MS)) (hk2 : ∀ (S : MS) (x1 : Int32), k2 S x1 = some res → GG p l e rm_layPaired s m args below meth c dC dI A 5 0 0 Q (MW E h r S) 2 [(0, .ref h), (1, .int x1)] []) (S : MS) (x1 : Int32) (t1 : Int32) (t2 : Int32), M_layPaired_B25 F k2 S x1 t1 t2 = some res → GG p l e rm_layPaired s m args below meth c dC dI A 5 0 0 Q (MW E h r S) 25 [(0, .ref h), (1, .int x1)] [.int t2, .int t1, .ref (r 46)] := by
    intro k2 hk2 S x1 t1 t2 hf
    unfold M_layPaired_B25 at hf
    refine m_ast_46 X dX11_layPaired_25 hf (fun S6 hf => ?_)
    refine g_iconst X dX11_layPaired_26 kc_0 ?_
    refine g_istore_n (i := 2) (lv' := [(2, .int (0 : Int32)), (0, .ref h), (1, .int x1)]) X dX11_layPaired_27 rfl (by decide) rfl ?_
    refine g_lv [1, 2, 0] (lv' := [(0, .ref h), (1, .int x1), (2, .int (0 : Int32))]) rfl ?_
    exact hL28 _ hk2 _ _ _ _ hf
  have hL2 : ∀  (n : Nat) (S : MS) (x1 : Int32), M_layPaired_L2 F n S x1 = some res → GG p l e rm_layPaired s m args below meth c dC dI A 5 0 0 Q (MW E h r S) 2 [(0, .ref h), (1, .int x1)] [] := by
    intro  n
    induction n with
    | zero => intro S x1 hf; have hf : (none : Option (Unit × MS)) = some res := hf; cases hf
    | succ n ih =>
      intro S x1 hf
      rw [M_layPaired_L2] at hf
      refine g_iload_n X dX11_layPaired_2 1 rfl ?_
      refine g_sipush X dX11_layPaired_3 ks_256 ?_
      refine g_icmp_ge (tgt := 142) X dX11_layPaired_6 (by decide) hf (fun hf => ?_) (fun hf => ?_)
      · exact m_retv_s hA hQ X hr hlk dX11_layPaired_142 hf
      refine g_aload_n X dX11_layPaired_9 0 rfl ?_
      refine m_get_46 X dX11_layPaired_10 ?_
      refine g_iload_n X dX11_layPaired_13 1 rfl ?_
      refine g_iload_n X dX11_layPaired_14 1 rfl ?_
      refine g_if_ne (tgt := 22) X dX11_layPaired_15 (by decide) hf (fun hf => ?_) (fun hf => ?_)
      · refine g_ldcw X dX11_layPaired_22 wd7_183 ?_
        exact hB25 _ ih _ _ _ _ hf
      refine g_iconst X dX11_layPaired_18 kc_0 ?_
      refine g_goto (tgt := 25) X dX11_layPaired_19 (by decide) ?_
      exact hB25 _ ih _ _ _ _ hf
  refine g_lv [0] (lv' := [(0, .ref h)]) rfl ?_
  unfold M_layPaired at hf
  refine g_iconst X dX11_layPaired_0 kc_0 ?_
  refine g_istore_n (i := 1) (lv' := [(1, .int (0 : Int32)), (0, .ref h)]) X dX11_layPaired_1 rfl (by decide) rfl ?_
  refine g_lv [1, 0] (lv' := [(0, .ref h), (1, .int (0 : Int32))]) rfl ?_
  exact hL2 _ _ _ hf
def rm_round : Room := { frames := 2, cells := 0, slots := 0, locals := 46 }
set_option maxRecDepth 100000 in
set_option maxHeartbeats 4000000 in
theorem c_round (l : Launch) (dC : Nat → ClassId) (dI : Nat → Nat → Nat) (E : Nat → ClassId) (h : Nat) (r : Nat → Nat) (F : Nat) (S : MS)  (res : Int32 × MS) (hf : M_round F S = some res) : MC l dC dI E yX11_round cX11_round 4 (some .int) rm_round [.ref h] (MW E h r S) (MW E h r res.2) (some (.int res.1)) := by
  refine MC_of (own := "LostLanesModel") (by decide) rfl (Nat.le_of_ble_eq_true rfl) ?_
  intro p e s m args below meth c A Q X hr hlk hA hQ
  have hL50 : ∀ (S : MS) (x1 : Int32) (n : Nat) (x2 : Int32) (x3 : Int32), M_round_L50 F S x1 n x2 x3 = some res → GG p l e rm_round s m args below meth c dC dI A 4 0 0 Q (MW E h r S) 50 [(0, .ref h), (1, .int x1), (2, .int x2), (3, .int x3)] [] := by
    intro S x1 n
    induction n with
    | zero => intro x2 x3 hf; have hf : (none : Option (Int32 × MS)) = some res := hf; cases hf
    | succ n ih =>
      intro x2 x3 hf
      rw [M_round_L50] at hf
      refine g_iload_n X dX11_round_50 3 rfl ?_
      refine g_aload_n X dX11_round_51 0 rfl ?_
      refine m_get_3 X dX11_round_52 ?_
      refine g_iconst X dX11_round_55 kc_0 ?_
      refine m_aldc_3 X kt_0 kx_0_5476 dX11_round_56 ?_
      refine g_icmp_ge (tgt := 106) X dX11_round_57 (by decide) hf (fun hf => ?_) (fun hf => ?_)
      · refine g_aload_n X dX11_round_106 0 rfl ?_
        refine m_bind hf (fun q1 hq1 hf => ?_)
        refine m_callV_v (As := []) (st := []) X kV_508 (c_layPaired l dC dI E h r F S q1 hq1) ⟨Nat.le_of_ble_eq_true rfl, Nat.le_of_ble_eq_true rfl⟩ ⟨rfl, rfl⟩ (Nat.le_of_ble_eq_true rfl) ⟨Nat.le_of_ble_eq_true rfl, Nat.le_of_ble_eq_true rfl⟩ dX11_round_107 ?_
        refine g_iload_n X dX11_round_110 2 rfl ?_
        refine g_aload_n X dX11_round_111 0 rfl ?_
        refine m_get_46 X dX11_round_112 ?_
        refine g_iload_n X dX11_round_115 1 rfl ?_
        refine m_ald_46 X dX11_round_116 hf (fun hf => ?_)
        refine g_iadd X dX11_round_117 ?_
        exact m_reti_s hA hQ X hr hlk dX11_round_118 hf
      refine g_iload_n X dX11_round_60 2 rfl ?_
      refine g_aload_n X dX11_round_61 0 rfl ?_
      refine m_get_3 X dX11_round_62 ?_
      refine g_bipush X dX11_round_65 kb_46 ?_
      refine g_iload_n X dX11_round_67 3 rfl ?_
      refine g_iadd X dX11_round_68 ?_
      refine m_ald_3 X dX11_round_69 hf (fun hf => ?_)
      refine g_iadd X dX11_round_70 ?_
      refine g_istore_n (i := 2) (lv' := [(2, .int (x2 + (ma S 3 (((46 : Int32) + x3)).toNatClampNeg))), (0, .ref h), (1, .int x1), (3, .int x3)]) X dX11_round_71 rfl (by decide) rfl ?_
      refine g_aload_n X dX11_round_72 1 rfl ?_
      refine g_aload_n X dX11_round_73 1 rfl ?_
      refine m_get_3 X dX11_round_74 ?_
      refine g_bipush X dX11_round_77 kb_26 ?_
      refine m_aldc_3 X kt_26 kx_26_5476 dX11_round_79 ?_
      refine g_aload_n X dX11_round_80 1 rfl ?_
      refine m_get_3 X dX11_round_81 ?_
      refine g_bipush X dX11_round_84 kb_26 ?_
      refine g_iload_n X dX11_round_86 3 rfl ?_
      refine g_iadd X dX11_round_87 ?_
      refine m_ald_3 X dX11_round_88 hf (fun hf => ?_)
      refine m_bind hf (fun q2 hq2 hf => ?_)
      refine m_callV_i (As := [.int (ma S 3 26), .int (ma S 3 (((26 : Int32) + x3)).toNatClampNeg)]) (st := []) X kV_463 (c_farOf l dC dI E h r S (ma S 3 26) (ma S 3 (((26 : Int32) + x3)).toNatClampNeg) q2 hq2) ⟨Nat.le_of_ble_eq_true rfl, Nat.le_of_ble_eq_true rfl⟩ ⟨rfl, rfl⟩ (Nat.le_of_ble_eq_true rfl) ⟨Nat.le_of_ble_eq_true rfl, Nat.le_of_ble_eq_true rfl⟩ dX11_round_89 ?_
      refine g_ldcw X dX11_round_92 wd7_183 ?_
      refine g_icmp_ne (tgt := 100) X dX11_round_95 (by decide) hf (fun hf => ?_) (fun hf => ?_)
      · refine g_iinc (lv' := [(3, .int (x3 + (1 : Int32))), (2, .int (x2 + (ma S 3 (((46 : Int32) + x3)).toNatClampNeg))), (0, .ref h), (1, .int x1)]) X dX11_round_100 3 rfl kc_1 (by decide) rfl ?_
        refine g_goto (tgt := 50) X dX11_round_103 (by decide) ?_
        refine g_lv [2, 3, 1, 0] (lv' := [(0, .ref h), (1, .int x1), (2, .int (x2 + (ma S 3 (((46 : Int32) + x3)).toNatClampNeg))), (3, .int (x3 + (1 : Int32)))]) rfl ?_
        exact ih _ _ hf
      refine g_iconst X dX11_round_98 kc_m1 ?_
      exact m_reti_s hA hQ X hr hlk dX11_round_99 hf
  have hB40 : ∀ (S : MS) (x2 : Int32) (k15 : Int32 → Int32 → Option (Int32 × MS)) (hk15 : ∀ (x1 : Int32) (x3 : Int32), k15 x1 x3 = some res → GG p l e rm_round s m args below meth c dC dI A 4 0 0 Q (MW E h r S) 15 [(0, .ref h), (1, .int x1), (2, .int x2), (3, .int x3)] []) (x3 : Int32) (t0 : Int32) (t1 : Int32), M_round_B40 F k15 S x2 x3 t0 t1 = some res → GG p l e rm_round s m args below meth c dC dI A 4 0 0 Q (MW E h r S) 40 [(0, .ref h), (2, .int x2), (3, .int x3)] [.int t1, .int t0] := by
    intro S x2 k15 hk15 x3 t0 t1 hf
    unfold M_round_B40 at hf
    refine g_ior X dX11_round_40 ?_
    refine g_istore_n (i := 1) (lv' := [(1, .int (t0 ||| t1)), (0, .ref h), (2, .int x2), (3, .int x3)]) X dX11_round_41 rfl (by decide) rfl ?_
    refine g_iinc (lv' := [(3, .int (x3 + (1 : Int32))), (1, .int (t0 ||| t1)), (0, .ref h), (2, .int x2)]) X dX11_round_42 3 rfl kc_1 (by decide) rfl ?_
    refine g_goto (tgt := 15) X dX11_round_45 (by decide) ?_
    refine g_lv [2, 1, 3, 0] (lv' := [(0, .ref h), (1, .int (t0 ||| t1)), (2, .int x2), (3, .int (x3 + (1 : Int32)))]) rfl ?_
    exact hk15 _ _ hf
  have hL15 : ∀ (S : MS) (x2 : Int32) (n : Nat) (x1 : Int32) (x3 : Int32), M_round_L15 F S x2 n x1 x3 = some res → GG p l e rm_round s m args below meth c dC dI A 4 0 0 Q (MW E h r S) 15 [(0, .ref h), (1, .int x1), (2, .int x2), (3, .int x3)] [] := by
    intro S x2 n
    induction n with
    | zero => intro x1 x3 hf; have hf : (none : Option (Int32 × MS)) = some res := hf; cases hf
    | succ n ih =>
      intro x1 x3 hf
      rw [M_round_L15] at hf
      refine g_iload_n X dX11_round_15 3 rfl ?_
      refine g_bipush X dX11_round_16 kb_8 ?_
      refine g_icmp_ge (tgt := 48) X dX11_round_18 (by decide) hf (fun hf => ?_) (fun hf => ?_)
      · refine g_iconst X dX11_round_48 kc_0 ?_
        refine g_istore_n (i := 3) (lv' := [(3, .int (0 : Int32)), (0, .ref h), (1, .int x1), (2, .int x2)]) X dX11_round_49 rfl (by decide) rfl ?_
        refine g_lv [1, 2, 3, 0] (lv' := [(0, .ref h), (1, .int x1), (2, .int x2), (3, .int (0 : Int32))]) rfl ?_
        exact hL50 _ _ _ _ _ hf
      refine g_iload_n X dX11_round_21 1 rfl ?_
      refine g_aload_n X dX11_round_22 0 rfl ?_
      refine g_iload_n X dX11_round_23 3 rfl ?_
      refine m_bind hf (fun q3 hq3 hf => ?_)
      refine m_callV_i (As := [.int x3]) (st := [.int x1]) X kV_469 (c_laneEnds l dC dI E h r F S x3 q3 hq3) ⟨Nat.le_of_ble_eq_true rfl, Nat.le_of_ble_eq_true rfl⟩ ⟨rfl, rfl⟩ (Nat.le_of_ble_eq_true rfl) ⟨Nat.le_of_ble_eq_true rfl, Nat.le_of_ble_eq_true rfl⟩ dX11_round_24 ?_
      refine g_iconst X dX11_round_27 kc_2 ?_
      refine g_irem X dX11_round_28 (by decide) ?_
      refine g_iconst X dX11_round_29 kc_1 ?_
      refine g_icmp_ne (tgt := 39) X dX11_round_30 (by decide) hf (fun hf => ?_) (fun hf => ?_)
      · refine g_iconst X dX11_round_39 kc_0 ?_
        refine g_lv [0, 2, 3] (lv' := [(0, .ref h), (2, .int x2), (3, .int x3)]) rfl ?_
        exact hB40 _ _ _ ih _ _ _ hf
      refine g_iconst X dX11_round_33 kc_1 ?_
      refine g_iload_n X dX11_round_34 3 rfl ?_
      refine g_ishl X dX11_round_35 ?_
      refine g_goto (tgt := 40) X dX11_round_36 (by decide) ?_
      refine g_lv [0, 2, 3] (lv' := [(0, .ref h), (2, .int x2), (3, .int x3)]) rfl ?_
      exact hB40 _ _ _ ih _ _ _ hf
  refine g_lv [0] (lv' := [(0, .ref h)]) rfl ?_
  unfold M_round at hf
  refine g_aload_n X dX11_round_0 0 rfl ?_
  refine g_iconst X dX11_round_1 kc_0 ?_
  refine m_put_0 X dX11_round_2 hf (fun S4 hf => ?_)
  refine g_aload_n X dX11_round_5 0 rfl ?_
  refine m_bind hf (fun q5 hq5 hf => ?_)
  refine m_callV_v (As := []) (st := []) X kV_460 (c_layFar l dC dI E h r F S4 q5 hq5) ⟨Nat.le_of_ble_eq_true rfl, Nat.le_of_ble_eq_true rfl⟩ ⟨rfl, rfl⟩ (Nat.le_of_ble_eq_true rfl) ⟨Nat.le_of_ble_eq_true rfl, Nat.le_of_ble_eq_true rfl⟩ dX11_round_6 ?_
  refine g_iconst X dX11_round_9 kc_0 ?_
  refine g_istore_n (i := 1) (lv' := [(1, .int (0 : Int32)), (0, .ref h)]) X dX11_round_10 rfl (by decide) rfl ?_
  refine g_iconst X dX11_round_11 kc_0 ?_
  refine g_istore_n (i := 2) (lv' := [(2, .int (0 : Int32)), (1, .int (0 : Int32)), (0, .ref h)]) X dX11_round_12 rfl (by decide) rfl ?_
  refine g_iconst X dX11_round_13 kc_0 ?_
  refine g_istore_n (i := 3) (lv' := [(3, .int (0 : Int32)), (2, .int (0 : Int32)), (1, .int (0 : Int32)), (0, .ref h)]) X dX11_round_14 rfl (by decide) rfl ?_
  refine g_lv [3, 2, 1, 0] (lv' := [(0, .ref h), (1, .int (0 : Int32)), (2, .int (0 : Int32)), (3, .int (0 : Int32))]) rfl ?_
  exact hL15 _ _ _ _ _ hf
def rm_dead : Room := { frames := 2, cells := 0, slots := 0, locals := 45 }
set_option maxRecDepth 100000 in
set_option maxHeartbeats 4000000 in
theorem c_dead (l : Launch) (dC : Nat → ClassId) (dI : Nat → Nat → Nat) (E : Nat → ClassId) (h : Nat) (r : Nat → Nat) (F : Nat) (S : MS)  (res : Int32 × MS) (hf : M_dead F S = some res) : MC l dC dI E yX11_dead cX11_dead 3 (some .int) rm_dead [.ref h] (MW E h r S) (MW E h r res.2) (some (.int res.1)) := by
  refine MC_of (own := "LostLanesModel") (by decide) rfl (Nat.le_of_ble_eq_true rfl) ?_
  intro p e s m args below meth c A Q X hr hlk hA hQ
  have hB32 : ∀ (S : MS) (k9 : Int32 → Int32 → Option (Int32 × MS)) (hk9 : ∀ (x1 : Int32) (x2 : Int32), k9 x1 x2 = some res → GG p l e rm_dead s m args below meth c dC dI A 3 0 0 Q (MW E h r S) 9 [(0, .ref h), (1, .int x1), (2, .int x2)] []) (x2 : Int32) (t0 : Int32) (t1 : Int32), M_dead_B32 F k9 S x2 t0 t1 = some res → GG p l e rm_dead s m args below meth c dC dI A 3 0 0 Q (MW E h r S) 32 [(0, .ref h), (2, .int x2)] [.int t1, .int t0] := by
    intro S k9 hk9 x2 t0 t1 hf
    unfold M_dead_B32 at hf
    refine g_ior X dX11_dead_32 ?_
    refine g_istore_n (i := 1) (lv' := [(1, .int (t0 ||| t1)), (0, .ref h), (2, .int x2)]) X dX11_dead_33 rfl (by decide) rfl ?_
    refine g_iinc (lv' := [(2, .int (x2 + (1 : Int32))), (1, .int (t0 ||| t1)), (0, .ref h)]) X dX11_dead_34 2 rfl kc_1 (by decide) rfl ?_
    refine g_goto (tgt := 9) X dX11_dead_37 (by decide) ?_
    refine g_lv [2, 1, 0] (lv' := [(0, .ref h), (1, .int (t0 ||| t1)), (2, .int (x2 + (1 : Int32)))]) rfl ?_
    exact hk9 _ _ hf
  have hL9 : ∀ (S : MS) (n : Nat) (x1 : Int32) (x2 : Int32), M_dead_L9 F S n x1 x2 = some res → GG p l e rm_dead s m args below meth c dC dI A 3 0 0 Q (MW E h r S) 9 [(0, .ref h), (1, .int x1), (2, .int x2)] [] := by
    intro S n
    induction n with
    | zero => intro x1 x2 hf; have hf : (none : Option (Int32 × MS)) = some res := hf; cases hf
    | succ n ih =>
      intro x1 x2 hf
      rw [M_dead_L9] at hf
      refine g_iload_n X dX11_dead_9 2 rfl ?_
      refine g_bipush X dX11_dead_10 kb_8 ?_
      refine g_icmp_ge (tgt := 40) X dX11_dead_12 (by decide) hf (fun hf => ?_) (fun hf => ?_)
      · refine g_iload_n X dX11_dead_40 1 rfl ?_
        exact m_reti_s hA hQ X hr hlk dX11_dead_41 hf
      refine g_iload_n X dX11_dead_15 1 rfl ?_
      refine g_aload_n X dX11_dead_16 0 rfl ?_
      refine g_iload_n X dX11_dead_17 2 rfl ?_
      refine m_bind hf (fun q1 hq1 hf => ?_)
      refine m_callV_i (As := [.int x2]) (st := [.int x1]) X kV_469 (c_laneEnds l dC dI E h r F S x2 q1 hq1) ⟨Nat.le_of_ble_eq_true rfl, Nat.le_of_ble_eq_true rfl⟩ ⟨rfl, rfl⟩ (Nat.le_of_ble_eq_true rfl) ⟨Nat.le_of_ble_eq_true rfl, Nat.le_of_ble_eq_true rfl⟩ dX11_dead_18 ?_
      refine g_iconst X dX11_dead_21 kc_1 ?_
      refine g_icmp_ne (tgt := 31) X dX11_dead_22 (by decide) hf (fun hf => ?_) (fun hf => ?_)
      · refine g_iconst X dX11_dead_31 kc_0 ?_
        refine g_lv [0, 2] (lv' := [(0, .ref h), (2, .int x2)]) rfl ?_
        exact hB32 _ _ ih _ _ _ hf
      refine g_iconst X dX11_dead_25 kc_1 ?_
      refine g_iload_n X dX11_dead_26 2 rfl ?_
      refine g_ishl X dX11_dead_27 ?_
      refine g_goto (tgt := 32) X dX11_dead_28 (by decide) ?_
      refine g_lv [0, 2] (lv' := [(0, .ref h), (2, .int x2)]) rfl ?_
      exact hB32 _ _ ih _ _ _ hf
  refine g_lv [0] (lv' := [(0, .ref h)]) rfl ?_
  unfold M_dead at hf
  refine g_aload_n X dX11_dead_0 0 rfl ?_
  refine g_iconst X dX11_dead_1 kc_0 ?_
  refine m_put_0 X dX11_dead_2 hf (fun S2 hf => ?_)
  refine g_iconst X dX11_dead_5 kc_0 ?_
  refine g_istore_n (i := 1) (lv' := [(1, .int (0 : Int32)), (0, .ref h)]) X dX11_dead_6 rfl (by decide) rfl ?_
  refine g_iconst X dX11_dead_7 kc_0 ?_
  refine g_istore_n (i := 2) (lv' := [(2, .int (0 : Int32)), (1, .int (0 : Int32)), (0, .ref h)]) X dX11_dead_8 rfl (by decide) rfl ?_
  refine g_lv [2, 1, 0] (lv' := [(0, .ref h), (1, .int (0 : Int32)), (2, .int (0 : Int32))]) rfl ?_
  exact hL9 _ _ _ _ hf
def rm_few : Room := { frames := 1, cells := 0, slots := 0, locals := 25 }
set_option maxRecDepth 100000 in
set_option maxHeartbeats 4000000 in
theorem c_few (l : Launch) (dC : Nat → ClassId) (dI : Nat → Nat → Nat) (E : Nat → ClassId) (h : Nat) (r : Nat → Nat) (F : Nat) (S : MS) (x1 : Int32) (x2 : Int32) (res : Int64 × MS) (hf : M_few F S x1 x2 = some res) : MC l dC dI E yX11_few cX11_few 8 (some .long) rm_few [.ref h, .int x1, .int x2] (MW E h r S) (MW E h r res.2) (some (.long res.1)) := by
  refine MC_of (own := "LostLanesModel") (by decide) rfl (Nat.le_of_ble_eq_true rfl) ?_
  intro p e s m args below meth c A Q X hr hlk hA hQ
  have hL158 : ∀ (S : MS) (x1 : Int32) (n : Nat) (x4 : Int64) (x6 : Int32), M_few_L158 F S x1 n x4 x6 = some res → GG p l e rm_few s m args below meth c dC dI A 8 0 0 Q (MW E h r S) 158 [(0, .ref h), (1, .int x1), (4, .long x4), (6, .int x6)] [] := by
    intro S x1 n
    induction n with
    | zero => intro x4 x6 hf; have hf : (none : Option (Int64 × MS)) = some res := hf; cases hf
    | succ n ih =>
      intro x4 x6 hf
      rw [M_few_L158] at hf
      refine g_iload X dX11_few_158 3 rfl ?_
      refine g_iload_n X dX11_few_160 1 rfl ?_
      refine g_icmp_ge (tgt := 182) X dX11_few_161 (by decide) hf (fun hf => ?_) (fun hf => ?_)
      · refine g_lload X dX11_few_182 2 rfl ?_
        exact m_retl_s hA hQ X hr hlk dX11_few_184 hf
      refine g_lload X dX11_few_164 2 rfl ?_
      refine g_aload_n X dX11_few_166 0 rfl ?_
      refine m_get_47 X dX11_few_167 ?_
      refine g_iload X dX11_few_170 3 rfl ?_
      refine m_ald_47 X dX11_few_172 hf (fun hf => ?_)
      refine g_ladd X dX11_few_173 ?_
      refine g_lstore (lv' := [(4, .long (x4 + (mb S 47 (x6).toNatClampNeg))), (0, .ref h), (1, .int x1), (6, .int x6)]) X dX11_few_174 (by decide) rfl ?_
      refine g_iinc (lv' := [(6, .int (x6 + (1 : Int32))), (4, .long (x4 + (mb S 47 (x6).toNatClampNeg))), (0, .ref h), (1, .int x1)]) X dX11_few_176 3 rfl kc_1 (by decide) rfl ?_
      refine g_goto (tgt := 158) X dX11_few_179 (by decide) ?_
      refine g_lv [2, 3, 1, 0] (lv' := [(0, .ref h), (1, .int x1), (4, .long (x4 + (mb S 47 (x6).toNatClampNeg))), (6, .int (x6 + (1 : Int32)))]) rfl ?_
      exact ih _ _ hf
  have hL86 : ∀ (x1 : Int32) (x2 : Int32) (x3 : Int32) (k75 : MS → Int32 → Option (Int64 × MS)) (hk75 : ∀ (S : MS) (x4 : Int32), k75 S x4 = some res → GG p l e rm_few s m args below meth c dC dI A 8 0 0 Q (MW E h r S) 75 [(0, .ref h), (1, .int x1), (2, .int x2), (3, .int x3), (4, .int x4)] []) (x4 : Int32) (n : Nat) (S : MS) (x5 : Int32), M_few_L86 F k75 x1 x2 x3 x4 n S x5 = some res → GG p l e rm_few s m args below meth c dC dI A 8 0 0 Q (MW E h r S) 86 [(0, .ref h), (1, .int x1), (2, .int x2), (3, .int x3), (4, .int x4), (5, .int x5)] [] := by
    intro x1 x2 x3 k75 hk75 x4 n
    induction n with
    | zero => intro S x5 hf; have hf : (none : Option (Int64 × MS)) = some res := hf; cases hf
    | succ n ih =>
      intro S x5 hf
      rw [M_few_L86] at hf
      refine g_iload X dX11_few_86 5 rfl ?_
      refine g_if_lt (tgt := 146) X dX11_few_88 (by decide) hf (fun hf => ?_) (fun hf => ?_)
      · refine g_iinc (lv' := [(4, .int (x4 + (1 : Int32))), (0, .ref h), (1, .int x1), (2, .int x2), (3, .int x3), (5, .int x5)]) X dX11_few_146 4 rfl kc_1 (by decide) rfl ?_
        refine g_goto (tgt := 75) X dX11_few_149 (by decide) ?_
        refine g_lv [1, 2, 3, 4, 0] (lv' := [(0, .ref h), (1, .int x1), (2, .int x2), (3, .int x3), (4, .int (x4 + (1 : Int32)))]) rfl ?_
        exact hk75 _ _ hf
      refine g_aload_n X dX11_few_91 0 rfl ?_
      refine m_get_47 X dX11_few_92 ?_
      refine g_iload X dX11_few_95 5 rfl ?_
      refine m_ald_47 X dX11_few_97 hf (fun hf => ?_)
      refine g_lstore (lv' := [(6, .long (mb S 47 (x5).toNatClampNeg)), (0, .ref h), (1, .int x1), (2, .int x2), (3, .int x3), (4, .int x4), (5, .int x5)]) X dX11_few_98 (by decide) rfl ?_
      refine g_aload_n X dX11_few_100 1 rfl ?_
      refine m_get_47 X dX11_few_101 ?_
      refine g_iload X dX11_few_104 6 rfl ?_
      refine g_lload X dX11_few_106 0 rfl ?_
      refine g_bipush X dX11_few_108 kb_10 ?_
      refine g_iload_n X dX11_few_110 4 rfl ?_
      refine g_isub X dX11_few_111 ?_
      refine g_i2l X dX11_few_112 ?_
      refine g_lmul X dX11_few_113 ?_
      refine g_ldc2 X dX11_few_114 wd6_198 ?_
      refine g_ldiv X dX11_few_117 (by decide) ?_
      refine m_ast_47 X dX11_few_118 hf (fun S1 hf => ?_)
      refine g_aload_n X dX11_few_119 1 rfl ?_
      refine m_get_47 X dX11_few_120 ?_
      refine g_iload X dX11_few_123 6 rfl ?_
      refine g_iconst X dX11_few_125 kc_1 ?_
      refine g_iadd X dX11_few_126 ?_
      refine g_dup2 X dX11_few_127 rfl rfl ?_
      refine m_ald_47 X dX11_few_128 hf (fun hf => ?_)
      refine g_lload X dX11_few_129 0 rfl ?_
      refine g_iload_n X dX11_few_131 4 rfl ?_
      refine g_i2l X dX11_few_132 ?_
      refine g_lmul X dX11_few_133 ?_
      refine g_ldc2 X dX11_few_134 wd6_198 ?_
      refine g_ldiv X dX11_few_137 (by decide) ?_
      refine g_ladd X dX11_few_138 ?_
      refine m_ast_47 X dX11_few_139 hf (fun S2 hf => ?_)
      refine g_iinc (lv' := [(5, .int (x5 + (-1 : Int32))), (6, .long (mb S 47 (x5).toNatClampNeg)), (0, .ref h), (1, .int x1), (2, .int x2), (3, .int x3), (4, .int x4)]) X dX11_few_140 6 rfl kc_m1 (by decide) rfl ?_
      refine g_goto (tgt := 86) X dX11_few_143 (by decide) ?_
      refine g_lv [2, 3, 4, 5, 6, 0] (lv' := [(0, .ref h), (1, .int x1), (2, .int x2), (3, .int x3), (4, .int x4), (5, .int (x5 + (-1 : Int32)))]) rfl ?_
      exact ih _ _ hf
  have hL75 : ∀ (x1 : Int32) (x2 : Int32) (x3 : Int32) (n : Nat) (S : MS) (x4 : Int32), M_few_L75 F x1 x2 x3 n S x4 = some res → GG p l e rm_few s m args below meth c dC dI A 8 0 0 Q (MW E h r S) 75 [(0, .ref h), (1, .int x1), (2, .int x2), (3, .int x3), (4, .int x4)] [] := by
    intro x1 x2 x3 n
    induction n with
    | zero => intro S x4 hf; have hf : (none : Option (Int64 × MS)) = some res := hf; cases hf
    | succ n ih =>
      intro S x4 hf
      rw [M_few_L75] at hf
      refine g_iload X dX11_few_75 4 rfl ?_
      refine g_iload_n X dX11_few_77 2 rfl ?_
      refine g_icmp_ge (tgt := 152) X dX11_few_78 (by decide) hf (fun hf => ?_) (fun hf => ?_)
      · refine g_lconst X dX11_few_152 kl_0 ?_
        refine g_lstore (lv' := [(4, .long (0 : Int64)), (0, .ref h), (1, .int x1), (2, .int x2), (3, .int x3)]) X dX11_few_153 (by decide) rfl ?_
        refine g_iconst X dX11_few_155 kc_0 ?_
        refine g_istore (lv' := [(6, .int (0 : Int32)), (4, .long (0 : Int64)), (0, .ref h), (1, .int x1), (2, .int x2), (3, .int x3)]) X dX11_few_156 (by decide) rfl ?_
        refine g_lv [2, 3, 1, 0] (lv' := [(0, .ref h), (1, .int x1), (4, .long (0 : Int64)), (6, .int (0 : Int32))]) rfl ?_
        exact hL158 _ _ _ _ _ hf
      refine g_iload_n X dX11_few_81 1 rfl ?_
      refine g_iconst X dX11_few_82 kc_1 ?_
      refine g_isub X dX11_few_83 ?_
      refine g_istore (lv' := [(5, .int (x1 - (1 : Int32))), (0, .ref h), (1, .int x1), (2, .int x2), (3, .int x3), (4, .int x4)]) X dX11_few_84 (by decide) rfl ?_
      refine g_lv [1, 2, 3, 4, 5, 0] (lv' := [(0, .ref h), (1, .int x1), (2, .int x2), (3, .int x3), (4, .int x4), (5, .int (x1 - (1 : Int32)))]) rfl ?_
      exact hL86 _ _ _ _ ih _ _ _ _ hf
  have hB57 : ∀ (x1 : Int32) (x2 : Int32) (k35 : MS → Int32 → Option (Int64 × MS)) (hk35 : ∀ (S : MS) (x3 : Int32), k35 S x3 = some res → GG p l e rm_few s m args below meth c dC dI A 8 0 0 Q (MW E h r S) 35 [(0, .ref h), (1, .int x1), (2, .int x2), (3, .int x3)] []) (S : MS) (x3 : Int32) (t1 : Int32) (t2 : Int64), M_few_B57 F k35 S x1 x2 x3 t1 t2 = some res → GG p l e rm_few s m args below meth c dC dI A 8 0 0 Q (MW E h r S) 57 [(0, .ref h), (1, .int x1), (2, .int x2), (3, .int x3)] [.long t2, .int t1, .ref (r 47)] := by
    intro x1 x2 k35 hk35 S x3 t1 t2 hf
    unfold M_few_B57 at hf
    refine m_ast_47 X dX11_few_57 hf (fun S3 hf => ?_)
    refine g_iinc (lv' := [(3, .int (x3 + (1 : Int32))), (0, .ref h), (1, .int x1), (2, .int x2)]) X dX11_few_58 3 rfl kc_1 (by decide) rfl ?_
    refine g_goto (tgt := 35) X dX11_few_61 (by decide) ?_
    refine g_lv [1, 2, 3, 0] (lv' := [(0, .ref h), (1, .int x1), (2, .int x2), (3, .int (x3 + (1 : Int32)))]) rfl ?_
    exact hk35 _ _ hf
  have hL35 : ∀ (x1 : Int32) (x2 : Int32) (n : Nat) (S : MS) (x3 : Int32), M_few_L35 F x1 x2 n S x3 = some res → GG p l e rm_few s m args below meth c dC dI A 8 0 0 Q (MW E h r S) 35 [(0, .ref h), (1, .int x1), (2, .int x2), (3, .int x3)] [] := by
    intro x1 x2 n
    induction n with
    | zero => intro S x3 hf; have hf : (none : Option (Int64 × MS)) = some res := hf; cases hf
    | succ n ih =>
      intro S x3 hf
      rw [M_few_L35] at hf
      refine g_iload_n X dX11_few_35 3 rfl ?_
      refine g_bipush X dX11_few_36 kb_21 ?_
      refine g_icmp_ge (tgt := 64) X dX11_few_38 (by decide) hf (fun hf => ?_) (fun hf => ?_)
      · refine g_aload_n X dX11_few_64 0 rfl ?_
        refine m_get_3 X dX11_few_65 ?_
        refine g_bipush X dX11_few_68 kb_6 ?_
        refine m_aldc_3 X kt_6 kx_6_5476 dX11_few_70 ?_
        refine g_istore_n (i := 3) (lv' := [(3, .int (ma S 3 6)), (0, .ref h), (1, .int x1), (2, .int x2)]) X dX11_few_71 rfl (by decide) rfl ?_
        refine g_iconst X dX11_few_72 kc_0 ?_
        refine g_istore (lv' := [(4, .int (0 : Int32)), (3, .int (ma S 3 6)), (0, .ref h), (1, .int x1), (2, .int x2)]) X dX11_few_73 (by decide) rfl ?_
        refine g_lv [2, 3, 4, 1, 0] (lv' := [(0, .ref h), (1, .int x1), (2, .int x2), (3, .int (ma S 3 6)), (4, .int (0 : Int32))]) rfl ?_
        exact hL75 _ _ _ _ _ _ hf
      refine g_aload_n X dX11_few_41 0 rfl ?_
      refine m_get_47 X dX11_few_42 ?_
      refine g_iload_n X dX11_few_45 3 rfl ?_
      refine g_iload_n X dX11_few_46 3 rfl ?_
      refine g_if_ne (tgt := 56) X dX11_few_47 (by decide) hf (fun hf => ?_) (fun hf => ?_)
      · refine g_lconst X dX11_few_56 kl_0 ?_
        exact hB57 _ _ _ ih _ _ _ _ hf
      refine g_ldc2 X dX11_few_50 wd8_58 ?_
      refine g_goto (tgt := 57) X dX11_few_53 (by decide) ?_
      exact hB57 _ _ _ ih _ _ _ _ hf
  have hB29 : ∀ (S : MS), M_few_B29 F S = some res → GG p l e rm_few s m args below meth c dC dI A 8 0 0 Q (MW E h r S) 29 [] [] := by
    intro S hf
    unfold M_few_B29 at hf
    refine g_ldc2 X dX11_few_29 wd6_151 ?_
    exact m_retl_s hA hQ X hr hlk dX11_few_32 hf
  refine g_lv [0, 1, 2] (lv' := [(0, .ref h), (1, .int x1), (2, .int x2)]) rfl ?_
  unfold M_few at hf
  refine g_aload_n X dX11_few_0 0 rfl ?_
  refine g_iconst X dX11_few_1 kc_0 ?_
  refine m_put_0 X dX11_few_2 hf (fun S4 hf => ?_)
  refine g_iload_n X dX11_few_5 1 rfl ?_
  refine g_i2l X dX11_few_6 ?_
  refine g_lconst X dX11_few_7 kl_1 ?_
  refine g_ldc2 X dX11_few_8 wd7_91 ?_
  refine m_bind hf (fun q5 hq5 hf => ?_)
  refine m_callS_i (As := [.long (x1).toInt64, .long (1 : Int64), .long (20 : Int64)]) (st := []) X kS_179 (c_in l dC dI E h r S4 (x1).toInt64 (1 : Int64) (20 : Int64) q5 hq5) ⟨Nat.le_of_ble_eq_true rfl, Nat.le_of_ble_eq_true rfl⟩ ⟨rfl, rfl⟩ (Nat.le_of_ble_eq_true rfl) ⟨Nat.le_of_ble_eq_true rfl, Nat.le_of_ble_eq_true rfl⟩ dX11_few_11 ?_
  refine g_if_eq (tgt := 29) X dX11_few_14 (by decide) hf (fun hf => ?_) (fun hf => ?_)
  · refine g_lv [] (lv' := []) rfl ?_
    exact hB29 _ hf
  refine g_iload_n X dX11_few_17 2 rfl ?_
  refine g_i2l X dX11_few_18 ?_
  refine g_lconst X dX11_few_19 kl_0 ?_
  refine g_ldc2 X dX11_few_20 wd8_57 ?_
  refine m_bind hf (fun q6 hq6 hf => ?_)
  refine m_callS_i (As := [.long (x2).toInt64, .long (0 : Int64), .long (99 : Int64)]) (st := []) X kS_179 (c_in l dC dI E h r S4 (x2).toInt64 (0 : Int64) (99 : Int64) q6 hq6) ⟨Nat.le_of_ble_eq_true rfl, Nat.le_of_ble_eq_true rfl⟩ ⟨rfl, rfl⟩ (Nat.le_of_ble_eq_true rfl) ⟨Nat.le_of_ble_eq_true rfl, Nat.le_of_ble_eq_true rfl⟩ dX11_few_23 ?_
  refine g_if_ne (tgt := 33) X dX11_few_26 (by decide) hf (fun hf => ?_) (fun hf => ?_)
  · refine g_iconst X dX11_few_33 kc_0 ?_
    refine g_istore_n (i := 3) (lv' := [(3, .int (0 : Int32)), (0, .ref h), (1, .int x1), (2, .int x2)]) X dX11_few_34 rfl (by decide) rfl ?_
    refine g_lv [1, 2, 3, 0] (lv' := [(0, .ref h), (1, .int x1), (2, .int x2), (3, .int (0 : Int32))]) rfl ?_
    exact hL35 _ _ _ _ _ hf
  refine g_lv [] (lv' := []) rfl ?_
  exact hB29 _ hf
def rm_compare : Room := { frames := 8, cells := 0, slots := 0, locals := 191 }
set_option maxRecDepth 100000 in
set_option maxHeartbeats 4000000 in
theorem c_compare (l : Launch) (dC : Nat → ClassId) (dI : Nat → Nat → Nat) (E : Nat → ClassId) (h : Nat) (r : Nat → Nat) (F : Nat) (S : MS) (x1 : Int32) (x2 : Int32) (res : Int32 × MS) (hf : M_compare F S x1 x2 = some res) : MC l dC dI E yX11_compare cX11_compare 5 (some .int) rm_compare [.ref h, .int x1, .int x2] (MW E h r S) (MW E h r res.2) (some (.int res.1)) := by
  refine MC_of (own := "LostLanesModel") (by decide) rfl (Nat.le_of_ble_eq_true rfl) ?_
  intro p e s m args below meth c A Q X hr hlk hA hQ
  refine g_lv [0, 1, 2] (lv' := [(0, .ref h), (1, .int x1), (2, .int x2)]) rfl ?_
  unfold M_compare at hf
  refine g_aload_n X dX11_compare_0 0 rfl ?_
  refine g_iconst X dX11_compare_1 kc_0 ?_
  refine m_put_0 X dX11_compare_2 hf (fun S1 hf => ?_)
  refine g_aload_n X dX11_compare_5 0 rfl ?_
  refine g_iload_n X dX11_compare_6 1 rfl ?_
  refine m_bind hf (fun q2 hq2 hf => ?_)
  refine m_callV_i (As := [.int x1]) (st := []) X kV_387 (c_isLaw l dC dI E h r S1 x1 q2 hq2) ⟨Nat.le_of_ble_eq_true rfl, Nat.le_of_ble_eq_true rfl⟩ ⟨rfl, rfl⟩ (Nat.le_of_ble_eq_true rfl) ⟨Nat.le_of_ble_eq_true rfl, Nat.le_of_ble_eq_true rfl⟩ dX11_compare_7 ?_
  refine g_if_eq (tgt := 21) X dX11_compare_10 (by decide) hf (fun hf => ?_) (fun hf => ?_)
  · refine g_iconst X dX11_compare_21 kc_m1 ?_
    exact m_reti_s hA hQ X hr hlk dX11_compare_22 hf
  refine g_aload_n X dX11_compare_13 0 rfl ?_
  refine g_iload_n X dX11_compare_14 2 rfl ?_
  refine m_bind hf (fun q3 hq3 hf => ?_)
  refine m_callV_i (As := [.int x2]) (st := []) X kV_203 (c_isChild l dC dI E h r S1 x2 q3 hq3) ⟨Nat.le_of_ble_eq_true rfl, Nat.le_of_ble_eq_true rfl⟩ ⟨rfl, rfl⟩ (Nat.le_of_ble_eq_true rfl) ⟨Nat.le_of_ble_eq_true rfl, Nat.le_of_ble_eq_true rfl⟩ dX11_compare_15 ?_
  refine g_if_ne (tgt := 23) X dX11_compare_18 (by decide) hf (fun hf => ?_) (fun hf => ?_)
  · refine g_aload_n X dX11_compare_23 0 rfl ?_
    refine m_get_3 X dX11_compare_24 ?_
    refine g_iconst X dX11_compare_27 kc_4 ?_
    refine m_aldc_3 X kt_4 kx_4_5476 dX11_compare_28 ?_
    refine g_istore_n (i := 3) (lv' := [(3, .int (ma S1 3 4)), (0, .ref h), (1, .int x1), (2, .int x2)]) X dX11_compare_29 rfl (by decide) rfl ?_
    refine g_aload_n X dX11_compare_30 1 rfl ?_
    refine m_get_3 X dX11_compare_31 ?_
    refine g_iconst X dX11_compare_34 kc_4 ?_
    refine g_iload_n X dX11_compare_35 2 rfl ?_
    refine m_astc_3 X kt_4 kx_4_5476 dX11_compare_36 hf (fun S4 hf => ?_)
    refine g_aload_n X dX11_compare_37 1 rfl ?_
    refine g_iload_n X dX11_compare_38 3 rfl ?_
    refine m_bind hf (fun q5 hq5 hf => ?_)
    refine m_callV_i (As := [.int x2]) (st := []) X kV_209 (c_laneOf l dC dI E h r F S4 x2 q5 hq5) ⟨Nat.le_of_ble_eq_true rfl, Nat.le_of_ble_eq_true rfl⟩ ⟨rfl, rfl⟩ (Nat.le_of_ble_eq_true rfl) ⟨Nat.le_of_ble_eq_true rfl, Nat.le_of_ble_eq_true rfl⟩ dX11_compare_39 ?_
    refine g_istore (lv' := [(4, .int q5.1), (3, .int (ma S1 3 4)), (0, .ref h), (1, .int x1), (2, .int x2)]) X dX11_compare_42 (by decide) rfl ?_
    refine g_aload_n X dX11_compare_44 2 rfl ?_
    refine m_get_3 X dX11_compare_45 ?_
    refine g_iconst X dX11_compare_48 kc_4 ?_
    refine g_iload_n X dX11_compare_49 1 rfl ?_
    refine m_astc_3 X kt_4 kx_4_5476 dX11_compare_50 hf (fun S6 hf => ?_)
    refine g_iload X dX11_compare_51 0 rfl ?_
    refine g_iconst X dX11_compare_53 kc_m1 ?_
    refine g_icmp_ne (tgt := 69) X dX11_compare_54 (by decide) hf (fun hf => ?_) (fun hf => ?_)
    · refine g_aload_n X dX11_compare_69 2 rfl ?_
      refine g_iload X dX11_compare_70 0 rfl ?_
      refine g_aload_n X dX11_compare_72 2 rfl ?_
      refine m_get_3 X dX11_compare_73 ?_
      refine g_bipush X dX11_compare_76 kb_18 ?_
      refine g_iload_n X dX11_compare_78 4 rfl ?_
      refine g_iadd X dX11_compare_79 ?_
      refine m_ald_3 X dX11_compare_80 hf (fun hf => ?_)
      refine m_bind hf (fun q7 hq7 hf => ?_)
      refine m_callV_i (As := [.int q5.1, .int (ma S6 3 (((18 : Int32) + x2)).toNatClampNeg)]) (st := []) X kV_430 (c_across l dC dI E h r S6 q5.1 (ma S6 3 (((18 : Int32) + x2)).toNatClampNeg) q7 hq7) ⟨Nat.le_of_ble_eq_true rfl, Nat.le_of_ble_eq_true rfl⟩ ⟨rfl, rfl⟩ (Nat.le_of_ble_eq_true rfl) ⟨Nat.le_of_ble_eq_true rfl, Nat.le_of_ble_eq_true rfl⟩ dX11_compare_81 ?_
      exact m_reti_s hA hQ X hr hlk dX11_compare_84 hf
    refine g_aload_n X dX11_compare_57 2 rfl ?_
    refine m_get_3 X dX11_compare_58 ?_
    refine g_bipush X dX11_compare_61 kb_18 ?_
    refine g_iload_n X dX11_compare_63 4 rfl ?_
    refine g_iadd X dX11_compare_64 ?_
    refine m_ald_3 X dX11_compare_65 hf (fun hf => ?_)
    refine g_goto (tgt := 84) X dX11_compare_66 (by decide) ?_
    exact m_reti_s hA hQ X hr hlk dX11_compare_84 hf
  refine g_iconst X dX11_compare_21 kc_m1 ?_
  exact m_reti_s hA hQ X hr hlk dX11_compare_22 hf
def rm_readSum : Room := { frames := 7, cells := 0, slots := 0, locals := 151 }
set_option maxRecDepth 100000 in
set_option maxHeartbeats 4000000 in
theorem c_readSum (l : Launch) (dC : Nat → ClassId) (dI : Nat → Nat → Nat) (E : Nat → ClassId) (h : Nat) (r : Nat → Nat) (F : Nat) (S : MS) (x1 : Int32) (res : Unit × MS) (hf : M_readSum F S x1 = some res) : MC l dC dI E yX11_readSum cX11_readSum 2 none rm_readSum [.ref h, .int x1] (MW E h r S) (MW E h r res.2) none := by
  refine MC_of (own := "LostLanesModel") (by decide) rfl (Nat.le_of_ble_eq_true rfl) ?_
  intro p e s m args below meth c A Q X hr hlk hA hQ
  have hB22 : ∀ (S : MS) (x1 : Int32), M_readSum_B22 F S x1 = some res → GG p l e rm_readSum s m args below meth c dC dI A 2 0 0 Q (MW E h r S) 22 [(0, .ref h), (1, .int x1)] [] := by
    intro S x1 hf
    unfold M_readSum_B22 at hf
    refine g_aload_n X dX11_readSum_22 0 rfl ?_
    refine m_get_49 X dX11_readSum_23 ?_
    refine g_iload_n X dX11_readSum_26 1 rfl ?_
    refine g_iconst X dX11_readSum_27 kc_1 ?_
    refine g_iadd X dX11_readSum_28 ?_
    refine g_aload_n X dX11_readSum_29 0 rfl ?_
    refine m_get_23 X dX11_readSum_30 ?_
    refine m_ast_49 X dX11_readSum_33 hf (fun S1 hf => ?_)
    exact m_retv_s hA hQ X hr hlk dX11_readSum_34 hf
  refine g_lv [0, 1] (lv' := [(0, .ref h), (1, .int x1)]) rfl ?_
  unfold M_readSum at hf
  refine g_aload_n X dX11_readSum_0 0 rfl ?_
  refine m_get_49 X dX11_readSum_1 ?_
  refine g_iload_n X dX11_readSum_4 1 rfl ?_
  refine g_aload_n X dX11_readSum_5 0 rfl ?_
  refine m_get_23 X dX11_readSum_6 ?_
  refine m_ast_49 X dX11_readSum_9 hf (fun S2 hf => ?_)
  refine g_aload_n X dX11_readSum_10 0 rfl ?_
  refine m_get_19 X dX11_readSum_11 ?_
  refine g_if_ne (tgt := 22) X dX11_readSum_14 (by decide) hf (fun hf => ?_) (fun hf => ?_)
  · exact hB22 _ _ hf
  refine g_aload_n X dX11_readSum_17 0 rfl ?_
  refine g_iconst X dX11_readSum_18 kc_0 ?_
  refine m_bind hf (fun q3 hq3 hf => ?_)
  refine m_callV_v (As := [.int (0 : Int32)]) (st := []) X kV_373 (c_readExpression l dC dI E h r F S2 (0 : Int32) q3 hq3) ⟨Nat.le_of_ble_eq_true rfl, Nat.le_of_ble_eq_true rfl⟩ ⟨rfl, rfl⟩ (Nat.le_of_ble_eq_true rfl) ⟨Nat.le_of_ble_eq_true rfl, Nat.le_of_ble_eq_true rfl⟩ dX11_readSum_19 ?_
  exact hB22 _ _ hf
def rm_readOrder : Room := { frames := 8, cells := 0, slots := 0, locals := 172 }
set_option maxRecDepth 100000 in
set_option maxHeartbeats 4000000 in
theorem c_readOrder (l : Launch) (dC : Nat → ClassId) (dI : Nat → Nat → Nat) (E : Nat → ClassId) (h : Nat) (r : Nat → Nat) (F : Nat) (S : MS)  (res : Unit × MS) (hf : M_readOrder F S = some res) : MC l dC dI E yX11_readOrder cX11_readOrder 4 none rm_readOrder [.ref h] (MW E h r S) (MW E h r res.2) none := by
  refine MC_of (own := "LostLanesModel") (by decide) rfl (Nat.le_of_ble_eq_true rfl) ?_
  intro p e s m args below meth c A Q X hr hlk hA hQ
  have hB241 : ∀ (S : MS) (x2 : Int32), M_readOrder_B241 F S x2 = some res → GG p l e rm_readOrder s m args below meth c dC dI A 4 0 0 Q (MW E h r S) 241 [(0, .ref h), (2, .int x2)] [] := by
    intro S x2 hf
    unfold M_readOrder_B241 at hf
    refine g_aload_n X dX11_readOrder_241 0 rfl ?_
    refine m_get_49 X dX11_readOrder_242 ?_
    refine g_iload_n X dX11_readOrder_245 1 rfl ?_
    refine g_bipush X dX11_readOrder_246 kb_6 ?_
    refine g_iadd X dX11_readOrder_248 ?_
    refine g_aload_n X dX11_readOrder_249 0 rfl ?_
    refine m_get_23 X dX11_readOrder_250 ?_
    refine m_ast_49 X dX11_readOrder_253 hf (fun S1 hf => ?_)
    exact m_retv_s hA hQ X hr hlk dX11_readOrder_254 hf
  have hB203 : ∀ (S : MS) (x2 : Int32), M_readOrder_B203 F S x2 = some res → GG p l e rm_readOrder s m args below meth c dC dI A 4 0 0 Q (MW E h r S) 203 [(0, .ref h), (2, .int x2)] [] := by
    intro S x2 hf
    unfold M_readOrder_B203 at hf
    refine g_aload_n X dX11_readOrder_203 0 rfl ?_
    refine m_get_49 X dX11_readOrder_204 ?_
    refine g_iload_n X dX11_readOrder_207 1 rfl ?_
    refine g_iconst X dX11_readOrder_208 kc_5 ?_
    refine g_iadd X dX11_readOrder_209 ?_
    refine g_aload_n X dX11_readOrder_210 0 rfl ?_
    refine m_get_23 X dX11_readOrder_211 ?_
    refine m_ast_49 X dX11_readOrder_214 hf (fun S2 hf => ?_)
    refine g_aload_n X dX11_readOrder_215 0 rfl ?_
    refine m_get_19 X dX11_readOrder_216 ?_
    refine g_if_ne (tgt := 241) X dX11_readOrder_219 (by decide) hf (fun hf => ?_) (fun hf => ?_)
    · exact hB241 _ _ hf
    refine g_aload_n X dX11_readOrder_222 0 rfl ?_
    refine g_ldc2 X dX11_readOrder_223 wd7_101 ?_
    refine m_bind hf (fun q3 hq3 hf => ?_)
    refine m_callV_i (As := [.long (294 : Int64)]) (st := []) X kV_297 (c_isWord l dC dI E h r S2 (294 : Int64) q3 hq3) ⟨Nat.le_of_ble_eq_true rfl, Nat.le_of_ble_eq_true rfl⟩ ⟨rfl, rfl⟩ (Nat.le_of_ble_eq_true rfl) ⟨Nat.le_of_ble_eq_true rfl, Nat.le_of_ble_eq_true rfl⟩ dX11_readOrder_226 ?_
    refine g_if_eq (tgt := 241) X dX11_readOrder_229 (by decide) hf (fun hf => ?_) (fun hf => ?_)
    · exact hB241 _ _ hf
    refine g_aload_n X dX11_readOrder_232 0 rfl ?_
    refine m_bind hf (fun q4 hq4 hf => ?_)
    refine m_callV_v (As := []) (st := []) X kV_243 (c_next l dC dI E h r F S2 q4 hq4) ⟨Nat.le_of_ble_eq_true rfl, Nat.le_of_ble_eq_true rfl⟩ ⟨rfl, rfl⟩ (Nat.le_of_ble_eq_true rfl) ⟨Nat.le_of_ble_eq_true rfl, Nat.le_of_ble_eq_true rfl⟩ dX11_readOrder_233 ?_
    refine g_aload_n X dX11_readOrder_236 0 rfl ?_
    refine g_iconst X dX11_readOrder_237 kc_1 ?_
    refine m_bind hf (fun q5 hq5 hf => ?_)
    refine m_callV_v (As := [.int (1 : Int32)]) (st := []) X kV_373 (c_readExpression l dC dI E h r F q4.2 (1 : Int32) q5 hq5) ⟨Nat.le_of_ble_eq_true rfl, Nat.le_of_ble_eq_true rfl⟩ ⟨rfl, rfl⟩ (Nat.le_of_ble_eq_true rfl) ⟨Nat.le_of_ble_eq_true rfl, Nat.le_of_ble_eq_true rfl⟩ dX11_readOrder_238 ?_
    exact hB241 _ _ hf
  have hB155 : ∀ (S : MS) (x2 : Int32), M_readOrder_B155 F S x2 = some res → GG p l e rm_readOrder s m args below meth c dC dI A 4 0 0 Q (MW E h r S) 155 [(0, .ref h), (2, .int x2)] [] := by
    intro S x2 hf
    unfold M_readOrder_B155 at hf
    refine g_aload_n X dX11_readOrder_155 0 rfl ?_
    refine m_get_49 X dX11_readOrder_156 ?_
    refine g_iload_n X dX11_readOrder_159 1 rfl ?_
    refine g_bipush X dX11_readOrder_160 kb_7 ?_
    refine g_iadd X dX11_readOrder_162 ?_
    refine g_iconst X dX11_readOrder_163 kc_1 ?_
    refine m_ast_49 X dX11_readOrder_164 hf (fun S6 hf => ?_)
    refine g_aload_n X dX11_readOrder_165 0 rfl ?_
    refine m_get_19 X dX11_readOrder_166 ?_
    refine g_if_ne (tgt := 203) X dX11_readOrder_169 (by decide) hf (fun hf => ?_) (fun hf => ?_)
    · exact hB203 _ _ hf
    refine g_aload_n X dX11_readOrder_172 0 rfl ?_
    refine g_ldc2 X dX11_readOrder_173 wd8_76 ?_
    refine m_bind hf (fun q7 hq7 hf => ?_)
    refine m_callV_i (As := [.long (21279923 : Int64)]) (st := []) X kV_297 (c_isWord l dC dI E h r S6 (21279923 : Int64) q7 hq7) ⟨Nat.le_of_ble_eq_true rfl, Nat.le_of_ble_eq_true rfl⟩ ⟨rfl, rfl⟩ (Nat.le_of_ble_eq_true rfl) ⟨Nat.le_of_ble_eq_true rfl, Nat.le_of_ble_eq_true rfl⟩ dX11_readOrder_176 ?_
    refine g_if_eq (tgt := 203) X dX11_readOrder_179 (by decide) hf (fun hf => ?_) (fun hf => ?_)
    · exact hB203 _ _ hf
    refine g_aload_n X dX11_readOrder_182 0 rfl ?_
    refine m_bind hf (fun q8 hq8 hf => ?_)
    refine m_callV_v (As := []) (st := []) X kV_243 (c_next l dC dI E h r F S6 q8 hq8) ⟨Nat.le_of_ble_eq_true rfl, Nat.le_of_ble_eq_true rfl⟩ ⟨rfl, rfl⟩ (Nat.le_of_ble_eq_true rfl) ⟨Nat.le_of_ble_eq_true rfl, Nat.le_of_ble_eq_true rfl⟩ dX11_readOrder_183 ?_
    refine g_aload_n X dX11_readOrder_186 0 rfl ?_
    refine m_get_49 X dX11_readOrder_187 ?_
    refine g_iload_n X dX11_readOrder_190 1 rfl ?_
    refine g_bipush X dX11_readOrder_191 kb_7 ?_
    refine g_iadd X dX11_readOrder_193 ?_
    refine g_aload_n X dX11_readOrder_194 0 rfl ?_
    refine g_lconst X dX11_readOrder_195 kl_1 ?_
    refine g_ldc2 X dX11_readOrder_196 wd7_91 ?_
    refine m_bind hf (fun q9 hq9 hf => ?_)
    refine m_callV_i (As := [.long (1 : Int64), .long (20 : Int64)]) (st := [.int (x2 + (7 : Int32)), .ref (r 49)]) X kV_334 (c_number l dC dI E h r F q8.2 (1 : Int64) (20 : Int64) q9 hq9) ⟨Nat.le_of_ble_eq_true rfl, Nat.le_of_ble_eq_true rfl⟩ ⟨rfl, rfl⟩ (Nat.le_of_ble_eq_true rfl) ⟨Nat.le_of_ble_eq_true rfl, Nat.le_of_ble_eq_true rfl⟩ dX11_readOrder_199 ?_
    refine m_ast_49 X dX11_readOrder_202 hf (fun S10 hf => ?_)
    exact hB203 _ _ hf
  have hB148 : ∀ (S : MS) (x2 : Int32), M_readOrder_B148 F S x2 = some res → GG p l e rm_readOrder s m args below meth c dC dI A 4 0 0 Q (MW E h r S) 148 [(0, .ref h), (2, .int x2)] [] := by
    intro S x2 hf
    unfold M_readOrder_B148 at hf
    refine g_aload_n X dX11_readOrder_148 0 rfl ?_
    refine g_iload_n X dX11_readOrder_149 1 rfl ?_
    refine g_iconst X dX11_readOrder_150 kc_3 ?_
    refine g_iadd X dX11_readOrder_151 ?_
    refine m_bind hf (fun q11 hq11 hf => ?_)
    refine m_callV_v (As := [.int (x2 + (3 : Int32))]) (st := []) X kV_515 (c_readSum l dC dI E h r F S (x2 + (3 : Int32)) q11 hq11) ⟨Nat.le_of_ble_eq_true rfl, Nat.le_of_ble_eq_true rfl⟩ ⟨rfl, rfl⟩ (Nat.le_of_ble_eq_true rfl) ⟨Nat.le_of_ble_eq_true rfl, Nat.le_of_ble_eq_true rfl⟩ dX11_readOrder_152 ?_
    exact hB155 _ _ hf
  have hB125 : ∀ (S : MS) (x1 : Int32) (x2 : Int32), M_readOrder_B125 F S x1 x2 = some res → GG p l e rm_readOrder s m args below meth c dC dI A 4 0 0 Q (MW E h r S) 125 [(0, .ref h), (1, .int x1), (2, .int x2)] [] := by
    intro S x1 x2 hf
    unfold M_readOrder_B125 at hf
    refine g_iload_n X dX11_readOrder_125 1 rfl ?_
    refine g_iconst X dX11_readOrder_126 kc_2 ?_
    refine g_icmp_ne (tgt := 155) X dX11_readOrder_127 (by decide) hf (fun hf => ?_) (fun hf => ?_)
    · refine g_lv [0, 2] (lv' := [(0, .ref h), (2, .int x2)]) rfl ?_
      exact hB155 _ _ hf
    refine g_aload_n X dX11_readOrder_130 0 rfl ?_
    refine m_get_19 X dX11_readOrder_131 ?_
    refine g_if_ne (tgt := 148) X dX11_readOrder_134 (by decide) hf (fun hf => ?_) (fun hf => ?_)
    · refine g_lv [0, 2] (lv' := [(0, .ref h), (2, .int x2)]) rfl ?_
      exact hB148 _ _ hf
    refine g_aload_n X dX11_readOrder_137 0 rfl ?_
    refine g_aload_n X dX11_readOrder_138 0 rfl ?_
    refine g_ldc2 X dX11_readOrder_139 wd8_75 ?_
    refine m_bind hf (fun q12 hq12 hf => ?_)
    refine m_callV_i (As := [.long (655 : Int64)]) (st := [.ref h]) X kV_297 (c_isWord l dC dI E h r S (655 : Int64) q12 hq12) ⟨Nat.le_of_ble_eq_true rfl, Nat.le_of_ble_eq_true rfl⟩ ⟨rfl, rfl⟩ (Nat.le_of_ble_eq_true rfl) ⟨Nat.le_of_ble_eq_true rfl, Nat.le_of_ble_eq_true rfl⟩ dX11_readOrder_142 ?_
    refine m_bind hf (fun q13 hq13 hf => ?_)
    refine m_callV_v (As := [.int q12]) (st := []) X kV_272 (c_must l dC dI E h r F S q12 q13 hq13) ⟨Nat.le_of_ble_eq_true rfl, Nat.le_of_ble_eq_true rfl⟩ ⟨rfl, rfl⟩ (Nat.le_of_ble_eq_true rfl) ⟨Nat.le_of_ble_eq_true rfl, Nat.le_of_ble_eq_true rfl⟩ dX11_readOrder_145 ?_
    refine g_lv [0, 2] (lv' := [(0, .ref h), (2, .int x2)]) rfl ?_
    exact hB148 _ _ hf
  have hL85 : ∀ (x1 : Int32) (x2 : Int32) (n : Nat) (S : MS) (x3 : Int32), M_readOrder_L85 F x1 x2 n S x3 = some res → GG p l e rm_readOrder s m args below meth c dC dI A 4 0 0 Q (MW E h r S) 85 [(0, .ref h), (1, .int x1), (2, .int x2), (3, .int x3)] [] := by
    intro x1 x2 n
    induction n with
    | zero => intro S x3 hf; have hf : (none : Option (Unit × MS)) = some res := hf; cases hf
    | succ n ih =>
      intro S x3 hf
      rw [M_readOrder_L85] at hf
      refine g_iload_n X dX11_readOrder_85 3 rfl ?_
      refine g_bipush X dX11_readOrder_86 kb_8 ?_
      refine g_icmp_ge (tgt := 106) X dX11_readOrder_88 (by decide) hf (fun hf => ?_) (fun hf => ?_)
      · refine g_aload_n X dX11_readOrder_106 0 rfl ?_
        refine m_get_49 X dX11_readOrder_107 ?_
        refine g_iload_n X dX11_readOrder_110 2 rfl ?_
        refine g_iload_n X dX11_readOrder_111 1 rfl ?_
        refine m_ast_49 X dX11_readOrder_112 hf (fun S14 hf => ?_)
        refine g_iload_n X dX11_readOrder_113 1 rfl ?_
        refine g_iconst X dX11_readOrder_114 kc_3 ?_
        refine g_icmp_eq (tgt := 125) X dX11_readOrder_115 (by decide) hf (fun hf => ?_) (fun hf => ?_)
        · refine g_lv [0, 1, 2] (lv' := [(0, .ref h), (1, .int x1), (2, .int x2)]) rfl ?_
          exact hB125 _ _ _ hf
        refine g_aload_n X dX11_readOrder_118 0 rfl ?_
        refine g_iload_n X dX11_readOrder_119 2 rfl ?_
        refine g_iconst X dX11_readOrder_120 kc_1 ?_
        refine g_iadd X dX11_readOrder_121 ?_
        refine m_bind hf (fun q15 hq15 hf => ?_)
        refine m_callV_v (As := [.int (x2 + (1 : Int32))]) (st := []) X kV_515 (c_readSum l dC dI E h r F S14 (x2 + (1 : Int32)) q15 hq15) ⟨Nat.le_of_ble_eq_true rfl, Nat.le_of_ble_eq_true rfl⟩ ⟨rfl, rfl⟩ (Nat.le_of_ble_eq_true rfl) ⟨Nat.le_of_ble_eq_true rfl, Nat.le_of_ble_eq_true rfl⟩ dX11_readOrder_122 ?_
        refine g_lv [0, 1, 2] (lv' := [(0, .ref h), (1, .int x1), (2, .int x2)]) rfl ?_
        exact hB125 _ _ _ hf
      refine g_aload_n X dX11_readOrder_91 0 rfl ?_
      refine m_get_49 X dX11_readOrder_92 ?_
      refine g_iload_n X dX11_readOrder_95 2 rfl ?_
      refine g_iload_n X dX11_readOrder_96 3 rfl ?_
      refine g_iadd X dX11_readOrder_97 ?_
      refine g_iconst X dX11_readOrder_98 kc_0 ?_
      refine m_ast_49 X dX11_readOrder_99 hf (fun S16 hf => ?_)
      refine g_iinc (lv' := [(3, .int (x3 + (1 : Int32))), (0, .ref h), (1, .int x1), (2, .int x2)]) X dX11_readOrder_100 3 rfl kc_1 (by decide) rfl ?_
      refine g_goto (tgt := 85) X dX11_readOrder_103 (by decide) ?_
      refine g_lv [1, 2, 3, 0] (lv' := [(0, .ref h), (1, .int x1), (2, .int x2), (3, .int (x3 + (1 : Int32)))]) rfl ?_
      exact ih _ _ hf
  have hB54 : ∀ (S : MS) (x1 : Int32) (t1 : Int32), M_readOrder_B54 F S x1 t1 = some res → GG p l e rm_readOrder s m args below meth c dC dI A 4 0 0 Q (MW E h r S) 54 [(0, .ref h), (1, .int x1)] [.int t1, .ref h] := by
    intro S x1 t1 hf
    unfold M_readOrder_B54 at hf
    refine m_bind hf (fun q17 hq17 hf => ?_)
    refine m_callV_v (As := [.int t1]) (st := []) X kV_272 (c_must l dC dI E h r F S t1 q17 hq17) ⟨Nat.le_of_ble_eq_true rfl, Nat.le_of_ble_eq_true rfl⟩ ⟨rfl, rfl⟩ (Nat.le_of_ble_eq_true rfl) ⟨Nat.le_of_ble_eq_true rfl, Nat.le_of_ble_eq_true rfl⟩ dX11_readOrder_54 ?_
    refine g_aload_n X dX11_readOrder_57 0 rfl ?_
    refine m_get_19 X dX11_readOrder_58 ?_
    refine g_if_eq (tgt := 65) X dX11_readOrder_61 (by decide) hf (fun hf => ?_) (fun hf => ?_)
    · refine g_bipush X dX11_readOrder_65 kb_8 ?_
      refine g_aload_n X dX11_readOrder_67 0 rfl ?_
      refine m_get_21 X dX11_readOrder_68 ?_
      refine g_imul X dX11_readOrder_71 ?_
      refine g_istore_n (i := 2) (lv' := [(2, .int ((8 : Int32) * (mi q17.2 21))), (0, .ref h), (1, .int x1)]) X dX11_readOrder_72 rfl (by decide) rfl ?_
      refine g_aload_n X dX11_readOrder_73 1 rfl ?_
      refine g_dup X dX11_readOrder_74 rfl ?_
      refine m_get_21 X dX11_readOrder_75 ?_
      refine g_iconst X dX11_readOrder_78 kc_1 ?_
      refine g_iadd X dX11_readOrder_79 ?_
      refine m_put_21 X dX11_readOrder_80 hf (fun S18 hf => ?_)
      refine g_iconst X dX11_readOrder_83 kc_0 ?_
      refine g_istore_n (i := 3) (lv' := [(3, .int (0 : Int32)), (2, .int ((8 : Int32) * (mi q17.2 21))), (0, .ref h), (1, .int x1)]) X dX11_readOrder_84 rfl (by decide) rfl ?_
      refine g_lv [2, 3, 1, 0] (lv' := [(0, .ref h), (1, .int x1), (2, .int ((8 : Int32) * (mi q17.2 21))), (3, .int (0 : Int32))]) rfl ?_
      exact hL85 _ _ _ _ _ hf
    exact m_retv_s hA hQ X hr hlk dX11_readOrder_64 hf
  have hB53 : ∀ (S : MS) (x1 : Int32), M_readOrder_B53 F S x1 = some res → GG p l e rm_readOrder s m args below meth c dC dI A 4 0 0 Q (MW E h r S) 53 [(0, .ref h), (1, .int x1)] [.ref h] := by
    intro S x1 hf
    unfold M_readOrder_B53 at hf
    refine g_iconst X dX11_readOrder_53 kc_0 ?_
    exact hB54 _ _ _ hf
  have hB27 : ∀ (S : MS) (k4 : Int32 → Int32 → Option (Unit × MS)) (hk4 : ∀ (x1 : Int32) (x2 : Int32), k4 x1 x2 = some res → GG p l e rm_readOrder s m args below meth c dC dI A 4 0 0 Q (MW E h r S) 4 [(0, .ref h), (1, .int x1), (2, .int x2)] []) (x2 : Int32) (t0 : Int32), M_readOrder_B27 F k4 S x2 t0 = some res → GG p l e rm_readOrder s m args below meth c dC dI A 4 0 0 Q (MW E h r S) 27 [(0, .ref h), (2, .int x2)] [.int t0] := by
    intro S k4 hk4 x2 t0 hf
    unfold M_readOrder_B27 at hf
    refine g_istore_n (i := 1) (lv' := [(1, .int t0), (0, .ref h), (2, .int x2)]) X dX11_readOrder_27 rfl (by decide) rfl ?_
    refine g_iinc (lv' := [(2, .int (x2 + (1 : Int32))), (1, .int t0), (0, .ref h)]) X dX11_readOrder_28 2 rfl kc_1 (by decide) rfl ?_
    refine g_goto (tgt := 4) X dX11_readOrder_31 (by decide) ?_
    refine g_lv [2, 1, 0] (lv' := [(0, .ref h), (1, .int t0), (2, .int (x2 + (1 : Int32)))]) rfl ?_
    exact hk4 _ _ hf
  have hL4 : ∀ (S : MS) (n : Nat) (x1 : Int32) (x2 : Int32), M_readOrder_L4 F S n x1 x2 = some res → GG p l e rm_readOrder s m args below meth c dC dI A 4 0 0 Q (MW E h r S) 4 [(0, .ref h), (1, .int x1), (2, .int x2)] [] := by
    intro S n
    induction n with
    | zero => intro x1 x2 hf; have hf : (none : Option (Unit × MS)) = some res := hf; cases hf
    | succ n ih =>
      intro x1 x2 hf
      rw [M_readOrder_L4] at hf
      refine g_iload_n X dX11_readOrder_4 2 rfl ?_
      refine g_iconst X dX11_readOrder_5 kc_4 ?_
      refine g_icmp_ge (tgt := 34) X dX11_readOrder_6 (by decide) hf (fun hf => ?_) (fun hf => ?_)
      · refine g_aload_n X dX11_readOrder_34 0 rfl ?_
        refine g_iload_n X dX11_readOrder_35 1 rfl ?_
        refine g_iconst X dX11_readOrder_36 kc_m1 ?_
        refine g_icmp_eq (tgt := 53) X dX11_readOrder_37 (by decide) hf (fun hf => ?_) (fun hf => ?_)
        · refine g_lv [0, 1] (lv' := [(0, .ref h), (1, .int x1)]) rfl ?_
          exact hB53 _ _ hf
        refine g_aload_n X dX11_readOrder_40 0 rfl ?_
        refine m_get_21 X dX11_readOrder_41 ?_
        refine g_bipush X dX11_readOrder_44 kb_12 ?_
        refine g_icmp_ge (tgt := 53) X dX11_readOrder_46 (by decide) hf (fun hf => ?_) (fun hf => ?_)
        · refine g_lv [0, 1] (lv' := [(0, .ref h), (1, .int x1)]) rfl ?_
          exact hB53 _ _ hf
        refine g_iconst X dX11_readOrder_49 kc_1 ?_
        refine g_goto (tgt := 54) X dX11_readOrder_50 (by decide) ?_
        refine g_lv [0, 1] (lv' := [(0, .ref h), (1, .int x1)]) rfl ?_
        exact hB54 _ _ _ hf
      refine g_aload_n X dX11_readOrder_9 0 rfl ?_
      refine g_aload_n X dX11_readOrder_10 0 rfl ?_
      refine m_get_48 X dX11_readOrder_11 ?_
      refine g_iload_n X dX11_readOrder_14 2 rfl ?_
      refine m_ald_48 X dX11_readOrder_15 hf (fun hf => ?_)
      refine m_bind hf (fun q19 hq19 hf => ?_)
      refine m_callV_i (As := [.long (mb S 48 (x2).toNatClampNeg)]) (st := []) X kV_297 (c_isWord l dC dI E h r S (mb S 48 (x2).toNatClampNeg) q19 hq19) ⟨Nat.le_of_ble_eq_true rfl, Nat.le_of_ble_eq_true rfl⟩ ⟨rfl, rfl⟩ (Nat.le_of_ble_eq_true rfl) ⟨Nat.le_of_ble_eq_true rfl, Nat.le_of_ble_eq_true rfl⟩ dX11_readOrder_16 ?_
      refine g_if_eq (tgt := 26) X dX11_readOrder_19 (by decide) hf (fun hf => ?_) (fun hf => ?_)
      · refine g_iload_n X dX11_readOrder_26 1 rfl ?_
        refine g_lv [0, 2] (lv' := [(0, .ref h), (2, .int x2)]) rfl ?_
        exact hB27 _ _ ih _ _ hf
      refine g_iload_n X dX11_readOrder_22 2 rfl ?_
      refine g_goto (tgt := 27) X dX11_readOrder_23 (by decide) ?_
      refine g_lv [0, 2] (lv' := [(0, .ref h), (2, .int x2)]) rfl ?_
      exact hB27 _ _ ih _ _ hf
  refine g_lv [0] (lv' := [(0, .ref h)]) rfl ?_
  unfold M_readOrder at hf
  refine g_iconst X dX11_readOrder_0 kc_m1 ?_
  refine g_istore_n (i := 1) (lv' := [(1, .int (-1 : Int32)), (0, .ref h)]) X dX11_readOrder_1 rfl (by decide) rfl ?_
  refine g_iconst X dX11_readOrder_2 kc_0 ?_
  refine g_istore_n (i := 2) (lv' := [(2, .int (0 : Int32)), (1, .int (-1 : Int32)), (0, .ref h)]) X dX11_readOrder_3 rfl (by decide) rfl ?_
  refine g_lv [2, 1, 0] (lv' := [(0, .ref h), (1, .int (-1 : Int32)), (2, .int (0 : Int32))]) rfl ?_
  exact hL4 _ _ _ _ hf
def rm_sumOf : Room := { frames := 3, cells := 0, slots := 0, locals := 72 }
set_option maxRecDepth 100000 in
set_option maxHeartbeats 4000000 in
theorem c_sumOf (l : Launch) (dC : Nat → ClassId) (dI : Nat → Nat → Nat) (E : Nat → ClassId) (h : Nat) (r : Nat → Nat) (F : Nat) (S : MS) (x1 : Int32) (res : Int32 × MS) (hf : M_sumOf F S x1 = some res) : MC l dC dI E yX11_sumOf cX11_sumOf 2 (some .int) rm_sumOf [.ref h, .int x1] (MW E h r S) (MW E h r res.2) (some (.int res.1)) := by
  refine MC_of (own := "LostLanesModel") (by decide) rfl (Nat.le_of_ble_eq_true rfl) ?_
  intro p e s m args below meth c A Q X hr hlk hA hQ
  refine g_lv [0, 1] (lv' := [(0, .ref h), (1, .int x1)]) rfl ?_
  unfold M_sumOf at hf
  refine g_aload_n X dX11_sumOf_0 0 rfl ?_
  refine m_get_53 X dX11_sumOf_1 ?_
  refine g_if_ne (tgt := 24) X dX11_sumOf_4 (by decide) hf (fun hf => ?_) (fun hf => ?_)
  · refine g_iconst X dX11_sumOf_24 kc_m1 ?_
    exact m_reti_s hA hQ X hr hlk dX11_sumOf_25 hf
  refine g_aload_n X dX11_sumOf_7 0 rfl ?_
  refine m_get_49 X dX11_sumOf_8 ?_
  refine g_iload_n X dX11_sumOf_11 1 rfl ?_
  refine m_ald_49 X dX11_sumOf_12 hf (fun hf => ?_)
  refine g_aload_n X dX11_sumOf_13 0 rfl ?_
  refine m_get_49 X dX11_sumOf_14 ?_
  refine g_iload_n X dX11_sumOf_17 1 rfl ?_
  refine g_iconst X dX11_sumOf_18 kc_1 ?_
  refine g_iadd X dX11_sumOf_19 ?_
  refine m_ald_49 X dX11_sumOf_20 hf (fun hf => ?_)
  refine g_icmp_ne (tgt := 26) X dX11_sumOf_21 (by decide) hf (fun hf => ?_) (fun hf => ?_)
  · refine g_aload_n X dX11_sumOf_26 0 rfl ?_
    refine g_iconst X dX11_sumOf_27 kc_1 ?_
    refine m_put_20 X (Or.inr rfl) dX11_sumOf_28 hf (fun S1 hf => ?_)
    refine g_aload_n X dX11_sumOf_31 0 rfl ?_
    refine g_aload_n X dX11_sumOf_32 0 rfl ?_
    refine m_get_49 X dX11_sumOf_33 ?_
    refine g_iload_n X dX11_sumOf_36 1 rfl ?_
    refine m_ald_49 X dX11_sumOf_37 hf (fun hf => ?_)
    refine g_aload_n X dX11_sumOf_38 0 rfl ?_
    refine m_get_49 X dX11_sumOf_39 ?_
    refine g_iload_n X dX11_sumOf_42 1 rfl ?_
    refine g_iconst X dX11_sumOf_43 kc_1 ?_
    refine g_iadd X dX11_sumOf_44 ?_
    refine m_ald_49 X dX11_sumOf_45 hf (fun hf => ?_)
    refine m_bind hf (fun q2 hq2 hf => ?_)
    refine m_callV_v (As := [.int (ma S1 49 (x1).toNatClampNeg), .int (ma S1 49 ((x1 + (1 : Int32))).toNatClampNeg)]) (st := []) X kV_407 (c_reckonAll l dC dI E h r F S1 (ma S1 49 (x1).toNatClampNeg) (ma S1 49 ((x1 + (1 : Int32))).toNatClampNeg) q2 hq2) ⟨Nat.le_of_ble_eq_true rfl, Nat.le_of_ble_eq_true rfl⟩ ⟨rfl, rfl⟩ (Nat.le_of_ble_eq_true rfl) ⟨Nat.le_of_ble_eq_true rfl, Nat.le_of_ble_eq_true rfl⟩ dX11_sumOf_46 ?_
    refine g_aload_n X dX11_sumOf_49 0 rfl ?_
    refine g_iconst X dX11_sumOf_50 kc_0 ?_
    refine m_put_20 X (Or.inl rfl) dX11_sumOf_51 hf (fun S3 hf => ?_)
    refine g_aload_n X dX11_sumOf_54 0 rfl ?_
    refine g_aload_n X dX11_sumOf_55 0 rfl ?_
    refine m_get_38 X dX11_sumOf_56 ?_
    obtain ⟨hz59, hf⟩ := chk_some hf
    refine m_put_53 X hz59 dX11_sumOf_59 hf (fun S4 hf => ?_)
    refine g_aload_n X dX11_sumOf_62 0 rfl ?_
    refine m_get_39 X dX11_sumOf_63 ?_
    refine g_l2i X dX11_sumOf_66 ?_
    exact m_reti_s hA hQ X hr hlk dX11_sumOf_67 hf
  refine g_iconst X dX11_sumOf_24 kc_m1 ?_
  exact m_reti_s hA hQ X hr hlk dX11_sumOf_25 hf
def rm_act : Room := { frames := 10, cells := 0, slots := 0, locals := 233 }
set_option maxRecDepth 100000 in
set_option maxHeartbeats 4000000 in
theorem c_act (l : Launch) (dC : Nat → ClassId) (dI : Nat → Nat → Nat) (E : Nat → ClassId) (h : Nat) (r : Nat → Nat) (F : Nat) (S : MS) (x1 : Int32) (x2 : Int32) (x3 : Int32) (res : Int32 × MS) (hf : M_act F S x1 x2 x3 = some res) : MC l dC dI E yX11_act cX11_act 4 (some .int) rm_act [.ref h, .int x1, .int x2, .int x3] (MW E h r S) (MW E h r res.2) (some (.int res.1)) := by
  refine MC_of (own := "LostLanesModel") (by decide) rfl (Nat.le_of_ble_eq_true rfl) ?_
  intro p e s m args below meth c A Q X hr hlk hA hQ
  refine g_lv [0, 1, 2, 3] (lv' := [(0, .ref h), (1, .int x1), (2, .int x2), (3, .int x3)]) rfl ?_
  unfold M_act at hf
  refine g_iload_n X dX11_act_0 1 rfl ?_
  refine g_ite hf (fun hs1_0 hf => ?_) (fun hs1_0 hf => ?_)
  · refine g_tsw (tgt := 28) (off := 27) X dX11_act_1 (by rw [hs1_0]; decide) (by rw [hs1_0]; decide) (by rw [hs1_0]; rfl) (by decide) ?_
    refine g_aload_n X dX11_act_28 0 rfl ?_
    refine g_iload_n X dX11_act_29 2 rfl ?_
    refine m_bind hf (fun q1 hq1 hf => ?_)
    refine m_callV_i (As := [.int x2]) (st := []) X kV_439 (c_wanderNow l dC dI E h r F S x2 q1 hq1) ⟨Nat.le_of_ble_eq_true rfl, Nat.le_of_ble_eq_true rfl⟩ ⟨rfl, rfl⟩ (Nat.le_of_ble_eq_true rfl) ⟨Nat.le_of_ble_eq_true rfl, Nat.le_of_ble_eq_true rfl⟩ dX11_act_30 ?_
    exact m_reti_s hA hQ X hr hlk dX11_act_33 hf
  refine g_ite hf (fun hs1_1 hf => ?_) (fun hs1_1 hf => ?_)
  · refine g_tsw (tgt := 34) (off := 33) X dX11_act_1 (by rw [hs1_1]; decide) (by rw [hs1_1]; decide) (by rw [hs1_1]; rfl) (by decide) ?_
    refine g_aload_n X dX11_act_34 0 rfl ?_
    refine g_iload_n X dX11_act_35 2 rfl ?_
    refine m_bind hf (fun q2 hq2 hf => ?_)
    refine m_callV_i (As := [.int x2]) (st := []) X kV_445 (c_cryNow l dC dI E h r F S x2 q2 hq2) ⟨Nat.le_of_ble_eq_true rfl, Nat.le_of_ble_eq_true rfl⟩ ⟨rfl, rfl⟩ (Nat.le_of_ble_eq_true rfl) ⟨Nat.le_of_ble_eq_true rfl, Nat.le_of_ble_eq_true rfl⟩ dX11_act_36 ?_
    exact m_reti_s hA hQ X hr hlk dX11_act_39 hf
  refine g_ite hf (fun hs1_2 hf => ?_) (fun hs1_2 hf => ?_)
  · refine g_tsw (tgt := 40) (off := 39) X dX11_act_1 (by rw [hs1_2]; decide) (by rw [hs1_2]; decide) (by rw [hs1_2]; rfl) (by decide) ?_
    refine g_aload_n X dX11_act_40 0 rfl ?_
    refine g_iload_n X dX11_act_41 2 rfl ?_
    refine g_iload_n X dX11_act_42 3 rfl ?_
    refine m_bind hf (fun q3 hq3 hf => ?_)
    refine m_callV_i (As := [.int x2, .int x3]) (st := []) X kV_448 (c_leadNow l dC dI E h r F S x2 x3 q3 hq3) ⟨Nat.le_of_ble_eq_true rfl, Nat.le_of_ble_eq_true rfl⟩ ⟨rfl, rfl⟩ (Nat.le_of_ble_eq_true rfl) ⟨Nat.le_of_ble_eq_true rfl, Nat.le_of_ble_eq_true rfl⟩ dX11_act_43 ?_
    exact m_reti_s hA hQ X hr hlk dX11_act_46 hf
  refine g_tswO (tgt := 47) X dX11_act_1 (g_out0_2 (lv_neT hs1_0 (by decide)) (lv_neT hs1_1 (by decide)) (lv_neT hs1_2 (by decide))) (by decide) ?_
  refine g_aload_n X dX11_act_47 0 rfl ?_
  refine m_bind hf (fun q4 hq4 hf => ?_)
  refine m_callV_i (As := []) (st := []) X kV_454 (c_passNow l dC dI E h r F S q4 hq4) ⟨Nat.le_of_ble_eq_true rfl, Nat.le_of_ble_eq_true rfl⟩ ⟨rfl, rfl⟩ (Nat.le_of_ble_eq_true rfl) ⟨Nat.le_of_ble_eq_true rfl, Nat.le_of_ble_eq_true rfl⟩ dX11_act_48 ?_
  exact m_reti_s hA hQ X hr hlk dX11_act_51 hf
def rm_run : Room := { frames := 11, cells := 0, slots := 0, locals := 256 }
set_option maxRecDepth 100000 in
set_option maxHeartbeats 4000000 in
theorem c_run (l : Launch) (dC : Nat → ClassId) (dI : Nat → Nat → Nat) (E : Nat → ClassId) (h : Nat) (r : Nat → Nat) (F : Nat) (S : MS) (x1 : Int32) (res : Int32 × MS) (hf : M_run F S x1 = some res) : MC l dC dI E yX11_run cX11_run 5 (some .int) rm_run [.ref h, .int x1] (MW E h r S) (MW E h r res.2) (some (.int res.1)) := by
  refine MC_of (own := "LostLanesModel") (by decide) rfl (Nat.le_of_ble_eq_true rfl) ?_
  intro p e s m args below meth c A Q X hr hlk hA hQ
  have hB173 : ∀ (S : MS) (t1 : Int32), M_run_B173 F S t1 = some res → GG p l e rm_run s m args below meth c dC dI A 5 0 0 Q (MW E h r S) 173 [(0, .ref h)] [.int t1, .ref h] := by
    intro S t1 hf
    unfold M_run_B173 at hf
    refine m_put_51 X dX11_run_173 hf (fun S1 hf => ?_)
    refine g_aload_n X dX11_run_176 0 rfl ?_
    refine g_dup X dX11_run_177 rfl ?_
    refine m_get_50 X dX11_run_178 ?_
    refine g_iconst X dX11_run_181 kc_1 ?_
    refine g_iadd X dX11_run_182 ?_
    refine m_put_50 X dX11_run_183 hf (fun S2 hf => ?_)
    refine g_iconst X dX11_run_186 kc_0 ?_
    exact m_reti_s hA hQ X hr hlk dX11_run_187 hf
  have hB105 : ∀ (S : MS) (x1 : Int32), M_run_B105 F S x1 = some res → GG p l e rm_run s m args below meth c dC dI A 5 0 0 Q (MW E h r S) 105 [(0, .ref h), (1, .int x1)] [] := by
    intro S x1 hf
    unfold M_run_B105 at hf
    refine g_aload_n X dX11_run_105 0 rfl ?_
    refine g_iload_n X dX11_run_106 1 rfl ?_
    refine g_iconst X dX11_run_107 kc_1 ?_
    refine g_iadd X dX11_run_108 ?_
    refine m_bind hf (fun q3 hq3 hf => ?_)
    refine m_callV_i (As := [.int (x1 + (1 : Int32))]) (st := []) X kV_534 (c_sumOf l dC dI E h r F S (x1 + (1 : Int32)) q3 hq3) ⟨Nat.le_of_ble_eq_true rfl, Nat.le_of_ble_eq_true rfl⟩ ⟨rfl, rfl⟩ (Nat.le_of_ble_eq_true rfl) ⟨Nat.le_of_ble_eq_true rfl, Nat.le_of_ble_eq_true rfl⟩ dX11_run_109 ?_
    refine g_istore_n (i := 2) (lv' := [(2, .int q3.1), (0, .ref h), (1, .int x1)]) X dX11_run_112 rfl (by decide) rfl ?_
    refine g_aload_n X dX11_run_113 1 rfl ?_
    refine g_iload_n X dX11_run_114 2 rfl ?_
    refine g_iconst X dX11_run_115 kc_3 ?_
    refine g_iadd X dX11_run_116 ?_
    refine m_bind hf (fun q4 hq4 hf => ?_)
    refine m_callV_i (As := [.int (x1 + (3 : Int32))]) (st := []) X kV_534 (c_sumOf l dC dI E h r F q3.2 (x1 + (3 : Int32)) q4 hq4) ⟨Nat.le_of_ble_eq_true rfl, Nat.le_of_ble_eq_true rfl⟩ ⟨rfl, rfl⟩ (Nat.le_of_ble_eq_true rfl) ⟨Nat.le_of_ble_eq_true rfl, Nat.le_of_ble_eq_true rfl⟩ dX11_run_117 ?_
    refine g_istore_n (i := 3) (lv' := [(3, .int q4.1), (2, .int q3.1), (0, .ref h), (1, .int x1)]) X dX11_run_120 rfl (by decide) rfl ?_
    refine g_aload_n X dX11_run_121 2 rfl ?_
    refine m_get_53 X dX11_run_122 ?_
    refine g_if_eq (tgt := 131) X dX11_run_125 (by decide) hf (fun hf => ?_) (fun hf => ?_)
    · refine g_aload_n X dX11_run_131 2 rfl ?_
      refine g_aload_n X dX11_run_132 2 rfl ?_
      refine m_get_49 X dX11_run_133 ?_
      refine g_iload_n X dX11_run_136 3 rfl ?_
      refine m_ald_49 X dX11_run_137 hf (fun hf => ?_)
      refine g_iload_n X dX11_run_138 1 rfl ?_
      refine g_iload_n X dX11_run_139 0 rfl ?_
      refine m_bind hf (fun q5 hq5 hf => ?_)
      refine m_callV_i (As := [.int (ma q4.2 49 (x1).toNatClampNeg), .int q3.1, .int q4.1]) (st := []) X kV_537 (c_act l dC dI E h r F q4.2 (ma q4.2 49 (x1).toNatClampNeg) q3.1 q4.1 q5 hq5) ⟨Nat.le_of_ble_eq_true rfl, Nat.le_of_ble_eq_true rfl⟩ ⟨rfl, rfl⟩ (Nat.le_of_ble_eq_true rfl) ⟨Nat.le_of_ble_eq_true rfl, Nat.le_of_ble_eq_true rfl⟩ dX11_run_140 ?_
      refine g_istore (lv' := [(4, .int q5.1), (3, .int q4.1), (2, .int q3.1), (0, .ref h), (1, .int x1)]) X dX11_run_143 (by decide) rfl ?_
      refine g_iload X dX11_run_145 0 rfl ?_
      refine g_if_ge (tgt := 153) X dX11_run_147 (by decide) hf (fun hf => ?_) (fun hf => ?_)
      · refine g_aload_n X dX11_run_153 3 rfl ?_
        refine g_aload_n X dX11_run_154 3 rfl ?_
        refine m_get_49 X dX11_run_155 ?_
        refine g_iload_n X dX11_run_158 4 rfl ?_
        refine m_ald_49 X dX11_run_159 hf (fun hf => ?_)
        refine g_iconst X dX11_run_160 kc_1 ?_
        refine g_icmp_ne (tgt := 169) X dX11_run_161 (by decide) hf (fun hf => ?_) (fun hf => ?_)
        · refine g_aload_n X dX11_run_169 3 rfl ?_
          refine m_get_51 X dX11_run_170 ?_
          refine g_lv [3] (lv' := [(0, .ref h)]) rfl ?_
          exact hB173 _ _ hf
        refine g_iload X dX11_run_164 0 rfl ?_
        refine g_goto (tgt := 173) X dX11_run_166 (by decide) ?_
        refine g_lv [3] (lv' := [(0, .ref h)]) rfl ?_
        exact hB173 _ _ hf
      refine g_bipush X dX11_run_150 kb_m3 ?_
      exact m_reti_s hA hQ X hr hlk dX11_run_152 hf
    refine g_bipush X dX11_run_128 kb_m3 ?_
    exact m_reti_s hA hQ X hr hlk dX11_run_130 hf
  refine g_lv [0, 1] (lv' := [(0, .ref h), (1, .int x1)]) rfl ?_
  unfold M_run at hf
  refine g_aload_n X dX11_run_0 0 rfl ?_
  refine m_get_36 X dX11_run_1 ?_
  refine g_iconst X dX11_run_4 kc_1 ?_
  refine g_aload_n X dX11_run_5 0 rfl ?_
  refine m_get_3 X dX11_run_6 ?_
  refine g_iconst X dX11_run_9 kc_5 ?_
  refine m_aldc_3 X kt_5 kx_5_5476 dX11_run_10 ?_
  refine g_i2l X dX11_run_11 ?_
  refine m_astc_36 X kt_1 kx_1_13 dX11_run_12 hf (fun S6 hf => ?_)
  refine g_aload_n X dX11_run_13 0 rfl ?_
  refine m_get_36 X dX11_run_14 ?_
  refine g_iconst X dX11_run_17 kc_2 ?_
  refine g_aload_n X dX11_run_18 0 rfl ?_
  refine m_get_50 X dX11_run_19 ?_
  refine g_i2l X dX11_run_22 ?_
  refine m_astc_36 X kt_2 kx_2_13 dX11_run_23 hf (fun S7 hf => ?_)
  refine g_aload_n X dX11_run_24 0 rfl ?_
  refine m_get_36 X dX11_run_25 ?_
  refine g_iconst X dX11_run_28 kc_3 ?_
  refine g_aload_n X dX11_run_29 0 rfl ?_
  refine m_get_51 X dX11_run_30 ?_
  refine g_i2l X dX11_run_33 ?_
  refine m_astc_36 X kt_3 kx_3_13 dX11_run_34 hf (fun S8 hf => ?_)
  refine g_aload_n X dX11_run_35 0 rfl ?_
  refine m_get_36 X dX11_run_36 ?_
  refine g_iconst X dX11_run_39 kc_4 ?_
  refine g_aload_n X dX11_run_40 0 rfl ?_
  refine m_bind hf (fun q9 hq9 hf => ?_)
  refine m_callV_i (As := []) (st := [.int (4 : Int32), .ref (r 36)]) X kV_531 (c_namedOnes l dC dI E h r F S8 q9 hq9) ⟨Nat.le_of_ble_eq_true rfl, Nat.le_of_ble_eq_true rfl⟩ ⟨rfl, rfl⟩ (Nat.le_of_ble_eq_true rfl) ⟨Nat.le_of_ble_eq_true rfl, Nat.le_of_ble_eq_true rfl⟩ dX11_run_41 ?_
  refine g_i2l X dX11_run_44 ?_
  refine m_astc_36 X kt_4 kx_4_13 dX11_run_45 hf (fun S10 hf => ?_)
  refine g_aload_n X dX11_run_46 0 rfl ?_
  refine m_get_36 X dX11_run_47 ?_
  refine g_iconst X dX11_run_50 kc_5 ?_
  refine g_aload_n X dX11_run_51 0 rfl ?_
  refine m_get_3 X dX11_run_52 ?_
  refine g_iconst X dX11_run_55 kc_1 ?_
  refine m_aldc_3 X kt_1 kx_1_5476 dX11_run_56 ?_
  refine g_i2l X dX11_run_57 ?_
  refine m_astc_36 X kt_5 kx_5_13 dX11_run_58 hf (fun S11 hf => ?_)
  refine g_aload_n X dX11_run_59 0 rfl ?_
  refine g_iconst X dX11_run_60 kc_0 ?_
  refine m_put_53 X (Or.inl rfl) dX11_run_61 hf (fun S12 hf => ?_)
  refine g_aload_n X dX11_run_64 0 rfl ?_
  refine m_get_49 X dX11_run_65 ?_
  refine g_iload_n X dX11_run_68 1 rfl ?_
  refine g_iconst X dX11_run_69 kc_5 ?_
  refine g_iadd X dX11_run_70 ?_
  refine m_ald_49 X dX11_run_71 hf (fun hf => ?_)
  refine g_aload_n X dX11_run_72 0 rfl ?_
  refine m_get_49 X dX11_run_73 ?_
  refine g_iload_n X dX11_run_76 1 rfl ?_
  refine g_bipush X dX11_run_77 kb_6 ?_
  refine g_iadd X dX11_run_79 ?_
  refine m_ald_49 X dX11_run_80 hf (fun hf => ?_)
  refine g_icmp_ge (tgt := 105) X dX11_run_81 (by decide) hf (fun hf => ?_) (fun hf => ?_)
  · exact hB105 _ _ hf
  refine g_aload_n X dX11_run_84 0 rfl ?_
  refine g_iload_n X dX11_run_85 1 rfl ?_
  refine g_iconst X dX11_run_86 kc_5 ?_
  refine g_iadd X dX11_run_87 ?_
  refine m_bind hf (fun q13 hq13 hf => ?_)
  refine m_callV_i (As := [.int (x1 + (5 : Int32))]) (st := []) X kV_534 (c_sumOf l dC dI E h r F S12 (x1 + (5 : Int32)) q13 hq13) ⟨Nat.le_of_ble_eq_true rfl, Nat.le_of_ble_eq_true rfl⟩ ⟨rfl, rfl⟩ (Nat.le_of_ble_eq_true rfl) ⟨Nat.le_of_ble_eq_true rfl, Nat.le_of_ble_eq_true rfl⟩ dX11_run_88 ?_
  refine g_istore_n (i := 2) (lv' := [(2, .int q13.1), (0, .ref h), (1, .int x1)]) X dX11_run_91 rfl (by decide) rfl ?_
  refine g_aload_n X dX11_run_92 1 rfl ?_
  refine m_get_53 X dX11_run_93 ?_
  refine g_if_ne (tgt := 103) X dX11_run_96 (by decide) hf (fun hf => ?_) (fun hf => ?_)
  · refine g_iconst X dX11_run_103 kc_0 ?_
    exact m_reti_s hA hQ X hr hlk dX11_run_104 hf
  refine g_iload_n X dX11_run_99 0 rfl ?_
  refine g_if_ne (tgt := 105) X dX11_run_100 (by decide) hf (fun hf => ?_) (fun hf => ?_)
  · refine g_lv [1, 2] (lv' := [(0, .ref h), (1, .int x1)]) rfl ?_
    exact hB105 _ _ hf
  refine g_iconst X dX11_run_103 kc_0 ?_
  exact m_reti_s hA hQ X hr hlk dX11_run_104 hf
def rm_giveBack : Room := { frames := 1, cells := 0, slots := 0, locals := 22 }
set_option maxRecDepth 100000 in
set_option maxHeartbeats 4000000 in
theorem c_giveBack (l : Launch) (dC : Nat → ClassId) (dI : Nat → Nat → Nat) (E : Nat → ClassId) (h : Nat) (r : Nat → Nat) (F : Nat) (S : MS) (x1 : Int32) (res : Unit × MS) (hf : M_giveBack F S x1 = some res) : MC l dC dI E yX11_giveBack cX11_giveBack 3 none rm_giveBack [.ref h, .int x1] (MW E h r S) (MW E h r res.2) none := by
  refine MC_of (own := "LostLanesModel") (by decide) rfl (Nat.le_of_ble_eq_true rfl) ?_
  intro p e s m args below meth c A Q X hr hlk hA hQ
  have hL35 : ∀ (x1 : Int32) (n : Nat) (S : MS) (x2 : Int32), M_giveBack_L35 F x1 n S x2 = some res → GG p l e rm_giveBack s m args below meth c dC dI A 3 0 0 Q (MW E h r S) 35 [(0, .ref h), (1, .int x1), (2, .int x2)] [] := by
    intro x1 n
    induction n with
    | zero => intro S x2 hf; have hf : (none : Option (Unit × MS)) = some res := hf; cases hf
    | succ n ih =>
      intro S x2 hf
      rw [M_giveBack_L35] at hf
      refine g_iload_n X dX11_giveBack_35 2 rfl ?_
      refine g_bipush X dX11_giveBack_36 kb_16 ?_
      refine g_icmp_ge (tgt := 59) X dX11_giveBack_38 (by decide) hf (fun hf => ?_) (fun hf => ?_)
      · refine g_aload_n X dX11_giveBack_59 0 rfl ?_
        refine g_iload_n X dX11_giveBack_60 1 rfl ?_
        refine m_put_8 X dX11_giveBack_61 hf (fun S1 hf => ?_)
        exact m_retv_s hA hQ X hr hlk dX11_giveBack_64 hf
      refine g_aload_n X dX11_giveBack_41 0 rfl ?_
      refine m_get_7 X dX11_giveBack_42 ?_
      refine g_iload_n X dX11_giveBack_45 2 rfl ?_
      refine g_aload_n X dX11_giveBack_46 0 rfl ?_
      refine m_get_10 X dX11_giveBack_47 ?_
      refine g_iload_n X dX11_giveBack_50 2 rfl ?_
      refine m_ald_10 X dX11_giveBack_51 hf (fun hf => ?_)
      refine m_ast_7 X dX11_giveBack_52 hf (fun S2 hf => ?_)
      refine g_iinc (lv' := [(2, .int (x2 + (1 : Int32))), (0, .ref h), (1, .int x1)]) X dX11_giveBack_53 2 rfl kc_1 (by decide) rfl ?_
      refine g_goto (tgt := 35) X dX11_giveBack_56 (by decide) ?_
      refine g_lv [1, 2, 0] (lv' := [(0, .ref h), (1, .int x1), (2, .int (x2 + (1 : Int32)))]) rfl ?_
      exact ih _ _ hf
  have hL8 : ∀ (x1 : Int32) (n : Nat) (S : MS) (x2 : Int32), M_giveBack_L8 F x1 n S x2 = some res → GG p l e rm_giveBack s m args below meth c dC dI A 3 0 0 Q (MW E h r S) 8 [(0, .ref h), (1, .int x1), (2, .int x2)] [] := by
    intro x1 n
    induction n with
    | zero => intro S x2 hf; have hf : (none : Option (Unit × MS)) = some res := hf; cases hf
    | succ n ih =>
      intro S x2 hf
      rw [M_giveBack_L8] at hf
      refine g_iload_n X dX11_giveBack_8 2 rfl ?_
      refine g_sipush X dX11_giveBack_9 ks_336 ?_
      refine g_icmp_ge (tgt := 33) X dX11_giveBack_12 (by decide) hf (fun hf => ?_) (fun hf => ?_)
      · refine g_iconst X dX11_giveBack_33 kc_0 ?_
        refine g_istore_n (i := 2) (lv' := [(2, .int (0 : Int32)), (0, .ref h), (1, .int x1)]) X dX11_giveBack_34 rfl (by decide) rfl ?_
        refine g_lv [1, 2, 0] (lv' := [(0, .ref h), (1, .int x1), (2, .int (0 : Int32))]) rfl ?_
        exact hL35 _ _ _ _ hf
      refine g_aload_n X dX11_giveBack_15 0 rfl ?_
      refine m_get_6 X dX11_giveBack_16 ?_
      refine g_iload_n X dX11_giveBack_19 2 rfl ?_
      refine g_aload_n X dX11_giveBack_20 0 rfl ?_
      refine m_get_9 X dX11_giveBack_21 ?_
      refine g_iload_n X dX11_giveBack_24 2 rfl ?_
      refine m_ald_9 X dX11_giveBack_25 hf (fun hf => ?_)
      refine m_ast_6 X dX11_giveBack_26 hf (fun S3 hf => ?_)
      refine g_iinc (lv' := [(2, .int (x2 + (1 : Int32))), (0, .ref h), (1, .int x1)]) X dX11_giveBack_27 2 rfl kc_1 (by decide) rfl ?_
      refine g_goto (tgt := 8) X dX11_giveBack_30 (by decide) ?_
      refine g_lv [1, 2, 0] (lv' := [(0, .ref h), (1, .int x1), (2, .int (x2 + (1 : Int32)))]) rfl ?_
      exact ih _ _ hf
  refine g_lv [0, 1] (lv' := [(0, .ref h), (1, .int x1)]) rfl ?_
  unfold M_giveBack at hf
  refine g_aload_n X dX11_giveBack_0 0 rfl ?_
  refine g_bipush X dX11_giveBack_1 kb_17 ?_
  refine m_bind hf (fun q4 hq4 hf => ?_)
  refine m_callV_v (As := [.int (17 : Int32)]) (st := []) X kV_176 (c_putBack l dC dI E h r F S (17 : Int32) q4 hq4) ⟨Nat.le_of_ble_eq_true rfl, Nat.le_of_ble_eq_true rfl⟩ ⟨rfl, rfl⟩ (Nat.le_of_ble_eq_true rfl) ⟨Nat.le_of_ble_eq_true rfl, Nat.le_of_ble_eq_true rfl⟩ dX11_giveBack_3 ?_
  refine g_iconst X dX11_giveBack_6 kc_0 ?_
  refine g_istore_n (i := 2) (lv' := [(2, .int (0 : Int32)), (0, .ref h), (1, .int x1)]) X dX11_giveBack_7 rfl (by decide) rfl ?_
  refine g_lv [1, 2, 0] (lv' := [(0, .ref h), (1, .int x1), (2, .int (0 : Int32))]) rfl ?_
  exact hL8 _ _ _ _ hf
def rm_orders : Room := { frames := 12, cells := 0, slots := 0, locals := 280 }
set_option maxRecDepth 100000 in
set_option maxHeartbeats 4000000 in
theorem c_orders (l : Launch) (dC : Nat → ClassId) (dI : Nat → Nat → Nat) (E : Nat → ClassId) (h : Nat) (r : Nat → Nat) (F : Nat) (S : MS)  (res : Int32 × MS) (hf : M_orders F S = some res) : MC l dC dI E yX11_orders cX11_orders 4 (some .int) rm_orders [.ref h] (MW E h r S) (MW E h r res.2) (some (.int res.1)) := by
  refine MC_of (own := "LostLanesModel") (by decide) rfl (Nat.le_of_ble_eq_true rfl) ?_
  intro p e s m args below meth c A Q X hr hlk hA hQ
  have hL150 : ∀ (x1 : Int32) (k140 : MS → Int32 → Option (Int32 × MS)) (hk140 : ∀ (S : MS) (x2 : Int32), k140 S x2 = some res → GG p l e rm_orders s m args below meth c dC dI A 4 0 0 Q (MW E h r S) 140 [(0, .ref h), (1, .int x1), (2, .int x2)] []) (x2 : Int32) (n : Nat) (S : MS) (x3 : Int32), M_orders_L150 F k140 x1 x2 n S x3 = some res → GG p l e rm_orders s m args below meth c dC dI A 4 0 0 Q (MW E h r S) 150 [(0, .ref h), (1, .int x1), (2, .int x2), (3, .int x3)] [] := by
    intro x1 k140 hk140 x2 n
    induction n with
    | zero => intro S x3 hf; have hf : (none : Option (Int32 × MS)) = some res := hf; cases hf
    | succ n ih =>
      intro S x3 hf
      rw [M_orders_L150] at hf
      refine g_iload_n X dX11_orders_150 3 rfl ?_
      refine g_aload_n X dX11_orders_151 0 rfl ?_
      refine m_get_49 X dX11_orders_152 ?_
      refine g_bipush X dX11_orders_155 kb_8 ?_
      refine g_iload_n X dX11_orders_157 2 rfl ?_
      refine g_imul X dX11_orders_158 ?_
      refine g_bipush X dX11_orders_159 kb_7 ?_
      refine g_iadd X dX11_orders_161 ?_
      refine m_ald_49 X dX11_orders_162 hf (fun hf => ?_)
      refine g_icmp_ge (tgt := 200) X dX11_orders_163 (by decide) hf (fun hf => ?_) (fun hf => ?_)
      · refine g_iinc (lv' := [(2, .int (x2 + (1 : Int32))), (0, .ref h), (1, .int x1), (3, .int x3)]) X dX11_orders_200 2 rfl kc_1 (by decide) rfl ?_
        refine g_goto (tgt := 140) X dX11_orders_203 (by decide) ?_
        refine g_lv [1, 2, 0] (lv' := [(0, .ref h), (1, .int x1), (2, .int (x2 + (1 : Int32)))]) rfl ?_
        exact hk140 _ _ hf
      refine g_aload_n X dX11_orders_166 0 rfl ?_
      refine g_bipush X dX11_orders_167 kb_8 ?_
      refine g_iload_n X dX11_orders_169 2 rfl ?_
      refine g_imul X dX11_orders_170 ?_
      refine m_bind hf (fun q1 hq1 hf => ?_)
      refine m_callV_i (As := [.int ((8 : Int32) * x2)]) (st := []) X kV_544 (c_run l dC dI E h r F S ((8 : Int32) * x2) q1 hq1) ⟨Nat.le_of_ble_eq_true rfl, Nat.le_of_ble_eq_true rfl⟩ ⟨rfl, rfl⟩ (Nat.le_of_ble_eq_true rfl) ⟨Nat.le_of_ble_eq_true rfl, Nat.le_of_ble_eq_true rfl⟩ dX11_orders_171 ?_
      refine g_if_ge (tgt := 194) X dX11_orders_174 (by decide) hf (fun hf => ?_) (fun hf => ?_)
      · refine g_iinc (lv' := [(3, .int (x3 + (1 : Int32))), (0, .ref h), (1, .int x1), (2, .int x2)]) X dX11_orders_194 3 rfl kc_1 (by decide) rfl ?_
        refine g_goto (tgt := 150) X dX11_orders_197 (by decide) ?_
        refine g_lv [1, 2, 3, 0] (lv' := [(0, .ref h), (1, .int x1), (2, .int x2), (3, .int (x3 + (1 : Int32)))]) rfl ?_
        exact ih _ _ hf
      refine g_aload_n X dX11_orders_177 0 rfl ?_
      refine g_iload_n X dX11_orders_178 1 rfl ?_
      refine m_bind hf (fun q2 hq2 hf => ?_)
      refine m_callV_v (As := [.int x1]) (st := []) X kV_547 (c_giveBack l dC dI E h r F q1.2 x1 q2 hq2) ⟨Nat.le_of_ble_eq_true rfl, Nat.le_of_ble_eq_true rfl⟩ ⟨rfl, rfl⟩ (Nat.le_of_ble_eq_true rfl) ⟨Nat.le_of_ble_eq_true rfl, Nat.le_of_ble_eq_true rfl⟩ dX11_orders_179 ?_
      refine g_aload_n X dX11_orders_182 0 rfl ?_
      refine g_iload_n X dX11_orders_183 2 rfl ?_
      refine m_put_52 X dX11_orders_184 hf (fun S3 hf => ?_)
      refine g_aload_n X dX11_orders_187 0 rfl ?_
      refine g_bipush X dX11_orders_188 kb_m3 ?_
      refine m_bind hf (fun q4 hq4 hf => ?_)
      refine m_callV_i (As := [.int (-3 : Int32)]) (st := []) X kV_168 (c_tell l dC dI E h r S3 (-3 : Int32) q4 hq4) ⟨Nat.le_of_ble_eq_true rfl, Nat.le_of_ble_eq_true rfl⟩ ⟨rfl, rfl⟩ (Nat.le_of_ble_eq_true rfl) ⟨Nat.le_of_ble_eq_true rfl, Nat.le_of_ble_eq_true rfl⟩ dX11_orders_190 ?_
      exact m_reti_s hA hQ X hr hlk dX11_orders_193 hf
  have hL140 : ∀ (x1 : Int32) (n : Nat) (S : MS) (x2 : Int32), M_orders_L140 F x1 n S x2 = some res → GG p l e rm_orders s m args below meth c dC dI A 4 0 0 Q (MW E h r S) 140 [(0, .ref h), (1, .int x1), (2, .int x2)] [] := by
    intro x1 n
    induction n with
    | zero => intro S x2 hf; have hf : (none : Option (Int32 × MS)) = some res := hf; cases hf
    | succ n ih =>
      intro S x2 hf
      rw [M_orders_L140] at hf
      refine g_iload_n X dX11_orders_140 2 rfl ?_
      refine g_aload_n X dX11_orders_141 0 rfl ?_
      refine m_get_21 X dX11_orders_142 ?_
      refine g_icmp_ge (tgt := 206) X dX11_orders_145 (by decide) hf (fun hf => ?_) (fun hf => ?_)
      · refine g_aload_n X dX11_orders_206 0 rfl ?_
        refine g_aload_n X dX11_orders_207 0 rfl ?_
        refine m_get_50 X dX11_orders_208 ?_
        refine m_bind hf (fun q5 hq5 hf => ?_)
        refine m_callV_i (As := [.int (mi S 50)]) (st := []) X kV_168 (c_tell l dC dI E h r S (mi S 50) q5 hq5) ⟨Nat.le_of_ble_eq_true rfl, Nat.le_of_ble_eq_true rfl⟩ ⟨rfl, rfl⟩ (Nat.le_of_ble_eq_true rfl) ⟨Nat.le_of_ble_eq_true rfl, Nat.le_of_ble_eq_true rfl⟩ dX11_orders_211 ?_
        exact m_reti_s hA hQ X hr hlk dX11_orders_214 hf
      refine g_iconst X dX11_orders_148 kc_0 ?_
      refine g_istore_n (i := 3) (lv' := [(3, .int (0 : Int32)), (0, .ref h), (1, .int x1), (2, .int x2)]) X dX11_orders_149 rfl (by decide) rfl ?_
      refine g_lv [1, 2, 3, 0] (lv' := [(0, .ref h), (1, .int x1), (2, .int x2), (3, .int (0 : Int32))]) rfl ?_
      exact hL150 _ _ ih _ _ _ _ hf
  have hL104 : ∀ (x1 : Int32) (n : Nat) (S : MS) (x2 : Int32), M_orders_L104 F x1 n S x2 = some res → GG p l e rm_orders s m args below meth c dC dI A 4 0 0 Q (MW E h r S) 104 [(0, .ref h), (1, .int x1), (2, .int x2)] [] := by
    intro x1 n
    induction n with
    | zero => intro S x2 hf; have hf : (none : Option (Int32 × MS)) = some res := hf; cases hf
    | succ n ih =>
      intro S x2 hf
      rw [M_orders_L104] at hf
      refine g_iload_n X dX11_orders_104 2 rfl ?_
      refine g_bipush X dX11_orders_105 kb_16 ?_
      refine g_icmp_ge (tgt := 128) X dX11_orders_107 (by decide) hf (fun hf => ?_) (fun hf => ?_)
      · refine g_aload_n X dX11_orders_128 0 rfl ?_
        refine g_iconst X dX11_orders_129 kc_0 ?_
        refine m_put_50 X dX11_orders_130 hf (fun S6 hf => ?_)
        refine g_aload_n X dX11_orders_133 0 rfl ?_
        refine g_iconst X dX11_orders_134 kc_m1 ?_
        refine m_put_51 X dX11_orders_135 hf (fun S7 hf => ?_)
        refine g_iconst X dX11_orders_138 kc_0 ?_
        refine g_istore_n (i := 2) (lv' := [(2, .int (0 : Int32)), (0, .ref h), (1, .int x1)]) X dX11_orders_139 rfl (by decide) rfl ?_
        refine g_lv [1, 2, 0] (lv' := [(0, .ref h), (1, .int x1), (2, .int (0 : Int32))]) rfl ?_
        exact hL140 _ _ _ _ hf
      refine g_aload_n X dX11_orders_110 0 rfl ?_
      refine m_get_10 X dX11_orders_111 ?_
      refine g_iload_n X dX11_orders_114 2 rfl ?_
      refine g_aload_n X dX11_orders_115 0 rfl ?_
      refine m_get_7 X dX11_orders_116 ?_
      refine g_iload_n X dX11_orders_119 2 rfl ?_
      refine m_ald_7 X dX11_orders_120 hf (fun hf => ?_)
      refine m_ast_10 X dX11_orders_121 hf (fun S8 hf => ?_)
      refine g_iinc (lv' := [(2, .int (x2 + (1 : Int32))), (0, .ref h), (1, .int x1)]) X dX11_orders_122 2 rfl kc_1 (by decide) rfl ?_
      refine g_goto (tgt := 104) X dX11_orders_125 (by decide) ?_
      refine g_lv [1, 2, 0] (lv' := [(0, .ref h), (1, .int x1), (2, .int (x2 + (1 : Int32)))]) rfl ?_
      exact ih _ _ hf
  have hL77 : ∀ (x1 : Int32) (n : Nat) (S : MS) (x2 : Int32), M_orders_L77 F x1 n S x2 = some res → GG p l e rm_orders s m args below meth c dC dI A 4 0 0 Q (MW E h r S) 77 [(0, .ref h), (1, .int x1), (2, .int x2)] [] := by
    intro x1 n
    induction n with
    | zero => intro S x2 hf; have hf : (none : Option (Int32 × MS)) = some res := hf; cases hf
    | succ n ih =>
      intro S x2 hf
      rw [M_orders_L77] at hf
      refine g_iload_n X dX11_orders_77 2 rfl ?_
      refine g_sipush X dX11_orders_78 ks_336 ?_
      refine g_icmp_ge (tgt := 102) X dX11_orders_81 (by decide) hf (fun hf => ?_) (fun hf => ?_)
      · refine g_iconst X dX11_orders_102 kc_0 ?_
        refine g_istore_n (i := 2) (lv' := [(2, .int (0 : Int32)), (0, .ref h), (1, .int x1)]) X dX11_orders_103 rfl (by decide) rfl ?_
        refine g_lv [1, 2, 0] (lv' := [(0, .ref h), (1, .int x1), (2, .int (0 : Int32))]) rfl ?_
        exact hL104 _ _ _ _ hf
      refine g_aload_n X dX11_orders_84 0 rfl ?_
      refine m_get_9 X dX11_orders_85 ?_
      refine g_iload_n X dX11_orders_88 2 rfl ?_
      refine g_aload_n X dX11_orders_89 0 rfl ?_
      refine m_get_6 X dX11_orders_90 ?_
      refine g_iload_n X dX11_orders_93 2 rfl ?_
      refine m_ald_6 X dX11_orders_94 hf (fun hf => ?_)
      refine m_ast_9 X dX11_orders_95 hf (fun S9 hf => ?_)
      refine g_iinc (lv' := [(2, .int (x2 + (1 : Int32))), (0, .ref h), (1, .int x1)]) X dX11_orders_96 2 rfl kc_1 (by decide) rfl ?_
      refine g_goto (tgt := 77) X dX11_orders_99 (by decide) ?_
      refine g_lv [1, 2, 0] (lv' := [(0, .ref h), (1, .int x1), (2, .int (x2 + (1 : Int32)))]) rfl ?_
      exact ih _ _ hf
  have hB46 : ∀ (S : MS), M_orders_B46 F S = some res → GG p l e rm_orders s m args below meth c dC dI A 4 0 0 Q (MW E h r S) 46 [(0, .ref h)] [] := by
    intro S hf
    unfold M_orders_B46 at hf
    refine g_aload_n X dX11_orders_46 0 rfl ?_
    refine m_bind hf (fun q10 hq10 hf => ?_)
    refine m_callV_v (As := []) (st := []) X kV_384 (c_endText l dC dI E h r F S q10 hq10) ⟨Nat.le_of_ble_eq_true rfl, Nat.le_of_ble_eq_true rfl⟩ ⟨rfl, rfl⟩ (Nat.le_of_ble_eq_true rfl) ⟨Nat.le_of_ble_eq_true rfl, Nat.le_of_ble_eq_true rfl⟩ dX11_orders_47 ?_
    refine g_aload_n X dX11_orders_50 0 rfl ?_
    refine m_get_19 X dX11_orders_51 ?_
    refine g_if_eq (tgt := 64) X dX11_orders_54 (by decide) hf (fun hf => ?_) (fun hf => ?_)
    · refine g_aload_n X dX11_orders_64 0 rfl ?_
      refine g_bipush X dX11_orders_65 kb_17 ?_
      refine m_bind hf (fun q11 hq11 hf => ?_)
      refine m_callV_v (As := [.int (17 : Int32)]) (st := []) X kV_172 (c_keepAll l dC dI E h r F q10.2 (17 : Int32) q11 hq11) ⟨Nat.le_of_ble_eq_true rfl, Nat.le_of_ble_eq_true rfl⟩ ⟨rfl, rfl⟩ (Nat.le_of_ble_eq_true rfl) ⟨Nat.le_of_ble_eq_true rfl, Nat.le_of_ble_eq_true rfl⟩ dX11_orders_67 ?_
      refine g_aload_n X dX11_orders_70 0 rfl ?_
      refine m_get_8 X dX11_orders_71 ?_
      refine g_istore_n (i := 1) (lv' := [(1, .int (mi q11.2 8)), (0, .ref h)]) X dX11_orders_74 rfl (by decide) rfl ?_
      refine g_iconst X dX11_orders_75 kc_0 ?_
      refine g_istore_n (i := 2) (lv' := [(2, .int (0 : Int32)), (1, .int (mi q11.2 8)), (0, .ref h)]) X dX11_orders_76 rfl (by decide) rfl ?_
      refine g_lv [2, 1, 0] (lv' := [(0, .ref h), (1, .int (mi q11.2 8)), (2, .int (0 : Int32))]) rfl ?_
      exact hL77 _ _ _ _ hf
    refine g_aload_n X dX11_orders_57 0 rfl ?_
    refine g_bipush X dX11_orders_58 kb_m6 ?_
    refine m_bind hf (fun q12 hq12 hf => ?_)
    refine m_callV_i (As := [.int (-6 : Int32)]) (st := []) X kV_168 (c_tell l dC dI E h r q10.2 (-6 : Int32) q12 hq12) ⟨Nat.le_of_ble_eq_true rfl, Nat.le_of_ble_eq_true rfl⟩ ⟨rfl, rfl⟩ (Nat.le_of_ble_eq_true rfl) ⟨Nat.le_of_ble_eq_true rfl, Nat.le_of_ble_eq_true rfl⟩ dX11_orders_60 ?_
    exact m_reti_s hA hQ X hr hlk dX11_orders_63 hf
  have hL19 : ∀  (n : Nat) (S : MS), M_orders_L19 F n S = some res → GG p l e rm_orders s m args below meth c dC dI A 4 0 0 Q (MW E h r S) 19 [(0, .ref h)] [] := by
    intro  n
    induction n with
    | zero => intro S hf; have hf : (none : Option (Int32 × MS)) = some res := hf; cases hf
    | succ n ih =>
      intro S hf
      rw [M_orders_L19] at hf
      refine g_aload_n X dX11_orders_19 0 rfl ?_
      refine m_get_19 X dX11_orders_20 ?_
      refine g_if_ne (tgt := 46) X dX11_orders_23 (by decide) hf (fun hf => ?_) (fun hf => ?_)
      · exact hB46 _ hf
      refine g_aload_n X dX11_orders_26 0 rfl ?_
      refine g_bipush X dX11_orders_27 kb_59 ?_
      refine m_bind hf (fun q13 hq13 hf => ?_)
      refine m_callV_i (As := [.int (59 : Int32)]) (st := []) X kV_310 (c_isSign l dC dI E h r S (59 : Int32) q13 hq13) ⟨Nat.le_of_ble_eq_true rfl, Nat.le_of_ble_eq_true rfl⟩ ⟨rfl, rfl⟩ (Nat.le_of_ble_eq_true rfl) ⟨Nat.le_of_ble_eq_true rfl, Nat.le_of_ble_eq_true rfl⟩ dX11_orders_29 ?_
      refine g_if_eq (tgt := 46) X dX11_orders_32 (by decide) hf (fun hf => ?_) (fun hf => ?_)
      · exact hB46 _ hf
      refine g_aload_n X dX11_orders_35 0 rfl ?_
      refine m_bind hf (fun q14 hq14 hf => ?_)
      refine m_callV_v (As := []) (st := []) X kV_243 (c_next l dC dI E h r F S q14 hq14) ⟨Nat.le_of_ble_eq_true rfl, Nat.le_of_ble_eq_true rfl⟩ ⟨rfl, rfl⟩ (Nat.le_of_ble_eq_true rfl) ⟨Nat.le_of_ble_eq_true rfl, Nat.le_of_ble_eq_true rfl⟩ dX11_orders_36 ?_
      refine g_aload_n X dX11_orders_39 0 rfl ?_
      refine m_bind hf (fun q15 hq15 hf => ?_)
      refine m_callV_v (As := []) (st := []) X kV_541 (c_readOrder l dC dI E h r F q14.2 q15 hq15) ⟨Nat.le_of_ble_eq_true rfl, Nat.le_of_ble_eq_true rfl⟩ ⟨rfl, rfl⟩ (Nat.le_of_ble_eq_true rfl) ⟨Nat.le_of_ble_eq_true rfl, Nat.le_of_ble_eq_true rfl⟩ dX11_orders_40 ?_
      refine g_goto (tgt := 19) X dX11_orders_43 (by decide) ?_
      exact ih _ hf
  refine g_lv [0] (lv' := [(0, .ref h)]) rfl ?_
  unfold M_orders at hf
  refine g_aload_n X dX11_orders_0 0 rfl ?_
  refine g_iconst X dX11_orders_1 kc_0 ?_
  refine m_put_0 X dX11_orders_2 hf (fun S16 hf => ?_)
  refine g_aload_n X dX11_orders_5 0 rfl ?_
  refine g_iconst X dX11_orders_6 kc_m1 ?_
  refine m_put_52 X dX11_orders_7 hf (fun S17 hf => ?_)
  refine g_aload_n X dX11_orders_10 0 rfl ?_
  refine g_iconst X dX11_orders_11 kc_1 ?_
  refine m_bind hf (fun q18 hq18 hf => ?_)
  refine m_callV_v (As := [.int (1 : Int32)]) (st := []) X kV_378 (c_beginText l dC dI E h r F S17 (1 : Int32) q18 hq18) ⟨Nat.le_of_ble_eq_true rfl, Nat.le_of_ble_eq_true rfl⟩ ⟨rfl, rfl⟩ (Nat.le_of_ble_eq_true rfl) ⟨Nat.le_of_ble_eq_true rfl, Nat.le_of_ble_eq_true rfl⟩ dX11_orders_12 ?_
  refine g_aload_n X dX11_orders_15 0 rfl ?_
  refine m_bind hf (fun q19 hq19 hf => ?_)
  refine m_callV_v (As := []) (st := []) X kV_541 (c_readOrder l dC dI E h r F q18.2 q19 hq19) ⟨Nat.le_of_ble_eq_true rfl, Nat.le_of_ble_eq_true rfl⟩ ⟨rfl, rfl⟩ (Nat.le_of_ble_eq_true rfl) ⟨Nat.le_of_ble_eq_true rfl, Nat.le_of_ble_eq_true rfl⟩ dX11_orders_16 ?_
  exact hL19 _ _ hf
def rm_stopped : Room := { frames := 0, cells := 0, slots := 0, locals := 0 }
set_option maxRecDepth 100000 in
set_option maxHeartbeats 4000000 in
theorem c_stopped (l : Launch) (dC : Nat → ClassId) (dI : Nat → Nat → Nat) (E : Nat → ClassId) (h : Nat) (r : Nat → Nat) (S : MS)  (res : Int32 × MS) (hf : M_stopped S = some res) : MC l dC dI E yX11_stopped cX11_stopped 1 (some .int) rm_stopped [.ref h] (MW E h r S) (MW E h r res.2) (some (.int res.1)) := by
  refine MC_of (own := "LostLanesModel") (by decide) rfl (Nat.le_of_ble_eq_true rfl) ?_
  intro p e s m args below meth c A Q X hr hlk hA hQ
  refine g_lv [0] (lv' := [(0, .ref h)]) rfl ?_
  unfold M_stopped at hf
  refine g_aload_n X dX11_stopped_0 0 rfl ?_
  refine g_iconst X dX11_stopped_1 kc_0 ?_
  refine m_put_0 X dX11_stopped_2 hf (fun S1 hf => ?_)
  refine g_aload_n X dX11_stopped_5 0 rfl ?_
  refine m_get_52 X dX11_stopped_6 ?_
  exact m_reti_s hA hQ X hr hlk dX11_stopped_9 hf
def rm_draw : Room := { frames := 0, cells := 0, slots := 0, locals := 0 }
set_option maxRecDepth 100000 in
set_option maxHeartbeats 4000000 in
theorem c_draw (l : Launch) (dC : Nat → ClassId) (dI : Nat → Nat → Nat) (E : Nat → ClassId) (h : Nat) (r : Nat → Nat) (S : MS) (x1 : Int32) (res : Int32 × MS) (hf : M_draw S x1 = some res) : MC l dC dI E yX11_draw cX11_draw 2 (some .int) rm_draw [.ref h, .int x1] (MW E h r S) (MW E h r res.2) (some (.int res.1)) := by
  refine MC_of (own := "LostLanesModel") (by decide) rfl (Nat.le_of_ble_eq_true rfl) ?_
  intro p e s m args below meth c A Q X hr hlk hA hQ
  refine g_lv [0, 1] (lv' := [(0, .ref h), (1, .int x1)]) rfl ?_
  unfold M_draw at hf
  refine g_aload_n X dX11_draw_0 0 rfl ?_
  refine g_aload_n X dX11_draw_1 0 rfl ?_
  refine m_get_54 X dX11_draw_2 ?_
  refine g_ldc2 X dX11_draw_5 wd8_109 ?_
  refine g_lmul X dX11_draw_8 ?_
  refine g_ldc2 X dX11_draw_9 wd8_110 ?_
  refine g_ladd X dX11_draw_12 ?_
  refine g_ldc2 X dX11_draw_13 wd8_111 ?_
  refine g_lrem X dX11_draw_16 (by decide) ?_
  refine m_put_54 X dX11_draw_17 hf (fun S1 hf => ?_)
  refine g_aload_n X dX11_draw_20 0 rfl ?_
  refine m_get_54 X dX11_draw_21 ?_
  refine g_iload_n X dX11_draw_24 1 rfl ?_
  refine g_i2l X dX11_draw_25 ?_
  obtain ⟨hz26, hf⟩ := chk_some hf
  refine g_lrem X dX11_draw_26 hz26 ?_
  refine g_l2i X dX11_draw_27 ?_
  exact m_reti_s hA hQ X hr hlk dX11_draw_28 hf
def rm_decades : Room := { frames := 9, cells := 0, slots := 0, locals := 213 }
set_option maxRecDepth 100000 in
set_option maxHeartbeats 4000000 in
theorem c_decades (l : Launch) (dC : Nat → ClassId) (dI : Nat → Nat → Nat) (E : Nat → ClassId) (h : Nat) (r : Nat → Nat) (F : Nat) (S : MS) (x1 : Int32) (x2 : Int32) (res : Int32 × MS) (hf : M_decades F S x1 x2 = some res) : MC l dC dI E yX11_decades cX11_decades 7 (some .int) rm_decades [.ref h, .int x1, .int x2] (MW E h r S) (MW E h r res.2) (some (.int res.1)) := by
  refine MC_of (own := "LostLanesModel") (by decide) rfl (Nat.le_of_ble_eq_true rfl) ?_
  intro p e s m args below meth c A Q X hr hlk hA hQ
  have hL180 : ∀  (n : Nat) (S : MS) (x3 : Int32), M_decades_L180 F n S x3 = some res → GG p l e rm_decades s m args below meth c dC dI A 7 0 0 Q (MW E h r S) 180 [(0, .ref h), (3, .int x3)] [] := by
    intro  n
    induction n with
    | zero => intro S x3 hf; have hf : (none : Option (Int32 × MS)) = some res := hf; cases hf
    | succ n ih =>
      intro S x3 hf
      rw [M_decades_L180] at hf
      refine g_iload_n X dX11_decades_180 1 rfl ?_
      refine g_bipush X dX11_decades_181 kb_21 ?_
      refine g_icmp_ge (tgt := 206) X dX11_decades_183 (by decide) hf (fun hf => ?_) (fun hf => ?_)
      · refine g_aload_n X dX11_decades_206 0 rfl ?_
        refine g_aload_n X dX11_decades_207 0 rfl ?_
        refine m_get_3 X dX11_decades_208 ?_
        refine g_iconst X dX11_decades_211 kc_0 ?_
        refine m_aldc_3 X kt_0 kx_0_5476 dX11_decades_212 ?_
        refine m_put_56 X dX11_decades_213 hf (fun S1 hf => ?_)
        refine g_aload_n X dX11_decades_216 0 rfl ?_
        refine g_aload_n X dX11_decades_217 0 rfl ?_
        refine m_get_3 X dX11_decades_218 ?_
        refine g_iconst X dX11_decades_221 kc_1 ?_
        refine m_aldc_3 X kt_1 kx_1_5476 dX11_decades_222 ?_
        refine m_put_57 X dX11_decades_223 hf (fun S2 hf => ?_)
        refine g_aload_n X dX11_decades_226 0 rfl ?_
        refine m_bind hf (fun q3 hq3 hf => ?_)
        refine m_callV_i (As := []) (st := []) X kV_531 (c_namedOnes l dC dI E h r F S2 q3 hq3) ⟨Nat.le_of_ble_eq_true rfl, Nat.le_of_ble_eq_true rfl⟩ ⟨rfl, rfl⟩ (Nat.le_of_ble_eq_true rfl) ⟨Nat.le_of_ble_eq_true rfl, Nat.le_of_ble_eq_true rfl⟩ dX11_decades_227 ?_
        refine g_istore_n (i := 3) (lv' := [(3, .int q3), (0, .ref h)]) X dX11_decades_230 rfl (by decide) rfl ?_
        refine g_aload_n X dX11_decades_231 1 rfl ?_
        refine g_bipush X dX11_decades_232 kb_16 ?_
        refine m_bind hf (fun q4 hq4 hf => ?_)
        refine m_callV_v (As := [.int (16 : Int32)]) (st := []) X kV_176 (c_putBack l dC dI E h r F S2 (16 : Int32) q4 hq4) ⟨Nat.le_of_ble_eq_true rfl, Nat.le_of_ble_eq_true rfl⟩ ⟨rfl, rfl⟩ (Nat.le_of_ble_eq_true rfl) ⟨Nat.le_of_ble_eq_true rfl, Nat.le_of_ble_eq_true rfl⟩ dX11_decades_234 ?_
        refine g_aload_n X dX11_decades_237 1 rfl ?_
        refine g_iload_n X dX11_decades_238 0 rfl ?_
        refine m_bind hf (fun q5 hq5 hf => ?_)
        refine m_callV_i (As := [.int q3]) (st := []) X kV_168 (c_tell l dC dI E h r q4.2 q3 q5 hq5) ⟨Nat.le_of_ble_eq_true rfl, Nat.le_of_ble_eq_true rfl⟩ ⟨rfl, rfl⟩ (Nat.le_of_ble_eq_true rfl) ⟨Nat.le_of_ble_eq_true rfl, Nat.le_of_ble_eq_true rfl⟩ dX11_decades_239 ?_
        exact m_reti_s hA hQ X hr hlk dX11_decades_242 hf
      refine g_aload_n X dX11_decades_186 0 rfl ?_
      refine m_get_55 X dX11_decades_187 ?_
      refine g_iload_n X dX11_decades_190 1 rfl ?_
      refine g_aload_n X dX11_decades_191 0 rfl ?_
      refine m_get_3 X dX11_decades_192 ?_
      refine g_iconst X dX11_decades_195 kc_5 ?_
      refine g_iload_n X dX11_decades_196 1 rfl ?_
      refine g_iadd X dX11_decades_197 ?_
      refine m_ald_3 X dX11_decades_198 hf (fun hf => ?_)
      refine m_ast_55 X dX11_decades_199 hf (fun S6 hf => ?_)
      refine g_iinc (lv' := [(3, .int (x3 + (1 : Int32))), (0, .ref h)]) X dX11_decades_200 1 rfl kc_1 (by decide) rfl ?_
      refine g_goto (tgt := 180) X dX11_decades_203 (by decide) ?_
      refine g_lv [1, 0] (lv' := [(0, .ref h), (3, .int (x3 + (1 : Int32)))]) rfl ?_
      exact ih _ _ hf
  have hB178 : ∀ (S : MS), M_decades_B178 F S = some res → GG p l e rm_decades s m args below meth c dC dI A 7 0 0 Q (MW E h r S) 178 [(0, .ref h)] [] := by
    intro S hf
    unfold M_decades_B178 at hf
    refine g_iconst X dX11_decades_178 kc_0 ?_
    refine g_istore_n (i := 3) (lv' := [(3, .int (0 : Int32)), (0, .ref h)]) X dX11_decades_179 rfl (by decide) rfl ?_
    refine g_lv [1, 0] (lv' := [(0, .ref h), (3, .int (0 : Int32))]) rfl ?_
    exact hL180 _ _ _ hf
  have hB166 : ∀ (x2 : Int32) (k65 : MS → Int32 → Option (Int32 × MS)) (hk65 : ∀ (S : MS) (x3 : Int32), k65 S x3 = some res → GG p l e rm_decades s m args below meth c dC dI A 7 0 0 Q (MW E h r S) 65 [(0, .ref h), (2, .int x2), (3, .int x3)] []) (S : MS) (x3 : Int32) (t1 : Int32) (t2 : Int32), M_decades_B166 F k65 S x2 x3 t1 t2 = some res → GG p l e rm_decades s m args below meth c dC dI A 7 0 0 Q (MW E h r S) 166 [(0, .ref h), (2, .int x2), (3, .int x3)] [.int t2, .int t1, .ref (r 3)] := by
    intro x2 k65 hk65 S x3 t1 t2 hf
    unfold M_decades_B166 at hf
    refine m_ast_3 X dX11_decades_166 hf (fun S7 hf => ?_)
    refine g_aload_n X dX11_decades_167 0 rfl ?_
    refine m_bind hf (fun q8 hq8 hf => ?_)
    refine m_callV_i (As := []) (st := []) X kV_451 (c_passIt l dC dI E h r F S7 q8 hq8) ⟨Nat.le_of_ble_eq_true rfl, Nat.le_of_ble_eq_true rfl⟩ ⟨rfl, rfl⟩ (Nat.le_of_ble_eq_true rfl) ⟨Nat.le_of_ble_eq_true rfl, Nat.le_of_ble_eq_true rfl⟩ dX11_decades_168 ?_
    refine g_pop X dX11_decades_171 rfl ?_
    refine g_iinc (lv' := [(3, .int (x3 + (1 : Int32))), (0, .ref h), (2, .int x2)]) X dX11_decades_172 2 rfl kc_1 (by decide) rfl ?_
    refine g_goto (tgt := 65) X dX11_decades_175 (by decide) ?_
    refine g_lv [1, 2, 0] (lv' := [(0, .ref h), (2, .int x2), (3, .int (x3 + (1 : Int32)))]) rfl ?_
    exact hk65 _ _ hf
  have hB136 : ∀ (x2 : Int32) (k65 : MS → Int32 → Option (Int32 × MS)) (hk65 : ∀ (S : MS) (x3 : Int32), k65 S x3 = some res → GG p l e rm_decades s m args below meth c dC dI A 7 0 0 Q (MW E h r S) 65 [(0, .ref h), (2, .int x2), (3, .int x3)] []) (S : MS) (x3 : Int32) (x4 : Int32) (x5 : Int32) (x6 : Int32), M_decades_B136 F k65 S x2 x3 x4 x5 x6 = some res → GG p l e rm_decades s m args below meth c dC dI A 7 0 0 Q (MW E h r S) 136 [(0, .ref h), (2, .int x2), (3, .int x3), (4, .int x4), (5, .int x5), (6, .int x6)] [] := by
    intro x2 k65 hk65 S x3 x4 x5 x6 hf
    unfold M_decades_B136 at hf
    refine g_aload_n X dX11_decades_136 0 rfl ?_
    refine m_get_3 X dX11_decades_137 ?_
    refine g_bipush X dX11_decades_140 kb_18 ?_
    refine g_iload X dX11_decades_142 3 rfl ?_
    refine g_iadd X dX11_decades_144 ?_
    refine g_iload X dX11_decades_145 5 rfl ?_
    refine g_iconst X dX11_decades_147 kc_2 ?_
    refine g_icmp_ne (tgt := 156) X dX11_decades_148 (by decide) hf (fun hf => ?_) (fun hf => ?_)
    · refine g_aload_n X dX11_decades_156 0 rfl ?_
      refine m_get_3 X dX11_decades_157 ?_
      refine g_bipush X dX11_decades_160 kb_18 ?_
      refine g_iload X dX11_decades_162 3 rfl ?_
      refine g_iadd X dX11_decades_164 ?_
      refine m_ald_3 X dX11_decades_165 hf (fun hf => ?_)
      refine g_lv [0, 1, 2] (lv' := [(0, .ref h), (2, .int x2), (3, .int x3)]) rfl ?_
      exact hB166 _ _ hk65 _ _ _ _ hf
    refine g_iload X dX11_decades_151 4 rfl ?_
    refine g_goto (tgt := 166) X dX11_decades_153 (by decide) ?_
    refine g_lv [0, 1, 2] (lv' := [(0, .ref h), (2, .int x2), (3, .int x3)]) rfl ?_
    exact hB166 _ _ hk65 _ _ _ _ hf
  have hL65 : ∀ (x2 : Int32) (n : Nat) (S : MS) (x3 : Int32), M_decades_L65 F x2 n S x3 = some res → GG p l e rm_decades s m args below meth c dC dI A 7 0 0 Q (MW E h r S) 65 [(0, .ref h), (2, .int x2), (3, .int x3)] [] := by
    intro x2 n
    induction n with
    | zero => intro S x3 hf; have hf : (none : Option (Int32 × MS)) = some res := hf; cases hf
    | succ n ih =>
      intro S x3 hf
      rw [M_decades_L65] at hf
      refine g_iload_n X dX11_decades_65 2 rfl ?_
      refine g_iload_n X dX11_decades_66 1 rfl ?_
      refine g_icmp_ge (tgt := 178) X dX11_decades_67 (by decide) hf (fun hf => ?_) (fun hf => ?_)
      · refine g_lv [0] (lv' := [(0, .ref h)]) rfl ?_
        exact hB178 _ hf
      refine g_aload_n X dX11_decades_70 0 rfl ?_
      refine m_get_3 X dX11_decades_71 ?_
      refine g_iconst X dX11_decades_74 kc_5 ?_
      refine m_aldc_3 X kt_5 kx_5_5476 dX11_decades_75 ?_
      refine g_sipush X dX11_decades_76 ks_999 ?_
      refine g_icmp_ge (tgt := 178) X dX11_decades_79 (by decide) hf (fun hf => ?_) (fun hf => ?_)
      · refine g_lv [0] (lv' := [(0, .ref h)]) rfl ?_
        exact hB178 _ hf
      refine g_aload_n X dX11_decades_82 0 rfl ?_
      refine g_aload_n X dX11_decades_83 0 rfl ?_
      refine m_get_3 X dX11_decades_84 ?_
      refine g_iconst X dX11_decades_87 kc_1 ?_
      refine m_aldc_3 X kt_1 kx_1_5476 dX11_decades_88 ?_
      refine m_bind hf (fun q9 hq9 hf => ?_)
      refine m_callV_i (As := [.int (ma S 3 1)]) (st := []) X kV_559 (c_draw l dC dI E h r S (ma S 3 1) q9 hq9) ⟨Nat.le_of_ble_eq_true rfl, Nat.le_of_ble_eq_true rfl⟩ ⟨rfl, rfl⟩ (Nat.le_of_ble_eq_true rfl) ⟨Nat.le_of_ble_eq_true rfl, Nat.le_of_ble_eq_true rfl⟩ dX11_decades_89 ?_
      refine g_istore (lv' := [(4, .int q9.1), (0, .ref h), (2, .int x2), (3, .int x3)]) X dX11_decades_92 (by decide) rfl ?_
      refine g_aload_n X dX11_decades_94 1 rfl ?_
      refine g_bipush X dX11_decades_95 kb_8 ?_
      refine m_bind hf (fun q10 hq10 hf => ?_)
      refine m_callV_i (As := [.int (8 : Int32)]) (st := []) X kV_559 (c_draw l dC dI E h r q9.2 (8 : Int32) q10 hq10) ⟨Nat.le_of_ble_eq_true rfl, Nat.le_of_ble_eq_true rfl⟩ ⟨rfl, rfl⟩ (Nat.le_of_ble_eq_true rfl) ⟨Nat.le_of_ble_eq_true rfl, Nat.le_of_ble_eq_true rfl⟩ dX11_decades_97 ?_
      refine g_istore (lv' := [(5, .int q10.1), (4, .int q9.1), (0, .ref h), (2, .int x2), (3, .int x3)]) X dX11_decades_100 (by decide) rfl ?_
      refine g_aload_n X dX11_decades_102 2 rfl ?_
      refine g_iconst X dX11_decades_103 kc_4 ?_
      refine m_bind hf (fun q11 hq11 hf => ?_)
      refine m_callV_i (As := [.int (4 : Int32)]) (st := []) X kV_559 (c_draw l dC dI E h r q10.2 (4 : Int32) q11 hq11) ⟨Nat.le_of_ble_eq_true rfl, Nat.le_of_ble_eq_true rfl⟩ ⟨rfl, rfl⟩ (Nat.le_of_ble_eq_true rfl) ⟨Nat.le_of_ble_eq_true rfl, Nat.le_of_ble_eq_true rfl⟩ dX11_decades_104 ?_
      refine g_istore (lv' := [(6, .int q11.1), (5, .int q10.1), (4, .int q9.1), (0, .ref h), (2, .int x2), (3, .int x3)]) X dX11_decades_107 (by decide) rfl ?_
      refine g_iload X dX11_decades_109 0 rfl ?_
      refine g_iconst X dX11_decades_111 kc_2 ?_
      refine g_icmp_ge (tgt := 136) X dX11_decades_112 (by decide) hf (fun hf => ?_) (fun hf => ?_)
      · refine g_lv [3, 4, 5, 2, 1, 0] (lv' := [(0, .ref h), (2, .int x2), (3, .int x3), (4, .int q9.1), (5, .int q10.1), (6, .int q11.1)]) rfl ?_
        exact hB136 _ _ ih _ _ _ _ _ hf
      refine g_aload_n X dX11_decades_115 3 rfl ?_
      refine m_get_3 X dX11_decades_116 ?_
      refine g_bipush X dX11_decades_119 kb_22 ?_
      refine g_iload X dX11_decades_121 2 rfl ?_
      refine g_iadd X dX11_decades_123 ?_
      refine m_ald_3 X dX11_decades_124 hf (fun hf => ?_)
      refine g_iconst X dX11_decades_125 kc_m1 ?_
      refine g_icmp_eq (tgt := 136) X dX11_decades_126 (by decide) hf (fun hf => ?_) (fun hf => ?_)
      · refine g_lv [3, 4, 5, 2, 1, 0] (lv' := [(0, .ref h), (2, .int x2), (3, .int x3), (4, .int q9.1), (5, .int q10.1), (6, .int q11.1)]) rfl ?_
        exact hB136 _ _ ih _ _ _ _ _ hf
      refine g_aload_n X dX11_decades_129 3 rfl ?_
      refine g_iload X dX11_decades_130 2 rfl ?_
      refine m_bind hf (fun q12 hq12 hf => ?_)
      refine m_callV_i (As := [.int q9.1]) (st := []) X kV_442 (c_cryIt l dC dI E h r F q11.2 q9.1 q12 hq12) ⟨Nat.le_of_ble_eq_true rfl, Nat.le_of_ble_eq_true rfl⟩ ⟨rfl, rfl⟩ (Nat.le_of_ble_eq_true rfl) ⟨Nat.le_of_ble_eq_true rfl, Nat.le_of_ble_eq_true rfl⟩ dX11_decades_132 ?_
      refine g_pop X dX11_decades_135 rfl ?_
      refine g_lv [3, 4, 5, 2, 1, 0] (lv' := [(0, .ref h), (2, .int x2), (3, .int x3), (4, .int q9.1), (5, .int q10.1), (6, .int q11.1)]) rfl ?_
      exact hB136 _ _ ih _ _ _ _ _ hf
  have hB29 : ∀ (S : MS), M_decades_B29 F S = some res → GG p l e rm_decades s m args below meth c dC dI A 7 0 0 Q (MW E h r S) 29 [(0, .ref h)] [] := by
    intro S hf
    unfold M_decades_B29 at hf
    refine g_aload_n X dX11_decades_29 0 rfl ?_
    refine g_iconst X dX11_decades_30 kc_m1 ?_
    refine m_bind hf (fun q13 hq13 hf => ?_)
    refine m_callV_i (As := [.int (-1 : Int32)]) (st := []) X kV_168 (c_tell l dC dI E h r S (-1 : Int32) q13 hq13) ⟨Nat.le_of_ble_eq_true rfl, Nat.le_of_ble_eq_true rfl⟩ ⟨rfl, rfl⟩ (Nat.le_of_ble_eq_true rfl) ⟨Nat.le_of_ble_eq_true rfl, Nat.le_of_ble_eq_true rfl⟩ dX11_decades_31 ?_
    exact m_reti_s hA hQ X hr hlk dX11_decades_34 hf
  refine g_lv [0, 1, 2] (lv' := [(0, .ref h), (1, .int x1), (2, .int x2)]) rfl ?_
  unfold M_decades at hf
  refine g_aload_n X dX11_decades_0 0 rfl ?_
  refine g_iconst X dX11_decades_1 kc_0 ?_
  refine m_put_0 X dX11_decades_2 hf (fun S14 hf => ?_)
  refine g_iload_n X dX11_decades_5 1 rfl ?_
  refine g_i2l X dX11_decades_6 ?_
  refine g_lconst X dX11_decades_7 kl_0 ?_
  refine g_ldc2 X dX11_decades_8 wd7_11 ?_
  refine m_bind hf (fun q15 hq15 hf => ?_)
  refine m_callS_i (As := [.long (x1).toInt64, .long (0 : Int64), .long (1000000 : Int64)]) (st := []) X kS_179 (c_in l dC dI E h r S14 (x1).toInt64 (0 : Int64) (1000000 : Int64) q15 hq15) ⟨Nat.le_of_ble_eq_true rfl, Nat.le_of_ble_eq_true rfl⟩ ⟨rfl, rfl⟩ (Nat.le_of_ble_eq_true rfl) ⟨Nat.le_of_ble_eq_true rfl, Nat.le_of_ble_eq_true rfl⟩ dX11_decades_11 ?_
  refine g_if_eq (tgt := 29) X dX11_decades_14 (by decide) hf (fun hf => ?_) (fun hf => ?_)
  · refine g_lv [0] (lv' := [(0, .ref h)]) rfl ?_
    exact hB29 _ hf
  refine g_iload_n X dX11_decades_17 2 rfl ?_
  refine g_i2l X dX11_decades_18 ?_
  refine g_lconst X dX11_decades_19 kl_1 ?_
  refine g_ldc2 X dX11_decades_20 wd7_174 ?_
  refine m_bind hf (fun q16 hq16 hf => ?_)
  refine m_callS_i (As := [.long (x2).toInt64, .long (1 : Int64), .long (60 : Int64)]) (st := []) X kS_179 (c_in l dC dI E h r S14 (x2).toInt64 (1 : Int64) (60 : Int64) q16 hq16) ⟨Nat.le_of_ble_eq_true rfl, Nat.le_of_ble_eq_true rfl⟩ ⟨rfl, rfl⟩ (Nat.le_of_ble_eq_true rfl) ⟨Nat.le_of_ble_eq_true rfl, Nat.le_of_ble_eq_true rfl⟩ dX11_decades_23 ?_
  refine g_if_ne (tgt := 35) X dX11_decades_26 (by decide) hf (fun hf => ?_) (fun hf => ?_)
  · refine g_aload_n X dX11_decades_35 0 rfl ?_
    refine m_get_3 X dX11_decades_36 ?_
    refine g_iconst X dX11_decades_39 kc_1 ?_
    refine m_aldc_3 X kt_1 kx_1_5476 dX11_decades_40 ?_
    refine g_if_ne (tgt := 51) X dX11_decades_41 (by decide) hf (fun hf => ?_) (fun hf => ?_)
    · refine g_aload_n X dX11_decades_51 0 rfl ?_
      refine g_bipush X dX11_decades_52 kb_16 ?_
      refine m_bind hf (fun q17 hq17 hf => ?_)
      refine m_callV_v (As := [.int (16 : Int32)]) (st := []) X kV_172 (c_keepAll l dC dI E h r F S14 (16 : Int32) q17 hq17) ⟨Nat.le_of_ble_eq_true rfl, Nat.le_of_ble_eq_true rfl⟩ ⟨rfl, rfl⟩ (Nat.le_of_ble_eq_true rfl) ⟨Nat.le_of_ble_eq_true rfl, Nat.le_of_ble_eq_true rfl⟩ dX11_decades_54 ?_
      refine g_aload_n X dX11_decades_57 0 rfl ?_
      refine g_iload_n X dX11_decades_58 1 rfl ?_
      refine g_i2l X dX11_decades_59 ?_
      refine m_put_54 X dX11_decades_60 hf (fun S18 hf => ?_)
      refine g_iconst X dX11_decades_63 kc_0 ?_
      refine g_istore_n (i := 3) (lv' := [(3, .int (0 : Int32)), (0, .ref h), (1, .int x1), (2, .int x2)]) X dX11_decades_64 rfl (by decide) rfl ?_
      refine g_lv [1, 3, 0] (lv' := [(0, .ref h), (2, .int x2), (3, .int (0 : Int32))]) rfl ?_
      exact hL65 _ _ _ _ hf
    refine g_aload_n X dX11_decades_44 0 rfl ?_
    refine g_bipush X dX11_decades_45 kb_m3 ?_
    refine m_bind hf (fun q19 hq19 hf => ?_)
    refine m_callV_i (As := [.int (-3 : Int32)]) (st := []) X kV_168 (c_tell l dC dI E h r S14 (-3 : Int32) q19 hq19) ⟨Nat.le_of_ble_eq_true rfl, Nat.le_of_ble_eq_true rfl⟩ ⟨rfl, rfl⟩ (Nat.le_of_ble_eq_true rfl) ⟨Nat.le_of_ble_eq_true rfl, Nat.le_of_ble_eq_true rfl⟩ dX11_decades_47 ?_
    exact m_reti_s hA hQ X hr hlk dX11_decades_50 hf
  refine g_lv [0] (lv' := [(0, .ref h)]) rfl ?_
  exact hB29 _ hf
def rm_drawn : Room := { frames := 1, cells := 0, slots := 0, locals := 25 }
set_option maxRecDepth 100000 in
set_option maxHeartbeats 4000000 in
theorem c_drawn (l : Launch) (dC : Nat → ClassId) (dI : Nat → Nat → Nat) (E : Nat → ClassId) (h : Nat) (r : Nat → Nat) (S : MS) (x1 : Int32) (x2 : Int32) (res : Int32 × MS) (hf : M_drawn S x1 x2 = some res) : MC l dC dI E yX11_drawn cX11_drawn 3 (some .int) rm_drawn [.ref h, .int x1, .int x2] (MW E h r S) (MW E h r res.2) (some (.int res.1)) := by
  refine MC_of (own := "LostLanesModel") (by decide) rfl (Nat.le_of_ble_eq_true rfl) ?_
  intro p e s m args below meth c A Q X hr hlk hA hQ
  have hB59 : ∀ (S : MS) (x1 : Int32) (t1 : Int32), M_drawn_B59 S x1 t1 = some res → GG p l e rm_drawn s m args below meth c dC dI A 3 0 0 Q (MW E h r S) 59 [(1, .int x1)] [.int t1, .ref (r 55)] := by
    intro S x1 t1 hf
    unfold M_drawn_B59 at hf
    refine g_iconst X dX11_drawn_59 kc_5 ?_
    refine g_isub X dX11_drawn_60 ?_
    refine g_iload_n X dX11_drawn_61 0 rfl ?_
    refine g_iadd X dX11_drawn_62 ?_
    refine m_ald_55 X dX11_drawn_63 hf (fun hf => ?_)
    exact m_reti_s hA hQ X hr hlk dX11_drawn_64 hf
  have hB33 : ∀ (S : MS) (x1 : Int32) (x2 : Int32) (t0 : Int64) (t1 : Int64) (t2 : Int32), M_drawn_B33 S x1 x2 t0 t1 t2 = some res → GG p l e rm_drawn s m args below meth c dC dI A 3 0 0 Q (MW E h r S) 33 [(0, .ref h), (1, .int x1), (2, .int x2)] [.int t2, .long t1, .long t0] := by
    intro S x1 x2 t0 t1 t2 hf
    unfold M_drawn_B33 at hf
    refine g_i2l X dX11_drawn_33 ?_
    refine g_lconst X dX11_drawn_34 kl_1 ?_
    refine g_lsub X dX11_drawn_35 ?_
    refine m_bind hf (fun q1 hq1 hf => ?_)
    refine m_callS_i (As := [.long t0, .long t1, .long ((t2).toInt64 - (1 : Int64))]) (st := []) X kS_179 (c_in l dC dI E h r S t0 t1 ((t2).toInt64 - (1 : Int64)) q1 hq1) ⟨Nat.le_of_ble_eq_true rfl, Nat.le_of_ble_eq_true rfl⟩ ⟨rfl, rfl⟩ (Nat.le_of_ble_eq_true rfl) ⟨Nat.le_of_ble_eq_true rfl, Nat.le_of_ble_eq_true rfl⟩ dX11_drawn_36 ?_
    refine g_if_ne (tgt := 44) X dX11_drawn_39 (by decide) hf (fun hf => ?_) (fun hf => ?_)
    · refine g_aload_n X dX11_drawn_44 0 rfl ?_
      refine m_get_55 X dX11_drawn_45 ?_
      refine g_iload_n X dX11_drawn_48 2 rfl ?_
      refine g_if_ne (tgt := 57) X dX11_drawn_49 (by decide) hf (fun hf => ?_) (fun hf => ?_)
      · refine g_bipush X dX11_drawn_57 kb_8 ?_
        refine g_lv [1] (lv' := [(1, .int x1)]) rfl ?_
        exact hB59 _ _ _ hf
      refine g_bipush X dX11_drawn_52 kb_18 ?_
      refine g_goto (tgt := 59) X dX11_drawn_54 (by decide) ?_
      refine g_lv [1] (lv' := [(1, .int x1)]) rfl ?_
      exact hB59 _ _ _ hf
    refine g_iconst X dX11_drawn_42 kc_m1 ?_
    exact m_reti_s hA hQ X hr hlk dX11_drawn_43 hf
  refine g_lv [0, 1, 2] (lv' := [(0, .ref h), (1, .int x1), (2, .int x2)]) rfl ?_
  unfold M_drawn at hf
  refine g_aload_n X dX11_drawn_0 0 rfl ?_
  refine g_iconst X dX11_drawn_1 kc_0 ?_
  refine m_put_0 X dX11_drawn_2 hf (fun S2 hf => ?_)
  refine g_iload_n X dX11_drawn_5 2 rfl ?_
  refine g_i2l X dX11_drawn_6 ?_
  refine g_lconst X dX11_drawn_7 kl_0 ?_
  refine g_lconst X dX11_drawn_8 kl_1 ?_
  refine m_bind hf (fun q3 hq3 hf => ?_)
  refine m_callS_i (As := [.long (x2).toInt64, .long (0 : Int64), .long (1 : Int64)]) (st := []) X kS_179 (c_in l dC dI E h r S2 (x2).toInt64 (0 : Int64) (1 : Int64) q3 hq3) ⟨Nat.le_of_ble_eq_true rfl, Nat.le_of_ble_eq_true rfl⟩ ⟨rfl, rfl⟩ (Nat.le_of_ble_eq_true rfl) ⟨Nat.le_of_ble_eq_true rfl, Nat.le_of_ble_eq_true rfl⟩ dX11_drawn_9 ?_
  refine g_if_eq (tgt := 42) X dX11_drawn_12 (by decide) hf (fun hf => ?_) (fun hf => ?_)
  · refine g_iconst X dX11_drawn_42 kc_m1 ?_
    exact m_reti_s hA hQ X hr hlk dX11_drawn_43 hf
  refine g_iload_n X dX11_drawn_15 1 rfl ?_
  refine g_i2l X dX11_drawn_16 ?_
  refine g_lconst X dX11_drawn_17 kl_0 ?_
  refine g_iload_n X dX11_drawn_18 2 rfl ?_
  refine g_if_ne (tgt := 29) X dX11_drawn_19 (by decide) hf (fun hf => ?_) (fun hf => ?_)
  · refine g_aload_n X dX11_drawn_29 0 rfl ?_
    refine m_get_56 X dX11_drawn_30 ?_
    exact hB33 _ _ _ _ _ _ hf
  refine g_aload_n X dX11_drawn_22 0 rfl ?_
  refine m_get_57 X dX11_drawn_23 ?_
  refine g_goto (tgt := 33) X dX11_drawn_26 (by decide) ?_
  exact hB33 _ _ _ _ _ _ hf
def rm_count : Room := { frames := 1, cells := 0, slots := 0, locals := 25 }
set_option maxRecDepth 100000 in
set_option maxHeartbeats 4000000 in
theorem c_count (l : Launch) (dC : Nat → ClassId) (dI : Nat → Nat → Nat) (E : Nat → ClassId) (h : Nat) (r : Nat → Nat) (F : Nat) (S : MS) (x1 : Int32) (res : Int32 × MS) (hf : M_count F S x1 = some res) : MC l dC dI E yX11_count cX11_count 2 (some .int) rm_count [.ref h, .int x1] (MW E h r S) (MW E h r res.2) (some (.int res.1)) := by
  refine MC_of (own := "LostLanesModel") (by decide) rfl (Nat.le_of_ble_eq_true rfl) ?_
  intro p e s m args below meth c A Q X hr hlk hA hQ
  refine g_lv [0, 1] (lv' := [(0, .ref h), (1, .int x1)]) rfl ?_
  unfold M_count at hf
  refine g_aload_n X dX11_count_0 0 rfl ?_
  refine g_iconst X dX11_count_1 kc_0 ?_
  refine m_put_0 X dX11_count_2 hf (fun S1 hf => ?_)
  refine g_iload_n X dX11_count_5 1 rfl ?_
  refine g_ite hf (fun hs6_0 hf => ?_) (fun hs6_0 hf => ?_)
  · refine g_tsw (tgt := 72) (off := 66) X dX11_count_6 (by rw [hs6_0]; decide) (by rw [hs6_0]; decide) (by rw [hs6_0]; rfl) (by decide) ?_
    refine g_aload_n X dX11_count_72 0 rfl ?_
    refine m_get_3 X dX11_count_73 ?_
    refine g_iconst X dX11_count_76 kc_0 ?_
    refine m_aldc_3 X kt_0 kx_0_5476 dX11_count_77 ?_
    exact m_reti_s hA hQ X hr hlk dX11_count_78 hf
  refine g_ite hf (fun hs6_1 hf => ?_) (fun hs6_1 hf => ?_)
  · refine g_tsw (tgt := 79) (off := 73) X dX11_count_6 (by rw [hs6_1]; decide) (by rw [hs6_1]; decide) (by rw [hs6_1]; rfl) (by decide) ?_
    refine g_aload_n X dX11_count_79 0 rfl ?_
    refine m_get_3 X dX11_count_80 ?_
    refine g_iconst X dX11_count_83 kc_1 ?_
    refine m_aldc_3 X kt_1 kx_1_5476 dX11_count_84 ?_
    exact m_reti_s hA hQ X hr hlk dX11_count_85 hf
  refine g_ite hf (fun hs6_2 hf => ?_) (fun hs6_2 hf => ?_)
  · refine g_tsw (tgt := 86) (off := 80) X dX11_count_6 (by rw [hs6_2]; decide) (by rw [hs6_2]; decide) (by rw [hs6_2]; rfl) (by decide) ?_
    refine g_aload_n X dX11_count_86 0 rfl ?_
    refine m_bind hf (fun q2 hq2 hf => ?_)
    refine m_callV_i (As := []) (st := []) X kV_531 (c_namedOnes l dC dI E h r F S1 q2 hq2) ⟨Nat.le_of_ble_eq_true rfl, Nat.le_of_ble_eq_true rfl⟩ ⟨rfl, rfl⟩ (Nat.le_of_ble_eq_true rfl) ⟨Nat.le_of_ble_eq_true rfl, Nat.le_of_ble_eq_true rfl⟩ dX11_count_87 ?_
    exact m_reti_s hA hQ X hr hlk dX11_count_90 hf
  refine g_ite hf (fun hs6_3 hf => ?_) (fun hs6_3 hf => ?_)
  · refine g_tsw (tgt := 91) (off := 85) X dX11_count_6 (by rw [hs6_3]; decide) (by rw [hs6_3]; decide) (by rw [hs6_3]; rfl) (by decide) ?_
    refine g_aload_n X dX11_count_91 0 rfl ?_
    refine m_get_3 X dX11_count_92 ?_
    refine g_iconst X dX11_count_95 kc_2 ?_
    refine m_aldc_3 X kt_2 kx_2_5476 dX11_count_96 ?_
    exact m_reti_s hA hQ X hr hlk dX11_count_97 hf
  refine g_ite hf (fun hs6_4 hf => ?_) (fun hs6_4 hf => ?_)
  · refine g_tsw (tgt := 98) (off := 92) X dX11_count_6 (by rw [hs6_4]; decide) (by rw [hs6_4]; decide) (by rw [hs6_4]; rfl) (by decide) ?_
    refine g_aload_n X dX11_count_98 0 rfl ?_
    refine m_get_3 X dX11_count_99 ?_
    refine g_iconst X dX11_count_102 kc_3 ?_
    refine m_aldc_3 X kt_3 kx_3_5476 dX11_count_103 ?_
    exact m_reti_s hA hQ X hr hlk dX11_count_104 hf
  refine g_ite hf (fun hs6_5 hf => ?_) (fun hs6_5 hf => ?_)
  · refine g_tsw (tgt := 105) (off := 99) X dX11_count_6 (by rw [hs6_5]; decide) (by rw [hs6_5]; decide) (by rw [hs6_5]; rfl) (by decide) ?_
    refine g_aload_n X dX11_count_105 0 rfl ?_
    refine m_get_8 X dX11_count_106 ?_
    exact m_reti_s hA hQ X hr hlk dX11_count_109 hf
  refine g_ite hf (fun hs6_6 hf => ?_) (fun hs6_6 hf => ?_)
  · refine g_tsw (tgt := 110) (off := 104) X dX11_count_6 (by rw [hs6_6]; decide) (by rw [hs6_6]; decide) (by rw [hs6_6]; rfl) (by decide) ?_
    refine g_aload_n X dX11_count_110 0 rfl ?_
    refine m_get_13 X dX11_count_111 ?_
    exact m_reti_s hA hQ X hr hlk dX11_count_114 hf
  refine g_ite hf (fun hs6_7 hf => ?_) (fun hs6_7 hf => ?_)
  · refine g_tsw (tgt := 115) (off := 109) X dX11_count_6 (by rw [hs6_7]; decide) (by rw [hs6_7]; decide) (by rw [hs6_7]; rfl) (by decide) ?_
    refine g_aload_n X dX11_count_115 0 rfl ?_
    refine m_get_2 X dX11_count_116 ?_
    refine g_iconst X dX11_count_119 kc_1 ?_
    refine m_aldc_2 X kt_1 kx_1_7 dX11_count_120 ?_
    exact m_reti_s hA hQ X hr hlk dX11_count_121 hf
  refine g_ite hf (fun hs6_8 hf => ?_) (fun hs6_8 hf => ?_)
  · refine g_tsw (tgt := 122) (off := 116) X dX11_count_6 (by rw [hs6_8]; decide) (by rw [hs6_8]; decide) (by rw [hs6_8]; rfl) (by decide) ?_
    refine g_aload_n X dX11_count_122 0 rfl ?_
    refine m_get_2 X dX11_count_123 ?_
    refine g_iconst X dX11_count_126 kc_2 ?_
    refine m_aldc_2 X kt_2 kx_2_7 dX11_count_127 ?_
    exact m_reti_s hA hQ X hr hlk dX11_count_128 hf
  refine g_ite hf (fun hs6_9 hf => ?_) (fun hs6_9 hf => ?_)
  · refine g_tsw (tgt := 129) (off := 123) X dX11_count_6 (by rw [hs6_9]; decide) (by rw [hs6_9]; decide) (by rw [hs6_9]; rfl) (by decide) ?_
    refine g_aload_n X dX11_count_129 0 rfl ?_
    refine m_get_2 X dX11_count_130 ?_
    refine g_iconst X dX11_count_133 kc_3 ?_
    refine m_aldc_2 X kt_3 kx_3_7 dX11_count_134 ?_
    exact m_reti_s hA hQ X hr hlk dX11_count_135 hf
  refine g_ite hf (fun hs6_10 hf => ?_) (fun hs6_10 hf => ?_)
  · refine g_tsw (tgt := 136) (off := 130) X dX11_count_6 (by rw [hs6_10]; decide) (by rw [hs6_10]; decide) (by rw [hs6_10]; rfl) (by decide) ?_
    refine g_aload_n X dX11_count_136 0 rfl ?_
    refine m_get_2 X dX11_count_137 ?_
    refine g_iconst X dX11_count_140 kc_5 ?_
    refine m_aldc_2 X kt_5 kx_5_7 dX11_count_141 ?_
    exact m_reti_s hA hQ X hr hlk dX11_count_142 hf
  refine g_ite hf (fun hs6_11 hf => ?_) (fun hs6_11 hf => ?_)
  · refine g_tsw (tgt := 143) (off := 137) X dX11_count_6 (by rw [hs6_11]; decide) (by rw [hs6_11]; decide) (by rw [hs6_11]; rfl) (by decide) ?_
    refine g_aload_n X dX11_count_143 0 rfl ?_
    refine m_get_2 X dX11_count_144 ?_
    refine g_bipush X dX11_count_147 kb_6 ?_
    refine m_aldc_2 X kt_6 kx_6_7 dX11_count_149 ?_
    exact m_reti_s hA hQ X hr hlk dX11_count_150 hf
  refine g_ite hf (fun hs6_12 hf => ?_) (fun hs6_12 hf => ?_)
  · refine g_tsw (tgt := 151) (off := 145) X dX11_count_6 (by rw [hs6_12]; decide) (by rw [hs6_12]; decide) (by rw [hs6_12]; rfl) (by decide) ?_
    refine g_aload_n X dX11_count_151 0 rfl ?_
    refine m_get_3 X dX11_count_152 ?_
    refine g_iconst X dX11_count_155 kc_4 ?_
    refine m_aldc_3 X kt_4 kx_4_5476 dX11_count_156 ?_
    exact m_reti_s hA hQ X hr hlk dX11_count_157 hf
  refine g_tswO (tgt := 158) X dX11_count_6 (g_out0_12 (lv_neT hs6_0 (by decide)) (lv_neT hs6_1 (by decide)) (lv_neT hs6_2 (by decide)) (lv_neT hs6_3 (by decide)) (lv_neT hs6_4 (by decide)) (lv_neT hs6_5 (by decide)) (lv_neT hs6_6 (by decide)) (lv_neT hs6_7 (by decide)) (lv_neT hs6_8 (by decide)) (lv_neT hs6_9 (by decide)) (lv_neT hs6_10 (by decide)) (lv_neT hs6_11 (by decide)) (lv_neT hs6_12 (by decide))) (by decide) ?_
  refine g_iload_n X dX11_count_158 1 rfl ?_
  refine g_i2l X dX11_count_159 ?_
  refine g_ldc2 X dX11_count_160 wd8_120 ?_
  refine g_ldc2 X dX11_count_163 wd8_121 ?_
  refine m_bind hf (fun q3 hq3 hf => ?_)
  refine m_callS_i (As := [.long (x1).toInt64, .long (13 : Int64), .long (15 : Int64)]) (st := []) X kS_179 (c_in l dC dI E h r S1 (x1).toInt64 (13 : Int64) (15 : Int64) q3 hq3) ⟨Nat.le_of_ble_eq_true rfl, Nat.le_of_ble_eq_true rfl⟩ ⟨rfl, rfl⟩ (Nat.le_of_ble_eq_true rfl) ⟨Nat.le_of_ble_eq_true rfl, Nat.le_of_ble_eq_true rfl⟩ dX11_count_166 ?_
  refine g_if_eq (tgt := 186) X dX11_count_169 (by decide) hf (fun hf => ?_) (fun hf => ?_)
  · refine g_iconst X dX11_count_186 kc_m1 ?_
    exact m_reti_s hA hQ X hr hlk dX11_count_187 hf
  refine g_aload_n X dX11_count_172 0 rfl ?_
  refine m_get_3 X dX11_count_173 ?_
  refine g_iconst X dX11_count_176 kc_5 ?_
  refine g_iload_n X dX11_count_177 1 rfl ?_
  refine g_iadd X dX11_count_178 ?_
  refine g_bipush X dX11_count_179 kb_13 ?_
  refine g_isub X dX11_count_181 ?_
  refine m_ald_3 X dX11_count_182 hf (fun hf => ?_)
  refine g_goto (tgt := 187) X dX11_count_183 (by decide) ?_
  exact m_reti_s hA hQ X hr hlk dX11_count_187 hf
def rm_status : Room := { frames := 0, cells := 0, slots := 0, locals := 0 }
set_option maxRecDepth 100000 in
set_option maxHeartbeats 4000000 in
theorem c_status (l : Launch) (dC : Nat → ClassId) (dI : Nat → Nat → Nat) (E : Nat → ClassId) (h : Nat) (r : Nat → Nat) (S : MS)  (res : Int32 × MS) (hf : M_status S = some res) : MC l dC dI E yX11_status cX11_status 1 (some .int) rm_status [.ref h] (MW E h r S) (MW E h r res.2) (some (.int res.1)) := by
  refine MC_of (own := "LostLanesModel") (by decide) rfl (Nat.le_of_ble_eq_true rfl) ?_
  intro p e s m args below meth c A Q X hr hlk hA hQ
  refine g_lv [0] (lv' := [(0, .ref h)]) rfl ?_
  unfold M_status at hf
  refine g_aload_n X dX11_status_0 0 rfl ?_
  refine g_iconst X dX11_status_1 kc_0 ?_
  refine m_put_0 X dX11_status_2 hf (fun S1 hf => ?_)
  refine g_aload_n X dX11_status_5 0 rfl ?_
  refine m_get_1 X dX11_status_6 ?_
  exact m_reti_s hA hQ X hr hlk dX11_status_9 hf
