/-! THE CLAIM OUT OF ONE WALK OF THE LAW'S BODY. Your part is whole_start (and what it stands on); all else here is the same for every law, but numbers. -/
def R_law : String := "LostLanesLaw"
def lw_P (b : Addr) (xs : List Int32) (args : Array Value) (s : State) : Prop := args = #[.ref b] ∧ s.IntsAt b xs ∧ xs.length ≤ 3072 ∧ (Jvm.Cond.and given_1 narrow_1).before args s = true
def lw_Q (_ : Array Value) (s : State) (o : Outcome) (t : State) : Prop := o = .returned (some (.int 1)) ∧ Framed s o t [] 600000 7302250
def lw_Z (below : List Frame) (a : Array Value) (s : State) : State → Prop := fun t => ∃ o, t.status = .running ∧ Ended t below o ∧ lw_Q a s o t
/-- the law's own end, with 1 on the stack, nothing written that was there before, its room as the claim has it -/
theorem lw_ret {p : Program} {l : Launch} {e : Env} {s : State} {m : MethodId} {below : List Frame} {meth : Method} {c : Code} {b : Nat} (hx : p.tables.exec = Jvm.exec) (hb : c.code = code) (hr : meth.sig.returnType = ret) (hlocks : meth.locks = false) {pc : Nat} {H : Heap} {ls : Array Slot} (hdg : decode code pc = .ok (.ireturn, 1)) : W p l e room_1 s m #[Value.ref b] below meth c H [] 600000 7302250 (lw_Z below #[Value.ref b] s) (F0 m pc ls [.int 1]) := by
  intro T hT X
  obtain ⟨fs, hret, hrun, hended, hW, hframe⟩ := X.leave (v := some (.int 1)) (hlocks := hlocks) (fun h => by rw [hr] at h; cases h)
  have hmeth' : T.vm.method? m = some meth := X.method'
  refine ⟨T.setFrames fs, ?_, .returned (some (.int 1)), hrun, hended, rfl, ⟨_, rfl⟩, hW, hframe⟩
  jvm_step X.here [X.here.top, hx, hb, hdg, hmeth', hr, ret, narrow_b1]
  (try refine ⟨rfl, ?_⟩); (try refine ⟨rfl, ?_⟩)
  first | (intro acts; rw [hret _ acts rfl rfl rfl]) | rw [hret _ _ rfl rfl rfl]
  exact Steps.refl _
/-- what holds at the law's entry: the machine, the code, the tables' words (any of lw_tbl by 'hts w (by decide +kernel)'), the script of L ints xs at the cell b, what the Statement gives of the start (any of its parts by flat_of_before) -/
def lw_At (p : Program) (s : State) (m : MethodId) (meth : Method) (c : Code) (b L : Nat) (xs : Nat → Int32) : Prop :=
  p.tables.exec = Jvm.exec ∧ c.code = code ∧ meth.sig.returnType = ret ∧ c.maxLocals = 4 ∧ s.vm.findClass R_law = some m.cls ∧ (∀ w ∈ lw_tbl, w.before #[Value.ref b] s = true) ∧ va_X b L xs s s.heap ∧ b < s.heap.size ∧ meth.locks = false ∧ (Jvm.Cond.and given_1 narrow_1).before #[Value.ref b] s = true
theorem l_in {k L : Nat} {x3 y : Int32} (hL : L ≤ 3072) (h : 6 * k + 6 ≤ L) (e : x3 = nI (6 * k)) (j : Nat) (hj : j < 6) (hy : y = nI j) : vp_in (x3 + y) L := by
  rw [e, hy, nI_add]
  exact vp_in_nI (by omega) (by omega)
theorem l_in0 {k L : Nat} {x3 : Int32} (hL : L ≤ 3072) (h : 6 * k + 6 ≤ L) (e : x3 = nI (6 * k)) : vp_in x3 L := by
  rw [e]
  exact vp_in_nI (by omega) (by omega)
theorem l_next (k : Nat) : nI (6 * k) + (6 : Int32) = nI (6 * (k + 1)) := by
  rw [show (6 : Int32) = nI 6 from rfl, nI_add]
  rfl
theorem l_bound {k L : Nat} {x3 : Int32} (hL : L ≤ 3072) (h1 : 6 * k ≤ L) (e : x3 = nI (6 * k)) (hg : ¬ Int32.ofNat L - (6 : Int32) < x3) : 6 * k + 6 ≤ L := by
  rcases Nat.lt_or_ge L (6 * k + 6) with q | q
  · exfalso
    apply hg
    rw [e, Int32.lt_iff_toInt_lt]
    have e1 : (Int32.ofNat L - (6 : Int32)).toInt = (L : Int) - 6 := pk_sub_toInt (a := L) (b := 6) (by omega) (by omega)
    rw [e1, nI_toInt (by omega)]
    omega
  · exact q
theorem lk_13 : cVf "LostLanesLaw" 13 yX10_lane cX10_lane 5 (some .int) "LostLanes" 4 := ⟨wd2_109, wd2_106, wd2_107, wd2_108, wd1_1, by decide +kernel⟩
theorem lk_17 : cVf "LostLanesLaw" 17 yX11_lane cX11_lane 5 (some .int) "LostLanesModel" 4 := ⟨wd6_112, wd6_109, wd6_110, wd6_111, wd1_10, by decide +kernel⟩
theorem lk_18 : cVf "LostLanesLaw" 18 yX10_at cX10_at 3 (some .int) "LostLanes" 2 := ⟨wd2_131, wd2_128, wd2_129, wd2_130, wd1_1, by decide +kernel⟩
theorem lk_22 : cVf "LostLanesLaw" 22 yX11_at cX11_at 3 (some .int) "LostLanesModel" 2 := ⟨wd6_126, wd6_123, wd6_124, wd6_125, wd1_10, by decide +kernel⟩
theorem lk_23 : cVf "LostLanesLaw" 23 yX10_child cX10_child 3 (some .int) "LostLanes" 2 := ⟨wd2_139, wd2_136, wd2_137, wd2_138, wd1_1, by decide +kernel⟩
theorem lk_26 : cVf "LostLanesLaw" 26 yX11_child cX11_child 4 (some .int) "LostLanesModel" 2 := ⟨wd6_134, wd6_131, wd6_132, wd6_133, wd1_10, by decide +kernel⟩
theorem lk_27 : cVf "LostLanesLaw" 27 yX10_of cX10_of 3 (some .int) "LostLanes" 2 := ⟨wd2_147, wd2_144, wd2_145, wd2_146, wd1_1, by decide +kernel⟩
theorem lk_30 : cVf "LostLanesLaw" 30 yX11_of cX11_of 3 (some .int) "LostLanesModel" 2 := ⟨wd6_138, wd6_135, wd6_136, wd6_137, wd1_10, by decide +kernel⟩
theorem lk_31 : cVf "LostLanesLaw" 31 yX10_asks cX10_asks 4 (some .int) "LostLanes" 3 := ⟨wd2_217, wd2_214, wd2_215, wd2_216, wd1_1, by decide +kernel⟩
theorem lk_35 : cVf "LostLanesLaw" 35 yX11_asks cX11_asks 4 (some .int) "LostLanesModel" 3 := ⟨wd6_188, wd6_185, wd6_186, wd6_187, wd1_10, by decide +kernel⟩
theorem lk_36 : cVf "LostLanesLaw" 36 yX10_terms cX10_terms 4 (some .int) "LostLanes" 2 := ⟨wd2_227, wd2_224, wd2_225, wd2_226, wd1_1, by decide +kernel⟩
theorem lk_39 : cVf "LostLanesLaw" 39 yX11_terms cX11_terms 4 (some .int) "LostLanesModel" 2 := ⟨wd6_196, wd6_193, wd6_194, wd6_195, wd1_10, by decide +kernel⟩
theorem lk_40 : cVf "LostLanesLaw" 40 yX10_feed cX10_feed 6 (some .int) "LostLanes" 5 := ⟨wd2_233, wd2_230, wd2_231, wd2_232, wd1_1, by decide +kernel⟩
theorem lk_44 : cVf "LostLanesLaw" 44 yX11_feed cX11_feed 6 (some .int) "LostLanesModel" 5 := ⟨wd6_214, wd6_211, wd6_212, wd6_213, wd1_10, by decide +kernel⟩
theorem lk_45 : cVf "LostLanesLaw" 45 yX10_end cX10_end 2 (some .int) "LostLanes" 1 := ⟨wd3_1, wd2_238, wd2_239, wd3_0, wd1_1, by decide +kernel⟩
theorem lk_49 : cVf "LostLanesLaw" 49 yX11_end cX11_end 2 (some .int) "LostLanesModel" 1 := ⟨wd6_222, wd6_219, wd6_220, wd6_221, wd1_10, by decide +kernel⟩
theorem lk_50 : cVf "LostLanesLaw" 50 yX10_row cX10_row 3 (some .int) "LostLanes" 0 := ⟨wd3_5, wd3_2, wd3_3, wd3_4, wd1_1, by decide +kernel⟩
theorem lk_54 : cVf "LostLanesLaw" 54 yX11_row cX11_row 4 (some .int) "LostLanesModel" 0 := ⟨wd6_206, wd6_203, wd6_204, wd6_205, wd1_10, by decide +kernel⟩
theorem lk_55 : cVf "LostLanesLaw" 55 yX10_gravel cX10_gravel 1 (some .int) "LostLanes" 0 := ⟨wd3_13, wd3_10, wd3_11, wd3_12, wd1_1, by decide +kernel⟩
theorem lk_58 : cVf "LostLanesLaw" 58 yX11_gravel cX11_gravel 1 (some .int) "LostLanesModel" 0 := ⟨wd6_210, wd6_207, wd6_208, wd6_209, wd1_10, by decide +kernel⟩
theorem lk_59 : cVf "LostLanesLaw" 59 yX10_law cX10_law 2 (some .int) "LostLanes" 0 := ⟨wd3_17, wd3_14, wd3_15, wd3_16, wd1_1, by decide +kernel⟩
theorem lk_62 : cVf "LostLanesLaw" 62 yX11_law cX11_law 3 (some .int) "LostLanesModel" 0 := ⟨wd6_230, wd6_227, wd6_228, wd6_229, wd1_10, by decide +kernel⟩
theorem lk_63 : cVf "LostLanesLaw" 63 yX10_orders cX10_orders 5 (some .int) "LostLanes" 0 := ⟨wd4_9, wd4_6, wd4_7, wd4_8, wd1_1, by decide +kernel⟩
theorem lk_66 : cVf "LostLanesLaw" 66 yX11_orders cX11_orders 4 (some .int) "LostLanesModel" 0 := ⟨wd8_66, wd8_63, wd8_64, wd8_65, wd1_10, by decide +kernel⟩
theorem lk_67 : cVf "LostLanesLaw" 67 yX10_fault cX10_fault 1 (some .int) "LostLanes" 0 := ⟨wd4_80, wd4_77, wd4_78, wd4_79, wd1_1, by decide +kernel⟩
theorem lk_70 : cVf "LostLanesLaw" 70 yX11_fault cX11_fault 1 (some .int) "LostLanesModel" 0 := ⟨wd6_226, wd6_223, wd6_224, wd6_225, wd1_10, by decide +kernel⟩
theorem lk_71 : cVf "LostLanesLaw" 71 yX10_stopped cX10_stopped 1 (some .int) "LostLanes" 0 := ⟨wd4_84, wd4_81, wd4_82, wd4_83, wd1_1, by decide +kernel⟩
theorem lk_74 : cVf "LostLanesLaw" 74 yX11_stopped cX11_stopped 1 (some .int) "LostLanesModel" 0 := ⟨wd8_100, wd8_97, wd8_98, wd8_99, wd1_10, by decide +kernel⟩
theorem lk_75 : cVf "LostLanesLaw" 75 yX10_force cX10_force 3 (some .int) "LostLanes" 1 := ⟨wd4_88, wd4_85, wd4_86, wd4_87, wd1_1, by decide +kernel⟩
theorem lk_78 : cVf "LostLanesLaw" 78 yX11_force cX11_force 2 (some .int) "LostLanesModel" 1 := ⟨wd7_109, wd7_106, wd7_107, wd7_108, wd1_10, by decide +kernel⟩
theorem lk_79 : cVf "LostLanesLaw" 79 yX10_wander cX10_wander 2 (some .int) "LostLanes" 1 := ⟨wd4_93, wd4_90, wd4_91, wd4_92, wd1_1, by decide +kernel⟩
theorem lk_82 : cVf "LostLanesLaw" 82 yX11_wander cX11_wander 2 (some .int) "LostLanesModel" 1 := ⟨wd7_117, wd7_114, wd7_115, wd7_116, wd1_10, by decide +kernel⟩
theorem lk_83 : cVf "LostLanesLaw" 83 yX10_cry cX10_cry 2 (some .int) "LostLanes" 1 := ⟨wd4_101, wd4_98, wd4_99, wd4_100, wd1_1, by decide +kernel⟩
theorem lk_86 : cVf "LostLanesLaw" 86 yX11_cry cX11_cry 2 (some .int) "LostLanesModel" 1 := ⟨wd7_141, wd7_138, wd7_139, wd7_140, wd1_10, by decide +kernel⟩
theorem lk_87 : cVf "LostLanesLaw" 87 yX10_lead cX10_lead 3 (some .int) "LostLanes" 2 := ⟨wd4_105, wd4_102, wd4_103, wd4_104, wd1_1, by decide +kernel⟩
theorem lk_90 : cVf "LostLanesLaw" 90 yX11_lead cX11_lead 3 (some .int) "LostLanesModel" 2 := ⟨wd7_153, wd7_150, wd7_151, wd7_152, wd1_10, by decide +kernel⟩
theorem lk_91 : cVf "LostLanesLaw" 91 yX10_pass cX10_pass 1 (some .int) "LostLanes" 0 := ⟨wd4_109, wd4_106, wd4_107, wd4_108, wd1_1, by decide +kernel⟩
theorem lk_94 : cVf "LostLanesLaw" 94 yX11_pass cX11_pass 1 (some .int) "LostLanesModel" 0 := ⟨wd7_161, wd7_158, wd7_159, wd7_160, wd1_10, by decide +kernel⟩
theorem lk_95 : cVf "LostLanesLaw" 95 yX10_undo cX10_undo 1 (some .int) "LostLanes" 0 := ⟨wd4_113, wd4_110, wd4_111, wd4_112, wd1_1, by decide +kernel⟩
theorem lk_98 : cVf "LostLanesLaw" 98 yX11_undo cX11_undo 1 (some .int) "LostLanesModel" 0 := ⟨wd6_85, wd6_82, wd6_83, wd6_84, wd1_10, by decide +kernel⟩
theorem lk_99 : cVf "LostLanesLaw" 99 yX10_where cX10_where 3 (some .int) "LostLanes" 2 := ⟨wd4_121, wd4_118, wd4_119, wd4_120, wd1_1, by decide +kernel⟩
theorem lk_102 : cVf "LostLanesLaw" 102 yX11_where cX11_where 4 (some .int) "LostLanesModel" 2 := ⟨wd7_173, wd7_170, wd7_171, wd7_172, wd1_10, by decide +kernel⟩
theorem lk_103 : cVf "LostLanesLaw" 103 yX10_far cX10_far 4 (some .int) "LostLanes" 2 := ⟨wd4_132, wd4_129, wd4_130, wd4_131, wd1_1, by decide +kernel⟩
theorem lk_106 : cVf "LostLanesLaw" 106 yX11_far cX11_far 3 (some .int) "LostLanesModel" 2 := ⟨wd7_178, wd7_175, wd7_176, wd7_177, wd1_10, by decide +kernel⟩
theorem lk_107 : cVf "LostLanesLaw" 107 yX10_found cX10_found 4 (some .int) "LostLanes" 2 := ⟨wd4_160, wd4_157, wd4_158, wd4_159, wd1_1, by decide +kernel⟩
theorem lk_110 : cVf "LostLanesLaw" 110 yX11_found cX11_found 4 (some .int) "LostLanesModel" 2 := ⟨wd7_191, wd7_188, wd7_189, wd7_190, wd1_10, by decide +kernel⟩
theorem lk_111 : cVf "LostLanesLaw" 111 yX10_post cX10_post 4 (some .int) "LostLanes" 1 := ⟨wd4_168, wd4_165, wd4_166, wd4_167, wd1_1, by decide +kernel⟩
theorem lk_114 : cVf "LostLanesLaw" 114 yX11_post cX11_post 8 (some .int) "LostLanesModel" 1 := ⟨wd7_199, wd7_196, wd7_197, wd7_198, wd1_10, by decide +kernel⟩
theorem lk_115 : cVf "LostLanesLaw" 115 yX10_posts cX10_posts 4 (some .int) "LostLanes" 2 := ⟨wd4_183, wd4_180, wd4_181, wd4_182, wd1_1, by decide +kernel⟩
theorem lk_118 : cVf "LostLanesLaw" 118 yX11_posts cX11_posts 6 (some .int) "LostLanesModel" 2 := ⟨wd7_203, wd7_200, wd7_201, wd7_202, wd1_10, by decide +kernel⟩
theorem lk_119 : cVf "LostLanesLaw" 119 yX10_again cX10_again 3 (some .int) "LostLanes" 1 := ⟨wd4_210, wd4_207, wd4_208, wd4_209, wd1_1, by decide +kernel⟩
theorem lk_122 : cVf "LostLanesLaw" 122 yX11_again cX11_again 4 (some .int) "LostLanesModel" 1 := ⟨wd7_222, wd7_219, wd7_220, wd7_221, wd1_10, by decide +kernel⟩
theorem lk_123 : cVf "LostLanesLaw" 123 yX10_hear cX10_hear 2 (some .int) "LostLanes" 1 := ⟨wd4_214, wd4_211, wd4_212, wd4_213, wd1_1, by decide +kernel⟩
theorem lk_126 : cVf "LostLanesLaw" 126 yX11_hear cX11_hear 3 (some .int) "LostLanesModel" 1 := ⟨wd7_226, wd7_223, wd7_224, wd7_225, wd1_10, by decide +kernel⟩
theorem lk_127 : cVf "LostLanesLaw" 127 yX10_forget cX10_forget 2 (some .int) "LostLanes" 0 := ⟨wd4_221, wd4_218, wd4_219, wd4_220, wd1_1, by decide +kernel⟩
theorem lk_130 : cVf "LostLanesLaw" 130 yX11_forget cX11_forget 2 (some .int) "LostLanesModel" 0 := ⟨wd7_231, wd7_228, wd7_229, wd7_230, wd1_10, by decide +kernel⟩
theorem lk_131 : cVf "LostLanesLaw" 131 yX10_gone cX10_gone 2 (some .int) "LostLanes" 1 := ⟨wd4_225, wd4_222, wd4_223, wd4_224, wd1_1, by decide +kernel⟩
theorem lk_134 : cVf "LostLanesLaw" 134 yX11_gone cX11_gone 8 (some .int) "LostLanesModel" 1 := ⟨wd7_235, wd7_232, wd7_233, wd7_234, wd1_10, by decide +kernel⟩
theorem lk_135 : cVf "LostLanesLaw" 135 yX10_named cX10_named 3 (some .int) "LostLanes" 1 := ⟨wd5_0, wd4_237, wd4_238, wd4_239, wd1_1, by decide +kernel⟩
theorem lk_138 : cVf "LostLanesLaw" 138 yX11_named cX11_named 4 (some .int) "LostLanesModel" 1 := ⟨wd8_4, wd8_1, wd8_2, wd8_3, wd1_10, by decide +kernel⟩
theorem lk_139 : cVf "LostLanesLaw" 139 yX10_letter cX10_letter 6 (some .int) "LostLanes" 3 := ⟨wd5_4, wd5_1, wd5_2, wd5_3, wd1_1, by decide +kernel⟩
theorem lk_142 : cVf "LostLanesLaw" 142 yX11_letter cX11_letter 10 (some .int) "LostLanesModel" 3 := ⟨wd8_8, wd8_5, wd8_6, wd8_7, wd1_10, by decide +kernel⟩
theorem lk_143 : cVf "LostLanesLaw" 143 yX10_apart cX10_apart 3 (some .int) "LostLanes" 1 := ⟨wd5_25, wd5_22, wd5_23, wd5_24, wd1_1, by decide +kernel⟩
theorem lk_146 : cVf "LostLanesLaw" 146 yX11_apart cX11_apart 3 (some .int) "LostLanesModel" 1 := ⟨wd8_20, wd8_17, wd8_18, wd8_19, wd1_10, by decide +kernel⟩
theorem lk_147 : cVf "LostLanesLaw" 147 yX10_alike cX10_alike 4 (some .int) "LostLanes" 0 := ⟨wd5_46, wd5_43, wd5_44, wd5_45, wd1_1, by decide +kernel⟩
theorem lk_150 : cVf "LostLanesLaw" 150 yX11_alike cX11_alike 4 (some .int) "LostLanesModel" 0 := ⟨wd8_40, wd8_37, wd8_38, wd8_39, wd1_10, by decide +kernel⟩
theorem lk_151 : cVf "LostLanesLaw" 151 yX10_round cX10_round 4 (some .int) "LostLanes" 0 := ⟨wd5_51, wd5_48, wd5_49, wd5_50, wd1_1, by decide +kernel⟩
theorem lk_154 : cVf "LostLanesLaw" 154 yX11_round cX11_round 4 (some .int) "LostLanesModel" 0 := ⟨wd8_44, wd8_41, wd8_42, wd8_43, wd1_10, by decide +kernel⟩
theorem lk_155 : cVf "LostLanesLaw" 155 yX10_dead cX10_dead 5 (some .int) "LostLanes" 0 := ⟨wd5_70, wd5_67, wd5_68, wd5_69, wd1_1, by decide +kernel⟩
theorem lk_158 : cVf "LostLanesLaw" 158 yX11_dead cX11_dead 3 (some .int) "LostLanesModel" 0 := ⟨wd8_52, wd8_49, wd8_50, wd8_51, wd1_10, by decide +kernel⟩
theorem lk_159 : cVf "LostLanesLaw" 159 yX10_few cX10_few 8 (some .long) "LostLanes" 2 := ⟨wd5_74, wd5_71, wd5_72, wd5_73, wd1_1, by decide +kernel⟩
theorem lk_163 : cVf "LostLanesLaw" 163 yX11_few cX11_few 8 (some .long) "LostLanesModel" 2 := ⟨wd8_56, wd8_53, wd8_54, wd8_55, wd1_10, by decide +kernel⟩
theorem lk_164 : cVf "LostLanesLaw" 164 yX10_compare cX10_compare 5 (some .int) "LostLanes" 2 := ⟨wd5_84, wd5_81, wd5_82, wd5_83, wd1_1, by decide +kernel⟩
theorem lk_167 : cVf "LostLanesLaw" 167 yX11_compare cX11_compare 5 (some .int) "LostLanesModel" 2 := ⟨wd8_62, wd8_59, wd8_60, wd8_61, wd1_10, by decide +kernel⟩
theorem lk_168 : cVf "LostLanesLaw" 168 yX10_decades cX10_decades 8 (some .int) "LostLanes" 2 := ⟨wd5_90, wd5_87, wd5_88, wd5_89, wd1_1, by decide +kernel⟩
theorem lk_171 : cVf "LostLanesLaw" 171 yX11_decades cX11_decades 7 (some .int) "LostLanesModel" 2 := ⟨wd8_104, wd8_101, wd8_102, wd8_103, wd1_10, by decide +kernel⟩
theorem lk_172 : cVf "LostLanesLaw" 172 yX10_drawn cX10_drawn 3 (some .int) "LostLanes" 2 := ⟨wd5_101, wd5_98, wd5_99, wd5_100, wd1_1, by decide +kernel⟩
theorem lk_175 : cVf "LostLanesLaw" 175 yX11_drawn cX11_drawn 3 (some .int) "LostLanesModel" 2 := ⟨wd8_115, wd8_112, wd8_113, wd8_114, wd1_10, by decide +kernel⟩
theorem lk_176 : cVf "LostLanesLaw" 176 yX10_image cX10_image 3 (some .int) "LostLanes" 1 := ⟨wd5_105, wd5_102, wd5_103, wd5_104, wd1_1, by decide +kernel⟩
theorem lk_179 : cVf "LostLanesLaw" 179 yX11_image cX11_image 3 (some .int) "LostLanesModel" 1 := ⟨wd6_97, wd6_94, wd6_95, wd6_96, wd1_10, by decide +kernel⟩
theorem lk_180 : cVf "LostLanesLaw" 180 yX10_back cX10_back 3 (some .int) "LostLanes" 1 := ⟨wd5_109, wd5_106, wd5_107, wd5_108, wd1_1, by decide +kernel⟩
theorem lk_183 : cVf "LostLanesLaw" 183 yX11_back cX11_back 3 (some .int) "LostLanesModel" 1 := ⟨wd6_104, wd6_101, wd6_102, wd6_103, wd1_10, by decide +kernel⟩
theorem lk_184 : cVf "LostLanesLaw" 184 yX10_count cX10_count 2 (some .int) "LostLanes" 1 := ⟨wd5_113, wd5_110, wd5_111, wd5_112, wd1_1, by decide +kernel⟩
theorem lk_187 : cVf "LostLanesLaw" 187 yX11_count cX11_count 2 (some .int) "LostLanesModel" 1 := ⟨wd8_119, wd8_116, wd8_117, wd8_118, wd1_10, by decide +kernel⟩
theorem lk_188 : cVf "LostLanesLaw" 188 yX10_status cX10_status 1 (some .int) "LostLanes" 0 := ⟨wd5_117, wd5_114, wd5_115, wd5_116, wd1_1, by decide +kernel⟩
theorem lk_191 : cVf "LostLanesLaw" 191 yX11_status cX11_status 1 (some .int) "LostLanesModel" 0 := ⟨wd8_125, wd8_122, wd8_123, wd8_124, wd1_10, by decide +kernel⟩
set_option maxRecDepth 100000 in
set_option maxHeartbeats 8000000 in
theorem law_loop {p : Program} {l : Launch} {e : Env} {s : State} {m : MethodId} {below : List Frame} {meth : Method} {c : Code} {dC : Nat → ClassId} {dI : Nat → Nat → Nat} {E : Nat → ClassId} {ev ho : Nat → Nat} {ro : Nat → Nat → Nat} {h : Nat} {r : Nat → Nat} {b L : Nat} {xs : Nat → Int32} {w0 : Cond} {F : Nat} {Rel : CS → va_W → MS → Prop} (hL : L ≤ 3072) (X : gX p s m #[Value.ref b] c dC dI E (fun q : Nat => s.heap.size ≤ q) "LostLanesLaw" code 4 w0) (Y : envC ev (fun q : Nat => s.heap.size ≤ q) s) (hr : meth.sig.returnType = ret) (hlk : meth.locks = false) (hX : va_X b L xs s s.heap) (hbl : b < s.heap.size) (AG : Agree F E Rel) :
    ∀ (n k : Nat) (x3 : Int32) (S : CS) (P : va_W) (σ : MS), 6 * k ≤ L → L + 1 ≤ 6 * k + 6 * n → x3 = nI (6 * k) → Rel S P σ → GG p l e room_1 s m #[Value.ref b] below meth c dC dI (fun q : Nat => s.heap.size ≤ q) 4 (110 + 17 * k) (23187 + 900 * k) (lw_Z below #[Value.ref b] s) ((CW E ho ro S ++ P) ++ MW E h r σ) 18 [(0, .ref b), (1, .ref (ho 0)), (2, .ref h), (3, .int x3)] [] := by
  have hbA : ¬ (fun q : Nat => s.heap.size ≤ q) b := Nat.not_le.mpr hbl
  obtain ⟨ag0, ag1, ag2, ag3, ag4, ag5, ag6, ag7, ag8, ag9, ag10, ag11, ag12, ag13, ag14, ag15, ag16, ag17, ag18, ag19, ag20, ag21, ag22, ag23, ag24, ag25, ag26, ag27, ag28, ag29, ag30, ag31, ag32, ag33, ag34, ag35, ag36, ag37, ag38, ag39, ag40, ag41, ag42⟩ := AG
  intro n
  induction n with
  | zero => intro k x3 S P σ h1 h2; omega
  | succ n ih =>
    intro k x3 S P σ h1 h2 e3 hrel
    refine g_iload_n X dL_law_18 3 rfl ?_
    refine g_aload_n X dL_law_19 0 rfl ?_
    refine l_slen X hX hbl hbA dL_law_20 ?_
    refine g_bipush X dL_law_21 kb_6 ?_
    refine g_isub X dL_law_23 ?_
    refine l_gt (tgt := 1326) X dL_law_24 (by decide) (fun hgt => ?_) (fun hgt => ?_)
    · refine g_iconst X dL_law_1326 kc_1 ?_
      refine g_widen (k := 600000) (n := 7302250) ⟨by omega, by omega⟩ ?_
      exact fun H locs ls hP hD hS hl => va_forget (fun q hq => hS.2.2 q hq) (lw_ret X.1 X.2.1 hr hlk dL_law_1327)
    have hk6 : 6 * k + 6 ≤ L := l_bound hL h1 e3 hgt
    have hin0 : vp_in x3 L := l_in0 hL hk6 e3
    have hin1 : vp_in (x3 + (1 : Int32)) L := l_in hL hk6 e3 1 (by decide) rfl
    have hin2 : vp_in (x3 + (2 : Int32)) L := l_in hL hk6 e3 2 (by decide) rfl
    have hin3 : vp_in (x3 + (3 : Int32)) L := l_in hL hk6 e3 3 (by decide) rfl
    have hin4 : vp_in (x3 + (4 : Int32)) L := l_in hL hk6 e3 4 (by decide) rfl
    have hin5 : vp_in (x3 + (5 : Int32)) L := l_in hL hk6 e3 5 (by decide) rfl
    have hend : ∀ (S : CS) (P : va_W) (σ : MS), Rel S P σ → GG p l e room_1 s m #[Value.ref b] below meth c dC dI (fun q : Nat => s.heap.size ≤ q) 4 (110 + 17 * k + 17) (23187 + 900 * k + 900) (lw_Z below #[Value.ref b] s) ((CW E ho ro S ++ P) ++ MW E h r σ) 1320 [(0, .ref b), (1, .ref (ho 0)), (2, .ref h), (3, .int x3)] [] := by
      intro S P σ hrel
      refine g_iinc (lv' := [(3, .int (x3 + (6 : Int32))), (0, .ref b), (1, .ref (ho 0)), (2, .ref h)]) X dL_law_1320 3 rfl kc_6 (by decide) rfl ?_
      refine g_goto (tgt := 18) X dL_law_1323 (by decide) ?_
      refine g_lv [1, 2, 3, 0] (lv' := [(0, .ref b), (1, .ref (ho 0)), (2, .ref h), (3, .int (x3 + (6 : Int32)))]) rfl ?_
      exact ih (k + 1) _ S P σ (by omega) (by omega) (by rw [e3]; exact l_next k) hrel
    refine g_aload_n X dL_law_27 0 rfl ?_
    refine g_iload_n X dL_law_28 3 rfl ?_
    refine l_sld X hX hbl hbA hin0 dL_law_29 ?_
    refine g_bipush X dL_law_30 kb_63 ?_
    refine g_iand X dL_law_32 ?_
    by_cases hs0 : (xs x3.toNatClampNeg &&& (63 : Int32)) = (0 : Int32)
    · refine g_tsw (tgt := 220) (off := 187) X dL_law_33 (by rw [hs0]; decide) (by rw [hs0]; decide) (by rw [hs0]; rfl) (by decide) ?_
      refine g_aload_n X dL_law_220 1 rfl ?_
      refine g_aload_n X dL_law_221 0 rfl ?_
      refine g_iload_n X dL_law_222 3 rfl ?_
      refine g_iconst X dL_law_223 kc_1 ?_
      refine g_iadd X dL_law_224 ?_
      refine l_sld X hX hbl hbA hin1 dL_law_225 ?_
      refine g_aload_n X dL_law_226 0 rfl ?_
      refine g_iload_n X dL_law_227 3 rfl ?_
      refine g_iconst X dL_law_228 kc_2 ?_
      refine g_iadd X dL_law_229 ?_
      refine l_sld X hX hbl hbA hin2 dL_law_230 ?_
      refine g_aload_n X dL_law_231 0 rfl ?_
      refine g_iload_n X dL_law_232 3 rfl ?_
      refine g_iconst X dL_law_233 kc_3 ?_
      refine g_iadd X dL_law_234 ?_
      refine l_sld X hX hbl hbA hin3 dL_law_235 ?_
      refine g_aload_n X dL_law_236 0 rfl ?_
      refine g_iload_n X dL_law_237 3 rfl ?_
      refine g_iconst X dL_law_238 kc_4 ?_
      refine g_iadd X dL_law_239 ?_
      refine l_sld X hX hbl hbA hin4 dL_law_240 ?_
      refine l_callL (rm := rc_10_lane) (As := [.int (xs (x3 + (1 : Int32)).toNatClampNeg), .int (xs (x3 + (2 : Int32)).toNatClampNeg), .int (xs (x3 + (3 : Int32)).toNatClampNeg), .int (xs (x3 + (4 : Int32)).toNatClampNeg)]) (st := []) (mc := 0) (ms := 0) X Y (fun ws' ov => ∃ (q : Int32 × CS) (σ1 : MS), ws' = CW E ho ro q.2 ++ P ∧ ov = some (.int q.1) ∧ M_lane σ (xs (x3 + (1 : Int32)).toNatClampNeg) (xs (x3 + (2 : Int32)).toNatClampNeg) (xs (x3 + (3 : Int32)).toNatClampNeg) (xs (x3 + (4 : Int32)).toNatClampNeg) = some (q.1, σ1) ∧ Rel q.2 P σ1) lk_13 ob_10 rfl ⟨Nat.le_of_ble_eq_true rfl, Nat.le_of_ble_eq_true rfl⟩ ⟨rfl, rfl⟩ (Nat.le_of_ble_eq_true rfl) ⟨by show (110 + 17 * k) + 0 ≤ 600000; omega, by show (23187 + 900 * k) + 0 ≤ 7302250; omega⟩ (fun z hz => ?_) dL_law_241 (fun ws' ov hΦ => ?_)
      · obtain ⟨q, σ1, g1, g2, g3⟩ := ag0 S P σ (xs (x3 + (1 : Int32)).toNatClampNeg) (xs (x3 + (2 : Int32)).toNatClampNeg) (xs (x3 + (3 : Int32)).toNatClampNeg) (xs (x3 + (4 : Int32)).toNatClampNeg) hrel
        exact ⟨_, _, cc_10_lane l dC dI E ev ho ro P S (xs (x3 + (1 : Int32)).toNatClampNeg) (xs (x3 + (2 : Int32)).toNatClampNeg) (xs (x3 + (3 : Int32)).toNatClampNeg) (xs (x3 + (4 : Int32)).toNatClampNeg) q g1 z, q, σ1, rfl, rfl, g2, g3⟩
      obtain ⟨q, σ1, rfl, rfl, g2, g3⟩ := hΦ
      refine g_aload_n X dL_law_244 2 rfl ?_
      refine g_aload_n X dL_law_245 0 rfl ?_
      refine g_iload_n X dL_law_246 3 rfl ?_
      refine g_iconst X dL_law_247 kc_1 ?_
      refine g_iadd X dL_law_248 ?_
      refine l_sld X hX hbl hbA hin1 dL_law_249 ?_
      refine g_aload_n X dL_law_250 0 rfl ?_
      refine g_iload_n X dL_law_251 3 rfl ?_
      refine g_iconst X dL_law_252 kc_2 ?_
      refine g_iadd X dL_law_253 ?_
      refine l_sld X hX hbl hbA hin2 dL_law_254 ?_
      refine g_aload_n X dL_law_255 0 rfl ?_
      refine g_iload_n X dL_law_256 3 rfl ?_
      refine g_iconst X dL_law_257 kc_3 ?_
      refine g_iadd X dL_law_258 ?_
      refine l_sld X hX hbl hbA hin3 dL_law_259 ?_
      refine g_aload_n X dL_law_260 0 rfl ?_
      refine g_iload_n X dL_law_261 3 rfl ?_
      refine g_iconst X dL_law_262 kc_4 ?_
      refine g_iadd X dL_law_263 ?_
      refine l_sld X hX hbl hbA hin4 dL_law_264 ?_
      refine l_callR (rm := rm_lane) (As := [.int (xs (x3 + (1 : Int32)).toNatClampNeg), .int (xs (x3 + (2 : Int32)).toNatClampNeg), .int (xs (x3 + (3 : Int32)).toNatClampNeg), .int (xs (x3 + (4 : Int32)).toNatClampNeg)]) (st := [.int q.1]) X lk_17 ⟨0, _, rfl⟩ (cix := 11) rfl ⟨Nat.le_of_ble_eq_true rfl, Nat.le_of_ble_eq_true rfl⟩ ⟨rfl, rfl⟩ (Nat.le_of_ble_eq_true rfl) ⟨by show (110 + 17 * k) + 0 + 0 ≤ 600000; omega, by show (23187 + 900 * k) + 0 + 0 ≤ 7302250; omega⟩ (c_lane l dC dI E h r σ (xs (x3 + (1 : Int32)).toNatClampNeg) (xs (x3 + (2 : Int32)).toNatClampNeg) (xs (x3 + (3 : Int32)).toNatClampNeg) (xs (x3 + (4 : Int32)).toNatClampNeg) (q.1, σ1) g2) dL_law_265 ?_
      refine l_same (tgt := 1320) X dL_law_268 (by decide) ?_
      exact g_widen ⟨by omega, by omega⟩ (hend _ _ _ g3)
    by_cases hs1 : (xs x3.toNatClampNeg &&& (63 : Int32)) = (1 : Int32)
    · refine g_tsw (tgt := 273) (off := 240) X dL_law_33 (by rw [hs1]; decide) (by rw [hs1]; decide) (by rw [hs1]; rfl) (by decide) ?_
      refine g_aload_n X dL_law_273 1 rfl ?_
      refine g_aload_n X dL_law_274 0 rfl ?_
      refine g_iload_n X dL_law_275 3 rfl ?_
      refine g_iconst X dL_law_276 kc_1 ?_
      refine g_iadd X dL_law_277 ?_
      refine l_sld X hX hbl hbA hin1 dL_law_278 ?_
      refine g_aload_n X dL_law_279 0 rfl ?_
      refine g_iload_n X dL_law_280 3 rfl ?_
      refine g_iconst X dL_law_281 kc_2 ?_
      refine g_iadd X dL_law_282 ?_
      refine l_sld X hX hbl hbA hin2 dL_law_283 ?_
      refine l_callL (rm := rc_10_at) (As := [.int (xs (x3 + (1 : Int32)).toNatClampNeg), .int (xs (x3 + (2 : Int32)).toNatClampNeg)]) (st := []) (mc := 0) (ms := 0) X Y (fun ws' ov => ∃ (q : Int32) (σ1 : MS), ws' = CW E ho ro S ++ P ∧ ov = some (.int q) ∧ M_at σ (xs (x3 + (1 : Int32)).toNatClampNeg) (xs (x3 + (2 : Int32)).toNatClampNeg) = some (q, σ1) ∧ Rel S P σ1) lk_18 ob_10 rfl ⟨Nat.le_of_ble_eq_true rfl, Nat.le_of_ble_eq_true rfl⟩ ⟨rfl, rfl⟩ (Nat.le_of_ble_eq_true rfl) ⟨by show (110 + 17 * k) + 0 ≤ 600000; omega, by show (23187 + 900 * k) + 0 ≤ 7302250; omega⟩ (fun z hz => ?_) dL_law_284 (fun ws' ov hΦ => ?_)
      · obtain ⟨q, σ1, g1, g2, g3⟩ := ag1 S P σ (xs (x3 + (1 : Int32)).toNatClampNeg) (xs (x3 + (2 : Int32)).toNatClampNeg) hrel
        exact ⟨_, _, cc_10_at l dC dI E ev ho ro P S (xs (x3 + (1 : Int32)).toNatClampNeg) (xs (x3 + (2 : Int32)).toNatClampNeg) q g1 z, q, σ1, rfl, rfl, g2, g3⟩
      obtain ⟨q, σ1, rfl, rfl, g2, g3⟩ := hΦ
      refine g_aload_n X dL_law_287 2 rfl ?_
      refine g_aload_n X dL_law_288 0 rfl ?_
      refine g_iload_n X dL_law_289 3 rfl ?_
      refine g_iconst X dL_law_290 kc_1 ?_
      refine g_iadd X dL_law_291 ?_
      refine l_sld X hX hbl hbA hin1 dL_law_292 ?_
      refine g_aload_n X dL_law_293 0 rfl ?_
      refine g_iload_n X dL_law_294 3 rfl ?_
      refine g_iconst X dL_law_295 kc_2 ?_
      refine g_iadd X dL_law_296 ?_
      refine l_sld X hX hbl hbA hin2 dL_law_297 ?_
      refine l_callR (rm := rm_at) (As := [.int (xs (x3 + (1 : Int32)).toNatClampNeg), .int (xs (x3 + (2 : Int32)).toNatClampNeg)]) (st := [.int q]) X lk_22 ⟨0, _, rfl⟩ (cix := 11) rfl ⟨Nat.le_of_ble_eq_true rfl, Nat.le_of_ble_eq_true rfl⟩ ⟨rfl, rfl⟩ (Nat.le_of_ble_eq_true rfl) ⟨by show (110 + 17 * k) + 0 + 0 ≤ 600000; omega, by show (23187 + 900 * k) + 0 + 0 ≤ 7302250; omega⟩ (c_at l dC dI E h r σ (xs (x3 + (1 : Int32)).toNatClampNeg) (xs (x3 + (2 : Int32)).toNatClampNeg) (q, σ1) g2) dL_law_298 ?_
      refine l_same (tgt := 1320) X dL_law_301 (by decide) ?_
      exact g_widen ⟨by omega, by omega⟩ (hend _ _ _ g3)
    by_cases hs2 : (xs x3.toNatClampNeg &&& (63 : Int32)) = (2 : Int32)
    · refine g_tsw (tgt := 306) (off := 273) X dL_law_33 (by rw [hs2]; decide) (by rw [hs2]; decide) (by rw [hs2]; rfl) (by decide) ?_
      refine g_aload_n X dL_law_306 1 rfl ?_
      refine g_aload_n X dL_law_307 0 rfl ?_
      refine g_iload_n X dL_law_308 3 rfl ?_
      refine g_iconst X dL_law_309 kc_1 ?_
      refine g_iadd X dL_law_310 ?_
      refine l_sld X hX hbl hbA hin1 dL_law_311 ?_
      refine g_aload_n X dL_law_312 0 rfl ?_
      refine g_iload_n X dL_law_313 3 rfl ?_
      refine g_iconst X dL_law_314 kc_2 ?_
      refine g_iadd X dL_law_315 ?_
      refine l_sld X hX hbl hbA hin2 dL_law_316 ?_
      refine l_callL (rm := rc_10_child) (As := [.int (xs (x3 + (1 : Int32)).toNatClampNeg), .int (xs (x3 + (2 : Int32)).toNatClampNeg)]) (st := []) (mc := 0) (ms := 0) X Y (fun ws' ov => ∃ (q : Int32 × CS) (σ1 : MS), ws' = CW E ho ro q.2 ++ P ∧ ov = some (.int q.1) ∧ M_child σ (xs (x3 + (1 : Int32)).toNatClampNeg) (xs (x3 + (2 : Int32)).toNatClampNeg) = some (q.1, σ1) ∧ Rel q.2 P σ1) lk_23 ob_10 rfl ⟨Nat.le_of_ble_eq_true rfl, Nat.le_of_ble_eq_true rfl⟩ ⟨rfl, rfl⟩ (Nat.le_of_ble_eq_true rfl) ⟨by show (110 + 17 * k) + 0 ≤ 600000; omega, by show (23187 + 900 * k) + 0 ≤ 7302250; omega⟩ (fun z hz => ?_) dL_law_317 (fun ws' ov hΦ => ?_)
      · obtain ⟨q, σ1, g1, g2, g3⟩ := ag2 S P σ (xs (x3 + (1 : Int32)).toNatClampNeg) (xs (x3 + (2 : Int32)).toNatClampNeg) hrel
        exact ⟨_, _, cc_10_child l dC dI E ev ho ro P S (xs (x3 + (1 : Int32)).toNatClampNeg) (xs (x3 + (2 : Int32)).toNatClampNeg) q g1 z, q, σ1, rfl, rfl, g2, g3⟩
      obtain ⟨q, σ1, rfl, rfl, g2, g3⟩ := hΦ
      refine g_aload_n X dL_law_320 2 rfl ?_
      refine g_aload_n X dL_law_321 0 rfl ?_
      refine g_iload_n X dL_law_322 3 rfl ?_
      refine g_iconst X dL_law_323 kc_1 ?_
      refine g_iadd X dL_law_324 ?_
      refine l_sld X hX hbl hbA hin1 dL_law_325 ?_
      refine g_aload_n X dL_law_326 0 rfl ?_
      refine g_iload_n X dL_law_327 3 rfl ?_
      refine g_iconst X dL_law_328 kc_2 ?_
      refine g_iadd X dL_law_329 ?_
      refine l_sld X hX hbl hbA hin2 dL_law_330 ?_
      refine l_callR (rm := rm_child) (As := [.int (xs (x3 + (1 : Int32)).toNatClampNeg), .int (xs (x3 + (2 : Int32)).toNatClampNeg)]) (st := [.int q.1]) X lk_26 ⟨0, _, rfl⟩ (cix := 11) rfl ⟨Nat.le_of_ble_eq_true rfl, Nat.le_of_ble_eq_true rfl⟩ ⟨rfl, rfl⟩ (Nat.le_of_ble_eq_true rfl) ⟨by show (110 + 17 * k) + 0 + 0 ≤ 600000; omega, by show (23187 + 900 * k) + 0 + 0 ≤ 7302250; omega⟩ (c_child l dC dI E h r σ (xs (x3 + (1 : Int32)).toNatClampNeg) (xs (x3 + (2 : Int32)).toNatClampNeg) (q.1, σ1) g2) dL_law_331 ?_
      refine l_same (tgt := 1320) X dL_law_334 (by decide) ?_
      exact g_widen ⟨by omega, by omega⟩ (hend _ _ _ g3)
    by_cases hs3 : (xs x3.toNatClampNeg &&& (63 : Int32)) = (3 : Int32)
    · refine g_tsw (tgt := 339) (off := 306) X dL_law_33 (by rw [hs3]; decide) (by rw [hs3]; decide) (by rw [hs3]; rfl) (by decide) ?_
      refine g_aload_n X dL_law_339 1 rfl ?_
      refine g_aload_n X dL_law_340 0 rfl ?_
      refine g_iload_n X dL_law_341 3 rfl ?_
      refine g_iconst X dL_law_342 kc_1 ?_
      refine g_iadd X dL_law_343 ?_
      refine l_sld X hX hbl hbA hin1 dL_law_344 ?_
      refine g_aload_n X dL_law_345 0 rfl ?_
      refine g_iload_n X dL_law_346 3 rfl ?_
      refine g_iconst X dL_law_347 kc_2 ?_
      refine g_iadd X dL_law_348 ?_
      refine l_sld X hX hbl hbA hin2 dL_law_349 ?_
      refine l_callL (rm := rc_10_of) (As := [.int (xs (x3 + (1 : Int32)).toNatClampNeg), .int (xs (x3 + (2 : Int32)).toNatClampNeg)]) (st := []) (mc := 0) (ms := 0) X Y (fun ws' ov => ∃ (q : Int32 × CS) (σ1 : MS), ws' = CW E ho ro q.2 ++ P ∧ ov = some (.int q.1) ∧ M_of F σ (xs (x3 + (1 : Int32)).toNatClampNeg) (xs (x3 + (2 : Int32)).toNatClampNeg) = some (q.1, σ1) ∧ Rel q.2 P σ1) lk_27 ob_10 rfl ⟨Nat.le_of_ble_eq_true rfl, Nat.le_of_ble_eq_true rfl⟩ ⟨rfl, rfl⟩ (Nat.le_of_ble_eq_true rfl) ⟨by show (110 + 17 * k) + 0 ≤ 600000; omega, by show (23187 + 900 * k) + 0 ≤ 7302250; omega⟩ (fun z hz => ?_) dL_law_350 (fun ws' ov hΦ => ?_)
      · obtain ⟨q, σ1, g1, g2, g3⟩ := ag3 S P σ (xs (x3 + (1 : Int32)).toNatClampNeg) (xs (x3 + (2 : Int32)).toNatClampNeg) hrel
        exact ⟨_, _, cc_10_of l dC dI E ev ho ro F P S (xs (x3 + (1 : Int32)).toNatClampNeg) (xs (x3 + (2 : Int32)).toNatClampNeg) q g1 z, q, σ1, rfl, rfl, g2, g3⟩
      obtain ⟨q, σ1, rfl, rfl, g2, g3⟩ := hΦ
      refine g_aload_n X dL_law_353 2 rfl ?_
      refine g_aload_n X dL_law_354 0 rfl ?_
      refine g_iload_n X dL_law_355 3 rfl ?_
      refine g_iconst X dL_law_356 kc_1 ?_
      refine g_iadd X dL_law_357 ?_
      refine l_sld X hX hbl hbA hin1 dL_law_358 ?_
      refine g_aload_n X dL_law_359 0 rfl ?_
      refine g_iload_n X dL_law_360 3 rfl ?_
      refine g_iconst X dL_law_361 kc_2 ?_
      refine g_iadd X dL_law_362 ?_
      refine l_sld X hX hbl hbA hin2 dL_law_363 ?_
      refine l_callR (rm := rm_of) (As := [.int (xs (x3 + (1 : Int32)).toNatClampNeg), .int (xs (x3 + (2 : Int32)).toNatClampNeg)]) (st := [.int q.1]) X lk_30 ⟨0, _, rfl⟩ (cix := 11) rfl ⟨Nat.le_of_ble_eq_true rfl, Nat.le_of_ble_eq_true rfl⟩ ⟨rfl, rfl⟩ (Nat.le_of_ble_eq_true rfl) ⟨by show (110 + 17 * k) + 0 + 0 ≤ 600000; omega, by show (23187 + 900 * k) + 0 + 0 ≤ 7302250; omega⟩ (c_of l dC dI E h r F σ (xs (x3 + (1 : Int32)).toNatClampNeg) (xs (x3 + (2 : Int32)).toNatClampNeg) (q.1, σ1) g2) dL_law_364 ?_
      refine l_same (tgt := 1320) X dL_law_367 (by decide) ?_
      exact g_widen ⟨by omega, by omega⟩ (hend _ _ _ g3)
    by_cases hs4 : (xs x3.toNatClampNeg &&& (63 : Int32)) = (4 : Int32)
    · refine g_tsw (tgt := 372) (off := 339) X dL_law_33 (by rw [hs4]; decide) (by rw [hs4]; decide) (by rw [hs4]; rfl) (by decide) ?_
      refine g_aload_n X dL_law_372 1 rfl ?_
      refine g_aload_n X dL_law_373 0 rfl ?_
      refine g_iload_n X dL_law_374 3 rfl ?_
      refine g_iconst X dL_law_375 kc_1 ?_
      refine g_iadd X dL_law_376 ?_
      refine l_sld X hX hbl hbA hin1 dL_law_377 ?_
      refine g_aload_n X dL_law_378 0 rfl ?_
      refine g_iload_n X dL_law_379 3 rfl ?_
      refine g_iconst X dL_law_380 kc_2 ?_
      refine g_iadd X dL_law_381 ?_
      refine l_sld X hX hbl hbA hin2 dL_law_382 ?_
      refine g_aload_n X dL_law_383 0 rfl ?_
      refine g_iload_n X dL_law_384 3 rfl ?_
      refine g_iconst X dL_law_385 kc_3 ?_
      refine g_iadd X dL_law_386 ?_
      refine l_sld X hX hbl hbA hin3 dL_law_387 ?_
      refine l_callL (rm := rc_10_asks) (As := [.int (xs (x3 + (1 : Int32)).toNatClampNeg), .int (xs (x3 + (2 : Int32)).toNatClampNeg), .int (xs (x3 + (3 : Int32)).toNatClampNeg)]) (st := []) (mc := 0) (ms := 0) X Y (fun ws' ov => ∃ (q : Int32 × CS) (σ1 : MS), ws' = CW E ho ro q.2 ++ P ∧ ov = some (.int q.1) ∧ M_asks F σ (xs (x3 + (1 : Int32)).toNatClampNeg) (xs (x3 + (2 : Int32)).toNatClampNeg) (xs (x3 + (3 : Int32)).toNatClampNeg) = some (q.1, σ1) ∧ Rel q.2 P σ1) lk_31 ob_10 rfl ⟨Nat.le_of_ble_eq_true rfl, Nat.le_of_ble_eq_true rfl⟩ ⟨rfl, rfl⟩ (Nat.le_of_ble_eq_true rfl) ⟨by show (110 + 17 * k) + 0 ≤ 600000; omega, by show (23187 + 900 * k) + 0 ≤ 7302250; omega⟩ (fun z hz => ?_) dL_law_388 (fun ws' ov hΦ => ?_)
      · obtain ⟨q, σ1, g1, g2, g3⟩ := ag4 S P σ (xs (x3 + (1 : Int32)).toNatClampNeg) (xs (x3 + (2 : Int32)).toNatClampNeg) (xs (x3 + (3 : Int32)).toNatClampNeg) hrel
        exact ⟨_, _, cc_10_asks l dC dI E ev ho ro F P S (xs (x3 + (1 : Int32)).toNatClampNeg) (xs (x3 + (2 : Int32)).toNatClampNeg) (xs (x3 + (3 : Int32)).toNatClampNeg) q g1 z, q, σ1, rfl, rfl, g2, g3⟩
      obtain ⟨q, σ1, rfl, rfl, g2, g3⟩ := hΦ
      refine g_aload_n X dL_law_391 2 rfl ?_
      refine g_aload_n X dL_law_392 0 rfl ?_
      refine g_iload_n X dL_law_393 3 rfl ?_
      refine g_iconst X dL_law_394 kc_1 ?_
      refine g_iadd X dL_law_395 ?_
      refine l_sld X hX hbl hbA hin1 dL_law_396 ?_
      refine g_aload_n X dL_law_397 0 rfl ?_
      refine g_iload_n X dL_law_398 3 rfl ?_
      refine g_iconst X dL_law_399 kc_2 ?_
      refine g_iadd X dL_law_400 ?_
      refine l_sld X hX hbl hbA hin2 dL_law_401 ?_
      refine g_aload_n X dL_law_402 0 rfl ?_
      refine g_iload_n X dL_law_403 3 rfl ?_
      refine g_iconst X dL_law_404 kc_3 ?_
      refine g_iadd X dL_law_405 ?_
      refine l_sld X hX hbl hbA hin3 dL_law_406 ?_
      refine l_callR (rm := rm_asks) (As := [.int (xs (x3 + (1 : Int32)).toNatClampNeg), .int (xs (x3 + (2 : Int32)).toNatClampNeg), .int (xs (x3 + (3 : Int32)).toNatClampNeg)]) (st := [.int q.1]) X lk_35 ⟨0, _, rfl⟩ (cix := 11) rfl ⟨Nat.le_of_ble_eq_true rfl, Nat.le_of_ble_eq_true rfl⟩ ⟨rfl, rfl⟩ (Nat.le_of_ble_eq_true rfl) ⟨by show (110 + 17 * k) + 0 + 0 ≤ 600000; omega, by show (23187 + 900 * k) + 0 + 0 ≤ 7302250; omega⟩ (c_asks l dC dI E h r F σ (xs (x3 + (1 : Int32)).toNatClampNeg) (xs (x3 + (2 : Int32)).toNatClampNeg) (xs (x3 + (3 : Int32)).toNatClampNeg) (q.1, σ1) g2) dL_law_407 ?_
      refine l_same (tgt := 1320) X dL_law_410 (by decide) ?_
      exact g_widen ⟨by omega, by omega⟩ (hend _ _ _ g3)
    by_cases hs5 : (xs x3.toNatClampNeg &&& (63 : Int32)) = (5 : Int32)
    · refine g_tsw (tgt := 415) (off := 382) X dL_law_33 (by rw [hs5]; decide) (by rw [hs5]; decide) (by rw [hs5]; rfl) (by decide) ?_
      refine g_aload_n X dL_law_415 1 rfl ?_
      refine g_aload_n X dL_law_416 0 rfl ?_
      refine g_iload_n X dL_law_417 3 rfl ?_
      refine g_iconst X dL_law_418 kc_1 ?_
      refine g_iadd X dL_law_419 ?_
      refine l_sld X hX hbl hbA hin1 dL_law_420 ?_
      refine g_aload_n X dL_law_421 0 rfl ?_
      refine g_iload_n X dL_law_422 3 rfl ?_
      refine g_iconst X dL_law_423 kc_2 ?_
      refine g_iadd X dL_law_424 ?_
      refine l_sld X hX hbl hbA hin2 dL_law_425 ?_
      refine l_callL (rm := rc_10_terms) (As := [.int (xs (x3 + (1 : Int32)).toNatClampNeg), .int (xs (x3 + (2 : Int32)).toNatClampNeg)]) (st := []) (mc := 0) (ms := 0) X Y (fun ws' ov => ∃ (q : Int32 × CS) (σ1 : MS), ws' = CW E ho ro q.2 ++ P ∧ ov = some (.int q.1) ∧ M_terms σ (xs (x3 + (1 : Int32)).toNatClampNeg) (xs (x3 + (2 : Int32)).toNatClampNeg) = some (q.1, σ1) ∧ Rel q.2 P σ1) lk_36 ob_10 rfl ⟨Nat.le_of_ble_eq_true rfl, Nat.le_of_ble_eq_true rfl⟩ ⟨rfl, rfl⟩ (Nat.le_of_ble_eq_true rfl) ⟨by show (110 + 17 * k) + 0 ≤ 600000; omega, by show (23187 + 900 * k) + 0 ≤ 7302250; omega⟩ (fun z hz => ?_) dL_law_426 (fun ws' ov hΦ => ?_)
      · obtain ⟨q, σ1, g1, g2, g3⟩ := ag5 S P σ (xs (x3 + (1 : Int32)).toNatClampNeg) (xs (x3 + (2 : Int32)).toNatClampNeg) hrel
        exact ⟨_, _, cc_10_terms l dC dI E ev ho ro P S (xs (x3 + (1 : Int32)).toNatClampNeg) (xs (x3 + (2 : Int32)).toNatClampNeg) q g1 z, q, σ1, rfl, rfl, g2, g3⟩
      obtain ⟨q, σ1, rfl, rfl, g2, g3⟩ := hΦ
      refine g_aload_n X dL_law_429 2 rfl ?_
      refine g_aload_n X dL_law_430 0 rfl ?_
      refine g_iload_n X dL_law_431 3 rfl ?_
      refine g_iconst X dL_law_432 kc_1 ?_
      refine g_iadd X dL_law_433 ?_
      refine l_sld X hX hbl hbA hin1 dL_law_434 ?_
      refine g_aload_n X dL_law_435 0 rfl ?_
      refine g_iload_n X dL_law_436 3 rfl ?_
      refine g_iconst X dL_law_437 kc_2 ?_
      refine g_iadd X dL_law_438 ?_
      refine l_sld X hX hbl hbA hin2 dL_law_439 ?_
      refine l_callR (rm := rm_terms) (As := [.int (xs (x3 + (1 : Int32)).toNatClampNeg), .int (xs (x3 + (2 : Int32)).toNatClampNeg)]) (st := [.int q.1]) X lk_39 ⟨0, _, rfl⟩ (cix := 11) rfl ⟨Nat.le_of_ble_eq_true rfl, Nat.le_of_ble_eq_true rfl⟩ ⟨rfl, rfl⟩ (Nat.le_of_ble_eq_true rfl) ⟨by show (110 + 17 * k) + 0 + 0 ≤ 600000; omega, by show (23187 + 900 * k) + 0 + 0 ≤ 7302250; omega⟩ (c_terms l dC dI E h r σ (xs (x3 + (1 : Int32)).toNatClampNeg) (xs (x3 + (2 : Int32)).toNatClampNeg) (q.1, σ1) g2) dL_law_440 ?_
      refine l_same (tgt := 1320) X dL_law_443 (by decide) ?_
      exact g_widen ⟨by omega, by omega⟩ (hend _ _ _ g3)
    by_cases hs6 : (xs x3.toNatClampNeg &&& (63 : Int32)) = (6 : Int32)
    · refine g_tsw (tgt := 448) (off := 415) X dL_law_33 (by rw [hs6]; decide) (by rw [hs6]; decide) (by rw [hs6]; rfl) (by decide) ?_
      refine g_aload_n X dL_law_448 1 rfl ?_
      refine g_aload_n X dL_law_449 0 rfl ?_
      refine g_iload_n X dL_law_450 3 rfl ?_
      refine g_iconst X dL_law_451 kc_1 ?_
      refine g_iadd X dL_law_452 ?_
      refine l_sld X hX hbl hbA hin1 dL_law_453 ?_
      refine g_aload_n X dL_law_454 0 rfl ?_
      refine g_iload_n X dL_law_455 3 rfl ?_
      refine g_iconst X dL_law_456 kc_2 ?_
      refine g_iadd X dL_law_457 ?_
      refine l_sld X hX hbl hbA hin2 dL_law_458 ?_
      refine g_aload_n X dL_law_459 0 rfl ?_
      refine g_iload_n X dL_law_460 3 rfl ?_
      refine g_iconst X dL_law_461 kc_3 ?_
      refine g_iadd X dL_law_462 ?_
      refine l_sld X hX hbl hbA hin3 dL_law_463 ?_
      refine g_aload_n X dL_law_464 0 rfl ?_
      refine g_iload_n X dL_law_465 3 rfl ?_
      refine g_iconst X dL_law_466 kc_4 ?_
      refine g_iadd X dL_law_467 ?_
      refine l_sld X hX hbl hbA hin4 dL_law_468 ?_
      refine g_aload_n X dL_law_469 0 rfl ?_
      refine g_iload_n X dL_law_470 3 rfl ?_
      refine g_iconst X dL_law_471 kc_5 ?_
      refine g_iadd X dL_law_472 ?_
      refine l_sld X hX hbl hbA hin5 dL_law_473 ?_
      refine l_callL (rm := rc_10_feed) (As := [.int (xs (x3 + (1 : Int32)).toNatClampNeg), .int (xs (x3 + (2 : Int32)).toNatClampNeg), .int (xs (x3 + (3 : Int32)).toNatClampNeg), .int (xs (x3 + (4 : Int32)).toNatClampNeg), .int (xs (x3 + (5 : Int32)).toNatClampNeg)]) (st := []) (mc := 0) (ms := 0) X Y (fun ws' ov => ∃ (q : Int32 × CS) (σ1 : MS), ws' = CW E ho ro q.2 ++ P ∧ ov = some (.int q.1) ∧ M_feed F σ (xs (x3 + (1 : Int32)).toNatClampNeg) (xs (x3 + (2 : Int32)).toNatClampNeg) (xs (x3 + (3 : Int32)).toNatClampNeg) (xs (x3 + (4 : Int32)).toNatClampNeg) (xs (x3 + (5 : Int32)).toNatClampNeg) = some (q.1, σ1) ∧ Rel q.2 P σ1) lk_40 ob_10 rfl ⟨Nat.le_of_ble_eq_true rfl, Nat.le_of_ble_eq_true rfl⟩ ⟨rfl, rfl⟩ (Nat.le_of_ble_eq_true rfl) ⟨by show (110 + 17 * k) + 0 ≤ 600000; omega, by show (23187 + 900 * k) + 0 ≤ 7302250; omega⟩ (fun z hz => ?_) dL_law_474 (fun ws' ov hΦ => ?_)
      · obtain ⟨q, σ1, g1, g2, g3⟩ := ag6 S P σ (xs (x3 + (1 : Int32)).toNatClampNeg) (xs (x3 + (2 : Int32)).toNatClampNeg) (xs (x3 + (3 : Int32)).toNatClampNeg) (xs (x3 + (4 : Int32)).toNatClampNeg) (xs (x3 + (5 : Int32)).toNatClampNeg) hrel
        exact ⟨_, _, cc_10_feed l dC dI E ev ho ro F P S (xs (x3 + (1 : Int32)).toNatClampNeg) (xs (x3 + (2 : Int32)).toNatClampNeg) (xs (x3 + (3 : Int32)).toNatClampNeg) (xs (x3 + (4 : Int32)).toNatClampNeg) (xs (x3 + (5 : Int32)).toNatClampNeg) q g1 z, q, σ1, rfl, rfl, g2, g3⟩
      obtain ⟨q, σ1, rfl, rfl, g2, g3⟩ := hΦ
      refine g_aload_n X dL_law_477 2 rfl ?_
      refine g_aload_n X dL_law_478 0 rfl ?_
      refine g_iload_n X dL_law_479 3 rfl ?_
      refine g_iconst X dL_law_480 kc_1 ?_
      refine g_iadd X dL_law_481 ?_
      refine l_sld X hX hbl hbA hin1 dL_law_482 ?_
      refine g_aload_n X dL_law_483 0 rfl ?_
      refine g_iload_n X dL_law_484 3 rfl ?_
      refine g_iconst X dL_law_485 kc_2 ?_
      refine g_iadd X dL_law_486 ?_
      refine l_sld X hX hbl hbA hin2 dL_law_487 ?_
      refine g_aload_n X dL_law_488 0 rfl ?_
      refine g_iload_n X dL_law_489 3 rfl ?_
      refine g_iconst X dL_law_490 kc_3 ?_
      refine g_iadd X dL_law_491 ?_
      refine l_sld X hX hbl hbA hin3 dL_law_492 ?_
      refine g_aload_n X dL_law_493 0 rfl ?_
      refine g_iload_n X dL_law_494 3 rfl ?_
      refine g_iconst X dL_law_495 kc_4 ?_
      refine g_iadd X dL_law_496 ?_
      refine l_sld X hX hbl hbA hin4 dL_law_497 ?_
      refine g_aload_n X dL_law_498 0 rfl ?_
      refine g_iload_n X dL_law_499 3 rfl ?_
      refine g_iconst X dL_law_500 kc_5 ?_
      refine g_iadd X dL_law_501 ?_
      refine l_sld X hX hbl hbA hin5 dL_law_502 ?_
      refine l_callR (rm := rm_feed) (As := [.int (xs (x3 + (1 : Int32)).toNatClampNeg), .int (xs (x3 + (2 : Int32)).toNatClampNeg), .int (xs (x3 + (3 : Int32)).toNatClampNeg), .int (xs (x3 + (4 : Int32)).toNatClampNeg), .int (xs (x3 + (5 : Int32)).toNatClampNeg)]) (st := [.int q.1]) X lk_44 ⟨0, _, rfl⟩ (cix := 11) rfl ⟨Nat.le_of_ble_eq_true rfl, Nat.le_of_ble_eq_true rfl⟩ ⟨rfl, rfl⟩ (Nat.le_of_ble_eq_true rfl) ⟨by show (110 + 17 * k) + 0 + 0 ≤ 600000; omega, by show (23187 + 900 * k) + 0 + 0 ≤ 7302250; omega⟩ (c_feed l dC dI E h r F σ (xs (x3 + (1 : Int32)).toNatClampNeg) (xs (x3 + (2 : Int32)).toNatClampNeg) (xs (x3 + (3 : Int32)).toNatClampNeg) (xs (x3 + (4 : Int32)).toNatClampNeg) (xs (x3 + (5 : Int32)).toNatClampNeg) (q.1, σ1) g2) dL_law_503 ?_
      refine l_same (tgt := 1320) X dL_law_506 (by decide) ?_
      exact g_widen ⟨by omega, by omega⟩ (hend _ _ _ g3)
    by_cases hs7 : (xs x3.toNatClampNeg &&& (63 : Int32)) = (7 : Int32)
    · refine g_tsw (tgt := 511) (off := 478) X dL_law_33 (by rw [hs7]; decide) (by rw [hs7]; decide) (by rw [hs7]; rfl) (by decide) ?_
      refine g_aload_n X dL_law_511 1 rfl ?_
      refine g_aload_n X dL_law_512 0 rfl ?_
      refine g_iload_n X dL_law_513 3 rfl ?_
      refine g_iconst X dL_law_514 kc_1 ?_
      refine g_iadd X dL_law_515 ?_
      refine l_sld X hX hbl hbA hin1 dL_law_516 ?_
      refine l_callL (rm := rc_10_end) (As := [.int (xs (x3 + (1 : Int32)).toNatClampNeg)]) (st := []) (mc := 0) (ms := 0) X Y (fun ws' ov => ∃ (q : Int32 × CS) (σ1 : MS), ws' = CW E ho ro q.2 ++ P ∧ ov = some (.int q.1) ∧ M_end σ (xs (x3 + (1 : Int32)).toNatClampNeg) = some (q.1, σ1) ∧ Rel q.2 P σ1) lk_45 ob_10 rfl ⟨Nat.le_of_ble_eq_true rfl, Nat.le_of_ble_eq_true rfl⟩ ⟨rfl, rfl⟩ (Nat.le_of_ble_eq_true rfl) ⟨by show (110 + 17 * k) + 0 ≤ 600000; omega, by show (23187 + 900 * k) + 0 ≤ 7302250; omega⟩ (fun z hz => ?_) dL_law_517 (fun ws' ov hΦ => ?_)
      · obtain ⟨q, σ1, g1, g2, g3⟩ := ag7 S P σ (xs (x3 + (1 : Int32)).toNatClampNeg) hrel
        exact ⟨_, _, cc_10_end l dC dI E ev ho ro P S (xs (x3 + (1 : Int32)).toNatClampNeg) q g1 z, q, σ1, rfl, rfl, g2, g3⟩
      obtain ⟨q, σ1, rfl, rfl, g2, g3⟩ := hΦ
      refine g_aload_n X dL_law_520 2 rfl ?_
      refine g_aload_n X dL_law_521 0 rfl ?_
      refine g_iload_n X dL_law_522 3 rfl ?_
      refine g_iconst X dL_law_523 kc_1 ?_
      refine g_iadd X dL_law_524 ?_
      refine l_sld X hX hbl hbA hin1 dL_law_525 ?_
      refine l_callR (rm := rm_end) (As := [.int (xs (x3 + (1 : Int32)).toNatClampNeg)]) (st := [.int q.1]) X lk_49 ⟨0, _, rfl⟩ (cix := 11) rfl ⟨Nat.le_of_ble_eq_true rfl, Nat.le_of_ble_eq_true rfl⟩ ⟨rfl, rfl⟩ (Nat.le_of_ble_eq_true rfl) ⟨by show (110 + 17 * k) + 0 + 0 ≤ 600000; omega, by show (23187 + 900 * k) + 0 + 0 ≤ 7302250; omega⟩ (c_end l dC dI E h r σ (xs (x3 + (1 : Int32)).toNatClampNeg) (q.1, σ1) g2) dL_law_526 ?_
      refine l_same (tgt := 1320) X dL_law_529 (by decide) ?_
      exact g_widen ⟨by omega, by omega⟩ (hend _ _ _ g3)
    by_cases hs8 : (xs x3.toNatClampNeg &&& (63 : Int32)) = (8 : Int32)
    · refine g_tsw (tgt := 534) (off := 501) X dL_law_33 (by rw [hs8]; decide) (by rw [hs8]; decide) (by rw [hs8]; rfl) (by decide) ?_
      refine g_aload_n X dL_law_534 1 rfl ?_
      refine l_callL (rm := rc_10_row) (As := []) (st := []) (mc := 0) (ms := 0) X Y (fun ws' ov => ∃ (q : Int32 × CS) (σ1 : MS), ws' = CW E ho ro q.2 ++ P ∧ ov = some (.int q.1) ∧ M_row F σ  = some (q.1, σ1) ∧ Rel q.2 P σ1) lk_50 ob_10 rfl ⟨Nat.le_of_ble_eq_true rfl, Nat.le_of_ble_eq_true rfl⟩ ⟨rfl, rfl⟩ (Nat.le_of_ble_eq_true rfl) ⟨by show (110 + 17 * k) + 0 ≤ 600000; omega, by show (23187 + 900 * k) + 0 ≤ 7302250; omega⟩ (fun z hz => ?_) dL_law_535 (fun ws' ov hΦ => ?_)
      · obtain ⟨q, σ1, g1, g2, g3⟩ := ag8 S P σ  hrel
        exact ⟨_, _, cc_10_row l dC dI E ev ho ro F P S  q g1 z, q, σ1, rfl, rfl, g2, g3⟩
      obtain ⟨q, σ1, rfl, rfl, g2, g3⟩ := hΦ
      refine g_aload_n X dL_law_538 2 rfl ?_
      refine l_callR (rm := rm_row) (As := []) (st := [.int q.1]) X lk_54 ⟨0, _, rfl⟩ (cix := 11) rfl ⟨Nat.le_of_ble_eq_true rfl, Nat.le_of_ble_eq_true rfl⟩ ⟨rfl, rfl⟩ (Nat.le_of_ble_eq_true rfl) ⟨by show (110 + 17 * k) + 0 + 0 ≤ 600000; omega, by show (23187 + 900 * k) + 0 + 0 ≤ 7302250; omega⟩ (c_row l dC dI E h r F σ  (q.1, σ1) g2) dL_law_539 ?_
      refine l_same (tgt := 1320) X dL_law_542 (by decide) ?_
      exact g_widen ⟨by omega, by omega⟩ (hend _ _ _ g3)
    by_cases hs9 : (xs x3.toNatClampNeg &&& (63 : Int32)) = (9 : Int32)
    · refine g_tsw (tgt := 547) (off := 514) X dL_law_33 (by rw [hs9]; decide) (by rw [hs9]; decide) (by rw [hs9]; rfl) (by decide) ?_
      refine g_aload_n X dL_law_547 1 rfl ?_
      refine l_callL (rm := rc_10_gravel) (As := []) (st := []) (mc := 0) (ms := 0) X Y (fun ws' ov => ∃ (q : Int32) (σ1 : MS), ws' = CW E ho ro S ++ P ∧ ov = some (.int q) ∧ M_gravel σ  = some (q, σ1) ∧ Rel S P σ1) lk_55 ob_10 rfl ⟨Nat.le_of_ble_eq_true rfl, Nat.le_of_ble_eq_true rfl⟩ ⟨rfl, rfl⟩ (Nat.le_of_ble_eq_true rfl) ⟨by show (110 + 17 * k) + 0 ≤ 600000; omega, by show (23187 + 900 * k) + 0 ≤ 7302250; omega⟩ (fun z hz => ?_) dL_law_548 (fun ws' ov hΦ => ?_)
      · obtain ⟨q, σ1, g1, g2, g3⟩ := ag9 S P σ  hrel
        exact ⟨_, _, cc_10_gravel l dC dI E ev ho ro P S  q g1 z, q, σ1, rfl, rfl, g2, g3⟩
      obtain ⟨q, σ1, rfl, rfl, g2, g3⟩ := hΦ
      refine g_aload_n X dL_law_551 2 rfl ?_
      refine l_callR (rm := rm_gravel) (As := []) (st := [.int q]) X lk_58 ⟨0, _, rfl⟩ (cix := 11) rfl ⟨Nat.le_of_ble_eq_true rfl, Nat.le_of_ble_eq_true rfl⟩ ⟨rfl, rfl⟩ (Nat.le_of_ble_eq_true rfl) ⟨by show (110 + 17 * k) + 0 + 0 ≤ 600000; omega, by show (23187 + 900 * k) + 0 + 0 ≤ 7302250; omega⟩ (c_gravel l dC dI E h r σ  (q, σ1) g2) dL_law_552 ?_
      refine l_same (tgt := 1320) X dL_law_555 (by decide) ?_
      exact g_widen ⟨by omega, by omega⟩ (hend _ _ _ g3)
    by_cases hs10 : (xs x3.toNatClampNeg &&& (63 : Int32)) = (10 : Int32)
    · refine g_tsw (tgt := 560) (off := 527) X dL_law_33 (by rw [hs10]; decide) (by rw [hs10]; decide) (by rw [hs10]; rfl) (by decide) ?_
      refine g_aload_n X dL_law_560 1 rfl ?_
      refine l_callL (rm := rk_10_law) (As := []) (st := []) (mc := 17) (ms := 900) X Y (fun ws' ov => ∃ (q : Int32 × CS × va_W) (σ1 : MS), ws' = CW E ho ro q.2.1 ++ q.2.2 ∧ ov = some (.int q.1) ∧ M_law F σ  = some (q.1, σ1) ∧ Rel q.2.1 q.2.2 σ1) lk_59 ob_10 rfl ⟨Nat.le_of_ble_eq_true rfl, Nat.le_of_ble_eq_true rfl⟩ ⟨rfl, rfl⟩ (Nat.le_of_ble_eq_true rfl) ⟨by show (110 + 17 * k) + 17 ≤ 600000; omega, by show (23187 + 900 * k) + 900 ≤ 7302250; omega⟩ (fun z hz => ?_) dL_law_561 (fun ws' ov hΦ => ?_)
      · obtain ⟨q, σ1, g1, g2, g3⟩ := ag10 S P σ z  hrel (fun k q hq => hz _ q (papp hq))
        exact ⟨_, _, cm_10_law l dC dI E ev ho ro F z P S  q g1, q, σ1, rfl, rfl, g2, g3⟩
      obtain ⟨q, σ1, rfl, rfl, g2, g3⟩ := hΦ
      refine g_aload_n X dL_law_564 2 rfl ?_
      refine l_callR (rm := rm_law) (As := []) (st := [.int q.1]) X lk_62 ⟨0, _, rfl⟩ (cix := 11) rfl ⟨Nat.le_of_ble_eq_true rfl, Nat.le_of_ble_eq_true rfl⟩ ⟨rfl, rfl⟩ (Nat.le_of_ble_eq_true rfl) ⟨by show (110 + 17 * k) + 17 + 0 ≤ 600000; omega, by show (23187 + 900 * k) + 900 + 0 ≤ 7302250; omega⟩ (c_law l dC dI E h r F σ  (q.1, σ1) g2) dL_law_565 ?_
      refine l_same (tgt := 1320) X dL_law_568 (by decide) ?_
      exact g_widen ⟨by omega, by omega⟩ (hend _ _ _ g3)
    by_cases hs11 : (xs x3.toNatClampNeg &&& (63 : Int32)) = (11 : Int32)
    · refine g_tsw (tgt := 573) (off := 540) X dL_law_33 (by rw [hs11]; decide) (by rw [hs11]; decide) (by rw [hs11]; rfl) (by decide) ?_
      refine g_aload_n X dL_law_573 1 rfl ?_
      refine l_callL (rm := rk_10_orders) (As := []) (st := []) (mc := 17) (ms := 900) X Y (fun ws' ov => ∃ (q : Int32 × CS × va_W) (σ1 : MS), ws' = CW E ho ro q.2.1 ++ q.2.2 ∧ ov = some (.int q.1) ∧ M_orders F σ  = some (q.1, σ1) ∧ Rel q.2.1 q.2.2 σ1) lk_63 ob_10 rfl ⟨Nat.le_of_ble_eq_true rfl, Nat.le_of_ble_eq_true rfl⟩ ⟨rfl, rfl⟩ (Nat.le_of_ble_eq_true rfl) ⟨by show (110 + 17 * k) + 17 ≤ 600000; omega, by show (23187 + 900 * k) + 900 ≤ 7302250; omega⟩ (fun z hz => ?_) dL_law_574 (fun ws' ov hΦ => ?_)
      · obtain ⟨q, σ1, g1, g2, g3⟩ := ag11 S P σ z  hrel (fun k q hq => hz _ q (papp hq))
        exact ⟨_, _, cm_10_orders l dC dI E ev ho ro F z P S  q g1, q, σ1, rfl, rfl, g2, g3⟩
      obtain ⟨q, σ1, rfl, rfl, g2, g3⟩ := hΦ
      refine g_aload_n X dL_law_577 2 rfl ?_
      refine l_callR (rm := rm_orders) (As := []) (st := [.int q.1]) X lk_66 ⟨0, _, rfl⟩ (cix := 11) rfl ⟨Nat.le_of_ble_eq_true rfl, Nat.le_of_ble_eq_true rfl⟩ ⟨rfl, rfl⟩ (Nat.le_of_ble_eq_true rfl) ⟨by show (110 + 17 * k) + 17 + 0 ≤ 600000; omega, by show (23187 + 900 * k) + 900 + 0 ≤ 7302250; omega⟩ (c_orders l dC dI E h r F σ  (q.1, σ1) g2) dL_law_578 ?_
      refine l_same (tgt := 1320) X dL_law_581 (by decide) ?_
      exact g_widen ⟨by omega, by omega⟩ (hend _ _ _ g3)
    by_cases hs12 : (xs x3.toNatClampNeg &&& (63 : Int32)) = (12 : Int32)
    · refine g_tsw (tgt := 586) (off := 553) X dL_law_33 (by rw [hs12]; decide) (by rw [hs12]; decide) (by rw [hs12]; rfl) (by decide) ?_
      refine g_aload_n X dL_law_586 1 rfl ?_
      refine l_callL (rm := rc_10_fault) (As := []) (st := []) (mc := 0) (ms := 0) X Y (fun ws' ov => ∃ (q : Int32) (σ1 : MS), ws' = CW E ho ro S ++ P ∧ ov = some (.int q) ∧ M_fault σ  = some (q, σ1) ∧ Rel S P σ1) lk_67 ob_10 rfl ⟨Nat.le_of_ble_eq_true rfl, Nat.le_of_ble_eq_true rfl⟩ ⟨rfl, rfl⟩ (Nat.le_of_ble_eq_true rfl) ⟨by show (110 + 17 * k) + 0 ≤ 600000; omega, by show (23187 + 900 * k) + 0 ≤ 7302250; omega⟩ (fun z hz => ?_) dL_law_587 (fun ws' ov hΦ => ?_)
      · obtain ⟨q, σ1, g1, g2, g3⟩ := ag12 S P σ  hrel
        exact ⟨_, _, cc_10_fault l dC dI E ev ho ro P S  q g1 z, q, σ1, rfl, rfl, g2, g3⟩
      obtain ⟨q, σ1, rfl, rfl, g2, g3⟩ := hΦ
      refine g_aload_n X dL_law_590 2 rfl ?_
      refine l_callR (rm := rm_fault) (As := []) (st := [.int q]) X lk_70 ⟨0, _, rfl⟩ (cix := 11) rfl ⟨Nat.le_of_ble_eq_true rfl, Nat.le_of_ble_eq_true rfl⟩ ⟨rfl, rfl⟩ (Nat.le_of_ble_eq_true rfl) ⟨by show (110 + 17 * k) + 0 + 0 ≤ 600000; omega, by show (23187 + 900 * k) + 0 + 0 ≤ 7302250; omega⟩ (c_fault l dC dI E h r σ  (q, σ1) g2) dL_law_591 ?_
      refine l_same (tgt := 1320) X dL_law_594 (by decide) ?_
      exact g_widen ⟨by omega, by omega⟩ (hend _ _ _ g3)
    by_cases hs13 : (xs x3.toNatClampNeg &&& (63 : Int32)) = (13 : Int32)
    · refine g_tsw (tgt := 599) (off := 566) X dL_law_33 (by rw [hs13]; decide) (by rw [hs13]; decide) (by rw [hs13]; rfl) (by decide) ?_
      refine g_aload_n X dL_law_599 1 rfl ?_
      refine l_callL (rm := rc_10_stopped) (As := []) (st := []) (mc := 0) (ms := 0) X Y (fun ws' ov => ∃ (q : Int32) (σ1 : MS), ws' = CW E ho ro S ++ P ∧ ov = some (.int q) ∧ M_stopped σ  = some (q, σ1) ∧ Rel S P σ1) lk_71 ob_10 rfl ⟨Nat.le_of_ble_eq_true rfl, Nat.le_of_ble_eq_true rfl⟩ ⟨rfl, rfl⟩ (Nat.le_of_ble_eq_true rfl) ⟨by show (110 + 17 * k) + 0 ≤ 600000; omega, by show (23187 + 900 * k) + 0 ≤ 7302250; omega⟩ (fun z hz => ?_) dL_law_600 (fun ws' ov hΦ => ?_)
      · obtain ⟨q, σ1, g1, g2, g3⟩ := ag13 S P σ  hrel
        exact ⟨_, _, cc_10_stopped l dC dI E ev ho ro P S  q g1 z, q, σ1, rfl, rfl, g2, g3⟩
      obtain ⟨q, σ1, rfl, rfl, g2, g3⟩ := hΦ
      refine g_aload_n X dL_law_603 2 rfl ?_
      refine l_callR (rm := rm_stopped) (As := []) (st := [.int q]) X lk_74 ⟨0, _, rfl⟩ (cix := 11) rfl ⟨Nat.le_of_ble_eq_true rfl, Nat.le_of_ble_eq_true rfl⟩ ⟨rfl, rfl⟩ (Nat.le_of_ble_eq_true rfl) ⟨by show (110 + 17 * k) + 0 + 0 ≤ 600000; omega, by show (23187 + 900 * k) + 0 + 0 ≤ 7302250; omega⟩ (c_stopped l dC dI E h r σ  (q, σ1) g2) dL_law_604 ?_
      refine l_same (tgt := 1320) X dL_law_607 (by decide) ?_
      exact g_widen ⟨by omega, by omega⟩ (hend _ _ _ g3)
    by_cases hs14 : (xs x3.toNatClampNeg &&& (63 : Int32)) = (14 : Int32)
    · refine g_tsw (tgt := 612) (off := 579) X dL_law_33 (by rw [hs14]; decide) (by rw [hs14]; decide) (by rw [hs14]; rfl) (by decide) ?_
      refine g_aload_n X dL_law_612 1 rfl ?_
      refine g_aload_n X dL_law_613 0 rfl ?_
      refine g_iload_n X dL_law_614 3 rfl ?_
      refine g_iconst X dL_law_615 kc_1 ?_
      refine g_iadd X dL_law_616 ?_
      refine l_sld X hX hbl hbA hin1 dL_law_617 ?_
      refine l_callL (rm := rc_10_force) (As := [.int (xs (x3 + (1 : Int32)).toNatClampNeg)]) (st := []) (mc := 0) (ms := 0) X Y (fun ws' ov => ∃ (q : Int32 × CS) (σ1 : MS), ws' = CW E ho ro q.2 ++ P ∧ ov = some (.int q.1) ∧ M_force σ (xs (x3 + (1 : Int32)).toNatClampNeg) = some (q.1, σ1) ∧ Rel q.2 P σ1) lk_75 ob_10 rfl ⟨Nat.le_of_ble_eq_true rfl, Nat.le_of_ble_eq_true rfl⟩ ⟨rfl, rfl⟩ (Nat.le_of_ble_eq_true rfl) ⟨by show (110 + 17 * k) + 0 ≤ 600000; omega, by show (23187 + 900 * k) + 0 ≤ 7302250; omega⟩ (fun z hz => ?_) dL_law_618 (fun ws' ov hΦ => ?_)
      · obtain ⟨q, σ1, g1, g2, g3⟩ := ag14 S P σ (xs (x3 + (1 : Int32)).toNatClampNeg) hrel
        exact ⟨_, _, cc_10_force l dC dI E ev ho ro P S (xs (x3 + (1 : Int32)).toNatClampNeg) q g1 z, q, σ1, rfl, rfl, g2, g3⟩
      obtain ⟨q, σ1, rfl, rfl, g2, g3⟩ := hΦ
      refine g_aload_n X dL_law_621 2 rfl ?_
      refine g_aload_n X dL_law_622 0 rfl ?_
      refine g_iload_n X dL_law_623 3 rfl ?_
      refine g_iconst X dL_law_624 kc_1 ?_
      refine g_iadd X dL_law_625 ?_
      refine l_sld X hX hbl hbA hin1 dL_law_626 ?_
      refine l_callR (rm := rm_force) (As := [.int (xs (x3 + (1 : Int32)).toNatClampNeg)]) (st := [.int q.1]) X lk_78 ⟨0, _, rfl⟩ (cix := 11) rfl ⟨Nat.le_of_ble_eq_true rfl, Nat.le_of_ble_eq_true rfl⟩ ⟨rfl, rfl⟩ (Nat.le_of_ble_eq_true rfl) ⟨by show (110 + 17 * k) + 0 + 0 ≤ 600000; omega, by show (23187 + 900 * k) + 0 + 0 ≤ 7302250; omega⟩ (c_force l dC dI E h r σ (xs (x3 + (1 : Int32)).toNatClampNeg) (q.1, σ1) g2) dL_law_627 ?_
      refine l_same (tgt := 1320) X dL_law_630 (by decide) ?_
      exact g_widen ⟨by omega, by omega⟩ (hend _ _ _ g3)
    by_cases hs15 : (xs x3.toNatClampNeg &&& (63 : Int32)) = (15 : Int32)
    · refine g_tsw (tgt := 635) (off := 602) X dL_law_33 (by rw [hs15]; decide) (by rw [hs15]; decide) (by rw [hs15]; rfl) (by decide) ?_
      refine g_aload_n X dL_law_635 1 rfl ?_
      refine g_aload_n X dL_law_636 0 rfl ?_
      refine g_iload_n X dL_law_637 3 rfl ?_
      refine g_iconst X dL_law_638 kc_1 ?_
      refine g_iadd X dL_law_639 ?_
      refine l_sld X hX hbl hbA hin1 dL_law_640 ?_
      refine l_callL (rm := rc_10_wander) (As := [.int (xs (x3 + (1 : Int32)).toNatClampNeg)]) (st := []) (mc := 0) (ms := 0) X Y (fun ws' ov => ∃ (q : Int32 × CS) (σ1 : MS), ws' = CW E ho ro q.2 ++ P ∧ ov = some (.int q.1) ∧ M_wander F σ (xs (x3 + (1 : Int32)).toNatClampNeg) = some (q.1, σ1) ∧ Rel q.2 P σ1) lk_79 ob_10 rfl ⟨Nat.le_of_ble_eq_true rfl, Nat.le_of_ble_eq_true rfl⟩ ⟨rfl, rfl⟩ (Nat.le_of_ble_eq_true rfl) ⟨by show (110 + 17 * k) + 0 ≤ 600000; omega, by show (23187 + 900 * k) + 0 ≤ 7302250; omega⟩ (fun z hz => ?_) dL_law_641 (fun ws' ov hΦ => ?_)
      · obtain ⟨q, σ1, g1, g2, g3⟩ := ag15 S P σ (xs (x3 + (1 : Int32)).toNatClampNeg) hrel
        exact ⟨_, _, cc_10_wander l dC dI E ev ho ro F P S (xs (x3 + (1 : Int32)).toNatClampNeg) q g1 z, q, σ1, rfl, rfl, g2, g3⟩
      obtain ⟨q, σ1, rfl, rfl, g2, g3⟩ := hΦ
      refine g_aload_n X dL_law_644 2 rfl ?_
      refine g_aload_n X dL_law_645 0 rfl ?_
      refine g_iload_n X dL_law_646 3 rfl ?_
      refine g_iconst X dL_law_647 kc_1 ?_
      refine g_iadd X dL_law_648 ?_
      refine l_sld X hX hbl hbA hin1 dL_law_649 ?_
      refine l_callR (rm := rm_wander) (As := [.int (xs (x3 + (1 : Int32)).toNatClampNeg)]) (st := [.int q.1]) X lk_82 ⟨0, _, rfl⟩ (cix := 11) rfl ⟨Nat.le_of_ble_eq_true rfl, Nat.le_of_ble_eq_true rfl⟩ ⟨rfl, rfl⟩ (Nat.le_of_ble_eq_true rfl) ⟨by show (110 + 17 * k) + 0 + 0 ≤ 600000; omega, by show (23187 + 900 * k) + 0 + 0 ≤ 7302250; omega⟩ (c_wander l dC dI E h r F σ (xs (x3 + (1 : Int32)).toNatClampNeg) (q.1, σ1) g2) dL_law_650 ?_
      refine l_same (tgt := 1320) X dL_law_653 (by decide) ?_
      exact g_widen ⟨by omega, by omega⟩ (hend _ _ _ g3)
    by_cases hs16 : (xs x3.toNatClampNeg &&& (63 : Int32)) = (16 : Int32)
    · refine g_tsw (tgt := 658) (off := 625) X dL_law_33 (by rw [hs16]; decide) (by rw [hs16]; decide) (by rw [hs16]; rfl) (by decide) ?_
      refine g_aload_n X dL_law_658 1 rfl ?_
      refine g_aload_n X dL_law_659 0 rfl ?_
      refine g_iload_n X dL_law_660 3 rfl ?_
      refine g_iconst X dL_law_661 kc_1 ?_
      refine g_iadd X dL_law_662 ?_
      refine l_sld X hX hbl hbA hin1 dL_law_663 ?_
      refine l_callL (rm := rc_10_cry) (As := [.int (xs (x3 + (1 : Int32)).toNatClampNeg)]) (st := []) (mc := 0) (ms := 0) X Y (fun ws' ov => ∃ (q : Int32 × CS) (σ1 : MS), ws' = CW E ho ro q.2 ++ P ∧ ov = some (.int q.1) ∧ M_cry F σ (xs (x3 + (1 : Int32)).toNatClampNeg) = some (q.1, σ1) ∧ Rel q.2 P σ1) lk_83 ob_10 rfl ⟨Nat.le_of_ble_eq_true rfl, Nat.le_of_ble_eq_true rfl⟩ ⟨rfl, rfl⟩ (Nat.le_of_ble_eq_true rfl) ⟨by show (110 + 17 * k) + 0 ≤ 600000; omega, by show (23187 + 900 * k) + 0 ≤ 7302250; omega⟩ (fun z hz => ?_) dL_law_664 (fun ws' ov hΦ => ?_)
      · obtain ⟨q, σ1, g1, g2, g3⟩ := ag16 S P σ (xs (x3 + (1 : Int32)).toNatClampNeg) hrel
        exact ⟨_, _, cc_10_cry l dC dI E ev ho ro F P S (xs (x3 + (1 : Int32)).toNatClampNeg) q g1 z, q, σ1, rfl, rfl, g2, g3⟩
      obtain ⟨q, σ1, rfl, rfl, g2, g3⟩ := hΦ
      refine g_aload_n X dL_law_667 2 rfl ?_
      refine g_aload_n X dL_law_668 0 rfl ?_
      refine g_iload_n X dL_law_669 3 rfl ?_
      refine g_iconst X dL_law_670 kc_1 ?_
      refine g_iadd X dL_law_671 ?_
      refine l_sld X hX hbl hbA hin1 dL_law_672 ?_
      refine l_callR (rm := rm_cry) (As := [.int (xs (x3 + (1 : Int32)).toNatClampNeg)]) (st := [.int q.1]) X lk_86 ⟨0, _, rfl⟩ (cix := 11) rfl ⟨Nat.le_of_ble_eq_true rfl, Nat.le_of_ble_eq_true rfl⟩ ⟨rfl, rfl⟩ (Nat.le_of_ble_eq_true rfl) ⟨by show (110 + 17 * k) + 0 + 0 ≤ 600000; omega, by show (23187 + 900 * k) + 0 + 0 ≤ 7302250; omega⟩ (c_cry l dC dI E h r F σ (xs (x3 + (1 : Int32)).toNatClampNeg) (q.1, σ1) g2) dL_law_673 ?_
      refine l_same (tgt := 1320) X dL_law_676 (by decide) ?_
      exact g_widen ⟨by omega, by omega⟩ (hend _ _ _ g3)
    by_cases hs17 : (xs x3.toNatClampNeg &&& (63 : Int32)) = (17 : Int32)
    · refine g_tsw (tgt := 681) (off := 648) X dL_law_33 (by rw [hs17]; decide) (by rw [hs17]; decide) (by rw [hs17]; rfl) (by decide) ?_
      refine g_aload_n X dL_law_681 1 rfl ?_
      refine g_aload_n X dL_law_682 0 rfl ?_
      refine g_iload_n X dL_law_683 3 rfl ?_
      refine g_iconst X dL_law_684 kc_1 ?_
      refine g_iadd X dL_law_685 ?_
      refine l_sld X hX hbl hbA hin1 dL_law_686 ?_
      refine g_aload_n X dL_law_687 0 rfl ?_
      refine g_iload_n X dL_law_688 3 rfl ?_
      refine g_iconst X dL_law_689 kc_2 ?_
      refine g_iadd X dL_law_690 ?_
      refine l_sld X hX hbl hbA hin2 dL_law_691 ?_
      refine l_callL (rm := rc_10_lead) (As := [.int (xs (x3 + (1 : Int32)).toNatClampNeg), .int (xs (x3 + (2 : Int32)).toNatClampNeg)]) (st := []) (mc := 0) (ms := 0) X Y (fun ws' ov => ∃ (q : Int32 × CS) (σ1 : MS), ws' = CW E ho ro q.2 ++ P ∧ ov = some (.int q.1) ∧ M_lead F σ (xs (x3 + (1 : Int32)).toNatClampNeg) (xs (x3 + (2 : Int32)).toNatClampNeg) = some (q.1, σ1) ∧ Rel q.2 P σ1) lk_87 ob_10 rfl ⟨Nat.le_of_ble_eq_true rfl, Nat.le_of_ble_eq_true rfl⟩ ⟨rfl, rfl⟩ (Nat.le_of_ble_eq_true rfl) ⟨by show (110 + 17 * k) + 0 ≤ 600000; omega, by show (23187 + 900 * k) + 0 ≤ 7302250; omega⟩ (fun z hz => ?_) dL_law_692 (fun ws' ov hΦ => ?_)
      · obtain ⟨q, σ1, g1, g2, g3⟩ := ag17 S P σ (xs (x3 + (1 : Int32)).toNatClampNeg) (xs (x3 + (2 : Int32)).toNatClampNeg) hrel
        exact ⟨_, _, cc_10_lead l dC dI E ev ho ro F P S (xs (x3 + (1 : Int32)).toNatClampNeg) (xs (x3 + (2 : Int32)).toNatClampNeg) q g1 z, q, σ1, rfl, rfl, g2, g3⟩
      obtain ⟨q, σ1, rfl, rfl, g2, g3⟩ := hΦ
      refine g_aload_n X dL_law_695 2 rfl ?_
      refine g_aload_n X dL_law_696 0 rfl ?_
      refine g_iload_n X dL_law_697 3 rfl ?_
      refine g_iconst X dL_law_698 kc_1 ?_
      refine g_iadd X dL_law_699 ?_
      refine l_sld X hX hbl hbA hin1 dL_law_700 ?_
      refine g_aload_n X dL_law_701 0 rfl ?_
      refine g_iload_n X dL_law_702 3 rfl ?_
      refine g_iconst X dL_law_703 kc_2 ?_
      refine g_iadd X dL_law_704 ?_
      refine l_sld X hX hbl hbA hin2 dL_law_705 ?_
      refine l_callR (rm := rm_lead) (As := [.int (xs (x3 + (1 : Int32)).toNatClampNeg), .int (xs (x3 + (2 : Int32)).toNatClampNeg)]) (st := [.int q.1]) X lk_90 ⟨0, _, rfl⟩ (cix := 11) rfl ⟨Nat.le_of_ble_eq_true rfl, Nat.le_of_ble_eq_true rfl⟩ ⟨rfl, rfl⟩ (Nat.le_of_ble_eq_true rfl) ⟨by show (110 + 17 * k) + 0 + 0 ≤ 600000; omega, by show (23187 + 900 * k) + 0 + 0 ≤ 7302250; omega⟩ (c_lead l dC dI E h r F σ (xs (x3 + (1 : Int32)).toNatClampNeg) (xs (x3 + (2 : Int32)).toNatClampNeg) (q.1, σ1) g2) dL_law_706 ?_
      refine l_same (tgt := 1320) X dL_law_709 (by decide) ?_
      exact g_widen ⟨by omega, by omega⟩ (hend _ _ _ g3)
    by_cases hs18 : (xs x3.toNatClampNeg &&& (63 : Int32)) = (18 : Int32)
    · refine g_tsw (tgt := 714) (off := 681) X dL_law_33 (by rw [hs18]; decide) (by rw [hs18]; decide) (by rw [hs18]; rfl) (by decide) ?_
      refine g_aload_n X dL_law_714 1 rfl ?_
      refine l_callL (rm := rc_10_pass) (As := []) (st := []) (mc := 0) (ms := 0) X Y (fun ws' ov => ∃ (q : Int32 × CS) (σ1 : MS), ws' = CW E ho ro q.2 ++ P ∧ ov = some (.int q.1) ∧ M_pass F σ  = some (q.1, σ1) ∧ Rel q.2 P σ1) lk_91 ob_10 rfl ⟨Nat.le_of_ble_eq_true rfl, Nat.le_of_ble_eq_true rfl⟩ ⟨rfl, rfl⟩ (Nat.le_of_ble_eq_true rfl) ⟨by show (110 + 17 * k) + 0 ≤ 600000; omega, by show (23187 + 900 * k) + 0 ≤ 7302250; omega⟩ (fun z hz => ?_) dL_law_715 (fun ws' ov hΦ => ?_)
      · obtain ⟨q, σ1, g1, g2, g3⟩ := ag18 S P σ  hrel
        exact ⟨_, _, cc_10_pass l dC dI E ev ho ro F P S  q g1 z, q, σ1, rfl, rfl, g2, g3⟩
      obtain ⟨q, σ1, rfl, rfl, g2, g3⟩ := hΦ
      refine g_aload_n X dL_law_718 2 rfl ?_
      refine l_callR (rm := rm_pass) (As := []) (st := [.int q.1]) X lk_94 ⟨0, _, rfl⟩ (cix := 11) rfl ⟨Nat.le_of_ble_eq_true rfl, Nat.le_of_ble_eq_true rfl⟩ ⟨rfl, rfl⟩ (Nat.le_of_ble_eq_true rfl) ⟨by show (110 + 17 * k) + 0 + 0 ≤ 600000; omega, by show (23187 + 900 * k) + 0 + 0 ≤ 7302250; omega⟩ (c_pass l dC dI E h r F σ  (q.1, σ1) g2) dL_law_719 ?_
      refine l_same (tgt := 1320) X dL_law_722 (by decide) ?_
      exact g_widen ⟨by omega, by omega⟩ (hend _ _ _ g3)
    by_cases hs19 : (xs x3.toNatClampNeg &&& (63 : Int32)) = (19 : Int32)
    · refine g_tsw (tgt := 727) (off := 694) X dL_law_33 (by rw [hs19]; decide) (by rw [hs19]; decide) (by rw [hs19]; rfl) (by decide) ?_
      refine g_aload_n X dL_law_727 1 rfl ?_
      refine l_callL (rm := rc_10_undo) (As := []) (st := []) (mc := 0) (ms := 0) X Y (fun ws' ov => ∃ (q : Int32 × CS) (σ1 : MS), ws' = CW E ho ro q.2 ++ P ∧ ov = some (.int q.1) ∧ M_undo F σ  = some (q.1, σ1) ∧ Rel q.2 P σ1) lk_95 ob_10 rfl ⟨Nat.le_of_ble_eq_true rfl, Nat.le_of_ble_eq_true rfl⟩ ⟨rfl, rfl⟩ (Nat.le_of_ble_eq_true rfl) ⟨by show (110 + 17 * k) + 0 ≤ 600000; omega, by show (23187 + 900 * k) + 0 ≤ 7302250; omega⟩ (fun z hz => ?_) dL_law_728 (fun ws' ov hΦ => ?_)
      · obtain ⟨q, σ1, g1, g2, g3⟩ := ag19 S P σ  hrel
        exact ⟨_, _, cc_10_undo l dC dI E ev ho ro P S  q g1 z, q, σ1, rfl, rfl, g2, g3⟩
      obtain ⟨q, σ1, rfl, rfl, g2, g3⟩ := hΦ
      refine g_aload_n X dL_law_731 2 rfl ?_
      refine l_callR (rm := rm_undo) (As := []) (st := [.int q.1]) X lk_98 ⟨0, _, rfl⟩ (cix := 11) rfl ⟨Nat.le_of_ble_eq_true rfl, Nat.le_of_ble_eq_true rfl⟩ ⟨rfl, rfl⟩ (Nat.le_of_ble_eq_true rfl) ⟨by show (110 + 17 * k) + 0 + 0 ≤ 600000; omega, by show (23187 + 900 * k) + 0 + 0 ≤ 7302250; omega⟩ (c_undo l dC dI E h r F σ  (q.1, σ1) g2) dL_law_732 ?_
      refine l_same (tgt := 1320) X dL_law_735 (by decide) ?_
      exact g_widen ⟨by omega, by omega⟩ (hend _ _ _ g3)
    by_cases hs20 : (xs x3.toNatClampNeg &&& (63 : Int32)) = (20 : Int32)
    · refine g_tsw (tgt := 740) (off := 707) X dL_law_33 (by rw [hs20]; decide) (by rw [hs20]; decide) (by rw [hs20]; rfl) (by decide) ?_
      refine g_aload_n X dL_law_740 1 rfl ?_
      refine g_aload_n X dL_law_741 0 rfl ?_
      refine g_iload_n X dL_law_742 3 rfl ?_
      refine g_iconst X dL_law_743 kc_1 ?_
      refine g_iadd X dL_law_744 ?_
      refine l_sld X hX hbl hbA hin1 dL_law_745 ?_
      refine g_aload_n X dL_law_746 0 rfl ?_
      refine g_iload_n X dL_law_747 3 rfl ?_
      refine g_iconst X dL_law_748 kc_2 ?_
      refine g_iadd X dL_law_749 ?_
      refine l_sld X hX hbl hbA hin2 dL_law_750 ?_
      refine l_callL (rm := rc_10_where) (As := [.int (xs (x3 + (1 : Int32)).toNatClampNeg), .int (xs (x3 + (2 : Int32)).toNatClampNeg)]) (st := []) (mc := 0) (ms := 0) X Y (fun ws' ov => ∃ (q : Int32 × CS) (σ1 : MS), ws' = CW E ho ro q.2 ++ P ∧ ov = some (.int q.1) ∧ M_where F σ (xs (x3 + (1 : Int32)).toNatClampNeg) (xs (x3 + (2 : Int32)).toNatClampNeg) = some (q.1, σ1) ∧ Rel q.2 P σ1) lk_99 ob_10 rfl ⟨Nat.le_of_ble_eq_true rfl, Nat.le_of_ble_eq_true rfl⟩ ⟨rfl, rfl⟩ (Nat.le_of_ble_eq_true rfl) ⟨by show (110 + 17 * k) + 0 ≤ 600000; omega, by show (23187 + 900 * k) + 0 ≤ 7302250; omega⟩ (fun z hz => ?_) dL_law_751 (fun ws' ov hΦ => ?_)
      · obtain ⟨q, σ1, g1, g2, g3⟩ := ag20 S P σ (xs (x3 + (1 : Int32)).toNatClampNeg) (xs (x3 + (2 : Int32)).toNatClampNeg) hrel
        exact ⟨_, _, cc_10_where l dC dI E ev ho ro F P S (xs (x3 + (1 : Int32)).toNatClampNeg) (xs (x3 + (2 : Int32)).toNatClampNeg) q g1 z, q, σ1, rfl, rfl, g2, g3⟩
      obtain ⟨q, σ1, rfl, rfl, g2, g3⟩ := hΦ
      refine g_aload_n X dL_law_754 2 rfl ?_
      refine g_aload_n X dL_law_755 0 rfl ?_
      refine g_iload_n X dL_law_756 3 rfl ?_
      refine g_iconst X dL_law_757 kc_1 ?_
      refine g_iadd X dL_law_758 ?_
      refine l_sld X hX hbl hbA hin1 dL_law_759 ?_
      refine g_aload_n X dL_law_760 0 rfl ?_
      refine g_iload_n X dL_law_761 3 rfl ?_
      refine g_iconst X dL_law_762 kc_2 ?_
      refine g_iadd X dL_law_763 ?_
      refine l_sld X hX hbl hbA hin2 dL_law_764 ?_
      refine l_callR (rm := rm_where) (As := [.int (xs (x3 + (1 : Int32)).toNatClampNeg), .int (xs (x3 + (2 : Int32)).toNatClampNeg)]) (st := [.int q.1]) X lk_102 ⟨0, _, rfl⟩ (cix := 11) rfl ⟨Nat.le_of_ble_eq_true rfl, Nat.le_of_ble_eq_true rfl⟩ ⟨rfl, rfl⟩ (Nat.le_of_ble_eq_true rfl) ⟨by show (110 + 17 * k) + 0 + 0 ≤ 600000; omega, by show (23187 + 900 * k) + 0 + 0 ≤ 7302250; omega⟩ (c_where l dC dI E h r F σ (xs (x3 + (1 : Int32)).toNatClampNeg) (xs (x3 + (2 : Int32)).toNatClampNeg) (q.1, σ1) g2) dL_law_765 ?_
      refine l_same (tgt := 1320) X dL_law_768 (by decide) ?_
      exact g_widen ⟨by omega, by omega⟩ (hend _ _ _ g3)
    by_cases hs21 : (xs x3.toNatClampNeg &&& (63 : Int32)) = (21 : Int32)
    · refine g_tsw (tgt := 773) (off := 740) X dL_law_33 (by rw [hs21]; decide) (by rw [hs21]; decide) (by rw [hs21]; rfl) (by decide) ?_
      refine g_aload_n X dL_law_773 1 rfl ?_
      refine g_aload_n X dL_law_774 0 rfl ?_
      refine g_iload_n X dL_law_775 3 rfl ?_
      refine g_iconst X dL_law_776 kc_1 ?_
      refine g_iadd X dL_law_777 ?_
      refine l_sld X hX hbl hbA hin1 dL_law_778 ?_
      refine g_aload_n X dL_law_779 0 rfl ?_
      refine g_iload_n X dL_law_780 3 rfl ?_
      refine g_iconst X dL_law_781 kc_2 ?_
      refine g_iadd X dL_law_782 ?_
      refine l_sld X hX hbl hbA hin2 dL_law_783 ?_
      refine l_callL (rm := rc_10_far) (As := [.int (xs (x3 + (1 : Int32)).toNatClampNeg), .int (xs (x3 + (2 : Int32)).toNatClampNeg)]) (st := []) (mc := 0) (ms := 0) X Y (fun ws' ov => ∃ (q : Int32 × CS) (σ1 : MS), ws' = CW E ho ro q.2 ++ P ∧ ov = some (.int q.1) ∧ M_far F σ (xs (x3 + (1 : Int32)).toNatClampNeg) (xs (x3 + (2 : Int32)).toNatClampNeg) = some (q.1, σ1) ∧ Rel q.2 P σ1) lk_103 ob_10 rfl ⟨Nat.le_of_ble_eq_true rfl, Nat.le_of_ble_eq_true rfl⟩ ⟨rfl, rfl⟩ (Nat.le_of_ble_eq_true rfl) ⟨by show (110 + 17 * k) + 0 ≤ 600000; omega, by show (23187 + 900 * k) + 0 ≤ 7302250; omega⟩ (fun z hz => ?_) dL_law_784 (fun ws' ov hΦ => ?_)
      · obtain ⟨q, σ1, g1, g2, g3⟩ := ag21 S P σ (xs (x3 + (1 : Int32)).toNatClampNeg) (xs (x3 + (2 : Int32)).toNatClampNeg) hrel
        exact ⟨_, _, cc_10_far l dC dI E ev ho ro F P S (xs (x3 + (1 : Int32)).toNatClampNeg) (xs (x3 + (2 : Int32)).toNatClampNeg) q g1 z, q, σ1, rfl, rfl, g2, g3⟩
      obtain ⟨q, σ1, rfl, rfl, g2, g3⟩ := hΦ
      refine g_aload_n X dL_law_787 2 rfl ?_
      refine g_aload_n X dL_law_788 0 rfl ?_
      refine g_iload_n X dL_law_789 3 rfl ?_
      refine g_iconst X dL_law_790 kc_1 ?_
      refine g_iadd X dL_law_791 ?_
      refine l_sld X hX hbl hbA hin1 dL_law_792 ?_
      refine g_aload_n X dL_law_793 0 rfl ?_
      refine g_iload_n X dL_law_794 3 rfl ?_
      refine g_iconst X dL_law_795 kc_2 ?_
      refine g_iadd X dL_law_796 ?_
      refine l_sld X hX hbl hbA hin2 dL_law_797 ?_
      refine l_callR (rm := rm_far) (As := [.int (xs (x3 + (1 : Int32)).toNatClampNeg), .int (xs (x3 + (2 : Int32)).toNatClampNeg)]) (st := [.int q.1]) X lk_106 ⟨0, _, rfl⟩ (cix := 11) rfl ⟨Nat.le_of_ble_eq_true rfl, Nat.le_of_ble_eq_true rfl⟩ ⟨rfl, rfl⟩ (Nat.le_of_ble_eq_true rfl) ⟨by show (110 + 17 * k) + 0 + 0 ≤ 600000; omega, by show (23187 + 900 * k) + 0 + 0 ≤ 7302250; omega⟩ (c_far l dC dI E h r F σ (xs (x3 + (1 : Int32)).toNatClampNeg) (xs (x3 + (2 : Int32)).toNatClampNeg) (q.1, σ1) g2) dL_law_798 ?_
      refine l_same (tgt := 1320) X dL_law_801 (by decide) ?_
      exact g_widen ⟨by omega, by omega⟩ (hend _ _ _ g3)
    by_cases hs22 : (xs x3.toNatClampNeg &&& (63 : Int32)) = (22 : Int32)
    · refine g_tsw (tgt := 806) (off := 773) X dL_law_33 (by rw [hs22]; decide) (by rw [hs22]; decide) (by rw [hs22]; rfl) (by decide) ?_
      refine g_aload_n X dL_law_806 1 rfl ?_
      refine g_aload_n X dL_law_807 0 rfl ?_
      refine g_iload_n X dL_law_808 3 rfl ?_
      refine g_iconst X dL_law_809 kc_1 ?_
      refine g_iadd X dL_law_810 ?_
      refine l_sld X hX hbl hbA hin1 dL_law_811 ?_
      refine g_aload_n X dL_law_812 0 rfl ?_
      refine g_iload_n X dL_law_813 3 rfl ?_
      refine g_iconst X dL_law_814 kc_2 ?_
      refine g_iadd X dL_law_815 ?_
      refine l_sld X hX hbl hbA hin2 dL_law_816 ?_
      refine l_callL (rm := rc_10_found) (As := [.int (xs (x3 + (1 : Int32)).toNatClampNeg), .int (xs (x3 + (2 : Int32)).toNatClampNeg)]) (st := []) (mc := 0) (ms := 0) X Y (fun ws' ov => ∃ (q : Int32 × CS) (σ1 : MS), ws' = CW E ho ro q.2 ++ P ∧ ov = some (.int q.1) ∧ M_found F σ (xs (x3 + (1 : Int32)).toNatClampNeg) (xs (x3 + (2 : Int32)).toNatClampNeg) = some (q.1, σ1) ∧ Rel q.2 P σ1) lk_107 ob_10 rfl ⟨Nat.le_of_ble_eq_true rfl, Nat.le_of_ble_eq_true rfl⟩ ⟨rfl, rfl⟩ (Nat.le_of_ble_eq_true rfl) ⟨by show (110 + 17 * k) + 0 ≤ 600000; omega, by show (23187 + 900 * k) + 0 ≤ 7302250; omega⟩ (fun z hz => ?_) dL_law_817 (fun ws' ov hΦ => ?_)
      · obtain ⟨q, σ1, g1, g2, g3⟩ := ag22 S P σ (xs (x3 + (1 : Int32)).toNatClampNeg) (xs (x3 + (2 : Int32)).toNatClampNeg) hrel
        exact ⟨_, _, cc_10_found l dC dI E ev ho ro F P S (xs (x3 + (1 : Int32)).toNatClampNeg) (xs (x3 + (2 : Int32)).toNatClampNeg) q g1 z, q, σ1, rfl, rfl, g2, g3⟩
      obtain ⟨q, σ1, rfl, rfl, g2, g3⟩ := hΦ
      refine g_aload_n X dL_law_820 2 rfl ?_
      refine g_aload_n X dL_law_821 0 rfl ?_
      refine g_iload_n X dL_law_822 3 rfl ?_
      refine g_iconst X dL_law_823 kc_1 ?_
      refine g_iadd X dL_law_824 ?_
      refine l_sld X hX hbl hbA hin1 dL_law_825 ?_
      refine g_aload_n X dL_law_826 0 rfl ?_
      refine g_iload_n X dL_law_827 3 rfl ?_
      refine g_iconst X dL_law_828 kc_2 ?_
      refine g_iadd X dL_law_829 ?_
      refine l_sld X hX hbl hbA hin2 dL_law_830 ?_
      refine l_callR (rm := rm_found) (As := [.int (xs (x3 + (1 : Int32)).toNatClampNeg), .int (xs (x3 + (2 : Int32)).toNatClampNeg)]) (st := [.int q.1]) X lk_110 ⟨0, _, rfl⟩ (cix := 11) rfl ⟨Nat.le_of_ble_eq_true rfl, Nat.le_of_ble_eq_true rfl⟩ ⟨rfl, rfl⟩ (Nat.le_of_ble_eq_true rfl) ⟨by show (110 + 17 * k) + 0 + 0 ≤ 600000; omega, by show (23187 + 900 * k) + 0 + 0 ≤ 7302250; omega⟩ (c_found l dC dI E h r F σ (xs (x3 + (1 : Int32)).toNatClampNeg) (xs (x3 + (2 : Int32)).toNatClampNeg) (q.1, σ1) g2) dL_law_831 ?_
      refine l_same (tgt := 1320) X dL_law_834 (by decide) ?_
      exact g_widen ⟨by omega, by omega⟩ (hend _ _ _ g3)
    by_cases hs23 : (xs x3.toNatClampNeg &&& (63 : Int32)) = (23 : Int32)
    · refine g_tsw (tgt := 839) (off := 806) X dL_law_33 (by rw [hs23]; decide) (by rw [hs23]; decide) (by rw [hs23]; rfl) (by decide) ?_
      refine g_aload_n X dL_law_839 1 rfl ?_
      refine g_aload_n X dL_law_840 0 rfl ?_
      refine g_iload_n X dL_law_841 3 rfl ?_
      refine g_iconst X dL_law_842 kc_1 ?_
      refine g_iadd X dL_law_843 ?_
      refine l_sld X hX hbl hbA hin1 dL_law_844 ?_
      refine l_callL (rm := rc_10_post) (As := [.int (xs (x3 + (1 : Int32)).toNatClampNeg)]) (st := []) (mc := 0) (ms := 0) X Y (fun ws' ov => ∃ (q : Int32 × CS) (σ1 : MS), ws' = CW E ho ro q.2 ++ P ∧ ov = some (.int q.1) ∧ M_post F σ (xs (x3 + (1 : Int32)).toNatClampNeg) = some (q.1, σ1) ∧ Rel q.2 P σ1) lk_111 ob_10 rfl ⟨Nat.le_of_ble_eq_true rfl, Nat.le_of_ble_eq_true rfl⟩ ⟨rfl, rfl⟩ (Nat.le_of_ble_eq_true rfl) ⟨by show (110 + 17 * k) + 0 ≤ 600000; omega, by show (23187 + 900 * k) + 0 ≤ 7302250; omega⟩ (fun z hz => ?_) dL_law_845 (fun ws' ov hΦ => ?_)
      · obtain ⟨q, σ1, g1, g2, g3⟩ := ag23 S P σ (xs (x3 + (1 : Int32)).toNatClampNeg) hrel
        exact ⟨_, _, cc_10_post l dC dI E ev ho ro F P S (xs (x3 + (1 : Int32)).toNatClampNeg) q g1 z, q, σ1, rfl, rfl, g2, g3⟩
      obtain ⟨q, σ1, rfl, rfl, g2, g3⟩ := hΦ
      refine g_aload_n X dL_law_848 2 rfl ?_
      refine g_aload_n X dL_law_849 0 rfl ?_
      refine g_iload_n X dL_law_850 3 rfl ?_
      refine g_iconst X dL_law_851 kc_1 ?_
      refine g_iadd X dL_law_852 ?_
      refine l_sld X hX hbl hbA hin1 dL_law_853 ?_
      refine l_callR (rm := rm_post) (As := [.int (xs (x3 + (1 : Int32)).toNatClampNeg)]) (st := [.int q.1]) X lk_114 ⟨0, _, rfl⟩ (cix := 11) rfl ⟨Nat.le_of_ble_eq_true rfl, Nat.le_of_ble_eq_true rfl⟩ ⟨rfl, rfl⟩ (Nat.le_of_ble_eq_true rfl) ⟨by show (110 + 17 * k) + 0 + 0 ≤ 600000; omega, by show (23187 + 900 * k) + 0 + 0 ≤ 7302250; omega⟩ (c_post l dC dI E h r F σ (xs (x3 + (1 : Int32)).toNatClampNeg) (q.1, σ1) g2) dL_law_854 ?_
      refine l_same (tgt := 1320) X dL_law_857 (by decide) ?_
      exact g_widen ⟨by omega, by omega⟩ (hend _ _ _ g3)
    by_cases hs24 : (xs x3.toNatClampNeg &&& (63 : Int32)) = (24 : Int32)
    · refine g_tsw (tgt := 862) (off := 829) X dL_law_33 (by rw [hs24]; decide) (by rw [hs24]; decide) (by rw [hs24]; rfl) (by decide) ?_
      refine g_aload_n X dL_law_862 1 rfl ?_
      refine g_aload_n X dL_law_863 0 rfl ?_
      refine g_iload_n X dL_law_864 3 rfl ?_
      refine g_iconst X dL_law_865 kc_1 ?_
      refine g_iadd X dL_law_866 ?_
      refine l_sld X hX hbl hbA hin1 dL_law_867 ?_
      refine g_aload_n X dL_law_868 0 rfl ?_
      refine g_iload_n X dL_law_869 3 rfl ?_
      refine g_iconst X dL_law_870 kc_2 ?_
      refine g_iadd X dL_law_871 ?_
      refine l_sld X hX hbl hbA hin2 dL_law_872 ?_
      refine l_callL (rm := rc_10_posts) (As := [.int (xs (x3 + (1 : Int32)).toNatClampNeg), .int (xs (x3 + (2 : Int32)).toNatClampNeg)]) (st := []) (mc := 0) (ms := 0) X Y (fun ws' ov => ∃ (q : Int32 × CS) (σ1 : MS), ws' = CW E ho ro q.2 ++ P ∧ ov = some (.int q.1) ∧ M_posts F σ (xs (x3 + (1 : Int32)).toNatClampNeg) (xs (x3 + (2 : Int32)).toNatClampNeg) = some (q.1, σ1) ∧ Rel q.2 P σ1) lk_115 ob_10 rfl ⟨Nat.le_of_ble_eq_true rfl, Nat.le_of_ble_eq_true rfl⟩ ⟨rfl, rfl⟩ (Nat.le_of_ble_eq_true rfl) ⟨by show (110 + 17 * k) + 0 ≤ 600000; omega, by show (23187 + 900 * k) + 0 ≤ 7302250; omega⟩ (fun z hz => ?_) dL_law_873 (fun ws' ov hΦ => ?_)
      · obtain ⟨q, σ1, g1, g2, g3⟩ := ag24 S P σ (xs (x3 + (1 : Int32)).toNatClampNeg) (xs (x3 + (2 : Int32)).toNatClampNeg) hrel
        exact ⟨_, _, cc_10_posts l dC dI E ev ho ro F P S (xs (x3 + (1 : Int32)).toNatClampNeg) (xs (x3 + (2 : Int32)).toNatClampNeg) q g1 z, q, σ1, rfl, rfl, g2, g3⟩
      obtain ⟨q, σ1, rfl, rfl, g2, g3⟩ := hΦ
      refine g_aload_n X dL_law_876 2 rfl ?_
      refine g_aload_n X dL_law_877 0 rfl ?_
      refine g_iload_n X dL_law_878 3 rfl ?_
      refine g_iconst X dL_law_879 kc_1 ?_
      refine g_iadd X dL_law_880 ?_
      refine l_sld X hX hbl hbA hin1 dL_law_881 ?_
      refine g_aload_n X dL_law_882 0 rfl ?_
      refine g_iload_n X dL_law_883 3 rfl ?_
      refine g_iconst X dL_law_884 kc_2 ?_
      refine g_iadd X dL_law_885 ?_
      refine l_sld X hX hbl hbA hin2 dL_law_886 ?_
      refine l_callR (rm := rm_posts) (As := [.int (xs (x3 + (1 : Int32)).toNatClampNeg), .int (xs (x3 + (2 : Int32)).toNatClampNeg)]) (st := [.int q.1]) X lk_118 ⟨0, _, rfl⟩ (cix := 11) rfl ⟨Nat.le_of_ble_eq_true rfl, Nat.le_of_ble_eq_true rfl⟩ ⟨rfl, rfl⟩ (Nat.le_of_ble_eq_true rfl) ⟨by show (110 + 17 * k) + 0 + 0 ≤ 600000; omega, by show (23187 + 900 * k) + 0 + 0 ≤ 7302250; omega⟩ (c_posts l dC dI E h r F σ (xs (x3 + (1 : Int32)).toNatClampNeg) (xs (x3 + (2 : Int32)).toNatClampNeg) (q.1, σ1) g2) dL_law_887 ?_
      refine l_same (tgt := 1320) X dL_law_890 (by decide) ?_
      exact g_widen ⟨by omega, by omega⟩ (hend _ _ _ g3)
    by_cases hs25 : (xs x3.toNatClampNeg &&& (63 : Int32)) = (25 : Int32)
    · refine g_tsw (tgt := 895) (off := 862) X dL_law_33 (by rw [hs25]; decide) (by rw [hs25]; decide) (by rw [hs25]; rfl) (by decide) ?_
      refine g_aload_n X dL_law_895 1 rfl ?_
      refine g_aload_n X dL_law_896 0 rfl ?_
      refine g_iload_n X dL_law_897 3 rfl ?_
      refine g_iconst X dL_law_898 kc_1 ?_
      refine g_iadd X dL_law_899 ?_
      refine l_sld X hX hbl hbA hin1 dL_law_900 ?_
      refine l_callL (rm := rc_10_again) (As := [.int (xs (x3 + (1 : Int32)).toNatClampNeg)]) (st := []) (mc := 0) (ms := 0) X Y (fun ws' ov => ∃ (q : Int32 × CS) (σ1 : MS), ws' = CW E ho ro q.2 ++ P ∧ ov = some (.int q.1) ∧ M_again F σ (xs (x3 + (1 : Int32)).toNatClampNeg) = some (q.1, σ1) ∧ Rel q.2 P σ1) lk_119 ob_10 rfl ⟨Nat.le_of_ble_eq_true rfl, Nat.le_of_ble_eq_true rfl⟩ ⟨rfl, rfl⟩ (Nat.le_of_ble_eq_true rfl) ⟨by show (110 + 17 * k) + 0 ≤ 600000; omega, by show (23187 + 900 * k) + 0 ≤ 7302250; omega⟩ (fun z hz => ?_) dL_law_901 (fun ws' ov hΦ => ?_)
      · obtain ⟨q, σ1, g1, g2, g3⟩ := ag25 S P σ (xs (x3 + (1 : Int32)).toNatClampNeg) hrel
        exact ⟨_, _, cc_10_again l dC dI E ev ho ro F P S (xs (x3 + (1 : Int32)).toNatClampNeg) q g1 z, q, σ1, rfl, rfl, g2, g3⟩
      obtain ⟨q, σ1, rfl, rfl, g2, g3⟩ := hΦ
      refine g_aload_n X dL_law_904 2 rfl ?_
      refine g_aload_n X dL_law_905 0 rfl ?_
      refine g_iload_n X dL_law_906 3 rfl ?_
      refine g_iconst X dL_law_907 kc_1 ?_
      refine g_iadd X dL_law_908 ?_
      refine l_sld X hX hbl hbA hin1 dL_law_909 ?_
      refine l_callR (rm := rm_again) (As := [.int (xs (x3 + (1 : Int32)).toNatClampNeg)]) (st := [.int q.1]) X lk_122 ⟨0, _, rfl⟩ (cix := 11) rfl ⟨Nat.le_of_ble_eq_true rfl, Nat.le_of_ble_eq_true rfl⟩ ⟨rfl, rfl⟩ (Nat.le_of_ble_eq_true rfl) ⟨by show (110 + 17 * k) + 0 + 0 ≤ 600000; omega, by show (23187 + 900 * k) + 0 + 0 ≤ 7302250; omega⟩ (c_again l dC dI E h r F σ (xs (x3 + (1 : Int32)).toNatClampNeg) (q.1, σ1) g2) dL_law_910 ?_
      refine l_same (tgt := 1320) X dL_law_913 (by decide) ?_
      exact g_widen ⟨by omega, by omega⟩ (hend _ _ _ g3)
    by_cases hs26 : (xs x3.toNatClampNeg &&& (63 : Int32)) = (26 : Int32)
    · refine g_tsw (tgt := 918) (off := 885) X dL_law_33 (by rw [hs26]; decide) (by rw [hs26]; decide) (by rw [hs26]; rfl) (by decide) ?_
      refine g_aload_n X dL_law_918 1 rfl ?_
      refine g_aload_n X dL_law_919 0 rfl ?_
      refine g_iload_n X dL_law_920 3 rfl ?_
      refine g_iconst X dL_law_921 kc_1 ?_
      refine g_iadd X dL_law_922 ?_
      refine l_sld X hX hbl hbA hin1 dL_law_923 ?_
      refine l_callL (rm := rc_10_hear) (As := [.int (xs (x3 + (1 : Int32)).toNatClampNeg)]) (st := []) (mc := 0) (ms := 0) X Y (fun ws' ov => ∃ (q : Int32 × CS) (σ1 : MS), ws' = CW E ho ro q.2 ++ P ∧ ov = some (.int q.1) ∧ M_hear σ (xs (x3 + (1 : Int32)).toNatClampNeg) = some (q.1, σ1) ∧ Rel q.2 P σ1) lk_123 ob_10 rfl ⟨Nat.le_of_ble_eq_true rfl, Nat.le_of_ble_eq_true rfl⟩ ⟨rfl, rfl⟩ (Nat.le_of_ble_eq_true rfl) ⟨by show (110 + 17 * k) + 0 ≤ 600000; omega, by show (23187 + 900 * k) + 0 ≤ 7302250; omega⟩ (fun z hz => ?_) dL_law_924 (fun ws' ov hΦ => ?_)
      · obtain ⟨q, σ1, g1, g2, g3⟩ := ag26 S P σ (xs (x3 + (1 : Int32)).toNatClampNeg) hrel
        exact ⟨_, _, cc_10_hear l dC dI E ev ho ro P S (xs (x3 + (1 : Int32)).toNatClampNeg) q g1 z, q, σ1, rfl, rfl, g2, g3⟩
      obtain ⟨q, σ1, rfl, rfl, g2, g3⟩ := hΦ
      refine g_aload_n X dL_law_927 2 rfl ?_
      refine g_aload_n X dL_law_928 0 rfl ?_
      refine g_iload_n X dL_law_929 3 rfl ?_
      refine g_iconst X dL_law_930 kc_1 ?_
      refine g_iadd X dL_law_931 ?_
      refine l_sld X hX hbl hbA hin1 dL_law_932 ?_
      refine l_callR (rm := rm_hear) (As := [.int (xs (x3 + (1 : Int32)).toNatClampNeg)]) (st := [.int q.1]) X lk_126 ⟨0, _, rfl⟩ (cix := 11) rfl ⟨Nat.le_of_ble_eq_true rfl, Nat.le_of_ble_eq_true rfl⟩ ⟨rfl, rfl⟩ (Nat.le_of_ble_eq_true rfl) ⟨by show (110 + 17 * k) + 0 + 0 ≤ 600000; omega, by show (23187 + 900 * k) + 0 + 0 ≤ 7302250; omega⟩ (c_hear l dC dI E h r σ (xs (x3 + (1 : Int32)).toNatClampNeg) (q.1, σ1) g2) dL_law_933 ?_
      refine l_same (tgt := 1320) X dL_law_936 (by decide) ?_
      exact g_widen ⟨by omega, by omega⟩ (hend _ _ _ g3)
    by_cases hs27 : (xs x3.toNatClampNeg &&& (63 : Int32)) = (27 : Int32)
    · refine g_tsw (tgt := 941) (off := 908) X dL_law_33 (by rw [hs27]; decide) (by rw [hs27]; decide) (by rw [hs27]; rfl) (by decide) ?_
      refine g_aload_n X dL_law_941 1 rfl ?_
      refine l_callL (rm := rc_10_forget) (As := []) (st := []) (mc := 0) (ms := 0) X Y (fun ws' ov => ∃ (q : Int32 × CS) (σ1 : MS), ws' = CW E ho ro q.2 ++ P ∧ ov = some (.int q.1) ∧ M_forget σ  = some (q.1, σ1) ∧ Rel q.2 P σ1) lk_127 ob_10 rfl ⟨Nat.le_of_ble_eq_true rfl, Nat.le_of_ble_eq_true rfl⟩ ⟨rfl, rfl⟩ (Nat.le_of_ble_eq_true rfl) ⟨by show (110 + 17 * k) + 0 ≤ 600000; omega, by show (23187 + 900 * k) + 0 ≤ 7302250; omega⟩ (fun z hz => ?_) dL_law_942 (fun ws' ov hΦ => ?_)
      · obtain ⟨q, σ1, g1, g2, g3⟩ := ag27 S P σ  hrel
        exact ⟨_, _, cc_10_forget l dC dI E ev ho ro P S  q g1 z, q, σ1, rfl, rfl, g2, g3⟩
      obtain ⟨q, σ1, rfl, rfl, g2, g3⟩ := hΦ
      refine g_aload_n X dL_law_945 2 rfl ?_
      refine l_callR (rm := rm_forget) (As := []) (st := [.int q.1]) X lk_130 ⟨0, _, rfl⟩ (cix := 11) rfl ⟨Nat.le_of_ble_eq_true rfl, Nat.le_of_ble_eq_true rfl⟩ ⟨rfl, rfl⟩ (Nat.le_of_ble_eq_true rfl) ⟨by show (110 + 17 * k) + 0 + 0 ≤ 600000; omega, by show (23187 + 900 * k) + 0 + 0 ≤ 7302250; omega⟩ (c_forget l dC dI E h r σ  (q.1, σ1) g2) dL_law_946 ?_
      refine l_same (tgt := 1320) X dL_law_949 (by decide) ?_
      exact g_widen ⟨by omega, by omega⟩ (hend _ _ _ g3)
    by_cases hs28 : (xs x3.toNatClampNeg &&& (63 : Int32)) = (28 : Int32)
    · refine g_tsw (tgt := 954) (off := 921) X dL_law_33 (by rw [hs28]; decide) (by rw [hs28]; decide) (by rw [hs28]; rfl) (by decide) ?_
      refine g_aload_n X dL_law_954 1 rfl ?_
      refine g_aload_n X dL_law_955 0 rfl ?_
      refine g_iload_n X dL_law_956 3 rfl ?_
      refine g_iconst X dL_law_957 kc_1 ?_
      refine g_iadd X dL_law_958 ?_
      refine l_sld X hX hbl hbA hin1 dL_law_959 ?_
      refine l_callL (rm := rc_10_gone) (As := [.int (xs (x3 + (1 : Int32)).toNatClampNeg)]) (st := []) (mc := 0) (ms := 0) X Y (fun ws' ov => ∃ (q : Int32 × CS) (σ1 : MS), ws' = CW E ho ro q.2 ++ P ∧ ov = some (.int q.1) ∧ M_gone F σ (xs (x3 + (1 : Int32)).toNatClampNeg) = some (q.1, σ1) ∧ Rel q.2 P σ1) lk_131 ob_10 rfl ⟨Nat.le_of_ble_eq_true rfl, Nat.le_of_ble_eq_true rfl⟩ ⟨rfl, rfl⟩ (Nat.le_of_ble_eq_true rfl) ⟨by show (110 + 17 * k) + 0 ≤ 600000; omega, by show (23187 + 900 * k) + 0 ≤ 7302250; omega⟩ (fun z hz => ?_) dL_law_960 (fun ws' ov hΦ => ?_)
      · obtain ⟨q, σ1, g1, g2, g3⟩ := ag28 S P σ (xs (x3 + (1 : Int32)).toNatClampNeg) hrel
        exact ⟨_, _, cc_10_gone l dC dI E ev ho ro F P S (xs (x3 + (1 : Int32)).toNatClampNeg) q g1 z, q, σ1, rfl, rfl, g2, g3⟩
      obtain ⟨q, σ1, rfl, rfl, g2, g3⟩ := hΦ
      refine g_aload_n X dL_law_963 2 rfl ?_
      refine g_aload_n X dL_law_964 0 rfl ?_
      refine g_iload_n X dL_law_965 3 rfl ?_
      refine g_iconst X dL_law_966 kc_1 ?_
      refine g_iadd X dL_law_967 ?_
      refine l_sld X hX hbl hbA hin1 dL_law_968 ?_
      refine l_callR (rm := rm_gone) (As := [.int (xs (x3 + (1 : Int32)).toNatClampNeg)]) (st := [.int q.1]) X lk_134 ⟨0, _, rfl⟩ (cix := 11) rfl ⟨Nat.le_of_ble_eq_true rfl, Nat.le_of_ble_eq_true rfl⟩ ⟨rfl, rfl⟩ (Nat.le_of_ble_eq_true rfl) ⟨by show (110 + 17 * k) + 0 + 0 ≤ 600000; omega, by show (23187 + 900 * k) + 0 + 0 ≤ 7302250; omega⟩ (c_gone l dC dI E h r F σ (xs (x3 + (1 : Int32)).toNatClampNeg) (q.1, σ1) g2) dL_law_969 ?_
      refine l_same (tgt := 1320) X dL_law_972 (by decide) ?_
      exact g_widen ⟨by omega, by omega⟩ (hend _ _ _ g3)
    by_cases hs29 : (xs x3.toNatClampNeg &&& (63 : Int32)) = (29 : Int32)
    · refine g_tsw (tgt := 977) (off := 944) X dL_law_33 (by rw [hs29]; decide) (by rw [hs29]; decide) (by rw [hs29]; rfl) (by decide) ?_
      refine g_aload_n X dL_law_977 1 rfl ?_
      refine g_aload_n X dL_law_978 0 rfl ?_
      refine g_iload_n X dL_law_979 3 rfl ?_
      refine g_iconst X dL_law_980 kc_1 ?_
      refine g_iadd X dL_law_981 ?_
      refine l_sld X hX hbl hbA hin1 dL_law_982 ?_
      refine l_callL (rm := rc_10_named) (As := [.int (xs (x3 + (1 : Int32)).toNatClampNeg)]) (st := []) (mc := 0) (ms := 0) X Y (fun ws' ov => ∃ (q : Int32) (σ1 : MS), ws' = CW E ho ro S ++ P ∧ ov = some (.int q) ∧ M_named F σ (xs (x3 + (1 : Int32)).toNatClampNeg) = some (q, σ1) ∧ Rel S P σ1) lk_135 ob_10 rfl ⟨Nat.le_of_ble_eq_true rfl, Nat.le_of_ble_eq_true rfl⟩ ⟨rfl, rfl⟩ (Nat.le_of_ble_eq_true rfl) ⟨by show (110 + 17 * k) + 0 ≤ 600000; omega, by show (23187 + 900 * k) + 0 ≤ 7302250; omega⟩ (fun z hz => ?_) dL_law_983 (fun ws' ov hΦ => ?_)
      · obtain ⟨q, σ1, g1, g2, g3⟩ := ag29 S P σ (xs (x3 + (1 : Int32)).toNatClampNeg) hrel
        exact ⟨_, _, cc_10_named l dC dI E ev ho ro F P S (xs (x3 + (1 : Int32)).toNatClampNeg) q g1 z, q, σ1, rfl, rfl, g2, g3⟩
      obtain ⟨q, σ1, rfl, rfl, g2, g3⟩ := hΦ
      refine g_aload_n X dL_law_986 2 rfl ?_
      refine g_aload_n X dL_law_987 0 rfl ?_
      refine g_iload_n X dL_law_988 3 rfl ?_
      refine g_iconst X dL_law_989 kc_1 ?_
      refine g_iadd X dL_law_990 ?_
      refine l_sld X hX hbl hbA hin1 dL_law_991 ?_
      refine l_callR (rm := rm_named) (As := [.int (xs (x3 + (1 : Int32)).toNatClampNeg)]) (st := [.int q]) X lk_138 ⟨0, _, rfl⟩ (cix := 11) rfl ⟨Nat.le_of_ble_eq_true rfl, Nat.le_of_ble_eq_true rfl⟩ ⟨rfl, rfl⟩ (Nat.le_of_ble_eq_true rfl) ⟨by show (110 + 17 * k) + 0 + 0 ≤ 600000; omega, by show (23187 + 900 * k) + 0 + 0 ≤ 7302250; omega⟩ (c_named l dC dI E h r F σ (xs (x3 + (1 : Int32)).toNatClampNeg) (q, σ1) g2) dL_law_992 ?_
      refine l_same (tgt := 1320) X dL_law_995 (by decide) ?_
      exact g_widen ⟨by omega, by omega⟩ (hend _ _ _ g3)
    by_cases hs30 : (xs x3.toNatClampNeg &&& (63 : Int32)) = (30 : Int32)
    · refine g_tsw (tgt := 1000) (off := 967) X dL_law_33 (by rw [hs30]; decide) (by rw [hs30]; decide) (by rw [hs30]; rfl) (by decide) ?_
      refine g_aload_n X dL_law_1000 1 rfl ?_
      refine g_aload_n X dL_law_1001 0 rfl ?_
      refine g_iload_n X dL_law_1002 3 rfl ?_
      refine g_iconst X dL_law_1003 kc_1 ?_
      refine g_iadd X dL_law_1004 ?_
      refine l_sld X hX hbl hbA hin1 dL_law_1005 ?_
      refine g_aload_n X dL_law_1006 0 rfl ?_
      refine g_iload_n X dL_law_1007 3 rfl ?_
      refine g_iconst X dL_law_1008 kc_2 ?_
      refine g_iadd X dL_law_1009 ?_
      refine l_sld X hX hbl hbA hin2 dL_law_1010 ?_
      refine g_aload_n X dL_law_1011 0 rfl ?_
      refine g_iload_n X dL_law_1012 3 rfl ?_
      refine g_iconst X dL_law_1013 kc_3 ?_
      refine g_iadd X dL_law_1014 ?_
      refine l_sld X hX hbl hbA hin3 dL_law_1015 ?_
      refine l_callL (rm := rc_10_letter) (As := [.int (xs (x3 + (1 : Int32)).toNatClampNeg), .int (xs (x3 + (2 : Int32)).toNatClampNeg), .int (xs (x3 + (3 : Int32)).toNatClampNeg)]) (st := []) (mc := 0) (ms := 0) X Y (fun ws' ov => ∃ (q : Int32 × CS) (σ1 : MS), ws' = CW E ho ro q.2 ++ P ∧ ov = some (.int q.1) ∧ M_letter F σ (xs (x3 + (1 : Int32)).toNatClampNeg) (xs (x3 + (2 : Int32)).toNatClampNeg) (xs (x3 + (3 : Int32)).toNatClampNeg) = some (q.1, σ1) ∧ Rel q.2 P σ1) lk_139 ob_10 rfl ⟨Nat.le_of_ble_eq_true rfl, Nat.le_of_ble_eq_true rfl⟩ ⟨rfl, rfl⟩ (Nat.le_of_ble_eq_true rfl) ⟨by show (110 + 17 * k) + 0 ≤ 600000; omega, by show (23187 + 900 * k) + 0 ≤ 7302250; omega⟩ (fun z hz => ?_) dL_law_1016 (fun ws' ov hΦ => ?_)
      · obtain ⟨q, σ1, g1, g2, g3⟩ := ag30 S P σ (xs (x3 + (1 : Int32)).toNatClampNeg) (xs (x3 + (2 : Int32)).toNatClampNeg) (xs (x3 + (3 : Int32)).toNatClampNeg) hrel
        exact ⟨_, _, cc_10_letter l dC dI E ev ho ro F P S (xs (x3 + (1 : Int32)).toNatClampNeg) (xs (x3 + (2 : Int32)).toNatClampNeg) (xs (x3 + (3 : Int32)).toNatClampNeg) q g1 z, q, σ1, rfl, rfl, g2, g3⟩
      obtain ⟨q, σ1, rfl, rfl, g2, g3⟩ := hΦ
      refine g_aload_n X dL_law_1019 2 rfl ?_
      refine g_aload_n X dL_law_1020 0 rfl ?_
      refine g_iload_n X dL_law_1021 3 rfl ?_
      refine g_iconst X dL_law_1022 kc_1 ?_
      refine g_iadd X dL_law_1023 ?_
      refine l_sld X hX hbl hbA hin1 dL_law_1024 ?_
      refine g_aload_n X dL_law_1025 0 rfl ?_
      refine g_iload_n X dL_law_1026 3 rfl ?_
      refine g_iconst X dL_law_1027 kc_2 ?_
      refine g_iadd X dL_law_1028 ?_
      refine l_sld X hX hbl hbA hin2 dL_law_1029 ?_
      refine g_aload_n X dL_law_1030 0 rfl ?_
      refine g_iload_n X dL_law_1031 3 rfl ?_
      refine g_iconst X dL_law_1032 kc_3 ?_
      refine g_iadd X dL_law_1033 ?_
      refine l_sld X hX hbl hbA hin3 dL_law_1034 ?_
      refine l_callR (rm := rm_letter) (As := [.int (xs (x3 + (1 : Int32)).toNatClampNeg), .int (xs (x3 + (2 : Int32)).toNatClampNeg), .int (xs (x3 + (3 : Int32)).toNatClampNeg)]) (st := [.int q.1]) X lk_142 ⟨0, _, rfl⟩ (cix := 11) rfl ⟨Nat.le_of_ble_eq_true rfl, Nat.le_of_ble_eq_true rfl⟩ ⟨rfl, rfl⟩ (Nat.le_of_ble_eq_true rfl) ⟨by show (110 + 17 * k) + 0 + 0 ≤ 600000; omega, by show (23187 + 900 * k) + 0 + 0 ≤ 7302250; omega⟩ (c_letter l dC dI E h r F σ (xs (x3 + (1 : Int32)).toNatClampNeg) (xs (x3 + (2 : Int32)).toNatClampNeg) (xs (x3 + (3 : Int32)).toNatClampNeg) (q.1, σ1) g2) dL_law_1035 ?_
      refine l_same (tgt := 1320) X dL_law_1038 (by decide) ?_
      exact g_widen ⟨by omega, by omega⟩ (hend _ _ _ g3)
    by_cases hs31 : (xs x3.toNatClampNeg &&& (63 : Int32)) = (31 : Int32)
    · refine g_tsw (tgt := 1043) (off := 1010) X dL_law_33 (by rw [hs31]; decide) (by rw [hs31]; decide) (by rw [hs31]; rfl) (by decide) ?_
      refine g_aload_n X dL_law_1043 1 rfl ?_
      refine g_aload_n X dL_law_1044 0 rfl ?_
      refine g_iload_n X dL_law_1045 3 rfl ?_
      refine g_iconst X dL_law_1046 kc_1 ?_
      refine g_iadd X dL_law_1047 ?_
      refine l_sld X hX hbl hbA hin1 dL_law_1048 ?_
      refine l_callL (rm := rc_10_apart) (As := [.int (xs (x3 + (1 : Int32)).toNatClampNeg)]) (st := []) (mc := 0) (ms := 0) X Y (fun ws' ov => ∃ (q : Int32 × CS) (σ1 : MS), ws' = CW E ho ro q.2 ++ P ∧ ov = some (.int q.1) ∧ M_apart F σ (xs (x3 + (1 : Int32)).toNatClampNeg) = some (q.1, σ1) ∧ Rel q.2 P σ1) lk_143 ob_10 rfl ⟨Nat.le_of_ble_eq_true rfl, Nat.le_of_ble_eq_true rfl⟩ ⟨rfl, rfl⟩ (Nat.le_of_ble_eq_true rfl) ⟨by show (110 + 17 * k) + 0 ≤ 600000; omega, by show (23187 + 900 * k) + 0 ≤ 7302250; omega⟩ (fun z hz => ?_) dL_law_1049 (fun ws' ov hΦ => ?_)
      · obtain ⟨q, σ1, g1, g2, g3⟩ := ag31 S P σ (xs (x3 + (1 : Int32)).toNatClampNeg) hrel
        exact ⟨_, _, cc_10_apart l dC dI E ev ho ro F P S (xs (x3 + (1 : Int32)).toNatClampNeg) q g1 z, q, σ1, rfl, rfl, g2, g3⟩
      obtain ⟨q, σ1, rfl, rfl, g2, g3⟩ := hΦ
      refine g_aload_n X dL_law_1052 2 rfl ?_
      refine g_aload_n X dL_law_1053 0 rfl ?_
      refine g_iload_n X dL_law_1054 3 rfl ?_
      refine g_iconst X dL_law_1055 kc_1 ?_
      refine g_iadd X dL_law_1056 ?_
      refine l_sld X hX hbl hbA hin1 dL_law_1057 ?_
      refine l_callR (rm := rm_apart) (As := [.int (xs (x3 + (1 : Int32)).toNatClampNeg)]) (st := [.int q.1]) X lk_146 ⟨0, _, rfl⟩ (cix := 11) rfl ⟨Nat.le_of_ble_eq_true rfl, Nat.le_of_ble_eq_true rfl⟩ ⟨rfl, rfl⟩ (Nat.le_of_ble_eq_true rfl) ⟨by show (110 + 17 * k) + 0 + 0 ≤ 600000; omega, by show (23187 + 900 * k) + 0 + 0 ≤ 7302250; omega⟩ (c_apart l dC dI E h r F σ (xs (x3 + (1 : Int32)).toNatClampNeg) (q.1, σ1) g2) dL_law_1058 ?_
      refine l_same (tgt := 1320) X dL_law_1061 (by decide) ?_
      exact g_widen ⟨by omega, by omega⟩ (hend _ _ _ g3)
    by_cases hs32 : (xs x3.toNatClampNeg &&& (63 : Int32)) = (32 : Int32)
    · refine g_tsw (tgt := 1066) (off := 1033) X dL_law_33 (by rw [hs32]; decide) (by rw [hs32]; decide) (by rw [hs32]; rfl) (by decide) ?_
      refine g_aload_n X dL_law_1066 1 rfl ?_
      refine l_callL (rm := rc_10_alike) (As := []) (st := []) (mc := 0) (ms := 0) X Y (fun ws' ov => ∃ (q : Int32) (σ1 : MS), ws' = CW E ho ro S ++ P ∧ ov = some (.int q) ∧ M_alike F σ  = some (q, σ1) ∧ Rel S P σ1) lk_147 ob_10 rfl ⟨Nat.le_of_ble_eq_true rfl, Nat.le_of_ble_eq_true rfl⟩ ⟨rfl, rfl⟩ (Nat.le_of_ble_eq_true rfl) ⟨by show (110 + 17 * k) + 0 ≤ 600000; omega, by show (23187 + 900 * k) + 0 ≤ 7302250; omega⟩ (fun z hz => ?_) dL_law_1067 (fun ws' ov hΦ => ?_)
      · obtain ⟨q, σ1, g1, g2, g3⟩ := ag32 S P σ  hrel
        exact ⟨_, _, cc_10_alike l dC dI E ev ho ro F P S  q g1 z, q, σ1, rfl, rfl, g2, g3⟩
      obtain ⟨q, σ1, rfl, rfl, g2, g3⟩ := hΦ
      refine g_aload_n X dL_law_1070 2 rfl ?_
      refine l_callR (rm := rm_alike) (As := []) (st := [.int q]) X lk_150 ⟨0, _, rfl⟩ (cix := 11) rfl ⟨Nat.le_of_ble_eq_true rfl, Nat.le_of_ble_eq_true rfl⟩ ⟨rfl, rfl⟩ (Nat.le_of_ble_eq_true rfl) ⟨by show (110 + 17 * k) + 0 + 0 ≤ 600000; omega, by show (23187 + 900 * k) + 0 + 0 ≤ 7302250; omega⟩ (c_alike l dC dI E h r F σ  (q, σ1) g2) dL_law_1071 ?_
      refine l_same (tgt := 1320) X dL_law_1074 (by decide) ?_
      exact g_widen ⟨by omega, by omega⟩ (hend _ _ _ g3)
    by_cases hs33 : (xs x3.toNatClampNeg &&& (63 : Int32)) = (33 : Int32)
    · refine g_tsw (tgt := 1079) (off := 1046) X dL_law_33 (by rw [hs33]; decide) (by rw [hs33]; decide) (by rw [hs33]; rfl) (by decide) ?_
      refine g_aload_n X dL_law_1079 1 rfl ?_
      refine l_callL (rm := rc_10_round) (As := []) (st := []) (mc := 0) (ms := 0) X Y (fun ws' ov => ∃ (q : Int32 × CS) (σ1 : MS), ws' = CW E ho ro q.2 ++ P ∧ ov = some (.int q.1) ∧ M_round F σ  = some (q.1, σ1) ∧ Rel q.2 P σ1) lk_151 ob_10 rfl ⟨Nat.le_of_ble_eq_true rfl, Nat.le_of_ble_eq_true rfl⟩ ⟨rfl, rfl⟩ (Nat.le_of_ble_eq_true rfl) ⟨by show (110 + 17 * k) + 0 ≤ 600000; omega, by show (23187 + 900 * k) + 0 ≤ 7302250; omega⟩ (fun z hz => ?_) dL_law_1080 (fun ws' ov hΦ => ?_)
      · obtain ⟨q, σ1, g1, g2, g3⟩ := ag33 S P σ  hrel
        exact ⟨_, _, cc_10_round l dC dI E ev ho ro F P S  q g1 z, q, σ1, rfl, rfl, g2, g3⟩
      obtain ⟨q, σ1, rfl, rfl, g2, g3⟩ := hΦ
      refine g_aload_n X dL_law_1083 2 rfl ?_
      refine l_callR (rm := rm_round) (As := []) (st := [.int q.1]) X lk_154 ⟨0, _, rfl⟩ (cix := 11) rfl ⟨Nat.le_of_ble_eq_true rfl, Nat.le_of_ble_eq_true rfl⟩ ⟨rfl, rfl⟩ (Nat.le_of_ble_eq_true rfl) ⟨by show (110 + 17 * k) + 0 + 0 ≤ 600000; omega, by show (23187 + 900 * k) + 0 + 0 ≤ 7302250; omega⟩ (c_round l dC dI E h r F σ  (q.1, σ1) g2) dL_law_1084 ?_
      refine l_same (tgt := 1320) X dL_law_1087 (by decide) ?_
      exact g_widen ⟨by omega, by omega⟩ (hend _ _ _ g3)
    by_cases hs34 : (xs x3.toNatClampNeg &&& (63 : Int32)) = (34 : Int32)
    · refine g_tsw (tgt := 1092) (off := 1059) X dL_law_33 (by rw [hs34]; decide) (by rw [hs34]; decide) (by rw [hs34]; rfl) (by decide) ?_
      refine g_aload_n X dL_law_1092 1 rfl ?_
      refine l_callL (rm := rc_10_dead) (As := []) (st := []) (mc := 0) (ms := 0) X Y (fun ws' ov => ∃ (q : Int32) (σ1 : MS), ws' = CW E ho ro S ++ P ∧ ov = some (.int q) ∧ M_dead F σ  = some (q, σ1) ∧ Rel S P σ1) lk_155 ob_10 rfl ⟨Nat.le_of_ble_eq_true rfl, Nat.le_of_ble_eq_true rfl⟩ ⟨rfl, rfl⟩ (Nat.le_of_ble_eq_true rfl) ⟨by show (110 + 17 * k) + 0 ≤ 600000; omega, by show (23187 + 900 * k) + 0 ≤ 7302250; omega⟩ (fun z hz => ?_) dL_law_1093 (fun ws' ov hΦ => ?_)
      · obtain ⟨q, σ1, g1, g2, g3⟩ := ag34 S P σ  hrel
        exact ⟨_, _, cc_10_dead l dC dI E ev ho ro F P S  q g1 z, q, σ1, rfl, rfl, g2, g3⟩
      obtain ⟨q, σ1, rfl, rfl, g2, g3⟩ := hΦ
      refine g_aload_n X dL_law_1096 2 rfl ?_
      refine l_callR (rm := rm_dead) (As := []) (st := [.int q]) X lk_158 ⟨0, _, rfl⟩ (cix := 11) rfl ⟨Nat.le_of_ble_eq_true rfl, Nat.le_of_ble_eq_true rfl⟩ ⟨rfl, rfl⟩ (Nat.le_of_ble_eq_true rfl) ⟨by show (110 + 17 * k) + 0 + 0 ≤ 600000; omega, by show (23187 + 900 * k) + 0 + 0 ≤ 7302250; omega⟩ (c_dead l dC dI E h r F σ  (q, σ1) g2) dL_law_1097 ?_
      refine l_same (tgt := 1320) X dL_law_1100 (by decide) ?_
      exact g_widen ⟨by omega, by omega⟩ (hend _ _ _ g3)
    by_cases hs35 : (xs x3.toNatClampNeg &&& (63 : Int32)) = (35 : Int32)
    · refine g_tsw (tgt := 1105) (off := 1072) X dL_law_33 (by rw [hs35]; decide) (by rw [hs35]; decide) (by rw [hs35]; rfl) (by decide) ?_
      refine g_aload_n X dL_law_1105 1 rfl ?_
      refine g_aload_n X dL_law_1106 0 rfl ?_
      refine g_iload_n X dL_law_1107 3 rfl ?_
      refine g_iconst X dL_law_1108 kc_1 ?_
      refine g_iadd X dL_law_1109 ?_
      refine l_sld X hX hbl hbA hin1 dL_law_1110 ?_
      refine g_aload_n X dL_law_1111 0 rfl ?_
      refine g_iload_n X dL_law_1112 3 rfl ?_
      refine g_iconst X dL_law_1113 kc_2 ?_
      refine g_iadd X dL_law_1114 ?_
      refine l_sld X hX hbl hbA hin2 dL_law_1115 ?_
      refine l_callL (rm := rc_10_few) (As := [.int (xs (x3 + (1 : Int32)).toNatClampNeg), .int (xs (x3 + (2 : Int32)).toNatClampNeg)]) (st := []) (mc := 0) (ms := 0) X Y (fun ws' ov => ∃ (q : Int64 × CS) (σ1 : MS), ws' = CW E ho ro q.2 ++ P ∧ ov = some (.long q.1) ∧ M_few F σ (xs (x3 + (1 : Int32)).toNatClampNeg) (xs (x3 + (2 : Int32)).toNatClampNeg) = some (q.1, σ1) ∧ Rel q.2 P σ1) lk_159 ob_10 rfl ⟨Nat.le_of_ble_eq_true rfl, Nat.le_of_ble_eq_true rfl⟩ ⟨rfl, rfl⟩ (Nat.le_of_ble_eq_true rfl) ⟨by show (110 + 17 * k) + 0 ≤ 600000; omega, by show (23187 + 900 * k) + 0 ≤ 7302250; omega⟩ (fun z hz => ?_) dL_law_1116 (fun ws' ov hΦ => ?_)
      · obtain ⟨q, σ1, g1, g2, g3⟩ := ag35 S P σ (xs (x3 + (1 : Int32)).toNatClampNeg) (xs (x3 + (2 : Int32)).toNatClampNeg) hrel
        exact ⟨_, _, cc_10_few l dC dI E ev ho ro F P S (xs (x3 + (1 : Int32)).toNatClampNeg) (xs (x3 + (2 : Int32)).toNatClampNeg) q g1 z, q, σ1, rfl, rfl, g2, g3⟩
      obtain ⟨q, σ1, rfl, rfl, g2, g3⟩ := hΦ
      refine g_aload_n X dL_law_1119 2 rfl ?_
      refine g_aload_n X dL_law_1120 0 rfl ?_
      refine g_iload_n X dL_law_1121 3 rfl ?_
      refine g_iconst X dL_law_1122 kc_1 ?_
      refine g_iadd X dL_law_1123 ?_
      refine l_sld X hX hbl hbA hin1 dL_law_1124 ?_
      refine g_aload_n X dL_law_1125 0 rfl ?_
      refine g_iload_n X dL_law_1126 3 rfl ?_
      refine g_iconst X dL_law_1127 kc_2 ?_
      refine g_iadd X dL_law_1128 ?_
      refine l_sld X hX hbl hbA hin2 dL_law_1129 ?_
      refine l_callR (rm := rm_few) (As := [.int (xs (x3 + (1 : Int32)).toNatClampNeg), .int (xs (x3 + (2 : Int32)).toNatClampNeg)]) (st := [.long q.1]) X lk_163 ⟨0, _, rfl⟩ (cix := 11) rfl ⟨Nat.le_of_ble_eq_true rfl, Nat.le_of_ble_eq_true rfl⟩ ⟨rfl, rfl⟩ (Nat.le_of_ble_eq_true rfl) ⟨by show (110 + 17 * k) + 0 + 0 ≤ 600000; omega, by show (23187 + 900 * k) + 0 + 0 ≤ 7302250; omega⟩ (c_few l dC dI E h r F σ (xs (x3 + (1 : Int32)).toNatClampNeg) (xs (x3 + (2 : Int32)).toNatClampNeg) (q.1, σ1) g2) dL_law_1130 ?_
      refine l_sameL (tgt := 1320) X dL_law_1133 dL_law_1134 (by decide) ?_
      exact g_widen ⟨by omega, by omega⟩ (hend _ _ _ g3)
    by_cases hs36 : (xs x3.toNatClampNeg &&& (63 : Int32)) = (36 : Int32)
    · refine g_tsw (tgt := 1139) (off := 1106) X dL_law_33 (by rw [hs36]; decide) (by rw [hs36]; decide) (by rw [hs36]; rfl) (by decide) ?_
      refine g_aload_n X dL_law_1139 1 rfl ?_
      refine g_aload_n X dL_law_1140 0 rfl ?_
      refine g_iload_n X dL_law_1141 3 rfl ?_
      refine g_iconst X dL_law_1142 kc_1 ?_
      refine g_iadd X dL_law_1143 ?_
      refine l_sld X hX hbl hbA hin1 dL_law_1144 ?_
      refine g_aload_n X dL_law_1145 0 rfl ?_
      refine g_iload_n X dL_law_1146 3 rfl ?_
      refine g_iconst X dL_law_1147 kc_2 ?_
      refine g_iadd X dL_law_1148 ?_
      refine l_sld X hX hbl hbA hin2 dL_law_1149 ?_
      refine l_callL (rm := rc_10_compare) (As := [.int (xs (x3 + (1 : Int32)).toNatClampNeg), .int (xs (x3 + (2 : Int32)).toNatClampNeg)]) (st := []) (mc := 0) (ms := 0) X Y (fun ws' ov => ∃ (q : Int32 × CS) (σ1 : MS), ws' = CW E ho ro q.2 ++ P ∧ ov = some (.int q.1) ∧ M_compare F σ (xs (x3 + (1 : Int32)).toNatClampNeg) (xs (x3 + (2 : Int32)).toNatClampNeg) = some (q.1, σ1) ∧ Rel q.2 P σ1) lk_164 ob_10 rfl ⟨Nat.le_of_ble_eq_true rfl, Nat.le_of_ble_eq_true rfl⟩ ⟨rfl, rfl⟩ (Nat.le_of_ble_eq_true rfl) ⟨by show (110 + 17 * k) + 0 ≤ 600000; omega, by show (23187 + 900 * k) + 0 ≤ 7302250; omega⟩ (fun z hz => ?_) dL_law_1150 (fun ws' ov hΦ => ?_)
      · obtain ⟨q, σ1, g1, g2, g3⟩ := ag36 S P σ (xs (x3 + (1 : Int32)).toNatClampNeg) (xs (x3 + (2 : Int32)).toNatClampNeg) hrel
        exact ⟨_, _, cc_10_compare l dC dI E ev ho ro F P S (xs (x3 + (1 : Int32)).toNatClampNeg) (xs (x3 + (2 : Int32)).toNatClampNeg) q g1 z, q, σ1, rfl, rfl, g2, g3⟩
      obtain ⟨q, σ1, rfl, rfl, g2, g3⟩ := hΦ
      refine g_aload_n X dL_law_1153 2 rfl ?_
      refine g_aload_n X dL_law_1154 0 rfl ?_
      refine g_iload_n X dL_law_1155 3 rfl ?_
      refine g_iconst X dL_law_1156 kc_1 ?_
      refine g_iadd X dL_law_1157 ?_
      refine l_sld X hX hbl hbA hin1 dL_law_1158 ?_
      refine g_aload_n X dL_law_1159 0 rfl ?_
      refine g_iload_n X dL_law_1160 3 rfl ?_
      refine g_iconst X dL_law_1161 kc_2 ?_
      refine g_iadd X dL_law_1162 ?_
      refine l_sld X hX hbl hbA hin2 dL_law_1163 ?_
      refine l_callR (rm := rm_compare) (As := [.int (xs (x3 + (1 : Int32)).toNatClampNeg), .int (xs (x3 + (2 : Int32)).toNatClampNeg)]) (st := [.int q.1]) X lk_167 ⟨0, _, rfl⟩ (cix := 11) rfl ⟨Nat.le_of_ble_eq_true rfl, Nat.le_of_ble_eq_true rfl⟩ ⟨rfl, rfl⟩ (Nat.le_of_ble_eq_true rfl) ⟨by show (110 + 17 * k) + 0 + 0 ≤ 600000; omega, by show (23187 + 900 * k) + 0 + 0 ≤ 7302250; omega⟩ (c_compare l dC dI E h r F σ (xs (x3 + (1 : Int32)).toNatClampNeg) (xs (x3 + (2 : Int32)).toNatClampNeg) (q.1, σ1) g2) dL_law_1164 ?_
      refine l_same (tgt := 1320) X dL_law_1167 (by decide) ?_
      exact g_widen ⟨by omega, by omega⟩ (hend _ _ _ g3)
    by_cases hs37 : (xs x3.toNatClampNeg &&& (63 : Int32)) = (37 : Int32)
    · refine g_tsw (tgt := 1172) (off := 1139) X dL_law_33 (by rw [hs37]; decide) (by rw [hs37]; decide) (by rw [hs37]; rfl) (by decide) ?_
      refine g_aload_n X dL_law_1172 1 rfl ?_
      refine g_aload_n X dL_law_1173 0 rfl ?_
      refine g_iload_n X dL_law_1174 3 rfl ?_
      refine g_iconst X dL_law_1175 kc_1 ?_
      refine g_iadd X dL_law_1176 ?_
      refine l_sld X hX hbl hbA hin1 dL_law_1177 ?_
      refine g_aload_n X dL_law_1178 0 rfl ?_
      refine g_iload_n X dL_law_1179 3 rfl ?_
      refine g_iconst X dL_law_1180 kc_2 ?_
      refine g_iadd X dL_law_1181 ?_
      refine l_sld X hX hbl hbA hin2 dL_law_1182 ?_
      refine l_callL (rm := rc_10_decades) (As := [.int (xs (x3 + (1 : Int32)).toNatClampNeg), .int (xs (x3 + (2 : Int32)).toNatClampNeg)]) (st := []) (mc := 0) (ms := 0) X Y (fun ws' ov => ∃ (q : Int32 × CS) (σ1 : MS), ws' = CW E ho ro q.2 ++ P ∧ ov = some (.int q.1) ∧ M_decades F σ (xs (x3 + (1 : Int32)).toNatClampNeg) (xs (x3 + (2 : Int32)).toNatClampNeg) = some (q.1, σ1) ∧ Rel q.2 P σ1) lk_168 ob_10 rfl ⟨Nat.le_of_ble_eq_true rfl, Nat.le_of_ble_eq_true rfl⟩ ⟨rfl, rfl⟩ (Nat.le_of_ble_eq_true rfl) ⟨by show (110 + 17 * k) + 0 ≤ 600000; omega, by show (23187 + 900 * k) + 0 ≤ 7302250; omega⟩ (fun z hz => ?_) dL_law_1183 (fun ws' ov hΦ => ?_)
      · obtain ⟨q, σ1, g1, g2, g3⟩ := ag37 S P σ (xs (x3 + (1 : Int32)).toNatClampNeg) (xs (x3 + (2 : Int32)).toNatClampNeg) hrel
        exact ⟨_, _, cc_10_decades l dC dI E ev ho ro F P S (xs (x3 + (1 : Int32)).toNatClampNeg) (xs (x3 + (2 : Int32)).toNatClampNeg) q g1 z, q, σ1, rfl, rfl, g2, g3⟩
      obtain ⟨q, σ1, rfl, rfl, g2, g3⟩ := hΦ
      refine g_aload_n X dL_law_1186 2 rfl ?_
      refine g_aload_n X dL_law_1187 0 rfl ?_
      refine g_iload_n X dL_law_1188 3 rfl ?_
      refine g_iconst X dL_law_1189 kc_1 ?_
      refine g_iadd X dL_law_1190 ?_
      refine l_sld X hX hbl hbA hin1 dL_law_1191 ?_
      refine g_aload_n X dL_law_1192 0 rfl ?_
      refine g_iload_n X dL_law_1193 3 rfl ?_
      refine g_iconst X dL_law_1194 kc_2 ?_
      refine g_iadd X dL_law_1195 ?_
      refine l_sld X hX hbl hbA hin2 dL_law_1196 ?_
      refine l_callR (rm := rm_decades) (As := [.int (xs (x3 + (1 : Int32)).toNatClampNeg), .int (xs (x3 + (2 : Int32)).toNatClampNeg)]) (st := [.int q.1]) X lk_171 ⟨0, _, rfl⟩ (cix := 11) rfl ⟨Nat.le_of_ble_eq_true rfl, Nat.le_of_ble_eq_true rfl⟩ ⟨rfl, rfl⟩ (Nat.le_of_ble_eq_true rfl) ⟨by show (110 + 17 * k) + 0 + 0 ≤ 600000; omega, by show (23187 + 900 * k) + 0 + 0 ≤ 7302250; omega⟩ (c_decades l dC dI E h r F σ (xs (x3 + (1 : Int32)).toNatClampNeg) (xs (x3 + (2 : Int32)).toNatClampNeg) (q.1, σ1) g2) dL_law_1197 ?_
      refine l_same (tgt := 1320) X dL_law_1200 (by decide) ?_
      exact g_widen ⟨by omega, by omega⟩ (hend _ _ _ g3)
    by_cases hs38 : (xs x3.toNatClampNeg &&& (63 : Int32)) = (38 : Int32)
    · refine g_tsw (tgt := 1205) (off := 1172) X dL_law_33 (by rw [hs38]; decide) (by rw [hs38]; decide) (by rw [hs38]; rfl) (by decide) ?_
      refine g_aload_n X dL_law_1205 1 rfl ?_
      refine g_aload_n X dL_law_1206 0 rfl ?_
      refine g_iload_n X dL_law_1207 3 rfl ?_
      refine g_iconst X dL_law_1208 kc_1 ?_
      refine g_iadd X dL_law_1209 ?_
      refine l_sld X hX hbl hbA hin1 dL_law_1210 ?_
      refine g_aload_n X dL_law_1211 0 rfl ?_
      refine g_iload_n X dL_law_1212 3 rfl ?_
      refine g_iconst X dL_law_1213 kc_2 ?_
      refine g_iadd X dL_law_1214 ?_
      refine l_sld X hX hbl hbA hin2 dL_law_1215 ?_
      refine l_callL (rm := rc_10_drawn) (As := [.int (xs (x3 + (1 : Int32)).toNatClampNeg), .int (xs (x3 + (2 : Int32)).toNatClampNeg)]) (st := []) (mc := 0) (ms := 0) X Y (fun ws' ov => ∃ (q : Int32) (σ1 : MS), ws' = CW E ho ro S ++ P ∧ ov = some (.int q) ∧ M_drawn σ (xs (x3 + (1 : Int32)).toNatClampNeg) (xs (x3 + (2 : Int32)).toNatClampNeg) = some (q, σ1) ∧ Rel S P σ1) lk_172 ob_10 rfl ⟨Nat.le_of_ble_eq_true rfl, Nat.le_of_ble_eq_true rfl⟩ ⟨rfl, rfl⟩ (Nat.le_of_ble_eq_true rfl) ⟨by show (110 + 17 * k) + 0 ≤ 600000; omega, by show (23187 + 900 * k) + 0 ≤ 7302250; omega⟩ (fun z hz => ?_) dL_law_1216 (fun ws' ov hΦ => ?_)
      · obtain ⟨q, σ1, g1, g2, g3⟩ := ag38 S P σ (xs (x3 + (1 : Int32)).toNatClampNeg) (xs (x3 + (2 : Int32)).toNatClampNeg) hrel
        exact ⟨_, _, cc_10_drawn l dC dI E ev ho ro P S (xs (x3 + (1 : Int32)).toNatClampNeg) (xs (x3 + (2 : Int32)).toNatClampNeg) q g1 z, q, σ1, rfl, rfl, g2, g3⟩
      obtain ⟨q, σ1, rfl, rfl, g2, g3⟩ := hΦ
      refine g_aload_n X dL_law_1219 2 rfl ?_
      refine g_aload_n X dL_law_1220 0 rfl ?_
      refine g_iload_n X dL_law_1221 3 rfl ?_
      refine g_iconst X dL_law_1222 kc_1 ?_
      refine g_iadd X dL_law_1223 ?_
      refine l_sld X hX hbl hbA hin1 dL_law_1224 ?_
      refine g_aload_n X dL_law_1225 0 rfl ?_
      refine g_iload_n X dL_law_1226 3 rfl ?_
      refine g_iconst X dL_law_1227 kc_2 ?_
      refine g_iadd X dL_law_1228 ?_
      refine l_sld X hX hbl hbA hin2 dL_law_1229 ?_
      refine l_callR (rm := rm_drawn) (As := [.int (xs (x3 + (1 : Int32)).toNatClampNeg), .int (xs (x3 + (2 : Int32)).toNatClampNeg)]) (st := [.int q]) X lk_175 ⟨0, _, rfl⟩ (cix := 11) rfl ⟨Nat.le_of_ble_eq_true rfl, Nat.le_of_ble_eq_true rfl⟩ ⟨rfl, rfl⟩ (Nat.le_of_ble_eq_true rfl) ⟨by show (110 + 17 * k) + 0 + 0 ≤ 600000; omega, by show (23187 + 900 * k) + 0 + 0 ≤ 7302250; omega⟩ (c_drawn l dC dI E h r σ (xs (x3 + (1 : Int32)).toNatClampNeg) (xs (x3 + (2 : Int32)).toNatClampNeg) (q, σ1) g2) dL_law_1230 ?_
      refine l_same (tgt := 1320) X dL_law_1233 (by decide) ?_
      exact g_widen ⟨by omega, by omega⟩ (hend _ _ _ g3)
    by_cases hs39 : (xs x3.toNatClampNeg &&& (63 : Int32)) = (39 : Int32)
    · refine g_tsw (tgt := 1238) (off := 1205) X dL_law_33 (by rw [hs39]; decide) (by rw [hs39]; decide) (by rw [hs39]; rfl) (by decide) ?_
      refine g_aload_n X dL_law_1238 1 rfl ?_
      refine g_aload_n X dL_law_1239 0 rfl ?_
      refine g_iload_n X dL_law_1240 3 rfl ?_
      refine g_iconst X dL_law_1241 kc_1 ?_
      refine g_iadd X dL_law_1242 ?_
      refine l_sld X hX hbl hbA hin1 dL_law_1243 ?_
      refine l_callL (rm := rk_10_image) (As := [.int (xs (x3 + (1 : Int32)).toNatClampNeg)]) (st := []) (mc := 12) (ms := 116) X Y (fun ws' ov => ∃ (q : Int32 × CS × va_W) (σ1 : MS), ws' = CW E ho ro q.2.1 ++ q.2.2 ∧ ov = some (.int q.1) ∧ M_image F σ (xs (x3 + (1 : Int32)).toNatClampNeg) = some (q.1, σ1) ∧ Rel q.2.1 q.2.2 σ1) lk_176 ob_10 rfl ⟨Nat.le_of_ble_eq_true rfl, Nat.le_of_ble_eq_true rfl⟩ ⟨rfl, rfl⟩ (Nat.le_of_ble_eq_true rfl) ⟨by show (110 + 17 * k) + 12 ≤ 600000; omega, by show (23187 + 900 * k) + 116 ≤ 7302250; omega⟩ (fun z hz => ?_) dL_law_1244 (fun ws' ov hΦ => ?_)
      · obtain ⟨q, σ1, g1, g2, g3⟩ := ag39 S P σ z (xs (x3 + (1 : Int32)).toNatClampNeg) hrel (fun k q hq => hz _ q (papp hq))
        exact ⟨_, _, cm_10_image l dC dI E ev ho ro F z P S (xs (x3 + (1 : Int32)).toNatClampNeg) q g1, q, σ1, rfl, rfl, g2, g3⟩
      obtain ⟨q, σ1, rfl, rfl, g2, g3⟩ := hΦ
      refine g_aload_n X dL_law_1247 2 rfl ?_
      refine g_aload_n X dL_law_1248 0 rfl ?_
      refine g_iload_n X dL_law_1249 3 rfl ?_
      refine g_iconst X dL_law_1250 kc_1 ?_
      refine g_iadd X dL_law_1251 ?_
      refine l_sld X hX hbl hbA hin1 dL_law_1252 ?_
      refine l_callR (rm := rm_image) (As := [.int (xs (x3 + (1 : Int32)).toNatClampNeg)]) (st := [.int q.1]) X lk_179 ⟨0, _, rfl⟩ (cix := 11) rfl ⟨Nat.le_of_ble_eq_true rfl, Nat.le_of_ble_eq_true rfl⟩ ⟨rfl, rfl⟩ (Nat.le_of_ble_eq_true rfl) ⟨by show (110 + 17 * k) + 12 + 0 ≤ 600000; omega, by show (23187 + 900 * k) + 116 + 0 ≤ 7302250; omega⟩ (c_image l dC dI E h r F σ (xs (x3 + (1 : Int32)).toNatClampNeg) (q.1, σ1) g2) dL_law_1253 ?_
      refine l_same (tgt := 1320) X dL_law_1256 (by decide) ?_
      exact g_widen ⟨by omega, by omega⟩ (hend _ _ _ g3)
    by_cases hs40 : (xs x3.toNatClampNeg &&& (63 : Int32)) = (40 : Int32)
    · refine g_tsw (tgt := 1261) (off := 1228) X dL_law_33 (by rw [hs40]; decide) (by rw [hs40]; decide) (by rw [hs40]; rfl) (by decide) ?_
      refine g_aload_n X dL_law_1261 1 rfl ?_
      refine g_aload_n X dL_law_1262 0 rfl ?_
      refine g_iload_n X dL_law_1263 3 rfl ?_
      refine g_iconst X dL_law_1264 kc_1 ?_
      refine g_iadd X dL_law_1265 ?_
      refine l_sld X hX hbl hbA hin1 dL_law_1266 ?_
      refine l_callL (rm := rc_10_back) (As := [.int (xs (x3 + (1 : Int32)).toNatClampNeg)]) (st := []) (mc := 0) (ms := 0) X Y (fun ws' ov => ∃ (q : Int32 × CS) (σ1 : MS), ws' = CW E ho ro q.2 ++ P ∧ ov = some (.int q.1) ∧ M_back F σ (xs (x3 + (1 : Int32)).toNatClampNeg) = some (q.1, σ1) ∧ Rel q.2 P σ1) lk_180 ob_10 rfl ⟨Nat.le_of_ble_eq_true rfl, Nat.le_of_ble_eq_true rfl⟩ ⟨rfl, rfl⟩ (Nat.le_of_ble_eq_true rfl) ⟨by show (110 + 17 * k) + 0 ≤ 600000; omega, by show (23187 + 900 * k) + 0 ≤ 7302250; omega⟩ (fun z hz => ?_) dL_law_1267 (fun ws' ov hΦ => ?_)
      · obtain ⟨q, σ1, g1, g2, g3⟩ := ag40 S P σ (xs (x3 + (1 : Int32)).toNatClampNeg) hrel
        exact ⟨_, _, cc_10_back l dC dI E ev ho ro F P S (xs (x3 + (1 : Int32)).toNatClampNeg) q g1 z, q, σ1, rfl, rfl, g2, g3⟩
      obtain ⟨q, σ1, rfl, rfl, g2, g3⟩ := hΦ
      refine g_aload_n X dL_law_1270 2 rfl ?_
      refine g_aload_n X dL_law_1271 0 rfl ?_
      refine g_iload_n X dL_law_1272 3 rfl ?_
      refine g_iconst X dL_law_1273 kc_1 ?_
      refine g_iadd X dL_law_1274 ?_
      refine l_sld X hX hbl hbA hin1 dL_law_1275 ?_
      refine l_callR (rm := rm_back) (As := [.int (xs (x3 + (1 : Int32)).toNatClampNeg)]) (st := [.int q.1]) X lk_183 ⟨0, _, rfl⟩ (cix := 11) rfl ⟨Nat.le_of_ble_eq_true rfl, Nat.le_of_ble_eq_true rfl⟩ ⟨rfl, rfl⟩ (Nat.le_of_ble_eq_true rfl) ⟨by show (110 + 17 * k) + 0 + 0 ≤ 600000; omega, by show (23187 + 900 * k) + 0 + 0 ≤ 7302250; omega⟩ (c_back l dC dI E h r F σ (xs (x3 + (1 : Int32)).toNatClampNeg) (q.1, σ1) g2) dL_law_1276 ?_
      refine l_same (tgt := 1320) X dL_law_1279 (by decide) ?_
      exact g_widen ⟨by omega, by omega⟩ (hend _ _ _ g3)
    by_cases hs41 : (xs x3.toNatClampNeg &&& (63 : Int32)) = (41 : Int32)
    · refine g_tsw (tgt := 1284) (off := 1251) X dL_law_33 (by rw [hs41]; decide) (by rw [hs41]; decide) (by rw [hs41]; rfl) (by decide) ?_
      refine g_aload_n X dL_law_1284 1 rfl ?_
      refine g_aload_n X dL_law_1285 0 rfl ?_
      refine g_iload_n X dL_law_1286 3 rfl ?_
      refine g_iconst X dL_law_1287 kc_1 ?_
      refine g_iadd X dL_law_1288 ?_
      refine l_sld X hX hbl hbA hin1 dL_law_1289 ?_
      refine l_callL (rm := rc_10_count) (As := [.int (xs (x3 + (1 : Int32)).toNatClampNeg)]) (st := []) (mc := 0) (ms := 0) X Y (fun ws' ov => ∃ (q : Int32) (σ1 : MS), ws' = CW E ho ro S ++ P ∧ ov = some (.int q) ∧ M_count F σ (xs (x3 + (1 : Int32)).toNatClampNeg) = some (q, σ1) ∧ Rel S P σ1) lk_184 ob_10 rfl ⟨Nat.le_of_ble_eq_true rfl, Nat.le_of_ble_eq_true rfl⟩ ⟨rfl, rfl⟩ (Nat.le_of_ble_eq_true rfl) ⟨by show (110 + 17 * k) + 0 ≤ 600000; omega, by show (23187 + 900 * k) + 0 ≤ 7302250; omega⟩ (fun z hz => ?_) dL_law_1290 (fun ws' ov hΦ => ?_)
      · obtain ⟨q, σ1, g1, g2, g3⟩ := ag41 S P σ (xs (x3 + (1 : Int32)).toNatClampNeg) hrel
        exact ⟨_, _, cc_10_count l dC dI E ev ho ro F P S (xs (x3 + (1 : Int32)).toNatClampNeg) q g1 z, q, σ1, rfl, rfl, g2, g3⟩
      obtain ⟨q, σ1, rfl, rfl, g2, g3⟩ := hΦ
      refine g_aload_n X dL_law_1293 2 rfl ?_
      refine g_aload_n X dL_law_1294 0 rfl ?_
      refine g_iload_n X dL_law_1295 3 rfl ?_
      refine g_iconst X dL_law_1296 kc_1 ?_
      refine g_iadd X dL_law_1297 ?_
      refine l_sld X hX hbl hbA hin1 dL_law_1298 ?_
      refine l_callR (rm := rm_count) (As := [.int (xs (x3 + (1 : Int32)).toNatClampNeg)]) (st := [.int q]) X lk_187 ⟨0, _, rfl⟩ (cix := 11) rfl ⟨Nat.le_of_ble_eq_true rfl, Nat.le_of_ble_eq_true rfl⟩ ⟨rfl, rfl⟩ (Nat.le_of_ble_eq_true rfl) ⟨by show (110 + 17 * k) + 0 + 0 ≤ 600000; omega, by show (23187 + 900 * k) + 0 + 0 ≤ 7302250; omega⟩ (c_count l dC dI E h r F σ (xs (x3 + (1 : Int32)).toNatClampNeg) (q, σ1) g2) dL_law_1299 ?_
      refine l_same (tgt := 1320) X dL_law_1302 (by decide) ?_
      exact g_widen ⟨by omega, by omega⟩ (hend _ _ _ g3)
    by_cases hs42 : (xs x3.toNatClampNeg &&& (63 : Int32)) = (42 : Int32)
    · refine g_tsw (tgt := 1307) (off := 1274) X dL_law_33 (by rw [hs42]; decide) (by rw [hs42]; decide) (by rw [hs42]; rfl) (by decide) ?_
      refine g_aload_n X dL_law_1307 1 rfl ?_
      refine l_callL (rm := rc_10_status) (As := []) (st := []) (mc := 0) (ms := 0) X Y (fun ws' ov => ∃ (q : Int32) (σ1 : MS), ws' = CW E ho ro S ++ P ∧ ov = some (.int q) ∧ M_status σ  = some (q, σ1) ∧ Rel S P σ1) lk_188 ob_10 rfl ⟨Nat.le_of_ble_eq_true rfl, Nat.le_of_ble_eq_true rfl⟩ ⟨rfl, rfl⟩ (Nat.le_of_ble_eq_true rfl) ⟨by show (110 + 17 * k) + 0 ≤ 600000; omega, by show (23187 + 900 * k) + 0 ≤ 7302250; omega⟩ (fun z hz => ?_) dL_law_1308 (fun ws' ov hΦ => ?_)
      · obtain ⟨q, σ1, g1, g2, g3⟩ := ag42 S P σ  hrel
        exact ⟨_, _, cc_10_status l dC dI E ev ho ro P S  q g1 z, q, σ1, rfl, rfl, g2, g3⟩
      obtain ⟨q, σ1, rfl, rfl, g2, g3⟩ := hΦ
      refine g_aload_n X dL_law_1311 2 rfl ?_
      refine l_callR (rm := rm_status) (As := []) (st := [.int q]) X lk_191 ⟨0, _, rfl⟩ (cix := 11) rfl ⟨Nat.le_of_ble_eq_true rfl, Nat.le_of_ble_eq_true rfl⟩ ⟨rfl, rfl⟩ (Nat.le_of_ble_eq_true rfl) ⟨by show (110 + 17 * k) + 0 + 0 ≤ 600000; omega, by show (23187 + 900 * k) + 0 + 0 ≤ 7302250; omega⟩ (c_status l dC dI E h r σ  (q, σ1) g2) dL_law_1312 ?_
      refine l_same (tgt := 1320) X dL_law_1315 (by decide) ?_
      exact g_widen ⟨by omega, by omega⟩ (hend _ _ _ g3)
    refine g_tswO (tgt := 1320) X dL_law_33 (g_out0_42 (lv_neT hs0 (by decide)) (lv_neT hs1 (by decide)) (lv_neT hs2 (by decide)) (lv_neT hs3 (by decide)) (lv_neT hs4 (by decide)) (lv_neT hs5 (by decide)) (lv_neT hs6 (by decide)) (lv_neT hs7 (by decide)) (lv_neT hs8 (by decide)) (lv_neT hs9 (by decide)) (lv_neT hs10 (by decide)) (lv_neT hs11 (by decide)) (lv_neT hs12 (by decide)) (lv_neT hs13 (by decide)) (lv_neT hs14 (by decide)) (lv_neT hs15 (by decide)) (lv_neT hs16 (by decide)) (lv_neT hs17 (by decide)) (lv_neT hs18 (by decide)) (lv_neT hs19 (by decide)) (lv_neT hs20 (by decide)) (lv_neT hs21 (by decide)) (lv_neT hs22 (by decide)) (lv_neT hs23 (by decide)) (lv_neT hs24 (by decide)) (lv_neT hs25 (by decide)) (lv_neT hs26 (by decide)) (lv_neT hs27 (by decide)) (lv_neT hs28 (by decide)) (lv_neT hs29 (by decide)) (lv_neT hs30 (by decide)) (lv_neT hs31 (by decide)) (lv_neT hs32 (by decide)) (lv_neT hs33 (by decide)) (lv_neT hs34 (by decide)) (lv_neT hs35 (by decide)) (lv_neT hs36 (by decide)) (lv_neT hs37 (by decide)) (lv_neT hs38 (by decide)) (lv_neT hs39 (by decide)) (lv_neT hs40 (by decide)) (lv_neT hs41 (by decide)) (lv_neT hs42 (by decide))) (by decide) ?_
    exact g_widen ⟨by omega, by omega⟩ (hend _ _ _ hrel)
