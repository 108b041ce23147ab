theorem wd1_22 : (Jvm.Cond.instantiable "LostLanes" (18 : Nat)) ∈ TG := TG_of (tin1 (List.mem_of_getElem? (i := 22) rfl)) rfl
theorem wd5_119 : (Jvm.Cond.instantiable "LostLanesModel" (58 : Nat)) ∈ TG := TG_of (tin5 (List.mem_of_getElem? (i := 119) rfl)) rfl
theorem wd1_25 : (Jvm.Cond.code ({ cls := "LostLanes", name := "<init>", desc := "()V" } : Jvm.MethodName) prog_1_method_1_code (1 : Nat) (Option.none : Option Jvm.ClassFile.FieldType)) ∈ TG := TG_of (tin1 (List.mem_of_getElem? (i := 25) rfl)) rfl
theorem wd1_23 : (Jvm.Cond.methodLink "LostLanesLaw" (9 : Nat) ({ cls := "LostLanes", name := "<init>", desc := "()V" } : Jvm.MethodName)) ∈ TG := TG_of (tin1 (List.mem_of_getElem? (i := 23) rfl)) rfl
theorem wd1_24 : (Jvm.Cond.instanceMethod ({ cls := "LostLanes", name := "<init>", desc := "()V" } : Jvm.MethodName)) ∈ TG := TG_of (tin1 (List.mem_of_getElem? (i := 24) rfl)) rfl
theorem wd5_122 : (Jvm.Cond.code ({ cls := "LostLanesModel", name := "<init>", desc := "()V" } : Jvm.MethodName) prog_13_method_1_code (1 : Nat) (Option.none : Option Jvm.ClassFile.FieldType)) ∈ TG := TG_of (tin5 (List.mem_of_getElem? (i := 122) rfl)) rfl
theorem wd5_120 : (Jvm.Cond.methodLink "LostLanesLaw" (12 : Nat) ({ cls := "LostLanesModel", name := "<init>", desc := "()V" } : Jvm.MethodName)) ∈ TG := TG_of (tin5 (List.mem_of_getElem? (i := 120) rfl)) rfl
theorem wd5_121 : (Jvm.Cond.instanceMethod ({ cls := "LostLanesModel", name := "<init>", desc := "()V" } : Jvm.MethodName)) ∈ TG := TG_of (tin5 (List.mem_of_getElem? (i := 121) rfl)) rfl
theorem wd1_21 : (Jvm.Cond.classLink "LostLanesLaw" (7 : Nat) "LostLanes") ∈ TG := TG_of (tin1 (List.mem_of_getElem? (i := 21) rfl)) rfl
theorem wd5_118 : (Jvm.Cond.classLink "LostLanesLaw" (10 : Nat) "LostLanesModel") ∈ TG := TG_of (tin5 (List.mem_of_getElem? (i := 118) rfl)) rfl
section SRows
variable {p : Program} {l : Launch} {e : Env} {R : Room} {s : State} {m : MethodId} {args : Array Value} {below : List Frame} {meth : Method} {c : Code} {dC : Nat → ClassId} {dI : Nat → Nat → Nat} {E : Nat → ClassId} {A : Nat → Prop} {own : String} {cc : ByteArray} {nL cells slots : Nat} {w0 : Cond} {Q : State → Prop} {ws : va_W} {pc : Nat} {lv : List (Nat × Value)} {st : List Value}
variable {W0 L L0 L' : va_W} {ev : Nat → Nat}
theorem i_callI (X : gX p s m args c dC dI E A own cc nL w0) (Y : envC ev A s) {y : MethodName} {b : ByteArray} {n idx mc ms q cix : Nat} {rm : Room} {fs : List Value} {XC : Nat → (Nat → Nat) → va_W} (hf : cIf own idx y b n 0) (hM : CK l dC dI E ev y b n rm (W0 ++ L0) q cix fs XC mc ms) (hR : rm.frames + 1 ≤ R.frames ∧ 8 + (n + 11) + rm.locals ≤ R.locals) (hrm : rm.cells = mc ∧ rm.slots = ms) (hst : (st.map fun v => v.category).sum ≤ 8) (hroom : cells + mc ≤ R.cells ∧ slots + ms ≤ R.slots) (hL : L = L0 ++ [(q, .inr (cix, fs))]) (hd : decode cc pc = .ok (.invokespecial idx, 3)) (kk : ∀ r, GG p l e R s m args below meth c dC dI A nL (cells + mc) (slots + ms) Q (W0 ++ (L0 ++ XC q r)) (pc + 3) lv st) : GG p l e R s m args below meth c dC dI A nL cells slots Q (W0 ++ L) pc lv (.ref q :: st) := by
  subst hL
  intro H locs ls hP hD hS hl
  rw [← List.append_assoc] at hP hD
  have hFc := g_free X hD hS
  have hrun := va_runI (l := l) (e := e) (below := below) (meth := meth) (locs := locs) (cells := cells) (slots := slots) (As := []) (rest := st) (g := F0 m pc ls (.ref q :: st)) ⟨X.1, X.2.1, X.2.2.1, X.2.2.2.1, X.2.2.2.2.1⟩ (hM H.size) (cwI 0 X.2.2.2.2.1 (TG_goodC hf.1) rfl hrm.1 hrm.2 (X.word hf.2.2.2.1) (X.word hf.2.1) (X.word hf.2.2.1) hf.2.2.2.2.1 hf.2.2.2.2.2 hR) ⟨cPc_blind, fun U hU hW => ⟨rfl, by rw [hU], by rw [hU]; exact hP, va_K.moved hW.alike X.2.2.2.2.2.1, hD.weaken (fun _ _ _ _ => trivial), Y.to (g_free X hD hS) hS hU hW⟩⟩ rfl rfl hl.1 rfl (lv_room hst) hd hroom
  intro T hT XS
  obtain ⟨v, st₀, t, T', L9, h0, X', hL, e1, e2, ⟨⟨r, hv, hP1, hD1⟩, hz, hk⟩, stp⟩ := hrun T hT XS
  cases hv
  rw [h0] at hz hk
  obtain ⟨t2, a1, b1⟩ := kk r T'.heap (locs ++ L9) ls (by rw [e1, ← List.append_assoc]; exact hP1) (by rw [← List.append_assoc]; exact hD1.weaken (fun _ q _ h => hFc q.1 h))
    ⟨Nat.le_trans hS.1 (by rw [e1]; exact hz), fun q h1 h2 => by rw [e1, hk q (Nat.lt_of_lt_of_le h1 hS.1) (fun z => h2 (hFc q z))]; exact hS.2.1 q h1 h2, fun q hq => by
      rcases List.mem_append.mp hq with h | h
      · exact hS.2.2 q h
      · exact hFc _ (hL q h)⟩ hl T' rfl X'
  exact ⟨t2, stp t2 a1, b1⟩
theorem g_part {cx pl : va_W} (is : List Nat) (hn : va_nd is = true) (hs : is.map (fun i => L[i]?) = cx.map some) (k : GG p l e R s m args below meth c dC dI A nL cells slots Q (cx ++ pl) pc lv st) : GG p l e R s m args below meth c dC dI A nL cells slots Q (L ++ pl) pc lv st := fun H locs ls hP hD hS hl => k H locs ls (hP.part is hs) (hD.part is hn hs) hS hl
end SRows
theorem st_K {s : State} {args : Array Value} (hts : ∀ w ∈ lw_tbl, w.before args s = true) : ∃ (dC : Nat → ClassId) (dI : Nat → Nat → Nat) (E : Nat → ClassId), va_K (dC, dI) vwCl (tysE E) s := by
  have ht : ∀ w ∈ TG, w.before args s = true := fun w hw => hts w (List.mem_filter.mp hw).1
  obtain ⟨c0, i0, k0⟩ := u_known ht u_in0 (ht _ wd3_125)
  obtain ⟨c1, i1, k1⟩ := u_known ht u_in1 (ht _ wd1_127)
  obtain ⟨c2, i2, k2⟩ := u_known ht u_in2 (ht _ wd2_22)
  obtain ⟨c3, i3, k3⟩ := u_known ht u_in3 (ht _ wd1_144)
  obtain ⟨c4, i4, k4⟩ := u_known ht u_in4 (ht _ wd1_209)
  obtain ⟨c5, i5, k5⟩ := u_known ht u_in5 (ht _ wd3_38)
  obtain ⟨c6, i6, k6⟩ := u_known ht u_in6 (ht _ wd1_150)
  obtain ⟨c7, i7, k7⟩ := u_known ht u_in7 (ht _ wd1_30)
  obtain ⟨c8, i8, k8⟩ := u_known ht u_in8 (ht _ wd1_239)
  obtain ⟨c9, i9, k9⟩ := u_known ht u_in9 (ht _ wd1_203)
  obtain ⟨c10, i10, k10⟩ := u_known ht u_in10 (ht _ wd1_22)
  obtain ⟨c11, i11, k11⟩ := u_known ht mu_in (ht _ wd5_119)
  obtain ⟨a0, ka0, cp0, x0, y0, z0⟩ := Cond.arrayClass_spec (type := .int) (o := none) (idx := []) (first := s) (args := args) (s := s) (ht _ wd1_124)
  obtain ⟨a1, ka1, cp1, x1, y1, z1⟩ := Cond.arrayClass_spec (type := .long) (o := none) (idx := []) (first := s) (args := args) (s := s) (ht _ wd2_105)
  obtain ⟨a2, ka2, cp2, x2, y2, z2⟩ := Cond.arrayClass_spec (type := .boolean) (o := none) (idx := []) (first := s) (args := args) (s := s) (ht _ wd6_81)
  obtain ⟨cp3, a3, ka3, x3, -, y3, z3, v3⟩ := Cond.arrayOver_spec (n := "LostLanes$Script") (o := none) (idx := []) (first := s) (args := args) (s := s) (hts (Jvm.Cond.arrayOver (Jvm.ClassFile.FieldType.object "LostLanes$Script")) (tin1 (List.mem_of_getElem? (i := 36) rfl)))
  obtain ⟨cp4, a4, ka4, x4, -, y4, z4, v4⟩ := Cond.arrayOver_spec (n := "LostLanes$Clause") (o := none) (idx := []) (first := s) (args := args) (s := s) (hts (Jvm.Cond.arrayOver (Jvm.ClassFile.FieldType.object "LostLanes$Clause")) (tin3 (List.mem_of_getElem? (i := 44) rfl)))
  obtain ⟨cp5, a5, ka5, x5, -, y5, z5, v5⟩ := Cond.arrayOver_spec (n := "LostLanes$Town") (o := none) (idx := []) (first := s) (args := args) (s := s) (hts (Jvm.Cond.arrayOver (Jvm.ClassFile.FieldType.object "LostLanes$Town")) (tin1 (List.mem_of_getElem? (i := 125) rfl)))
  refine ⟨fun k => ([c0, c1, c2, c3, c4, c5, c6, c7, c8, c9, c10, c11] : List ClassId).getD k c0, fun k => ([i0, i1, i2, i3, i4, i5, i6, i7, i8, i9, i10, i11] : List (Nat → Nat)).getD k i0, fun k => ([a0, a1, a2, a3, a4, a5] : List ClassId).getD k a0, ?_, ?_⟩
  · intro c q hq
    match c, hq with
    | 0, hq => cases hq; exact k0
    | 1, hq => cases hq; exact k1
    | 2, hq => cases hq; exact k2
    | 3, hq => cases hq; exact k3
    | 4, hq => cases hq; exact k4
    | 5, hq => cases hq; exact k5
    | 6, hq => cases hq; exact k6
    | 7, hq => cases hq; exact k7
    | 8, hq => cases hq; exact k8
    | 9, hq => cases hq; exact k9
    | 10, hq => cases hq; exact k10
    | 11, hq => cases hq; exact k11
    | c + 12, hq => cases hq
  · intro c q hq
    match c, hq with
    | 0, hq => cases hq; exact ⟨fun N z => ⟨(fun k h => by cases h), ka0, y0, cp0, z0⟩, x0⟩
    | 1, hq => cases hq; exact ⟨fun N z => ⟨(fun k h => by cases h), ka1, y1, cp1, z1⟩, x1⟩
    | 2, hq => cases hq; exact ⟨fun N z => ⟨(fun k h => by cases h), ka2, y2, cp2, z2⟩, x2⟩
    | 3, hq => cases hq; exact ⟨fun N z => ⟨(fun k h => by cases h), ka3, y3, cp3, z3⟩, ka3, cp3, y3, z3, x3, v3⟩
    | 4, hq => cases hq; exact ⟨fun N z => ⟨(fun k h => by cases h), ka4, y4, cp4, z4⟩, ka4, cp4, y4, z4, x4, v4⟩
    | 5, hq => cases hq; exact ⟨fun N z => ⟨(fun k h => by cases h), ka5, y5, cp5, z5⟩, ka5, cp5, y5, z5, x5, v5⟩
    | c + 6, hq => cases hq
def st_k (i : Nat) : Nat := ([70, 72, 155, 157, 89, 98, 109, 141, 139, 124] : List Nat).getD i 0
theorem st_ex : ∀ i, i < 10 → Cond.exactly (Term.string "LostLanes$Reader" (st_k i)) "java/lang/String" ∈ flatC (Jvm.Cond.and given_1 narrow_1) := by decide +kernel
theorem st_co : ∀ i, i < 10 → Cond.eq (.field (Term.string "LostLanes$Reader" (st_k i)) "java/lang/String" "coder" "B") (.int 0) ∈ flatC (Jvm.Cond.and given_1 narrow_1) := by decide +kernel
theorem st_ar : ∀ i, i < 10 → Cond.arrayOf (.field (Term.string "LostLanes$Reader" (st_k i)) "java/lang/String" "value" "[B") .byte ∈ flatC (Jvm.Cond.and given_1 narrow_1) := by decide +kernel
theorem st_le : ∀ i, i < 10 → Cond.eq (.length (.field (Term.string "LostLanes$Reader" (st_k i)) "java/lang/String" "value" "[B")) (.int (Int32.ofNat (lenC.getD i 0))) ∈ flatC (Jvm.Cond.and given_1 narrow_1) := by decide +kernel
theorem st_el : ∀ i, i < 10 → ∀ j, j < lenC.getD i 0 → Cond.eq (.elem (.field (Term.string "LostLanes$Reader" (st_k i)) "java/lang/String" "value" "[B") (.int (Int32.ofNat j))) (.int ((bytC.getD i []).getD j 0)) ∈ flatC (Jvm.Cond.and given_1 narrow_1) := by decide +kernel
theorem st_ne : ∀ i, i < 10 → ∀ j, j < 10 → i ≠ j → Cond.not (Cond.eq (Term.string "LostLanes$Reader" (st_k i)) (Term.string "LostLanes$Reader" (st_k j))) ∈ flatC (Jvm.Cond.and given_1 narrow_1) ∨ Cond.not (Cond.eq (Term.string "LostLanes$Reader" (st_k j)) (Term.string "LostLanes$Reader" (st_k i))) ∈ flatC (Jvm.Cond.and given_1 narrow_1) := by decide +kernel
theorem st_te : ∀ j, j < 3 → Cond.eq (.elem (.static "LostLanes" "MOST_OF_TERM" "[I") (.int (Int32.ofNat j))) (.int (mtF j)) ∈ flatC (Jvm.Cond.and given_1 narrow_1) := by decide +kernel
theorem st_env {s : State} {args : Array Value} (hts : ∀ w ∈ lw_tbl, w.before args s = true) (hgv : (Jvm.Cond.and given_1 narrow_1).before args s = true) : ∃ ev : Nat → Nat, envC ev (fun q : Nat => s.heap.size ≤ q) s := by
  have ht : ∀ w ∈ TG, w.before args s = true := fun w hw => hts w (List.mem_filter.mp hw).1
  have hq := flat_of_before _ hgv
  have hA : ∀ a : Nat, a < s.heap.size → ¬ (fun q : Nat => s.heap.size ≤ q) a := fun a h => Nat.not_le.mpr h
  obtain ⟨adK, adV, hS, hK⟩ := vk_Sof (args := args) (s := s) (N := 10) (tm := fun i => .string "LostLanes$Reader" (st_k i)) (len := lenC) (byt := bytC) (A := fun q : Nat => s.heap.size ≤ q) (by decide) (fun i hi => hq _ (st_ex i hi)) (fun i hi => hq _ (st_co i hi)) (fun i hi => hq _ (st_ar i hi)) (fun i hi => hq _ (st_le i hi)) (fun i hi j hj => hq _ (st_el i hi j hj)) (fun i j hi hj hij => (st_ne i hi j hj hij).imp (hq _) (hq _)) hA
  obtain ⟨t, hte, hT⟩ := va_Tof (args := args) (s := s) (tm := .static "LostLanes" "MOST_OF_TERM" "[I") (ty := .int) (N := 3) (f := fun j => .int (mtF j)) (A := fun q : Nat => s.heap.size ≤ q) (by decide) (hq _ (by decide +kernel)) (va_eqt (hq (Cond.eq (.length (.static "LostLanes" "MOST_OF_TERM" "[I")) (.int 3)) (by decide +kernel))) (fun j hj => va_eqt (hq _ (st_te j hj))) hA
  refine ⟨fun k => if k = 0 then t else if k % 2 = 0 then adK (k / 2 - 1) else adV (k / 2 - 1), ?_, ?_, ?_, ?_, ?_, ?_, ?_, ?_, ?_, ?_⟩
  · exact List.forall_mem_cons.mpr ⟨va_Nw.of rfl (hts (Jvm.Cond.methodLinkNest "LostLanes" (11 : Nat) ({ cls := "LostLanes$Town", name := "<init>", desc := "()V" } : Jvm.MethodName) "LostLanes") (tin1 (List.mem_of_getElem? (i := 31) rfl))), List.forall_mem_cons.mpr ⟨va_Nw.of rfl (hts (Jvm.Cond.methodLinkNest "LostLanes" (28 : Nat) ({ cls := "LostLanes$Log", name := "<init>", desc := "()V" } : Jvm.MethodName) "LostLanes") (tin1 (List.mem_of_getElem? (i := 128) rfl))), List.forall_mem_cons.mpr ⟨va_Nw.of rfl (hts (Jvm.Cond.methodLinkNest "LostLanes" (38 : Nat) ({ cls := "LostLanes$Reader", name := "<init>", desc := "()V" } : Jvm.MethodName) "LostLanes") (tin1 (List.mem_of_getElem? (i := 145) rfl))), List.forall_mem_cons.mpr ⟨va_Nw.of rfl (hts (Jvm.Cond.methodLinkNest "LostLanes$Reader" (11 : Nat) ({ cls := "LostLanes$Tape", name := "<init>", desc := "()V" } : Jvm.MethodName) "LostLanes") (tin1 (List.mem_of_getElem? (i := 151) rfl))), List.forall_mem_cons.mpr ⟨va_Nw.of rfl (hts (Jvm.Cond.methodLinkNest "LostLanes" (50 : Nat) ({ cls := "LostLanes$Wits", name := "<init>", desc := "()V" } : Jvm.MethodName) "LostLanes") (tin1 (List.mem_of_getElem? (i := 204) rfl))), List.forall_mem_cons.mpr ⟨va_Nw.of rfl (hts (Jvm.Cond.methodLinkNest "LostLanes$Wits" (11 : Nat) ({ cls := "LostLanes$Reckoner", name := "<init>", desc := "()V" } : Jvm.MethodName) "LostLanes") (tin1 (List.mem_of_getElem? (i := 210) rfl))), List.forall_mem_cons.mpr ⟨va_Nw.of rfl (hts (Jvm.Cond.methodLinkNest "LostLanes$Wits" (20 : Nat) ({ cls := "LostLanes$Town", name := "<init>", desc := "()V" } : Jvm.MethodName) "LostLanes") (tin1 (List.mem_of_getElem? (i := 219) rfl))), List.forall_mem_cons.mpr ⟨va_Nw.of rfl (hts (Jvm.Cond.methodLinkNest "LostLanes" (62 : Nat) ({ cls := "LostLanes$Ways", name := "<init>", desc := "()V" } : Jvm.MethodName) "LostLanes") (tin2 (List.mem_of_getElem? (i := 0) rfl))), List.forall_mem_cons.mpr ⟨va_Nw.of rfl (hts (Jvm.Cond.methodLinkNest "LostLanes" (69 : Nat) ({ cls := "LostLanes$Plates", name := "<init>", desc := "()V" } : Jvm.MethodName) "LostLanes") (tin2 (List.mem_of_getElem? (i := 23) rfl))), List.forall_mem_cons.mpr ⟨va_Nw.of rfl (hts (Jvm.Cond.methodLinkNest "LostLanes$Reader" (47 : Nat) ({ cls := "LostLanes$Script", name := "<init>", desc := "()V" } : Jvm.MethodName) "LostLanes") (tin3 (List.mem_of_getElem? (i := 39) rfl))), List.forall_mem_cons.mpr ⟨va_Nw.of rfl (hts (Jvm.Cond.methodLinkNest "LostLanes$Ways" (72 : Nat) ({ cls := "LostLanes", name := "isCorner", desc := "(I)Z" } : Jvm.MethodName) "LostLanes") (tin4 (List.mem_of_getElem? (i := 154) rfl))), List.forall_mem_cons.mpr ⟨va_Nw.of rfl (hts (Jvm.Cond.methodLinkNest "LostLanes$Plates" (79 : Nat) ({ cls := "LostLanes", name := "isCorner", desc := "(I)Z" } : Jvm.MethodName) "LostLanes") (tin4 (List.mem_of_getElem? (i := 235) rfl))), List.forall_mem_nil _⟩⟩⟩⟩⟩⟩⟩⟩⟩⟩⟩⟩
  · have e1 : (fun i => (fun k => if k = 0 then t else if k % 2 = 0 then adK (k / 2 - 1) else adV (k / 2 - 1)) (2 * i + 2)) = adK := by
      funext i
      show (if 2 * i + 2 = 0 then t else if (2 * i + 2) % 2 = 0 then adK ((2 * i + 2) / 2 - 1) else adV ((2 * i + 2) / 2 - 1)) = adK i
      rw [if_neg (by omega), if_pos (by omega), show (2 * i + 2) / 2 - 1 = i by omega]
    have e2 : (fun i => (fun k => if k = 0 then t else if k % 2 = 0 then adK (k / 2 - 1) else adV (k / 2 - 1)) (2 * i + 3)) = adV := by
      funext i
      show (if 2 * i + 3 = 0 then t else if (2 * i + 3) % 2 = 0 then adK ((2 * i + 3) / 2 - 1) else adV ((2 * i + 3) / 2 - 1)) = adV i
      rw [if_neg (by omega), if_neg (by omega), show (2 * i + 3) / 2 - 1 = i by omega]
    rw [e1, e2]; exact hS
  · intro i q hi
    match i, hi with
    | 0, hi => cases hi; exact vk_R.of (hts (Jvm.Cond.stringRef "LostLanes$Reader" (70 : Nat) "turns says bars") (tin3 (List.mem_of_getElem? (i := 66) rfl))) (hK 0 (by decide))
    | 1, hi => cases hi; exact vk_R.of (hts (Jvm.Cond.stringRef "LostLanes$Reader" (72 : Nat) "wander cry lead pass") (tin3 (List.mem_of_getElem? (i := 67) rfl))) (hK 1 (by decide))
    | 2, hi => cases hi; exact vk_R.of (hts (Jvm.Cond.stringRef "LostLanes$Reader" (155 : Nat) "child age lane long sight corner last hour mood") (tin3 (List.mem_of_getElem? (i := 196) rfl))) (hK 2 (by decide))
    | 3, hi => cases hi; exact vk_R.of (hts (Jvm.Cond.stringRef "LostLanes$Reader" (157 : Nat) "hour done latest named kids at plate") (tin3 (List.mem_of_getElem? (i := 197) rfl))) (hK 3 (by decide))
    | 4, hi => cases hi; exact vk_R.of (hts (Jvm.Cond.stringRef "LostLanes$Reader" (89 : Nat) "to") (tin3 (List.mem_of_getElem? (i := 202) rfl))) (hK 4 (by decide))
    | 5, hi => cases hi; exact vk_R.of (hts (Jvm.Cond.stringRef "LostLanes$Reader" (98 : Nat) "times") (tin3 (List.mem_of_getElem? (i := 207) rfl))) (hK 5 (by decide))
    | 6, hi => cases hi; exact vk_R.of (hts (Jvm.Cond.stringRef "LostLanes$Reader" (109 : Nat) "if") (tin3 (List.mem_of_getElem? (i := 208) rfl))) (hK 6 (by decide))
    | 7, hi => cases hi; exact vk_R.of (hts (Jvm.Cond.stringRef "LostLanes$Reader" (141 : Nat) "not") (tin3 (List.mem_of_getElem? (i := 221) rfl))) (hK 7 (by decide))
    | 8, hi => cases hi; exact vk_R.of (hts (Jvm.Cond.stringRef "LostLanes$Reader" (139 : Nat) "and") (tin3 (List.mem_of_getElem? (i := 222) rfl))) (hK 8 (by decide))
    | 9, hi => cases hi; exact vk_R.of (hts (Jvm.Cond.stringRef "LostLanes$Reader" (124 : Nat) "or") (tin3 (List.mem_of_getElem? (i := 227) rfl))) (hK 9 (by decide))
    | i + 10, hi => cases hi
  · exact va_Zof (hts (Jvm.Cond.laysStatic "LostLanes" "MOST_OF_TERM" "[I") (tin2 (List.mem_of_getElem? (i := 229) rfl))) (ht _ wd1_1) hte hA
  · exact hT
  · exact va_Zof (hts (Jvm.Cond.laysStatic "java/lang/String" "COMPACT_STRINGS" "Z") (tin3 (List.mem_of_getElem? (i := 81) rfl))) (ht _ wd1_13) (va_eqt (hq (Cond.eq (.static "java/lang/String" "COMPACT_STRINGS" "Z") (.int 1)) (by decide +kernel))) hA
  · exact va_Zqof (hts (Jvm.Cond.laysStatic "jdk/internal/util/Preconditions" "SIOOBE_FORMATTER" "Ljava/util/function/BiFunction;") (tin3 (List.mem_of_getElem? (i := 97) rfl))) (ht _ wd1_15) (hq _ (by decide +kernel)) hA
  · exact va_AO.of (hts (Jvm.Cond.arrayOver (Jvm.ClassFile.FieldType.object "LostLanes$Script")) (tin1 (List.mem_of_getElem? (i := 36) rfl)))
  · exact va_AO.of (hts (Jvm.Cond.arrayOver (Jvm.ClassFile.FieldType.object "LostLanes$Clause")) (tin3 (List.mem_of_getElem? (i := 44) rfl)))
  · exact va_AO.of (hts (Jvm.Cond.arrayOver (Jvm.ClassFile.FieldType.object "LostLanes$Town")) (tin1 (List.mem_of_getElem? (i := 125) rfl)))
def st_ho (q : Nat) (r : Nat → Nat) : Nat → Nat := fun o => ([q, r 0, r 12, r 24, r 50, 0, 0, r 37, r 40, r 43, r 44, r 47, r 48, r 65, r 71] : List Nat).getD o 0
def st_ro (r : Nat → Nat) : Nat → Nat → Nat := fun o k => (([[0, 0, 0, r 36, 0, 0, 0, 0, 0, 0, 0, 0, r 75, r 76, r 77], [r 1, r 2, r 3, r 4, r 5, 0, r 6, r 7, r 8, 0, r 9, 0, r 10, r 11, 0], [r 13, r 14, r 15, r 16, r 17, 0, r 18, r 19, r 20, 0, r 21, 0, r 22, r 23, 0], [r 25, r 26, r 27, r 28, r 29, 0, r 30, r 31, r 32, 0, r 33, 0, r 34, r 35, 0], [r 51, r 52, r 53, r 54, r 55, 0, r 56, r 57, r 58, 0, r 59, 0, r 60, r 61, 0], [0, 0, 0, 0, 0, 0, 0, 0, 0, 0, 0, 0, 0, 0, 0], [0, 0, 0, 0, 0, 0, 0, 0, 0, 0, 0, 0, 0, 0, 0], [r 38, r 39, 0, 0, 0, 0, 0, 0, 0, 0, 0, 0, 0, 0, 0], [r 41, r 42, 0, 0, 0, 0, 0, 0, 0, 0, 0, 0, 0, 0, 0], [0, r 46, 0, 0, 0, 0, 0, 0, 0, 0, 0, 0, 0, 0, 0], [r 45, 0, 0, 0, 0, 0, 0, 0, 0, 0, 0, 0, 0, 0, 0], [0, 0, r 62, r 63, r 64, 0, 0, 0, 0, 0, 0, 0, 0, 0, 0], [r 49, 0, 0, 0, 0, 0, 0, 0, 0, 0, 0, 0, 0, 0, 0], [r 66, r 67, r 68, r 69, r 70, 0, 0, 0, 0, 0, 0, 0, 0, 0, 0], [r 72, r 73, r 74, 0, 0, 0, 0, 0, 0, 0, 0, 0, 0, 0, 0]] : List (List Nat)).getD o []).getD k 0
def S0 : CS := (fun o k => if (k = 15 ∧ (o = 1 ∨ o = 2 ∨ o = 3 ∨ o = 4)) ∨ (o = 0 ∧ k = 16) ∨ (o = 9 ∧ k = 10) then -1 else 0, fun o k => if k = 12 ∧ (o = 1 ∨ o = 2 ∨ o = 3 ∨ o = 4) then upd (upd (upd (fun _ => 0) 0 (0 : Int32)) 1 (1 : Int32)) 2 (0 : Int32) else fun _ => 0, fun _ => 0, fun _ _ => none)
def st_r (r : Nat → Nat) : Nat → Nat := fun k => ([0, 0, r 0, r 1, r 2, r 3, r 4, r 5, 0, r 6, r 7, 0, r 8, 0, 0, 0, 0, 0, 0, 0, 0, 0, r 9, 0, r 10, r 11, 0, r 12, r 13, 0, 0, r 14, r 15, r 16, 0, r 17, r 18, r 19, 0, 0, 0, r 20, r 21, r 22, r 23, r 24, r 25, r 26, r 27, r 28, 0, 0, 0, 0, 0, r 29, 0, 0] : List Nat).getD k 0
def σ0 : MS := (fun k => if k = 18 ∨ k = 52 ∨ k = 56 ∨ k = 57 then -1 else 0, fun _ => 0, fun k => if k = 3 then upd (upd (fun _ => 0) 4 (-1 : Int32)) 6 (1 : Int32) else fun _ => 0, fun k => if k = 31 then vp_updL (vp_updL (vp_updL (vp_updL (vp_updL (vp_updL (vp_updL (vp_updL (vp_updL (fun _ => 0) 0 (3417476 : Int64)) 1 (1253 : Int64)) 2 (394693 : Int64)) 3 (409031 : Int64)) 4 (20225300 : Int64)) 5 (116996274 : Int64)) 6 (394868 : Int64)) 7 (278194 : Int64)) 8 (441828 : Int64) else if k = 32 then vp_updL (vp_updL (vp_updL (vp_updL (vp_updL (vp_updL (vp_updL (fun _ => 0) 0 (278194 : Int64)) 1 (146885 : Int64)) 2 (404362868 : Int64)) 3 (14726308 : Int64)) 4 (369811 : Int64)) 5 (52 : Int64)) 6 (17172101 : Int64) else if k = 33 then vp_updL (vp_updL (vp_updL (fun _ => 0) 0 (21678547 : Int64)) 1 (624435 : Int64)) 2 (67155 : Int64) else if k = 48 then vp_updL (vp_updL (vp_updL (vp_updL (fun _ => 0) 0 (773263538 : Int64)) 1 (3673 : Int64)) 2 (398372 : Int64)) 3 (525939 : Int64) else fun _ => 0)
set_option maxRecDepth 100000 in
theorem st_cw (E : Nat → ClassId) (q : Nat) (r : Nat → Nat) : [0, 37, 76, 77, 78, 1, 2, 3, 4, 5, 6, 7, 8, 9, 10, 11, 12, 13, 14, 15, 16, 17, 18, 19, 20, 21, 22, 23, 24, 25, 26, 27, 28, 29, 30, 31, 32, 33, 34, 35, 36, 51, 52, 53, 54, 55, 56, 57, 58, 59, 60, 61, 62, 38, 39, 40, 41, 42, 43, 44, 47, 45, 46, 48, 63, 64, 65, 49, 50, 66, 67, 68, 69, 70, 71, 72, 73, 74, 75].map (fun i => (XC10 E q r)[i]?) = (CW E (st_ho q r) (st_ro r) S0).map some := rfl
set_option maxRecDepth 100000 in
theorem st_mw (E : Nat → ClassId) (q : Nat) (r : Nat → Nat) : XC11 E q r = MW E q (st_r r) σ0 := rfl
theorem lki_9 : cIf "LostLanesLaw" 9 yX10_init cX10_init 1 0 := ⟨wd1_25, wd1_23, wd1_24, wd1_1, rfl, by decide +kernel⟩
theorem lki_12 : cIf "LostLanesLaw" 12 yX11_init cX11_init 1 0 := ⟨wd5_122, wd5_120, wd5_121, wd1_10, rfl, by decide +kernel⟩
set_option maxRecDepth 100000 in
set_option maxHeartbeats 4000000 in
theorem st_walk {p : Program} {l : Launch} {e : Env} {s : State} {m : MethodId} {below : List Frame} {meth : Method} {c : Code} {dC : Nat → ClassId} {dI : Nat → Nat → Nat} {E : Nat → ClassId} {ev : Nat → Nat} {b L : Nat} {xs : Nat → Int32} {w0 : Cond} {F : Nat} {Rel : CS → va_W → MS → Prop} (hL : L ≤ 3072) (X : gX p s m #[Value.ref b] c dC dI E (fun q : Nat => s.heap.size ≤ q) "LostLanesLaw" code 4 w0) (Y : envC ev (fun q : Nat => s.heap.size ≤ q) s) (hr : meth.sig.returnType = ret) (hlk : meth.locks = false) (hX : va_X b L xs s s.heap) (hbl : b < s.heap.size) (AG : Agree F E Rel) (h0 : Rel S0 [] σ0) : GG p l e room_1 s m #[Value.ref b] below meth c dC dI (fun q : Nat => s.heap.size ≤ q) 4 0 0 (lw_Z below #[Value.ref b] s) ([] ++ []) 0 [(0, .ref b)] [] := by
  refine i_new X (cix := 10) (ty := tyX10) (fs := [.null, .null, .null, .null, .null, .null, .null, .null, .null, .null, .null, .null, .null, .null, .null, .int 0, .int 0, .int 0]) u_in10 tyX10_ok wd1_21 wd1_22 wd1_1 rfl ne_10 ⟨Nat.le_of_ble_eq_true rfl, Nat.le_of_ble_eq_true rfl⟩ dL_law_0 (fun q => ?_)
  refine g_dup X dL_law_3 rfl ?_
  refine i_callI (L0 := []) (XC := XC10 E) X Y lki_9 (ci_10 l dC dI E ev _ q) ⟨Nat.le_of_ble_eq_true rfl, Nat.le_of_ble_eq_true rfl⟩ ⟨rfl, rfl⟩ (Nat.le_of_ble_eq_true rfl) ⟨Nat.le_of_ble_eq_true rfl, Nat.le_of_ble_eq_true rfl⟩ rfl dL_law_4 (fun r => ?_)
  refine g_astore_n X (lv' := [(1, .ref q), (0, .ref b)]) dL_law_7 rfl (by decide) rfl ?_
  refine i_new X (cix := 11) (ty := tyX11) (fs := [.int 0, .int 0, .null, .null, .null, .null, .null, .null, .int 0, .null, .null, .int 0, .null, .int 0, .int 0, .int 0, .int 0, .long 0, .int 0, .int 0, .int 0, .int 0, .null, .int 0, .null, .null, .int 0, .null, .null, .int 0, .int 0, .null, .null, .null, .int 0, .null, .null, .null, .int 0, .long 0, .long 0, .null, .null, .null, .null, .null, .null, .null, .null, .null, .int 0, .int 0, .int 0, .int 0, .long 0, .null, .int 0, .int 0]) mu_in tyX11_ok wd5_118 wd5_119 wd1_10 rfl ne_11 ⟨Nat.le_of_ble_eq_true rfl, Nat.le_of_ble_eq_true rfl⟩ dL_law_8 (fun q2 => ?_)
  refine g_dup X dL_law_11 rfl ?_
  refine i_callI (L0 := [] ++ XC10 E q r) (XC := XC11 E) X Y lki_12 (ci_11 l dC dI E ev _ q2) ⟨Nat.le_of_ble_eq_true rfl, Nat.le_of_ble_eq_true rfl⟩ ⟨rfl, rfl⟩ (Nat.le_of_ble_eq_true rfl) ⟨Nat.le_of_ble_eq_true rfl, Nat.le_of_ble_eq_true rfl⟩ rfl dL_law_12 (fun r2 => ?_)
  refine g_astore_n X (lv' := [(2, .ref q2), (1, .ref q), (0, .ref b)]) dL_law_15 rfl (by decide) rfl ?_
  refine g_iconst X dL_law_16 kc_0 ?_
  refine g_istore_n X (lv' := [(3, .int 0), (2, .ref q2), (1, .ref q), (0, .ref b)]) dL_law_17 rfl (by decide) rfl ?_
  refine g_lv [3, 2, 1, 0] (lv' := [(0, .ref b), (1, .ref q), (2, .ref q2), (3, .int 0)]) rfl ?_
  rw [List.nil_append, List.nil_append]
  refine g_part (L := XC10 E q r) [0, 37, 76, 77, 78, 1, 2, 3, 4, 5, 6, 7, 8, 9, 10, 11, 12, 13, 14, 15, 16, 17, 18, 19, 20, 21, 22, 23, 24, 25, 26, 27, 28, 29, 30, 31, 32, 33, 34, 35, 36, 51, 52, 53, 54, 55, 56, 57, 58, 59, 60, 61, 62, 38, 39, 40, 41, 42, 43, 44, 47, 45, 46, 48, 63, 64, 65, 49, 50, 66, 67, 68, 69, 70, 71, 72, 73, 74, 75] (by decide +kernel) (st_cw E q r) ?_
  rw [st_mw E q2 r2]
  have K := law_loop (ho := st_ho q r) (ro := st_ro r) (h := q2) (r := st_r r2) (p := p) (l := l) (e := e) (below := below) (meth := meth) hL X Y hr hlk hX hbl AG 513 0 0 S0 [] σ0 (by omega) (by omega) rfl h0
  rw [List.append_nil] at K
  exact K
theorem whole_of {F : Nat} {Rel : (Nat → ClassId) → CS → va_W → MS → Prop} (AG : ∀ E : Nat → ClassId, Agree F E (Rel E)) (h0 : ∀ E : Nat → ClassId, Rel E S0 [] σ0) {p : Program} {e : Env} {s : State} {m : MethodId} {below : List Frame} {meth : Method} {c : Code} (l : Launch) {b L : Nat} {xs : Nat → Int32} (hL : L ≤ 3072) (C0 : lw_At p s m meth c b L xs) : W p l e room_1 s m #[Value.ref b] below meth c s.heap [] 0 0 (lw_Z below #[Value.ref b] s) (entryFrame m ([Value.ref b] : List Value).toArray 4) := by
  obtain ⟨hx, hcode, hr, hml, hown, hts, hX, hbl, hlk, hgv⟩ := C0
  obtain ⟨dC, dI, E, hK⟩ := st_K hts
  obtain ⟨ev, Y⟩ := st_env hts hgv
  have X : gX p s m #[Value.ref b] c dC dI E (fun q : Nat => s.heap.size ≤ q) "LostLanesLaw" code 4 (Cond.arrayClass .int) := ⟨hx, hcode, hml, hown, fun w hw => by
    rcases List.mem_cons.mp hw with h | h
    · rw [h]; exact hts _ (List.mem_filter.mp wd1_124).1
    · exact hts w (List.mem_filter.mp h).1, hK, fun q h => h⟩
  rw [lg_entry_eq]
  exact st_walk (E := E) hL X Y hr hlk hX hbl (AG E) (h0 E) s.heap [] _ (fun k q h => (by simp at h)) ⟨fun i j p q h => (by simp at h), fun k q h => (by simp at h)⟩ va_S.rf (lv_entry [.ref b] (Nat.le_of_ble_eq_true rfl))
