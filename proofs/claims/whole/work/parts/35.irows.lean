theorem ha_int (n : Nat) : ∀ cA : ClassId, vp_cell cA (n, .inl (fun _ => 0)) = arrV cA n (fun _ => defaultValue .int) := fun cA => by rw [vp_cell_i]; rfl
theorem ha_boolean (n : Nat) : ∀ cA : ClassId, vp_cell cA (n, .inl (fun _ => 0)) = arrV cA n (fun _ => defaultValue .boolean) := fun cA => by rw [vp_cell_i]; rfl
theorem ha_long (n : Nat) : ∀ cA : ClassId, vp_cell cA (n, .inr (.inl (fun _ => 0))) = arrV cA n (fun _ => defaultValue .long) := fun cA => by rw [vp_cell_l]; rfl
section IRows
variable {p : Program} {l : Launch} {e : Env} {R : Room} {s : State} {m : MethodId} {args : Array Value} {below : List Frame} {meth : Method} {c : Code} {dC : Nat → ClassId} {dI : Nat → Nat → Nat} {E : Nat → ClassId} {A : Nat → Prop} {own : String} {cc : ByteArray} {nL cells slots : Nat} {w0 : Cond} {Q : State → Prop} {ws : va_W} {pc : Nat} {lv : List (Nat × Value)} {st : List Value}
variable {W0 L L0 L' : va_W} {ev : Nat → Nat}
theorem setw {k : Nat} {x : Nat × va_E} : (W0 ++ L).set (W0.length + k) x = W0 ++ L.set k x := by
  rw [List.set_append_right _ _ (by omega), show W0.length + k - W0.length = k by omega]
theorem i_new (X : gX p s m args c dC dI E A own cc nL w0) {C : String} {T : u_T} {N cix idx : Nat} {ty : Nat → FieldType} {fs : List Value} (hu : ∀ w ∈ u_ws C T N, w ∈ TG) (hty : ∀ k, k < N → parseFieldDescriptor (T k).2.2.1 = some (ty k)) (w1 : Cond.classLink own idx C ∈ TG) (w2 : Cond.instantiable C N ∈ TG) (w3 : Cond.initialized C ∈ TG) (hc : vwCl[cix]? = some (C, T, N)) (hfs : ∀ j, j < N → defaultValue (ty j) = vp_V fs j) (hroom : cells + 1 ≤ R.cells ∧ slots + N ≤ R.slots) (hd : decode cc pc = .ok (.new idx, 3)) (kk : ∀ q, GG p l e R s m args below meth c dC dI A nL (cells + 1) (slots + N) Q (W0 ++ (L ++ [(q, .inr (cix, fs))])) (pc + 3) lv (.ref q :: st)) : GG p l e R s m args below meth c dC dI A nL cells slots Q (W0 ++ L) pc lv st := fun H locs ls hP hD hS hl => va_new (ci := cix) (fs := fs) X.1 X.2.1 X.2.2.2.2.1 (fun w hw => List.mem_cons_of_mem _ (hu w hw)) ty hty X.2.2.2.1 (X.word w1) (X.word w2) (X.word w3) X.2.2.2.2.2.1 hP hD hS X.2.2.2.2.2.2 hc hfs hroom.1 hroom.2 hd (fun q H1 hP hD hS => by
    rw [List.append_assoc] at hP hD
    exact kk q H1 locs ls hP hD hS hl)
theorem i_newa (X : gX p s m args c dC dI E A own cc nL w0) {ty : FieldType} {atype : ArrayType} (ht : newarray.typeOf atype = ty) (t0 : Nat) {cA : ClassId} (hT : (tysE E)[t0]? = some (cA, ty)) (hra : ∀ U : State, va_RA U cA ty → U.vm.findClass ("[" ++ ty.toString) = some cA) (w1 : Cond.arrayClass ty ∈ TG) {n : Int32} {N' : Nat} {a0 : vp_A} (ha : ∀ cA : ClassId, vp_cell cA a0 = arrV cA N' (fun _ => defaultValue ty)) (hn : inb n 65536 = true) (hN : n.toNatClampNeg = N') (hbytes : N' * componentBytes ty ≤ 536870912) (hroom : cells + 1 ≤ R.cells ∧ slots + N' ≤ R.slots) (hd : decode cc pc = .ok (.newarray atype, 2)) (kk : ∀ q, GG p l e R s m args below meth c dC dI A nL (cells + 1) (slots + N') Q (W0 ++ (L ++ [(q, .inl (cA, a0))])) (pc + 2) lv (.ref q :: st)) : GG p l e R s m args below meth c dC dI A nL cells slots Q (W0 ++ L) pc lv (.int n :: st) := by
  subst ht
  intro H locs ls hP hD hS hl
  have hA := X.2.2.2.2.2.2
  refine va_newaK X.1 X.2.1 (X.word w1) rfl hd rfl (fun q => (inb_in hn) (Or.inl q)) hN hbytes hroom.1 hroom.2 rfl fun H1 cA' e1 z1 o1 hAr hNm => ?_
  have hcA : cA' = cA := Option.some.inj (hNm.symm.trans (hra s (X.2.2.2.2.2.1.2 t0 _ hT).2))
  subst hcA
  have hk : ∀ (k : Nat) (x : Nat × va_E), (W0 ++ L)[k]? = some x → H1[x.1]? = H[x.1]? := fun k x hx => o1 x.1 ((hP k x hx).lt)
  have hP1 : va_P (dC, dI) vwCl ((W0 ++ L) ++ [(H.size, .inl (cA', a0))]) H1 := (hP.kept hk).app (fun k x hx => by
    have hz1 : k < 1 := (List.getElem?_eq_some_iff.mp hx).1
    rw [show k = 0 by omega] at hx
    cases hx
    show H1[H.size]? = some (vp_cell _ _)
    rw [ha]
    exact e1)
  have hD1 : va_D A ((W0 ++ L) ++ [(H.size, .inl (cA', a0))]) := hD.push hP rfl (hA _ hS.1)
  rw [List.append_assoc] at hP1 hD1
  exact kk H.size H1 locs ls hP1 hD1 ⟨Nat.le_trans hS.1 (by omega), fun x h1 h2 => (o1 x (Nat.lt_of_lt_of_le h1 hS.1)).trans (hS.2.1 x h1 h2), hS.2.2⟩ hl
theorem i_newq (X : gX p s m args c dC dI E A own cc nL w0) {C : String} {idx : Nat} (t0 : Nat) {cA : ClassId} (hT : (tysE E)[t0]? = some (cA, .object C)) (hAO : va_AO C s) (w1 : Cond.classLink own idx C ∈ TG) {n : Int32} {N' : Nat} (hn : inb n 65536 = true) (hN : n.toNatClampNeg = N') (hbytes : N' * 4 ≤ 536870912) (hroom : cells + 1 ≤ R.cells ∧ slots + N' ≤ R.slots) (hd : decode cc pc = .ok (.anewarray idx, 3)) (kk : ∀ q, GG p l e R s m args below meth c dC dI A nL (cells + 1) (slots + N') Q (W0 ++ (L ++ [(q, .inl (cA, N', .inr (.inr (.inr (.inr (fun _ => none))))))])) (pc + 3) lv (.ref q :: st)) : GG p l e R s m args below meth c dC dI A nL cells slots Q (W0 ++ L) pc lv (.int n :: st) := by
  intro H locs ls hP hD hS hl
  have hA := X.2.2.2.2.2.2
  subst hN
  refine W.anew X.1 X.2.1 X.2.2.2.1 (X.word w1) (va_AO.use hAO) rfl hd rfl (fun q => (inb_in hn) (Or.inl q)) hbytes hroom.1 hroom.2 fun cA' kA comp f1 f2 f3 f4 => ?_
  have hcA : cA' = cA := by
    obtain ⟨kA2, comp2, -, -, -, g4⟩ := (X.2.2.2.2.2.1.2 t0 _ hT).2
    exact Option.some.inj (f1.symm.trans g4)
  subst hcA
  generalize hH1 : H.push ({ cls := cA', slots := Array.replicate n.toNatClampNeg .null, vm := .none } : Cell) = H1
  have z1 : H1.size = H.size + 1 := by rw [← hH1, Array.size_push]
  have e1 : H1[H.size]? = some (arrV cA' n.toNatClampNeg (fun _ => .null)) := by rw [← hH1, Array.getElem?_push_size, ← arrV_new]
  have o1 : ∀ q : Nat, q < H.size → H1[q]? = H[q]? := fun q hq => by rw [← hH1, Array.getElem?_push, if_neg (Nat.ne_of_lt hq)]
  have hk : ∀ (k : Nat) (x : Nat × va_E), (W0 ++ L)[k]? = some x → H1[x.1]? = H[x.1]? := fun k x hx => o1 x.1 ((hP k x hx).lt)
  have hP1 : va_P (dC, dI) vwCl ((W0 ++ L) ++ [(H.size, .inl (cA', n.toNatClampNeg, .inr (.inr (.inr (.inr (fun _ => none))))))]) H1 := (hP.kept hk).app (fun k x hx => by
    have hz1 : k < 1 := (List.getElem?_eq_some_iff.mp hx).1
    rw [show k = 0 by omega] at hx
    cases hx
    exact e1)
  have hD1 : va_D A ((W0 ++ L) ++ [(H.size, .inl (cA', n.toNatClampNeg, .inr (.inr (.inr (.inr (fun _ => none))))))]) := hD.push hP rfl (hA _ hS.1)
  rw [List.append_assoc] at hP1 hD1
  exact kk H.size H1 locs ls hP1 hD1 ⟨Nat.le_trans hS.1 (by omega), fun x h1 h2 => (o1 x (Nat.lt_of_lt_of_le h1 hS.1)).trans (hS.2.1 x h1 h2), hS.2.2⟩ hl
theorem i_put (X : gX p s m args c dC dI E A own cc nL w0) {C : String} {T : u_T} {N cix idx a j : Nat} {ty0 : Nat → FieldType} {v : Value} {fs : List Value} (hu : ∀ w ∈ u_ws C T N, w ∈ TG) (hty : ∀ k, k < N → parseFieldDescriptor (T k).2.2.1 = some (ty0 k)) (hnm : ∀ a, a < N → ∀ b, b < N → a ≠ b → (T a).2.1 ≠ (T b).2.1) (hc : vwCl[cix]? = some (C, T, N)) (he : L[j]? = some (a, .inr (cix, fs))) (k : Nat) (hk : k < N) (hw : Cond.fieldLink own idx (T k).1 (T k).2.1 (T k).2.2.1 ∈ TG) (hfin : (T k).2.2.2 = false) (hn : narrow (ty0 k) v = v) (hfit : fits (ty0 k) v = true) (hlen : k < fs.length) (hd : decode cc pc = .ok (.putfield idx, 3)) (hL : L.set j (a, .inr (cix, fs.set k v)) = L') (kk : GG p l e R s m args below meth c dC dI A nL cells slots Q (W0 ++ L') (pc + 3) lv st) : GG p l e R s m args below meth c dC dI A nL cells slots Q (W0 ++ L) pc lv (v :: .ref a :: st) := fun H locs ls hP hD hS hl => va_put (D := (dC, dI)) (ci := cix) (v := v) (ty := ty0 k) (C := C) (T := T) (N := N) X.1 X.2.1 X.2.2.2.2.1 (fun w hw => List.mem_cons_of_mem _ (hu w hw)) ty0 hty hnm X.2.2.2.1 X.2.2.2.2.2.1 hP hD hS _ (papp he) hc k hk (X.word hw) (fun _ h9 => h9) hfin (hty k hk) hn hfit hlen hd (fun H1 locs1 hP hD1 hS => by
    rw [setw, hL] at hP hD1
    exact kk H1 locs1 ls hP hD1 hS hl)
theorem i_putF (X : gX p s m args c dC dI E A own cc nL w0) {C : String} {T : u_T} {N cix idx a j : Nat} {ty0 : Nat → FieldType} {v : Value} {fs : List Value} (hu : ∀ w ∈ u_ws C T N, w ∈ TG) (hty : ∀ k, k < N → parseFieldDescriptor (T k).2.2.1 = some (ty0 k)) (hnm : ∀ a, a < N → ∀ b, b < N → a ≠ b → (T a).2.1 ≠ (T b).2.1) (hc : vwCl[cix]? = some (C, T, N)) (he : L[j]? = some (a, .inr (cix, fs))) (k : Nat) (hk : k < N) (hw : Cond.fieldLink own idx (T k).1 (T k).2.1 (T k).2.2.1 ∈ TG) (hfin : (T k).2.2.2 = true) (hin2 : meth.name = "<init>") (hdecl : (T k).1 = own) (hn : narrow (ty0 k) v = v) (hfit : fits (ty0 k) v = true) (hlen : k < fs.length) (hd : decode cc pc = .ok (.putfield idx, 3)) (hL : L.set j (a, .inr (cix, fs.set k v)) = L') (kk : GG p l e R s m args below meth c dC dI A nL cells slots Q (W0 ++ L') (pc + 3) lv st) : GG p l e R s m args below meth c dC dI A nL cells slots Q (W0 ++ L) pc lv (v :: .ref a :: st) := fun H locs ls hP hD hS hl => va_putF (D := (dC, dI)) (ci := cix) (v := v) (ty := ty0 k) (C := C) (T := T) (N := N) X.1 X.2.1 X.2.2.2.2.1 (fun w hw => List.mem_cons_of_mem _ (hu w hw)) ty0 hty hnm X.2.2.2.1 X.2.2.2.2.2.1 hP hD hS _ (papp he) hc k hk (X.word hw) (fun _ h9 => h9) hfin hin2 hdecl (hty k hk) hn hfit hlen hd (fun H1 locs1 hP hD1 hS => by
    rw [setw, hL] at hP hD1
    exact kk H1 locs1 ls hP hD1 hS hl)
theorem i_get (X : gX p s m args c dC dI E A own cc nL w0) {C : String} {T : u_T} {N cix idx a j : Nat} {v : Value} {fs : List Value} (hu : ∀ w ∈ u_ws C T N, w ∈ TG) (hc : vwCl[cix]? = some (C, T, N)) (he : L[j]? = some (a, .inr (cix, fs))) (k : Nat) (hk : k < N) (hw : Cond.fieldLink own idx (T k).1 (T k).2.1 (T k).2.2.1 ∈ TG) (hv : fs[k]? = some v) (hd : decode cc pc = .ok (.getfield idx, 3)) (kk : GG p l e R s m args below meth c dC dI A nL cells slots Q (W0 ++ L) (pc + 3) lv (v :: st)) : GG p l e R s m args below meth c dC dI A nL cells slots Q (W0 ++ L) pc lv (.ref a :: st) := fun H locs ls hP hD hS hl => va_get (D := (dC, dI)) (ci := cix) (v := v) (C := C) (T := T) (N := N) X.1 X.2.1 X.2.2.2.2.1 (fun w hw => List.mem_cons_of_mem _ (hu w hw)) X.2.2.2.1 X.2.2.2.2.2.1 hP _ (papp he) hc k hk (X.word hw) (fun _ h9 => h9) hv hd (kk H locs ls hP hD hS hl)
theorem i_ast (X : gX p s m args c dC dI E A own cc nL w0) {a j jn n : Nat} {i : Int32} {v : Int32} {f : Nat → Int32} (he : L[j]? = some (a, .inl (E 0, n, .inl (f)))) (hi : i.toNatClampNeg = jn) (hin : inb i n = true) (hd : decode cc pc = .ok (.iastore, 1)) (hL : L.set j (a, .inl (E 0, n, .inl (upd f jn v))) = L') (kk : GG p l e R s m args below meth c dC dI A nL cells slots Q (W0 ++ L') (pc + 1) lv st) : GG p l e R s m args below meth c dC dI A nL cells slots Q (W0 ++ L) pc lv (.int v :: .int i :: .ref a :: st) := by
  subst hi
  exact fun H locs ls hP hD hS hl => va_iast X.1 X.2.1 X.2.2.2.2.2.1 hP hD hS _ 0 (papp he) rfl (inb_in hin) hd (fun H1 locs1 hP hD1 hS => by
    rw [setw, hL] at hP hD1
    exact kk H1 locs1 ls hP hD1 hS hl)
theorem i_lst (X : gX p s m args c dC dI E A own cc nL w0) {a j jn n : Nat} {i : Int32} {v : Int64} {f : Nat → Int64} (he : L[j]? = some (a, .inl (E 1, n, .inr (.inl (f))))) (hi : i.toNatClampNeg = jn) (hin : inb i n = true) (hd : decode cc pc = .ok (.lastore, 1)) (hL : L.set j (a, .inl (E 1, n, .inr (.inl (vp_updL f jn v)))) = L') (kk : GG p l e R s m args below meth c dC dI A nL cells slots Q (W0 ++ L') (pc + 1) lv st) : GG p l e R s m args below meth c dC dI A nL cells slots Q (W0 ++ L) pc lv (.long v :: .int i :: .ref a :: st) := by
  subst hi
  exact fun H locs ls hP hD hS hl => va_last X.1 X.2.1 X.2.2.2.2.2.1 hP hD hS _ 1 (papp he) rfl (inb_in hin) hd (fun H1 locs1 hP hD1 hS => by
    rw [setw, hL] at hP hD1
    exact kk H1 locs1 ls hP hD1 hS hl)
/-- a constructor's contract: the new object stands last; its cells are there then -/
def CK (l : Launch) (dC : Nat → ClassId) (dI : Nat → Nat → Nat) (E : Nat → ClassId) (ev : Nat → Nat) (y : MethodName) (b : ByteArray) (n : Nat) (rm : Room) (W0 : va_W) (h cix : Nat) (fs : List Value) (XC : Nat → (Nat → Nat) → va_W) (mc ms : Nat) : Prop :=
  ∀ sz, Met l y (wT y b n none) rm (cPc dC dI E ev (W0 ++ [(h, .inr (cix, fs))]) [.ref h] sz) (fun _ st oc t => (∃ r : Nat → Nat, oc = .returned none ∧ va_P (dC, dI) vwCl (W0 ++ XC h r) t.heap ∧ va_D (va_A (W0 ++ [(h, .inr (cix, fs))]) sz) (W0 ++ XC h r)) ∧ va_F (va_A (W0 ++ [(h, .inr (cix, fs))]) sz) st t) mc ms (va_A (W0 ++ [(h, .inr (cix, fs))]) sz)
theorem CK_of {y : MethodName} {b : ByteArray} {n h cix mc ms : Nat} {rm : Room} {fs : List Value} {XC : Nat → (Nat → Nat) → va_W} (hy : plainName y.cls = true) (hown : y.cls = own) (hlen : 1 ≤ n)
    (body : ∀ (p : Program) (e : Env) (s : State) (m : MethodId) (args : Array Value) (below : List Frame) (meth : Method) (c : Code) (A : Nat → Prop) (Q : State → Prop), gX p s m args c dC dI E A own b n (Cond.code y b n none) → envC ev A s → meth.sig.returnType = none → meth.locks = false → meth.name = y.name → (∀ (r : Nat → Nat) (L : va_W) (pc cells slots : Nat) (lv : List (Nat × Value)), decode b pc = .ok (.return_, 1) → cells ≤ mc ∧ slots ≤ ms → L = XC h r → GG p l e rm s m args below meth c dC dI A n cells slots Q (W0 ++ L) pc lv []) → GG p l e rm s m args below meth c dC dI A n 0 0 Q (W0 ++ [(h, .inr (cix, fs))]) 0 [(0, .ref h)] []) : CK l dC dI E ev y b n rm W0 h cix fs XC mc ms := by
  intro sz
  refine Met.ofW (cc := b) (maxL := n) (ret := none) hy rfl ?_
  intro p e s m args below meth c s₁ B hml hv
  obtain ⟨rfl, hsz, hP, hK, hD0, hE⟩ := hv
  subst hsz
  have hts := atoms_spec (ws := wT y b n none) B.pre
  rw [lg_entry_eq]
  have X : gX p s m #[Value.ref h] c dC dI E (va_A (W0 ++ [(h, .inr (cix, fs))]) s.heap.size) own b n (Cond.code y b n none) := ⟨B.exec, B.bytes, hml, hown ▸ findClass_of_methodNamed B.named, hts, hK, fun q h => Or.inr h⟩
  refine body p e s m _ below meth c _ _ X hE B.returns B.notSynchronized (name_of_methodNamed B.named B.method).1 ?_ s.heap [] _ hP hD0.self va_S.rf (lv_entry [.ref h] hlen)
  intro r L pc cells slots lv hd hroom hL
  subst hL
  exact g_widen hroom (fun H locs ls hP hD hS hl => W.vret X.1 X.2.1 B.returns (fun t ht hW => ⟨⟨r, rfl, by rw [ht]; exact hP, hD⟩, hS.F ht⟩) hS.2.2 hd B.notSynchronized)
theorem i_call (X : gX p s m args c dC dI E A own cc nL w0) (Y : envC ev A s) {y : MethodName} {b : ByteArray} {n idx mc ms q cix : Nat} {rm : Room} {fs : List Value} {XC : Nat → (Nat → Nat) → va_W} (hf : cJf own idx y b n 0) (hM : CK l dC dI E ev y b n rm (W0 ++ L0) q cix fs XC mc ms) (hR : rm.frames + 1 ≤ R.frames ∧ 8 + (n + 11) + rm.locals ≤ R.locals) (hrm : rm.cells = mc ∧ rm.slots = ms) (hst : (st.map fun v => v.category).sum ≤ 8) (hroom : cells + mc ≤ R.cells ∧ slots + ms ≤ R.slots) (hL : L = L0 ++ [(q, .inr (cix, fs))]) (hd : decode cc pc = .ok (.invokespecial idx, 3)) (kk : ∀ r, GG p l e R s m args below meth c dC dI A nL (cells + mc) (slots + ms) Q (W0 ++ (L0 ++ XC q r)) (pc + 3) lv st) : GG p l e R s m args below meth c dC dI A nL cells slots Q (W0 ++ L) pc lv (.ref q :: st) := by
  subst hL
  intro H locs ls hP hD hS hl
  rw [← List.append_assoc] at hP hD
  have hFc := g_free X hD hS
  have hrun := va_runIN (l := l) (e := e) (below := below) (meth := meth) (locs := locs) (cells := cells) (slots := slots) (As := []) (rest := st) (g := F0 m pc ls (.ref q :: st)) ⟨X.1, X.2.1, X.2.2.1, X.2.2.2.1, X.2.2.2.2.1⟩ (hM H.size) ⟨va_cnB 0 X.2.2.2.2.1 (TG_goodC hf.1) rfl hrm.1 hrm.2 (Y.1 _ hf.2.1) (X.word hf.2.2.2.1) hf.2.2.2.2.2 hR, hf.2.2.2.2.1, X.word hf.2.2.1⟩ ⟨cPc_blind, fun U hU hW => ⟨rfl, by rw [hU], by rw [hU]; exact hP, va_K.moved hW.alike X.2.2.2.2.2.1, hD.weaken (fun _ _ _ _ => trivial), Y.to (g_free X hD hS) hS hU hW⟩⟩ rfl rfl hl.1 rfl (lv_room hst) hd hroom
  intro T hT XS
  obtain ⟨v, st₀, t, T', L9, h0, X', hL, e1, e2, ⟨⟨r, hv, hP1, hD1⟩, hz, hk⟩, stp⟩ := hrun T hT XS
  cases hv
  rw [h0] at hz hk
  obtain ⟨t2, a1, b1⟩ := kk r T'.heap (locs ++ L9) ls (by rw [e1, ← List.append_assoc]; exact hP1) (by rw [← List.append_assoc]; exact hD1.weaken (fun _ q _ h => hFc q.1 h))
    ⟨Nat.le_trans hS.1 (by rw [e1]; exact hz), fun q h1 h2 => by rw [e1, hk q (Nat.lt_of_lt_of_le h1 hS.1) (fun z => h2 (hFc q z))]; exact hS.2.1 q h1 h2, fun q hq => by
      rcases List.mem_append.mp hq with h | h
      · exact hS.2.2 q h
      · exact hFc _ (hL q h)⟩ hl T' rfl X'
  exact ⟨t2, stp t2 a1, b1⟩
theorem g_eqL (h : L = L') (k : GG p l e R s m args below meth c dC dI A nL cells slots Q (W0 ++ L') pc lv st) : GG p l e R s m args below meth c dC dI A nL cells slots Q (W0 ++ L) pc lv st := h ▸ k
end IRows
