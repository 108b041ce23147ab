def pset (P : va_W) (a : Nat) (e : va_E) : va_W := P.map (fun q => if q.1 = a then (a, e) else q)
/-- a step of the pool -/
def stp {α : Type} (P : va_W) (k : va_W → Option α) : Option α := k P
/-- nothing was made yet, or what was made last is pooled -/
def mkok (P : va_W) (z ce : Nat) : Bool := ce == 0 || P.any (fun q => q.1 + 1 == z + ce)
theorem pset_eq {P : va_W} {a k : Nat} {e e0 : va_E} (hk : P[k]? = some (a, e0)) (hu : ∀ (i j : Nat) (p q : Nat × va_E), P[i]? = some p → P[j]? = some q → p.1 = q.1 → i = j) : P.set k (a, e) = pset P a e := by
  apply List.ext_getElem?
  intro i
  have hl : k < P.length := (List.getElem?_eq_some_iff.mp hk).1
  rw [List.getElem?_set, pset, List.getElem?_map]
  by_cases h : k = i
  · subst h
    rw [if_pos rfl, if_pos hl, hk]
    simp
  · rw [if_neg h]
    cases hi : P[i]? with
    | none => rfl
    | some q =>
      have hne : ¬ q.1 = a := fun e1 => h (hu k i (a, e0) q hk hi e1.symm)
      simp [hne]
theorem psetw {W0 P : va_W} {A : Nat → Prop} {a k : Nat} {e e0 : va_E} (hD : va_D A (W0 ++ P)) (hk : P[k]? = some (a, e0)) : (W0 ++ P).set (W0.length + k) (a, e) = W0 ++ pset P a e := by
  rw [List.set_append_right _ _ (by omega), show W0.length + k - W0.length = k by omega]
  rw [pset_eq hk (fun i j p q hi hj hpq => by
    have := hD.1 (W0.length + i) (W0.length + j) p q (papp hi) (papp hj) hpq
    omega)]
/-- a contract of a method that makes: from a heap of z cells -/
def CM (l : Launch) (dC : Nat → ClassId) (dI : Nat → Nat → Nat) (E : Nat → ClassId) (ev : Nat → Nat) (y : MethodName) (b : ByteArray) (n : Nat) (ret : Option FieldType) (rm : Room) (as : List Value) (z : Nat) (ws ws' : va_W) (ov : Option Value) (mc ms : Nat) : Prop :=
  Met l y (wT y b n ret) rm (cPc dC dI E ev ws as z) (gQc dC dI ws ws' ov z) mc ms (va_A ws z)
section MkRows
variable {p : Program} {l : Launch} {e : Env} {R : Room} {s : State} {m : MethodId} {args : Array Value} {below : List Frame} {meth : Method} {c : Code} {dC : Nat → ClassId} {dI : Nat → Nat → Nat} {E : Nat → ClassId} {A : Nat → Prop} {own : String} {cc : ByteArray} {nL cells slots : Nat} {w0 : Cond} {Q : State → Prop} {ws : va_W} {pc : Nat} {lv : List (Nat × Value)} {st : List Value}
variable {W0 P : va_W} {ev : Nat → Nat} {α : Type} {res : α} {z : Nat}
theorem g_size (hz : s.heap.size = z) (hk : mkok P z cells = true) (k : ∀ (H : Heap) (locs : List Loc) (ls : Array Slot), H.size = z + cells → va_P (dC, dI) vwCl (W0 ++ P) H → va_D A (W0 ++ P) → va_S A s.heap H locs → lv_has ls nL lv → W p l e R s m args below meth c H locs cells slots Q (F0 m pc ls st)) : GG p l e R s m args below meth c dC dI A nL cells slots Q (W0 ++ P) pc lv st := by
  intro H locs ls hP hD hS hl T hT XS
  have h1 : T.heap.size ≤ s.heap.size + cells := XS.same.2.2.1
  have h2 : s.heap.size ≤ T.heap.size := XS.same.2.1
  rw [hT] at h1 h2
  have h3 : H.size = z + cells := by
    simp only [mkok, Bool.or_eq_true, beq_iff_eq, List.any_eq_true] at hk
    rcases hk with hk | ⟨q, hq, hk⟩
    · omega
    · obtain ⟨i, hi⟩ := List.getElem?_of_mem hq
      have := (hP _ _ (papp hi)).lt
      omega
  exact k H locs ls h3 hP hD hS hl T hT XS
theorem g_widen {k n : Nat} (h : cells ≤ k ∧ slots ≤ n) (kk : GG p l e R s m args below meth c dC dI A nL k n Q ws pc lv st) : GG p l e R s m args below meth c dC dI A nL cells slots Q ws pc lv st := fun H locs ls hP hD hS hl => W.widen h.1 h.2 (kk H locs ls hP hD hS hl)
theorem mk_new (X : gX p s m args c dC dI E A own cc nL w0) {C : String} {T : u_T} {N cix idx : Nat} {ty : Nat → FieldType} {fs : List Value} (hu : ∀ w ∈ u_ws C T N, w ∈ TG) (hty : ∀ k, k < N → parseFieldDescriptor (T k).2.2.1 = some (ty k)) (w1 : Cond.classLink own idx C ∈ TG) (w2 : Cond.instantiable C N ∈ TG) (w3 : Cond.initialized C ∈ TG) (hc : vwCl[cix]? = some (C, T, N)) (hfs : ∀ j, j < N → defaultValue (ty j) = vp_V fs j) (hz : s.heap.size = z) (hd : decode cc pc = .ok (.new idx, 3)) {K : va_W → Option α} (hf : chk (mkok P z cells = true ∧ cells + 1 ≤ R.cells ∧ slots + N ≤ R.slots) (stp (P ++ [(z + cells, .inr (cix, fs))]) K) = some res) (kk : ∀ P, K P = some res → GG p l e R s m args below meth c dC dI A nL (cells + 1) (slots + N) Q (W0 ++ P) (pc + 3) lv (.ref (z + cells) :: st)) : GG p l e R s m args below meth c dC dI A nL cells slots Q (W0 ++ P) pc lv st := by
  obtain ⟨⟨h1, h2, h3⟩, hf⟩ := chk_some hf
  refine g_size hz h1 (fun H locs ls hsz hP hD hS hl => ?_)
  have hA := X.2.2.2.2.2.2
  have hKn := X.2.2.2.2.2.1.1 cix _ hc
  refine W.newcK X.1 X.2.1 X.2.2.2.1 (X.word w1) (X.word w2) (X.word w3) rfl hd h2 h3 hKn.2.1 hsz fun H1 kC hkC e1 z1 o1 => ?_
  have hk : ∀ (k : Nat) (x : Nat × va_E), (W0 ++ P)[k]? = some x → H1[x.1]? = H[x.1]? := fun k x hx => o1 x.1 (by rw [← hsz]; exact (hP k x hx).lt)
  have hP1 : va_P (dC, dI) vwCl ((W0 ++ P) ++ [(z + cells, .inr (cix, fs))]) H1 := (hP.kept hk).app (fun k x hx => by
    have hz1 : k < 1 := (List.getElem?_eq_some_iff.mp hx).1
    rw [show k = 0 by omega] at hx
    cases hx
    exact ⟨_, hc, (u_born ty X.2.2.2.2.1 (fun w hw => List.mem_cons_of_mem _ (hu w hw)) hKn hkC e1 hty).to hfs⟩)
  have hD1 : va_D A ((W0 ++ P) ++ [(z + cells, .inr (cix, fs))]) := hD.push hP hsz.symm (hA _ (by rw [← hsz]; exact hS.1))
  rw [List.append_assoc] at hP1 hD1
  exact kk _ hf H1 locs ls hP1 hD1 ⟨Nat.le_trans hS.1 (by omega), fun x h1 h2 => (o1 x (by rw [← hsz]; exact Nat.lt_of_lt_of_le h1 hS.1)).trans (hS.2.1 x h1 h2), hS.2.2⟩ hl
theorem mk_newa (X : gX p s m args c dC dI E A own cc nL w0) {ty : FieldType} {atype : ArrayType} (ht : newarray.typeOf atype = ty) (t0 : Nat) {cA : ClassId} (hT : (tysE E)[t0]? = some (cA, ty)) (hra : ∀ U : State, va_RA U cA ty → U.vm.findClass ("[" ++ ty.toString) = some cA) (w1 : Cond.arrayClass ty ∈ TG) {n : Int32} {N' : Nat} {a0 : vp_A} (ha : ∀ cA : ClassId, vp_cell cA a0 = arrV cA N' (fun _ => defaultValue ty)) (hn : inb n 65536 = true) (hN : n.toNatClampNeg = N') (hbytes : N' * componentBytes ty ≤ 536870912) (hz : s.heap.size = z) (hd : decode cc pc = .ok (.newarray atype, 2)) {K : va_W → Option α} (hf : chk (mkok P z cells = true ∧ cells + 1 ≤ R.cells ∧ slots + N' ≤ R.slots) (stp (P ++ [(z + cells, .inl (cA, a0))]) K) = some res) (kk : ∀ P, K P = some res → GG p l e R s m args below meth c dC dI A nL (cells + 1) (slots + N') Q (W0 ++ P) (pc + 2) lv (.ref (z + cells) :: st)) : GG p l e R s m args below meth c dC dI A nL cells slots Q (W0 ++ P) pc lv (.int n :: st) := by
  obtain ⟨⟨h1, h2, h3⟩, hf⟩ := chk_some hf
  refine g_size hz h1 (fun H locs ls hsz hP hD hS hl => ?_)
  have hA := X.2.2.2.2.2.2
  subst ht
  refine va_newaK X.1 X.2.1 (X.word w1) rfl hd rfl (fun q => (inb_in hn) (Or.inl q)) hN hbytes h2 h3 hsz fun H1 cA' e1 z1 o1 hAr hNm => ?_
  have hcA : cA' = cA := Option.some.inj (hNm.symm.trans (hra s (X.2.2.2.2.2.1.2 t0 _ hT).2))
  subst hcA
  have hk : ∀ (k : Nat) (x : Nat × va_E), (W0 ++ P)[k]? = some x → H1[x.1]? = H[x.1]? := fun k x hx => o1 x.1 (by rw [← hsz]; exact (hP k x hx).lt)
  have hP1 : va_P (dC, dI) vwCl ((W0 ++ P) ++ [(z + cells, .inl (cA', a0))]) H1 := (hP.kept hk).app (fun k x hx => by
    have hz1 : k < 1 := (List.getElem?_eq_some_iff.mp hx).1
    rw [show k = 0 by omega] at hx
    cases hx
    show H1[z + cells]? = some (vp_cell _ _)
    rw [ha]
    exact e1)
  have hD1 : va_D A ((W0 ++ P) ++ [(z + cells, .inl (cA', a0))]) := hD.push hP hsz.symm (hA _ (by rw [← hsz]; exact hS.1))
  rw [List.append_assoc] at hP1 hD1
  exact kk _ hf H1 locs ls hP1 hD1 ⟨Nat.le_trans hS.1 (by omega), fun x h1 h2 => (o1 x (by rw [← hsz]; exact Nat.lt_of_lt_of_le h1 hS.1)).trans (hS.2.1 x h1 h2), hS.2.2⟩ hl
theorem mk_newq (X : gX p s m args c dC dI E A own cc nL w0) (Y : envC ev A s) {C : String} {idx : Nat} (t0 : Nat) {cA : ClassId} (hT : (tysE E)[t0]? = some (cA, .object C)) (hAO : va_AO C s) (w1 : Cond.classLink own idx C ∈ TG) {n : Int32} {N' : Nat} (hn : inb n 65536 = true) (hN : n.toNatClampNeg = N') (hbytes : N' * 4 ≤ 536870912) (hz : s.heap.size = z) (hd : decode cc pc = .ok (.anewarray idx, 3)) {K : va_W → Option α} (hf : chk (mkok P z cells = true ∧ cells + 1 ≤ R.cells ∧ slots + N' ≤ R.slots) (stp (P ++ [(z + cells, .inl (cA, N', .inr (.inr (.inr (.inr (fun _ => none))))))]) K) = some res) (kk : ∀ P, K P = some res → GG p l e R s m args below meth c dC dI A nL (cells + 1) (slots + N') Q (W0 ++ P) (pc + 3) lv (.ref (z + cells) :: st)) : GG p l e R s m args below meth c dC dI A nL cells slots Q (W0 ++ P) pc lv (.int n :: st) := by
  obtain ⟨⟨h1, h2, h3⟩, hf⟩ := chk_some hf
  refine g_size hz h1 (fun H locs ls hsz hP hD hS hl => ?_)
  have hA := X.2.2.2.2.2.2
  subst hN
  refine W.anew X.1 X.2.1 X.2.2.2.1 (X.word w1) (va_AO.use hAO) rfl hd rfl (fun q => (inb_in hn) (Or.inl q)) hbytes h2 h3 fun cA' kA comp f1 f2 f3 f4 => ?_
  have hcA : cA' = cA := by
    obtain ⟨kA2, comp2, -, -, -, g4⟩ := (X.2.2.2.2.2.1.2 t0 _ hT).2
    exact Option.some.inj (f1.symm.trans g4)
  subst hcA
  generalize hH1 : H.push ({ cls := cA', slots := Array.replicate n.toNatClampNeg .null, vm := .none } : Cell) = H1
  have z1 : H1.size = H.size + 1 := by rw [← hH1, Array.size_push]
  have e1 : H1[H.size]? = some (arrV cA' n.toNatClampNeg (fun _ => .null)) := by rw [← hH1, Array.getElem?_push_size, ← arrV_new]
  have o1 : ∀ q : Nat, q < H.size → H1[q]? = H[q]? := fun q hq => by rw [← hH1, Array.getElem?_push, if_neg (Nat.ne_of_lt hq)]
  have hk : ∀ (k : Nat) (x : Nat × va_E), (W0 ++ P)[k]? = some x → H1[x.1]? = H[x.1]? := fun k x hx => o1 x.1 ((hP k x hx).lt)
  rw [hsz] at e1
  have hP1 : va_P (dC, dI) vwCl ((W0 ++ P) ++ [(z + cells, .inl (cA', n.toNatClampNeg, .inr (.inr (.inr (.inr (fun _ => none))))))]) H1 := (hP.kept hk).app (fun k x hx => by
    have hz1 : k < 1 := (List.getElem?_eq_some_iff.mp hx).1
    rw [show k = 0 by omega] at hx
    cases hx
    exact e1)
  have hD1 : va_D A ((W0 ++ P) ++ [(z + cells, .inl (cA', n.toNatClampNeg, .inr (.inr (.inr (.inr (fun _ => none))))))]) := hD.push hP hsz.symm (hA _ (by rw [← hsz]; exact hS.1))
  rw [List.append_assoc] at hP1 hD1
  have hfin := kk _ hf H1 locs ls hP1 hD1 ⟨Nat.le_trans hS.1 (by omega), fun x h1 h2 => (o1 x (Nat.lt_of_lt_of_le h1 hS.1)).trans (hS.2.1 x h1 h2), hS.2.2⟩ hl
  rw [hsz]
  exact hfin
theorem pm_put (X : gX p s m args c dC dI E A own cc nL w0) {C : String} {T : u_T} {N cix idx a : Nat} {ty0 : Nat → FieldType} {v : Value} (hu : ∀ w ∈ u_ws C T N, w ∈ TG) (hty : ∀ k, k < N → parseFieldDescriptor (T k).2.2.1 = some (ty0 k)) (hnm : ∀ a, a < N → ∀ b, b < N → a ≠ b → (T a).2.1 ≠ (T b).2.1) (hc : vwCl[cix]? = some (C, T, N)) (k : Nat) (hk : k < N) (hw : Cond.fieldLink own idx (T k).1 (T k).2.1 (T k).2.2.1 ∈ TG) (hfin : (T k).2.2.2 = false) (hn : narrow (ty0 k) v = v) (hfit : fits (ty0 k) v = true) (hd : decode cc pc = .ok (.putfield idx, 3)) {K : va_W → Option α} (hf : ((pobj P cix a).bind fun fs => chk (k < fs.length) (stp (pset P a (.inr (cix, fs.set k v))) K)) = some res) (kk : ∀ P, K P = some res → GG p l e R s m args below meth c dC dI A nL cells slots Q (W0 ++ P) (pc + 3) lv st) : GG p l e R s m args below meth c dC dI A nL cells slots Q (W0 ++ P) pc lv (v :: .ref a :: st) := by
  obtain ⟨fs, h1, h2⟩ := Option.bind_eq_some_iff.mp hf
  obtain ⟨h3, h4⟩ := chk_some h2
  obtain ⟨k0, hk0⟩ := pobj_at h1
  exact fun H locs ls hP hD hS hl => va_put (D := (dC, dI)) (ci := cix) (v := v) (ty := ty0 k) (C := C) (T := T) (N := N) X.1 X.2.1 X.2.2.2.2.1 (fun w hw => List.mem_cons_of_mem _ (hu w hw)) ty0 hty hnm X.2.2.2.1 X.2.2.2.2.2.1 hP hD hS _ (papp hk0) hc k hk (X.word hw) (fun _ h9 => h9) hfin (hty k hk) hn hfit h3 hd (fun H1 locs1 hP hD1 hS => by
    rw [psetw hD hk0] at hP hD1
    exact kk _ h4 H1 locs1 ls hP hD1 hS hl)
theorem pm_putF (X : gX p s m args c dC dI E A own cc nL w0) {C : String} {T : u_T} {N cix idx a : Nat} {ty0 : Nat → FieldType} {v : Value} (hu : ∀ w ∈ u_ws C T N, w ∈ TG) (hty : ∀ k, k < N → parseFieldDescriptor (T k).2.2.1 = some (ty0 k)) (hnm : ∀ a, a < N → ∀ b, b < N → a ≠ b → (T a).2.1 ≠ (T b).2.1) (hc : vwCl[cix]? = some (C, T, N)) (k : Nat) (hk : k < N) (hw : Cond.fieldLink own idx (T k).1 (T k).2.1 (T k).2.2.1 ∈ TG) (hfin : (T k).2.2.2 = true) (hin2 : meth.name = "<init>") (hdecl : (T k).1 = own) (hn : narrow (ty0 k) v = v) (hfit : fits (ty0 k) v = true) (hd : decode cc pc = .ok (.putfield idx, 3)) {K : va_W → Option α} (hf : ((pobj P cix a).bind fun fs => chk (k < fs.length) (stp (pset P a (.inr (cix, fs.set k v))) K)) = some res) (kk : ∀ P, K P = some res → GG p l e R s m args below meth c dC dI A nL cells slots Q (W0 ++ P) (pc + 3) lv st) : GG p l e R s m args below meth c dC dI A nL cells slots Q (W0 ++ P) pc lv (v :: .ref a :: st) := by
  obtain ⟨fs, h1, h2⟩ := Option.bind_eq_some_iff.mp hf
  obtain ⟨h3, h4⟩ := chk_some h2
  obtain ⟨k0, hk0⟩ := pobj_at h1
  exact fun H locs ls hP hD hS hl => va_putF (D := (dC, dI)) (ci := cix) (v := v) (ty := ty0 k) (C := C) (T := T) (N := N) X.1 X.2.1 X.2.2.2.2.1 (fun w hw => List.mem_cons_of_mem _ (hu w hw)) ty0 hty hnm X.2.2.2.1 X.2.2.2.2.2.1 hP hD hS _ (papp hk0) hc k hk (X.word hw) (fun _ h9 => h9) hfin hin2 hdecl (hty k hk) hn hfit h3 hd (fun H1 locs1 hP hD1 hS => by
    rw [psetw hD hk0] at hP hD1
    exact kk _ h4 H1 locs1 ls hP hD1 hS hl)
theorem pm_ast (X : gX p s m args c dC dI E A own cc nL w0) {a : Nat} {j v : Int32} (hd : decode cc pc = .ok (.iastore, 1)) {K : va_W → Option α} (hf : ((parE E P a).bind fun t => chk (inb j t.1 = true) (stp (pset P a (.inl (E 0, t.1, .inl (upd t.2 j.toNatClampNeg v)))) K)) = some res) (kk : ∀ P, K P = some res → GG p l e R s m args below meth c dC dI A nL cells slots Q (W0 ++ P) (pc + 1) lv st) : GG p l e R s m args below meth c dC dI A nL cells slots Q (W0 ++ P) pc lv (.int v :: .int j :: .ref a :: st) := by
  obtain ⟨⟨n0, f0⟩, h1, h2⟩ := Option.bind_eq_some_iff.mp hf
  obtain ⟨h3, h4⟩ := chk_some h2
  obtain ⟨k0, hk0⟩ := parE_at h1
  exact fun H locs ls hP hD hS hl => va_iast X.1 X.2.1 X.2.2.2.2.2.1 hP hD hS _ 0 (papp hk0) rfl (inb_in h3) hd (fun H1 locs1 hP hD1 hS => by
    rw [psetw hD hk0] at hP hD1
    exact kk _ h4 H1 locs1 ls hP hD1 hS hl)
theorem pm_astq (X : gX p s m args c dC dI E A own cc nL w0) {a b : Nat} {j : Int32} (hd : decode cc pc = .ok (.aastore, 1)) {K : va_W → Option α} (hf : ((parQ E P a).bind fun t => chk (inb j t.1 = true ∧ (pobj P 0 b).isSome = true) (stp (pset P a (.inl (E 4, t.1, .inr (.inr (.inr (.inr (va_up t.2 j.toNatClampNeg (some b)))))))) K)) = some res) (kk : ∀ P, K P = some res → GG p l e R s m args below meth c dC dI A nL cells slots Q (W0 ++ P) (pc + 1) lv st) : GG p l e R s m args below meth c dC dI A nL cells slots Q (W0 ++ P) pc lv (.ref b :: .int j :: .ref a :: st) := by
  obtain ⟨⟨n0, f0⟩, h1, h2⟩ := Option.bind_eq_some_iff.mp hf
  obtain ⟨⟨h3, h5⟩, h4⟩ := chk_some h2
  obtain ⟨k0, hk0⟩ := parQ_at h1
  obtain ⟨fs, hfs⟩ := Option.isSome_iff_exists.mp h5
  obtain ⟨k1, hk1⟩ := pobj_at hfs
  exact fun H locs ls hP hD hS hl => va_astq (r := (RX0, TX0, 6)) (ci := 0) X.1 X.2.1 X.2.2.2.2.2.1 hP hD hS _ 4 _ (papp hk0) rfl (papp hk1) rfl (inb_in h3) hd (fun H1 locs1 hP hD1 hS => by
    rw [psetw hD hk0] at hP hD1
    exact kk _ h4 H1 locs1 ls hP hD1 hS hl)
theorem g_backm (X : gX p s m args c dC dI E A own cc nL w0) {ws ws' : va_W} {ov : Option Value} {mc ms : Nat} {H : Heap} {locs : List Loc} {ls : Array Slot} {g : JFrame} {a : Array Value} (hg : g = F0 m pc ls g.stack) (hrun : va_Run p l e R s m args below meth c H locs cells slots mc ms g st (gQc dC dI ws ws' ov H.size a) (va_A ws H.size)) (hD : va_D A ws) (hS : va_S A s.heap H locs) (hl : lv_has ls nL lv) (k : GG p l e R s m args below meth c dC dI A nL (cells + mc) (slots + ms) Q ws' (pc + 3) lv (ov.toList ++ st)) : W p l e R s m args below meth c H locs cells slots Q g := by
  have hFc := g_free X hD hS
  intro T hT XS
  obtain ⟨v, st₀, t, T', L, h0, X', hL, e1, e2, ⟨⟨hv, hP1, hD1⟩, hz, hk⟩, stp⟩ := hrun T hT XS
  cases hv
  rw [h0] at hz hk
  obtain ⟨t2, a1, b1⟩ := k T'.heap (locs ++ L) ls (by rw [e1]; exact hP1) (hD1.weaken (fun _ q _ h => hFc q.1 h))
    ⟨Nat.le_trans hS.1 (by rw [e1]; exact hz), fun q h1 h2 => by rw [e1, hk q (Nat.lt_of_lt_of_le h1 hS.1) (fun z => h2 (hFc q z))]; exact hS.2.1 q h1 h2, fun q hq => by
      rcases List.mem_append.mp hq with h | h
      · exact hS.2.2 q h
      · exact hFc _ (hL q h)⟩ hl T' rfl X'
  exact ⟨t2, by rw [hg] at stp; rw [hg]; exact stp t2 a1, b1⟩
theorem cm_V (X : gX p s m args c dC dI E A own cc nL w0) (Y : envC ev A s) {y : MethodName} {b : ByteArray} {n idx mc ms : Nat} {ret : Option FieldType} {rm : Room} {As : List Value} {ws' : va_W} {ov : Option Value} {o cix : Nat} {C : String} {T : u_T} {N : Nat} (hf : cVf own idx y b n ret C As.length) (hM : CM l dC dI E ev y b n ret rm (.ref o :: As) (z + cells) (W0 ++ P) ws' ov mc ms) (he : ∃ (q0 : Nat) (fs : List Value), (W0 ++ P)[q0]? = some (o, .inr (cix, fs))) (hc : vwCl[cix]? = some (C, T, N)) (hR : rm.frames + 1 ≤ R.frames ∧ 8 + (n + 11) + rm.locals ≤ R.locals) (hrm : rm.cells = mc ∧ rm.slots = ms) (hst : (st.map fun v => v.category).sum ≤ 8) (hz : s.heap.size = z) (hk : mkok P z cells = true ∧ cells + mc ≤ R.cells ∧ slots + ms ≤ R.slots) (hd : decode cc pc = .ok (.invokevirtual idx, 3)) (k : GG p l e R s m args below meth c dC dI A nL (cells + mc) (slots + ms) Q ws' (pc + 3) lv (ov.toList ++ st)) : GG p l e R s m args below meth c dC dI A nL cells slots Q (W0 ++ P) pc lv (As.reverse ++ .ref o :: st) := by
  obtain ⟨q0, fs, he⟩ := he
  refine g_size hz hk.1 (fun H locs ls hsz hP hD hS hl => ?_)
  rw [← hsz] at hM
  exact g_backm X rfl (va_runV (As := As) (rest := st) (g := F0 m pc ls (As.reverse ++ .ref o :: st)) ⟨X.1, X.2.1, X.2.2.1, X.2.2.2.1, X.2.2.2.2.1⟩ hM (cwV As.length X.2.2.2.2.1 (TG_goodV hf.1 hf.2.1 hf.2.2.1 hf.2.2.2.1 hf.2.2.2.2.1) rfl hrm.1 hrm.2 hf.2.2.2.2.2 hR) ⟨cPc_blind, va_recv X.2.2.2.2.2.1 hP hc he, fun U hU hW => ⟨rfl, by rw [hU], by rw [hU]; exact hP, va_K.moved hW.alike X.2.2.2.2.2.1, hD.weaken (fun _ _ _ _ => trivial), Y.to (g_free X hD hS) hS hU hW⟩⟩ rfl rfl hl.1 rfl (lv_room hst) hd hk.2) hD hS hl k
theorem cm_T (X : gX p s m args c dC dI E A own cc nL w0) (Y : envC ev A s) {y : MethodName} {b : ByteArray} {n idx mc ms : Nat} {ret : Option FieldType} {rm : Room} {As : List Value} {ws' : va_W} {ov : Option Value} (hf : cTf own idx y b n ret As.length) (hM : CM l dC dI E ev y b n ret rm As (z + cells) (W0 ++ P) ws' ov mc ms) (hR : rm.frames + 1 ≤ R.frames ∧ 8 + (n + 11) + rm.locals ≤ R.locals) (hrm : rm.cells = mc ∧ rm.slots = ms) (hst : (st.map fun v => v.category).sum ≤ 8) (hz : s.heap.size = z) (hk : mkok P z cells = true ∧ cells + mc ≤ R.cells ∧ slots + ms ≤ R.slots) (hd : decode cc pc = .ok (.invokestatic idx, 3)) (k : GG p l e R s m args below meth c dC dI A nL (cells + mc) (slots + ms) Q ws' (pc + 3) lv (ov.toList ++ st)) : GG p l e R s m args below meth c dC dI A nL cells slots Q (W0 ++ P) pc lv (As.reverse ++ st) := by
  refine g_size hz hk.1 (fun H locs ls hsz hP hD hS hl => ?_)
  rw [← hsz] at hM
  exact g_backm X rfl (va_runS (As := As) (rest := st) (g := F0 m pc ls (As.reverse ++ st)) ⟨X.1, X.2.1, X.2.2.1, X.2.2.2.1, X.2.2.2.2.1⟩ hM (va_cwS As.length X.2.2.2.2.1 (TG_goodT hf.1 hf.2.1 hf.2.2.1 hf.2.2.2.1) rfl hrm.1 hrm.2 hf.2.2.2.2 hR) ⟨cPc_blind, fun U hU hW => ⟨rfl, by rw [hU], by rw [hU]; exact hP, va_K.moved hW.alike X.2.2.2.2.2.1, hD.weaken (fun _ _ _ _ => trivial), Y.to (g_free X hD hS) hS hU hW⟩⟩ rfl rfl hl.1 rfl (lv_room hst) hd hk.2) hD hS hl k
def cIf (own : String) (idx : Nat) (y : MethodName) (b : ByteArray) (n na : Nat) : Prop := Cond.code y b n none ∈ TG ∧ Cond.methodLink own idx y ∈ TG ∧ Cond.instanceMethod y ∈ TG ∧ Cond.initialized y.cls ∈ TG ∧ y.name = "<init>" ∧ (y.cls ≠ "java/lang/invoke/MethodHandle" ∧ y.cls ≠ "java/lang/invoke/VarHandle" ∧ (parseMethodDescriptor y.desc).map (fun d => d.parameters.length) = some na)
def cJf (own : String) (idx : Nat) (y : MethodName) (b : ByteArray) (n na : Nat) : Prop := Cond.code y b n none ∈ TG ∧ (own, idx, y) ∈ nestT ∧ Cond.instanceMethod y ∈ TG ∧ Cond.initialized y.cls ∈ TG ∧ y.name = "<init>" ∧ (y.cls ≠ "java/lang/invoke/MethodHandle" ∧ y.cls ≠ "java/lang/invoke/VarHandle" ∧ (parseMethodDescriptor y.desc).map (fun d => d.parameters.length) = some na)
theorem cm_I (X : gX p s m args c dC dI E A own cc nL w0) (Y : envC ev A s) {y : MethodName} {b : ByteArray} {n idx mc ms : Nat} {rm : Room} {As : List Value} {ws' : va_W} {ov : Option Value} {o : Nat} (hf : cIf own idx y b n As.length) (hM : CM l dC dI E ev y b n none rm (.ref o :: As) (z + cells) (W0 ++ P) ws' ov mc ms) (hR : rm.frames + 1 ≤ R.frames ∧ 8 + (n + 11) + rm.locals ≤ R.locals) (hrm : rm.cells = mc ∧ rm.slots = ms) (hst : (st.map fun v => v.category).sum ≤ 8) (hz : s.heap.size = z) (hk : mkok P z cells = true ∧ cells + mc ≤ R.cells ∧ slots + ms ≤ R.slots) (hd : decode cc pc = .ok (.invokespecial idx, 3)) (k : GG p l e R s m args below meth c dC dI A nL (cells + mc) (slots + ms) Q ws' (pc + 3) lv (ov.toList ++ st)) : GG p l e R s m args below meth c dC dI A nL cells slots Q (W0 ++ P) pc lv (As.reverse ++ .ref o :: st) := by
  refine g_size hz hk.1 (fun H locs ls hsz hP hD hS hl => ?_)
  rw [← hsz] at hM
  exact g_backm X rfl (va_runI (As := As) (rest := st) (g := F0 m pc ls (As.reverse ++ .ref o :: st)) ⟨X.1, X.2.1, X.2.2.1, X.2.2.2.1, X.2.2.2.2.1⟩ hM (cwI As.length X.2.2.2.2.1 (TG_goodC hf.1) rfl hrm.1 hrm.2 (X.word hf.2.2.2.1) (X.word hf.2.1) (X.word hf.2.2.1) hf.2.2.2.2.1 hf.2.2.2.2.2 hR) ⟨cPc_blind, fun U hU hW => ⟨rfl, by rw [hU], by rw [hU]; exact hP, va_K.moved hW.alike X.2.2.2.2.2.1, hD.weaken (fun _ _ _ _ => trivial), Y.to (g_free X hD hS) hS hU hW⟩⟩ rfl rfl hl.1 rfl (lv_room hst) hd hk.2) hD hS hl k
theorem cm_J (X : gX p s m args c dC dI E A own cc nL w0) (Y : envC ev A s) {y : MethodName} {b : ByteArray} {n idx mc ms : Nat} {rm : Room} {As : List Value} {ws' : va_W} {ov : Option Value} {o : Nat} (hf : cJf own idx y b n As.length) (hM : CM l dC dI E ev y b n none rm (.ref o :: As) (z + cells) (W0 ++ P) ws' ov mc ms) (hR : rm.frames + 1 ≤ R.frames ∧ 8 + (n + 11) + rm.locals ≤ R.locals) (hrm : rm.cells = mc ∧ rm.slots = ms) (hst : (st.map fun v => v.category).sum ≤ 8) (hz : s.heap.size = z) (hk : mkok P z cells = true ∧ cells + mc ≤ R.cells ∧ slots + ms ≤ R.slots) (hd : decode cc pc = .ok (.invokespecial idx, 3)) (k : GG p l e R s m args below meth c dC dI A nL (cells + mc) (slots + ms) Q ws' (pc + 3) lv (ov.toList ++ st)) : GG p l e R s m args below meth c dC dI A nL cells slots Q (W0 ++ P) pc lv (As.reverse ++ .ref o :: st) := by
  refine g_size hz hk.1 (fun H locs ls hsz hP hD hS hl => ?_)
  rw [← hsz] at hM
  exact g_backm X rfl (va_runIN (As := As) (rest := st) (g := F0 m pc ls (As.reverse ++ .ref o :: st)) ⟨X.1, X.2.1, X.2.2.1, X.2.2.2.1, X.2.2.2.2.1⟩ hM ⟨va_cnB As.length X.2.2.2.2.1 (TG_goodC hf.1) rfl hrm.1 hrm.2 (Y.1 _ hf.2.1) (X.word hf.2.2.2.1) hf.2.2.2.2.2 hR, hf.2.2.2.2.1, X.word hf.2.2.1⟩ ⟨cPc_blind, fun U hU hW => ⟨rfl, by rw [hU], by rw [hU]; exact hP, va_K.moved hW.alike X.2.2.2.2.2.1, hD.weaken (fun _ _ _ _ => trivial), Y.to (g_free X hD hS) hS hU hW⟩⟩ rfl rfl hl.1 rfl (lv_room hst) hd hk.2) hD hS hl k
theorem CM_of {y : MethodName} {b : ByteArray} {n mc ms : Nat} {ret : Option FieldType} {rm : Room} {as : List Value} {ws ws' : va_W} {ov : Option Value} (hy : plainName y.cls = true) (hown : y.cls = own) (hlen : (lg_sl as).length ≤ n)
    (body : ∀ (p : Program) (e : Env) (s : State) (m : MethodId) (args : Array Value) (below : List Frame) (meth : Method) (c : Code) (A : Nat → Prop) (Q : State → Prop), gX p s m args c dC dI E A own b n (Cond.code y b n ret) → envC ev A s → meth.sig.returnType = ret → meth.locks = false → meth.name = y.name → s.heap.size = z → A = va_A ws s.heap.size → Q = MQ below (gQc dC dI ws ws' ov s.heap.size) args s mc ms A → GG p l e rm s m args below meth c dC dI A n 0 0 Q ws 0 (lv_args 0 as) []) : CM l dC dI E ev y b n ret rm as z ws ws' ov mc ms := by
  refine Met.ofW (cc := b) (maxL := n) (ret := ret) hy rfl ?_
  intro p e s m args below meth c s₁ B hml hv
  obtain ⟨rfl, hsz, hP, hK, hD0, hE⟩ := hv
  subst hsz
  have hts := atoms_spec (ws := wT y b n ret) B.pre
  rw [lg_entry_eq]
  exact body p e s m _ below meth c _ _ ⟨B.exec, B.bytes, hml, hown ▸ findClass_of_methodNamed B.named, hts, hK, fun q h => Or.inr h⟩ hE B.returns B.notSynchronized (name_of_methodNamed B.named B.method).1 rfl rfl rfl s.heap [] _ hP hD0.self va_S.rf (lv_entry as hlen)
theorem g_objInit (X : gX p s m args c dC dI E A own cc nL w0) {idx a : Nat} (w1 : Cond.methodLink own idx Lib.objectInit ∈ TG) (w2 : Cond.instanceMethod Lib.objectInit ∈ TG) (w3 : Cond.code Lib.objectInit ⟨#[0xb1]⟩ 1 none ∈ TG) (hR : 1 ≤ R.frames ∧ 20 ≤ R.locals) (hst : (st.map fun v => v.category).sum ≤ 8) (hd : decode cc pc = .ok (.invokespecial idx, 3)) (k : GG p l e R s m args below meth c dC dI A nL cells slots Q ws (pc + 3) lv st) : GG p l e R s m args below meth c dC dI A nL cells slots Q ws pc lv (.ref a :: st) := fun H locs ls hP hD hS hl => W.objInit X.1 X.2.1 X.2.2.2.1 (X.word w1) (X.word w2) (X.word w3) rfl (hl.1.trans X.2.2.1.symm) rfl hd hR.1 (by have := lv_room (m := m) (pc := pc) (ls := ls) (rest := .ref a :: st) hst; omega) (k H locs ls hP hD hS hl)
theorem k_reti {ws0 : va_W} {mc ms : Nat} {wf : Int32 × CS × va_W → va_W} {S : CS} {res : Int32 × CS × va_W} (hA : A = va_A ws0 s.heap.size) (hQ : Q = MQ below (gQc dC dI ws0 (wf res) (some (.int res.1)) s.heap.size) args s mc ms A) (X : gX p s m args c dC dI E A own cc nL w0) (hr : meth.sig.returnType = some .int) (hlk : meth.locks = false) {v : Int32} (hd : decode cc pc = .ok (.ireturn, 1)) (hf : chk (cells ≤ mc ∧ slots ≤ ms) (some (v, S, P)) = some res) (hw : ws = wf (v, S, P)) : GG p l e R s m args below meth c dC dI A nL cells slots Q ws pc lv [.int v] := by
  obtain ⟨h1, h2⟩ := chk_some hf
  cases h2
  subst hw
  refine g_widen h1 ?_
  subst hQ
  exact g_iret hA X hr hlk hd
theorem k_retz {ws0 : va_W} {mc ms : Nat} {wf : Int32 × CS × va_W → va_W} {S : CS} {res : Int32 × CS × va_W} (hA : A = va_A ws0 s.heap.size) (hQ : Q = MQ below (gQc dC dI ws0 (wf res) (some (.int res.1)) s.heap.size) args s mc ms A) (X : gX p s m args c dC dI E A own cc nL w0) (hr : meth.sig.returnType = some .boolean) (hlk : meth.locks = false) {v : Int32} (hv : v = 0 ∨ v = 1) (hd : decode cc pc = .ok (.ireturn, 1)) (hf : chk (cells ≤ mc ∧ slots ≤ ms) (some (v, S, P)) = some res) (hw : ws = wf (v, S, P)) : GG p l e R s m args below meth c dC dI A nL cells slots Q ws pc lv [.int v] := by
  obtain ⟨h1, h2⟩ := chk_some hf
  cases h2
  subst hw
  refine g_widen h1 ?_
  subst hQ
  exact g_zret hA X hr hlk hv hd
theorem k_retq {cn : String} {ws0 : va_W} {mc ms : Nat} {wf : Option Nat × CS × va_W → va_W} {S : CS} {res : Option Nat × CS × va_W} (hA : A = va_A ws0 s.heap.size) (hQ : Q = MQ below (gQc dC dI ws0 (wf res) (some (va_rf res.1)) s.heap.size) args s mc ms A) (X : gX p s m args c dC dI E A own cc nL w0) (hr : meth.sig.returnType = some (.object cn)) (hlk : meth.locks = false) {v : Option Nat} (hd : decode cc pc = .ok (.areturn, 1)) (hf : chk (cells ≤ mc ∧ slots ≤ ms) (some (v, S, P)) = some res) (hw : ws = wf (v, S, P)) : GG p l e R s m args below meth c dC dI A nL cells slots Q ws pc lv [va_rf v] := by
  obtain ⟨h1, h2⟩ := chk_some hf
  cases h2
  subst hw
  refine g_widen h1 ?_
  subst hQ
  exact g_qret hA X hr hlk hd
theorem k_retv {ws0 : va_W} {mc ms : Nat} {wf : Unit × CS × va_W → va_W} {S : CS} {res : Unit × CS × va_W} (hA : A = va_A ws0 s.heap.size) (hQ : Q = MQ below (gQc dC dI ws0 (wf res) (none) s.heap.size) args s mc ms A) (X : gX p s m args c dC dI E A own cc nL w0) (hr : meth.sig.returnType = none) (hlk : meth.locks = false) (hd : decode cc pc = .ok (.return_, 1)) (hf : chk (cells ≤ mc ∧ slots ≤ ms) (some ((), S, P)) = some res) (hw : ws = wf ((), S, P)) : GG p l e R s m args below meth c dC dI A nL cells slots Q ws pc lv [] := by
  obtain ⟨h1, h2⟩ := chk_some hf
  cases h2
  subst hw
  refine g_widen h1 ?_
  subst hQ
  exact g_vret hA X hr hlk hd
def parL (E : Nat → ClassId) (P : va_W) (a : Nat) : Option (Nat × (Nat → Option Nat)) := (parq P a).bind fun t => if t.1 = E 3 then some t.2 else none
theorem parL_at {a n : Nat} {f : Nat → Option Nat} (h : parL E P a = some (n, f)) : ∃ k : Nat, P[k]? = some (a, .inl (E 3, n, .inr (.inr (.inr (.inr f))))) := by
  unfold parL at h
  obtain ⟨⟨c0, n0, f0⟩, h1, h2⟩ := Option.bind_eq_some_iff.mp h
  by_cases hc : c0 = E 3
  · rw [if_pos hc] at h2
    cases h2
    subst hc
    exact parq_at h1
  · rw [if_neg hc] at h2; cases h2
def pldl {α : Type} (E : Nat → ClassId) (P : va_W) (a : Nat) (j : Int32) (K : Option Nat → Option α) : Option α := (parL E P a).bind fun t => chk (inb j t.1 = true) (K (t.2 j.toNatClampNeg))
theorem p_aldl (X : gX p s m args c dC dI E A own cc nL w0) {a : Nat} {j : Int32} (hd : decode cc pc = .ok (.aaload, 1)) {K : Option Nat → Option α} (hf : pldl E P a j K = some res) (kk : ∀ v, K v = some res → GG p l e R s m args below meth c dC dI A nL cells slots Q (W0 ++ P) (pc + 1) lv (va_rf v :: st)) : GG p l e R s m args below meth c dC dI A nL cells slots Q (W0 ++ P) pc lv (.int j :: .ref a :: st) := by
  obtain ⟨⟨n0, f0⟩, h1, h2⟩ := Option.bind_eq_some_iff.mp hf
  obtain ⟨k0, hk0⟩ := parL_at h1
  obtain ⟨h3, h4⟩ := chk_some h2
  exact fun H locs ls hP hD hS hl => va_aldq X.1 X.2.1 X.2.2.2.2.2.1 hP _ 3 (papp hk0) rfl (inb_in h3) hd (kk _ h4 H locs ls hP hD hS hl)
theorem pm_astl (X : gX p s m args c dC dI E A own cc nL w0) {a : Nat} {q : Option Nat} {j : Int32} (hd : decode cc pc = .ok (.aastore, 1)) {K : va_W → Option α} (hf : ((parL E P a).bind fun t => chk (inb j t.1 = true ∧ pok P 5 q = true) (stp (pset P a (.inl (E 3, t.1, .inr (.inr (.inr (.inr (va_up t.2 j.toNatClampNeg q))))))) K)) = some res) (kk : ∀ P, K P = some res → GG p l e R s m args below meth c dC dI A nL cells slots Q (W0 ++ P) (pc + 1) lv st) : GG p l e R s m args below meth c dC dI A nL cells slots Q (W0 ++ P) pc lv (va_rf q :: .int j :: .ref a :: st) := by
  obtain ⟨⟨n0, f0⟩, h1, h2⟩ := Option.bind_eq_some_iff.mp hf
  obtain ⟨⟨h3, h5⟩, h4⟩ := chk_some h2
  obtain ⟨k0, hk0⟩ := parL_at h1
  cases q with
  | none => exact fun H locs ls hP hD hS hl => va_astqN (C := "LostLanes$Script") X.1 X.2.1 X.2.2.2.2.2.1 hP hD hS _ 3 (papp hk0) rfl (inb_in h3) hd (fun H1 locs1 hP hD1 hS => by
      rw [psetw hD hk0] at hP hD1
      exact kk _ h4 H1 locs1 ls hP hD1 hS hl)
  | some b =>
    obtain ⟨fs, hfs⟩ := Option.isSome_iff_exists.mp (show (pobj P 5 b).isSome = true from h5)
    obtain ⟨k1, hk1⟩ := pobj_at hfs
    exact fun H locs ls hP hD hS hl => va_astq (r := (RX5, TX5, 3)) (ci := 5) X.1 X.2.1 X.2.2.2.2.2.1 hP hD hS _ 3 _ (papp hk0) rfl (papp hk1) rfl (inb_in h3) hd (fun H1 locs1 hP hD1 hS => by
      rw [psetw hD hk0] at hP hD1
      exact kk _ h4 H1 locs1 ls hP hD1 hS hl)
theorem mk_by {n : Int32} (h : inb n 65536 = true) : n.toNatClampNeg * 4 ≤ 536870912 := by
  simp only [inb, Bool.and_eq_true, decide_eq_true_eq] at h
  have e : (n.toNatClampNeg : Int) = n.toInt := by show ((n.toInt.toNat : Nat) : Int) = _; omega
  omega
end MkRows
section MkCopy
variable {p : Program} {l : Launch} {e : Env} {R : Room} {s : State} {m : MethodId} {args : Array Value} {below : List Frame} {meth : Method} {c : Code} {dC : Nat → ClassId} {dI : Nat → Nat → Nat} {E : Nat → ClassId} {A : Nat → Prop} {own : String} {cc : ByteArray} {nL cells slots : Nat} {w0 : Cond} {Q : State → Prop} {ws : va_W} {pc : Nat} {lv : List (Nat × Value)} {st : List Value}
variable {P : va_W} {ev : Nat → Nat} {α : Type} {res : α} {z : Nat} {ho : Nat → Nat} {ro : Nat → Nat → Nat} {S : CS}
theorem pm_copySP (X : gX p s m args c dC dI E A own cc nL w0) {o1 k1 n1 idx a : Nat} (h1 : ars o1 k1 n1) {sp dp n : Int32} (w1 : Cond.methodLink own idx arraycopyName ∈ TG) (w2 : Cond.native arraycopyName ∈ TG) (w3 : Cond.static arraycopyName ∈ TG) (w4 : Cond.initialized "java/lang/System" ∈ TG) (hR : 1 ≤ R.frames ∧ 8 + (nativeFrameWords "java/lang/System" "arraycopy" 5 + 11) ≤ R.locals) (hst : (st.map fun v => v.category).sum ≤ 8) (hd : decode cc pc = .ok (.invokestatic idx, 3)) {K : va_W → Option α} (hf : ((parE E P a).bind fun t => chk (cpok sp dp n n1 t.1 = true) (stp (pset P a (.inl (E 0, t.1, .inl (va_cpy (ca S o1 k1) t.2 sp.toNatClampNeg dp.toNatClampNeg n.toNatClampNeg)))) K)) = some res) (kk : ∀ P, K P = some res → GG p l e R s m args below meth c dC dI A nL cells slots Q (CW E ho ro S ++ P) (pc + 3) lv st) : GG p l e R s m args below meth c dC dI A nL cells slots Q (CW E ho ro S ++ P) pc lv (.int n :: .int dp :: .ref a :: .int sp :: .ref (ro o1 k1) :: st) := by
  obtain ⟨q1, hq1⟩ := h1
  obtain ⟨⟨n2, f2⟩, g1, g2⟩ := Option.bind_eq_some_iff.mp hf
  obtain ⟨hc, hk⟩ := chk_some g2
  obtain ⟨k0, hk0⟩ := parE_at g1
  simp only [cpok, Bool.and_eq_true, decide_eq_true_eq] at hc
  obtain ⟨⟨⟨⟨a1, a2⟩, a3⟩, a4⟩, a5⟩ := hc
  have e1 : (sp.toNatClampNeg : Int) = sp.toInt := by show ((sp.toInt.toNat : Nat) : Int) = _; omega
  have e2 : (dp.toNatClampNeg : Int) = dp.toInt := by show ((dp.toInt.toNat : Nat) : Int) = _; omega
  have e3 : (n.toNatClampNeg : Int) = n.toInt := by show ((n.toInt.toNat : Nat) : Int) = _; omega
  exact fun H locs ls hP hD hS hl => va_copyi (ty := .int) X.1 X.2.1 (X.2.2.1.trans hl.1.symm) X.2.2.2.1 (X.word w1) (X.word w2) (X.word w3) (X.word w4) X.2.2.2.2.2.1 hP hD hS q1 _ 0 0 (hq1 E ho ro S P).1 (papp hk0) rfl rfl rfl (nn_lt a1) (nn_lt a2) (nn_lt a3) (by omega) (by omega) (fun _ _ => rfl) hR.1 (by omega) hd (fun H1 locs1 hP hD1 hS => by
    rw [psetw hD hk0] at hP hD1
    exact kk _ hk H1 locs1 ls hP hD1 hS hl)
theorem pm_copyPS (X : gX p s m args c dC dI E A own cc nL w0) {o2 k2 n2 idx a : Nat} (h2 : ars o2 k2 n2) {sp dp n : Int32} (w1 : Cond.methodLink own idx arraycopyName ∈ TG) (w2 : Cond.native arraycopyName ∈ TG) (w3 : Cond.static arraycopyName ∈ TG) (w4 : Cond.initialized "java/lang/System" ∈ TG) (hR : 1 ≤ R.frames ∧ 8 + (nativeFrameWords "java/lang/System" "arraycopy" 5 + 11) ≤ R.locals) (hst : (st.map fun v => v.category).sum ≤ 8) (hd : decode cc pc = .ok (.invokestatic idx, 3)) {K : CS → Option α} (hf : ((parE E P a).bind fun t => chk (cpok sp dp n t.1 n2 = true) (stc (cF S o2 k2 (va_cpy t.2 (ca S o2 k2) sp.toNatClampNeg dp.toNatClampNeg n.toNatClampNeg)) K)) = some res) (kk : ∀ S, K S = some res → GG p l e R s m args below meth c dC dI A nL cells slots Q (CW E ho ro S ++ P) (pc + 3) lv st) : GG p l e R s m args below meth c dC dI A nL cells slots Q (CW E ho ro S ++ P) pc lv (.int n :: .int dp :: .ref (ro o2 k2) :: .int sp :: .ref a :: st) := by
  obtain ⟨q2, hq2⟩ := h2
  obtain ⟨⟨n1, f1⟩, g1, g2⟩ := Option.bind_eq_some_iff.mp hf
  obtain ⟨hc, hk⟩ := chk_some g2
  obtain ⟨k0, hk0⟩ := parE_at g1
  simp only [cpok, Bool.and_eq_true, decide_eq_true_eq] at hc
  obtain ⟨⟨⟨⟨a1, a2⟩, a3⟩, a4⟩, a5⟩ := hc
  have e1 : (sp.toNatClampNeg : Int) = sp.toInt := by show ((sp.toInt.toNat : Nat) : Int) = _; omega
  have e2 : (dp.toNatClampNeg : Int) = dp.toInt := by show ((dp.toInt.toNat : Nat) : Int) = _; omega
  have e3 : (n.toNatClampNeg : Int) = n.toInt := by show ((n.toInt.toNat : Nat) : Int) = _; omega
  exact fun H locs ls hP hD hS hl => va_copyi (ty := .int) X.1 X.2.1 (X.2.2.1.trans hl.1.symm) X.2.2.2.1 (X.word w1) (X.word w2) (X.word w3) (X.word w4) X.2.2.2.2.2.1 hP hD hS _ q2 0 0 (papp hk0) (hq2 E ho ro S P).1 rfl rfl rfl (nn_lt a1) (nn_lt a2) (nn_lt a3) (by omega) (by omega) (fun _ _ => rfl) hR.1 (by omega) hd (fun H1 locs1 hP hD hS => by
    rw [(hq2 E ho ro S P).2] at hP hD
    exact kk _ hk H1 locs1 ls hP hD hS hl)
theorem ca_stq_10_3 (X : gX p s m args c dC dI E A own cc nL w0) {j : Int32} {a : Nat} (hd : decode cc pc = .ok (.aastore, 1)) {K : CS → Option α} (hf : chk (inb j 2 = true ∧ (pobj P 7 a).isSome = true) (stc (cQ S 0 j.toNatClampNeg (some a)) K) = some res) (k : ∀ S, K S = some res → GG p l e R s m args below meth c dC dI A nL cells slots Q (CW E ho ro S ++ P) (pc + 1) lv st) : GG p l e R s m args below meth c dC dI A nL cells slots Q (CW E ho ro S ++ P) pc lv (.ref a :: .int j :: .ref (ro 0 3) :: st) := by
  obtain ⟨⟨h1, h2⟩, h3⟩ := chk_some hf
  obtain ⟨fs, hfs⟩ := Option.isSome_iff_exists.mp h2
  obtain ⟨k0, hk0⟩ := pobj_at hfs
  exact fun H locs ls hP hD hS hl => va_astq (r := (RX7, TX7, 16)) (ci := 7) X.1 X.2.1 X.2.2.2.2.2.1 hP hD hS 1 5 _ rfl rfl (papp hk0) rfl (inb_in h1) hd (fun H1 locs1 hP hD hS => k (cQ S 0 j.toNatClampNeg (some a)) h3 H1 locs1 ls hP hD hS hl)
theorem g_aret {A : Nat → Prop} {ws0 : va_W} (hA : A = va_A ws0 s.heap.size) (X : gX p s m args c dC dI E A own cc nL w0) (hr : meth.sig.returnType = some (.array .int)) (hlk : meth.locks = false) {v : Nat} (hd : decode cc pc = .ok (.areturn, 1)) : GG p l e R s m args below meth c dC dI A nL cells slots (MQ below (gQc dC dI ws0 ws (some (.ref v)) s.heap.size) args s cells slots A) ws pc lv [.ref v] := by
  subst hA
  exact fun H locs ls hP hD hS hl => W.aret X.1 X.2.1 hr (Or.inr ⟨_, rfl⟩) (Or.inr ⟨_, rfl⟩) (fun t ht hW => ⟨⟨rfl, by rw [ht]; exact hP, hD⟩, hS.F ht⟩) hS.2.2 hd hlk
theorem k_reta {ws0 : va_W} {mc ms : Nat} {wf : Nat × CS × va_W → va_W} {S : CS} {res : Nat × CS × va_W} (hA : A = va_A ws0 s.heap.size) (hQ : Q = MQ below (gQc dC dI ws0 (wf res) (some (.ref res.1)) s.heap.size) args s mc ms A) (X : gX p s m args c dC dI E A own cc nL w0) (hr : meth.sig.returnType = some (.array .int)) (hlk : meth.locks = false) {v : Nat} (hd : decode cc pc = .ok (.areturn, 1)) (hf : chk (cells ≤ mc ∧ slots ≤ ms) (some (v, S, P)) = some res) (hw : ws = wf (v, S, P)) : GG p l e R s m args below meth c dC dI A nL cells slots Q ws pc lv [.ref v] := by
  obtain ⟨h1, h2⟩ := chk_some hf
  cases h2
  subst hw
  refine g_widen h1 ?_
  subst hQ
  exact g_aret hA X hr hlk hd
end MkCopy
