section LRows
variable {p : Program} {l : Launch} {e : Env} {R : Room} {s : State} {m : MethodId} {args : Array Value} {below : List Frame} {meth : Method} {c : Code} {dC : Nat → ClassId} {dI : Nat → Nat → Nat} {E : Nat → ClassId} {A : Nat → Prop} {own : String} {cc : ByteArray} {nL cells slots : Nat} {w0 : Cond} {Q : State → Prop} {ws : va_W} {pc : Nat} {lv : List (Nat × Value)} {st : List Value}
variable {M M' : va_W} {ev : Nat → Nat}
theorem fr_at {D : va_G} {cl : List vw_C} {ws M : va_W} {A : Nat → Prop} {H : Heap} (hP : va_P D cl (ws ++ M) H) (hD : va_D A (ws ++ M)) : (va_P D cl ws H ∧ va_D A ws) ∧ (va_P D cl M H ∧ va_D A M) ∧ (∀ (i j : Nat) (x y : Nat × va_E), ws[i]? = some x → M[j]? = some y → x.1 ≠ y.1) := by
  have el : ∀ {i : Nat} {x : Nat × va_E}, ws[i]? = some x → (ws ++ M)[i]? = some x := fun {i x} h => by
    rw [List.getElem?_append_left (List.getElem?_eq_some_iff.mp h).1]; exact h
  refine ⟨⟨fun k q h => hP k q (el h), fun i j p q hi hj => hD.1 i j p q (el hi) (el hj), fun k q h => hD.2 k q (el h)⟩, ⟨fun k q h => hP _ q (papp h), fun i j p q hi hj e => ?_, fun k q h => hD.2 _ q (papp h)⟩, fun i j x y hi hj e => ?_⟩
  · have := hD.1 _ _ p q (papp hi) (papp hj) e
    omega
  · have h1 := hD.1 i (ws.length + j) x y (el hi) (papp hj) e
    have h2 := (List.getElem?_eq_some_iff.mp hi).1
    omega
theorem fr_app {D : va_G} {cl : List vw_C} {ws M : va_W} {A : Nat → Prop} {H : Heap} (hP : va_P D cl ws H) (hD : va_D A ws) (hP2 : va_P D cl M H) (hD2 : va_D A M) (hx : ∀ (i j : Nat) (x y : Nat × va_E), ws[i]? = some x → M[j]? = some y → x.1 ≠ y.1) : va_P D cl (ws ++ M) H ∧ va_D A (ws ++ M) := ⟨va_P.app hP hP2, va_D.app hD hD2 (fun i j x y hi hj e => hx i j x y hi hj e)⟩
/-- one side's call: the other side stays -/
theorem fr_keep {D : va_G} {cl : List vw_C} {ws w1 M : va_W} {H H1 : Heap} (hPM : va_P D cl M H) (hx : ∀ (i j : Nat) (x y : Nat × va_E), ws[i]? = some x → M[j]? = some y → x.1 ≠ y.1) (hk : ∀ q : Nat, q < H.size → ¬ va_A ws H.size q → H1[q]? = H[q]?) (hD1 : va_D (va_A ws H.size) w1) : va_P D cl M H1 ∧ (∀ (i j : Nat) (x y : Nat × va_E), w1[i]? = some x → M[j]? = some y → x.1 ≠ y.1) := by
  have ap : ∀ (j : Nat) (y : Nat × va_E), M[j]? = some y → ¬ va_A ws H.size y.1 := fun j y hy h => by
    rcases h with ⟨k, e, h⟩ | h
    · exact hx k j _ y h hy rfl
    · have := (hPM j y hy).lt
      omega
  exact ⟨fun j y hy => (hPM j y hy).kept (hk y.1 (hPM j y hy).lt (ap j y hy)), fun i j x y hi hj e => ap j y hj (by rw [← e]; exact hD1.2 i x hi)⟩
theorem l_callL (X : gX p s m args c dC dI E A own cc nL w0) (Y : envC ev A s) {y : MethodName} {b : ByteArray} {n idx mc ms : Nat} {ret : Option FieldType} {rm : Room} {As : List Value} {o cix : Nat} {C : String} {T : u_T} {N : Nat} (Φ : va_W → Option Value → Prop) (hf : cVf own idx y b n ret C As.length) (he : ∃ (q0 : Nat) (fs : List Value), ws[q0]? = some (o, .inr (cix, fs))) (hc : vwCl[cix]? = some (C, T, N)) (hR : rm.frames + 1 ≤ R.frames ∧ 8 + (n + 11) + rm.locals ≤ R.locals) (hrm : rm.cells = mc ∧ rm.slots = ms) (hst : (st.map fun v => v.category).sum ≤ 8) (hroom : cells + mc ≤ R.cells ∧ slots + ms ≤ R.slots) (hM : ∀ z, (∀ (k : Nat) (q : Nat × va_E), ws[k]? = some q → q.1 < z) → ∃ (ws' : va_W) (ov : Option Value), CM l dC dI E ev y b n ret rm (.ref o :: As) z ws ws' ov mc ms ∧ Φ ws' ov) (hd : decode cc pc = .ok (.invokevirtual idx, 3)) (k : ∀ (ws' : va_W) (ov : Option Value), Φ ws' ov → GG p l e R s m args below meth c dC dI A nL (cells + mc) (slots + ms) Q (ws' ++ M) (pc + 3) lv (ov.toList ++ st)) : GG p l e R s m args below meth c dC dI A nL cells slots Q (ws ++ M) pc lv (As.reverse ++ .ref o :: st) := by
  obtain ⟨q0, fs, he⟩ := he
  intro H locs ls hP hD hS hl
  obtain ⟨hw, hm, hx⟩ := fr_at hP hD
  obtain ⟨ws', ov, hM, hΦ⟩ := hM H.size (fun k q hq => (hw.1 k q hq).lt)
  have hrun := va_runV (l := l) (e := e) (below := below) (meth := meth) (locs := locs) (cells := cells) (slots := slots) (As := As) (rest := st) (g := F0 m pc ls (As.reverse ++ .ref o :: st)) ⟨X.1, X.2.1, X.2.2.1, X.2.2.2.1, X.2.2.2.2.1⟩ hM (cwV As.length X.2.2.2.2.1 (TG_goodV hf.1 hf.2.1 hf.2.2.1 hf.2.2.2.1 hf.2.2.2.2.1) rfl hrm.1 hrm.2 hf.2.2.2.2.2 hR) ⟨cPc_blind, va_recv X.2.2.2.2.2.1 hw.1 hc he, fun U hU hW => ⟨rfl, by rw [hU], by rw [hU]; exact hw.1, va_K.moved hW.alike X.2.2.2.2.2.1, hw.2.weaken (fun _ _ _ _ => trivial), Y.to (g_free X hw.2 hS) hS hU hW⟩⟩ rfl rfl hl.1 rfl (lv_room hst) hd hroom
  intro T hT XS
  obtain ⟨v, st₀, t, T', L9, h0, X', hL, e1, e2, ⟨⟨hv, hP1, hD1⟩, hz, hk⟩, stp⟩ := hrun T hT XS
  cases hv
  rw [h0] at hz hk
  have hk' : ∀ q : Nat, q < H.size → ¬ va_A ws H.size q → T'.heap[q]? = H[q]? := fun q a1 a2 => by rw [e1]; exact hk q a1 a2
  have hFc : ∀ q, va_A ws H.size q → A q := g_free X hw.2 hS
  have hS1 : va_S A s.heap T'.heap (locs ++ L9) := ⟨Nat.le_trans hS.1 (by rw [e1]; exact hz), fun q h1 h2 => by rw [hk' q (Nat.lt_of_lt_of_le h1 hS.1) (fun z => h2 (hFc q z))]; exact hS.2.1 q h1 h2, fun q hq => by
      rcases List.mem_append.mp hq with h | h
      · exact hS.2.2 q h
      · exact hFc _ (hL q h)⟩
  obtain ⟨hPM, hx1⟩ := fr_keep hm.1 hx hk' hD1
  obtain ⟨hP2, hD2⟩ := fr_app (by rw [e1]; exact hP1) (hD1.weaken (fun _ q _ h => hFc q.1 h)) hPM hm.2 hx1
  obtain ⟨t2, a1, b1⟩ := k ws' ov hΦ T'.heap (locs ++ L9) ls hP2 hD2 hS1 hl T' rfl X'
  exact ⟨t2, stp t2 a1, b1⟩
theorem l_callR (X : gX p s m args c dC dI E A own cc nL w0) {y : MethodName} {b : ByteArray} {n idx : Nat} {ret : Option FieldType} {rm : Room} {As : List Value} {o cix : Nat} {C : String} {T : u_T} {N : Nat} {ov : Option Value} (hf : cVf own idx y b n ret C As.length) (he : ∃ (q0 : Nat) (fs : List Value), M[q0]? = some (o, .inr (cix, fs))) (hc : vwCl[cix]? = some (C, T, N)) (hR : rm.frames + 1 ≤ R.frames ∧ 8 + (n + 11) + rm.locals ≤ R.locals) (hrm : rm.cells = 0 ∧ rm.slots = 0) (hst : (st.map fun v => v.category).sum ≤ 8) (hroom : cells + 0 ≤ R.cells ∧ slots + 0 ≤ R.slots) (hM : MC l dC dI E y b n ret rm (.ref o :: As) M M' ov) (hd : decode cc pc = .ok (.invokevirtual idx, 3)) (k : GG p l e R s m args below meth c dC dI A nL cells slots Q (ws ++ M') (pc + 3) lv (ov.toList ++ st)) : GG p l e R s m args below meth c dC dI A nL cells slots Q (ws ++ M) pc lv (As.reverse ++ .ref o :: st) := by
  obtain ⟨q0, fs, he⟩ := he
  intro H locs ls hP hD hS hl
  obtain ⟨hw, hm, hx⟩ := fr_at hP hD
  have hrun := va_runV (l := l) (e := e) (below := below) (meth := meth) (locs := locs) (cells := cells) (slots := slots) (As := As) (rest := st) (g := F0 m pc ls (As.reverse ++ .ref o :: st)) ⟨X.1, X.2.1, X.2.2.1, X.2.2.2.1, X.2.2.2.2.1⟩ (hM H.size) (cwV As.length X.2.2.2.2.1 (TG_goodV hf.1 hf.2.1 hf.2.2.1 hf.2.2.2.1 hf.2.2.2.2.1) rfl hrm.1 hrm.2 hf.2.2.2.2.2 hR) ⟨gPc_blind, va_recv X.2.2.2.2.2.1 hm.1 hc he, fun U hU hW => ⟨rfl, by rw [hU], by rw [hU]; exact hm.1, va_K.moved hW.alike X.2.2.2.2.2.1, hm.2.weaken (fun _ _ _ _ => trivial)⟩⟩ rfl rfl hl.1 rfl (lv_room hst) hd hroom
  intro T hT XS
  obtain ⟨v, st₀, t, T', L9, h0, X', hL, e1, e2, ⟨⟨hv, hP1, hD1⟩, hz, hk⟩, stp⟩ := hrun T hT XS
  cases hv
  rw [h0] at hz hk
  have hk' : ∀ q : Nat, q < H.size → ¬ va_A M H.size q → T'.heap[q]? = H[q]? := fun q a1 a2 => by rw [e1]; exact hk q a1 a2
  have hFc : ∀ q, va_A M H.size q → A q := g_free X hm.2 hS
  have hS1 : va_S A s.heap T'.heap (locs ++ L9) := ⟨Nat.le_trans hS.1 (by rw [e1]; exact hz), fun q h1 h2 => by rw [hk' q (Nat.lt_of_lt_of_le h1 hS.1) (fun z => h2 (hFc q z))]; exact hS.2.1 q h1 h2, fun q hq => by
      rcases List.mem_append.mp hq with h | h
      · exact hS.2.2 q h
      · exact hFc _ (hL q h)⟩
  obtain ⟨hPM, hx1⟩ := fr_keep hw.1 (fun i j x y hi hj e => hx j i y x hj hi e.symm) hk' hD1
  obtain ⟨hP2, hD2⟩ := fr_app hPM hw.2 (by rw [e1]; exact hP1) (hD1.weaken (fun _ q _ h => hFc q.1 h)) (fun i j x y hi hj e => hx1 j i y x hj hi e.symm)
  obtain ⟨t2, a1, b1⟩ := k T'.heap (locs ++ L9) ls hP2 hD2 hS1 hl T' rfl X'
  exact ⟨t2, stp t2 a1, b1⟩
theorem l_sld (X : gX p s m args c dC dI E A own cc nL w0) {b L : Nat} {xs : Nat → Int32} (hX : va_X b L xs s s.heap) (hbl : b < s.heap.size) (hbA : ¬ A b) {i : Int32} (hin : vp_in i L) (hd : decode cc pc = .ok (.iaload, 1)) (k : GG p l e R s m args below meth c dC dI A nL cells slots Q ws (pc + 1) lv (.int (xs i.toNatClampNeg) :: st)) : GG p l e R s m args below meth c dC dI A nL cells slots Q ws pc lv (.int i :: .ref b :: st) := fun H locs ls hP hD hS hl => va_sld X.1 X.2.1 hX hbl hbA hS hin hd (k H locs ls hP hD hS hl)
theorem l_slen (X : gX p s m args c dC dI E A own cc nL w0) {b L : Nat} {xs : Nat → Int32} (hX : va_X b L xs s s.heap) (hbl : b < s.heap.size) (hbA : ¬ A b) (hd : decode cc pc = .ok (.arraylength, 1)) (k : GG p l e R s m args below meth c dC dI A nL cells slots Q ws (pc + 1) lv (.int (Int32.ofNat L) :: st)) : GG p l e R s m args below meth c dC dI A nL cells slots Q ws pc lv (.ref b :: st) := fun H locs ls hP hD hS hl => va_slen X.1 X.2.1 hX hbl hbA hS hd (k H locs ls hP hD hS hl)
theorem l_same (X : gX p s m args c dC dI E A own cc nL w0) {x : Int32} {off : Int} {tgt : Nat} (hd : decode cc pc = .ok (.if_icmp .eq off, 3)) (ht : (pc : Int) + off = (tgt : Int)) (k : GG p l e R s m args below meth c dC dI A nL cells slots Q ws tgt lv st) : GG p l e R s m args below meth c dC dI A nL cells slots Q ws pc lv (.int x :: .int x :: st) := fun H locs ls hP hD hS hl => lv_icmp_eq X.1 X.2.1 hd ht (fun _ => k H locs ls hP hD hS hl) (fun h => absurd rfl h)
theorem l_sameL (X : gX p s m args c dC dI E A own cc nL w0) {x : Int64} {off : Int} {tgt : Nat} (hd0 : decode cc pc = .ok (.lcmp, 1)) (hd : decode cc (pc + 1) = .ok (.ifCond .eq off, 3)) (ht : ((pc + 1 : Nat) : Int) + off = (tgt : Int)) (k : GG p l e R s m args below meth c dC dI A nL cells slots Q ws tgt lv st) : GG p l e R s m args below meth c dC dI A nL cells slots Q ws pc lv (.long x :: .long x :: st) := fun H locs ls hP hD hS hl => W.lcmp X.1 X.2.1 hd0 (lv_if_eq X.1 X.2.1 hd ht (fun _ => k H locs ls hP hD hS hl) (fun h => absurd ((zc_eq x x).mpr rfl) h))
theorem l_gt (X : gX p s m args c dC dI E A own cc nL w0) {x y : Int32} {off : Int} {tgt : Nat} (hd : decode cc pc = .ok (.if_icmp .gt off, 3)) (ht : (pc : Int) + off = (tgt : Int)) (kt : y < x → GG p l e R s m args below meth c dC dI A nL cells slots Q ws tgt lv st) (kf : ¬ y < x → GG p l e R s m args below meth c dC dI A nL cells slots Q ws (pc + 3) lv st) : GG p l e R s m args below meth c dC dI A nL cells slots Q ws pc lv (.int y :: .int x :: st) := fun H locs ls hP hD hS hl => lv_icmp_gt X.1 X.2.1 hd ht (fun h => kt h H locs ls hP hD hS hl) (fun h => kf h H locs ls hP hD hS hl)
end LRows
