/-- the class: what stays when something is done in the town o -/
def KZ (o : Nat) (S T : CS) : Prop := ci T = ci S ∧ cb T = cb S ∧ cq T = cq S ∧ ∀ o' k, o' ≠ 12 → o' ≠ 11 → (o' ≠ o ∨ (k ≠ 4 ∧ k ≠ 7 ∧ k ≠ 8 ∧ k ≠ 12)) → ca T o' k = ca S o' k
theorem KZ.rf {o : Nat} {S : CS} : KZ o S S := ⟨rfl, rfl, rfl, fun _ _ _ _ _ => rfl⟩
theorem KZ.tr {o : Nat} {S T U : CS} (h : KZ o S T) (k : KZ o T U) : KZ o S U := ⟨k.1.trans h.1, k.2.1.trans h.2.1, k.2.2.1.trans h.2.2.1, fun o i a b c => (k.2.2.2 o i a b c).trans (h.2.2.2 o i a b c)⟩
theorem KW.kz {o : Nat} {S T : CS} (h : KW S T) : KZ o S T := ⟨h.1, h.2.1, h.2.2.1, fun o' k a b _ => h.2.2.2 o' k a (Or.inl b)⟩
theorem kz_go (S : CS) (o c : Nat) (y x : Int32) : KZ o S (cGo S o c y x) := ⟨rfl, rfl, rfl, fun o' k a b z => cGo_n _ _ _ _ _ (by omega)⟩
theorem kz_F (S : CS) {o k : Nat} (h : k = 4 ∨ k = 7 ∨ k = 8 ∨ k = 12) (f : Nat → Int32) : KZ o S (cF S o k f) := ⟨rfl, rfl, rfl, fun o' i a b z => ca_cFn _ _ _ _ _ _ (by omega)⟩
theorem TW_KW {S T : CS} {o : Nat} {R : Nat → Int32} (h1 : o ≠ 11) (h2 : o ≠ 12) (k : KW S T) (h : TW (ci S o) (ca S o) R) : TW (ci T o) (ca T o) R := by
  rw [k.1, show ca T o = ca S o from funext fun i => k.2.2.2 o i h2 (Or.inl h1)]; exact h
theorem TW_hour {I : Nat → Int32} {A A' : Nat → Nat → Int32} {R : Nat → Int32} (v : Int32) (h : TW I A R) (e12 : A' 12 = upd (A 12) 0 v) (en : ∀ k, k ≠ 12 → A' k = A k) : TW I A' (upd R 5 v) := by
  obtain ⟨⟨t1, t2, t3, t4, t5⟩, tl, tc, th, tt⟩ := h
  refine ⟨⟨?_, ?_, ?_, ?_, ?_⟩, fun i hi => ?_, fun i hi => ?_, fun i hi => ?_, fun i hi => ?_⟩
  · simp (disch := omega) only [upd_d, if_neg]; exact t1
  · simp (disch := omega) only [upd_d, if_neg]; exact t2
  · simp (disch := omega) only [upd_d, if_neg]; exact t3
  · simp (disch := omega) only [upd_d, if_neg]; exact t4
  · simp (disch := omega) only [upd_d, if_neg]; exact t5
  · rw [en 0 (by decide), en 1 (by decide), en 2 (by decide), en 3 (by decide), en 4 (by decide)]
    simp (disch := omega) only [upd_d, if_neg]; exact tl i hi
  · rw [en 6 (by decide), en 7 (by decide), en 8 (by decide)]
    simp (disch := omega) only [upd_d, if_neg]; exact tc i hi
  · rw [en 10 (by decide)]
    simp (disch := omega) only [upd_d, if_neg]; exact th i hi
  · rw [e12]
    by_cases e : i = 0
    · subst e; rfl
    · simp (disch := omega) only [upd_d, if_neg]; exact tt i hi
theorem TW_name {I : Nat → Int32} {A A' : Nat → Nat → Int32} {R : Nat → Int32} {j : Nat} (hj : j < 10) (v : Int32) (h : TW I A R) (e4 : A' 4 = upd (A 4) j v) (en : ∀ k, k ≠ 4 → A' k = A k) : TW I A' (upd R (8 + j) v) := by
  obtain ⟨⟨t1, t2, t3, t4, t5⟩, tl, tc, th, tt⟩ := h
  refine ⟨⟨?_, ?_, ?_, ?_, ?_⟩, fun i hi => ?_, fun i hi => ?_, fun i hi => ?_, fun i hi => ?_⟩
  · simp (disch := omega) only [upd_d, if_neg]; exact t1
  · simp (disch := omega) only [upd_d, if_neg]; exact t2
  · simp (disch := omega) only [upd_d, if_neg]; exact t3
  · simp (disch := omega) only [upd_d, if_neg]; exact t4
  · simp (disch := omega) only [upd_d, if_neg]; exact t5
  · rw [en 0 (by decide), en 1 (by decide), en 2 (by decide), en 3 (by decide), e4]
    obtain ⟨l0, l1, l2, l3, l4⟩ := tl i hi
    by_cases e : i = j
    · subst e
      simp (disch := omega) only [upd_d, if_neg, if_pos, ite_true]
      exact ⟨l0, l1, l2, l3, trivial⟩
    · simp (disch := omega) only [upd_d, if_neg]
      exact ⟨l0, l1, l2, l3, l4⟩
  · rw [en 6 (by decide), en 7 (by decide), en 8 (by decide)]
    simp (disch := omega) only [upd_d, if_neg]; exact tc i hi
  · rw [en 10 (by decide)]
    simp (disch := omega) only [upd_d, if_neg]; exact th i hi
  · rw [en 12 (by decide)]
    simp (disch := omega) only [upd_d, if_neg]; exact tt i hi
theorem TW_lead {I : Nat → Int32} {A A' : Nat → Nat → Int32} {R : Nat → Int32} {c : Nat} (hc : c < 4) (v : Int32) (h : TW I A R) (e7 : A' 7 = upd (A 7) c v) (en : ∀ k, k ≠ 7 → A' k = A k) : TW I A' (upd R (18 + c) v) := by
  obtain ⟨⟨t1, t2, t3, t4, t5⟩, tl, tc, th, tt⟩ := h
  refine ⟨⟨?_, ?_, ?_, ?_, ?_⟩, fun i hi => ?_, fun i hi => ?_, fun i hi => ?_, fun i hi => ?_⟩
  · simp (disch := omega) only [upd_d, if_neg]; exact t1
  · simp (disch := omega) only [upd_d, if_neg]; exact t2
  · simp (disch := omega) only [upd_d, if_neg]; exact t3
  · simp (disch := omega) only [upd_d, if_neg]; exact t4
  · simp (disch := omega) only [upd_d, if_neg]; exact t5
  · rw [en 0 (by decide), en 1 (by decide), en 2 (by decide), en 3 (by decide), en 4 (by decide)]
    simp (disch := omega) only [upd_d, if_neg]; exact tl i hi
  · rw [en 6 (by decide), e7, en 8 (by decide)]
    obtain ⟨l0, l1, l2⟩ := tc i hi
    by_cases e : i = c
    · subst e
      simp (disch := omega) only [upd_d, if_neg, if_pos, ite_true]
      exact ⟨l0, trivial, l2⟩
    · simp (disch := omega) only [upd_d, if_neg]
      exact ⟨l0, l1, l2⟩
  · rw [en 10 (by decide)]
    simp (disch := omega) only [upd_d, if_neg]; exact th i hi
  · rw [en 12 (by decide)]
    simp (disch := omega) only [upd_d, if_neg]; exact tt i hi
theorem VA_lead {R : Nat → Int32} {L C c k : Nat} (hc : c < C) (hk : k < 8) (va : VA R L C) : VA (upd R (18 + c) (nI k)) L C := by
  obtain ⟨⟨vL, vC, v0, v1⟩, vl, vc, vh, vq, vm⟩ := va
  have far : ∀ i, i ≠ 18 + c → upd R (18 + c) (nI k) i = R i := fun i a => pk_un a
  refine ⟨⟨vL, vC, by rw [far _ (by omega)]; exact v0, by rw [far _ (by omega)]; exact v1⟩, fun i hi => VL_cg (far _ (by omega)) (far _ (by omega)) (far _ (by omega)) (far _ (by omega)) (far _ (by omega)) (vl i hi), fun i hi => ?_, by rw [far _ (by omega)]; exact vh, by rw [far _ (by omega)]; exact vq, by rw [far _ (by omega)]; exact vm⟩
  by_cases e : i = c
  · subst e
    exact ⟨by rw [far _ (by omega)]; exact (vc i hi).1, ⟨k, hk, pk_us⟩, by rw [far _ (by omega)]; exact (vc i hi).2.2⟩
  · exact VC_cg (Nat.le_refl _) (far _ (by omega)) (far _ (by omega)) (far _ (by omega)) (vc i hi)
theorem VA_name {R : Nat → Int32} {L C j m : Nat} (hj : j < L) (hm : m < 20) (va : VA R L C) : VA (upd R (8 + j) (nI m)) L C := by
  obtain ⟨⟨vL, vC, v0, v1⟩, vl, vc, vh, vq, vm⟩ := va
  have far : ∀ i, i ≠ 8 + j → upd R (8 + j) (nI m) i = R i := fun i a => pk_un a
  refine ⟨⟨vL, vC, by rw [far _ (by omega)]; exact v0, by rw [far _ (by omega)]; exact v1⟩, fun i hi => ?_, fun i hi => VC_cg (Nat.le_refl _) (far _ (by omega)) (far _ (by omega)) (far _ (by omega)) (vc i hi), by rw [far _ (by omega)]; exact vh, by rw [far _ (by omega)]; exact vq, by rw [far _ (by omega)]; exact vm⟩
  by_cases e : i = j
  · subst e
    obtain ⟨b1, b2, b3, b4, b5, -⟩ := vl i hi
    exact ⟨by rw [far _ (by omega)]; exact b1, by rw [far _ (by omega)]; exact b2, by rw [far _ (by omega), far _ (by omega)]; exact b3, by rw [far _ (by omega)]; exact b4, by rw [far _ (by omega)]; exact b5, Or.inr ⟨m, hm, pk_us⟩⟩
  · exact VL_cg (far _ (by omega)) (far _ (by omega)) (far _ (by omega)) (far _ (by omega)) (far _ (by omega)) (vl i hi)
theorem VA_hour {R : Nat → Int32} {L C h : Nat} (hh : h ≤ 2000) (va : VA R L C) : VA (upd R 5 (nI h)) L C := by
  obtain ⟨⟨vL, vC, v0, v1⟩, vl, vc, vh, vq, vm⟩ := va
  have far : ∀ i, i ≠ 5 → upd R 5 (nI h) i = R i := fun i a => pk_un a
  exact ⟨⟨vL, vC, by rw [far _ (by omega)]; exact v0, by rw [far _ (by omega)]; exact v1⟩, fun i hi => VL_cg (far _ (by omega)) (far _ (by omega)) (far _ (by omega)) (far _ (by omega)) (far _ (by omega)) (vl i hi), fun i hi => VC_cg (Nat.le_refl _) (far _ (by omega)) (far _ (by omega)) (far _ (by omega)) (vc i hi), ⟨h, hh, pk_us⟩, by rw [far _ (by omega)]; exact vq, by rw [far _ (by omega)]; exact vm⟩
/-- the class lets an hour pass -/
theorem passInL {E : Nat → ClassId} {P : va_W} {q : Option Nat} {LS : Nat → (Nat → Int) → Option Int} {F o L C : Nat} {R I0 : Nat → Int32} {Q0 : Nat → Option Nat} (h : LQ E P R q LS) (hF : 1000 ≤ F) (ho : o ≠ 11) (ho2 : o ≠ 12) (va : VA R L C) (hq : ∀ T : CS, ci T o = I0 → cq T o = Q0 → C_7_lawInForce T o = some q) : ∀ (k c fuel : Nat) (S : CS), c + k = C → k < fuel → ci S o = I0 → cq S o = Q0 → TW (ci S o) (ca S o) (gA LS R L c) → ∃ T, C_10_passIn_L19 F E P o fuel S (nI (wnt LS R L c)) (nI c) = some (nI (wnt LS R L C), T) ∧ TW (ci T o) (ca T o) (psR LS R L C) ∧ KZ o S T
  | 0, c, fuel + 1, S, e, _, eI, eQ, t => by
    obtain rfl : c = C := by omega
    have hC := va.1.2.1
    have e9 : ci S o 9 = nI c := by rw [t.1.2.1, gA_n (by omega) (by omega)]; exact va.1.2.2.2
    have e12 : ca S o 12 0 = R 5 := by rw [t.2.2.2.2 0 (by omega), gA_n (by omega) (by omega)]
    rw [C_10_passIn_L19, e9, if_pos (nI_le (Nat.le_refl _) (by omega)), stc_d, e12]
    refine ⟨_, rfl, TW_hour (A := ca S o) (R 5 + 1) t ?_ (fun k hk => ?_), kz_F S (Or.inr (Or.inr (Or.inr rfl))) _⟩
    · exact ca_cF _ _ _ _
    · exact ca_cFn _ _ _ _ _ _ (Or.inr hk)
  | k + 1, c, fuel + 1, S, e, hf, eI, eQ, t => by
    have hC := va.1.2.1
    have hL := va.1.1
    have e9 : ci S o 9 = nI C := by rw [t.1.2.1, gA_n (by omega) (by omega)]; exact va.1.2.2.2
    have vg := VA_gA (LS := LS) va c (by omega)
    have lg : LQ E P (gA LS R L c) q LS := LQ_cg h (gA_n (by omega) (by omega)) (fun i hi => gA_n (by omega) (by omega))
    obtain ⟨T, g1, g2⟩ := qc_taken (c := c) lg hF ho ho2 (t.tv (by omega)) vg (by omega)
    have es : laneS LS (gA LS R L c) L c = laneS LS R L c := laneS_cg (gA_n (by omega) (by omega)) (gA_n (by omega) (by omega)) (gA_n (by omega) (by omega)) (gA_n (by omega) (by omega)) (fun i hi => gA_n (by omega) (by omega))
    rw [es] at g1
    rw [C_10_passIn_L19, e9, if_neg (nI_ge (by omega) (by omega)), hq S eI eQ, bs, g1, bs]
    have t' := TW_KW ho ho2 g2 t
    have eI' : ci T o = I0 := by rw [g2.1, eI]
    have eQ' : cq T o = Q0 := by rw [g2.2.2.1, eQ]
    unfold C_10_passIn_B58
    have gs := gA_s (LS := LS) (R := R) (L := L) (n := c) (by omega)
    rcases laneS_c LS (gA LS R L c) L c with z | ⟨j, hj, z, ze⟩
    · rw [es] at z
      rw [z, goR_m1] at gs
      rw [gs] at t'
      obtain ⟨T', r1, r2, r3⟩ := passInL h hF ho ho2 va hq k (c + 1) fuel T (by omega) (by omega) eI' eQ' t'
      rw [show wnt LS R L (c + 1) = wnt LS R L c + 0 from by show wnt LS R L c + (if laneS LS R L c = -1 then 0 else 1) = _; rw [if_pos z], Nat.add_zero, nI_succ] at r1
      exact ⟨T', by rw [if_pos z]; exact r1, r2, g2.kz.tr r3⟩
    · rw [es] at z
      have nz : ¬ laneS LS R L c = -1 := by rw [z]; exact nI_m1 (by omega)
      rw [z] at gs
      have ga := qc_goAlong (j := j) (t'.tv (show c < 4 by omega)) vg (by omega) hj ze
      have t2 := TW_go (A' := ca (cGo T o c (acr (gA LS R L c) j (gA LS R L c (18 + c))) (nI j)) o) (show c < 4 by omega) (show j < 10 by omega) t' (cGo_7 _ _ _ _ _) (cGo_8 _ _ _ _ _) (fun k a b => cGo_n _ _ _ _ _ (Or.inr ⟨a, b⟩))
      rw [gs] at t2
      obtain ⟨T', r1, r2, r3⟩ := passInL h hF ho ho2 va hq k (c + 1) fuel (cGo T o c (acr (gA LS R L c) j (gA LS R L c (18 + c))) (nI j)) (by omega) (by omega) eI' eQ' t2
      rw [show wnt LS R L (c + 1) = wnt LS R L c + 1 from by show wnt LS R L c + (if laneS LS R L c = -1 then 0 else 1) = _; rw [if_neg nz], nI_succ, nI_succ] at r1
      refine ⟨T', ?_, r2, (g2.kz.tr (kz_go _ _ _ _ _)).tr r3⟩
      rw [if_neg nz]
      show (C_7_goAlong T o (nI c) (laneS LS R L c)).bind _ = _
      rw [z, ga, bs]; exact r1
/-- what is done, in the reference, leaves -/
def KY (σ τ : MS) : Prop := (∀ k, k ≠ 3 → k ≠ 6 → k ≠ 7 → k ≠ 41 → ma τ k = ma σ k) ∧ (∀ k, k ≠ 8 → k ≠ 34 → k ≠ 38 → mi τ k = mi σ k) ∧ (∀ k, k ≠ 35 → k ≠ 37 → mb τ k = mb σ k)
theorem KY.rf {σ : MS} : KY σ σ := ⟨fun _ _ _ _ _ => rfl, fun _ _ _ _ => rfl, fun _ _ _ => rfl⟩
theorem KY.tr {σ τ υ : MS} (h : KY σ τ) (k : KY τ υ) : KY σ υ := ⟨fun i a b c d => (k.1 i a b c d).trans (h.1 i a b c d), fun i a b c => (k.2.1 i a b c).trans (h.2.1 i a b c), fun i a b => (k.2.2 i a b).trans (h.2.2 i a b)⟩
theorem KP.ky {σ τ : MS} (h : KP σ τ) : KY σ τ := ⟨fun i _ _ _ d => h.1 i d, fun i _ b c => h.2.1 i b c, h.2.2⟩
theorem ky_F (σ : MS) {k : Nat} (hk : k = 3 ∨ k = 6 ∨ k = 7) (f : Nat → Int32) : KY σ (mF σ k f) := ⟨fun i a b c _ => by show va_up σ.2.2.1 k f i = _; rw [up_d, if_neg (by omega)], fun _ _ _ _ => rfl, fun _ _ _ => rfl⟩
theorem ky_8 (σ : MS) (v : Int32) : KY σ (mI σ 8 v) := ⟨fun _ _ _ _ _ => rfl, fun i a _ _ => by show upd σ.1 8 v i = _; exact pk_un a, fun _ _ _ => rfl⟩
/-- in the class -/
def KD (S T : CS) : Prop := (∀ o k, o ≠ 7 ∨ k ≠ 2 → ci T o k = ci S o k) ∧ cb T = cb S ∧ cq T = cq S ∧ ∀ o k, o ≠ 12 → o ≠ 11 → o ≠ 7 → (o ≠ 1 ∨ (k ≠ 4 ∧ k ≠ 7 ∧ k ≠ 8 ∧ k ≠ 12)) → ca T o k = ca S o k
theorem KD.rf {S : CS} : KD S S := ⟨fun _ _ _ => rfl, rfl, rfl, fun _ _ _ _ _ _ => rfl⟩
theorem KD.tr {S T U : CS} (h : KD S T) (k : KD T U) : KD S U := ⟨fun o i a => (k.1 o i a).trans (h.1 o i a), k.2.1.trans h.2.1, k.2.2.1.trans h.2.2.1, fun o i a b c d => (k.2.2.2 o i a b c d).trans (h.2.2.2 o i a b c d)⟩
theorem KZ.kd {S T : CS} (h : KZ 1 S T) : KD S T := ⟨fun o k _ => by rw [h.1], h.2.1, h.2.2.1, fun o k a b _ d => h.2.2.2 o k a b d⟩
theorem kd_7 (S : CS) (k : Nat) (f : Nat → Int32) : KD S (cF S 7 k f) := ⟨fun _ _ _ => rfl, rfl, rfl, fun o i _ _ c _ => ca_cFn _ _ _ _ _ _ (Or.inl c)⟩
/-- alike, with the numbers -/
def RelB (E : Nat → ClassId) (S : CS) (P : va_W) (σ : MS) (L C H W : Nat) : Prop := TW (ci S 1) (ca S 1) (ma σ 3) ∧ VR (ma σ 3) L C H W ∧ LWS E (imZ (cq S 0)) P (cq S 1) (ma σ 3) W ∧ IM E P (cq S 0) (ma σ 4) (ma σ 5) ∧ LG (ca S 7 0) (ma σ 6) (ma σ 7) (ma σ 3) (ci S 7 2) (mi σ 8) L C ∧ TP (ci S 10 1) (mi σ 13) (ca S 10 0) (ma σ 12) ∧ DR (ci S 3 5) (ci S 3 9) (ca S 3 7) (ca S 3 4) (mi σ 56) (mi σ 57) (ma σ 55) ∧ KO σ ∧ MI S σ
theorem rel_step {E : Nat → ClassId} {S T : CS} {P : va_W} {σ τ : MS} {L C H W : Nat} (h : RelB E S P σ L C H W) (kd : KD S T) (ky : KY σ τ) (tw : TW (ci T 1) (ca T 1) (ma τ 3)) (va : VA (ma τ 3) L C) (ho : hourOK (ma τ 3)) (far : ∀ i, i < 5 ∨ (6 ≤ i ∧ i < 8) ∨ 26 ≤ i → ma τ 3 i = ma σ 3 i) (lg : LG (ca T 7 0) (ma τ 6) (ma τ 7) (ma τ 3) (ci T 7 2) (mi τ 8) L C) : RelB E T P τ L C H W := by
  obtain ⟨h1, ⟨v1, v2, v3, v4⟩, h3, h4, h5, h6, h7, h8, h9⟩ := h
  obtain ⟨d1, d2, d3, d4⟩ := kd
  obtain ⟨y1, y2, y3⟩ := ky
  refine ⟨tw, ⟨va, VH_cg (far 2 (by omega)) (fun i _ _ => far i (by omega)) v2, VF_cg (far 3 (by omega)) (far 4 (by omega)) v3, ho⟩, ?_, ?_, lg, ?_, ?_, ?_, ?_⟩
  · rw [d3]; exact LWS_cg (fun i hi => far i (by omega)) h3
  · rw [d3, y1 4 (by decide) (by decide) (by decide) (by decide), y1 5 (by decide) (by decide) (by decide) (by decide)]; exact h4
  · rw [d1 10 1 (by decide), d4 10 0 (by decide) (by decide) (by decide) (by decide), y1 12 (by decide) (by decide) (by decide) (by decide), y2 13 (by decide) (by decide) (by decide)]; exact h6
  · rw [d1 3 5 (by decide), d1 3 9 (by decide), d4 3 7 (by decide) (by decide) (by decide) (by decide), d4 3 4 (by decide) (by decide) (by decide) (by decide), y1 55 (by decide) (by decide) (by decide) (by decide), y2 56 (by decide) (by decide) (by decide), y2 57 (by decide) (by decide) (by decide)]; exact h7
  · unfold KO at h8 ⊢
    rw [y2 20 (by decide) (by decide) (by decide), y3 31 (by decide) (by decide), y3 32 (by decide) (by decide), y3 33 (by decide) (by decide), y3 48 (by decide) (by decide)]; exact h8
  · unfold MI at h9 ⊢
    rw [d1 0 15 (by decide), d1 0 16 (by decide), d1 0 17 (by decide), d1 9 10 (by decide), d4 0 13 (by decide) (by decide) (by decide) (by decide), y1 2 (by decide) (by decide) (by decide) (by decide), y2 1 (by decide) (by decide) (by decide), y2 52 (by decide) (by decide) (by decide), y2 11 (by decide) (by decide) (by decide), y2 18 (by decide) (by decide) (by decide)]; exact h9
/-- what a step promises -/
def StepOK (E : Nat → ClassId) (S : CS) (P : va_W) (σ : MS) (L C H W : Nat) (v : Int32) (T : CS) (τ : MS) : Prop := KD S T ∧ KY σ τ ∧ RelB E T P τ L C H W ∧ (∀ j, 336 ≤ j → ma τ 6 j = ma σ 6 j) ∧ ((v = -1 ∨ v = -2 ∨ v = -3) ∨ ∃ n, n < 1000 ∧ v = nI n)
/-- nothing is done -/
theorem step_no {E : Nat → ClassId} {S T : CS} {P : va_W} {σ τ : MS} {L C H W : Nat} {v : Int32} (h : RelB E S P σ L C H W) (hv : v = -1 ∨ v = -2 ∨ v = -3) (kt : KD S T) (tw : TW (ci T 1) (ca T 1) (ma σ 3)) (l0 : ca T 7 0 = ca S 7 0) (l2 : ci T 7 2 = ci S 7 2) (kl : KL σ τ) : StepOK E S P σ L C H W v T τ := by
  have e3 : ma τ 3 = ma σ 3 := congrFun kl.1 3
  refine ⟨kt, kl.kp.ky, rel_step h kt kl.kp.ky (by rw [e3]; exact tw) (by rw [e3]; exact h.2.1.1) (by rw [e3]; exact h.2.1.2.2.2) (fun i _ => by rw [e3]) ?_, fun j _ => by rw [kl.1], Or.inl hv⟩
  rw [l0, l2, e3, congrFun kl.1 6, congrFun kl.1 7, kl.2.1 8 (by decide) (by decide)]
  exact h.2.2.2.2.1
/-- something is done and kept -/
theorem step_yes {E : Nat → ClassId} {S U T : CS} {P : va_W} {σ τ : MS} {L C H W n d m : Nat} {N R' : Nat → Int32} (h : RelB E S P σ L C H W) (hn : n ≤ 16) (hd : d < 4) (hl : ∀ k, k < n → LgE (ca S 7 0) (ma σ 6) (ma σ 7) (ma σ 3) L C k) (hN : NT N (ma σ 3)) (kz : KD (cF S 7 1 N) U) (e7 : ∀ k, ca U 7 k = ca (cF S 7 1 N) 7 k) (tw : TW (ci U 1) (ca U 1) R') (va : VA R' L C) (ho : hourOK R') (far : ∀ i, i < 5 ∨ (6 ≤ i ∧ i < 8) ∨ 26 ≤ i → R' i = ma σ 3 i) (t0 : ca T 7 0 = nwR (ca U 7 1) d n (ca U 7 0)) (t2 : ci T 7 2 = nI (lgN n + 1)) (ti : ∀ o k, o ≠ 7 ∨ k ≠ 2 → ci T o k = ci U o k) (tb : cb T = cb U) (tq : cq T = cq U) (ta : ∀ o k, o ≠ 7 → ca T o k = ca U o k) (ky : KY σ τ) (e3 : ma τ 3 = R') (e6 : ma τ 6 = nwU (ma σ 3) n (ma σ 6)) (e77 : ma τ 7 = nwS d n (ma σ 7)) (e8 : mi τ 8 = nI (lgN n + 1)) (hm : m < 1000) : StepOK E S P σ L C H W (nI m) T τ := by
  have kd : KD S T := ((kd_7 S 1 N).tr kz).tr ⟨ti, tb, tq, fun o k _ _ c _ => ta o k c⟩
  refine ⟨kd, ky, rel_step h kd ky ?_ (by rw [e3]; exact va) (by rw [e3]; exact ho) (fun i hi => by rw [e3]; exact far i hi) ?_, fun j hj => ?_, Or.inr ⟨m, hm, rfl⟩⟩
  · rw [e3, show ci T 1 = ci U 1 from funext fun k => ti 1 k (Or.inl (by decide)), show ca T 1 = ca U 1 from funext fun k => ta 1 k (by decide)]; exact tw
  · rw [e3, e6, e77, e8, t0, t2, e7 1, e7 0, ca_cF, ca_cFn _ _ _ _ _ _ (Or.inr (by decide))]
    exact LG_R (fun i hi => far i (by omega)) (lg_add hn hd hl hN h.2.1.1 h.2.1.2.2.2)
  · rw [e6]; unfold nwU kpt
    have : lgN n ≤ 15 := by unfold lgN; split <;> omega
    rw [if_neg (by omega)]
    unfold shU; split
    · unfold psh; exact if_neg (by omega)
    · rfl
