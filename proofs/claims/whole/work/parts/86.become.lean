theorem ci_On (S : CS) {o o' : Nat} (h : o' ≠ o) (I : Nat → Int32) (A : Nat → Nat → Int32) : ci (cO S o I A) o' = ci S o' := by
  show va_up S.1 o I o' = _; rw [up_d, if_neg h]
theorem ca_On (S : CS) {o o' : Nat} (h : o' ≠ o) (I : Nat → Int32) (A : Nat → Nat → Int32) : ca (cO S o I A) o' = ca S o' := by
  show va_up S.2.1 o A o' = _; rw [up_d, if_neg h]
/-- what stays when the object o becomes another -/
def KB (o : Nat) (S T : CS) : Prop := (∀ o', o' ≠ o → ci T o' = ci S o' ∧ ca T o' = ca S o' ∧ cq T o' = cq S o') ∧ cb T = cb S
theorem KB.tr {o : Nat} {S T U : CS} (h : KB o S T) (k : KB o T U) : KB o S U := ⟨fun o' z => ⟨(k.1 o' z).1.trans (h.1 o' z).1, (k.1 o' z).2.1.trans (h.1 o' z).2.1, (k.1 o' z).2.2.trans (h.1 o' z).2.2⟩, k.2.trans h.2⟩
theorem kb_O (S : CS) (o : Nat) (I : Nat → Int32) (A : Nat → Nat → Int32) : KB o S (cO S o I A) := ⟨fun o' z => ⟨ci_On S z I A, ca_On S z I A, rfl⟩, rfl⟩
theorem becL {F : Nat} {E : Nat → ClassId} {P : va_W} {o0 o1 : Nat} {Q : Nat → Option Nat} (hne : o1 ≠ o0) (hp : ∀ w, w < 6 → pok P 5 (Q w) = true) : ∀ (k j fuel : Nat) (S : CS), j + k = 6 → k < fuel → (∀ w, w < 6 → cq S o1 w = Q w) → (∀ w, w < j → cq S o0 w = Q w) → ∃ T, C_7_become_L176 F E P o0 o1 fuel S (nI j) = some ((), T) ∧ ci T o0 = upd (upd (ci S o0) 14 (ci S o1 14)) 15 (ci S o1 15) ∧ ca T o0 = ca S o0 ∧ (∀ w, w < 6 → cq T o0 w = Q w) ∧ KB o0 S T
  | 0, j, fuel + 1, S, e, _, h1, h2 => by
    rw [C_7_become_L176, if_pos (show (6 : Int32) ≤ nI j from nI_le (a := 6) (by omega) (by omega)), stc_d, cI_O, stc_d, cI_O, ci_On _ hne, ci_O, ca_O, cO_O]
    exact ⟨_, rfl, ci_O _ _ _ _, ca_O _ _ _ _, fun w hw => h2 w (by omega), kb_O _ _ _ _⟩
  | k + 1, j, fuel + 1, S, e, hf, h1, h2 => by
    rw [C_7_become_L176, if_neg (show ¬ (6 : Int32) ≤ nI j from nI_ge (b := 6) (by omega) (by decide)), chk_in (by omega) (by decide), nI_clamp (by omega), nmq_d, h1 j (by omega), chk_t ⟨inb_nI (by omega) (by decide), hp j (by omega)⟩, stc_d, ← nI_succ]
    have e0 : ∀ w, cq (cQ S o0 j (Q j)) o0 w = if w = j then Q j else cq S o0 w := fun w => by
      show va_up S.2.2.2 o0 (va_up (S.2.2.2 o0) j (Q j)) o0 w = _
      rw [up_d, if_pos rfl, up_d]
    have e1 : ∀ o', o' ≠ o0 → cq (cQ S o0 j (Q j)) o' = cq S o' := fun o' z => by
      show va_up S.2.2.2 o0 (va_up (S.2.2.2 o0) j (Q j)) o' = _
      rw [up_d, if_neg z]
    obtain ⟨T, r1, r2, r3, r4, r5⟩ := becL (F := F) (E := E) hne hp k (j + 1) fuel (cQ S o0 j (Q j)) (by omega) (by omega) (fun w hw => by rw [e1 o1 hne]; exact h1 w hw) (fun w hw => by
      rw [e0]
      by_cases z : w = j
      · rw [if_pos z, z]
      · rw [if_neg z]; exact h2 w (by omega))
    have kb : KB o0 S (cQ S o0 j (Q j)) := ⟨fun o' z => ⟨rfl, rfl, e1 o' z⟩, rfl⟩
    exact ⟨T, r1, r2, r3, r4, kb.tr r5⟩
set_option maxHeartbeats 4000000 in
theorem qc_become {F : Nat} {E : Nat → ClassId} {P : va_W} {S : CS} {o0 o1 : Nat} {R : Nat → Int32} (hF : 1000 ≤ F) (hne : o1 ≠ o0) (t : TW (ci S o1) (ca S o1) R) (hp : ∀ w, w < 6 → pok P 5 (cq S o1 w) = true) : ∃ T, C_7_become F E P S o0 o1 = some ((), T) ∧ TW (ci T o0) (ca T o0) R ∧ (∀ w, w < 6 → cq T o0 w = cq S o1 w) ∧ KB o0 S T := by
  have k10 : cpok (0 : Int32) (0 : Int32) (10 : Int32) 10 10 = true := by decide
  have k4 : cpok (0 : Int32) (0 : Int32) (4 : Int32) 4 4 = true := by decide
  have k6 : cpok (0 : Int32) (0 : Int32) (6 : Int32) 6 6 = true := by decide
  have k3 : cpok (0 : Int32) (0 : Int32) (3 : Int32) 3 3 = true := by decide
  have n3 : (3 : Int32).toNatClampNeg = 3 := by decide
  unfold C_7_become
  simp only [chk_t k10, chk_t k4, chk_t k6, chk_t k3, stc_d, cF_O, cI_O, cO_O, ci_O, ca_O, ci_On _ hne, ca_On _ hne, cp_0, cp_4, cp_6, cp_10, n3]
  obtain ⟨T, r1, r2, r3, r4, r5⟩ := becL (F := F) (E := E) (Q := cq S o1) hne hp 6 0 F (cO S o0 (upd (upd (upd (ci S o0) 5 (ci S o1 5)) 9 (ci S o1 9)) 11 (ci S o1 11)) (va_up (va_up (va_up (va_up (va_up (va_up (va_up (va_up (va_up (va_up (ca S o0) 0 (va_cpy (ca S o1 0) (ca S o0 0) 0 0 10)) 1 (va_cpy (ca S o1 1) (ca S o0 1) 0 0 10)) 2 (va_cpy (ca S o1 2) (ca S o0 2) 0 0 10)) 3 (va_cpy (ca S o1 3) (ca S o0 3) 0 0 10)) 4 (va_cpy (ca S o1 4) (ca S o0 4) 0 0 10)) 6 (va_cpy (ca S o1 6) (ca S o0 6) 0 0 4)) 7 (va_cpy (ca S o1 7) (ca S o0 7) 0 0 4)) 8 (va_cpy (ca S o1 8) (ca S o0 8) 0 0 4)) 10 (va_cpy (ca S o1 10) (ca S o0 10) 0 0 6)) 12 (va_cpy (ca S o1 12) (ca S o0 12) 0 0 3))) (by omega) (by omega) (fun w _ => rfl) (fun w hw => by omega)
  rw [ci_O, ci_On _ hne] at r2
  rw [ca_O] at r3
  refine ⟨T, r1, ?_, r4, (kb_O _ _ _ _).tr r5⟩
  rw [r2, r3]
  obtain ⟨⟨t1, t2, t3, t4, t5⟩, tl, tc, th, tt⟩ := t
  refine ⟨⟨t1, t2, t3, t4, t5⟩, fun j hj => ?_, fun j hj => ?_, fun j hj => ?_, fun j hj => ?_⟩
  · have e : ∀ f g : Nat → Int32, va_cpy f g 0 0 10 j = f j := fun f g => by rw [pk_cpy_in (by omega) (by omega)]; congr 1; omega
    refine ⟨?_, ?_, ?_, ?_, ?_⟩
    · exact (e _ _).trans (tl j hj).1
    · exact (e _ _).trans (tl j hj).2.1
    · exact (e _ _).trans (tl j hj).2.2.1
    · exact (e _ _).trans (tl j hj).2.2.2.1
    · exact (e _ _).trans (tl j hj).2.2.2.2
  · have e : ∀ f g : Nat → Int32, va_cpy f g 0 0 4 j = f j := fun f g => by rw [pk_cpy_in (by omega) (by omega)]; congr 1; omega
    refine ⟨?_, ?_, ?_⟩
    · exact (e _ _).trans (tc j hj).1
    · exact (e _ _).trans (tc j hj).2.1
    · exact (e _ _).trans (tc j hj).2.2
  · have e : ∀ f g : Nat → Int32, va_cpy f g 0 0 6 j = f j := fun f g => by rw [pk_cpy_in (by omega) (by omega)]; congr 1; omega
    exact (e _ _).trans (th j hj)
  · have e : ∀ f g : Nat → Int32, va_cpy f g 0 0 3 j = f j := fun f g => by rw [pk_cpy_in (by omega) (by omega)]; congr 1; omega
    exact (e _ _).trans (tt j hj)
/-- the law in force of a copy -/
theorem lif_cg {S T : CS} {o o' : Nat} (h14 : ci T o 14 = ci S o' 14) (h15 : ci T o 15 = ci S o' 15) (hq : ∀ w, w < 6 → cq T o w = cq S o' w) : C_7_lawInForce T o = C_7_lawInForce S o' := by
  unfold C_7_lawInForce C_7_lawOf C_7_hasLaw
  rw [h14, h15]
  have e : chk (inb (ci S o' 15) 6 = true) (nmq (cq T o (ci S o' 15).toNatClampNeg) fun q => some q) = chk (inb (ci S o' 15) 6 = true) (nmq (cq S o' (ci S o' 15).toNatClampNeg) fun q => some q) := by
    by_cases z : inb (ci S o' 15) 6 = true
    · rw [chk_t z, chk_t z, hq]
      unfold inb at z
      simp only [Bool.and_eq_true, decide_eq_true_eq] at z
      show (ci S o' 15).toInt.toNat < 6
      omega
    · unfold chk; rw [if_neg z, if_neg z]
  rw [e]
/-- hour after hour -/
def itR (LS : Nat → (Nat → Int) → Option Int) (R : Nat → Int32) (L C : Nat) : Nat → Nat → Int32
  | 0 => R
  | n + 1 => psR LS (itR LS R L C n) L C
theorem itR_n {LS : Nat → (Nat → Int) → Option Int} {R : Nat → Int32} {L C : Nat} (hC : C ≤ 4) {i : Nat} (h : i < 5 ∨ (6 ≤ i ∧ i < 18) ∨ 26 ≤ i) : ∀ n, itR LS R L C n i = R i
  | 0 => rfl
  | n + 1 => (psR_n hC h).trans (itR_n hC h n)
theorem itR_5 {LS : Nat → (Nat → Int) → Option Int} {R : Nat → Int32} {L C h : Nat} (h5 : R 5 = nI h) : ∀ n, itR LS R L C n 5 = nI (h + n)
  | 0 => h5
  | n + 1 => by
    show upd (gA LS (itR LS R L C n) L C) 5 (itR LS R L C n 5 + 1) 5 = _
    rw [pk_us, itR_5 h5 n, ← nI_succ]; rfl
theorem itR_VA {LS : Nat → (Nat → Int) → Option Int} {R : Nat → Int32} {L C h : Nat} (va : VA R L C) (h5 : R 5 = nI h) : ∀ n, h + n ≤ 2000 → VA (itR LS R L C n) L C
  | 0, _ => va
  | n + 1, hn => VA_ps (itR_VA va h5 n (by omega)) (itR_5 h5 n) (by omega)
theorem itR_LQ {E : Nat → ClassId} {P : va_W} {q : Option Nat} {LS : Nat → (Nat → Int) → Option Int} {R : Nat → Int32} {L C : Nat} (hC : C ≤ 4) (lq : LQ E P R q LS) (n : Nat) : LQ E P (itR LS R L C n) q LS := LQ_cg lq (itR_n hC (by omega) n) (fun i hi => itR_n hC (by omega) n)
theorem psR_18 {LS : Nat → (Nat → Int) → Option Int} {R : Nat → Int32} {L C c : Nat} (hC : C ≤ 4) (hc : c < C) : psR LS R L C (18 + c) = goC R c (laneS LS R L c) := by
  unfold psR gA; rw [pk_un (by omega), if_pos (by omega), show 18 + c - 18 = c by omega]
theorem psR_22 {LS : Nat → (Nat → Int) → Option Int} {R : Nat → Int32} {L C c : Nat} (hC : C ≤ 4) (hc : c < C) : psR LS R L C (22 + c) = goL R c (laneS LS R L c) := by
  unfold psR gA; rw [pk_un (by omega), if_neg (by omega), if_pos (by omega), show 22 + c - 22 = c by omega]
/-- what following leaves -/
def KF (S T : CS) : Prop := (∀ o, o ≠ 4 → ci T o = ci S o ∧ cq T o = cq S o) ∧ cb T = cb S ∧ ∀ o k, o ≠ 4 → o ≠ 11 → o ≠ 12 → ca T o k = ca S o k
theorem KF.rf {S : CS} : KF S S := ⟨fun _ _ => ⟨rfl, rfl⟩, rfl, fun _ _ _ _ _ => rfl⟩
theorem KF.tr {S T U : CS} (h : KF S T) (k : KF T U) : KF S U := ⟨fun o z => ⟨(k.1 o z).1.trans (h.1 o z).1, (k.1 o z).2.trans (h.1 o z).2⟩, k.2.1.trans h.2.1, fun o i a b c => (k.2.2 o i a b c).trans (h.2.2 o i a b c)⟩
theorem KB.kf {S T : CS} (h : KB 4 S T) : KF S T := ⟨fun o z => ⟨(h.1 o z).1, (h.1 o z).2.2⟩, h.2, fun o k a _ _ => by rw [(h.1 o a).2.1]⟩
theorem KW.kf {S T : CS} (h : KW S T) : KF S T := ⟨fun o _ => ⟨by rw [h.1], by rw [h.2.2.1]⟩, h.2.1, fun o k _ b c => h.2.2.2 o k c (Or.inl b)⟩
theorem kf_F (S : CS) {o : Nat} (ho : o = 4 ∨ o = 11 ∨ o = 12) (k : Nat) (f : Nat → Int32) : KF S (cF S o k f) := ⟨fun _ _ => ⟨rfl, rfl⟩, rfl, fun o' k' a b c => ca_cFn _ _ _ _ _ _ (by omega)⟩
theorem KF.kc {S T : CS} (h : KF S T) : KC S T := by
  obtain ⟨h1, h2, h3⟩ := h
  exact ⟨⟨congrFun (h1 0 (by decide)).1 15, congrFun (h1 0 (by decide)).1 16, congrFun (h1 0 (by decide)).1 17, h3 0 13 (by decide) (by decide) (by decide), (h1 0 (by decide)).2⟩, ⟨(h1 1 (by decide)).1, funext fun k => h3 1 k (by decide) (by decide) (by decide), (h1 1 (by decide)).2⟩, ⟨h3 7 0 (by decide) (by decide) (by decide), congrFun (h1 7 (by decide)).1 2⟩, ⟨congrFun (h1 10 (by decide)).1 1, h3 10 0 (by decide) (by decide) (by decide)⟩, ⟨congrFun (h1 3 (by decide)).1 5, congrFun (h1 3 (by decide)).1 9, h3 3 7 (by decide) (by decide) (by decide), h3 3 4 (by decide) (by decide) (by decide)⟩, congrFun (h1 9 (by decide)).1 10⟩
theorem TV_ps {I : Nat → Int32} {A A' : Nat → Nat → Int32} {LS : Nat → (Nat → Int) → Option Int} {R : Nat → Int32} {L C c : Nat} (hC : C ≤ 4) (hc : c < C) (t : TV I A R c) (e7 : A' 7 c = goC R c (laneS LS R L c)) (e8 : A' 8 c = goL R c (laneS LS R L c)) (e12 : A' 12 0 = R 5 + 1) (f12 : A' 12 2 = A 12 2) (en : ∀ k, k ≠ 7 → k ≠ 8 → k ≠ 12 → A' k = A k) : TV I A' (psR LS R L C) c := by
  obtain ⟨⟨t1, t2, t3, t4⟩, tl, ⟨c6, c7, c8⟩, h5, h7⟩ := t
  refine ⟨⟨?_, ?_, ?_, ?_⟩, fun j hj => ?_, ⟨?_, ?_, ?_⟩, ?_, ?_⟩
  · rw [psR_n hC (by omega)]; exact t1
  · rw [psR_n hC (by omega)]; exact t2
  · rw [psR_n hC (by omega)]; exact t3
  · trivial
  · rw [en 0 (by decide) (by decide) (by decide), en 1 (by decide) (by decide) (by decide), en 2 (by decide) (by decide) (by decide), en 3 (by decide) (by decide) (by decide), psR_n hC (by omega), psR_n hC (by omega), psR_n hC (by omega), psR_n hC (by omega)]; exact tl j hj
  · rw [en 6 (by decide) (by decide) (by decide), psR_n hC (by omega)]; exact c6
  · rw [e7, psR_18 hC hc]
  · rw [e8, psR_22 hC hc]
  · rw [e12]; unfold psR; rw [pk_us]
  · rw [f12, psR_n hC (by omega)]; exact h7
set_option maxHeartbeats 4000000 in
theorem followL {E : Nat → ClassId} {P : va_W} {q : Option Nat} {LS : Nat → (Nat → Int) → Option Int} {F L C c h N : Nat} {R I0 : Nat → Int32} {Q0 : Nat → Option Nat} (lq : LQ E P R q LS) (hF : 1000 ≤ F) (va : VA R L C) (h5 : R 5 = nI h) (hh : h ≤ 999) (hN : N ≤ 60) (hc : c < C) (hq : ∀ T : CS, ci T 4 = I0 → cq T 4 = Q0 → C_7_lawInForce T 4 = some q) : ∀ (k m fuel : Nat) (S : CS), m + k = N → k < fuel → ci S 4 = I0 → cq S 4 = Q0 → TV (ci S 4) (ca S 4) (itR LS R L C m) c → (∀ i, i ≤ m → ca S 11 4 i = itR LS R L C i (18 + c)) → ∃ T, C_9_follow_L35 F E P 1 (nI c) (nI N) fuel S (nI (m + 1)) = some ((), T) ∧ (∀ i, i ≤ N → ca T 11 4 i = itR LS R L C i (18 + c)) ∧ KF S T
  | 0, m, fuel + 1, S, e, _, eI, eQ, t, tr => by
    rw [C_9_follow_L35, if_pos (nI_lt (by omega) (by omega))]
    exact ⟨S, rfl, fun i hi => tr i (by omega), KF.rf⟩
  | k + 1, m, fuel + 1, S, e, hf, eI, eQ, t, tr => by
    have hC := va.1.2.1
    have hL := va.1.1
    have vm := itR_VA (LS := LS) va h5 m (by omega)
    have lm := itR_LQ (L := L) hC lq m
    obtain ⟨U, g1, g2⟩ := qc_taken lm hF (by decide) (by decide) t vm hc
    rw [C_9_follow_L35, if_neg (nI_nlt (by omega) (by omega)), if_neg (show ¬ (61 : Int32) ≤ nI (m + 1) from nI_ge (b := 61) (by omega) (by decide)), hq S eI eQ, bs, g1, bs]
    have t' := TV_KW (by decide) (by decide) g2 t
    have trU : ∀ i, i ≤ m → ca U 11 4 i = itR LS R L C i (18 + c) := fun i hi => by rw [g2.2.2.2 11 4 (by decide) (Or.inr (by decide))]; exact tr i hi
    have fin : ∀ V : CS, ci V = ci U → cb V = cb U → cq V = cq U → (∀ o k, o ≠ 4 → ca V o k = ca U o k) → (∀ k, k ≠ 7 → k ≠ 8 → ca V 4 k = ca U 4 k) → ca V 4 7 c = goC (itR LS R L C m) c (laneS LS (itR LS R L C m) L c) → ca V 4 8 c = goL (itR LS R L C m) c (laneS LS (itR LS R L C m) L c) → ∃ T, C_9_follow_B85 F E P 1 (C_9_follow_L35 F E P 1 (nI c) (nI N) fuel) V (nI c) (nI N) (nI (m + 1)) = some ((), T) ∧ (∀ i, i ≤ N → ca T 11 4 i = itR LS R L C i (18 + c)) ∧ KF S T := by
      intro V v1 v2 v3 v4 v5 v6 v7
      unfold C_9_follow_B85
      rw [stc_d, chk_in (by omega) (by decide), chk_in (by omega) (by decide), nI_clamp (by omega), nI_clamp (by omega), stc_d, ← nI_succ]
      have w12 : ca V 4 12 0 = itR LS R L C m 5 := by rw [v5 12 (by decide) (by decide)]; exact t'.2.2.2.1
      rw [w12]
      have x7 : ca (cA V 4 12 0 (itR LS R L C m 5 + 1)) 4 7 c = goC (itR LS R L C m) c (laneS LS (itR LS R L C m) L c) := v6
      rw [x7]
      have tn : TV (ci (cA (cA V 4 12 0 (itR LS R L C m 5 + 1)) 11 4 (m + 1) (goC (itR LS R L C m) c (laneS LS (itR LS R L C m) L c))) 4) (ca (cA (cA V 4 12 0 (itR LS R L C m 5 + 1)) 11 4 (m + 1) (goC (itR LS R L C m) c (laneS LS (itR LS R L C m) L c))) 4) (itR LS R L C (m + 1)) c := by
        show TV (ci V 4) _ (psR LS (itR LS R L C m) L C) c
        rw [v1]
        refine TV_ps hC hc t' v6 v7 ?_ ?_ (fun k a b d => ?_)
        · rfl
        · show ca V 4 12 2 = ca U 4 12 2
          rw [v5 12 (by decide) (by decide)]
        · show ca (cF (cF V 4 12 _) 11 4 _) 4 k = _
          rw [ca_cFn _ _ _ _ _ _ (Or.inl (by decide)), ca_cFn _ _ _ _ _ _ (Or.inr d)]; exact v5 k a b
      obtain ⟨T, r1, r2, r3⟩ := followL lq hF va h5 hh hN hc hq k (m + 1) fuel (cA (cA V 4 12 0 (itR LS R L C m 5 + 1)) 11 4 (m + 1) (goC (itR LS R L C m) c (laneS LS (itR LS R L C m) L c))) (by omega) (by omega) (by show ci V 4 = _; rw [v1, g2.1]; exact eI) (by show cq V 4 = _; rw [v3, g2.2.2.1]; exact eQ) tn (fun i hi => by
        show upd (ca V 11 4) (m + 1) _ i = _
        by_cases z : i = m + 1
        · rw [z, pk_us]; exact (psR_18 hC hc).symm
        · rw [pk_un z, v4 11 4 (by decide)]; exact trU i (by omega))
      refine ⟨T, r1, r2, (g2.kf.tr ?_).tr ((kf_F _ (Or.inl rfl) _ _).tr ((kf_F _ (Or.inr (Or.inl rfl)) _ _).tr r3))⟩
      exact ⟨fun o _ => ⟨by rw [v1], by rw [v3]⟩, v2, fun o k a _ _ => v4 o k a⟩
    rcases laneS_c LS (itR LS R L C m) L c with z | ⟨j, hj, z, ze⟩
    · rw [if_pos z]
      refine fin U rfl rfl rfl (fun _ _ _ => rfl) (fun _ _ _ => rfl) ?_ ?_
      · rw [t'.2.2.1.2.1]; unfold goC; rw [if_pos z]
      · rw [t'.2.2.1.2.2]; unfold goL; rw [if_pos z]
    · have nz : ¬ laneS LS (itR LS R L C m) L c = -1 := by rw [z]; exact nI_m1 (by omega)
      rw [if_neg nz]
      have ga := qc_goAlong t' vm hc hj ze
      show ∃ T, (C_7_goAlong U 4 (nI c) (laneS LS (itR LS R L C m) L c)).bind _ = _ ∧ _
      rw [z, ga, bs]
      refine fin (cGo U 4 c _ (nI j)) rfl rfl rfl (fun o k a => cGo_n _ _ _ _ _ (Or.inl a)) (fun k a b => cGo_n _ _ _ _ _ (Or.inr ⟨a, b⟩)) ?_ ?_
      · rw [cGo_7, pk_us]; unfold goC; rw [if_neg nz, z, nI_clamp (by omega)]
      · rw [cGo_8, pk_us]; unfold goL; rw [if_neg nz, z]
theorem qc_follow {E : Nat → ClassId} {P : va_W} {q : Option Nat} {LS : Nat → (Nat → Int) → Option Int} {F L C c h N : Nat} {R : Nat → Int32} {S : CS} (lq : LQ E P R q LS) (hF : 1000 ≤ F) (t : TW (ci S 1) (ca S 1) R) (hp : ∀ w, w < 6 → pok P 5 (cq S 1 w) = true) (hq : C_7_lawInForce S 1 = some q) (va : VA R L C) (h5 : R 5 = nI h) (hh : h ≤ 999) (hN : N ≤ 60) (hc : c < C) : ∃ T, C_9_follow F E P S 1 (nI c) (nI N) = some ((), T) ∧ (∀ i, i ≤ N → ca T 11 4 i = itR LS R L C i (18 + c)) ∧ KF S T := by
  have hC := va.1.2.1
  obtain ⟨U, g1, g2, g3, g4⟩ := qc_become (F := F) (E := E) (S := S) (o0 := 4) (o1 := 1) hF (by decide) t hp
  have e7 : ca U 4 7 c = R (18 + c) := (g2.2.2.1 c (by omega)).2.1
  have hq' : ∀ T : CS, ci T 4 = ci U 4 → cq T 4 = cq U 4 → C_7_lawInForce T 4 = some q := fun T a b => by
    rw [← hq]
    refine lif_cg ?_ ?_ (fun w hw => ?_)
    · rw [a, g2.1.2.2.2.1, t.1.2.2.2.1]
    · rw [a, g2.1.2.2.2.2, t.1.2.2.2.2]
    · rw [b]; exact g3 w hw
  obtain ⟨T, r1, r2, r3⟩ := followL (S := cA U 11 4 0 (R (18 + c))) lq hF va h5 hh hN hc hq' N 0 F (by omega) (by omega) rfl rfl (by
    show TV (ci U 4) (ca (cF U 11 4 _) 4) R c
    rw [show ca (cF U 11 4 (upd (ca U 11 4) 0 (R (18 + c)))) 4 = ca U 4 from funext fun k => ca_cFn _ _ _ _ _ _ (Or.inl (by decide))]
    exact g2.tv (by omega)) (fun i hi => by
    obtain rfl : i = 0 := by omega
    rfl)
  refine ⟨T, ?_, r2, (g4.kf.tr (kf_F _ (Or.inr (Or.inl rfl)) _ _)).tr r3⟩
  unfold C_9_follow
  rw [qc_hasChild hC (t.1.2.1.trans va.1.2.2.2), isAt_in hc (by omega), bs, if_neg (by decide), g1, bs, chk_in (by omega) (by decide), nI_clamp (by omega), stc_d]
  show C_9_follow_L35 F E P 1 (nI c) (nI N) F (cA U 11 4 0 (ca U 4 7 c)) (nI (0 + 1)) = _
  rw [e7]; exact r1
