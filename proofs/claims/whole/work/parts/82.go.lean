/-- to go along a lane -/
def acr (R : Nat → Int32) (j : Nat) (x : Int32) : Int32 := if R (26 + j) = x then R (36 + j) else R (26 + j)
def goC (R : Nat → Int32) (c : Nat) (x : Int32) : Int32 := if x = -1 then R (18 + c) else acr R x.toNatClampNeg (R (18 + c))
def goL (R : Nat → Int32) (c : Nat) (x : Int32) : Int32 := if x = -1 then R (22 + c) else x
def goR (R : Nat → Int32) (c : Nat) (x : Int32) : Nat → Int32 := fun i => if i = 18 + c then goC R c x else if i = 22 + c then goL R c x else R i
theorem goR_m1 (R : Nat → Int32) (c : Nat) : goR R c (-1) = R := by
  funext i; unfold goR goC goL
  by_cases z : i = 18 + c
  · rw [if_pos z, if_pos rfl, z]
  · rw [if_neg z]
    by_cases y : i = 22 + c
    · rw [if_pos y, if_pos rfl, y]
    · rw [if_neg y]
theorem goR_j (R : Nat → Int32) {c j : Nat} (hj : j < 10) : goR R c (nI j) = upd (upd R (18 + c) (acr R j (R (18 + c)))) (22 + c) (nI j) := by
  funext i; unfold goR goC goL
  rw [if_neg (nI_m1 (by omega)), if_neg (nI_m1 (by omega)), nI_clamp (by omega), upd_d, upd_d]
  by_cases z : i = 18 + c
  · rw [if_pos z, if_neg (by omega), if_pos z]
  · rw [if_neg z, if_neg z]
theorem qm_across {σ : MS} {j : Nat} (hj : j < 10) (x : Int32) : M_across σ (nI j) x = some (acr (ma σ 3) j x) := by
  unfold M_across acr
  rw [a26, a36, chk_in (by omega) (by decide), chk_in (by omega) (by decide), chk_in (by omega) (by decide), nI_clamp (by omega), nI_clamp (by omega)]
  split <;> rfl
theorem qm_goAlong {σ : MS} {c j : Nat} (hc : c < 4) (hj : j < 10) : M_goAlong σ (nI c) (nI j) = some ((), mF σ 3 (goR (ma σ 3) c (nI j))) := by
  unfold M_goAlong
  rw [a18, a22, chk_in (by omega) (by decide), nI_clamp (by omega), qm_across hj, bs, chk_in (by omega) (by decide), stt_d, chk_in (by omega) (by decide), nI_clamp (by omega), stt_d, goR_j _ hj, mA_F, mA_F, mF_mF, ma_F]
/-- the class goes -/
def cGo (S : CS) (o c : Nat) (y x : Int32) : CS := cA (cA S o 7 c y) o 8 c x
theorem cGo_7 (S : CS) (o c : Nat) (y x : Int32) : ca (cGo S o c y x) o 7 = upd (ca S o 7) c y := by
  unfold cGo cA
  rw [ca_cFn _ _ _ _ _ _ (Or.inr (by decide)), ca_cF]
theorem cGo_8 (S : CS) (o c : Nat) (y x : Int32) : ca (cGo S o c y x) o 8 = upd (ca S o 8) c x := by
  unfold cGo
  show ca (cF (cA S o 7 c y) o 8 (upd (ca (cA S o 7 c y) o 8) c x)) o 8 = _
  rw [ca_cF]
  unfold cA
  rw [ca_cFn _ _ _ _ _ _ (Or.inr (by decide))]
theorem cGo_n (S : CS) (o c : Nat) (y x : Int32) {o' k : Nat} (h : o' ≠ o ∨ (k ≠ 7 ∧ k ≠ 8)) : ca (cGo S o c y x) o' k = ca S o' k := by
  unfold cGo cA
  rw [ca_cFn _ _ _ _ _ _ (by omega), ca_cFn _ _ _ _ _ _ (by omega)]
theorem qc_goAlong {S : CS} {o L C c j : Nat} {R : Nat → Int32} (t : TV (ci S o) (ca S o) R c) (va : VA R L C) (hc : c < C) (hj : j < L) (he : R (26 + j) = R (18 + c) ∨ R (36 + j) = R (18 + c)) : C_7_goAlong S o (nI c) (nI j) = some ((), cGo S o c (acr R j (R (18 + c))) (nI j)) := by
  obtain ⟨⟨vL, vC, v0, v1⟩, -⟩ := va
  obtain ⟨⟨t1, t2, t3, t4⟩, tl, ⟨c6, c7, c8⟩, h5, h7⟩ := t
  obtain ⟨l0, l1, -, -⟩ := tl j (by omega)
  unfold C_7_goAlong C_7_endBeyond
  rw [qc_hasChild vC (t2.trans v1), isAt_in hc (by omega), bs, if_neg (by decide), chk_in (by omega) (by decide), nI_clamp (by omega), c7, qc_isEnd vL (t1.trans v0) l0 l1 hj, bs, if_pos he, if_neg (by decide), chk_in (by omega) (by decide), chk_in (by omega) (by decide), chk_in (by omega) (by decide), nI_clamp (by omega), l0, l1]
  have e : (if R (26 + j) = R (18 + c) then some (R (36 + j)) else some (R (26 + j))) = some (acr R j (R (18 + c))) := by unfold acr; split <;> rfl
  rw [e, bs, chk_in (by omega) (by decide), stc_d, chk_in (by omega) (by decide), stc_d]
  rfl
theorem TW_go {I : Nat → Int32} {A A' : Nat → Nat → Int32} {R : Nat → Int32} {c j : Nat} (hc : c < 4) (hj : j < 10) (h : TW I A R) (e7 : A' 7 = upd (A 7) c (acr R j (R (18 + c)))) (e8 : A' 8 = upd (A 8) c (nI j)) (en : ∀ k, k ≠ 7 → k ≠ 8 → A' k = A k) : TW I A' (goR R c (nI j)) := by
  obtain ⟨⟨t1, t2, t3, t4, t5⟩, tl, tc, th, tt⟩ := h
  rw [goR_j _ hj]
  refine ⟨⟨?_, ?_, ?_, ?_, ?_⟩, fun i hi => ?_, fun i hi => ?_, fun i hi => ?_, fun i hi => ?_⟩
  · simp (disch := omega) only [upd_d, if_neg]; exact t1
  · simp (disch := omega) only [upd_d, if_neg]; exact t2
  · simp (disch := omega) only [upd_d, if_neg]; exact t3
  · simp (disch := omega) only [upd_d, if_neg]; exact t4
  · simp (disch := omega) only [upd_d, if_neg]; exact t5
  · rw [en 0 (by decide) (by decide), en 1 (by decide) (by decide), en 2 (by decide) (by decide), en 3 (by decide) (by decide), en 4 (by decide) (by decide)]
    simp (disch := omega) only [upd_d, if_neg]; exact tl i hi
  · rw [en 6 (by decide) (by decide), e7, e8]
    obtain ⟨l0, l1, l2⟩ := tc i hi
    by_cases e : i = c
    · subst e
      simp (disch := omega) only [upd_d, if_neg, if_pos, ite_true]
      exact ⟨l0, trivial, trivial⟩
    · simp (disch := omega) only [upd_d, if_neg]
      exact ⟨l0, l1, l2⟩
  · rw [en 10 (by decide) (by decide)]
    simp (disch := omega) only [upd_d, if_neg]; exact th i hi
  · rw [en 12 (by decide) (by decide)]
    simp (disch := omega) only [upd_d, if_neg]; exact tt i hi
theorem acr_ok {R : Nat → Int32} {j : Nat} (h : VL R j) (x : Int32) : ∃ k, k < 8 ∧ acr R j x = nI k := by
  obtain ⟨⟨a, a1, a2⟩, ⟨b, b1, b2⟩, -⟩ := h
  unfold acr; split
  · exact ⟨b, b1, b2⟩
  · exact ⟨a, a1, a2⟩
theorem VA_go {R : Nat → Int32} {L C c j : Nat} (hc : c < C) (hj : j < L) (va : VA R L C) : VA (goR R c (nI j)) L C := by
  obtain ⟨⟨vL, vC, v0, v1⟩, vl, vc, vh, vq, vm⟩ := va
  rw [goR_j _ (by omega)]
  have far : ∀ i, i ≠ 18 + c → i ≠ 22 + c → upd (upd R (18 + c) (acr R j (R (18 + c)))) (22 + c) (nI j) i = R i := fun i a b => by rw [pk_un b, pk_un a]
  refine ⟨⟨vL, vC, by rw [far _ (by omega) (by omega)]; exact v0, by rw [far _ (by omega) (by omega)]; exact v1⟩, fun i hi => VL_cg (far _ (by omega) (by omega)) (far _ (by omega) (by omega)) (far _ (by omega) (by omega)) (far _ (by omega) (by omega)) (far _ (by omega) (by omega)) (vl i hi), fun i hi => ?_, by rw [far _ (by omega) (by omega)]; exact vh, by rw [far _ (by omega) (by omega)]; exact vq, by rw [far _ (by omega) (by omega)]; exact vm⟩
  by_cases e : i = c
  · subst e
    refine ⟨by rw [far _ (by omega) (by omega)]; exact (vc i hi).1, ?_, Or.inr ⟨j, hj, pk_us⟩⟩
    rw [pk_un (by omega), pk_us]; exact acr_ok (vl j hj) _
  · exact VC_cg (Nat.le_refl _) (far _ (by omega) (by omega)) (far _ (by omega) (by omega)) (far _ (by omega) (by omega)) (vc i hi)
/-- what a lane taken depends on -/
theorem wv_cg {R R' : Nat → Int32} {c : Nat} (h5 : R' 5 = R 5) (h7 : R' 7 = R 7) (h18 : R' (18 + c) = R (18 + c)) (h22 : R' (22 + c) = R (22 + c)) (hf : ∀ i, 26 ≤ i → R' i = R i) (l : Option Nat) : wv R' c l = wv R c l := by
  have hl : ∀ d, 26 ≤ d → lR R' d l = lR R d l := fun d hd => by
    cases l with
    | none => rfl
    | some j => exact hf _ (by omega)
  funext k
  unfold wv
  rw [h5, h7, h18, h22, hf (66 + c) (by omega), hl 46 (by omega), hl 56 (by omega)]
theorem laneS_cg {LS : Nat → (Nat → Int) → Option Int} {R R' : Nat → Int32} {L c : Nat} (h5 : R' 5 = R 5) (h7 : R' 7 = R 7) (h18 : R' (18 + c) = R (18 + c)) (h22 : R' (22 + c) = R (22 + c)) (hf : ∀ i, 26 ≤ i → R' i = R i) : laneS LS R' L c = laneS LS R L c := by
  have e1 : canB LS R' c = canB LS R c := by
    funext j
    unfold canB brB
    rw [h18, hf (26 + j) (by omega), hf (36 + j) (by omega), wv_cg h5 h7 h18 h22 hf]
  have e2 : tnN LS R' c = tnN LS R c := by
    unfold tnN; rw [wv_cg h5 h7 h18 h22 hf]
  unfold laneS
  rw [e1, e2]
/-- the first n children gone -/
def gA (LS : Nat → (Nat → Int) → Option Int) (R : Nat → Int32) (L n : Nat) : Nat → Int32 := fun i => if 18 ≤ i ∧ i < 18 + n then goC R (i - 18) (laneS LS R L (i - 18)) else if 22 ≤ i ∧ i < 22 + n then goL R (i - 22) (laneS LS R L (i - 22)) else R i
theorem gA_0 (LS : Nat → (Nat → Int) → Option Int) (R : Nat → Int32) (L : Nat) : gA LS R L 0 = R := funext fun i => by unfold gA; rw [if_neg (by omega), if_neg (by omega)]
theorem gA_n {LS : Nat → (Nat → Int) → Option Int} {R : Nat → Int32} {L n : Nat} (hn : n ≤ 4) {i : Nat} (h : i < 18 ∨ (18 + n ≤ i ∧ i < 22) ∨ 22 + n ≤ i) : gA LS R L n i = R i := by unfold gA; rw [if_neg (by omega), if_neg (by omega)]
theorem gA_s {LS : Nat → (Nat → Int) → Option Int} {R : Nat → Int32} {L n : Nat} (hn : n < 4) : goR (gA LS R L n) n (laneS LS R L n) = gA LS R L (n + 1) := by
  have e18 : gA LS R L n (18 + n) = R (18 + n) := gA_n (by omega) (by omega)
  have e22 : gA LS R L n (22 + n) = R (22 + n) := gA_n (by omega) (by omega)
  have ec : goC (gA LS R L n) n (laneS LS R L n) = goC R n (laneS LS R L n) := by
    unfold goC acr
    rw [e18, gA_n (i := 26 + _) (by omega) (by omega), gA_n (i := 36 + _) (by omega) (by omega)]
  have el : goL (gA LS R L n) n (laneS LS R L n) = goL R n (laneS LS R L n) := by
    unfold goL; rw [e22]
  funext i
  unfold goR
  rw [ec, el]
  by_cases a : i = 18 + n
  · rw [if_pos a]; unfold gA; rw [if_pos (by omega), show i - 18 = n by omega]
  · rw [if_neg a]
    by_cases b : i = 22 + n
    · rw [if_pos b]; unfold gA; rw [if_neg (by omega), if_pos (by omega), show i - 22 = n by omega]
    · rw [if_neg b]
      unfold gA
      by_cases c : 18 ≤ i ∧ i < 18 + n
      · rw [if_pos c, if_pos (by omega)]
      · rw [if_neg c, if_neg (show ¬ (18 ≤ i ∧ i < 18 + (n + 1)) by omega)]
        by_cases d : 22 ≤ i ∧ i < 22 + n
        · rw [if_pos d, if_pos (show 22 ≤ i ∧ i < 22 + (n + 1) by omega)]
        · rw [if_neg d, if_neg (show ¬ (22 ≤ i ∧ i < 22 + (n + 1)) by omega)]
theorem VA_gA {LS : Nat → (Nat → Int) → Option Int} {R : Nat → Int32} {L C : Nat} (va : VA R L C) : ∀ n, n ≤ C → VA (gA LS R L n) L C
  | 0, _ => by rw [gA_0]; exact va
  | n + 1, hn => by
    have ih := VA_gA (LS := LS) va n (by omega)
    have hC := va.1.2.1
    rw [← gA_s (by omega)]
    rcases laneS_c LS R L n with z | ⟨j, hj, z, -⟩
    · rw [z, goR_m1]; exact ih
    · rw [z]; exact VA_go (by omega) hj ih
def wnt (LS : Nat → (Nat → Int) → Option Int) (R : Nat → Int32) (L : Nat) : Nat → Nat
  | 0 => 0
  | n + 1 => wnt LS R L n + (if laneS LS R L n = -1 then 0 else 1)
theorem wnt_le (LS : Nat → (Nat → Int) → Option Int) (R : Nat → Int32) (L : Nat) : ∀ n, wnt LS R L n ≤ n
  | 0 => Nat.le_refl _
  | n + 1 => by have := wnt_le LS R L n; unfold wnt; split <;> omega
/-- an hour passes -/
def psR (LS : Nat → (Nat → Int) → Option Int) (R : Nat → Int32) (L C : Nat) : Nat → Int32 := upd (gA LS R L C) 5 (R 5 + 1)
def KP (σ τ : MS) : Prop := (∀ k, k ≠ 41 → ma τ k = ma σ k) ∧ (∀ k, k ≠ 34 → k ≠ 38 → mi τ k = mi σ k) ∧ (∀ k, k ≠ 35 → k ≠ 37 → mb τ k = mb σ k)
theorem KP.rf {σ : MS} : KP σ σ := ⟨fun _ _ => rfl, fun _ _ _ => rfl, fun _ _ _ => rfl⟩
theorem KP.tr {σ τ υ : MS} (h : KP σ τ) (k : KP τ υ) : KP σ υ := ⟨fun i a => (k.1 i a).trans (h.1 i a), fun i a b => (k.2.1 i a b).trans (h.2.1 i a b), fun i a b => (k.2.2 i a b).trans (h.2.2 i a b)⟩
theorem KL.kp {σ τ : MS} (h : KL σ τ) : KP σ τ := ⟨fun i _ => congrFun h.1 i, h.2.1, h.2.2⟩
theorem kp_41 (σ : MS) (j : Nat) (v : Int32) : KP σ (mA σ 41 j v) := ⟨fun k a => by show va_up σ.2.2.1 41 _ k = _; rw [up_d, if_neg a], fun _ _ _ => rfl, fun _ _ _ => rfl⟩
theorem passL4 {E : Nat → ClassId} {P : va_W} {q : Option Nat} {LS : Nat → (Nat → Int) → Option Int} {F L C : Nat} {R : Nat → Int32} {x1 : Int32} (h : LQ E P R q LS) (hF : 1000 ≤ F) (va : VA R L C) : ∀ (k c fuel : Nat) (σ : MS), ma σ 3 = R → mi σ 20 = 0 → c + k = C → k < fuel → (∀ i, i < c → ma σ 41 i = laneS LS R L i) → ∃ τ, M_passIt_L4 F x1 fuel σ (nI c) = M_passIt_L33 F F τ x1 0 ∧ KP σ τ ∧ ∀ i, i < C → ma τ 41 i = laneS LS R L i
  | 0, c, fuel + 1, σ, eR, h20, e, _, hg => by
    have e1 : ma σ 3 1 = nI C := by rw [eR]; exact va.1.2.2.2
    have hC := va.1.2.1
    rw [M_passIt_L4, e1, if_pos (nI_le (by omega) (by omega))]
    exact ⟨σ, rfl, KP.rf, fun i hi => hg i (by omega)⟩
  | k + 1, c, fuel + 1, σ, eR, h20, e, hf, hg => by
    have e1 : ma σ 3 1 = nI C := by rw [eR]; exact va.1.2.2.2
    have hC := va.1.2.1
    obtain ⟨τ, m1, m2⟩ := qm_laneOf (σ := σ) (c := c) (by rw [eR]; exact h) hF (by rw [eR]; exact va) (by omega) h20
    rw [eR] at m1
    rw [M_passIt_L4, e1, if_neg (nI_ge (by omega) (by omega)), m1, bs, chk_in (by omega) (by decide), nI_clamp (by omega), stt_d, ← nI_succ]
    have kp : KP σ (mA τ 41 c (laneS LS R L c)) := m2.kp.tr (kp_41 _ _ _)
    obtain ⟨τ', r1, r2, r3⟩ := passL4 h hF va k (c + 1) fuel (mA τ 41 c (laneS LS R L c)) (by rw [kp.1 3 (by decide), eR]) (by rw [kp.2.1 20 (by decide) (by decide), h20]) (by omega) (by omega) (fun i hi => by
      show upd (ma τ 41) c (laneS LS R L c) i = _
      by_cases z : i = c
      · rw [z, pk_us]
      · rw [pk_un z, m2.1]; exact hg i (by omega))
    exact ⟨τ', r1, kp.tr r2, r3⟩
theorem passL33 {LS : Nat → (Nat → Int) → Option Int} {F L C : Nat} {R : Nat → Int32} {σ : MS} (va : VA R L C) (hg : ∀ i, i < C → ma σ 41 i = laneS LS R L i) : ∀ (k c fuel : Nat), c + k = C → k < fuel → M_passIt_L33 F fuel (mF σ 3 (gA LS R L c)) (nI (wnt LS R L c)) (nI c) = some (nI (wnt LS R L C), mF σ 3 (psR LS R L C))
  | 0, c, fuel + 1, e, _ => by
    have hC := va.1.2.1
    obtain rfl : c = C := by omega
    have e1 : ma (mF σ 3 (gA LS R L c)) 3 1 = nI c := by rw [ma_F, gA_n (by omega) (by omega)]; exact va.1.2.2.2
    rw [M_passIt_L33, e1, if_pos (nI_le (by omega) (by omega)), stt_d, ma_F, mA_F, ma_F, mF_mF, gA_n (i := 5) (by omega) (by omega)]
    rfl
  | k + 1, c, fuel + 1, e, hf => by
    have hC := va.1.2.1
    have hL := va.1.1
    have e1 : ma (mF σ 3 (gA LS R L c)) 3 1 = nI C := by rw [ma_F, gA_n (by omega) (by omega)]; exact va.1.2.2.2
    have e2 : ma (mF σ 3 (gA LS R L c)) 41 = ma σ 41 := rfl
    have ih := passL33 (F := F) va hg k (c + 1) fuel (by omega) (by omega)
    rw [M_passIt_L33, e1, if_neg (nI_ge (by omega) (by omega)), chk_in (by omega) (by decide), nI_clamp (by omega), e2, hg c (by omega)]
    unfold M_passIt_B67
    have es := gA_s (LS := LS) (R := R) (L := L) (n := c) (by omega)
    rw [show wnt LS R L (c + 1) = wnt LS R L c + (if laneS LS R L c = -1 then 0 else 1) from rfl] at ih
    rcases laneS_c LS R L c with z | ⟨j, hj, z, -⟩
    · rw [if_pos z, Nat.add_zero, nI_succ] at ih
      rw [if_pos z]
      rw [z, goR_m1] at es
      rw [es]; exact ih
    · have nz : ¬ laneS LS R L c = -1 := by rw [z]; exact nI_m1 (by omega)
      rw [if_neg nz, nI_succ, nI_succ] at ih
      rw [if_neg nz, chk_in (by omega) (by decide), z, qm_goAlong (by omega) (by omega), bs, ma_F, mF_mF, ← z, es]
      exact ih
theorem qm_passIt {E : Nat → ClassId} {P : va_W} {q : Option Nat} {LS : Nat → (Nat → Int) → Option Int} {F L C : Nat} {σ : MS} (h : LQ E P (ma σ 3) q LS) (hF : 1000 ≤ F) (va : VA (ma σ 3) L C) (h20 : mi σ 20 = 0) : ∃ τ, M_passIt F σ = some (nI (wnt LS (ma σ 3) L C), mF τ 3 (psR LS (ma σ 3) L C)) ∧ KP σ τ := by
  have hC := va.1.2.1
  obtain ⟨τ, r1, r2, r3⟩ := passL4 (x1 := 0) h hF va C 0 F σ rfl h20 (by omega) (by omega) (fun i hi => by omega)
  refine ⟨τ, ?_, r2⟩
  have := passL33 (F := F) (σ := τ) va r3 C 0 F (by omega) (by omega)
  rw [gA_0, ← r2.1 3 (by decide), mF_self] at this
  rw [← r2.1 3 (by decide)]
  unfold M_passIt
  show M_passIt_L4 F 0 F σ (nI 0) = _
  rw [r1]
  exact this
