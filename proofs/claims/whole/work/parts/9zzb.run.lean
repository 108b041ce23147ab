/-- a sum of orders, reckoned -/
def KS (σ τ : MS) : Prop := ma τ = ma σ ∧ (∀ k, k ≠ 38 → k ≠ 53 → mi τ k = mi σ k) ∧ (∀ k, k ≠ 37 → mb τ k = mb σ k)
theorem KS.rf {σ : MS} : KS σ σ := ⟨rfl, fun _ _ _ => rfl, fun _ _ => rfl⟩
theorem KS.tr {σ τ υ : MS} (h : KS σ τ) (k : KS τ υ) : KS σ υ := ⟨k.1.trans h.1, fun i a b => (k.2.1 i a b).trans (h.2.1 i a b), fun i a => (k.2.2 i a).trans (h.2.2 i a)⟩
def WR (σ : MS) (f g R : Nat → Int32) (L C : Nat) (d l : Int32) : Prop := mi σ 20 = 0 ∧ ma σ 24 = f ∧ ma σ 25 = g ∧ ma σ 3 = R ∧ ∀ k, k < 5 → mb σ 36 (k + 1) = (wO R L C d l k).toInt64
theorem WR_KS {σ τ : MS} {f g R : Nat → Int32} {L C : Nat} {d l : Int32} (h : WR σ f g R L C d l) (k : KS σ τ) : WR τ f g R L C d l := ⟨by rw [k.2.1 20 (by decide) (by decide)]; exact h.1, by rw [k.1]; exact h.2.1, by rw [k.1]; exact h.2.2.1, by rw [k.1]; exact h.2.2.2.1, fun i hi => by rw [k.2.2 36 (by decide)]; exact h.2.2.2.2 i hi⟩
theorem qm_sumOf {F x s0 s1 L C : Nat} {σ : MS} {f g R : Nat → Int32} {d l : Int32} {φ : (Nat → Int) → Option Int} (hF : 1000 ≤ F) (h53 : mi σ 53 = 0) (hx : x + 1 < 96) (w : WR σ f g R L C d l) (va : VA R L C) (hd : sml d.toInt) (hl : sml l.toInt) (e0 : ma σ 49 x = nI s0) (e1 : ma σ 49 (x + 1) = nI s1) (hs : s1 ≤ 400) (sg : Seg 19 (rcf true f g) s0 s1 50 φ) : ∃ v τ, M_sumOf F σ (nI x) = some (v, τ) ∧ KS σ τ ∧ (φ (fun k => (wO R L C d l k).toInt) = none → mi τ 53 = 1) ∧ ∀ y, φ (fun k => (wO R L C d l k).toInt) = some y → mi τ 53 = 0 ∧ v.toInt = y := by
  obtain ⟨h20, h24, h25, h3, hm⟩ := w
  have lt := sg.1
  have rc : RCode F (mI (mI σ 20 1) 38 0) 19 s1 (rcf true f g) (fun k => (wO R L C d l k).toInt) f g := rc_ord (σ := mI (mI σ 20 1) 38 0) hs (by show upd (upd σ.1 20 1) 38 0 20 = 1; rw [pk_un (by decide), pk_us]) h24 h25 h3 va hm hd hl
  obtain ⟨τ, a1, kr, a2, a3⟩ := qm_reckonAll (σ := mI σ 20 1) hF hs rc (by omega) sg
  have s01 : mi τ 38 = 0 ∨ mi τ 38 = 1 := by
    cases e : φ (fun k => (wO R L C d l k).toInt) with
    | none => exact Or.inr (a2 e)
    | some y => exact Or.inl (a3 y e).1
  refine ⟨(ml τ 39).toInt32, mI (mI τ 20 0) 53 (mi τ 38), ?_, ⟨?_, fun k k1 k2 => ?_, fun k k1 => ?_⟩, fun e => ?_, fun y e => ?_⟩
  · unfold M_sumOf
    rw [h53, if_pos rfl, ← nI_succ, chk_in (show x < 96 by omega) (by decide), chk_in hx (by decide), nI_clamp (by omega), nI_clamp (by omega), e0, e1, if_neg (show ¬ nI s0 = nI s1 from fun q => by have := (nI_eq (by omega) (by omega)).mp q; omega), stt_d, chk_in (show x < 96 by omega) (by decide), chk_in hx (by decide), show ma (mI σ 20 1) 49 x = nI s0 from e0, show ma (mI σ 20 1) 49 (x + 1) = nI s1 from e1, a1, bs, stt_d]
    show chk (mi τ 38 = 0 ∨ mi τ 38 = 1) _ = _
    rw [chk_t s01]
    rfl
  · exact kr.1
  · show upd (upd τ.1 20 0) 53 (mi τ 38) k = mi σ k
    rw [pk_un k2]
    by_cases z : k = 20
    · rw [z, pk_us]; exact h20.symm
    · rw [pk_un z]
      refine (kr.2.1 k k1).trans ?_
      show upd σ.1 20 1 k = mi σ k
      rw [pk_un z]
  · exact kr.2.2 k k1
  · show upd (upd τ.1 20 0) 53 (mi τ 38) 53 = 1
    rw [pk_us]; exact a2 e
  · obtain ⟨b1, b2, b3⟩ := a3 y e
    refine ⟨?_, ?_⟩
    · show upd (upd τ.1 20 0) 53 (mi τ 38) 53 = 0
      rw [pk_us]; exact b1
    · rw [n_32 (by rw [b2]; exact b3)]; exact b2
theorem qm_sum0 {F x s0 : Nat} {σ : MS} (h53 : mi σ 53 = 0) (hx : x + 1 < 96) (e0 : ma σ 49 x = nI s0) (e1 : ma σ 49 (x + 1) = nI s0) : M_sumOf F σ (nI x) = some (-1, σ) := by
  unfold M_sumOf
  rw [h53, if_pos rfl, ← nI_succ, chk_in (show x < 96 by omega) (by decide), chk_in hx (by decide), nI_clamp (by omega), nI_clamp (by omega), e0, e1, if_pos rfl]
theorem qm_sumB {F : Nat} {σ : MS} {x : Int32} (h53 : mi σ 53 = 1) : M_sumOf F σ x = some (-1, σ) := by
  unfold M_sumOf
  rw [h53, if_neg (show ¬ (1 : Int32) = 0 by decide)]
theorem qc_reck0 {F : Nat} {E : Nat → ClassId} {P : va_W} {S : CS} {a len i : Nat} {code : Nat → Int32} {wo wk wn : Nat} (hF : 1000 ≤ F) (hp : parE E P a = some (len, code)) (hi : 2 * i ≤ len) (hl : len ≤ 800) : ∃ h', C_4_reckon F E P S a (nI (2 * i)) (nI (2 * i)) wo wk wn = some (0, cF S 12 0 h') := by
  refine ⟨upd (ca S 12 0) 0 0, ?_⟩
  obtain ⟨F, rfl⟩ : ∃ k, F = k + 1 := ⟨F - 1, by omega⟩
  unfold C_4_reckon plen
  rw [stc_d, hp, bs]
  show C_4_reckon_L25 (F + 1) E P wo wk wn a (if nI len < nI (2 * i) then nI len else nI (2 * i)) (F + 1) (cA S 12 0 0 0) 0 (if nI (2 * i) < 0 then 0 else nI (2 * i)) = _
  rw [if_neg (nI_nlt hi (by omega)), if_neg (nI_pos (by omega)), C_4_reckon_L25, ← nI_succ, if_pos (nI_le (by omega) (by omega)), chk_t (by decide)]
  show some (ca (cF S 12 0 (upd (ca S 12 0) 0 0)) 12 0 0, cF S 12 0 (upd (ca S 12 0) 0 0)) = _
  rw [ca_cF, pk_us]
/-- what running a clause leaves -/
def KO1 (S T : CS) : Prop := (∀ o k, o ≠ 7 ∨ k ≠ 2 → ci T o k = ci S o k) ∧ cq T = cq S ∧ ∀ o k, o ≠ 12 → o ≠ 11 → o ≠ 7 → ¬ (o = 0 ∧ k = 12) → (o ≠ 1 ∨ (k ≠ 4 ∧ k ≠ 7 ∧ k ≠ 8 ∧ k ≠ 12)) → ca T o k = ca S o k
theorem KO1.rf {S : CS} : KO1 S S := ⟨fun _ _ _ => rfl, rfl, fun _ _ _ _ _ _ _ => rfl⟩
theorem KO1.tr {S T U : CS} (h : KO1 S T) (k : KO1 T U) : KO1 S U := ⟨fun o i a => (k.1 o i a).trans (h.1 o i a), k.2.1.trans h.2.1, fun o i a b c d e => (k.2.2 o i a b c d e).trans (h.2.2 o i a b c d e)⟩
theorem KD.k1 {S T : CS} (h : KD S T) : KO1 S T := ⟨h.1, h.2.2.1, fun o k a b c _ e => h.2.2.2 o k a b c e⟩
theorem k1_w (S : CS) (f : Nat → Int32) : KO1 S (cF S 0 12 f) := ⟨fun _ _ _ => rfl, rfl, fun o k _ _ _ d _ => ca_cFn _ _ _ _ _ _ (by omega)⟩
theorem k1_s (S : CS) (f : Nat → Int32) : KO1 S (cF S 12 0 f) := ⟨fun _ _ _ => rfl, rfl, fun o k a _ _ _ _ => ca_cFn _ _ _ _ _ _ (Or.inl a)⟩
def KO2 (σ τ : MS) : Prop := (∀ k, k ≠ 3 → k ≠ 6 → k ≠ 7 → k ≠ 41 → ma τ k = ma σ k) ∧ (∀ k, k ≠ 8 → k ≠ 34 → k ≠ 38 → k ≠ 50 → k ≠ 51 → k ≠ 53 → mi τ k = mi σ k) ∧ ∀ j, 336 ≤ j → ma τ 6 j = ma σ 6 j
theorem KO2.rf {σ : MS} : KO2 σ σ := ⟨fun _ _ _ _ _ => rfl, fun _ _ _ _ _ _ _ => rfl, fun _ _ => rfl⟩
theorem KO2.tr {σ τ υ : MS} (h : KO2 σ τ) (k : KO2 τ υ) : KO2 σ υ := ⟨fun i a b c d => (k.1 i a b c d).trans (h.1 i a b c d), fun i a b c d e f => (k.2.1 i a b c d e f).trans (h.2.1 i a b c d e f), fun j a => (k.2.2 j a).trans (h.2.2 j a)⟩
theorem KS.k2 {σ τ : MS} (h : KS σ τ) : KO2 σ τ := ⟨fun k _ _ _ _ => by rw [h.1], fun k _ _ c _ _ f => h.2.1 k c f, fun j _ => by rw [h.1]⟩
theorem KY.k2 {σ τ : MS} (h : KY σ τ) (h6 : ∀ j, 336 ≤ j → ma τ 6 j = ma σ 6 j) : KO2 σ τ := ⟨h.1, fun k a b c _ _ _ => h.2.1 k a b c, h6⟩
theorem RelB_KM {E : Nat → ClassId} {S : CS} {P : va_W} {σ τ : MS} {L C H W : Nat} (h : RelB E S P σ L C H W) (k : KM σ τ) : RelB E S P τ L C H W := by
  obtain ⟨h1, h2, h3, h4, h5, h6, h7, h8, h9⟩ := h
  obtain ⟨⟨k2, k3, k4, k5, k6, k7, k12, k55⟩, ⟨i1, i8, i11, i13, i18, i20, i52, i56, i57⟩, b31, b32, b33, b48⟩ := k
  refine ⟨by rw [k3]; exact h1, by rw [k3]; exact h2, by rw [k3]; exact h3, by rw [k4, k5]; exact h4, ?_, by rw [i13, k12]; exact h6, by rw [i56, i57, k55]; exact h7, ?_, ?_⟩
  · rw [k7, k3, i8]; exact LG_cg h5 k6
  · unfold KO at h8 ⊢
    rw [i20, b31, b32, b33, b48]; exact h8
  · unfold MI at h9 ⊢
    rw [i1, i52, i11, i18, k2]; exact h9
theorem RelB_KC {E : Nat → ClassId} {S T : CS} {P : va_W} {σ : MS} {L C H W : Nat} (h : RelB E S P σ L C H W) (k : KC S T) : RelB E T P σ L C H W := by
  obtain ⟨h1, h2, h3, h4, h5, h6, h7, h8, h9⟩ := h
  obtain ⟨⟨a1, a2, a3, a4, a5⟩, ⟨b1, b2, b3⟩, ⟨c1, c2⟩, ⟨d1, d2⟩, ⟨e1, e2, e3, e4⟩, f1⟩ := k
  refine ⟨by rw [b1, b2]; exact h1, h2, by rw [a5, b3]; exact h3, by rw [a5]; exact h4, by rw [c1, c2]; exact h5, by rw [d1, d2]; exact h6, by rw [e1, e2, e3, e4]; exact h7, h8, ?_⟩
  unfold MI at h9 ⊢
  rw [a1, a2, a3, a4, f1]; exact h9
theorem KS.km {σ τ : MS} (h : KS σ τ) : KM σ τ := ⟨⟨by rw [h.1], by rw [h.1], by rw [h.1], by rw [h.1], fun _ _ => by rw [h.1], by rw [h.1], by rw [h.1], by rw [h.1]⟩, ⟨h.2.1 _ (by decide) (by decide), h.2.1 _ (by decide) (by decide), h.2.1 _ (by decide) (by decide), h.2.1 _ (by decide) (by decide), h.2.1 _ (by decide) (by decide), h.2.1 _ (by decide) (by decide), h.2.1 _ (by decide) (by decide), h.2.1 _ (by decide) (by decide), h.2.1 _ (by decide) (by decide)⟩, h.2.2 _ (by decide), h.2.2 _ (by decide), h.2.2 _ (by decide), h.2.2 _ (by decide)⟩
theorem kc_w (S : CS) (f : Nat → Int32) : KC S (cF S 0 12 f) := ⟨⟨rfl, rfl, rfl, ca_cFn _ _ _ _ _ _ (by omega), rfl⟩, ⟨rfl, funext fun k => ca_cFn _ _ _ _ _ _ (by omega), rfl⟩, ⟨ca_cFn _ _ _ _ _ _ (by omega), rfl⟩, ⟨rfl, ca_cFn _ _ _ _ _ _ (by omega)⟩, ⟨rfl, rfl, ca_cFn _ _ _ _ _ _ (by omega), ca_cFn _ _ _ _ _ _ (by omega)⟩, rfl⟩
theorem kc_s (S : CS) (f : Nat → Int32) : KC S (cF S 12 0 f) := ⟨⟨rfl, rfl, rfl, ca_cFn _ _ _ _ _ _ (by omega), rfl⟩, ⟨rfl, funext fun k => ca_cFn _ _ _ _ _ _ (by omega), rfl⟩, ⟨ca_cFn _ _ _ _ _ _ (by omega), rfl⟩, ⟨rfl, ca_cFn _ _ _ _ _ _ (by omega)⟩, ⟨rfl, rfl, ca_cFn _ _ _ _ _ _ (by omega), ca_cFn _ _ _ _ _ _ (by omega)⟩, rfl⟩
