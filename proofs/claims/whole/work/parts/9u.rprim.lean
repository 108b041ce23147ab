/-- the class while it reads -/
def FC (I : Nat → Int32) : Option Nat → Prop
  | none => I 10 = -1
  | some v => I 10 = nI v
def RC (S : CS) (I0 : Nat → Int32) (t : Nat → Nat) (n s a br pa : Nat) (fl : Option Nat) (A : Nat → Int32) (T : CS) : Prop := ∃ I : Nat → Int32, T = cJ (cF S 9 1 A) I ∧ TPc S t n ∧ TKc t n s I ∧ s ≤ n ∧ FC I fl ∧ I 2 = nI (2 * a) ∧ I 9 = nI br ∧ I 8 = nI pa ∧ a ≤ s ∧ ∀ k, k ≠ 2 → k ≠ 4 → k ≠ 5 → k ≠ 6 → k ≠ 7 → k ≠ 8 → k ≠ 9 → k ≠ 10 → I k = I0 k
theorem tpF {S : CS} {A : Nat → Int32} {t : Nat → Nat} {n : Nat} (h : TPc S t n) : TPc (cF S 9 1 A) t n := h
theorem FC_c {I I' : Nat → Int32} {fl : Option Nat} (h : FC I fl) (a : I' 10 = I 10) : FC I' fl := by
  cases fl with
  | none => exact a.trans h
  | some v => exact a.trans h
theorem nx_ge {t : Nat → Nat} {n s : Nat} (hs : s ≤ n) : s ≤ nxT t n s := by
  have := sk_le (t := t) (en_le (t := t) hs)
  by_cases z : s < n
  · exact Nat.le_of_lt (nx_gt z).1
  · have : enT t n s = s := by unfold enT; rw [if_pos (by omega)]
    unfold nxT; omega
theorem rc_adv {F : Nat} {S T : CS} {I0 : Nat → Int32} {t : Nat → Nat} {n s a br pa : Nat} {fl : Option Nat} {A : Nat → Int32} (hF : 1000 ≤ F) (ht : ∀ i, t i < 256) (h : RC S I0 t n s a br pa fl A T) : ∃ T', C_3_advance F T = some ((), T') ∧ RC S I0 t n (nxT t n s) a br pa fl A T' := by
  obtain ⟨I, rfl, tp, tk, hs, hfl, h2, h9, h8, ha, hk⟩ := h
  obtain ⟨I', a1, a2, a3⟩ := qc_adv (F := F) (S := cF S 9 1 A) hF (tpF tp) ht (en_le hs) tk.2.2.1
  have ge := nx_ge (t := t) hs
  exact ⟨_, a1, I', rfl, tp, a2, nx_le hs, FC_c hfl (a3 10 (by decide) (by decide) (by decide) (by decide)), (a3 2 (by decide) (by decide) (by decide) (by decide)).trans h2, (a3 9 (by decide) (by decide) (by decide) (by decide)).trans h9, (a3 8 (by decide) (by decide) (by decide) (by decide)).trans h8, by omega, fun k k2 k4 k5 k6 k7 k8 k9 k10 => (a3 k k4 k5 k6 k7).trans (hk k k2 k4 k5 k6 k7 k8 k9 k10)⟩
theorem cJ_A (S : CS) (A I : Nat → Int32) (j : Nat) (x : Int32) : cA (cJ (cF S 9 1 A) I) 9 1 j x = cJ (cF S 9 1 (upd A j x)) I := by
  have e : cA (cF S 9 1 A) 9 1 j x = cF S 9 1 (upd A j x) := by
    show cF (cF S 9 1 A) 9 1 (upd (ca (cF S 9 1 A) 9 1) j x) = _
    rw [ca_cF, cF_cF]
  show cJ (cA (cF S 9 1 A) 9 1 j x) I = _
  rw [e]
theorem rc_set {S : CS} {I0 I : Nat → Int32} {t : Nat → Nat} {n s a br pa a' br' pa' k : Nat} {fl fl' : Option Nat} {A A' : Nat → Int32} {x : Int32} (h : RC S I0 t n s a br pa fl A (cJ (cF S 9 1 A) I)) (hk : k = 2 ∨ k = 8 ∨ k = 9 ∨ k = 10) (h2 : upd I k x 2 = nI (2 * a')) (h9 : upd I k x 9 = nI br') (h8 : upd I k x 8 = nI pa') (hf : FC (upd I k x) fl') (ha : a' ≤ s) : RC S I0 t n s a' br' pa' fl' A' (cJ (cF S 9 1 A') (upd I k x)) := by
  obtain ⟨J, e, tp, tk, hs, hfl, g2, g9, g8, ga, gk⟩ := h
  have eJ : I = J := by
    have := congrArg (fun T => ci T 9) e
    rw [ci_J, ci_J] at this
    exact this
  subst eJ
  refine ⟨_, rfl, tp, ⟨?_, ?_, ?_, fun q => ?_⟩, hs, hf, h2, h9, h8, ha, fun j j2 j4 j5 j6 j7 j8 j9 j10 => ?_⟩
  · rw [pk_un (by omega)]; exact tk.1
  · rw [pk_un (by omega)]; exact tk.2.1
  · rw [pk_un (by omega)]; exact tk.2.2.1
  · rw [pk_un (by omega)]; exact tk.2.2.2 q
  · rw [pk_un (by omega)]; exact gk j j2 j4 j5 j6 j7 j8 j9 j10
theorem rc_emit {S T : CS} {I0 : Nat → Int32} {t : Nat → Nat} {n s a br pa : Nat} {fl : Option Nat} {A : Nat → Int32} {o x : Int32} (h : RC S I0 t n s a br pa fl A T) (hb : a + 1 ≤ s) : ∃ T', C_3_emit T o x = some (nI (2 * a), T') ∧ RC S I0 t n s (a + 1) br pa fl (upd (upd A (2 * a) o) (2 * a + 1) x) T' := by
  have hh := h
  obtain ⟨I, rfl, tp, tk, hs, hfl, h2, h9, h8, ha, hk⟩ := hh
  have hn := tp.1
  unfold C_3_emit
  rw [ci_J, h2, ← nI_succ, if_neg (show ¬ (800 : Int32) ≤ nI (2 * a + 1) from nI_ge (b := 800) (by omega) (by decide)), chk_in (show 2 * a < 800 by omega) (by decide), stc_d, nI_clamp (by omega), cJ_A, ci_J, h2, ← nI_succ, chk_in (show 2 * a + 1 < 800 by omega) (by decide), stc_d, nI_clamp (by omega), cJ_A, stc_d, ci_J, h2, cJ_I, show nI (2 * a) + 2 = nI (2 * (a + 1)) from nI_add (2 * a) 2]
  exact ⟨_, rfl, rc_set h (Or.inl rfl) pk_us (by rw [pk_un (by decide)]; exact h9) (by rw [pk_un (by decide)]; exact h8) (FC_c hfl (pk_un (by decide))) hb⟩
theorem rc_fail {S T : CS} {I0 : Nat → Int32} {t : Nat → Nat} {n s a br pa : Nat} {A : Nat → Int32} (h : RC S I0 t n s a br pa none A T) : ∃ T', C_3_fail T = some (0, T') ∧ RC S I0 t n s a br pa (some s) A T' := by
  have hh := h
  obtain ⟨I, rfl, tp, tk, hs, hfl, h2, h9, h8, ha, hk⟩ := hh
  unfold C_3_fail
  rw [ci_J, show I 10 = -1 from hfl, if_pos rfl, stc_d, cJ_I, tk.2.1]
  exact ⟨_, rfl, rc_set h (Or.inr (Or.inr (Or.inr rfl))) (by rw [pk_un (by decide)]; exact h2) (by rw [pk_un (by decide)]; exact h9) (by rw [pk_un (by decide)]; exact h8) pk_us ha⟩
theorem rc_fail2 {S T : CS} {I0 : Nat → Int32} {t : Nat → Nat} {n s a br pa v : Nat} {A : Nat → Int32} (hv : v ≤ 400) (h : RC S I0 t n s a br pa (some v) A T) : C_3_fail T = some (0, T) := by
  obtain ⟨I, rfl, tp, tk, hs, hfl, h2, h9, h8, ha, hk⟩ := h
  unfold C_3_fail
  rw [ci_J, show I 10 = nI v from hfl, if_neg (nI_m1 (by omega))]
theorem rc_sign {S T : CS} {I0 : Nat → Int32} {t : Nat → Nat} {n s a br pa x : Nat} {fl : Option Nat} {A : Nat → Int32} (ht : ∀ i, t i < 256) (hx : x < 256) (h : RC S I0 t n s a br pa fl A T) : C_3_isSign T (nI x) = some (if isS t n s x then 1 else 0) := by
  obtain ⟨I, rfl, tp, tk, -⟩ := h
  exact qc_isSign (tpF tp) ht hx tk
theorem rc_choice {F : Nat} {S T : CS} {I0 : Nat → Int32} {t : Nat → Nat} {n s a br pa i : Nat} {fl : Option Nat} {A : Nat → Int32} (hF : 1000 ≤ F) (ht : ∀ i, t i < 256) (hi : i < 10) (h : RC S I0 t n s a br pa fl A T) : C_3_choice F T i = some (chI t n s i) := by
  obtain ⟨I, rfl, tp, tk, -⟩ := h
  exact qc_choice hF (tpF tp) ht hi tk
theorem rc_num {S T : CS} {I0 : Nat → Int32} {t : Nat → Nat} {n s a br pa lo hi : Nat} {fl : Option Nat} {A : Nat → Int32} (hh : hi ≤ 1000) (hl : lo ≤ 1000) (h : RC S I0 t n s a br pa fl A T) : C_3_isNumber T (nI lo) (nI hi) = some (if nmB t n s lo hi then 1 else 0) := by
  obtain ⟨I, rfl, tp, tk, -⟩ := h
  exact qc_isNumber hh hl tk
theorem rc_kw {F : Nat} {S T : CS} {I0 : Nat → Int32} {t : Nat → Nat} {n s a br pa i : Nat} {fl : Option Nat} {A : Nat → Int32} (hF : 1000 ≤ F) (ht : ∀ i, t i < 256) (hi : i < 10) (h1 : wdC i = 1) (h : RC S I0 t n s a br pa fl A T) : (isW t n s (wdH i 0) = true ∧ ∃ T', C_3_isKeyword F T i = some (1, T') ∧ RC S I0 t n (nxT t n s) a br pa fl A T') ∨ (isW t n s (wdH i 0) = false ∧ C_3_isKeyword F T i = some (0, T)) := by
  unfold C_3_isKeyword
  rw [rc_choice hF ht hi h, bs]
  rcases ch_1 (t := t) (n := n) (s := s) hi h1 with ⟨a1, a2⟩ | ⟨a1, a2⟩
  · obtain ⟨T', b1, b2⟩ := rc_adv hF ht h
    rw [a2, if_neg (by decide), b1, bs]
    exact Or.inl ⟨a1, T', rfl, b2⟩
  · rw [a2, if_pos rfl]
    exact Or.inr ⟨a1, rfl⟩
theorem rc_opens {F : Nat} {S T : CS} {I0 : Nat → Int32} {t : Nat → Nat} {n s a br pa : Nat} {A : Nat → Int32} (hF : 1000 ≤ F) (ht : ∀ i, t i < 256) (hb : br ≤ 8) (h : RC S I0 t n s a br pa none A T) : (br < 8 ∧ ∃ T', C_3_opens F T = some (1, T') ∧ RC S I0 t n (nxT t n s) a (br + 1) pa none A T') ∨ (8 ≤ br ∧ ∃ T', C_3_opens F T = some (0, T') ∧ RC S I0 t n s a br pa (some s) A T') := by
  have hh := h
  obtain ⟨I, rfl, tp, tk, hs, hfl, h2, h9, h8, ha, hk⟩ := hh
  unfold C_3_opens
  rw [ci_J, h9]
  by_cases z : br < 8
  · rw [if_pos (show nI br < 8 from nI_lt (b := 8) z (by decide)), stc_d, cJ_I, ← nI_succ]
    have k : RC S I0 t n s a (br + 1) pa none A (cJ (cF S 9 1 A) (upd I 9 (nI (br + 1)))) := rc_set h (Or.inr (Or.inr (Or.inl rfl))) (by rw [pk_un (by decide)]; exact h2) pk_us (by rw [pk_un (by decide)]; exact h8) (FC_c (fl := none) hfl (pk_un (by decide))) ha
    obtain ⟨T', b1, b2⟩ := rc_adv hF ht k
    rw [b1, bs]
    exact Or.inl ⟨z, T', rfl, b2⟩
  · obtain ⟨T', b1, b2⟩ := rc_fail h
    rw [if_neg (show ¬ nI br < 8 from nI_nlt (b := 8) (by omega) (by omega)), b1, bs, chk_t (Or.inl rfl)]
    exact Or.inr ⟨by omega, T', rfl, b2⟩
theorem rc_closes {F : Nat} {S T : CS} {I0 : Nat → Int32} {t : Nat → Nat} {n s a br pa x : Nat} {A : Nat → Int32} (hF : 1000 ≤ F) (ht : ∀ i, t i < 256) (hx : x < 256) (h : RC S I0 t n s a (br + 1) pa none A T) : (isS t n s x = true ∧ ∃ T', C_3_closes F T (nI x) = some (1, T') ∧ RC S I0 t n (nxT t n s) a br pa none A T') ∨ (isS t n s x = false ∧ ∃ T', C_3_closes F T (nI x) = some (0, T') ∧ RC S I0 t n s a (br + 1) pa (some s) A T') := by
  have hsg := rc_sign ht hx h
  have hh := h
  obtain ⟨I, rfl, tp, tk, hs, hfl, h2, h9, h8, ha, hk⟩ := hh
  unfold C_3_closes
  rw [hsg, bs]
  cases q : isS t n s x with
  | true =>
    rw [if_pos rfl, if_neg (by decide), stc_d, ci_J, h9, cJ_I, nI_pred]
    have k : RC S I0 t n s a br pa none A (cJ (cF S 9 1 A) (upd I 9 (nI br))) := rc_set h (Or.inr (Or.inr (Or.inl rfl))) (by rw [pk_un (by decide)]; exact h2) pk_us (by rw [pk_un (by decide)]; exact h8) (FC_c (fl := none) hfl (pk_un (by decide))) ha
    obtain ⟨T', b1, b2⟩ := rc_adv hF ht k
    rw [b1, bs]
    exact Or.inl ⟨rfl, T', rfl, b2⟩
  | false =>
    obtain ⟨T', b1, b2⟩ := rc_fail h
    rw [if_pos (by decide), b1, bs, chk_t (Or.inl rfl)]
    exact Or.inr ⟨rfl, T', rfl, b2⟩
theorem rc_land {S T : CS} {I0 : Nat → Int32} {t : Nat → Nat} {n s a br pa j : Nat} {fl : Option Nat} {A : Nat → Int32} (h : RC S I0 t n s a br pa fl A T) (hj : j < a) : ∃ T', C_3_land T (nI (2 * j)) = some ((), T') ∧ RC S I0 t n s a br pa fl (upd A (2 * j + 1) (nI (2 * a))) T' := by
  obtain ⟨I, rfl, tp, tk, hs, hfl, h2, h9, h8, ha, hk⟩ := h
  have hn := tp.1
  unfold C_3_land
  rw [if_neg (show ¬ nI (2 * j) < 0 from nI_nlt (b := 0) (Nat.zero_le _) (by omega)), ci_J, h2, ← nI_succ, if_neg (nI_ge (by omega) (by omega)), chk_in (show 2 * j + 1 < 800 by omega) (by decide), nI_clamp (by omega), stc_d, cJ_A]
  exact ⟨_, rfl, I, rfl, tp, tk, hs, hfl, h2, h9, h8, ha, hk⟩
/-- of the reference -/
theorem rd_sign {σ τ : MS} {I0 : Nat → Int32} {t : Nat → Nat} {n s b br pa x : Nat} {l : List (Nat × Nat)} {fl : Option Nat} {f g : Nat → Int32} (ht : ∀ i, t i < 256) (hx : x < 256) (h : RM σ I0 t n s b l br pa fl f g τ) : M_isSign τ (nI x) = some (if isS t n s x then 1 else 0) := by
  obtain ⟨I, p, q, rfl, tp, tk, -⟩ := h
  exact qm_isSign ht hx tk
theorem rd_word {σ τ : MS} {I0 : Nat → Int32} {t : Nat → Nat} {n s b br pa x : Nat} {l : List (Nat × Nat)} {fl : Option Nat} {f g : Nat → Int32} (h : RM σ I0 t n s b l br pa fl f g τ) : M_isWord τ (lN x) = some (if isW t n s x then 1 else 0) := by
  obtain ⟨I, p, q, rfl, tp, tk, -⟩ := h
  exact qm_isWord tk
theorem PL_app {p q : Nat → Int32} : ∀ (Q P : List (Nat × Nat)), PL p q (Q ++ P) → PL p q P
  | [], P, h => h
  | e :: Q, P, h => PL_app Q P (show PL p q (e :: (Q ++ P)) from h).2
/-- the innermost bracket -/
def inn : List (Nat × Nat) → Int32
  | [] => -1
  | e :: l => if 31 ≤ e.1 then nI e.1 else inn l
theorem innerL {F : Nat} {σ : MS} {f g p q I : Nat → Int32} {v : Int64} {l : List (Nat × Nat)} (hl : l.length ≤ 400) (pl : PL p q l) (h29 : I 29 = nI l.length) : ∀ (r fuel : Nat) (Q P : List (Nat × Nat)), Q.length = r → l = Q ++ P → r < fuel → M_inner_L4 F (mJ (mQ σ f g p q) I v) fuel (inn P) (nI P.length) = some (inn l)
  | 0, fuel + 1, Q, P, hQ, e, _ => by
    have : Q = [] := List.eq_nil_of_length_eq_zero hQ
    subst this
    have e' : l = P := e
    rw [M_inner_L4, mi_J, h29, e', if_pos (nI_le (Nat.le_refl _) (by rw [← e']; omega))]
  | r + 1, fuel + 1, Q, P, hQ, e, hf => by
    obtain ⟨Q', e0, eQ⟩ : ∃ Q' e0, Q = Q' ++ [e0] := by
      rcases List.eq_nil_or_concat Q with z | ⟨Q', e0, z⟩
      · rw [z] at hQ; exact absurd hQ (by simp)
      · exact ⟨Q', e0, by rw [z]; simp⟩
    have el : l = Q' ++ (e0 :: P) := by rw [e, eQ, List.append_assoc]; rfl
    have hlen : l.length = Q'.length + (P.length + 1) := by rw [el, List.length_append]; rfl
    obtain ⟨⟨p1, p2, p3, p4, p5⟩, p6⟩ := (show PL p q (e0 :: P) from PL_app Q' _ (el ▸ pl))
    have ih := innerL (F := F) (σ := σ) (f := f) (g := g) (v := v) hl pl h29 r fuel Q' (e0 :: P) (by rw [eQ, List.length_append] at hQ; have : [e0].length = 1 := rfl; omega) el (by omega)
    rw [M_inner_L4, mi_J, h29, if_neg (nI_ge (by omega) (by omega)), chk_in (show P.length < 400 by omega) (by decide), chk_in (show P.length < 400 by omega) (by decide), nI_clamp (by omega), show ma (mJ (mQ σ f g p q) I v) 27 P.length = nI e0.1 from p1]
    unfold M_inner_B33
    rw [← nI_succ]
    have ih' : M_inner_L4 F (mJ (mQ σ f g p q) I v) fuel (if 31 ≤ e0.1 then nI e0.1 else inn P) (nI (P.length + 1)) = some (inn l) := ih
    by_cases z : 31 ≤ e0.1
    · rw [if_pos z] at ih'
      rw [if_neg (show ¬ nI e0.1 < 31 from nI_nlt (b := 31) z (by omega))]; exact ih'
    · rw [if_neg z] at ih'
      rw [if_pos (show nI e0.1 < 31 from nI_lt (b := 31) (by omega) (by decide))]; exact ih'
theorem rd_inner {F : Nat} {σ τ : MS} {I0 : Nat → Int32} {t : Nat → Nat} {n s b br pa : Nat} {l : List (Nat × Nat)} {fl : Option Nat} {f g : Nat → Int32} (hF : 1000 ≤ F) (h : RM σ I0 t n s b l br pa fl f g τ) : M_inner F τ = some (inn l) := by
  obtain ⟨I, p, q, rfl, tp, tk, hs, hfl, h23, h29, h30, h26, pl, hb, hk⟩ := h
  have hn := tp.1
  exact innerL (by omega) pl h29 l.length F l [] rfl (by rw [List.append_nil]) (by omega)
/-- behind a comparison -/
def cmpd : List (Nat × Nat) → Bool
  | [] => false
  | e :: l => if e.1 ≤ 24 then cmpd l else decide (e.1 ≤ 27)
theorem cmpdL {F : Nat} {σ : MS} {f g p q I : Nat → Int32} {v : Int64} : ∀ (l : List (Nat × Nat)) (fuel : Nat), l.length < fuel → l.length ≤ 400 → PL p q l → M_isCompared_L7 F (mJ (mQ σ f g p q) I v) fuel (nI l.length - 1) = some (if cmpd l then 1 else 0)
  | [], fuel + 1, _, _, _ => by
    rw [show nI ([] : List (Nat × Nat)).length - 1 = -1 by decide, M_isCompared_L7, if_pos (by decide)]
    unfold M_isCompared_B36
    rw [if_pos (by decide)]; rfl
  | e :: l, fuel + 1, hf, hl, ⟨⟨p1, p2, p3, p4, p5⟩, p6⟩ => by
    have hl' : l.length + 1 ≤ 400 := hl
    have hf' : l.length + 1 < fuel + 1 := hf
    have ih := cmpdL (F := F) (σ := σ) (f := f) (g := g) (I := I) (v := v) l fuel (by omega) (by omega) p6
    rw [show nI (e :: l).length - 1 = nI l.length from nI_pred l.length, M_isCompared_L7, if_neg (show ¬ nI l.length < 0 from nI_nlt (b := 0) (Nat.zero_le _) (by omega)), chk_in (show l.length < 400 by omega) (by decide), nI_clamp (by omega), show ma (mJ (mQ σ f g p q) I v) 27 l.length = nI e.1 from p1, nI_l (by omega), show (20 : Int64) = lN 20 from rfl, show (24 : Int64) = lN 24 from rfl, qm_inN (by omega) (by decide) (by decide), bs]
    show _ = some (if (if e.1 ≤ 24 then cmpd l else decide (e.1 ≤ 27)) = true then 1 else 0)
    by_cases z : e.1 ≤ 24
    · rw [if_pos (show 20 ≤ e.1 ∧ e.1 ≤ 24 from ⟨p3, z⟩), if_neg (by decide), if_pos z, show nI l.length + (-1 : Int32) = nI l.length - 1 from by rw [show (-1 : Int32) = -(1 : Int32) from rfl, ← Int32.sub_eq_add_neg]]
      exact ih
    · rw [if_neg (show ¬ (20 ≤ e.1 ∧ e.1 ≤ 24) by omega), if_pos rfl, if_neg z]
      unfold M_isCompared_B36
      rw [if_neg (show ¬ nI l.length < 0 from nI_nlt (b := 0) (Nat.zero_le _) (by omega)), chk_in (show l.length < 400 by omega) (by decide), nI_clamp (by omega), show ma (mJ (mQ σ f g p q) I v) 27 l.length = nI e.1 from p1, nI_l (by omega), show (25 : Int64) = lN 25 from rfl, show (27 : Int64) = lN 27 from rfl, qm_inN (by omega) (by decide) (by decide), bs]
      by_cases y : e.1 ≤ 27
      · rw [if_pos (show 25 ≤ e.1 ∧ e.1 ≤ 27 by omega), if_neg (by decide), if_pos (decide_eq_true y)]
      · rw [if_neg (show ¬ (25 ≤ e.1 ∧ e.1 ≤ 27) by omega), if_pos rfl, if_neg (by rw [decide_eq_false y]; decide)]
theorem rd_cmpd {F : Nat} {σ τ : MS} {I0 : Nat → Int32} {t : Nat → Nat} {n s b br pa : Nat} {l : List (Nat × Nat)} {fl : Option Nat} {f g : Nat → Int32} (hF : 1000 ≤ F) (h : RM σ I0 t n s b l br pa fl f g τ) : M_isCompared F τ = some (if cmpd l then 1 else 0) := by
  obtain ⟨I, p, q, rfl, tp, tk, hs, hfl, h23, h29, h30, h26, pl, hb, hk⟩ := h
  have hn := tp.1
  unfold M_isCompared
  rw [mi_J, h29]
  exact cmpdL l F (by omega) (by omega) pl
