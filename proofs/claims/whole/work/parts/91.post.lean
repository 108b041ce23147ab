theorem post52 {E : Nat → ClassId} {P : va_W} {q : Option Nat} {LS : Nat → (Nat → Int) → Option Int} {F L C h B a : Nat} {R : Nat → Int32} {D : Nat → Nat → Nat} {k39 : MS → Int32 → Int32 → Int32 → Option (Int32 × MS)} {x1 x2 x3 : Int32} (lq : LQ E P R q LS) (hF : 1000 ≤ F) (va : VA R L C) (h5 : R 5 = nI h) (hh : h ≤ 999) (ha : a < 8) (hB : B ≤ 5000) (hb : BD D B) : ∀ (k c fuel : Nat) (σ : MS), c + k = C → k < fuel → ma σ 3 = R → mi σ 20 = 0 → MT fi (ma σ 42) D → ∃ τ, M_post_L52 F k39 x1 x2 x3 (nI a) fuel σ (fi (mxF (fun c => fFd D a (crO LS R L C c) 61 0) c)) (nI c) = (if x2 ≤ fi (mxF (fun c => fFd D a (crO LS R L C c) 61 0) C) then k39 τ x2 x3 (nI a + 1) else k39 τ (fi (mxF (fun c => fFd D a (crO LS R L C c) 61 0) C)) (nI a) (nI a + 1)) ∧ KV σ τ
  | 0, c, fuel + 1, σ, e, _, e3, h20, mt => by
    obtain rfl : c = C := by omega
    have hC := va.1.2.1
    have e1 : ma σ 3 1 = nI c := by rw [e3]; exact va.1.2.2.2
    rw [M_post_L52, e1, if_pos (nI_le (Nat.le_refl _) (by omega))]
    unfold M_post_B107 M_post_B120
    refine ⟨σ, ?_, KV.rf⟩
    by_cases z : x2 ≤ fi (mxF (fun i => fFd D a (crO LS R L c i) 61 0) c)
    · rw [if_pos z, if_pos z, if_pos z]
    · rw [if_neg z, if_neg z, if_neg z]
  | k + 1, c, fuel + 1, σ, e, hf, e3, h20, mt => by
    have hC := va.1.2.1
    have e1 : ma σ 3 1 = nI C := by rw [e3]; exact va.1.2.2.2
    obtain ⟨ρ, p1, p2⟩ := qm_foundAt (σ := σ) (c := c) (a := a) lq hF e3 va h5 hh (by omega) ha hB hb h20 mt
    obtain ⟨τ, r1, r2⟩ := post52 (k39 := k39) (x1 := x1) (x2 := x2) (x3 := x3) lq hF va h5 hh ha hB hb k (c + 1) fuel ρ (by omega) (by omega) (by rw [p2.1 3 (by decide) (by decide), e3]) (by rw [p2.2.2.1 20 (by decide) (by decide), h20]) (by rw [p2.1 42 (by decide) (by decide)]; exact mt)
    refine ⟨τ, ?_, p2.tr r2⟩
    rw [M_post_L52, e1, if_neg (nI_ge (by omega) (by omega)), p1, bs]
    unfold M_post_B87
    have hv : ∀ i, fFd D a (crO LS R L C i) 61 0 = 1000000 ∨ fFd D a (crO LS R L C i) 61 0 ≤ 60 := fun i => fFd_b D a _ 61 0 (by omega)
    have hm := mxF_b hv c
    have hc := hv c
    have lei : fi (fFd D a (crO LS R L C c) 61 0) ≤ fi (mxF (fun c => fFd D a (crO LS R L C c) 61 0) c) ↔ _ := fi_leI (by omega) (by omega)
    rw [show mxF (fun c => fFd D a (crO LS R L C c) 61 0) (c + 1) = (if mxF (fun c => fFd D a (crO LS R L C c) 61 0) c < fFd D a (crO LS R L C c) 61 0 then fFd D a (crO LS R L C c) 61 0 else mxF (fun c => fFd D a (crO LS R L C c) 61 0) c) from rfl, nI_succ] at r1
    by_cases z : mxF (fun c => fFd D a (crO LS R L C c) 61 0) c < fFd D a (crO LS R L C c) 61 0
    · rw [if_pos z] at r1
      rw [if_neg (fun w => by have := lei.mp w; omega)]; exact r1
    · rw [if_neg z] at r1
      rw [if_pos (lei.mpr (by omega))]; exact r1
/-- the best of the first corners, as the reference has it -/
def lst (m : Nat → Nat) (k : Nat) : Int32 := if k = 0 ∨ m (bst m k) = 1000000 then 100000000 else nI (m (bst m k))
def ist (m : Nat → Nat) (k : Nat) : Int32 := if k = 0 ∨ m (bst m k) = 1000000 then -1 else nI (bst m k)
theorem lst_s {m : Nat → Nat} (hm : ∀ a, m a = 1000000 ∨ m a ≤ 60) (k : Nat) : (lst m k ≤ fi (m k) → lst m (k + 1) = lst m k ∧ ist m (k + 1) = ist m k) ∧ (¬ lst m k ≤ fi (m k) → lst m (k + 1) = fi (m k) ∧ ist m (k + 1) = nI k) := by
  have eb : bst m (k + 1) = if m k < m (bst m k) then k else bst m k := rfl
  have h1 := hm k; have h2 := hm (bst m k)
  unfold lst ist
  rw [eb]
  by_cases z : k = 0 ∨ m (bst m k) = 1000000
  · rw [if_pos z, if_pos z]
    rcases h1 with q | q
    · have hle : (100000000 : Int32) ≤ fi (m k) := by rw [q, fi_ge (Nat.le_refl _)]; decide
      refine ⟨fun _ => ?_, fun w => absurd hle w⟩
      have hb : m (if m k < m (bst m k) then k else bst m k) = 1000000 := by
        by_cases y : m k < m (bst m k)
        · rw [if_pos y]; exact q
        · rw [if_neg y]
          rcases z with z | z
          · subst z; exact q
          · exact z
      rw [if_pos (Or.inr hb), if_pos (Or.inr hb)]; exact ⟨rfl, rfl⟩
    · have hle : ¬ (100000000 : Int32) ≤ fi (m k) := by rw [fi_lt (by omega)]; exact nI_ge (b := 100000000) (by omega) (by decide)
      refine ⟨fun w => absurd w hle, fun _ => ?_⟩
      have hb : (if m k < m (bst m k) then k else bst m k) = k := by
        rcases z with z | z
        · subst z; split <;> rfl
        · rw [if_pos (by omega)]
      rw [hb, if_neg (by omega), if_neg (by omega), fi_lt (by omega)]; exact ⟨rfl, rfl⟩
  · rw [if_neg z, if_neg z]
    have h2' : m (bst m k) ≤ 60 := by omega
    have lei : nI (m (bst m k)) ≤ fi (m k) ↔ m (bst m k) ≤ m k := by rw [← fi_lt (x := m (bst m k)) (by omega)]; exact fi_leI (by omega) (by omega)
    by_cases y : m k < m (bst m k)
    · refine ⟨fun w => by have := lei.mp w; omega, fun _ => ?_⟩
      rw [if_pos y, if_neg (by omega), if_neg (by omega), fi_lt (by omega)]; exact ⟨rfl, rfl⟩
    · refine ⟨fun _ => ?_, fun w => absurd (lei.mpr (by omega)) w⟩
      rw [if_neg y, if_neg (by omega), if_neg (by omega)]; exact ⟨rfl, rfl⟩
theorem post39 {E : Nat → ClassId} {P : va_W} {q : Option Nat} {LS : Nat → (Nat → Int) → Option Int} {F L C h B : Nat} {R : Nat → Int32} {D : Nat → Nat → Nat} {x1 : Int32} (lq : LQ E P R q LS) (hF : 1000 ≤ F) (va : VA R L C) (h5 : R 5 = nI h) (hh : h ≤ 999) (hB : B ≤ 5000) (hb : BD D B) : ∀ (k a fuel : Nat) (σ : MS), a + k = 8 → k < fuel → ma σ 3 = R → mi σ 20 = 0 → MT fi (ma σ 42) D → ∃ τ, M_post_L39 F x1 fuel σ (lst (fun a => mxF (fun c => fFd D a (crO LS R L C c) 61 0) C) a) (ist (fun a => mxF (fun c => fFd D a (crO LS R L C c) 61 0) C) a) (nI a) = (if ist (fun a => mxF (fun c => fFd D a (crO LS R L C c) 61 0) C) 8 = -1 then some (ist (fun a => mxF (fun c => fFd D a (crO LS R L C c) 61 0) C) 8, τ) else if x1 = 0 then some (ist (fun a => mxF (fun c => fFd D a (crO LS R L C c) 61 0) C) 8, τ) else some (lst (fun a => mxF (fun c => fFd D a (crO LS R L C c) 61 0) C) 8, τ)) ∧ KV σ τ
  | 0, a, fuel + 1, σ, e, _, e3, h20, mt => by
    obtain rfl : a = 8 := by omega
    rw [M_post_L39, if_pos (by decide)]
    exact ⟨σ, rfl, KV.rf⟩
  | k + 1, a, fuel + 1, σ, e, hf, e3, h20, mt => by
    have hC := va.1.2.1
    have hm : ∀ a, mxF (fun i => fFd D a (crO LS R L C i) 61 0) C = 1000000 ∨ mxF (fun i => fFd D a (crO LS R L C i) 61 0) C ≤ 60 := fun a => mxF_b (fun i => fFd_b D a _ 61 0 (by omega)) C
    obtain ⟨l1, l2⟩ := lst_s (m := fun a => mxF (fun c => fFd D a (crO LS R L C c) 61 0) C) hm a
    obtain ⟨τ, r1, r2⟩ := post52 (F := F) (k39 := M_post_L39 F x1 fuel) (x1 := x1) (x2 := lst (fun a => mxF (fun c => fFd D a (crO LS R L C c) 61 0) C) a) (x3 := ist (fun a => mxF (fun c => fFd D a (crO LS R L C c) 61 0) C) a) (a := a) lq hF va h5 hh (by omega) hB hb C 0 F σ (by omega) (by omega) e3 h20 mt
    obtain ⟨τ', s1, s2⟩ := post39 (x1 := x1) lq hF va h5 hh hB hb k (a + 1) fuel τ (by omega) (by omega) (by rw [r2.1 3 (by decide) (by decide), e3]) (by rw [r2.2.2.1 20 (by decide) (by decide), h20]) (by rw [r2.1 42 (by decide) (by decide)]; exact mt)
    refine ⟨τ', ?_, r2.tr s2⟩
    rw [M_post_L39, if_neg (show ¬ (8 : Int32) ≤ nI a from nI_ge (b := 8) (by omega) (by decide))]
    show M_post_L52 F (M_post_L39 F x1 fuel) x1 _ _ (nI a) F σ (fi (mxF (fun c => fFd D a (crO LS R L C c) 61 0) 0)) (nI 0) = _
    rw [r1]
    rw [nI_succ] at s1
    by_cases z : lst (fun a => mxF (fun c => fFd D a (crO LS R L C c) 61 0) C) a ≤ fi (mxF (fun c => fFd D a (crO LS R L C c) 61 0) C)
    · obtain ⟨w1, w2⟩ := l1 z
      rw [w1, w2] at s1
      rw [if_pos z]; exact s1
    · obtain ⟨w1, w2⟩ := l2 z
      rw [w1, w2] at s1
      rw [if_neg z]; exact s1
theorem ist_8 {m : Nat → Nat} (h : ¬ m (bst m 8) = 1000000) : ist m 8 = nI (bst m 8) ∧ lst m 8 = nI (m (bst m 8)) := by
  unfold ist lst
  rw [if_neg (by rintro (q | q); exact absurd q (by decide); exact h q), if_neg (by rintro (q | q); exact absurd q (by decide); exact h q)]; exact ⟨rfl, rfl⟩
theorem ist_n {m : Nat → Nat} (h : m (bst m 8) = 1000000) : ist m 8 = -1 := by
  unfold ist
  rw [if_pos (Or.inr h)]
theorem kc_any (S : CS) (k : Nat) (f : Nat → Int32) : KC S (cF S 13 k f) := ⟨⟨rfl, rfl, rfl, rfl, rfl⟩, ⟨rfl, rfl, rfl⟩, ⟨rfl, rfl⟩, ⟨rfl, rfl⟩, ⟨rfl, rfl, rfl, rfl⟩, rfl⟩
theorem pa_23 {F : Nat} {E : Nat → ClassId} (hF : 1000 ≤ F) : ag_23 F E (Rel E) := fun S P σ x1 h => by
  have hh := h
  obtain ⟨L, C, H, W, t, vr, lw, -, -, -, -, ko, -⟩ := hh
  have hC4 := vr.1.1.2.1
  have e9 : ci S 1 9 = nI C := t.1.2.1.trans vr.1.1.2.2.2
  have e1 : ma (mI σ 0 0) 3 1 = nI C := vr.1.1.2.2.2
  unfold C_10_post M_post
  rw [stt_d, qm_in01, bs, e9, e1]
  by_cases z : isAt x1 2 = 0
  · rw [if_pos z]
    refine ⟨(-1, S), _, ?_, rfl, rel_0 h 0⟩
    have := isAt_0 z
    by_cases y : x1 < 0
    · rw [if_pos y]
    · rw [if_neg y, if_pos]
      rw [lt_i, i32_0] at y
      rw [lt_i, i32_1]; omega
  rw [if_neg z]
  obtain ⟨w, hw, rfl⟩ := isAt_n0 (by decide) z
  rw [if_neg (nI_pos (by omega)), if_neg (show ¬ (1 : Int32) < nI w from nI_nlt (a := 1) (by omega) (by decide))]
  by_cases y : C = 0
  · subst y
    rw [if_pos (show nI 0 = (0 : Int32) from rfl), if_pos (show nI 0 = (0 : Int32) from rfl)]; exact ⟨_, _, rfl, rfl, rel_0 h 0⟩
  rw [if_neg (nI_ne0 (by omega) (by omega)), if_neg (nI_ne0 (by omega) (by omega))]
  obtain ⟨f, g, c1, c2, c3⟩ := qc_measure hF vr.1 t
  obtain ⟨f', m1, m2⟩ := qm_layFar (σ := mI σ 0 0) hF vr.1
  obtain ⟨q, LS, lq, eq⟩ := force_q (S := S) (o := 1) t.1.2.2.2.1 t.1.2.2.2.2 vr.2.2.1 lw
  obtain ⟨hr, hr1, hr2⟩ := vr.2.2.2
  obtain ⟨gg, u1, u2⟩ := qc_fill (F := F) (wo := 13) (wk := 4) (wn := 8) (S := cF (cF S 13 0 g) 13 1 f) (x := 0) (by omega) (by decide)
  obtain ⟨T, a1, a2⟩ := post45 (F := F) (B := 2304) (S := S) (f := f) (D := DD (ma σ 3) L) (x1 := nI w) lq hF t lw.2 eq vr.1 hr2 hr1 (by omega) (DD_b vr.1) c3 C 0 F (cF (cF (cF S 13 0 g) 13 1 f) 13 4 gg) (by omega) (by omega) rfl rfl rfl (by rw [ca_cFn _ _ _ _ _ _ (Or.inr (by decide)), ca_13]) (fun a ha => by rw [ca_cF, u2 a ha]; rfl)
  obtain ⟨τ, b1, b2⟩ := post39 (F := F) (B := 2304) (D := DD (ma σ 3) L) (x1 := nI w) lq hF vr.1 hr2 hr1 (by omega) (DD_b vr.1) 8 0 F (mF (mI σ 0 0) 42 f') (by omega) (by omega) rfl ko.1 (by rw [ma_42]; exact m2)
  rw [c1, bs, u1, bs, m1, bs]
  show ∃ q σ1, C_10_post_L45 F E P (nI w) F (cF (cF (cF S 13 0 g) 13 1 f) 13 4 gg) (nI 0) = some q ∧ M_post_L39 F (nI w) F (mF (mI σ 0 0) 42 f') (lst (fun a => mxF (fun c => fFd (DD (ma σ 3) L) a (crO LS (ma σ 3) L C c) 61 0) C) 0) (ist (fun a => mxF (fun c => fFd (DD (ma σ 3) L) a (crO LS (ma σ 3) L C c) 61 0) C) 0) (nI 0) = some (q.1, σ1) ∧ Rel E q.2 P σ1
  rw [a1, b1]
  have k : Rel E T P τ := rel_KM (rel_KC (rel_KM (rel_KC (rel_KC (rel_0 h 0) (kc_13 _ g f)) (kc_any _ 4 gg)) (km_42 _ f')) a2) b2.km
  have hm : ∀ a, mxF (fun i => fFd (DD (ma σ 3) L) a (crO LS (ma σ 3) L C i) 61 0) C = 1000000 ∨ mxF (fun i => fFd (DD (ma σ 3) L) a (crO LS (ma σ 3) L C i) 61 0) C ≤ 60 := fun a => mxF_b (fun i => fFd_b _ a _ 61 0 (by omega)) C
  have hm8 := hm (bst (fun a => mxF (fun c => fFd (DD (ma σ 3) L) a (crO LS (ma σ 3) L C c) 61 0) C) 8)
  by_cases v : mxF (fun c => fFd (DD (ma σ 3) L) (bst (fun a => mxF (fun c => fFd (DD (ma σ 3) L) a (crO LS (ma σ 3) L C c) 61 0) C) 8) (crO LS (ma σ 3) L C c) 61 0) C < 1000000
  · have bl : bst (fun a => mxF (fun c => fFd (DD (ma σ 3) L) a (crO LS (ma σ 3) L C c) 61 0) C) 8 ≤ 8 := bst_lt _ 8
    have nv : ¬ mxF (fun c => fFd (DD (ma σ 3) L) (bst (fun a => mxF (fun c => fFd (DD (ma σ 3) L) a (crO LS (ma σ 3) L C c) 61 0) C) 8) (crO LS (ma σ 3) L C c) 61 0) C = 1000000 := by omega
    obtain ⟨i1, i2⟩ := ist_8 (m := fun a => mxF (fun c => fFd (DD (ma σ 3) L) a (crO LS (ma σ 3) L C c) 61 0) C) nv
    rw [if_pos v, i1, i2, if_neg (nI_m1 (by omega))]
    by_cases u : nI w = 0
    · rw [if_pos u, if_pos u]; exact ⟨_, _, rfl, rfl, k⟩
    · rw [if_neg u, if_neg u]; exact ⟨_, _, rfl, rfl, k⟩
  · have v' : mxF (fun c => fFd (DD (ma σ 3) L) (bst (fun a => mxF (fun c => fFd (DD (ma σ 3) L) a (crO LS (ma σ 3) L C c) 61 0) C) 8) (crO LS (ma σ 3) L C c) 61 0) C = 1000000 := by omega
    rw [if_neg v, ist_n (m := fun a => mxF (fun c => fFd (DD (ma σ 3) L) a (crO LS (ma σ 3) L C c) 61 0) C) v', if_pos rfl]
    exact ⟨_, _, rfl, rfl, k⟩
