/-- the pairs of the reference -/
def PI (D : Nat → Nat → Nat) (s a b : Nat) (g : Nat → Int32) : Prop := (∀ t, t < s → ∃ u, g t = nI u ∧ GG' D 100000000 t u) ∧ ∃ v, g s = nI v ∧ (v = 100000000 ∨ ∃ n, Mt D n s v) ∧ v ≤ 100000000 ∧ (s = 0 → v = 0) ∧ ∀ a' b', a' < 8 → b' < a' → (a' < a ∨ (a' = a ∧ b' < b)) → tb s a' = true → tb s b' = true → D a' b' < 1000000 → ∀ n w, Mt D n (rm s a' b') w → v ≤ D a' b' + w
theorem mA_46 (σ : MS) (g : Nat → Int32) (k : Nat) (v : Int32) : mA (mF σ 46 g) 46 k v = mF σ 46 (upd g k v) := by rw [mA_F, ma_F, mF_mF]
theorem ma_46 (σ : MS) (g : Nat → Int32) : ma (mF σ 46 g) 46 = g := ma_F _ _ _
theorem ma_46n (σ : MS) (g : Nat → Int32) : ma (mF σ 46 g) 42 = ma σ 42 := rfl
theorem rm2 (x : Int32) (a b : Nat) : (x &&& (((1 : Int32) <<< (nI a &&& 31)) ^^^ (-1 : Int32))) &&& (((1 : Int32) <<< (nI b &&& 31)) ^^^ (-1 : Int32)) = rmX x a b := b_ext fun i hi => by
  unfold rmX
  rw [b_and, b_and, b_and, b_not _ hi, b_not _ hi, b_not _ hi, b_or, Bool.not_or, Bool.and_assoc]
theorem lyp36 {F B s a : Nat} {σ : MS} {D : Nat → Nat → Nat} {k2 k28 : MS → Int32 → Option (Unit × MS)} (mt : MT fi (ma σ 42) D) (hB : B ≤ 5000) (hb : BD D B) (hs : s < 256) (ha : a < 8) : ∀ (t b fuel : Nat) (g : Nat → Int32), b + t = a → t < fuel → PI D s a b g → ∃ g', M_layPaired_L36 F k2 k28 (nI s) (nI a) fuel (mF σ 46 g) (nI b) = k28 (mF σ 46 g') (nI a + 1) ∧ PI D s (a + 1) 0 g'
  | 0, b, fuel + 1, g, e, _, ⟨h1, v, h2, h3, h4, h5, h6⟩ => by
    obtain rfl : b = a := by omega
    rw [M_layPaired_L36, if_pos (nI_le (Nat.le_refl _) (by omega))]
    exact ⟨g, rfl, h1, v, h2, h3, h4, h5, fun a' b' x1 x2 x3 => h6 a' b' x1 x2 (by omega)⟩
  | t + 1, b, fuel + 1, g, e, hf, h => by
    have hh := h
    obtain ⟨h1, v, h2, h3, h4, h5, h6⟩ := hh
    rw [M_layPaired_L36, if_neg (nI_ge (by omega) (by omega)), qm_is ha, bs, qm_is (by omega), bs, qm_farOf (σ := mF σ 46 g) (D := D) mt hB hb ha (show b < 8 by omega), bs, bs]
    unfold M_layPaired_B123 M_layPaired_B124
    rw [rm2, ← nI_succ]
    cases qa : bt (nI s) a with
    | false =>
      rw [if_pos (by decide)]
      exact lyp36 mt hB hb hs ha t (b + 1) fuel g (by omega) (by omega) ⟨h1, v, h2, h3, h4, h5, fun a' b' x1 x2 x3 x4 => h6 a' b' x1 x2 (by
        by_cases z : a' = a
        · subst z; exact absurd (qa.symm.trans x4) (by decide)
        · omega) x4⟩
    | true =>
    rw [if_pos rfl, if_neg (by decide)]
    cases qb : bt (nI s) b with
    | false =>
      rw [if_pos (by decide)]
      exact lyp36 mt hB hb hs ha t (b + 1) fuel g (by omega) (by omega) ⟨h1, v, h2, h3, h4, h5, fun a' b' x1 x2 x3 x4 x5 => h6 a' b' x1 x2 (by
        by_cases z : b' = b
        · subst z; exact absurd (qb.symm.trans x5) (by decide)
        · omega) x4 x5⟩
    | true =>
    rw [if_pos rfl, if_neg (by decide)]
    have d := hb a b
    by_cases z : D a b < 1000000
    rotate_left
    · rw [fi_ge (by omega), if_pos (by decide)]
      exact lyp36 mt hB hb hs ha t (b + 1) fuel g (by omega) (by omega) ⟨h1, v, h2, h3, h4, h5, fun a' b' x1 x2 x3 x4 x5 x6 => h6 a' b' x1 x2 (by
        by_cases y : a' = a ∧ b' = b
        · rw [y.1, y.2] at x6; exact absurd x6 z
        · omega) x4 x5 x6⟩
    obtain ⟨r1, r2⟩ := rm_i (b := b) hs ha (by omega)
    have r3 := rm_lt (b := b) hs ha (by omega) qa
    obtain ⟨u, u1, u2, u3, u4⟩ := h1 _ r3
    rw [fi_lt z, if_neg (show ¬ (100000000 : Int32) ≤ nI (D a b) from nI_ge (b := 100000000) (by omega) (by decide)), r2, chk_in r1 (by decide), chk_in hs (by decide), nI_clamp (by omega), nI_clamp (by omega), ma_46, h2, u1, nI_add, chk_in hs (by decide), chk_in hs (by decide), chk_in hs (by decide), stt_d, stt_d, mA_46, mA_46]
    by_cases w : v ≤ u + D a b
    · rw [if_pos (nI_le w (by omega))]
      refine lyp36 mt hB hb hs ha t (b + 1) fuel _ (by omega) (by omega) ⟨fun t' ht => ?_, v, pk_us, h3, h4, h5, fun a' b' x1 x2 x3 x4 x5 x6 n w' mm => ?_⟩
      · rw [pk_un (by omega)]; exact h1 t' ht
      · by_cases y : a' = a ∧ b' = b
        · rw [y.1, y.2] at mm ⊢
          have := u4 n w' mm; omega
        · exact h6 a' b' x1 x2 (by omega) x4 x5 x6 n w' mm
    · rw [if_neg (nI_ge (by omega) (by omega))]
      refine lyp36 mt hB hb hs ha t (b + 1) fuel _ (by omega) (by omega) ⟨fun t' ht => ?_, u + D a b, pk_us, Or.inr ?_, by omega, fun q => by omega, fun a' b' x1 x2 x3 x4 x5 x6 n w' mm => ?_⟩
      · rw [pk_un (by omega)]; exact h1 t' ht
      · rcases u2 with u2 | ⟨n, u2⟩
        · omega
        · exact ⟨n + 1, a, b, u, ha, by omega, by omega, qa, qb, z, u2, by omega⟩
      · by_cases y : a' = a ∧ b' = b
        · rw [y.1, y.2] at mm ⊢
          have := u4 n w' mm; omega
        · have := h6 a' b' x1 x2 (by omega) x4 x5 x6 n w' mm; omega
theorem lyp28 {F B s : Nat} {σ : MS} {D : Nat → Nat → Nat} {k2 : MS → Int32 → Option (Unit × MS)} (hF : 1000 ≤ F) (mt : MT fi (ma σ 42) D) (hB : B ≤ 5000) (hb : BD D B) (hs : s < 256) : ∀ (t a fuel : Nat) (g : Nat → Int32), a + t = 8 → t < fuel → PI D s a 0 g → ∃ g', M_layPaired_L28 F k2 (nI s) fuel (mF σ 46 g) (nI a) = k2 (mF σ 46 g') (nI s + 1) ∧ PI D s 8 0 g'
  | 0, a, fuel + 1, g, e, _, h => by
    obtain rfl : a = 8 := by omega
    rw [M_layPaired_L28, if_pos (by decide)]
    exact ⟨g, rfl, h⟩
  | t + 1, a, fuel + 1, g, e, hf, h => by
    obtain ⟨g', e1, e2⟩ := lyp36 (F := F) (k2 := k2) (k28 := M_layPaired_L28 F k2 (nI s) fuel) mt hB hb hs (show a < 8 by omega) a 0 F g (by omega) (by omega) h
    have e1' : M_layPaired_L36 F k2 (M_layPaired_L28 F k2 (nI s) fuel) (nI s) (nI a) F (mF σ 46 g) 0 = _ := e1
    rw [M_layPaired_L28, if_neg (show ¬ (8 : Int32) ≤ nI a from nI_ge (b := 8) (by omega) (by decide)), e1', ← nI_succ]
    exact lyp28 hF mt hB hb hs t (a + 1) fuel g' (by omega) (by omega) e2
theorem PI_end {D : Nat → Nat → Nat} {s : Nat} {g : Nat → Int32} (sy : ∀ a b, D a b = D b a) (hs : s < 256) (h : PI D s 8 0 g) : ∀ t, t < s + 1 → ∃ u, g t = nI u ∧ GG' D 100000000 t u := by
  obtain ⟨h1, v, h2, h3, h4, h5, h6⟩ := h
  intro t ht
  by_cases z : t = s
  · subst z
    refine ⟨v, h2, h3, h4, fun n w mm => ?_⟩
    cases n with
    | zero => rw [h5 mm.1]; exact Nat.zero_le _
    | succ n =>
      obtain ⟨a, b, w', ha, hb, ne, ta, tbb, f, m, e⟩ := mm
      by_cases y : b < a
      · have := h6 a b ha y (Or.inl ha) ta tbb f n w' m; omega
      · rw [rm_sym hs ha hb] at m
        rw [sy] at f e
        have := h6 b a hb (by omega) (Or.inl hb) tbb ta f n w' m; omega
  · exact h1 t (by omega)
theorem lyp2 {F B : Nat} {σ : MS} {D : Nat → Nat → Nat} (hF : 1000 ≤ F) (sy : ∀ a b, D a b = D b a) (mt : MT fi (ma σ 42) D) (hB : B ≤ 5000) (hb : BD D B) : ∀ (t s fuel : Nat) (g : Nat → Int32), s + t = 256 → t < fuel → (∀ t, t < s → ∃ u, g t = nI u ∧ GG' D 100000000 t u) → ∃ g', M_layPaired_L2 F fuel (mF σ 46 g) (nI s) = some ((), mF σ 46 g') ∧ ∀ t, t < 256 → ∃ u, g' t = nI u ∧ GG' D 100000000 t u
  | 0, s, fuel + 1, g, e, _, h => by
    obtain rfl : s = 256 := by omega
    rw [M_layPaired_L2, if_pos (by decide)]
    exact ⟨g, rfl, h⟩
  | t + 1, s, fuel + 1, g, e, hf, h => by
    have key : ∀ v : Nat, (v = 100000000 ∨ ∃ n, Mt D n s v) → v ≤ 100000000 → (s = 0 → v = 0) → ∃ g', M_layPaired_B25 F (M_layPaired_L2 F fuel) (mF σ 46 g) (nI s) (nI s) (nI v) = M_layPaired_L2 F fuel (mF σ 46 g') (nI s + 1) ∧ PI D s 8 0 g' := fun v v1 v2 v3 => by
      unfold M_layPaired_B25
      rw [chk_in (show s < 256 by omega) (by decide), stt_d, nI_clamp (by omega), mA_46]
      exact lyp28 hF mt hB hb (by omega) 8 0 F _ (by omega) (by omega) ⟨fun t' ht => by rw [pk_un (by omega)]; exact h t' ht, v, pk_us, v1, v2, v3, fun a' b' _ _ x3 => by omega⟩
    rw [M_layPaired_L2, if_neg (show ¬ (256 : Int32) ≤ nI s from nI_ge (b := 256) (by omega) (by decide))]
    by_cases z : s = 0
    · obtain ⟨g', e1, e2⟩ := key 0 (Or.inr ⟨0, z, rfl⟩) (by omega) (fun _ => rfl)
      have e1' : M_layPaired_B25 F (M_layPaired_L2 F fuel) (mF σ 46 g) (nI s) (nI s) 0 = _ := e1
      rw [if_pos (by rw [z]; rfl), e1', ← nI_succ]
      exact lyp2 hF sy mt hB hb t (s + 1) fuel g' (by omega) (by omega) (PI_end sy (by omega) e2)
    · obtain ⟨g', e1, e2⟩ := key 100000000 (Or.inl rfl) (by omega) (fun q => absurd q z)
      have e1' : M_layPaired_B25 F (M_layPaired_L2 F fuel) (mF σ 46 g) (nI s) (nI s) 100000000 = _ := e1
      rw [if_neg (show ¬ nI s = 0 from fun q => z ((nI_eq (b := 0) (by omega) (by omega)).mp q)), e1', ← nI_succ]
      exact lyp2 hF sy mt hB hb t (s + 1) fuel g' (by omega) (by omega) (PI_end sy (by omega) e2)
theorem qm_lp {F B : Nat} {σ : MS} {D : Nat → Nat → Nat} (hF : 1000 ≤ F) (sy : ∀ a b, D a b = D b a) (mt : MT fi (ma σ 42) D) (hB : B ≤ 5000) (hb : BD D B) : ∃ g', M_layPaired F σ = some ((), mF σ 46 g') ∧ ∀ t, t < 256 → ∃ u, g' t = nI u ∧ GG' D 100000000 t u := by
  have h := lyp2 hF sy mt hB hb 256 0 F (ma σ 46) (by omega) (by omega) (fun t ht => by omega)
  have e : mF σ 46 (ma σ 46) = σ := by
    show (σ.1, σ.2.1, va_up σ.2.2.1 46 (σ.2.2.1 46), σ.2.2.2) = σ
    rw [up_eq]
  rw [e] at h; exact h
theorem Mt_b {D : Nat → Nat → Nat} (hb : BD D 2304) : ∀ n s v, s < 256 → Mt D n s v → n ≤ s ∧ v ≤ n * 2304
  | 0, s, v, _, h => ⟨Nat.zero_le _, by rw [h.2]; exact Nat.zero_le _⟩
  | n + 1, s, v, hs, h => by
    obtain ⟨a, b, w, ha, hb', ne, ta, tbb, f, m, e⟩ := h
    have l := rm_lt hs ha hb' ta
    obtain ⟨i1, i2⟩ := Mt_b hb n _ w (rm_i hs ha hb').1 m
    have := hb a b
    constructor
    · omega
    · rw [Nat.add_mul]; omega
theorem GG_eq {D : Nat → Nat → Nat} (hb : BD D 2304) {s u v n w : Nat} (hs : s < 256) (m : Mt D n s w) (h1 : GG' D 1000000 s u) (h2 : GG' D 100000000 s v) : u = v := by
  obtain ⟨b1, b2⟩ := Mt_b hb n s w hs m
  have hw : n * 2304 ≤ 255 * 2304 := Nat.mul_le_mul_right _ (by omega)
  obtain ⟨a1, a2, a3⟩ := h1
  obtain ⟨c1, c2, c3⟩ := h2
  have p1 := a3 n w m
  have p2 := c3 n w m
  rcases a1 with a1 | ⟨n1, a1⟩
  · omega
  · rcases c1 with c1 | ⟨n2, c1⟩
    · omega
    · have := a3 _ _ c1; have := c3 _ _ a1; omega
