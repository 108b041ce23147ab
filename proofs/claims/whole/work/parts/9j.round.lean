/-- the lowest of a set -/
theorem lowL {F : Nat} {x : Int32} : ∀ (t k fuel : Nat), k + t = 8 → t < fuel → (∀ i, i < k → bt x i = false) → ∃ c, C_8_lowestOf_L2 F x fuel (nI k) = some (nI c) ∧ c ≤ 8 ∧ (c < 8 → bt x c = true) ∧ ∀ i, i < c → bt x i = false
  | 0, k, fuel + 1, e, _, h => by
    obtain rfl : k = 8 := by omega
    rw [C_8_lowestOf_L2, if_pos (by decide)]
    exact ⟨8, rfl, Nat.le_refl _, fun q => by omega, h⟩
  | t + 1, k, fuel + 1, e, hf, h => by
    rw [C_8_lowestOf_L2, if_neg (show ¬ (8 : Int32) ≤ nI k from nI_ge (b := 8) (by omega) (by decide)), t_bit (by omega)]
    cases c : bt x k with
    | true =>
      rw [if_pos rfl, if_neg (by decide)]
      exact ⟨k, rfl, by omega, fun _ => c, h⟩
    | false =>
      rw [if_pos (by decide), ← nI_succ]
      refine lowL t (k + 1) fuel (by omega) (by omega) (fun i hi => ?_)
      by_cases z : i = k
      · rw [z]; exact c
      · exact h i (by omega)
theorem qc_low {F : Nat} (hF : 1000 ≤ F) (x : Int32) : ∃ c, C_8_lowestOf F x = some (nI c) ∧ c ≤ 8 ∧ (c < 8 → bt x c = true) ∧ ∀ i, i < c → bt x i = false := lowL 8 0 F (by omega) (by omega) (fun i hi => by omega)
theorem hangY {F B c : Nat} {S : CS} {D : Nat → Nat → Nat} {x : Int32} (m : MT nI (ca S 13 1) D) (hB : B ≤ 5000) (hb : BD D B) (hc : ∀ k, k < 8 → bt x k = true → c < 8) (h : ∀ k, k < 8 → bt x k = true → D c k < 1000000) : ∀ (t k fuel : Nat), k + t = 8 → t < fuel → C_8_hangTogether_L7 F S x (nI c) fuel (nI k) = some 1
  | 0, k, fuel + 1, e, _ => by
    obtain rfl : k = 8 := by omega
    rw [C_8_hangTogether_L7, if_pos (by decide)]
  | t + 1, k, fuel + 1, e, hf => by
    have ih := hangY (F := F) m hB hb hc h t (k + 1) fuel (by omega) (by omega)
    rw [C_8_hangTogether_L7, if_neg (show ¬ (8 : Int32) ≤ nI k from nI_ge (b := 8) (by omega) (by decide)), t_bit (by omega)]
    unfold C_8_hangTogether_B35
    rw [← nI_succ]
    cases q : bt x k with
    | true =>
      have q8 := hc k (by omega) q
      rw [if_pos rfl, if_pos rfl, qc_btw q8 (by omega), bs, m c k q8 (by omega), if_pos (show nI (D c k) < 1000000 from nI_lt (b := 1000000) (h k (by omega) q) (by decide))]
      exact ih
    | false => rw [if_neg (by decide)]; exact ih
theorem hangN {F B c : Nat} {S : CS} {D : Nat → Nat → Nat} {x : Int32} (m : MT nI (ca S 13 1) D) (hB : B ≤ 5000) (hb : BD D B) (hc : ∀ k, k < 8 → bt x k = true → c < 8) : ∀ (t k fuel : Nat), k + t = 8 → t < fuel → (∃ i, k ≤ i ∧ i < 8 ∧ bt x i = true ∧ ¬ D c i < 1000000) → C_8_hangTogether_L7 F S x (nI c) fuel (nI k) = some 0
  | 0, k, fuel + 1, e, _, ⟨i, h1, h2, _⟩ => by omega
  | t + 1, k, fuel + 1, e, hf, ⟨i, h1, h2, h3, h4⟩ => by
    rw [C_8_hangTogether_L7, if_neg (show ¬ (8 : Int32) ≤ nI k from nI_ge (b := 8) (by omega) (by decide)), t_bit (by omega)]
    unfold C_8_hangTogether_B35
    rw [← nI_succ]
    have d := hb c k
    cases q : bt x k with
    | true =>
      have q8 := hc k (by omega) q
      rw [if_pos rfl, if_pos rfl, qc_btw q8 (by omega), bs, m c k q8 (by omega)]
      by_cases w : D c k < 1000000
      · rw [if_pos (show nI (D c k) < 1000000 from nI_lt (b := 1000000) w (by decide))]
        have ne : i ≠ k := fun z => by rw [z] at h4; exact absurd w h4
        exact hangN m hB hb hc t (k + 1) fuel (by omega) (by omega) ⟨i, by omega, h2, h3, h4⟩
      · rw [if_neg (show ¬ nI (D c k) < 1000000 from nI_nlt (b := 1000000) (by omega) (by omega))]
    | false =>
      rw [if_neg (by decide)]
      have ne : i ≠ k := fun z => by rw [z, q] at h3; exact absurd h3 (by decide)
      exact hangN m hB hb hc t (k + 1) fuel (by omega) (by omega) ⟨i, by omega, h2, h3, h4⟩
/-- the lowest with its mate -/
theorem chL {F B s c : Nat} {S : CS} {D : Nat → Nat → Nat} (m : MT nI (ca S 13 1) D) (hB : B ≤ 5000) (hb : BD D B) (hs : s < 256) (hc : c < 8) (tc : tb s c = true) (arr : ∀ b, b < 8 → tb s b = true → ∃ u, ca S 13 3 (rm s c b) = nI u ∧ GG' D 1000000 (rm s c b) u) : ∀ (t k fuel v : Nat), k + t = 8 → t < fuel → c < k → (v = 1000000 ∨ ∃ n, Mt D n s v) → v ≤ 1000000 → (∀ b, c < b → b < k → tb s b = true → D c b < 1000000 → ∀ n w, Mt D n (rm s c b) w → v ≤ D c b + w) → ∃ v', C_8_cheapestWithLowest_L13 F S (nI s) (nI c) fuel (nI v) (nI k) = some (nI v') ∧ (v' = 1000000 ∨ ∃ n, Mt D n s v') ∧ v' ≤ 1000000 ∧ ∀ b, c < b → b < 8 → tb s b = true → D c b < 1000000 → ∀ n w, Mt D n (rm s c b) w → v' ≤ D c b + w
  | 0, k, fuel + 1, v, e, _, ck, h1, h2, h3 => by
    obtain rfl : k = 8 := by omega
    rw [C_8_cheapestWithLowest_L13, if_pos (by decide)]
    exact ⟨v, rfl, h1, h2, h3⟩
  | t + 1, k, fuel + 1, v, e, hf, ck, h1, h2, h3 => by
    rw [C_8_cheapestWithLowest_L13, if_neg (show ¬ (8 : Int32) ≤ nI k from nI_ge (b := 8) (by omega) (by decide)), t_bit (by omega)]
    unfold C_8_cheapestWithLowest_B77
    obtain ⟨r1, r2⟩ := rm_i (b := k) hs hc (by omega)
    unfold rmX at r2
    rw [← nI_succ, r2]
    cases q : bt (nI s) k with
    | true =>
      obtain ⟨u, u1, u2, u3, u4⟩ := arr k (by omega) q
      have d := hb c k
      rw [if_pos rfl, if_pos rfl, if_neg (show ¬ nI (rm s c k) < 0 from nI_nlt (b := 0) (Nat.zero_le _) (by omega)), if_neg (show ¬ (256 : Int32) ≤ nI (rm s c k) from nI_ge (b := 256) r1 (by omega)), qc_btw hc (by omega), bs, m c k hc (by omega), chk_in r1 (by decide), nI_clamp (by omega), u1, nI_add]
      by_cases w : D c k + u < v
      · rw [if_pos (nI_lt w (by omega))]
        refine chL m hB hb hs hc tc arr t (k + 1) fuel _ (by omega) (by omega) (by omega) (Or.inr ?_) (by omega) (fun b b1 b2 b3 b4 n w' mm => ?_)
        · rcases u2 with u2 | ⟨n, u2⟩
          · omega
          · exact ⟨n + 1, c, k, u, hc, by omega, by omega, tc, q, by omega, u2, rfl⟩
        · by_cases z : b = k
          · subst z; have := u4 n w' mm; omega
          · have := h3 b b1 (by omega) b3 b4 n w' mm; omega
      · rw [if_neg (nI_nlt (by omega) (by omega))]
        refine chL m hB hb hs hc tc arr t (k + 1) fuel _ (by omega) (by omega) (by omega) h1 h2 (fun b b1 b2 b3 b4 n w' mm => ?_)
        by_cases z : b = k
        · subst z; have := u4 n w' mm; omega
        · exact h3 b b1 (by omega) b3 b4 n w' mm
    | false =>
      rw [if_neg (by decide)]
      refine chL m hB hb hs hc tc arr t (k + 1) fuel _ (by omega) (by omega) (by omega) h1 h2 (fun b b1 b2 b3 b4 n w' mm => ?_)
      by_cases z : b = k
      · subst z; exact absurd (q.symm.trans b3) (by decide)
      · exact h3 b b1 (by omega) b3 b4 n w' mm
theorem qc_ch {F B s : Nat} {S : CS} {D : Nat → Nat → Nat} (hF : 1000 ≤ F) (sy : ∀ a b, D a b = D b a) (m : MT nI (ca S 13 1) D) (hB : B ≤ 5000) (hb : BD D B) (hs : s < 256) (h0 : s ≠ 0) (arr : ∀ a b, a < 8 → b < 8 → tb s a = true → tb s b = true → ∃ u, ca S 13 3 (rm s a b) = nI u ∧ GG' D 1000000 (rm s a b) u) : ∃ v, C_8_cheapestWithLowest F S (nI s) = some (nI v) ∧ GG' D 1000000 s v := by
  obtain ⟨c, c1, c2, c3, c4⟩ := qc_low hF (nI s)
  have c8 : c < 8 := by
    refine Classical.byContradiction fun q => h0 (s_ext hs (by decide) fun i hi => ?_)
    rw [tb_0]; exact c4 i (by omega)
  unfold C_8_cheapestWithLowest
  rw [c1, bs, ← nI_succ]
  obtain ⟨v, v1, v2, v3, v4⟩ := chL (F := F) m hB hb hs c8 (c3 c8) (fun b h1 h2 => arr c b c8 h1 (c3 c8) h2) (7 - c) (c + 1) F 1000000 (by omega) (by omega) (by omega) (Or.inl rfl) (Nat.le_refl _) (fun b b1 b2 => by omega)
  refine ⟨v, v1, v2, v3, fun n w mm => ?_⟩
  obtain ⟨n', b, w', hb', ne, t1, f, m', e⟩ := Mt_x sy n s w c hs c8 mm (c3 c8)
  have lt : c < b := by
    refine Classical.byContradiction fun q => ?_
    have := c4 b (by omega)
    exact absurd (this.symm.trans t1) (by decide)
  have := v4 b lt hb' t1 f n' w' m'
  omega
theorem cpL {F B o : Nat} {D : Nat → Nat → Nat} (hF : 1000 ≤ F) (sy : ∀ a b, D a b = D b a) (hB : B ≤ 5000) (hb : BD D B) (ho : o < 256) {S : CS} : ∀ (t k fuel : Nat) (g : Nat → Int32), k + t = 256 → 1 ≤ k → t < fuel → MT nI (ca S 13 1) D → (∀ s, s < k → (∀ i, i < 8 → tb s i = true → tb o i = true) → ∃ u, g s = nI u ∧ GG' D 1000000 s u) → ∃ u g', C_8_cheapestPairs_L9 F (nI o) fuel (cF S 13 3 g) (nI k) = some (nI u, cF S 13 3 g') ∧ GG' D 1000000 o u
  | 0, k, fuel + 1, g, e, k1, _, m, h => by
    obtain rfl : k = 256 := by omega
    obtain ⟨u, u1, u2⟩ := h o ho (fun _ _ q => q)
    rw [C_8_cheapestPairs_L9, if_pos (by decide), if_neg (show ¬ nI o < 0 from nI_nlt (b := 0) (Nat.zero_le _) (by omega)), if_neg (show ¬ (256 : Int32) ≤ nI o from nI_ge (b := 256) ho (by omega)), chk_in ho (by decide), nI_clamp (by omega), ca_cF, u1]
    exact ⟨u, g, rfl, u2⟩
  | t + 1, k, fuel + 1, g, e, k1, hf, m, h => by
    have hsub : ((nI k &&& (nI o ^^^ (-1 : Int32))) = 0) ↔ ∀ i, i < 8 → tb k i = true → tb o i = true := by
      refine ⟨fun q i hi h1 => ?_, fun q => b_ext fun i hi => ?_⟩
      · have hz : bt (nI k &&& (nI o ^^^ (-1 : Int32))) i = false := by rw [q, b_0]
        rw [b_and, b_not _ (by omega), show bt (nI k) i = true from h1, Bool.true_and] at hz
        show bt (nI o) i = true
        cases c : bt (nI o) i with
        | true => rfl
        | false => rw [c] at hz; exact absurd hz (by decide)
      · rw [b_and, b_not _ hi, b_0]
        by_cases z : i < 8
        · cases c : bt (nI k) i with
          | false => rfl
          | true => rw [show bt (nI o) i = true from q i z c]; rfl
        · rw [show bt (nI k) i = false from tb_8 k (by omega) i (by omega) hi]; rfl
    rw [C_8_cheapestPairs_L9, if_neg (show ¬ (256 : Int32) ≤ nI k from nI_ge (b := 256) (by omega) (by omega))]
    unfold C_8_cheapestPairs_B35
    rw [← nI_succ]
    have m' : MT nI (ca (cF S 13 3 g) 13 1) D := by rw [ca_cFn _ _ _ _ _ _ (Or.inr (by decide))]; exact m
    by_cases z : ∀ i, i < 8 → tb k i = true → tb o i = true
    · obtain ⟨v, v1, v2⟩ := qc_ch (F := F) (S := cF S 13 3 g) (s := k) hF sy m' hB hb (by omega) (by omega) (fun a b ha hb' ta tbb => by
        rw [ca_cF]
        refine h (rm k a b) (rm_lt (by omega) ha hb' ta) (fun i hi q => z i hi ?_)
        rw [tb_rm (by omega) ha hb' (by omega)] at q
        cases c : tb k i with
        | true => rfl
        | false => rw [c] at q; simp at q)
      rw [if_pos (hsub.mpr z), v1, bs, chk_in (by omega) (by decide), nI_clamp (by omega), stc_d]
      have eS : cA (cF S 13 3 g) 13 3 k (nI v) = cF S 13 3 (upd g k (nI v)) := by
        show cF (cF S 13 3 g) 13 3 (upd (ca (cF S 13 3 g) 13 3) k (nI v)) = _
        rw [ca_cF, cF_cF]
      rw [eS]
      refine cpL hF sy hB hb ho t (k + 1) fuel _ (by omega) (by omega) (by omega) m (fun s h1 h2 => ?_)
      by_cases y : s = k
      · subst y; exact ⟨v, pk_us, v2⟩
      · rw [pk_un y]; exact h s (by omega) h2
    · rw [if_neg (fun q => z (hsub.mp q))]
      refine cpL hF sy hB hb ho t (k + 1) fuel _ (by omega) (by omega) (by omega) m (fun s h1 h2 => ?_)
      by_cases y : s = k
      · subst y; exact absurd h2 z
      · exact h s (by omega) h2
