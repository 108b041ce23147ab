/-- fewer cry -/
def sF (a b : Int64) (p : Nat → Int64) (i : Nat) : Int64 := if i = 0 then p 0 * a / 10 else p i * a / 10 + p (i - 1) * b / 10
theorem cb_B (S : CS) (j i : Nat) (v : Int64) : cb (cB S j v) i = if i = j then v else cb S i := rfl
theorem fewC67 {F k : Nat} {k56 : CS → Int32 → Option (Int64 × CS)} {p : Nat → Int64} {a b : Int64} {x1 x2 x5 : Int32} (hk : k ≤ 20) (ha : a = (10 : Int64) - b) : ∀ (j fuel : Nat) (S : CS), j < k → j < fuel → (∀ i, i ≤ j → cb S i = p i) → (∀ i, j < i → i < k → cb S i = sF a b p i) → ∃ T, C_10_few_L67 F k56 x1 x2 b x5 fuel S (nI j) = k56 T (x5 + 1) ∧ (∀ i, i < k → cb T i = sF a b p i) ∧ ci T = ci S ∧ ca T = ca S ∧ cq T = cq S
  | 0, fuel + 1, S, _, _, h1, h2 => by
    rw [C_10_few_L67, if_pos (show nI 0 ≤ (0 : Int32) by decide), stc_d, ← ha, h1 0 (Nat.le_refl _)]
    refine ⟨_, rfl, fun i hi => ?_, rfl, rfl, rfl⟩
    rw [cb_B]
    by_cases z : i = 0
    · rw [if_pos z, z]; rfl
    · rw [if_neg z]; exact h2 i (by omega) hi
  | j + 1, fuel + 1, S, hj, hf, h1, h2 => by
    rw [C_10_few_L67, if_neg (nI_nle (by omega) (by omega)), nI_pred, chk_in (by omega) (by decide), chk_in (by omega) (by decide), chk_in (by omega) (by decide), nI_clamp (by omega), nI_clamp (by omega), stc_d, ← ha, h1 (j + 1) (Nat.le_refl _), h1 j (by omega), pk_m1]
    obtain ⟨T, r1, r2, r3, r4, r5⟩ := fewC67 (F := F) (k56 := k56) (p := p) (x1 := x1) (x2 := x2) (x5 := x5) hk ha j fuel (cB S (j + 1) (p (j + 1) * a / 10 + p j * b / 10)) (by omega) (by omega) (fun i hi => by
      rw [cb_B, if_neg (by omega)]; exact h1 i (by omega)) (fun i hi hk' => by
      rw [cb_B]
      by_cases z : i = j + 1
      · rw [if_pos z, z]; rfl
      · rw [if_neg z]; exact h2 i (by omega) hk')
    exact ⟨T, r1, r2, r3, r4, r5⟩
def itF (a b : Int64) (p : Nat → Int64) : Nat → Nat → Int64
  | 0 => p
  | n + 1 => sF a b (itF a b p n)
def smF (p : Nat → Int64) : Nat → Nat → Int64 → Int64
  | 0, _, x => x
  | k + 1, i, x => smF p k (i + 1) (x + p i)
theorem fewC152 {F k : Nat} {S : CS} {p : Nat → Int64} (hk : k ≤ 20) (h : ∀ i, i < k → cb S i = p i) : ∀ (t i fuel : Nat) (x : Int64), i + t = k → t < fuel → C_10_few_L152 F S (nI k) fuel x (nI i) = some (smF p t i x, S)
  | 0, i, fuel + 1, x, e, _ => by
    rw [C_10_few_L152, if_pos (nI_le (by omega) (by omega))]; rfl
  | t + 1, i, fuel + 1, x, e, hf => by
    rw [C_10_few_L152, if_neg (nI_ge (by omega) (by omega)), chk_in (by omega) (by decide), nI_clamp (by omega), h i (by omega), ← nI_succ]
    exact fewC152 hk h t (i + 1) fuel _ (by omega) (by omega)
theorem fewC56 {F k N : Nat} {p : Nat → Int64} {a b : Int64} (hF : 1000 ≤ F) (hk : k ≤ 20) (hk1 : 1 ≤ k) (hN : N ≤ 99) (ha : a = (10 : Int64) - b) : ∀ (t n fuel : Nat) (S : CS), n + t = N → t < fuel → (∀ i, i < k → cb S i = itF a b p n i) → ∃ T, C_10_few_L56 F (nI k) (nI N) b fuel S (nI n) = some (smF (itF a b p N) k 0 0, T) ∧ ci T = ci S ∧ ca T = ca S ∧ cq T = cq S
  | 0, n, fuel + 1, S, e, _, h => by
    obtain rfl : n = N := by omega
    rw [C_10_few_L56, if_pos (nI_le (Nat.le_refl _) (by omega))]
    exact ⟨S, fewC152 hk h k 0 F 0 (by omega) (by omega), rfl, rfl, rfl⟩
  | t + 1, n, fuel + 1, S, e, hf, h => by
    obtain ⟨m, rfl⟩ : ∃ m, k = m + 1 := ⟨k - 1, by omega⟩
    rw [C_10_few_L56, if_neg (nI_ge (by omega) (by omega)), nI_pred]
    obtain ⟨T, r1, r2, r3, r4, r5⟩ := fewC67 (F := F) (k56 := C_10_few_L56 F (nI (m + 1)) (nI N) b fuel) (p := itF a b p n) (x1 := nI (m + 1)) (x2 := nI N) (x5 := nI n) hk ha m F S (by omega) (by omega) (fun i hi => h i (by omega)) (fun i hi hk' => by omega)
    rw [r1, ← nI_succ]
    obtain ⟨T', s1, s2, s3, s4⟩ := fewC56 (p := p) hF hk hk1 hN ha t (n + 1) fuel T (by omega) (by omega) r2
    exact ⟨T', s1, s2.trans r3, s3.trans r4, s4.trans r5⟩
theorem mb_B (σ : MS) (k j i : Nat) (v : Int64) : mb (mB σ k j v) k i = if i = j then v else mb σ k i := by
  show va_up σ.2.2.2 k _ k i = _
  rw [up_d, if_pos rfl]; rfl
def K47 (σ τ : MS) : Prop := ma τ = ma σ ∧ mi τ = mi σ ∧ ∀ k, k ≠ 47 → mb τ k = mb σ k
theorem K47.rf {σ : MS} : K47 σ σ := ⟨rfl, rfl, fun _ _ => rfl⟩
theorem K47.tr {σ τ υ : MS} (h : K47 σ τ) (k : K47 τ υ) : K47 σ υ := ⟨k.1.trans h.1, k.2.1.trans h.2.1, fun i a => (k.2.2 i a).trans (h.2.2 i a)⟩
theorem k47_B (σ : MS) (j : Nat) (v : Int64) : K47 σ (mB σ 47 j v) := ⟨rfl, rfl, fun k a => by show va_up σ.2.2.2 47 _ k = _; rw [up_d, if_neg a]⟩
theorem K47.km {σ τ : MS} (h : K47 σ τ) : KM σ τ := by
  obtain ⟨h1, h2, h3⟩ := h
  exact ⟨⟨congrFun h1 2, congrFun h1 3, congrFun h1 4, congrFun h1 5, fun j _ => by rw [h1], congrFun h1 7, congrFun h1 12, congrFun h1 55⟩, ⟨congrFun h2 1, congrFun h2 8, congrFun h2 11, congrFun h2 13, congrFun h2 18, congrFun h2 20, congrFun h2 52, congrFun h2 56, congrFun h2 57⟩, h3 31 (by decide), h3 32 (by decide), h3 33 (by decide), h3 48 (by decide)⟩
theorem fewM86 {F k : Nat} {k75 : MS → Int32 → Option (Int64 × MS)} {p : Nat → Int64} {a b : Int64} {x1 x2 x3 x4 : Int32} (hk : k ≤ 20) (ha : ((10 : Int32) - x3).toInt64 = a) (hb : x3.toInt64 = b) : ∀ (j fuel : Nat) (σ : MS), j ≤ k → j < fuel → (∀ i, i < j → mb σ 47 i = p i) → (j < k → mb σ 47 j = p j * a / 10) → (∀ i, j < i → i < k → mb σ 47 i = sF a b p i) → ∃ τ, M_few_L86 F k75 x1 x2 x3 x4 fuel σ (nI j - 1) = k75 τ (x4 + 1) ∧ (∀ i, i < k → mb τ 47 i = sF a b p i) ∧ K47 σ τ
  | 0, fuel + 1, σ, _, _, h1, h2, h3 => by
    rw [M_few_L86, if_pos (by decide)]
    refine ⟨σ, rfl, fun i hi => ?_, K47.rf⟩
    by_cases z : i = 0
    · subst z; exact h2 hi
    · exact h3 i (by omega) hi
  | j + 1, fuel + 1, σ, hj, hf, h1, h2, h3 => by
    rw [M_few_L86, nI_pred, if_neg (nI_pos (by omega)), ← nI_succ, chk_in (by omega) (by decide), chk_in (by omega) (by decide), stt_d, chk_in (by omega) (by decide), chk_in (by omega) (by decide), stt_d, nI_clamp (by omega), nI_clamp (by omega), ha, hb, h1 j (by omega), mb_B, if_neg (by omega), m1s]
    obtain ⟨τ, r1, r2, r3⟩ := fewM86 (F := F) (k75 := k75) (p := p) (x1 := x1) (x2 := x2) (x4 := x4) hk ha hb j fuel (mB (mB σ 47 j (p j * a / 10)) 47 (j + 1) (mb σ 47 (j + 1) + p j * b / 10)) (by omega) (by omega) (fun i hi => by
      rw [mb_B, if_neg (by omega), mb_B, if_neg (by omega)]; exact h1 i (by omega)) (fun hj' => by
      rw [mb_B, if_neg (by omega), mb_B, if_pos rfl]) (fun i hi hk' => by
      rw [mb_B]
      by_cases z : i = j + 1
      · subst z
        rw [if_pos rfl, h2 hk']; rfl
      · rw [if_neg z, mb_B, if_neg (by omega)]; exact h3 i (by omega) hk')
    exact ⟨τ, r1, r2, ((k47_B _ _ _).tr (k47_B _ _ _)).tr r3⟩
theorem fewM158 {F k : Nat} {σ : MS} {p : Nat → Int64} (hk : k ≤ 20) (h : ∀ i, i < k → mb σ 47 i = p i) : ∀ (t i fuel : Nat) (x : Int64), i + t = k → t < fuel → M_few_L158 F σ (nI k) fuel x (nI i) = some (smF p t i x, σ)
  | 0, i, fuel + 1, x, e, _ => by
    rw [M_few_L158, if_pos (nI_le (by omega) (by omega))]; rfl
  | t + 1, i, fuel + 1, x, e, hf => by
    rw [M_few_L158, if_neg (nI_ge (by omega) (by omega)), chk_in (by omega) (by decide), nI_clamp (by omega), h i (by omega), ← nI_succ]
    exact fewM158 hk h t (i + 1) fuel _ (by omega) (by omega)
theorem fewM75 {F k N : Nat} {p : Nat → Int64} {a b : Int64} {x3 : Int32} (hF : 1000 ≤ F) (hk : k ≤ 20) (hk1 : 1 ≤ k) (hN : N ≤ 99) (ha : ((10 : Int32) - x3).toInt64 = a) (hb : x3.toInt64 = b) : ∀ (t n fuel : Nat) (σ : MS), n + t = N → t < fuel → (∀ i, i < k → mb σ 47 i = itF a b p n i) → ∃ τ, M_few_L75 F (nI k) (nI N) x3 fuel σ (nI n) = some (smF (itF a b p N) k 0 0, τ) ∧ K47 σ τ
  | 0, n, fuel + 1, σ, e, _, h => by
    obtain rfl : n = N := by omega
    rw [M_few_L75, if_pos (nI_le (Nat.le_refl _) (by omega))]
    exact ⟨σ, fewM158 hk h k 0 F 0 (by omega) (by omega), K47.rf⟩
  | t + 1, n, fuel + 1, σ, e, hf, h => by
    rw [M_few_L75, if_neg (nI_ge (by omega) (by omega))]
    obtain ⟨τ, r1, r2, r3⟩ := fewM86 (F := F) (k75 := M_few_L75 F (nI k) (nI N) x3 fuel) (p := itF a b p n) (x1 := nI k) (x2 := nI N) (x4 := nI n) hk ha hb k F σ (Nat.le_refl _) (by omega) h (fun q => by omega) (fun i hi hk' => by omega)
    rw [r1, ← nI_succ]
    obtain ⟨τ', s1, s2⟩ := fewM75 (p := p) hF hk hk1 hN ha hb t (n + 1) fuel τ (by omega) (by omega) r2
    exact ⟨τ', s1, r3.tr s2⟩
theorem fewM35 {F : Nat} {x1 x2 : Int32} : ∀ (t j fuel : Nat) (σ : MS), j + t = 21 → t < fuel → (∀ i, i < j → mb σ 47 i = if i = 0 then 1000000000000 else 0) → ∃ τ, M_few_L35 F x1 x2 fuel σ (nI j) = M_few_L75 F x1 x2 (ma σ 3 6) F τ 0 ∧ (∀ i, i < 21 → mb τ 47 i = if i = 0 then 1000000000000 else 0) ∧ K47 σ τ
  | 0, j, fuel + 1, σ, e, _, h => by
    obtain rfl : j = 21 := by omega
    rw [M_few_L35, if_pos (by decide)]
    exact ⟨σ, rfl, h, K47.rf⟩
  | t + 1, j, fuel + 1, σ, e, hf, h => by
    rw [M_few_L35, if_neg (show ¬ (21 : Int32) ≤ nI j from nI_ge (b := 21) (by omega) (by decide))]
    unfold M_few_B57
    rw [chk_in (by omega) (by decide), chk_in (by omega) (by decide), nI_clamp (by omega), stt_d, stt_d, ← nI_succ]
    by_cases z : j = 0
    · subst z
      rw [if_pos (show nI 0 = (0 : Int32) from rfl)]
      obtain ⟨τ, r1, r2, r3⟩ := fewM35 (F := F) (x1 := x1) (x2 := x2) t 1 fuel (mB σ 47 0 1000000000000) (by omega) (by omega) (fun i hi => by
        rw [mb_B, if_pos (by omega), if_pos (by omega)])
      exact ⟨τ, r1, r2, (k47_B _ _ _).tr r3⟩
    · rw [if_neg (nI_ne0 (by omega) (by omega))]
      obtain ⟨τ, r1, r2, r3⟩ := fewM35 (F := F) (x1 := x1) (x2 := x2) t (j + 1) fuel (mB σ 47 j 0) (by omega) (by omega) (fun i hi => by
        rw [mb_B]
        by_cases y : i = j
        · rw [if_pos y, if_neg (by omega)]
        · rw [if_neg y]; exact h i (by omega))
      exact ⟨τ, r1, r2, (k47_B _ _ _).tr r3⟩
theorem fillLL {F : Nat} : ∀ (t j fuel : Nat) (S : CS), j + t = 20 → t < fuel → (∀ i, i < j → cb S i = 0) → ∃ T, C_J7_fillL_L6 F 0 20 fuel S (nI j) = some ((), T) ∧ (∀ i, i < 20 → cb T i = 0) ∧ ci T = ci S ∧ ca T = ca S ∧ cq T = cq S
  | 0, j, fuel + 1, S, e, _, h => by
    obtain rfl : j = 20 := by omega
    rw [C_J7_fillL_L6, if_pos (by decide)]
    exact ⟨S, rfl, h, rfl, rfl, rfl⟩
  | t + 1, j, fuel + 1, S, e, hf, h => by
    rw [C_J7_fillL_L6, if_neg (show ¬ (20 : Int32) ≤ nI j from nI_ge (b := 20) (by omega) (by decide)), chk_in (by omega) (by decide), nI_clamp (by omega), stc_d, ← nI_succ]
    obtain ⟨T, r1, r2, r3, r4, r5⟩ := fillLL (F := F) t (j + 1) fuel (cB S j 0) (by omega) (by omega) (fun i hi => by
      rw [cb_B]
      by_cases z : i = j
      · rw [if_pos z]
      · rw [if_neg z]; exact h i (by omega))
    exact ⟨T, r1, r2, r3, r4, r5⟩
theorem ten {q : Nat} (hq : q ≤ 10) : ((10 : Int32) - nI q).toInt64 = (10 : Int64) - (nI q).toInt64 := by
  have aux : ∀ q : Fin 11, ((10 : Int32) - nI q.1).toInt64 = (10 : Int64) - (nI q.1).toInt64 := by decide
  exact aux ⟨q, by omega⟩
theorem pa_35 {F : Nat} {E : Nat → ClassId} (hF : 1000 ≤ F) : ag_35 F E (Rel E) := fun S P σ x1 x2 h => by
  have hh := h
  obtain ⟨L, C, H, W, t, vr, -⟩ := hh
  have e1 : (1 : Int32).toInt = 1 := by decide
  have e20 : (20 : Int32).toInt = 20 := by decide
  have e99 : (99 : Int32).toInt = 99 := by decide
  unfold C_10_few M_few
  rw [stt_d, qm_in32 x1 1 20 1 20 rfl rfl, bs, qm_in32 x2 0 99 0 99 rfl rfl, bs]
  simp only [lt_i, le_i, i32_0, e1, e20, e99]
  by_cases y : 1 ≤ x1.toInt ∧ x1.toInt ≤ 20
  · rw [if_neg (by omega), if_neg (by omega), if_pos y, if_neg (show ¬ (1 : Int32) = 0 by decide)]
    by_cases z : 0 ≤ x2.toInt ∧ x2.toInt ≤ 99
    · rw [if_neg (show ¬ x2.toInt < 0 by omega), if_pos z.2, if_pos z, if_neg (show ¬ (1 : Int32) = 0 by decide)]
      obtain ⟨k, hk, rfl⟩ : ∃ k : Nat, (1 ≤ k ∧ k ≤ 20) ∧ x1 = nI k := ⟨x1.toInt.toNat, by omega, nI_of' (by omega)⟩
      obtain ⟨N, hN, rfl⟩ : ∃ N : Nat, N ≤ 99 ∧ x2 = nI N := ⟨x2.toInt.toNat, by omega, nI_of' z.1⟩
      obtain ⟨cr, hc1, hc2⟩ := vr.1.2.2.2.2.1
      obtain ⟨T, r1, r2, r3, r4, r5⟩ := fillLL (F := F) 20 0 F S (by omega) (by omega) (fun i hi => by omega)
      unfold C_J7_fillL
      rw [show (0 : Int32) = nI 0 from rfl, r1, bs, stc_d]
      have e12 : ca (cB T 0 1000000000000) 1 12 1 = nI cr := by
        show ca T 1 12 1 = _
        rw [r4, t.2.2.2.2 1 (by omega)]; exact hc2
      have i0 : ∀ i, i < k → cb (cB T 0 1000000000000) i = (fun i => if i = 0 then (1000000000000 : Int64) else 0) i := fun i hi => by
        rw [cb_B]
        by_cases w : i = 0
        · rw [if_pos w, w]; rfl
        · rw [if_neg w, r2 i (by omega)]; exact (if_neg w).symm
      obtain ⟨T', s1, s2, s3, s4⟩ := fewC56 (F := F) (k := k) (N := N) (p := fun i => if i = 0 then (1000000000000 : Int64) else 0) (a := (10 : Int64) - (nI cr).toInt64) (b := (nI cr).toInt64) hF hk.2 hk.1 hN rfl N 0 F (cB T 0 1000000000000) (by omega) (by omega) i0
      obtain ⟨τ, m1, m2, m3⟩ := fewM35 (F := F) (x1 := nI k) (x2 := nI N) 21 0 F (mI σ 0 0) (by omega) (by omega) (fun i hi => by omega)
      obtain ⟨τ', n1, n2⟩ := fewM75 (F := F) (k := k) (N := N) (p := fun i => if i = 0 then (1000000000000 : Int64) else 0) (x3 := nI cr) hF hk.2 hk.1 hN (ten hc1) rfl N 0 F τ (by omega) (by omega) (fun i hi => m2 i (by omega))
      show ∃ q σ1, C_10_few_L56 F (nI k) (nI N) (ca (cB T 0 1000000000000) 1 12 1).toInt64 F (cB T 0 1000000000000) (nI 0) = some q ∧ M_few_L35 F (nI k) (nI N) F (mI σ 0 0) (nI 0) = some (q.1, σ1) ∧ Rel E q.2 P σ1
      rw [e12, s1, m1, show ma (mI σ 0 0) 3 6 = nI cr from hc2]
      rw [show (0 : Int32) = nI 0 from rfl, n1]
      have kc : KC S T' := by
        have x1 : ci T' = ci S := s2.trans r3
        have x2 : ca T' = ca S := s3.trans r4
        have x3 : cq T' = cq S := s4.trans r5
        exact ⟨⟨by rw [x1], by rw [x1], by rw [x1], by rw [x2], by rw [x3]⟩, ⟨by rw [x1], by rw [x2], by rw [x3]⟩, ⟨by rw [x2], by rw [x1]⟩, ⟨by rw [x1], by rw [x2]⟩, ⟨by rw [x1], by rw [x1], by rw [x2], by rw [x2]⟩, by rw [x1]⟩
      exact ⟨_, _, rfl, rfl, rel_KM (rel_KC (rel_0 h 0) kc) (m3.tr n2).km⟩
    · rw [if_neg z, if_pos rfl]
      refine ⟨(-1, S), _, ?_, rfl, rel_0 h 0⟩
      by_cases w : x2.toInt < 0
      · rw [if_pos w]; rfl
      · rw [if_neg w, if_neg (by omega)]; rfl
  · rw [if_neg y, if_pos rfl]
    refine ⟨(-1, S), _, ?_, rfl, rel_0 h 0⟩
    by_cases w : x1.toInt < 1
    · rw [if_pos w]; rfl
    · rw [if_neg w, if_pos (by omega)]; rfl
