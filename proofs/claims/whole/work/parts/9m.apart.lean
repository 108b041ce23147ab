/-- is a name free for a lane -/
def frB (R : Nat → Int32) (p : Nat → Nat) (j k : Nat) : Nat → Bool
  | 0 => true
  | i + 1 => frB R p j k i && !(decide (p i = j) && mtB R i k)
def ah (p : Nat → Nat) : Nat → Nat
  | 0 => 0
  | i + 1 => if p i < ah p i then ah p i else p i + 1
theorem ah_gt (p : Nat → Nat) : ∀ k i, i < k → p i < ah p k
  | 0, i, h => by omega
  | k + 1, i, h => by
    show p i < if p k < ah p k then ah p k else p k + 1
    by_cases z : i = k
    · subst z; split <;> omega
    · have := ah_gt p k i (by omega); split <;> omega
theorem ah_c {p q : Nat → Nat} : ∀ k, (∀ i, i < k → p i = q i) → ah p k = ah q k
  | 0, _ => rfl
  | k + 1, h => by
    show (if p k < ah p k then ah p k else p k + 1) = if q k < ah q k then ah q k else q k + 1
    rw [ah_c k (fun i hi => h i (by omega)), h k (by omega)]
theorem fr_c {R : Nat → Int32} {p q : Nat → Nat} {j k : Nat} : ∀ i, (∀ t, t < i → p t = q t) → frB R p j k i = frB R q j k i
  | 0, _ => rfl
  | i + 1, h => by
    show (frB R p j k i && _) = (frB R q j k i && _)
    rw [fr_c i (fun t ht => h t (by omega)), h i (by omega)]
theorem fr_new {R : Nat → Int32} {p : Nat → Nat} {j k : Nat} : ∀ i, (∀ t, t < i → p t ≠ j) → frB R p j k i = true
  | 0, _ => rfl
  | i + 1, h => by
    show (frB R p j k i && !(decide (p i = j) && mtB R i k)) = true
    rw [fr_new i (fun t ht => h t (by omega)), decide_eq_false (h i (by omega))]; rfl
theorem freeL {F L C k j : Nat} {S : CS} {R : Nat → Int32} {f : Nat → Int32} {p : Nat → Nat} (va : VA R L C) (t : TW (ci S 1) (ca S 1) R) (hk : k < L) (hj : j ≤ 10) (hf : ∀ i, i < k → f i = nI (p i)) (hp : ∀ i, i < k → p i ≤ 10) : ∀ (r i fuel : Nat), i + r = k → r < fuel → frB R p j k i = true → C_2_isFree_L3 F 1 (cF S 14 0 f) (nI k) (nI j) fuel (nI i) = some (if frB R p j k k then 1 else 0)
  | 0, i, fuel + 1, e, _, h => by
    obtain rfl : i = k := by omega
    have hL := va.1.1
    rw [C_2_isFree_L3, if_pos (nI_le (Nat.le_refl _) (by omega)), h]; rfl
  | r + 1, i, fuel + 1, e, hr, h => by
    have hL := va.1.1
    have h1 := hp i (by omega)
    rw [C_2_isFree_L3, if_neg (nI_ge (by omega) (by omega)), if_neg (show ¬ (10 : Int32) ≤ nI i from nI_ge (b := 10) (by omega) (by decide)), chk_in (by omega) (by decide), nI_clamp (by omega), ca_cF, hf i (by omega), qc_meet (S := cF S 14 0 f) (R := R) hL (t.1.1.trans va.1.2.2.1) (fun j hj => ⟨(t.2.1 j hj).1, (t.2.1 j hj).2.1⟩) (show i < L by omega) hk, bs]
    unfold C_2_isFree_B39
    rw [← nI_succ]
    have es : frB R p j k (i + 1) = (frB R p j k i && !(decide (p i = j) && mtB R i k)) := rfl
    by_cases z : p i = j
    · rw [if_pos (by rw [z])]
      cases q : mtB R i k with
      | true =>
        rw [h, z, decide_eq_true rfl, q] at es
        have : ∀ m, i + 1 + m ≤ k → frB R p j k (i + 1 + m) = false := by
          intro m
          induction m with
          | zero => intro _; exact es
          | succ m ih => intro hm; show (frB R p j k (i + 1 + m) && _) = false; rw [ih (by omega)]; rfl
        have e2 := this r (by omega)
        rw [show i + 1 + r = k by omega] at e2
        rw [if_pos rfl, if_neg (by decide), e2]; rfl
      | false =>
        rw [h, q] at es
        rw [if_pos (by decide)]
        exact freeL va t hk hj hf hp r (i + 1) fuel (by omega) (by omega) (by rw [es]; simp)
    · rw [if_neg (fun q => z ((nI_eq (by omega) (by omega)).mp q))]
      exact freeL va t hk hj hf hp r (i + 1) fuel (by omega) (by omega) (by rw [es, h, decide_eq_false z]; rfl)
theorem ma_45 (σ : MS) (g : Nat → Int32) : ma (mF σ 45 g) 45 = g := ma_F _ _ _
theorem mA_45 (σ : MS) (g : Nat → Int32) (k : Nat) (v : Int32) : mA (mF σ 45 g) 45 k v = mF σ 45 (upd g k v) := by rw [mA_F, ma_F, mF_mF]
theorem fitsL {F L C k j : Nat} {σ : MS} {g : Nat → Int32} {p : Nat → Nat} (va : VA (ma σ 3) L C) (hk : k < L) (hj : j ≤ 10) (hg : ∀ i, i < k → g i = nI (p i)) (gk : g k = nI j) (hp : ∀ i, i < k → p i ≤ 10) : ∀ (r i fuel : Nat), i + r = k → r < fuel → M_fitsName_L4 F (mF σ 45 g) (nI k) fuel (if frB (ma σ 3) p j k i then 1 else 0) (nI i) = some (if frB (ma σ 3) p j k k then 1 else 0)
  | 0, i, fuel + 1, e, _ => by
    obtain rfl : i = k := by omega
    have hL := va.1.1
    rw [M_fitsName_L4, if_pos (nI_le (Nat.le_refl _) (by omega)), chk_t (by cases frB (ma σ 3) p j i i <;> decide)]
  | r + 1, i, fuel + 1, e, hr => by
    have hL := va.1.1
    have h1 := hp i (by omega)
    have ih := fitsL (F := F) va hk hj hg gk hp r (i + 1) fuel (by omega) (by omega)
    rw [show frB (ma σ 3) p j k (i + 1) = (frB (ma σ 3) p j k i && !(decide (p i = j) && mtB (ma σ 3) i k)) from rfl] at ih
    rw [M_fitsName_L4, if_neg (nI_ge (by omega) (by omega)), chk_in (show i < 11 by omega) (by decide), chk_in (show k < 11 by omega) (by decide), nI_clamp (by omega), nI_clamp (by omega), ma_45, hg i (by omega), gk, qm_have (σ := mF σ 45 g) (by omega) (by omega), bs]
    unfold M_fitsName_B41 M_fitsName_B37 M_fitsName_B42
    rw [← nI_succ]
    cases w : frB (ma σ 3) p j k i with
    | false =>
      rw [w, Bool.false_and] at ih
      rw [if_pos (by decide)]; exact ih
    | true =>
    rw [w, Bool.true_and] at ih
    rw [if_pos rfl, if_neg (by decide)]
    by_cases z : p i = j
    · rw [if_pos (by rw [z])]
      rw [decide_eq_true z, Bool.true_and] at ih
      show (if (if mtB (ma σ 3) i k then (1 : Int32) else 0) = 0 then _ else _) = _
      cases q : mtB (ma σ 3) i k with
      | true =>
        rw [q] at ih
        rw [if_pos rfl, if_neg (by decide)]; exact ih
      | false =>
        rw [q] at ih
        rw [if_pos (by decide)]; exact ih
    · rw [if_neg (fun q => z ((nI_eq (by omega) (by omega)).mp q))]
      rw [decide_eq_false z, Bool.false_and] at ih
      exact ih
theorem aheadL {F k : Nat} {σ : MS} {g : Nat → Int32} {p : Nat → Nat} (hk : k ≤ 10) (hg : ∀ i, i < k → g i = nI (p i)) (hp : ∀ i, i < k → p i ≤ 10) : ∀ (r i fuel : Nat), i + r = k → r < fuel → ah p i ≤ 11 → M_nameAhead_L4 F (mF σ 45 g) (nI k) fuel (nI (ah p i)) (nI i) = some (nI (ah p k))
  | 0, i, fuel + 1, e, _, _ => by
    obtain rfl : i = k := by omega
    rw [M_nameAhead_L4, if_pos (nI_le (Nat.le_refl _) (by omega))]
  | r + 1, i, fuel + 1, e, hr, ha => by
    have h1 := hp i (by omega)
    have es : ah p (i + 1) = (if p i < ah p i then ah p i else p i + 1) := rfl
    have ih := aheadL (F := F) (σ := σ) hk hg hp r (i + 1) fuel (by omega) (by omega) (by rw [es]; split <;> omega)
    rw [M_nameAhead_L4, if_neg (nI_ge (by omega) (by omega)), chk_in (show i < 11 by omega) (by decide), chk_in (show i < 11 by omega) (by decide), nI_clamp (by omega), ma_45, hg i (by omega)]
    unfold M_nameAhead_B31
    rw [← nI_succ, ← nI_succ]
    by_cases z : p i < ah p i
    · rw [es, if_pos z] at ih
      rw [if_pos (nI_lt z (by omega))]; exact ih
    · rw [es, if_neg z] at ih
      rw [if_neg (nI_nlt (by omega) (by omega))]; exact ih
/-- steps -/
def tS : Nat → Nat
  | 0 => 1
  | d + 1 => 11 * (tS d + 1)
theorem tS_10 : ∀ d, d ≤ 10 → tS d + 2 ≤ 100000000000 := by decide
def apR (F M L : Nat) (S : CS) (σ : MS) (k : Nat) (f g : Nat → Int32) (q : Prop) (t n : Nat) (c : Option (Int32 × CS)) (m : Option (Int32 × MS)) : Prop :=
  (∃ f' g', c = some (1, cF S 14 0 f') ∧ m = some (1, mF σ 45 g') ∧ ∀ i, i < L → f' i = g' i) ∨
  (∃ f' g' n', c = some (0, cF S 14 0 f') ∧ m = M_findNames_L16 F (nI M) (nI L) n' (mF σ 45 g') (nI k + (-1 : Int32)) ∧ n ≤ n' + t ∧ (∀ i, i < k → f' i = f i) ∧ (∀ i, i < k → g' i = g i) ∧ q)
def preA (k : Nat) (f g : Nat → Int32) (p : Nat → Nat) : Prop := (∀ i, i < k → f i = nI (p i) ∧ g i = nI (p i)) ∧ ah p k ≤ k
theorem nI_prd (k : Nat) : nI (k + 1) + (-1 : Int32) = nI k := by
  rw [show (-1 : Int32) = -(1 : Int32) from rfl, ← Int32.sub_eq_add_neg]; exact nI_pred k
theorem nmJ {F L C M k d : Nat} {S : CS} {σ : MS} {p : Nat → Nat} {rs : CS → Nat → Int32 → Int32 → Int32 → Option (Int32 × CS)} (hF : 1000 ≤ F) (va : VA (ma σ 3) L C) (tw : TW (ci S 1) (ca S 1) (ma σ 3)) (hM : M ≤ 10) (hk : k + (d + 1) = L) (IH : ∀ (f g : Nat → Int32) (p : Nat → Nat) (n : Nat), preA (k + 1) f g p → g (k + 1) = -1 → tS d ≤ n → apR F M L S σ (k + 1) f g (M < L) (tS d) n (rs (cF S 14 0 f) 1 (nI (k + 1)) (nI (ah p (k + 1))) (nI M)) (M_findNames_L16 F (nI M) (nI L) n (mF σ 45 g) (nI (k + 1)))) : ∀ (r j : Nat) (f g : Nat → Int32) (n fuel : Nat), j + r = 11 → 1 ≤ r → r ≤ fuel → preA k f g p → g k + 1 = nI j → r * (tS d + 1) ≤ n → apR F M L S σ k f g (j ≤ ah p k → M < L) (r * (tS d + 1)) n (C_2_paint_L19 rs F 1 (nI k) (nI (ah p k)) (nI M) fuel (cF S 14 0 f) (nI j)) (M_findNames_L16 F (nI M) (nI L) n (mF σ 45 g) (nI k))
  | 0, j, f, g, n, fuel, e, h1, _, _, _, _ => by omega
  | r + 1, j, f, g, n, fuel, e, h1, hfu, pre, gk, hn => by
    have hL := va.1.1
    have hr : (r + 1) * (tS d + 1) = r * (tS d + 1) + (tS d + 1) := Nat.succ_mul _ _
    obtain ⟨fuel, rfl⟩ : ∃ x, fuel = x + 1 := ⟨fuel - 1, by omega⟩
    obtain ⟨n, rfl⟩ : ∃ x, n = x + 1 := ⟨n - 1, by omega⟩
    have pp := pre
    obtain ⟨pr, pu⟩ := pp
    have hp : ∀ i, i < k → p i ≤ 10 := fun i hi => by have := ah_gt p k i hi; omega
    have ea : M_nameAhead F (mF σ 45 (upd g k (nI j))) (nI k) = some (nI (ah p k)) := aheadL (by omega) (fun i hi => by rw [pk_un (by omega)]; exact (pr i hi).2) hp k 0 F (by omega) (by omega) (by show 0 ≤ 11; omega)
    have ef : M_fitsName F (mF σ 45 (upd g k (nI j))) (nI k) = some (if frB (ma σ 3) p j k k then 1 else 0) := fitsL (σ := σ) va (by omega) (by omega) (fun i hi => by rw [pk_un (by omega)]; exact (pr i hi).2) pk_us hp k 0 F (by omega) (by omega)
    have ec : C_2_isFree F (cF S 14 0 f) 1 (nI k) (nI j) = some (if frB (ma σ 3) p j k k then 1 else 0) := freeL va tw (by omega) (by omega) (fun i hi => (pr i hi).1) hp k 0 F (by omega) (by omega) rfl
    rw [C_2_paint_L19, M_findNames_L16, if_neg (show ¬ nI k < 0 from nI_nlt (b := 0) (Nat.zero_le _) (by omega)), if_neg (show ¬ nI L ≤ nI k from nI_ge (by omega) (by omega)), chk_in (show k < 11 by omega) (by decide), chk_in (show k < 11 by omega) (by decide), stt_d, chk_in (show k < 11 by omega) (by decide), chk_in (show k < 11 by omega) (by decide), nI_clamp (by omega), ma_45, gk, mA_45, ma_45, pk_us, ea, bs, ef, bs, ec, bs]
    unfold C_2_paint_B74 M_findNames_B59
    by_cases u : ah p k < j
    · rw [if_pos (nI_lt u (by omega))]
      right
      refine ⟨f, upd g k (nI j), n, rfl, ?_, by omega, fun _ _ => rfl, fun i hi => pk_un (by omega), fun q => by omega⟩
      by_cases w : M ≤ j
      · rw [if_pos (nI_le w (by omega))]
      · rw [if_neg (nI_ge (by omega) (by omega)), if_neg (nI_ge u (by omega))]
    rw [if_neg (nI_nlt (by omega) (by omega))]
    by_cases w : M ≤ j
    · rw [if_pos (nI_le w (by omega)), if_pos (nI_le w (by omega))]
      right
      exact ⟨f, upd g k (nI j), n, rfl, rfl, by omega, fun _ _ => rfl, fun i hi => pk_un (by omega), fun q => by omega⟩
    rw [if_neg (nI_ge (by omega) (by omega)), if_neg (nI_ge (by omega) (by omega)), if_pos (nI_le (by omega) (by omega))]
    have again : ∀ (f1 g1 : Nat → Int32) (n1 : Nat), (∀ i, i < k → f1 i = f i) → (∀ i, i < k → g1 i = g i) → g1 k = nI j → r * (tS d + 1) ≤ n1 → n + 1 ≤ n1 + (tS d + 1) → (j = ah p k → M < L) → apR F M L S σ k f g (j ≤ ah p k → M < L) ((r + 1) * (tS d + 1)) (n + 1) (C_2_paint_L19 rs F 1 (nI k) (nI (ah p k)) (nI M) fuel (cF S 14 0 f1) (nI j + 1)) (M_findNames_L16 F (nI M) (nI L) n1 (mF σ 45 g1) (nI k)) := fun f1 g1 n1 hf1 hg1 hgk hn1 hn2 hx => by
      have hr1 : 1 ≤ r := by omega
      have ih := nmJ (rs := rs) hF va tw hM hk IH r (j + 1) f1 g1 n1 fuel (by omega) hr1 (by omega) ⟨fun i hi => ⟨(hf1 i hi).trans (pr i hi).1, (hg1 i hi).trans (pr i hi).2⟩, pu⟩ (by rw [hgk, nI_succ]) hn1
      rw [nI_succ] at ih
      rcases ih with ⟨f', g', a1, a2, a3⟩ | ⟨f', g', n', a1, a2, a3, a4, a5, a6⟩
      · exact Or.inl ⟨f', g', a1, a2, a3⟩
      · refine Or.inr ⟨f', g', n', a1, a2, by omega, fun i hi => (a4 i hi).trans (hf1 i hi), fun i hi => (a5 i hi).trans (hg1 i hi), fun q => ?_⟩
        by_cases x : j = ah p k
        · exact hx x
        · exact a6 (by omega)
    cases q : frB (ma σ 3) p j k k with
    | false =>
      rw [if_pos (by decide), if_pos (by decide)]
      refine again f (upd g k (nI j)) n (fun _ _ => rfl) (fun i hi => pk_un (by omega)) pk_us (by omega) (by omega) (fun x => ?_)
      exact absurd (q.symm.trans (fr_new k (fun t ht => by have := ah_gt p k t ht; omega))) (by decide)
    | true =>
      rw [if_pos rfl, if_neg (show ¬ (1 : Int32) = 0 by decide), if_neg (show ¬ (1 : Int32) = 0 by decide), chk_in (show k < 10 by omega) (by decide), stc_d, ← nI_succ, ← nI_succ, chk_in (show k + 1 < 11 by omega) (by decide), nI_clamp (by omega), stt_d, mA_45]
      have eS : cA (cF S 14 0 f) 14 0 k (nI j) = cF S 14 0 (upd f k (nI j)) := by
        show cF (cF S 14 0 f) 14 0 (upd (ca (cF S 14 0 f) 14 0) k (nI j)) = _
        rw [ca_cF, cF_cF]
      have eh : ah (fun i => if i = k then j else p i) (k + 1) = if ah p k < j + 1 then j + 1 else ah p k := by
        show (if (if k = k then j else p k) < ah (fun i => if i = k then j else p i) k then ah (fun i => if i = k then j else p i) k else (if k = k then j else p k) + 1) = _
        rw [if_pos rfl, ah_c k (q := p) (fun i hi => if_neg (by omega))]
        by_cases x : j < ah p k
        · rw [if_pos x, if_neg (by omega)]
        · rw [if_neg x, if_pos (by omega)]
      have eu : (if nI (ah p k) < nI (j + 1) then nI (j + 1) else nI (ah p k)) = nI (ah (fun i => if i = k then j else p i) (k + 1)) := by
        rw [eh]
        by_cases x : ah p k < j + 1
        · rw [if_pos x, if_pos (nI_lt x (by omega))]
        · rw [if_neg x, if_neg (nI_nlt (by omega) (by omega))]
      rw [eS, eu]
      have ih := IH (upd f k (nI j)) (upd (upd g k (nI j)) (k + 1) (-1)) (fun i => if i = k then j else p i) n ⟨fun i hi => by
        by_cases x : i = k
        · subst x
          exact ⟨by rw [pk_us]; exact congrArg nI (if_pos rfl).symm, by rw [pk_un (by omega), pk_us]; exact congrArg nI (if_pos rfl).symm⟩
        · exact ⟨by rw [pk_un x]; exact (pr i (by omega)).1.trans (congrArg nI (if_neg x).symm), by rw [pk_un (by omega), pk_un x]; exact (pr i (by omega)).2.trans (congrArg nI (if_neg x).symm)⟩, by rw [eh]; split <;> omega⟩ pk_us (by omega)
      rcases ih with ⟨f', g', a1, a2, a3⟩ | ⟨f', g', n', a1, a2, a3, a4, a5, a6⟩
      · rw [a1, bs, if_neg (show ¬ (1 : Int32) = 0 by decide)]
        exact Or.inl ⟨f', g', rfl, a2, a3⟩
      · rw [a1, bs, if_pos rfl, a2, nI_prd, nI_succ]
        refine again f' g' n' (fun i hi => (a4 i (by omega)).trans (pk_un (by omega))) (fun i hi => ?_) ?_ (by omega) (by omega) (fun _ => a6)
        · rw [a5 i (by omega), pk_un (by omega), pk_un (by omega)]
        · rw [a5 k (by omega), pk_un (by omega), pk_us]
theorem nmP {F L C M : Nat} {S : CS} {σ : MS} (hF : 1000 ≤ F) (va : VA (ma σ 3) L C) (tw : TW (ci S 1) (ca S 1) (ma σ 3)) (hM : M ≤ 10) : ∀ (d k D : Nat) (f g : Nat → Int32) (p : Nat → Nat) (n : Nat), k + d = L → d < D → preA k f g p → g k = -1 → tS d ≤ n → apR F M L S σ k f g (M < L) (tS d) n (C_2_paintD F D (cF S 14 0 f) 1 (nI k) (nI (ah p k)) (nI M)) (M_findNames_L16 F (nI M) (nI L) n (mF σ 45 g) (nI k))
  | 0, k, D + 1, f, g, p, n + 1, e, _, pre, gk, hn => by
    obtain rfl : k = L := by omega
    have hL := va.1.1
    have h5 : ci (cF S 14 0 f) 1 5 = nI k := tw.1.1.trans va.1.2.2.1
    rw [C_2_paintD]
    unfold C_2_paint
    rw [h5, if_pos (nI_le (Nat.le_refl _) (by omega)), M_findNames_L16, if_neg (show ¬ nI k < 0 from nI_nlt (b := 0) (Nat.zero_le _) (by omega)), if_pos (nI_le (Nat.le_refl _) (by omega))]
    unfold M_findNames_B86
    rw [if_pos rfl]
    exact Or.inl ⟨f, g, rfl, rfl, fun i hi => (pre.1 i hi).1.trans (pre.1 i hi).2.symm⟩
  | 0, k, D + 1, f, g, p, 0, e, _, pre, gk, hn => absurd hn (by decide)
  | d + 1, k, D + 1, f, g, p, n, e, hD, pre, gk, hn => by
    have hL := va.1.1
    have h5 : ci (cF S 14 0 f) 1 5 = nI L := tw.1.1.trans va.1.2.2.1
    rw [C_2_paintD]
    unfold C_2_paint
    rw [h5, if_neg (nI_ge (by omega) (by omega)), if_pos (show nI k < 10 from nI_lt (b := 10) (by omega) (by decide))]
    have h := nmJ (rs := C_2_paintD F D) (M := M) (p := p) hF va tw hM e (fun f g p n h1 h2 h3 => nmP hF va tw hM d (k + 1) D f g p n (by omega) (by omega) h1 h2 h3) 11 0 f g n F (by omega) (by omega) (by omega) pre (by rw [gk]; decide) hn
    rcases h with ⟨f', g', a1, a2, a3⟩ | ⟨f', g', n', a1, a2, a3, a4, a5, a6⟩
    · exact Or.inl ⟨f', g', a1, a2, a3⟩
    · exact Or.inr ⟨f', g', n', a1, a2, a3, a4, a5, a6 (Nat.zero_le _)⟩
