/-- signs and numbers of a token -/
def isS (t : Nat → Nat) (n s x : Nat) : Bool := decide (kdT t n s = 3 ∧ t s = x)
def nmB (t : Nat → Nat) (n s lo hi : Nat) : Bool := decide (kdT t n s = 2 ∧ lo ≤ dvT t s (enT t n s - s) ∧ dvT t s (enT t n s - s) ≤ hi)
theorem kd_4 (t : Nat → Nat) (n s : Nat) : kdT t n s < 4 := by
  unfold kdT
  split
  · omega
  · split
    · omega
    · split <;> omega
theorem kd_i {t : Nat → Nat} {n s : Nat} (j : Nat) (hj : j < 4) : nI (kdT t n s) = nI j ↔ kdT t n s = j := by
  have := kd_4 t n s
  exact nI_eq (by omega) (by omega)
theorem kd_2 {t : Nat → Nat} {n s : Nat} (h : kdT t n s = 2) : s < n ∧ vlT t n s = lN (dvT t s (enT t n s - s)) := by
  unfold kdT at h
  by_cases z : n ≤ s
  · rw [if_pos z] at h; omega
  · rw [if_neg z] at h
    by_cases y : isL (t s) = true
    · rw [if_pos y] at h; omega
    · rw [if_neg y] at h
      by_cases x : isD (t s) = true
      · refine ⟨by omega, ?_⟩
        unfold vlT; rw [if_neg z, if_neg y, if_pos x]
      · rw [if_neg x] at h; omega
theorem kd_3 {t : Nat → Nat} {n s : Nat} (h : kdT t n s = 3) : s < n ∧ vlT t n s = lN (t s) := by
  unfold kdT at h
  by_cases z : n ≤ s
  · rw [if_pos z] at h; omega
  · rw [if_neg z] at h
    by_cases y : isL (t s) = true
    · rw [if_pos y] at h; omega
    · rw [if_neg y] at h
      by_cases x : isD (t s) = true
      · rw [if_pos x] at h; omega
      · refine ⟨by omega, ?_⟩
        unfold vlT; rw [if_neg z, if_neg y, if_neg x]
theorem kd_0 {t : Nat → Nat} {n s : Nat} : kdT t n s = 0 ↔ n ≤ s := by
  unfold kdT
  constructor
  · intro h
    by_cases z : n ≤ s
    · exact z
    · rw [if_neg z] at h
      split at h
      · omega
      · split at h <;> omega
  · intro h; rw [if_pos h]
/-- the next token begins further on -/
theorem en_gt {t : Nat → Nat} {n s : Nat} (h : s < n) : s < enT t n s ∧ enT t n s ≤ n := by
  unfold enT
  rw [if_neg (by omega)]
  have key : ∀ f : Nat → Bool, f s = true → s < sp f (n - s) s ∧ sp f (n - s) s ≤ n := fun f hf => by
    obtain ⟨r, hr⟩ : ∃ r, n - s = r + 1 := ⟨n - s - 1, by omega⟩
    rw [hr, sp_s, if_pos hf]
    have a := sp_ge f r (s + 1)
    have b := sp_le f r (s + 1)
    omega
  by_cases y : isL (t s) = true
  · rw [if_pos y]; exact key (fun i => isL (t i)) y
  · rw [if_neg y]
    by_cases x : isD (t s) = true
    · rw [if_pos x]; exact key (fun i => isD (t i)) x
    · rw [if_neg x]; omega
theorem en_le {t : Nat → Nat} {n s : Nat} (h : s ≤ n) : enT t n s ≤ n := by
  by_cases z : s < n
  · exact (en_gt z).2
  · unfold enT; rw [if_pos (by omega)]; exact h
theorem sk_le {t : Nat → Nat} {n p : Nat} (h : p ≤ n) : p ≤ skP t n p ∧ skP t n p ≤ n := by
  unfold skP
  have a := sp_ge (fun i => decide (t i = 32)) (n - p) p
  have b := sp_le (fun i => decide (t i = 32)) (n - p) p
  omega
theorem nx_gt {t : Nat → Nat} {n s : Nat} (h : s < n) : s < nxT t n s ∧ nxT t n s ≤ n := by
  have a := en_gt (t := t) h
  have b := sk_le (t := t) a.2
  unfold nxT; omega
theorem nx_le {t : Nat → Nat} {n s : Nat} (h : s ≤ n) : nxT t n s ≤ n := by
  unfold nxT; exact (sk_le (en_le h)).2
/-- a word moves on by its letters -/
theorem nx_w {t : Nat → Nat} {n s i m : Nat} (hi : i < 10) (hm : m < wdC i) (h : isW t n s (wdH i m) = true) : s + wdL i m ≤ nxT t n s := by
  have hk := (of_decide_eq_true h).1
  obtain ⟨k1, -⟩ := kd_1 hk
  have a := ((w_is hi hm hk).mp h).1
  have b := sk_le (t := t) (en_gt (t := t) k1).2
  unfold nxT; omega
theorem qm_isWord {σ : MS} {I : Nat → Int32} {v : Int64} {t : Nat → Nat} {n s h : Nat} (tk : TKm t n s I v) : M_isWord (mJ σ I v) (lN h) = some (if isW t n s h then 1 else 0) := by
  unfold M_isWord isW
  rw [mi_J, tk.2.2.1, ml_J, tk.2.2.2]
  by_cases z : kdT t n s = 1
  · rw [if_pos (show nI (kdT t n s) = 1 by rw [z]; rfl)]
    by_cases y : vlT t n s = lN h
    · rw [if_pos y, if_pos (decide_eq_true ⟨z, y⟩)]
    · rw [if_neg y, if_neg (by rw [decide_eq_false (fun q => y q.2)]; decide)]
  · rw [if_neg (show ¬ nI (kdT t n s) = 1 from fun q => z ((kd_i 1 (by decide)).mp q)), if_neg (by rw [decide_eq_false (fun q => z q.1)]; decide)]
theorem qm_isSign {σ : MS} {I : Nat → Int32} {v : Int64} {t : Nat → Nat} {n s x : Nat} (ht : ∀ i, t i < 256) (hx : x < 256) (tk : TKm t n s I v) : M_isSign (mJ σ I v) (nI x) = some (if isS t n s x then 1 else 0) := by
  unfold M_isSign isS
  rw [mi_J, tk.2.2.1, ml_J, tk.2.2.2]
  by_cases z : kdT t n s = 3
  · rw [if_pos (show nI (kdT t n s) = 3 by rw [z]; rfl), (kd_3 z).2, nI_l (by omega)]
    have := ht s
    by_cases y : t s = x
    · rw [if_pos (by rw [y]), if_pos (decide_eq_true ⟨z, y⟩)]
    · rw [if_neg (fun q => y (lN_inj (by omega) (by omega) q)), if_neg (by rw [decide_eq_false (fun q => y q.2)]; decide)]
  · rw [if_neg (show ¬ nI (kdT t n s) = 3 from fun q => z ((kd_i 3 (by decide)).mp q)), if_neg (by rw [decide_eq_false (fun q => z q.1)]; decide)]
theorem qc_isSign {S : CS} {I : Nat → Int32} {t : Nat → Nat} {n s x : Nat} (h : TPc S t n) (ht : ∀ i, t i < 256) (hx : x < 256) (tk : TKc t n s I) : C_3_isSign (cJ S I) (nI x) = some (if isS t n s x then 1 else 0) := by
  unfold C_3_isSign isS
  rw [ci_J, tk.1, tk.2.1]
  by_cases z : kdT t n s = 3
  · rw [if_pos (show nI (kdT t n s) = 3 by rw [z]; rfl), qc_byte h (kd_3 z).1, bs]
    have := ht s
    by_cases y : t s = x
    · rw [if_pos (by rw [y]), if_pos (decide_eq_true ⟨z, y⟩)]
    · rw [if_neg (fun q => y ((nI_eq (by omega) (by omega)).mp q)), if_neg (by rw [decide_eq_false (fun q => y q.2)]; decide)]
  · rw [if_neg (show ¬ nI (kdT t n s) = 3 from fun q => z ((kd_i 3 (by decide)).mp q)), if_neg (by rw [decide_eq_false (fun q => z q.1)]; decide)]
theorem dc_v {t : Nat → Nat} {s c hi : Nat} (hh : hi ≤ 1000) (h : dvT t s c ≤ hi) : dcT t s c = dvT t s c := by
  rcases dv_dc t s c with ⟨a, b⟩ | ⟨a, b⟩
  · exact b
  · omega
theorem qc_isNumber {S : CS} {I : Nat → Int32} {t : Nat → Nat} {n s lo hi : Nat} (hh : hi ≤ 1000) (hl : lo ≤ 1000) (tk : TKc t n s I) : C_3_isNumber (cJ S I) (nI lo) (nI hi) = some (if nmB t n s lo hi then 1 else 0) := by
  unfold C_3_isNumber nmB
  rw [ci_J, tk.1]
  by_cases z : kdT t n s = 2
  · rw [if_pos (show nI (kdT t n s) = 2 by rw [z]; rfl), tk.2.2.2 z]
    rcases dv_dc t s (enT t n s - s) with ⟨a, b⟩ | ⟨a, b⟩
    · rw [b]
      by_cases y : dvT t s (enT t n s - s) < lo
      · rw [if_pos (nI_lt y (by omega)), if_neg (by rw [decide_eq_false (fun q => by have := q.2.1; omega)]; decide)]
      · rw [if_neg (nI_nlt (by omega) (by omega))]
        by_cases x : hi < dvT t s (enT t n s - s)
        · rw [if_pos (nI_lt x (by omega)), if_neg (by rw [decide_eq_false (fun q => by have := q.2.2; omega)]; decide)]
        · rw [if_neg (nI_nlt (by omega) (by omega)), if_pos (decide_eq_true ⟨z, by omega, by omega⟩)]
    · rw [b, if_neg (nI_nlt (by omega) (by omega)), if_pos (nI_lt (by omega) (by omega)), if_neg (by rw [decide_eq_false (fun q => by have := q.2.2; omega)]; decide)]
  · rw [if_neg (show ¬ nI (kdT t n s) = 2 from fun q => z ((kd_i 2 (by decide)).mp q)), if_neg (by rw [decide_eq_false (fun q => z q.1)]; decide)]
theorem qm_inN {a lo hi : Nat} (ha : a < 2 ^ 31) (hl : lo < 2 ^ 31) (hh : hi < 2 ^ 31) : M_in (lN a) (lN lo) (lN hi) = some (if lo ≤ a ∧ a ≤ hi then 1 else 0) := by
  unfold M_in
  by_cases z : a < lo
  · rw [if_pos ((lN_lt ha hl).mpr z), if_neg (by omega)]
  · rw [if_neg (fun q => z ((lN_lt ha hl).mp q))]
    by_cases y : hi < a
    · rw [if_pos ((lN_lt hh ha).mpr y), if_neg (by omega)]
    · rw [if_neg (fun q => y ((lN_lt hh ha).mp q)), if_pos (by omega)]
/-- the last that fits -/
def lsF (f : Nat → Bool) (g : Nat → Int32) : Nat → Int32
  | 0 => -1
  | k + 1 => if f k = true then g k else lsF f g k
theorem fs_ls {f : Nat → Bool} {g : Nat → Int32} {k : Nat} (u : ∀ a b, a < k → b < k → f a = true → f b = true → a = b) : (∃ m, m < k ∧ f m = true ∧ fsF f 0 k = nI m ∧ lsF f g k = g m) ∨ (fsF f 0 k = -1 ∧ lsF f g k = -1 ∧ ∀ m, m < k → f m = false) := by
  by_cases z : ∃ m, m < k ∧ f m = true
  · obtain ⟨m, hm, fm⟩ := z
    refine Or.inl ⟨m, hm, fm, ?_, ?_⟩
    · have : ∀ r j, j + r = k → j ≤ m → fsF f j r = nI m := by
        intro r
        induction r with
        | zero => intro j e hj; omega
        | succ r ih =>
          intro j e hj
          show (if f j = true then nI j else fsF f (j + 1) r) = nI m
          by_cases y : j = m
          · rw [y, if_pos fm]
          · rw [if_neg (fun q => y (u j m (by omega) hm q fm))]
            exact ih (j + 1) (by omega) (by omega)
      exact this k 0 (by omega) (Nat.zero_le _)
    · have : ∀ r, r ≤ k → m < r → lsF f g r = g m := by
        intro r
        induction r with
        | zero => intro _ h; omega
        | succ r ih =>
          intro hr h
          show (if f r = true then g r else lsF f g r) = g m
          by_cases y : r = m
          · rw [y, if_pos fm]
          · rw [if_neg (fun q => y (u r m (by omega) hm q fm))]
            exact ih (by omega) (by omega)
      exact this k (Nat.le_refl _) hm
  · have nf : ∀ m, m < k → f m = false := fun m hm => by
      cases q : f m with
      | false => rfl
      | true => exact absurd ⟨m, hm, q⟩ z
    refine Or.inr ⟨fsF_n _ _ (fun i _ h => nf i (by omega)), ?_, nf⟩
    have : ∀ r, r ≤ k → lsF f g r = -1 := by
      intro r
      induction r with
      | zero => intro _; rfl
      | succ r ih =>
        intro hr
        show (if f r = true then g r else lsF f g r) = -1
        rw [if_neg (by rw [nf r (by omega)]; decide)]; exact ih (by omega)
    exact this k (Nat.le_refl _)
theorem w_dis : ∀ i, i < 10 → ∀ a, a < wdC i → ∀ b, b < wdC i → wdH i a = wdH i b → a = b := by decide +kernel
theorem w_uni {t : Nat → Nat} {n s i : Nat} (hi : i < 10) : ∀ a b, a < wdC i → b < wdC i → isW t n s (wdH i a) = true → isW t n s (wdH i b) = true → a = b := fun a b ha hb h1 h2 => by
  have e := (of_decide_eq_true h1).2.symm.trans (of_decide_eq_true h2).2
  have ta := (w_tab i hi).2.2 a ha
  have tb := (w_tab i hi).2.2 b hb
  exact w_dis i hi a ha b hb (lN_inj (by omega) (by omega) e)
/-- the word that the token is, for both -/
theorem ch_ls {t : Nat → Nat} {n s i : Nat} (hi : i < 10) (g : Nat → Int32) : (∃ m, m < wdC i ∧ isW t n s (wdH i m) = true ∧ chI t n s i = nI m ∧ lsF (fun m => isW t n s (wdH i m)) g (wdC i) = g m) ∨ (chI t n s i = -1 ∧ lsF (fun m => isW t n s (wdH i m)) g (wdC i) = -1 ∧ ∀ m, m < wdC i → isW t n s (wdH i m) = false) := fs_ls (w_uni hi)
theorem ch_1 {t : Nat → Nat} {n s i : Nat} (hi : i < 10) (h1 : wdC i = 1) : (isW t n s (wdH i 0) = true ∧ chI t n s i = 0) ∨ (isW t n s (wdH i 0) = false ∧ chI t n s i = -1) := by
  unfold chI
  rw [h1]
  show _ ∧ (if isW t n s (wdH i 0) = true then nI 0 else -1) = _ ∨ _ ∧ (if isW t n s (wdH i 0) = true then nI 0 else -1) = _
  cases q : isW t n s (wdH i 0) with
  | true => exact Or.inl ⟨rfl, rfl⟩
  | false => exact Or.inr ⟨rfl, rfl⟩
theorem partAtL {F : Nat} {σ : MS} {I : Nat → Int32} {v : Int64} {t : Nat → Nat} {n s : Nat} (hb : ∀ m, m < 9 → mb σ 31 m = lN (wdH 2 m)) (tk : TKm t n s I v) : ∀ (r k fuel : Nat), k + r = 9 → r < fuel → M_partAt_L4 F (mJ σ I v) fuel (lsF (fun m => isW t n s (wdH 2 m)) (fun m => nI (m + 1)) k) (nI k) = some (lsF (fun m => isW t n s (wdH 2 m)) (fun m => nI (m + 1)) 9)
  | 0, k, fuel + 1, e, _ => by
    obtain rfl : k = 9 := by omega
    rw [M_partAt_L4, if_pos (by decide)]
  | r + 1, k, fuel + 1, e, hf => by
    have ih := partAtL (F := F) hb tk r (k + 1) fuel (by omega) (by omega)
    rw [M_partAt_L4, if_neg (show ¬ (9 : Int32) ≤ nI k from nI_ge (b := 9) (by omega) (by decide)), chk_in (show k < 9 by omega) (by decide), nI_clamp (by omega), show mb (mJ σ I v) 31 k = lN (wdH 2 k) from hb k (by omega), qm_isWord tk, bs]
    unfold M_partAt_B30
    rw [← nI_succ]
    rw [show lsF (fun m => isW t n s (wdH 2 m)) (fun m => nI (m + 1)) (k + 1) = if isW t n s (wdH 2 k) = true then nI (k + 1) else lsF (fun m => isW t n s (wdH 2 m)) (fun m => nI (m + 1)) k from rfl] at ih
    cases q : isW t n s (wdH 2 k) with
    | true => rw [q, if_pos rfl] at ih; rw [if_pos rfl, if_neg (by decide)]; exact ih
    | false => rw [q, if_neg (by decide)] at ih; rw [if_pos (by decide)]; exact ih
theorem qm_partAt {F : Nat} {σ : MS} {I : Nat → Int32} {v : Int64} {t : Nat → Nat} {n s : Nat} (hF : 1000 ≤ F) (hb : ∀ m, m < 9 → mb σ 31 m = lN (wdH 2 m)) (tk : TKm t n s I v) : M_partAt F (mJ σ I v) = some (lsF (fun m => isW t n s (wdH 2 m)) (fun m => nI (m + 1)) 9) := partAtL hb tk 9 0 F (by omega) (by omega)
theorem ordAtL {F : Nat} {σ : MS} {I : Nat → Int32} {v : Int64} {t : Nat → Nat} {n s : Nat} (hb : ∀ m, m < 7 → mb σ 32 m = lN (wdH 3 m)) (tk : TKm t n s I v) : ∀ (r k fuel : Nat), k + r = 7 → r < fuel → M_orderPartAt_L4 F (mJ σ I v) fuel (lsF (fun m => isW t n s (wdH 3 m)) (fun m => nI (m + 1)) k) (nI k) = some (lsF (fun m => isW t n s (wdH 3 m)) (fun m => nI (m + 1)) 7)
  | 0, k, fuel + 1, e, _ => by
    obtain rfl : k = 7 := by omega
    rw [M_orderPartAt_L4, if_pos (by decide)]
  | r + 1, k, fuel + 1, e, hf => by
    have ih := ordAtL (F := F) hb tk r (k + 1) fuel (by omega) (by omega)
    rw [M_orderPartAt_L4, if_neg (show ¬ (7 : Int32) ≤ nI k from nI_ge (b := 7) (by omega) (by decide)), chk_in (show k < 7 by omega) (by decide), nI_clamp (by omega), show mb (mJ σ I v) 32 k = lN (wdH 3 k) from hb k (by omega), qm_isWord tk, bs]
    unfold M_orderPartAt_B30
    rw [← nI_succ]
    rw [show lsF (fun m => isW t n s (wdH 3 m)) (fun m => nI (m + 1)) (k + 1) = if isW t n s (wdH 3 k) = true then nI (k + 1) else lsF (fun m => isW t n s (wdH 3 m)) (fun m => nI (m + 1)) k from rfl] at ih
    cases q : isW t n s (wdH 3 k) with
    | true => rw [q, if_pos rfl] at ih; rw [if_pos rfl, if_neg (by decide)]; exact ih
    | false => rw [q, if_neg (by decide)] at ih; rw [if_pos (by decide)]; exact ih
theorem qm_ordAt {F : Nat} {σ : MS} {I : Nat → Int32} {v : Int64} {t : Nat → Nat} {n s : Nat} (hF : 1000 ≤ F) (hb : ∀ m, m < 7 → mb σ 32 m = lN (wdH 3 m)) (tk : TKm t n s I v) : M_orderPartAt F (mJ σ I v) = some (lsF (fun m => isW t n s (wdH 3 m)) (fun m => nI (m + 1)) 7) := ordAtL hb tk 7 0 F (by omega) (by omega)
