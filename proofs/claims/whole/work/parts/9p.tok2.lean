/-- the reference's reader -/
def mJ (σ : MS) (I : Nat → Int32) (v : Int64) : MS := (I, vp_updL σ.2.1 17 v, σ.2.2)
theorem mJ_I (σ : MS) (I : Nat → Int32) (v : Int64) (k : Nat) (x : Int32) : mI (mJ σ I v) k x = mJ σ (upd I k x) v := rfl
theorem mJ_L (σ : MS) (I : Nat → Int32) (v w : Int64) : mL (mJ σ I v) 17 w = mJ σ I w := by
  show (I, vp_updL (vp_updL σ.2.1 17 v) 17 w, σ.2.2) = (I, vp_updL σ.2.1 17 w, σ.2.2)
  congr 2
  funext j
  rw [updL_d, updL_d, updL_d]
  split <;> rfl
theorem mJ_self (σ : MS) : mJ σ (mi σ) (ml σ 17) = σ := by
  show (σ.1, vp_updL σ.2.1 17 (σ.2.1 17), σ.2.2) = σ
  have : vp_updL σ.2.1 17 (σ.2.1 17) = σ.2.1 := by
    funext j
    rw [updL_d]
    split
    · rename_i h; rw [h]
    · rfl
  rw [this]
theorem mi_J (σ : MS) (I : Nat → Int32) (v : Int64) : mi (mJ σ I v) = I := rfl
theorem ml_J (σ : MS) (I : Nat → Int32) (v : Int64) : ml (mJ σ I v) 17 = v := by
  show vp_updL σ.2.1 17 v 17 = v
  rw [updL_d, if_pos rfl]
theorem ma_J (σ : MS) (I : Nat → Int32) (v : Int64) : ma (mJ σ I v) = ma σ := rfl
def TPm (σ : MS) (I : Nat → Int32) (t : Nat → Nat) (n : Nat) : Prop := n ≤ 400 ∧ I 13 = nI n ∧ ∀ j, j < 400 → ma σ 12 j = nI (t j)
def TKm (t : Nat → Nat) (n s : Nat) (I : Nat → Int32) (v : Int64) : Prop := I 14 = nI s ∧ I 15 = nI (enT t n s) ∧ I 16 = nI (kdT t n s) ∧ v = vlT t n s
theorem nx243 {F n s : Nat} {σ : MS} {t : Nat → Nat} (ht : ∀ i, t i < 256) : ∀ (r p fuel : Nat) (I : Nat → Int32) (v : Int64), TPm σ I t n → p + r = n → s ≤ p → r < fuel → I 16 = 2 → I 15 = nI p → v = lN (dvT t s (p - s)) → ∃ I', M_next_L243 F fuel (mJ σ I v) = some ((), mJ σ I' (lN (dvT t s (sp (fun i => isD (t i)) r p - s)))) ∧ I' 15 = nI (sp (fun i => isD (t i)) r p) ∧ ∀ k, k ≠ 15 → I' k = I k
  | 0, p, fuel + 1, I, v, h, e, hs, _, h16, h15, hv => by
    obtain rfl : p = n := by omega
    have hn := h.1
    rw [M_next_L243, mi_J, h16, if_pos rfl, h.2.1, h15, if_pos (nI_le (Nat.le_refl _) (by omega)), hv]
    exact ⟨I, rfl, h15, fun _ _ => rfl⟩
  | r + 1, p, fuel + 1, I, v, h, e, hs, hf, h16, h15, hv => by
    have hn := h.1
    have hb := dv_b t s ht (p - s)
    rw [M_next_L243, mi_J, h16, if_pos rfl, h.2.1, h15, if_neg (nI_ge (by omega) (by omega)), chk_in (show p < 400 by omega) (by decide), nI_clamp (by omega), ma_J, h.2.2 p (by omega), qm_isD (ht p), bs, chk_in (show p < 400 by omega) (by decide), ml_J, sp_s]
    unfold M_next_B319
    rw [stt_d, stt_d, stt_d, stt_d, mJ_L, mJ_L, mi_J, mi_J, h15, mJ_I, mJ_I, ← nI_succ, hv]
    cases q : isD (t p) with
    | false =>
      rw [if_pos (by decide), if_neg (by decide)]
      exact ⟨I, rfl, h15, fun _ _ => rfl⟩
    | true =>
      have d := of_decide_eq_true q
      rw [if_pos rfl, if_neg (by decide), if_pos rfl]
      have h' : TPm σ (upd I 15 (nI (p + 1))) t n := ⟨h.1, (pk_un (by decide)).trans h.2.1, h.2.2⟩
      have es : dvT t s (p + 1 - s) = if dvT t s (p - s) ≤ 1000000 then dvT t s (p - s) * 10 + (t p - 48) else dvT t s (p - s) := by
        rw [show p + 1 - s = (p - s) + 1 by omega]
        show (if dvT t s (p - s) ≤ 1000000 then dvT t s (p - s) * 10 + (t (s + (p - s)) - 48) else dvT t s (p - s)) = _
        rw [show s + (p - s) = p by omega]
      have key : ∀ w : Int64, w = lN (dvT t s (p + 1 - s)) → ∃ I', M_next_L243 F fuel (mJ σ (upd I 15 (nI (p + 1))) w) = some ((), mJ σ I' (lN (dvT t s (sp (fun i => isD (t i)) r (p + 1) - s)))) ∧ I' 15 = nI (sp (fun i => isD (t i)) r (p + 1)) ∧ ∀ k, k ≠ 15 → I' k = I k := fun w hw => by
        obtain ⟨I', a1, a2, a3⟩ := nx243 (F := F) (s := s) ht r (p + 1) fuel (upd I 15 (nI (p + 1))) w h' (by omega) (by omega) (by omega) ((pk_un (by decide)).trans h16) pk_us hw
        exact ⟨I', a1, a2, fun k hk => (a3 k hk).trans (pk_un hk)⟩
      by_cases w : dvT t s (p - s) ≤ 1000000
      · rw [if_pos (show lN (dvT t s (p - s)) ≤ 1000000 from (lN_le (b := 1000000) (by omega) (by decide)).mpr w)]
        refine key _ ?_
        rw [es, if_pos w, nI_l (by have := ht p; omega)]
        show lN (dvT t s (p - s)) * lN 10 + lN (t p) - lN 48 = _
        rw [lN_mul, lN_add, lN_sub (by omega)]
        congr 1; omega
      · rw [if_neg (show ¬ lN (dvT t s (p - s)) ≤ 1000000 from fun q => w ((lN_le (b := 1000000) (by omega) (by decide)).mp q))]
        refine key _ ?_
        rw [es, if_neg w]
theorem nx149 {F n s : Nat} {σ : MS} {t : Nat → Nat} (hF : 1000 ≤ F) (ht : ∀ i, t i < 256) : ∀ (r p fuel : Nat) (I : Nat → Int32) (v : Int64), TPm σ I t n → p + r = n → s ≤ p → r < fuel → I 16 = 1 → I 14 = nI s → I 15 = nI p → v = wvT t s (p - s) → ∃ I', M_next_L149 F fuel (mJ σ I v) = some ((), mJ σ I' (wvT t s (sp (fun i => isL (t i)) r p - s))) ∧ I' 15 = nI (sp (fun i => isL (t i)) r p) ∧ ∀ k, k ≠ 15 → I' k = I k
  | 0, p, fuel + 1, I, v, h, e, hs, _, h16, h14, h15, hv => by
    obtain rfl : p = n := by omega
    have hn := h.1
    obtain ⟨F', rfl⟩ : ∃ x, F = x + 1 := ⟨F - 1, by omega⟩
    rw [M_next_L149, mi_J, h16, if_pos rfl, h.2.1, h15, if_pos (nI_le (Nat.le_refl _) (by omega)), hv, M_next_L243, mi_J, h16, if_neg (by decide)]
    exact ⟨I, rfl, h15, fun _ _ => rfl⟩
  | r + 1, p, fuel + 1, I, v, h, e, hs, hf, h16, h14, h15, hv => by
    have hn := h.1
    have e243 : M_next_L243 F F (mJ σ I v) = some ((), mJ σ I v) := by
      obtain ⟨F', rfl⟩ : ∃ x, F = x + 1 := ⟨F - 1, by omega⟩
      rw [M_next_L243, mi_J, h16, if_neg (by decide)]
    have esub : nI p - nI s = nI (p - s) := by
      have : nI p = nI (p - s) + nI s := by rw [nI_add]; congr 1; omega
      rw [this, Int32.add_sub_cancel]
    rw [M_next_L149, mi_J, h16, if_pos rfl, h.2.1, h15, h14, if_neg (nI_ge (by omega) (by omega)), chk_in (show p < 400 by omega) (by decide), nI_clamp (by omega), ma_J, h.2.2 p (by omega), qm_isL (ht p), bs, chk_in (show p < 400 by omega) (by decide), ml_J, e243, esub, sp_s]
    unfold M_next_B227
    rw [stt_d, stt_d, stt_d, stt_d, mJ_L, mJ_L, mi_J, mi_J, h15, mJ_I, mJ_I, ← nI_succ]
    cases q : isL (t p) with
    | false =>
      rw [if_pos (by decide), if_neg (by decide), hv]
      exact ⟨I, rfl, h15, fun _ _ => rfl⟩
    | true =>
      have d := of_decide_eq_true q
      rw [if_pos rfl, if_neg (by decide), if_pos rfl]
      have h' : TPm σ (upd I 15 (nI (p + 1))) t n := ⟨h.1, (pk_un (by decide)).trans h.2.1, h.2.2⟩
      have key : ∀ w : Int64, w = wvT t s (p + 1 - s) → ∃ I', M_next_L149 F fuel (mJ σ (upd I 15 (nI (p + 1))) w) = some ((), mJ σ I' (wvT t s (sp (fun i => isL (t i)) r (p + 1) - s))) ∧ I' 15 = nI (sp (fun i => isL (t i)) r (p + 1)) ∧ ∀ k, k ≠ 15 → I' k = I k := fun w hw => by
        obtain ⟨I', a1, a2, a3⟩ := nx149 (F := F) (s := s) hF ht r (p + 1) fuel (upd I 15 (nI (p + 1))) w h' (by omega) (by omega) (by omega) ((pk_un (by decide)).trans h16) ((pk_un (by decide)).trans h14) pk_us hw
        exact ⟨I', a1, a2, fun k hk => (a3 k hk).trans (pk_un hk)⟩
      by_cases w : 10 ≤ p - s
      · rw [if_pos (show (10 : Int32) ≤ nI (p - s) from nI_le (a := 10) w (by omega))]
        refine key _ ?_
        unfold wvT; rw [if_neg (by omega)]
      · rw [if_neg (show ¬ (10 : Int32) ≤ nI (p - s) from nI_ge (b := 10) (by omega) (by decide))]
        refine key _ ?_
        rw [hv]
        unfold wvT
        rw [if_pos (by omega), if_pos (by omega), nI_l (by have := ht p; omega), show p + 1 - s = (p - s) + 1 by omega]
        show lN (hvT t s (p - s)) * lN 32 + lN (t p) - lN 96 = lN (32 * hvT t s (p - s) + (t (s + (p - s)) - 96))
        rw [lN_mul, lN_add, lN_sub (by omega), show s + (p - s) = p by omega]
        congr 1; omega
theorem nx46 {F n s : Nat} {σ : MS} {t : Nat → Nat} {I : Nat → Int32} {v : Int64} (hF : 1000 ≤ F) (ht : ∀ i, t i < 256) (h : TPm σ I t n) (hs : s ≤ n) (h14 : I 14 = nI s) : ∃ I', M_next_B46 F (mJ σ I v) = some ((), mJ σ I' (vlT t n s)) ∧ TKm t n s I' (vlT t n s) ∧ ∀ k, k ≠ 15 → k ≠ 16 → I' k = I k := by
  have hn := h.1
  obtain ⟨F', hF'⟩ : ∃ x, F = x + 1 := ⟨F - 1, by omega⟩
  have done : ∀ (I : Nat → Int32) (v : Int64), ¬ I 16 = 1 → ¬ I 16 = 2 → M_next_L149 F F (mJ σ I v) = some ((), mJ σ I v) := fun I v h1 h2 => by
    have : M_next_L243 F F (mJ σ I v) = some ((), mJ σ I v) := by
      rw [hF', M_next_L243, mi_J, if_neg h2]
    rw [hF', M_next_L149, mi_J, if_neg h1, ← hF', this]
  unfold M_next_B46
  rw [stt_d, stt_d, mi_J, h14, mJ_I, mJ_L, mi_J, pk_un (show 14 ≠ 15 by decide), pk_un (show 13 ≠ 15 by decide), h14, h.2.1, ma_J]
  unfold M_next_B114 TKm kdT enT vlT
  by_cases z : n ≤ s
  · obtain rfl : s = n := by omega
    rw [if_pos rfl, stt_d, mJ_I, mi_J, pk_us, if_neg (by decide), done _ _ (by rw [pk_us]; decide) (by rw [pk_us]; decide), if_pos z, if_pos z, if_pos z]
    exact ⟨_, rfl, ⟨by rw [pk_un (by decide), pk_un (by decide)]; exact h14, by rw [pk_un (by decide), pk_us], pk_us, rfl⟩, fun k k5 k6 => by rw [pk_un k6, pk_un k5]⟩
  have hb := ht s
  rw [if_neg (show ¬ nI s = nI n from fun q => z (by have := (nI_eq (by omega) (by omega)).mp q; omega)), chk_in (show s < 400 by omega) (by decide), chk_in (show s < 400 by omega) (by decide), nI_clamp (by omega), h.2.2 s (by omega), qm_isL hb, bs, qm_isD hb, bs, if_neg z, if_neg z, if_neg z]
  cases q : isL (t s) with
  | true =>
    rw [if_pos rfl, if_neg (by decide), if_pos rfl, if_pos rfl, if_pos rfl, stt_d, mJ_I, mi_J, pk_us, if_neg (by decide)]
    obtain ⟨I', a1, a2, a3⟩ := nx149 (F := F) (s := s) (σ := σ) hF ht (n - s) s F (upd (upd I 15 (nI s)) 16 1) 0 ⟨h.1, by rw [pk_un (by decide), pk_un (by decide)]; exact h.2.1, h.2.2⟩ (by omega) (Nat.le_refl _) (by omega) pk_us (by rw [pk_un (by decide), pk_un (by decide)]; exact h14) (by rw [pk_un (by decide), pk_us]) (by rw [Nat.sub_self]; rfl)
    unfold enT
    rw [if_neg z, if_pos q]
    exact ⟨I', a1, ⟨(a3 14 (by decide)).trans (by rw [pk_un (by decide), pk_un (by decide)]; exact h14), a2, (a3 16 (by decide)).trans pk_us, rfl⟩, fun k k5 k6 => (a3 k k5).trans (by rw [pk_un k6, pk_un k5])⟩
  | false =>
    rw [if_pos (show (if (false = true) then (1 : Int32) else 0) = 0 by decide), if_neg (show ¬ (false = true) by decide), if_neg (show ¬ (false = true) by decide), if_neg (show ¬ (false = true) by decide)]
    cases w : isD (t s) with
    | true =>
      rw [if_pos rfl, if_neg (by decide), if_pos rfl, if_pos rfl, if_pos rfl, stt_d, mJ_I, mi_J, pk_us, if_neg (by decide)]
      obtain ⟨I', a1, a2, a3⟩ := nx243 (F := F) (s := s) (σ := σ) ht (n - s) s F (upd (upd I 15 (nI s)) 16 2) 0 ⟨h.1, by rw [pk_un (by decide), pk_un (by decide)]; exact h.2.1, h.2.2⟩ (by omega) (Nat.le_refl _) (by omega) pk_us (by rw [pk_un (by decide), pk_us]) (by rw [Nat.sub_self]; rfl)
      have e149 : M_next_L149 F F (mJ σ (upd (upd I 15 (nI s)) 16 2) 0) = M_next_L243 F F (mJ σ (upd (upd I 15 (nI s)) 16 2) 0) := by
        rw [hF', M_next_L149, mi_J, pk_us, if_neg (by decide)]
      rw [e149]
      unfold enT
      rw [if_neg z, if_neg (by rw [q]; decide), if_pos w]
      exact ⟨I', a1, ⟨(a3 14 (by decide)).trans (by rw [pk_un (by decide), pk_un (by decide)]; exact h14), a2, (a3 16 (by decide)).trans pk_us, rfl⟩, fun k k5 k6 => (a3 k k5).trans (by rw [pk_un k6, pk_un k5])⟩
    | false =>
      rw [if_pos (show (if (false = true) then (1 : Int32) else 0) = 0 by decide), if_neg (show ¬ (false = true) by decide), if_neg (show ¬ (false = true) by decide), if_neg (show ¬ (false = true) by decide), stt_d, mJ_I, mi_J, pk_us, if_pos rfl, pk_un (show 14 ≠ 16 by decide), pk_un (show 14 ≠ 15 by decide), h14, chk_in (show s < 400 by omega) (by decide), nI_clamp (by omega), stt_d, stt_d, ma_J, h.2.2 s (by omega), mJ_L, mi_J, mJ_I, pk_un (show 15 ≠ 16 by decide), pk_us, ← nI_succ, done _ _ (by rw [pk_un (by decide), pk_us]; decide) (by rw [pk_un (by decide), pk_us]; decide), nI_l (by omega)]
      exact ⟨_, rfl, ⟨by rw [pk_un (by decide), pk_un (by decide), pk_un (by decide)]; exact h14, pk_us, by rw [pk_un (by decide), pk_us]; rfl, rfl⟩, fun k k5 k6 => by rw [pk_un k5, pk_un k6, pk_un k5]⟩
theorem nx8 {F n : Nat} {σ : MS} {t : Nat → Nat} {v : Int64} (hF : 1000 ≤ F) (ht : ∀ i, t i < 256) : ∀ (r p fuel : Nat) (I : Nat → Int32), TPm σ I t n → p + r = n → r < fuel → I 14 = nI p → ∃ I', M_next_L8 F fuel (mJ σ I v) = some ((), mJ σ I' (vlT t n (sp (fun i => decide (t i = 32)) r p))) ∧ TKm t n (sp (fun i => decide (t i = 32)) r p) I' (vlT t n (sp (fun i => decide (t i = 32)) r p)) ∧ ∀ k, k ≠ 14 → k ≠ 15 → k ≠ 16 → I' k = I k
  | 0, p, fuel + 1, I, h, e, _, h14 => by
    obtain rfl : p = n := by omega
    have hn := h.1
    rw [M_next_L8, mi_J, h14, h.2.1, if_pos (nI_le (Nat.le_refl _) (by omega))]
    obtain ⟨I', a1, a2, a3⟩ := nx46 (F := F) (σ := σ) (v := v) hF ht h (Nat.le_refl _) h14
    exact ⟨I', a1, a2, fun k _ k5 k6 => a3 k k5 k6⟩
  | r + 1, p, fuel + 1, I, h, e, hf, h14 => by
    have hn := h.1
    have hb := ht p
    rw [M_next_L8, mi_J, h14, h.2.1, if_neg (nI_ge (by omega) (by omega)), chk_in (show p < 400 by omega) (by decide), nI_clamp (by omega), ma_J, h.2.2 p (by omega), stt_d, mJ_I, ← nI_succ, sp_s]
    by_cases z : t p = 32
    · rw [if_pos (by rw [z]; rfl), if_pos (decide_eq_true z)]
      obtain ⟨I', a1, a2, a3⟩ := nx8 (F := F) (v := v) hF ht r (p + 1) fuel (upd I 14 (nI (p + 1))) ⟨h.1, (pk_un (by decide)).trans h.2.1, h.2.2⟩ (by omega) (by omega) pk_us
      exact ⟨I', a1, a2, fun k k4 k5 k6 => (a3 k k4 k5 k6).trans (pk_un k4)⟩
    · rw [if_neg (show ¬ nI (t p) = 32 from fun q => z ((nI_eq (b := 32) (by omega) (by decide)).mp q)), if_neg (by rw [decide_eq_false z]; decide)]
      obtain ⟨I', a1, a2, a3⟩ := nx46 (F := F) (σ := σ) (v := v) hF ht h (show p ≤ n by omega) h14
      exact ⟨I', a1, a2, fun k _ k5 k6 => a3 k k5 k6⟩
theorem qm_next {F n p : Nat} {σ : MS} {t : Nat → Nat} {I : Nat → Int32} {v : Int64} (hF : 1000 ≤ F) (ht : ∀ i, t i < 256) (h : TPm σ I t n) (hp : p ≤ n) (h15 : I 15 = nI p) : ∃ I', M_next F (mJ σ I v) = some ((), mJ σ I' (vlT t n (skP t n p))) ∧ TKm t n (skP t n p) I' (vlT t n (skP t n p)) ∧ ∀ k, k ≠ 14 → k ≠ 15 → k ≠ 16 → I' k = I k := by
  have hn := h.1
  unfold M_next
  rw [stt_d, mi_J, h15, mJ_I]
  obtain ⟨I', a1, a2, a3⟩ := nx8 (F := F) (σ := σ) (v := v) hF ht (n - p) p F (upd I 14 (nI p)) ⟨h.1, (pk_un (by decide)).trans h.2.1, h.2.2⟩ (by omega) (by omega) pk_us
  exact ⟨I', a1, a2, fun k k4 k5 k6 => (a3 k k4 k5 k6).trans (pk_un k4)⟩
