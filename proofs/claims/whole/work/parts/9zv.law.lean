/-- rows laid -/
def wrow (R : Nat → Int32) (o : Nat) (w : Nat → Int32) (k : Nat) : Nat → Int32 := fun j => if o ≤ j ∧ j < o + k then w (j - o) else R j
theorem wrow_s (R : Nat → Int32) (o : Nat) (w : Nat → Int32) (k : Nat) : upd (wrow R o w k) (o + k) (w k) = wrow R o w (k + 1) := by
  funext j; rw [upd_d]; unfold wrow
  by_cases z : j = o + k
  · rw [if_pos z, if_pos (by omega), show j - o = k by omega]
  · rw [if_neg z]
    by_cases y : o ≤ j ∧ j < o + k
    · rw [if_pos y, if_pos (by omega)]
    · rw [if_neg y, if_neg (by omega)]
theorem wrow_0 (R : Nat → Int32) (o : Nat) (w : Nat → Int32) : wrow R o w 0 = R := by
  funext j; unfold wrow; rw [if_neg (by omega)]
def crow (R : Nat → Int32) (o : Nat) (f g : Nat → Int32) (k : Nat) : Nat → Int32 := fun j => if o ≤ j ∧ j < o + 2 * k then (if (j - o) % 2 = 0 then f ((j - o) / 2) else g ((j - o) / 2)) else R j
theorem crow_s (R : Nat → Int32) (o : Nat) (f g : Nat → Int32) (k : Nat) : upd (upd (crow R o f g k) (o + 2 * k) (f k)) (o + 2 * k + 1) (g k) = crow R o f g (k + 1) := by
  funext j; rw [upd_d, upd_d]; unfold crow
  by_cases z : j = o + 2 * k + 1
  · rw [if_pos z, if_pos (by omega), if_neg (by omega), show (j - o) / 2 = k by omega]
  · rw [if_neg z]
    by_cases z2 : j = o + 2 * k
    · rw [if_pos z2, if_pos (by omega), if_pos (by omega), show (j - o) / 2 = k by omega]
    · rw [if_neg z2]
      by_cases y : o ≤ j ∧ j < o + 2 * k
      · rw [if_pos y, if_pos (show o ≤ j ∧ j < o + 2 * (k + 1) by omega)]
      · rw [if_neg y, if_neg (show ¬ (o ≤ j ∧ j < o + 2 * (k + 1)) by omega)]
theorem crow_0 (R : Nat → Int32) (o : Nat) (f g : Nat → Int32) : crow R o f g 0 = R := by
  funext j; unfold crow; rw [if_neg (by omega)]
theorem mA3 (τ : MS) (X : Nat → Int32) (j : Nat) (v : Int32) : mA (mF τ 3 X) 3 j v = mF τ 3 (upd X j v) := by
  rw [mA_F, mF_mF, ma_F]
theorem law110 {F o c : Nat} {τ : MS} {R w : Nat → Int32} (h22 : ma τ 22 = w) (h21 : mi τ 21 = nI c) (hc : c ≤ 12) (ho : o + 900 ≤ 5476) : ∀ (n k fuel : Nat), k + n = 8 * c → n < fuel → M_law_L110 F (nI o) fuel (mF τ 3 (wrow R (o + 2) w k)) (nI k) = M_law_L145 F (nI o) F (mF τ 3 (wrow R (o + 2) w (8 * c))) 0
  | 0, k, fuel + 1, e, _ => by
    obtain rfl : k = 8 * c := by omega
    rw [M_law_L110, show mi (mF τ 3 (wrow R (o + 2) w (8 * c))) 21 = nI c from h21, show (8 : Int32) * nI c = nI (8 * c) from pk_mul 8 c, if_pos (nI_le (Nat.le_refl _) (by omega))]
  | n + 1, k, fuel + 1, e, hf => by
    rw [M_law_L110, show mi (mF τ 3 (wrow R (o + 2) w k)) 21 = nI c from h21, show (8 : Int32) * nI c = nI (8 * c) from pk_mul 8 c, if_neg (nI_ge (by omega) (by omega)), chk_in (show k < 96 by omega) (by decide), show nI o + 2 = nI (o + 2) from nI_add o 2, nI_add, chk_in (show o + 2 + k < 5476 by omega) (by decide), stt_d, nI_clamp (by omega), nI_clamp (by omega), show ma (mF τ 3 (wrow R (o + 2) w k)) 22 = w from h22, mA3, wrow_s, ← nI_succ]
    exact law110 h22 h21 hc ho n (k + 1) fuel (by omega) (by omega)
theorem law145 {F o b W : Nat} {τ : MS} {R f g : Nat → Int32} (h24 : ma τ 24 = f) (h25 : ma τ 25 = g) (h23 : mi τ 23 = nI b) (hb : b ≤ 400) (h3 : R 3 = nI W) (hW : W ≤ 6) (ho : o + 900 ≤ 5476) : ∀ (n k fuel : Nat), k + n = b → n < fuel → M_law_L145 F (nI o) fuel (mF τ 3 (crow R (o + 98) f g k)) (nI k) = some (nI W, mI (mF τ 3 (upd (crow R (o + 98) f g b) 3 (nI (W + 1)))) 1 0)
  | 0, k, fuel + 1, e, _ => by
    obtain rfl : k = b := by omega
    have e3 : crow R (o + 98) f g k 3 = nI W := by unfold crow; rw [if_neg (by omega)]; exact h3
    rw [M_law_L145, show mi (mF τ 3 (crow R (o + 98) f g k)) 23 = nI k from h23, if_pos (nI_le (Nat.le_refl _) (by omega)), stt_d, ma_F, mA3, e3, ma_F, ← nI_succ, pk_us, nI_pred, qm_tell0 _ (by omega), bs]
  | n + 1, k, fuel + 1, e, hf => by
    rw [M_law_L145, show mi (mF τ 3 (crow R (o + 98) f g k)) 23 = nI b from h23, if_neg (nI_ge (by omega) (by omega)), chk_in (show k < 400 by omega) (by decide), show nI o + 98 = nI (o + 98) from nI_add o 98, show (2 : Int32) * nI k = nI (2 * k) from pk_mul 2 k, nI_add, chk_in (show o + 98 + 2 * k < 5476 by omega) (by decide), stt_d, nI_clamp (by omega), nI_clamp (by omega), mA3, show ma (mF τ 3 (crow R (o + 98) f g k)) 24 = f from h24, chk_in (show k < 400 by omega) (by decide), ← nI_succ, chk_in (show o + 98 + 2 * k + 1 < 5476 by omega) (by decide), stt_d, nI_clamp (by omega), mA3, show ma (mF τ 3 (upd (crow R (o + 98) f g k) (o + 98 + 2 * k) (f k))) 25 = g from h25, crow_s, ← nI_succ]
    exact law145 h24 h25 h23 hb h3 hW ho n (k + 1) fuel (by omega) (by omega)
/-- the row with a law more -/
def lawR (R : Nat → Int32) (W c : Nat) (w f g : Nat → Int32) (b : Nat) : Nat → Int32 := upd (crow (wrow (upd R (76 + 900 * W + 1) (nI c)) (76 + 900 * W + 2) w (8 * c)) (76 + 900 * W + 98) f g b) 3 (nI (W + 1))
theorem lawR_lo {R : Nat → Int32} {W c : Nat} {w f g : Nat → Int32} {b j : Nat} (h : j < 76 + 900 * W) (h3 : j ≠ 3) : lawR R W c w f g b j = R j := by
  unfold lawR crow wrow
  rw [pk_un h3, if_neg (by omega), if_neg (by omega), pk_un (by omega)]
theorem lawR_3 {R : Nat → Int32} {W c : Nat} {w f g : Nat → Int32} {b : Nat} : lawR R W c w f g b 3 = nI (W + 1) := pk_us
theorem lawR_1 {R : Nat → Int32} {W c : Nat} {w f g : Nat → Int32} {b : Nat} : lawR R W c w f g b (76 + 900 * W + 1) = nI c := by
  unfold lawR crow wrow
  rw [pk_un (by omega), if_neg (by omega), if_neg (by omega), pk_us]
theorem lawR_w {R : Nat → Int32} {W c : Nat} {w f g : Nat → Int32} {b j : Nat} (hc : c ≤ 12) (h : j < 8 * c) : lawR R W c w f g b (76 + 900 * W + (2 + j)) = w j := by
  unfold lawR crow wrow
  rw [pk_un (by omega), if_neg (by omega), if_pos (by omega)]
  congr 1; omega
theorem lawR_f {R : Nat → Int32} {W c : Nat} {w f g : Nat → Int32} {b j : Nat} (h : j < b) : lawR R W c w f g b (76 + 900 * W + (98 + 2 * j)) = f j := by
  unfold lawR crow
  rw [pk_un (by omega), if_pos (by omega), if_pos (by omega)]
  congr 1; omega
theorem lawR_g {R : Nat → Int32} {W c : Nat} {w f g : Nat → Int32} {b j : Nat} (h : j < b) : lawR R W c w f g b (76 + 900 * W + (98 + 2 * j + 1)) = g j := by
  unfold lawR crow
  rw [pk_un (by omega), if_pos (by omega), if_neg (by omega)]
  congr 1; omega
/-- what was read is a law -/
theorem lawS_of {E : Nat → ClassId} {Z : Nat → Prop} {P0 P : va_W} {zb c W a b : Nat} {A f g w R : Nat → Int32} (h : LD CLa E P0 P zb c A f g w a b) (hc : c ≤ 12) (ha : a < 400) (hb : b ≤ 400) (hZ : ∀ x, zb ≤ x → ¬ Z x) : LawS E Z P (some zb) (lwR (lawR R W c w f g b) W) ∧ pok P 5 (some zb) = true := by
  obtain ⟨h1, ⟨cl, h2, h3⟩, h4, h5, h6⟩ := h
  have rv : ∀ i, i < 900 → lwR (lawR R W c w f g b) W i = lawR R W c w f g b (76 + 900 * W + i) := fun i hi => if_pos hi
  have rc : ∀ k, k < b → rcf false f g k = rcd (lwR (lawR R W c w f g b) W) k := fun k hk => by
    unfold rcd
    rw [rv _ (by omega), rv _ (by omega), lawR_f hk, lawR_g hk]
    rfl
  have cc : ∀ k, k < a → ccd A k = ccd (va_cpy A (fun _ => 0) 0 0 (2 * a)) k := fun k hk => by
    unfold ccd
    rw [pk_cpy_in (show 0 ≤ 2 * k by omega) (show 2 * k < 0 + 2 * a by omega), pk_cpy_in (show 0 ≤ 2 * k + 1 by omega) (show 2 * k + 1 < 0 + 2 * a by omega), show 0 + (2 * k - 0) = 2 * k by omega, show 0 + (2 * k + 1 - 0) = 2 * k + 1 by omega]
  refine ⟨⟨zb, c, zb + 1, zb + 3 + c, 2 * a, _, cl, rfl, hZ _ (by omega), hc, pI_o h1 rfl, pR_o h1 rfl, hZ _ (by omega), parQ_o h2, pR_o h1 rfl, hZ _ (by omega), parE_o h4, by omega, ?_, fun i hi => ?_⟩, ?_⟩
  · rw [rv _ (by omega)]; exact lawR_1
  · obtain ⟨fs, e1, k, b0, x1, x2, x3, s0, s1, s2, s3, rfl, g1, g2, g3, g4, g5, g6, g7, g8, g9, g10, g11, g12, g13, g14, g15⟩ := h5 i hi
    have rw' : ∀ j, j < 8 → lwR (lawR R W c w f g b) W (2 + 8 * i + j) = w (8 * i + j) := fun j hj => by
      rw [rv _ (by omega), show 2 + 8 * i + j = 2 + (8 * i + j) by omega]; exact lawR_w hc (by omega)
    refine ⟨zb + 3 + i, k, h3 i hi, hZ _ (by omega), g1, (rw' 0 (by omega)).trans g2, b0, x1, x2, x3, s0, s1, s2, s3, pI_o e1 rfl, pI_o e1 rfl, pI_o e1 rfl, pI_o e1 rfl, pI_o e1 rfl, by omega, by omega, by omega, (rw' 3 (by omega)).trans g3, (rw' 4 (by omega)).trans g4, (rw' 5 (by omega)).trans g5, (rw' 6 (by omega)).trans g6, by omega, by omega, by omega, by omega, fun q => ?_, ?_⟩
    · obtain ⟨φ, y1, y2⟩ := g14 q
      exact ⟨φ, y1.cg (fun k _ hk => cc k (by omega)), y2.cg (fun k _ hk => rc k (by omega))⟩
    · rcases g15 with q | ⟨φ, y1, y2⟩
      · exact Or.inl q
      · exact Or.inr ⟨φ, y1.cg (fun k _ hk => cc k (by omega)), y2.cg (fun k _ hk => rc k (by omega))⟩
  · show (pobj P 5 zb).isSome = true
    rw [pobj_o h1]; rfl
theorem rel_law {E : Nat → ClassId} {S : CS} {P : va_W} {σ : MS} {W zb : Nat} {R' : Nat → Int32} (h : Rel E S P σ) (h0 : ma σ 3 3 = nI W) (hW : W < 6) (r3 : R' 3 = nI (W + 1)) (rl : ∀ j, j < 76 + 900 * W → j ≠ 3 → R' j = ma σ 3 j) (hl : LawS E (imZ (cq S 0)) P (some zb) (lwR R' W) ∧ pok P 5 (some zb) = true) : Rel E (cI (cQ S 1 W (some zb)) 1 14 (nI (W + 1))) P (mF σ 3 R') := by
  obtain ⟨L, C, H, W', h1, h2, h3, h4, h5, h6, h7, h8, h9⟩ := h
  have e : W' = W := by
    have := h2.2.2.1.2.1
    rw [h0] at this
    exact ((nI_eq (by omega) (by have := h2.2.2.1.1; omega)).mp this).symm
  subst e
  have k : ma (mF σ 3 R') 3 = R' := ma_F _ _ _
  have kq : cq (cI (cQ S 1 W' (some zb)) 1 14 (nI (W' + 1))) 1 = va_up (cq S 1) W' (some zb) := rfl
  have far : ∀ i, i < 76 → i ≠ 3 → R' i = ma σ 3 i := fun i hi h3 => rl i (by omega) h3
  refine ⟨L, C, H, W' + 1, ?_, ?_, ?_, h4, ?_, h6, h7, h8, h9⟩
  · rw [k]
    show TW (upd (ci S 1) 14 (nI (W' + 1))) (ca S 1) R'
    obtain ⟨⟨t1, t2, t3, t4, t5⟩, tl, tc, th, tt⟩ := h1
    refine ⟨⟨by rw [pk_un (by decide), far _ (by omega) (by omega)]; exact t1, by rw [pk_un (by decide), far _ (by omega) (by omega)]; exact t2, by rw [pk_un (by decide), far _ (by omega) (by omega)]; exact t3, by rw [pk_us, r3], by rw [pk_un (by decide), far _ (by omega) (by omega)]; exact t5⟩, fun j hj => ?_, fun j hj => ?_, fun j hj => ?_, fun j hj => ?_⟩
    · rw [far _ (by omega) (by omega), far _ (by omega) (by omega), far _ (by omega) (by omega), far _ (by omega) (by omega), far _ (by omega) (by omega)]; exact tl j hj
    · rw [far _ (by omega) (by omega), far _ (by omega) (by omega), far _ (by omega) (by omega)]; exact tc j hj
    · rw [far _ (by omega) (by omega)]; exact th j hj
    · rw [far _ (by omega) (by omega)]; exact tt j hj
  · rw [k]
    refine ⟨VA_cg (fun i hi => far i (by omega) (by omega)) h2.1, VH_cg (far _ (by omega) (by omega)) (fun i a b => far i (by omega) (by omega)) h2.2.1, ⟨by omega, r3, ?_⟩, hO_cg (far 5 (by omega) (by omega)) h2.2.2.2⟩
    rw [far 4 (by omega) (by omega)]
    rcases h2.2.2.1.2.2 with q | ⟨w, w1, w2⟩
    · exact Or.inl q
    · exact Or.inr ⟨w, by omega, w2⟩
  · rw [k, kq]
    refine ⟨fun w hw => ?_, fun w hw => ?_⟩
    · rw [up_d]
      by_cases z : w = W'
      · rw [if_pos z, z]; exact hl.1
      · rw [if_neg z, show lwR R' w = lwR (ma σ 3) w from funext fun i => by
          unfold lwR
          by_cases y : i < 900
          · rw [if_pos y, if_pos y, rl _ (by omega) (by omega)]
          · rw [if_neg y, if_neg y]]
        exact h3.1 w (by omega)
    · rw [up_d]
      by_cases z : w = W'
      · rw [if_pos z]; exact hl.2
      · rw [if_neg z]; exact h3.2 w hw
  · rw [k]; exact LG_R (fun i hi => far i (by omega) (by omega)) h5
