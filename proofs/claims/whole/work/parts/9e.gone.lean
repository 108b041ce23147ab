/-- ways by names -/
def gw (R : Nat → Int32) (x : Int32) (p : Nat → Nat) : Nat → Nat → Nat
  | 0, _ => 0
  | j + 1, c => gw R x p j c + (if R (8 + j) = x then (if c = mlB R j then p (mlA R j) else if c = mlA R j then p (mlB R j) else 0) else 0)
theorem gw_s (R : Nat → Int32) (x : Int32) (p : Nat → Nat) (j c : Nat) : gw R x p (j + 1) c = gw R x p j c + (if R (8 + j) = x then (if c = mlB R j then p (mlA R j) else if c = mlA R j then p (mlB R j) else 0) else 0) := rfl
theorem gw_b {R : Nat → Int32} {x : Int32} {p : Nat → Nat} {M : Nat} (hp : ∀ c, p c ≤ M) : ∀ j c, gw R x p j c ≤ j * M
  | 0, _ => Nat.zero_le _
  | j + 1, c => by
    have := gw_b (R := R) (x := x) hp j c
    have h1 := hp (mlA R j)
    have h2 := hp (mlB R j)
    rw [gw_s, Nat.succ_mul]
    split <;> (try split) <;> (try split) <;> omega
def gP (R : Nat → Int32) (L b : Nat) : Nat → Nat → Nat
  | 0 => fun c => if c = b then 1 else 0
  | i + 1 => gw R (R (70 + i)) (gP R L b i) L
theorem gP_b {R : Nat → Int32} {L b : Nat} (hL : L ≤ 10) : ∀ i c, gP R L b i c ≤ 10 ^ i
  | 0, c => by show (if c = b then 1 else 0) ≤ 1; split <;> omega
  | i + 1, c => by
    have := gw_b (R := R) (x := R (70 + i)) (gP_b (R := R) (b := b) hL i) L c
    show gw R (R (70 + i)) (gP R L b i) L c ≤ _
    rw [Nat.pow_succ, Nat.mul_comm (10 ^ i) 10]
    exact Nat.le_trans this (Nat.mul_le_mul_right _ hL)
theorem gP_6 {R : Nat → Int32} {L b : Nat} (hL : L ≤ 10) {i : Nat} (hi : i ≤ 6) (c : Nat) : gP R L b i c ≤ 1000000 :=
  Nat.le_trans (gP_b hL i c) (Nat.pow_le_pow_right (show 0 < 10 by omega) hi)
def sm (p : Nat → Nat) : Nat → Nat
  | 0 => 0
  | c + 1 => sm p c + p c
theorem sm_b {p : Nat → Nat} {M : Nat} (h : ∀ c, p c ≤ M) : ∀ c, sm p c ≤ c * M
  | 0 => Nat.zero_le _
  | c + 1 => by have := sm_b h c; have := h c; show sm p c + p c ≤ _; rw [Nat.succ_mul]; omega
def fn2 (p : Nat → Nat) : Nat → Nat → Int32 → Int32
  | 0, _, y => y
  | t + 1, c, y => fn2 p t (c + 1) (if 0 < p c then y ||| ((1 : Int32) <<< (nI c &&& 31)) else y)
theorem or_0 (x : Int32) : x ||| 0 = x := b_ext fun i hi => by rw [b_or, b_0, Bool.or_false]
theorem or_or (x m : Int32) : (x ||| m) ||| m = x ||| m := b_ext fun i hi => by rw [b_or, b_or]; cases bt x i <;> cases bt m i <;> rfl
/-- the class -/
theorem goOnL {F L C : Nat} {S : CS} {R : Nat → Int32} {p : Nat → Nat} {x : Int32} (va : VA R L C) (t : TW (ci S 1) (ca S 1) R) (hp : ∀ c, c < 8 → ca S 14 1 c = nI (p c)) : ∀ (k j fuel : Nat) (f : Nat → Int32), j + k = L → k < fuel → (∀ c, c < 8 → f c = nI (gw R x p j c)) → ∃ f' g, C_2_goOn_L10 F 1 x fuel (cF S 14 2 f) (nI j) = some ((), cF (cF S 14 2 f') 14 1 g) ∧ ∀ c, c < 8 → g c = nI (gw R x p L c)
  | 0, j, fuel + 1, f, e, _, h => by
    obtain rfl : j = L := by omega
    have hL := va.1.1
    have n8 : (8 : Int32).toNatClampNeg = 8 := by decide
    rw [C_2_goOn_L10, show ci (cF S 14 2 f) 1 5 = nI j from t.1.1.trans va.1.2.2.1, if_pos (nI_le (Nat.le_refl _) (by omega)), chk_t (show cpok (0 : Int32) (0 : Int32) (8 : Int32) 8 8 = true by decide), stc_d, ca_cF, cp_0, n8]
    refine ⟨f, _, rfl, fun c hc => ?_⟩
    rw [pk_cpy_in (by omega) (by omega), show 0 + (c - 0) = c by omega]; exact h c hc
  | k + 1, j, fuel + 1, f, e, hf, h => by
    have hL := va.1.1
    obtain ⟨ea, eb, -, ha, hb, ne, -⟩ := ml_ok (va.2.1 j (by omega))
    obtain ⟨t0, t1, -, -, t4⟩ := t.2.1 j (by omega)
    have f0 : ∀ (f : Nat → Int32) k, ca (cF S 14 2 f) 1 k = ca S 1 k := fun f k => ca_cFn _ _ _ _ _ _ (Or.inl (by decide))
    have f1 : ∀ f : Nat → Int32, ca (cF S 14 2 f) 14 1 = ca S 14 1 := fun f => ca_cFn _ _ _ _ _ _ (Or.inr (by decide))
    rw [C_2_goOn_L10, show ci (cF S 14 2 f) 1 5 = nI L from t.1.1.trans va.1.2.2.1, if_neg (nI_ge (by omega) (by omega))]
    simp only [f0]
    rw [chk_in (by omega) (by decide), chk_in (by omega) (by decide), chk_in (by omega) (by decide), nI_clamp (by omega), t0, t1, t4, ea, eb]
    unfold C_2_goOn_B94
    rw [← nI_succ]
    by_cases z : R (8 + j) = x
    · rw [if_pos z, qc_isCorner, isAt_in ha (by omega), bs, if_neg (by decide), qc_isCorner, isAt_in hb (by omega), bs, if_neg (by decide), chk_in hb (by decide), chk_in ha (by decide), chk_in hb (by decide), stc_d, chk_in ha (by decide), chk_in hb (by decide), chk_in ha (by decide), stc_d, nI_clamp (by omega), nI_clamp (by omega), cA_cF, ca_cF, ca_cF, f1, f1, cA_cF, h _ hb, pk_un (by omega), h _ ha, hp _ ha, hp _ hb, nI_add, nI_add]
      refine goOnL va t hp k (j + 1) fuel _ (by omega) (by omega) (fun c hc => ?_)
      rw [gw_s, if_pos z, upd_d, upd_d]
      by_cases y : c = mlA R j
      · rw [if_pos y, if_neg (by omega), if_pos y, y]
      · rw [if_neg y]
        by_cases w : c = mlB R j
        · rw [if_pos w, if_pos w, w]
        · rw [if_neg w, if_neg w, if_neg y, Nat.add_zero]; exact h c hc
    · rw [if_neg z]
      refine goOnL va t hp k (j + 1) fuel _ (by omega) (by omega) (fun c hc => ?_)
      rw [gw_s, if_neg z, Nat.add_zero]; exact h c hc
theorem qc_goOn {F L C : Nat} {S : CS} {R : Nat → Int32} {p : Nat → Nat} {x : Int32} (hF : 1000 ≤ F) (va : VA R L C) (t : TW (ci S 1) (ca S 1) R) (hp : ∀ c, c < 8 → ca S 14 1 c = nI (p c)) : ∃ f g, C_2_goOn F S 1 x = some ((), cF (cF S 14 2 f) 14 1 g) ∧ ∀ c, c < 8 → g c = nI (gw R x p L c) := by
  obtain ⟨h, r1, r2⟩ := qc_fill (F := F) (wo := 14) (wk := 2) (wn := 8) (S := S) (x := 0) (by omega) (by decide)
  unfold C_2_goOn
  rw [r1, bs]
  exact goOnL va t hp L 0 F h (by omega) (by have := va.1.1; omega) (fun c hc => by rw [r2 c hc]; rfl)
theorem kc_14 (S : CS) (k : Nat) (f : Nat → Int32) : KC S (cF S 14 k f) := ⟨⟨rfl, rfl, rfl, rfl, rfl⟩, ⟨rfl, rfl, rfl⟩, ⟨rfl, rfl⟩, ⟨rfl, rfl⟩, ⟨rfl, rfl, rfl, rfl⟩, rfl⟩
theorem kc_14i (S : CS) (k : Nat) (v : Int32) : KC S (cI S 14 k v) := ⟨⟨rfl, rfl, rfl, rfl, rfl⟩, ⟨rfl, rfl, rfl⟩, ⟨rfl, rfl⟩, ⟨rfl, rfl⟩, ⟨rfl, rfl, rfl, rfl⟩, rfl⟩
theorem TW_KC {S T : CS} {R : Nat → Int32} (k : KC S T) (t : TW (ci S 1) (ca S 1) R) : TW (ci T 1) (ca T 1) R := by rw [k.2.1.1, k.2.1.2.1]; exact t
theorem retr40 {F L C H b : Nat} {R : Nat → Int32} {k17 : CS → Int32 → Option (Unit × CS)} (hF : 1000 ≤ F) (va : VA R L C) (vh : VH R H) : ∀ (k i fuel : Nat) (S : CS), i + k = H → k < fuel → TW (ci S 1) (ca S 1) R → (∀ c, c < 8 → ca S 14 1 c = nI (gP R L b i c)) → ∃ T, C_2_retrace_L40 F 1 k17 (nI b) fuel S (nI i) = C_2_retrace_L73 F 1 k17 (nI b) F T 0 ∧ KC S T ∧ ci T 14 = ci S 14 ∧ ∀ c, c < 8 → ca T 14 1 c = nI (gP R L b H c)
  | 0, i, fuel + 1, S, e, _, t, h => by
    obtain rfl : i = H := by omega
    have hH := vh.1
    rw [C_2_retrace_L40, t.1.2.2.1, vh.2.1, if_pos (nI_le (Nat.le_refl _) (by omega))]
    exact ⟨S, rfl, KC.rf, rfl, h⟩
  | k + 1, i, fuel + 1, S, e, hf, t, h => by
    have hH := vh.1
    obtain ⟨f, g, r1, r2⟩ := qc_goOn (F := F) (S := S) (x := R (70 + i)) hF va t h
    rw [C_2_retrace_L40, t.1.2.2.1, vh.2.1, if_neg (nI_ge (by omega) (by omega)), if_neg (show ¬ (6 : Int32) ≤ nI i from nI_ge (b := 6) (by omega) (by decide)), chk_in (by omega) (by decide), nI_clamp (by omega), t.2.2.2.1 i (by omega), r1, bs, ← nI_succ]
    have kc : KC S (cF (cF S 14 2 f) 14 1 g) := (kc_14 _ _ _).tr (kc_14 _ _ _)
    obtain ⟨T, s1, s2, s3, s4⟩ := retr40 (k17 := k17) hF va vh k (i + 1) fuel (cF (cF S 14 2 f) 14 1 g) (by omega) (by omega) (TW_KC kc t) (fun c hc => by rw [ca_cF]; exact r2 c hc)
    exact ⟨T, s1, kc.tr s2, s3, s4⟩
theorem ci_I (S : CS) (o k k' : Nat) (v : Int32) : ci (cI S o k v) o k' = if k' = k then v else ci S o k' := by
  show va_up S.1 o (upd (S.1 o) k v) o k' = _
  rw [up_d, if_pos rfl]; rfl
theorem retr73 {F b N : Nat} {p : Nat → Nat} {k17 : CS → Int32 → Option (Unit × CS)} {x : Int32} (hp : ∀ c, p c ≤ 1000000) : ∀ (t c fuel : Nat) (S : CS) (y : Int32), c + t = 8 → t < fuel → (∀ c, c < 8 → ca S 14 1 c = nI (p c)) → ci S 14 3 = nI (N + sm p c) → ci S 14 4 = (if 0 < sm p c then x ||| ((1 : Int32) <<< (nI b &&& 31)) else x) → ci S 14 5 = y → ∃ T, C_2_retrace_L73 F 1 k17 (nI b) fuel S (nI c) = k17 T (nI b + 1) ∧ KC S T ∧ ci T 14 3 = nI (N + sm p 8) ∧ ci T 14 4 = (if 0 < sm p 8 then x ||| ((1 : Int32) <<< (nI b &&& 31)) else x) ∧ ci T 14 5 = fn2 p t c y
  | 0, c, fuel + 1, S, y, e, _, h, h3, h4, h5 => by
    obtain rfl : c = 8 := by omega
    rw [C_2_retrace_L73, if_pos (by decide)]
    exact ⟨S, rfl, KC.rf, h3, h4, h5⟩
  | t + 1, c, fuel + 1, S, y, e, hf, h, h3, h4, h5 => by
    have hpc := hp c
    have es : sm p (c + 1) = sm p c + p c := rfl
    rw [C_2_retrace_L73, if_neg (show ¬ (8 : Int32) ≤ nI c from nI_ge (b := 8) (by omega) (by decide)), chk_in (by omega) (by decide), chk_in (by omega) (by decide), nI_clamp (by omega), h c (by omega)]
    unfold C_2_retrace_B127
    rw [← nI_succ, fn2]
    by_cases z : 0 < p c
    · rw [if_neg (nI_nle z (by omega)), stc_d, stc_d, stc_d, if_pos z]
      have kc : KC S (cI (cI (cI S 14 3 (ci S 14 3 + nI (p c))) 14 4 (ci (cI S 14 3 (ci S 14 3 + nI (p c))) 14 4 ||| ((1 : Int32) <<< (nI b &&& 31)))) 14 5 (ci (cI (cI S 14 3 (ci S 14 3 + nI (p c))) 14 4 (ci (cI S 14 3 (ci S 14 3 + nI (p c))) 14 4 ||| ((1 : Int32) <<< (nI b &&& 31)))) 14 5 ||| ((1 : Int32) <<< (nI c &&& 31)))) := ((kc_14i _ _ _).tr (kc_14i _ _ _)).tr (kc_14i _ _ _)
      obtain ⟨T, s1, s2, s3, s4, s5⟩ := retr73 (F := F) (b := b) (N := N) (k17 := k17) (x := x) hp t (c + 1) fuel (cI (cI (cI S 14 3 (ci S 14 3 + nI (p c))) 14 4 (ci (cI S 14 3 (ci S 14 3 + nI (p c))) 14 4 ||| ((1 : Int32) <<< (nI b &&& 31)))) 14 5 (ci (cI (cI S 14 3 (ci S 14 3 + nI (p c))) 14 4 (ci (cI S 14 3 (ci S 14 3 + nI (p c))) 14 4 ||| ((1 : Int32) <<< (nI b &&& 31)))) 14 5 ||| ((1 : Int32) <<< (nI c &&& 31)))) (y ||| ((1 : Int32) <<< (nI c &&& 31))) (by omega) (by omega) (fun c hc => h c hc) (by
        rw [ci_I, if_neg (by decide), ci_I, if_neg (by decide), ci_I, if_pos rfl, h3, nI_add, es, Nat.add_assoc]) (by
        rw [ci_I, if_neg (by decide), ci_I, if_pos rfl, ci_I, if_neg (by decide), h4, es, if_pos (show 0 < sm p c + p c by omega)]
        split
        · rw [or_or]
        · rfl) (by rw [ci_I, if_pos rfl, ci_I, if_neg (by decide), ci_I, if_neg (by decide), h5])
      exact ⟨T, s1, kc.tr s2, s3, s4, s5⟩
    · have z0 : p c = 0 := by omega
      rw [if_pos (show nI (p c) ≤ 0 by rw [z0]; decide), if_neg z]
      exact retr73 (F := F) hp t (c + 1) fuel S y (by omega) (by omega) h (by rw [es, z0, Nat.add_zero]; exact h3) (by rw [es, z0, Nat.add_zero]; exact h4) h5
/-- all beginnings -/
def gN (R : Nat → Int32) (L H : Nat) : Nat → Nat
  | 0 => 0
  | b + 1 => gN R L H b + sm (gP R L b H) 8
def gX1 (R : Nat → Int32) (L H : Nat) : Nat → Int32
  | 0 => 0
  | b + 1 => if 0 < sm (gP R L b H) 8 then gX1 R L H b ||| ((1 : Int32) <<< (nI b &&& 31)) else gX1 R L H b
def gY1 (R : Nat → Int32) (L H : Nat) : Nat → Int32
  | 0 => 0
  | b + 1 => fn2 (gP R L b H) 8 0 (gY1 R L H b)
theorem retr17 {F L C H : Nat} {R : Nat → Int32} (hF : 1000 ≤ F) (va : VA R L C) (vh : VH R H) : ∀ (k b fuel : Nat) (S : CS), b + k = 8 → k < fuel → TW (ci S 1) (ca S 1) R → ci S 14 3 = nI (gN R L H b) → ci S 14 4 = gX1 R L H b → ci S 14 5 = gY1 R L H b → ∃ T, C_2_retrace_L17 F 1 fuel S (nI b) = some ((), T) ∧ KC S T ∧ ci T 14 3 = nI (gN R L H 8) ∧ ci T 14 4 = gX1 R L H 8 ∧ ci T 14 5 = gY1 R L H 8
  | 0, b, fuel + 1, S, e, _, t, h3, h4, h5 => by
    obtain rfl : b = 8 := by omega
    rw [C_2_retrace_L17, if_pos (by decide)]
    exact ⟨S, rfl, KC.rf, h3, h4, h5⟩
  | k + 1, b, fuel + 1, S, e, hf, t, h3, h4, h5 => by
    have hH := vh.1
    obtain ⟨g, r1, r2⟩ := qc_fill (F := F) (wo := 14) (wk := 1) (wn := 8) (S := S) (x := 0) (by omega) (by decide)
    rw [C_2_retrace_L17, if_neg (show ¬ (8 : Int32) ≤ nI b from nI_ge (b := 8) (by omega) (by decide)), r1, bs, chk_in (by omega) (by decide), nI_clamp (by omega), stc_d, cA_cF]
    have k0 : KC S (cF S 14 1 (upd g b 1)) := kc_14 _ _ _
    obtain ⟨T, s1, s2, s3, s4⟩ := retr40 (F := F) (b := b) (k17 := C_2_retrace_L17 F 1 fuel) hF va vh H 0 F (cF S 14 1 (upd g b 1)) (by omega) (by omega) (TW_KC k0 t) (fun c hc => by
      rw [ca_cF, upd_d]
      show _ = nI (if c = b then 1 else 0)
      by_cases z : c = b
      · rw [if_pos z, if_pos z]; rfl
      · rw [if_neg z, if_neg z, r2 c hc]; rfl)
    obtain ⟨U, u1, u2, u3, u4, u5⟩ := retr73 (F := F) (b := b) (N := gN R L H b) (p := gP R L b H) (k17 := C_2_retrace_L17 F 1 fuel) (x := gX1 R L H b) (gP_6 va.1.1 hH) 8 0 F T (gY1 R L H b) (by omega) (by omega) s4 (by rw [s3]; exact h3) (by rw [s3]; exact h4) (by rw [s3]; exact h5)
    have s1' : C_2_retrace_L40 F 1 (C_2_retrace_L17 F 1 fuel) (nI b) F (cF S 14 1 (upd g b 1)) 0 = C_2_retrace_L73 F 1 (C_2_retrace_L17 F 1 fuel) (nI b) F T (nI 0) := s1
    rw [s1', u1, ← nI_succ]
    obtain ⟨V, v1, v2, v3, v4, v5⟩ := retr17 hF va vh k (b + 1) fuel U (by omega) (by omega) (TW_KC u2 (TW_KC s2 (TW_KC k0 t))) u3 u4 u5
    exact ⟨V, v1, ((k0.tr s2).tr u2).tr v2, v3, v4, v5⟩
theorem qc_retrace {F L C H : Nat} {S : CS} {R : Nat → Int32} (hF : 1000 ≤ F) (va : VA R L C) (vh : VH R H) (t : TW (ci S 1) (ca S 1) R) : ∃ T, C_2_retrace F S 1 = some ((), T) ∧ KC S T ∧ ci T 14 3 = nI (gN R L H 8) ∧ ci T 14 4 = gX1 R L H 8 ∧ ci T 14 5 = gY1 R L H 8 := by
  have kc : KC S (cI (cI (cI S 14 3 0) 14 4 0) 14 5 0) := ((kc_14i _ _ _).tr (kc_14i _ _ _)).tr (kc_14i _ _ _)
  obtain ⟨T, r1, r2, r3, r4, r5⟩ := retr17 (F := F) hF va vh 8 0 F (cI (cI (cI S 14 3 0) 14 4 0) 14 5 0) (by omega) (by omega) (TW_KC kc t) rfl rfl rfl
  exact ⟨T, r1, kc.tr r2, r3, r4, r5⟩
