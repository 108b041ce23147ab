/-- the log: an entry moved -/
theorem LgE_mv {r r' U V s s' R : Nat → Int32} {L C k m : Nat} (h : LgE r U s R L C k) (hr : ∀ j, j < 20 → r' (20 * m + j) = r (20 * k + j)) (hs : s' m = s k) (hU : ∀ j, j < 21 → V (21 * m + j) = U (21 * k + j)) : LgE r' V s' R L C m := by
  obtain ⟨⟨d, h1, h2, h3⟩, h4, h5, h6, h7, h8, h9, h10⟩ := h
  have e : snap V m R = snap U k R := by
    funext i; unfold snap
    by_cases z : 5 ≤ i ∧ i < 26
    · rw [if_pos z, if_pos z, hU (i - 5) (by omega)]
    · rw [if_neg z, if_neg z]
  refine ⟨⟨d, h1, ?_, ?_⟩, ?_, fun j hj => ⟨?_, ?_⟩, fun j hj => ?_, ?_, ?_, by rw [e]; exact h9, by rw [e]; exact h10⟩
  · have := hr 0 (by omega); rw [Nat.add_zero, Nat.add_zero] at this; rw [this]; exact h2
  · rw [hs, h3]
  · have := hU 0 (by omega); rw [Nat.add_zero, Nat.add_zero] at this; rw [hr 1 (by omega), h4, this]
  · have a := hr (2 + j) (by omega); have b := hU (13 + j) (by omega)
    rw [← Nat.add_assoc, ← Nat.add_assoc] at a b
    rw [a, b]; exact (h5 j hj).1
  · have a := hr (6 + j) (by omega); have b := hU (17 + j) (by omega)
    rw [← Nat.add_assoc, ← Nat.add_assoc] at a b
    rw [a, b]; exact (h5 j hj).2
  · have a := hr (10 + j) (by omega); have b := hU (3 + j) (by omega)
    rw [← Nat.add_assoc, ← Nat.add_assoc] at a b
    rw [a, b]; exact h6 j hj
  · rw [hU 1 (by omega), h7]
  · rw [hU 2 (by omega), h8]
/-- the first t of a row come from d on -/
def psh (U : Nat → Int32) (d t : Nat) : Nat → Int32 := fun i => if i < t then U (i + d) else U i
theorem psh_s (U : Nat → Int32) (d t : Nat) : upd (psh U d t) t (psh U d t (t + d)) = psh U d (t + 1) := by
  funext i; rw [upd_d]; unfold psh
  by_cases e : i = t
  · rw [if_pos e, if_neg (show ¬ t + d < t by omega), if_pos (show i < t + 1 by omega), e]
  · rw [if_neg e]
    by_cases k : i < t
    · rw [if_pos k, if_pos (by omega)]
    · rw [if_neg k, if_neg (by omega)]
theorem psh_0 (U : Nat → Int32) (d : Nat) : psh U d 0 = U := funext fun i => by unfold psh; rw [if_neg (by omega)]
/-- the place of the new entry, and what was there -/
def lgN (n : Nat) : Nat := if n = 16 then 15 else n
def shU (n : Nat) (U : Nat → Int32) : Nat → Int32 := if n = 16 then psh U 21 315 else U
def shS (n : Nat) (s : Nat → Int32) : Nat → Int32 := if n = 16 then psh s 1 15 else s
def shR (n : Nat) (r : Nat → Int32) : Nat → Int32 := if n = 16 then va_cpy r r 20 0 300 else r
def nwU (R : Nat → Int32) (n : Nat) (U : Nat → Int32) : Nat → Int32 := kpt R (lgN n) (shU n U) 21
def nwS (d n : Nat) (s : Nat → Int32) : Nat → Int32 := upd (shS n s) (lgN n) (nI d)
def nwR (N : Nat → Int32) (d n : Nat) (r : Nat → Int32) : Nat → Int32 := va_cpy (upd N 0 (nI d)) (shR n r) 0 (lgN n * 20) 20
/-- a note of the row -/
def NT (N R : Nat → Int32) : Prop := N 1 = R 5 ∧ (∀ j, j < 4 → N (2 + j) = R (18 + j) ∧ N (6 + j) = R (22 + j)) ∧ ∀ j, j < 10 → N (10 + j) = R (8 + j)
theorem lg_add {rows U sorts R N : Nat → Int32} {L C n d : Nat} (hn : n ≤ 16) (hd : d < 4) (h : ∀ k, k < n → LgE rows U sorts R L C k) (hN : NT N R) (va : VA R L C) (ho : hourOK R) : LG (nwR N d n rows) (nwU R n U) (nwS d n sorts) R (nI (lgN n + 1)) (nI (lgN n + 1)) L C := by
  have hm : lgN n ≤ 15 := by unfold lgN; split <;> omega
  refine ⟨lgN n + 1, by omega, rfl, rfl, fun k hk => ?_⟩
  have oldr : ∀ k, k < lgN n → ∀ j, j < 20 → nwR N d n rows (20 * k + j) = shR n rows (20 * k + j) := fun k hk j hj => pk_cpy_out (by omega)
  have oldU : ∀ k, k < lgN n → ∀ j, j < 21 → nwU R n U (21 * k + j) = shU n U (21 * k + j) := fun k hk j hj => by unfold nwU kpt; rw [if_neg (by omega)]
  have oldS : ∀ k, k < lgN n → nwS d n sorts k = shS n sorts k := fun k hk => pk_un (by omega)
  rcases Nat.lt_or_ge k (lgN n) with q | q
  · by_cases e : n = 16
    · have e15 : lgN n = 15 := by unfold lgN; rw [if_pos e]
      refine LgE_mv (h (k + 1) (by omega)) (fun j hj => ?_) ?_ (fun j hj => ?_)
      · rw [oldr k q j hj]; unfold shR; rw [if_pos e, pk_cpy_in (by omega) (by omega)]; congr 1; omega
      · rw [oldS k q]; unfold shS psh; rw [if_pos e, if_pos (by omega)]
      · rw [oldU k q j hj]; unfold shU psh; rw [if_pos e, if_pos (by omega)]; congr 1; omega
    · have e15 : lgN n = n := by unfold lgN; rw [if_neg e]
      refine LgE_mv (h k (by omega)) (fun j hj => ?_) ?_ (fun j hj => ?_)
      · rw [oldr k q j hj]; unfold shR; rw [if_neg e]
      · rw [oldS k q]; unfold shS; rw [if_neg e]
      · rw [oldU k q j hj]; unfold shU; rw [if_neg e]
  · obtain rfl : k = lgN n := by omega
    obtain ⟨n1, n2, n3⟩ := hN
    have er : ∀ j, j < 20 → nwR N d n rows (20 * lgN n + j) = upd N 0 (nI d) j := fun j hj => by
      unfold nwR; rw [pk_cpy_in (by omega) (by omega)]; congr 1; omega
    have eU : ∀ j, j < 21 → nwU R n U (21 * lgN n + j) = R (5 + j) := fun j hj => by
      unfold nwU kpt; rw [if_pos (by omega)]; congr 1; omega
    have sn : snap (nwU R n U) (lgN n) R = R := by
      funext i; unfold snap
      by_cases z : 5 ≤ i ∧ i < 26
      · rw [if_pos z, eU _ (by omega)]; congr 1; omega
      · rw [if_neg z]
    refine ⟨⟨d, hd, ?_, pk_us⟩, ?_, fun j hj => ⟨?_, ?_⟩, fun j hj => ?_, eU 1 (by omega), eU 2 (by omega), by rw [sn]; exact va, by rw [sn]; exact ho⟩
    · exact (er 0 (by omega)).trans pk_us
    · rw [er 1 (by omega), pk_un (by omega), n1]; exact (eU 0 (by omega)).symm
    · rw [Nat.add_assoc, er _ (by omega), pk_un (by omega), (n2 j hj).1, Nat.add_assoc, eU _ (by omega)]; congr 1; omega
    · rw [Nat.add_assoc, er _ (by omega), pk_un (by omega), (n2 j hj).2, Nat.add_assoc, eU _ (by omega)]; congr 1; omega
    · rw [Nat.add_assoc, er _ (by omega), pk_un (by omega), n3 j hj, Nat.add_assoc, eU _ (by omega)]; congr 1; omega
/-- the reference remembers -/
theorem qm_rem2 {F : Nat} {σ : MS} {d m : Nat} (hF : 1000 ≤ F) (hm : m < 16) (h8 : mi σ 8 = nI m) : M_remember_B77 F σ (nI d) = some ((), mI (mF (mF σ 6 (kpt (ma σ 3) m (ma σ 6) 21)) 7 (upd (ma σ 7) m (nI d))) 8 (nI (m + 1))) := by
  unfold M_remember_B77
  rw [h8, qm_keepAll (by omega) (by omega), bs]
  show chk (inb (mi σ 8) 16 = true) _ = _
  rw [h8, chk_in hm (by decide), stt_d]
  show stt (mI (mA (mF σ 6 _) 7 (mi σ 8).toNatClampNeg (nI d)) 8 (mi σ 8 + 1)) _ = _
  rw [h8, stt_d, nI_clamp (by omega), ← nI_succ]
  rfl
theorem qm_shL {F : Nat} {σ : MS} {d : Nat} : ∀ (k t fuel : Nat), t + k = 15 → k < fuel → M_remember_L41 F (nI d) fuel (mF σ 7 (psh (ma σ 7) 1 t)) (nI t) = M_remember_B77 F (mI (mF σ 7 (psh (ma σ 7) 1 15)) 8 (mi σ 8 - 1)) (nI d)
  | 0, t, fuel + 1, e, _ => by
    obtain rfl : t = 15 := by omega
    rw [M_remember_L41, if_pos (by decide)]; rfl
  | k + 1, t, fuel + 1, e, hf => by
    rw [M_remember_L41, if_neg (show ¬ (15 : Int32) ≤ nI t from nI_ge (b := 15) (by omega) (by decide)), ← nI_succ, chk_in (by omega) (by decide), chk_in (by omega) (by decide), nI_clamp (by omega), nI_clamp (by omega), stt_d, mA_F, mF_mF, ma_F, psh_s]
    exact qm_shL k (t + 1) fuel (by omega) (by omega)
theorem qm_shU {F : Nat} {σ : MS} {d : Nat} : ∀ (k t fuel : Nat), t + k = 315 → k < fuel → M_remember_L11 F (nI d) fuel (mF σ 6 (psh (ma σ 6) 21 t)) (nI t) = M_remember_L41 F (nI d) F (mF σ 6 (psh (ma σ 6) 21 315)) 0
  | 0, t, fuel + 1, e, _ => by
    obtain rfl : t = 315 := by omega
    rw [M_remember_L11, if_pos (by decide)]
  | k + 1, t, fuel + 1, e, hf => by
    rw [M_remember_L11, if_neg (show ¬ (315 : Int32) ≤ nI t from nI_ge (b := 315) (by omega) (by decide)), show nI t + (21 : Int32) = nI (t + 21) from nI_add t 21, chk_in (by omega) (by decide), chk_in (by omega) (by decide), nI_clamp (by omega), nI_clamp (by omega), stt_d, mA_F, mF_mF, ma_F, psh_s, ← nI_succ]
    exact qm_shU k (t + 1) fuel (by omega) (by omega)
theorem qm_remember {F : Nat} {σ : MS} {d n : Nat} (hF : 1000 ≤ F) (hn : n ≤ 16) (h8 : mi σ 8 = nI n) : M_remember F σ (nI d) = some ((), mI (mF (mF σ 6 (nwU (ma σ 3) n (ma σ 6))) 7 (nwS d n (ma σ 7))) 8 (nI (lgN n + 1))) := by
  unfold M_remember nwU nwS lgN shU shS
  by_cases e : n = 16
  · rw [if_pos (by rw [h8, e]; rfl), if_pos e, if_pos e, if_pos e]
    have a1 := qm_shU (F := F) (σ := σ) (d := d) 315 0 F (by omega) (by omega)
    rw [psh_0, mF_self] at a1
    have a2 := qm_shL (F := F) (σ := mF σ 6 (psh (ma σ 6) 21 315)) (d := d) 15 0 F (by omega) (by omega)
    rw [psh_0, mF_self] at a2
    rw [show (0 : Int32) = nI 0 from rfl, a1, show (0 : Int32) = nI 0 from rfl, a2]
    have h8' : mi (mI (mF (mF σ 6 (psh (ma σ 6) 21 315)) 7 (psh (ma (mF σ 6 (psh (ma σ 6) 21 315)) 7) 1 15)) 8 (mi (mF σ 6 (psh (ma σ 6) 21 315)) 8 - 1)) 8 = nI 15 := by
      show mi σ 8 - 1 = nI 15
      rw [h8, e]; rfl
    rw [qm_rem2 hF (by decide) h8']
    refine congrArg some (congrArg (Prod.mk ()) ?_)
    refine Prod.ext ?_ (Prod.ext rfl (Prod.ext ?_ rfl))
    · funext k
      show upd (upd σ.1 8 _) 8 _ k = upd σ.1 8 _ k
      simp only [upd_d]; split <;> rfl
    · funext k
      show va_up (va_up (va_up (va_up σ.2.2.1 6 _) 7 _) 6 _) 7 _ k = va_up (va_up σ.2.2.1 6 _) 7 _ k
      by_cases z : k = 7
      · subst z; rfl
      · by_cases y : k = 6
        · subst y; rfl
        · simp only [up_d, if_neg z, if_neg y]
  · rw [if_neg (show ¬ mi σ 8 = (16 : Int32) from fun z => e ((nI_eq (a := n) (b := 16) (by omega) (by decide)).mp (h8.symm.trans z))), if_neg e, if_neg e, if_neg e]
    exact qm_rem2 hF (by omega) h8
/-- the class notes and keeps -/
theorem cp_0 : (0 : Int32).toNatClampNeg = 0 := by decide
theorem cp_2 : (2 : Int32).toNatClampNeg = 2 := by decide
theorem cp_4 : (4 : Int32).toNatClampNeg = 4 := by decide
theorem cp_6 : (6 : Int32).toNatClampNeg = 6 := by decide
theorem cp_10 : (10 : Int32).toNatClampNeg = 10 := by decide
theorem cp_20 : (20 : Int32).toNatClampNeg = 20 := by decide
theorem cp_300 : (300 : Int32).toNatClampNeg = 300 := by decide
theorem cp_320 : (320 : Int32).toNatClampNeg = 320 := by decide
theorem qc_note {S : CS} {R : Nat → Int32} (t : TW (ci S 1) (ca S 1) R) : ∃ N, C_1_note S 7 1 = some ((), cF S 7 1 N) ∧ NT N R := by
  obtain ⟨-, tl, tc, -, tt⟩ := t
  have e : C_1_note S 7 1 = some ((), cF S 7 1 (va_cpy (ca S 1 4) (va_cpy (ca S 1 8) (va_cpy (ca S 1 7) (upd (ca S 7 1) 1 (ca S 1 12 0)) 0 2 4) 0 6 4) 0 10 10)) := by
    unfold C_1_note
    rw [stc_d, chk_t (by decide), stc_d, chk_t (by decide), stc_d, chk_t (by decide), stc_d]
    have far : ∀ (f : Nat → Int32) (k : Nat), ca (cF S 7 1 f) 1 k = ca S 1 k := fun f k => ca_cFn _ _ _ _ _ _ (Or.inl (by decide))
    rw [show cA S 7 1 1 (ca S 1 12 0) = cF S 7 1 (upd (ca S 7 1) 1 (ca S 1 12 0)) from rfl]
    simp only [far, ca_cF, cF_cF, cp_0, cp_2, cp_4, cp_6, cp_10]
  refine ⟨_, e, ?_, fun j hj => ⟨?_, ?_⟩, fun j hj => ?_⟩
  · rw [pk_cpy_out (by omega), pk_cpy_out (by omega), pk_cpy_out (by omega), pk_us, tt 0 (by omega)]
  · rw [pk_cpy_out (by omega), pk_cpy_out (by omega), pk_cpy_in (by omega) (by omega), show 0 + (2 + j - 2) = j by omega, (tc j hj).2.1]
  · rw [pk_cpy_out (by omega), pk_cpy_in (by omega) (by omega), show 0 + (6 + j - 6) = j by omega, (tc j hj).2.2]
  · rw [pk_cpy_in (by omega) (by omega), show 0 + (10 + j - 10) = j by omega, (tl j hj).2.2.2.2]
theorem cpok_in {a b c n1 n2 : Nat} (h1 : a + c ≤ n1) (h2 : b + c ≤ n2) (h3 : n1 < 2 ^ 31) (h4 : n2 < 2 ^ 31) : cpok (nI a) (nI b) (nI c) n1 n2 = true := by
  unfold cpok
  rw [nI_toInt (by omega), nI_toInt (by omega), nI_toInt (by omega)]
  simp only [Bool.and_eq_true, decide_eq_true_eq]
  omega
theorem qc_keep2 {S : CS} {d m : Nat} (hm : m < 16) (h2 : ci S 7 2 = nI m) : C_1_keepNote_B32 7 S (nI d) = some ((), cI (cF (cF S 7 1 (upd (ca S 7 1) 0 (nI d))) 7 0 (va_cpy (upd (ca S 7 1) 0 (nI d)) (ca S 7 0) 0 (m * 20) 20)) 7 2 (nI (m + 1))) := by
  unfold C_1_keepNote_B32
  rw [stc_d, show cA S 7 1 0 (nI d) = cF S 7 1 (upd (ca S 7 1) 0 (nI d)) from rfl]
  have e2 : ∀ (k : Nat) (f : Nat → Int32) (T : CS), ci (cF T 7 k f) 7 2 = ci T 7 2 := fun _ _ _ => rfl
  have em : nI m * (20 : Int32) = nI (m * 20) := pk_mul m 20
  rw [e2, h2, em, chk_t (show cpok (0 : Int32) (nI (m * 20)) (20 : Int32) 20 320 = true from cpok_in (a := 0) (b := m * 20) (c := 20) (by omega) (by omega) (by omega) (by omega)), stc_d, e2, e2, h2, stc_d, ca_cF, ca_cFn _ _ _ _ _ _ (Or.inr (by decide)), nI_clamp (by omega), cp_0, cp_20, ← nI_succ]
theorem qc_keepNote {S : CS} {d n : Nat} (hn : n ≤ 16) (h2 : ci S 7 2 = nI n) : ∃ T, C_1_keepNote S 7 (nI d) = some ((), T) ∧ ca T 7 0 = nwR (ca S 7 1) d n (ca S 7 0) ∧ ci T 7 2 = nI (lgN n + 1) ∧ (∀ o k, o ≠ 7 ∨ k ≠ 2 → ci T o k = ci S o k) ∧ cb T = cb S ∧ cq T = cq S ∧ ∀ o k, o ≠ 7 → ca T o k = ca S o k := by
  unfold C_1_keepNote nwR lgN shR
  have frame : ∀ (S' : CS) (f g : Nat → Int32) (v : Int32), (∀ o k, o ≠ 7 ∨ k ≠ 2 → ci S' o k = ci S o k) → cb S' = cb S → cq S' = cq S → (∀ o k, o ≠ 7 → ca S' o k = ca S o k) → (∀ o k, o ≠ 7 ∨ k ≠ 2 → ci (cI (cF (cF S' 7 1 f) 7 0 g) 7 2 v) o k = ci S o k) ∧ cb (cI (cF (cF S' 7 1 f) 7 0 g) 7 2 v) = cb S ∧ cq (cI (cF (cF S' 7 1 f) 7 0 g) 7 2 v) = cq S ∧ ∀ o k, o ≠ 7 → ca (cI (cF (cF S' 7 1 f) 7 0 g) 7 2 v) o k = ca S o k := by
    intro S' f g v h1 h2 h3 h4
    refine ⟨fun o k z => ?_, h2, h3, fun o k z => ?_⟩
    · show va_up S'.1 7 (upd (S'.1 7) 2 v) o k = _
      rw [up_d, ← h1 o k z]
      by_cases y : o = 7
      · rw [if_pos y, pk_un (by omega), y]
      · rw [if_neg y]
    · show va_up (va_up S'.2.1 7 _) 7 _ o k = _
      rw [up_d, if_neg z, up_d, if_neg z]; exact h4 o k z
  by_cases e : n = 16
  · rw [if_neg (by rw [h2, e]; decide), if_pos e, if_pos e, chk_t (by decide), stc_d, stc_d, cp_20, cp_0, cp_300]
    have e2 : ci (cI (cF S 7 0 (va_cpy (ca S 7 0) (ca S 7 0) 20 0 300)) 7 2 15) 7 2 = nI 15 := rfl
    rw [qc_keep2 (by decide) e2]
    refine ⟨_, rfl, rfl, rfl, frame _ _ _ _ (fun o k z => ?_) rfl rfl (fun o k z => ?_)⟩
    · show va_up S.1 7 (upd (S.1 7) 2 15) o k = _
      rw [up_d]
      by_cases y : o = 7
      · rw [if_pos y, pk_un (by omega), y]
      · rw [if_neg y]
    · exact ca_cFn _ _ _ _ _ _ (Or.inl z)
  · rw [if_pos (by rw [h2]; exact nI_lt (b := 16) (by omega) (by decide)), if_neg e, if_neg e, qc_keep2 (by omega) h2]
    exact ⟨_, rfl, rfl, rfl, frame S _ _ _ (fun _ _ _ => rfl) rfl rfl (fun _ _ _ => rfl)⟩
