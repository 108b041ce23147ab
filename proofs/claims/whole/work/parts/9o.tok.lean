/-- tokens of a tape -/
def sp (f : Nat → Bool) : Nat → Nat → Nat
  | 0, p => p
  | r + 1, p => if f p = true then sp f r (p + 1) else p
theorem sp_ge (f : Nat → Bool) : ∀ r p, p ≤ sp f r p
  | 0, p => Nat.le_refl _
  | r + 1, p => by
    show p ≤ if f p = true then sp f r (p + 1) else p
    split
    · have := sp_ge f r (p + 1); omega
    · exact Nat.le_refl _
theorem sp_le (f : Nat → Bool) : ∀ r p, sp f r p ≤ p + r
  | 0, p => Nat.le_refl _
  | r + 1, p => by
    show (if f p = true then sp f r (p + 1) else p) ≤ p + (r + 1)
    split
    · have := sp_le f r (p + 1); omega
    · omega
def isL (b : Nat) : Bool := decide (97 ≤ b ∧ b ≤ 122)
def isD (b : Nat) : Bool := decide (48 ≤ b ∧ b ≤ 57)
def skP (t : Nat → Nat) (n p : Nat) : Nat := sp (fun i => decide (t i = 32)) (n - p) p
def kdT (t : Nat → Nat) (n s : Nat) : Nat := if n ≤ s then 0 else if isL (t s) = true then 1 else if isD (t s) = true then 2 else 3
def enT (t : Nat → Nat) (n s : Nat) : Nat := if n ≤ s then s else if isL (t s) = true then sp (fun i => isL (t i)) (n - s) s else if isD (t s) = true then sp (fun i => isD (t i)) (n - s) s else s + 1
/-- where the token behind begins -/
def nxT (t : Nat → Nat) (n s : Nat) : Nat := skP t n (enT t n s)
/-- values -/
def hvT (t : Nat → Nat) (s : Nat) : Nat → Nat
  | 0 => 0
  | c + 1 => 32 * hvT t s c + (t (s + c) - 96)
def wvT (t : Nat → Nat) (s c : Nat) : Int64 := if c ≤ 10 then lN (hvT t s c) else -1
def dvT (t : Nat → Nat) (s : Nat) : Nat → Nat
  | 0 => 0
  | c + 1 => if dvT t s c ≤ 1000000 then dvT t s c * 10 + (t (s + c) - 48) else dvT t s c
def dcT (t : Nat → Nat) (s : Nat) : Nat → Nat
  | 0 => 0
  | c + 1 => if 1001 < dcT t s c * 10 + (t (s + c) - 48) then 1001 else dcT t s c * 10 + (t (s + c) - 48)
def vlT (t : Nat → Nat) (n s : Nat) : Int64 := if n ≤ s then 0 else if isL (t s) = true then wvT t s (enT t n s - s) else if isD (t s) = true then lN (dvT t s (enT t n s - s)) else lN (t s)
theorem dv_dc (t : Nat → Nat) (s : Nat) : ∀ c, (dvT t s c ≤ 1000 ∧ dcT t s c = dvT t s c) ∨ (1000 < dvT t s c ∧ dcT t s c = 1001)
  | 0 => Or.inl ⟨Nat.zero_le _, rfl⟩
  | c + 1 => by
    have e1 : dvT t s (c + 1) = if dvT t s c ≤ 1000000 then dvT t s c * 10 + (t (s + c) - 48) else dvT t s c := rfl
    have e2 : dcT t s (c + 1) = if 1001 < dcT t s c * 10 + (t (s + c) - 48) then 1001 else dcT t s c * 10 + (t (s + c) - 48) := rfl
    rw [e1, e2]
    rcases dv_dc t s c with ⟨a, b⟩ | ⟨a, b⟩
    · rw [b, if_pos (show dvT t s c ≤ 1000000 by omega)]
      split <;> omega
    · rw [b, if_pos (show 1001 < 1001 * 10 + (t (s + c) - 48) by omega)]
      split <;> omega
theorem dv_b (t : Nat → Nat) (s : Nat) (h : ∀ i, t i < 256) : ∀ c, dvT t s c ≤ 10000300
  | 0 => Nat.zero_le _
  | c + 1 => by
    have := dv_b t s h c
    have := h (s + c)
    show (if dvT t s c ≤ 1000000 then dvT t s c * 10 + (t (s + c) - 48) else dvT t s c) ≤ _
    split <;> omega
/-- the class's reader -/
def cJ (S : CS) (I : Nat → Int32) : CS := (va_up S.1 9 I, S.2)
theorem cJ_I (S : CS) (I : Nat → Int32) (k : Nat) (v : Int32) : cI (cJ S I) 9 k v = cJ S (upd I k v) := by
  show (va_up (va_up S.1 9 I) 9 (upd (va_up S.1 9 I 9) k v), S.2) = _
  rw [up_up, va_up_self]; rfl
theorem cJ_self (S : CS) : cJ S (ci S 9) = S := by
  show (va_up S.1 9 (S.1 9), S.2) = S
  rw [up_eq]
theorem ci_J (S : CS) (I : Nat → Int32) : ci (cJ S I) 9 = I := by
  show va_up S.1 9 I 9 = I
  rw [up_d, if_pos rfl]
theorem sp_s (f : Nat → Bool) (r p : Nat) : sp f (r + 1) p = if f p = true then sp f r (p + 1) else p := rfl
def TPc (S : CS) (t : Nat → Nat) (n : Nat) : Prop := n ≤ 400 ∧ ci S 10 1 = nI n ∧ ∀ j, j < 400 → ca S 10 0 j = nI (t j)
theorem qc_byte {S : CS} {I : Nat → Int32} {t : Nat → Nat} {n p : Nat} (h : TPc S t n) (hp : p < n) : C_3_byteAt (cJ S I) (nI p) = some (nI (t p)) := by
  have hn := h.1
  unfold C_3_byteAt
  rw [if_neg (show ¬ nI p < 0 from nI_nlt (b := 0) (Nat.zero_le _) (by omega)), show ci (cJ S I) 10 1 = nI n from h.2.1, if_neg (nI_ge hp (by omega)), if_neg (show ¬ (400 : Int32) ≤ nI p from nI_ge (b := 400) (by omega) (by decide)), chk_in (show p < 400 by omega) (by decide), nI_clamp (by omega), show ca (cJ S I) 10 0 p = nI (t p) from h.2.2 p (by omega)]
theorem qc_isL {b : Nat} (hb : b < 256) : C_3_isLetter (nI b) = some (if isL b then 1 else 0) := by
  unfold C_3_isLetter isL
  by_cases z : b < 97
  · rw [if_pos (show nI b < 97 from nI_lt (b := 97) z (by decide)), decide_eq_false (by omega)]; rfl
  · rw [if_neg (show ¬ nI b < 97 from nI_nlt (b := 97) (by omega) (by omega))]
    by_cases y : 122 < b
    · rw [if_pos (show (122 : Int32) < nI b from nI_lt (a := 122) y (by omega)), decide_eq_false (by omega)]; rfl
    · rw [if_neg (show ¬ (122 : Int32) < nI b from nI_nlt (a := 122) (by omega) (by decide)), decide_eq_true (by omega)]; rfl
theorem qc_isD {b : Nat} (hb : b < 256) : C_3_isDigit (nI b) = some (if isD b then 1 else 0) := by
  unfold C_3_isDigit isD
  by_cases z : b < 48
  · rw [if_pos (show nI b < 48 from nI_lt (b := 48) z (by decide)), decide_eq_false (by omega)]; rfl
  · rw [if_neg (show ¬ nI b < 48 from nI_nlt (b := 48) (by omega) (by omega))]
    by_cases y : 57 < b
    · rw [if_pos (show (57 : Int32) < nI b from nI_lt (a := 57) y (by omega)), decide_eq_false (by omega)]; rfl
    · rw [if_neg (show ¬ (57 : Int32) < nI b from nI_nlt (a := 57) (by omega) (by decide)), decide_eq_true (by omega)]; rfl
theorem qm_isL {b : Nat} (hb : b < 256) : M_isSmall (nI b) = some (if isL b then 1 else 0) := qc_isL hb
theorem qm_isD {b : Nat} (hb : b < 256) : M_isDigit (nI b) = some (if isD b then 1 else 0) := qc_isD hb
theorem advW {F n : Nat} {S : CS} {t : Nat → Nat} (h : TPc S t n) (ht : ∀ i, t i < 256) : ∀ (r p fuel : Nat) (I : Nat → Int32), p + r = n → r < fuel → I 6 = nI p → ∃ I', C_3_advance_L89 F fuel (cJ S I) = some ((), cJ S I') ∧ I' 6 = nI (sp (fun i => isL (t i)) r p) ∧ ∀ k, k ≠ 6 → I' k = I k
  | 0, p, fuel + 1, I, e, _, h6 => by
    obtain rfl : p = n := by omega
    have hn := h.1
    rw [C_3_advance_L89, show ci (cJ S I) 10 1 = nI p from h.2.1, ci_J, h6, if_pos (nI_le (Nat.le_refl _) (by omega))]
    exact ⟨I, rfl, h6, fun _ _ => rfl⟩
  | r + 1, p, fuel + 1, I, e, hf, h6 => by
    have hn := h.1
    rw [C_3_advance_L89, show ci (cJ S I) 10 1 = nI n from h.2.1, ci_J, h6, if_neg (nI_ge (by omega) (by omega)), qc_byte h (by omega), bs, qc_isL (ht p), bs, stc_d, cJ_I, ← nI_succ]
    rw [sp_s]
    cases q : isL (t p) with
    | false =>
      rw [if_pos (by decide), if_neg (by decide)]
      exact ⟨I, rfl, h6, fun _ _ => rfl⟩
    | true =>
      rw [if_pos rfl, if_neg (by decide), if_pos rfl]
      obtain ⟨I', a1, a2, a3⟩ := advW (F := F) h ht r (p + 1) fuel (upd I 6 (nI (p + 1))) (by omega) (by omega) pk_us
      exact ⟨I', a1, a2, fun k hk => (a3 k hk).trans (pk_un hk)⟩
theorem advD {F n s : Nat} {S : CS} {t : Nat → Nat} (h : TPc S t n) (ht : ∀ i, t i < 256) : ∀ (r p fuel : Nat) (I : Nat → Int32), p + r = n → s ≤ p → r < fuel → I 6 = nI p → I 7 = nI (dcT t s (p - s)) → ∃ I', C_3_advance_L154 F fuel (cJ S I) = some ((), cJ S I') ∧ I' 6 = nI (sp (fun i => isD (t i)) r p) ∧ I' 7 = nI (dcT t s (sp (fun i => isD (t i)) r p - s)) ∧ ∀ k, k ≠ 6 → k ≠ 7 → I' k = I k
  | 0, p, fuel + 1, I, e, hs, _, h6, h7 => by
    obtain rfl : p = n := by omega
    have hn := h.1
    rw [C_3_advance_L154, show ci (cJ S I) 10 1 = nI p from h.2.1, ci_J, h6, if_pos (nI_le (Nat.le_refl _) (by omega))]
    exact ⟨I, rfl, h6, h7, fun _ _ _ => rfl⟩
  | r + 1, p, fuel + 1, I, e, hs, hf, h6, h7 => by
    have hn := h.1
    rw [C_3_advance_L154, show ci (cJ S I) 10 1 = nI n from h.2.1, ci_J, h6, if_neg (nI_ge (by omega) (by omega)), qc_byte h (by omega), bs, qc_isD (ht p), bs, bs, stc_d, stc_d, cJ_I, ci_J, cJ_I, pk_un (by decide), h6, h7, ← nI_succ]
    rw [sp_s]
    cases q : isD (t p) with
    | false =>
      rw [if_pos (by decide), if_neg (by decide)]
      exact ⟨I, rfl, h6, h7, fun _ _ _ => rfl⟩
    | true =>
      have d := of_decide_eq_true q
      have dc : dcT t s (p - s) ≤ 1001 := by
        rcases dv_dc t s (p - s) with ⟨a, b⟩ | ⟨a, b⟩ <;> omega
      have e7 : (if (1001 : Int32) < nI (dcT t s (p - s)) * 10 + nI (t p) - 48 then (1001 : Int32) else nI (dcT t s (p - s)) * 10 + nI (t p) - 48) = nI (dcT t s (p + 1 - s)) := by
        have e8 : nI (dcT t s (p - s)) * 10 + nI (t p) - 48 = nI (dcT t s (p - s) * 10 + (t p - 48)) := by
          have a1 : nI (dcT t s (p - s)) * 10 = nI (dcT t s (p - s) * 10) := (Int32.ofNat_mul _ _).symm
          have a2 : nI (t p) = nI (t p - 48) + 48 := by
            show nI (t p) = nI (t p - 48) + nI 48
            rw [nI_add]; congr 1; omega
          rw [a1, a2, ← Int32.add_assoc, Int32.add_sub_cancel, nI_add]
        rw [e8, show p + 1 - s = (p - s) + 1 by omega]
        show _ = nI (if 1001 < dcT t s (p - s) * 10 + (t (s + (p - s)) - 48) then 1001 else dcT t s (p - s) * 10 + (t (s + (p - s)) - 48))
        rw [show s + (p - s) = p by omega]
        by_cases w : 1001 < dcT t s (p - s) * 10 + (t p - 48)
        · rw [if_pos w, if_pos (show (1001 : Int32) < _ from nI_lt (a := 1001) w (by omega))]; rfl
        · rw [if_neg w, if_neg (show ¬ (1001 : Int32) < _ from nI_nlt (a := 1001) (by omega) (by decide))]
      rw [if_pos rfl, if_neg (by decide), if_pos rfl, e7]
      obtain ⟨I', a1, a2, a3, a4⟩ := advD (F := F) (s := s) h ht r (p + 1) fuel (upd (upd I 7 (nI (dcT t s (p + 1 - s)))) 6 (nI (p + 1))) (by omega) (by omega) (by omega) pk_us (by rw [pk_un (by decide), pk_us])
      exact ⟨I', a1, a2, a3, fun k hk hk' => (a4 k hk hk').trans (by rw [pk_un hk, pk_un hk'])⟩
/-- the class's token at hand begins at s -/
def TKc (t : Nat → Nat) (n s : Nat) (I : Nat → Int32) : Prop := I 4 = nI (kdT t n s) ∧ I 5 = nI s ∧ I 6 = nI (enT t n s) ∧ (kdT t n s = 2 → I 7 = nI (dcT t s (enT t n s - s)))
theorem adv40 {F n : Nat} {S : CS} {t : Nat → Nat} (hF : 1000 ≤ F) (h : TPc S t n) (ht : ∀ i, t i < 256) {s : Nat} {I : Nat → Int32} (hs : s ≤ n) (h6 : I 6 = nI s) : ∃ I', C_3_advance_B40 F (cJ S I) = some ((), cJ S I') ∧ TKc t n s I' ∧ ∀ k, k ≠ 4 → k ≠ 5 → k ≠ 6 → k ≠ 7 → I' k = I k := by
  have hn := h.1
  unfold C_3_advance_B40
  rw [stc_d, ci_J, h6, cJ_I, ci_J, pk_un (show 6 ≠ 5 by decide), h6, show ci (cJ S (upd I 5 (nI s))) 10 1 = nI n from h.2.1]
  unfold TKc kdT enT
  by_cases z : n ≤ s
  · rw [if_neg (nI_nlt z (by omega)), stc_d, cJ_I, if_pos z, if_pos z]
    exact ⟨_, rfl, ⟨pk_us, by rw [pk_un (by decide), pk_us], by rw [pk_un (by decide), pk_un (by decide)]; exact h6, fun q => absurd q (by decide)⟩, fun k k4 k5 _ _ => by rw [pk_un k4, pk_un k5]⟩
  rw [if_pos (nI_lt (by omega) (by omega)), qc_byte h (by omega), bs, qc_isL (ht s), bs, bs, qc_isD (ht s), bs, if_neg z, if_neg z]
  cases q : isL (t s) with
  | true =>
    rw [if_pos rfl, if_neg (by decide), if_pos rfl, if_pos rfl, stc_d, cJ_I]
    obtain ⟨I', a1, a2, a3⟩ := advW (F := F) h ht (n - s) s F (upd (upd I 5 (nI s)) 4 1) (by omega) (by omega) (by rw [pk_un (by decide), pk_un (by decide)]; exact h6)
    exact ⟨I', a1, ⟨(a3 4 (by decide)).trans pk_us, (a3 5 (by decide)).trans (by rw [pk_un (by decide), pk_us]), a2, fun q => absurd q (by decide)⟩, fun k k4 k5 k6 _ => (a3 k k6).trans (by rw [pk_un k4, pk_un k5])⟩
  | false =>
    rw [if_pos (show (if (false = true) then (1 : Int32) else 0) = 0 by decide), if_neg (show ¬ (false = true) by decide), if_neg (show ¬ (false = true) by decide)]
    cases w : isD (t s) with
    | true =>
      rw [if_pos rfl, if_neg (by decide), if_pos rfl, if_pos rfl, stc_d, stc_d, cJ_I, cJ_I]
      obtain ⟨I', a1, a2, a3, a4⟩ := advD (F := F) (s := s) h ht (n - s) s F (upd (upd (upd I 5 (nI s)) 4 2) 7 0) (by omega) (Nat.le_refl _) (by omega) (by rw [pk_un (by decide), pk_un (by decide), pk_un (by decide)]; exact h6) (by rw [Nat.sub_self]; exact pk_us)
      exact ⟨I', a1, ⟨(a4 4 (by decide) (by decide)).trans (by rw [pk_un (by decide), pk_us]; rfl), (a4 5 (by decide) (by decide)).trans (by rw [pk_un (by decide), pk_un (by decide), pk_us]), a2, fun _ => a3⟩, fun k k4 k5 k6 k7 => (a4 k k6 k7).trans (by rw [pk_un k7, pk_un k4, pk_un k5])⟩
    | false =>
      rw [if_pos (show (if (false = true) then (1 : Int32) else 0) = 0 by decide), if_neg (show ¬ (false = true) by decide), if_neg (show ¬ (false = true) by decide), stc_d, stc_d, cJ_I, ci_J, cJ_I, pk_un (show 6 ≠ 4 by decide), pk_un (show 6 ≠ 5 by decide), h6, ← nI_succ]
      exact ⟨_, rfl, ⟨by rw [pk_un (by decide), pk_us]; rfl, by rw [pk_un (by decide), pk_un (by decide), pk_us], pk_us, fun q => absurd q (by decide)⟩, fun k k4 k5 k6 _ => by rw [pk_un k6, pk_un k4, pk_un k5]⟩
theorem advS {F n : Nat} {S : CS} {t : Nat → Nat} (hF : 1000 ≤ F) (h : TPc S t n) (ht : ∀ i, t i < 256) : ∀ (r p fuel : Nat) (I : Nat → Int32), p + r = n → r < fuel → I 6 = nI p → ∃ I', C_3_advance_L0 F fuel (cJ S I) = some ((), cJ S I') ∧ TKc t n (sp (fun i => decide (t i = 32)) r p) I' ∧ ∀ k, k ≠ 4 → k ≠ 5 → k ≠ 6 → k ≠ 7 → I' k = I k
  | 0, p, fuel + 1, I, e, _, h6 => by
    obtain rfl : p = n := by omega
    have hn := h.1
    rw [C_3_advance_L0, show ci (cJ S I) 10 1 = nI p from h.2.1, ci_J, h6, if_pos (nI_le (Nat.le_refl _) (by omega))]
    exact adv40 hF h ht (Nat.le_refl _) h6
  | r + 1, p, fuel + 1, I, e, hf, h6 => by
    have hn := h.1
    have hb := ht p
    rw [C_3_advance_L0, show ci (cJ S I) 10 1 = nI n from h.2.1, ci_J, h6, if_neg (nI_ge (by omega) (by omega)), qc_byte h (by omega), bs, stc_d, cJ_I, ← nI_succ, sp_s]
    by_cases z : t p = 32
    · rw [if_pos (by rw [z]; rfl), if_pos (decide_eq_true z)]
      obtain ⟨I', a1, a2, a3⟩ := advS (F := F) hF h ht r (p + 1) fuel (upd I 6 (nI (p + 1))) (by omega) (by omega) pk_us
      exact ⟨I', a1, a2, fun k k4 k5 k6 k7 => (a3 k k4 k5 k6 k7).trans (pk_un k6)⟩
    · rw [if_neg (show ¬ nI (t p) = 32 from fun q => z ((nI_eq (b := 32) (by omega) (by decide)).mp q)), if_neg (by rw [decide_eq_false z]; decide)]
      exact adv40 hF h ht (by omega) h6
theorem qc_adv {F n p : Nat} {S : CS} {t : Nat → Nat} {I : Nat → Int32} (hF : 1000 ≤ F) (h : TPc S t n) (ht : ∀ i, t i < 256) (hp : p ≤ n) (h6 : I 6 = nI p) : ∃ I', C_3_advance F (cJ S I) = some ((), cJ S I') ∧ TKc t n (skP t n p) I' ∧ ∀ k, k ≠ 4 → k ≠ 5 → k ≠ 6 → k ≠ 7 → I' k = I k := by
  have hn := h.1
  exact advS hF h ht (n - p) p F I (by omega) (by omega) h6
