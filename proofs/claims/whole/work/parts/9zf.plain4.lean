theorem plainL {nw F : Nat} {ol : Bool} {S : CS} {Ic : Nat → Int32} {σ : MS} {Im : Nat → Int32} {t : Nat → Nat} {n so a b br pa : Nat} {rt rs : CS → Option (Int32 × CS)} {P : List (Nat × Nat)} {A f g : Nat → Int32} (hF : 1000 ≤ F) (ht : ∀ i, t i < 256) (hbr : br ≤ 8) (IH : br < 8 → TestL nw ol 1 F S Ic σ Im t n (br + 1) rt) (hS : SumL nw ol 5 F 1 S Ic σ Im t n br rs) (ha : a + 1 ≤ so) (hpa : pa ≤ 50) (hP : ∀ e l, P = e :: l → bd e.1 < 3) (hi : inn P ≠ 32) : ∀ (fuel k s N : Nat) (T : CS) (τ : MS), 402 - s ≤ fuel → RC S Ic t n s a br pa none A T → RM σ Im t n s b (nts k ++ P) br pa none f g τ → so + k ≤ s → b + (k + P.length) + 2 ≤ s → 2 * (401 - s) + 3 ≤ N → okT nw ol 3 F S Ic σ Im t n so a b br pa P A f g (C_3_plain_L4 rt rs F fuel T (if k % 2 = 0 then 0 else 1) (nI k)) (M_readExpression_L20 F 1 N τ 0) ∨ okF S Ic σ Im t n (C_3_plain_L4 rt rs F fuel T (if k % 2 = 0 then 0 else 1) (nI k)) (M_readExpression_L20 F 1 N τ 0)
  | 0, k, s, N, T, τ, hf, hc, hm, hso, hb2, hN => by
    obtain ⟨-, -, -, -, -, r6, r7, r8⟩ := rc_ci hc
    omega
  | fuel + 1, k, s, N, T, τ, hf, hc, hm, hso, hb2, hN => by
    obtain ⟨-, -, -, -, -, r6, r7, r8⟩ := rc_ci hc
    have last : isW t n s (wdH 7 0) = false → okT nw ol 3 F S Ic σ Im t n so a b br pa P A f g (C_3_plain_B36 rt rs F T (if k % 2 = 0 then 0 else 1)) (M_readExpression_L20 F 1 N τ 0) ∨ okF S Ic σ Im t n (C_3_plain_B36 rt rs F T (if k % 2 = 0 then 0 else 1)) (M_readExpression_L20 F 1 N τ 0) := fun z1 => by
      cases z2 : isS t n s 40 with
      | true => exact plainP hF ht hbr IH hc hm hso ha hb2 hpa hN z1 z2
      | false => exact plainC hF ht hS hc hm hso ha hb2 hpa hN hP hi z1 z2
    rw [C_3_plain_L4]
    by_cases z400 : 400 ≤ k
    · rw [if_pos (show (400 : Int32) ≤ nI k from nI_le (a := 400) z400 (by omega))]
      exact last (isW_end (by omega))
    rw [if_neg (show ¬ (400 : Int32) ≤ nI k from nI_ge (b := 400) (by omega) (by decide))]
    rcases rc_kw (i := 7) hF ht (by decide) rfl hc with ⟨z1, T1, e1, e2⟩ | ⟨z1, e1⟩
    · have nx := nx_gt (t := t) (isW_n z1)
      obtain ⟨N, rfl⟩ : ∃ x, N = x + 1 := ⟨N - 1, by omega⟩
      have hlen : (nts k ++ P).length = k + P.length := by rw [List.length_append, nts_l]
      obtain ⟨τ1, b1, b2⟩ := rd_push (o := 28) (x := 0) hm ⟨by decide, by decide⟩ (by decide) (by rw [hlen]; omega)
      obtain ⟨τ2, c1, c2⟩ := rd_next (F := F) hF ht b2
      have em : M_readExpression_L20 F 1 (N + 1) τ 0 = M_readExpression_L20 F 1 N τ2 0 := by
        rw [L20_0 (rd_19 hm)]
        unfold M_readPlain
        have q1 : M_isWord τ 14836 = some (if isW t n s (wdH 7 0) then 1 else 0) := rd_word (x := 14836) hm
        have b1' : M_push τ 28 0 = some ((), τ1) := b1
        rw [q1, z1, bs, if_neg (by decide), b1', bs, c1, bs, bs]
      have ih := plainL hF ht hbr IH hS ha hpa hP hi fuel (k + 1) (nxT t n s) N T1 τ2 (by omega) e2 c2 (by omega) (by omega) (by omega)
      rw [e1, bs, if_neg (show ¬ (1 : Int32) = 0 by decide), em]
      unfold C_3_plain_B29
      rw [← nI_succ]
      by_cases z : k % 2 = 0
      · rw [if_neg (show ¬ (k + 1) % 2 = 0 by omega)] at ih
        rw [if_pos z, if_pos rfl]; exact ih
      · rw [if_pos (show (k + 1) % 2 = 0 by omega)] at ih
        rw [if_neg z, if_neg (by decide)]; exact ih
    · rw [e1, bs, if_pos rfl]
      exact last z1
theorem plainS {nw F : Nat} {ol : Bool} {S : CS} {Ic : Nat → Int32} {σ : MS} {Im : Nat → Int32} {t : Nat → Nat} {n br : Nat} {rt rs : CS → Option (Int32 × CS)} (hF : 1000 ≤ F) (ht : ∀ i, t i < 256) (hbr : br ≤ 8) (IH : br < 8 → TestL nw ol 1 F S Ic σ Im t n (br + 1) rt) (hS : SumL nw ol 5 F 1 S Ic σ Im t n br rs) : TestL nw ol 3 F S Ic σ Im t n br (C_3_plain rt rs F) := by
  intro s a b pa N P A f g T τ hc hm ha hb2 hpa hN hP hi
  exact plainL (so := s) hF ht hbr IH hS ha hpa hP hi F 0 s N T τ (by omega) hc hm (by omega) (by omega) hN
