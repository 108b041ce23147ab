theorem isW_end {t : Nat → Nat} {n s x : Nat} (h : n ≤ s) : isW t n s x = false := decide_eq_false fun q => by
  have := (kd_0 (t := t)).mpr h
  omega
theorem pst_lo2 {k b : Nat} : ∀ (Q : List (Nat × Nat)) (f g : Nat → Int32) (c : Nat), (∀ e ∈ Q, e.1 = 29 ∨ e.1 = 30 → b ≤ e.2) → b ≤ c → k < b → (pst Q f g c).1 k = f k ∧ (pst Q f g c).2.1 k = g k
  | [], f, g, c, _, _, _ => ⟨rfl, rfl⟩
  | e :: Q, f, g, c, hq, hc, hk => by
    rw [pst_s]
    by_cases z : e.1 = 29 ∨ e.1 = 30
    · rw [if_pos z]
      have := hq e (List.mem_cons_self ..) z
      obtain ⟨i1, i2⟩ := pst_lo2 (k := k) Q f (upd g e.2 (nI c)) c (fun e' he => hq e' (List.mem_cons_of_mem _ he)) hc hk
      exact ⟨i1, i2.trans (pk_un (by omega))⟩
    · rw [if_neg z]
      obtain ⟨i1, i2⟩ := pst_lo2 (k := k) Q (upd f c (nI e.1)) (upd g c 0) (c + 1) (fun e' he => hq e' (List.mem_cons_of_mem _ he)) (by omega) hk
      exact ⟨i1.trans (pk_un (by omega)), i2.trans (pk_un (by omega))⟩
theorem plainP {nw F k : Nat} {ol : Bool} {S : CS} {Ic : Nat → Int32} {σ : MS} {Im : Nat → Int32} {t : Nat → Nat} {n so s a b br pa N : Nat} {rt rs : CS → Option (Int32 × CS)} {P : List (Nat × Nat)} {A f g : Nat → Int32} {T : CS} {τ : MS} (hF : 1000 ≤ F) (ht : ∀ i, t i < 256) (hbr : br ≤ 8) (IH : br < 8 → TestL nw ol 1 F S Ic σ Im t n (br + 1) rt) (hc : RC S Ic t n s a br pa none A T) (hm : RM σ Im t n s b (nts k ++ P) br pa none f g τ) (hso : so + k ≤ s) (ha : a + 1 ≤ so) (hb2 : b + (k + P.length) + 2 ≤ s) (hpa : pa ≤ 50) (hN : 2 * (401 - s) + 3 ≤ N) (z1 : isW t n s (wdH 7 0) = false) (z2 : isS t n s 40 = true) : okT nw ol 3 F S Ic σ Im t n so a b br pa P A f g (C_3_plain_B36 rt rs F T (if k % 2 = 0 then 0 else 1)) (M_readExpression_L20 F 1 N τ 0) ∨ okF S Ic σ Im t n (C_3_plain_B36 rt rs F T (if k % 2 = 0 then 0 else 1)) (M_readExpression_L20 F 1 N τ 0) := by
  obtain ⟨N, rfl⟩ : ∃ x, N = x + 1 := ⟨N - 1, by omega⟩
  have hs := isS_n z2
  have nx := nx_gt (t := t) hs
  obtain ⟨-, -, -, -, -, r6, r7, r8⟩ := rc_ci hc
  have hlen : (nts k ++ P).length = k + P.length := by rw [List.length_append, nts_l]
  have ep : M_readPlain F τ = (M_openBracket F τ 31).bind fun q4 => some (0, q4.2) := by
    unfold M_readPlain
    have q1 : M_isWord τ 14836 = some (if isW t n s (wdH 7 0) then 1 else 0) := rd_word (x := 14836) hm
    rw [q1, z1, bs, if_pos (by decide), rd_sg 40 (x := 40) rfl ht (by decide) hm, z2, bs, if_neg (by decide)]
  unfold C_3_plain_B36
  rw [rc_sg 40 (x := 40) rfl ht (by decide) hc, z2, bs, if_pos rfl, if_neg (show ¬ (1 : Int32) = 0 by decide), L20_0 (rd_19 hm), ep]
  rcases rc_opens hF ht hbr hc with ⟨o1, T1, o2, o3⟩ | ⟨o1, T1, o2, o3⟩
  rotate_left
  · obtain ⟨τ1, b1, b2⟩ := rd_open0 (F := F) (o := 31) hm o1 hbr
    rw [o2, bs, if_pos rfl, b1, bs, bs]
    exact Or.inr (ok_fail hF (by omega) (by omega) o3 b2)
  obtain ⟨τ1, b1, b2⟩ := rd_open (F := F) (o := 31) hF ht ⟨by decide, by decide⟩ hs hm o1
  have b1' : M_openBracket F τ 31 = some ((), τ1) := b1
  rw [o2, bs, if_neg (show ¬ (1 : Int32) = 0 by decide), b1', bs, bs]
  rcases IH o1 (nxT t n s) a b pa N ((31, 0) :: (nts k ++ P)) A f g T1 τ1 o3 b2 (by omega) (by show b + ((nts k ++ P).length + 1) + 2 ≤ _; rw [hlen]; omega) hpa (by omega) (fun e l q => by rw [← (List.cons.inj q).1]; decide) (by show nI 31 ≠ 32; decide) with ⟨T2, τ2, s2, N2, d1, d2, ⟨a2, b2', pa2, Q, A2, f2, g2, φ, h1, h2, h3, h4, h5, h6, h7, h8, h9, h10, h11, h12, h13, h14, h15⟩, dE⟩ | ⟨v, T2, τ2, v1, v2, v3, v4, v5⟩
  rotate_left
  · rw [v2, bs, if_pos rfl]
    exact Or.inr ⟨v, T2, τ2, v1, rfl, v3, v4, v5⟩
  obtain ⟨N2, rfl⟩ : ∃ x, N2 = x + 1 := ⟨N2 - 1, by omega⟩
  have h2' : b2' + (Q.length + (k + P.length + 1)) + 2 ≤ s2 := by
    have : ((31, 0) :: (nts k ++ P)).length = k + P.length + 1 := by show (nts k ++ P).length + 1 = _; rw [hlen]
    rw [this] at h2; exact h2
  have hin : inn (Q ++ (31, 0) :: (nts k ++ P)) = 31 := by
    rw [inn_app Q (fun e he => bd_31 (h7 e he))]; rfl
  have qa : M_isWord τ2 1476 = some (if isW t n s2 (wdH 8 0) then 1 else 0) := rd_word (x := 1476) h4
  have qo : M_isWord τ2 498 = some (if isW t n s2 (wdH 9 0) then 1 else 0) := rd_word (x := 498) h4
  rw [d1, bs, if_neg (show ¬ (1 : Int32) = 0 by decide), d2, L20_2 (rd_19 h4)]
  unfold M_behindTest
  rw [qa, dE.1 (by omega), bs, if_pos (show (if (false = true) then (1 : Int32) else 0) = 0 by decide), qo, dE.2 (by omega), bs, if_pos (show (if (false = true) then (1 : Int32) else 0) = 0 by decide), rd_inner hF h4, bs, hin, if_neg (show ¬ (31 : Int32) = -1 by decide), rd_sg 41 (x := 41) rfl ht (by decide) h4, bs]
  obtain ⟨-, -, -, -, -, u6, u7, u8⟩ := rc_ci h3
  rcases rc_closes (x := 41) hF ht (by decide) h3 with ⟨e1, T3, e2, e3⟩ | ⟨e1, T3, e2, e3⟩
  · have e2' : C_3_closes F T2 41 = some (1, T3) := e2
    have nx2 := nx_gt (t := t) (isS_n e1)
    obtain ⟨τ3, g1, g2'⟩ := rd_must1 (F := F) hF ht h4
    obtain ⟨τ4, i1, i2⟩ := rd_settle (F := F) (lv := 1) hF (by omega) (fun e l q => by rw [← (List.cons.inj q).1]; decide) h7 g2'
    have i1' : M_settle F τ3 1 = some ((), τ4) := i1
    have i3 := rd_pop i2
    have pb := pst_b Q f2 g2 b2'
    obtain ⟨T5, A5, a5, j1, j2, j3, j4, j5, j6, j7⟩ := rc_150 (F := F) (k := k) (rt := rt) (rs := rs) e3 h11 (fun _ => by omega)
    rw [e1, e2', bs, if_neg (show ¬ (1 : Int32) = 0 by decide), j1, if_pos rfl, g1, bs, rd_19 g2', if_pos rfl, i1', bs, stt_d, stt_d, bs]
    refine Or.inl ⟨T5, _, nxT t n s2, N2, rfl, rfl, ⟨a5, _, pa2, nts k, A5, _, _, fNs φ k, by omega, ?_, j2, i3, by omega, by omega, fun e he => ?_, fun e he q => ?_, h9, h10, j3, sg_nts k _ _ _ h12, by omega, fun j hj => ?_, fun j hj => ?_⟩, ⟨fun q => by omega, fun q => by omega⟩⟩
    · rw [nts_l]; omega
    · rw [nts_m he]; decide
    · rw [nts_m he] at q; exact absurd q (by decide)
    · have ij := h11.1.1
      rw [j4 j (by omega)]; exact h14 j hj
    · obtain ⟨w1, w2⟩ := pst_lo2 (k := j) (b := b) Q f2 g2 b2' h8 h13 hj
      obtain ⟨y1, y2⟩ := h15 j hj
      exact ⟨w1.trans y1, w2.trans y2⟩
  · have e2' : C_3_closes F T2 41 = some (0, T3) := e2
    obtain ⟨τ3, g1, g2'⟩ := rd_must0 (F := F) h4
    rw [e1, e2', bs, if_pos (show (0 : Int32) = 0 from rfl), if_neg (show ¬ (false = true) by decide), g1, bs, rd_19f g2', if_neg (show ¬ (1 : Int32) = 0 by decide), bs]
    exact Or.inr (ok_fail hF (by omega) (by omega) e3 g2')
