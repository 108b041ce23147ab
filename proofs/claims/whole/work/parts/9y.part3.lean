theorem ok_leaf {nw F : Nat} {ol : Bool} {x1 : Int32} {S : CS} {Ic : Nat → Int32} {σ : MS} {Im : Nat → Int32} {t : Nat → Nat} {n br s s' a b pa N : Nat} {P : List (Nat × Nat)} {A f g : Nat → Int32} {T' : CS} {τ' : MS} {o x o' y : Int32} {φ : (Nat → Int) → Option Int} (hs : s < s') (hb2 : b + P.length + 2 ≤ s) (hpa : pa < 50) (hN : 2 * (401 - s) + 3 ≤ N + 1) (hn : s' ≤ 400) (hc : RC S Ic t n s' (a + 1) br (pa + 1) none (upd (upd A (2 * a) o) (2 * a + 1) x) T') (hm : RM σ Im t n s' (b + 1) P br (pa + 1) none (upd f b o') (upd g b y) τ') (s1 : Seg nw (ccd (upd (upd A (2 * a) o) (2 * a + 1) x)) a (a + 1) 1 φ) (s2 : Seg nw (rcf ol (upd f b o') (upd g b y)) b (b + 1) 1 φ) : okS nw ol 7 F x1 S Ic σ Im t n s a b br pa P A f g (some (1, T')) (M_readExpression_L20 F x1 N τ' 3) := by
  refine ⟨T', τ', s', a + 1, b + 1, pa + 1, N, [], _, _, _, φ, rfl, rfl, by omega, by show b + 1 + (0 + P.length) + 2 ≤ s'; omega, hc, hm, hs, by omega, fun e he => absurd he (by simp), by omega, by omega, ?_, ?_, by omega, fun k hk => ?_, fun k hk => ⟨pk_un (by omega), pk_un (by omega)⟩, ⟨fun q => by omega, fun q => by omega⟩⟩
  · rw [show pa + 1 - pa = 1 by omega]; exact s1
  · rw [show pa + 1 - pa = 1 by omega]; exact s2
  · rw [pk_un (by omega), pk_un (by omega)]
theorem partLaw {F : Nat} {x1 : Int32} {S : CS} {Ic : Nat → Int32} {σ : MS} {Im : Nat → Int32} {t : Nat → Nat} {n br : Nat} {rs : CS → Option (Int32 × CS)} (hF : 1000 ≤ F) (ht : ∀ i, t i < 256) (hb : ∀ m, m < 9 → mb σ 31 m = lN (wdH 2 m)) (h3 : Ic 3 = 1) (h20 : Im 20 = 0) (hbr : br ≤ 8) (IH : br < 8 → SumL 9 false 5 F x1 S Ic σ Im t n (br + 1) rs) : SumL 9 false 7 F x1 S Ic σ Im t n br (C_3_part rs F) := by
  intro s a b pa N P A f g T τ hc hm ha hb2 hpa hN hP
  cases z : isS t n s 91 with
  | true => exact partB hF ht hbr IH hc hm ha hb2 hpa hN z
  | false =>
  obtain ⟨c1, c2, c3, c4, c5, c6, c7, c8⟩ := rc_ci hc
  obtain ⟨N, rfl⟩ : ∃ k, N = k + 1 := ⟨N - 1, by omega⟩
  obtain ⟨y, o, x, hr, cases3⟩ := rd_partL (F := F) hF ht hb h20 hm z hpa
  unfold C_3_part
  rw [rc_sg 91 (x := 91) rfl ht (by decide) hc, z, bs, if_pos (by decide), L20_1 (rd_19 hm), c1]
  have mfail : (y = 0 ∨ 50 ≤ pa) → ∃ τ1, M_readPart F τ = some (3, τ1) ∧ RM σ Im t n s b P br pa (some s) f g τ1 := fun hy => by
    obtain ⟨τ1, a1, a2⟩ := rd_leaf0 (F := F) (o := o) (x := x) hm hy hpa
    exact ⟨τ1, hr τ1 ⟨_, _, _, _, _, _, _, _, a2⟩ a1, a2⟩
  by_cases hp : pa < 50
  rotate_left
  · obtain ⟨T1, f1, f2⟩ := rc_fail hc
    obtain ⟨τ1, m1, m2⟩ := mfail (Or.inr (by omega))
    rw [if_neg (show ¬ nI pa < 50 from nI_nlt (b := 50) (by omega) (by omega)), f1, bs, chk_t (Or.inl rfl), m1, bs]
    exact Or.inr (ok_fail hF (by omega) (by omega) f2 m2)
  have hc7 := rc_pa hc
  obtain ⟨d1, d2, d3, d4, d5, d6, d7, d8⟩ := rc_ci hc7
  rw [if_pos (show nI pa < 50 from nI_lt (b := 50) hp (by decide)), stc_d, d2, d3, h3]
  rcases cases3 with ⟨m, m1, m2, m3, rfl, rfl, rfl⟩ | ⟨m3, m4, rfl, rfl, rfl⟩ | ⟨m3, m4, rfl⟩
  · have k1 := kd_w m2
    have hs := isW_n m2
    have nx := nx_gt (t := t) hs
    obtain ⟨T1, e1, e2⟩ := rc_adv hF ht hc7
    obtain ⟨-, -, g3, -⟩ := rc_ci e2
    obtain ⟨T2, e3, e4⟩ := rc_emit (o := 1) (x := nI m) e2 (by omega)
    obtain ⟨τ1, l1, l2⟩ := rd_leaf1 (F := F) (o := nI (m + 1)) (x := 0) hF ht hs hm hp
    rw [k1, if_neg (show ¬ nI 1 = 2 by decide), if_neg (show ¬ (1 : Int32) = 0 by decide)]
    unfold C_3_part_B117 C_3_part_B162
    rw [chk_t (by decide), rc_choice hF ht (by decide) hc7, m3, bs, if_neg (nI_m1 (by omega)), e1, bs, g3, h3, if_neg (show ¬ (1 : Int32) = 0 by decide), e3, bs, hr τ1 ⟨_, _, _, _, _, _, _, _, l2⟩ l1, bs]
    refine Or.inl (ok_leaf (φ := fWrd m) (by omega) hb2 hp hN (by omega) e4 l2 (sg_wrd ?_ m1 (by decide)) (sg_wrd ?_ m1 (by decide)))
    · rw [cc_o (o := 1) (by rw [pk_un (by omega), pk_us]; rfl) (by decide) (by decide) (by decide), pk_us, nI_toInt (by omega)]
    · show ropL (upd f b (nI (m + 1)) b) (upd g b 0 b) = (1, (m : Int))
      rw [pk_us, pk_us]
      unfold ropL
      rw [nI_toInt (show m + 1 < 2 ^ 31 by omega), if_neg (by omega), if_pos (by omega)]
      congr 1; omega
  · have k2 := (of_decide_eq_true m4).1
    have hdv := (of_decide_eq_true m4).2.2
    have hs := (kd_2 k2).1
    have nx := nx_gt (t := t) hs
    have hnm := rc_num (lo := 0) (hi := 1000) (by decide) (by decide) hc7
    have hnm' : C_3_isNumber (cI T 9 8 (nI pa + 1)) 0 1000 = some (if nmB t n s 0 1000 then 1 else 0) := hnm
    obtain ⟨T1, e1, e2⟩ := rc_emit (o := 0) (x := nI (dvT t s (enT t n s - s))) hc7 (by omega)
    obtain ⟨T2, e3, e4⟩ := rc_adv hF ht e2
    obtain ⟨τ1, l1, l2⟩ := rd_leaf1 (F := F) (o := 0) (x := nI (dvT t s (enT t n s - s))) hF ht hs hm hp
    rw [if_pos (show nI (kdT t n s) = 2 by rw [k2]; rfl), hnm', m4, bs, if_pos rfl, if_neg (show ¬ (1 : Int32) = 0 by decide), d4 k2, dc_v (by decide) hdv, e1, bs, e3, bs, hr τ1 ⟨_, _, _, _, _, _, _, _, l2⟩ l1, bs]
    refine Or.inl (ok_leaf (φ := fNum (dvT t s (enT t n s - s))) (by omega) hb2 hp hN (by omega) e4 l2 (sg_num ?_ hdv) (sg_num ?_ hdv))
    · rw [cc_o (o := 0) (by rw [pk_un (by omega), pk_us]; rfl) (by decide) (by decide) (by decide), pk_us, nI_toInt (by omega)]
    · show ropL (upd f b 0 b) (upd g b (nI (dvT t s (enT t n s - s))) b) = (0, ((dvT t s (enT t n s - s) : Nat) : Int))
      rw [pk_us, pk_us]
      unfold ropL
      rw [if_pos (by decide), nI_toInt (by omega)]
  · obtain ⟨T1, f1, f2⟩ := rc_fail hc7
    obtain ⟨τ1, m1, m2⟩ := mfail (Or.inl rfl)
    by_cases k2 : kdT t n s = 2
    · have hnm := rc_num (lo := 0) (hi := 1000) (by decide) (by decide) hc7
      have hnm' : C_3_isNumber (cI T 9 8 (nI pa + 1)) 0 1000 = some (if nmB t n s 0 1000 then 1 else 0) := hnm
      rw [if_pos (show nI (kdT t n s) = 2 by rw [k2]; rfl), hnm', m4, bs, if_pos (by decide), f1, bs, chk_t (Or.inl rfl), m1, bs]
      exact Or.inr (ok_fail hF (by omega) (by omega) f2 m2)
    · rw [if_neg (show ¬ nI (kdT t n s) = 2 from fun q => k2 ((kd_i 2 (by decide)).mp q)), if_neg (show ¬ (1 : Int32) = 0 by decide)]
      unfold C_3_part_B117
      rw [chk_t (by decide), rc_choice hF ht (by decide) hc7, m3, bs, if_pos rfl, f1, bs, chk_t (Or.inl rfl), m1, bs]
      exact Or.inr (ok_fail hF (by omega) (by omega) f2 m2)
