theorem ok_leaf2 {nw F : Nat} {ol : Bool} {x1 : Int32} {S : CS} {Ic : Nat → Int32} {σ : MS} {Im : Nat → Int32} {t : Nat → Nat} {n br s s' a b pa N : Nat} {P : List (Nat × Nat)} {A f g : Nat → Int32} {T' : CS} {τ' : MS} {o x o' y y' : Int32} {φ : (Nat → Int) → Option Int} (hs : s < s') (hb2 : b + P.length + 2 ≤ s) (hpa : pa < 50) (hN : 2 * (401 - s) + 3 ≤ N + 1) (hn : s' ≤ 400) (hc : RC S Ic t n s' (a + 1) br (pa + 1) none (upd (upd A (2 * a) o) (2 * a + 1) x) T') (hm : RM σ Im t n s' (b + 1) P br (pa + 1) none (upd f b o') (upd (upd g b y') b y) τ') (s1 : Seg nw (ccd (upd (upd A (2 * a) o) (2 * a + 1) x)) a (a + 1) 1 φ) (s2 : Seg nw (rcf ol (upd f b o') (upd (upd g b y') b y)) b (b + 1) 1 φ) : okS nw ol 7 F x1 S Ic σ Im t n s a b br pa P A f g (some (1, T')) (M_readExpression_L20 F x1 N τ' 3) := by
  rw [upd_upd] at hm s2
  exact ok_leaf hs hb2 hpa hN hn hc hm s1 s2
theorem partOrd {F : Nat} {x1 : Int32} {S : CS} {Ic : Nat → Int32} {σ : MS} {Im : Nat → Int32} {t : Nat → Nat} {n br : Nat} {rs : CS → Option (Int32 × CS)} (hF : 1000 ≤ F) (ht : ∀ i, t i < 256) (hb : ∀ m, m < 7 → mb σ 32 m = lN (wdH 3 m)) (h3 : Ic 3 = 0) (h20 : Im 20 = 1) (hbr : br ≤ 8) (IH : br < 8 → SumL 19 true 5 F x1 S Ic σ Im t n (br + 1) rs) : SumL 19 true 7 F x1 S Ic σ Im t n br (C_3_part rs F) := by
  intro s a b pa N P A f g T τ hc hm ha hb2 hpa hN hP
  cases z : isS t n s 91 with
  | true => exact partB hF ht hbr IH hc hm ha hb2 hpa hN z
  | false =>
  obtain ⟨c1, c2, c3, c4, c5, c6, c7, c8⟩ := rc_ci hc
  obtain ⟨N, rfl⟩ : ∃ k, N = k + 1 := ⟨N - 1, by omega⟩
  obtain ⟨w1, y, o, x, hr, cases3⟩ := rd_partO (F := F) hF ht hb h20 hm z
  unfold C_3_part
  rw [rc_sg 91 (x := 91) rfl ht (by decide) hc, z, bs, if_pos (by decide), L20_1 (rd_19 hm), c1, hr]
  have mfail : (y = 0 ∨ 50 ≤ pa) → ∃ τ1, M_readPart_B99 F τ w1 y o x = some (3, τ1) ∧ RM σ Im t n s b P br pa (some s) f g τ1 := fun hy => by
    obtain ⟨τ1, a1, a2⟩ := rd_leaf0 (F := F) (o := o) (x := x) hm hy hpa
    refine ⟨τ1, ?_, a2⟩
    unfold M_readPart_B99
    rw [a1, bs, (rd_mi a2).1, h20, if_neg (show ¬ (1 : Int32) = 0 by decide), rd_19f a2, if_neg (show ¬ (1 : Int32) = 0 by decide)]
    split <;> rfl
  have low : ∀ τ1 s' b' pa' f' g', w1 < 6 → M_leaf F τ y o x = some ((), τ1) → RM σ Im t n s' b' P br pa' none f' g' τ1 → M_readPart_B99 F τ w1 y o x = some (3, τ1) := fun τ1 s' b' pa' f' g' h6 e hr' => by
    unfold M_readPart_B99
    rw [e, bs, (rd_mi hr').1, h20, if_neg (show ¬ (1 : Int32) = 0 by decide), if_pos h6]
  by_cases hp : pa < 50
  rotate_left
  · obtain ⟨T1, f1, f2⟩ := rc_fail hc
    obtain ⟨τ1, m1, m2⟩ := mfail (Or.inr (by omega))
    rw [if_neg (show ¬ nI pa < 50 from nI_nlt (b := 50) (by omega) (by omega)), f1, bs, chk_t (Or.inl rfl), m1, bs]
    exact Or.inr (ok_fail hF (by omega) (by omega) f2 m2)
  have hc7 := rc_pa hc
  obtain ⟨d1, d2, d3, d4, d5, d6, d7, d8⟩ := rc_ci hc7
  rw [if_pos (show nI pa < 50 from nI_lt (b := 50) hp (by decide)), stc_d, d2, d3, h3]
  rcases cases3 with ⟨m, m1, m2, m3, rfl, rfl, rfl, rfl⟩ | ⟨m3, m4, rfl, rfl, rfl, rfl⟩ | ⟨m3, m4, rfl, rfl⟩
  · have k1 := kd_w m2
    have hs := isW_n m2
    have nx := nx_gt (t := t) hs
    obtain ⟨T1, e1, e2⟩ := rc_adv hF ht hc7
    obtain ⟨-, -, g3, g4, -, g6, g7, g8⟩ := rc_ci e2
    obtain ⟨τ1, l1, l2⟩ := rd_leaf1 (F := F) (o := nI (m + 1)) (x := 0) hF ht hs hm hp
    rw [k1, if_neg (show ¬ nI 1 = 2 by decide), if_pos rfl]
    unfold C_3_part_B117 C_3_part_B162 C_3_part_B158
    rw [chk_t (by decide), rc_choice hF ht (by decide) hc7, m3, bs, if_neg (nI_m1 (by omega)), e1, bs, g3, h3, if_pos rfl]
    by_cases m5 : m < 5
    · obtain ⟨T2, e3, e4⟩ := rc_emit (o := 1) (x := nI m) e2 (by omega)
      rw [if_pos (show nI m < 5 from nI_lt (b := 5) m5 (by decide)), e3, bs, low τ1 _ _ _ _ _ (show nI (m + 1) < 6 from nI_lt (b := 6) (by omega) (by decide)) l1 l2, bs]
      refine Or.inl (ok_leaf (φ := fWrd m) (by omega) hb2 hp hN (by omega) e4 l2 (sg_wrd ?_ (by omega) (by decide)) (sg_wrd ?_ (by omega) (by decide)))
      · rw [cc_o (o := 1) (by rw [pk_un (by omega), pk_us]; rfl) (by decide) (by decide) (by decide), pk_us, nI_toInt (by omega)]
      · show ropP (upd f b (nI (m + 1)) b) (upd g b 0 b) = (1, (m : Int))
        rw [pk_us, pk_us]
        unfold ropP
        rw [nI_toInt (show m + 1 < 2 ^ 31 by omega), if_neg (by omega), if_pos (by omega)]
        congr 1; omega
    rw [if_neg (show ¬ nI m < 5 from nI_nlt (b := 5) (by omega) (by omega))]
    have h23 : mi τ1 23 - 1 = nI b := by rw [(rd_mi l2).2.2.2.1, nI_pred]
    have bn : b < 400 := by omega
    have num : ∀ hi bs0 : Nat, hi ≤ 9 → bs0 ≤ 9 → (∀ v, v ≤ hi → bs0 + v < 19) → (∀ v : Nat, v ≤ hi → ropP (nI (m + 1)) (nI v) = (1, ((bs0 + v : Nat) : Int))) → M_readPart_B99 F τ (nI (m + 1)) 1 (nI (m + 1)) 0 = M_readPart_B151 F τ1 (mi τ1 23 - 1) (lN 0) (lN hi) → okS 19 true 7 F x1 S Ic σ Im t n s a b br pa P A f g ((C_3_isNumber T1 (nI 0) (nI hi)).bind fun y3 => if y3 = 0 then (C_3_fail T1).bind fun y4 => chk (y4.1 = 0 ∨ y4.1 = 1) (some (y4.1, y4.2)) else (C_3_emit T1 1 (nI bs0 + ci T1 9 7)).bind fun y1 => (C_3_advance F y1.2).bind fun y2 => some ((1 : Int32), y2.2)) ((M_readPart_B99 F τ (nI (m + 1)) 1 (nI (m + 1)) 0).bind fun q => M_readExpression_L20 F x1 N q.2 q.1) ∨ okF S Ic σ Im t n ((C_3_isNumber T1 (nI 0) (nI hi)).bind fun y3 => if y3 = 0 then (C_3_fail T1).bind fun y4 => chk (y4.1 = 0 ∨ y4.1 = 1) (some (y4.1, y4.2)) else (C_3_emit T1 1 (nI bs0 + ci T1 9 7)).bind fun y1 => (C_3_advance F y1.2).bind fun y2 => some ((1 : Int32), y2.2)) ((M_readPart_B99 F τ (nI (m + 1)) 1 (nI (m + 1)) 0).bind fun q => M_readExpression_L20 F x1 N q.2 q.1) := fun hi bs0 h9 hb9 h19 hop e99 => by
      rw [e99]
      unfold M_readPart_B151
      rw [h23, rc_num (lo := 0) (hi := hi) (by omega) (by omega) e2, bs]
      rcases rd_number (F := F) (lo := 0) (hi := hi) hF ht (by omega) (by omega) l2 with ⟨q1, τ2, q2, q3⟩ | ⟨q1, v, τ2, q2, q3⟩
      · have k2 := (of_decide_eq_true q1).1
        have hv := (of_decide_eq_true q1).2.2
        have nx2 := nx_gt (t := t) (kd_2 k2).1
        have e7 : nI bs0 + ci T1 9 7 = nI (bs0 + dvT t (nxT t n s) (enT t n (nxT t n s) - nxT t n s)) := by rw [g4 k2, dc_v (show hi ≤ 1000 by omega) hv, nI_add]
        obtain ⟨T2, e3, e4⟩ := rc_emit (o := 1) (x := nI bs0 + ci T1 9 7) e2 (by omega)
        obtain ⟨T3, e5, e6⟩ := rc_adv hF ht e4
        have q4 := rd_arg (j := b) (x := nI (dvT t (nxT t n s) (enT t n (nxT t n s) - nxT t n s))) q3
        rw [q1, if_pos rfl, if_neg (show ¬ (1 : Int32) = 0 by decide), e3, bs, e5, bs, q2, bs, chk_in bn (by decide), nI_clamp (by omega), stt_d, bs]
        refine Or.inl (ok_leaf2 (φ := fWrd (bs0 + dvT t (nxT t n s) (enT t n (nxT t n s) - nxT t n s))) (by omega) hb2 hp hN (by omega) e6 q4 (sg_wrd ?_ (h19 _ hv) (by decide)) (sg_wrd ?_ (h19 _ hv) (by decide)))
        · rw [cc_o (o := 1) (by rw [pk_un (by omega), pk_us]; rfl) (by decide) (by decide) (by decide), pk_us, e7, nI_toInt (by omega)]
        · show ropP (upd f b (nI (m + 1)) b) (upd (upd g b 0) b _ b) = _
          rw [pk_us, pk_us]
          exact hop _ hv
      · obtain ⟨T2, f1, f2⟩ := rc_fail e2
        have q4 := rd_arg (j := b) (x := v) q3
        rw [q1, if_pos (show (if (false = true) then (1 : Int32) else 0) = 0 by decide), f1, bs, chk_t (Or.inl rfl), q2, bs, chk_in bn (by decide), nI_clamp (by omega), stt_d, bs]
        exact Or.inr (ok_fail hF (by omega) (by omega) f2 q4)
    have wrap : ∀ (c : Option (Int32 × CS)) (mm : Option (Unit × MS)), (okS 19 true 7 F x1 S Ic σ Im t n s a b br pa P A f g c mm ∨ okF S Ic σ Im t n c mm) → (okS 19 true 7 F x1 S Ic σ Im t n s a b br pa P A f g (c.bind fun y2 => chk (y2.1 = 0 ∨ y2.1 = 1) (some (y2.1, y2.2))) mm ∨ okF S Ic σ Im t n (c.bind fun y2 => chk (y2.1 = 0 ∨ y2.1 = 1) (some (y2.1, y2.2))) mm) := fun c mm hh => by
      rcases hh with ⟨T', τ', s', a', b', pa', N', Q, A', f', g', φ, e, rest⟩ | ⟨v, T', τ', hv, e, rest⟩
      · rw [e, bs, chk_t (Or.inr rfl)]
        exact Or.inl ⟨T', τ', s', a', b', pa', N', Q, A', f', g', φ, rfl, rest⟩
      · rw [e, bs, chk_t (Or.inl rfl)]
        exact Or.inr ⟨v, T', τ', hv, rfl, rest⟩
    have h99 : M_readPart_B99 F τ (nI (m + 1)) 1 (nI (m + 1)) 0 = if nI (m + 1) = (6 : Int32) then M_readPart_B151 F τ1 (mi τ1 23 - 1) (lN 0) (lN 3) else M_readPart_B151 F τ1 (mi τ1 23 - 1) (lN 0) (lN 9) := by
      unfold M_readPart_B99
      rw [l1, bs, (rd_mi l2).1, h20, if_neg (show ¬ (1 : Int32) = 0 by decide), if_neg (show ¬ nI (m + 1) < 6 from nI_nlt (b := 6) (by omega) (by omega)), rd_19 l2, if_pos rfl]
      rfl
    rcases (show m = 5 ∨ m = 6 by omega) with rfl | rfl
    · rw [if_pos (show nI 5 = 5 from rfl)]
      refine wrap _ _ (num 3 5 (by omega) (by omega) (fun v hv => by omega) (fun v hv => ?_) ?_)
      · unfold ropP
        rw [nI_toInt (show v < 2 ^ 31 by omega), if_neg (by decide), if_neg (by decide), if_pos (by decide), if_pos (by decide), if_pos ⟨by omega, by omega⟩]
        congr 1
      · rw [h99, if_pos (by decide)]
    · rw [if_neg (show ¬ nI 6 = 5 by decide)]
      refine wrap _ _ (num 9 9 (by omega) (by omega) (fun v hv => by omega) (fun v hv => ?_) ?_)
      · unfold ropP
        rw [nI_toInt (show v < 2 ^ 31 by omega), if_neg (by decide), if_neg (by decide), if_pos (by decide), if_neg (by decide), if_pos ⟨by decide, by omega, by omega⟩]
        congr 1
      · rw [h99, if_neg (by decide)]
  · have k2 := (of_decide_eq_true m4).1
    have hdv := (of_decide_eq_true m4).2.2
    have hs := (kd_2 k2).1
    have nx := nx_gt (t := t) hs
    have hnm' : C_3_isNumber (cI T 9 8 (nI pa + 1)) 0 1000 = some (if nmB t n s 0 1000 then 1 else 0) := rc_num (lo := 0) (hi := 1000) (by decide) (by decide) hc7
    obtain ⟨T1, e1, e2⟩ := rc_emit (o := 0) (x := nI (dvT t s (enT t n s - s))) hc7 (by omega)
    obtain ⟨T2, e3, e4⟩ := rc_adv hF ht e2
    obtain ⟨τ1, l1, l2⟩ := rd_leaf1 (F := F) (o := 0) (x := nI (dvT t s (enT t n s - s))) hF ht hs hm hp
    rw [if_pos (show nI (kdT t n s) = 2 by rw [k2]; rfl), hnm', m4, bs, if_pos rfl, if_neg (show ¬ (1 : Int32) = 0 by decide), d4 k2, dc_v (by decide) hdv, e1, bs, e3, bs, low τ1 _ _ _ _ _ (by decide) l1 l2, bs]
    refine Or.inl (ok_leaf (φ := fNum (dvT t s (enT t n s - s))) (by omega) hb2 hp hN (by omega) e4 l2 (sg_num ?_ hdv) (sg_num ?_ hdv))
    · rw [cc_o (o := 0) (by rw [pk_un (by omega), pk_us]; rfl) (by decide) (by decide) (by decide), pk_us, nI_toInt (by omega)]
    · show ropP (upd f b 0 b) (upd g b (nI (dvT t s (enT t n s - s))) b) = (0, ((dvT t s (enT t n s - s) : Nat) : Int))
      rw [pk_us, pk_us]
      unfold ropP
      rw [if_pos (by decide), nI_toInt (by omega)]
  · obtain ⟨T1, f1, f2⟩ := rc_fail hc7
    obtain ⟨τ1, m1, m2⟩ := mfail (Or.inl rfl)
    by_cases k2 : kdT t n s = 2
    · have hnm' : C_3_isNumber (cI T 9 8 (nI pa + 1)) 0 1000 = some (if nmB t n s 0 1000 then 1 else 0) := rc_num (lo := 0) (hi := 1000) (by decide) (by decide) hc7
      rw [if_pos (show nI (kdT t n s) = 2 by rw [k2]; rfl), hnm', m4, bs, if_pos (by decide), f1, bs, chk_t (Or.inl rfl), m1, bs]
      exact Or.inr (ok_fail hF (by omega) (by omega) f2 m2)
    · rw [if_neg (show ¬ nI (kdT t n s) = 2 from fun q => k2 ((kd_i 2 (by decide)).mp q)), if_pos rfl]
      unfold C_3_part_B117
      rw [chk_t (by decide), rc_choice hF ht (by decide) hc7, m3, bs, if_pos rfl, f1, bs, chk_t (Or.inl rfl), m1, bs]
      exact Or.inr (ok_fail hF (by omega) (by omega) f2 m2)
/-- sums of orders -/
theorem sumOrd {F : Nat} {x1 : Int32} {S : CS} {Ic : Nat → Int32} {σ : MS} {Im : Nat → Int32} {t : Nat → Nat} {n : Nat} (hF : 1000 ≤ F) (ht : ∀ i, t i < 256) (hb : ∀ m, m < 7 → mb σ 32 m = lN (wdH 3 m)) (h3 : Ic 3 = 0) (h20 : Im 20 = 1) : ∀ (d br : Nat), br ≤ 8 → 9 ≤ d + br → SumL 19 true 5 F x1 S Ic σ Im t n br (C_3_sumD F d)
  | 0, br, h1, h2 => by omega
  | d + 1, br, h1, h2 => sumS hF ht (termS hF ht (partOrd hF ht hb h3 h20 h1 (fun h8 => sumOrd hF ht hb h3 h20 d (br + 1) (by omega) (by omega))))
