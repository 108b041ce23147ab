theorem k0i {E : Nat → ClassId} {z' z : Nat} {T : CS} {P P1 : va_W} {x1 x2 : Int32} (h : PO P P1 z [.int 0, .int 0, .int 0, .int 0, .int 0, .int 0]) : ∃ P2, K_0_init E z' T P1 z x1 x2 = some ((), T, P2) ∧ PO P P2 z [.int x1, .int x2, .int 0, .int 0, .int 0, .int 1] := by
  have o1 := po_set h (List.set [.int 0, .int 0, .int 0, .int 0, .int 0, .int 0] 5 (.int (1 : Int32)))
  have o2 := po_set o1 (List.set (List.set [.int 0, .int 0, .int 0, .int 0, .int 0, .int 0] 5 (.int (1 : Int32))) 0 (.int x1))
  have o3 := po_set o2 (List.set (List.set (List.set [.int 0, .int 0, .int 0, .int 0, .int 0, .int 0] 5 (.int (1 : Int32))) 0 (.int x1)) 1 (.int x2))
  refine ⟨_, ?_, o3⟩
  unfold K_0_init
  rw [pobj_o h.1, bs, chk_t (by exact (show 5 < 6 by decide)), stp_d, pobj_o o1.1, bs, chk_t (by exact (show 0 < 6 by decide)), stp_d, pobj_o o2.1, bs, chk_t (by exact (show 1 < 6 by decide)), stp_d, chk_t (by decide)]
abbrev CLT : Type := (Nat → Int32) → (Nat → Int32) → (Nat → Int32) → (Nat → Int32) → Nat → Nat → Nat → List Value → Prop
def LOK (c : Nat) (CL : CLT) (E : Nat → ClassId) (S : CS) (Ic : Nat → Int32) (σ : MS) (Im : Nat → Int32) (t : Nat → Nat) (n s zs z nc : Nat) (cl : Nat → Option Nat) (P0 : va_W) (A f g w : Nat → Int32) (a b : Nat) (cK : Option (Int32 × CS × va_W)) (m : Option (Unit × MS)) : Prop := ∃ (T' : CS) (τ' : MS) (P' : va_W) (s' a' b' pa' : Nat) (A' f' g' w' : Nat → Int32) (fs : List Value), cK = some (1, T', P') ∧ m = some ((), τ') ∧ RC S Ic t n s' a' 0 pa' none A' T' ∧ RW (mF σ c w') Im t n s' b' pa' none f' g' τ' ∧ s ≤ s' ∧ a' + 1 ≤ s' ∧ pa' ≤ 50 ∧ a ≤ a' ∧ b ≤ b' ∧ (∀ k, k < 2 * a → A' k = A k) ∧ (∀ k, k < b → f' k = f k ∧ g' k = g k) ∧ (∀ j, j < 8 * nc ∨ 8 * nc + 8 ≤ j → w' j = w j) ∧ CL A' f' g' w' (8 * nc) a' b' fs ∧ fnd P' z = some (.inr (0, fs)) ∧ SP E P' zs (nc + 1) (va_up cl nc (some z)) ∧ ∀ b, b ≠ z → b ≠ zs → b ≠ zs + 1 → fnd P' b = fnd P0 b
def LFL (c : Nat) (S : CS) (Ic : Nat → Int32) (σ : MS) (Im : Nat → Int32) (t : Nat → Nat) (n z : Nat) (P0 : va_W) (cK : Option (Int32 × CS × va_W)) (m : Option (Unit × MS)) : Prop := ∃ (v : Nat) (T' : CS) (τ' : MS) (P' : va_W), v ≤ 400 ∧ cK = some (0, T', P') ∧ m = some ((), τ') ∧ (∃ s a br pa A, RC S Ic t n s a br pa (some v) A T') ∧ (∃ w x s b pa f g, RW (mF σ c w) (upd Im 21 x) t n s b pa (some v) f g τ') ∧ ∀ b, b ≠ z → fnd P' b = fnd P0 b
theorem LOK_mv {c : Nat} {CL : CLT} {E : Nat → ClassId} {S : CS} {Ic : Nat → Int32} {σ : MS} {Im : Nat → Int32} {t : Nat → Nat} {n s s0 zs z nc : Nat} {cl : Nat → Option Nat} {P0 : va_W} {A f g w A0 f0 g0 w0 : Nat → Int32} {a b a0 b0 : Nat} {cK : Option (Int32 × CS × va_W)} {m : Option (Unit × MS)} (hs : s0 ≤ s) (ha : a0 ≤ a) (hb : b0 ≤ b) (hA : ∀ k, k < 2 * a0 → A k = A0 k) (hf : ∀ k, k < b0 → f k = f0 k ∧ g k = g0 k) (hw : ∀ j, j < 8 * nc ∨ 8 * nc + 8 ≤ j → w j = w0 j) (h : LOK c CL E S Ic σ Im t n s zs z nc cl P0 A f g w a b cK m) : LOK c CL E S Ic σ Im t n s0 zs z nc cl P0 A0 f0 g0 w0 a0 b0 cK m := by
  obtain ⟨T', τ', P', s', a', b', pa', A', f', g', w', fs, h1, h2, h3, h4, h5, h6, h7, h8, h9, h10, h11, h12, h13⟩ := h
  refine ⟨T', τ', P', s', a', b', pa', A', f', g', w', fs, h1, h2, h3, h4, by omega, h6, h7, by omega, by omega, fun k hk => (h10 k (by omega)).trans (hA k hk), fun k hk => ⟨(h11 k (by omega)).1.trans (hf k hk).1, (h11 k (by omega)).2.trans (hf k hk).2⟩, fun j hj => (h12 j hj).trans (hw j hj), h13⟩
/-- the class's clause of a law behind its sum -/
theorem kc_71L {F zs z a : Nat} {E : Nat → ClassId} {T : CS} {P0 P : va_W} {x0 x1 x2 x3 x4 x5 y : Int32} (h3 : ci T 9 3 = 1) (h2 : ci T 9 2 = nI (2 * a)) (ho : PO P0 P z [.int x0, .int x1, .int x2, .int x3, .int x4, .int x5]) : ∃ P1, K_3_clause_B71 F E z T P 1 6 zs y z = K_3_clause_B163 F E z T P1 1 6 zs z ∧ PO P0 P1 z [.int x0, .int x1, .int (nI (2 * a)), .int (nI (2 * a)), .int x4, .int x5] := by
  have o1 := po_set ho (List.set [.int x0, .int x1, .int x2, .int x3, .int x4, .int x5] 2 (.int (nI (2 * a))))
  have o2 := po_set o1 (List.set (List.set [.int x0, .int x1, .int x2, .int x3, .int x4, .int x5] 2 (.int (nI (2 * a)))) 3 (.int (nI (2 * a))))
  refine ⟨_, ?_, o2⟩
  unfold K_3_clause_B71 K_3_clause_B112
  rw [h3, h2, pobj_o ho.1, bs, chk_t (by exact (show 2 < 6 by decide)), stp_d, if_neg (show ¬ (1 : Int32) = 0 by decide), pobj_o o1.1, bs, chk_t (by exact (show 3 < 6 by decide)), stp_d, if_neg (show ¬ (1 : Int32) = 0 by decide)]
theorem lawTail {F zs z nc k b0 s0 : Nat} {E : Nat → ClassId} {S : CS} {Ic : Nat → Int32} {σ : MS} {Im : Nat → Int32} {t : Nat → Nat} {n s a b pa : Nat} {A f g w : Nat → Int32} {T : CS} {τ : MS} {P0 P : va_W} {x2 x3 x4 y q : Int32} {cl : Nat → Option Nat} (hF : 1000 ≤ F) (ht : ∀ i, t i < 256) (hT : ∀ w', TestL 9 false 1 F S Ic (mF σ 22 w') (upd Im 21 q) t n 0 (C_3_testD F 10)) (h3 : Ic 3 = 1) (hc : RC S Ic t n s a 0 pa none A T) (hm : RW (mF σ 22 w) (upd Im 21 q) t n s b pa none f g τ) (ha : a + 1 ≤ s) (hb : b + 2 ≤ s) (hpa : pa ≤ 50) (ho : PO P0 P z [.int (nI k), .int (nI (2 * b0)), .int x2, .int x3, .int x4, .int 1]) (sp : SP E P0 zs nc cl) (hz : zs + 2 < z) (hn : nc < 12) (hk : k < 3) (w0 : w (8 * nc) = nI k) (w3 : w (8 * nc + 3) = nI s0) (hs0 : s0 ≤ b) (hsum : k ≠ 2 → ∃ φ, Seg 9 (ccd A) b0 a 50 φ ∧ Seg 9 (rcf false f g) s0 b 50 φ) : LOK 22 CLa E S Ic σ (upd Im 21 q) t n s zs z nc cl P0 A f g w a b (K_3_clause_B71 F E z T P 1 6 zs y z) (M_readLaw_B135 F τ (nI (8 * nc))) ∨ LFL 22 S Ic σ Im t n z P0 (K_3_clause_B71 F E z T P 1 6 zs y z) (M_readLaw_B135 F τ (nI (8 * nc))) := by
  obtain ⟨r1, r2, r3, r4, r5, r6, r7, r8⟩ := rc_ci hc
  obtain ⟨P1, eK, o1⟩ := kc_71L (F := F) (E := E) (zs := zs) (y := y) (r3.trans h3) r5 ho
  have h23 : ∀ {w' : Nat → Int32} {τ' : MS} {s b pa : Nat} {fl : Option Nat} {f g : Nat → Int32}, RW (mF σ 22 w') (upd Im 21 q) t n s b pa fl f g τ' → mi τ' 23 = nI b := fun h => (rw_mi h).2.2.2.1
  have m1 := rd_wr (j := 8 * nc + 4) (x := nI b) (Or.inl rfl) hm
  have m2 := rd_wr (j := 8 * nc + 5) (x := nI b) (Or.inl rfl) m1
  have eM : M_readLaw_B135 F τ (nI (8 * nc)) = (M_isWord (mA (mA τ 22 (8 * nc + 4) (nI b)) 22 (8 * nc + 5) (nI b)) 294).bind fun q4 => if q4 = 0 then M_readLaw_B185 F (mA (mA τ 22 (8 * nc + 4) (nI b)) 22 (8 * nc + 5) (nI b)) (nI (8 * nc)) else (M_next F (mA (mA τ 22 (8 * nc + 4) (nI b)) 22 (8 * nc + 5) (nI b))).bind fun q5 => (M_readExpression F q5.2 (1 : Int32)).bind fun q6 => M_readLaw_B185 F q6.2 (nI (8 * nc)) := by
    unfold M_readLaw_B135
    rw [show nI (8 * nc) + 4 = nI (8 * nc + 4) from nI_add _ 4, show nI (8 * nc) + 5 = nI (8 * nc + 5) from nI_add _ 5, chk_in (show 8 * nc + 4 < 96 by omega) (by decide), nI_clamp (by omega), stt_d, h23 hm, chk_in (show 8 * nc + 5 < 96 by omega) (by decide), nI_clamp (by omega), h23 m1, stt_d, rw_19 m2, if_pos rfl]
  have e185 : ∀ {w' : Nat → Int32} {τ' : MS} {s b pa : Nat} {fl : Option Nat} {f g : Nat → Int32}, RW (mF σ 22 w') (upd Im 21 q) t n s b pa fl f g τ' → ∃ τ'', M_readLaw_B185 F τ' (nI (8 * nc)) = some ((), τ'') ∧ RW (mF σ 22 (upd w' (8 * nc + 6) (nI b))) (upd Im 21 q) t n s b pa fl f g τ'' := fun {w' τ' s b pa fl f g} h => by
    refine ⟨mA τ' 22 (8 * nc + 6) (nI b), ?_, rd_wr (Or.inl rfl) h⟩
    unfold M_readLaw_B185
    rw [show nI (8 * nc) + 6 = nI (8 * nc + 6) from nI_add _ 6, chk_in (show 8 * nc + 6 < 96 by omega) (by decide), nI_clamp (by omega), stt_d, h23 h]
  have wv : ∀ (x : Int32) (j : Nat), (j < 8 * nc ∨ 8 * nc + 8 ≤ j ∨ j = 8 * nc ∨ j = 8 * nc + 3) → upd (upd (upd w (8 * nc + 4) (nI b)) (8 * nc + 5) (nI b)) (8 * nc + 6) x j = w j := fun x j hj => by rw [pk_un (by omega), pk_un (by omega), pk_un (by omega)]
  rw [eK, eM]
  rcases kc_163 (F := F) hF ht (hT _) hc m2 ha hb hpa o1 sp hz hn with ⟨P', k1, k2, k3, k4, k5⟩ | ⟨T1, τ1, τ2, P', s', a', b', pa', A', f', g', φ, k1, k2, k3, k4, k5, k6, k7, k8, k9, k10, k11, k12, k13, k14, k15, k16, k17⟩ | ⟨v, T1, τ1, τ2, v1, k1, k2, k3, k4, k5, s1, b1, pa1, f1, g1, k6⟩
  · obtain ⟨τ3, d1, d2⟩ := e185 m2
    rw [k1, k2, bs, if_pos rfl, d1]
    refine Or.inl ⟨T, τ3, P', s, a, b, pa, A, f, g, _, _, rfl, rfl, hc, d2, Nat.le_refl _, ha, hpa, Nat.le_refl _, Nat.le_refl _, fun k _ => rfl, fun k _ => ⟨rfl, rfl⟩, fun j hj => wv _ j (by omega), ?_, k3, k4, k5⟩
    exact ⟨k, b0, a, a, a, s0, b, b, b, rfl, hk, (wv _ _ (by omega)).trans w0, (wv _ _ (by omega)).trans w3, by rw [pk_un (by omega), pk_un (by omega), pk_us], by rw [pk_un (by omega), pk_us], pk_us, Nat.le_refl _, Nat.le_refl _, Nat.le_refl _, hs0, Nat.le_refl _, Nat.le_refl _, Nat.le_refl _, hsum, Or.inl ⟨Nat.le_refl _, Nat.le_refl _⟩⟩
  · obtain ⟨τ3, d1, d2⟩ := e185 k6
    rw [k1, k2, bs, if_neg (show ¬ (1 : Int32) = 0 by decide), k3, bs, k4, bs, d1]
    have aa : a ≤ a' := by have := k11.1.1; omega
    have bb : b ≤ b' := by have := k12.1.1; omega
    refine Or.inl ⟨T1, τ3, P', s', a', b', pa', A', f', g', _, _, rfl, rfl, k5, d2, by omega, by omega, k10, aa, bb, k13, k14, fun j hj => wv _ j (by omega), ?_, k15, k16, k17⟩
    refine ⟨k, b0, a, a, a', s0, b, b, b', rfl, hk, (wv _ _ (by omega)).trans w0, (wv _ _ (by omega)).trans w3, by rw [pk_un (by omega), pk_un (by omega), pk_us], by rw [pk_un (by omega), pk_us], pk_us, aa, aa, Nat.le_refl _, by omega, bb, bb, Nat.le_refl _, fun q => ?_, Or.inr ⟨φ, k11, k12⟩⟩
    obtain ⟨ψ, g1, g2⟩ := hsum q
    exact ⟨ψ, g1.cg (fun k _ hk => ccd_c k13 hk), g2.cg (fun k _ hk => (rcf_c (k14 k hk).1 (k14 k hk).2).symm)⟩
  · obtain ⟨τ3, d1, d2⟩ := e185 k6
    rw [k1, k2, bs, if_neg (show ¬ (1 : Int32) = 0 by decide), k3, bs, k4, bs, d1]
    exact Or.inr ⟨v, T1, τ3, P1, v1, rfl, rfl, k5, ⟨_, _, _, _, _, _, _, d2⟩, o1.2⟩
