/-- the reference writes its clauses -/
theorem mF_n {σ : MS} {c k : Nat} {w : Nat → Int32} (h : k ≠ c) : ma (mF σ c w) k = ma σ k := by
  show va_up _ _ _ _ = _
  rw [up_d, if_neg h]
theorem mQ_w (σ : MS) (f g p q : Nat → Int32) (I : Nat → Int32) (v : Int64) (c j : Nat) (x : Int32) (w : Nat → Int32) (hc : c = 22 ∨ c = 49) : mA (mJ (mQ (mF σ c w) f g p q) I v) c j x = mJ (mQ (mF σ c (upd w j x)) f g p q) I v := by
  show (I, vp_updL σ.2.1 17 v, va_up (mQ (mF σ c w) f g p q).2.2.1 c (upd (ma (mQ (mF σ c w) f g p q) c) j x), σ.2.2.2) = (I, vp_updL σ.2.1 17 v, (mQ (mF σ c (upd w j x)) f g p q).2.2.1, σ.2.2.2)
  congr 3
  funext k
  have e := mQ_a (mF σ c w) f g p q k
  have e0 := mQ_a (mF σ c w) f g p q c
  have e' := mQ_a (mF σ c (upd w j x)) f g p q k
  rw [up_d]
  show (if k = c then upd (ma (mQ (mF σ c w) f g p q) c) j x else ma (mQ (mF σ c w) f g p q) k) = ma (mQ (mF σ c (upd w j x)) f g p q) k
  rw [e, e', e0]
  by_cases z : k = c
  · subst z
    rw [if_pos rfl, if_neg (by omega), if_neg (by omega), if_neg (by omega), if_neg (by omega), if_neg (by omega), if_neg (by omega), if_neg (by omega), if_neg (by omega), ma_F, ma_F]
  · rw [if_neg z, mF_n z, mF_n z]
/-- the reference between expressions: its pile and brackets are left open -/
def RW (σ : MS) (I0 : Nat → Int32) (t : Nat → Nat) (n s b pa : Nat) (fl : Option Nat) (f g : Nat → Int32) (τ : MS) : Prop := ∃ (I p q : Nat → Int32), τ = mJ (mQ σ f g p q) I (vlT t n s) ∧ TPm σ I t n ∧ TKm t n s I (vlT t n s) ∧ s ≤ n ∧ FL I I0 fl ∧ I 23 = nI b ∧ I 26 = nI pa ∧ b ≤ s ∧ ∀ k, k ≠ 14 → k ≠ 15 → k ≠ 16 → k ≠ 18 → k ≠ 19 → k ≠ 23 → k ≠ 26 → k ≠ 29 → k ≠ 30 → I k = I0 k
theorem rm_w {σ τ : MS} {I0 : Nat → Int32} {t : Nat → Nat} {n s b br pa : Nat} {l : List (Nat × Nat)} {fl : Option Nat} {f g : Nat → Int32} (h : RM σ I0 t n s b l br pa fl f g τ) : RW σ I0 t n s b pa fl f g τ := by
  obtain ⟨I, p, q, rfl, tp, tk, hs, hfl, h23, h29, h30, h26, pl, hb, hk⟩ := h
  exact ⟨I, p, q, rfl, tp, tk, hs, hfl, h23, h26, by omega, hk⟩
theorem rw_rst {σ τ : MS} {I0 : Nat → Int32} {t : Nat → Nat} {n s b pa : Nat} {fl : Option Nat} {f g : Nat → Int32} (h : RW σ I0 t n s b pa fl f g τ) : RM σ I0 t n s b [] 0 pa fl f g (mI (mI τ 29 0) 30 0) := by
  obtain ⟨I, p, q, rfl, tp, tk, hs, hfl, h23, h26, hb, hk⟩ := h
  rw [mJ_I, mJ_I]
  exact ⟨_, p, q, rfl, ⟨tp.1, by rw [pk_un (by decide), pk_un (by decide)]; exact tp.2.1, tp.2.2⟩, ⟨by rw [pk_un (by decide), pk_un (by decide)]; exact tk.1, by rw [pk_un (by decide), pk_un (by decide)]; exact tk.2.1, by rw [pk_un (by decide), pk_un (by decide)]; exact tk.2.2.1, rfl⟩, hs, FL_c hfl (by rw [pk_un (by decide), pk_un (by decide)]) (by rw [pk_un (by decide), pk_un (by decide)]), by rw [pk_un (by decide), pk_un (by decide)]; exact h23, by rw [pk_un (by decide), pk_us]; rfl, pk_us, by rw [pk_un (by decide), pk_un (by decide)]; exact h26, trivial, hb, fun k k1 k2 k3 k4 k5 k6 k7 k8 k9 => by rw [pk_un k9, pk_un k8]; exact hk k k1 k2 k3 k4 k5 k6 k7 k8 k9⟩
theorem m2930 (τ : MS) : mI (mI (mI (mI τ 29 0) 30 0) 29 0) 30 0 = mI (mI τ 29 0) 30 0 := by
  show (upd (upd (upd (upd τ.1 29 0) 30 0) 29 0) 30 0, τ.2) = (upd (upd τ.1 29 0) 30 0, τ.2)
  congr 1
  funext j
  rw [upd_d, upd_d, upd_d, upd_d]
  by_cases a : j = 30
  · rw [if_pos a, if_pos a]
  · rw [if_neg a, if_neg a]
    by_cases b : j = 29
    · rw [if_pos b, if_pos b]
    · rw [if_neg b, if_neg b]
theorem rx_rst (F : Nat) (τ : MS) (x : Int32) : M_readExpression F (mI (mI τ 29 0) 30 0) x = M_readExpression F τ x := by
  unfold M_readExpression
  simp only [stt_d]
  rw [m2930]
theorem rw_next {F : Nat} {σ τ : MS} {I0 : Nat → Int32} {t : Nat → Nat} {n s b pa : Nat} {fl : Option Nat} {f g : Nat → Int32} (hF : 1000 ≤ F) (ht : ∀ i, t i < 256) (h : RW σ I0 t n s b pa fl f g τ) : ∃ τ', M_next F τ = some ((), τ') ∧ RW σ I0 t n (nxT t n s) b pa fl f g τ' := by
  obtain ⟨I, p, q, rfl, tp, tk, hs, hfl, h23, h26, hb, hk⟩ := h
  obtain ⟨I', a1, a2, a3⟩ := qm_next (F := F) (σ := mQ σ f g p q) (v := vlT t n s) hF ht (tpQ tp) (en_le hs) tk.2.1
  have ge := nx_ge (t := t) hs
  exact ⟨_, a1, I', p, q, rfl, ⟨tp.1, (a3 13 (by decide) (by decide) (by decide)).trans tp.2.1, tp.2.2⟩, a2, nx_le hs, FL_c hfl (a3 19 (by decide) (by decide) (by decide)) (a3 18 (by decide) (by decide) (by decide)), (a3 23 (by decide) (by decide) (by decide)).trans h23, (a3 26 (by decide) (by decide) (by decide)).trans h26, by omega, fun k k1 k2 k3 k4 k5 k6 k7 k8 k9 => (a3 k k1 k2 k3).trans (hk k k1 k2 k3 k4 k5 k6 k7 k8 k9)⟩
theorem rw_19 {σ τ : MS} {I0 : Nat → Int32} {t : Nat → Nat} {n s b pa : Nat} {f g : Nat → Int32} (h : RW σ I0 t n s b pa none f g τ) : mi τ 19 = 0 := by
  obtain ⟨I, p, q, rfl, tp, tk, hs, hfl, -⟩ := h
  exact hfl.1
theorem rw_19f {σ τ : MS} {I0 : Nat → Int32} {t : Nat → Nat} {n s b pa v : Nat} {f g : Nat → Int32} (h : RW σ I0 t n s b pa (some v) f g τ) : mi τ 19 = 1 := by
  obtain ⟨I, p, q, rfl, tp, tk, hs, hfl, -⟩ := h
  exact hfl.1
theorem rw_must1 {F : Nat} {σ τ : MS} {I0 : Nat → Int32} {t : Nat → Nat} {n s b pa : Nat} {f g : Nat → Int32} (hF : 1000 ≤ F) (ht : ∀ i, t i < 256) (h : RW σ I0 t n s b pa none f g τ) : ∃ τ', M_must F τ 1 = some ((), τ') ∧ RW σ I0 t n (nxT t n s) b pa none f g τ' := by
  obtain ⟨τ', a1, a2⟩ := rw_next hF ht h
  unfold M_must M_must_B24
  rw [rw_19 h, if_pos rfl, if_neg (by decide), if_pos rfl, a1, bs]
  exact ⟨τ', rfl, a2⟩
theorem rw_must0 {F : Nat} {σ τ : MS} {I0 : Nat → Int32} {t : Nat → Nat} {n s b pa : Nat} {f g : Nat → Int32} (h : RW σ I0 t n s b pa none f g τ) : ∃ τ', M_must F τ 0 = some ((), τ') ∧ RW σ I0 t n s b pa (some s) f g τ' := by
  have h19 := rw_19 h
  obtain ⟨I, p, q, rfl, tp, tk, hs, hfl, h23, h26, hb, hk⟩ := h
  unfold M_must M_must_B24
  rw [h19, if_pos rfl, if_pos rfl, stt_d, stt_d, mJ_I, mi_J, pk_un (show 14 ≠ 19 by decide), tk.1, mJ_I, mi_J, pk_un (show 19 ≠ 18 by decide), pk_us, if_neg (by decide)]
  refine ⟨_, rfl, _, p, q, rfl, ⟨tp.1, by rw [pk_un (by decide), pk_un (by decide)]; exact tp.2.1, tp.2.2⟩, ⟨by rw [pk_un (by decide), pk_un (by decide)]; exact tk.1, by rw [pk_un (by decide), pk_un (by decide)]; exact tk.2.1, by rw [pk_un (by decide), pk_un (by decide)]; exact tk.2.2.1, rfl⟩, hs, ⟨by rw [pk_un (by decide), pk_us], pk_us⟩, by rw [pk_un (by decide), pk_un (by decide)]; exact h23, by rw [pk_un (by decide), pk_un (by decide)]; exact h26, hb, fun k k1 k2 k3 k4 k5 k6 k7 k8 k9 => ?_⟩
  rw [pk_un k4, pk_un k5]; exact hk k k1 k2 k3 k4 k5 k6 k7 k8 k9
theorem rw_mi {σ τ : MS} {I0 : Nat → Int32} {t : Nat → Nat} {n s b pa : Nat} {fl : Option Nat} {f g : Nat → Int32} (h : RW σ I0 t n s b pa fl f g τ) : mi τ 20 = I0 20 ∧ mi τ 16 = nI (kdT t n s) ∧ ml τ 17 = vlT t n s ∧ mi τ 23 = nI b ∧ mb τ = mb σ ∧ b ≤ s ∧ mi τ 21 = I0 21 := by
  obtain ⟨I, p, q, rfl, tp, tk, hs, hfl, h23, h26, hb, hk⟩ := h
  exact ⟨hk 20 (by decide) (by decide) (by decide) (by decide) (by decide) (by decide) (by decide) (by decide) (by decide), tk.2.2.1, ml_J _ _ _, h23, rfl, hb, hk 21 (by decide) (by decide) (by decide) (by decide) (by decide) (by decide) (by decide) (by decide) (by decide)⟩
theorem rw_word {σ τ : MS} {I0 : Nat → Int32} {t : Nat → Nat} {n s b pa x : Nat} {fl : Option Nat} {f g : Nat → Int32} (h : RW σ I0 t n s b pa fl f g τ) : M_isWord τ (lN x) = some (if isW t n s x then 1 else 0) := by
  obtain ⟨I, p, q, rfl, tp, tk, -⟩ := h
  exact qm_isWord tk
theorem rw_sg {σ τ : MS} {I0 : Nat → Int32} {t : Nat → Nat} {n s b pa x : Nat} {fl : Option Nat} {f g : Nat → Int32} (y : Int32) (hy : y = nI x) (ht : ∀ i, t i < 256) (hx : x < 256) (h : RW σ I0 t n s b pa fl f g τ) : M_isSign τ y = some (if isS t n s x then 1 else 0) := by
  obtain ⟨I, p, q, rfl, tp, tk, -⟩ := h
  rw [hy]; exact qm_isSign ht hx tk
theorem rd_wr {c j : Nat} {x : Int32} {w : Nat → Int32} {σ τ : MS} {I0 : Nat → Int32} {t : Nat → Nat} {n s b pa : Nat} {fl : Option Nat} {f g : Nat → Int32} (hc : c = 22 ∨ c = 49) (h : RW (mF σ c w) I0 t n s b pa fl f g τ) : RW (mF σ c (upd w j x)) I0 t n s b pa fl f g (mA τ c j x) := by
  obtain ⟨I, p, q, rfl, tp, r⟩ := h
  refine ⟨I, p, q, mQ_w σ f g p q I _ c j x w hc, ⟨tp.1, tp.2.1, fun i hi => ?_⟩, r⟩
  rw [mF_n (by omega)]
  have := tp.2.2 i hi
  rw [mF_n (by omega)] at this
  exact this
theorem rd_21 {x : Int32} {σ τ : MS} {I0 : Nat → Int32} {t : Nat → Nat} {n s b pa : Nat} {fl : Option Nat} {f g : Nat → Int32} (h : RW σ I0 t n s b pa fl f g τ) : RW σ (upd I0 21 x) t n s b pa fl f g (mI τ 21 x) := by
  obtain ⟨I, p, q, rfl, tp, tk, hs, hfl, h23, h26, hb, hk⟩ := h
  rw [mJ_I]
  refine ⟨upd I 21 x, p, q, rfl, ⟨tp.1, by rw [pk_un (by decide)]; exact tp.2.1, tp.2.2⟩, ⟨by rw [pk_un (by decide)]; exact tk.1, by rw [pk_un (by decide)]; exact tk.2.1, by rw [pk_un (by decide)]; exact tk.2.2.1, rfl⟩, hs, ?_, by rw [pk_un (by decide)]; exact h23, by rw [pk_un (by decide)]; exact h26, hb, fun k k1 k2 k3 k4 k5 k6 k7 k8 k9 => ?_⟩
  · cases fl with
    | none => exact ⟨by rw [pk_un (by decide)]; exact hfl.1, by rw [pk_un (by decide), pk_un (by decide)]; exact hfl.2⟩
    | some v => exact ⟨by rw [pk_un (by decide)]; exact hfl.1, by rw [pk_un (by decide)]; exact hfl.2⟩
  · by_cases z : k = 21
    · rw [z, pk_us, pk_us]
    · rw [pk_un z, pk_un z]; exact hk k k1 k2 k3 k4 k5 k6 k7 k8 k9
/-- a clause in the pool -/
def PO (P0 P : va_W) (z : Nat) (fs : List Value) : Prop := fnd P z = some (.inr (0, fs)) ∧ ∀ b, b ≠ z → fnd P b = fnd P0 b
theorem po_set {P0 P : va_W} {z : Nat} {fs : List Value} (h : PO P0 P z fs) (fs' : List Value) : PO P0 (pset P z (.inr (0, fs'))) z fs' := ⟨by rw [fnd_set, if_pos rfl, h.1]; rfl, fun b hb => by rw [fnd_set, if_neg hb]; exact h.2 b hb⟩
/-- a script that is being made -/
def SP (E : Nat → ClassId) (P : va_W) (zs nc : Nat) (cl : Nat → Option Nat) : Prop := fnd P zs = some (.inr (5, [.ref (zs + 1), .int (nI nc), .ref (zs + 2)])) ∧ fnd P (zs + 1) = some (.inl (E 4, 12, .inr (.inr (.inr (.inr cl)))))
theorem parQ_o {E : Nat → ClassId} {P : va_W} {a n : Nat} {f : Nat → Option Nat} (h : fnd P a = some (.inl (E 4, n, .inr (.inr (.inr (.inr f)))))) : parQ E P a = some (n, f) := by
  unfold parQ; rw [parq_f, h]
  show (if E 4 = E 4 then some (n, f) else none) = _
  exact if_pos rfl
theorem c_clamp {x : Nat} (h : x < 2 ^ 31) : (nI x).toNatClampNeg = x := nI_clamp h
/-- a clause is added -/
theorem k5_add {zs z z' nc : Nat} {E : Nat → ClassId} {T : CS} {P0 P1 : va_W} {fs : List Value} {cl : Nat → Option Nat} (o1 : PO P0 P1 z fs) (sp : SP E P0 zs nc cl) (hz : zs + 2 < z) (hn : nc < 12) : ∃ P', K_5_add E z' T P1 zs z = some ((), T, P') ∧ fnd P' z = some (.inr (0, fs)) ∧ SP E P' zs (nc + 1) (va_up cl nc (some z)) ∧ ∀ b, b ≠ z → b ≠ zs → b ≠ zs + 1 → fnd P' b = fnd P0 b := by
  have s1 := (o1.2 zs (by omega)).trans sp.1
  have s2 := (o1.2 (zs + 1) (by omega)).trans sp.2
  have q1 : fnd (pset P1 (zs + 1) (.inl (E 4, 12, .inr (.inr (.inr (.inr (va_up cl nc (some z)))))))) zs = some (.inr (5, [.ref (zs + 1), .int (nI nc), .ref (zs + 2)])) := by rw [fnd_set, if_neg (by omega)]; exact s1
  refine ⟨pset (pset P1 (zs + 1) (.inl (E 4, 12, .inr (.inr (.inr (.inr (va_up cl nc (some z)))))))) zs (.inr (5, [.ref (zs + 1), .int (nI (nc + 1)), .ref (zs + 2)])), ?_, ?_, ⟨?_, ?_⟩, fun b b1 b2 b3 => ?_⟩
  · unfold K_5_add
    rw [pI_o s1 rfl, bs, if_neg (show ¬ (12 : Int32) ≤ nI nc from nI_ge (b := 12) hn (by decide)), pR_o s1 rfl, bs, bs, parQ_o s2, bs, chk_t ⟨show inb (nI nc) 12 = true from inb_nI hn (by decide), by rw [pobj_o o1.1]; rfl⟩, stp_d, nI_clamp (by omega), pI_o q1 rfl, bs, pobj_o q1, bs, chk_t (by exact (show 1 < 3 by decide)), stp_d, chk_t (by decide), ← nI_succ]
    rfl
  · rw [fnd_set, if_neg (by omega), fnd_set, if_neg (by omega)]; exact o1.1
  · rw [fnd_set, if_pos rfl, q1]; rfl
  · rw [fnd_set, if_neg (by omega), fnd_set, if_pos rfl, s2]; rfl
  · rw [fnd_set, if_neg b2, fnd_set, if_neg b3]; exact o1.2 b b1
theorem kc_181 {F zs z nc : Nat} {E : Nat → ClassId} {T : CS} {P0 P : va_W} {x0 x1 x2 x3 x4 x5 : Int32} {cl : Nat → Option Nat} (ho : PO P0 P z [.int x0, .int x1, .int x2, .int x3, .int x4, .int x5]) (sp : SP E P0 zs nc cl) (hz : zs + 2 < z) (hn : nc < 12) : ∃ P', K_3_clause_B181 F E z T P 1 6 zs z = some (1, T, P') ∧ fnd P' z = some (.inr (0, [.int x0, .int x1, .int x2, .int x3, .int (ci T 9 2), .int x5])) ∧ SP E P' zs (nc + 1) (va_up cl nc (some z)) ∧ ∀ b, b ≠ z → b ≠ zs → b ≠ zs + 1 → fnd P' b = fnd P0 b := by
  have o1 := po_set ho (List.set [.int x0, .int x1, .int x2, .int x3, .int x4, .int x5] 4 (.int (ci T 9 2)))
  obtain ⟨P', e1, e2, e3, e4⟩ := k5_add (E := E) (T := T) (z' := z + 1) o1 sp hz hn
  refine ⟨P', ?_, e2, e3, e4⟩
  unfold K_3_clause_B181
  rw [pobj_o ho.1, bs, chk_t (by exact (show 4 < 6 by decide)), stp_d, chk_t (by rw [pobj_o ((o1.2 zs (by omega)).trans sp.1)]; rfl), chk_t ⟨mkok_f o1.1 rfl, by decide, by decide⟩, e1, bs, chk_t (by decide)]
/-- a test, or none -/
theorem ifPart {nw F : Nat} {ol : Bool} {S : CS} {Ic : Nat → Int32} {σ : MS} {Im : Nat → Int32} {t : Nat → Nat} {n s a b pa : Nat} {A f g : Nat → Int32} {T : CS} {τ : MS} (hF : 1000 ≤ F) (ht : ∀ i, t i < 256) (hT : TestL nw ol 1 F S Ic σ Im t n 0 (C_3_testD F 10)) (hc : RC S Ic t n s a 0 pa none A T) (hm : RW σ Im t n s b pa none f g τ) (ha : a + 1 ≤ s) (hb : b + 2 ≤ s) (hpa : pa ≤ 50) : (C_3_isKeyword F T 6 = some (0, T) ∧ M_isWord τ 294 = some 0) ∨ ∃ T1 τ1 s1, C_3_isKeyword F T 6 = some (1, T1) ∧ M_isWord τ 294 = some 1 ∧ M_next F τ = some ((), τ1) ∧ s < s1 ∧ (okE nw ol True S Ic σ Im t n s1 a b pa A f g (C_3_testD F 10 T1) (M_readExpression F τ1 1) ∨ okF S Ic σ Im t n (C_3_testD F 10 T1) (M_readExpression F τ1 1)) := by
  have hw : M_isWord τ 294 = some (if isW t n s (wdH 6 0) then 1 else 0) := rw_word (x := 294) hm
  rcases rc_kw hF ht (show 6 < 10 by decide) rfl hc with ⟨w1, T1, w2, w3⟩ | ⟨w1, w2⟩
  · obtain ⟨τ1, m1, m2⟩ := rw_next hF ht hm
    have nx : s + 2 ≤ nxT t n s := nx_w (i := 6) (m := 0) (by decide) (by decide) w1
    refine Or.inr ⟨T1, τ1, nxT t n s, w2, by rw [hw, w1]; rfl, m1, by omega, by rw [← rx_rst]; exact exprT hF hT w3 (rw_rst m2) (by omega) (by omega) hpa⟩
  · exact Or.inl ⟨w2, by rw [hw, w1]; rfl⟩
