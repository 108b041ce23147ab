/-- the reference while it reads: code f g, pile p q -/
def mQ (σ : MS) (f g p q : Nat → Int32) : MS := mF (mF (mF (mF σ 24 f) 25 g) 27 p) 28 q
theorem mQ_a (σ : MS) (f g p q : Nat → Int32) (k : Nat) : ma (mQ σ f g p q) k = if k = 28 then q else if k = 27 then p else if k = 25 then g else if k = 24 then f else ma σ k := rfl
theorem mQ_24 (σ : MS) (f g p q : Nat → Int32) (I : Nat → Int32) (v : Int64) (j : Nat) (x : Int32) : mA (mJ (mQ σ f g p q) I v) 24 j x = mJ (mQ σ (upd f j x) g p q) I v := by
  show (I, vp_updL σ.2.1 17 v, va_up (mQ σ f g p q).2.2.1 24 (upd f j x), σ.2.2.2) = (I, vp_updL σ.2.1 17 v, (mQ σ (upd f j x) g p q).2.2.1, σ.2.2.2)
  congr 3
  funext k
  have e := mQ_a σ f g p q k
  have e' := mQ_a σ (upd f j x) g p q k
  rw [up_d]
  show (if k = 24 then upd f j x else ma (mQ σ f g p q) k) = ma (mQ σ (upd f j x) g p q) k
  rw [e, e']
  by_cases z : k = 24
  · subst z; rfl
  · rw [if_neg z, if_neg z, if_neg z]
theorem mQ_25 (σ : MS) (f g p q : Nat → Int32) (I : Nat → Int32) (v : Int64) (j : Nat) (x : Int32) : mA (mJ (mQ σ f g p q) I v) 25 j x = mJ (mQ σ f (upd g j x) p q) I v := by
  show (I, vp_updL σ.2.1 17 v, va_up (mQ σ f g p q).2.2.1 25 (upd g j x), σ.2.2.2) = (I, vp_updL σ.2.1 17 v, (mQ σ f (upd g j x) p q).2.2.1, σ.2.2.2)
  congr 3
  funext k
  have e := mQ_a σ f g p q k
  have e' := mQ_a σ f (upd g j x) p q k
  rw [up_d]
  show (if k = 25 then upd g j x else ma (mQ σ f g p q) k) = ma (mQ σ f (upd g j x) p q) k
  rw [e, e']
  by_cases z : k = 25
  · subst z; rfl
  · rw [if_neg z, if_neg z, if_neg z]
theorem mQ_27 (σ : MS) (f g p q : Nat → Int32) (I : Nat → Int32) (v : Int64) (j : Nat) (x : Int32) : mA (mJ (mQ σ f g p q) I v) 27 j x = mJ (mQ σ f g (upd p j x) q) I v := by
  show (I, vp_updL σ.2.1 17 v, va_up (mQ σ f g p q).2.2.1 27 (upd p j x), σ.2.2.2) = (I, vp_updL σ.2.1 17 v, (mQ σ f g (upd p j x) q).2.2.1, σ.2.2.2)
  congr 3
  funext k
  have e := mQ_a σ f g p q k
  have e' := mQ_a σ f g (upd p j x) q k
  rw [up_d]
  show (if k = 27 then upd p j x else ma (mQ σ f g p q) k) = ma (mQ σ f g (upd p j x) q) k
  rw [e, e']
  by_cases z : k = 27
  · subst z; rfl
  · rw [if_neg z, if_neg z, if_neg z]
theorem mQ_28 (σ : MS) (f g p q : Nat → Int32) (I : Nat → Int32) (v : Int64) (j : Nat) (x : Int32) : mA (mJ (mQ σ f g p q) I v) 28 j x = mJ (mQ σ f g p (upd q j x)) I v := by
  show (I, vp_updL σ.2.1 17 v, va_up (mQ σ f g p q).2.2.1 28 (upd q j x), σ.2.2.2) = (I, vp_updL σ.2.1 17 v, (mQ σ f g p (upd q j x)).2.2.1, σ.2.2.2)
  congr 3
  funext k
  have e := mQ_a σ f g p q k
  have e' := mQ_a σ f g p (upd q j x) k
  rw [up_d]
  show (if k = 28 then upd q j x else ma (mQ σ f g p q) k) = ma (mQ σ f g p (upd q j x)) k
  rw [e, e']
  by_cases z : k = 28
  · subst z; rfl
  · rw [if_neg z, if_neg z, if_neg z]
/-- how a sign of the pile binds -/
def bd (o : Nat) : Nat := if o = 30 then 1 else if o = 29 then 2 else if o = 28 then 3 else if o < 25 then (if o < 22 then 5 else 6) else if o < 28 then 4 else 0
theorem qm_binds : ∀ o, o < 33 → M_binds (nI o) = some (nI (bd o)) := by decide +kernel
theorem bd_6 : ∀ o, o < 33 → bd o ≤ 6 := by decide +kernel
/-- a pile, top first -/
def PL (p q : Nat → Int32) : List (Nat × Nat) → Prop
  | [] => True
  | e :: l => (p l.length = nI e.1 ∧ q l.length = nI e.2 ∧ 20 ≤ e.1 ∧ e.1 < 33 ∧ e.2 < 400) ∧ PL p q l
theorem PL_c {p q p' q' : Nat → Int32} : ∀ l : List (Nat × Nat), (∀ k, k < l.length → p' k = p k ∧ q' k = q k) → PL p q l → PL p' q' l
  | [], _, _ => trivial
  | e :: l, h, ⟨⟨a, b, c⟩, d⟩ => ⟨⟨(h l.length (Nat.lt_succ_self _)).1.trans a, (h l.length (Nat.lt_succ_self _)).2.trans b, c⟩, PL_c l (fun k hk => h k (Nat.lt_succ_of_lt hk)) d⟩
/-- the code once a part of the pile is settled -/
def pst : List (Nat × Nat) → (Nat → Int32) → (Nat → Int32) → Nat → (Nat → Int32) × (Nat → Int32) × Nat
  | [], f, g, b => (f, g, b)
  | e :: l, f, g, b => if e.1 = 29 ∨ e.1 = 30 then pst l f (upd g e.2 (nI b)) b else pst l (upd f b (nI e.1)) (upd g b 0) (b + 1)
theorem pst_b : ∀ (l : List (Nat × Nat)) (f g : Nat → Int32) (b : Nat), b ≤ (pst l f g b).2.2 ∧ (pst l f g b).2.2 ≤ b + l.length
  | [], f, g, b => ⟨Nat.le_refl _, Nat.le_refl _⟩
  | e :: l, f, g, b => by
    unfold pst
    by_cases z : e.1 = 29 ∨ e.1 = 30
    · rw [if_pos z]
      have := pst_b l f (upd g e.2 (nI b)) b
      show _ ∧ _ ≤ b + (l.length + 1)
      omega
    · rw [if_neg z]
      have := pst_b l (upd f b (nI e.1)) (upd g b 0) (b + 1)
      show _ ∧ _ ≤ b + (l.length + 1)
      omega
/-- failed, and where -/
def FL (I I0 : Nat → Int32) : Option Nat → Prop
  | none => I 19 = 0 ∧ I 18 = I0 18
  | some v => I 19 = 1 ∧ I 18 = nI v
def RM (σ : MS) (I0 : Nat → Int32) (t : Nat → Nat) (n s b : Nat) (l : List (Nat × Nat)) (br pa : Nat) (fl : Option Nat) (f g : Nat → Int32) (τ : MS) : Prop := ∃ (I p q : Nat → Int32), τ = mJ (mQ σ f g p q) I (vlT t n s) ∧ TPm σ I t n ∧ TKm t n s I (vlT t n s) ∧ s ≤ n ∧ FL I I0 fl ∧ I 23 = nI b ∧ I 29 = nI l.length ∧ I 30 = nI br ∧ I 26 = nI pa ∧ PL p q l ∧ b + l.length ≤ s ∧ ∀ k, k ≠ 14 → k ≠ 15 → k ≠ 16 → k ≠ 18 → k ≠ 19 → k ≠ 23 → k ≠ 26 → k ≠ 29 → k ≠ 30 → I k = I0 k
theorem tpQ {σ : MS} {f g p q I : Nat → Int32} {t : Nat → Nat} {n : Nat} (h : TPm σ I t n) : TPm (mQ σ f g p q) I t n := h
theorem FL_c {I I' I0 : Nat → Int32} {fl : Option Nat} (h : FL I I0 fl) (a : I' 19 = I 19) (b : I' 18 = I 18) : FL I' I0 fl := by
  cases fl with
  | none => exact ⟨a.trans h.1, b.trans h.2⟩
  | some v => exact ⟨a.trans h.1, b.trans h.2⟩
theorem rd_next {F : Nat} {σ τ : MS} {I0 : Nat → Int32} {t : Nat → Nat} {n s b br pa : Nat} {l : List (Nat × Nat)} {fl : Option Nat} {f g : Nat → Int32} (hF : 1000 ≤ F) (ht : ∀ i, t i < 256) (h : RM σ I0 t n s b l br pa fl f g τ) : ∃ τ', M_next F τ = some ((), τ') ∧ RM σ I0 t n (nxT t n s) b l br pa fl f g τ' := by
  obtain ⟨I, p, q, rfl, tp, tk, hs, hfl, h23, h29, h30, h26, pl, hb, hk⟩ := h
  obtain ⟨I', a1, a2, a3⟩ := qm_next (F := F) (σ := mQ σ f g p q) (v := vlT t n s) hF ht (tpQ tp) (en_le hs) tk.2.1
  have ge : s ≤ nxT t n s := by
    have := sk_le (t := t) (en_le (t := t) hs)
    by_cases z : s < n
    · exact Nat.le_of_lt (nx_gt z).1
    · have : enT t n s = s := by unfold enT; rw [if_pos (by omega)]
      unfold nxT; omega
  refine ⟨_, a1, I', p, q, rfl, ⟨tp.1, (a3 13 (by decide) (by decide) (by decide)).trans tp.2.1, tp.2.2⟩, a2, nx_le hs, FL_c hfl (a3 19 (by decide) (by decide) (by decide)) (a3 18 (by decide) (by decide) (by decide)), (a3 23 (by decide) (by decide) (by decide)).trans h23, (a3 29 (by decide) (by decide) (by decide)).trans h29, (a3 30 (by decide) (by decide) (by decide)).trans h30, (a3 26 (by decide) (by decide) (by decide)).trans h26, pl, by omega, fun k k1 k2 k3 k4 k5 k6 k7 k8 k9 => (a3 k k1 k2 k3).trans (hk k k1 k2 k3 k4 k5 k6 k7 k8 k9)⟩
theorem rd_19 {σ τ : MS} {I0 : Nat → Int32} {t : Nat → Nat} {n s b br pa : Nat} {l : List (Nat × Nat)} {f g : Nat → Int32} (h : RM σ I0 t n s b l br pa none f g τ) : mi τ 19 = 0 := by
  obtain ⟨I, p, q, rfl, tp, tk, hs, hfl, -⟩ := h
  exact hfl.1
theorem rd_19f {σ τ : MS} {I0 : Nat → Int32} {t : Nat → Nat} {n s b br pa v : Nat} {l : List (Nat × Nat)} {f g : Nat → Int32} (h : RM σ I0 t n s b l br pa (some v) f g τ) : mi τ 19 = 1 := by
  obtain ⟨I, p, q, rfl, tp, tk, hs, hfl, -⟩ := h
  exact hfl.1
theorem rd_must1 {F : Nat} {σ τ : MS} {I0 : Nat → Int32} {t : Nat → Nat} {n s b br pa : Nat} {l : List (Nat × Nat)} {f g : Nat → Int32} (hF : 1000 ≤ F) (ht : ∀ i, t i < 256) (h : RM σ I0 t n s b l br pa none f g τ) : ∃ τ', M_must F τ 1 = some ((), τ') ∧ RM σ I0 t n (nxT t n s) b l br pa none f g τ' := by
  obtain ⟨τ', a1, a2⟩ := rd_next hF ht h
  unfold M_must M_must_B24
  rw [rd_19 h, if_pos rfl, if_neg (by decide), if_pos rfl, a1, bs]
  exact ⟨τ', rfl, a2⟩
theorem rd_must0 {F : Nat} {σ τ : MS} {I0 : Nat → Int32} {t : Nat → Nat} {n s b br pa : Nat} {l : List (Nat × Nat)} {f g : Nat → Int32} (h : RM σ I0 t n s b l br pa none f g τ) : ∃ τ', M_must F τ 0 = some ((), τ') ∧ RM σ I0 t n s b l br pa (some s) f g τ' := by
  have h19 := rd_19 h
  obtain ⟨I, p, q, rfl, tp, tk, hs, hfl, h23, h29, h30, h26, pl, hb, hk⟩ := h
  unfold M_must M_must_B24
  rw [h19, if_pos rfl, if_pos rfl, stt_d, stt_d, mJ_I, mi_J, pk_un (show 14 ≠ 19 by decide), tk.1, mJ_I, mi_J, pk_un (show 19 ≠ 18 by decide), pk_us, if_neg (by decide)]
  refine ⟨_, rfl, _, p, q, rfl, ⟨tp.1, by rw [pk_un (by decide), pk_un (by decide)]; exact tp.2.1, tp.2.2⟩, ⟨by rw [pk_un (by decide), pk_un (by decide)]; exact tk.1, by rw [pk_un (by decide), pk_un (by decide)]; exact tk.2.1, by rw [pk_un (by decide), pk_un (by decide)]; exact tk.2.2.1, rfl⟩, hs, ⟨by rw [pk_un (by decide), pk_us], pk_us⟩, by rw [pk_un (by decide), pk_un (by decide)]; exact h23, by rw [pk_un (by decide), pk_un (by decide)]; exact h29, by rw [pk_un (by decide), pk_un (by decide)]; exact h30, by rw [pk_un (by decide), pk_un (by decide)]; exact h26, pl, hb, fun k k1 k2 k3 k4 k5 k6 k7 k8 k9 => ?_⟩
  rw [pk_un k4, pk_un k5]; exact hk k k1 k2 k3 k4 k5 k6 k7 k8 k9
theorem rd_emit {σ τ : MS} {I0 : Nat → Int32} {t : Nat → Nat} {n s b br pa : Nat} {l : List (Nat × Nat)} {fl : Option Nat} {f g : Nat → Int32} {o x : Int32} (h : RM σ I0 t n s b l br pa fl f g τ) (hb1 : b + 1 + l.length ≤ s) : ∃ τ', M_emit τ o x = some ((), τ') ∧ RM σ I0 t n s (b + 1) l br pa fl (upd f b o) (upd g b x) τ' := by
  obtain ⟨I, p, q, rfl, tp, tk, hs, hfl, h23, h29, h30, h26, pl, hb, hk⟩ := h
  have hn := tp.1
  unfold M_emit
  rw [mi_J, h23, chk_in (show b < 400 by omega) (by decide), stt_d, nI_clamp (by omega), mQ_24, mi_J, h23, chk_in (show b < 400 by omega) (by decide), stt_d, nI_clamp (by omega), mQ_25, stt_d, mi_J, h23, mJ_I, ← nI_succ]
  refine ⟨_, rfl, _, p, q, rfl, ⟨tp.1, by rw [pk_un (by decide)]; exact tp.2.1, tp.2.2⟩, ⟨by rw [pk_un (by decide)]; exact tk.1, by rw [pk_un (by decide)]; exact tk.2.1, by rw [pk_un (by decide)]; exact tk.2.2.1, rfl⟩, hs, FL_c hfl (pk_un (by decide)) (pk_un (by decide)), pk_us, by rw [pk_un (by decide)]; exact h29, by rw [pk_un (by decide)]; exact h30, by rw [pk_un (by decide)]; exact h26, pl, hb1, fun k k1 k2 k3 k4 k5 k6 k7 k8 k9 => ?_⟩
  rw [pk_un k6]; exact hk k k1 k2 k3 k4 k5 k6 k7 k8 k9
theorem rd_push {σ τ : MS} {I0 : Nat → Int32} {t : Nat → Nat} {n s b br pa : Nat} {l : List (Nat × Nat)} {fl : Option Nat} {f g : Nat → Int32} {o x : Nat} (h : RM σ I0 t n s b l br pa fl f g τ) (ho : 20 ≤ o ∧ o < 33) (hx : x < 400) (hb1 : b + (l.length + 1) ≤ s) : ∃ τ', M_push τ (nI o) (nI x) = some ((), τ') ∧ RM σ I0 t n s b ((o, x) :: l) br pa fl f g τ' := by
  obtain ⟨I, p, q, rfl, tp, tk, hs, hfl, h23, h29, h30, h26, pl, hb, hk⟩ := h
  have hn := tp.1
  unfold M_push
  rw [mi_J, h29, chk_in (show l.length < 400 by omega) (by decide), stt_d, nI_clamp (by omega), mQ_27, mi_J, h29, chk_in (show l.length < 400 by omega) (by decide), stt_d, nI_clamp (by omega), mQ_28, stt_d, mi_J, h29, mJ_I, ← nI_succ]
  refine ⟨_, rfl, _, _, _, rfl, ⟨tp.1, by rw [pk_un (by decide)]; exact tp.2.1, tp.2.2⟩, ⟨by rw [pk_un (by decide)]; exact tk.1, by rw [pk_un (by decide)]; exact tk.2.1, by rw [pk_un (by decide)]; exact tk.2.2.1, rfl⟩, hs, FL_c hfl (pk_un (by decide)) (pk_un (by decide)), by rw [pk_un (by decide)]; exact h23, pk_us, by rw [pk_un (by decide)]; exact h30, by rw [pk_un (by decide)]; exact h26, ⟨⟨pk_us, pk_us, ho.1, ho.2, hx⟩, PL_c l (fun k hk => ⟨pk_un (by omega), pk_un (by omega)⟩) pl⟩, hb1, fun k k1 k2 k3 k4 k5 k6 k7 k8 k9 => ?_⟩
  rw [pk_un k8]; exact hk k k1 k2 k3 k4 k5 k6 k7 k8 k9
theorem settleL {F lv : Nat} {σ : MS} {I0 : Nat → Int32} {t : Nat → Nat} {n s br pa : Nat} {fl : Option Nat} {P : List (Nat × Nat)} (hlv : lv ≤ 6) (hP : ∀ e l, P = e :: l → bd e.1 < lv) : ∀ (Q : List (Nat × Nat)) (fuel b : Nat) (f g : Nat → Int32) (τ : MS), (∀ e ∈ Q, lv ≤ bd e.1) → Q.length < fuel → RM σ I0 t n s b (Q ++ P) br pa fl f g τ → ∃ τ', M_settle_L0 F (nI lv) fuel τ = some ((), τ') ∧ RM σ I0 t n s (pst Q f g b).2.2 P br pa fl (pst Q f g b).1 (pst Q f g b).2.1 τ'
  | [], fuel + 1, b, f, g, τ, _, _, h => by
    refine ⟨τ, ?_, h⟩
    obtain ⟨I, p, q, rfl, tp, tk, hs, hfl, h23, h29, h30, h26, pl, hb, hk⟩ := h
    have hn := tp.1
    have hb' : b + P.length ≤ s := hb
    have h29' : I 29 = nI P.length := h29
    rw [M_settle_L0, mi_J, h29']
    cases P with
    | nil => rw [if_pos (show nI ([] : List (Nat × Nat)).length ≤ 0 by decide)]
    | cons e l =>
      have hl : b + (l.length + 1) ≤ s := hb'
      obtain ⟨⟨p1, p2, p3, p4, p5⟩, p6⟩ := (show PL p q (e :: l) from pl)
      have b6 : bd e.1 < lv := hP e l rfl
      rw [show nI (e :: l).length = nI (l.length + 1) from rfl, if_neg (show ¬ nI (l.length + 1) ≤ 0 from nI_ge (a := 0) (by omega) (by omega)), nI_pred, chk_in (show l.length < 400 by omega) (by decide), nI_clamp (by omega), show ma (mJ (mQ σ f g p q) I (vlT t n s)) 27 l.length = nI e.1 from p1, qm_binds _ p4, bs, if_pos (nI_lt b6 (by omega))]
  | e :: Q, fuel + 1, b, f, g, τ, hQ, hf, h => by
    obtain ⟨I, p, q, rfl, tp, tk, hs, hfl, h23, h29, h30, h26, pl, hb, hk⟩ := h
    have hn := tp.1
    have hl : b + ((Q ++ P).length + 1) ≤ s := hb
    obtain ⟨⟨p1, p2, p3, p4, p5⟩, p6⟩ := (show PL p q (e :: (Q ++ P)) from pl)
    have b6 : lv ≤ bd e.1 := hQ e (List.mem_cons_self ..)
    have b7 := bd_6 _ p4
    rw [M_settle_L0, mi_J, h29, show nI (e :: Q ++ P).length = nI ((Q ++ P).length + 1) from rfl, if_neg (show ¬ nI ((Q ++ P).length + 1) ≤ 0 from nI_ge (a := 0) (by omega) (by omega)), nI_pred, chk_in (show (Q ++ P).length < 400 by omega) (by decide), nI_clamp (by omega), show ma (mJ (mQ σ f g p q) I (vlT t n s)) 27 (Q ++ P).length = nI e.1 from p1, qm_binds _ p4, bs, if_neg (nI_nlt b6 (by omega)), stt_d, mJ_I, mi_J, pk_us, chk_in (show (Q ++ P).length < 400 by omega) (by decide), chk_in (show (Q ++ P).length < 400 by omega) (by decide), chk_in (show (Q ++ P).length < 400 by omega) (by decide), nI_clamp (by omega), show ma (mJ (mQ σ f g p q) (upd I 29 (nI (Q ++ P).length)) (vlT t n s)) 27 (Q ++ P).length = nI e.1 from p1]
    have base : RM σ I0 t n s b (Q ++ P) br pa fl f g (mJ (mQ σ f g p q) (upd I 29 (nI (Q ++ P).length)) (vlT t n s)) := ⟨_, p, q, rfl, ⟨tp.1, by rw [pk_un (by decide)]; exact tp.2.1, tp.2.2⟩, ⟨by rw [pk_un (by decide)]; exact tk.1, by rw [pk_un (by decide)]; exact tk.2.1, by rw [pk_un (by decide)]; exact tk.2.2.1, rfl⟩, hs, FL_c hfl (pk_un (by decide)) (pk_un (by decide)), by rw [pk_un (by decide)]; exact h23, pk_us, by rw [pk_un (by decide)]; exact h30, by rw [pk_un (by decide)]; exact h26, p6, by omega, fun k k1 k2 k3 k4 k5 k6 k7 k8 k9 => by rw [pk_un k8]; exact hk k k1 k2 k3 k4 k5 k6 k7 k8 k9⟩
    have land : (e.1 = 29 ∨ e.1 = 30) → ∃ τ', M_settle_B63 F (M_settle_L0 F (nI lv) fuel) (mJ (mQ σ f g p q) (upd I 29 (nI (Q ++ P).length)) (vlT t n s)) (nI lv) = some ((), τ') ∧ RM σ I0 t n s (pst (e :: Q) f g b).2.2 P br pa fl (pst (e :: Q) f g b).1 (pst (e :: Q) f g b).2.1 τ' := fun z => by
      unfold M_settle_B63
      rw [mi_J, pk_us, chk_in (show (Q ++ P).length < 400 by omega) (by decide), nI_clamp (by omega), show ma (mJ (mQ σ f g p q) (upd I 29 (nI (Q ++ P).length)) (vlT t n s)) 28 (Q ++ P).length = nI e.2 from p2, chk_in p5 (by decide), nI_clamp (by omega), stt_d, pk_un (show 23 ≠ 29 by decide), h23, mQ_25]
      unfold pst
      rw [if_pos z]
      refine settleL hlv hP Q fuel b f (upd g e.2 (nI b)) _ (fun e' he => hQ e' (List.mem_cons_of_mem _ he)) (by have : (e :: Q).length = Q.length + 1 := rfl; omega) ?_
      obtain ⟨J, p', q', ej, r⟩ := base
      exact ⟨_, p, q, rfl, ⟨tp.1, by rw [pk_un (by decide)]; exact tp.2.1, tp.2.2⟩, ⟨by rw [pk_un (by decide)]; exact tk.1, by rw [pk_un (by decide)]; exact tk.2.1, by rw [pk_un (by decide)]; exact tk.2.2.1, rfl⟩, hs, FL_c hfl (pk_un (by decide)) (pk_un (by decide)), by rw [pk_un (by decide)]; exact h23, pk_us, by rw [pk_un (by decide)]; exact h30, by rw [pk_un (by decide)]; exact h26, p6, by omega, fun k k1 k2 k3 k4 k5 k6 k7 k8 k9 => by rw [pk_un k8]; exact hk k k1 k2 k3 k4 k5 k6 k7 k8 k9⟩
    by_cases z9 : e.1 = 29
    · rw [if_pos (show nI e.1 = 29 by rw [z9]; rfl)]
      exact land (Or.inl z9)
    rw [if_neg (show ¬ nI e.1 = 29 from fun w => z9 ((nI_eq (b := 29) (by omega) (by decide)).mp w))]
    by_cases z0 : e.1 = 30
    · rw [if_pos (show nI e.1 = 30 by rw [z0]; rfl)]
      exact land (Or.inr z0)
    rw [if_neg (show ¬ nI e.1 = 30 from fun w => z0 ((nI_eq (b := 30) (by omega) (by decide)).mp w))]
    obtain ⟨τ1, a1, a2⟩ := rd_emit (o := nI e.1) (x := 0) base (by omega)
    rw [a1, bs]
    unfold pst
    rw [if_neg (by omega)]
    exact settleL hlv hP Q fuel (b + 1) _ _ τ1 (fun e' he => hQ e' (List.mem_cons_of_mem _ he)) (by have : (e :: Q).length = Q.length + 1 := rfl; omega) a2
theorem rd_settle {F lv : Nat} {σ τ : MS} {I0 : Nat → Int32} {t : Nat → Nat} {n s b br pa : Nat} {fl : Option Nat} {Q P : List (Nat × Nat)} {f g : Nat → Int32} (hF : 1000 ≤ F) (hlv : lv ≤ 6) (hP : ∀ e l, P = e :: l → bd e.1 < lv) (hQ : ∀ e ∈ Q, lv ≤ bd e.1) (h : RM σ I0 t n s b (Q ++ P) br pa fl f g τ) : ∃ τ', M_settle F τ (nI lv) = some ((), τ') ∧ RM σ I0 t n s (pst Q f g b).2.2 P br pa fl (pst Q f g b).1 (pst Q f g b).2.1 τ' := by
  refine settleL hlv hP Q F b f g τ hQ ?_ h
  obtain ⟨I, p, q, rfl, tp, tk, hs, hfl, h23, h29, h30, h26, pl, hb, hk⟩ := h
  have hn := tp.1
  rw [List.length_append] at hb
  omega
