/-- the run of orders -/
def Wd (S : CS) (σ : MS) (dn : Nat) : Prop := ca S 0 12 1 = nI dn ∧ mi σ 50 = nI dn ∧ ca S 0 12 2 = mi σ 51 ∧ lOK (mi σ 51)
def OI (E : Nat → ClassId) (P : va_W) (L C H W : Nat) (S0 : CS) (σ0 : MS) (S : CS) (σ : MS) (dn : Nat) : Prop := RelB E S P σ L C H W ∧ KO1 S0 S ∧ KO2 σ0 σ ∧ Wd S σ dn
def Fin (E : Nat → ClassId) (P : va_W) (cK : Option (Int32 × CS × va_W)) (m : Option (Int32 × MS)) : Prop := ∃ v T τ, cK = some (v, T, P) ∧ m = some (v, τ) ∧ Rel E T P τ
theorem qcase_s {α : Type} (x : Nat) (a : Option α) (b : Nat → Option α) : qcase (some x) a b = b x := rfl
theorem ordInner {F : Nat} {E : Nat → ClassId} {z a1 a2 i tm ce se co len : Nat} {P : va_W} {L C H W : Nat} {S0 : CS} {σ0 : MS} {x1 : Int32} {code f g w : Nat → Int32} {k b0 e1 e2 e3 s0 s1 u0 u1 v0 v1 : Nat} {k71 : CS → va_W → Nat → Nat → Int32 → Option (Int32 × CS × va_W)} {k140 : MS → Int32 → Option (Int32 × MS)} (hF : 1000 ≤ F) (hi : i < 12) (hce : ce ≤ 17) (hse : se ≤ 900) (oc : OCx E P a1 a2 f g w (8 * i) co len code k b0 e1 e2 e3 tm s0 s1 u0 u1 v0 v1) (bg : BG E P L C H W S0 σ0 x1) (h49 : ma σ0 49 = w) (h24 : ma σ0 24 = f) (h25 : ma σ0 25 = g) : ∀ (r n fC fM dn : Nat) (S : CS) (σ : MS), n + r = tm → r < fC → r < fM → OI E P L C H W S0 σ0 S σ dn → dn + r ≤ 1000 → (∀ (S' : CS) (σ' : MS) (dn' : Nat), OI E P L C H W S0 σ0 S' σ' dn' → dn' ≤ dn + r → Fin E P (k71 S' P ce se (nI i + 1)) (k140 σ' (nI i + 1))) → Fin E P (K_10_orders_L89 F E z k71 a1 (nI i) (some a2) fC S P ce se (nI n)) (M_orders_L150 F k140 x1 (nI i) fM σ (nI n))
  | 0, n, fC + 1, fM + 1, dn, S, σ, e, _, _, oi, hd, cont => by
    obtain rfl : n = tm := by omega
    obtain ⟨hB, k1, k2, wd⟩ := oi
    have t49 : ma σ 49 (8 * i + 7) = nI n := by rw [k2.1 49 (by decide) (by decide) (by decide) (by decide), h49]; exact oc.2.2.2.2.1.2.2.2.2.2.2.2
    have c5 := oc.2.1.2.2.2.2.2
    have tm20 := oc.2.2.2.1
    rw [K_10_orders_L89, qcase_s, c5, bs, if_pos (nI_le (Nat.le_refl _) (by omega)), M_orders_L150, show (8 : Int32) * nI i = nI (8 * i) from pk_mul 8 i, show nI (8 * i) + 7 = nI (8 * i + 7) from nI_add _ 7, chk_in (show 8 * i + 7 < 96 by omega) (by decide), nI_clamp (by omega), t49, if_pos (nI_le (Nat.le_refl _) (by omega))]
    unfold K_10_orders_B123
    exact cont S σ dn ⟨hB, k1, k2, wd⟩ (by omega)
  | r + 1, n, fC + 1, fM + 1, dn, S, σ, e, hfC, hfM, oi, hd, cont => by
    obtain ⟨hB, k1, k2, wd⟩ := oi
    have m49 : ma σ 49 = w := by rw [k2.1 49 (by decide) (by decide) (by decide) (by decide)]; exact h49
    have t49 : ma σ 49 (8 * i + 7) = nI tm := by rw [m49]; exact oc.2.2.2.2.1.2.2.2.2.2.2.2
    have c5 := oc.2.1.2.2.2.2.2
    have tm20 := oc.2.2.2.1
    have rr := obeyRun (F := F) (S := S) (σ := σ) (dn := dn) hF (by omega) oc hB (by omega) wd.1 wd.2.1 wd.2.2.1 wd.2.2.2 m49 (by rw [k2.1 24 (by decide) (by decide) (by decide) (by decide)]; exact h24) (by rw [k2.1 25 (by decide) (by decide) (by decide) (by decide)]; exact h25)
    obtain ⟨r', v, T, τ, q1, q2, q3, q4, q5, q6⟩ := rr
    rw [K_10_orders_L89, qcase_s, c5, bs, if_neg (nI_ge (by omega) (by omega)), chk_t ⟨by omega, by omega⟩, q1, bs, M_orders_L150, show (8 : Int32) * nI i = nI (8 * i) from pk_mul 8 i, show nI (8 * i) + 7 = nI (8 * i + 7) from nI_add _ 7, chk_in (show 8 * i + 7 < 96 by omega) (by decide), nI_clamp (by omega), t49, if_neg (nI_ge (by omega) (by omega)), q2, bs]
    rcases q6 with ⟨rfl, rfl, dn', d1, d2⟩ | ⟨rfl, rfl⟩
    · rw [if_neg (show ¬ (1 : Int32) = 0 by decide), if_pos (show (0 : Int32) ≤ 0 by decide), ← nI_succ]
      exact ordInner hF hi hce hse oc bg h49 h24 h25 r (n + 1) fC fM dn' T τ (by omega) (by omega) (by omega) ⟨q3, k1.tr q4, k2.tr q5, d2⟩ (by omega) (fun S' σ' dn'' o1 o2 => cont S' σ' dn'' o1 (by omega))
    · obtain ⟨T', τ', g1, g2, g3⟩ := giveUp (F := F) hF hi bg q3 (k1.tr q4) (k2.tr q5)
      rw [if_pos rfl, if_neg (show ¬ (0 : Int32) ≤ -3 by decide), chk_t ⟨by omega, by omega⟩, g1, bs, chk_t ⟨by omega, by omega⟩, g2]
      exact ⟨-3, T', τ', rfl, rfl, g3⟩
theorem ordOuter {F : Nat} {E : Nat → ClassId} {z a1 ka c ce se : Nat} {P : va_W} {L C H W : Nat} {S0 : CS} {σ0 : MS} {x1 : Int32} {f g w : Nat → Int32} {cl : Nat → Option Nat} (hF : 1000 ≤ F) (hc : c ≤ 12) (hce : ce ≤ 17) (hse : se ≤ 900) (pn : pI P 5 a1 1 = some (nI c)) (pk : pR P 5 a1 0 = some ka) (pq : parQ E P ka = some (12, cl)) (ocs : ∀ i, i < c → ∃ a2 co len code k b0 e1 e2 e3 tm s0 s1 u0 u1 v0 v1, cl i = some a2 ∧ OCx E P a1 a2 f g w (8 * i) co len code k b0 e1 e2 e3 tm s0 s1 u0 u1 v0 v1) (bg : BG E P L C H W S0 σ0 x1) (h49 : ma σ0 49 = w) (h24 : ma σ0 24 = f) (h25 : ma σ0 25 = g) (h21 : mi σ0 21 = nI c) : ∀ (r i fC fM dn : Nat) (S : CS) (σ : MS), i + r = c → r < fC → r < fM → OI E P L C H W S0 σ0 S σ dn → dn ≤ 20 * i → Fin E P (K_10_orders_L71 F E z a1 fC S P ce se (nI i)) (M_orders_L140 F x1 fM σ (nI i))
  | 0, i, fC + 1, fM + 1, dn, S, σ, e, _, _, oi, hd => by
    obtain rfl : i = c := by omega
    obtain ⟨hB, k1, k2, wd⟩ := oi
    have t21 : mi σ 21 = nI i := by rw [k2.2.1 21 (by decide) (by decide) (by decide) (by decide) (by decide) (by decide)]; exact h21
    rw [K_10_orders_L71, pn, bs, if_pos (nI_le (Nat.le_refl _) (by omega)), chk_t ⟨by omega, by omega⟩, qc_accept, bs, chk_t ⟨by omega, by omega⟩, wd.1, M_orders_L140, t21, if_pos (nI_le (Nat.le_refl _) (by omega)), wd.2.1, qm_tell0 _ (by omega), bs]
    exact ⟨nI dn, _, _, rfl, rfl, rel_acc ⟨L, C, H, W, hB⟩⟩
  | r + 1, i, fC + 1, fM + 1, dn, S, σ, e, hfC, hfM, oi, hd => by
    have k2 := oi.2.2.1
    have t21 : mi σ 21 = nI c := by rw [k2.2.1 21 (by decide) (by decide) (by decide) (by decide) (by decide) (by decide)]; exact h21
    obtain ⟨a2, co, len, code, k, b0, e1, e2, e3, tm, s0, s1, u0, u1, v0, v1, q1, oc⟩ := ocs i (by omega)
    have tm20 := oc.2.2.2.1
    rw [K_10_orders_L71, pn, bs, if_neg (nI_ge (by omega) (by omega)), pk, bs, pldq_d pq (show i < 12 by omega) (by decide), q1, M_orders_L140, t21, if_neg (nI_ge (by omega) (by omega))]
    refine ordInner (z := z) (k71 := K_10_orders_L71 F E z a1 fC) (k140 := M_orders_L140 F x1 fM) hF (by omega) hce hse oc bg h49 h24 h25 tm 0 F F dn S σ (by omega) (by omega) (by omega) oi (by omega) (fun S' σ' dn' o1 o2 => ?_)
    rw [← nI_succ]
    exact ordOuter hF hc hce hse pn pk pq ocs bg h49 h24 h25 h21 r (i + 1) fC fM dn' S' σ' (by omega) (by omega) (by omega) o1 (by omega)
theorem ocx_of {E : Nat → ClassId} {P0 P : va_W} {zb c a b : Nat} {A f g w : Nat → Int32} (h : LD CLo E P0 P zb c A f g w a b) (ha : a < 400) (hb : b ≤ 400) : pI P 5 zb 1 = some (nI c) ∧ pR P 5 zb 0 = some (zb + 1) ∧ ∃ cl, parQ E P (zb + 1) = some (12, cl) ∧ ∀ i, i < c → ∃ a2 co len code k b0 e1 e2 e3 tm s0 s1 u0 u1 v0 v1, cl i = some a2 ∧ OCx E P zb a2 f g w (8 * i) co len code k b0 e1 e2 e3 tm s0 s1 u0 u1 v0 v1 := by
  obtain ⟨h1, ⟨cl, h2, h3⟩, h4, h5, h6⟩ := h
  have cc : ∀ k, k < a → ccd A k = ccd (va_cpy A (fun _ => 0) 0 0 (2 * a)) k := fun k hk => by
    unfold ccd
    rw [pk_cpy_in (show 0 ≤ 2 * k by omega) (show 2 * k < 0 + 2 * a by omega), pk_cpy_in (show 0 ≤ 2 * k + 1 by omega) (show 2 * k + 1 < 0 + 2 * a by omega), show 0 + (2 * k - 0) = 2 * k by omega, show 0 + (2 * k + 1 - 0) = 2 * k + 1 by omega]
  refine ⟨pI_o h1 rfl, pR_o h1 rfl, cl, parQ_o h2, fun i hi => ?_⟩
  obtain ⟨fs, e1', k, b0, e1, e2, e3, tm, s0, s1, u0, u1, v0, v1, rfl, g1, g2, w0, w1, w2, w3, w4, w5, w6, w7, ⟨m1, m2, m3, m4, m5, m6, m7, m8, m9, m10, m11⟩, n1, n2, n3, n4⟩ := h5 i hi
  refine ⟨zb + 3 + i, zb + 3 + c, 2 * a, _, k, b0, e1, e2, e3, tm, s0, s1, u0, u1, v0, v1, h3 i hi, ⟨pR_o h1 rfl, parE_o h4, by omega, by omega, by omega, by omega⟩, ⟨pI_o e1' rfl, pI_o e1' rfl, pI_o e1' rfl, pI_o e1' rfl, pI_o e1' rfl, pI_o e1' rfl⟩, g1, g2, ⟨w0, w1, w2, w3, w4, w5, w6, w7⟩, ⟨by omega, by omega, by omega, by omega, by omega, by omega⟩, fun q => ?_, m9, fun q => ?_, m11, ?_⟩
  · obtain ⟨φ, y1, y2⟩ := m8 q
    exact ⟨φ, y1.cg (fun k _ hk => cc k (by omega)), y2⟩
  · obtain ⟨φ, y1, y2⟩ := m10 q
    exact ⟨φ, y1.cg (fun k _ hk => cc k (by omega)), y2⟩
  · rcases n4 with q | ⟨φ, y1, y2⟩
    · exact Or.inl q
    · exact Or.inr ⟨φ, y1.cg (fun k _ hk => cc k (by omega)), y2⟩
/-- stopped -/
theorem rel_st {E : Nat → ClassId} {S : CS} {P : va_W} {σ : MS} (h : Rel E S P σ) (v : Int32) : Rel E (cI S 0 16 v) P (mI σ 52 v) := by
  obtain ⟨L, C, H, W, h1, h2, h3, h4, h5, h6, h7, h8, h9⟩ := h
  refine ⟨L, C, H, W, h1, h2, h3, h4, h5, h6, h7, h8, ?_⟩
  obtain ⟨a1, a2, a3, a4, a5⟩ := h9
  exact ⟨a1, rfl, a3, a4, a5⟩
theorem rc_16 {S T : CS} {Ic : Nat → Int32} {t : Nat → Nat} {n s a br pa : Nat} {fl : Option Nat} {A : Nat → Int32} (h : RC S Ic t n s a br pa fl A T) (v : Int32) : RC (cI S 0 16 v) Ic t n s a br pa fl A (cI T 0 16 v) := by
  obtain ⟨I, e, tp, r⟩ := h
  refine ⟨I, ?_, tp, r⟩
  rw [e]
  show (va_up (va_up S.1 9 I) 0 (upd (S.1 0) 16 v), (cF S 9 1 A).2) = (va_up (va_up S.1 0 (upd (S.1 0) 16 v)) 9 I, (cF S 9 1 A).2)
  congr 1
  funext o
  rw [up_d, up_d, up_d, up_d]
  by_cases z : o = 0
  · rw [if_pos z, if_neg (by omega), if_pos z]
  · rw [if_neg z]
    by_cases y : o = 9
    · rw [if_pos y, if_pos y]
    · rw [if_neg y, if_neg y, if_neg z]
theorem rel_rd2 {E : Nat → ClassId} {S T : CS} {P : va_W} {σ τ : MS} {Ic Im : Nat → Int32} {t : Nat → Nat} {n s a br pa s' b pa' : Nat} {fl : Option Nat} {A f g w : Nat → Int32} {x y : Int32} (h : Rel E S P σ) (hc : RC S Ic t n s a br pa fl A T) (hm : RW (mF (mI (mI σ 0 0) 52 (-1)) 49 w) (upd Im 21 x) t n s' b pa' fl f g τ) (hI : Im = upd (upd (mi (mI (mI σ 0 0) 52 (-1))) 20 y) 18 (-1)) : Rel E (cI (cI T 10 1 0) 0 16 (-1)) P (mI (mI τ 20 0) 13 0) := by
  have r := rel_rd (rel_st (rel_0 h 0) (-1)) (rc_16 hc (-1)) hm (Or.inr rfl) hI
  rw [cI_cm T (show 0 ≠ 10 by decide)] at r
  exact r
