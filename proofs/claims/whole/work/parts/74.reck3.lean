/-- what reckoning leaves of the reference -/
def KR (σ τ : MS) : Prop := ma τ = ma σ ∧ (∀ k, k ≠ 38 → mi τ k = mi σ k) ∧ (∀ k, k ≠ 37 → mb τ k = mb σ k)
theorem KR.rf {σ : MS} : KR σ σ := ⟨rfl, fun _ _ => rfl, fun _ _ => rfl⟩
theorem KR.tr {σ τ υ : MS} (h : KR σ τ) (k : KR τ υ) : KR σ υ := ⟨k.1.trans h.1, fun i hi => (k.2.1 i hi).trans (h.2.1 i hi), fun i hi => (k.2.2 i hi).trans (h.2.2 i hi)⟩
theorem kr_i (σ : MS) (v : Int32) : KR σ (mI σ 38 v) := ⟨rfl, fun k hk => by show upd σ.1 38 v k = _; exact pk_un hk, fun _ _ => rfl⟩
theorem kr_b (σ : MS) (j : Nat) (v : Int64) : KR σ (mB σ 37 j v) := ⟨rfl, fun _ _ => rfl, fun k hk => by show va_up σ.2.2.2 37 _ k = _; rw [up_d, if_neg hk]⟩
theorem kr_l (σ : MS) (j : Nat) (v : Int64) : KR σ (mL σ j v) := ⟨rfl, fun _ _ => rfl, fun _ _ => rfl⟩
def stkL (g : Nat → Int64) : List Int → Prop
  | [] => True
  | x :: st => (g st.length).toInt = x ∧ sml x ∧ stkL g st
theorem stkL_cg {h h' : Nat → Int64} : ∀ st : List Int, (∀ k, k < st.length → h' k = h k) → stkL h st → stkL h' st
  | [], _, _ => trivial
  | x :: st, e, k => ⟨by rw [e _ (by simp)]; exact k.1, k.2.1, stkL_cg st (fun i hi => e i (by simp; omega)) k.2.2⟩
theorem stkL_up {h : Nat → Int64} {st : List Int} {x : Int} {v : Int64} (hs : stkL h st) (hx : v.toInt = x) (hm : sml x) : stkL (vp_updL h st.length v) (x :: st) := ⟨by rw [pk_uLs]; exact hx, hm, stkL_cg st (fun k hk => pk_uLn (by omega)) hs⟩
theorem mb_mB (σ : MS) (k j : Nat) (v : Int64) : mb (mB σ k j v) k = vp_updL (mb σ k) j v := by
  show va_up σ.2.2.2 k _ k = _; rw [up_d, if_pos rfl]
theorem qm_366 {F : Nat} (σ : MS) {n : Nat} (h0 : 0 < n) (hn : n < 2 ^ 31) : M_reckonAll_B366 F σ (nI n) = some ((), mL σ 39 (mb σ 37 0)) := by
  unfold M_reckonAll_B366 M_reckonAll_B381
  rw [if_neg (nI_nle h0 hn), stt_d]
theorem qm_366' {F : Nat} (σ : MS) (x : Int32) : ∃ v, M_reckonAll_B366 F σ x = some ((), mL σ 39 v) := by
  unfold M_reckonAll_B366 M_reckonAll_B381
  split
  · exact ⟨_, rfl⟩
  · exact ⟨_, rfl⟩
/-- the code as the reference reads it: c is what it means -/
def RCode (F : Nat) (σ : MS) (nw j : Nat) (c : Nat → Nat × Int) (w : Nat → Int) (op arg : Nat → Int32) : Prop :=
  (∀ (τ : MS) (k m : Nat) (x3 : Int32), KR σ τ → mi τ 38 = 0 → k < j → M_reckonAll_L10 F (nI j) (m + 1) τ x3 (nI k) = M_reckonAll_B95 F (M_reckonAll_L10 F (nI j) m) τ (nI j) x3 (nI k) (op k) (arg k)) ∧
  (∀ k, k < j → (c k).1 = 0 → op k = 0 ∧ (arg k).toInt = (c k).2) ∧
  (∀ (k : Nat) (τ : MS), k < j → KR σ τ → (c k).1 = 1 → 0 ≤ (c k).2 → (c k).2 < nw → ∃ v : Int64, v.toInt = w (c k).2.toNat ∧ ∀ (kk : MS → Int32 → Int32 → Option (Unit × MS)) (x3 : Int32), M_reckonAll_B95 F kk τ (nI j) x3 (nI k) (op k) (arg k) = M_reckonAll_B217 F kk τ (nI j) x3 (nI (k + 1)) x3 v) ∧
  (∀ k, k < j → 2 ≤ (c k).1 → (c k).1 ≤ 12 → op k = nI ((c k).1 + 18) ∧ (arg k).toInt = (c k).2) ∧
  (∀ k, k < nw → sml (w k))
theorem int01L {v : Int64} {x : Int} (h : v.toInt = x) (h01 : x = 0 ∨ x = 1) : (v = 0 ∧ x = 0) ∨ (v = 1 ∧ x = 1) := by
  rcases h01 with k | k
  · exact Or.inl ⟨by rw [eq_l, h, k]; rfl, k⟩
  · exact Or.inr ⟨by rw [eq_l, h, k]; rfl, k⟩
theorem qm_inG (v : Int64) : M_in v (-1000000000 : Int64) (1000000000 : Int64) = some (if sml v.toInt then 1 else 0) := by
  unfold M_in sml
  simp only [lt_l, l_g, l_mg]
  by_cases h1 : v.toInt < -1000000000
  · rw [if_pos h1, if_neg (by omega)]
  · rw [if_neg h1]
    by_cases h2 : 1000000000 < v.toInt
    · rw [if_pos h2, if_neg (by omega)]
    · rw [if_neg h2, if_pos (by omega)]
theorem qm_reckL {F : Nat} {σ : MS} {nw j : Nat} {c : Nat → Nat × Int} {w : Nat → Int} {op arg : Nat → Int32} (hj : j ≤ 400) (RC : RCode F σ nw j c w op arg) : ∀ (n i fuel : Nat) (st : List Int) (τ : MS) (r : Option (List Int)), n < fuel → run nw c w j n i st = some r → st.length ≤ 50 → KR σ τ → mi τ 38 = 0 → stkL (mb τ 37) st → ∃ τ' : MS, M_reckonAll_L10 F (nI j) fuel τ (nI st.length) (nI i) = some ((), τ') ∧ KR σ τ' ∧ (r = none → mi τ' 38 = 1) ∧ (∀ x, r = some [x] → mi τ' 38 = 0 ∧ (ml τ' 39).toInt = x ∧ sml x) := by
  obtain ⟨hread, h0, h1, h2, hw⟩ := RC
  have fin : ∀ (m : Nat) (st : List Int) (τ : MS) (i : Nat) (r : Option (List Int)), j ≤ i → i < 2 ^ 31 → some (some st) = some r → st.length ≤ 50 → KR σ τ → mi τ 38 = 0 → stkL (mb τ 37) st → ∃ τ' : MS, M_reckonAll_L10 F (nI j) (m + 1) τ (nI st.length) (nI i) = some ((), τ') ∧ KR σ τ' ∧ (r = none → mi τ' 38 = 1) ∧ (∀ x, r = some [x] → mi τ' 38 = 0 ∧ (ml τ' 39).toInt = x ∧ sml x) := by
    intro m st τ i r hi hi2 hr hs hk h38 hst
    cases hr
    rw [M_reckonAll_L10, if_pos (nI_le hi hi2)]
    obtain ⟨v, hv⟩ := qm_366' (F := F) τ (nI st.length)
    refine ⟨_, hv, hk.tr (kr_l _ _ _), (fun k => by cases k), fun x k => ?_⟩
    cases k
    rw [show ([x] : List Int).length = 1 from rfl, qm_366 τ (by omega) (by omega)] at hv
    have e := congrArg (fun q => q.map (fun z => ml z.2 39)) hv
    simp only [Option.map_some, Option.some.injEq] at e
    have e2 : v = mb τ 37 0 := by
      have : vp_updL τ.2.1 39 (mb τ 37 0) 39 = vp_updL τ.2.1 39 v 39 := e
      rw [pk_uLs, pk_uLs] at this; exact this.symm
    refine ⟨h38, ?_, hst.2.1⟩
    show (vp_updL τ.2.1 39 v 39).toInt = x
    rw [pk_uLs, e2]; exact hst.1
  intro n
  induction n with
  | zero =>
    intro i fuel st τ r hf hr hs hk h38 hst
    obtain ⟨m, rfl⟩ : ∃ m, fuel = m + 1 := ⟨fuel - 1, by omega⟩
    unfold run at hr
    by_cases e : i = j
    · rw [if_pos e] at hr
      exact fin m st τ i r (by omega) (by omega) hr hs hk h38 hst
    · rw [if_neg e] at hr; cases hr
  | succ n ih =>
    intro i fuel st τ r hf hr hs hk h38 hst
    obtain ⟨m, rfl⟩ : ∃ m, fuel = m + 1 := ⟨fuel - 1, by omega⟩
    unfold run at hr
    by_cases e : i = j
    · rw [if_pos e] at hr
      exact fin m st τ i r (by omega) (by omega) hr hs hk h38 hst
    rw [if_neg e] at hr
    by_cases e2 : j < i
    · rw [if_pos e2] at hr; cases hr
    rw [if_neg e2] at hr
    have hij : i < j := by omega
    rw [hread τ i m _ hk h38 hij]
    have push : ∀ (v : Int64) (x : Int), v.toInt = x → sml x → st.length < 50 → run nw c w j n (i + 1) (x :: st) = some r → ∃ τ' : MS, M_reckonAll_B217 F (M_reckonAll_L10 F (nI j) m) τ (nI j) (nI st.length) (nI (i + 1)) (nI st.length) v = some ((), τ') ∧ KR σ τ' ∧ (r = none → mi τ' 38 = 1) ∧ (∀ x, r = some [x] → mi τ' 38 = 0 ∧ (ml τ' 39).toInt = x ∧ sml x) := by
      intro v x hv hx hl hrr
      obtain ⟨τ', g⟩ := ih (i + 1) m (x :: st) (mB τ 37 st.length v) r (by omega) hrr (by simp; omega) (hk.tr (kr_b _ _ _)) h38 (by rw [mb_mB]; exact stkL_up hst hv hx)
      refine ⟨τ', ?_, g.2⟩
      unfold M_reckonAll_B217 M_reckonAll_B363
      rw [chk_in (by omega) (by decide), nI_clamp (by omega), stt_d, ← nI_succ]
      exact g.1
    by_cases c01 : (c i).1 = 0 ∨ (c i).1 = 1
    · rw [if_pos c01] at hr
      by_cases ok : st.length < 50 ∧ 0 ≤ (c i).2 ∧ (c i).2 ≤ 1000 ∧ ((c i).1 = 1 → (c i).2 < nw)
      · rw [if_pos ok] at hr
        obtain ⟨o1, o2, o3, o4⟩ := ok
        rcases c01 with c0 | c1
        · obtain ⟨z1, z2⟩ := h0 i hij c0
          rw [if_pos c0] at hr
          unfold M_reckonAll_B95
          rw [z1, if_neg (by decide), if_pos rfl, ← nI_succ]
          exact push _ _ (by rw [w_64]; exact z2) (sml_n o2 o3) o1 hr
        · rw [if_neg (by omega)] at hr
          obtain ⟨v, v1, v2⟩ := h1 i τ hij hk c1 o2 (o4 c1)
          rw [v2]
          exact push v _ v1 (hw _ (by have := o4 c1; omega)) o1 hr
      · rw [if_neg ok] at hr; cases hr
    rw [if_neg c01] at hr
    match st, hr, hs, hst with
    | [], hr, _, _ => cases hr
    | x :: st1, hr, hs, hst =>
      obtain ⟨k1, k2, k3⟩ := hst
      simp only [List.length_cons] at hs
      rw [List.length_cons]
      by_cases c10 : (c i).1 = 10
      · simp only [if_pos c10] at hr
        by_cases x01 : x = 0 ∨ x = 1
        · rw [if_pos x01] at hr
          obtain ⟨op_, -⟩ := h2 i hij (by omega) (by omega)
          rw [c10] at op_
          have hv : ((1 : Int64) - mb τ 37 st1.length).toInt = 1 - x := by
            rcases int01L k1 x01 with ⟨a1, a2⟩ | ⟨a1, a2⟩ <;> rw [a1, a2] <;> decide
          obtain ⟨τ', g⟩ := ih (i + 1) m ((1 - x) :: st1) (mB τ 37 st1.length (1 - mb τ 37 st1.length)) r (by omega) hr (by simp; omega) (hk.tr (kr_b _ _ _)) h38 (by rw [mb_mB]; exact stkL_up k3 hv (by rcases x01 with z | z <;> rw [z] <;> unfold sml <;> decide))
          refine ⟨τ', ?_, g.2⟩
          unfold M_reckonAll_B95 M_reckonAll_B363
          rw [op_, if_pos (by decide), if_pos (by decide), if_pos (by decide), nI_pred, chk_in (by omega) (by decide), chk_in (by omega) (by decide), nI_clamp (by omega), stt_d, ← nI_succ]
          exact g.1
        · rw [if_neg x01] at hr; cases hr
      simp only [if_neg c10] at hr
      by_cases cj : (c i).1 = 11 ∨ (c i).1 = 12
      · simp only [if_pos cj] at hr
        by_cases ok : (x = 0 ∨ x = 1) ∧ (i : Int) < (c i).2
        · rw [if_pos ok] at hr
          obtain ⟨x01, lt⟩ := ok
          obtain ⟨op_, ar⟩ := h2 i hij (by omega) (by omega)
          obtain ⟨q, hq, q1⟩ : ∃ q : Nat, (q = 11 ∨ q = 12) ∧ (c i).1 = q := by
            rcases cj with z | z
            · exact ⟨11, Or.inl rfl, z⟩
            · exact ⟨12, Or.inr rfl, z⟩
          have at' : arg i = nI (c i).2.toNat := by rw [← ar]; exact nI_of' (by omega)
          have hB : M_reckonAll_B95 F (M_reckonAll_L10 F (nI j) m) τ (nI j) (nI (st1.length + 1)) (nI i) (op i) (arg i) = M_reckonAll_B349 F (M_reckonAll_L10 F (nI j) m) τ (nI j) (nI (st1.length + 1)) (nI (i + 1)) (nI (c i).2.toNat) (mb τ 37 st1.length) (lN (q - 11)) := by
            rw [op_, at', q1]
            unfold M_reckonAll_B95
            rcases hq with rfl | rfl
            · rw [if_pos (by decide), if_pos (by decide), if_neg (by decide), nI_pred, chk_in (by omega) (by decide), if_pos (by decide), nI_clamp (by omega), ← nI_succ]; rfl
            · rw [if_pos (by decide), if_pos (by decide), if_neg (by decide), nI_pred, chk_in (by omega) (by decide), if_neg (by decide), nI_clamp (by omega), ← nI_succ]; rfl
          rw [hB]
          unfold M_reckonAll_B349 M_reckonAll_B363
          have hx : mb τ 37 st1.length = lN (q - 11) ↔ x = (if (c i).1 = 11 then 0 else 1) := by
            rw [q1]
            rcases hq with rfl | rfl
            · rw [if_pos rfl]
              rcases int01L k1 x01 with ⟨a1, a2⟩ | ⟨a1, a2⟩ <;> rw [a1, a2] <;> decide
            · rw [if_neg (by decide)]
              rcases int01L k1 x01 with ⟨a1, a2⟩ | ⟨a1, a2⟩ <;> rw [a1, a2] <;> decide
          by_cases jx : x = (if (c i).1 = 11 then 0 else 1)
          · rw [if_pos jx] at hr
            rw [if_pos (hx.mpr jx)]
            exact ih _ m (x :: st1) τ r (by omega) hr (by simp; omega) hk h38 ⟨k1, k2, k3⟩
          · rw [if_neg jx] at hr
            rw [if_neg (fun z => jx (hx.mp z)), pk_m1]
            exact ih _ m st1 τ r (by omega) hr (by omega) hk h38 k3
        · rw [if_neg ok] at hr; cases hr
      simp only [if_neg cj] at hr
      match st1, hr, hs, k1, k3 with
      | [], hr, _, _, _ => cases hr
      | y :: st2, hr, hs, k1, k3 =>
        obtain ⟨m1, m2, m3⟩ := k3
        simp only [List.length_cons] at hs k1
        rw [List.length_cons]
        by_cases c29 : 2 ≤ (c i).1 ∧ (c i).1 < 10
        · simp only [if_pos c29] at hr
          obtain ⟨op_, ar⟩ := h2 i hij (by omega) (by omega)
          obtain ⟨u, τ1, u1, y38, e38, u2⟩ := qm_reckon c29.1 c29.2 h38 (a := mb τ 37 st2.length) (b := mb τ 37 (st2.length + 1)) (by rw [m1]; exact m2) (by rw [k1]; exact k2)
          rw [m1, k1] at u2
          subst e38
          obtain ⟨m', rfl⟩ : ∃ m', m = m' + 1 := ⟨m - 1, by omega⟩
          have k20 : ∀ z : Nat, 2 ≤ z → z < 10 → (20 : Int32) ≤ nI (z + 18) ∧ ¬ (28 : Int32) ≤ nI (z + 18) := fun z a b => ⟨nI_le (a := 20) (by omega) (by omega), nI_ge (b := 28) (by omega) (by decide)⟩
          have hB : M_reckonAll_B95 F (M_reckonAll_L10 F (nI j) (m' + 1)) τ (nI j) (nI (st2.length + 1 + 1)) (nI i) (op i) (arg i) = (if y38 = 0 then (if (if sml u.toInt then (1 : Int32) else 0) = 0 then M_reckonAll_B290 F (M_reckonAll_L10 F (nI j) (m' + 1)) (mB (mI τ 38 y38) 37 st2.length u) (nI j) (nI (st2.length + 1)) (nI (i + 1)) else M_reckonAll_B295 F (M_reckonAll_L10 F (nI j) (m' + 1)) (mB (mI τ 38 y38) 37 st2.length u) (nI j) (nI (st2.length + 1)) (nI (i + 1)) 0) else M_reckonAll_B290 F (M_reckonAll_L10 F (nI j) (m' + 1)) (mB (mI τ 38 y38) 37 st2.length u) (nI j) (nI (st2.length + 1)) (nI (i + 1))) := by
            rw [op_]
            unfold M_reckonAll_B95
            rw [if_pos (k20 _ c29.1 c29.2).1, if_neg (k20 _ c29.1 c29.2).2, pk_m1, nI_pred, chk_in (by omega) (by decide), chk_in (by omega) (by decide), nI_clamp (by omega), nI_clamp (by omega), u1, bs, chk_in (by omega) (by decide), stt_d, chk_in (by omega) (by decide), mb_mB, pk_uLs, qm_inG, bs, ← nI_succ]
            rfl
          rw [hB]
          unfold M_reckonAll_B290 M_reckonAll_B295 M_reckonAll_B363
          rw [chk_t (Or.inr rfl), chk_t (Or.inl rfl), stt_d, stt_d]
          have hk1 : KR σ (mB (mI τ 38 y38) 37 st2.length u) := (hk.tr (kr_i _ _)).tr (kr_b _ _ _)
          have brk : some none = some r → ∃ τ' : MS, M_reckonAll_L10 F (nI j) (m' + 1) (mI (mB (mI τ 38 y38) 37 st2.length u) 38 1) (nI (st2.length + 1)) (nI (i + 1)) = some ((), τ') ∧ KR σ τ' ∧ (r = none → mi τ' 38 = 1) ∧ (∀ x, r = some [x] → mi τ' 38 = 0 ∧ (ml τ' 39).toInt = x ∧ sml x) := by
            intro hrr
            cases hrr
            obtain ⟨v, hv⟩ := qm_366' (F := F) (mI (mB (mI τ 38 y38) 37 st2.length u) 38 1) (nI (st2.length + 1))
            refine ⟨_, ?_, (hk1.tr (kr_i _ 1)).tr (kr_l _ 39 v), fun _ => rfl, fun x k => by cases k⟩
            rw [M_reckonAll_L10, if_neg (show ¬ mi (mI (mB (mI τ 38 y38) 37 st2.length u) 38 1) 38 = 0 from (by decide : ¬ (1 : Int32) = 0)), hv, ite_self]
          rcases u2 with ⟨y1, d56, b0⟩ | ⟨y0, nd, s1, s2, s3, s4⟩
          · subst y1
            rw [if_neg (show ¬ (1 : Int32) = 0 by decide)]
            refine brk ?_
            have : rcomb (c i).1 y x = none := by
              rw [rcomb_d, if_neg (by omega), if_neg (by omega), if_neg (by omega), if_pos ⟨d56, b0⟩]
            rw [this] at hr; exact hr
          · rw [if_pos y0]
            rcases hc : rcomb (c i).1 y x with _ | v
            · rw [hc] at hr
              have : ¬ sml u.toInt := by
                rw [rcomb_d] at hc
                split at hc
                · cases hc
                split at hc
                · cases hc
                split at hc
                · cases hc
                split at hc
                · rw [s1 (by omega)]; unfold sml; omega
                · cases hc
              rw [if_neg this, if_pos rfl]
              exact brk hr
            · rw [hc] at hr
              have sv := rcomb_s hc
              have eu : u.toInt = v := by
                rw [rcomb_d] at hc
                split at hc
                · cases hc; rw [s2 (by assumption)]
                split at hc
                · cases hc; rw [s3 (by assumption)]
                split at hc
                · cases hc; rw [s4 (by assumption)]
                split at hc
                · cases hc
                · cases hc; exact s1 (by omega)
              rw [if_neg (show ¬ (if sml u.toInt then (1 : Int32) else 0) = 0 by rw [if_pos (by rw [eu]; exact sv)]; decide)]
              exact ih (i + 1) (m' + 1) (v :: st2) (mI (mB (mI τ 38 y38) 37 st2.length u) 38 0) r (by omega) hr (by simp; omega) (hk1.tr (kr_i _ _)) rfl (by
                show stkL (mb (mB (mI τ 38 y38) 37 st2.length u) 37) (v :: st2)
                rw [mb_mB]; exact stkL_up m3 eu sv)
        · simp only [if_neg c29] at hr; cases hr
/-- the reference's way to reckon a piece -/
theorem qm_reckonAll {F : Nat} {σ : MS} {nw i j d : Nat} {c : Nat → Nat × Int} {w : Nat → Int} {op arg : Nat → Int32} {f : (Nat → Int) → Option Int} (hF : 1000 ≤ F) (hj : j ≤ 400) (RC : RCode F (mI σ 38 0) nw j c w op arg) (hd : d ≤ 50) (sg : Seg nw c i j d f) : ∃ τ : MS, M_reckonAll F σ (nI i) (nI j) = some ((), τ) ∧ KR σ τ ∧ (f w = none → mi τ 38 = 1) ∧ (∀ x, f w = some x → mi τ 38 = 0 ∧ (ml τ 39).toInt = x ∧ sml x) := by
  have hr := sg.2 w [] (by simpa using hd)
  have hij := sg.1
  obtain ⟨τ, g1, g2, g3, g4⟩ := qm_reckL hj RC (j - i) i F [] (mI σ 38 0) _ (by omega) hr (by simp) KR.rf rfl trivial
  refine ⟨τ, ?_, (kr_i σ 0).tr g2, (fun k => g3 (by rw [k]; rfl)), (fun x k => g4 x (by rw [k]; rfl))⟩
  unfold M_reckonAll
  rw [stt_d]; exact g1
