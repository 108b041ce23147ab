theorem ca_cF (S : CS) (o k : Nat) (f : Nat → Int32) : ca (cF S o k f) o k = f := by
  show va_up S.2.1 o (va_up (S.2.1 o) k f) o k = f
  rw [up_d, if_pos rfl, up_d, if_pos rfl]
theorem ca_cFn (S : CS) (o k o' k' : Nat) (f : Nat → Int32) (h : o' ≠ o ∨ k' ≠ k) : ca (cF S o k f) o' k' = ca S o' k' := by
  show va_up S.2.1 o (va_up (S.2.1 o) k f) o' k' = S.2.1 o' k'
  rw [up_d]
  by_cases e : o' = o
  · rw [if_pos e, up_d, if_neg (by omega), e]
  · rw [if_neg e]
theorem cF_cF (S : CS) (o k : Nat) (f g : Nat → Int32) : cF (cF S o k f) o k g = cF S o k g := by
  simp only [cF_O, cO_O, ci_O, ca_O, up_up]
theorem cA_cF (S : CS) (o k j : Nat) (f : Nat → Int32) (v : Int32) : cA (cF S o k f) o k j v = cF S o k (upd f j v) := by
  unfold cA; rw [show (cF S o k f).2.1 o k = f from ca_cF S o k f, cF_cF]
/-- what waits: the top first -/
def stkR (h : Nat → Int32) : List Int → Prop
  | [] => True
  | x :: st => (h (st.length + 1)).toInt = x ∧ sml x ∧ stkR h st
theorem stk_cg {h h' : Nat → Int32} : ∀ st : List Int, (∀ k, k ≤ st.length → h' k = h k) → stkR h st → stkR h' st
  | [], _, _ => trivial
  | x :: st, e, k => ⟨by rw [e _ (by simp)]; exact k.1, k.2.1, stk_cg st (fun i hi => e i (by simp; omega)) k.2.2⟩
theorem stk_up {h : Nat → Int32} {st : List Int} {x : Int} {v : Int32} (hs : stkR h st) (hx : v.toInt = x) (hm : sml x) : stkR (upd h (st.length + 1) v) (x :: st) := ⟨by rw [pk_us]; exact hx, hm, stk_cg st (fun k hk => pk_un (by omega)) hs⟩
theorem pld_d {α : Type} {E : Nat → ClassId} {P : va_W} {a len : Nat} {code : Nat → Int32} (hp : parE E P a = some (len, code)) {k : Nat} (hk : k < len) (hl : len < 2 ^ 31) (K : Int32 → Option α) : pld E P a (nI k) K = K (code k) := by
  unfold pld; rw [hp, bs, chk_in hk hl, nI_clamp (by omega)]
theorem ccd_op {code : Nat → Int32} {i m : Nat} (h : (ccd code i).1 = m) (hm : m < 99) : code (2 * i) = nI m := by
  unfold ccd at h
  by_cases k : code (2 * i) < 0
  · rw [if_pos k] at h; omega
  · rw [if_neg k] at h
    obtain ⟨j, hj, e⟩ := nI_of k
    rw [e, nI_clamp hj] at h
    rw [e]; subst h; rfl
theorem ccd_n {code : Nat → Int32} {i m : Nat} (h : code (2 * i) = nI m) (hm : m < 11) : (ccd code i).2 = (code (2 * i + 1)).toInt := by
  show (if code (2 * i) = 11 ∨ code (2 * i) = 12 then (if (code (2 * i + 1)).toInt % 2 = 0 then (code (2 * i + 1)).toInt / 2 else -1) else (code (2 * i + 1)).toInt) = _
  rw [h, if_neg]
  intro k
  rcases k with k | k
  · have := (nI_eq (a := m) (b := 11) (by omega) (by decide)).mp k; omega
  · have := (nI_eq (a := m) (b := 12) (by omega) (by decide)).mp k; omega
theorem ccd_j {code : Nat → Int32} {i m : Nat} (h : code (2 * i) = nI m) (hm : m = 11 ∨ m = 12) (hi : (i : Int) < (ccd code i).2) : code (2 * i + 1) = nI (2 * (ccd code i).2.toNat) ∧ (ccd code i).2.toNat < 2 ^ 30 := by
  unfold ccd at hi ⊢
  have e : code (2 * i) = 11 ∨ code (2 * i) = 12 := by
    rcases hm with rfl | rfl
    · exact Or.inl h
    · exact Or.inr h
  rw [if_pos e] at hi ⊢
  by_cases z : (code (2 * i + 1)).toInt % 2 = 0
  · rw [if_pos z] at hi ⊢
    have := rng_i (code (2 * i + 1))
    refine ⟨?_, by omega⟩
    rw [eq_i, nI_toInt (by omega)]; omega
  · rw [if_neg z] at hi; omega
theorem i1 (k : Nat) : nI (2 * k) + 1 = nI (2 * k + 1) := (nI_succ _).symm
theorem i2 (k : Nat) : nI (2 * k) + 2 = nI (2 * (k + 1)) := nI_add (2 * k) 2
theorem int01 {v : Int32} {x : Int} (h : v.toInt = x) (h01 : x = 0 ∨ x = 1) : (v = 0 ∧ x = 0) ∨ (v = 1 ∧ x = 1) := by
  rcases h01 with k | k
  · exact Or.inl ⟨by rw [eq_i, h, k]; rfl, k⟩
  · exact Or.inr ⟨by rw [eq_i, h, k]; rfl, k⟩
theorem sml_n {x : Int} (h : 0 ≤ x) (h2 : x ≤ 1000) : sml x := ⟨by omega, by omega⟩
theorem qc_reckL {F : Nat} {E : Nat → ClassId} {P : va_W} {S : CS} {a len : Nat} {code : Nat → Int32} {wo wk wn nw j : Nat} {w : Nat → Int} (hp : parE E P a = some (len, code)) (hj : 2 * j ≤ len) (hl : len ≤ 800) (hwo : wo ≠ 12) (hw : ∀ k, k < nw → (ca S wo wk k).toInt = w k ∧ sml (w k)) (hn : nw ≤ wn) (hwn : wn < 2 ^ 31) : ∀ (n i fuel : Nat) (st : List Int) (h : Nat → Int32) (r : Option (List Int)), n < fuel → run nw (ccd code) w j n i st = some r → st.length ≤ 50 → stkR h st → ∃ (h' : Nat → Int32) (v : Int32), C_4_reckon_L25 F E P wo wk wn a (nI (2 * j)) fuel (cF S 12 0 h) (nI st.length) (nI (2 * i)) = some (v, cF S 12 0 h') ∧ (r = none → v = -2000000000) ∧ (∀ st', r = some st' → v = h' st'.length ∧ stkR h' st') := by
  intro n
  induction n with
  | zero =>
    intro i fuel st h r hf hr hs hk
    obtain ⟨m, rfl⟩ : ∃ m, fuel = m + 1 := ⟨fuel - 1, by omega⟩
    unfold run at hr
    by_cases e : i = j
    · rw [if_pos e] at hr
      cases hr
      refine ⟨h, h st.length, ?_, (fun k => by cases k), (fun st' k => by cases k; exact ⟨rfl, hk⟩)⟩
      rw [C_4_reckon_L25, i1, if_pos (nI_le (by omega) (by omega)), chk_in (by omega) (by decide), nI_clamp (by omega), ca_cF]
    · rw [if_neg e] at hr; cases hr
  | succ n ih =>
    intro i fuel st h r hf hr hs hk
    obtain ⟨m, rfl⟩ : ∃ m, fuel = m + 1 := ⟨fuel - 1, by omega⟩
    unfold run at hr
    by_cases e : i = j
    · rw [if_pos e] at hr
      cases hr
      refine ⟨h, h st.length, ?_, (fun k => by cases k), (fun st' k => by cases k; exact ⟨rfl, hk⟩)⟩
      rw [C_4_reckon_L25, i1, if_pos (nI_le (by omega) (by omega)), chk_in (by omega) (by decide), nI_clamp (by omega), ca_cF]
    rw [if_neg e] at hr
    by_cases e2 : j < i
    · rw [if_pos e2] at hr; cases hr
    rw [if_neg e2] at hr
    have hstep : ∀ K, (C_4_reckon_L25 F E P wo wk wn a (nI (2 * j)) (m + 1) (cF S 12 0 h) (nI st.length) (nI (2 * i)) = K) ↔ ((if code (2 * i) = 0 then C_4_reckon_B59 F E P wo wk wn (C_4_reckon_L25 F E P wo wk wn a (nI (2 * j)) m) (cF S 12 0 h) a (nI st.length) (nI (2 * j)) (nI (2 * i)) (code (2 * i)) (code (2 * i + 1)) else if code (2 * i) = (1 : Int32) then C_4_reckon_B59 F E P wo wk wn (C_4_reckon_L25 F E P wo wk wn a (nI (2 * j)) m) (cF S 12 0 h) a (nI st.length) (nI (2 * j)) (nI (2 * i)) (code (2 * i)) (code (2 * i + 1)) else if code (2 * i) = (10 : Int32) then chk (inb (nI st.length) 52 = true) (chk (inb (nI st.length) 52 = true) (stc (cA (cF S 12 0 h) 12 0 (nI st.length).toNatClampNeg ((1 : Int32) - (ca (cF S 12 0 h) 12 0 (nI st.length).toNatClampNeg))) fun S6 => C_4_reckon_B260 F E P wo wk wn (C_4_reckon_L25 F E P wo wk wn a (nI (2 * j)) m) S6 a (nI st.length) (nI (2 * j)) (nI (2 * i)))) else if (1 : Int32) ≤ nI st.length then if code (2 * i) = (11 : Int32) then C_4_reckon_B170 F E P wo wk wn (C_4_reckon_L25 F E P wo wk wn a (nI (2 * j)) m) (cF S 12 0 h) a (nI st.length) (nI (2 * j)) (nI (2 * i)) (code (2 * i)) (code (2 * i + 1)) else if code (2 * i) = (12 : Int32) then C_4_reckon_B170 F E P wo wk wn (C_4_reckon_L25 F E P wo wk wn a (nI (2 * j)) m) (cF S 12 0 h) a (nI st.length) (nI (2 * j)) (nI (2 * i)) (code (2 * i)) (code (2 * i + 1)) else chk (inb (nI st.length + (-1 : Int32)) 52 = true) (chk (inb ((nI st.length + (-1 : Int32)) + (1 : Int32)) 52 = true) ((C_4_combine (code (2 * i)) ((ca (cF S 12 0 h) 12 0 ((nI st.length + (-1 : Int32))).toNatClampNeg)).toInt64 ((ca (cF S 12 0 h) 12 0 (((nI st.length + (-1 : Int32)) + (1 : Int32))).toNatClampNeg)).toInt64).bind fun y4 => chk (inb (nI st.length + (-1 : Int32)) 52 = true) (stc (cA (cF S 12 0 h) 12 0 ((nI st.length + (-1 : Int32))).toNatClampNeg y4) fun S5 => chk (inb (nI st.length + (-1 : Int32)) 52 = true) (if (ca S5 12 0 ((nI st.length + (-1 : Int32))).toNatClampNeg) = (-2000000000 : Int32) then some ((-2000000000 : Int32), S5) else C_4_reckon_B260 F E P wo wk wn (C_4_reckon_L25 F E P wo wk wn a (nI (2 * j)) m) S5 a (nI st.length + (-1 : Int32)) (nI (2 * j)) (nI (2 * i)))))) else some ((-2000000000 : Int32), (cF S 12 0 h))) = K) := by
      intro K
      rw [C_4_reckon_L25, i1, if_neg (nI_ge (by omega) (by omega)), pld_d hp (by omega) (by omega), pld_d hp (by omega) (by omega)]
    simp only [hstep]
    by_cases c01 : (ccd code i).1 = 0 ∨ (ccd code i).1 = 1
    · rw [if_pos c01] at hr
      by_cases ok : st.length < 50 ∧ 0 ≤ (ccd code i).2 ∧ (ccd code i).2 ≤ 1000 ∧ ((ccd code i).1 = 1 → (ccd code i).2 < nw)
      · rw [if_pos ok] at hr
        obtain ⟨o1, o2, o3, o4⟩ := ok
        have push : ∀ (v : Int32) (x : Int), v.toInt = x → sml x → run nw (ccd code) w j n (i + 1) (x :: st) = some r → ∃ (h' : Nat → Int32) (y : Int32), C_4_reckon_B117 F E P wo wk wn (C_4_reckon_L25 F E P wo wk wn a (nI (2 * j)) m) (cF S 12 0 h) a (nI st.length + 1) (nI (2 * j)) (nI (2 * i)) (nI st.length + 1) v = some (y, cF S 12 0 h') ∧ (r = none → y = -2000000000) ∧ (∀ st', r = some st' → y = h' st'.length ∧ stkR h' st') := by
          intro v x hv hx hrr
          obtain ⟨h', y, g1, g2, g3⟩ := ih (i + 1) m (x :: st) (upd h (st.length + 1) v) r (by omega) hrr (by simp; omega) (stk_up hk hv hx)
          refine ⟨h', y, ?_, g2, g3⟩
          unfold C_4_reckon_B117 C_4_reckon_B260
          rw [← nI_succ, chk_in (by omega) (by decide), nI_clamp (by omega), cA_cF, stc_d, i2]
          exact g1
        rcases c01 with c0 | c1
        · have op := ccd_op c0 (by omega)
          have ar := ccd_n op (by omega)
          rw [if_pos c0] at hr
          rw [if_pos (show code (2 * i) = 0 from op)]
          unfold C_4_reckon_B59
          rw [if_neg (show ¬ (52 : Int32) ≤ nI st.length + 1 from by rw [← nI_succ]; exact nI_ge (b := 52) (by omega) (by decide)), if_neg (show ¬ code (2 * i) = (1 : Int32) by rw [op]; decide)]
          unfold C_4_reckon_B93
          rw [if_pos (show code (2 * i) = 0 from op)]
          exact push _ _ ar.symm (sml_n o2 o3) hr
        · have op := ccd_op c1 (by omega)
          have ar := ccd_n op (by omega)
          rw [if_neg (by omega)] at hr
          rw [if_neg (show ¬ code (2 * i) = 0 by rw [op]; decide), if_pos (show code (2 * i) = 1 from op)]
          have hlt := o4 c1
          obtain ⟨q, hq, eq⟩ : ∃ q : Nat, q < nw ∧ code (2 * i + 1) = nI q := ⟨(ccd code i).2.toNat, by omega, by rw [ar]; exact nI_of' (by omega)⟩
          have eq2 : (ccd code i).2.toNat = q := by rw [ar, eq, nI_toInt (by omega)]; omega
          rw [eq2] at hr
          unfold C_4_reckon_B59
          rw [if_neg (show ¬ (52 : Int32) ≤ nI st.length + 1 from by rw [← nI_succ]; exact nI_ge (b := 52) (by omega) (by decide)), if_pos (show code (2 * i) = 1 from op), eq, if_neg (nI_pos (by omega)), if_pos (show nI q < Int32.ofNat wn from nI_lt (by omega) hwn)]
          unfold C_4_reckon_B93
          rw [if_neg (show ¬ code (2 * i) = 0 by rw [op]; decide), chk_in (by omega) hwn, nI_clamp (by omega), ca_cFn _ _ _ _ _ _ (Or.inl hwo)]
          exact push _ _ (hw q hq).1 (hw q hq).2 hr
      · rw [if_neg ok] at hr; cases hr
    rw [if_neg c01] at hr
    match st, hr, hs, hk with
    | [], hr, _, _ => cases hr
    | x :: st1, hr, hs, hk =>
      obtain ⟨k1, k2, k3⟩ := hk
      simp only [List.length_cons] at hs
      rw [List.length_cons]
      by_cases c10 : (ccd code i).1 = 10
      · have op := ccd_op c10 (by omega)
        simp only [if_pos c10] at hr
        by_cases x01 : x = 0 ∨ x = 1
        · rw [if_pos x01] at hr
          rw [if_neg (show ¬ code (2 * i) = 0 by rw [op]; decide), if_neg (show ¬ code (2 * i) = 1 by rw [op]; decide), if_pos (show code (2 * i) = 10 from op), chk_in (by omega) (by decide), chk_in (by omega) (by decide), nI_clamp (by omega), cA_cF, stc_d, ca_cF]
          have hv : (1 - h (st1.length + 1)).toInt = 1 - x := by
            rcases int01 k1 x01 with ⟨a1, a2⟩ | ⟨a1, a2⟩ <;> rw [a1, a2] <;> decide
          obtain ⟨h', y, g1, g2, g3⟩ := ih (i + 1) m ((1 - x) :: st1) (upd h (st1.length + 1) (1 - h (st1.length + 1))) r (by omega) hr (by simp; omega) (stk_up k3 hv (by rcases x01 with z | z <;> rw [z] <;> unfold sml <;> decide))
          refine ⟨h', y, ?_, g2, g3⟩
          unfold C_4_reckon_B260
          rw [i2]; exact g1
        · rw [if_neg x01] at hr; cases hr
      simp only [if_neg c10] at hr
      have n0 : ∀ q : Nat, (ccd code i).1 ≠ q → q < 99 → ¬ code (2 * i) = nI q := fun q hq h9 k => hq (by
        unfold ccd; rw [k, if_neg (nI_pos (by omega)), nI_clamp (by omega)])
      rw [if_neg (show ¬ code (2 * i) = (0 : Int32) from n0 0 (fun k => c01 (Or.inl k)) (by omega)), if_neg (show ¬ code (2 * i) = (1 : Int32) from n0 1 (fun k => c01 (Or.inr k)) (by omega)), if_neg (show ¬ code (2 * i) = (10 : Int32) from n0 10 c10 (by omega)), if_pos (show (1 : Int32) ≤ nI (st1.length + 1) from nI_le (a := 1) (by omega) (by omega))]
      by_cases cj : (ccd code i).1 = 11 ∨ (ccd code i).1 = 12
      · simp only [if_pos cj] at hr
        by_cases ok : (x = 0 ∨ x = 1) ∧ (i : Int) < (ccd code i).2
        · rw [if_pos ok] at hr
          obtain ⟨x01, lt⟩ := ok
          have hop : ∃ q : Nat, (q = 11 ∨ q = 12) ∧ (ccd code i).1 = q ∧ code (2 * i) = nI q := by
            rcases cj with z | z
            · exact ⟨11, Or.inl rfl, z, ccd_op z (by omega)⟩
            · exact ⟨12, Or.inr rfl, z, ccd_op z (by omega)⟩
          obtain ⟨q, hq, q1, op⟩ := hop
          obtain ⟨aj, tj⟩ := ccd_j op hq lt
          have hB : (if code (2 * i) = (11 : Int32) then C_4_reckon_B170 F E P wo wk wn (C_4_reckon_L25 F E P wo wk wn a (nI (2 * j)) m) (cF S 12 0 h) a (nI (st1.length + 1)) (nI (2 * j)) (nI (2 * i)) (code (2 * i)) (code (2 * i + 1)) else if code (2 * i) = (12 : Int32) then C_4_reckon_B170 F E P wo wk wn (C_4_reckon_L25 F E P wo wk wn a (nI (2 * j)) m) (cF S 12 0 h) a (nI (st1.length + 1)) (nI (2 * j)) (nI (2 * i)) (code (2 * i)) (code (2 * i + 1)) else chk (inb (nI (st1.length + 1) + (-1 : Int32)) 52 = true) (chk (inb ((nI (st1.length + 1) + (-1 : Int32)) + (1 : Int32)) 52 = true) ((C_4_combine (code (2 * i)) ((ca (cF S 12 0 h) 12 0 ((nI (st1.length + 1) + (-1 : Int32))).toNatClampNeg)).toInt64 ((ca (cF S 12 0 h) 12 0 (((nI (st1.length + 1) + (-1 : Int32)) + (1 : Int32))).toNatClampNeg)).toInt64).bind fun y4 => chk (inb (nI (st1.length + 1) + (-1 : Int32)) 52 = true) (stc (cA (cF S 12 0 h) 12 0 ((nI (st1.length + 1) + (-1 : Int32))).toNatClampNeg y4) fun S5 => chk (inb (nI (st1.length + 1) + (-1 : Int32)) 52 = true) (if (ca S5 12 0 ((nI (st1.length + 1) + (-1 : Int32))).toNatClampNeg) = (-2000000000 : Int32) then some ((-2000000000 : Int32), S5) else C_4_reckon_B260 F E P wo wk wn (C_4_reckon_L25 F E P wo wk wn a (nI (2 * j)) m) S5 a (nI (st1.length + 1) + (-1 : Int32)) (nI (2 * j)) (nI (2 * i))))))) = C_4_reckon_B189 F E P wo wk wn (C_4_reckon_L25 F E P wo wk wn a (nI (2 * j)) m) (cF S 12 0 h) a (nI (st1.length + 1)) (nI (2 * j)) (nI (2 * i)) (nI (2 * (ccd code i).2.toNat)) (h (st1.length + 1)) (nI (q - 11)) := by
            rw [aj]
            unfold C_4_reckon_B170
            rcases hq with rfl | rfl
            · rw [if_pos (show code (2 * i) = 11 from op), chk_in (by omega) (by decide), if_neg (show ¬ code (2 * i) = 12 by rw [op]; decide), nI_clamp (by omega), ca_cF]; rfl
            · rw [if_neg (show ¬ code (2 * i) = 11 by rw [op]; decide), if_pos (show code (2 * i) = 12 from op), chk_in (by omega) (by decide), if_pos (show code (2 * i) = 12 from op), nI_clamp (by omega), ca_cF]; rfl
          rw [hB]
          unfold C_4_reckon_B189 C_4_reckon_B260
          have hx : h (st1.length + 1) = nI (q - 11) ↔ x = (if (ccd code i).1 = 11 then 0 else 1) := by
            rw [q1]
            rcases hq with rfl | rfl
            · rw [if_pos rfl]
              rcases int01 k1 x01 with ⟨a1, a2⟩ | ⟨a1, a2⟩ <;> rw [a1, a2] <;> decide
            · rw [if_neg (by decide)]
              rcases int01 k1 x01 with ⟨a1, a2⟩ | ⟨a1, a2⟩ <;> rw [a1, a2] <;> decide
          by_cases jx : x = (if (ccd code i).1 = 11 then 0 else 1)
          · rw [if_pos jx] at hr
            rw [if_pos (hx.mpr jx)]
            have et : (if nI (2 * i) < nI (2 * (ccd code i).2.toNat) - 2 then nI (2 * (ccd code i).2.toNat) - 2 else nI (2 * i)) + 2 = nI (2 * (ccd code i).2.toNat) := by
              rw [show (2 : Int32) = nI 2 from rfl, pk_sub (by omega)]
              by_cases z : 2 * i < 2 * (ccd code i).2.toNat - 2
              · rw [if_pos (nI_lt z (by omega)), nI_add]; congr 1; omega
              · rw [if_neg (nI_nlt (by omega) (by omega)), nI_add]; congr 1; omega
            rw [et]
            exact ih _ m (x :: st1) h r (by omega) hr (by simp; omega) ⟨k1, k2, k3⟩
          · rw [if_neg jx] at hr
            rw [if_neg (fun z => jx (hx.mp z)), pk_m1, i2]
            exact ih _ m st1 h r (by omega) hr (by omega) k3
        · rw [if_neg ok] at hr; cases hr
      simp only [if_neg cj] at hr
      rw [if_neg (show ¬ code (2 * i) = (11 : Int32) from n0 11 (fun k => cj (Or.inl k)) (by omega)), if_neg (show ¬ code (2 * i) = (12 : Int32) from n0 12 (fun k => cj (Or.inr k)) (by omega))]
      match st1, hr, hs, k1, k3 with
      | [], hr, _, _, _ => cases hr
      | y :: st2, hr, hs, k1, k3 =>
        obtain ⟨m1, m2, m3⟩ := k3
        simp only [List.length_cons] at hs k1
        rw [List.length_cons]
        by_cases c29 : 2 ≤ (ccd code i).1 ∧ (ccd code i).1 < 10
        · simp only [if_pos c29] at hr
          have op := ccd_op (rfl : (ccd code i).1 = (ccd code i).1) (by omega)
          obtain ⟨u, u1, u2, u3⟩ := qc_combine c29.1 c29.2 (a := h (st2.length + 1)) (b := h (st2.length + 1 + 1)) (by rw [m1]; exact m2) (by rw [k1]; exact k2)
          rw [m1, k1] at u2 u3
          rw [pk_m1, ← nI_succ, chk_in (by omega) (by decide), chk_in (by omega) (by decide), nI_clamp (by omega), nI_clamp (by omega), ca_cF, op, u1, bs, chk_in (by omega) (by decide), cA_cF, stc_d, ca_cF, pk_us, chk_in (by omega) (by decide)]
          rcases hc : rcomb (ccd code i).1 y x with _ | v
          · rw [hc] at hr
            cases hr
            rw [if_pos (u2 hc)]
            exact ⟨_, _, rfl, (fun _ => rfl), (fun st' k => by cases k)⟩
          · rw [hc] at hr
            have hv := u3 v hc
            have sv := rcomb_s hc
            rw [if_neg (fun z => by rw [z] at hv; rw [← hv] at sv; exact absurd sv (by unfold sml; decide))]
            obtain ⟨h', z, g1, g2, g3⟩ := ih (i + 1) m (v :: st2) (upd h (st2.length + 1) u) r (by omega) hr (by simp; omega) (stk_up m3 hv sv)
            refine ⟨h', z, ?_, g2, g3⟩
            unfold C_4_reckon_B260
            rw [i2]; exact g1
        · simp only [if_neg c29] at hr; cases hr
/-- the class's way to reckon a piece -/
theorem qc_reckon {F : Nat} {E : Nat → ClassId} {P : va_W} {S : CS} {a len : Nat} {code : Nat → Int32} {wo wk wn nw i j d : Nat} {w : Nat → Int} {f : (Nat → Int) → Option Int} (hF : 1000 ≤ F) (hp : parE E P a = some (len, code)) (hj : 2 * j ≤ len) (hl : len ≤ 800) (hwo : wo ≠ 12) (hw : ∀ k, k < nw → (ca S wo wk k).toInt = w k ∧ sml (w k)) (hn : nw ≤ wn) (hwn : wn < 2 ^ 31) (hd : d ≤ 50) (sg : Seg nw (ccd code) i j d f) : ∃ (h' : Nat → Int32) (v : Int32), C_4_reckon F E P S a (nI (2 * i)) (nI (2 * j)) wo wk wn = some (v, cF S 12 0 h') ∧ (f w = none → v = -2000000000) ∧ (∀ x, f w = some x → v.toInt = x ∧ sml x) := by
  have hr := sg.2 w [] (by simpa using hd)
  have hij := sg.1
  obtain ⟨h', v, g1, g2, g3⟩ := qc_reckL (F := F) (S := S) hp hj hl hwo hw hn hwn (j - i) i F [] (upd (ca S 12 0) 0 0) _ (by omega) hr (by simp) trivial
  refine ⟨h', v, ?_, (fun k => g2 (by rw [k]; rfl)), (fun x k => ?_)⟩
  · unfold C_4_reckon plen
    rw [stc_d, hp, bs]
    show C_4_reckon_L25 F E P wo wk wn a (if Int32.ofNat len < nI (2 * j) then Int32.ofNat len else nI (2 * j)) F (cA S 12 0 0 0) 0 (if nI (2 * i) < 0 then 0 else nI (2 * i)) = _
    rw [show (if Int32.ofNat len < nI (2 * j) then Int32.ofNat len else nI (2 * j)) = nI (2 * j) from if_neg (nI_nlt (a := len) hj (by omega)), show (if nI (2 * i) < (0 : Int32) then (0 : Int32) else nI (2 * i)) = nI (2 * i) from if_neg (nI_pos (by omega))]
    exact g1
  · rw [k] at g3
    obtain ⟨a1, a2⟩ := g3 [x] rfl
    rw [a1]; exact ⟨a2.1, a2.2.1⟩
