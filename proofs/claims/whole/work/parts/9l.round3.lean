/-- corners with lanes -/
theorem stW_AB {R : Nat → Int32} {L : Nat} (vl : ∀ j, j < L → VL R j) {l : Nat} : ∀ j, l < j → j ≤ L → stW R j (mlA R l) (mlB R l) ≤ 9
  | 0, h, _ => by omega
  | j + 1, h, hL => by
    have v := ml_ok (vl j (by omega))
    rw [stW_s]
    by_cases z : l = j
    · subst z
      rw [if_pos (Or.inl ⟨rfl, rfl⟩)]
      split <;> omega
    · have ih := stW_AB vl j (show l < j by omega) (by omega)
      split
      · rename_i q
        split
        · omega
        · rcases q with ⟨q1, q2⟩ | ⟨q1, q2⟩
          · rw [← q1, ← q2]; exact ih
          · rw [← q1, ← q2, stW_sym]; exact ih
      · exact ih
theorem cn_ex {R : Nat → Int32} {i : Nat} : ∀ j, 1 ≤ cnE R i j → ∃ l, l < j ∧ (i = mlA R l ∨ i = mlB R l)
  | 0, h => by have : cnE R i 0 = 0 := rfl; omega
  | j + 1, h => by
    rw [cnE_s] at h
    by_cases z : eB R j i = true
    · exact ⟨j, by omega, (eB_d R j i).mp z⟩
    · rw [if_neg z] at h
      obtain ⟨l, l1, l2⟩ := cn_ex j (by omega)
      exact ⟨l, by omega, l2⟩
theorem cn_in {R : Nat → Int32} {i l : Nat} (h : i = mlA R l ∨ i = mlB R l) : ∀ j, l < j → 1 ≤ cnE R i j
  | 0, q => by omega
  | j + 1, q => by
    rw [cnE_s]
    by_cases z : l = j
    · subst z; rw [if_pos ((eB_d R l i).mpr h)]; omega
    · have := cn_in h j (by omega); omega
def finR (R : Nat → Int32) (L : Nat) : Prop := ∀ i j, i < 8 → j < 8 → 1 ≤ cnE R i L → 1 ≤ cnE R j L → DD R L i j < 1000000
theorem fin_of {R : Nat → Int32} {L C c : Nat} (va : VA R L C) (hc : c < 8) (h : ∀ k, k < 8 → 1 ≤ cnE R k L → DD R L c k < 1000000) : finR R L := fun i j hi hj h1 h2 => by
  have a := h i hi h1
  have b := h j hj h2
  have t := DD_tri R L i j hc
  have s := DD_sym R L i c
  have b1 := DD_b va i j
  have b2 := DD_b va c i
  have b3 := DD_b va c j
  omega
theorem fin_A {R : Nat → Int32} {L C : Nat} (va : VA R L C) (h : ∀ l, l < L → DD R L (mlA R 0) (mlA R l) < 1000000) : finR R L := by
  by_cases z : L = 0
  · intro i j _ _ h1 _
    rw [z] at h1
    have : cnE R i 0 = 0 := rfl
    omega
  have v0 := ml_ok (va.2.1 0 (by omega))
  refine fin_of va (c := mlA R 0) (by omega) (fun k hk h1 => ?_)
  obtain ⟨l, l1, l2⟩ := cn_ex L h1
  have vl := ml_ok (va.2.1 l l1)
  rcases l2 with l2 | l2
  · rw [l2]; exact h l l1
  · have w := DD_w R L (a := mlA R l) (b := mlB R l) (by omega)
    have u := stW_AB va.2.1 (l := l) L l1 (Nat.le_refl _)
    have t := DD_tri R L (mlA R 0) k (c := mlA R l) (by omega)
    have := h l l1
    have b1 := DD_b va (mlA R 0) k
    have b2 := DD_b va (mlA R 0) (mlA R l)
    rw [l2] at t b1 ⊢
    omega
/-- the odd corners -/
def odB (R : Nat → Int32) (j i : Nat) : Bool := decide (cnE R i j % 2 = 1)
theorem od_s (R : Nat → Int32) (j i : Nat) : odB R (j + 1) i = (odB R j i ^^ eB R j i) := by
  unfold odB
  rw [cnE_s]
  cases eB R j i with
  | true =>
    rw [if_pos rfl]
    by_cases z : cnE R i j % 2 = 1
    · rw [decide_eq_true z, decide_eq_false (by omega)]; rfl
    · rw [decide_eq_false z, decide_eq_true (by omega)]; rfl
  | false => rw [if_neg (by decide), Nat.add_zero, Bool.xor_false]
theorem eB_x {R : Nat → Int32} {j : Nat} (v : VL R j) (i : Nat) : eB R j i = (decide (i = mlA R j) ^^ decide (i = mlB R j)) := by
  have := ml_ok v
  unfold eB
  by_cases z : i = mlA R j
  · rw [decide_eq_true z, decide_eq_false (show ¬ i = mlB R j by omega)]; rfl
  · rw [decide_eq_false z]; cases decide (i = mlB R j) <;> rfl
theorem od_pr {R : Nat → Int32} {L : Nat} (vl : ∀ j, j < L → VL R j) : ∀ j, j ≤ L → prF (odB R j) 8 = false
  | 0, _ => prF_0 8
  | j + 1, h => by
    have v := ml_ok (vl j (by omega))
    have e : prF (odB R (j + 1)) 8 = prF (fun i => odB R j i ^^ (fun i => decide (i = mlA R j) ^^ decide (i = mlB R j)) i) 8 := prF_c 8 fun i _ => by rw [od_s, eB_x (vl j (by omega))]
    rw [e, prF_x, prF_x, prF_1, prF_1, od_pr vl j (by omega), decide_eq_true v.2.2.2.1, decide_eq_true v.2.2.2.2.1]; rfl
def svR (R : Nat → Int32) : Nat → Int32
  | 0 => 0
  | j + 1 => svR R j + R (46 + j)
theorem rnC {F L C : Nat} {S : CS} {R : Nat → Int32} (va : VA R L C) (t : TW (ci S 1) (ca S 1) R) : ∀ (k j fuel : Nat) (x : Int32), j + k = L → k < fuel → (∀ i, i < 32 → bt x i = odB R j i) → ∃ z, C_10_round_L40 F S fuel (svR R j) x (nI j) = ((C_8_cheapestPairs F S z).bind fun y1 => some ((svR R L + y1.1), y1.2)) ∧ ∀ i, i < 32 → bt z i = odB R L i
  | 0, j, fuel + 1, x, e, _, h => by
    obtain rfl : j = L := by omega
    have hL := va.1.1
    rw [C_10_round_L40, t.1.1, va.1.2.2.1, if_pos (nI_le (Nat.le_refl _) (by omega))]
    exact ⟨x, rfl, h⟩
  | k + 1, j, fuel + 1, x, e, hf, h => by
    have hL := va.1.1
    obtain ⟨ea, eb, -, hA, hBB, ne, -⟩ := ml_ok (va.2.1 j (by omega))
    obtain ⟨t0, t1, t2, -, -⟩ := t.2.1 j (by omega)
    rw [C_10_round_L40, t.1.1, va.1.2.2.1, if_neg (nI_ge (by omega) (by omega)), chk_in (by omega) (by decide), chk_in (by omega) (by decide), chk_in (by omega) (by decide), nI_clamp (by omega), t0, t1, t2, ea, eb, ← nI_succ]
    refine rnC va t k (j + 1) fuel _ (by omega) (by omega) (fun i hi => ?_)
    rw [b_xor, b_xor, b_one (by omega) hi, b_one (by omega) hi, h i hi, od_s, eB_x (va.2.1 j (by omega))]
theorem par2 : ∀ n, n ≤ 10 → ((nI n - nI n / (2 : Int32) * (2 : Int32)) = (1 : Int32) ↔ n % 2 = 1) := by decide +kernel
theorem rnM15 {F L C : Nat} {σ : MS} (hF : 1000 ≤ F) (va : VA (ma σ 3) L C) {y : Int32} : ∀ (t k fuel : Nat) (x : Int32), k + t = 8 → t < fuel → (∀ i, i < 32 → bt x i = (decide (i < k) && odB (ma σ 3) L i)) → ∃ z, M_round_L15 F σ y fuel x (nI k) = M_round_L50 F σ z F y 0 ∧ ∀ i, i < 32 → bt z i = odB (ma σ 3) L i
  | 0, k, fuel + 1, x, e, _, h => by
    obtain rfl : k = 8 := by omega
    rw [M_round_L15, if_pos (by decide)]
    refine ⟨x, rfl, fun i hi => ?_⟩
    rw [h i hi]
    by_cases z : i < 8
    · rw [decide_eq_true z, Bool.true_and]
    · rw [decide_eq_false z, Bool.false_and]
      unfold odB
      rw [cnE_8 va.2.1 (by omega) L (Nat.le_refl _)]; rfl
  | t + 1, k, fuel + 1, x, e, hf, h => by
    have hL := va.1.1
    have hc := cnE_le (ma σ 3) k L
    have p := par2 (cnE (ma σ 3) k L) (by omega)
    rw [M_round_L15, if_neg (show ¬ (8 : Int32) ≤ nI k from nI_ge (b := 8) (by omega) (by decide)), qm_laneEnds hF va (by omega), bs]
    unfold M_round_B40
    rw [← nI_succ]
    by_cases z : cnE (ma σ 3) k L % 2 = 1
    · rw [if_pos (p.mpr z)]
      refine rnM15 hF va t (k + 1) fuel _ (by omega) (by omega) (fun i hi => ?_)
      rw [b_or, h i hi, b_one (by omega) hi]
      by_cases w : i = k
      · subst w
        have : odB (ma σ 3) L i = true := decide_eq_true z
        rw [this]; simp
      · have : (i < k + 1) = (i < k) := by apply propext; omega
        simp [w, this]
    · rw [if_neg (fun q => z (p.mp q))]
      refine rnM15 hF va t (k + 1) fuel _ (by omega) (by omega) (fun i hi => ?_)
      rw [b_or, h i hi, b_0, Bool.or_false]
      by_cases w : i = k
      · subst w
        have : odB (ma σ 3) L i = false := decide_eq_false z
        rw [this]; simp
      · have : (i < k + 1) = (i < k) := by apply propext; omega
        simp [this]
theorem rnY {F L C B : Nat} {σ : MS} {D : Nat → Nat → Nat} {x : Int32} (va : VA (ma σ 3) L C) (mt : MT fi (ma σ 42) D) (hB : B ≤ 5000) (hb : BD D B) (h : ∀ l, l < L → D (mlA (ma σ 3) 0) (mlA (ma σ 3) l) < 1000000) : ∀ (k j fuel : Nat), j + k = L → k < fuel → M_round_L50 F σ x fuel (svR (ma σ 3) j) (nI j) = (M_layPaired F σ).bind fun q1 => chk (inb x 256 = true) (some ((svR (ma σ 3) L + (ma q1.2 46 (x).toNatClampNeg)), q1.2))
  | 0, j, fuel + 1, e, _ => by
    obtain rfl : j = L := by omega
    have hL := va.1.1
    rw [M_round_L50, va.1.2.2.1, if_pos (nI_le (Nat.le_refl _) (by omega))]
  | k + 1, j, fuel + 1, e, hf => by
    have hL := va.1.1
    have v0 := ml_ok (va.2.1 0 (by omega))
    have vj := ml_ok (va.2.1 j (by omega))
    have hj := h j (by omega)
    rw [M_round_L50, va.1.2.2.1, if_neg (nI_ge (by omega) (by omega)), a26, a46, chk_in (by omega) (by decide), chk_in (by omega) (by decide), nI_clamp (by omega), nI_clamp (by omega), show ma σ 3 26 = nI (mlA (ma σ 3) 0) from v0.1, vj.1, qm_farOf mt hB hb v0.2.2.2.1 vj.2.2.2.1, bs, fi_lt hj, if_neg (show ¬ nI (D (mlA (ma σ 3) 0) (mlA (ma σ 3) j)) = 100000000 from fun q => by have := (nI_eq (b := 100000000) (by omega) (by omega)).mp q; omega), ← nI_succ]
    exact rnY va mt hB hb h k (j + 1) fuel (by omega) (by omega)
theorem rnN {F L C B : Nat} {σ : MS} {D : Nat → Nat → Nat} {x : Int32} (va : VA (ma σ 3) L C) (mt : MT fi (ma σ 42) D) (hB : B ≤ 5000) (hb : BD D B) : ∀ (k j fuel : Nat) (y : Int32), j + k = L → k < fuel → (∃ l, j ≤ l ∧ l < L ∧ ¬ D (mlA (ma σ 3) 0) (mlA (ma σ 3) l) < 1000000) → M_round_L50 F σ x fuel y (nI j) = some (-1, σ)
  | 0, j, fuel + 1, y, e, _, ⟨l, l1, l2, _⟩ => by omega
  | k + 1, j, fuel + 1, y, e, hf, ⟨l, l1, l2, l3⟩ => by
    have hL := va.1.1
    have v0 := ml_ok (va.2.1 0 (by omega))
    have vj := ml_ok (va.2.1 j (by omega))
    rw [M_round_L50, va.1.2.2.1, if_neg (nI_ge (by omega) (by omega)), a26, a46, chk_in (by omega) (by decide), chk_in (by omega) (by decide), nI_clamp (by omega), nI_clamp (by omega), show ma σ 3 26 = nI (mlA (ma σ 3) 0) from v0.1, vj.1, qm_farOf mt hB hb v0.2.2.2.1 vj.2.2.2.1, bs]
    by_cases z : D (mlA (ma σ 3) 0) (mlA (ma σ 3) j) < 1000000
    · have ne : l ≠ j := fun q => by rw [q] at l3; exact absurd z l3
      rw [fi_lt z, if_neg (show ¬ nI (D (mlA (ma σ 3) 0) (mlA (ma σ 3) j)) = 100000000 from fun q => by have := (nI_eq (b := 100000000) (by omega) (by omega)).mp q; omega), ← nI_succ]
      exact rnN va mt hB hb k (j + 1) fuel _ (by omega) (by omega) ⟨l, by omega, l2, l3⟩
    · rw [fi_ge (by omega), if_pos rfl]
theorem km_46 (σ : MS) (f : Nat → Int32) : KM σ (mF σ 46 f) := ⟨⟨rfl, rfl, rfl, rfl, fun _ _ => rfl, rfl, rfl, rfl⟩, ⟨rfl, rfl, rfl, rfl, rfl, rfl, rfl, rfl, rfl⟩, rfl, rfl, rfl, rfl⟩
theorem pa_33 {F : Nat} {E : Nat → ClassId} (hF : 1000 ≤ F) : ag_33 F E (Rel E) := fun S P σ h => by
  have hh := h
  obtain ⟨L, C, H, W, t, vr, -⟩ := hh
  obtain ⟨f, g, c1, c2, c3⟩ := qc_measure hF vr.1 t
  obtain ⟨f', m1, m2⟩ := qm_layFar (σ := mI σ 0 0) hF vr.1
  obtain ⟨w, w1, w2⟩ := qc_cwl (F := F) (S := cF (cF S 13 0 g) 13 1 f) hF vr.1 t
  have k : Rel E (cF (cF S 13 0 g) 13 1 f) P (mF (mI σ 0 0) 42 f') := rel_KM (rel_KC (rel_0 h 0) (kc_13 _ _ _)) (km_42 _ _)
  have mc : MT nI (ca (cF (cF S 13 0 g) 13 1 f) 13 1) (DD (ma σ 3) L) := by rw [ca_13]; exact c3
  have mm : MT fi (ma (mF (mI σ 0 0) 42 f') 42) (DD (ma σ 3) L) := by rw [ma_42]; exact m2
  have hLF : L < F := by have := vr.1.1.1; omega
  have hL := vr.1.1.1
  obtain ⟨c, d1, d2, d3, d4⟩ := qc_low hF w
  have dc : ∀ k, k < 8 → bt w k = true → c < 8 := fun k hk q => by
    refine Classical.byContradiction fun r => ?_
    exact absurd ((d4 k (by omega)).symm.trans q) (by decide)
  obtain ⟨z, z1, z2⟩ := rnM15 (F := F) (σ := mF (mI σ 0 0) 42 f') (y := 0) hF vr.1 8 0 F 0 (by omega) (by omega) (fun i hi => by rw [b_0]; simp)
  have z1' : M_round_L15 F (mF (mI σ 0 0) 42 f') 0 F 0 0 = _ := z1
  unfold C_10_round M_round C_8_hangTogether
  rw [stt_d, c1, bs, w1, bs, d1, bs, m1, bs, z1']
  by_cases fn : finR (ma σ 3) L
  · have hy := hangY (F := F) (S := cF (cF S 13 0 g) 13 1 f) (B := 2304) (x := w) mc (by omega) (DD_b vr.1) dc (fun k hk q => by
      have c8 := dc k hk q
      have q1 := d3 c8
      rw [w2 _ (by omega)] at q q1
      exact fn c k c8 hk (of_decide_eq_true q1) (of_decide_eq_true q)) 8 0 F (by omega) (by omega)
    have hy' : C_8_hangTogether_L7 F (cF (cF S 13 0 g) 13 1 f) w (nI c) F 0 = _ := hy
    obtain ⟨z', y1, y2⟩ := rnC (F := F) (S := cF (cF S 13 0 g) 13 1 f) vr.1 t L 0 F 0 (by omega) hLF (fun i hi => by rw [b_0]; rfl)
    have y1' : C_10_round_L40 F (cF (cF S 13 0 g) 13 1 f) F 0 0 0 = _ := y1
    have ez : z' = z := b_ext fun i hi => (y2 i hi).trans (z2 i hi).symm
    subst ez
    obtain ⟨o, ho, rfl⟩ : ∃ o, o < 256 ∧ z' = nI o := s_of (fun i h8 hi => by
      rw [y2 i hi]; unfold odB; rw [cnE_8 vr.1.2.1 h8 L (Nat.le_refl _)]; rfl)
    have ry := rnY (F := F) (σ := mF (mI σ 0 0) 42 f') (B := 2304) (x := nI o) vr.1 mm (by omega) (DD_b vr.1) (fun l hl => by
      have v0 := ml_ok (vr.1.2.1 0 (by omega))
      have vj := ml_ok (vr.1.2.1 l hl)
      exact fn _ _ v0.2.2.2.1 vj.2.2.2.1 (cn_in (Or.inl rfl) L (by omega)) (cn_in (Or.inl rfl) L hl)) L 0 F (by omega) hLF
    have ry' : M_round_L50 F (mF (mI σ 0 0) 42 f') (nI o) F 0 0 = _ := ry
    obtain ⟨g', p1, p2⟩ := qm_lp (F := F) (σ := mF (mI σ 0 0) 42 f') (B := 2304) hF (DD_sym (ma σ 3) L) mm (by omega) (DD_b vr.1)
    obtain ⟨v, v1, v2⟩ := p2 o ho
    obtain ⟨u, g'', u1, u2⟩ := cpL (F := F) (B := 2304) (S := cF (cF S 13 0 g) 13 1 f) hF (DD_sym (ma σ 3) L) (by omega) (DD_b vr.1) ho 255 1 F (upd (ca (cF (cF S 13 0 g) 13 1 f) 13 3) 0 0) (by omega) (by omega) (by omega) mc (fun s hs _ => by
      obtain rfl : s = 0 := by omega
      exact ⟨0, pk_us, GG_0 _ _⟩)
    have u1' : C_8_cheapestPairs F (cF (cF S 13 0 g) 13 1 f) (nI o) = _ := u1
    have epr : prF (tb o) 8 = false := by
      rw [← od_pr vr.1.2.1 L (Nat.le_refl _)]
      exact prF_c 8 fun i hi => y2 i (by omega)
    have ein : ∀ a, a < 8 → tb o a = true → 1 ≤ cnE (ma σ 3) a L := fun a ha q => by
      have := (y2 a (by omega)).symm.trans q
      have := of_decide_eq_true this
      omega
    obtain ⟨n, w', em⟩ := Mt_ex (D := DD (ma σ 3) L) 256 o ho ho epr (fun a b ha hb h1 h2 => fn a b ha hb (ein a ha h1) (ein b hb h2))
    have euv := GG_eq (DD_b vr.1) ho em u2 v2
    rw [hy', bs, if_neg (by decide), y1', u1', bs, ry', p1, bs, chk_in ho (by decide), nI_clamp (by omega)]
    refine ⟨_, mF (mF (mI σ 0 0) 42 f') 46 g', rfl, ?_, rel_KM (rel_KC k (kc_any _ _ _)) (km_46 _ _)⟩
    show some (_ + ma (mF (mF (mI σ 0 0) 42 f') 46 g') 46 o, _) = some (svR (ma σ 3) L + nI u, _)
    rw [ma_46, v1, euv]; rfl
  · have hn : ∃ i, 0 ≤ i ∧ i < 8 ∧ bt w i = true ∧ ¬ DD (ma σ 3) L c i < 1000000 := by
      refine Classical.byContradiction fun q => fn ?_
      by_cases c8 : c < 8
      · refine fin_of vr.1 c8 (fun k hk h1 => Classical.byContradiction fun r => q ⟨k, Nat.zero_le _, hk, ?_, r⟩)
        rw [w2 _ (by omega)]; exact decide_eq_true h1
      · intro i j hi _ h1 _
        have := d4 i (by omega)
        rw [w2 _ (by omega)] at this
        exact absurd h1 (of_decide_eq_false this)
    have hl : ∃ l, 0 ≤ l ∧ l < L ∧ ¬ DD (ma σ 3) L (mlA (ma σ 3) 0) (mlA (ma σ 3) l) < 1000000 := by
      refine Classical.byContradiction fun q => fn (fin_A vr.1 (fun l hl => Classical.byContradiction fun r => q ⟨l, Nat.zero_le _, hl, r⟩))
    have h0 := hangN (F := F) (S := cF (cF S 13 0 g) 13 1 f) (B := 2304) (x := w) mc (by omega) (DD_b vr.1) dc 8 0 F (by omega) (by omega) hn
    have h0' : C_8_hangTogether_L7 F (cF (cF S 13 0 g) 13 1 f) w (nI c) F 0 = _ := h0
    have h1 := rnN (F := F) (σ := mF (mI σ 0 0) 42 f') (B := 2304) (x := z) vr.1 mm (by omega) (DD_b vr.1) L 0 F 0 (by omega) hLF hl
    have h1' : M_round_L50 F (mF (mI σ 0 0) 42 f') z F 0 0 = _ := h1
    rw [h0', bs, if_pos rfl, h1']
    exact ⟨_, _, rfl, rfl, k⟩
