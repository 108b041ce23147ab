/-- the nearer end -/
def neE (R : Nat → Int32) (D : Nat → Nat → Nat) (a l : Nat) : Nat := if D a (mlA R l) < D a (mlB R l) then mlA R l else if D a (mlB R l) < D a (mlA R l) then mlB R l else if mlA R l < mlB R l then mlA R l else mlB R l
def mnE (R : Nat → Int32) (D : Nat → Nat → Nat) (a l : Nat) : Nat := if D a (mlB R l) < D a (mlA R l) then D a (mlB R l) else D a (mlA R l)
theorem mn_ne (R : Nat → Int32) (D : Nat → Nat → Nat) (a l : Nat) : D a (neE R D a l) = mnE R D a l := by
  unfold neE mnE
  split
  · rw [if_neg (by omega)]
  · split
    · rfl
    · split <;> omega
theorem neE_8 {R : Nat → Int32} {D : Nat → Nat → Nat} {a l : Nat} (v : VL R l) : neE R D a l < 8 := by
  have := ml_ok v
  unfold neE; split
  · omega
  · split
    · omega
    · split <;> omega
theorem qc_nearer {S : CS} {L C B a l : Nat} {R : Nat → Int32} {D : Nat → Nat → Nat} (m1 : MT nI (ca S 13 1) D) (va : VA R L C) (t : TW (ci S 1) (ca S 1) R) (hB : B ≤ 5000) (hb : BD D B) (ha : a < 8) (hl : l < L) : C_8_nearerEnd S 1 (nI a) (nI l) = some (nI (neE R D a l)) := by
  have hL := va.1.1
  obtain ⟨ea, eb, -, hA, hBB, ne, -⟩ := ml_ok (va.2.1 l hl)
  obtain ⟨t0, t1, -⟩ := t.2.1 l (by omega)
  have d1 := hb a (mlA R l)
  have d2 := hb a (mlB R l)
  unfold C_8_nearerEnd
  rw [qc_hasLane hL (t.1.1.trans va.1.2.2.1), isAt_in hl (by omega), bs, if_neg (by decide), chk_in (by omega) (by decide), chk_in (by omega) (by decide), chk_in (by omega) (by decide), chk_in (by omega) (by decide), nI_clamp (by omega), t0, t1, ea, eb]
  unfold neE
  by_cases z : mlA R l < mlB R l
  · rw [if_pos (nI_lt z (by omega)), if_neg (nI_nlt (by omega) (by omega)), qc_btw ha hBB, bs, qc_btw ha hA, bs, m1 a _ ha hBB, m1 a _ ha hA]
    by_cases y : D a (mlA R l) < D a (mlB R l)
    · rw [if_pos y, if_pos (nI_le (by omega) (by omega))]
    · rw [if_neg y]
      by_cases w : D a (mlB R l) < D a (mlA R l)
      · rw [if_pos w, if_neg (nI_ge w (by omega))]
      · rw [if_neg w, if_pos z, if_pos (nI_le (by omega) (by omega))]
  · rw [if_neg (nI_nlt (by omega) (by omega)), if_pos (nI_lt (by omega) (by omega)), qc_btw ha hA, bs, qc_btw ha hBB, bs, m1 a _ ha hBB, m1 a _ ha hA]
    by_cases y : D a (mlA R l) < D a (mlB R l)
    · rw [if_pos y, if_neg (nI_ge y (by omega))]
    · rw [if_neg y, if_pos (nI_le (by omega) (by omega))]
      by_cases w : D a (mlB R l) < D a (mlA R l)
      · rw [if_pos w]
      · rw [if_neg w, if_neg z]
theorem fi_sub {x y : Nat} (hx : x = 1000000 ∨ x ≤ 5000) (hy : y = 1000000 ∨ y ≤ 5000) : (fi x - fi y < 0 ↔ x < y) ∧ (fi x - fi y = 0 ↔ x = y) := by
  have e : ∀ z : Nat, (z = 1000000 ∨ z ≤ 5000) → fi z = nI (if z = 1000000 then 100000000 else z) := fun z hz => by
    rcases hz with rfl | h
    · rfl
    · rw [fi_lt (by omega), if_neg (by omega)]
  rw [e x hx, e y hy]
  have h1 : (if x = 1000000 then 100000000 else x) < 2 ^ 30 := by split <;> omega
  have h2 : (if y = 1000000 then 100000000 else y) < 2 ^ 30 := by split <;> omega
  have hs := pk_sub_toInt h1 h2
  constructor
  · rw [lt_i, hs, i32_0]
    by_cases p : x = 1000000 <;> by_cases q : y = 1000000 <;> simp only [p, q, if_true, if_false] <;> omega
  · rw [eq_i, hs, i32_0]
    by_cases p : x = 1000000
    · rw [if_pos p]
      by_cases q : y = 1000000
      · rw [if_pos q]; omega
      · rw [if_neg q]; omega
    · rw [if_neg p]
      by_cases q : y = 1000000
      · rw [if_pos q]; omega
      · rw [if_neg q]; omega
theorem qm_nearEnd {L C B a l : Nat} {σ : MS} {D : Nat → Nat → Nat} (mt : MT fi (ma σ 42) D) (va : VA (ma σ 3) L C) (hB : B ≤ 5000) (hb : BD D B) (ha : a < 8) (hl : l < L) : M_nearEnd σ (nI a) (nI l) = some (nI (neE (ma σ 3) D a l)) := by
  have hL := va.1.1
  obtain ⟨ea, eb, -, hA, hBB, ne, -⟩ := ml_ok (va.2.1 l hl)
  have d1 : D a (mlA (ma σ 3) l) = 1000000 ∨ D a (mlA (ma σ 3) l) ≤ 5000 := by have := hb a (mlA (ma σ 3) l); omega
  have d2 : D a (mlB (ma σ 3) l) = 1000000 ∨ D a (mlB (ma σ 3) l) ≤ 5000 := by have := hb a (mlB (ma σ 3) l); omega
  obtain ⟨f1, f2⟩ := fi_sub d1 d2
  unfold M_nearEnd M_nearEnd_B53
  rw [a26, a36, chk_in (by omega) (by decide), chk_in (by omega) (by decide), nI_clamp (by omega), nI_clamp (by omega), ea, eb, qm_farOf mt hB hb ha hA, bs, qm_farOf mt hB hb ha hBB, bs]
  unfold neE
  by_cases y : D a (mlA (ma σ 3) l) < D a (mlB (ma σ 3) l)
  · rw [if_pos (f1.mpr y), if_pos y]
  · rw [if_neg (fun w => y (f1.mp w)), if_neg y]
    by_cases w : D a (mlB (ma σ 3) l) < D a (mlA (ma σ 3) l)
    · rw [if_neg (fun u => by have := f2.mp u; omega), if_pos w]
    · rw [if_pos (f2.mpr (by omega)), if_neg w]
      by_cases z : mlA (ma σ 3) l < mlB (ma σ 3) l
      · rw [if_pos z, if_neg (nI_ge z (by omega))]
      · rw [if_neg z, if_pos (nI_le (by omega) (by omega))]
/-- the nearest lane of a name -/
def nnL (R : Nat → Int32) (D : Nat → Nat → Nat) (a : Nat) (x : Int32) : Nat → Nat
  | 0 => 1000000
  | j + 1 => if R (8 + j) = x ∧ mnE R D a j < nnL R D a x j then mnE R D a j else nnL R D a x j
def nnB (R : Nat → Int32) (D : Nat → Nat → Nat) (a : Nat) (x : Int32) : Nat → Int32
  | 0 => -1
  | j + 1 => if R (8 + j) = x ∧ mnE R D a j < nnL R D a x j then nI j else nnB R D a x j
theorem mnE_b {R : Nat → Int32} {D : Nat → Nat → Nat} {B a l : Nat} (hb : BD D B) : mnE R D a l = 1000000 ∨ mnE R D a l ≤ B := by
  unfold mnE; split
  · exact hb _ _
  · exact hb _ _
theorem nnL_b {R : Nat → Int32} {D : Nat → Nat → Nat} {B a : Nat} {x : Int32} (hb : BD D B) : ∀ j, nnL R D a x j = 1000000 ∨ nnL R D a x j ≤ B
  | 0 => Or.inl rfl
  | j + 1 => by
    show (if _ then _ else _) = _ ∨ (if _ then _ else _) ≤ _
    split
    · exact mnE_b hb
    · exact nnL_b hb j
theorem nn_ok {R : Nat → Int32} {D : Nat → Nat → Nat} {B a : Nat} {x : Int32} (hB : B ≤ 5000) (hb : BD D B) : ∀ j, nnB R D a x j = -1 ∨ ∃ l, l < j ∧ nnB R D a x j = nI l ∧ nnL R D a x j = mnE R D a l ∧ mnE R D a l ≤ B
  | 0 => Or.inl rfl
  | j + 1 => by
    by_cases z : R (8 + j) = x ∧ mnE R D a j < nnL R D a x j
    · have e1 : nnB R D a x (j + 1) = nI j := if_pos z
      have e2 : nnL R D a x (j + 1) = mnE R D a j := if_pos z
      have h1 := nnL_b (R := R) (a := a) (x := x) hb j
      have h2 := mnE_b (R := R) (a := a) (l := j) hb
      exact Or.inr ⟨j, by omega, e1, e2, by omega⟩
    · have e1 : nnB R D a x (j + 1) = nnB R D a x j := if_neg z
      have e2 : nnL R D a x (j + 1) = nnL R D a x j := if_neg z
      rw [e1, e2]
      rcases nn_ok hB hb j with q | ⟨l, l1, l2, l3, l4⟩
      · exact Or.inl q
      · exact Or.inr ⟨l, by omega, l2, l3, l4⟩
theorem nnC {F L C B a : Nat} {S : CS} {R : Nat → Int32} {D : Nat → Nat → Nat} {x : Int32} (m1 : MT nI (ca S 13 1) D) (va : VA R L C) (t : TW (ci S 1) (ca S 1) R) (hB : B ≤ 5000) (hb : BD D B) (ha : a < 8) : ∀ (k j fuel : Nat), j + k = L → k < fuel → C_8_nearestNamed_L10 F 1 S (nI a) x fuel (nnB R D a x j) (nI (nnL R D a x j)) (nI j) = some (nnB R D a x L)
  | 0, j, fuel + 1, e, _ => by
    obtain rfl : j = L := by omega
    have hL := va.1.1
    rw [C_8_nearestNamed_L10, t.1.1, va.1.2.2.1, if_pos (nI_le (Nat.le_refl _) (by omega))]
  | k + 1, j, fuel + 1, e, hf => by
    have hL := va.1.1
    obtain ⟨ea, eb, -, hA, hBB, ne, -⟩ := ml_ok (va.2.1 j (by omega))
    obtain ⟨t0, t1, -, -, t4⟩ := t.2.1 j (by omega)
    have d1 := hb a (mlA R j)
    have d2 := hb a (mlB R j)
    have n1 := nnL_b (R := R) (a := a) (x := x) hb j
    have ih := nnC (F := F) (x := x) m1 va t hB hb ha k (j + 1) fuel (by omega) (by omega)
    rw [C_8_nearestNamed_L10, t.1.1, va.1.2.2.1, if_neg (nI_ge (by omega) (by omega)), chk_in (by omega) (by decide), nI_clamp (by omega), t0, t1, t4, ea, eb]
    unfold C_8_nearestNamed_B74
    have em : (if nI (D a (mlB R j)) < nI (D a (mlA R j)) then nI (D a (mlB R j)) else nI (D a (mlA R j))) = nI (mnE R D a j) := by
      unfold mnE
      by_cases q : D a (mlB R j) < D a (mlA R j)
      · rw [if_pos q, if_pos (nI_lt q (by omega))]
      · rw [if_neg q, if_neg (nI_nlt (by omega) (by omega))]
    have m2 := mnE_b (R := R) (a := a) (l := j) hb
    rw [← nI_succ]
    rw [show nnB R D a x (j + 1) = (if R (8 + j) = x ∧ mnE R D a j < nnL R D a x j then nI j else nnB R D a x j) from rfl, show nnL R D a x (j + 1) = (if R (8 + j) = x ∧ mnE R D a j < nnL R D a x j then mnE R D a j else nnL R D a x j) from rfl] at ih
    by_cases z : R (8 + j) = x
    · rw [if_pos z, chk_in (by omega) (by decide), qc_btw ha hA, bs, chk_in (by omega) (by decide), qc_btw ha hBB, bs, m1 a _ ha hA, m1 a _ ha hBB, em]
      by_cases y : mnE R D a j < nnL R D a x j
      · rw [if_pos ⟨z, y⟩, if_pos ⟨z, y⟩] at ih
        rw [if_neg (nI_ge y (by omega))]; exact ih
      · rw [if_neg (fun w => y w.2), if_neg (fun w => y w.2)] at ih
        rw [if_pos (nI_le (by omega) (by omega))]; exact ih
    · rw [if_neg (fun w => z w.1), if_neg (fun w => z w.1)] at ih
      rw [if_neg z]; exact ih
theorem nnM {F L C B a : Nat} {σ : MS} {D : Nat → Nat → Nat} {x x3 : Int32} (mt : MT fi (ma σ 42) D) (va : VA (ma σ 3) L C) (hB : B ≤ 5000) (hb : BD D B) (ha : a < 8) : ∀ (k j fuel : Nat), j + k = L → k < fuel → M_letter_L47 F σ (nI a) x x3 fuel (fi (nnL (ma σ 3) D a x j)) (nnB (ma σ 3) D a x j) (nI j) = (if nnB (ma σ 3) D a x L = (-1 : Int32) then M_letter_B134 F σ x3 (fi (nnL (ma σ 3) D a x L)) (nnB (ma σ 3) D a x L) else if 0 ≤ x3 then (M_nearEnd σ (nI a) (nnB (ma σ 3) D a x L)).bind fun q5 => M_letter_L169 F σ x3 q5 F (nI a) (0 : Int32) else M_letter_B134 F σ x3 (fi (nnL (ma σ 3) D a x L)) (nnB (ma σ 3) D a x L))
  | 0, j, fuel + 1, e, _ => by
    obtain rfl : j = L := by omega
    have hL := va.1.1
    rw [M_letter_L47, va.1.2.2.1, if_pos (nI_le (Nat.le_refl _) (by omega))]
  | k + 1, j, fuel + 1, e, hf => by
    have hL := va.1.1
    have n1 := nnL_b (R := ma σ 3) (a := a) (x := x) hb j
    have m2 := mnE_b (R := ma σ 3) (a := a) (l := j) hb
    have ih := nnM (F := F) (x := x) (x3 := x3) mt va hB hb ha k (j + 1) fuel (by omega) (by omega)
    have le : fi (nnL (ma σ 3) D a x j) ≤ fi (mnE (ma σ 3) D a j) ↔ nnL (ma σ 3) D a x j ≤ mnE (ma σ 3) D a j := fi_leI (by omega) (by omega)
    rw [M_letter_L47, va.1.2.2.1, if_neg (nI_ge (by omega) (by omega)), a8, chk_in (by omega) (by decide), nI_clamp (by omega), qm_nearEnd mt va hB hb ha (by omega), bs, qm_farOf mt hB hb ha (neE_8 (va.2.1 j (by omega))), bs, mn_ne (ma σ 3) D a j]
    unfold M_letter_B100 M_letter_B116 M_letter_B118
    rw [← nI_succ]
    rw [show nnB (ma σ 3) D a x (j + 1) = (if ma σ 3 (8 + j) = x ∧ mnE (ma σ 3) D a j < nnL (ma σ 3) D a x j then nI j else nnB (ma σ 3) D a x j) from rfl, show nnL (ma σ 3) D a x (j + 1) = (if ma σ 3 (8 + j) = x ∧ mnE (ma σ 3) D a j < nnL (ma σ 3) D a x j then mnE (ma σ 3) D a j else nnL (ma σ 3) D a x j) from rfl] at ih
    by_cases z : ma σ 3 (8 + j) = x
    · rw [if_pos z]
      by_cases y : mnE (ma σ 3) D a j < nnL (ma σ 3) D a x j
      · rw [if_pos ⟨z, y⟩, if_pos ⟨z, y⟩] at ih
        have ny : ¬ fi (nnL (ma σ 3) D a x j) ≤ fi (mnE (ma σ 3) D a j) := fun w => by have := le.mp w; omega
        rw [if_neg ny, if_neg ny]; exact ih
      · rw [if_neg (fun w => y w.2), if_neg (fun w => y w.2)] at ih
        have py : fi (nnL (ma σ 3) D a x j) ≤ fi (mnE (ma σ 3) D a j) := le.mpr (by omega)
        rw [if_pos py, if_pos py]; exact ih
    · rw [if_neg (fun w => z w.1), if_neg (fun w => z w.1)] at ih
      rw [if_neg z]; exact ih
/-- along the way -/
theorem wayL {F L C g i : Nat} {S : CS} {σ : MS} (hF : 1000 ≤ F) (m0 : MT nI (ca S 13 0) (stW (ma σ 3) L)) (m1 : MT nI (ca S 13 1) (DD (ma σ 3) L)) (mt : MT fi (ma σ 42) (DD (ma σ 3) L)) (va : VA (ma σ 3) L C) (hg : g < 8) (hi : i < 2 ^ 31) : ∀ (m c n fC fM : Nat), mu (DD (ma σ 3) L) g c ≤ m → n + m ≤ 7 → m < fC → m + 1 < fM → c < 8 → n ≤ i → DD (ma σ 3) L c g < 1000000 → ∃ v, C_8_cornerOnWay_L6 F S (nI g) (nI i) fC (nI c) (nI n) = some v ∧ M_letter_L169 F σ (nI i) (nI g) fM (nI c) (nI n) = some (v, σ) := by
  intro m
  induction m with
  | zero =>
    intro c n fC fM hm hn hfC hfM hc hni hD
    obtain ⟨fC, rfl⟩ : ∃ x, fC = x + 1 := ⟨fC - 1, by omega⟩
    obtain ⟨fM, rfl⟩ : ∃ x, fM = x + 1 := ⟨fM - 1, by omega⟩
    have e : c = g := by
      by_cases z : c = g
      · exact z
      · exfalso
        obtain ⟨o, ⟨o1, o2, o3⟩, -⟩ := DD_next va hc hg z hD
        have p := stW_p va.2.1 L (Nat.le_refl _) c o
        have := mu_lt (g := g) o1 (show DD (ma σ 3) L o g < DD (ma σ 3) L c g by omega)
        omega
    rw [C_8_cornerOnWay_L6, if_neg (show ¬ (8 : Int32) ≤ nI n from nI_ge (b := 8) (by omega) (by decide)), if_pos (by rw [e]), M_letter_L169, if_neg (nI_nlt hni hi), if_pos (by rw [e])]
    exact ⟨_, rfl, rfl⟩
  | succ m ih =>
    intro c n fC fM hm hn hfC hfM hc hni hD
    obtain ⟨fC, rfl⟩ : ∃ x, fC = x + 1 := ⟨fC - 1, by omega⟩
    obtain ⟨fM, rfl⟩ : ∃ x, fM = x + 1 := ⟨fM - 1, by omega⟩
    rw [C_8_cornerOnWay_L6, if_neg (show ¬ (8 : Int32) ≤ nI n from nI_ge (b := 8) (by omega) (by decide)), M_letter_L169, if_neg (nI_nlt hni hi)]
    by_cases z : c = g
    · rw [if_pos (by rw [z]), if_pos (by rw [z])]; exact ⟨_, rfl, rfl⟩
    · have nz : ¬ nI c = nI g := fun w => z ((nI_eq (by omega) (by omega)).mp w)
      rw [if_neg nz, if_neg nz, if_neg (nI_m1 (by omega))]
      obtain ⟨o, ⟨o1, o2, o3⟩, oo⟩ := DD_next va hc hg z hD
      have p := stW_p va.2.1 L (Nat.le_refl _) c o
      have hb := DD_b va c g
      have hmu := mu_lt (g := g) o1 (show DD (ma σ 3) L o g < DD (ma σ 3) L c g by omega)
      have nc := nextC (F := F) (S := S) (B := 2304) m0 m1 va (by omega) (DD_b va) hc hg ⟨o1, o2, o3⟩ oo o 0 F (by omega) (by omega)
      have nc' : C_8_nextOnWay F S (nI c) (nI g) = some (nI o) := nc
      have nm := nextM (F := F) (B := 2304) (k169 := M_letter_L169 F σ (nI i) (nI g) fM) (x3 := nI i) (x8 := nI n) hF mt va (by omega) (DD_b va) hc hg (by omega) ⟨o1, o2, o3⟩ oo o 0 F (by omega) (by omega)
      have nm' : M_letter_L187 F (M_letter_L169 F σ (nI i) (nI g) fM) σ (nI i) (nI g) (nI c) (nI n) F 0 = M_letter_L169 F σ (nI i) (nI g) fM (nI o) (nI n + 1) := nm
      rw [nc', bs, nm', ← nI_succ]
      by_cases y : n = i
      · obtain ⟨fM, rfl⟩ : ∃ x, fM = x + 1 := ⟨fM - 1, by omega⟩
        rw [if_pos (by rw [y]), y]
        by_cases w : i + 1 < 2 ^ 31
        · rw [M_letter_L169, if_pos (nI_lt (by omega) w)]; exact ⟨_, rfl, rfl⟩
        · omega
      · rw [if_neg (fun w => y ((nI_eq (by omega) (by omega)).mp w))]
        exact ih o (n + 1) fC fM (by omega) (by omega) (by omega) (by omega) o1 (by omega) (by omega)
theorem pa_30 {F : Nat} {E : Nat → ClassId} (hF : 1000 ≤ F) : ag_30 F E (Rel E) := fun S P σ x1 x2 x3 h => by
  have hh := h
  obtain ⟨L, C, H, W, t, vr, -⟩ := hh
  unfold C_10_letter M_letter
  rw [stt_d, qc_isCorner, qm_isCorner, bs, bs, qc_isName, qm_inName, bs, bs]
  by_cases z : isAt x1 8 = 0
  · rw [if_pos z, if_pos z]; exact ⟨_, _, rfl, rfl, rel_0 h 0⟩
  rw [if_neg z, if_neg z]
  by_cases y : isAt x2 20 = 0
  · rw [if_pos y, if_pos y]; exact ⟨_, _, rfl, rfl, rel_0 h 0⟩
  rw [if_neg y, if_neg y]
  by_cases w : (-2 : Int32) ≤ x3
  rotate_left
  · rw [if_neg w, if_neg w]; exact ⟨_, _, rfl, rfl, rel_0 h 0⟩
  rw [if_pos w, if_pos w]
  obtain ⟨a, ha, rfl⟩ := isAt_n0 (by decide) z
  obtain ⟨f, g, c1, c2, c3⟩ := qc_measure hF vr.1 t
  obtain ⟨f', m1, m2⟩ := qm_layFar (σ := mI σ 0 0) hF vr.1
  have k : Rel E (cF (cF S 13 0 g) 13 1 f) P (mF (mI σ 0 0) 42 f') := rel_KM (rel_KC (rel_0 h 0) (kc_13 _ _ _)) (km_42 _ _)
  have mc1 : MT nI (ca (cF (cF S 13 0 g) 13 1 f) 13 1) (DD (ma σ 3) L) := by rw [ca_13]; exact c3
  have mc0 : MT nI (ca (cF (cF S 13 0 g) 13 1 f) 13 0) (stW (ma σ 3) L) := by rw [ca_cFn _ _ _ _ _ _ (Or.inr (by decide)), ca_cF]; exact c2
  have mm : MT fi (ma (mF (mI σ 0 0) 42 f') 42) (DD (ma σ 3) L) := by rw [ma_42]; exact m2
  have hLF : L < F := by have := vr.1.1.1; omega
  have nc := nnC (F := F) (S := cF (cF S 13 0 g) 13 1 f) (B := 2304) (x := x2) mc1 vr.1 t (by omega) (DD_b vr.1) ha L 0 F (by omega) hLF
  have nc' : C_8_nearestNamed F (cF (cF S 13 0 g) 13 1 f) 1 (nI a) x2 = some (nnB (ma σ 3) (DD (ma σ 3) L) a x2 L) := nc
  have nm := nnM (F := F) (σ := mF (mI σ 0 0) 42 f') (B := 2304) (x := x2) (x3 := x3) mm vr.1 (by omega) (DD_b vr.1) ha L 0 F (by omega) hLF
  rw [show ma (mF (mI σ 0 0) 42 f') 3 = ma σ 3 from rfl] at nm
  have nm' : M_letter_L47 F (mF (mI σ 0 0) 42 f') (nI a) x2 x3 F 100000000 (-1) 0 = _ := nm
  rw [c1, bs, nc', bs, m1, bs, nm']
  unfold M_letter_B134 M_letter_B146
  rcases nn_ok (R := ma σ 3) (a := a) (x := x2) (B := 2304) (by omega) (DD_b vr.1) L with q | ⟨l, l1, l2, l3, l4⟩
  · rw [q, if_pos rfl, if_pos rfl, if_pos rfl]; exact ⟨_, _, rfl, rfl, k⟩
  · have hl10 := vr.1.1.1
    have nl : ¬ nI l = (-1 : Int32) := nI_m1 (by omega)
    rw [l2, if_neg nl, if_neg nl, if_neg nl]
    by_cases v2 : x3 = -2
    · rw [if_pos v2, if_neg (by rw [v2]; decide), if_pos v2]; exact ⟨_, _, rfl, rfl, k⟩
    · rw [if_neg v2, if_neg v2]
      have ge := neE_8 (D := DD (ma σ 3) L) (a := a) (vr.1.2.1 l l1)
      have hD : DD (ma σ 3) L a (neE (ma σ 3) (DD (ma σ 3) L) a l) ≤ 2304 := by rw [mn_ne (ma σ 3) (DD (ma σ 3) L) a l]; exact l4
      have qn := qc_nearer (S := cF (cF S 13 0 g) 13 1 f) (B := 2304) mc1 vr.1 t (by omega) (DD_b vr.1) ha l1
      rw [qn, bs]
      by_cases v1 : x3 = -1
      · rw [if_pos v1, if_neg (by rw [v1]; decide), qc_btw ha ge, bs, mc1 a _ ha ge, mn_ne (ma σ 3) (DD (ma σ 3) L) a l, l3, fi_lt (by omega)]
        exact ⟨_, _, rfl, rfl, k⟩
      · have em2 : (-2 : Int32).toInt = -2 := by decide
        have em1 : (-1 : Int32).toInt = -1 := by decide
        have p0 : 0 ≤ x3.toInt := by
          rw [le_i, em2] at w
          have a1 : x3.toInt ≠ -2 := fun e => v2 ((eq_i _ _).mpr (by rw [e, em2]))
          have a2 : x3.toInt ≠ -1 := fun e => v1 ((eq_i _ _).mpr (by rw [e, em1]))
          omega
        have hr := rng_i x3
        obtain ⟨i, hi, rfl⟩ : ∃ i : Nat, i < 2 ^ 31 ∧ x3 = nI i := ⟨x3.toInt.toNat, by omega, nI_of' p0⟩
        have qm := qm_nearEnd (σ := mF (mI σ 0 0) 42 f') (B := 2304) mm vr.1 (by omega) (DD_b vr.1) ha l1
        have mu7 := mu_7 (DD (ma σ 3) L) (neE (ma σ 3) (DD (ma σ 3) L) a l) ha
        obtain ⟨v, u1, u2⟩ := wayL (F := F) (S := cF (cF S 13 0 g) 13 1 f) (σ := mF (mI σ 0 0) 42 f') hF mc0 mc1 mm vr.1 ge hi 7 a 0 F F mu7 (by omega) (by omega) (by omega) ha (Nat.zero_le _) (by show DD (ma σ 3) L a _ < _; omega)
        have u1' : C_8_cornerOnWay F (cF (cF S 13 0 g) 13 1 f) (nI a) (nI (neE (ma σ 3) (DD (ma σ 3) L) a l)) (nI i) = some v := u1
        have u2' : M_letter_L169 F (mF (mI σ 0 0) 42 f') (nI i) (nI (neE (ma σ 3) (DD (ma σ 3) L) a l)) F (nI a) 0 = some (v, mF (mI σ 0 0) 42 f') := u2
        have qm' : M_nearEnd (mF (mI σ 0 0) 42 f') (nI a) (nI l) = some (nI (neE (ma σ 3) (DD (ma σ 3) L) a l)) := qm
        rw [if_neg v1, if_pos (nI_pos' hi), u1', bs, qm', bs, u2']
        exact ⟨_, _, rfl, rfl, k⟩
