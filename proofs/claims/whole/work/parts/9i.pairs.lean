/-- sets of corners without two of them -/
def rmX (x : Int32) (a b : Nat) : Int32 := x &&& ((((1 : Int32) <<< (nI a &&& 31)) ||| ((1 : Int32) <<< (nI b &&& 31))) ^^^ (-1 : Int32))
def rm (s a b : Nat) : Nat := (rmX (nI s) a b).toNatClampNeg
def tb (s i : Nat) : Bool := bt (nI s) i
theorem b_rmX {x : Int32} {a b i : Nat} (ha : a < 32) (hb : b < 32) (hi : i < 32) : bt (rmX x a b) i = (bt x i && (!decide (i = a) && !decide (i = b))) := by
  unfold rmX
  rw [b_and, b_not _ hi, b_or, b_one ha hi, b_one hb hi, Bool.not_or]
theorem tb_8 : ∀ s, s < 256 → ∀ i, 8 ≤ i → i < 32 → tb s i = false := by
  intro s hs i h8 hi
  have e : nI s = nI s &&& 255 := by rw [pk_andN (by omega) 8 (by decide), Nat.mod_eq_of_lt (by omega)]
  unfold tb
  rw [e, b_and, b_255, decide_eq_false (by omega), Bool.and_false]
theorem s_of {x : Int32} (h : ∀ i, 8 ≤ i → i < 32 → bt x i = false) : ∃ s, s < 256 ∧ x = nI s := by
  obtain ⟨s, hs, e⟩ := byteE x
  refine ⟨s, hs, ?_⟩
  rw [← e]
  exact b_ext fun i hi => by
    rw [b_and, b_255]
    by_cases z : i < 8
    · rw [decide_eq_true z, Bool.and_true]
    · rw [h i (by omega) hi, Bool.false_and]
theorem rm_i {s a b : Nat} (hs : s < 256) (ha : a < 8) (hb : b < 8) : rm s a b < 256 ∧ rmX (nI s) a b = nI (rm s a b) := by
  obtain ⟨r, hr, e⟩ := s_of (x := rmX (nI s) a b) (fun i h8 hi => by rw [b_rmX (by omega) (by omega) hi, show bt (nI s) i = false from tb_8 s hs i h8 hi, Bool.false_and])
  have : rm s a b = r := by unfold rm; rw [e, nI_clamp (by omega)]
  rw [this]; exact ⟨hr, e⟩
theorem tb_rm {s a b i : Nat} (hs : s < 256) (ha : a < 8) (hb : b < 8) (hi : i < 32) : tb (rm s a b) i = (tb s i && (!decide (i = a) && !decide (i = b))) := by
  unfold tb
  rw [← (rm_i hs ha hb).2, b_rmX (by omega) (by omega) hi]
theorem s_ext {s t : Nat} (hs : s < 256) (ht : t < 256) (h : ∀ i, i < 8 → tb s i = tb t i) : s = t := by
  have : nI s = nI t := b_ext fun i hi => by
    by_cases z : i < 8
    · exact h i z
    · exact (tb_8 s hs i (by omega) hi).trans (tb_8 t ht i (by omega) hi).symm
  exact (nI_eq (by omega) (by omega)).mp this
theorem nI_bn {s : Nat} (hs : s < 256) : (nI s).toBitVec.toNat = s := by
  show (BitVec.ofNat 32 s).toNat = s
  rw [BitVec.toNat_ofNat]; exact Nat.mod_eq_of_lt (by omega)
theorem rm_lt {s a b : Nat} (hs : s < 256) (ha : a < 8) (hb : b < 8) (h : tb s a = true) : rm s a b < s := by
  have l : rm s a b ≤ s := by
    have e := (rm_i hs ha hb).2
    have k : (rmX (nI s) a b).toBitVec.toNat = rm s a b := by rw [e, nI_bn (rm_i hs ha hb).1]
    rw [← k]
    unfold rmX
    rw [Int32.toBitVec_and, BitVec.toNat_and, nI_bn hs]
    exact Nat.and_le_left
  have n : rm s a b ≠ s := fun e => by
    have := tb_rm (i := a) hs ha hb (by omega)
    rw [e, h] at this; simp at this
  omega
theorem rm_sym {s a b : Nat} (hs : s < 256) (ha : a < 8) (hb : b < 8) : rm s a b = rm s b a :=
  s_ext (rm_i hs ha hb).1 (rm_i hs hb ha).1 fun i hi => by
    rw [tb_rm hs ha hb (by omega), tb_rm hs hb ha (by omega), Bool.and_comm (!decide (i = a))]
theorem rm_rm {s a b c d : Nat} (hs : s < 256) (ha : a < 8) (hb : b < 8) (hc : c < 8) (hd : d < 8) : rm (rm s a b) c d = rm (rm s c d) a b :=
  s_ext (rm_i (rm_i hs ha hb).1 hc hd).1 (rm_i (rm_i hs hc hd).1 ha hb).1 fun i hi => by
    rw [tb_rm (rm_i hs ha hb).1 hc hd (by omega), tb_rm (rm_i hs hc hd).1 ha hb (by omega), tb_rm hs ha hb (by omega), tb_rm hs hc hd (by omega)]
    cases tb s i <;> cases (!decide (i = a) && !decide (i = b)) <;> cases (!decide (i = c) && !decide (i = d)) <;> rfl
theorem tb_0 (i : Nat) : tb 0 i = false := b_0 i
/-- pairings -/
def Mt (D : Nat → Nat → Nat) : Nat → Nat → Nat → Prop
  | 0, s, v => s = 0 ∧ v = 0
  | n + 1, s, v => ∃ a b w, a < 8 ∧ b < 8 ∧ a ≠ b ∧ tb s a = true ∧ tb s b = true ∧ D a b < 1000000 ∧ Mt D n (rm s a b) w ∧ v = D a b + w
theorem Mt_x {D : Nat → Nat → Nat} (sy : ∀ a b, D a b = D b a) : ∀ n s v c, s < 256 → c < 8 → Mt D n s v → tb s c = true → ∃ m b w, b < 8 ∧ b ≠ c ∧ tb s b = true ∧ D c b < 1000000 ∧ Mt D m (rm s c b) w ∧ v = D c b + w
  | 0, s, v, c, hs, hc, h, t => by rw [h.1, tb_0] at t; exact absurd t (by decide)
  | n + 1, s, v, c, hs, hc, h, t => by
    obtain ⟨a, b, w, ha, hb, ne, ta, tbb, f, m, e⟩ := h
    by_cases z : c = a
    · subst z; exact ⟨n, b, w, hb, fun q => ne q.symm, tbb, f, m, e⟩
    by_cases y : c = b
    · subst y
      refine ⟨n, a, w, ha, ne, ta, by rw [sy]; exact f, ?_, by rw [sy]; exact e⟩
      rw [rm_sym hs hb ha]; exact m
    have hr := (rm_i hs ha hb).1
    have tc : tb (rm s a b) c = true := by rw [tb_rm hs ha hb (by omega), t]; simp [z, y]
    obtain ⟨m', d, w', hd, nd, td, fd, md, ed⟩ := Mt_x sy n (rm s a b) w c hr hc m tc
    rw [tb_rm hs ha hb (by omega)] at td
    have td1 : tb s d = true := by cases q : tb s d with | true => rfl | false => rw [q] at td; simp at td
    rw [td1] at td
    have da : d ≠ a := fun q => by rw [q] at td; simp at td
    have db : d ≠ b := fun q => by rw [q] at td; simp at td
    refine ⟨m' + 1, d, D a b + w', hd, nd, td1, fd, ⟨a, b, w', ha, hb, ne, ?_, ?_, f, ?_, rfl⟩, by omega⟩
    · rw [tb_rm hs hc hd (by omega), ta]; simp [Ne.symm z, Ne.symm da]
    · rw [tb_rm hs hc hd (by omega), tbb]; simp [Ne.symm y, Ne.symm db]
    · rw [rm_rm hs hc hd ha hb]; exact md
/-- parity -/
def prF (f : Nat → Bool) : Nat → Bool
  | 0 => false
  | k + 1 => prF f k ^^ f k
theorem prF_x (f g : Nat → Bool) : ∀ k, prF (fun i => f i ^^ g i) k = (prF f k ^^ prF g k)
  | 0 => rfl
  | k + 1 => by
    show (prF (fun i => f i ^^ g i) k ^^ (f k ^^ g k)) = ((prF f k ^^ f k) ^^ (prF g k ^^ g k))
    rw [prF_x f g k]
    cases prF f k <;> cases prF g k <;> cases f k <;> cases g k <;> rfl
theorem prF_c {f g : Nat → Bool} : ∀ k, (∀ i, i < k → f i = g i) → prF f k = prF g k
  | 0, _ => rfl
  | k + 1, h => by
    show (prF f k ^^ f k) = (prF g k ^^ g k)
    rw [prF_c k (fun i hi => h i (by omega)), h k (by omega)]
theorem prF_0 : ∀ k, prF (fun _ => false) k = false
  | 0 => rfl
  | k + 1 => by show (prF (fun _ => false) k ^^ false) = false; rw [prF_0 k]; rfl
theorem prF_1 {a : Nat} : ∀ k, prF (fun i => decide (i = a)) k = decide (a < k)
  | 0 => rfl
  | k + 1 => by
    show (prF (fun i => decide (i = a)) k ^^ decide (k = a)) = decide (a < k + 1)
    rw [prF_1 k]
    by_cases z : k = a
    · subst z; simp
    · by_cases y : a < k
      · rw [decide_eq_true y, decide_eq_false z, decide_eq_true (show a < k + 1 by omega)]; rfl
      · rw [decide_eq_false y, decide_eq_false z, decide_eq_false (show ¬ a < k + 1 by omega)]; rfl
theorem Mt_ex {D : Nat → Nat → Nat} : ∀ (N s : Nat), s < N → s < 256 → prF (tb s) 8 = false → (∀ a b, a < 8 → b < 8 → tb s a = true → tb s b = true → D a b < 1000000) → ∃ n v, Mt D n s v
  | 0, s, h, _, _, _ => by omega
  | N + 1, s, h, hs, hp, hd => by
    by_cases z : s = 0
    · exact ⟨0, 0, z, rfl⟩
    have e1 : ∃ a, a < 8 ∧ tb s a = true := by
      refine Classical.byContradiction fun q => z (s_ext hs (by decide) fun i hi => ?_)
      rw [tb_0]
      cases c : tb s i with
      | false => rfl
      | true => exact absurd ⟨i, hi, c⟩ q
    obtain ⟨a, ha, ta⟩ := e1
    have e2 : ∃ b, b < 8 ∧ a ≠ b ∧ tb s b = true := by
      refine Classical.byContradiction fun q => ?_
      have : prF (tb s) 8 = prF (fun i => decide (i = a)) 8 := prF_c 8 fun i hi => by
        by_cases y : i = a
        · rw [y, ta]; simp
        · rw [decide_eq_false y]
          cases c : tb s i with
          | false => rfl
          | true => exact absurd ⟨i, hi, fun w => y w.symm, c⟩ q
      rw [hp, prF_1, decide_eq_true ha] at this
      exact absurd this (by decide)
    obtain ⟨b, hb, ne, tbb⟩ := e2
    have hr := (rm_i hs ha hb).1
    have hl := rm_lt hs ha hb ta
    have hp' : prF (tb (rm s a b)) 8 = false := by
      have : prF (tb (rm s a b)) 8 = prF (fun i => (fun i => tb s i ^^ decide (i = a)) i ^^ decide (i = b)) 8 := prF_c 8 fun i hi => by
        rw [tb_rm hs ha hb (by omega)]
        by_cases y : i = a
        · subst y; simp [ne, ta]
        · by_cases x : i = b
          · subst x; simp [y, tbb]
          · simp [y, x]
      rw [this, prF_x, prF_x, hp, prF_1, prF_1, decide_eq_true ha, decide_eq_true hb]; rfl
    have sub : ∀ i, i < 8 → tb (rm s a b) i = true → tb s i = true := fun i hi q => by
      rw [tb_rm hs ha hb (by omega)] at q
      cases c : tb s i with
      | true => rfl
      | false => rw [c] at q; simp at q
    obtain ⟨n, v, m⟩ := Mt_ex N (rm s a b) (by omega) hr hp' (fun c d hc hdd h1 h2 => hd c d hc hdd (sub c hc h1) (sub d hdd h2))
    exact ⟨n + 1, D a b + v, a, b, v, ha, hb, ne, ta, tbb, hd a b ha hb ta tbb, m, rfl⟩
/-- the cheapest pairing, or I if there is none -/
def GG' (D : Nat → Nat → Nat) (I s v : Nat) : Prop := (v = I ∨ ∃ n, Mt D n s v) ∧ v ≤ I ∧ ∀ n w, Mt D n s w → v ≤ w
theorem GG_0 (D : Nat → Nat → Nat) (I : Nat) : GG' D I 0 0 := ⟨Or.inr ⟨0, rfl, rfl⟩, Nat.zero_le _, fun _ _ _ => Nat.zero_le _⟩
