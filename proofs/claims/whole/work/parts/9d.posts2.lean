theorem cwlL {F L : Nat} {S : CS} {R : Nat → Int32} (hL : L ≤ 10) (vl : ∀ j, j < L → VL R j) (h0 : ci S 1 5 = nI L) (tl : ∀ j, j < 10 → ca S 1 0 j = R (26 + j) ∧ ca S 1 1 j = R (36 + j)) : ∀ (t j fuel : Nat) (x : Int32), j + t = L → t < fuel → (∀ i, i < 32 → bt x i = decide (1 ≤ cnE R i j)) → ∃ z, C_8_cornersWithLanes_L4 F 1 S fuel x (nI j) = some z ∧ ∀ i, i < 32 → bt z i = decide (1 ≤ cnE R i L)
  | 0, j, fuel + 1, x, e, _, h => by
    obtain rfl : j = L := by omega
    rw [C_8_cornersWithLanes_L4, h0, if_pos (nI_le (Nat.le_refl _) (by omega))]
    exact ⟨x, rfl, h⟩
  | t + 1, j, fuel + 1, x, e, hf, h => by
    rw [C_8_cornersWithLanes_L4, h0, if_neg (nI_ge (by omega) (by omega)), chk_in (by omega) (by decide), chk_in (by omega) (by decide), nI_clamp (by omega), (tl j (by omega)).1, (tl j (by omega)).2, ← nI_succ]
    refine cwlL hL vl h0 tl t (j + 1) fuel _ (by omega) (by omega) (fun i hi => ?_)
    rw [b_or, b_end (vl j (by omega)) hi, h i hi, cnE_s]
    by_cases z : eB R j i = true
    · rw [z, if_pos rfl, Bool.or_true]; exact (decide_eq_true (by omega)).symm
    · rw [if_neg z, Nat.add_zero, show eB R j i = false by simpa using z, Bool.or_false]
theorem qc_cwl {F L C : Nat} {S : CS} {R : Nat → Int32} (hF : 1000 ≤ F) (va : VA R L C) (t : TW (ci S 1) (ca S 1) R) : ∃ z, C_8_cornersWithLanes F S 1 = some z ∧ ∀ i, i < 32 → bt z i = decide (1 ≤ cnE R i L) :=
  cwlL va.1.1 va.2.1 (t.1.1.trans va.1.2.2.1) (fun j hj => ⟨(t.2.1 j hj).1, (t.2.1 j hj).2.1⟩) L 0 F 0 (by omega) (by have := va.1.1; omega) (fun i hi => by rw [b_0]; rfl)
theorem withinL {F B d a : Nat} {S : CS} {D : Nat → Nat → Nat} (m : MT nI (ca S 13 1) D) (hB : B ≤ 5000) (hb : BD D B) (hd : d ≤ 50) (ha : a < 8) : ∀ (t k fuel : Nat) (x : Int32), k + t = 8 → t < fuel → (∀ i, i < 32 → bt x i = decide (i < k ∧ D a i ≤ d)) → ∃ z, C_8_cornersWithin_L5 F S (nI d) (nI a) fuel x (nI k) = some z ∧ ∀ i, i < 32 → bt z i = decide (i < 8 ∧ D a i ≤ d)
  | 0, k, fuel + 1, x, e, _, h => by
    obtain rfl : k = 8 := by omega
    rw [C_8_cornersWithin_L5, if_pos (by decide)]
    exact ⟨x, rfl, h⟩
  | t + 1, k, fuel + 1, x, e, hf, h => by
    have hB2 := hb a k
    rw [C_8_cornersWithin_L5, if_neg (show ¬ (8 : Int32) ≤ nI k from nI_ge (b := 8) (by omega) (by decide)), qc_btw ha (by omega), bs, m a k ha (by omega)]
    unfold C_8_cornersWithin_B30
    rw [← nI_succ]
    by_cases z : D a k ≤ d
    · rw [if_neg (nI_nlt (by omega) (by omega))]
      refine withinL m hB hb hd ha t (k + 1) fuel _ (by omega) (by omega) (fun i hi => ?_)
      rw [b_or, h i hi, b_one (by omega) hi]
      by_cases y : i = k
      · subst y; simp [z]
      · have : (i < k + 1) = (i < k) := by apply propext; omega
        simp [y, this]
    · rw [if_pos (nI_lt (by omega) (by omega))]
      refine withinL m hB hb hd ha t (k + 1) fuel _ (by omega) (by omega) (fun i hi => ?_)
      rw [h i hi]
      by_cases y : i = k
      · subst y; simp [z]
      · have : (i < k + 1) = (i < k) := by apply propext; omega
        simp [this]
theorem coverL {F d s : Nat} {S : CS} {D : Nat → Nat → Nat} {w : Int32} (hn : ∀ o, o < 8 → ∀ i, i < 32 → bt (ca S 13 2 o) i = decide (i < 8 ∧ D o i ≤ d)) : ∀ (t o fuel : Nat) (x : Int32), o + t = 8 → t < fuel → (∀ i, i < 32 → bt x i = (decide (i < 8) && cvO D d s i o)) → ∃ y, C_8_doCover_L5 F S (nI s) w fuel x (nI o) = (if (w &&& (y ^^^ (-1 : Int32))) = 0 then some (1 : Int32) else some (0 : Int32)) ∧ ∀ i, i < 32 → bt y i = (decide (i < 8) && cvO D d s i 8)
  | 0, o, fuel + 1, x, e, _, h => by
    obtain rfl : o = 8 := by omega
    rw [C_8_doCover_L5, if_pos (by decide)]
    exact ⟨x, rfl, h⟩
  | t + 1, o, fuel + 1, x, e, hf, h => by
    rw [C_8_doCover_L5, if_neg (show ¬ (8 : Int32) ≤ nI o from nI_ge (b := 8) (by omega) (by decide)), t_bit (by omega)]
    unfold C_8_doCover_B32
    rw [chk_in (by omega) (by decide), nI_clamp (by omega), ← nI_succ]
    cases c : bt (nI s) o with
    | true =>
      rw [if_pos rfl, if_pos rfl]
      refine coverL hn t (o + 1) fuel _ (by omega) (by omega) (fun i hi => ?_)
      rw [b_or, h i hi, hn o (by omega) i hi, show cvO D d s i (o + 1) = (cvO D d s i o || (bt (nI s) o && decide (D o i ≤ d))) from rfl, c, Bool.true_and]
      by_cases y : i < 8
      · simp [y]
      · simp [y]
    | false =>
      rw [if_neg (by decide)]
      refine coverL hn t (o + 1) fuel _ (by omega) (by omega) (fun i hi => ?_)
      rw [h i hi, show cvO D d s i (o + 1) = (cvO D d s i o || (bt (nI s) o && decide (D o i ≤ d))) from rfl, c, Bool.false_and, Bool.or_false]
theorem cvA_i {R : Nat → Int32} {L : Nat} {D : Nat → Nat → Nat} {d s : Nat} : ∀ n, cvA R L D d s n = true ↔ ∀ k, k < n → cnE R k L = 0 ∨ cvO D d s k 8 = true
  | 0 => ⟨fun _ k hk => by omega, fun _ => rfl⟩
  | n + 1 => by
    rw [show cvA R L D d s (n + 1) = (cvA R L D d s n && (decide (cnE R n L = 0) || cvO D d s n 8)) from rfl, Bool.and_eq_true, cvA_i n, Bool.or_eq_true, decide_eq_true_eq]
    refine ⟨fun ⟨a, b⟩ k hk => ?_, fun a => ⟨fun k hk => a k (by omega), a n (by omega)⟩⟩
    by_cases z : k = n
    · rw [z]; exact b
    · exact a k (by omega)
theorem qc_cover {F L C d s : Nat} {S : CS} {R : Nat → Int32} {D : Nat → Nat → Nat} {w : Int32} (hF : 1000 ≤ F) (va : VA R L C) (hw : ∀ i, i < 32 → bt w i = decide (1 ≤ cnE R i L)) (hn : ∀ o, o < 8 → ∀ i, i < 32 → bt (ca S 13 2 o) i = decide (i < 8 ∧ D o i ≤ d)) : C_8_doCover F S (nI s) w = some (if cvA R L D d s 8 then 1 else 0) := by
  obtain ⟨y, c1, c2⟩ := coverL (F := F) (s := s) (w := w) hn 8 0 F 0 (by omega) (by omega) (fun i hi => by rw [b_0, show cvO D d s i 0 = false from rfl, Bool.and_false])
  unfold C_8_doCover
  rw [show (0 : Int32) = nI 0 from rfl] at c1 ⊢
  rw [c1]
  have e : ((w &&& (y ^^^ (-1 : Int32))) = 0) ↔ cvA R L D d s 8 = true := by
    rw [cvA_i]
    refine ⟨fun h k hk => ?_, fun h => b_ext fun i hi => ?_⟩
    · have hb : bt (w &&& (y ^^^ (-1 : Int32))) k = false := by rw [h, b_0]
      rw [b_and, b_not _ (by omega), hw k (by omega), c2 k (by omega), decide_eq_true hk, Bool.true_and] at hb
      by_cases q : 1 ≤ cnE R k L
      · rw [decide_eq_true q, Bool.true_and] at hb
        exact Or.inr (by simpa using hb)
      · exact Or.inl (by omega)
    · rw [b_and, b_not _ hi, hw i hi, c2 i hi, b_0]
      by_cases q : i < 8
      · rw [decide_eq_true q, Bool.true_and]
        rcases h i q with a | a
        · rw [a]; rfl
        · rw [a, Bool.not_true, Bool.and_false]
      · rw [cnE_8 va.2.1 (by omega) L (Nat.le_refl _)]; rfl
  by_cases z : cvA R L D d s 8 = true
  · rw [if_pos z]; exact if_pos (e.mpr z)
  · rw [if_neg z]; exact if_neg (fun q => z (e.mp q))
/-- the best of the first sets -/
def pbS (cov : Nat → Bool) : Nat → Nat
  | 0 => 255
  | t + 1 => if pcF t 8 < pcF (pbS cov t) 8 ∧ cov t = true then t else pbS cov t
theorem pbS_lt (cov : Nat → Bool) : ∀ t, t ≤ 256 → pbS cov t < 256
  | 0, _ => by show 255 < 256; omega
  | t + 1, h => by unfold pbS; have := pbS_lt cov t (by omega); split <;> omega
theorem postsC {F L C d : Nat} {S : CS} {R : Nat → Int32} {D : Nat → Nat → Nat} {w : Int32} (hF : 1000 ≤ F) (va : VA R L C) (hw : ∀ i, i < 32 → bt w i = decide (1 ≤ cnE R i L)) (hn : ∀ o, o < 8 → ∀ i, i < 32 → bt (ca S 13 2 o) i = decide (i < 8 ∧ D o i ≤ d)) : ∀ (n t fuel : Nat), t + n = 256 → n < fuel → C_8_fewestPosts_L33 F S w fuel (nI (pbS (fun s => cvA R L D d s 8) t)) (nI t) = some (nI (pbS (fun s => cvA R L D d s 8) 256), S)
  | 0, t, fuel + 1, e, _ => by
    obtain rfl : t = 256 := by omega
    rw [C_8_fewestPosts_L33, if_pos (by decide)]
  | n + 1, t, fuel + 1, e, hf => by
    have ih := postsC (F := F) (S := S) (D := D) hF va hw hn n (t + 1) fuel (by omega) (by omega)
    have hp := pbS_lt (fun s => cvA R L D d s 8) t (by omega)
    have p1 := pc_le t 8
    have p2 := pc_le (pbS (fun s => cvA R L D d s 8) t) 8
    rw [show pbS (fun s => cvA R L D d s 8) (t + 1) = (if pcF t 8 < pcF (pbS (fun s => cvA R L D d s 8) t) 8 ∧ cvA R L D d t 8 = true then t else pbS (fun s => cvA R L D d s 8) t) from rfl] at ih
    rw [C_8_fewestPosts_L33, if_neg (show ¬ (256 : Int32) ≤ nI t from nI_ge (b := 256) (by omega) (by decide)), pc_c t (by omega), bs, pc_c _ hp, bs, qc_cover hF va hw hn, bs]
    unfold C_8_fewestPosts_B66
    rw [← nI_succ]
    by_cases z : pcF t 8 < pcF (pbS (fun s => cvA R L D d s 8) t) 8
    · rw [if_neg (nI_ge z (by omega))]
      by_cases y : cvA R L D d t 8 = true
      · rw [if_pos ⟨z, y⟩] at ih
        rw [if_pos y, if_neg (by decide)]; exact ih
      · rw [if_neg (fun q => y q.2)] at ih
        rw [if_neg y, if_pos rfl]; exact ih
    · rw [if_neg (fun q => z q.1)] at ih
      rw [if_pos (nI_le (by omega) (by omega))]; exact ih
theorem postsN {F L C B d : Nat} {S : CS} {R : Nat → Int32} {D : Nat → Nat → Nat} {f : Nat → Int32} {w : Int32} (hF : 1000 ≤ F) (va : VA R L C) (m : MT nI f D) (hB : B ≤ 5000) (hb : BD D B) (hd : d ≤ 50) (hw : ∀ i, i < 32 → bt w i = decide (1 ≤ cnE R i L)) : ∀ (n k fuel : Nat) (T : CS), k + n = 8 → n < fuel → ca T 13 1 = f → (∀ o, o < k → ∀ i, i < 32 → bt (ca T 13 2 o) i = decide (i < 8 ∧ D o i ≤ d)) → KC S T → ∃ U, C_8_fewestPosts_L2 F (nI d) w fuel T (nI k) = some (nI (pbS (fun s => cvA R L D d s 8) 256), U) ∧ KC S U
  | 0, k, fuel + 1, T, e, _, e1, hn, kc => by
    obtain rfl : k = 8 := by omega
    rw [C_8_fewestPosts_L2, if_pos (by decide)]
    exact ⟨T, postsC (S := T) hF va hw hn 256 0 F (by omega) (by omega), kc⟩
  | n + 1, k, fuel + 1, T, e, hf, e1, hn, kc => by
    obtain ⟨z, z1, z2⟩ := withinL (F := F) (S := T) (by rw [e1]; exact m) hB hb hd (show k < 8 by omega) 8 0 F 0 (by omega) (by omega) (fun i hi => by rw [b_0]; simp)
    have z1' : C_8_cornersWithin F T (nI d) (nI k) = some z := z1
    rw [C_8_fewestPosts_L2, if_neg (show ¬ (8 : Int32) ≤ nI k from nI_ge (b := 8) (by omega) (by decide)), z1', bs, chk_in (by omega) (by decide), nI_clamp (by omega), stc_d, ← nI_succ]
    refine postsN hF va m hB hb hd hw n (k + 1) fuel _ (by omega) (by omega) ?_ (fun o ho i hi => ?_) (kc.tr (kc_any _ _ _))
    · exact (ca_cFn _ _ _ _ _ _ (Or.inr (by decide))).trans e1
    · show bt (ca (cF T 13 2 (upd (ca T 13 2) k z)) 13 2 o) i = _
      rw [ca_cF]
      by_cases y : o = k
      · rw [y, pk_us]; exact z2 i hi
      · rw [pk_un y]; exact hn o (by omega) i hi
/-- as the reference has them -/
def lstP (cov : Nat → Bool) (t : Nat) : Int32 := if pbS cov t = 255 then 100000000 else nI (pcF (pbS cov t) 8)
def istP (cov : Nat → Bool) (t : Nat) : Int32 := if pbS cov t = 255 then 0 else nI (pbS cov t)
theorem postsM {F L C B d : Nat} {σ : MS} {D : Nat → Nat → Nat} {x2 : Int32} (hF : 1000 ≤ F) (va : VA (ma σ 3) L C) (mt : MT fi (ma σ 42) D) (hB : B ≤ 5000) (hb : BD D B) (hd : d ≤ 50) (hfull : cvA (ma σ 3) L D d 255 8 = true) : ∀ (n t fuel : Nat), t + n = 255 → n + 1 < fuel → M_posts_L43 F σ (nI d) x2 fuel (lstP (fun s => cvA (ma σ 3) L D d s 8) t) (istP (fun s => cvA (ma σ 3) L D d s 8) t) (nI t) = (if x2 = 0 then some (nI (pcF (pbS (fun s => cvA (ma σ 3) L D d s 8) 256) 8), σ) else some (nI (pbS (fun s => cvA (ma σ 3) L D d s 8) 256), σ))
  | 0, t, fuel + 2, e, _ => by
    obtain rfl : t = 255 := by omega
    have hp := pbS_lt (fun s => cvA (ma σ 3) L D d s 8) 255 (by omega)
    have p8 : pcF 255 8 = 8 := by decide
    have e1 : pbS (fun s => cvA (ma σ 3) L D d s 8) 256 = pbS (fun s => cvA (ma σ 3) L D d s 8) 255 := by
      show (if pcF 255 8 < pcF (pbS (fun s => cvA (ma σ 3) L D d s 8) 255) 8 ∧ _ then 255 else _) = _
      have := pc_le (pbS (fun s => cvA (ma σ 3) L D d s 8) 255) 8
      rw [if_neg (fun q => by have := q.1; omega)]
    rw [e1, M_posts_L43, if_neg (by decide), qm_ones hF, bs, qm_allNear hF va mt hB hb hd, bs, bs, hfull, if_pos rfl]
    unfold M_posts_B80 lstP istP
    by_cases z : pbS (fun s => cvA (ma σ 3) L D d s 8) 255 = 255
    · rw [if_pos z, if_pos z, z, p8, if_neg (by decide), if_neg (by decide), ← nI_succ, M_posts_L43, if_pos (by decide)]
    · have h8 := pc_8 (pbS (fun s => cvA (ma σ 3) L D d s 8) 255) (by omega)
      rw [if_neg z, if_neg z, p8, if_pos (nI_le (by omega) (by omega)), ← nI_succ, M_posts_L43, if_pos (by decide)]
  | n + 1, t, fuel + 1, e, hf => by
    have ih := postsM (F := F) (σ := σ) (x2 := x2) hF va mt hB hb hd hfull n (t + 1) fuel (by omega) (by omega)
    have hp := pbS_lt (fun s => cvA (ma σ 3) L D d s 8) t (by omega)
    have h8 := pc_8 t (by omega)
    have p8 : pcF 255 8 = 8 := by decide
    have es : pbS (fun s => cvA (ma σ 3) L D d s 8) (t + 1) = (if pcF t 8 < pcF (pbS (fun s => cvA (ma σ 3) L D d s 8) t) 8 ∧ cvA (ma σ 3) L D d t 8 = true then t else pbS (fun s => cvA (ma σ 3) L D d s 8) t) := rfl
    rw [M_posts_L43, if_neg (show ¬ (256 : Int32) ≤ nI t from nI_ge (b := 256) (by omega) (by decide)), qm_ones hF, bs, qm_allNear hF va mt hB hb hd, bs, bs]
    unfold M_posts_B80
    rw [← nI_succ]
    have le : lstP (fun s => cvA (ma σ 3) L D d s 8) t ≤ nI (pcF t 8) ↔ ¬ pcF t 8 < pcF (pbS (fun s => cvA (ma σ 3) L D d s 8) t) 8 := by
      unfold lstP
      by_cases z : pbS (fun s => cvA (ma σ 3) L D d s 8) t = 255
      · rw [if_pos z, z, p8]
        exact ⟨fun w => absurd w (nI_ge (b := 100000000) (by omega) (by decide)), fun w => absurd h8 w⟩
      · have := pc_le (pbS (fun s => cvA (ma σ 3) L D d s 8) t) 8
        rw [if_neg z, nI_leI (by omega) (by omega)]; omega
    by_cases a : pcF t 8 < pcF (pbS (fun s => cvA (ma σ 3) L D d s 8) t) 8
    · rw [if_neg (fun w => (le.mp w) a)]
      by_cases b : cvA (ma σ 3) L D d t 8 = true
      · rw [if_pos ⟨a, b⟩] at es
        have l1 : lstP (fun s => cvA (ma σ 3) L D d s 8) (t + 1) = nI (pcF t 8) := by unfold lstP; rw [es, if_neg (by omega)]
        have l2 : istP (fun s => cvA (ma σ 3) L D d s 8) (t + 1) = nI t := by unfold istP; rw [es, if_neg (by omega)]
        rw [l1, l2] at ih
        rw [if_pos b, if_neg (by decide)]; exact ih
      · rw [if_neg (fun q => b q.2)] at es
        have l1 : lstP (fun s => cvA (ma σ 3) L D d s 8) (t + 1) = lstP (fun s => cvA (ma σ 3) L D d s 8) t := by unfold lstP; rw [es]
        have l2 : istP (fun s => cvA (ma σ 3) L D d s 8) (t + 1) = istP (fun s => cvA (ma σ 3) L D d s 8) t := by unfold istP; rw [es]
        rw [l1, l2] at ih
        rw [if_neg b, if_pos rfl]; exact ih
    · rw [if_neg (fun q => a q.1)] at es
      have l1 : lstP (fun s => cvA (ma σ 3) L D d s 8) (t + 1) = lstP (fun s => cvA (ma σ 3) L D d s 8) t := by unfold lstP; rw [es]
      have l2 : istP (fun s => cvA (ma σ 3) L D d s 8) (t + 1) = istP (fun s => cvA (ma σ 3) L D d s 8) t := by unfold istP; rw [es]
      rw [l1, l2] at ih
      rw [if_pos (le.mpr a)]; exact ih
theorem cvO_full {D : Nat → Nat → Nat} {d k : Nat} (hz : D k k = 0) (hk : k < 8) : cvO D d 255 k 8 = true := by
  have aux : ∀ n, n ≤ 8 → k < n → cvO D d 255 k n = true := by
    intro n
    induction n with
    | zero => intro _ h; omega
    | succ n ih =>
      intro hn h
      rw [show cvO D d 255 k (n + 1) = (cvO D d 255 k n || (bt (nI 255) n && decide (D n k ≤ d))) from rfl]
      by_cases z : k = n
      · subst z
        rw [show bt (nI 255) k = true from by rw [show nI 255 = (255 : Int32) from rfl, b_255]; exact decide_eq_true hk, hz]
        simp
      · rw [ih (by omega) (by omega), Bool.true_or]
  exact aux 8 (Nat.le_refl _) hk
theorem pa_24 {F : Nat} {E : Nat → ClassId} (hF : 1000 ≤ F) : ag_24 F E (Rel E) := fun S P σ x1 x2 h => by
  have hh := h
  obtain ⟨L, C, H, W, t, vr, -⟩ := hh
  have i50 : (50 : Int32).toInt = 50 := by decide
  unfold C_10_posts M_posts
  rw [stt_d, qm_in32 x1 0 50 0 50 rfl rfl, bs, qm_in32 x2 0 1 0 1 rfl rfl, bs]
  simp only [lt_i, le_i, i32_0, i32_1, i50]
  by_cases y : 0 ≤ x1.toInt ∧ x1.toInt ≤ 50
  rotate_left
  · rw [if_neg y, if_pos rfl]
    refine ⟨(-1, S), _, ?_, rfl, rel_0 h 0⟩
    by_cases w : x1.toInt < 0
    · rw [if_pos w]
    · rw [if_neg w, if_pos (by omega)]
  rw [if_neg (show ¬ x1.toInt < 0 by omega), if_neg (show ¬ 50 < x1.toInt by omega), if_pos y, if_neg (show ¬ (1 : Int32) = 0 by decide)]
  by_cases z : 0 ≤ x2.toInt ∧ x2.toInt ≤ 1
  rotate_left
  · rw [if_neg z, if_pos rfl]
    refine ⟨(-1, S), _, ?_, rfl, rel_0 h 0⟩
    by_cases w : x2.toInt < 0
    · rw [if_pos w]
    · rw [if_neg w, if_neg (by omega)]
  rw [if_neg (show ¬ x2.toInt < 0 by omega), if_pos z.2, if_pos z, if_neg (show ¬ (1 : Int32) = 0 by decide)]
  obtain ⟨d, hd, rfl⟩ : ∃ d : Nat, d ≤ 50 ∧ x1 = nI d := ⟨x1.toInt.toNat, by omega, nI_of' y.1⟩
  obtain ⟨f, g, c1, c2, c3⟩ := qc_measure hF vr.1 t
  obtain ⟨f', m1, m2⟩ := qm_layFar (σ := mI σ 0 0) hF vr.1
  obtain ⟨w, w1, w2⟩ := qc_cwl (F := F) (S := cF (cF S 13 0 g) 13 1 f) hF vr.1 t
  obtain ⟨U, u1, u2⟩ := postsN (F := F) (S := S) (B := 2304) (D := DD (ma σ 3) L) (f := f) (w := w) hF vr.1 c3 (by omega) (DD_b vr.1) hd w2 8 0 F (cF (cF S 13 0 g) 13 1 f) (by omega) (by omega) (ca_13 _ _) (fun o ho => by omega) (kc_13 _ _ _)
  have hfull : cvA (ma σ 3) L (DD (ma σ 3) L) d 255 8 = true := (cvA_i 8).mpr (fun k hk => Or.inr (cvO_full (fwN_0 _ 8 k) hk))
  have pm := postsM (F := F) (σ := mF (mI σ 0 0) 42 f') (x2 := x2) (B := 2304) hF vr.1 (by rw [ma_42]; exact m2) (by omega) (DD_b vr.1) hd hfull 255 0 F (by omega) (by omega)
  rw [show ma (mF (mI σ 0 0) 42 f') 3 = ma σ 3 from rfl] at pm
  have u1' : C_8_fewestPosts F (cF (cF S 13 0 g) 13 1 f) (nI d) w = _ := u1
  rw [c1, bs, w1, bs, u1', bs, m1, bs]
  show ∃ q σ1, (if x2 = 0 then (C_J6_bitCount (nI (pbS (fun s => cvA (ma σ 3) L (DD (ma σ 3) L) d s 8) 256))).bind fun y4 => some (y4, U) else some (nI (pbS (fun s => cvA (ma σ 3) L (DD (ma σ 3) L) d s 8) 256), U)) = some q ∧ M_posts_L43 F (mF (mI σ 0 0) 42 f') (nI d) x2 F (lstP (fun s => cvA (ma σ 3) L (DD (ma σ 3) L) d s 8) 0) (istP (fun s => cvA (ma σ 3) L (DD (ma σ 3) L) d s 8) 0) (nI 0) = some (q.1, σ1) ∧ Rel E q.2 P σ1
  have k : Rel E U P (mF (mI σ 0 0) 42 f') := rel_KM (rel_KC (rel_0 h 0) u2) (km_42 _ _)
  rw [pm, pc_c _ (pbS_lt _ 256 (Nat.le_refl _)), bs]
  by_cases v : x2 = 0
  · rw [if_pos v, if_pos v]; exact ⟨_, _, rfl, rfl, k⟩
  · rw [if_neg v, if_neg v]; exact ⟨_, _, rfl, rfl, k⟩
