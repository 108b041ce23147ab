/-- the plain machine that both codes are read as: deeds as the class numbers them (0 number, 1 word, 2 .. 9 sums and comparisons, 10 not, 11 and, 12 or), places by pairs. none: it can't go on so; some none: broken. -/
def rcomb (op : Nat) (a b : Int) : Option Int :=
  if op = 7 then some (if a < b then 1 else 0) else if op = 8 then some (if b < a then 1 else 0) else if op = 9 then some (if a = b then 1 else 0) else
  if (op = 5 ∨ op = 6) ∧ b = 0 then none else
  if 1000000000 < (if op = 2 then a + b else if op = 3 then a - b else if op = 4 then a * b else if op = 5 then a.tdiv b else a - a.tdiv b * b) ∨ (if op = 2 then a + b else if op = 3 then a - b else if op = 4 then a * b else if op = 5 then a.tdiv b else a - a.tdiv b * b) < -1000000000 then none else some (if op = 2 then a + b else if op = 3 then a - b else if op = 4 then a * b else if op = 5 then a.tdiv b else a - a.tdiv b * b)
def run (nw : Nat) (c : Nat → Nat × Int) (w : Nat → Int) (j : Nat) : Nat → Nat → List Int → Option (Option (List Int))
  | 0, i, st => if i = j then some (some st) else none
  | n + 1, i, st => if i = j then some (some st) else if j < i then none else
      if (c i).1 = 0 ∨ (c i).1 = 1 then
        if st.length < 50 ∧ 0 ≤ (c i).2 ∧ (c i).2 ≤ 1000 ∧ ((c i).1 = 1 → (c i).2 < nw) then run nw c w j n (i + 1) ((if (c i).1 = 0 then (c i).2 else w (c i).2.toNat) :: st) else none
      else match st with
        | [] => none
        | x :: st1 =>
          if (c i).1 = 10 then (if x = 0 ∨ x = 1 then run nw c w j n (i + 1) ((1 - x) :: st1) else none)
          else if (c i).1 = 11 ∨ (c i).1 = 12 then
            if (x = 0 ∨ x = 1) ∧ (i : Int) < (c i).2 then (if x = (if (c i).1 = 11 then 0 else 1) then run nw c w j n (c i).2.toNat (x :: st1) else run nw c w j n (i + 1) st1) else none
          else match st1 with
            | [] => none
            | y :: st2 => if 2 ≤ (c i).1 ∧ (c i).1 < 10 then (match rcomb (c i).1 y x with
              | none => some none
              | some v => run nw c w j n (i + 1) (v :: st2)) else none
/-- a piece of code and what it tells -/
def Seg (nw : Nat) (c : Nat → Nat × Int) (i j d : Nat) (f : (Nat → Int) → Option Int) : Prop := i < j ∧ ∀ (w : Nat → Int) (st : List Int), st.length + d ≤ 50 → run nw c w j (j - i) i st = some ((f w).map (fun v => v :: st))
def TSeg (nw : Nat) (c : Nat → Nat × Int) (i j d : Nat) (f : (Nat → Int) → Option Int) : Prop := Seg nw c i j d f ∧ ∀ w v, f w = some v → v = 0 ∨ v = 1
/-- the class's code, read -/
def ccd (code : Nat → Int32) : Nat → Nat × Int := fun k => (if code (2 * k) < 0 then 99 else (code (2 * k)).toNatClampNeg, if code (2 * k) = 11 ∨ code (2 * k) = 12 then (if (code (2 * k + 1)).toInt % 2 = 0 then (code (2 * k + 1)).toInt / 2 else -1) else (code (2 * k + 1)).toInt)
/-- the reference's codes, read: of orders, of laws -/
def ropO (op arg : Int32) : Nat × Int := if op.toInt = 0 then (0, arg.toInt) else if op.toInt < 6 then (1, op.toInt - 1) else if op.toInt < 20 then (if op.toInt = 6 then (1, 5 + arg.toInt) else (1, 9 + arg.toInt)) else ((op.toInt - 18).toNat, arg.toInt)
def ropL (op arg : Int32) : Nat × Int := if op.toInt = 0 then (0, arg.toInt) else if op.toInt < 20 then (1, op.toInt - 1) else ((op.toInt - 18).toNat, arg.toInt)
/-- a law's row: its code -/
def rcd (r : Nat → Int32) : Nat → Nat × Int := fun k => ropL (r (98 + 2 * k)) (r (98 + 2 * k + 1))
/-- clauses alike; Z: where no piece of a script lies -/
def ClR (P : va_W) (len : Nat) (A B : Nat → Nat × Int) (ai k : Nat) (r3 r4 r5 r6 : Int32) : Prop := ∃ (b0 e1 e2 e3 s0 s1 s2 s3 : Nat), pI P 0 ai 0 = some (nI k) ∧ pI P 0 ai 1 = some (nI (2 * b0)) ∧ pI P 0 ai 2 = some (nI (2 * e1)) ∧ pI P 0 ai 3 = some (nI (2 * e2)) ∧ pI P 0 ai 4 = some (nI (2 * e3)) ∧ 2 * e1 ≤ len ∧ 2 * e2 ≤ len ∧ 2 * e3 ≤ len ∧ r3 = nI s0 ∧ r4 = nI s1 ∧ r5 = nI s2 ∧ r6 = nI s3 ∧ s0 ≤ 400 ∧ s1 ≤ 400 ∧ s2 ≤ 400 ∧ s3 ≤ 400 ∧
  (k ≠ 2 → ∃ (f : (Nat → Int) → Option Int), Seg 9 A b0 e1 50 f ∧ Seg 9 B s0 s1 50 f) ∧
  ((e3 ≤ e2 ∧ s3 ≤ s2) ∨ ∃ (f : (Nat → Int) → Option Int), TSeg 9 A e2 e3 50 f ∧ TSeg 9 B s2 s3 50 f)
/-- a script of the pool and a law's row -/
def LawS (E : Nat → ClassId) (Z : Nat → Prop) (P : va_W) (q : Option Nat) (r : Nat → Int32) : Prop := ∃ (a n ka co len : Nat) (code : Nat → Int32) (cl : Nat → Option Nat), q = some a ∧ ¬ Z a ∧ n ≤ 12 ∧ pI P 5 a 1 = some (nI n) ∧ pR P 5 a 0 = some ka ∧ ¬ Z ka ∧ parQ E P ka = some (12, cl) ∧ pR P 5 a 2 = some co ∧ ¬ Z co ∧ parE E P co = some (len, code) ∧ len ≤ 800 ∧ r 1 = nI n ∧
  ∀ i, i < n → ∃ (ai k : Nat), cl i = some ai ∧ ¬ Z ai ∧ k < 3 ∧ r (2 + 8 * i) = nI k ∧ ClR P len (ccd code) (rcd r) ai k (r (2 + 8 * i + 3)) (r (2 + 8 * i + 4)) (r (2 + 8 * i + 5)) (r (2 + 8 * i + 6))
def lwR (R : Nat → Int32) (w : Nat) : Nat → Int32 := fun i => if i < 900 then R (76 + 900 * w + i) else 0
def LWS (E : Nat → ClassId) (Z : Nat → Prop) (P : va_W) (Q : Nat → Option Nat) (R : Nat → Int32) (W : Nat) : Prop := (∀ w, w < W → LawS E Z P (Q w) (lwR R w)) ∧ ∀ w, w < 6 → pok P 5 (Q w) = true
/-- a town and a row -/
def TW (I : Nat → Int32) (A : Nat → Nat → Int32) (R : Nat → Int32) : Prop := (I 5 = R 0 ∧ I 9 = R 1 ∧ I 11 = R 2 ∧ I 14 = R 3 ∧ I 15 = R 4) ∧ (∀ j, j < 10 → A 0 j = R (26 + j) ∧ A 1 j = R (36 + j) ∧ A 2 j = R (46 + j) ∧ A 3 j = R (56 + j) ∧ A 4 j = R (8 + j)) ∧ (∀ j, j < 4 → A 6 j = R (66 + j) ∧ A 7 j = R (18 + j) ∧ A 8 j = R (22 + j)) ∧ (∀ j, j < 6 → A 10 j = R (70 + j)) ∧ (∀ j, j < 3 → A 12 j = R (5 + j))
/-- a lane, a child of a row -/
def VL (R : Nat → Int32) (j : Nat) : Prop := (∃ a, a < 8 ∧ R (26 + j) = nI a) ∧ (∃ b, b < 8 ∧ R (36 + j) = nI b) ∧ R (26 + j) ≠ R (36 + j) ∧ (∃ l, 1 ≤ l ∧ l ≤ 9 ∧ R (46 + j) = nI l) ∧ (∃ g, g ≤ 4 ∧ R (56 + j) = nI g) ∧ (R (8 + j) = -1 ∨ ∃ m, m < 20 ∧ R (8 + j) = nI m)
def VC (R : Nat → Int32) (L c : Nat) : Prop := (∃ a, a < 10 ∧ R (66 + c) = nI a) ∧ (∃ k, k < 8 ∧ R (18 + c) = nI k) ∧ (R (22 + c) = -1 ∨ ∃ l, l < L ∧ R (22 + c) = nI l)
def VA (R : Nat → Int32) (L C : Nat) : Prop := (L ≤ 10 ∧ C ≤ 4 ∧ R 0 = nI L ∧ R 1 = nI C) ∧ (∀ j, j < L → VL R j) ∧ (∀ c, c < C → VC R L c) ∧ (∃ h, h ≤ 2000 ∧ R 5 = nI h) ∧ (∃ q, q ≤ 10 ∧ R 6 = nI q) ∧ (∃ q, q ≤ 9 ∧ R 7 = nI q)
def VH (R : Nat → Int32) (H : Nat) : Prop := H ≤ 6 ∧ R 2 = nI H ∧ ∀ j, j < H → ∃ m, m < 20 ∧ R (70 + j) = nI m
def VF (R : Nat → Int32) (W : Nat) : Prop := W ≤ 6 ∧ R 3 = nI W ∧ (R 4 = -1 ∨ ∃ w, w < W ∧ R 4 = nI w)
def hourOK (R : Nat → Int32) : Prop := ∃ h, h ≤ 999 ∧ R 5 = nI h
def VR (R : Nat → Int32) (L C H W : Nat) : Prop := VA R L C ∧ VH R H ∧ VF R W ∧ hourOK R
/-- an earlier row, as it was kept -/
def snap (U : Nat → Int32) (k : Nat) (R : Nat → Int32) : Nat → Int32 := fun i => if 5 ≤ i ∧ i < 26 then U (21 * k + (i - 5)) else R i
/-- the log -/
def LgE (rows U sorts R : Nat → Int32) (L C k : Nat) : Prop := (∃ d, d < 4 ∧ rows (20 * k) = nI d ∧ sorts k = nI d) ∧ rows (20 * k + 1) = U (21 * k) ∧ (∀ j, j < 4 → rows (20 * k + 2 + j) = U (21 * k + 13 + j) ∧ rows (20 * k + 6 + j) = U (21 * k + 17 + j)) ∧ (∀ j, j < 10 → rows (20 * k + 10 + j) = U (21 * k + 3 + j)) ∧ U (21 * k + 1) = R 6 ∧ U (21 * k + 2) = R 7 ∧ VA (snap U k R) L C ∧ hourOK (snap U k R)
def LG (rows U sorts R : Nat → Int32) (x y : Int32) (L C : Nat) : Prop := ∃ n, n ≤ 16 ∧ x = nI n ∧ y = nI n ∧ ∀ k, k < n → LgE rows U sorts R L C k
/-- the tape -/
def TP (x y : Int32) (f g : Nat → Int32) : Prop := ∃ n, n ≤ 400 ∧ x = nI n ∧ y = nI n ∧ ∀ j, j < 400 → f j = g j ∧ ∃ b, b < 256 ∧ g j = nI b
/-- what decades left -/
def DR (x y : Int32) (co na : Nat → Int32) (u v : Int32) (D : Nat → Int32) : Prop := (u = -1 ∧ v = -1 ∧ x = 0 ∧ y = 0) ∨ ∃ L C, L ≤ 10 ∧ C ≤ 4 ∧ x = nI L ∧ u = nI L ∧ y = nI C ∧ v = nI C ∧ (∀ j, j < 4 → co j = D (13 + j)) ∧ (∀ j, j < 10 → na j = D (3 + j))
/-- a kept town -/
def PTf (I : Nat → Int32) (a : Nat) : List Value := [.ref (a + 1), .ref (a + 2), .ref (a + 3), .ref (a + 4), .ref (a + 5), .int (I 5), .ref (a + 6), .ref (a + 7), .ref (a + 8), .int (I 9), .ref (a + 9), .int (I 11), .ref (a + 10), .ref (a + 11), .int (I 14), .int (I 15)]
def PT (E : Nat → ClassId) (P : va_W) (a : Nat) (I : Nat → Int32) (A : Nat → Nat → Int32) (Q : Nat → Option Nat) : Prop := pobj P 7 a = some (PTf I a) ∧ parE E P (a + 1) = some (10, A 0) ∧ parE E P (a + 2) = some (10, A 1) ∧ parE E P (a + 3) = some (10, A 2) ∧ parE E P (a + 4) = some (10, A 3) ∧ parE E P (a + 5) = some (10, A 4) ∧ parE E P (a + 6) = some (4, A 6) ∧ parE E P (a + 7) = some (4, A 7) ∧ parE E P (a + 8) = some (4, A 8) ∧ parE E P (a + 9) = some (6, A 10) ∧ parE E P (a + 10) = some (3, A 12) ∧ parL E P (a + 11) = some (6, Q)
def imZ (q : Nat → Option Nat) (x : Nat) : Prop := ∃ (k a : Nat), k < 2 ∧ q k = some a ∧ a ≤ x ∧ x < a + 12
def imR (G : Nat → Int32) (k : Nat) : Nat → Int32 := fun i => if i < 5476 then G (5476 * k + i) else 0
def IM (E : Nat → ClassId) (P : va_W) (q : Nat → Option Nat) (G kept : Nat → Int32) : Prop := (∀ k, k < 2 → (q k = none ∧ kept k = 0) ∨ ∃ (a : Nat) (I : Nat → Int32) (A : Nat → Nat → Int32) (Q : Nat → Option Nat) (L C H W : Nat), q k = some a ∧ kept k = 1 ∧ PT E P a I A Q ∧ TW I A (imR G k) ∧ VR (imR G k) L C H W ∧ LWS E (imZ q) P Q (imR G k) W) ∧ ∀ a b, q 0 = some a → q 1 = some b → a + 12 ≤ b ∨ b + 12 ≤ a
/-- the reference's tables of words -/
def KO (σ : MS) : Prop := (mi σ 20 = 0) ∧ (mb σ 31 0 = 3417476 ∧ mb σ 31 1 = 1253 ∧ mb σ 31 2 = 394693 ∧ mb σ 31 3 = 409031 ∧ mb σ 31 4 = 20225300 ∧ mb σ 31 5 = 116996274 ∧ mb σ 31 6 = 394868 ∧ mb σ 31 7 = 278194 ∧ mb σ 31 8 = 441828) ∧ (mb σ 32 0 = 278194 ∧ mb σ 32 1 = 146885 ∧ mb σ 32 2 = 404362868 ∧ mb σ 32 3 = 14726308 ∧ mb σ 32 4 = 369811 ∧ mb σ 32 5 = 52 ∧ mb σ 32 6 = 17172101) ∧ (mb σ 33 0 = 21678547 ∧ mb σ 33 1 = 624435 ∧ mb σ 33 2 = 67155) ∧ (mb σ 48 0 = 773263538 ∧ mb σ 48 1 = 3673 ∧ mb σ 48 2 = 398372 ∧ mb σ 48 3 = 525939)
/-- status, stopped, gravel, fault, refusals -/
def MI (S : CS) (σ : MS) : Prop := ci S 0 15 = mi σ 1 ∧ ci S 0 16 = mi σ 52 ∧ ci S 0 17 = mi σ 11 ∧ ci S 9 10 = mi σ 18 ∧ ∀ j, j < 7 → ca S 0 13 j = ma σ 2 j
/-- class and reference alike -/
def Rel (E : Nat → ClassId) (S : CS) (P : va_W) (σ : MS) : Prop := ∃ L C H W : Nat, TW (ci S 1) (ca S 1) (ma σ 3) ∧ VR (ma σ 3) L C H W ∧ LWS E (imZ (cq S 0)) P (cq S 1) (ma σ 3) W ∧ IM E P (cq S 0) (ma σ 4) (ma σ 5) ∧ LG (ca S 7 0) (ma σ 6) (ma σ 7) (ma σ 3) (ci S 7 2) (mi σ 8) L C ∧ TP (ci S 10 1) (mi σ 13) (ca S 10 0) (ma σ 12) ∧ DR (ci S 3 5) (ci S 3 9) (ca S 3 7) (ca S 3 4) (mi σ 56) (mi σ 57) (ma σ 55) ∧ KO σ ∧ MI S σ
