/-- the kind of a clause -/
theorem kindL {F : Nat} {σ τ : MS} {I0 : Nat → Int32} {t : Nat → Nat} {n s b br pa : Nat} {l : List (Nat × Nat)} {fl : Option Nat} {f g : Nat → Int32} (hb : ∀ m, m < 3 → mb σ 33 m = lN (wdH 0 m)) (h : RM σ I0 t n s b l br pa fl f g τ) : ∀ (r k fuel : Nat), k + r = 3 → r < fuel → M_readLaw_L4 F τ fuel (lsF (fun m => isW t n s (wdH 0 m)) nI k) (nI k) = (if lsF (fun m => isW t n s (wdH 0 m)) nI 3 = (-1 : Int32) then M_readLaw_B53 F τ (lsF (fun m => isW t n s (wdH 0 m)) nI 3) else if (12 : Int32) ≤ (mi τ 21) then M_readLaw_B53 F τ (lsF (fun m => isW t n s (wdH 0 m)) nI 3) else M_readLaw_B54 F τ (lsF (fun m => isW t n s (wdH 0 m)) nI 3) (1 : Int32))
  | 0, k, fuel + 1, e, _ => by
    obtain rfl : k = 3 := by omega
    rw [M_readLaw_L4, if_pos (by decide)]
  | r + 1, k, fuel + 1, e, hf => by
    have ih := kindL (F := F) hb h r (k + 1) fuel (by omega) (by omega)
    have em : mb τ 33 k = lN (wdH 0 k) := by rw [(rd_mi h).2.2.2.2.2.2.1]; exact hb k (by omega)
    rw [M_readLaw_L4, if_neg (show ¬ (3 : Int32) ≤ nI k from nI_ge (b := 3) (by omega) (by decide)), chk_in (show k < 3 by omega) (by decide), nI_clamp (by omega), em, rd_word h, bs]
    unfold M_readLaw_B27
    rw [← nI_succ]
    rw [show lsF (fun m => isW t n s (wdH 0 m)) nI (k + 1) = if isW t n s (wdH 0 k) = true then nI k else lsF (fun m => isW t n s (wdH 0 m)) nI k from rfl] at ih
    cases q : isW t n s (wdH 0 k) with
    | true => rw [q, if_pos rfl] at ih; rw [if_pos rfl, if_neg (by decide)]; exact ih
    | false => rw [q, if_neg (by decide)] at ih; rw [if_pos (by decide)]; exact ih
