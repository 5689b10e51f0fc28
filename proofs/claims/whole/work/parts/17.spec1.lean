/-! WHAT EACH CALL ANSWERS AND LEAVES (first half) -/
abbrev pb_nat (x : Int32) : Nat := x.toNatClampNeg
abbrev pb_in (lo hi : Nat) (x : Int32) : Prop := nI lo ≤ x ∧ x ≤ nI hi
abbrev pb_isT (A : pb_A) (x : Int32) : Prop := nI 0 ≤ x ∧ x ≤ nI (A 1 0) - nI 1
theorem pb_natN {c : Nat} (h : c < 2 ^ 31) : pb_nat (nI c) = c := nI_clamp h
theorem pb_isT_of {A : pb_A} (w : pb_WF A) {x : Int32} (h : pb_isT A x) : ∃ t, t < A 1 0 ∧ x = nI t := by
  have ht := w.tubes
  have h : nI 0 ≤ x ∧ x ≤ nI (A 1 0) - nI 1 := h
  by_cases e : A 1 0 = 0
  · exfalso
    rw [e] at h
    have : nI 0 ≤ nI 0 - nI 1 := Int32.le_trans h.1 h.2
    revert this
    decide
  · rw [nI_sub (show 1 ≤ A 1 0 by omega)] at h
    obtain ⟨c, h1, h2, h3⟩ := nI_rng (lo := 0) (hi := A 1 0 - 1) (by omega) h (by omega)
    exact ⟨c, by omega, h3⟩
def sp_newTube (A : pb_A) (c f n : Nat) : pb_A := pb_wf (pb_wf (pb_wf (pb_wf (pb_wf (pb_wf A 7 (fun j => if 8 * A 1 0 ≤ j ∧ j < 8 * A 1 0 + 8 then 100 else A 7 j)) 8 (fun j => if 8 * A 1 0 ≤ j ∧ j < 8 * A 1 0 + 8 then 100 else A 8 j)) 2 (pb_un (A 2) (A 1 0) c)) 3 (pb_un (A 3) (A 1 0) f)) 4 (pb_un (A 4) (A 1 0) n)) 1 (fun _ => A 1 0 + 1)
def sp_tube (A : pb_A) (c f n : Int32) : Int32 × pb_A := if pb_in 0 999 c ∧ pb_in 0 999 f ∧ pb_in 0 9999 n then (if A 1 0 = 12 then (-3, A) else (nI (A 1 0), sp_newTube A (pb_nat c) (pb_nat f) (pb_nat n))) else (-1, A)
def sp_band (A : pb_A) (t b k s : Int32) : Int32 × pb_A := if pb_isT A t ∧ pb_in 0 7 b ∧ pb_in 0 999 k ∧ pb_in 1 999 s then (nI 1, pb_wf (pb_wf A 7 (pb_un (A 7) (8 * pb_nat t + pb_nat b) (pb_nat k))) 8 (pb_un (A 8) (8 * pb_nat t + pb_nat b) (pb_nat s))) else (-1, A)
def sp_ofTube (A : pb_A) (t w : Int32) : Int32 × pb_A := if pb_isT A t then (if w = nI 0 then nI (A 2 (pb_nat t)) else if w = nI 1 then nI (A 3 (pb_nat t)) else if w = nI 2 then nI (A 4 (pb_nat t)) else if w = nI 3 then nI (pb_sum 10 (fun p => A 11 (12 * p + pb_nat t))) else if w = nI 4 then nI (A 5 (pb_nat t)) else if w = nI 5 then nI (A 6 (pb_nat t)) else -1, A) else (-1, A)
def sp_row (A : pb_A) (t b y w : Int32) : Int32 × pb_A := if pb_isT A t ∧ pb_in 0 7 b ∧ pb_in 0 99 y ∧ pb_in 0 1 w then (if w = nI 0 then nI (pb_fade (A 3 (pb_nat t)) (A 7 (8 * pb_nat t + pb_nat b)) (pb_nat y)) else nI (A 8 (8 * pb_nat t + pb_nat b)), A) else (-1, A)
def sp_lamp (A : pb_A) (l b v : Int32) : Int32 × pb_A := if pb_in 0 3 l ∧ pb_in 0 7 b ∧ pb_in 0 99 v then (nI (A 9 (8 * pb_nat l + pb_nat b)), pb_wf A 9 (pb_un (A 9) (8 * pb_nat l + pb_nat b) (pb_nat v))) else (-1, A)
def sp_eye (A : pb_A) (l b v : Int32) : Int32 × pb_A := if pb_in 0 2 l ∧ pb_in 0 7 b ∧ pb_in 0 99 v then (nI (A 10 (8 * pb_nat l + pb_nat b)), pb_wf A 10 (pb_un (A 10) (8 * pb_nat l + pb_nat b) (pb_nat v))) else (-1, A)
def sp_years (A : pb_A) (n : Int32) : Int32 × pb_A := if pb_in 1 99 n ∧ A 0 0 + pb_nat n ≤ 99 then (nI (A 0 0 + pb_nat n), pb_wf A 0 (fun _ => A 0 0 + pb_nat n)) else (-1, A)
def sp_press (A : pb_A) (t p n : Int32) : Int32 × pb_A := if pb_isT A t ∧ pb_in 0 9 p ∧ pb_in 1 99 n then (if A 4 (pb_nat t) < pb_nat n then (-2, A) else if 999 < pb_tot A (pb_nat p) + pb_nat n then (-3, A) else (nI (pb_tot A (pb_nat p) + pb_nat n), pb_wf (pb_wf A 4 (pb_un (A 4) (pb_nat t) (A 4 (pb_nat t) - pb_nat n))) 11 (pb_un (A 11) (12 * pb_nat p + pb_nat t) (A 11 (12 * pb_nat p + pb_nat t) + pb_nat n)))) else (-1, A)
def sp_pourA (A : pb_A) (p o : Nat) : pb_A := pb_wf A 11 (fun j => if 12 * o ≤ j ∧ j < 12 * o + 12 then A 11 j + A 11 (12 * p + (j - 12 * o)) else if 12 * p ≤ j ∧ j < 12 * p + 12 then 0 else A 11 j)
def sp_pour (A : pb_A) (p o : Int32) : Int32 × pb_A := if pb_in 0 9 p ∧ pb_in 0 9 o ∧ ¬ p = o then (if pb_tot A (pb_nat p) = 0 then (-2, A) else if 999 < pb_tot A (pb_nat p) + pb_tot A (pb_nat o) then (-3, A) else (nI (pb_tot A (pb_nat p) + pb_tot A (pb_nat o)), sp_pourA A (pb_nat p) (pb_nat o))) else (-1, A)
def sp_wasteA (A : pb_A) (p : Nat) : pb_A := pb_wf (pb_wf A 6 (fun t => if t < 12 then A 6 t + A 11 (12 * p + t) else A 6 t)) 11 (fun j => if 12 * p ≤ j ∧ j < 12 * p + 12 then 0 else A 11 j)
def sp_waste (A : pb_A) (p : Int32) : Int32 × pb_A := if pb_in 0 9 p then (if pb_tot A (pb_nat p) = 0 then (-2, A) else (nI (pb_tot A (pb_nat p)), sp_wasteA A (pb_nat p))) else (-1, A)
def sp_drops (A : pb_A) (p t : Int32) : Int32 × pb_A := if pb_in 0 9 p then (if t = -1 then (nI (pb_tot A (pb_nat p)), A) else if pb_isT A t then (nI (A 11 (12 * pb_nat p + pb_nat t)), A) else (-1, A)) else (-1, A)
def sp_thick (A : pb_A) (p b : Int32) : Int32 × pb_A := if pb_in 0 9 p ∧ pb_in 0 7 b then (if pb_tot A (pb_nat p) = 0 then (-2, A) else (nI (pb_thick (pb_dk A (pb_pot A (pb_nat p)) (pb_nat b) 0) (pb_sc A (pb_pot A (pb_nat p)) (pb_nat b))), A)) else (-1, A)
def pb_tl (A : pb_A) (P : Nat → Nat) : Nat → Nat := fun b => pb_thick (pb_dk A P b 0) (pb_sc A P b)
def sp_seen (A : pb_A) (p l s : Int32) : Int32 × pb_A := if pb_in 0 9 p ∧ pb_in 0 3 l ∧ pb_in 0 2 s then (if pb_tot A (pb_nat p) = 0 then (-2, A) else (nI (pb_see A (pb_nat l) (pb_nat s) (pb_tl A (pb_pot A (pb_nat p)))), A)) else (-1, A)
def sp_over (A : pb_A) (p b n g : Int32) : Int32 × pb_A := if pb_in 0 9 p ∧ pb_in 0 7 b ∧ pb_in 1 200 n ∧ pb_in 0 10000 g then (if pb_tot A (pb_nat p) = 0 then (-2, A) else (nI (pb_lay (pb_ta (pb_dk A (pb_pot A (pb_nat p)) (pb_nat b) 0) (pb_sc A (pb_pot A (pb_nat p)) (pb_nat b))) (pb_tb (pb_dk A (pb_pot A (pb_nat p)) (pb_nat b) 0) (pb_sc A (pb_pot A (pb_nat p)) (pb_nat b))) (pb_nat n) (pb_nat g)), A)) else (-1, A)
/-- a public method's end, for the reference -/
def pb_PR (r : Int32 × pb_A) (h : pb_H) : Option Value → pb_H → Prop := fun v h' => v = some (.int r.1) ∧ pb_RF r.2 h h'
theorem pb_fin {r : Int32 × pb_A} {v : Int32} {A' : pb_A} {h h' : pb_H} (e : r = (v, A')) (hR : pb_RF A' h h') : pb_PR r h (some (.int v)) h' := by
  subst e
  exact ⟨rfl, hR⟩

