/-! WHAT EACH CALL ANSWERS AND LEAVES (second half, but for the three searches) -/
def sp_ground (A : pb_A) (a g : Int32) : Int32 × pb_A := if pb_in 0 9 a ∧ pb_in 0 10000 g then (if 0 < A 13 (pb_nat a) then (-2, A) else (nI (A 12 (pb_nat a)), pb_wf A 12 (pb_un (A 12) (pb_nat a) (pb_nat g)))) else (-1, A)
def sp_layI (A : pb_A) (p k n i : Nat) : pb_A := pb_wf (pb_wf (pb_wf (pb_wf (pb_wf A 14 (pb_un (A 14) k n)) 15 (pb_un (A 15) k (A 0 0))) 16 (fun j => if 12 * k ≤ j ∧ j < 12 * k + i then A 11 (12 * p + (j - 12 * k)) else A 16 j)) 5 (fun t => if t < i then A 5 t + A 11 (12 * p + t) else A 5 t)) 11 (fun j => if 12 * p ≤ j ∧ j < 12 * p + i then 0 else A 11 j)
def sp_layA (A : pb_A) (p a n : Nat) : pb_A := pb_wf (sp_layI A p (10 * a + A 13 a) n 12) 13 (pb_un (A 13) a (A 13 a + 1))
def sp_lay (A : pb_A) (p a n : Int32) : Int32 × pb_A := if pb_in 0 9 p ∧ pb_in 0 9 a ∧ pb_in 1 200 n then (if pb_tot A (pb_nat p) = 0 then (-2, A) else if A 13 (pb_nat a) = 10 then (-3, A) else (nI (A 13 (pb_nat a) + 1), sp_layA A (pb_nat p) (pb_nat a) (pb_nat n))) else (-1, A)
def sp_back (A : pb_A) (a b z : Int32) : Int32 × pb_A := if pb_in 0 9 a ∧ pb_in 0 7 b ∧ pb_in (A 0 0) 99 z then (nI (pb_back A (pb_nat a) (pb_nat z) (pb_nat b)), A) else (-1, A)
def sp_look (A : pb_A) (a l s : Int32) : Int32 × pb_A := if pb_in 0 9 a ∧ pb_in 0 3 l ∧ pb_in 0 2 s then (nI (pb_see A (pb_nat l) (pb_nat s) (pb_back A (pb_nat a) (A 0 0))), A) else (-1, A)
/-- how far an area is from the tone, in a year -/
def pb_fy (A : pb_A) (a l z : Nat) : Nat := pb_far A l (A 17 0) (A 17 1) (A 17 2) (pb_back A a z)
noncomputable def sp_missed (A : pb_A) (a l d : Int32) : Int32 × pb_A := if pb_in 0 9 a ∧ pb_in 0 3 l ∧ pb_in 0 30000 d then (if pb_find (fun n => pb_nat d < pb_fy A (pb_nat a) (pb_nat l) (n - 1)) (100 - A 0 0) (A 0 0 + 1) = 0 then -2 else nI (pb_find (fun n => pb_nat d < pb_fy A (pb_nat a) (pb_nat l) (n - 1)) (100 - A 0 0) (A 0 0 + 1) - 1), A) else (-1, A)
def sp_tone (A : pb_A) (a b c : Int32) : Int32 × pb_A := if pb_in 0 10000 a ∧ pb_in 0 10000 b ∧ pb_in 0 10000 c then (nI 1, pb_wf A 17 (pb_un (pb_un (pb_un (A 17) 0 (pb_nat a)) 1 (pb_nat b)) 2 (pb_nat c))) else (-1, A)
def sp_apart (A : pb_A) (a l : Int32) : Int32 × pb_A := if pb_in 0 9 a ∧ pb_in 0 3 l then (nI (pb_fy A (pb_nat a) (pb_nat l) (A 0 0)), A) else (-1, A)
def sp_matched (A : pb_A) (t : Int32) : Int32 × pb_A := if ¬ A 18 0 = 0 ∧ pb_isT A t then (nI (A 19 (pb_nat t)), A) else (-1, A)
def sp_price (A : pb_A) : Int32 × pb_A := if ¬ A 18 0 = 0 then (nI (A 20 0), A) else (-1, A)
def sp_glazed (A : pb_A) (i : Int32) : Int32 × pb_A := if nI 0 ≤ i ∧ i ≤ nI (A 21 0) - nI 1 then (nI (A 23 (pb_nat i)), A) else (-1, A)
def sp_keepA (A : pb_A) : pb_A := pb_wf (pb_wf A 25 (fun j => if 3 * A 24 0 ≤ j ∧ j < 3 * A 24 0 + 3 then A 17 (j - 3 * A 24 0) else A 25 j)) 24 (fun _ => A 24 0 + 1)
def sp_keep (A : pb_A) : Int32 × pb_A := if A 24 0 = 6 then (-3, A) else (nI (A 24 0 + 1), sp_keepA A)
def sp_clear (A : pb_A) : Int32 × pb_A := (nI (A 24 0), pb_wf A 24 (fun _ => 0))
def sp_count (A : pb_A) (w : Int32) : Int32 × pb_A := (if w = nI 0 then nI (A 1 0) else if w = nI 1 then nI (A 0 0) else if w = nI 2 then nI (A 24 0) else if w = nI 3 then nI (pb_sum 12 (fun t => pb_sum 10 (fun p => A 11 (12 * p + t)))) else if w = nI 4 then nI (pb_sum 12 (A 5)) else if w = nI 5 then nI (pb_sum 12 (A 6)) else if w = nI 6 then nI (pb_sum 12 (A 4)) else if w = nI 7 then nI (pb_sum 10 (A 13)) else -1, A)
theorem pb_bk_le {A : pb_A} (w : pb_WF A) {a b z : Nat} (ha : a < 10) : ∀ i, pb_bk A a b z i ≤ 10000
  | 0 => (w.area ha).1
  | i + 1 => pb_lay_le (pb_tab _ _) _ _ (pb_bk_le w ha i)
theorem pb_back_le {A : pb_A} (w : pb_WF A) {a z b : Nat} (ha : a < 10) : pb_back A a z b ≤ 10000 := pb_bk_le w ha _
/-- a layer's sums -/
theorem pb_WF.lyr {A : pb_A} (w : pb_WF A) {a i b : Nat} (ha : a < 10) (hi : i < A 13 a) (hb : b < 8) (y : Nat) : 0 < pb_sc A (pb_ly A (10 * a + i)) b ∧ pb_sc A (pb_ly A (10 * a + i)) b ≤ 998001 ∧ pb_dk A (pb_ly A (10 * a + i)) b y ≤ 998001 := by
  obtain ⟨l1, l2, l3, l4, l5⟩ := w.layer ha hi
  have l6 := (w.area ha).2
  obtain ⟨r1, r2, r3⟩ := w.rows (P := pb_ly A (10 * a + i)) l5 (fun t h1 h2 => (w.none h1 h2).2 (10 * a + i) (by omega)) hb y
  refine ⟨by omega, by omega, by omega⟩
theorem pb_WF.lyd {A : pb_A} (w : pb_WF A) {a i t : Nat} (ha : a < 10) (hi : i < A 13 a) (ht : t < 12) : A 16 (12 * (10 * a + i) + t) ≤ 999 := Nat.le_trans (pb_sum_mem (f := pb_ly A (10 * a + i)) ht) (w.layer ha hi).2.2.2.2
/-- light is laid out -/
def pb_PL (A : pb_A) (h : pb_H) (G : Nat → Nat) : Option Value → pb_H → Prop := fun v h' => v = none ∧ pb_RF A h h' ∧ ∃ F : Nat → Nat, h' 32 = some (.inl (0, 8, fun j => nI (F j))) ∧ ∀ b, b < 8 → F b = G b
theorem pb_kL {A : pb_A} {G : Nat → Nat} {Z : pb_Z} {y : pb_M} {d k n : Nat} {post : Option Value → pb_H → Prop} {pc : Nat} {lv : List (Option Value)} {h : pb_H} {rest : List Value} (kk : ∀ (h' : pb_H) (F : Nat → Nat), pb_RF A h h' → h' 32 = some (.inl (0, 8, fun j => nI (F j))) → (∀ b, b < 8 → F b = G b) → pb_S Z y d k n post pc lv rest h') : ∀ v h', pb_PL A h G v h' → (∀ b, h b ≠ none → h' b ≠ none) → pb_S Z y d k n post pc lv (v.toList ++ rest) h' := fun v h' q _ => by
  obtain ⟨rfl, hR, F, h32, hF⟩ := q
  exact kk h' F hR h32 hF

