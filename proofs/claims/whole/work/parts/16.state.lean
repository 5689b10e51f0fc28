/-! THE STATE that both programs hold: numbers by field and index. 0 year, 1 tubes, 2 cost, 3 fading, 4 holds, 5 laid, 6 lost, 7 drinks (8 t + b), 8 scatters, 9 lamps (8 l + b), 10 eyes (8 s + b), 11 pots (12 p + t), 12 grounds, 13 layers, 14 thickness (10 a + i), 15 year of a layer, 16 its drops (12 (10 a + i) + t), 17 tone, 18 has a match, 19 matched, 20 price, 21 glazes, 23 glazed, 24 tones, 25 kept (3 i + k) -/
abbrev pb_A : Type := Nat → Nat → Nat
def pb_wf (A : pb_A) (f : Nat) (g : Nat → Nat) : pb_A := fun f' j => if f' = f then g j else A f' j
theorem pb_wf_self (A : pb_A) (f : Nat) (g : Nat → Nat) : pb_wf A f g f = g := by funext j; exact if_pos rfl
theorem pb_wf_ne (A : pb_A) {f f' : Nat} (g : Nat → Nat) (h : f' ≠ f) : pb_wf A f g f' = A f' := by funext j; exact if_neg h
theorem pb_wf_wf (A : pb_A) (f : Nat) (g g' : Nat → Nat) : pb_wf (pb_wf A f g) f g' = pb_wf A f g' := by
  funext f' j
  unfold pb_wf
  by_cases e : f' = f
  · rw [if_pos e, if_pos e]
  · rw [if_neg e, if_neg e, if_neg e]
theorem pb_un_self (F : Nat → Nat) (i v : Nat) : pb_un F i v i = v := if_pos rfl
theorem pb_un_ne (F : Nat → Nat) {i j : Nat} (v : Nat) (h : j ≠ i) : pb_un F i v j = F j := if_neg h
/-- sums -/
def pb_sum : Nat → (Nat → Nat) → Nat
  | 0, _ => 0
  | n + 1, f => pb_sum n f + f n
theorem pb_sum_congr {f g : Nat → Nat} : ∀ n, (∀ i, i < n → f i = g i) → pb_sum n f = pb_sum n g
  | 0, _ => rfl
  | n + 1, h => by
    show pb_sum n f + f n = pb_sum n g + g n
    rw [pb_sum_congr n (fun i hi => h i (by omega)), h n (by omega)]
theorem pb_sum_le {f g : Nat → Nat} : ∀ n, (∀ i, i < n → f i ≤ g i) → pb_sum n f ≤ pb_sum n g
  | 0, _ => Nat.le_refl _
  | n + 1, h => Nat.add_le_add (pb_sum_le n (fun i hi => h i (by omega))) (h n (by omega))
theorem pb_sum_const (c : Nat) : ∀ n, pb_sum n (fun _ => c) = n * c
  | 0 => by simp [pb_sum]
  | n + 1 => by
    show pb_sum n (fun _ => c) + c = (n + 1) * c
    rw [pb_sum_const c n, Nat.add_mul, Nat.one_mul]
theorem pb_sum_bd {f : Nat → Nat} {c n : Nat} (h : ∀ i, i < n → f i ≤ c) : pb_sum n f ≤ n * c := by
  rw [← pb_sum_const c n]
  exact pb_sum_le n h
theorem pb_sum_mono {f : Nat → Nat} {m n : Nat} (h : m ≤ n) : pb_sum m f ≤ pb_sum n f := by
  induction n with
  | zero => rw [show m = 0 by omega]; exact Nat.le_refl _
  | succ n ih =>
    by_cases e : m = n + 1
    · rw [e]; exact Nat.le_refl _
    · exact Nat.le_trans (ih (by omega)) (Nat.le_add_right _ _)
theorem pb_sum_mem {f : Nat → Nat} {i n : Nat} (h : i < n) : f i ≤ pb_sum n f := Nat.le_trans (Nat.le_add_left _ _) (pb_sum_mono (f := f) (show i + 1 ≤ n by omega))
theorem pb_sum_zero {f : Nat → Nat} {n : Nat} (h : pb_sum n f = 0) : ∀ i, i < n → f i = 0 := fun i hi => by
  have := pb_sum_mem (f := f) hi
  omega
theorem pb_sum_add {f g : Nat → Nat} : ∀ n, pb_sum n (fun i => f i + g i) = pb_sum n f + pb_sum n g
  | 0 => rfl
  | n + 1 => by
    show pb_sum n (fun i => f i + g i) + (f n + g n) = pb_sum n f + f n + (pb_sum n g + g n)
    rw [pb_sum_add n]
    omega
theorem pb_sum_un {F : Nat → Nat} {i v : Nat} : ∀ n, i < n → pb_sum n (pb_un F i v) + F i = pb_sum n F + v
  | 0, h => by omega
  | n + 1, h => by
    show pb_sum n (pb_un F i v) + pb_un F i v n + F i = pb_sum n F + F n + v
    by_cases e : n = i
    · subst e
      rw [pb_un_self, pb_sum_congr (g := F) n (fun j hj => pb_un_ne F v (by omega))]
      omega
    · have := pb_sum_un n (show i < n by omega) (F := F) (v := v)
      rw [pb_un_ne F v e]
      omega
/-- fading -/
def pb_fade (f k : Nat) : Nat → Nat
  | 0 => k
  | y + 1 => pb_fade f k y * (1000 - f) / 1000
theorem pb_fade_le (f k : Nat) : ∀ y, pb_fade f k y ≤ k
  | 0 => Nat.le_refl _
  | y + 1 => by
    show pb_fade f k y * (1000 - f) / 1000 ≤ k
    apply Nat.div_le_of_le_mul
    have h1 := pb_fade_le f k y
    have : pb_fade f k y * (1000 - f) ≤ k * 1000 := Nat.mul_le_mul h1 (by omega)
    omega
theorem pb_fade_0 (f : Nat) {k y : Nat} (h : pb_fade f k y = 0) : ∀ z, y ≤ z → pb_fade f k z = 0 := by
  intro z hz
  induction z with
  | zero => rw [show y = 0 by omega] at h; exact h
  | succ z ih =>
    by_cases e : y = z + 1
    · rw [← e]; exact h
    · show pb_fade f k z * (1000 - f) / 1000 = 0
      rw [ih (by omega)]
      simp
/-- what is drunk and scattered by a row of drops, of band b, faded by y years -/
def pb_dk (A : pb_A) (P : Nat → Nat) (b y : Nat) : Nat := pb_sum (A 1 0) (fun t => P t * pb_fade (A 3 t) (A 7 (8 * t + b)) y)
def pb_sc (A : pb_A) (P : Nat → Nat) (b : Nat) : Nat := pb_sum (A 1 0) (fun t => P t * A 8 (8 * t + b))
def pb_pot (A : pb_A) (p : Nat) : Nat → Nat := fun t => A 11 (12 * p + t)
def pb_tot (A : pb_A) (p : Nat) : Nat := pb_sum 12 (pb_pot A p)
def pb_ly (A : pb_A) (k : Nat) : Nat → Nat := fun t => A 16 (12 * k + t)
/-- weights, and what is seen -/
def pb_wt (A : pb_A) (l s b : Nat) : Nat := A 9 (8 * l + b) * A 10 (8 * s + b)
def pb_see (A : pb_A) (l s : Nat) (F : Nat → Nat) : Nat := if pb_sum 8 (pb_wt A l s) = 0 then 0 else pb_sum 8 (fun b => pb_wt A l s b * F b) / pb_sum 8 (pb_wt A l s)
def pb_far (A : pb_A) (l a b c : Nat) (F : Nat → Nat) : Nat := pb_abs (pb_see A l 0 F) a + pb_abs (pb_see A l 1 F) b + pb_abs (pb_see A l 2 F) c
/-- what an area sends back of a band in a year: i layers -/
def pb_bk (A : pb_A) (a b z : Nat) : Nat → Nat
  | 0 => A 12 a
  | i + 1 => pb_lay (pb_ta (pb_dk A (pb_ly A (10 * a + i)) b (z - A 15 (10 * a + i))) (pb_sc A (pb_ly A (10 * a + i)) b)) (pb_tb (pb_dk A (pb_ly A (10 * a + i)) b (z - A 15 (10 * a + i))) (pb_sc A (pb_ly A (10 * a + i)) b)) (A 14 (10 * a + i)) (pb_bk A a b z i)
def pb_back (A : pb_A) (a z : Nat) : Nat → Nat := fun b => pb_bk A a b z (A 13 a)
/-- what always holds -/
def pb_WF (A : pb_A) : Prop :=
  A 0 0 ≤ 99 ∧ A 1 0 ≤ 12 ∧ (∀ t, t < A 1 0 → A 2 t ≤ 999 ∧ A 3 t ≤ 999) ∧
  (∀ t, t < 12 → A 4 t + pb_sum 10 (fun p => A 11 (12 * p + t)) + A 5 t + A 6 t ≤ 9999) ∧
  (∀ t, A 1 0 ≤ t → t < 12 → A 4 t + pb_sum 10 (fun p => A 11 (12 * p + t)) + A 5 t + A 6 t = 0 ∧ ∀ k, k < 100 → A 16 (12 * k + t) = 0) ∧
  (∀ t b, t < A 1 0 → b < 8 → A 7 (8 * t + b) ≤ 999 ∧ 1 ≤ A 8 (8 * t + b) ∧ A 8 (8 * t + b) ≤ 999) ∧
  (∀ i, i < 32 → A 9 i ≤ 99) ∧ (∀ i, i < 24 → A 10 i ≤ 99) ∧
  (∀ p, p < 10 → pb_tot A p ≤ 999) ∧
  (∀ a, a < 10 → A 12 a ≤ 10000 ∧ A 13 a ≤ 10) ∧
  (∀ a i, a < 10 → i < A 13 a → 1 ≤ A 14 (10 * a + i) ∧ A 14 (10 * a + i) ≤ 200 ∧ A 15 (10 * a + i) ≤ A 0 0 ∧ 1 ≤ pb_sum 12 (pb_ly A (10 * a + i)) ∧ pb_sum 12 (pb_ly A (10 * a + i)) ≤ 999) ∧
  (∀ i, i < 3 → A 17 i ≤ 10000) ∧ A 18 0 ≤ 1 ∧ (∀ t, t < 12 → A 19 t ≤ 8) ∧ A 20 0 ≤ 8000 ∧ (A 21 0 ≤ 3 ∨ A 21 0 = 4294967295) ∧ (∀ i, i < 3 → A 23 i ≤ 200) ∧ A 24 0 ≤ 6 ∧ (∀ i, i < 18 → A 25 i ≤ 10000)
theorem pb_WF.year {A : pb_A} (w : pb_WF A) : A 0 0 ≤ 99 := w.1
theorem pb_WF.tubes {A : pb_A} (w : pb_WF A) : A 1 0 ≤ 12 := w.2.1
theorem pb_WF.cf {A : pb_A} (w : pb_WF A) {t : Nat} (h : t < A 1 0) : A 2 t ≤ 999 ∧ A 3 t ≤ 999 := w.2.2.1 t h
theorem pb_WF.cons {A : pb_A} (w : pb_WF A) {t : Nat} (h : t < 12) : A 4 t + pb_sum 10 (fun p => A 11 (12 * p + t)) + A 5 t + A 6 t ≤ 9999 := w.2.2.2.1 t h
theorem pb_WF.none {A : pb_A} (w : pb_WF A) {t : Nat} (h : A 1 0 ≤ t) (h2 : t < 12) : A 4 t + pb_sum 10 (fun p => A 11 (12 * p + t)) + A 5 t + A 6 t = 0 ∧ ∀ k, k < 100 → A 16 (12 * k + t) = 0 := w.2.2.2.2.1 t h h2
theorem pb_WF.ks {A : pb_A} (w : pb_WF A) {t b : Nat} (h : t < A 1 0) (h2 : b < 8) : A 7 (8 * t + b) ≤ 999 ∧ 1 ≤ A 8 (8 * t + b) ∧ A 8 (8 * t + b) ≤ 999 := w.2.2.2.2.2.1 t b h h2
theorem pb_WF.lamp {A : pb_A} (w : pb_WF A) {i : Nat} (h : i < 32) : A 9 i ≤ 99 := w.2.2.2.2.2.2.1 i h
theorem pb_WF.eye {A : pb_A} (w : pb_WF A) {i : Nat} (h : i < 24) : A 10 i ≤ 99 := w.2.2.2.2.2.2.2.1 i h
theorem pb_WF.tot {A : pb_A} (w : pb_WF A) {p : Nat} (h : p < 10) : pb_tot A p ≤ 999 := w.2.2.2.2.2.2.2.2.1 p h
theorem pb_WF.area {A : pb_A} (w : pb_WF A) {a : Nat} (h : a < 10) : A 12 a ≤ 10000 ∧ A 13 a ≤ 10 := w.2.2.2.2.2.2.2.2.2.1 a h
theorem pb_WF.layer {A : pb_A} (w : pb_WF A) {a i : Nat} (h : a < 10) (h2 : i < A 13 a) : 1 ≤ A 14 (10 * a + i) ∧ A 14 (10 * a + i) ≤ 200 ∧ A 15 (10 * a + i) ≤ A 0 0 ∧ 1 ≤ pb_sum 12 (pb_ly A (10 * a + i)) ∧ pb_sum 12 (pb_ly A (10 * a + i)) ≤ 999 := w.2.2.2.2.2.2.2.2.2.2.1 a i h h2
theorem pb_WF.tone {A : pb_A} (w : pb_WF A) {i : Nat} (h : i < 3) : A 17 i ≤ 10000 := w.2.2.2.2.2.2.2.2.2.2.2.1 i h
theorem pb_WF.rest {A : pb_A} (w : pb_WF A) : A 18 0 ≤ 1 ∧ (∀ t, t < 12 → A 19 t ≤ 8) ∧ A 20 0 ≤ 8000 ∧ (A 21 0 ≤ 3 ∨ A 21 0 = 4294967295) ∧ (∀ i, i < 3 → A 23 i ≤ 200) ∧ A 24 0 ≤ 6 ∧ (∀ i, i < 18 → A 25 i ≤ 10000) := w.2.2.2.2.2.2.2.2.2.2.2.2
theorem pb_WF.pot {A : pb_A} (w : pb_WF A) {p t : Nat} (h : p < 10) (h2 : t < 12) : A 11 (12 * p + t) ≤ 999 := Nat.le_trans (pb_sum_mem (f := pb_pot A p) h2) (w.tot h)
theorem pb_WF.pot0 {A : pb_A} (w : pb_WF A) {p t : Nat} (h : p < 10) (h2 : t < 12) (h3 : A 1 0 ≤ t) : A 11 (12 * p + t) = 0 := by
  have h1 := (w.none h3 h2).1
  have := pb_sum_mem (f := fun p => A 11 (12 * p + t)) h
  omega
/-- the sums of a row of drops are small, and of some that aren't none at least one drop scatters -/
theorem pb_WF.rows {A : pb_A} (w : pb_WF A) {P : Nat → Nat} (h1 : pb_sum 12 P ≤ 999) (h0 : ∀ t, A 1 0 ≤ t → t < 12 → P t = 0) {b : Nat} (hb : b < 8) (y : Nat) : pb_dk A P b y ≤ 999 * pb_sum 12 P ∧ pb_sc A P b ≤ 999 * pb_sum 12 P ∧ pb_sum 12 P ≤ pb_sc A P b := by
  have ht := w.tubes
  have hs : ∀ n, A 1 0 ≤ n → n ≤ 12 → pb_sum n P = pb_sum (A 1 0) P := by
    intro n
    induction n with
    | zero => intro h2 _; rw [show A 1 0 = 0 by omega]
    | succ n ih =>
      intro h2 h3
      by_cases e : A 1 0 = n + 1
      · rw [e]
      · show pb_sum n P + P n = _
        rw [ih (by omega) (by omega), h0 n (by omega) (by omega)]
        rfl
  rw [hs 12 ht (Nat.le_refl _)]
  have mulsum : ∀ n, pb_sum n (fun t => 999 * P t) = 999 * pb_sum n P := by
    intro n
    induction n with
    | zero => rfl
    | succ n ih =>
      show pb_sum n (fun t => 999 * P t) + 999 * P n = 999 * (pb_sum n P + P n)
      rw [ih, Nat.mul_add]
  refine ⟨?_, ?_, ?_⟩
  · rw [← mulsum]
    refine pb_sum_le _ (fun t h => ?_)
    rw [Nat.mul_comm]
    exact Nat.mul_le_mul_right _ (Nat.le_trans (pb_fade_le _ _ _) (w.ks h hb).1)
  · rw [← mulsum]
    refine pb_sum_le _ (fun t h => ?_)
    rw [Nat.mul_comm]
    exact Nat.mul_le_mul_right _ (w.ks h hb).2.2
  · refine pb_sum_le _ (fun t h => ?_)
    exact Nat.le_mul_of_pos_right _ (w.ks h hb).2.1
theorem pb_wt_le {A : pb_A} (w : pb_WF A) {l s b : Nat} (hl : l < 4) (hs : s < 3) (hb : b < 8) : pb_wt A l s b ≤ 9801 := Nat.mul_le_mul (w.lamp (by omega)) (w.eye (by omega))
theorem pb_see_le {A : pb_A} {l s : Nat} {F : Nat → Nat} (hF : ∀ b, b < 8 → F b ≤ 10000) : pb_see A l s F ≤ 10000 := by
  unfold pb_see
  by_cases h : pb_sum 8 (pb_wt A l s) = 0
  · rw [if_pos h]; omega
  · rw [if_neg h]
    apply Nat.div_le_of_le_mul
    have : ∀ n, n ≤ 8 → pb_sum n (fun b => pb_wt A l s b * F b) ≤ pb_sum n (pb_wt A l s) * 10000 := by
      intro n
      induction n with
      | zero => intro _; exact Nat.zero_le _
      | succ n ih =>
        intro hn
        show pb_sum n (fun b => pb_wt A l s b * F b) + pb_wt A l s n * F n ≤ (pb_sum n (pb_wt A l s) + pb_wt A l s n) * 10000
        rw [Nat.add_mul]
        exact Nat.add_le_add (ih (by omega)) (Nat.mul_le_mul_left _ (hF n (by omega)))
    exact this 8 (Nat.le_refl _)
/-- THE REFERENCE's MEMORY: the object at 20, its rows at 20 and the slot's number -/
def pb_ro (A : pb_A) : List Value := [.int (nI 0), .int (nI (A 0 0)), .int (nI (A 1 0)), .ref 23, .ref 24, .ref 25, .ref 26, .ref 27, .ref 28, .ref 29, .ref 30, .ref 31, .ref 32, .ref 33, .ref 34, .ref 35, .ref 36, .ref 37, .ref 38, .ref 39, .ref 40, .ref 41, .ref 42, .int (nI (A 18 0)), .ref 44, .int (nI (A 20 0)), .int (nI (A 21 0)), .ref 47, .ref 48, .int (nI (A 24 0)), .ref 50, .ref 51]
def pb_rT : Nat → Option (Nat × Nat)
  | 23 => some (96, 7) | 24 => some (96, 8) | 25 => some (12, 2) | 26 => some (12, 3) | 27 => some (12, 4) | 28 => some (12, 5) | 29 => some (12, 6) | 30 => some (32, 9) | 31 => some (24, 10) | 33 => some (120, 11) | 36 => some (10, 12) | 37 => some (10, 13) | 38 => some (100, 14) | 39 => some (100, 15) | 40 => some (1200, 16) | 41 => some (3, 17) | 44 => some (12, 19) | 47 => some (3, 23) | 50 => some (18, 25)
  | _ => none
def pb_sT : Nat → Option Nat
  | 32 => some 8 | 34 => some 8 | 35 => some 8 | 42 => some 12 | 48 => some 3 | 51 => some 4096
  | _ => none
def pb_rI : Nat → Nat
  | 7 => 23 | 8 => 24 | 2 => 25 | 3 => 26 | 4 => 27 | 5 => 28 | 6 => 29 | 9 => 30 | 10 => 31 | 11 => 33 | 12 => 36 | 13 => 37 | 14 => 38 | 15 => 39 | 16 => 40 | 17 => 41 | 19 => 44 | 23 => 47 | _ => 50
theorem pb_rT_facts {a n f : Nat} (h : pb_rT a = some (n, f)) : pb_rI f = a ∧ 20 < a ∧ a < 60 ∧ n ≤ 1200 ∧ pb_sT a = none ∧ f ≠ 0 ∧ f ≠ 1 ∧ f ≠ 18 ∧ f ≠ 20 ∧ f ≠ 21 ∧ f ≠ 24 := by
  unfold pb_rT at h
  split at h <;> first | (cases h; decide) | cases h
theorem pb_sT_facts {a n : Nat} (h : pb_sT a = some n) : 20 < a ∧ a < 60 ∧ n ≤ 4096 ∧ pb_rT a = none := by
  unfold pb_sT at h
  split at h <;> first | (cases h; decide) | cases h
def pb_RF (A : pb_A) (h0 h : pb_H) : Prop := h 20 = some (.inr (.inr (10, pb_ro A))) ∧ (∀ a n f, pb_rT a = some (n, f) → h a = some (.inl (0, n, fun j => nI (A f j)))) ∧ (∀ a n, pb_sT a = some n → ∃ F : Nat → Nat, h a = some (.inl (0, n, fun j => nI (F j)))) ∧ ∀ b, b < 20 ∨ 60 ≤ b → h b = h0 b
theorem pb_RF.o {A : pb_A} {h0 h : pb_H} (hR : pb_RF A h0 h) : h 20 = some (.inr (.inr (10, pb_ro A))) := hR.1
theorem pb_RF.a {A : pb_A} {h0 h : pb_H} (hR : pb_RF A h0 h) {a n f : Nat} (e : pb_rT a = some (n, f)) : h a = some (.inl (0, n, fun j => nI (A f j))) := hR.2.1 a n f e
theorem pb_ro_wf {A : pb_A} {f : Nat} {g : Nat → Nat} (h : f ≠ 0 ∧ f ≠ 1 ∧ f ≠ 18 ∧ f ≠ 20 ∧ f ≠ 21 ∧ f ≠ 24) : pb_ro (pb_wf A f g) = pb_ro A := by
  unfold pb_ro
  rw [pb_wf_ne A g (Ne.symm h.1), pb_wf_ne A g (Ne.symm h.2.1), pb_wf_ne A g (Ne.symm h.2.2.1), pb_wf_ne A g (Ne.symm h.2.2.2.1), pb_wf_ne A g (Ne.symm h.2.2.2.2.1), pb_wf_ne A g (Ne.symm h.2.2.2.2.2)]
theorem pb_RF.set {A : pb_A} {h0 h : pb_H} (hR : pb_RF A h0 h) {a n f : Nat} (e : pb_rT a = some (n, f)) (g : Nat → Nat) : pb_RF (pb_wf A f g) h0 (pb_set h a (.inl (0, n, fun j => nI (g j)))) := by
  obtain ⟨e1, e2, e3, e4, e5, e6⟩ := pb_rT_facts e
  refine ⟨?_, fun b m f' hb => ?_, fun b m hb => ?_, fun b hb => ?_⟩
  · rw [pb_set_ne _ _ (by omega), pb_ro_wf e6]; exact hR.1
  · by_cases eb : b = a
    · subst eb
      rw [e] at hb
      cases hb
      rw [pb_set_self, pb_wf_self]
    · have hf : f' ≠ f := fun q => eb (by
        have := (pb_rT_facts hb).1
        rw [q, e1] at this
        exact this.symm)
      rw [pb_set_ne _ _ eb, pb_wf_ne A g hf]
      exact hR.2.1 b m f' hb
  · have eb : b ≠ a := fun q => by rw [q, e5] at hb; cases hb
    rw [pb_set_ne _ _ eb]
    exact hR.2.2.1 b m hb
  · rw [pb_set_ne _ _ (by omega)]
    exact hR.2.2.2 b hb
theorem pb_RF.sc {A : pb_A} {h0 h : pb_H} (hR : pb_RF A h0 h) {a n : Nat} (e : pb_sT a = some n) (g : Nat → Nat) : pb_RF A h0 (pb_set h a (.inl (0, n, fun j => nI (g j)))) := by
  obtain ⟨e2, e3, e4, e5⟩ := pb_sT_facts e
  refine ⟨?_, fun b m f' hb => ?_, fun b m hb => ?_, fun b hb => ?_⟩
  · rw [pb_set_ne _ _ (by omega)]; exact hR.1
  · have eb : b ≠ a := fun q => by rw [q, e5] at hb; cases hb
    rw [pb_set_ne _ _ eb]
    exact hR.2.1 b m f' hb
  · by_cases eb : b = a
    · subst eb
      rw [e] at hb
      cases hb
      exact ⟨g, by rw [pb_set_self]⟩
    · rw [pb_set_ne _ _ eb]
      exact hR.2.2.1 b m hb
  · rw [pb_set_ne _ _ (by omega)]
    exact hR.2.2.2 b hb
theorem pb_RF.ob {A : pb_A} {h0 h : pb_H} (hR : pb_RF A h0 h) {f : Nat} (g : Nat → Nat) (hf : f = 0 ∨ f = 1 ∨ f = 18 ∨ f = 20 ∨ f = 21 ∨ f = 24) : pb_RF (pb_wf A f g) h0 (pb_set h 20 (.inr (.inr (10, pb_ro (pb_wf A f g))))) := by
  refine ⟨pb_set_self _ _ _, fun b m f' hb => ?_, fun b m hb => ?_, fun b hb => ?_⟩
  · obtain ⟨e1, e2, e3, e4, e5, e6⟩ := pb_rT_facts hb
    rw [pb_set_ne _ _ (by omega), pb_wf_ne A g (by omega)]
    exact hR.2.1 b m f' hb
  · obtain ⟨e2, e3, e4, e5⟩ := pb_sT_facts hb
    rw [pb_set_ne _ _ (by omega)]
    exact hR.2.2.1 b m hb
  · rw [pb_set_ne _ _ (by omega)]
    exact hR.2.2.2 b hb
theorem pb_RF.trans {A A' : pb_A} {h0 h1 h2 : pb_H} (hR : pb_RF A h0 h1) (hR2 : pb_RF A' h1 h2) : pb_RF A' h0 h2 := ⟨hR2.1, hR2.2.1, hR2.2.2.1, fun b hb => (hR2.2.2.2 b hb).trans (hR.2.2.2 b hb)⟩
theorem pb_RF.rf {A : pb_A} {h0 h : pb_H} (hR : pb_RF A h0 h) : pb_RF A h h := ⟨hR.1, hR.2.1, hR.2.2.1, fun _ _ => rfl⟩
section PBR
variable {Z : pb_Z} {y : pb_M} {d k n : Nat} {post : Option Value → pb_H → Prop} {pc : Nat} {lv : List (Option Value)} {st : List Value} {h : pb_H}
theorem pb_iastR {A : pb_A} {h0 : pb_H} {a n0 f j v : Nat} {pc2 : Nat} (hR : pb_RF A h0 h) (e : pb_rT a = some (n0, f)) (hd : decode y.2.1 pc = .ok (.iastore, 1)) (hj : j < n0) (hp : pc + 1 = pc2) (kk : ∀ h', pb_RF (pb_wf A f (pb_un (A f) j v)) h0 h' → pb_S Z y d k n post pc2 lv st h') : pb_S Z y d k n post pc lv (.int (nI v) :: .int (nI j) :: .ref a :: st) h := by
  obtain ⟨e1, e2, e3, e4, e5, e6⟩ := pb_rT_facts e
  exact pb_iast (hR.a e) hd (by omega) hj (by omega) hp (kk _ (hR.set e _))
theorem pb_iastC {A : pb_A} {h0 : pb_H} {a n0 j v : Nat} {F : Nat → Nat} {pc2 : Nat} (hR : pb_RF A h0 h) (e : pb_sT a = some n0) (ha : h a = some (.inl (0, n0, fun j => nI (F j)))) (hd : decode y.2.1 pc = .ok (.iastore, 1)) (hj : j < n0) (hp : pc + 1 = pc2) (kk : ∀ h', pb_RF A h0 h' → h' a = some (.inl (0, n0, fun i => nI (pb_un F j v i))) → (∀ b, b ≠ a → h' b = h b) → pb_S Z y d k n post pc2 lv st h') : pb_S Z y d k n post pc lv (.int (nI v) :: .int (nI j) :: .ref a :: st) h := by
  obtain ⟨e2, e3, e4, e5⟩ := pb_sT_facts e
  exact pb_iast ha hd (by omega) hj (by omega) hp (kk _ (hR.sc e _) (pb_set_self _ _ _) (fun b hb => pb_set_ne _ _ hb))
theorem pb_putR {A : pb_A} {h0 : pb_H} {idx kf : Nat} {v : Value} {pc2 : Nat} (hR : pb_RF A h0 h) (hl : pb_fl RX12 idx 10 kf RX12 TX12 32 tyX12) (hw : y.1.cls = RX12) (hd : decode y.2.1 pc = .ok (.putfield idx, 3)) (hfin : (TX12 kf).2.2.2 = false) (hn : narrow (tyX12 kf) v = v) (hft : fits (tyX12 kf) v = true) (f : Nat) (g : Nat → Nat) (hf : f = 0 ∨ f = 1 ∨ f = 18 ∨ f = 20 ∨ f = 21 ∨ f = 24) (hs : (pb_ro A).set kf v = pb_ro (pb_wf A f g)) (hp : pc + 3 = pc2) (kk : ∀ h', pb_RF (pb_wf A f g) h0 h' → pb_S Z y d k n post pc2 lv st h') : pb_S Z y d k n post pc lv (v :: .ref 20 :: st) h :=
  pb_putf hl hw hd hR.o (by omega) hfin hn hft hs hp (kk _ (hR.ob g hf))
theorem nI_rng {x : Int32} {lo hi : Nat} (hhi : hi < 2 ^ 31) (hq : nI lo ≤ x ∧ x ≤ nI hi) (hlo : lo < 2 ^ 31) : ∃ c, lo ≤ c ∧ c ≤ hi ∧ x = nI c := by
  have h1 : ¬ x < 0 := Int32.not_lt.mpr (Int32.le_trans (nI_pos' hlo) hq.1)
  obtain ⟨j, hj, rfl⟩ := nI_of h1
  exact ⟨j, (nI_leI hlo hj).mp hq.1, (nI_leI hj hhi).mp hq.2, rfl⟩
end PBR

