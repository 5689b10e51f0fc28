/-! NUMBERS: what both programs reckon -/
-- whole part of the root
def pb_root : Nat → Nat
  | 0 => 0
  | v + 1 => if (pb_root v + 1) * (pb_root v + 1) ≤ v + 1 then pb_root v + 1 else pb_root v
theorem pb_root_ok : ∀ v, pb_root v * pb_root v ≤ v ∧ v < (pb_root v + 1) * (pb_root v + 1)
  | 0 => by decide
  | v + 1 => by
    obtain ⟨h1, h2⟩ := pb_root_ok v
    unfold pb_root
    by_cases h : (pb_root v + 1) * (pb_root v + 1) ≤ v + 1
    · rw [if_pos h]
      refine ⟨h, ?_⟩
      have : (pb_root v + 1 + 1) * (pb_root v + 1 + 1) = (pb_root v + 1) * (pb_root v + 1) + 2 * (pb_root v + 1) + 1 := by
        simp only [Nat.add_mul, Nat.mul_add]; omega
      omega
    · rw [if_neg h]
      exact ⟨by omega, by omega⟩
theorem pb_root_uniq {v r : Nat} (h1 : r * r ≤ v) (h2 : v < (r + 1) * (r + 1)) : pb_root v = r := by
  obtain ⟨g1, g2⟩ := pb_root_ok v
  have a : pb_root v < r + 1 := by
    apply Nat.lt_of_not_le
    intro q
    have := Nat.mul_le_mul q q
    omega
  have b : r < pb_root v + 1 := by
    apply Nat.lt_of_not_le
    intro q
    have := Nat.mul_le_mul q q
    omega
  omega
/-- one of Newton's steps from above -/
theorem pb_newton {S r x : Nat} (h1 : r * r ≤ S) (h2 : S < (r + 1) * (r + 1)) (hx : r < x) : r ≤ (x + S / x) / 2 ∧ 2 * ((x + S / x) / 2 - r) ≤ x - r ∧ (x + S / x) / 2 < x := by
  have a : S / x ≤ r := by
    apply Nat.le_of_lt_succ
    rw [Nat.div_lt_iff_lt_mul (by omega)]
    refine Nat.lt_of_lt_of_le h2 (Nat.mul_le_mul_left _ ?_)
    omega
  have b : 2 * r ≤ x + S / x := by
    -- x * (2 r - x) ≤ r * r ≤ S
    by_cases h : 2 * r ≤ x
    · have := Nat.zero_le (S / x)
      generalize S / x = z at *
      omega
    · have c : 2 * r - x ≤ S / x := by
        rw [Nat.le_div_iff_mul_le (by omega)]
        refine Nat.le_trans ?_ h1
        obtain ⟨e, rfl⟩ : ∃ e, x = r + e := ⟨x - r, by omega⟩
        have hr : e ≤ r := by omega
        obtain ⟨f, rfl⟩ : ∃ f, r = e + f := ⟨r - e, by omega⟩
        rw [show 2 * (e + f) - (e + f + e) = f by omega]
        have : f * (e + f + e) + e * e = (e + f) * (e + f) := by
          simp only [Nat.add_mul, Nat.mul_add, Nat.mul_comm f e]; omega
        omega
      omega
  refine ⟨by omega, by omega, by omega⟩
/-- what a thick paint sends back -/
def pb_q (k s : Nat) : Nat := 10000 * k / s
def pb_thick (k s : Nat) : Nat := 10000 + pb_q k s - pb_root (pb_q k s * pb_q k s + 20000 * pb_q k s)
theorem pb_root_q (q : Nat) : q ≤ pb_root (q * q + 20000 * q) ∧ pb_root (q * q + 20000 * q) ≤ 10000 + q := by
  obtain ⟨h1, h2⟩ := pb_root_ok (q * q + 20000 * q)
  generalize pb_root (q * q + 20000 * q) = r at h1 h2 ⊢
  constructor
  · apply Nat.le_of_lt_succ
    apply Nat.lt_of_not_le
    intro z
    have := Nat.mul_le_mul z z
    simp only [Nat.succ_eq_add_one] at this
    omega
  · apply Nat.le_of_not_lt
    intro z
    have a := Nat.mul_le_mul z z
    simp only [Nat.succ_eq_add_one] at a
    have : (10000 + q + 1) * (10000 + q + 1) = q * q + 20002 * q + 10001 * 10001 := by
      simp only [Nat.add_mul, Nat.mul_add]; omega
    omega
theorem pb_thick_le (k s : Nat) : pb_thick k s ≤ 10000 := by
  unfold pb_thick
  have := pb_root_q (pb_q k s)
  omega
-- thin layers
def pb_ta (k s : Nat) : Nat := 250 * k / (k + s)
def pb_tb (k s : Nat) : Nat := 250 * s / (k + s)
def pb_thin (a b g : Nat) : Nat := b + (10000 - a - b) * (10000 - a - b) * g / (100000000 - b * g)
theorem pb_tab (k s : Nat) : pb_ta k s + pb_tb k s ≤ 250 := by
  unfold pb_ta pb_tb
  by_cases h : k + s = 0
  · rw [h]; simp
  · have h1 := Nat.div_add_mod (250 * k) (k + s)
    have : 250 * k / (k + s) + 250 * s / (k + s) ≤ (250 * k + 250 * s) / (k + s) := by
      rw [Nat.le_div_iff_mul_le (by omega), Nat.add_mul]
      exact Nat.add_le_add (Nat.div_mul_le_self _ _) (Nat.div_mul_le_self _ _)
    refine Nat.le_trans this ?_
    rw [← Nat.mul_add, Nat.mul_div_cancel _ (by omega)]
    exact Nat.le_refl _
theorem pb_thin_le {a b g : Nat} (hab : a + b ≤ 250) (hg : g ≤ 10000) : pb_thin a b g ≤ 10000 := by
  unfold pb_thin
  have hbg : b * g ≤ 250 * 10000 := Nat.mul_le_mul (by omega) hg
  have h1 : (10000 - a - b) * (10000 - a - b) * g / (100000000 - b * g) ≤ 10000 - b := by
    apply Nat.div_le_of_le_mul
    -- (10000 - b)^2 g ≤ (10^8 - b g) (10000 - b)
    have h2 : (10000 - a - b) * (10000 - a - b) ≤ (10000 - b) * (10000 - b) := Nat.mul_le_mul (by omega) (by omega)
    refine Nat.le_trans (Nat.mul_le_mul_right g h2) ?_
    rw [Nat.mul_assoc, Nat.mul_comm (100000000 - b * g)]
    refine Nat.mul_le_mul_left _ ?_
    rw [Nat.sub_mul]
    have : 10000 * g ≤ 100000000 := by omega
    omega
  omega
def pb_lay (a b : Nat) : Nat → Nat → Nat
  | 0, g => g
  | n + 1, g => pb_lay a b n (pb_thin a b g)
theorem pb_lay_succ (a b : Nat) : ∀ n g, pb_lay a b (n + 1) g = pb_thin a b (pb_lay a b n g)
  | 0, g => rfl
  | n + 1, g => by
    show pb_lay a b (n + 1) (pb_thin a b g) = pb_thin a b (pb_lay a b n (pb_thin a b g))
    exact pb_lay_succ a b n (pb_thin a b g)
theorem pb_lay_add (a b : Nat) : ∀ m n g, pb_lay a b (m + n) g = pb_lay a b n (pb_lay a b m g)
  | 0, n, g => by rw [Nat.zero_add]; rfl
  | m + 1, n, g => by
    rw [show m + 1 + n = (m + n) + 1 by omega]
    show pb_lay a b (m + n) (pb_thin a b g) = pb_lay a b n (pb_lay a b m (pb_thin a b g))
    exact pb_lay_add a b m n _
theorem pb_lay_le {a b : Nat} (hab : a + b ≤ 250) : ∀ n g, g ≤ 10000 → pb_lay a b n g ≤ 10000
  | 0, _, hg => hg
  | n + 1, g, hg => pb_lay_le hab n _ (pb_thin_le hab hg)
theorem pb_lay_fix {a b g : Nat} (h : pb_thin a b g = g) : ∀ n, pb_lay a b n g = g
  | 0 => rfl
  | n + 1 => by
    show pb_lay a b n (pb_thin a b g) = g
    rw [h]
    exact pb_lay_fix h n
/-- a thin layer never brings two grounds further apart -/
theorem pb_thin_mono {a b g g' : Nat} (hab : a + b ≤ 250) (hg : g ≤ g') (hg' : g' ≤ 10000) : pb_thin a b g ≤ pb_thin a b g' ∧ pb_thin a b g' - pb_thin a b g ≤ g' - g := by
  unfold pb_thin
  have hbg : b * g' ≤ 2500000 := Nat.mul_le_mul (show b ≤ 250 by omega) hg'
  have hbg0 : b * g ≤ b * g' := Nat.mul_le_mul_left b hg
  generalize hT : 10000 - a - b = t
  have ht : t ≤ 10000 - b := by omega
  have hD : 0 < 100000000 - b * g' := by omega
  have hD0 : 0 < 100000000 - b * g := by omega
  have m1 : t * t * g / (100000000 - b * g) ≤ t * t * g' / (100000000 - b * g') := by
    refine Nat.le_trans (Nat.div_le_div_left (by omega) hD) (Nat.div_le_div_right (Nat.mul_le_mul_left _ hg))
  refine ⟨by omega, ?_⟩
  have key : t * t * g' / (100000000 - b * g') ≤ t * t * g / (100000000 - b * g) + (g' - g) := by
    rw [← Nat.lt_succ_iff, Nat.div_lt_iff_lt_mul hD]
    obtain ⟨e, rfl⟩ : ∃ e, g' = g + e := ⟨g' - g, by omega⟩
    rw [show g + e - g = e by omega]
    generalize hX : t * t * g / (100000000 - b * g) = X
    have hX1 : t * t * g < (X + 1) * (100000000 - b * g) := by
      have := Nat.lt_div_mul_add (a := t * t * g) hD0
      rw [hX] at this
      rw [Nat.add_mul, Nat.one_mul]
      exact this
    have hsplit : b * (g + e) = b * g + b * e := Nat.mul_add _ _ _
    obtain ⟨D0, hD0e⟩ : ∃ D0, D0 = 100000000 - b * g := ⟨_, rfl⟩
    obtain ⟨D1, hD1e⟩ : ∃ D1, D1 = 100000000 - b * (g + e) := ⟨_, rfl⟩
    rw [← hD0e] at hX1 hD0
    rw [← hD1e] at hD ⊢
    have hDD : D0 = D1 + b * e := by omega
    have hM : 100000000 = D0 + b * g := by omega
    -- T 10^8 ≤ D0 D1
    have hT2 : t * t * 100000000 ≤ D0 * D1 := by
      have h3 : t * t ≤ (10000 - b) * (10000 - b) := Nat.mul_le_mul ht ht
      have l0 : 10000 * (10000 - b) ≤ D0 := by
        rw [hD0e, Nat.mul_sub]
        have : b * g ≤ b * 10000 := Nat.mul_le_mul_left b (by omega)
        omega
      have l1 : 10000 * (10000 - b) ≤ D1 := by
        rw [hD1e, Nat.mul_sub]
        have : b * (g + e) ≤ b * 10000 := Nat.mul_le_mul_left b hg'
        omega
      have := Nat.mul_le_mul l0 l1
      refine Nat.le_trans (Nat.mul_le_mul_right _ h3) ?_
      generalize 10000 - b = c at *
      have e5 : c * c * 100000000 = 10000 * c * (10000 * c) := by grind
      omega
    have hid : t * t * (g + e) * D0 = t * t * g * D1 + t * t * 100000000 * e := by
      rw [hM, hDD]
      grind
    have hlt : t * t * (g + e) * D0 < (X + e + 1) * D1 * D0 := by
      rw [hid]
      have u1 : t * t * g * D1 < (X + 1) * D0 * D1 := Nat.mul_lt_mul_of_pos_right hX1 hD
      have u2 : t * t * 100000000 * e ≤ D0 * D1 * e := Nat.mul_le_mul_right e hT2
      have u3 : (X + e + 1) * D1 * D0 = (X + 1) * D0 * D1 + D0 * D1 * e := by grind
      omega
    exact Nat.lt_of_mul_lt_mul_right hlt
  omega

