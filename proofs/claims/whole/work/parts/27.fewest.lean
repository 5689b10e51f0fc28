/-! FEWEST, by the reference -/
def fw_far (A : pb_A) (l : Nat) (P : Nat → Nat) (k : Nat) : Nat := pb_far A l (A 25 (3 * k)) (A 25 (3 * k + 1)) (A 25 (3 * k + 2)) (pb_tl A P)
def fw_bits (A : pb_A) (l d : Nat) (P : Nat → Nat) : Nat → Nat
  | 0 => 0
  | k + 1 => fw_bits A l d P k ||| (if fw_far A l P k ≤ d then 2 ^ k else 0)
def fw_set (P : Nat → Nat) : Nat → Nat
  | 0 => 0
  | t + 1 => fw_set P t ||| (if 0 < P t then 2 ^ t else 0)
def fw_st (A : pb_A) (l d : Nat) (M : Nat → Nat) (P : Nat → Nat) : Nat → Nat := if pb_us (A 1 0) P ≤ 4 then pb_un M (fw_set P (A 1 0)) (M (fw_set P (A 1 0)) ||| fw_bits A l d P (A 24 0)) else M
def fw_M (A : pb_A) (l n d : Nat) : Nat → Nat := (en_l (2 ^ A 1 0 - 1) (A 1 0) 0 n (fun _ => 0)).foldl (fw_st A l d) (fun _ => 0)
def fw_sub (M : Nat → Nat) (j k : Nat) : Prop := ∃ sub, sub &&& j = sub ∧ (M sub).testBit k = true
def fw_full (M : Nat → Nat) (m j : Nat) : Prop := ∀ k, k < m → fw_sub M j k
def fw_pop (T j : Nat) : Nat := pb_sum T (fun t => pb_bit j t)
noncomputable def pb_if {α : Type} (p : Prop) (a b : α) : α := @ite α p (Classical.propDecidable p) a b
theorem pb_if_pos {α : Type} {p : Prop} {a b : α} (h : p) : pb_if p a b = a := if_pos h
theorem pb_if_neg {α : Type} {p : Prop} {a b : α} (h : ¬ p) : pb_if p a b = b := if_neg h
noncomputable def fw_sel (M : Nat → Nat) (m T : Nat) : Nat → Nat × Nat
  | 0 => (0, 13)
  | j + 1 => pb_if (fw_full M m (j + 1) ∧ fw_pop T (j + 1) < (fw_sel M m T j).2) (j + 1, fw_pop T (j + 1)) (fw_sel M m T j)
noncomputable def fw_r (A : pb_A) (l n d : Nat) : Nat := (fw_sel (fw_M A l n d) (A 24 0) (A 1 0) (2 ^ A 1 0 - 1)).1
noncomputable def sp_fewest (A : pb_A) (l n d : Int32) : Int32 × pb_A := if pb_in 0 3 l ∧ pb_in 1 6 n ∧ pb_in 0 30000 d then (if A 24 0 = 0 ∨ A 1 0 = 0 then (-2, A) else (if fw_r A (pb_nat l) (pb_nat n) (pb_nat d) = 0 then -2 else nI (fw_r A (pb_nat l) (pb_nat n) (pb_nat d)), A)) else (-1, A)
theorem tb_p2 {t i : Nat} : (2 ^ t).testBit i = decide (t = i) := Nat.testBit_two_pow
theorem fw_bits_tb {A : pb_A} {l d : Nat} {P : Nat → Nat} {i : Nat} : ∀ {k}, (fw_bits A l d P k).testBit i = true → i < k
  | 0, h => by rw [fw_bits, Nat.zero_testBit] at h; cases h
  | k + 1, h => by
    rw [fw_bits, Nat.testBit_or, Bool.or_eq_true] at h
    rcases h with h | h
    · have := fw_bits_tb h
      omega
    · split at h
      · rw [tb_p2] at h
        have := of_decide_eq_true h
        omega
      · rw [Nat.zero_testBit] at h; cases h
theorem fw_set_tb {P : Nat → Nat} {i : Nat} : ∀ {k}, (fw_set P k).testBit i = true ↔ i < k ∧ 0 < P i
  | 0 => by rw [fw_set, Nat.zero_testBit]; exact ⟨fun h => (by cases h), fun h => (by omega)⟩
  | k + 1 => by
    rw [fw_set, Nat.testBit_or, Bool.or_eq_true, fw_set_tb]
    by_cases c : 0 < P k
    · rw [if_pos c, tb_p2, decide_eq_true_iff]
      constructor
      · rintro (h | h)
        · exact ⟨by omega, h.2⟩
        · exact ⟨by omega, h ▸ c⟩
      · intro h
        by_cases e : k = i
        · exact Or.inr e
        · exact Or.inl ⟨by omega, h.2⟩
    · rw [if_neg c, Nat.zero_testBit]
      constructor
      · rintro (h | h)
        · exact ⟨by omega, h.2⟩
        · cases h
      · intro h
        by_cases e : k = i
        · exact absurd (e ▸ h.2) c
        · exact Or.inl ⟨by omega, h.2⟩
theorem fw_set_lt {P : Nat → Nat} (k : Nat) : fw_set P k < 2 ^ k := by
  apply Nat.lt_pow_two_of_testBit
  intro i hi
  cases h : (fw_set P k).testBit i with
  | false => rfl
  | true =>
    have := (fw_set_tb.mp h).1
    omega
theorem fw_set_congr {P Q : Nat → Nat} : ∀ k, (∀ i, i < k → P i = Q i) → fw_set P k = fw_set Q k
  | 0, _ => rfl
  | k + 1, h => by
    rw [fw_set, fw_set, fw_set_congr k (fun i hi => h i (by omega)), h k (by omega)]
theorem fw_far_congr {A : pb_A} {l k : Nat} {P Q : Nat → Nat} (h : ∀ i, i < A 1 0 → P i = Q i) : fw_far A l P k = fw_far A l Q k := pb_far_congr (fun b _ => pb_tl_congr h b)
/-- bits of M lie below m -/
def fw_ok (m : Nat) (M : Nat → Nat) : Prop := ∀ j i, (M j).testBit i = true → i < m
theorem fw_ok_lt {m : Nat} {M : Nat → Nat} (h : fw_ok m M) (j : Nat) : M j < 2 ^ m := by
  apply Nat.lt_pow_two_of_testBit
  intro i hi
  cases e : (M j).testBit i with
  | false => rfl
  | true =>
    have := h j i e
    omega
theorem fw_ok_st {A : pb_A} {l d : Nat} {M P : Nat → Nat} (h : fw_ok (A 24 0) M) : fw_ok (A 24 0) (fw_st A l d M P) := by
  intro j i hj
  unfold fw_st at hj
  split at hj
  · unfold pb_un at hj
    split at hj
    · rw [Nat.testBit_or, Bool.or_eq_true] at hj
      rcases hj with hj | hj
      · exact h _ _ hj
      · exact fw_bits_tb hj
    · exact h _ _ hj
  · exact h _ _ hj
/-- the set without a tube -/
def fw_rm (j t : Nat) : Nat := j &&& (2 ^ t ^^^ 4294967295)
theorem fw_rm_tb {j t i : Nat} (hj : j < 4096) : (fw_rm j t).testBit i = (j.testBit i && decide (t ≠ i)) := by
  unfold fw_rm
  rw [Nat.testBit_and, Nat.testBit_xor, tb_p2, show 4294967295 = 2 ^ 32 - 1 by decide, Nat.testBit_two_pow_sub_one]
  by_cases h : i < 32
  · by_cases e : t = i
    · simp [h, e]
    · simp [h, e]
  · rw [Nat.testBit_lt_two_pow (Nat.lt_of_lt_of_le hj (show 2 ^ 12 ≤ 2 ^ i from Nat.pow_le_pow_right (by omega) (by omega)))]
    rfl
theorem fw_rm_lt {j t : Nat} (hj : j < 4096) (ht : j.testBit t = true) : fw_rm j t < j := by
  have h1 : fw_rm j t ≤ j := Nat.and_le_left
  have h2 : fw_rm j t ≠ j := fun e => by
    have := fw_rm_tb (t := t) (i := t) hj
    rw [e, ht] at this
    simp at this
  omega
theorem fw_sub_mono {M : Nat → Nat} {j j' k : Nat} (h : j &&& j' = j) (hs : fw_sub M j k) : fw_sub M j' k := by
  obtain ⟨sub, h1, h2⟩ := hs
  exact ⟨sub, by rw [← h1, Nat.and_assoc, h], h2⟩
theorem fw_and_rm {j t : Nat} (hj : j < 4096) : fw_rm j t &&& j = fw_rm j t := by
  unfold fw_rm
  rw [Nat.and_assoc, Nat.and_comm _ j, ← Nat.and_assoc, Nat.and_self]
theorem fw_sub_iff {M : Nat → Nat} {j T k : Nat} (hj : j < 4096) (hT : j < 2 ^ T) : fw_sub M j k ↔ ((M j).testBit k = true ∨ ∃ t, t < T ∧ j.testBit t = true ∧ fw_sub M (fw_rm j t) k) := by
  constructor
  · rintro ⟨sub, h1, h2⟩
    by_cases e : sub = j
    · exact Or.inl (e ▸ h2)
    · right
      have hne : ∃ t, j.testBit t = true ∧ sub.testBit t = false := by
        apply Classical.byContradiction
        intro q
        apply e
        apply Nat.eq_of_testBit_eq
        intro i
        have hi : (sub &&& j).testBit i = sub.testBit i := by rw [h1]
        rw [Nat.testBit_and] at hi
        cases hs : sub.testBit i with
        | true => rw [hs] at hi; simpa using hi.symm
        | false =>
          cases hj2 : j.testBit i with
          | false => rfl
          | true => exact absurd ⟨i, hj2, hs⟩ q
      obtain ⟨t, ht1, ht2⟩ := hne
      refine ⟨t, ?_, ht1, sub, ?_, h2⟩
      · apply Nat.lt_of_not_le
        intro q
        rw [Nat.testBit_lt_two_pow (Nat.lt_of_lt_of_le hT (Nat.pow_le_pow_right (by omega) q))] at ht1
        cases ht1
      · apply Nat.eq_of_testBit_eq
        intro i
        have hi : (sub &&& j).testBit i = sub.testBit i := by rw [h1]
        rw [Nat.testBit_and] at hi
        rw [Nat.testBit_and, fw_rm_tb hj, ← Bool.and_assoc, hi]
        by_cases e2 : t = i
        · rw [← e2, ht2]; rfl
        · simp [e2]
  · rintro (h | ⟨t, -, -, h⟩)
    · exact ⟨j, Nat.and_self j, h⟩
    · exact fw_sub_mono (fw_and_rm hj) h
theorem fw_full_iff {M : Nat → Nat} {m j v : Nat} (hok : fw_ok m M) (hv : ∀ k, v.testBit k = true ↔ fw_sub M j k) : v = 2 ^ m - 1 ↔ fw_full M m j := by
  constructor
  · intro e k hk
    rw [← hv, e, Nat.testBit_two_pow_sub_one]
    exact decide_eq_true hk
  · intro h
    apply Nat.eq_of_testBit_eq
    intro i
    rw [Nat.testBit_two_pow_sub_one]
    by_cases hi : i < m
    · rw [(hv i).mpr (h i hi), decide_eq_true hi]
    · cases e : v.testBit i with
      | false => rw [decide_eq_false hi]
      | true =>
        obtain ⟨sub, -, h2⟩ := (hv i).mp e
        exact absurd (hok _ _ h2) hi
theorem fw_pop_le (j : Nat) : ∀ T, fw_pop T j ≤ T
  | 0 => Nat.le_refl _
  | T + 1 => by
    show fw_pop T j + pb_bit j T ≤ T + 1
    have := fw_pop_le j T
    have := pb_bit_le j T
    omega
theorem fw_sel_le {M : Nat → Nat} {m T : Nat} (hT : T ≤ 12) : ∀ j, (fw_sel M m T j).1 ≤ j ∧ (fw_sel M m T j).2 ≤ 13 ∧ ((fw_sel M m T j).1 = 0 → (fw_sel M m T j).2 = 13)
  | 0 => ⟨Nat.le_refl _, Nat.le_refl _, fun _ => rfl⟩
  | j + 1 => by
    obtain ⟨h1, h2, h3⟩ := fw_sel_le (M := M) (m := m) hT j
    have h4 := fw_pop_le (j + 1) T
    unfold fw_sel
    by_cases c : fw_full M m (j + 1) ∧ fw_pop T (j + 1) < (fw_sel M m T j).2
    · rw [pb_if_pos c]
      exact ⟨Nat.le_refl _, by show fw_pop T (j + 1) ≤ 13; omega, fun q => by cases q⟩
    · rw [pb_if_neg c]
      exact ⟨by omega, h2, h3⟩
section PB27
variable {Z : pb_Z} {h h0 : pb_H} {A : pb_A}
set_option maxRecDepth 10000 in
theorem w_mfewest {l n d z : Nat} {P G M : Nat → Nat} {R : Nat → Nat} {o6 o7 o8 o9 o10 : Option Value} {post : Option Value → pb_H → Prop} (w : pb_WF A) (hR : pb_RF A h0 h) (hl : l < 4) (hn1 : 1 ≤ n) (hn : n ≤ 8) (hd : d ≤ 30000) (p12 : pb_sum 12 P = n) (p0 : ∀ i, A 1 0 ≤ i → P i = 0) (h42 : h 42 = some (.inl (0, 12, fun j => nI (G j)))) (hG : ∀ j, j < 12 → G j = P j) (h51 : h 51 = some (.inl (0, 4096, fun j => nI (R j)))) (hz : z = 2 ^ A 1 0 - 1) (hM : ∀ j, j ≤ z → R j = M j) (tail : ∀ (R' : Nat → Nat) (h2 : pb_H) (o6 o7 : Option Value), pb_RF A h0 h2 → h2 42 = some (.inl (0, 12, fun j => nI (G j))) → h2 51 = some (.inl (0, 4096, fun j => nI (R' j))) → (∀ j, j ≤ z → R' j = fw_st A l d M P j) → pb_S Z mX12_fewest 4 0 0 post 224 [some (.ref 20), some (.int (nI l)), some (.int (nI n)), some (.int (nI d)), some (.int (nI z)), some (.int (nI 1)), o6, o7, o8, o9, o10] [] h2) : pb_S Z mX12_fewest 4 0 0 post 91 [some (.ref 20), some (.int (nI l)), some (.int (nI n)), some (.int (nI d)), some (.int (nI z)), some (.int (nI 1)), o6, o7, o8, o9, o10] [] h := by
  have htt := w.tubes
  have h24 : A 24 0 ≤ 6 := w.rest.2.2.2.2.2.1
  have h25 := w.rest.2.2.2.2.2.2
  have p8 : ∀ j, j < 12 → P j ≤ 8 := fun j hj => by
    have := pb_sum_mem (f := P) hj
    omega
  have q12 : pb_sum 12 G = n := by rw [pb_sum_congr 12 hG]; exact p12
  have q8 : ∀ j, j < 12 → G j ≤ 8 := fun j hj => by rw [hG j hj]; exact p8 j hj
  have q0 : ∀ t, A 1 0 ≤ t → t < 12 → G t = 0 := fun t a b => by rw [hG t b]; exact p0 t a
  have hGP : ∀ i, i < A 1 0 → G i = P i := fun i hi => hG i (by omega)
  have eus : pb_us (A 1 0) G = pb_us (A 1 0) P := pb_us_congr _ hGP
  have husl := pb_us_le P (A 1 0)
  refine pb_iload (pc2 := 93) dX12_fewest_91 rfl rfl ?_
  refine pb_ifF_eq (tgt := 235) (pc2 := 96) dX12_fewest_93 (by decide) rfl (by decide) ?_
  refine pb_aload_n (pc2 := 97) dX12_fewest_96 rfl rfl rfl ?_
  refine pb_callV (pc2 := 100) (k2 := 0) (n2 := 0) mwX12_usedMany pb_cl10.1 iwX12_usedMany seX12_usedMany rfl mlX12_193 dX12_fewest_97 (by first | assumption | exact hR.a rfl | exact hR.o | exact hC.a rfl) (t_musedMany hR htt h42 q8) (by omega) (by omega) (by omega) rfl rfl (Nat.le_of_ble_eq_true rfl) rfl (pb_kE ?_)
  refine pb_top (v2 := .int (nI (pb_us (A 1 0) P))) (by rw [← eus]) ?_
  refine pb_iconst (x := nI 4) (pc2 := 101) dX12_fewest_100 (by decide) rfl ?_
  refine pb_icmpN_gt (tgt := 224) (pc2 := 104) dX12_fewest_101 (by decide) rfl (by omega) (by omega) (fun c4 => ?_) (fun c4 => ?_)
  · refine tail R _ _ _ hR h42 h51 (fun j hj => ?_)
    unfold fw_st
    rw [if_neg (by omega)]
    exact hM j hj
  · refine pb_aload_n (pc2 := 105) dX12_fewest_104 rfl rfl rfl ?_
    refine pb_callV (pc2 := 108) (k2 := 0) (n2 := 0) mwX12_lightOfTrial pb_cl10.1 iwX12_lightOfTrial seX12_lightOfTrial rfl mlX12_197 dX12_fewest_105 (by first | assumption | exact hR.a rfl | exact hR.o | exact hC.a rfl) (t_mlightOfTrial w hR h42 q8 (by omega) (by omega) q0) (by omega) (by omega) (by omega) rfl rfl (Nat.le_of_ble_eq_true rfl) rfl (pb_kL2 (fun h2 L hR h32 hL hne => ?_))
    have h42 : h2 42 = some (.inl (0, 12, fun j => nI (G j))) := by rw [hne 42 (by decide)]; exact h42
    have h51 : h2 51 = some (.inl (0, 4096, fun j => nI (R j))) := by rw [hne 51 (by decide)]; exact h51
    have hset := fw_set_lt (P := P) (A 1 0)
    have hp2 : 2 ^ A 1 0 ≤ 2 ^ 12 := Nat.pow_le_pow_right (by omega) htt
    have hset2 : fw_set P (A 1 0) ≤ z := by omega
    have tones : ∀ (m k : Nat) (R' : Nat → Nat) (h' : pb_H), A 24 0 - k < m → k ≤ A 24 0 → pb_RF A h0 h' → h' 42 = some (.inl (0, 12, fun j => nI (G j))) → h' 32 = some (.inl (0, 8, fun j => nI (L j))) → h' 51 = some (.inl (0, 4096, fun j => nI (R' j))) → (∀ j, j ≤ z → R' j = pb_un M (fw_set P (A 1 0)) (M (fw_set P (A 1 0)) ||| fw_bits A l d P k) j) → pb_S Z mX12_fewest 4 0 0 post 155 [some (.ref 20), some (.int (nI l)), some (.int (nI n)), some (.int (nI d)), some (.int (nI z)), some (.int (nI 1)), some (.int (nI (fw_set P (A 1 0)))), some (.int (nI k)), o8, o9, o10] [] h' := by
      intro m
      induction m with
      | zero => intro k R' h' k1; omega
      | succ m ih =>
        intro k R' h' k1 k2 hR h42 h32 h51 hR'
        refine pb_iload (pc2 := 157) dX12_fewest_155 rfl rfl ?_
        refine pb_aload_n (pc2 := 158) dX12_fewest_157 rfl rfl rfl ?_
        refine pb_getf (pc2 := 161) flX12_223_X12 rfl dX12_fewest_158 (by first | assumption | exact hR.a rfl | exact hR.o | exact hC.a rfl) rfl rfl ?_
        refine pb_icmpN_ge (tgt := 224) (pc2 := 164) dX12_fewest_161 (by decide) rfl (by omega) (by omega) (fun q => ?_) (fun q => ?_)
        · have e : k = A 24 0 := by omega
          subst e
          refine tail R' _ _ _ hR h42 h51 (fun j hj => ?_)
          unfold fw_st
          rw [if_pos c4]
          exact hR' j hj
        · have t0 := h25 (3 * k) (by omega)
          have t1 := h25 (3 * k + 1) (by omega)
          have t2 := h25 (3 * k + 2) (by omega)
          have hfl : fw_far A l P k ≤ 30000 := pb_far_le t0 t1 t2 (fun b _ => pb_thick_le _ _)
          refine pb_aload_n (pc2 := 165) dX12_fewest_164 rfl rfl rfl ?_
          refine pb_aload_n (pc2 := 166) dX12_fewest_165 rfl rfl rfl ?_
          refine pb_getf (pc2 := 169) flX12_86_X12 rfl dX12_fewest_166 (by first | assumption | exact hR.a rfl | exact hR.o | exact hC.a rfl) rfl rfl ?_
          refine pb_iconst (x := nI 3) (pc2 := 170) dX12_fewest_169 (by decide) rfl ?_
          refine pb_iload (pc2 := 172) dX12_fewest_170 rfl rfl ?_
          refine pb_imulN (pc2 := 173) dX12_fewest_172 rfl ?_
          refine pb_iald (pc2 := 174) (by first | assumption | exact hR.a rfl | exact hR.o | exact hC.a rfl) ⟨by decide, rfl⟩ dX12_fewest_173 (by omega) (by omega) rfl ?_
          refine pb_aload_n (pc2 := 175) dX12_fewest_174 rfl rfl rfl ?_
          refine pb_getf (pc2 := 178) flX12_86_X12 rfl dX12_fewest_175 (by first | assumption | exact hR.a rfl | exact hR.o | exact hC.a rfl) rfl rfl ?_
          refine pb_iconst (x := nI 3) (pc2 := 179) dX12_fewest_178 (by decide) rfl ?_
          refine pb_iload (pc2 := 181) dX12_fewest_179 rfl rfl ?_
          refine pb_imulN (pc2 := 182) dX12_fewest_181 rfl ?_
          refine pb_iconst (x := nI 1) (pc2 := 183) dX12_fewest_182 (by decide) rfl ?_
          refine pb_iaddN (pc2 := 184) dX12_fewest_183 rfl ?_
          refine pb_iald (pc2 := 185) (by first | assumption | exact hR.a rfl | exact hR.o | exact hC.a rfl) ⟨by decide, rfl⟩ dX12_fewest_184 (by omega) (by omega) rfl ?_
          refine pb_aload_n (pc2 := 186) dX12_fewest_185 rfl rfl rfl ?_
          refine pb_getf (pc2 := 189) flX12_86_X12 rfl dX12_fewest_186 (by first | assumption | exact hR.a rfl | exact hR.o | exact hC.a rfl) rfl rfl ?_
          refine pb_iconst (x := nI 3) (pc2 := 190) dX12_fewest_189 (by decide) rfl ?_
          refine pb_iload (pc2 := 192) dX12_fewest_190 rfl rfl ?_
          refine pb_imulN (pc2 := 193) dX12_fewest_192 rfl ?_
          refine pb_iconst (x := nI 2) (pc2 := 194) dX12_fewest_193 (by decide) rfl ?_
          refine pb_iaddN (pc2 := 195) dX12_fewest_194 rfl ?_
          refine pb_iald (pc2 := 196) (by first | assumption | exact hR.a rfl | exact hR.o | exact hC.a rfl) ⟨by decide, rfl⟩ dX12_fewest_195 (by omega) (by omega) rfl ?_
          refine pb_iload_n (pc2 := 197) dX12_fewest_196 rfl rfl rfl ?_
          refine pb_callV (pc2 := 200) (k2 := 0) (n2 := 0) mwX12_apartFrom pb_cl10.1 iwX12_apartFrom seX12_apartFrom rfl mlX12_183 dX12_fewest_197 (by first | assumption | exact hR.a rfl | exact hR.o | exact hC.a rfl) (t_mapartFrom w hR hl t0 t1 t2 (fun b hb => by rw [hL b hb]; exact pb_thick_le _ _) h32) (by omega) (by omega) (by omega) rfl rfl (Nat.le_of_ble_eq_true rfl) rfl (pb_kE ?_)
          refine pb_top (v2 := .int (nI (fw_far A l P k))) (by rw [pb_far_congr hL, ← fw_far_congr hGP]; rfl) ?_
          refine pb_iload_n (pc2 := 201) dX12_fewest_200 rfl rfl rfl ?_
          refine pb_icmpN_gt (tgt := 218) (pc2 := 204) dX12_fewest_201 (by decide) rfl (by omega) (by omega) (fun c2 => ?_) (fun c2 => ?_)
          · refine pb_iincP (c0 := 1) (lv2 := [_, _, _, _, _, _, _, _, _, _, _]) (pc2 := 221) dX12_fewest_218 rfl (by decide) rfl rfl ?_
            refine pb_goto (tgt := 155) dX12_fewest_221 (by decide) ?_
            refine ih (k + 1) R' h' (by omega) (by omega) hR h42 h32 h51 (fun j hj => ?_)
            rw [hR' j hj, fw_bits, if_neg (by omega), Nat.or_zero]
          · refine pb_aload_n (pc2 := 205) dX12_fewest_204 rfl rfl rfl ?_
            refine pb_getf (pc2 := 208) flX12_89_X12 rfl dX12_fewest_205 (by first | assumption | exact hR.a rfl | exact hR.o | exact hC.a rfl) rfl rfl ?_
            refine pb_iload (pc2 := 210) dX12_fewest_208 rfl rfl ?_
            refine pb_dup2 (pc2 := 211) dX12_fewest_210 rfl rfl rfl ?_
            refine pb_iald (pc2 := 212) (by first | assumption | exact hR.a rfl | exact hR.o | exact hC.a rfl) ⟨by decide, rfl⟩ dX12_fewest_211 (by omega) (by omega) rfl ?_
            refine pb_iconst (x := nI 1) (pc2 := 213) dX12_fewest_212 (by decide) rfl ?_
            refine pb_iload (pc2 := 215) dX12_fewest_213 rfl rfl ?_
            refine pb_ishl1 (pc2 := 216) dX12_fewest_215 (by omega) rfl ?_
            refine pb_iorN (pc2 := 217) dX12_fewest_216 rfl ?_
            refine pb_iastC (pc2 := 218) hR rfl h51 dX12_fewest_217 (by omega) rfl (fun h4 hR h51 hne => ?_)
            refine pb_iincP (c0 := 1) (lv2 := [_, _, _, _, _, _, _, _, _, _, _]) (pc2 := 221) dX12_fewest_218 rfl (by decide) rfl rfl ?_
            refine pb_goto (tgt := 155) dX12_fewest_221 (by decide) ?_
            refine ih (k + 1) _ h4 (by omega) (by omega) hR (by rw [hne 42 (by decide)]; exact h42) (by rw [hne 32 (by decide)]; exact h32) h51 (fun j hj => ?_)
            by_cases e : j = fw_set P (A 1 0)
            · rw [e, pb_un_self, pb_un_self, hR' _ hset2, pb_un_self, fw_bits, if_pos c2, Nat.or_assoc]
            · rw [pb_un_ne _ _ e, pb_un_ne _ _ e, hR' j hj, pb_un_ne _ _ e]
    have sets : ∀ (m t : Nat), A 1 0 - t < m → t ≤ A 1 0 → pb_S Z mX12_fewest 4 0 0 post 114 [some (.ref 20), some (.int (nI l)), some (.int (nI n)), some (.int (nI d)), some (.int (nI z)), some (.int (nI 1)), some (.int (nI (fw_set P t))), some (.int (nI t)), o8, o9, o10] [] h2 := by
      intro m
      induction m with
      | zero => intro t k1; omega
      | succ m ih =>
        intro t k1 k2
        refine pb_iload (pc2 := 116) dX12_fewest_114 rfl rfl ?_
        refine pb_aload_n (pc2 := 117) dX12_fewest_116 rfl rfl rfl ?_
        refine pb_getf (pc2 := 120) flX12_92_X12 rfl dX12_fewest_117 (by first | assumption | exact hR.a rfl | exact hR.o | exact hC.a rfl) rfl rfl ?_
        refine pb_icmpN_ge (tgt := 152) (pc2 := 123) dX12_fewest_120 (by decide) rfl (by omega) (by omega) (fun q => ?_) (fun q => ?_)
        · have e : t = A 1 0 := by omega
          subst e
          refine pb_iconst (x := nI 0) (pc2 := 153) dX12_fewest_152 (by decide) rfl ?_
          refine pb_istore (lv2 := [_, _, _, _, _, _, _, _, _, _, _]) (pc2 := 155) dX12_fewest_153 (by decide) rfl rfl ?_
          refine tones (A 24 0 + 1) 0 R _ (by omega) (by omega) hR h42 h32 h51 (fun j hj => ?_)
          rw [hM j hj, fw_bits, Nat.or_zero]
          by_cases e : j = fw_set P (A 1 0)
          · rw [e, pb_un_self]
          · rw [pb_un_ne _ _ e]
        · have h8 := q8 t (by omega)
          have eGP := hGP t q
          refine pb_iload (pc2 := 125) dX12_fewest_123 rfl rfl ?_
          refine pb_aload_n (pc2 := 126) dX12_fewest_125 rfl rfl rfl ?_
          refine pb_getf (pc2 := 129) flX12_71_X12 rfl dX12_fewest_126 (by first | assumption | exact hR.a rfl | exact hR.o | exact hC.a rfl) rfl rfl ?_
          refine pb_iload (pc2 := 131) dX12_fewest_129 rfl rfl ?_
          refine pb_iald (pc2 := 132) (by first | assumption | exact hR.a rfl | exact hR.o | exact hC.a rfl) ⟨by decide, rfl⟩ dX12_fewest_131 (by omega) (by omega) rfl ?_
          refine pb_ifN_le (tgt := 142) (pc2 := 135) dX12_fewest_132 (by decide) rfl (by omega) (fun c => ?_) (fun c => ?_)
          · refine pb_iconst (x := nI 0) (pc2 := 143) dX12_fewest_142 (by decide) rfl ?_
            refine pb_iorN (pc2 := 144) dX12_fewest_143 rfl ?_
            refine pb_top (v2 := .int (nI (fw_set P (t + 1)))) (by rw [fw_set, if_neg (by omega)]) ?_
            refine pb_istore (lv2 := [_, _, _, _, _, _, _, _, _, _, _]) (pc2 := 146) dX12_fewest_144 (by decide) rfl rfl ?_
            refine pb_iincP (c0 := 1) (lv2 := [_, _, _, _, _, _, _, _, _, _, _]) (pc2 := 149) dX12_fewest_146 rfl (by decide) rfl rfl ?_
            refine pb_goto (tgt := 114) dX12_fewest_149 (by decide) ?_
            exact ih (t + 1) (by omega) (by omega)
          · refine pb_iconst (x := nI 1) (pc2 := 136) dX12_fewest_135 (by decide) rfl ?_
            refine pb_iload (pc2 := 138) dX12_fewest_136 rfl rfl ?_
            refine pb_ishl1 (pc2 := 139) dX12_fewest_138 (by omega) rfl ?_
            refine pb_goto (tgt := 143) dX12_fewest_139 (by decide) ?_
            refine pb_iorN (pc2 := 144) dX12_fewest_143 rfl ?_
            refine pb_top (v2 := .int (nI (fw_set P (t + 1)))) (by rw [fw_set, if_pos (by omega)]) ?_
            refine pb_istore (lv2 := [_, _, _, _, _, _, _, _, _, _, _]) (pc2 := 146) dX12_fewest_144 (by decide) rfl rfl ?_
            refine pb_iincP (c0 := 1) (lv2 := [_, _, _, _, _, _, _, _, _, _, _]) (pc2 := 149) dX12_fewest_146 rfl (by decide) rfl rfl ?_
            refine pb_goto (tgt := 114) dX12_fewest_149 (by decide) ?_
            exact ih (t + 1) (by omega) (by omega)
    refine pb_iconst (x := nI 0) (pc2 := 109) dX12_fewest_108 (by decide) rfl ?_
    refine pb_istore (lv2 := [_, _, _, _, _, _, _, _, _, _, _]) (pc2 := 111) dX12_fewest_109 (by decide) rfl rfl ?_
    refine pb_iconst (x := nI 0) (pc2 := 112) dX12_fewest_111 (by decide) rfl ?_
    refine pb_istore (lv2 := [_, _, _, _, _, _, _, _, _, _, _]) (pc2 := 114) dX12_fewest_112 (by decide) rfl rfl ?_
    exact sets (A 1 0 + 1) 0 (by omega) (by omega)
theorem pb_2p {t : Nat} (h : t ≤ 12) : 2 ^ t ≤ 4096 ∧ 1 ≤ 2 ^ t := ⟨Nat.pow_le_pow_right (n := 2) (by omega) h, Nat.one_le_two_pow⟩
set_option maxRecDepth 10000 in
theorem w_mclose {l n d z m T : Nat} {M R : Nat → Nat} {o6 o7 o8 o9 o10 : Option Value} {v5 : Int32} {r : Int32} (w : pb_WF A) (hR : pb_RF A h0 h) (hm : A 24 0 = m) (hT : A 1 0 = T) (hz : z = 2 ^ T - 1) (hok : fw_ok m M) (h51 : h 51 = some (.inl (0, 4096, fun j => nI (R j)))) (hM : ∀ j, j ≤ z → R j = M j) (hr : r = if (fw_sel M m T z).1 = 0 then -2 else nI (fw_sel M m T z).1) : pb_S Z mX12_fewest 4 0 0 (pb_PR (r, A) h0) 235 [some (.ref 20), some (.int (nI l)), some (.int (nI n)), some (.int (nI d)), some (.int (nI z)), some (.int v5), o6, o7, o8, o9, o10] [] h := by
  have htt := w.tubes
  have h24 : A 24 0 ≤ 6 := w.rest.2.2.2.2.2.1
  obtain ⟨hp1, hp2⟩ := pb_2p (t := T) (by omega)
  obtain ⟨hm1, hm2⟩ := pb_2p (t := m) (by omega)
  have hv31 : ∀ v i, (∀ k, v.testBit k = true ↔ fw_sub M i k) → v < 2 ^ m := fun v i hv => by
    apply Nat.lt_pow_two_of_testBit
    intro k hk
    cases e : v.testBit k with
    | false => rfl
    | true =>
      obtain ⟨sub, -, h2⟩ := (hv k).mp e
      have := hok _ _ h2
      omega
  have outer : ∀ (q j : Nat) (R : Nat → Nat) (h' : pb_H) (o9 o10 : Option Value), z - j < q → j ≤ z → pb_RF A h0 h' → h' 51 = some (.inl (0, 4096, fun i => nI (R i))) → (∀ i, i ≤ j → ∀ k, (R i).testBit k = true ↔ fw_sub M i k) → (∀ i, j < i → i ≤ z → R i = M i) → pb_S Z mX12_fewest 4 0 0 (pb_PR (r, A) h0) 244 [some (.ref 20), some (.int (nI l)), some (.int (nI n)), some (.int (nI d)), some (.int (nI z)), some (.int v5), some (.int (if (fw_sel M m T j).1 = 0 then -1 else nI (fw_sel M m T j).1)), some (.int (nI (if (fw_sel M m T j).1 = 0 then 0 else (fw_sel M m T j).2))), some (.int (nI (j + 1))), o9, o10] [] h' := by
    intro q
    induction q with
    | zero => intro j R h' o9 o10 g1; omega
    | succ q ih =>
      intro j R h' o9 o10 g1 g2 hR h51 hcl hraw
      obtain ⟨s1, s2, s3⟩ := fw_sel_le (M := M) (m := m) (T := T) (by omega) j
      refine pb_iload (pc2 := 246) dX12_fewest_244 rfl rfl ?_
      refine pb_iload (pc2 := 248) dX12_fewest_246 rfl rfl ?_
      refine pb_icmpN_gt (tgt := 359) (pc2 := 251) dX12_fewest_248 (by decide) rfl (by omega) (by omega) (fun c => ?_) (fun c => ?_)
      · have e : j = z := by omega
        subst e
        refine pb_iload (pc2 := 361) dX12_fewest_359 rfl rfl ?_
        by_cases e0 : (fw_sel M m T j).1 = 0
        · rw [if_pos e0] at hr ⊢
          refine pb_ifF_ge (tgt := 369) (pc2 := 364) dX12_fewest_361 (by decide) rfl (by decide) ?_
          refine pb_bipush (x := -2) (pc2 := 366) dX12_fewest_364 (by decide) rfl ?_
          refine pb_goto (tgt := 371) dX12_fewest_366 (by decide) ?_
          exact pb_ireturn dX12_fewest_371 rfl (pb_fin (by rw [hr]) hR)
        · rw [if_neg e0] at hr ⊢
          refine pb_ifT_ge (tgt := 369) dX12_fewest_361 (by decide) (nI_pos' (by omega)) ?_
          refine pb_iload (pc2 := 371) dX12_fewest_369 rfl rfl ?_
          exact pb_ireturn dX12_fewest_371 rfl (pb_fin (by rw [hr]) hR)
      · have hj1 : j + 1 ≤ z := by omega
        have inner : ∀ (q2 t : Nat) (R : Nat → Nat) (h' : pb_H), T - t < q2 → t ≤ T → pb_RF A h0 h' → h' 51 = some (.inl (0, 4096, fun i => nI (R i))) → (∀ i, i ≤ j → ∀ k, (R i).testBit k = true ↔ fw_sub M i k) → (∀ i, j + 1 < i → i ≤ z → R i = M i) → (∀ k, (R (j + 1)).testBit k = true ↔ ((M (j + 1)).testBit k = true ∨ ∃ t', t' < t ∧ (j + 1).testBit t' = true ∧ fw_sub M (fw_rm (j + 1) t') k)) → pb_S Z mX12_fewest 4 0 0 (pb_PR (r, A) h0) 257 [some (.ref 20), some (.int (nI l)), some (.int (nI n)), some (.int (nI d)), some (.int (nI z)), some (.int v5), some (.int (if (fw_sel M m T j).1 = 0 then -1 else nI (fw_sel M m T j).1)), some (.int (nI (if (fw_sel M m T j).1 = 0 then 0 else (fw_sel M m T j).2))), some (.int (nI (j + 1))), some (.int (nI (fw_pop t (j + 1)))), some (.int (nI t))] [] h' := by
          intro q2
          induction q2 with
          | zero => intro t R h' g1; omega
          | succ q2 ih2 =>
            intro t R h' g1 g2 hR h51 hcl hraw hme
            refine pb_iload (pc2 := 259) dX12_fewest_257 rfl rfl ?_
            refine pb_aload_n (pc2 := 260) dX12_fewest_259 rfl rfl rfl ?_
            refine pb_getf (pc2 := 263) flX12_92_X12 rfl dX12_fewest_260 (by first | assumption | exact hR.a rfl | exact hR.o | exact hC.a rfl) rfl rfl ?_
            refine pb_icmpN_ge (tgt := 312) (pc2 := 266) dX12_fewest_263 (by decide) rfl (by omega) (by omega) (fun c2 => ?_) (fun c2 => ?_)
            · have e : t = T := by omega
              subst e
              have hme2 : ∀ k, (R (j + 1)).testBit k = true ↔ fw_sub M (j + 1) k := fun k => (hme k).trans (fw_sub_iff (by omega) (by omega)).symm
              have hvl := hv31 _ _ hme2
              have hiff := fw_full_iff hok hme2
              have hpl := fw_pop_le (j + 1) t
              have hcl2 : ∀ i, i ≤ j + 1 → ∀ k, (R i).testBit k = true ↔ fw_sub M i k := fun i hi => by
                by_cases e : i = j + 1
                · rw [e]; exact hme2
                · exact hcl i (by omega)
              have same : ¬ (fw_full M m (j + 1) ∧ fw_pop t (j + 1) < (fw_sel M m t j).2) → fw_sel M m t (j + 1) = fw_sel M m t j := fun z => pb_if_neg z
              have newb : (fw_full M m (j + 1) ∧ fw_pop t (j + 1) < (fw_sel M m t j).2) → fw_sel M m t (j + 1) = (j + 1, fw_pop t (j + 1)) := fun z => pb_if_pos z
              have nxt : ∀ (o9 o10 : Option Value), pb_S Z mX12_fewest 4 0 0 (pb_PR (r, A) h0) 353 [some (.ref 20), some (.int (nI l)), some (.int (nI n)), some (.int (nI d)), some (.int (nI z)), some (.int v5), some (.int (if (fw_sel M m t (j + 1)).1 = 0 then -1 else nI (fw_sel M m t (j + 1)).1)), some (.int (nI (if (fw_sel M m t (j + 1)).1 = 0 then 0 else (fw_sel M m t (j + 1)).2))), some (.int (nI (j + 1))), o9, o10] [] h' := by
                intro o9 o10
                refine pb_iincP (c0 := 1) (lv2 := [_, _, _, _, _, _, _, _, _, _, _]) (pc2 := 356) dX12_fewest_353 rfl (by decide) rfl rfl ?_
                refine pb_goto (tgt := 244) dX12_fewest_356 (by decide) ?_
                exact ih (j + 1) R h' _ _ (by omega) (by omega) hR h51 hcl2 hraw
              have nxt1 : (fw_full M m (j + 1) ∧ fw_pop t (j + 1) < (fw_sel M m t j).2) → pb_S Z mX12_fewest 4 0 0 (pb_PR (r, A) h0) 345 [some (.ref 20), some (.int (nI l)), some (.int (nI n)), some (.int (nI d)), some (.int (nI z)), some (.int v5), some (.int (if (fw_sel M m t j).1 = 0 then -1 else nI (fw_sel M m t j).1)), some (.int (nI (if (fw_sel M m t j).1 = 0 then 0 else (fw_sel M m t j).2))), some (.int (nI (j + 1))), some (.int (nI (fw_pop t (j + 1)))), some (.int (nI t))] [] h' := by
                intro hy
                refine pb_iload (pc2 := 347) dX12_fewest_345 rfl rfl ?_
                refine pb_istore (lv2 := [_, _, _, _, _, _, _, _, _, _, _]) (pc2 := 349) dX12_fewest_347 (by decide) rfl rfl ?_
                refine pb_iload (pc2 := 351) dX12_fewest_349 rfl rfl ?_
                refine pb_istore (lv2 := [_, _, _, _, _, _, _, _, _, _, _]) (pc2 := 353) dX12_fewest_351 (by decide) rfl rfl ?_
                have := nxt (some (.int (nI (fw_pop t (j + 1))))) (some (.int (nI t)))
                rw [newb hy] at this
                exact this
              refine pb_aload_n (pc2 := 313) dX12_fewest_312 rfl rfl rfl ?_
              refine pb_getf (pc2 := 316) flX12_89_X12 rfl dX12_fewest_313 (by first | assumption | exact hR.a rfl | exact hR.o | exact hC.a rfl) rfl rfl ?_
              refine pb_iload (pc2 := 318) dX12_fewest_316 rfl rfl ?_
              refine pb_iald (pc2 := 319) (by first | assumption | exact hR.a rfl | exact hR.o | exact hC.a rfl) ⟨by decide, rfl⟩ dX12_fewest_318 (by omega) (by omega) rfl ?_
              refine pb_iconst (x := nI 1) (pc2 := 320) dX12_fewest_319 (by decide) rfl ?_
              refine pb_aload_n (pc2 := 321) dX12_fewest_320 rfl rfl rfl ?_
              refine pb_getf (pc2 := 324) flX12_223_X12 rfl dX12_fewest_321 (by first | assumption | exact hR.a rfl | exact hR.o | exact hC.a rfl) rfl rfl ?_
              refine pb_ishl1 (pc2 := 325) dX12_fewest_324 (by omega) rfl ?_
              refine pb_iconst (x := nI 1) (pc2 := 326) dX12_fewest_325 (by decide) rfl ?_
              refine pb_isubN (pc2 := 327) dX12_fewest_326 (by rw [hm]; omega) rfl ?_
              refine pb_icmpN_ne (tgt := 353) (pc2 := 330) dX12_fewest_327 (by decide) rfl (by omega) (by rw [hm]; omega) (fun c3 => ?_) (fun c3 => ?_)
              · rw [hm, hiff] at c3
                have := nxt (some (.int (nI (fw_pop t (j + 1))))) (some (.int (nI t)))
                rw [same (fun z => c3 z.1)] at this
                exact this
              · rw [hm, hiff] at c3
                refine pb_iload (pc2 := 332) dX12_fewest_330 rfl rfl ?_
                by_cases e0 : (fw_sel M m t j).1 = 0
                · have h13 := s3 e0
                  have := nxt1 ⟨c3, by omega⟩
                  rw [if_pos e0, if_pos e0] at this ⊢
                  refine pb_ifT_lt (tgt := 345) dX12_fewest_332 (by decide) (by decide) ?_
                  exact this
                · have n1 := fun hy => nxt1 ⟨c3, hy⟩
                  have n2 := nxt (some (.int (nI (fw_pop t (j + 1))))) (some (.int (nI t)))
                  rw [if_neg e0, if_neg e0] at n1 ⊢
                  refine pb_ifF_lt (tgt := 345) (pc2 := 335) dX12_fewest_332 (Int32.not_lt.mpr (nI_pos' (by omega))) rfl (by decide) ?_
                  refine pb_iload (pc2 := 337) dX12_fewest_335 rfl rfl ?_
                  refine pb_iload (pc2 := 339) dX12_fewest_337 rfl rfl ?_
                  refine pb_icmpN_lt (tgt := 345) (pc2 := 342) dX12_fewest_339 (by decide) rfl (by omega) (by omega) (fun c4 => ?_) (fun c4 => ?_)
                  · exact n1 c4
                  · refine pb_goto (tgt := 353) dX12_fewest_342 (by decide) ?_
                    rw [same (fun z => by have := z.2; omega), if_neg e0, if_neg e0] at n2
                    exact n2
            · have hbl := pb_bit_le (j + 1) t
              refine pb_iload (pc2 := 268) dX12_fewest_266 rfl rfl ?_
              refine pb_iload (pc2 := 270) dX12_fewest_268 rfl rfl ?_
              refine pb_ishrN (pc2 := 271) dX12_fewest_270 (by omega) (by omega) rfl ?_
              refine pb_iconst (x := nI 1) (pc2 := 272) dX12_fewest_271 (by decide) rfl ?_
              refine pb_iandB (pc2 := 273) dX12_fewest_272 rfl ?_
              refine pb_ifN_ne (tgt := 279) (pc2 := 276) dX12_fewest_273 (by decide) rfl (by omega) (fun c3 => ?_) (fun c3 => ?_)
              · have hb1 : (j + 1).testBit t = true := pb_bit_1.mp (by omega)
                have hrm := fw_rm_lt (t := t) (show j + 1 < 4096 by omega) hb1
                have epop : fw_pop (t + 1) (j + 1) = fw_pop t (j + 1) + 1 := by
                  show fw_pop t (j + 1) + pb_bit (j + 1) t = _
                  omega
                refine pb_iincP (c0 := 1) (lv2 := [_, _, _, _, _, _, _, _, _, _, _]) (pc2 := 282) dX12_fewest_279 rfl (by decide) rfl rfl ?_
                refine pb_aload_n (pc2 := 283) dX12_fewest_282 rfl rfl rfl ?_
                refine pb_getf (pc2 := 286) flX12_89_X12 rfl dX12_fewest_283 (by first | assumption | exact hR.a rfl | exact hR.o | exact hC.a rfl) rfl rfl ?_
                refine pb_iload (pc2 := 288) dX12_fewest_286 rfl rfl ?_
                refine pb_dup2 (pc2 := 289) dX12_fewest_288 rfl rfl rfl ?_
                refine pb_iald (pc2 := 290) (by first | assumption | exact hR.a rfl | exact hR.o | exact hC.a rfl) ⟨by decide, rfl⟩ dX12_fewest_289 (by omega) (by omega) rfl ?_
                refine pb_aload_n (pc2 := 291) dX12_fewest_290 rfl rfl rfl ?_
                refine pb_getf (pc2 := 294) flX12_89_X12 rfl dX12_fewest_291 (by first | assumption | exact hR.a rfl | exact hR.o | exact hC.a rfl) rfl rfl ?_
                refine pb_iload (pc2 := 296) dX12_fewest_294 rfl rfl ?_
                refine pb_iconst (x := nI 1) (pc2 := 297) dX12_fewest_296 (by decide) rfl ?_
                refine pb_iload (pc2 := 299) dX12_fewest_297 rfl rfl ?_
                refine pb_ishl1 (pc2 := 300) dX12_fewest_299 (by omega) rfl ?_
                refine pb_iconst (x := nI 4294967295) (pc2 := 301) dX12_fewest_300 (by decide) rfl ?_
                refine pb_ixorN (pc2 := 302) dX12_fewest_301 rfl ?_
                refine pb_iandN (pc2 := 303) dX12_fewest_302 rfl ?_
                refine pb_top (v2 := .int (nI (fw_rm (j + 1) t))) rfl ?_
                refine pb_iald (pc2 := 304) (by first | assumption | exact hR.a rfl | exact hR.o | exact hC.a rfl) ⟨by decide, rfl⟩ dX12_fewest_303 (by omega) (by omega) rfl ?_
                refine pb_iorN (pc2 := 305) dX12_fewest_304 rfl ?_
                refine pb_iastC (pc2 := 306) hR rfl h51 dX12_fewest_305 (by omega) rfl (fun h4 hR h51 hne => ?_)
                refine pb_iincP (c0 := 1) (lv2 := [_, _, _, _, _, _, _, _, _, _, _]) (pc2 := 309) dX12_fewest_306 rfl (by decide) rfl rfl ?_
                refine pb_goto (tgt := 257) dX12_fewest_309 (by decide) ?_
                have := ih2 (t + 1) _ h4 (by omega) (by omega) hR h51 (fun i hi => by rw [pb_un_ne _ _ (by omega)]; exact hcl i hi) (fun i h1 h2 => by rw [pb_un_ne _ _ (by omega)]; exact hraw i h1 h2) (fun k => ?_)
                · rw [epop] at this
                  exact this
                · rw [pb_un_self, Nat.testBit_or, Bool.or_eq_true, hme k, hcl (fw_rm (j + 1) t) (by omega) k]
                  constructor
                  · rintro ((h1 | ⟨t', h1, h2, h3⟩) | h1)
                    · exact Or.inl h1
                    · exact Or.inr ⟨t', by omega, h2, h3⟩
                    · exact Or.inr ⟨t, by omega, hb1, h1⟩
                  · rintro (h1 | ⟨t', h1, h2, h3⟩)
                    · exact Or.inl (Or.inl h1)
                    · by_cases e : t' = t
                      · exact Or.inr (e ▸ h3)
                      · exact Or.inl (Or.inr ⟨t', by omega, h2, h3⟩)
              · have hb0 : (j + 1).testBit t = false := pb_bit_0.mp c3
                have epop : fw_pop (t + 1) (j + 1) = fw_pop t (j + 1) := by
                  show fw_pop t (j + 1) + pb_bit (j + 1) t = _
                  omega
                refine pb_goto (tgt := 306) dX12_fewest_276 (by decide) ?_
                refine pb_iincP (c0 := 1) (lv2 := [_, _, _, _, _, _, _, _, _, _, _]) (pc2 := 309) dX12_fewest_306 rfl (by decide) rfl rfl ?_
                refine pb_goto (tgt := 257) dX12_fewest_309 (by decide) ?_
                have := ih2 (t + 1) R h' (by omega) (by omega) hR h51 hcl hraw (fun k => ?_)
                · rw [epop] at this
                  exact this
                · rw [hme k]
                  constructor
                  · rintro (h1 | ⟨t', h1, h2, h3⟩)
                    · exact Or.inl h1
                    · exact Or.inr ⟨t', by omega, h2, h3⟩
                  · rintro (h1 | ⟨t', h1, h2, h3⟩)
                    · exact Or.inl h1
                    · by_cases e : t' = t
                      · rw [e, hb0] at h2; cases h2
                      · exact Or.inr ⟨t', by omega, h2, h3⟩
        refine pb_iconst (x := nI 0) (pc2 := 252) dX12_fewest_251 (by decide) rfl ?_
        refine pb_istore (lv2 := [_, _, _, _, _, _, _, _, _, _, _]) (pc2 := 254) dX12_fewest_252 (by decide) rfl rfl ?_
        refine pb_iconst (x := nI 0) (pc2 := 255) dX12_fewest_254 (by decide) rfl ?_
        refine pb_istore (lv2 := [_, _, _, _, _, _, _, _, _, _, _]) (pc2 := 257) dX12_fewest_255 (by decide) rfl rfl ?_
        refine inner (T + 1) 0 R h' (by omega) (by omega) hR h51 hcl (fun i h1 h2 => hraw i (by omega) h2) (fun k => ?_)
        rw [hraw (j + 1) (by omega) (by omega)]
        exact ⟨fun h1 => Or.inl h1, fun h1 => by
          rcases h1 with h1 | ⟨t', h1, -⟩
          · exact h1
          · omega⟩
  refine pb_iconst (x := -1) (pc2 := 236) dX12_fewest_235 (by decide) rfl ?_
  refine pb_istore (lv2 := [_, _, _, _, _, _, _, _, _, _, _]) (pc2 := 238) dX12_fewest_236 (by decide) rfl rfl ?_
  refine pb_iconst (x := nI 0) (pc2 := 239) dX12_fewest_238 (by decide) rfl ?_
  refine pb_istore (lv2 := [_, _, _, _, _, _, _, _, _, _, _]) (pc2 := 241) dX12_fewest_239 (by decide) rfl rfl ?_
  refine pb_iconst (x := nI 1) (pc2 := 242) dX12_fewest_241 (by decide) rfl ?_
  refine pb_istore (lv2 := [_, _, _, _, _, _, _, _, _, _, _]) (pc2 := 244) dX12_fewest_242 (by decide) rfl rfl ?_
  refine outer (z + 1) 0 R h _ _ (by omega) (by omega) hR h51 (fun i hi k => ?_) (fun i _ h2 => hM i h2)
  have e : i = 0 := by omega
  subst e
  rw [hM 0 (by omega)]
  constructor
  · intro h1
    exact ⟨0, rfl, h1⟩
  · rintro ⟨sub, h1, h2⟩
    rw [Nat.and_zero] at h1
    rw [h1]
    exact h2
set_option maxRecDepth 10000 in
theorem r_fewest (w : pb_WF A) (hR : pb_RF A h h) (l n d : Int32) : pb_T Z mX12_fewest 4 0 0 [.ref 20, .int l, .int n, .int d] h (pb_PR (sp_fewest A l n d) h) := by
  have htt := w.tubes
  have h24 : A 24 0 ≤ 6 := w.rest.2.2.2.2.2.1
  refine pb_T.of pnX12_fewest (Nat.le_of_ble_eq_true rfl) (lv := [some (.ref 20), some (.int l), some (.int n), some (.int d), none, none, none, none, none, none, none]) rfl ?_
  refine pb_iload_n (pc2 := 1) dX12_fewest_0 rfl rfl rfl ?_
  refine pb_callS (pc2 := 4) (k2 := 0) (n2 := 0) mwX12_isLamp swX12_isLamp rfl mlX12_114 dX12_fewest_1 (t_misLamp l) (by omega) (by omega) (by omega) rfl rfl (Nat.le_of_ble_eq_true rfl) rfl (pb_kB ?_ ?_)
  rotate_left
  · intro q1
    refine pb_ifT_eq (tgt := 28) dX12_fewest_4 (by decide) rfl ?_
    refine pb_iconst (x := -1) (pc2 := 29) dX12_fewest_28 (by decide) rfl ?_
    exact pb_ireturn dX12_fewest_29 rfl (pb_fin (if_neg (fun z => q1 z.1)) hR)
  intro q1
  refine pb_ifF_eq (tgt := 28) (pc2 := 7) dX12_fewest_4 (by decide) rfl (by decide) ?_
  refine pb_iload_n (pc2 := 8) dX12_fewest_7 rfl rfl rfl ?_
  refine pb_iconst (x := nI 1) (pc2 := 9) dX12_fewest_8 (by decide) rfl ?_
  refine pb_bipush (x := nI 6) (pc2 := 11) dX12_fewest_9 (by decide) rfl ?_
  refine pb_callS (pc2 := 14) (k2 := 0) (n2 := 0) mwX12_in swX12_in rfl mlX12_95 dX12_fewest_11 (t_in n (nI 1) (nI 6)) (by omega) (by omega) (by omega) rfl rfl (Nat.le_of_ble_eq_true rfl) rfl (pb_kB ?_ ?_)
  rotate_left
  · intro q2
    refine pb_ifT_eq (tgt := 28) dX12_fewest_14 (by decide) rfl ?_
    refine pb_iconst (x := -1) (pc2 := 29) dX12_fewest_28 (by decide) rfl ?_
    exact pb_ireturn dX12_fewest_29 rfl (pb_fin (if_neg (fun z => q2 z.2.1)) hR)
  intro q2
  refine pb_ifF_eq (tgt := 28) (pc2 := 17) dX12_fewest_14 (by decide) rfl (by decide) ?_
  refine pb_iload_n (pc2 := 18) dX12_fewest_17 rfl rfl rfl ?_
  refine pb_iconst (x := nI 0) (pc2 := 19) dX12_fewest_18 (by decide) rfl ?_
  refine pb_sipush (x := nI 30000) (pc2 := 22) dX12_fewest_19 (by decide) rfl ?_
  refine pb_callS (pc2 := 25) (k2 := 0) (n2 := 0) mwX12_in swX12_in rfl mlX12_95 dX12_fewest_22 (t_in d (nI 0) (nI 30000)) (by omega) (by omega) (by omega) rfl rfl (Nat.le_of_ble_eq_true rfl) rfl (pb_kB ?_ ?_)
  rotate_left
  · intro q3
    refine pb_ifF_ne (tgt := 30) (pc2 := 28) dX12_fewest_25 rfl rfl (by decide) ?_
    refine pb_iconst (x := -1) (pc2 := 29) dX12_fewest_28 (by decide) rfl ?_
    exact pb_ireturn dX12_fewest_29 rfl (pb_fin (if_neg (fun z => q3 z.2.2)) hR)
  intro q3
  refine pb_ifT_ne (tgt := 30) dX12_fewest_25 (by decide) (by decide) ?_
  have e0 : sp_fewest A l n d = _ := if_pos ⟨q1, q2, q3⟩
  rw [e0]
  obtain ⟨l, -, hl, rfl⟩ := nI_rng (by omega) q1 (by omega)
  obtain ⟨n, hn1, hn, rfl⟩ := nI_rng (by omega) q2 (by omega)
  obtain ⟨d, -, hd, rfl⟩ := nI_rng (by omega) q3 (by omega)
  rw [pb_natN (by omega), pb_natN (by omega), pb_natN (by omega)]
  refine pb_aload_n (pc2 := 31) dX12_fewest_30 rfl rfl rfl ?_
  refine pb_getf (pc2 := 34) flX12_223_X12 rfl dX12_fewest_31 (by first | assumption | exact hR.a rfl | exact hR.o | exact hC.a rfl) rfl rfl ?_
  refine pb_ifN_eq (tgt := 44) (pc2 := 37) dX12_fewest_34 (by decide) rfl (by omega) (fun c1 => ?_) (fun c1 => ?_)
  · refine pb_bipush (x := -2) (pc2 := 46) dX12_fewest_44 (by decide) rfl ?_
    exact pb_ireturn dX12_fewest_46 rfl (pb_fin (by rw [if_pos (Or.inl c1)]) hR)
  · refine pb_aload_n (pc2 := 38) dX12_fewest_37 rfl rfl rfl ?_
    refine pb_getf (pc2 := 41) flX12_92_X12 rfl dX12_fewest_38 (by first | assumption | exact hR.a rfl | exact hR.o | exact hC.a rfl) rfl rfl ?_
    refine pb_ifN_ne (tgt := 47) (pc2 := 44) dX12_fewest_41 (by decide) rfl (by omega) (fun c2 => ?_) (fun c2 => ?_)
    · rw [if_neg (by omega)]
      obtain ⟨hp1, hp2⟩ := pb_2p htt
      have hp3 : 2 ≤ 2 ^ A 1 0 := by
        have := Nat.pow_le_pow_right (n := 2) (by omega) (show 1 ≤ A 1 0 by omega)
        omega
      have hzb : ∀ i, i < A 1 0 → (2 ^ A 1 0 - 1).testBit i = true := fun i hi => by rw [Nat.testBit_two_pow_sub_one]; exact decide_eq_true hi
      have hzb2 : ∀ i, A 1 0 - 1 < i → (2 ^ A 1 0 - 1).testBit i = false := fun i hi => by rw [Nat.testBit_two_pow_sub_one]; exact decide_eq_false (by omega)
      obtain ⟨f, -, hf, hf1, hfm, k1, k2, k3⟩ := (en_ch (hzb (A 1 0 - 1) (by omega)) (show A 1 0 - 1 < A 1 0 by omega) (fun i a _ => hzb2 i a) (A 1 0) 0 n (fun _ => 0) (by omega) (by omega) (fun _ _ => rfl)).1 (Nat.zero_le _)
      have k4 := en_ok (s := 2 ^ A 1 0 - 1) (A 1 0) 0 n (A 1 0) (fun _ => 0) (by omega) (fun _ _ => rfl)
      have hzero : pb_sum (A 1 0) (fun _ => 0) = 0 := by rw [pb_sum_const]; rfl
      have k5 : ∀ Q ∈ en_l (2 ^ A 1 0 - 1) (A 1 0) 0 n (fun _ => 0), pb_sum 12 Q = n ∧ ∀ i, A 1 0 ≤ i → Q i = 0 := fun Q hQ => by
        obtain ⟨p1, p2, -, -⟩ := k4 Q hQ
        rw [hzero, Nat.zero_add] at p1
        exact ⟨by rw [pb_sum_ext htt (fun i a _ => p2 i a)]; exact p1, p2⟩
      have fin : ∃ σ, fw_M A l n d = σ := ⟨_, rfl⟩
      obtain ⟨ME, hME⟩ := fin
      have er : fw_r A l n d = (fw_sel ME (A 24 0) (A 1 0) (2 ^ A 1 0 - 1)).1 := by rw [← hME]; rfl
      rw [er]
      obtain ⟨z, hz⟩ : ∃ z, z = 2 ^ A 1 0 - 1 := ⟨_, rfl⟩
      rw [← hz] at hzb hzb2 hf1 hfm k1 k2 k3 k4 k5 ⊢
      have hs2 : z < 4096 := by omega
      have loop : ∀ (L : List (Nat → Nat)) (P G M R : Nat → Nat) (h' : pb_H) (o6 o7 : Option Value), pb_ch (pb_nx z (A 1 0 - 1)) (P :: L) → (P :: L).getLast? = some (pb_un (fun _ => 0) (A 1 0 - 1) n) → (∀ Q ∈ P :: L, pb_sum 12 Q = n ∧ ∀ i, A 1 0 ≤ i → Q i = 0) → pb_RF A h h' → h' 42 = some (.inl (0, 12, fun j => nI (G j))) → (∀ j, j < 12 → G j = P j) → h' 51 = some (.inl (0, 4096, fun j => nI (R j))) → (∀ j, j ≤ z → R j = M j) → fw_ok (A 24 0) M → (P :: L).foldl (fw_st A l d) M = ME → pb_S Z mX12_fewest 4 0 0 (pb_PR (if (fw_sel ME (A 24 0) (A 1 0) z).1 = 0 then -2 else nI (fw_sel ME (A 24 0) (A 1 0) z).1, A) h) 91 [some (.ref 20), some (.int (nI l)), some (.int (nI n)), some (.int (nI d)), some (.int (nI z)), some (.int (nI 1)), o6, o7, none, none, none] [] h' := by
        intro L
        induction L with
        | nil =>
          intro P G M R h' o6 o7 g1 g2 g3 hR h42 hG h51 hM hok hfold
          obtain ⟨p12, p0⟩ := g3 P List.mem_cons_self
          refine w_mfewest w hR (by omega) hn1 (by omega) hd p12 p0 h42 hG h51 hz hM (fun R' h2 o6 o7 hR h42 h51 hM => ?_)
          have hP : P = pb_un (fun _ => 0) (A 1 0 - 1) n := Option.some.inj g2
          have hok2 : fw_ok (A 24 0) (fw_st A l d M P) := fw_ok_st hok
          have hσ : fw_st A l d M P = ME := by rw [← hfold]; rfl
          rw [hσ] at hok2 hM
          refine pb_aload_n (pc2 := 225) dX12_fewest_224 rfl rfl rfl ?_
          refine pb_iload (pc2 := 227) dX12_fewest_225 rfl rfl ?_
          refine pb_callV (pc2 := 230) (k2 := 0) (n2 := 0) mwX12_next pb_cl10.1 iwX12_next seX12_next rfl mlX12_206 dX12_fewest_227 (by first | assumption | exact hR.a rfl | exact hR.o | exact hC.a rfl) (t_mnext0 (P := P) hR htt h42 hG hs2 (show A 1 0 - 1 < A 1 0 by omega) (hzb _ (by omega)) (fun i a _ => hzb2 i a) (fun i hi => by rw [hP, pb_un_ne _ _ (by omega)])) (by omega) (by omega) (by omega) rfl rfl (Nat.le_of_ble_eq_true rfl) rfl (pb_kN (fun h3 G3 hR _ _ hne => ?_))
          have h51 : h3 51 = some (.inl (0, 4096, fun j => nI (R' j))) := by rw [hne 51 (by decide)]; exact h51
          refine pb_istore (lv2 := [_, _, _, _, _, _, _, _, _, _, _]) (pc2 := 232) dX12_fewest_230 (by decide) rfl rfl ?_
          refine pb_goto (tgt := 91) dX12_fewest_232 (by decide) ?_
          refine pb_iload (pc2 := 93) dX12_fewest_91 rfl rfl ?_
          refine pb_ifT_eq (tgt := 235) dX12_fewest_93 (by decide) (rfl) ?_
          exact w_mclose w hR rfl rfl hz hok2 h51 hM rfl
        | cons Q L ih =>
          intro P G M R h' o6 o7 g1 g2 g3 hR h42 hG h51 hM hok hfold
          obtain ⟨p12, p0⟩ := g3 P List.mem_cons_self
          refine w_mfewest w hR (by omega) hn1 (by omega) hd p12 p0 h42 hG h51 hz hM (fun R' h2 o6 o7 hR h42 h51 hM => ?_)
          have p8 : ∀ j, j < 12 → P j ≤ 8 := fun j hj => by
            have := pb_sum_mem (f := P) hj
            omega
          refine pb_aload_n (pc2 := 225) dX12_fewest_224 rfl rfl rfl ?_
          refine pb_iload (pc2 := 227) dX12_fewest_225 rfl rfl ?_
          refine pb_callV (pc2 := 230) (k2 := 0) (n2 := 0) mwX12_next pb_cl10.1 iwX12_next seX12_next rfl mlX12_206 dX12_fewest_227 (by first | assumption | exact hR.a rfl | exact hR.o | exact hC.a rfl) (t_mnext1 (Q := Q) hR htt h42 hG hs2 (show A 1 0 - 1 < A 1 0 by omega) (hzb _ (by omega)) (fun i a _ => hzb2 i a) p8 (g1.1 Q rfl)) (by omega) (by omega) (by omega) rfl rfl (Nat.le_of_ble_eq_true rfl) rfl (pb_kN (fun h3 G3 hR h42 hG hne => ?_))
          have h51 : h3 51 = some (.inl (0, 4096, fun j => nI (R' j))) := by rw [hne 51 (by decide)]; exact h51
          refine pb_istore (lv2 := [_, _, _, _, _, _, _, _, _, _, _]) (pc2 := 232) dX12_fewest_230 (by decide) rfl rfl ?_
          refine pb_goto (tgt := 91) dX12_fewest_232 (by decide) ?_
          exact ih Q G3 (fw_st A l d M P) R' h3 _ _ g1.2 (by rw [List.getLast?_cons_cons] at g2; exact g2) (fun R hR => g3 R (List.mem_cons_of_mem _ hR)) hR h42 hG h51 hM (fw_ok_st hok) hfold
      have clear : ∀ (m i : Nat) (R : Nat → Nat) (h' : pb_H), z + 1 - i < m → i ≤ z + 1 → pb_RF A h h' → h' 51 = some (.inl (0, 4096, fun j => nI (R j))) → (∀ j, j < i → R j = 0) → pb_S Z mX12_fewest 4 0 0 (pb_PR (if (fw_sel ME (A 24 0) (A 1 0) z).1 = 0 then -2 else nI (fw_sel ME (A 24 0) (A 1 0) z).1, A) h) 60 [some (.ref 20), some (.int (nI l)), some (.int (nI n)), some (.int (nI d)), some (.int (nI z)), some (.int (nI i)), none, none, none, none, none] [] h' := by
        intro m
        induction m with
        | zero => intro i R h' g1; omega
        | succ m ih =>
          intro i R h' g1 g2 hR h51 hi
          refine pb_iload (pc2 := 62) dX12_fewest_60 rfl rfl ?_
          refine pb_iload (pc2 := 64) dX12_fewest_62 rfl rfl ?_
          refine pb_icmpN_gt (tgt := 81) (pc2 := 67) dX12_fewest_64 (by decide) rfl (by omega) (by omega) (fun q => ?_) (fun q => ?_)
          · have e : i = z + 1 := by omega
            subst e
            cases hL : en_l z (A 1 0) 0 n (fun _ => 0) with
            | nil => rw [hL] at k1; cases k1
            | cons P L =>
              rw [hL] at k1 k2 k3 k5
              have hP : P = pb_un (fun _ => 0) f n := Option.some.inj k1
              refine pb_aload_n (pc2 := 82) dX12_fewest_81 rfl rfl rfl ?_
              refine pb_iload (pc2 := 84) dX12_fewest_82 rfl rfl ?_
              refine pb_iload_n (pc2 := 85) dX12_fewest_84 rfl rfl rfl ?_
              refine pb_callV (pc2 := 88) (k2 := 0) (n2 := 0) mwX12_begin pb_cl10.1 iwX12_begin seX12_begin rfl mlX12_190 dX12_fewest_85 (by first | assumption | exact hR.a rfl | exact hR.o | exact hC.a rfl) (t_mbegin hR hs2 (show n ≤ 8 by omega) (show f < 12 by omega) hf1 (fun i hi => hfm i (by omega) hi)) (by omega) (by omega) (by omega) rfl rfl (Nat.le_of_ble_eq_true rfl) rfl (pb_kNn (fun h2 G hR h42 hG hne => ?_))
              refine pb_iconst (x := nI 1) (pc2 := 89) dX12_fewest_88 (by decide) rfl ?_
              refine pb_istore (lv2 := [_, _, _, _, _, _, _, _, _, _, _]) (pc2 := 91) dX12_fewest_89 (by decide) rfl rfl ?_
              refine loop L P G (fun _ => 0) R h2 none none k3 k2 k5 hR h42 (fun j hj => by rw [hP]; exact hG j hj) (by rw [hne 51 (by decide)]; exact h51) (fun j hj => hi j (by omega)) (fun j i q => by rw [Nat.zero_testBit] at q; cases q) ?_
              rw [← hL, ← hME, hz]
              rfl
          · refine pb_aload_n (pc2 := 68) dX12_fewest_67 rfl rfl rfl ?_
            refine pb_getf (pc2 := 71) flX12_89_X12 rfl dX12_fewest_68 (by first | assumption | exact hR.a rfl | exact hR.o | exact hC.a rfl) rfl rfl ?_
            refine pb_iload (pc2 := 73) dX12_fewest_71 rfl rfl ?_
            refine pb_iconst (x := nI 0) (pc2 := 74) dX12_fewest_73 (by decide) rfl ?_
            refine pb_iastC (pc2 := 75) hR rfl h51 dX12_fewest_74 (by omega) rfl (fun h4 hR h51 hne => ?_)
            refine pb_iincP (c0 := 1) (lv2 := [_, _, _, _, _, _, _, _, _, _, _]) (pc2 := 78) dX12_fewest_75 rfl (by decide) rfl rfl ?_
            refine pb_goto (tgt := 60) dX12_fewest_78 (by decide) ?_
            refine ih (i + 1) _ h4 (by omega) (by omega) hR h51 (fun j hj => ?_)
            by_cases e : j = i
            · rw [e, pb_un_self]
            · rw [pb_un_ne _ _ e]; exact hi j (by omega)
      obtain ⟨R, h51⟩ := hR.2.2.1 51 4096 rfl
      refine pb_iconst (x := nI 1) (pc2 := 48) dX12_fewest_47 (by decide) rfl ?_
      refine pb_aload_n (pc2 := 49) dX12_fewest_48 rfl rfl rfl ?_
      refine pb_getf (pc2 := 52) flX12_92_X12 rfl dX12_fewest_49 (by first | assumption | exact hR.a rfl | exact hR.o | exact hC.a rfl) rfl rfl ?_
      refine pb_ishl1 (pc2 := 53) dX12_fewest_52 (by omega) rfl ?_
      refine pb_iconst (x := nI 1) (pc2 := 54) dX12_fewest_53 (by decide) rfl ?_
      refine pb_isubN (pc2 := 55) dX12_fewest_54 (by omega) rfl ?_
      refine pb_istore (lv2 := [_, _, _, _, _, _, _, _, _, _, _]) (pc2 := 57) dX12_fewest_55 (by decide) rfl rfl ?_
      refine pb_iconst (x := nI 0) (pc2 := 58) dX12_fewest_57 (by decide) rfl ?_
      refine pb_istore (lv2 := [_, _, _, _, _, _, _, _, _, _, _]) (pc2 := 60) dX12_fewest_58 (by decide) rfl rfl ?_
      rw [← hz]
      exact clear (z + 2) 0 R h (by omega) (by omega) hR h51 (fun j hj => by omega)
    · refine pb_bipush (x := -2) (pc2 := 46) dX12_fewest_44 (by decide) rfl ?_
      exact pb_ireturn dX12_fewest_46 rfl (pb_fin (by rw [if_pos (Or.inr c2)]) hR)
end PB27

