/-! THE REFERENCE's TRIALS -/
abbrev pb_isS (A : pb_A) (x : Int32) : Prop := nI 0 < x ∧ x < nI (2 ^ A 1 0)
def pb_us (n : Nat) (P : Nat → Nat) : Nat := pb_sum n (fun t => if 0 < P t then 1 else 0)
def pb_cost (A : pb_A) (P : Nat → Nat) : Nat := pb_sum (A 1 0) (fun t => P t * A 2 t)
def pb_pf (A : pb_A) (l : Nat) (P : Nat → Nat) : Nat := pb_far A l (A 17 0) (A 17 1) (A 17 2) (pb_tl A P)
theorem pb_us_le (P : Nat → Nat) : ∀ n, pb_us n P ≤ n
  | 0 => Nat.le_refl _
  | n + 1 => by
    show pb_us n P + (if 0 < P n then 1 else 0) ≤ n + 1
    have := pb_us_le P n
    split <;> omega
theorem pb_us_congr {P Q : Nat → Nat} (n : Nat) (h : ∀ i, i < n → P i = Q i) : pb_us n P = pb_us n Q := pb_sum_congr n (fun i hi => by rw [h i hi])
theorem pb_cost_congr {A : pb_A} {P Q : Nat → Nat} (h : ∀ i, i < A 1 0 → P i = Q i) : pb_cost A P = pb_cost A Q := pb_sum_congr _ (fun i hi => by rw [h i hi])
theorem pb_tl_congr {A : pb_A} {P Q : Nat → Nat} (h : ∀ i, i < A 1 0 → P i = Q i) (b : Nat) : pb_tl A P b = pb_tl A Q b := by
  unfold pb_tl pb_dk pb_sc
  rw [pb_sum_congr (A 1 0) (f := fun t => P t * pb_fade (A 3 t) (A 7 (8 * t + b)) 0) (g := fun t => Q t * pb_fade (A 3 t) (A 7 (8 * t + b)) 0) (fun i hi => by rw [h i hi]), pb_sum_congr (A 1 0) (f := fun t => P t * A 8 (8 * t + b)) (g := fun t => Q t * A 8 (8 * t + b)) (fun i hi => by rw [h i hi])]
theorem pb_sum_ext {P : Nat → Nat} {T : Nat} : ∀ {N}, T ≤ N → (∀ i, T ≤ i → i < N → P i = 0) → pb_sum N P = pb_sum T P := by
  intro N
  induction N with
  | zero => intro h2 _; rw [show T = 0 by omega]
  | succ n ih =>
    intro h2 h3
    by_cases e : T = n + 1
    · rw [e]
    · show pb_sum n P + P n = _
      rw [ih (by omega) (fun i a b => h3 i a (by omega)), h3 n (by omega) (by omega)]
      rfl
theorem pb_isS_of {A : pb_A} (w : pb_WF A) {x : Int32} (h : pb_isS A x) : ∃ s, 0 < s ∧ s < 2 ^ A 1 0 ∧ s < 4096 ∧ x = nI s := by
  have ht := w.tubes
  obtain ⟨h1, h2⟩ := h
  have hp : 2 ^ A 1 0 ≤ 2 ^ 12 := Nat.pow_le_pow_right (by omega) ht
  obtain ⟨j, hj, rfl⟩ := nI_of (x := x) (Int32.not_lt.mpr (Int32.le_of_lt h1))
  have g1 := (nI_ltI (by omega) hj).mp h1
  have g2 := (nI_ltI hj (by omega)).mp h2
  exact ⟨j, g1, g2, by omega, rfl⟩
theorem pb_lastbit {s : Nat} : ∀ {T : Nat}, 0 < s → s < 2 ^ T → ∃ l, l < T ∧ s.testBit l = true ∧ ∀ i, l < i → s.testBit i = false := by
  intro T
  induction T with
  | zero => intro h1 h2; omega
  | succ T ih =>
    intro h1 h2
    by_cases hb : s.testBit T = true
    · exact ⟨T, by omega, hb, fun i hi => Nat.testBit_lt_two_pow (Nat.lt_of_lt_of_le h2 (Nat.pow_le_pow_right (by omega) hi))⟩
    · have h3 : s < 2 ^ T := by
        apply Nat.lt_pow_two_of_testBit
        intro i hi
        by_cases e : i = T
        · rw [e]; simpa using hb
        · exact Nat.testBit_lt_two_pow (Nat.lt_of_lt_of_le h2 (Nat.pow_le_pow_right (by omega) (by omega)))
      obtain ⟨l, g1, g2, g3⟩ := ih h1 h3
      exact ⟨l, by omega, g2, g3⟩
theorem pb_m1 (x : Int32) : x + Int32.ofInt (-1) = x - nI 1 := by
  rw [Int32.sub_eq_add_neg]
  rfl
def pb_row (h : pb_H) (a n : Nat) (P : Nat → Nat) : Prop := ∃ G : Nat → Nat, h a = some (.inl (0, n, fun j => nI (G j))) ∧ ∀ j, j < n → G j = P j
section PB24
variable {Z : pb_Z} {h h0 : pb_H} {A : pb_A}
theorem t_misSet (w : pb_WF A) (hR : pb_RF A h0 h) (x : Int32) : pb_T Z mX12_isSet 0 0 0 [.ref 20, .int x] h (pb_B (pb_isS A x) h) := by
  have ht := w.tubes
  refine pb_T.of pnX12_isSet (Nat.le_of_ble_eq_true rfl) (lv := [some (.ref 20), some (.int x)]) rfl ?_
  refine pb_iload_n (pc2 := 1) dX12_isSet_0 rfl rfl rfl ?_
  refine pb_if_le (tgt := 18) (pc2 := 4) dX12_isSet_1 (by decide) rfl (fun q => ?_) (fun q => ?_)
  · refine pb_iconst (x := 0) (pc2 := 19) dX12_isSet_18 (by decide) rfl ?_
    exact pb_zreturn dX12_isSet_19 rfl (by first | exact Or.inl rfl | exact Or.inr rfl | assumption) (⟨Or.inr ⟨rfl, fun z => Int32.not_lt.mpr q z.1⟩, rfl⟩)
  · refine pb_iload_n (pc2 := 5) dX12_isSet_4 rfl rfl rfl ?_
    refine pb_iconst (x := nI 1) (pc2 := 6) dX12_isSet_5 (by decide) rfl ?_
    refine pb_aload_n (pc2 := 7) dX12_isSet_6 rfl rfl rfl ?_
    refine pb_getf (pc2 := 10) flX12_92_X12 rfl dX12_isSet_7 (by first | assumption | exact hR.a rfl | exact hR.o | exact hC.a rfl) rfl rfl ?_
    refine pb_ishl1 (pc2 := 11) dX12_isSet_10 (by omega) rfl ?_
    refine pb_icmp_ge (tgt := 18) (pc2 := 14) dX12_isSet_11 (by decide) rfl (fun q2 => ?_) (fun q2 => ?_)
    · refine pb_iconst (x := 0) (pc2 := 19) dX12_isSet_18 (by decide) rfl ?_
      exact pb_zreturn dX12_isSet_19 rfl (by first | exact Or.inl rfl | exact Or.inr rfl | assumption) (⟨Or.inr ⟨rfl, fun z => Int32.not_lt.mpr q2 z.2⟩, rfl⟩)
    · refine pb_iconst (x := 1) (pc2 := 15) dX12_isSet_14 (by decide) rfl ?_
      refine pb_goto (tgt := 19) dX12_isSet_15 (by decide) ?_
      exact pb_zreturn dX12_isSet_19 rfl (by first | exact Or.inl rfl | exact Or.inr rfl | assumption) (⟨Or.inl ⟨rfl, Int32.not_le.mp q, Int32.not_le.mp q2⟩, rfl⟩)
set_option maxRecDepth 10000 in
theorem t_musedMany {P : Nat → Nat} (hR : pb_RF A h0 h) (ht : A 1 0 ≤ 12) (h42 : h 42 = some (.inl (0, 12, fun j => nI (P j)))) (hP : ∀ j, j < 12 → P j ≤ 8) : pb_T Z mX12_usedMany 0 0 0 [.ref 20] h (pb_E (some (.int (nI (pb_us (A 1 0) P)))) h) := by
  refine pb_T.of pnX12_usedMany (Nat.le_of_ble_eq_true rfl) (lv := [some (.ref 20), none, none]) rfl ?_
  have loop : ∀ (m i : Nat), A 1 0 - i < m → i ≤ A 1 0 → pb_S Z mX12_usedMany 0 0 0 (pb_E (some (.int (nI (pb_us (A 1 0) P)))) h) 4 [some (.ref 20), some (.int (nI (pb_us i P))), some (.int (nI i))] [] h := by
    intro m
    induction m with
    | zero => intro i h1; omega
    | succ m ih =>
      intro i h1 h2
      refine pb_iload_n (pc2 := 5) dX12_usedMany_4 rfl rfl rfl ?_
      refine pb_aload_n (pc2 := 6) dX12_usedMany_5 rfl rfl rfl ?_
      refine pb_getf (pc2 := 9) flX12_92_X12 rfl dX12_usedMany_6 (by first | assumption | exact hR.a rfl | exact hR.o | exact hC.a rfl) rfl rfl ?_
      refine pb_icmpN_ge (tgt := 35) (pc2 := 12) dX12_usedMany_9 (by decide) rfl (by omega) (by omega) (fun q => ?_) (fun q => ?_)
      · have e : i = A 1 0 := by omega
        subst e
        refine pb_iload_n (pc2 := 36) dX12_usedMany_35 rfl rfl rfl ?_
        exact pb_ireturn dX12_usedMany_36 rfl (⟨rfl, rfl⟩)
      · have h8 := hP i (by omega)
        refine pb_iload_n (pc2 := 13) dX12_usedMany_12 rfl rfl rfl ?_
        refine pb_aload_n (pc2 := 14) dX12_usedMany_13 rfl rfl rfl ?_
        refine pb_getf (pc2 := 17) flX12_71_X12 rfl dX12_usedMany_14 (by first | assumption | exact hR.a rfl | exact hR.o | exact hC.a rfl) rfl rfl ?_
        refine pb_iload_n (pc2 := 18) dX12_usedMany_17 rfl rfl rfl ?_
        refine pb_iald (pc2 := 19) (by first | assumption | exact hR.a rfl | exact hR.o | exact hC.a rfl) ⟨by decide, rfl⟩ dX12_usedMany_18 (by omega) (by omega) rfl ?_
        refine pb_ifN_le (tgt := 26) (pc2 := 22) dX12_usedMany_19 (by decide) rfl (by omega) (fun c => ?_) (fun c => ?_)
        · refine pb_iconst (x := nI 0) (pc2 := 27) dX12_usedMany_26 (by decide) rfl ?_
          refine pb_iaddN (pc2 := 28) dX12_usedMany_27 rfl ?_
          refine pb_top (v2 := .int (nI (pb_us (i + 1) P))) (by show _ = Value.int (nI (pb_us i P + if 0 < P i then 1 else 0)); rw [if_neg (by omega)]) ?_
          refine pb_istore_n (lv2 := [_, _, _]) (pc2 := 29) dX12_usedMany_28 rfl (by decide) rfl rfl ?_
          refine pb_iincP (c0 := 1) (lv2 := [_, _, _]) (pc2 := 32) dX12_usedMany_29 rfl (by decide) rfl rfl ?_
          refine pb_goto (tgt := 4) dX12_usedMany_32 (by decide) ?_
          exact ih (i + 1) (by omega) (by omega)
        · refine pb_iconst (x := nI 1) (pc2 := 23) dX12_usedMany_22 (by decide) rfl ?_
          refine pb_goto (tgt := 27) dX12_usedMany_23 (by decide) ?_
          refine pb_iaddN (pc2 := 28) dX12_usedMany_27 rfl ?_
          refine pb_top (v2 := .int (nI (pb_us (i + 1) P))) (by show _ = Value.int (nI (pb_us i P + if 0 < P i then 1 else 0)); rw [if_pos (by omega)]) ?_
          refine pb_istore_n (lv2 := [_, _, _]) (pc2 := 29) dX12_usedMany_28 rfl (by decide) rfl rfl ?_
          refine pb_iincP (c0 := 1) (lv2 := [_, _, _]) (pc2 := 32) dX12_usedMany_29 rfl (by decide) rfl rfl ?_
          refine pb_goto (tgt := 4) dX12_usedMany_32 (by decide) ?_
          exact ih (i + 1) (by omega) (by omega)
  refine pb_iconst (x := nI 0) (pc2 := 1) dX12_usedMany_0 (by decide) rfl ?_
  refine pb_istore_n (lv2 := [_, _, _]) (pc2 := 2) dX12_usedMany_1 rfl (by decide) rfl rfl ?_
  refine pb_iconst (x := nI 0) (pc2 := 3) dX12_usedMany_2 (by decide) rfl ?_
  refine pb_istore_n (lv2 := [_, _, _]) (pc2 := 4) dX12_usedMany_3 rfl (by decide) rfl rfl ?_
  exact loop (A 1 0 + 1) 0 (by omega) (by omega)
set_option maxRecDepth 10000 in
theorem t_mcostOfTrial {P : Nat → Nat} (hR : pb_RF A h0 h) (ht : A 1 0 ≤ 12) (h42 : h 42 = some (.inl (0, 12, fun j => nI (P j)))) : pb_T Z mX12_costOfTrial 0 0 0 [.ref 20] h (pb_E (some (.int (nI (pb_cost A P)))) h) := by
  refine pb_T.of pnX12_costOfTrial (Nat.le_of_ble_eq_true rfl) (lv := [some (.ref 20), none, none]) rfl ?_
  have loop : ∀ (m i : Nat), A 1 0 - i < m → i ≤ A 1 0 → pb_S Z mX12_costOfTrial 0 0 0 (pb_E (some (.int (nI (pb_cost A P)))) h) 4 [some (.ref 20), some (.int (nI (pb_sum i (fun t => P t * A 2 t)))), some (.int (nI i))] [] h := by
    intro m
    induction m with
    | zero => intro i h1; omega
    | succ m ih =>
      intro i h1 h2
      refine pb_iload_n (pc2 := 5) dX12_costOfTrial_4 rfl rfl rfl ?_
      refine pb_aload_n (pc2 := 6) dX12_costOfTrial_5 rfl rfl rfl ?_
      refine pb_getf (pc2 := 9) flX12_92_X12 rfl dX12_costOfTrial_6 (by first | assumption | exact hR.a rfl | exact hR.o | exact hC.a rfl) rfl rfl ?_
      refine pb_icmpN_ge (tgt := 34) (pc2 := 12) dX12_costOfTrial_9 (by decide) rfl (by omega) (by omega) (fun q => ?_) (fun q => ?_)
      · have e : i = A 1 0 := by omega
        subst e
        refine pb_iload_n (pc2 := 35) dX12_costOfTrial_34 rfl rfl rfl ?_
        exact pb_ireturn dX12_costOfTrial_35 rfl (⟨rfl, rfl⟩)
      · refine pb_iload_n (pc2 := 13) dX12_costOfTrial_12 rfl rfl rfl ?_
        refine pb_aload_n (pc2 := 14) dX12_costOfTrial_13 rfl rfl rfl ?_
        refine pb_getf (pc2 := 17) flX12_71_X12 rfl dX12_costOfTrial_14 (by first | assumption | exact hR.a rfl | exact hR.o | exact hC.a rfl) rfl rfl ?_
        refine pb_iload_n (pc2 := 18) dX12_costOfTrial_17 rfl rfl rfl ?_
        refine pb_iald (pc2 := 19) (by first | assumption | exact hR.a rfl | exact hR.o | exact hC.a rfl) ⟨by decide, rfl⟩ dX12_costOfTrial_18 (by omega) (by omega) rfl ?_
        refine pb_aload_n (pc2 := 20) dX12_costOfTrial_19 rfl rfl rfl ?_
        refine pb_getf (pc2 := 23) flX12_20_X12 rfl dX12_costOfTrial_20 (by first | assumption | exact hR.a rfl | exact hR.o | exact hC.a rfl) rfl rfl ?_
        refine pb_iload_n (pc2 := 24) dX12_costOfTrial_23 rfl rfl rfl ?_
        refine pb_iald (pc2 := 25) (by first | assumption | exact hR.a rfl | exact hR.o | exact hC.a rfl) ⟨by decide, rfl⟩ dX12_costOfTrial_24 (by omega) (by omega) rfl ?_
        refine pb_imulN (pc2 := 26) dX12_costOfTrial_25 rfl ?_
        refine pb_iaddN (pc2 := 27) dX12_costOfTrial_26 rfl ?_
        refine pb_istore_n (lv2 := [_, _, _]) (pc2 := 28) dX12_costOfTrial_27 rfl (by decide) rfl rfl ?_
        refine pb_iincP (c0 := 1) (lv2 := [_, _, _]) (pc2 := 31) dX12_costOfTrial_28 rfl (by decide) rfl rfl ?_
        refine pb_goto (tgt := 4) dX12_costOfTrial_31 (by decide) ?_
        exact ih (i + 1) (by omega) (by omega)
  refine pb_iconst (x := nI 0) (pc2 := 1) dX12_costOfTrial_0 (by decide) rfl ?_
  refine pb_istore_n (lv2 := [_, _, _]) (pc2 := 2) dX12_costOfTrial_1 rfl (by decide) rfl rfl ?_
  refine pb_iconst (x := nI 0) (pc2 := 3) dX12_costOfTrial_2 (by decide) rfl ?_
  refine pb_istore_n (lv2 := [_, _, _]) (pc2 := 4) dX12_costOfTrial_3 rfl (by decide) rfl rfl ?_
  exact loop (A 1 0 + 1) 0 (by omega) (by omega)
def pb_PL2 (A : pb_A) (h0 h : pb_H) (G : Nat → Nat) : Option Value → pb_H → Prop := fun v h' => v = none ∧ pb_RF A h0 h' ∧ (∃ F : Nat → Nat, h' 32 = some (.inl (0, 8, fun j => nI (F j))) ∧ ∀ b, b < 8 → F b = G b) ∧ ∀ b, b ≠ 32 → h' b = h b
theorem pb_kL2 {G : Nat → Nat} {y : pb_M} {d k n : Nat} {post : Option Value → pb_H → Prop} {pc : Nat} {lv : List (Option Value)} {rest : List Value} (kk : ∀ (h' : pb_H) (F : Nat → Nat), pb_RF A h0 h' → h' 32 = some (.inl (0, 8, fun j => nI (F j))) → (∀ b, b < 8 → F b = G b) → (∀ b, b ≠ 32 → h' b = h b) → pb_S Z y d k n post pc lv rest h') : ∀ v h', pb_PL2 A h0 h G v h' → (∀ b, h b ≠ none → h' b ≠ none) → pb_S Z y d k n post pc lv (v.toList ++ rest) h' := fun v h' q _ => by
  obtain ⟨rfl, hR, ⟨F, h32, hF⟩, hne⟩ := q
  exact kk h' F hR h32 hF hne
set_option maxRecDepth 10000 in
theorem t_mlightOfTrial {P : Nat → Nat} (w : pb_WF A) (hR : pb_RF A h0 h) (h42 : h 42 = some (.inl (0, 12, fun j => nI (P j)))) (hP : ∀ j, j < 12 → P j ≤ 8) (h1 : pb_sum 12 P ≤ 999) (h11 : 1 ≤ pb_sum 12 P) (hP0 : ∀ t, A 1 0 ≤ t → t < 12 → P t = 0) : pb_T Z mX12_lightOfTrial 2 0 0 [.ref 20] h (pb_PL2 A h0 h (pb_tl A P)) := by
  have htt := w.tubes
  refine pb_T.of pnX12_lightOfTrial (Nat.le_of_ble_eq_true rfl) (lv := [some (.ref 20), none, none, none, none, none, none]) rfl ?_
  have outer : ∀ (m b : Nat) (F : Nat → Nat) (h' : pb_H) (o2 o3 o4 o5 o6 : Option Value), 8 - b < m → b ≤ 8 → pb_RF A h0 h' → h' 32 = some (.inl (0, 8, fun j => nI (F j))) → (∀ i, i < b → F i = pb_tl A P i) → (∀ i, i ≠ 32 → h' i = h i) → pb_S Z mX12_lightOfTrial 2 0 0 (pb_PL2 A h0 h (pb_tl A P)) 2 [some (.ref 20), some (.int (nI b)), o2, o3, o4, o5, o6] [] h' := by
    intro m
    induction m with
    | zero => intro b F h' o2 o3 o4 o5 o6 g1; omega
    | succ m ih =>
      intro b F h' o2 o3 o4 o5 o6 g1 g2 hR h32 hF hne
      have h42 : h' 42 = some (.inl (0, 12, fun j => nI (P j))) := by rw [hne 42 (by decide)]; exact h42
      refine pb_iload_n (pc2 := 3) dX12_lightOfTrial_2 rfl rfl rfl ?_
      refine pb_bipush (x := nI 8) (pc2 := 5) dX12_lightOfTrial_3 (by decide) rfl ?_
      refine pb_icmpN_ge (tgt := 99) (pc2 := 8) dX12_lightOfTrial_5 (by decide) rfl (by omega) (by omega) (fun q => ?_) (fun q => ?_)
      · have e : b = 8 := by omega
        subst e
        exact pb_return dX12_lightOfTrial_99 rfl (⟨rfl, hR, ⟨F, h32, hF⟩, hne⟩)
      · obtain ⟨r1, r2, r3⟩ := w.rows h1 hP0 q 0
        have inner : ∀ (m2 t : Nat), A 1 0 - t < m2 → t ≤ A 1 0 → pb_S Z mX12_lightOfTrial 2 0 0 (pb_PL2 A h0 h (pb_tl A P)) 16 [some (.ref 20), some (.int (nI b)), some (.long (lN (pb_sum t (fun t => P t * A 7 (8 * t + b))))), none, some (.long (lN (pb_sum t (fun t => P t * A 8 (8 * t + b))))), none, some (.int (nI t))] [] h' := by
          intro m2
          induction m2 with
          | zero => intro t k1; omega
          | succ m2 ih2 =>
            intro t k1 k2
            refine pb_iload (pc2 := 18) dX12_lightOfTrial_16 rfl rfl ?_
            refine pb_aload_n (pc2 := 19) dX12_lightOfTrial_18 rfl rfl rfl ?_
            refine pb_getf (pc2 := 22) flX12_92_X12 rfl dX12_lightOfTrial_19 (by first | assumption | exact hR.a rfl | exact hR.o | exact hC.a rfl) rfl rfl ?_
            refine pb_icmpN_ge (tgt := 81) (pc2 := 25) dX12_lightOfTrial_22 (by decide) rfl (by omega) (by omega) (fun c => ?_) (fun c => ?_)
            · have e : t = A 1 0 := by omega
              subst e
              refine pb_aload_n (pc2 := 82) dX12_lightOfTrial_81 rfl rfl rfl ?_
              refine pb_getf (pc2 := 85) flX12_41_X12 rfl dX12_lightOfTrial_82 (by first | assumption | exact hR.a rfl | exact hR.o | exact hC.a rfl) rfl rfl ?_
              refine pb_iload_n (pc2 := 86) dX12_lightOfTrial_85 rfl rfl rfl ?_
              refine pb_lload_n (pc2 := 87) dX12_lightOfTrial_86 rfl rfl rfl ?_
              refine pb_lload (pc2 := 89) dX12_lightOfTrial_87 rfl rfl ?_
              refine pb_callS (pc2 := 92) (k2 := 0) (n2 := 0) mwX12_thickBy swX12_thickBy rfl mlX12_165 dX12_lightOfTrial_89 (t_thickBy (kk := pb_dk A P b 0) (s := pb_sc A P b) (by omega) (by omega) (by omega)) (by omega) (by omega) (by omega) rfl rfl (Nat.le_of_ble_eq_true rfl) rfl (pb_kE ?_)
              refine pb_iastC (pc2 := 93) hR rfl h32 dX12_lightOfTrial_92 (by omega) rfl (fun h_ hR h32 hne2 => ?_)
              refine pb_iincP (c0 := 1) (lv2 := [_, _, _, _, _, _, _]) (pc2 := 96) dX12_lightOfTrial_93 rfl (by decide) rfl rfl ?_
              refine pb_goto (tgt := 2) dX12_lightOfTrial_96 (by decide) ?_
              refine ih (b + 1) _ _ _ _ _ _ _ (by omega) (by omega) hR h32 (fun i hi => ?_) (fun i hi => (hne2 i hi).trans (hne i hi))
              unfold pb_un
              by_cases e : i = b
              · rw [if_pos e, e]; rfl
              · rw [if_neg e]; exact hF i (by omega)
            · have hks := w.ks c q
              have h8 := hP t (by omega)
              have m1 : P t * A 7 (8 * t + b) ≤ 8 * 999 := Nat.mul_le_mul h8 hks.1
              have m2 : P t * A 8 (8 * t + b) ≤ 8 * 999 := Nat.mul_le_mul h8 hks.2.2
              refine pb_lload_n (pc2 := 26) dX12_lightOfTrial_25 rfl rfl rfl ?_
              refine pb_aload_n (pc2 := 27) dX12_lightOfTrial_26 rfl rfl rfl ?_
              refine pb_getf (pc2 := 30) flX12_71_X12 rfl dX12_lightOfTrial_27 (by first | assumption | exact hR.a rfl | exact hR.o | exact hC.a rfl) rfl rfl ?_
              refine pb_iload (pc2 := 32) dX12_lightOfTrial_30 rfl rfl ?_
              refine pb_iald (pc2 := 33) (by first | assumption | exact hR.a rfl | exact hR.o | exact hC.a rfl) ⟨by decide, rfl⟩ dX12_lightOfTrial_32 (by omega) (by omega) rfl ?_
              refine pb_aload_n (pc2 := 34) dX12_lightOfTrial_33 rfl rfl rfl ?_
              refine pb_getf (pc2 := 37) flX12_13_X12 rfl dX12_lightOfTrial_34 (by first | assumption | exact hR.a rfl | exact hR.o | exact hC.a rfl) rfl rfl ?_
              refine pb_bipush (x := nI 8) (pc2 := 39) dX12_lightOfTrial_37 (by decide) rfl ?_
              refine pb_iload (pc2 := 41) dX12_lightOfTrial_39 rfl rfl ?_
              refine pb_imulN (pc2 := 42) dX12_lightOfTrial_41 rfl ?_
              refine pb_iload_n (pc2 := 43) dX12_lightOfTrial_42 rfl rfl rfl ?_
              refine pb_iaddN (pc2 := 44) dX12_lightOfTrial_43 rfl ?_
              refine pb_iald (pc2 := 45) (by first | assumption | exact hR.a rfl | exact hR.o | exact hC.a rfl) ⟨by decide, rfl⟩ dX12_lightOfTrial_44 (by omega) (by omega) rfl ?_
              refine pb_imulN (pc2 := 46) dX12_lightOfTrial_45 rfl ?_
              refine pb_i2lN (pc2 := 47) dX12_lightOfTrial_46 (by omega) rfl ?_
              refine pb_laddN (pc2 := 48) dX12_lightOfTrial_47 rfl ?_
              refine pb_lstore_n (lv2 := [_, _, _, _, _, _, _]) (pc2 := 49) dX12_lightOfTrial_48 rfl (by decide) rfl rfl ?_
              refine pb_lload (pc2 := 51) dX12_lightOfTrial_49 rfl rfl ?_
              refine pb_aload_n (pc2 := 52) dX12_lightOfTrial_51 rfl rfl rfl ?_
              refine pb_getf (pc2 := 55) flX12_71_X12 rfl dX12_lightOfTrial_52 (by first | assumption | exact hR.a rfl | exact hR.o | exact hC.a rfl) rfl rfl ?_
              refine pb_iload (pc2 := 57) dX12_lightOfTrial_55 rfl rfl ?_
              refine pb_iald (pc2 := 58) (by first | assumption | exact hR.a rfl | exact hR.o | exact hC.a rfl) ⟨by decide, rfl⟩ dX12_lightOfTrial_57 (by omega) (by omega) rfl ?_
              refine pb_aload_n (pc2 := 59) dX12_lightOfTrial_58 rfl rfl rfl ?_
              refine pb_getf (pc2 := 62) flX12_17_X12 rfl dX12_lightOfTrial_59 (by first | assumption | exact hR.a rfl | exact hR.o | exact hC.a rfl) rfl rfl ?_
              refine pb_bipush (x := nI 8) (pc2 := 64) dX12_lightOfTrial_62 (by decide) rfl ?_
              refine pb_iload (pc2 := 66) dX12_lightOfTrial_64 rfl rfl ?_
              refine pb_imulN (pc2 := 67) dX12_lightOfTrial_66 rfl ?_
              refine pb_iload_n (pc2 := 68) dX12_lightOfTrial_67 rfl rfl rfl ?_
              refine pb_iaddN (pc2 := 69) dX12_lightOfTrial_68 rfl ?_
              refine pb_iald (pc2 := 70) (by first | assumption | exact hR.a rfl | exact hR.o | exact hC.a rfl) ⟨by decide, rfl⟩ dX12_lightOfTrial_69 (by omega) (by omega) rfl ?_
              refine pb_imulN (pc2 := 71) dX12_lightOfTrial_70 rfl ?_
              refine pb_i2lN (pc2 := 72) dX12_lightOfTrial_71 (by omega) rfl ?_
              refine pb_laddN (pc2 := 73) dX12_lightOfTrial_72 rfl ?_
              refine pb_lstore (lv2 := [_, _, _, _, _, _, _]) (pc2 := 75) dX12_lightOfTrial_73 (by decide) rfl rfl ?_
              refine pb_iincP (c0 := 1) (lv2 := [_, _, _, _, _, _, _]) (pc2 := 78) dX12_lightOfTrial_75 rfl (by decide) rfl rfl ?_
              refine pb_goto (tgt := 16) dX12_lightOfTrial_78 (by decide) ?_
              exact ih2 (t + 1) (by omega) (by omega)
        refine pb_lconst (x := lN 0) (pc2 := 9) dX12_lightOfTrial_8 (by decide) rfl ?_
        refine pb_lstore_n (lv2 := [_, _, _, _, _, _, _]) (pc2 := 10) dX12_lightOfTrial_9 rfl (by decide) rfl rfl ?_
        refine pb_lconst (x := lN 0) (pc2 := 11) dX12_lightOfTrial_10 (by decide) rfl ?_
        refine pb_lstore (lv2 := [_, _, _, _, _, _, _]) (pc2 := 13) dX12_lightOfTrial_11 (by decide) rfl rfl ?_
        refine pb_iconst (x := nI 0) (pc2 := 14) dX12_lightOfTrial_13 (by decide) rfl ?_
        refine pb_istore (lv2 := [_, _, _, _, _, _, _]) (pc2 := 16) dX12_lightOfTrial_14 (by decide) rfl rfl ?_
        exact inner (A 1 0 + 1) 0 (by omega) (by omega)
  obtain ⟨F, h32⟩ := hR.2.2.1 32 8 rfl
  refine pb_iconst (x := nI 0) (pc2 := 1) dX12_lightOfTrial_0 (by decide) rfl ?_
  refine pb_istore_n (lv2 := [_, _, _, _, _, _, _]) (pc2 := 2) dX12_lightOfTrial_1 rfl (by decide) rfl rfl ?_
  exact outer 9 0 F h _ _ _ _ _ (by omega) (by omega) hR h32 (fun b hb => by omega) (fun _ _ => rfl)
def pb_PN (A : pb_A) (h0 h : pb_H) (x : Option Value) (Q : Nat → Nat) : Option Value → pb_H → Prop := fun v h' => v = x ∧ pb_RF A h0 h' ∧ pb_row h' 42 12 Q ∧ ∀ b, b ≠ 42 → h' b = h b
theorem pb_kN {Q : Nat → Nat} {x : Value} {y : pb_M} {d k n : Nat} {post : Option Value → pb_H → Prop} {pc : Nat} {lv : List (Option Value)} {rest : List Value} (kk : ∀ (h' : pb_H) (G : Nat → Nat), pb_RF A h0 h' → h' 42 = some (.inl (0, 12, fun j => nI (G j))) → (∀ b, b < 12 → G b = Q b) → (∀ b, b ≠ 42 → h' b = h b) → pb_S Z y d k n post pc lv (x :: rest) h') : ∀ v h', pb_PN A h0 h (some x) Q v h' → (∀ b, h b ≠ none → h' b ≠ none) → pb_S Z y d k n post pc lv (v.toList ++ rest) h' := fun v h' q _ => by
  obtain ⟨rfl, hR, ⟨F, h32, hF⟩, hne⟩ := q
  exact kk h' F hR h32 hF hne
theorem pb_kNn {Q : Nat → Nat} {y : pb_M} {d k n : Nat} {post : Option Value → pb_H → Prop} {pc : Nat} {lv : List (Option Value)} {rest : List Value} (kk : ∀ (h' : pb_H) (G : Nat → Nat), pb_RF A h0 h' → h' 42 = some (.inl (0, 12, fun j => nI (G j))) → (∀ b, b < 12 → G b = Q b) → (∀ b, b ≠ 42 → h' b = h b) → pb_S Z y d k n post pc lv rest h') : ∀ v h', pb_PN A h0 h none Q v h' → (∀ b, h b ≠ none → h' b ≠ none) → pb_S Z y d k n post pc lv (v.toList ++ rest) h' := fun v h' q _ => by
  obtain ⟨rfl, hR, ⟨F, h32, hF⟩, hne⟩ := q
  exact kk h' F hR h32 hF hne
set_option maxRecDepth 10000 in
theorem t_mbegin {s n f : Nat} (hR : pb_RF A h0 h) (hs : s < 4096) (hn : n ≤ 8) (hf : f < 12) (hb : s.testBit f = true) (hbm : ∀ i, i < f → s.testBit i = false) : pb_T Z mX12_begin 0 0 0 [.ref 20, .int (nI s), .int (nI n)] h (pb_PN A h0 h none (pb_un (fun _ => 0) f n)) := by
  refine pb_T.of pnX12_begin (Nat.le_of_ble_eq_true rfl) (lv := [some (.ref 20), some (.int (nI s)), some (.int (nI n)), none, none, none]) rfl ?_
  have loop : ∀ (m i : Nat) (G : Nat → Nat) (h' : pb_H) (o5 : Option Value), 12 - i < m → i ≤ 12 → pb_RF A h0 h' → h' 42 = some (.inl (0, 12, fun j => nI (G j))) → (∀ j, j < i → G j = pb_un (fun _ => 0) f n j) → (∀ b, b ≠ 42 → h' b = h b) → pb_S Z mX12_begin 0 0 0 (pb_PN A h0 h none (pb_un (fun _ => 0) f n)) 5 [some (.ref 20), some (.int (nI s)), some (.int (nI n)), some (.int (nI (if i ≤ f then 1 else 0))), some (.int (nI i)), o5] [] h' := by
    intro m
    induction m with
    | zero => intro i G h' o5 h1; omega
    | succ m ih =>
      intro i G h' o5 h1 h2 hR h42 hG hne
      refine pb_iload (pc2 := 7) dX12_begin_5 rfl rfl ?_
      refine pb_bipush (x := nI 12) (pc2 := 9) dX12_begin_7 (by decide) rfl ?_
      refine pb_icmpN_ge (tgt := 71) (pc2 := 12) dX12_begin_9 (by decide) rfl (by omega) (by omega) (fun q => ?_) (fun q => ?_)
      · have e : i = 12 := by omega
        subst e
        exact pb_return dX12_begin_71 rfl (⟨rfl, hR, ⟨G, h42, hG⟩, hne⟩)
      · have hbl := pb_bit_le s i
        have nxt : ∀ x, x = (if i = f then n else 0) → ∀ j, j < i + 1 → pb_un G i x j = pb_un (fun _ => 0) f n j := fun x hx j hj => by
          by_cases e : j = i
          · rw [e, pb_un_self, hx]; rfl
          · rw [pb_un_ne _ _ e]; exact hG j (by omega)
        rcases Nat.lt_trichotomy i f with c | c | c
        · have b0 : pb_bit s i = 0 := pb_bit_0.mpr (hbm i c)
          rw [if_pos (show i ≤ f by omega)]
          refine pb_iload_n (pc2 := 13) dX12_begin_12 rfl rfl rfl ?_
          refine pb_ifF_eq (tgt := 30) (pc2 := 16) dX12_begin_13 (by decide) rfl (by decide) ?_
          refine pb_iload_n (pc2 := 17) dX12_begin_16 rfl rfl rfl ?_
          refine pb_iload (pc2 := 19) dX12_begin_17 rfl rfl ?_
          refine pb_ishrN (pc2 := 20) dX12_begin_19 (by omega) (by omega) rfl ?_
          refine pb_iconst (x := nI 1) (pc2 := 21) dX12_begin_20 (by decide) rfl ?_
          refine pb_iandB (pc2 := 22) dX12_begin_21 rfl ?_
          refine pb_iconst (x := nI 1) (pc2 := 23) dX12_begin_22 (by decide) rfl ?_
          refine pb_icmpN_ne (tgt := 30) (pc2 := 26) dX12_begin_23 (by decide) rfl (by omega) (by omega) (fun c2 => ?_) (fun c2 => ?_)
          · refine pb_iconst (x := nI 0) (pc2 := 31) dX12_begin_30 (by decide) rfl ?_
            refine pb_istore (lv2 := [_, _, _, _, _, _]) (pc2 := 33) dX12_begin_31 (by decide) rfl rfl ?_
            refine pb_aload_n (pc2 := 34) dX12_begin_33 rfl rfl rfl ?_
            refine pb_getf (pc2 := 37) flX12_71_X12 rfl dX12_begin_34 (by first | assumption | exact hR.a rfl | exact hR.o | exact hC.a rfl) rfl rfl ?_
            refine pb_iload (pc2 := 39) dX12_begin_37 rfl rfl ?_
            refine pb_iload (pc2 := 41) dX12_begin_39 rfl rfl ?_
            refine pb_ifT_eq (tgt := 48) dX12_begin_41 (by decide) (rfl) ?_
            refine pb_iconst (x := nI 0) (pc2 := 49) dX12_begin_48 (by decide) rfl ?_
            refine pb_iastC (pc2 := 50) hR rfl h42 dX12_begin_49 (by omega) rfl (fun h_ hR h42 hne2 => ?_)
            refine pb_iload_n (pc2 := 51) dX12_begin_50 rfl rfl rfl ?_
            refine pb_ifF_eq (tgt := 63) (pc2 := 54) dX12_begin_51 (by decide) rfl (by decide) ?_
            refine pb_iload (pc2 := 56) dX12_begin_54 rfl rfl ?_
            refine pb_ifF_ne (tgt := 63) (pc2 := 59) dX12_begin_56 (rfl) rfl (by decide) ?_
            refine pb_iconst (x := nI 1) (pc2 := 60) dX12_begin_59 (by decide) rfl ?_
            refine pb_goto (tgt := 64) dX12_begin_60 (by decide) ?_
            refine pb_istore_n (lv2 := [_, _, _, _, _, _]) (pc2 := 65) dX12_begin_64 rfl (by decide) rfl rfl ?_
            refine pb_iincP (c0 := 1) (lv2 := [_, _, _, _, _, _]) (pc2 := 68) dX12_begin_65 rfl (by decide) rfl rfl ?_
            refine pb_goto (tgt := 5) dX12_begin_68 (by decide) ?_
            have := ih (i + 1) _ _ (some (.int (nI 0))) (by omega) (by omega) hR h42 (nxt 0 (by rw [if_neg (by omega)])) (fun b hb => (hne2 b hb).trans (hne b hb))
            rw [if_pos (show i + 1 ≤ f by omega)] at this
            exact this
          · omega
        · have b0 : pb_bit s i = 1 := pb_bit_1.mpr (c ▸ hb)
          rw [if_pos (show i ≤ f by omega)]
          refine pb_iload_n (pc2 := 13) dX12_begin_12 rfl rfl rfl ?_
          refine pb_ifF_eq (tgt := 30) (pc2 := 16) dX12_begin_13 (by decide) rfl (by decide) ?_
          refine pb_iload_n (pc2 := 17) dX12_begin_16 rfl rfl rfl ?_
          refine pb_iload (pc2 := 19) dX12_begin_17 rfl rfl ?_
          refine pb_ishrN (pc2 := 20) dX12_begin_19 (by omega) (by omega) rfl ?_
          refine pb_iconst (x := nI 1) (pc2 := 21) dX12_begin_20 (by decide) rfl ?_
          refine pb_iandB (pc2 := 22) dX12_begin_21 rfl ?_
          refine pb_iconst (x := nI 1) (pc2 := 23) dX12_begin_22 (by decide) rfl ?_
          refine pb_icmpN_ne (tgt := 30) (pc2 := 26) dX12_begin_23 (by decide) rfl (by omega) (by omega) (fun c2 => ?_) (fun c2 => ?_)
          · omega
          · refine pb_iconst (x := nI 1) (pc2 := 27) dX12_begin_26 (by decide) rfl ?_
            refine pb_goto (tgt := 31) dX12_begin_27 (by decide) ?_
            refine pb_istore (lv2 := [_, _, _, _, _, _]) (pc2 := 33) dX12_begin_31 (by decide) rfl rfl ?_
            refine pb_aload_n (pc2 := 34) dX12_begin_33 rfl rfl rfl ?_
            refine pb_getf (pc2 := 37) flX12_71_X12 rfl dX12_begin_34 (by first | assumption | exact hR.a rfl | exact hR.o | exact hC.a rfl) rfl rfl ?_
            refine pb_iload (pc2 := 39) dX12_begin_37 rfl rfl ?_
            refine pb_iload (pc2 := 41) dX12_begin_39 rfl rfl ?_
            refine pb_ifF_eq (tgt := 48) (pc2 := 44) dX12_begin_41 (by decide) rfl (by decide) ?_
            refine pb_iload_n (pc2 := 45) dX12_begin_44 rfl rfl rfl ?_
            refine pb_goto (tgt := 49) dX12_begin_45 (by decide) ?_
            refine pb_iastC (pc2 := 50) hR rfl h42 dX12_begin_49 (by omega) rfl (fun h_ hR h42 hne2 => ?_)
            refine pb_iload_n (pc2 := 51) dX12_begin_50 rfl rfl rfl ?_
            refine pb_ifF_eq (tgt := 63) (pc2 := 54) dX12_begin_51 (by decide) rfl (by decide) ?_
            refine pb_iload (pc2 := 56) dX12_begin_54 rfl rfl ?_
            refine pb_ifT_ne (tgt := 63) dX12_begin_56 (by decide) (by decide) ?_
            refine pb_iconst (x := nI 0) (pc2 := 64) dX12_begin_63 (by decide) rfl ?_
            refine pb_istore_n (lv2 := [_, _, _, _, _, _]) (pc2 := 65) dX12_begin_64 rfl (by decide) rfl rfl ?_
            refine pb_iincP (c0 := 1) (lv2 := [_, _, _, _, _, _]) (pc2 := 68) dX12_begin_65 rfl (by decide) rfl rfl ?_
            refine pb_goto (tgt := 5) dX12_begin_68 (by decide) ?_
            have := ih (i + 1) _ _ (some (.int (nI 1))) (by omega) (by omega) hR h42 (nxt n (by rw [if_pos c])) (fun b hb => (hne2 b hb).trans (hne b hb))
            rw [if_neg (show ¬ i + 1 ≤ f by omega)] at this
            exact this
        · rw [if_neg (show ¬ i ≤ f by omega)]
          refine pb_iload_n (pc2 := 13) dX12_begin_12 rfl rfl rfl ?_
          refine pb_ifT_eq (tgt := 30) dX12_begin_13 (by decide) (rfl) ?_
          refine pb_iconst (x := nI 0) (pc2 := 31) dX12_begin_30 (by decide) rfl ?_
          refine pb_istore (lv2 := [_, _, _, _, _, _]) (pc2 := 33) dX12_begin_31 (by decide) rfl rfl ?_
          refine pb_aload_n (pc2 := 34) dX12_begin_33 rfl rfl rfl ?_
          refine pb_getf (pc2 := 37) flX12_71_X12 rfl dX12_begin_34 (by first | assumption | exact hR.a rfl | exact hR.o | exact hC.a rfl) rfl rfl ?_
          refine pb_iload (pc2 := 39) dX12_begin_37 rfl rfl ?_
          refine pb_iload (pc2 := 41) dX12_begin_39 rfl rfl ?_
          refine pb_ifT_eq (tgt := 48) dX12_begin_41 (by decide) (rfl) ?_
          refine pb_iconst (x := nI 0) (pc2 := 49) dX12_begin_48 (by decide) rfl ?_
          refine pb_iastC (pc2 := 50) hR rfl h42 dX12_begin_49 (by omega) rfl (fun h_ hR h42 hne2 => ?_)
          refine pb_iload_n (pc2 := 51) dX12_begin_50 rfl rfl rfl ?_
          refine pb_ifT_eq (tgt := 63) dX12_begin_51 (by decide) (rfl) ?_
          refine pb_iconst (x := nI 0) (pc2 := 64) dX12_begin_63 (by decide) rfl ?_
          refine pb_istore_n (lv2 := [_, _, _, _, _, _]) (pc2 := 65) dX12_begin_64 rfl (by decide) rfl rfl ?_
          refine pb_iincP (c0 := 1) (lv2 := [_, _, _, _, _, _]) (pc2 := 68) dX12_begin_65 rfl (by decide) rfl rfl ?_
          refine pb_goto (tgt := 5) dX12_begin_68 (by decide) ?_
          have := ih (i + 1) _ _ (some (.int (nI 0))) (by omega) (by omega) hR h42 (nxt 0 (by rw [if_neg (by omega)])) (fun b hb => (hne2 b hb).trans (hne b hb))
          rw [if_neg (show ¬ i + 1 ≤ f by omega)] at this
          exact this
  obtain ⟨F, h42⟩ := hR.2.2.1 42 12 rfl
  refine pb_iconst (x := nI 1) (pc2 := 1) dX12_begin_0 (by decide) rfl ?_
  refine pb_istore_n (lv2 := [_, _, _, _, _, _]) (pc2 := 2) dX12_begin_1 rfl (by decide) rfl rfl ?_
  refine pb_iconst (x := nI 0) (pc2 := 3) dX12_begin_2 (by decide) rfl ?_
  refine pb_istore (lv2 := [_, _, _, _, _, _]) (pc2 := 5) dX12_begin_3 (by decide) rfl rfl ?_
  have := loop 13 0 F h none (by omega) (by omega) hR h42 (fun b hb => by omega) (fun _ _ => rfl)
  rw [if_pos (show 0 ≤ f by omega)] at this
  exact this
set_option maxRecDepth 10000 in
theorem w_mnext {s l : Nat} {G : Nat → Nat} {post : Option Value → pb_H → Prop} (hR : pb_RF A h0 h) (ht : A 1 0 ≤ 12) (h42 : h 42 = some (.inl (0, 12, fun j => nI (G j)))) (hs : s < 4096) (hl : l < A 1 0) (hl1 : s.testBit l = true) (hlm : ∀ i, l < i → i < A 1 0 → s.testBit i = false) (kk : ∀ h', pb_RF A h0 h' → h' 42 = some (.inl (0, 12, fun j => nI (pb_un G l 0 j))) → (∀ b, b ≠ 42 → h' b = h b) → pb_S Z mX12_next 0 0 0 post 40 [some (.ref 20), some (.int (nI s)), some (.int (nI l)), some (.int (nI (G l))), some (.int (nI l - nI 1)), none] [] h') : pb_T Z mX12_next 0 0 0 [.ref 20, .int (nI s)] h post := by
  refine pb_T.of pnX12_next (Nat.le_of_ble_eq_true rfl) (lv := [some (.ref 20), some (.int (nI s)), none, none, none, none]) rfl ?_
  have loop : ∀ (m j : Nat), j - l < m → l ≤ j → j < A 1 0 → pb_S Z mX12_next 0 0 0 post 7 [some (.ref 20), some (.int (nI s)), some (.int (nI j)), none, none, none] [] h := by
    intro m
    induction m with
    | zero => intro j h1; omega
    | succ m ih =>
      intro j h1 h2 h3
      have hbl := pb_bit_le s j
      refine pb_iload_n (pc2 := 8) dX12_next_7 rfl rfl rfl ?_
      refine pb_iload_n (pc2 := 9) dX12_next_8 rfl rfl rfl ?_
      refine pb_ishrN (pc2 := 10) dX12_next_9 (by omega) (by omega) rfl ?_
      refine pb_iconst (x := nI 1) (pc2 := 11) dX12_next_10 (by decide) rfl ?_
      refine pb_iandB (pc2 := 12) dX12_next_11 rfl ?_
      refine pb_ifN_ne (tgt := 21) (pc2 := 15) dX12_next_12 (by decide) rfl (by omega) (fun c => ?_) (fun c => ?_)
      · have e : j = l := by
          apply Nat.le_antisymm _ h2
          apply Nat.le_of_not_lt
          intro q
          exact c (pb_bit_0.mpr (hlm j q h3))
        subst e
        refine pb_aload_n (pc2 := 22) dX12_next_21 rfl rfl rfl ?_
        refine pb_getf (pc2 := 25) flX12_71_X12 rfl dX12_next_22 (by first | assumption | exact hR.a rfl | exact hR.o | exact hC.a rfl) rfl rfl ?_
        refine pb_iload_n (pc2 := 26) dX12_next_25 rfl rfl rfl ?_
        refine pb_iald (pc2 := 27) (by first | assumption | exact hR.a rfl | exact hR.o | exact hC.a rfl) ⟨by decide, rfl⟩ dX12_next_26 (by omega) (by omega) rfl ?_
        refine pb_istore_n (lv2 := [_, _, _, _, _, _]) (pc2 := 28) dX12_next_27 rfl (by decide) rfl rfl ?_
        refine pb_aload_n (pc2 := 29) dX12_next_28 rfl rfl rfl ?_
        refine pb_getf (pc2 := 32) flX12_71_X12 rfl dX12_next_29 (by first | assumption | exact hR.a rfl | exact hR.o | exact hC.a rfl) rfl rfl ?_
        refine pb_iload_n (pc2 := 33) dX12_next_32 rfl rfl rfl ?_
        refine pb_iconst (x := nI 0) (pc2 := 34) dX12_next_33 (by decide) rfl ?_
        refine pb_iastC (pc2 := 35) hR rfl h42 dX12_next_34 (by omega) rfl (fun h_ hR h42 hne => ?_)
        refine pb_iload_n (pc2 := 36) dX12_next_35 rfl rfl rfl ?_
        refine pb_iconst (x := nI 1) (pc2 := 37) dX12_next_36 (by decide) rfl ?_
        refine pb_isub (pc2 := 38) dX12_next_37 rfl ?_
        refine pb_istore (lv2 := [_, _, _, _, _, _]) (pc2 := 40) dX12_next_38 (by decide) rfl rfl ?_
        exact kk _ hR h42 hne
      · have e : j ≠ l := fun e => by
          rw [e, pb_bit_0, hl1] at c
          cases c
        refine pb_iincM (lv2 := [_, _, _, _, _, _]) (pc2 := 18) dX12_next_15 rfl (by omega) (by decide) rfl rfl ?_
        refine pb_goto (tgt := 7) dX12_next_18 (by decide) ?_
        exact ih (j - 1) (by omega) (by omega) (by omega)
  refine pb_aload_n (pc2 := 1) dX12_next_0 rfl rfl rfl ?_
  refine pb_getf (pc2 := 4) flX12_92_X12 rfl dX12_next_1 (by first | assumption | exact hR.a rfl | exact hR.o | exact hC.a rfl) rfl rfl ?_
  refine pb_iconst (x := nI 1) (pc2 := 5) dX12_next_4 (by decide) rfl ?_
  refine pb_isubN (pc2 := 6) dX12_next_5 (by omega) rfl ?_
  refine pb_istore_n (lv2 := [_, _, _, _, _, _]) (pc2 := 7) dX12_next_6 rfl (by decide) rfl rfl ?_
  exact loop (A 1 0 + 1) (A 1 0 - 1) (by omega) (by omega) (by omega)
set_option maxRecDepth 10000 in
theorem t_mnext1 {s l : Nat} {P Q G : Nat → Nat} (hR : pb_RF A h0 h) (ht : A 1 0 ≤ 12) (h42 : h 42 = some (.inl (0, 12, fun j => nI (G j)))) (hG : ∀ j, j < 12 → G j = P j) (hs : s < 4096) (hl : l < A 1 0) (hl1 : s.testBit l = true) (hlm : ∀ i, l < i → i < A 1 0 → s.testBit i = false) (hP : ∀ j, j < 12 → P j ≤ 8) (hn : pb_nx s l P Q) : pb_T Z mX12_next 0 0 0 [.ref 20, .int (nI s)] h (pb_PN A h0 h (some (.int (nI 1))) Q) := by
  obtain ⟨u, v, hu, hu0, hz, huv, hvl, hv1, hvm, rfl⟩ := hn
  refine w_mnext hR ht h42 hs hl hl1 hlm (fun h' hR h42 hne => ?_)
  have hGl := hG l (by omega)
  have hGu := hG u (by omega)
  have hPu := hP u (by omega)
  rw [nI_sub (show 1 ≤ l by omega)]
  have down : ∀ (m i : Nat), i - u < m → u ≤ i → i < l → pb_S Z mX12_next 0 0 0 (pb_PN A h0 h (some (.int (nI 1))) (fun i => if i = v then P l + 1 else if i = u then P u - 1 else if i = l then 0 else P i)) 40 [some (.ref 20), some (.int (nI s)), some (.int (nI l)), some (.int (nI (G l))), some (.int (nI i)), none] [] h' := by
    intro m
    induction m with
    | zero => intro i h1; omega
    | succ m ih =>
      intro i h1 h2 h3
      have hPi := hP i (by omega)
      refine pb_iload (pc2 := 42) dX12_next_40 rfl rfl ?_
      refine pb_ifF_lt (tgt := 61) (pc2 := 45) dX12_next_42 (Int32.not_lt.mpr (nI_pos' (by omega))) rfl (by decide) ?_
      refine pb_aload_n (pc2 := 46) dX12_next_45 rfl rfl rfl ?_
      refine pb_getf (pc2 := 49) flX12_71_X12 rfl dX12_next_46 (by first | assumption | exact hR.a rfl | exact hR.o | exact hC.a rfl) rfl rfl ?_
      refine pb_iload (pc2 := 51) dX12_next_49 rfl rfl ?_
      refine pb_iald (pc2 := 52) (by first | assumption | exact hR.a rfl | exact hR.o | exact hC.a rfl) ⟨by decide, rfl⟩ dX12_next_51 (by omega) (by omega) rfl ?_
      refine pb_top (v2 := .int (nI (P i))) (by rw [pb_un_ne _ _ (by omega), hG i (by omega)]) ?_
      refine pb_ifN_ne (tgt := 61) (pc2 := 55) dX12_next_52 (by decide) rfl (by omega) (fun c => ?_) (fun c => ?_)
      · have e : i = u := by
          apply Nat.le_antisymm _ h2
          apply Nat.le_of_not_lt
          intro q
          exact c (hz i q h3)
        subst e
        refine pb_iload (pc2 := 63) dX12_next_61 rfl rfl ?_
        refine pb_ifT_ge (tgt := 68) dX12_next_63 (by decide) (nI_pos' (by omega)) ?_
        refine pb_aload_n (pc2 := 69) dX12_next_68 rfl rfl rfl ?_
        refine pb_getf (pc2 := 72) flX12_71_X12 rfl dX12_next_69 (by first | assumption | exact hR.a rfl | exact hR.o | exact hC.a rfl) rfl rfl ?_
        refine pb_iload (pc2 := 74) dX12_next_72 rfl rfl ?_
        refine pb_dup2 (pc2 := 75) dX12_next_74 rfl rfl rfl ?_
        refine pb_iald (pc2 := 76) (by first | assumption | exact hR.a rfl | exact hR.o | exact hC.a rfl) ⟨by decide, rfl⟩ dX12_next_75 (by omega) (by omega) rfl ?_
        refine pb_top (v2 := .int (nI (P i))) (by rw [pb_un_ne _ _ (by omega), hG i (by omega)]) ?_
        refine pb_iconst (x := nI 1) (pc2 := 77) dX12_next_76 (by decide) rfl ?_
        refine pb_isubN (pc2 := 78) dX12_next_77 (by omega) rfl ?_
        refine pb_iastC (pc2 := 79) hR rfl h42 dX12_next_78 (by omega) rfl (fun h2_ hR h42 hne2 => ?_)
        have up : ∀ (m2 j : Nat), v - j < m2 → i < j → j ≤ v → pb_S Z mX12_next 0 0 0 (pb_PN A h0 h (some (.int (nI 1))) (fun i_ => if i_ = v then P l + 1 else if i_ = i then P i - 1 else if i_ = l then 0 else P i_)) 85 [some (.ref 20), some (.int (nI s)), some (.int (nI l)), some (.int (nI (G l))), some (.int (nI i)), some (.int (nI j))] [] h2_ := by
          intro m2
          induction m2 with
          | zero => intro j k1; omega
          | succ m2 ih2 =>
            intro j k1 k2 k3
            have hbl := pb_bit_le s j
            refine pb_iload_n (pc2 := 86) dX12_next_85 rfl rfl rfl ?_
            refine pb_iload (pc2 := 88) dX12_next_86 rfl rfl ?_
            refine pb_ishrN (pc2 := 89) dX12_next_88 (by omega) (by omega) rfl ?_
            refine pb_iconst (x := nI 1) (pc2 := 90) dX12_next_89 (by decide) rfl ?_
            refine pb_iandB (pc2 := 91) dX12_next_90 rfl ?_
            refine pb_ifN_ne (tgt := 100) (pc2 := 94) dX12_next_91 (by decide) rfl (by omega) (fun c => ?_) (fun c => ?_)
            · have e : j = v := by
                apply Nat.le_antisymm k3
                apply Nat.le_of_not_lt
                intro q
                exact c (pb_bit_0.mpr (hvm j k2 q))
              subst e
              refine pb_aload_n (pc2 := 101) dX12_next_100 rfl rfl rfl ?_
              refine pb_getf (pc2 := 104) flX12_71_X12 rfl dX12_next_101 (by first | assumption | exact hR.a rfl | exact hR.o | exact hC.a rfl) rfl rfl ?_
              refine pb_iload (pc2 := 106) dX12_next_104 rfl rfl ?_
              refine pb_dup2 (pc2 := 107) dX12_next_106 rfl rfl rfl ?_
              refine pb_iald (pc2 := 108) (by first | assumption | exact hR.a rfl | exact hR.o | exact hC.a rfl) ⟨by decide, rfl⟩ dX12_next_107 (by omega) (by omega) rfl ?_
              refine pb_top (v2 := .int (nI 0)) ?_ ?_
              · rw [pb_un_ne _ _ (show j ≠ i by omega)]
                by_cases e : j = l
                · rw [e, pb_un_self]
                · rw [pb_un_ne _ _ e, hG j (by omega), hz j (by omega) (by omega)]
              refine pb_iload_n (pc2 := 109) dX12_next_108 rfl rfl rfl ?_
              refine pb_iconst (x := nI 1) (pc2 := 110) dX12_next_109 (by decide) rfl ?_
              refine pb_iaddN (pc2 := 111) dX12_next_110 rfl ?_
              refine pb_iaddN (pc2 := 112) dX12_next_111 rfl ?_
              refine pb_iastC (pc2 := 113) hR rfl h42 dX12_next_112 (by omega) rfl (fun h3_ hR h42 hne3 => ?_)
              refine pb_iconst (x := nI 1) (pc2 := 114) dX12_next_113 (by decide) rfl ?_
              have hrow : pb_row h3_ 42 12 (fun i_ => if i_ = j then P l + 1 else if i_ = i then P i - 1 else if i_ = l then 0 else P i_) := by
                refine ⟨_, h42, fun b hb => ?_⟩
                show _ = if b = j then P l + 1 else if b = i then P i - 1 else if b = l then 0 else P b
                by_cases e1 : b = j
                · rw [if_pos e1, e1, pb_un_self, hGl]; omega
                · rw [if_neg e1, pb_un_ne _ _ e1]
                  by_cases e2 : b = i
                  · rw [if_pos e2, e2, pb_un_self]
                  · rw [if_neg e2, pb_un_ne _ _ e2]
                    by_cases e3 : b = l
                    · rw [if_pos e3, e3, pb_un_self]
                    · rw [if_neg e3, pb_un_ne _ _ e3, hG b hb]
              exact pb_zreturn dX12_next_114 rfl (by first | exact Or.inl rfl | exact Or.inr rfl | assumption) (⟨rfl, hR, hrow, fun b hb => (hne3 b hb).trans ((hne2 b hb).trans (hne b hb))⟩)
            · have e : j ≠ v := fun e => by
                rw [e, pb_bit_0, hv1] at c
                cases c
              refine pb_iincP (c0 := 1) (lv2 := [_, _, _, _, _, _]) (pc2 := 97) dX12_next_94 rfl (by decide) rfl rfl ?_
              refine pb_goto (tgt := 85) dX12_next_97 (by decide) ?_
              exact ih2 (j + 1) (by omega) (by omega) (by omega)
        refine pb_iload (pc2 := 81) dX12_next_79 rfl rfl ?_
        refine pb_iconst (x := nI 1) (pc2 := 82) dX12_next_81 (by decide) rfl ?_
        refine pb_iaddN (pc2 := 83) dX12_next_82 rfl ?_
        refine pb_istore (lv2 := [_, _, _, _, _, _]) (pc2 := 85) dX12_next_83 (by decide) rfl rfl ?_
        exact up (v + 1) (i + 1) (by omega) (by omega) (by omega)
      · have e : i ≠ u := fun e => by rw [e] at c; omega
        refine pb_iincM (lv2 := [_, _, _, _, _, _]) (pc2 := 58) dX12_next_55 rfl (by omega) (by decide) rfl rfl ?_
        refine pb_goto (tgt := 40) dX12_next_58 (by decide) ?_
        exact ih (i - 1) (by omega) (by omega) (by omega)
  exact down (l + 1) (l - 1) (by omega) (by omega) (by omega)
set_option maxRecDepth 10000 in
theorem t_mnext0 {s l : Nat} {P G : Nat → Nat} (hR : pb_RF A h0 h) (ht : A 1 0 ≤ 12) (h42 : h 42 = some (.inl (0, 12, fun j => nI (G j)))) (hG : ∀ j, j < 12 → G j = P j) (hs : s < 4096) (hl : l < A 1 0) (hl1 : s.testBit l = true) (hlm : ∀ i, l < i → i < A 1 0 → s.testBit i = false) (hz : ∀ i, i < l → P i = 0) : pb_T Z mX12_next 0 0 0 [.ref 20, .int (nI s)] h (pb_PN A h0 h (some (.int (nI 0))) (pb_un P l 0)) := by
  refine w_mnext hR ht h42 hs hl hl1 hlm (fun h' hR h42 hne => ?_)
  have hrow : pb_row h' 42 12 (pb_un P l 0) := by
    refine ⟨_, h42, fun b hb => ?_⟩
    by_cases e : b = l
    · rw [e, pb_un_self, pb_un_self]
    · rw [pb_un_ne _ _ e, pb_un_ne _ _ e, hG b hb]
  have down : ∀ (i : Nat), i ≤ l → pb_S Z mX12_next 0 0 0 (pb_PN A h0 h (some (.int (nI 0))) (pb_un P l 0)) 40 [some (.ref 20), some (.int (nI s)), some (.int (nI l)), some (.int (nI (G l))), some (.int (nI i - nI 1)), none] [] h' := by
    intro i
    induction i with
    | zero =>
      intro _
      refine pb_iload (pc2 := 42) dX12_next_40 rfl rfl ?_
      refine pb_ifT_lt (tgt := 61) dX12_next_42 (by decide) (by decide) ?_
      refine pb_iload (pc2 := 63) dX12_next_61 rfl rfl ?_
      refine pb_ifF_ge (tgt := 68) (pc2 := 66) dX12_next_63 (by decide) rfl (by decide) ?_
      refine pb_iconst (x := nI 0) (pc2 := 67) dX12_next_66 (by decide) rfl ?_
      exact pb_zreturn dX12_next_67 rfl (by first | exact Or.inl rfl | exact Or.inr rfl | assumption) (⟨rfl, hR, hrow, hne⟩)
    | succ i ih =>
      intro h1
      rw [nI_sub (show 1 ≤ i + 1 by omega), Nat.add_sub_cancel]
      refine pb_iload (pc2 := 42) dX12_next_40 rfl rfl ?_
      refine pb_ifF_lt (tgt := 61) (pc2 := 45) dX12_next_42 (Int32.not_lt.mpr (nI_pos' (by omega))) rfl (by decide) ?_
      refine pb_aload_n (pc2 := 46) dX12_next_45 rfl rfl rfl ?_
      refine pb_getf (pc2 := 49) flX12_71_X12 rfl dX12_next_46 (by first | assumption | exact hR.a rfl | exact hR.o | exact hC.a rfl) rfl rfl ?_
      refine pb_iload (pc2 := 51) dX12_next_49 rfl rfl ?_
      refine pb_iald (pc2 := 52) (by first | assumption | exact hR.a rfl | exact hR.o | exact hC.a rfl) ⟨by decide, rfl⟩ dX12_next_51 (by omega) (by omega) rfl ?_
      refine pb_top (v2 := .int (nI 0)) (by rw [pb_un_ne _ _ (by omega), hG i (by omega), hz i (by omega)]) ?_
      refine pb_ifF_ne (tgt := 61) (pc2 := 55) dX12_next_52 (rfl) rfl (by decide) ?_
      refine pb_iinc (v := nI i - nI 1) (lv2 := [_, _, _, _, _, _]) (pc2 := 58) dX12_next_55 rfl (pb_m1 _) (by decide) rfl rfl ?_
      refine pb_goto (tgt := 40) dX12_next_58 (by decide) ?_
      exact ih (by omega)
  exact down l (Nat.le_refl _)
end PB24

