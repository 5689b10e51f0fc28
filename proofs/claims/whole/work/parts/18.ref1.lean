section PB18
variable {Z : pb_Z} {h h0 : pb_H} {A : pb_A}
theorem t_misLamp (x : Int32) : pb_T Z mX12_isLamp 1 0 0 [.int x] h (pb_B (nI 0 ≤ x ∧ x ≤ nI 3) h) := by
  refine pb_T.of pnX12_isLamp (Nat.le_of_ble_eq_true rfl) (lv := [some (.int x)]) rfl ?_
  refine pb_iload_n (pc2 := 1) dX12_isLamp_0 rfl rfl rfl ?_
  refine pb_iconst (x := nI 0) (pc2 := 2) dX12_isLamp_1 (by decide) rfl ?_
  refine pb_iconst (x := nI 3) (pc2 := 3) dX12_isLamp_2 (by decide) rfl ?_
  refine pb_callS (pc2 := 6) (k2 := 0) (n2 := 0) mwX12_in swX12_in rfl mlX12_95 dX12_isLamp_3 (t_in x (nI 0) (nI 3)) (by omega) (by omega) (by omega) rfl rfl (Nat.le_of_ble_eq_true rfl) rfl (pb_kB (fun q => ?_) (fun q => ?_))
  · exact pb_zreturn dX12_isLamp_6 rfl (by first | exact Or.inl rfl | exact Or.inr rfl | assumption) (⟨Or.inl ⟨rfl, q⟩, rfl⟩)
  · exact pb_zreturn dX12_isLamp_6 rfl (by first | exact Or.inl rfl | exact Or.inr rfl | assumption) (⟨Or.inr ⟨rfl, q⟩, rfl⟩)
theorem t_misSight (x : Int32) : pb_T Z mX12_isSight 1 0 0 [.int x] h (pb_B (nI 0 ≤ x ∧ x ≤ nI 2) h) := by
  refine pb_T.of pnX12_isSight (Nat.le_of_ble_eq_true rfl) (lv := [some (.int x)]) rfl ?_
  refine pb_iload_n (pc2 := 1) dX12_isSight_0 rfl rfl rfl ?_
  refine pb_iconst (x := nI 0) (pc2 := 2) dX12_isSight_1 (by decide) rfl ?_
  refine pb_iconst (x := nI 2) (pc2 := 3) dX12_isSight_2 (by decide) rfl ?_
  refine pb_callS (pc2 := 6) (k2 := 0) (n2 := 0) mwX12_in swX12_in rfl mlX12_95 dX12_isSight_3 (t_in x (nI 0) (nI 2)) (by omega) (by omega) (by omega) rfl rfl (Nat.le_of_ble_eq_true rfl) rfl (pb_kB (fun q => ?_) (fun q => ?_))
  · exact pb_zreturn dX12_isSight_6 rfl (by first | exact Or.inl rfl | exact Or.inr rfl | assumption) (⟨Or.inl ⟨rfl, q⟩, rfl⟩)
  · exact pb_zreturn dX12_isSight_6 rfl (by first | exact Or.inl rfl | exact Or.inr rfl | assumption) (⟨Or.inr ⟨rfl, q⟩, rfl⟩)
theorem t_misPot (x : Int32) : pb_T Z mX12_isPot 1 0 0 [.int x] h (pb_B (nI 0 ≤ x ∧ x ≤ nI 9) h) := by
  refine pb_T.of pnX12_isPot (Nat.le_of_ble_eq_true rfl) (lv := [some (.int x)]) rfl ?_
  refine pb_iload_n (pc2 := 1) dX12_isPot_0 rfl rfl rfl ?_
  refine pb_iconst (x := nI 0) (pc2 := 2) dX12_isPot_1 (by decide) rfl ?_
  refine pb_bipush (x := nI 9) (pc2 := 4) dX12_isPot_2 (by decide) rfl ?_
  refine pb_callS (pc2 := 7) (k2 := 0) (n2 := 0) mwX12_in swX12_in rfl mlX12_95 dX12_isPot_4 (t_in x (nI 0) (nI 9)) (by omega) (by omega) (by omega) rfl rfl (Nat.le_of_ble_eq_true rfl) rfl (pb_kB (fun q => ?_) (fun q => ?_))
  · exact pb_zreturn dX12_isPot_7 rfl (by first | exact Or.inl rfl | exact Or.inr rfl | assumption) (⟨Or.inl ⟨rfl, q⟩, rfl⟩)
  · exact pb_zreturn dX12_isPot_7 rfl (by first | exact Or.inl rfl | exact Or.inr rfl | assumption) (⟨Or.inr ⟨rfl, q⟩, rfl⟩)
theorem t_misArea (x : Int32) : pb_T Z mX12_isArea 1 0 0 [.int x] h (pb_B (nI 0 ≤ x ∧ x ≤ nI 9) h) := by
  refine pb_T.of pnX12_isArea (Nat.le_of_ble_eq_true rfl) (lv := [some (.int x)]) rfl ?_
  refine pb_iload_n (pc2 := 1) dX12_isArea_0 rfl rfl rfl ?_
  refine pb_iconst (x := nI 0) (pc2 := 2) dX12_isArea_1 (by decide) rfl ?_
  refine pb_bipush (x := nI 9) (pc2 := 4) dX12_isArea_2 (by decide) rfl ?_
  refine pb_callS (pc2 := 7) (k2 := 0) (n2 := 0) mwX12_in swX12_in rfl mlX12_95 dX12_isArea_4 (t_in x (nI 0) (nI 9)) (by omega) (by omega) (by omega) rfl rfl (Nat.le_of_ble_eq_true rfl) rfl (pb_kB (fun q => ?_) (fun q => ?_))
  · exact pb_zreturn dX12_isArea_7 rfl (by first | exact Or.inl rfl | exact Or.inr rfl | assumption) (⟨Or.inl ⟨rfl, q⟩, rfl⟩)
  · exact pb_zreturn dX12_isArea_7 rfl (by first | exact Or.inl rfl | exact Or.inr rfl | assumption) (⟨Or.inr ⟨rfl, q⟩, rfl⟩)
theorem t_misTube (hR : pb_RF A h0 h) (x : Int32) : pb_T Z mX12_isTube 1 0 0 [.ref 20, .int x] h (pb_B (pb_isT A x) h) := by
  refine pb_T.of pnX12_isTube (Nat.le_of_ble_eq_true rfl) (lv := [some (.ref 20), some (.int x)]) rfl ?_
  refine pb_iload_n (pc2 := 1) dX12_isTube_0 rfl rfl rfl ?_
  refine pb_iconst (x := nI 0) (pc2 := 2) dX12_isTube_1 (by decide) rfl ?_
  refine pb_aload_n (pc2 := 3) dX12_isTube_2 rfl rfl rfl ?_
  refine pb_getf (pc2 := 6) flX12_92_X12 rfl dX12_isTube_3 (by first | assumption | exact hR.a rfl | exact hR.o | exact hC.a rfl) rfl rfl ?_
  refine pb_iconst (x := nI 1) (pc2 := 7) dX12_isTube_6 (by decide) rfl ?_
  refine pb_isub (pc2 := 8) dX12_isTube_7 rfl ?_
  refine pb_callS (pc2 := 11) (k2 := 0) (n2 := 0) mwX12_in swX12_in rfl mlX12_95 dX12_isTube_8 (t_in x (nI 0) (nI (A 1 0) - nI 1)) (by omega) (by omega) (by omega) rfl rfl (Nat.le_of_ble_eq_true rfl) rfl (pb_kB (fun q => ?_) (fun q => ?_))
  · exact pb_zreturn dX12_isTube_11 rfl (by first | exact Or.inl rfl | exact Or.inr rfl | assumption) (⟨Or.inl ⟨rfl, q⟩, rfl⟩)
  · exact pb_zreturn dX12_isTube_11 rfl (by first | exact Or.inl rfl | exact Or.inr rfl | assumption) (⟨Or.inr ⟨rfl, q⟩, rfl⟩)
set_option maxRecDepth 10000 in
theorem w_minPots (w : pb_WF A) (hR : pb_RF A h0 h) {t : Nat} (ht : t < 12) : ∀ (m i : Nat), 10 - i ≤ m → i ≤ 10 → pb_S Z mX12_inPots 0 0 0 (pb_E (some (.int (nI (pb_sum 10 (fun p => A 11 (12 * p + t)))))) h) 4 [some (.ref 20), some (.int (nI t)), some (.int (nI (pb_sum i (fun p => A 11 (12 * p + t))))), some (.int (nI i))] [] h := by
  intro m
  induction m with
  | zero =>
    intro i h1 h2
    have e : i = 10 := by omega
    subst e
    refine pb_iload_n (pc2 := 5) dX12_inPots_4 rfl rfl rfl ?_
    refine pb_bipush (x := nI 10) (pc2 := 7) dX12_inPots_5 (by decide) rfl ?_
    refine pb_icmpN_ge (tgt := 30) (pc2 := 10) dX12_inPots_7 (by decide) rfl (by omega) (by omega) (fun q => ?_) (fun q => ?_)
    · refine pb_iload_n (pc2 := 31) dX12_inPots_30 rfl rfl rfl ?_
      exact pb_ireturn dX12_inPots_31 rfl (⟨rfl, rfl⟩)
    · omega
  | succ m ih =>
    intro i h1 h2
    refine pb_iload_n (pc2 := 5) dX12_inPots_4 rfl rfl rfl ?_
    refine pb_bipush (x := nI 10) (pc2 := 7) dX12_inPots_5 (by decide) rfl ?_
    refine pb_icmpN_ge (tgt := 30) (pc2 := 10) dX12_inPots_7 (by decide) rfl (by omega) (by omega) (fun q => ?_) (fun q => ?_)
    · have e : i = 10 := by omega
      subst e
      refine pb_iload_n (pc2 := 31) dX12_inPots_30 rfl rfl rfl ?_
      exact pb_ireturn dX12_inPots_31 rfl (⟨rfl, rfl⟩)
    · refine pb_iload_n (pc2 := 11) dX12_inPots_10 rfl rfl rfl ?_
      refine pb_aload_n (pc2 := 12) dX12_inPots_11 rfl rfl rfl ?_
      refine pb_getf (pc2 := 15) flX12_44_X12 rfl dX12_inPots_12 (by first | assumption | exact hR.a rfl | exact hR.o | exact hC.a rfl) rfl rfl ?_
      refine pb_bipush (x := nI 12) (pc2 := 17) dX12_inPots_15 (by decide) rfl ?_
      refine pb_iload_n (pc2 := 18) dX12_inPots_17 rfl rfl rfl ?_
      refine pb_imulN (pc2 := 19) dX12_inPots_18 rfl ?_
      refine pb_iload_n (pc2 := 20) dX12_inPots_19 rfl rfl rfl ?_
      refine pb_iaddN (pc2 := 21) dX12_inPots_20 rfl ?_
      refine pb_iald (pc2 := 22) (by first | assumption | exact hR.a rfl | exact hR.o | exact hC.a rfl) ⟨by decide, rfl⟩ dX12_inPots_21 (by omega) (by omega) rfl ?_
      refine pb_iaddN (pc2 := 23) dX12_inPots_22 rfl ?_
      refine pb_istore_n (lv2 := [_, _, _, _]) (pc2 := 24) dX12_inPots_23 rfl (by decide) rfl rfl ?_
      refine pb_iincP (c0 := 1) (lv2 := [_, _, _, _]) (pc2 := 27) dX12_inPots_24 rfl (by decide) rfl rfl ?_
      refine pb_goto (tgt := 4) dX12_inPots_27 (by decide) ?_
      exact ih (i + 1) (by omega) (by omega)
set_option maxRecDepth 10000 in
theorem t_minPots (w : pb_WF A) (hR : pb_RF A h0 h) {t : Nat} (ht : t < 12) : pb_T Z mX12_inPots 0 0 0 [.ref 20, .int (nI t)] h (pb_E (some (.int (nI (pb_sum 10 (fun p => A 11 (12 * p + t)))))) h) := by
  refine pb_T.of pnX12_inPots (Nat.le_of_ble_eq_true rfl) (lv := [some (.ref 20), some (.int (nI t)), none, none]) rfl ?_
  refine pb_iconst (x := nI 0) (pc2 := 1) dX12_inPots_0 (by decide) rfl ?_
  refine pb_istore_n (lv2 := [_, _, _, _]) (pc2 := 2) dX12_inPots_1 rfl (by decide) rfl rfl ?_
  refine pb_iconst (x := nI 0) (pc2 := 3) dX12_inPots_2 (by decide) rfl ?_
  refine pb_istore_n (lv2 := [_, _, _, _]) (pc2 := 4) dX12_inPots_3 rfl (by decide) rfl rfl ?_
  exact w_minPots w hR ht 10 0 (by omega) (by omega)
set_option maxRecDepth 10000 in
theorem w_minPot (hR : pb_RF A h0 h) {p : Nat} (hp : p < 10) : ∀ (m i : Nat), 12 - i ≤ m → i ≤ 12 → pb_S Z mX12_inPot 0 0 0 (pb_E (some (.int (nI (pb_tot A p)))) h) 4 [some (.ref 20), some (.int (nI p)), some (.int (nI (pb_sum i (pb_pot A p)))), some (.int (nI i))] [] h := by
  intro m
  induction m with
  | zero =>
    intro i h1 h2
    have e : i = 12 := by omega
    subst e
    refine pb_iload_n (pc2 := 5) dX12_inPot_4 rfl rfl rfl ?_
    refine pb_bipush (x := nI 12) (pc2 := 7) dX12_inPot_5 (by decide) rfl ?_
    refine pb_icmpN_ge (tgt := 30) (pc2 := 10) dX12_inPot_7 (by decide) rfl (by omega) (by omega) (fun q => ?_) (fun q => ?_)
    · refine pb_iload_n (pc2 := 31) dX12_inPot_30 rfl rfl rfl ?_
      exact pb_ireturn dX12_inPot_31 rfl (⟨rfl, rfl⟩)
    · omega
  | succ m ih =>
    intro i h1 h2
    refine pb_iload_n (pc2 := 5) dX12_inPot_4 rfl rfl rfl ?_
    refine pb_bipush (x := nI 12) (pc2 := 7) dX12_inPot_5 (by decide) rfl ?_
    refine pb_icmpN_ge (tgt := 30) (pc2 := 10) dX12_inPot_7 (by decide) rfl (by omega) (by omega) (fun q => ?_) (fun q => ?_)
    · have e : i = 12 := by omega
      subst e
      refine pb_iload_n (pc2 := 31) dX12_inPot_30 rfl rfl rfl ?_
      exact pb_ireturn dX12_inPot_31 rfl (⟨rfl, rfl⟩)
    · refine pb_iload_n (pc2 := 11) dX12_inPot_10 rfl rfl rfl ?_
      refine pb_aload_n (pc2 := 12) dX12_inPot_11 rfl rfl rfl ?_
      refine pb_getf (pc2 := 15) flX12_44_X12 rfl dX12_inPot_12 (by first | assumption | exact hR.a rfl | exact hR.o | exact hC.a rfl) rfl rfl ?_
      refine pb_bipush (x := nI 12) (pc2 := 17) dX12_inPot_15 (by decide) rfl ?_
      refine pb_iload_n (pc2 := 18) dX12_inPot_17 rfl rfl rfl ?_
      refine pb_imulN (pc2 := 19) dX12_inPot_18 rfl ?_
      refine pb_iload_n (pc2 := 20) dX12_inPot_19 rfl rfl rfl ?_
      refine pb_iaddN (pc2 := 21) dX12_inPot_20 rfl ?_
      refine pb_iald (pc2 := 22) (by first | assumption | exact hR.a rfl | exact hR.o | exact hC.a rfl) ⟨by decide, rfl⟩ dX12_inPot_21 (by omega) (by omega) rfl ?_
      refine pb_iaddN (pc2 := 23) dX12_inPot_22 rfl ?_
      refine pb_istore_n (lv2 := [_, _, _, _]) (pc2 := 24) dX12_inPot_23 rfl (by decide) rfl rfl ?_
      refine pb_iincP (c0 := 1) (lv2 := [_, _, _, _]) (pc2 := 27) dX12_inPot_24 rfl (by decide) rfl rfl ?_
      refine pb_goto (tgt := 4) dX12_inPot_27 (by decide) ?_
      exact ih (i + 1) (by omega) (by omega)
set_option maxRecDepth 10000 in
theorem t_minPot (hR : pb_RF A h0 h) {p : Nat} (hp : p < 10) : pb_T Z mX12_inPot 0 0 0 [.ref 20, .int (nI p)] h (pb_E (some (.int (nI (pb_tot A p)))) h) := by
  refine pb_T.of pnX12_inPot (Nat.le_of_ble_eq_true rfl) (lv := [some (.ref 20), some (.int (nI p)), none, none]) rfl ?_
  refine pb_iconst (x := nI 0) (pc2 := 1) dX12_inPot_0 (by decide) rfl ?_
  refine pb_istore_n (lv2 := [_, _, _, _]) (pc2 := 2) dX12_inPot_1 rfl (by decide) rfl rfl ?_
  refine pb_iconst (x := nI 0) (pc2 := 3) dX12_inPot_2 (by decide) rfl ?_
  refine pb_istore_n (lv2 := [_, _, _, _]) (pc2 := 4) dX12_inPot_3 rfl (by decide) rfl rfl ?_
  exact w_minPot hR hp 12 0 (by omega) (by omega)
set_option maxRecDepth 10000 in
theorem w_mfaded (w : pb_WF A) (hR : pb_RF A h0 h) {t b y : Nat} (ht : t < A 1 0) (hb : b < 8) (hy : y ≤ 99) : ∀ (m i : Nat), y - i ≤ m → i ≤ y → pb_S Z mX12_faded 0 0 0 (pb_E (some (.int (nI (pb_fade (A 3 t) (A 7 (8 * t + b)) y)))) h) 16 [some (.ref 20), some (.int (nI t)), some (.int (nI b)), some (.int (nI y)), some (.int (nI (pb_fade (A 3 t) (A 7 (8 * t + b)) i))), some (.int (nI i))] [] h := by
  have hk := (w.ks ht hb).1
  have hf := (w.cf ht).2
  have htt := w.tubes
  intro m
  induction m with
  | zero =>
    intro i h1 h2
    have e : i = y := by omega
    subst e
    refine pb_iload (pc2 := 18) dX12_faded_16 rfl rfl ?_
    refine pb_iload_n (pc2 := 19) dX12_faded_18 rfl rfl rfl ?_
    refine pb_icmpN_ge (tgt := 52) (pc2 := 22) dX12_faded_19 (by decide) rfl (by omega) (by omega) (fun q => ?_) (fun q => ?_)
    · refine pb_iload (pc2 := 54) dX12_faded_52 rfl rfl ?_
      exact pb_ireturn dX12_faded_54 rfl (⟨rfl, rfl⟩)
    · omega
  | succ m ih =>
    intro i h1 h2
    have hfl := pb_fade_le (A 3 t) (A 7 (8 * t + b)) i
    refine pb_iload (pc2 := 18) dX12_faded_16 rfl rfl ?_
    refine pb_iload_n (pc2 := 19) dX12_faded_18 rfl rfl rfl ?_
    refine pb_icmpN_ge (tgt := 52) (pc2 := 22) dX12_faded_19 (by decide) rfl (by omega) (by omega) (fun q => ?_) (fun q => ?_)
    · have e : i = y := by omega
      subst e
      refine pb_iload (pc2 := 54) dX12_faded_52 rfl rfl ?_
      exact pb_ireturn dX12_faded_54 rfl (⟨rfl, rfl⟩)
    · refine pb_iload (pc2 := 24) dX12_faded_22 rfl rfl ?_
      refine pb_ifN_le (tgt := 52) (pc2 := 27) dX12_faded_24 (by decide) rfl (by omega) (fun c => ?_) (fun c => ?_)
      · refine pb_iload (pc2 := 54) dX12_faded_52 rfl rfl ?_
        exact pb_ireturn dX12_faded_54 rfl (⟨by rw [c, pb_fade_0 _ c y (by omega)], rfl⟩)
      · have hmul : pb_fade (A 3 t) (A 7 (8 * t + b)) i * (1000 - A 3 t) ≤ 999 * 1000 := Nat.mul_le_mul (by omega) (by omega)
        refine pb_iload (pc2 := 29) dX12_faded_27 rfl rfl ?_
        refine pb_sipush (x := nI 1000) (pc2 := 32) dX12_faded_29 (by decide) rfl ?_
        refine pb_aload_n (pc2 := 33) dX12_faded_32 rfl rfl rfl ?_
        refine pb_getf (pc2 := 36) flX12_23_X12 rfl dX12_faded_33 (by first | assumption | exact hR.a rfl | exact hR.o | exact hC.a rfl) rfl rfl ?_
        refine pb_iload_n (pc2 := 37) dX12_faded_36 rfl rfl rfl ?_
        refine pb_iald (pc2 := 38) (by first | assumption | exact hR.a rfl | exact hR.o | exact hC.a rfl) ⟨by decide, rfl⟩ dX12_faded_37 (by omega) (by omega) rfl ?_
        refine pb_isubN (pc2 := 39) dX12_faded_38 (by omega) rfl ?_
        refine pb_imulN (pc2 := 40) dX12_faded_39 rfl ?_
        refine pb_sipush (x := nI 1000) (pc2 := 43) dX12_faded_40 (by decide) rfl ?_
        refine pb_idivN (pc2 := 44) dX12_faded_43 (by omega) (by omega) (by omega) rfl ?_
        refine pb_istore (lv2 := [_, _, _, _, _, _]) (pc2 := 46) dX12_faded_44 (by decide) rfl rfl ?_
        refine pb_iincP (c0 := 1) (lv2 := [_, _, _, _, _, _]) (pc2 := 49) dX12_faded_46 rfl (by decide) rfl rfl ?_
        refine pb_goto (tgt := 16) dX12_faded_49 (by decide) ?_
        exact ih (i + 1) (by omega) (by omega)
set_option maxRecDepth 10000 in
theorem t_mfaded (w : pb_WF A) (hR : pb_RF A h0 h) {t b y : Nat} (ht : t < A 1 0) (hb : b < 8) (hy : y ≤ 99) : pb_T Z mX12_faded 0 0 0 [.ref 20, .int (nI t), .int (nI b), .int (nI y)] h (pb_E (some (.int (nI (pb_fade (A 3 t) (A 7 (8 * t + b)) y)))) h) := by
  have htt := w.tubes
  refine pb_T.of pnX12_faded (Nat.le_of_ble_eq_true rfl) (lv := [some (.ref 20), some (.int (nI t)), some (.int (nI b)), some (.int (nI y)), none, none]) rfl ?_
  refine pb_aload_n (pc2 := 1) dX12_faded_0 rfl rfl rfl ?_
  refine pb_getf (pc2 := 4) flX12_13_X12 rfl dX12_faded_1 (by first | assumption | exact hR.a rfl | exact hR.o | exact hC.a rfl) rfl rfl ?_
  refine pb_bipush (x := nI 8) (pc2 := 6) dX12_faded_4 (by decide) rfl ?_
  refine pb_iload_n (pc2 := 7) dX12_faded_6 rfl rfl rfl ?_
  refine pb_imulN (pc2 := 8) dX12_faded_7 rfl ?_
  refine pb_iload_n (pc2 := 9) dX12_faded_8 rfl rfl rfl ?_
  refine pb_iaddN (pc2 := 10) dX12_faded_9 rfl ?_
  refine pb_iald (pc2 := 11) (by first | assumption | exact hR.a rfl | exact hR.o | exact hC.a rfl) ⟨by decide, rfl⟩ dX12_faded_10 (by omega) (by omega) rfl ?_
  refine pb_istore (lv2 := [_, _, _, _, _, _]) (pc2 := 13) dX12_faded_11 (by decide) rfl rfl ?_
  refine pb_iconst (x := nI 0) (pc2 := 14) dX12_faded_13 (by decide) rfl ?_
  refine pb_istore (lv2 := [_, _, _, _, _, _]) (pc2 := 16) dX12_faded_14 (by decide) rfl rfl ?_
  exact w_mfaded w hR ht hb hy y 0 (by omega) (by omega)
set_option maxRecDepth 10000 in
theorem w_mdrinkOf (w : pb_WF A) (hR : pb_RF A h0 h) {p b : Nat} (hp : p < 10) (hb : b < 8) : ∀ (m i : Nat), A 1 0 - i ≤ m → i ≤ A 1 0 → pb_S Z mX12_drinkOf 0 0 0 (pb_E (some (.long (lN (pb_dk A (pb_pot A p) b 0)))) h) 5 [some (.ref 20), some (.int (nI p)), some (.int (nI b)), some (.long (lN (pb_sum i (fun t => pb_pot A p t * pb_fade (A 3 t) (A 7 (8 * t + b)) 0)))), none, some (.int (nI i))] [] h := by
  have htt := w.tubes
  intro m
  induction m with
  | zero =>
    intro i h1 h2
    have e : i = A 1 0 := by omega
    subst e
    refine pb_iload (pc2 := 7) dX12_drinkOf_5 rfl rfl ?_
    refine pb_aload_n (pc2 := 8) dX12_drinkOf_7 rfl rfl rfl ?_
    refine pb_getf (pc2 := 11) flX12_92_X12 rfl dX12_drinkOf_8 (by first | assumption | exact hR.a rfl | exact hR.o | exact hC.a rfl) rfl rfl ?_
    refine pb_icmpN_ge (tgt := 50) (pc2 := 14) dX12_drinkOf_11 (by decide) rfl (by omega) (by omega) (fun q => ?_) (fun q => ?_)
    · refine pb_lload_n (pc2 := 51) dX12_drinkOf_50 rfl rfl rfl ?_
      exact pb_lreturn dX12_drinkOf_51 rfl (⟨rfl, rfl⟩)
    · omega
  | succ m ih =>
    intro i h1 h2
    refine pb_iload (pc2 := 7) dX12_drinkOf_5 rfl rfl ?_
    refine pb_aload_n (pc2 := 8) dX12_drinkOf_7 rfl rfl rfl ?_
    refine pb_getf (pc2 := 11) flX12_92_X12 rfl dX12_drinkOf_8 (by first | assumption | exact hR.a rfl | exact hR.o | exact hC.a rfl) rfl rfl ?_
    refine pb_icmpN_ge (tgt := 50) (pc2 := 14) dX12_drinkOf_11 (by decide) rfl (by omega) (by omega) (fun q => ?_) (fun q => ?_)
    · have e : i = A 1 0 := by omega
      subst e
      refine pb_lload_n (pc2 := 51) dX12_drinkOf_50 rfl rfl rfl ?_
      exact pb_lreturn dX12_drinkOf_51 rfl (⟨rfl, rfl⟩)
    · have h3 := w.pot hp (show i < 12 by omega)
      have h4 := (w.ks q hb).1
      refine pb_lload_n (pc2 := 15) dX12_drinkOf_14 rfl rfl rfl ?_
      refine pb_aload_n (pc2 := 16) dX12_drinkOf_15 rfl rfl rfl ?_
      refine pb_getf (pc2 := 19) flX12_44_X12 rfl dX12_drinkOf_16 (by first | assumption | exact hR.a rfl | exact hR.o | exact hC.a rfl) rfl rfl ?_
      refine pb_bipush (x := nI 12) (pc2 := 21) dX12_drinkOf_19 (by decide) rfl ?_
      refine pb_iload_n (pc2 := 22) dX12_drinkOf_21 rfl rfl rfl ?_
      refine pb_imulN (pc2 := 23) dX12_drinkOf_22 rfl ?_
      refine pb_iload (pc2 := 25) dX12_drinkOf_23 rfl rfl ?_
      refine pb_iaddN (pc2 := 26) dX12_drinkOf_25 rfl ?_
      refine pb_iald (pc2 := 27) (by first | assumption | exact hR.a rfl | exact hR.o | exact hC.a rfl) ⟨by decide, rfl⟩ dX12_drinkOf_26 (by omega) (by omega) rfl ?_
      refine pb_i2lN (pc2 := 28) dX12_drinkOf_27 (by omega) rfl ?_
      refine pb_aload_n (pc2 := 29) dX12_drinkOf_28 rfl rfl rfl ?_
      refine pb_getf (pc2 := 32) flX12_13_X12 rfl dX12_drinkOf_29 (by first | assumption | exact hR.a rfl | exact hR.o | exact hC.a rfl) rfl rfl ?_
      refine pb_bipush (x := nI 8) (pc2 := 34) dX12_drinkOf_32 (by decide) rfl ?_
      refine pb_iload (pc2 := 36) dX12_drinkOf_34 rfl rfl ?_
      refine pb_imulN (pc2 := 37) dX12_drinkOf_36 rfl ?_
      refine pb_iload_n (pc2 := 38) dX12_drinkOf_37 rfl rfl rfl ?_
      refine pb_iaddN (pc2 := 39) dX12_drinkOf_38 rfl ?_
      refine pb_iald (pc2 := 40) (by first | assumption | exact hR.a rfl | exact hR.o | exact hC.a rfl) ⟨by decide, rfl⟩ dX12_drinkOf_39 (by omega) (by omega) rfl ?_
      refine pb_i2lN (pc2 := 41) dX12_drinkOf_40 (by omega) rfl ?_
      refine pb_lmulN (pc2 := 42) dX12_drinkOf_41 rfl ?_
      refine pb_laddN (pc2 := 43) dX12_drinkOf_42 rfl ?_
      refine pb_lstore_n (lv2 := [_, _, _, _, _, _]) (pc2 := 44) dX12_drinkOf_43 rfl (by decide) rfl rfl ?_
      refine pb_iincP (c0 := 1) (lv2 := [_, _, _, _, _, _]) (pc2 := 47) dX12_drinkOf_44 rfl (by decide) rfl rfl ?_
      refine pb_goto (tgt := 5) dX12_drinkOf_47 (by decide) ?_
      exact ih (i + 1) (by omega) (by omega)
set_option maxRecDepth 10000 in
theorem t_mdrinkOf (w : pb_WF A) (hR : pb_RF A h0 h) {p b : Nat} (hp : p < 10) (hb : b < 8) : pb_T Z mX12_drinkOf 0 0 0 [.ref 20, .int (nI p), .int (nI b)] h (pb_E (some (.long (lN (pb_dk A (pb_pot A p) b 0)))) h) := by
  refine pb_T.of pnX12_drinkOf (Nat.le_of_ble_eq_true rfl) (lv := [some (.ref 20), some (.int (nI p)), some (.int (nI b)), none, none, none]) rfl ?_
  refine pb_lconst (x := lN 0) (pc2 := 1) dX12_drinkOf_0 (by decide) rfl ?_
  refine pb_lstore_n (lv2 := [_, _, _, _, _, _]) (pc2 := 2) dX12_drinkOf_1 rfl (by decide) rfl rfl ?_
  refine pb_iconst (x := nI 0) (pc2 := 3) dX12_drinkOf_2 (by decide) rfl ?_
  refine pb_istore (lv2 := [_, _, _, _, _, _]) (pc2 := 5) dX12_drinkOf_3 (by decide) rfl rfl ?_
  exact w_mdrinkOf w hR hp hb (A 1 0) 0 (by omega) (by omega)
set_option maxRecDepth 10000 in
theorem w_mscatterOf (w : pb_WF A) (hR : pb_RF A h0 h) {p b : Nat} (hp : p < 10) (hb : b < 8) : ∀ (m i : Nat), A 1 0 - i ≤ m → i ≤ A 1 0 → pb_S Z mX12_scatterOf 0 0 0 (pb_E (some (.long (lN (pb_sc A (pb_pot A p) b)))) h) 5 [some (.ref 20), some (.int (nI p)), some (.int (nI b)), some (.long (lN (pb_sum i (fun t => pb_pot A p t * A 8 (8 * t + b))))), none, some (.int (nI i))] [] h := by
  have htt := w.tubes
  intro m
  induction m with
  | zero =>
    intro i h1 h2
    have e : i = A 1 0 := by omega
    subst e
    refine pb_iload (pc2 := 7) dX12_scatterOf_5 rfl rfl ?_
    refine pb_aload_n (pc2 := 8) dX12_scatterOf_7 rfl rfl rfl ?_
    refine pb_getf (pc2 := 11) flX12_92_X12 rfl dX12_scatterOf_8 (by first | assumption | exact hR.a rfl | exact hR.o | exact hC.a rfl) rfl rfl ?_
    refine pb_icmpN_ge (tgt := 50) (pc2 := 14) dX12_scatterOf_11 (by decide) rfl (by omega) (by omega) (fun q => ?_) (fun q => ?_)
    · refine pb_lload_n (pc2 := 51) dX12_scatterOf_50 rfl rfl rfl ?_
      exact pb_lreturn dX12_scatterOf_51 rfl (⟨rfl, rfl⟩)
    · omega
  | succ m ih =>
    intro i h1 h2
    refine pb_iload (pc2 := 7) dX12_scatterOf_5 rfl rfl ?_
    refine pb_aload_n (pc2 := 8) dX12_scatterOf_7 rfl rfl rfl ?_
    refine pb_getf (pc2 := 11) flX12_92_X12 rfl dX12_scatterOf_8 (by first | assumption | exact hR.a rfl | exact hR.o | exact hC.a rfl) rfl rfl ?_
    refine pb_icmpN_ge (tgt := 50) (pc2 := 14) dX12_scatterOf_11 (by decide) rfl (by omega) (by omega) (fun q => ?_) (fun q => ?_)
    · have e : i = A 1 0 := by omega
      subst e
      refine pb_lload_n (pc2 := 51) dX12_scatterOf_50 rfl rfl rfl ?_
      exact pb_lreturn dX12_scatterOf_51 rfl (⟨rfl, rfl⟩)
    · have h3 := w.pot hp (show i < 12 by omega)
      have h4 := (w.ks q hb).2.2
      refine pb_lload_n (pc2 := 15) dX12_scatterOf_14 rfl rfl rfl ?_
      refine pb_aload_n (pc2 := 16) dX12_scatterOf_15 rfl rfl rfl ?_
      refine pb_getf (pc2 := 19) flX12_44_X12 rfl dX12_scatterOf_16 (by first | assumption | exact hR.a rfl | exact hR.o | exact hC.a rfl) rfl rfl ?_
      refine pb_bipush (x := nI 12) (pc2 := 21) dX12_scatterOf_19 (by decide) rfl ?_
      refine pb_iload_n (pc2 := 22) dX12_scatterOf_21 rfl rfl rfl ?_
      refine pb_imulN (pc2 := 23) dX12_scatterOf_22 rfl ?_
      refine pb_iload (pc2 := 25) dX12_scatterOf_23 rfl rfl ?_
      refine pb_iaddN (pc2 := 26) dX12_scatterOf_25 rfl ?_
      refine pb_iald (pc2 := 27) (by first | assumption | exact hR.a rfl | exact hR.o | exact hC.a rfl) ⟨by decide, rfl⟩ dX12_scatterOf_26 (by omega) (by omega) rfl ?_
      refine pb_i2lN (pc2 := 28) dX12_scatterOf_27 (by omega) rfl ?_
      refine pb_aload_n (pc2 := 29) dX12_scatterOf_28 rfl rfl rfl ?_
      refine pb_getf (pc2 := 32) flX12_17_X12 rfl dX12_scatterOf_29 (by first | assumption | exact hR.a rfl | exact hR.o | exact hC.a rfl) rfl rfl ?_
      refine pb_bipush (x := nI 8) (pc2 := 34) dX12_scatterOf_32 (by decide) rfl ?_
      refine pb_iload (pc2 := 36) dX12_scatterOf_34 rfl rfl ?_
      refine pb_imulN (pc2 := 37) dX12_scatterOf_36 rfl ?_
      refine pb_iload_n (pc2 := 38) dX12_scatterOf_37 rfl rfl rfl ?_
      refine pb_iaddN (pc2 := 39) dX12_scatterOf_38 rfl ?_
      refine pb_iald (pc2 := 40) (by first | assumption | exact hR.a rfl | exact hR.o | exact hC.a rfl) ⟨by decide, rfl⟩ dX12_scatterOf_39 (by omega) (by omega) rfl ?_
      refine pb_i2lN (pc2 := 41) dX12_scatterOf_40 (by omega) rfl ?_
      refine pb_lmulN (pc2 := 42) dX12_scatterOf_41 rfl ?_
      refine pb_laddN (pc2 := 43) dX12_scatterOf_42 rfl ?_
      refine pb_lstore_n (lv2 := [_, _, _, _, _, _]) (pc2 := 44) dX12_scatterOf_43 rfl (by decide) rfl rfl ?_
      refine pb_iincP (c0 := 1) (lv2 := [_, _, _, _, _, _]) (pc2 := 47) dX12_scatterOf_44 rfl (by decide) rfl rfl ?_
      refine pb_goto (tgt := 5) dX12_scatterOf_47 (by decide) ?_
      exact ih (i + 1) (by omega) (by omega)
set_option maxRecDepth 10000 in
theorem t_mscatterOf (w : pb_WF A) (hR : pb_RF A h0 h) {p b : Nat} (hp : p < 10) (hb : b < 8) : pb_T Z mX12_scatterOf 0 0 0 [.ref 20, .int (nI p), .int (nI b)] h (pb_E (some (.long (lN (pb_sc A (pb_pot A p) b)))) h) := by
  refine pb_T.of pnX12_scatterOf (Nat.le_of_ble_eq_true rfl) (lv := [some (.ref 20), some (.int (nI p)), some (.int (nI b)), none, none, none]) rfl ?_
  refine pb_lconst (x := lN 0) (pc2 := 1) dX12_scatterOf_0 (by decide) rfl ?_
  refine pb_lstore_n (lv2 := [_, _, _, _, _, _]) (pc2 := 2) dX12_scatterOf_1 rfl (by decide) rfl rfl ?_
  refine pb_iconst (x := nI 0) (pc2 := 3) dX12_scatterOf_2 (by decide) rfl ?_
  refine pb_istore (lv2 := [_, _, _, _, _, _]) (pc2 := 5) dX12_scatterOf_3 (by decide) rfl rfl ?_
  exact w_mscatterOf w hR hp hb (A 1 0) 0 (by omega) (by omega)
set_option maxRecDepth 10000 in
theorem w_mseenBy (w : pb_WF A) (hR : pb_RF A h0 h) {l s : Nat} {F : Nat → Nat} (hl : l < 4) (hs : s < 3) (hF : ∀ b, b < 8 → F b ≤ 10000) (h32 : h 32 = some (.inl (0, 8, fun j => nI (F j)))) : ∀ (m i : Nat) (o8 o9 : Option Value), 8 - i ≤ m → i ≤ 8 → pb_S Z mX12_seenBy 0 0 0 (pb_E (some (.int (nI (pb_see A l s F)))) h) 8 [some (.ref 20), some (.int (nI l)), some (.int (nI s)), some (.long (lN (pb_sum i (fun b => pb_wt A l s b * F b)))), none, some (.long (lN (pb_sum i (pb_wt A l s)))), none, some (.int (nI i)), o8, o9] [] h := by
  have hw8 : pb_sum 8 (pb_wt A l s) ≤ 8 * 9801 := pb_sum_bd (fun b hb => pb_wt_le w hl hs hb)
  have hw9 : pb_sum 8 (fun b => pb_wt A l s b * F b) ≤ 8 * (9801 * 10000) := pb_sum_bd (fun b hb => Nat.mul_le_mul (pb_wt_le w hl hs hb) (hF b hb))
  have fin : ∀ (o8 o9 : Option Value), pb_S Z mX12_seenBy 0 0 0 (pb_E (some (.int (nI (pb_see A l s F)))) h) 70 [some (.ref 20), some (.int (nI l)), some (.int (nI s)), some (.long (lN (pb_sum 8 (fun b => pb_wt A l s b * F b)))), none, some (.long (lN (pb_sum 8 (pb_wt A l s)))), none, some (.int (nI 8)), o8, o9] [] h := by
    intro o8 o9
    refine pb_lload (pc2 := 72) dX12_seenBy_70 rfl rfl ?_
    refine pb_lconst (x := lN 0) (pc2 := 73) dX12_seenBy_72 (by decide) rfl ?_
    refine pb_lcmpN (pc2 := 74) dX12_seenBy_73 (by omega) (by omega) rfl ?_
    refine pb_lifN_ne (tgt := 81) (pc2 := 77) dX12_seenBy_74 (by decide) rfl (fun c => ?_) (fun c => ?_)
    · refine pb_lload_n (pc2 := 82) dX12_seenBy_81 rfl rfl rfl ?_
      refine pb_lload (pc2 := 84) dX12_seenBy_82 rfl rfl ?_
      refine pb_ldivN (pc2 := 85) dX12_seenBy_84 (by omega) (by omega) (by omega) rfl ?_
      refine pb_l2iN (pc2 := 86) dX12_seenBy_85 rfl ?_
      exact pb_ireturn dX12_seenBy_86 rfl (⟨by unfold pb_see; rw [if_neg c], rfl⟩)
    · refine pb_iconst (x := nI 0) (pc2 := 78) dX12_seenBy_77 (by decide) rfl ?_
      refine pb_goto (tgt := 86) dX12_seenBy_78 (by decide) ?_
      exact pb_ireturn dX12_seenBy_86 rfl (⟨by unfold pb_see; rw [if_pos c], rfl⟩)
  intro m
  induction m with
  | zero =>
    intro i o8 o9 h1 h2
    have e : i = 8 := by omega
    subst e
    refine pb_iload (pc2 := 10) dX12_seenBy_8 rfl rfl ?_
    refine pb_bipush (x := nI 8) (pc2 := 12) dX12_seenBy_10 (by decide) rfl ?_
    refine pb_icmpN_ge (tgt := 70) (pc2 := 15) dX12_seenBy_12 (by decide) rfl (by omega) (by omega) (fun q => ?_) (fun q => ?_)
    · exact fin o8 o9
    · omega
  | succ m ih =>
    intro i o8 o9 h1 h2
    refine pb_iload (pc2 := 10) dX12_seenBy_8 rfl rfl ?_
    refine pb_bipush (x := nI 8) (pc2 := 12) dX12_seenBy_10 (by decide) rfl ?_
    refine pb_icmpN_ge (tgt := 70) (pc2 := 15) dX12_seenBy_12 (by decide) rfl (by omega) (by omega) (fun q => ?_) (fun q => ?_)
    · have e : i = 8 := by omega
      subst e
      exact fin o8 o9
    · have u1 := w.lamp (show 8 * l + i < 32 by omega)
      have u2 := w.eye (show 8 * s + i < 24 by omega)
      have u3 : A 9 (8 * l + i) * A 10 (8 * s + i) ≤ 9801 := pb_wt_le w hl hs q
      have u4 := hF i q
      refine pb_aload_n (pc2 := 16) dX12_seenBy_15 rfl rfl rfl ?_
      refine pb_getf (pc2 := 19) flX12_35_X12 rfl dX12_seenBy_16 (by first | assumption | exact hR.a rfl | exact hR.o | exact hC.a rfl) rfl rfl ?_
      refine pb_bipush (x := nI 8) (pc2 := 21) dX12_seenBy_19 (by decide) rfl ?_
      refine pb_iload_n (pc2 := 22) dX12_seenBy_21 rfl rfl rfl ?_
      refine pb_imulN (pc2 := 23) dX12_seenBy_22 rfl ?_
      refine pb_iload (pc2 := 25) dX12_seenBy_23 rfl rfl ?_
      refine pb_iaddN (pc2 := 26) dX12_seenBy_25 rfl ?_
      refine pb_iald (pc2 := 27) (by first | assumption | exact hR.a rfl | exact hR.o | exact hC.a rfl) ⟨by decide, rfl⟩ dX12_seenBy_26 (by omega) (by omega) rfl ?_
      refine pb_aload_n (pc2 := 28) dX12_seenBy_27 rfl rfl rfl ?_
      refine pb_getf (pc2 := 31) flX12_38_X12 rfl dX12_seenBy_28 (by first | assumption | exact hR.a rfl | exact hR.o | exact hC.a rfl) rfl rfl ?_
      refine pb_bipush (x := nI 8) (pc2 := 33) dX12_seenBy_31 (by decide) rfl ?_
      refine pb_iload_n (pc2 := 34) dX12_seenBy_33 rfl rfl rfl ?_
      refine pb_imulN (pc2 := 35) dX12_seenBy_34 rfl ?_
      refine pb_iload (pc2 := 37) dX12_seenBy_35 rfl rfl ?_
      refine pb_iaddN (pc2 := 38) dX12_seenBy_37 rfl ?_
      refine pb_iald (pc2 := 39) (by first | assumption | exact hR.a rfl | exact hR.o | exact hC.a rfl) ⟨by decide, rfl⟩ dX12_seenBy_38 (by omega) (by omega) rfl ?_
      refine pb_imulN (pc2 := 40) dX12_seenBy_39 rfl ?_
      refine pb_i2lN (pc2 := 41) dX12_seenBy_40 (by omega) rfl ?_
      refine pb_lstore (lv2 := [_, _, _, _, _, _, _, _, _, _]) (pc2 := 43) dX12_seenBy_41 (by decide) rfl rfl ?_
      refine pb_lload_n (pc2 := 44) dX12_seenBy_43 rfl rfl rfl ?_
      refine pb_lload (pc2 := 46) dX12_seenBy_44 rfl rfl ?_
      refine pb_aload_n (pc2 := 47) dX12_seenBy_46 rfl rfl rfl ?_
      refine pb_getf (pc2 := 50) flX12_41_X12 rfl dX12_seenBy_47 (by first | assumption | exact hR.a rfl | exact hR.o | exact hC.a rfl) rfl rfl ?_
      refine pb_iload (pc2 := 52) dX12_seenBy_50 rfl rfl ?_
      refine pb_iald (pc2 := 53) (by first | assumption | exact hR.a rfl | exact hR.o | exact hC.a rfl) ⟨by decide, rfl⟩ dX12_seenBy_52 (by omega) (by omega) rfl ?_
      refine pb_i2lN (pc2 := 54) dX12_seenBy_53 (by omega) rfl ?_
      refine pb_lmulN (pc2 := 55) dX12_seenBy_54 rfl ?_
      refine pb_laddN (pc2 := 56) dX12_seenBy_55 rfl ?_
      refine pb_lstore_n (lv2 := [_, _, _, _, _, _, _, _, _, _]) (pc2 := 57) dX12_seenBy_56 rfl (by decide) rfl rfl ?_
      refine pb_lload (pc2 := 59) dX12_seenBy_57 rfl rfl ?_
      refine pb_lload (pc2 := 61) dX12_seenBy_59 rfl rfl ?_
      refine pb_laddN (pc2 := 62) dX12_seenBy_61 rfl ?_
      refine pb_lstore (lv2 := [_, _, _, _, _, _, _, _, _, _]) (pc2 := 64) dX12_seenBy_62 (by decide) rfl rfl ?_
      refine pb_iincP (c0 := 1) (lv2 := [_, _, _, _, _, _, _, _, _, _]) (pc2 := 67) dX12_seenBy_64 rfl (by decide) rfl rfl ?_
      refine pb_goto (tgt := 8) dX12_seenBy_67 (by decide) ?_
      exact ih (i + 1) _ _ (by omega) (by omega)
set_option maxRecDepth 10000 in
theorem t_mseenBy (w : pb_WF A) (hR : pb_RF A h0 h) {l s : Nat} {F : Nat → Nat} (hl : l < 4) (hs : s < 3) (hF : ∀ b, b < 8 → F b ≤ 10000) (h32 : h 32 = some (.inl (0, 8, fun j => nI (F j)))) : pb_T Z mX12_seenBy 0 0 0 [.ref 20, .int (nI l), .int (nI s)] h (pb_E (some (.int (nI (pb_see A l s F)))) h) := by
  refine pb_T.of pnX12_seenBy (Nat.le_of_ble_eq_true rfl) (lv := [some (.ref 20), some (.int (nI l)), some (.int (nI s)), none, none, none, none, none, none, none]) rfl ?_
  refine pb_lconst (x := lN 0) (pc2 := 1) dX12_seenBy_0 (by decide) rfl ?_
  refine pb_lstore_n (lv2 := [_, _, _, _, _, _, _, _, _, _]) (pc2 := 2) dX12_seenBy_1 rfl (by decide) rfl rfl ?_
  refine pb_lconst (x := lN 0) (pc2 := 3) dX12_seenBy_2 (by decide) rfl ?_
  refine pb_lstore (lv2 := [_, _, _, _, _, _, _, _, _, _]) (pc2 := 5) dX12_seenBy_3 (by decide) rfl rfl ?_
  refine pb_iconst (x := nI 0) (pc2 := 6) dX12_seenBy_5 (by decide) rfl ?_
  refine pb_istore (lv2 := [_, _, _, _, _, _, _, _, _, _]) (pc2 := 8) dX12_seenBy_6 (by decide) rfl rfl ?_
  exact w_mseenBy w hR hl hs hF h32 8 0 _ _ (by omega) (by omega)
set_option maxRecDepth 10000 in
theorem t_mapartFrom (w : pb_WF A) (hR : pb_RF A h0 h) {l a b c : Nat} {F : Nat → Nat} (hl : l < 4) (ha : a ≤ 10000) (hb : b ≤ 10000) (hc : c ≤ 10000) (hF : ∀ b, b < 8 → F b ≤ 10000) (h32 : h 32 = some (.inl (0, 8, fun j => nI (F j)))) : pb_T Z mX12_apartFrom 1 0 0 [.ref 20, .int (nI a), .int (nI b), .int (nI c), .int (nI l)] h (pb_E (some (.int (nI (pb_far A l a b c F)))) h) := by
  have e0 := pb_see_le (A := A) (l := l) (s := 0) hF
  have e1 := pb_see_le (A := A) (l := l) (s := 1) hF
  have e2 := pb_see_le (A := A) (l := l) (s := 2) hF
  refine pb_T.of pnX12_apartFrom (Nat.le_of_ble_eq_true rfl) (lv := [some (.ref 20), some (.int (nI a)), some (.int (nI b)), some (.int (nI c)), some (.int (nI l))]) rfl ?_
  refine pb_aload_n (pc2 := 1) dX12_apartFrom_0 rfl rfl rfl ?_
  refine pb_iload (pc2 := 3) dX12_apartFrom_1 rfl rfl ?_
  refine pb_iconst (x := nI 0) (pc2 := 4) dX12_apartFrom_3 (by decide) rfl ?_
  refine pb_callV (pc2 := 7) (k2 := 0) (n2 := 0) mwX12_seenBy pb_cl10.1 iwX12_seenBy seX12_seenBy rfl mlX12_145 dX12_apartFrom_4 (by first | assumption | exact hR.a rfl | exact hR.o | exact hC.a rfl) (t_mseenBy w hR hl (s := 0) (by omega) hF h32) (by omega) (by omega) (by omega) rfl rfl (Nat.le_of_ble_eq_true rfl) rfl (pb_kE ?_)
  refine pb_iload_n (pc2 := 8) dX12_apartFrom_7 rfl rfl rfl ?_
  refine pb_callS (pc2 := 11) (k2 := 0) (n2 := 0) mwX12_off swX12_off rfl mlX12_149 dX12_apartFrom_8 (t_off (by omega) (by omega)) (by omega) (by omega) (by omega) rfl rfl (Nat.le_of_ble_eq_true rfl) rfl (pb_kE ?_)
  refine pb_aload_n (pc2 := 12) dX12_apartFrom_11 rfl rfl rfl ?_
  refine pb_iload (pc2 := 14) dX12_apartFrom_12 rfl rfl ?_
  refine pb_iconst (x := nI 1) (pc2 := 15) dX12_apartFrom_14 (by decide) rfl ?_
  refine pb_callV (pc2 := 18) (k2 := 0) (n2 := 0) mwX12_seenBy pb_cl10.1 iwX12_seenBy seX12_seenBy rfl mlX12_145 dX12_apartFrom_15 (by first | assumption | exact hR.a rfl | exact hR.o | exact hC.a rfl) (t_mseenBy w hR hl (s := 1) (by omega) hF h32) (by omega) (by omega) (by omega) rfl rfl (Nat.le_of_ble_eq_true rfl) rfl (pb_kE ?_)
  refine pb_iload_n (pc2 := 19) dX12_apartFrom_18 rfl rfl rfl ?_
  refine pb_callS (pc2 := 22) (k2 := 0) (n2 := 0) mwX12_off swX12_off rfl mlX12_149 dX12_apartFrom_19 (t_off (by omega) (by omega)) (by omega) (by omega) (by omega) rfl rfl (Nat.le_of_ble_eq_true rfl) rfl (pb_kE ?_)
  refine pb_iaddN (pc2 := 23) dX12_apartFrom_22 rfl ?_
  refine pb_aload_n (pc2 := 24) dX12_apartFrom_23 rfl rfl rfl ?_
  refine pb_iload (pc2 := 26) dX12_apartFrom_24 rfl rfl ?_
  refine pb_iconst (x := nI 2) (pc2 := 27) dX12_apartFrom_26 (by decide) rfl ?_
  refine pb_callV (pc2 := 30) (k2 := 0) (n2 := 0) mwX12_seenBy pb_cl10.1 iwX12_seenBy seX12_seenBy rfl mlX12_145 dX12_apartFrom_27 (by first | assumption | exact hR.a rfl | exact hR.o | exact hC.a rfl) (t_mseenBy w hR hl (s := 2) (by omega) hF h32) (by omega) (by omega) (by omega) rfl rfl (Nat.le_of_ble_eq_true rfl) rfl (pb_kE ?_)
  refine pb_iload_n (pc2 := 31) dX12_apartFrom_30 rfl rfl rfl ?_
  refine pb_callS (pc2 := 34) (k2 := 0) (n2 := 0) mwX12_off swX12_off rfl mlX12_149 dX12_apartFrom_31 (t_off (by omega) (by omega)) (by omega) (by omega) (by omega) rfl rfl (Nat.le_of_ble_eq_true rfl) rfl (pb_kE ?_)
  refine pb_iaddN (pc2 := 35) dX12_apartFrom_34 rfl ?_
  exact pb_ireturn dX12_apartFrom_35 rfl (⟨rfl, rfl⟩)
end PB18

