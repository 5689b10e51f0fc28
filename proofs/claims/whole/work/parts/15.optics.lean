section PB15
variable {Z : pb_Z} {h : pb_H}
theorem t_off {a b : Nat} (ha : a < 2 ^ 31) (hb : b < 2 ^ 31) : pb_T Z mX12_off 0 0 0 [.int (nI a), .int (nI b)] h (pb_E (some (.int (nI (pb_abs a b)))) h) := by
  refine pb_T.of pnX12_off (Nat.le_of_ble_eq_true rfl) (lv := [some (.int (nI a)), some (.int (nI b))]) rfl ?_
  refine pb_iload_n (pc2 := 1) dX12_off_0 rfl rfl rfl ?_
  refine pb_iload_n (pc2 := 2) dX12_off_1 rfl rfl rfl ?_
  refine pb_icmpN_ge (tgt := 11) (pc2 := 5) dX12_off_2 (by decide) rfl (by omega) (by omega) (fun q => ?_) (fun q => ?_)
  · refine pb_iload_n (pc2 := 12) dX12_off_11 rfl rfl rfl ?_
    refine pb_iload_n (pc2 := 13) dX12_off_12 rfl rfl rfl ?_
    refine pb_isubN (pc2 := 14) dX12_off_13 (by omega) rfl ?_
    exact pb_ireturn dX12_off_14 rfl (⟨by unfold pb_abs; rw [show b - a = 0 by omega]; rfl, rfl⟩)
  · refine pb_iload_n (pc2 := 6) dX12_off_5 rfl rfl rfl ?_
    refine pb_iload_n (pc2 := 7) dX12_off_6 rfl rfl rfl ?_
    refine pb_isubN (pc2 := 8) dX12_off_7 (by omega) rfl ?_
    refine pb_goto (tgt := 14) dX12_off_8 (by decide) ?_
    exact pb_ireturn dX12_off_14 rfl (⟨by unfold pb_abs; rw [show a - b = 0 by omega, Nat.zero_add], rfl⟩)
set_option maxRecDepth 10000 in
theorem w_root {v : Nat} (hv : v < 9 * 10 ^ 18) : ∀ (n low high : Nat) (o6 o7 : Option Value), high - low ≤ n → low < high → high ≤ 3000000000 → low * low ≤ v → v < high * high → pb_S Z mX12_root 0 0 0 (pb_E (some (.long (lN (pb_root v)))) h) 7 [some (.long (lN v)), none, some (.long (lN low)), none, some (.long (lN high)), none, o6, o7] [] h := by
  intro n
  induction n with
  | zero => intro low high _ _ h1 h2; omega
  | succ n ih =>
    intro low high o6 o7 h1 h2 h3 h4 h5
    refine pb_lload (pc2 := 9) dX12_root_7 rfl rfl ?_
    refine pb_lload_n (pc2 := 10) dX12_root_9 rfl rfl rfl ?_
    refine pb_lsubN (pc2 := 11) dX12_root_10 (by omega) rfl ?_
    refine pb_lconst (x := lN 1) (pc2 := 12) dX12_root_11 (by decide) rfl ?_
    refine pb_lcmpN (pc2 := 13) dX12_root_12 (by omega) (by omega) rfl ?_
    refine pb_lifN_le (tgt := 49) (pc2 := 16) dX12_root_13 (by decide) rfl (fun q => ?_) (fun q => ?_)
    · refine pb_lload_n (pc2 := 50) dX12_root_49 rfl rfl rfl ?_
      have e : high = low + 1 := by omega
      subst e
      exact pb_lreturn dX12_root_50 rfl (⟨by rw [pb_root_uniq h4 h5], rfl⟩)
    · refine pb_lload_n (pc2 := 17) dX12_root_16 rfl rfl rfl ?_
      refine pb_lload (pc2 := 19) dX12_root_17 rfl rfl ?_
      refine pb_laddN (pc2 := 20) dX12_root_19 rfl ?_
      refine pb_ldc2 (x := lN 2) (pc2 := 23) dX12_root_20 kcX12_125 rfl ?_
      refine pb_ldivN (pc2 := 24) dX12_root_23 (by omega) (by omega) (by omega) rfl ?_
      refine pb_lstore (lv2 := [_, _, _, _, _, _, _, _]) (pc2 := 26) dX12_root_24 (by decide) rfl rfl ?_
      have hm1 : low < (low + high) / 2 := by omega
      have hm2 : (low + high) / 2 < high := by omega
      generalize (low + high) / 2 = mid at hm1 hm2 ⊢
      have hmm : mid * mid ≤ 3000000000 * 3000000000 := Nat.mul_le_mul (by omega) (by omega)
      refine pb_lload (pc2 := 28) dX12_root_26 rfl rfl ?_
      refine pb_lload (pc2 := 30) dX12_root_28 rfl rfl ?_
      refine pb_lmulN (pc2 := 31) dX12_root_30 rfl ?_
      refine pb_lload_n (pc2 := 32) dX12_root_31 rfl rfl rfl ?_
      refine pb_lcmpN (pc2 := 33) dX12_root_32 (by omega) (by omega) rfl ?_
      refine pb_lifN_gt (tgt := 42) (pc2 := 36) dX12_root_33 (by decide) rfl (fun q2 => ?_) (fun q2 => ?_)
      · refine pb_lload (pc2 := 44) dX12_root_42 rfl rfl ?_
        refine pb_lstore (lv2 := [_, _, _, _, _, _, _, _]) (pc2 := 46) dX12_root_44 (by decide) rfl rfl ?_
        refine pb_goto (tgt := 7) dX12_root_46 (by decide) ?_
        exact ih low mid _ _ (by omega) (by omega) (by omega) h4 q2
      · refine pb_lload (pc2 := 38) dX12_root_36 rfl rfl ?_
        refine pb_lstore_n (lv2 := [_, _, _, _, _, _, _, _]) (pc2 := 39) dX12_root_38 rfl (by decide) rfl rfl ?_
        refine pb_goto (tgt := 46) dX12_root_39 (by decide) ?_
        refine pb_goto (tgt := 7) dX12_root_46 (by decide) ?_
        exact ih mid high _ _ (by omega) (by omega) (by omega) q2 h5
set_option maxRecDepth 10000 in
theorem t_root {v : Nat} (hv : v < 9 * 10 ^ 18) : pb_T Z mX12_root 0 0 0 [.long (lN v)] h (pb_E (some (.long (lN (pb_root v)))) h) := by
  refine pb_T.of pnX12_root (Nat.le_of_ble_eq_true rfl) (lv := [some (.long (lN v)), none, none, none, none, none, none, none]) rfl ?_
  refine pb_lconst (x := lN 0) (pc2 := 1) dX12_root_0 (by decide) rfl ?_
  refine pb_lstore_n (lv2 := [_, _, _, _, _, _, _, _]) (pc2 := 2) dX12_root_1 rfl (by decide) rfl rfl ?_
  refine pb_ldc2 (x := lN 3000000000) (pc2 := 5) dX12_root_2 kcX12_123 rfl ?_
  refine pb_lstore (lv2 := [_, _, _, _, _, _, _, _]) (pc2 := 7) dX12_root_5 (by decide) rfl rfl ?_
  exact w_root hv 3000000000 0 3000000000 _ _ (by omega) (by omega) (by omega) (by omega) (by omega)
theorem pb_q_le {k s : Nat} (hs : 0 < s) (hk : k ≤ 999 * s) : pb_q k s ≤ 9990000 := by
  unfold pb_q
  apply Nat.div_le_of_le_mul
  omega
theorem pb_sq_le {q : Nat} (hq : q ≤ 9990000) : q * q ≤ 99800100000000 := Nat.mul_le_mul hq hq
set_option maxRecDepth 10000 in
theorem t_thickBy {kk s : Nat} (hs : 0 < s) (hk : kk ≤ 999 * s) (hs2 : s < 2 ^ 31) : pb_T Z mX12_thickBy 1 0 0 [.long (lN kk), .long (lN s)] h (pb_E (some (.int (nI (pb_thick kk s)))) h) := by
  have hq := pb_q_le hs hk
  have hqq := pb_sq_le hq
  have hr := pb_root_q (pb_q kk s)
  refine pb_T.of pnX12_thickBy (Nat.le_of_ble_eq_true rfl) (lv := [some (.long (lN kk)), none, some (.long (lN s)), none, none, none]) rfl ?_
  refine pb_ldc2 (x := lN 10000) (pc2 := 3) dX12_thickBy_0 kcX12_127 rfl ?_
  refine pb_lload_n (pc2 := 4) dX12_thickBy_3 rfl rfl rfl ?_
  refine pb_lmulN (pc2 := 5) dX12_thickBy_4 rfl ?_
  refine pb_lload_n (pc2 := 6) dX12_thickBy_5 rfl rfl rfl ?_
  refine pb_ldivN (pc2 := 7) dX12_thickBy_6 (by omega) (by omega) (by omega) rfl ?_
  refine pb_top (v2 := .long (lN (pb_q kk s))) rfl ?_
  refine pb_lstore (lv2 := [_, _, _, _, _, _]) (pc2 := 9) dX12_thickBy_7 (by decide) rfl rfl ?_
  refine pb_ldc2 (x := lN 10000) (pc2 := 12) dX12_thickBy_9 kcX12_127 rfl ?_
  refine pb_lload (pc2 := 14) dX12_thickBy_12 rfl rfl ?_
  refine pb_laddN (pc2 := 15) dX12_thickBy_14 rfl ?_
  refine pb_lload (pc2 := 17) dX12_thickBy_15 rfl rfl ?_
  refine pb_lload (pc2 := 19) dX12_thickBy_17 rfl rfl ?_
  refine pb_lmulN (pc2 := 20) dX12_thickBy_19 rfl ?_
  refine pb_ldc2 (x := lN 20000) (pc2 := 23) dX12_thickBy_20 kcX12_129 rfl ?_
  refine pb_lload (pc2 := 25) dX12_thickBy_23 rfl rfl ?_
  refine pb_lmulN (pc2 := 26) dX12_thickBy_25 rfl ?_
  refine pb_laddN (pc2 := 27) dX12_thickBy_26 rfl ?_
  refine pb_callS (pc2 := 30) (k2 := 0) (n2 := 0) mwX12_root swX12_root rfl mlX12_131 dX12_thickBy_27 (t_root (by omega)) (by omega) (by omega) (by omega) rfl rfl (Nat.le_of_ble_eq_true rfl) rfl (pb_kE ?_)
  refine pb_lsubN (pc2 := 31) dX12_thickBy_30 (by omega) rfl ?_
  refine pb_l2iN (pc2 := 32) dX12_thickBy_31 rfl ?_
  exact pb_ireturn dX12_thickBy_32 rfl (⟨rfl, rfl⟩)
set_option maxRecDepth 10000 in
theorem t_thinBy {kk s g : Nat} (hs : 0 < kk + s) (hk : kk + s ≤ 10000000) (hg : g ≤ 10000) : pb_T Z mX12_thinBy 0 0 0 [.long (lN kk), .long (lN s), .int (nI g)] h (pb_E (some (.int (nI (pb_thin (pb_ta kk s) (pb_tb kk s) g)))) h) := by
  have e1 : 2000 * kk / (8 * (kk + s)) = pb_ta kk s := by
    unfold pb_ta
    rw [show 2000 * kk = 8 * (250 * kk) by omega, Nat.mul_div_mul_left _ _ (by omega)]
  have e2 : 2000 * s / (8 * (kk + s)) = pb_tb kk s := by
    unfold pb_tb
    rw [show 2000 * s = 8 * (250 * s) by omega, Nat.mul_div_mul_left _ _ (by omega)]
  have hab := pb_tab kk s
  refine pb_T.of pnX12_thinBy (Nat.le_of_ble_eq_true rfl) (lv := [some (.long (lN kk)), none, some (.long (lN s)), none, some (.int (nI g)), none, none, none, none, none, none]) rfl ?_
  refine pb_ldc2 (x := lN 2000) (pc2 := 3) dX12_thinBy_0 kcX12_135 rfl ?_
  refine pb_lload_n (pc2 := 4) dX12_thinBy_3 rfl rfl rfl ?_
  refine pb_lmulN (pc2 := 5) dX12_thinBy_4 rfl ?_
  refine pb_ldc2 (x := lN 8) (pc2 := 8) dX12_thinBy_5 kcX12_137 rfl ?_
  refine pb_lload_n (pc2 := 9) dX12_thinBy_8 rfl rfl rfl ?_
  refine pb_lload_n (pc2 := 10) dX12_thinBy_9 rfl rfl rfl ?_
  refine pb_laddN (pc2 := 11) dX12_thinBy_10 rfl ?_
  refine pb_lmulN (pc2 := 12) dX12_thinBy_11 rfl ?_
  refine pb_ldivN (pc2 := 13) dX12_thinBy_12 (by omega) (by omega) (by omega) rfl ?_
  refine pb_top (v2 := .long (lN (pb_ta kk s))) (by rw [e1]) ?_
  refine pb_lstore (lv2 := [_, _, _, _, _, _, _, _, _, _, _]) (pc2 := 15) dX12_thinBy_13 (by decide) rfl rfl ?_
  refine pb_ldc2 (x := lN 2000) (pc2 := 18) dX12_thinBy_15 kcX12_135 rfl ?_
  refine pb_lload_n (pc2 := 19) dX12_thinBy_18 rfl rfl rfl ?_
  refine pb_lmulN (pc2 := 20) dX12_thinBy_19 rfl ?_
  refine pb_ldc2 (x := lN 8) (pc2 := 23) dX12_thinBy_20 kcX12_137 rfl ?_
  refine pb_lload_n (pc2 := 24) dX12_thinBy_23 rfl rfl rfl ?_
  refine pb_lload_n (pc2 := 25) dX12_thinBy_24 rfl rfl rfl ?_
  refine pb_laddN (pc2 := 26) dX12_thinBy_25 rfl ?_
  refine pb_lmulN (pc2 := 27) dX12_thinBy_26 rfl ?_
  refine pb_ldivN (pc2 := 28) dX12_thinBy_27 (by omega) (by omega) (by omega) rfl ?_
  refine pb_top (v2 := .long (lN (pb_tb kk s))) (by rw [e2]) ?_
  generalize pb_ta kk s = a at hab ⊢
  generalize pb_tb kk s = b at hab ⊢
  have hbg : b * g ≤ 250 * 10000 := Nat.mul_le_mul (by omega) hg
  have htt : (10000 - a - b) * (10000 - a - b) ≤ 10000 * 10000 := Nat.mul_le_mul (by omega) (by omega)
  have htg : (10000 - a - b) * (10000 - a - b) * g ≤ 10000 * 10000 * 10000 := Nat.mul_le_mul htt hg
  refine pb_lstore (lv2 := [_, _, _, _, _, _, _, _, _, _, _]) (pc2 := 30) dX12_thinBy_28 (by decide) rfl rfl ?_
  refine pb_ldc2 (x := lN 10000) (pc2 := 33) dX12_thinBy_30 kcX12_127 rfl ?_
  refine pb_lload (pc2 := 35) dX12_thinBy_33 rfl rfl ?_
  refine pb_lsubN (pc2 := 36) dX12_thinBy_35 (by omega) rfl ?_
  refine pb_lload (pc2 := 38) dX12_thinBy_36 rfl rfl ?_
  refine pb_lsubN (pc2 := 39) dX12_thinBy_38 (by omega) rfl ?_
  refine pb_lstore (lv2 := [_, _, _, _, _, _, _, _, _, _, _]) (pc2 := 41) dX12_thinBy_39 (by decide) rfl rfl ?_
  refine pb_lload (pc2 := 43) dX12_thinBy_41 rfl rfl ?_
  refine pb_lload (pc2 := 45) dX12_thinBy_43 rfl rfl ?_
  refine pb_lload (pc2 := 47) dX12_thinBy_45 rfl rfl ?_
  refine pb_lmulN (pc2 := 48) dX12_thinBy_47 rfl ?_
  refine pb_iload (pc2 := 50) dX12_thinBy_48 rfl rfl ?_
  refine pb_i2lN (pc2 := 51) dX12_thinBy_50 (by omega) rfl ?_
  refine pb_lmulN (pc2 := 52) dX12_thinBy_51 rfl ?_
  refine pb_ldc2 (x := lN 100000000) (pc2 := 55) dX12_thinBy_52 kcX12_139 rfl ?_
  refine pb_lload (pc2 := 57) dX12_thinBy_55 rfl rfl ?_
  refine pb_iload (pc2 := 59) dX12_thinBy_57 rfl rfl ?_
  refine pb_i2lN (pc2 := 60) dX12_thinBy_59 (by omega) rfl ?_
  refine pb_lmulN (pc2 := 61) dX12_thinBy_60 rfl ?_
  refine pb_lsubN (pc2 := 62) dX12_thinBy_61 (by omega) rfl ?_
  refine pb_ldivN (pc2 := 63) dX12_thinBy_62 (by omega) (by omega) (by omega) rfl ?_
  refine pb_laddN (pc2 := 64) dX12_thinBy_63 rfl ?_
  refine pb_l2iN (pc2 := 65) dX12_thinBy_64 rfl ?_
  exact pb_ireturn dX12_thinBy_65 rfl (⟨rfl, rfl⟩)
set_option maxRecDepth 10000 in
theorem w_layerBy {kk s n : Nat} (hs : 0 < kk + s) (hk : kk + s ≤ 10000000) (hn : n ≤ 1000) {g0 : Nat} : ∀ (m i v : Nat), n - i ≤ m → i ≤ n → v ≤ 10000 → pb_S Z mX12_layerBy 1 0 0 (pb_E (some (.int (nI (pb_lay (pb_ta kk s) (pb_tb kk s) (n - i) v)))) h) 7 [some (.long (lN kk)), none, some (.long (lN s)), none, some (.int (nI n)), some (.int (nI g0)), some (.int (nI v)), some (.int (nI i))] [] h := by
  intro m
  induction m with
  | zero =>
    intro i v h1 h2 h3
    refine pb_iload (pc2 := 9) dX12_layerBy_7 rfl rfl ?_
    refine pb_iload (pc2 := 11) dX12_layerBy_9 rfl rfl ?_
    refine pb_icmpN_ge (tgt := 29) (pc2 := 14) dX12_layerBy_11 (by decide) rfl (by omega) (by omega) (fun q => ?_) (fun q => ?_)
    · refine pb_iload (pc2 := 31) dX12_layerBy_29 rfl rfl ?_
      rw [show n - i = 0 by omega]
      exact pb_ireturn dX12_layerBy_31 rfl (⟨rfl, rfl⟩)
    · omega
  | succ m ih =>
    intro i v h1 h2 h3
    refine pb_iload (pc2 := 9) dX12_layerBy_7 rfl rfl ?_
    refine pb_iload (pc2 := 11) dX12_layerBy_9 rfl rfl ?_
    refine pb_icmpN_ge (tgt := 29) (pc2 := 14) dX12_layerBy_11 (by decide) rfl (by omega) (by omega) (fun q => ?_) (fun q => ?_)
    · refine pb_iload (pc2 := 31) dX12_layerBy_29 rfl rfl ?_
      rw [show n - i = 0 by omega]
      exact pb_ireturn dX12_layerBy_31 rfl (⟨rfl, rfl⟩)
    · refine pb_lload_n (pc2 := 15) dX12_layerBy_14 rfl rfl rfl ?_
      refine pb_lload_n (pc2 := 16) dX12_layerBy_15 rfl rfl rfl ?_
      refine pb_iload (pc2 := 18) dX12_layerBy_16 rfl rfl ?_
      refine pb_callS (pc2 := 21) (k2 := 0) (n2 := 0) mwX12_thinBy swX12_thinBy rfl mlX12_141 dX12_layerBy_18 (t_thinBy hs hk h3) (by omega) (by omega) (by omega) rfl rfl (Nat.le_of_ble_eq_true rfl) rfl (pb_kE ?_)
      refine pb_istore (lv2 := [_, _, _, _, _, _, _, _]) (pc2 := 23) dX12_layerBy_21 (by decide) rfl rfl ?_
      refine pb_iincP (c0 := 1) (lv2 := [_, _, _, _, _, _, _, _]) (pc2 := 26) dX12_layerBy_23 rfl (by decide) rfl rfl ?_
      refine pb_goto (tgt := 7) dX12_layerBy_26 (by decide) ?_
      have e : n - i = (n - (i + 1)) + 1 := by omega
      rw [e]
      exact ih (i + 1) _ (by omega) (by omega) (pb_thin_le (pb_tab kk s) h3)
set_option maxRecDepth 10000 in
theorem t_layerBy {kk s n g : Nat} (hs : 0 < kk + s) (hk : kk + s ≤ 10000000) (hn : n ≤ 1000) (hg : g ≤ 10000) : pb_T Z mX12_layerBy 1 0 0 [.long (lN kk), .long (lN s), .int (nI n), .int (nI g)] h (pb_E (some (.int (nI (pb_lay (pb_ta kk s) (pb_tb kk s) n g)))) h) := by
  refine pb_T.of pnX12_layerBy (Nat.le_of_ble_eq_true rfl) (lv := [some (.long (lN kk)), none, some (.long (lN s)), none, some (.int (nI n)), some (.int (nI g)), none, none]) rfl ?_
  refine pb_iload (pc2 := 2) dX12_layerBy_0 rfl rfl ?_
  refine pb_istore (lv2 := [_, _, _, _, _, _, _, _]) (pc2 := 4) dX12_layerBy_2 (by decide) rfl rfl ?_
  refine pb_iconst (x := nI 0) (pc2 := 5) dX12_layerBy_4 (by decide) rfl ?_
  refine pb_istore (lv2 := [_, _, _, _, _, _, _, _]) (pc2 := 7) dX12_layerBy_5 (by decide) rfl rfl ?_
  exact w_layerBy hs hk hn n 0 g (by omega) (by omega) hg
-- the class's
set_option maxRecDepth 10000 in
theorem w_thickSent {q S r : Nat} (k0 s0 : Nat) (hq : q ≤ 9990000) (hS : S = q * q + 20000 * q) (hr : r = pb_root S) : ∀ (n i x : Nat) (o9 o10 : Option Value), 64 - i ≤ n → i ≤ 64 → r ≤ x → x ≤ 10000 + q → (x - r) * 2 ^ i ≤ 2 ^ 24 → pb_S Z mX7_thickSent 0 0 0 (pb_E (some (.int (nI (10000 + q - r)))) h) 37 [some (.int (nI k0)), some (.int (nI s0)), some (.long (lN q)), none, some (.long (lN S)), none, some (.long (lN x)), none, some (.int (nI i)), o9, o10] [] h := by
  have hqq := pb_sq_le hq
  have hrr := pb_root_q q
  rw [← hS, ← hr] at hrr
  have ho := pb_root_ok S
  rw [← hr] at ho
  have fin : ∀ (x i : Nat) (o9 o10 : Option Value), x = r → pb_S Z mX7_thickSent 0 0 0 (pb_E (some (.int (nI (10000 + q - r)))) h) 86 [some (.int (nI k0)), some (.int (nI s0)), some (.long (lN q)), none, some (.long (lN S)), none, some (.long (lN x)), none, some (.int (nI i)), o9, o10] [] h := by
    intro x i o9 o10 e
    subst e
    refine pb_ldc2 (x := lN 10000) (pc2 := 89) dX7_thickSent_86 kcX7_9 rfl ?_
    refine pb_lload_n (pc2 := 90) dX7_thickSent_89 rfl rfl rfl ?_
    refine pb_laddN (pc2 := 91) dX7_thickSent_90 rfl ?_
    refine pb_lload (pc2 := 93) dX7_thickSent_91 rfl rfl ?_
    refine pb_lsubN (pc2 := 94) dX7_thickSent_93 (by omega) rfl ?_
    refine pb_l2iN (pc2 := 95) dX7_thickSent_94 rfl ?_
    exact pb_ireturn dX7_thickSent_95 rfl (⟨rfl, rfl⟩)
  intro n
  induction n with
  | zero =>
    intro i x o9 o10 h1 h2 h3 h4 h5
    have e : i = 64 := by omega
    subst e
    have ex : x = r := by
      by_cases z : x = r
      · exact z
      · exfalso
        have : 1 * 2 ^ 64 ≤ (x - r) * 2 ^ 64 := Nat.mul_le_mul_right _ (by omega)
        omega
    refine pb_iload (pc2 := 39) dX7_thickSent_37 rfl rfl ?_
    refine pb_bipush (x := nI 64) (pc2 := 41) dX7_thickSent_39 (by decide) rfl ?_
    refine pb_icmpN_ge (tgt := 86) (pc2 := 44) dX7_thickSent_41 (by decide) rfl (by omega) (by omega) (fun c => ?_) (fun c => ?_)
    · exact fin x 64 o9 o10 ex
    · omega
  | succ n ih =>
    intro i x o9 o10 h1 h2 h3 h4 h5
    refine pb_iload (pc2 := 39) dX7_thickSent_37 rfl rfl ?_
    refine pb_bipush (x := nI 64) (pc2 := 41) dX7_thickSent_39 (by decide) rfl ?_
    refine pb_icmpN_ge (tgt := 86) (pc2 := 44) dX7_thickSent_41 (by decide) rfl (by omega) (by omega) (fun c => ?_) (fun c => ?_)
    · refine fin x i o9 o10 ?_
      have e : i = 64 := by omega
      subst e
      by_cases z : x = r
      · exact z
      · exfalso
        have : 1 * 2 ^ 64 ≤ (x - r) * 2 ^ 64 := Nat.mul_le_mul_right _ (by omega)
        omega
    · refine pb_lload (pc2 := 46) dX7_thickSent_44 rfl rfl ?_
      refine pb_lconst (x := lN 0) (pc2 := 47) dX7_thickSent_46 (by decide) rfl ?_
      refine pb_lcmpN (pc2 := 48) dX7_thickSent_47 (by omega) (by omega) rfl ?_
      refine pb_lifN_le (tgt := 86) (pc2 := 51) dX7_thickSent_48 (by decide) rfl (fun c2 => ?_) (fun c2 => ?_)
      · exact fin x i o9 o10 (by omega)
      · refine pb_lload (pc2 := 53) dX7_thickSent_51 rfl rfl ?_
        refine pb_lload (pc2 := 55) dX7_thickSent_53 rfl rfl ?_
        refine pb_lload (pc2 := 57) dX7_thickSent_55 rfl rfl ?_
        have hdl : S / x ≤ S := Nat.div_le_self _ _
        refine pb_ldivN (pc2 := 58) dX7_thickSent_57 (by omega) (by omega) (by omega) rfl ?_
        refine pb_laddN (pc2 := 59) dX7_thickSent_58 rfl ?_
        refine pb_ldc2 (x := lN 2) (pc2 := 62) dX7_thickSent_59 kcX7_15 rfl ?_
        refine pb_ldivN (pc2 := 63) dX7_thickSent_62 (by omega) (by omega) (by omega) rfl ?_
        refine pb_lstore (lv2 := [_, _, _, _, _, _, _, _, _, _, _]) (pc2 := 65) dX7_thickSent_63 (by decide) rfl rfl ?_
        refine pb_lload (pc2 := 67) dX7_thickSent_65 rfl rfl ?_
        refine pb_lload (pc2 := 69) dX7_thickSent_67 rfl rfl ?_
        refine pb_lcmpN (pc2 := 70) dX7_thickSent_69 (by omega) (by omega) rfl ?_
        by_cases z : x = r
        · have hge : r ≤ (x + S / x) / 2 := by
            have : r ≤ S / x := by
              rw [Nat.le_div_iff_mul_le (by omega), z]
              exact ho.1
            generalize S / x = w at *
            omega
          refine pb_lifN_lt (tgt := 76) (pc2 := 73) dX7_thickSent_70 (by decide) rfl (fun c3 => ?_) (fun c3 => ?_)
          · omega
          · refine pb_goto (tgt := 86) dX7_thickSent_73 (by decide) ?_
            exact fin x i _ _ z
        · obtain ⟨n1, n2, n3⟩ := pb_newton ho.1 ho.2 (show r < x by omega)
          refine pb_lifN_lt (tgt := 76) (pc2 := 73) dX7_thickSent_70 (by decide) rfl (fun c3 => ?_) (fun c3 => ?_)
          · refine pb_lload (pc2 := 78) dX7_thickSent_76 rfl rfl ?_
            refine pb_lstore (lv2 := [_, _, _, _, _, _, _, _, _, _, _]) (pc2 := 80) dX7_thickSent_78 (by decide) rfl rfl ?_
            refine pb_iincP (c0 := 1) (lv2 := [_, _, _, _, _, _, _, _, _, _, _]) (pc2 := 83) dX7_thickSent_80 rfl (by decide) rfl rfl ?_
            refine pb_goto (tgt := 37) dX7_thickSent_83 (by decide) ?_
            refine ih (i + 1) _ _ _ (by omega) (by omega) n1 (by omega) ?_
            refine Nat.le_trans ?_ h5
            rw [Nat.pow_succ, Nat.mul_comm (2 ^ i) 2, ← Nat.mul_assoc]
            refine Nat.mul_le_mul_right _ ?_
            rw [Nat.mul_comm]
            exact n2
          · omega
set_option maxRecDepth 10000 in
theorem t_thickSent {kk s : Nat} (hs : 0 < s) (hk : kk ≤ 999 * s) (hs2 : s < 2 ^ 31) (hk2 : kk < 2 ^ 31) : pb_T Z mX7_thickSent 0 0 0 [.int (nI kk), .int (nI s)] h (pb_E (some (.int (nI (pb_thick kk s)))) h) := by
  have hq := pb_q_le hs hk
  have hqq := pb_sq_le hq
  have hrr := pb_root_q (pb_q kk s)
  refine pb_T.of pnX7_thickSent (Nat.le_of_ble_eq_true rfl) (lv := [some (.int (nI kk)), some (.int (nI s)), none, none, none, none, none, none, none, none, none]) rfl ?_
  refine pb_iload_n (pc2 := 1) dX7_thickSent_0 rfl rfl rfl ?_
  refine pb_ifN_gt (tgt := 6) (pc2 := 4) dX7_thickSent_1 (by decide) rfl (by omega) (fun c => ?_) (fun c => ?_)
  · refine pb_ldc2 (x := lN 10000) (pc2 := 9) dX7_thickSent_6 kcX7_9 rfl ?_
    refine pb_iload_n (pc2 := 10) dX7_thickSent_9 rfl rfl rfl ?_
    refine pb_i2lN (pc2 := 11) dX7_thickSent_10 (by omega) rfl ?_
    refine pb_lmulN (pc2 := 12) dX7_thickSent_11 rfl ?_
    refine pb_iload_n (pc2 := 13) dX7_thickSent_12 rfl rfl rfl ?_
    refine pb_i2lN (pc2 := 14) dX7_thickSent_13 (by omega) rfl ?_
    refine pb_ldivN (pc2 := 15) dX7_thickSent_14 (by omega) (by omega) (by omega) rfl ?_
    refine pb_top (v2 := .long (lN (pb_q kk s))) rfl ?_
    refine pb_lstore_n (lv2 := [_, _, _, _, _, _, _, _, _, _, _]) (pc2 := 16) dX7_thickSent_15 rfl (by decide) rfl rfl ?_
    refine pb_lload_n (pc2 := 17) dX7_thickSent_16 rfl rfl rfl ?_
    refine pb_lload_n (pc2 := 18) dX7_thickSent_17 rfl rfl rfl ?_
    refine pb_lmulN (pc2 := 19) dX7_thickSent_18 rfl ?_
    refine pb_ldc2 (x := lN 20000) (pc2 := 22) dX7_thickSent_19 kcX7_11 rfl ?_
    refine pb_lload_n (pc2 := 23) dX7_thickSent_22 rfl rfl rfl ?_
    refine pb_lmulN (pc2 := 24) dX7_thickSent_23 rfl ?_
    refine pb_laddN (pc2 := 25) dX7_thickSent_24 rfl ?_
    refine pb_lstore (lv2 := [_, _, _, _, _, _, _, _, _, _, _]) (pc2 := 27) dX7_thickSent_25 (by decide) rfl rfl ?_
    refine pb_ldc2 (x := lN 10000) (pc2 := 30) dX7_thickSent_27 kcX7_9 rfl ?_
    refine pb_lload_n (pc2 := 31) dX7_thickSent_30 rfl rfl rfl ?_
    refine pb_laddN (pc2 := 32) dX7_thickSent_31 rfl ?_
    refine pb_lstore (lv2 := [_, _, _, _, _, _, _, _, _, _, _]) (pc2 := 34) dX7_thickSent_32 (by decide) rfl rfl ?_
    refine pb_iconst (x := nI 0) (pc2 := 35) dX7_thickSent_34 (by decide) rfl ?_
    refine pb_istore (lv2 := [_, _, _, _, _, _, _, _, _, _, _]) (pc2 := 37) dX7_thickSent_35 (by decide) rfl rfl ?_
    refine w_thickSent kk s hq rfl rfl 64 0 _ _ _ (by omega) (by omega) (by omega) (by omega) ?_
    omega
  · omega
theorem t_thinTake {kk s : Nat} (hs : 0 < kk + s) (hk : kk + s ≤ 2000000) : pb_T Z mX7_thinTake 0 0 0 [.int (nI kk), .int (nI s)] h (pb_E (some (.int (nI (pb_ta kk s)))) h) := by
  refine pb_T.of pnX7_thinTake (Nat.le_of_ble_eq_true rfl) (lv := [some (.int (nI kk)), some (.int (nI s)), none]) rfl ?_
  refine pb_iload_n (pc2 := 1) dX7_thinTake_0 rfl rfl rfl ?_
  refine pb_iload_n (pc2 := 2) dX7_thinTake_1 rfl rfl rfl ?_
  refine pb_iaddN (pc2 := 3) dX7_thinTake_2 rfl ?_
  refine pb_istore_n (lv2 := [_, _, _]) (pc2 := 4) dX7_thinTake_3 rfl (by decide) rfl rfl ?_
  refine pb_iload_n (pc2 := 5) dX7_thinTake_4 rfl rfl rfl ?_
  refine pb_ifN_gt (tgt := 12) (pc2 := 8) dX7_thinTake_5 (by decide) rfl (by omega) (fun c => ?_) (fun c => ?_)
  · refine pb_sipush (x := nI 250) (pc2 := 15) dX7_thinTake_12 (by decide) rfl ?_
    refine pb_iload_n (pc2 := 16) dX7_thinTake_15 rfl rfl rfl ?_
    refine pb_imulN (pc2 := 17) dX7_thinTake_16 rfl ?_
    refine pb_iload_n (pc2 := 18) dX7_thinTake_17 rfl rfl rfl ?_
    refine pb_idivN (pc2 := 19) dX7_thinTake_18 (by omega) (by omega) (by omega) rfl ?_
    exact pb_ireturn dX7_thinTake_19 rfl (⟨rfl, rfl⟩)
  · omega
theorem t_thinSend {kk s : Nat} (hs : 0 < kk + s) (hk : kk + s ≤ 2000000) : pb_T Z mX7_thinSend 0 0 0 [.int (nI kk), .int (nI s)] h (pb_E (some (.int (nI (pb_tb kk s)))) h) := by
  refine pb_T.of pnX7_thinSend (Nat.le_of_ble_eq_true rfl) (lv := [some (.int (nI kk)), some (.int (nI s)), none]) rfl ?_
  refine pb_iload_n (pc2 := 1) dX7_thinSend_0 rfl rfl rfl ?_
  refine pb_iload_n (pc2 := 2) dX7_thinSend_1 rfl rfl rfl ?_
  refine pb_iaddN (pc2 := 3) dX7_thinSend_2 rfl ?_
  refine pb_istore_n (lv2 := [_, _, _]) (pc2 := 4) dX7_thinSend_3 rfl (by decide) rfl rfl ?_
  refine pb_iload_n (pc2 := 5) dX7_thinSend_4 rfl rfl rfl ?_
  refine pb_ifN_gt (tgt := 12) (pc2 := 8) dX7_thinSend_5 (by decide) rfl (by omega) (fun c => ?_) (fun c => ?_)
  · refine pb_sipush (x := nI 250) (pc2 := 15) dX7_thinSend_12 (by decide) rfl ?_
    refine pb_iload_n (pc2 := 16) dX7_thinSend_15 rfl rfl rfl ?_
    refine pb_imulN (pc2 := 17) dX7_thinSend_16 rfl ?_
    refine pb_iload_n (pc2 := 18) dX7_thinSend_17 rfl rfl rfl ?_
    refine pb_idivN (pc2 := 19) dX7_thinSend_18 (by omega) (by omega) (by omega) rfl ?_
    exact pb_ireturn dX7_thinSend_19 rfl (⟨rfl, rfl⟩)
  · omega
set_option maxRecDepth 10000 in
theorem t_thin {a b g : Nat} (hab : a + b ≤ 250) (hg : g ≤ 10000) : pb_T Z mX7_thin 0 0 0 [.int (nI a), .int (nI b), .int (nI g)] h (pb_E (some (.int (nI (pb_thin a b g)))) h) := by
  have hbg : b * g ≤ 250 * 10000 := Nat.mul_le_mul (by omega) hg
  have htt : (10000 - a - b) * (10000 - a - b) ≤ 10000 * 10000 := Nat.mul_le_mul (by omega) (by omega)
  have htg : (10000 - a - b) * (10000 - a - b) * g ≤ 10000 * 10000 * 10000 := Nat.mul_le_mul htt hg
  refine pb_T.of pnX7_thin (Nat.le_of_ble_eq_true rfl) (lv := [some (.int (nI a)), some (.int (nI b)), some (.int (nI g)), none, none, none, none]) rfl ?_
  refine pb_sipush (x := nI 10000) (pc2 := 3) dX7_thin_0 (by decide) rfl ?_
  refine pb_iload_n (pc2 := 4) dX7_thin_3 rfl rfl rfl ?_
  refine pb_isubN (pc2 := 5) dX7_thin_4 (by omega) rfl ?_
  refine pb_iload_n (pc2 := 6) dX7_thin_5 rfl rfl rfl ?_
  refine pb_isubN (pc2 := 7) dX7_thin_6 (by omega) rfl ?_
  refine pb_i2lN (pc2 := 8) dX7_thin_7 (by omega) rfl ?_
  refine pb_lstore_n (lv2 := [_, _, _, _, _, _, _]) (pc2 := 9) dX7_thin_8 rfl (by decide) rfl rfl ?_
  refine pb_ldc2 (x := lN 100000000) (pc2 := 12) dX7_thin_9 kcX7_17 rfl ?_
  refine pb_iload_n (pc2 := 13) dX7_thin_12 rfl rfl rfl ?_
  refine pb_i2lN (pc2 := 14) dX7_thin_13 (by omega) rfl ?_
  refine pb_iload_n (pc2 := 15) dX7_thin_14 rfl rfl rfl ?_
  refine pb_i2lN (pc2 := 16) dX7_thin_15 (by omega) rfl ?_
  refine pb_lmulN (pc2 := 17) dX7_thin_16 rfl ?_
  refine pb_lsubN (pc2 := 18) dX7_thin_17 (by omega) rfl ?_
  refine pb_lstore (lv2 := [_, _, _, _, _, _, _]) (pc2 := 20) dX7_thin_18 (by decide) rfl rfl ?_
  refine pb_lload (pc2 := 22) dX7_thin_20 rfl rfl ?_
  refine pb_lconst (x := lN 0) (pc2 := 23) dX7_thin_22 (by decide) rfl ?_
  refine pb_lcmpN (pc2 := 24) dX7_thin_23 (by omega) (by omega) rfl ?_
  refine pb_lifN_gt (tgt := 31) (pc2 := 27) dX7_thin_24 (by decide) rfl (fun c => ?_) (fun c => ?_)
  · refine pb_iload_n (pc2 := 32) dX7_thin_31 rfl rfl rfl ?_
    refine pb_i2lN (pc2 := 33) dX7_thin_32 (by omega) rfl ?_
    refine pb_lload_n (pc2 := 34) dX7_thin_33 rfl rfl rfl ?_
    refine pb_lload_n (pc2 := 35) dX7_thin_34 rfl rfl rfl ?_
    refine pb_lmulN (pc2 := 36) dX7_thin_35 rfl ?_
    refine pb_iload_n (pc2 := 37) dX7_thin_36 rfl rfl rfl ?_
    refine pb_i2lN (pc2 := 38) dX7_thin_37 (by omega) rfl ?_
    refine pb_lmulN (pc2 := 39) dX7_thin_38 rfl ?_
    refine pb_lload (pc2 := 41) dX7_thin_39 rfl rfl ?_
    refine pb_ldivN (pc2 := 42) dX7_thin_41 (by omega) (by omega) (by omega) rfl ?_
    refine pb_laddN (pc2 := 43) dX7_thin_42 rfl ?_
    refine pb_l2iN (pc2 := 44) dX7_thin_43 rfl ?_
    exact pb_ireturn dX7_thin_44 rfl (⟨rfl, rfl⟩)
  · omega
set_option maxRecDepth 10000 in
theorem w_layered {a b n g0 : Nat} (hab : a + b ≤ 250) (hn : n ≤ 1000) : ∀ (m i v : Nat) (o6 : Option Value), n - i ≤ m → i ≤ n → v ≤ 10000 → pb_S Z mX7_layered 1 0 0 (pb_E (some (.int (nI (pb_lay a b (n - i) v)))) h) 6 [some (.int (nI a)), some (.int (nI b)), some (.int (nI n)), some (.int (nI g0)), some (.int (nI v)), some (.int (nI i)), o6] [] h := by
  intro m
  induction m with
  | zero =>
    intro i v o6 h1 h2 h3
    refine pb_iload (pc2 := 8) dX7_layered_6 rfl rfl ?_
    refine pb_iload_n (pc2 := 9) dX7_layered_8 rfl rfl rfl ?_
    refine pb_icmpN_ge (tgt := 41) (pc2 := 12) dX7_layered_9 (by decide) rfl (by omega) (by omega) (fun q => ?_) (fun q => ?_)
    · refine pb_iload (pc2 := 43) dX7_layered_41 rfl rfl ?_
      rw [show n - i = 0 by omega]
      exact pb_ireturn dX7_layered_43 rfl (⟨rfl, rfl⟩)
    · omega
  | succ m ih =>
    intro i v o6 h1 h2 h3
    refine pb_iload (pc2 := 8) dX7_layered_6 rfl rfl ?_
    refine pb_iload_n (pc2 := 9) dX7_layered_8 rfl rfl rfl ?_
    refine pb_icmpN_ge (tgt := 41) (pc2 := 12) dX7_layered_9 (by decide) rfl (by omega) (by omega) (fun q => ?_) (fun q => ?_)
    · refine pb_iload (pc2 := 43) dX7_layered_41 rfl rfl ?_
      rw [show n - i = 0 by omega]
      exact pb_ireturn dX7_layered_43 rfl (⟨rfl, rfl⟩)
    · have hle := pb_thin_le hab h3
      have e : n - i = (n - (i + 1)) + 1 := by omega
      refine pb_iload_n (pc2 := 13) dX7_layered_12 rfl rfl rfl ?_
      refine pb_iload_n (pc2 := 14) dX7_layered_13 rfl rfl rfl ?_
      refine pb_iload (pc2 := 16) dX7_layered_14 rfl rfl ?_
      refine pb_callS (pc2 := 19) (k2 := 0) (n2 := 0) mwX7_thin swX7_thin rfl mlX7_19 dX7_layered_16 (t_thin hab h3) (by omega) (by omega) (by omega) rfl rfl (Nat.le_of_ble_eq_true rfl) rfl (pb_kE ?_)
      refine pb_istore (lv2 := [_, _, _, _, _, _, _]) (pc2 := 21) dX7_layered_19 (by decide) rfl rfl ?_
      refine pb_iload (pc2 := 23) dX7_layered_21 rfl rfl ?_
      refine pb_iload (pc2 := 25) dX7_layered_23 rfl rfl ?_
      refine pb_icmpN_ne (tgt := 31) (pc2 := 28) dX7_layered_25 (by decide) rfl (by omega) (by omega) (fun c => ?_) (fun c => ?_)
      · refine pb_iload (pc2 := 33) dX7_layered_31 rfl rfl ?_
        refine pb_istore (lv2 := [_, _, _, _, _, _, _]) (pc2 := 35) dX7_layered_33 (by decide) rfl rfl ?_
        refine pb_iincP (c0 := 1) (lv2 := [_, _, _, _, _, _, _]) (pc2 := 38) dX7_layered_35 rfl (by decide) rfl rfl ?_
        refine pb_goto (tgt := 6) dX7_layered_38 (by decide) ?_
        rw [e]
        exact ih (i + 1) _ _ (by omega) (by omega) hle
      · refine pb_iload (pc2 := 30) dX7_layered_28 rfl rfl ?_
        exact pb_ireturn dX7_layered_30 rfl (⟨by rw [pb_lay_fix c], rfl⟩)
set_option maxRecDepth 10000 in
theorem t_layered {a b n g : Nat} (hab : a + b ≤ 250) (hn : n ≤ 1000) (hg : g ≤ 10000) : pb_T Z mX7_layered 1 0 0 [.int (nI a), .int (nI b), .int (nI n), .int (nI g)] h (pb_E (some (.int (nI (pb_lay a b n g)))) h) := by
  refine pb_T.of pnX7_layered (Nat.le_of_ble_eq_true rfl) (lv := [some (.int (nI a)), some (.int (nI b)), some (.int (nI n)), some (.int (nI g)), none, none, none]) rfl ?_
  refine pb_iload_n (pc2 := 1) dX7_layered_0 rfl rfl rfl ?_
  refine pb_istore (lv2 := [_, _, _, _, _, _, _]) (pc2 := 3) dX7_layered_1 (by decide) rfl rfl ?_
  refine pb_iconst (x := nI 0) (pc2 := 4) dX7_layered_3 (by decide) rfl ?_
  refine pb_istore (lv2 := [_, _, _, _, _, _, _]) (pc2 := 6) dX7_layered_4 (by decide) rfl rfl ?_
  exact w_layered hab hn n 0 g _ (by omega) (by omega) hg
end PB15

