theorem pb_swO {x : Int32} {m : Nat} (hm : m < 2 ^ 31) (h : ∀ k, k ≤ m → ¬ x = nI k) : x.toInt < 0 ∨ (m : Int) < x.toInt := by
  by_cases h1 : x.toInt < 0
  · exact Or.inl h1
  · by_cases h2 : (m : Int) < x.toInt
    · exact Or.inr h2
    · exfalso
      refine h x.toInt.toNat (by omega) (Int32.toInt_inj.mp ?_)
      rw [nI_toInt (by omega)]
      omega
section PB19
variable {Z : pb_Z} {h h0 : pb_H} {A : pb_A}
def sp_tubeI (A : pb_A) (i : Nat) : pb_A := pb_wf (pb_wf A 7 (fun j => if 8 * A 1 0 ≤ j ∧ j < 8 * A 1 0 + i then 100 else A 7 j)) 8 (fun j => if 8 * A 1 0 ≤ j ∧ j < 8 * A 1 0 + i then 100 else A 8 j)
theorem sp_tubeI_0 (A : pb_A) : sp_tubeI A 0 = A := by
  funext f j
  unfold sp_tubeI pb_wf
  grind
theorem sp_tubeI_s (A : pb_A) (i : Nat) : pb_wf (pb_wf (sp_tubeI A i) 7 (pb_un (sp_tubeI A i 7) (8 * A 1 0 + i) 100)) 8 (pb_un (sp_tubeI A i 8) (8 * A 1 0 + i) 100) = sp_tubeI A (i + 1) := by
  funext f j
  unfold sp_tubeI pb_wf pb_un
  grind
set_option maxRecDepth 10000 in
theorem r_tube (w : pb_WF A) (hR : pb_RF A h h) (c f n : Int32) : pb_T Z mX12_tube 1 0 0 [.ref 20, .int c, .int f, .int n] h (pb_PR (sp_tube A c f n) h) := by
  have ht := w.tubes
  refine pb_T.of pnX12_tube (Nat.le_of_ble_eq_true rfl) (lv := [some (.ref 20), some (.int c), some (.int f), some (.int n), none]) rfl ?_
  refine pb_iload_n (pc2 := 1) dX12_tube_0 rfl rfl rfl ?_
  refine pb_iconst (x := nI 0) (pc2 := 2) dX12_tube_1 (by decide) rfl ?_
  refine pb_sipush (x := nI 999) (pc2 := 5) dX12_tube_2 (by decide) rfl ?_
  refine pb_callS (pc2 := 8) (k2 := 0) (n2 := 0) mwX12_in swX12_in rfl mlX12_95 dX12_tube_5 (t_in c (nI 0) (nI 999)) (by omega) (by omega) (by omega) rfl rfl (Nat.le_of_ble_eq_true rfl) rfl (pb_kB ?_ ?_)
  rotate_left
  · intro q1
    refine pb_ifT_eq (tgt := 33) dX12_tube_8 (by decide) rfl ?_
    refine pb_iconst (x := -1) (pc2 := 34) dX12_tube_33 (by decide) rfl ?_
    exact pb_ireturn dX12_tube_34 rfl (pb_fin (if_neg (fun z => q1 z.1)) hR)
  intro q1
  refine pb_ifF_eq (tgt := 33) (pc2 := 11) dX12_tube_8 (by decide) rfl (by decide) ?_
  refine pb_iload_n (pc2 := 12) dX12_tube_11 rfl rfl rfl ?_
  refine pb_iconst (x := nI 0) (pc2 := 13) dX12_tube_12 (by decide) rfl ?_
  refine pb_sipush (x := nI 999) (pc2 := 16) dX12_tube_13 (by decide) rfl ?_
  refine pb_callS (pc2 := 19) (k2 := 0) (n2 := 0) mwX12_in swX12_in rfl mlX12_95 dX12_tube_16 (t_in f (nI 0) (nI 999)) (by omega) (by omega) (by omega) rfl rfl (Nat.le_of_ble_eq_true rfl) rfl (pb_kB ?_ ?_)
  rotate_left
  · intro q2
    refine pb_ifT_eq (tgt := 33) dX12_tube_19 (by decide) rfl ?_
    refine pb_iconst (x := -1) (pc2 := 34) dX12_tube_33 (by decide) rfl ?_
    exact pb_ireturn dX12_tube_34 rfl (pb_fin (if_neg (fun z => q2 z.2.1)) hR)
  intro q2
  refine pb_ifF_eq (tgt := 33) (pc2 := 22) dX12_tube_19 (by decide) rfl (by decide) ?_
  refine pb_iload_n (pc2 := 23) dX12_tube_22 rfl rfl rfl ?_
  refine pb_iconst (x := nI 0) (pc2 := 24) dX12_tube_23 (by decide) rfl ?_
  refine pb_sipush (x := nI 9999) (pc2 := 27) dX12_tube_24 (by decide) rfl ?_
  refine pb_callS (pc2 := 30) (k2 := 0) (n2 := 0) mwX12_in swX12_in rfl mlX12_95 dX12_tube_27 (t_in n (nI 0) (nI 9999)) (by omega) (by omega) (by omega) rfl rfl (Nat.le_of_ble_eq_true rfl) rfl (pb_kB ?_ ?_)
  rotate_left
  · intro q3
    refine pb_ifF_ne (tgt := 35) (pc2 := 33) dX12_tube_30 rfl rfl (by decide) ?_
    refine pb_iconst (x := -1) (pc2 := 34) dX12_tube_33 (by decide) rfl ?_
    exact pb_ireturn dX12_tube_34 rfl (pb_fin (if_neg (fun z => q3 z.2.2)) hR)
  intro q3
  refine pb_ifT_ne (tgt := 35) dX12_tube_30 (by decide) (by decide) ?_
  have e0 : sp_tube A c f n = if A 1 0 = 12 then (-3, A) else (nI (A 1 0), sp_newTube A (pb_nat c) (pb_nat f) (pb_nat n)) := if_pos ⟨q1, q2, q3⟩
  rw [e0]
  obtain ⟨c, -, hc, rfl⟩ := nI_rng (by omega) q1 (by omega)
  obtain ⟨f, -, hf, rfl⟩ := nI_rng (by omega) q2 (by omega)
  obtain ⟨n, -, hn, rfl⟩ := nI_rng (by omega) q3 (by omega)
  rw [pb_natN (by omega), pb_natN (by omega), pb_natN (by omega)]
  refine pb_aload_n (pc2 := 36) dX12_tube_35 rfl rfl rfl ?_
  refine pb_getf (pc2 := 39) flX12_92_X12 rfl dX12_tube_36 (by first | assumption | exact hR.a rfl | exact hR.o | exact hC.a rfl) rfl rfl ?_
  refine pb_bipush (x := nI 12) (pc2 := 41) dX12_tube_39 (by decide) rfl ?_
  refine pb_icmpN_ne (tgt := 47) (pc2 := 44) dX12_tube_41 (by decide) rfl (by omega) (by omega) (fun c1 => ?_) (fun c1 => ?_)
  · have loop : ∀ (m i : Nat) (h' : pb_H), 8 - i < m → i ≤ 8 → pb_RF (sp_tubeI A i) h h' → pb_S Z mX12_tube 1 0 0 (pb_PR (if A 1 0 = 12 then (-3, A) else (nI (A 1 0), sp_newTube A c f n)) h) 50 [some (.ref 20), some (.int (nI c)), some (.int (nI f)), some (.int (nI n)), some (.int (nI i))] [] h' := by
      intro m
      induction m with
      | zero => intro i h' h1; omega
      | succ m ih =>
        intro i h' h1 h2 hR
        refine pb_iload (pc2 := 52) dX12_tube_50 rfl rfl ?_
        refine pb_bipush (x := nI 8) (pc2 := 54) dX12_tube_52 (by decide) rfl ?_
        refine pb_icmpN_ge (tgt := 97) (pc2 := 57) dX12_tube_54 (by decide) rfl (by omega) (by omega) (fun q => ?_) (fun q => ?_)
        · have e : i = 8 := by omega
          subst e
          refine pb_aload_n (pc2 := 98) dX12_tube_97 rfl rfl rfl ?_
          refine pb_getf (pc2 := 101) flX12_20_X12 rfl dX12_tube_98 (by first | assumption | exact hR.a rfl | exact hR.o | exact hC.a rfl) rfl rfl ?_
          refine pb_aload_n (pc2 := 102) dX12_tube_101 rfl rfl rfl ?_
          refine pb_getf (v := .int (nI (A 1 0))) (pc2 := 105) flX12_92_X12 rfl dX12_tube_102 (by first | assumption | exact hR.a rfl | exact hR.o | exact hC.a rfl) rfl rfl ?_
          refine pb_iload_n (pc2 := 106) dX12_tube_105 rfl rfl rfl ?_
          refine pb_iastR (pc2 := 107) hR rfl dX12_tube_106 (by omega) rfl (fun h_ hR => ?_)
          refine pb_aload_n (pc2 := 108) dX12_tube_107 rfl rfl rfl ?_
          refine pb_getf (pc2 := 111) flX12_23_X12 rfl dX12_tube_108 (by first | assumption | exact hR.a rfl | exact hR.o | exact hC.a rfl) rfl rfl ?_
          refine pb_aload_n (pc2 := 112) dX12_tube_111 rfl rfl rfl ?_
          refine pb_getf (v := .int (nI (A 1 0))) (pc2 := 115) flX12_92_X12 rfl dX12_tube_112 (by first | assumption | exact hR.a rfl | exact hR.o | exact hC.a rfl) rfl rfl ?_
          refine pb_iload_n (pc2 := 116) dX12_tube_115 rfl rfl rfl ?_
          refine pb_iastR (pc2 := 117) hR rfl dX12_tube_116 (by omega) rfl (fun h_ hR => ?_)
          refine pb_aload_n (pc2 := 118) dX12_tube_117 rfl rfl rfl ?_
          refine pb_getf (pc2 := 121) flX12_26_X12 rfl dX12_tube_118 (by first | assumption | exact hR.a rfl | exact hR.o | exact hC.a rfl) rfl rfl ?_
          refine pb_aload_n (pc2 := 122) dX12_tube_121 rfl rfl rfl ?_
          refine pb_getf (v := .int (nI (A 1 0))) (pc2 := 125) flX12_92_X12 rfl dX12_tube_122 (by first | assumption | exact hR.a rfl | exact hR.o | exact hC.a rfl) rfl rfl ?_
          refine pb_iload_n (pc2 := 126) dX12_tube_125 rfl rfl rfl ?_
          refine pb_iastR (pc2 := 127) hR rfl dX12_tube_126 (by omega) rfl (fun h_ hR => ?_)
          refine pb_aload_n (pc2 := 128) dX12_tube_127 rfl rfl rfl ?_
          refine pb_dup (pc2 := 129) dX12_tube_128 rfl rfl ?_
          refine pb_getf (v := .int (nI (A 1 0))) (pc2 := 132) flX12_92_X12 rfl dX12_tube_129 (by first | assumption | exact hR.a rfl | exact hR.o | exact hC.a rfl) rfl rfl ?_
          refine pb_iconst (x := nI 1) (pc2 := 133) dX12_tube_132 (by decide) rfl ?_
          refine pb_iaddN (pc2 := 134) dX12_tube_133 rfl ?_
          refine pb_putR hR flX12_92_X12 rfl dX12_tube_134 rfl rfl rfl 1 (fun _ => A 1 0 + 1) (by omega) rfl rfl (fun h_ hR => ?_)
          refine pb_aload_n (pc2 := 138) dX12_tube_137 rfl rfl rfl ?_
          refine pb_getf (v := .int (nI (A 1 0 + 1))) (pc2 := 141) flX12_92_X12 rfl dX12_tube_138 (by first | assumption | exact hR.a rfl | exact hR.o | exact hC.a rfl) rfl rfl ?_
          refine pb_iconst (x := nI 1) (pc2 := 142) dX12_tube_141 (by decide) rfl ?_
          refine pb_isubN (pc2 := 143) dX12_tube_142 (by omega) rfl ?_
          exact pb_ireturn dX12_tube_143 rfl (pb_fin (if_neg c1) hR)
        · refine pb_aload_n (pc2 := 58) dX12_tube_57 rfl rfl rfl ?_
          refine pb_getf (pc2 := 61) flX12_13_X12 rfl dX12_tube_58 (by first | assumption | exact hR.a rfl | exact hR.o | exact hC.a rfl) rfl rfl ?_
          refine pb_bipush (x := nI 8) (pc2 := 63) dX12_tube_61 (by decide) rfl ?_
          refine pb_aload_n (pc2 := 64) dX12_tube_63 rfl rfl rfl ?_
          refine pb_getf (v := .int (nI (A 1 0))) (pc2 := 67) flX12_92_X12 rfl dX12_tube_64 (by first | assumption | exact hR.a rfl | exact hR.o | exact hC.a rfl) rfl rfl ?_
          refine pb_imulN (pc2 := 68) dX12_tube_67 rfl ?_
          refine pb_iload (pc2 := 70) dX12_tube_68 rfl rfl ?_
          refine pb_iaddN (pc2 := 71) dX12_tube_70 rfl ?_
          refine pb_bipush (x := nI 100) (pc2 := 73) dX12_tube_71 (by decide) rfl ?_
          refine pb_iastR (pc2 := 74) hR rfl dX12_tube_73 (by omega) rfl (fun h_ hR => ?_)
          refine pb_aload_n (pc2 := 75) dX12_tube_74 rfl rfl rfl ?_
          refine pb_getf (pc2 := 78) flX12_17_X12 rfl dX12_tube_75 (by first | assumption | exact hR.a rfl | exact hR.o | exact hC.a rfl) rfl rfl ?_
          refine pb_bipush (x := nI 8) (pc2 := 80) dX12_tube_78 (by decide) rfl ?_
          refine pb_aload_n (pc2 := 81) dX12_tube_80 rfl rfl rfl ?_
          refine pb_getf (v := .int (nI (A 1 0))) (pc2 := 84) flX12_92_X12 rfl dX12_tube_81 (by first | assumption | exact hR.a rfl | exact hR.o | exact hC.a rfl) rfl rfl ?_
          refine pb_imulN (pc2 := 85) dX12_tube_84 rfl ?_
          refine pb_iload (pc2 := 87) dX12_tube_85 rfl rfl ?_
          refine pb_iaddN (pc2 := 88) dX12_tube_87 rfl ?_
          refine pb_bipush (x := nI 100) (pc2 := 90) dX12_tube_88 (by decide) rfl ?_
          refine pb_iastR (pc2 := 91) hR rfl dX12_tube_90 (by omega) rfl (fun h_ hR => ?_)
          refine pb_iincP (c0 := 1) (lv2 := [_, _, _, _, _]) (pc2 := 94) dX12_tube_91 rfl (by decide) rfl rfl ?_
          refine pb_goto (tgt := 50) dX12_tube_94 (by decide) ?_
          exact ih (i + 1) _ (by omega) (by omega) (sp_tubeI_s A i ▸ hR)
    refine pb_iconst (x := nI 0) (pc2 := 48) dX12_tube_47 (by decide) rfl ?_
    refine pb_istore (lv2 := [_, _, _, _, _]) (pc2 := 50) dX12_tube_48 (by decide) rfl rfl ?_
    exact loop 9 0 h (by omega) (by omega) (by rw [sp_tubeI_0]; exact hR)
  · refine pb_bipush (x := -3) (pc2 := 46) dX12_tube_44 (by decide) rfl ?_
    exact pb_ireturn dX12_tube_46 rfl (pb_fin (if_pos c1) hR)
set_option maxRecDepth 10000 in
theorem r_band (w : pb_WF A) (hR : pb_RF A h h) (t b k s : Int32) : pb_T Z mX12_band 2 0 0 [.ref 20, .int t, .int b, .int k, .int s] h (pb_PR (sp_band A t b k s) h) := by
  have ht := w.tubes
  refine pb_T.of pnX12_band (Nat.le_of_ble_eq_true rfl) (lv := [some (.ref 20), some (.int t), some (.int b), some (.int k), some (.int s)]) rfl ?_
  refine pb_aload_n (pc2 := 1) dX12_band_0 rfl rfl rfl ?_
  refine pb_iload_n (pc2 := 2) dX12_band_1 rfl rfl rfl ?_
  refine pb_callV (pc2 := 5) (k2 := 0) (n2 := 0) mwX12_isTube pb_cl10.1 iwX12_isTube seX12_isTube rfl mlX12_99 dX12_band_2 (by first | assumption | exact hR.a rfl | exact hR.o | exact hC.a rfl) (t_misTube hR t) (by omega) (by omega) (by omega) rfl rfl (Nat.le_of_ble_eq_true rfl) rfl (pb_kB ?_ ?_)
  rotate_left
  · intro q1
    refine pb_ifT_eq (tgt := 38) dX12_band_5 (by decide) rfl ?_
    refine pb_iconst (x := -1) (pc2 := 39) dX12_band_38 (by decide) rfl ?_
    exact pb_ireturn dX12_band_39 rfl (pb_fin (if_neg (fun z => q1 z.1)) hR)
  intro q1
  refine pb_ifF_eq (tgt := 38) (pc2 := 8) dX12_band_5 (by decide) rfl (by decide) ?_
  refine pb_iload_n (pc2 := 9) dX12_band_8 rfl rfl rfl ?_
  refine pb_callS (pc2 := 12) (k2 := 0) (n2 := 0) mwX12_isBand swX12_isBand rfl mlX12_103 dX12_band_9 (t_misBand b) (by omega) (by omega) (by omega) rfl rfl (Nat.le_of_ble_eq_true rfl) rfl (pb_kB ?_ ?_)
  rotate_left
  · intro q2
    refine pb_ifT_eq (tgt := 38) dX12_band_12 (by decide) rfl ?_
    refine pb_iconst (x := -1) (pc2 := 39) dX12_band_38 (by decide) rfl ?_
    exact pb_ireturn dX12_band_39 rfl (pb_fin (if_neg (fun z => q2 z.2.1)) hR)
  intro q2
  refine pb_ifF_eq (tgt := 38) (pc2 := 15) dX12_band_12 (by decide) rfl (by decide) ?_
  refine pb_iload_n (pc2 := 16) dX12_band_15 rfl rfl rfl ?_
  refine pb_iconst (x := nI 0) (pc2 := 17) dX12_band_16 (by decide) rfl ?_
  refine pb_sipush (x := nI 999) (pc2 := 20) dX12_band_17 (by decide) rfl ?_
  refine pb_callS (pc2 := 23) (k2 := 0) (n2 := 0) mwX12_in swX12_in rfl mlX12_95 dX12_band_20 (t_in k (nI 0) (nI 999)) (by omega) (by omega) (by omega) rfl rfl (Nat.le_of_ble_eq_true rfl) rfl (pb_kB ?_ ?_)
  rotate_left
  · intro q3
    refine pb_ifT_eq (tgt := 38) dX12_band_23 (by decide) rfl ?_
    refine pb_iconst (x := -1) (pc2 := 39) dX12_band_38 (by decide) rfl ?_
    exact pb_ireturn dX12_band_39 rfl (pb_fin (if_neg (fun z => q3 z.2.2.1)) hR)
  intro q3
  refine pb_ifF_eq (tgt := 38) (pc2 := 26) dX12_band_23 (by decide) rfl (by decide) ?_
  refine pb_iload (pc2 := 28) dX12_band_26 rfl rfl ?_
  refine pb_iconst (x := nI 1) (pc2 := 29) dX12_band_28 (by decide) rfl ?_
  refine pb_sipush (x := nI 999) (pc2 := 32) dX12_band_29 (by decide) rfl ?_
  refine pb_callS (pc2 := 35) (k2 := 0) (n2 := 0) mwX12_in swX12_in rfl mlX12_95 dX12_band_32 (t_in s (nI 1) (nI 999)) (by omega) (by omega) (by omega) rfl rfl (Nat.le_of_ble_eq_true rfl) rfl (pb_kB ?_ ?_)
  rotate_left
  · intro q4
    refine pb_ifF_ne (tgt := 40) (pc2 := 38) dX12_band_35 rfl rfl (by decide) ?_
    refine pb_iconst (x := -1) (pc2 := 39) dX12_band_38 (by decide) rfl ?_
    exact pb_ireturn dX12_band_39 rfl (pb_fin (if_neg (fun z => q4 z.2.2.2)) hR)
  intro q4
  refine pb_ifT_ne (tgt := 40) dX12_band_35 (by decide) (by decide) ?_
  have e0 : sp_band A t b k s = _ := if_pos ⟨q1, q2, q3, q4⟩
  rw [e0]
  obtain ⟨t, ht1, rfl⟩ := pb_isT_of w q1
  obtain ⟨b, -, hb, rfl⟩ := nI_rng (by omega) q2 (by omega)
  obtain ⟨k, -, hk, rfl⟩ := nI_rng (by omega) q3 (by omega)
  obtain ⟨s, -, hs, rfl⟩ := nI_rng (by omega) q4 (by omega)
  rw [pb_natN (by omega), pb_natN (by omega), pb_natN (by omega), pb_natN (by omega)]
  refine pb_aload_n (pc2 := 41) dX12_band_40 rfl rfl rfl ?_
  refine pb_getf (pc2 := 44) flX12_13_X12 rfl dX12_band_41 (by first | assumption | exact hR.a rfl | exact hR.o | exact hC.a rfl) rfl rfl ?_
  refine pb_bipush (x := nI 8) (pc2 := 46) dX12_band_44 (by decide) rfl ?_
  refine pb_iload_n (pc2 := 47) dX12_band_46 rfl rfl rfl ?_
  refine pb_imulN (pc2 := 48) dX12_band_47 rfl ?_
  refine pb_iload_n (pc2 := 49) dX12_band_48 rfl rfl rfl ?_
  refine pb_iaddN (pc2 := 50) dX12_band_49 rfl ?_
  refine pb_iload_n (pc2 := 51) dX12_band_50 rfl rfl rfl ?_
  refine pb_iastR (pc2 := 52) hR rfl dX12_band_51 (by omega) rfl (fun h_ hR => ?_)
  refine pb_aload_n (pc2 := 53) dX12_band_52 rfl rfl rfl ?_
  refine pb_getf (pc2 := 56) flX12_17_X12 rfl dX12_band_53 (by first | assumption | exact hR.a rfl | exact hR.o | exact hC.a rfl) rfl rfl ?_
  refine pb_bipush (x := nI 8) (pc2 := 58) dX12_band_56 (by decide) rfl ?_
  refine pb_iload_n (pc2 := 59) dX12_band_58 rfl rfl rfl ?_
  refine pb_imulN (pc2 := 60) dX12_band_59 rfl ?_
  refine pb_iload_n (pc2 := 61) dX12_band_60 rfl rfl rfl ?_
  refine pb_iaddN (pc2 := 62) dX12_band_61 rfl ?_
  refine pb_iload (pc2 := 64) dX12_band_62 rfl rfl ?_
  refine pb_iastR (pc2 := 65) hR rfl dX12_band_64 (by omega) rfl (fun h_ hR => ?_)
  refine pb_iconst (x := nI 1) (pc2 := 66) dX12_band_65 (by decide) rfl ?_
  exact pb_ireturn dX12_band_66 rfl (pb_fin rfl hR)
set_option maxRecDepth 10000 in
theorem r_ofTube (w : pb_WF A) (hR : pb_RF A h h) (t x : Int32) : pb_T Z mX12_ofTube 2 0 0 [.ref 20, .int t, .int x] h (pb_PR (sp_ofTube A t x) h) := by
  have ht := w.tubes
  refine pb_T.of pnX12_ofTube (Nat.le_of_ble_eq_true rfl) (lv := [some (.ref 20), some (.int t), some (.int x)]) rfl ?_
  refine pb_aload_n (pc2 := 1) dX12_ofTube_0 rfl rfl rfl ?_
  refine pb_iload_n (pc2 := 2) dX12_ofTube_1 rfl rfl rfl ?_
  refine pb_callV (pc2 := 5) (k2 := 0) (n2 := 0) mwX12_isTube pb_cl10.1 iwX12_isTube seX12_isTube rfl mlX12_99 dX12_ofTube_2 (by first | assumption | exact hR.a rfl | exact hR.o | exact hC.a rfl) (t_misTube hR t) (by omega) (by omega) (by omega) rfl rfl (Nat.le_of_ble_eq_true rfl) rfl (pb_kB ?_ ?_)
  rotate_left
  · intro q1
    refine pb_ifF_ne (tgt := 10) (pc2 := 8) dX12_ofTube_5 rfl rfl (by decide) ?_
    refine pb_iconst (x := -1) (pc2 := 9) dX12_ofTube_8 (by decide) rfl ?_
    exact pb_ireturn dX12_ofTube_9 rfl (pb_fin (if_neg q1) hR)
  intro q1
  refine pb_ifT_ne (tgt := 10) dX12_ofTube_5 (by decide) (by decide) ?_
  have e0 : sp_ofTube A t x = _ := if_pos q1
  rw [e0]
  obtain ⟨t, ht1, rfl⟩ := pb_isT_of w q1
  rw [pb_natN (by omega)]
  refine pb_iload_n (pc2 := 11) dX12_ofTube_10 rfl rfl rfl ?_
  by_cases c0 : x = nI 0
  · subst c0
    refine pb_swIn (off := 37) (tgt := 48) dX12_ofTube_11 (by decide) (by decide) rfl (by decide) ?_
    refine pb_aload_n (pc2 := 49) dX12_ofTube_48 rfl rfl rfl ?_
    refine pb_getf (pc2 := 52) flX12_20_X12 rfl dX12_ofTube_49 (by first | assumption | exact hR.a rfl | exact hR.o | exact hC.a rfl) rfl rfl ?_
    refine pb_iload_n (pc2 := 53) dX12_ofTube_52 rfl rfl rfl ?_
    refine pb_iald (pc2 := 54) (by first | assumption | exact hR.a rfl | exact hR.o | exact hC.a rfl) ⟨by decide, rfl⟩ dX12_ofTube_53 (by omega) (by omega) rfl ?_
    exact pb_ireturn dX12_ofTube_54 rfl (pb_fin rfl hR)
  by_cases c1 : x = nI 1
  · subst c1
    refine pb_swIn (off := 44) (tgt := 55) dX12_ofTube_11 (by decide) (by decide) rfl (by decide) ?_
    refine pb_aload_n (pc2 := 56) dX12_ofTube_55 rfl rfl rfl ?_
    refine pb_getf (pc2 := 59) flX12_23_X12 rfl dX12_ofTube_56 (by first | assumption | exact hR.a rfl | exact hR.o | exact hC.a rfl) rfl rfl ?_
    refine pb_iload_n (pc2 := 60) dX12_ofTube_59 rfl rfl rfl ?_
    refine pb_iald (pc2 := 61) (by first | assumption | exact hR.a rfl | exact hR.o | exact hC.a rfl) ⟨by decide, rfl⟩ dX12_ofTube_60 (by omega) (by omega) rfl ?_
    exact pb_ireturn dX12_ofTube_61 rfl (pb_fin rfl hR)
  by_cases c2 : x = nI 2
  · subst c2
    refine pb_swIn (off := 51) (tgt := 62) dX12_ofTube_11 (by decide) (by decide) rfl (by decide) ?_
    refine pb_aload_n (pc2 := 63) dX12_ofTube_62 rfl rfl rfl ?_
    refine pb_getf (pc2 := 66) flX12_26_X12 rfl dX12_ofTube_63 (by first | assumption | exact hR.a rfl | exact hR.o | exact hC.a rfl) rfl rfl ?_
    refine pb_iload_n (pc2 := 67) dX12_ofTube_66 rfl rfl rfl ?_
    refine pb_iald (pc2 := 68) (by first | assumption | exact hR.a rfl | exact hR.o | exact hC.a rfl) ⟨by decide, rfl⟩ dX12_ofTube_67 (by omega) (by omega) rfl ?_
    exact pb_ireturn dX12_ofTube_68 rfl (pb_fin rfl hR)
  by_cases c3 : x = nI 3
  · subst c3
    refine pb_swIn (off := 58) (tgt := 69) dX12_ofTube_11 (by decide) (by decide) rfl (by decide) ?_
    refine pb_aload_n (pc2 := 70) dX12_ofTube_69 rfl rfl rfl ?_
    refine pb_iload_n (pc2 := 71) dX12_ofTube_70 rfl rfl rfl ?_
    refine pb_callV (pc2 := 74) (k2 := 0) (n2 := 0) mwX12_inPots pb_cl10.1 iwX12_inPots seX12_inPots rfl mlX12_106 dX12_ofTube_71 (by first | assumption | exact hR.a rfl | exact hR.o | exact hC.a rfl) (t_minPots w hR (show t < 12 by omega)) (by omega) (by omega) (by omega) rfl rfl (Nat.le_of_ble_eq_true rfl) rfl (pb_kE ?_)
    exact pb_ireturn dX12_ofTube_74 rfl (pb_fin rfl hR)
  by_cases c4 : x = nI 4
  · subst c4
    refine pb_swIn (off := 64) (tgt := 75) dX12_ofTube_11 (by decide) (by decide) rfl (by decide) ?_
    refine pb_aload_n (pc2 := 76) dX12_ofTube_75 rfl rfl rfl ?_
    refine pb_getf (pc2 := 79) flX12_29_X12 rfl dX12_ofTube_76 (by first | assumption | exact hR.a rfl | exact hR.o | exact hC.a rfl) rfl rfl ?_
    refine pb_iload_n (pc2 := 80) dX12_ofTube_79 rfl rfl rfl ?_
    refine pb_iald (pc2 := 81) (by first | assumption | exact hR.a rfl | exact hR.o | exact hC.a rfl) ⟨by decide, rfl⟩ dX12_ofTube_80 (by omega) (by omega) rfl ?_
    exact pb_ireturn dX12_ofTube_81 rfl (pb_fin rfl hR)
  by_cases c5 : x = nI 5
  · subst c5
    refine pb_swIn (off := 71) (tgt := 82) dX12_ofTube_11 (by decide) (by decide) rfl (by decide) ?_
    refine pb_aload_n (pc2 := 83) dX12_ofTube_82 rfl rfl rfl ?_
    refine pb_getf (pc2 := 86) flX12_32_X12 rfl dX12_ofTube_83 (by first | assumption | exact hR.a rfl | exact hR.o | exact hC.a rfl) rfl rfl ?_
    refine pb_iload_n (pc2 := 87) dX12_ofTube_86 rfl rfl rfl ?_
    refine pb_iald (pc2 := 88) (by first | assumption | exact hR.a rfl | exact hR.o | exact hC.a rfl) ⟨by decide, rfl⟩ dX12_ofTube_87 (by omega) (by omega) rfl ?_
    exact pb_ireturn dX12_ofTube_88 rfl (pb_fin rfl hR)
  refine pb_swOut (tgt := 89) dX12_ofTube_11 (pb_swO (m := 5) (by omega) (fun k hk => by rcases (show k = 0 ∨ k = 1 ∨ k = 2 ∨ k = 3 ∨ k = 4 ∨ k = 5 by omega) with rfl | rfl | rfl | rfl | rfl | rfl <;> assumption)) (by decide) ?_
  refine pb_iconst (x := -1) (pc2 := 90) dX12_ofTube_89 (by decide) rfl ?_
  exact pb_ireturn dX12_ofTube_90 rfl (pb_fin (by rw [if_neg c0, if_neg c1, if_neg c2, if_neg c3, if_neg c4, if_neg c5]) hR)
set_option maxRecDepth 10000 in
theorem r_row (w : pb_WF A) (hR : pb_RF A h h) (t b y x : Int32) : pb_T Z mX12_row 2 0 0 [.ref 20, .int t, .int b, .int y, .int x] h (pb_PR (sp_row A t b y x) h) := by
  have ht := w.tubes
  refine pb_T.of pnX12_row (Nat.le_of_ble_eq_true rfl) (lv := [some (.ref 20), some (.int t), some (.int b), some (.int y), some (.int x)]) rfl ?_
  refine pb_aload_n (pc2 := 1) dX12_row_0 rfl rfl rfl ?_
  refine pb_iload_n (pc2 := 2) dX12_row_1 rfl rfl rfl ?_
  refine pb_callV (pc2 := 5) (k2 := 0) (n2 := 0) mwX12_isTube pb_cl10.1 iwX12_isTube seX12_isTube rfl mlX12_99 dX12_row_2 (by first | assumption | exact hR.a rfl | exact hR.o | exact hC.a rfl) (t_misTube hR t) (by omega) (by omega) (by omega) rfl rfl (Nat.le_of_ble_eq_true rfl) rfl (pb_kB ?_ ?_)
  rotate_left
  · intro q1
    refine pb_ifT_eq (tgt := 35) dX12_row_5 (by decide) rfl ?_
    refine pb_iconst (x := -1) (pc2 := 36) dX12_row_35 (by decide) rfl ?_
    refine pb_goto (tgt := 65) dX12_row_36 (by decide) ?_
    exact pb_ireturn dX12_row_65 rfl (pb_fin (if_neg (fun z => q1 z.1)) hR)
  intro q1
  refine pb_ifF_eq (tgt := 35) (pc2 := 8) dX12_row_5 (by decide) rfl (by decide) ?_
  refine pb_iload_n (pc2 := 9) dX12_row_8 rfl rfl rfl ?_
  refine pb_callS (pc2 := 12) (k2 := 0) (n2 := 0) mwX12_isBand swX12_isBand rfl mlX12_103 dX12_row_9 (t_misBand b) (by omega) (by omega) (by omega) rfl rfl (Nat.le_of_ble_eq_true rfl) rfl (pb_kB ?_ ?_)
  rotate_left
  · intro q2
    refine pb_ifT_eq (tgt := 35) dX12_row_12 (by decide) rfl ?_
    refine pb_iconst (x := -1) (pc2 := 36) dX12_row_35 (by decide) rfl ?_
    refine pb_goto (tgt := 65) dX12_row_36 (by decide) ?_
    exact pb_ireturn dX12_row_65 rfl (pb_fin (if_neg (fun z => q2 z.2.1)) hR)
  intro q2
  refine pb_ifF_eq (tgt := 35) (pc2 := 15) dX12_row_12 (by decide) rfl (by decide) ?_
  refine pb_iload_n (pc2 := 16) dX12_row_15 rfl rfl rfl ?_
  refine pb_iconst (x := nI 0) (pc2 := 17) dX12_row_16 (by decide) rfl ?_
  refine pb_bipush (x := nI 99) (pc2 := 19) dX12_row_17 (by decide) rfl ?_
  refine pb_callS (pc2 := 22) (k2 := 0) (n2 := 0) mwX12_in swX12_in rfl mlX12_95 dX12_row_19 (t_in y (nI 0) (nI 99)) (by omega) (by omega) (by omega) rfl rfl (Nat.le_of_ble_eq_true rfl) rfl (pb_kB ?_ ?_)
  rotate_left
  · intro q3
    refine pb_ifT_eq (tgt := 35) dX12_row_22 (by decide) rfl ?_
    refine pb_iconst (x := -1) (pc2 := 36) dX12_row_35 (by decide) rfl ?_
    refine pb_goto (tgt := 65) dX12_row_36 (by decide) ?_
    exact pb_ireturn dX12_row_65 rfl (pb_fin (if_neg (fun z => q3 z.2.2.1)) hR)
  intro q3
  refine pb_ifF_eq (tgt := 35) (pc2 := 25) dX12_row_22 (by decide) rfl (by decide) ?_
  refine pb_iload (pc2 := 27) dX12_row_25 rfl rfl ?_
  refine pb_iconst (x := nI 0) (pc2 := 28) dX12_row_27 (by decide) rfl ?_
  refine pb_iconst (x := nI 1) (pc2 := 29) dX12_row_28 (by decide) rfl ?_
  refine pb_callS (pc2 := 32) (k2 := 0) (n2 := 0) mwX12_in swX12_in rfl mlX12_95 dX12_row_29 (t_in x (nI 0) (nI 1)) (by omega) (by omega) (by omega) rfl rfl (Nat.le_of_ble_eq_true rfl) rfl (pb_kB ?_ ?_)
  rotate_left
  · intro q4
    refine pb_ifF_ne (tgt := 39) (pc2 := 35) dX12_row_32 rfl rfl (by decide) ?_
    refine pb_iconst (x := -1) (pc2 := 36) dX12_row_35 (by decide) rfl ?_
    refine pb_goto (tgt := 65) dX12_row_36 (by decide) ?_
    exact pb_ireturn dX12_row_65 rfl (pb_fin (if_neg (fun z => q4 z.2.2.2)) hR)
  intro q4
  refine pb_ifT_ne (tgt := 39) dX12_row_32 (by decide) (by decide) ?_
  have e0 : sp_row A t b y x = _ := if_pos ⟨q1, q2, q3, q4⟩
  rw [e0]
  obtain ⟨t, ht1, rfl⟩ := pb_isT_of w q1
  obtain ⟨b, -, hb, rfl⟩ := nI_rng (by omega) q2 (by omega)
  obtain ⟨y, -, hy, rfl⟩ := nI_rng (by omega) q3 (by omega)
  obtain ⟨x, -, hx, rfl⟩ := nI_rng (by omega) q4 (by omega)
  rw [pb_natN (by omega), pb_natN (by omega), pb_natN (by omega)]
  refine pb_iload (pc2 := 41) dX12_row_39 rfl rfl ?_
  refine pb_ifN_ne (tgt := 54) (pc2 := 44) dX12_row_41 (by decide) rfl (by omega) (fun c => ?_) (fun c => ?_)
  · refine pb_aload_n (pc2 := 55) dX12_row_54 rfl rfl rfl ?_
    refine pb_getf (pc2 := 58) flX12_17_X12 rfl dX12_row_55 (by first | assumption | exact hR.a rfl | exact hR.o | exact hC.a rfl) rfl rfl ?_
    refine pb_bipush (x := nI 8) (pc2 := 60) dX12_row_58 (by decide) rfl ?_
    refine pb_iload_n (pc2 := 61) dX12_row_60 rfl rfl rfl ?_
    refine pb_imulN (pc2 := 62) dX12_row_61 rfl ?_
    refine pb_iload_n (pc2 := 63) dX12_row_62 rfl rfl rfl ?_
    refine pb_iaddN (pc2 := 64) dX12_row_63 rfl ?_
    refine pb_iald (pc2 := 65) (by first | assumption | exact hR.a rfl | exact hR.o | exact hC.a rfl) ⟨by decide, rfl⟩ dX12_row_64 (by omega) (by omega) rfl ?_
    exact pb_ireturn dX12_row_65 rfl (pb_fin (by rw [if_neg (fun z => c (nI_inj (by omega) (by omega) z))]) hR)
  · refine pb_aload_n (pc2 := 45) dX12_row_44 rfl rfl rfl ?_
    refine pb_iload_n (pc2 := 46) dX12_row_45 rfl rfl rfl ?_
    refine pb_iload_n (pc2 := 47) dX12_row_46 rfl rfl rfl ?_
    refine pb_iload_n (pc2 := 48) dX12_row_47 rfl rfl rfl ?_
    subst c
    refine pb_callV (pc2 := 51) (k2 := 0) (n2 := 0) mwX12_faded pb_cl10.1 iwX12_faded seX12_faded rfl mlX12_110 dX12_row_48 (by first | assumption | exact hR.a rfl | exact hR.o | exact hC.a rfl) (t_mfaded w hR ht1 (show b < 8 by omega) hy) (by omega) (by omega) (by omega) rfl rfl (Nat.le_of_ble_eq_true rfl) rfl (pb_kE ?_)
    refine pb_goto (tgt := 65) dX12_row_51 (by decide) ?_
    exact pb_ireturn dX12_row_65 rfl (pb_fin rfl hR)
set_option maxRecDepth 10000 in
theorem r_lamp (w : pb_WF A) (hR : pb_RF A h h) (l b v : Int32) : pb_T Z mX12_lamp 2 0 0 [.ref 20, .int l, .int b, .int v] h (pb_PR (sp_lamp A l b v) h) := by
  refine pb_T.of pnX12_lamp (Nat.le_of_ble_eq_true rfl) (lv := [some (.ref 20), some (.int l), some (.int b), some (.int v), none]) rfl ?_
  refine pb_iload_n (pc2 := 1) dX12_lamp_0 rfl rfl rfl ?_
  refine pb_callS (pc2 := 4) (k2 := 0) (n2 := 0) mwX12_isLamp swX12_isLamp rfl mlX12_114 dX12_lamp_1 (t_misLamp l) (by omega) (by omega) (by omega) rfl rfl (Nat.le_of_ble_eq_true rfl) rfl (pb_kB ?_ ?_)
  rotate_left
  · intro q1
    refine pb_ifT_eq (tgt := 24) dX12_lamp_4 (by decide) rfl ?_
    refine pb_iconst (x := -1) (pc2 := 25) dX12_lamp_24 (by decide) rfl ?_
    exact pb_ireturn dX12_lamp_25 rfl (pb_fin (if_neg (fun z => q1 z.1)) hR)
  intro q1
  refine pb_ifF_eq (tgt := 24) (pc2 := 7) dX12_lamp_4 (by decide) rfl (by decide) ?_
  refine pb_iload_n (pc2 := 8) dX12_lamp_7 rfl rfl rfl ?_
  refine pb_callS (pc2 := 11) (k2 := 0) (n2 := 0) mwX12_isBand swX12_isBand rfl mlX12_103 dX12_lamp_8 (t_misBand b) (by omega) (by omega) (by omega) rfl rfl (Nat.le_of_ble_eq_true rfl) rfl (pb_kB ?_ ?_)
  rotate_left
  · intro q2
    refine pb_ifT_eq (tgt := 24) dX12_lamp_11 (by decide) rfl ?_
    refine pb_iconst (x := -1) (pc2 := 25) dX12_lamp_24 (by decide) rfl ?_
    exact pb_ireturn dX12_lamp_25 rfl (pb_fin (if_neg (fun z => q2 z.2.1)) hR)
  intro q2
  refine pb_ifF_eq (tgt := 24) (pc2 := 14) dX12_lamp_11 (by decide) rfl (by decide) ?_
  refine pb_iload_n (pc2 := 15) dX12_lamp_14 rfl rfl rfl ?_
  refine pb_iconst (x := nI 0) (pc2 := 16) dX12_lamp_15 (by decide) rfl ?_
  refine pb_bipush (x := nI 99) (pc2 := 18) dX12_lamp_16 (by decide) rfl ?_
  refine pb_callS (pc2 := 21) (k2 := 0) (n2 := 0) mwX12_in swX12_in rfl mlX12_95 dX12_lamp_18 (t_in v (nI 0) (nI 99)) (by omega) (by omega) (by omega) rfl rfl (Nat.le_of_ble_eq_true rfl) rfl (pb_kB ?_ ?_)
  rotate_left
  · intro q3
    refine pb_ifF_ne (tgt := 26) (pc2 := 24) dX12_lamp_21 rfl rfl (by decide) ?_
    refine pb_iconst (x := -1) (pc2 := 25) dX12_lamp_24 (by decide) rfl ?_
    exact pb_ireturn dX12_lamp_25 rfl (pb_fin (if_neg (fun z => q3 z.2.2)) hR)
  intro q3
  refine pb_ifT_ne (tgt := 26) dX12_lamp_21 (by decide) (by decide) ?_
  have e0 : sp_lamp A l b v = _ := if_pos ⟨q1, q2, q3⟩
  rw [e0]
  obtain ⟨l, -, hl, rfl⟩ := nI_rng (by omega) q1 (by omega)
  obtain ⟨b, -, hb, rfl⟩ := nI_rng (by omega) q2 (by omega)
  obtain ⟨v, -, hv, rfl⟩ := nI_rng (by omega) q3 (by omega)
  rw [pb_natN (by omega), pb_natN (by omega), pb_natN (by omega)]
  refine pb_aload_n (pc2 := 27) dX12_lamp_26 rfl rfl rfl ?_
  refine pb_getf (pc2 := 30) flX12_35_X12 rfl dX12_lamp_27 (by first | assumption | exact hR.a rfl | exact hR.o | exact hC.a rfl) rfl rfl ?_
  refine pb_bipush (x := nI 8) (pc2 := 32) dX12_lamp_30 (by decide) rfl ?_
  refine pb_iload_n (pc2 := 33) dX12_lamp_32 rfl rfl rfl ?_
  refine pb_imulN (pc2 := 34) dX12_lamp_33 rfl ?_
  refine pb_iload_n (pc2 := 35) dX12_lamp_34 rfl rfl rfl ?_
  refine pb_iaddN (pc2 := 36) dX12_lamp_35 rfl ?_
  refine pb_iald (pc2 := 37) (by first | assumption | exact hR.a rfl | exact hR.o | exact hC.a rfl) ⟨by decide, rfl⟩ dX12_lamp_36 (by omega) (by omega) rfl ?_
  refine pb_istore (lv2 := [_, _, _, _, _]) (pc2 := 39) dX12_lamp_37 (by decide) rfl rfl ?_
  refine pb_aload_n (pc2 := 40) dX12_lamp_39 rfl rfl rfl ?_
  refine pb_getf (pc2 := 43) flX12_35_X12 rfl dX12_lamp_40 (by first | assumption | exact hR.a rfl | exact hR.o | exact hC.a rfl) rfl rfl ?_
  refine pb_bipush (x := nI 8) (pc2 := 45) dX12_lamp_43 (by decide) rfl ?_
  refine pb_iload_n (pc2 := 46) dX12_lamp_45 rfl rfl rfl ?_
  refine pb_imulN (pc2 := 47) dX12_lamp_46 rfl ?_
  refine pb_iload_n (pc2 := 48) dX12_lamp_47 rfl rfl rfl ?_
  refine pb_iaddN (pc2 := 49) dX12_lamp_48 rfl ?_
  refine pb_iload_n (pc2 := 50) dX12_lamp_49 rfl rfl rfl ?_
  refine pb_iastR (pc2 := 51) hR rfl dX12_lamp_50 (by omega) rfl (fun h_ hR => ?_)
  refine pb_iload (pc2 := 53) dX12_lamp_51 rfl rfl ?_
  exact pb_ireturn dX12_lamp_53 rfl (pb_fin rfl hR)
set_option maxRecDepth 10000 in
theorem r_eye (w : pb_WF A) (hR : pb_RF A h h) (l b v : Int32) : pb_T Z mX12_eye 2 0 0 [.ref 20, .int l, .int b, .int v] h (pb_PR (sp_eye A l b v) h) := by
  refine pb_T.of pnX12_eye (Nat.le_of_ble_eq_true rfl) (lv := [some (.ref 20), some (.int l), some (.int b), some (.int v), none]) rfl ?_
  refine pb_iload_n (pc2 := 1) dX12_eye_0 rfl rfl rfl ?_
  refine pb_callS (pc2 := 4) (k2 := 0) (n2 := 0) mwX12_isSight swX12_isSight rfl mlX12_117 dX12_eye_1 (t_misSight l) (by omega) (by omega) (by omega) rfl rfl (Nat.le_of_ble_eq_true rfl) rfl (pb_kB ?_ ?_)
  rotate_left
  · intro q1
    refine pb_ifT_eq (tgt := 24) dX12_eye_4 (by decide) rfl ?_
    refine pb_iconst (x := -1) (pc2 := 25) dX12_eye_24 (by decide) rfl ?_
    exact pb_ireturn dX12_eye_25 rfl (pb_fin (if_neg (fun z => q1 z.1)) hR)
  intro q1
  refine pb_ifF_eq (tgt := 24) (pc2 := 7) dX12_eye_4 (by decide) rfl (by decide) ?_
  refine pb_iload_n (pc2 := 8) dX12_eye_7 rfl rfl rfl ?_
  refine pb_callS (pc2 := 11) (k2 := 0) (n2 := 0) mwX12_isBand swX12_isBand rfl mlX12_103 dX12_eye_8 (t_misBand b) (by omega) (by omega) (by omega) rfl rfl (Nat.le_of_ble_eq_true rfl) rfl (pb_kB ?_ ?_)
  rotate_left
  · intro q2
    refine pb_ifT_eq (tgt := 24) dX12_eye_11 (by decide) rfl ?_
    refine pb_iconst (x := -1) (pc2 := 25) dX12_eye_24 (by decide) rfl ?_
    exact pb_ireturn dX12_eye_25 rfl (pb_fin (if_neg (fun z => q2 z.2.1)) hR)
  intro q2
  refine pb_ifF_eq (tgt := 24) (pc2 := 14) dX12_eye_11 (by decide) rfl (by decide) ?_
  refine pb_iload_n (pc2 := 15) dX12_eye_14 rfl rfl rfl ?_
  refine pb_iconst (x := nI 0) (pc2 := 16) dX12_eye_15 (by decide) rfl ?_
  refine pb_bipush (x := nI 99) (pc2 := 18) dX12_eye_16 (by decide) rfl ?_
  refine pb_callS (pc2 := 21) (k2 := 0) (n2 := 0) mwX12_in swX12_in rfl mlX12_95 dX12_eye_18 (t_in v (nI 0) (nI 99)) (by omega) (by omega) (by omega) rfl rfl (Nat.le_of_ble_eq_true rfl) rfl (pb_kB ?_ ?_)
  rotate_left
  · intro q3
    refine pb_ifF_ne (tgt := 26) (pc2 := 24) dX12_eye_21 rfl rfl (by decide) ?_
    refine pb_iconst (x := -1) (pc2 := 25) dX12_eye_24 (by decide) rfl ?_
    exact pb_ireturn dX12_eye_25 rfl (pb_fin (if_neg (fun z => q3 z.2.2)) hR)
  intro q3
  refine pb_ifT_ne (tgt := 26) dX12_eye_21 (by decide) (by decide) ?_
  have e0 : sp_eye A l b v = _ := if_pos ⟨q1, q2, q3⟩
  rw [e0]
  obtain ⟨l, -, hl, rfl⟩ := nI_rng (by omega) q1 (by omega)
  obtain ⟨b, -, hb, rfl⟩ := nI_rng (by omega) q2 (by omega)
  obtain ⟨v, -, hv, rfl⟩ := nI_rng (by omega) q3 (by omega)
  rw [pb_natN (by omega), pb_natN (by omega), pb_natN (by omega)]
  refine pb_aload_n (pc2 := 27) dX12_eye_26 rfl rfl rfl ?_
  refine pb_getf (pc2 := 30) flX12_38_X12 rfl dX12_eye_27 (by first | assumption | exact hR.a rfl | exact hR.o | exact hC.a rfl) rfl rfl ?_
  refine pb_bipush (x := nI 8) (pc2 := 32) dX12_eye_30 (by decide) rfl ?_
  refine pb_iload_n (pc2 := 33) dX12_eye_32 rfl rfl rfl ?_
  refine pb_imulN (pc2 := 34) dX12_eye_33 rfl ?_
  refine pb_iload_n (pc2 := 35) dX12_eye_34 rfl rfl rfl ?_
  refine pb_iaddN (pc2 := 36) dX12_eye_35 rfl ?_
  refine pb_iald (pc2 := 37) (by first | assumption | exact hR.a rfl | exact hR.o | exact hC.a rfl) ⟨by decide, rfl⟩ dX12_eye_36 (by omega) (by omega) rfl ?_
  refine pb_istore (lv2 := [_, _, _, _, _]) (pc2 := 39) dX12_eye_37 (by decide) rfl rfl ?_
  refine pb_aload_n (pc2 := 40) dX12_eye_39 rfl rfl rfl ?_
  refine pb_getf (pc2 := 43) flX12_38_X12 rfl dX12_eye_40 (by first | assumption | exact hR.a rfl | exact hR.o | exact hC.a rfl) rfl rfl ?_
  refine pb_bipush (x := nI 8) (pc2 := 45) dX12_eye_43 (by decide) rfl ?_
  refine pb_iload_n (pc2 := 46) dX12_eye_45 rfl rfl rfl ?_
  refine pb_imulN (pc2 := 47) dX12_eye_46 rfl ?_
  refine pb_iload_n (pc2 := 48) dX12_eye_47 rfl rfl rfl ?_
  refine pb_iaddN (pc2 := 49) dX12_eye_48 rfl ?_
  refine pb_iload_n (pc2 := 50) dX12_eye_49 rfl rfl rfl ?_
  refine pb_iastR (pc2 := 51) hR rfl dX12_eye_50 (by omega) rfl (fun h_ hR => ?_)
  refine pb_iload (pc2 := 53) dX12_eye_51 rfl rfl ?_
  exact pb_ireturn dX12_eye_53 rfl (pb_fin rfl hR)
set_option maxRecDepth 10000 in
theorem r_years (w : pb_WF A) (hR : pb_RF A h h) (n : Int32) : pb_T Z mX12_years 1 0 0 [.ref 20, .int n] h (pb_PR (sp_years A n) h) := by
  have hy := w.year
  refine pb_T.of pnX12_years (Nat.le_of_ble_eq_true rfl) (lv := [some (.ref 20), some (.int n)]) rfl ?_
  refine pb_iload_n (pc2 := 1) dX12_years_0 rfl rfl rfl ?_
  refine pb_iconst (x := nI 1) (pc2 := 2) dX12_years_1 (by decide) rfl ?_
  refine pb_bipush (x := nI 99) (pc2 := 4) dX12_years_2 (by decide) rfl ?_
  refine pb_callS (pc2 := 7) (k2 := 0) (n2 := 0) mwX12_in swX12_in rfl mlX12_95 dX12_years_4 (t_in n (nI 1) (nI 99)) (by omega) (by omega) (by omega) rfl rfl (Nat.le_of_ble_eq_true rfl) rfl (pb_kB ?_ ?_)
  rotate_left
  · intro q1
    refine pb_ifT_eq (tgt := 21) dX12_years_7 (by decide) rfl ?_
    refine pb_iconst (x := -1) (pc2 := 22) dX12_years_21 (by decide) rfl ?_
    exact pb_ireturn dX12_years_22 rfl (pb_fin (if_neg (fun z => q1 z.1)) hR)
  intro q1
  refine pb_ifF_eq (tgt := 21) (pc2 := 10) dX12_years_7 (by decide) rfl (by decide) ?_
  obtain ⟨n, hn1, hn, rfl⟩ := nI_rng (by omega) q1 (by omega)
  refine pb_aload_n (pc2 := 11) dX12_years_10 rfl rfl rfl ?_
  refine pb_getf (pc2 := 14) flX12_120_X12 rfl dX12_years_11 (by first | assumption | exact hR.a rfl | exact hR.o | exact hC.a rfl) rfl rfl ?_
  refine pb_iload_n (pc2 := 15) dX12_years_14 rfl rfl rfl ?_
  refine pb_iaddN (pc2 := 16) dX12_years_15 rfl ?_
  refine pb_bipush (x := nI 99) (pc2 := 18) dX12_years_16 (by decide) rfl ?_
  refine pb_icmpN_le (tgt := 23) (pc2 := 21) dX12_years_18 (by decide) rfl (by omega) (by omega) (fun c => ?_) (fun c => ?_)
  · have e0 : sp_years A (nI n) = _ := if_pos ⟨q1, by rw [pb_natN (by omega)]; exact c⟩
    rw [e0, pb_natN (by omega)]
    refine pb_aload_n (pc2 := 24) dX12_years_23 rfl rfl rfl ?_
    refine pb_dup (pc2 := 25) dX12_years_24 rfl rfl ?_
    refine pb_getf (pc2 := 28) flX12_120_X12 rfl dX12_years_25 (by first | assumption | exact hR.a rfl | exact hR.o | exact hC.a rfl) rfl rfl ?_
    refine pb_iload_n (pc2 := 29) dX12_years_28 rfl rfl rfl ?_
    refine pb_iaddN (pc2 := 30) dX12_years_29 rfl ?_
    refine pb_putR hR flX12_120_X12 rfl dX12_years_30 rfl rfl rfl 0 (fun _ => A 0 0 + n) (by omega) rfl rfl (fun h_ hR => ?_)
    refine pb_aload_n (pc2 := 34) dX12_years_33 rfl rfl rfl ?_
    refine pb_getf (v := .int (nI (A 0 0 + n))) (pc2 := 37) flX12_120_X12 rfl dX12_years_34 (by first | assumption | exact hR.a rfl | exact hR.o | exact hC.a rfl) rfl rfl ?_
    exact pb_ireturn dX12_years_37 rfl (pb_fin rfl hR)
  · refine pb_iconst (x := -1) (pc2 := 22) dX12_years_21 (by decide) rfl ?_
    exact pb_ireturn dX12_years_22 rfl (pb_fin (if_neg (fun z => by have := z.2; rw [pb_natN (by omega)] at this; omega)) hR)
end PB19

