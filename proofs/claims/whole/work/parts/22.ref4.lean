section PB22
variable {Z : pb_Z} {h h0 : pb_H} {A : pb_A}
set_option maxRecDepth 10000 in
theorem r_ground (w : pb_WF A) (hR : pb_RF A h h) (a g : Int32) : pb_T Z mX12_ground 2 0 0 [.ref 20, .int a, .int g] h (pb_PR (sp_ground A a g) h) := by
  refine pb_T.of pnX12_ground (Nat.le_of_ble_eq_true rfl) (lv := [some (.ref 20), some (.int a), some (.int g), none]) rfl ?_
  refine pb_iload_n (pc2 := 1) dX12_ground_0 rfl rfl rfl ?_
  refine pb_callS (pc2 := 4) (k2 := 0) (n2 := 0) mwX12_isArea swX12_isArea rfl mlX12_173 dX12_ground_1 (t_misArea a) (by omega) (by omega) (by omega) rfl rfl (Nat.le_of_ble_eq_true rfl) rfl (pb_kB ?_ ?_)
  rotate_left
  · intro q1
    refine pb_ifT_eq (tgt := 18) dX12_ground_4 (by decide) rfl ?_
    refine pb_iconst (x := -1) (pc2 := 19) dX12_ground_18 (by decide) rfl ?_
    exact pb_ireturn dX12_ground_19 rfl (pb_fin (if_neg (fun z => q1 z.1)) hR)
  intro q1
  refine pb_ifF_eq (tgt := 18) (pc2 := 7) dX12_ground_4 (by decide) rfl (by decide) ?_
  refine pb_iload_n (pc2 := 8) dX12_ground_7 rfl rfl rfl ?_
  refine pb_iconst (x := nI 0) (pc2 := 9) dX12_ground_8 (by decide) rfl ?_
  refine pb_sipush (x := nI 10000) (pc2 := 12) dX12_ground_9 (by decide) rfl ?_
  refine pb_callS (pc2 := 15) (k2 := 0) (n2 := 0) mwX12_in swX12_in rfl mlX12_95 dX12_ground_12 (t_in g (nI 0) (nI 10000)) (by omega) (by omega) (by omega) rfl rfl (Nat.le_of_ble_eq_true rfl) rfl (pb_kB ?_ ?_)
  rotate_left
  · intro q2
    refine pb_ifF_ne (tgt := 20) (pc2 := 18) dX12_ground_15 rfl rfl (by decide) ?_
    refine pb_iconst (x := -1) (pc2 := 19) dX12_ground_18 (by decide) rfl ?_
    exact pb_ireturn dX12_ground_19 rfl (pb_fin (if_neg (fun z => q2 z.2)) hR)
  intro q2
  refine pb_ifT_ne (tgt := 20) dX12_ground_15 (by decide) (by decide) ?_
  have e0 : sp_ground A a g = _ := if_pos ⟨q1, q2⟩
  rw [e0]
  obtain ⟨a, -, ha, rfl⟩ := nI_rng (by omega) q1 (by omega)
  obtain ⟨g, -, hg, rfl⟩ := nI_rng (by omega) q2 (by omega)
  rw [pb_natN (by omega), pb_natN (by omega)]
  have h13 := (w.area (show a < 10 by omega)).2
  refine pb_aload_n (pc2 := 21) dX12_ground_20 rfl rfl rfl ?_
  refine pb_getf (pc2 := 24) flX12_56_X12 rfl dX12_ground_21 (by first | assumption | exact hR.a rfl | exact hR.o | exact hC.a rfl) rfl rfl ?_
  refine pb_iload_n (pc2 := 25) dX12_ground_24 rfl rfl rfl ?_
  refine pb_iald (pc2 := 26) (by first | assumption | exact hR.a rfl | exact hR.o | exact hC.a rfl) ⟨by decide, rfl⟩ dX12_ground_25 (by omega) (by omega) rfl ?_
  refine pb_ifN_le (tgt := 32) (pc2 := 29) dX12_ground_26 (by decide) rfl (by omega) (fun c1 => ?_) (fun c1 => ?_)
  · refine pb_aload_n (pc2 := 33) dX12_ground_32 rfl rfl rfl ?_
    refine pb_getf (pc2 := 36) flX12_53_X12 rfl dX12_ground_33 (by first | assumption | exact hR.a rfl | exact hR.o | exact hC.a rfl) rfl rfl ?_
    refine pb_iload_n (pc2 := 37) dX12_ground_36 rfl rfl rfl ?_
    refine pb_iald (pc2 := 38) (by first | assumption | exact hR.a rfl | exact hR.o | exact hC.a rfl) ⟨by decide, rfl⟩ dX12_ground_37 (by omega) (by omega) rfl ?_
    refine pb_istore_n (lv2 := [_, _, _, _]) (pc2 := 39) dX12_ground_38 rfl (by decide) rfl rfl ?_
    refine pb_aload_n (pc2 := 40) dX12_ground_39 rfl rfl rfl ?_
    refine pb_getf (pc2 := 43) flX12_53_X12 rfl dX12_ground_40 (by first | assumption | exact hR.a rfl | exact hR.o | exact hC.a rfl) rfl rfl ?_
    refine pb_iload_n (pc2 := 44) dX12_ground_43 rfl rfl rfl ?_
    refine pb_iload_n (pc2 := 45) dX12_ground_44 rfl rfl rfl ?_
    refine pb_iastR (pc2 := 46) hR rfl dX12_ground_45 (by omega) rfl (fun h_ hR => ?_)
    refine pb_iload_n (pc2 := 47) dX12_ground_46 rfl rfl rfl ?_
    exact pb_ireturn dX12_ground_47 rfl (pb_fin (by rw [if_neg (by omega)]) hR)
  · refine pb_bipush (x := -2) (pc2 := 31) dX12_ground_29 (by decide) rfl ?_
    exact pb_ireturn dX12_ground_31 rfl (pb_fin (if_pos c1) hR)
theorem sp_layI_s {A : pb_A} {p k n i : Nat} : pb_wf (pb_wf (pb_wf (sp_layI A p k n i) 16 (pb_un (sp_layI A p k n i 16) (12 * k + i) (A 11 (12 * p + i)))) 5 (pb_un (sp_layI A p k n i 5) i (A 5 i + A 11 (12 * p + i)))) 11 (pb_un (sp_layI A p k n i 11) (12 * p + i) 0) = sp_layI A p k n (i + 1) := by
  funext f j
  by_cases e1 : f = 11
  · subst e1
    simp only [sp_layI, pb_wf, pb_un, if_true]
    grind
  · by_cases e2 : f = 5
    · subst e2
      simp only [sp_layI, pb_wf, pb_un]
      grind
    · by_cases e3 : f = 16
      · subst e3
        simp only [sp_layI, pb_wf, pb_un]
        by_cases e4 : j = 12 * k + i
        · subst e4
          simp
        · grind
      · simp only [sp_layI, pb_wf, e1, e2, e3, if_false]
theorem sp_layI_0 {A : pb_A} {p k n : Nat} : pb_wf (pb_wf A 14 (pb_un (A 14) k n)) 15 (pb_un (A 15) k (A 0 0)) = sp_layI A p k n 0 := by
  funext f j
  simp only [sp_layI, pb_wf]
  grind
set_option maxRecDepth 10000 in
theorem r_lay (w : pb_WF A) (hR : pb_RF A h h) (p a n : Int32) : pb_T Z mX12_lay 2 0 0 [.ref 20, .int p, .int a, .int n] h (pb_PR (sp_lay A p a n) h) := by
  refine pb_T.of pnX12_lay (Nat.le_of_ble_eq_true rfl) (lv := [some (.ref 20), some (.int p), some (.int a), some (.int n), none, none, none]) rfl ?_
  refine pb_iload_n (pc2 := 1) dX12_lay_0 rfl rfl rfl ?_
  refine pb_callS (pc2 := 4) (k2 := 0) (n2 := 0) mwX12_isPot swX12_isPot rfl mlX12_152 dX12_lay_1 (t_misPot p) (by omega) (by omega) (by omega) rfl rfl (Nat.le_of_ble_eq_true rfl) rfl (pb_kB ?_ ?_)
  rotate_left
  · intro q1
    refine pb_ifT_eq (tgt := 25) dX12_lay_4 (by decide) rfl ?_
    refine pb_iconst (x := -1) (pc2 := 26) dX12_lay_25 (by decide) rfl ?_
    exact pb_ireturn dX12_lay_26 rfl (pb_fin (if_neg (fun z => q1 z.1)) hR)
  intro q1
  refine pb_ifF_eq (tgt := 25) (pc2 := 7) dX12_lay_4 (by decide) rfl (by decide) ?_
  refine pb_iload_n (pc2 := 8) dX12_lay_7 rfl rfl rfl ?_
  refine pb_callS (pc2 := 11) (k2 := 0) (n2 := 0) mwX12_isArea swX12_isArea rfl mlX12_173 dX12_lay_8 (t_misArea a) (by omega) (by omega) (by omega) rfl rfl (Nat.le_of_ble_eq_true rfl) rfl (pb_kB ?_ ?_)
  rotate_left
  · intro q2
    refine pb_ifT_eq (tgt := 25) dX12_lay_11 (by decide) rfl ?_
    refine pb_iconst (x := -1) (pc2 := 26) dX12_lay_25 (by decide) rfl ?_
    exact pb_ireturn dX12_lay_26 rfl (pb_fin (if_neg (fun z => q2 z.2.1)) hR)
  intro q2
  refine pb_ifF_eq (tgt := 25) (pc2 := 14) dX12_lay_11 (by decide) rfl (by decide) ?_
  refine pb_iload_n (pc2 := 15) dX12_lay_14 rfl rfl rfl ?_
  refine pb_iconst (x := nI 1) (pc2 := 16) dX12_lay_15 (by decide) rfl ?_
  refine pb_sipush (x := nI 200) (pc2 := 19) dX12_lay_16 (by decide) rfl ?_
  refine pb_callS (pc2 := 22) (k2 := 0) (n2 := 0) mwX12_in swX12_in rfl mlX12_95 dX12_lay_19 (t_in n (nI 1) (nI 200)) (by omega) (by omega) (by omega) rfl rfl (Nat.le_of_ble_eq_true rfl) rfl (pb_kB ?_ ?_)
  rotate_left
  · intro q3
    refine pb_ifF_ne (tgt := 27) (pc2 := 25) dX12_lay_22 rfl rfl (by decide) ?_
    refine pb_iconst (x := -1) (pc2 := 26) dX12_lay_25 (by decide) rfl ?_
    exact pb_ireturn dX12_lay_26 rfl (pb_fin (if_neg (fun z => q3 z.2.2)) hR)
  intro q3
  refine pb_ifT_ne (tgt := 27) dX12_lay_22 (by decide) (by decide) ?_
  have e0 : sp_lay A p a n = _ := if_pos ⟨q1, q2, q3⟩
  rw [e0]
  obtain ⟨p, -, hp, rfl⟩ := nI_rng (by omega) q1 (by omega)
  obtain ⟨a, -, ha, rfl⟩ := nI_rng (by omega) q2 (by omega)
  obtain ⟨n, -, hn, rfl⟩ := nI_rng (by omega) q3 (by omega)
  rw [pb_natN (by omega), pb_natN (by omega), pb_natN (by omega)]
  have t1 := w.tot (show p < 10 by omega)
  have h13 := (w.area (show a < 10 by omega)).2
  refine pb_aload_n (pc2 := 28) dX12_lay_27 rfl rfl rfl ?_
  refine pb_iload_n (pc2 := 29) dX12_lay_28 rfl rfl rfl ?_
  refine pb_callV (pc2 := 32) (k2 := 0) (n2 := 0) mwX12_inPot pb_cl10.1 iwX12_inPot seX12_inPot rfl mlX12_155 dX12_lay_29 (by first | assumption | exact hR.a rfl | exact hR.o | exact hC.a rfl) (t_minPot hR (show p < 10 by omega)) (by omega) (by omega) (by omega) rfl rfl (Nat.le_of_ble_eq_true rfl) rfl (pb_kE ?_)
  refine pb_ifN_ne (tgt := 38) (pc2 := 35) dX12_lay_32 (by decide) rfl (by omega) (fun c1 => ?_) (fun c1 => ?_)
  · refine pb_aload_n (pc2 := 39) dX12_lay_38 rfl rfl rfl ?_
    refine pb_getf (pc2 := 42) flX12_56_X12 rfl dX12_lay_39 (by first | assumption | exact hR.a rfl | exact hR.o | exact hC.a rfl) rfl rfl ?_
    refine pb_iload_n (pc2 := 43) dX12_lay_42 rfl rfl rfl ?_
    refine pb_iald (pc2 := 44) (by first | assumption | exact hR.a rfl | exact hR.o | exact hC.a rfl) ⟨by decide, rfl⟩ dX12_lay_43 (by omega) (by omega) rfl ?_
    refine pb_bipush (x := nI 10) (pc2 := 46) dX12_lay_44 (by decide) rfl ?_
    refine pb_icmpN_ne (tgt := 52) (pc2 := 49) dX12_lay_46 (by decide) rfl (by omega) (by omega) (fun c2 => ?_) (fun c2 => ?_)
    · have loop : ∀ (m i : Nat) (h' : pb_H) (o6 : Option Value), 12 - i < m → i ≤ 12 → pb_RF (sp_layI A p (10 * a + A 13 a) n i) h h' → pb_S Z mX12_lay 2 0 0 (pb_PR (if pb_tot A p = 0 then (-2, A) else if A 13 a = 10 then (-3, A) else (nI (A 13 a + 1), sp_layA A p a n)) h) 87 [some (.ref 20), some (.int (nI p)), some (.int (nI a)), some (.int (nI n)), some (.int (nI (10 * a + A 13 a))), some (.int (nI i)), o6] [] h' := by
        intro m
        induction m with
        | zero => intro i h' o6 h1; omega
        | succ m ih =>
          intro i h' o6 h1 h2 hR
          refine pb_iload (pc2 := 89) dX12_lay_87 rfl rfl ?_
          refine pb_bipush (x := nI 12) (pc2 := 91) dX12_lay_89 (by decide) rfl ?_
          refine pb_icmpN_ge (tgt := 154) (pc2 := 94) dX12_lay_91 (by decide) rfl (by omega) (by omega) (fun q => ?_) (fun q => ?_)
          · have e : i = 12 := by omega
            subst e
            refine pb_aload_n (pc2 := 155) dX12_lay_154 rfl rfl rfl ?_
            refine pb_getf (pc2 := 158) flX12_56_X12 rfl dX12_lay_155 (by first | assumption | exact hR.a rfl | exact hR.o | exact hC.a rfl) rfl rfl ?_
            refine pb_iload_n (pc2 := 159) dX12_lay_158 rfl rfl rfl ?_
            refine pb_dup2 (pc2 := 160) dX12_lay_159 rfl rfl rfl ?_
            refine pb_iald (pc2 := 161) (by first | assumption | exact hR.a rfl | exact hR.o | exact hC.a rfl) ⟨by decide, rfl⟩ dX12_lay_160 (by omega) (by omega) rfl ?_
            refine pb_iconst (x := nI 1) (pc2 := 162) dX12_lay_161 (by decide) rfl ?_
            refine pb_iaddN (pc2 := 163) dX12_lay_162 rfl ?_
            refine pb_iastR (pc2 := 164) hR rfl dX12_lay_163 (by omega) rfl (fun h_ hR => ?_)
            refine pb_aload_n (pc2 := 165) dX12_lay_164 rfl rfl rfl ?_
            refine pb_getf (pc2 := 168) flX12_56_X12 rfl dX12_lay_165 (by first | assumption | exact hR.a rfl | exact hR.o | exact hC.a rfl) rfl rfl ?_
            refine pb_iload_n (pc2 := 169) dX12_lay_168 rfl rfl rfl ?_
            refine pb_iald (pc2 := 170) (by first | assumption | exact hR.a rfl | exact hR.o | exact hC.a rfl) ⟨by decide, rfl⟩ dX12_lay_169 (by omega) (by omega) rfl ?_
            refine pb_top (v2 := .int (nI (A 13 a + 1))) (by rw [pb_wf_self, pb_un_self]; rfl) ?_
            exact pb_ireturn dX12_lay_170 rfl (pb_fin (by rw [if_neg c1, if_neg c2]; rfl) hR)
          · have e1 : sp_layI A p (10 * a + A 13 a) n i 11 (12 * p + i) = A 11 (12 * p + i) := by unfold sp_layI; rw [pb_wf_self, if_neg (by omega)]
            have e2 : sp_layI A p (10 * a + A 13 a) n i 5 i = A 5 i := by
              unfold sp_layI
              rw [pb_wf_ne _ _ (by omega), pb_wf_self, if_neg (by omega)]
            refine pb_aload_n (pc2 := 95) dX12_lay_94 rfl rfl rfl ?_
            refine pb_getf (pc2 := 98) flX12_44_X12 rfl dX12_lay_95 (by first | assumption | exact hR.a rfl | exact hR.o | exact hC.a rfl) rfl rfl ?_
            refine pb_bipush (x := nI 12) (pc2 := 100) dX12_lay_98 (by decide) rfl ?_
            refine pb_iload_n (pc2 := 101) dX12_lay_100 rfl rfl rfl ?_
            refine pb_imulN (pc2 := 102) dX12_lay_101 rfl ?_
            refine pb_iload (pc2 := 104) dX12_lay_102 rfl rfl ?_
            refine pb_iaddN (pc2 := 105) dX12_lay_104 rfl ?_
            refine pb_iald (pc2 := 106) (by first | assumption | exact hR.a rfl | exact hR.o | exact hC.a rfl) ⟨by decide, rfl⟩ dX12_lay_105 (by omega) (by omega) rfl ?_
            refine pb_top (v2 := .int (nI (A 11 (12 * p + i)))) (by rw [e1]) ?_
            refine pb_istore (lv2 := [_, _, _, _, _, _, _]) (pc2 := 108) dX12_lay_106 (by decide) rfl rfl ?_
            refine pb_aload_n (pc2 := 109) dX12_lay_108 rfl rfl rfl ?_
            refine pb_getf (pc2 := 112) flX12_65_X12 rfl dX12_lay_109 (by first | assumption | exact hR.a rfl | exact hR.o | exact hC.a rfl) rfl rfl ?_
            refine pb_bipush (x := nI 12) (pc2 := 114) dX12_lay_112 (by decide) rfl ?_
            refine pb_iload (pc2 := 116) dX12_lay_114 rfl rfl ?_
            refine pb_imulN (pc2 := 117) dX12_lay_116 rfl ?_
            refine pb_iload (pc2 := 119) dX12_lay_117 rfl rfl ?_
            refine pb_iaddN (pc2 := 120) dX12_lay_119 rfl ?_
            refine pb_iload (pc2 := 122) dX12_lay_120 rfl rfl ?_
            refine pb_iastR (pc2 := 123) hR rfl dX12_lay_122 (by omega) rfl (fun h_ hR => ?_)
            refine pb_aload_n (pc2 := 124) dX12_lay_123 rfl rfl rfl ?_
            refine pb_getf (pc2 := 127) flX12_29_X12 rfl dX12_lay_124 (by first | assumption | exact hR.a rfl | exact hR.o | exact hC.a rfl) rfl rfl ?_
            refine pb_iload (pc2 := 129) dX12_lay_127 rfl rfl ?_
            refine pb_dup2 (pc2 := 130) dX12_lay_129 rfl rfl rfl ?_
            refine pb_iald (pc2 := 131) (by first | assumption | exact hR.a rfl | exact hR.o | exact hC.a rfl) ⟨by decide, rfl⟩ dX12_lay_130 (by omega) (by omega) rfl ?_
            refine pb_iload (pc2 := 133) dX12_lay_131 rfl rfl ?_
            refine pb_iaddN (pc2 := 134) dX12_lay_133 rfl ?_
            refine pb_top (v2 := .int (nI (A 5 i + A 11 (12 * p + i)))) (congrArg (fun z => Value.int (nI (z + A 11 (12 * p + i)))) e2) ?_
            refine pb_iastR (pc2 := 135) hR rfl dX12_lay_134 (by omega) rfl (fun h_ hR => ?_)
            refine pb_aload_n (pc2 := 136) dX12_lay_135 rfl rfl rfl ?_
            refine pb_getf (pc2 := 139) flX12_44_X12 rfl dX12_lay_136 (by first | assumption | exact hR.a rfl | exact hR.o | exact hC.a rfl) rfl rfl ?_
            refine pb_bipush (x := nI 12) (pc2 := 141) dX12_lay_139 (by decide) rfl ?_
            refine pb_iload_n (pc2 := 142) dX12_lay_141 rfl rfl rfl ?_
            refine pb_imulN (pc2 := 143) dX12_lay_142 rfl ?_
            refine pb_iload (pc2 := 145) dX12_lay_143 rfl rfl ?_
            refine pb_iaddN (pc2 := 146) dX12_lay_145 rfl ?_
            refine pb_iconst (x := nI 0) (pc2 := 147) dX12_lay_146 (by decide) rfl ?_
            refine pb_iastR (pc2 := 148) hR rfl dX12_lay_147 (by omega) rfl (fun h_ hR => ?_)
            refine pb_iincP (c0 := 1) (lv2 := [_, _, _, _, _, _, _]) (pc2 := 151) dX12_lay_148 rfl (by decide) rfl rfl ?_
            refine pb_goto (tgt := 87) dX12_lay_151 (by decide) ?_
            exact ih (i + 1) _ _ (by omega) (by omega) (sp_layI_s ▸ hR)
      refine pb_bipush (x := nI 10) (pc2 := 54) dX12_lay_52 (by decide) rfl ?_
      refine pb_iload_n (pc2 := 55) dX12_lay_54 rfl rfl rfl ?_
      refine pb_imulN (pc2 := 56) dX12_lay_55 rfl ?_
      refine pb_aload_n (pc2 := 57) dX12_lay_56 rfl rfl rfl ?_
      refine pb_getf (pc2 := 60) flX12_56_X12 rfl dX12_lay_57 (by first | assumption | exact hR.a rfl | exact hR.o | exact hC.a rfl) rfl rfl ?_
      refine pb_iload_n (pc2 := 61) dX12_lay_60 rfl rfl rfl ?_
      refine pb_iald (pc2 := 62) (by first | assumption | exact hR.a rfl | exact hR.o | exact hC.a rfl) ⟨by decide, rfl⟩ dX12_lay_61 (by omega) (by omega) rfl ?_
      refine pb_iaddN (pc2 := 63) dX12_lay_62 rfl ?_
      refine pb_istore (lv2 := [_, _, _, _, _, _, _]) (pc2 := 65) dX12_lay_63 (by decide) rfl rfl ?_
      refine pb_aload_n (pc2 := 66) dX12_lay_65 rfl rfl rfl ?_
      refine pb_getf (pc2 := 69) flX12_59_X12 rfl dX12_lay_66 (by first | assumption | exact hR.a rfl | exact hR.o | exact hC.a rfl) rfl rfl ?_
      refine pb_iload (pc2 := 71) dX12_lay_69 rfl rfl ?_
      refine pb_iload_n (pc2 := 72) dX12_lay_71 rfl rfl rfl ?_
      refine pb_iastR (pc2 := 73) hR rfl dX12_lay_72 (by omega) rfl (fun h_ hR => ?_)
      refine pb_aload_n (pc2 := 74) dX12_lay_73 rfl rfl rfl ?_
      refine pb_getf (pc2 := 77) flX12_62_X12 rfl dX12_lay_74 (by first | assumption | exact hR.a rfl | exact hR.o | exact hC.a rfl) rfl rfl ?_
      refine pb_iload (pc2 := 79) dX12_lay_77 rfl rfl ?_
      refine pb_aload_n (pc2 := 80) dX12_lay_79 rfl rfl rfl ?_
      refine pb_getf (pc2 := 83) flX12_120_X12 rfl dX12_lay_80 (by first | assumption | exact hR.a rfl | exact hR.o | exact hC.a rfl) rfl rfl ?_
      refine pb_iastR (pc2 := 84) hR rfl dX12_lay_83 (by omega) rfl (fun h_ hR => ?_)
      refine pb_iconst (x := nI 0) (pc2 := 85) dX12_lay_84 (by decide) rfl ?_
      refine pb_istore (lv2 := [_, _, _, _, _, _, _]) (pc2 := 87) dX12_lay_85 (by decide) rfl rfl ?_
      exact loop 13 0 _ _ (by omega) (by omega) (sp_layI_0 ▸ hR)
    · refine pb_bipush (x := -3) (pc2 := 51) dX12_lay_49 (by decide) rfl ?_
      exact pb_ireturn dX12_lay_51 rfl (pb_fin (by rw [if_neg c1, if_pos c2]) hR)
  · refine pb_bipush (x := -2) (pc2 := 37) dX12_lay_35 (by decide) rfl ?_
    exact pb_ireturn dX12_lay_37 rfl (pb_fin (if_pos c1) hR)
set_option maxRecDepth 10000 in
theorem t_mbackOf (w : pb_WF A) (hR : pb_RF A h0 h) {a b z : Nat} (ha : a < 10) (hb : b < 8) (hz : A 0 0 ≤ z) (hz2 : z ≤ 99) : pb_T Z mX12_backOf 2 0 0 [.ref 20, .int (nI a), .int (nI b), .int (nI z)] h (pb_E (some (.int (nI (pb_back A a z b)))) h) := by
  have h13 := (w.area ha).2
  have htt := w.tubes
  refine pb_T.of pnX12_backOf (Nat.le_of_ble_eq_true rfl) (lv := [some (.ref 20), some (.int (nI a)), some (.int (nI b)), some (.int (nI z)), none, none, none, none, none, none, none, none, none]) rfl ?_
  have outer : ∀ (m i : Nat) (o6 o7 o8 o9 o10 o11 o12 : Option Value), A 13 a - i < m → i ≤ A 13 a → pb_S Z mX12_backOf 2 0 0 (pb_E (some (.int (nI (pb_back A a z b)))) h) 14 [some (.ref 20), some (.int (nI a)), some (.int (nI b)), some (.int (nI z)), some (.int (nI (pb_bk A a b z i))), some (.int (nI (10 * a + i))), o6, o7, o8, o9, o10, o11, o12] [] h := by
    intro m
    induction m with
    | zero => intro i o6 o7 o8 o9 o10 o11 o12 h1; omega
    | succ m ih =>
      intro i o6 o7 o8 o9 o10 o11 o12 h1 h2
      refine pb_iload (pc2 := 16) dX12_backOf_14 rfl rfl ?_
      refine pb_bipush (x := nI 10) (pc2 := 18) dX12_backOf_16 (by decide) rfl ?_
      refine pb_iload_n (pc2 := 19) dX12_backOf_18 rfl rfl rfl ?_
      refine pb_imulN (pc2 := 20) dX12_backOf_19 rfl ?_
      refine pb_aload_n (pc2 := 21) dX12_backOf_20 rfl rfl rfl ?_
      refine pb_getf (pc2 := 24) flX12_56_X12 rfl dX12_backOf_21 (by first | assumption | exact hR.a rfl | exact hR.o | exact hC.a rfl) rfl rfl ?_
      refine pb_iload_n (pc2 := 25) dX12_backOf_24 rfl rfl rfl ?_
      refine pb_iald (pc2 := 26) (by first | assumption | exact hR.a rfl | exact hR.o | exact hC.a rfl) ⟨by decide, rfl⟩ dX12_backOf_25 (by omega) (by omega) rfl ?_
      refine pb_iaddN (pc2 := 27) dX12_backOf_26 rfl ?_
      refine pb_icmpN_ge (tgt := 150) (pc2 := 30) dX12_backOf_27 (by decide) rfl (by omega) (by omega) (fun q => ?_) (fun q => ?_)
      · have e : i = A 13 a := by omega
        subst e
        refine pb_iload (pc2 := 152) dX12_backOf_150 rfl rfl ?_
        exact pb_ireturn dX12_backOf_152 rfl (⟨rfl, rfl⟩)
      · have hi : i < A 13 a := by omega
        obtain ⟨l1, l2, l3, l4, l5⟩ := w.layer ha hi
        have inner : ∀ (m2 t : Nat) (o11 o12 : Option Value), A 1 0 - t < m2 → t ≤ A 1 0 → pb_S Z mX12_backOf 2 0 0 (pb_E (some (.int (nI (pb_back A a z b)))) h) 39 [some (.ref 20), some (.int (nI a)), some (.int (nI b)), some (.int (nI z)), some (.int (nI (pb_bk A a b z i))), some (.int (nI (10 * a + i))), some (.long (lN (pb_sum t (fun t => pb_ly A (10 * a + i) t * pb_fade (A 3 t) (A 7 (8 * t + b)) (z - A 15 (10 * a + i)))))), none, some (.long (lN (pb_sum t (fun t => pb_ly A (10 * a + i) t * A 8 (8 * t + b))))), none, some (.int (nI t)), o11, o12] [] h := by
          intro m2
          induction m2 with
          | zero => intro t o11 o12 g1; omega
          | succ m2 ih2 =>
            intro t o11 o12 g1 g2
            refine pb_iload (pc2 := 41) dX12_backOf_39 rfl rfl ?_
            refine pb_aload_n (pc2 := 42) dX12_backOf_41 rfl rfl rfl ?_
            refine pb_getf (pc2 := 45) flX12_92_X12 rfl dX12_backOf_42 (by first | assumption | exact hR.a rfl | exact hR.o | exact hC.a rfl) rfl rfl ?_
            refine pb_icmpN_ge (tgt := 126) (pc2 := 48) dX12_backOf_45 (by decide) rfl (by omega) (by omega) (fun q2 => ?_) (fun q2 => ?_)
            · have e : t = A 1 0 := by omega
              subst e
              obtain ⟨r1, r2, r3⟩ := w.lyr ha hi hb (z - A 15 (10 * a + i))
              have hbk := pb_bk_le w (b := b) (z := z) ha i
              refine pb_lload (pc2 := 128) dX12_backOf_126 rfl rfl ?_
              refine pb_lload (pc2 := 130) dX12_backOf_128 rfl rfl ?_
              refine pb_aload_n (pc2 := 131) dX12_backOf_130 rfl rfl rfl ?_
              refine pb_getf (pc2 := 134) flX12_59_X12 rfl dX12_backOf_131 (by first | assumption | exact hR.a rfl | exact hR.o | exact hC.a rfl) rfl rfl ?_
              refine pb_iload (pc2 := 136) dX12_backOf_134 rfl rfl ?_
              refine pb_iald (pc2 := 137) (by first | assumption | exact hR.a rfl | exact hR.o | exact hC.a rfl) ⟨by decide, rfl⟩ dX12_backOf_136 (by omega) (by omega) rfl ?_
              refine pb_iload (pc2 := 139) dX12_backOf_137 rfl rfl ?_
              refine pb_callS (pc2 := 142) (k2 := 0) (n2 := 0) mwX12_layerBy swX12_layerBy rfl mlX12_169 dX12_backOf_139 (t_layerBy (kk := pb_dk A (pb_ly A (10 * a + i)) b (z - A 15 (10 * a + i))) (s := pb_sc A (pb_ly A (10 * a + i)) b) (by omega) (by omega) (by omega) hbk) (by omega) (by omega) (by omega) rfl rfl (Nat.le_of_ble_eq_true rfl) rfl (pb_kE ?_)
              refine pb_istore (lv2 := [_, _, _, _, _, _, _, _, _, _, _, _, _]) (pc2 := 144) dX12_backOf_142 (by decide) rfl rfl ?_
              refine pb_iincP (c0 := 1) (lv2 := [_, _, _, _, _, _, _, _, _, _, _, _, _]) (pc2 := 147) dX12_backOf_144 rfl (by decide) rfl rfl ?_
              refine pb_goto (tgt := 14) dX12_backOf_147 (by decide) ?_
              exact ih (i + 1) _ _ _ _ _ _ _ (by omega) (by omega)
            · have hd := w.lyd ha hi (show t < 12 by omega)
              have hks := w.ks q2 hb
              have hfl := pb_fade_le (A 3 t) (A 7 (8 * t + b)) (z - A 15 (10 * a + i))
              refine pb_aload_n (pc2 := 49) dX12_backOf_48 rfl rfl rfl ?_
              refine pb_getf (pc2 := 52) flX12_65_X12 rfl dX12_backOf_49 (by first | assumption | exact hR.a rfl | exact hR.o | exact hC.a rfl) rfl rfl ?_
              refine pb_bipush (x := nI 12) (pc2 := 54) dX12_backOf_52 (by decide) rfl ?_
              refine pb_iload (pc2 := 56) dX12_backOf_54 rfl rfl ?_
              refine pb_imulN (pc2 := 57) dX12_backOf_56 rfl ?_
              refine pb_iload (pc2 := 59) dX12_backOf_57 rfl rfl ?_
              refine pb_iaddN (pc2 := 60) dX12_backOf_59 rfl ?_
              refine pb_iald (pc2 := 61) (by first | assumption | exact hR.a rfl | exact hR.o | exact hC.a rfl) ⟨by decide, rfl⟩ dX12_backOf_60 (by omega) (by omega) rfl ?_
              refine pb_i2lN (pc2 := 62) dX12_backOf_61 (by omega) rfl ?_
              refine pb_lstore (lv2 := [_, _, _, _, _, _, _, _, _, _, _, _, _]) (pc2 := 64) dX12_backOf_62 (by decide) rfl rfl ?_
              refine pb_lload (pc2 := 66) dX12_backOf_64 rfl rfl ?_
              refine pb_lconst (x := lN 0) (pc2 := 67) dX12_backOf_66 (by decide) rfl ?_
              refine pb_lcmpN (pc2 := 68) dX12_backOf_67 (by omega) (by omega) rfl ?_
              refine pb_lifN_ne (tgt := 74) (pc2 := 71) dX12_backOf_68 (by decide) rfl (fun c => ?_) (fun c => ?_)
              · refine pb_lload (pc2 := 76) dX12_backOf_74 rfl rfl ?_
                refine pb_lload (pc2 := 78) dX12_backOf_76 rfl rfl ?_
                refine pb_aload_n (pc2 := 79) dX12_backOf_78 rfl rfl rfl ?_
                refine pb_iload (pc2 := 81) dX12_backOf_79 rfl rfl ?_
                refine pb_iload_n (pc2 := 82) dX12_backOf_81 rfl rfl rfl ?_
                refine pb_iload_n (pc2 := 83) dX12_backOf_82 rfl rfl rfl ?_
                refine pb_aload_n (pc2 := 84) dX12_backOf_83 rfl rfl rfl ?_
                refine pb_getf (pc2 := 87) flX12_62_X12 rfl dX12_backOf_84 (by first | assumption | exact hR.a rfl | exact hR.o | exact hC.a rfl) rfl rfl ?_
                refine pb_iload (pc2 := 89) dX12_backOf_87 rfl rfl ?_
                refine pb_iald (pc2 := 90) (by first | assumption | exact hR.a rfl | exact hR.o | exact hC.a rfl) ⟨by decide, rfl⟩ dX12_backOf_89 (by omega) (by omega) rfl ?_
                refine pb_isubN (pc2 := 91) dX12_backOf_90 (by omega) rfl ?_
                refine pb_callV (pc2 := 94) (k2 := 0) (n2 := 0) mwX12_faded pb_cl10.1 iwX12_faded seX12_faded rfl mlX12_110 dX12_backOf_91 (by first | assumption | exact hR.a rfl | exact hR.o | exact hC.a rfl) (t_mfaded w hR q2 hb (show z - A 15 (10 * a + i) ≤ 99 by omega)) (by omega) (by omega) (by omega) rfl rfl (Nat.le_of_ble_eq_true rfl) rfl (pb_kE ?_)
                refine pb_i2lN (pc2 := 95) dX12_backOf_94 (by omega) rfl ?_
                refine pb_lmulN (pc2 := 96) dX12_backOf_95 rfl ?_
                refine pb_laddN (pc2 := 97) dX12_backOf_96 rfl ?_
                refine pb_lstore (lv2 := [_, _, _, _, _, _, _, _, _, _, _, _, _]) (pc2 := 99) dX12_backOf_97 (by decide) rfl rfl ?_
                refine pb_lload (pc2 := 101) dX12_backOf_99 rfl rfl ?_
                refine pb_lload (pc2 := 103) dX12_backOf_101 rfl rfl ?_
                refine pb_aload_n (pc2 := 104) dX12_backOf_103 rfl rfl rfl ?_
                refine pb_getf (pc2 := 107) flX12_17_X12 rfl dX12_backOf_104 (by first | assumption | exact hR.a rfl | exact hR.o | exact hC.a rfl) rfl rfl ?_
                refine pb_bipush (x := nI 8) (pc2 := 109) dX12_backOf_107 (by decide) rfl ?_
                refine pb_iload (pc2 := 111) dX12_backOf_109 rfl rfl ?_
                refine pb_imulN (pc2 := 112) dX12_backOf_111 rfl ?_
                refine pb_iload_n (pc2 := 113) dX12_backOf_112 rfl rfl rfl ?_
                refine pb_iaddN (pc2 := 114) dX12_backOf_113 rfl ?_
                refine pb_iald (pc2 := 115) (by first | assumption | exact hR.a rfl | exact hR.o | exact hC.a rfl) ⟨by decide, rfl⟩ dX12_backOf_114 (by omega) (by omega) rfl ?_
                refine pb_i2lN (pc2 := 116) dX12_backOf_115 (by omega) rfl ?_
                refine pb_lmulN (pc2 := 117) dX12_backOf_116 rfl ?_
                refine pb_laddN (pc2 := 118) dX12_backOf_117 rfl ?_
                refine pb_lstore (lv2 := [_, _, _, _, _, _, _, _, _, _, _, _, _]) (pc2 := 120) dX12_backOf_118 (by decide) rfl rfl ?_
                refine pb_iincP (c0 := 1) (lv2 := [_, _, _, _, _, _, _, _, _, _, _, _, _]) (pc2 := 123) dX12_backOf_120 rfl (by decide) rfl rfl ?_
                refine pb_goto (tgt := 39) dX12_backOf_123 (by decide) ?_
                exact ih2 (t + 1) _ _ (by omega) (by omega)
              · have z1 : pb_ly A (10 * a + i) t = 0 := c
                have s1 : pb_sum (t + 1) (fun t => pb_ly A (10 * a + i) t * pb_fade (A 3 t) (A 7 (8 * t + b)) (z - A 15 (10 * a + i))) = pb_sum t (fun t => pb_ly A (10 * a + i) t * pb_fade (A 3 t) (A 7 (8 * t + b)) (z - A 15 (10 * a + i))) := by
                  show _ + pb_ly A (10 * a + i) t * _ = _
                  rw [z1, Nat.zero_mul]; rfl
                have s2 : pb_sum (t + 1) (fun t => pb_ly A (10 * a + i) t * A 8 (8 * t + b)) = pb_sum t (fun t => pb_ly A (10 * a + i) t * A 8 (8 * t + b)) := by
                  show _ + pb_ly A (10 * a + i) t * _ = _
                  rw [z1, Nat.zero_mul]; rfl
                refine pb_goto (tgt := 120) dX12_backOf_71 (by decide) ?_
                refine pb_iincP (c0 := 1) (lv2 := [_, _, _, _, _, _, _, _, _, _, _, _, _]) (pc2 := 123) dX12_backOf_120 rfl (by decide) rfl rfl ?_
                refine pb_goto (tgt := 39) dX12_backOf_123 (by decide) ?_
                rw [← s1, ← s2]
                exact ih2 (t + 1) _ _ (by omega) (by omega)
        refine pb_lconst (x := lN 0) (pc2 := 31) dX12_backOf_30 (by decide) rfl ?_
        refine pb_lstore (lv2 := [_, _, _, _, _, _, _, _, _, _, _, _, _]) (pc2 := 33) dX12_backOf_31 (by decide) rfl rfl ?_
        refine pb_lconst (x := lN 0) (pc2 := 34) dX12_backOf_33 (by decide) rfl ?_
        refine pb_lstore (lv2 := [_, _, _, _, _, _, _, _, _, _, _, _, _]) (pc2 := 36) dX12_backOf_34 (by decide) rfl rfl ?_
        refine pb_iconst (x := nI 0) (pc2 := 37) dX12_backOf_36 (by decide) rfl ?_
        refine pb_istore (lv2 := [_, _, _, _, _, _, _, _, _, _, _, _, _]) (pc2 := 39) dX12_backOf_37 (by decide) rfl rfl ?_
        exact inner (A 1 0 + 1) 0 _ _ (by omega) (by omega)
  refine pb_aload_n (pc2 := 1) dX12_backOf_0 rfl rfl rfl ?_
  refine pb_getf (pc2 := 4) flX12_53_X12 rfl dX12_backOf_1 (by first | assumption | exact hR.a rfl | exact hR.o | exact hC.a rfl) rfl rfl ?_
  refine pb_iload_n (pc2 := 5) dX12_backOf_4 rfl rfl rfl ?_
  refine pb_iald (pc2 := 6) (by first | assumption | exact hR.a rfl | exact hR.o | exact hC.a rfl) ⟨by decide, rfl⟩ dX12_backOf_5 (by omega) (by omega) rfl ?_
  refine pb_istore (lv2 := [_, _, _, _, _, _, _, _, _, _, _, _, _]) (pc2 := 8) dX12_backOf_6 (by decide) rfl rfl ?_
  refine pb_bipush (x := nI 10) (pc2 := 10) dX12_backOf_8 (by decide) rfl ?_
  refine pb_iload_n (pc2 := 11) dX12_backOf_10 rfl rfl rfl ?_
  refine pb_imulN (pc2 := 12) dX12_backOf_11 rfl ?_
  refine pb_istore (lv2 := [_, _, _, _, _, _, _, _, _, _, _, _, _]) (pc2 := 14) dX12_backOf_12 (by decide) rfl rfl ?_
  exact outer (A 13 a + 1) 0 _ _ _ _ _ _ _ (by omega) (by omega)
set_option maxRecDepth 10000 in
theorem t_mlightOf (w : pb_WF A) (hR : pb_RF A h h) {a z : Nat} (ha : a < 10) (hz : A 0 0 ≤ z) (hz2 : z ≤ 99) : pb_T Z mX12_lightOf 3 0 0 [.ref 20, .int (nI a), .int (nI z)] h (pb_PL A h (pb_back A a z)) := by
  refine pb_T.of pnX12_lightOf (Nat.le_of_ble_eq_true rfl) (lv := [some (.ref 20), some (.int (nI a)), some (.int (nI z)), none]) rfl ?_
  have loop : ∀ (m i : Nat) (F : Nat → Nat) (h' : pb_H), 8 - i < m → i ≤ 8 → pb_RF A h h' → h' 32 = some (.inl (0, 8, fun j => nI (F j))) → (∀ b, b < i → F b = pb_back A a z b) → pb_S Z mX12_lightOf 3 0 0 (pb_PL A h (pb_back A a z)) 2 [some (.ref 20), some (.int (nI a)), some (.int (nI z)), some (.int (nI i))] [] h' := by
    intro m
    induction m with
    | zero => intro i F h' h1; omega
    | succ m ih =>
      intro i F h' h1 h2 hR h32 hF
      refine pb_iload_n (pc2 := 3) dX12_lightOf_2 rfl rfl rfl ?_
      refine pb_bipush (x := nI 8) (pc2 := 5) dX12_lightOf_3 (by decide) rfl ?_
      refine pb_icmpN_ge (tgt := 27) (pc2 := 8) dX12_lightOf_5 (by decide) rfl (by omega) (by omega) (fun q => ?_) (fun q => ?_)
      · have e : i = 8 := by omega
        subst e
        exact pb_return dX12_lightOf_27 rfl (⟨rfl, hR, F, h32, hF⟩)
      · refine pb_aload_n (pc2 := 9) dX12_lightOf_8 rfl rfl rfl ?_
        refine pb_getf (pc2 := 12) flX12_41_X12 rfl dX12_lightOf_9 (by first | assumption | exact hR.a rfl | exact hR.o | exact hC.a rfl) rfl rfl ?_
        refine pb_iload_n (pc2 := 13) dX12_lightOf_12 rfl rfl rfl ?_
        refine pb_aload_n (pc2 := 14) dX12_lightOf_13 rfl rfl rfl ?_
        refine pb_iload_n (pc2 := 15) dX12_lightOf_14 rfl rfl rfl ?_
        refine pb_iload_n (pc2 := 16) dX12_lightOf_15 rfl rfl rfl ?_
        refine pb_iload_n (pc2 := 17) dX12_lightOf_16 rfl rfl rfl ?_
        refine pb_callV (pc2 := 20) (k2 := 0) (n2 := 0) mwX12_backOf pb_cl10.1 iwX12_backOf seX12_backOf rfl mlX12_176 dX12_lightOf_17 (by first | assumption | exact hR.a rfl | exact hR.o | exact hC.a rfl) (t_mbackOf w hR ha q hz hz2) (by omega) (by omega) (by omega) rfl rfl (Nat.le_of_ble_eq_true rfl) rfl (pb_kE ?_)
        refine pb_iastC (pc2 := 21) hR rfl h32 dX12_lightOf_20 (by omega) rfl (fun h_ hR h32 _ => ?_)
        refine pb_iincP (c0 := 1) (lv2 := [_, _, _, _]) (pc2 := 24) dX12_lightOf_21 rfl (by decide) rfl rfl ?_
        refine pb_goto (tgt := 2) dX12_lightOf_24 (by decide) ?_
        refine ih (i + 1) _ _ (by omega) (by omega) hR h32 (fun b hb => ?_)
        unfold pb_un
        by_cases e : b = i
        · rw [if_pos e, e]
        · rw [if_neg e]; exact hF b (by omega)
  obtain ⟨F, h32⟩ := hR.2.2.1 32 8 rfl
  refine pb_iconst (x := nI 0) (pc2 := 1) dX12_lightOf_0 (by decide) rfl ?_
  refine pb_istore_n (lv2 := [_, _, _, _]) (pc2 := 2) dX12_lightOf_1 rfl (by decide) rfl rfl ?_
  exact loop 9 0 F h (by omega) (by omega) hR h32 (fun b hb => by omega)
set_option maxRecDepth 10000 in
theorem r_back (w : pb_WF A) (hR : pb_RF A h h) (a b z : Int32) : pb_T Z mX12_back 3 0 0 [.ref 20, .int a, .int b, .int z] h (pb_PR (sp_back A a b z) h) := by
  have hy := w.year
  refine pb_T.of pnX12_back (Nat.le_of_ble_eq_true rfl) (lv := [some (.ref 20), some (.int a), some (.int b), some (.int z)]) rfl ?_
  refine pb_iload_n (pc2 := 1) dX12_back_0 rfl rfl rfl ?_
  refine pb_callS (pc2 := 4) (k2 := 0) (n2 := 0) mwX12_isArea swX12_isArea rfl mlX12_173 dX12_back_1 (t_misArea a) (by omega) (by omega) (by omega) rfl rfl (Nat.le_of_ble_eq_true rfl) rfl (pb_kB ?_ ?_)
  rotate_left
  · intro q1
    refine pb_ifT_eq (tgt := 37) dX12_back_4 (by decide) rfl ?_
    refine pb_iconst (x := -1) (pc2 := 38) dX12_back_37 (by decide) rfl ?_
    exact pb_ireturn dX12_back_38 rfl (pb_fin (if_neg (fun z => q1 z.1)) hR)
  intro q1
  refine pb_ifF_eq (tgt := 37) (pc2 := 7) dX12_back_4 (by decide) rfl (by decide) ?_
  refine pb_iload_n (pc2 := 8) dX12_back_7 rfl rfl rfl ?_
  refine pb_callS (pc2 := 11) (k2 := 0) (n2 := 0) mwX12_isBand swX12_isBand rfl mlX12_103 dX12_back_8 (t_misBand b) (by omega) (by omega) (by omega) rfl rfl (Nat.le_of_ble_eq_true rfl) rfl (pb_kB ?_ ?_)
  rotate_left
  · intro q2
    refine pb_ifT_eq (tgt := 37) dX12_back_11 (by decide) rfl ?_
    refine pb_iconst (x := -1) (pc2 := 38) dX12_back_37 (by decide) rfl ?_
    exact pb_ireturn dX12_back_38 rfl (pb_fin (if_neg (fun z => q2 z.2.1)) hR)
  intro q2
  refine pb_ifF_eq (tgt := 37) (pc2 := 14) dX12_back_11 (by decide) rfl (by decide) ?_
  refine pb_iload_n (pc2 := 15) dX12_back_14 rfl rfl rfl ?_
  refine pb_aload_n (pc2 := 16) dX12_back_15 rfl rfl rfl ?_
  refine pb_getf (pc2 := 19) flX12_120_X12 rfl dX12_back_16 (by first | assumption | exact hR.a rfl | exact hR.o | exact hC.a rfl) rfl rfl ?_
  refine pb_bipush (x := nI 99) (pc2 := 21) dX12_back_19 (by decide) rfl ?_
  refine pb_callS (pc2 := 24) (k2 := 0) (n2 := 0) mwX12_in swX12_in rfl mlX12_95 dX12_back_21 (t_in z (nI (A 0 0)) (nI 99)) (by omega) (by omega) (by omega) rfl rfl (Nat.le_of_ble_eq_true rfl) rfl (pb_kB ?_ ?_)
  rotate_left
  · intro q3
    refine pb_ifT_eq (tgt := 37) dX12_back_24 (by decide) rfl ?_
    refine pb_iconst (x := -1) (pc2 := 38) dX12_back_37 (by decide) rfl ?_
    exact pb_ireturn dX12_back_38 rfl (pb_fin (if_neg (fun z => q3 z.2.2)) hR)
  intro q3
  refine pb_ifF_eq (tgt := 37) (pc2 := 27) dX12_back_24 (by decide) rfl (by decide) ?_
  have e0 : sp_back A a b z = _ := if_pos ⟨q1, q2, q3⟩
  rw [e0]
  obtain ⟨a, -, ha, rfl⟩ := nI_rng (by omega) q1 (by omega)
  obtain ⟨b, -, hb, rfl⟩ := nI_rng (by omega) q2 (by omega)
  obtain ⟨z, hz, hz2, rfl⟩ := nI_rng (by omega) q3 (by omega)
  rw [pb_natN (by omega), pb_natN (by omega), pb_natN (by omega)]
  refine pb_aload_n (pc2 := 28) dX12_back_27 rfl rfl rfl ?_
  refine pb_iload_n (pc2 := 29) dX12_back_28 rfl rfl rfl ?_
  refine pb_iload_n (pc2 := 30) dX12_back_29 rfl rfl rfl ?_
  refine pb_iload_n (pc2 := 31) dX12_back_30 rfl rfl rfl ?_
  refine pb_callV (pc2 := 34) (k2 := 0) (n2 := 0) mwX12_backOf pb_cl10.1 iwX12_backOf seX12_backOf rfl mlX12_176 dX12_back_31 (by first | assumption | exact hR.a rfl | exact hR.o | exact hC.a rfl) (t_mbackOf w hR (show a < 10 by omega) (show b < 8 by omega) hz hz2) (by omega) (by omega) (by omega) rfl rfl (Nat.le_of_ble_eq_true rfl) rfl (pb_kE ?_)
  refine pb_goto (tgt := 38) dX12_back_34 (by decide) ?_
  exact pb_ireturn dX12_back_38 rfl (pb_fin rfl hR)
set_option maxRecDepth 10000 in
theorem r_look (w : pb_WF A) (hR : pb_RF A h h) (a l s : Int32) : pb_T Z mX12_look 4 0 0 [.ref 20, .int a, .int l, .int s] h (pb_PR (sp_look A a l s) h) := by
  have hy := w.year
  refine pb_T.of pnX12_look (Nat.le_of_ble_eq_true rfl) (lv := [some (.ref 20), some (.int a), some (.int l), some (.int s)]) rfl ?_
  refine pb_iload_n (pc2 := 1) dX12_look_0 rfl rfl rfl ?_
  refine pb_callS (pc2 := 4) (k2 := 0) (n2 := 0) mwX12_isArea swX12_isArea rfl mlX12_173 dX12_look_1 (t_misArea a) (by omega) (by omega) (by omega) rfl rfl (Nat.le_of_ble_eq_true rfl) rfl (pb_kB ?_ ?_)
  rotate_left
  · intro q1
    refine pb_ifT_eq (tgt := 21) dX12_look_4 (by decide) rfl ?_
    refine pb_iconst (x := -1) (pc2 := 22) dX12_look_21 (by decide) rfl ?_
    exact pb_ireturn dX12_look_22 rfl (pb_fin (if_neg (fun z => q1 z.1)) hR)
  intro q1
  refine pb_ifF_eq (tgt := 21) (pc2 := 7) dX12_look_4 (by decide) rfl (by decide) ?_
  refine pb_iload_n (pc2 := 8) dX12_look_7 rfl rfl rfl ?_
  refine pb_callS (pc2 := 11) (k2 := 0) (n2 := 0) mwX12_isLamp swX12_isLamp rfl mlX12_114 dX12_look_8 (t_misLamp l) (by omega) (by omega) (by omega) rfl rfl (Nat.le_of_ble_eq_true rfl) rfl (pb_kB ?_ ?_)
  rotate_left
  · intro q2
    refine pb_ifT_eq (tgt := 21) dX12_look_11 (by decide) rfl ?_
    refine pb_iconst (x := -1) (pc2 := 22) dX12_look_21 (by decide) rfl ?_
    exact pb_ireturn dX12_look_22 rfl (pb_fin (if_neg (fun z => q2 z.2.1)) hR)
  intro q2
  refine pb_ifF_eq (tgt := 21) (pc2 := 14) dX12_look_11 (by decide) rfl (by decide) ?_
  refine pb_iload_n (pc2 := 15) dX12_look_14 rfl rfl rfl ?_
  refine pb_callS (pc2 := 18) (k2 := 0) (n2 := 0) mwX12_isSight swX12_isSight rfl mlX12_117 dX12_look_15 (t_misSight s) (by omega) (by omega) (by omega) rfl rfl (Nat.le_of_ble_eq_true rfl) rfl (pb_kB ?_ ?_)
  rotate_left
  · intro q3
    refine pb_ifF_ne (tgt := 23) (pc2 := 21) dX12_look_18 rfl rfl (by decide) ?_
    refine pb_iconst (x := -1) (pc2 := 22) dX12_look_21 (by decide) rfl ?_
    exact pb_ireturn dX12_look_22 rfl (pb_fin (if_neg (fun z => q3 z.2.2)) hR)
  intro q3
  refine pb_ifT_ne (tgt := 23) dX12_look_18 (by decide) (by decide) ?_
  have e0 : sp_look A a l s = _ := if_pos ⟨q1, q2, q3⟩
  rw [e0]
  obtain ⟨a, -, ha, rfl⟩ := nI_rng (by omega) q1 (by omega)
  obtain ⟨l, -, hl, rfl⟩ := nI_rng (by omega) q2 (by omega)
  obtain ⟨s, -, hs, rfl⟩ := nI_rng (by omega) q3 (by omega)
  rw [pb_natN (by omega), pb_natN (by omega), pb_natN (by omega)]
  refine pb_aload_n (pc2 := 24) dX12_look_23 rfl rfl rfl ?_
  refine pb_iload_n (pc2 := 25) dX12_look_24 rfl rfl rfl ?_
  refine pb_aload_n (pc2 := 26) dX12_look_25 rfl rfl rfl ?_
  refine pb_getf (pc2 := 29) flX12_120_X12 rfl dX12_look_26 (by first | assumption | exact hR.a rfl | exact hR.o | exact hC.a rfl) rfl rfl ?_
  refine pb_callV (pc2 := 32) (k2 := 0) (n2 := 0) mwX12_lightOf pb_cl10.1 iwX12_lightOf seX12_lightOf rfl mlX12_179 dX12_look_29 (by first | assumption | exact hR.a rfl | exact hR.o | exact hC.a rfl) (t_mlightOf w hR (show a < 10 by omega) (Nat.le_refl _) hy) (by omega) (by omega) (by omega) rfl rfl (Nat.le_of_ble_eq_true rfl) rfl (pb_kL (fun h_ F hR h32 hF => ?_))
  refine pb_aload_n (pc2 := 33) dX12_look_32 rfl rfl rfl ?_
  refine pb_iload_n (pc2 := 34) dX12_look_33 rfl rfl rfl ?_
  refine pb_iload_n (pc2 := 35) dX12_look_34 rfl rfl rfl ?_
  refine pb_callV (pc2 := 38) (k2 := 0) (n2 := 0) mwX12_seenBy pb_cl10.1 iwX12_seenBy seX12_seenBy rfl mlX12_145 dX12_look_35 (by first | assumption | exact hR.a rfl | exact hR.o | exact hC.a rfl) (t_mseenBy w hR (show l < 4 by omega) (show s < 3 by omega) (fun b hb => by rw [hF b hb]; exact pb_back_le w (by omega)) h32) (by omega) (by omega) (by omega) rfl rfl (Nat.le_of_ble_eq_true rfl) rfl (pb_kE ?_)
  refine pb_top (v2 := .int (nI (pb_see A l s (pb_back A a (A 0 0))))) (by rw [pb_see_congr hF]) ?_
  exact pb_ireturn dX12_look_38 rfl (pb_fin rfl hR)
set_option maxRecDepth 10000 in
theorem r_apart (w : pb_WF A) (hR : pb_RF A h h) (a l : Int32) : pb_T Z mX12_apart 4 0 0 [.ref 20, .int a, .int l] h (pb_PR (sp_apart A a l) h) := by
  have hy := w.year
  have g0 := w.tone (i := 0) (by omega)
  have g1 := w.tone (i := 1) (by omega)
  have g2 := w.tone (i := 2) (by omega)
  refine pb_T.of pnX12_apart (Nat.le_of_ble_eq_true rfl) (lv := [some (.ref 20), some (.int a), some (.int l)]) rfl ?_
  refine pb_iload_n (pc2 := 1) dX12_apart_0 rfl rfl rfl ?_
  refine pb_callS (pc2 := 4) (k2 := 0) (n2 := 0) mwX12_isArea swX12_isArea rfl mlX12_173 dX12_apart_1 (t_misArea a) (by omega) (by omega) (by omega) rfl rfl (Nat.le_of_ble_eq_true rfl) rfl (pb_kB ?_ ?_)
  rotate_left
  · intro q1
    refine pb_ifT_eq (tgt := 14) dX12_apart_4 (by decide) rfl ?_
    refine pb_iconst (x := -1) (pc2 := 15) dX12_apart_14 (by decide) rfl ?_
    exact pb_ireturn dX12_apart_15 rfl (pb_fin (if_neg (fun z => q1 z.1)) hR)
  intro q1
  refine pb_ifF_eq (tgt := 14) (pc2 := 7) dX12_apart_4 (by decide) rfl (by decide) ?_
  refine pb_iload_n (pc2 := 8) dX12_apart_7 rfl rfl rfl ?_
  refine pb_callS (pc2 := 11) (k2 := 0) (n2 := 0) mwX12_isLamp swX12_isLamp rfl mlX12_114 dX12_apart_8 (t_misLamp l) (by omega) (by omega) (by omega) rfl rfl (Nat.le_of_ble_eq_true rfl) rfl (pb_kB ?_ ?_)
  rotate_left
  · intro q2
    refine pb_ifF_ne (tgt := 16) (pc2 := 14) dX12_apart_11 rfl rfl (by decide) ?_
    refine pb_iconst (x := -1) (pc2 := 15) dX12_apart_14 (by decide) rfl ?_
    exact pb_ireturn dX12_apart_15 rfl (pb_fin (if_neg (fun z => q2 z.2)) hR)
  intro q2
  refine pb_ifT_ne (tgt := 16) dX12_apart_11 (by decide) (by decide) ?_
  have e0 : sp_apart A a l = _ := if_pos ⟨q1, q2⟩
  rw [e0]
  obtain ⟨a, -, ha, rfl⟩ := nI_rng (by omega) q1 (by omega)
  obtain ⟨l, -, hl, rfl⟩ := nI_rng (by omega) q2 (by omega)
  rw [pb_natN (by omega), pb_natN (by omega)]
  refine pb_aload_n (pc2 := 17) dX12_apart_16 rfl rfl rfl ?_
  refine pb_iload_n (pc2 := 18) dX12_apart_17 rfl rfl rfl ?_
  refine pb_aload_n (pc2 := 19) dX12_apart_18 rfl rfl rfl ?_
  refine pb_getf (pc2 := 22) flX12_120_X12 rfl dX12_apart_19 (by first | assumption | exact hR.a rfl | exact hR.o | exact hC.a rfl) rfl rfl ?_
  refine pb_callV (pc2 := 25) (k2 := 0) (n2 := 0) mwX12_lightOf pb_cl10.1 iwX12_lightOf seX12_lightOf rfl mlX12_179 dX12_apart_22 (by first | assumption | exact hR.a rfl | exact hR.o | exact hC.a rfl) (t_mlightOf w hR (show a < 10 by omega) (Nat.le_refl _) hy) (by omega) (by omega) (by omega) rfl rfl (Nat.le_of_ble_eq_true rfl) rfl (pb_kL (fun h_ F hR h32 hF => ?_))
  refine pb_aload_n (pc2 := 26) dX12_apart_25 rfl rfl rfl ?_
  refine pb_aload_n (pc2 := 27) dX12_apart_26 rfl rfl rfl ?_
  refine pb_getf (pc2 := 30) flX12_68_X12 rfl dX12_apart_27 (by first | assumption | exact hR.a rfl | exact hR.o | exact hC.a rfl) rfl rfl ?_
  refine pb_iconst (x := nI 0) (pc2 := 31) dX12_apart_30 (by decide) rfl ?_
  refine pb_iald (pc2 := 32) (by first | assumption | exact hR.a rfl | exact hR.o | exact hC.a rfl) ⟨by decide, rfl⟩ dX12_apart_31 (by omega) (by omega) rfl ?_
  refine pb_aload_n (pc2 := 33) dX12_apart_32 rfl rfl rfl ?_
  refine pb_getf (pc2 := 36) flX12_68_X12 rfl dX12_apart_33 (by first | assumption | exact hR.a rfl | exact hR.o | exact hC.a rfl) rfl rfl ?_
  refine pb_iconst (x := nI 1) (pc2 := 37) dX12_apart_36 (by decide) rfl ?_
  refine pb_iald (pc2 := 38) (by first | assumption | exact hR.a rfl | exact hR.o | exact hC.a rfl) ⟨by decide, rfl⟩ dX12_apart_37 (by omega) (by omega) rfl ?_
  refine pb_aload_n (pc2 := 39) dX12_apart_38 rfl rfl rfl ?_
  refine pb_getf (pc2 := 42) flX12_68_X12 rfl dX12_apart_39 (by first | assumption | exact hR.a rfl | exact hR.o | exact hC.a rfl) rfl rfl ?_
  refine pb_iconst (x := nI 2) (pc2 := 43) dX12_apart_42 (by decide) rfl ?_
  refine pb_iald (pc2 := 44) (by first | assumption | exact hR.a rfl | exact hR.o | exact hC.a rfl) ⟨by decide, rfl⟩ dX12_apart_43 (by omega) (by omega) rfl ?_
  refine pb_iload_n (pc2 := 45) dX12_apart_44 rfl rfl rfl ?_
  refine pb_callV (pc2 := 48) (k2 := 0) (n2 := 0) mwX12_apartFrom pb_cl10.1 iwX12_apartFrom seX12_apartFrom rfl mlX12_183 dX12_apart_45 (by first | assumption | exact hR.a rfl | exact hR.o | exact hC.a rfl) (t_mapartFrom w hR (show l < 4 by omega) g0 g1 g2 (fun b hb => by rw [hF b hb]; exact pb_back_le w (by omega)) h32) (by omega) (by omega) (by omega) rfl rfl (Nat.le_of_ble_eq_true rfl) rfl (pb_kE ?_)
  refine pb_top (v2 := .int (nI (pb_fy A a l (A 0 0)))) (by rw [pb_far_congr hF]; rfl) ?_
  exact pb_ireturn dX12_apart_48 rfl (pb_fin rfl hR)
set_option maxRecDepth 10000 in
theorem r_missed (w : pb_WF A) (hR : pb_RF A h h) (a l d : Int32) : pb_T Z mX12_missed 4 0 0 [.ref 20, .int a, .int l, .int d] h (pb_PR (sp_missed A a l d) h) := by
  have hy := w.year
  have g0 := w.tone (i := 0) (by omega)
  have g1 := w.tone (i := 1) (by omega)
  have g2 := w.tone (i := 2) (by omega)
  refine pb_T.of pnX12_missed (Nat.le_of_ble_eq_true rfl) (lv := [some (.ref 20), some (.int a), some (.int l), some (.int d), none]) rfl ?_
  refine pb_iload_n (pc2 := 1) dX12_missed_0 rfl rfl rfl ?_
  refine pb_callS (pc2 := 4) (k2 := 0) (n2 := 0) mwX12_isArea swX12_isArea rfl mlX12_173 dX12_missed_1 (t_misArea a) (by omega) (by omega) (by omega) rfl rfl (Nat.le_of_ble_eq_true rfl) rfl (pb_kB ?_ ?_)
  rotate_left
  · intro q1
    refine pb_ifT_eq (tgt := 25) dX12_missed_4 (by decide) rfl ?_
    refine pb_iconst (x := -1) (pc2 := 26) dX12_missed_25 (by decide) rfl ?_
    exact pb_ireturn dX12_missed_26 rfl (pb_fin (if_neg (fun z => q1 z.1)) hR)
  intro q1
  refine pb_ifF_eq (tgt := 25) (pc2 := 7) dX12_missed_4 (by decide) rfl (by decide) ?_
  refine pb_iload_n (pc2 := 8) dX12_missed_7 rfl rfl rfl ?_
  refine pb_callS (pc2 := 11) (k2 := 0) (n2 := 0) mwX12_isLamp swX12_isLamp rfl mlX12_114 dX12_missed_8 (t_misLamp l) (by omega) (by omega) (by omega) rfl rfl (Nat.le_of_ble_eq_true rfl) rfl (pb_kB ?_ ?_)
  rotate_left
  · intro q2
    refine pb_ifT_eq (tgt := 25) dX12_missed_11 (by decide) rfl ?_
    refine pb_iconst (x := -1) (pc2 := 26) dX12_missed_25 (by decide) rfl ?_
    exact pb_ireturn dX12_missed_26 rfl (pb_fin (if_neg (fun z => q2 z.2.1)) hR)
  intro q2
  refine pb_ifF_eq (tgt := 25) (pc2 := 14) dX12_missed_11 (by decide) rfl (by decide) ?_
  refine pb_iload_n (pc2 := 15) dX12_missed_14 rfl rfl rfl ?_
  refine pb_iconst (x := nI 0) (pc2 := 16) dX12_missed_15 (by decide) rfl ?_
  refine pb_sipush (x := nI 30000) (pc2 := 19) dX12_missed_16 (by decide) rfl ?_
  refine pb_callS (pc2 := 22) (k2 := 0) (n2 := 0) mwX12_in swX12_in rfl mlX12_95 dX12_missed_19 (t_in d (nI 0) (nI 30000)) (by omega) (by omega) (by omega) rfl rfl (Nat.le_of_ble_eq_true rfl) rfl (pb_kB ?_ ?_)
  rotate_left
  · intro q3
    refine pb_ifF_ne (tgt := 27) (pc2 := 25) dX12_missed_22 rfl rfl (by decide) ?_
    refine pb_iconst (x := -1) (pc2 := 26) dX12_missed_25 (by decide) rfl ?_
    exact pb_ireturn dX12_missed_26 rfl (pb_fin (if_neg (fun z => q3 z.2.2)) hR)
  intro q3
  refine pb_ifT_ne (tgt := 27) dX12_missed_22 (by decide) (by decide) ?_
  have e0 : sp_missed A a l d = _ := if_pos ⟨q1, q2, q3⟩
  rw [e0]
  obtain ⟨a, -, ha, rfl⟩ := nI_rng (by omega) q1 (by omega)
  obtain ⟨l, -, hl, rfl⟩ := nI_rng (by omega) q2 (by omega)
  obtain ⟨d, -, hd, rfl⟩ := nI_rng (by omega) q3 (by omega)
  rw [pb_natN (by omega), pb_natN (by omega), pb_natN (by omega)]
  have hfo := pb_find_ok (fun n => d < pb_fy A a l (n - 1)) (100 - A 0 0) (A 0 0 + 1)
  generalize pb_find (fun n => d < pb_fy A a l (n - 1)) (100 - A 0 0) (A 0 0 + 1) = r at hfo ⊢
  have loop : ∀ (m z : Nat) (h' : pb_H), 100 - z < m → A 0 0 ≤ z → z ≤ 100 → (∀ k, A 0 0 ≤ k → k < z → ¬ d < pb_fy A a l k) → pb_RF A h h' → pb_S Z mX12_missed 4 0 0 (pb_PR (if r = 0 then -2 else nI (r - 1), A) h) 33 [some (.ref 20), some (.int (nI a)), some (.int (nI l)), some (.int (nI d)), some (.int (nI z))] [] h' := by
    intro m
    induction m with
    | zero => intro z h' h1; omega
    | succ m ih =>
      intro z h' h1 h2 h3 hno hR
      refine pb_iload (pc2 := 35) dX12_missed_33 rfl rfl ?_
      refine pb_bipush (x := nI 99) (pc2 := 37) dX12_missed_35 (by decide) rfl ?_
      refine pb_icmpN_gt (tgt := 83) (pc2 := 40) dX12_missed_37 (by decide) rfl (by omega) (by omega) (fun q => ?_) (fun q => ?_)
      · have e : r = 0 := by
          rcases hfo with ⟨f1, f2, f3, f4⟩ | ⟨f1, f2⟩
          · exact absurd f3 (hno (r - 1) (by omega) (by omega))
          · exact f1
        refine pb_bipush (x := -2) (pc2 := 85) dX12_missed_83 (by decide) rfl ?_
        exact pb_ireturn dX12_missed_85 rfl (pb_fin (by rw [if_pos e]) hR)
      · refine pb_aload_n (pc2 := 41) dX12_missed_40 rfl rfl rfl ?_
        refine pb_iload_n (pc2 := 42) dX12_missed_41 rfl rfl rfl ?_
        refine pb_iload (pc2 := 44) dX12_missed_42 rfl rfl ?_
        refine pb_callV (pc2 := 47) (k2 := 0) (n2 := 0) mwX12_lightOf pb_cl10.1 iwX12_lightOf seX12_lightOf rfl mlX12_179 dX12_missed_44 (by first | assumption | exact hR.a rfl | exact hR.o | exact hC.a rfl) (t_mlightOf w hR.rf (show a < 10 by omega) h2 q) (by omega) (by omega) (by omega) rfl rfl (Nat.le_of_ble_eq_true rfl) rfl (pb_kL (fun h_ F hR2 h32 hF => ?_))
        have hR := hR.trans hR2
        have hfb : ∀ b, b < 8 → F b ≤ 10000 := fun b hb => by rw [hF b hb]; exact pb_back_le w (by omega)
        refine pb_aload_n (pc2 := 48) dX12_missed_47 rfl rfl rfl ?_
        refine pb_aload_n (pc2 := 49) dX12_missed_48 rfl rfl rfl ?_
        refine pb_getf (pc2 := 52) flX12_68_X12 rfl dX12_missed_49 (by first | assumption | exact hR.a rfl | exact hR.o | exact hC.a rfl) rfl rfl ?_
        refine pb_iconst (x := nI 0) (pc2 := 53) dX12_missed_52 (by decide) rfl ?_
        refine pb_iald (pc2 := 54) (by first | assumption | exact hR.a rfl | exact hR.o | exact hC.a rfl) ⟨by decide, rfl⟩ dX12_missed_53 (by omega) (by omega) rfl ?_
        refine pb_aload_n (pc2 := 55) dX12_missed_54 rfl rfl rfl ?_
        refine pb_getf (pc2 := 58) flX12_68_X12 rfl dX12_missed_55 (by first | assumption | exact hR.a rfl | exact hR.o | exact hC.a rfl) rfl rfl ?_
        refine pb_iconst (x := nI 1) (pc2 := 59) dX12_missed_58 (by decide) rfl ?_
        refine pb_iald (pc2 := 60) (by first | assumption | exact hR.a rfl | exact hR.o | exact hC.a rfl) ⟨by decide, rfl⟩ dX12_missed_59 (by omega) (by omega) rfl ?_
        refine pb_aload_n (pc2 := 61) dX12_missed_60 rfl rfl rfl ?_
        refine pb_getf (pc2 := 64) flX12_68_X12 rfl dX12_missed_61 (by first | assumption | exact hR.a rfl | exact hR.o | exact hC.a rfl) rfl rfl ?_
        refine pb_iconst (x := nI 2) (pc2 := 65) dX12_missed_64 (by decide) rfl ?_
        refine pb_iald (pc2 := 66) (by first | assumption | exact hR.a rfl | exact hR.o | exact hC.a rfl) ⟨by decide, rfl⟩ dX12_missed_65 (by omega) (by omega) rfl ?_
        refine pb_iload_n (pc2 := 67) dX12_missed_66 rfl rfl rfl ?_
        refine pb_callV (pc2 := 70) (k2 := 0) (n2 := 0) mwX12_apartFrom pb_cl10.1 iwX12_apartFrom seX12_apartFrom rfl mlX12_183 dX12_missed_67 (by first | assumption | exact hR.a rfl | exact hR.o | exact hC.a rfl) (t_mapartFrom w hR (show l < 4 by omega) g0 g1 g2 hfb h32) (by omega) (by omega) (by omega) rfl rfl (Nat.le_of_ble_eq_true rfl) rfl (pb_kE ?_)
        refine pb_top (v2 := .int (nI (pb_fy A a l z))) (by rw [pb_far_congr hF]; rfl) ?_
        have hfyl : pb_fy A a l z ≤ 60000 := by
          have hb2 : ∀ b, b < 8 → pb_back A a z b ≤ 10000 := fun b hb => pb_back_le w (by omega)
          have s0 := pb_see_le (A := A) (l := l) (s := 0) hb2
          have s1 := pb_see_le (A := A) (l := l) (s := 1) hb2
          have s2 := pb_see_le (A := A) (l := l) (s := 2) hb2
          unfold pb_fy pb_far pb_abs
          omega
        refine pb_iload_n (pc2 := 71) dX12_missed_70 rfl rfl rfl ?_
        refine pb_icmpN_le (tgt := 77) (pc2 := 74) dX12_missed_71 (by decide) rfl (by omega) (by omega) (fun c => ?_) (fun c => ?_)
        · refine pb_iincP (c0 := 1) (lv2 := [_, _, _, _, _]) (pc2 := 80) dX12_missed_77 rfl (by decide) rfl rfl ?_
          refine pb_goto (tgt := 33) dX12_missed_80 (by decide) ?_
          refine ih (z + 1) h_ (by omega) (by omega) (by omega) (fun k k1 k2 => ?_) hR
          by_cases e : k = z
          · rw [e]; omega
          · exact hno k k1 (by omega)
        · have e : r = z + 1 := by
            rcases hfo with ⟨f1, f2, f3, f4⟩ | ⟨f1, f2⟩
            · rcases Nat.lt_trichotomy r (z + 1) with y | y | y
              · exact absurd f3 (hno (r - 1) (by omega) (by omega))
              · exact y
              · exact absurd (show d < pb_fy A a l (z + 1 - 1) from c) (f4 (z + 1) (by omega) y)
            · exact absurd (show d < pb_fy A a l (z + 1 - 1) from c) (f2 (z + 1) (by omega) (by omega))
          refine pb_iload (pc2 := 76) dX12_missed_74 rfl rfl ?_
          exact pb_ireturn dX12_missed_76 rfl (pb_fin (by rw [if_neg (by omega), e]; rfl) hR)
  refine pb_aload_n (pc2 := 28) dX12_missed_27 rfl rfl rfl ?_
  refine pb_getf (pc2 := 31) flX12_120_X12 rfl dX12_missed_28 (by first | assumption | exact hR.a rfl | exact hR.o | exact hC.a rfl) rfl rfl ?_
  refine pb_istore (lv2 := [_, _, _, _, _]) (pc2 := 33) dX12_missed_31 (by decide) rfl rfl ?_
  exact loop 101 (A 0 0) h (by omega) (by omega) (by omega) (fun k k1 k2 => by omega) hR
set_option maxRecDepth 10000 in
theorem r_tone (w : pb_WF A) (hR : pb_RF A h h) (a b c : Int32) : pb_T Z mX12_tone 1 0 0 [.ref 20, .int a, .int b, .int c] h (pb_PR (sp_tone A a b c) h) := by
  refine pb_T.of pnX12_tone (Nat.le_of_ble_eq_true rfl) (lv := [some (.ref 20), some (.int a), some (.int b), some (.int c)]) rfl ?_
  refine pb_iload_n (pc2 := 1) dX12_tone_0 rfl rfl rfl ?_
  refine pb_iconst (x := nI 0) (pc2 := 2) dX12_tone_1 (by decide) rfl ?_
  refine pb_sipush (x := nI 10000) (pc2 := 5) dX12_tone_2 (by decide) rfl ?_
  refine pb_callS (pc2 := 8) (k2 := 0) (n2 := 0) mwX12_in swX12_in rfl mlX12_95 dX12_tone_5 (t_in a (nI 0) (nI 10000)) (by omega) (by omega) (by omega) rfl rfl (Nat.le_of_ble_eq_true rfl) rfl (pb_kB ?_ ?_)
  rotate_left
  · intro q1
    refine pb_ifT_eq (tgt := 33) dX12_tone_8 (by decide) rfl ?_
    refine pb_iconst (x := -1) (pc2 := 34) dX12_tone_33 (by decide) rfl ?_
    exact pb_ireturn dX12_tone_34 rfl (pb_fin (if_neg (fun z => q1 z.1)) hR)
  intro q1
  refine pb_ifF_eq (tgt := 33) (pc2 := 11) dX12_tone_8 (by decide) rfl (by decide) ?_
  refine pb_iload_n (pc2 := 12) dX12_tone_11 rfl rfl rfl ?_
  refine pb_iconst (x := nI 0) (pc2 := 13) dX12_tone_12 (by decide) rfl ?_
  refine pb_sipush (x := nI 10000) (pc2 := 16) dX12_tone_13 (by decide) rfl ?_
  refine pb_callS (pc2 := 19) (k2 := 0) (n2 := 0) mwX12_in swX12_in rfl mlX12_95 dX12_tone_16 (t_in b (nI 0) (nI 10000)) (by omega) (by omega) (by omega) rfl rfl (Nat.le_of_ble_eq_true rfl) rfl (pb_kB ?_ ?_)
  rotate_left
  · intro q2
    refine pb_ifT_eq (tgt := 33) dX12_tone_19 (by decide) rfl ?_
    refine pb_iconst (x := -1) (pc2 := 34) dX12_tone_33 (by decide) rfl ?_
    exact pb_ireturn dX12_tone_34 rfl (pb_fin (if_neg (fun z => q2 z.2.1)) hR)
  intro q2
  refine pb_ifF_eq (tgt := 33) (pc2 := 22) dX12_tone_19 (by decide) rfl (by decide) ?_
  refine pb_iload_n (pc2 := 23) dX12_tone_22 rfl rfl rfl ?_
  refine pb_iconst (x := nI 0) (pc2 := 24) dX12_tone_23 (by decide) rfl ?_
  refine pb_sipush (x := nI 10000) (pc2 := 27) dX12_tone_24 (by decide) rfl ?_
  refine pb_callS (pc2 := 30) (k2 := 0) (n2 := 0) mwX12_in swX12_in rfl mlX12_95 dX12_tone_27 (t_in c (nI 0) (nI 10000)) (by omega) (by omega) (by omega) rfl rfl (Nat.le_of_ble_eq_true rfl) rfl (pb_kB ?_ ?_)
  rotate_left
  · intro q3
    refine pb_ifF_ne (tgt := 35) (pc2 := 33) dX12_tone_30 rfl rfl (by decide) ?_
    refine pb_iconst (x := -1) (pc2 := 34) dX12_tone_33 (by decide) rfl ?_
    exact pb_ireturn dX12_tone_34 rfl (pb_fin (if_neg (fun z => q3 z.2.2)) hR)
  intro q3
  refine pb_ifT_ne (tgt := 35) dX12_tone_30 (by decide) (by decide) ?_
  have e0 : sp_tone A a b c = _ := if_pos ⟨q1, q2, q3⟩
  rw [e0]
  obtain ⟨a, -, ha, rfl⟩ := nI_rng (by omega) q1 (by omega)
  obtain ⟨b, -, hb, rfl⟩ := nI_rng (by omega) q2 (by omega)
  obtain ⟨c, -, hc, rfl⟩ := nI_rng (by omega) q3 (by omega)
  rw [pb_natN (by omega), pb_natN (by omega), pb_natN (by omega)]
  refine pb_aload_n (pc2 := 36) dX12_tone_35 rfl rfl rfl ?_
  refine pb_getf (pc2 := 39) flX12_68_X12 rfl dX12_tone_36 (by first | assumption | exact hR.a rfl | exact hR.o | exact hC.a rfl) rfl rfl ?_
  refine pb_iconst (x := nI 0) (pc2 := 40) dX12_tone_39 (by decide) rfl ?_
  refine pb_iload_n (pc2 := 41) dX12_tone_40 rfl rfl rfl ?_
  refine pb_iastR (pc2 := 42) hR rfl dX12_tone_41 (by omega) rfl (fun h_ hR => ?_)
  refine pb_aload_n (pc2 := 43) dX12_tone_42 rfl rfl rfl ?_
  refine pb_getf (pc2 := 46) flX12_68_X12 rfl dX12_tone_43 (by first | assumption | exact hR.a rfl | exact hR.o | exact hC.a rfl) rfl rfl ?_
  refine pb_iconst (x := nI 1) (pc2 := 47) dX12_tone_46 (by decide) rfl ?_
  refine pb_iload_n (pc2 := 48) dX12_tone_47 rfl rfl rfl ?_
  refine pb_iastR (pc2 := 49) hR rfl dX12_tone_48 (by omega) rfl (fun h_ hR => ?_)
  refine pb_aload_n (pc2 := 50) dX12_tone_49 rfl rfl rfl ?_
  refine pb_getf (pc2 := 53) flX12_68_X12 rfl dX12_tone_50 (by first | assumption | exact hR.a rfl | exact hR.o | exact hC.a rfl) rfl rfl ?_
  refine pb_iconst (x := nI 2) (pc2 := 54) dX12_tone_53 (by decide) rfl ?_
  refine pb_iload_n (pc2 := 55) dX12_tone_54 rfl rfl rfl ?_
  refine pb_iastR (pc2 := 56) hR rfl dX12_tone_55 (by omega) rfl (fun h_ hR => ?_)
  refine pb_iconst (x := nI 1) (pc2 := 57) dX12_tone_56 (by decide) rfl ?_
  rw [pb_wf_wf, pb_wf_wf, pb_wf_self, pb_wf_self] at hR
  exact pb_ireturn dX12_tone_57 rfl (pb_fin rfl hR)
set_option maxRecDepth 10000 in
theorem r_matched (w : pb_WF A) (hR : pb_RF A h h) (t : Int32) : pb_T Z mX12_matched 2 0 0 [.ref 20, .int t] h (pb_PR (sp_matched A t) h) := by
  have ht := w.tubes
  have h18 := w.rest.1
  refine pb_T.of pnX12_matched (Nat.le_of_ble_eq_true rfl) (lv := [some (.ref 20), some (.int t)]) rfl ?_
  refine pb_aload_n (pc2 := 1) dX12_matched_0 rfl rfl rfl ?_
  refine pb_getf (pc2 := 4) flX12_209_X12 rfl dX12_matched_1 (by first | assumption | exact hR.a rfl | exact hR.o | exact hC.a rfl) rfl rfl ?_
  refine pb_ifN_eq (tgt := 24) (pc2 := 7) dX12_matched_4 (by decide) rfl (by omega) (fun c1 => ?_) (fun c1 => ?_)
  · refine pb_iconst (x := -1) (pc2 := 25) dX12_matched_24 (by decide) rfl ?_
    exact pb_ireturn dX12_matched_25 rfl (pb_fin (if_neg (fun z => z.1 c1)) hR)
  · refine pb_aload_n (pc2 := 8) dX12_matched_7 rfl rfl rfl ?_
    refine pb_iload_n (pc2 := 9) dX12_matched_8 rfl rfl rfl ?_
    refine pb_callV (pc2 := 12) (k2 := 0) (n2 := 0) mwX12_isTube pb_cl10.1 iwX12_isTube seX12_isTube rfl mlX12_99 dX12_matched_9 (by first | assumption | exact hR.a rfl | exact hR.o | exact hC.a rfl) (t_misTube hR t) (by omega) (by omega) (by omega) rfl rfl (Nat.le_of_ble_eq_true rfl) rfl (pb_kB ?_ ?_)
    rotate_left
    · intro q1
      refine pb_ifT_eq (tgt := 24) dX12_matched_12 (by decide) rfl ?_
      refine pb_iconst (x := -1) (pc2 := 25) dX12_matched_24 (by decide) rfl ?_
      exact pb_ireturn dX12_matched_25 rfl (pb_fin (if_neg (fun z => q1 z.2)) hR)
    intro q1
    refine pb_ifF_eq (tgt := 24) (pc2 := 15) dX12_matched_12 (by decide) rfl (by decide) ?_
    have e0 : sp_matched A t = _ := if_pos ⟨c1, q1⟩
    rw [e0]
    obtain ⟨t, ht1, rfl⟩ := pb_isT_of w q1
    rw [pb_natN (by omega)]
    refine pb_aload_n (pc2 := 16) dX12_matched_15 rfl rfl rfl ?_
    refine pb_getf (pc2 := 19) flX12_74_X12 rfl dX12_matched_16 (by first | assumption | exact hR.a rfl | exact hR.o | exact hC.a rfl) rfl rfl ?_
    refine pb_iload_n (pc2 := 20) dX12_matched_19 rfl rfl rfl ?_
    refine pb_iald (pc2 := 21) (by first | assumption | exact hR.a rfl | exact hR.o | exact hC.a rfl) ⟨by decide, rfl⟩ dX12_matched_20 (by omega) (by omega) rfl ?_
    refine pb_goto (tgt := 25) dX12_matched_21 (by decide) ?_
    exact pb_ireturn dX12_matched_25 rfl (pb_fin rfl hR)
set_option maxRecDepth 10000 in
theorem r_price (w : pb_WF A) (hR : pb_RF A h h) : pb_T Z mX12_price 1 0 0 [.ref 20] h (pb_PR (sp_price A) h) := by
  have h18 := w.rest.1
  refine pb_T.of pnX12_price (Nat.le_of_ble_eq_true rfl) (lv := [some (.ref 20)]) rfl ?_
  refine pb_aload_n (pc2 := 1) dX12_price_0 rfl rfl rfl ?_
  refine pb_getf (pc2 := 4) flX12_209_X12 rfl dX12_price_1 (by first | assumption | exact hR.a rfl | exact hR.o | exact hC.a rfl) rfl rfl ?_
  refine pb_ifN_eq (tgt := 14) (pc2 := 7) dX12_price_4 (by decide) rfl (by omega) (fun c1 => ?_) (fun c1 => ?_)
  · refine pb_iconst (x := -1) (pc2 := 15) dX12_price_14 (by decide) rfl ?_
    exact pb_ireturn dX12_price_15 rfl (pb_fin (if_neg (fun z => z c1)) hR)
  · refine pb_aload_n (pc2 := 8) dX12_price_7 rfl rfl rfl ?_
    refine pb_getf (pc2 := 11) flX12_203_X12 rfl dX12_price_8 (by first | assumption | exact hR.a rfl | exact hR.o | exact hC.a rfl) rfl rfl ?_
    refine pb_goto (tgt := 15) dX12_price_11 (by decide) ?_
    exact pb_ireturn dX12_price_15 rfl (pb_fin (if_pos c1) hR)
theorem pb_gz_of {A : pb_A} (w : pb_WF A) {x : Int32} (h : nI 0 ≤ x ∧ x ≤ nI (A 21 0) - nI 1) : ∃ i, i < A 21 0 ∧ A 21 0 ≤ 3 ∧ x = nI i := by
  have h21 := w.rest.2.2.2.1
  rcases h21 with h21 | h21
  · by_cases e : A 21 0 = 0
    · exfalso
      rw [e] at h
      have : nI 0 ≤ nI 0 - nI 1 := Int32.le_trans h.1 h.2
      revert this
      decide
    · rw [nI_sub (show 1 ≤ A 21 0 by omega)] at h
      obtain ⟨c, h1, h2, h3⟩ := nI_rng (lo := 0) (hi := A 21 0 - 1) (by omega) h (by omega)
      exact ⟨c, by omega, h21, h3⟩
  · exfalso
    rw [h21] at h
    have : nI 0 ≤ nI 4294967295 - nI 1 := Int32.le_trans h.1 h.2
    revert this
    decide
set_option maxRecDepth 10000 in
theorem r_glazed (w : pb_WF A) (hR : pb_RF A h h) (i : Int32) : pb_T Z mX12_glazed 1 0 0 [.ref 20, .int i] h (pb_PR (sp_glazed A i) h) := by
  refine pb_T.of pnX12_glazed (Nat.le_of_ble_eq_true rfl) (lv := [some (.ref 20), some (.int i)]) rfl ?_
  refine pb_iload_n (pc2 := 1) dX12_glazed_0 rfl rfl rfl ?_
  refine pb_iconst (x := nI 0) (pc2 := 2) dX12_glazed_1 (by decide) rfl ?_
  refine pb_aload_n (pc2 := 3) dX12_glazed_2 rfl rfl rfl ?_
  refine pb_getf (pc2 := 6) flX12_77_X12 rfl dX12_glazed_3 (by first | assumption | exact hR.a rfl | exact hR.o | exact hC.a rfl) rfl rfl ?_
  refine pb_iconst (x := nI 1) (pc2 := 7) dX12_glazed_6 (by decide) rfl ?_
  refine pb_isub (pc2 := 8) dX12_glazed_7 rfl ?_
  refine pb_callS (pc2 := 11) (k2 := 0) (n2 := 0) mwX12_in swX12_in rfl mlX12_95 dX12_glazed_8 (t_in i (nI 0) (nI (A 21 0) - nI 1)) (by omega) (by omega) (by omega) rfl rfl (Nat.le_of_ble_eq_true rfl) rfl (pb_kB ?_ ?_)
  rotate_left
  · intro q1
    refine pb_ifT_eq (tgt := 23) dX12_glazed_11 (by decide) rfl ?_
    refine pb_iconst (x := -1) (pc2 := 24) dX12_glazed_23 (by decide) rfl ?_
    exact pb_ireturn dX12_glazed_24 rfl (pb_fin (if_neg q1) hR)
  intro q1
  refine pb_ifF_eq (tgt := 23) (pc2 := 14) dX12_glazed_11 (by decide) rfl (by decide) ?_
  have e0 : sp_glazed A i = _ := if_pos q1
  rw [e0]
  obtain ⟨i, hi, h3, rfl⟩ := pb_gz_of w q1
  rw [pb_natN (by omega)]
  refine pb_aload_n (pc2 := 15) dX12_glazed_14 rfl rfl rfl ?_
  refine pb_getf (pc2 := 18) flX12_80_X12 rfl dX12_glazed_15 (by first | assumption | exact hR.a rfl | exact hR.o | exact hC.a rfl) rfl rfl ?_
  refine pb_iload_n (pc2 := 19) dX12_glazed_18 rfl rfl rfl ?_
  refine pb_iald (pc2 := 20) (by first | assumption | exact hR.a rfl | exact hR.o | exact hC.a rfl) ⟨by decide, rfl⟩ dX12_glazed_19 (by omega) (by omega) rfl ?_
  refine pb_goto (tgt := 24) dX12_glazed_20 (by decide) ?_
  exact pb_ireturn dX12_glazed_24 rfl (pb_fin rfl hR)
def sp_keepI (A : pb_A) (i : Nat) : pb_A := pb_wf A 25 (fun j => if 3 * A 24 0 ≤ j ∧ j < 3 * A 24 0 + i then A 17 (j - 3 * A 24 0) else A 25 j)
theorem sp_keepI_0 (A : pb_A) : sp_keepI A 0 = A := by
  funext f j
  unfold sp_keepI pb_wf
  grind
theorem sp_keepI_s (A : pb_A) (i : Nat) : pb_wf (sp_keepI A i) 25 (pb_un (sp_keepI A i 25) (3 * A 24 0 + i) (A 17 i)) = sp_keepI A (i + 1) := by
  funext f j
  by_cases e : f = 25
  · subst e
    simp only [sp_keepI, pb_wf, pb_un, if_true]
    by_cases e1 : j = 3 * A 24 0 + i
    · subst e1
      simp
    · grind
  · simp only [sp_keepI, pb_wf, e, if_false]
set_option maxRecDepth 10000 in
theorem r_keep (w : pb_WF A) (hR : pb_RF A h h) : pb_T Z mX12_keep 1 0 0 [.ref 20] h (pb_PR (sp_keep A) h) := by
  have h24 := w.rest.2.2.2.2.2.1
  refine pb_T.of pnX12_keep (Nat.le_of_ble_eq_true rfl) (lv := [some (.ref 20), none]) rfl ?_
  refine pb_aload_n (pc2 := 1) dX12_keep_0 rfl rfl rfl ?_
  refine pb_getf (pc2 := 4) flX12_223_X12 rfl dX12_keep_1 (by first | assumption | exact hR.a rfl | exact hR.o | exact hC.a rfl) rfl rfl ?_
  refine pb_bipush (x := nI 6) (pc2 := 6) dX12_keep_4 (by decide) rfl ?_
  refine pb_icmpN_ne (tgt := 12) (pc2 := 9) dX12_keep_6 (by decide) rfl (by omega) (by omega) (fun c1 => ?_) (fun c1 => ?_)
  · have loop : ∀ (m i : Nat) (h' : pb_H), 3 - i < m → i ≤ 3 → pb_RF (sp_keepI A i) h h' → pb_S Z mX12_keep 1 0 0 (pb_PR (sp_keep A) h) 14 [some (.ref 20), some (.int (nI i))] [] h' := by
      intro m
      induction m with
      | zero => intro i h' h1; omega
      | succ m ih =>
        intro i h' h1 h2 hR
        refine pb_iload_n (pc2 := 15) dX12_keep_14 rfl rfl rfl ?_
        refine pb_iconst (x := nI 3) (pc2 := 16) dX12_keep_15 (by decide) rfl ?_
        refine pb_icmpN_ge (tgt := 44) (pc2 := 19) dX12_keep_16 (by decide) rfl (by omega) (by omega) (fun q => ?_) (fun q => ?_)
        · have e : i = 3 := by omega
          subst e
          refine pb_aload_n (pc2 := 45) dX12_keep_44 rfl rfl rfl ?_
          refine pb_dup (pc2 := 46) dX12_keep_45 rfl rfl ?_
          refine pb_getf (v := .int (nI (A 24 0))) (pc2 := 49) flX12_223_X12 rfl dX12_keep_46 (by first | assumption | exact hR.a rfl | exact hR.o | exact hC.a rfl) rfl rfl ?_
          refine pb_iconst (x := nI 1) (pc2 := 50) dX12_keep_49 (by decide) rfl ?_
          refine pb_iaddN (pc2 := 51) dX12_keep_50 rfl ?_
          refine pb_putR hR flX12_223_X12 rfl dX12_keep_51 rfl rfl rfl 24 (fun _ => A 24 0 + 1) (by omega) rfl rfl (fun h_ hR => ?_)
          refine pb_aload_n (pc2 := 55) dX12_keep_54 rfl rfl rfl ?_
          refine pb_getf (v := .int (nI (A 24 0 + 1))) (pc2 := 58) flX12_223_X12 rfl dX12_keep_55 (by first | assumption | exact hR.a rfl | exact hR.o | exact hC.a rfl) rfl rfl ?_
          exact pb_ireturn dX12_keep_58 rfl (pb_fin (if_neg c1) hR)
        · refine pb_aload_n (pc2 := 20) dX12_keep_19 rfl rfl rfl ?_
          refine pb_getf (pc2 := 23) flX12_86_X12 rfl dX12_keep_20 (by first | assumption | exact hR.a rfl | exact hR.o | exact hC.a rfl) rfl rfl ?_
          refine pb_iconst (x := nI 3) (pc2 := 24) dX12_keep_23 (by decide) rfl ?_
          refine pb_aload_n (pc2 := 25) dX12_keep_24 rfl rfl rfl ?_
          refine pb_getf (v := .int (nI (A 24 0))) (pc2 := 28) flX12_223_X12 rfl dX12_keep_25 (by first | assumption | exact hR.a rfl | exact hR.o | exact hC.a rfl) rfl rfl ?_
          refine pb_imulN (pc2 := 29) dX12_keep_28 rfl ?_
          refine pb_iload_n (pc2 := 30) dX12_keep_29 rfl rfl rfl ?_
          refine pb_iaddN (pc2 := 31) dX12_keep_30 rfl ?_
          refine pb_aload_n (pc2 := 32) dX12_keep_31 rfl rfl rfl ?_
          refine pb_getf (pc2 := 35) flX12_68_X12 rfl dX12_keep_32 (by first | assumption | exact hR.a rfl | exact hR.o | exact hC.a rfl) rfl rfl ?_
          refine pb_iload_n (pc2 := 36) dX12_keep_35 rfl rfl rfl ?_
          refine pb_iald (pc2 := 37) (by first | assumption | exact hR.a rfl | exact hR.o | exact hC.a rfl) ⟨by decide, rfl⟩ dX12_keep_36 (by omega) (by omega) rfl ?_
          refine pb_top (v2 := .int (nI (A 17 i))) rfl ?_
          refine pb_iastR (pc2 := 38) hR rfl dX12_keep_37 (by omega) rfl (fun h_ hR => ?_)
          refine pb_iincP (c0 := 1) (lv2 := [_, _]) (pc2 := 41) dX12_keep_38 rfl (by decide) rfl rfl ?_
          refine pb_goto (tgt := 14) dX12_keep_41 (by decide) ?_
          exact ih (i + 1) _ (by omega) (by omega) (sp_keepI_s A i ▸ hR)
    refine pb_iconst (x := nI 0) (pc2 := 13) dX12_keep_12 (by decide) rfl ?_
    refine pb_istore_n (lv2 := [_, _]) (pc2 := 14) dX12_keep_13 rfl (by decide) rfl rfl ?_
    exact loop 4 0 h (by omega) (by omega) (by rw [sp_keepI_0]; exact hR)
  · refine pb_bipush (x := -3) (pc2 := 11) dX12_keep_9 (by decide) rfl ?_
    exact pb_ireturn dX12_keep_11 rfl (pb_fin (if_pos c1) hR)
set_option maxRecDepth 10000 in
theorem r_clear (w : pb_WF A) (hR : pb_RF A h h) : pb_T Z mX12_clear 1 0 0 [.ref 20] h (pb_PR (sp_clear A) h) := by
  refine pb_T.of pnX12_clear (Nat.le_of_ble_eq_true rfl) (lv := [some (.ref 20), none]) rfl ?_
  refine pb_aload_n (pc2 := 1) dX12_clear_0 rfl rfl rfl ?_
  refine pb_getf (pc2 := 4) flX12_223_X12 rfl dX12_clear_1 (by first | assumption | exact hR.a rfl | exact hR.o | exact hC.a rfl) rfl rfl ?_
  refine pb_istore_n (lv2 := [_, _]) (pc2 := 5) dX12_clear_4 rfl (by decide) rfl rfl ?_
  refine pb_aload_n (pc2 := 6) dX12_clear_5 rfl rfl rfl ?_
  refine pb_iconst (x := nI 0) (pc2 := 7) dX12_clear_6 (by decide) rfl ?_
  refine pb_putR hR flX12_223_X12 rfl dX12_clear_7 rfl rfl rfl 24 (fun _ => 0) (by omega) rfl rfl (fun h_ hR => ?_)
  refine pb_iload_n (pc2 := 11) dX12_clear_10 rfl rfl rfl ?_
  exact pb_ireturn dX12_clear_11 rfl (pb_fin rfl hR)
set_option maxRecDepth 10000 in
theorem r_count (w : pb_WF A) (hR : pb_RF A h h) (x : Int32) : pb_T Z mX12_count 2 0 0 [.ref 20, .int x] h (pb_PR (sp_count A x) h) := by
  have hy := w.year
  have ht := w.tubes
  have h24 := w.rest.2.2.2.2.2.1
  refine pb_T.of pnX12_count (Nat.le_of_ble_eq_true rfl) (lv := [some (.ref 20), some (.int x), none, none]) rfl ?_
  refine pb_iconst (x := nI 0) (pc2 := 1) dX12_count_0 (by decide) rfl ?_
  refine pb_istore_n (lv2 := [_, _, _, _]) (pc2 := 2) dX12_count_1 rfl (by decide) rfl rfl ?_
  refine pb_iload_n (pc2 := 3) dX12_count_2 rfl rfl rfl ?_
  unfold sp_count
  by_cases c0 : x = nI 0
  · subst c0
    refine pb_swIn (off := 45) (tgt := 48) dX12_count_3 (by decide) (by decide) rfl (by decide) ?_
    refine pb_aload_n (pc2 := 49) dX12_count_48 rfl rfl rfl ?_
    refine pb_getf (pc2 := 52) flX12_92_X12 rfl dX12_count_49 (by first | assumption | exact hR.a rfl | exact hR.o | exact hC.a rfl) rfl rfl ?_
    exact pb_ireturn dX12_count_52 rfl (pb_fin rfl hR)
  by_cases c1 : x = nI 1
  · subst c1
    refine pb_swIn (off := 50) (tgt := 53) dX12_count_3 (by decide) (by decide) rfl (by decide) ?_
    refine pb_aload_n (pc2 := 54) dX12_count_53 rfl rfl rfl ?_
    refine pb_getf (pc2 := 57) flX12_120_X12 rfl dX12_count_54 (by first | assumption | exact hR.a rfl | exact hR.o | exact hC.a rfl) rfl rfl ?_
    exact pb_ireturn dX12_count_57 rfl (pb_fin rfl hR)
  by_cases c2 : x = nI 2
  · subst c2
    refine pb_swIn (off := 55) (tgt := 58) dX12_count_3 (by decide) (by decide) rfl (by decide) ?_
    refine pb_aload_n (pc2 := 59) dX12_count_58 rfl rfl rfl ?_
    refine pb_getf (pc2 := 62) flX12_223_X12 rfl dX12_count_59 (by first | assumption | exact hR.a rfl | exact hR.o | exact hC.a rfl) rfl rfl ?_
    exact pb_ireturn dX12_count_62 rfl (pb_fin rfl hR)
  by_cases c3 : x = nI 3
  · subst c3
    refine pb_swIn (off := 60) (tgt := 63) dX12_count_3 (by decide) (by decide) rfl (by decide) ?_
    have loop : ∀ (m i : Nat), 12 - i < m → i ≤ 12 → pb_S Z mX12_count 2 0 0 (pb_PR (nI (pb_sum 12 (fun t => pb_sum 10 (fun p => A 11 (12 * p + t)))), A) h) 65 [some (.ref 20), some (.int (nI 3)), some (.int (nI (pb_sum i (fun t => pb_sum 10 (fun p => A 11 (12 * p + t)))))), some (.int (nI i))] [] h := by
      intro m
      induction m with
      | zero => intro i h1; omega
      | succ m ih =>
        intro i h1 h2
        refine pb_iload_n (pc2 := 66) dX12_count_65 rfl rfl rfl ?_
        refine pb_bipush (x := nI 12) (pc2 := 68) dX12_count_66 (by decide) rfl ?_
        refine pb_icmpN_ge (tgt := 85) (pc2 := 71) dX12_count_68 (by decide) rfl (by omega) (by omega) (fun q => ?_) (fun q => ?_)
        · have e : i = 12 := by omega
          subst e
          refine pb_iload_n (pc2 := 86) dX12_count_85 rfl rfl rfl ?_
          exact pb_ireturn dX12_count_86 rfl (pb_fin rfl hR)
        · refine pb_iload_n (pc2 := 72) dX12_count_71 rfl rfl rfl ?_
          refine pb_aload_n (pc2 := 73) dX12_count_72 rfl rfl rfl ?_
          refine pb_iload_n (pc2 := 74) dX12_count_73 rfl rfl rfl ?_
          refine pb_callV (pc2 := 77) (k2 := 0) (n2 := 0) mwX12_inPots pb_cl10.1 iwX12_inPots seX12_inPots rfl mlX12_106 dX12_count_74 (by first | assumption | exact hR.a rfl | exact hR.o | exact hC.a rfl) (t_minPots w hR q) (by omega) (by omega) (by omega) rfl rfl (Nat.le_of_ble_eq_true rfl) rfl (pb_kE ?_)
          refine pb_iaddN (pc2 := 78) dX12_count_77 rfl ?_
          refine pb_istore_n (lv2 := [_, _, _, _]) (pc2 := 79) dX12_count_78 rfl (by decide) rfl rfl ?_
          refine pb_iincP (c0 := 1) (lv2 := [_, _, _, _]) (pc2 := 82) dX12_count_79 rfl (by decide) rfl rfl ?_
          refine pb_goto (tgt := 65) dX12_count_82 (by decide) ?_
          exact ih (i + 1) (by omega) (by omega)
    refine pb_iconst (x := nI 0) (pc2 := 64) dX12_count_63 (by decide) rfl ?_
    refine pb_istore_n (lv2 := [_, _, _, _]) (pc2 := 65) dX12_count_64 rfl (by decide) rfl rfl ?_
    exact loop 13 0 (by omega) (by omega)
  by_cases c4 : x = nI 4
  · subst c4
    refine pb_swIn (off := 84) (tgt := 87) dX12_count_3 (by decide) (by decide) rfl (by decide) ?_
    have loop : ∀ (m i : Nat), 12 - i < m → i ≤ 12 → pb_S Z mX12_count 2 0 0 (pb_PR (nI (pb_sum 12 (A 5)), A) h) 89 [some (.ref 20), some (.int (nI 4)), some (.int (nI (pb_sum i (A 5)))), some (.int (nI i))] [] h := by
      intro m
      induction m with
      | zero => intro i h1; omega
      | succ m ih =>
        intro i h1 h2
        refine pb_iload_n (pc2 := 90) dX12_count_89 rfl rfl rfl ?_
        refine pb_bipush (x := nI 12) (pc2 := 92) dX12_count_90 (by decide) rfl ?_
        refine pb_icmpN_ge (tgt := 110) (pc2 := 95) dX12_count_92 (by decide) rfl (by omega) (by omega) (fun q => ?_) (fun q => ?_)
        · have e : i = 12 := by omega
          subst e
          refine pb_iload_n (pc2 := 111) dX12_count_110 rfl rfl rfl ?_
          exact pb_ireturn dX12_count_111 rfl (pb_fin rfl hR)
        · refine pb_iload_n (pc2 := 96) dX12_count_95 rfl rfl rfl ?_
          refine pb_aload_n (pc2 := 97) dX12_count_96 rfl rfl rfl ?_
          refine pb_getf (pc2 := 100) flX12_29_X12 rfl dX12_count_97 (by first | assumption | exact hR.a rfl | exact hR.o | exact hC.a rfl) rfl rfl ?_
          refine pb_iload_n (pc2 := 101) dX12_count_100 rfl rfl rfl ?_
          refine pb_iald (pc2 := 102) (by first | assumption | exact hR.a rfl | exact hR.o | exact hC.a rfl) ⟨by decide, rfl⟩ dX12_count_101 (by omega) (by omega) rfl ?_
          refine pb_iaddN (pc2 := 103) dX12_count_102 rfl ?_
          refine pb_istore_n (lv2 := [_, _, _, _]) (pc2 := 104) dX12_count_103 rfl (by decide) rfl rfl ?_
          refine pb_iincP (c0 := 1) (lv2 := [_, _, _, _]) (pc2 := 107) dX12_count_104 rfl (by decide) rfl rfl ?_
          refine pb_goto (tgt := 89) dX12_count_107 (by decide) ?_
          exact ih (i + 1) (by omega) (by omega)
    refine pb_iconst (x := nI 0) (pc2 := 88) dX12_count_87 (by decide) rfl ?_
    refine pb_istore_n (lv2 := [_, _, _, _]) (pc2 := 89) dX12_count_88 rfl (by decide) rfl rfl ?_
    exact loop 13 0 (by omega) (by omega)
  by_cases c5 : x = nI 5
  · subst c5
    refine pb_swIn (off := 109) (tgt := 112) dX12_count_3 (by decide) (by decide) rfl (by decide) ?_
    have loop : ∀ (m i : Nat), 12 - i < m → i ≤ 12 → pb_S Z mX12_count 2 0 0 (pb_PR (nI (pb_sum 12 (A 6)), A) h) 114 [some (.ref 20), some (.int (nI 5)), some (.int (nI (pb_sum i (A 6)))), some (.int (nI i))] [] h := by
      intro m
      induction m with
      | zero => intro i h1; omega
      | succ m ih =>
        intro i h1 h2
        refine pb_iload_n (pc2 := 115) dX12_count_114 rfl rfl rfl ?_
        refine pb_bipush (x := nI 12) (pc2 := 117) dX12_count_115 (by decide) rfl ?_
        refine pb_icmpN_ge (tgt := 135) (pc2 := 120) dX12_count_117 (by decide) rfl (by omega) (by omega) (fun q => ?_) (fun q => ?_)
        · have e : i = 12 := by omega
          subst e
          refine pb_iload_n (pc2 := 136) dX12_count_135 rfl rfl rfl ?_
          exact pb_ireturn dX12_count_136 rfl (pb_fin rfl hR)
        · refine pb_iload_n (pc2 := 121) dX12_count_120 rfl rfl rfl ?_
          refine pb_aload_n (pc2 := 122) dX12_count_121 rfl rfl rfl ?_
          refine pb_getf (pc2 := 125) flX12_32_X12 rfl dX12_count_122 (by first | assumption | exact hR.a rfl | exact hR.o | exact hC.a rfl) rfl rfl ?_
          refine pb_iload_n (pc2 := 126) dX12_count_125 rfl rfl rfl ?_
          refine pb_iald (pc2 := 127) (by first | assumption | exact hR.a rfl | exact hR.o | exact hC.a rfl) ⟨by decide, rfl⟩ dX12_count_126 (by omega) (by omega) rfl ?_
          refine pb_iaddN (pc2 := 128) dX12_count_127 rfl ?_
          refine pb_istore_n (lv2 := [_, _, _, _]) (pc2 := 129) dX12_count_128 rfl (by decide) rfl rfl ?_
          refine pb_iincP (c0 := 1) (lv2 := [_, _, _, _]) (pc2 := 132) dX12_count_129 rfl (by decide) rfl rfl ?_
          refine pb_goto (tgt := 114) dX12_count_132 (by decide) ?_
          exact ih (i + 1) (by omega) (by omega)
    refine pb_iconst (x := nI 0) (pc2 := 113) dX12_count_112 (by decide) rfl ?_
    refine pb_istore_n (lv2 := [_, _, _, _]) (pc2 := 114) dX12_count_113 rfl (by decide) rfl rfl ?_
    exact loop 13 0 (by omega) (by omega)
  by_cases c6 : x = nI 6
  · subst c6
    refine pb_swIn (off := 134) (tgt := 137) dX12_count_3 (by decide) (by decide) rfl (by decide) ?_
    have loop : ∀ (m i : Nat), 12 - i < m → i ≤ 12 → pb_S Z mX12_count 2 0 0 (pb_PR (nI (pb_sum 12 (A 4)), A) h) 139 [some (.ref 20), some (.int (nI 6)), some (.int (nI (pb_sum i (A 4)))), some (.int (nI i))] [] h := by
      intro m
      induction m with
      | zero => intro i h1; omega
      | succ m ih =>
        intro i h1 h2
        refine pb_iload_n (pc2 := 140) dX12_count_139 rfl rfl rfl ?_
        refine pb_bipush (x := nI 12) (pc2 := 142) dX12_count_140 (by decide) rfl ?_
        refine pb_icmpN_ge (tgt := 160) (pc2 := 145) dX12_count_142 (by decide) rfl (by omega) (by omega) (fun q => ?_) (fun q => ?_)
        · have e : i = 12 := by omega
          subst e
          refine pb_iload_n (pc2 := 161) dX12_count_160 rfl rfl rfl ?_
          exact pb_ireturn dX12_count_161 rfl (pb_fin rfl hR)
        · refine pb_iload_n (pc2 := 146) dX12_count_145 rfl rfl rfl ?_
          refine pb_aload_n (pc2 := 147) dX12_count_146 rfl rfl rfl ?_
          refine pb_getf (pc2 := 150) flX12_26_X12 rfl dX12_count_147 (by first | assumption | exact hR.a rfl | exact hR.o | exact hC.a rfl) rfl rfl ?_
          refine pb_iload_n (pc2 := 151) dX12_count_150 rfl rfl rfl ?_
          refine pb_iald (pc2 := 152) (by first | assumption | exact hR.a rfl | exact hR.o | exact hC.a rfl) ⟨by decide, rfl⟩ dX12_count_151 (by omega) (by omega) rfl ?_
          refine pb_iaddN (pc2 := 153) dX12_count_152 rfl ?_
          refine pb_istore_n (lv2 := [_, _, _, _]) (pc2 := 154) dX12_count_153 rfl (by decide) rfl rfl ?_
          refine pb_iincP (c0 := 1) (lv2 := [_, _, _, _]) (pc2 := 157) dX12_count_154 rfl (by decide) rfl rfl ?_
          refine pb_goto (tgt := 139) dX12_count_157 (by decide) ?_
          exact ih (i + 1) (by omega) (by omega)
    refine pb_iconst (x := nI 0) (pc2 := 138) dX12_count_137 (by decide) rfl ?_
    refine pb_istore_n (lv2 := [_, _, _, _]) (pc2 := 139) dX12_count_138 rfl (by decide) rfl rfl ?_
    exact loop 13 0 (by omega) (by omega)
  by_cases c7 : x = nI 7
  · subst c7
    refine pb_swIn (off := 159) (tgt := 162) dX12_count_3 (by decide) (by decide) rfl (by decide) ?_
    have loop : ∀ (m i : Nat), 10 - i < m → i ≤ 10 → pb_S Z mX12_count 2 0 0 (pb_PR (nI (pb_sum 10 (A 13)), A) h) 164 [some (.ref 20), some (.int (nI 7)), some (.int (nI (pb_sum i (A 13)))), some (.int (nI i))] [] h := by
      intro m
      induction m with
      | zero => intro i h1; omega
      | succ m ih =>
        intro i h1 h2
        refine pb_iload_n (pc2 := 165) dX12_count_164 rfl rfl rfl ?_
        refine pb_bipush (x := nI 10) (pc2 := 167) dX12_count_165 (by decide) rfl ?_
        refine pb_icmpN_ge (tgt := 185) (pc2 := 170) dX12_count_167 (by decide) rfl (by omega) (by omega) (fun q => ?_) (fun q => ?_)
        · have e : i = 10 := by omega
          subst e
          refine pb_iload_n (pc2 := 186) dX12_count_185 rfl rfl rfl ?_
          exact pb_ireturn dX12_count_186 rfl (pb_fin rfl hR)
        · refine pb_iload_n (pc2 := 171) dX12_count_170 rfl rfl rfl ?_
          refine pb_aload_n (pc2 := 172) dX12_count_171 rfl rfl rfl ?_
          refine pb_getf (pc2 := 175) flX12_56_X12 rfl dX12_count_172 (by first | assumption | exact hR.a rfl | exact hR.o | exact hC.a rfl) rfl rfl ?_
          refine pb_iload_n (pc2 := 176) dX12_count_175 rfl rfl rfl ?_
          refine pb_iald (pc2 := 177) (by first | assumption | exact hR.a rfl | exact hR.o | exact hC.a rfl) ⟨by decide, rfl⟩ dX12_count_176 (by omega) (by omega) rfl ?_
          refine pb_iaddN (pc2 := 178) dX12_count_177 rfl ?_
          refine pb_istore_n (lv2 := [_, _, _, _]) (pc2 := 179) dX12_count_178 rfl (by decide) rfl rfl ?_
          refine pb_iincP (c0 := 1) (lv2 := [_, _, _, _]) (pc2 := 182) dX12_count_179 rfl (by decide) rfl rfl ?_
          refine pb_goto (tgt := 164) dX12_count_182 (by decide) ?_
          exact ih (i + 1) (by omega) (by omega)
    refine pb_iconst (x := nI 0) (pc2 := 163) dX12_count_162 (by decide) rfl ?_
    refine pb_istore_n (lv2 := [_, _, _, _]) (pc2 := 164) dX12_count_163 rfl (by decide) rfl rfl ?_
    exact loop 11 0 (by omega) (by omega)
  refine pb_swOut (tgt := 187) dX12_count_3 (pb_swO (m := 7) (by omega) (fun k hk => by rcases (show k = 0 ∨ k = 1 ∨ k = 2 ∨ k = 3 ∨ k = 4 ∨ k = 5 ∨ k = 6 ∨ k = 7 by omega) with rfl | rfl | rfl | rfl | rfl | rfl | rfl | rfl <;> assumption)) (by decide) ?_
  refine pb_iconst (x := -1) (pc2 := 188) dX12_count_187 (by decide) rfl ?_
  exact pb_ireturn dX12_count_188 rfl (pb_fin (by rw [if_neg c0, if_neg c1, if_neg c2, if_neg c3, if_neg c4, if_neg c5, if_neg c6, if_neg c7]) hR)
end PB22

