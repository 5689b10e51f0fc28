theorem pb_tot_un {B : pb_A} {p t v : Nat} (ht : t < 12) : pb_tot (pb_wf B 11 (pb_un (B 11) (12 * p + t) v)) p + B 11 (12 * p + t) = pb_tot B p + v := by
  have e : pb_tot (pb_wf B 11 (pb_un (B 11) (12 * p + t) v)) p = pb_sum 12 (pb_un (pb_pot B p) t v) := by
    unfold pb_tot
    refine pb_sum_congr 12 (fun i hi => ?_)
    unfold pb_pot
    rw [pb_wf_self]
    unfold pb_un
    by_cases q : i = t
    · rw [if_pos (by omega), if_pos q]
    · rw [if_neg (by omega), if_neg q]
  rw [e]
  exact pb_sum_un 12 ht (F := pb_pot B p)
theorem pb_see_congr {A : pb_A} {l s : Nat} {F G : Nat → Nat} (h : ∀ b, b < 8 → F b = G b) : pb_see A l s F = pb_see A l s G := by
  unfold pb_see
  rw [pb_sum_congr (f := fun b => pb_wt A l s b * F b) (g := fun b => pb_wt A l s b * G b) 8 (fun i hi => by rw [h i hi])]
theorem pb_far_congr {A : pb_A} {l a b c : Nat} {F G : Nat → Nat} (h : ∀ b, b < 8 → F b = G b) : pb_far A l a b c F = pb_far A l a b c G := by
  unfold pb_far
  rw [pb_see_congr h, pb_see_congr h, pb_see_congr h]
/-- a pot that isn't empty -/
theorem pb_WF.potr {A : pb_A} (w : pb_WF A) {p b : Nat} (hp : p < 10) (hb : b < 8) (h1 : ¬ pb_tot A p = 0) : 0 < pb_sc A (pb_pot A p) b ∧ pb_dk A (pb_pot A p) b 0 ≤ 999 * pb_sc A (pb_pot A p) b ∧ pb_sc A (pb_pot A p) b ≤ 998001 ∧ pb_dk A (pb_pot A p) b 0 ≤ 998001 := by
  have ht := w.tot hp
  obtain ⟨r1, r2, r3⟩ := w.rows (P := pb_pot A p) ht (fun t h1 h2 => w.pot0 hp h2 h1) hb 0
  have e : pb_sum 12 (pb_pot A p) = pb_tot A p := rfl
  rw [e] at r1 r2 r3
  refine ⟨by omega, by omega, by omega, by omega⟩
def pb_gp (A : pb_A) (P : Nat → Nat) (b n g : Nat) : Nat := pb_lay (pb_ta (pb_dk A P b 0) (pb_sc A P b)) (pb_tb (pb_dk A P b 0) (pb_sc A P b)) n g
def pb_hq (A : pb_A) (P : Nat → Nat) (d n : Nat) : Prop := ∀ b, b < 8 → pb_abs (pb_gp A P b n 0) (pb_gp A P b n 10000) ≤ d
/-- the first n from n0 on, m of them, of a kind; 0 if none -/
def pb_least (Q : Nat → Prop) (m n0 r : Nat) : Prop := (n0 ≤ r ∧ r < n0 + m ∧ Q r ∧ ∀ n, n0 ≤ n → n < r → ¬ Q n) ∨ (r = 0 ∧ ∀ n, n0 ≤ n → n < n0 + m → ¬ Q n)
theorem pb_least_ex (Q : Nat → Prop) : ∀ m n0, ∃ r, pb_least Q m n0 r
  | 0, n0 => ⟨0, Or.inr ⟨rfl, fun n h1 h2 => by omega⟩⟩
  | m + 1, n0 => by
    by_cases h : Q n0
    · exact ⟨n0, Or.inl ⟨Nat.le_refl _, by omega, h, fun n h1 h2 => by omega⟩⟩
    · obtain ⟨r, hr⟩ := pb_least_ex Q m (n0 + 1)
      refine ⟨r, ?_⟩
      rcases hr with ⟨h1, h2, h3, h4⟩ | ⟨h1, h2⟩
      · refine Or.inl ⟨by omega, by omega, h3, fun n g1 g2 => ?_⟩
        by_cases e : n = n0
        · rw [e]; exact h
        · exact h4 n (by omega) g2
      · refine Or.inr ⟨h1, fun n g1 g2 => ?_⟩
        by_cases e : n = n0
        · rw [e]; exact h
        · exact h2 n (by omega) (by omega)
theorem pb_least_uniq {Q : Nat → Prop} {m n0 r r' : Nat} (h0 : 0 < n0) (h : pb_least Q m n0 r) (h' : pb_least Q m n0 r') : r = r' := by
  rcases h with ⟨h1, h2, h3, h4⟩ | ⟨h1, h2⟩ <;> rcases h' with ⟨g1, g2, g3, g4⟩ | ⟨g1, g2⟩
  · rcases Nat.lt_trichotomy r r' with q | q | q
    · exact absurd h3 (g4 r h1 q)
    · exact q
    · exact absurd g3 (h4 r' g1 q)
  · exact absurd h3 (g2 r h1 h2)
  · exact absurd g3 (h2 r' g1 g2)
  · rw [h1, g1]
noncomputable def pb_find (Q : Nat → Prop) (m n0 : Nat) : Nat := Classical.choose (pb_least_ex Q m n0)
theorem pb_find_ok (Q : Nat → Prop) (m n0 : Nat) : pb_least Q m n0 (pb_find Q m n0) := Classical.choose_spec (pb_least_ex Q m n0)
noncomputable def sp_hiding (A : pb_A) (p d : Int32) : Int32 × pb_A := if pb_in 0 9 p ∧ pb_in 0 10000 d then (if pb_tot A (pb_nat p) = 0 then (-2, A) else (if pb_find (pb_hq A (pb_pot A (pb_nat p)) (pb_nat d)) 200 1 = 0 then -2 else nI (pb_find (pb_hq A (pb_pot A (pb_nat p)) (pb_nat d)) 200 1), A)) else (-1, A)
section PB20
variable {Z : pb_Z} {h h0 : pb_H} {A : pb_A}
set_option maxRecDepth 10000 in
theorem r_press (w : pb_WF A) (hR : pb_RF A h h) (t p n : Int32) : pb_T Z mX12_press 2 0 0 [.ref 20, .int t, .int p, .int n] h (pb_PR (sp_press A t p n) h) := by
  have ht := w.tubes
  refine pb_T.of pnX12_press (Nat.le_of_ble_eq_true rfl) (lv := [some (.ref 20), some (.int t), some (.int p), some (.int n)]) rfl ?_
  refine pb_aload_n (pc2 := 1) dX12_press_0 rfl rfl rfl ?_
  refine pb_iload_n (pc2 := 2) dX12_press_1 rfl rfl rfl ?_
  refine pb_callV (pc2 := 5) (k2 := 0) (n2 := 0) mwX12_isTube pb_cl10.1 iwX12_isTube seX12_isTube rfl mlX12_99 dX12_press_2 (by first | assumption | exact hR.a rfl | exact hR.o | exact hC.a rfl) (t_misTube hR t) (by omega) (by omega) (by omega) rfl rfl (Nat.le_of_ble_eq_true rfl) rfl (pb_kB ?_ ?_)
  rotate_left
  · intro q1
    refine pb_ifT_eq (tgt := 25) dX12_press_5 (by decide) rfl ?_
    refine pb_iconst (x := -1) (pc2 := 26) dX12_press_25 (by decide) rfl ?_
    exact pb_ireturn dX12_press_26 rfl (pb_fin (if_neg (fun z => q1 z.1)) hR)
  intro q1
  refine pb_ifF_eq (tgt := 25) (pc2 := 8) dX12_press_5 (by decide) rfl (by decide) ?_
  refine pb_iload_n (pc2 := 9) dX12_press_8 rfl rfl rfl ?_
  refine pb_callS (pc2 := 12) (k2 := 0) (n2 := 0) mwX12_isPot swX12_isPot rfl mlX12_152 dX12_press_9 (t_misPot p) (by omega) (by omega) (by omega) rfl rfl (Nat.le_of_ble_eq_true rfl) rfl (pb_kB ?_ ?_)
  rotate_left
  · intro q2
    refine pb_ifT_eq (tgt := 25) dX12_press_12 (by decide) rfl ?_
    refine pb_iconst (x := -1) (pc2 := 26) dX12_press_25 (by decide) rfl ?_
    exact pb_ireturn dX12_press_26 rfl (pb_fin (if_neg (fun z => q2 z.2.1)) hR)
  intro q2
  refine pb_ifF_eq (tgt := 25) (pc2 := 15) dX12_press_12 (by decide) rfl (by decide) ?_
  refine pb_iload_n (pc2 := 16) dX12_press_15 rfl rfl rfl ?_
  refine pb_iconst (x := nI 1) (pc2 := 17) dX12_press_16 (by decide) rfl ?_
  refine pb_bipush (x := nI 99) (pc2 := 19) dX12_press_17 (by decide) rfl ?_
  refine pb_callS (pc2 := 22) (k2 := 0) (n2 := 0) mwX12_in swX12_in rfl mlX12_95 dX12_press_19 (t_in n (nI 1) (nI 99)) (by omega) (by omega) (by omega) rfl rfl (Nat.le_of_ble_eq_true rfl) rfl (pb_kB ?_ ?_)
  rotate_left
  · intro q3
    refine pb_ifF_ne (tgt := 27) (pc2 := 25) dX12_press_22 rfl rfl (by decide) ?_
    refine pb_iconst (x := -1) (pc2 := 26) dX12_press_25 (by decide) rfl ?_
    exact pb_ireturn dX12_press_26 rfl (pb_fin (if_neg (fun z => q3 z.2.2)) hR)
  intro q3
  refine pb_ifT_ne (tgt := 27) dX12_press_22 (by decide) (by decide) ?_
  have e0 : sp_press A t p n = _ := if_pos ⟨q1, q2, q3⟩
  rw [e0]
  obtain ⟨t, ht1, rfl⟩ := pb_isT_of w q1
  obtain ⟨p, -, hp, rfl⟩ := nI_rng (by omega) q2 (by omega)
  obtain ⟨n, hn1, hn, rfl⟩ := nI_rng (by omega) q3 (by omega)
  rw [pb_natN (by omega), pb_natN (by omega), pb_natN (by omega)]
  have hc := w.cons (show t < 12 by omega)
  have htot := w.tot (show p < 10 by omega)
  refine pb_aload_n (pc2 := 28) dX12_press_27 rfl rfl rfl ?_
  refine pb_getf (pc2 := 31) flX12_26_X12 rfl dX12_press_28 (by first | assumption | exact hR.a rfl | exact hR.o | exact hC.a rfl) rfl rfl ?_
  refine pb_iload_n (pc2 := 32) dX12_press_31 rfl rfl rfl ?_
  refine pb_iald (pc2 := 33) (by first | assumption | exact hR.a rfl | exact hR.o | exact hC.a rfl) ⟨by decide, rfl⟩ dX12_press_32 (by omega) (by omega) rfl ?_
  refine pb_iload_n (pc2 := 34) dX12_press_33 rfl rfl rfl ?_
  refine pb_icmpN_ge (tgt := 40) (pc2 := 37) dX12_press_34 (by decide) rfl (by omega) (by omega) (fun c1 => ?_) (fun c1 => ?_)
  · refine pb_aload_n (pc2 := 41) dX12_press_40 rfl rfl rfl ?_
    refine pb_iload_n (pc2 := 42) dX12_press_41 rfl rfl rfl ?_
    refine pb_callV (pc2 := 45) (k2 := 0) (n2 := 0) mwX12_inPot pb_cl10.1 iwX12_inPot seX12_inPot rfl mlX12_155 dX12_press_42 (by first | assumption | exact hR.a rfl | exact hR.o | exact hC.a rfl) (t_minPot hR (show p < 10 by omega)) (by omega) (by omega) (by omega) rfl rfl (Nat.le_of_ble_eq_true rfl) rfl (pb_kE ?_)
    refine pb_iload_n (pc2 := 46) dX12_press_45 rfl rfl rfl ?_
    refine pb_iaddN (pc2 := 47) dX12_press_46 rfl ?_
    refine pb_sipush (x := nI 999) (pc2 := 50) dX12_press_47 (by decide) rfl ?_
    refine pb_icmpN_le (tgt := 56) (pc2 := 53) dX12_press_50 (by decide) rfl (by omega) (by omega) (fun c2 => ?_) (fun c2 => ?_)
    · refine pb_aload_n (pc2 := 57) dX12_press_56 rfl rfl rfl ?_
      refine pb_getf (pc2 := 60) flX12_26_X12 rfl dX12_press_57 (by first | assumption | exact hR.a rfl | exact hR.o | exact hC.a rfl) rfl rfl ?_
      refine pb_iload_n (pc2 := 61) dX12_press_60 rfl rfl rfl ?_
      refine pb_dup2 (pc2 := 62) dX12_press_61 rfl rfl rfl ?_
      refine pb_iald (pc2 := 63) (by first | assumption | exact hR.a rfl | exact hR.o | exact hC.a rfl) ⟨by decide, rfl⟩ dX12_press_62 (by omega) (by omega) rfl ?_
      refine pb_iload_n (pc2 := 64) dX12_press_63 rfl rfl rfl ?_
      refine pb_isubN (pc2 := 65) dX12_press_64 (by omega) rfl ?_
      refine pb_iastR (pc2 := 66) hR rfl dX12_press_65 (by omega) rfl (fun h_ hR => ?_)
      refine pb_aload_n (pc2 := 67) dX12_press_66 rfl rfl rfl ?_
      refine pb_getf (pc2 := 70) flX12_44_X12 rfl dX12_press_67 (by first | assumption | exact hR.a rfl | exact hR.o | exact hC.a rfl) rfl rfl ?_
      refine pb_bipush (x := nI 12) (pc2 := 72) dX12_press_70 (by decide) rfl ?_
      refine pb_iload_n (pc2 := 73) dX12_press_72 rfl rfl rfl ?_
      refine pb_imulN (pc2 := 74) dX12_press_73 rfl ?_
      refine pb_iload_n (pc2 := 75) dX12_press_74 rfl rfl rfl ?_
      refine pb_iaddN (pc2 := 76) dX12_press_75 rfl ?_
      refine pb_dup2 (pc2 := 77) dX12_press_76 rfl rfl rfl ?_
      refine pb_iald (pc2 := 78) (by first | assumption | exact hR.a rfl | exact hR.o | exact hC.a rfl) ⟨by decide, rfl⟩ dX12_press_77 (by omega) (by omega) rfl ?_
      refine pb_iload_n (pc2 := 79) dX12_press_78 rfl rfl rfl ?_
      refine pb_iaddN (pc2 := 80) dX12_press_79 rfl ?_
      refine pb_iastR (pc2 := 81) hR rfl dX12_press_80 (by omega) rfl (fun h_ hR => ?_)
      refine pb_aload_n (pc2 := 82) dX12_press_81 rfl rfl rfl ?_
      refine pb_iload_n (pc2 := 83) dX12_press_82 rfl rfl rfl ?_
      refine pb_callV (pc2 := 86) (k2 := 0) (n2 := 0) mwX12_inPot pb_cl10.1 iwX12_inPot seX12_inPot rfl mlX12_155 dX12_press_83 (by first | assumption | exact hR.a rfl | exact hR.o | exact hC.a rfl) (t_minPot hR (show p < 10 by omega)) (by omega) (by omega) (by omega) rfl rfl (Nat.le_of_ble_eq_true rfl) rfl (pb_kE ?_)
      have e1 := pb_tot_un (B := pb_wf A 4 (pb_un (A 4) t (A 4 t - n))) (p := p) (t := t) (v := A 11 (12 * p + t) + n) (by omega)
      have e2 : pb_tot (pb_wf A 4 (pb_un (A 4) t (A 4 t - n))) p = pb_tot A p := rfl
      have e3 : pb_wf A 4 (pb_un (A 4) t (A 4 t - n)) 11 (12 * p + t) = A 11 (12 * p + t) := rfl
      rw [e2, e3] at e1
      have e4 : pb_tot (pb_wf (pb_wf A 4 (pb_un (A 4) t (A 4 t - n))) 11 (pb_un (pb_wf A 4 (pb_un (A 4) t (A 4 t - n)) 11) (12 * p + t) (A 11 (12 * p + t) + n))) p = pb_tot A p + n := by omega
      refine pb_top (v2 := .int (nI (pb_tot A p + n))) (congrArg (fun z => Value.int (nI z)) e4) ?_
      exact pb_ireturn dX12_press_86 rfl (pb_fin (by rw [if_neg (by omega), if_neg (by omega)]; rfl) hR)
    · refine pb_bipush (x := -3) (pc2 := 55) dX12_press_53 (by decide) rfl ?_
      exact pb_ireturn dX12_press_55 rfl (pb_fin (by rw [if_neg (by omega), if_pos (by omega)]) hR)
  · refine pb_bipush (x := -2) (pc2 := 39) dX12_press_37 (by decide) rfl ?_
    exact pb_ireturn dX12_press_39 rfl (pb_fin (if_pos (by omega)) hR)
def sp_pourI (A : pb_A) (p o i : Nat) : pb_A := pb_wf A 11 (fun j => if 12 * o ≤ j ∧ j < 12 * o + i then A 11 j + A 11 (12 * p + (j - 12 * o)) else if 12 * p ≤ j ∧ j < 12 * p + i then 0 else A 11 j)
theorem sp_pourI_0 (A : pb_A) (p o : Nat) : sp_pourI A p o 0 = A := by
  funext f j
  unfold sp_pourI pb_wf
  grind
theorem sp_pourI_o {A : pb_A} {p o i : Nat} (hpo : ¬ p = o) (hi : i < 12) : sp_pourI A p o i 11 (12 * o + i) = A 11 (12 * o + i) := by
  unfold sp_pourI
  rw [pb_wf_self, if_neg (by omega), if_neg (by omega)]
theorem sp_pourI_p {A : pb_A} {p o i : Nat} (hpo : ¬ p = o) (hi : i < 12) : sp_pourI A p o i 11 (12 * p + i) = A 11 (12 * p + i) := by
  unfold sp_pourI
  rw [pb_wf_self, if_neg (by omega), if_neg (by omega)]
theorem sp_pourI_s {A : pb_A} {p o i : Nat} (hpo : ¬ p = o) (hi : i < 12) : pb_wf (pb_wf (sp_pourI A p o i) 11 (pb_un (sp_pourI A p o i 11) (12 * o + i) (A 11 (12 * o + i) + A 11 (12 * p + i)))) 11 (pb_un (pb_wf (sp_pourI A p o i) 11 (pb_un (sp_pourI A p o i 11) (12 * o + i) (A 11 (12 * o + i) + A 11 (12 * p + i))) 11) (12 * p + i) 0) = sp_pourI A p o (i + 1) := by
  funext f j
  by_cases ef : f = 11
  · subst ef
    simp only [sp_pourI, pb_wf, pb_un, if_true]
    by_cases e1 : j = 12 * p + i
    · subst e1
      rw [if_pos rfl, if_neg (by omega), if_pos (by omega)]
    · rw [if_neg e1]
      by_cases e2 : j = 12 * o + i
      · subst e2
        rw [if_pos rfl, if_pos (by omega), show 12 * o + i - 12 * o = i by omega]
      · rw [if_neg e2]
        by_cases e3 : 12 * o ≤ j ∧ j < 12 * o + i
        · rw [if_pos e3, if_pos (by omega)]
        · rw [if_neg e3, if_neg (c := 12 * o ≤ j ∧ j < 12 * o + (i + 1)) (by omega)]
          by_cases e4 : 12 * p ≤ j ∧ j < 12 * p + i
          · rw [if_pos e4, if_pos (by omega)]
          · rw [if_neg e4, if_neg (by omega)]
  · simp only [sp_pourI, pb_wf, ef, if_false]
theorem sp_pour_tot {A : pb_A} {p o : Nat} (hpo : ¬ p = o) : pb_tot (sp_pourA A p o) o = pb_tot A p + pb_tot A o := by
  have e : pb_tot (sp_pourA A p o) o = pb_sum 12 (fun t => pb_pot A o t + pb_pot A p t) := by
    unfold pb_tot
    refine pb_sum_congr 12 (fun i hi => ?_)
    unfold pb_pot sp_pourA
    rw [pb_wf_self, if_pos (by omega), show 12 * o + i - 12 * o = i by omega]
  rw [e, pb_sum_add]
  unfold pb_tot
  omega
set_option maxRecDepth 10000 in
theorem r_pour (w : pb_WF A) (hR : pb_RF A h h) (p o : Int32) : pb_T Z mX12_pour 2 0 0 [.ref 20, .int p, .int o] h (pb_PR (sp_pour A p o) h) := by
  refine pb_T.of pnX12_pour (Nat.le_of_ble_eq_true rfl) (lv := [some (.ref 20), some (.int p), some (.int o), none]) rfl ?_
  refine pb_iload_n (pc2 := 1) dX12_pour_0 rfl rfl rfl ?_
  refine pb_callS (pc2 := 4) (k2 := 0) (n2 := 0) mwX12_isPot swX12_isPot rfl mlX12_152 dX12_pour_1 (t_misPot p) (by omega) (by omega) (by omega) rfl rfl (Nat.le_of_ble_eq_true rfl) rfl (pb_kB ?_ ?_)
  rotate_left
  · intro q1
    refine pb_ifT_eq (tgt := 19) dX12_pour_4 (by decide) rfl ?_
    refine pb_iconst (x := -1) (pc2 := 20) dX12_pour_19 (by decide) rfl ?_
    exact pb_ireturn dX12_pour_20 rfl (pb_fin (if_neg (fun z => q1 z.1)) hR)
  intro q1
  refine pb_ifF_eq (tgt := 19) (pc2 := 7) dX12_pour_4 (by decide) rfl (by decide) ?_
  refine pb_iload_n (pc2 := 8) dX12_pour_7 rfl rfl rfl ?_
  refine pb_callS (pc2 := 11) (k2 := 0) (n2 := 0) mwX12_isPot swX12_isPot rfl mlX12_152 dX12_pour_8 (t_misPot o) (by omega) (by omega) (by omega) rfl rfl (Nat.le_of_ble_eq_true rfl) rfl (pb_kB ?_ ?_)
  rotate_left
  · intro q2
    refine pb_ifT_eq (tgt := 19) dX12_pour_11 (by decide) rfl ?_
    refine pb_iconst (x := -1) (pc2 := 20) dX12_pour_19 (by decide) rfl ?_
    exact pb_ireturn dX12_pour_20 rfl (pb_fin (if_neg (fun z => q2 z.2.1)) hR)
  intro q2
  refine pb_ifF_eq (tgt := 19) (pc2 := 14) dX12_pour_11 (by decide) rfl (by decide) ?_
  refine pb_iload_n (pc2 := 15) dX12_pour_14 rfl rfl rfl ?_
  refine pb_iload_n (pc2 := 16) dX12_pour_15 rfl rfl rfl ?_
  refine pb_icmp_ne (tgt := 21) (pc2 := 19) dX12_pour_16 (by decide) rfl (fun q3 => ?_) (fun q3 => ?_)
  · have e0 : sp_pour A p o = _ := if_pos ⟨q1, q2, q3⟩
    rw [e0]
    obtain ⟨p, -, hp, rfl⟩ := nI_rng (by omega) q1 (by omega)
    obtain ⟨o, -, ho, rfl⟩ := nI_rng (by omega) q2 (by omega)
    rw [pb_natN (by omega), pb_natN (by omega)]
    have hpo : ¬ p = o := fun z => q3 (by rw [z])
    have t1 := w.tot (show p < 10 by omega)
    have t2 := w.tot (show o < 10 by omega)
    refine pb_aload_n (pc2 := 22) dX12_pour_21 rfl rfl rfl ?_
    refine pb_iload_n (pc2 := 23) dX12_pour_22 rfl rfl rfl ?_
    refine pb_callV (pc2 := 26) (k2 := 0) (n2 := 0) mwX12_inPot pb_cl10.1 iwX12_inPot seX12_inPot rfl mlX12_155 dX12_pour_23 (by first | assumption | exact hR.a rfl | exact hR.o | exact hC.a rfl) (t_minPot hR (show p < 10 by omega)) (by omega) (by omega) (by omega) rfl rfl (Nat.le_of_ble_eq_true rfl) rfl (pb_kE ?_)
    refine pb_ifN_ne (tgt := 32) (pc2 := 29) dX12_pour_26 (by decide) rfl (by omega) (fun c1 => ?_) (fun c1 => ?_)
    · refine pb_aload_n (pc2 := 33) dX12_pour_32 rfl rfl rfl ?_
      refine pb_iload_n (pc2 := 34) dX12_pour_33 rfl rfl rfl ?_
      refine pb_callV (pc2 := 37) (k2 := 0) (n2 := 0) mwX12_inPot pb_cl10.1 iwX12_inPot seX12_inPot rfl mlX12_155 dX12_pour_34 (by first | assumption | exact hR.a rfl | exact hR.o | exact hC.a rfl) (t_minPot hR (show p < 10 by omega)) (by omega) (by omega) (by omega) rfl rfl (Nat.le_of_ble_eq_true rfl) rfl (pb_kE ?_)
      refine pb_aload_n (pc2 := 38) dX12_pour_37 rfl rfl rfl ?_
      refine pb_iload_n (pc2 := 39) dX12_pour_38 rfl rfl rfl ?_
      refine pb_callV (pc2 := 42) (k2 := 0) (n2 := 0) mwX12_inPot pb_cl10.1 iwX12_inPot seX12_inPot rfl mlX12_155 dX12_pour_39 (by first | assumption | exact hR.a rfl | exact hR.o | exact hC.a rfl) (t_minPot hR (show o < 10 by omega)) (by omega) (by omega) (by omega) rfl rfl (Nat.le_of_ble_eq_true rfl) rfl (pb_kE ?_)
      refine pb_iaddN (pc2 := 43) dX12_pour_42 rfl ?_
      refine pb_sipush (x := nI 999) (pc2 := 46) dX12_pour_43 (by decide) rfl ?_
      refine pb_icmpN_le (tgt := 52) (pc2 := 49) dX12_pour_46 (by decide) rfl (by omega) (by omega) (fun c2 => ?_) (fun c2 => ?_)
      · have loop : ∀ (m i : Nat) (h' : pb_H), 12 - i < m → i ≤ 12 → pb_RF (sp_pourI A p o i) h h' → pb_S Z mX12_pour 2 0 0 (pb_PR (if pb_tot A p = 0 then (-2, A) else if 999 < pb_tot A p + pb_tot A o then (-3, A) else (nI (pb_tot A p + pb_tot A o), sp_pourA A p o)) h) 54 [some (.ref 20), some (.int (nI p)), some (.int (nI o)), some (.int (nI i))] [] h' := by
          intro m
          induction m with
          | zero => intro i h' h1; omega
          | succ m ih =>
            intro i h' h1 h2 hR
            refine pb_iload_n (pc2 := 55) dX12_pour_54 rfl rfl rfl ?_
            refine pb_bipush (x := nI 12) (pc2 := 57) dX12_pour_55 (by decide) rfl ?_
            refine pb_icmpN_ge (tgt := 103) (pc2 := 60) dX12_pour_57 (by decide) rfl (by omega) (by omega) (fun q => ?_) (fun q => ?_)
            · have e : i = 12 := by omega
              subst e
              refine pb_aload_n (pc2 := 104) dX12_pour_103 rfl rfl rfl ?_
              refine pb_iload_n (pc2 := 105) dX12_pour_104 rfl rfl rfl ?_
              refine pb_callV (pc2 := 108) (k2 := 0) (n2 := 0) mwX12_inPot pb_cl10.1 iwX12_inPot seX12_inPot rfl mlX12_155 dX12_pour_105 (by first | assumption | exact hR.a rfl | exact hR.o | exact hC.a rfl) (t_minPot hR (show o < 10 by omega)) (by omega) (by omega) (by omega) rfl rfl (Nat.le_of_ble_eq_true rfl) rfl (pb_kE ?_)
              refine pb_top (v2 := .int (nI (pb_tot A p + pb_tot A o))) (congrArg (fun z => Value.int (nI z)) (sp_pour_tot hpo)) ?_
              exact pb_ireturn dX12_pour_108 rfl (pb_fin (by rw [if_neg c1, if_neg (by omega)]; rfl) hR)
            · refine pb_aload_n (pc2 := 61) dX12_pour_60 rfl rfl rfl ?_
              refine pb_getf (pc2 := 64) flX12_44_X12 rfl dX12_pour_61 (by first | assumption | exact hR.a rfl | exact hR.o | exact hC.a rfl) rfl rfl ?_
              refine pb_bipush (x := nI 12) (pc2 := 66) dX12_pour_64 (by decide) rfl ?_
              refine pb_iload_n (pc2 := 67) dX12_pour_66 rfl rfl rfl ?_
              refine pb_imulN (pc2 := 68) dX12_pour_67 rfl ?_
              refine pb_iload_n (pc2 := 69) dX12_pour_68 rfl rfl rfl ?_
              refine pb_iaddN (pc2 := 70) dX12_pour_69 rfl ?_
              refine pb_dup2 (pc2 := 71) dX12_pour_70 rfl rfl rfl ?_
              refine pb_iald (pc2 := 72) (by first | assumption | exact hR.a rfl | exact hR.o | exact hC.a rfl) ⟨by decide, rfl⟩ dX12_pour_71 (by omega) (by omega) rfl ?_
              refine pb_aload_n (pc2 := 73) dX12_pour_72 rfl rfl rfl ?_
              refine pb_getf (pc2 := 76) flX12_44_X12 rfl dX12_pour_73 (by first | assumption | exact hR.a rfl | exact hR.o | exact hC.a rfl) rfl rfl ?_
              refine pb_bipush (x := nI 12) (pc2 := 78) dX12_pour_76 (by decide) rfl ?_
              refine pb_iload_n (pc2 := 79) dX12_pour_78 rfl rfl rfl ?_
              refine pb_imulN (pc2 := 80) dX12_pour_79 rfl ?_
              refine pb_iload_n (pc2 := 81) dX12_pour_80 rfl rfl rfl ?_
              refine pb_iaddN (pc2 := 82) dX12_pour_81 rfl ?_
              refine pb_iald (pc2 := 83) (by first | assumption | exact hR.a rfl | exact hR.o | exact hC.a rfl) ⟨by decide, rfl⟩ dX12_pour_82 (by omega) (by omega) rfl ?_
              refine pb_top (v2 := .int (nI (A 11 (12 * p + i)))) (by rw [sp_pourI_p hpo q]) ?_
              refine pb_iaddN (pc2 := 84) dX12_pour_83 rfl ?_
              refine pb_top (v2 := .int (nI (A 11 (12 * o + i) + A 11 (12 * p + i)))) (by rw [sp_pourI_o hpo q]) ?_
              refine pb_iastR (pc2 := 85) hR rfl dX12_pour_84 (by omega) rfl (fun h_ hR => ?_)
              refine pb_aload_n (pc2 := 86) dX12_pour_85 rfl rfl rfl ?_
              refine pb_getf (pc2 := 89) flX12_44_X12 rfl dX12_pour_86 (by first | assumption | exact hR.a rfl | exact hR.o | exact hC.a rfl) rfl rfl ?_
              refine pb_bipush (x := nI 12) (pc2 := 91) dX12_pour_89 (by decide) rfl ?_
              refine pb_iload_n (pc2 := 92) dX12_pour_91 rfl rfl rfl ?_
              refine pb_imulN (pc2 := 93) dX12_pour_92 rfl ?_
              refine pb_iload_n (pc2 := 94) dX12_pour_93 rfl rfl rfl ?_
              refine pb_iaddN (pc2 := 95) dX12_pour_94 rfl ?_
              refine pb_iconst (x := nI 0) (pc2 := 96) dX12_pour_95 (by decide) rfl ?_
              refine pb_iastR (pc2 := 97) hR rfl dX12_pour_96 (by omega) rfl (fun h_ hR => ?_)
              refine pb_iincP (c0 := 1) (lv2 := [_, _, _, _]) (pc2 := 100) dX12_pour_97 rfl (by decide) rfl rfl ?_
              refine pb_goto (tgt := 54) dX12_pour_100 (by decide) ?_
              exact ih (i + 1) _ (by omega) (by omega) (sp_pourI_s hpo q ▸ hR)
        refine pb_iconst (x := nI 0) (pc2 := 53) dX12_pour_52 (by decide) rfl ?_
        refine pb_istore_n (lv2 := [_, _, _, _]) (pc2 := 54) dX12_pour_53 rfl (by decide) rfl rfl ?_
        exact loop 13 0 h (by omega) (by omega) (by rw [sp_pourI_0]; exact hR)
      · refine pb_bipush (x := -3) (pc2 := 51) dX12_pour_49 (by decide) rfl ?_
        exact pb_ireturn dX12_pour_51 rfl (pb_fin (by rw [if_neg c1, if_pos (by omega)]) hR)
    · refine pb_bipush (x := -2) (pc2 := 31) dX12_pour_29 (by decide) rfl ?_
      exact pb_ireturn dX12_pour_31 rfl (pb_fin (if_pos c1) hR)
  · refine pb_iconst (x := -1) (pc2 := 20) dX12_pour_19 (by decide) rfl ?_
    exact pb_ireturn dX12_pour_20 rfl (pb_fin (if_neg (fun z => z.2.2 q3)) hR)
def sp_wasteI (A : pb_A) (p i : Nat) : pb_A := pb_wf (pb_wf A 6 (fun t => if t < i then A 6 t + A 11 (12 * p + t) else A 6 t)) 11 (fun j => if 12 * p ≤ j ∧ j < 12 * p + i then 0 else A 11 j)
theorem sp_wasteI_0 (A : pb_A) (p : Nat) : sp_wasteI A p 0 = A := by
  funext f j
  unfold sp_wasteI pb_wf
  grind
theorem sp_wasteI_s (A : pb_A) (p i : Nat) : pb_wf (pb_wf (sp_wasteI A p i) 6 (pb_un (sp_wasteI A p i 6) i (A 6 i + A 11 (12 * p + i)))) 11 (pb_un (sp_wasteI A p i 11) (12 * p + i) 0) = sp_wasteI A p (i + 1) := by
  funext f j
  simp only [sp_wasteI, pb_wf, pb_un]
  grind
set_option maxRecDepth 10000 in
theorem r_waste (w : pb_WF A) (hR : pb_RF A h h) (p : Int32) : pb_T Z mX12_waste 2 0 0 [.ref 20, .int p] h (pb_PR (sp_waste A p) h) := by
  refine pb_T.of pnX12_waste (Nat.le_of_ble_eq_true rfl) (lv := [some (.ref 20), some (.int p), none, none]) rfl ?_
  refine pb_iload_n (pc2 := 1) dX12_waste_0 rfl rfl rfl ?_
  refine pb_callS (pc2 := 4) (k2 := 0) (n2 := 0) mwX12_isPot swX12_isPot rfl mlX12_152 dX12_waste_1 (t_misPot p) (by omega) (by omega) (by omega) rfl rfl (Nat.le_of_ble_eq_true rfl) rfl (pb_kB ?_ ?_)
  rotate_left
  · intro q1
    refine pb_ifF_ne (tgt := 9) (pc2 := 7) dX12_waste_4 rfl rfl (by decide) ?_
    refine pb_iconst (x := -1) (pc2 := 8) dX12_waste_7 (by decide) rfl ?_
    exact pb_ireturn dX12_waste_8 rfl (pb_fin (if_neg q1) hR)
  intro q1
  refine pb_ifT_ne (tgt := 9) dX12_waste_4 (by decide) (by decide) ?_
  have e0 : sp_waste A p = _ := if_pos q1
  rw [e0]
  obtain ⟨p, -, hp, rfl⟩ := nI_rng (by omega) q1 (by omega)
  rw [pb_natN (by omega)]
  have t1 := w.tot (show p < 10 by omega)
  refine pb_aload_n (pc2 := 10) dX12_waste_9 rfl rfl rfl ?_
  refine pb_iload_n (pc2 := 11) dX12_waste_10 rfl rfl rfl ?_
  refine pb_callV (pc2 := 14) (k2 := 0) (n2 := 0) mwX12_inPot pb_cl10.1 iwX12_inPot seX12_inPot rfl mlX12_155 dX12_waste_11 (by first | assumption | exact hR.a rfl | exact hR.o | exact hC.a rfl) (t_minPot hR (show p < 10 by omega)) (by omega) (by omega) (by omega) rfl rfl (Nat.le_of_ble_eq_true rfl) rfl (pb_kE ?_)
  refine pb_istore_n (lv2 := [_, _, _, _]) (pc2 := 15) dX12_waste_14 rfl (by decide) rfl rfl ?_
  refine pb_iload_n (pc2 := 16) dX12_waste_15 rfl rfl rfl ?_
  refine pb_ifN_ne (tgt := 22) (pc2 := 19) dX12_waste_16 (by decide) rfl (by omega) (fun c1 => ?_) (fun c1 => ?_)
  · have loop : ∀ (m i : Nat) (h' : pb_H), 12 - i < m → i ≤ 12 → pb_RF (sp_wasteI A p i) h h' → pb_S Z mX12_waste 2 0 0 (pb_PR (if pb_tot A p = 0 then (-2, A) else (nI (pb_tot A p), sp_wasteA A p)) h) 24 [some (.ref 20), some (.int (nI p)), some (.int (nI (pb_tot A p))), some (.int (nI i))] [] h' := by
      intro m
      induction m with
      | zero => intro i h' h1; omega
      | succ m ih =>
        intro i h' h1 h2 hR
        refine pb_iload_n (pc2 := 25) dX12_waste_24 rfl rfl rfl ?_
        refine pb_bipush (x := nI 12) (pc2 := 27) dX12_waste_25 (by decide) rfl ?_
        refine pb_icmpN_ge (tgt := 68) (pc2 := 30) dX12_waste_27 (by decide) rfl (by omega) (by omega) (fun q => ?_) (fun q => ?_)
        · have e : i = 12 := by omega
          subst e
          refine pb_iload_n (pc2 := 69) dX12_waste_68 rfl rfl rfl ?_
          exact pb_ireturn dX12_waste_69 rfl (pb_fin (by rw [if_neg c1]; rfl) hR)
        · have e1 : sp_wasteI A p i 11 (12 * p + i) = A 11 (12 * p + i) := by unfold sp_wasteI; rw [pb_wf_self, if_neg (by omega)]
          have e2 : sp_wasteI A p i 6 i = A 6 i := by
            unfold sp_wasteI
            rw [pb_wf_ne _ _ (by omega), pb_wf_self, if_neg (by omega)]
          refine pb_aload_n (pc2 := 31) dX12_waste_30 rfl rfl rfl ?_
          refine pb_getf (pc2 := 34) flX12_32_X12 rfl dX12_waste_31 (by first | assumption | exact hR.a rfl | exact hR.o | exact hC.a rfl) rfl rfl ?_
          refine pb_iload_n (pc2 := 35) dX12_waste_34 rfl rfl rfl ?_
          refine pb_dup2 (pc2 := 36) dX12_waste_35 rfl rfl rfl ?_
          refine pb_iald (pc2 := 37) (by first | assumption | exact hR.a rfl | exact hR.o | exact hC.a rfl) ⟨by decide, rfl⟩ dX12_waste_36 (by omega) (by omega) rfl ?_
          refine pb_aload_n (pc2 := 38) dX12_waste_37 rfl rfl rfl ?_
          refine pb_getf (pc2 := 41) flX12_44_X12 rfl dX12_waste_38 (by first | assumption | exact hR.a rfl | exact hR.o | exact hC.a rfl) rfl rfl ?_
          refine pb_bipush (x := nI 12) (pc2 := 43) dX12_waste_41 (by decide) rfl ?_
          refine pb_iload_n (pc2 := 44) dX12_waste_43 rfl rfl rfl ?_
          refine pb_imulN (pc2 := 45) dX12_waste_44 rfl ?_
          refine pb_iload_n (pc2 := 46) dX12_waste_45 rfl rfl rfl ?_
          refine pb_iaddN (pc2 := 47) dX12_waste_46 rfl ?_
          refine pb_iald (pc2 := 48) (by first | assumption | exact hR.a rfl | exact hR.o | exact hC.a rfl) ⟨by decide, rfl⟩ dX12_waste_47 (by omega) (by omega) rfl ?_
          refine pb_iaddN (pc2 := 49) dX12_waste_48 rfl ?_
          refine pb_top (v2 := .int (nI (A 6 i + A 11 (12 * p + i)))) (by rw [e1, e2]) ?_
          refine pb_iastR (pc2 := 50) hR rfl dX12_waste_49 (by omega) rfl (fun h_ hR => ?_)
          refine pb_aload_n (pc2 := 51) dX12_waste_50 rfl rfl rfl ?_
          refine pb_getf (pc2 := 54) flX12_44_X12 rfl dX12_waste_51 (by first | assumption | exact hR.a rfl | exact hR.o | exact hC.a rfl) rfl rfl ?_
          refine pb_bipush (x := nI 12) (pc2 := 56) dX12_waste_54 (by decide) rfl ?_
          refine pb_iload_n (pc2 := 57) dX12_waste_56 rfl rfl rfl ?_
          refine pb_imulN (pc2 := 58) dX12_waste_57 rfl ?_
          refine pb_iload_n (pc2 := 59) dX12_waste_58 rfl rfl rfl ?_
          refine pb_iaddN (pc2 := 60) dX12_waste_59 rfl ?_
          refine pb_iconst (x := nI 0) (pc2 := 61) dX12_waste_60 (by decide) rfl ?_
          refine pb_iastR (pc2 := 62) hR rfl dX12_waste_61 (by omega) rfl (fun h_ hR => ?_)
          refine pb_iincP (c0 := 1) (lv2 := [_, _, _, _]) (pc2 := 65) dX12_waste_62 rfl (by decide) rfl rfl ?_
          refine pb_goto (tgt := 24) dX12_waste_65 (by decide) ?_
          exact ih (i + 1) _ (by omega) (by omega) (sp_wasteI_s A p i ▸ hR)
    refine pb_iconst (x := nI 0) (pc2 := 23) dX12_waste_22 (by decide) rfl ?_
    refine pb_istore_n (lv2 := [_, _, _, _]) (pc2 := 24) dX12_waste_23 rfl (by decide) rfl rfl ?_
    exact loop 13 0 h (by omega) (by omega) (by rw [sp_wasteI_0]; exact hR)
  · refine pb_bipush (x := -2) (pc2 := 21) dX12_waste_19 (by decide) rfl ?_
    exact pb_ireturn dX12_waste_21 rfl (pb_fin (if_pos c1) hR)
set_option maxRecDepth 10000 in
theorem r_drops (w : pb_WF A) (hR : pb_RF A h h) (p t : Int32) : pb_T Z mX12_drops 2 0 0 [.ref 20, .int p, .int t] h (pb_PR (sp_drops A p t) h) := by
  have ht := w.tubes
  refine pb_T.of pnX12_drops (Nat.le_of_ble_eq_true rfl) (lv := [some (.ref 20), some (.int p), some (.int t)]) rfl ?_
  refine pb_iload_n (pc2 := 1) dX12_drops_0 rfl rfl rfl ?_
  refine pb_callS (pc2 := 4) (k2 := 0) (n2 := 0) mwX12_isPot swX12_isPot rfl mlX12_152 dX12_drops_1 (t_misPot p) (by omega) (by omega) (by omega) rfl rfl (Nat.le_of_ble_eq_true rfl) rfl (pb_kB ?_ ?_)
  rotate_left
  · intro q1
    refine pb_ifT_eq (tgt := 20) dX12_drops_4 (by decide) rfl ?_
    refine pb_iconst (x := -1) (pc2 := 21) dX12_drops_20 (by decide) rfl ?_
    refine pb_goto (tgt := 47) dX12_drops_21 (by decide) ?_
    exact pb_ireturn dX12_drops_47 rfl (pb_fin (if_neg q1) hR)
  intro q1
  refine pb_ifF_eq (tgt := 20) (pc2 := 7) dX12_drops_4 (by decide) rfl (by decide) ?_
  have e0 : sp_drops A p t = _ := if_pos q1
  rw [e0]
  obtain ⟨p, -, hp, rfl⟩ := nI_rng (by omega) q1 (by omega)
  rw [pb_natN (by omega)]
  refine pb_iload_n (pc2 := 8) dX12_drops_7 rfl rfl rfl ?_
  refine pb_iconst (x := -1) (pc2 := 9) dX12_drops_8 (by decide) rfl ?_
  refine pb_icmp_eq (tgt := 24) (pc2 := 12) dX12_drops_9 (by decide) rfl (fun q3 => ?_) (fun q3 => ?_)
  · subst q3
    refine pb_iload_n (pc2 := 25) dX12_drops_24 rfl rfl rfl ?_
    refine pb_ifF_ge (tgt := 36) (pc2 := 28) dX12_drops_25 (by decide) rfl (by decide) ?_
    refine pb_aload_n (pc2 := 29) dX12_drops_28 rfl rfl rfl ?_
    refine pb_iload_n (pc2 := 30) dX12_drops_29 rfl rfl rfl ?_
    refine pb_callV (pc2 := 33) (k2 := 0) (n2 := 0) mwX12_inPot pb_cl10.1 iwX12_inPot seX12_inPot rfl mlX12_155 dX12_drops_30 (by first | assumption | exact hR.a rfl | exact hR.o | exact hC.a rfl) (t_minPot hR (show p < 10 by omega)) (by omega) (by omega) (by omega) rfl rfl (Nat.le_of_ble_eq_true rfl) rfl (pb_kE ?_)
    refine pb_goto (tgt := 47) dX12_drops_33 (by decide) ?_
    exact pb_ireturn dX12_drops_47 rfl (pb_fin rfl hR)
  · refine pb_aload_n (pc2 := 13) dX12_drops_12 rfl rfl rfl ?_
    refine pb_iload_n (pc2 := 14) dX12_drops_13 rfl rfl rfl ?_
    refine pb_callV (pc2 := 17) (k2 := 0) (n2 := 0) mwX12_isTube pb_cl10.1 iwX12_isTube seX12_isTube rfl mlX12_99 dX12_drops_14 (by first | assumption | exact hR.a rfl | exact hR.o | exact hC.a rfl) (t_misTube hR t) (by omega) (by omega) (by omega) rfl rfl (Nat.le_of_ble_eq_true rfl) rfl (pb_kB ?_ ?_)
    rotate_left
    · intro q2
      refine pb_ifF_ne (tgt := 24) (pc2 := 20) dX12_drops_17 rfl rfl (by decide) ?_
      refine pb_iconst (x := -1) (pc2 := 21) dX12_drops_20 (by decide) rfl ?_
      refine pb_goto (tgt := 47) dX12_drops_21 (by decide) ?_
      exact pb_ireturn dX12_drops_47 rfl (pb_fin (by rw [if_neg q3, if_neg q2]) hR)
    intro q2
    refine pb_ifT_ne (tgt := 24) dX12_drops_17 (by decide) (by decide) ?_
    obtain ⟨t, ht1, rfl⟩ := pb_isT_of w q2
    rw [pb_natN (by omega)]
    refine pb_iload_n (pc2 := 25) dX12_drops_24 rfl rfl rfl ?_
    refine pb_ifT_ge (tgt := 36) dX12_drops_25 (by decide) (nI_pos' (by omega)) ?_
    refine pb_aload_n (pc2 := 37) dX12_drops_36 rfl rfl rfl ?_
    refine pb_getf (pc2 := 40) flX12_44_X12 rfl dX12_drops_37 (by first | assumption | exact hR.a rfl | exact hR.o | exact hC.a rfl) rfl rfl ?_
    refine pb_bipush (x := nI 12) (pc2 := 42) dX12_drops_40 (by decide) rfl ?_
    refine pb_iload_n (pc2 := 43) dX12_drops_42 rfl rfl rfl ?_
    refine pb_imulN (pc2 := 44) dX12_drops_43 rfl ?_
    refine pb_iload_n (pc2 := 45) dX12_drops_44 rfl rfl rfl ?_
    refine pb_iaddN (pc2 := 46) dX12_drops_45 rfl ?_
    refine pb_iald (pc2 := 47) (by first | assumption | exact hR.a rfl | exact hR.o | exact hC.a rfl) ⟨by decide, rfl⟩ dX12_drops_46 (by omega) (by omega) rfl ?_
    exact pb_ireturn dX12_drops_47 rfl (pb_fin (by rw [if_neg q3, if_pos q2]) hR)
set_option maxRecDepth 10000 in
theorem r_thick (w : pb_WF A) (hR : pb_RF A h h) (p b : Int32) : pb_T Z mX12_thick 2 0 0 [.ref 20, .int p, .int b] h (pb_PR (sp_thick A p b) h) := by
  refine pb_T.of pnX12_thick (Nat.le_of_ble_eq_true rfl) (lv := [some (.ref 20), some (.int p), some (.int b)]) rfl ?_
  refine pb_iload_n (pc2 := 1) dX12_thick_0 rfl rfl rfl ?_
  refine pb_callS (pc2 := 4) (k2 := 0) (n2 := 0) mwX12_isPot swX12_isPot rfl mlX12_152 dX12_thick_1 (t_misPot p) (by omega) (by omega) (by omega) rfl rfl (Nat.le_of_ble_eq_true rfl) rfl (pb_kB ?_ ?_)
  rotate_left
  · intro q1
    refine pb_ifT_eq (tgt := 14) dX12_thick_4 (by decide) rfl ?_
    refine pb_iconst (x := -1) (pc2 := 15) dX12_thick_14 (by decide) rfl ?_
    refine pb_goto (tgt := 46) dX12_thick_15 (by decide) ?_
    exact pb_ireturn dX12_thick_46 rfl (pb_fin (if_neg (fun z => q1 z.1)) hR)
  intro q1
  refine pb_ifF_eq (tgt := 14) (pc2 := 7) dX12_thick_4 (by decide) rfl (by decide) ?_
  refine pb_iload_n (pc2 := 8) dX12_thick_7 rfl rfl rfl ?_
  refine pb_callS (pc2 := 11) (k2 := 0) (n2 := 0) mwX12_isBand swX12_isBand rfl mlX12_103 dX12_thick_8 (t_misBand b) (by omega) (by omega) (by omega) rfl rfl (Nat.le_of_ble_eq_true rfl) rfl (pb_kB ?_ ?_)
  rotate_left
  · intro q2
    refine pb_ifF_ne (tgt := 18) (pc2 := 14) dX12_thick_11 rfl rfl (by decide) ?_
    refine pb_iconst (x := -1) (pc2 := 15) dX12_thick_14 (by decide) rfl ?_
    refine pb_goto (tgt := 46) dX12_thick_15 (by decide) ?_
    exact pb_ireturn dX12_thick_46 rfl (pb_fin (if_neg (fun z => q2 z.2)) hR)
  intro q2
  refine pb_ifT_ne (tgt := 18) dX12_thick_11 (by decide) (by decide) ?_
  have e0 : sp_thick A p b = _ := if_pos ⟨q1, q2⟩
  rw [e0]
  obtain ⟨p, -, hp, rfl⟩ := nI_rng (by omega) q1 (by omega)
  obtain ⟨b, -, hb, rfl⟩ := nI_rng (by omega) q2 (by omega)
  rw [pb_natN (by omega), pb_natN (by omega)]
  have t1 := w.tot (show p < 10 by omega)
  refine pb_aload_n (pc2 := 19) dX12_thick_18 rfl rfl rfl ?_
  refine pb_iload_n (pc2 := 20) dX12_thick_19 rfl rfl rfl ?_
  refine pb_callV (pc2 := 23) (k2 := 0) (n2 := 0) mwX12_inPot pb_cl10.1 iwX12_inPot seX12_inPot rfl mlX12_155 dX12_thick_20 (by first | assumption | exact hR.a rfl | exact hR.o | exact hC.a rfl) (t_minPot hR (show p < 10 by omega)) (by omega) (by omega) (by omega) rfl rfl (Nat.le_of_ble_eq_true rfl) rfl (pb_kE ?_)
  refine pb_ifN_ne (tgt := 31) (pc2 := 26) dX12_thick_23 (by decide) rfl (by omega) (fun c1 => ?_) (fun c1 => ?_)
  · obtain ⟨r1, r2, r3, r4⟩ := w.potr (show p < 10 by omega) (show b < 8 by omega) c1
    refine pb_aload_n (pc2 := 32) dX12_thick_31 rfl rfl rfl ?_
    refine pb_iload_n (pc2 := 33) dX12_thick_32 rfl rfl rfl ?_
    refine pb_iload_n (pc2 := 34) dX12_thick_33 rfl rfl rfl ?_
    refine pb_callV (pc2 := 37) (k2 := 0) (n2 := 0) mwX12_drinkOf pb_cl10.1 iwX12_drinkOf seX12_drinkOf rfl mlX12_158 dX12_thick_34 (by first | assumption | exact hR.a rfl | exact hR.o | exact hC.a rfl) (t_mdrinkOf w hR (show p < 10 by omega) (show b < 8 by omega)) (by omega) (by omega) (by omega) rfl rfl (Nat.le_of_ble_eq_true rfl) rfl (pb_kE ?_)
    refine pb_aload_n (pc2 := 38) dX12_thick_37 rfl rfl rfl ?_
    refine pb_iload_n (pc2 := 39) dX12_thick_38 rfl rfl rfl ?_
    refine pb_iload_n (pc2 := 40) dX12_thick_39 rfl rfl rfl ?_
    refine pb_callV (pc2 := 43) (k2 := 0) (n2 := 0) mwX12_scatterOf pb_cl10.1 iwX12_scatterOf seX12_scatterOf rfl mlX12_162 dX12_thick_40 (by first | assumption | exact hR.a rfl | exact hR.o | exact hC.a rfl) (t_mscatterOf w hR (show p < 10 by omega) (show b < 8 by omega)) (by omega) (by omega) (by omega) rfl rfl (Nat.le_of_ble_eq_true rfl) rfl (pb_kE ?_)
    refine pb_callS (pc2 := 46) (k2 := 0) (n2 := 0) mwX12_thickBy swX12_thickBy rfl mlX12_165 dX12_thick_43 (t_thickBy r1 r2 (by omega)) (by omega) (by omega) (by omega) rfl rfl (Nat.le_of_ble_eq_true rfl) rfl (pb_kE ?_)
    exact pb_ireturn dX12_thick_46 rfl (pb_fin (if_neg c1) hR)
  · refine pb_bipush (x := -2) (pc2 := 28) dX12_thick_26 (by decide) rfl ?_
    refine pb_goto (tgt := 46) dX12_thick_28 (by decide) ?_
    exact pb_ireturn dX12_thick_46 rfl (pb_fin (if_pos c1) hR)
set_option maxRecDepth 10000 in
theorem r_seen (w : pb_WF A) (hR : pb_RF A h h) (p l s : Int32) : pb_T Z mX12_seen 2 0 0 [.ref 20, .int p, .int l, .int s] h (pb_PR (sp_seen A p l s) h) := by
  refine pb_T.of pnX12_seen (Nat.le_of_ble_eq_true rfl) (lv := [some (.ref 20), some (.int p), some (.int l), some (.int s), none]) rfl ?_
  refine pb_iload_n (pc2 := 1) dX12_seen_0 rfl rfl rfl ?_
  refine pb_callS (pc2 := 4) (k2 := 0) (n2 := 0) mwX12_isPot swX12_isPot rfl mlX12_152 dX12_seen_1 (t_misPot p) (by omega) (by omega) (by omega) rfl rfl (Nat.le_of_ble_eq_true rfl) rfl (pb_kB ?_ ?_)
  rotate_left
  · intro q1
    refine pb_ifT_eq (tgt := 21) dX12_seen_4 (by decide) rfl ?_
    refine pb_iconst (x := -1) (pc2 := 22) dX12_seen_21 (by decide) rfl ?_
    exact pb_ireturn dX12_seen_22 rfl (pb_fin (if_neg (fun z => q1 z.1)) hR)
  intro q1
  refine pb_ifF_eq (tgt := 21) (pc2 := 7) dX12_seen_4 (by decide) rfl (by decide) ?_
  refine pb_iload_n (pc2 := 8) dX12_seen_7 rfl rfl rfl ?_
  refine pb_callS (pc2 := 11) (k2 := 0) (n2 := 0) mwX12_isLamp swX12_isLamp rfl mlX12_114 dX12_seen_8 (t_misLamp l) (by omega) (by omega) (by omega) rfl rfl (Nat.le_of_ble_eq_true rfl) rfl (pb_kB ?_ ?_)
  rotate_left
  · intro q2
    refine pb_ifT_eq (tgt := 21) dX12_seen_11 (by decide) rfl ?_
    refine pb_iconst (x := -1) (pc2 := 22) dX12_seen_21 (by decide) rfl ?_
    exact pb_ireturn dX12_seen_22 rfl (pb_fin (if_neg (fun z => q2 z.2.1)) hR)
  intro q2
  refine pb_ifF_eq (tgt := 21) (pc2 := 14) dX12_seen_11 (by decide) rfl (by decide) ?_
  refine pb_iload_n (pc2 := 15) dX12_seen_14 rfl rfl rfl ?_
  refine pb_callS (pc2 := 18) (k2 := 0) (n2 := 0) mwX12_isSight swX12_isSight rfl mlX12_117 dX12_seen_15 (t_misSight s) (by omega) (by omega) (by omega) rfl rfl (Nat.le_of_ble_eq_true rfl) rfl (pb_kB ?_ ?_)
  rotate_left
  · intro q3
    refine pb_ifF_ne (tgt := 23) (pc2 := 21) dX12_seen_18 rfl rfl (by decide) ?_
    refine pb_iconst (x := -1) (pc2 := 22) dX12_seen_21 (by decide) rfl ?_
    exact pb_ireturn dX12_seen_22 rfl (pb_fin (if_neg (fun z => q3 z.2.2)) hR)
  intro q3
  refine pb_ifT_ne (tgt := 23) dX12_seen_18 (by decide) (by decide) ?_
  have e0 : sp_seen A p l s = _ := if_pos ⟨q1, q2, q3⟩
  rw [e0]
  obtain ⟨p, -, hp, rfl⟩ := nI_rng (by omega) q1 (by omega)
  obtain ⟨l, -, hl, rfl⟩ := nI_rng (by omega) q2 (by omega)
  obtain ⟨s, -, hs, rfl⟩ := nI_rng (by omega) q3 (by omega)
  rw [pb_natN (by omega), pb_natN (by omega), pb_natN (by omega)]
  have t1 := w.tot (show p < 10 by omega)
  refine pb_aload_n (pc2 := 24) dX12_seen_23 rfl rfl rfl ?_
  refine pb_iload_n (pc2 := 25) dX12_seen_24 rfl rfl rfl ?_
  refine pb_callV (pc2 := 28) (k2 := 0) (n2 := 0) mwX12_inPot pb_cl10.1 iwX12_inPot seX12_inPot rfl mlX12_155 dX12_seen_25 (by first | assumption | exact hR.a rfl | exact hR.o | exact hC.a rfl) (t_minPot hR (show p < 10 by omega)) (by omega) (by omega) (by omega) rfl rfl (Nat.le_of_ble_eq_true rfl) rfl (pb_kE ?_)
  refine pb_ifN_ne (tgt := 34) (pc2 := 31) dX12_seen_28 (by decide) rfl (by omega) (fun c1 => ?_) (fun c1 => ?_)
  · have loop : ∀ (m i : Nat) (F : Nat → Nat) (h' : pb_H), 8 - i < m → i ≤ 8 → pb_RF A h h' → h' 32 = some (.inl (0, 8, fun j => nI (F j))) → (∀ b, b < i → F b = pb_tl A (pb_pot A p) b) → pb_S Z mX12_seen 2 0 0 (pb_PR (if pb_tot A p = 0 then (-2, A) else (nI (pb_see A l s (pb_tl A (pb_pot A p))), A)) h) 37 [some (.ref 20), some (.int (nI p)), some (.int (nI l)), some (.int (nI s)), some (.int (nI i))] [] h' := by
      intro m
      induction m with
      | zero => intro i F h' h1; omega
      | succ m ih =>
        intro i F h' h1 h2 hR h32 hF
        refine pb_iload (pc2 := 39) dX12_seen_37 rfl rfl ?_
        refine pb_bipush (x := nI 8) (pc2 := 41) dX12_seen_39 (by decide) rfl ?_
        refine pb_icmpN_ge (tgt := 74) (pc2 := 44) dX12_seen_41 (by decide) rfl (by omega) (by omega) (fun q => ?_) (fun q => ?_)
        · have e : i = 8 := by omega
          subst e
          refine pb_aload_n (pc2 := 75) dX12_seen_74 rfl rfl rfl ?_
          refine pb_iload_n (pc2 := 76) dX12_seen_75 rfl rfl rfl ?_
          refine pb_iload_n (pc2 := 77) dX12_seen_76 rfl rfl rfl ?_
          refine pb_callV (pc2 := 80) (k2 := 0) (n2 := 0) mwX12_seenBy pb_cl10.1 iwX12_seenBy seX12_seenBy rfl mlX12_145 dX12_seen_77 (by first | assumption | exact hR.a rfl | exact hR.o | exact hC.a rfl) (t_mseenBy w hR (show l < 4 by omega) (show s < 3 by omega) (fun b hb => by rw [hF b hb]; exact pb_thick_le _ _) h32) (by omega) (by omega) (by omega) rfl rfl (Nat.le_of_ble_eq_true rfl) rfl (pb_kE ?_)
          refine pb_top (v2 := .int (nI (pb_see A l s (pb_tl A (pb_pot A p))))) (by rw [pb_see_congr hF]) ?_
          exact pb_ireturn dX12_seen_80 rfl (pb_fin (if_neg c1) hR)
        · obtain ⟨r1, r2, r3, r4⟩ := w.potr (show p < 10 by omega) q c1
          refine pb_aload_n (pc2 := 45) dX12_seen_44 rfl rfl rfl ?_
          refine pb_getf (pc2 := 48) flX12_41_X12 rfl dX12_seen_45 (by first | assumption | exact hR.a rfl | exact hR.o | exact hC.a rfl) rfl rfl ?_
          refine pb_iload (pc2 := 50) dX12_seen_48 rfl rfl ?_
          refine pb_aload_n (pc2 := 51) dX12_seen_50 rfl rfl rfl ?_
          refine pb_iload_n (pc2 := 52) dX12_seen_51 rfl rfl rfl ?_
          refine pb_iload (pc2 := 54) dX12_seen_52 rfl rfl ?_
          refine pb_callV (pc2 := 57) (k2 := 0) (n2 := 0) mwX12_drinkOf pb_cl10.1 iwX12_drinkOf seX12_drinkOf rfl mlX12_158 dX12_seen_54 (by first | assumption | exact hR.a rfl | exact hR.o | exact hC.a rfl) (t_mdrinkOf w hR (show p < 10 by omega) q) (by omega) (by omega) (by omega) rfl rfl (Nat.le_of_ble_eq_true rfl) rfl (pb_kE ?_)
          refine pb_aload_n (pc2 := 58) dX12_seen_57 rfl rfl rfl ?_
          refine pb_iload_n (pc2 := 59) dX12_seen_58 rfl rfl rfl ?_
          refine pb_iload (pc2 := 61) dX12_seen_59 rfl rfl ?_
          refine pb_callV (pc2 := 64) (k2 := 0) (n2 := 0) mwX12_scatterOf pb_cl10.1 iwX12_scatterOf seX12_scatterOf rfl mlX12_162 dX12_seen_61 (by first | assumption | exact hR.a rfl | exact hR.o | exact hC.a rfl) (t_mscatterOf w hR (show p < 10 by omega) q) (by omega) (by omega) (by omega) rfl rfl (Nat.le_of_ble_eq_true rfl) rfl (pb_kE ?_)
          refine pb_callS (pc2 := 67) (k2 := 0) (n2 := 0) mwX12_thickBy swX12_thickBy rfl mlX12_165 dX12_seen_64 (t_thickBy r1 r2 (by omega)) (by omega) (by omega) (by omega) rfl rfl (Nat.le_of_ble_eq_true rfl) rfl (pb_kE ?_)
          refine pb_iastC (pc2 := 68) hR rfl h32 dX12_seen_67 (by omega) rfl (fun h_ hR h32 _ => ?_)
          refine pb_iincP (c0 := 1) (lv2 := [_, _, _, _, _]) (pc2 := 71) dX12_seen_68 rfl (by decide) rfl rfl ?_
          refine pb_goto (tgt := 37) dX12_seen_71 (by decide) ?_
          refine ih (i + 1) _ _ (by omega) (by omega) hR h32 (fun b hb => ?_)
          unfold pb_un
          by_cases e : b = i
          · rw [if_pos e, e]; rfl
          · rw [if_neg e]; exact hF b (by omega)
    obtain ⟨F, h32⟩ := hR.2.2.1 32 8 rfl
    refine pb_iconst (x := nI 0) (pc2 := 35) dX12_seen_34 (by decide) rfl ?_
    refine pb_istore (lv2 := [_, _, _, _, _]) (pc2 := 37) dX12_seen_35 (by decide) rfl rfl ?_
    exact loop 9 0 F h (by omega) (by omega) hR h32 (fun b hb => by omega)
  · refine pb_bipush (x := -2) (pc2 := 33) dX12_seen_31 (by decide) rfl ?_
    exact pb_ireturn dX12_seen_33 rfl (pb_fin (if_pos c1) hR)
set_option maxRecDepth 10000 in
theorem r_over (w : pb_WF A) (hR : pb_RF A h h) (p b n g : Int32) : pb_T Z mX12_over 2 0 0 [.ref 20, .int p, .int b, .int n, .int g] h (pb_PR (sp_over A p b n g) h) := by
  refine pb_T.of pnX12_over (Nat.le_of_ble_eq_true rfl) (lv := [some (.ref 20), some (.int p), some (.int b), some (.int n), some (.int g)]) rfl ?_
  refine pb_iload_n (pc2 := 1) dX12_over_0 rfl rfl rfl ?_
  refine pb_callS (pc2 := 4) (k2 := 0) (n2 := 0) mwX12_isPot swX12_isPot rfl mlX12_152 dX12_over_1 (t_misPot p) (by omega) (by omega) (by omega) rfl rfl (Nat.le_of_ble_eq_true rfl) rfl (pb_kB ?_ ?_)
  rotate_left
  · intro q1
    refine pb_ifT_eq (tgt := 37) dX12_over_4 (by decide) rfl ?_
    refine pb_iconst (x := -1) (pc2 := 38) dX12_over_37 (by decide) rfl ?_
    exact pb_ireturn dX12_over_38 rfl (pb_fin (if_neg (fun z => q1 z.1)) hR)
  intro q1
  refine pb_ifF_eq (tgt := 37) (pc2 := 7) dX12_over_4 (by decide) rfl (by decide) ?_
  refine pb_iload_n (pc2 := 8) dX12_over_7 rfl rfl rfl ?_
  refine pb_callS (pc2 := 11) (k2 := 0) (n2 := 0) mwX12_isBand swX12_isBand rfl mlX12_103 dX12_over_8 (t_misBand b) (by omega) (by omega) (by omega) rfl rfl (Nat.le_of_ble_eq_true rfl) rfl (pb_kB ?_ ?_)
  rotate_left
  · intro q2
    refine pb_ifT_eq (tgt := 37) dX12_over_11 (by decide) rfl ?_
    refine pb_iconst (x := -1) (pc2 := 38) dX12_over_37 (by decide) rfl ?_
    exact pb_ireturn dX12_over_38 rfl (pb_fin (if_neg (fun z => q2 z.2.1)) hR)
  intro q2
  refine pb_ifF_eq (tgt := 37) (pc2 := 14) dX12_over_11 (by decide) rfl (by decide) ?_
  refine pb_iload_n (pc2 := 15) dX12_over_14 rfl rfl rfl ?_
  refine pb_iconst (x := nI 1) (pc2 := 16) dX12_over_15 (by decide) rfl ?_
  refine pb_sipush (x := nI 200) (pc2 := 19) dX12_over_16 (by decide) rfl ?_
  refine pb_callS (pc2 := 22) (k2 := 0) (n2 := 0) mwX12_in swX12_in rfl mlX12_95 dX12_over_19 (t_in n (nI 1) (nI 200)) (by omega) (by omega) (by omega) rfl rfl (Nat.le_of_ble_eq_true rfl) rfl (pb_kB ?_ ?_)
  rotate_left
  · intro q3
    refine pb_ifT_eq (tgt := 37) dX12_over_22 (by decide) rfl ?_
    refine pb_iconst (x := -1) (pc2 := 38) dX12_over_37 (by decide) rfl ?_
    exact pb_ireturn dX12_over_38 rfl (pb_fin (if_neg (fun z => q3 z.2.2.1)) hR)
  intro q3
  refine pb_ifF_eq (tgt := 37) (pc2 := 25) dX12_over_22 (by decide) rfl (by decide) ?_
  refine pb_iload (pc2 := 27) dX12_over_25 rfl rfl ?_
  refine pb_iconst (x := nI 0) (pc2 := 28) dX12_over_27 (by decide) rfl ?_
  refine pb_sipush (x := nI 10000) (pc2 := 31) dX12_over_28 (by decide) rfl ?_
  refine pb_callS (pc2 := 34) (k2 := 0) (n2 := 0) mwX12_in swX12_in rfl mlX12_95 dX12_over_31 (t_in g (nI 0) (nI 10000)) (by omega) (by omega) (by omega) rfl rfl (Nat.le_of_ble_eq_true rfl) rfl (pb_kB ?_ ?_)
  rotate_left
  · intro q4
    refine pb_ifF_ne (tgt := 39) (pc2 := 37) dX12_over_34 rfl rfl (by decide) ?_
    refine pb_iconst (x := -1) (pc2 := 38) dX12_over_37 (by decide) rfl ?_
    exact pb_ireturn dX12_over_38 rfl (pb_fin (if_neg (fun z => q4 z.2.2.2)) hR)
  intro q4
  refine pb_ifT_ne (tgt := 39) dX12_over_34 (by decide) (by decide) ?_
  have e0 : sp_over A p b n g = _ := if_pos ⟨q1, q2, q3, q4⟩
  rw [e0]
  obtain ⟨p, -, hp, rfl⟩ := nI_rng (by omega) q1 (by omega)
  obtain ⟨b, -, hb, rfl⟩ := nI_rng (by omega) q2 (by omega)
  obtain ⟨n, -, hn, rfl⟩ := nI_rng (by omega) q3 (by omega)
  obtain ⟨g, -, hg, rfl⟩ := nI_rng (by omega) q4 (by omega)
  rw [pb_natN (by omega), pb_natN (by omega), pb_natN (by omega), pb_natN (by omega)]
  have t1 := w.tot (show p < 10 by omega)
  refine pb_aload_n (pc2 := 40) dX12_over_39 rfl rfl rfl ?_
  refine pb_iload_n (pc2 := 41) dX12_over_40 rfl rfl rfl ?_
  refine pb_callV (pc2 := 44) (k2 := 0) (n2 := 0) mwX12_inPot pb_cl10.1 iwX12_inPot seX12_inPot rfl mlX12_155 dX12_over_41 (by first | assumption | exact hR.a rfl | exact hR.o | exact hC.a rfl) (t_minPot hR (show p < 10 by omega)) (by omega) (by omega) (by omega) rfl rfl (Nat.le_of_ble_eq_true rfl) rfl (pb_kE ?_)
  refine pb_ifN_ne (tgt := 52) (pc2 := 47) dX12_over_44 (by decide) rfl (by omega) (fun c1 => ?_) (fun c1 => ?_)
  · obtain ⟨r1, r2, r3, r4⟩ := w.potr (show p < 10 by omega) (show b < 8 by omega) c1
    refine pb_aload_n (pc2 := 53) dX12_over_52 rfl rfl rfl ?_
    refine pb_iload_n (pc2 := 54) dX12_over_53 rfl rfl rfl ?_
    refine pb_iload_n (pc2 := 55) dX12_over_54 rfl rfl rfl ?_
    refine pb_callV (pc2 := 58) (k2 := 0) (n2 := 0) mwX12_drinkOf pb_cl10.1 iwX12_drinkOf seX12_drinkOf rfl mlX12_158 dX12_over_55 (by first | assumption | exact hR.a rfl | exact hR.o | exact hC.a rfl) (t_mdrinkOf w hR (show p < 10 by omega) (show b < 8 by omega)) (by omega) (by omega) (by omega) rfl rfl (Nat.le_of_ble_eq_true rfl) rfl (pb_kE ?_)
    refine pb_aload_n (pc2 := 59) dX12_over_58 rfl rfl rfl ?_
    refine pb_iload_n (pc2 := 60) dX12_over_59 rfl rfl rfl ?_
    refine pb_iload_n (pc2 := 61) dX12_over_60 rfl rfl rfl ?_
    refine pb_callV (pc2 := 64) (k2 := 0) (n2 := 0) mwX12_scatterOf pb_cl10.1 iwX12_scatterOf seX12_scatterOf rfl mlX12_162 dX12_over_61 (by first | assumption | exact hR.a rfl | exact hR.o | exact hC.a rfl) (t_mscatterOf w hR (show p < 10 by omega) (show b < 8 by omega)) (by omega) (by omega) (by omega) rfl rfl (Nat.le_of_ble_eq_true rfl) rfl (pb_kE ?_)
    refine pb_iload_n (pc2 := 65) dX12_over_64 rfl rfl rfl ?_
    refine pb_iload (pc2 := 67) dX12_over_65 rfl rfl ?_
    refine pb_callS (pc2 := 70) (k2 := 0) (n2 := 0) mwX12_layerBy swX12_layerBy rfl mlX12_169 dX12_over_67 (t_layerBy (by omega) (by omega) (by omega) hg) (by omega) (by omega) (by omega) rfl rfl (Nat.le_of_ble_eq_true rfl) rfl (pb_kE ?_)
    exact pb_ireturn dX12_over_70 rfl (pb_fin (if_neg c1) hR)
  · refine pb_bipush (x := -2) (pc2 := 49) dX12_over_47 (by decide) rfl ?_
    refine pb_goto (tgt := 70) dX12_over_49 (by decide) ?_
    exact pb_ireturn dX12_over_70 rfl (pb_fin (if_pos c1) hR)
set_option maxRecDepth 10000 in
theorem r_hiding (w : pb_WF A) (hR : pb_RF A h h) (p d : Int32) : pb_T Z mX12_hiding 2 0 0 [.ref 20, .int p, .int d] h (pb_PR (sp_hiding A p d) h) := by
  refine pb_T.of pnX12_hiding (Nat.le_of_ble_eq_true rfl) (lv := [some (.ref 20), some (.int p), some (.int d), none, none, none]) rfl ?_
  refine pb_iload_n (pc2 := 1) dX12_hiding_0 rfl rfl rfl ?_
  refine pb_callS (pc2 := 4) (k2 := 0) (n2 := 0) mwX12_isPot swX12_isPot rfl mlX12_152 dX12_hiding_1 (t_misPot p) (by omega) (by omega) (by omega) rfl rfl (Nat.le_of_ble_eq_true rfl) rfl (pb_kB ?_ ?_)
  rotate_left
  · intro q1
    refine pb_ifT_eq (tgt := 18) dX12_hiding_4 (by decide) rfl ?_
    refine pb_iconst (x := -1) (pc2 := 19) dX12_hiding_18 (by decide) rfl ?_
    exact pb_ireturn dX12_hiding_19 rfl (pb_fin (if_neg (fun z => q1 z.1)) hR)
  intro q1
  refine pb_ifF_eq (tgt := 18) (pc2 := 7) dX12_hiding_4 (by decide) rfl (by decide) ?_
  refine pb_iload_n (pc2 := 8) dX12_hiding_7 rfl rfl rfl ?_
  refine pb_iconst (x := nI 0) (pc2 := 9) dX12_hiding_8 (by decide) rfl ?_
  refine pb_sipush (x := nI 10000) (pc2 := 12) dX12_hiding_9 (by decide) rfl ?_
  refine pb_callS (pc2 := 15) (k2 := 0) (n2 := 0) mwX12_in swX12_in rfl mlX12_95 dX12_hiding_12 (t_in d (nI 0) (nI 10000)) (by omega) (by omega) (by omega) rfl rfl (Nat.le_of_ble_eq_true rfl) rfl (pb_kB ?_ ?_)
  rotate_left
  · intro q2
    refine pb_ifF_ne (tgt := 20) (pc2 := 18) dX12_hiding_15 rfl rfl (by decide) ?_
    refine pb_iconst (x := -1) (pc2 := 19) dX12_hiding_18 (by decide) rfl ?_
    exact pb_ireturn dX12_hiding_19 rfl (pb_fin (if_neg (fun z => q2 z.2)) hR)
  intro q2
  refine pb_ifT_ne (tgt := 20) dX12_hiding_15 (by decide) (by decide) ?_
  have e0 : sp_hiding A p d = _ := if_pos ⟨q1, q2⟩
  rw [e0]
  obtain ⟨p, -, hp, rfl⟩ := nI_rng (by omega) q1 (by omega)
  obtain ⟨d, -, hd, rfl⟩ := nI_rng (by omega) q2 (by omega)
  rw [pb_natN (by omega), pb_natN (by omega)]
  have t1 := w.tot (show p < 10 by omega)
  refine pb_aload_n (pc2 := 21) dX12_hiding_20 rfl rfl rfl ?_
  refine pb_iload_n (pc2 := 22) dX12_hiding_21 rfl rfl rfl ?_
  refine pb_callV (pc2 := 25) (k2 := 0) (n2 := 0) mwX12_inPot pb_cl10.1 iwX12_inPot seX12_inPot rfl mlX12_155 dX12_hiding_22 (by first | assumption | exact hR.a rfl | exact hR.o | exact hC.a rfl) (t_minPot hR (show p < 10 by omega)) (by omega) (by omega) (by omega) rfl rfl (Nat.le_of_ble_eq_true rfl) rfl (pb_kE ?_)
  refine pb_ifN_ne (tgt := 31) (pc2 := 28) dX12_hiding_25 (by decide) rfl (by omega) (fun c1 => ?_) (fun c1 => ?_)
  · rw [if_neg c1]
    have hpr := fun b (hb : b < 8) => w.potr (show p < 10 by omega) hb c1
    generalize hP : pb_pot A p = P at hpr ⊢
    have hfo := pb_find_ok (pb_hq A P d) 200 1
    generalize pb_find (pb_hq A P d) 200 1 = r at hfo ⊢
    have gle : ∀ b n g, g ≤ 10000 → pb_gp A P b n g ≤ 10000 := fun b n g hg => pb_lay_le (pb_tab _ _) n g hg
    -- one thickness more
    have inner : ∀ (n : Nat), 1 ≤ n → n ≤ 200 → (pb_hq A P d n → ∀ h', pb_RF A h h' → pb_S Z mX12_hiding 2 0 0 (pb_PR (if r = 0 then -2 else nI r, A) h) 189 [some (.ref 20), some (.int (nI p)), some (.int (nI d)), some (.int (nI n)), some (.int (nI 1)), some (.int (nI 8))] [] h') → (¬ pb_hq A P d n → ∀ (h' : pb_H) (D B : Nat → Nat), pb_RF A h h' → h' 34 = some (.inl (0, 8, fun j => nI (D j))) → h' 35 = some (.inl (0, 8, fun j => nI (B j))) → (∀ b, b < 8 → D b = pb_gp A P b n 0 ∧ B b = pb_gp A P b n 10000) → pb_S Z mX12_hiding 2 0 0 (pb_PR (if r = 0 then -2 else nI r, A) h) 191 [some (.ref 20), some (.int (nI p)), some (.int (nI d)), some (.int (nI n)), some (.int (nI 0)), some (.int (nI 8))] [] h') →
        ∀ (m i fl : Nat) (h' : pb_H) (D B : Nat → Nat), 8 - i < m → i ≤ 8 → fl ≤ 1 → (fl = 1 ↔ ∀ b, b < i → pb_abs (pb_gp A P b n 0) (pb_gp A P b n 10000) ≤ d) → pb_RF A h h' → h' 34 = some (.inl (0, 8, fun j => nI (D j))) → h' 35 = some (.inl (0, 8, fun j => nI (B j))) → (∀ b, b < i → D b = pb_gp A P b n 0 ∧ B b = pb_gp A P b n 10000) → (∀ b, i ≤ b → b < 8 → D b = pb_gp A P b (n - 1) 0 ∧ B b = pb_gp A P b (n - 1) 10000) → pb_S Z mX12_hiding 2 0 0 (pb_PR (if r = 0 then -2 else nI r, A) h) 76 [some (.ref 20), some (.int (nI p)), some (.int (nI d)), some (.int (nI n)), some (.int (nI fl)), some (.int (nI i))] [] h' := by
      intro n hn1 hn2 kyes kno m
      induction m with
      | zero => intro i fl h' D B h1; omega
      | succ m ih =>
        intro i fl h' D B h1 h2 h3 h4 hR h34 h35 hlo hhi
        refine pb_iload (pc2 := 78) dX12_hiding_76 rfl rfl ?_
        refine pb_bipush (x := nI 8) (pc2 := 80) dX12_hiding_78 (by decide) rfl ?_
        refine pb_icmpN_ge (tgt := 184) (pc2 := 83) dX12_hiding_80 (by decide) rfl (by omega) (by omega) (fun q => ?_) (fun q => ?_)
        · have e : i = 8 := by omega
          subst e
          refine pb_iload (pc2 := 186) dX12_hiding_184 rfl rfl ?_
          refine pb_ifN_eq (tgt := 191) (pc2 := 189) dX12_hiding_186 (by decide) rfl (by omega) (fun c => ?_) (fun c => ?_)
          · subst c
            exact kno (fun z => by have := h4.mpr z; omega) h' D B hR h34 h35 hlo
          · have e1 : fl = 1 := by omega
            subst e1
            exact kyes (h4.mp rfl) h' hR
        · obtain ⟨r1, r2, r3, r4⟩ := hpr i q
          obtain ⟨d1, b1⟩ := hhi i (Nat.le_refl _) q
          have gd := gle i (n - 1) 0 (by omega)
          have gb := gle i (n - 1) 10000 (by omega)
          have sd : pb_thin (pb_ta (pb_dk A P i 0) (pb_sc A P i)) (pb_tb (pb_dk A P i 0) (pb_sc A P i)) (D i) = pb_gp A P i n 0 := by
            rw [d1]
            unfold pb_gp
            rw [← pb_lay_succ, show n - 1 + 1 = n by omega]
          have sb : pb_thin (pb_ta (pb_dk A P i 0) (pb_sc A P i)) (pb_tb (pb_dk A P i 0) (pb_sc A P i)) (B i) = pb_gp A P i n 10000 := by
            rw [b1]
            unfold pb_gp
            rw [← pb_lay_succ, show n - 1 + 1 = n by omega]
          have gd2 := gle i n 0 (by omega)
          have gb2 := gle i n 10000 (by omega)
          subst hP
          refine pb_aload_n (pc2 := 84) dX12_hiding_83 rfl rfl rfl ?_
          refine pb_getf (pc2 := 87) flX12_47_X12 rfl dX12_hiding_84 (by first | assumption | exact hR.a rfl | exact hR.o | exact hC.a rfl) rfl rfl ?_
          refine pb_iload (pc2 := 89) dX12_hiding_87 rfl rfl ?_
          refine pb_aload_n (pc2 := 90) dX12_hiding_89 rfl rfl rfl ?_
          refine pb_iload_n (pc2 := 91) dX12_hiding_90 rfl rfl rfl ?_
          refine pb_iload (pc2 := 93) dX12_hiding_91 rfl rfl ?_
          refine pb_callV (pc2 := 96) (k2 := 0) (n2 := 0) mwX12_drinkOf pb_cl10.1 iwX12_drinkOf seX12_drinkOf rfl mlX12_158 dX12_hiding_93 (by first | assumption | exact hR.a rfl | exact hR.o | exact hC.a rfl) (t_mdrinkOf w hR (show p < 10 by omega) q) (by omega) (by omega) (by omega) rfl rfl (Nat.le_of_ble_eq_true rfl) rfl (pb_kE ?_)
          refine pb_aload_n (pc2 := 97) dX12_hiding_96 rfl rfl rfl ?_
          refine pb_iload_n (pc2 := 98) dX12_hiding_97 rfl rfl rfl ?_
          refine pb_iload (pc2 := 100) dX12_hiding_98 rfl rfl ?_
          refine pb_callV (pc2 := 103) (k2 := 0) (n2 := 0) mwX12_scatterOf pb_cl10.1 iwX12_scatterOf seX12_scatterOf rfl mlX12_162 dX12_hiding_100 (by first | assumption | exact hR.a rfl | exact hR.o | exact hC.a rfl) (t_mscatterOf w hR (show p < 10 by omega) q) (by omega) (by omega) (by omega) rfl rfl (Nat.le_of_ble_eq_true rfl) rfl (pb_kE ?_)
          refine pb_aload_n (pc2 := 104) dX12_hiding_103 rfl rfl rfl ?_
          refine pb_getf (pc2 := 107) flX12_47_X12 rfl dX12_hiding_104 (by first | assumption | exact hR.a rfl | exact hR.o | exact hC.a rfl) rfl rfl ?_
          refine pb_iload (pc2 := 109) dX12_hiding_107 rfl rfl ?_
          refine pb_iald (pc2 := 110) (by first | assumption | exact hR.a rfl | exact hR.o | exact hC.a rfl) ⟨by decide, rfl⟩ dX12_hiding_109 (by omega) (by omega) rfl ?_
          refine pb_callS (pc2 := 113) (k2 := 0) (n2 := 0) mwX12_thinBy swX12_thinBy rfl mlX12_141 dX12_hiding_110 (t_thinBy (by omega) (by omega) (show D i ≤ 10000 by omega)) (by omega) (by omega) (by omega) rfl rfl (Nat.le_of_ble_eq_true rfl) rfl (pb_kE ?_)
          refine pb_top (v2 := .int (nI (pb_gp A (pb_pot A p) i n 0))) (by rw [sd]) ?_
          refine pb_iastC (pc2 := 114) hR rfl h34 dX12_hiding_113 (by omega) rfl (fun h_ hR h34 ho => ?_)
          have h35 := (ho 35 (by omega)).trans h35
          refine pb_aload_n (pc2 := 115) dX12_hiding_114 rfl rfl rfl ?_
          refine pb_getf (pc2 := 118) flX12_50_X12 rfl dX12_hiding_115 (by first | assumption | exact hR.a rfl | exact hR.o | exact hC.a rfl) rfl rfl ?_
          refine pb_iload (pc2 := 120) dX12_hiding_118 rfl rfl ?_
          refine pb_aload_n (pc2 := 121) dX12_hiding_120 rfl rfl rfl ?_
          refine pb_iload_n (pc2 := 122) dX12_hiding_121 rfl rfl rfl ?_
          refine pb_iload (pc2 := 124) dX12_hiding_122 rfl rfl ?_
          refine pb_callV (pc2 := 127) (k2 := 0) (n2 := 0) mwX12_drinkOf pb_cl10.1 iwX12_drinkOf seX12_drinkOf rfl mlX12_158 dX12_hiding_124 (by first | assumption | exact hR.a rfl | exact hR.o | exact hC.a rfl) (t_mdrinkOf w hR (show p < 10 by omega) q) (by omega) (by omega) (by omega) rfl rfl (Nat.le_of_ble_eq_true rfl) rfl (pb_kE ?_)
          refine pb_aload_n (pc2 := 128) dX12_hiding_127 rfl rfl rfl ?_
          refine pb_iload_n (pc2 := 129) dX12_hiding_128 rfl rfl rfl ?_
          refine pb_iload (pc2 := 131) dX12_hiding_129 rfl rfl ?_
          refine pb_callV (pc2 := 134) (k2 := 0) (n2 := 0) mwX12_scatterOf pb_cl10.1 iwX12_scatterOf seX12_scatterOf rfl mlX12_162 dX12_hiding_131 (by first | assumption | exact hR.a rfl | exact hR.o | exact hC.a rfl) (t_mscatterOf w hR (show p < 10 by omega) q) (by omega) (by omega) (by omega) rfl rfl (Nat.le_of_ble_eq_true rfl) rfl (pb_kE ?_)
          refine pb_aload_n (pc2 := 135) dX12_hiding_134 rfl rfl rfl ?_
          refine pb_getf (pc2 := 138) flX12_50_X12 rfl dX12_hiding_135 (by first | assumption | exact hR.a rfl | exact hR.o | exact hC.a rfl) rfl rfl ?_
          refine pb_iload (pc2 := 140) dX12_hiding_138 rfl rfl ?_
          refine pb_iald (pc2 := 141) (by first | assumption | exact hR.a rfl | exact hR.o | exact hC.a rfl) ⟨by decide, rfl⟩ dX12_hiding_140 (by omega) (by omega) rfl ?_
          refine pb_callS (pc2 := 144) (k2 := 0) (n2 := 0) mwX12_thinBy swX12_thinBy rfl mlX12_141 dX12_hiding_141 (t_thinBy (by omega) (by omega) (show B i ≤ 10000 by omega)) (by omega) (by omega) (by omega) rfl rfl (Nat.le_of_ble_eq_true rfl) rfl (pb_kE ?_)
          refine pb_top (v2 := .int (nI (pb_gp A (pb_pot A p) i n 10000))) (by rw [sb]) ?_
          refine pb_iastC (pc2 := 145) hR rfl h35 dX12_hiding_144 (by omega) rfl (fun h_ hR h35 ho => ?_)
          have h34 := (ho 34 (by omega)).trans h34
          have hlo2 : ∀ b, b < i + 1 → pb_un D i (pb_gp A (pb_pot A p) i n 0) b = pb_gp A (pb_pot A p) b n 0 ∧ pb_un B i (pb_gp A (pb_pot A p) i n 10000) b = pb_gp A (pb_pot A p) b n 10000 := fun b hb => by
            unfold pb_un
            by_cases e : b = i
            · rw [if_pos e, if_pos e, e]; exact ⟨rfl, rfl⟩
            · rw [if_neg e, if_neg e]; exact hlo b (by omega)
          have hhi2 : ∀ b, i + 1 ≤ b → b < 8 → pb_un D i (pb_gp A (pb_pot A p) i n 0) b = pb_gp A (pb_pot A p) b (n - 1) 0 ∧ pb_un B i (pb_gp A (pb_pot A p) i n 10000) b = pb_gp A (pb_pot A p) b (n - 1) 10000 := fun b hb hb2 => by
            unfold pb_un
            rw [if_neg (by omega), if_neg (by omega)]
            exact hhi b (by omega) hb2
          refine pb_iload (pc2 := 147) dX12_hiding_145 rfl rfl ?_
          refine pb_ifN_eq (tgt := 175) (pc2 := 150) dX12_hiding_147 (by decide) rfl (by omega) (fun c => ?_) (fun c => ?_)
          · refine pb_iconst (x := nI 0) (pc2 := 176) dX12_hiding_175 (by decide) rfl ?_
            refine pb_istore (lv2 := [_, _, _, _, _, _]) (pc2 := 178) dX12_hiding_176 (by decide) rfl rfl ?_
            refine pb_iincP (c0 := 1) (lv2 := [_, _, _, _, _, _]) (pc2 := 181) dX12_hiding_178 rfl (by decide) rfl rfl ?_
            refine pb_goto (tgt := 76) dX12_hiding_181 (by decide) ?_
            refine ih (i + 1) 0 _ _ _ (by omega) (by omega) (by omega) ⟨fun z => by omega, fun z => ?_⟩ hR h34 h35 hlo2 hhi2
            have := h4.mpr (fun b hb => z b (by omega))
            omega
          · refine pb_aload_n (pc2 := 151) dX12_hiding_150 rfl rfl rfl ?_
            refine pb_getf (pc2 := 154) flX12_47_X12 rfl dX12_hiding_151 (by first | assumption | exact hR.a rfl | exact hR.o | exact hC.a rfl) rfl rfl ?_
            refine pb_iload (pc2 := 156) dX12_hiding_154 rfl rfl ?_
            refine pb_iald (pc2 := 157) (by first | assumption | exact hR.a rfl | exact hR.o | exact hC.a rfl) ⟨by decide, rfl⟩ dX12_hiding_156 (by omega) (by omega) rfl ?_
            refine pb_aload_n (pc2 := 158) dX12_hiding_157 rfl rfl rfl ?_
            refine pb_getf (pc2 := 161) flX12_50_X12 rfl dX12_hiding_158 (by first | assumption | exact hR.a rfl | exact hR.o | exact hC.a rfl) rfl rfl ?_
            refine pb_iload (pc2 := 163) dX12_hiding_161 rfl rfl ?_
            refine pb_iald (pc2 := 164) (by first | assumption | exact hR.a rfl | exact hR.o | exact hC.a rfl) ⟨by decide, rfl⟩ dX12_hiding_163 (by omega) (by omega) rfl ?_
            refine pb_top (v2 := .int (nI (pb_gp A (pb_pot A p) i n 10000))) (by rw [pb_un_self]) ?_
            have e34 : pb_un D i (pb_gp A (pb_pot A p) i n 0) i = pb_gp A (pb_pot A p) i n 0 := pb_un_self _ _ _
            rw [e34]
            refine pb_callS (pc2 := 167) (k2 := 0) (n2 := 0) mwX12_off swX12_off rfl mlX12_149 dX12_hiding_164 (t_off (by omega) (by omega)) (by omega) (by omega) (by omega) rfl rfl (Nat.le_of_ble_eq_true rfl) rfl (pb_kE ?_)
            have habs : pb_abs (pb_gp A (pb_pot A p) i n 0) (pb_gp A (pb_pot A p) i n 10000) ≤ 20000 := by unfold pb_abs; omega
            refine pb_iload_n (pc2 := 168) dX12_hiding_167 rfl rfl rfl ?_
            refine pb_icmpN_gt (tgt := 175) (pc2 := 171) dX12_hiding_168 (by decide) rfl (by omega) (by omega) (fun c3 => ?_) (fun c3 => ?_)
            · refine pb_iconst (x := nI 0) (pc2 := 176) dX12_hiding_175 (by decide) rfl ?_
              refine pb_istore (lv2 := [_, _, _, _, _, _]) (pc2 := 178) dX12_hiding_176 (by decide) rfl rfl ?_
              refine pb_iincP (c0 := 1) (lv2 := [_, _, _, _, _, _]) (pc2 := 181) dX12_hiding_178 rfl (by decide) rfl rfl ?_
              refine pb_goto (tgt := 76) dX12_hiding_181 (by decide) ?_
              refine ih (i + 1) 0 _ _ _ (by omega) (by omega) (by omega) ⟨fun z => by omega, fun z => ?_⟩ hR h34 h35 hlo2 hhi2
              have := z i (by omega)
              omega
            · refine pb_iconst (x := nI 1) (pc2 := 172) dX12_hiding_171 (by decide) rfl ?_
              refine pb_goto (tgt := 176) dX12_hiding_172 (by decide) ?_
              refine pb_istore (lv2 := [_, _, _, _, _, _]) (pc2 := 178) dX12_hiding_176 (by decide) rfl rfl ?_
              refine pb_iincP (c0 := 1) (lv2 := [_, _, _, _, _, _]) (pc2 := 181) dX12_hiding_178 rfl (by decide) rfl rfl ?_
              refine pb_goto (tgt := 76) dX12_hiding_181 (by decide) ?_
              refine ih (i + 1) 1 _ _ _ (by omega) (by omega) (by omega) ⟨fun _ b hb => ?_, fun _ => rfl⟩ hR h34 h35 hlo2 hhi2
              by_cases e : b = i
              · rw [e]; exact c3
              · exact h4.mp (by omega) b (by omega)
    have outer : ∀ (m n : Nat) (h' : pb_H) (D B : Nat → Nat) (o4 o5 : Option Value), 201 - n < m → 1 ≤ n → n ≤ 201 → (∀ k, 1 ≤ k → k < n → ¬ pb_hq A P d k) → pb_RF A h h' → h' 34 = some (.inl (0, 8, fun j => nI (D j))) → h' 35 = some (.inl (0, 8, fun j => nI (B j))) → (∀ b, b < 8 → D b = pb_gp A P b (n - 1) 0 ∧ B b = pb_gp A P b (n - 1) 10000) → pb_S Z mX12_hiding 2 0 0 (pb_PR (if r = 0 then -2 else nI r, A) h) 63 [some (.ref 20), some (.int (nI p)), some (.int (nI d)), some (.int (nI n)), o4, o5] [] h' := by
      intro m
      induction m with
      | zero => intro n h' D B o4 o5 h1; omega
      | succ m ih =>
        intro n h' D B o4 o5 h1 h2 h3 hno hR h34 h35 hDB
        refine pb_iload_n (pc2 := 64) dX12_hiding_63 rfl rfl rfl ?_
        refine pb_sipush (x := nI 200) (pc2 := 67) dX12_hiding_64 (by decide) rfl ?_
        refine pb_icmpN_gt (tgt := 197) (pc2 := 70) dX12_hiding_67 (by decide) rfl (by omega) (by omega) (fun q => ?_) (fun q => ?_)
        · have e : r = 0 := by
            rcases hfo with ⟨g1, g2, g3, g4⟩ | ⟨g1, g2⟩
            · exact absurd g3 (hno r g1 (by omega))
            · exact g1
          refine pb_bipush (x := -2) (pc2 := 199) dX12_hiding_197 (by decide) rfl ?_
          exact pb_ireturn dX12_hiding_199 rfl (pb_fin (by rw [if_pos e]) hR)
        · refine pb_iconst (x := nI 1) (pc2 := 71) dX12_hiding_70 (by decide) rfl ?_
          refine pb_istore (lv2 := [_, _, _, _, _, _]) (pc2 := 73) dX12_hiding_71 (by decide) rfl rfl ?_
          refine pb_iconst (x := nI 0) (pc2 := 74) dX12_hiding_73 (by decide) rfl ?_
          refine pb_istore (lv2 := [_, _, _, _, _, _]) (pc2 := 76) dX12_hiding_74 (by decide) rfl rfl ?_
          refine inner n h2 (by omega) (fun hy h' hR => ?_) (fun hn h' D B hR h34 h35 hDB => ?_) 9 0 1 h' D B (by omega) (by omega) (by omega) ⟨fun _ b hb => by omega, fun _ => rfl⟩ hR h34 h35 (fun b hb => by omega) (fun b _ hb => hDB b hb)
          · have e : r = n := by
              rcases hfo with ⟨g1, g2, g3, g4⟩ | ⟨g1, g2⟩
              · rcases Nat.lt_trichotomy r n with z | z | z
                · exact absurd g3 (hno r g1 z)
                · exact z
                · exact absurd hy (g4 n h2 z)
              · exact absurd hy (g2 n h2 (by omega))
            refine pb_iload_n (pc2 := 190) dX12_hiding_189 rfl rfl rfl ?_
            exact pb_ireturn dX12_hiding_190 rfl (pb_fin (by rw [if_neg (by omega), e]) hR)
          · refine pb_iincP (c0 := 1) (lv2 := [_, _, _, _, _, _]) (pc2 := 194) dX12_hiding_191 rfl (by decide) rfl rfl ?_
            refine pb_goto (tgt := 63) dX12_hiding_194 (by decide) ?_
            refine ih (n + 1) h' D B _ _ (by omega) (by omega) (by omega) (fun k k1 k2 => ?_) hR h34 h35 hDB
            by_cases e : k = n
            · rw [e]; exact hn
            · exact hno k k1 (by omega)
    have first : ∀ (m i : Nat) (h' : pb_H) (D B : Nat → Nat), 8 - i < m → i ≤ 8 → pb_RF A h h' → h' 34 = some (.inl (0, 8, fun j => nI (D j))) → h' 35 = some (.inl (0, 8, fun j => nI (B j))) → (∀ b, b < i → D b = 0 ∧ B b = 10000) → pb_S Z mX12_hiding 2 0 0 (pb_PR (if r = 0 then -2 else nI r, A) h) 33 [some (.ref 20), some (.int (nI p)), some (.int (nI d)), some (.int (nI i)), none, none] [] h' := by
      intro m
      induction m with
      | zero => intro i h' D B h1; omega
      | succ m ih =>
        intro i h' D B h1 h2 hR h34 h35 hDB
        refine pb_iload_n (pc2 := 34) dX12_hiding_33 rfl rfl rfl ?_
        refine pb_bipush (x := nI 8) (pc2 := 36) dX12_hiding_34 (by decide) rfl ?_
        refine pb_icmpN_ge (tgt := 61) (pc2 := 39) dX12_hiding_36 (by decide) rfl (by omega) (by omega) (fun q => ?_) (fun q => ?_)
        · have e : i = 8 := by omega
          subst e
          refine pb_iconst (x := nI 1) (pc2 := 62) dX12_hiding_61 (by decide) rfl ?_
          refine pb_istore_n (lv2 := [_, _, _, _, _, _]) (pc2 := 63) dX12_hiding_62 rfl (by decide) rfl rfl ?_
          exact outer 201 1 h' D B _ _ (by omega) (by omega) (by omega) (fun k k1 k2 => by omega) hR h34 h35 (fun b hb => hDB b hb)
        · refine pb_aload_n (pc2 := 40) dX12_hiding_39 rfl rfl rfl ?_
          refine pb_getf (pc2 := 43) flX12_47_X12 rfl dX12_hiding_40 (by first | assumption | exact hR.a rfl | exact hR.o | exact hC.a rfl) rfl rfl ?_
          refine pb_iload_n (pc2 := 44) dX12_hiding_43 rfl rfl rfl ?_
          refine pb_iconst (x := nI 0) (pc2 := 45) dX12_hiding_44 (by decide) rfl ?_
          refine pb_iastC (pc2 := 46) hR rfl h34 dX12_hiding_45 (by omega) rfl (fun h_ hR h34 ho => ?_)
          have h35 := (ho 35 (by omega)).trans h35
          refine pb_aload_n (pc2 := 47) dX12_hiding_46 rfl rfl rfl ?_
          refine pb_getf (pc2 := 50) flX12_50_X12 rfl dX12_hiding_47 (by first | assumption | exact hR.a rfl | exact hR.o | exact hC.a rfl) rfl rfl ?_
          refine pb_iload_n (pc2 := 51) dX12_hiding_50 rfl rfl rfl ?_
          refine pb_sipush (x := nI 10000) (pc2 := 54) dX12_hiding_51 (by decide) rfl ?_
          refine pb_iastC (pc2 := 55) hR rfl h35 dX12_hiding_54 (by omega) rfl (fun h_ hR h35 ho => ?_)
          have h34 := (ho 34 (by omega)).trans h34
          refine pb_iincP (c0 := 1) (lv2 := [_, _, _, _, _, _]) (pc2 := 58) dX12_hiding_55 rfl (by decide) rfl rfl ?_
          refine pb_goto (tgt := 33) dX12_hiding_58 (by decide) ?_
          refine ih (i + 1) _ _ _ (by omega) (by omega) hR h34 h35 (fun b hb => ?_)
          unfold pb_un
          by_cases e : b = i
          · rw [if_pos e, if_pos e]; exact ⟨rfl, rfl⟩
          · rw [if_neg e, if_neg e]; exact hDB b (by omega)
    obtain ⟨D, h34⟩ := hR.2.2.1 34 8 rfl
    obtain ⟨B, h35⟩ := hR.2.2.1 35 8 rfl
    refine pb_iconst (x := nI 0) (pc2 := 32) dX12_hiding_31 (by decide) rfl ?_
    refine pb_istore_n (lv2 := [_, _, _, _, _, _]) (pc2 := 33) dX12_hiding_32 rfl (by decide) rfl rfl ?_
    exact first 9 0 h D B (by omega) (by omega) hR h34 h35 (fun b hb => by omega)
  · refine pb_bipush (x := -2) (pc2 := 30) dX12_hiding_28 (by decide) rfl ?_
    exact pb_ireturn dX12_hiding_30 rfl (pb_fin (if_pos c1) hR)
end PB20

