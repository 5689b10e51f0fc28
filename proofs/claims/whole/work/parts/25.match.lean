/-! MATCH, by the reference -/
def sp_mst (A : pb_A) (l : Nat) (σ : Nat × Nat × (Nat → Nat)) (P : Nat → Nat) : Nat × Nat × (Nat → Nat) := if pb_us (A 1 0) P ≤ 4 ∧ (pb_pf A l P < σ.1 ∨ pb_pf A l P = σ.1 ∧ pb_cost A P < σ.2.1) then (pb_pf A l P, pb_cost A P, fun t => if t < 12 then P t else σ.2.2 t) else σ
def sp_mf (A : pb_A) (l s n : Nat) : Nat × Nat × (Nat → Nat) := (en_l s (A 1 0) 0 n (fun _ => 0)).foldl (sp_mst A l) (30001, A 20 0, A 19)
def sp_B (A : pb_A) (c : Nat) (F : Nat → Nat) : pb_A := pb_wf (pb_wf A 20 (fun _ => c)) 19 F
def sp_match (A : pb_A) (l s n : Int32) : Int32 × pb_A := if pb_in 0 3 l ∧ pb_isS A s ∧ pb_in 1 8 n then (nI (sp_mf A (pb_nat l) (pb_nat s) (pb_nat n)).1, pb_wf (sp_B A (sp_mf A (pb_nat l) (pb_nat s) (pb_nat n)).2.1 (sp_mf A (pb_nat l) (pb_nat s) (pb_nat n)).2.2) 18 (fun _ => 1)) else (-1, A)
theorem sp_B_20 {A : pb_A} {c c' : Nat} {F : Nat → Nat} : pb_wf (sp_B A c F) 20 (fun _ => c') = sp_B A c' F := by
  funext f j
  unfold sp_B pb_wf
  by_cases e1 : f = 20
  · rw [if_pos e1, if_neg (by omega), if_pos e1]
  · rw [if_neg e1]
    by_cases e2 : f = 19
    · rw [if_pos e2, if_pos e2]
    · rw [if_neg e2, if_neg e2, if_neg e1, if_neg e1]
theorem sp_B_19 {A : pb_A} {c i v : Nat} {F : Nat → Nat} : pb_wf (sp_B A c F) 19 (pb_un (sp_B A c F 19) i v) = sp_B A c (pb_un F i v) := by
  unfold sp_B
  rw [pb_wf_wf, pb_wf_self]
theorem pb_WF.B {A : pb_A} (w : pb_WF A) {c : Nat} {F : Nat → Nat} (hc : c ≤ 8000) (hF : ∀ t, t < 12 → F t ≤ 8) : pb_WF (sp_B A c F) := by
  obtain ⟨a1, a2, a3, a4, a5, a6, a7, a8, a9, a10, a11, a12, a13, a14, a15, a16, a17, a18, a19⟩ := w
  exact ⟨a1, a2, a3, a4, a5, a6, a7, a8, a9, a10, a11, a12, a13, hF, hc, a16, a17, a18, a19⟩
theorem pb_far_le {A : pb_A} {l a b c : Nat} {F : Nat → Nat} (ha : a ≤ 10000) (hb : b ≤ 10000) (hc : c ≤ 10000) (hF : ∀ b, b < 8 → F b ≤ 10000) : pb_far A l a b c F ≤ 30000 := by
  have e0 := pb_see_le (A := A) (l := l) (s := 0) hF
  have e1 := pb_see_le (A := A) (l := l) (s := 1) hF
  have e2 := pb_see_le (A := A) (l := l) (s := 2) hF
  have : ∀ x y, x ≤ 10000 → y ≤ 10000 → pb_abs x y ≤ 10000 := fun x y hx hy => by unfold pb_abs; omega
  have f0 := this _ _ e0 ha
  have f1 := this _ _ e1 hb
  have f2 := this _ _ e2 hc
  unfold pb_far
  omega
theorem pb_pf_le {A : pb_A} (w : pb_WF A) (l : Nat) (P : Nat → Nat) : pb_pf A l P ≤ 30000 := pb_far_le (w.tone (by omega)) (w.tone (by omega)) (w.tone (by omega)) (fun b _ => pb_thick_le _ _)
theorem pb_pf_congr {A : pb_A} {l : Nat} {P Q : Nat → Nat} (h : ∀ i, i < A 1 0 → P i = Q i) : pb_pf A l P = pb_pf A l Q := pb_far_congr (fun b _ => pb_tl_congr h b)
theorem pb_cost_le {A : pb_A} (w : pb_WF A) {P : Nat → Nat} : pb_cost A P ≤ 999 * pb_sum (A 1 0) P := by
  have mulsum : ∀ n, pb_sum n (fun t => 999 * P t) = 999 * pb_sum n P := by
    intro n
    induction n with
    | zero => rfl
    | succ n ih =>
      show pb_sum n (fun t => 999 * P t) + 999 * P n = 999 * (pb_sum n P + P n)
      rw [ih, Nat.mul_add]
  rw [← mulsum]
  refine pb_sum_le _ (fun t h => ?_)
  rw [Nat.mul_comm]
  exact Nat.mul_le_mul_right _ (w.cf h).1
theorem pb_us_one {f n : Nat} : ∀ T, pb_us T (pb_un (fun _ => 0) f n) ≤ if f < T then 1 else 0 := by
  intro T
  induction T with
  | zero => exact Nat.zero_le _
  | succ T ih =>
    show pb_us T _ + (if 0 < pb_un (fun _ => 0) f n T then 1 else 0) ≤ _
    by_cases e : T = f
    · subst e
      rw [if_neg (Nat.lt_irrefl _)] at ih
      rw [if_pos (Nat.lt_succ_self _)]
      split <;> omega
    · rw [pb_un_ne _ _ e, if_neg (show ¬ 0 < 0 by omega)]
      by_cases h : f < T
      · rw [if_pos h] at ih
        rw [if_pos (by omega)]
        exact ih
      · rw [if_neg h] at ih
        rw [if_neg (by omega)]
        exact ih
section PB25
variable {Z : pb_Z} {h h0 : pb_H} {A : pb_A}
theorem pb_putR2 {y : pb_M} {d k n : Nat} {post : Option Value → pb_H → Prop} {pc : Nat} {lv : List (Option Value)} {st : List Value} {idx kf : Nat} {v : Value} {pc2 : Nat} (hR : pb_RF A h0 h) (hl : pb_fl RX12 idx 10 kf RX12 TX12 32 tyX12) (hw : y.1.cls = RX12) (hd : decode y.2.1 pc = .ok (.putfield idx, 3)) (hfin : (TX12 kf).2.2.2 = false) (hn : narrow (tyX12 kf) v = v) (hft : fits (tyX12 kf) v = true) (f : Nat) (g : Nat → Nat) (hf : f = 0 ∨ f = 1 ∨ f = 18 ∨ f = 20 ∨ f = 21 ∨ f = 24) (hs : (pb_ro A).set kf v = pb_ro (pb_wf A f g)) (hp : pc + 3 = pc2) (kk : ∀ h', pb_RF (pb_wf A f g) h0 h' → (∀ b, b ≠ 20 → h' b = h b) → pb_S Z y d k n post pc2 lv st h') : pb_S Z y d k n post pc lv (v :: .ref 20 :: st) h :=
  pb_putf hl hw hd hR.o (by omega) hfin hn hft hs hp (kk _ (hR.ob g hf) (fun b hb => pb_set_ne _ _ hb))
theorem pb_iastR2 {y : pb_M} {d k n : Nat} {post : Option Value → pb_H → Prop} {pc : Nat} {lv : List (Option Value)} {st : List Value} {a n0 f j v : Nat} {pc2 : Nat} (hR : pb_RF A h0 h) (e : pb_rT a = some (n0, f)) (hd : decode y.2.1 pc = .ok (.iastore, 1)) (hj : j < n0) (hp : pc + 1 = pc2) (kk : ∀ h', pb_RF (pb_wf A f (pb_un (A f) j v)) h0 h' → (∀ b, b ≠ a → h' b = h b) → pb_S Z y d k n post pc2 lv st h') : pb_S Z y d k n post pc lv (.int (nI v) :: .int (nI j) :: .ref a :: st) h := by
  obtain ⟨e1, e2, e3, e4, e5, e6⟩ := pb_rT_facts e
  exact pb_iast (hR.a e) hd (by omega) hj (by omega) hp (kk _ (hR.set e _) (fun b hb => pb_set_ne _ _ hb))
set_option maxRecDepth 10000 in
theorem w_mmatch {l s n b c : Nat} {P G F : Nat → Nat} {o6 o7 : Option Value} {post : Option Value → pb_H → Prop} (w : pb_WF A) (hR : pb_RF (sp_B A c F) h0 h) (hl : l < 4) (hn1 : 1 ≤ n) (hn : n ≤ 8) (p12 : pb_sum 12 P = n) (p0 : ∀ i, A 1 0 ≤ i → P i = 0) (h42 : h 42 = some (.inl (0, 12, fun j => nI (G j)))) (hG : ∀ j, j < 12 → G j = P j) (hc : c ≤ 8000) (hF : ∀ t, t < 12 → F t ≤ 8) (hb : b ≤ 30001) (hbu : b ≤ 30000 ∨ pb_us (A 1 0) P ≤ 4) (tail : ∀ (b' c' : Nat) (F' : Nat → Nat) (h2 : pb_H) (o6 o7 : Option Value), pb_RF (sp_B A c' F') h0 h2 → h2 42 = some (.inl (0, 12, fun j => nI (G j))) → c' ≤ 8000 → (∀ t, t < 12 → F' t ≤ 8) → b' ≤ 30000 → sp_mst A l (b, c, F) P = (b', c', F') → pb_S Z mX12_match 4 0 0 post 153 [some (.ref 20), some (.int (nI l)), some (.int (nI s)), some (.int (nI n)), some (.int (nI b')), some (.int (nI 1)), o6, o7] [] h2) : pb_S Z mX12_match 4 0 0 post 39 [some (.ref 20), some (.int (nI l)), some (.int (nI s)), some (.int (nI n)), some (.int (if b = 30001 then -1 else nI b)), some (.int (nI 1)), o6, o7] [] h := by
  have htt := w.tubes
  have hw := w.B hc hF
  have p8 : ∀ j, j < 12 → P j ≤ 8 := fun j hj => by
    have := pb_sum_mem (f := P) hj
    omega
  have q12 : pb_sum 12 G = n := by rw [pb_sum_congr 12 hG]; exact p12
  have q8 : ∀ j, j < 12 → G j ≤ 8 := fun j hj => by rw [hG j hj]; exact p8 j hj
  have q0 : ∀ t, A 1 0 ≤ t → t < 12 → G t = 0 := fun t a b => by rw [hG t b]; exact p0 t a
  have hGP : ∀ i, i < A 1 0 → G i = P i := fun i hi => hG i (by omega)
  have eus : pb_us (A 1 0) G = pb_us (A 1 0) P := pb_us_congr _ hGP
  have ecost : pb_cost A G = pb_cost A P := pb_cost_congr hGP
  have epf : pb_pf A l G = pb_pf A l P := pb_pf_congr hGP
  have hcl : pb_cost A P ≤ 8000 := by
    have := pb_cost_le w (P := P)
    have : pb_sum (A 1 0) P = n := by rw [← p12, pb_sum_ext htt (fun i a _ => p0 i a)]
    omega
  have hpl := pb_pf_le w l P
  have husl := pb_us_le P (A 1 0)
  have g0 := w.tone (i := 0) (by omega)
  have g1 := w.tone (i := 1) (by omega)
  have g2 := w.tone (i := 2) (by omega)
  have take : ∀ (h2 : pb_H) (o7 : Option Value), pb_RF (sp_B A c F) h0 h2 → h2 42 = some (.inl (0, 12, fun j => nI (G j))) → pb_us (A 1 0) P ≤ 4 → (pb_pf A l P < b ∨ pb_pf A l P = b ∧ pb_cost A P < c) → pb_S Z mX12_match 4 0 0 post 111 [some (.ref 20), some (.int (nI l)), some (.int (nI s)), some (.int (nI n)), some (.int (if b = 30001 then -1 else nI b)), some (.int (nI 1)), some (.int (nI (pb_pf A l P))), o7] [] h2 := by
    intro h2 o7 hR h42 hus4 htake
    have emst : sp_mst A l (b, c, F) P = (pb_pf A l P, pb_cost A P, fun t => if t < 12 then P t else F t) := if_pos ⟨hus4, htake⟩
    refine pb_iload (pc2 := 113) dX12_match_111 rfl rfl ?_
    refine pb_istore (lv2 := [_, _, _, _, _, _, _, _]) (pc2 := 115) dX12_match_113 (by decide) rfl rfl ?_
    refine pb_aload_n (pc2 := 116) dX12_match_115 rfl rfl rfl ?_
    refine pb_aload_n (pc2 := 117) dX12_match_116 rfl rfl rfl ?_
    refine pb_callV (pc2 := 120) (k2 := 0) (n2 := 0) mwX12_costOfTrial pb_cl10.1 iwX12_costOfTrial seX12_costOfTrial rfl mlX12_200 dX12_match_117 (by first | assumption | exact hR.a rfl | exact hR.o | exact hC.a rfl) (t_mcostOfTrial hR htt h42) (by omega) (by omega) (by omega) rfl rfl (Nat.le_of_ble_eq_true rfl) rfl (pb_kE ?_)
    refine pb_top (v2 := .int (nI (pb_cost A P))) (by rw [← ecost]; rfl) ?_
    refine pb_putR2 (pc2 := 123) hR flX12_203_X12 rfl dX12_match_120 rfl rfl rfl 20 (fun _ => pb_cost A P) (by omega) rfl rfl (fun h3 hR hne => ?_)
    rw [sp_B_20] at hR
    have h42 : h3 42 = some (.inl (0, 12, fun j => nI (G j))) := by rw [hne 42 (by decide)]; exact h42
    have copy : ∀ (m i : Nat) (F2 : Nat → Nat) (h' : pb_H), 12 - i < m → i ≤ 12 → pb_RF (sp_B A (pb_cost A P) F2) h0 h' → h' 42 = some (.inl (0, 12, fun j => nI (G j))) → (∀ t, F2 t = if t < i then P t else F t) → pb_S Z mX12_match 4 0 0 post 126 [some (.ref 20), some (.int (nI l)), some (.int (nI s)), some (.int (nI n)), some (.int (nI (pb_pf A l P))), some (.int (nI 1)), some (.int (nI (pb_pf A l P))), some (.int (nI i))] [] h' := by
      intro m
      induction m with
      | zero => intro i F2 h' k1; omega
      | succ m ih =>
        intro i F2 h' k1 k2 hR h42 hF2
        refine pb_iload (pc2 := 128) dX12_match_126 rfl rfl ?_
        refine pb_bipush (x := nI 12) (pc2 := 130) dX12_match_128 (by decide) rfl ?_
        refine pb_icmpN_ge (tgt := 153) (pc2 := 133) dX12_match_130 (by decide) rfl (by omega) (by omega) (fun q => ?_) (fun q => ?_)
        · have e : i = 12 := by omega
          subst e
          have e2 : F2 = fun t => if t < 12 then P t else F t := funext hF2
          exact tail _ _ F2 _ _ _ hR h42 hcl (fun t ht => by rw [hF2 t, if_pos ht]; exact p8 t ht) hpl (by rw [emst, e2])
        · refine pb_aload_n (pc2 := 134) dX12_match_133 rfl rfl rfl ?_
          refine pb_getf (pc2 := 137) flX12_74_X12 rfl dX12_match_134 (by first | assumption | exact hR.a rfl | exact hR.o | exact hC.a rfl) rfl rfl ?_
          refine pb_iload (pc2 := 139) dX12_match_137 rfl rfl ?_
          refine pb_aload_n (pc2 := 140) dX12_match_139 rfl rfl rfl ?_
          refine pb_getf (pc2 := 143) flX12_71_X12 rfl dX12_match_140 (by first | assumption | exact hR.a rfl | exact hR.o | exact hC.a rfl) rfl rfl ?_
          refine pb_iload (pc2 := 145) dX12_match_143 rfl rfl ?_
          refine pb_iald (pc2 := 146) (by first | assumption | exact hR.a rfl | exact hR.o | exact hC.a rfl) ⟨by decide, rfl⟩ dX12_match_145 (by omega) (by omega) rfl ?_
          refine pb_iastR2 (pc2 := 147) hR rfl dX12_match_146 (by omega) rfl (fun h4 hR hne => ?_)
          rw [sp_B_19] at hR
          refine pb_iincP (c0 := 1) (lv2 := [_, _, _, _, _, _, _, _]) (pc2 := 150) dX12_match_147 rfl (by decide) rfl rfl ?_
          refine pb_goto (tgt := 126) dX12_match_150 (by decide) ?_
          refine ih (i + 1) _ _ (by omega) (by omega) hR (by rw [hne 42 (by decide)]; exact h42) (fun t => ?_)
          by_cases e : t = i
          · rw [e, pb_un_self, if_pos (by omega), hG i (by omega)]
          · rw [pb_un_ne _ _ e, hF2 t]
            by_cases e2 : t < i
            · rw [if_pos e2, if_pos (by omega)]
            · rw [if_neg e2, if_neg (by omega)]
    refine pb_iconst (x := nI 0) (pc2 := 124) dX12_match_123 (by decide) rfl ?_
    refine pb_istore (lv2 := [_, _, _, _, _, _, _, _]) (pc2 := 126) dX12_match_124 (by decide) rfl rfl ?_
    exact copy 13 0 F _ (by omega) (by omega) hR h42 (fun t => by rw [if_neg (by omega)])
  refine pb_iload (pc2 := 41) dX12_match_39 rfl rfl ?_
  refine pb_ifF_eq (tgt := 163) (pc2 := 44) dX12_match_41 (by decide) rfl (by decide) ?_
  refine pb_aload_n (pc2 := 45) dX12_match_44 rfl rfl rfl ?_
  refine pb_callV (pc2 := 48) (k2 := 0) (n2 := 0) mwX12_usedMany pb_cl10.1 iwX12_usedMany seX12_usedMany rfl mlX12_193 dX12_match_45 (by first | assumption | exact hR.a rfl | exact hR.o | exact hC.a rfl) (t_musedMany hR htt h42 q8) (by omega) (by omega) (by omega) rfl rfl (Nat.le_of_ble_eq_true rfl) rfl (pb_kE ?_)
  refine pb_top (v2 := .int (nI (pb_us (A 1 0) P))) (by rw [← eus]; rfl) ?_
  refine pb_iconst (x := nI 4) (pc2 := 49) dX12_match_48 (by decide) rfl ?_
  refine pb_icmpN_gt (tgt := 153) (pc2 := 52) dX12_match_49 (by decide) rfl (by omega) (by omega) (fun c4 => ?_) (fun c4 => ?_)
  · have hb3 : b ≤ 30000 := by omega
    rw [if_neg (by omega)]
    exact tail b c F _ _ _ hR h42 hc hF hb3 (if_neg (fun z => by have := z.1; omega))
  · refine pb_aload_n (pc2 := 53) dX12_match_52 rfl rfl rfl ?_
    refine pb_callV (pc2 := 56) (k2 := 0) (n2 := 0) mwX12_lightOfTrial pb_cl10.1 iwX12_lightOfTrial seX12_lightOfTrial rfl mlX12_197 dX12_match_53 (by first | assumption | exact hR.a rfl | exact hR.o | exact hC.a rfl) (t_mlightOfTrial hw hR h42 q8 (by omega) (by omega) q0) (by omega) (by omega) (by omega) rfl rfl (Nat.le_of_ble_eq_true rfl) rfl (pb_kL2 (fun h2 L hR h32 hL hne => ?_))
    have h42 : h2 42 = some (.inl (0, 12, fun j => nI (G j))) := by rw [hne 42 (by decide)]; exact h42
    refine pb_aload_n (pc2 := 57) dX12_match_56 rfl rfl rfl ?_
    refine pb_aload_n (pc2 := 58) dX12_match_57 rfl rfl rfl ?_
    refine pb_getf (pc2 := 61) flX12_68_X12 rfl dX12_match_58 (by first | assumption | exact hR.a rfl | exact hR.o | exact hC.a rfl) rfl rfl ?_
    refine pb_iconst (x := nI 0) (pc2 := 62) dX12_match_61 (by decide) rfl ?_
    refine pb_iald (pc2 := 63) (by first | assumption | exact hR.a rfl | exact hR.o | exact hC.a rfl) ⟨by decide, rfl⟩ dX12_match_62 (by omega) (by omega) rfl ?_
    refine pb_aload_n (pc2 := 64) dX12_match_63 rfl rfl rfl ?_
    refine pb_getf (pc2 := 67) flX12_68_X12 rfl dX12_match_64 (by first | assumption | exact hR.a rfl | exact hR.o | exact hC.a rfl) rfl rfl ?_
    refine pb_iconst (x := nI 1) (pc2 := 68) dX12_match_67 (by decide) rfl ?_
    refine pb_iald (pc2 := 69) (by first | assumption | exact hR.a rfl | exact hR.o | exact hC.a rfl) ⟨by decide, rfl⟩ dX12_match_68 (by omega) (by omega) rfl ?_
    refine pb_aload_n (pc2 := 70) dX12_match_69 rfl rfl rfl ?_
    refine pb_getf (pc2 := 73) flX12_68_X12 rfl dX12_match_70 (by first | assumption | exact hR.a rfl | exact hR.o | exact hC.a rfl) rfl rfl ?_
    refine pb_iconst (x := nI 2) (pc2 := 74) dX12_match_73 (by decide) rfl ?_
    refine pb_iald (pc2 := 75) (by first | assumption | exact hR.a rfl | exact hR.o | exact hC.a rfl) ⟨by decide, rfl⟩ dX12_match_74 (by omega) (by omega) rfl ?_
    refine pb_iload_n (pc2 := 76) dX12_match_75 rfl rfl rfl ?_
    refine pb_callV (pc2 := 79) (k2 := 0) (n2 := 0) mwX12_apartFrom pb_cl10.1 iwX12_apartFrom seX12_apartFrom rfl mlX12_183 dX12_match_76 (by first | assumption | exact hR.a rfl | exact hR.o | exact hC.a rfl) (t_mapartFrom hw hR hl g0 g1 g2 (fun b hb => by rw [hL b hb]; exact pb_thick_le _ _) h32) (by omega) (by omega) (by omega) rfl rfl (Nat.le_of_ble_eq_true rfl) rfl (pb_kE ?_)
    refine pb_top (v2 := .int (nI (pb_pf A l P))) (by rw [pb_far_congr hL, ← epf]; rfl) ?_
    refine pb_istore (lv2 := [_, _, _, _, _, _, _, _]) (pc2 := 81) dX12_match_79 (by decide) rfl rfl ?_
    refine pb_iload (pc2 := 83) dX12_match_81 rfl rfl ?_
    by_cases c0 : b = 30001
    · have ht := take h2 o7 hR h42 c4 (by omega)
      rw [if_pos c0] at ht ⊢
      refine pb_ifT_lt (tgt := 111) dX12_match_83 (by decide) (by decide) ?_
      exact ht
    · have ht := take h2 o7 hR h42 c4
      rw [if_neg c0] at ht ⊢
      refine pb_ifF_lt (tgt := 111) (pc2 := 86) dX12_match_83 (Int32.not_lt.mpr (nI_pos' (by omega))) rfl (by decide) ?_
      refine pb_iload (pc2 := 88) dX12_match_86 rfl rfl ?_
      refine pb_iload (pc2 := 90) dX12_match_88 rfl rfl ?_
      refine pb_icmpN_lt (tgt := 111) (pc2 := 93) dX12_match_90 (by decide) rfl (by omega) (by omega) (fun c1 => ?_) (fun c1 => ?_)
      · exact ht (Or.inl c1)
      · refine pb_iload (pc2 := 95) dX12_match_93 rfl rfl ?_
        refine pb_iload (pc2 := 97) dX12_match_95 rfl rfl ?_
        refine pb_icmpN_ne (tgt := 153) (pc2 := 100) dX12_match_97 (by decide) rfl (by omega) (by omega) (fun c2 => ?_) (fun c2 => ?_)
        · exact tail b c F _ _ _ hR h42 hc hF (by omega) (if_neg (fun z => by rcases z.2 with z | z <;> simp only [] at z <;> omega))
        · refine pb_aload_n (pc2 := 101) dX12_match_100 rfl rfl rfl ?_
          refine pb_callV (pc2 := 104) (k2 := 0) (n2 := 0) mwX12_costOfTrial pb_cl10.1 iwX12_costOfTrial seX12_costOfTrial rfl mlX12_200 dX12_match_101 (by first | assumption | exact hR.a rfl | exact hR.o | exact hC.a rfl) (t_mcostOfTrial hR htt h42) (by omega) (by omega) (by omega) rfl rfl (Nat.le_of_ble_eq_true rfl) rfl (pb_kE ?_)
          refine pb_top (v2 := .int (nI (pb_cost A P))) (by rw [← ecost]; rfl) ?_
          refine pb_aload_n (pc2 := 105) dX12_match_104 rfl rfl rfl ?_
          refine pb_getf (v := .int (nI c)) (pc2 := 108) flX12_203_X12 rfl dX12_match_105 (by first | assumption | exact hR.a rfl | exact hR.o | exact hC.a rfl) rfl rfl ?_
          refine pb_icmpN_ge (tgt := 153) (pc2 := 111) dX12_match_108 (by decide) rfl (by omega) (by omega) (fun c3 => ?_) (fun c3 => ?_)
          · exact tail b c F _ _ _ hR h42 hc hF (by omega) (if_neg (fun z => by rcases z.2 with z | z <;> simp only [] at z <;> omega))
          · exact ht (Or.inr ⟨c2, c3⟩)
set_option maxRecDepth 10000 in
theorem r_match (w : pb_WF A) (hR : pb_RF A h h) (l s n : Int32) : pb_T Z mX12_match 4 0 0 [.ref 20, .int l, .int s, .int n] h (pb_PR (sp_match A l s n) h) := by
  have htt := w.tubes
  refine pb_T.of pnX12_match (Nat.le_of_ble_eq_true rfl) (lv := [some (.ref 20), some (.int l), some (.int s), some (.int n), none, none, none, none]) rfl ?_
  refine pb_iload_n (pc2 := 1) dX12_match_0 rfl rfl rfl ?_
  refine pb_callS (pc2 := 4) (k2 := 0) (n2 := 0) mwX12_isLamp swX12_isLamp rfl mlX12_114 dX12_match_1 (t_misLamp l) (by omega) (by omega) (by omega) rfl rfl (Nat.le_of_ble_eq_true rfl) rfl (pb_kB ?_ ?_)
  rotate_left
  · intro q1
    refine pb_ifT_eq (tgt := 25) dX12_match_4 (by decide) rfl ?_
    refine pb_iconst (x := -1) (pc2 := 26) dX12_match_25 (by decide) rfl ?_
    exact pb_ireturn dX12_match_26 rfl (pb_fin (if_neg (fun z => q1 z.1)) hR)
  intro q1
  refine pb_ifF_eq (tgt := 25) (pc2 := 7) dX12_match_4 (by decide) rfl (by decide) ?_
  refine pb_aload_n (pc2 := 8) dX12_match_7 rfl rfl rfl ?_
  refine pb_iload_n (pc2 := 9) dX12_match_8 rfl rfl rfl ?_
  refine pb_callV (pc2 := 12) (k2 := 0) (n2 := 0) mwX12_isSet pb_cl10.1 iwX12_isSet seX12_isSet rfl mlX12_187 dX12_match_9 (by first | assumption | exact hR.a rfl | exact hR.o | exact hC.a rfl) (t_misSet w hR s) (by omega) (by omega) (by omega) rfl rfl (Nat.le_of_ble_eq_true rfl) rfl (pb_kB ?_ ?_)
  rotate_left
  · intro q2
    refine pb_ifT_eq (tgt := 25) dX12_match_12 (by decide) rfl ?_
    refine pb_iconst (x := -1) (pc2 := 26) dX12_match_25 (by decide) rfl ?_
    exact pb_ireturn dX12_match_26 rfl (pb_fin (if_neg (fun z => q2 z.2.1)) hR)
  intro q2
  refine pb_ifF_eq (tgt := 25) (pc2 := 15) dX12_match_12 (by decide) rfl (by decide) ?_
  refine pb_iload_n (pc2 := 16) dX12_match_15 rfl rfl rfl ?_
  refine pb_iconst (x := nI 1) (pc2 := 17) dX12_match_16 (by decide) rfl ?_
  refine pb_bipush (x := nI 8) (pc2 := 19) dX12_match_17 (by decide) rfl ?_
  refine pb_callS (pc2 := 22) (k2 := 0) (n2 := 0) mwX12_in swX12_in rfl mlX12_95 dX12_match_19 (t_in n (nI 1) (nI 8)) (by omega) (by omega) (by omega) rfl rfl (Nat.le_of_ble_eq_true rfl) rfl (pb_kB ?_ ?_)
  rotate_left
  · intro q3
    refine pb_ifF_ne (tgt := 27) (pc2 := 25) dX12_match_22 rfl rfl (by decide) ?_
    refine pb_iconst (x := -1) (pc2 := 26) dX12_match_25 (by decide) rfl ?_
    exact pb_ireturn dX12_match_26 rfl (pb_fin (if_neg (fun z => q3 z.2.2)) hR)
  intro q3
  refine pb_ifT_ne (tgt := 27) dX12_match_22 (by decide) (by decide) ?_
  have e0 : sp_match A l s n = _ := if_pos ⟨q1, q2, q3⟩
  rw [e0]
  obtain ⟨l, -, hl, rfl⟩ := nI_rng (by omega) q1 (by omega)
  obtain ⟨s, hs0, hs1, hs2, rfl⟩ := pb_isS_of w q2
  obtain ⟨n, hn1, hn, rfl⟩ := nI_rng (by omega) q3 (by omega)
  rw [pb_natN (by omega), pb_natN (by omega), pb_natN (by omega)]
  obtain ⟨z, hz, hz1, hzm⟩ := pb_lastbit hs0 hs1
  obtain ⟨f, -, hf, hf1, hfm, k1, k2, k3⟩ := (en_ch hz1 hz (fun i a _ => hzm i a) (A 1 0) 0 n (fun _ => 0) (by omega) (by omega) (fun _ _ => rfl)).1 (Nat.zero_le _)
  have k4 := en_ok (s := s) (A 1 0) 0 n (A 1 0) (fun _ => 0) (by omega) (fun _ _ => rfl)
  have hzero : pb_sum (A 1 0) (fun _ => 0) = 0 := by rw [pb_sum_const]; rfl
  have k5 : ∀ Q ∈ en_l s (A 1 0) 0 n (fun _ => 0), pb_sum 12 Q = n ∧ ∀ i, A 1 0 ≤ i → Q i = 0 := fun Q hQ => by
    obtain ⟨p1, p2, -, -⟩ := k4 Q hQ
    rw [hzero, Nat.zero_add] at p1
    exact ⟨by rw [pb_sum_ext htt (fun i a _ => p2 i a)]; exact p1, p2⟩
  have fin : ∃ σ, sp_mf A l s n = σ := ⟨_, rfl⟩
  obtain ⟨σE, hσE⟩ := fin
  rw [hσE]
  have loop : ∀ (L : List (Nat → Nat)) (P G : Nat → Nat) (b c : Nat) (F : Nat → Nat) (h' : pb_H) (o6 o7 : Option Value), pb_ch (pb_nx s z) (P :: L) → (P :: L).getLast? = some (pb_un (fun _ => 0) z n) → (∀ Q ∈ P :: L, pb_sum 12 Q = n ∧ ∀ i, A 1 0 ≤ i → Q i = 0) → pb_RF (sp_B A c F) h h' → h' 42 = some (.inl (0, 12, fun j => nI (G j))) → (∀ j, j < 12 → G j = P j) → c ≤ 8000 → (∀ t, t < 12 → F t ≤ 8) → b ≤ 30001 → (b ≤ 30000 ∨ pb_us (A 1 0) P ≤ 4) → (P :: L).foldl (sp_mst A l) (b, c, F) = σE → pb_S Z mX12_match 4 0 0 (pb_PR (nI σE.1, pb_wf (sp_B A σE.2.1 σE.2.2) 18 (fun _ => 1)) h) 39 [some (.ref 20), some (.int (nI l)), some (.int (nI s)), some (.int (nI n)), some (.int (if b = 30001 then -1 else nI b)), some (.int (nI 1)), o6, o7] [] h' := by
    intro L
    induction L with
    | nil =>
      intro P G b c F h' o6 o7 g1 g2 g3 hR h42 hG hc hF hb hbu hfold
      obtain ⟨p12, p0⟩ := g3 P List.mem_cons_self
      refine w_mmatch w hR (by omega) hn1 hn p12 p0 h42 hG hc hF hb hbu (fun b' c' F' h2 o6 o7 hR h42 hc hF hb e => ?_)
      have hP : P = pb_un (fun _ => 0) z n := Option.some.inj g2
      have hσ : σE = (b', c', F') := by rw [← hfold, ← e]; rfl
      rw [hσ]
      refine pb_aload_n (pc2 := 154) dX12_match_153 rfl rfl rfl ?_
      refine pb_iload_n (pc2 := 155) dX12_match_154 rfl rfl rfl ?_
      refine pb_callV (pc2 := 158) (k2 := 0) (n2 := 0) mwX12_next pb_cl10.1 iwX12_next seX12_next rfl mlX12_206 dX12_match_155 (by first | assumption | exact hR.a rfl | exact hR.o | exact hC.a rfl) (t_mnext0 (P := P) hR htt h42 hG hs2 hz hz1 (fun i a _ => hzm i a) (fun i hi => by rw [hP, pb_un_ne _ _ (by omega)])) (by omega) (by omega) (by omega) rfl rfl (Nat.le_of_ble_eq_true rfl) rfl (pb_kN (fun h3 G3 hR _ _ _ => ?_))
      refine pb_istore (lv2 := [_, _, _, _, _, _, _, _]) (pc2 := 160) dX12_match_158 (by decide) rfl rfl ?_
      refine pb_goto (tgt := 39) dX12_match_160 (by decide) ?_
      refine pb_iload (pc2 := 41) dX12_match_39 rfl rfl ?_
      refine pb_ifT_eq (tgt := 163) dX12_match_41 (by decide) (rfl) ?_
      refine pb_aload_n (pc2 := 164) dX12_match_163 rfl rfl rfl ?_
      refine pb_iconst (x := nI 1) (pc2 := 165) dX12_match_164 (by decide) rfl ?_
      refine pb_putR (pc2 := 168) hR flX12_209_X12 rfl dX12_match_165 rfl rfl rfl 18 (fun _ => 1) (by omega) rfl rfl (fun h4 hR => ?_)
      refine pb_iload (pc2 := 170) dX12_match_168 rfl rfl ?_
      exact pb_ireturn dX12_match_170 rfl (pb_fin rfl hR)
    | cons Q L ih =>
      intro P G b c F h' o6 o7 g1 g2 g3 hR h42 hG hc hF hb hbu hfold
      obtain ⟨p12, p0⟩ := g3 P List.mem_cons_self
      refine w_mmatch w hR (by omega) hn1 hn p12 p0 h42 hG hc hF hb hbu (fun b' c' F' h2 o6 o7 hR h42 hc hF hb e => ?_)
      have p8 : ∀ j, j < 12 → P j ≤ 8 := fun j hj => by
        have := pb_sum_mem (f := P) hj
        omega
      refine pb_aload_n (pc2 := 154) dX12_match_153 rfl rfl rfl ?_
      refine pb_iload_n (pc2 := 155) dX12_match_154 rfl rfl rfl ?_
      refine pb_callV (pc2 := 158) (k2 := 0) (n2 := 0) mwX12_next pb_cl10.1 iwX12_next seX12_next rfl mlX12_206 dX12_match_155 (by first | assumption | exact hR.a rfl | exact hR.o | exact hC.a rfl) (t_mnext1 (Q := Q) hR htt h42 hG hs2 hz hz1 (fun i a _ => hzm i a) p8 (g1.1 Q rfl)) (by omega) (by omega) (by omega) rfl rfl (Nat.le_of_ble_eq_true rfl) rfl (pb_kN (fun h3 G3 hR h42 hG _ => ?_))
      refine pb_istore (lv2 := [_, _, _, _, _, _, _, _]) (pc2 := 160) dX12_match_158 (by decide) rfl rfl ?_
      refine pb_goto (tgt := 39) dX12_match_160 (by decide) ?_
      have := ih Q G3 b' c' F' h3 o6 o7 g1.2 (by rw [List.getLast?_cons_cons] at g2; exact g2) (fun R hR => g3 R (List.mem_cons_of_mem _ hR)) hR h42 hG hc hF (by omega) (Or.inl hb) (by rw [← hfold, ← e]; rfl)
      rw [if_neg (by omega)] at this
      exact this
  cases hL : en_l s (A 1 0) 0 n (fun _ => 0) with
  | nil => rw [hL] at k1; cases k1
  | cons P L =>
    rw [hL] at k1 k2 k3 k5
    have hP : P = pb_un (fun _ => 0) f n := Option.some.inj k1
    refine pb_iconst (x := -1) (pc2 := 28) dX12_match_27 (by decide) rfl ?_
    refine pb_istore (lv2 := [_, _, _, _, _, _, _, _]) (pc2 := 30) dX12_match_28 (by decide) rfl rfl ?_
    refine pb_aload_n (pc2 := 31) dX12_match_30 rfl rfl rfl ?_
    refine pb_iload_n (pc2 := 32) dX12_match_31 rfl rfl rfl ?_
    refine pb_iload_n (pc2 := 33) dX12_match_32 rfl rfl rfl ?_
    refine pb_callV (pc2 := 36) (k2 := 0) (n2 := 0) mwX12_begin pb_cl10.1 iwX12_begin seX12_begin rfl mlX12_190 dX12_match_33 (by first | assumption | exact hR.a rfl | exact hR.o | exact hC.a rfl) (t_mbegin hR hs2 hn (show f < 12 by omega) hf1 (fun i hi => hfm i (by omega) hi)) (by omega) (by omega) (by omega) rfl rfl (Nat.le_of_ble_eq_true rfl) rfl (pb_kNn (fun h2 G hR h42 hG _ => ?_))
    refine pb_iconst (x := nI 1) (pc2 := 37) dX12_match_36 (by decide) rfl ?_
    refine pb_istore (lv2 := [_, _, _, _, _, _, _, _]) (pc2 := 39) dX12_match_37 (by decide) rfl rfl ?_
    obtain ⟨w1, w2, w3, -⟩ := w.rest
    have hus := pb_us_one (f := f) (n := n) (A 1 0)
    have := loop L P G 30001 (A 20 0) (A 19) h2 none none k3 k2 k5 ?_ h42 (fun j hj => by rw [hP]; exact hG j hj) w3 w2 (by omega) (Or.inr (by rw [hP]; split at hus <;> omega)) (by rw [← hL]; exact hσE)
    · exact this
    · refine ⟨hR.1, fun a n f e => ?_, hR.2.2.1, hR.2.2.2⟩
      obtain ⟨-, -, -, -, -, -, -, -, e20, -, -⟩ := pb_rT_facts e
      rw [hR.2.1 a n f e]
      unfold sp_B
      by_cases e19 : f = 19
      · rw [e19, pb_wf_self]
      · rw [pb_wf_ne _ _ e19, pb_wf_ne _ _ e20]
end PB25

