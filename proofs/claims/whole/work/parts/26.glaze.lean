/-! GLAZES, by the reference -/
def gl_th (i : Nat) : Nat := if i = 0 then 1 else if i = 1 then 2 else 4
def gl_1 (A : pb_A) (b v x : Nat) : Nat := pb_lay (pb_ta (A 7 (8 * (x / 3) + b)) (A 8 (8 * (x / 3) + b))) (pb_tb (A 7 (8 * (x / 3) + b)) (A 8 (8 * (x / 3) + b))) (gl_th (x % 3)) v
def gl_L (A : pb_A) (g : Nat) (L : List Nat) : Nat → Nat := fun b => L.foldl (gl_1 A b) g
def gl_v (A : pb_A) (l g : Nat) (L : List Nat) : Nat := pb_far A l (A 17 0) (A 17 1) (A 17 2) (gl_L A g L)
def gl_c (x : Nat) : Nat := 10 * (x / 3) + gl_th (x % 3)
def gl_ok (s : Nat) (L : List Nat) (x : Nat) : Bool := s.testBit (x / 3) && L.all (fun y => y / 3 != x / 3)
def gl_fm {α : Type} (g : Nat → List α) : Nat → Nat → List α
  | 0, _ => []
  | r + 1, x => g x ++ gl_fm g r (x + 1)
/-- all stacks of d more layers upon L, in their order -/
def gl_e (s : Nat) : Nat → List Nat → List (List Nat)
  | 0, L => [L]
  | d + 1, L => gl_fm (fun x => if gl_ok s L x then gl_e s d (L ++ [x]) else []) 36 0
def gl_pt (s d : Nat) (L : List Nat) (x : Nat) : List (List Nat) := gl_fm (fun x => if gl_ok s L x then gl_e s d (L ++ [x]) else []) (36 - x) x
theorem gl_pt_s {s d : Nat} {L : List Nat} {x : Nat} (h : x < 36) : gl_pt s d L x = (if gl_ok s L x then gl_e s d (L ++ [x]) else []) ++ gl_pt s d L (x + 1) := by
  unfold gl_pt
  obtain ⟨r, hr⟩ : ∃ r, 36 - x = r + 1 := ⟨36 - x - 1, by omega⟩
  rw [hr, show 36 - (x + 1) = r by omega]
  rfl
theorem gl_fm_nil {α : Type} {g : Nat → List α} : ∀ {r x : Nat}, (∀ y, x ≤ y → g y = []) → gl_fm g r x = []
  | 0, _, _ => rfl
  | r + 1, x, h => by
    show g x ++ gl_fm g r (x + 1) = []
    rw [h x (Nat.le_refl _), gl_fm_nil (fun y hy => h y (by omega))]
    rfl
theorem gl_pt_nil {s d T : Nat} {L : List Nat} {x : Nat} (hs : ∀ t, T ≤ t → s.testBit t = false) (h : 3 * T ≤ x) : gl_pt s d L x = [] := by
  refine gl_fm_nil (fun y hy => ?_)
  have : gl_ok s L y = false := by
    unfold gl_ok
    rw [hs (y / 3) (by omega)]
    rfl
  rw [this]
  rfl
def sp_gst (A : pb_A) (l g : Nat) (σ : Nat × Nat × (Nat → Nat)) (L : List Nat) : Nat × Nat × (Nat → Nat) := if gl_v A l g L < σ.1 then (gl_v A l g L, L.length, fun k => if k < L.length then gl_c (L.getD k 0) else σ.2.2 k) else σ
def sp_gf (A : pb_A) (l s g : Nat) : Nat × Nat × (Nat → Nat) := (gl_e s 1 [] ++ (gl_e s 2 [] ++ gl_e s 3 [])).foldl (sp_gst A l g) (gl_v A l g [], 0, A 23)
def sp_G (A : pb_A) (m : Nat) (F : Nat → Nat) : pb_A := pb_wf (pb_wf A 21 (fun _ => m)) 23 F
def sp_glaze (A : pb_A) (l s g : Int32) : Int32 × pb_A := if pb_in 0 3 l ∧ pb_isS A s ∧ pb_in 0 10000 g then (nI (sp_gf A (pb_nat l) (pb_nat s) (pb_nat g)).1, sp_G A (sp_gf A (pb_nat l) (pb_nat s) (pb_nat g)).2.1 (sp_gf A (pb_nat l) (pb_nat s) (pb_nat g)).2.2) else (-1, A)
theorem sp_G_21 {A : pb_A} {c c' : Nat} {F : Nat → Nat} : pb_wf (sp_G A c F) 21 (fun _ => c') = sp_G A c' F := by
  funext f j
  unfold sp_G pb_wf
  by_cases e1 : f = 21
  · rw [if_pos e1, if_neg (by omega), if_pos e1]
  · rw [if_neg e1]
    by_cases e2 : f = 23
    · rw [if_pos e2, if_pos e2]
    · rw [if_neg e2, if_neg e2, if_neg e1, if_neg e1]
theorem sp_G_23 {A : pb_A} {c i v : Nat} {F : Nat → Nat} : pb_wf (sp_G A c F) 23 (pb_un (sp_G A c F 23) i v) = sp_G A c (pb_un F i v) := by
  unfold sp_G
  rw [pb_wf_wf, pb_wf_self]
theorem pb_WF.G {A : pb_A} (w : pb_WF A) {c : Nat} {F : Nat → Nat} (hc : c ≤ 3) (hF : ∀ i, i < 3 → F i ≤ 200) : pb_WF (sp_G A c F) := by
  obtain ⟨a1, a2, a3, a4, a5, a6, a7, a8, a9, a10, a11, a12, a13, a14, a15, a16, a17, a18, a19⟩ := w
  exact ⟨a1, a2, a3, a4, a5, a6, a7, a8, a9, a10, a11, a12, a13, a14, a15, Or.inl hc, hF, a18, a19⟩
theorem gl_th_le (i : Nat) : gl_th i ≤ 4 := by unfold gl_th; split <;> (try split) <;> omega
theorem gl_1_le (A : pb_A) (b v x : Nat) (h : v ≤ 10000) : gl_1 A b v x ≤ 10000 := pb_lay_le (pb_tab _ _) _ _ h
theorem gl_L_le (A : pb_A) (b : Nat) : ∀ (L : List Nat) (g : Nat), g ≤ 10000 → gl_L A g L b ≤ 10000
  | [], _, h => h
  | x :: L, g, h => gl_L_le A b L (gl_1 A b g x) (gl_1_le A b g x h)
theorem gl_v_le {A : pb_A} (w : pb_WF A) (l : Nat) {g : Nat} (L : List Nat) (h : g ≤ 10000) : gl_v A l g L ≤ 30000 := pb_far_le (w.tone (by omega)) (w.tone (by omega)) (w.tone (by omega)) (fun b _ => gl_L_le A b L g h)
abbrev pb_TH (h : pb_H) : Prop := h 1 = some (.inl (3, 3, fun j => nI (gl_th j)))
theorem gl_getD {L : List Nat} {j : Nat} (h : j < L.length) : L.getD j 0 = L[j] := by
  rw [List.getD, List.getElem?_eq_getElem h]
  rfl
theorem slX12_213 : Cond.fieldLink RX12 213 "PaintBoxModel" "THICKNESS" "[I" ∈ pb_tbl := pb_i5 (List.mem_of_getElem? (i := 154) (by decide +kernel)) rfl
section PB26
variable {Z : pb_Z} {h h0 : pb_H} {A : pb_A}
set_option maxRecDepth 10000 in
theorem t_mlightOfGlaze {G : Nat → Nat} {L : List Nat} {n g : Nat} (w : pb_WF A) (hR : pb_RF A h0 h) (hT : pb_TH h) (h48 : h 48 = some (.inl (0, 3, fun j => nI (G j)))) (hn : L.length = n) (hn3 : n ≤ 3) (hG : ∀ j, j < n → G j = L.getD j 0) (hL : ∀ j, j < n → L.getD j 0 < 3 * A 1 0) (hg : g ≤ 10000) : pb_T Z mX12_lightOfGlaze 2 0 0 [.ref 20, .int (nI n), .int (nI g)] h (pb_PL2 A h0 h (gl_L A g L)) := by
  have htt := w.tubes
  refine pb_T.of pnX12_lightOfGlaze (Nat.le_of_ble_eq_true rfl) (lv := [some (.ref 20), some (.int (nI n)), some (.int (nI g)), none, none, none]) rfl ?_
  have outer : ∀ (m b : Nat) (F : Nat → Nat) (h' : pb_H) (o4 o5 : Option Value), 8 - b < m → b ≤ 8 → pb_RF A h0 h' → h' 32 = some (.inl (0, 8, fun j => nI (F j))) → (∀ i, i < b → F i = gl_L A g L i) → (∀ i, i ≠ 32 → h' i = h i) → pb_S Z mX12_lightOfGlaze 2 0 0 (pb_PL2 A h0 h (gl_L A g L)) 2 [some (.ref 20), some (.int (nI n)), some (.int (nI g)), some (.int (nI b)), o4, o5] [] h' := by
    intro m
    induction m with
    | zero => intro b F h' o4 o5 g1; omega
    | succ m ih =>
      intro b F h' o4 o5 g1 g2 hR h32 hF hne
      have h48 : h' 48 = some (.inl (0, 3, fun j => nI (G j))) := by rw [hne 48 (by decide)]; exact h48
      have hT : h' 1 = some (.inl (3, 3, fun j => nI (gl_th j))) := by rw [hne 1 (by decide)]; exact hT
      refine pb_iload_n (pc2 := 3) dX12_lightOfGlaze_2 rfl rfl rfl ?_
      refine pb_bipush (x := nI 8) (pc2 := 5) dX12_lightOfGlaze_3 (by decide) rfl ?_
      refine pb_icmpN_ge (tgt := 100) (pc2 := 8) dX12_lightOfGlaze_5 (by decide) rfl (by omega) (by omega) (fun q => ?_) (fun q => ?_)
      · have e : b = 8 := by omega
        subst e
        exact pb_return dX12_lightOfGlaze_100 rfl (⟨rfl, hR, ⟨F, h32, hF⟩, hne⟩)
      · have inner : ∀ (m2 k : Nat), n - k < m2 → k ≤ n → pb_S Z mX12_lightOfGlaze 2 0 0 (pb_PL2 A h0 h (gl_L A g L)) 14 [some (.ref 20), some (.int (nI n)), some (.int (nI g)), some (.int (nI b)), some (.int (nI (gl_L A g (L.take k) b))), some (.int (nI k))] [] h' := by
          intro m2
          induction m2 with
          | zero => intro k k1; omega
          | succ m2 ih2 =>
            intro k k1 k2
            refine pb_iload (pc2 := 16) dX12_lightOfGlaze_14 rfl rfl ?_
            refine pb_iload_n (pc2 := 17) dX12_lightOfGlaze_16 rfl rfl rfl ?_
            refine pb_icmpN_ge (tgt := 86) (pc2 := 20) dX12_lightOfGlaze_17 (by decide) rfl (by omega) (by omega) (fun c => ?_) (fun c => ?_)
            · have e : k = n := by omega
              subst e
              refine pb_aload_n (pc2 := 87) dX12_lightOfGlaze_86 rfl rfl rfl ?_
              refine pb_getf (pc2 := 90) flX12_41_X12 rfl dX12_lightOfGlaze_87 (by first | assumption | exact hR.a rfl | exact hR.o | exact hC.a rfl) rfl rfl ?_
              refine pb_iload_n (pc2 := 91) dX12_lightOfGlaze_90 rfl rfl rfl ?_
              refine pb_iload (pc2 := 93) dX12_lightOfGlaze_91 rfl rfl ?_
              refine pb_iastC (pc2 := 94) hR rfl h32 dX12_lightOfGlaze_93 (by omega) rfl (fun h_ hR h32 hne2 => ?_)
              refine pb_iincP (c0 := 1) (lv2 := [_, _, _, _, _, _]) (pc2 := 97) dX12_lightOfGlaze_94 rfl (by decide) rfl rfl ?_
              refine pb_goto (tgt := 2) dX12_lightOfGlaze_97 (by decide) ?_
              refine ih (b + 1) _ _ _ _ (by omega) (by omega) hR h32 (fun i hi => ?_) (fun i hi => (hne2 i hi).trans (hne i hi))
              unfold pb_un
              by_cases e : i = b
              · rw [if_pos e, e, List.take_of_length_le (by omega)]
              · rw [if_neg e]; exact hF i (by omega)
            · have hGk := hG k c
              have hLk := hL k c
              have hks := w.ks (t := G k / 3) (b := b) (by omega) q
              have hv := gl_L_le A b (L.take k) g hg
              have hth := gl_th_le (G k % 3)
              have enext : gl_L A g (L.take (k + 1)) b = gl_1 A b (gl_L A g (L.take k) b) (G k) := by
                unfold gl_L
                rw [List.take_succ_eq_append_getElem (by omega), List.foldl_append, hGk, gl_getD (by omega)]
                rfl
              refine pb_aload_n (pc2 := 21) dX12_lightOfGlaze_20 rfl rfl rfl ?_
              refine pb_getf (pc2 := 24) flX12_13_X12 rfl dX12_lightOfGlaze_21 (by first | assumption | exact hR.a rfl | exact hR.o | exact hC.a rfl) rfl rfl ?_
              refine pb_bipush (x := nI 8) (pc2 := 26) dX12_lightOfGlaze_24 (by decide) rfl ?_
              refine pb_aload_n (pc2 := 27) dX12_lightOfGlaze_26 rfl rfl rfl ?_
              refine pb_getf (pc2 := 30) flX12_83_X12 rfl dX12_lightOfGlaze_27 (by first | assumption | exact hR.a rfl | exact hR.o | exact hC.a rfl) rfl rfl ?_
              refine pb_iload (pc2 := 32) dX12_lightOfGlaze_30 rfl rfl ?_
              refine pb_iald (pc2 := 33) (by first | assumption | exact hR.a rfl | exact hR.o | exact hC.a rfl) ⟨by decide, rfl⟩ dX12_lightOfGlaze_32 (by omega) (by omega) rfl ?_
              refine pb_iconst (x := nI 3) (pc2 := 34) dX12_lightOfGlaze_33 (by decide) rfl ?_
              refine pb_idivN (pc2 := 35) dX12_lightOfGlaze_34 (by omega) (by omega) (by omega) rfl ?_
              refine pb_imulN (pc2 := 36) dX12_lightOfGlaze_35 rfl ?_
              refine pb_iload_n (pc2 := 37) dX12_lightOfGlaze_36 rfl rfl rfl ?_
              refine pb_iaddN (pc2 := 38) dX12_lightOfGlaze_37 rfl ?_
              refine pb_iald (pc2 := 39) (by first | assumption | exact hR.a rfl | exact hR.o | exact hC.a rfl) ⟨by decide, rfl⟩ dX12_lightOfGlaze_38 (by omega) (by omega) rfl ?_
              refine pb_i2lN (pc2 := 40) dX12_lightOfGlaze_39 (by omega) rfl ?_
              refine pb_aload_n (pc2 := 41) dX12_lightOfGlaze_40 rfl rfl rfl ?_
              refine pb_getf (pc2 := 44) flX12_17_X12 rfl dX12_lightOfGlaze_41 (by first | assumption | exact hR.a rfl | exact hR.o | exact hC.a rfl) rfl rfl ?_
              refine pb_bipush (x := nI 8) (pc2 := 46) dX12_lightOfGlaze_44 (by decide) rfl ?_
              refine pb_aload_n (pc2 := 47) dX12_lightOfGlaze_46 rfl rfl rfl ?_
              refine pb_getf (pc2 := 50) flX12_83_X12 rfl dX12_lightOfGlaze_47 (by first | assumption | exact hR.a rfl | exact hR.o | exact hC.a rfl) rfl rfl ?_
              refine pb_iload (pc2 := 52) dX12_lightOfGlaze_50 rfl rfl ?_
              refine pb_iald (pc2 := 53) (by first | assumption | exact hR.a rfl | exact hR.o | exact hC.a rfl) ⟨by decide, rfl⟩ dX12_lightOfGlaze_52 (by omega) (by omega) rfl ?_
              refine pb_iconst (x := nI 3) (pc2 := 54) dX12_lightOfGlaze_53 (by decide) rfl ?_
              refine pb_idivN (pc2 := 55) dX12_lightOfGlaze_54 (by omega) (by omega) (by omega) rfl ?_
              refine pb_imulN (pc2 := 56) dX12_lightOfGlaze_55 rfl ?_
              refine pb_iload_n (pc2 := 57) dX12_lightOfGlaze_56 rfl rfl rfl ?_
              refine pb_iaddN (pc2 := 58) dX12_lightOfGlaze_57 rfl ?_
              refine pb_iald (pc2 := 59) (by first | assumption | exact hR.a rfl | exact hR.o | exact hC.a rfl) ⟨by decide, rfl⟩ dX12_lightOfGlaze_58 (by omega) (by omega) rfl ?_
              refine pb_i2lN (pc2 := 60) dX12_lightOfGlaze_59 (by omega) rfl ?_
              refine pb_gets (pc2 := 63) rfl slX12_213 dX12_lightOfGlaze_60 rfl ?_
              refine pb_aload_n (pc2 := 64) dX12_lightOfGlaze_63 rfl rfl rfl ?_
              refine pb_getf (pc2 := 67) flX12_83_X12 rfl dX12_lightOfGlaze_64 (by first | assumption | exact hR.a rfl | exact hR.o | exact hC.a rfl) rfl rfl ?_
              refine pb_iload (pc2 := 69) dX12_lightOfGlaze_67 rfl rfl ?_
              refine pb_iald (pc2 := 70) (by first | assumption | exact hR.a rfl | exact hR.o | exact hC.a rfl) ⟨by decide, rfl⟩ dX12_lightOfGlaze_69 (by omega) (by omega) rfl ?_
              refine pb_iconst (x := nI 3) (pc2 := 71) dX12_lightOfGlaze_70 (by decide) rfl ?_
              refine pb_iremN (pc2 := 72) dX12_lightOfGlaze_71 (by omega) (by omega) (by omega) rfl ?_
              refine pb_iald (pc2 := 73) (by first | assumption | exact hR.a rfl | exact hR.o | exact hC.a rfl) ⟨by decide, rfl⟩ dX12_lightOfGlaze_72 (by omega) (by omega) rfl ?_
              refine pb_iload (pc2 := 75) dX12_lightOfGlaze_73 rfl rfl ?_
              refine pb_callS (pc2 := 78) (k2 := 0) (n2 := 0) mwX12_layerBy swX12_layerBy rfl mlX12_169 dX12_lightOfGlaze_75 (t_layerBy (kk := A 7 (8 * (G k / 3) + b)) (s := A 8 (8 * (G k / 3) + b)) (by omega) (by omega) (by omega) hv) (by omega) (by omega) (by omega) rfl rfl (Nat.le_of_ble_eq_true rfl) rfl (pb_kE ?_)
              refine pb_top (v2 := .int (nI (gl_L A g (L.take (k + 1)) b))) (by rw [enext]; rfl) ?_
              refine pb_istore (lv2 := [_, _, _, _, _, _]) (pc2 := 80) dX12_lightOfGlaze_78 (by decide) rfl rfl ?_
              refine pb_iincP (c0 := 1) (lv2 := [_, _, _, _, _, _]) (pc2 := 83) dX12_lightOfGlaze_80 rfl (by decide) rfl rfl ?_
              refine pb_goto (tgt := 14) dX12_lightOfGlaze_83 (by decide) ?_
              exact ih2 (k + 1) (by omega) (by omega)
        refine pb_iload_n (pc2 := 9) dX12_lightOfGlaze_8 rfl rfl rfl ?_
        refine pb_istore (lv2 := [_, _, _, _, _, _]) (pc2 := 11) dX12_lightOfGlaze_9 (by decide) rfl rfl ?_
        refine pb_iconst (x := nI 0) (pc2 := 12) dX12_lightOfGlaze_11 (by decide) rfl ?_
        refine pb_istore (lv2 := [_, _, _, _, _, _]) (pc2 := 14) dX12_lightOfGlaze_12 (by decide) rfl rfl ?_
        exact inner (n + 1) 0 (by omega) (by omega)
  obtain ⟨F, h32⟩ := hR.2.2.1 32 8 rfl
  refine pb_iconst (x := nI 0) (pc2 := 1) dX12_lightOfGlaze_0 (by decide) rfl ?_
  refine pb_istore_n (lv2 := [_, _, _, _, _, _]) (pc2 := 2) dX12_lightOfGlaze_1 rfl (by decide) rfl rfl ?_
  exact outer 9 0 F h _ _ (by omega) (by omega) hR h32 (fun b hb => by omega) (fun _ _ => rfl)
set_option maxRecDepth 10000 in
theorem t_misGlaze {G : Nat → Nat} {L : List Nat} {n s x : Nat} (hR : pb_RF A h0 h) (h48 : h 48 = some (.inl (0, 3, fun j => nI (G j)))) (hn : L.length = n) (hn3 : n < 3) (hG : ∀ j, j < n → G j = L.getD j 0) (hL : ∀ j, j < n → L.getD j 0 < 36) (hx : G n = x) (hx2 : x < 36) (hs : s < 4096) : pb_T Z mX12_isGlaze 0 0 0 [.ref 20, .int (nI n), .int (nI s)] h (pb_B (gl_ok s L x = true) h) := by
  refine pb_T.of pnX12_isGlaze (Nat.le_of_ble_eq_true rfl) (lv := [some (.ref 20), some (.int (nI n)), some (.int (nI s)), none, none]) rfl ?_
  have hbl := pb_bit_le s (x / 3)
  refine pb_aload_n (pc2 := 1) dX12_isGlaze_0 rfl rfl rfl ?_
  refine pb_getf (pc2 := 4) flX12_83_X12 rfl dX12_isGlaze_1 (by first | assumption | exact hR.a rfl | exact hR.o | exact hC.a rfl) rfl rfl ?_
  refine pb_iload_n (pc2 := 5) dX12_isGlaze_4 rfl rfl rfl ?_
  refine pb_iald (pc2 := 6) h48 ⟨by decide, rfl⟩ dX12_isGlaze_5 (by omega) (by omega) rfl ?_
  refine pb_top (v2 := .int (nI x)) (by rw [hx]) ?_
  refine pb_iconst (x := nI 3) (pc2 := 7) dX12_isGlaze_6 (by decide) rfl ?_
  refine pb_idivN (pc2 := 8) dX12_isGlaze_7 (by omega) (by omega) (by omega) rfl ?_
  refine pb_istore_n (lv2 := [_, _, _, _, _]) (pc2 := 9) dX12_isGlaze_8 rfl (by decide) rfl rfl ?_
  refine pb_iload_n (pc2 := 10) dX12_isGlaze_9 rfl rfl rfl ?_
  refine pb_iload_n (pc2 := 11) dX12_isGlaze_10 rfl rfl rfl ?_
  refine pb_ishrN (pc2 := 12) dX12_isGlaze_11 (by omega) (by omega) rfl ?_
  refine pb_iconst (x := nI 1) (pc2 := 13) dX12_isGlaze_12 (by decide) rfl ?_
  refine pb_iandB (pc2 := 14) dX12_isGlaze_13 rfl ?_
  refine pb_ifN_ne (tgt := 19) (pc2 := 17) dX12_isGlaze_14 (by decide) rfl (by omega) (fun c => ?_) (fun c => ?_)
  · have loop : ∀ (m k : Nat), n - k < m → k ≤ n → (∀ j, j < k → L.getD j 0 / 3 ≠ x / 3) → pb_S Z mX12_isGlaze 0 0 0 (pb_B (gl_ok s L x = true) h) 22 [some (.ref 20), some (.int (nI n)), some (.int (nI s)), some (.int (nI (x / 3))), some (.int (nI k))] [] h := by
      intro m
      induction m with
      | zero => intro k k1; omega
      | succ m ih =>
        intro k k1 k2 k3
        refine pb_iload (pc2 := 24) dX12_isGlaze_22 rfl rfl ?_
        refine pb_iload_n (pc2 := 25) dX12_isGlaze_24 rfl rfl rfl ?_
        refine pb_icmpN_ge (tgt := 49) (pc2 := 28) dX12_isGlaze_25 (by decide) rfl (by omega) (by omega) (fun q => ?_) (fun q => ?_)
        · refine pb_iconst (x := 1) (pc2 := 50) dX12_isGlaze_49 (by decide) rfl ?_
          have hok : gl_ok s L x = true := by
            unfold gl_ok
            have hb1 : s.testBit (x / 3) = true := pb_bit_1.mp (by omega)
            rw [hb1, Bool.true_and, List.all_eq_true]
            intro y hy
            obtain ⟨j, hj, rfl⟩ := List.mem_iff_getElem.mp hy
            have := k3 j (by omega)
            rw [gl_getD hj] at this
            simpa using this
          exact pb_zreturn dX12_isGlaze_50 rfl (by first | exact Or.inl rfl | exact Or.inr rfl | assumption) (⟨Or.inl ⟨rfl, hok⟩, rfl⟩)
        · have hGk := hG k (by omega)
          have hLk := hL k (by omega)
          refine pb_aload_n (pc2 := 29) dX12_isGlaze_28 rfl rfl rfl ?_
          refine pb_getf (pc2 := 32) flX12_83_X12 rfl dX12_isGlaze_29 (by first | assumption | exact hR.a rfl | exact hR.o | exact hC.a rfl) rfl rfl ?_
          refine pb_iload (pc2 := 34) dX12_isGlaze_32 rfl rfl ?_
          refine pb_iald (pc2 := 35) (by first | assumption | exact hR.a rfl | exact hR.o | exact hC.a rfl) ⟨by decide, rfl⟩ dX12_isGlaze_34 (by omega) (by omega) rfl ?_
          refine pb_iconst (x := nI 3) (pc2 := 36) dX12_isGlaze_35 (by decide) rfl ?_
          refine pb_idivN (pc2 := 37) dX12_isGlaze_36 (by omega) (by omega) (by omega) rfl ?_
          refine pb_iload_n (pc2 := 38) dX12_isGlaze_37 rfl rfl rfl ?_
          refine pb_icmpN_ne (tgt := 43) (pc2 := 41) dX12_isGlaze_38 (by decide) rfl (by omega) (by omega) (fun c2 => ?_) (fun c2 => ?_)
          · refine pb_iincP (c0 := 1) (lv2 := [_, _, _, _, _]) (pc2 := 46) dX12_isGlaze_43 rfl (by decide) rfl rfl ?_
            refine pb_goto (tgt := 22) dX12_isGlaze_46 (by decide) ?_
            refine ih (k + 1) (by omega) (by omega) (fun j hj => ?_)
            by_cases e : j = k
            · rw [e, ← hGk]; exact c2
            · exact k3 j (by omega)
          · refine pb_iconst (x := 0) (pc2 := 42) dX12_isGlaze_41 (by decide) rfl ?_
            have hok : ¬ gl_ok s L x = true := fun q3 => by
              unfold gl_ok at q3
              rw [Bool.and_eq_true, List.all_eq_true] at q3
              have := q3.2 (L.getD k 0) (by rw [gl_getD (by omega)]; exact List.getElem_mem _)
              rw [← hGk] at this
              simp only [bne_iff_ne] at this
              exact this c2
            exact pb_zreturn dX12_isGlaze_42 rfl (by first | exact Or.inl rfl | exact Or.inr rfl | assumption) (⟨Or.inr ⟨rfl, hok⟩, rfl⟩)
    refine pb_iconst (x := nI 0) (pc2 := 20) dX12_isGlaze_19 (by decide) rfl ?_
    refine pb_istore (lv2 := [_, _, _, _, _]) (pc2 := 22) dX12_isGlaze_20 (by decide) rfl rfl ?_
    exact loop (n + 1) 0 (by omega) (by omega) (fun j hj => by omega)
  · refine pb_iconst (x := 0) (pc2 := 18) dX12_isGlaze_17 (by decide) rfl ?_
    have hok : ¬ gl_ok s L x = true := fun q3 => by
      unfold gl_ok at q3
      rw [Bool.and_eq_true] at q3
      have := pb_bit_0.mp c
      rw [this] at q3
      cases q3.1
    exact pb_zreturn dX12_isGlaze_18 rfl (by first | exact Or.inl rfl | exact Or.inr rfl | assumption) (⟨Or.inr ⟨rfl, hok⟩, rfl⟩)
theorem gl_app {G : Nat → Nat} {L : List Nat} {n x : Nat} (hn : L.length = n) (hG : ∀ j, j < n → G j = L.getD j 0) (hx : G n = x) : ∀ j, j < n + 1 → G j = (L ++ [x]).getD j 0 := by
  intro j hj
  rw [gl_getD (by rw [List.length_append]; show j < L.length + 1; omega)]
  by_cases e : j = n
  · subst e
    rw [hx, List.getElem_append_right (by omega)]
    simp [hn]
  · rw [List.getElem_append_left (by omega), hG j (by omega), gl_getD (by omega)]
theorem gl_app2 {L : List Nat} {n x : Nat} (hn : L.length = n) : (∀ j, j < n → (L ++ [x]).getD j 0 = L.getD j 0) ∧ (L ++ [x]).getD n 0 = x := by
  have := gl_app (G := fun j => if j = n then x else L.getD j 0) hn (fun j hj => if_neg (by omega)) (if_pos rfl)
  refine ⟨fun j hj => ?_, ?_⟩
  · rw [← this j (by omega), if_neg (by omega)]
  · rw [← this n (by omega), if_pos rfl]
theorem pb_wf_id (A : pb_A) (f : Nat) : pb_wf A f (A f) = A := by
  funext f' j
  unfold pb_wf
  by_cases e : f' = f
  · rw [if_pos e, e]
  · rw [if_neg e]
set_option maxRecDepth 10000 in
theorem w_mglaze {l s g many : Nat} {post : Option Value → pb_H → Prop} (w : pb_WF A) (hT : pb_TH h0) (hl : l < 4) (hs : s < 4096) (hst : ∀ t, A 1 0 ≤ t → s.testBit t = false) (hg : g ≤ 10000) (hm : many ≤ 3) : ∀ (d n : Nat), n + d + 1 = many → ∀ (L : List Nat), L.length = n → (∀ j, j < n → L.getD j 0 < 3 * A 1 0) → ∀ (m x b c : Nat) (F G : Nat → Nat) (h' : pb_H) (o7 o8 : Option Value), 3 * A 1 0 - x < m → x ≤ 3 * A 1 0 → pb_RF (sp_G A c F) h0 h' → h' 48 = some (.inl (0, 3, fun j => nI (G j))) → (∀ j, j < n → G j = L.getD j 0) → G n = (if x = 0 then 4294967295 else x - 1) → b ≤ 30000 → c ≤ 3 → (∀ i, i < 3 → F i ≤ 200) → (∀ (b' c' : Nat) (F' G' : Nat → Nat) (h2 : pb_H) (o7 o8 : Option Value), pb_RF (sp_G A c' F') h0 h2 → h2 48 = some (.inl (0, 3, fun j => nI (G' j))) → (∀ j, j < n → G' j = L.getD j 0) → b' ≤ 30000 → c' ≤ 3 → (∀ i, i < 3 → F' i ≤ 200) → (gl_pt s d L x).foldl (sp_gst A l g) (b, c, F) = (b', c', F') → pb_S Z mX12_glaze 4 0 0 post 83 [some (.ref 20), some (.int (nI l)), some (.int (nI s)), some (.int (nI g)), some (.int (nI b')), some (.int (nI many)), some (.int (nI n - nI 1)), o7, o8] [] h2) → pb_S Z mX12_glaze 4 0 0 post 83 [some (.ref 20), some (.int (nI l)), some (.int (nI s)), some (.int (nI g)), some (.int (nI b)), some (.int (nI many)), some (.int (nI n)), o7, o8] [] h' := by
  have htt := w.tubes
  have g0 := w.tone (i := 0) (by omega)
  have g1 := w.tone (i := 1) (by omega)
  have g2 := w.tone (i := 2) (by omega)
  intro d
  induction d using Nat.strongRecOn with
  | ind d ihd =>
    intro n hnd L hLn hL m
    induction m with
    | zero => intro x b c F G h' o7 o8 k1; omega
    | succ m ih =>
      intro x b c F G h' o7 o8 k1 k2 hR h48 hG hGn hb hc hF K
      have ex : nI (G n + 1) = nI x := by
        by_cases e : x = 0
        · rw [hGn, if_pos e, e]; decide
        · rw [hGn, if_neg e, Nat.sub_add_cancel (by omega)]
      refine pb_iload (pc2 := 85) dX12_glaze_83 rfl rfl ?_
      refine pb_ifF_lt (tgt := 261) (pc2 := 88) dX12_glaze_85 (Int32.not_lt.mpr (nI_pos' (by omega))) rfl (by decide) ?_
      refine pb_aload_n (pc2 := 89) dX12_glaze_88 rfl rfl rfl ?_
      refine pb_getf (pc2 := 92) flX12_83_X12 rfl dX12_glaze_89 (by first | assumption | exact hR.a rfl | exact hR.o | exact hC.a rfl) rfl rfl ?_
      refine pb_iload (pc2 := 94) dX12_glaze_92 rfl rfl ?_
      refine pb_dup2 (pc2 := 95) dX12_glaze_94 rfl rfl rfl ?_
      refine pb_iald (pc2 := 96) (by first | assumption | exact hR.a rfl | exact hR.o | exact hC.a rfl) ⟨by decide, rfl⟩ dX12_glaze_95 (by omega) (by omega) rfl ?_
      refine pb_iconst (x := nI 1) (pc2 := 97) dX12_glaze_96 (by decide) rfl ?_
      refine pb_iaddN (pc2 := 98) dX12_glaze_97 rfl ?_
      refine pb_top (v2 := .int (nI x)) (by rw [ex]) ?_
      refine pb_iastC (pc2 := 99) hR rfl h48 dX12_glaze_98 (by omega) rfl (fun h2 hR h48 _ => ?_)
      have hG2 : ∀ j, j < n → pb_un G n x j = L.getD j 0 := fun j hj => by rw [pb_un_ne _ _ (by omega)]; exact hG j hj
      have hG2n := pb_un_self G n x
      refine pb_aload_n (pc2 := 100) dX12_glaze_99 rfl rfl rfl ?_
      refine pb_getf (pc2 := 103) flX12_83_X12 rfl dX12_glaze_100 (by first | assumption | exact hR.a rfl | exact hR.o | exact hC.a rfl) rfl rfl ?_
      refine pb_iload (pc2 := 105) dX12_glaze_103 rfl rfl ?_
      refine pb_iald (pc2 := 106) (by first | assumption | exact hR.a rfl | exact hR.o | exact hC.a rfl) ⟨by decide, rfl⟩ dX12_glaze_105 (by omega) (by omega) rfl ?_
      refine pb_top (v2 := .int (nI x)) (by rw [hG2n]) ?_
      refine pb_iconst (x := nI 3) (pc2 := 107) dX12_glaze_106 (by decide) rfl ?_
      refine pb_aload_n (pc2 := 108) dX12_glaze_107 rfl rfl rfl ?_
      refine pb_getf (v := .int (nI (A 1 0))) (pc2 := 111) flX12_92_X12 rfl dX12_glaze_108 (by first | assumption | exact hR.a rfl | exact hR.o | exact hC.a rfl) rfl rfl ?_
      refine pb_imulN (pc2 := 112) dX12_glaze_111 rfl ?_
      refine pb_icmpN_ne (tgt := 121) (pc2 := 115) dX12_glaze_112 (by decide) rfl (by omega) (by omega) (fun c1 => ?_) (fun c1 => ?_)
      · have hx : x < 3 * A 1 0 := by omega
        have goon : ∀ (b' c' : Nat) (F' G' : Nat → Nat) (h2 : pb_H) (o7 o8 : Option Value), pb_RF (sp_G A c' F') h0 h2 → h2 48 = some (.inl (0, 3, fun j => nI (G' j))) → (∀ j, j < n → G' j = L.getD j 0) → G' n = x → b' ≤ 30000 → c' ≤ 3 → (∀ i, i < 3 → F' i ≤ 200) → (if gl_ok s L x then gl_e s d (L ++ [x]) else []).foldl (sp_gst A l g) (b, c, F) = (b', c', F') → pb_S Z mX12_glaze 4 0 0 post 83 [some (.ref 20), some (.int (nI l)), some (.int (nI s)), some (.int (nI g)), some (.int (nI b')), some (.int (nI many)), some (.int (nI n)), o7, o8] [] h2 := by
          intro b' c' F' G' h2 o7 o8 hR h48 hG hGn hb hc hF e
          refine ih (x + 1) b' c' F' G' h2 o7 o8 (by omega) (by omega) hR h48 hG (by rw [if_neg (by omega)]; exact hGn) hb hc hF (fun b2 c2 F2 G2 h3 o7 o8 hR h48 hG hb hc hF e2 => ?_)
          exact K b2 c2 F2 G2 h3 o7 o8 hR h48 hG hb hc hF (by rw [gl_pt_s (by omega), List.foldl_append, e]; exact e2)
        refine pb_aload_n (pc2 := 122) dX12_glaze_121 rfl rfl rfl ?_
        refine pb_iload (pc2 := 124) dX12_glaze_122 rfl rfl ?_
        refine pb_iload_n (pc2 := 125) dX12_glaze_124 rfl rfl rfl ?_
        refine pb_callV (pc2 := 128) (k2 := 0) (n2 := 0) mwX12_isGlaze pb_cl10.1 iwX12_isGlaze seX12_isGlaze rfl mlX12_219 dX12_glaze_125 (by first | assumption | exact hR.a rfl | exact hR.o | exact hC.a rfl) (t_misGlaze hR h48 hLn (by omega) hG2 (fun j hj => by have := hL j hj; omega) hG2n (by omega) hs) (by omega) (by omega) (by omega) rfl rfl (Nat.le_of_ble_eq_true rfl) rfl (pb_kB (fun q => ?_) (fun q => ?_))
        · refine pb_ifT_ne (tgt := 134) dX12_glaze_128 (by decide) (by decide) ?_
          refine pb_iload (pc2 := 136) dX12_glaze_134 rfl rfl ?_
          refine pb_iload (pc2 := 138) dX12_glaze_136 rfl rfl ?_
          refine pb_iconst (x := nI 1) (pc2 := 139) dX12_glaze_138 (by decide) rfl ?_
          refine pb_isubN (pc2 := 140) dX12_glaze_139 (by omega) rfl ?_
          refine pb_icmpN_ge (tgt := 157) (pc2 := 143) dX12_glaze_140 (by decide) rfl (by omega) (by omega) (fun c2 => ?_) (fun c2 => ?_)
          · -- a whole stack
            have hd0 : d = 0 := by omega
            subst hd0
            have hn1 : n + 1 = many := by omega
            subst hn1
            have hw := w.G hc hF
            have hlen : (L ++ [x]).length = n + 1 := by rw [List.length_append]; show L.length + 1 = _; omega
            have hG3 := gl_app hLn hG2 hG2n
            have hL3 : ∀ j, j < n + 1 → (L ++ [x]).getD j 0 < 3 * A 1 0 := fun j hj => by
              by_cases e : j = n
              · rw [e, (gl_app2 hLn).2]; exact hx
              · rw [(gl_app2 hLn).1 j (by omega)]; exact hL j (by omega)
            have hvl := gl_v_le w l (L ++ [x]) hg
            have hT2 : pb_TH h2 := by rw [pb_TH, hR.2.2.2 1 (by omega)]; exact hT
            refine pb_aload_n (pc2 := 158) dX12_glaze_157 rfl rfl rfl ?_
            refine pb_iload (pc2 := 160) dX12_glaze_158 rfl rfl ?_
            refine pb_iload_n (pc2 := 161) dX12_glaze_160 rfl rfl rfl ?_
            refine pb_callV (pc2 := 164) (k2 := 0) (n2 := 0) mwX12_lightOfGlaze pb_cl10.1 iwX12_lightOfGlaze seX12_lightOfGlaze rfl mlX12_216 dX12_glaze_161 (by first | assumption | exact hR.a rfl | exact hR.o | exact hC.a rfl) (t_mlightOfGlaze hw hR hT2 h48 hlen (by omega) hG3 hL3 hg) (by omega) (by omega) (by omega) rfl rfl (Nat.le_of_ble_eq_true rfl) rfl (pb_kL2 (fun h3 E hR h32 hE hne => ?_))
            have h48 : h3 48 = some (.inl (0, 3, fun j => nI (pb_un G n x j))) := by rw [hne 48 (by decide)]; exact h48
            refine pb_aload_n (pc2 := 165) dX12_glaze_164 rfl rfl rfl ?_
            refine pb_aload_n (pc2 := 166) dX12_glaze_165 rfl rfl rfl ?_
            refine pb_getf (pc2 := 169) flX12_68_X12 rfl dX12_glaze_166 (by first | assumption | exact hR.a rfl | exact hR.o | exact hC.a rfl) rfl rfl ?_
            refine pb_iconst (x := nI 0) (pc2 := 170) dX12_glaze_169 (by decide) rfl ?_
            refine pb_iald (pc2 := 171) (by first | assumption | exact hR.a rfl | exact hR.o | exact hC.a rfl) ⟨by decide, rfl⟩ dX12_glaze_170 (by omega) (by omega) rfl ?_
            refine pb_aload_n (pc2 := 172) dX12_glaze_171 rfl rfl rfl ?_
            refine pb_getf (pc2 := 175) flX12_68_X12 rfl dX12_glaze_172 (by first | assumption | exact hR.a rfl | exact hR.o | exact hC.a rfl) rfl rfl ?_
            refine pb_iconst (x := nI 1) (pc2 := 176) dX12_glaze_175 (by decide) rfl ?_
            refine pb_iald (pc2 := 177) (by first | assumption | exact hR.a rfl | exact hR.o | exact hC.a rfl) ⟨by decide, rfl⟩ dX12_glaze_176 (by omega) (by omega) rfl ?_
            refine pb_aload_n (pc2 := 178) dX12_glaze_177 rfl rfl rfl ?_
            refine pb_getf (pc2 := 181) flX12_68_X12 rfl dX12_glaze_178 (by first | assumption | exact hR.a rfl | exact hR.o | exact hC.a rfl) rfl rfl ?_
            refine pb_iconst (x := nI 2) (pc2 := 182) dX12_glaze_181 (by decide) rfl ?_
            refine pb_iald (pc2 := 183) (by first | assumption | exact hR.a rfl | exact hR.o | exact hC.a rfl) ⟨by decide, rfl⟩ dX12_glaze_182 (by omega) (by omega) rfl ?_
            refine pb_iload_n (pc2 := 184) dX12_glaze_183 rfl rfl rfl ?_
            refine pb_callV (pc2 := 187) (k2 := 0) (n2 := 0) mwX12_apartFrom pb_cl10.1 iwX12_apartFrom seX12_apartFrom rfl mlX12_183 dX12_glaze_184 (by first | assumption | exact hR.a rfl | exact hR.o | exact hC.a rfl) (t_mapartFrom hw hR hl g0 g1 g2 (fun b hb => by rw [hE b hb]; exact gl_L_le _ _ _ _ hg) h32) (by omega) (by omega) (by omega) rfl rfl (Nat.le_of_ble_eq_true rfl) rfl (pb_kE ?_)
            refine pb_top (v2 := .int (nI (gl_v A l g (L ++ [x])))) (by rw [pb_far_congr hE]; rfl) ?_
            refine pb_istore (lv2 := [_, _, _, _, _, _, _, _, _]) (pc2 := 189) dX12_glaze_187 (by decide) rfl rfl ?_
            refine pb_iload (pc2 := 191) dX12_glaze_189 rfl rfl ?_
            refine pb_iload (pc2 := 193) dX12_glaze_191 rfl rfl ?_
            refine pb_icmpN_lt (tgt := 199) (pc2 := 196) dX12_glaze_193 (by decide) rfl (by omega) (by omega) (fun c3 => ?_) (fun c3 => ?_)
            · have emst : sp_gst A l g (b, c, F) (L ++ [x]) = (gl_v A l g (L ++ [x]), n + 1, fun k => if k < n + 1 then gl_c ((L ++ [x]).getD k 0) else F k) := by
                unfold sp_gst
                rw [if_pos (show gl_v A l g (L ++ [x]) < (b, c, F).1 from c3), hlen]
              refine pb_iload (pc2 := 201) dX12_glaze_199 rfl rfl ?_
              refine pb_istore (lv2 := [_, _, _, _, _, _, _, _, _]) (pc2 := 203) dX12_glaze_201 (by decide) rfl rfl ?_
              refine pb_aload_n (pc2 := 204) dX12_glaze_203 rfl rfl rfl ?_
              refine pb_iload (pc2 := 206) dX12_glaze_204 rfl rfl ?_
              refine pb_putR2 (pc2 := 209) hR flX12_77_X12 rfl dX12_glaze_206 rfl rfl rfl 21 (fun _ => n + 1) (by omega) rfl rfl (fun h4 hR hne => ?_)
              rw [sp_G_21] at hR
              have h48 : h4 48 = some (.inl (0, 3, fun j => nI (pb_un G n x j))) := by rw [hne 48 (by decide)]; exact h48
              have copy : ∀ (m i : Nat) (F2 : Nat → Nat) (h' : pb_H), n + 1 - i < m → i ≤ n + 1 → pb_RF (sp_G A (n + 1) F2) h0 h' → h' 48 = some (.inl (0, 3, fun j => nI (pb_un G n x j))) → (∀ t, F2 t = if t < i then gl_c ((L ++ [x]).getD t 0) else F t) → pb_S Z mX12_glaze 4 0 0 post 212 [some (.ref 20), some (.int (nI l)), some (.int (nI s)), some (.int (nI g)), some (.int (nI (gl_v A l g (L ++ [x])))), some (.int (nI (n + 1))), some (.int (nI n)), some (.int (nI (gl_v A l g (L ++ [x])))), some (.int (nI i))] [] h' := by
                intro m
                induction m with
                | zero => intro i F2 h' k1; omega
                | succ m ih =>
                  intro i F2 h' k1 k2 hR h48 hF2
                  have hT2 : h' 1 = some (.inl (3, 3, fun j => nI (gl_th j))) := by rw [hR.2.2.2 1 (by omega)]; exact hT
                  refine pb_iload (pc2 := 214) dX12_glaze_212 rfl rfl ?_
                  refine pb_iload (pc2 := 216) dX12_glaze_214 rfl rfl ?_
                  refine pb_icmpN_ge (tgt := 258) (pc2 := 219) dX12_glaze_216 (by decide) rfl (by omega) (by omega) (fun q2 => ?_) (fun q2 => ?_)
                  · have e : i = n + 1 := by omega
                    subst e
                    have e2 : F2 = fun t => if t < n + 1 then gl_c ((L ++ [x]).getD t 0) else F t := funext hF2
                    refine pb_goto (tgt := 83) dX12_glaze_258 (by decide) ?_
                    refine goon _ _ F2 _ _ _ _ hR h48 hG2 hG2n hvl (by omega) (fun t ht => ?_) ?_
                    · rw [hF2 t]
                      by_cases e3 : t < n + 1
                      · rw [if_pos e3]
                        have h1 := hL3 t e3
                        have h2 := gl_th_le ((L ++ [x]).getD t 0 % 3)
                        unfold gl_c
                        omega
                      · rw [if_neg e3]; exact hF t ht
                    · rw [if_pos q, e2]
                      exact emst
                  · have h1 := hL3 i q2
                    have h3 := hG3 i q2
                    refine pb_aload_n (pc2 := 220) dX12_glaze_219 rfl rfl rfl ?_
                    refine pb_getf (pc2 := 223) flX12_80_X12 rfl dX12_glaze_220 (by first | assumption | exact hR.a rfl | exact hR.o | exact hC.a rfl) rfl rfl ?_
                    refine pb_iload (pc2 := 225) dX12_glaze_223 rfl rfl ?_
                    refine pb_bipush (x := nI 10) (pc2 := 227) dX12_glaze_225 (by decide) rfl ?_
                    refine pb_aload_n (pc2 := 228) dX12_glaze_227 rfl rfl rfl ?_
                    refine pb_getf (pc2 := 231) flX12_83_X12 rfl dX12_glaze_228 (by first | assumption | exact hR.a rfl | exact hR.o | exact hC.a rfl) rfl rfl ?_
                    refine pb_iload (pc2 := 233) dX12_glaze_231 rfl rfl ?_
                    refine pb_iald (pc2 := 234) (by first | assumption | exact hR.a rfl | exact hR.o | exact hC.a rfl) ⟨by decide, rfl⟩ dX12_glaze_233 (by omega) (by omega) rfl ?_
                    refine pb_iconst (x := nI 3) (pc2 := 235) dX12_glaze_234 (by decide) rfl ?_
                    refine pb_idivN (pc2 := 236) dX12_glaze_235 (by omega) (by omega) (by omega) rfl ?_
                    refine pb_imulN (pc2 := 237) dX12_glaze_236 rfl ?_
                    refine pb_gets (pc2 := 240) rfl slX12_213 dX12_glaze_237 rfl ?_
                    refine pb_aload_n (pc2 := 241) dX12_glaze_240 rfl rfl rfl ?_
                    refine pb_getf (pc2 := 244) flX12_83_X12 rfl dX12_glaze_241 (by first | assumption | exact hR.a rfl | exact hR.o | exact hC.a rfl) rfl rfl ?_
                    refine pb_iload (pc2 := 246) dX12_glaze_244 rfl rfl ?_
                    refine pb_iald (pc2 := 247) (by first | assumption | exact hR.a rfl | exact hR.o | exact hC.a rfl) ⟨by decide, rfl⟩ dX12_glaze_246 (by omega) (by omega) rfl ?_
                    refine pb_iconst (x := nI 3) (pc2 := 248) dX12_glaze_247 (by decide) rfl ?_
                    refine pb_iremN (pc2 := 249) dX12_glaze_248 (by omega) (by omega) (by omega) rfl ?_
                    refine pb_iald (pc2 := 250) (by first | assumption | exact hR.a rfl | exact hR.o | exact hC.a rfl) ⟨by decide, rfl⟩ dX12_glaze_249 (by omega) (by omega) rfl ?_
                    refine pb_iaddN (pc2 := 251) dX12_glaze_250 rfl ?_
                    refine pb_iastR2 (v := gl_c (pb_un G n x i)) (pc2 := 252) hR rfl dX12_glaze_251 (by omega) rfl (fun h5 hR hne => ?_)
                    rw [sp_G_23] at hR
                    refine pb_iincP (c0 := 1) (lv2 := [_, _, _, _, _, _, _, _, _]) (pc2 := 255) dX12_glaze_252 rfl (by decide) rfl rfl ?_
                    refine pb_goto (tgt := 212) dX12_glaze_255 (by decide) ?_
                    refine ih (i + 1) _ _ (by omega) (by omega) hR (by rw [hne 48 (by decide)]; exact h48) (fun t => ?_)
                    by_cases e : t = i
                    · rw [e, pb_un_self, if_pos (by omega), h3]
                    · rw [pb_un_ne _ _ e, hF2 t]
                      by_cases e2 : t < i
                      · rw [if_pos e2, if_pos (by omega)]
                      · rw [if_neg e2, if_neg (by omega)]
              refine pb_iconst (x := nI 0) (pc2 := 210) dX12_glaze_209 (by decide) rfl ?_
              refine pb_istore (lv2 := [_, _, _, _, _, _, _, _, _]) (pc2 := 212) dX12_glaze_210 (by decide) rfl rfl ?_
              exact copy (n + 2) 0 F _ (by omega) (by omega) hR h48 (fun t => by rw [if_neg (by omega)])
            · refine pb_goto (tgt := 83) dX12_glaze_196 (by decide) ?_
              refine goon _ _ _ _ _ _ _ hR h48 hG2 hG2n hb hc hF ?_
              rw [if_pos q]
              exact if_neg (by show ¬ _ < b; omega)
          · -- one more
            refine pb_iincP (c0 := 1) (lv2 := [_, _, _, _, _, _, _, _, _]) (pc2 := 146) dX12_glaze_143 rfl (by decide) rfl rfl ?_
            refine pb_aload_n (pc2 := 147) dX12_glaze_146 rfl rfl rfl ?_
            refine pb_getf (pc2 := 150) flX12_83_X12 rfl dX12_glaze_147 (by first | assumption | exact hR.a rfl | exact hR.o | exact hC.a rfl) rfl rfl ?_
            refine pb_iload (pc2 := 152) dX12_glaze_150 rfl rfl ?_
            refine pb_iconst (x := -1) (pc2 := 153) dX12_glaze_152 (by decide) rfl ?_
            refine pb_top (v2 := .int (nI 4294967295)) (by decide) ?_
            refine pb_iastC (pc2 := 154) hR rfl h48 dX12_glaze_153 (by omega) rfl (fun h3 hR h48 _ => ?_)
            refine pb_goto (tgt := 83) dX12_glaze_154 (by decide) ?_
            have hG3 : ∀ j, j < n + 1 → pb_un (pb_un G n x) (n + 1) 4294967295 j = (L ++ [x]).getD j 0 := fun j hj => by rw [pb_un_ne _ _ (by omega)]; exact gl_app hLn hG2 hG2n j hj
            have hlen : (L ++ [x]).length = n + 1 := by rw [List.length_append]; show L.length + 1 = _; omega
            have hL3 : ∀ j, j < n + 1 → (L ++ [x]).getD j 0 < 3 * A 1 0 := fun j hj => by
              by_cases e : j = n
              · rw [e, (gl_app2 hLn).2]; exact hx
              · rw [(gl_app2 hLn).1 j (by omega)]; exact hL j (by omega)
            refine ihd (d - 1) (by omega) (n + 1) (by omega) (L ++ [x]) hlen hL3 (3 * A 1 0 + 1) 0 b c F _ h3 o7 o8 (by omega) (by omega) hR h48 hG3 (by rw [pb_un_self, if_pos rfl]) hb hc hF (fun b2 c2 F2 G2 h4 o7 o8 hR h48 hG hb hc hF e2 => ?_)
            rw [nI_sub (show 1 ≤ n + 1 by omega), Nat.add_sub_cancel]
            refine goon b2 c2 F2 G2 h4 o7 o8 hR h48 (fun j hj => by rw [hG j (by omega), (gl_app2 hLn).1 j hj]) (by rw [hG n (by omega), (gl_app2 hLn).2]) hb hc hF ?_
            rw [if_pos q, ← e2]
            obtain ⟨d', rfl⟩ : ∃ d', d = d' + 1 := ⟨d - 1, by omega⟩
            rfl
        · refine pb_ifF_ne (tgt := 134) (pc2 := 131) dX12_glaze_128 (rfl) rfl (by decide) ?_
          refine pb_goto (tgt := 83) dX12_glaze_131 (by decide) ?_
          refine goon b c F _ _ _ _ hR h48 hG2 hG2n hb hc hF ?_
          rw [if_neg q]
          rfl
      · have hx : x = 3 * A 1 0 := c1
        refine pb_iinc (v := nI n - nI 1) (lv2 := [_, _, _, _, _, _, _, _, _]) (pc2 := 118) dX12_glaze_115 rfl (pb_m1 _) (by decide) rfl rfl ?_
        refine pb_goto (tgt := 83) dX12_glaze_118 (by decide) ?_
        exact K b c F _ _ _ _ hR h48 hG2 hb hc hF (by rw [gl_pt_nil hst (by omega)]; rfl)
set_option maxRecDepth 10000 in
theorem r_glaze (w : pb_WF A) (hR : pb_RF A h h) (hT : pb_TH h) (l s g : Int32) : pb_T Z mX12_glaze 4 0 0 [.ref 20, .int l, .int s, .int g] h (pb_PR (sp_glaze A l s g) h) := by
  have htt := w.tubes
  have g0 := w.tone (i := 0) (by omega)
  have g1 := w.tone (i := 1) (by omega)
  have g2 := w.tone (i := 2) (by omega)
  refine pb_T.of pnX12_glaze (Nat.le_of_ble_eq_true rfl) (lv := [some (.ref 20), some (.int l), some (.int s), some (.int g), none, none, none, none, none]) rfl ?_
  refine pb_iload_n (pc2 := 1) dX12_glaze_0 rfl rfl rfl ?_
  refine pb_callS (pc2 := 4) (k2 := 0) (n2 := 0) mwX12_isLamp swX12_isLamp rfl mlX12_114 dX12_glaze_1 (t_misLamp l) (by omega) (by omega) (by omega) rfl rfl (Nat.le_of_ble_eq_true rfl) rfl (pb_kB ?_ ?_)
  rotate_left
  · intro q1
    refine pb_ifT_eq (tgt := 26) dX12_glaze_4 (by decide) rfl ?_
    refine pb_iconst (x := -1) (pc2 := 27) dX12_glaze_26 (by decide) rfl ?_
    exact pb_ireturn dX12_glaze_27 rfl (pb_fin (if_neg (fun z => q1 z.1)) hR)
  intro q1
  refine pb_ifF_eq (tgt := 26) (pc2 := 7) dX12_glaze_4 (by decide) rfl (by decide) ?_
  refine pb_aload_n (pc2 := 8) dX12_glaze_7 rfl rfl rfl ?_
  refine pb_iload_n (pc2 := 9) dX12_glaze_8 rfl rfl rfl ?_
  refine pb_callV (pc2 := 12) (k2 := 0) (n2 := 0) mwX12_isSet pb_cl10.1 iwX12_isSet seX12_isSet rfl mlX12_187 dX12_glaze_9 (by first | assumption | exact hR.a rfl | exact hR.o | exact hC.a rfl) (t_misSet w hR s) (by omega) (by omega) (by omega) rfl rfl (Nat.le_of_ble_eq_true rfl) rfl (pb_kB ?_ ?_)
  rotate_left
  · intro q2
    refine pb_ifT_eq (tgt := 26) dX12_glaze_12 (by decide) rfl ?_
    refine pb_iconst (x := -1) (pc2 := 27) dX12_glaze_26 (by decide) rfl ?_
    exact pb_ireturn dX12_glaze_27 rfl (pb_fin (if_neg (fun z => q2 z.2.1)) hR)
  intro q2
  refine pb_ifF_eq (tgt := 26) (pc2 := 15) dX12_glaze_12 (by decide) rfl (by decide) ?_
  refine pb_iload_n (pc2 := 16) dX12_glaze_15 rfl rfl rfl ?_
  refine pb_iconst (x := nI 0) (pc2 := 17) dX12_glaze_16 (by decide) rfl ?_
  refine pb_sipush (x := nI 10000) (pc2 := 20) dX12_glaze_17 (by decide) rfl ?_
  refine pb_callS (pc2 := 23) (k2 := 0) (n2 := 0) mwX12_in swX12_in rfl mlX12_95 dX12_glaze_20 (t_in g (nI 0) (nI 10000)) (by omega) (by omega) (by omega) rfl rfl (Nat.le_of_ble_eq_true rfl) rfl (pb_kB ?_ ?_)
  rotate_left
  · intro q3
    refine pb_ifF_ne (tgt := 28) (pc2 := 26) dX12_glaze_23 rfl rfl (by decide) ?_
    refine pb_iconst (x := -1) (pc2 := 27) dX12_glaze_26 (by decide) rfl ?_
    exact pb_ireturn dX12_glaze_27 rfl (pb_fin (if_neg (fun z => q3 z.2.2)) hR)
  intro q3
  refine pb_ifT_ne (tgt := 28) dX12_glaze_23 (by decide) (by decide) ?_
  have e0 : sp_glaze A l s g = _ := if_pos ⟨q1, q2, q3⟩
  rw [e0]
  obtain ⟨l, -, hl, rfl⟩ := nI_rng (by omega) q1 (by omega)
  obtain ⟨s, hs0, hs1, hs2, rfl⟩ := pb_isS_of w q2
  obtain ⟨g, -, hg, rfl⟩ := nI_rng (by omega) q3 (by omega)
  rw [pb_natN (by omega), pb_natN (by omega), pb_natN (by omega)]
  have hst : ∀ t, A 1 0 ≤ t → s.testBit t = false := fun t ht => Nat.testBit_lt_two_pow (Nat.lt_of_lt_of_le hs1 (Nat.pow_le_pow_right (by omega) ht))
  obtain ⟨-, -, -, -, w5, -⟩ := w.rest
  have fin : ∃ σ, sp_gf A l s g = σ := ⟨_, rfl⟩
  obtain ⟨σE, hσE⟩ := fin
  rw [hσE]
  have round : ∀ (many b c : Nat) (F : Nat → Nat) (h' : pb_H) (o6 o7 o8 : Option Value), 1 ≤ many → many ≤ 3 → pb_RF (sp_G A c F) h h' → b ≤ 30000 → c ≤ 3 → (∀ i, i < 3 → F i ≤ 200) → (∀ (b' c' : Nat) (F' : Nat → Nat) (h2 : pb_H) (o6 o7 o8 : Option Value), pb_RF (sp_G A c' F') h h2 → b' ≤ 30000 → c' ≤ 3 → (∀ i, i < 3 → F' i ≤ 200) → (gl_e s many []).foldl (sp_gst A l g) (b, c, F) = (b', c', F') → pb_S Z mX12_glaze 4 0 0 (pb_PR (nI σE.1, sp_G A σE.2.1 σE.2.2) h) 67 [some (.ref 20), some (.int (nI l)), some (.int (nI s)), some (.int (nI g)), some (.int (nI b')), some (.int (nI (many + 1))), o6, o7, o8] [] h2) → pb_S Z mX12_glaze 4 0 0 (pb_PR (nI σE.1, sp_G A σE.2.1 σE.2.2) h) 67 [some (.ref 20), some (.int (nI l)), some (.int (nI s)), some (.int (nI g)), some (.int (nI b)), some (.int (nI many)), o6, o7, o8] [] h' := by
    intro many b c F h' o6 o7 o8 hm1 hm hR hb hc hF K
    obtain ⟨G, h48⟩ := hR.2.2.1 48 3 rfl
    refine pb_iload (pc2 := 69) dX12_glaze_67 rfl rfl ?_
    refine pb_iconst (x := nI 3) (pc2 := 70) dX12_glaze_69 (by decide) rfl ?_
    refine pb_icmpN_gt (tgt := 267) (pc2 := 73) dX12_glaze_70 (by decide) rfl (by omega) (by omega) (fun c1 => ?_) (fun c1 => ?_)
    · omega
    · refine pb_iconst (x := nI 0) (pc2 := 74) dX12_glaze_73 (by decide) rfl ?_
      refine pb_istore (lv2 := [_, _, _, _, _, _, _, _, _]) (pc2 := 76) dX12_glaze_74 (by decide) rfl rfl ?_
      refine pb_aload_n (pc2 := 77) dX12_glaze_76 rfl rfl rfl ?_
      refine pb_getf (pc2 := 80) flX12_83_X12 rfl dX12_glaze_77 (by first | assumption | exact hR.a rfl | exact hR.o | exact hC.a rfl) rfl rfl ?_
      refine pb_iconst (x := nI 0) (pc2 := 81) dX12_glaze_80 (by decide) rfl ?_
      refine pb_iconst (x := -1) (pc2 := 82) dX12_glaze_81 (by decide) rfl ?_
      refine pb_top (v2 := .int (nI 4294967295)) (by decide) ?_
      refine pb_iastC (pc2 := 83) hR rfl h48 dX12_glaze_82 (by omega) rfl (fun h3 hR h48 _ => ?_)
      refine w_mglaze w hT (by omega) hs2 hst hg hm (many - 1) 0 (by omega) [] rfl (fun j hj => by omega) (3 * A 1 0 + 1) 0 b c F _ h3 _ _ (by omega) (by omega) hR h48 (fun j hj => by omega) (by rw [pb_un_self, if_pos rfl]) hb hc hF (fun b2 c2 F2 G2 h4 o7 o8 hR h48 hG hb hc hF e2 => ?_)
      refine pb_iload (pc2 := 85) dX12_glaze_83 rfl rfl ?_
      refine pb_ifT_lt (tgt := 261) dX12_glaze_85 (by decide) (by decide) ?_
      refine pb_iincP (c0 := 1) (lv2 := [_, _, _, _, _, _, _, _, _]) (pc2 := 264) dX12_glaze_261 rfl (by decide) rfl rfl ?_
      refine pb_goto (tgt := 67) dX12_glaze_264 (by decide) ?_
      refine K b2 c2 F2 h4 _ _ _ hR hb hc hF ?_
      rw [← e2]
      obtain ⟨d', rfl⟩ : ∃ d', many = d' + 1 := ⟨many - 1, by omega⟩
      rfl
  obtain ⟨G, h48⟩ := hR.2.2.1 48 3 rfl
  refine pb_aload_n (pc2 := 29) dX12_glaze_28 rfl rfl rfl ?_
  refine pb_iconst (x := nI 0) (pc2 := 30) dX12_glaze_29 (by decide) rfl ?_
  refine pb_iload_n (pc2 := 31) dX12_glaze_30 rfl rfl rfl ?_
  refine pb_callV (pc2 := 34) (k2 := 0) (n2 := 0) mwX12_lightOfGlaze pb_cl10.1 iwX12_lightOfGlaze seX12_lightOfGlaze rfl mlX12_216 dX12_glaze_31 (by first | assumption | exact hR.a rfl | exact hR.o | exact hC.a rfl) (t_mlightOfGlaze (L := []) (n := 0) w hR hT h48 rfl (by omega) (fun j hj => by omega) (fun j hj => by omega) hg) (by omega) (by omega) (by omega) rfl rfl (Nat.le_of_ble_eq_true rfl) rfl (pb_kL2 (fun h3 E hR h32 hE hne => ?_))
  refine pb_aload_n (pc2 := 35) dX12_glaze_34 rfl rfl rfl ?_
  refine pb_aload_n (pc2 := 36) dX12_glaze_35 rfl rfl rfl ?_
  refine pb_getf (pc2 := 39) flX12_68_X12 rfl dX12_glaze_36 (by first | assumption | exact hR.a rfl | exact hR.o | exact hC.a rfl) rfl rfl ?_
  refine pb_iconst (x := nI 0) (pc2 := 40) dX12_glaze_39 (by decide) rfl ?_
  refine pb_iald (pc2 := 41) (by first | assumption | exact hR.a rfl | exact hR.o | exact hC.a rfl) ⟨by decide, rfl⟩ dX12_glaze_40 (by omega) (by omega) rfl ?_
  refine pb_aload_n (pc2 := 42) dX12_glaze_41 rfl rfl rfl ?_
  refine pb_getf (pc2 := 45) flX12_68_X12 rfl dX12_glaze_42 (by first | assumption | exact hR.a rfl | exact hR.o | exact hC.a rfl) rfl rfl ?_
  refine pb_iconst (x := nI 1) (pc2 := 46) dX12_glaze_45 (by decide) rfl ?_
  refine pb_iald (pc2 := 47) (by first | assumption | exact hR.a rfl | exact hR.o | exact hC.a rfl) ⟨by decide, rfl⟩ dX12_glaze_46 (by omega) (by omega) rfl ?_
  refine pb_aload_n (pc2 := 48) dX12_glaze_47 rfl rfl rfl ?_
  refine pb_getf (pc2 := 51) flX12_68_X12 rfl dX12_glaze_48 (by first | assumption | exact hR.a rfl | exact hR.o | exact hC.a rfl) rfl rfl ?_
  refine pb_iconst (x := nI 2) (pc2 := 52) dX12_glaze_51 (by decide) rfl ?_
  refine pb_iald (pc2 := 53) (by first | assumption | exact hR.a rfl | exact hR.o | exact hC.a rfl) ⟨by decide, rfl⟩ dX12_glaze_52 (by omega) (by omega) rfl ?_
  refine pb_iload_n (pc2 := 54) dX12_glaze_53 rfl rfl rfl ?_
  refine pb_callV (pc2 := 57) (k2 := 0) (n2 := 0) mwX12_apartFrom pb_cl10.1 iwX12_apartFrom seX12_apartFrom rfl mlX12_183 dX12_glaze_54 (by first | assumption | exact hR.a rfl | exact hR.o | exact hC.a rfl) (t_mapartFrom w hR (show l < 4 by omega) g0 g1 g2 (fun b hb => by rw [hE b hb]; exact gl_L_le _ _ _ _ hg) h32) (by omega) (by omega) (by omega) rfl rfl (Nat.le_of_ble_eq_true rfl) rfl (pb_kE ?_)
  refine pb_top (v2 := .int (nI (gl_v A l g []))) (by rw [pb_far_congr hE]; rfl) ?_
  have hvl := gl_v_le w l [] hg
  refine pb_istore (lv2 := [_, _, _, _, _, _, _, _, _]) (pc2 := 59) dX12_glaze_57 (by decide) rfl rfl ?_
  refine pb_aload_n (pc2 := 60) dX12_glaze_59 rfl rfl rfl ?_
  refine pb_iconst (x := nI 0) (pc2 := 61) dX12_glaze_60 (by decide) rfl ?_
  refine pb_putR (pc2 := 64) hR flX12_77_X12 rfl dX12_glaze_61 rfl rfl rfl 21 (fun _ => 0) (by omega) rfl rfl (fun h4 hR => ?_)
  have eG : pb_wf A 21 (fun _ => 0) = sp_G A 0 (A 23) := by
    unfold sp_G
    have := pb_wf_id (pb_wf A 21 (fun _ => 0)) 23
    rw [pb_wf_ne A (fun _ => 0) (show 23 ≠ 21 by decide)] at this
    exact this.symm
  rw [eG] at hR
  refine pb_iconst (x := nI 1) (pc2 := 65) dX12_glaze_64 (by decide) rfl ?_
  refine pb_istore (lv2 := [_, _, _, _, _, _, _, _, _]) (pc2 := 67) dX12_glaze_65 (by decide) rfl rfl ?_
  refine round 1 _ _ _ _ _ _ _ (by omega) (by omega) hR hvl (by omega) w5 (fun b1 c1 F1 h5 o6 o7 o8 hR hb hc hF e1 => ?_)
  refine round 2 _ _ _ _ _ _ _ (by omega) (by omega) hR hb hc hF (fun b2 c2 F2 h5 o6 o7 o8 hR hb hc hF e2 => ?_)
  refine round 3 _ _ _ _ _ _ _ (by omega) (by omega) hR hb hc hF (fun b3 c3 F3 h5 o6 o7 o8 hR hb hc hF e3 => ?_)
  have e4 : σE = (b3, c3, F3) := by
    rw [← hσE, ← e3, ← e2, ← e1]
    unfold sp_gf
    rw [List.foldl_append, List.foldl_append]
  rw [e4]
  refine pb_iload (pc2 := 69) dX12_glaze_67 rfl rfl ?_
  refine pb_iconst (x := nI 3) (pc2 := 70) dX12_glaze_69 (by decide) rfl ?_
  refine pb_icmpN_gt (tgt := 267) (pc2 := 73) dX12_glaze_70 (by decide) rfl (by omega) (by omega) (fun c1 => ?_) (fun c1 => ?_)
  · refine pb_iload (pc2 := 269) dX12_glaze_267 rfl rfl ?_
    exact pb_ireturn dX12_glaze_269 rfl (pb_fin rfl hR)
  · omega
end PB26

