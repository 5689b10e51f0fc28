/-! MATCH AND FEWEST, by the class -/
theorem pb_cpyN (F G : Nat → Nat) (sp dp m : Nat) : va_cpy (fun j => nI (F j)) (fun j => nI (G j)) sp dp m = fun j => nI (if dp ≤ j ∧ j < dp + m then F (sp + (j - dp)) else G j) := by
  funext j
  show (if dp ≤ j ∧ j < dp + m then nI (F (sp + (j - dp))) else nI (G j)) = _
  by_cases c : dp ≤ j ∧ j < dp + m
  · rw [if_pos c, if_pos c]
  · rw [if_neg c, if_neg c]
-- a set's parts, tube by tube
def pv (M : Nat → Nat) (t j k : Nat) : Prop := ∃ sub, (∀ i, sub.testBit i = true → j.testBit i = true) ∧ (∀ i, t ≤ i → sub.testBit i = j.testBit i) ∧ (M sub).testBit k = true
theorem pv_0 {M : Nat → Nat} {j k : Nat} : pv M 0 j k ↔ (M j).testBit k = true := by
  constructor
  · rintro ⟨sub, -, h2, h3⟩
    have e : sub = j := Nat.eq_of_testBit_eq (fun i => h2 i (Nat.zero_le _))
    rw [e] at h3
    exact h3
  · intro h
    exact ⟨j, fun i hi => hi, fun i _ => rfl, h⟩
theorem tb_x {j t i : Nat} : (j ^^^ 2 ^ t).testBit i = (j.testBit i ^^ decide (t = i)) := by rw [Nat.testBit_xor, tb_p2]
theorem pv_s {M : Nat → Nat} {t j k : Nat} : pv M (t + 1) j k ↔ (pv M t j k ∨ (j.testBit t = true ∧ pv M t (j ^^^ 2 ^ t) k)) := by
  constructor
  · rintro ⟨sub, h1, h2, h3⟩
    by_cases e : sub.testBit t = j.testBit t
    · refine Or.inl ⟨sub, h1, fun i hi => ?_, h3⟩
      by_cases q : i = t
      · rw [q]; exact e
      · exact h2 i (by omega)
    · have hj : j.testBit t = true := by
        cases hs : sub.testBit t with
        | true => exact h1 t hs
        | false =>
          cases hj : j.testBit t with
          | true => rfl
          | false => rw [hs, hj] at e; exact absurd rfl e
      have hs : sub.testBit t = false := by
        cases hs : sub.testBit t with
        | false => rfl
        | true => rw [hs, hj] at e; exact absurd rfl e
      refine Or.inr ⟨hj, sub, fun i hi => ?_, fun i hi => ?_, h3⟩
      · rw [tb_x, h1 i hi]
        by_cases q : t = i
        · rw [← q, hs] at hi; cases hi
        · rw [decide_eq_false q]; rfl
      · rw [tb_x]
        by_cases q : t = i
        · rw [← q, hs, hj, decide_eq_true rfl]; rfl
        · rw [decide_eq_false q, h2 i (by omega)]; cases j.testBit i <;> rfl
  · rintro (⟨sub, h1, h2, h3⟩ | ⟨hj, sub, h1, h2, h3⟩)
    · exact ⟨sub, h1, fun i hi => h2 i (by omega), h3⟩
    · refine ⟨sub, fun i hi => ?_, fun i hi => ?_, h3⟩
      · have := h1 i hi
        rw [tb_x] at this
        by_cases q : t = i
        · rw [← q]; exact hj
        · rw [decide_eq_false q] at this
          cases hji : j.testBit i with
          | true => rfl
          | false => rw [hji] at this; cases this
      · rw [h2 i (by omega), tb_x, decide_eq_false (by omega)]
        cases j.testBit i <;> rfl
theorem pv_12 {M : Nat → Nat} {j k : Nat} (hj : j < 4096) : pv M 12 j k ↔ fw_sub M j k := by
  have hb : ∀ i, 12 ≤ i → j.testBit i = false := fun i hi => Nat.testBit_lt_two_pow (Nat.lt_of_lt_of_le hj (Nat.le_trans (show 4096 ≤ 2 ^ 12 by decide) (Nat.pow_le_pow_right (by omega) hi)))
  constructor
  · rintro ⟨sub, h1, h2, h3⟩
    refine ⟨sub, Nat.eq_of_testBit_eq (fun i => ?_), h3⟩
    rw [Nat.testBit_and]
    cases hs : sub.testBit i with
    | false => rfl
    | true => rw [h1 i hs]; rfl
  · rintro ⟨sub, h1, h3⟩
    have hsub : ∀ i, sub.testBit i = true → j.testBit i = true := fun i hi => by
      have e := congrArg (fun x => Nat.testBit x i) h1
      simp only [Nat.testBit_and, hi, Bool.true_and] at e
      exact e
    refine ⟨sub, hsub, fun i hi => ?_, h3⟩
    rw [hb i hi]
    cases hs : sub.testBit i with
    | false => rfl
    | true => exact absurd (hsub i hs) (by rw [hb i hi]; exact Bool.false_ne_true)
theorem x_lt {j t : Nat} (hj : j < 4096) (h : j.testBit t = true) : j ^^^ 2 ^ t < j := by
  have e : j ^^^ 2 ^ t = fw_rm j t := Nat.eq_of_testBit_eq (fun i => by
    rw [tb_x, fw_rm_tb hj]
    by_cases q : t = i
    · subst q
      rw [h, decide_eq_true rfl, decide_eq_false (fun z => z rfl)]
      rfl
    · rw [decide_eq_false q, decide_eq_true q, Bool.and_true]
      cases j.testBit i <;> rfl)
  rw [e]
  exact fw_rm_lt hj h
theorem and_p2 {j t : Nat} : j &&& 2 ^ t = if j.testBit t then 2 ^ t else 0 := by
  apply Nat.eq_of_testBit_eq
  intro i
  rw [Nat.testBit_and, tb_p2]
  by_cases q : t = i
  · subst q
    rw [decide_eq_true rfl, Bool.and_true]
    cases h : j.testBit t with
    | true => rw [if_pos rfl, tb_p2, decide_eq_true rfl]
    | false => rw [if_neg (by simp), Nat.zero_testBit]
  · rw [decide_eq_false q, Bool.and_false]
    split
    · rw [tb_p2, decide_eq_false q]
    · rw [Nat.zero_testBit]
def bc_1 (x : Int32) : Int32 := x - ((x.toUInt32 >>> ((nI 1).toUInt32 &&& Int32.toUInt32 31)).toInt32 &&& nI 1431655765)
def bc_2 (x : Int32) : Int32 := (x &&& nI 858993459) + ((x.toUInt32 >>> ((nI 2).toUInt32 &&& Int32.toUInt32 31)).toInt32 &&& nI 858993459)
def bc_3 (x : Int32) : Int32 := (x + (x.toUInt32 >>> ((nI 4).toUInt32 &&& Int32.toUInt32 31)).toInt32) &&& nI 252645135
def bc_4 (x : Int32) : Int32 := x + (x.toUInt32 >>> ((nI 8).toUInt32 &&& Int32.toUInt32 31)).toInt32
def bc_5 (x : Int32) : Int32 := x + (x.toUInt32 >>> ((nI 16).toUInt32 &&& Int32.toUInt32 31)).toInt32
def bc_all (x : Int32) : Int32 := bc_5 (bc_4 (bc_3 (bc_2 (bc_1 x)))) &&& nI 63
set_option maxRecDepth 100000 in
set_option maxHeartbeats 4000000 in
theorem bc_ok : ∀ n, n < 4096 → bc_all (nI n) = nI (fw_pop 12 n) := by decide +kernel
theorem fw_pop_T {T j : Nat} (hT : T ≤ 12) (hj : j < 2 ^ T) : fw_pop 12 j = fw_pop T j := pb_sum_ext hT (fun i h1 _ => pb_bit_0.mpr (Nat.testBit_lt_two_pow (Nat.lt_of_lt_of_le hj (Nat.pow_le_pow_right (by omega) h1))))
section PB42
variable {Z : pb_Z} {h h0 : pb_H} {A : pb_A}
theorem pb_acopyG {y : pb_M} {d k n : Nat} {post : Option Value → pb_H → Prop} {pc : Nat} {lv : List (Option Value)} {st : List Value} {idx pc2 a0 a n0 n1 sp dp m0 : Nat} {own : String} {F G : Nat → Nat} (hw : y.1.cls = own) (hl : Cond.methodLink own idx arraycopyName ∈ pb_tbl) (hd : decode y.2.1 pc = .ok (.invokestatic idx, 3)) (ha0 : h a0 = some (.inl (0, n0, fun j => nI (F j)))) (ha : h a = some (.inl (0, n1, fun j => nI (G j)))) (h2 : 2 ≤ a) (hs : sp + m0 ≤ n0) (ht : dp + m0 ≤ n1) (hn0 : n0 < 2 ^ 31) (hn1 : n1 < 2 ^ 31) (hdd : 1 ≤ d) (hr : (st.map fun v => v.category).sum ≤ 8) (hp : pc + 3 = pc2) (kk : ∀ h', h' a = some (.inl (0, n1, fun j => nI (if dp ≤ j ∧ j < dp + m0 then F (sp + (j - dp)) else G j))) → (∀ b, b ≠ a → h' b = h b) → pb_S Z y d k n post pc2 lv st h') : pb_S Z y d k n post pc lv (.int (nI m0) :: .int (nI dp) :: .ref a :: .int (nI sp) :: .ref a0 :: st) h := pb_acopy hw hl hd ha0 ha h2 hs ht hn0 hn1 hdd hr hp (kk _ (by rw [pb_set_self, pb_cpyN]) (fun _ hb => pb_set_ne _ _ hb))
set_option maxRecDepth 10000 in
theorem t_nearestM (w : pb_WF A) (hC : pb_CF A h0 h) {l s n : Nat} (hl : l < 4) (hL : pb_LT A l h) (hs : s < 4096) (hst : ∀ t, A 1 0 ≤ t → s.testBit t = false) (hn1 : 1 ≤ n) (hn : n ≤ 8) : pb_T Z mX5_nearest 8 0 0 [.ref 68, .ref 61, .ref 62, .ref 65, .int (nI s), .int (nI n)] h (fun v h' => v = some (.int (nI (sp_mf A l s n).1)) ∧ pb_CF (mA A (sp_mf A l s n)) h0 h') := by
  obtain ⟨sz, tp, f0, ho⟩ := hC.mat
  obtain ⟨T, h65, hT⟩ := hC.wan
  obtain ⟨G, h310⟩ := hC.s 310 3 rfl
  have h20 : A 20 0 ≤ 8000 := w.rest.2.2.1
  refine pb_T.of pnX5_nearest (Nat.le_of_ble_eq_true rfl) (lv := [some (.ref 68), some (.ref 61), some (.ref 62), some (.ref 65), some (.int (nI s)), some (.int (nI n))]) rfl ?_
  refine pb_aload_n (pc2 := 1) dX5_nearest_0 rfl rfl rfl ?_
  refine pb_iconst (x := nI 0) (pc2 := 2) dX5_nearest_1 (by decide) rfl ?_
  refine pb_aload_n (pc2 := 3) dX5_nearest_2 rfl rfl rfl ?_
  refine pb_getf (pc2 := 6) flX5_26_X5 rfl dX5_nearest_3 (by first | assumption | exact hR.a rfl | exact hR.o | exact hC.o | exact hC.pal | exact hC.tub | exact hC.k _ _ rfl | exact hC.pot _ (by omega) | exact hC.are _ (by omega) | exact hC.arl _ (by omega) | exact hC.tbo _ (by omega) (by omega)) rfl rfl ?_
  refine pb_iconst (x := nI 0) (pc2 := 7) dX5_nearest_6 (by decide) rfl ?_
  refine pb_iconst (x := nI 3) (pc2 := 8) dX5_nearest_7 (by decide) rfl ?_
  refine pb_acopyG (pc2 := 11) rfl alX5_29 dX5_nearest_8 h65 h310 (by omega) (by omega) (by omega) (by omega) (by omega) (by omega) (Nat.le_of_ble_eq_true rfl) rfl (fun h1 h310 n1 => ?_)
  have ho := (n1 _ (by omega)).trans ho
  refine pb_aload_n (pc2 := 12) dX5_nearest_11 rfl rfl rfl ?_
  refine pb_iconst (x := nI 1) (pc2 := 13) dX5_nearest_12 (by decide) rfl ?_
  refine pb_putG (fs2 := [_, _, _, _, _, _, _, _, _, _, _, _, _, _, _, _]) (pc2 := 16) flX5_9_X5 rfl dX5_nearest_13 ho (by omega) rfl rfl rfl rfl rfl (fun h_ ho n2 => ?_)
  have h310 := (n2 _ (by omega)).trans h310
  refine pb_aload_n (pc2 := 17) dX5_nearest_16 rfl rfl rfl ?_
  refine pb_sipush (x := nI 30001) (pc2 := 20) dX5_nearest_17 (by decide) rfl ?_
  refine pb_putG (fs2 := [_, _, _, _, _, _, _, _, _, _, _, _, _, _, _, _]) (pc2 := 23) flX5_19_X5 rfl dX5_nearest_20 ho (by omega) rfl rfl rfl rfl rfl (fun h_ ho n3 => ?_)
  have h310 := (n3 _ (by omega)).trans h310
  have nb : ∀ b, b ≠ 310 → b ≠ 68 → h_ b = h b := fun b b1 b2 => ((n3 b (by omega)).trans ((n2 b (by omega)).trans (n1 b (by omega))))
  have hbst : cRow 12 (A 19) (h_ 309) := by rw [nb _ (by omega) (by omega)]; exact hC.bst
  have hST : stM A (30001, A 20 0, A 19) sz tp h0 h_ := by
    refine ⟨k_obM (A := A) (fun f f1 f2 f3 => by unfold mA sp_B pb_wf; funext j; rw [if_neg f1, if_neg f2, if_neg f3]) hC (fun a m e => ?_) (fun x x1 x2 x3 => nb x (fun z => by rw [z] at x1; cases x1) x2) ⟨sz, tp, 30001, ho⟩ hbst, ho, Nat.le_refl _, h20⟩
    by_cases e1 : a = 310
    · subst e1
      have en : m = 3 := (Option.some.inj e).symm
      subst en
      exact ⟨_, h310⟩
    · rw [nb a e1 (cS_ne e rfl)]; exact hC.s a m e
  have hX : exM A h_ := ⟨_, h310, fun j hj => by rw [if_pos (by omega), show 0 + (j - 0) = j by omega]; exact hT j hj⟩
  have hL' : pb_LT A l h_ := hL.up (fun x x1 x2 => nb x (by omega) (by omega))
  have hP : palA A h_ := (palA.of hC).up (fun x hx => nb x (by omega) (by omega))
  refine pb_aload_n (pc2 := 24) dX5_nearest_23 rfl rfl rfl ?_
  refine pb_aload_n (pc2 := 25) dX5_nearest_24 rfl rfl rfl ?_
  refine pb_aload_n (pc2 := 26) dX5_nearest_25 rfl rfl rfl ?_
  refine pb_iload (pc2 := 28) dX5_nearest_26 rfl rfl ?_
  refine pb_iload (pc2 := 30) dX5_nearest_28 rfl rfl ?_
  refine pb_callU (x := ⟨RX5, "goThrough", "(LPaintBox$Palette;LPaintBox$Light;II)V"⟩) (owner := RX9) (pc2 := 33) (k2 := 0) (n2 := 0) mwX9_goThrough pb_cl5.1 rfl ⟨by decide, by decide⟩ iwX9_goThrough suX5_goThrough smX5_goThrough (Or.inl rfl) rfl mlX5_35 dX5_nearest_30 (by first | assumption | exact hR.a rfl | exact hR.o | exact hC.o | exact hC.pal | exact hC.tub | exact hC.k _ _ rfl | exact hC.pot _ (by omega) | exact hC.are _ (by omega) | exact hC.arl _ (by omega) | exact hC.tbo _ (by omega) (by omega)) (t_goM w hl hs hst hn1 hn hST hX hL' hP) (by omega) (by omega) (by omega) rfl rfl (Nat.le_of_ble_eq_true rfl) rfl (fun v h5 q _ => ?_)
  obtain ⟨rfl, sz5, k5, hST5⟩ := q
  obtain ⟨hC5, ho5, -⟩ := hST5
  refine pb_aload_n (pc2 := 34) dX5_nearest_33 rfl rfl rfl ?_
  refine pb_getf (pc2 := 37) flX5_19_X5 rfl dX5_nearest_34 (by first | assumption | exact hR.a rfl | exact hR.o | exact hC.o | exact hC.pal | exact hC.tub | exact hC.k _ _ rfl | exact hC.pot _ (by omega) | exact hC.are _ (by omega) | exact hC.arl _ (by omega) | exact hC.tbo _ (by omega) (by omega)) rfl rfl ?_
  exact pb_ireturn dX5_nearest_37 rfl (⟨rfl, hC5⟩)
set_option maxRecDepth 10000 in
theorem c_match (w : pb_WF A) (hC : pb_CF A h h) (l s n : Int32) : pb_T Z mX11_match 9 0 0 [.ref 60, .int l, .int s, .int n] h (pb_PC (sp_match A l s n) h) := by
  refine pb_T.of pnX11_match (Nat.le_of_ble_eq_true rfl) (lv := [some (.ref 60), some (.int l), some (.int s), some (.int n)]) rfl ?_
  refine pb_iload_n (pc2 := 1) dX11_match_0 rfl rfl rfl ?_
  refine pb_callS (pc2 := 4) (k2 := 0) (n2 := 0) mwX11_isLamp swX11_isLamp rfl mlX11_131 dX11_match_1 (t_isLamp l) (by omega) (by omega) (by omega) rfl rfl (Nat.le_of_ble_eq_true rfl) rfl (pb_kB ?_ ?_)
  rotate_left
  · intro q1
    refine pb_ifT_eq (tgt := 28) dX11_match_4 (by decide) rfl ?_
    refine pb_iconst (x := -1) (pc2 := 29) dX11_match_28 (by decide) rfl ?_
    exact pb_ireturn dX11_match_29 rfl (pb_finC (if_neg (fun z => q1 z.1)) hC)
  intro q1
  refine pb_ifF_eq (tgt := 28) (pc2 := 7) dX11_match_4 (by decide) rfl (by decide) ?_
  refine pb_aload_n (pc2 := 8) dX11_match_7 rfl rfl rfl ?_
  refine pb_getf (pc2 := 11) flX11_12_X11 rfl dX11_match_8 (by first | assumption | exact hR.a rfl | exact hR.o | exact hC.o | exact hC.pal | exact hC.tub | exact hC.k _ _ rfl | exact hC.pot _ (by omega) | exact hC.are _ (by omega) | exact hC.arl _ (by omega) | exact hC.tbo _ (by omega) (by omega)) rfl rfl ?_
  refine pb_iload_n (pc2 := 12) dX11_match_11 rfl rfl rfl ?_
  refine pb_callV (pc2 := 15) (k2 := 0) (n2 := 0) mwX8_hasSet pb_cl7.1 iwX8_hasSet seX8_hasSet rfl mlX11_246 dX11_match_12 (by first | assumption | exact hR.a rfl | exact hR.o | exact hC.o | exact hC.pal | exact hC.tub | exact hC.k _ _ rfl | exact hC.pot _ (by omega) | exact hC.are _ (by omega) | exact hC.arl _ (by omega) | exact hC.tbo _ (by omega) (by omega)) (t_hasSet w hC s) (by omega) (by omega) (by omega) rfl rfl (Nat.le_of_ble_eq_true rfl) rfl (pb_kB ?_ ?_)
  rotate_left
  · intro q2
    refine pb_ifT_eq (tgt := 28) dX11_match_15 (by decide) rfl ?_
    refine pb_iconst (x := -1) (pc2 := 29) dX11_match_28 (by decide) rfl ?_
    exact pb_ireturn dX11_match_29 rfl (pb_finC (if_neg (fun z => q2 z.2.1)) hC)
  intro q2
  refine pb_ifF_eq (tgt := 28) (pc2 := 18) dX11_match_15 (by decide) rfl (by decide) ?_
  refine pb_iload_n (pc2 := 19) dX11_match_18 rfl rfl rfl ?_
  refine pb_iconst (x := nI 1) (pc2 := 20) dX11_match_19 (by decide) rfl ?_
  refine pb_bipush (x := nI 8) (pc2 := 22) dX11_match_20 (by decide) rfl ?_
  refine pb_callS (pc2 := 25) (k2 := 0) (n2 := 0) mwX11_between swX11_between rfl mlX11_77 dX11_match_22 (t_between n (nI 1) (nI 8)) (by omega) (by omega) (by omega) rfl rfl (Nat.le_of_ble_eq_true rfl) rfl (pb_kB ?_ ?_)
  rotate_left
  · intro q3
    refine pb_ifF_ne (tgt := 30) (pc2 := 28) dX11_match_25 rfl rfl (by decide) ?_
    refine pb_iconst (x := -1) (pc2 := 29) dX11_match_28 (by decide) rfl ?_
    exact pb_ireturn dX11_match_29 rfl (pb_finC (if_neg (fun z => q3 z.2.2)) hC)
  intro q3
  refine pb_ifT_ne (tgt := 30) dX11_match_25 (by decide) (by decide) ?_
  have e0 : sp_match A l s n = _ := if_pos ⟨q1, q2, q3⟩
  rw [e0]
  obtain ⟨l, -, hl, rfl⟩ := nI_rng (by omega) q1 (by omega)
  obtain ⟨s, hs0, hs1, hs2, rfl⟩ := pb_isS_of w q2
  obtain ⟨n, hn1, hn, rfl⟩ := nI_rng (by omega) q3 (by omega)
  rw [pb_natN (by omega), pb_natN (by omega), pb_natN (by omega)]
  refine pb_aload_n (pc2 := 31) dX11_match_30 rfl rfl rfl ?_
  refine pb_getf (pc2 := 34) flX11_19_X11 rfl dX11_match_31 (by first | assumption | exact hR.a rfl | exact hR.o | exact hC.o | exact hC.pal | exact hC.tub | exact hC.k _ _ rfl | exact hC.pot _ (by omega) | exact hC.are _ (by omega) | exact hC.arl _ (by omega) | exact hC.tbo _ (by omega) (by omega)) rfl rfl ?_
  refine pb_iload_n (pc2 := 35) dX11_match_34 rfl rfl rfl ?_
  refine pb_callV (pc2 := 38) (k2 := 0) (n2 := 0) mwX4_shine pb_cl4.1 iwX4_shine seX4_shine rfl mlX11_174 dX11_match_35 (by first | assumption | exact hR.a rfl | exact hR.o | exact hC.o | exact hC.pal | exact hC.tub | exact hC.k _ _ rfl | exact hC.pot _ (by omega) | exact hC.are _ (by omega) | exact hC.arl _ (by omega) | exact hC.tbo _ (by omega) (by omega)) (t_shine w hC (show l < 4 by omega)) (by omega) (by omega) (by omega) rfl rfl (Nat.le_of_ble_eq_true rfl) rfl (fun v h1 q _ => ?_)
  obtain ⟨rfl, hC1, hL1, -⟩ := q
  clear hC
  have hC := hC1
  obtain ⟨sz, tp, f0, ho⟩ := hC.mat
  refine pb_aload_n (pc2 := 39) dX11_match_38 rfl rfl rfl ?_
  refine pb_getf (pc2 := 42) flX11_50_X11 rfl dX11_match_39 (by first | assumption | exact hR.a rfl | exact hR.o | exact hC.o | exact hC.pal | exact hC.tub | exact hC.k _ _ rfl | exact hC.pot _ (by omega) | exact hC.are _ (by omega) | exact hC.arl _ (by omega) | exact hC.tbo _ (by omega) (by omega)) rfl rfl ?_
  refine pb_aload_n (pc2 := 43) dX11_match_42 rfl rfl rfl ?_
  refine pb_getf (pc2 := 46) flX11_12_X11 rfl dX11_match_43 (by first | assumption | exact hR.a rfl | exact hR.o | exact hC.o | exact hC.pal | exact hC.tub | exact hC.k _ _ rfl | exact hC.pot _ (by omega) | exact hC.are _ (by omega) | exact hC.arl _ (by omega) | exact hC.tbo _ (by omega) (by omega)) rfl rfl ?_
  refine pb_aload_n (pc2 := 47) dX11_match_46 rfl rfl rfl ?_
  refine pb_getf (pc2 := 50) flX11_19_X11 rfl dX11_match_47 (by first | assumption | exact hR.a rfl | exact hR.o | exact hC.o | exact hC.pal | exact hC.tub | exact hC.k _ _ rfl | exact hC.pot _ (by omega) | exact hC.are _ (by omega) | exact hC.arl _ (by omega) | exact hC.tbo _ (by omega) (by omega)) rfl rfl ?_
  refine pb_aload_n (pc2 := 51) dX11_match_50 rfl rfl rfl ?_
  refine pb_getf (pc2 := 54) flX11_35_X11 rfl dX11_match_51 (by first | assumption | exact hR.a rfl | exact hR.o | exact hC.o | exact hC.pal | exact hC.tub | exact hC.k _ _ rfl | exact hC.pot _ (by omega) | exact hC.are _ (by omega) | exact hC.arl _ (by omega) | exact hC.tbo _ (by omega) (by omega)) rfl rfl ?_
  refine pb_iload_n (pc2 := 55) dX11_match_54 rfl rfl rfl ?_
  refine pb_iload_n (pc2 := 56) dX11_match_55 rfl rfl rfl ?_
  refine pb_callV (pc2 := 59) (k2 := 0) (n2 := 0) mwX5_nearest pb_cl5.1 iwX5_nearest seX5_nearest rfl mlX11_249 dX11_match_56 (by first | assumption | exact hR.a rfl | exact hR.o | exact hC.o | exact hC.pal | exact hC.tub | exact hC.k _ _ rfl | exact hC.pot _ (by omega) | exact hC.are _ (by omega) | exact hC.arl _ (by omega) | exact hC.tbo _ (by omega) (by omega)) (t_nearestM w hC (show l < 4 by omega) hL1 hs2 (fun t ht => Nat.testBit_lt_two_pow (Nat.lt_of_lt_of_le hs1 (Nat.pow_le_pow_right (by omega) ht))) hn1 hn) (by omega) (by omega) (by omega) rfl rfl (Nat.le_of_ble_eq_true rfl) rfl (fun v h2 q _ => ?_)
  obtain ⟨rfl, hC2⟩ := q
  exact pb_ireturn dX11_match_59 rfl (⟨rfl, hC2⟩)
set_option maxRecDepth 10000 in
theorem t_aimAt (w : pb_WF A) (hC : pb_CF A h0 h) {d : Nat} : pb_T Z mX1_aimAt 1 0 0 [.ref 69, .ref 66, .int (nI (A 24 0)), .int (nI d)] h (fun v h' => v = none ∧ pb_CF A h0 h' ∧ (∃ sz tp r, h' 69 = some (.inr (.inr (1, cCh sz tp r (A 24 0) (2 ^ A 24 0 - 1) d))) ∧ ((r = 411 ∧ h' 411 = some (.inl (0, 0, fun _ => nI 0)) ∧ h' 413 = none) ∨ (r = 413 ∧ cScr 4096 (h' 413)))) ∧ (∀ i, i < A 24 0 → cRow 3 (fun j => A 25 (3 * i + j)) (h' (480 + i))) ∧ ∀ x, x ≠ 69 → (x < 480 ∨ 486 ≤ x) → h' x = h x) := by
  have h24 : A 24 0 ≤ 6 := w.rest.2.2.2.2.2.1
  obtain ⟨sz, tp, r, gc, ag, fa, ho, hr⟩ := hC.cho
  have hp := Nat.one_le_two_pow (n := A 24 0)
  refine pb_T.of pnX1_aimAt (Nat.le_of_ble_eq_true rfl) (lv := [some (.ref 69), some (.ref 66), some (.int (nI (A 24 0))), some (.int (nI d)), none]) rfl ?_
  refine pb_aload_n (pc2 := 1) dX1_aimAt_0 rfl rfl rfl ?_
  refine pb_iload_n (pc2 := 2) dX1_aimAt_1 rfl rfl rfl ?_
  refine pb_putG (fs2 := [_, _, _, _, _, _, _, _, _, _, _, _, _, _, _, _]) (pc2 := 5) flX1_20_X1 rfl dX1_aimAt_2 ho (by omega) rfl rfl rfl rfl rfl (fun h_ ho n1 => ?_)
  refine pb_aload_n (pc2 := 6) dX1_aimAt_5 rfl rfl rfl ?_
  refine pb_iconst (x := nI 1) (pc2 := 7) dX1_aimAt_6 (by decide) rfl ?_
  refine pb_iload_n (pc2 := 8) dX1_aimAt_7 rfl rfl rfl ?_
  refine pb_ishl1 (pc2 := 9) dX1_aimAt_8 (by omega) rfl ?_
  refine pb_iconst (x := nI 1) (pc2 := 10) dX1_aimAt_9 (by decide) rfl ?_
  refine pb_isubN (pc2 := 11) dX1_aimAt_10 (by omega) rfl ?_
  refine pb_putG (fs2 := [_, _, _, _, _, _, _, _, _, _, _, _, _, _, _, _]) (pc2 := 14) flX1_24_X1 rfl dX1_aimAt_11 ho (by omega) rfl rfl rfl rfl rfl (fun h_ ho n2 => ?_)
  refine pb_aload_n (pc2 := 15) dX1_aimAt_14 rfl rfl rfl ?_
  refine pb_iload_n (pc2 := 16) dX1_aimAt_15 rfl rfl rfl ?_
  refine pb_putG (fs2 := [_, _, _, _, _, _, _, _, _, _, _, _, _, _, _, _]) (pc2 := 19) flX1_27_X1 rfl dX1_aimAt_16 ho (by omega) rfl rfl rfl rfl rfl (fun h_ ho n3 => ?_)
  have nb : ∀ b, b ≠ 69 → h_ b = h b := fun b b1 => ((n3 b (by omega)).trans ((n2 b (by omega)).trans (n1 b (by omega))))
  have hC1 : pb_CF A h0 h_ := by
    have hcho : ∃ sz tp r gc ag fa, h_ 69 = some (.inr (.inr (1, cCh sz tp r gc ag fa))) ∧ ((r = 411 ∧ h_ 411 = some (.inl (0, 0, fun _ => nI 0)) ∧ h_ 413 = none) ∨ (r = 413 ∧ cScr 4096 (h_ 413))) := ⟨sz, tp, r, _, _, _, ho, by rw [nb 411 (by omega), nb 413 (by omega)]; exact hr⟩
    clear ho hr n1 n2 n3
    exact pb_CF.mk (fun b hb => (nb b (by omega)).trans (hC.low b hb)) (fun a c e => (nb a (by first | exact cK_ne e rfl | (have := cK_rng e; omega))).trans (hC.k a c e)) (fun a n e => by rw [nb a (by first | exact cS_ne e rfl | (have := cS_rng e; omega))]; exact hC.s a n e) ((nb 60 (by omega)).trans hC.o) ((nb 61 (by omega)).trans hC.pal) (by rw [nb 65 (by omega)]; exact hC.wan) (fun i hi => by rw [nb _ (by omega)]; exact hC.kpr i hi) ((nb 71 (by omega)).trans hC.tub) (fun i hi => by rw [nb _ (by omega)]; exact hC.lmr i hi) (fun i hi => by rw [nb _ (by omega)]; exact hC.sgr i hi) (by rw [nb 76 (by omega)]; exact hC.shw) (fun p hp => (nb _ (by omega)).trans (hC.pot p hp)) (fun p hp => by rw [nb _ (by omega)]; exact hC.ptr p hp) (fun a ha => (nb _ (by omega)).trans (hC.are a ha)) (fun a ha => (nb _ (by omega)).trans (hC.arl a ha)) (fun t h12 ht => (nb _ (by omega)).trans (hC.tbo t h12 ht)) (fun t h12 ht => by rw [nb _ (by omega)]; exact hC.tbd t h12 ht) (fun t h12 ht => by rw [nb _ (by omega)]; exact hC.tbs t h12 ht) (fun t ht ht2 => by have hz_ : A 1 0 ≤ t := ht; rw [nb _ (by omega), nb _ (by omega), nb _ (by omega)]; exact hC.tbn t ht ht2) (fun a i ha h10 hi => by rw [nb _ (by omega), nb _ (by omega), nb _ (by omega)]; exact hC.lyo a i ha h10 hi) (fun a i ha h10 hi => by unfold cCache; rw [nb _ (by omega), nb _ (by omega), nb _ (by omega), nb _ (by omega)]; exact hC.lyc a i ha h10 hi) (fun a i ha hi hi2 q hq => (nb _ (by omega)).trans (hC.lyn a i ha hi hi2 q hq)) (by rw [nb 68 (by omega)]; exact hC.mat) (by rw [nb 309 (by omega)]; exact hC.bst) (hcho) (by rw [nb 70 (by omega)]; exact hC.gla) (by rw [nb 500 (by omega)]; exact hC.glb) (fun a ha => by rw [nb a (by omega)]; exact hC.zer a ha)
  have hr1 : (r = 411 ∧ h_ 411 = some (.inl (0, 0, fun _ => nI 0)) ∧ h_ 413 = none) ∨ (r = 413 ∧ cScr 4096 (h_ 413)) := by rw [nb 411 (by omega), nb 413 (by omega)]; exact hr
  have loop : ∀ (m i : Nat) (h' : pb_H), A 24 0 - i < m → i ≤ A 24 0 → pb_CF A h0 h' → (∀ j, j < i → cRow 3 (fun k => A 25 (3 * j + k)) (h' (480 + j))) → (∀ x, (x < 480 ∨ 486 ≤ x) → h' x = h_ x) → pb_S Z mX1_aimAt 1 0 0 (fun v h' => v = none ∧ pb_CF A h0 h' ∧ (∃ sz tp r, h' 69 = some (.inr (.inr (1, cCh sz tp r (A 24 0) (2 ^ A 24 0 - 1) d))) ∧ ((r = 411 ∧ h' 411 = some (.inl (0, 0, fun _ => nI 0)) ∧ h' 413 = none) ∨ (r = 413 ∧ cScr 4096 (h' 413)))) ∧ (∀ i, i < A 24 0 → cRow 3 (fun j => A 25 (3 * i + j)) (h' (480 + i))) ∧ ∀ x, x ≠ 69 → (x < 480 ∨ 486 ≤ x) → h' x = h x) 22 [some (.ref 69), some (.ref 66), some (.int (nI (A 24 0))), some (.int (nI d)), some (.int (nI i))] [] h' := by
    intro m
    induction m with
    | zero => intro i h' g1; omega
    | succ m ih =>
      intro i h' g1 g2 hC hrow n5
      have ho : h' 69 = _ := (n5 _ (by omega)).trans ho
      refine pb_iload (pc2 := 24) dX1_aimAt_22 rfl rfl ?_
      refine pb_iload_n (pc2 := 25) dX1_aimAt_24 rfl rfl rfl ?_
      refine pb_icmpN_ge (tgt := 51) (pc2 := 28) dX1_aimAt_25 (by decide) rfl (by omega) (by omega) (fun q => ?_) (fun q => ?_)
      · have e : i = A 24 0 := by omega
        subst e
        exact pb_return dX1_aimAt_51 rfl (⟨rfl, hC, ⟨sz, tp, r, ho, by rw [n5 411 (by omega), n5 413 (by omega)]; exact hr1⟩, hrow, fun x x1 x2 => (n5 x x2).trans (nb x x1)⟩)
      · obtain ⟨F, hf, hF⟩ := hC.kpr i (by omega)
        have hF : ∀ j, j < 3 → F j = A 25 (3 * i + j) := hF
        have ecs : cS (480 + i) = some 3 := by
          unfold cS
          rw [if_neg (by omega), if_pos (by omega)]
        obtain ⟨G, hg⟩ := hC.s (480 + i) 3 ecs
        refine pb_aload_n (pc2 := 29) dX1_aimAt_28 rfl rfl rfl ?_
        refine pb_iload (pc2 := 31) dX1_aimAt_29 rfl rfl ?_
        refine pb_aald (pc2 := 32) (by first | assumption | exact hR.a rfl | exact hR.o | exact hC.o | exact hC.pal | exact hC.tub | exact hC.k _ _ rfl | exact hC.pot _ (by omega) | exact hC.are _ (by omega) | exact hC.arl _ (by omega) | exact hC.tbo _ (by omega) (by omega)) dX1_aimAt_31 (by decide) (by omega) (by omega) (cTo_at (by omega)) rfl ?_
        refine pb_iconst (x := nI 0) (pc2 := 33) dX1_aimAt_32 (by decide) rfl ?_
        refine pb_aload_n (pc2 := 34) dX1_aimAt_33 rfl rfl rfl ?_
        refine pb_getf (pc2 := 37) flX1_17_X1 rfl dX1_aimAt_34 (by first | assumption | exact hR.a rfl | exact hR.o | exact hC.o | exact hC.pal | exact hC.tub | exact hC.k _ _ rfl | exact hC.pot _ (by omega) | exact hC.are _ (by omega) | exact hC.arl _ (by omega) | exact hC.tbo _ (by omega) (by omega)) rfl rfl ?_
        refine pb_iload (pc2 := 39) dX1_aimAt_37 rfl rfl ?_
        refine pb_aald (pc2 := 40) (by first | assumption | exact hR.a rfl | exact hR.o | exact hC.o | exact hC.pal | exact hC.tub | exact hC.k _ _ rfl | exact hC.pot _ (by omega) | exact hC.are _ (by omega) | exact hC.arl _ (by omega) | exact hC.tbo _ (by omega) (by omega)) dX1_aimAt_39 (by decide) (by omega) (by omega) (cTo_at (by omega)) rfl ?_
        refine pb_iconst (x := nI 0) (pc2 := 41) dX1_aimAt_40 (by decide) rfl ?_
        refine pb_iconst (x := nI 3) (pc2 := 42) dX1_aimAt_41 (by decide) rfl ?_
        refine pb_acopyG (pc2 := 45) rfl alX1_30 dX1_aimAt_42 hf hg (by omega) (by omega) (by omega) (by omega) (by omega) (by omega) (Nat.le_of_ble_eq_true rfl) rfl (fun h5 hg n6 => ?_)
        refine pb_iincP (c0 := 1) (lv2 := [_, _, _, _, _]) (pc2 := 48) dX1_aimAt_45 rfl (by decide) rfl rfl ?_
        refine pb_goto (tgt := 22) dX1_aimAt_48 (by decide) ?_
        refine ih (i + 1) h5 (by omega) (by omega) (hC.sc ecs hg n6) (fun j hj => ?_) (fun x hx => (n6 x (by omega)).trans (n5 x hx))
        by_cases e : j = i
        · rw [e]
          refine ⟨_, hg, fun k hk => ?_⟩
          rw [if_pos (by omega), show 0 + (k - 0) = k by omega]
          exact hF k hk
        · rw [n6 _ (by omega)]; exact hrow j (by omega)
  refine pb_iconst (x := nI 0) (pc2 := 20) dX1_aimAt_19 (by decide) rfl ?_
  refine pb_istore (lv2 := [_, _, _, _, _]) (pc2 := 22) dX1_aimAt_20 (by decide) rfl rfl ?_
  exact loop (A 24 0 + 1) 0 h_ (by omega) (by omega) hC1 (fun j hj => by omega) (fun _ _ => rfl)
set_option maxRecDepth 10000 in
theorem t_bitCount {n : Nat} (hn : n < 4096) : pb_T Z mJ6_bitCount_0f7a4 0 0 0 [.int (nI n)] h (pb_E (some (.int (nI (fw_pop 12 n)))) h) := by
  refine pb_T.of pnJ6_bitCount_0f7a4 (Nat.le_of_ble_eq_true rfl) (lv := [some (.int (nI n))]) rfl ?_
  refine pb_iload_n (pc2 := 1) dJ6_bitCount_0f7a4_0 rfl rfl rfl ?_
  refine pb_iload_n (pc2 := 2) dJ6_bitCount_0f7a4_1 rfl rfl rfl ?_
  refine pb_iconst (x := nI 1) (pc2 := 3) dJ6_bitCount_0f7a4_2 (by decide) rfl ?_
  refine pb_iushr (pc2 := 4) dJ6_bitCount_0f7a4_3 rfl ?_
  refine pb_ldcw (x := nI 1431655765) (pc2 := 7) dJ6_bitCount_0f7a4_4 kcJ6_265 rfl ?_
  refine pb_iand (pc2 := 8) dJ6_bitCount_0f7a4_7 rfl ?_
  refine pb_isub (pc2 := 9) dJ6_bitCount_0f7a4_8 rfl ?_
  refine pb_istore_n (lv2 := [_]) (pc2 := 10) dJ6_bitCount_0f7a4_9 rfl (by decide) rfl rfl ?_
  refine pb_iload_n (pc2 := 11) dJ6_bitCount_0f7a4_10 rfl rfl rfl ?_
  refine pb_ldcw (x := nI 858993459) (pc2 := 14) dJ6_bitCount_0f7a4_11 kcJ6_266 rfl ?_
  refine pb_iand (pc2 := 15) dJ6_bitCount_0f7a4_14 rfl ?_
  refine pb_iload_n (pc2 := 16) dJ6_bitCount_0f7a4_15 rfl rfl rfl ?_
  refine pb_iconst (x := nI 2) (pc2 := 17) dJ6_bitCount_0f7a4_16 (by decide) rfl ?_
  refine pb_iushr (pc2 := 18) dJ6_bitCount_0f7a4_17 rfl ?_
  refine pb_ldcw (x := nI 858993459) (pc2 := 21) dJ6_bitCount_0f7a4_18 kcJ6_266 rfl ?_
  refine pb_iand (pc2 := 22) dJ6_bitCount_0f7a4_21 rfl ?_
  refine pb_iadd (pc2 := 23) dJ6_bitCount_0f7a4_22 rfl ?_
  refine pb_istore_n (lv2 := [_]) (pc2 := 24) dJ6_bitCount_0f7a4_23 rfl (by decide) rfl rfl ?_
  refine pb_iload_n (pc2 := 25) dJ6_bitCount_0f7a4_24 rfl rfl rfl ?_
  refine pb_iload_n (pc2 := 26) dJ6_bitCount_0f7a4_25 rfl rfl rfl ?_
  refine pb_iconst (x := nI 4) (pc2 := 27) dJ6_bitCount_0f7a4_26 (by decide) rfl ?_
  refine pb_iushr (pc2 := 28) dJ6_bitCount_0f7a4_27 rfl ?_
  refine pb_iadd (pc2 := 29) dJ6_bitCount_0f7a4_28 rfl ?_
  refine pb_ldcw (x := nI 252645135) (pc2 := 32) dJ6_bitCount_0f7a4_29 kcJ6_267 rfl ?_
  refine pb_iand (pc2 := 33) dJ6_bitCount_0f7a4_32 rfl ?_
  refine pb_istore_n (lv2 := [_]) (pc2 := 34) dJ6_bitCount_0f7a4_33 rfl (by decide) rfl rfl ?_
  refine pb_iload_n (pc2 := 35) dJ6_bitCount_0f7a4_34 rfl rfl rfl ?_
  refine pb_iload_n (pc2 := 36) dJ6_bitCount_0f7a4_35 rfl rfl rfl ?_
  refine pb_bipush (x := nI 8) (pc2 := 38) dJ6_bitCount_0f7a4_36 (by decide) rfl ?_
  refine pb_iushr (pc2 := 39) dJ6_bitCount_0f7a4_38 rfl ?_
  refine pb_iadd (pc2 := 40) dJ6_bitCount_0f7a4_39 rfl ?_
  refine pb_istore_n (lv2 := [_]) (pc2 := 41) dJ6_bitCount_0f7a4_40 rfl (by decide) rfl rfl ?_
  refine pb_iload_n (pc2 := 42) dJ6_bitCount_0f7a4_41 rfl rfl rfl ?_
  refine pb_iload_n (pc2 := 43) dJ6_bitCount_0f7a4_42 rfl rfl rfl ?_
  refine pb_bipush (x := nI 16) (pc2 := 45) dJ6_bitCount_0f7a4_43 (by decide) rfl ?_
  refine pb_iushr (pc2 := 46) dJ6_bitCount_0f7a4_45 rfl ?_
  refine pb_iadd (pc2 := 47) dJ6_bitCount_0f7a4_46 rfl ?_
  refine pb_istore_n (lv2 := [_]) (pc2 := 48) dJ6_bitCount_0f7a4_47 rfl (by decide) rfl rfl ?_
  refine pb_iload_n (pc2 := 49) dJ6_bitCount_0f7a4_48 rfl rfl rfl ?_
  refine pb_bipush (x := nI 63) (pc2 := 51) dJ6_bitCount_0f7a4_49 (by decide) rfl ?_
  refine pb_iand (pc2 := 52) dJ6_bitCount_0f7a4_51 rfl ?_
  refine pb_top (v2 := .int (nI (fw_pop 12 n))) (by rw [← bc_ok n hn]; rfl) ?_
  exact pb_ireturn dJ6_bitCount_0f7a4_52 rfl (⟨rfl, rfl⟩)
set_option maxRecDepth 10000 in
theorem t_passOn {T : Nat} {R M : Nat → Nat} {sz tp gc ag fa : Nat} (hT : T ≤ 12) (ho : h 69 = some (.inr (.inr (1, cCh sz tp 413 gc ag fa)))) (h413 : h 413 = some (.inl (0, 4096, fun j => nI (R j)))) (hR : ∀ j, j < 4096 → R j = M j) : pb_T Z mX1_passOn 0 0 0 [.ref 69, .int (nI (2 ^ T))] h (fun v h' => v = none ∧ (∃ R' : Nat → Nat, h' 413 = some (.inl (0, 4096, fun j => nI (R' j))) ∧ ∀ j, j < 2 ^ T → ∀ k, (R' j).testBit k = true ↔ fw_sub M j k) ∧ ∀ x, x ≠ 413 → h' x = h x) := by
  obtain ⟨hp1, hp2⟩ := pb_2p hT
  refine pb_T.of pnX1_passOn (Nat.le_of_ble_eq_true rfl) (lv := [some (.ref 69), some (.int (nI (2 ^ T))), none, none, none]) rfl ?_
  have outer : ∀ (q t : Nat) (R : Nat → Nat) (h' : pb_H) (o3 o4 : Option Value), 12 - t < q → t ≤ 12 → h' 413 = some (.inl (0, 4096, fun j => nI (R j))) → (∀ j, j < 2 ^ T → ∀ k, (R j).testBit k = true ↔ pv M t j k) → (∀ x, x ≠ 413 → h' x = h x) → pb_S Z mX1_passOn 0 0 0 (fun v h' => v = none ∧ (∃ R' : Nat → Nat, h' 413 = some (.inl (0, 4096, fun j => nI (R' j))) ∧ ∀ j, j < 2 ^ T → ∀ k, (R' j).testBit k = true ↔ fw_sub M j k) ∧ ∀ x, x ≠ 413 → h' x = h x) 2 [some (.ref 69), some (.int (nI (2 ^ T))), some (.int (nI t)), o3, o4] [] h' := by
    intro q
    induction q with
    | zero => intro t R h' o3 o4 g1; omega
    | succ q ih =>
      intro t R h' o3 o4 g1 g2 h413 hR nb
      refine pb_iload_n (pc2 := 3) dX1_passOn_2 rfl rfl rfl ?_
      refine pb_bipush (x := nI 12) (pc2 := 5) dX1_passOn_3 (by decide) rfl ?_
      refine pb_icmpN_ge (tgt := 59) (pc2 := 8) dX1_passOn_5 (by decide) rfl (by omega) (by omega) (fun c => ?_) (fun c => ?_)
      · have e : t = 12 := by omega
        subst e
        exact pb_return dX1_passOn_59 rfl (⟨rfl, ⟨R, h413, fun j hj k => (hR j hj k).trans (pv_12 (by omega))⟩, nb⟩)
      · have ht2 : 2 ^ t < 2 ^ 31 := Nat.pow_lt_pow_right (by omega) (by omega)
        have inner : ∀ (q2 s : Nat) (R2 : Nat → Nat) (h' : pb_H), 2 ^ T - s < q2 → s ≤ 2 ^ T → h' 413 = some (.inl (0, 4096, fun j => nI (R2 j))) → (∀ j, j < 2 ^ T → ∀ k, (R2 j).testBit k = true ↔ (if j < s then pv M (t + 1) j k else pv M t j k)) → (∀ x, x ≠ 413 → h' x = h x) → pb_S Z mX1_passOn 0 0 0 (fun v h' => v = none ∧ (∃ R' : Nat → Nat, h' 413 = some (.inl (0, 4096, fun j => nI (R' j))) ∧ ∀ j, j < 2 ^ T → ∀ k, (R' j).testBit k = true ↔ fw_sub M j k) ∧ ∀ x, x ≠ 413 → h' x = h x) 15 [some (.ref 69), some (.int (nI (2 ^ T))), some (.int (nI t)), some (.int (nI (2 ^ t))), some (.int (nI s))] [] h' := by
          intro q2
          induction q2 with
          | zero => intro s R2 h' k1; omega
          | succ q2 ih2 =>
            intro s R2 h' k1 k2 h413 hR2 nb
            have ho : h' 69 = _ := (nb _ (by omega)).trans ho
            refine pb_iload (pc2 := 17) dX1_passOn_15 rfl rfl ?_
            refine pb_iload_n (pc2 := 18) dX1_passOn_17 rfl rfl rfl ?_
            refine pb_icmpN_ge (tgt := 53) (pc2 := 21) dX1_passOn_18 (by decide) rfl (by omega) (by omega) (fun c2 => ?_) (fun c2 => ?_)
            · refine pb_iincP (c0 := 1) (lv2 := [_, _, _, _, _]) (pc2 := 56) dX1_passOn_53 rfl (by decide) rfl rfl ?_
              refine pb_goto (tgt := 2) dX1_passOn_56 (by decide) ?_
              refine ih (t + 1) R2 h' _ _ (by omega) (by omega) h413 (fun j hj k => ?_) nb
              have := hR2 j hj k
              rw [if_pos (by omega)] at this
              exact this
            · have hand : s &&& 2 ^ t = if s.testBit t then 2 ^ t else 0 := and_p2
              have hpos : 1 ≤ 2 ^ t := Nat.one_le_two_pow
              have hle : (if s.testBit t then 2 ^ t else 0) < 2 ^ 31 := by split <;> omega
              refine pb_iload (pc2 := 23) dX1_passOn_21 rfl rfl ?_
              refine pb_iload_n (pc2 := 24) dX1_passOn_23 rfl rfl rfl ?_
              refine pb_iandN (pc2 := 25) dX1_passOn_24 rfl ?_
              refine pb_top (v2 := .int (nI (if s.testBit t then 2 ^ t else 0))) (by rw [hand]) ?_
              refine pb_ifN_eq (tgt := 47) (pc2 := 28) dX1_passOn_25 (by decide) rfl (by omega) (fun c3 => ?_) (fun c3 => ?_)
              · have hb : s.testBit t = false := by
                  cases hb : s.testBit t with
                  | false => rfl
                  | true => rw [hb, if_pos rfl] at c3; omega
                refine pb_iincP (c0 := 1) (lv2 := [_, _, _, _, _]) (pc2 := 50) dX1_passOn_47 rfl (by decide) rfl rfl ?_
                refine pb_goto (tgt := 15) dX1_passOn_50 (by decide) ?_
                refine ih2 (s + 1) R2 h' (by omega) (by omega) h413 (fun j hj k => ?_) nb
                by_cases e : j = s
                · subst e
                  have := hR2 j hj k
                  rw [if_neg (by omega)] at this
                  rw [if_pos (by omega), this, pv_s, hb]
                  exact ⟨fun z => Or.inl z, fun z => z.elim id (fun y => by cases y.1)⟩
                · have := hR2 j hj k
                  by_cases e2 : j < s
                  · rw [if_pos e2] at this; rw [if_pos (by omega)]; exact this
                  · rw [if_neg e2] at this; rw [if_neg (by omega)]; exact this
              · have hb : s.testBit t = true := by
                  cases hb : s.testBit t with
                  | true => rfl
                  | false => rw [hb, if_neg (by simp)] at c3; omega
                have hx := x_lt (show s < 4096 by omega) hb
                refine pb_aload_n (pc2 := 29) dX1_passOn_28 rfl rfl rfl ?_
                refine pb_getf (pc2 := 32) flX1_9_X1 rfl dX1_passOn_29 (by first | assumption | exact hR.a rfl | exact hR.o | exact hC.o | exact hC.pal | exact hC.tub | exact hC.k _ _ rfl | exact hC.pot _ (by omega) | exact hC.are _ (by omega) | exact hC.arl _ (by omega) | exact hC.tbo _ (by omega) (by omega)) rfl rfl ?_
                refine pb_iload (pc2 := 34) dX1_passOn_32 rfl rfl ?_
                refine pb_dup2 (pc2 := 35) dX1_passOn_34 rfl rfl rfl ?_
                refine pb_iald (pc2 := 36) h413 ⟨by decide, rfl⟩ dX1_passOn_35 (by omega) (by omega) rfl ?_
                refine pb_aload_n (pc2 := 37) dX1_passOn_36 rfl rfl rfl ?_
                refine pb_getf (pc2 := 40) flX1_9_X1 rfl dX1_passOn_37 (by first | assumption | exact hR.a rfl | exact hR.o | exact hC.o | exact hC.pal | exact hC.tub | exact hC.k _ _ rfl | exact hC.pot _ (by omega) | exact hC.are _ (by omega) | exact hC.arl _ (by omega) | exact hC.tbo _ (by omega) (by omega)) rfl rfl ?_
                refine pb_iload (pc2 := 42) dX1_passOn_40 rfl rfl ?_
                refine pb_iload_n (pc2 := 43) dX1_passOn_42 rfl rfl rfl ?_
                refine pb_ixorN (pc2 := 44) dX1_passOn_43 rfl ?_
                refine pb_iald (pc2 := 45) h413 ⟨by decide, rfl⟩ dX1_passOn_44 (by omega) (by omega) rfl ?_
                refine pb_iorN (pc2 := 46) dX1_passOn_45 rfl ?_
                refine pb_iastG (pc2 := 47) h413 dX1_passOn_46 (by omega) (by omega) (by omega) rfl (fun h5 h413 n5 => ?_)
                refine pb_iincP (c0 := 1) (lv2 := [_, _, _, _, _]) (pc2 := 50) dX1_passOn_47 rfl (by decide) rfl rfl ?_
                refine pb_goto (tgt := 15) dX1_passOn_50 (by decide) ?_
                refine ih2 (s + 1) _ h5 (by omega) (by omega) h413 (fun j hj k => ?_) (fun x hx => (n5 x hx).trans (nb x hx))
                by_cases e : j = s
                · subst e
                  have h1 := hR2 j hj k
                  rw [if_neg (by omega)] at h1
                  have h2 := hR2 (j ^^^ 2 ^ t) (by omega) k
                  rw [if_pos hx] at h2
                  have hxb : (j ^^^ 2 ^ t).testBit t = false := by rw [tb_x, hb, decide_eq_true rfl]; rfl
                  have h3 : pv M (t + 1) (j ^^^ 2 ^ t) k ↔ pv M t (j ^^^ 2 ^ t) k := by
                    rw [pv_s, hxb]
                    exact ⟨fun z => z.elim id (fun y => by cases y.1), fun z => Or.inl z⟩
                  rw [if_pos (by omega), pb_un_self, Nat.testBit_or, Bool.or_eq_true, h1, h2, h3, pv_s, hb]
                  exact ⟨fun z => z.elim Or.inl (fun y => Or.inr ⟨rfl, y⟩), fun z => z.elim Or.inl (fun y => Or.inr y.2)⟩
                · have := hR2 j hj k
                  rw [pb_un_ne _ _ e]
                  by_cases e2 : j < s
                  · rw [if_pos e2] at this; rw [if_pos (by omega)]; exact this
                  · rw [if_neg e2] at this; rw [if_neg (by omega)]; exact this
        refine pb_iconst (x := nI 1) (pc2 := 9) dX1_passOn_8 (by decide) rfl ?_
        refine pb_iload_n (pc2 := 10) dX1_passOn_9 rfl rfl rfl ?_
        refine pb_ishl1 (pc2 := 11) dX1_passOn_10 (by omega) rfl ?_
        refine pb_istore_n (lv2 := [_, _, _, _, _]) (pc2 := 12) dX1_passOn_11 rfl (by decide) rfl rfl ?_
        refine pb_iconst (x := nI 0) (pc2 := 13) dX1_passOn_12 (by decide) rfl ?_
        refine pb_istore (lv2 := [_, _, _, _, _]) (pc2 := 15) dX1_passOn_13 (by decide) rfl rfl ?_
        refine inner (2 ^ T + 1) 0 R h' (by omega) (by omega) h413 (fun j hj k => ?_) nb
        rw [if_neg (by omega)]
        exact hR j hj k
  refine pb_iconst (x := nI 0) (pc2 := 1) dX1_passOn_0 (by decide) rfl ?_
  refine pb_istore_n (lv2 := [_, _, _, _, _]) (pc2 := 2) dX1_passOn_1 rfl (by decide) rfl rfl ?_
  exact outer 13 0 R h _ _ (by omega) (by omega) h413 (fun j hj k => by rw [hR j (by omega)]; exact pv_0.symm) (fun _ _ => rfl)
set_option maxRecDepth 10000 in
theorem t_leastOf {T m : Nat} {R M : Nat → Nat} {sz tp fa : Nat} (hT : T ≤ 12) (hm : m ≤ 6) (hok : fw_ok m M) (ho : h 69 = some (.inr (.inr (1, cCh sz tp 413 m (2 ^ m - 1) fa)))) (h413 : h 413 = some (.inl (0, 4096, fun j => nI (R j)))) (hR : ∀ j, j < 2 ^ T → ∀ k, (R j).testBit k = true ↔ fw_sub M j k) : pb_T Z mX1_leastOf 1 0 0 [.ref 69, .int (nI (2 ^ T))] h (pb_E (some (.int (if (fw_sel M m T (2 ^ T - 1)).1 = 0 then -2 else nI (fw_sel M m T (2 ^ T - 1)).1))) h) := by
  obtain ⟨hp1, hp2⟩ := pb_2p hT
  have hm64 : 2 ^ m ≤ 64 ∧ 1 ≤ 2 ^ m := ⟨Nat.pow_le_pow_right (n := 2) (by omega) hm, Nat.one_le_two_pow⟩
  have hRl : ∀ j, j < 2 ^ T → R j < 2 ^ m := fun j hj => by
    apply Nat.lt_of_not_le
    intro z
    obtain ⟨i, i1, i2⟩ := Nat.exists_ge_and_testBit_of_ge_two_pow z
    obtain ⟨sub, -, h2⟩ := (hR j hj i).mp i2
    have := hok _ _ h2
    omega
  refine pb_T.of pnX1_leastOf (Nat.le_of_ble_eq_true rfl) (lv := [some (.ref 69), some (.int (nI (2 ^ T))), none, none, none]) rfl ?_
  have loop : ∀ (q s : Nat), 2 ^ T - s < q → 1 ≤ s → s ≤ 2 ^ T → pb_S Z mX1_leastOf 1 0 0 (pb_E (some (.int (if (fw_sel M m T (2 ^ T - 1)).1 = 0 then -2 else nI (fw_sel M m T (2 ^ T - 1)).1))) h) 9 [some (.ref 69), some (.int (nI (2 ^ T))), some (.int (if (fw_sel M m T (s - 1)).1 = 0 then -2 else nI (fw_sel M m T (s - 1)).1)), some (.int (nI (fw_sel M m T (s - 1)).2)), some (.int (nI s))] [] h := by
    intro q
    induction q with
    | zero => intro s g1; omega
    | succ q ih =>
      intro s g1 g2 g3
      refine pb_iload (pc2 := 11) dX1_leastOf_9 rfl rfl ?_
      refine pb_iload_n (pc2 := 12) dX1_leastOf_11 rfl rfl rfl ?_
      refine pb_icmpN_ge (tgt := 53) (pc2 := 15) dX1_leastOf_12 (by decide) rfl (by omega) (by omega) (fun c => ?_) (fun c => ?_)
      · have e : s = 2 ^ T := by omega
        subst e
        refine pb_iload_n (pc2 := 54) dX1_leastOf_53 rfl rfl rfl ?_
        exact pb_ireturn dX1_leastOf_54 rfl (⟨rfl, rfl⟩)
      · have hRs := hRl s c
        obtain ⟨f1, f2, f3⟩ := fw_sel_le (M := M) (m := m) hT (s - 1)
        have hfi := fw_full_iff hok (hR s c)
        have hpl := fw_pop_le s T
        have hpT := fw_pop_T hT c
        obtain ⟨s', rfl⟩ : ∃ s', s = s' + 1 := ⟨s - 1, by omega⟩
        rw [Nat.add_sub_cancel] at f1 f2 f3 ⊢
        have hsel : fw_sel M m T (s' + 1) = pb_if (fw_full M m (s' + 1) ∧ fw_pop T (s' + 1) < (fw_sel M m T s').2) (s' + 1, fw_pop T (s' + 1)) (fw_sel M m T s') := rfl
        refine pb_aload_n (pc2 := 16) dX1_leastOf_15 rfl rfl rfl ?_
        refine pb_getf (pc2 := 19) flX1_9_X1 rfl dX1_leastOf_16 (by first | assumption | exact hR.a rfl | exact hR.o | exact hC.o | exact hC.pal | exact hC.tub | exact hC.k _ _ rfl | exact hC.pot _ (by omega) | exact hC.are _ (by omega) | exact hC.arl _ (by omega) | exact hC.tbo _ (by omega) (by omega)) rfl rfl ?_
        refine pb_iload (pc2 := 21) dX1_leastOf_19 rfl rfl ?_
        refine pb_iald (pc2 := 22) h413 ⟨by decide, rfl⟩ dX1_leastOf_21 (by omega) (by omega) rfl ?_
        refine pb_aload_n (pc2 := 23) dX1_leastOf_22 rfl rfl rfl ?_
        refine pb_getf (pc2 := 26) flX1_24_X1 rfl dX1_leastOf_23 (by first | assumption | exact hR.a rfl | exact hR.o | exact hC.o | exact hC.pal | exact hC.tub | exact hC.k _ _ rfl | exact hC.pot _ (by omega) | exact hC.are _ (by omega) | exact hC.arl _ (by omega) | exact hC.tbo _ (by omega) (by omega)) rfl rfl ?_
        refine pb_icmpN_ne (tgt := 47) (pc2 := 29) dX1_leastOf_26 (by decide) rfl (by omega) (by omega) (fun c2 => ?_) (fun c2 => ?_)
        · rw [pb_if_neg (fun z => c2 (hfi.mpr z.1))] at hsel
          refine pb_iincP (c0 := 1) (lv2 := [_, _, _, _, _]) (pc2 := 50) dX1_leastOf_47 rfl (by decide) rfl rfl ?_
          refine pb_goto (tgt := 9) dX1_leastOf_50 (by decide) ?_
          have := ih (s' + 1 + 1) (by omega) (by omega) (by omega)
          rw [Nat.add_sub_cancel, hsel] at this
          exact this
        · refine pb_iload (pc2 := 31) dX1_leastOf_29 rfl rfl ?_
          refine pb_callS (pc2 := 34) (k2 := 0) (n2 := 0) mwJ6_bitCount_0f7a4 swJ6_bitCount_0f7a4 rfl mlX1_72 dX1_leastOf_31 (t_bitCount (show s' + 1 < 4096 by omega)) (by omega) (by omega) (by omega) rfl rfl (Nat.le_of_ble_eq_true rfl) rfl (pb_kE ?_)
          refine pb_top (v2 := .int (nI (fw_pop T (s' + 1)))) (by rw [hpT]) ?_
          refine pb_iload_n (pc2 := 35) dX1_leastOf_34 rfl rfl rfl ?_
          refine pb_icmpN_ge (tgt := 47) (pc2 := 38) dX1_leastOf_35 (by decide) rfl (by omega) (by omega) (fun c3 => ?_) (fun c3 => ?_)
          · rw [pb_if_neg (fun z => by have := z.2; omega)] at hsel
            refine pb_iincP (c0 := 1) (lv2 := [_, _, _, _, _]) (pc2 := 50) dX1_leastOf_47 rfl (by decide) rfl rfl ?_
            refine pb_goto (tgt := 9) dX1_leastOf_50 (by decide) ?_
            have := ih (s' + 1 + 1) (by omega) (by omega) (by omega)
            rw [Nat.add_sub_cancel, hsel] at this
            exact this
          · rw [pb_if_pos ⟨hfi.mp c2, c3⟩] at hsel
            refine pb_iload (pc2 := 40) dX1_leastOf_38 rfl rfl ?_
            refine pb_istore_n (lv2 := [_, _, _, _, _]) (pc2 := 41) dX1_leastOf_40 rfl (by decide) rfl rfl ?_
            refine pb_iload (pc2 := 43) dX1_leastOf_41 rfl rfl ?_
            refine pb_callS (pc2 := 46) (k2 := 0) (n2 := 0) mwJ6_bitCount_0f7a4 swJ6_bitCount_0f7a4 rfl mlX1_72 dX1_leastOf_43 (t_bitCount (show s' + 1 < 4096 by omega)) (by omega) (by omega) (by omega) rfl rfl (Nat.le_of_ble_eq_true rfl) rfl (pb_kE ?_)
            refine pb_top (v2 := .int (nI (fw_pop T (s' + 1)))) (by rw [hpT]) ?_
            refine pb_istore_n (lv2 := [_, _, _, _, _]) (pc2 := 47) dX1_leastOf_46 rfl (by decide) rfl rfl ?_
            refine pb_iincP (c0 := 1) (lv2 := [_, _, _, _, _]) (pc2 := 50) dX1_leastOf_47 rfl (by decide) rfl rfl ?_
            refine pb_goto (tgt := 9) dX1_leastOf_50 (by decide) ?_
            have := ih (s' + 1 + 1) (by omega) (by omega) (by omega)
            have e6 : (if (s' + 1, fw_pop T (s' + 1)).1 = 0 then (-2 : Int32) else nI (s' + 1, fw_pop T (s' + 1)).1) = nI (s' + 1) := if_neg (Nat.succ_ne_zero s')
            rw [Nat.add_sub_cancel, hsel, e6] at this
            exact this
  refine pb_bipush (x := -2) (pc2 := 2) dX1_leastOf_0 (by decide) rfl ?_
  refine pb_istore_n (lv2 := [_, _, _, _, _]) (pc2 := 3) dX1_leastOf_2 rfl (by decide) rfl rfl ?_
  refine pb_bipush (x := nI 13) (pc2 := 5) dX1_leastOf_3 (by decide) rfl ?_
  refine pb_istore_n (lv2 := [_, _, _, _, _]) (pc2 := 6) dX1_leastOf_5 rfl (by decide) rfl rfl ?_
  refine pb_iconst (x := nI 1) (pc2 := 7) dX1_leastOf_6 (by decide) rfl ?_
  refine pb_istore (lv2 := [_, _, _, _, _]) (pc2 := 9) dX1_leastOf_7 (by decide) rfl rfl ?_
  exact loop (2 ^ T + 1) 1 (by omega) (by omega) (by omega)
set_option maxRecDepth 10000 in
theorem t_fewestOf (w : pb_WF A) (hC : pb_CF A h0 h) {l n d sz tp r : Nat} (hl : l < 4) (hL : pb_LT A l h) (hn1 : 1 ≤ n) (hn : n ≤ 6) (hd30 : d ≤ 30000) (ho : h 69 = some (.inr (.inr (1, cCh sz tp r (A 24 0) (2 ^ A 24 0 - 1) d)))) (hr : (r = 411 ∧ h 411 = some (.inl (0, 0, fun _ => nI 0)) ∧ h 413 = none) ∨ (r = 413 ∧ cScr 4096 (h 413))) (hX : exC A h) : pb_T Z mX1_fewestOf 8 1 4096 [.ref 69, .ref 61, .ref 62, .int (nI n)] h (fun v h' => v = some (.int (if fw_r A l n d = 0 then -2 else nI (fw_r A l n d))) ∧ pb_CF A h0 h') := by
  have htt := w.tubes
  obtain ⟨hp1, hp2⟩ := pb_2p htt
  have h24 : A 24 0 ≤ 6 := w.rest.2.2.2.2.2.1
  refine pb_T.of pnX1_fewestOf (Nat.le_of_ble_eq_true rfl) (lv := [some (.ref 69), some (.ref 61), some (.ref 62), some (.int (nI n)), none]) rfl ?_
  -- from the row's clearing on
  have go : ∀ (h1 : pb_H), h1 69 = some (.inr (.inr (1, cCh sz tp 413 (A 24 0) (2 ^ A 24 0 - 1) d))) → cScr 4096 (h1 413) → (∀ x, x ≠ 69 → x ≠ 413 → h1 x = h x) → pb_S Z mX1_fewestOf 8 0 0 (fun v h' => v = some (.int (if fw_r A l n d = 0 then -2 else nI (fw_r A l n d))) ∧ pb_CF A h0 h') 17 [some (.ref 69), some (.ref 61), some (.ref 62), some (.int (nI n)), none] [] h1 := by
    intro h1 ho h413 nb
    refine pb_aload_n (pc2 := 18) dX1_fewestOf_17 rfl rfl rfl ?_
    refine pb_getf (pc2 := 21) flX1_9_X1 rfl dX1_fewestOf_18 (by first | assumption | exact hR.a rfl | exact hR.o | exact hC.o | exact hC.pal | exact hC.tub | exact hC.k _ _ rfl | exact hC.pot _ (by omega) | exact hC.are _ (by omega) | exact hC.arl _ (by omega) | exact hC.tbo _ (by omega) (by omega)) rfl rfl ?_
    refine pb_iconst (x := nI 0) (pc2 := 22) dX1_fewestOf_21 (by decide) rfl ?_
    refine pb_callS (pc2 := 25) (k2 := 0) (n2 := 0) mwJ7_fill_53178 swJ7_fill_53178 rfl mlX1_36 dX1_fewestOf_22 (t_fill (c := 0) (n := 4096) h413 (by omega) (by omega)) (by omega) (by omega) (by omega) rfl rfl (Nat.le_of_ble_eq_true rfl) rfl (pb_kW (fun h2 R h413 hR n2 => ?_))
    have ho := (n2 _ (by omega)).trans ho
    have nb2 : ∀ x, x ≠ 69 → x ≠ 413 → h2 x = h x := fun x x1 x2 => (n2 x x2).trans (nb x x1 x2)
    have hrow : cRow 4096 (fun _ => 0) (h2 413) := ⟨R, h413, hR⟩
    have hC2 : pb_CF A h0 h2 := k_obC hC (fun a m e => by rw [nb2 a (cS_ne e rfl) (cS_ne e rfl)]; exact hC.s a m e) (fun x _ x2 x3 => nb2 x x2 x3) ⟨sz, tp, _, _, _, ho⟩ (cRow_scr hrow)
    have hST : stC A d (fun _ => 0) sz tp h0 h2 := ⟨hC2, ho, hrow, fun j i z => by rw [Nat.zero_testBit] at z; cases z⟩
    have hX2 : exC A h2 := ⟨(nb2 _ (by omega) (by omega)).trans hX.1, fun i hi => by rw [nb2 _ (by omega) (by omega)]; exact hX.2 i hi⟩
    have hL2 : pb_LT A l h2 := hL.up (fun x x1 x2 => nb2 x (by omega) (by omega))
    have hP : palA A h2 := palA.of hC2
    have h61 := hP.1
    refine pb_iconst (x := nI 1) (pc2 := 26) dX1_fewestOf_25 (by decide) rfl ?_
    refine pb_aload_n (pc2 := 27) dX1_fewestOf_26 rfl rfl rfl ?_
    refine pb_getf (pc2 := 30) flX1_42_X8 rfl dX1_fewestOf_27 (by first | assumption | exact hR.a rfl | exact hR.o | exact hC.o | exact hC.pal | exact hC.tub | exact hC.k _ _ rfl | exact hC.pot _ (by omega) | exact hC.are _ (by omega) | exact hC.arl _ (by omega) | exact hC.tbo _ (by omega) (by omega)) rfl rfl ?_
    refine pb_ishl1 (pc2 := 31) dX1_fewestOf_30 (by omega) rfl ?_
    refine pb_istore (lv2 := [_, _, _, _, _]) (pc2 := 33) dX1_fewestOf_31 (by decide) rfl rfl ?_
    refine pb_aload_n (pc2 := 34) dX1_fewestOf_33 rfl rfl rfl ?_
    refine pb_aload_n (pc2 := 35) dX1_fewestOf_34 rfl rfl rfl ?_
    refine pb_aload_n (pc2 := 36) dX1_fewestOf_35 rfl rfl rfl ?_
    refine pb_iload (pc2 := 38) dX1_fewestOf_36 rfl rfl ?_
    refine pb_iconst (x := nI 1) (pc2 := 39) dX1_fewestOf_38 (by decide) rfl ?_
    refine pb_isubN (pc2 := 40) dX1_fewestOf_39 (by omega) rfl ?_
    refine pb_iload_n (pc2 := 41) dX1_fewestOf_40 rfl rfl rfl ?_
    refine pb_callU (x := ⟨RX1, "goThrough", "(LPaintBox$Palette;LPaintBox$Light;II)V"⟩) (owner := RX9) (pc2 := 44) (k2 := 0) (n2 := 0) mwX9_goThrough pb_cl1.1 rfl ⟨by decide, by decide⟩ iwX9_goThrough suX1_goThrough smX1_goThrough (Or.inl rfl) rfl mlX1_47 dX1_fewestOf_41 (by first | assumption | exact hR.a rfl | exact hR.o | exact hC.o | exact hC.pal | exact hC.tub | exact hC.k _ _ rfl | exact hC.pot _ (by omega) | exact hC.are _ (by omega) | exact hC.arl _ (by omega) | exact hC.tbo _ (by omega) (by omega)) (t_goC w (s := 2 ^ A 1 0 - 1) hl hd30 h24 (by omega) (fun t ht => by rw [Nat.testBit_two_pow_sub_one, decide_eq_false (by omega)]) hn1 (by omega) hST hX2 hL2 hP) (by omega) (by omega) (by omega) rfl rfl (Nat.le_of_ble_eq_true rfl) rfl (fun v h5 q _ => ?_)
    obtain ⟨rfl, sz5, k5, hC5, ho5, ⟨R5, h413, hR5⟩, hok5⟩ := q
    have hM : (en_l (2 ^ A 1 0 - 1) (A 1 0) 0 n (fun _ => 0)).foldl (fw_st A l d) (fun _ => 0) = fw_M A l n d := rfl
    rw [hM] at hR5 hok5
    refine pb_aload_n (pc2 := 45) dX1_fewestOf_44 rfl rfl rfl ?_
    refine pb_iload (pc2 := 47) dX1_fewestOf_45 rfl rfl ?_
    refine pb_callV (pc2 := 50) (k2 := 0) (n2 := 0) mwX1_passOn pb_cl1.1 iwX1_passOn seX1_passOn rfl mlX1_51 dX1_fewestOf_47 (by first | assumption | exact hR.a rfl | exact hR.o | exact hC.o | exact hC.pal | exact hC.tub | exact hC.k _ _ rfl | exact hC.pot _ (by omega) | exact hC.are _ (by omega) | exact hC.arl _ (by omega) | exact hC.tbo _ (by omega) (by omega)) (t_passOn htt ho5 h413 hR5) (by omega) (by omega) (by omega) rfl rfl (Nat.le_of_ble_eq_true rfl) rfl (fun v h6 q _ => ?_)
    obtain ⟨rfl, ⟨R6, h413, hR6⟩, n6⟩ := q
    have ho6 := (n6 _ (by omega)).trans ho5
    refine pb_aload_n (pc2 := 51) dX1_fewestOf_50 rfl rfl rfl ?_
    refine pb_iload (pc2 := 53) dX1_fewestOf_51 rfl rfl ?_
    refine pb_callV (pc2 := 56) (k2 := 0) (n2 := 0) mwX1_leastOf pb_cl1.1 iwX1_leastOf seX1_leastOf rfl mlX1_55 dX1_fewestOf_53 (by first | assumption | exact hR.a rfl | exact hR.o | exact hC.o | exact hC.pal | exact hC.tub | exact hC.k _ _ rfl | exact hC.pot _ (by omega) | exact hC.are _ (by omega) | exact hC.arl _ (by omega) | exact hC.tbo _ (by omega) (by omega)) (t_leastOf htt h24 hok5 ho6 h413 hR6) (by omega) (by omega) (by omega) rfl rfl (Nat.le_of_ble_eq_true rfl) rfl (pb_kE ?_)
    have hC6 : pb_CF A h0 h6 := k_obC hC5 (fun a m e => by rw [n6 a (cS_ne e rfl)]; exact hC5.s a m e) (fun x _ x2 x3 => n6 x x3) ⟨_, _, _, _, _, ho6⟩ ⟨R6, h413⟩
    exact pb_ireturn dX1_fewestOf_56 rfl (⟨rfl, hC6⟩)
  refine pb_aload_n (pc2 := 1) dX1_fewestOf_0 rfl rfl rfl ?_
  rcases hr with ⟨rfl, h411, h413⟩ | ⟨rfl, h413⟩
  · refine pb_getf (pc2 := 4) flX1_9_X1 rfl dX1_fewestOf_1 (by first | assumption | exact hR.a rfl | exact hR.o | exact hC.o | exact hC.pal | exact hC.tub | exact hC.k _ _ rfl | exact hC.pot _ (by omega) | exact hC.are _ (by omega) | exact hC.arl _ (by omega) | exact hC.tbo _ (by omega) (by omega)) rfl rfl ?_
    refine pb_alenC (pc2 := 5) h411 dX1_fewestOf_4 (by decide) rfl ?_
    refine pb_ifN_ne (tgt := 17) (pc2 := 8) dX1_fewestOf_5 (by decide) rfl (by omega) (fun c => ?_) (fun c => ?_)
    · omega
    · refine pb_aload_n (pc2 := 9) dX1_fewestOf_8 rfl rfl rfl ?_
      refine pb_sipush (x := nI 4096) (pc2 := 12) dX1_fewestOf_9 (by decide) rfl ?_
      refine pb_newaG (413) (k2 := 0) (n2 := 0) (pc2 := 14) dX1_fewestOf_12 ⟨by decide, rfl⟩ pb_aI (h413) (by omega) (by omega) (by omega) (by omega) rfl (fun h_ h413 n1 => ?_)
      have ho := (n1 _ (by omega)).trans ho
      refine pb_putG (fs2 := [_, _, _, _, _, _, _, _, _, _, _, _, _, _, _, _]) (pc2 := 17) flX1_9_X1 rfl dX1_fewestOf_14 ho (by omega) rfl rfl rfl rfl rfl (fun h_ ho n2 => ?_)
      have h413 := (n2 _ (by omega)).trans h413
      exact go _ ho ⟨fun _ => 0, h413⟩ (fun x x1 x2 => (n2 x x1).trans (n1 x x2))
  · obtain ⟨R, h413⟩ := h413
    refine pb_getf (pc2 := 4) flX1_9_X1 rfl dX1_fewestOf_1 (by first | assumption | exact hR.a rfl | exact hR.o | exact hC.o | exact hC.pal | exact hC.tub | exact hC.k _ _ rfl | exact hC.pot _ (by omega) | exact hC.are _ (by omega) | exact hC.arl _ (by omega) | exact hC.tbo _ (by omega) (by omega)) rfl rfl ?_
    refine pb_alenC (pc2 := 5) h413 dX1_fewestOf_4 (by decide) rfl ?_
    refine pb_ifN_ne (tgt := 17) (pc2 := 8) dX1_fewestOf_5 (by decide) rfl (by omega) (fun c => ?_) (fun c => ?_)
    · exact (go h ho ⟨R, h413⟩ (fun _ _ _ => rfl)).le (by omega) (by omega)
    · omega
set_option maxRecDepth 10000 in
theorem c_fewest (w : pb_WF A) (hC : pb_CF A h h) (l n d : Int32) : pb_T Z mX11_fewest 9 1 4096 [.ref 60, .int l, .int n, .int d] h (pb_PC (sp_fewest A l n d) h) := by
  have htt := w.tubes
  have h24 : A 24 0 ≤ 6 := w.rest.2.2.2.2.2.1
  refine pb_T.of pnX11_fewest (Nat.le_of_ble_eq_true rfl) (lv := [some (.ref 60), some (.int l), some (.int n), some (.int d)]) rfl ?_
  refine pb_iload_n (pc2 := 1) dX11_fewest_0 rfl rfl rfl ?_
  refine pb_callS (pc2 := 4) (k2 := 1) (n2 := 4096) mwX11_isLamp swX11_isLamp rfl mlX11_131 dX11_fewest_1 (t_isLamp l) (by omega) (by omega) (by omega) rfl rfl (Nat.le_of_ble_eq_true rfl) rfl (pb_kB ?_ ?_)
  rotate_left
  · intro q1
    refine pb_ifT_eq (tgt := 28) dX11_fewest_4 (by decide) rfl ?_
    refine pb_iconst (x := -1) (pc2 := 29) dX11_fewest_28 (by decide) rfl ?_
    exact pb_ireturn dX11_fewest_29 rfl (pb_finC (if_neg (fun z => q1 z.1)) hC)
  intro q1
  refine pb_ifF_eq (tgt := 28) (pc2 := 7) dX11_fewest_4 (by decide) rfl (by decide) ?_
  refine pb_iload_n (pc2 := 8) dX11_fewest_7 rfl rfl rfl ?_
  refine pb_iconst (x := nI 1) (pc2 := 9) dX11_fewest_8 (by decide) rfl ?_
  refine pb_bipush (x := nI 6) (pc2 := 11) dX11_fewest_9 (by decide) rfl ?_
  refine pb_callS (pc2 := 14) (k2 := 1) (n2 := 4096) mwX11_between swX11_between rfl mlX11_77 dX11_fewest_11 (t_between n (nI 1) (nI 6)) (by omega) (by omega) (by omega) rfl rfl (Nat.le_of_ble_eq_true rfl) rfl (pb_kB ?_ ?_)
  rotate_left
  · intro q2
    refine pb_ifT_eq (tgt := 28) dX11_fewest_14 (by decide) rfl ?_
    refine pb_iconst (x := -1) (pc2 := 29) dX11_fewest_28 (by decide) rfl ?_
    exact pb_ireturn dX11_fewest_29 rfl (pb_finC (if_neg (fun z => q2 z.2.1)) hC)
  intro q2
  refine pb_ifF_eq (tgt := 28) (pc2 := 17) dX11_fewest_14 (by decide) rfl (by decide) ?_
  refine pb_iload_n (pc2 := 18) dX11_fewest_17 rfl rfl rfl ?_
  refine pb_iconst (x := nI 0) (pc2 := 19) dX11_fewest_18 (by decide) rfl ?_
  refine pb_sipush (x := nI 30000) (pc2 := 22) dX11_fewest_19 (by decide) rfl ?_
  refine pb_callS (pc2 := 25) (k2 := 1) (n2 := 4096) mwX11_between swX11_between rfl mlX11_77 dX11_fewest_22 (t_between d (nI 0) (nI 30000)) (by omega) (by omega) (by omega) rfl rfl (Nat.le_of_ble_eq_true rfl) rfl (pb_kB ?_ ?_)
  rotate_left
  · intro q3
    refine pb_ifF_ne (tgt := 30) (pc2 := 28) dX11_fewest_25 rfl rfl (by decide) ?_
    refine pb_iconst (x := -1) (pc2 := 29) dX11_fewest_28 (by decide) rfl ?_
    exact pb_ireturn dX11_fewest_29 rfl (pb_finC (if_neg (fun z => q3 z.2.2)) hC)
  intro q3
  refine pb_ifT_ne (tgt := 30) dX11_fewest_25 (by decide) (by decide) ?_
  have e0 : sp_fewest A l n d = _ := if_pos ⟨q1, q2, q3⟩
  rw [e0]
  obtain ⟨l, -, hl, rfl⟩ := nI_rng (by omega) q1 (by omega)
  obtain ⟨n, hn1, hn, rfl⟩ := nI_rng (by omega) q2 (by omega)
  obtain ⟨d, -, hd, rfl⟩ := nI_rng (by omega) q3 (by omega)
  rw [pb_natN (by omega), pb_natN (by omega), pb_natN (by omega)]
  refine pb_aload_n (pc2 := 31) dX11_fewest_30 rfl rfl rfl ?_
  refine pb_getf (pc2 := 34) flX11_68_X11 rfl dX11_fewest_31 (by first | assumption | exact hR.a rfl | exact hR.o | exact hC.o | exact hC.pal | exact hC.tub | exact hC.k _ _ rfl | exact hC.pot _ (by omega) | exact hC.are _ (by omega) | exact hC.arl _ (by omega) | exact hC.tbo _ (by omega) (by omega)) rfl rfl ?_
  refine pb_ifN_eq (tgt := 47) (pc2 := 37) dX11_fewest_34 (by decide) rfl (by omega) (fun c1 => ?_) (fun c1 => ?_)
  · rw [if_pos (Or.inl c1)]
    refine pb_bipush (x := -2) (pc2 := 49) dX11_fewest_47 (by decide) rfl ?_
    exact pb_ireturn dX11_fewest_49 rfl (pb_finC rfl hC)
  · refine pb_aload_n (pc2 := 38) dX11_fewest_37 rfl rfl rfl ?_
    refine pb_getf (pc2 := 41) flX11_12_X11 rfl dX11_fewest_38 (by first | assumption | exact hR.a rfl | exact hR.o | exact hC.o | exact hC.pal | exact hC.tub | exact hC.k _ _ rfl | exact hC.pot _ (by omega) | exact hC.are _ (by omega) | exact hC.arl _ (by omega) | exact hC.tbo _ (by omega) (by omega)) rfl rfl ?_
    refine pb_getf (pc2 := 44) flX11_270_X8 rfl dX11_fewest_41 (by first | assumption | exact hR.a rfl | exact hR.o | exact hC.o | exact hC.pal | exact hC.tub | exact hC.k _ _ rfl | exact hC.pot _ (by omega) | exact hC.are _ (by omega) | exact hC.arl _ (by omega) | exact hC.tbo _ (by omega) (by omega)) rfl rfl ?_
    refine pb_ifN_ne (tgt := 50) (pc2 := 47) dX11_fewest_44 (by decide) rfl (by omega) (fun c2 => ?_) (fun c2 => ?_)
    · rw [if_neg (fun z => z.elim c1 c2)]
      refine pb_aload_n (pc2 := 51) dX11_fewest_50 rfl rfl rfl ?_
      refine pb_getf (pc2 := 54) flX11_19_X11 rfl dX11_fewest_51 (by first | assumption | exact hR.a rfl | exact hR.o | exact hC.o | exact hC.pal | exact hC.tub | exact hC.k _ _ rfl | exact hC.pot _ (by omega) | exact hC.are _ (by omega) | exact hC.arl _ (by omega) | exact hC.tbo _ (by omega) (by omega)) rfl rfl ?_
      refine pb_iload_n (pc2 := 55) dX11_fewest_54 rfl rfl rfl ?_
      refine pb_callV (pc2 := 58) (k2 := 1) (n2 := 4096) mwX4_shine pb_cl4.1 iwX4_shine seX4_shine rfl mlX11_174 dX11_fewest_55 (by first | assumption | exact hR.a rfl | exact hR.o | exact hC.o | exact hC.pal | exact hC.tub | exact hC.k _ _ rfl | exact hC.pot _ (by omega) | exact hC.are _ (by omega) | exact hC.arl _ (by omega) | exact hC.tbo _ (by omega) (by omega)) (t_shine w hC (show l < 4 by omega)) (by omega) (by omega) (by omega) rfl rfl (Nat.le_of_ble_eq_true rfl) rfl (fun v h1 q _ => ?_)
      obtain ⟨rfl, hC1, hL1, -⟩ := q
      clear hC
      have hC := hC1
      obtain ⟨sz, tp, r, gc, ag, fa, ho, -⟩ := hC.cho
      refine pb_aload_n (pc2 := 59) dX11_fewest_58 rfl rfl rfl ?_
      refine pb_getf (pc2 := 62) flX11_57_X11 rfl dX11_fewest_59 (by first | assumption | exact hR.a rfl | exact hR.o | exact hC.o | exact hC.pal | exact hC.tub | exact hC.k _ _ rfl | exact hC.pot _ (by omega) | exact hC.are _ (by omega) | exact hC.arl _ (by omega) | exact hC.tbo _ (by omega) (by omega)) rfl rfl ?_
      refine pb_aload_n (pc2 := 63) dX11_fewest_62 rfl rfl rfl ?_
      refine pb_getf (pc2 := 66) flX11_41_X11 rfl dX11_fewest_63 (by first | assumption | exact hR.a rfl | exact hR.o | exact hC.o | exact hC.pal | exact hC.tub | exact hC.k _ _ rfl | exact hC.pot _ (by omega) | exact hC.are _ (by omega) | exact hC.arl _ (by omega) | exact hC.tbo _ (by omega) (by omega)) rfl rfl ?_
      refine pb_aload_n (pc2 := 67) dX11_fewest_66 rfl rfl rfl ?_
      refine pb_getf (pc2 := 70) flX11_68_X11 rfl dX11_fewest_67 (by first | assumption | exact hR.a rfl | exact hR.o | exact hC.o | exact hC.pal | exact hC.tub | exact hC.k _ _ rfl | exact hC.pot _ (by omega) | exact hC.are _ (by omega) | exact hC.arl _ (by omega) | exact hC.tbo _ (by omega) (by omega)) rfl rfl ?_
      refine pb_iload_n (pc2 := 71) dX11_fewest_70 rfl rfl rfl ?_
      refine pb_callV (pc2 := 74) (k2 := 1) (n2 := 4096) mwX1_aimAt pb_cl1.1 iwX1_aimAt seX1_aimAt rfl mlX11_271 dX11_fewest_71 (by first | assumption | exact hR.a rfl | exact hR.o | exact hC.o | exact hC.pal | exact hC.tub | exact hC.k _ _ rfl | exact hC.pot _ (by omega) | exact hC.are _ (by omega) | exact hC.arl _ (by omega) | exact hC.tbo _ (by omega) (by omega)) (t_aimAt w hC) (by omega) (by omega) (by omega) rfl rfl (Nat.le_of_ble_eq_true rfl) rfl (fun v h2 q _ => ?_)
      obtain ⟨rfl, hC2, ⟨sz2, tp2, r2, ho2, hr2⟩, hgo, n2⟩ := q
      clear hC hC1 ho
      have hC := hC2
      have hL2 := hL1.up (fun x x1 x2 => n2 x (by omega) (by omega))
      refine pb_aload_n (pc2 := 75) dX11_fewest_74 rfl rfl rfl ?_
      refine pb_getf (pc2 := 78) flX11_57_X11 rfl dX11_fewest_75 (by first | assumption | exact hR.a rfl | exact hR.o | exact hC.o | exact hC.pal | exact hC.tub | exact hC.k _ _ rfl | exact hC.pot _ (by omega) | exact hC.are _ (by omega) | exact hC.arl _ (by omega) | exact hC.tbo _ (by omega) (by omega)) rfl rfl ?_
      refine pb_aload_n (pc2 := 79) dX11_fewest_78 rfl rfl rfl ?_
      refine pb_getf (pc2 := 82) flX11_12_X11 rfl dX11_fewest_79 (by first | assumption | exact hR.a rfl | exact hR.o | exact hC.o | exact hC.pal | exact hC.tub | exact hC.k _ _ rfl | exact hC.pot _ (by omega) | exact hC.are _ (by omega) | exact hC.arl _ (by omega) | exact hC.tbo _ (by omega) (by omega)) rfl rfl ?_
      refine pb_aload_n (pc2 := 83) dX11_fewest_82 rfl rfl rfl ?_
      refine pb_getf (pc2 := 86) flX11_19_X11 rfl dX11_fewest_83 (by first | assumption | exact hR.a rfl | exact hR.o | exact hC.o | exact hC.pal | exact hC.tub | exact hC.k _ _ rfl | exact hC.pot _ (by omega) | exact hC.are _ (by omega) | exact hC.arl _ (by omega) | exact hC.tbo _ (by omega) (by omega)) rfl rfl ?_
      refine pb_iload_n (pc2 := 87) dX11_fewest_86 rfl rfl rfl ?_
      refine pb_callV (pc2 := 90) (k2 := 0) (n2 := 0) mwX1_fewestOf pb_cl1.1 iwX1_fewestOf seX1_fewestOf rfl mlX11_275 dX11_fewest_87 (by first | assumption | exact hR.a rfl | exact hR.o | exact hC.o | exact hC.pal | exact hC.tub | exact hC.k _ _ rfl | exact hC.pot _ (by omega) | exact hC.are _ (by omega) | exact hC.arl _ (by omega) | exact hC.tbo _ (by omega) (by omega)) (t_fewestOf w hC (show l < 4 by omega) hL2 hn1 hn hd ho2 hr2 ⟨hC.k _ _ rfl, hgo⟩) (by omega) (by omega) (by omega) rfl rfl (Nat.le_of_ble_eq_true rfl) rfl (fun v h3 q _ => ?_)
      obtain ⟨rfl, hC3⟩ := q
      exact pb_ireturn dX11_fewest_90 rfl (pb_finC rfl hC3)
    · rw [if_pos (Or.inr c2)]
      refine pb_bipush (x := -2) (pc2 := 49) dX11_fewest_47 (by decide) rfl ?_
      exact pb_ireturn dX11_fewest_49 rfl (pb_finC rfl hC)
end PB42
/-! GLAZES, by the class: one walk through all stacks, deep before wide -/
def cB (f : List Nat → Nat) (B K : List Nat) : List Nat := if f K < f B ∨ (f K = f B ∧ K.length < B.length) then K else B
theorem cB_comm {f : List Nat → Nat} {B K J : List Nat} (h : K.length ≠ J.length) : cB f (cB f B K) J = cB f (cB f B J) K := by
  unfold cB
  by_cases p1 : f K < f B ∨ (f K = f B ∧ K.length < B.length)
  · by_cases p2 : f J < f B ∨ (f J = f B ∧ J.length < B.length)
    · rw [if_pos p1, if_pos p2]
      by_cases c : f J < f K ∨ (f J = f K ∧ J.length < K.length)
      · rw [if_pos c, if_neg (by omega)]
      · rw [if_neg c, if_pos (by omega)]
    · rw [if_pos p1, if_neg p2, if_pos p1, if_neg (by omega)]
  · by_cases p2 : f J < f B ∨ (f J = f B ∧ J.length < B.length)
    · rw [if_neg p1, if_pos p2, if_neg (by omega)]
    · rw [if_neg p1, if_neg p2, if_neg p1]
theorem cB_past {f : List Nat → Nat} {K : List Nat} : ∀ (Y : List (List Nat)) (B : List Nat), (∀ J ∈ Y, K.length ≠ J.length) → Y.foldl (cB f) (cB f B K) = cB f (Y.foldl (cB f) B) K
  | [], _, _ => rfl
  | J :: Y, B, h => by
    show Y.foldl (cB f) (cB f (cB f B K) J) = cB f (Y.foldl (cB f) (cB f B J)) K
    rw [cB_comm (h J List.mem_cons_self)]
    exact cB_past Y (cB f B J) (fun R hR => h R (List.mem_cons_of_mem _ hR))
def lenF (n : Nat) (X : List (List Nat)) : List (List Nat) := X.filter (fun K => K.length == n)
theorem lenF_mem {n : Nat} {X : List (List Nat)} {K : List Nat} (h : K ∈ lenF n X) : K.length = n := by
  have := (List.mem_filter.mp h).2
  exact beq_iff_eq.mp this
theorem cB_part {f : List Nat → Nat} : ∀ (X : List (List Nat)) (B : List Nat), (∀ K ∈ X, 1 ≤ K.length ∧ K.length ≤ 3) → X.foldl (cB f) B = (lenF 1 X ++ (lenF 2 X ++ lenF 3 X)).foldl (cB f) B
  | [], _, _ => rfl
  | K :: X, B, h => by
    obtain ⟨k1, k2⟩ := h K List.mem_cons_self
    show X.foldl (cB f) (cB f B K) = _
    rw [cB_part X (cB f B K) (fun R hR => h R (List.mem_cons_of_mem _ hR))]
    have hf : ∀ n, lenF n (K :: X) = if K.length = n then K :: lenF n X else lenF n X := fun n => by
      unfold lenF
      rw [List.filter_cons]
      by_cases e : K.length = n
      · rw [if_pos e, if_pos (beq_iff_eq.mpr e)]
      · rw [if_neg e, if_neg (fun z => e (beq_iff_eq.mp z))]
    rw [hf 1, hf 2, hf 3]
    have hk : K.length = 1 ∨ K.length = 2 ∨ K.length = 3 := by omega
    rcases hk with e | e | e
    · rw [if_pos e, if_neg (by omega), if_neg (by omega)]
      rfl
    · rw [if_neg (by omega), if_pos e, if_neg (by omega)]
      simp only [List.foldl_append, List.foldl_cons, List.cons_append]
      rw [cB_past (lenF 1 X) B (fun J hJ => by rw [lenF_mem hJ]; omega)]
    · rw [if_neg (by omega), if_neg (by omega), if_pos e]
      simp only [List.foldl_append, List.foldl_cons]
      rw [cB_past (lenF 1 X) B (fun J hJ => by rw [lenF_mem hJ]; omega), cB_past (lenF 2 X) _ (fun J hJ => by rw [lenF_mem hJ]; omega)]
/-- all stacks upon L, d more layers at the most, in the class's order -/
def gl_d (s : Nat) : Nat → List Nat → List (List Nat)
  | 0, _ => []
  | d + 1, L => gl_fm (fun x => if gl_ok s L x then (L ++ [x]) :: gl_d s d (L ++ [x]) else []) 36 0
theorem lenF_fm {n : Nat} {g : Nat → List (List Nat)} : ∀ r x, lenF n (gl_fm g r x) = gl_fm (fun x => lenF n (g x)) r x
  | 0, _ => rfl
  | r + 1, x => by
    show (g x ++ gl_fm g r (x + 1)).filter _ = _
    rw [List.filter_append]
    show lenF n (g x) ++ lenF n (gl_fm g r (x + 1)) = _
    rw [lenF_fm r (x + 1)]
    rfl
theorem gl_fm_c {α : Type} {g g' : Nat → List α} (h : ∀ x, g x = g' x) (r x : Nat) : gl_fm g r x = gl_fm g' r x := by
  rw [show g = g' from funext h]
theorem gl_d_0 {s : Nat} : ∀ d L n, n ≤ L.length → lenF n (gl_d s d L) = []
  | 0, _, _, _ => rfl
  | d + 1, L, n, h => by
    show lenF n (gl_fm _ 36 0) = []
    rw [lenF_fm]
    refine gl_fm_nil (fun x _ => ?_)
    show lenF n (if gl_ok s L x then (L ++ [x]) :: gl_d s d (L ++ [x]) else []) = []
    split
    · have hl : (L ++ [x]).length = L.length + 1 := by rw [List.length_append]; rfl
      unfold lenF
      rw [List.filter_cons, if_neg (fun z => by have := beq_iff_eq.mp z; omega)]
      exact gl_d_0 d (L ++ [x]) n (by omega)
    · rfl
theorem gl_d_e {s : Nat} : ∀ d L k, 1 ≤ k → k ≤ d → lenF (L.length + k) (gl_d s d L) = gl_e s k L
  | 0, _, k, h1, h2 => by omega
  | d + 1, L, k, h1, h2 => by
    obtain ⟨k', rfl⟩ : ∃ k', k = k' + 1 := ⟨k - 1, by omega⟩
    show lenF (L.length + (k' + 1)) (gl_fm _ 36 0) = gl_fm (fun x => if gl_ok s L x then gl_e s k' (L ++ [x]) else []) 36 0
    rw [lenF_fm]
    refine gl_fm_c (fun x => ?_) 36 0
    show lenF (L.length + (k' + 1)) (if gl_ok s L x then (L ++ [x]) :: gl_d s d (L ++ [x]) else []) = _
    split
    · have hl : (L ++ [x]).length = L.length + 1 := by rw [List.length_append]; rfl
      by_cases e : k' = 0
      · subst e
        have e0 := gl_d_0 (s := s) d (L ++ [x]) (L.length + 1) (by omega)
        unfold lenF at e0 ⊢
        rw [List.filter_cons, if_pos (beq_iff_eq.mpr hl), e0]
        rfl
      · have e1 := gl_d_e (s := s) d (L ++ [x]) k' (by omega) (by omega)
        rw [hl, show L.length + 1 + k' = L.length + (k' + 1) by omega] at e1
        rw [← e1]
        unfold lenF
        rw [List.filter_cons, if_neg (fun z => by have := beq_iff_eq.mp z; omega)]
    · rfl
theorem gl_d_len {s : Nat} : ∀ d L, ∀ K ∈ gl_d s d L, L.length + 1 ≤ K.length ∧ K.length ≤ L.length + d
  | 0, _, K, h => by cases h
  | d + 1, L, K, h => by
    obtain ⟨y, -, -, h⟩ := gl_fm_mem h
    split at h
    · have hl : (L ++ [y]).length = L.length + 1 := by rw [List.length_append]; rfl
      rcases List.mem_cons.mp h with rfl | h
      · omega
      · have := gl_d_len d (L ++ [y]) K h
        omega
    · cases h
/-- the reference's choice, by stacks -/
theorem gl_ref {A : pb_A} {l g : Nat} : ∀ (X : List (List Nat)) (B : List Nat) (σ : Nat × Nat × (Nat → Nat)), (∀ K ∈ X, B.length ≤ K.length) → X.Pairwise (fun K J => K.length ≤ J.length) → σ.1 = gl_v A l g B → σ.2.1 = B.length → (∀ k, k < B.length → σ.2.2 k = gl_c (B.getD k 0)) → (X.foldl (sp_gst A l g) σ).1 = gl_v A l g (X.foldl (cB (gl_v A l g)) B) ∧ (X.foldl (sp_gst A l g) σ).2.1 = (X.foldl (cB (gl_v A l g)) B).length ∧ ∀ k, k < (X.foldl (cB (gl_v A l g)) B).length → (X.foldl (sp_gst A l g) σ).2.2 k = gl_c ((X.foldl (cB (gl_v A l g)) B).getD k 0)
  | [], B, σ, _, _, h1, h2, h3 => ⟨h1, h2, h3⟩
  | K :: X, B, σ, hB, hP, h1, h2, h3 => by
    have hK := hB K List.mem_cons_self
    have hPc := List.pairwise_cons.mp hP
    show (X.foldl (sp_gst A l g) (sp_gst A l g σ K)).1 = gl_v A l g (X.foldl (cB (gl_v A l g)) (cB (gl_v A l g) B K)) ∧ _
    by_cases c : gl_v A l g K < gl_v A l g B
    · have e1 : cB (gl_v A l g) B K = K := if_pos (Or.inl c)
      have e2 : sp_gst A l g σ K = (gl_v A l g K, K.length, fun k => if k < K.length then gl_c (K.getD k 0) else σ.2.2 k) := if_pos (by rw [h1]; exact c)
      rw [List.foldl_cons, List.foldl_cons, e1, e2]
      exact gl_ref X K _ (fun J hJ => hPc.1 J hJ) hPc.2 rfl rfl (fun k hk => if_pos hk)
    · have e1 : cB (gl_v A l g) B K = B := if_neg (by omega)
      have e2 : sp_gst A l g σ K = σ := if_neg (by rw [h1]; exact c)
      rw [List.foldl_cons, List.foldl_cons, e1, e2]
      exact gl_ref X B σ (fun J hJ => hB J (List.mem_cons_of_mem _ hJ)) hPc.2 h1 h2 h3
def gA (A : pb_A) (B : List Nat) : pb_A := sp_G A B.length (fun k => gl_c (B.getD k 0))
theorem k_obG {A A' : pb_A} {h0 h h' : pb_H} (hA : ∀ f, f ≠ 21 → f ≠ 23 → A' f = A f) (hC : pb_CF A h0 h) (hs : ∀ a n, cS a = some n → cScr n (h' a)) (nb : ∀ x, cS x = none → x ≠ 70 → x ≠ 500 → h' x = h x) (hm : ∃ f, h' 70 = some (.inr (.inr (2, cGl (if A' 21 0 ≤ 3 then A' 21 0 else 0) f)))) (hb : ∃ F : Nat → Nat, h' 500 = some (.inl (0, 3, fun j => nI (F j))) ∧ ∀ i, i < 3 → A' 21 0 ≤ 3 → i < A' 21 0 → F i = A' 23 i) : pb_CF A' h0 h' := by
  generalize hX : A' 21 = X21 at hm hb
  generalize hY : A' 23 = X23 at hb
  have e2 : A' = pb_wf (pb_wf A 21 X21) 23 X23 := by
    funext f j
    unfold pb_wf
    by_cases c1 : f = 23
    · rw [if_pos c1, c1, hY]
    · rw [if_neg c1]
      by_cases c2 : f = 21
      · rw [if_pos c2, c2, hX]
      · rw [if_neg c2, hA f c2 c1]
  clear hX hY hA
  subst e2
  exact pb_CF.mk (fun b hb => (nb b (cS_n (by omega)) (by omega) (by omega)).trans (hC.low b hb)) (fun a c e => (nb a (cK_S e) (cK_ne e rfl) (cK_ne e rfl)).trans (hC.k a c e)) (hs) ((nb 60 (cS_n (by omega)) (by omega) (by omega)).trans hC.o) ((nb 61 (cS_n (by omega)) (by omega) (by omega)).trans hC.pal) (by rw [nb 65 (cS_n (by omega)) (by omega) (by omega)]; exact hC.wan) (fun i hi => by rw [nb _ (cS_n (by omega)) (by omega) (by omega)]; exact hC.kpr i hi) ((nb 71 (cS_n (by omega)) (by omega) (by omega)).trans hC.tub) (fun i hi => by rw [nb _ (cS_n (by omega)) (by omega) (by omega)]; exact hC.lmr i hi) (fun i hi => by rw [nb _ (cS_n (by omega)) (by omega) (by omega)]; exact hC.sgr i hi) (by rw [nb 76 (cS_n (by omega)) (by omega) (by omega)]; exact hC.shw) (fun p hp => (nb _ (cS_n (by omega)) (by omega) (by omega)).trans (hC.pot p hp)) (fun p hp => by rw [nb _ (cS_n (by omega)) (by omega) (by omega)]; exact hC.ptr p hp) (fun a ha => (nb _ (cS_n (by omega)) (by omega) (by omega)).trans (hC.are a ha)) (fun a ha => (nb _ (cS_n (by omega)) (by omega) (by omega)).trans (hC.arl a ha)) (fun t h12 ht => (nb _ (cS_n (by omega)) (by omega) (by omega)).trans (hC.tbo t h12 ht)) (fun t h12 ht => by rw [nb _ (cS_n (by omega)) (by omega) (by omega)]; exact hC.tbd t h12 ht) (fun t h12 ht => by rw [nb _ (cS_n (by omega)) (by omega) (by omega)]; exact hC.tbs t h12 ht) (fun t ht ht2 => by have hz_ : A 1 0 ≤ t := ht; rw [nb _ (cS_n (by omega)) (by omega) (by omega), nb _ (cS_n (by omega)) (by omega) (by omega), nb _ (cS_n (by omega)) (by omega) (by omega)]; exact hC.tbn t ht ht2) (fun a i ha h10 hi => by rw [nb _ (cS_n (by omega)) (by omega) (by omega), nb _ (cS_n (by omega)) (by omega) (by omega), nb _ (cS_n (by omega)) (by omega) (by omega)]; exact hC.lyo a i ha h10 hi) (fun a i ha h10 hi => by unfold cCache; rw [nb _ (cS_n (by omega)) (by omega) (by omega), nb _ (cS_n (by omega)) (by omega) (by omega), nb _ (cS_n (by omega)) (by omega) (by omega), nb _ (cS_n (by omega)) (by omega) (by omega)]; exact hC.lyc a i ha h10 hi) (fun a i ha hi hi2 q hq => (nb _ (cS_n (by omega)) (by omega) (by omega)).trans (hC.lyn a i ha hi hi2 q hq)) (by rw [nb 68 (cS_n (by omega)) (by omega) (by omega)]; exact hC.mat) (by rw [nb 309 (cS_n (by omega)) (by omega) (by omega)]; exact hC.bst) (by rw [nb 69 (cS_n (by omega)) (by omega) (by omega), nb 411 (cS_n (by omega)) (by omega) (by omega), nb 413 (cS_n (by omega)) (by omega) (by omega)]; exact hC.cho) (hm) (hb) (fun a ha => by rw [nb a (cS_n (by omega)) (by omega) (by omega)]; exact hC.zer a ha)
def stG (A : pb_A) (l g : Nat) (B : List Nat) (h0 h : pb_H) : Prop := pb_CF (gA A B) h0 h ∧ h 70 = some (.inr (.inr (2, cGl B.length (gl_v A l g B)))) ∧ B.length ≤ 3
theorem stG.s1 {A : pb_A} {l g : Nat} {B : List Nat} {a n : Nat} {h0 h h' : pb_H} {G : Nat → Nat} (hST : stG A l g B h0 h) (e : cS a = some n) (ha : h' a = some (.inl (0, n, fun j => nI (G j)))) (nb : ∀ b, b ≠ a → h' b = h b) : stG A l g B h0 h' := ⟨hST.1.sc e ha nb, (nb 70 (cS_ne e rfl).symm).trans hST.2.1, hST.2.2⟩
/-- what the walk through stacks reads and leaves as it is -/
def gbG (A : pb_A) (l : Nat) (h : pb_H) : Prop := h 62 = some (.inr (.inr (4, [.ref 72, .ref 73, .ref 74, .ref 75, .ref 76]))) ∧ h 74 = some (.inr (.inl (4, 3, cTo 87 3))) ∧ h 502 = some (.inr (.inl (4, 12, cTo 520 12))) ∧ h 503 = some (.inr (.inl (4, 12, cTo 540 12))) ∧ h 504 = some (.inr (.inl (4, 4, cTo 560 4))) ∧ pb_LT A l h ∧ cRow 3 (A 17) (h 501) ∧ ∀ t, t < 12 → t < A 1 0 → cRow 8 (fun b => pb_ta (A 7 (8 * t + b)) (A 8 (8 * t + b))) (h (520 + t)) ∧ cRow 8 (fun b => pb_tb (A 7 (8 * t + b)) (A 8 (8 * t + b))) (h (540 + t))
theorem gbG.up {A : pb_A} {l : Nat} {h h' : pb_H} (hS : gbG A l h) (nb : ∀ x, x = 62 ∨ (74 ≤ x ∧ x < 90) ∨ (501 ≤ x ∧ x < 505) ∨ (520 ≤ x ∧ x < 552) → h' x = h x) : gbG A l h' := by
  obtain ⟨h1, h2, h3, h4, h5, h6, h7, h8⟩ := hS
  refine ⟨(nb _ (by omega)).trans h1, (nb _ (by omega)).trans h2, (nb _ (by omega)).trans h3, (nb _ (by omega)).trans h4, (nb _ (by omega)).trans h5, h6.up (fun b b1 b2 => nb b (by omega)), by rw [nb _ (by omega)]; exact h7, fun t h12 ht => ?_⟩
  rw [nb _ (by omega), nb _ (by omega)]
  exact h8 t h12 ht
theorem cS_3 {a : Nat} (h : a = 501 ∨ a = 505) : cS a = some 3 := by
  rcases h with rfl | rfl <;> rfl
section PB43
variable {Z : pb_Z} {h h0 : pb_H} {A : pb_A}
set_option maxRecDepth 10000 in
theorem t_thicken {l i t n m f : Nat} {F : Nat → Nat} (hS : gbG A l h) (ho : h 70 = some (.inr (.inr (2, cGl m f)))) (hi : i < 4) (ht : t < A 1 0) (ht12 : t < 12) (hn : n ≤ 4) (hr : h (560 + i) = some (.inl (0, 8, fun j => nI (F j)))) (hF : ∀ b, b < 8 → pb_sh A l b = 1 → F b ≤ 10000) : pb_T Z mX2_thicken 2 0 0 [.ref 70, .ref 62, .ref (560 + i), .int (nI t), .int (nI n)] h (fun v h' => v = none ∧ (∃ F' : Nat → Nat, h' (560 + i) = some (.inl (0, 8, fun j => nI (F' j))) ∧ ∀ b, b < 8 → pb_sh A l b = 1 → F' b = pb_lay (pb_ta (A 7 (8 * t + b)) (A 8 (8 * t + b))) (pb_tb (A 7 (8 * t + b)) (A 8 (8 * t + b))) n (F b)) ∧ ∀ x, x ≠ 560 + i → h' x = h x) := by
  obtain ⟨h62, h74, h502, h503, h504, hL, h501, hts⟩ := hS
  obtain ⟨⟨Ta, hta, hTa⟩, ⟨Tb, htb, hTb⟩⟩ := hts t ht12 ht
  have hTa : ∀ b, b < 8 → Ta b = pb_ta (A 7 (8 * t + b)) (A 8 (8 * t + b)) := hTa
  have hTb : ∀ b, b < 8 → Tb b = pb_tb (A 7 (8 * t + b)) (A 8 (8 * t + b)) := hTb
  obtain ⟨-, -, S76, h76, hS76⟩ := hL
  refine pb_T.of pnX2_thicken (Nat.le_of_ble_eq_true rfl) (lv := [some (.ref 70), some (.ref 62), some (.ref (560 + i)), some (.int (nI t)), some (.int (nI n)), none]) rfl ?_
  have loop : ∀ (q b : Nat) (F' : Nat → Nat) (h' : pb_H), 8 - b < q → b ≤ 8 → h' (560 + i) = some (.inl (0, 8, fun j => nI (F' j))) → (∀ j, j < 8 → pb_sh A l j = 1 → F' j = if j < b then pb_lay (pb_ta (A 7 (8 * t + j)) (A 8 (8 * t + j))) (pb_tb (A 7 (8 * t + j)) (A 8 (8 * t + j))) n (F j) else F j) → (∀ x, x ≠ 560 + i → h' x = h x) → pb_S Z mX2_thicken 2 0 0 (fun v h' => v = none ∧ (∃ F' : Nat → Nat, h' (560 + i) = some (.inl (0, 8, fun j => nI (F' j))) ∧ ∀ b, b < 8 → pb_sh A l b = 1 → F' b = pb_lay (pb_ta (A 7 (8 * t + b)) (A 8 (8 * t + b))) (pb_tb (A 7 (8 * t + b)) (A 8 (8 * t + b))) n (F b)) ∧ ∀ x, x ≠ 560 + i → h' x = h x) 3 [some (.ref 70), some (.ref 62), some (.ref (560 + i)), some (.int (nI t)), some (.int (nI n)), some (.int (nI b))] [] h' := by
    intro q
    induction q with
    | zero => intro b F' h' g1; omega
    | succ q ih =>
      intro b F' h' g1 g2 hr hF' nb
      have ho : h' 70 = _ := (nb _ (by omega)).trans ho
      have h62 : h' 62 = _ := (nb _ (by omega)).trans h62
      have h76 : h' 76 = _ := (nb _ (by omega)).trans h76
      have h502 : h' 502 = _ := (nb _ (by omega)).trans h502
      have h503 : h' 503 = _ := (nb _ (by omega)).trans h503
      have hta : h' (520 + t) = _ := (nb _ (by omega)).trans hta
      have htb : h' (540 + t) = _ := (nb _ (by omega)).trans htb
      refine pb_iload (pc2 := 5) dX2_thicken_3 rfl rfl ?_
      refine pb_bipush (x := nI 8) (pc2 := 7) dX2_thicken_5 (by decide) rfl ?_
      refine pb_icmpN_ge (tgt := 57) (pc2 := 10) dX2_thicken_7 (by decide) rfl (by omega) (by omega) (fun c => ?_) (fun c => ?_)
      · have e : b = 8 := by omega
        subst e
        exact pb_return dX2_thicken_57 rfl (⟨rfl, ⟨F', hr, fun j hj hs => by rw [hF' j hj hs, if_pos hj]⟩, nb⟩)
      · have hsl := pb_sh_le A l b
        refine pb_aload_n (pc2 := 11) dX2_thicken_10 rfl rfl rfl ?_
        refine pb_getf (pc2 := 14) flX2_97_X4 rfl dX2_thicken_11 (by first | assumption | exact hR.a rfl | exact hR.o | exact hC.o | exact hC.pal | exact hC.tub | exact hC.k _ _ rfl | exact hC.pot _ (by omega) | exact hC.are _ (by omega) | exact hC.arl _ (by omega) | exact hC.tbo _ (by omega) (by omega)) rfl rfl ?_
        refine pb_iload (pc2 := 16) dX2_thicken_14 rfl rfl ?_
        refine pb_baload (pc2 := 17) dX2_thicken_16 h76 c (by omega) rfl ?_
        refine pb_top (v2 := .int (nI (pb_sh A l b))) (by rw [hS76 b c]) ?_
        refine pb_ifN_eq (tgt := 51) (pc2 := 20) dX2_thicken_17 (by decide) rfl (by omega) (fun c2 => ?_) (fun c2 => ?_)
        · refine pb_iincP (c0 := 1) (lv2 := [_, _, _, _, _, _]) (pc2 := 54) dX2_thicken_51 rfl (by decide) rfl rfl ?_
          refine pb_goto (tgt := 3) dX2_thicken_54 (by decide) ?_
          refine ih (b + 1) F' h' (by omega) (by omega) hr (fun j hj hs => ?_) nb
          rw [hF' j hj hs]
          by_cases e : j = b
          · rw [e, c2] at hs; omega
          · by_cases e2 : j < b
            · rw [if_pos e2, if_pos (by omega)]
            · rw [if_neg e2, if_neg (by omega)]
        · have hs1 : pb_sh A l b = 1 := by omega
          have hFb := hF b c hs1
          have hF'b := hF' b c hs1
          rw [if_neg (by omega)] at hF'b
          refine pb_aload_n (pc2 := 21) dX2_thicken_20 rfl rfl rfl ?_
          refine pb_iload (pc2 := 23) dX2_thicken_21 rfl rfl ?_
          refine pb_aload_n (pc2 := 24) dX2_thicken_23 rfl rfl rfl ?_
          refine pb_getf (pc2 := 27) flX2_27_X2 rfl dX2_thicken_24 (by first | assumption | exact hR.a rfl | exact hR.o | exact hC.o | exact hC.pal | exact hC.tub | exact hC.k _ _ rfl | exact hC.pot _ (by omega) | exact hC.are _ (by omega) | exact hC.arl _ (by omega) | exact hC.tbo _ (by omega) (by omega)) rfl rfl ?_
          refine pb_iload_n (pc2 := 28) dX2_thicken_27 rfl rfl rfl ?_
          refine pb_aald (pc2 := 29) (by first | assumption | exact hR.a rfl | exact hR.o | exact hC.o | exact hC.pal | exact hC.tub | exact hC.k _ _ rfl | exact hC.pot _ (by omega) | exact hC.are _ (by omega) | exact hC.arl _ (by omega) | exact hC.tbo _ (by omega) (by omega)) dX2_thicken_28 (by decide) (by omega) (by omega) (cTo_at (by omega)) rfl ?_
          refine pb_iload (pc2 := 31) dX2_thicken_29 rfl rfl ?_
          refine pb_iald (pc2 := 32) (by first | assumption | exact hR.a rfl | exact hR.o | exact hC.o | exact hC.pal | exact hC.tub | exact hC.k _ _ rfl | exact hC.pot _ (by omega) | exact hC.are _ (by omega) | exact hC.arl _ (by omega) | exact hC.tbo _ (by omega) (by omega)) ⟨by decide, rfl⟩ dX2_thicken_31 (by omega) (by omega) rfl ?_
          refine pb_aload_n (pc2 := 33) dX2_thicken_32 rfl rfl rfl ?_
          refine pb_getf (pc2 := 36) flX2_30_X2 rfl dX2_thicken_33 (by first | assumption | exact hR.a rfl | exact hR.o | exact hC.o | exact hC.pal | exact hC.tub | exact hC.k _ _ rfl | exact hC.pot _ (by omega) | exact hC.are _ (by omega) | exact hC.arl _ (by omega) | exact hC.tbo _ (by omega) (by omega)) rfl rfl ?_
          refine pb_iload_n (pc2 := 37) dX2_thicken_36 rfl rfl rfl ?_
          refine pb_aald (pc2 := 38) (by first | assumption | exact hR.a rfl | exact hR.o | exact hC.o | exact hC.pal | exact hC.tub | exact hC.k _ _ rfl | exact hC.pot _ (by omega) | exact hC.are _ (by omega) | exact hC.arl _ (by omega) | exact hC.tbo _ (by omega) (by omega)) dX2_thicken_37 (by decide) (by omega) (by omega) (cTo_at (by omega)) rfl ?_
          refine pb_iload (pc2 := 40) dX2_thicken_38 rfl rfl ?_
          refine pb_iald (pc2 := 41) (by first | assumption | exact hR.a rfl | exact hR.o | exact hC.o | exact hC.pal | exact hC.tub | exact hC.k _ _ rfl | exact hC.pot _ (by omega) | exact hC.are _ (by omega) | exact hC.arl _ (by omega) | exact hC.tbo _ (by omega) (by omega)) ⟨by decide, rfl⟩ dX2_thicken_40 (by omega) (by omega) rfl ?_
          refine pb_iload (pc2 := 43) dX2_thicken_41 rfl rfl ?_
          refine pb_aload_n (pc2 := 44) dX2_thicken_43 rfl rfl rfl ?_
          refine pb_iload (pc2 := 46) dX2_thicken_44 rfl rfl ?_
          refine pb_iald (pc2 := 47) (by first | assumption | exact hR.a rfl | exact hR.o | exact hC.o | exact hC.pal | exact hC.tub | exact hC.k _ _ rfl | exact hC.pot _ (by omega) | exact hC.are _ (by omega) | exact hC.arl _ (by omega) | exact hC.tbo _ (by omega) (by omega)) ⟨by decide, rfl⟩ dX2_thicken_46 (by omega) (by omega) rfl ?_
          rw [hTa b c, hTb b c, hF'b]
          refine pb_callS (pc2 := 50) (k2 := 0) (n2 := 0) mwX7_layered swX7_layered rfl mlX2_101 dX2_thicken_47 (t_layered (pb_tab _ _) (by omega) hFb) (by omega) (by omega) (by omega) rfl rfl (Nat.le_of_ble_eq_true rfl) rfl (pb_kE ?_)
          refine pb_iastG (pc2 := 51) hr dX2_thicken_50 (by omega) c (by omega) rfl (fun h2 hr n2 => ?_)
          refine pb_iincP (c0 := 1) (lv2 := [_, _, _, _, _, _]) (pc2 := 54) dX2_thicken_51 rfl (by decide) rfl rfl ?_
          refine pb_goto (tgt := 3) dX2_thicken_54 (by decide) ?_
          refine ih (b + 1) _ h2 (by omega) (by omega) hr (fun j hj hs => ?_) (fun x hx => (n2 x hx).trans (nb x hx))
          by_cases e : j = b
          · rw [e, pb_un_self, if_pos (by omega)]
          · rw [pb_un_ne _ _ e, hF' j hj hs]
            by_cases e2 : j < b
            · rw [if_pos e2, if_pos (by omega)]
            · rw [if_neg e2, if_neg (by omega)]
  refine pb_iconst (x := nI 0) (pc2 := 1) dX2_thicken_0 (by decide) rfl ?_
  refine pb_istore (lv2 := [_, _, _, _, _, _]) (pc2 := 3) dX2_thicken_1 (by decide) rfl rfl ?_
  exact loop 9 0 F h (by omega) (by omega) hr (fun j hj hs => by rw [if_neg (by omega)]) (fun _ _ => rfl)
set_option maxRecDepth 10000 in
theorem t_weighG (w : pb_WF A) {l g n : Nat} {B L : List Nat} {F D : Nat → Nat} (hl : l < 4) (hg : g ≤ 10000) (hST : stG A l g B h0 h) (hS : gbG A l h) (hn : L.length = n) (hn1 : 1 ≤ n) (hn3 : n ≤ 3) (hr : h (560 + n) = some (.inl (0, 8, fun j => nI (F j)))) (hF : pb_shn A l F (gl_L A g L)) (h505 : h 505 = some (.inl (0, 3, fun j => nI (D j)))) (hD : ∀ k, k < n → D k = gl_c (L.getD k 0)) : pb_T Z mX2_weigh 1 0 0 [.ref 70, .ref 62, .int (nI n)] h (fun v h' => v = none ∧ stG A l g (cB (gl_v A l g) B L) h0 h' ∧ ∀ x, x ≠ 70 → x ≠ 500 → h' x = h x) := by
  obtain ⟨hC, ho, hB3⟩ := hST
  obtain ⟨h62, h74, h502, h503, h504, hL, ⟨T, h501, hT⟩, hts⟩ := hS
  have hT2 : ∀ i, i < 3 → T i ≤ 10000 := fun i hi => by rw [hT i hi]; exact w.tone hi
  have hsee : ∀ s, s < 3 → pb_see A l s F = pb_see A l s (gl_L A g L) := fun s hs => hF.see hs
  have hsl : ∀ s, pb_see A l s (gl_L A g L) ≤ 10000 := fun s => pb_see_le (fun b _ => gl_L_le A b L g hg)
  have hvl := gl_v_le w l L hg
  have hvB := gl_v_le w l B hg
  have epf : gl_v A l g L = pb_sum 3 (fun s => pb_abs (pb_see A l s (gl_L A g L)) (A 17 s)) := by
    unfold gl_v pb_far
    simp only [pb_sum, Nat.zero_add]
  refine pb_T.of pnX2_weigh (Nat.le_of_ble_eq_true rfl) (lv := [some (.ref 70), some (.ref 62), some (.int (nI n)), none, none]) rfl ?_
  have put : (gl_v A l g L < gl_v A l g B ∨ (gl_v A l g L = gl_v A l g B ∧ n < B.length)) → ∀ i, pb_S Z mX2_weigh 1 0 0 (fun v h' => v = none ∧ stG A l g (cB (gl_v A l g) B L) h0 h' ∧ ∀ x, x ≠ 70 → x ≠ 500 → h' x = h x) 75 [some (.ref 70), some (.ref 62), some (.int (nI n)), some (.int (nI (gl_v A l g L))), some (.int (nI i))] [] h := by
    intro hlt i
    have ec : cB (gl_v A l g) B L = L := if_pos (by rw [hn]; exact hlt)
    rw [ec]
    obtain ⟨E, h500, -⟩ := hC.glb
    refine pb_aload_n (pc2 := 76) dX2_weigh_75 rfl rfl rfl ?_
    refine pb_iload_n (pc2 := 77) dX2_weigh_76 rfl rfl rfl ?_
    refine pb_putG (fs2 := [_, _, _, _, _, _, _, _]) (pc2 := 80) flX2_15_X2 rfl dX2_weigh_77 ho (by omega) rfl rfl rfl rfl rfl (fun h_ ho n1 => ?_)
    have h505 := (n1 _ (by omega)).trans h505
    have h500 := (n1 _ (by omega)).trans h500
    refine pb_aload_n (pc2 := 81) dX2_weigh_80 rfl rfl rfl ?_
    refine pb_iload_n (pc2 := 82) dX2_weigh_81 rfl rfl rfl ?_
    refine pb_putG (fs2 := [_, _, _, _, _, _, _, _]) (pc2 := 85) flX2_9_X2 rfl dX2_weigh_82 ho (by omega) rfl rfl rfl rfl rfl (fun h_ ho n2 => ?_)
    have h505 := (n2 _ (by omega)).trans h505
    have h500 := (n2 _ (by omega)).trans h500
    refine pb_aload_n (pc2 := 86) dX2_weigh_85 rfl rfl rfl ?_
    refine pb_getf (pc2 := 89) flX2_36_X2 rfl dX2_weigh_86 (by first | assumption | exact hR.a rfl | exact hR.o | exact hC.o | exact hC.pal | exact hC.tub | exact hC.k _ _ rfl | exact hC.pot _ (by omega) | exact hC.are _ (by omega) | exact hC.arl _ (by omega) | exact hC.tbo _ (by omega) (by omega)) rfl rfl ?_
    refine pb_iconst (x := nI 0) (pc2 := 90) dX2_weigh_89 (by decide) rfl ?_
    refine pb_aload_n (pc2 := 91) dX2_weigh_90 rfl rfl rfl ?_
    refine pb_getf (pc2 := 94) flX2_18_X2 rfl dX2_weigh_91 (by first | assumption | exact hR.a rfl | exact hR.o | exact hC.o | exact hC.pal | exact hC.tub | exact hC.k _ _ rfl | exact hC.pot _ (by omega) | exact hC.are _ (by omega) | exact hC.arl _ (by omega) | exact hC.tbo _ (by omega) (by omega)) rfl rfl ?_
    refine pb_iconst (x := nI 0) (pc2 := 95) dX2_weigh_94 (by decide) rfl ?_
    refine pb_iload_n (pc2 := 96) dX2_weigh_95 rfl rfl rfl ?_
    refine pb_acopyG (pc2 := 99) rfl alX2_39 dX2_weigh_96 h505 h500 (by omega) (by omega) (by omega) (by omega) (by omega) (by omega) (Nat.le_of_ble_eq_true rfl) rfl (fun h3 h500 n3 => ?_)
    have ho := (n3 _ (by omega)).trans ho
    subst hn
    have h21 : gA A L 21 0 = L.length := rfl
    have hoG : h3 70 = some (.inr (.inr (2, cGl (if gA A L 21 0 ≤ 3 then gA A L 21 0 else 0) (gl_v A l g L)))) := by rw [h21, if_pos hn3]; exact ho
    have hglb : ∃ F : Nat → Nat, h3 500 = some (.inl (0, 3, fun j => nI (F j))) ∧ ∀ i, i < 3 → gA A L 21 0 ≤ 3 → i < gA A L 21 0 → F i = gA A L 23 i := ⟨_, h500, fun k k1 k2 k3 => by
      have k3 : k < L.length := k3
      show (if 0 ≤ k ∧ k < 0 + L.length then D (0 + (k - 0)) else E k) = gl_c (L.getD k 0)
      rw [if_pos (by omega), show 0 + (k - 0) = k by omega]
      exact hD k k3⟩
    exact pb_return dX2_weigh_99 rfl (⟨rfl, ⟨k_obG (A := gA A B) (fun f f1 f2 => by unfold gA sp_G pb_wf; funext j; rw [if_neg f2, if_neg f1, if_neg f2, if_neg f1]) hC (fun a m e => by rw [n3 a (cS_ne e rfl), n2 a (cS_ne e rfl), n1 a (cS_ne e rfl)]; exact hC.s a m e) (fun x _ x2 x3 => (n3 x x3).trans ((n2 x x2).trans (n1 x x2))) ⟨_, hoG⟩ hglb, ho, hn3⟩, fun x x1 x2 => (n3 x x2).trans ((n2 x x1).trans (n1 x x1))⟩)
  have noput : ¬ (gl_v A l g L < gl_v A l g B ∨ (gl_v A l g L = gl_v A l g B ∧ n < B.length)) → ∀ f i, pb_S Z mX2_weigh 1 0 0 (fun v h' => v = none ∧ stG A l g (cB (gl_v A l g) B L) h0 h' ∧ ∀ x, x ≠ 70 → x ≠ 500 → h' x = h x) 99 [some (.ref 70), some (.ref 62), some (.int (nI n)), some (.int (nI f)), some (.int (nI i))] [] h := by
    intro hlt f i
    have ec : cB (gl_v A l g) B L = B := if_neg (by rw [hn]; exact hlt)
    rw [ec]
    exact pb_return dX2_weigh_99 rfl (⟨rfl, ⟨hC, ho, hB3⟩, fun x _ _ => rfl⟩)
  have tail : ∀ (i f : Nat), i ≤ 3 → (i = 3 ∨ gl_v A l g B < f) → f = pb_sum i (fun s => pb_abs (pb_see A l s (gl_L A g L)) (A 17 s)) → pb_S Z mX2_weigh 1 0 0 (fun v h' => v = none ∧ stG A l g (cB (gl_v A l g) B L) h0 h' ∧ ∀ x, x ≠ 70 → x ≠ 500 → h' x = h x) 51 [some (.ref 70), some (.ref 62), some (.int (nI n)), some (.int (nI f)), some (.int (nI i))] [] h := by
    intro i f hi hor hf
    have hmono := pb_sum_mono (f := fun s => pb_abs (pb_see A l s (gl_L A g L)) (A 17 s)) hi
    rw [← hf, ← epf] at hmono
    by_cases e3 : i = 3
    · subst e3
      rw [← epf] at hf
      subst hf
      refine pb_iload_n (pc2 := 52) dX2_weigh_51 rfl rfl rfl ?_
      refine pb_aload_n (pc2 := 53) dX2_weigh_52 rfl rfl rfl ?_
      refine pb_getf (pc2 := 56) flX2_15_X2 rfl dX2_weigh_53 (by first | assumption | exact hR.a rfl | exact hR.o | exact hC.o | exact hC.pal | exact hC.tub | exact hC.k _ _ rfl | exact hC.pot _ (by omega) | exact hC.are _ (by omega) | exact hC.arl _ (by omega) | exact hC.tbo _ (by omega) (by omega)) rfl rfl ?_
      refine pb_icmpN_lt (tgt := 75) (pc2 := 59) dX2_weigh_56 (by decide) rfl (by omega) (by omega) (fun c => ?_) (fun c => ?_)
      · exact put (Or.inl c) 3
      · refine pb_iload_n (pc2 := 60) dX2_weigh_59 rfl rfl rfl ?_
        refine pb_aload_n (pc2 := 61) dX2_weigh_60 rfl rfl rfl ?_
        refine pb_getf (pc2 := 64) flX2_15_X2 rfl dX2_weigh_61 (by first | assumption | exact hR.a rfl | exact hR.o | exact hC.o | exact hC.pal | exact hC.tub | exact hC.k _ _ rfl | exact hC.pot _ (by omega) | exact hC.are _ (by omega) | exact hC.arl _ (by omega) | exact hC.tbo _ (by omega) (by omega)) rfl rfl ?_
        refine pb_icmpN_ne (tgt := 99) (pc2 := 67) dX2_weigh_64 (by decide) rfl (by omega) (by omega) (fun c2 => ?_) (fun c2 => ?_)
        · exact noput (by omega) _ _
        · refine pb_iload_n (pc2 := 68) dX2_weigh_67 rfl rfl rfl ?_
          refine pb_aload_n (pc2 := 69) dX2_weigh_68 rfl rfl rfl ?_
          refine pb_getf (pc2 := 72) flX2_9_X2 rfl dX2_weigh_69 (by first | assumption | exact hR.a rfl | exact hR.o | exact hC.o | exact hC.pal | exact hC.tub | exact hC.k _ _ rfl | exact hC.pot _ (by omega) | exact hC.are _ (by omega) | exact hC.arl _ (by omega) | exact hC.tbo _ (by omega) (by omega)) rfl rfl ?_
          refine pb_icmpN_ge (tgt := 99) (pc2 := 75) dX2_weigh_72 (by decide) rfl (by omega) (by omega) (fun c3 => ?_) (fun c3 => ?_)
          · exact noput (by omega) _ _
          · exact put (Or.inr ⟨c2, c3⟩) 3
    · refine pb_iload_n (pc2 := 52) dX2_weigh_51 rfl rfl rfl ?_
      refine pb_aload_n (pc2 := 53) dX2_weigh_52 rfl rfl rfl ?_
      refine pb_getf (pc2 := 56) flX2_15_X2 rfl dX2_weigh_53 (by first | assumption | exact hR.a rfl | exact hR.o | exact hC.o | exact hC.pal | exact hC.tub | exact hC.k _ _ rfl | exact hC.pot _ (by omega) | exact hC.are _ (by omega) | exact hC.arl _ (by omega) | exact hC.tbo _ (by omega) (by omega)) rfl rfl ?_
      refine pb_icmpN_lt (tgt := 75) (pc2 := 59) dX2_weigh_56 (by decide) rfl (by omega) (by omega) (fun c => ?_) (fun c => ?_)
      · omega
      · refine pb_iload_n (pc2 := 60) dX2_weigh_59 rfl rfl rfl ?_
        refine pb_aload_n (pc2 := 61) dX2_weigh_60 rfl rfl rfl ?_
        refine pb_getf (pc2 := 64) flX2_15_X2 rfl dX2_weigh_61 (by first | assumption | exact hR.a rfl | exact hR.o | exact hC.o | exact hC.pal | exact hC.tub | exact hC.k _ _ rfl | exact hC.pot _ (by omega) | exact hC.are _ (by omega) | exact hC.arl _ (by omega) | exact hC.tbo _ (by omega) (by omega)) rfl rfl ?_
        refine pb_icmpN_ne (tgt := 99) (pc2 := 67) dX2_weigh_64 (by decide) rfl (by omega) (by omega) (fun c2 => ?_) (fun c2 => ?_)
        · exact noput (by omega) _ _
        · omega
  have loop : ∀ (q i f : Nat), 3 - i < q → i ≤ 3 → f = pb_sum i (fun s => pb_abs (pb_see A l s (gl_L A g L)) (A 17 s)) → pb_S Z mX2_weigh 1 0 0 (fun v h' => v = none ∧ stG A l g (cB (gl_v A l g) B L) h0 h' ∧ ∀ x, x ≠ 70 → x ≠ 500 → h' x = h x) 5 [some (.ref 70), some (.ref 62), some (.int (nI n)), some (.int (nI f)), some (.int (nI i))] [] h := by
    intro q
    induction q with
    | zero => intro i f g1; omega
    | succ q ih =>
      intro i f g1 g2 hf
      have hmono := pb_sum_mono (f := fun s => pb_abs (pb_see A l s (gl_L A g L)) (A 17 s)) g2
      rw [← hf, ← epf] at hmono
      refine pb_iload (pc2 := 7) dX2_weigh_5 rfl rfl ?_
      refine pb_iconst (x := nI 3) (pc2 := 8) dX2_weigh_7 (by decide) rfl ?_
      refine pb_icmpN_ge (tgt := 51) (pc2 := 11) dX2_weigh_8 (by decide) rfl (by omega) (by omega) (fun c => ?_) (fun c => ?_)
      · exact tail i f g2 (by omega) hf
      · refine pb_iload_n (pc2 := 12) dX2_weigh_11 rfl rfl rfl ?_
        refine pb_aload_n (pc2 := 13) dX2_weigh_12 rfl rfl rfl ?_
        refine pb_getf (pc2 := 16) flX2_15_X2 rfl dX2_weigh_13 (by first | assumption | exact hR.a rfl | exact hR.o | exact hC.o | exact hC.pal | exact hC.tub | exact hC.k _ _ rfl | exact hC.pot _ (by omega) | exact hC.are _ (by omega) | exact hC.arl _ (by omega) | exact hC.tbo _ (by omega) (by omega)) rfl rfl ?_
        refine pb_icmpN_gt (tgt := 51) (pc2 := 19) dX2_weigh_16 (by decide) rfl (by omega) (by omega) (fun c2 => ?_) (fun c2 => ?_)
        · exact tail i f g2 (Or.inr c2) hf
        · have hTi := hT2 i c
          have hsi := hsl i
          refine pb_iload_n (pc2 := 20) dX2_weigh_19 rfl rfl rfl ?_
          refine pb_aload_n (pc2 := 21) dX2_weigh_20 rfl rfl rfl ?_
          refine pb_iload (pc2 := 23) dX2_weigh_21 rfl rfl ?_
          refine pb_aload_n (pc2 := 24) dX2_weigh_23 rfl rfl rfl ?_
          refine pb_getf (pc2 := 27) flX2_33_X2 rfl dX2_weigh_24 (by first | assumption | exact hR.a rfl | exact hR.o | exact hC.o | exact hC.pal | exact hC.tub | exact hC.k _ _ rfl | exact hC.pot _ (by omega) | exact hC.are _ (by omega) | exact hC.arl _ (by omega) | exact hC.tbo _ (by omega) (by omega)) rfl rfl ?_
          refine pb_iload_n (pc2 := 28) dX2_weigh_27 rfl rfl rfl ?_
          refine pb_aald (pc2 := 29) (by first | assumption | exact hR.a rfl | exact hR.o | exact hC.o | exact hC.pal | exact hC.tub | exact hC.k _ _ rfl | exact hC.pot _ (by omega) | exact hC.are _ (by omega) | exact hC.arl _ (by omega) | exact hC.tbo _ (by omega) (by omega)) dX2_weigh_28 (by decide) (by omega) (by omega) (cTo_at (by omega)) rfl ?_
          refine pb_callV (pc2 := 32) (k2 := 0) (n2 := 0) mwX4_bySight pb_cl4.1 iwX4_bySight seX4_bySight rfl mlX2_105 dX2_weigh_29 (by first | assumption | exact hR.a rfl | exact hR.o | exact hC.o | exact hC.pal | exact hC.tub | exact hC.k _ _ rfl | exact hC.pot _ (by omega) | exact hC.are _ (by omega) | exact hC.arl _ (by omega) | exact hC.tbo _ (by omega) (by omega)) (t_bySight2 w h62 h74 hL hl c hr (fun b hb hw => by rw [hF b hb (pb_sh_w c hw)]; exact gl_L_le A b L g hg)) (by omega) (by omega) (by omega) rfl rfl (Nat.le_of_ble_eq_true rfl) rfl (pb_kE ?_)
          refine pb_top (v2 := .int (nI (pb_see A l i (gl_L A g L)))) (by rw [hsee i c]) ?_
          refine pb_aload_n (pc2 := 33) dX2_weigh_32 rfl rfl rfl ?_
          refine pb_getf (pc2 := 36) flX2_22_X2 rfl dX2_weigh_33 (by first | assumption | exact hR.a rfl | exact hR.o | exact hC.o | exact hC.pal | exact hC.tub | exact hC.k _ _ rfl | exact hC.pot _ (by omega) | exact hC.are _ (by omega) | exact hC.arl _ (by omega) | exact hC.tbo _ (by omega) (by omega)) rfl rfl ?_
          refine pb_iload (pc2 := 38) dX2_weigh_36 rfl rfl ?_
          refine pb_iald (pc2 := 39) (by first | assumption | exact hR.a rfl | exact hR.o | exact hC.o | exact hC.pal | exact hC.tub | exact hC.k _ _ rfl | exact hC.pot _ (by omega) | exact hC.are _ (by omega) | exact hC.arl _ (by omega) | exact hC.tbo _ (by omega) (by omega)) ⟨by decide, rfl⟩ dX2_weigh_38 (by omega) (by omega) rfl ?_
          refine pb_isub (pc2 := 40) dX2_weigh_39 rfl ?_
          refine pb_mabsN (pc2 := 43) rfl mlX2_109 dX2_weigh_40 (by omega) (by omega) (by omega) (Nat.le_of_ble_eq_true rfl) rfl ?_
          refine pb_iaddN (pc2 := 44) dX2_weigh_43 rfl ?_
          refine pb_istore_n (lv2 := [_, _, _, _, _]) (pc2 := 45) dX2_weigh_44 rfl (by decide) rfl rfl ?_
          refine pb_iincP (c0 := 1) (lv2 := [_, _, _, _, _]) (pc2 := 48) dX2_weigh_45 rfl (by decide) rfl rfl ?_
          refine pb_goto (tgt := 5) dX2_weigh_48 (by decide) ?_
          refine ih (i + 1) _ (by omega) (by omega) ?_
          show f + pb_abs _ (T i) = pb_sum i _ + pb_abs _ (A 17 i)
          rw [hT i c, hf]
  refine pb_iconst (x := nI 0) (pc2 := 1) dX2_weigh_0 (by decide) rfl ?_
  refine pb_istore_n (lv2 := [_, _, _, _, _]) (pc2 := 2) dX2_weigh_1 rfl (by decide) rfl rfl ?_
  refine pb_iconst (x := nI 0) (pc2 := 3) dX2_weigh_2 (by decide) rfl ?_
  refine pb_istore (lv2 := [_, _, _, _, _]) (pc2 := 5) dX2_weigh_3 (by decide) rfl rfl ?_
  exact loop 4 0 0 (by omega) (by omega) rfl
/-- a part of the walk: all stacks upon L -/
def spG (Z : pb_Z) (h0 : pb_H) (A : pb_A) (l g s : Nat) (lv D : Nat) : Prop := ∀ (L : List Nat) (set : Nat) (B : List Nat) (F Q : Nat → Nat) (h : pb_H), L.length = lv → set < 4096 → (∀ t, t < 12 → set.testBit t = gl_ok s L (3 * t)) → stG A l g B h0 h → gbG A l h → h (560 + lv) = some (.inl (0, 8, fun j => nI (F j))) → pb_shn A l F (gl_L A g L) → h 505 = some (.inl (0, 3, fun j => nI (Q j))) → (∀ k, k < lv → Q k = gl_c (L.getD k 0)) → pb_T Z mX2_layOn D 0 0 [.ref 70, .ref 62, .int (nI lv), .int (nI set)] h (fun v h' => v = none ∧ stG A l g ((gl_d s (3 - lv) L).foldl (cB (gl_v A l g)) B) h0 h' ∧ (∃ Q' : Nat → Nat, h' 505 = some (.inl (0, 3, fun j => nI (Q' j))) ∧ ∀ k, k < lv → Q' k = gl_c (L.getD k 0)) ∧ ∀ x, x ≠ 70 → x ≠ 500 → x ≠ 505 → (x ≤ 560 + lv ∨ 564 ≤ x) → h' x = h x)
theorem gl_ok3 {s : Nat} {L : List Nat} {t j : Nat} (hj : j < 3) : gl_ok s L (3 * t + j) = gl_ok s L (3 * t) := by
  unfold gl_ok
  rw [show (3 * t + j) / 3 = t by omega, show 3 * t / 3 = t by omega]
theorem gl_ok_up {s set : Nat} {L : List Nat} {t j : Nat} (hj : j < 3) (hset : set < 4096) (h : ∀ u, u < 12 → set.testBit u = gl_ok s L (3 * u)) : ∀ u, u < 12 → (fw_rm set t).testBit u = gl_ok s (L ++ [3 * t + j]) (3 * u) := fun u hu => by
  rw [fw_rm_tb hset, h u hu]
  unfold gl_ok
  rw [List.all_append, List.all_cons, List.all_nil, show 3 * u / 3 = u by omega, show (3 * t + j) / 3 = t by omega, Bool.and_true]
  by_cases e : t = u
  · subst e
    simp
  · have : (t != u) = true := by simpa using e
    rw [this, Bool.and_true]
    simp [e]
theorem gl_L_s {A : pb_A} {g : Nat} {L : List Nat} {t j b : Nat} (hj : j < 3) : gl_L A g (L ++ [3 * t + j]) b = pb_lay (pb_ta (A 7 (8 * t + b)) (A 8 (8 * t + b))) (pb_tb (A 7 (8 * t + b)) (A 8 (8 * t + b))) (2 ^ j) (gl_L A g L b) := by
  unfold gl_L
  rw [List.foldl_append]
  show gl_1 A b _ (3 * t + j) = _
  unfold gl_1
  rw [show (3 * t + j) / 3 = t by omega, show (3 * t + j) % 3 = j by omega]
  rcases (show j = 0 ∨ j = 1 ∨ j = 2 by omega) with rfl | rfl | rfl <;> rfl
theorem gl_c_s {t j : Nat} (hj : j < 3) : gl_c (3 * t + j) = 10 * t + 2 ^ j := by
  unfold gl_c
  rw [show (3 * t + j) / 3 = t by omega, show (3 * t + j) % 3 = j by omega]
  rcases (show j = 0 ∨ j = 1 ∨ j = 2 by omega) with rfl | rfl | rfl <;> rfl
def gl_g (s d : Nat) (L : List Nat) (x : Nat) : List (List Nat) := if gl_ok s L x then (L ++ [x]) :: gl_d s d (L ++ [x]) else []
theorem gl_fm_s {α : Type} {g : Nat → List α} {x : Nat} (h : x < 36) : gl_fm g (36 - x) x = g x ++ gl_fm g (36 - (x + 1)) (x + 1) := by
  obtain ⟨r, hr⟩ : ∃ r, 36 - x = r + 1 := ⟨36 - x - 1, by omega⟩
  rw [hr, show 36 - (x + 1) = r by omega]
  rfl
set_option maxRecDepth 10000 in
theorem b_layOn (w : pb_WF A) {l g s lv D : Nat} (hl : l < 4) (hg : g ≤ 10000) (hst : ∀ t, A 1 0 ≤ t → s.testBit t = false) (hlv : lv ≤ 3) (hD : 2 ≤ D) (hrec : lv < 3 → spG Z h0 A l g s (lv + 1) D) : spG Z h0 A l g s lv (D + 1) := by
  intro L set B F Q h hLl hset hbits hST hS hr hF h505 hQ
  have htt := w.tubes
  refine pb_T.of pnX2_layOn (Nat.le_of_ble_eq_true rfl) (lv := [some (.ref 70), some (.ref 62), some (.int (nI lv)), some (.int (nI set)), none, none, none]) rfl ?_
  refine pb_iload_n (pc2 := 1) dX2_layOn_0 rfl rfl rfl ?_
  refine pb_iconst (x := nI 3) (pc2 := 2) dX2_layOn_1 (by decide) rfl ?_
  refine pb_icmpN_lt (tgt := 6) (pc2 := 5) dX2_layOn_2 (by decide) rfl (by omega) (by omega) (fun hlt => ?_) (fun q => ?_)
  rotate_left
  · rw [show 3 - lv = 0 by omega]
    exact pb_return dX2_layOn_5 rfl (⟨rfl, hST, ⟨Q, h505, hQ⟩, fun x _ _ _ _ => rfl⟩)
  have ed : gl_d s (3 - lv) L = gl_fm (gl_g s (3 - (lv + 1)) L) 36 0 := by
    rw [show 3 - lv = (3 - (lv + 1)) + 1 by omega]
    rfl
  rw [ed]
  generalize hBf : (gl_fm (gl_g s (3 - (lv + 1)) L) 36 0).foldl (cB (gl_v A l g)) B = Bf
  have outer : ∀ (q t : Nat) (B1 : List Nat) (Q1 : Nat → Nat) (h1 : pb_H) (o5 o6 : Option Value), 12 - t < q → t ≤ 12 → stG A l g B1 h0 h1 → h1 505 = some (.inl (0, 3, fun j => nI (Q1 j))) → (∀ k, k < lv → Q1 k = gl_c (L.getD k 0)) → (∀ x, x ≠ 70 → x ≠ 500 → x ≠ 505 → (x ≤ 560 + lv ∨ 564 ≤ x) → h1 x = h x) → (gl_fm (gl_g s (3 - (lv + 1)) L) (36 - 3 * t) (3 * t)).foldl (cB (gl_v A l g)) B1 = Bf → pb_S Z mX2_layOn (D + 1) 0 0 (fun v h' => v = none ∧ stG A l g Bf h0 h' ∧ (∃ Q' : Nat → Nat, h' 505 = some (.inl (0, 3, fun j => nI (Q' j))) ∧ ∀ k, k < lv → Q' k = gl_c (L.getD k 0)) ∧ ∀ x, x ≠ 70 → x ≠ 500 → x ≠ 505 → (x ≤ 560 + lv ∨ 564 ≤ x) → h' x = h x) 9 [some (.ref 70), some (.ref 62), some (.int (nI lv)), some (.int (nI set)), some (.int (nI t)), o5, o6] [] h1 := by
    intro q
    induction q with
    | zero => intro t B1 Q1 h1 o5 o6 g1; omega
    | succ q ih =>
      intro t B1 Q1 h1 o5 o6 g1 g2 hST h505 hQ nb hfold
      have ho := hST.2.1
      refine pb_iload (pc2 := 11) dX2_layOn_9 rfl rfl ?_
      refine pb_bipush (x := nI 12) (pc2 := 13) dX2_layOn_11 (by decide) rfl ?_
      refine pb_icmpN_ge (tgt := 136) (pc2 := 16) dX2_layOn_13 (by decide) rfl (by omega) (by omega) (fun c => ?_) (fun c => ?_)
      · have e : t = 12 := by omega
        subst e
        have hfold : B1 = Bf := hfold
        subst hfold
        exact pb_return dX2_layOn_136 rfl (⟨rfl, hST, ⟨Q1, h505, hQ⟩, nb⟩)
      · have hbl := pb_bit_le set t
        have nxt : ∀ (B2 : List Nat) (Q2 : Nat → Nat) (h2 : pb_H) (o5 o6 : Option Value), stG A l g B2 h0 h2 → h2 505 = some (.inl (0, 3, fun j => nI (Q2 j))) → (∀ k, k < lv → Q2 k = gl_c (L.getD k 0)) → (∀ x, x ≠ 70 → x ≠ 500 → x ≠ 505 → (x ≤ 560 + lv ∨ 564 ≤ x) → h2 x = h x) → (gl_fm (gl_g s (3 - (lv + 1)) L) (36 - (3 * t + 3)) (3 * t + 3)).foldl (cB (gl_v A l g)) B2 = Bf → pb_S Z mX2_layOn (D + 1) 0 0 (fun v h' => v = none ∧ stG A l g Bf h0 h' ∧ (∃ Q' : Nat → Nat, h' 505 = some (.inl (0, 3, fun j => nI (Q' j))) ∧ ∀ k, k < lv → Q' k = gl_c (L.getD k 0)) ∧ ∀ x, x ≠ 70 → x ≠ 500 → x ≠ 505 → (x ≤ 560 + lv ∨ 564 ≤ x) → h' x = h x) 130 [some (.ref 70), some (.ref 62), some (.int (nI lv)), some (.int (nI set)), some (.int (nI t)), o5, o6] [] h2 := by
          intro B2 Q2 h2 o5 o6 hST h505 hQ nb hfold
          refine pb_iincP (c0 := 1) (lv2 := [_, _, _, _, _, _, _]) (pc2 := 133) dX2_layOn_130 rfl (by decide) rfl rfl ?_
          refine pb_goto (tgt := 9) dX2_layOn_133 (by decide) ?_
          exact ih (t + 1) B2 Q2 h2 o5 o6 (by omega) (by omega) hST h505 hQ nb hfold
        refine pb_iload_n (pc2 := 17) dX2_layOn_16 rfl rfl rfl ?_
        refine pb_iload (pc2 := 19) dX2_layOn_17 rfl rfl ?_
        refine pb_ishrN (pc2 := 20) dX2_layOn_19 (by omega) (by omega) rfl ?_
        refine pb_iconst (x := nI 1) (pc2 := 21) dX2_layOn_20 (by decide) rfl ?_
        refine pb_iandB (pc2 := 22) dX2_layOn_21 rfl ?_
        refine pb_iconst (x := nI 1) (pc2 := 23) dX2_layOn_22 (by decide) rfl ?_
        refine pb_icmpN_ne (tgt := 130) (pc2 := 26) dX2_layOn_23 (by decide) rfl (by omega) (by omega) (fun c2 => ?_) (fun c2 => ?_)
        · have hb : set.testBit t = false := pb_bit_0.mp (by omega)
          rw [hbits t c] at hb
          refine nxt B1 Q1 h1 _ _ hST h505 hQ nb ?_
          have hz : ∀ j, j < 3 → gl_g s (3 - (lv + 1)) L (3 * t + j) = [] := fun j hj => by
            unfold gl_g
            rw [gl_ok3 hj, hb]
            rfl
          rw [gl_fm_s (by omega), gl_fm_s (by omega), gl_fm_s (by omega), show gl_g s (3 - (lv + 1)) L (3 * t) = [] from hz 0 (by omega), show gl_g s (3 - (lv + 1)) L (3 * t + 1) = [] from hz 1 (by omega), show gl_g s (3 - (lv + 1)) L (3 * t + 1 + 1) = [] from hz 2 (by omega), List.nil_append, List.nil_append, List.nil_append] at hfold
          exact hfold
        · have hb : set.testBit t = true := pb_bit_1.mp c2
          have hok : ∀ j, j < 3 → gl_ok s L (3 * t + j) = true := fun j hj => by rw [gl_ok3 hj, ← hbits t c]; exact hb
          have htT : t < A 1 0 := by
            apply Nat.lt_of_not_le
            intro z
            have h9 := hok 0 (by omega)
            unfold gl_ok at h9
            rw [show (3 * t + 0) / 3 = t by omega, hst t z] at h9
            cases h9
          have hS1 := hS.up (h' := h1) (fun x hx => nb x (by omega) (by omega) (by omega) (by omega))
          have h504 := hS1.2.2.2.2.1
          have hr1 := (nb (560 + lv) (by omega) (by omega) (by omega) (by omega)).trans hr
          obtain ⟨G, hg1⟩ := hST.1.s (560 + (lv + 1)) 8 (cS_8 (by omega))
          refine pb_aload_n (pc2 := 27) dX2_layOn_26 rfl rfl rfl ?_
          refine pb_getf (pc2 := 30) flX2_33_X2 rfl dX2_layOn_27 (by first | assumption | exact hR.a rfl | exact hR.o | exact hC.o | exact hC.pal | exact hC.tub | exact hC.k _ _ rfl | exact hC.pot _ (by omega) | exact hC.are _ (by omega) | exact hC.arl _ (by omega) | exact hC.tbo _ (by omega) (by omega)) rfl rfl ?_
          refine pb_iload_n (pc2 := 31) dX2_layOn_30 rfl rfl rfl ?_
          refine pb_aald (pc2 := 32) (by first | assumption | exact hR.a rfl | exact hR.o | exact hC.o | exact hC.pal | exact hC.tub | exact hC.k _ _ rfl | exact hC.pot _ (by omega) | exact hC.are _ (by omega) | exact hC.arl _ (by omega) | exact hC.tbo _ (by omega) (by omega)) dX2_layOn_31 (by decide) (by omega) (by omega) (cTo_at (by omega)) rfl ?_
          refine pb_iconst (x := nI 0) (pc2 := 33) dX2_layOn_32 (by decide) rfl ?_
          refine pb_aload_n (pc2 := 34) dX2_layOn_33 rfl rfl rfl ?_
          refine pb_getf (pc2 := 37) flX2_33_X2 rfl dX2_layOn_34 (by first | assumption | exact hR.a rfl | exact hR.o | exact hC.o | exact hC.pal | exact hC.tub | exact hC.k _ _ rfl | exact hC.pot _ (by omega) | exact hC.are _ (by omega) | exact hC.arl _ (by omega) | exact hC.tbo _ (by omega) (by omega)) rfl rfl ?_
          refine pb_iload_n (pc2 := 38) dX2_layOn_37 rfl rfl rfl ?_
          refine pb_iconst (x := nI 1) (pc2 := 39) dX2_layOn_38 (by decide) rfl ?_
          refine pb_iaddN (pc2 := 40) dX2_layOn_39 rfl ?_
          refine pb_aald (pc2 := 41) (by first | assumption | exact hR.a rfl | exact hR.o | exact hC.o | exact hC.pal | exact hC.tub | exact hC.k _ _ rfl | exact hC.pot _ (by omega) | exact hC.are _ (by omega) | exact hC.arl _ (by omega) | exact hC.tbo _ (by omega) (by omega)) dX2_layOn_40 (by decide) (by omega) (by omega) (cTo_at (by omega)) rfl ?_
          refine pb_iconst (x := nI 0) (pc2 := 42) dX2_layOn_41 (by decide) rfl ?_
          refine pb_bipush (x := nI 8) (pc2 := 44) dX2_layOn_42 (by decide) rfl ?_
          refine pb_acopyG (pc2 := 47) rfl alX2_39 dX2_layOn_44 hr1 hg1 (by omega) (by omega) (by omega) (by omega) (by omega) (by omega) (Nat.le_of_ble_eq_true rfl) rfl (fun h2 hg1 n2 => ?_)
          have hST := hST.s1 (cS_8 (a := 560 + (lv + 1)) (by omega)) hg1 n2
          have h505 := (n2 _ (by omega)).trans h505
          have nb2 : ∀ x, x ≠ 70 → x ≠ 500 → x ≠ 505 → (x ≤ 560 + lv ∨ 564 ≤ x) → h2 x = h x := fun x x1 x2 x3 x4 => (n2 x (by omega)).trans (nb x x1 x2 x3 x4)
          have inner : ∀ (q2 j : Nat) (B2 : List Nat) (Q2 G2 : Nat → Nat) (h3 : pb_H), 3 - j < q2 → j ≤ 3 → stG A l g B2 h0 h3 → h3 505 = some (.inl (0, 3, fun j => nI (Q2 j))) → (∀ k, k < lv → Q2 k = gl_c (L.getD k 0)) → h3 (560 + (lv + 1)) = some (.inl (0, 8, fun j => nI (G2 j))) → (j < 3 → ∀ b, b < 8 → pb_sh A l b = 1 → G2 b = pb_lay (pb_ta (A 7 (8 * t + b)) (A 8 (8 * t + b))) (pb_tb (A 7 (8 * t + b)) (A 8 (8 * t + b))) (if j = 0 then 0 else 2 ^ (j - 1)) (gl_L A g L b)) → (∀ x, x ≠ 70 → x ≠ 500 → x ≠ 505 → (x ≤ 560 + lv ∨ 564 ≤ x) → h3 x = h x) → (gl_fm (gl_g s (3 - (lv + 1)) L) (36 - (3 * t + j)) (3 * t + j)).foldl (cB (gl_v A l g)) B2 = Bf → pb_S Z mX2_layOn (D + 1) 0 0 (fun v h' => v = none ∧ stG A l g Bf h0 h' ∧ (∃ Q' : Nat → Nat, h' 505 = some (.inl (0, 3, fun j => nI (Q' j))) ∧ ∀ k, k < lv → Q' k = gl_c (L.getD k 0)) ∧ ∀ x, x ≠ 70 → x ≠ 500 → x ≠ 505 → (x ≤ 560 + lv ∨ 564 ≤ x) → h' x = h x) 53 [some (.ref 70), some (.ref 62), some (.int (nI lv)), some (.int (nI set)), some (.int (nI t)), some (.int (nI (if j = 0 then 0 else 2 ^ (j - 1)))), some (.int (nI (2 ^ j)))] [] h3 := by
            intro q2
            induction q2 with
            | zero => intro j B2 Q2 G2 h3 k1; omega
            | succ q2 ih2 =>
              intro j B2 Q2 G2 h3 k1 k2 hST h505 hQ hg1 hG2 nb hfold
              have hj8 : 2 ^ j ≤ 8 := Nat.pow_le_pow_right (n := 2) (by omega) k2
              have ho := hST.2.1
              by_cases e : j = 3
              · subst e
                refine pb_iload (pc2 := 55) dX2_layOn_53 rfl rfl ?_
                refine pb_iconst (x := nI 4) (pc2 := 56) dX2_layOn_55 (by decide) rfl ?_
                refine pb_icmpN_gt (tgt := 130) (pc2 := 59) dX2_layOn_56 (by decide) rfl (by omega) (by omega) (fun c3 => ?_) (fun c3 => ?_)
                · exact nxt B2 Q2 h3 _ _ hST h505 hQ nb hfold
                · omega
              · have hj : j < 3 := by omega
                have hj4 : 2 ^ j ≤ 4 := Nat.pow_le_pow_right (n := 2) (by omega) (show j ≤ 2 by omega)
                have hj1 : 1 ≤ 2 ^ j := Nat.one_le_two_pow
                have hth : (if j = 0 then 0 else 2 ^ (j - 1)) ≤ 2 ^ j := by
                  split
                  · omega
                  · exact Nat.pow_le_pow_right (by omega) (by omega)
                have hG2 := hG2 hj
                generalize hthe : (if j = 0 then 0 else 2 ^ (j - 1)) = th at hth hG2 ⊢
                have hS3 := hS.up (h' := h3) (fun x hx => nb x (by omega) (by omega) (by omega) (by omega))
                have h504 := hS3.2.2.2.2.1
                rw [gl_fm_s (by omega), List.foldl_append] at hfold
                have hgg : gl_g s (3 - (lv + 1)) L (3 * t + j) = (L ++ [3 * t + j]) :: gl_d s (3 - (lv + 1)) (L ++ [3 * t + j]) := by
                  unfold gl_g
                  rw [if_pos (hok j hj)]
                rw [hgg, List.foldl_cons] at hfold
                have hll : (L ++ [3 * t + j]).length = lv + 1 := by rw [List.length_append, hLl]; rfl
                refine pb_iload (pc2 := 55) dX2_layOn_53 rfl rfl ?_
                refine pb_iconst (x := nI 4) (pc2 := 56) dX2_layOn_55 (by decide) rfl ?_
                refine pb_icmpN_gt (tgt := 130) (pc2 := 59) dX2_layOn_56 (by decide) rfl (by omega) (by omega) (fun c3 => ?_) (fun c3 => ?_)
                · omega
                · refine pb_aload_n (pc2 := 60) dX2_layOn_59 rfl rfl rfl ?_
                  refine pb_aload_n (pc2 := 61) dX2_layOn_60 rfl rfl rfl ?_
                  refine pb_aload_n (pc2 := 62) dX2_layOn_61 rfl rfl rfl ?_
                  refine pb_getf (pc2 := 65) flX2_33_X2 rfl dX2_layOn_62 (by first | assumption | exact hR.a rfl | exact hR.o | exact hC.o | exact hC.pal | exact hC.tub | exact hC.k _ _ rfl | exact hC.pot _ (by omega) | exact hC.are _ (by omega) | exact hC.arl _ (by omega) | exact hC.tbo _ (by omega) (by omega)) rfl rfl ?_
                  refine pb_iload_n (pc2 := 66) dX2_layOn_65 rfl rfl rfl ?_
                  refine pb_iconst (x := nI 1) (pc2 := 67) dX2_layOn_66 (by decide) rfl ?_
                  refine pb_iaddN (pc2 := 68) dX2_layOn_67 rfl ?_
                  refine pb_aald (pc2 := 69) (by first | assumption | exact hR.a rfl | exact hR.o | exact hC.o | exact hC.pal | exact hC.tub | exact hC.k _ _ rfl | exact hC.pot _ (by omega) | exact hC.are _ (by omega) | exact hC.arl _ (by omega) | exact hC.tbo _ (by omega) (by omega)) dX2_layOn_68 (by decide) (by omega) (by omega) (cTo_at (by omega)) rfl ?_
                  refine pb_iload (pc2 := 71) dX2_layOn_69 rfl rfl ?_
                  refine pb_iload (pc2 := 73) dX2_layOn_71 rfl rfl ?_
                  refine pb_iload (pc2 := 75) dX2_layOn_73 rfl rfl ?_
                  refine pb_isubN (pc2 := 76) dX2_layOn_75 (by omega) rfl ?_
                  refine pb_callV (pc2 := 79) (k2 := 0) (n2 := 0) mwX2_thicken pb_cl2.1 iwX2_thicken seX2_thicken rfl mlX2_89 dX2_layOn_76 (by first | assumption | exact hR.a rfl | exact hR.o | exact hC.o | exact hC.pal | exact hC.tub | exact hC.k _ _ rfl | exact hC.pot _ (by omega) | exact hC.are _ (by omega) | exact hC.arl _ (by omega) | exact hC.tbo _ (by omega) (by omega)) (t_thicken hS3 ho (show lv + 1 < 4 by omega) htT c (show 2 ^ j - th ≤ 4 by omega) hg1 (fun b hb hs => by rw [hG2 b hb hs]; exact pb_lay_le (pb_tab _ _) _ _ (gl_L_le A b L g hg))) (by omega) (by omega) (by omega) rfl rfl (Nat.le_of_ble_eq_true rfl) rfl (fun v h4 q4 _ => ?_)
                  obtain ⟨rfl, ⟨G4, hg4, hG4⟩, n4⟩ := q4
                  have hST := hST.s1 (cS_8 (a := 560 + (lv + 1)) (by omega)) hg4 n4
                  have ho := hST.2.1
                  have h505 := (n4 _ (by omega)).trans h505
                  have hF4 : pb_shn A l G4 (gl_L A g (L ++ [3 * t + j])) := fun b hb hs => by
                    rw [hG4 b hb hs, hG2 b hb hs, ← pb_lay_add, gl_L_s hj, show th + (2 ^ j - th) = 2 ^ j by omega]
                  refine pb_iload (pc2 := 81) dX2_layOn_79 rfl rfl ?_
                  refine pb_istore (lv2 := [_, _, _, _, _, _, _]) (pc2 := 83) dX2_layOn_81 (by decide) rfl rfl ?_
                  refine pb_aload_n (pc2 := 84) dX2_layOn_83 rfl rfl rfl ?_
                  refine pb_getf (pc2 := 87) flX2_36_X2 rfl dX2_layOn_84 (by first | assumption | exact hR.a rfl | exact hR.o | exact hC.o | exact hC.pal | exact hC.tub | exact hC.k _ _ rfl | exact hC.pot _ (by omega) | exact hC.are _ (by omega) | exact hC.arl _ (by omega) | exact hC.tbo _ (by omega) (by omega)) rfl rfl ?_
                  refine pb_iload_n (pc2 := 88) dX2_layOn_87 rfl rfl rfl ?_
                  refine pb_bipush (x := nI 10) (pc2 := 90) dX2_layOn_88 (by decide) rfl ?_
                  refine pb_iload (pc2 := 92) dX2_layOn_90 rfl rfl ?_
                  refine pb_imulN (pc2 := 93) dX2_layOn_92 rfl ?_
                  refine pb_iload (pc2 := 95) dX2_layOn_93 rfl rfl ?_
                  refine pb_iaddN (pc2 := 96) dX2_layOn_95 rfl ?_
                  refine pb_iastG (pc2 := 97) h505 dX2_layOn_96 (by omega) (by omega) (by omega) rfl (fun h5 h505 n5 => ?_)
                  have hST := hST.s1 (a := 505) rfl h505 n5
                  have ho := hST.2.1
                  have hg4 := (n5 _ (by omega)).trans hg4
                  have hS5 := hS3.up (h' := h5) (fun x hx => (n5 x (by omega)).trans (n4 x (by omega)))
                  have hQ5 : ∀ k, k < lv + 1 → pb_un Q2 lv (10 * t + 2 ^ j) k = gl_c ((L ++ [3 * t + j]).getD k 0) := fun k hk => by
                    obtain ⟨a1, a2⟩ := gl_app2 (x := 3 * t + j) hLl
                    by_cases e : k = lv
                    · rw [e, pb_un_self, a2, gl_c_s hj]
                    · rw [pb_un_ne _ _ e, a1 k (by omega)]; exact hQ k (by omega)
                  refine pb_aload_n (pc2 := 98) dX2_layOn_97 rfl rfl rfl ?_
                  refine pb_aload_n (pc2 := 99) dX2_layOn_98 rfl rfl rfl ?_
                  refine pb_iload_n (pc2 := 100) dX2_layOn_99 rfl rfl rfl ?_
                  refine pb_iconst (x := nI 1) (pc2 := 101) dX2_layOn_100 (by decide) rfl ?_
                  refine pb_iaddN (pc2 := 102) dX2_layOn_101 rfl ?_
                  refine pb_callV (pc2 := 105) (k2 := 0) (n2 := 0) mwX2_weigh pb_cl2.1 iwX2_weigh seX2_weigh rfl mlX2_93 dX2_layOn_102 (by first | assumption | exact hR.a rfl | exact hR.o | exact hC.o | exact hC.pal | exact hC.tub | exact hC.k _ _ rfl | exact hC.pot _ (by omega) | exact hC.are _ (by omega) | exact hC.arl _ (by omega) | exact hC.tbo _ (by omega) (by omega)) (t_weighG w hl hg hST hS5 hll (by omega) (by omega) hg4 hF4 h505 hQ5) (by omega) (by omega) (by omega) rfl rfl (Nat.le_of_ble_eq_true rfl) rfl (fun v h6 q6 _ => ?_)
                  obtain ⟨rfl, hST6, n6⟩ := q6
                  have ho := hST6.2.1
                  have hg6 := (n6 _ (by omega) (by omega)).trans hg4
                  have h505 := (n6 _ (by omega) (by omega)).trans h505
                  have hS6 := hS5.up (h' := h6) (fun x hx => n6 x (by omega) (by omega))
                  have hrm : fw_rm set t < 4096 := Nat.lt_of_le_of_lt Nat.and_le_left hset
                  refine pb_aload_n (pc2 := 106) dX2_layOn_105 rfl rfl rfl ?_
                  refine pb_aload_n (pc2 := 107) dX2_layOn_106 rfl rfl rfl ?_
                  refine pb_iload_n (pc2 := 108) dX2_layOn_107 rfl rfl rfl ?_
                  refine pb_iconst (x := nI 1) (pc2 := 109) dX2_layOn_108 (by decide) rfl ?_
                  refine pb_iaddN (pc2 := 110) dX2_layOn_109 rfl ?_
                  refine pb_iload_n (pc2 := 111) dX2_layOn_110 rfl rfl rfl ?_
                  refine pb_iconst (x := nI 1) (pc2 := 112) dX2_layOn_111 (by decide) rfl ?_
                  refine pb_iload (pc2 := 114) dX2_layOn_112 rfl rfl ?_
                  refine pb_ishl1 (pc2 := 115) dX2_layOn_114 (by omega) rfl ?_
                  refine pb_iconst (x := -1) (pc2 := 116) dX2_layOn_115 (by decide) rfl ?_
                  refine pb_top (v2 := .int (nI 4294967295)) (by decide) ?_
                  refine pb_ixorN (pc2 := 117) dX2_layOn_116 rfl ?_
                  refine pb_iandN (pc2 := 118) dX2_layOn_117 rfl ?_
                  refine pb_top (v2 := .int (nI (fw_rm set t))) rfl ?_
                  refine pb_callV (pc2 := 121) (k2 := 0) (n2 := 0) mwX2_layOn pb_cl2.1 iwX2_layOn seX2_layOn rfl mlX2_67 dX2_layOn_118 (by first | assumption | exact hR.a rfl | exact hR.o | exact hC.o | exact hC.pal | exact hC.tub | exact hC.k _ _ rfl | exact hC.pot _ (by omega) | exact hC.are _ (by omega) | exact hC.arl _ (by omega) | exact hC.tbo _ (by omega) (by omega)) (hrec hlt (L ++ [3 * t + j]) (fw_rm set t) _ G4 _ h6 hll hrm (gl_ok_up hj hset hbits) hST6 hS6 hg6 hF4 h505 hQ5) (by omega) (by omega) (by omega) rfl rfl (Nat.le_of_ble_eq_true rfl) rfl (fun v h7 q7 _ => ?_)
                  obtain ⟨rfl, hST7, ⟨Q7, h505, hQ7⟩, n7⟩ := q7
                  have hg7 := (n7 _ (by omega) (by omega) (by omega) (by omega)).trans hg6
                  refine pb_iload (pc2 := 123) dX2_layOn_121 rfl rfl ?_
                  refine pb_iconst (x := nI 2) (pc2 := 124) dX2_layOn_123 (by decide) rfl ?_
                  refine pb_imulN (pc2 := 125) dX2_layOn_124 rfl ?_
                  refine pb_istore (lv2 := [_, _, _, _, _, _, _]) (pc2 := 127) dX2_layOn_125 (by decide) rfl rfl ?_
                  refine pb_goto (tgt := 53) dX2_layOn_127 (by decide) ?_
                  have e2 : 2 ^ j * 2 = 2 ^ (j + 1) := (Nat.pow_succ 2 j).symm
                  rw [e2]
                  have := ih2 (j + 1) _ Q7 G4 h7 (by omega) (by omega) hST7 h505 (fun k hk => by
                    obtain ⟨a1, a2⟩ := gl_app2 (x := 3 * t + j) hLl
                    rw [hQ7 k (by omega), a1 k hk]) hg7 (fun hj2 b hb hs => by rw [hF4 b hb hs, gl_L_s hj, if_neg (by omega), Nat.add_sub_cancel]) (fun x x1 x2 x3 x4 => (n7 x x1 x2 x3 (by omega)).trans ((n6 x x1 x2).trans ((n5 x x3).trans ((n4 x (by omega)).trans (nb x x1 x2 x3 x4))))) hfold
                  rw [if_neg (by omega), Nat.add_sub_cancel] at this
                  exact this
          refine pb_iconst (x := nI 0) (pc2 := 48) dX2_layOn_47 (by decide) rfl ?_
          refine pb_istore (lv2 := [_, _, _, _, _, _, _]) (pc2 := 50) dX2_layOn_48 (by decide) rfl rfl ?_
          refine pb_iconst (x := nI 1) (pc2 := 51) dX2_layOn_50 (by decide) rfl ?_
          refine pb_istore (lv2 := [_, _, _, _, _, _, _]) (pc2 := 53) dX2_layOn_51 (by decide) rfl rfl ?_
          refine inner 4 0 B1 Q1 _ h2 (by omega) (by omega) hST h505 hQ hg1 (fun _ b hb hs => ?_) nb2 hfold
          show (if 0 ≤ b ∧ b < 0 + 8 then F (0 + (b - 0)) else G b) = _
          rw [if_pos (by omega), show 0 + (b - 0) = b by omega, hF b hb hs]
          rfl
  refine pb_iconst (x := nI 0) (pc2 := 7) dX2_layOn_6 (by decide) rfl ?_
  refine pb_istore (lv2 := [_, _, _, _, _, _, _]) (pc2 := 9) dX2_layOn_7 (by decide) rfl rfl ?_
  exact outer 13 0 B Q h _ _ (by omega) (by omega) hST h505 hQ (fun x _ _ _ _ => rfl) hBf
theorem t_layOn (w : pb_WF A) {l g s : Nat} (hl : l < 4) (hg : g ≤ 10000) (hst : ∀ t, A 1 0 ≤ t → s.testBit t = false) : spG Z h0 A l g s 0 6 :=
  b_layOn w hl hg hst (by omega) (by omega) (fun _ => b_layOn w hl hg hst (by omega) (by omega) (fun _ => b_layOn w hl hg hst (by omega) (by omega) (fun _ => b_layOn w hl hg hst (by omega) (by omega) (fun q => by omega))))
end PB43
/-! GLAZE itself -/
theorem pb_CF.sc2 {A : pb_A} {h0 h h' : pb_H} (hC : pb_CF A h0 h) {a a2 n n2 : Nat} (e : cS a = some n) (e2 : cS a2 = some n2) (ha : cScr n (h' a)) (ha2 : cScr n2 (h' a2)) (nb : ∀ b, b ≠ a → b ≠ a2 → h' b = h b) : pb_CF A h0 h' := by
  obtain ⟨G, ha⟩ := ha
  obtain ⟨G2, ha2⟩ := ha2
  refine (hC.sc e (h' := pb_set h a (.inl (0, n, fun j => nI (G j)))) (pb_set_self _ _ _) (fun b hb => pb_set_ne _ _ hb)).sc e2 ha2 (fun b hb => ?_)
  by_cases q : b = a
  · rw [q, pb_set_self, ha]
  · rw [pb_set_ne _ _ q]; exact nb b q hb
theorem pw_same {n : Nat} : ∀ X : List (List Nat), (∀ K ∈ X, K.length = n) → X.Pairwise (fun K J => K.length ≤ J.length)
  | [], _ => List.Pairwise.nil
  | K :: X, h => List.Pairwise.cons (fun J hJ => by rw [h K List.mem_cons_self, h J (List.mem_cons_of_mem _ hJ)]; exact Nat.le_refl _) (pw_same X (fun R hR => h R (List.mem_cons_of_mem _ hR)))
/-- both programs choose alike -/
theorem gl_both (A : pb_A) (l s g : Nat) : (sp_gf A l s g).1 = gl_v A l g ((gl_d s 3 []).foldl (cB (gl_v A l g)) []) ∧ (sp_gf A l s g).2.1 = ((gl_d s 3 []).foldl (cB (gl_v A l g)) []).length ∧ ∀ k, k < ((gl_d s 3 []).foldl (cB (gl_v A l g)) []).length → (sp_gf A l s g).2.2 k = gl_c (((gl_d s 3 []).foldl (cB (gl_v A l g)) []).getD k 0) := by
  have hlen : ∀ K ∈ gl_d s 3 [], 1 ≤ K.length ∧ K.length ≤ 3 := fun K hK => by
    obtain ⟨h1, h2⟩ := gl_d_len 3 [] K hK
    have e : ([] : List Nat).length = 0 := rfl
    omega
  have e1 : lenF 1 (gl_d s 3 []) = gl_e s 1 [] := gl_d_e (s := s) 3 [] 1 (by omega) (by omega)
  have e2 : lenF 2 (gl_d s 3 []) = gl_e s 2 [] := gl_d_e (s := s) 3 [] 2 (by omega) (by omega)
  have e3 : lenF 3 (gl_d s 3 []) = gl_e s 3 [] := gl_d_e (s := s) 3 [] 3 (by omega) (by omega)
  rw [cB_part _ _ hlen, e1, e2, e3]
  have ml : ∀ d K, K ∈ gl_e s d [] → K.length = d := fun d K hK => by
    have := (gl_e_mem d [] K hK).1
    have e : ([] : List Nat).length = 0 := rfl
    omega
  refine gl_ref _ [] _ (fun K _ => Nat.zero_le _) ?_ rfl rfl (fun k hk => absurd hk (Nat.not_lt_zero k))
  refine List.pairwise_append.mpr ⟨pw_same _ (ml 1), List.pairwise_append.mpr ⟨pw_same _ (ml 2), pw_same _ (ml 3), fun K hK J hJ => ?_⟩, fun K hK J hJ => ?_⟩
  · rw [ml 2 K hK, ml 3 J hJ]; omega
  · rw [ml 1 K hK]
    rcases List.mem_append.mp hJ with hJ | hJ
    · rw [ml 2 J hJ]; omega
    · rw [ml 3 J hJ]; omega
section PB44G
variable {Z : pb_Z} {h h0 : pb_H} {A : pb_A}
set_option maxRecDepth 10000 in
theorem t_farFrom2 (w : pb_WF A) (h62 : h 62 = some (.inr (.inr (4, [.ref 72, .ref 73, .ref 74, .ref 75, .ref 76])))) (h74 : h 74 = some (.inr (.inl (4, 3, cTo 87 3)))) {l a t : Nat} {F T : Nat → Nat} (hL : pb_LT A l h) (hl : l < 4) (ha : h a = some (.inl (0, 8, fun j => nI (F j)))) (hF : ∀ s b, s < 3 → b < 8 → 0 < pb_wt A l s b → F b ≤ 10000) (ht : h t = some (.inl (0, 3, fun j => nI (T j)))) (hT : ∀ i, i < 3 → T i ≤ 10000) (hsee : ∀ s, s < 3 → pb_see A l s F ≤ 10000) : pb_T Z mX4_farFrom 1 0 0 [.ref 62, .ref t, .ref a] h (pb_E (some (.int (nI (pb_far A l (T 0) (T 1) (T 2) F)))) h) := by
  refine pb_T.of pnX4_farFrom (Nat.le_of_ble_eq_true rfl) (lv := [some (.ref 62), some (.ref t), some (.ref a), none, none]) rfl ?_
  have loop : ∀ (m i : Nat), 3 - i < m → i ≤ 3 → pb_S Z mX4_farFrom 1 0 0 (pb_E (some (.int (nI (pb_far A l (T 0) (T 1) (T 2) F)))) h) 5 [some (.ref 62), some (.ref t), some (.ref a), some (.int (nI (pb_sum i (fun s => pb_abs (pb_see A l s F) (T s))))), some (.int (nI i))] [] h := by
    intro m
    induction m with
    | zero => intro i h1; omega
    | succ m ih =>
      intro i h1 h2
      refine pb_iload (pc2 := 7) dX4_farFrom_5 rfl rfl ?_
      refine pb_iconst (x := nI 3) (pc2 := 8) dX4_farFrom_7 (by decide) rfl ?_
      refine pb_icmpN_ge (tgt := 35) (pc2 := 11) dX4_farFrom_8 (by decide) rfl (by omega) (by omega) (fun q => ?_) (fun q => ?_)
      · have e : i = 3 := by omega
        subst e
        refine pb_iload_n (pc2 := 36) dX4_farFrom_35 rfl rfl rfl ?_
        refine pb_top (v2 := .int (nI (pb_far A l (T 0) (T 1) (T 2) F))) (by unfold pb_far; simp only [pb_sum, Nat.zero_add]) ?_
        exact pb_ireturn dX4_farFrom_36 rfl (⟨rfl, rfl⟩)
      · have hTi := hT i q
        have hsi := hsee i q
        refine pb_iload_n (pc2 := 12) dX4_farFrom_11 rfl rfl rfl ?_
        refine pb_aload_n (pc2 := 13) dX4_farFrom_12 rfl rfl rfl ?_
        refine pb_iload (pc2 := 15) dX4_farFrom_13 rfl rfl ?_
        refine pb_aload_n (pc2 := 16) dX4_farFrom_15 rfl rfl rfl ?_
        refine pb_callV (pc2 := 19) (k2 := 0) (n2 := 0) mwX4_bySight pb_cl4.1 iwX4_bySight seX4_bySight rfl mlX4_36 dX4_farFrom_16 (by first | assumption | exact hR.a rfl | exact hR.o | exact hC.o | exact hC.pal | exact hC.tub | exact hC.k _ _ rfl | exact hC.pot _ (by omega) | exact hC.are _ (by omega) | exact hC.arl _ (by omega) | exact hC.tbo _ (by omega) (by omega)) (t_bySight2 w h62 h74 hL hl q ha (fun b hb => hF i b q hb)) (by omega) (by omega) (by omega) rfl rfl (Nat.le_of_ble_eq_true rfl) rfl (pb_kE ?_)
        refine pb_aload_n (pc2 := 20) dX4_farFrom_19 rfl rfl rfl ?_
        refine pb_iload (pc2 := 22) dX4_farFrom_20 rfl rfl ?_
        refine pb_iald (pc2 := 23) (by first | assumption | exact hR.a rfl | exact hR.o | exact hC.o | exact hC.pal | exact hC.tub | exact hC.k _ _ rfl | exact hC.pot _ (by omega) | exact hC.are _ (by omega) | exact hC.arl _ (by omega) | exact hC.tbo _ (by omega) (by omega)) ⟨by decide, rfl⟩ dX4_farFrom_22 (by omega) (by omega) rfl ?_
        refine pb_isub (pc2 := 24) dX4_farFrom_23 rfl ?_
        refine pb_mabsN (pc2 := 27) rfl mlX4_40 dX4_farFrom_24 (by omega) (by omega) (by omega) (Nat.le_of_ble_eq_true rfl) rfl ?_
        refine pb_iaddN (pc2 := 28) dX4_farFrom_27 rfl ?_
        refine pb_istore_n (lv2 := [_, _, _, _, _]) (pc2 := 29) dX4_farFrom_28 rfl (by decide) rfl rfl ?_
        refine pb_iincP (c0 := 1) (lv2 := [_, _, _, _, _]) (pc2 := 32) dX4_farFrom_29 rfl (by decide) rfl rfl ?_
        refine pb_goto (tgt := 5) dX4_farFrom_32 (by decide) ?_
        exact ih (i + 1) (by omega) (by omega)
  refine pb_iconst (x := nI 0) (pc2 := 1) dX4_farFrom_0 (by decide) rfl ?_
  refine pb_istore_n (lv2 := [_, _, _, _, _]) (pc2 := 2) dX4_farFrom_1 rfl (by decide) rfl rfl ?_
  refine pb_iconst (x := nI 0) (pc2 := 3) dX4_farFrom_2 (by decide) rfl ?_
  refine pb_istore (lv2 := [_, _, _, _, _]) (pc2 := 5) dX4_farFrom_3 (by decide) rfl rfl ?_
  exact loop 4 0 (by omega) (by omega)
set_option maxRecDepth 10000 in
theorem t_readThin (w : pb_WF A) (hP : palA A h) {t m f : Nat} (ht : t < A 1 0) (ho : h 70 = some (.inr (.inr (2, cGl m f)))) (h502 : h 502 = some (.inr (.inl (4, 12, cTo 520 12)))) (h503 : h 503 = some (.inr (.inl (4, 12, cTo 540 12)))) (ha : cScr 8 (h (520 + t))) (hb : cScr 8 (h (540 + t))) : pb_T Z mX2_readThin 1 0 0 [.ref 70, .int (nI t), .ref (200 + t)] h (fun v h' => v = none ∧ cRow 8 (fun b => pb_ta (A 7 (8 * t + b)) (A 8 (8 * t + b))) (h' (520 + t)) ∧ cRow 8 (fun b => pb_tb (A 7 (8 * t + b)) (A 8 (8 * t + b))) (h' (540 + t)) ∧ ∀ x, x ≠ 520 + t → x ≠ 540 + t → h' x = h x) := by
  have htt := w.tubes
  obtain ⟨Fa, ha⟩ := ha
  obtain ⟨Fb, hb⟩ := hb
  have hto := (hP.2.2 t (by omega) ht).1
  refine pb_T.of pnX2_readThin (Nat.le_of_ble_eq_true rfl) (lv := [some (.ref 70), some (.int (nI t)), some (.ref (200 + t)), none, none, none]) rfl ?_
  have loop : ∀ (q b : Nat) (Fa Fb : Nat → Nat) (h' : pb_H) (o4 o5 : Option Value), 8 - b < q → b ≤ 8 → h' (520 + t) = some (.inl (0, 8, fun j => nI (Fa j))) → h' (540 + t) = some (.inl (0, 8, fun j => nI (Fb j))) → (∀ j, j < b → Fa j = pb_ta (A 7 (8 * t + j)) (A 8 (8 * t + j)) ∧ Fb j = pb_tb (A 7 (8 * t + j)) (A 8 (8 * t + j))) → (∀ x, x ≠ 520 + t → x ≠ 540 + t → h' x = h x) → pb_S Z mX2_readThin 1 0 0 (fun v h' => v = none ∧ cRow 8 (fun b => pb_ta (A 7 (8 * t + b)) (A 8 (8 * t + b))) (h' (520 + t)) ∧ cRow 8 (fun b => pb_tb (A 7 (8 * t + b)) (A 8 (8 * t + b))) (h' (540 + t)) ∧ ∀ x, x ≠ 520 + t → x ≠ 540 + t → h' x = h x) 2 [some (.ref 70), some (.int (nI t)), some (.ref (200 + t)), some (.int (nI b)), o4, o5] [] h' := by
    intro q
    induction q with
    | zero => intro b Fa Fb h' o4 o5 g1; omega
    | succ q ih =>
      intro b Fa Fb h' o4 o5 g1 g2 ha hb hab nb
      have ho : h' 70 = _ := (nb _ (by omega) (by omega)).trans ho
      have h502 : h' 502 = _ := (nb _ (by omega) (by omega)).trans h502
      have h503 : h' 503 = _ := (nb _ (by omega) (by omega)).trans h503
      have hto : h' (200 + t) = _ := (nb _ (by omega) (by omega)).trans hto
      have hP' : palA A h' := hP.up (fun x hx => nb x (by omega) (by omega))
      refine pb_iload_n (pc2 := 3) dX2_readThin_2 rfl rfl rfl ?_
      refine pb_bipush (x := nI 8) (pc2 := 5) dX2_readThin_3 (by decide) rfl ?_
      refine pb_icmpN_ge (tgt := 59) (pc2 := 8) dX2_readThin_5 (by decide) rfl (by omega) (by omega) (fun c => ?_) (fun c => ?_)
      · have e : b = 8 := by omega
        subst e
        exact pb_return dX2_readThin_59 rfl (⟨rfl, ⟨Fa, ha, fun j hj => (hab j hj).1⟩, ⟨Fb, hb, fun j hj => (hab j hj).2⟩, nb⟩)
      · obtain ⟨k1, k2, k3⟩ := w.ks ht c
        refine pb_aload_n (pc2 := 9) dX2_readThin_8 rfl rfl rfl ?_
        refine pb_iload_n (pc2 := 10) dX2_readThin_9 rfl rfl rfl ?_
        refine pb_iconst (x := nI 0) (pc2 := 11) dX2_readThin_10 (by decide) rfl ?_
        refine pb_callV (pc2 := 14) (k2 := 0) (n2 := 0) mwX10_drinkAfter pb_cl8.1 iwX10_drinkAfter seX10_drinkAfter rfl mlX2_71 dX2_readThin_11 (by first | assumption | exact hR.a rfl | exact hR.o | exact hC.o | exact hC.pal | exact hC.tub | exact hC.k _ _ rfl | exact hC.pot _ (by omega) | exact hC.are _ (by omega) | exact hC.arl _ (by omega) | exact hC.tbo _ (by omega) (by omega)) (t_drinkAfter2 w hP' ht c (show 0 < 100 by omega)) (by omega) (by omega) (by omega) rfl rfl (Nat.le_of_ble_eq_true rfl) rfl (pb_kE ?_)
        refine pb_istore (lv2 := [_, _, _, _, _, _]) (pc2 := 16) dX2_readThin_14 (by decide) rfl rfl ?_
        refine pb_aload_n (pc2 := 17) dX2_readThin_16 rfl rfl rfl ?_
        refine pb_iload_n (pc2 := 18) dX2_readThin_17 rfl rfl rfl ?_
        refine pb_callV (pc2 := 21) (k2 := 0) (n2 := 0) mwX10_scatterOf pb_cl8.1 iwX10_scatterOf seX10_scatterOf rfl mlX2_77 dX2_readThin_18 (by first | assumption | exact hR.a rfl | exact hR.o | exact hC.o | exact hC.pal | exact hC.tub | exact hC.k _ _ rfl | exact hC.pot _ (by omega) | exact hC.are _ (by omega) | exact hC.arl _ (by omega) | exact hC.tbo _ (by omega) (by omega)) (t_scatterOf2 w hP' ht c) (by omega) (by omega) (by omega) rfl rfl (Nat.le_of_ble_eq_true rfl) rfl (pb_kE ?_)
        have ef : pb_fade (A 3 t) (A 7 (8 * t + b)) 0 = A 7 (8 * t + b) := rfl
        rw [ef]
        refine pb_istore (lv2 := [_, _, _, _, _, _]) (pc2 := 23) dX2_readThin_21 (by decide) rfl rfl ?_
        refine pb_aload_n (pc2 := 24) dX2_readThin_23 rfl rfl rfl ?_
        refine pb_getf (pc2 := 27) flX2_27_X2 rfl dX2_readThin_24 (by first | assumption | exact hR.a rfl | exact hR.o | exact hC.o | exact hC.pal | exact hC.tub | exact hC.k _ _ rfl | exact hC.pot _ (by omega) | exact hC.are _ (by omega) | exact hC.arl _ (by omega) | exact hC.tbo _ (by omega) (by omega)) rfl rfl ?_
        refine pb_iload_n (pc2 := 28) dX2_readThin_27 rfl rfl rfl ?_
        refine pb_aald (pc2 := 29) (by first | assumption | exact hR.a rfl | exact hR.o | exact hC.o | exact hC.pal | exact hC.tub | exact hC.k _ _ rfl | exact hC.pot _ (by omega) | exact hC.are _ (by omega) | exact hC.arl _ (by omega) | exact hC.tbo _ (by omega) (by omega)) dX2_readThin_28 (by decide) (by omega) (by omega) (cTo_at (by omega)) rfl ?_
        refine pb_iload_n (pc2 := 30) dX2_readThin_29 rfl rfl rfl ?_
        refine pb_iload (pc2 := 32) dX2_readThin_30 rfl rfl ?_
        refine pb_iload (pc2 := 34) dX2_readThin_32 rfl rfl ?_
        refine pb_callS (pc2 := 37) (k2 := 0) (n2 := 0) mwX7_thinTake swX7_thinTake rfl mlX2_81 dX2_readThin_34 (t_thinTake (by omega) (by omega)) (by omega) (by omega) (by omega) rfl rfl (Nat.le_of_ble_eq_true rfl) rfl (pb_kE ?_)
        refine pb_iastG (pc2 := 38) ha dX2_readThin_37 (by omega) c (by omega) rfl (fun h2 ha n2 => ?_)
        have ho := (n2 _ (by omega)).trans ho
        have h503 := (n2 _ (by omega)).trans h503
        have hb := (n2 _ (by omega)).trans hb
        refine pb_aload_n (pc2 := 39) dX2_readThin_38 rfl rfl rfl ?_
        refine pb_getf (pc2 := 42) flX2_30_X2 rfl dX2_readThin_39 (by first | assumption | exact hR.a rfl | exact hR.o | exact hC.o | exact hC.pal | exact hC.tub | exact hC.k _ _ rfl | exact hC.pot _ (by omega) | exact hC.are _ (by omega) | exact hC.arl _ (by omega) | exact hC.tbo _ (by omega) (by omega)) rfl rfl ?_
        refine pb_iload_n (pc2 := 43) dX2_readThin_42 rfl rfl rfl ?_
        refine pb_aald (pc2 := 44) (by first | assumption | exact hR.a rfl | exact hR.o | exact hC.o | exact hC.pal | exact hC.tub | exact hC.k _ _ rfl | exact hC.pot _ (by omega) | exact hC.are _ (by omega) | exact hC.arl _ (by omega) | exact hC.tbo _ (by omega) (by omega)) dX2_readThin_43 (by decide) (by omega) (by omega) (cTo_at (by omega)) rfl ?_
        refine pb_iload_n (pc2 := 45) dX2_readThin_44 rfl rfl rfl ?_
        refine pb_iload (pc2 := 47) dX2_readThin_45 rfl rfl ?_
        refine pb_iload (pc2 := 49) dX2_readThin_47 rfl rfl ?_
        refine pb_callS (pc2 := 52) (k2 := 0) (n2 := 0) mwX7_thinSend swX7_thinSend rfl mlX2_86 dX2_readThin_49 (t_thinSend (by omega) (by omega)) (by omega) (by omega) (by omega) rfl rfl (Nat.le_of_ble_eq_true rfl) rfl (pb_kE ?_)
        refine pb_iastG (pc2 := 53) hb dX2_readThin_52 (by omega) c (by omega) rfl (fun h3 hb n3 => ?_)
        have ha := (n3 _ (by omega)).trans ha
        refine pb_iincP (c0 := 1) (lv2 := [_, _, _, _, _, _]) (pc2 := 56) dX2_readThin_53 rfl (by decide) rfl rfl ?_
        refine pb_goto (tgt := 2) dX2_readThin_56 (by decide) ?_
        refine ih (b + 1) _ _ h3 _ _ (by omega) (by omega) ha hb (fun j hj => ?_) (fun x x1 x2 => (n3 x x2).trans ((n2 x x1).trans (nb x x1 x2)))
        by_cases e : j = b
        · rw [e, pb_un_self, pb_un_self]; exact ⟨rfl, rfl⟩
        · rw [pb_un_ne _ _ e, pb_un_ne _ _ e]; exact hab j (by omega)
  refine pb_iconst (x := nI 0) (pc2 := 1) dX2_readThin_0 (by decide) rfl ?_
  refine pb_istore_n (lv2 := [_, _, _, _, _, _]) (pc2 := 2) dX2_readThin_1 rfl (by decide) rfl rfl ?_
  exact loop 9 0 Fa Fb h _ _ (by omega) (by omega) ha hb (fun j hj => by omega) (fun _ _ _ => rfl)
set_option maxRecDepth 10000 in
theorem t_nearestG (w : pb_WF A) (hC : pb_CF A h0 h) {l s g : Nat} (hl : l < 4) (hL : pb_LT A l h) (hs : s < 4096) (hst : ∀ t, A 1 0 ≤ t → s.testBit t = false) (hg : g ≤ 10000) : pb_T Z mX2_nearest 7 0 0 [.ref 70, .ref 61, .ref 62, .ref 65, .int (nI s), .int (nI g)] h (fun v h' => v = some (.int (nI (sp_gf A l s g).1)) ∧ pb_CF (sp_G A (sp_gf A l s g).2.1 (sp_gf A l s g).2.2) h0 h') := by
  have htt := w.tubes
  obtain ⟨f0, ho⟩ := hC.gla
  generalize hm0 : (if A 21 0 ≤ 3 then A 21 0 else 0) = m0 at ho
  obtain ⟨T, h65, hT⟩ := hC.wan
  obtain ⟨G, h501⟩ := hC.s 501 3 rfl
  refine pb_T.of pnX2_nearest (Nat.le_of_ble_eq_true rfl) (lv := [some (.ref 70), some (.ref 61), some (.ref 62), some (.ref 65), some (.int (nI s)), some (.int (nI g)), none, none]) rfl ?_
  first | refine pb_aload_n (pc2 := 1) dX2_nearest_0 rfl rfl rfl ?_ | refine pb_aload_nN (pc2 := 1) dX2_nearest_0 rfl rfl rfl ?_
  refine pb_iconst (x := nI 0) (pc2 := 2) dX2_nearest_1 (by decide) rfl ?_
  first | refine pb_aload_n (pc2 := 3) dX2_nearest_2 rfl rfl rfl ?_ | refine pb_aload_nN (pc2 := 3) dX2_nearest_2 rfl rfl rfl ?_
  refine pb_getf (pc2 := 6) flX2_22_X2 rfl dX2_nearest_3 (by first | assumption | exact hR.a rfl | exact hR.o | exact hC.o | exact hC.pal | exact hC.tub | exact hC.k _ _ rfl | exact hC.pot _ (by omega) | exact hC.are _ (by omega) | exact hC.arl _ (by omega) | exact hC.tbo _ (by omega) (by omega)) rfl rfl ?_
  refine pb_iconst (x := nI 0) (pc2 := 7) dX2_nearest_6 (by decide) rfl ?_
  refine pb_iconst (x := nI 3) (pc2 := 8) dX2_nearest_7 (by decide) rfl ?_
  refine pb_acopyG (pc2 := 11) rfl alX2_39 dX2_nearest_8 h65 h501 (by omega) (by omega) (by omega) (by omega) (by omega) (by omega) (Nat.le_of_ble_eq_true rfl) rfl (fun h1 h501 n1 => ?_)
  have hC1 := hC.sc (a := 501) rfl h501 n1
  have ho1 := (n1 _ (by omega)).trans ho
  have hL1 := hL.up (h' := h1) (fun x x1 x2 => n1 x (by omega))
  have hg501 : cRow 3 (A 17) (h1 501) := ⟨_, h501, fun j hj => by rw [if_pos (by omega), show 0 + (j - 0) = j by omega]; exact hT j hj⟩
  clear hC ho hL n1
  have rest : ∀ (h2 : pb_H) (o6 o7 : Option Value), pb_CF A h0 h2 → pb_LT A l h2 → h2 70 = some (.inr (.inr (2, cGl m0 f0))) → cRow 3 (A 17) (h2 501) → (∀ t, t < 12 → t < A 1 0 → cRow 8 (fun b => pb_ta (A 7 (8 * t + b)) (A 8 (8 * t + b))) (h2 (520 + t)) ∧ cRow 8 (fun b => pb_tb (A 7 (8 * t + b)) (A 8 (8 * t + b))) (h2 (540 + t))) → pb_S Z mX2_nearest 7 0 0 (fun v h' => v = some (.int (nI (sp_gf A l s g).1)) ∧ pb_CF (sp_G A (sp_gf A l s g).2.1 (sp_gf A l s g).2.2) h0 h') 48 [some (.ref 70), some (.ref 61), some (.ref 62), some (.ref 65), some (.int (nI s)), some (.int (nI g)), o6, o7] [] h2 := by
    intro h2 o6 o7 hC hL ho hg501 hts
    have h504 : h2 504 = some (.inr (.inl (4, 4, cTo 560 4))) := hC.k _ _ rfl
    first | refine pb_aload_n (pc2 := 49) dX2_nearest_48 rfl rfl rfl ?_ | refine pb_aload_nN (pc2 := 49) dX2_nearest_48 rfl rfl rfl ?_
    refine pb_getf (pc2 := 52) flX2_33_X2 rfl dX2_nearest_49 (by first | assumption | exact hR.a rfl | exact hR.o | exact hC.o | exact hC.pal | exact hC.tub | exact hC.k _ _ rfl | exact hC.pot _ (by omega) | exact hC.are _ (by omega) | exact hC.arl _ (by omega) | exact hC.tbo _ (by omega) (by omega)) rfl rfl ?_
    refine pb_iconst (x := nI 0) (pc2 := 53) dX2_nearest_52 (by decide) rfl ?_
    refine pb_aald (pc2 := 54) (by first | assumption | exact hR.a rfl | exact hR.o | exact hC.o | exact hC.pal | exact hC.tub | exact hC.k _ _ rfl | exact hC.pot _ (by omega) | exact hC.are _ (by omega) | exact hC.arl _ (by omega) | exact hC.tbo _ (by omega) (by omega)) dX2_nearest_53 (by decide) (by omega) (by omega) (cTo_at (by omega)) rfl ?_
    refine pb_iload (pc2 := 56) dX2_nearest_54 rfl rfl ?_
    refine pb_callS (pc2 := 59) (k2 := 0) (n2 := 0) mwJ7_fill_53178 swJ7_fill_53178 rfl mlX2_55 dX2_nearest_56 (t_fill (c := g) (n := 8) (hC.s (560 + 0) 8 rfl) (by omega) (by omega)) (by omega) (by omega) (by omega) rfl rfl (Nat.le_of_ble_eq_true rfl) rfl (pb_kW (fun h3 F h560 hF n3 => ?_))
    have hC3 := hC.sc (a := 560 + 0) rfl h560 n3
    have ho := (n3 _ (by omega)).trans ho
    have hL3 := hL.up (h' := h3) (fun x x1 x2 => n3 x (by omega))
    have hg501 : cRow 3 (A 17) (h3 501) := by rw [n3 _ (by omega)]; exact hg501
    have hts : ∀ t, t < 12 → t < A 1 0 → cRow 8 (fun b => pb_ta (A 7 (8 * t + b)) (A 8 (8 * t + b))) (h3 (520 + t)) ∧ cRow 8 (fun b => pb_tb (A 7 (8 * t + b)) (A 8 (8 * t + b))) (h3 (540 + t)) := fun t h12 ht => by rw [n3 _ (by omega), n3 _ (by omega)]; exact hts t h12 ht
    clear hC n3 hL
    obtain ⟨T, h501, hT⟩ := hg501
    have hT2 : ∀ i, i < 3 → T i ≤ 10000 := fun i hi => by rw [hT i hi]; exact w.tone hi
    have hFg : ∀ b, b < 8 → F b = gl_L A g [] b := hF
    have h62 : h3 62 = some (.inr (.inr (4, [.ref 72, .ref 73, .ref 74, .ref 75, .ref 76]))) := hC3.k _ _ rfl
    have h74 : h3 74 = some (.inr (.inl (4, 3, cTo 87 3))) := hC3.k _ _ rfl
    have h504 : h3 504 = some (.inr (.inl (4, 4, cTo 560 4))) := hC3.k _ _ rfl
    first | refine pb_aload_n (pc2 := 60) dX2_nearest_59 rfl rfl rfl ?_ | refine pb_aload_nN (pc2 := 60) dX2_nearest_59 rfl rfl rfl ?_
    refine pb_iconst (x := nI 0) (pc2 := 61) dX2_nearest_60 (by decide) rfl ?_
    refine pb_putG (fs2 := [_, _, _, _, _, _, _, _]) (pc2 := 64) flX2_9_X2 rfl dX2_nearest_61 ho (by omega) rfl rfl rfl rfl rfl (fun h_ ho n4 => ?_)
    have h501 := (n4 _ (by omega)).trans h501
    have h560 := (n4 _ (by omega)).trans h560
    have h62 := (n4 _ (by omega)).trans h62
    have h74 := (n4 _ (by omega)).trans h74
    have h504 := (n4 _ (by omega)).trans h504
    have hL4 := hL3.up (h' := h_) (fun x x1 x2 => n4 x (by omega))
    first | refine pb_aload_n (pc2 := 65) dX2_nearest_64 rfl rfl rfl ?_ | refine pb_aload_nN (pc2 := 65) dX2_nearest_64 rfl rfl rfl ?_
    first | refine pb_aload_n (pc2 := 66) dX2_nearest_65 rfl rfl rfl ?_ | refine pb_aload_nN (pc2 := 66) dX2_nearest_65 rfl rfl rfl ?_
    first | refine pb_aload_n (pc2 := 67) dX2_nearest_66 rfl rfl rfl ?_ | refine pb_aload_nN (pc2 := 67) dX2_nearest_66 rfl rfl rfl ?_
    refine pb_getf (pc2 := 70) flX2_22_X2 rfl dX2_nearest_67 (by first | assumption | exact hR.a rfl | exact hR.o | exact hC.o | exact hC.pal | exact hC.tub | exact hC.k _ _ rfl | exact hC.pot _ (by omega) | exact hC.are _ (by omega) | exact hC.arl _ (by omega) | exact hC.tbo _ (by omega) (by omega)) rfl rfl ?_
    first | refine pb_aload_n (pc2 := 71) dX2_nearest_70 rfl rfl rfl ?_ | refine pb_aload_nN (pc2 := 71) dX2_nearest_70 rfl rfl rfl ?_
    refine pb_getf (pc2 := 74) flX2_33_X2 rfl dX2_nearest_71 (by first | assumption | exact hR.a rfl | exact hR.o | exact hC.o | exact hC.pal | exact hC.tub | exact hC.k _ _ rfl | exact hC.pot _ (by omega) | exact hC.are _ (by omega) | exact hC.arl _ (by omega) | exact hC.tbo _ (by omega) (by omega)) rfl rfl ?_
    refine pb_iconst (x := nI 0) (pc2 := 75) dX2_nearest_74 (by decide) rfl ?_
    refine pb_aald (pc2 := 76) (by first | assumption | exact hR.a rfl | exact hR.o | exact hC.o | exact hC.pal | exact hC.tub | exact hC.k _ _ rfl | exact hC.pot _ (by omega) | exact hC.are _ (by omega) | exact hC.arl _ (by omega) | exact hC.tbo _ (by omega) (by omega)) dX2_nearest_75 (by decide) (by omega) (by omega) (cTo_at (by omega)) rfl ?_
    refine pb_callV (pc2 := 79) (k2 := 0) (n2 := 0) mwX4_farFrom pb_cl4.1 iwX4_farFrom seX4_farFrom rfl mlX2_61 dX2_nearest_76 (by first | assumption | exact hR.a rfl | exact hR.o | exact hC.o | exact hC.pal | exact hC.tub | exact hC.k _ _ rfl | exact hC.pot _ (by omega) | exact hC.are _ (by omega) | exact hC.arl _ (by omega) | exact hC.tbo _ (by omega) (by omega)) (t_farFrom2 w h62 h74 hL4 hl h560 (fun s b _ hb _ => by rw [hF b hb]; exact hg) h501 hT2 (fun s _ => pb_see_le (fun b hb => by rw [hF b hb]; exact hg))) (by omega) (by omega) (by omega) rfl rfl (Nat.le_of_ble_eq_true rfl) rfl (pb_kE ?_)
    refine pb_top (v2 := .int (nI (gl_v A l g []))) (by rw [pb_far_congr hFg, hT 0 (by omega), hT 1 (by omega), hT 2 (by omega)]; rfl) ?_
    refine pb_putG (fs2 := [_, _, _, _, _, _, _, _]) (pc2 := 82) flX2_15_X2 rfl dX2_nearest_79 ho (by omega) rfl rfl rfl rfl rfl (fun h_ ho n5 => ?_)
    have h501 := (n5 _ (by omega)).trans h501
    have h560 := (n5 _ (by omega)).trans h560
    have h62 := (n5 _ (by omega)).trans h62
    have h74 := (n5 _ (by omega)).trans h74
    have h504 := (n5 _ (by omega)).trans h504
    have nb : ∀ b, b ≠ 70 → h_ b = h3 b := fun b hb => ((n5 b (by omega)).trans (n4 b (by omega)))
    have hoG : h_ 70 = some (.inr (.inr (2, cGl (if gA A [] 21 0 ≤ 3 then gA A [] 21 0 else 0) (gl_v A l g [])))) := ho
    obtain ⟨E, h500, -⟩ := hC3.glb
    have hST : stG A l g [] h0 h_ := ⟨k_obG (A := A) (fun f f1 f2 => by unfold gA sp_G pb_wf; funext j; rw [if_neg f2, if_neg f1]) hC3 (fun a m e => by rw [nb a (cS_ne e rfl)]; exact hC3.s a m e) (fun x _ x2 _ => nb x x2) ⟨_, hoG⟩ ⟨E, (nb _ (by omega)).trans h500, fun i _ _ hi => absurd hi (Nat.not_lt_zero i)⟩, ho, Nat.zero_le _⟩
    have hL5 := hL3.up (h' := h_) (fun x x1 x2 => nb x (by omega))
    have hS5 : gbG A l h_ := ⟨h62, h74, hST.1.k _ _ rfl, hST.1.k _ _ rfl, h504, hL5, ⟨T, h501, hT⟩, fun t h12 ht => by rw [nb _ (by omega), nb _ (by omega)]; exact hts t h12 ht⟩
    obtain ⟨Q, h505⟩ := hST.1.s 505 3 rfl
    obtain ⟨b1, b2, b3⟩ := gl_both A l s g
    first | refine pb_aload_n (pc2 := 83) dX2_nearest_82 rfl rfl rfl ?_ | refine pb_aload_nN (pc2 := 83) dX2_nearest_82 rfl rfl rfl ?_
    first | refine pb_aload_n (pc2 := 84) dX2_nearest_83 rfl rfl rfl ?_ | refine pb_aload_nN (pc2 := 84) dX2_nearest_83 rfl rfl rfl ?_
    refine pb_iconst (x := nI 0) (pc2 := 85) dX2_nearest_84 (by decide) rfl ?_
    refine pb_iload (pc2 := 87) dX2_nearest_85 rfl rfl ?_
    refine pb_callV (pc2 := 90) (k2 := 0) (n2 := 0) mwX2_layOn pb_cl2.1 iwX2_layOn seX2_layOn rfl mlX2_67 dX2_nearest_87 (by first | assumption | exact hR.a rfl | exact hR.o | exact hC.o | exact hC.pal | exact hC.tub | exact hC.k _ _ rfl | exact hC.pot _ (by omega) | exact hC.are _ (by omega) | exact hC.arl _ (by omega) | exact hC.tbo _ (by omega) (by omega)) (t_layOn w hl hg hst [] s [] F Q h_ rfl hs (fun t ht => by unfold gl_ok; rw [show 3 * t / 3 = t by omega]; exact (Bool.and_true _).symm) hST hS5 h560 (fun b hb _ => hFg b hb) h505 (fun k hk => absurd hk (Nat.not_lt_zero k))) (by omega) (by omega) (by omega) rfl rfl (Nat.le_of_ble_eq_true rfl) rfl (fun v h6 q6 _ => ?_)
    obtain ⟨rfl, ⟨hC6, ho6, hl6⟩, -, -⟩ := q6
    have hC6 : pb_CF (gA A ((gl_d s 3 []).foldl (cB (gl_v A l g)) [])) h0 h6 := hC6
    have ho6 : h6 70 = some (.inr (.inr (2, cGl ((gl_d s 3 []).foldl (cB (gl_v A l g)) []).length (gl_v A l g ((gl_d s 3 []).foldl (cB (gl_v A l g)) []))))) := ho6
    have hl6 : ((gl_d s 3 []).foldl (cB (gl_v A l g)) []).length ≤ 3 := hl6
    generalize (gl_d s 3 []).foldl (cB (gl_v A l g)) [] = Bf at b1 b2 b3 hC6 ho6 hl6
    generalize sp_gf A l s g = σ at b1 b2 b3 ⊢
    have h21 : sp_G A σ.2.1 σ.2.2 21 0 = σ.2.1 := rfl
    have hoF : h6 70 = some (.inr (.inr (2, cGl (if sp_G A σ.2.1 σ.2.2 21 0 ≤ 3 then sp_G A σ.2.1 σ.2.2 21 0 else 0) (gl_v A l g Bf)))) := by rw [h21, b2, if_pos hl6]; exact ho6
    obtain ⟨E6, h500, hE6⟩ := hC6.glb
    have hCF : pb_CF (sp_G A σ.2.1 σ.2.2) h0 h6 := k_obG (A := gA A Bf) (fun f f1 f2 => by unfold gA sp_G pb_wf; funext j; rw [if_neg f2, if_neg f1, if_neg f2, if_neg f1]) hC6 hC6.s (fun x _ _ _ => rfl) ⟨_, hoF⟩ ⟨E6, h500, fun i i1 i2 i3 => by
      have i3 : i < σ.2.1 := i3
      have := hE6 i i1 hl6 (by show i < Bf.length; omega)
      rw [this]
      exact (b3 i (by omega)).symm⟩
    first | refine pb_aload_n (pc2 := 91) dX2_nearest_90 rfl rfl rfl ?_ | refine pb_aload_nN (pc2 := 91) dX2_nearest_90 rfl rfl rfl ?_
    refine pb_getf (pc2 := 94) flX2_15_X2 rfl dX2_nearest_91 (by first | assumption | exact hR.a rfl | exact hR.o | exact hC.o | exact hC.pal | exact hC.tub | exact hC.k _ _ rfl | exact hC.pot _ (by omega) | exact hC.are _ (by omega) | exact hC.arl _ (by omega) | exact hC.tbo _ (by omega) (by omega)) rfl rfl ?_
    refine pb_top (v2 := .int (nI σ.1)) (by rw [b1]) ?_
    exact pb_ireturn dX2_nearest_94 rfl (⟨rfl, hCF⟩)
  have loop : ∀ (q t : Nat) (h2 : pb_H) (o7 : Option Value), 12 - t < q → t ≤ 12 → pb_CF A h0 h2 → (∀ u, u < t → u < A 1 0 → cRow 8 (fun b => pb_ta (A 7 (8 * u + b)) (A 8 (8 * u + b))) (h2 (520 + u)) ∧ cRow 8 (fun b => pb_tb (A 7 (8 * u + b)) (A 8 (8 * u + b))) (h2 (540 + u))) → (∀ x, (x < 520 ∨ 552 ≤ x) → h2 x = h1 x) → pb_S Z mX2_nearest 7 0 0 (fun v h' => v = some (.int (nI (sp_gf A l s g).1)) ∧ pb_CF (sp_G A (sp_gf A l s g).2.1 (sp_gf A l s g).2.2) h0 h') 14 [some (.ref 70), some (.ref 61), some (.ref 62), some (.ref 65), some (.int (nI s)), some (.int (nI g)), some (.int (nI t)), o7] [] h2 := by
    intro q
    induction q with
    | zero => intro t h2 o7 g1; omega
    | succ q ih =>
      intro t h2 o7 g1 g2 hC hts nb
      have ho2 : h2 70 = _ := (nb _ (by omega)).trans ho1
      have h61 := hC.pal
      refine pb_iload (pc2 := 16) dX2_nearest_14 rfl rfl ?_
      refine pb_bipush (x := nI 12) (pc2 := 18) dX2_nearest_16 (by decide) rfl ?_
      refine pb_icmpN_ge (tgt := 48) (pc2 := 21) dX2_nearest_18 (by decide) rfl (by omega) (by omega) (fun c => ?_) (fun c => ?_)
      · exact rest h2 _ _ hC (hL1.up (fun x x1 x2 => nb x (by omega))) ho2 (by rw [nb _ (by omega)]; exact hg501) (fun u h12 hu => hts u (by omega) hu)
      · first | refine pb_aload_n (pc2 := 22) dX2_nearest_21 rfl rfl rfl ?_ | refine pb_aload_nN (pc2 := 22) dX2_nearest_21 rfl rfl rfl ?_
        refine pb_iload (pc2 := 24) dX2_nearest_22 rfl rfl ?_
        refine pb_callV (pc2 := 27) (k2 := 0) (n2 := 0) mwX8_at pb_cl7.1 iwX8_at seX8_at rfl mlX2_45 dX2_nearest_24 (by first | assumption | exact hR.a rfl | exact hR.o | exact hC.o | exact hC.pal | exact hC.tub | exact hC.k _ _ rfl | exact hC.pot _ (by omega) | exact hC.are _ (by omega) | exact hC.arl _ (by omega) | exact hC.tbo _ (by omega) (by omega)) (t_at2 w (palA.of hC) (nI t)) (by omega) (by omega) (by omega) rfl rfl (Nat.le_of_ble_eq_true rfl) rfl (pb_kRef (fun t' ht' e => ?_) (fun q2 => ?_))
        · have et : t = t' := nI_inj (by omega) (by omega) e
          subst et
          first | refine pb_astore (lv2 := [_, _, _, _, _, _, _, _]) (pc2 := 29) dX2_nearest_27 (by decide) rfl rfl ?_ | refine pb_astoreN (lv2 := [_, _, _, _, _, _, _, _]) (pc2 := 29) dX2_nearest_27 (by decide) rfl rfl ?_
          first | refine pb_aload (pc2 := 31) dX2_nearest_29 rfl rfl ?_ | refine pb_aloadN (pc2 := 31) dX2_nearest_29 rfl rfl ?_
          refine pb_ifnull (pc2 := 34) dX2_nearest_31 rfl ?_
          first | refine pb_aload_n (pc2 := 35) dX2_nearest_34 rfl rfl rfl ?_ | refine pb_aload_nN (pc2 := 35) dX2_nearest_34 rfl rfl rfl ?_
          refine pb_iload (pc2 := 37) dX2_nearest_35 rfl rfl ?_
          first | refine pb_aload (pc2 := 39) dX2_nearest_37 rfl rfl ?_ | refine pb_aloadN (pc2 := 39) dX2_nearest_37 rfl rfl ?_
          refine pb_callV (pc2 := 42) (k2 := 0) (n2 := 0) mwX2_readThin pb_cl2.1 iwX2_readThin seX2_readThin rfl mlX2_51 dX2_nearest_39 (by first | assumption | exact hR.a rfl | exact hR.o | exact hC.o | exact hC.pal | exact hC.tub | exact hC.k _ _ rfl | exact hC.pot _ (by omega) | exact hC.are _ (by omega) | exact hC.arl _ (by omega) | exact hC.tbo _ (by omega) (by omega)) (t_readThin w (palA.of hC) ht' ho2 (hC.k _ _ rfl) (hC.k _ _ rfl) (hC.s _ 8 (cS_8 (by omega))) (hC.s _ 8 (cS_8 (by omega)))) (by omega) (by omega) (by omega) rfl rfl (Nat.le_of_ble_eq_true rfl) rfl (fun v h3 q3 _ => ?_)
          obtain ⟨rfl, ha3, hb3, n3⟩ := q3
          refine pb_iincP (c0 := 1) (lv2 := [_, _, _, _, _, _, _, _]) (pc2 := 45) dX2_nearest_42 rfl (by decide) rfl rfl ?_
          refine pb_goto (tgt := 14) dX2_nearest_45 (by decide) ?_
          refine ih (t + 1) h3 _ (by omega) (by omega) (hC.sc2 (cS_8 (a := 520 + t) (by omega)) (cS_8 (a := 540 + t) (by omega)) (cRow_scr ha3) (cRow_scr hb3) n3) (fun u hu huT => ?_) (fun x hx => (n3 x (by omega) (by omega)).trans (nb x hx))
          by_cases e : u = t
          · rw [e]; exact ⟨ha3, hb3⟩
          · rw [n3 _ (by omega) (by omega), n3 _ (by omega) (by omega)]; exact hts u (by omega) huT
        · first | refine pb_astore (lv2 := [_, _, _, _, _, _, _, _]) (pc2 := 29) dX2_nearest_27 (by decide) rfl rfl ?_ | refine pb_astoreN (lv2 := [_, _, _, _, _, _, _, _]) (pc2 := 29) dX2_nearest_27 (by decide) rfl rfl ?_
          first | refine pb_aload (pc2 := 31) dX2_nearest_29 rfl rfl ?_ | refine pb_aloadN (pc2 := 31) dX2_nearest_29 rfl rfl ?_
          refine pb_ifnullN (tgt := 42) dX2_nearest_31 (by decide) ?_
          refine pb_iincP (c0 := 1) (lv2 := [_, _, _, _, _, _, _, _]) (pc2 := 45) dX2_nearest_42 rfl (by decide) rfl rfl ?_
          refine pb_goto (tgt := 14) dX2_nearest_45 (by decide) ?_
          refine ih (t + 1) h2 _ (by omega) (by omega) hC (fun u hu huT => ?_) nb
          by_cases e : u = t
          · exact absurd (pb_isT_mk w huT) (by rw [e]; exact q2)
          · exact hts u (by omega) huT
  refine pb_iconst (x := nI 0) (pc2 := 12) dX2_nearest_11 (by decide) rfl ?_
  refine pb_istore (lv2 := [_, _, _, _, _, _, _, _]) (pc2 := 14) dX2_nearest_12 (by decide) rfl rfl ?_
  exact loop 13 0 h1 _ (by omega) (by omega) hC1 (fun u hu => by omega) (fun _ _ => rfl)
set_option maxRecDepth 10000 in
theorem c_glaze (w : pb_WF A) (hC : pb_CF A h h) (l s g : Int32) : pb_T Z mX11_glaze 8 0 0 [.ref 60, .int l, .int s, .int g] h (pb_PC (sp_glaze A l s g) h) := by
  refine pb_T.of pnX11_glaze (Nat.le_of_ble_eq_true rfl) (lv := [some (.ref 60), some (.int l), some (.int s), some (.int g)]) rfl ?_
  refine pb_iload_n (pc2 := 1) dX11_glaze_0 rfl rfl rfl ?_
  refine pb_callS (pc2 := 4) (k2 := 0) (n2 := 0) mwX11_isLamp swX11_isLamp rfl mlX11_131 dX11_glaze_1 (t_isLamp l) (by omega) (by omega) (by omega) rfl rfl (Nat.le_of_ble_eq_true rfl) rfl (pb_kB ?_ ?_)
  rotate_left
  · intro q1
    refine pb_ifT_eq (tgt := 25) dX11_glaze_4 (by decide) rfl ?_
    refine pb_iconst (x := -1) (pc2 := 26) dX11_glaze_25 (by decide) rfl ?_
    exact pb_ireturn dX11_glaze_26 rfl (pb_finC (if_neg (fun z => q1 z.1)) hC)
  intro q1
  refine pb_ifF_eq (tgt := 25) (pc2 := 7) dX11_glaze_4 (by decide) rfl (by decide) ?_
  first | refine pb_aload_n (pc2 := 8) dX11_glaze_7 rfl rfl rfl ?_ | refine pb_aload_nN (pc2 := 8) dX11_glaze_7 rfl rfl rfl ?_
  refine pb_getf (pc2 := 11) flX11_12_X11 rfl dX11_glaze_8 (by first | assumption | exact hR.a rfl | exact hR.o | exact hC.o | exact hC.pal | exact hC.tub | exact hC.k _ _ rfl | exact hC.pot _ (by omega) | exact hC.are _ (by omega) | exact hC.arl _ (by omega) | exact hC.tbo _ (by omega) (by omega)) rfl rfl ?_
  refine pb_iload_n (pc2 := 12) dX11_glaze_11 rfl rfl rfl ?_
  refine pb_callV (pc2 := 15) (k2 := 0) (n2 := 0) mwX8_hasSet pb_cl7.1 iwX8_hasSet seX8_hasSet rfl mlX11_246 dX11_glaze_12 (by first | assumption | exact hR.a rfl | exact hR.o | exact hC.o | exact hC.pal | exact hC.tub | exact hC.k _ _ rfl | exact hC.pot _ (by omega) | exact hC.are _ (by omega) | exact hC.arl _ (by omega) | exact hC.tbo _ (by omega) (by omega)) (t_hasSet w hC s) (by omega) (by omega) (by omega) rfl rfl (Nat.le_of_ble_eq_true rfl) rfl (pb_kB ?_ ?_)
  rotate_left
  · intro q2
    refine pb_ifT_eq (tgt := 25) dX11_glaze_15 (by decide) rfl ?_
    refine pb_iconst (x := -1) (pc2 := 26) dX11_glaze_25 (by decide) rfl ?_
    exact pb_ireturn dX11_glaze_26 rfl (pb_finC (if_neg (fun z => q2 z.2.1)) hC)
  intro q2
  refine pb_ifF_eq (tgt := 25) (pc2 := 18) dX11_glaze_15 (by decide) rfl (by decide) ?_
  refine pb_iload_n (pc2 := 19) dX11_glaze_18 rfl rfl rfl ?_
  refine pb_callS (pc2 := 22) (k2 := 0) (n2 := 0) mwX11_isShare swX11_isShare rfl mlX11_182 dX11_glaze_19 (t_isShare g) (by omega) (by omega) (by omega) rfl rfl (Nat.le_of_ble_eq_true rfl) rfl (pb_kB ?_ ?_)
  rotate_left
  · intro q3
    refine pb_ifF_ne (tgt := 27) (pc2 := 25) dX11_glaze_22 rfl rfl (by decide) ?_
    refine pb_iconst (x := -1) (pc2 := 26) dX11_glaze_25 (by decide) rfl ?_
    exact pb_ireturn dX11_glaze_26 rfl (pb_finC (if_neg (fun z => q3 z.2.2)) hC)
  intro q3
  refine pb_ifT_ne (tgt := 27) dX11_glaze_22 (by decide) (by decide) ?_
  have e0 : sp_glaze A l s g = _ := if_pos ⟨q1, q2, q3⟩
  rw [e0]
  obtain ⟨l, -, hl, rfl⟩ := nI_rng (by omega) q1 (by omega)
  obtain ⟨s, hs0, hs1, hs2, rfl⟩ := pb_isS_of w q2
  obtain ⟨g, -, hg, rfl⟩ := nI_rng (by omega) q3 (by omega)
  rw [pb_natN (by omega), pb_natN (by omega), pb_natN (by omega)]
  first | refine pb_aload_n (pc2 := 28) dX11_glaze_27 rfl rfl rfl ?_ | refine pb_aload_nN (pc2 := 28) dX11_glaze_27 rfl rfl rfl ?_
  refine pb_getf (pc2 := 31) flX11_19_X11 rfl dX11_glaze_28 (by first | assumption | exact hR.a rfl | exact hR.o | exact hC.o | exact hC.pal | exact hC.tub | exact hC.k _ _ rfl | exact hC.pot _ (by omega) | exact hC.are _ (by omega) | exact hC.arl _ (by omega) | exact hC.tbo _ (by omega) (by omega)) rfl rfl ?_
  refine pb_iload_n (pc2 := 32) dX11_glaze_31 rfl rfl rfl ?_
  refine pb_callV (pc2 := 35) (k2 := 0) (n2 := 0) mwX4_shine pb_cl4.1 iwX4_shine seX4_shine rfl mlX11_174 dX11_glaze_32 (by first | assumption | exact hR.a rfl | exact hR.o | exact hC.o | exact hC.pal | exact hC.tub | exact hC.k _ _ rfl | exact hC.pot _ (by omega) | exact hC.are _ (by omega) | exact hC.arl _ (by omega) | exact hC.tbo _ (by omega) (by omega)) (t_shine w hC (show l < 4 by omega)) (by omega) (by omega) (by omega) rfl rfl (Nat.le_of_ble_eq_true rfl) rfl (fun v h1 q _ => ?_)
  obtain ⟨rfl, hC1, hL1, -⟩ := q
  clear hC
  have hC := hC1
  obtain ⟨f0, ho⟩ := hC.gla
  first | refine pb_aload_n (pc2 := 36) dX11_glaze_35 rfl rfl rfl ?_ | refine pb_aload_nN (pc2 := 36) dX11_glaze_35 rfl rfl rfl ?_
  refine pb_getf (pc2 := 39) flX11_64_X11 rfl dX11_glaze_36 (by first | assumption | exact hR.a rfl | exact hR.o | exact hC.o | exact hC.pal | exact hC.tub | exact hC.k _ _ rfl | exact hC.pot _ (by omega) | exact hC.are _ (by omega) | exact hC.arl _ (by omega) | exact hC.tbo _ (by omega) (by omega)) rfl rfl ?_
  first | refine pb_aload_n (pc2 := 40) dX11_glaze_39 rfl rfl rfl ?_ | refine pb_aload_nN (pc2 := 40) dX11_glaze_39 rfl rfl rfl ?_
  refine pb_getf (pc2 := 43) flX11_12_X11 rfl dX11_glaze_40 (by first | assumption | exact hR.a rfl | exact hR.o | exact hC.o | exact hC.pal | exact hC.tub | exact hC.k _ _ rfl | exact hC.pot _ (by omega) | exact hC.are _ (by omega) | exact hC.arl _ (by omega) | exact hC.tbo _ (by omega) (by omega)) rfl rfl ?_
  first | refine pb_aload_n (pc2 := 44) dX11_glaze_43 rfl rfl rfl ?_ | refine pb_aload_nN (pc2 := 44) dX11_glaze_43 rfl rfl rfl ?_
  refine pb_getf (pc2 := 47) flX11_19_X11 rfl dX11_glaze_44 (by first | assumption | exact hR.a rfl | exact hR.o | exact hC.o | exact hC.pal | exact hC.tub | exact hC.k _ _ rfl | exact hC.pot _ (by omega) | exact hC.are _ (by omega) | exact hC.arl _ (by omega) | exact hC.tbo _ (by omega) (by omega)) rfl rfl ?_
  first | refine pb_aload_n (pc2 := 48) dX11_glaze_47 rfl rfl rfl ?_ | refine pb_aload_nN (pc2 := 48) dX11_glaze_47 rfl rfl rfl ?_
  refine pb_getf (pc2 := 51) flX11_35_X11 rfl dX11_glaze_48 (by first | assumption | exact hR.a rfl | exact hR.o | exact hC.o | exact hC.pal | exact hC.tub | exact hC.k _ _ rfl | exact hC.pot _ (by omega) | exact hC.are _ (by omega) | exact hC.arl _ (by omega) | exact hC.tbo _ (by omega) (by omega)) rfl rfl ?_
  refine pb_iload_n (pc2 := 52) dX11_glaze_51 rfl rfl rfl ?_
  refine pb_iload_n (pc2 := 53) dX11_glaze_52 rfl rfl rfl ?_
  refine pb_callV (pc2 := 56) (k2 := 0) (n2 := 0) mwX2_nearest pb_cl2.1 iwX2_nearest seX2_nearest rfl mlX11_263 dX11_glaze_53 (by first | assumption | exact hR.a rfl | exact hR.o | exact hC.o | exact hC.pal | exact hC.tub | exact hC.k _ _ rfl | exact hC.pot _ (by omega) | exact hC.are _ (by omega) | exact hC.arl _ (by omega) | exact hC.tbo _ (by omega) (by omega)) (t_nearestG w hC (show l < 4 by omega) hL1 hs2 (fun t ht => Nat.testBit_lt_two_pow (Nat.lt_of_lt_of_le hs1 (Nat.pow_le_pow_right (by omega) ht))) hg) (by omega) (by omega) (by omega) rfl rfl (Nat.le_of_ble_eq_true rfl) rfl (fun v h2 q _ => ?_)
  obtain ⟨rfl, hC2⟩ := q
  exact pb_ireturn dX11_glaze_56 rfl (⟨rfl, hC2⟩)
end PB44G

