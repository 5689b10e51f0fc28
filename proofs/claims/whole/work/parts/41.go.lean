/-! GOING THROUGH A SET's MIXTURES, from the palette on -/
def palA (A : pb_A) (h : pb_H) : Prop := h 61 = some (.inr (.inr (7, [.ref 71, .int (nI (A 1 0))]))) ∧ h 71 = some (.inr (.inl (0, 12, cTo 200 (A 1 0)))) ∧ ∀ t, t < 12 → t < A 1 0 → h (200 + t) = some (.inr (.inr (8, cTb A t))) ∧ cRow 800 (fun j => pb_fade (A 3 t) (A 7 (8 * t + j / 100)) (j % 100)) (h (220 + t)) ∧ cRow 8 (fun b => A 8 (8 * t + b)) (h (240 + t))
theorem palA.of {A : pb_A} {h0 h : pb_H} (hC : pb_CF A h0 h) : palA A h := ⟨hC.pal, hC.tub, fun t h12 ht => ⟨hC.tbo t h12 ht, hC.tbd t h12 ht, hC.tbs t h12 ht⟩⟩
theorem palA.up {A : pb_A} {h h' : pb_H} (hP : palA A h) (nb : ∀ x, x = 61 ∨ x = 71 ∨ (200 ≤ x ∧ x < 252) → h' x = h x) : palA A h' := by
  refine ⟨(nb _ (by omega)).trans hP.1, (nb _ (by omega)).trans hP.2.1, fun t h12 ht => ?_⟩
  rw [nb _ (by omega), nb _ (by omega), nb _ (by omega)]
  exact hP.2.2 t h12 ht
theorem em_sur {s : Nat} : ∀ T i, i < em_c s T → ∃ u, u < T ∧ s.testBit u = true ∧ em_c s u = i
  | 0, i, h => by
    have h : i < 0 := h
    omega
  | T + 1, i, h => by
    have h : i < em_c s T + pb_bit s T := h
    have hb := pb_bit_le s T
    by_cases c : i < em_c s T
    · obtain ⟨u, u1, u2, u3⟩ := em_sur T i c
      exact ⟨u, by omega, u2, u3⟩
    · exact ⟨T, by omega, pb_bit_1.mp (by omega), by omega⟩
section PB41
variable {Z : pb_Z} {h h0 : pb_H} {A : pb_A}
theorem t_at2 (w : pb_WF A) (hP : palA A h) (x : Int32) : pb_T Z mX8_at 1 0 0 [.ref 61, .int x] h (pb_PRef (A 1 0) 200 (pb_isT A x) x h) := by
  have htt := w.tubes
  obtain ⟨h61, h71, -⟩ := hP
  refine pb_T.of pnX8_at (Nat.le_of_ble_eq_true rfl) (lv := [some (.ref 61), some (.int x)]) rfl ?_
  refine pb_iload_n (pc2 := 1) dX8_at_0 rfl rfl rfl ?_
  refine pb_iconst (x := nI 0) (pc2 := 2) dX8_at_1 (by decide) rfl ?_
  refine pb_aload_n (pc2 := 3) dX8_at_2 rfl rfl rfl ?_
  refine pb_getf (pc2 := 6) flX8_17_X8 rfl dX8_at_3 (by first | assumption | exact hR.a rfl | exact hR.o | exact hC.o | exact hC.pal | exact hC.tub | exact hC.k _ _ rfl | exact hC.pot _ (by omega) | exact hC.are _ (by omega) | exact hC.arl _ (by omega) | exact hC.tbo _ (by omega) (by omega)) rfl rfl ?_
  refine pb_iconst (x := nI 1) (pc2 := 7) dX8_at_6 (by decide) rfl ?_
  refine pb_isub (pc2 := 8) dX8_at_7 rfl ?_
  refine pb_callSN (pc2 := 11) (k2 := 0) (n2 := 0) mwX11_between swX11_between rfl mnX8_25 dX8_at_8 (t_between x (nI 0) (nI (A 1 0) - nI 1)) (by omega) (by omega) (by omega) rfl rfl (Nat.le_of_ble_eq_true rfl) rfl (pb_kB (fun q => ?_) (fun q => ?_))
  · obtain ⟨t, ht, rfl⟩ := pb_isT_of w q
    refine pb_ifF_eq (tgt := 23) (pc2 := 14) dX8_at_11 (by decide) rfl (by decide) ?_
    refine pb_aload_n (pc2 := 15) dX8_at_14 rfl rfl rfl ?_
    refine pb_getf (pc2 := 18) flX8_11_X8 rfl dX8_at_15 (by first | assumption | exact hR.a rfl | exact hR.o | exact hC.o | exact hC.pal | exact hC.tub | exact hC.k _ _ rfl | exact hC.pot _ (by omega) | exact hC.are _ (by omega) | exact hC.arl _ (by omega) | exact hC.tbo _ (by omega) (by omega)) rfl rfl ?_
    refine pb_iload_n (pc2 := 19) dX8_at_18 rfl rfl rfl ?_
    refine pb_aald (pc2 := 20) (by first | assumption | exact hR.a rfl | exact hR.o | exact hC.o | exact hC.pal | exact hC.tub | exact hC.k _ _ rfl | exact hC.pot _ (by omega) | exact hC.are _ (by omega) | exact hC.arl _ (by omega) | exact hC.tbo _ (by omega) (by omega)) dX8_at_19 (by decide) (by omega) (by omega) (cTo_at (by omega)) rfl ?_
    refine pb_goto (tgt := 24) dX8_at_20 (by decide) ?_
    exact pb_areturn dX8_at_24 rfl (Or.inl ⟨_, rfl⟩) (by first | exact Or.inl rfl | exact Or.inr ⟨_, rfl⟩) (⟨rfl, Or.inl ⟨t, ht, rfl, rfl⟩⟩)
  · refine pb_ifT_eq (tgt := 23) dX8_at_11 (by decide) (rfl) ?_
    refine pb_anull (pc2 := 24) dX8_at_23 rfl ?_
    exact pb_areturn dX8_at_24 rfl (Or.inl ⟨_, rfl⟩) (by first | exact Or.inl rfl | exact Or.inr ⟨_, rfl⟩) (⟨rfl, Or.inr ⟨q, rfl⟩⟩)
theorem t_drinkAfter2 (w : pb_WF A) (hP : palA A h) {t b y : Nat} (ht : t < A 1 0) (hb : b < 8) (hy : y < 100) : pb_T Z mX10_drinkAfter 0 0 0 [.ref (200 + t), .int (nI b), .int (nI y)] h (pb_E (some (.int (nI (pb_fade (A 3 t) (A 7 (8 * t + b)) y)))) h) := by
  have htt := w.tubes
  obtain ⟨hto, ⟨F, hd, hF⟩, -⟩ := hP.2.2 t (by omega) ht
  refine pb_T.of pnX10_drinkAfter (Nat.le_of_ble_eq_true rfl) (lv := [some (.ref (200 + t)), some (.int (nI b)), some (.int (nI y))]) rfl ?_
  refine pb_aload_n (pc2 := 1) dX10_drinkAfter_0 rfl rfl rfl ?_
  refine pb_getf (pc2 := 4) flX10_18_X10 rfl dX10_drinkAfter_1 (by first | assumption | exact hR.a rfl | exact hR.o | exact hC.o | exact hC.pal | exact hC.tub | exact hC.k _ _ rfl | exact hC.pot _ (by omega) | exact hC.are _ (by omega) | exact hC.arl _ (by omega) | exact hC.tbo _ (by omega) (by omega)) rfl rfl ?_
  refine pb_iload_n (pc2 := 5) dX10_drinkAfter_4 rfl rfl rfl ?_
  refine pb_bipush (x := nI 100) (pc2 := 7) dX10_drinkAfter_5 (by decide) rfl ?_
  refine pb_imulN (pc2 := 8) dX10_drinkAfter_7 rfl ?_
  refine pb_iload_n (pc2 := 9) dX10_drinkAfter_8 rfl rfl rfl ?_
  refine pb_iaddN (pc2 := 10) dX10_drinkAfter_9 rfl ?_
  refine pb_iald (pc2 := 11) (by first | assumption | exact hR.a rfl | exact hR.o | exact hC.o | exact hC.pal | exact hC.tub | exact hC.k _ _ rfl | exact hC.pot _ (by omega) | exact hC.are _ (by omega) | exact hC.arl _ (by omega) | exact hC.tbo _ (by omega) (by omega)) ⟨by decide, rfl⟩ dX10_drinkAfter_10 (by omega) (by omega) rfl ?_
  refine pb_top (v2 := .int (nI (pb_fade (A 3 t) (A 7 (8 * t + b)) y))) (by rw [hF _ (by omega)]; show Value.int (nI (pb_fade (A 3 t) (A 7 (8 * t + (b * 100 + y) / 100)) ((b * 100 + y) % 100))) = _; rw [show (b * 100 + y) / 100 = b by omega, show (b * 100 + y) % 100 = y by omega]) ?_
  exact pb_ireturn dX10_drinkAfter_11 rfl (⟨rfl, rfl⟩)
theorem t_scatterOf2 (w : pb_WF A) (hP : palA A h) {t b : Nat} (ht : t < A 1 0) (hb : b < 8) : pb_T Z mX10_scatterOf 0 0 0 [.ref (200 + t), .int (nI b)] h (pb_E (some (.int (nI (A 8 (8 * t + b))))) h) := by
  have htt := w.tubes
  obtain ⟨hto, -, ⟨F, hd, hF⟩⟩ := hP.2.2 t (by omega) ht
  refine pb_T.of pnX10_scatterOf (Nat.le_of_ble_eq_true rfl) (lv := [some (.ref (200 + t)), some (.int (nI b))]) rfl ?_
  refine pb_aload_n (pc2 := 1) dX10_scatterOf_0 rfl rfl rfl ?_
  refine pb_getf (pc2 := 4) flX10_22_X10 rfl dX10_scatterOf_1 (by first | assumption | exact hR.a rfl | exact hR.o | exact hC.o | exact hC.pal | exact hC.tub | exact hC.k _ _ rfl | exact hC.pot _ (by omega) | exact hC.are _ (by omega) | exact hC.arl _ (by omega) | exact hC.tbo _ (by omega) (by omega)) rfl rfl ?_
  refine pb_iload_n (pc2 := 5) dX10_scatterOf_4 rfl rfl rfl ?_
  refine pb_iald (pc2 := 6) (by first | assumption | exact hR.a rfl | exact hR.o | exact hC.o | exact hC.pal | exact hC.tub | exact hC.k _ _ rfl | exact hC.pot _ (by omega) | exact hC.are _ (by omega) | exact hC.arl _ (by omega) | exact hC.tbo _ (by omega) (by omega)) ⟨by decide, rfl⟩ dX10_scatterOf_5 (by omega) (by omega) rfl ?_
  refine pb_top (v2 := .int (nI (A 8 (8 * t + b)))) (by rw [hF _ hb]) ?_
  exact pb_ireturn dX10_scatterOf_6 rfl (⟨rfl, rfl⟩)
end PB41
section PB41M
variable {Z : pb_Z} {h h0 : pb_H} {A : pb_A}
set_option maxRecDepth 10000 in
theorem t_addMM (w : pb_WF A) {z k t : Nat} {Mr K : Nat → Nat} {v0 v1 v2 v3 v4 : Value} (hP : palA A h) (ht : t < A 1 0) (ho : h 68 = some (.inr (.inr (5, soM z k v0 v1 v2 v3 v4)))) (hdr : h 302 = some (.inr (.inl (4, 12, cTo 320 12)))) (hsr : h 303 = some (.inr (.inl (4, 12, cTo 340 12)))) (hme : h 300 = some (.inl (0, 12, fun j => nI (Mr j)))) (hko : h 301 = some (.inl (0, 12, fun j => nI (K j)))) (hd : cScr 8 (h (320 + z))) (hs : cScr 8 (h (340 + z))) (hz : z < 12) : pb_T Z mX9_addMember 1 0 0 [.ref 68, .int (nI t), .ref (200 + t)] h (fun v h' => v = none ∧ h' 68 = some (.inr (.inr (5, soM (z + 1) k v0 v1 v2 v3 v4))) ∧ h' 300 = some (.inl (0, 12, fun j => nI (pb_un Mr z t j))) ∧ h' 301 = some (.inl (0, 12, fun j => nI (pb_un K z (A 2 t) j))) ∧ cRow 8 (fun b => A 7 (8 * t + b)) (h' (320 + z)) ∧ cRow 8 (fun b => A 8 (8 * t + b)) (h' (340 + z)) ∧ ∀ x, x ≠ 68 → x ≠ 300 → x ≠ 301 → x ≠ 320 + z → x ≠ 340 + z → h' x = h x) := by
  have htt := w.tubes
  obtain ⟨D, hd⟩ := hd
  obtain ⟨S, hs⟩ := hs
  have hto := (hP.2.2 t (by omega) ht).1
  refine pb_T.of pnX9_addMember (Nat.le_of_ble_eq_true rfl) (lv := [some (.ref 68), some (.int (nI t)), some (.ref (200 + t)), none]) rfl ?_
  refine pb_aload_n (pc2 := 1) dX9_addMember_0 rfl rfl rfl ?_
  refine pb_getf (pc2 := 4) flX9_9_X5 rfl dX9_addMember_1 (by first | assumption | exact hR.a rfl | exact hR.o | exact hC.o | exact hC.pal | exact hC.tub | exact hC.k _ _ rfl | exact hC.pot _ (by omega) | exact hC.are _ (by omega) | exact hC.arl _ (by omega) | exact hC.tbo _ (by omega) (by omega)) rfl rfl ?_
  refine pb_aload_n (pc2 := 5) dX9_addMember_4 rfl rfl rfl ?_
  refine pb_getf (pc2 := 8) flX9_26_X5 rfl dX9_addMember_5 (by first | assumption | exact hR.a rfl | exact hR.o | exact hC.o | exact hC.pal | exact hC.tub | exact hC.k _ _ rfl | exact hC.pot _ (by omega) | exact hC.are _ (by omega) | exact hC.arl _ (by omega) | exact hC.tbo _ (by omega) (by omega)) rfl rfl ?_
  refine pb_iload_n (pc2 := 9) dX9_addMember_8 rfl rfl rfl ?_
  refine pb_iastG (pc2 := 10) hme dX9_addMember_9 (by omega) hz (by omega) rfl (fun h1 hme n1 => ?_)
  have ho := (n1 _ (by omega)).trans ho
  have hko := (n1 _ (by omega)).trans hko
  have hto := (n1 _ (by omega)).trans hto
  refine pb_aload_n (pc2 := 11) dX9_addMember_10 rfl rfl rfl ?_
  refine pb_getf (pc2 := 14) flX9_15_X5 rfl dX9_addMember_11 (by first | assumption | exact hR.a rfl | exact hR.o | exact hC.o | exact hC.pal | exact hC.tub | exact hC.k _ _ rfl | exact hC.pot _ (by omega) | exact hC.are _ (by omega) | exact hC.arl _ (by omega) | exact hC.tbo _ (by omega) (by omega)) rfl rfl ?_
  refine pb_aload_n (pc2 := 15) dX9_addMember_14 rfl rfl rfl ?_
  refine pb_getf (pc2 := 18) flX9_26_X5 rfl dX9_addMember_15 (by first | assumption | exact hR.a rfl | exact hR.o | exact hC.o | exact hC.pal | exact hC.tub | exact hC.k _ _ rfl | exact hC.pot _ (by omega) | exact hC.are _ (by omega) | exact hC.arl _ (by omega) | exact hC.tbo _ (by omega) (by omega)) rfl rfl ?_
  refine pb_aload_n (pc2 := 19) dX9_addMember_18 rfl rfl rfl ?_
  refine pb_getf (pc2 := 22) flX9_62_X10 rfl dX9_addMember_19 (by first | assumption | exact hR.a rfl | exact hR.o | exact hC.o | exact hC.pal | exact hC.tub | exact hC.k _ _ rfl | exact hC.pot _ (by omega) | exact hC.are _ (by omega) | exact hC.arl _ (by omega) | exact hC.tbo _ (by omega) (by omega)) rfl rfl ?_
  refine pb_iastG (pc2 := 23) hko dX9_addMember_22 (by omega) hz (by omega) rfl (fun h2 hko n2 => ?_)
  have ho := (n2 _ (by omega)).trans ho
  have hme := (n2 _ (by omega)).trans hme
  have hto := (n2 _ (by omega)).trans hto
  have nb2 : ∀ x, x ≠ 300 → x ≠ 301 → h2 x = h x := fun x x1 x2 => (n2 x x2).trans (n1 x x1)
  have hd := (nb2 _ (by omega) (by omega)).trans hd
  have hs := (nb2 _ (by omega) (by omega)).trans hs
  have loop : ∀ (m b : Nat) (D S : Nat → Nat) (h' : pb_H), 8 - b < m → b ≤ 8 → h' (320 + z) = some (.inl (0, 8, fun j => nI (D j))) → h' (340 + z) = some (.inl (0, 8, fun j => nI (S j))) → (∀ j, j < b → D j = A 7 (8 * t + j) ∧ S j = A 8 (8 * t + j)) → (∀ x, x ≠ 320 + z → x ≠ 340 + z → h' x = h2 x) → pb_S Z mX9_addMember 1 0 0 (fun v h' => v = none ∧ h' 68 = some (.inr (.inr (5, soM (z + 1) k v0 v1 v2 v3 v4))) ∧ h' 300 = some (.inl (0, 12, fun j => nI (pb_un Mr z t j))) ∧ h' 301 = some (.inl (0, 12, fun j => nI (pb_un K z (A 2 t) j))) ∧ cRow 8 (fun b => A 7 (8 * t + b)) (h' (320 + z)) ∧ cRow 8 (fun b => A 8 (8 * t + b)) (h' (340 + z)) ∧ ∀ x, x ≠ 68 → x ≠ 300 → x ≠ 301 → x ≠ 320 + z → x ≠ 340 + z → h' x = h x) 25 [some (.ref 68), some (.int (nI t)), some (.ref (200 + t)), some (.int (nI b))] [] h' := by
    intro m
    induction m with
    | zero => intro b D S h' g1; omega
    | succ m ih =>
      intro b D S h' g1 g2 hd hs hDS nb
      have ho : h' 68 = _ := (nb _ (by omega) (by omega)).trans ho
      refine pb_iload_n (pc2 := 26) dX9_addMember_25 rfl rfl rfl ?_
      refine pb_bipush (x := nI 8) (pc2 := 28) dX9_addMember_26 (by decide) rfl ?_
      refine pb_icmpN_ge (tgt := 70) (pc2 := 31) dX9_addMember_28 (by decide) rfl (by omega) (by omega) (fun q => ?_) (fun q => ?_)
      · have e : b = 8 := by omega
        subst e
        refine pb_aload_n (pc2 := 71) dX9_addMember_70 rfl rfl rfl ?_
        refine pb_dup (pc2 := 72) dX9_addMember_71 rfl rfl ?_
        refine pb_getf (pc2 := 75) flX9_26_X5 rfl dX9_addMember_72 (by first | assumption | exact hR.a rfl | exact hR.o | exact hC.o | exact hC.pal | exact hC.tub | exact hC.k _ _ rfl | exact hC.pot _ (by omega) | exact hC.are _ (by omega) | exact hC.arl _ (by omega) | exact hC.tbo _ (by omega) (by omega)) rfl rfl ?_
        refine pb_iconst (x := nI 1) (pc2 := 76) dX9_addMember_75 (by decide) rfl ?_
        refine pb_iaddN (pc2 := 77) dX9_addMember_76 rfl ?_
        refine pb_putG (fs2 := [_, _, _, _, _, _, _, _, _, _, _, _, _, _, _, _]) (pc2 := 80) flX9_26_X5 rfl dX9_addMember_77 ho (by omega) rfl rfl rfl rfl rfl (fun h_ ho n5 => ?_)
        have hd := (n5 _ (by omega)).trans hd
        have hs := (n5 _ (by omega)).trans hs
        exact pb_return dX9_addMember_80 rfl (⟨rfl, ho, (n5 _ (by omega)).trans ((nb _ (by omega) (by omega)).trans hme), (n5 _ (by omega)).trans ((nb _ (by omega) (by omega)).trans hko), ⟨D, hd, fun j hj => (hDS j hj).1⟩, ⟨S, hs, fun j hj => (hDS j hj).2⟩, fun x x1 x2 x3 x4 x5 => (n5 x x1).trans ((nb x x4 x5).trans (nb2 x x2 x3))⟩)
      · have hdr : h' 302 = _ := (nb _ (by omega) (by omega)).trans ((nb2 _ (by omega) (by omega)).trans hdr)
        have hsr : h' 303 = _ := (nb _ (by omega) (by omega)).trans ((nb2 _ (by omega) (by omega)).trans hsr)
        have hto : h' (200 + t) = _ := (nb _ (by omega) (by omega)).trans hto
        have hP' : palA A h' := hP.up (fun x hx => (nb x (by omega) (by omega)).trans (nb2 x (by omega) (by omega)))
        refine pb_aload_n (pc2 := 32) dX9_addMember_31 rfl rfl rfl ?_
        refine pb_getf (pc2 := 35) flX9_20_X5 rfl dX9_addMember_32 (by first | assumption | exact hR.a rfl | exact hR.o | exact hC.o | exact hC.pal | exact hC.tub | exact hC.k _ _ rfl | exact hC.pot _ (by omega) | exact hC.are _ (by omega) | exact hC.arl _ (by omega) | exact hC.tbo _ (by omega) (by omega)) rfl rfl ?_
        refine pb_aload_n (pc2 := 36) dX9_addMember_35 rfl rfl rfl ?_
        refine pb_getf (pc2 := 39) flX9_26_X5 rfl dX9_addMember_36 (by first | assumption | exact hR.a rfl | exact hR.o | exact hC.o | exact hC.pal | exact hC.tub | exact hC.k _ _ rfl | exact hC.pot _ (by omega) | exact hC.are _ (by omega) | exact hC.arl _ (by omega) | exact hC.tbo _ (by omega) (by omega)) rfl rfl ?_
        refine pb_aald (pc2 := 40) (by first | assumption | exact hR.a rfl | exact hR.o | exact hC.o | exact hC.pal | exact hC.tub | exact hC.k _ _ rfl | exact hC.pot _ (by omega) | exact hC.are _ (by omega) | exact hC.arl _ (by omega) | exact hC.tbo _ (by omega) (by omega)) dX9_addMember_39 (by decide) (by omega) (by omega) (cTo_at (by omega)) rfl ?_
        refine pb_iload_n (pc2 := 41) dX9_addMember_40 rfl rfl rfl ?_
        refine pb_aload_n (pc2 := 42) dX9_addMember_41 rfl rfl rfl ?_
        refine pb_iload_n (pc2 := 43) dX9_addMember_42 rfl rfl rfl ?_
        refine pb_iconst (x := nI 0) (pc2 := 44) dX9_addMember_43 (by decide) rfl ?_
        refine pb_callV (pc2 := 47) (k2 := 0) (n2 := 0) mwX10_drinkAfter pb_cl8.1 iwX10_drinkAfter seX10_drinkAfter rfl mlX9_67 dX9_addMember_44 (by first | assumption | exact hR.a rfl | exact hR.o | exact hC.o | exact hC.pal | exact hC.tub | exact hC.k _ _ rfl | exact hC.pot _ (by omega) | exact hC.are _ (by omega) | exact hC.arl _ (by omega) | exact hC.tbo _ (by omega) (by omega)) (t_drinkAfter2 w hP' ht q (show 0 < 100 by omega)) (by omega) (by omega) (by omega) rfl rfl (Nat.le_of_ble_eq_true rfl) rfl (pb_kE ?_)
        refine pb_iastG (pc2 := 48) hd dX9_addMember_47 (by omega) q (by omega) rfl (fun h5 hd n5 => ?_)
        have ho := (n5 _ (by omega)).trans ho
        have hsr := (n5 _ (by omega)).trans hsr
        have hto := (n5 _ (by omega)).trans hto
        have hs := (n5 _ (by omega)).trans hs
        have hP5 : palA A h5 := hP'.up (fun x hx => n5 x (by omega))
        refine pb_aload_n (pc2 := 49) dX9_addMember_48 rfl rfl rfl ?_
        refine pb_getf (pc2 := 52) flX9_23_X5 rfl dX9_addMember_49 (by first | assumption | exact hR.a rfl | exact hR.o | exact hC.o | exact hC.pal | exact hC.tub | exact hC.k _ _ rfl | exact hC.pot _ (by omega) | exact hC.are _ (by omega) | exact hC.arl _ (by omega) | exact hC.tbo _ (by omega) (by omega)) rfl rfl ?_
        refine pb_aload_n (pc2 := 53) dX9_addMember_52 rfl rfl rfl ?_
        refine pb_getf (pc2 := 56) flX9_26_X5 rfl dX9_addMember_53 (by first | assumption | exact hR.a rfl | exact hR.o | exact hC.o | exact hC.pal | exact hC.tub | exact hC.k _ _ rfl | exact hC.pot _ (by omega) | exact hC.are _ (by omega) | exact hC.arl _ (by omega) | exact hC.tbo _ (by omega) (by omega)) rfl rfl ?_
        refine pb_aald (pc2 := 57) (by first | assumption | exact hR.a rfl | exact hR.o | exact hC.o | exact hC.pal | exact hC.tub | exact hC.k _ _ rfl | exact hC.pot _ (by omega) | exact hC.are _ (by omega) | exact hC.arl _ (by omega) | exact hC.tbo _ (by omega) (by omega)) dX9_addMember_56 (by decide) (by omega) (by omega) (cTo_at (by omega)) rfl ?_
        refine pb_iload_n (pc2 := 58) dX9_addMember_57 rfl rfl rfl ?_
        refine pb_aload_n (pc2 := 59) dX9_addMember_58 rfl rfl rfl ?_
        refine pb_iload_n (pc2 := 60) dX9_addMember_59 rfl rfl rfl ?_
        refine pb_callV (pc2 := 63) (k2 := 0) (n2 := 0) mwX10_scatterOf pb_cl8.1 iwX10_scatterOf seX10_scatterOf rfl mlX9_71 dX9_addMember_60 (by first | assumption | exact hR.a rfl | exact hR.o | exact hC.o | exact hC.pal | exact hC.tub | exact hC.k _ _ rfl | exact hC.pot _ (by omega) | exact hC.are _ (by omega) | exact hC.arl _ (by omega) | exact hC.tbo _ (by omega) (by omega)) (t_scatterOf2 w hP5 ht q) (by omega) (by omega) (by omega) rfl rfl (Nat.le_of_ble_eq_true rfl) rfl (pb_kE ?_)
        refine pb_iastG (pc2 := 64) hs dX9_addMember_63 (by omega) q (by omega) rfl (fun h6 hs n6 => ?_)
        have hd := (n6 _ (by omega)).trans hd
        refine pb_iincP (c0 := 1) (lv2 := [_, _, _, _]) (pc2 := 67) dX9_addMember_64 rfl (by decide) rfl rfl ?_
        refine pb_goto (tgt := 25) dX9_addMember_67 (by decide) ?_
        refine ih (b + 1) _ _ h6 (by omega) (by omega) hd hs (fun j hj => ?_) (fun x x1 x2 => (n6 x x2).trans ((n5 x x1).trans (nb x x1 x2)))
        by_cases e : j = b
        · rw [e, pb_un_self, pb_un_self]; exact ⟨rfl, rfl⟩
        · rw [pb_un_ne _ _ e, pb_un_ne _ _ e]; exact hDS j (by omega)
  refine pb_iconst (x := nI 0) (pc2 := 24) dX9_addMember_23 (by decide) rfl ?_
  refine pb_istore_n (lv2 := [_, _, _, _]) (pc2 := 25) dX9_addMember_24 rfl (by decide) rfl rfl ?_
  exact loop 9 0 D S h2 (by omega) (by omega) hd hs (fun j hj => by omega) (fun _ _ _ => rfl)
set_option maxRecDepth 10000 in
theorem t_goM (w : pb_WF A) {l s n sz0 k0 : Nat} {σ : Nat × Nat × (Nat → Nat)} (hl : l < 4) (hs : s < 4096) (hst : ∀ t, A 1 0 ≤ t → s.testBit t = false) (hn1 : 1 ≤ n) (hn : n ≤ 8) (hST : stM A σ sz0 k0 h0 h) (hX : exM A h) (hL : pb_LT A l h) (hP : palA A h) : pb_T Z mX9_goThrough 7 0 0 [.ref 68, .ref 61, .ref 62, .int (nI s), .int (nI n)] h (fun v h' => v = none ∧ ∃ sz k, stM A ((en_l s (A 1 0) 0 n (fun _ => 0)).foldl (sp_mst A l) σ) sz k h0 h') := by
  have htt := w.tubes
  have ho := hST.2.1
  obtain ⟨Mr, hme⟩ := hST.1.s 300 12 rfl
  obtain ⟨K, hko⟩ := hST.1.s 301 12 rfl
  have hrow : ∀ i, i < 12 → cScr 8 (h (320 + i)) ∧ cScr 8 (h (340 + i)) := fun i hi => ⟨hST.1.s _ 8 (cS_8 (by omega)), hST.1.s _ 8 (cS_8 (by omega))⟩
  refine pb_T.of pnX9_goThrough (Nat.le_of_ble_eq_true rfl) (lv := [some (.ref 68), some (.ref 61), some (.ref 62), some (.int (nI s)), some (.int (nI n)), none, none]) rfl ?_
  first | refine pb_aload_n (pc2 := 1) dX9_goThrough_0 rfl rfl rfl ?_ | refine pb_aload_nN (pc2 := 1) dX9_goThrough_0 rfl rfl rfl ?_
  refine pb_iconst (x := nI 0) (pc2 := 2) dX9_goThrough_1 (by decide) rfl ?_
  refine pb_putG (fs2 := [_, _, _, _, _, _, _, _, _, _, _, _, _, _, _, _]) (pc2 := 5) flX9_26_X5 rfl dX9_goThrough_2 ho (by omega) rfl rfl rfl rfl rfl (fun h_ ho n1 => ?_)
  have hme := (n1 _ (by omega)).trans hme
  have hko := (n1 _ (by omega)).trans hko
  have hrow1 : ∀ i, i < 12 → cScr 8 (h_ (320 + i)) ∧ cScr 8 (h_ (340 + i)) := fun i hi => by
    rw [n1 _ (by omega), n1 _ (by omega)]; exact hrow i hi
  have loop : ∀ (q t : Nat) (Mr K : Nat → Nat) (h' : pb_H) (o6 : Option Value), 12 - t < q → t ≤ 12 → h' 68 = some (.inr (.inr (5, cMt (em_c s t) k0 1 σ.2.1 σ.1))) → h' 300 = some (.inl (0, 12, fun j => nI (Mr j))) → h' 301 = some (.inl (0, 12, fun j => nI (K j))) → (∀ u, u < t → s.testBit u = true → Mr (em_c s u) = u ∧ K (em_c s u) = A 2 u ∧ cRow 8 (fun b => A 7 (8 * u + b)) (h' (320 + em_c s u)) ∧ cRow 8 (fun b => A 8 (8 * u + b)) (h' (340 + em_c s u))) → (∀ i, i < 12 → cScr 8 (h' (320 + i)) ∧ cScr 8 (h' (340 + i))) → (∀ x, x ≠ 68 → x ≠ 300 → x ≠ 301 → (x < 320 ∨ 332 ≤ x) → (x < 340 ∨ 352 ≤ x) → h' x = h x) → pb_S Z mX9_goThrough 7 0 0 (fun v h' => v = none ∧ ∃ sz k, stM A ((en_l s (A 1 0) 0 n (fun _ => 0)).foldl (sp_mst A l) σ) sz k h0 h') 8 [some (.ref 68), some (.ref 61), some (.ref 62), some (.int (nI s)), some (.int (nI n)), some (.int (nI t)), o6] [] h' := by
    intro q
    induction q with
    | zero => intro t Mr K h' o6 g1; omega
    | succ q ih =>
      intro t Mr K h' o6 g1 g2 ho hme hko hmem hrow nb
      have hle := em_c_le s t
      have hP' : palA A h' := hP.up (fun x hx => nb x (by omega) (by omega) (by omega) (by omega) (by omega))
      have h61 := hP'.1
      have es : em_c s (t + 1) = em_c s t + pb_bit s t := rfl
      have skip : pb_bit s t = 0 → ∀ o6, t < 12 → pb_S Z mX9_goThrough 7 0 0 (fun v h' => v = none ∧ ∃ sz k, stM A ((en_l s (A 1 0) 0 n (fun _ => 0)).foldl (sp_mst A l) σ) sz k h0 h') 46 [some (.ref 68), some (.ref 61), some (.ref 62), some (.int (nI s)), some (.int (nI n)), some (.int (nI t)), o6] [] h' := by
        intro hb o6 ht12
        refine pb_iincP (c0 := 1) (lv2 := [_, _, _, _, _, _, _]) (pc2 := 49) dX9_goThrough_46 rfl (by decide) rfl rfl ?_
        refine pb_goto (tgt := 8) dX9_goThrough_49 (by decide) ?_
        rw [hb, Nat.add_zero] at es
        refine ih (t + 1) Mr K h' o6 (by omega) (by omega) (by rw [es]; exact ho) hme hko (fun u hu hb2 => ?_) hrow nb
        by_cases e : u = t
        · rw [e, pb_bit_0.mp hb] at hb2; cases hb2
        · exact hmem u (by omega) hb2
      refine pb_iload (pc2 := 10) dX9_goThrough_8 rfl rfl ?_
      refine pb_bipush (x := nI 12) (pc2 := 12) dX9_goThrough_10 (by decide) rfl ?_
      refine pb_icmpN_ge (tgt := 52) (pc2 := 15) dX9_goThrough_12 (by decide) rfl (by omega) (by omega) (fun c => ?_) (fun c => ?_)
      · have e : t = 12 := by omega
        subst e
        have hsz : em_c s 12 = em_c s (A 1 0) := pb_sum_ext htt (fun i i1 i2 => pb_bit_0.mpr (hst i i1))
        rw [hsz] at ho
        have hm : ∀ u, u < A 1 0 → s.testBit u = true → Mr (em_c s u) = u := fun u hu hb => (hmem u (by omega) hb).1
        have hsur := em_sur (s := s)
        have hmm : mmI (A 1 0) (em_c s (A 1 0)) Mr := by
          refine ⟨fun i j hij hj => ?_, fun i hi => ?_⟩
          · obtain ⟨u, u1, u2, rfl⟩ := hsur (A 1 0) i (by omega)
            obtain ⟨v, v1, v2, rfl⟩ := hsur (A 1 0) j hj
            rw [hm u u1 u2, hm v v1 v2]
            apply Nat.lt_of_not_le
            intro z
            have := em_c_mono (s := s) z
            omega
          · obtain ⟨u, u1, u2, rfl⟩ := hsur (A 1 0) i hi
            rw [hm u u1 u2]; exact u1
        have hszl : em_c s (A 1 0) ≤ 12 := Nat.le_trans (em_c_le s _) htt
        have hsc : ∀ a m, cS a = some m → cScr m (h' a) := fun a m e => by
          by_cases e1 : a = 300
          · subst e1
            have en : m = 12 := (Option.some.inj e).symm
            subst en
            exact ⟨Mr, hme⟩
          · by_cases e2 : a = 301
            · subst e2
              have en : m = 12 := (Option.some.inj e).symm
              subst en
              exact ⟨K, hko⟩
            · by_cases e3 : 320 ≤ a ∧ a < 332
              · have en : m = 8 := Option.some.inj (e.symm.trans (cS_8 (by omega)))
                subst en
                have := (hrow (a - 320) (by omega)).1
                rw [show 320 + (a - 320) = a by omega] at this
                exact this
              · by_cases e4 : 340 ≤ a ∧ a < 352
                · have en : m = 8 := Option.some.inj (e.symm.trans (cS_8 (by omega)))
                  subst en
                  have := (hrow (a - 340) (by omega)).2
                  rw [show 340 + (a - 340) = a by omega] at this
                  exact this
                · rw [nb a (cS_ne e rfl) e1 e2 (by omega) (by omega)]; exact hST.1.s a m e
        have hST1 : stM A σ (em_c s (A 1 0)) k0 h0 h' := hST.g ho hsc (fun x x1 x2 => nb x x2 (fun z => by rw [z] at x1; cases x1) (fun z => by rw [z] at x1; cases x1) (by
          apply Classical.byContradiction
          intro z
          rw [cS_8 (by omega)] at x1
          cases x1) (by
          apply Classical.byContradiction
          intro z
          rw [cS_8 (by omega)] at x1
          cases x1))
        have nbz := nb
        have hS1 : sbM A l (em_c s (A 1 0)) Mr h' := by
          refine ⟨hST1.1.k _ _ rfl, hST1.1.k _ _ rfl, hST1.1.k _ _ rfl, hST1.1.k _ _ rfl, hST1.1.k _ _ rfl, hST1.1.k _ _ rfl, hL.up (fun x x1 x2 => nbz x (by omega) (by omega) (by omega) (by omega) (by omega)), hme, ⟨K, hko, fun i hi => ?_⟩, fun i hi => ?_, fun i hi => ?_⟩
          · obtain ⟨u, u1, u2, rfl⟩ := hsur (A 1 0) i hi
            obtain ⟨m1, m2, m3, m4⟩ := hmem u (by omega) u2
            rw [m1, m2]
          · obtain ⟨u, u1, u2, rfl⟩ := hsur (A 1 0) i hi
            obtain ⟨m1, m2, m3, m4⟩ := hmem u (by omega) u2
            rw [m1]; exact m3
          · obtain ⟨u, u1, u2, rfl⟩ := hsur (A 1 0) i hi
            obtain ⟨m1, m2, m3, m4⟩ := hmem u (by omega) u2
            rw [m1]; exact m4
        have hX1 : exM A h' := by
          unfold exM; rw [nb _ (by omega) (by omega) (by omega) (by omega) (by omega)]; exact hX
        obtain ⟨C, hc⟩ := hST1.1.s 304 4 rfl
        obtain ⟨M, ha⟩ := hST1.1.s 305 4 rfl
        have hz0 : cRow 8 (fun b => pb_dk A (mxP Mr C M 0) b 0) (h' (360 + 0)) := cRow_same (hST1.1.zer 360 (by omega)) (fun b hb => by
          show pb_sum (A 1 0) (fun t => 0 * _) = 0
          rw [pb_sum_congr (g := fun _ => 0) _ (fun t _ => Nat.zero_mul _), pb_sum_const, Nat.mul_zero])
        have hz1 : cRow 8 (fun b => pb_sc A (mxP Mr C M 0) b) (h' (364 + 0)) := cRow_same (hST1.1.zer 364 (by omega)) (fun b hb => by
          show pb_sum (A 1 0) (fun t => 0 * _) = 0
          rw [pb_sum_congr (g := fun _ => 0) _ (fun t _ => Nat.zero_mul _), pb_sum_const, Nat.mul_zero])
        first | refine pb_aload_n (pc2 := 53) dX9_goThrough_52 rfl rfl rfl ?_ | refine pb_aload_nN (pc2 := 53) dX9_goThrough_52 rfl rfl rfl ?_
        first | refine pb_aload_n (pc2 := 54) dX9_goThrough_53 rfl rfl rfl ?_ | refine pb_aload_nN (pc2 := 54) dX9_goThrough_53 rfl rfl rfl ?_
        refine pb_iconst (x := nI 0) (pc2 := 55) dX9_goThrough_54 (by decide) rfl ?_
        refine pb_iconst (x := nI 0) (pc2 := 56) dX9_goThrough_55 (by decide) rfl ?_
        refine pb_iload (pc2 := 58) dX9_goThrough_56 rfl rfl ?_
        refine pb_callV (pc2 := 61) (k2 := 0) (n2 := 0) mwX9_spread pb_cl5.1 iwX9_spread sxX5_spread rfl mlX9_58 dX9_goThrough_58 (by first | assumption | exact hR.a rfl | exact hR.o | exact hC.o | exact hC.pal | exact hC.tub | exact hC.k _ _ rfl | exact hC.pot _ (by omega) | exact hC.are _ (by omega) | exact hC.arl _ (by omega) | exact hC.tbo _ (by omega) (by omega)) (t_spreadM w hl hszl hmm hn 0 n σ C M k0 h' hn1 hST1 hX1 hS1 hc ha ⟨fun i hi => by omega, fun i j hi hj => by omega, fun i hi => by omega, Nat.zero_le _⟩ (by show pb_sum 12 (fun _ => 0) + n = n; rw [pb_sum_const]; omega) hz0 hz1) (by omega) (by omega) (by omega) rfl rfl (Nat.le_of_ble_eq_true rfl) rfl (fun v h2 q2 _ => ?_)
        obtain ⟨rfl, k2, C2, M2, hST2, -⟩ := q2
        have efin : em_l Mr (em_c s (A 1 0) - 0) 0 n (mxP Mr C M 0) = en_l s (A 1 0) 0 n (fun _ => 0) := (em_en hm (A 1 0) 0 n (fun _ => 0) (by omega)).symm
        rw [efin] at hST2
        exact pb_return dX9_goThrough_61 rfl (⟨rfl, _, k2, hST2⟩)
      · first | refine pb_aload_n (pc2 := 16) dX9_goThrough_15 rfl rfl rfl ?_ | refine pb_aload_nN (pc2 := 16) dX9_goThrough_15 rfl rfl rfl ?_
        refine pb_iload (pc2 := 18) dX9_goThrough_16 rfl rfl ?_
        refine pb_callV (pc2 := 21) (k2 := 0) (n2 := 0) mwX8_at pb_cl7.1 iwX8_at seX8_at rfl mlX9_48 dX9_goThrough_18 (by first | assumption | exact hR.a rfl | exact hR.o | exact hC.o | exact hC.pal | exact hC.tub | exact hC.k _ _ rfl | exact hC.pot _ (by omega) | exact hC.are _ (by omega) | exact hC.arl _ (by omega) | exact hC.tbo _ (by omega) (by omega)) (t_at2 w hP' (nI t)) (by omega) (by omega) (by omega) rfl rfl (Nat.le_of_ble_eq_true rfl) rfl (pb_kRef (fun t' ht' e => ?_) (fun q2 => ?_))
        · have et : t = t' := nI_inj (by omega) (by omega) e
          subst et
          first | refine pb_astore (lv2 := [_, _, _, _, _, _, _]) (pc2 := 23) dX9_goThrough_21 (by decide) rfl rfl ?_ | refine pb_astoreN (lv2 := [_, _, _, _, _, _, _]) (pc2 := 23) dX9_goThrough_21 (by decide) rfl rfl ?_
          first | refine pb_aload (pc2 := 25) dX9_goThrough_23 rfl rfl ?_ | refine pb_aloadN (pc2 := 25) dX9_goThrough_23 rfl rfl ?_
          refine pb_ifnull (pc2 := 28) dX9_goThrough_25 rfl ?_
          refine pb_iload_n (pc2 := 29) dX9_goThrough_28 rfl rfl rfl ?_
          refine pb_iload (pc2 := 31) dX9_goThrough_29 rfl rfl ?_
          refine pb_ishrN (pc2 := 32) dX9_goThrough_31 (by omega) (by omega) rfl ?_
          refine pb_iconst (x := nI 1) (pc2 := 33) dX9_goThrough_32 (by decide) rfl ?_
          refine pb_iandB (pc2 := 34) dX9_goThrough_33 rfl ?_
          refine pb_iconst (x := nI 1) (pc2 := 35) dX9_goThrough_34 (by decide) rfl ?_
          have hbl := pb_bit_le s t
          refine pb_icmpN_ne (tgt := 46) (pc2 := 38) dX9_goThrough_35 (by decide) rfl (by omega) (by omega) (fun c2 => ?_) (fun c2 => ?_)
          · exact skip (by omega) _ c
          · have hle2 : em_c s t < 12 := by have := em_c_le s t; omega
            obtain ⟨r1, r2⟩ := hrow (em_c s t) hle2
            have hk2 := hST.1
            first | refine pb_aload_n (pc2 := 39) dX9_goThrough_38 rfl rfl rfl ?_ | refine pb_aload_nN (pc2 := 39) dX9_goThrough_38 rfl rfl rfl ?_
            refine pb_iload (pc2 := 41) dX9_goThrough_39 rfl rfl ?_
            first | refine pb_aload (pc2 := 43) dX9_goThrough_41 rfl rfl ?_ | refine pb_aloadN (pc2 := 43) dX9_goThrough_41 rfl rfl ?_
            refine pb_callV (pc2 := 46) (k2 := 0) (n2 := 0) mwX9_addMember pb_cl5.1 iwX9_addMember sxX5_addMember rfl mlX9_54 dX9_goThrough_43 (by first | assumption | exact hR.a rfl | exact hR.o | exact hC.o | exact hC.pal | exact hC.tub | exact hC.k _ _ rfl | exact hC.pot _ (by omega) | exact hC.are _ (by omega) | exact hC.arl _ (by omega) | exact hC.tbo _ (by omega) (by omega)) (t_addMM w hP' ht' ho ((nb _ (by omega) (by omega) (by omega) (by omega) (by omega)).trans (hST.1.k _ _ rfl)) ((nb _ (by omega) (by omega) (by omega) (by omega) (by omega)).trans (hST.1.k _ _ rfl)) hme hko r1 r2 hle2) (by omega) (by omega) (by omega) rfl rfl (Nat.le_of_ble_eq_true rfl) rfl (fun v h2 q3 _ => ?_)
            obtain ⟨rfl, ho, hme, hko, hd2, hs2, n2⟩ := q3
            refine pb_iincP (c0 := 1) (lv2 := [_, _, _, _, _, _, _]) (pc2 := 49) dX9_goThrough_46 rfl (by decide) rfl rfl ?_
            refine pb_goto (tgt := 8) dX9_goThrough_49 (by decide) ?_
            rw [c2] at es
            refine ih (t + 1) _ _ h2 _ (by omega) (by omega) (by rw [es]; exact ho) hme hko (fun u hu hb2 => ?_) (fun i hi => ?_) (fun x x1 x2 x3 x4 x5 => (n2 x x1 x2 x3 (by omega) (by omega)).trans (nb x x1 x2 x3 x4 x5))
            · by_cases e : u = t
              · subst e
                rw [pb_un_self, pb_un_self]
                exact ⟨rfl, rfl, hd2, hs2⟩
              · have hlt : em_c s u < em_c s t := by
                  have e5 : em_c s (u + 1) = em_c s u + pb_bit s u := rfl
                  rw [pb_bit_1.mpr hb2] at e5
                  have := em_c_mono (s := s) (show u + 1 ≤ t by omega)
                  omega
                obtain ⟨m1, m2, m3, m4⟩ := hmem u (by omega) hb2
                rw [pb_un_ne _ _ (by omega), pb_un_ne _ _ (by omega), n2 _ (by omega) (by omega) (by omega) (by omega) (by omega), n2 _ (by omega) (by omega) (by omega) (by omega) (by omega)]
                exact ⟨m1, m2, m3, m4⟩
            · by_cases e : i = em_c s t
              · rw [e]; exact ⟨cRow_scr hd2, cRow_scr hs2⟩
              · rw [n2 _ (by omega) (by omega) (by omega) (by omega) (by omega), n2 _ (by omega) (by omega) (by omega) (by omega) (by omega)]
                exact hrow i hi
        · have hb : pb_bit s t = 0 := pb_bit_0.mpr (hst t (Nat.le_of_not_lt (fun z => q2 (pb_isT_mk w z))))
          first | refine pb_astore (lv2 := [_, _, _, _, _, _, _]) (pc2 := 23) dX9_goThrough_21 (by decide) rfl rfl ?_ | refine pb_astoreN (lv2 := [_, _, _, _, _, _, _]) (pc2 := 23) dX9_goThrough_21 (by decide) rfl rfl ?_
          first | refine pb_aload (pc2 := 25) dX9_goThrough_23 rfl rfl ?_ | refine pb_aloadN (pc2 := 25) dX9_goThrough_23 rfl rfl ?_
          refine pb_ifnullN (tgt := 46) dX9_goThrough_25 (by decide) ?_
          exact skip hb _ c
  refine pb_iconst (x := nI 0) (pc2 := 6) dX9_goThrough_5 (by decide) rfl ?_
  refine pb_istore (lv2 := [_, _, _, _, _, _, _]) (pc2 := 8) dX9_goThrough_6 (by decide) rfl rfl ?_
  exact loop 13 0 Mr K _ _ (by omega) (by omega) ho hme hko (fun u hu => by omega) hrow1 (fun x x1 x2 x3 x4 x5 => n1 x x1)
end PB41M
section PB41C
variable {Z : pb_Z} {h h0 : pb_H} {A : pb_A}
set_option maxRecDepth 10000 in
theorem t_addMC (w : pb_WF A) {z k t : Nat} {Mr K : Nat → Nat} {v0 v1 v2 v3 v4 : Value} (hP : palA A h) (ht : t < A 1 0) (ho : h 69 = some (.inr (.inr (1, soC z k v0 v1 v2 v3 v4)))) (hdr : h 402 = some (.inr (.inl (4, 12, cTo 420 12)))) (hsr : h 403 = some (.inr (.inl (4, 12, cTo 440 12)))) (hme : h 400 = some (.inl (0, 12, fun j => nI (Mr j)))) (hko : h 401 = some (.inl (0, 12, fun j => nI (K j)))) (hd : cScr 8 (h (420 + z))) (hs : cScr 8 (h (440 + z))) (hz : z < 12) : pb_T Z mX9_addMember 1 0 0 [.ref 69, .int (nI t), .ref (200 + t)] h (fun v h' => v = none ∧ h' 69 = some (.inr (.inr (1, soC (z + 1) k v0 v1 v2 v3 v4))) ∧ h' 400 = some (.inl (0, 12, fun j => nI (pb_un Mr z t j))) ∧ h' 401 = some (.inl (0, 12, fun j => nI (pb_un K z (A 2 t) j))) ∧ cRow 8 (fun b => A 7 (8 * t + b)) (h' (420 + z)) ∧ cRow 8 (fun b => A 8 (8 * t + b)) (h' (440 + z)) ∧ ∀ x, x ≠ 69 → x ≠ 400 → x ≠ 401 → x ≠ 420 + z → x ≠ 440 + z → h' x = h x) := by
  have htt := w.tubes
  obtain ⟨D, hd⟩ := hd
  obtain ⟨S, hs⟩ := hs
  have hto := (hP.2.2 t (by omega) ht).1
  refine pb_T.of pnX9_addMember (Nat.le_of_ble_eq_true rfl) (lv := [some (.ref 69), some (.int (nI t)), some (.ref (200 + t)), none]) rfl ?_
  first | refine pb_aload_n (pc2 := 1) dX9_addMember_0 rfl rfl rfl ?_ | refine pb_aload_nN (pc2 := 1) dX9_addMember_0 rfl rfl rfl ?_
  refine pb_getf (pc2 := 4) flX9_9_X1 rfl dX9_addMember_1 (by first | assumption | exact hR.a rfl | exact hR.o | exact hC.o | exact hC.pal | exact hC.tub | exact hC.k _ _ rfl | exact hC.pot _ (by omega) | exact hC.are _ (by omega) | exact hC.arl _ (by omega) | exact hC.tbo _ (by omega) (by omega)) rfl rfl ?_
  first | refine pb_aload_n (pc2 := 5) dX9_addMember_4 rfl rfl rfl ?_ | refine pb_aload_nN (pc2 := 5) dX9_addMember_4 rfl rfl rfl ?_
  refine pb_getf (pc2 := 8) flX9_26_X1 rfl dX9_addMember_5 (by first | assumption | exact hR.a rfl | exact hR.o | exact hC.o | exact hC.pal | exact hC.tub | exact hC.k _ _ rfl | exact hC.pot _ (by omega) | exact hC.are _ (by omega) | exact hC.arl _ (by omega) | exact hC.tbo _ (by omega) (by omega)) rfl rfl ?_
  refine pb_iload_n (pc2 := 9) dX9_addMember_8 rfl rfl rfl ?_
  refine pb_iastG (pc2 := 10) hme dX9_addMember_9 (by omega) hz (by omega) rfl (fun h1 hme n1 => ?_)
  have ho := (n1 _ (by omega)).trans ho
  have hko := (n1 _ (by omega)).trans hko
  have hto := (n1 _ (by omega)).trans hto
  first | refine pb_aload_n (pc2 := 11) dX9_addMember_10 rfl rfl rfl ?_ | refine pb_aload_nN (pc2 := 11) dX9_addMember_10 rfl rfl rfl ?_
  refine pb_getf (pc2 := 14) flX9_15_X1 rfl dX9_addMember_11 (by first | assumption | exact hR.a rfl | exact hR.o | exact hC.o | exact hC.pal | exact hC.tub | exact hC.k _ _ rfl | exact hC.pot _ (by omega) | exact hC.are _ (by omega) | exact hC.arl _ (by omega) | exact hC.tbo _ (by omega) (by omega)) rfl rfl ?_
  first | refine pb_aload_n (pc2 := 15) dX9_addMember_14 rfl rfl rfl ?_ | refine pb_aload_nN (pc2 := 15) dX9_addMember_14 rfl rfl rfl ?_
  refine pb_getf (pc2 := 18) flX9_26_X1 rfl dX9_addMember_15 (by first | assumption | exact hR.a rfl | exact hR.o | exact hC.o | exact hC.pal | exact hC.tub | exact hC.k _ _ rfl | exact hC.pot _ (by omega) | exact hC.are _ (by omega) | exact hC.arl _ (by omega) | exact hC.tbo _ (by omega) (by omega)) rfl rfl ?_
  first | refine pb_aload_n (pc2 := 19) dX9_addMember_18 rfl rfl rfl ?_ | refine pb_aload_nN (pc2 := 19) dX9_addMember_18 rfl rfl rfl ?_
  refine pb_getf (pc2 := 22) flX9_62_X10 rfl dX9_addMember_19 (by first | assumption | exact hR.a rfl | exact hR.o | exact hC.o | exact hC.pal | exact hC.tub | exact hC.k _ _ rfl | exact hC.pot _ (by omega) | exact hC.are _ (by omega) | exact hC.arl _ (by omega) | exact hC.tbo _ (by omega) (by omega)) rfl rfl ?_
  refine pb_iastG (pc2 := 23) hko dX9_addMember_22 (by omega) hz (by omega) rfl (fun h2 hko n2 => ?_)
  have ho := (n2 _ (by omega)).trans ho
  have hme := (n2 _ (by omega)).trans hme
  have hto := (n2 _ (by omega)).trans hto
  have nb2 : ∀ x, x ≠ 400 → x ≠ 401 → h2 x = h x := fun x x1 x2 => (n2 x x2).trans (n1 x x1)
  have hd := (nb2 _ (by omega) (by omega)).trans hd
  have hs := (nb2 _ (by omega) (by omega)).trans hs
  have loop : ∀ (m b : Nat) (D S : Nat → Nat) (h' : pb_H), 8 - b < m → b ≤ 8 → h' (420 + z) = some (.inl (0, 8, fun j => nI (D j))) → h' (440 + z) = some (.inl (0, 8, fun j => nI (S j))) → (∀ j, j < b → D j = A 7 (8 * t + j) ∧ S j = A 8 (8 * t + j)) → (∀ x, x ≠ 420 + z → x ≠ 440 + z → h' x = h2 x) → pb_S Z mX9_addMember 1 0 0 (fun v h' => v = none ∧ h' 69 = some (.inr (.inr (1, soC (z + 1) k v0 v1 v2 v3 v4))) ∧ h' 400 = some (.inl (0, 12, fun j => nI (pb_un Mr z t j))) ∧ h' 401 = some (.inl (0, 12, fun j => nI (pb_un K z (A 2 t) j))) ∧ cRow 8 (fun b => A 7 (8 * t + b)) (h' (420 + z)) ∧ cRow 8 (fun b => A 8 (8 * t + b)) (h' (440 + z)) ∧ ∀ x, x ≠ 69 → x ≠ 400 → x ≠ 401 → x ≠ 420 + z → x ≠ 440 + z → h' x = h x) 25 [some (.ref 69), some (.int (nI t)), some (.ref (200 + t)), some (.int (nI b))] [] h' := by
    intro m
    induction m with
    | zero => intro b D S h' g1; omega
    | succ m ih =>
      intro b D S h' g1 g2 hd hs hDS nb
      have ho : h' 69 = _ := (nb _ (by omega) (by omega)).trans ho
      refine pb_iload_n (pc2 := 26) dX9_addMember_25 rfl rfl rfl ?_
      refine pb_bipush (x := nI 8) (pc2 := 28) dX9_addMember_26 (by decide) rfl ?_
      refine pb_icmpN_ge (tgt := 70) (pc2 := 31) dX9_addMember_28 (by decide) rfl (by omega) (by omega) (fun q => ?_) (fun q => ?_)
      · have e : b = 8 := by omega
        subst e
        first | refine pb_aload_n (pc2 := 71) dX9_addMember_70 rfl rfl rfl ?_ | refine pb_aload_nN (pc2 := 71) dX9_addMember_70 rfl rfl rfl ?_
        refine pb_dup (pc2 := 72) dX9_addMember_71 rfl rfl ?_
        refine pb_getf (pc2 := 75) flX9_26_X1 rfl dX9_addMember_72 (by first | assumption | exact hR.a rfl | exact hR.o | exact hC.o | exact hC.pal | exact hC.tub | exact hC.k _ _ rfl | exact hC.pot _ (by omega) | exact hC.are _ (by omega) | exact hC.arl _ (by omega) | exact hC.tbo _ (by omega) (by omega)) rfl rfl ?_
        refine pb_iconst (x := nI 1) (pc2 := 76) dX9_addMember_75 (by decide) rfl ?_
        refine pb_iaddN (pc2 := 77) dX9_addMember_76 rfl ?_
        refine pb_putG (fs2 := [_, _, _, _, _, _, _, _, _, _, _, _, _, _, _, _]) (pc2 := 80) flX9_26_X1 rfl dX9_addMember_77 ho (by omega) rfl rfl rfl rfl rfl (fun h_ ho n5 => ?_)
        have hd := (n5 _ (by omega)).trans hd
        have hs := (n5 _ (by omega)).trans hs
        exact pb_return dX9_addMember_80 rfl (⟨rfl, ho, (n5 _ (by omega)).trans ((nb _ (by omega) (by omega)).trans hme), (n5 _ (by omega)).trans ((nb _ (by omega) (by omega)).trans hko), ⟨D, hd, fun j hj => (hDS j hj).1⟩, ⟨S, hs, fun j hj => (hDS j hj).2⟩, fun x x1 x2 x3 x4 x5 => (n5 x x1).trans ((nb x x4 x5).trans (nb2 x x2 x3))⟩)
      · have hdr : h' 402 = _ := (nb _ (by omega) (by omega)).trans ((nb2 _ (by omega) (by omega)).trans hdr)
        have hsr : h' 403 = _ := (nb _ (by omega) (by omega)).trans ((nb2 _ (by omega) (by omega)).trans hsr)
        have hto : h' (200 + t) = _ := (nb _ (by omega) (by omega)).trans hto
        have hP' : palA A h' := hP.up (fun x hx => (nb x (by omega) (by omega)).trans (nb2 x (by omega) (by omega)))
        first | refine pb_aload_n (pc2 := 32) dX9_addMember_31 rfl rfl rfl ?_ | refine pb_aload_nN (pc2 := 32) dX9_addMember_31 rfl rfl rfl ?_
        refine pb_getf (pc2 := 35) flX9_20_X1 rfl dX9_addMember_32 (by first | assumption | exact hR.a rfl | exact hR.o | exact hC.o | exact hC.pal | exact hC.tub | exact hC.k _ _ rfl | exact hC.pot _ (by omega) | exact hC.are _ (by omega) | exact hC.arl _ (by omega) | exact hC.tbo _ (by omega) (by omega)) rfl rfl ?_
        first | refine pb_aload_n (pc2 := 36) dX9_addMember_35 rfl rfl rfl ?_ | refine pb_aload_nN (pc2 := 36) dX9_addMember_35 rfl rfl rfl ?_
        refine pb_getf (pc2 := 39) flX9_26_X1 rfl dX9_addMember_36 (by first | assumption | exact hR.a rfl | exact hR.o | exact hC.o | exact hC.pal | exact hC.tub | exact hC.k _ _ rfl | exact hC.pot _ (by omega) | exact hC.are _ (by omega) | exact hC.arl _ (by omega) | exact hC.tbo _ (by omega) (by omega)) rfl rfl ?_
        refine pb_aald (pc2 := 40) (by first | assumption | exact hR.a rfl | exact hR.o | exact hC.o | exact hC.pal | exact hC.tub | exact hC.k _ _ rfl | exact hC.pot _ (by omega) | exact hC.are _ (by omega) | exact hC.arl _ (by omega) | exact hC.tbo _ (by omega) (by omega)) dX9_addMember_39 (by decide) (by omega) (by omega) (cTo_at (by omega)) rfl ?_
        refine pb_iload_n (pc2 := 41) dX9_addMember_40 rfl rfl rfl ?_
        first | refine pb_aload_n (pc2 := 42) dX9_addMember_41 rfl rfl rfl ?_ | refine pb_aload_nN (pc2 := 42) dX9_addMember_41 rfl rfl rfl ?_
        refine pb_iload_n (pc2 := 43) dX9_addMember_42 rfl rfl rfl ?_
        refine pb_iconst (x := nI 0) (pc2 := 44) dX9_addMember_43 (by decide) rfl ?_
        refine pb_callV (pc2 := 47) (k2 := 0) (n2 := 0) mwX10_drinkAfter pb_cl8.1 iwX10_drinkAfter seX10_drinkAfter rfl mlX9_67 dX9_addMember_44 (by first | assumption | exact hR.a rfl | exact hR.o | exact hC.o | exact hC.pal | exact hC.tub | exact hC.k _ _ rfl | exact hC.pot _ (by omega) | exact hC.are _ (by omega) | exact hC.arl _ (by omega) | exact hC.tbo _ (by omega) (by omega)) (t_drinkAfter2 w hP' ht q (show 0 < 100 by omega)) (by omega) (by omega) (by omega) rfl rfl (Nat.le_of_ble_eq_true rfl) rfl (pb_kE ?_)
        refine pb_iastG (pc2 := 48) hd dX9_addMember_47 (by omega) q (by omega) rfl (fun h5 hd n5 => ?_)
        have ho := (n5 _ (by omega)).trans ho
        have hsr := (n5 _ (by omega)).trans hsr
        have hto := (n5 _ (by omega)).trans hto
        have hs := (n5 _ (by omega)).trans hs
        have hP5 : palA A h5 := hP'.up (fun x hx => n5 x (by omega))
        first | refine pb_aload_n (pc2 := 49) dX9_addMember_48 rfl rfl rfl ?_ | refine pb_aload_nN (pc2 := 49) dX9_addMember_48 rfl rfl rfl ?_
        refine pb_getf (pc2 := 52) flX9_23_X1 rfl dX9_addMember_49 (by first | assumption | exact hR.a rfl | exact hR.o | exact hC.o | exact hC.pal | exact hC.tub | exact hC.k _ _ rfl | exact hC.pot _ (by omega) | exact hC.are _ (by omega) | exact hC.arl _ (by omega) | exact hC.tbo _ (by omega) (by omega)) rfl rfl ?_
        first | refine pb_aload_n (pc2 := 53) dX9_addMember_52 rfl rfl rfl ?_ | refine pb_aload_nN (pc2 := 53) dX9_addMember_52 rfl rfl rfl ?_
        refine pb_getf (pc2 := 56) flX9_26_X1 rfl dX9_addMember_53 (by first | assumption | exact hR.a rfl | exact hR.o | exact hC.o | exact hC.pal | exact hC.tub | exact hC.k _ _ rfl | exact hC.pot _ (by omega) | exact hC.are _ (by omega) | exact hC.arl _ (by omega) | exact hC.tbo _ (by omega) (by omega)) rfl rfl ?_
        refine pb_aald (pc2 := 57) (by first | assumption | exact hR.a rfl | exact hR.o | exact hC.o | exact hC.pal | exact hC.tub | exact hC.k _ _ rfl | exact hC.pot _ (by omega) | exact hC.are _ (by omega) | exact hC.arl _ (by omega) | exact hC.tbo _ (by omega) (by omega)) dX9_addMember_56 (by decide) (by omega) (by omega) (cTo_at (by omega)) rfl ?_
        refine pb_iload_n (pc2 := 58) dX9_addMember_57 rfl rfl rfl ?_
        first | refine pb_aload_n (pc2 := 59) dX9_addMember_58 rfl rfl rfl ?_ | refine pb_aload_nN (pc2 := 59) dX9_addMember_58 rfl rfl rfl ?_
        refine pb_iload_n (pc2 := 60) dX9_addMember_59 rfl rfl rfl ?_
        refine pb_callV (pc2 := 63) (k2 := 0) (n2 := 0) mwX10_scatterOf pb_cl8.1 iwX10_scatterOf seX10_scatterOf rfl mlX9_71 dX9_addMember_60 (by first | assumption | exact hR.a rfl | exact hR.o | exact hC.o | exact hC.pal | exact hC.tub | exact hC.k _ _ rfl | exact hC.pot _ (by omega) | exact hC.are _ (by omega) | exact hC.arl _ (by omega) | exact hC.tbo _ (by omega) (by omega)) (t_scatterOf2 w hP5 ht q) (by omega) (by omega) (by omega) rfl rfl (Nat.le_of_ble_eq_true rfl) rfl (pb_kE ?_)
        refine pb_iastG (pc2 := 64) hs dX9_addMember_63 (by omega) q (by omega) rfl (fun h6 hs n6 => ?_)
        have hd := (n6 _ (by omega)).trans hd
        refine pb_iincP (c0 := 1) (lv2 := [_, _, _, _]) (pc2 := 67) dX9_addMember_64 rfl (by decide) rfl rfl ?_
        refine pb_goto (tgt := 25) dX9_addMember_67 (by decide) ?_
        refine ih (b + 1) _ _ h6 (by omega) (by omega) hd hs (fun j hj => ?_) (fun x x1 x2 => (n6 x x2).trans ((n5 x x1).trans (nb x x1 x2)))
        by_cases e : j = b
        · rw [e, pb_un_self, pb_un_self]; exact ⟨rfl, rfl⟩
        · rw [pb_un_ne _ _ e, pb_un_ne _ _ e]; exact hDS j (by omega)
  refine pb_iconst (x := nI 0) (pc2 := 24) dX9_addMember_23 (by decide) rfl ?_
  refine pb_istore_n (lv2 := [_, _, _, _]) (pc2 := 25) dX9_addMember_24 rfl (by decide) rfl rfl ?_
  exact loop 9 0 D S h2 (by omega) (by omega) hd hs (fun j hj => by omega) (fun _ _ _ => rfl)
set_option maxRecDepth 10000 in
theorem t_goC (w : pb_WF A) {l d s n sz0 k0 : Nat} {σ : Nat → Nat} (hl : l < 4) (hd30 : d ≤ 30000) (h24 : A 24 0 ≤ 6) (hs : s < 4096) (hst : ∀ t, A 1 0 ≤ t → s.testBit t = false) (hn1 : 1 ≤ n) (hn : n ≤ 8) (hST : stC A d σ sz0 k0 h0 h) (hX : exC A h) (hL : pb_LT A l h) (hP : palA A h) : pb_T Z mX9_goThrough 7 0 0 [.ref 69, .ref 61, .ref 62, .int (nI s), .int (nI n)] h (fun v h' => v = none ∧ ∃ sz k, stC A d ((en_l s (A 1 0) 0 n (fun _ => 0)).foldl (fw_st A l d) σ) sz k h0 h') := by
  have htt := w.tubes
  have ho := hST.2.1
  obtain ⟨Mr, hme⟩ := hST.1.s 400 12 rfl
  obtain ⟨K, hko⟩ := hST.1.s 401 12 rfl
  have hrow : ∀ i, i < 12 → cScr 8 (h (420 + i)) ∧ cScr 8 (h (440 + i)) := fun i hi => ⟨hST.1.s _ 8 (cS_8 (by omega)), hST.1.s _ 8 (cS_8 (by omega))⟩
  refine pb_T.of pnX9_goThrough (Nat.le_of_ble_eq_true rfl) (lv := [some (.ref 69), some (.ref 61), some (.ref 62), some (.int (nI s)), some (.int (nI n)), none, none]) rfl ?_
  first | refine pb_aload_n (pc2 := 1) dX9_goThrough_0 rfl rfl rfl ?_ | refine pb_aload_nN (pc2 := 1) dX9_goThrough_0 rfl rfl rfl ?_
  refine pb_iconst (x := nI 0) (pc2 := 2) dX9_goThrough_1 (by decide) rfl ?_
  refine pb_putG (fs2 := [_, _, _, _, _, _, _, _, _, _, _, _, _, _, _, _]) (pc2 := 5) flX9_26_X1 rfl dX9_goThrough_2 ho (by omega) rfl rfl rfl rfl rfl (fun h_ ho n1 => ?_)
  have hme := (n1 _ (by omega)).trans hme
  have hko := (n1 _ (by omega)).trans hko
  have hrow1 : ∀ i, i < 12 → cScr 8 (h_ (420 + i)) ∧ cScr 8 (h_ (440 + i)) := fun i hi => by
    rw [n1 _ (by omega), n1 _ (by omega)]; exact hrow i hi
  have loop : ∀ (q t : Nat) (Mr K : Nat → Nat) (h' : pb_H) (o6 : Option Value), 12 - t < q → t ≤ 12 → h' 69 = some (.inr (.inr (1, cCh (em_c s t) k0 413 (A 24 0) (2 ^ A 24 0 - 1) d))) → h' 400 = some (.inl (0, 12, fun j => nI (Mr j))) → h' 401 = some (.inl (0, 12, fun j => nI (K j))) → (∀ u, u < t → s.testBit u = true → Mr (em_c s u) = u ∧ K (em_c s u) = A 2 u ∧ cRow 8 (fun b => A 7 (8 * u + b)) (h' (420 + em_c s u)) ∧ cRow 8 (fun b => A 8 (8 * u + b)) (h' (440 + em_c s u))) → (∀ i, i < 12 → cScr 8 (h' (420 + i)) ∧ cScr 8 (h' (440 + i))) → (∀ x, x ≠ 69 → x ≠ 400 → x ≠ 401 → (x < 420 ∨ 432 ≤ x) → (x < 440 ∨ 452 ≤ x) → h' x = h x) → pb_S Z mX9_goThrough 7 0 0 (fun v h' => v = none ∧ ∃ sz k, stC A d ((en_l s (A 1 0) 0 n (fun _ => 0)).foldl (fw_st A l d) σ) sz k h0 h') 8 [some (.ref 69), some (.ref 61), some (.ref 62), some (.int (nI s)), some (.int (nI n)), some (.int (nI t)), o6] [] h' := by
    intro q
    induction q with
    | zero => intro t Mr K h' o6 g1; omega
    | succ q ih =>
      intro t Mr K h' o6 g1 g2 ho hme hko hmem hrow nb
      have hle := em_c_le s t
      have hP' : palA A h' := hP.up (fun x hx => nb x (by omega) (by omega) (by omega) (by omega) (by omega))
      have h61 := hP'.1
      have es : em_c s (t + 1) = em_c s t + pb_bit s t := rfl
      have skip : pb_bit s t = 0 → ∀ o6, t < 12 → pb_S Z mX9_goThrough 7 0 0 (fun v h' => v = none ∧ ∃ sz k, stC A d ((en_l s (A 1 0) 0 n (fun _ => 0)).foldl (fw_st A l d) σ) sz k h0 h') 46 [some (.ref 69), some (.ref 61), some (.ref 62), some (.int (nI s)), some (.int (nI n)), some (.int (nI t)), o6] [] h' := by
        intro hb o6 ht12
        refine pb_iincP (c0 := 1) (lv2 := [_, _, _, _, _, _, _]) (pc2 := 49) dX9_goThrough_46 rfl (by decide) rfl rfl ?_
        refine pb_goto (tgt := 8) dX9_goThrough_49 (by decide) ?_
        rw [hb, Nat.add_zero] at es
        refine ih (t + 1) Mr K h' o6 (by omega) (by omega) (by rw [es]; exact ho) hme hko (fun u hu hb2 => ?_) hrow nb
        by_cases e : u = t
        · rw [e, pb_bit_0.mp hb] at hb2; cases hb2
        · exact hmem u (by omega) hb2
      refine pb_iload (pc2 := 10) dX9_goThrough_8 rfl rfl ?_
      refine pb_bipush (x := nI 12) (pc2 := 12) dX9_goThrough_10 (by decide) rfl ?_
      refine pb_icmpN_ge (tgt := 52) (pc2 := 15) dX9_goThrough_12 (by decide) rfl (by omega) (by omega) (fun c => ?_) (fun c => ?_)
      · have e : t = 12 := by omega
        subst e
        have hsz : em_c s 12 = em_c s (A 1 0) := pb_sum_ext htt (fun i i1 i2 => pb_bit_0.mpr (hst i i1))
        rw [hsz] at ho
        have hm : ∀ u, u < A 1 0 → s.testBit u = true → Mr (em_c s u) = u := fun u hu hb => (hmem u (by omega) hb).1
        have hsur := em_sur (s := s)
        have hmm : mmI (A 1 0) (em_c s (A 1 0)) Mr := by
          refine ⟨fun i j hij hj => ?_, fun i hi => ?_⟩
          · obtain ⟨u, u1, u2, rfl⟩ := hsur (A 1 0) i (by omega)
            obtain ⟨v, v1, v2, rfl⟩ := hsur (A 1 0) j hj
            rw [hm u u1 u2, hm v v1 v2]
            apply Nat.lt_of_not_le
            intro z
            have := em_c_mono (s := s) z
            omega
          · obtain ⟨u, u1, u2, rfl⟩ := hsur (A 1 0) i hi
            rw [hm u u1 u2]; exact u1
        have hszl : em_c s (A 1 0) ≤ 12 := Nat.le_trans (em_c_le s _) htt
        have hsc : ∀ a m, cS a = some m → cScr m (h' a) := fun a m e => by
          by_cases e1 : a = 400
          · subst e1
            have en : m = 12 := (Option.some.inj e).symm
            subst en
            exact ⟨Mr, hme⟩
          · by_cases e2 : a = 401
            · subst e2
              have en : m = 12 := (Option.some.inj e).symm
              subst en
              exact ⟨K, hko⟩
            · by_cases e3 : 420 ≤ a ∧ a < 432
              · have en : m = 8 := Option.some.inj (e.symm.trans (cS_8 (by omega)))
                subst en
                have := (hrow (a - 420) (by omega)).1
                rw [show 420 + (a - 420) = a by omega] at this
                exact this
              · by_cases e4 : 440 ≤ a ∧ a < 452
                · have en : m = 8 := Option.some.inj (e.symm.trans (cS_8 (by omega)))
                  subst en
                  have := (hrow (a - 440) (by omega)).2
                  rw [show 440 + (a - 440) = a by omega] at this
                  exact this
                · rw [nb a (cS_ne e rfl) e1 e2 (by omega) (by omega)]; exact hST.1.s a m e
        have hST1 : stC A d σ (em_c s (A 1 0)) k0 h0 h' := hST.g ho hsc (fun x x1 x2 => nb x x2 (fun z => by rw [z] at x1; cases x1) (fun z => by rw [z] at x1; cases x1) (by
          apply Classical.byContradiction
          intro z
          rw [cS_8 (by omega)] at x1
          cases x1) (by
          apply Classical.byContradiction
          intro z
          rw [cS_8 (by omega)] at x1
          cases x1))
        have nbz := nb
        have hS1 : sbC A l (em_c s (A 1 0)) Mr h' := by
          refine ⟨hST1.1.k _ _ rfl, hST1.1.k _ _ rfl, hST1.1.k _ _ rfl, hST1.1.k _ _ rfl, hST1.1.k _ _ rfl, hST1.1.k _ _ rfl, hL.up (fun x x1 x2 => nbz x (by omega) (by omega) (by omega) (by omega) (by omega)), hme, ⟨K, hko, fun i hi => ?_⟩, fun i hi => ?_, fun i hi => ?_⟩
          · obtain ⟨u, u1, u2, rfl⟩ := hsur (A 1 0) i hi
            obtain ⟨m1, m2, m3, m4⟩ := hmem u (by omega) u2
            rw [m1, m2]
          · obtain ⟨u, u1, u2, rfl⟩ := hsur (A 1 0) i hi
            obtain ⟨m1, m2, m3, m4⟩ := hmem u (by omega) u2
            rw [m1]; exact m3
          · obtain ⟨u, u1, u2, rfl⟩ := hsur (A 1 0) i hi
            obtain ⟨m1, m2, m3, m4⟩ := hmem u (by omega) u2
            rw [m1]; exact m4
        have hX1 : exC A h' := by
          refine ⟨(nb _ (by omega) (by omega) (by omega) (by omega) (by omega)).trans hX.1, fun i hi => ?_⟩
          rw [nb _ (by omega) (by omega) (by omega) (by omega) (by omega)]
          exact hX.2 i hi
        obtain ⟨C, hc⟩ := hST1.1.s 404 4 rfl
        obtain ⟨M, ha⟩ := hST1.1.s 405 4 rfl
        have hz0 : cRow 8 (fun b => pb_dk A (mxP Mr C M 0) b 0) (h' (460 + 0)) := cRow_same (hST1.1.zer 460 (by omega)) (fun b hb => by
          show pb_sum (A 1 0) (fun t => 0 * _) = 0
          rw [pb_sum_congr (g := fun _ => 0) _ (fun t _ => Nat.zero_mul _), pb_sum_const, Nat.mul_zero])
        have hz1 : cRow 8 (fun b => pb_sc A (mxP Mr C M 0) b) (h' (464 + 0)) := cRow_same (hST1.1.zer 464 (by omega)) (fun b hb => by
          show pb_sum (A 1 0) (fun t => 0 * _) = 0
          rw [pb_sum_congr (g := fun _ => 0) _ (fun t _ => Nat.zero_mul _), pb_sum_const, Nat.mul_zero])
        first | refine pb_aload_n (pc2 := 53) dX9_goThrough_52 rfl rfl rfl ?_ | refine pb_aload_nN (pc2 := 53) dX9_goThrough_52 rfl rfl rfl ?_
        first | refine pb_aload_n (pc2 := 54) dX9_goThrough_53 rfl rfl rfl ?_ | refine pb_aload_nN (pc2 := 54) dX9_goThrough_53 rfl rfl rfl ?_
        refine pb_iconst (x := nI 0) (pc2 := 55) dX9_goThrough_54 (by decide) rfl ?_
        refine pb_iconst (x := nI 0) (pc2 := 56) dX9_goThrough_55 (by decide) rfl ?_
        refine pb_iload (pc2 := 58) dX9_goThrough_56 rfl rfl ?_
        refine pb_callV (pc2 := 61) (k2 := 0) (n2 := 0) mwX9_spread pb_cl1.1 iwX9_spread sxX1_spread rfl mlX9_58 dX9_goThrough_58 (by first | assumption | exact hR.a rfl | exact hR.o | exact hC.o | exact hC.pal | exact hC.tub | exact hC.k _ _ rfl | exact hC.pot _ (by omega) | exact hC.are _ (by omega) | exact hC.arl _ (by omega) | exact hC.tbo _ (by omega) (by omega)) (t_spreadC w hl hd30 h24 hszl hmm hn 0 n σ C M k0 h' hn1 hST1 hX1 hS1 hc ha ⟨fun i hi => by omega, fun i j hi hj => by omega, fun i hi => by omega, Nat.zero_le _⟩ (by show pb_sum 12 (fun _ => 0) + n = n; rw [pb_sum_const]; omega) hz0 hz1) (by omega) (by omega) (by omega) rfl rfl (Nat.le_of_ble_eq_true rfl) rfl (fun v h2 q2 _ => ?_)
        obtain ⟨rfl, k2, C2, M2, hST2, -⟩ := q2
        have efin : em_l Mr (em_c s (A 1 0) - 0) 0 n (mxP Mr C M 0) = en_l s (A 1 0) 0 n (fun _ => 0) := (em_en hm (A 1 0) 0 n (fun _ => 0) (by omega)).symm
        rw [efin] at hST2
        exact pb_return dX9_goThrough_61 rfl (⟨rfl, _, k2, hST2⟩)
      · first | refine pb_aload_n (pc2 := 16) dX9_goThrough_15 rfl rfl rfl ?_ | refine pb_aload_nN (pc2 := 16) dX9_goThrough_15 rfl rfl rfl ?_
        refine pb_iload (pc2 := 18) dX9_goThrough_16 rfl rfl ?_
        refine pb_callV (pc2 := 21) (k2 := 0) (n2 := 0) mwX8_at pb_cl7.1 iwX8_at seX8_at rfl mlX9_48 dX9_goThrough_18 (by first | assumption | exact hR.a rfl | exact hR.o | exact hC.o | exact hC.pal | exact hC.tub | exact hC.k _ _ rfl | exact hC.pot _ (by omega) | exact hC.are _ (by omega) | exact hC.arl _ (by omega) | exact hC.tbo _ (by omega) (by omega)) (t_at2 w hP' (nI t)) (by omega) (by omega) (by omega) rfl rfl (Nat.le_of_ble_eq_true rfl) rfl (pb_kRef (fun t' ht' e => ?_) (fun q2 => ?_))
        · have et : t = t' := nI_inj (by omega) (by omega) e
          subst et
          first | refine pb_astore (lv2 := [_, _, _, _, _, _, _]) (pc2 := 23) dX9_goThrough_21 (by decide) rfl rfl ?_ | refine pb_astoreN (lv2 := [_, _, _, _, _, _, _]) (pc2 := 23) dX9_goThrough_21 (by decide) rfl rfl ?_
          first | refine pb_aload (pc2 := 25) dX9_goThrough_23 rfl rfl ?_ | refine pb_aloadN (pc2 := 25) dX9_goThrough_23 rfl rfl ?_
          refine pb_ifnull (pc2 := 28) dX9_goThrough_25 rfl ?_
          refine pb_iload_n (pc2 := 29) dX9_goThrough_28 rfl rfl rfl ?_
          refine pb_iload (pc2 := 31) dX9_goThrough_29 rfl rfl ?_
          refine pb_ishrN (pc2 := 32) dX9_goThrough_31 (by omega) (by omega) rfl ?_
          refine pb_iconst (x := nI 1) (pc2 := 33) dX9_goThrough_32 (by decide) rfl ?_
          refine pb_iandB (pc2 := 34) dX9_goThrough_33 rfl ?_
          refine pb_iconst (x := nI 1) (pc2 := 35) dX9_goThrough_34 (by decide) rfl ?_
          have hbl := pb_bit_le s t
          refine pb_icmpN_ne (tgt := 46) (pc2 := 38) dX9_goThrough_35 (by decide) rfl (by omega) (by omega) (fun c2 => ?_) (fun c2 => ?_)
          · exact skip (by omega) _ c
          · have hle2 : em_c s t < 12 := by have := em_c_le s t; omega
            obtain ⟨r1, r2⟩ := hrow (em_c s t) hle2
            have hk2 := hST.1
            first | refine pb_aload_n (pc2 := 39) dX9_goThrough_38 rfl rfl rfl ?_ | refine pb_aload_nN (pc2 := 39) dX9_goThrough_38 rfl rfl rfl ?_
            refine pb_iload (pc2 := 41) dX9_goThrough_39 rfl rfl ?_
            first | refine pb_aload (pc2 := 43) dX9_goThrough_41 rfl rfl ?_ | refine pb_aloadN (pc2 := 43) dX9_goThrough_41 rfl rfl ?_
            refine pb_callV (pc2 := 46) (k2 := 0) (n2 := 0) mwX9_addMember pb_cl1.1 iwX9_addMember sxX1_addMember rfl mlX9_54 dX9_goThrough_43 (by first | assumption | exact hR.a rfl | exact hR.o | exact hC.o | exact hC.pal | exact hC.tub | exact hC.k _ _ rfl | exact hC.pot _ (by omega) | exact hC.are _ (by omega) | exact hC.arl _ (by omega) | exact hC.tbo _ (by omega) (by omega)) (t_addMC w hP' ht' ho ((nb _ (by omega) (by omega) (by omega) (by omega) (by omega)).trans (hST.1.k _ _ rfl)) ((nb _ (by omega) (by omega) (by omega) (by omega) (by omega)).trans (hST.1.k _ _ rfl)) hme hko r1 r2 hle2) (by omega) (by omega) (by omega) rfl rfl (Nat.le_of_ble_eq_true rfl) rfl (fun v h2 q3 _ => ?_)
            obtain ⟨rfl, ho, hme, hko, hd2, hs2, n2⟩ := q3
            refine pb_iincP (c0 := 1) (lv2 := [_, _, _, _, _, _, _]) (pc2 := 49) dX9_goThrough_46 rfl (by decide) rfl rfl ?_
            refine pb_goto (tgt := 8) dX9_goThrough_49 (by decide) ?_
            rw [c2] at es
            refine ih (t + 1) _ _ h2 _ (by omega) (by omega) (by rw [es]; exact ho) hme hko (fun u hu hb2 => ?_) (fun i hi => ?_) (fun x x1 x2 x3 x4 x5 => (n2 x x1 x2 x3 (by omega) (by omega)).trans (nb x x1 x2 x3 x4 x5))
            · by_cases e : u = t
              · subst e
                rw [pb_un_self, pb_un_self]
                exact ⟨rfl, rfl, hd2, hs2⟩
              · have hlt : em_c s u < em_c s t := by
                  have e5 : em_c s (u + 1) = em_c s u + pb_bit s u := rfl
                  rw [pb_bit_1.mpr hb2] at e5
                  have := em_c_mono (s := s) (show u + 1 ≤ t by omega)
                  omega
                obtain ⟨m1, m2, m3, m4⟩ := hmem u (by omega) hb2
                rw [pb_un_ne _ _ (by omega), pb_un_ne _ _ (by omega), n2 _ (by omega) (by omega) (by omega) (by omega) (by omega), n2 _ (by omega) (by omega) (by omega) (by omega) (by omega)]
                exact ⟨m1, m2, m3, m4⟩
            · by_cases e : i = em_c s t
              · rw [e]; exact ⟨cRow_scr hd2, cRow_scr hs2⟩
              · rw [n2 _ (by omega) (by omega) (by omega) (by omega) (by omega), n2 _ (by omega) (by omega) (by omega) (by omega) (by omega)]
                exact hrow i hi
        · have hb : pb_bit s t = 0 := pb_bit_0.mpr (hst t (Nat.le_of_not_lt (fun z => q2 (pb_isT_mk w z))))
          first | refine pb_astore (lv2 := [_, _, _, _, _, _, _]) (pc2 := 23) dX9_goThrough_21 (by decide) rfl rfl ?_ | refine pb_astoreN (lv2 := [_, _, _, _, _, _, _]) (pc2 := 23) dX9_goThrough_21 (by decide) rfl rfl ?_
          first | refine pb_aload (pc2 := 25) dX9_goThrough_23 rfl rfl ?_ | refine pb_aloadN (pc2 := 25) dX9_goThrough_23 rfl rfl ?_
          refine pb_ifnullN (tgt := 46) dX9_goThrough_25 (by decide) ?_
          exact skip hb _ c
  refine pb_iconst (x := nI 0) (pc2 := 6) dX9_goThrough_5 (by decide) rfl ?_
  refine pb_istore (lv2 := [_, _, _, _, _, _, _]) (pc2 := 8) dX9_goThrough_6 (by decide) rfl rfl ?_
  exact loop 13 0 Mr K _ _ (by omega) (by omega) ho hme hko (fun u hu => by omega) hrow1 (fun x x1 x2 x3 x4 x5 => n1 x x1)
end PB41C

