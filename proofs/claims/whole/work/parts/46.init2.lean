/-! THE TWO OBJECTS AT THEIR START -/
theorem cTo_up (b i : Nat) : (fun j => if j = i then some (b + i) else cTo b i j) = cTo b (i + 1) := by
  funext j
  unfold cTo
  by_cases e : j = i
  · rw [if_pos e, if_pos (by omega), e]
  · rw [if_neg e]
    by_cases e2 : j < i
    · rw [if_pos e2, if_pos (by omega)]
    · rw [if_neg e2, if_neg (by omega)]
theorem cTo_0 (b : Nat) : cTo b 0 = fun _ => none := by
  funext j
  unfold cTo
  rw [if_neg (by omega)]
theorem row_eq {n : Nat} {F G : Nat → Nat} (h : ∀ j, F j = G j) : (some (.inl (0, n, fun j => nI (F j))) : Option pb_C) = some (.inl (0, n, fun j => nI (G j))) := by rw [funext h]
theorem sum_0 (n : Nat) : pb_sum n (fun _ => 0) = 0 := by rw [pb_sum_const, Nat.mul_zero]
theorem wf_0 : pb_WF sp_0 := by
  refine ⟨Nat.zero_le _, Nat.zero_le _, fun t ht => absurd ht (Nat.not_lt_zero t), fun t ht => ?_, fun t _ ht => ⟨?_, fun k _ => rfl⟩, fun t b ht => absurd ht (Nat.not_lt_zero t), fun i hi => ?_, fun i hi => ?_, fun p hp => ?_, fun a ha => ⟨?_, Nat.zero_le _⟩, fun a i ha hi => absurd hi (Nat.not_lt_zero i), fun i hi => ?_, Nat.zero_le _, fun t ht => Nat.zero_le _, Nat.zero_le _, Or.inr rfl, fun i hi => Nat.zero_le _, Nat.zero_le _, fun i hi => Nat.zero_le _⟩
  · show 0 + pb_sum 10 (fun _ => 0) + 0 + 0 ≤ 9999
    rw [sum_0]; omega
  · show 0 + pb_sum 10 (fun _ => 0) + 0 + 0 = 0
    rw [sum_0]
  · show (if i < 32 then 10 else 0) ≤ 99
    split <;> omega
  · show (if (5 ≤ i ∧ i < 8) ∨ (11 ≤ i ∧ i < 14) ∨ (16 ≤ i ∧ i < 19) then 1 else 0) ≤ 99
    split <;> omega
  · show pb_sum 12 (fun _ => 0) ≤ 999
    rw [sum_0]; omega
  · show (if a < 10 then 9000 else 0) ≤ 10000
    split <;> omega
  · show (if i < 3 then 5000 else 0) ≤ 10000
    split <;> omega
theorem k_init {h0 h' : pb_H} (low : ∀ b, b < 60 → h' b = h0 b) (hk : ∀ a c, cK a = some c → h' a = some c) (hs : ∀ a n, cS a = some n → cScr n (h' a)) (ho : h' 60 = some (.inr (.inr (9, [.ref 61, .ref 62, .ref 63, .ref 64, .ref 65, .ref 66, .ref 67, .ref 68, .ref 69, .ref 70, .int (nI 0), .int (nI 0)])))) (pal : h' 61 = some (.inr (.inr (7, [.ref 71, .int (nI 0)])))) (wan : cRow 3 (fun _ => 5000) (h' 65)) (kpr : ∀ i, i < 6 → h' (120 + i) = some (.inl (0, 3, fun _ => nI 0))) (tub : h' 71 = some (.inr (.inl (0, 12, fun _ => none)))) (lmr : ∀ i, i < 4 → cRow 8 (fun _ => 10) (h' (80 + i))) (sgr : ∀ i, i < 3 → cRow 8 (fun b => sp_0 10 (8 * i + b)) (h' (84 + i))) (shw : ∃ F : Nat → Int32, h' 76 = some (.inl (1, 8, F))) (pot : ∀ p, p < 10 → h' (100 + p) = some (.inr (.inr (6, cMx (130 + p) 0))) ∧ h' (130 + p) = some (.inl (0, 12, fun _ => nI 0))) (are : ∀ a, a < 10 → h' (110 + a) = some (.inr (.inr (0, [.ref (140 + a), .int (nI 0), .int (nI 9000)]))) ∧ h' (140 + a) = some (.inr (.inl (3, 10, fun _ => none)))) (tbn : ∀ x, 200 ≤ x → x < 300 → h' x = none) (lyn : ∀ x, 1000 ≤ x → h' x = none) (mat : h' 68 = some (.inr (.inr (5, cMt 0 0 0 0 0)))) (bst : cRow 12 (fun _ => 0) (h' 309)) (cho : h' 69 = some (.inr (.inr (1, cCh 0 0 411 0 0 0)))) (c411 : h' 411 = some (.inl (0, 0, fun _ => nI 0))) (c413 : h' 413 = none) (gla : h' 70 = some (.inr (.inr (2, cGl 0 0)))) (glb : h' 500 = some (.inl (0, 3, fun _ => nI 0))) (zer : ∀ a, a = 360 ∨ a = 364 ∨ a = 460 ∨ a = 464 → cRow 8 (fun _ => 0) (h' a)) : pb_CF sp_0 h0 h' := by
  have hn0 : ∀ t, ¬ t < sp_0 1 0 := fun t => Nat.not_lt_zero t
  have hn13 : ∀ a i, ¬ i < sp_0 13 a := fun a i => Nat.not_lt_zero i
  exact pb_CF.mk low hk hs ho pal (cRow_same wan (fun i hi => by show (if i < 3 then 5000 else 0) = 5000; rw [if_pos hi])) (fun i hi => ⟨fun _ => 0, kpr i hi, fun _ _ => rfl⟩) (by rw [tub]; show _ = (some (.inr (.inl (0, 12, cTo 200 0))) : Option pb_C); rw [cTo_0]) (fun i hi => cRow_same (lmr i hi) (fun b hb => by show (if 8 * i + b < 32 then 10 else 0) = 10; rw [if_pos (by omega)])) sgr shw (fun p hp => by rw [(pot p hp).1]; show _ = (some (.inr (.inr (6, cMx (130 + p) (pb_sum 12 (fun _ => 0))))) : Option pb_C); rw [sum_0]) (fun p hp => ⟨fun _ => 0, (pot p hp).2, fun _ _ => rfl⟩) (fun a ha => by rw [(are a ha).1]; show _ = (some (.inr (.inr (0, [.ref (140 + a), .int (nI 0), .int (nI (if a < 10 then 9000 else 0))]))) : Option pb_C); rw [if_pos ha]) (fun a ha => by rw [(are a ha).2]; show _ = (some (.inr (.inl (3, 10, cTo (1000 + 10 * a) 0))) : Option pb_C); rw [cTo_0]) (fun t _ ht => absurd ht (hn0 t)) (fun t _ ht => absurd ht (hn0 t)) (fun t _ ht => absurd ht (hn0 t)) (fun t _ ht => ⟨tbn _ (by omega) (by omega), tbn _ (by omega) (by omega), tbn _ (by omega) (by omega)⟩) (fun a i _ _ hi => absurd hi (hn13 a i)) (fun a i _ _ hi => absurd hi (hn13 a i)) (fun a i _ _ _ q _ => lyn _ (by omega)) ⟨0, 0, 0, mat⟩ bst ⟨0, 0, 411, 0, 0, 0, cho, Or.inl ⟨rfl, c411, c413⟩⟩ ⟨0, gla⟩ ⟨fun _ => 0, glb, fun i _ h3 _ => absurd h3 (by show ¬ 4294967295 ≤ 3; omega)⟩ zer
section PB46
variable {Z : pb_Z} {h h0 : pb_H}
set_option maxRecDepth 10000 in
theorem i_box (ho : h 60 = some (.inr (.inr (9, [.null, .null, .null, .null, .null, .null, .null, .null, .null, .null, .int (nI 0), .int (nI 0)])))) (hn : ∀ x, 61 ≤ x → h x = none) : pb_T Z mX11_init 3 198 1441 [.ref 60] h (fun v h' => v = none ∧ pb_CF sp_0 h h') := by
  refine pb_T.of pnX11_init (Nat.le_of_ble_eq_true rfl) (lv := [some (.ref 60), none]) rfl ?_
  refine pb_aload_n (pc2 := 1) dX11_init_0 rfl rfl rfl ?_
  refine pb_objI (pc2 := 4) rfl olX11 dX11_init_1 (by omega) (Nat.le_of_ble_eq_true rfl) rfl ?_
  refine pb_aload_n (pc2 := 5) dX11_init_4 rfl rfl rfl ?_
  refine pb_newG (61) (fs := [.null, .int (nI 0)]) (k2 := 197) (n2 := 1439) (pc2 := 8) pb_cl7 rfl klX11_9 iaX8 iiX8 dX11_init_5 ((hn _ (by omega))) (by omega) rfl rfl (by omega) (by omega) rfl (fun h_ hx n1 => ?_)
  have ho := (n1 _ (by omega)).trans ho
  refine pb_dup (pc2 := 9) dX11_init_8 rfl rfl ?_
  refine pb_callIN (pc2 := 12) (k2 := 196) (n2 := 1427) mwX8_init rfl rfl iwX8_init rfl mnX11_11 dX11_init_9 (i_pal hx (fun x x1 x2 => ((n1 x (by omega)).trans (hn x (by omega))))) (by omega) (by omega) (by omega) rfl rfl (Nat.le_of_ble_eq_true rfl) rfl (fun v h_ q _ => ?_)
  obtain ⟨rfl, f61, f71, n2⟩ := q
  have ho := (n2 _ (by omega)).trans ho
  refine pb_putFG (fs2 := [_, _, _, _, _, _, _, _, _, _, _, _]) (pc2 := 15) flX11_12_X11 rfl dX11_init_12 ho (by omega) rfl rfl rfl rfl rfl rfl rfl (fun h_ ho n3 => ?_)
  refine pb_aload_n (pc2 := 16) dX11_init_15 rfl rfl rfl ?_
  refine pb_newG (62) (fs := [.null, .null, .null, .null, .null]) (k2 := 195) (n2 := 1422) (pc2 := 19) pb_cl4 rfl klX11_16 iaX4 iiX4 dX11_init_16 (((n3 _ (by omega)).trans ((n2 _ (by omega)).trans ((n1 _ (by omega)).trans (hn _ (by omega)))))) (by omega) rfl rfl (by omega) (by omega) rfl (fun h_ hx n4 => ?_)
  have ho := (n4 _ (by omega)).trans ho
  refine pb_dup (pc2 := 20) dX11_init_19 rfl rfl ?_
  refine pb_callI (pc2 := 23) (k2 := 180) (n2 := 1321) mwX4_init rfl rfl iwX4_init rfl mlX11_18 dX11_init_20 (i_light hx (fun x x1 x2 => ((n4 x (by omega)).trans ((n3 x (by omega)).trans ((n2 x (by omega)).trans ((n1 x (by omega)).trans (hn x (by omega)))))))) (by omega) (by omega) (by omega) rfl rfl (Nat.le_of_ble_eq_true rfl) rfl (fun v h_ q _ => ?_)
  obtain ⟨rfl, f62, f72, f73, f74, glm, gsg, gwt, f75, f76, n5⟩ := q
  have ho := (n5 _ (by omega)).trans ho
  refine pb_putFG (fs2 := [_, _, _, _, _, _, _, _, _, _, _, _]) (pc2 := 26) flX11_19_X11 rfl dX11_init_23 ho (by omega) rfl rfl rfl rfl rfl rfl rfl (fun h_ ho n6 => ?_)
  refine pb_aload_n (pc2 := 27) dX11_init_26 rfl rfl rfl ?_
  refine pb_bipush (x := nI 10) (pc2 := 29) dX11_init_27 (by decide) rfl ?_
  refine pb_anewaG (kd := 1) (63) (k2 := 179) (n2 := 1311) (pc2 := 32) dX11_init_29 rfl (by decide) rfl klX11_23 ((n6 _ (by omega)).trans ((n5 _ (by omega)).trans ((n4 _ (by omega)).trans ((n3 _ (by omega)).trans ((n2 _ (by omega)).trans ((n1 _ (by omega)).trans (hn _ (by omega)))))))) (by omega) (by omega) (by omega) (by omega) rfl (fun h_ f63 n7 => ?_)
  have ho := (n7 _ (by omega)).trans ho
  refine pb_putFG (fs2 := [_, _, _, _, _, _, _, _, _, _, _, _]) (pc2 := 35) flX11_25_X11 rfl dX11_init_32 ho (by omega) rfl rfl rfl rfl rfl rfl rfl (fun h_ ho n8 => ?_)
  refine pb_aload_n (pc2 := 36) dX11_init_35 rfl rfl rfl ?_
  refine pb_bipush (x := nI 10) (pc2 := 38) dX11_init_36 (by decide) rfl ?_
  refine pb_anewaG (kd := 2) (64) (k2 := 178) (n2 := 1301) (pc2 := 41) dX11_init_38 rfl (by decide) rfl klX11_29 ((n8 _ (by omega)).trans ((n7 _ (by omega)).trans ((n6 _ (by omega)).trans ((n5 _ (by omega)).trans ((n4 _ (by omega)).trans ((n3 _ (by omega)).trans ((n2 _ (by omega)).trans ((n1 _ (by omega)).trans (hn _ (by omega)))))))))) (by omega) (by omega) (by omega) (by omega) rfl (fun h_ f64 n9 => ?_)
  have ho := (n9 _ (by omega)).trans ho
  refine pb_putFG (fs2 := [_, _, _, _, _, _, _, _, _, _, _, _]) (pc2 := 44) flX11_31_X11 rfl dX11_init_41 ho (by omega) rfl rfl rfl rfl rfl rfl rfl (fun h_ ho n10 => ?_)
  refine pb_aload_n (pc2 := 45) dX11_init_44 rfl rfl rfl ?_
  refine pb_iconst (x := nI 3) (pc2 := 46) dX11_init_45 (by decide) rfl ?_
  refine pb_newaG (65) (k2 := 177) (n2 := 1298) (pc2 := 48) dX11_init_46 ⟨by decide, rfl⟩ pb_aI ((n10 _ (by omega)).trans ((n9 _ (by omega)).trans ((n8 _ (by omega)).trans ((n7 _ (by omega)).trans ((n6 _ (by omega)).trans ((n5 _ (by omega)).trans ((n4 _ (by omega)).trans ((n3 _ (by omega)).trans ((n2 _ (by omega)).trans ((n1 _ (by omega)).trans (hn _ (by omega)))))))))))) (by omega) (by omega) (by omega) (by omega) rfl (fun h_ f65 n11 => ?_)
  have ho := (n11 _ (by omega)).trans ho
  refine pb_dup (pc2 := 49) dX11_init_48 rfl rfl ?_
  refine pb_iconst (x := nI 0) (pc2 := 50) dX11_init_49 (by decide) rfl ?_
  refine pb_sipush (x := nI 5000) (pc2 := 53) dX11_init_50 (by decide) rfl ?_
  refine pb_iastG (pc2 := 54) (F := fun _ => 0) f65 dX11_init_53 (by omega) (by omega) (by omega) rfl (fun h_ f65 n12 => ?_)
  have ho := (n12 _ (by omega)).trans ho
  refine pb_dup (pc2 := 55) dX11_init_54 rfl rfl ?_
  refine pb_iconst (x := nI 1) (pc2 := 56) dX11_init_55 (by decide) rfl ?_
  refine pb_sipush (x := nI 5000) (pc2 := 59) dX11_init_56 (by decide) rfl ?_
  refine pb_iastG (pc2 := 60) f65 dX11_init_59 (by omega) (by omega) (by omega) rfl (fun h_ f65 n13 => ?_)
  have ho := (n13 _ (by omega)).trans ho
  refine pb_dup (pc2 := 61) dX11_init_60 rfl rfl ?_
  refine pb_iconst (x := nI 2) (pc2 := 62) dX11_init_61 (by decide) rfl ?_
  refine pb_sipush (x := nI 5000) (pc2 := 65) dX11_init_62 (by decide) rfl ?_
  refine pb_iastG (pc2 := 66) f65 dX11_init_65 (by omega) (by omega) (by omega) rfl (fun h_ f65 n14 => ?_)
  have ho := (n14 _ (by omega)).trans ho
  refine pb_putFG (fs2 := [_, _, _, _, _, _, _, _, _, _, _, _]) (pc2 := 69) flX11_35_X11 rfl dX11_init_66 ho (by omega) rfl rfl rfl rfl rfl rfl rfl (fun h_ ho n15 => ?_)
  refine pb_aload_n (pc2 := 70) dX11_init_69 rfl rfl rfl ?_
  refine pb_bipush (x := nI 6) (pc2 := 72) dX11_init_70 (by decide) rfl ?_
  refine pb_iconst (x := nI 3) (pc2 := 73) dX11_init_72 (by decide) rfl ?_
  refine pb_mnaG (66) (120) (k2 := 170) (n2 := 1274) (pc2 := 77) dX11_init_73 rfl klX11_39 ((n15 _ (by omega)).trans ((n14 _ (by omega)).trans ((n13 _ (by omega)).trans ((n12 _ (by omega)).trans ((n11 _ (by omega)).trans ((n10 _ (by omega)).trans ((n9 _ (by omega)).trans ((n8 _ (by omega)).trans ((n7 _ (by omega)).trans ((n6 _ (by omega)).trans ((n5 _ (by omega)).trans ((n4 _ (by omega)).trans ((n3 _ (by omega)).trans ((n2 _ (by omega)).trans ((n1 _ (by omega)).trans (hn _ (by omega))))))))))))))))) (fun i hi => ((n15 _ (by omega)).trans ((n14 _ (by omega)).trans ((n13 _ (by omega)).trans ((n12 _ (by omega)).trans ((n11 _ (by omega)).trans ((n10 _ (by omega)).trans ((n9 _ (by omega)).trans ((n8 _ (by omega)).trans ((n7 _ (by omega)).trans ((n6 _ (by omega)).trans ((n5 _ (by omega)).trans ((n4 _ (by omega)).trans ((n3 _ (by omega)).trans ((n2 _ (by omega)).trans ((n1 _ (by omega)).trans (hn _ (by omega)))))))))))))))))) (by omega) (by omega) (by omega) (by omega) (by omega) (by omega) rfl (fun h_ f66 g120 n16 => ?_)
  have ho := (n16 _ (by omega)).trans ho
  refine pb_putFG (fs2 := [_, _, _, _, _, _, _, _, _, _, _, _]) (pc2 := 80) flX11_41_X11 rfl dX11_init_77 ho (by omega) rfl rfl rfl rfl rfl rfl rfl (fun h_ ho n17 => ?_)
  refine pb_aload_n (pc2 := 81) dX11_init_80 rfl rfl rfl ?_
  refine pb_bipush (x := nI 8) (pc2 := 83) dX11_init_81 (by decide) rfl ?_
  refine pb_newaG (67) (k2 := 169) (n2 := 1266) (pc2 := 85) dX11_init_83 ⟨by decide, rfl⟩ pb_aI ((n17 _ (by omega)).trans ((n16 _ (by omega)).trans ((n15 _ (by omega)).trans ((n14 _ (by omega)).trans ((n13 _ (by omega)).trans ((n12 _ (by omega)).trans ((n11 _ (by omega)).trans ((n10 _ (by omega)).trans ((n9 _ (by omega)).trans ((n8 _ (by omega)).trans ((n7 _ (by omega)).trans ((n6 _ (by omega)).trans ((n5 _ (by omega)).trans ((n4 _ (by omega)).trans ((n3 _ (by omega)).trans ((n2 _ (by omega)).trans ((n1 _ (by omega)).trans (hn _ (by omega))))))))))))))))))) (by omega) (by omega) (by omega) (by omega) rfl (fun h_ f67 n18 => ?_)
  have ho := (n18 _ (by omega)).trans ho
  refine pb_putFG (fs2 := [_, _, _, _, _, _, _, _, _, _, _, _]) (pc2 := 88) flX11_44_X11 rfl dX11_init_85 ho (by omega) rfl rfl rfl rfl rfl rfl rfl (fun h_ ho n19 => ?_)
  refine pb_aload_n (pc2 := 89) dX11_init_88 rfl rfl rfl ?_
  refine pb_newG (68) (fs := [.null, .null, .null, .null, .int (nI 0), .null, .null, .null, .null, .int (nI 0), .null, .int (nI 0), .int (nI 0), .int (nI 0), .null, .null]) (k2 := 168) (n2 := 1250) (pc2 := 92) pb_cl5 rfl klX11_47 iaX5 iiX5 dX11_init_89 (((n19 _ (by omega)).trans ((n18 _ (by omega)).trans ((n17 _ (by omega)).trans ((n16 _ (by omega)).trans ((n15 _ (by omega)).trans ((n14 _ (by omega)).trans ((n13 _ (by omega)).trans ((n12 _ (by omega)).trans ((n11 _ (by omega)).trans ((n10 _ (by omega)).trans ((n9 _ (by omega)).trans ((n8 _ (by omega)).trans ((n7 _ (by omega)).trans ((n6 _ (by omega)).trans ((n5 _ (by omega)).trans ((n4 _ (by omega)).trans ((n3 _ (by omega)).trans ((n2 _ (by omega)).trans ((n1 _ (by omega)).trans (hn _ (by omega)))))))))))))))))))))) (by omega) rfl rfl (by omega) (by omega) rfl (fun h_ hx n20 => ?_)
  have ho := (n20 _ (by omega)).trans ho
  refine pb_dup (pc2 := 93) dX11_init_92 rfl rfl ?_
  refine pb_callIN (pc2 := 96) (k2 := 125) (n2 := 907) mwX5_init rfl rfl iwX5_init rfl mnX11_49 dX11_init_93 (i_match hx (fun x x1 x2 => ((n20 x (by omega)).trans ((n19 x (by omega)).trans ((n18 x (by omega)).trans ((n17 x (by omega)).trans ((n16 x (by omega)).trans ((n15 x (by omega)).trans ((n14 x (by omega)).trans ((n13 x (by omega)).trans ((n12 x (by omega)).trans ((n11 x (by omega)).trans ((n10 x (by omega)).trans ((n9 x (by omega)).trans ((n8 x (by omega)).trans ((n7 x (by omega)).trans ((n6 x (by omega)).trans ((n5 x (by omega)).trans ((n4 x (by omega)).trans ((n3 x (by omega)).trans ((n2 x (by omega)).trans ((n1 x (by omega)).trans (hn x (by omega)))))))))))))))))))))))) (by omega) (by omega) (by omega) rfl rfl (Nat.le_of_ble_eq_true rfl) rfl (fun v h_ q _ => ?_)
  obtain ⟨rfl, f68, hkM, hsM, f309, f360, f364, n21⟩ := q
  have ho := (n21 _ (by omega)).trans ho
  refine pb_putFG (fs2 := [_, _, _, _, _, _, _, _, _, _, _, _]) (pc2 := 99) flX11_50_X11 rfl dX11_init_96 ho (by omega) rfl rfl rfl rfl rfl rfl rfl (fun h_ ho n22 => ?_)
  refine pb_aload_n (pc2 := 100) dX11_init_99 rfl rfl rfl ?_
  refine pb_newG (69) (fs := [.null, .null, .null, .null, .int (nI 0), .null, .null, .null, .null, .int (nI 0), .null, .null, .null, .int (nI 0), .int (nI 0), .int (nI 0)]) (k2 := 124) (n2 := 891) (pc2 := 103) pb_cl1 rfl klX11_54 iaX1 iiX1 dX11_init_100 (((n22 _ (by omega)).trans ((n21 _ (by omega)).trans ((n20 _ (by omega)).trans ((n19 _ (by omega)).trans ((n18 _ (by omega)).trans ((n17 _ (by omega)).trans ((n16 _ (by omega)).trans ((n15 _ (by omega)).trans ((n14 _ (by omega)).trans ((n13 _ (by omega)).trans ((n12 _ (by omega)).trans ((n11 _ (by omega)).trans ((n10 _ (by omega)).trans ((n9 _ (by omega)).trans ((n8 _ (by omega)).trans ((n7 _ (by omega)).trans ((n6 _ (by omega)).trans ((n5 _ (by omega)).trans ((n4 _ (by omega)).trans ((n3 _ (by omega)).trans ((n2 _ (by omega)).trans ((n1 _ (by omega)).trans (hn _ (by omega))))))))))))))))))))))))) (by omega) rfl rfl (by omega) (by omega) rfl (fun h_ hx n23 => ?_)
  have ho := (n23 _ (by omega)).trans ho
  refine pb_dup (pc2 := 104) dX11_init_103 rfl rfl ?_
  refine pb_callIN (pc2 := 107) (k2 := 75) (n2 := 539) mwX1_init rfl rfl iwX1_init rfl mnX11_56 dX11_init_104 (i_choose hx (fun x x1 x2 => ((n23 x (by omega)).trans ((n22 x (by omega)).trans ((n21 x (by omega)).trans ((n20 x (by omega)).trans ((n19 x (by omega)).trans ((n18 x (by omega)).trans ((n17 x (by omega)).trans ((n16 x (by omega)).trans ((n15 x (by omega)).trans ((n14 x (by omega)).trans ((n13 x (by omega)).trans ((n12 x (by omega)).trans ((n11 x (by omega)).trans ((n10 x (by omega)).trans ((n9 x (by omega)).trans ((n8 x (by omega)).trans ((n7 x (by omega)).trans ((n6 x (by omega)).trans ((n5 x (by omega)).trans ((n4 x (by omega)).trans ((n3 x (by omega)).trans ((n2 x (by omega)).trans ((n1 x (by omega)).trans (hn x (by omega))))))))))))))))))))))))))) (by omega) (by omega) (by omega) rfl rfl (Nat.le_of_ble_eq_true rfl) rfl (fun v h_ q _ => ?_)
  obtain ⟨rfl, f69, hkC, hsC, f411, f413, f460, f464, n24⟩ := q
  have ho := (n24 _ (by omega)).trans ho
  refine pb_putFG (fs2 := [_, _, _, _, _, _, _, _, _, _, _, _]) (pc2 := 110) flX11_57_X11 rfl dX11_init_107 ho (by omega) rfl rfl rfl rfl rfl rfl rfl (fun h_ ho n25 => ?_)
  refine pb_aload_n (pc2 := 111) dX11_init_110 rfl rfl rfl ?_
  refine pb_newG (70) (fs := [.int (nI 0), .int (nI 0), .null, .null, .null, .null, .null, .null]) (k2 := 74) (n2 := 531) (pc2 := 114) pb_cl2 rfl klX11_61 iaX2 iiX2 dX11_init_111 (((n25 _ (by omega)).trans ((n24 _ (by omega)).trans ((n23 _ (by omega)).trans ((n22 _ (by omega)).trans ((n21 _ (by omega)).trans ((n20 _ (by omega)).trans ((n19 _ (by omega)).trans ((n18 _ (by omega)).trans ((n17 _ (by omega)).trans ((n16 _ (by omega)).trans ((n15 _ (by omega)).trans ((n14 _ (by omega)).trans ((n13 _ (by omega)).trans ((n12 _ (by omega)).trans ((n11 _ (by omega)).trans ((n10 _ (by omega)).trans ((n9 _ (by omega)).trans ((n8 _ (by omega)).trans ((n7 _ (by omega)).trans ((n6 _ (by omega)).trans ((n5 _ (by omega)).trans ((n4 _ (by omega)).trans ((n3 _ (by omega)).trans ((n2 _ (by omega)).trans ((n1 _ (by omega)).trans (hn _ (by omega)))))))))))))))))))))))))))) (by omega) rfl rfl (by omega) (by omega) rfl (fun h_ hx n26 => ?_)
  have ho := (n26 _ (by omega)).trans ho
  refine pb_dup (pc2 := 115) dX11_init_114 rfl rfl ?_
  refine pb_callIN (pc2 := 118) (k2 := 40) (n2 := 270) mwX2_init rfl rfl iwX2_init rfl mnX11_63 dX11_init_115 (i_glaze hx (fun x x1 x2 => ((n26 x (by omega)).trans ((n25 x (by omega)).trans ((n24 x (by omega)).trans ((n23 x (by omega)).trans ((n22 x (by omega)).trans ((n21 x (by omega)).trans ((n20 x (by omega)).trans ((n19 x (by omega)).trans ((n18 x (by omega)).trans ((n17 x (by omega)).trans ((n16 x (by omega)).trans ((n15 x (by omega)).trans ((n14 x (by omega)).trans ((n13 x (by omega)).trans ((n12 x (by omega)).trans ((n11 x (by omega)).trans ((n10 x (by omega)).trans ((n9 x (by omega)).trans ((n8 x (by omega)).trans ((n7 x (by omega)).trans ((n6 x (by omega)).trans ((n5 x (by omega)).trans ((n4 x (by omega)).trans ((n3 x (by omega)).trans ((n2 x (by omega)).trans ((n1 x (by omega)).trans (hn x (by omega)))))))))))))))))))))))))))))) (by omega) (by omega) (by omega) rfl rfl (Nat.le_of_ble_eq_true rfl) rfl (fun v h_ q _ => ?_)
  obtain ⟨rfl, f70, hkG, hsG, f500, n27⟩ := q
  have ho := (n27 _ (by omega)).trans ho
  refine pb_putFG (fs2 := [_, _, _, _, _, _, _, _, _, _, _, _]) (pc2 := 121) flX11_64_X11 rfl dX11_init_118 ho (by omega) rfl rfl rfl rfl rfl rfl rfl (fun h_ ho n28 => ?_)
  refine pb_aload_n (pc2 := 122) dX11_init_121 rfl rfl rfl ?_
  refine pb_iconst (x := nI 0) (pc2 := 123) dX11_init_122 (by decide) rfl ?_
  refine pb_putG (fs2 := [_, _, _, _, _, _, _, _, _, _, _, _]) (pc2 := 126) flX11_68_X11 rfl dX11_init_123 ho (by omega) rfl rfl rfl rfl rfl (fun h_ ho n29 => ?_)
  refine pb_aload_n (pc2 := 127) dX11_init_126 rfl rfl rfl ?_
  refine pb_iconst (x := nI 0) (pc2 := 128) dX11_init_127 (by decide) rfl ?_
  refine pb_putG (fs2 := [_, _, _, _, _, _, _, _, _, _, _, _]) (pc2 := 131) flX11_72_X11 rfl dX11_init_128 ho (by omega) rfl rfl rfl rfl rfl (fun h_ ho n30 => ?_)
  have f61 := ((n30 _ (by omega)).trans ((n29 _ (by omega)).trans ((n28 _ (by omega)).trans ((n27 _ (by omega)).trans ((n26 _ (by omega)).trans ((n25 _ (by omega)).trans ((n24 _ (by omega)).trans ((n23 _ (by omega)).trans ((n22 _ (by omega)).trans ((n21 _ (by omega)).trans ((n20 _ (by omega)).trans ((n19 _ (by omega)).trans ((n18 _ (by omega)).trans ((n17 _ (by omega)).trans ((n16 _ (by omega)).trans ((n15 _ (by omega)).trans ((n14 _ (by omega)).trans ((n13 _ (by omega)).trans ((n12 _ (by omega)).trans ((n11 _ (by omega)).trans ((n10 _ (by omega)).trans ((n9 _ (by omega)).trans ((n8 _ (by omega)).trans ((n7 _ (by omega)).trans ((n6 _ (by omega)).trans ((n5 _ (by omega)).trans ((n4 _ (by omega)).trans ((n3 _ (by omega)).trans f61))))))))))))))))))))))))))))
  have f71 := ((n30 _ (by omega)).trans ((n29 _ (by omega)).trans ((n28 _ (by omega)).trans ((n27 _ (by omega)).trans ((n26 _ (by omega)).trans ((n25 _ (by omega)).trans ((n24 _ (by omega)).trans ((n23 _ (by omega)).trans ((n22 _ (by omega)).trans ((n21 _ (by omega)).trans ((n20 _ (by omega)).trans ((n19 _ (by omega)).trans ((n18 _ (by omega)).trans ((n17 _ (by omega)).trans ((n16 _ (by omega)).trans ((n15 _ (by omega)).trans ((n14 _ (by omega)).trans ((n13 _ (by omega)).trans ((n12 _ (by omega)).trans ((n11 _ (by omega)).trans ((n10 _ (by omega)).trans ((n9 _ (by omega)).trans ((n8 _ (by omega)).trans ((n7 _ (by omega)).trans ((n6 _ (by omega)).trans ((n5 _ (by omega)).trans ((n4 _ (by omega)).trans ((n3 _ (by omega)).trans f71))))))))))))))))))))))))))))
  have f62 := ((n30 _ (by omega)).trans ((n29 _ (by omega)).trans ((n28 _ (by omega)).trans ((n27 _ (by omega)).trans ((n26 _ (by omega)).trans ((n25 _ (by omega)).trans ((n24 _ (by omega)).trans ((n23 _ (by omega)).trans ((n22 _ (by omega)).trans ((n21 _ (by omega)).trans ((n20 _ (by omega)).trans ((n19 _ (by omega)).trans ((n18 _ (by omega)).trans ((n17 _ (by omega)).trans ((n16 _ (by omega)).trans ((n15 _ (by omega)).trans ((n14 _ (by omega)).trans ((n13 _ (by omega)).trans ((n12 _ (by omega)).trans ((n11 _ (by omega)).trans ((n10 _ (by omega)).trans ((n9 _ (by omega)).trans ((n8 _ (by omega)).trans ((n7 _ (by omega)).trans ((n6 _ (by omega)).trans f62)))))))))))))))))))))))))
  have f72 := ((n30 _ (by omega)).trans ((n29 _ (by omega)).trans ((n28 _ (by omega)).trans ((n27 _ (by omega)).trans ((n26 _ (by omega)).trans ((n25 _ (by omega)).trans ((n24 _ (by omega)).trans ((n23 _ (by omega)).trans ((n22 _ (by omega)).trans ((n21 _ (by omega)).trans ((n20 _ (by omega)).trans ((n19 _ (by omega)).trans ((n18 _ (by omega)).trans ((n17 _ (by omega)).trans ((n16 _ (by omega)).trans ((n15 _ (by omega)).trans ((n14 _ (by omega)).trans ((n13 _ (by omega)).trans ((n12 _ (by omega)).trans ((n11 _ (by omega)).trans ((n10 _ (by omega)).trans ((n9 _ (by omega)).trans ((n8 _ (by omega)).trans ((n7 _ (by omega)).trans ((n6 _ (by omega)).trans f72)))))))))))))))))))))))))
  have f73 := ((n30 _ (by omega)).trans ((n29 _ (by omega)).trans ((n28 _ (by omega)).trans ((n27 _ (by omega)).trans ((n26 _ (by omega)).trans ((n25 _ (by omega)).trans ((n24 _ (by omega)).trans ((n23 _ (by omega)).trans ((n22 _ (by omega)).trans ((n21 _ (by omega)).trans ((n20 _ (by omega)).trans ((n19 _ (by omega)).trans ((n18 _ (by omega)).trans ((n17 _ (by omega)).trans ((n16 _ (by omega)).trans ((n15 _ (by omega)).trans ((n14 _ (by omega)).trans ((n13 _ (by omega)).trans ((n12 _ (by omega)).trans ((n11 _ (by omega)).trans ((n10 _ (by omega)).trans ((n9 _ (by omega)).trans ((n8 _ (by omega)).trans ((n7 _ (by omega)).trans ((n6 _ (by omega)).trans f73)))))))))))))))))))))))))
  have f74 := ((n30 _ (by omega)).trans ((n29 _ (by omega)).trans ((n28 _ (by omega)).trans ((n27 _ (by omega)).trans ((n26 _ (by omega)).trans ((n25 _ (by omega)).trans ((n24 _ (by omega)).trans ((n23 _ (by omega)).trans ((n22 _ (by omega)).trans ((n21 _ (by omega)).trans ((n20 _ (by omega)).trans ((n19 _ (by omega)).trans ((n18 _ (by omega)).trans ((n17 _ (by omega)).trans ((n16 _ (by omega)).trans ((n15 _ (by omega)).trans ((n14 _ (by omega)).trans ((n13 _ (by omega)).trans ((n12 _ (by omega)).trans ((n11 _ (by omega)).trans ((n10 _ (by omega)).trans ((n9 _ (by omega)).trans ((n8 _ (by omega)).trans ((n7 _ (by omega)).trans ((n6 _ (by omega)).trans f74)))))))))))))))))))))))))
  have glm : ∀ i, i < 4 → cRow 8 (fun _ => 10) (h_ (80 + i)) := fun i hi => by rw [n30 _ (by omega), n29 _ (by omega), n28 _ (by omega), n27 _ (by omega), n26 _ (by omega), n25 _ (by omega), n24 _ (by omega), n23 _ (by omega), n22 _ (by omega), n21 _ (by omega), n20 _ (by omega), n19 _ (by omega), n18 _ (by omega), n17 _ (by omega), n16 _ (by omega), n15 _ (by omega), n14 _ (by omega), n13 _ (by omega), n12 _ (by omega), n11 _ (by omega), n10 _ (by omega), n9 _ (by omega), n8 _ (by omega), n7 _ (by omega), n6 _ (by omega)]; exact glm i hi
  have gsg : ∀ i, i < 3 → cRow 8 (fun b => sp_0 10 (8 * i + b)) (h_ (84 + i)) := fun i hi => by rw [n30 _ (by omega), n29 _ (by omega), n28 _ (by omega), n27 _ (by omega), n26 _ (by omega), n25 _ (by omega), n24 _ (by omega), n23 _ (by omega), n22 _ (by omega), n21 _ (by omega), n20 _ (by omega), n19 _ (by omega), n18 _ (by omega), n17 _ (by omega), n16 _ (by omega), n15 _ (by omega), n14 _ (by omega), n13 _ (by omega), n12 _ (by omega), n11 _ (by omega), n10 _ (by omega), n9 _ (by omega), n8 _ (by omega), n7 _ (by omega), n6 _ (by omega)]; exact gsg i hi
  have gwt : ∀ i, i < 3 → cScr 8 (h_ (87 + i)) := fun i hi => by rw [n30 _ (by omega), n29 _ (by omega), n28 _ (by omega), n27 _ (by omega), n26 _ (by omega), n25 _ (by omega), n24 _ (by omega), n23 _ (by omega), n22 _ (by omega), n21 _ (by omega), n20 _ (by omega), n19 _ (by omega), n18 _ (by omega), n17 _ (by omega), n16 _ (by omega), n15 _ (by omega), n14 _ (by omega), n13 _ (by omega), n12 _ (by omega), n11 _ (by omega), n10 _ (by omega), n9 _ (by omega), n8 _ (by omega), n7 _ (by omega), n6 _ (by omega)]; exact gwt i hi
  have f75 : cScr 3 (h_ 75) := by rw [n30 _ (by omega), n29 _ (by omega), n28 _ (by omega), n27 _ (by omega), n26 _ (by omega), n25 _ (by omega), n24 _ (by omega), n23 _ (by omega), n22 _ (by omega), n21 _ (by omega), n20 _ (by omega), n19 _ (by omega), n18 _ (by omega), n17 _ (by omega), n16 _ (by omega), n15 _ (by omega), n14 _ (by omega), n13 _ (by omega), n12 _ (by omega), n11 _ (by omega), n10 _ (by omega), n9 _ (by omega), n8 _ (by omega), n7 _ (by omega), n6 _ (by omega)]; exact f75
  have f76 : ∃ F : Nat → Int32, h_ 76 = some (.inl (1, 8, F)) := by rw [n30 _ (by omega), n29 _ (by omega), n28 _ (by omega), n27 _ (by omega), n26 _ (by omega), n25 _ (by omega), n24 _ (by omega), n23 _ (by omega), n22 _ (by omega), n21 _ (by omega), n20 _ (by omega), n19 _ (by omega), n18 _ (by omega), n17 _ (by omega), n16 _ (by omega), n15 _ (by omega), n14 _ (by omega), n13 _ (by omega), n12 _ (by omega), n11 _ (by omega), n10 _ (by omega), n9 _ (by omega), n8 _ (by omega), n7 _ (by omega), n6 _ (by omega)]; exact f76
  have f63 := ((n30 _ (by omega)).trans ((n29 _ (by omega)).trans ((n28 _ (by omega)).trans ((n27 _ (by omega)).trans ((n26 _ (by omega)).trans ((n25 _ (by omega)).trans ((n24 _ (by omega)).trans ((n23 _ (by omega)).trans ((n22 _ (by omega)).trans ((n21 _ (by omega)).trans ((n20 _ (by omega)).trans ((n19 _ (by omega)).trans ((n18 _ (by omega)).trans ((n17 _ (by omega)).trans ((n16 _ (by omega)).trans ((n15 _ (by omega)).trans ((n14 _ (by omega)).trans ((n13 _ (by omega)).trans ((n12 _ (by omega)).trans ((n11 _ (by omega)).trans ((n10 _ (by omega)).trans ((n9 _ (by omega)).trans ((n8 _ (by omega)).trans f63)))))))))))))))))))))))
  have f64 := ((n30 _ (by omega)).trans ((n29 _ (by omega)).trans ((n28 _ (by omega)).trans ((n27 _ (by omega)).trans ((n26 _ (by omega)).trans ((n25 _ (by omega)).trans ((n24 _ (by omega)).trans ((n23 _ (by omega)).trans ((n22 _ (by omega)).trans ((n21 _ (by omega)).trans ((n20 _ (by omega)).trans ((n19 _ (by omega)).trans ((n18 _ (by omega)).trans ((n17 _ (by omega)).trans ((n16 _ (by omega)).trans ((n15 _ (by omega)).trans ((n14 _ (by omega)).trans ((n13 _ (by omega)).trans ((n12 _ (by omega)).trans ((n11 _ (by omega)).trans ((n10 _ (by omega)).trans f64)))))))))))))))))))))
  have f65 := ((n30 _ (by omega)).trans ((n29 _ (by omega)).trans ((n28 _ (by omega)).trans ((n27 _ (by omega)).trans ((n26 _ (by omega)).trans ((n25 _ (by omega)).trans ((n24 _ (by omega)).trans ((n23 _ (by omega)).trans ((n22 _ (by omega)).trans ((n21 _ (by omega)).trans ((n20 _ (by omega)).trans ((n19 _ (by omega)).trans ((n18 _ (by omega)).trans ((n17 _ (by omega)).trans ((n16 _ (by omega)).trans ((n15 _ (by omega)).trans f65))))))))))))))))
  have f66 := ((n30 _ (by omega)).trans ((n29 _ (by omega)).trans ((n28 _ (by omega)).trans ((n27 _ (by omega)).trans ((n26 _ (by omega)).trans ((n25 _ (by omega)).trans ((n24 _ (by omega)).trans ((n23 _ (by omega)).trans ((n22 _ (by omega)).trans ((n21 _ (by omega)).trans ((n20 _ (by omega)).trans ((n19 _ (by omega)).trans ((n18 _ (by omega)).trans ((n17 _ (by omega)).trans f66))))))))))))))
  have g120 : ∀ i, i < 6 → h_ (120 + i) = some (.inl (0, 3, fun _ => nI 0)) := fun i hi => ((n30 _ (by omega)).trans ((n29 _ (by omega)).trans ((n28 _ (by omega)).trans ((n27 _ (by omega)).trans ((n26 _ (by omega)).trans ((n25 _ (by omega)).trans ((n24 _ (by omega)).trans ((n23 _ (by omega)).trans ((n22 _ (by omega)).trans ((n21 _ (by omega)).trans ((n20 _ (by omega)).trans ((n19 _ (by omega)).trans ((n18 _ (by omega)).trans ((n17 _ (by omega)).trans (g120 i hi)))))))))))))))
  have f67 := ((n30 _ (by omega)).trans ((n29 _ (by omega)).trans ((n28 _ (by omega)).trans ((n27 _ (by omega)).trans ((n26 _ (by omega)).trans ((n25 _ (by omega)).trans ((n24 _ (by omega)).trans ((n23 _ (by omega)).trans ((n22 _ (by omega)).trans ((n21 _ (by omega)).trans ((n20 _ (by omega)).trans ((n19 _ (by omega)).trans f67))))))))))))
  have f68 := ((n30 _ (by omega)).trans ((n29 _ (by omega)).trans ((n28 _ (by omega)).trans ((n27 _ (by omega)).trans ((n26 _ (by omega)).trans ((n25 _ (by omega)).trans ((n24 _ (by omega)).trans ((n23 _ (by omega)).trans ((n22 _ (by omega)).trans f68)))))))))
  have hkM : ∀ a c, cK a = some c → 300 ≤ a → a < 400 → h_ a = some c := fun a c e a1 a2 => ((n30 _ (by omega)).trans ((n29 _ (by omega)).trans ((n28 _ (by omega)).trans ((n27 _ (by omega)).trans ((n26 _ (by omega)).trans ((n25 _ (by omega)).trans ((n24 _ (by omega)).trans ((n23 _ (by omega)).trans ((n22 _ (by omega)).trans (hkM a c e a1 a2))))))))))
  have hsM : ∀ a n, cS a = some n → 300 ≤ a → a < 400 → cScr n (h_ a) := fun a n e a1 a2 => by rw [n30 _ (by omega), n29 _ (by omega), n28 _ (by omega), n27 _ (by omega), n26 _ (by omega), n25 _ (by omega), n24 _ (by omega), n23 _ (by omega), n22 _ (by omega)]; exact hsM a n e a1 a2
  have f309 : cRow 12 (fun _ => 0) (h_ 309) := by rw [n30 _ (by omega), n29 _ (by omega), n28 _ (by omega), n27 _ (by omega), n26 _ (by omega), n25 _ (by omega), n24 _ (by omega), n23 _ (by omega), n22 _ (by omega)]; exact f309
  have f360 : cRow 8 (fun _ => 0) (h_ 360) := by rw [n30 _ (by omega), n29 _ (by omega), n28 _ (by omega), n27 _ (by omega), n26 _ (by omega), n25 _ (by omega), n24 _ (by omega), n23 _ (by omega), n22 _ (by omega)]; exact f360
  have f364 : cRow 8 (fun _ => 0) (h_ 364) := by rw [n30 _ (by omega), n29 _ (by omega), n28 _ (by omega), n27 _ (by omega), n26 _ (by omega), n25 _ (by omega), n24 _ (by omega), n23 _ (by omega), n22 _ (by omega)]; exact f364
  have f69 := ((n30 _ (by omega)).trans ((n29 _ (by omega)).trans ((n28 _ (by omega)).trans ((n27 _ (by omega)).trans ((n26 _ (by omega)).trans ((n25 _ (by omega)).trans f69))))))
  have hkC : ∀ a c, cK a = some c → 400 ≤ a → a < 500 → h_ a = some c := fun a c e a1 a2 => ((n30 _ (by omega)).trans ((n29 _ (by omega)).trans ((n28 _ (by omega)).trans ((n27 _ (by omega)).trans ((n26 _ (by omega)).trans ((n25 _ (by omega)).trans (hkC a c e a1 a2)))))))
  have hsC : ∀ a n, cS a = some n → 400 ≤ a → a < 500 → cScr n (h_ a) := fun a n e a1 a2 => by rw [n30 _ (by omega), n29 _ (by omega), n28 _ (by omega), n27 _ (by omega), n26 _ (by omega), n25 _ (by omega)]; exact hsC a n e a1 a2
  have f411 := ((n30 _ (by omega)).trans ((n29 _ (by omega)).trans ((n28 _ (by omega)).trans ((n27 _ (by omega)).trans ((n26 _ (by omega)).trans ((n25 _ (by omega)).trans f411))))))
  have f413 := ((n30 _ (by omega)).trans ((n29 _ (by omega)).trans ((n28 _ (by omega)).trans ((n27 _ (by omega)).trans ((n26 _ (by omega)).trans ((n25 _ (by omega)).trans f413))))))
  have f460 : cRow 8 (fun _ => 0) (h_ 460) := by rw [n30 _ (by omega), n29 _ (by omega), n28 _ (by omega), n27 _ (by omega), n26 _ (by omega), n25 _ (by omega)]; exact f460
  have f464 : cRow 8 (fun _ => 0) (h_ 464) := by rw [n30 _ (by omega), n29 _ (by omega), n28 _ (by omega), n27 _ (by omega), n26 _ (by omega), n25 _ (by omega)]; exact f464
  have f70 := ((n30 _ (by omega)).trans ((n29 _ (by omega)).trans ((n28 _ (by omega)).trans f70)))
  have hkG : ∀ a c, cK a = some c → 500 ≤ a → a < 600 → h_ a = some c := fun a c e a1 a2 => ((n30 _ (by omega)).trans ((n29 _ (by omega)).trans ((n28 _ (by omega)).trans (hkG a c e a1 a2))))
  have hsG : ∀ a n, cS a = some n → 500 ≤ a → a < 600 → cScr n (h_ a) := fun a n e a1 a2 => by rw [n30 _ (by omega), n29 _ (by omega), n28 _ (by omega)]; exact hsG a n e a1 a2
  have f500 := ((n30 _ (by omega)).trans ((n29 _ (by omega)).trans ((n28 _ (by omega)).trans f500)))
  have fr : ∀ x, x < 60 → h_ x = h x := fun x hx => ((n30 x (by omega)).trans ((n29 x (by omega)).trans ((n28 x (by omega)).trans ((n27 x (by omega)).trans ((n26 x (by omega)).trans ((n25 x (by omega)).trans ((n24 x (by omega)).trans ((n23 x (by omega)).trans ((n22 x (by omega)).trans ((n21 x (by omega)).trans ((n20 x (by omega)).trans ((n19 x (by omega)).trans ((n18 x (by omega)).trans ((n17 x (by omega)).trans ((n16 x (by omega)).trans ((n15 x (by omega)).trans ((n14 x (by omega)).trans ((n13 x (by omega)).trans ((n12 x (by omega)).trans ((n11 x (by omega)).trans ((n10 x (by omega)).trans ((n9 x (by omega)).trans ((n8 x (by omega)).trans ((n7 x (by omega)).trans ((n6 x (by omega)).trans ((n5 x (by omega)).trans ((n4 x (by omega)).trans ((n3 x (by omega)).trans ((n2 x (by omega)).trans ((n1 x (by omega))))))))))))))))))))))))))))))))
  have fn : ∀ x, ((90 ≤ x ∧ x < 120) ∨ (126 ≤ x ∧ x < 300) ∨ 600 ≤ x) → h_ x = none := fun x hx => ((n30 x (by omega)).trans ((n29 x (by omega)).trans ((n28 x (by omega)).trans ((n27 x (by omega)).trans ((n26 x (by omega)).trans ((n25 x (by omega)).trans ((n24 x (by omega)).trans ((n23 x (by omega)).trans ((n22 x (by omega)).trans ((n21 x (by omega)).trans ((n20 x (by omega)).trans ((n19 x (by omega)).trans ((n18 x (by omega)).trans ((n17 x (by omega)).trans ((n16 x (by omega)).trans ((n15 x (by omega)).trans ((n14 x (by omega)).trans ((n13 x (by omega)).trans ((n12 x (by omega)).trans ((n11 x (by omega)).trans ((n10 x (by omega)).trans ((n9 x (by omega)).trans ((n8 x (by omega)).trans ((n7 x (by omega)).trans ((n6 x (by omega)).trans ((n5 x (by omega)).trans ((n4 x (by omega)).trans ((n3 x (by omega)).trans ((n2 x (by omega)).trans ((n1 x (by omega)).trans (hn x (by omega))))))))))))))))))))))))))))))))
  clear hn n1 n2 n3 n4 n5 n6 n7 n8 n9 n10 n11 n12 n13 n14 n15 n16 n17 n18 n19 n20 n21 n22 n23 n24 n25 n26 n27 n28 n29 n30
  have areas : ∀ (q i : Nat) (h' : pb_H), 10 - i < q → i ≤ 10 → h' 64 = some (.inr (.inl (2, 10, cTo 110 i))) → (∀ u, u < i → h' (110 + u) = some (.inr (.inr (0, [.ref (140 + u), .int (nI 0), .int (nI 9000)]))) ∧ h' (140 + u) = some (.inr (.inl (3, 10, fun _ => none)))) → (∀ u, u < 10 → h' (100 + u) = some (.inr (.inr (6, cMx (130 + u) 0))) ∧ h' (130 + u) = some (.inl (0, 12, fun _ => nI 0))) → h' 63 = some (.inr (.inl (1, 10, cTo 100 10))) → (∀ u, i ≤ u → u < 10 → h' (110 + u) = none ∧ h' (140 + u) = none) → (∀ x, (x ≠ 63 ∧ x ≠ 64 ∧ (x < 100 ∨ 120 ≤ x) ∧ (x < 130 ∨ 150 ≤ x)) → h' x = h_ x) → pb_S Z mX11_init 3 (2 * (10 - i)) (13 * (10 - i)) (fun v h' => v = none ∧ pb_CF sp_0 h h') 160 [some (.ref 60), some (.int (nI i))] [] h' := by
    intro q
    induction q with
    | zero => intro i h' g1; omega
    | succ q ih =>
      intro i h' g1 g2 h64 hlo hpots h63 hfree nb
      have ho : h' 60 = _ := (nb _ (by omega)).trans ho
      refine pb_iload_n (pc2 := 161) dX11_init_160 rfl rfl rfl ?_
      refine pb_bipush (x := nI 10) (pc2 := 163) dX11_init_161 (by decide) rfl ?_
      refine pb_icmpN_ge (tgt := 185) (pc2 := 166) dX11_init_163 (by decide) rfl (by omega) (by omega) (fun c => ?_) (fun c => ?_)
      · have e : i = 10 := by omega
        subst e
        have hk : ∀ a c, cK a = some c → h' a = some c := fun a c e => by
          have e9 := e
          rcases cK_all e with rfl | rfl | rfl | rfl | rfl | rfl | rfl | rfl | rfl | rfl | rfl | rfl | rfl | rfl | rfl | rfl | rfl | rfl | rfl
          · rw [← e]; exact (nb _ (by omega)).trans f62
          · rw [← e]; exact h63
          · rw [← e]; exact h64
          · rw [← e]; exact (nb _ (by omega)).trans f66
          · rw [← e]; exact (nb _ (by omega)).trans f72
          · rw [← e]; exact (nb _ (by omega)).trans f73
          · rw [← e]; exact (nb _ (by omega)).trans f74
          · exact (nb _ (by omega)).trans (hkM _ c e9 (by omega) (by omega))
          · exact (nb _ (by omega)).trans (hkM _ c e9 (by omega) (by omega))
          · exact (nb _ (by omega)).trans (hkM _ c e9 (by omega) (by omega))
          · exact (nb _ (by omega)).trans (hkM _ c e9 (by omega) (by omega))
          · exact (nb _ (by omega)).trans (hkC _ c e9 (by omega) (by omega))
          · exact (nb _ (by omega)).trans (hkC _ c e9 (by omega) (by omega))
          · exact (nb _ (by omega)).trans (hkC _ c e9 (by omega) (by omega))
          · exact (nb _ (by omega)).trans (hkC _ c e9 (by omega) (by omega))
          · exact (nb _ (by omega)).trans (hkC _ c e9 (by omega) (by omega))
          · exact (nb _ (by omega)).trans (hkG _ c e9 (by omega) (by omega))
          · exact (nb _ (by omega)).trans (hkG _ c e9 (by omega) (by omega))
          · exact (nb _ (by omega)).trans (hkG _ c e9 (by omega) (by omega))
        have hs : ∀ a n, cS a = some n → cScr n (h' a) := fun a n e => by
          have rg := cS_rng e
          have al := cS_all e
          rw [nb a (by omega)]
          by_cases z1 : a = 67
          · subst z1
            cases e
            exact ⟨fun _ => 0, f67⟩
          by_cases z2 : a = 75
          · subst z2
            cases e
            exact f75
          by_cases z3 : a < 100
          · have en : n = 8 := Option.some.inj (e.symm.trans (cS_8 (by omega)))
            subst en
            have := gwt (a - 87) (by omega)
            rw [show 87 + (a - 87) = a by omega] at this
            exact this
          by_cases z4 : a < 400
          · exact hsM a n e (by omega) z4
          by_cases z5 : a < 500
          · exact hsC a n e (by omega) z5
          · exact hsG a n e (by omega) (by omega)
        have wan : cRow 3 (fun _ => 5000) (h' 65) := ⟨_, (nb _ (by omega)).trans f65, fun j hj => by
          unfold pb_un
          rcases (show j = 0 ∨ j = 1 ∨ j = 2 by omega) with rfl | rfl | rfl <;> rfl⟩
        have zer : ∀ a, a = 360 ∨ a = 364 ∨ a = 460 ∨ a = 464 → cRow 8 (fun _ => 0) (h' a) := fun a ha => by
          rw [nb a (by omega)]
          rcases ha with rfl | rfl | rfl | rfl
          · exact f360
          · exact f364
          · exact f460
          · exact f464
        have hCF : pb_CF sp_0 h h' := k_init (fun b hb => (nb b (by omega)).trans (fr b hb)) hk hs ho ((nb _ (by omega)).trans f61) wan (fun i hi => (nb _ (by omega)).trans (g120 i hi)) ((nb _ (by omega)).trans f71) (fun i hi => by rw [nb _ (by omega)]; exact glm i hi) (fun i hi => by rw [nb _ (by omega)]; exact gsg i hi) (by rw [nb _ (by omega)]; exact f76) hpots (fun a ha => hlo a ha) (fun x x1 x2 => (nb _ (by omega)).trans (fn x (by omega))) (fun x x1 => (nb _ (by omega)).trans (fn x (by omega))) ((nb _ (by omega)).trans f68) (by rw [nb _ (by omega)]; exact f309) ((nb _ (by omega)).trans f69) ((nb _ (by omega)).trans f411) ((nb _ (by omega)).trans f413) ((nb _ (by omega)).trans f70) ((nb _ (by omega)).trans f500) zer
        exact pb_return dX11_init_185 rfl (⟨rfl, hCF⟩)
      · obtain ⟨z1, z2⟩ := hfree i (Nat.le_refl _) c
        refine pb_aload_n (pc2 := 167) dX11_init_166 rfl rfl rfl ?_
        refine pb_getf (pc2 := 170) flX11_31_X11 rfl dX11_init_167 (by first | assumption | exact hR.a rfl | exact hR.o | exact hC.o | exact hC.pal | exact hC.tub | exact hC.k _ _ rfl | exact hC.pot _ (by omega) | exact hC.are _ (by omega) | exact hC.arl _ (by omega) | exact hC.tbo _ (by omega) (by omega)) rfl rfl ?_
        refine pb_iload_n (pc2 := 171) dX11_init_170 rfl rfl rfl ?_
        refine pb_newG (110 + i) (fs := [.null, .int (nI 0), .int (nI 0)]) (k2 := 2 * (10 - i) - 1) (n2 := 13 * (10 - i) - 3) (pc2 := 174) pb_cl0 rfl klX11_29 iaX0 iiX0 dX11_init_171 (z1) (by omega) rfl rfl (by omega) (by omega) rfl (fun h_ hx n1 => ?_)
        have ho := (n1 _ (by omega)).trans ho
        have h64 := (n1 _ (by omega)).trans h64
        have z2 := (n1 _ (by omega)).trans z2
        refine pb_dup (pc2 := 175) dX11_init_174 rfl rfl ?_
        refine pb_callIN (pc2 := 178) (k2 := 2 * (10 - (i + 1))) (n2 := 13 * (10 - (i + 1))) mwX0_init rfl rfl iwX0_init rfl mnX11_76 dX11_init_175 (i_area c hx (fun x x1 x2 => by rw [show x = 140 + i by omega]; exact z2)) (by omega) (by omega) (by omega) rfl rfl (Nat.le_of_ble_eq_true rfl) rfl (fun v h2 q _ => ?_)
        obtain ⟨rfl, f1, f2, n2⟩ := q
        have h64 := (n2 _ (by omega)).trans h64
        refine pb_aastG (pc2 := 179) dX11_init_178 (by decide) pb_cl0.1 rfl h64 (by omega) f1 (by omega) (by omega) rfl (fun h3 h64 n3 => ?_)
        rw [cTo_up] at h64
        have nn : ∀ x, (x ≠ 64 ∧ x ≠ 110 + i ∧ x ≠ 140 + i) → h3 x = h' x := fun x hx => (n3 x (by omega)).trans ((n2 x (by omega)).trans (n1 x (by omega)))
        refine pb_iincP (c0 := 1) (lv2 := [_, _]) (pc2 := 182) dX11_init_179 rfl (by decide) rfl rfl ?_
        refine pb_goto (tgt := 160) dX11_init_182 (by decide) ?_
        refine ih (i + 1) h3 (by omega) (by omega) h64 (fun u hu => ?_) (fun u hu => ?_) ((nn _ (by omega)).trans h63) (fun u u1 u2 => ?_) (fun x hx => (nn x (by omega)).trans (nb x hx))
        · by_cases e : u = i
          · subst e
            exact ⟨(n3 _ (by omega)).trans f1, (n3 _ (by omega)).trans f2⟩
          · rw [nn _ (by omega), nn _ (by omega)]; exact hlo u (by omega)
        · rw [nn _ (by omega), nn _ (by omega)]; exact hpots u hu
        · rw [nn _ (by omega), nn _ (by omega)]; exact hfree u (by omega) u2
  have pots : ∀ (q i : Nat) (h' : pb_H), 10 - i < q → i ≤ 10 → h' 63 = some (.inr (.inl (1, 10, cTo 100 i))) → (∀ u, u < i → h' (100 + u) = some (.inr (.inr (6, cMx (130 + u) 0))) ∧ h' (130 + u) = some (.inl (0, 12, fun _ => nI 0))) → (∀ u, i ≤ u → u < 10 → h' (100 + u) = none ∧ h' (130 + u) = none) → (∀ x, (x ≠ 63 ∧ (x < 100 ∨ 110 ≤ x) ∧ (x < 130 ∨ 140 ≤ x)) → h' x = h_ x) → pb_S Z mX11_init 3 (2 * (10 - i) + 20) (14 * (10 - i) + 130) (fun v h' => v = none ∧ pb_CF sp_0 h h') 133 [some (.ref 60), some (.int (nI i))] [] h' := by
    intro q
    induction q with
    | zero => intro i h' g1; omega
    | succ q ih =>
      intro i h' g1 g2 h63 hlo hfree nb
      have ho : h' 60 = _ := (nb _ (by omega)).trans ho
      refine pb_iload_n (pc2 := 134) dX11_init_133 rfl rfl rfl ?_
      refine pb_bipush (x := nI 10) (pc2 := 136) dX11_init_134 (by decide) rfl ?_
      refine pb_icmpN_ge (tgt := 158) (pc2 := 139) dX11_init_136 (by decide) rfl (by omega) (by omega) (fun c => ?_) (fun c => ?_)
      · have e : i = 10 := by omega
        subst e
        refine pb_iconst (x := nI 0) (pc2 := 159) dX11_init_158 (by decide) rfl ?_
        refine pb_istore_n (lv2 := [_, _]) (pc2 := 160) dX11_init_159 rfl (by decide) rfl rfl ?_
        exact areas 11 0 h' (by omega) (by omega) (by rw [cTo_0]; exact (nb _ (by omega)).trans f64) (fun u hu => by omega) hlo h63 (fun u _ u2 => ⟨(nb _ (by omega)).trans (fn _ (by omega)), (nb _ (by omega)).trans (fn _ (by omega))⟩) (fun x hx => nb x (by omega))
      · obtain ⟨z1, z2⟩ := hfree i (Nat.le_refl _) c
        refine pb_aload_n (pc2 := 140) dX11_init_139 rfl rfl rfl ?_
        refine pb_getf (pc2 := 143) flX11_25_X11 rfl dX11_init_140 (by first | assumption | exact hR.a rfl | exact hR.o | exact hC.o | exact hC.pal | exact hC.tub | exact hC.k _ _ rfl | exact hC.pot _ (by omega) | exact hC.are _ (by omega) | exact hC.arl _ (by omega) | exact hC.tbo _ (by omega) (by omega)) rfl rfl ?_
        refine pb_iload_n (pc2 := 144) dX11_init_143 rfl rfl rfl ?_
        refine pb_newG (100 + i) (fs := [.null, .int (nI 0)]) (k2 := 2 * (10 - i) + 20 - 1) (n2 := 14 * (10 - i) + 130 - 2) (pc2 := 147) pb_cl6 rfl klX11_23 iaX6 iiX6 dX11_init_144 (z1) (by omega) rfl rfl (by omega) (by omega) rfl (fun h_ hx n1 => ?_)
        have ho := (n1 _ (by omega)).trans ho
        have h63 := (n1 _ (by omega)).trans h63
        have z2 := (n1 _ (by omega)).trans z2
        refine pb_dup (pc2 := 148) dX11_init_147 rfl rfl ?_
        refine pb_callIN (pc2 := 151) (k2 := 2 * (10 - (i + 1)) + 20) (n2 := 14 * (10 - (i + 1)) + 130) mwX6_init rfl rfl iwX6_init rfl mnX11_75 dX11_init_148 (t_mixInit hx z2 (by omega)) (by omega) (by omega) (by omega) rfl rfl (Nat.le_of_ble_eq_true rfl) rfl (fun v h2 q _ => ?_)
        obtain ⟨rfl, f1, f2, n2⟩ := q
        have h63 := (n2 _ (by omega) (by omega)).trans h63
        refine pb_aastG (pc2 := 152) dX11_init_151 (by decide) pb_cl6.1 rfl h63 (by omega) f1 (by omega) (by omega) rfl (fun h3 h63 n3 => ?_)
        rw [cTo_up] at h63
        have nn : ∀ x, (x ≠ 63 ∧ x ≠ 100 + i ∧ x ≠ 130 + i) → h3 x = h' x := fun x hx => (n3 x (by omega)).trans ((n2 x (by omega) (by omega)).trans (n1 x (by omega)))
        refine pb_iincP (c0 := 1) (lv2 := [_, _]) (pc2 := 155) dX11_init_152 rfl (by decide) rfl rfl ?_
        refine pb_goto (tgt := 133) dX11_init_155 (by decide) ?_
        refine ih (i + 1) h3 (by omega) (by omega) h63 (fun u hu => ?_) (fun u u1 u2 => ?_) (fun x hx => (nn x (by omega)).trans (nb x hx))
        · by_cases e : u = i
          · subst e
            exact ⟨(n3 _ (by omega)).trans f1, (n3 _ (by omega)).trans f2⟩
          · rw [nn _ (by omega), nn _ (by omega)]; exact hlo u (by omega)
        · rw [nn _ (by omega), nn _ (by omega)]; exact hfree u (by omega) u2
  refine pb_iconst (x := nI 0) (pc2 := 132) dX11_init_131 (by decide) rfl ?_
  refine pb_istore_n (lv2 := [_, _]) (pc2 := 133) dX11_init_132 rfl (by decide) rfl rfl ?_
  exact pots 11 0 h_ (by omega) (by omega) (by rw [cTo_0]; exact f63) (fun u hu => by omega) (fun u _ u2 => ⟨fn _ (by omega), fn _ (by omega)⟩) (fun _ _ => rfl)
/-- eyes, laid out -/
def sp_E (a b c : Nat) : Nat → Nat := fun j => if (5 ≤ j ∧ j < a) ∨ (11 ≤ j ∧ j < b) ∨ (16 ≤ j ∧ j < c) then 1 else 0
def sp_R (i v : Nat) : Nat → Nat := fun j => if j < i then v else 0
theorem sp_R_s (i v : Nat) : pb_un (sp_R i v) i v = sp_R (i + 1) v := by
  funext j
  unfold pb_un sp_R
  by_cases e : j = i
  · rw [if_pos e, if_pos (by omega)]
  · rw [if_neg e]
    by_cases e2 : j < i
    · rw [if_pos e2, if_pos (by omega)]
    · rw [if_neg e2, if_neg (by omega)]
theorem sp_E_s {a b c a' b' c' i : Nat} (h : ∀ j, ((5 ≤ j ∧ j < a') ∨ (11 ≤ j ∧ j < b') ∨ (16 ≤ j ∧ j < c')) ↔ (j = i ∨ ((5 ≤ j ∧ j < a) ∨ (11 ≤ j ∧ j < b) ∨ (16 ≤ j ∧ j < c)))) : pb_un (sp_E a b c) i 1 = sp_E a' b' c' := by
  funext j
  unfold pb_un sp_E
  have hj := h j
  by_cases e : j = i
  · rw [if_pos e, if_pos (by omega)]
  · rw [if_neg e]
    by_cases e2 : (5 ≤ j ∧ j < a) ∨ (11 ≤ j ∧ j < b) ∨ (16 ≤ j ∧ j < c)
    · rw [if_pos e2, if_pos (by omega)]
    · rw [if_neg e2, if_neg (by omega)]
set_option maxRecDepth 10000 in
theorem i_ref (ho : h 20 = some (.inr (.inr (10, [.int (nI 0), .int (nI 0), .int (nI 0), .null, .null, .null, .null, .null, .null, .null, .null, .null, .null, .null, .null, .null, .null, .null, .null, .null, .null, .null, .null, .int (nI 0), .null, .int (nI 0), .int (nI 0), .null, .null, .int (nI 0), .null, .null])))) (hn : ∀ x, 21 ≤ x → x < 60 → h x = none) : pb_T Z mX12_init 1 25 6019 [.ref 20] h (fun v h' => v = none ∧ pb_RF sp_0 h h') := by
  refine pb_T.of pnX12_init (Nat.le_of_ble_eq_true rfl) (lv := [some (.ref 20), none]) rfl ?_
  refine pb_aload_n (pc2 := 1) dX12_init_0 rfl rfl rfl ?_
  refine pb_objI (pc2 := 4) rfl olX12 dX12_init_1 (by omega) (Nat.le_of_ble_eq_true rfl) rfl ?_
  refine pb_aload_n (pc2 := 5) dX12_init_4 rfl rfl rfl ?_
  refine pb_bipush (x := nI 96) (pc2 := 7) dX12_init_5 (by decide) rfl ?_
  refine pb_newaG (23) (k2 := 24) (n2 := 5923) (pc2 := 9) dX12_init_7 ⟨by decide, rfl⟩ pb_aI (hn _ (by omega) (by omega)) (by omega) (by omega) (by omega) (by omega) rfl (fun h_ r_23 n1 => ?_)
  have ho := (n1 _ (by omega)).trans ho
  refine pb_putFG (fs2 := [_, _, _, _, _, _, _, _, _, _, _, _, _, _, _, _, _, _, _, _, _, _, _, _, _, _, _, _, _, _, _, _]) (pc2 := 12) flX12_13_X12 rfl dX12_init_9 ho (by omega) rfl rfl rfl rfl rfl rfl rfl (fun h_ ho n2 => ?_)
  refine pb_aload_n (pc2 := 13) dX12_init_12 rfl rfl rfl ?_
  refine pb_bipush (x := nI 96) (pc2 := 15) dX12_init_13 (by decide) rfl ?_
  refine pb_newaG (24) (k2 := 23) (n2 := 5827) (pc2 := 17) dX12_init_15 ⟨by decide, rfl⟩ pb_aI ((n2 _ (by omega)).trans ((n1 _ (by omega)).trans (hn _ (by omega) (by omega)))) (by omega) (by omega) (by omega) (by omega) rfl (fun h_ r_24 n3 => ?_)
  have ho := (n3 _ (by omega)).trans ho
  refine pb_putFG (fs2 := [_, _, _, _, _, _, _, _, _, _, _, _, _, _, _, _, _, _, _, _, _, _, _, _, _, _, _, _, _, _, _, _]) (pc2 := 20) flX12_17_X12 rfl dX12_init_17 ho (by omega) rfl rfl rfl rfl rfl rfl rfl (fun h_ ho n4 => ?_)
  refine pb_aload_n (pc2 := 21) dX12_init_20 rfl rfl rfl ?_
  refine pb_bipush (x := nI 12) (pc2 := 23) dX12_init_21 (by decide) rfl ?_
  refine pb_newaG (25) (k2 := 22) (n2 := 5815) (pc2 := 25) dX12_init_23 ⟨by decide, rfl⟩ pb_aI ((n4 _ (by omega)).trans ((n3 _ (by omega)).trans ((n2 _ (by omega)).trans ((n1 _ (by omega)).trans (hn _ (by omega) (by omega)))))) (by omega) (by omega) (by omega) (by omega) rfl (fun h_ r_25 n5 => ?_)
  have ho := (n5 _ (by omega)).trans ho
  refine pb_putFG (fs2 := [_, _, _, _, _, _, _, _, _, _, _, _, _, _, _, _, _, _, _, _, _, _, _, _, _, _, _, _, _, _, _, _]) (pc2 := 28) flX12_20_X12 rfl dX12_init_25 ho (by omega) rfl rfl rfl rfl rfl rfl rfl (fun h_ ho n6 => ?_)
  refine pb_aload_n (pc2 := 29) dX12_init_28 rfl rfl rfl ?_
  refine pb_bipush (x := nI 12) (pc2 := 31) dX12_init_29 (by decide) rfl ?_
  refine pb_newaG (26) (k2 := 21) (n2 := 5803) (pc2 := 33) dX12_init_31 ⟨by decide, rfl⟩ pb_aI ((n6 _ (by omega)).trans ((n5 _ (by omega)).trans ((n4 _ (by omega)).trans ((n3 _ (by omega)).trans ((n2 _ (by omega)).trans ((n1 _ (by omega)).trans (hn _ (by omega) (by omega)))))))) (by omega) (by omega) (by omega) (by omega) rfl (fun h_ r_26 n7 => ?_)
  have ho := (n7 _ (by omega)).trans ho
  refine pb_putFG (fs2 := [_, _, _, _, _, _, _, _, _, _, _, _, _, _, _, _, _, _, _, _, _, _, _, _, _, _, _, _, _, _, _, _]) (pc2 := 36) flX12_23_X12 rfl dX12_init_33 ho (by omega) rfl rfl rfl rfl rfl rfl rfl (fun h_ ho n8 => ?_)
  refine pb_aload_n (pc2 := 37) dX12_init_36 rfl rfl rfl ?_
  refine pb_bipush (x := nI 12) (pc2 := 39) dX12_init_37 (by decide) rfl ?_
  refine pb_newaG (27) (k2 := 20) (n2 := 5791) (pc2 := 41) dX12_init_39 ⟨by decide, rfl⟩ pb_aI ((n8 _ (by omega)).trans ((n7 _ (by omega)).trans ((n6 _ (by omega)).trans ((n5 _ (by omega)).trans ((n4 _ (by omega)).trans ((n3 _ (by omega)).trans ((n2 _ (by omega)).trans ((n1 _ (by omega)).trans (hn _ (by omega) (by omega)))))))))) (by omega) (by omega) (by omega) (by omega) rfl (fun h_ r_27 n9 => ?_)
  have ho := (n9 _ (by omega)).trans ho
  refine pb_putFG (fs2 := [_, _, _, _, _, _, _, _, _, _, _, _, _, _, _, _, _, _, _, _, _, _, _, _, _, _, _, _, _, _, _, _]) (pc2 := 44) flX12_26_X12 rfl dX12_init_41 ho (by omega) rfl rfl rfl rfl rfl rfl rfl (fun h_ ho n10 => ?_)
  refine pb_aload_n (pc2 := 45) dX12_init_44 rfl rfl rfl ?_
  refine pb_bipush (x := nI 12) (pc2 := 47) dX12_init_45 (by decide) rfl ?_
  refine pb_newaG (28) (k2 := 19) (n2 := 5779) (pc2 := 49) dX12_init_47 ⟨by decide, rfl⟩ pb_aI ((n10 _ (by omega)).trans ((n9 _ (by omega)).trans ((n8 _ (by omega)).trans ((n7 _ (by omega)).trans ((n6 _ (by omega)).trans ((n5 _ (by omega)).trans ((n4 _ (by omega)).trans ((n3 _ (by omega)).trans ((n2 _ (by omega)).trans ((n1 _ (by omega)).trans (hn _ (by omega) (by omega)))))))))))) (by omega) (by omega) (by omega) (by omega) rfl (fun h_ r_28 n11 => ?_)
  have ho := (n11 _ (by omega)).trans ho
  refine pb_putFG (fs2 := [_, _, _, _, _, _, _, _, _, _, _, _, _, _, _, _, _, _, _, _, _, _, _, _, _, _, _, _, _, _, _, _]) (pc2 := 52) flX12_29_X12 rfl dX12_init_49 ho (by omega) rfl rfl rfl rfl rfl rfl rfl (fun h_ ho n12 => ?_)
  refine pb_aload_n (pc2 := 53) dX12_init_52 rfl rfl rfl ?_
  refine pb_bipush (x := nI 12) (pc2 := 55) dX12_init_53 (by decide) rfl ?_
  refine pb_newaG (29) (k2 := 18) (n2 := 5767) (pc2 := 57) dX12_init_55 ⟨by decide, rfl⟩ pb_aI ((n12 _ (by omega)).trans ((n11 _ (by omega)).trans ((n10 _ (by omega)).trans ((n9 _ (by omega)).trans ((n8 _ (by omega)).trans ((n7 _ (by omega)).trans ((n6 _ (by omega)).trans ((n5 _ (by omega)).trans ((n4 _ (by omega)).trans ((n3 _ (by omega)).trans ((n2 _ (by omega)).trans ((n1 _ (by omega)).trans (hn _ (by omega) (by omega)))))))))))))) (by omega) (by omega) (by omega) (by omega) rfl (fun h_ r_29 n13 => ?_)
  have ho := (n13 _ (by omega)).trans ho
  refine pb_putFG (fs2 := [_, _, _, _, _, _, _, _, _, _, _, _, _, _, _, _, _, _, _, _, _, _, _, _, _, _, _, _, _, _, _, _]) (pc2 := 60) flX12_32_X12 rfl dX12_init_57 ho (by omega) rfl rfl rfl rfl rfl rfl rfl (fun h_ ho n14 => ?_)
  refine pb_aload_n (pc2 := 61) dX12_init_60 rfl rfl rfl ?_
  refine pb_bipush (x := nI 32) (pc2 := 63) dX12_init_61 (by decide) rfl ?_
  refine pb_newaG (30) (k2 := 17) (n2 := 5735) (pc2 := 65) dX12_init_63 ⟨by decide, rfl⟩ pb_aI ((n14 _ (by omega)).trans ((n13 _ (by omega)).trans ((n12 _ (by omega)).trans ((n11 _ (by omega)).trans ((n10 _ (by omega)).trans ((n9 _ (by omega)).trans ((n8 _ (by omega)).trans ((n7 _ (by omega)).trans ((n6 _ (by omega)).trans ((n5 _ (by omega)).trans ((n4 _ (by omega)).trans ((n3 _ (by omega)).trans ((n2 _ (by omega)).trans ((n1 _ (by omega)).trans (hn _ (by omega) (by omega)))))))))))))))) (by omega) (by omega) (by omega) (by omega) rfl (fun h_ r_30 n15 => ?_)
  have ho := (n15 _ (by omega)).trans ho
  refine pb_putFG (fs2 := [_, _, _, _, _, _, _, _, _, _, _, _, _, _, _, _, _, _, _, _, _, _, _, _, _, _, _, _, _, _, _, _]) (pc2 := 68) flX12_35_X12 rfl dX12_init_65 ho (by omega) rfl rfl rfl rfl rfl rfl rfl (fun h_ ho n16 => ?_)
  refine pb_aload_n (pc2 := 69) dX12_init_68 rfl rfl rfl ?_
  refine pb_bipush (x := nI 24) (pc2 := 71) dX12_init_69 (by decide) rfl ?_
  refine pb_newaG (31) (k2 := 16) (n2 := 5711) (pc2 := 73) dX12_init_71 ⟨by decide, rfl⟩ pb_aI ((n16 _ (by omega)).trans ((n15 _ (by omega)).trans ((n14 _ (by omega)).trans ((n13 _ (by omega)).trans ((n12 _ (by omega)).trans ((n11 _ (by omega)).trans ((n10 _ (by omega)).trans ((n9 _ (by omega)).trans ((n8 _ (by omega)).trans ((n7 _ (by omega)).trans ((n6 _ (by omega)).trans ((n5 _ (by omega)).trans ((n4 _ (by omega)).trans ((n3 _ (by omega)).trans ((n2 _ (by omega)).trans ((n1 _ (by omega)).trans (hn _ (by omega) (by omega)))))))))))))))))) (by omega) (by omega) (by omega) (by omega) rfl (fun h_ r_31 n17 => ?_)
  have ho := (n17 _ (by omega)).trans ho
  refine pb_putFG (fs2 := [_, _, _, _, _, _, _, _, _, _, _, _, _, _, _, _, _, _, _, _, _, _, _, _, _, _, _, _, _, _, _, _]) (pc2 := 76) flX12_38_X12 rfl dX12_init_73 ho (by omega) rfl rfl rfl rfl rfl rfl rfl (fun h_ ho n18 => ?_)
  refine pb_aload_n (pc2 := 77) dX12_init_76 rfl rfl rfl ?_
  refine pb_bipush (x := nI 8) (pc2 := 79) dX12_init_77 (by decide) rfl ?_
  refine pb_newaG (32) (k2 := 15) (n2 := 5703) (pc2 := 81) dX12_init_79 ⟨by decide, rfl⟩ pb_aI ((n18 _ (by omega)).trans ((n17 _ (by omega)).trans ((n16 _ (by omega)).trans ((n15 _ (by omega)).trans ((n14 _ (by omega)).trans ((n13 _ (by omega)).trans ((n12 _ (by omega)).trans ((n11 _ (by omega)).trans ((n10 _ (by omega)).trans ((n9 _ (by omega)).trans ((n8 _ (by omega)).trans ((n7 _ (by omega)).trans ((n6 _ (by omega)).trans ((n5 _ (by omega)).trans ((n4 _ (by omega)).trans ((n3 _ (by omega)).trans ((n2 _ (by omega)).trans ((n1 _ (by omega)).trans (hn _ (by omega) (by omega)))))))))))))))))))) (by omega) (by omega) (by omega) (by omega) rfl (fun h_ r_32 n19 => ?_)
  have ho := (n19 _ (by omega)).trans ho
  refine pb_putFG (fs2 := [_, _, _, _, _, _, _, _, _, _, _, _, _, _, _, _, _, _, _, _, _, _, _, _, _, _, _, _, _, _, _, _]) (pc2 := 84) flX12_41_X12 rfl dX12_init_81 ho (by omega) rfl rfl rfl rfl rfl rfl rfl (fun h_ ho n20 => ?_)
  refine pb_aload_n (pc2 := 85) dX12_init_84 rfl rfl rfl ?_
  refine pb_bipush (x := nI 120) (pc2 := 87) dX12_init_85 (by decide) rfl ?_
  refine pb_newaG (33) (k2 := 14) (n2 := 5583) (pc2 := 89) dX12_init_87 ⟨by decide, rfl⟩ pb_aI ((n20 _ (by omega)).trans ((n19 _ (by omega)).trans ((n18 _ (by omega)).trans ((n17 _ (by omega)).trans ((n16 _ (by omega)).trans ((n15 _ (by omega)).trans ((n14 _ (by omega)).trans ((n13 _ (by omega)).trans ((n12 _ (by omega)).trans ((n11 _ (by omega)).trans ((n10 _ (by omega)).trans ((n9 _ (by omega)).trans ((n8 _ (by omega)).trans ((n7 _ (by omega)).trans ((n6 _ (by omega)).trans ((n5 _ (by omega)).trans ((n4 _ (by omega)).trans ((n3 _ (by omega)).trans ((n2 _ (by omega)).trans ((n1 _ (by omega)).trans (hn _ (by omega) (by omega)))))))))))))))))))))) (by omega) (by omega) (by omega) (by omega) rfl (fun h_ r_33 n21 => ?_)
  have ho := (n21 _ (by omega)).trans ho
  refine pb_putFG (fs2 := [_, _, _, _, _, _, _, _, _, _, _, _, _, _, _, _, _, _, _, _, _, _, _, _, _, _, _, _, _, _, _, _]) (pc2 := 92) flX12_44_X12 rfl dX12_init_89 ho (by omega) rfl rfl rfl rfl rfl rfl rfl (fun h_ ho n22 => ?_)
  refine pb_aload_n (pc2 := 93) dX12_init_92 rfl rfl rfl ?_
  refine pb_bipush (x := nI 8) (pc2 := 95) dX12_init_93 (by decide) rfl ?_
  refine pb_newaG (34) (k2 := 13) (n2 := 5575) (pc2 := 97) dX12_init_95 ⟨by decide, rfl⟩ pb_aI ((n22 _ (by omega)).trans ((n21 _ (by omega)).trans ((n20 _ (by omega)).trans ((n19 _ (by omega)).trans ((n18 _ (by omega)).trans ((n17 _ (by omega)).trans ((n16 _ (by omega)).trans ((n15 _ (by omega)).trans ((n14 _ (by omega)).trans ((n13 _ (by omega)).trans ((n12 _ (by omega)).trans ((n11 _ (by omega)).trans ((n10 _ (by omega)).trans ((n9 _ (by omega)).trans ((n8 _ (by omega)).trans ((n7 _ (by omega)).trans ((n6 _ (by omega)).trans ((n5 _ (by omega)).trans ((n4 _ (by omega)).trans ((n3 _ (by omega)).trans ((n2 _ (by omega)).trans ((n1 _ (by omega)).trans (hn _ (by omega) (by omega)))))))))))))))))))))))) (by omega) (by omega) (by omega) (by omega) rfl (fun h_ r_34 n23 => ?_)
  have ho := (n23 _ (by omega)).trans ho
  refine pb_putFG (fs2 := [_, _, _, _, _, _, _, _, _, _, _, _, _, _, _, _, _, _, _, _, _, _, _, _, _, _, _, _, _, _, _, _]) (pc2 := 100) flX12_47_X12 rfl dX12_init_97 ho (by omega) rfl rfl rfl rfl rfl rfl rfl (fun h_ ho n24 => ?_)
  refine pb_aload_n (pc2 := 101) dX12_init_100 rfl rfl rfl ?_
  refine pb_bipush (x := nI 8) (pc2 := 103) dX12_init_101 (by decide) rfl ?_
  refine pb_newaG (35) (k2 := 12) (n2 := 5567) (pc2 := 105) dX12_init_103 ⟨by decide, rfl⟩ pb_aI ((n24 _ (by omega)).trans ((n23 _ (by omega)).trans ((n22 _ (by omega)).trans ((n21 _ (by omega)).trans ((n20 _ (by omega)).trans ((n19 _ (by omega)).trans ((n18 _ (by omega)).trans ((n17 _ (by omega)).trans ((n16 _ (by omega)).trans ((n15 _ (by omega)).trans ((n14 _ (by omega)).trans ((n13 _ (by omega)).trans ((n12 _ (by omega)).trans ((n11 _ (by omega)).trans ((n10 _ (by omega)).trans ((n9 _ (by omega)).trans ((n8 _ (by omega)).trans ((n7 _ (by omega)).trans ((n6 _ (by omega)).trans ((n5 _ (by omega)).trans ((n4 _ (by omega)).trans ((n3 _ (by omega)).trans ((n2 _ (by omega)).trans ((n1 _ (by omega)).trans (hn _ (by omega) (by omega)))))))))))))))))))))))))) (by omega) (by omega) (by omega) (by omega) rfl (fun h_ r_35 n25 => ?_)
  have ho := (n25 _ (by omega)).trans ho
  refine pb_putFG (fs2 := [_, _, _, _, _, _, _, _, _, _, _, _, _, _, _, _, _, _, _, _, _, _, _, _, _, _, _, _, _, _, _, _]) (pc2 := 108) flX12_50_X12 rfl dX12_init_105 ho (by omega) rfl rfl rfl rfl rfl rfl rfl (fun h_ ho n26 => ?_)
  refine pb_aload_n (pc2 := 109) dX12_init_108 rfl rfl rfl ?_
  refine pb_bipush (x := nI 10) (pc2 := 111) dX12_init_109 (by decide) rfl ?_
  refine pb_newaG (36) (k2 := 11) (n2 := 5557) (pc2 := 113) dX12_init_111 ⟨by decide, rfl⟩ pb_aI ((n26 _ (by omega)).trans ((n25 _ (by omega)).trans ((n24 _ (by omega)).trans ((n23 _ (by omega)).trans ((n22 _ (by omega)).trans ((n21 _ (by omega)).trans ((n20 _ (by omega)).trans ((n19 _ (by omega)).trans ((n18 _ (by omega)).trans ((n17 _ (by omega)).trans ((n16 _ (by omega)).trans ((n15 _ (by omega)).trans ((n14 _ (by omega)).trans ((n13 _ (by omega)).trans ((n12 _ (by omega)).trans ((n11 _ (by omega)).trans ((n10 _ (by omega)).trans ((n9 _ (by omega)).trans ((n8 _ (by omega)).trans ((n7 _ (by omega)).trans ((n6 _ (by omega)).trans ((n5 _ (by omega)).trans ((n4 _ (by omega)).trans ((n3 _ (by omega)).trans ((n2 _ (by omega)).trans ((n1 _ (by omega)).trans (hn _ (by omega) (by omega)))))))))))))))))))))))))))) (by omega) (by omega) (by omega) (by omega) rfl (fun h_ r_36 n27 => ?_)
  have ho := (n27 _ (by omega)).trans ho
  refine pb_putFG (fs2 := [_, _, _, _, _, _, _, _, _, _, _, _, _, _, _, _, _, _, _, _, _, _, _, _, _, _, _, _, _, _, _, _]) (pc2 := 116) flX12_53_X12 rfl dX12_init_113 ho (by omega) rfl rfl rfl rfl rfl rfl rfl (fun h_ ho n28 => ?_)
  refine pb_aload_n (pc2 := 117) dX12_init_116 rfl rfl rfl ?_
  refine pb_bipush (x := nI 10) (pc2 := 119) dX12_init_117 (by decide) rfl ?_
  refine pb_newaG (37) (k2 := 10) (n2 := 5547) (pc2 := 121) dX12_init_119 ⟨by decide, rfl⟩ pb_aI ((n28 _ (by omega)).trans ((n27 _ (by omega)).trans ((n26 _ (by omega)).trans ((n25 _ (by omega)).trans ((n24 _ (by omega)).trans ((n23 _ (by omega)).trans ((n22 _ (by omega)).trans ((n21 _ (by omega)).trans ((n20 _ (by omega)).trans ((n19 _ (by omega)).trans ((n18 _ (by omega)).trans ((n17 _ (by omega)).trans ((n16 _ (by omega)).trans ((n15 _ (by omega)).trans ((n14 _ (by omega)).trans ((n13 _ (by omega)).trans ((n12 _ (by omega)).trans ((n11 _ (by omega)).trans ((n10 _ (by omega)).trans ((n9 _ (by omega)).trans ((n8 _ (by omega)).trans ((n7 _ (by omega)).trans ((n6 _ (by omega)).trans ((n5 _ (by omega)).trans ((n4 _ (by omega)).trans ((n3 _ (by omega)).trans ((n2 _ (by omega)).trans ((n1 _ (by omega)).trans (hn _ (by omega) (by omega)))))))))))))))))))))))))))))) (by omega) (by omega) (by omega) (by omega) rfl (fun h_ r_37 n29 => ?_)
  have ho := (n29 _ (by omega)).trans ho
  refine pb_putFG (fs2 := [_, _, _, _, _, _, _, _, _, _, _, _, _, _, _, _, _, _, _, _, _, _, _, _, _, _, _, _, _, _, _, _]) (pc2 := 124) flX12_56_X12 rfl dX12_init_121 ho (by omega) rfl rfl rfl rfl rfl rfl rfl (fun h_ ho n30 => ?_)
  refine pb_aload_n (pc2 := 125) dX12_init_124 rfl rfl rfl ?_
  refine pb_bipush (x := nI 100) (pc2 := 127) dX12_init_125 (by decide) rfl ?_
  refine pb_newaG (38) (k2 := 9) (n2 := 5447) (pc2 := 129) dX12_init_127 ⟨by decide, rfl⟩ pb_aI ((n30 _ (by omega)).trans ((n29 _ (by omega)).trans ((n28 _ (by omega)).trans ((n27 _ (by omega)).trans ((n26 _ (by omega)).trans ((n25 _ (by omega)).trans ((n24 _ (by omega)).trans ((n23 _ (by omega)).trans ((n22 _ (by omega)).trans ((n21 _ (by omega)).trans ((n20 _ (by omega)).trans ((n19 _ (by omega)).trans ((n18 _ (by omega)).trans ((n17 _ (by omega)).trans ((n16 _ (by omega)).trans ((n15 _ (by omega)).trans ((n14 _ (by omega)).trans ((n13 _ (by omega)).trans ((n12 _ (by omega)).trans ((n11 _ (by omega)).trans ((n10 _ (by omega)).trans ((n9 _ (by omega)).trans ((n8 _ (by omega)).trans ((n7 _ (by omega)).trans ((n6 _ (by omega)).trans ((n5 _ (by omega)).trans ((n4 _ (by omega)).trans ((n3 _ (by omega)).trans ((n2 _ (by omega)).trans ((n1 _ (by omega)).trans (hn _ (by omega) (by omega)))))))))))))))))))))))))))))))) (by omega) (by omega) (by omega) (by omega) rfl (fun h_ r_38 n31 => ?_)
  have ho := (n31 _ (by omega)).trans ho
  refine pb_putFG (fs2 := [_, _, _, _, _, _, _, _, _, _, _, _, _, _, _, _, _, _, _, _, _, _, _, _, _, _, _, _, _, _, _, _]) (pc2 := 132) flX12_59_X12 rfl dX12_init_129 ho (by omega) rfl rfl rfl rfl rfl rfl rfl (fun h_ ho n32 => ?_)
  refine pb_aload_n (pc2 := 133) dX12_init_132 rfl rfl rfl ?_
  refine pb_bipush (x := nI 100) (pc2 := 135) dX12_init_133 (by decide) rfl ?_
  refine pb_newaG (39) (k2 := 8) (n2 := 5347) (pc2 := 137) dX12_init_135 ⟨by decide, rfl⟩ pb_aI ((n32 _ (by omega)).trans ((n31 _ (by omega)).trans ((n30 _ (by omega)).trans ((n29 _ (by omega)).trans ((n28 _ (by omega)).trans ((n27 _ (by omega)).trans ((n26 _ (by omega)).trans ((n25 _ (by omega)).trans ((n24 _ (by omega)).trans ((n23 _ (by omega)).trans ((n22 _ (by omega)).trans ((n21 _ (by omega)).trans ((n20 _ (by omega)).trans ((n19 _ (by omega)).trans ((n18 _ (by omega)).trans ((n17 _ (by omega)).trans ((n16 _ (by omega)).trans ((n15 _ (by omega)).trans ((n14 _ (by omega)).trans ((n13 _ (by omega)).trans ((n12 _ (by omega)).trans ((n11 _ (by omega)).trans ((n10 _ (by omega)).trans ((n9 _ (by omega)).trans ((n8 _ (by omega)).trans ((n7 _ (by omega)).trans ((n6 _ (by omega)).trans ((n5 _ (by omega)).trans ((n4 _ (by omega)).trans ((n3 _ (by omega)).trans ((n2 _ (by omega)).trans ((n1 _ (by omega)).trans (hn _ (by omega) (by omega)))))))))))))))))))))))))))))))))) (by omega) (by omega) (by omega) (by omega) rfl (fun h_ r_39 n33 => ?_)
  have ho := (n33 _ (by omega)).trans ho
  refine pb_putFG (fs2 := [_, _, _, _, _, _, _, _, _, _, _, _, _, _, _, _, _, _, _, _, _, _, _, _, _, _, _, _, _, _, _, _]) (pc2 := 140) flX12_62_X12 rfl dX12_init_137 ho (by omega) rfl rfl rfl rfl rfl rfl rfl (fun h_ ho n34 => ?_)
  refine pb_aload_n (pc2 := 141) dX12_init_140 rfl rfl rfl ?_
  refine pb_sipush (x := nI 1200) (pc2 := 144) dX12_init_141 (by decide) rfl ?_
  refine pb_newaG (40) (k2 := 7) (n2 := 4147) (pc2 := 146) dX12_init_144 ⟨by decide, rfl⟩ pb_aI ((n34 _ (by omega)).trans ((n33 _ (by omega)).trans ((n32 _ (by omega)).trans ((n31 _ (by omega)).trans ((n30 _ (by omega)).trans ((n29 _ (by omega)).trans ((n28 _ (by omega)).trans ((n27 _ (by omega)).trans ((n26 _ (by omega)).trans ((n25 _ (by omega)).trans ((n24 _ (by omega)).trans ((n23 _ (by omega)).trans ((n22 _ (by omega)).trans ((n21 _ (by omega)).trans ((n20 _ (by omega)).trans ((n19 _ (by omega)).trans ((n18 _ (by omega)).trans ((n17 _ (by omega)).trans ((n16 _ (by omega)).trans ((n15 _ (by omega)).trans ((n14 _ (by omega)).trans ((n13 _ (by omega)).trans ((n12 _ (by omega)).trans ((n11 _ (by omega)).trans ((n10 _ (by omega)).trans ((n9 _ (by omega)).trans ((n8 _ (by omega)).trans ((n7 _ (by omega)).trans ((n6 _ (by omega)).trans ((n5 _ (by omega)).trans ((n4 _ (by omega)).trans ((n3 _ (by omega)).trans ((n2 _ (by omega)).trans ((n1 _ (by omega)).trans (hn _ (by omega) (by omega)))))))))))))))))))))))))))))))))))) (by omega) (by omega) (by omega) (by omega) rfl (fun h_ r_40 n35 => ?_)
  have ho := (n35 _ (by omega)).trans ho
  refine pb_putFG (fs2 := [_, _, _, _, _, _, _, _, _, _, _, _, _, _, _, _, _, _, _, _, _, _, _, _, _, _, _, _, _, _, _, _]) (pc2 := 149) flX12_65_X12 rfl dX12_init_146 ho (by omega) rfl rfl rfl rfl rfl rfl rfl (fun h_ ho n36 => ?_)
  refine pb_aload_n (pc2 := 150) dX12_init_149 rfl rfl rfl ?_
  refine pb_iconst (x := nI 3) (pc2 := 151) dX12_init_150 (by decide) rfl ?_
  refine pb_newaG (41) (k2 := 6) (n2 := 4144) (pc2 := 153) dX12_init_151 ⟨by decide, rfl⟩ pb_aI ((n36 _ (by omega)).trans ((n35 _ (by omega)).trans ((n34 _ (by omega)).trans ((n33 _ (by omega)).trans ((n32 _ (by omega)).trans ((n31 _ (by omega)).trans ((n30 _ (by omega)).trans ((n29 _ (by omega)).trans ((n28 _ (by omega)).trans ((n27 _ (by omega)).trans ((n26 _ (by omega)).trans ((n25 _ (by omega)).trans ((n24 _ (by omega)).trans ((n23 _ (by omega)).trans ((n22 _ (by omega)).trans ((n21 _ (by omega)).trans ((n20 _ (by omega)).trans ((n19 _ (by omega)).trans ((n18 _ (by omega)).trans ((n17 _ (by omega)).trans ((n16 _ (by omega)).trans ((n15 _ (by omega)).trans ((n14 _ (by omega)).trans ((n13 _ (by omega)).trans ((n12 _ (by omega)).trans ((n11 _ (by omega)).trans ((n10 _ (by omega)).trans ((n9 _ (by omega)).trans ((n8 _ (by omega)).trans ((n7 _ (by omega)).trans ((n6 _ (by omega)).trans ((n5 _ (by omega)).trans ((n4 _ (by omega)).trans ((n3 _ (by omega)).trans ((n2 _ (by omega)).trans ((n1 _ (by omega)).trans (hn _ (by omega) (by omega)))))))))))))))))))))))))))))))))))))) (by omega) (by omega) (by omega) (by omega) rfl (fun h_ r_41 n37 => ?_)
  have ho := (n37 _ (by omega)).trans ho
  refine pb_putFG (fs2 := [_, _, _, _, _, _, _, _, _, _, _, _, _, _, _, _, _, _, _, _, _, _, _, _, _, _, _, _, _, _, _, _]) (pc2 := 156) flX12_68_X12 rfl dX12_init_153 ho (by omega) rfl rfl rfl rfl rfl rfl rfl (fun h_ ho n38 => ?_)
  refine pb_aload_n (pc2 := 157) dX12_init_156 rfl rfl rfl ?_
  refine pb_bipush (x := nI 12) (pc2 := 159) dX12_init_157 (by decide) rfl ?_
  refine pb_newaG (42) (k2 := 5) (n2 := 4132) (pc2 := 161) dX12_init_159 ⟨by decide, rfl⟩ pb_aI ((n38 _ (by omega)).trans ((n37 _ (by omega)).trans ((n36 _ (by omega)).trans ((n35 _ (by omega)).trans ((n34 _ (by omega)).trans ((n33 _ (by omega)).trans ((n32 _ (by omega)).trans ((n31 _ (by omega)).trans ((n30 _ (by omega)).trans ((n29 _ (by omega)).trans ((n28 _ (by omega)).trans ((n27 _ (by omega)).trans ((n26 _ (by omega)).trans ((n25 _ (by omega)).trans ((n24 _ (by omega)).trans ((n23 _ (by omega)).trans ((n22 _ (by omega)).trans ((n21 _ (by omega)).trans ((n20 _ (by omega)).trans ((n19 _ (by omega)).trans ((n18 _ (by omega)).trans ((n17 _ (by omega)).trans ((n16 _ (by omega)).trans ((n15 _ (by omega)).trans ((n14 _ (by omega)).trans ((n13 _ (by omega)).trans ((n12 _ (by omega)).trans ((n11 _ (by omega)).trans ((n10 _ (by omega)).trans ((n9 _ (by omega)).trans ((n8 _ (by omega)).trans ((n7 _ (by omega)).trans ((n6 _ (by omega)).trans ((n5 _ (by omega)).trans ((n4 _ (by omega)).trans ((n3 _ (by omega)).trans ((n2 _ (by omega)).trans ((n1 _ (by omega)).trans (hn _ (by omega) (by omega)))))))))))))))))))))))))))))))))))))))) (by omega) (by omega) (by omega) (by omega) rfl (fun h_ r_42 n39 => ?_)
  have ho := (n39 _ (by omega)).trans ho
  refine pb_putFG (fs2 := [_, _, _, _, _, _, _, _, _, _, _, _, _, _, _, _, _, _, _, _, _, _, _, _, _, _, _, _, _, _, _, _]) (pc2 := 164) flX12_71_X12 rfl dX12_init_161 ho (by omega) rfl rfl rfl rfl rfl rfl rfl (fun h_ ho n40 => ?_)
  refine pb_aload_n (pc2 := 165) dX12_init_164 rfl rfl rfl ?_
  refine pb_bipush (x := nI 12) (pc2 := 167) dX12_init_165 (by decide) rfl ?_
  refine pb_newaG (44) (k2 := 4) (n2 := 4120) (pc2 := 169) dX12_init_167 ⟨by decide, rfl⟩ pb_aI ((n40 _ (by omega)).trans ((n39 _ (by omega)).trans ((n38 _ (by omega)).trans ((n37 _ (by omega)).trans ((n36 _ (by omega)).trans ((n35 _ (by omega)).trans ((n34 _ (by omega)).trans ((n33 _ (by omega)).trans ((n32 _ (by omega)).trans ((n31 _ (by omega)).trans ((n30 _ (by omega)).trans ((n29 _ (by omega)).trans ((n28 _ (by omega)).trans ((n27 _ (by omega)).trans ((n26 _ (by omega)).trans ((n25 _ (by omega)).trans ((n24 _ (by omega)).trans ((n23 _ (by omega)).trans ((n22 _ (by omega)).trans ((n21 _ (by omega)).trans ((n20 _ (by omega)).trans ((n19 _ (by omega)).trans ((n18 _ (by omega)).trans ((n17 _ (by omega)).trans ((n16 _ (by omega)).trans ((n15 _ (by omega)).trans ((n14 _ (by omega)).trans ((n13 _ (by omega)).trans ((n12 _ (by omega)).trans ((n11 _ (by omega)).trans ((n10 _ (by omega)).trans ((n9 _ (by omega)).trans ((n8 _ (by omega)).trans ((n7 _ (by omega)).trans ((n6 _ (by omega)).trans ((n5 _ (by omega)).trans ((n4 _ (by omega)).trans ((n3 _ (by omega)).trans ((n2 _ (by omega)).trans ((n1 _ (by omega)).trans (hn _ (by omega) (by omega)))))))))))))))))))))))))))))))))))))))))) (by omega) (by omega) (by omega) (by omega) rfl (fun h_ r_44 n41 => ?_)
  have ho := (n41 _ (by omega)).trans ho
  refine pb_putFG (fs2 := [_, _, _, _, _, _, _, _, _, _, _, _, _, _, _, _, _, _, _, _, _, _, _, _, _, _, _, _, _, _, _, _]) (pc2 := 172) flX12_74_X12 rfl dX12_init_169 ho (by omega) rfl rfl rfl rfl rfl rfl rfl (fun h_ ho n42 => ?_)
  refine pb_aload_n (pc2 := 173) dX12_init_172 rfl rfl rfl ?_
  refine pb_iconst (x := -1) (pc2 := 174) dX12_init_173 (by decide) rfl ?_
  refine pb_top (v2 := .int (nI 4294967295)) (by decide) ?_
  refine pb_putG (fs2 := [_, _, _, _, _, _, _, _, _, _, _, _, _, _, _, _, _, _, _, _, _, _, _, _, _, _, _, _, _, _, _, _]) (pc2 := 177) flX12_77_X12 rfl dX12_init_174 ho (by omega) rfl rfl rfl rfl rfl (fun h_ ho n43 => ?_)
  refine pb_aload_n (pc2 := 178) dX12_init_177 rfl rfl rfl ?_
  refine pb_iconst (x := nI 3) (pc2 := 179) dX12_init_178 (by decide) rfl ?_
  refine pb_newaG (47) (k2 := 3) (n2 := 4117) (pc2 := 181) dX12_init_179 ⟨by decide, rfl⟩ pb_aI ((n43 _ (by omega)).trans ((n42 _ (by omega)).trans ((n41 _ (by omega)).trans ((n40 _ (by omega)).trans ((n39 _ (by omega)).trans ((n38 _ (by omega)).trans ((n37 _ (by omega)).trans ((n36 _ (by omega)).trans ((n35 _ (by omega)).trans ((n34 _ (by omega)).trans ((n33 _ (by omega)).trans ((n32 _ (by omega)).trans ((n31 _ (by omega)).trans ((n30 _ (by omega)).trans ((n29 _ (by omega)).trans ((n28 _ (by omega)).trans ((n27 _ (by omega)).trans ((n26 _ (by omega)).trans ((n25 _ (by omega)).trans ((n24 _ (by omega)).trans ((n23 _ (by omega)).trans ((n22 _ (by omega)).trans ((n21 _ (by omega)).trans ((n20 _ (by omega)).trans ((n19 _ (by omega)).trans ((n18 _ (by omega)).trans ((n17 _ (by omega)).trans ((n16 _ (by omega)).trans ((n15 _ (by omega)).trans ((n14 _ (by omega)).trans ((n13 _ (by omega)).trans ((n12 _ (by omega)).trans ((n11 _ (by omega)).trans ((n10 _ (by omega)).trans ((n9 _ (by omega)).trans ((n8 _ (by omega)).trans ((n7 _ (by omega)).trans ((n6 _ (by omega)).trans ((n5 _ (by omega)).trans ((n4 _ (by omega)).trans ((n3 _ (by omega)).trans ((n2 _ (by omega)).trans ((n1 _ (by omega)).trans (hn _ (by omega) (by omega))))))))))))))))))))))))))))))))))))))))))))) (by omega) (by omega) (by omega) (by omega) rfl (fun h_ r_47 n44 => ?_)
  have ho := (n44 _ (by omega)).trans ho
  refine pb_putFG (fs2 := [_, _, _, _, _, _, _, _, _, _, _, _, _, _, _, _, _, _, _, _, _, _, _, _, _, _, _, _, _, _, _, _]) (pc2 := 184) flX12_80_X12 rfl dX12_init_181 ho (by omega) rfl rfl rfl rfl rfl rfl rfl (fun h_ ho n45 => ?_)
  refine pb_aload_n (pc2 := 185) dX12_init_184 rfl rfl rfl ?_
  refine pb_iconst (x := nI 3) (pc2 := 186) dX12_init_185 (by decide) rfl ?_
  refine pb_newaG (48) (k2 := 2) (n2 := 4114) (pc2 := 188) dX12_init_186 ⟨by decide, rfl⟩ pb_aI ((n45 _ (by omega)).trans ((n44 _ (by omega)).trans ((n43 _ (by omega)).trans ((n42 _ (by omega)).trans ((n41 _ (by omega)).trans ((n40 _ (by omega)).trans ((n39 _ (by omega)).trans ((n38 _ (by omega)).trans ((n37 _ (by omega)).trans ((n36 _ (by omega)).trans ((n35 _ (by omega)).trans ((n34 _ (by omega)).trans ((n33 _ (by omega)).trans ((n32 _ (by omega)).trans ((n31 _ (by omega)).trans ((n30 _ (by omega)).trans ((n29 _ (by omega)).trans ((n28 _ (by omega)).trans ((n27 _ (by omega)).trans ((n26 _ (by omega)).trans ((n25 _ (by omega)).trans ((n24 _ (by omega)).trans ((n23 _ (by omega)).trans ((n22 _ (by omega)).trans ((n21 _ (by omega)).trans ((n20 _ (by omega)).trans ((n19 _ (by omega)).trans ((n18 _ (by omega)).trans ((n17 _ (by omega)).trans ((n16 _ (by omega)).trans ((n15 _ (by omega)).trans ((n14 _ (by omega)).trans ((n13 _ (by omega)).trans ((n12 _ (by omega)).trans ((n11 _ (by omega)).trans ((n10 _ (by omega)).trans ((n9 _ (by omega)).trans ((n8 _ (by omega)).trans ((n7 _ (by omega)).trans ((n6 _ (by omega)).trans ((n5 _ (by omega)).trans ((n4 _ (by omega)).trans ((n3 _ (by omega)).trans ((n2 _ (by omega)).trans ((n1 _ (by omega)).trans (hn _ (by omega) (by omega))))))))))))))))))))))))))))))))))))))))))))))) (by omega) (by omega) (by omega) (by omega) rfl (fun h_ r_48 n46 => ?_)
  have ho := (n46 _ (by omega)).trans ho
  refine pb_putFG (fs2 := [_, _, _, _, _, _, _, _, _, _, _, _, _, _, _, _, _, _, _, _, _, _, _, _, _, _, _, _, _, _, _, _]) (pc2 := 191) flX12_83_X12 rfl dX12_init_188 ho (by omega) rfl rfl rfl rfl rfl rfl rfl (fun h_ ho n47 => ?_)
  refine pb_aload_n (pc2 := 192) dX12_init_191 rfl rfl rfl ?_
  refine pb_bipush (x := nI 18) (pc2 := 194) dX12_init_192 (by decide) rfl ?_
  refine pb_newaG (50) (k2 := 1) (n2 := 4096) (pc2 := 196) dX12_init_194 ⟨by decide, rfl⟩ pb_aI ((n47 _ (by omega)).trans ((n46 _ (by omega)).trans ((n45 _ (by omega)).trans ((n44 _ (by omega)).trans ((n43 _ (by omega)).trans ((n42 _ (by omega)).trans ((n41 _ (by omega)).trans ((n40 _ (by omega)).trans ((n39 _ (by omega)).trans ((n38 _ (by omega)).trans ((n37 _ (by omega)).trans ((n36 _ (by omega)).trans ((n35 _ (by omega)).trans ((n34 _ (by omega)).trans ((n33 _ (by omega)).trans ((n32 _ (by omega)).trans ((n31 _ (by omega)).trans ((n30 _ (by omega)).trans ((n29 _ (by omega)).trans ((n28 _ (by omega)).trans ((n27 _ (by omega)).trans ((n26 _ (by omega)).trans ((n25 _ (by omega)).trans ((n24 _ (by omega)).trans ((n23 _ (by omega)).trans ((n22 _ (by omega)).trans ((n21 _ (by omega)).trans ((n20 _ (by omega)).trans ((n19 _ (by omega)).trans ((n18 _ (by omega)).trans ((n17 _ (by omega)).trans ((n16 _ (by omega)).trans ((n15 _ (by omega)).trans ((n14 _ (by omega)).trans ((n13 _ (by omega)).trans ((n12 _ (by omega)).trans ((n11 _ (by omega)).trans ((n10 _ (by omega)).trans ((n9 _ (by omega)).trans ((n8 _ (by omega)).trans ((n7 _ (by omega)).trans ((n6 _ (by omega)).trans ((n5 _ (by omega)).trans ((n4 _ (by omega)).trans ((n3 _ (by omega)).trans ((n2 _ (by omega)).trans ((n1 _ (by omega)).trans (hn _ (by omega) (by omega))))))))))))))))))))))))))))))))))))))))))))))))) (by omega) (by omega) (by omega) (by omega) rfl (fun h_ r_50 n48 => ?_)
  have ho := (n48 _ (by omega)).trans ho
  refine pb_putFG (fs2 := [_, _, _, _, _, _, _, _, _, _, _, _, _, _, _, _, _, _, _, _, _, _, _, _, _, _, _, _, _, _, _, _]) (pc2 := 199) flX12_86_X12 rfl dX12_init_196 ho (by omega) rfl rfl rfl rfl rfl rfl rfl (fun h_ ho n49 => ?_)
  refine pb_aload_n (pc2 := 200) dX12_init_199 rfl rfl rfl ?_
  refine pb_sipush (x := nI 4096) (pc2 := 203) dX12_init_200 (by decide) rfl ?_
  refine pb_newaG (51) (k2 := 0) (n2 := 0) (pc2 := 205) dX12_init_203 ⟨by decide, rfl⟩ pb_aI ((n49 _ (by omega)).trans ((n48 _ (by omega)).trans ((n47 _ (by omega)).trans ((n46 _ (by omega)).trans ((n45 _ (by omega)).trans ((n44 _ (by omega)).trans ((n43 _ (by omega)).trans ((n42 _ (by omega)).trans ((n41 _ (by omega)).trans ((n40 _ (by omega)).trans ((n39 _ (by omega)).trans ((n38 _ (by omega)).trans ((n37 _ (by omega)).trans ((n36 _ (by omega)).trans ((n35 _ (by omega)).trans ((n34 _ (by omega)).trans ((n33 _ (by omega)).trans ((n32 _ (by omega)).trans ((n31 _ (by omega)).trans ((n30 _ (by omega)).trans ((n29 _ (by omega)).trans ((n28 _ (by omega)).trans ((n27 _ (by omega)).trans ((n26 _ (by omega)).trans ((n25 _ (by omega)).trans ((n24 _ (by omega)).trans ((n23 _ (by omega)).trans ((n22 _ (by omega)).trans ((n21 _ (by omega)).trans ((n20 _ (by omega)).trans ((n19 _ (by omega)).trans ((n18 _ (by omega)).trans ((n17 _ (by omega)).trans ((n16 _ (by omega)).trans ((n15 _ (by omega)).trans ((n14 _ (by omega)).trans ((n13 _ (by omega)).trans ((n12 _ (by omega)).trans ((n11 _ (by omega)).trans ((n10 _ (by omega)).trans ((n9 _ (by omega)).trans ((n8 _ (by omega)).trans ((n7 _ (by omega)).trans ((n6 _ (by omega)).trans ((n5 _ (by omega)).trans ((n4 _ (by omega)).trans ((n3 _ (by omega)).trans ((n2 _ (by omega)).trans ((n1 _ (by omega)).trans (hn _ (by omega) (by omega))))))))))))))))))))))))))))))))))))))))))))))))))) (by omega) (by omega) (by omega) (by omega) rfl (fun h_ r_51 n50 => ?_)
  have ho := (n50 _ (by omega)).trans ho
  refine pb_putFG (fs2 := [_, _, _, _, _, _, _, _, _, _, _, _, _, _, _, _, _, _, _, _, _, _, _, _, _, _, _, _, _, _, _, _]) (pc2 := 208) flX12_89_X12 rfl dX12_init_205 ho (by omega) rfl rfl rfl rfl rfl rfl rfl (fun h_ ho n51 => ?_)
  have f_23 := ((n51 _ (by omega)).trans ((n50 _ (by omega)).trans ((n49 _ (by omega)).trans ((n48 _ (by omega)).trans ((n47 _ (by omega)).trans ((n46 _ (by omega)).trans ((n45 _ (by omega)).trans ((n44 _ (by omega)).trans ((n43 _ (by omega)).trans ((n42 _ (by omega)).trans ((n41 _ (by omega)).trans ((n40 _ (by omega)).trans ((n39 _ (by omega)).trans ((n38 _ (by omega)).trans ((n37 _ (by omega)).trans ((n36 _ (by omega)).trans ((n35 _ (by omega)).trans ((n34 _ (by omega)).trans ((n33 _ (by omega)).trans ((n32 _ (by omega)).trans ((n31 _ (by omega)).trans ((n30 _ (by omega)).trans ((n29 _ (by omega)).trans ((n28 _ (by omega)).trans ((n27 _ (by omega)).trans ((n26 _ (by omega)).trans ((n25 _ (by omega)).trans ((n24 _ (by omega)).trans ((n23 _ (by omega)).trans ((n22 _ (by omega)).trans ((n21 _ (by omega)).trans ((n20 _ (by omega)).trans ((n19 _ (by omega)).trans ((n18 _ (by omega)).trans ((n17 _ (by omega)).trans ((n16 _ (by omega)).trans ((n15 _ (by omega)).trans ((n14 _ (by omega)).trans ((n13 _ (by omega)).trans ((n12 _ (by omega)).trans ((n11 _ (by omega)).trans ((n10 _ (by omega)).trans ((n9 _ (by omega)).trans ((n8 _ (by omega)).trans ((n7 _ (by omega)).trans ((n6 _ (by omega)).trans ((n5 _ (by omega)).trans ((n4 _ (by omega)).trans ((n3 _ (by omega)).trans ((n2 _ (by omega)).trans r_23))))))))))))))))))))))))))))))))))))))))))))))))))
  have f_24 := ((n51 _ (by omega)).trans ((n50 _ (by omega)).trans ((n49 _ (by omega)).trans ((n48 _ (by omega)).trans ((n47 _ (by omega)).trans ((n46 _ (by omega)).trans ((n45 _ (by omega)).trans ((n44 _ (by omega)).trans ((n43 _ (by omega)).trans ((n42 _ (by omega)).trans ((n41 _ (by omega)).trans ((n40 _ (by omega)).trans ((n39 _ (by omega)).trans ((n38 _ (by omega)).trans ((n37 _ (by omega)).trans ((n36 _ (by omega)).trans ((n35 _ (by omega)).trans ((n34 _ (by omega)).trans ((n33 _ (by omega)).trans ((n32 _ (by omega)).trans ((n31 _ (by omega)).trans ((n30 _ (by omega)).trans ((n29 _ (by omega)).trans ((n28 _ (by omega)).trans ((n27 _ (by omega)).trans ((n26 _ (by omega)).trans ((n25 _ (by omega)).trans ((n24 _ (by omega)).trans ((n23 _ (by omega)).trans ((n22 _ (by omega)).trans ((n21 _ (by omega)).trans ((n20 _ (by omega)).trans ((n19 _ (by omega)).trans ((n18 _ (by omega)).trans ((n17 _ (by omega)).trans ((n16 _ (by omega)).trans ((n15 _ (by omega)).trans ((n14 _ (by omega)).trans ((n13 _ (by omega)).trans ((n12 _ (by omega)).trans ((n11 _ (by omega)).trans ((n10 _ (by omega)).trans ((n9 _ (by omega)).trans ((n8 _ (by omega)).trans ((n7 _ (by omega)).trans ((n6 _ (by omega)).trans ((n5 _ (by omega)).trans ((n4 _ (by omega)).trans r_24))))))))))))))))))))))))))))))))))))))))))))))))
  have f_25 := ((n51 _ (by omega)).trans ((n50 _ (by omega)).trans ((n49 _ (by omega)).trans ((n48 _ (by omega)).trans ((n47 _ (by omega)).trans ((n46 _ (by omega)).trans ((n45 _ (by omega)).trans ((n44 _ (by omega)).trans ((n43 _ (by omega)).trans ((n42 _ (by omega)).trans ((n41 _ (by omega)).trans ((n40 _ (by omega)).trans ((n39 _ (by omega)).trans ((n38 _ (by omega)).trans ((n37 _ (by omega)).trans ((n36 _ (by omega)).trans ((n35 _ (by omega)).trans ((n34 _ (by omega)).trans ((n33 _ (by omega)).trans ((n32 _ (by omega)).trans ((n31 _ (by omega)).trans ((n30 _ (by omega)).trans ((n29 _ (by omega)).trans ((n28 _ (by omega)).trans ((n27 _ (by omega)).trans ((n26 _ (by omega)).trans ((n25 _ (by omega)).trans ((n24 _ (by omega)).trans ((n23 _ (by omega)).trans ((n22 _ (by omega)).trans ((n21 _ (by omega)).trans ((n20 _ (by omega)).trans ((n19 _ (by omega)).trans ((n18 _ (by omega)).trans ((n17 _ (by omega)).trans ((n16 _ (by omega)).trans ((n15 _ (by omega)).trans ((n14 _ (by omega)).trans ((n13 _ (by omega)).trans ((n12 _ (by omega)).trans ((n11 _ (by omega)).trans ((n10 _ (by omega)).trans ((n9 _ (by omega)).trans ((n8 _ (by omega)).trans ((n7 _ (by omega)).trans ((n6 _ (by omega)).trans r_25))))))))))))))))))))))))))))))))))))))))))))))
  have f_26 := ((n51 _ (by omega)).trans ((n50 _ (by omega)).trans ((n49 _ (by omega)).trans ((n48 _ (by omega)).trans ((n47 _ (by omega)).trans ((n46 _ (by omega)).trans ((n45 _ (by omega)).trans ((n44 _ (by omega)).trans ((n43 _ (by omega)).trans ((n42 _ (by omega)).trans ((n41 _ (by omega)).trans ((n40 _ (by omega)).trans ((n39 _ (by omega)).trans ((n38 _ (by omega)).trans ((n37 _ (by omega)).trans ((n36 _ (by omega)).trans ((n35 _ (by omega)).trans ((n34 _ (by omega)).trans ((n33 _ (by omega)).trans ((n32 _ (by omega)).trans ((n31 _ (by omega)).trans ((n30 _ (by omega)).trans ((n29 _ (by omega)).trans ((n28 _ (by omega)).trans ((n27 _ (by omega)).trans ((n26 _ (by omega)).trans ((n25 _ (by omega)).trans ((n24 _ (by omega)).trans ((n23 _ (by omega)).trans ((n22 _ (by omega)).trans ((n21 _ (by omega)).trans ((n20 _ (by omega)).trans ((n19 _ (by omega)).trans ((n18 _ (by omega)).trans ((n17 _ (by omega)).trans ((n16 _ (by omega)).trans ((n15 _ (by omega)).trans ((n14 _ (by omega)).trans ((n13 _ (by omega)).trans ((n12 _ (by omega)).trans ((n11 _ (by omega)).trans ((n10 _ (by omega)).trans ((n9 _ (by omega)).trans ((n8 _ (by omega)).trans r_26))))))))))))))))))))))))))))))))))))))))))))
  have f_27 := ((n51 _ (by omega)).trans ((n50 _ (by omega)).trans ((n49 _ (by omega)).trans ((n48 _ (by omega)).trans ((n47 _ (by omega)).trans ((n46 _ (by omega)).trans ((n45 _ (by omega)).trans ((n44 _ (by omega)).trans ((n43 _ (by omega)).trans ((n42 _ (by omega)).trans ((n41 _ (by omega)).trans ((n40 _ (by omega)).trans ((n39 _ (by omega)).trans ((n38 _ (by omega)).trans ((n37 _ (by omega)).trans ((n36 _ (by omega)).trans ((n35 _ (by omega)).trans ((n34 _ (by omega)).trans ((n33 _ (by omega)).trans ((n32 _ (by omega)).trans ((n31 _ (by omega)).trans ((n30 _ (by omega)).trans ((n29 _ (by omega)).trans ((n28 _ (by omega)).trans ((n27 _ (by omega)).trans ((n26 _ (by omega)).trans ((n25 _ (by omega)).trans ((n24 _ (by omega)).trans ((n23 _ (by omega)).trans ((n22 _ (by omega)).trans ((n21 _ (by omega)).trans ((n20 _ (by omega)).trans ((n19 _ (by omega)).trans ((n18 _ (by omega)).trans ((n17 _ (by omega)).trans ((n16 _ (by omega)).trans ((n15 _ (by omega)).trans ((n14 _ (by omega)).trans ((n13 _ (by omega)).trans ((n12 _ (by omega)).trans ((n11 _ (by omega)).trans ((n10 _ (by omega)).trans r_27))))))))))))))))))))))))))))))))))))))))))
  have f_28 := ((n51 _ (by omega)).trans ((n50 _ (by omega)).trans ((n49 _ (by omega)).trans ((n48 _ (by omega)).trans ((n47 _ (by omega)).trans ((n46 _ (by omega)).trans ((n45 _ (by omega)).trans ((n44 _ (by omega)).trans ((n43 _ (by omega)).trans ((n42 _ (by omega)).trans ((n41 _ (by omega)).trans ((n40 _ (by omega)).trans ((n39 _ (by omega)).trans ((n38 _ (by omega)).trans ((n37 _ (by omega)).trans ((n36 _ (by omega)).trans ((n35 _ (by omega)).trans ((n34 _ (by omega)).trans ((n33 _ (by omega)).trans ((n32 _ (by omega)).trans ((n31 _ (by omega)).trans ((n30 _ (by omega)).trans ((n29 _ (by omega)).trans ((n28 _ (by omega)).trans ((n27 _ (by omega)).trans ((n26 _ (by omega)).trans ((n25 _ (by omega)).trans ((n24 _ (by omega)).trans ((n23 _ (by omega)).trans ((n22 _ (by omega)).trans ((n21 _ (by omega)).trans ((n20 _ (by omega)).trans ((n19 _ (by omega)).trans ((n18 _ (by omega)).trans ((n17 _ (by omega)).trans ((n16 _ (by omega)).trans ((n15 _ (by omega)).trans ((n14 _ (by omega)).trans ((n13 _ (by omega)).trans ((n12 _ (by omega)).trans r_28))))))))))))))))))))))))))))))))))))))))
  have f_29 := ((n51 _ (by omega)).trans ((n50 _ (by omega)).trans ((n49 _ (by omega)).trans ((n48 _ (by omega)).trans ((n47 _ (by omega)).trans ((n46 _ (by omega)).trans ((n45 _ (by omega)).trans ((n44 _ (by omega)).trans ((n43 _ (by omega)).trans ((n42 _ (by omega)).trans ((n41 _ (by omega)).trans ((n40 _ (by omega)).trans ((n39 _ (by omega)).trans ((n38 _ (by omega)).trans ((n37 _ (by omega)).trans ((n36 _ (by omega)).trans ((n35 _ (by omega)).trans ((n34 _ (by omega)).trans ((n33 _ (by omega)).trans ((n32 _ (by omega)).trans ((n31 _ (by omega)).trans ((n30 _ (by omega)).trans ((n29 _ (by omega)).trans ((n28 _ (by omega)).trans ((n27 _ (by omega)).trans ((n26 _ (by omega)).trans ((n25 _ (by omega)).trans ((n24 _ (by omega)).trans ((n23 _ (by omega)).trans ((n22 _ (by omega)).trans ((n21 _ (by omega)).trans ((n20 _ (by omega)).trans ((n19 _ (by omega)).trans ((n18 _ (by omega)).trans ((n17 _ (by omega)).trans ((n16 _ (by omega)).trans ((n15 _ (by omega)).trans ((n14 _ (by omega)).trans r_29))))))))))))))))))))))))))))))))))))))
  have f_30 := ((n51 _ (by omega)).trans ((n50 _ (by omega)).trans ((n49 _ (by omega)).trans ((n48 _ (by omega)).trans ((n47 _ (by omega)).trans ((n46 _ (by omega)).trans ((n45 _ (by omega)).trans ((n44 _ (by omega)).trans ((n43 _ (by omega)).trans ((n42 _ (by omega)).trans ((n41 _ (by omega)).trans ((n40 _ (by omega)).trans ((n39 _ (by omega)).trans ((n38 _ (by omega)).trans ((n37 _ (by omega)).trans ((n36 _ (by omega)).trans ((n35 _ (by omega)).trans ((n34 _ (by omega)).trans ((n33 _ (by omega)).trans ((n32 _ (by omega)).trans ((n31 _ (by omega)).trans ((n30 _ (by omega)).trans ((n29 _ (by omega)).trans ((n28 _ (by omega)).trans ((n27 _ (by omega)).trans ((n26 _ (by omega)).trans ((n25 _ (by omega)).trans ((n24 _ (by omega)).trans ((n23 _ (by omega)).trans ((n22 _ (by omega)).trans ((n21 _ (by omega)).trans ((n20 _ (by omega)).trans ((n19 _ (by omega)).trans ((n18 _ (by omega)).trans ((n17 _ (by omega)).trans ((n16 _ (by omega)).trans r_30))))))))))))))))))))))))))))))))))))
  have f_31 := ((n51 _ (by omega)).trans ((n50 _ (by omega)).trans ((n49 _ (by omega)).trans ((n48 _ (by omega)).trans ((n47 _ (by omega)).trans ((n46 _ (by omega)).trans ((n45 _ (by omega)).trans ((n44 _ (by omega)).trans ((n43 _ (by omega)).trans ((n42 _ (by omega)).trans ((n41 _ (by omega)).trans ((n40 _ (by omega)).trans ((n39 _ (by omega)).trans ((n38 _ (by omega)).trans ((n37 _ (by omega)).trans ((n36 _ (by omega)).trans ((n35 _ (by omega)).trans ((n34 _ (by omega)).trans ((n33 _ (by omega)).trans ((n32 _ (by omega)).trans ((n31 _ (by omega)).trans ((n30 _ (by omega)).trans ((n29 _ (by omega)).trans ((n28 _ (by omega)).trans ((n27 _ (by omega)).trans ((n26 _ (by omega)).trans ((n25 _ (by omega)).trans ((n24 _ (by omega)).trans ((n23 _ (by omega)).trans ((n22 _ (by omega)).trans ((n21 _ (by omega)).trans ((n20 _ (by omega)).trans ((n19 _ (by omega)).trans ((n18 _ (by omega)).trans r_31))))))))))))))))))))))))))))))))))
  have f_32 := ((n51 _ (by omega)).trans ((n50 _ (by omega)).trans ((n49 _ (by omega)).trans ((n48 _ (by omega)).trans ((n47 _ (by omega)).trans ((n46 _ (by omega)).trans ((n45 _ (by omega)).trans ((n44 _ (by omega)).trans ((n43 _ (by omega)).trans ((n42 _ (by omega)).trans ((n41 _ (by omega)).trans ((n40 _ (by omega)).trans ((n39 _ (by omega)).trans ((n38 _ (by omega)).trans ((n37 _ (by omega)).trans ((n36 _ (by omega)).trans ((n35 _ (by omega)).trans ((n34 _ (by omega)).trans ((n33 _ (by omega)).trans ((n32 _ (by omega)).trans ((n31 _ (by omega)).trans ((n30 _ (by omega)).trans ((n29 _ (by omega)).trans ((n28 _ (by omega)).trans ((n27 _ (by omega)).trans ((n26 _ (by omega)).trans ((n25 _ (by omega)).trans ((n24 _ (by omega)).trans ((n23 _ (by omega)).trans ((n22 _ (by omega)).trans ((n21 _ (by omega)).trans ((n20 _ (by omega)).trans r_32))))))))))))))))))))))))))))))))
  have f_33 := ((n51 _ (by omega)).trans ((n50 _ (by omega)).trans ((n49 _ (by omega)).trans ((n48 _ (by omega)).trans ((n47 _ (by omega)).trans ((n46 _ (by omega)).trans ((n45 _ (by omega)).trans ((n44 _ (by omega)).trans ((n43 _ (by omega)).trans ((n42 _ (by omega)).trans ((n41 _ (by omega)).trans ((n40 _ (by omega)).trans ((n39 _ (by omega)).trans ((n38 _ (by omega)).trans ((n37 _ (by omega)).trans ((n36 _ (by omega)).trans ((n35 _ (by omega)).trans ((n34 _ (by omega)).trans ((n33 _ (by omega)).trans ((n32 _ (by omega)).trans ((n31 _ (by omega)).trans ((n30 _ (by omega)).trans ((n29 _ (by omega)).trans ((n28 _ (by omega)).trans ((n27 _ (by omega)).trans ((n26 _ (by omega)).trans ((n25 _ (by omega)).trans ((n24 _ (by omega)).trans ((n23 _ (by omega)).trans ((n22 _ (by omega)).trans r_33))))))))))))))))))))))))))))))
  have f_34 := ((n51 _ (by omega)).trans ((n50 _ (by omega)).trans ((n49 _ (by omega)).trans ((n48 _ (by omega)).trans ((n47 _ (by omega)).trans ((n46 _ (by omega)).trans ((n45 _ (by omega)).trans ((n44 _ (by omega)).trans ((n43 _ (by omega)).trans ((n42 _ (by omega)).trans ((n41 _ (by omega)).trans ((n40 _ (by omega)).trans ((n39 _ (by omega)).trans ((n38 _ (by omega)).trans ((n37 _ (by omega)).trans ((n36 _ (by omega)).trans ((n35 _ (by omega)).trans ((n34 _ (by omega)).trans ((n33 _ (by omega)).trans ((n32 _ (by omega)).trans ((n31 _ (by omega)).trans ((n30 _ (by omega)).trans ((n29 _ (by omega)).trans ((n28 _ (by omega)).trans ((n27 _ (by omega)).trans ((n26 _ (by omega)).trans ((n25 _ (by omega)).trans ((n24 _ (by omega)).trans r_34))))))))))))))))))))))))))))
  have f_35 := ((n51 _ (by omega)).trans ((n50 _ (by omega)).trans ((n49 _ (by omega)).trans ((n48 _ (by omega)).trans ((n47 _ (by omega)).trans ((n46 _ (by omega)).trans ((n45 _ (by omega)).trans ((n44 _ (by omega)).trans ((n43 _ (by omega)).trans ((n42 _ (by omega)).trans ((n41 _ (by omega)).trans ((n40 _ (by omega)).trans ((n39 _ (by omega)).trans ((n38 _ (by omega)).trans ((n37 _ (by omega)).trans ((n36 _ (by omega)).trans ((n35 _ (by omega)).trans ((n34 _ (by omega)).trans ((n33 _ (by omega)).trans ((n32 _ (by omega)).trans ((n31 _ (by omega)).trans ((n30 _ (by omega)).trans ((n29 _ (by omega)).trans ((n28 _ (by omega)).trans ((n27 _ (by omega)).trans ((n26 _ (by omega)).trans r_35))))))))))))))))))))))))))
  have f_36 := ((n51 _ (by omega)).trans ((n50 _ (by omega)).trans ((n49 _ (by omega)).trans ((n48 _ (by omega)).trans ((n47 _ (by omega)).trans ((n46 _ (by omega)).trans ((n45 _ (by omega)).trans ((n44 _ (by omega)).trans ((n43 _ (by omega)).trans ((n42 _ (by omega)).trans ((n41 _ (by omega)).trans ((n40 _ (by omega)).trans ((n39 _ (by omega)).trans ((n38 _ (by omega)).trans ((n37 _ (by omega)).trans ((n36 _ (by omega)).trans ((n35 _ (by omega)).trans ((n34 _ (by omega)).trans ((n33 _ (by omega)).trans ((n32 _ (by omega)).trans ((n31 _ (by omega)).trans ((n30 _ (by omega)).trans ((n29 _ (by omega)).trans ((n28 _ (by omega)).trans r_36))))))))))))))))))))))))
  have f_37 := ((n51 _ (by omega)).trans ((n50 _ (by omega)).trans ((n49 _ (by omega)).trans ((n48 _ (by omega)).trans ((n47 _ (by omega)).trans ((n46 _ (by omega)).trans ((n45 _ (by omega)).trans ((n44 _ (by omega)).trans ((n43 _ (by omega)).trans ((n42 _ (by omega)).trans ((n41 _ (by omega)).trans ((n40 _ (by omega)).trans ((n39 _ (by omega)).trans ((n38 _ (by omega)).trans ((n37 _ (by omega)).trans ((n36 _ (by omega)).trans ((n35 _ (by omega)).trans ((n34 _ (by omega)).trans ((n33 _ (by omega)).trans ((n32 _ (by omega)).trans ((n31 _ (by omega)).trans ((n30 _ (by omega)).trans r_37))))))))))))))))))))))
  have f_38 := ((n51 _ (by omega)).trans ((n50 _ (by omega)).trans ((n49 _ (by omega)).trans ((n48 _ (by omega)).trans ((n47 _ (by omega)).trans ((n46 _ (by omega)).trans ((n45 _ (by omega)).trans ((n44 _ (by omega)).trans ((n43 _ (by omega)).trans ((n42 _ (by omega)).trans ((n41 _ (by omega)).trans ((n40 _ (by omega)).trans ((n39 _ (by omega)).trans ((n38 _ (by omega)).trans ((n37 _ (by omega)).trans ((n36 _ (by omega)).trans ((n35 _ (by omega)).trans ((n34 _ (by omega)).trans ((n33 _ (by omega)).trans ((n32 _ (by omega)).trans r_38))))))))))))))))))))
  have f_39 := ((n51 _ (by omega)).trans ((n50 _ (by omega)).trans ((n49 _ (by omega)).trans ((n48 _ (by omega)).trans ((n47 _ (by omega)).trans ((n46 _ (by omega)).trans ((n45 _ (by omega)).trans ((n44 _ (by omega)).trans ((n43 _ (by omega)).trans ((n42 _ (by omega)).trans ((n41 _ (by omega)).trans ((n40 _ (by omega)).trans ((n39 _ (by omega)).trans ((n38 _ (by omega)).trans ((n37 _ (by omega)).trans ((n36 _ (by omega)).trans ((n35 _ (by omega)).trans ((n34 _ (by omega)).trans r_39))))))))))))))))))
  have f_40 := ((n51 _ (by omega)).trans ((n50 _ (by omega)).trans ((n49 _ (by omega)).trans ((n48 _ (by omega)).trans ((n47 _ (by omega)).trans ((n46 _ (by omega)).trans ((n45 _ (by omega)).trans ((n44 _ (by omega)).trans ((n43 _ (by omega)).trans ((n42 _ (by omega)).trans ((n41 _ (by omega)).trans ((n40 _ (by omega)).trans ((n39 _ (by omega)).trans ((n38 _ (by omega)).trans ((n37 _ (by omega)).trans ((n36 _ (by omega)).trans r_40))))))))))))))))
  have f_41 := ((n51 _ (by omega)).trans ((n50 _ (by omega)).trans ((n49 _ (by omega)).trans ((n48 _ (by omega)).trans ((n47 _ (by omega)).trans ((n46 _ (by omega)).trans ((n45 _ (by omega)).trans ((n44 _ (by omega)).trans ((n43 _ (by omega)).trans ((n42 _ (by omega)).trans ((n41 _ (by omega)).trans ((n40 _ (by omega)).trans ((n39 _ (by omega)).trans ((n38 _ (by omega)).trans r_41))))))))))))))
  have f_42 := ((n51 _ (by omega)).trans ((n50 _ (by omega)).trans ((n49 _ (by omega)).trans ((n48 _ (by omega)).trans ((n47 _ (by omega)).trans ((n46 _ (by omega)).trans ((n45 _ (by omega)).trans ((n44 _ (by omega)).trans ((n43 _ (by omega)).trans ((n42 _ (by omega)).trans ((n41 _ (by omega)).trans ((n40 _ (by omega)).trans r_42))))))))))))
  have f_44 := ((n51 _ (by omega)).trans ((n50 _ (by omega)).trans ((n49 _ (by omega)).trans ((n48 _ (by omega)).trans ((n47 _ (by omega)).trans ((n46 _ (by omega)).trans ((n45 _ (by omega)).trans ((n44 _ (by omega)).trans ((n43 _ (by omega)).trans ((n42 _ (by omega)).trans r_44))))))))))
  have f_47 := ((n51 _ (by omega)).trans ((n50 _ (by omega)).trans ((n49 _ (by omega)).trans ((n48 _ (by omega)).trans ((n47 _ (by omega)).trans ((n46 _ (by omega)).trans ((n45 _ (by omega)).trans r_47)))))))
  have f_48 := ((n51 _ (by omega)).trans ((n50 _ (by omega)).trans ((n49 _ (by omega)).trans ((n48 _ (by omega)).trans ((n47 _ (by omega)).trans r_48)))))
  have f_50 := ((n51 _ (by omega)).trans ((n50 _ (by omega)).trans ((n49 _ (by omega)).trans r_50)))
  have f_51 := ((n51 _ (by omega)).trans r_51)
  have fr : ∀ x, (x < 20 ∨ 60 ≤ x) → h_ x = h x := fun x hx => ((n51 x (by omega)).trans ((n50 x (by omega)).trans ((n49 x (by omega)).trans ((n48 x (by omega)).trans ((n47 x (by omega)).trans ((n46 x (by omega)).trans ((n45 x (by omega)).trans ((n44 x (by omega)).trans ((n43 x (by omega)).trans ((n42 x (by omega)).trans ((n41 x (by omega)).trans ((n40 x (by omega)).trans ((n39 x (by omega)).trans ((n38 x (by omega)).trans ((n37 x (by omega)).trans ((n36 x (by omega)).trans ((n35 x (by omega)).trans ((n34 x (by omega)).trans ((n33 x (by omega)).trans ((n32 x (by omega)).trans ((n31 x (by omega)).trans ((n30 x (by omega)).trans ((n29 x (by omega)).trans ((n28 x (by omega)).trans ((n27 x (by omega)).trans ((n26 x (by omega)).trans ((n25 x (by omega)).trans ((n24 x (by omega)).trans ((n23 x (by omega)).trans ((n22 x (by omega)).trans ((n21 x (by omega)).trans ((n20 x (by omega)).trans ((n19 x (by omega)).trans ((n18 x (by omega)).trans ((n17 x (by omega)).trans ((n16 x (by omega)).trans ((n15 x (by omega)).trans ((n14 x (by omega)).trans ((n13 x (by omega)).trans ((n12 x (by omega)).trans ((n11 x (by omega)).trans ((n10 x (by omega)).trans ((n9 x (by omega)).trans ((n8 x (by omega)).trans ((n7 x (by omega)).trans ((n6 x (by omega)).trans ((n5 x (by omega)).trans ((n4 x (by omega)).trans ((n3 x (by omega)).trans ((n2 x (by omega)).trans (n1 x (by omega))))))))))))))))))))))))))))))))))))))))))))))))))))
  clear hn n1 n2 n3 n4 n5 n6 n7 n8 n9 n10 n11 n12 n13 n14 n15 n16 n17 n18 n19 n20 n21 n22 n23 n24 n25 n26 n27 n28 n29 n30 n31 n32 n33 n34 n35 n36 n37 n38 n39 n40 n41 n42 n43 n44 n45 n46 n47 n48 n49 n50 n51
  have fin : ∀ (h' : pb_H), h' 30 = some (.inl (0, 32, fun j => nI (sp_R 32 10 j))) → h' 31 = some (.inl (0, 24, fun j => nI (sp_E 8 14 19 j))) → h' 36 = some (.inl (0, 10, fun j => nI (sp_R 10 9000 j))) → h' 41 = some (.inl (0, 3, fun j => nI (sp_R 3 5000 j))) → (∀ x, (x ≠ 30 ∧ x ≠ 31 ∧ x ≠ 36 ∧ x ≠ 41) → h' x = h_ x) → pb_RF sp_0 h h' := by
    intro h' h30 h31 h36 h41 nb
    refine ⟨(nb _ (by omega)).trans ho, fun a n f e => ?_, fun a n e => ?_, fun b hb => (nb b (by omega)).trans (fr b hb)⟩
    · unfold pb_rT at e
      split at e <;> first | (cases e; first | exact h30 | exact h31 | exact h36 | exact h41 | exact (nb _ (by omega)).trans f_23 | exact (nb _ (by omega)).trans f_24 | exact (nb _ (by omega)).trans f_25 | exact (nb _ (by omega)).trans f_26 | exact (nb _ (by omega)).trans f_27 | exact (nb _ (by omega)).trans f_28 | exact (nb _ (by omega)).trans f_29 | exact (nb _ (by omega)).trans f_33 | exact (nb _ (by omega)).trans f_37 | exact (nb _ (by omega)).trans f_38 | exact (nb _ (by omega)).trans f_39 | exact (nb _ (by omega)).trans f_40 | exact (nb _ (by omega)).trans f_44 | exact (nb _ (by omega)).trans f_47 | exact (nb _ (by omega)).trans f_50) | cases e
    · unfold pb_sT at e
      split at e <;> first | (cases e; first | exact ⟨fun _ => 0, (nb _ (by omega)).trans f_32⟩ | exact ⟨fun _ => 0, (nb _ (by omega)).trans f_34⟩ | exact ⟨fun _ => 0, (nb _ (by omega)).trans f_35⟩ | exact ⟨fun _ => 0, (nb _ (by omega)).trans f_42⟩ | exact ⟨fun _ => 0, (nb _ (by omega)).trans f_48⟩ | exact ⟨fun _ => 0, (nb _ (by omega)).trans f_51⟩) | cases e
  have l41 : ∀ (q i : Nat) (h' : pb_H), 3 - i < q → 0 ≤ i → i ≤ 3 → h' 30 = some (.inl (0, 32, fun j => nI (sp_R 32 10 j))) → h' 31 = some (.inl (0, 24, fun j => nI (sp_E 8 14 19 j))) → h' 36 = some (.inl (0, 10, fun j => nI (sp_R 10 9000 j))) → h' 41 = some (.inl (0, 3, fun j => nI (sp_R i 5000 j))) → (∀ x, (x ≠ 30 ∧ x ≠ 31 ∧ x ≠ 36 ∧ x ≠ 41) → h' x = h_ x) → pb_S Z mX12_init 1 0 0 (fun v h' => v = none ∧ pb_RF sp_0 h h') 323 [some (.ref 20), some (.int (nI i))] [] h' := by
    intro q
    induction q with
    | zero => intro i h' g1; omega
    | succ q ih =>
      intro i h' g1 g0 g2 h30 h31 h36 h41 nb
      have ho : h' 20 = _ := (nb _ (by omega)).trans ho
      refine pb_iload_n (pc2 := 324) dX12_init_323 rfl rfl rfl ?_
      refine pb_iconst (x := nI 3) (pc2 := 325) dX12_init_324 (by decide) rfl ?_
      refine pb_icmpN_ge (tgt := 343) (pc2 := 328) dX12_init_325 (by decide) rfl (by omega) (by omega) (fun c => ?_) (fun c => ?_)
      · have e : i = 3 := by omega
        subst e
        exact pb_return dX12_init_343 rfl (⟨rfl, fin h' h30 h31 h36 h41 nb⟩)
      · refine pb_aload_n (pc2 := 329) dX12_init_328 rfl rfl rfl ?_
        refine pb_getf (pc2 := 332) flX12_68_X12 rfl dX12_init_329 (by first | assumption | exact hR.a rfl | exact hR.o | exact hC.o | exact hC.pal | exact hC.tub | exact hC.k _ _ rfl | exact hC.pot _ (by omega) | exact hC.are _ (by omega) | exact hC.arl _ (by omega) | exact hC.tbo _ (by omega) (by omega)) rfl rfl ?_
        refine pb_iload_n (pc2 := 333) dX12_init_332 rfl rfl rfl ?_
        refine pb_sipush (x := nI 5000) (pc2 := 336) dX12_init_333 (by decide) rfl ?_
        refine pb_iastG (pc2 := 337) h41 dX12_init_336 (by omega) (by omega) (by omega) rfl (fun h1 h41 n1 => ?_)
        rw [sp_R_s] at h41
        refine pb_iincP (c0 := 1) (lv2 := [_, _]) (pc2 := 340) dX12_init_337 rfl (by decide) rfl rfl ?_
        refine pb_goto (tgt := 323) dX12_init_340 (by decide) ?_
        exact ih (i + 1) h1 (by omega) (by omega) (by omega) ((n1 _ (by omega)).trans h30) ((n1 _ (by omega)).trans h31) ((n1 _ (by omega)).trans h36) h41 (fun x hx => (n1 x (by omega)).trans (nb x hx))
  have l36 : ∀ (q i : Nat) (h' : pb_H), 10 - i < q → 0 ≤ i → i ≤ 10 → h' 30 = some (.inl (0, 32, fun j => nI (sp_R 32 10 j))) → h' 31 = some (.inl (0, 24, fun j => nI (sp_E 8 14 19 j))) → h' 36 = some (.inl (0, 10, fun j => nI (sp_R i 9000 j))) → (∀ x, (x ≠ 30 ∧ x ≠ 31 ∧ x ≠ 36) → h' x = h_ x) → pb_S Z mX12_init 1 0 0 (fun v h' => v = none ∧ pb_RF sp_0 h h') 300 [some (.ref 20), some (.int (nI i))] [] h' := by
    intro q
    induction q with
    | zero => intro i h' g1; omega
    | succ q ih =>
      intro i h' g1 g0 g2 h30 h31 h36 nb
      have ho : h' 20 = _ := (nb _ (by omega)).trans ho
      refine pb_iload_n (pc2 := 301) dX12_init_300 rfl rfl rfl ?_
      refine pb_bipush (x := nI 10) (pc2 := 303) dX12_init_301 (by decide) rfl ?_
      refine pb_icmpN_ge (tgt := 321) (pc2 := 306) dX12_init_303 (by decide) rfl (by omega) (by omega) (fun c => ?_) (fun c => ?_)
      · have e : i = 10 := by omega
        subst e
        refine pb_iconst (x := nI 0) (pc2 := 322) dX12_init_321 (by decide) rfl ?_
        refine pb_istore_n (lv2 := [_, _]) (pc2 := 323) dX12_init_322 rfl (by decide) rfl rfl ?_
        exact l41 4 0 h' (by omega) (by omega) (by omega) h30 h31 h36 ((nb _ (by omega)).trans (f_41.trans (row_eq (F := fun _ => 0) (G := sp_R 0 5000) (fun j => by unfold sp_R; rw [if_neg (by omega)])))) (fun x hx => nb x (by omega))
      · refine pb_aload_n (pc2 := 307) dX12_init_306 rfl rfl rfl ?_
        refine pb_getf (pc2 := 310) flX12_53_X12 rfl dX12_init_307 (by first | assumption | exact hR.a rfl | exact hR.o | exact hC.o | exact hC.pal | exact hC.tub | exact hC.k _ _ rfl | exact hC.pot _ (by omega) | exact hC.are _ (by omega) | exact hC.arl _ (by omega) | exact hC.tbo _ (by omega) (by omega)) rfl rfl ?_
        refine pb_iload_n (pc2 := 311) dX12_init_310 rfl rfl rfl ?_
        refine pb_sipush (x := nI 9000) (pc2 := 314) dX12_init_311 (by decide) rfl ?_
        refine pb_iastG (pc2 := 315) h36 dX12_init_314 (by omega) (by omega) (by omega) rfl (fun h1 h36 n1 => ?_)
        rw [sp_R_s] at h36
        refine pb_iincP (c0 := 1) (lv2 := [_, _]) (pc2 := 318) dX12_init_315 rfl (by decide) rfl rfl ?_
        refine pb_goto (tgt := 300) dX12_init_318 (by decide) ?_
        exact ih (i + 1) h1 (by omega) (by omega) (by omega) ((n1 _ (by omega)).trans h30) ((n1 _ (by omega)).trans h31) h36 (fun x hx => (n1 x (by omega)).trans (nb x hx))
  have l31c : ∀ (q i : Nat) (h' : pb_H), 3 - i < q → 0 ≤ i → i ≤ 3 → h' 30 = some (.inl (0, 32, fun j => nI (sp_R 32 10 j))) → h' 31 = some (.inl (0, 24, fun j => nI (sp_E 8 14 (16 + i) j))) → (∀ x, (x ≠ 30 ∧ x ≠ 31) → h' x = h_ x) → pb_S Z mX12_init 1 0 0 (fun v h' => v = none ∧ pb_RF sp_0 h h') 277 [some (.ref 20), some (.int (nI i))] [] h' := by
    intro q
    induction q with
    | zero => intro i h' g1; omega
    | succ q ih =>
      intro i h' g1 g0 g2 h30 h31 nb
      have ho : h' 20 = _ := (nb _ (by omega)).trans ho
      refine pb_iload_n (pc2 := 278) dX12_init_277 rfl rfl rfl ?_
      refine pb_iconst (x := nI 3) (pc2 := 279) dX12_init_278 (by decide) rfl ?_
      refine pb_icmpN_ge (tgt := 298) (pc2 := 282) dX12_init_279 (by decide) rfl (by omega) (by omega) (fun c => ?_) (fun c => ?_)
      · have e : i = 3 := by omega
        subst e
        refine pb_iconst (x := nI 0) (pc2 := 299) dX12_init_298 (by decide) rfl ?_
        refine pb_istore_n (lv2 := [_, _]) (pc2 := 300) dX12_init_299 rfl (by decide) rfl rfl ?_
        exact l36 11 0 h' (by omega) (by omega) (by omega) h30 h31 ((nb _ (by omega)).trans (f_36.trans (row_eq (F := fun _ => 0) (G := sp_R 0 9000) (fun j => by unfold sp_R; rw [if_neg (by omega)])))) (fun x hx => nb x (by omega))
      · refine pb_aload_n (pc2 := 283) dX12_init_282 rfl rfl rfl ?_
        refine pb_getf (pc2 := 286) flX12_38_X12 rfl dX12_init_283 (by first | assumption | exact hR.a rfl | exact hR.o | exact hC.o | exact hC.pal | exact hC.tub | exact hC.k _ _ rfl | exact hC.pot _ (by omega) | exact hC.are _ (by omega) | exact hC.arl _ (by omega) | exact hC.tbo _ (by omega) (by omega)) rfl rfl ?_
        refine pb_bipush (x := nI 16) (pc2 := 288) dX12_init_286 (by decide) rfl ?_
        refine pb_iload_n (pc2 := 289) dX12_init_288 rfl rfl rfl ?_
        refine pb_iaddN (pc2 := 290) dX12_init_289 rfl ?_
        refine pb_iconst (x := nI 1) (pc2 := 291) dX12_init_290 (by decide) rfl ?_
        refine pb_iastG (pc2 := 292) h31 dX12_init_291 (by omega) (by omega) (by omega) rfl (fun h1 h31 n1 => ?_)
        rw [sp_E_s (a' := 8) (b' := 14) (c' := 16 + (i + 1)) (fun j => by omega)] at h31
        refine pb_iincP (c0 := 1) (lv2 := [_, _]) (pc2 := 295) dX12_init_292 rfl (by decide) rfl rfl ?_
        refine pb_goto (tgt := 277) dX12_init_295 (by decide) ?_
        exact ih (i + 1) h1 (by omega) (by omega) (by omega) ((n1 _ (by omega)).trans h30) h31 (fun x hx => (n1 x (by omega)).trans (nb x hx))
  have l31b : ∀ (q i : Nat) (h' : pb_H), 6 - i < q → 3 ≤ i → i ≤ 6 → h' 30 = some (.inl (0, 32, fun j => nI (sp_R 32 10 j))) → h' 31 = some (.inl (0, 24, fun j => nI (sp_E 8 (8 + i) 16 j))) → (∀ x, (x ≠ 30 ∧ x ≠ 31) → h' x = h_ x) → pb_S Z mX12_init 1 0 0 (fun v h' => v = none ∧ pb_RF sp_0 h h') 253 [some (.ref 20), some (.int (nI i))] [] h' := by
    intro q
    induction q with
    | zero => intro i h' g1; omega
    | succ q ih =>
      intro i h' g1 g0 g2 h30 h31 nb
      have ho : h' 20 = _ := (nb _ (by omega)).trans ho
      refine pb_iload_n (pc2 := 254) dX12_init_253 rfl rfl rfl ?_
      refine pb_bipush (x := nI 6) (pc2 := 256) dX12_init_254 (by decide) rfl ?_
      refine pb_icmpN_ge (tgt := 275) (pc2 := 259) dX12_init_256 (by decide) rfl (by omega) (by omega) (fun c => ?_) (fun c => ?_)
      · have e : i = 6 := by omega
        subst e
        refine pb_iconst (x := nI 0) (pc2 := 276) dX12_init_275 (by decide) rfl ?_
        refine pb_istore_n (lv2 := [_, _]) (pc2 := 277) dX12_init_276 rfl (by decide) rfl rfl ?_
        exact l31c 4 0 h' (by omega) (by omega) (by omega) h30 h31 nb
      · refine pb_aload_n (pc2 := 260) dX12_init_259 rfl rfl rfl ?_
        refine pb_getf (pc2 := 263) flX12_38_X12 rfl dX12_init_260 (by first | assumption | exact hR.a rfl | exact hR.o | exact hC.o | exact hC.pal | exact hC.tub | exact hC.k _ _ rfl | exact hC.pot _ (by omega) | exact hC.are _ (by omega) | exact hC.arl _ (by omega) | exact hC.tbo _ (by omega) (by omega)) rfl rfl ?_
        refine pb_bipush (x := nI 8) (pc2 := 265) dX12_init_263 (by decide) rfl ?_
        refine pb_iload_n (pc2 := 266) dX12_init_265 rfl rfl rfl ?_
        refine pb_iaddN (pc2 := 267) dX12_init_266 rfl ?_
        refine pb_iconst (x := nI 1) (pc2 := 268) dX12_init_267 (by decide) rfl ?_
        refine pb_iastG (pc2 := 269) h31 dX12_init_268 (by omega) (by omega) (by omega) rfl (fun h1 h31 n1 => ?_)
        rw [sp_E_s (a' := 8) (b' := 8 + (i + 1)) (c' := 16) (fun j => by omega)] at h31
        refine pb_iincP (c0 := 1) (lv2 := [_, _]) (pc2 := 272) dX12_init_269 rfl (by decide) rfl rfl ?_
        refine pb_goto (tgt := 253) dX12_init_272 (by decide) ?_
        exact ih (i + 1) h1 (by omega) (by omega) (by omega) ((n1 _ (by omega)).trans h30) h31 (fun x hx => (n1 x (by omega)).trans (nb x hx))
  have l31a : ∀ (q i : Nat) (h' : pb_H), 8 - i < q → 5 ≤ i → i ≤ 8 → h' 30 = some (.inl (0, 32, fun j => nI (sp_R 32 10 j))) → h' 31 = some (.inl (0, 24, fun j => nI (sp_E i 11 16 j))) → (∀ x, (x ≠ 30 ∧ x ≠ 31) → h' x = h_ x) → pb_S Z mX12_init 1 0 0 (fun v h' => v = none ∧ pb_RF sp_0 h h') 232 [some (.ref 20), some (.int (nI i))] [] h' := by
    intro q
    induction q with
    | zero => intro i h' g1; omega
    | succ q ih =>
      intro i h' g1 g0 g2 h30 h31 nb
      have ho : h' 20 = _ := (nb _ (by omega)).trans ho
      refine pb_iload_n (pc2 := 233) dX12_init_232 rfl rfl rfl ?_
      refine pb_bipush (x := nI 8) (pc2 := 235) dX12_init_233 (by decide) rfl ?_
      refine pb_icmpN_ge (tgt := 251) (pc2 := 238) dX12_init_235 (by decide) rfl (by omega) (by omega) (fun c => ?_) (fun c => ?_)
      · have e : i = 8 := by omega
        subst e
        refine pb_iconst (x := nI 3) (pc2 := 252) dX12_init_251 (by decide) rfl ?_
        refine pb_istore_n (lv2 := [_, _]) (pc2 := 253) dX12_init_252 rfl (by decide) rfl rfl ?_
        exact l31b 4 3 h' (by omega) (by omega) (by omega) h30 h31 nb
      · refine pb_aload_n (pc2 := 239) dX12_init_238 rfl rfl rfl ?_
        refine pb_getf (pc2 := 242) flX12_38_X12 rfl dX12_init_239 (by first | assumption | exact hR.a rfl | exact hR.o | exact hC.o | exact hC.pal | exact hC.tub | exact hC.k _ _ rfl | exact hC.pot _ (by omega) | exact hC.are _ (by omega) | exact hC.arl _ (by omega) | exact hC.tbo _ (by omega) (by omega)) rfl rfl ?_
        refine pb_iload_n (pc2 := 243) dX12_init_242 rfl rfl rfl ?_
        refine pb_iconst (x := nI 1) (pc2 := 244) dX12_init_243 (by decide) rfl ?_
        refine pb_iastG (pc2 := 245) h31 dX12_init_244 (by omega) (by omega) (by omega) rfl (fun h1 h31 n1 => ?_)
        rw [sp_E_s (a' := i + 1) (b' := 11) (c' := 16) (fun j => by omega)] at h31
        refine pb_iincP (c0 := 1) (lv2 := [_, _]) (pc2 := 248) dX12_init_245 rfl (by decide) rfl rfl ?_
        refine pb_goto (tgt := 232) dX12_init_248 (by decide) ?_
        exact ih (i + 1) h1 (by omega) (by omega) (by omega) ((n1 _ (by omega)).trans h30) h31 (fun x hx => (n1 x (by omega)).trans (nb x hx))
  have l30 : ∀ (q i : Nat) (h' : pb_H), 32 - i < q → 0 ≤ i → i ≤ 32 → h' 30 = some (.inl (0, 32, fun j => nI (sp_R i 10 j))) → (∀ x, (x ≠ 30) → h' x = h_ x) → pb_S Z mX12_init 1 0 0 (fun v h' => v = none ∧ pb_RF sp_0 h h') 210 [some (.ref 20), some (.int (nI i))] [] h' := by
    intro q
    induction q with
    | zero => intro i h' g1; omega
    | succ q ih =>
      intro i h' g1 g0 g2 h30 nb
      have ho : h' 20 = _ := (nb _ (by omega)).trans ho
      refine pb_iload_n (pc2 := 211) dX12_init_210 rfl rfl rfl ?_
      refine pb_bipush (x := nI 32) (pc2 := 213) dX12_init_211 (by decide) rfl ?_
      refine pb_icmpN_ge (tgt := 230) (pc2 := 216) dX12_init_213 (by decide) rfl (by omega) (by omega) (fun c => ?_) (fun c => ?_)
      · have e : i = 32 := by omega
        subst e
        refine pb_iconst (x := nI 5) (pc2 := 231) dX12_init_230 (by decide) rfl ?_
        refine pb_istore_n (lv2 := [_, _]) (pc2 := 232) dX12_init_231 rfl (by decide) rfl rfl ?_
        exact l31a 4 5 h' (by omega) (by omega) (by omega) h30 ((nb _ (by omega)).trans (f_31.trans (row_eq (F := fun _ => 0) (G := sp_E 5 11 16) (fun j => by unfold sp_E; rw [if_neg (by omega)])))) (fun x hx => nb x (by omega))
      · refine pb_aload_n (pc2 := 217) dX12_init_216 rfl rfl rfl ?_
        refine pb_getf (pc2 := 220) flX12_35_X12 rfl dX12_init_217 (by first | assumption | exact hR.a rfl | exact hR.o | exact hC.o | exact hC.pal | exact hC.tub | exact hC.k _ _ rfl | exact hC.pot _ (by omega) | exact hC.are _ (by omega) | exact hC.arl _ (by omega) | exact hC.tbo _ (by omega) (by omega)) rfl rfl ?_
        refine pb_iload_n (pc2 := 221) dX12_init_220 rfl rfl rfl ?_
        refine pb_bipush (x := nI 10) (pc2 := 223) dX12_init_221 (by decide) rfl ?_
        refine pb_iastG (pc2 := 224) h30 dX12_init_223 (by omega) (by omega) (by omega) rfl (fun h1 h30 n1 => ?_)
        rw [sp_R_s] at h30
        refine pb_iincP (c0 := 1) (lv2 := [_, _]) (pc2 := 227) dX12_init_224 rfl (by decide) rfl rfl ?_
        refine pb_goto (tgt := 210) dX12_init_227 (by decide) ?_
        exact ih (i + 1) h1 (by omega) (by omega) (by omega) h30 (fun x hx => (n1 x (by omega)).trans (nb x hx))
  refine pb_iconst (x := nI 0) (pc2 := 209) dX12_init_208 (by decide) rfl ?_
  refine pb_istore_n (lv2 := [_, _]) (pc2 := 210) dX12_init_209 rfl (by decide) rfl rfl ?_
  exact l30 33 0 h_ (by omega) (by omega) (by omega) (f_30.trans (row_eq (F := fun _ => 0) (G := sp_R 0 10) (fun j => by unfold sp_R; rw [if_neg (by omega)]))) (fun _ _ => rfl)
end PB46

