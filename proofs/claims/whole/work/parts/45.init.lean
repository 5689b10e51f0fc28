/-! CONSTRUCTORS -/
def sp_0 : pb_A := fun f j => if f = 9 then (if j < 32 then 10 else 0) else if f = 10 then (if (5 ≤ j ∧ j < 8) ∨ (11 ≤ j ∧ j < 14) ∨ (16 ≤ j ∧ j < 19) then 1 else 0) else if f = 12 then (if j < 10 then 9000 else 0) else if f = 17 then (if j < 3 then 5000 else 0) else if f = 21 then 4294967295 else 0
section PB45
variable {Z : pb_Z} {h h0 : pb_H}
section PB45R
variable {y : pb_M} {d k n : Nat} {post : Option Value → pb_H → Prop} {pc : Nat} {lv : List (Option Value)} {st : List Value}
theorem pb_newaZG (a : Nat) {ar : ArrayType} {N : Nat} {k2 n2 pc2 : Nat} (hd : decode y.2.1 pc = .ok (.newarray ar, 2)) (hkd : 1 < 2 ∧ newarray.typeOf ar = pb_pk 1) (hw : Cond.arrayClass (pb_pk 1) ∈ pb_tbl) (ha : h a = none) (h2 : 2 ≤ a) (hN : N ≤ 100000) (hk : k2 + 1 ≤ k) (hn : n2 + N ≤ n) (hp : pc + 2 = pc2) (kk : ∀ h', h' a = some (.inl (1, N, fun _ => nI 0)) → (∀ b, b ≠ a → h' b = h b) → pb_S Z y d k2 n2 post pc2 lv (.ref a :: st) h') : pb_S Z y d k n post pc lv (.int (nI N) :: st) h := pb_newa a hd hkd hw ha h2 hN hk hn hp (kk _ (pb_set_self _ _ _) (fun _ hb => pb_set_ne _ _ hb))
theorem pb_anewaG (a : Nat) {own : String} {idx kd N : Nat} {C : String} {k2 n2 pc2 : Nat} (hd : decode y.2.1 pc = .ok (.anewarray idx, 3)) (hw : y.1.cls = own) (hkd : kd < 4) (hCk : pb_rk kd = .object C) (hcl : Cond.classLink own idx C ∈ pb_tbl) (ha : h a = none) (h2 : 2 ≤ a) (hN : N ≤ 100000) (hk : k2 + 1 ≤ k) (hn : n2 + N ≤ n) (hp : pc + 3 = pc2) (kk : ∀ h', h' a = some (.inr (.inl (kd, N, fun _ => none))) → (∀ b, b ≠ a → h' b = h b) → pb_S Z y d k2 n2 post pc2 lv (.ref a :: st) h') : pb_S Z y d k n post pc lv (.int (nI N) :: st) h := pb_anewa a hd hw hkd hCk hcl ha h2 hN hk hn hp (kk _ (pb_set_self _ _ _) (fun _ hb => pb_set_ne _ _ hb))
theorem pb_mnaG (a b : Nat) {own : String} {idx N M : Nat} {k2 n2 pc2 : Nat} (hd : decode y.2.1 pc = .ok (.multianewarray idx 2, 4)) (hw : y.1.cls = own) (hcl : Cond.classLink own idx "[[I" ∈ pb_tbl) (ha : h a = none) (hb : ∀ i, i < N → h (b + i) = none) (hab : a < b) (h2 : 2 ≤ a) (hN : N ≤ 100000) (hM : M ≤ 100000) (hk : k2 + (1 + N) ≤ k) (hn : n2 + (N + N * M) ≤ n) (hp : pc + 4 = pc2) (kk : ∀ h', h' a = some (.inr (.inl (4, N, cTo b N))) → (∀ i, i < N → h' (b + i) = some (.inl (0, M, fun _ => nI 0))) → (∀ x, (x ≠ a ∧ (x < b ∨ b + N ≤ x)) → h' x = h x) → pb_S Z y d k2 n2 post pc2 lv (.ref a :: st) h') : pb_S Z y d k n post pc lv (.int (nI M) :: .int (nI N) :: st) h := pb_mna a b hd hw hcl ha hb hab h2 hN hM hk hn hp (kk _ (by
  unfold pb_mul
  rw [if_pos rfl]
  rfl) (fun i hi => by
  unfold pb_mul
  rw [if_neg (by omega), if_pos (by omega)]
  rfl) (fun x hx => by
  unfold pb_mul
  rw [if_neg hx.1, if_neg (by omega)]))
end PB45R
theorem i_pal (ho : h 61 = some (.inr (.inr (7, [.null, .int (nI 0)])))) (hn : ∀ x, 71 ≤ x → x < 72 → h x = none) : pb_T Z mX8_init 1 1 12 [.ref 61] h (fun v h' => v = none ∧ h' 61 = some (.inr (.inr (7, [.ref 71, .int (nI 0)]))) ∧ h' 71 = some (.inr (.inl (0, 12, fun _ => none))) ∧ ∀ x, (x ≠ 61 ∧ x ≠ 71) → h' x = h x) := by
  refine pb_T.of pnX8_init (Nat.le_of_ble_eq_true rfl) (lv := [some (.ref 61)]) rfl ?_
  refine pb_aload_n (pc2 := 1) dX8_init_0 rfl rfl rfl ?_
  refine pb_objI (pc2 := 4) rfl olX8 dX8_init_1 (by omega) (Nat.le_of_ble_eq_true rfl) rfl ?_
  refine pb_aload_n (pc2 := 5) dX8_init_4 rfl rfl rfl ?_
  refine pb_bipush (x := nI 12) (pc2 := 7) dX8_init_5 (by decide) rfl ?_
  refine pb_anewaG (kd := 0) (71) (k2 := 0) (n2 := 0) (pc2 := 10) dX8_init_7 rfl (by decide) rfl klX8_9 (hn _ (by omega) (by omega)) (by omega) (by omega) (by omega) (by omega) rfl (fun h_ r_71 n1 => ?_)
  have ho := (n1 _ (by omega)).trans ho
  refine pb_putFG (fs2 := [_, _]) (pc2 := 13) flX8_11_X8 rfl dX8_init_10 ho (by omega) rfl rfl rfl rfl rfl rfl rfl (fun h_ ho n2 => ?_)
  refine pb_aload_n (pc2 := 14) dX8_init_13 rfl rfl rfl ?_
  refine pb_iconst (x := nI 0) (pc2 := 15) dX8_init_14 (by decide) rfl ?_
  refine pb_putG (fs2 := [_, _]) (pc2 := 18) flX8_17_X8 rfl dX8_init_15 ho (by omega) rfl rfl rfl rfl rfl (fun h_ ho n3 => ?_)
  exact pb_return dX8_init_18 rfl (⟨rfl, ho, ((n3 _ (by omega)).trans ((n2 _ (by omega)).trans r_71)), fun x hx => ((n3 x (by omega)).trans ((n2 x (by omega)).trans (n1 x (by omega))))⟩)
theorem i_area {a : Nat} (ha : a < 10) (ho : h (110 + a) = some (.inr (.inr (0, [.null, .int (nI 0), .int (nI 0)])))) (hn : ∀ x, 140 + a ≤ x → x < 141 + a → h x = none) : pb_T Z mX0_init 1 1 10 [.ref (110 + a)] h (fun v h' => v = none ∧ h' (110 + a) = some (.inr (.inr (0, [.ref (140 + a), .int (nI 0), .int (nI 9000)]))) ∧ h' (140 + a) = some (.inr (.inl (3, 10, fun _ => none))) ∧ ∀ x, (x ≠ 110 + a ∧ x ≠ 140 + a) → h' x = h x) := by
  refine pb_T.of pnX0_init (Nat.le_of_ble_eq_true rfl) (lv := [some (.ref (110 + a))]) rfl ?_
  refine pb_aload_n (pc2 := 1) dX0_init_0 rfl rfl rfl ?_
  refine pb_objI (pc2 := 4) rfl olX0 dX0_init_1 (by omega) (Nat.le_of_ble_eq_true rfl) rfl ?_
  refine pb_aload_n (pc2 := 5) dX0_init_4 rfl rfl rfl ?_
  refine pb_bipush (x := nI 10) (pc2 := 7) dX0_init_5 (by decide) rfl ?_
  refine pb_anewaG (kd := 3) (140 + a) (k2 := 0) (n2 := 0) (pc2 := 10) dX0_init_7 rfl (by decide) rfl klX0_9 (hn _ (by omega) (by omega)) (by omega) (by omega) (by omega) (by omega) rfl (fun h_ r_140a n1 => ?_)
  have ho := (n1 _ (by omega)).trans ho
  refine pb_putFG (fs2 := [_, _, _]) (pc2 := 13) flX0_11_X0 rfl dX0_init_10 ho (by omega) rfl rfl rfl rfl rfl rfl rfl (fun h_ ho n2 => ?_)
  refine pb_aload_n (pc2 := 14) dX0_init_13 rfl rfl rfl ?_
  refine pb_iconst (x := nI 0) (pc2 := 15) dX0_init_14 (by decide) rfl ?_
  refine pb_putG (fs2 := [_, _, _]) (pc2 := 18) flX0_17_X0 rfl dX0_init_15 ho (by omega) rfl rfl rfl rfl rfl (fun h_ ho n3 => ?_)
  refine pb_aload_n (pc2 := 19) dX0_init_18 rfl rfl rfl ?_
  refine pb_sipush (x := nI 9000) (pc2 := 22) dX0_init_19 (by decide) rfl ?_
  refine pb_putG (fs2 := [_, _, _]) (pc2 := 25) flX0_21_X0 rfl dX0_init_22 ho (by omega) rfl rfl rfl rfl rfl (fun h_ ho n4 => ?_)
  exact pb_return dX0_init_25 rfl (⟨rfl, ho, ((n4 _ (by omega)).trans ((n3 _ (by omega)).trans ((n2 _ (by omega)).trans r_140a))), fun x hx => ((n4 x (by omega)).trans ((n3 x (by omega)).trans ((n2 x (by omega)).trans (n1 x (by omega)))))⟩)
set_option maxRecDepth 10000 in
theorem i_light (ho : h 62 = some (.inr (.inr (4, [.null, .null, .null, .null, .null])))) (hn : ∀ x, 72 ≤ x → x < 90 → h x = none) : pb_T Z mX4_init 1 15 101 [.ref 62] h (fun v h' => v = none ∧ h' 62 = some (.inr (.inr (4, [.ref 72, .ref 73, .ref 74, .ref 75, .ref 76]))) ∧ h' 72 = some (.inr (.inl (4, 4, cTo 80 4))) ∧ h' 73 = some (.inr (.inl (4, 3, cTo 84 3))) ∧ h' 74 = some (.inr (.inl (4, 3, cTo 87 3))) ∧ (∀ i, i < 4 → cRow 8 (fun _ => 10) (h' (80 + i))) ∧ (∀ i, i < 3 → cRow 8 (fun b => sp_0 10 (8 * i + b)) (h' (84 + i))) ∧ (∀ i, i < 3 → cScr 8 (h' (87 + i))) ∧ cScr 3 (h' 75) ∧ (∃ F : Nat → Int32, h' 76 = some (.inl (1, 8, F))) ∧ ∀ x, (x ≠ 62 ∧ (x < 72 ∨ 77 ≤ x) ∧ (x < 80 ∨ 90 ≤ x)) → h' x = h x) := by
  refine pb_T.of pnX4_init (Nat.le_of_ble_eq_true rfl) (lv := [some (.ref 62), none]) rfl ?_
  refine pb_aload_n (pc2 := 1) dX4_init_0 rfl rfl rfl ?_
  refine pb_objI (pc2 := 4) rfl olX4 dX4_init_1 (by omega) (Nat.le_of_ble_eq_true rfl) rfl ?_
  refine pb_aload_n (pc2 := 5) dX4_init_4 rfl rfl rfl ?_
  refine pb_iconst (x := nI 4) (pc2 := 6) dX4_init_5 (by decide) rfl ?_
  refine pb_bipush (x := nI 8) (pc2 := 8) dX4_init_6 (by decide) rfl ?_
  refine pb_mnaG (72) (80) (k2 := 10) (n2 := 65) (pc2 := 12) dX4_init_8 rfl klX4_9 (hn _ (by omega) (by omega)) (fun i hi => (hn _ (by omega) (by omega))) (by omega) (by omega) (by omega) (by omega) (by omega) (by omega) rfl (fun h_ r_72 q_80 n1 => ?_)
  have ho := (n1 _ (by omega)).trans ho
  refine pb_putFG (fs2 := [_, _, _, _, _]) (pc2 := 15) flX4_11_X4 rfl dX4_init_12 ho (by omega) rfl rfl rfl rfl rfl rfl rfl (fun h_ ho n2 => ?_)
  refine pb_aload_n (pc2 := 16) dX4_init_15 rfl rfl rfl ?_
  refine pb_iconst (x := nI 3) (pc2 := 17) dX4_init_16 (by decide) rfl ?_
  refine pb_bipush (x := nI 8) (pc2 := 19) dX4_init_17 (by decide) rfl ?_
  refine pb_mnaG (73) (84) (k2 := 6) (n2 := 38) (pc2 := 23) dX4_init_19 rfl klX4_9 ((n2 _ (by omega)).trans ((n1 _ (by omega)).trans (hn _ (by omega) (by omega)))) (fun i hi => ((n2 _ (by omega)).trans ((n1 _ (by omega)).trans (hn _ (by omega) (by omega))))) (by omega) (by omega) (by omega) (by omega) (by omega) (by omega) rfl (fun h_ r_73 q_84 n3 => ?_)
  have ho := (n3 _ (by omega)).trans ho
  refine pb_putFG (fs2 := [_, _, _, _, _]) (pc2 := 26) flX4_16_X4 rfl dX4_init_23 ho (by omega) rfl rfl rfl rfl rfl rfl rfl (fun h_ ho n4 => ?_)
  refine pb_aload_n (pc2 := 27) dX4_init_26 rfl rfl rfl ?_
  refine pb_iconst (x := nI 3) (pc2 := 28) dX4_init_27 (by decide) rfl ?_
  refine pb_bipush (x := nI 8) (pc2 := 30) dX4_init_28 (by decide) rfl ?_
  refine pb_mnaG (74) (87) (k2 := 2) (n2 := 11) (pc2 := 34) dX4_init_30 rfl klX4_9 ((n4 _ (by omega)).trans ((n3 _ (by omega)).trans ((n2 _ (by omega)).trans ((n1 _ (by omega)).trans (hn _ (by omega) (by omega)))))) (fun i hi => ((n4 _ (by omega)).trans ((n3 _ (by omega)).trans ((n2 _ (by omega)).trans ((n1 _ (by omega)).trans (hn _ (by omega) (by omega))))))) (by omega) (by omega) (by omega) (by omega) (by omega) (by omega) rfl (fun h_ r_74 q_87 n5 => ?_)
  have ho := (n5 _ (by omega)).trans ho
  refine pb_putFG (fs2 := [_, _, _, _, _]) (pc2 := 37) flX4_19_X4 rfl dX4_init_34 ho (by omega) rfl rfl rfl rfl rfl rfl rfl (fun h_ ho n6 => ?_)
  refine pb_aload_n (pc2 := 38) dX4_init_37 rfl rfl rfl ?_
  refine pb_iconst (x := nI 3) (pc2 := 39) dX4_init_38 (by decide) rfl ?_
  refine pb_newaG (75) (k2 := 1) (n2 := 8) (pc2 := 41) dX4_init_39 ⟨by decide, rfl⟩ pb_aI ((n6 _ (by omega)).trans ((n5 _ (by omega)).trans ((n4 _ (by omega)).trans ((n3 _ (by omega)).trans ((n2 _ (by omega)).trans ((n1 _ (by omega)).trans (hn _ (by omega) (by omega)))))))) (by omega) (by omega) (by omega) (by omega) rfl (fun h_ r_75 n7 => ?_)
  have ho := (n7 _ (by omega)).trans ho
  refine pb_putFG (fs2 := [_, _, _, _, _]) (pc2 := 44) flX4_22_X4 rfl dX4_init_41 ho (by omega) rfl rfl rfl rfl rfl rfl rfl (fun h_ ho n8 => ?_)
  refine pb_aload_n (pc2 := 45) dX4_init_44 rfl rfl rfl ?_
  refine pb_bipush (x := nI 8) (pc2 := 47) dX4_init_45 (by decide) rfl ?_
  refine pb_newaZG (76) (k2 := 0) (n2 := 0) (pc2 := 49) dX4_init_47 ⟨by decide, rfl⟩ pb_aZ ((n8 _ (by omega)).trans ((n7 _ (by omega)).trans ((n6 _ (by omega)).trans ((n5 _ (by omega)).trans ((n4 _ (by omega)).trans ((n3 _ (by omega)).trans ((n2 _ (by omega)).trans ((n1 _ (by omega)).trans (hn _ (by omega) (by omega)))))))))) (by omega) (by omega) (by omega) (by omega) rfl (fun h_ r_76 n9 => ?_)
  have ho := (n9 _ (by omega)).trans ho
  refine pb_putFG (fs2 := [_, _, _, _, _]) (pc2 := 52) flX4_26_X4 rfl dX4_init_49 ho (by omega) rfl rfl rfl rfl rfl rfl rfl (fun h_ ho n10 => ?_)
  have f_72 := ((n10 _ (by omega)).trans ((n9 _ (by omega)).trans ((n8 _ (by omega)).trans ((n7 _ (by omega)).trans ((n6 _ (by omega)).trans ((n5 _ (by omega)).trans ((n4 _ (by omega)).trans ((n3 _ (by omega)).trans ((n2 _ (by omega)).trans r_72)))))))))
  have g_80 := (fun i (hi : i < 4) => ((n10 _ (by omega)).trans ((n9 _ (by omega)).trans ((n8 _ (by omega)).trans ((n7 _ (by omega)).trans ((n6 _ (by omega)).trans ((n5 _ (by omega)).trans ((n4 _ (by omega)).trans ((n3 _ (by omega)).trans ((n2 _ (by omega)).trans (q_80 i hi)))))))))))
  have f_73 := ((n10 _ (by omega)).trans ((n9 _ (by omega)).trans ((n8 _ (by omega)).trans ((n7 _ (by omega)).trans ((n6 _ (by omega)).trans ((n5 _ (by omega)).trans ((n4 _ (by omega)).trans r_73)))))))
  have g_84 := (fun i (hi : i < 3) => ((n10 _ (by omega)).trans ((n9 _ (by omega)).trans ((n8 _ (by omega)).trans ((n7 _ (by omega)).trans ((n6 _ (by omega)).trans ((n5 _ (by omega)).trans ((n4 _ (by omega)).trans (q_84 i hi)))))))))
  have f_74 := ((n10 _ (by omega)).trans ((n9 _ (by omega)).trans ((n8 _ (by omega)).trans ((n7 _ (by omega)).trans ((n6 _ (by omega)).trans r_74)))))
  have g_87 := (fun i (hi : i < 3) => ((n10 _ (by omega)).trans ((n9 _ (by omega)).trans ((n8 _ (by omega)).trans ((n7 _ (by omega)).trans ((n6 _ (by omega)).trans (q_87 i hi)))))))
  have f_75 := ((n10 _ (by omega)).trans ((n9 _ (by omega)).trans ((n8 _ (by omega)).trans r_75)))
  have f_76 := ((n10 _ (by omega)).trans r_76)
  have fr : ∀ x, (x ≠ 62 ∧ (x < 72 ∨ 77 ≤ x) ∧ (x < 80 ∨ 90 ≤ x)) → h_ x = h x := fun x hx => ((n10 x (by omega)).trans ((n9 x (by omega)).trans ((n8 x (by omega)).trans ((n7 x (by omega)).trans ((n6 x (by omega)).trans ((n5 x (by omega)).trans ((n4 x (by omega)).trans ((n3 x (by omega)).trans ((n2 x (by omega)).trans (n1 x (by omega)))))))))))
  clear n1 n2 n3 n4 n5 n6 n7 n8 n9 n10
  have sights : ∀ (q b : Nat) (E0 E1 E2 : Nat → Nat) (h' : pb_H), 3 - b < q → b ≤ 3 → (∀ i, i < 4 → cRow 8 (fun _ => 10) (h' (80 + i))) → h' 84 = some (.inl (0, 8, fun j => nI (E0 j))) → h' 85 = some (.inl (0, 8, fun j => nI (E1 j))) → h' 86 = some (.inl (0, 8, fun j => nI (E2 j))) → (∀ j, j < 8 → E0 j = (if 5 ≤ j ∧ j < 5 + b then 1 else 0) ∧ E1 j = (if 3 ≤ j ∧ j < 3 + b then 1 else 0) ∧ E2 j = (if j < b then 1 else 0)) → (∀ x, (x < 80 ∨ 87 ≤ x) → h' x = h_ x) → pb_S Z mX4_init 1 0 0 (fun v h' => v = none ∧ h' 62 = some (.inr (.inr (4, [.ref 72, .ref 73, .ref 74, .ref 75, .ref 76]))) ∧ h' 72 = some (.inr (.inl (4, 4, cTo 80 4))) ∧ h' 73 = some (.inr (.inl (4, 3, cTo 84 3))) ∧ h' 74 = some (.inr (.inl (4, 3, cTo 87 3))) ∧ (∀ i, i < 4 → cRow 8 (fun _ => 10) (h' (80 + i))) ∧ (∀ i, i < 3 → cRow 8 (fun b => sp_0 10 (8 * i + b)) (h' (84 + i))) ∧ (∀ i, i < 3 → cScr 8 (h' (87 + i))) ∧ cScr 3 (h' 75) ∧ (∃ F : Nat → Int32, h' 76 = some (.inl (1, 8, F))) ∧ ∀ x, (x ≠ 62 ∧ (x < 72 ∨ 77 ≤ x) ∧ (x < 80 ∨ 90 ≤ x)) → h' x = h x) 78 [some (.ref 62), some (.int (nI b))] [] h' := by
    intro q
    induction q with
    | zero => intro b E0 E1 E2 h' g1; omega
    | succ q ih =>
      intro b E0 E1 E2 h' g1 g2 hla h84 h85 h86 hE nb
      have ho : h' 62 = _ := (nb _ (by omega)).trans ho
      have f73 : h' 73 = _ := (nb _ (by omega)).trans f_73
      refine pb_iload_n (pc2 := 79) dX4_init_78 rfl rfl rfl ?_
      refine pb_iconst (x := nI 3) (pc2 := 80) dX4_init_79 (by decide) rfl ?_
      refine pb_icmpN_ge (tgt := 120) (pc2 := 83) dX4_init_80 (by decide) rfl (by omega) (by omega) (fun c => ?_) (fun c => ?_)
      · have e : b = 3 := by omega
        subst e
        have hs : ∀ i, i < 3 → cRow 8 (fun b => sp_0 10 (8 * i + b)) (h' (84 + i)) := fun i hi => by
          rcases (show i = 0 ∨ i = 1 ∨ i = 2 by omega) with rfl | rfl | rfl
          · refine ⟨E0, h84, fun j hj => ?_⟩
            rw [(hE j hj).1]
            show _ = (if (5 ≤ 8 * 0 + j ∧ 8 * 0 + j < 8) ∨ (11 ≤ 8 * 0 + j ∧ 8 * 0 + j < 14) ∨ (16 ≤ 8 * 0 + j ∧ 8 * 0 + j < 19) then 1 else 0)
            by_cases e : 5 ≤ j
            · rw [if_pos (by omega), if_pos (by omega)]
            · rw [if_neg (by omega), if_neg (by omega)]
          · refine ⟨E1, h85, fun j hj => ?_⟩
            rw [(hE j hj).2.1]
            show _ = (if (5 ≤ 8 * 1 + j ∧ 8 * 1 + j < 8) ∨ (11 ≤ 8 * 1 + j ∧ 8 * 1 + j < 14) ∨ (16 ≤ 8 * 1 + j ∧ 8 * 1 + j < 19) then 1 else 0)
            by_cases e : 3 ≤ j ∧ j < 6
            · rw [if_pos (by omega), if_pos (by omega)]
            · rw [if_neg (by omega), if_neg (by omega)]
          · refine ⟨E2, h86, fun j hj => ?_⟩
            rw [(hE j hj).2.2]
            show _ = (if (5 ≤ 8 * 2 + j ∧ 8 * 2 + j < 8) ∨ (11 ≤ 8 * 2 + j ∧ 8 * 2 + j < 14) ∨ (16 ≤ 8 * 2 + j ∧ 8 * 2 + j < 19) then 1 else 0)
            by_cases e : j < 3
            · rw [if_pos (by omega), if_pos (by omega)]
            · rw [if_neg (by omega), if_neg (by omega)]
        exact pb_return dX4_init_120 rfl (⟨rfl, ho, (nb _ (by omega)).trans f_72, f73, (nb _ (by omega)).trans f_74, hla, hs, fun i hi => ⟨fun _ => 0, (nb _ (by omega)).trans (g_87 i hi)⟩, ⟨fun _ => 0, (nb _ (by omega)).trans f_75⟩, ⟨_, (nb _ (by omega)).trans f_76⟩, fun x hx => (nb x (by omega)).trans (fr x hx)⟩)
      · refine pb_aload_n (pc2 := 84) dX4_init_83 rfl rfl rfl ?_
        refine pb_getf (pc2 := 87) flX4_16_X4 rfl dX4_init_84 (by first | assumption | exact hR.a rfl | exact hR.o | exact hC.o | exact hC.pal | exact hC.tub | exact hC.k _ _ rfl | exact hC.pot _ (by omega) | exact hC.are _ (by omega) | exact hC.arl _ (by omega) | exact hC.tbo _ (by omega) (by omega)) rfl rfl ?_
        refine pb_iconst (x := nI 0) (pc2 := 88) dX4_init_87 (by decide) rfl ?_
        refine pb_aald (pc2 := 89) (by first | assumption | exact hR.a rfl | exact hR.o | exact hC.o | exact hC.pal | exact hC.tub | exact hC.k _ _ rfl | exact hC.pot _ (by omega) | exact hC.are _ (by omega) | exact hC.arl _ (by omega) | exact hC.tbo _ (by omega) (by omega)) dX4_init_88 (by decide) (by omega) (by omega) (cTo_at (by omega)) rfl ?_
        refine pb_iconst (x := nI 5) (pc2 := 90) dX4_init_89 (by decide) rfl ?_
        refine pb_iload_n (pc2 := 91) dX4_init_90 rfl rfl rfl ?_
        refine pb_iaddN (pc2 := 92) dX4_init_91 rfl ?_
        refine pb_iconst (x := nI 1) (pc2 := 93) dX4_init_92 (by decide) rfl ?_
        refine pb_iastG (pc2 := 94) (a := 84) h84 dX4_init_93 (by omega) (by omega) (by omega) rfl (fun h1 h84 n1 => ?_)
        have ho := (n1 _ (by omega)).trans ho
        have f73 := (n1 _ (by omega)).trans f73
        have h85 := (n1 _ (by omega)).trans h85
        have h86 := (n1 _ (by omega)).trans h86
        refine pb_aload_n (pc2 := 95) dX4_init_94 rfl rfl rfl ?_
        refine pb_getf (pc2 := 98) flX4_16_X4 rfl dX4_init_95 (by first | assumption | exact hR.a rfl | exact hR.o | exact hC.o | exact hC.pal | exact hC.tub | exact hC.k _ _ rfl | exact hC.pot _ (by omega) | exact hC.are _ (by omega) | exact hC.arl _ (by omega) | exact hC.tbo _ (by omega) (by omega)) rfl rfl ?_
        refine pb_iconst (x := nI 1) (pc2 := 99) dX4_init_98 (by decide) rfl ?_
        refine pb_aald (pc2 := 100) (by first | assumption | exact hR.a rfl | exact hR.o | exact hC.o | exact hC.pal | exact hC.tub | exact hC.k _ _ rfl | exact hC.pot _ (by omega) | exact hC.are _ (by omega) | exact hC.arl _ (by omega) | exact hC.tbo _ (by omega) (by omega)) dX4_init_99 (by decide) (by omega) (by omega) (cTo_at (by omega)) rfl ?_
        refine pb_iconst (x := nI 3) (pc2 := 101) dX4_init_100 (by decide) rfl ?_
        refine pb_iload_n (pc2 := 102) dX4_init_101 rfl rfl rfl ?_
        refine pb_iaddN (pc2 := 103) dX4_init_102 rfl ?_
        refine pb_iconst (x := nI 1) (pc2 := 104) dX4_init_103 (by decide) rfl ?_
        refine pb_iastG (pc2 := 105) (a := 85) h85 dX4_init_104 (by omega) (by omega) (by omega) rfl (fun h2 h85 n2 => ?_)
        have ho := (n2 _ (by omega)).trans ho
        have f73 := (n2 _ (by omega)).trans f73
        have h84 := (n2 _ (by omega)).trans h84
        have h86 := (n2 _ (by omega)).trans h86
        refine pb_aload_n (pc2 := 106) dX4_init_105 rfl rfl rfl ?_
        refine pb_getf (pc2 := 109) flX4_16_X4 rfl dX4_init_106 (by first | assumption | exact hR.a rfl | exact hR.o | exact hC.o | exact hC.pal | exact hC.tub | exact hC.k _ _ rfl | exact hC.pot _ (by omega) | exact hC.are _ (by omega) | exact hC.arl _ (by omega) | exact hC.tbo _ (by omega) (by omega)) rfl rfl ?_
        refine pb_iconst (x := nI 2) (pc2 := 110) dX4_init_109 (by decide) rfl ?_
        refine pb_aald (pc2 := 111) (by first | assumption | exact hR.a rfl | exact hR.o | exact hC.o | exact hC.pal | exact hC.tub | exact hC.k _ _ rfl | exact hC.pot _ (by omega) | exact hC.are _ (by omega) | exact hC.arl _ (by omega) | exact hC.tbo _ (by omega) (by omega)) dX4_init_110 (by decide) (by omega) (by omega) (cTo_at (by omega)) rfl ?_
        refine pb_iload_n (pc2 := 112) dX4_init_111 rfl rfl rfl ?_
        refine pb_iconst (x := nI 1) (pc2 := 113) dX4_init_112 (by decide) rfl ?_
        refine pb_iastG (pc2 := 114) (a := 86) h86 dX4_init_113 (by omega) (by omega) (by omega) rfl (fun h3 h86 n3 => ?_)
        have h84 := (n3 _ (by omega)).trans h84
        have h85 := (n3 _ (by omega)).trans h85
        refine pb_iincP (c0 := 1) (lv2 := [_, _]) (pc2 := 117) dX4_init_114 rfl (by decide) rfl rfl ?_
        refine pb_goto (tgt := 78) dX4_init_117 (by decide) ?_
        refine ih (b + 1) _ _ _ h3 (by omega) (by omega) (fun i hi => ?_) h84 h85 h86 (fun j hj => ?_) (fun x hx => (n3 x (by omega)).trans ((n2 x (by omega)).trans ((n1 x (by omega)).trans (nb x hx))))
        · rw [n3 _ (by omega), n2 _ (by omega), n1 _ (by omega)]; exact hla i hi
        · obtain ⟨e0, e1, e2⟩ := hE j hj
          unfold pb_un
          rw [e0, e1, e2]
          refine ⟨?_, ?_, ?_⟩
          · by_cases e : j = 5 + b
            · rw [if_pos e, if_pos (by omega)]
            · rw [if_neg e]
              by_cases e9 : 5 ≤ j ∧ j < 5 + b
              · rw [if_pos e9, if_pos (by omega)]
              · rw [if_neg e9, if_neg (by omega)]
          · by_cases e : j = 3 + b
            · rw [if_pos e, if_pos (by omega)]
            · rw [if_neg e]
              by_cases e9 : 3 ≤ j ∧ j < 3 + b
              · rw [if_pos e9, if_pos (by omega)]
              · rw [if_neg e9, if_neg (by omega)]
          · by_cases e : j = b
            · rw [if_pos e, if_pos (by omega)]
            · rw [if_neg e]
              by_cases e9 : j < b
              · rw [if_pos e9, if_pos (by omega)]
              · rw [if_neg e9, if_neg (by omega)]
  have lamps : ∀ (q i : Nat) (h' : pb_H), 4 - i < q → i ≤ 4 → (∀ u, u < i → cRow 8 (fun _ => 10) (h' (80 + u))) → (∀ u, i ≤ u → u < 4 → cScr 8 (h' (80 + u))) → (∀ x, (x < 80 ∨ 84 ≤ x) → h' x = h_ x) → pb_S Z mX4_init 1 0 0 (fun v h' => v = none ∧ h' 62 = some (.inr (.inr (4, [.ref 72, .ref 73, .ref 74, .ref 75, .ref 76]))) ∧ h' 72 = some (.inr (.inl (4, 4, cTo 80 4))) ∧ h' 73 = some (.inr (.inl (4, 3, cTo 84 3))) ∧ h' 74 = some (.inr (.inl (4, 3, cTo 87 3))) ∧ (∀ i, i < 4 → cRow 8 (fun _ => 10) (h' (80 + i))) ∧ (∀ i, i < 3 → cRow 8 (fun b => sp_0 10 (8 * i + b)) (h' (84 + i))) ∧ (∀ i, i < 3 → cScr 8 (h' (87 + i))) ∧ cScr 3 (h' 75) ∧ (∃ F : Nat → Int32, h' 76 = some (.inl (1, 8, F))) ∧ ∀ x, (x ≠ 62 ∧ (x < 72 ∨ 77 ≤ x) ∧ (x < 80 ∨ 90 ≤ x)) → h' x = h x) 54 [some (.ref 62), some (.int (nI i))] [] h' := by
    intro q
    induction q with
    | zero => intro i h' g1; omega
    | succ q ih =>
      intro i h' g1 g2 hlo hhi nb
      have ho : h' 62 = _ := (nb _ (by omega)).trans ho
      have f72 : h' 72 = _ := (nb _ (by omega)).trans f_72
      refine pb_iload_n (pc2 := 55) dX4_init_54 rfl rfl rfl ?_
      refine pb_iconst (x := nI 4) (pc2 := 56) dX4_init_55 (by decide) rfl ?_
      refine pb_icmpN_ge (tgt := 76) (pc2 := 59) dX4_init_56 (by decide) rfl (by omega) (by omega) (fun c => ?_) (fun c => ?_)
      · have e : i = 4 := by omega
        subst e
        refine pb_iconst (x := nI 0) (pc2 := 77) dX4_init_76 (by decide) rfl ?_
        refine pb_istore_n (lv2 := [_, _]) (pc2 := 78) dX4_init_77 rfl (by decide) rfl rfl ?_
        refine sights 4 0 (fun _ => 0) (fun _ => 0) (fun _ => 0) h' (by omega) (by omega) hlo ((nb _ (by omega)).trans (g_84 0 (by omega))) ((nb _ (by omega)).trans (g_84 1 (by omega))) ((nb _ (by omega)).trans (g_84 2 (by omega))) (fun j hj => ⟨by rw [if_neg (by omega)], by rw [if_neg (by omega)], by rw [if_neg (by omega)]⟩) (fun x hx => nb x (by omega))
      · refine pb_aload_n (pc2 := 60) dX4_init_59 rfl rfl rfl ?_
        refine pb_getf (pc2 := 63) flX4_11_X4 rfl dX4_init_60 (by first | assumption | exact hR.a rfl | exact hR.o | exact hC.o | exact hC.pal | exact hC.tub | exact hC.k _ _ rfl | exact hC.pot _ (by omega) | exact hC.are _ (by omega) | exact hC.arl _ (by omega) | exact hC.tbo _ (by omega) (by omega)) rfl rfl ?_
        refine pb_iload_n (pc2 := 64) dX4_init_63 rfl rfl rfl ?_
        refine pb_aald (pc2 := 65) (by first | assumption | exact hR.a rfl | exact hR.o | exact hC.o | exact hC.pal | exact hC.tub | exact hC.k _ _ rfl | exact hC.pot _ (by omega) | exact hC.are _ (by omega) | exact hC.arl _ (by omega) | exact hC.tbo _ (by omega) (by omega)) dX4_init_64 (by decide) (by omega) (by omega) (cTo_at (by omega)) rfl ?_
        refine pb_bipush (x := nI 10) (pc2 := 67) dX4_init_65 (by decide) rfl ?_
        refine pb_callS (pc2 := 70) (k2 := 0) (n2 := 0) mwJ7_fill_53178 swJ7_fill_53178 rfl mlX4_30 dX4_init_67 (t_fill (c := 10) (n := 8) (hhi i (Nat.le_refl _) c) (by omega) (by omega)) (by omega) (by omega) (by omega) rfl rfl (Nat.le_of_ble_eq_true rfl) rfl (pb_kW (fun h2 G hg hG n2 => ?_))
        refine pb_iincP (c0 := 1) (lv2 := [_, _]) (pc2 := 73) dX4_init_70 rfl (by decide) rfl rfl ?_
        refine pb_goto (tgt := 54) dX4_init_73 (by decide) ?_
        refine ih (i + 1) h2 (by omega) (by omega) (fun u hu => ?_) (fun u u1 u2 => ?_) (fun x hx => (n2 x (by omega)).trans (nb x hx))
        · by_cases e : u = i
          · rw [e]; exact ⟨G, hg, hG⟩
          · rw [n2 _ (by omega)]; exact hlo u (by omega)
        · rw [n2 _ (by omega)]; exact hhi u (by omega) u2
  refine pb_iconst (x := nI 0) (pc2 := 53) dX4_init_52 (by decide) rfl ?_
  refine pb_istore_n (lv2 := [_, _]) (pc2 := 54) dX4_init_53 rfl (by decide) rfl rfl ?_
  exact lamps 5 0 h_ (by omega) (by omega) (fun u hu => by omega) (fun u _ u2 => ⟨fun _ => 0, g_80 u u2⟩) (fun _ _ => rfl)
set_option maxRecDepth 10000 in
theorem i_searchM {v0 v1 v2 v3 v4 : Value} (ho : h 68 = some (.inr (.inr (5, [.null, .null, .null, .null, .int (nI 0), .null, .null, .null, .null, .int (nI 0), .null, v0, v1, v2, v3, v4])))) (hn : ∀ x, 300 ≤ x → x < 370 → h x = none) : pb_T Z mX9_init 1 41 328 [.ref 68] h (fun v h' => v = none ∧ h' 68 = some (.inr (.inr (5, soM 0 0 v0 v1 v2 v3 v4))) ∧ (h' 302 = some (.inr (.inl (4, 12, cTo 320 12))) ∧ h' 303 = some (.inr (.inl (4, 12, cTo 340 12))) ∧ h' 306 = some (.inr (.inl (4, 4, cTo 360 4))) ∧ h' 307 = some (.inr (.inl (4, 4, cTo 364 4)))) ∧ (h' 300 = some (.inl (0, 12, fun _ => nI 0)) ∧ h' 301 = some (.inl (0, 12, fun _ => nI 0)) ∧ h' 304 = some (.inl (0, 4, fun _ => nI 0)) ∧ h' 305 = some (.inl (0, 4, fun _ => nI 0)) ∧ h' 308 = some (.inl (0, 8, fun _ => nI 0))) ∧ ((∀ i, i < 12 → h' (320 + i) = some (.inl (0, 8, fun _ => nI 0))) ∧ (∀ i, i < 12 → h' (340 + i) = some (.inl (0, 8, fun _ => nI 0))) ∧ (∀ i, i < 4 → h' (360 + i) = some (.inl (0, 8, fun _ => nI 0))) ∧ (∀ i, i < 4 → h' (364 + i) = some (.inl (0, 8, fun _ => nI 0)))) ∧ ∀ x, (x ≠ 68 ∧ (x < 300 ∨ 308 < x) ∧ (x < 320 ∨ 368 ≤ x)) → h' x = h x) := by
  refine pb_T.of pnX9_init (Nat.le_of_ble_eq_true rfl) (lv := [some (.ref 68)]) rfl ?_
  refine pb_aload_n (pc2 := 1) dX9_init_0 rfl rfl rfl ?_
  refine pb_objI (pc2 := 4) rfl olX9 dX9_init_1 (by omega) (Nat.le_of_ble_eq_true rfl) rfl ?_
  refine pb_aload_n (pc2 := 5) dX9_init_4 rfl rfl rfl ?_
  refine pb_bipush (x := nI 12) (pc2 := 7) dX9_init_5 (by decide) rfl ?_
  refine pb_newaG (300) (k2 := 40) (n2 := 316) (pc2 := 9) dX9_init_7 ⟨by decide, rfl⟩ pb_aI (hn _ (by omega) (by omega)) (by omega) (by omega) (by omega) (by omega) rfl (fun h_ r_300 n1 => ?_)
  have ho := (n1 _ (by omega)).trans ho
  refine pb_putFG (fs2 := [_, _, _, _, _, _, _, _, _, _, _, _, _, _, _, _]) (pc2 := 12) flX9_9_X5 rfl dX9_init_9 ho (by omega) rfl rfl rfl rfl rfl rfl rfl (fun h_ ho n2 => ?_)
  refine pb_aload_n (pc2 := 13) dX9_init_12 rfl rfl rfl ?_
  refine pb_bipush (x := nI 12) (pc2 := 15) dX9_init_13 (by decide) rfl ?_
  refine pb_newaG (301) (k2 := 39) (n2 := 304) (pc2 := 17) dX9_init_15 ⟨by decide, rfl⟩ pb_aI ((n2 _ (by omega)).trans ((n1 _ (by omega)).trans (hn _ (by omega) (by omega)))) (by omega) (by omega) (by omega) (by omega) rfl (fun h_ r_301 n3 => ?_)
  have ho := (n3 _ (by omega)).trans ho
  refine pb_putFG (fs2 := [_, _, _, _, _, _, _, _, _, _, _, _, _, _, _, _]) (pc2 := 20) flX9_15_X5 rfl dX9_init_17 ho (by omega) rfl rfl rfl rfl rfl rfl rfl (fun h_ ho n4 => ?_)
  refine pb_aload_n (pc2 := 21) dX9_init_20 rfl rfl rfl ?_
  refine pb_bipush (x := nI 12) (pc2 := 23) dX9_init_21 (by decide) rfl ?_
  refine pb_bipush (x := nI 8) (pc2 := 25) dX9_init_23 (by decide) rfl ?_
  refine pb_mnaG (302) (320) (k2 := 26) (n2 := 196) (pc2 := 29) dX9_init_25 rfl klX9_18 ((n4 _ (by omega)).trans ((n3 _ (by omega)).trans ((n2 _ (by omega)).trans ((n1 _ (by omega)).trans (hn _ (by omega) (by omega)))))) (fun i hi => ((n4 _ (by omega)).trans ((n3 _ (by omega)).trans ((n2 _ (by omega)).trans ((n1 _ (by omega)).trans (hn _ (by omega) (by omega))))))) (by omega) (by omega) (by omega) (by omega) (by omega) (by omega) rfl (fun h_ r_302 q_320 n5 => ?_)
  have ho := (n5 _ (by omega)).trans ho
  refine pb_putFG (fs2 := [_, _, _, _, _, _, _, _, _, _, _, _, _, _, _, _]) (pc2 := 32) flX9_20_X5 rfl dX9_init_29 ho (by omega) rfl rfl rfl rfl rfl rfl rfl (fun h_ ho n6 => ?_)
  refine pb_aload_n (pc2 := 33) dX9_init_32 rfl rfl rfl ?_
  refine pb_bipush (x := nI 12) (pc2 := 35) dX9_init_33 (by decide) rfl ?_
  refine pb_bipush (x := nI 8) (pc2 := 37) dX9_init_35 (by decide) rfl ?_
  refine pb_mnaG (303) (340) (k2 := 13) (n2 := 88) (pc2 := 41) dX9_init_37 rfl klX9_18 ((n6 _ (by omega)).trans ((n5 _ (by omega)).trans ((n4 _ (by omega)).trans ((n3 _ (by omega)).trans ((n2 _ (by omega)).trans ((n1 _ (by omega)).trans (hn _ (by omega) (by omega)))))))) (fun i hi => ((n6 _ (by omega)).trans ((n5 _ (by omega)).trans ((n4 _ (by omega)).trans ((n3 _ (by omega)).trans ((n2 _ (by omega)).trans ((n1 _ (by omega)).trans (hn _ (by omega) (by omega))))))))) (by omega) (by omega) (by omega) (by omega) (by omega) (by omega) rfl (fun h_ r_303 q_340 n7 => ?_)
  have ho := (n7 _ (by omega)).trans ho
  refine pb_putFG (fs2 := [_, _, _, _, _, _, _, _, _, _, _, _, _, _, _, _]) (pc2 := 44) flX9_23_X5 rfl dX9_init_41 ho (by omega) rfl rfl rfl rfl rfl rfl rfl (fun h_ ho n8 => ?_)
  refine pb_aload_n (pc2 := 45) dX9_init_44 rfl rfl rfl ?_
  refine pb_iconst (x := nI 0) (pc2 := 46) dX9_init_45 (by decide) rfl ?_
  refine pb_putG (fs2 := [_, _, _, _, _, _, _, _, _, _, _, _, _, _, _, _]) (pc2 := 49) flX9_26_X5 rfl dX9_init_46 ho (by omega) rfl rfl rfl rfl rfl (fun h_ ho n9 => ?_)
  refine pb_aload_n (pc2 := 50) dX9_init_49 rfl rfl rfl ?_
  refine pb_iconst (x := nI 4) (pc2 := 51) dX9_init_50 (by decide) rfl ?_
  refine pb_newaG (304) (k2 := 12) (n2 := 84) (pc2 := 53) dX9_init_51 ⟨by decide, rfl⟩ pb_aI ((n9 _ (by omega)).trans ((n8 _ (by omega)).trans ((n7 _ (by omega)).trans ((n6 _ (by omega)).trans ((n5 _ (by omega)).trans ((n4 _ (by omega)).trans ((n3 _ (by omega)).trans ((n2 _ (by omega)).trans ((n1 _ (by omega)).trans (hn _ (by omega) (by omega))))))))))) (by omega) (by omega) (by omega) (by omega) rfl (fun h_ r_304 n10 => ?_)
  have ho := (n10 _ (by omega)).trans ho
  refine pb_putFG (fs2 := [_, _, _, _, _, _, _, _, _, _, _, _, _, _, _, _]) (pc2 := 56) flX9_30_X5 rfl dX9_init_53 ho (by omega) rfl rfl rfl rfl rfl rfl rfl (fun h_ ho n11 => ?_)
  refine pb_aload_n (pc2 := 57) dX9_init_56 rfl rfl rfl ?_
  refine pb_iconst (x := nI 4) (pc2 := 58) dX9_init_57 (by decide) rfl ?_
  refine pb_newaG (305) (k2 := 11) (n2 := 80) (pc2 := 60) dX9_init_58 ⟨by decide, rfl⟩ pb_aI ((n11 _ (by omega)).trans ((n10 _ (by omega)).trans ((n9 _ (by omega)).trans ((n8 _ (by omega)).trans ((n7 _ (by omega)).trans ((n6 _ (by omega)).trans ((n5 _ (by omega)).trans ((n4 _ (by omega)).trans ((n3 _ (by omega)).trans ((n2 _ (by omega)).trans ((n1 _ (by omega)).trans (hn _ (by omega) (by omega))))))))))))) (by omega) (by omega) (by omega) (by omega) rfl (fun h_ r_305 n12 => ?_)
  have ho := (n12 _ (by omega)).trans ho
  refine pb_putFG (fs2 := [_, _, _, _, _, _, _, _, _, _, _, _, _, _, _, _]) (pc2 := 63) flX9_33_X5 rfl dX9_init_60 ho (by omega) rfl rfl rfl rfl rfl rfl rfl (fun h_ ho n13 => ?_)
  refine pb_aload_n (pc2 := 64) dX9_init_63 rfl rfl rfl ?_
  refine pb_iconst (x := nI 4) (pc2 := 65) dX9_init_64 (by decide) rfl ?_
  refine pb_bipush (x := nI 8) (pc2 := 67) dX9_init_65 (by decide) rfl ?_
  refine pb_mnaG (306) (360) (k2 := 6) (n2 := 44) (pc2 := 71) dX9_init_67 rfl klX9_18 ((n13 _ (by omega)).trans ((n12 _ (by omega)).trans ((n11 _ (by omega)).trans ((n10 _ (by omega)).trans ((n9 _ (by omega)).trans ((n8 _ (by omega)).trans ((n7 _ (by omega)).trans ((n6 _ (by omega)).trans ((n5 _ (by omega)).trans ((n4 _ (by omega)).trans ((n3 _ (by omega)).trans ((n2 _ (by omega)).trans ((n1 _ (by omega)).trans (hn _ (by omega) (by omega))))))))))))))) (fun i hi => ((n13 _ (by omega)).trans ((n12 _ (by omega)).trans ((n11 _ (by omega)).trans ((n10 _ (by omega)).trans ((n9 _ (by omega)).trans ((n8 _ (by omega)).trans ((n7 _ (by omega)).trans ((n6 _ (by omega)).trans ((n5 _ (by omega)).trans ((n4 _ (by omega)).trans ((n3 _ (by omega)).trans ((n2 _ (by omega)).trans ((n1 _ (by omega)).trans (hn _ (by omega) (by omega)))))))))))))))) (by omega) (by omega) (by omega) (by omega) (by omega) (by omega) rfl (fun h_ r_306 q_360 n14 => ?_)
  have ho := (n14 _ (by omega)).trans ho
  refine pb_putFG (fs2 := [_, _, _, _, _, _, _, _, _, _, _, _, _, _, _, _]) (pc2 := 74) flX9_36_X5 rfl dX9_init_71 ho (by omega) rfl rfl rfl rfl rfl rfl rfl (fun h_ ho n15 => ?_)
  refine pb_aload_n (pc2 := 75) dX9_init_74 rfl rfl rfl ?_
  refine pb_iconst (x := nI 4) (pc2 := 76) dX9_init_75 (by decide) rfl ?_
  refine pb_bipush (x := nI 8) (pc2 := 78) dX9_init_76 (by decide) rfl ?_
  refine pb_mnaG (307) (364) (k2 := 1) (n2 := 8) (pc2 := 82) dX9_init_78 rfl klX9_18 ((n15 _ (by omega)).trans ((n14 _ (by omega)).trans ((n13 _ (by omega)).trans ((n12 _ (by omega)).trans ((n11 _ (by omega)).trans ((n10 _ (by omega)).trans ((n9 _ (by omega)).trans ((n8 _ (by omega)).trans ((n7 _ (by omega)).trans ((n6 _ (by omega)).trans ((n5 _ (by omega)).trans ((n4 _ (by omega)).trans ((n3 _ (by omega)).trans ((n2 _ (by omega)).trans ((n1 _ (by omega)).trans (hn _ (by omega) (by omega))))))))))))))))) (fun i hi => ((n15 _ (by omega)).trans ((n14 _ (by omega)).trans ((n13 _ (by omega)).trans ((n12 _ (by omega)).trans ((n11 _ (by omega)).trans ((n10 _ (by omega)).trans ((n9 _ (by omega)).trans ((n8 _ (by omega)).trans ((n7 _ (by omega)).trans ((n6 _ (by omega)).trans ((n5 _ (by omega)).trans ((n4 _ (by omega)).trans ((n3 _ (by omega)).trans ((n2 _ (by omega)).trans ((n1 _ (by omega)).trans (hn _ (by omega) (by omega)))))))))))))))))) (by omega) (by omega) (by omega) (by omega) (by omega) (by omega) rfl (fun h_ r_307 q_364 n16 => ?_)
  have ho := (n16 _ (by omega)).trans ho
  refine pb_putFG (fs2 := [_, _, _, _, _, _, _, _, _, _, _, _, _, _, _, _]) (pc2 := 85) flX9_39_X5 rfl dX9_init_82 ho (by omega) rfl rfl rfl rfl rfl rfl rfl (fun h_ ho n17 => ?_)
  refine pb_aload_n (pc2 := 86) dX9_init_85 rfl rfl rfl ?_
  refine pb_iconst (x := nI 0) (pc2 := 87) dX9_init_86 (by decide) rfl ?_
  refine pb_putG (fs2 := [_, _, _, _, _, _, _, _, _, _, _, _, _, _, _, _]) (pc2 := 90) flX9_42_X5 rfl dX9_init_87 ho (by omega) rfl rfl rfl rfl rfl (fun h_ ho n18 => ?_)
  refine pb_aload_n (pc2 := 91) dX9_init_90 rfl rfl rfl ?_
  refine pb_bipush (x := nI 8) (pc2 := 93) dX9_init_91 (by decide) rfl ?_
  refine pb_newaG (308) (k2 := 0) (n2 := 0) (pc2 := 95) dX9_init_93 ⟨by decide, rfl⟩ pb_aI ((n18 _ (by omega)).trans ((n17 _ (by omega)).trans ((n16 _ (by omega)).trans ((n15 _ (by omega)).trans ((n14 _ (by omega)).trans ((n13 _ (by omega)).trans ((n12 _ (by omega)).trans ((n11 _ (by omega)).trans ((n10 _ (by omega)).trans ((n9 _ (by omega)).trans ((n8 _ (by omega)).trans ((n7 _ (by omega)).trans ((n6 _ (by omega)).trans ((n5 _ (by omega)).trans ((n4 _ (by omega)).trans ((n3 _ (by omega)).trans ((n2 _ (by omega)).trans ((n1 _ (by omega)).trans (hn _ (by omega) (by omega)))))))))))))))))))) (by omega) (by omega) (by omega) (by omega) rfl (fun h_ r_308 n19 => ?_)
  have ho := (n19 _ (by omega)).trans ho
  refine pb_putFG (fs2 := [_, _, _, _, _, _, _, _, _, _, _, _, _, _, _, _]) (pc2 := 98) flX9_45_X5 rfl dX9_init_95 ho (by omega) rfl rfl rfl rfl rfl rfl rfl (fun h_ ho n20 => ?_)
  exact pb_return dX9_init_98 rfl (⟨rfl, ho, ⟨((n20 _ (by omega)).trans ((n19 _ (by omega)).trans ((n18 _ (by omega)).trans ((n17 _ (by omega)).trans ((n16 _ (by omega)).trans ((n15 _ (by omega)).trans ((n14 _ (by omega)).trans ((n13 _ (by omega)).trans ((n12 _ (by omega)).trans ((n11 _ (by omega)).trans ((n10 _ (by omega)).trans ((n9 _ (by omega)).trans ((n8 _ (by omega)).trans ((n7 _ (by omega)).trans ((n6 _ (by omega)).trans r_302))))))))))))))), ((n20 _ (by omega)).trans ((n19 _ (by omega)).trans ((n18 _ (by omega)).trans ((n17 _ (by omega)).trans ((n16 _ (by omega)).trans ((n15 _ (by omega)).trans ((n14 _ (by omega)).trans ((n13 _ (by omega)).trans ((n12 _ (by omega)).trans ((n11 _ (by omega)).trans ((n10 _ (by omega)).trans ((n9 _ (by omega)).trans ((n8 _ (by omega)).trans r_303))))))))))))), ((n20 _ (by omega)).trans ((n19 _ (by omega)).trans ((n18 _ (by omega)).trans ((n17 _ (by omega)).trans ((n16 _ (by omega)).trans ((n15 _ (by omega)).trans r_306)))))), ((n20 _ (by omega)).trans ((n19 _ (by omega)).trans ((n18 _ (by omega)).trans ((n17 _ (by omega)).trans r_307))))⟩, ⟨((n20 _ (by omega)).trans ((n19 _ (by omega)).trans ((n18 _ (by omega)).trans ((n17 _ (by omega)).trans ((n16 _ (by omega)).trans ((n15 _ (by omega)).trans ((n14 _ (by omega)).trans ((n13 _ (by omega)).trans ((n12 _ (by omega)).trans ((n11 _ (by omega)).trans ((n10 _ (by omega)).trans ((n9 _ (by omega)).trans ((n8 _ (by omega)).trans ((n7 _ (by omega)).trans ((n6 _ (by omega)).trans ((n5 _ (by omega)).trans ((n4 _ (by omega)).trans ((n3 _ (by omega)).trans ((n2 _ (by omega)).trans r_300))))))))))))))))))), ((n20 _ (by omega)).trans ((n19 _ (by omega)).trans ((n18 _ (by omega)).trans ((n17 _ (by omega)).trans ((n16 _ (by omega)).trans ((n15 _ (by omega)).trans ((n14 _ (by omega)).trans ((n13 _ (by omega)).trans ((n12 _ (by omega)).trans ((n11 _ (by omega)).trans ((n10 _ (by omega)).trans ((n9 _ (by omega)).trans ((n8 _ (by omega)).trans ((n7 _ (by omega)).trans ((n6 _ (by omega)).trans ((n5 _ (by omega)).trans ((n4 _ (by omega)).trans r_301))))))))))))))))), ((n20 _ (by omega)).trans ((n19 _ (by omega)).trans ((n18 _ (by omega)).trans ((n17 _ (by omega)).trans ((n16 _ (by omega)).trans ((n15 _ (by omega)).trans ((n14 _ (by omega)).trans ((n13 _ (by omega)).trans ((n12 _ (by omega)).trans ((n11 _ (by omega)).trans r_304)))))))))), ((n20 _ (by omega)).trans ((n19 _ (by omega)).trans ((n18 _ (by omega)).trans ((n17 _ (by omega)).trans ((n16 _ (by omega)).trans ((n15 _ (by omega)).trans ((n14 _ (by omega)).trans ((n13 _ (by omega)).trans r_305)))))))), ((n20 _ (by omega)).trans r_308)⟩, ⟨(fun i hi => ((n20 _ (by omega)).trans ((n19 _ (by omega)).trans ((n18 _ (by omega)).trans ((n17 _ (by omega)).trans ((n16 _ (by omega)).trans ((n15 _ (by omega)).trans ((n14 _ (by omega)).trans ((n13 _ (by omega)).trans ((n12 _ (by omega)).trans ((n11 _ (by omega)).trans ((n10 _ (by omega)).trans ((n9 _ (by omega)).trans ((n8 _ (by omega)).trans ((n7 _ (by omega)).trans ((n6 _ (by omega)).trans (q_320 i hi))))))))))))))))), (fun i hi => ((n20 _ (by omega)).trans ((n19 _ (by omega)).trans ((n18 _ (by omega)).trans ((n17 _ (by omega)).trans ((n16 _ (by omega)).trans ((n15 _ (by omega)).trans ((n14 _ (by omega)).trans ((n13 _ (by omega)).trans ((n12 _ (by omega)).trans ((n11 _ (by omega)).trans ((n10 _ (by omega)).trans ((n9 _ (by omega)).trans ((n8 _ (by omega)).trans (q_340 i hi))))))))))))))), (fun i hi => ((n20 _ (by omega)).trans ((n19 _ (by omega)).trans ((n18 _ (by omega)).trans ((n17 _ (by omega)).trans ((n16 _ (by omega)).trans ((n15 _ (by omega)).trans (q_360 i hi)))))))), (fun i hi => ((n20 _ (by omega)).trans ((n19 _ (by omega)).trans ((n18 _ (by omega)).trans ((n17 _ (by omega)).trans (q_364 i hi))))))⟩, fun x hx => ((n20 x (by omega)).trans ((n19 x (by omega)).trans ((n18 x (by omega)).trans ((n17 x (by omega)).trans ((n16 x (by omega)).trans ((n15 x (by omega)).trans ((n14 x (by omega)).trans ((n13 x (by omega)).trans ((n12 x (by omega)).trans ((n11 x (by omega)).trans ((n10 x (by omega)).trans ((n9 x (by omega)).trans ((n8 x (by omega)).trans ((n7 x (by omega)).trans ((n6 x (by omega)).trans ((n5 x (by omega)).trans ((n4 x (by omega)).trans ((n3 x (by omega)).trans ((n2 x (by omega)).trans (n1 x (by omega)))))))))))))))))))))⟩)
set_option maxRecDepth 10000 in
theorem i_searchC {v0 v1 v2 v3 v4 : Value} (ho : h 69 = some (.inr (.inr (1, [.null, .null, .null, .null, .int (nI 0), .null, .null, .null, .null, .int (nI 0), .null, v0, v1, v2, v3, v4])))) (hn : ∀ x, 400 ≤ x → x < 470 → h x = none) : pb_T Z mX9_init 1 41 328 [.ref 69] h (fun v h' => v = none ∧ h' 69 = some (.inr (.inr (1, soC 0 0 v0 v1 v2 v3 v4))) ∧ (h' 402 = some (.inr (.inl (4, 12, cTo 420 12))) ∧ h' 403 = some (.inr (.inl (4, 12, cTo 440 12))) ∧ h' 406 = some (.inr (.inl (4, 4, cTo 460 4))) ∧ h' 407 = some (.inr (.inl (4, 4, cTo 464 4)))) ∧ (h' 400 = some (.inl (0, 12, fun _ => nI 0)) ∧ h' 401 = some (.inl (0, 12, fun _ => nI 0)) ∧ h' 404 = some (.inl (0, 4, fun _ => nI 0)) ∧ h' 405 = some (.inl (0, 4, fun _ => nI 0)) ∧ h' 408 = some (.inl (0, 8, fun _ => nI 0))) ∧ ((∀ i, i < 12 → h' (420 + i) = some (.inl (0, 8, fun _ => nI 0))) ∧ (∀ i, i < 12 → h' (440 + i) = some (.inl (0, 8, fun _ => nI 0))) ∧ (∀ i, i < 4 → h' (460 + i) = some (.inl (0, 8, fun _ => nI 0))) ∧ (∀ i, i < 4 → h' (464 + i) = some (.inl (0, 8, fun _ => nI 0)))) ∧ ∀ x, (x ≠ 69 ∧ (x < 400 ∨ 408 < x) ∧ (x < 420 ∨ 468 ≤ x)) → h' x = h x) := by
  refine pb_T.of pnX9_init (Nat.le_of_ble_eq_true rfl) (lv := [some (.ref 69)]) rfl ?_
  refine pb_aload_n (pc2 := 1) dX9_init_0 rfl rfl rfl ?_
  refine pb_objI (pc2 := 4) rfl olX9 dX9_init_1 (by omega) (Nat.le_of_ble_eq_true rfl) rfl ?_
  refine pb_aload_n (pc2 := 5) dX9_init_4 rfl rfl rfl ?_
  refine pb_bipush (x := nI 12) (pc2 := 7) dX9_init_5 (by decide) rfl ?_
  refine pb_newaG (400) (k2 := 40) (n2 := 316) (pc2 := 9) dX9_init_7 ⟨by decide, rfl⟩ pb_aI (hn _ (by omega) (by omega)) (by omega) (by omega) (by omega) (by omega) rfl (fun h_ r_400 n1 => ?_)
  have ho := (n1 _ (by omega)).trans ho
  refine pb_putFG (fs2 := [_, _, _, _, _, _, _, _, _, _, _, _, _, _, _, _]) (pc2 := 12) flX9_9_X1 rfl dX9_init_9 ho (by omega) rfl rfl rfl rfl rfl rfl rfl (fun h_ ho n2 => ?_)
  refine pb_aload_n (pc2 := 13) dX9_init_12 rfl rfl rfl ?_
  refine pb_bipush (x := nI 12) (pc2 := 15) dX9_init_13 (by decide) rfl ?_
  refine pb_newaG (401) (k2 := 39) (n2 := 304) (pc2 := 17) dX9_init_15 ⟨by decide, rfl⟩ pb_aI ((n2 _ (by omega)).trans ((n1 _ (by omega)).trans (hn _ (by omega) (by omega)))) (by omega) (by omega) (by omega) (by omega) rfl (fun h_ r_401 n3 => ?_)
  have ho := (n3 _ (by omega)).trans ho
  refine pb_putFG (fs2 := [_, _, _, _, _, _, _, _, _, _, _, _, _, _, _, _]) (pc2 := 20) flX9_15_X1 rfl dX9_init_17 ho (by omega) rfl rfl rfl rfl rfl rfl rfl (fun h_ ho n4 => ?_)
  refine pb_aload_n (pc2 := 21) dX9_init_20 rfl rfl rfl ?_
  refine pb_bipush (x := nI 12) (pc2 := 23) dX9_init_21 (by decide) rfl ?_
  refine pb_bipush (x := nI 8) (pc2 := 25) dX9_init_23 (by decide) rfl ?_
  refine pb_mnaG (402) (420) (k2 := 26) (n2 := 196) (pc2 := 29) dX9_init_25 rfl klX9_18 ((n4 _ (by omega)).trans ((n3 _ (by omega)).trans ((n2 _ (by omega)).trans ((n1 _ (by omega)).trans (hn _ (by omega) (by omega)))))) (fun i hi => ((n4 _ (by omega)).trans ((n3 _ (by omega)).trans ((n2 _ (by omega)).trans ((n1 _ (by omega)).trans (hn _ (by omega) (by omega))))))) (by omega) (by omega) (by omega) (by omega) (by omega) (by omega) rfl (fun h_ r_402 q_420 n5 => ?_)
  have ho := (n5 _ (by omega)).trans ho
  refine pb_putFG (fs2 := [_, _, _, _, _, _, _, _, _, _, _, _, _, _, _, _]) (pc2 := 32) flX9_20_X1 rfl dX9_init_29 ho (by omega) rfl rfl rfl rfl rfl rfl rfl (fun h_ ho n6 => ?_)
  refine pb_aload_n (pc2 := 33) dX9_init_32 rfl rfl rfl ?_
  refine pb_bipush (x := nI 12) (pc2 := 35) dX9_init_33 (by decide) rfl ?_
  refine pb_bipush (x := nI 8) (pc2 := 37) dX9_init_35 (by decide) rfl ?_
  refine pb_mnaG (403) (440) (k2 := 13) (n2 := 88) (pc2 := 41) dX9_init_37 rfl klX9_18 ((n6 _ (by omega)).trans ((n5 _ (by omega)).trans ((n4 _ (by omega)).trans ((n3 _ (by omega)).trans ((n2 _ (by omega)).trans ((n1 _ (by omega)).trans (hn _ (by omega) (by omega)))))))) (fun i hi => ((n6 _ (by omega)).trans ((n5 _ (by omega)).trans ((n4 _ (by omega)).trans ((n3 _ (by omega)).trans ((n2 _ (by omega)).trans ((n1 _ (by omega)).trans (hn _ (by omega) (by omega))))))))) (by omega) (by omega) (by omega) (by omega) (by omega) (by omega) rfl (fun h_ r_403 q_440 n7 => ?_)
  have ho := (n7 _ (by omega)).trans ho
  refine pb_putFG (fs2 := [_, _, _, _, _, _, _, _, _, _, _, _, _, _, _, _]) (pc2 := 44) flX9_23_X1 rfl dX9_init_41 ho (by omega) rfl rfl rfl rfl rfl rfl rfl (fun h_ ho n8 => ?_)
  refine pb_aload_n (pc2 := 45) dX9_init_44 rfl rfl rfl ?_
  refine pb_iconst (x := nI 0) (pc2 := 46) dX9_init_45 (by decide) rfl ?_
  refine pb_putG (fs2 := [_, _, _, _, _, _, _, _, _, _, _, _, _, _, _, _]) (pc2 := 49) flX9_26_X1 rfl dX9_init_46 ho (by omega) rfl rfl rfl rfl rfl (fun h_ ho n9 => ?_)
  refine pb_aload_n (pc2 := 50) dX9_init_49 rfl rfl rfl ?_
  refine pb_iconst (x := nI 4) (pc2 := 51) dX9_init_50 (by decide) rfl ?_
  refine pb_newaG (404) (k2 := 12) (n2 := 84) (pc2 := 53) dX9_init_51 ⟨by decide, rfl⟩ pb_aI ((n9 _ (by omega)).trans ((n8 _ (by omega)).trans ((n7 _ (by omega)).trans ((n6 _ (by omega)).trans ((n5 _ (by omega)).trans ((n4 _ (by omega)).trans ((n3 _ (by omega)).trans ((n2 _ (by omega)).trans ((n1 _ (by omega)).trans (hn _ (by omega) (by omega))))))))))) (by omega) (by omega) (by omega) (by omega) rfl (fun h_ r_404 n10 => ?_)
  have ho := (n10 _ (by omega)).trans ho
  refine pb_putFG (fs2 := [_, _, _, _, _, _, _, _, _, _, _, _, _, _, _, _]) (pc2 := 56) flX9_30_X1 rfl dX9_init_53 ho (by omega) rfl rfl rfl rfl rfl rfl rfl (fun h_ ho n11 => ?_)
  refine pb_aload_n (pc2 := 57) dX9_init_56 rfl rfl rfl ?_
  refine pb_iconst (x := nI 4) (pc2 := 58) dX9_init_57 (by decide) rfl ?_
  refine pb_newaG (405) (k2 := 11) (n2 := 80) (pc2 := 60) dX9_init_58 ⟨by decide, rfl⟩ pb_aI ((n11 _ (by omega)).trans ((n10 _ (by omega)).trans ((n9 _ (by omega)).trans ((n8 _ (by omega)).trans ((n7 _ (by omega)).trans ((n6 _ (by omega)).trans ((n5 _ (by omega)).trans ((n4 _ (by omega)).trans ((n3 _ (by omega)).trans ((n2 _ (by omega)).trans ((n1 _ (by omega)).trans (hn _ (by omega) (by omega))))))))))))) (by omega) (by omega) (by omega) (by omega) rfl (fun h_ r_405 n12 => ?_)
  have ho := (n12 _ (by omega)).trans ho
  refine pb_putFG (fs2 := [_, _, _, _, _, _, _, _, _, _, _, _, _, _, _, _]) (pc2 := 63) flX9_33_X1 rfl dX9_init_60 ho (by omega) rfl rfl rfl rfl rfl rfl rfl (fun h_ ho n13 => ?_)
  refine pb_aload_n (pc2 := 64) dX9_init_63 rfl rfl rfl ?_
  refine pb_iconst (x := nI 4) (pc2 := 65) dX9_init_64 (by decide) rfl ?_
  refine pb_bipush (x := nI 8) (pc2 := 67) dX9_init_65 (by decide) rfl ?_
  refine pb_mnaG (406) (460) (k2 := 6) (n2 := 44) (pc2 := 71) dX9_init_67 rfl klX9_18 ((n13 _ (by omega)).trans ((n12 _ (by omega)).trans ((n11 _ (by omega)).trans ((n10 _ (by omega)).trans ((n9 _ (by omega)).trans ((n8 _ (by omega)).trans ((n7 _ (by omega)).trans ((n6 _ (by omega)).trans ((n5 _ (by omega)).trans ((n4 _ (by omega)).trans ((n3 _ (by omega)).trans ((n2 _ (by omega)).trans ((n1 _ (by omega)).trans (hn _ (by omega) (by omega))))))))))))))) (fun i hi => ((n13 _ (by omega)).trans ((n12 _ (by omega)).trans ((n11 _ (by omega)).trans ((n10 _ (by omega)).trans ((n9 _ (by omega)).trans ((n8 _ (by omega)).trans ((n7 _ (by omega)).trans ((n6 _ (by omega)).trans ((n5 _ (by omega)).trans ((n4 _ (by omega)).trans ((n3 _ (by omega)).trans ((n2 _ (by omega)).trans ((n1 _ (by omega)).trans (hn _ (by omega) (by omega)))))))))))))))) (by omega) (by omega) (by omega) (by omega) (by omega) (by omega) rfl (fun h_ r_406 q_460 n14 => ?_)
  have ho := (n14 _ (by omega)).trans ho
  refine pb_putFG (fs2 := [_, _, _, _, _, _, _, _, _, _, _, _, _, _, _, _]) (pc2 := 74) flX9_36_X1 rfl dX9_init_71 ho (by omega) rfl rfl rfl rfl rfl rfl rfl (fun h_ ho n15 => ?_)
  refine pb_aload_n (pc2 := 75) dX9_init_74 rfl rfl rfl ?_
  refine pb_iconst (x := nI 4) (pc2 := 76) dX9_init_75 (by decide) rfl ?_
  refine pb_bipush (x := nI 8) (pc2 := 78) dX9_init_76 (by decide) rfl ?_
  refine pb_mnaG (407) (464) (k2 := 1) (n2 := 8) (pc2 := 82) dX9_init_78 rfl klX9_18 ((n15 _ (by omega)).trans ((n14 _ (by omega)).trans ((n13 _ (by omega)).trans ((n12 _ (by omega)).trans ((n11 _ (by omega)).trans ((n10 _ (by omega)).trans ((n9 _ (by omega)).trans ((n8 _ (by omega)).trans ((n7 _ (by omega)).trans ((n6 _ (by omega)).trans ((n5 _ (by omega)).trans ((n4 _ (by omega)).trans ((n3 _ (by omega)).trans ((n2 _ (by omega)).trans ((n1 _ (by omega)).trans (hn _ (by omega) (by omega))))))))))))))))) (fun i hi => ((n15 _ (by omega)).trans ((n14 _ (by omega)).trans ((n13 _ (by omega)).trans ((n12 _ (by omega)).trans ((n11 _ (by omega)).trans ((n10 _ (by omega)).trans ((n9 _ (by omega)).trans ((n8 _ (by omega)).trans ((n7 _ (by omega)).trans ((n6 _ (by omega)).trans ((n5 _ (by omega)).trans ((n4 _ (by omega)).trans ((n3 _ (by omega)).trans ((n2 _ (by omega)).trans ((n1 _ (by omega)).trans (hn _ (by omega) (by omega)))))))))))))))))) (by omega) (by omega) (by omega) (by omega) (by omega) (by omega) rfl (fun h_ r_407 q_464 n16 => ?_)
  have ho := (n16 _ (by omega)).trans ho
  refine pb_putFG (fs2 := [_, _, _, _, _, _, _, _, _, _, _, _, _, _, _, _]) (pc2 := 85) flX9_39_X1 rfl dX9_init_82 ho (by omega) rfl rfl rfl rfl rfl rfl rfl (fun h_ ho n17 => ?_)
  refine pb_aload_n (pc2 := 86) dX9_init_85 rfl rfl rfl ?_
  refine pb_iconst (x := nI 0) (pc2 := 87) dX9_init_86 (by decide) rfl ?_
  refine pb_putG (fs2 := [_, _, _, _, _, _, _, _, _, _, _, _, _, _, _, _]) (pc2 := 90) flX9_42_X1 rfl dX9_init_87 ho (by omega) rfl rfl rfl rfl rfl (fun h_ ho n18 => ?_)
  refine pb_aload_n (pc2 := 91) dX9_init_90 rfl rfl rfl ?_
  refine pb_bipush (x := nI 8) (pc2 := 93) dX9_init_91 (by decide) rfl ?_
  refine pb_newaG (408) (k2 := 0) (n2 := 0) (pc2 := 95) dX9_init_93 ⟨by decide, rfl⟩ pb_aI ((n18 _ (by omega)).trans ((n17 _ (by omega)).trans ((n16 _ (by omega)).trans ((n15 _ (by omega)).trans ((n14 _ (by omega)).trans ((n13 _ (by omega)).trans ((n12 _ (by omega)).trans ((n11 _ (by omega)).trans ((n10 _ (by omega)).trans ((n9 _ (by omega)).trans ((n8 _ (by omega)).trans ((n7 _ (by omega)).trans ((n6 _ (by omega)).trans ((n5 _ (by omega)).trans ((n4 _ (by omega)).trans ((n3 _ (by omega)).trans ((n2 _ (by omega)).trans ((n1 _ (by omega)).trans (hn _ (by omega) (by omega)))))))))))))))))))) (by omega) (by omega) (by omega) (by omega) rfl (fun h_ r_408 n19 => ?_)
  have ho := (n19 _ (by omega)).trans ho
  refine pb_putFG (fs2 := [_, _, _, _, _, _, _, _, _, _, _, _, _, _, _, _]) (pc2 := 98) flX9_45_X1 rfl dX9_init_95 ho (by omega) rfl rfl rfl rfl rfl rfl rfl (fun h_ ho n20 => ?_)
  exact pb_return dX9_init_98 rfl (⟨rfl, ho, ⟨((n20 _ (by omega)).trans ((n19 _ (by omega)).trans ((n18 _ (by omega)).trans ((n17 _ (by omega)).trans ((n16 _ (by omega)).trans ((n15 _ (by omega)).trans ((n14 _ (by omega)).trans ((n13 _ (by omega)).trans ((n12 _ (by omega)).trans ((n11 _ (by omega)).trans ((n10 _ (by omega)).trans ((n9 _ (by omega)).trans ((n8 _ (by omega)).trans ((n7 _ (by omega)).trans ((n6 _ (by omega)).trans r_402))))))))))))))), ((n20 _ (by omega)).trans ((n19 _ (by omega)).trans ((n18 _ (by omega)).trans ((n17 _ (by omega)).trans ((n16 _ (by omega)).trans ((n15 _ (by omega)).trans ((n14 _ (by omega)).trans ((n13 _ (by omega)).trans ((n12 _ (by omega)).trans ((n11 _ (by omega)).trans ((n10 _ (by omega)).trans ((n9 _ (by omega)).trans ((n8 _ (by omega)).trans r_403))))))))))))), ((n20 _ (by omega)).trans ((n19 _ (by omega)).trans ((n18 _ (by omega)).trans ((n17 _ (by omega)).trans ((n16 _ (by omega)).trans ((n15 _ (by omega)).trans r_406)))))), ((n20 _ (by omega)).trans ((n19 _ (by omega)).trans ((n18 _ (by omega)).trans ((n17 _ (by omega)).trans r_407))))⟩, ⟨((n20 _ (by omega)).trans ((n19 _ (by omega)).trans ((n18 _ (by omega)).trans ((n17 _ (by omega)).trans ((n16 _ (by omega)).trans ((n15 _ (by omega)).trans ((n14 _ (by omega)).trans ((n13 _ (by omega)).trans ((n12 _ (by omega)).trans ((n11 _ (by omega)).trans ((n10 _ (by omega)).trans ((n9 _ (by omega)).trans ((n8 _ (by omega)).trans ((n7 _ (by omega)).trans ((n6 _ (by omega)).trans ((n5 _ (by omega)).trans ((n4 _ (by omega)).trans ((n3 _ (by omega)).trans ((n2 _ (by omega)).trans r_400))))))))))))))))))), ((n20 _ (by omega)).trans ((n19 _ (by omega)).trans ((n18 _ (by omega)).trans ((n17 _ (by omega)).trans ((n16 _ (by omega)).trans ((n15 _ (by omega)).trans ((n14 _ (by omega)).trans ((n13 _ (by omega)).trans ((n12 _ (by omega)).trans ((n11 _ (by omega)).trans ((n10 _ (by omega)).trans ((n9 _ (by omega)).trans ((n8 _ (by omega)).trans ((n7 _ (by omega)).trans ((n6 _ (by omega)).trans ((n5 _ (by omega)).trans ((n4 _ (by omega)).trans r_401))))))))))))))))), ((n20 _ (by omega)).trans ((n19 _ (by omega)).trans ((n18 _ (by omega)).trans ((n17 _ (by omega)).trans ((n16 _ (by omega)).trans ((n15 _ (by omega)).trans ((n14 _ (by omega)).trans ((n13 _ (by omega)).trans ((n12 _ (by omega)).trans ((n11 _ (by omega)).trans r_404)))))))))), ((n20 _ (by omega)).trans ((n19 _ (by omega)).trans ((n18 _ (by omega)).trans ((n17 _ (by omega)).trans ((n16 _ (by omega)).trans ((n15 _ (by omega)).trans ((n14 _ (by omega)).trans ((n13 _ (by omega)).trans r_405)))))))), ((n20 _ (by omega)).trans r_408)⟩, ⟨(fun i hi => ((n20 _ (by omega)).trans ((n19 _ (by omega)).trans ((n18 _ (by omega)).trans ((n17 _ (by omega)).trans ((n16 _ (by omega)).trans ((n15 _ (by omega)).trans ((n14 _ (by omega)).trans ((n13 _ (by omega)).trans ((n12 _ (by omega)).trans ((n11 _ (by omega)).trans ((n10 _ (by omega)).trans ((n9 _ (by omega)).trans ((n8 _ (by omega)).trans ((n7 _ (by omega)).trans ((n6 _ (by omega)).trans (q_420 i hi))))))))))))))))), (fun i hi => ((n20 _ (by omega)).trans ((n19 _ (by omega)).trans ((n18 _ (by omega)).trans ((n17 _ (by omega)).trans ((n16 _ (by omega)).trans ((n15 _ (by omega)).trans ((n14 _ (by omega)).trans ((n13 _ (by omega)).trans ((n12 _ (by omega)).trans ((n11 _ (by omega)).trans ((n10 _ (by omega)).trans ((n9 _ (by omega)).trans ((n8 _ (by omega)).trans (q_440 i hi))))))))))))))), (fun i hi => ((n20 _ (by omega)).trans ((n19 _ (by omega)).trans ((n18 _ (by omega)).trans ((n17 _ (by omega)).trans ((n16 _ (by omega)).trans ((n15 _ (by omega)).trans (q_460 i hi)))))))), (fun i hi => ((n20 _ (by omega)).trans ((n19 _ (by omega)).trans ((n18 _ (by omega)).trans ((n17 _ (by omega)).trans (q_464 i hi))))))⟩, fun x hx => ((n20 x (by omega)).trans ((n19 x (by omega)).trans ((n18 x (by omega)).trans ((n17 x (by omega)).trans ((n16 x (by omega)).trans ((n15 x (by omega)).trans ((n14 x (by omega)).trans ((n13 x (by omega)).trans ((n12 x (by omega)).trans ((n11 x (by omega)).trans ((n10 x (by omega)).trans ((n9 x (by omega)).trans ((n8 x (by omega)).trans ((n7 x (by omega)).trans ((n6 x (by omega)).trans ((n5 x (by omega)).trans ((n4 x (by omega)).trans ((n3 x (by omega)).trans ((n2 x (by omega)).trans (n1 x (by omega)))))))))))))))))))))⟩)
set_option maxRecDepth 10000 in
theorem i_match (ho : h 68 = some (.inr (.inr (5, [.null, .null, .null, .null, .int (nI 0), .null, .null, .null, .null, .int (nI 0), .null, .int (nI 0), .int (nI 0), .int (nI 0), .null, .null])))) (hn : ∀ x, 300 ≤ x → x < 400 → h x = none) : pb_T Z mX5_init 2 43 343 [.ref 68] h (fun v h' => v = none ∧ h' 68 = some (.inr (.inr (5, cMt 0 0 0 0 0))) ∧ (∀ a c, cK a = some c → 300 ≤ a → a < 400 → h' a = some c) ∧ (∀ a n, cS a = some n → 300 ≤ a → a < 400 → cScr n (h' a)) ∧ cRow 12 (fun _ => 0) (h' 309) ∧ cRow 8 (fun _ => 0) (h' 360) ∧ cRow 8 (fun _ => 0) (h' 364) ∧ ∀ x, (x ≠ 68 ∧ (x < 300 ∨ 400 ≤ x)) → h' x = h x) := by
  refine pb_T.of pnX5_init (Nat.le_of_ble_eq_true rfl) (lv := [some (.ref 68)]) rfl ?_
  refine pb_aload_n (pc2 := 1) dX5_init_0 rfl rfl rfl ?_
  refine pb_callIN (pc2 := 4) (k2 := 2) (n2 := 15) mwX9_init rfl rfl iwX9_init rfl mnX5_3 dX5_init_1 (i_searchM ho (fun x x1 x2 => hn x x1 (by omega))) (by omega) (by omega) (by omega) rfl rfl (Nat.le_of_ble_eq_true rfl) rfl (fun v h1 q _ => ?_)
  obtain ⟨rfl, ho, ⟨k302, k303, k306, k307⟩, ⟨s300, s301, s304, s305, s308⟩, ⟨r320, r340, r360, r364⟩, n0⟩ := q
  refine pb_aload_n (pc2 := 5) dX5_init_4 rfl rfl rfl ?_
  refine pb_iconst (x := nI 0) (pc2 := 6) dX5_init_5 (by decide) rfl ?_
  refine pb_putG (fs2 := [_, _, _, _, _, _, _, _, _, _, _, _, _, _, _, _]) (pc2 := 9) flX5_9_X5 rfl dX5_init_6 ho (by omega) rfl rfl rfl rfl rfl (fun h_ ho n1 => ?_)
  refine pb_aload_n (pc2 := 10) dX5_init_9 rfl rfl rfl ?_
  refine pb_iconst (x := nI 0) (pc2 := 11) dX5_init_10 (by decide) rfl ?_
  refine pb_putG (fs2 := [_, _, _, _, _, _, _, _, _, _, _, _, _, _, _, _]) (pc2 := 14) flX5_15_X5 rfl dX5_init_11 ho (by omega) rfl rfl rfl rfl rfl (fun h_ ho n2 => ?_)
  refine pb_aload_n (pc2 := 15) dX5_init_14 rfl rfl rfl ?_
  refine pb_iconst (x := nI 0) (pc2 := 16) dX5_init_15 (by decide) rfl ?_
  refine pb_putG (fs2 := [_, _, _, _, _, _, _, _, _, _, _, _, _, _, _, _]) (pc2 := 19) flX5_19_X5 rfl dX5_init_16 ho (by omega) rfl rfl rfl rfl rfl (fun h_ ho n3 => ?_)
  refine pb_aload_n (pc2 := 20) dX5_init_19 rfl rfl rfl ?_
  refine pb_bipush (x := nI 12) (pc2 := 22) dX5_init_20 (by decide) rfl ?_
  refine pb_newaG (309) (k2 := 1) (n2 := 3) (pc2 := 24) dX5_init_22 ⟨by decide, rfl⟩ pb_aI ((n3 _ (by omega)).trans ((n2 _ (by omega)).trans ((n1 _ (by omega)).trans ((n0 _ (by omega)).trans (hn _ (by omega) (by omega)))))) (by omega) (by omega) (by omega) (by omega) rfl (fun h_ r_309 n4 => ?_)
  have ho := (n4 _ (by omega)).trans ho
  refine pb_putFG (fs2 := [_, _, _, _, _, _, _, _, _, _, _, _, _, _, _, _]) (pc2 := 27) flX5_22_X5 rfl dX5_init_24 ho (by omega) rfl rfl rfl rfl rfl rfl rfl (fun h_ ho n5 => ?_)
  refine pb_aload_n (pc2 := 28) dX5_init_27 rfl rfl rfl ?_
  refine pb_iconst (x := nI 3) (pc2 := 29) dX5_init_28 (by decide) rfl ?_
  refine pb_newaG (310) (k2 := 0) (n2 := 0) (pc2 := 31) dX5_init_29 ⟨by decide, rfl⟩ pb_aI ((n5 _ (by omega)).trans ((n4 _ (by omega)).trans ((n3 _ (by omega)).trans ((n2 _ (by omega)).trans ((n1 _ (by omega)).trans ((n0 _ (by omega)).trans (hn _ (by omega) (by omega)))))))) (by omega) (by omega) (by omega) (by omega) rfl (fun h_ r_310 n6 => ?_)
  have ho := (n6 _ (by omega)).trans ho
  refine pb_putFG (fs2 := [_, _, _, _, _, _, _, _, _, _, _, _, _, _, _, _]) (pc2 := 34) flX5_26_X5 rfl dX5_init_31 ho (by omega) rfl rfl rfl rfl rfl rfl rfl (fun h_ ho n7 => ?_)
  have k302 := ((n7 _ (by omega)).trans ((n6 _ (by omega)).trans ((n5 _ (by omega)).trans ((n4 _ (by omega)).trans ((n3 _ (by omega)).trans ((n2 _ (by omega)).trans ((n1 _ (by omega)).trans k302)))))))
  have k303 := ((n7 _ (by omega)).trans ((n6 _ (by omega)).trans ((n5 _ (by omega)).trans ((n4 _ (by omega)).trans ((n3 _ (by omega)).trans ((n2 _ (by omega)).trans ((n1 _ (by omega)).trans k303)))))))
  have k306 := ((n7 _ (by omega)).trans ((n6 _ (by omega)).trans ((n5 _ (by omega)).trans ((n4 _ (by omega)).trans ((n3 _ (by omega)).trans ((n2 _ (by omega)).trans ((n1 _ (by omega)).trans k306)))))))
  have k307 := ((n7 _ (by omega)).trans ((n6 _ (by omega)).trans ((n5 _ (by omega)).trans ((n4 _ (by omega)).trans ((n3 _ (by omega)).trans ((n2 _ (by omega)).trans ((n1 _ (by omega)).trans k307)))))))
  have s300 := ((n7 _ (by omega)).trans ((n6 _ (by omega)).trans ((n5 _ (by omega)).trans ((n4 _ (by omega)).trans ((n3 _ (by omega)).trans ((n2 _ (by omega)).trans ((n1 _ (by omega)).trans s300)))))))
  have s301 := ((n7 _ (by omega)).trans ((n6 _ (by omega)).trans ((n5 _ (by omega)).trans ((n4 _ (by omega)).trans ((n3 _ (by omega)).trans ((n2 _ (by omega)).trans ((n1 _ (by omega)).trans s301)))))))
  have s304 := ((n7 _ (by omega)).trans ((n6 _ (by omega)).trans ((n5 _ (by omega)).trans ((n4 _ (by omega)).trans ((n3 _ (by omega)).trans ((n2 _ (by omega)).trans ((n1 _ (by omega)).trans s304)))))))
  have s305 := ((n7 _ (by omega)).trans ((n6 _ (by omega)).trans ((n5 _ (by omega)).trans ((n4 _ (by omega)).trans ((n3 _ (by omega)).trans ((n2 _ (by omega)).trans ((n1 _ (by omega)).trans s305)))))))
  have s308 := ((n7 _ (by omega)).trans ((n6 _ (by omega)).trans ((n5 _ (by omega)).trans ((n4 _ (by omega)).trans ((n3 _ (by omega)).trans ((n2 _ (by omega)).trans ((n1 _ (by omega)).trans s308)))))))
  have r320 := fun i (hi : i < 12) => ((n7 _ (by omega)).trans ((n6 _ (by omega)).trans ((n5 _ (by omega)).trans ((n4 _ (by omega)).trans ((n3 _ (by omega)).trans ((n2 _ (by omega)).trans ((n1 _ (by omega)).trans (r320 i hi))))))))
  have r340 := fun i (hi : i < 12) => ((n7 _ (by omega)).trans ((n6 _ (by omega)).trans ((n5 _ (by omega)).trans ((n4 _ (by omega)).trans ((n3 _ (by omega)).trans ((n2 _ (by omega)).trans ((n1 _ (by omega)).trans (r340 i hi))))))))
  have r360 := fun i (hi : i < 4) => ((n7 _ (by omega)).trans ((n6 _ (by omega)).trans ((n5 _ (by omega)).trans ((n4 _ (by omega)).trans ((n3 _ (by omega)).trans ((n2 _ (by omega)).trans ((n1 _ (by omega)).trans (r360 i hi))))))))
  have r364 := fun i (hi : i < 4) => ((n7 _ (by omega)).trans ((n6 _ (by omega)).trans ((n5 _ (by omega)).trans ((n4 _ (by omega)).trans ((n3 _ (by omega)).trans ((n2 _ (by omega)).trans ((n1 _ (by omega)).trans (r364 i hi))))))))
  have s309 := ((n7 _ (by omega)).trans ((n6 _ (by omega)).trans ((n5 _ (by omega)).trans r_309)))
  have s310 := ((n7 _ (by omega)).trans r_310)
  have fr : ∀ x, (x ≠ 68 ∧ (x < 300 ∨ 400 ≤ x)) → h_ x = h x := fun x hx => ((n7 x (by omega)).trans ((n6 x (by omega)).trans ((n5 x (by omega)).trans ((n4 x (by omega)).trans ((n3 x (by omega)).trans ((n2 x (by omega)).trans ((n1 x (by omega)).trans (n0 x (by omega)))))))))
  clear n0 n1 n2 n3 n4 n5 n6 n7
  have hk : ∀ a c, cK a = some c → 300 ≤ a → a < 400 → h_ a = some c := fun a c e a1 a2 => by
    rcases cK_all e with rfl | rfl | rfl | rfl | rfl | rfl | rfl | rfl | rfl | rfl | rfl | rfl | rfl | rfl | rfl | rfl | rfl | rfl | rfl
    · omega
    · omega
    · omega
    · omega
    · omega
    · omega
    · omega
    · rw [← e]; exact k302
    · rw [← e]; exact k303
    · rw [← e]; exact k306
    · rw [← e]; exact k307
    · omega
    · omega
    · omega
    · omega
    · omega
    · omega
    · omega
    · omega
  have hs : ∀ a n, cS a = some n → 300 ≤ a → a < 400 → cScr n (h_ a) := fun a n e a1 a2 => by
    have lit : ∀ b m, cS b = some m → cScr m (h_ b) → a = b → cScr n (h_ a) := fun b m e1 e2 e3 => by
      subst e3
      rw [e1] at e
      cases e
      exact e2
    have rng : ∀ lo len, (∀ i, i < len → h_ (lo + i) = some (.inl (0, 8, fun _ => nI 0))) → (∀ b, lo ≤ b → b < lo + len → 300 ≤ b → cS b = some n → n = 8) → lo ≤ a → a < lo + len → cScr n (h_ a) := fun lo len hr h8 l1 l2 => by
      have en := h8 a l1 l2 a1 e
      subst en
      have := hr (a - lo) (by omega)
      rw [show lo + (a - lo) = a by omega] at this
      exact ⟨fun _ => 0, this⟩
    have all := cS_all e
    have h8 : ∀ b, ((320 ≤ b ∧ b < 332) ∨ (340 ≤ b ∧ b < 352) ∨ (361 ≤ b ∧ b < 364) ∨ (365 ≤ b ∧ b < 368)) → cS b = some n → n = 8 := fun b hb eb => Option.some.inj (eb.symm.trans (cS_8 (by omega)))
    by_cases e1 : a = 300
    · exact lit 300 12 rfl ⟨fun _ => 0, s300⟩ e1
    by_cases e2 : a = 301
    · exact lit 301 12 rfl ⟨fun _ => 0, s301⟩ e2
    by_cases e3 : a = 304
    · exact lit 304 4 rfl ⟨fun _ => 0, s304⟩ e3
    by_cases e4 : a = 305
    · exact lit 305 4 rfl ⟨fun _ => 0, s305⟩ e4
    by_cases e5 : a = 308
    · exact lit 308 8 rfl ⟨fun _ => 0, s308⟩ e5
    by_cases e7 : a = 310
    · exact lit 310 3 rfl ⟨fun _ => 0, s310⟩ e7
    by_cases e8 : 320 ≤ a ∧ a < 332
    · exact rng 320 12 r320 (fun b b1 b2 _ eb => h8 b (by omega) eb) e8.1 e8.2
    by_cases e9 : 340 ≤ a ∧ a < 352
    · exact rng 340 12 r340 (fun b b1 b2 _ eb => h8 b (by omega) eb) e9.1 e9.2
    by_cases e10 : 361 ≤ a ∧ a < 364
    · exact rng 361 3 (fun i hi => by have := r360 (i + 1) (by omega); rw [show 360 + (i + 1) = 361 + i by omega] at this; exact this) (fun b b1 b2 _ eb => h8 b (by omega) eb) e10.1 e10.2
    · exact rng 365 3 (fun i hi => by have := r364 (i + 1) (by omega); rw [show 364 + (i + 1) = 365 + i by omega] at this; exact this) (fun b b1 b2 _ eb => h8 b (by omega) eb) (by omega) (by omega)
  exact pb_return dX5_init_34 rfl (⟨rfl, ho, hk, hs, ⟨fun _ => 0, s309, fun _ _ => rfl⟩, ⟨fun _ => 0, r360 0 (by omega), fun _ _ => rfl⟩, ⟨fun _ => 0, r364 0 (by omega), fun _ _ => rfl⟩, fr⟩)
set_option maxRecDepth 10000 in
theorem i_choose (ho : h 69 = some (.inr (.inr (1, [.null, .null, .null, .null, .int (nI 0), .null, .null, .null, .null, .int (nI 0), .null, .null, .null, .int (nI 0), .int (nI 0), .int (nI 0)])))) (hn : ∀ x, 400 ≤ x → x < 500 → h x = none) : pb_T Z mX1_init 2 49 352 [.ref 69] h (fun v h' => v = none ∧ h' 69 = some (.inr (.inr (1, cCh 0 0 411 0 0 0))) ∧ (∀ a c, cK a = some c → 400 ≤ a → a < 500 → h' a = some c) ∧ (∀ a n, cS a = some n → 400 ≤ a → a < 500 → cScr n (h' a)) ∧ h' 411 = some (.inl (0, 0, fun _ => nI 0)) ∧ h' 413 = none ∧ cRow 8 (fun _ => 0) (h' 460) ∧ cRow 8 (fun _ => 0) (h' 464) ∧ ∀ x, (x ≠ 69 ∧ (x < 400 ∨ 500 ≤ x)) → h' x = h x) := by
  refine pb_T.of pnX1_init (Nat.le_of_ble_eq_true rfl) (lv := [some (.ref 69)]) rfl ?_
  refine pb_aload_n (pc2 := 1) dX1_init_0 rfl rfl rfl ?_
  refine pb_callIN (pc2 := 4) (k2 := 8) (n2 := 24) mwX9_init rfl rfl iwX9_init rfl mnX1_3 dX1_init_1 (i_searchC ho (fun x x1 x2 => hn x x1 (by omega))) (by omega) (by omega) (by omega) rfl rfl (Nat.le_of_ble_eq_true rfl) rfl (fun v h1 q _ => ?_)
  obtain ⟨rfl, ho, ⟨k402, k403, k406, k407⟩, ⟨s400, s401, s404, s405, s408⟩, ⟨r420, r440, r460, r464⟩, n0⟩ := q
  refine pb_aload_n (pc2 := 5) dX1_init_4 rfl rfl rfl ?_
  refine pb_iconst (x := nI 0) (pc2 := 6) dX1_init_5 (by decide) rfl ?_
  refine pb_newaG (411) (k2 := 7) (n2 := 24) (pc2 := 8) dX1_init_6 ⟨by decide, rfl⟩ pb_aI ((n0 _ (by omega)).trans (hn _ (by omega) (by omega))) (by omega) (by omega) (by omega) (by omega) rfl (fun h_ r_411 n1 => ?_)
  have ho := (n1 _ (by omega)).trans ho
  refine pb_putG (fs2 := [_, _, _, _, _, _, _, _, _, _, _, _, _, _, _, _]) (pc2 := 11) flX1_9_X1 rfl dX1_init_8 ho (by omega) rfl rfl rfl rfl rfl (fun h_ ho n2 => ?_)
  refine pb_aload_n (pc2 := 12) dX1_init_11 rfl rfl rfl ?_
  refine pb_bipush (x := nI 6) (pc2 := 14) dX1_init_12 (by decide) rfl ?_
  refine pb_iconst (x := nI 3) (pc2 := 15) dX1_init_14 (by decide) rfl ?_
  refine pb_mnaG (412) (480) (k2 := 0) (n2 := 0) (pc2 := 19) dX1_init_15 rfl klX1_15 ((n2 _ (by omega)).trans ((n1 _ (by omega)).trans ((n0 _ (by omega)).trans (hn _ (by omega) (by omega))))) (fun i hi => ((n2 _ (by omega)).trans ((n1 _ (by omega)).trans ((n0 _ (by omega)).trans (hn _ (by omega) (by omega)))))) (by omega) (by omega) (by omega) (by omega) (by omega) (by omega) rfl (fun h_ r_412 q_480 n3 => ?_)
  have ho := (n3 _ (by omega)).trans ho
  refine pb_putFG (fs2 := [_, _, _, _, _, _, _, _, _, _, _, _, _, _, _, _]) (pc2 := 22) flX1_17_X1 rfl dX1_init_19 ho (by omega) rfl rfl rfl rfl rfl rfl rfl (fun h_ ho n4 => ?_)
  refine pb_aload_n (pc2 := 23) dX1_init_22 rfl rfl rfl ?_
  refine pb_iconst (x := nI 0) (pc2 := 24) dX1_init_23 (by decide) rfl ?_
  refine pb_putG (fs2 := [_, _, _, _, _, _, _, _, _, _, _, _, _, _, _, _]) (pc2 := 27) flX1_20_X1 rfl dX1_init_24 ho (by omega) rfl rfl rfl rfl rfl (fun h_ ho n5 => ?_)
  refine pb_aload_n (pc2 := 28) dX1_init_27 rfl rfl rfl ?_
  refine pb_iconst (x := nI 0) (pc2 := 29) dX1_init_28 (by decide) rfl ?_
  refine pb_putG (fs2 := [_, _, _, _, _, _, _, _, _, _, _, _, _, _, _, _]) (pc2 := 32) flX1_24_X1 rfl dX1_init_29 ho (by omega) rfl rfl rfl rfl rfl (fun h_ ho n6 => ?_)
  refine pb_aload_n (pc2 := 33) dX1_init_32 rfl rfl rfl ?_
  refine pb_iconst (x := nI 0) (pc2 := 34) dX1_init_33 (by decide) rfl ?_
  refine pb_putG (fs2 := [_, _, _, _, _, _, _, _, _, _, _, _, _, _, _, _]) (pc2 := 37) flX1_27_X1 rfl dX1_init_34 ho (by omega) rfl rfl rfl rfl rfl (fun h_ ho n7 => ?_)
  have k402 := ((n7 _ (by omega)).trans ((n6 _ (by omega)).trans ((n5 _ (by omega)).trans ((n4 _ (by omega)).trans ((n3 _ (by omega)).trans ((n2 _ (by omega)).trans ((n1 _ (by omega)).trans k402)))))))
  have k403 := ((n7 _ (by omega)).trans ((n6 _ (by omega)).trans ((n5 _ (by omega)).trans ((n4 _ (by omega)).trans ((n3 _ (by omega)).trans ((n2 _ (by omega)).trans ((n1 _ (by omega)).trans k403)))))))
  have k406 := ((n7 _ (by omega)).trans ((n6 _ (by omega)).trans ((n5 _ (by omega)).trans ((n4 _ (by omega)).trans ((n3 _ (by omega)).trans ((n2 _ (by omega)).trans ((n1 _ (by omega)).trans k406)))))))
  have k407 := ((n7 _ (by omega)).trans ((n6 _ (by omega)).trans ((n5 _ (by omega)).trans ((n4 _ (by omega)).trans ((n3 _ (by omega)).trans ((n2 _ (by omega)).trans ((n1 _ (by omega)).trans k407)))))))
  have s400 := ((n7 _ (by omega)).trans ((n6 _ (by omega)).trans ((n5 _ (by omega)).trans ((n4 _ (by omega)).trans ((n3 _ (by omega)).trans ((n2 _ (by omega)).trans ((n1 _ (by omega)).trans s400)))))))
  have s401 := ((n7 _ (by omega)).trans ((n6 _ (by omega)).trans ((n5 _ (by omega)).trans ((n4 _ (by omega)).trans ((n3 _ (by omega)).trans ((n2 _ (by omega)).trans ((n1 _ (by omega)).trans s401)))))))
  have s404 := ((n7 _ (by omega)).trans ((n6 _ (by omega)).trans ((n5 _ (by omega)).trans ((n4 _ (by omega)).trans ((n3 _ (by omega)).trans ((n2 _ (by omega)).trans ((n1 _ (by omega)).trans s404)))))))
  have s405 := ((n7 _ (by omega)).trans ((n6 _ (by omega)).trans ((n5 _ (by omega)).trans ((n4 _ (by omega)).trans ((n3 _ (by omega)).trans ((n2 _ (by omega)).trans ((n1 _ (by omega)).trans s405)))))))
  have s408 := ((n7 _ (by omega)).trans ((n6 _ (by omega)).trans ((n5 _ (by omega)).trans ((n4 _ (by omega)).trans ((n3 _ (by omega)).trans ((n2 _ (by omega)).trans ((n1 _ (by omega)).trans s408)))))))
  have r420 := fun i (hi : i < 12) => ((n7 _ (by omega)).trans ((n6 _ (by omega)).trans ((n5 _ (by omega)).trans ((n4 _ (by omega)).trans ((n3 _ (by omega)).trans ((n2 _ (by omega)).trans ((n1 _ (by omega)).trans (r420 i hi))))))))
  have r440 := fun i (hi : i < 12) => ((n7 _ (by omega)).trans ((n6 _ (by omega)).trans ((n5 _ (by omega)).trans ((n4 _ (by omega)).trans ((n3 _ (by omega)).trans ((n2 _ (by omega)).trans ((n1 _ (by omega)).trans (r440 i hi))))))))
  have r460 := fun i (hi : i < 4) => ((n7 _ (by omega)).trans ((n6 _ (by omega)).trans ((n5 _ (by omega)).trans ((n4 _ (by omega)).trans ((n3 _ (by omega)).trans ((n2 _ (by omega)).trans ((n1 _ (by omega)).trans (r460 i hi))))))))
  have r464 := fun i (hi : i < 4) => ((n7 _ (by omega)).trans ((n6 _ (by omega)).trans ((n5 _ (by omega)).trans ((n4 _ (by omega)).trans ((n3 _ (by omega)).trans ((n2 _ (by omega)).trans ((n1 _ (by omega)).trans (r464 i hi))))))))
  have s411 := ((n7 _ (by omega)).trans ((n6 _ (by omega)).trans ((n5 _ (by omega)).trans ((n4 _ (by omega)).trans ((n3 _ (by omega)).trans ((n2 _ (by omega)).trans r_411))))))
  have k412 := ((n7 _ (by omega)).trans ((n6 _ (by omega)).trans ((n5 _ (by omega)).trans ((n4 _ (by omega)).trans r_412))))
  have r480 := fun i (hi : i < 6) => ((n7 _ (by omega)).trans ((n6 _ (by omega)).trans ((n5 _ (by omega)).trans ((n4 _ (by omega)).trans (q_480 i hi)))))
  have s413 : h_ 413 = none := ((n7 _ (by omega)).trans ((n6 _ (by omega)).trans ((n5 _ (by omega)).trans ((n4 _ (by omega)).trans ((n3 _ (by omega)).trans ((n2 _ (by omega)).trans ((n1 _ (by omega)).trans ((n0 _ (by omega)).trans (hn _ (by omega) (by omega))))))))))
  have fr : ∀ x, (x ≠ 69 ∧ (x < 400 ∨ 500 ≤ x)) → h_ x = h x := fun x hx => ((n7 x (by omega)).trans ((n6 x (by omega)).trans ((n5 x (by omega)).trans ((n4 x (by omega)).trans ((n3 x (by omega)).trans ((n2 x (by omega)).trans ((n1 x (by omega)).trans (n0 x (by omega)))))))))
  clear n0 n1 n2 n3 n4 n5 n6 n7
  have hk : ∀ a c, cK a = some c → 400 ≤ a → a < 500 → h_ a = some c := fun a c e a1 a2 => by
    rcases cK_all e with rfl | rfl | rfl | rfl | rfl | rfl | rfl | rfl | rfl | rfl | rfl | rfl | rfl | rfl | rfl | rfl | rfl | rfl | rfl
    · omega
    · omega
    · omega
    · omega
    · omega
    · omega
    · omega
    · omega
    · omega
    · omega
    · omega
    · rw [← e]; exact k402
    · rw [← e]; exact k403
    · rw [← e]; exact k406
    · rw [← e]; exact k407
    · rw [← e]; exact k412
    · omega
    · omega
    · omega
  have hs : ∀ a n, cS a = some n → 400 ≤ a → a < 500 → cScr n (h_ a) := fun a n e a1 a2 => by
    have lit : ∀ b m, cS b = some m → cScr m (h_ b) → a = b → cScr n (h_ a) := fun b m e1 e2 e3 => by
      subst e3
      rw [e1] at e
      cases e
      exact e2
    have rng : ∀ lo len, (∀ i, i < len → h_ (lo + i) = some (.inl (0, 8, fun _ => nI 0))) → (∀ b, lo ≤ b → b < lo + len → 400 ≤ b → cS b = some n → n = 8) → lo ≤ a → a < lo + len → cScr n (h_ a) := fun lo len hr h8 l1 l2 => by
      have en := h8 a l1 l2 a1 e
      subst en
      have := hr (a - lo) (by omega)
      rw [show lo + (a - lo) = a by omega] at this
      exact ⟨fun _ => 0, this⟩
    have all := cS_all e
    have h8 : ∀ b, ((420 ≤ b ∧ b < 432) ∨ (440 ≤ b ∧ b < 452) ∨ (461 ≤ b ∧ b < 464) ∨ (465 ≤ b ∧ b < 468)) → cS b = some n → n = 8 := fun b hb eb => Option.some.inj (eb.symm.trans (cS_8 (by omega)))
    by_cases e1 : a = 400
    · exact lit 400 12 rfl ⟨fun _ => 0, s400⟩ e1
    by_cases e2 : a = 401
    · exact lit 401 12 rfl ⟨fun _ => 0, s401⟩ e2
    by_cases e3 : a = 404
    · exact lit 404 4 rfl ⟨fun _ => 0, s404⟩ e3
    by_cases e4 : a = 405
    · exact lit 405 4 rfl ⟨fun _ => 0, s405⟩ e4
    by_cases e5 : a = 408
    · exact lit 408 8 rfl ⟨fun _ => 0, s408⟩ e5
    by_cases e7 : 480 ≤ a ∧ a < 486
    · have en : n = 3 := by
        unfold cS at e
        rw [if_neg (by omega), if_pos (by omega)] at e
        exact (Option.some.inj e).symm
      subst en
      have := r480 (a - 480) (by omega)
      rw [show 480 + (a - 480) = a by omega] at this
      exact ⟨fun _ => 0, this⟩
    by_cases e8 : 420 ≤ a ∧ a < 432
    · exact rng 420 12 r420 (fun b b1 b2 _ eb => h8 b (by omega) eb) e8.1 e8.2
    by_cases e9 : 440 ≤ a ∧ a < 452
    · exact rng 440 12 r440 (fun b b1 b2 _ eb => h8 b (by omega) eb) e9.1 e9.2
    by_cases e10 : 461 ≤ a ∧ a < 464
    · exact rng 461 3 (fun i hi => by have := r460 (i + 1) (by omega); rw [show 460 + (i + 1) = 461 + i by omega] at this; exact this) (fun b b1 b2 _ eb => h8 b (by omega) eb) e10.1 e10.2
    · exact rng 465 3 (fun i hi => by have := r464 (i + 1) (by omega); rw [show 464 + (i + 1) = 465 + i by omega] at this; exact this) (fun b b1 b2 _ eb => h8 b (by omega) eb) (by omega) (by omega)
  exact pb_return dX1_init_37 rfl (⟨rfl, ho, hk, hs, s411, s413, ⟨fun _ => 0, r460 0 (by omega), fun _ _ => rfl⟩, ⟨fun _ => 0, r464 0 (by omega), fun _ _ => rfl⟩, fr⟩)
set_option maxRecDepth 10000 in
theorem i_glaze (ho : h 70 = some (.inr (.inr (2, [.int (nI 0), .int (nI 0), .null, .null, .null, .null, .null, .null])))) (hn : ∀ x, 500 ≤ x → x < 600 → h x = none) : pb_T Z mX2_init 1 34 261 [.ref 70] h (fun v h' => v = none ∧ h' 70 = some (.inr (.inr (2, cGl 0 0))) ∧ (∀ a c, cK a = some c → 500 ≤ a → a < 600 → h' a = some c) ∧ (∀ a n, cS a = some n → 500 ≤ a → a < 600 → cScr n (h' a)) ∧ h' 500 = some (.inl (0, 3, fun _ => nI 0)) ∧ ∀ x, (x ≠ 70 ∧ (x < 500 ∨ 600 ≤ x)) → h' x = h x) := by
  refine pb_T.of pnX2_init (Nat.le_of_ble_eq_true rfl) (lv := [some (.ref 70)]) rfl ?_
  refine pb_aload_n (pc2 := 1) dX2_init_0 rfl rfl rfl ?_
  refine pb_objI (pc2 := 4) rfl olX2 dX2_init_1 (by omega) (Nat.le_of_ble_eq_true rfl) rfl ?_
  refine pb_aload_n (pc2 := 5) dX2_init_4 rfl rfl rfl ?_
  refine pb_iconst (x := nI 0) (pc2 := 6) dX2_init_5 (by decide) rfl ?_
  refine pb_putG (fs2 := [_, _, _, _, _, _, _, _]) (pc2 := 9) flX2_9_X2 rfl dX2_init_6 ho (by omega) rfl rfl rfl rfl rfl (fun h_ ho n1 => ?_)
  refine pb_aload_n (pc2 := 10) dX2_init_9 rfl rfl rfl ?_
  refine pb_iconst (x := nI 0) (pc2 := 11) dX2_init_10 (by decide) rfl ?_
  refine pb_putG (fs2 := [_, _, _, _, _, _, _, _]) (pc2 := 14) flX2_15_X2 rfl dX2_init_11 ho (by omega) rfl rfl rfl rfl rfl (fun h_ ho n2 => ?_)
  refine pb_aload_n (pc2 := 15) dX2_init_14 rfl rfl rfl ?_
  refine pb_iconst (x := nI 3) (pc2 := 16) dX2_init_15 (by decide) rfl ?_
  refine pb_newaG (500) (k2 := 33) (n2 := 258) (pc2 := 18) dX2_init_16 ⟨by decide, rfl⟩ pb_aI ((n2 _ (by omega)).trans ((n1 _ (by omega)).trans (hn _ (by omega) (by omega)))) (by omega) (by omega) (by omega) (by omega) rfl (fun h_ r_500 n3 => ?_)
  have ho := (n3 _ (by omega)).trans ho
  refine pb_putFG (fs2 := [_, _, _, _, _, _, _, _]) (pc2 := 21) flX2_18_X2 rfl dX2_init_18 ho (by omega) rfl rfl rfl rfl rfl rfl rfl (fun h_ ho n4 => ?_)
  refine pb_aload_n (pc2 := 22) dX2_init_21 rfl rfl rfl ?_
  refine pb_iconst (x := nI 3) (pc2 := 23) dX2_init_22 (by decide) rfl ?_
  refine pb_newaG (501) (k2 := 32) (n2 := 255) (pc2 := 25) dX2_init_23 ⟨by decide, rfl⟩ pb_aI ((n4 _ (by omega)).trans ((n3 _ (by omega)).trans ((n2 _ (by omega)).trans ((n1 _ (by omega)).trans (hn _ (by omega) (by omega)))))) (by omega) (by omega) (by omega) (by omega) rfl (fun h_ r_501 n5 => ?_)
  have ho := (n5 _ (by omega)).trans ho
  refine pb_putFG (fs2 := [_, _, _, _, _, _, _, _]) (pc2 := 28) flX2_22_X2 rfl dX2_init_25 ho (by omega) rfl rfl rfl rfl rfl rfl rfl (fun h_ ho n6 => ?_)
  refine pb_aload_n (pc2 := 29) dX2_init_28 rfl rfl rfl ?_
  refine pb_bipush (x := nI 12) (pc2 := 31) dX2_init_29 (by decide) rfl ?_
  refine pb_bipush (x := nI 8) (pc2 := 33) dX2_init_31 (by decide) rfl ?_
  refine pb_mnaG (502) (520) (k2 := 19) (n2 := 147) (pc2 := 37) dX2_init_33 rfl klX2_25 ((n6 _ (by omega)).trans ((n5 _ (by omega)).trans ((n4 _ (by omega)).trans ((n3 _ (by omega)).trans ((n2 _ (by omega)).trans ((n1 _ (by omega)).trans (hn _ (by omega) (by omega)))))))) (fun i hi => ((n6 _ (by omega)).trans ((n5 _ (by omega)).trans ((n4 _ (by omega)).trans ((n3 _ (by omega)).trans ((n2 _ (by omega)).trans ((n1 _ (by omega)).trans (hn _ (by omega) (by omega))))))))) (by omega) (by omega) (by omega) (by omega) (by omega) (by omega) rfl (fun h_ r_502 q_520 n7 => ?_)
  have ho := (n7 _ (by omega)).trans ho
  refine pb_putFG (fs2 := [_, _, _, _, _, _, _, _]) (pc2 := 40) flX2_27_X2 rfl dX2_init_37 ho (by omega) rfl rfl rfl rfl rfl rfl rfl (fun h_ ho n8 => ?_)
  refine pb_aload_n (pc2 := 41) dX2_init_40 rfl rfl rfl ?_
  refine pb_bipush (x := nI 12) (pc2 := 43) dX2_init_41 (by decide) rfl ?_
  refine pb_bipush (x := nI 8) (pc2 := 45) dX2_init_43 (by decide) rfl ?_
  refine pb_mnaG (503) (540) (k2 := 6) (n2 := 39) (pc2 := 49) dX2_init_45 rfl klX2_25 ((n8 _ (by omega)).trans ((n7 _ (by omega)).trans ((n6 _ (by omega)).trans ((n5 _ (by omega)).trans ((n4 _ (by omega)).trans ((n3 _ (by omega)).trans ((n2 _ (by omega)).trans ((n1 _ (by omega)).trans (hn _ (by omega) (by omega)))))))))) (fun i hi => ((n8 _ (by omega)).trans ((n7 _ (by omega)).trans ((n6 _ (by omega)).trans ((n5 _ (by omega)).trans ((n4 _ (by omega)).trans ((n3 _ (by omega)).trans ((n2 _ (by omega)).trans ((n1 _ (by omega)).trans (hn _ (by omega) (by omega))))))))))) (by omega) (by omega) (by omega) (by omega) (by omega) (by omega) rfl (fun h_ r_503 q_540 n9 => ?_)
  have ho := (n9 _ (by omega)).trans ho
  refine pb_putFG (fs2 := [_, _, _, _, _, _, _, _]) (pc2 := 52) flX2_30_X2 rfl dX2_init_49 ho (by omega) rfl rfl rfl rfl rfl rfl rfl (fun h_ ho n10 => ?_)
  refine pb_aload_n (pc2 := 53) dX2_init_52 rfl rfl rfl ?_
  refine pb_iconst (x := nI 4) (pc2 := 54) dX2_init_53 (by decide) rfl ?_
  refine pb_bipush (x := nI 8) (pc2 := 56) dX2_init_54 (by decide) rfl ?_
  refine pb_mnaG (504) (560) (k2 := 1) (n2 := 3) (pc2 := 60) dX2_init_56 rfl klX2_25 ((n10 _ (by omega)).trans ((n9 _ (by omega)).trans ((n8 _ (by omega)).trans ((n7 _ (by omega)).trans ((n6 _ (by omega)).trans ((n5 _ (by omega)).trans ((n4 _ (by omega)).trans ((n3 _ (by omega)).trans ((n2 _ (by omega)).trans ((n1 _ (by omega)).trans (hn _ (by omega) (by omega)))))))))))) (fun i hi => ((n10 _ (by omega)).trans ((n9 _ (by omega)).trans ((n8 _ (by omega)).trans ((n7 _ (by omega)).trans ((n6 _ (by omega)).trans ((n5 _ (by omega)).trans ((n4 _ (by omega)).trans ((n3 _ (by omega)).trans ((n2 _ (by omega)).trans ((n1 _ (by omega)).trans (hn _ (by omega) (by omega))))))))))))) (by omega) (by omega) (by omega) (by omega) (by omega) (by omega) rfl (fun h_ r_504 q_560 n11 => ?_)
  have ho := (n11 _ (by omega)).trans ho
  refine pb_putFG (fs2 := [_, _, _, _, _, _, _, _]) (pc2 := 63) flX2_33_X2 rfl dX2_init_60 ho (by omega) rfl rfl rfl rfl rfl rfl rfl (fun h_ ho n12 => ?_)
  refine pb_aload_n (pc2 := 64) dX2_init_63 rfl rfl rfl ?_
  refine pb_iconst (x := nI 3) (pc2 := 65) dX2_init_64 (by decide) rfl ?_
  refine pb_newaG (505) (k2 := 0) (n2 := 0) (pc2 := 67) dX2_init_65 ⟨by decide, rfl⟩ pb_aI ((n12 _ (by omega)).trans ((n11 _ (by omega)).trans ((n10 _ (by omega)).trans ((n9 _ (by omega)).trans ((n8 _ (by omega)).trans ((n7 _ (by omega)).trans ((n6 _ (by omega)).trans ((n5 _ (by omega)).trans ((n4 _ (by omega)).trans ((n3 _ (by omega)).trans ((n2 _ (by omega)).trans ((n1 _ (by omega)).trans (hn _ (by omega) (by omega)))))))))))))) (by omega) (by omega) (by omega) (by omega) rfl (fun h_ r_505 n13 => ?_)
  have ho := (n13 _ (by omega)).trans ho
  refine pb_putFG (fs2 := [_, _, _, _, _, _, _, _]) (pc2 := 70) flX2_36_X2 rfl dX2_init_67 ho (by omega) rfl rfl rfl rfl rfl rfl rfl (fun h_ ho n14 => ?_)
  have f_500 := ((n14 _ (by omega)).trans ((n13 _ (by omega)).trans ((n12 _ (by omega)).trans ((n11 _ (by omega)).trans ((n10 _ (by omega)).trans ((n9 _ (by omega)).trans ((n8 _ (by omega)).trans ((n7 _ (by omega)).trans ((n6 _ (by omega)).trans ((n5 _ (by omega)).trans ((n4 _ (by omega)).trans r_500)))))))))))
  have f_501 := ((n14 _ (by omega)).trans ((n13 _ (by omega)).trans ((n12 _ (by omega)).trans ((n11 _ (by omega)).trans ((n10 _ (by omega)).trans ((n9 _ (by omega)).trans ((n8 _ (by omega)).trans ((n7 _ (by omega)).trans ((n6 _ (by omega)).trans r_501)))))))))
  have f_502 := ((n14 _ (by omega)).trans ((n13 _ (by omega)).trans ((n12 _ (by omega)).trans ((n11 _ (by omega)).trans ((n10 _ (by omega)).trans ((n9 _ (by omega)).trans ((n8 _ (by omega)).trans r_502)))))))
  have g_520 := (fun i (hi : i < 12) => ((n14 _ (by omega)).trans ((n13 _ (by omega)).trans ((n12 _ (by omega)).trans ((n11 _ (by omega)).trans ((n10 _ (by omega)).trans ((n9 _ (by omega)).trans ((n8 _ (by omega)).trans (q_520 i hi)))))))))
  have f_503 := ((n14 _ (by omega)).trans ((n13 _ (by omega)).trans ((n12 _ (by omega)).trans ((n11 _ (by omega)).trans ((n10 _ (by omega)).trans r_503)))))
  have g_540 := (fun i (hi : i < 12) => ((n14 _ (by omega)).trans ((n13 _ (by omega)).trans ((n12 _ (by omega)).trans ((n11 _ (by omega)).trans ((n10 _ (by omega)).trans (q_540 i hi)))))))
  have f_504 := ((n14 _ (by omega)).trans ((n13 _ (by omega)).trans ((n12 _ (by omega)).trans r_504)))
  have g_560 := (fun i (hi : i < 4) => ((n14 _ (by omega)).trans ((n13 _ (by omega)).trans ((n12 _ (by omega)).trans (q_560 i hi)))))
  have f_505 := ((n14 _ (by omega)).trans r_505)
  have fr : ∀ x, (x ≠ 70 ∧ (x < 500 ∨ 600 ≤ x)) → h_ x = h x := fun x hx => ((n14 x (by omega)).trans ((n13 x (by omega)).trans ((n12 x (by omega)).trans ((n11 x (by omega)).trans ((n10 x (by omega)).trans ((n9 x (by omega)).trans ((n8 x (by omega)).trans ((n7 x (by omega)).trans ((n6 x (by omega)).trans ((n5 x (by omega)).trans ((n4 x (by omega)).trans ((n3 x (by omega)).trans ((n2 x (by omega)).trans (n1 x (by omega)))))))))))))))
  clear n1 n2 n3 n4 n5 n6 n7 n8 n9 n10 n11 n12 n13 n14
  have hk : ∀ a c, cK a = some c → 500 ≤ a → a < 600 → h_ a = some c := fun a c e a1 a2 => by
    rcases cK_all e with rfl | rfl | rfl | rfl | rfl | rfl | rfl | rfl | rfl | rfl | rfl | rfl | rfl | rfl | rfl | rfl | rfl | rfl | rfl
    · omega
    · omega
    · omega
    · omega
    · omega
    · omega
    · omega
    · omega
    · omega
    · omega
    · omega
    · omega
    · omega
    · omega
    · omega
    · omega
    · rw [← e]; exact f_502
    · rw [← e]; exact f_503
    · rw [← e]; exact f_504
  have hs : ∀ a n, cS a = some n → 500 ≤ a → a < 600 → cScr n (h_ a) := fun a n e a1 a2 => by
    have lit : ∀ b m, cS b = some m → cScr m (h_ b) → a = b → cScr n (h_ a) := fun b m e1 e2 e3 => by
      subst e3
      rw [e1] at e
      cases e
      exact e2
    have all := cS_all e
    have h8 : ((520 ≤ a ∧ a < 532) ∨ (540 ≤ a ∧ a < 552) ∨ (560 ≤ a ∧ a < 564)) → n = 8 := fun hb => Option.some.inj (e.symm.trans (cS_8 (by omega)))
    by_cases e1 : a = 501
    · exact lit 501 3 rfl ⟨fun _ => 0, f_501⟩ e1
    by_cases e2 : a = 505
    · exact lit 505 3 rfl ⟨fun _ => 0, f_505⟩ e2
    have en := h8 (by omega)
    subst en
    by_cases e3 : a < 532
    · have := g_520 (a - 520) (by omega)
      rw [show 520 + (a - 520) = a by omega] at this
      exact ⟨fun _ => 0, this⟩
    by_cases e4 : a < 552
    · have := g_540 (a - 540) (by omega)
      rw [show 540 + (a - 540) = a by omega] at this
      exact ⟨fun _ => 0, this⟩
    · have := g_560 (a - 560) (by omega)
      rw [show 560 + (a - 560) = a by omega] at this
      exact ⟨fun _ => 0, this⟩
  exact pb_return dX2_init_70 rfl (⟨rfl, ho, hk, hs, f_500, fr⟩)
end PB45

