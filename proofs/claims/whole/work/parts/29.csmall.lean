/-! SMALL METHODS OF THE CLASS -/
theorem cTo_at {b n i : Nat} (h : i < n) : va_rf (cTo b n i) = .ref (b + i) := by
  unfold cTo
  rw [if_pos h]
  rfl
theorem fnX6_34 : Cond.fieldLinkNest RX6 34 (TX8 0).1 (TX8 0).2.1 (TX8 0).2.2.1 "PaintBox" ∈ pb_nw := pb_j1 (List.mem_of_getElem? (i := 35) (by decide +kernel)) rfl
section PB29
variable {Z : pb_Z} {h h0 : pb_H} {A : pb_A}
section PBG
variable {y : pb_M} {d k n : Nat} {post : Option Value → pb_H → Prop} {pc : Nat} {lv : List (Option Value)} {st : List Value}
theorem pb_iastG {N a j v : Nat} {F : Nat → Nat} {pc2 : Nat} (ha : h a = some (.inl (0, N, fun j => nI (F j)))) (hd : decode y.2.1 pc = .ok (.iastore, 1)) (h2 : 2 ≤ a) (hj : j < N) (hN : N < 2 ^ 31) (hp : pc + 1 = pc2) (kk : ∀ h', h' a = some (.inl (0, N, fun i => nI (pb_un F j v i))) → (∀ b, b ≠ a → h' b = h b) → pb_S Z y d k n post pc2 lv st h') : pb_S Z y d k n post pc lv (.int (nI v) :: .int (nI j) :: .ref a :: st) h := pb_iast ha hd h2 hj hN hp (kk _ (pb_set_self _ _ _) (fun _ hb => pb_set_ne _ _ hb))
theorem pb_putG {own : String} {idx ci kf N a : Nat} {C : String} {T : u_T} {ty : Nat → FieldType} {fs fs2 : List Value} {v : Value} {pc2 : Nat} (hl : pb_fl own idx ci kf C T N ty) (hw : y.1.cls = own) (hd : decode y.2.1 pc = .ok (.putfield idx, 3)) (ha : h a = some (.inr (.inr (ci, fs)))) (h2 : 2 ≤ a) (hfin : (T kf).2.2.2 = false) (hn : narrow (ty kf) v = v) (hft : fits (ty kf) v = true) (hs : fs.set kf v = fs2) (hp : pc + 3 = pc2) (kk : ∀ h', h' a = some (.inr (.inr (ci, fs2))) → (∀ b, b ≠ a → h' b = h b) → pb_S Z y d k n post pc2 lv st h') : pb_S Z y d k n post pc lv (v :: .ref a :: st) h := pb_putf hl hw hd ha h2 hfin hn hft hs hp (kk _ (pb_set_self _ _ _) (fun _ hb => pb_set_ne _ _ hb))
theorem pb_aald {kd N a j : Nat} {f : Nat → Option Nat} {v : Value} {pc2 : Nat} (ha : h a = some (.inr (.inl (kd, N, f)))) (hd : decode y.2.1 pc = .ok (.aaload, 1)) (hkd : kd < 5) (hj : j < N) (hN : N < 2 ^ 31) (hv : va_rf (f j) = v) (hp : pc + 1 = pc2) (kk : pb_S Z y d k n post pc2 lv (v :: st) h) : pb_S Z y d k n post pc lv (.int (nI j) :: .ref a :: st) h := pb_aaload hd hkd ha hj hN hv hp kk
theorem pb_alenC {kd N a : Nat} {f : Nat → Int32} {pc2 : Nat} (ha : h a = some (.inl (kd, N, f))) (hd : decode y.2.1 pc = .ok (.arraylength, 1)) (hkd : kd < 4) (hp : pc + 1 = pc2) (kk : pb_S Z y d k n post pc2 lv (.int (nI N) :: st) h) : pb_S Z y d k n post pc lv (.ref a :: st) h := pb_alen hd hkd ha hp kk
def pb_PW (a n : Nat) (P : Nat → Nat) (h : pb_H) : Option Value → pb_H → Prop := fun v h' => v = none ∧ cRow n P (h' a) ∧ ∀ b, b ≠ a → h' b = h b
theorem pb_kW {a n0 : Nat} {P : Nat → Nat} {h1 : pb_H} (kk : ∀ (h' : pb_H) (G : Nat → Nat), h' a = some (.inl (0, n0, fun j => nI (G j))) → (∀ j, j < n0 → G j = P j) → (∀ b, b ≠ a → h' b = h1 b) → pb_S Z y d k n post pc lv st h') : ∀ v h', pb_PW a n0 P h1 v h' → (∀ b, h b ≠ none → h' b ≠ none) → pb_S Z y d k n post pc lv (v.toList ++ st) h' := fun v h' q _ => by
  obtain ⟨rfl, ⟨G, h1, h2⟩, h3⟩ := q
  exact kk h' G h1 h2 h3
/-- an answer that is an object's address, or null -/
def pb_PRef (m b : Nat) (Q : Prop) (x : Int32) (h : pb_H) : Option Value → pb_H → Prop := fun v h' => h' = h ∧ ((∃ t, t < m ∧ x = nI t ∧ v = some (.ref (b + t))) ∨ (¬ Q ∧ v = some .null))
theorem pb_kRef {m b : Nat} {Q : Prop} {x : Int32} {h1 : pb_H} (k1 : ∀ t, t < m → x = nI t → pb_S Z y d k n post pc lv (.ref (b + t) :: st) h1) (k2 : ¬ Q → pb_S Z y d k n post pc lv (.null :: st) h1) : ∀ v h', pb_PRef m b Q x h1 v h' → (∀ b, h b ≠ none → h' b ≠ none) → pb_S Z y d k n post pc lv (v.toList ++ st) h' := fun v h' q _ => by
  obtain ⟨rfl, ⟨t, h1, h2, rfl⟩ | ⟨h1, rfl⟩⟩ := q
  · exact k1 t h1 h2
  · exact k2 h1
end PBG
set_option maxRecDepth 10000 in
theorem t_fill {a n c : Nat} (ha : cScr n (h a)) (h2 : 2 ≤ a) (hn : n < 2 ^ 31) : pb_T Z mJ7_fill_53178 0 0 0 [.ref a, .int (nI c)] h (pb_PW a n (fun _ => c) h) := by
  obtain ⟨F, ha⟩ := ha
  refine pb_T.of pnJ7_fill_53178 (Nat.le_of_ble_eq_true rfl) (lv := [some (.ref a), some (.int (nI c)), none, none]) rfl ?_
  have loop : ∀ (m i : Nat) (G : Nat → Nat) (h' : pb_H), n - i < m → i ≤ n → h' a = some (.inl (0, n, fun j => nI (G j))) → (∀ j, j < i → G j = c) → (∀ b, b ≠ a → h' b = h b) → pb_S Z mJ7_fill_53178 0 0 0 (pb_PW a n (fun _ => c) h) 5 [some (.ref a), some (.int (nI c)), some (.int (nI i)), some (.int (nI n))] [] h' := by
    intro m
    induction m with
    | zero => intro i G h' g1; omega
    | succ m ih =>
      intro i G h' g1 g2 ha hG hne
      refine pb_iload_n (pc2 := 6) dJ7_fill_53178_5 rfl rfl rfl ?_
      refine pb_iload_n (pc2 := 7) dJ7_fill_53178_6 rfl rfl rfl ?_
      refine pb_icmpN_ge (tgt := 20) (pc2 := 10) dJ7_fill_53178_7 (by decide) rfl (by omega) (by omega) (fun q => ?_) (fun q => ?_)
      · have e : i = n := by omega
        subst e
        exact pb_return dJ7_fill_53178_20 rfl (⟨rfl, ⟨G, ha, hG⟩, hne⟩)
      · refine pb_aload_n (pc2 := 11) dJ7_fill_53178_10 rfl rfl rfl ?_
        refine pb_iload_n (pc2 := 12) dJ7_fill_53178_11 rfl rfl rfl ?_
        refine pb_iload_n (pc2 := 13) dJ7_fill_53178_12 rfl rfl rfl ?_
        refine pb_iastG (pc2 := 14) ha dJ7_fill_53178_13 h2 (by omega) hn rfl (fun h_ ha hne2 => ?_)
        refine pb_iincP (c0 := 1) (lv2 := [_, _, _, _]) (pc2 := 17) dJ7_fill_53178_14 rfl (by decide) rfl rfl ?_
        refine pb_goto (tgt := 5) dJ7_fill_53178_17 (by decide) ?_
        refine ih (i + 1) _ _ (by omega) (by omega) ha (fun j hj => ?_) (fun b hb => (hne2 b hb).trans (hne b hb))
        by_cases e : j = i
        · rw [e, pb_un_self]
        · rw [pb_un_ne _ _ e]; exact hG j (by omega)
  refine pb_iconst (x := nI 0) (pc2 := 1) dJ7_fill_53178_0 (by decide) rfl ?_
  refine pb_istore_n (lv2 := [_, _, _, _]) (pc2 := 2) dJ7_fill_53178_1 rfl (by decide) rfl rfl ?_
  refine pb_aload_n (pc2 := 3) dJ7_fill_53178_2 rfl rfl rfl ?_
  refine pb_alenC (pc2 := 4) (by first | assumption | exact hR.a rfl | exact hR.o | exact hC.o | exact hC.pal | exact hC.tub | exact hC.k _ _ rfl | exact hC.pot _ (by omega) | exact hC.are _ (by omega) | exact hC.arl _ (by omega) | exact hC.tbo _ (by omega) (by omega)) dJ7_fill_53178_3 (by decide) rfl ?_
  refine pb_istore_n (lv2 := [_, _, _, _]) (pc2 := 5) dJ7_fill_53178_4 rfl (by decide) rfl rfl ?_
  exact loop (n + 1) 0 F h (by omega) (by omega) ha (fun j hj => by omega) (fun _ _ => rfl)
theorem t_isBand (x : Int32) : pb_T Z mX11_isBand 1 0 0 [.int x] h (pb_B (pb_in 0 7 x) h) := by
  refine pb_T.of pnX11_isBand (Nat.le_of_ble_eq_true rfl) (lv := [some (.int x)]) rfl ?_
  refine pb_iload_n (pc2 := 1) dX11_isBand_0 rfl rfl rfl ?_
  refine pb_iconst (x := nI 0) (pc2 := 2) dX11_isBand_1 (by decide) rfl ?_
  refine pb_bipush (x := nI 7) (pc2 := 4) dX11_isBand_2 (by decide) rfl ?_
  refine pb_callS (pc2 := 7) (k2 := 0) (n2 := 0) mwX11_between swX11_between rfl mlX11_77 dX11_isBand_4 (t_between x (nI 0) (nI 7)) (by omega) (by omega) (by omega) rfl rfl (Nat.le_of_ble_eq_true rfl) rfl (pb_kB (fun q => ?_) (fun q => ?_))
  · exact pb_zreturn dX11_isBand_7 rfl (by first | exact Or.inl rfl | exact Or.inr rfl | assumption) (⟨Or.inl ⟨rfl, q⟩, rfl⟩)
  · exact pb_zreturn dX11_isBand_7 rfl (by first | exact Or.inl rfl | exact Or.inr rfl | assumption) (⟨Or.inr ⟨rfl, q⟩, rfl⟩)
theorem t_isLamp (x : Int32) : pb_T Z mX11_isLamp 1 0 0 [.int x] h (pb_B (pb_in 0 3 x) h) := by
  refine pb_T.of pnX11_isLamp (Nat.le_of_ble_eq_true rfl) (lv := [some (.int x)]) rfl ?_
  refine pb_iload_n (pc2 := 1) dX11_isLamp_0 rfl rfl rfl ?_
  refine pb_iconst (x := nI 0) (pc2 := 2) dX11_isLamp_1 (by decide) rfl ?_
  refine pb_iconst (x := nI 3) (pc2 := 3) dX11_isLamp_2 (by decide) rfl ?_
  refine pb_callS (pc2 := 6) (k2 := 0) (n2 := 0) mwX11_between swX11_between rfl mlX11_77 dX11_isLamp_3 (t_between x (nI 0) (nI 3)) (by omega) (by omega) (by omega) rfl rfl (Nat.le_of_ble_eq_true rfl) rfl (pb_kB (fun q => ?_) (fun q => ?_))
  · exact pb_zreturn dX11_isLamp_6 rfl (by first | exact Or.inl rfl | exact Or.inr rfl | assumption) (⟨Or.inl ⟨rfl, q⟩, rfl⟩)
  · exact pb_zreturn dX11_isLamp_6 rfl (by first | exact Or.inl rfl | exact Or.inr rfl | assumption) (⟨Or.inr ⟨rfl, q⟩, rfl⟩)
theorem t_isSight (x : Int32) : pb_T Z mX11_isSight 1 0 0 [.int x] h (pb_B (pb_in 0 2 x) h) := by
  refine pb_T.of pnX11_isSight (Nat.le_of_ble_eq_true rfl) (lv := [some (.int x)]) rfl ?_
  refine pb_iload_n (pc2 := 1) dX11_isSight_0 rfl rfl rfl ?_
  refine pb_iconst (x := nI 0) (pc2 := 2) dX11_isSight_1 (by decide) rfl ?_
  refine pb_iconst (x := nI 2) (pc2 := 3) dX11_isSight_2 (by decide) rfl ?_
  refine pb_callS (pc2 := 6) (k2 := 0) (n2 := 0) mwX11_between swX11_between rfl mlX11_77 dX11_isSight_3 (t_between x (nI 0) (nI 2)) (by omega) (by omega) (by omega) rfl rfl (Nat.le_of_ble_eq_true rfl) rfl (pb_kB (fun q => ?_) (fun q => ?_))
  · exact pb_zreturn dX11_isSight_6 rfl (by first | exact Or.inl rfl | exact Or.inr rfl | assumption) (⟨Or.inl ⟨rfl, q⟩, rfl⟩)
  · exact pb_zreturn dX11_isSight_6 rfl (by first | exact Or.inl rfl | exact Or.inr rfl | assumption) (⟨Or.inr ⟨rfl, q⟩, rfl⟩)
theorem t_isShare (x : Int32) : pb_T Z mX11_isShare 1 0 0 [.int x] h (pb_B (pb_in 0 10000 x) h) := by
  refine pb_T.of pnX11_isShare (Nat.le_of_ble_eq_true rfl) (lv := [some (.int x)]) rfl ?_
  refine pb_iload_n (pc2 := 1) dX11_isShare_0 rfl rfl rfl ?_
  refine pb_iconst (x := nI 0) (pc2 := 2) dX11_isShare_1 (by decide) rfl ?_
  refine pb_sipush (x := nI 10000) (pc2 := 5) dX11_isShare_2 (by decide) rfl ?_
  refine pb_callS (pc2 := 8) (k2 := 0) (n2 := 0) mwX11_between swX11_between rfl mlX11_77 dX11_isShare_5 (t_between x (nI 0) (nI 10000)) (by omega) (by omega) (by omega) rfl rfl (Nat.le_of_ble_eq_true rfl) rfl (pb_kB (fun q => ?_) (fun q => ?_))
  · exact pb_zreturn dX11_isShare_8 rfl (by first | exact Or.inl rfl | exact Or.inr rfl | assumption) (⟨Or.inl ⟨rfl, q⟩, rfl⟩)
  · exact pb_zreturn dX11_isShare_8 rfl (by first | exact Or.inl rfl | exact Or.inr rfl | assumption) (⟨Or.inr ⟨rfl, q⟩, rfl⟩)
theorem t_replace {a n i v : Nat} {F : Nat → Nat} (ha : h a = some (.inl (0, n, fun j => nI (F j)))) (h2 : 2 ≤ a) (hn : n < 2 ^ 31) (hi : i < n) : pb_T Z mX11_replace 0 0 0 [.ref a, .int (nI i), .int (nI v)] h (fun r h' => r = some (.int (nI (F i))) ∧ h' a = some (.inl (0, n, fun j => nI (pb_un F i v j))) ∧ ∀ b, b ≠ a → h' b = h b) := by
  refine pb_T.of pnX11_replace (Nat.le_of_ble_eq_true rfl) (lv := [some (.ref a), some (.int (nI i)), some (.int (nI v)), none]) rfl ?_
  refine pb_aload_n (pc2 := 1) dX11_replace_0 rfl rfl rfl ?_
  refine pb_iload_n (pc2 := 2) dX11_replace_1 rfl rfl rfl ?_
  refine pb_iald (pc2 := 3) (by first | assumption | exact hR.a rfl | exact hR.o | exact hC.o | exact hC.pal | exact hC.tub | exact hC.k _ _ rfl | exact hC.pot _ (by omega) | exact hC.are _ (by omega) | exact hC.arl _ (by omega) | exact hC.tbo _ (by omega) (by omega)) ⟨by decide, rfl⟩ dX11_replace_2 (by omega) (by omega) rfl ?_
  refine pb_istore_n (lv2 := [_, _, _, _]) (pc2 := 4) dX11_replace_3 rfl (by decide) rfl rfl ?_
  refine pb_aload_n (pc2 := 5) dX11_replace_4 rfl rfl rfl ?_
  refine pb_iload_n (pc2 := 6) dX11_replace_5 rfl rfl rfl ?_
  refine pb_iload_n (pc2 := 7) dX11_replace_6 rfl rfl rfl ?_
  refine pb_iastG (pc2 := 8) ha dX11_replace_7 h2 (by omega) hn rfl (fun h_ ha hne2 => ?_)
  refine pb_iload_n (pc2 := 9) dX11_replace_8 rfl rfl rfl ?_
  exact pb_ireturn dX11_replace_9 rfl (⟨rfl, ha, hne2⟩)
theorem t_drinkAfter (hC : pb_CF A h0 h) {t b y : Nat} (ht : t < A 1 0) (ht2 : t < 12) (hb : b < 8) (hy : y < 100) : pb_T Z mX10_drinkAfter 0 0 0 [.ref (200 + t), .int (nI b), .int (nI y)] h (pb_E (some (.int (nI (pb_fade (A 3 t) (A 7 (8 * t + b)) y)))) h) := by
  obtain ⟨F, hd, hF⟩ := hC.tbd t ht2 ht
  refine pb_T.of pnX10_drinkAfter (Nat.le_of_ble_eq_true rfl) (lv := [some (.ref (200 + t)), some (.int (nI b)), some (.int (nI y))]) rfl ?_
  refine pb_aload_n (pc2 := 1) dX10_drinkAfter_0 rfl rfl rfl ?_
  refine pb_getf (pc2 := 4) flX10_18_X10 rfl dX10_drinkAfter_1 (by first | assumption | exact hR.a rfl | exact hR.o | exact hC.o | exact hC.pal | exact hC.tub | exact hC.k _ _ rfl | exact hC.pot _ (by omega) | exact hC.are _ (by omega) | exact hC.arl _ (by omega) | exact hC.tbo _ (by omega) (by omega)) rfl rfl ?_
  refine pb_iload_n (pc2 := 5) dX10_drinkAfter_4 rfl rfl rfl ?_
  refine pb_bipush (x := nI 100) (pc2 := 7) dX10_drinkAfter_5 (by decide) rfl ?_
  refine pb_imulN (pc2 := 8) dX10_drinkAfter_7 rfl ?_
  refine pb_iload_n (pc2 := 9) dX10_drinkAfter_8 rfl rfl rfl ?_
  refine pb_iaddN (pc2 := 10) dX10_drinkAfter_9 rfl ?_
  refine pb_iald (pc2 := 11) (by first | assumption | exact hR.a rfl | exact hR.o | exact hC.o | exact hC.pal | exact hC.tub | exact hC.k _ _ rfl | exact hC.pot _ (by omega) | exact hC.are _ (by omega) | exact hC.arl _ (by omega) | exact hC.tbo _ (by omega) (by omega)) ⟨by decide, rfl⟩ dX10_drinkAfter_10 (by omega) (by omega) rfl ?_
  refine pb_top (v2 := .int (nI (pb_fade (A 3 t) (A 7 (8 * t + b)) y))) (by rw [hF _ (by omega)]; show Value.int (nI (pb_fade (A 3 t) (A 7 (8 * t + (b * 100 + y) / 100)) ((b * 100 + y) % 100))) = _; rw [show (b * 100 + y) / 100 = b by omega, show (b * 100 + y) % 100 = y by omega]) ?_
  exact pb_ireturn dX10_drinkAfter_11 rfl (⟨rfl, rfl⟩)
theorem t_scatterOf (hC : pb_CF A h0 h) {t b : Nat} (ht : t < A 1 0) (ht2 : t < 12) (hb : b < 8) : pb_T Z mX10_scatterOf 0 0 0 [.ref (200 + t), .int (nI b)] h (pb_E (some (.int (nI (A 8 (8 * t + b))))) h) := by
  obtain ⟨F, hd, hF⟩ := hC.tbs t ht2 ht
  refine pb_T.of pnX10_scatterOf (Nat.le_of_ble_eq_true rfl) (lv := [some (.ref (200 + t)), some (.int (nI b))]) rfl ?_
  refine pb_aload_n (pc2 := 1) dX10_scatterOf_0 rfl rfl rfl ?_
  refine pb_getf (pc2 := 4) flX10_22_X10 rfl dX10_scatterOf_1 (by first | assumption | exact hR.a rfl | exact hR.o | exact hC.o | exact hC.pal | exact hC.tub | exact hC.k _ _ rfl | exact hC.pot _ (by omega) | exact hC.are _ (by omega) | exact hC.arl _ (by omega) | exact hC.tbo _ (by omega) (by omega)) rfl rfl ?_
  refine pb_iload_n (pc2 := 5) dX10_scatterOf_4 rfl rfl rfl ?_
  refine pb_iald (pc2 := 6) (by first | assumption | exact hR.a rfl | exact hR.o | exact hC.o | exact hC.pal | exact hC.tub | exact hC.k _ _ rfl | exact hC.pot _ (by omega) | exact hC.are _ (by omega) | exact hC.arl _ (by omega) | exact hC.tbo _ (by omega) (by omega)) ⟨by decide, rfl⟩ dX10_scatterOf_5 (by omega) (by omega) rfl ?_
  refine pb_top (v2 := .int (nI (A 8 (8 * t + b)))) (by rw [hF _ hb]) ?_
  exact pb_ireturn dX10_scatterOf_6 rfl (⟨rfl, rfl⟩)
set_option maxRecDepth 10000 in
theorem t_paint {o dr sr b kk s f : Nat} {v0 v2 v3 v4 : Value} {D S : Nat → Nat} (ho : h o = some (.inr (.inr (8, [v0, .int (nI f), v2, v3, v4, .ref dr, .ref sr])))) (hd : h dr = some (.inl (0, 800, fun j => nI (D j)))) (hs : h sr = some (.inl (0, 8, fun j => nI (S j)))) (hne : dr ≠ sr ∧ o ≠ dr ∧ o ≠ sr ∧ 2 ≤ dr ∧ 2 ≤ sr) (hb : b < 8) (hk : kk ≤ 999) (hf : f ≤ 999) : pb_T Z mX10_paint 0 0 0 [.ref o, .int (nI b), .int (nI kk), .int (nI s)] h (fun v h' => v = none ∧ (∃ D' : Nat → Nat, h' dr = some (.inl (0, 800, fun j => nI (D' j))) ∧ ∀ j, j < 800 → D' j = if j / 100 = b then pb_fade f kk (j % 100) else D j) ∧ h' sr = some (.inl (0, 8, fun j => nI (pb_un S b s j))) ∧ ∀ x, x ≠ dr → x ≠ sr → h' x = h x) := by
  obtain ⟨n1, n2, n3, n4, n5⟩ := hne
  refine pb_T.of pnX10_paint (Nat.le_of_ble_eq_true rfl) (lv := [some (.ref o), some (.int (nI b)), some (.int (nI kk)), some (.int (nI s)), none, none]) rfl ?_
  refine pb_aload_n (pc2 := 1) dX10_paint_0 rfl rfl rfl ?_
  refine pb_getf (pc2 := 4) flX10_22_X10 rfl dX10_paint_1 (by first | assumption | exact hR.a rfl | exact hR.o | exact hC.o | exact hC.pal | exact hC.tub | exact hC.k _ _ rfl | exact hC.pot _ (by omega) | exact hC.are _ (by omega) | exact hC.arl _ (by omega) | exact hC.tbo _ (by omega) (by omega)) rfl rfl ?_
  refine pb_iload_n (pc2 := 5) dX10_paint_4 rfl rfl rfl ?_
  refine pb_iload_n (pc2 := 6) dX10_paint_5 rfl rfl rfl ?_
  refine pb_iastG (pc2 := 7) hs dX10_paint_6 n5 (by omega) (by omega) rfl (fun h1 hs hne1 => ?_)
  have ho : h1 o = _ := (hne1 o n3).trans ho
  have hd : h1 dr = _ := (hne1 dr n1).trans hd
  have loop : ∀ (m i : Nat) (D' : Nat → Nat) (h' : pb_H), 100 - i < m → i ≤ 100 → h' dr = some (.inl (0, 800, fun j => nI (D' j))) → (∀ j, j < 800 → D' j = if j / 100 = b ∧ j % 100 < i then pb_fade f kk (j % 100) else D j) → (∀ x, x ≠ dr → h' x = h1 x) → pb_S Z mX10_paint 0 0 0 (fun v h' => v = none ∧ (∃ D' : Nat → Nat, h' dr = some (.inl (0, 800, fun j => nI (D' j))) ∧ ∀ j, j < 800 → D' j = if j / 100 = b then pb_fade f kk (j % 100) else D j) ∧ h' sr = some (.inl (0, 8, fun j => nI (pb_un S b s j))) ∧ ∀ x, x ≠ dr → x ≠ sr → h' x = h x) 13 [some (.ref o), some (.int (nI b)), some (.int (nI kk)), some (.int (nI s)), some (.int (nI (pb_fade f kk i))), some (.int (nI i))] [] h' := by
    intro m
    induction m with
    | zero => intro i D' h' g1; omega
    | succ m ih =>
      intro i D' h' g1 g2 hd hD hne2
      have ho : h' o = _ := (hne2 o n2).trans ho
      refine pb_iload (pc2 := 15) dX10_paint_13 rfl rfl ?_
      refine pb_bipush (x := nI 100) (pc2 := 17) dX10_paint_15 (by decide) rfl ?_
      refine pb_icmpN_ge (tgt := 57) (pc2 := 20) dX10_paint_17 (by decide) rfl (by omega) (by omega) (fun q => ?_) (fun q => ?_)
      · have e : i = 100 := by omega
        subst e
        have hD2 : ∀ j, j < 800 → D' j = if j / 100 = b then pb_fade f kk (j % 100) else D j := fun j hj => by
          rw [hD j hj]
          by_cases e : j / 100 = b
          · rw [if_pos ⟨e, by omega⟩, if_pos e]
          · rw [if_neg (fun z => e z.1), if_neg e]
        exact pb_return dX10_paint_57 rfl (⟨rfl, ⟨D', hd, hD2⟩, (hne2 sr (Ne.symm n1)).trans hs, fun x x1 x2 => (hne2 x x1).trans (hne1 x x2)⟩)
      · have hfl := pb_fade_le f kk i
        have hml : pb_fade f kk i * (1000 - f) ≤ 999 * 1000 := Nat.mul_le_mul (by omega) (by omega)
        refine pb_aload_n (pc2 := 21) dX10_paint_20 rfl rfl rfl ?_
        refine pb_getf (pc2 := 24) flX10_18_X10 rfl dX10_paint_21 (by first | assumption | exact hR.a rfl | exact hR.o | exact hC.o | exact hC.pal | exact hC.tub | exact hC.k _ _ rfl | exact hC.pot _ (by omega) | exact hC.are _ (by omega) | exact hC.arl _ (by omega) | exact hC.tbo _ (by omega) (by omega)) rfl rfl ?_
        refine pb_iload_n (pc2 := 25) dX10_paint_24 rfl rfl rfl ?_
        refine pb_bipush (x := nI 100) (pc2 := 27) dX10_paint_25 (by decide) rfl ?_
        refine pb_imulN (pc2 := 28) dX10_paint_27 rfl ?_
        refine pb_iload (pc2 := 30) dX10_paint_28 rfl rfl ?_
        refine pb_iaddN (pc2 := 31) dX10_paint_30 rfl ?_
        refine pb_iload (pc2 := 33) dX10_paint_31 rfl rfl ?_
        refine pb_iastG (pc2 := 34) hd dX10_paint_33 n4 (by omega) (by omega) rfl (fun h2 hd hne3 => ?_)
        have ho : h2 o = _ := (hne3 o n2).trans ho
        refine pb_iload (pc2 := 36) dX10_paint_34 rfl rfl ?_
        refine pb_sipush (x := nI 1000) (pc2 := 39) dX10_paint_36 (by decide) rfl ?_
        refine pb_aload_n (pc2 := 40) dX10_paint_39 rfl rfl rfl ?_
        refine pb_getf (pc2 := 43) flX10_28_X10 rfl dX10_paint_40 (by first | assumption | exact hR.a rfl | exact hR.o | exact hC.o | exact hC.pal | exact hC.tub | exact hC.k _ _ rfl | exact hC.pot _ (by omega) | exact hC.are _ (by omega) | exact hC.arl _ (by omega) | exact hC.tbo _ (by omega) (by omega)) rfl rfl ?_
        refine pb_isubN (pc2 := 44) dX10_paint_43 (by omega) rfl ?_
        refine pb_imulN (pc2 := 45) dX10_paint_44 rfl ?_
        refine pb_sipush (x := nI 1000) (pc2 := 48) dX10_paint_45 (by decide) rfl ?_
        refine pb_idivN (pc2 := 49) dX10_paint_48 (by omega) (by omega) (by omega) rfl ?_
        refine pb_istore (lv2 := [_, _, _, _, _, _]) (pc2 := 51) dX10_paint_49 (by decide) rfl rfl ?_
        refine pb_iincP (c0 := 1) (lv2 := [_, _, _, _, _, _]) (pc2 := 54) dX10_paint_51 rfl (by decide) rfl rfl ?_
        refine pb_goto (tgt := 13) dX10_paint_54 (by decide) ?_
        refine ih (i + 1) _ _ (by omega) (by omega) hd (fun j hj => ?_) (fun x x1 => (hne3 x x1).trans (hne2 x x1))
        by_cases e : j = b * 100 + i
        · rw [e, pb_un_self, if_pos ⟨by omega, by omega⟩, show (b * 100 + i) % 100 = i by omega]
        · rw [pb_un_ne _ _ e, hD j hj]
          by_cases e2 : j / 100 = b ∧ j % 100 < i
          · rw [if_pos e2, if_pos ⟨e2.1, by omega⟩]
          · rw [if_neg e2, if_neg (fun z => e2 ⟨z.1, by omega⟩)]
  refine pb_iload_n (pc2 := 8) dX10_paint_7 rfl rfl rfl ?_
  refine pb_istore (lv2 := [_, _, _, _, _, _]) (pc2 := 10) dX10_paint_8 (by decide) rfl rfl ?_
  refine pb_iconst (x := nI 0) (pc2 := 11) dX10_paint_10 (by decide) rfl ?_
  refine pb_istore (lv2 := [_, _, _, _, _, _]) (pc2 := 13) dX10_paint_11 (by decide) rfl rfl ?_
  exact loop 101 0 D h1 (by omega) (by omega) hd (fun j hj => by rw [if_neg (by omega)]) (fun _ _ => rfl)
theorem t_of {m r tot i : Nat} {F : Nat → Nat} (hm : h m = some (.inr (.inr (6, cMx r tot)))) (hr : h r = some (.inl (0, 12, fun j => nI (F j)))) (hi : i < 12) : pb_T Z mX6_of 0 0 0 [.ref m, .int (nI i)] h (pb_E (some (.int (nI (F i)))) h) := by
  refine pb_T.of pnX6_of (Nat.le_of_ble_eq_true rfl) (lv := [some (.ref m), some (.int (nI i))]) rfl ?_
  refine pb_aload_n (pc2 := 1) dX6_of_0 rfl rfl rfl ?_
  refine pb_getf (pc2 := 4) flX6_9_X6 rfl dX6_of_1 (by first | assumption | exact hR.a rfl | exact hR.o | exact hC.o | exact hC.pal | exact hC.tub | exact hC.k _ _ rfl | exact hC.pot _ (by omega) | exact hC.are _ (by omega) | exact hC.arl _ (by omega) | exact hC.tbo _ (by omega) (by omega)) rfl rfl ?_
  refine pb_iload_n (pc2 := 5) dX6_of_4 rfl rfl rfl ?_
  refine pb_iald (pc2 := 6) (by first | assumption | exact hR.a rfl | exact hR.o | exact hC.o | exact hC.pal | exact hC.tub | exact hC.k _ _ rfl | exact hC.pot _ (by omega) | exact hC.are _ (by omega) | exact hC.arl _ (by omega) | exact hC.tbo _ (by omega) (by omega)) ⟨by decide, rfl⟩ dX6_of_5 (by omega) (by omega) rfl ?_
  exact pb_ireturn dX6_of_6 rfl (⟨rfl, rfl⟩)
theorem t_madd {m r tot i n : Nat} {F : Nat → Nat} (hm : h m = some (.inr (.inr (6, cMx r tot)))) (hr : h r = some (.inl (0, 12, fun j => nI (F j)))) (hi : i < 12) (hne : m ≠ r ∧ 2 ≤ m ∧ 2 ≤ r) : pb_T Z mX6_add 0 0 0 [.ref m, .int (nI i), .int (nI n)] h (fun v h' => v = none ∧ h' m = some (.inr (.inr (6, cMx r (tot + n)))) ∧ h' r = some (.inl (0, 12, fun j => nI (pb_un F i (F i + n) j))) ∧ ∀ b, b ≠ m → b ≠ r → h' b = h b) := by
  obtain ⟨n1, n2, n3⟩ := hne
  refine pb_T.of pnX6_add (Nat.le_of_ble_eq_true rfl) (lv := [some (.ref m), some (.int (nI i)), some (.int (nI n))]) rfl ?_
  refine pb_aload_n (pc2 := 1) dX6_add_0 rfl rfl rfl ?_
  refine pb_getf (pc2 := 4) flX6_9_X6 rfl dX6_add_1 (by first | assumption | exact hR.a rfl | exact hR.o | exact hC.o | exact hC.pal | exact hC.tub | exact hC.k _ _ rfl | exact hC.pot _ (by omega) | exact hC.are _ (by omega) | exact hC.arl _ (by omega) | exact hC.tbo _ (by omega) (by omega)) rfl rfl ?_
  refine pb_iload_n (pc2 := 5) dX6_add_4 rfl rfl rfl ?_
  refine pb_dup2 (pc2 := 6) dX6_add_5 rfl rfl rfl ?_
  refine pb_iald (pc2 := 7) (by first | assumption | exact hR.a rfl | exact hR.o | exact hC.o | exact hC.pal | exact hC.tub | exact hC.k _ _ rfl | exact hC.pot _ (by omega) | exact hC.are _ (by omega) | exact hC.arl _ (by omega) | exact hC.tbo _ (by omega) (by omega)) ⟨by decide, rfl⟩ dX6_add_6 (by omega) (by omega) rfl ?_
  refine pb_iload_n (pc2 := 8) dX6_add_7 rfl rfl rfl ?_
  refine pb_iaddN (pc2 := 9) dX6_add_8 rfl ?_
  refine pb_iastG (pc2 := 10) hr dX6_add_9 n3 hi (by omega) rfl (fun h1 hr hne1 => ?_)
  have hm : h1 m = _ := (hne1 m n1).trans hm
  refine pb_aload_n (pc2 := 11) dX6_add_10 rfl rfl rfl ?_
  refine pb_dup (pc2 := 12) dX6_add_11 rfl rfl ?_
  refine pb_getf (pc2 := 15) flX6_15_X6 rfl dX6_add_12 (by first | assumption | exact hR.a rfl | exact hR.o | exact hC.o | exact hC.pal | exact hC.tub | exact hC.k _ _ rfl | exact hC.pot _ (by omega) | exact hC.are _ (by omega) | exact hC.arl _ (by omega) | exact hC.tbo _ (by omega) (by omega)) rfl rfl ?_
  refine pb_iload_n (pc2 := 16) dX6_add_15 rfl rfl rfl ?_
  refine pb_iaddN (pc2 := 17) dX6_add_16 rfl ?_
  refine pb_putG (pc2 := 20) flX6_15_X6 rfl dX6_add_17 hm n2 rfl rfl rfl rfl rfl (fun h2 hm hne2 => ?_)
  exact pb_return dX6_add_20 rfl (⟨rfl, hm, (hne2 r (Ne.symm n1)).trans hr, fun b b1 b2 => (hne2 b b1).trans (hne1 b b2)⟩)
set_option maxRecDepth 10000 in
theorem t_maddAll {m r tot o ro to : Nat} {F G : Nat → Nat} (hm : h m = some (.inr (.inr (6, cMx r tot)))) (hr : h r = some (.inl (0, 12, fun j => nI (F j)))) (ho : h o = some (.inr (.inr (6, cMx ro to)))) (hro : h ro = some (.inl (0, 12, fun j => nI (G j)))) (hne : m ≠ r ∧ 2 ≤ m ∧ 2 ≤ r ∧ o ≠ m ∧ o ≠ r ∧ ro ≠ m ∧ ro ≠ r) : pb_T Z mX6_addAll 1 0 0 [.ref m, .ref o] h (fun v h' => v = none ∧ h' m = some (.inr (.inr (6, cMx r (tot + pb_sum 12 G)))) ∧ cRow 12 (fun j => F j + G j) (h' r) ∧ ∀ b, b ≠ m → b ≠ r → h' b = h b) := by
  obtain ⟨n1, n2, n3, n4, n5, n6, n7⟩ := hne
  refine pb_T.of pnX6_addAll (Nat.le_of_ble_eq_true rfl) (lv := [some (.ref m), some (.ref o), none]) rfl ?_
  have loop : ∀ (q i : Nat) (F' : Nat → Nat) (h' : pb_H), 12 - i < q → i ≤ 12 → h' m = some (.inr (.inr (6, cMx r (tot + pb_sum i G)))) → h' r = some (.inl (0, 12, fun j => nI (F' j))) → (∀ j, j < 12 → F' j = if j < i then F j + G j else F j) → (∀ b, b ≠ m → b ≠ r → h' b = h b) → pb_S Z mX6_addAll 1 0 0 (fun v h' => v = none ∧ h' m = some (.inr (.inr (6, cMx r (tot + pb_sum 12 G)))) ∧ cRow 12 (fun j => F j + G j) (h' r) ∧ ∀ b, b ≠ m → b ≠ r → h' b = h b) 2 [some (.ref m), some (.ref o), some (.int (nI i))] [] h' := by
    intro q
    induction q with
    | zero => intro i F' h' g1; omega
    | succ q ih =>
      intro i F' h' g1 g2 hm hr hF hne
      have ho : h' o = _ := (hne o n4 n5).trans ho
      have hro : h' ro = _ := (hne ro n6 n7).trans hro
      refine pb_iload_n (pc2 := 3) dX6_addAll_2 rfl rfl rfl ?_
      refine pb_bipush (x := nI 12) (pc2 := 5) dX6_addAll_3 (by decide) rfl ?_
      refine pb_icmpN_ge (tgt := 25) (pc2 := 8) dX6_addAll_5 (by decide) rfl (by omega) (by omega) (fun c => ?_) (fun c => ?_)
      · have e : i = 12 := by omega
        subst e
        exact pb_return dX6_addAll_25 rfl (⟨rfl, hm, ⟨F', hr, fun j hj => by rw [hF j hj, if_pos hj]⟩, hne⟩)
      · refine pb_aload_n (pc2 := 9) dX6_addAll_8 rfl rfl rfl ?_
        refine pb_iload_n (pc2 := 10) dX6_addAll_9 rfl rfl rfl ?_
        refine pb_aload_n (pc2 := 11) dX6_addAll_10 rfl rfl rfl ?_
        refine pb_getf (pc2 := 14) flX6_9_X6 rfl dX6_addAll_11 (by first | assumption | exact hR.a rfl | exact hR.o | exact hC.o | exact hC.pal | exact hC.tub | exact hC.k _ _ rfl | exact hC.pot _ (by omega) | exact hC.are _ (by omega) | exact hC.arl _ (by omega) | exact hC.tbo _ (by omega) (by omega)) rfl rfl ?_
        refine pb_iload_n (pc2 := 15) dX6_addAll_14 rfl rfl rfl ?_
        refine pb_iald (pc2 := 16) (by first | assumption | exact hR.a rfl | exact hR.o | exact hC.o | exact hC.pal | exact hC.tub | exact hC.k _ _ rfl | exact hC.pot _ (by omega) | exact hC.are _ (by omega) | exact hC.arl _ (by omega) | exact hC.tbo _ (by omega) (by omega)) ⟨by decide, rfl⟩ dX6_addAll_15 (by omega) (by omega) rfl ?_
        refine pb_callV (pc2 := 19) (k2 := 0) (n2 := 0) mwX6_add pb_cl6.1 iwX6_add seX6_add rfl mlX6_19 dX6_addAll_16 (by first | assumption | exact hR.a rfl | exact hR.o | exact hC.o | exact hC.pal | exact hC.tub | exact hC.k _ _ rfl | exact hC.pot _ (by omega) | exact hC.are _ (by omega) | exact hC.arl _ (by omega) | exact hC.tbo _ (by omega) (by omega)) (t_madd hm hr c ⟨n1, n2, n3⟩) (by omega) (by omega) (by omega) rfl rfl (Nat.le_of_ble_eq_true rfl) rfl (fun v h2 q2 _ => ?_)
        obtain ⟨rfl, hm, hr, hne2⟩ := q2
        refine pb_iincP (c0 := 1) (lv2 := [_, _, _]) (pc2 := 22) dX6_addAll_19 rfl (by decide) rfl rfl ?_
        refine pb_goto (tgt := 2) dX6_addAll_22 (by decide) ?_
        refine ih (i + 1) _ h2 (by omega) (by omega) (by rw [hm, Nat.add_assoc]; rfl) hr (fun j hj => ?_) (fun b b1 b2 => (hne2 b b1 b2).trans (hne b b1 b2))
        by_cases e : j = i
        · rw [e, pb_un_self, hF i (by omega), if_neg (by omega), if_pos (by omega)]
        · rw [pb_un_ne _ _ e, hF j hj]
          by_cases e2 : j < i
          · rw [if_pos e2, if_pos (by omega)]
          · rw [if_neg e2, if_neg (by omega)]
  refine pb_iconst (x := nI 0) (pc2 := 1) dX6_addAll_0 (by decide) rfl ?_
  refine pb_istore_n (lv2 := [_, _, _]) (pc2 := 2) dX6_addAll_1 rfl (by decide) rfl rfl ?_
  exact loop 13 0 F h (by omega) (by omega) hm hr (fun j hj => by rw [if_neg (by omega)]) (fun _ _ _ => rfl)
theorem t_makeEmpty {m r tot : Nat} {F : Nat → Nat} (hm : h m = some (.inr (.inr (6, cMx r tot)))) (hr : h r = some (.inl (0, 12, fun j => nI (F j)))) (hne : m ≠ r ∧ 2 ≤ m ∧ 2 ≤ r) : pb_T Z mX6_makeEmpty 1 0 0 [.ref m] h (fun v h' => v = none ∧ h' m = some (.inr (.inr (6, cMx r 0))) ∧ cRow 12 (fun _ => 0) (h' r) ∧ ∀ b, b ≠ m → b ≠ r → h' b = h b) := by
  obtain ⟨n1, n2, n3⟩ := hne
  refine pb_T.of pnX6_makeEmpty (Nat.le_of_ble_eq_true rfl) (lv := [some (.ref m)]) rfl ?_
  refine pb_aload_n (pc2 := 1) dX6_makeEmpty_0 rfl rfl rfl ?_
  refine pb_getf (pc2 := 4) flX6_9_X6 rfl dX6_makeEmpty_1 (by first | assumption | exact hR.a rfl | exact hR.o | exact hC.o | exact hC.pal | exact hC.tub | exact hC.k _ _ rfl | exact hC.pot _ (by omega) | exact hC.are _ (by omega) | exact hC.arl _ (by omega) | exact hC.tbo _ (by omega) (by omega)) rfl rfl ?_
  refine pb_iconst (x := nI 0) (pc2 := 5) dX6_makeEmpty_4 (by decide) rfl ?_
  refine pb_callS (pc2 := 8) (k2 := 0) (n2 := 0) mwJ7_fill_53178 swJ7_fill_53178 rfl mlX6_23 dX6_makeEmpty_5 (t_fill (c := 0) (n := 12) ⟨F, hr⟩ n3 (by omega)) (by omega) (by omega) (by omega) rfl rfl (Nat.le_of_ble_eq_true rfl) rfl (pb_kW (fun h1 G hr hG hne1 => ?_))
  have hm : h1 m = _ := (hne1 m n1).trans hm
  refine pb_aload_n (pc2 := 9) dX6_makeEmpty_8 rfl rfl rfl ?_
  refine pb_iconst (x := nI 0) (pc2 := 10) dX6_makeEmpty_9 (by decide) rfl ?_
  refine pb_putG (pc2 := 13) flX6_15_X6 rfl dX6_makeEmpty_10 hm n2 rfl rfl rfl rfl rfl (fun h2 hm hne2 => ?_)
  exact pb_return dX6_makeEmpty_13 rfl (⟨rfl, hm, ⟨G, (hne2 r (Ne.symm n1)).trans hr, hG⟩, fun b b1 b2 => (hne2 b b1).trans (hne1 b b2)⟩)
set_option maxRecDepth 10000 in
theorem t_drink (w : pb_WF A) (hC : pb_CF A h0 h) {m r tot b y : Nat} {P : Nat → Nat} (hm : h m = some (.inr (.inr (6, cMx r tot)))) (hr : cRow 12 P (h r)) (hP : ∀ j, j < 12 → P j ≤ 999) (hb : b < 8) (hy : y < 100) : pb_T Z mX6_drink 1 0 0 [.ref m, .ref 61, .int (nI b), .int (nI y)] h (pb_E (some (.int (nI (pb_dk A P b y)))) h) := by
  have htt := w.tubes
  obtain ⟨F, hr, hF⟩ := hr
  refine pb_T.of pnX6_drink (Nat.le_of_ble_eq_true rfl) (lv := [some (.ref m), some (.ref 61), some (.int (nI b)), some (.int (nI y)), none, none]) rfl ?_
  have loop : ∀ (q t : Nat), A 1 0 - t < q → t ≤ A 1 0 → pb_S Z mX6_drink 1 0 0 (pb_E (some (.int (nI (pb_dk A P b y)))) h) 6 [some (.ref m), some (.ref 61), some (.int (nI b)), some (.int (nI y)), some (.int (nI (pb_sum t (fun t => P t * pb_fade (A 3 t) (A 7 (8 * t + b)) y)))), some (.int (nI t))] [] h := by
    intro q
    induction q with
    | zero => intro t g1; omega
    | succ q ih =>
      intro t g1 g2
      refine pb_iload (pc2 := 8) dX6_drink_6 rfl rfl ?_
      refine pb_aload_n (pc2 := 9) dX6_drink_8 rfl rfl rfl ?_
      refine pb_getf (pc2 := 12) flX6_29_X8 rfl dX6_drink_9 (by first | assumption | exact hR.a rfl | exact hR.o | exact hC.o | exact hC.pal | exact hC.tub | exact hC.k _ _ rfl | exact hC.pot _ (by omega) | exact hC.are _ (by omega) | exact hC.arl _ (by omega) | exact hC.tbo _ (by omega) (by omega)) rfl rfl ?_
      refine pb_icmpN_ge (tgt := 56) (pc2 := 15) dX6_drink_12 (by decide) rfl (by omega) (by omega) (fun c => ?_) (fun c => ?_)
      · have e : t = A 1 0 := by omega
        subst e
        refine pb_iload (pc2 := 58) dX6_drink_56 rfl rfl ?_
        exact pb_ireturn dX6_drink_58 rfl (⟨rfl, rfl⟩)
      · have hFt := hF t (by omega)
        have hPt := hP t (by omega)
        refine pb_aload_n (pc2 := 16) dX6_drink_15 rfl rfl rfl ?_
        refine pb_getf (pc2 := 19) flX6_9_X6 rfl dX6_drink_16 (by first | assumption | exact hR.a rfl | exact hR.o | exact hC.o | exact hC.pal | exact hC.tub | exact hC.k _ _ rfl | exact hC.pot _ (by omega) | exact hC.are _ (by omega) | exact hC.arl _ (by omega) | exact hC.tbo _ (by omega) (by omega)) rfl rfl ?_
        refine pb_iload (pc2 := 21) dX6_drink_19 rfl rfl ?_
        refine pb_iald (pc2 := 22) (by first | assumption | exact hR.a rfl | exact hR.o | exact hC.o | exact hC.pal | exact hC.tub | exact hC.k _ _ rfl | exact hC.pot _ (by omega) | exact hC.are _ (by omega) | exact hC.arl _ (by omega) | exact hC.tbo _ (by omega) (by omega)) ⟨by decide, rfl⟩ dX6_drink_21 (by omega) (by omega) rfl ?_
        refine pb_ifN_le (tgt := 50) (pc2 := 25) dX6_drink_22 (by decide) rfl (by omega) (fun c2 => ?_) (fun c2 => ?_)
        · have s1 : pb_sum (t + 1) (fun t => P t * pb_fade (A 3 t) (A 7 (8 * t + b)) y) = pb_sum t (fun t => P t * pb_fade (A 3 t) (A 7 (8 * t + b)) y) := by
            show _ + P t * _ = _
            rw [← hFt, c2, Nat.zero_mul]; rfl
          refine pb_iincP (c0 := 1) (lv2 := [_, _, _, _, _, _]) (pc2 := 53) dX6_drink_50 rfl (by decide) rfl rfl ?_
          refine pb_goto (tgt := 6) dX6_drink_53 (by decide) ?_
          rw [← s1]
          exact ih (t + 1) (by omega) (by omega)
        · refine pb_iload (pc2 := 27) dX6_drink_25 rfl rfl ?_
          refine pb_aload_n (pc2 := 28) dX6_drink_27 rfl rfl rfl ?_
          refine pb_getf (pc2 := 31) flX6_9_X6 rfl dX6_drink_28 (by first | assumption | exact hR.a rfl | exact hR.o | exact hC.o | exact hC.pal | exact hC.tub | exact hC.k _ _ rfl | exact hC.pot _ (by omega) | exact hC.are _ (by omega) | exact hC.arl _ (by omega) | exact hC.tbo _ (by omega) (by omega)) rfl rfl ?_
          refine pb_iload (pc2 := 33) dX6_drink_31 rfl rfl ?_
          refine pb_iald (pc2 := 34) (by first | assumption | exact hR.a rfl | exact hR.o | exact hC.o | exact hC.pal | exact hC.tub | exact hC.k _ _ rfl | exact hC.pot _ (by omega) | exact hC.are _ (by omega) | exact hC.arl _ (by omega) | exact hC.tbo _ (by omega) (by omega)) ⟨by decide, rfl⟩ dX6_drink_33 (by omega) (by omega) rfl ?_
          refine pb_aload_n (pc2 := 35) dX6_drink_34 rfl rfl rfl ?_
          refine pb_getN (pc2 := 38) pb_cl7 (by decide) fnX6_34 rfl dX6_drink_35 (by first | assumption | exact hR.a rfl | exact hR.o | exact hC.o | exact hC.pal | exact hC.tub | exact hC.k _ _ rfl | exact hC.pot _ (by omega) | exact hC.are _ (by omega) | exact hC.arl _ (by omega) | exact hC.tbo _ (by omega) (by omega)) rfl rfl ?_
          refine pb_iload (pc2 := 40) dX6_drink_38 rfl rfl ?_
          refine pb_aald (pc2 := 41) (by first | assumption | exact hR.a rfl | exact hR.o | exact hC.o | exact hC.pal | exact hC.tub | exact hC.k _ _ rfl | exact hC.pot _ (by omega) | exact hC.are _ (by omega) | exact hC.arl _ (by omega) | exact hC.tbo _ (by omega) (by omega)) dX6_drink_40 (by decide) (by omega) (by omega) (cTo_at (by omega)) rfl ?_
          refine pb_iload_n (pc2 := 42) dX6_drink_41 rfl rfl rfl ?_
          refine pb_iload_n (pc2 := 43) dX6_drink_42 rfl rfl rfl ?_
          refine pb_callV (pc2 := 46) (k2 := 0) (n2 := 0) mwX10_drinkAfter pb_cl8.1 iwX10_drinkAfter seX10_drinkAfter rfl mlX6_38 dX6_drink_43 (by first | assumption | exact hR.a rfl | exact hR.o | exact hC.o | exact hC.pal | exact hC.tub | exact hC.k _ _ rfl | exact hC.pot _ (by omega) | exact hC.are _ (by omega) | exact hC.arl _ (by omega) | exact hC.tbo _ (by omega) (by omega)) (t_drinkAfter hC c (by omega) hb hy) (by omega) (by omega) (by omega) rfl rfl (Nat.le_of_ble_eq_true rfl) rfl (pb_kE ?_)
          refine pb_imulN (pc2 := 47) dX6_drink_46 rfl ?_
          refine pb_iaddN (pc2 := 48) dX6_drink_47 rfl ?_
          refine pb_top (v2 := .int (nI (pb_sum (t + 1) (fun t => P t * pb_fade (A 3 t) (A 7 (8 * t + b)) y)))) (by rw [hFt]; rfl) ?_
          refine pb_istore (lv2 := [_, _, _, _, _, _]) (pc2 := 50) dX6_drink_48 (by decide) rfl rfl ?_
          refine pb_iincP (c0 := 1) (lv2 := [_, _, _, _, _, _]) (pc2 := 53) dX6_drink_50 rfl (by decide) rfl rfl ?_
          refine pb_goto (tgt := 6) dX6_drink_53 (by decide) ?_
          exact ih (t + 1) (by omega) (by omega)
  refine pb_iconst (x := nI 0) (pc2 := 1) dX6_drink_0 (by decide) rfl ?_
  refine pb_istore (lv2 := [_, _, _, _, _, _]) (pc2 := 3) dX6_drink_1 (by decide) rfl rfl ?_
  refine pb_iconst (x := nI 0) (pc2 := 4) dX6_drink_3 (by decide) rfl ?_
  refine pb_istore (lv2 := [_, _, _, _, _, _]) (pc2 := 6) dX6_drink_4 (by decide) rfl rfl ?_
  exact loop (A 1 0 + 1) 0 (by omega) (by omega)
set_option maxRecDepth 10000 in
theorem t_scatter (w : pb_WF A) (hC : pb_CF A h0 h) {m r tot b : Nat} {P : Nat → Nat} (hm : h m = some (.inr (.inr (6, cMx r tot)))) (hr : cRow 12 P (h r)) (hP : ∀ j, j < 12 → P j ≤ 999) (hb : b < 8) : pb_T Z mX6_scatter 1 0 0 [.ref m, .ref 61, .int (nI b)] h (pb_E (some (.int (nI (pb_sc A P b)))) h) := by
  have htt := w.tubes
  obtain ⟨F, hr, hF⟩ := hr
  refine pb_T.of pnX6_scatter (Nat.le_of_ble_eq_true rfl) (lv := [some (.ref m), some (.ref 61), some (.int (nI b)), none, none]) rfl ?_
  have loop : ∀ (q t : Nat), A 1 0 - t < q → t ≤ A 1 0 → pb_S Z mX6_scatter 1 0 0 (pb_E (some (.int (nI (pb_sc A P b)))) h) 5 [some (.ref m), some (.ref 61), some (.int (nI b)), some (.int (nI (pb_sum t (fun t => P t * A 8 (8 * t + b))))), some (.int (nI t))] [] h := by
    intro q
    induction q with
    | zero => intro t g1; omega
    | succ q ih =>
      intro t g1 g2
      refine pb_iload (pc2 := 7) dX6_scatter_5 rfl rfl ?_
      refine pb_aload_n (pc2 := 8) dX6_scatter_7 rfl rfl rfl ?_
      refine pb_getf (pc2 := 11) flX6_29_X8 rfl dX6_scatter_8 (by first | assumption | exact hR.a rfl | exact hR.o | exact hC.o | exact hC.pal | exact hC.tub | exact hC.k _ _ rfl | exact hC.pot _ (by omega) | exact hC.are _ (by omega) | exact hC.arl _ (by omega) | exact hC.tbo _ (by omega) (by omega)) rfl rfl ?_
      refine pb_icmpN_ge (tgt := 52) (pc2 := 14) dX6_scatter_11 (by decide) rfl (by omega) (by omega) (fun c => ?_) (fun c => ?_)
      · have e : t = A 1 0 := by omega
        subst e
        refine pb_iload_n (pc2 := 53) dX6_scatter_52 rfl rfl rfl ?_
        exact pb_ireturn dX6_scatter_53 rfl (⟨rfl, rfl⟩)
      · have hFt := hF t (by omega)
        have hPt := hP t (by omega)
        refine pb_aload_n (pc2 := 15) dX6_scatter_14 rfl rfl rfl ?_
        refine pb_getf (pc2 := 18) flX6_9_X6 rfl dX6_scatter_15 (by first | assumption | exact hR.a rfl | exact hR.o | exact hC.o | exact hC.pal | exact hC.tub | exact hC.k _ _ rfl | exact hC.pot _ (by omega) | exact hC.are _ (by omega) | exact hC.arl _ (by omega) | exact hC.tbo _ (by omega) (by omega)) rfl rfl ?_
        refine pb_iload (pc2 := 20) dX6_scatter_18 rfl rfl ?_
        refine pb_iald (pc2 := 21) (by first | assumption | exact hR.a rfl | exact hR.o | exact hC.o | exact hC.pal | exact hC.tub | exact hC.k _ _ rfl | exact hC.pot _ (by omega) | exact hC.are _ (by omega) | exact hC.arl _ (by omega) | exact hC.tbo _ (by omega) (by omega)) ⟨by decide, rfl⟩ dX6_scatter_20 (by omega) (by omega) rfl ?_
        refine pb_ifN_le (tgt := 46) (pc2 := 24) dX6_scatter_21 (by decide) rfl (by omega) (fun c2 => ?_) (fun c2 => ?_)
        · have s1 : pb_sum (t + 1) (fun t => P t * A 8 (8 * t + b)) = pb_sum t (fun t => P t * A 8 (8 * t + b)) := by
            show _ + P t * _ = _
            rw [← hFt, c2, Nat.zero_mul]; rfl
          refine pb_iincP (c0 := 1) (lv2 := [_, _, _, _, _]) (pc2 := 49) dX6_scatter_46 rfl (by decide) rfl rfl ?_
          refine pb_goto (tgt := 5) dX6_scatter_49 (by decide) ?_
          rw [← s1]
          exact ih (t + 1) (by omega) (by omega)
        · refine pb_iload_n (pc2 := 25) dX6_scatter_24 rfl rfl rfl ?_
          refine pb_aload_n (pc2 := 26) dX6_scatter_25 rfl rfl rfl ?_
          refine pb_getf (pc2 := 29) flX6_9_X6 rfl dX6_scatter_26 (by first | assumption | exact hR.a rfl | exact hR.o | exact hC.o | exact hC.pal | exact hC.tub | exact hC.k _ _ rfl | exact hC.pot _ (by omega) | exact hC.are _ (by omega) | exact hC.arl _ (by omega) | exact hC.tbo _ (by omega) (by omega)) rfl rfl ?_
          refine pb_iload (pc2 := 31) dX6_scatter_29 rfl rfl ?_
          refine pb_iald (pc2 := 32) (by first | assumption | exact hR.a rfl | exact hR.o | exact hC.o | exact hC.pal | exact hC.tub | exact hC.k _ _ rfl | exact hC.pot _ (by omega) | exact hC.are _ (by omega) | exact hC.arl _ (by omega) | exact hC.tbo _ (by omega) (by omega)) ⟨by decide, rfl⟩ dX6_scatter_31 (by omega) (by omega) rfl ?_
          refine pb_aload_n (pc2 := 33) dX6_scatter_32 rfl rfl rfl ?_
          refine pb_getN (pc2 := 36) pb_cl7 (by decide) fnX6_34 rfl dX6_scatter_33 (by first | assumption | exact hR.a rfl | exact hR.o | exact hC.o | exact hC.pal | exact hC.tub | exact hC.k _ _ rfl | exact hC.pot _ (by omega) | exact hC.are _ (by omega) | exact hC.arl _ (by omega) | exact hC.tbo _ (by omega) (by omega)) rfl rfl ?_
          refine pb_iload (pc2 := 38) dX6_scatter_36 rfl rfl ?_
          refine pb_aald (pc2 := 39) (by first | assumption | exact hR.a rfl | exact hR.o | exact hC.o | exact hC.pal | exact hC.tub | exact hC.k _ _ rfl | exact hC.pot _ (by omega) | exact hC.are _ (by omega) | exact hC.arl _ (by omega) | exact hC.tbo _ (by omega) (by omega)) dX6_scatter_38 (by decide) (by omega) (by omega) (cTo_at (by omega)) rfl ?_
          refine pb_iload_n (pc2 := 40) dX6_scatter_39 rfl rfl rfl ?_
          refine pb_callV (pc2 := 43) (k2 := 0) (n2 := 0) mwX10_scatterOf pb_cl8.1 iwX10_scatterOf seX10_scatterOf rfl mlX6_44 dX6_scatter_40 (by first | assumption | exact hR.a rfl | exact hR.o | exact hC.o | exact hC.pal | exact hC.tub | exact hC.k _ _ rfl | exact hC.pot _ (by omega) | exact hC.are _ (by omega) | exact hC.arl _ (by omega) | exact hC.tbo _ (by omega) (by omega)) (t_scatterOf hC c (by omega) hb) (by omega) (by omega) (by omega) rfl rfl (Nat.le_of_ble_eq_true rfl) rfl (pb_kE ?_)
          refine pb_imulN (pc2 := 44) dX6_scatter_43 rfl ?_
          refine pb_iaddN (pc2 := 45) dX6_scatter_44 rfl ?_
          refine pb_top (v2 := .int (nI (pb_sum (t + 1) (fun t => P t * A 8 (8 * t + b))))) (by rw [hFt]; rfl) ?_
          refine pb_istore_n (lv2 := [_, _, _, _, _]) (pc2 := 46) dX6_scatter_45 rfl (by decide) rfl rfl ?_
          refine pb_iincP (c0 := 1) (lv2 := [_, _, _, _, _]) (pc2 := 49) dX6_scatter_46 rfl (by decide) rfl rfl ?_
          refine pb_goto (tgt := 5) dX6_scatter_49 (by decide) ?_
          exact ih (t + 1) (by omega) (by omega)
  refine pb_iconst (x := nI 0) (pc2 := 1) dX6_scatter_0 (by decide) rfl ?_
  refine pb_istore_n (lv2 := [_, _, _, _, _]) (pc2 := 2) dX6_scatter_1 rfl (by decide) rfl rfl ?_
  refine pb_iconst (x := nI 0) (pc2 := 3) dX6_scatter_2 (by decide) rfl ?_
  refine pb_istore (lv2 := [_, _, _, _, _]) (pc2 := 5) dX6_scatter_3 (by decide) rfl rfl ?_
  exact loop (A 1 0 + 1) 0 (by omega) (by omega)
theorem t_sentThick (w : pb_WF A) (hC : pb_CF A h0 h) {m r tot b : Nat} {P : Nat → Nat} (hm : h m = some (.inr (.inr (6, cMx r tot)))) (hr : cRow 12 P (h r)) (hP : ∀ j, j < 12 → P j ≤ 999) (hb : b < 8) (hs : 0 < pb_sc A P b) (hs2 : pb_sc A P b < 2 ^ 31) (hk : pb_dk A P b 0 ≤ 999 * pb_sc A P b) (hk2 : pb_dk A P b 0 < 2 ^ 31) : pb_T Z mX6_sentThick 2 0 0 [.ref m, .ref 61, .int (nI b)] h (pb_E (some (.int (nI (pb_tl A P b)))) h) := by
  refine pb_T.of pnX6_sentThick (Nat.le_of_ble_eq_true rfl) (lv := [some (.ref m), some (.ref 61), some (.int (nI b))]) rfl ?_
  refine pb_aload_n (pc2 := 1) dX6_sentThick_0 rfl rfl rfl ?_
  refine pb_aload_n (pc2 := 2) dX6_sentThick_1 rfl rfl rfl ?_
  refine pb_iload_n (pc2 := 3) dX6_sentThick_2 rfl rfl rfl ?_
  refine pb_iconst (x := nI 0) (pc2 := 4) dX6_sentThick_3 (by decide) rfl ?_
  refine pb_callV (pc2 := 7) (k2 := 0) (n2 := 0) mwX6_drink pb_cl6.1 iwX6_drink seX6_drink rfl mlX6_48 dX6_sentThick_4 (by first | assumption | exact hR.a rfl | exact hR.o | exact hC.o | exact hC.pal | exact hC.tub | exact hC.k _ _ rfl | exact hC.pot _ (by omega) | exact hC.are _ (by omega) | exact hC.arl _ (by omega) | exact hC.tbo _ (by omega) (by omega)) (t_drink w hC hm hr hP hb (by omega)) (by omega) (by omega) (by omega) rfl rfl (Nat.le_of_ble_eq_true rfl) rfl (pb_kE ?_)
  refine pb_aload_n (pc2 := 8) dX6_sentThick_7 rfl rfl rfl ?_
  refine pb_aload_n (pc2 := 9) dX6_sentThick_8 rfl rfl rfl ?_
  refine pb_iload_n (pc2 := 10) dX6_sentThick_9 rfl rfl rfl ?_
  refine pb_callV (pc2 := 13) (k2 := 0) (n2 := 0) mwX6_scatter pb_cl6.1 iwX6_scatter seX6_scatter rfl mlX6_52 dX6_sentThick_10 (by first | assumption | exact hR.a rfl | exact hR.o | exact hC.o | exact hC.pal | exact hC.tub | exact hC.k _ _ rfl | exact hC.pot _ (by omega) | exact hC.are _ (by omega) | exact hC.arl _ (by omega) | exact hC.tbo _ (by omega) (by omega)) (t_scatter w hC hm hr hP hb) (by omega) (by omega) (by omega) rfl rfl (Nat.le_of_ble_eq_true rfl) rfl (pb_kE ?_)
  refine pb_callS (pc2 := 16) (k2 := 0) (n2 := 0) mwX7_thickSent swX7_thickSent rfl mlX6_56 dX6_sentThick_13 (t_thickSent hs hk hs2 hk2) (by omega) (by omega) (by omega) rfl rfl (Nat.le_of_ble_eq_true rfl) rfl (pb_kE ?_)
  exact pb_ireturn dX6_sentThick_16 rfl (⟨rfl, rfl⟩)
end PB29

