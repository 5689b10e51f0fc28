/-! THE SEARCH ITSELF -/
section PB40M
variable {Z : pb_Z} {h0 : pb_H} {A : pb_A}
theorem stM.s1 {A : pb_A} {σ : Nat × Nat × (Nat → Nat)} {sz k a n : Nat} {h0 h h' : pb_H} {G : Nat → Nat} (hST : stM A σ sz k h0 h) (e : cS a = some n) (ha : h' a = some (.inl (0, n, fun j => nI (G j)))) (nb : ∀ b, b ≠ a → h' b = h b) : stM A σ sz k h0 h' := by
  refine hST.g ((nb 68 (cS_ne e rfl).symm).trans hST.2.1) (fun b m eb => ?_) (fun x x1 x2 => nb x (fun z => by rw [z, e] at x1; cases x1))
  by_cases e2 : b = a
  · subst e2
    rw [e] at eb
    cases eb
    exact ⟨G, ha⟩
  · rw [nb b e2]; exact hST.1.s b m eb
theorem stM.s2 {A : pb_A} {σ : Nat × Nat × (Nat → Nat)} {sz k a a2 n n2 : Nat} {h0 h h' : pb_H} (hST : stM A σ sz k h0 h) (e : cS a = some n) (e2 : cS a2 = some n2) (ha : cScr n (h' a)) (ha2 : cScr n2 (h' a2)) (nb : ∀ b, b ≠ a → b ≠ a2 → h' b = h b) : stM A σ sz k h0 h' := by
  refine hST.g ((nb 68 (cS_ne e rfl).symm (cS_ne e2 rfl).symm).trans hST.2.1) (fun b m eb => ?_) (fun x x1 x2 => nb x (fun z => by rw [z, e] at x1; cases x1) (fun z => by rw [z, e2] at x1; cases x1))
  by_cases q : b = a
  · subst q
    rw [e] at eb
    cases eb
    exact ha
  · by_cases q2 : b = a2
    · subst q2
      rw [e2] at eb
      cases eb
      exact ha2
    · rw [nb b q q2]; exact hST.1.s b m eb
/-- a part of the search: from level lv on -/
def spCM (Z : pb_Z) (h0 : pb_H) (A : pb_A) (l sz N : Nat) (mem : Nat → Nat) (lv D : Nat) : Prop := ∀ (f n : Nat) (σ : Nat × Nat × (Nat → Nat)) (C M : Nat → Nat) (k0 : Nat) (h : pb_H), 1 ≤ n → stM A σ sz k0 h0 h → exM A h → sbM A l sz mem h → h 304 = some (.inl (0, 4, fun j => nI (C j))) → h 305 = some (.inl (0, 4, fun j => nI (M j))) → mlI sz C M lv f → pb_sum 12 (mxP mem C M lv) + n = N → cRow 8 (fun b => pb_dk A (mxP mem C M lv) b 0) (h (360 + lv)) → cRow 8 (fun b => pb_sc A (mxP mem C M lv) b) (h (364 + lv)) → pb_T Z mX9_spread D 0 0 [.ref 68, .ref 62, .int (nI lv), .int (nI f), .int (nI n)] h (fun v h' => v = none ∧ ∃ (k1 : Nat) (C' M' : Nat → Nat), stM A ((em_l mem (sz - f) f n (mxP mem C M lv)).foldl (sp_mst A l) σ) sz k1 h0 h' ∧ h' 304 = some (.inl (0, 4, fun j => nI (C' j))) ∧ h' 305 = some (.inl (0, 4, fun j => nI (M' j))) ∧ (∀ i, i < lv → C' i = C i ∧ M' i = M i) ∧ ∀ x, x ≠ 68 → x ≠ 304 → x ≠ 305 → x ≠ 308 → x ≠ 309 → (x ≤ 360 + lv ∨ 364 ≤ x) → (x ≤ 364 + lv ∨ 368 ≤ x) → h' x = h x)
set_option maxRecDepth 10000 in
theorem b_spreadM (w : pb_WF A) {l sz N lv D : Nat} {mem : Nat → Nat} (hl : l < 4) (hsz : sz ≤ 12) (hmm : mmI (A 1 0) sz mem) (hN : N ≤ 8) (hlv : lv < 4) (hD : 2 ≤ D) (hrec : lv + 1 < 4 → spCM Z h0 A l sz N mem (lv + 1) D) : spCM Z h0 A l sz N mem lv (D + 1) := by
  intro f n σ C M k0 h hn hST hX hS hc ha hli hsum hd hsc
  have htt := w.tubes
  generalize hσf : (em_l mem (sz - f) f n (mxP mem C M lv)).foldl (sp_mst A l) σ = σf
  have hfsz := hli.2.2.2
  have P0 := fun j (h1 : f ≤ j) (h2 : j < sz) => hli.z hmm h1 h2
  refine pb_T.of pnX9_spread (Nat.le_of_ble_eq_true rfl) (lv := [some (.ref 68), some (.ref 62), some (.int (nI lv)), some (.int (nI f)), some (.int (nI n)), none, none]) rfl ?_
  refine pb_iload_n (pc2 := 1) dX9_spread_0 rfl rfl rfl ?_
  refine pb_iconst (x := nI 4) (pc2 := 2) dX9_spread_1 (by decide) rfl ?_
  refine pb_icmpN_lt (tgt := 6) (pc2 := 5) dX9_spread_2 (by decide) rfl (by omega) (by omega) (fun _ => ?_) (fun q => by omega)
  have outer : ∀ (q m : Nat) (σ1 : Nat × Nat × (Nat → Nat)) (C1 M1 : Nat → Nat) (k1 : Nat) (h1 : pb_H) (o6 : Option Value), sz - m < q → f ≤ m → m ≤ sz → stM A σ1 sz k1 h0 h1 → h1 304 = some (.inl (0, 4, fun j => nI (C1 j))) → h1 305 = some (.inl (0, 4, fun j => nI (M1 j))) → (∀ i, i < lv → C1 i = C i ∧ M1 i = M i) → (∀ x, x ≠ 68 → x ≠ 304 → x ≠ 305 → x ≠ 308 → x ≠ 309 → (x ≤ 360 + lv ∨ 364 ≤ x) → (x ≤ 364 + lv ∨ 368 ≤ x) → h1 x = h x) → (em_l mem (sz - m) m n (mxP mem C M lv)).foldl (sp_mst A l) σ1 = σf → pb_S Z mX9_spread (D + 1) 0 0 (fun v h' => v = none ∧ ∃ (k1 : Nat) (C' M' : Nat → Nat), stM A σf sz k1 h0 h' ∧ h' 304 = some (.inl (0, 4, fun j => nI (C' j))) ∧ h' 305 = some (.inl (0, 4, fun j => nI (M' j))) ∧ (∀ i, i < lv → C' i = C i ∧ M' i = M i) ∧ ∀ x, x ≠ 68 → x ≠ 304 → x ≠ 305 → x ≠ 308 → x ≠ 309 → (x ≤ 360 + lv ∨ 364 ≤ x) → (x ≤ 364 + lv ∨ 368 ≤ x) → h' x = h x) 9 [some (.ref 68), some (.ref 62), some (.int (nI lv)), some (.int (nI f)), some (.int (nI n)), some (.int (nI m)), o6] [] h1 := by
    intro q
    induction q with
    | zero => intro m σ1 C1 M1 k1 h1 o6 g1; omega
    | succ q ih =>
      intro m σ1 C1 M1 k1 h1 o6 g1 g2 g3 hST hc ha hag nb hfold
      have ho := hST.2.1
      refine pb_iload (pc2 := 11) dX9_spread_9 rfl rfl ?_
      refine pb_aload_n (pc2 := 12) dX9_spread_11 rfl rfl rfl ?_
      refine pb_getf (pc2 := 15) flX9_26_X5 rfl dX9_spread_12 (by first | assumption | exact hR.a rfl | exact hR.o | exact hC.o | exact hC.pal | exact hC.tub | exact hC.k _ _ rfl | exact hC.pot _ (by omega) | exact hC.are _ (by omega) | exact hC.arl _ (by omega) | exact hC.tbo _ (by omega) (by omega)) rfl rfl ?_
      refine pb_icmpN_ge (tgt := 123) (pc2 := 18) dX9_spread_15 (by decide) rfl (by omega) (by omega) (fun c => ?_) (fun c => ?_)
      · have e : m = sz := by omega
        subst e
        rw [Nat.sub_self, em_e hn] at hfold
        have hfold : σ1 = σf := hfold
        subst hfold
        exact pb_return dX9_spread_123 rfl (⟨rfl, k1, C1, M1, hST, hc, ha, hag, nb⟩)
      · rw [show sz - m = (sz - (m + 1)) + 1 by omega, em_s hn, List.foldl_append, fl2_s hn, Nat.sub_self, em_0, List.foldl_append] at hfold
        have hfold : (em_l mem (sz - (m + 1)) (m + 1) n (mxP mem C M lv)).foldl (sp_mst A l) ((pb_fl2 (fun x => em_l mem (sz - (m + 1)) (m + 1) (n - x) (pb_un (mxP mem C M lv) (mem m) x)) (n - 1)).foldl (sp_mst A l) (sp_mst A l σ1 (pb_un (mxP mem C M lv) (mem m) n))) = σf := hfold
        -- on to the next member
        have nxt : ∀ (σ3 : Nat × Nat × (Nat → Nat)) (C3 M3 : Nat → Nat) (k3 : Nat) (h3 : pb_H) (o6 : Option Value), stM A σ3 sz k3 h0 h3 → h3 304 = some (.inl (0, 4, fun j => nI (C3 j))) → h3 305 = some (.inl (0, 4, fun j => nI (M3 j))) → (∀ i, i < lv → C3 i = C i ∧ M3 i = M i) → (∀ x, x ≠ 68 → x ≠ 304 → x ≠ 305 → x ≠ 308 → x ≠ 309 → (x ≤ 360 + lv ∨ 364 ≤ x) → (x ≤ 364 + lv ∨ 368 ≤ x) → h3 x = h x) → (em_l mem (sz - (m + 1)) (m + 1) n (mxP mem C M lv)).foldl (sp_mst A l) σ3 = σf → pb_S Z mX9_spread (D + 1) 0 0 (fun v h' => v = none ∧ ∃ (k1 : Nat) (C' M' : Nat → Nat), stM A σf sz k1 h0 h' ∧ h' 304 = some (.inl (0, 4, fun j => nI (C' j))) ∧ h' 305 = some (.inl (0, 4, fun j => nI (M' j))) ∧ (∀ i, i < lv → C' i = C i ∧ M' i = M i) ∧ ∀ x, x ≠ 68 → x ≠ 304 → x ≠ 305 → x ≠ 308 → x ≠ 309 → (x ≤ 360 + lv ∨ 364 ≤ x) → (x ≤ 364 + lv ∨ 368 ≤ x) → h' x = h x) 117 [some (.ref 68), some (.ref 62), some (.int (nI lv)), some (.int (nI f)), some (.int (nI n)), some (.int (nI m)), o6] [] h3 := by
          intro σ3 C3 M3 k3 h3 o6 hST hc ha hag nb hfold
          refine pb_iincP (c0 := 1) (lv2 := [_, _, _, _, _, _, _]) (pc2 := 120) dX9_spread_117 rfl (by decide) rfl rfl ?_
          refine pb_goto (tgt := 9) dX9_spread_120 (by decide) ?_
          exact ih (m + 1) σ3 C3 M3 k3 h3 o6 (by omega) (by omega) (by omega) hST hc ha hag nb hfold
        refine pb_aload_n (pc2 := 19) dX9_spread_18 rfl rfl rfl ?_
        refine pb_getf (pc2 := 22) flX9_30_X5 rfl dX9_spread_19 (by first | assumption | exact hR.a rfl | exact hR.o | exact hC.o | exact hC.pal | exact hC.tub | exact hC.k _ _ rfl | exact hC.pot _ (by omega) | exact hC.are _ (by omega) | exact hC.arl _ (by omega) | exact hC.tbo _ (by omega) (by omega)) rfl rfl ?_
        refine pb_iload_n (pc2 := 23) dX9_spread_22 rfl rfl rfl ?_
        refine pb_iload (pc2 := 25) dX9_spread_23 rfl rfl ?_
        refine pb_iastG (pc2 := 26) hc dX9_spread_25 (by omega) (by omega) (by omega) rfl (fun h2 hc n2 => ?_)
        have hST := hST.s1 (a := 304) rfl hc n2
        have ho := hST.2.1
        have ha := (n2 _ (by omega)).trans ha
        refine pb_aload_n (pc2 := 27) dX9_spread_26 rfl rfl rfl ?_
        refine pb_getf (pc2 := 30) flX9_33_X5 rfl dX9_spread_27 (by first | assumption | exact hR.a rfl | exact hR.o | exact hC.o | exact hC.pal | exact hC.tub | exact hC.k _ _ rfl | exact hC.pot _ (by omega) | exact hC.are _ (by omega) | exact hC.arl _ (by omega) | exact hC.tbo _ (by omega) (by omega)) rfl rfl ?_
        refine pb_iload_n (pc2 := 31) dX9_spread_30 rfl rfl rfl ?_
        refine pb_iload (pc2 := 33) dX9_spread_31 rfl rfl ?_
        refine pb_iastG (pc2 := 34) ha dX9_spread_33 (by omega) (by omega) (by omega) rfl (fun h3 ha n3 => ?_)
        have hST := hST.s1 (a := 305) rfl ha n3
        have ho := hST.2.1
        have hc := (n3 _ (by omega)).trans hc
        refine pb_aload_n (pc2 := 35) dX9_spread_34 rfl rfl rfl ?_
        refine pb_iload_n (pc2 := 36) dX9_spread_35 rfl rfl rfl ?_
        refine pb_putG (fs2 := [_, _, _, _, _, _, _, _, _, _, _, _, _, _, _, _]) (pc2 := 39) flX9_42_X5 rfl dX9_spread_36 ho (by omega) rfl rfl rfl rfl rfl (fun h_ ho n4 => ?_)
        have hc := (n4 _ (by omega)).trans hc
        have ha := (n4 _ (by omega)).trans ha
        have hST := hST.g (sz' := sz) (k' := lv) ho (fun a m e => by rw [n4 a (cS_ne e rfl)]; exact hST.1.s a m e) (fun x x1 x2 => n4 x x2)
        refine pb_aload_n (pc2 := 40) dX9_spread_39 rfl rfl rfl ?_
        refine pb_getf (pc2 := 43) flX9_45_X5 rfl dX9_spread_40 (by first | assumption | exact hR.a rfl | exact hR.o | exact hC.o | exact hC.pal | exact hC.tub | exact hC.k _ _ rfl | exact hC.pot _ (by omega) | exact hC.are _ (by omega) | exact hC.arl _ (by omega) | exact hC.tbo _ (by omega) (by omega)) rfl rfl ?_
        refine pb_iconst (x := -1) (pc2 := 44) dX9_spread_43 (by decide) rfl ?_
        refine pb_top (v2 := .int (nI 4294967295)) (by decide) ?_
        refine pb_callS (pc2 := 47) (k2 := 0) (n2 := 0) mwJ7_fill_53178 swJ7_fill_53178 rfl mlX9_75 dX9_spread_44 (t_fill (c := 4294967295) (n := 8) (hST.1.s 308 8 rfl) (by omega) (by omega)) (by omega) (by omega) (by omega) rfl rfl (Nat.le_of_ble_eq_true rfl) rfl (pb_kW (fun h5 G h308 hG n5 => ?_))
        have hST := hST.s1 (a := 308) rfl h308 n5
        have ho := hST.2.1
        have hc := (n5 _ (by omega)).trans hc
        have ha := (n5 _ (by omega)).trans ha
        have nb5 : ∀ x, x ≠ 68 → x ≠ 304 → x ≠ 305 → x ≠ 308 → x ≠ 309 → (x ≤ 360 + lv ∨ 364 ≤ x) → (x ≤ 364 + lv ∨ 368 ≤ x) → h5 x = h x := fun x x1 x2 x3 x4 x5 x6 x7 => (n5 x x4).trans ((n4 x x1).trans ((n3 x x3).trans ((n2 x x2).trans (nb x x1 x2 x3 x4 x5 x6 x7))))
        have eP : mxP mem (pb_un C1 lv m) (pb_un M1 lv n) lv = mxP mem C M lv := by
          rw [mxP_c (C := C1) (M := M1) lv (fun i hi => ⟨pb_un_ne _ _ (by omega), pb_un_ne _ _ (by omega)⟩), mxP_c lv hag]
        have eQ : mxP mem (pb_un C1 lv m) (pb_un M1 lv n) (lv + 1) = pb_un (mxP mem C M lv) (mem m) n := by
          rw [mx_up, mxP_c lv hag]
        have hli5 : mlI sz (pb_un C1 lv m) (pb_un M1 lv n) (lv + 1) (m + 1) := (hli.c hag).up g2 (by omega) hn
        have hli6 : mlI sz (pb_un C1 lv m) (pb_un M1 lv n) (lv + 1) sz := ⟨fun i hi => by have := hli5.1 i hi; omega, hli5.2.1, hli5.2.2.1, Nat.le_refl _⟩
        have hmT := hmm.2 m (by omega)
        have hsumQ : pb_sum 12 (mxP mem (pb_un C1 lv m) (pb_un M1 lv n) (lv + 1)) = N := by
          rw [eQ, pb_sum_un2 (by omega) (P0 m g2 (by omega))]; exact hsum
        have hS5 := hS.up hsz (fun x hx => nb5 x (by omega) (by omega) (by omega) (by omega) (by omega) (by omega) (by omega))
        have hX5 : exM A h5 := by
          unfold exM; rw [nb5 _ (by omega) (by omega) (by omega) (by omega) (by omega) (by omega) (by omega)]; exact hX
        have hd5 : cRow 8 (fun b => pb_dk A (mxP mem (pb_un C1 lv m) (pb_un M1 lv n) lv) b 0) (h5 (360 + lv)) := by
          rw [eP, nb5 _ (by omega) (by omega) (by omega) (by omega) (by omega) (by omega) (by omega)]; exact hd
        have hs5 : cRow 8 (fun b => pb_sc A (mxP mem (pb_un C1 lv m) (pb_un M1 lv n) lv) b) (h5 (364 + lv)) := by
          rw [eP, nb5 _ (by omega) (by omega) (by omega) (by omega) (by omega) (by omega) (by omega)]; exact hsc
        refine pb_aload_n (pc2 := 48) dX9_spread_47 rfl rfl rfl ?_
        refine pb_aload_n (pc2 := 49) dX9_spread_48 rfl rfl rfl ?_
        refine pb_callU (x := ⟨RX9, "weigh", "(LPaintBox$Light;)V"⟩) (owner := RX9) (pc2 := 52) (k2 := 0) (n2 := 0) mwX5_weigh pb_cl5.1 rfl ⟨by decide, by decide⟩ iwX5_weigh suX5_weigh smX5_weigh (Or.inr dcX9_weigh) rfl mlX9_81 dX9_spread_49 (by first | assumption | exact hR.a rfl | exact hR.o | exact hC.o | exact hC.pal | exact hC.tub | exact hC.k _ _ rfl | exact hC.pot _ (by omega) | exact hC.are _ (by omega) | exact hC.arl _ (by omega) | exact hC.tbo _ (by omega) (by omega)) (t_weighM w hl hST hX5 hS5 hsz hc ha hmm hli6 hlv hsumQ (by omega) hN hd5 hs5 h308 hG) (by omega) (by omega) (by omega) rfl rfl (Nat.le_of_ble_eq_true rfl) rfl (fun v h6 q6 _ => ?_)
        obtain ⟨rfl, hST6, n6⟩ := q6
        rw [eQ] at hST6
        have ho := hST6.2.1
        have hc := (n6 _ (by omega) (by omega) (by omega)).trans hc
        have ha := (n6 _ (by omega) (by omega) (by omega)).trans ha
        have nb6 : ∀ x, x ≠ 68 → x ≠ 304 → x ≠ 305 → x ≠ 308 → x ≠ 309 → (x ≤ 360 + lv ∨ 364 ≤ x) → (x ≤ 364 + lv ∨ 368 ≤ x) → h6 x = h x := fun x x1 x2 x3 x4 x5 x6 x7 => (n6 x x1 x4 x5).trans (nb5 x x1 x2 x3 x4 x5 x6 x7)
        have hag6 : ∀ i, i < lv + 1 → pb_un C1 lv m i = pb_un C lv m i ∧ (i < lv → pb_un M1 lv n i = M i) := fun i hi => by
          by_cases e : i = lv
          · rw [e, pb_un_self, pb_un_self]; exact ⟨rfl, fun z => by omega⟩
          · rw [pb_un_ne _ _ e, pb_un_ne _ _ e, pb_un_ne _ _ e]; exact ⟨(hag i (by omega)).1, fun _ => (hag i (by omega)).2⟩
        have hag7 : ∀ i, i < lv → pb_un C1 lv m i = C i ∧ pb_un M1 lv n i = M i := fun i hi => by
          rw [pb_un_ne _ _ (by omega), pb_un_ne _ _ (by omega)]; exact hag i hi
        generalize sp_mst A l σ1 (pb_un (mxP mem C M lv) (mem m) n) = σ2 at hST6 hfold
        refine pb_iload_n (pc2 := 53) dX9_spread_52 rfl rfl rfl ?_
        refine pb_iconst (x := nI 1) (pc2 := 54) dX9_spread_53 (by decide) rfl ?_
        refine pb_iaddN (pc2 := 55) dX9_spread_54 rfl ?_
        refine pb_iconst (x := nI 4) (pc2 := 56) dX9_spread_55 (by decide) rfl ?_
        refine pb_icmpN_ge (tgt := 117) (pc2 := 59) dX9_spread_56 (by decide) rfl (by omega) (by omega) (fun c4 => ?_) (fun c4 => ?_)
        · have e9 : (pb_fl2 (fun x => em_l mem (sz - (m + 1)) (m + 1) (n - x) (pb_un (mxP mem C M lv) (mem m) x)) (n - 1)).foldl (sp_mst A l) σ2 = σ2 := fold_id _ (fun Q hQ => by
            obtain ⟨x, x1, x2, hQ⟩ := pb_fl2_mem hQ
            have hu := em_us hmm (sz - (m + 1)) (m + 1) (n - x) (pb_un (mxP mem C M lv) (mem m) x) (by omega) (by omega) (fun j j1 j2 => by
              rw [pb_un_ne _ _ (hmm.ne j2 (by omega) (by omega))]
              exact P0 j (by omega) j2) Q hQ
            rw [us_un (P0 m g2 (by omega)) x1 _ hmT, hli.us hmm] at hu
            exact if_neg (fun z => by omega))
          rw [e9] at hfold
          exact nxt σ2 _ _ lv h6 _ hST6 hc ha hag7 nb6 hfold
        · refine pb_iload (pc2 := 61) dX9_spread_59 rfl rfl ?_
          refine pb_iconst (x := nI 1) (pc2 := 62) dX9_spread_61 (by decide) rfl ?_
          refine pb_iaddN (pc2 := 63) dX9_spread_62 rfl ?_
          refine pb_aload_n (pc2 := 64) dX9_spread_63 rfl rfl rfl ?_
          refine pb_getf (pc2 := 67) flX9_26_X5 rfl dX9_spread_64 (by first | assumption | exact hR.a rfl | exact hR.o | exact hC.o | exact hC.pal | exact hC.tub | exact hC.k _ _ rfl | exact hC.pot _ (by omega) | exact hC.are _ (by omega) | exact hC.arl _ (by omega) | exact hC.tbo _ (by omega) (by omega)) rfl rfl ?_
          refine pb_icmpN_ge (tgt := 117) (pc2 := 70) dX9_spread_67 (by decide) rfl (by omega) (by omega) (fun c5 => ?_) (fun c5 => ?_)
          · have e9 : (pb_fl2 (fun x => em_l mem (sz - (m + 1)) (m + 1) (n - x) (pb_un (mxP mem C M lv) (mem m) x)) (n - 1)).foldl (sp_mst A l) σ2 = σ2 := fold_id _ (fun Q hQ => by
              obtain ⟨x, x1, x2, hQ⟩ := pb_fl2_mem hQ
              rw [show sz - (m + 1) = 0 by omega, em_e (by omega)] at hQ
              cases hQ)
            rw [e9] at hfold
            exact nxt σ2 _ _ lv h6 _ hST6 hc ha hag7 nb6 hfold
          · have inner : ∀ (x : Nat) (σ3 : Nat × Nat × (Nat → Nat)) (C3 M3 : Nat → Nat) (k3 : Nat) (h7 : pb_H), x ≤ n - 1 → stM A σ3 sz k3 h0 h7 → h7 304 = some (.inl (0, 4, fun j => nI (C3 j))) → h7 305 = some (.inl (0, 4, fun j => nI (M3 j))) → (∀ i, i < lv + 1 → C3 i = pb_un C lv m i ∧ (i < lv → M3 i = M i)) → (∀ x, x ≠ 68 → x ≠ 304 → x ≠ 305 → x ≠ 308 → x ≠ 309 → (x ≤ 360 + lv ∨ 364 ≤ x) → (x ≤ 364 + lv ∨ 368 ≤ x) → h7 x = h x) → (em_l mem (sz - (m + 1)) (m + 1) n (mxP mem C M lv)).foldl (sp_mst A l) ((pb_fl2 (fun x => em_l mem (sz - (m + 1)) (m + 1) (n - x) (pb_un (mxP mem C M lv) (mem m) x)) x).foldl (sp_mst A l) σ3) = σf → pb_S Z mX9_spread (D + 1) 0 0 (fun v h' => v = none ∧ ∃ (k1 : Nat) (C' M' : Nat → Nat), stM A σf sz k1 h0 h' ∧ h' 304 = some (.inl (0, 4, fun j => nI (C' j))) ∧ h' 305 = some (.inl (0, 4, fun j => nI (M' j))) ∧ (∀ i, i < lv → C' i = C i ∧ M' i = M i) ∧ ∀ x, x ≠ 68 → x ≠ 304 → x ≠ 305 → x ≠ 308 → x ≠ 309 → (x ≤ 360 + lv ∨ 364 ≤ x) → (x ≤ 364 + lv ∨ 368 ≤ x) → h' x = h x) 76 [some (.ref 68), some (.ref 62), some (.int (nI lv)), some (.int (nI f)), some (.int (nI n)), some (.int (nI m)), some (.int (nI x))] [] h7 := by
              intro x
              induction x with
              | zero =>
                intro σ3 C3 M3 k3 h7 g5 hST hc ha hag nb hfold
                refine pb_iload (pc2 := 78) dX9_spread_76 rfl rfl ?_
                refine pb_ifN_le (tgt := 117) (pc2 := 81) dX9_spread_78 (by decide) rfl (by omega) (fun c6 => ?_) (fun c6 => ?_)
                · exact nxt σ3 C3 M3 k3 h7 _ hST hc ha (fun i hi => ⟨by rw [(hag i (by omega)).1, pb_un_ne _ _ (by omega)], (hag i (by omega)).2 hi⟩) nb hfold
                · omega
              | succ x ihx =>
                intro σ3 C3 M3 k3 h7 g5 hST hc ha hag nb hfold
                have ho := hST.2.1
                refine pb_iload (pc2 := 78) dX9_spread_76 rfl rfl ?_
                refine pb_ifN_le (tgt := 117) (pc2 := 81) dX9_spread_78 (by decide) rfl (by omega) (fun c6 => ?_) (fun c6 => ?_)
                · omega
                · rw [fl2_s (by omega), List.foldl_append, Nat.add_sub_cancel] at hfold
                  refine pb_aload_n (pc2 := 82) dX9_spread_81 rfl rfl rfl ?_
                  refine pb_getf (pc2 := 85) flX9_33_X5 rfl dX9_spread_82 (by first | assumption | exact hR.a rfl | exact hR.o | exact hC.o | exact hC.pal | exact hC.tub | exact hC.k _ _ rfl | exact hC.pot _ (by omega) | exact hC.are _ (by omega) | exact hC.arl _ (by omega) | exact hC.tbo _ (by omega) (by omega)) rfl rfl ?_
                  refine pb_iload_n (pc2 := 86) dX9_spread_85 rfl rfl rfl ?_
                  refine pb_iload (pc2 := 88) dX9_spread_86 rfl rfl ?_
                  refine pb_iastG (pc2 := 89) ha dX9_spread_88 (by omega) (by omega) (by omega) rfl (fun h8 ha n8 => ?_)
                  have hST := hST.s1 (a := 305) rfl ha n8
                  have ho := hST.2.1
                  have hc := (n8 _ (by omega)).trans hc
                  have nb8 : ∀ x, x ≠ 68 → x ≠ 304 → x ≠ 305 → x ≠ 308 → x ≠ 309 → (x ≤ 360 + lv ∨ 364 ≤ x) → (x ≤ 364 + lv ∨ 368 ≤ x) → h8 x = h x := fun x x1 x2 x3 x4 x5 x6 x7 => (n8 x x3).trans (nb x x1 x2 x3 x4 x5 x6 x7)
                  have hag8 : ∀ i, i < lv + 1 → C3 i = pb_un C lv m i ∧ pb_un M3 lv (x + 1) i = pb_un M lv (x + 1) i := fun i hi => by
                    refine ⟨(hag i hi).1, ?_⟩
                    by_cases e : i = lv
                    · rw [e, pb_un_self, pb_un_self]
                    · rw [pb_un_ne _ _ e, pb_un_ne _ _ e]; exact (hag i hi).2 (by omega)
                  have eQ8 : mxP mem C3 (pb_un M3 lv (x + 1)) (lv + 1) = pb_un (mxP mem C M lv) (mem m) (x + 1) := by
                    rw [mxP_c (lv + 1) hag8, mx_up]
                  have eP8 : mxP mem C3 (pb_un M3 lv (x + 1)) lv = mxP mem C M lv := mxP_c lv (fun i hi => ⟨by rw [(hag8 i (by omega)).1, pb_un_ne _ _ (by omega)], by rw [(hag8 i (by omega)).2, pb_un_ne _ _ (by omega)]⟩)
                  have hli8 : mlI sz C3 (pb_un M3 lv (x + 1)) (lv + 1) (m + 1) := (hli.up g2 (by omega) (by omega)).c hag8
                  have hli9 : mlI sz C3 (pb_un M3 lv (x + 1)) (lv + 1) sz := ⟨fun i hi => by have := hli8.1 i hi; omega, hli8.2.1, hli8.2.2.1, Nat.le_refl _⟩
                  have hS8 := hS.up hsz (fun x hx => nb8 x (by omega) (by omega) (by omega) (by omega) (by omega) (by omega) (by omega))
                  have hd8 : cRow 8 (fun b => pb_dk A (mxP mem C3 (pb_un M3 lv (x + 1)) lv) b 0) (h8 (360 + lv)) := by
                    rw [eP8, nb8 _ (by omega) (by omega) (by omega) (by omega) (by omega) (by omega) (by omega)]; exact hd
                  have hs8 : cRow 8 (fun b => pb_sc A (mxP mem C3 (pb_un M3 lv (x + 1)) lv) b) (h8 (364 + lv)) := by
                    rw [eP8, nb8 _ (by omega) (by omega) (by omega) (by omega) (by omega) (by omega) (by omega)]; exact hsc
                  refine pb_aload_n (pc2 := 90) dX9_spread_89 rfl rfl rfl ?_
                  refine pb_iload_n (pc2 := 91) dX9_spread_90 rfl rfl rfl ?_
                  refine pb_callV (pc2 := 94) (k2 := 0) (n2 := 0) mwX9_sumUp pb_cl5.1 iwX9_sumUp sxX5_sumUp rfl mlX9_85 dX9_spread_91 (by first | assumption | exact hR.a rfl | exact hR.o | exact hC.o | exact hC.pal | exact hC.tub | exact hC.k _ _ rfl | exact hC.pot _ (by omega) | exact hC.are _ (by omega) | exact hC.arl _ (by omega) | exact hC.tbo _ (by omega) (by omega)) (t_sumUpM w hS8 hsz ho hc ha hmm hli9 (by omega) hd8 hs8 (hST.1.s _ 8 (cS_8 (by omega))) (hST.1.s _ 8 (cS_8 (by omega)))) (by omega) (by omega) (by omega) rfl rfl (Nat.le_of_ble_eq_true rfl) rfl (fun v h9 q9 _ => ?_)
                  obtain ⟨rfl, hd9, hs9, n9⟩ := q9
                  have hST := hST.s2 (cS_8 (a := 360 + (lv + 1)) (by omega)) (cS_8 (a := 364 + (lv + 1)) (by omega)) (cRow_scr hd9) (cRow_scr hs9) n9
                  have ho := hST.2.1
                  have hc := (n9 _ (by omega) (by omega)).trans hc
                  have ha := (n9 _ (by omega) (by omega)).trans ha
                  have hS9 := hS8.up hsz (fun x hx => n9 x (by omega) (by omega))
                  have hX9 : exM A h9 := by
                    unfold exM; rw [n9 _ (by omega) (by omega), nb8 _ (by omega) (by omega) (by omega) (by omega) (by omega) (by omega) (by omega)]; exact hX
                  refine pb_aload_n (pc2 := 95) dX9_spread_94 rfl rfl rfl ?_
                  refine pb_aload_n (pc2 := 96) dX9_spread_95 rfl rfl rfl ?_
                  refine pb_iload_n (pc2 := 97) dX9_spread_96 rfl rfl rfl ?_
                  refine pb_iconst (x := nI 1) (pc2 := 98) dX9_spread_97 (by decide) rfl ?_
                  refine pb_iaddN (pc2 := 99) dX9_spread_98 rfl ?_
                  refine pb_iload (pc2 := 101) dX9_spread_99 rfl rfl ?_
                  refine pb_iconst (x := nI 1) (pc2 := 102) dX9_spread_101 (by decide) rfl ?_
                  refine pb_iaddN (pc2 := 103) dX9_spread_102 rfl ?_
                  refine pb_iload (pc2 := 105) dX9_spread_103 rfl rfl ?_
                  refine pb_iload (pc2 := 107) dX9_spread_105 rfl rfl ?_
                  refine pb_isubN (pc2 := 108) dX9_spread_107 (by omega) rfl ?_
                  refine pb_callV (pc2 := 111) (k2 := 0) (n2 := 0) mwX9_spread pb_cl5.1 iwX9_spread sxX5_spread rfl mlX9_58 dX9_spread_108 (by first | assumption | exact hR.a rfl | exact hR.o | exact hC.o | exact hC.pal | exact hC.tub | exact hC.k _ _ rfl | exact hC.pot _ (by omega) | exact hC.are _ (by omega) | exact hC.arl _ (by omega) | exact hC.tbo _ (by omega) (by omega)) (hrec (by omega) (m + 1) (n - (x + 1)) σ3 C3 (pb_un M3 lv (x + 1)) k3 h9 (by omega) hST hX9 hS9 hc ha hli8 (by rw [eQ8, pb_sum_un2 (by omega) (P0 m g2 (by omega))]; omega) hd9 hs9) (by omega) (by omega) (by omega) rfl rfl (Nat.le_of_ble_eq_true rfl) rfl (fun v h10 q10 _ => ?_)
                  obtain ⟨rfl, k10, C10, M10, hST, hc, ha, hag10, n10⟩ := q10
                  rw [eQ8] at hST
                  refine pb_iincM (lv2 := [_, _, _, _, _, _, _]) (pc2 := 114) dX9_spread_111 rfl (by omega) (by decide) rfl rfl ?_
                  refine pb_goto (tgt := 76) dX9_spread_114 (by decide) ?_
                  refine ihx _ C10 M10 k10 h10 (by omega) hST hc ha (fun i hi => ⟨by rw [(hag10 i hi).1]; exact (hag8 i hi).1, fun hi2 => by rw [(hag10 i hi).2, pb_un_ne _ _ (by omega)]; exact (hag i hi).2 hi2⟩) (fun x x1 x2 x3 x4 x5 x6 x7 => (n10 x x1 x2 x3 x4 x5 (by omega) (by omega)).trans ((n9 x (by omega) (by omega)).trans (nb8 x x1 x2 x3 x4 x5 x6 x7))) hfold
            refine pb_iload (pc2 := 72) dX9_spread_70 rfl rfl ?_
            refine pb_iconst (x := nI 1) (pc2 := 73) dX9_spread_72 (by decide) rfl ?_
            refine pb_isubN (pc2 := 74) dX9_spread_73 (by omega) rfl ?_
            refine pb_istore (lv2 := [_, _, _, _, _, _, _]) (pc2 := 76) dX9_spread_74 (by decide) rfl rfl ?_
            exact inner (n - 1) σ2 _ _ lv h6 (Nat.le_refl _) hST6 hc ha hag6 nb6 hfold
  refine pb_iload_n (pc2 := 7) dX9_spread_6 rfl rfl rfl ?_
  refine pb_istore (lv2 := [_, _, _, _, _, _, _]) (pc2 := 9) dX9_spread_7 (by decide) rfl rfl ?_
  exact outer (sz - f + 1) f σ C M k0 h _ (by omega) (Nat.le_refl _) hfsz hST hc ha (fun i hi => ⟨rfl, rfl⟩) (fun _ _ _ _ _ _ _ _ => rfl) hσf
theorem t_spreadM (w : pb_WF A) {l sz N : Nat} {mem : Nat → Nat} (hl : l < 4) (hsz : sz ≤ 12) (hmm : mmI (A 1 0) sz mem) (hN : N ≤ 8) : spCM Z h0 A l sz N mem 0 6 :=
  b_spreadM w hl hsz hmm hN (by omega) (by omega) (fun _ => b_spreadM w hl hsz hmm hN (by omega) (by omega) (fun _ => b_spreadM w hl hsz hmm hN (by omega) (by omega) (fun _ => b_spreadM w hl hsz hmm hN (by omega) (by omega) (fun q => by omega))))
end PB40M
section PB40C
variable {Z : pb_Z} {h0 : pb_H} {A : pb_A}
theorem stC.s1 {A : pb_A} {d : Nat} {σ : Nat → Nat} {sz k a n : Nat} {h0 h h' : pb_H} {G : Nat → Nat} (hST : stC A d σ sz k h0 h) (e : cS a = some n) (ha : h' a = some (.inl (0, n, fun j => nI (G j)))) (nb : ∀ b, b ≠ a → h' b = h b) : stC A d σ sz k h0 h' := by
  refine hST.g ((nb 69 (cS_ne e rfl).symm).trans hST.2.1) (fun b m eb => ?_) (fun x x1 x2 => nb x (fun z => by rw [z, e] at x1; cases x1))
  by_cases e2 : b = a
  · subst e2
    rw [e] at eb
    cases eb
    exact ⟨G, ha⟩
  · rw [nb b e2]; exact hST.1.s b m eb
theorem stC.s2 {A : pb_A} {d : Nat} {σ : Nat → Nat} {sz k a a2 n n2 : Nat} {h0 h h' : pb_H} (hST : stC A d σ sz k h0 h) (e : cS a = some n) (e2 : cS a2 = some n2) (ha : cScr n (h' a)) (ha2 : cScr n2 (h' a2)) (nb : ∀ b, b ≠ a → b ≠ a2 → h' b = h b) : stC A d σ sz k h0 h' := by
  refine hST.g ((nb 69 (cS_ne e rfl).symm (cS_ne e2 rfl).symm).trans hST.2.1) (fun b m eb => ?_) (fun x x1 x2 => nb x (fun z => by rw [z, e] at x1; cases x1) (fun z => by rw [z, e2] at x1; cases x1))
  by_cases q : b = a
  · subst q
    rw [e] at eb
    cases eb
    exact ha
  · by_cases q2 : b = a2
    · subst q2
      rw [e2] at eb
      cases eb
      exact ha2
    · rw [nb b q q2]; exact hST.1.s b m eb
/-- a part of the search: from level lv on -/
def spCC (Z : pb_Z) (h0 : pb_H) (A : pb_A) (l d sz N : Nat) (mem : Nat → Nat) (lv D : Nat) : Prop := ∀ (f n : Nat) (σ : Nat → Nat) (C M : Nat → Nat) (k0 : Nat) (h : pb_H), 1 ≤ n → stC A d σ sz k0 h0 h → exC A h → sbC A l sz mem h → h 404 = some (.inl (0, 4, fun j => nI (C j))) → h 405 = some (.inl (0, 4, fun j => nI (M j))) → mlI sz C M lv f → pb_sum 12 (mxP mem C M lv) + n = N → cRow 8 (fun b => pb_dk A (mxP mem C M lv) b 0) (h (460 + lv)) → cRow 8 (fun b => pb_sc A (mxP mem C M lv) b) (h (464 + lv)) → pb_T Z mX9_spread D 0 0 [.ref 69, .ref 62, .int (nI lv), .int (nI f), .int (nI n)] h (fun v h' => v = none ∧ ∃ (k1 : Nat) (C' M' : Nat → Nat), stC A d ((em_l mem (sz - f) f n (mxP mem C M lv)).foldl (fw_st A l d) σ) sz k1 h0 h' ∧ h' 404 = some (.inl (0, 4, fun j => nI (C' j))) ∧ h' 405 = some (.inl (0, 4, fun j => nI (M' j))) ∧ (∀ i, i < lv → C' i = C i ∧ M' i = M i) ∧ ∀ x, x ≠ 69 → x ≠ 404 → x ≠ 405 → x ≠ 408 → x ≠ 413 → (x ≤ 460 + lv ∨ 464 ≤ x) → (x ≤ 464 + lv ∨ 468 ≤ x) → h' x = h x)
set_option maxRecDepth 10000 in
theorem b_spreadC (w : pb_WF A) {l d sz N lv D : Nat} {mem : Nat → Nat} (hl : l < 4) (hd30 : d ≤ 30000) (h24 : A 24 0 ≤ 6) (hsz : sz ≤ 12) (hmm : mmI (A 1 0) sz mem) (hN : N ≤ 8) (hlv : lv < 4) (hD : 2 ≤ D) (hrec : lv + 1 < 4 → spCC Z h0 A l d sz N mem (lv + 1) D) : spCC Z h0 A l d sz N mem lv (D + 1) := by
  intro f n σ C M k0 h hn hST hX hS hc ha hli hsum hd hsc
  have htt := w.tubes
  generalize hσf : (em_l mem (sz - f) f n (mxP mem C M lv)).foldl (fw_st A l d) σ = σf
  have hfsz := hli.2.2.2
  have P0 := fun j (h1 : f ≤ j) (h2 : j < sz) => hli.z hmm h1 h2
  refine pb_T.of pnX9_spread (Nat.le_of_ble_eq_true rfl) (lv := [some (.ref 69), some (.ref 62), some (.int (nI lv)), some (.int (nI f)), some (.int (nI n)), none, none]) rfl ?_
  refine pb_iload_n (pc2 := 1) dX9_spread_0 rfl rfl rfl ?_
  refine pb_iconst (x := nI 4) (pc2 := 2) dX9_spread_1 (by decide) rfl ?_
  refine pb_icmpN_lt (tgt := 6) (pc2 := 5) dX9_spread_2 (by decide) rfl (by omega) (by omega) (fun _ => ?_) (fun q => by omega)
  have outer : ∀ (q m : Nat) (σ1 : Nat → Nat) (C1 M1 : Nat → Nat) (k1 : Nat) (h1 : pb_H) (o6 : Option Value), sz - m < q → f ≤ m → m ≤ sz → stC A d σ1 sz k1 h0 h1 → h1 404 = some (.inl (0, 4, fun j => nI (C1 j))) → h1 405 = some (.inl (0, 4, fun j => nI (M1 j))) → (∀ i, i < lv → C1 i = C i ∧ M1 i = M i) → (∀ x, x ≠ 69 → x ≠ 404 → x ≠ 405 → x ≠ 408 → x ≠ 413 → (x ≤ 460 + lv ∨ 464 ≤ x) → (x ≤ 464 + lv ∨ 468 ≤ x) → h1 x = h x) → (em_l mem (sz - m) m n (mxP mem C M lv)).foldl (fw_st A l d) σ1 = σf → pb_S Z mX9_spread (D + 1) 0 0 (fun v h' => v = none ∧ ∃ (k1 : Nat) (C' M' : Nat → Nat), stC A d σf sz k1 h0 h' ∧ h' 404 = some (.inl (0, 4, fun j => nI (C' j))) ∧ h' 405 = some (.inl (0, 4, fun j => nI (M' j))) ∧ (∀ i, i < lv → C' i = C i ∧ M' i = M i) ∧ ∀ x, x ≠ 69 → x ≠ 404 → x ≠ 405 → x ≠ 408 → x ≠ 413 → (x ≤ 460 + lv ∨ 464 ≤ x) → (x ≤ 464 + lv ∨ 468 ≤ x) → h' x = h x) 9 [some (.ref 69), some (.ref 62), some (.int (nI lv)), some (.int (nI f)), some (.int (nI n)), some (.int (nI m)), o6] [] h1 := by
    intro q
    induction q with
    | zero => intro m σ1 C1 M1 k1 h1 o6 g1; omega
    | succ q ih =>
      intro m σ1 C1 M1 k1 h1 o6 g1 g2 g3 hST hc ha hag nb hfold
      have ho := hST.2.1
      refine pb_iload (pc2 := 11) dX9_spread_9 rfl rfl ?_
      refine pb_aload_n (pc2 := 12) dX9_spread_11 rfl rfl rfl ?_
      refine pb_getf (pc2 := 15) flX9_26_X1 rfl dX9_spread_12 (by first | assumption | exact hR.a rfl | exact hR.o | exact hC.o | exact hC.pal | exact hC.tub | exact hC.k _ _ rfl | exact hC.pot _ (by omega) | exact hC.are _ (by omega) | exact hC.arl _ (by omega) | exact hC.tbo _ (by omega) (by omega)) rfl rfl ?_
      refine pb_icmpN_ge (tgt := 123) (pc2 := 18) dX9_spread_15 (by decide) rfl (by omega) (by omega) (fun c => ?_) (fun c => ?_)
      · have e : m = sz := by omega
        subst e
        rw [Nat.sub_self, em_e hn] at hfold
        have hfold : σ1 = σf := hfold
        subst hfold
        exact pb_return dX9_spread_123 rfl (⟨rfl, k1, C1, M1, hST, hc, ha, hag, nb⟩)
      · rw [show sz - m = (sz - (m + 1)) + 1 by omega, em_s hn, List.foldl_append, fl2_s hn, Nat.sub_self, em_0, List.foldl_append] at hfold
        have hfold : (em_l mem (sz - (m + 1)) (m + 1) n (mxP mem C M lv)).foldl (fw_st A l d) ((pb_fl2 (fun x => em_l mem (sz - (m + 1)) (m + 1) (n - x) (pb_un (mxP mem C M lv) (mem m) x)) (n - 1)).foldl (fw_st A l d) (fw_st A l d σ1 (pb_un (mxP mem C M lv) (mem m) n))) = σf := hfold
        -- on to the next member
        have nxt : ∀ (σ3 : Nat → Nat) (C3 M3 : Nat → Nat) (k3 : Nat) (h3 : pb_H) (o6 : Option Value), stC A d σ3 sz k3 h0 h3 → h3 404 = some (.inl (0, 4, fun j => nI (C3 j))) → h3 405 = some (.inl (0, 4, fun j => nI (M3 j))) → (∀ i, i < lv → C3 i = C i ∧ M3 i = M i) → (∀ x, x ≠ 69 → x ≠ 404 → x ≠ 405 → x ≠ 408 → x ≠ 413 → (x ≤ 460 + lv ∨ 464 ≤ x) → (x ≤ 464 + lv ∨ 468 ≤ x) → h3 x = h x) → (em_l mem (sz - (m + 1)) (m + 1) n (mxP mem C M lv)).foldl (fw_st A l d) σ3 = σf → pb_S Z mX9_spread (D + 1) 0 0 (fun v h' => v = none ∧ ∃ (k1 : Nat) (C' M' : Nat → Nat), stC A d σf sz k1 h0 h' ∧ h' 404 = some (.inl (0, 4, fun j => nI (C' j))) ∧ h' 405 = some (.inl (0, 4, fun j => nI (M' j))) ∧ (∀ i, i < lv → C' i = C i ∧ M' i = M i) ∧ ∀ x, x ≠ 69 → x ≠ 404 → x ≠ 405 → x ≠ 408 → x ≠ 413 → (x ≤ 460 + lv ∨ 464 ≤ x) → (x ≤ 464 + lv ∨ 468 ≤ x) → h' x = h x) 117 [some (.ref 69), some (.ref 62), some (.int (nI lv)), some (.int (nI f)), some (.int (nI n)), some (.int (nI m)), o6] [] h3 := by
          intro σ3 C3 M3 k3 h3 o6 hST hc ha hag nb hfold
          refine pb_iincP (c0 := 1) (lv2 := [_, _, _, _, _, _, _]) (pc2 := 120) dX9_spread_117 rfl (by decide) rfl rfl ?_
          refine pb_goto (tgt := 9) dX9_spread_120 (by decide) ?_
          exact ih (m + 1) σ3 C3 M3 k3 h3 o6 (by omega) (by omega) (by omega) hST hc ha hag nb hfold
        refine pb_aload_n (pc2 := 19) dX9_spread_18 rfl rfl rfl ?_
        refine pb_getf (pc2 := 22) flX9_30_X1 rfl dX9_spread_19 (by first | assumption | exact hR.a rfl | exact hR.o | exact hC.o | exact hC.pal | exact hC.tub | exact hC.k _ _ rfl | exact hC.pot _ (by omega) | exact hC.are _ (by omega) | exact hC.arl _ (by omega) | exact hC.tbo _ (by omega) (by omega)) rfl rfl ?_
        refine pb_iload_n (pc2 := 23) dX9_spread_22 rfl rfl rfl ?_
        refine pb_iload (pc2 := 25) dX9_spread_23 rfl rfl ?_
        refine pb_iastG (pc2 := 26) hc dX9_spread_25 (by omega) (by omega) (by omega) rfl (fun h2 hc n2 => ?_)
        have hST := hST.s1 (a := 404) rfl hc n2
        have ho := hST.2.1
        have ha := (n2 _ (by omega)).trans ha
        refine pb_aload_n (pc2 := 27) dX9_spread_26 rfl rfl rfl ?_
        refine pb_getf (pc2 := 30) flX9_33_X1 rfl dX9_spread_27 (by first | assumption | exact hR.a rfl | exact hR.o | exact hC.o | exact hC.pal | exact hC.tub | exact hC.k _ _ rfl | exact hC.pot _ (by omega) | exact hC.are _ (by omega) | exact hC.arl _ (by omega) | exact hC.tbo _ (by omega) (by omega)) rfl rfl ?_
        refine pb_iload_n (pc2 := 31) dX9_spread_30 rfl rfl rfl ?_
        refine pb_iload (pc2 := 33) dX9_spread_31 rfl rfl ?_
        refine pb_iastG (pc2 := 34) ha dX9_spread_33 (by omega) (by omega) (by omega) rfl (fun h3 ha n3 => ?_)
        have hST := hST.s1 (a := 405) rfl ha n3
        have ho := hST.2.1
        have hc := (n3 _ (by omega)).trans hc
        refine pb_aload_n (pc2 := 35) dX9_spread_34 rfl rfl rfl ?_
        refine pb_iload_n (pc2 := 36) dX9_spread_35 rfl rfl rfl ?_
        refine pb_putG (fs2 := [_, _, _, _, _, _, _, _, _, _, _, _, _, _, _, _]) (pc2 := 39) flX9_42_X1 rfl dX9_spread_36 ho (by omega) rfl rfl rfl rfl rfl (fun h_ ho n4 => ?_)
        have hc := (n4 _ (by omega)).trans hc
        have ha := (n4 _ (by omega)).trans ha
        have hST := hST.g (sz' := sz) (k' := lv) ho (fun a m e => by rw [n4 a (cS_ne e rfl)]; exact hST.1.s a m e) (fun x x1 x2 => n4 x x2)
        refine pb_aload_n (pc2 := 40) dX9_spread_39 rfl rfl rfl ?_
        refine pb_getf (pc2 := 43) flX9_45_X1 rfl dX9_spread_40 (by first | assumption | exact hR.a rfl | exact hR.o | exact hC.o | exact hC.pal | exact hC.tub | exact hC.k _ _ rfl | exact hC.pot _ (by omega) | exact hC.are _ (by omega) | exact hC.arl _ (by omega) | exact hC.tbo _ (by omega) (by omega)) rfl rfl ?_
        refine pb_iconst (x := -1) (pc2 := 44) dX9_spread_43 (by decide) rfl ?_
        refine pb_top (v2 := .int (nI 4294967295)) (by decide) ?_
        refine pb_callS (pc2 := 47) (k2 := 0) (n2 := 0) mwJ7_fill_53178 swJ7_fill_53178 rfl mlX9_75 dX9_spread_44 (t_fill (c := 4294967295) (n := 8) (hST.1.s 408 8 rfl) (by omega) (by omega)) (by omega) (by omega) (by omega) rfl rfl (Nat.le_of_ble_eq_true rfl) rfl (pb_kW (fun h5 G h308 hG n5 => ?_))
        have hST := hST.s1 (a := 408) rfl h308 n5
        have ho := hST.2.1
        have hc := (n5 _ (by omega)).trans hc
        have ha := (n5 _ (by omega)).trans ha
        have nb5 : ∀ x, x ≠ 69 → x ≠ 404 → x ≠ 405 → x ≠ 408 → x ≠ 413 → (x ≤ 460 + lv ∨ 464 ≤ x) → (x ≤ 464 + lv ∨ 468 ≤ x) → h5 x = h x := fun x x1 x2 x3 x4 x5 x6 x7 => (n5 x x4).trans ((n4 x x1).trans ((n3 x x3).trans ((n2 x x2).trans (nb x x1 x2 x3 x4 x5 x6 x7))))
        have eP : mxP mem (pb_un C1 lv m) (pb_un M1 lv n) lv = mxP mem C M lv := by
          rw [mxP_c (C := C1) (M := M1) lv (fun i hi => ⟨pb_un_ne _ _ (by omega), pb_un_ne _ _ (by omega)⟩), mxP_c lv hag]
        have eQ : mxP mem (pb_un C1 lv m) (pb_un M1 lv n) (lv + 1) = pb_un (mxP mem C M lv) (mem m) n := by
          rw [mx_up, mxP_c lv hag]
        have hli5 : mlI sz (pb_un C1 lv m) (pb_un M1 lv n) (lv + 1) (m + 1) := (hli.c hag).up g2 (by omega) hn
        have hli6 : mlI sz (pb_un C1 lv m) (pb_un M1 lv n) (lv + 1) sz := ⟨fun i hi => by have := hli5.1 i hi; omega, hli5.2.1, hli5.2.2.1, Nat.le_refl _⟩
        have hmT := hmm.2 m (by omega)
        have hsumQ : pb_sum 12 (mxP mem (pb_un C1 lv m) (pb_un M1 lv n) (lv + 1)) = N := by
          rw [eQ, pb_sum_un2 (by omega) (P0 m g2 (by omega))]; exact hsum
        have hS5 := hS.up hsz (fun x hx => nb5 x (by omega) (by omega) (by omega) (by omega) (by omega) (by omega) (by omega))
        have hX5 : exC A h5 := by
          refine ⟨(nb5 _ (by omega) (by omega) (by omega) (by omega) (by omega) (by omega) (by omega)).trans hX.1, fun i hi => ?_⟩
          rw [nb5 _ (by omega) (by omega) (by omega) (by omega) (by omega) (by omega) (by omega)]
          exact hX.2 i hi
        have hd5 : cRow 8 (fun b => pb_dk A (mxP mem (pb_un C1 lv m) (pb_un M1 lv n) lv) b 0) (h5 (460 + lv)) := by
          rw [eP, nb5 _ (by omega) (by omega) (by omega) (by omega) (by omega) (by omega) (by omega)]; exact hd
        have hs5 : cRow 8 (fun b => pb_sc A (mxP mem (pb_un C1 lv m) (pb_un M1 lv n) lv) b) (h5 (464 + lv)) := by
          rw [eP, nb5 _ (by omega) (by omega) (by omega) (by omega) (by omega) (by omega) (by omega)]; exact hsc
        refine pb_aload_n (pc2 := 48) dX9_spread_47 rfl rfl rfl ?_
        refine pb_aload_n (pc2 := 49) dX9_spread_48 rfl rfl rfl ?_
        refine pb_callU (x := ⟨RX9, "weigh", "(LPaintBox$Light;)V"⟩) (owner := RX9) (pc2 := 52) (k2 := 0) (n2 := 0) mwX1_weigh pb_cl1.1 rfl ⟨by decide, by decide⟩ iwX1_weigh suX1_weigh smX1_weigh (Or.inr dcX9_weigh) rfl mlX9_81 dX9_spread_49 (by first | assumption | exact hR.a rfl | exact hR.o | exact hC.o | exact hC.pal | exact hC.tub | exact hC.k _ _ rfl | exact hC.pot _ (by omega) | exact hC.are _ (by omega) | exact hC.arl _ (by omega) | exact hC.tbo _ (by omega) (by omega)) (t_weighC w hl hd30 hST hX5 hS5 hsz hc ha hmm hli6 hlv hsumQ (by omega) hN hd5 hs5 h308 hG) (by omega) (by omega) (by omega) rfl rfl (Nat.le_of_ble_eq_true rfl) rfl (fun v h6 q6 _ => ?_)
        obtain ⟨rfl, hST6, n6⟩ := q6
        rw [eQ] at hST6
        have ho := hST6.2.1
        have hc := (n6 _ (by omega) (by omega) (by omega)).trans hc
        have ha := (n6 _ (by omega) (by omega) (by omega)).trans ha
        have nb6 : ∀ x, x ≠ 69 → x ≠ 404 → x ≠ 405 → x ≠ 408 → x ≠ 413 → (x ≤ 460 + lv ∨ 464 ≤ x) → (x ≤ 464 + lv ∨ 468 ≤ x) → h6 x = h x := fun x x1 x2 x3 x4 x5 x6 x7 => (n6 x x1 x4 x5).trans (nb5 x x1 x2 x3 x4 x5 x6 x7)
        have hag6 : ∀ i, i < lv + 1 → pb_un C1 lv m i = pb_un C lv m i ∧ (i < lv → pb_un M1 lv n i = M i) := fun i hi => by
          by_cases e : i = lv
          · rw [e, pb_un_self, pb_un_self]; exact ⟨rfl, fun z => by omega⟩
          · rw [pb_un_ne _ _ e, pb_un_ne _ _ e, pb_un_ne _ _ e]; exact ⟨(hag i (by omega)).1, fun _ => (hag i (by omega)).2⟩
        have hag7 : ∀ i, i < lv → pb_un C1 lv m i = C i ∧ pb_un M1 lv n i = M i := fun i hi => by
          rw [pb_un_ne _ _ (by omega), pb_un_ne _ _ (by omega)]; exact hag i hi
        generalize fw_st A l d σ1 (pb_un (mxP mem C M lv) (mem m) n) = σ2 at hST6 hfold
        refine pb_iload_n (pc2 := 53) dX9_spread_52 rfl rfl rfl ?_
        refine pb_iconst (x := nI 1) (pc2 := 54) dX9_spread_53 (by decide) rfl ?_
        refine pb_iaddN (pc2 := 55) dX9_spread_54 rfl ?_
        refine pb_iconst (x := nI 4) (pc2 := 56) dX9_spread_55 (by decide) rfl ?_
        refine pb_icmpN_ge (tgt := 117) (pc2 := 59) dX9_spread_56 (by decide) rfl (by omega) (by omega) (fun c4 => ?_) (fun c4 => ?_)
        · have e9 : (pb_fl2 (fun x => em_l mem (sz - (m + 1)) (m + 1) (n - x) (pb_un (mxP mem C M lv) (mem m) x)) (n - 1)).foldl (fw_st A l d) σ2 = σ2 := fold_id _ (fun Q hQ => by
            obtain ⟨x, x1, x2, hQ⟩ := pb_fl2_mem hQ
            have hu := em_us hmm (sz - (m + 1)) (m + 1) (n - x) (pb_un (mxP mem C M lv) (mem m) x) (by omega) (by omega) (fun j j1 j2 => by
              rw [pb_un_ne _ _ (hmm.ne j2 (by omega) (by omega))]
              exact P0 j (by omega) j2) Q hQ
            rw [us_un (P0 m g2 (by omega)) x1 _ hmT, hli.us hmm] at hu
            exact if_neg (fun z => by omega))
          rw [e9] at hfold
          exact nxt σ2 _ _ lv h6 _ hST6 hc ha hag7 nb6 hfold
        · refine pb_iload (pc2 := 61) dX9_spread_59 rfl rfl ?_
          refine pb_iconst (x := nI 1) (pc2 := 62) dX9_spread_61 (by decide) rfl ?_
          refine pb_iaddN (pc2 := 63) dX9_spread_62 rfl ?_
          refine pb_aload_n (pc2 := 64) dX9_spread_63 rfl rfl rfl ?_
          refine pb_getf (pc2 := 67) flX9_26_X1 rfl dX9_spread_64 (by first | assumption | exact hR.a rfl | exact hR.o | exact hC.o | exact hC.pal | exact hC.tub | exact hC.k _ _ rfl | exact hC.pot _ (by omega) | exact hC.are _ (by omega) | exact hC.arl _ (by omega) | exact hC.tbo _ (by omega) (by omega)) rfl rfl ?_
          refine pb_icmpN_ge (tgt := 117) (pc2 := 70) dX9_spread_67 (by decide) rfl (by omega) (by omega) (fun c5 => ?_) (fun c5 => ?_)
          · have e9 : (pb_fl2 (fun x => em_l mem (sz - (m + 1)) (m + 1) (n - x) (pb_un (mxP mem C M lv) (mem m) x)) (n - 1)).foldl (fw_st A l d) σ2 = σ2 := fold_id _ (fun Q hQ => by
              obtain ⟨x, x1, x2, hQ⟩ := pb_fl2_mem hQ
              rw [show sz - (m + 1) = 0 by omega, em_e (by omega)] at hQ
              cases hQ)
            rw [e9] at hfold
            exact nxt σ2 _ _ lv h6 _ hST6 hc ha hag7 nb6 hfold
          · have inner : ∀ (x : Nat) (σ3 : Nat → Nat) (C3 M3 : Nat → Nat) (k3 : Nat) (h7 : pb_H), x ≤ n - 1 → stC A d σ3 sz k3 h0 h7 → h7 404 = some (.inl (0, 4, fun j => nI (C3 j))) → h7 405 = some (.inl (0, 4, fun j => nI (M3 j))) → (∀ i, i < lv + 1 → C3 i = pb_un C lv m i ∧ (i < lv → M3 i = M i)) → (∀ x, x ≠ 69 → x ≠ 404 → x ≠ 405 → x ≠ 408 → x ≠ 413 → (x ≤ 460 + lv ∨ 464 ≤ x) → (x ≤ 464 + lv ∨ 468 ≤ x) → h7 x = h x) → (em_l mem (sz - (m + 1)) (m + 1) n (mxP mem C M lv)).foldl (fw_st A l d) ((pb_fl2 (fun x => em_l mem (sz - (m + 1)) (m + 1) (n - x) (pb_un (mxP mem C M lv) (mem m) x)) x).foldl (fw_st A l d) σ3) = σf → pb_S Z mX9_spread (D + 1) 0 0 (fun v h' => v = none ∧ ∃ (k1 : Nat) (C' M' : Nat → Nat), stC A d σf sz k1 h0 h' ∧ h' 404 = some (.inl (0, 4, fun j => nI (C' j))) ∧ h' 405 = some (.inl (0, 4, fun j => nI (M' j))) ∧ (∀ i, i < lv → C' i = C i ∧ M' i = M i) ∧ ∀ x, x ≠ 69 → x ≠ 404 → x ≠ 405 → x ≠ 408 → x ≠ 413 → (x ≤ 460 + lv ∨ 464 ≤ x) → (x ≤ 464 + lv ∨ 468 ≤ x) → h' x = h x) 76 [some (.ref 69), some (.ref 62), some (.int (nI lv)), some (.int (nI f)), some (.int (nI n)), some (.int (nI m)), some (.int (nI x))] [] h7 := by
              intro x
              induction x with
              | zero =>
                intro σ3 C3 M3 k3 h7 g5 hST hc ha hag nb hfold
                refine pb_iload (pc2 := 78) dX9_spread_76 rfl rfl ?_
                refine pb_ifN_le (tgt := 117) (pc2 := 81) dX9_spread_78 (by decide) rfl (by omega) (fun c6 => ?_) (fun c6 => ?_)
                · exact nxt σ3 C3 M3 k3 h7 _ hST hc ha (fun i hi => ⟨by rw [(hag i (by omega)).1, pb_un_ne _ _ (by omega)], (hag i (by omega)).2 hi⟩) nb hfold
                · omega
              | succ x ihx =>
                intro σ3 C3 M3 k3 h7 g5 hST hc ha hag nb hfold
                have ho := hST.2.1
                refine pb_iload (pc2 := 78) dX9_spread_76 rfl rfl ?_
                refine pb_ifN_le (tgt := 117) (pc2 := 81) dX9_spread_78 (by decide) rfl (by omega) (fun c6 => ?_) (fun c6 => ?_)
                · omega
                · rw [fl2_s (by omega), List.foldl_append, Nat.add_sub_cancel] at hfold
                  refine pb_aload_n (pc2 := 82) dX9_spread_81 rfl rfl rfl ?_
                  refine pb_getf (pc2 := 85) flX9_33_X1 rfl dX9_spread_82 (by first | assumption | exact hR.a rfl | exact hR.o | exact hC.o | exact hC.pal | exact hC.tub | exact hC.k _ _ rfl | exact hC.pot _ (by omega) | exact hC.are _ (by omega) | exact hC.arl _ (by omega) | exact hC.tbo _ (by omega) (by omega)) rfl rfl ?_
                  refine pb_iload_n (pc2 := 86) dX9_spread_85 rfl rfl rfl ?_
                  refine pb_iload (pc2 := 88) dX9_spread_86 rfl rfl ?_
                  refine pb_iastG (pc2 := 89) ha dX9_spread_88 (by omega) (by omega) (by omega) rfl (fun h8 ha n8 => ?_)
                  have hST := hST.s1 (a := 405) rfl ha n8
                  have ho := hST.2.1
                  have hc := (n8 _ (by omega)).trans hc
                  have nb8 : ∀ x, x ≠ 69 → x ≠ 404 → x ≠ 405 → x ≠ 408 → x ≠ 413 → (x ≤ 460 + lv ∨ 464 ≤ x) → (x ≤ 464 + lv ∨ 468 ≤ x) → h8 x = h x := fun x x1 x2 x3 x4 x5 x6 x7 => (n8 x x3).trans (nb x x1 x2 x3 x4 x5 x6 x7)
                  have hag8 : ∀ i, i < lv + 1 → C3 i = pb_un C lv m i ∧ pb_un M3 lv (x + 1) i = pb_un M lv (x + 1) i := fun i hi => by
                    refine ⟨(hag i hi).1, ?_⟩
                    by_cases e : i = lv
                    · rw [e, pb_un_self, pb_un_self]
                    · rw [pb_un_ne _ _ e, pb_un_ne _ _ e]; exact (hag i hi).2 (by omega)
                  have eQ8 : mxP mem C3 (pb_un M3 lv (x + 1)) (lv + 1) = pb_un (mxP mem C M lv) (mem m) (x + 1) := by
                    rw [mxP_c (lv + 1) hag8, mx_up]
                  have eP8 : mxP mem C3 (pb_un M3 lv (x + 1)) lv = mxP mem C M lv := mxP_c lv (fun i hi => ⟨by rw [(hag8 i (by omega)).1, pb_un_ne _ _ (by omega)], by rw [(hag8 i (by omega)).2, pb_un_ne _ _ (by omega)]⟩)
                  have hli8 : mlI sz C3 (pb_un M3 lv (x + 1)) (lv + 1) (m + 1) := (hli.up g2 (by omega) (by omega)).c hag8
                  have hli9 : mlI sz C3 (pb_un M3 lv (x + 1)) (lv + 1) sz := ⟨fun i hi => by have := hli8.1 i hi; omega, hli8.2.1, hli8.2.2.1, Nat.le_refl _⟩
                  have hS8 := hS.up hsz (fun x hx => nb8 x (by omega) (by omega) (by omega) (by omega) (by omega) (by omega) (by omega))
                  have hd8 : cRow 8 (fun b => pb_dk A (mxP mem C3 (pb_un M3 lv (x + 1)) lv) b 0) (h8 (460 + lv)) := by
                    rw [eP8, nb8 _ (by omega) (by omega) (by omega) (by omega) (by omega) (by omega) (by omega)]; exact hd
                  have hs8 : cRow 8 (fun b => pb_sc A (mxP mem C3 (pb_un M3 lv (x + 1)) lv) b) (h8 (464 + lv)) := by
                    rw [eP8, nb8 _ (by omega) (by omega) (by omega) (by omega) (by omega) (by omega) (by omega)]; exact hsc
                  refine pb_aload_n (pc2 := 90) dX9_spread_89 rfl rfl rfl ?_
                  refine pb_iload_n (pc2 := 91) dX9_spread_90 rfl rfl rfl ?_
                  refine pb_callV (pc2 := 94) (k2 := 0) (n2 := 0) mwX9_sumUp pb_cl1.1 iwX9_sumUp sxX1_sumUp rfl mlX9_85 dX9_spread_91 (by first | assumption | exact hR.a rfl | exact hR.o | exact hC.o | exact hC.pal | exact hC.tub | exact hC.k _ _ rfl | exact hC.pot _ (by omega) | exact hC.are _ (by omega) | exact hC.arl _ (by omega) | exact hC.tbo _ (by omega) (by omega)) (t_sumUpC w hS8 hsz ho hc ha hmm hli9 (by omega) hd8 hs8 (hST.1.s _ 8 (cS_8 (by omega))) (hST.1.s _ 8 (cS_8 (by omega)))) (by omega) (by omega) (by omega) rfl rfl (Nat.le_of_ble_eq_true rfl) rfl (fun v h9 q9 _ => ?_)
                  obtain ⟨rfl, hd9, hs9, n9⟩ := q9
                  have hST := hST.s2 (cS_8 (a := 460 + (lv + 1)) (by omega)) (cS_8 (a := 464 + (lv + 1)) (by omega)) (cRow_scr hd9) (cRow_scr hs9) n9
                  have ho := hST.2.1
                  have hc := (n9 _ (by omega) (by omega)).trans hc
                  have ha := (n9 _ (by omega) (by omega)).trans ha
                  have hS9 := hS8.up hsz (fun x hx => n9 x (by omega) (by omega))
                  have hX9 : exC A h9 := by
                    refine ⟨(n9 _ (by omega) (by omega)).trans ((nb8 _ (by omega) (by omega) (by omega) (by omega) (by omega) (by omega) (by omega)).trans hX.1), fun i hi => ?_⟩
                    rw [n9 _ (by omega) (by omega), nb8 _ (by omega) (by omega) (by omega) (by omega) (by omega) (by omega) (by omega)]
                    exact hX.2 i hi
                  refine pb_aload_n (pc2 := 95) dX9_spread_94 rfl rfl rfl ?_
                  refine pb_aload_n (pc2 := 96) dX9_spread_95 rfl rfl rfl ?_
                  refine pb_iload_n (pc2 := 97) dX9_spread_96 rfl rfl rfl ?_
                  refine pb_iconst (x := nI 1) (pc2 := 98) dX9_spread_97 (by decide) rfl ?_
                  refine pb_iaddN (pc2 := 99) dX9_spread_98 rfl ?_
                  refine pb_iload (pc2 := 101) dX9_spread_99 rfl rfl ?_
                  refine pb_iconst (x := nI 1) (pc2 := 102) dX9_spread_101 (by decide) rfl ?_
                  refine pb_iaddN (pc2 := 103) dX9_spread_102 rfl ?_
                  refine pb_iload (pc2 := 105) dX9_spread_103 rfl rfl ?_
                  refine pb_iload (pc2 := 107) dX9_spread_105 rfl rfl ?_
                  refine pb_isubN (pc2 := 108) dX9_spread_107 (by omega) rfl ?_
                  refine pb_callV (pc2 := 111) (k2 := 0) (n2 := 0) mwX9_spread pb_cl1.1 iwX9_spread sxX1_spread rfl mlX9_58 dX9_spread_108 (by first | assumption | exact hR.a rfl | exact hR.o | exact hC.o | exact hC.pal | exact hC.tub | exact hC.k _ _ rfl | exact hC.pot _ (by omega) | exact hC.are _ (by omega) | exact hC.arl _ (by omega) | exact hC.tbo _ (by omega) (by omega)) (hrec (by omega) (m + 1) (n - (x + 1)) σ3 C3 (pb_un M3 lv (x + 1)) k3 h9 (by omega) hST hX9 hS9 hc ha hli8 (by rw [eQ8, pb_sum_un2 (by omega) (P0 m g2 (by omega))]; omega) hd9 hs9) (by omega) (by omega) (by omega) rfl rfl (Nat.le_of_ble_eq_true rfl) rfl (fun v h10 q10 _ => ?_)
                  obtain ⟨rfl, k10, C10, M10, hST, hc, ha, hag10, n10⟩ := q10
                  rw [eQ8] at hST
                  refine pb_iincM (lv2 := [_, _, _, _, _, _, _]) (pc2 := 114) dX9_spread_111 rfl (by omega) (by decide) rfl rfl ?_
                  refine pb_goto (tgt := 76) dX9_spread_114 (by decide) ?_
                  refine ihx _ C10 M10 k10 h10 (by omega) hST hc ha (fun i hi => ⟨by rw [(hag10 i hi).1]; exact (hag8 i hi).1, fun hi2 => by rw [(hag10 i hi).2, pb_un_ne _ _ (by omega)]; exact (hag i hi).2 hi2⟩) (fun x x1 x2 x3 x4 x5 x6 x7 => (n10 x x1 x2 x3 x4 x5 (by omega) (by omega)).trans ((n9 x (by omega) (by omega)).trans (nb8 x x1 x2 x3 x4 x5 x6 x7))) hfold
            refine pb_iload (pc2 := 72) dX9_spread_70 rfl rfl ?_
            refine pb_iconst (x := nI 1) (pc2 := 73) dX9_spread_72 (by decide) rfl ?_
            refine pb_isubN (pc2 := 74) dX9_spread_73 (by omega) rfl ?_
            refine pb_istore (lv2 := [_, _, _, _, _, _, _]) (pc2 := 76) dX9_spread_74 (by decide) rfl rfl ?_
            exact inner (n - 1) σ2 _ _ lv h6 (Nat.le_refl _) hST6 hc ha hag6 nb6 hfold
  refine pb_iload_n (pc2 := 7) dX9_spread_6 rfl rfl rfl ?_
  refine pb_istore (lv2 := [_, _, _, _, _, _, _]) (pc2 := 9) dX9_spread_7 (by decide) rfl rfl ?_
  exact outer (sz - f + 1) f σ C M k0 h _ (by omega) (Nat.le_refl _) hfsz hST hc ha (fun i hi => ⟨rfl, rfl⟩) (fun _ _ _ _ _ _ _ _ => rfl) hσf
theorem t_spreadC (w : pb_WF A) {l d sz N : Nat} {mem : Nat → Nat} (hl : l < 4) (hd30 : d ≤ 30000) (h24 : A 24 0 ≤ 6) (hsz : sz ≤ 12) (hmm : mmI (A 1 0) sz mem) (hN : N ≤ 8) : spCC Z h0 A l d sz N mem 0 6 :=
  b_spreadC w hl hd30 h24 hsz hmm hN (by omega) (by omega) (fun _ => b_spreadC w hl hd30 h24 hsz hmm hN (by omega) (by omega) (fun _ => b_spreadC w hl hd30 h24 hsz hmm hN (by omega) (by omega) (fun _ => b_spreadC w hl hd30 h24 hsz hmm hN (by omega) (by omega) (fun q => by omega))))
end PB40C

