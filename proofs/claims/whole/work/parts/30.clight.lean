/-! PALETTE AND LIGHT of the class -/
def pb_sh (A : pb_A) (l b : Nat) : Nat := if 0 < pb_sum 3 (fun s => pb_wt A l s b) then 1 else 0
def pb_LT (A : pb_A) (l : Nat) (h : pb_H) : Prop := (∀ s, s < 3 → cRow 8 (pb_wt A l s) (h (87 + s))) ∧ cRow 3 (fun s => pb_sum 8 (pb_wt A l s)) (h 75) ∧ ∃ F : Nat → Int32, h 76 = some (.inl (1, 8, F)) ∧ ∀ b, b < 8 → F b = nI (pb_sh A l b)
theorem pb_LT.up {A : pb_A} {l : Nat} {h h' : pb_H} (hL : pb_LT A l h) (hne : ∀ b, 75 ≤ b → b < 90 → h' b = h b) : pb_LT A l h' := by
  obtain ⟨h1, h2, h3⟩ := hL
  refine ⟨fun s hs => ?_, ?_, ?_⟩
  · rw [hne _ (by omega) (by omega)]; exact h1 s hs
  · rw [hne _ (by omega) (by omega)]; exact h2
  · rw [hne _ (by omega) (by omega)]; exact h3
theorem pb_isS_iff {A : pb_A} (w : pb_WF A) {x : Int32} : (nI 1 ≤ x ∧ x ≤ nI (2 ^ A 1 0 - 1)) ↔ pb_isS A x := by
  have ht := w.tubes
  obtain ⟨hp1, hp2⟩ := pb_2p ht
  constructor
  · intro h
    obtain ⟨c, h1, h2, rfl⟩ := nI_rng (by omega) h (by omega)
    exact ⟨(nI_ltI (by omega) (by omega)).mpr (by omega), (nI_ltI (by omega) (by omega)).mpr (by omega)⟩
  · intro h
    obtain ⟨s, h1, h2, h3, rfl⟩ := pb_isS_of w h
    exact ⟨(nI_leI (by omega) (by omega)).mpr (by omega), (nI_leI (by omega) (by omega)).mpr (by omega)⟩
theorem pb_CF.sh {A : pb_A} {h0 h h' : pb_H} (hC : pb_CF A h0 h) {F : Nat → Int32} (ha : h' 76 = some (.inl (1, 8, F))) (nb : ∀ b, b ≠ 76 → h' b = h b) : pb_CF A h0 h' := by
  exact pb_CF.mk (fun b hb => (nb b (by omega)).trans (hC.low b hb)) (fun a c e => (nb a (by first | exact cK_ne e rfl | (have := cK_rng e; omega))).trans (hC.k a c e)) (fun a n e => by rw [nb a (by first | exact cS_ne e rfl | (have := cS_rng e; omega))]; exact hC.s a n e) ((nb 60 (by omega)).trans hC.o) ((nb 61 (by omega)).trans hC.pal) (by rw [nb 65 (by omega)]; exact hC.wan) (fun i hi => by rw [nb _ (by omega)]; exact hC.kpr i hi) ((nb 71 (by omega)).trans hC.tub) (fun i hi => by rw [nb _ (by omega)]; exact hC.lmr i hi) (fun i hi => by rw [nb _ (by omega)]; exact hC.sgr i hi) (⟨F, ha⟩) (fun p hp => (nb _ (by omega)).trans (hC.pot p hp)) (fun p hp => by rw [nb _ (by omega)]; exact hC.ptr p hp) (fun a ha => (nb _ (by omega)).trans (hC.are a ha)) (fun a ha => (nb _ (by omega)).trans (hC.arl a ha)) (fun t h12 ht => (nb _ (by omega)).trans (hC.tbo t h12 ht)) (fun t h12 ht => by rw [nb _ (by omega)]; exact hC.tbd t h12 ht) (fun t h12 ht => by rw [nb _ (by omega)]; exact hC.tbs t h12 ht) (fun t ht ht2 => by have hz_ : A 1 0 ≤ t := ht; rw [nb _ (by omega), nb _ (by omega), nb _ (by omega)]; exact hC.tbn t ht ht2) (fun a i ha h10 hi => by rw [nb _ (by omega), nb _ (by omega), nb _ (by omega)]; exact hC.lyo a i ha h10 hi) (fun a i ha h10 hi => by unfold cCache; rw [nb _ (by omega), nb _ (by omega), nb _ (by omega), nb _ (by omega)]; exact hC.lyc a i ha h10 hi) (fun a i ha hi hi2 q hq => (nb _ (by omega)).trans (hC.lyn a i ha hi hi2 q hq)) (by rw [nb 68 (by omega)]; exact hC.mat) (by rw [nb 309 (by omega)]; exact hC.bst) (by rw [nb 69 (by omega), nb 411 (by omega), nb 413 (by omega)]; exact hC.cho) (by rw [nb 70 (by omega)]; exact hC.gla) (by rw [nb 500 (by omega)]; exact hC.glb) (fun a ha => by rw [nb a (by omega)]; exact hC.zer a ha)
theorem cS_w {s : Nat} (h : s < 3) : cS (87 + s) = some 8 := by
  unfold cS
  rw [if_pos (by omega)]
section PB30
variable {Z : pb_Z} {h h0 : pb_H} {A : pb_A}
theorem pb_bastG {y : pb_M} {d k n : Nat} {post : Option Value → pb_H → Prop} {pc : Nat} {lv : List (Option Value)} {st : List Value} {N a j v : Nat} {f : Nat → Int32} {pc2 : Nat} (ha : h a = some (.inl (1, N, f))) (hd : decode y.2.1 pc = .ok (.bastore, 1)) (h2 : 2 ≤ a) (hv : v ≤ 1) (hj : j < N) (hN : N < 2 ^ 31) (hp : pc + 1 = pc2) (kk : ∀ h', h' a = some (.inl (1, N, fun i => if i = j then nI v else f i)) → (∀ b, b ≠ a → h' b = h b) → pb_S Z y d k n post pc2 lv st h') : pb_S Z y d k n post pc lv (.int (nI v) :: .int (nI j) :: .ref a :: st) h := pb_bastore hd ha h2 (by
  have : v = 0 ∨ v = 1 := by omega
  rcases this with rfl | rfl
  · exact Or.inl rfl
  · exact Or.inr rfl) hj hN hp (kk _ (pb_set_self _ _ _) (fun _ hb => pb_set_ne _ _ hb))
theorem t_pfull (hC : pb_CF A h0 h) (ht : A 1 0 ≤ 12) : pb_T Z mX8_isFull 0 0 0 [.ref 61] h (pb_B (A 1 0 = 12) h) := by
  refine pb_T.of pnX8_isFull (Nat.le_of_ble_eq_true rfl) (lv := [some (.ref 61)]) rfl ?_
  refine pb_aload_n (pc2 := 1) dX8_isFull_0 rfl rfl rfl ?_
  refine pb_getf (pc2 := 4) flX8_17_X8 rfl dX8_isFull_1 (by first | assumption | exact hR.a rfl | exact hR.o | exact hC.o | exact hC.pal | exact hC.tub | exact hC.k _ _ rfl | exact hC.pot _ (by omega) | exact hC.are _ (by omega) | exact hC.arl _ (by omega) | exact hC.tbo _ (by omega) (by omega)) rfl rfl ?_
  refine pb_bipush (x := nI 12) (pc2 := 6) dX8_isFull_4 (by decide) rfl ?_
  refine pb_icmpN_lt (tgt := 13) (pc2 := 9) dX8_isFull_6 (by decide) rfl (by omega) (by omega) (fun q => ?_) (fun q => ?_)
  · refine pb_iconst (x := 0) (pc2 := 14) dX8_isFull_13 (by decide) rfl ?_
    exact pb_zreturn dX8_isFull_14 rfl (by first | exact Or.inl rfl | exact Or.inr rfl | assumption) (⟨Or.inr ⟨rfl, by omega⟩, rfl⟩)
  · refine pb_iconst (x := 1) (pc2 := 10) dX8_isFull_9 (by decide) rfl ?_
    refine pb_goto (tgt := 14) dX8_isFull_10 (by decide) ?_
    exact pb_zreturn dX8_isFull_14 rfl (by first | exact Or.inl rfl | exact Or.inr rfl | assumption) (⟨Or.inl ⟨rfl, by omega⟩, rfl⟩)
theorem t_at (w : pb_WF A) (hC : pb_CF A h0 h) (x : Int32) : pb_T Z mX8_at 1 0 0 [.ref 61, .int x] h (pb_PRef (A 1 0) 200 (pb_isT A x) x h) := by
  have htt := w.tubes
  refine pb_T.of pnX8_at (Nat.le_of_ble_eq_true rfl) (lv := [some (.ref 61), some (.int x)]) rfl ?_
  refine pb_iload_n (pc2 := 1) dX8_at_0 rfl rfl rfl ?_
  refine pb_iconst (x := nI 0) (pc2 := 2) dX8_at_1 (by decide) rfl ?_
  refine pb_aload_n (pc2 := 3) dX8_at_2 rfl rfl rfl ?_
  refine pb_getf (pc2 := 6) flX8_17_X8 rfl dX8_at_3 (by first | assumption | exact hR.a rfl | exact hR.o | exact hC.o | exact hC.pal | exact hC.tub | exact hC.k _ _ rfl | exact hC.pot _ (by omega) | exact hC.are _ (by omega) | exact hC.arl _ (by omega) | exact hC.tbo _ (by omega) (by omega)) rfl rfl ?_
  refine pb_iconst (x := nI 1) (pc2 := 7) dX8_at_6 (by decide) rfl ?_
  refine pb_isub (pc2 := 8) dX8_at_7 rfl ?_
  refine pb_callSN (pc2 := 11) (k2 := 0) (n2 := 0) mwX11_between swX11_between rfl mnX8_25 dX8_at_8 (t_between x (nI 0) (nI (A 1 0) - nI 1)) (by omega) (by omega) (by omega) rfl rfl (Nat.le_of_ble_eq_true rfl) rfl (pb_kB (fun q => ?_) (fun q => ?_))
  · obtain ⟨t, ht, rfl⟩ := pb_isT_of w q
    refine pb_ifF_eq (tgt := 23) (pc2 := 14) dX8_at_11 (by decide) rfl (by decide) ?_
    refine pb_aload_n (pc2 := 15) dX8_at_14 rfl rfl rfl ?_
    refine pb_getf (pc2 := 18) flX8_11_X8 rfl dX8_at_15 (by first | assumption | exact hR.a rfl | exact hR.o | exact hC.o | exact hC.pal | exact hC.tub | exact hC.k _ _ rfl | exact hC.pot _ (by omega) | exact hC.are _ (by omega) | exact hC.arl _ (by omega) | exact hC.tbo _ (by omega) (by omega)) rfl rfl ?_
    refine pb_iload_n (pc2 := 19) dX8_at_18 rfl rfl rfl ?_
    refine pb_aald (pc2 := 20) (by first | assumption | exact hR.a rfl | exact hR.o | exact hC.o | exact hC.pal | exact hC.tub | exact hC.k _ _ rfl | exact hC.pot _ (by omega) | exact hC.are _ (by omega) | exact hC.arl _ (by omega) | exact hC.tbo _ (by omega) (by omega)) dX8_at_19 (by decide) (by omega) (by omega) (cTo_at (by omega)) rfl ?_
    refine pb_goto (tgt := 24) dX8_at_20 (by decide) ?_
    exact pb_areturn dX8_at_24 rfl (Or.inl ⟨_, rfl⟩) (by first | exact Or.inl rfl | exact Or.inr ⟨_, rfl⟩) (⟨rfl, Or.inl ⟨t, ht, rfl, rfl⟩⟩)
  · refine pb_ifT_eq (tgt := 23) dX8_at_11 (by decide) (rfl) ?_
    refine pb_anull (pc2 := 24) dX8_at_23 rfl ?_
    exact pb_areturn dX8_at_24 rfl (Or.inl ⟨_, rfl⟩) (by first | exact Or.inl rfl | exact Or.inr ⟨_, rfl⟩) (⟨rfl, Or.inr ⟨q, rfl⟩⟩)
theorem t_hasSet (w : pb_WF A) (hC : pb_CF A h0 h) (x : Int32) : pb_T Z mX8_hasSet 1 0 0 [.ref 61, .int x] h (pb_B (pb_isS A x) h) := by
  have htt := w.tubes
  obtain ⟨hp1, hp2⟩ := pb_2p htt
  refine pb_T.of pnX8_hasSet (Nat.le_of_ble_eq_true rfl) (lv := [some (.ref 61), some (.int x)]) rfl ?_
  refine pb_iload_n (pc2 := 1) dX8_hasSet_0 rfl rfl rfl ?_
  refine pb_iconst (x := nI 1) (pc2 := 2) dX8_hasSet_1 (by decide) rfl ?_
  refine pb_iconst (x := nI 1) (pc2 := 3) dX8_hasSet_2 (by decide) rfl ?_
  refine pb_aload_n (pc2 := 4) dX8_hasSet_3 rfl rfl rfl ?_
  refine pb_getf (pc2 := 7) flX8_17_X8 rfl dX8_hasSet_4 (by first | assumption | exact hR.a rfl | exact hR.o | exact hC.o | exact hC.pal | exact hC.tub | exact hC.k _ _ rfl | exact hC.pot _ (by omega) | exact hC.are _ (by omega) | exact hC.arl _ (by omega) | exact hC.tbo _ (by omega) (by omega)) rfl rfl ?_
  refine pb_ishl1 (pc2 := 8) dX8_hasSet_7 (by omega) rfl ?_
  refine pb_iconst (x := nI 1) (pc2 := 9) dX8_hasSet_8 (by decide) rfl ?_
  refine pb_isubN (pc2 := 10) dX8_hasSet_9 (by omega) rfl ?_
  refine pb_callSN (pc2 := 13) (k2 := 0) (n2 := 0) mwX11_between swX11_between rfl mnX8_25 dX8_hasSet_10 (t_between x (nI 1) (nI (2 ^ A 1 0 - 1))) (by omega) (by omega) (by omega) rfl rfl (Nat.le_of_ble_eq_true rfl) rfl (pb_kB (fun q => ?_) (fun q => ?_))
  · exact pb_zreturn dX8_hasSet_13 rfl (by first | exact Or.inl rfl | exact Or.inr rfl | assumption) (⟨Or.inl ⟨rfl, (pb_isS_iff w).mp q⟩, rfl⟩)
  · exact pb_zreturn dX8_hasSet_13 rfl (by first | exact Or.inl rfl | exact Or.inr rfl | assumption) (⟨Or.inr ⟨rfl, fun z => q ((pb_isS_iff w).mpr z)⟩, rfl⟩)
theorem t_potAt (hC : pb_CF A h0 h) (x : Int32) : pb_T Z mX11_potAt 1 0 0 [.ref 60, .int x] h (pb_PRef 10 100 (pb_in 0 9 x) x h) := by
  refine pb_T.of pnX11_potAt (Nat.le_of_ble_eq_true rfl) (lv := [some (.ref 60), some (.int x)]) rfl ?_
  refine pb_iload_n (pc2 := 1) dX11_potAt_0 rfl rfl rfl ?_
  refine pb_iconst (x := nI 0) (pc2 := 2) dX11_potAt_1 (by decide) rfl ?_
  refine pb_bipush (x := nI 9) (pc2 := 4) dX11_potAt_2 (by decide) rfl ?_
  refine pb_callS (pc2 := 7) (k2 := 0) (n2 := 0) mwX11_between swX11_between rfl mlX11_77 dX11_potAt_4 (t_between x (nI 0) (nI 9)) (by omega) (by omega) (by omega) rfl rfl (Nat.le_of_ble_eq_true rfl) rfl (pb_kB (fun q => ?_) (fun q => ?_))
  · obtain ⟨t, -, ht, rfl⟩ := nI_rng (by omega) q (by omega)
    refine pb_ifF_eq (tgt := 19) (pc2 := 10) dX11_potAt_7 (by decide) rfl (by decide) ?_
    refine pb_aload_n (pc2 := 11) dX11_potAt_10 rfl rfl rfl ?_
    refine pb_getf (pc2 := 14) flX11_25_X11 rfl dX11_potAt_11 (by first | assumption | exact hR.a rfl | exact hR.o | exact hC.o | exact hC.pal | exact hC.tub | exact hC.k _ _ rfl | exact hC.pot _ (by omega) | exact hC.are _ (by omega) | exact hC.arl _ (by omega) | exact hC.tbo _ (by omega) (by omega)) rfl rfl ?_
    refine pb_iload_n (pc2 := 15) dX11_potAt_14 rfl rfl rfl ?_
    refine pb_aald (pc2 := 16) (by first | assumption | exact hR.a rfl | exact hR.o | exact hC.o | exact hC.pal | exact hC.tub | exact hC.k _ _ rfl | exact hC.pot _ (by omega) | exact hC.are _ (by omega) | exact hC.arl _ (by omega) | exact hC.tbo _ (by omega) (by omega)) dX11_potAt_15 (by decide) (by omega) (by omega) (cTo_at (by omega)) rfl ?_
    refine pb_goto (tgt := 20) dX11_potAt_16 (by decide) ?_
    exact pb_areturn dX11_potAt_20 rfl (Or.inl ⟨_, rfl⟩) (by first | exact Or.inl rfl | exact Or.inr ⟨_, rfl⟩) (⟨rfl, Or.inl ⟨t, by omega, rfl, rfl⟩⟩)
  · refine pb_ifT_eq (tgt := 19) dX11_potAt_7 (by decide) (rfl) ?_
    refine pb_anull (pc2 := 20) dX11_potAt_19 rfl ?_
    exact pb_areturn dX11_potAt_20 rfl (Or.inl ⟨_, rfl⟩) (by first | exact Or.inl rfl | exact Or.inr ⟨_, rfl⟩) (⟨rfl, Or.inr ⟨q, rfl⟩⟩)
theorem t_areaAt (hC : pb_CF A h0 h) (x : Int32) : pb_T Z mX11_areaAt 1 0 0 [.ref 60, .int x] h (pb_PRef 10 110 (pb_in 0 9 x) x h) := by
  refine pb_T.of pnX11_areaAt (Nat.le_of_ble_eq_true rfl) (lv := [some (.ref 60), some (.int x)]) rfl ?_
  refine pb_iload_n (pc2 := 1) dX11_areaAt_0 rfl rfl rfl ?_
  refine pb_iconst (x := nI 0) (pc2 := 2) dX11_areaAt_1 (by decide) rfl ?_
  refine pb_bipush (x := nI 9) (pc2 := 4) dX11_areaAt_2 (by decide) rfl ?_
  refine pb_callS (pc2 := 7) (k2 := 0) (n2 := 0) mwX11_between swX11_between rfl mlX11_77 dX11_areaAt_4 (t_between x (nI 0) (nI 9)) (by omega) (by omega) (by omega) rfl rfl (Nat.le_of_ble_eq_true rfl) rfl (pb_kB (fun q => ?_) (fun q => ?_))
  · obtain ⟨t, -, ht, rfl⟩ := nI_rng (by omega) q (by omega)
    refine pb_ifF_eq (tgt := 19) (pc2 := 10) dX11_areaAt_7 (by decide) rfl (by decide) ?_
    refine pb_aload_n (pc2 := 11) dX11_areaAt_10 rfl rfl rfl ?_
    refine pb_getf (pc2 := 14) flX11_31_X11 rfl dX11_areaAt_11 (by first | assumption | exact hR.a rfl | exact hR.o | exact hC.o | exact hC.pal | exact hC.tub | exact hC.k _ _ rfl | exact hC.pot _ (by omega) | exact hC.are _ (by omega) | exact hC.arl _ (by omega) | exact hC.tbo _ (by omega) (by omega)) rfl rfl ?_
    refine pb_iload_n (pc2 := 15) dX11_areaAt_14 rfl rfl rfl ?_
    refine pb_aald (pc2 := 16) (by first | assumption | exact hR.a rfl | exact hR.o | exact hC.o | exact hC.pal | exact hC.tub | exact hC.k _ _ rfl | exact hC.pot _ (by omega) | exact hC.are _ (by omega) | exact hC.arl _ (by omega) | exact hC.tbo _ (by omega) (by omega)) dX11_areaAt_15 (by decide) (by omega) (by omega) (cTo_at (by omega)) rfl ?_
    refine pb_goto (tgt := 20) dX11_areaAt_16 (by decide) ?_
    exact pb_areturn dX11_areaAt_20 rfl (Or.inl ⟨_, rfl⟩) (by first | exact Or.inl rfl | exact Or.inr ⟨_, rfl⟩) (⟨rfl, Or.inl ⟨t, by omega, rfl, rfl⟩⟩)
  · refine pb_ifT_eq (tgt := 19) dX11_areaAt_7 (by decide) (rfl) ?_
    refine pb_anull (pc2 := 20) dX11_areaAt_19 rfl ?_
    exact pb_areturn dX11_areaAt_20 rfl (Or.inl ⟨_, rfl⟩) (by first | exact Or.inl rfl | exact Or.inr ⟨_, rfl⟩) (⟨rfl, Or.inr ⟨q, rfl⟩⟩)
set_option maxRecDepth 10000 in
theorem t_inPots (hC : pb_CF A h0 h) {t : Nat} (ht : t < 12) : pb_T Z mX11_inPots 1 0 0 [.ref 60, .int (nI t)] h (pb_E (some (.int (nI (pb_sum 10 (fun p => A 11 (12 * p + t)))))) h) := by
  refine pb_T.of pnX11_inPots (Nat.le_of_ble_eq_true rfl) (lv := [some (.ref 60), some (.int (nI t)), none, none]) rfl ?_
  have loop : ∀ (m i : Nat), 10 - i < m → i ≤ 10 → pb_S Z mX11_inPots 1 0 0 (pb_E (some (.int (nI (pb_sum 10 (fun p => A 11 (12 * p + t)))))) h) 4 [some (.ref 60), some (.int (nI t)), some (.int (nI (pb_sum i (fun p => A 11 (12 * p + t))))), some (.int (nI i))] [] h := by
    intro m
    induction m with
    | zero => intro i h1; omega
    | succ m ih =>
      intro i h1 h2
      refine pb_iload_n (pc2 := 5) dX11_inPots_4 rfl rfl rfl ?_
      refine pb_bipush (x := nI 10) (pc2 := 7) dX11_inPots_5 (by decide) rfl ?_
      refine pb_icmpN_ge (tgt := 29) (pc2 := 10) dX11_inPots_7 (by decide) rfl (by omega) (by omega) (fun q => ?_) (fun q => ?_)
      · have e : i = 10 := by omega
        subst e
        refine pb_iload_n (pc2 := 30) dX11_inPots_29 rfl rfl rfl ?_
        exact pb_ireturn dX11_inPots_30 rfl (⟨rfl, rfl⟩)
      · obtain ⟨F, hr, hF⟩ := hC.ptr i q
        refine pb_iload_n (pc2 := 11) dX11_inPots_10 rfl rfl rfl ?_
        refine pb_aload_n (pc2 := 12) dX11_inPots_11 rfl rfl rfl ?_
        refine pb_getf (pc2 := 15) flX11_25_X11 rfl dX11_inPots_12 (by first | assumption | exact hR.a rfl | exact hR.o | exact hC.o | exact hC.pal | exact hC.tub | exact hC.k _ _ rfl | exact hC.pot _ (by omega) | exact hC.are _ (by omega) | exact hC.arl _ (by omega) | exact hC.tbo _ (by omega) (by omega)) rfl rfl ?_
        refine pb_iload_n (pc2 := 16) dX11_inPots_15 rfl rfl rfl ?_
        refine pb_aald (pc2 := 17) (by first | assumption | exact hR.a rfl | exact hR.o | exact hC.o | exact hC.pal | exact hC.tub | exact hC.k _ _ rfl | exact hC.pot _ (by omega) | exact hC.are _ (by omega) | exact hC.arl _ (by omega) | exact hC.tbo _ (by omega) (by omega)) dX11_inPots_16 (by decide) (by omega) (by omega) (cTo_at (by omega)) rfl ?_
        refine pb_iload_n (pc2 := 18) dX11_inPots_17 rfl rfl rfl ?_
        refine pb_callV (pc2 := 21) (k2 := 0) (n2 := 0) mwX6_of pb_cl6.1 iwX6_of seX6_of rfl mlX11_167 dX11_inPots_18 (by first | assumption | exact hR.a rfl | exact hR.o | exact hC.o | exact hC.pal | exact hC.tub | exact hC.k _ _ rfl | exact hC.pot _ (by omega) | exact hC.are _ (by omega) | exact hC.arl _ (by omega) | exact hC.tbo _ (by omega) (by omega)) (t_of (hC.pot i q) hr ht) (by omega) (by omega) (by omega) rfl rfl (Nat.le_of_ble_eq_true rfl) rfl (pb_kE ?_)
        refine pb_iaddN (pc2 := 22) dX11_inPots_21 rfl ?_
        refine pb_top (v2 := .int (nI (pb_sum (i + 1) (fun p => A 11 (12 * p + t))))) (by rw [hF t ht]; rfl) ?_
        refine pb_istore_n (lv2 := [_, _, _, _]) (pc2 := 23) dX11_inPots_22 rfl (by decide) rfl rfl ?_
        refine pb_iincP (c0 := 1) (lv2 := [_, _, _, _]) (pc2 := 26) dX11_inPots_23 rfl (by decide) rfl rfl ?_
        refine pb_goto (tgt := 4) dX11_inPots_26 (by decide) ?_
        exact ih (i + 1) (by omega) (by omega)
  refine pb_iconst (x := nI 0) (pc2 := 1) dX11_inPots_0 (by decide) rfl ?_
  refine pb_istore_n (lv2 := [_, _, _, _]) (pc2 := 2) dX11_inPots_1 rfl (by decide) rfl rfl ?_
  refine pb_iconst (x := nI 0) (pc2 := 3) dX11_inPots_2 (by decide) rfl ?_
  refine pb_istore_n (lv2 := [_, _, _, _]) (pc2 := 4) dX11_inPots_3 rfl (by decide) rfl rfl ?_
  exact loop 11 0 (by omega) (by omega)
set_option maxRecDepth 10000 in
theorem t_allInPots (hC : pb_CF A h0 h) : pb_T Z mX11_allInPots 0 0 0 [.ref 60] h (pb_E (some (.int (nI (pb_sum 10 (fun p => pb_tot A p))))) h) := by
  refine pb_T.of pnX11_allInPots (Nat.le_of_ble_eq_true rfl) (lv := [some (.ref 60), none, none]) rfl ?_
  have loop : ∀ (m i : Nat), 10 - i < m → i ≤ 10 → pb_S Z mX11_allInPots 0 0 0 (pb_E (some (.int (nI (pb_sum 10 (fun p => pb_tot A p))))) h) 4 [some (.ref 60), some (.int (nI (pb_sum i (fun p => pb_tot A p)))), some (.int (nI i))] [] h := by
    intro m
    induction m with
    | zero => intro i h1; omega
    | succ m ih =>
      intro i h1 h2
      refine pb_iload_n (pc2 := 5) dX11_allInPots_4 rfl rfl rfl ?_
      refine pb_bipush (x := nI 10) (pc2 := 7) dX11_allInPots_5 (by decide) rfl ?_
      refine pb_icmpN_ge (tgt := 28) (pc2 := 10) dX11_allInPots_7 (by decide) rfl (by omega) (by omega) (fun q => ?_) (fun q => ?_)
      · have e : i = 10 := by omega
        subst e
        refine pb_iload_n (pc2 := 29) dX11_allInPots_28 rfl rfl rfl ?_
        exact pb_ireturn dX11_allInPots_29 rfl (⟨rfl, rfl⟩)
      · refine pb_iload_n (pc2 := 11) dX11_allInPots_10 rfl rfl rfl ?_
        refine pb_aload_n (pc2 := 12) dX11_allInPots_11 rfl rfl rfl ?_
        refine pb_getf (pc2 := 15) flX11_25_X11 rfl dX11_allInPots_12 (by first | assumption | exact hR.a rfl | exact hR.o | exact hC.o | exact hC.pal | exact hC.tub | exact hC.k _ _ rfl | exact hC.pot _ (by omega) | exact hC.are _ (by omega) | exact hC.arl _ (by omega) | exact hC.tbo _ (by omega) (by omega)) rfl rfl ?_
        refine pb_iload_n (pc2 := 16) dX11_allInPots_15 rfl rfl rfl ?_
        refine pb_aald (pc2 := 17) (by first | assumption | exact hR.a rfl | exact hR.o | exact hC.o | exact hC.pal | exact hC.tub | exact hC.k _ _ rfl | exact hC.pot _ (by omega) | exact hC.are _ (by omega) | exact hC.arl _ (by omega) | exact hC.tbo _ (by omega) (by omega)) dX11_allInPots_16 (by decide) (by omega) (by omega) (cTo_at (by omega)) rfl ?_
        refine pb_getf (pc2 := 20) flX11_151_X6 rfl dX11_allInPots_17 (by first | assumption | exact hR.a rfl | exact hR.o | exact hC.o | exact hC.pal | exact hC.tub | exact hC.k _ _ rfl | exact hC.pot _ (by omega) | exact hC.are _ (by omega) | exact hC.arl _ (by omega) | exact hC.tbo _ (by omega) (by omega)) rfl rfl ?_
        refine pb_iaddN (pc2 := 21) dX11_allInPots_20 rfl ?_
        refine pb_istore_n (lv2 := [_, _, _]) (pc2 := 22) dX11_allInPots_21 rfl (by decide) rfl rfl ?_
        refine pb_iincP (c0 := 1) (lv2 := [_, _, _]) (pc2 := 25) dX11_allInPots_22 rfl (by decide) rfl rfl ?_
        refine pb_goto (tgt := 4) dX11_allInPots_25 (by decide) ?_
        exact ih (i + 1) (by omega) (by omega)
  refine pb_iconst (x := nI 0) (pc2 := 1) dX11_allInPots_0 (by decide) rfl ?_
  refine pb_istore_n (lv2 := [_, _, _]) (pc2 := 2) dX11_allInPots_1 rfl (by decide) rfl rfl ?_
  refine pb_iconst (x := nI 0) (pc2 := 3) dX11_allInPots_2 (by decide) rfl ?_
  refine pb_istore_n (lv2 := [_, _, _]) (pc2 := 4) dX11_allInPots_3 rfl (by decide) rfl rfl ?_
  exact loop 11 0 (by omega) (by omega)
set_option maxRecDepth 10000 in
theorem t_allLayers (hC : pb_CF A h0 h) : pb_T Z mX11_allLayers 0 0 0 [.ref 60] h (pb_E (some (.int (nI (pb_sum 10 (A 13))))) h) := by
  refine pb_T.of pnX11_allLayers (Nat.le_of_ble_eq_true rfl) (lv := [some (.ref 60), none, none]) rfl ?_
  have loop : ∀ (m i : Nat), 10 - i < m → i ≤ 10 → pb_S Z mX11_allLayers 0 0 0 (pb_E (some (.int (nI (pb_sum 10 (A 13))))) h) 4 [some (.ref 60), some (.int (nI (pb_sum i (A 13)))), some (.int (nI i))] [] h := by
    intro m
    induction m with
    | zero => intro i h1; omega
    | succ m ih =>
      intro i h1 h2
      refine pb_iload_n (pc2 := 5) dX11_allLayers_4 rfl rfl rfl ?_
      refine pb_bipush (x := nI 10) (pc2 := 7) dX11_allLayers_5 (by decide) rfl ?_
      refine pb_icmpN_ge (tgt := 28) (pc2 := 10) dX11_allLayers_7 (by decide) rfl (by omega) (by omega) (fun q => ?_) (fun q => ?_)
      · have e : i = 10 := by omega
        subst e
        refine pb_iload_n (pc2 := 29) dX11_allLayers_28 rfl rfl rfl ?_
        exact pb_ireturn dX11_allLayers_29 rfl (⟨rfl, rfl⟩)
      · refine pb_iload_n (pc2 := 11) dX11_allLayers_10 rfl rfl rfl ?_
        refine pb_aload_n (pc2 := 12) dX11_allLayers_11 rfl rfl rfl ?_
        refine pb_getf (pc2 := 15) flX11_31_X11 rfl dX11_allLayers_12 (by first | assumption | exact hR.a rfl | exact hR.o | exact hC.o | exact hC.pal | exact hC.tub | exact hC.k _ _ rfl | exact hC.pot _ (by omega) | exact hC.are _ (by omega) | exact hC.arl _ (by omega) | exact hC.tbo _ (by omega) (by omega)) rfl rfl ?_
        refine pb_iload_n (pc2 := 16) dX11_allLayers_15 rfl rfl rfl ?_
        refine pb_aald (pc2 := 17) (by first | assumption | exact hR.a rfl | exact hR.o | exact hC.o | exact hC.pal | exact hC.tub | exact hC.k _ _ rfl | exact hC.pot _ (by omega) | exact hC.are _ (by omega) | exact hC.arl _ (by omega) | exact hC.tbo _ (by omega) (by omega)) dX11_allLayers_16 (by decide) (by omega) (by omega) (cTo_at (by omega)) rfl ?_
        refine pb_getf (pc2 := 20) flX11_217_X0 rfl dX11_allLayers_17 (by first | assumption | exact hR.a rfl | exact hR.o | exact hC.o | exact hC.pal | exact hC.tub | exact hC.k _ _ rfl | exact hC.pot _ (by omega) | exact hC.are _ (by omega) | exact hC.arl _ (by omega) | exact hC.tbo _ (by omega) (by omega)) rfl rfl ?_
        refine pb_iaddN (pc2 := 21) dX11_allLayers_20 rfl ?_
        refine pb_istore_n (lv2 := [_, _, _]) (pc2 := 22) dX11_allLayers_21 rfl (by decide) rfl rfl ?_
        refine pb_iincP (c0 := 1) (lv2 := [_, _, _]) (pc2 := 25) dX11_allLayers_22 rfl (by decide) rfl rfl ?_
        refine pb_goto (tgt := 4) dX11_allLayers_25 (by decide) ?_
        exact ih (i + 1) (by omega) (by omega)
  refine pb_iconst (x := nI 0) (pc2 := 1) dX11_allLayers_0 (by decide) rfl ?_
  refine pb_istore_n (lv2 := [_, _, _]) (pc2 := 2) dX11_allLayers_1 rfl (by decide) rfl rfl ?_
  refine pb_iconst (x := nI 0) (pc2 := 3) dX11_allLayers_2 (by decide) rfl ?_
  refine pb_istore_n (lv2 := [_, _, _]) (pc2 := 4) dX11_allLayers_3 rfl (by decide) rfl rfl ?_
  exact loop 11 0 (by omega) (by omega)
set_option maxRecDepth 10000 in
theorem t_allHeld (w : pb_WF A) (hC : pb_CF A h0 h) : pb_T Z mX8_allHeld 0 0 0 [.ref 61] h (pb_E (some (.int (nI (pb_sum (A 1 0) (A 4))))) h) := by
  have htt := w.tubes
  refine pb_T.of pnX8_allHeld (Nat.le_of_ble_eq_true rfl) (lv := [some (.ref 61), none, none]) rfl ?_
  have loop : ∀ (m i : Nat), A 1 0 - i < m → i ≤ A 1 0 → pb_S Z mX8_allHeld 0 0 0 (pb_E (some (.int (nI (pb_sum (A 1 0) (A 4))))) h) 4 [some (.ref 61), some (.int (nI (pb_sum i (A 4)))), some (.int (nI i))] [] h := by
    intro m
    induction m with
    | zero => intro i h1; omega
    | succ m ih =>
      intro i h1 h2
      refine pb_iload_n (pc2 := 5) dX8_allHeld_4 rfl rfl rfl ?_
      refine pb_aload_n (pc2 := 6) dX8_allHeld_5 rfl rfl rfl ?_
      refine pb_getf (pc2 := 9) flX8_17_X8 rfl dX8_allHeld_6 (by first | assumption | exact hR.a rfl | exact hR.o | exact hC.o | exact hC.pal | exact hC.tub | exact hC.k _ _ rfl | exact hC.pot _ (by omega) | exact hC.are _ (by omega) | exact hC.arl _ (by omega) | exact hC.tbo _ (by omega) (by omega)) rfl rfl ?_
      refine pb_icmpN_ge (tgt := 30) (pc2 := 12) dX8_allHeld_9 (by decide) rfl (by omega) (by omega) (fun q => ?_) (fun q => ?_)
      · have e : i = A 1 0 := by omega
        subst e
        refine pb_iload_n (pc2 := 31) dX8_allHeld_30 rfl rfl rfl ?_
        exact pb_ireturn dX8_allHeld_31 rfl (⟨rfl, rfl⟩)
      · refine pb_iload_n (pc2 := 13) dX8_allHeld_12 rfl rfl rfl ?_
        refine pb_aload_n (pc2 := 14) dX8_allHeld_13 rfl rfl rfl ?_
        refine pb_getf (pc2 := 17) flX8_11_X8 rfl dX8_allHeld_14 (by first | assumption | exact hR.a rfl | exact hR.o | exact hC.o | exact hC.pal | exact hC.tub | exact hC.k _ _ rfl | exact hC.pot _ (by omega) | exact hC.are _ (by omega) | exact hC.arl _ (by omega) | exact hC.tbo _ (by omega) (by omega)) rfl rfl ?_
        refine pb_iload_n (pc2 := 18) dX8_allHeld_17 rfl rfl rfl ?_
        refine pb_aald (pc2 := 19) (by first | assumption | exact hR.a rfl | exact hR.o | exact hC.o | exact hC.pal | exact hC.tub | exact hC.k _ _ rfl | exact hC.pot _ (by omega) | exact hC.are _ (by omega) | exact hC.arl _ (by omega) | exact hC.tbo _ (by omega) (by omega)) dX8_allHeld_18 (by decide) (by omega) (by omega) (cTo_at (by omega)) rfl ?_
        refine pb_getf (pc2 := 22) flX8_41_X10 rfl dX8_allHeld_19 (by first | assumption | exact hR.a rfl | exact hR.o | exact hC.o | exact hC.pal | exact hC.tub | exact hC.k _ _ rfl | exact hC.pot _ (by omega) | exact hC.are _ (by omega) | exact hC.arl _ (by omega) | exact hC.tbo _ (by omega) (by omega)) rfl rfl ?_
        refine pb_iaddN (pc2 := 23) dX8_allHeld_22 rfl ?_
        refine pb_istore_n (lv2 := [_, _, _]) (pc2 := 24) dX8_allHeld_23 rfl (by decide) rfl rfl ?_
        refine pb_iincP (c0 := 1) (lv2 := [_, _, _]) (pc2 := 27) dX8_allHeld_24 rfl (by decide) rfl rfl ?_
        refine pb_goto (tgt := 4) dX8_allHeld_27 (by decide) ?_
        exact ih (i + 1) (by omega) (by omega)
  refine pb_iconst (x := nI 0) (pc2 := 1) dX8_allHeld_0 (by decide) rfl ?_
  refine pb_istore_n (lv2 := [_, _, _]) (pc2 := 2) dX8_allHeld_1 rfl (by decide) rfl rfl ?_
  refine pb_iconst (x := nI 0) (pc2 := 3) dX8_allHeld_2 (by decide) rfl ?_
  refine pb_istore_n (lv2 := [_, _, _]) (pc2 := 4) dX8_allHeld_3 rfl (by decide) rfl rfl ?_
  exact loop (A 1 0 + 1) 0 (by omega) (by omega)
set_option maxRecDepth 10000 in
theorem t_allLaid (w : pb_WF A) (hC : pb_CF A h0 h) : pb_T Z mX8_allLaid 0 0 0 [.ref 61] h (pb_E (some (.int (nI (pb_sum (A 1 0) (A 5))))) h) := by
  have htt := w.tubes
  refine pb_T.of pnX8_allLaid (Nat.le_of_ble_eq_true rfl) (lv := [some (.ref 61), none, none]) rfl ?_
  have loop : ∀ (m i : Nat), A 1 0 - i < m → i ≤ A 1 0 → pb_S Z mX8_allLaid 0 0 0 (pb_E (some (.int (nI (pb_sum (A 1 0) (A 5))))) h) 4 [some (.ref 61), some (.int (nI (pb_sum i (A 5)))), some (.int (nI i))] [] h := by
    intro m
    induction m with
    | zero => intro i h1; omega
    | succ m ih =>
      intro i h1 h2
      refine pb_iload_n (pc2 := 5) dX8_allLaid_4 rfl rfl rfl ?_
      refine pb_aload_n (pc2 := 6) dX8_allLaid_5 rfl rfl rfl ?_
      refine pb_getf (pc2 := 9) flX8_17_X8 rfl dX8_allLaid_6 (by first | assumption | exact hR.a rfl | exact hR.o | exact hC.o | exact hC.pal | exact hC.tub | exact hC.k _ _ rfl | exact hC.pot _ (by omega) | exact hC.are _ (by omega) | exact hC.arl _ (by omega) | exact hC.tbo _ (by omega) (by omega)) rfl rfl ?_
      refine pb_icmpN_ge (tgt := 30) (pc2 := 12) dX8_allLaid_9 (by decide) rfl (by omega) (by omega) (fun q => ?_) (fun q => ?_)
      · have e : i = A 1 0 := by omega
        subst e
        refine pb_iload_n (pc2 := 31) dX8_allLaid_30 rfl rfl rfl ?_
        exact pb_ireturn dX8_allLaid_31 rfl (⟨rfl, rfl⟩)
      · refine pb_iload_n (pc2 := 13) dX8_allLaid_12 rfl rfl rfl ?_
        refine pb_aload_n (pc2 := 14) dX8_allLaid_13 rfl rfl rfl ?_
        refine pb_getf (pc2 := 17) flX8_11_X8 rfl dX8_allLaid_14 (by first | assumption | exact hR.a rfl | exact hR.o | exact hC.o | exact hC.pal | exact hC.tub | exact hC.k _ _ rfl | exact hC.pot _ (by omega) | exact hC.are _ (by omega) | exact hC.arl _ (by omega) | exact hC.tbo _ (by omega) (by omega)) rfl rfl ?_
        refine pb_iload_n (pc2 := 18) dX8_allLaid_17 rfl rfl rfl ?_
        refine pb_aald (pc2 := 19) (by first | assumption | exact hR.a rfl | exact hR.o | exact hC.o | exact hC.pal | exact hC.tub | exact hC.k _ _ rfl | exact hC.pot _ (by omega) | exact hC.are _ (by omega) | exact hC.arl _ (by omega) | exact hC.tbo _ (by omega) (by omega)) dX8_allLaid_18 (by decide) (by omega) (by omega) (cTo_at (by omega)) rfl ?_
        refine pb_getf (pc2 := 22) flX8_38_X10 rfl dX8_allLaid_19 (by first | assumption | exact hR.a rfl | exact hR.o | exact hC.o | exact hC.pal | exact hC.tub | exact hC.k _ _ rfl | exact hC.pot _ (by omega) | exact hC.are _ (by omega) | exact hC.arl _ (by omega) | exact hC.tbo _ (by omega) (by omega)) rfl rfl ?_
        refine pb_iaddN (pc2 := 23) dX8_allLaid_22 rfl ?_
        refine pb_istore_n (lv2 := [_, _, _]) (pc2 := 24) dX8_allLaid_23 rfl (by decide) rfl rfl ?_
        refine pb_iincP (c0 := 1) (lv2 := [_, _, _]) (pc2 := 27) dX8_allLaid_24 rfl (by decide) rfl rfl ?_
        refine pb_goto (tgt := 4) dX8_allLaid_27 (by decide) ?_
        exact ih (i + 1) (by omega) (by omega)
  refine pb_iconst (x := nI 0) (pc2 := 1) dX8_allLaid_0 (by decide) rfl ?_
  refine pb_istore_n (lv2 := [_, _, _]) (pc2 := 2) dX8_allLaid_1 rfl (by decide) rfl rfl ?_
  refine pb_iconst (x := nI 0) (pc2 := 3) dX8_allLaid_2 (by decide) rfl ?_
  refine pb_istore_n (lv2 := [_, _, _]) (pc2 := 4) dX8_allLaid_3 rfl (by decide) rfl rfl ?_
  exact loop (A 1 0 + 1) 0 (by omega) (by omega)
set_option maxRecDepth 10000 in
theorem t_allLost (w : pb_WF A) (hC : pb_CF A h0 h) : pb_T Z mX8_allLost 0 0 0 [.ref 61] h (pb_E (some (.int (nI (pb_sum (A 1 0) (A 6))))) h) := by
  have htt := w.tubes
  refine pb_T.of pnX8_allLost (Nat.le_of_ble_eq_true rfl) (lv := [some (.ref 61), none, none]) rfl ?_
  have loop : ∀ (m i : Nat), A 1 0 - i < m → i ≤ A 1 0 → pb_S Z mX8_allLost 0 0 0 (pb_E (some (.int (nI (pb_sum (A 1 0) (A 6))))) h) 4 [some (.ref 61), some (.int (nI (pb_sum i (A 6)))), some (.int (nI i))] [] h := by
    intro m
    induction m with
    | zero => intro i h1; omega
    | succ m ih =>
      intro i h1 h2
      refine pb_iload_n (pc2 := 5) dX8_allLost_4 rfl rfl rfl ?_
      refine pb_aload_n (pc2 := 6) dX8_allLost_5 rfl rfl rfl ?_
      refine pb_getf (pc2 := 9) flX8_17_X8 rfl dX8_allLost_6 (by first | assumption | exact hR.a rfl | exact hR.o | exact hC.o | exact hC.pal | exact hC.tub | exact hC.k _ _ rfl | exact hC.pot _ (by omega) | exact hC.are _ (by omega) | exact hC.arl _ (by omega) | exact hC.tbo _ (by omega) (by omega)) rfl rfl ?_
      refine pb_icmpN_ge (tgt := 30) (pc2 := 12) dX8_allLost_9 (by decide) rfl (by omega) (by omega) (fun q => ?_) (fun q => ?_)
      · have e : i = A 1 0 := by omega
        subst e
        refine pb_iload_n (pc2 := 31) dX8_allLost_30 rfl rfl rfl ?_
        exact pb_ireturn dX8_allLost_31 rfl (⟨rfl, rfl⟩)
      · refine pb_iload_n (pc2 := 13) dX8_allLost_12 rfl rfl rfl ?_
        refine pb_aload_n (pc2 := 14) dX8_allLost_13 rfl rfl rfl ?_
        refine pb_getf (pc2 := 17) flX8_11_X8 rfl dX8_allLost_14 (by first | assumption | exact hR.a rfl | exact hR.o | exact hC.o | exact hC.pal | exact hC.tub | exact hC.k _ _ rfl | exact hC.pot _ (by omega) | exact hC.are _ (by omega) | exact hC.arl _ (by omega) | exact hC.tbo _ (by omega) (by omega)) rfl rfl ?_
        refine pb_iload_n (pc2 := 18) dX8_allLost_17 rfl rfl rfl ?_
        refine pb_aald (pc2 := 19) (by first | assumption | exact hR.a rfl | exact hR.o | exact hC.o | exact hC.pal | exact hC.tub | exact hC.k _ _ rfl | exact hC.pot _ (by omega) | exact hC.are _ (by omega) | exact hC.arl _ (by omega) | exact hC.tbo _ (by omega) (by omega)) dX8_allLost_18 (by decide) (by omega) (by omega) (cTo_at (by omega)) rfl ?_
        refine pb_getf (pc2 := 22) flX8_29_X10 rfl dX8_allLost_19 (by first | assumption | exact hR.a rfl | exact hR.o | exact hC.o | exact hC.pal | exact hC.tub | exact hC.k _ _ rfl | exact hC.pot _ (by omega) | exact hC.are _ (by omega) | exact hC.arl _ (by omega) | exact hC.tbo _ (by omega) (by omega)) rfl rfl ?_
        refine pb_iaddN (pc2 := 23) dX8_allLost_22 rfl ?_
        refine pb_istore_n (lv2 := [_, _, _]) (pc2 := 24) dX8_allLost_23 rfl (by decide) rfl rfl ?_
        refine pb_iincP (c0 := 1) (lv2 := [_, _, _]) (pc2 := 27) dX8_allLost_24 rfl (by decide) rfl rfl ?_
        refine pb_goto (tgt := 4) dX8_allLost_27 (by decide) ?_
        exact ih (i + 1) (by omega) (by omega)
  refine pb_iconst (x := nI 0) (pc2 := 1) dX8_allLost_0 (by decide) rfl ?_
  refine pb_istore_n (lv2 := [_, _, _]) (pc2 := 2) dX8_allLost_1 rfl (by decide) rfl rfl ?_
  refine pb_iconst (x := nI 0) (pc2 := 3) dX8_allLost_2 (by decide) rfl ?_
  refine pb_istore_n (lv2 := [_, _, _]) (pc2 := 4) dX8_allLost_3 rfl (by decide) rfl rfl ?_
  exact loop (A 1 0 + 1) 0 (by omega) (by omega)
set_option maxRecDepth 10000 in
theorem t_bySight (w : pb_WF A) (hC : pb_CF A h0 h) {l s a : Nat} {F : Nat → Nat} (hL : pb_LT A l h) (hl : l < 4) (hs : s < 3) (ha : h a = some (.inl (0, 8, fun j => nI (F j)))) (hF : ∀ b, b < 8 → 0 < pb_wt A l s b → F b ≤ 10000) : pb_T Z mX4_bySight 0 0 0 [.ref 62, .int (nI s), .ref a] h (pb_E (some (.int (nI (pb_see A l s F)))) h) := by
  obtain ⟨hW, ⟨S, h75, hS⟩, -⟩ := hL
  obtain ⟨W, hw8, hW⟩ := hW s hs
  have hS1 := hS s hs
  have hwl : ∀ b, b < 8 → pb_wt A l s b ≤ 9801 := fun b hb => pb_wt_le w hl hs hb
  have hsum := pb_sum_bd (n := 8) hwl
  have hprod : ∀ b, b < 8 → pb_wt A l s b * F b ≤ 98010000 := fun b hb => by
    by_cases c : 0 < pb_wt A l s b
    · exact Nat.mul_le_mul (hwl b hb) (hF b hb c)
    · rw [show pb_wt A l s b = 0 by omega, Nat.zero_mul]; omega
  have hps := pb_sum_bd (n := 8) (f := fun b => pb_wt A l s b * F b) hprod
  refine pb_T.of pnX4_bySight (Nat.le_of_ble_eq_true rfl) (lv := [some (.ref 62), some (.int (nI s)), some (.ref a), none, none, none]) rfl ?_
  refine pb_aload_n (pc2 := 1) dX4_bySight_0 rfl rfl rfl ?_
  refine pb_getf (pc2 := 4) flX4_22_X4 rfl dX4_bySight_1 (by first | assumption | exact hR.a rfl | exact hR.o | exact hC.o | exact hC.pal | exact hC.tub | exact hC.k _ _ rfl | exact hC.pot _ (by omega) | exact hC.are _ (by omega) | exact hC.arl _ (by omega) | exact hC.tbo _ (by omega) (by omega)) rfl rfl ?_
  refine pb_iload_n (pc2 := 5) dX4_bySight_4 rfl rfl rfl ?_
  refine pb_iald (pc2 := 6) (by first | assumption | exact hR.a rfl | exact hR.o | exact hC.o | exact hC.pal | exact hC.tub | exact hC.k _ _ rfl | exact hC.pot _ (by omega) | exact hC.are _ (by omega) | exact hC.arl _ (by omega) | exact hC.tbo _ (by omega) (by omega)) ⟨by decide, rfl⟩ dX4_bySight_5 (by omega) (by omega) rfl ?_
  refine pb_top (v2 := .int (nI (pb_sum 8 (pb_wt A l s)))) (by rw [hS1]) ?_
  refine pb_ifN_gt (tgt := 11) (pc2 := 9) dX4_bySight_6 (by decide) rfl (by omega) (fun c => ?_) (fun c => ?_)
  · have loop : ∀ (m b : Nat), 8 - b < m → b ≤ 8 → pb_S Z mX4_bySight 0 0 0 (pb_E (some (.int (nI (pb_see A l s F)))) h) 24 [some (.ref 62), some (.int (nI s)), some (.ref a), some (.ref (87 + s)), some (.int (nI (pb_sum b (fun b => pb_wt A l s b * F b)))), some (.int (nI b))] [] h := by
      intro m
      induction m with
      | zero => intro b h1; omega
      | succ m ih =>
        intro b h1 h2
        refine pb_iload (pc2 := 26) dX4_bySight_24 rfl rfl ?_
        refine pb_bipush (x := nI 8) (pc2 := 28) dX4_bySight_26 (by decide) rfl ?_
        refine pb_icmpN_ge (tgt := 51) (pc2 := 31) dX4_bySight_28 (by decide) rfl (by omega) (by omega) (fun q => ?_) (fun q => ?_)
        · have e : b = 8 := by omega
          subst e
          refine pb_iload (pc2 := 53) dX4_bySight_51 rfl rfl ?_
          refine pb_aload_n (pc2 := 54) dX4_bySight_53 rfl rfl rfl ?_
          refine pb_getf (pc2 := 57) flX4_22_X4 rfl dX4_bySight_54 (by first | assumption | exact hR.a rfl | exact hR.o | exact hC.o | exact hC.pal | exact hC.tub | exact hC.k _ _ rfl | exact hC.pot _ (by omega) | exact hC.are _ (by omega) | exact hC.arl _ (by omega) | exact hC.tbo _ (by omega) (by omega)) rfl rfl ?_
          refine pb_iload_n (pc2 := 58) dX4_bySight_57 rfl rfl rfl ?_
          refine pb_iald (pc2 := 59) (by first | assumption | exact hR.a rfl | exact hR.o | exact hC.o | exact hC.pal | exact hC.tub | exact hC.k _ _ rfl | exact hC.pot _ (by omega) | exact hC.are _ (by omega) | exact hC.arl _ (by omega) | exact hC.tbo _ (by omega) (by omega)) ⟨by decide, rfl⟩ dX4_bySight_58 (by omega) (by omega) rfl ?_
          refine pb_top (v2 := .int (nI (pb_sum 8 (pb_wt A l s)))) (by rw [hS1]) ?_
          refine pb_idivN (pc2 := 60) dX4_bySight_59 (by omega) (by omega) (by omega) rfl ?_
          refine pb_top (v2 := .int (nI (pb_see A l s F))) (by unfold pb_see; rw [if_neg (by omega)]) ?_
          exact pb_ireturn dX4_bySight_60 rfl (⟨rfl, rfl⟩)
        · have hWb := hW b q
          refine pb_iload (pc2 := 33) dX4_bySight_31 rfl rfl ?_
          refine pb_aload_n (pc2 := 34) dX4_bySight_33 rfl rfl rfl ?_
          refine pb_iload (pc2 := 36) dX4_bySight_34 rfl rfl ?_
          refine pb_iald (pc2 := 37) (by first | assumption | exact hR.a rfl | exact hR.o | exact hC.o | exact hC.pal | exact hC.tub | exact hC.k _ _ rfl | exact hC.pot _ (by omega) | exact hC.are _ (by omega) | exact hC.arl _ (by omega) | exact hC.tbo _ (by omega) (by omega)) ⟨by decide, rfl⟩ dX4_bySight_36 (by omega) (by omega) rfl ?_
          refine pb_aload_n (pc2 := 38) dX4_bySight_37 rfl rfl rfl ?_
          refine pb_iload (pc2 := 40) dX4_bySight_38 rfl rfl ?_
          refine pb_iald (pc2 := 41) (by first | assumption | exact hR.a rfl | exact hR.o | exact hC.o | exact hC.pal | exact hC.tub | exact hC.k _ _ rfl | exact hC.pot _ (by omega) | exact hC.are _ (by omega) | exact hC.arl _ (by omega) | exact hC.tbo _ (by omega) (by omega)) ⟨by decide, rfl⟩ dX4_bySight_40 (by omega) (by omega) rfl ?_
          refine pb_imulN (pc2 := 42) dX4_bySight_41 rfl ?_
          refine pb_iaddN (pc2 := 43) dX4_bySight_42 rfl ?_
          refine pb_top (v2 := .int (nI (pb_sum (b + 1) (fun b => pb_wt A l s b * F b)))) (by rw [hWb]; rfl) ?_
          refine pb_istore (lv2 := [_, _, _, _, _, _]) (pc2 := 45) dX4_bySight_43 (by decide) rfl rfl ?_
          refine pb_iincP (c0 := 1) (lv2 := [_, _, _, _, _, _]) (pc2 := 48) dX4_bySight_45 rfl (by decide) rfl rfl ?_
          refine pb_goto (tgt := 24) dX4_bySight_48 (by decide) ?_
          exact ih (b + 1) (by omega) (by omega)
    refine pb_aload_n (pc2 := 12) dX4_bySight_11 rfl rfl rfl ?_
    refine pb_getf (pc2 := 15) flX4_19_X4 rfl dX4_bySight_12 (by first | assumption | exact hR.a rfl | exact hR.o | exact hC.o | exact hC.pal | exact hC.tub | exact hC.k _ _ rfl | exact hC.pot _ (by omega) | exact hC.are _ (by omega) | exact hC.arl _ (by omega) | exact hC.tbo _ (by omega) (by omega)) rfl rfl ?_
    refine pb_iload_n (pc2 := 16) dX4_bySight_15 rfl rfl rfl ?_
    refine pb_aald (pc2 := 17) (by first | assumption | exact hR.a rfl | exact hR.o | exact hC.o | exact hC.pal | exact hC.tub | exact hC.k _ _ rfl | exact hC.pot _ (by omega) | exact hC.are _ (by omega) | exact hC.arl _ (by omega) | exact hC.tbo _ (by omega) (by omega)) dX4_bySight_16 (by decide) (by omega) (by omega) (cTo_at (by omega)) rfl ?_
    refine pb_astore_n (lv2 := [_, _, _, _, _, _]) (pc2 := 18) dX4_bySight_17 rfl (by decide) rfl rfl ?_
    refine pb_iconst (x := nI 0) (pc2 := 19) dX4_bySight_18 (by decide) rfl ?_
    refine pb_istore (lv2 := [_, _, _, _, _, _]) (pc2 := 21) dX4_bySight_19 (by decide) rfl rfl ?_
    refine pb_iconst (x := nI 0) (pc2 := 22) dX4_bySight_21 (by decide) rfl ?_
    refine pb_istore (lv2 := [_, _, _, _, _, _]) (pc2 := 24) dX4_bySight_22 (by decide) rfl rfl ?_
    exact loop 9 0 (by omega) (by omega)
  · refine pb_iconst (x := nI 0) (pc2 := 10) dX4_bySight_9 (by decide) rfl ?_
    refine pb_top (v2 := .int (nI (pb_see A l s F))) (by unfold pb_see; rw [if_pos c]) ?_
    exact pb_ireturn dX4_bySight_10 rfl (⟨rfl, rfl⟩)
set_option maxRecDepth 10000 in
theorem t_farFrom (w : pb_WF A) (hC : pb_CF A h0 h) {l a t : Nat} {F T : Nat → Nat} (hL : pb_LT A l h) (hl : l < 4) (ha : h a = some (.inl (0, 8, fun j => nI (F j)))) (hF : ∀ s b, s < 3 → b < 8 → 0 < pb_wt A l s b → F b ≤ 10000) (ht : h t = some (.inl (0, 3, fun j => nI (T j)))) (hT : ∀ i, i < 3 → T i ≤ 10000) (hsee : ∀ s, s < 3 → pb_see A l s F ≤ 10000) : pb_T Z mX4_farFrom 1 0 0 [.ref 62, .ref t, .ref a] h (pb_E (some (.int (nI (pb_far A l (T 0) (T 1) (T 2) F)))) h) := by
  refine pb_T.of pnX4_farFrom (Nat.le_of_ble_eq_true rfl) (lv := [some (.ref 62), some (.ref t), some (.ref a), none, none]) rfl ?_
  have loop : ∀ (m i : Nat), 3 - i < m → i ≤ 3 → pb_S Z mX4_farFrom 1 0 0 (pb_E (some (.int (nI (pb_far A l (T 0) (T 1) (T 2) F)))) h) 5 [some (.ref 62), some (.ref t), some (.ref a), some (.int (nI (pb_sum i (fun s => pb_abs (pb_see A l s F) (T s))))), some (.int (nI i))] [] h := by
    intro m
    induction m with
    | zero => intro i h1; omega
    | succ m ih =>
      intro i h1 h2
      refine pb_iload (pc2 := 7) dX4_farFrom_5 rfl rfl ?_
      refine pb_iconst (x := nI 3) (pc2 := 8) dX4_farFrom_7 (by decide) rfl ?_
      refine pb_icmpN_ge (tgt := 35) (pc2 := 11) dX4_farFrom_8 (by decide) rfl (by omega) (by omega) (fun q => ?_) (fun q => ?_)
      · have e : i = 3 := by omega
        subst e
        refine pb_iload_n (pc2 := 36) dX4_farFrom_35 rfl rfl rfl ?_
        refine pb_top (v2 := .int (nI (pb_far A l (T 0) (T 1) (T 2) F))) (by unfold pb_far; simp only [pb_sum, Nat.zero_add]) ?_
        exact pb_ireturn dX4_farFrom_36 rfl (⟨rfl, rfl⟩)
      · have hTi := hT i q
        have hsi := hsee i q
        refine pb_iload_n (pc2 := 12) dX4_farFrom_11 rfl rfl rfl ?_
        refine pb_aload_n (pc2 := 13) dX4_farFrom_12 rfl rfl rfl ?_
        refine pb_iload (pc2 := 15) dX4_farFrom_13 rfl rfl ?_
        refine pb_aload_n (pc2 := 16) dX4_farFrom_15 rfl rfl rfl ?_
        refine pb_callV (pc2 := 19) (k2 := 0) (n2 := 0) mwX4_bySight pb_cl4.1 iwX4_bySight seX4_bySight rfl mlX4_36 dX4_farFrom_16 (by first | assumption | exact hR.a rfl | exact hR.o | exact hC.o | exact hC.pal | exact hC.tub | exact hC.k _ _ rfl | exact hC.pot _ (by omega) | exact hC.are _ (by omega) | exact hC.arl _ (by omega) | exact hC.tbo _ (by omega) (by omega)) (t_bySight w hC hL hl q ha (fun b hb => hF i b q hb)) (by omega) (by omega) (by omega) rfl rfl (Nat.le_of_ble_eq_true rfl) rfl (pb_kE ?_)
        refine pb_aload_n (pc2 := 20) dX4_farFrom_19 rfl rfl rfl ?_
        refine pb_iload (pc2 := 22) dX4_farFrom_20 rfl rfl ?_
        refine pb_iald (pc2 := 23) (by first | assumption | exact hR.a rfl | exact hR.o | exact hC.o | exact hC.pal | exact hC.tub | exact hC.k _ _ rfl | exact hC.pot _ (by omega) | exact hC.are _ (by omega) | exact hC.arl _ (by omega) | exact hC.tbo _ (by omega) (by omega)) ⟨by decide, rfl⟩ dX4_farFrom_22 (by omega) (by omega) rfl ?_
        refine pb_isub (pc2 := 24) dX4_farFrom_23 rfl ?_
        refine pb_mabsN (pc2 := 27) rfl mlX4_40 dX4_farFrom_24 (by omega) (by omega) (by omega) (Nat.le_of_ble_eq_true rfl) rfl ?_
        refine pb_iaddN (pc2 := 28) dX4_farFrom_27 rfl ?_
        refine pb_istore_n (lv2 := [_, _, _, _, _]) (pc2 := 29) dX4_farFrom_28 rfl (by decide) rfl rfl ?_
        refine pb_iincP (c0 := 1) (lv2 := [_, _, _, _, _]) (pc2 := 32) dX4_farFrom_29 rfl (by decide) rfl rfl ?_
        refine pb_goto (tgt := 5) dX4_farFrom_32 (by decide) ?_
        exact ih (i + 1) (by omega) (by omega)
  refine pb_iconst (x := nI 0) (pc2 := 1) dX4_farFrom_0 (by decide) rfl ?_
  refine pb_istore_n (lv2 := [_, _, _, _, _]) (pc2 := 2) dX4_farFrom_1 rfl (by decide) rfl rfl ?_
  refine pb_iconst (x := nI 0) (pc2 := 3) dX4_farFrom_2 (by decide) rfl ?_
  refine pb_istore (lv2 := [_, _, _, _, _]) (pc2 := 5) dX4_farFrom_3 (by decide) rfl rfl ?_
  exact loop 4 0 (by omega) (by omega)
set_option maxRecDepth 10000 in
theorem t_shine (w : pb_WF A) (hC : pb_CF A h0 h) {l : Nat} (hl : l < 4) : pb_T Z mX4_shine 1 0 0 [.ref 62, .int (nI l)] h (fun v h' => v = none ∧ pb_CF A h0 h' ∧ pb_LT A l h' ∧ ∀ b, b < 75 ∨ 90 ≤ b → h' b = h b) := by
  refine pb_T.of pnX4_shine (Nat.le_of_ble_eq_true rfl) (lv := [some (.ref 62), some (.int (nI l)), none, none]) rfl ?_
  refine pb_aload_n (pc2 := 1) dX4_shine_0 rfl rfl rfl ?_
  refine pb_getf (pc2 := 4) flX4_22_X4 rfl dX4_shine_1 (by first | assumption | exact hR.a rfl | exact hR.o | exact hC.o | exact hC.pal | exact hC.tub | exact hC.k _ _ rfl | exact hC.pot _ (by omega) | exact hC.are _ (by omega) | exact hC.arl _ (by omega) | exact hC.tbo _ (by omega) (by omega)) rfl rfl ?_
  refine pb_iconst (x := nI 0) (pc2 := 5) dX4_shine_4 (by decide) rfl ?_
  refine pb_callS (pc2 := 8) (k2 := 0) (n2 := 0) mwJ7_fill_53178 swJ7_fill_53178 rfl mlX4_30 dX4_shine_5 (t_fill (c := 0) (n := 3) (hC.s 75 3 rfl) (by omega) (by omega)) (by omega) (by omega) (by omega) rfl rfl (Nat.le_of_ble_eq_true rfl) rfl (pb_kW (fun h1 S h75 hS hne1 => ?_))
  have hC1 := hC.sc (a := 75) rfl h75 hne1
  have outer : ∀ (m b : Nat) (W : Nat → Nat → Nat) (S : Nat → Nat) (B : Nat → Int32) (h' : pb_H) (o3 : Option Value), 8 - b < m → b ≤ 8 → pb_CF A h0 h' → (∀ s, s < 3 → h' (87 + s) = some (.inl (0, 8, fun j => nI (W s j))) ∧ ∀ j, j < b → W s j = pb_wt A l s j) → h' 75 = some (.inl (0, 3, fun j => nI (S j))) → (∀ s, s < 3 → S s = pb_sum b (pb_wt A l s)) → h' 76 = some (.inl (1, 8, B)) → (∀ j, j < b → B j = nI (pb_sh A l j)) → (∀ x, x < 75 ∨ 90 ≤ x → h' x = h x) → pb_S Z mX4_shine 1 0 0 (fun v h' => v = none ∧ pb_CF A h0 h' ∧ pb_LT A l h' ∧ ∀ b, b < 75 ∨ 90 ≤ b → h' b = h b) 10 [some (.ref 62), some (.int (nI l)), some (.int (nI b)), o3] [] h' := by
    intro m
    induction m with
    | zero => intro b W S B h' o3 g1; omega
    | succ m ih =>
      intro b W S B h' o3 g1 g2 hC hW h75 hS h76 hB hne
      refine pb_iload_n (pc2 := 11) dX4_shine_10 rfl rfl rfl ?_
      refine pb_bipush (x := nI 8) (pc2 := 13) dX4_shine_11 (by decide) rfl ?_
      refine pb_icmpN_ge (tgt := 109) (pc2 := 16) dX4_shine_13 (by decide) rfl (by omega) (by omega) (fun q => ?_) (fun q => ?_)
      · have e : b = 8 := by omega
        subst e
        exact pb_return dX4_shine_109 rfl (⟨rfl, hC, ⟨fun s hs => ⟨W s, (hW s hs).1, (hW s hs).2⟩, ⟨S, h75, hS⟩, B, h76, hB⟩, hne⟩)
      · obtain ⟨Lr, hlr, hLr⟩ := hC.lmr l hl
        have inner : ∀ (m2 i : Nat) (W : Nat → Nat → Nat) (S : Nat → Nat) (B : Nat → Int32) (h' : pb_H), 3 - i < m2 → i ≤ 3 → pb_CF A h0 h' → (∀ s, s < 3 → h' (87 + s) = some (.inl (0, 8, fun j => nI (W s j))) ∧ ∀ j, j < (if s < i then b + 1 else b) → W s j = pb_wt A l s j) → h' 75 = some (.inl (0, 3, fun j => nI (S j))) → (∀ s, s < 3 → S s = pb_sum (if s < i then b + 1 else b) (pb_wt A l s)) → h' 76 = some (.inl (1, 8, B)) → (∀ j, j < b → B j = nI (pb_sh A l j)) → B b = nI (if 0 < pb_sum i (fun s => pb_wt A l s b) then 1 else 0) → (∀ x, x < 75 ∨ 90 ≤ x → h' x = h x) → (h' (80 + l) = some (.inl (0, 8, fun j => nI (Lr j)))) → pb_S Z mX4_shine 1 0 0 (fun v h' => v = none ∧ pb_CF A h0 h' ∧ pb_LT A l h' ∧ ∀ b, b < 75 ∨ 90 ≤ b → h' b = h b) 25 [some (.ref 62), some (.int (nI l)), some (.int (nI b)), some (.int (nI i))] [] h' := by
          intro m2
          induction m2 with
          | zero => intro i W S B h' k1; omega
          | succ m2 ih2 =>
            intro i W S B h' k1 k2 hC hW h75 hS h76 hB hBb hne hlr
            refine pb_iload_n (pc2 := 26) dX4_shine_25 rfl rfl rfl ?_
            refine pb_iconst (x := nI 3) (pc2 := 27) dX4_shine_26 (by decide) rfl ?_
            refine pb_icmpN_ge (tgt := 103) (pc2 := 30) dX4_shine_27 (by decide) rfl (by omega) (by omega) (fun c => ?_) (fun c => ?_)
            · have e : i = 3 := by omega
              subst e
              refine pb_iincP (c0 := 1) (lv2 := [_, _, _, _]) (pc2 := 106) dX4_shine_103 rfl (by decide) rfl rfl ?_
              refine pb_goto (tgt := 10) dX4_shine_106 (by decide) ?_
              refine ih (b + 1) W S B h' _ (by omega) (by omega) hC (fun s hs => ⟨(hW s hs).1, fun j hj => (hW s hs).2 j (by rw [if_pos hs]; exact hj)⟩) h75 (fun s hs => by rw [hS s hs, if_pos hs]) h76 (fun j hj => ?_) hne
              by_cases e : j = b
              · rw [e, hBb]; rfl
              · exact hB j (by omega)
            · obtain ⟨E, he, hE⟩ := hC.sgr i c
              have hwi := (hW i c).1
              have hwtl := pb_wt_le w hl c q
              have eLE : Lr b * E b = pb_wt A l i b := by rw [hLr b q, hE b q]; rfl
              refine pb_aload_n (pc2 := 31) dX4_shine_30 rfl rfl rfl ?_
              refine pb_getf (pc2 := 34) flX4_19_X4 rfl dX4_shine_31 (by first | assumption | exact hR.a rfl | exact hR.o | exact hC.o | exact hC.pal | exact hC.tub | exact hC.k _ _ rfl | exact hC.pot _ (by omega) | exact hC.are _ (by omega) | exact hC.arl _ (by omega) | exact hC.tbo _ (by omega) (by omega)) rfl rfl ?_
              refine pb_iload_n (pc2 := 35) dX4_shine_34 rfl rfl rfl ?_
              refine pb_aald (pc2 := 36) (by first | assumption | exact hR.a rfl | exact hR.o | exact hC.o | exact hC.pal | exact hC.tub | exact hC.k _ _ rfl | exact hC.pot _ (by omega) | exact hC.are _ (by omega) | exact hC.arl _ (by omega) | exact hC.tbo _ (by omega) (by omega)) dX4_shine_35 (by decide) (by omega) (by omega) (cTo_at (by omega)) rfl ?_
              refine pb_iload_n (pc2 := 37) dX4_shine_36 rfl rfl rfl ?_
              refine pb_aload_n (pc2 := 38) dX4_shine_37 rfl rfl rfl ?_
              refine pb_getf (pc2 := 41) flX4_11_X4 rfl dX4_shine_38 (by first | assumption | exact hR.a rfl | exact hR.o | exact hC.o | exact hC.pal | exact hC.tub | exact hC.k _ _ rfl | exact hC.pot _ (by omega) | exact hC.are _ (by omega) | exact hC.arl _ (by omega) | exact hC.tbo _ (by omega) (by omega)) rfl rfl ?_
              refine pb_iload_n (pc2 := 42) dX4_shine_41 rfl rfl rfl ?_
              refine pb_aald (pc2 := 43) (by first | assumption | exact hR.a rfl | exact hR.o | exact hC.o | exact hC.pal | exact hC.tub | exact hC.k _ _ rfl | exact hC.pot _ (by omega) | exact hC.are _ (by omega) | exact hC.arl _ (by omega) | exact hC.tbo _ (by omega) (by omega)) dX4_shine_42 (by decide) (by omega) (by omega) (cTo_at (by omega)) rfl ?_
              refine pb_iload_n (pc2 := 44) dX4_shine_43 rfl rfl rfl ?_
              refine pb_iald (pc2 := 45) (by first | assumption | exact hR.a rfl | exact hR.o | exact hC.o | exact hC.pal | exact hC.tub | exact hC.k _ _ rfl | exact hC.pot _ (by omega) | exact hC.are _ (by omega) | exact hC.arl _ (by omega) | exact hC.tbo _ (by omega) (by omega)) ⟨by decide, rfl⟩ dX4_shine_44 (by omega) (by omega) rfl ?_
              refine pb_aload_n (pc2 := 46) dX4_shine_45 rfl rfl rfl ?_
              refine pb_getf (pc2 := 49) flX4_16_X4 rfl dX4_shine_46 (by first | assumption | exact hR.a rfl | exact hR.o | exact hC.o | exact hC.pal | exact hC.tub | exact hC.k _ _ rfl | exact hC.pot _ (by omega) | exact hC.are _ (by omega) | exact hC.arl _ (by omega) | exact hC.tbo _ (by omega) (by omega)) rfl rfl ?_
              refine pb_iload_n (pc2 := 50) dX4_shine_49 rfl rfl rfl ?_
              refine pb_aald (pc2 := 51) (by first | assumption | exact hR.a rfl | exact hR.o | exact hC.o | exact hC.pal | exact hC.tub | exact hC.k _ _ rfl | exact hC.pot _ (by omega) | exact hC.are _ (by omega) | exact hC.arl _ (by omega) | exact hC.tbo _ (by omega) (by omega)) dX4_shine_50 (by decide) (by omega) (by omega) (cTo_at (by omega)) rfl ?_
              refine pb_iload_n (pc2 := 52) dX4_shine_51 rfl rfl rfl ?_
              refine pb_iald (pc2 := 53) (by first | assumption | exact hR.a rfl | exact hR.o | exact hC.o | exact hC.pal | exact hC.tub | exact hC.k _ _ rfl | exact hC.pot _ (by omega) | exact hC.are _ (by omega) | exact hC.arl _ (by omega) | exact hC.tbo _ (by omega) (by omega)) ⟨by decide, rfl⟩ dX4_shine_52 (by omega) (by omega) rfl ?_
              refine pb_imulN (pc2 := 54) dX4_shine_53 rfl ?_
              refine pb_top (v2 := .int (nI (pb_wt A l i b))) (by rw [eLE]) ?_
              refine pb_iastG (pc2 := 55) hwi dX4_shine_54 (by omega) (by omega) (by omega) rfl (fun h2 hw2 hn2 => ?_)
              have hC2 := hC.sc (cS_w c) hw2 hn2
              have h75 : h2 75 = _ := (hn2 75 (by omega)).trans h75
              have h76 : h2 76 = _ := (hn2 76 (by omega)).trans h76
              have hlr : h2 (80 + l) = _ := (hn2 (80 + l) (by omega)).trans hlr
              clear hC
              have hC := hC2
              have esum : S i + pb_wt A l i b = pb_sum (b + 1) (pb_wt A l i) := by
                rw [hS i c, if_neg (by omega)]; rfl
              refine pb_aload_n (pc2 := 56) dX4_shine_55 rfl rfl rfl ?_
              refine pb_getf (pc2 := 59) flX4_22_X4 rfl dX4_shine_56 (by first | assumption | exact hR.a rfl | exact hR.o | exact hC.o | exact hC.pal | exact hC.tub | exact hC.k _ _ rfl | exact hC.pot _ (by omega) | exact hC.are _ (by omega) | exact hC.arl _ (by omega) | exact hC.tbo _ (by omega) (by omega)) rfl rfl ?_
              refine pb_iload_n (pc2 := 60) dX4_shine_59 rfl rfl rfl ?_
              refine pb_dup2 (pc2 := 61) dX4_shine_60 rfl rfl rfl ?_
              refine pb_iald (pc2 := 62) (by first | assumption | exact hR.a rfl | exact hR.o | exact hC.o | exact hC.pal | exact hC.tub | exact hC.k _ _ rfl | exact hC.pot _ (by omega) | exact hC.are _ (by omega) | exact hC.arl _ (by omega) | exact hC.tbo _ (by omega) (by omega)) ⟨by decide, rfl⟩ dX4_shine_61 (by omega) (by omega) rfl ?_
              refine pb_aload_n (pc2 := 63) dX4_shine_62 rfl rfl rfl ?_
              refine pb_getf (pc2 := 66) flX4_19_X4 rfl dX4_shine_63 (by first | assumption | exact hR.a rfl | exact hR.o | exact hC.o | exact hC.pal | exact hC.tub | exact hC.k _ _ rfl | exact hC.pot _ (by omega) | exact hC.are _ (by omega) | exact hC.arl _ (by omega) | exact hC.tbo _ (by omega) (by omega)) rfl rfl ?_
              refine pb_iload_n (pc2 := 67) dX4_shine_66 rfl rfl rfl ?_
              refine pb_aald (pc2 := 68) (by first | assumption | exact hR.a rfl | exact hR.o | exact hC.o | exact hC.pal | exact hC.tub | exact hC.k _ _ rfl | exact hC.pot _ (by omega) | exact hC.are _ (by omega) | exact hC.arl _ (by omega) | exact hC.tbo _ (by omega) (by omega)) dX4_shine_67 (by decide) (by omega) (by omega) (cTo_at (by omega)) rfl ?_
              refine pb_iload_n (pc2 := 69) dX4_shine_68 rfl rfl rfl ?_
              refine pb_iald (pc2 := 70) (by first | assumption | exact hR.a rfl | exact hR.o | exact hC.o | exact hC.pal | exact hC.tub | exact hC.k _ _ rfl | exact hC.pot _ (by omega) | exact hC.are _ (by omega) | exact hC.arl _ (by omega) | exact hC.tbo _ (by omega) (by omega)) ⟨by decide, rfl⟩ dX4_shine_69 (by omega) (by omega) rfl ?_
              refine pb_top (v2 := .int (nI (pb_wt A l i b))) (by rw [pb_un_self]) ?_
              refine pb_iaddN (pc2 := 71) dX4_shine_70 rfl ?_
              refine pb_iastG (pc2 := 72) h75 dX4_shine_71 (by omega) (by omega) (by omega) rfl (fun h3 h75 hn3 => ?_)
              have hC3 := hC.sc (a := 75) rfl h75 hn3
              have h76 : h3 76 = _ := (hn3 76 (by omega)).trans h76
              have hlr : h3 (80 + l) = _ := (hn3 (80 + l) (by omega)).trans hlr
              have hw3 : h3 (87 + i) = _ := (hn3 (87 + i) (by omega)).trans hw2
              clear hC
              have hC := hC3
              refine pb_aload_n (pc2 := 73) dX4_shine_72 rfl rfl rfl ?_
              refine pb_getf (pc2 := 76) flX4_26_X4 rfl dX4_shine_73 (by first | assumption | exact hR.a rfl | exact hR.o | exact hC.o | exact hC.pal | exact hC.tub | exact hC.k _ _ rfl | exact hC.pot _ (by omega) | exact hC.are _ (by omega) | exact hC.arl _ (by omega) | exact hC.tbo _ (by omega) (by omega)) rfl rfl ?_
              refine pb_iload_n (pc2 := 77) dX4_shine_76 rfl rfl rfl ?_
              refine pb_dup2 (pc2 := 78) dX4_shine_77 rfl rfl rfl ?_
              refine pb_baload (pc2 := 79) dX4_shine_78 h76 (by omega) (by omega) rfl ?_
              refine pb_aload_n (pc2 := 80) dX4_shine_79 rfl rfl rfl ?_
              refine pb_getf (pc2 := 83) flX4_19_X4 rfl dX4_shine_80 (by first | assumption | exact hR.a rfl | exact hR.o | exact hC.o | exact hC.pal | exact hC.tub | exact hC.k _ _ rfl | exact hC.pot _ (by omega) | exact hC.are _ (by omega) | exact hC.arl _ (by omega) | exact hC.tbo _ (by omega) (by omega)) rfl rfl ?_
              refine pb_iload_n (pc2 := 84) dX4_shine_83 rfl rfl rfl ?_
              refine pb_aald (pc2 := 85) (by first | assumption | exact hR.a rfl | exact hR.o | exact hC.o | exact hC.pal | exact hC.tub | exact hC.k _ _ rfl | exact hC.pot _ (by omega) | exact hC.are _ (by omega) | exact hC.arl _ (by omega) | exact hC.tbo _ (by omega) (by omega)) dX4_shine_84 (by decide) (by omega) (by omega) (cTo_at (by omega)) rfl ?_
              refine pb_iload_n (pc2 := 86) dX4_shine_85 rfl rfl rfl ?_
              refine pb_iald (pc2 := 87) (by first | assumption | exact hR.a rfl | exact hR.o | exact hC.o | exact hC.pal | exact hC.tub | exact hC.k _ _ rfl | exact hC.pot _ (by omega) | exact hC.are _ (by omega) | exact hC.arl _ (by omega) | exact hC.tbo _ (by omega) (by omega)) ⟨by decide, rfl⟩ dX4_shine_86 (by omega) (by omega) rfl ?_
              refine pb_top (v2 := .int (nI (pb_wt A l i b))) (by rw [pb_un_self]) ?_
              have fin : ∀ v, v ≤ 1 → v = (if 0 < pb_sum (i + 1) (fun s => pb_wt A l s b) then 1 else 0) → pb_S Z mX4_shine 1 0 0 (fun v h' => v = none ∧ pb_CF A h0 h' ∧ pb_LT A l h' ∧ ∀ b, b < 75 ∨ 90 ≤ b → h' b = h b) 96 [some (.ref 62), some (.int (nI l)), some (.int (nI b)), some (.int (nI i))] [.int (nI v), .int (nI b), .ref 76] h3 := by
                intro v hv1 hv
                refine pb_bastG (pc2 := 97) h76 dX4_shine_96 (by omega) hv1 (by omega) (by omega) rfl (fun h4 h76 hn4 => ?_)
                have hC4 := hC.sh h76 hn4
                refine pb_iincP (c0 := 1) (lv2 := [_, _, _, _]) (pc2 := 100) dX4_shine_97 rfl (by decide) rfl rfl ?_
                refine pb_goto (tgt := 25) dX4_shine_100 (by decide) ?_
                refine ih2 (i + 1) (fun s => if s = i then pb_un (W i) b (pb_wt A l i b) else W s) _ _ h4 (by omega) (by omega) hC4 (fun s hs => ?_) ((hn4 75 (by omega)).trans h75) (fun s hs => ?_) h76 (fun j hj => ?_) ?_ (fun x hx => ?_) ((hn4 _ (by omega)).trans hlr)
                · by_cases e : s = i
                  · subst e
                    refine ⟨by rw [if_pos rfl, hn4 _ (by omega)]; exact hw3, fun j hj => ?_⟩
                    rw [if_pos (by omega)] at hj
                    rw [if_pos rfl]
                    by_cases e2 : j = b
                    · rw [e2, pb_un_self]
                    · rw [pb_un_ne _ _ e2]
                      exact (hW s hs).2 j (by rw [if_neg (by omega)]; omega)
                  · refine ⟨by rw [if_neg e, hn4 _ (by omega), hn3 _ (by omega), hn2 _ (by omega)]; exact (hW s hs).1, fun j hj => ?_⟩
                    rw [if_neg e]
                    refine (hW s hs).2 j ?_
                    by_cases e2 : s < i
                    · rw [if_pos e2]; rw [if_pos (by omega)] at hj; exact hj
                    · rw [if_neg e2]; rw [if_neg (by omega)] at hj; exact hj
                · by_cases e : s = i
                  · subst e
                    rw [pb_un_self, if_pos (by omega)]; exact esum
                  · rw [pb_un_ne _ _ e, hS s hs]
                    by_cases e2 : s < i
                    · rw [if_pos e2, if_pos (by omega)]
                    · rw [if_neg e2, if_neg (by omega)]
                · rw [if_neg (by omega)]; exact hB j hj
                · rw [if_pos rfl, hv]
                · rw [hn4 x (by omega), hn3 x (by omega), hn2 x (by omega)]; exact hne x hx
              have es : pb_sum (i + 1) (fun s => pb_wt A l s b) = pb_sum i (fun s => pb_wt A l s b) + pb_wt A l i b := rfl
              rw [hBb]
              by_cases cs : 0 < pb_sum i (fun s => pb_wt A l s b)
              · rw [if_pos cs]
                refine pb_ifN_le (tgt := 94) (pc2 := 90) dX4_shine_87 (by decide) rfl (by omega) (fun c2 => ?_) (fun c2 => ?_)
                · refine pb_iconst (x := nI 0) (pc2 := 95) dX4_shine_94 (by decide) rfl ?_
                  refine pb_iorN (pc2 := 96) dX4_shine_95 rfl ?_
                  exact fin 1 (by omega) (by rw [if_pos (by omega)])
                · refine pb_iconst (x := nI 1) (pc2 := 91) dX4_shine_90 (by decide) rfl ?_
                  refine pb_goto (tgt := 95) dX4_shine_91 (by decide) ?_
                  refine pb_iorN (pc2 := 96) dX4_shine_95 rfl ?_
                  exact fin 1 (by omega) (by rw [if_pos (by omega)])
              · rw [if_neg cs]
                refine pb_ifN_le (tgt := 94) (pc2 := 90) dX4_shine_87 (by decide) rfl (by omega) (fun c2 => ?_) (fun c2 => ?_)
                · refine pb_iconst (x := nI 0) (pc2 := 95) dX4_shine_94 (by decide) rfl ?_
                  refine pb_iorN (pc2 := 96) dX4_shine_95 rfl ?_
                  exact fin 0 (by omega) (by rw [if_neg (by omega)])
                · refine pb_iconst (x := nI 1) (pc2 := 91) dX4_shine_90 (by decide) rfl ?_
                  refine pb_goto (tgt := 95) dX4_shine_91 (by decide) ?_
                  refine pb_iorN (pc2 := 96) dX4_shine_95 rfl ?_
                  exact fin 1 (by omega) (by rw [if_pos (by omega)])
        refine pb_aload_n (pc2 := 17) dX4_shine_16 rfl rfl rfl ?_
        refine pb_getf (pc2 := 20) flX4_26_X4 rfl dX4_shine_17 (by first | assumption | exact hR.a rfl | exact hR.o | exact hC.o | exact hC.pal | exact hC.tub | exact hC.k _ _ rfl | exact hC.pot _ (by omega) | exact hC.are _ (by omega) | exact hC.arl _ (by omega) | exact hC.tbo _ (by omega) (by omega)) rfl rfl ?_
        refine pb_iload_n (pc2 := 21) dX4_shine_20 rfl rfl rfl ?_
        refine pb_iconst (x := nI 0) (pc2 := 22) dX4_shine_21 (by decide) rfl ?_
        refine pb_bastG (v := 0) (pc2 := 23) h76 dX4_shine_22 (by omega) (by omega) (by omega) (by omega) rfl (fun h2 h76 hn2 => ?_)
        have hC2 := hC.sh h76 hn2
        refine pb_iconst (x := nI 0) (pc2 := 24) dX4_shine_23 (by decide) rfl ?_
        refine pb_istore_n (lv2 := [_, _, _, _]) (pc2 := 25) dX4_shine_24 rfl (by decide) rfl rfl ?_
        refine inner 4 0 W S _ h2 (by omega) (by omega) hC2 (fun s hs => ⟨(hn2 _ (by omega)).trans (hW s hs).1, fun j hj => (hW s hs).2 j (by rw [if_neg (by omega)] at hj; exact hj)⟩) ((hn2 75 (by omega)).trans h75) (fun s hs => by rw [if_neg (by omega)]; exact hS s hs) h76 (fun j hj => by rw [if_neg (by omega)]; exact hB j hj) (by rw [if_pos rfl]; rfl) (fun x hx => (hn2 x (by omega)).trans (hne x hx)) ((hn2 _ (by omega)).trans hlr)
  obtain ⟨W0, hw0⟩ := hC1.s (87 + 0) 8 (cS_w (by omega))
  obtain ⟨W1, hw1⟩ := hC1.s (87 + 1) 8 (cS_w (by omega))
  obtain ⟨W2, hw2⟩ := hC1.s (87 + 2) 8 (cS_w (by omega))
  obtain ⟨B, hB⟩ := hC1.shw
  refine pb_iconst (x := nI 0) (pc2 := 9) dX4_shine_8 (by decide) rfl ?_
  refine pb_istore_n (lv2 := [_, _, _, _]) (pc2 := 10) dX4_shine_9 rfl (by decide) rfl rfl ?_
  refine outer 9 0 (fun s => if s = 0 then W0 else if s = 1 then W1 else W2) S B h1 _ (by omega) (by omega) hC1 (fun s hs => ⟨?_, fun j hj => by omega⟩) h75 (fun s hs => hS s hs) hB (fun j hj => by omega) (fun x hx => hne1 x (by omega))
  have : s = 0 ∨ s = 1 ∨ s = 2 := by omega
  rcases this with rfl | rfl | rfl
  · exact hw0
  · exact hw1
  · exact hw2
end PB30

