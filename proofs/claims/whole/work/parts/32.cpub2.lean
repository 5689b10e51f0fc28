/-! PUBLIC METHODS OF THE CLASS (second part) -/
theorem pb_sum_swap (f : Nat → Nat → Nat) (m : Nat) : ∀ n, pb_sum n (fun t => pb_sum m (fun p => f p t)) = pb_sum m (fun p => pb_sum n (fun t => f p t))
  | 0 => by
    show 0 = pb_sum m (fun _ => 0)
    rw [pb_sum_const, Nat.mul_zero]
  | n + 1 => by
    show pb_sum n (fun t => pb_sum m (fun p => f p t)) + pb_sum m (fun p => f p n) = pb_sum m (fun p => pb_sum n (fun t => f p t) + f p n)
    rw [pb_sum_swap f m n, ← pb_sum_add]
theorem pb_WF.sumT {A : pb_A} (w : pb_WF A) : pb_sum 12 (A 4) = pb_sum (A 1 0) (A 4) ∧ pb_sum 12 (A 5) = pb_sum (A 1 0) (A 5) ∧ pb_sum 12 (A 6) = pb_sum (A 1 0) (A 6) := by
  have htt := w.tubes
  refine ⟨pb_sum_ext htt (fun i h1 h2 => ?_), pb_sum_ext htt (fun i h1 h2 => ?_), pb_sum_ext htt (fun i h1 h2 => ?_)⟩
  all_goals
    have := (w.none h1 h2).1
    omega
section PB32
variable {Z : pb_Z} {h h0 : pb_H} {A : pb_A}
set_option maxRecDepth 10000 in
theorem c_band (w : pb_WF A) (hC : pb_CF A h h) (t b k s : Int32) : pb_T Z mX11_band 2 0 0 [.ref 60, .int t, .int b, .int k, .int s] h (pb_PC (sp_band A t b k s) h) := by
  have htt := w.tubes
  refine pb_T.of pnX11_band (Nat.le_of_ble_eq_true rfl) (lv := [some (.ref 60), some (.int t), some (.int b), some (.int k), some (.int s), none]) rfl ?_
  first | refine pb_aload_n (pc2 := 1) dX11_band_0 rfl rfl rfl ?_ | refine pb_aload_nN (pc2 := 1) dX11_band_0 rfl rfl rfl ?_
  refine pb_getf (pc2 := 4) flX11_12_X11 rfl dX11_band_1 (by first | assumption | exact hR.a rfl | exact hR.o | exact hC.o | exact hC.pal | exact hC.tub | exact hC.k _ _ rfl | exact hC.pot _ (by omega) | exact hC.are _ (by omega) | exact hC.arl _ (by omega) | exact hC.tbo _ (by omega) (by omega)) rfl rfl ?_
  refine pb_iload_n (pc2 := 5) dX11_band_4 rfl rfl rfl ?_
  refine pb_callV (pc2 := 8) (k2 := 0) (n2 := 0) mwX8_at pb_cl7.1 iwX8_at seX8_at rfl mlX11_94 dX11_band_5 (by first | assumption | exact hR.a rfl | exact hR.o | exact hC.o | exact hC.pal | exact hC.tub | exact hC.k _ _ rfl | exact hC.pot _ (by omega) | exact hC.are _ (by omega) | exact hC.arl _ (by omega) | exact hC.tbo _ (by omega) (by omega)) (t_at w hC t) (by omega) (by omega) (by omega) rfl rfl (Nat.le_of_ble_eq_true rfl) rfl (pb_kRef (fun t ht e => ?_) (fun q => ?_))
  · subst e
    have q0 := pb_isT_mk w ht
    first | refine pb_astore (lv2 := [_, _, _, _, _, _]) (pc2 := 10) dX11_band_8 (by decide) rfl rfl ?_ | refine pb_astoreN (lv2 := [_, _, _, _, _, _]) (pc2 := 10) dX11_band_8 (by decide) rfl rfl ?_
    first | refine pb_aload (pc2 := 12) dX11_band_10 rfl rfl ?_ | refine pb_aloadN (pc2 := 12) dX11_band_10 rfl rfl ?_
    refine pb_ifnull (pc2 := 15) dX11_band_12 rfl ?_
    refine pb_iload_n (pc2 := 16) dX11_band_15 rfl rfl rfl ?_
    refine pb_callS (pc2 := 19) (k2 := 0) (n2 := 0) mwX11_isBand swX11_isBand rfl mlX11_98 dX11_band_16 (t_isBand b) (by omega) (by omega) (by omega) rfl rfl (Nat.le_of_ble_eq_true rfl) rfl (pb_kB ?_ ?_)
    rotate_left
    · intro q1
      refine pb_ifT_eq (tgt := 45) dX11_band_19 (by decide) rfl ?_
      refine pb_iconst (x := -1) (pc2 := 46) dX11_band_45 (by decide) rfl ?_
      exact pb_ireturn dX11_band_46 rfl (pb_finC (if_neg (fun z => q1 z.2.1)) hC)
    intro q1
    refine pb_ifF_eq (tgt := 45) (pc2 := 22) dX11_band_19 (by decide) rfl (by decide) ?_
    refine pb_iload_n (pc2 := 23) dX11_band_22 rfl rfl rfl ?_
    refine pb_iconst (x := nI 0) (pc2 := 24) dX11_band_23 (by decide) rfl ?_
    refine pb_sipush (x := nI 999) (pc2 := 27) dX11_band_24 (by decide) rfl ?_
    refine pb_callS (pc2 := 30) (k2 := 0) (n2 := 0) mwX11_between swX11_between rfl mlX11_77 dX11_band_27 (t_between k (nI 0) (nI 999)) (by omega) (by omega) (by omega) rfl rfl (Nat.le_of_ble_eq_true rfl) rfl (pb_kB ?_ ?_)
    rotate_left
    · intro q2
      refine pb_ifT_eq (tgt := 45) dX11_band_30 (by decide) rfl ?_
      refine pb_iconst (x := -1) (pc2 := 46) dX11_band_45 (by decide) rfl ?_
      exact pb_ireturn dX11_band_46 rfl (pb_finC (if_neg (fun z => q2 z.2.2.1)) hC)
    intro q2
    refine pb_ifF_eq (tgt := 45) (pc2 := 33) dX11_band_30 (by decide) rfl (by decide) ?_
    refine pb_iload (pc2 := 35) dX11_band_33 rfl rfl ?_
    refine pb_iconst (x := nI 1) (pc2 := 36) dX11_band_35 (by decide) rfl ?_
    refine pb_sipush (x := nI 999) (pc2 := 39) dX11_band_36 (by decide) rfl ?_
    refine pb_callS (pc2 := 42) (k2 := 0) (n2 := 0) mwX11_between swX11_between rfl mlX11_77 dX11_band_39 (t_between s (nI 1) (nI 999)) (by omega) (by omega) (by omega) rfl rfl (Nat.le_of_ble_eq_true rfl) rfl (pb_kB ?_ ?_)
    rotate_left
    · intro q3
      refine pb_ifF_ne (tgt := 47) (pc2 := 45) dX11_band_42 rfl rfl (by decide) ?_
      refine pb_iconst (x := -1) (pc2 := 46) dX11_band_45 (by decide) rfl ?_
      exact pb_ireturn dX11_band_46 rfl (pb_finC (if_neg (fun z => q3 z.2.2.2)) hC)
    intro q3
    refine pb_ifT_ne (tgt := 47) dX11_band_42 (by decide) (by decide) ?_
    have e0 : sp_band A (nI t) b k s = _ := if_pos ⟨q0, q1, q2, q3⟩
    rw [e0]
    obtain ⟨b, -, hb, rfl⟩ := nI_rng (by omega) q1 (by omega)
    obtain ⟨k, -, hk, rfl⟩ := nI_rng (by omega) q2 (by omega)
    obtain ⟨s, hs1, hs, rfl⟩ := nI_rng (by omega) q3 (by omega)
    rw [pb_natN (by omega), pb_natN (by omega), pb_natN (by omega), pb_natN (by omega)]
    obtain ⟨D, hd, hD⟩ := hC.tbd t (by omega) ht
    obtain ⟨S, hs8, hS⟩ := hC.tbs t (by omega) ht
    first | refine pb_aload (pc2 := 49) dX11_band_47 rfl rfl ?_ | refine pb_aloadN (pc2 := 49) dX11_band_47 rfl rfl ?_
    refine pb_iload_n (pc2 := 50) dX11_band_49 rfl rfl rfl ?_
    refine pb_iload_n (pc2 := 51) dX11_band_50 rfl rfl rfl ?_
    refine pb_iload (pc2 := 53) dX11_band_51 rfl rfl ?_
    refine pb_callV (pc2 := 56) (k2 := 0) (n2 := 0) mwX10_paint pb_cl8.1 iwX10_paint seX10_paint rfl mlX11_102 dX11_band_53 (by first | assumption | exact hR.a rfl | exact hR.o | exact hC.o | exact hC.pal | exact hC.tub | exact hC.k _ _ rfl | exact hC.pot _ (by omega) | exact hC.are _ (by omega) | exact hC.arl _ (by omega) | exact hC.tbo _ (by omega) (by omega)) (t_paint (hC.tbo t (by omega) ht) hd hs8 (by omega) (show b < 8 by omega) hk (w.cf ht).2) (by omega) (by omega) (by omega) rfl rfl (Nat.le_of_ble_eq_true rfl) rfl (fun v h1 q _ => ?_)
    obtain ⟨rfl, ⟨D', hd', hD'⟩, hs', nb⟩ := q
    refine pb_iconst (x := nI 1) (pc2 := 57) dX11_band_56 (by decide) rfl ?_
    have fd : ∀ t', t' < 12 → t' < A 1 0 → cRow 800 (fun j => pb_fade (A 3 t') (pb_un (A 7) (8 * t + b) k (8 * t' + j / 100)) (j % 100)) (h1 (220 + t')) := fun t' h12 ht' => by
      by_cases e : t' = t
      · subst e
        refine ⟨D', hd', fun j hj => ?_⟩
        rw [hD' j hj]
        by_cases e2 : j / 100 = b
        · rw [if_pos e2]
          show _ = pb_fade (A 3 t') (pb_un (A 7) (8 * t' + b) k (8 * t' + j / 100)) (j % 100)
          rw [e2, pb_un_self]
        · rw [if_neg e2]
          show _ = pb_fade (A 3 t') (pb_un (A 7) (8 * t' + b) k (8 * t' + j / 100)) (j % 100)
          rw [pb_un_ne _ _ (by omega)]
          exact hD j hj
      · rw [nb _ (by omega) (by omega)]
        refine cRow_same (hC.tbd t' h12 ht') (fun j hj => ?_)
        rw [pb_un_ne _ _ (by omega)]
    have fs : ∀ t', t' < 12 → t' < A 1 0 → cRow 8 (fun j => pb_un (A 8) (8 * t + b) s (8 * t' + j)) (h1 (240 + t')) := fun t' h12 ht' => by
      by_cases e : t' = t
      · subst e
        refine ⟨_, hs', cRow_set hS ?_ (fun j hj hne => ?_)⟩
        · rw [pb_un_self]
        · rw [pb_un_ne _ _ (by omega)]
      · rw [nb _ (by omega) (by omega)]
        refine cRow_same (hC.tbs t' h12 ht') (fun j hj => ?_)
        rw [pb_un_ne _ _ (by omega)]
    have hC2 : pb_CF (pb_wf (pb_wf A 7 (pb_un (A 7) (8 * t + b) k)) 8 (pb_un (A 8) (8 * t + b) s)) h h1 := by
      exact pb_CF.mk (fun b hb => (nb b (by omega) (by omega)).trans (hC.low b hb)) (fun a c e => (nb a (by first | exact cK_ne e rfl | (have := cK_rng e; omega)) (by first | exact cK_ne e rfl | (have := cK_rng e; omega))).trans (hC.k a c e)) (fun a n e => by rw [nb a (by first | exact cS_ne e rfl | (have := cS_rng e; omega)) (by first | exact cS_ne e rfl | (have := cS_rng e; omega))]; exact hC.s a n e) ((nb 60 (by omega) (by omega)).trans hC.o) ((nb 61 (by omega) (by omega)).trans hC.pal) (by rw [nb 65 (by omega) (by omega)]; exact hC.wan) (fun i hi => by rw [nb _ (by omega) (by omega)]; exact hC.kpr i hi) ((nb 71 (by omega) (by omega)).trans hC.tub) (fun i hi => by rw [nb _ (by omega) (by omega)]; exact hC.lmr i hi) (fun i hi => by rw [nb _ (by omega) (by omega)]; exact hC.sgr i hi) (by rw [nb 76 (by omega) (by omega)]; exact hC.shw) (fun p hp => (nb _ (by omega) (by omega)).trans (hC.pot p hp)) (fun p hp => by rw [nb _ (by omega) (by omega)]; exact hC.ptr p hp) (fun a ha => (nb _ (by omega) (by omega)).trans (hC.are a ha)) (fun a ha => (nb _ (by omega) (by omega)).trans (hC.arl a ha)) (fun t h12 ht => (nb _ (by omega) (by omega)).trans (hC.tbo t h12 ht)) (fd) (fs) (fun t' h1' h2' => by have : A 1 0 ≤ t' := h1'; rw [nb _ (by omega) (by omega), nb _ (by omega) (by omega), nb _ (by omega) (by omega)]; exact hC.tbn t' h1' h2') (fun a i ha h10 hi => by rw [nb _ (by omega) (by omega), nb _ (by omega) (by omega), nb _ (by omega) (by omega)]; exact hC.lyo a i ha h10 hi) (fun a i ha h10 hi => by unfold cCache; rw [nb _ (by omega) (by omega), nb _ (by omega) (by omega), nb _ (by omega) (by omega), nb _ (by omega) (by omega)]; exact hC.lyc a i ha h10 hi) (fun a i ha hi hi2 q hq => (nb _ (by omega) (by omega)).trans (hC.lyn a i ha hi hi2 q hq)) (by rw [nb 68 (by omega) (by omega)]; exact hC.mat) (by rw [nb 309 (by omega) (by omega)]; exact hC.bst) (by rw [nb 69 (by omega) (by omega), nb 411 (by omega) (by omega), nb 413 (by omega) (by omega)]; exact hC.cho) (by rw [nb 70 (by omega) (by omega)]; exact hC.gla) (by rw [nb 500 (by omega) (by omega)]; exact hC.glb) (fun a ha => by rw [nb a (by omega) (by omega)]; exact hC.zer a ha)
    exact pb_ireturn dX11_band_57 rfl (pb_finC rfl hC2)
  · first | refine pb_astore (lv2 := [_, _, _, _, _, _]) (pc2 := 10) dX11_band_8 (by decide) rfl rfl ?_ | refine pb_astoreN (lv2 := [_, _, _, _, _, _]) (pc2 := 10) dX11_band_8 (by decide) rfl rfl ?_
    first | refine pb_aload (pc2 := 12) dX11_band_10 rfl rfl ?_ | refine pb_aloadN (pc2 := 12) dX11_band_10 rfl rfl ?_
    refine pb_ifnullN (tgt := 45) dX11_band_12 (by decide) ?_
    refine pb_iconst (x := -1) (pc2 := 46) dX11_band_45 (by decide) rfl ?_
    exact pb_ireturn dX11_band_46 rfl (pb_finC (if_neg (fun z => q z.1)) hC)
set_option maxRecDepth 10000 in
theorem c_ofTube (w : pb_WF A) (hC : pb_CF A h h) (t x : Int32) : pb_T Z mX11_ofTube 2 0 0 [.ref 60, .int t, .int x] h (pb_PC (sp_ofTube A t x) h) := by
  have htt := w.tubes
  refine pb_T.of pnX11_ofTube (Nat.le_of_ble_eq_true rfl) (lv := [some (.ref 60), some (.int t), some (.int x), none]) rfl ?_
  first | refine pb_aload_n (pc2 := 1) dX11_ofTube_0 rfl rfl rfl ?_ | refine pb_aload_nN (pc2 := 1) dX11_ofTube_0 rfl rfl rfl ?_
  refine pb_getf (pc2 := 4) flX11_12_X11 rfl dX11_ofTube_1 (by first | assumption | exact hR.a rfl | exact hR.o | exact hC.o | exact hC.pal | exact hC.tub | exact hC.k _ _ rfl | exact hC.pot _ (by omega) | exact hC.are _ (by omega) | exact hC.arl _ (by omega) | exact hC.tbo _ (by omega) (by omega)) rfl rfl ?_
  refine pb_iload_n (pc2 := 5) dX11_ofTube_4 rfl rfl rfl ?_
  refine pb_callV (pc2 := 8) (k2 := 0) (n2 := 0) mwX8_at pb_cl7.1 iwX8_at seX8_at rfl mlX11_94 dX11_ofTube_5 (by first | assumption | exact hR.a rfl | exact hR.o | exact hC.o | exact hC.pal | exact hC.tub | exact hC.k _ _ rfl | exact hC.pot _ (by omega) | exact hC.are _ (by omega) | exact hC.arl _ (by omega) | exact hC.tbo _ (by omega) (by omega)) (t_at w hC t) (by omega) (by omega) (by omega) rfl rfl (Nat.le_of_ble_eq_true rfl) rfl (pb_kRef (fun t ht e => ?_) (fun q => ?_))
  · subst e
    have q0 := pb_isT_mk w ht
    have e0 : sp_ofTube A (nI t) x = _ := if_pos q0
    rw [e0, pb_natN (by omega)]
    first | refine pb_astore_n (lv2 := [_, _, _, _]) (pc2 := 9) dX11_ofTube_8 rfl (by decide) rfl rfl ?_ | refine pb_astore_nN (lv2 := [_, _, _, _]) (pc2 := 9) dX11_ofTube_8 rfl (by decide) rfl rfl ?_
    first | refine pb_aload_n (pc2 := 10) dX11_ofTube_9 rfl rfl rfl ?_ | refine pb_aload_nN (pc2 := 10) dX11_ofTube_9 rfl rfl rfl ?_
    refine pb_ifnonnull (tgt := 15) dX11_ofTube_10 (by decide) ?_
    refine pb_iload_n (pc2 := 16) dX11_ofTube_15 rfl rfl rfl ?_
    by_cases c0 : x = nI 0
    · subst c0
      refine pb_swIn (off := 40) (tgt := 56) dX11_ofTube_16 (by decide) (by decide) rfl (by decide) ?_
      first | refine pb_aload_n (pc2 := 57) dX11_ofTube_56 rfl rfl rfl ?_ | refine pb_aload_nN (pc2 := 57) dX11_ofTube_56 rfl rfl rfl ?_
      refine pb_getf (pc2 := 60) flX11_105_X10 rfl dX11_ofTube_57 (by first | assumption | exact hR.a rfl | exact hR.o | exact hC.o | exact hC.pal | exact hC.tub | exact hC.k _ _ rfl | exact hC.pot _ (by omega) | exact hC.are _ (by omega) | exact hC.arl _ (by omega) | exact hC.tbo _ (by omega) (by omega)) rfl rfl ?_
      exact pb_ireturn dX11_ofTube_60 rfl (pb_finC rfl hC)
    · by_cases c1 : x = nI 1
      · subst c1
        refine pb_swIn (off := 45) (tgt := 61) dX11_ofTube_16 (by decide) (by decide) rfl (by decide) ?_
        first | refine pb_aload_n (pc2 := 62) dX11_ofTube_61 rfl rfl rfl ?_ | refine pb_aload_nN (pc2 := 62) dX11_ofTube_61 rfl rfl rfl ?_
        refine pb_getf (pc2 := 65) flX11_108_X10 rfl dX11_ofTube_62 (by first | assumption | exact hR.a rfl | exact hR.o | exact hC.o | exact hC.pal | exact hC.tub | exact hC.k _ _ rfl | exact hC.pot _ (by omega) | exact hC.are _ (by omega) | exact hC.arl _ (by omega) | exact hC.tbo _ (by omega) (by omega)) rfl rfl ?_
        exact pb_ireturn dX11_ofTube_65 rfl (pb_finC rfl hC)
      · by_cases c2 : x = nI 2
        · subst c2
          refine pb_swIn (off := 50) (tgt := 66) dX11_ofTube_16 (by decide) (by decide) rfl (by decide) ?_
          first | refine pb_aload_n (pc2 := 67) dX11_ofTube_66 rfl rfl rfl ?_ | refine pb_aload_nN (pc2 := 67) dX11_ofTube_66 rfl rfl rfl ?_
          refine pb_getf (pc2 := 70) flX11_111_X10 rfl dX11_ofTube_67 (by first | assumption | exact hR.a rfl | exact hR.o | exact hC.o | exact hC.pal | exact hC.tub | exact hC.k _ _ rfl | exact hC.pot _ (by omega) | exact hC.are _ (by omega) | exact hC.arl _ (by omega) | exact hC.tbo _ (by omega) (by omega)) rfl rfl ?_
          exact pb_ireturn dX11_ofTube_70 rfl (pb_finC rfl hC)
        · by_cases c3 : x = nI 3
          · subst c3
            refine pb_swIn (off := 55) (tgt := 71) dX11_ofTube_16 (by decide) (by decide) rfl (by decide) ?_
            first | refine pb_aload_n (pc2 := 72) dX11_ofTube_71 rfl rfl rfl ?_ | refine pb_aload_nN (pc2 := 72) dX11_ofTube_71 rfl rfl rfl ?_
            refine pb_iload_n (pc2 := 73) dX11_ofTube_72 rfl rfl rfl ?_
            refine pb_callV (pc2 := 76) (k2 := 0) (n2 := 0) mwX11_inPots pb_cl9.1 iwX11_inPots seX11_inPots rfl mlX11_114 dX11_ofTube_73 (by first | assumption | exact hR.a rfl | exact hR.o | exact hC.o | exact hC.pal | exact hC.tub | exact hC.k _ _ rfl | exact hC.pot _ (by omega) | exact hC.are _ (by omega) | exact hC.arl _ (by omega) | exact hC.tbo _ (by omega) (by omega)) (t_inPots hC (show t < 12 by omega)) (by omega) (by omega) (by omega) rfl rfl (Nat.le_of_ble_eq_true rfl) rfl (pb_kE ?_)
            exact pb_ireturn dX11_ofTube_76 rfl (pb_finC rfl hC)
          · by_cases c4 : x = nI 4
            · subst c4
              refine pb_swIn (off := 61) (tgt := 77) dX11_ofTube_16 (by decide) (by decide) rfl (by decide) ?_
              first | refine pb_aload_n (pc2 := 78) dX11_ofTube_77 rfl rfl rfl ?_ | refine pb_aload_nN (pc2 := 78) dX11_ofTube_77 rfl rfl rfl ?_
              refine pb_getf (pc2 := 81) flX11_118_X10 rfl dX11_ofTube_78 (by first | assumption | exact hR.a rfl | exact hR.o | exact hC.o | exact hC.pal | exact hC.tub | exact hC.k _ _ rfl | exact hC.pot _ (by omega) | exact hC.are _ (by omega) | exact hC.arl _ (by omega) | exact hC.tbo _ (by omega) (by omega)) rfl rfl ?_
              exact pb_ireturn dX11_ofTube_81 rfl (pb_finC rfl hC)
            · by_cases c5 : x = nI 5
              · subst c5
                refine pb_swIn (off := 66) (tgt := 82) dX11_ofTube_16 (by decide) (by decide) rfl (by decide) ?_
                first | refine pb_aload_n (pc2 := 83) dX11_ofTube_82 rfl rfl rfl ?_ | refine pb_aload_nN (pc2 := 83) dX11_ofTube_82 rfl rfl rfl ?_
                refine pb_getf (pc2 := 86) flX11_121_X10 rfl dX11_ofTube_83 (by first | assumption | exact hR.a rfl | exact hR.o | exact hC.o | exact hC.pal | exact hC.tub | exact hC.k _ _ rfl | exact hC.pot _ (by omega) | exact hC.are _ (by omega) | exact hC.arl _ (by omega) | exact hC.tbo _ (by omega) (by omega)) rfl rfl ?_
                exact pb_ireturn dX11_ofTube_86 rfl (pb_finC rfl hC)
              · refine pb_swOut (tgt := 87) dX11_ofTube_16 (pb_swO (m := 5) (by omega) (fun k hk => by rcases (show k = 0 ∨ k = 1 ∨ k = 2 ∨ k = 3 ∨ k = 4 ∨ k = 5 by omega) with rfl | rfl | rfl | rfl | rfl | rfl <;> assumption)) (by decide) ?_
                refine pb_iconst (x := -1) (pc2 := 88) dX11_ofTube_87 (by decide) rfl ?_
                exact pb_ireturn dX11_ofTube_88 rfl (pb_finC (by rw [if_neg c0, if_neg c1, if_neg c2, if_neg c3, if_neg c4, if_neg c5]) hC)
  · first | refine pb_astore_n (lv2 := [_, _, _, _]) (pc2 := 9) dX11_ofTube_8 rfl (by decide) rfl rfl ?_ | refine pb_astore_nN (lv2 := [_, _, _, _]) (pc2 := 9) dX11_ofTube_8 rfl (by decide) rfl rfl ?_
    first | refine pb_aload_n (pc2 := 10) dX11_ofTube_9 rfl rfl rfl ?_ | refine pb_aload_nN (pc2 := 10) dX11_ofTube_9 rfl rfl rfl ?_
    refine pb_ifnonnullN (pc2 := 13) dX11_ofTube_10 rfl ?_
    refine pb_iconst (x := -1) (pc2 := 14) dX11_ofTube_13 (by decide) rfl ?_
    exact pb_ireturn dX11_ofTube_14 rfl (pb_finC (if_neg q) hC)
set_option maxRecDepth 10000 in
theorem c_drops (w : pb_WF A) (hC : pb_CF A h h) (p t : Int32) : pb_T Z mX11_drops 2 0 0 [.ref 60, .int p, .int t] h (pb_PC (sp_drops A p t) h) := by
  have htt := w.tubes
  refine pb_T.of pnX11_drops (Nat.le_of_ble_eq_true rfl) (lv := [some (.ref 60), some (.int p), some (.int t), none]) rfl ?_
  first | refine pb_aload_n (pc2 := 1) dX11_drops_0 rfl rfl rfl ?_ | refine pb_aload_nN (pc2 := 1) dX11_drops_0 rfl rfl rfl ?_
  refine pb_iload_n (pc2 := 2) dX11_drops_1 rfl rfl rfl ?_
  refine pb_callV (pc2 := 5) (k2 := 0) (n2 := 0) mwX11_potAt pb_cl9.1 iwX11_potAt seX11_potAt rfl mlX11_147 dX11_drops_2 (by first | assumption | exact hR.a rfl | exact hR.o | exact hC.o | exact hC.pal | exact hC.tub | exact hC.k _ _ rfl | exact hC.pot _ (by omega) | exact hC.are _ (by omega) | exact hC.arl _ (by omega) | exact hC.tbo _ (by omega) (by omega)) (t_potAt hC p) (by omega) (by omega) (by omega) rfl rfl (Nat.le_of_ble_eq_true rfl) rfl (pb_kRef (fun p hp e => ?_) (fun q => ?_))
  · subst e
    have e0 : sp_drops A (nI p) t = _ := if_pos (pb_in_mk (by omega) (by omega) (by omega))
    rw [e0, pb_natN (by omega)]
    first | refine pb_astore_n (lv2 := [_, _, _, _]) (pc2 := 6) dX11_drops_5 rfl (by decide) rfl rfl ?_ | refine pb_astore_nN (lv2 := [_, _, _, _]) (pc2 := 6) dX11_drops_5 rfl (by decide) rfl rfl ?_
    first | refine pb_aload_n (pc2 := 7) dX11_drops_6 rfl rfl rfl ?_ | refine pb_aload_nN (pc2 := 7) dX11_drops_6 rfl rfl rfl ?_
    refine pb_ifnonnull (tgt := 12) dX11_drops_7 (by decide) ?_
    refine pb_iload_n (pc2 := 13) dX11_drops_12 rfl rfl rfl ?_
    refine pb_iconst (x := -1) (pc2 := 14) dX11_drops_13 (by decide) rfl ?_
    refine pb_icmp_ne (tgt := 22) (pc2 := 17) dX11_drops_14 (by decide) rfl (fun c => ?_) (fun c => ?_)
    · rw [if_neg c]
      first | refine pb_aload_n (pc2 := 23) dX11_drops_22 rfl rfl rfl ?_ | refine pb_aload_nN (pc2 := 23) dX11_drops_22 rfl rfl rfl ?_
      refine pb_getf (pc2 := 26) flX11_12_X11 rfl dX11_drops_23 (by first | assumption | exact hR.a rfl | exact hR.o | exact hC.o | exact hC.pal | exact hC.tub | exact hC.k _ _ rfl | exact hC.pot _ (by omega) | exact hC.are _ (by omega) | exact hC.arl _ (by omega) | exact hC.tbo _ (by omega) (by omega)) rfl rfl ?_
      refine pb_iload_n (pc2 := 27) dX11_drops_26 rfl rfl rfl ?_
      refine pb_callV (pc2 := 30) (k2 := 0) (n2 := 0) mwX8_at pb_cl7.1 iwX8_at seX8_at rfl mlX11_94 dX11_drops_27 (by first | assumption | exact hR.a rfl | exact hR.o | exact hC.o | exact hC.pal | exact hC.tub | exact hC.k _ _ rfl | exact hC.pot _ (by omega) | exact hC.are _ (by omega) | exact hC.arl _ (by omega) | exact hC.tbo _ (by omega) (by omega)) (t_at w hC t) (by omega) (by omega) (by omega) rfl rfl (Nat.le_of_ble_eq_true rfl) rfl (pb_kRef (fun t ht e => ?_) (fun q => ?_))
      · subst e
        rw [if_pos (pb_isT_mk w ht), pb_natN (by omega)]
        obtain ⟨F, hr, hF⟩ := hC.ptr p hp
        refine pb_ifnonnull (tgt := 37) dX11_drops_30 (by decide) ?_
        first | refine pb_aload_n (pc2 := 38) dX11_drops_37 rfl rfl rfl ?_ | refine pb_aload_nN (pc2 := 38) dX11_drops_37 rfl rfl rfl ?_
        refine pb_iload_n (pc2 := 39) dX11_drops_38 rfl rfl rfl ?_
        refine pb_callV (pc2 := 42) (k2 := 0) (n2 := 0) mwX6_of pb_cl6.1 iwX6_of seX6_of rfl mlX11_167 dX11_drops_39 (by first | assumption | exact hR.a rfl | exact hR.o | exact hC.o | exact hC.pal | exact hC.tub | exact hC.k _ _ rfl | exact hC.pot _ (by omega) | exact hC.are _ (by omega) | exact hC.arl _ (by omega) | exact hC.tbo _ (by omega) (by omega)) (t_of (hC.pot p hp) hr (show t < 12 by omega)) (by omega) (by omega) (by omega) rfl rfl (Nat.le_of_ble_eq_true rfl) rfl (pb_kE ?_)
        refine pb_top (v2 := .int (nI (A 11 (12 * p + t)))) (by rw [hF t (by omega)]; rfl) ?_
        exact pb_ireturn dX11_drops_42 rfl (pb_finC rfl hC)
      · rw [if_neg q]
        refine pb_ifnonnullN (pc2 := 33) dX11_drops_30 rfl ?_
        refine pb_iconst (x := -1) (pc2 := 34) dX11_drops_33 (by decide) rfl ?_
        refine pb_goto (tgt := 42) dX11_drops_34 (by decide) ?_
        exact pb_ireturn dX11_drops_42 rfl (pb_finC rfl hC)
    · rw [if_pos c]
      first | refine pb_aload_n (pc2 := 18) dX11_drops_17 rfl rfl rfl ?_ | refine pb_aload_nN (pc2 := 18) dX11_drops_17 rfl rfl rfl ?_
      refine pb_getf (pc2 := 21) flX11_151_X6 rfl dX11_drops_18 (by first | assumption | exact hR.a rfl | exact hR.o | exact hC.o | exact hC.pal | exact hC.tub | exact hC.k _ _ rfl | exact hC.pot _ (by omega) | exact hC.are _ (by omega) | exact hC.arl _ (by omega) | exact hC.tbo _ (by omega) (by omega)) rfl rfl ?_
      exact pb_ireturn dX11_drops_21 rfl (pb_finC rfl hC)
  · first | refine pb_astore_n (lv2 := [_, _, _, _]) (pc2 := 6) dX11_drops_5 rfl (by decide) rfl rfl ?_ | refine pb_astore_nN (lv2 := [_, _, _, _]) (pc2 := 6) dX11_drops_5 rfl (by decide) rfl rfl ?_
    first | refine pb_aload_n (pc2 := 7) dX11_drops_6 rfl rfl rfl ?_ | refine pb_aload_nN (pc2 := 7) dX11_drops_6 rfl rfl rfl ?_
    refine pb_ifnonnullN (pc2 := 10) dX11_drops_7 rfl ?_
    refine pb_iconst (x := -1) (pc2 := 11) dX11_drops_10 (by decide) rfl ?_
    exact pb_ireturn dX11_drops_11 rfl (pb_finC (if_neg q) hC)
set_option maxRecDepth 10000 in
theorem c_thick (w : pb_WF A) (hC : pb_CF A h h) (p b : Int32) : pb_T Z mX11_thick 3 0 0 [.ref 60, .int p, .int b] h (pb_PC (sp_thick A p b) h) := by
  refine pb_T.of pnX11_thick (Nat.le_of_ble_eq_true rfl) (lv := [some (.ref 60), some (.int p), some (.int b), none]) rfl ?_
  first | refine pb_aload_n (pc2 := 1) dX11_thick_0 rfl rfl rfl ?_ | refine pb_aload_nN (pc2 := 1) dX11_thick_0 rfl rfl rfl ?_
  refine pb_iload_n (pc2 := 2) dX11_thick_1 rfl rfl rfl ?_
  refine pb_callV (pc2 := 5) (k2 := 0) (n2 := 0) mwX11_potAt pb_cl9.1 iwX11_potAt seX11_potAt rfl mlX11_147 dX11_thick_2 (by first | assumption | exact hR.a rfl | exact hR.o | exact hC.o | exact hC.pal | exact hC.tub | exact hC.k _ _ rfl | exact hC.pot _ (by omega) | exact hC.are _ (by omega) | exact hC.arl _ (by omega) | exact hC.tbo _ (by omega) (by omega)) (t_potAt hC p) (by omega) (by omega) (by omega) rfl rfl (Nat.le_of_ble_eq_true rfl) rfl (pb_kRef (fun p hp e => ?_) (fun q => ?_))
  · subst e
    first | refine pb_astore_n (lv2 := [_, _, _, _]) (pc2 := 6) dX11_thick_5 rfl (by decide) rfl rfl ?_ | refine pb_astore_nN (lv2 := [_, _, _, _]) (pc2 := 6) dX11_thick_5 rfl (by decide) rfl rfl ?_
    first | refine pb_aload_n (pc2 := 7) dX11_thick_6 rfl rfl rfl ?_ | refine pb_aload_nN (pc2 := 7) dX11_thick_6 rfl rfl rfl ?_
    refine pb_ifnull (pc2 := 10) dX11_thick_7 rfl ?_
    refine pb_iload_n (pc2 := 11) dX11_thick_10 rfl rfl rfl ?_
    refine pb_callS (pc2 := 14) (k2 := 0) (n2 := 0) mwX11_isBand swX11_isBand rfl mlX11_98 dX11_thick_11 (t_isBand b) (by omega) (by omega) (by omega) rfl rfl (Nat.le_of_ble_eq_true rfl) rfl (pb_kB ?_ ?_)
    rotate_left
    · intro q1
      refine pb_ifF_ne (tgt := 19) (pc2 := 17) dX11_thick_14 rfl rfl (by decide) ?_
      refine pb_iconst (x := -1) (pc2 := 18) dX11_thick_17 (by decide) rfl ?_
      exact pb_ireturn dX11_thick_18 rfl (pb_finC (if_neg (fun z => q1 z.2)) hC)
    intro q1
    refine pb_ifT_ne (tgt := 19) dX11_thick_14 (by decide) (by decide) ?_
    have e0 : sp_thick A (nI p) b = _ := if_pos ⟨pb_in_mk (by omega) (by omega) (by omega), q1⟩
    rw [e0]
    obtain ⟨b, -, hb, rfl⟩ := nI_rng (by omega) q1 (by omega)
    rw [pb_natN (by omega), pb_natN (by omega)]
    have t1 := w.tot hp
    first | refine pb_aload_n (pc2 := 20) dX11_thick_19 rfl rfl rfl ?_ | refine pb_aload_nN (pc2 := 20) dX11_thick_19 rfl rfl rfl ?_
    refine pb_getf (v := .int (nI (pb_tot A p))) (pc2 := 23) flX11_151_X6 rfl dX11_thick_20 (by first | assumption | exact hR.a rfl | exact hR.o | exact hC.o | exact hC.pal | exact hC.tub | exact hC.k _ _ rfl | exact hC.pot _ (by omega) | exact hC.are _ (by omega) | exact hC.arl _ (by omega) | exact hC.tbo _ (by omega) (by omega)) rfl rfl ?_
    refine pb_ifN_ne (tgt := 31) (pc2 := 26) dX11_thick_23 (by decide) rfl (by omega) (fun c1 => ?_) (fun c1 => ?_)
    · obtain ⟨r1, r2, r3, r4⟩ := w.potr hp (show b < 8 by omega) c1
      first | refine pb_aload_n (pc2 := 32) dX11_thick_31 rfl rfl rfl ?_ | refine pb_aload_nN (pc2 := 32) dX11_thick_31 rfl rfl rfl ?_
      first | refine pb_aload_n (pc2 := 33) dX11_thick_32 rfl rfl rfl ?_ | refine pb_aload_nN (pc2 := 33) dX11_thick_32 rfl rfl rfl ?_
      refine pb_getf (pc2 := 36) flX11_12_X11 rfl dX11_thick_33 (by first | assumption | exact hR.a rfl | exact hR.o | exact hC.o | exact hC.pal | exact hC.tub | exact hC.k _ _ rfl | exact hC.pot _ (by omega) | exact hC.are _ (by omega) | exact hC.arl _ (by omega) | exact hC.tbo _ (by omega) (by omega)) rfl rfl ?_
      refine pb_iload_n (pc2 := 37) dX11_thick_36 rfl rfl rfl ?_
      refine pb_callV (pc2 := 40) (k2 := 0) (n2 := 0) mwX6_sentThick pb_cl6.1 iwX6_sentThick seX6_sentThick rfl mlX11_170 dX11_thick_37 (by first | assumption | exact hR.a rfl | exact hR.o | exact hC.o | exact hC.pal | exact hC.tub | exact hC.k _ _ rfl | exact hC.pot _ (by omega) | exact hC.are _ (by omega) | exact hC.arl _ (by omega) | exact hC.tbo _ (by omega) (by omega)) (t_sentThick w hC (hC.pot p hp) (hC.ptr p hp) (fun j hj => w.pot hp hj) (show b < 8 by omega) r1 (by omega) r2 (by omega)) (by omega) (by omega) (by omega) rfl rfl (Nat.le_of_ble_eq_true rfl) rfl (pb_kE ?_)
      exact pb_ireturn dX11_thick_40 rfl (pb_finC (if_neg c1) hC)
    · refine pb_bipush (x := -2) (pc2 := 28) dX11_thick_26 (by decide) rfl ?_
      refine pb_goto (tgt := 40) dX11_thick_28 (by decide) ?_
      exact pb_ireturn dX11_thick_40 rfl (pb_finC (if_pos c1) hC)
  · first | refine pb_astore_n (lv2 := [_, _, _, _]) (pc2 := 6) dX11_thick_5 rfl (by decide) rfl rfl ?_ | refine pb_astore_nN (lv2 := [_, _, _, _]) (pc2 := 6) dX11_thick_5 rfl (by decide) rfl rfl ?_
    first | refine pb_aload_n (pc2 := 7) dX11_thick_6 rfl rfl rfl ?_ | refine pb_aload_nN (pc2 := 7) dX11_thick_6 rfl rfl rfl ?_
    refine pb_ifnullN (tgt := 17) dX11_thick_7 (by decide) ?_
    refine pb_iconst (x := -1) (pc2 := 18) dX11_thick_17 (by decide) rfl ?_
    exact pb_ireturn dX11_thick_18 rfl (pb_finC (if_neg (fun z => q z.1)) hC)
set_option maxRecDepth 10000 in
theorem c_seen (w : pb_WF A) (hC : pb_CF A h h) (p l s : Int32) : pb_T Z mX11_seen 3 0 0 [.ref 60, .int p, .int l, .int s] h (pb_PC (sp_seen A p l s) h) := by
  refine pb_T.of pnX11_seen (Nat.le_of_ble_eq_true rfl) (lv := [some (.ref 60), some (.int p), some (.int l), some (.int s), none, none]) rfl ?_
  first | refine pb_aload_n (pc2 := 1) dX11_seen_0 rfl rfl rfl ?_ | refine pb_aload_nN (pc2 := 1) dX11_seen_0 rfl rfl rfl ?_
  refine pb_iload_n (pc2 := 2) dX11_seen_1 rfl rfl rfl ?_
  refine pb_callV (pc2 := 5) (k2 := 0) (n2 := 0) mwX11_potAt pb_cl9.1 iwX11_potAt seX11_potAt rfl mlX11_147 dX11_seen_2 (by first | assumption | exact hR.a rfl | exact hR.o | exact hC.o | exact hC.pal | exact hC.tub | exact hC.k _ _ rfl | exact hC.pot _ (by omega) | exact hC.are _ (by omega) | exact hC.arl _ (by omega) | exact hC.tbo _ (by omega) (by omega)) (t_potAt hC p) (by omega) (by omega) (by omega) rfl rfl (Nat.le_of_ble_eq_true rfl) rfl (pb_kRef (fun p hp e => ?_) (fun q => ?_))
  · subst e
    first | refine pb_astore (lv2 := [_, _, _, _, _, _]) (pc2 := 7) dX11_seen_5 (by decide) rfl rfl ?_ | refine pb_astoreN (lv2 := [_, _, _, _, _, _]) (pc2 := 7) dX11_seen_5 (by decide) rfl rfl ?_
    first | refine pb_aload (pc2 := 9) dX11_seen_7 rfl rfl ?_ | refine pb_aloadN (pc2 := 9) dX11_seen_7 rfl rfl ?_
    refine pb_ifnull (pc2 := 12) dX11_seen_9 rfl ?_
    refine pb_iload_n (pc2 := 13) dX11_seen_12 rfl rfl rfl ?_
    refine pb_callS (pc2 := 16) (k2 := 0) (n2 := 0) mwX11_isLamp swX11_isLamp rfl mlX11_131 dX11_seen_13 (t_isLamp l) (by omega) (by omega) (by omega) rfl rfl (Nat.le_of_ble_eq_true rfl) rfl (pb_kB ?_ ?_)
    rotate_left
    · intro q1
      refine pb_ifT_eq (tgt := 26) dX11_seen_16 (by decide) rfl ?_
      refine pb_iconst (x := -1) (pc2 := 27) dX11_seen_26 (by decide) rfl ?_
      exact pb_ireturn dX11_seen_27 rfl (pb_finC (if_neg (fun z => q1 z.2.1)) hC)
    intro q1
    refine pb_ifF_eq (tgt := 26) (pc2 := 19) dX11_seen_16 (by decide) rfl (by decide) ?_
    refine pb_iload_n (pc2 := 20) dX11_seen_19 rfl rfl rfl ?_
    refine pb_callS (pc2 := 23) (k2 := 0) (n2 := 0) mwX11_isSight swX11_isSight rfl mlX11_141 dX11_seen_20 (t_isSight s) (by omega) (by omega) (by omega) rfl rfl (Nat.le_of_ble_eq_true rfl) rfl (pb_kB ?_ ?_)
    rotate_left
    · intro q2
      refine pb_ifF_ne (tgt := 28) (pc2 := 26) dX11_seen_23 rfl rfl (by decide) ?_
      refine pb_iconst (x := -1) (pc2 := 27) dX11_seen_26 (by decide) rfl ?_
      exact pb_ireturn dX11_seen_27 rfl (pb_finC (if_neg (fun z => q2 z.2.2)) hC)
    intro q2
    refine pb_ifT_ne (tgt := 28) dX11_seen_23 (by decide) (by decide) ?_
    have e0 : sp_seen A (nI p) l s = _ := if_pos ⟨pb_in_mk (by omega) (by omega) (by omega), q1, q2⟩
    rw [e0]
    obtain ⟨l, -, hl, rfl⟩ := nI_rng (by omega) q1 (by omega)
    obtain ⟨s, -, hs, rfl⟩ := nI_rng (by omega) q2 (by omega)
    rw [pb_natN (by omega), pb_natN (by omega), pb_natN (by omega)]
    have t1 := w.tot hp
    first | refine pb_aload (pc2 := 30) dX11_seen_28 rfl rfl ?_ | refine pb_aloadN (pc2 := 30) dX11_seen_28 rfl rfl ?_
    refine pb_getf (v := .int (nI (pb_tot A p))) (pc2 := 33) flX11_151_X6 rfl dX11_seen_30 (by first | assumption | exact hR.a rfl | exact hR.o | exact hC.o | exact hC.pal | exact hC.tub | exact hC.k _ _ rfl | exact hC.pot _ (by omega) | exact hC.are _ (by omega) | exact hC.arl _ (by omega) | exact hC.tbo _ (by omega) (by omega)) rfl rfl ?_
    refine pb_ifN_ne (tgt := 39) (pc2 := 36) dX11_seen_33 (by decide) rfl (by omega) (fun c1 => ?_) (fun c1 => ?_)
    · rw [if_neg c1]
      first | refine pb_aload_n (pc2 := 40) dX11_seen_39 rfl rfl rfl ?_ | refine pb_aload_nN (pc2 := 40) dX11_seen_39 rfl rfl rfl ?_
      refine pb_getf (pc2 := 43) flX11_19_X11 rfl dX11_seen_40 (by first | assumption | exact hR.a rfl | exact hR.o | exact hC.o | exact hC.pal | exact hC.tub | exact hC.k _ _ rfl | exact hC.pot _ (by omega) | exact hC.are _ (by omega) | exact hC.arl _ (by omega) | exact hC.tbo _ (by omega) (by omega)) rfl rfl ?_
      refine pb_iload_n (pc2 := 44) dX11_seen_43 rfl rfl rfl ?_
      refine pb_callV (pc2 := 47) (k2 := 0) (n2 := 0) mwX4_shine pb_cl4.1 iwX4_shine seX4_shine rfl mlX11_174 dX11_seen_44 (by first | assumption | exact hR.a rfl | exact hR.o | exact hC.o | exact hC.pal | exact hC.tub | exact hC.k _ _ rfl | exact hC.pot _ (by omega) | exact hC.are _ (by omega) | exact hC.arl _ (by omega) | exact hC.tbo _ (by omega) (by omega)) (t_shine w hC (show l < 4 by omega)) (by omega) (by omega) (by omega) rfl rfl (Nat.le_of_ble_eq_true rfl) rfl (fun v h1 q _ => ?_)
      obtain ⟨rfl, hC1, hL1, hne1⟩ := q
      have loop : ∀ (m b : Nat) (F : Nat → Nat) (h' : pb_H), 8 - b < m → b ≤ 8 → pb_CF A h h' → pb_LT A l h' → h' 67 = some (.inl (0, 8, fun j => nI (F j))) → (∀ j, j < b → F j = pb_tl A (pb_pot A p) j) → pb_S Z mX11_seen 3 0 0 (pb_PC (nI (pb_see A l s (pb_tl A (pb_pot A p))), A) h) 50 [some (.ref 60), some (.int (nI p)), some (.int (nI l)), some (.int (nI s)), some (.ref (100 + p)), some (.int (nI b))] [] h' := by
        intro m
        induction m with
        | zero => intro b F h' h1; omega
        | succ m ih =>
          intro b F h' g1 g2 hC hL h67 hF
          refine pb_iload (pc2 := 52) dX11_seen_50 rfl rfl ?_
          refine pb_bipush (x := nI 8) (pc2 := 54) dX11_seen_52 (by decide) rfl ?_
          refine pb_icmpN_ge (tgt := 81) (pc2 := 57) dX11_seen_54 (by decide) rfl (by omega) (by omega) (fun q => ?_) (fun q => ?_)
          · have e : b = 8 := by omega
            subst e
            first | refine pb_aload_n (pc2 := 82) dX11_seen_81 rfl rfl rfl ?_ | refine pb_aload_nN (pc2 := 82) dX11_seen_81 rfl rfl rfl ?_
            refine pb_getf (pc2 := 85) flX11_19_X11 rfl dX11_seen_82 (by first | assumption | exact hR.a rfl | exact hR.o | exact hC.o | exact hC.pal | exact hC.tub | exact hC.k _ _ rfl | exact hC.pot _ (by omega) | exact hC.are _ (by omega) | exact hC.arl _ (by omega) | exact hC.tbo _ (by omega) (by omega)) rfl rfl ?_
            refine pb_iload_n (pc2 := 86) dX11_seen_85 rfl rfl rfl ?_
            first | refine pb_aload_n (pc2 := 87) dX11_seen_86 rfl rfl rfl ?_ | refine pb_aload_nN (pc2 := 87) dX11_seen_86 rfl rfl rfl ?_
            refine pb_getf (pc2 := 90) flX11_44_X11 rfl dX11_seen_87 (by first | assumption | exact hR.a rfl | exact hR.o | exact hC.o | exact hC.pal | exact hC.tub | exact hC.k _ _ rfl | exact hC.pot _ (by omega) | exact hC.are _ (by omega) | exact hC.arl _ (by omega) | exact hC.tbo _ (by omega) (by omega)) rfl rfl ?_
            refine pb_callV (pc2 := 93) (k2 := 0) (n2 := 0) mwX4_bySight pb_cl4.1 iwX4_bySight seX4_bySight rfl mlX11_178 dX11_seen_90 (by first | assumption | exact hR.a rfl | exact hR.o | exact hC.o | exact hC.pal | exact hC.tub | exact hC.k _ _ rfl | exact hC.pot _ (by omega) | exact hC.are _ (by omega) | exact hC.arl _ (by omega) | exact hC.tbo _ (by omega) (by omega)) (t_bySight w hC hL (show l < 4 by omega) (show s < 3 by omega) h67 (fun b hb _ => by rw [hF b hb]; exact pb_thick_le _ _)) (by omega) (by omega) (by omega) rfl rfl (Nat.le_of_ble_eq_true rfl) rfl (pb_kE ?_)
            refine pb_top (v2 := .int (nI (pb_see A l s (pb_tl A (pb_pot A p))))) (by rw [pb_see_congr hF]) ?_
            exact pb_ireturn dX11_seen_93 rfl (pb_finC rfl hC)
          · obtain ⟨r1, r2, r3, r4⟩ := w.potr hp q c1
            first | refine pb_aload_n (pc2 := 58) dX11_seen_57 rfl rfl rfl ?_ | refine pb_aload_nN (pc2 := 58) dX11_seen_57 rfl rfl rfl ?_
            refine pb_getf (pc2 := 61) flX11_44_X11 rfl dX11_seen_58 (by first | assumption | exact hR.a rfl | exact hR.o | exact hC.o | exact hC.pal | exact hC.tub | exact hC.k _ _ rfl | exact hC.pot _ (by omega) | exact hC.are _ (by omega) | exact hC.arl _ (by omega) | exact hC.tbo _ (by omega) (by omega)) rfl rfl ?_
            refine pb_iload (pc2 := 63) dX11_seen_61 rfl rfl ?_
            first | refine pb_aload (pc2 := 65) dX11_seen_63 rfl rfl ?_ | refine pb_aloadN (pc2 := 65) dX11_seen_63 rfl rfl ?_
            first | refine pb_aload_n (pc2 := 66) dX11_seen_65 rfl rfl rfl ?_ | refine pb_aload_nN (pc2 := 66) dX11_seen_65 rfl rfl rfl ?_
            refine pb_getf (pc2 := 69) flX11_12_X11 rfl dX11_seen_66 (by first | assumption | exact hR.a rfl | exact hR.o | exact hC.o | exact hC.pal | exact hC.tub | exact hC.k _ _ rfl | exact hC.pot _ (by omega) | exact hC.are _ (by omega) | exact hC.arl _ (by omega) | exact hC.tbo _ (by omega) (by omega)) rfl rfl ?_
            refine pb_iload (pc2 := 71) dX11_seen_69 rfl rfl ?_
            refine pb_callV (pc2 := 74) (k2 := 0) (n2 := 0) mwX6_sentThick pb_cl6.1 iwX6_sentThick seX6_sentThick rfl mlX11_170 dX11_seen_71 (by first | assumption | exact hR.a rfl | exact hR.o | exact hC.o | exact hC.pal | exact hC.tub | exact hC.k _ _ rfl | exact hC.pot _ (by omega) | exact hC.are _ (by omega) | exact hC.arl _ (by omega) | exact hC.tbo _ (by omega) (by omega)) (t_sentThick w hC (hC.pot p hp) (hC.ptr p hp) (fun j hj => w.pot hp hj) q r1 (by omega) r2 (by omega)) (by omega) (by omega) (by omega) rfl rfl (Nat.le_of_ble_eq_true rfl) rfl (pb_kE ?_)
            refine pb_iastG (pc2 := 75) h67 dX11_seen_74 (by omega) (by omega) (by omega) rfl (fun h2 h67 n2 => ?_)
            refine pb_iincP (c0 := 1) (lv2 := [_, _, _, _, _, _]) (pc2 := 78) dX11_seen_75 rfl (by decide) rfl rfl ?_
            refine pb_goto (tgt := 50) dX11_seen_78 (by decide) ?_
            refine ih (b + 1) _ h2 (by omega) (by omega) (hC.sc (a := 67) rfl h67 n2) (hL.up (fun x x1 x2 => n2 x (by omega))) h67 (fun j hj => ?_)
            by_cases e : j = b
            · rw [e, pb_un_self]
            · rw [pb_un_ne _ _ e]; exact hF j (by omega)
      obtain ⟨F, h67⟩ := hC1.s 67 8 rfl
      refine pb_iconst (x := nI 0) (pc2 := 48) dX11_seen_47 (by decide) rfl ?_
      refine pb_istore (lv2 := [_, _, _, _, _, _]) (pc2 := 50) dX11_seen_48 (by decide) rfl rfl ?_
      exact loop 9 0 F h1 (by omega) (by omega) hC1 hL1 h67 (fun j hj => by omega)
    · refine pb_bipush (x := -2) (pc2 := 38) dX11_seen_36 (by decide) rfl ?_
      exact pb_ireturn dX11_seen_38 rfl (pb_finC (if_pos c1) hC)
  · first | refine pb_astore (lv2 := [_, _, _, _, _, _]) (pc2 := 7) dX11_seen_5 (by decide) rfl rfl ?_ | refine pb_astoreN (lv2 := [_, _, _, _, _, _]) (pc2 := 7) dX11_seen_5 (by decide) rfl rfl ?_
    first | refine pb_aload (pc2 := 9) dX11_seen_7 rfl rfl ?_ | refine pb_aloadN (pc2 := 9) dX11_seen_7 rfl rfl ?_
    refine pb_ifnullN (tgt := 26) dX11_seen_9 (by decide) ?_
    refine pb_iconst (x := -1) (pc2 := 27) dX11_seen_26 (by decide) rfl ?_
    exact pb_ireturn dX11_seen_27 rfl (pb_finC (if_neg (fun z => q z.1)) hC)
set_option maxRecDepth 10000 in
theorem c_over (w : pb_WF A) (hC : pb_CF A h h) (p b n g : Int32) : pb_T Z mX11_over 3 0 0 [.ref 60, .int p, .int b, .int n, .int g] h (pb_PC (sp_over A p b n g) h) := by
  refine pb_T.of pnX11_over (Nat.le_of_ble_eq_true rfl) (lv := [some (.ref 60), some (.int p), some (.int b), some (.int n), some (.int g), none, none, none]) rfl ?_
  first | refine pb_aload_n (pc2 := 1) dX11_over_0 rfl rfl rfl ?_ | refine pb_aload_nN (pc2 := 1) dX11_over_0 rfl rfl rfl ?_
  refine pb_iload_n (pc2 := 2) dX11_over_1 rfl rfl rfl ?_
  refine pb_callV (pc2 := 5) (k2 := 0) (n2 := 0) mwX11_potAt pb_cl9.1 iwX11_potAt seX11_potAt rfl mlX11_147 dX11_over_2 (by first | assumption | exact hR.a rfl | exact hR.o | exact hC.o | exact hC.pal | exact hC.tub | exact hC.k _ _ rfl | exact hC.pot _ (by omega) | exact hC.are _ (by omega) | exact hC.arl _ (by omega) | exact hC.tbo _ (by omega) (by omega)) (t_potAt hC p) (by omega) (by omega) (by omega) rfl rfl (Nat.le_of_ble_eq_true rfl) rfl (pb_kRef (fun p hp e => ?_) (fun q => ?_))
  · subst e
    first | refine pb_astore (lv2 := [_, _, _, _, _, _, _, _]) (pc2 := 7) dX11_over_5 (by decide) rfl rfl ?_ | refine pb_astoreN (lv2 := [_, _, _, _, _, _, _, _]) (pc2 := 7) dX11_over_5 (by decide) rfl rfl ?_
    first | refine pb_aload (pc2 := 9) dX11_over_7 rfl rfl ?_ | refine pb_aloadN (pc2 := 9) dX11_over_7 rfl rfl ?_
    refine pb_ifnull (pc2 := 12) dX11_over_9 rfl ?_
    refine pb_iload_n (pc2 := 13) dX11_over_12 rfl rfl rfl ?_
    refine pb_callS (pc2 := 16) (k2 := 0) (n2 := 0) mwX11_isBand swX11_isBand rfl mlX11_98 dX11_over_13 (t_isBand b) (by omega) (by omega) (by omega) rfl rfl (Nat.le_of_ble_eq_true rfl) rfl (pb_kB ?_ ?_)
    rotate_left
    · intro q1
      refine pb_ifT_eq (tgt := 38) dX11_over_16 (by decide) rfl ?_
      refine pb_iconst (x := -1) (pc2 := 39) dX11_over_38 (by decide) rfl ?_
      exact pb_ireturn dX11_over_39 rfl (pb_finC (if_neg (fun z => q1 z.2.1)) hC)
    intro q1
    refine pb_ifF_eq (tgt := 38) (pc2 := 19) dX11_over_16 (by decide) rfl (by decide) ?_
    refine pb_iload_n (pc2 := 20) dX11_over_19 rfl rfl rfl ?_
    refine pb_iconst (x := nI 1) (pc2 := 21) dX11_over_20 (by decide) rfl ?_
    refine pb_sipush (x := nI 200) (pc2 := 24) dX11_over_21 (by decide) rfl ?_
    refine pb_callS (pc2 := 27) (k2 := 0) (n2 := 0) mwX11_between swX11_between rfl mlX11_77 dX11_over_24 (t_between n (nI 1) (nI 200)) (by omega) (by omega) (by omega) rfl rfl (Nat.le_of_ble_eq_true rfl) rfl (pb_kB ?_ ?_)
    rotate_left
    · intro q2
      refine pb_ifT_eq (tgt := 38) dX11_over_27 (by decide) rfl ?_
      refine pb_iconst (x := -1) (pc2 := 39) dX11_over_38 (by decide) rfl ?_
      exact pb_ireturn dX11_over_39 rfl (pb_finC (if_neg (fun z => q2 z.2.2.1)) hC)
    intro q2
    refine pb_ifF_eq (tgt := 38) (pc2 := 30) dX11_over_27 (by decide) rfl (by decide) ?_
    refine pb_iload (pc2 := 32) dX11_over_30 rfl rfl ?_
    refine pb_callS (pc2 := 35) (k2 := 0) (n2 := 0) mwX11_isShare swX11_isShare rfl mlX11_182 dX11_over_32 (t_isShare g) (by omega) (by omega) (by omega) rfl rfl (Nat.le_of_ble_eq_true rfl) rfl (pb_kB ?_ ?_)
    rotate_left
    · intro q3
      refine pb_ifF_ne (tgt := 40) (pc2 := 38) dX11_over_35 rfl rfl (by decide) ?_
      refine pb_iconst (x := -1) (pc2 := 39) dX11_over_38 (by decide) rfl ?_
      exact pb_ireturn dX11_over_39 rfl (pb_finC (if_neg (fun z => q3 z.2.2.2)) hC)
    intro q3
    refine pb_ifT_ne (tgt := 40) dX11_over_35 (by decide) (by decide) ?_
    have e0 : sp_over A (nI p) b n g = _ := if_pos ⟨pb_in_mk (by omega) (by omega) (by omega), q1, q2, q3⟩
    rw [e0]
    obtain ⟨b, -, hb, rfl⟩ := nI_rng (by omega) q1 (by omega)
    obtain ⟨n, -, hn, rfl⟩ := nI_rng (by omega) q2 (by omega)
    obtain ⟨g, -, hg, rfl⟩ := nI_rng (by omega) q3 (by omega)
    rw [pb_natN (by omega), pb_natN (by omega), pb_natN (by omega), pb_natN (by omega)]
    have t1 := w.tot hp
    first | refine pb_aload (pc2 := 42) dX11_over_40 rfl rfl ?_ | refine pb_aloadN (pc2 := 42) dX11_over_40 rfl rfl ?_
    refine pb_getf (v := .int (nI (pb_tot A p))) (pc2 := 45) flX11_151_X6 rfl dX11_over_42 (by first | assumption | exact hR.a rfl | exact hR.o | exact hC.o | exact hC.pal | exact hC.tub | exact hC.k _ _ rfl | exact hC.pot _ (by omega) | exact hC.are _ (by omega) | exact hC.arl _ (by omega) | exact hC.tbo _ (by omega) (by omega)) rfl rfl ?_
    refine pb_ifN_ne (tgt := 51) (pc2 := 48) dX11_over_45 (by decide) rfl (by omega) (fun c1 => ?_) (fun c1 => ?_)
    · obtain ⟨r1, r2, r3, r4⟩ := w.potr hp (show b < 8 by omega) c1
      first | refine pb_aload (pc2 := 53) dX11_over_51 rfl rfl ?_ | refine pb_aloadN (pc2 := 53) dX11_over_51 rfl rfl ?_
      first | refine pb_aload_n (pc2 := 54) dX11_over_53 rfl rfl rfl ?_ | refine pb_aload_nN (pc2 := 54) dX11_over_53 rfl rfl rfl ?_
      refine pb_getf (pc2 := 57) flX11_12_X11 rfl dX11_over_54 (by first | assumption | exact hR.a rfl | exact hR.o | exact hC.o | exact hC.pal | exact hC.tub | exact hC.k _ _ rfl | exact hC.pot _ (by omega) | exact hC.are _ (by omega) | exact hC.arl _ (by omega) | exact hC.tbo _ (by omega) (by omega)) rfl rfl ?_
      refine pb_iload_n (pc2 := 58) dX11_over_57 rfl rfl rfl ?_
      refine pb_iconst (x := nI 0) (pc2 := 59) dX11_over_58 (by decide) rfl ?_
      refine pb_callV (pc2 := 62) (k2 := 0) (n2 := 0) mwX6_drink pb_cl6.1 iwX6_drink seX6_drink rfl mlX11_185 dX11_over_59 (by first | assumption | exact hR.a rfl | exact hR.o | exact hC.o | exact hC.pal | exact hC.tub | exact hC.k _ _ rfl | exact hC.pot _ (by omega) | exact hC.are _ (by omega) | exact hC.arl _ (by omega) | exact hC.tbo _ (by omega) (by omega)) (t_drink w hC (hC.pot p hp) (hC.ptr p hp) (fun j hj => w.pot hp hj) (show b < 8 by omega) (show 0 < 100 by omega)) (by omega) (by omega) (by omega) rfl rfl (Nat.le_of_ble_eq_true rfl) rfl (pb_kE ?_)
      refine pb_istore (lv2 := [_, _, _, _, _, _, _, _]) (pc2 := 64) dX11_over_62 (by decide) rfl rfl ?_
      first | refine pb_aload (pc2 := 66) dX11_over_64 rfl rfl ?_ | refine pb_aloadN (pc2 := 66) dX11_over_64 rfl rfl ?_
      first | refine pb_aload_n (pc2 := 67) dX11_over_66 rfl rfl rfl ?_ | refine pb_aload_nN (pc2 := 67) dX11_over_66 rfl rfl rfl ?_
      refine pb_getf (pc2 := 70) flX11_12_X11 rfl dX11_over_67 (by first | assumption | exact hR.a rfl | exact hR.o | exact hC.o | exact hC.pal | exact hC.tub | exact hC.k _ _ rfl | exact hC.pot _ (by omega) | exact hC.are _ (by omega) | exact hC.arl _ (by omega) | exact hC.tbo _ (by omega) (by omega)) rfl rfl ?_
      refine pb_iload_n (pc2 := 71) dX11_over_70 rfl rfl rfl ?_
      refine pb_callV (pc2 := 74) (k2 := 0) (n2 := 0) mwX6_scatter pb_cl6.1 iwX6_scatter seX6_scatter rfl mlX11_189 dX11_over_71 (by first | assumption | exact hR.a rfl | exact hR.o | exact hC.o | exact hC.pal | exact hC.tub | exact hC.k _ _ rfl | exact hC.pot _ (by omega) | exact hC.are _ (by omega) | exact hC.arl _ (by omega) | exact hC.tbo _ (by omega) (by omega)) (t_scatter w hC (hC.pot p hp) (hC.ptr p hp) (fun j hj => w.pot hp hj) (show b < 8 by omega)) (by omega) (by omega) (by omega) rfl rfl (Nat.le_of_ble_eq_true rfl) rfl (pb_kE ?_)
      refine pb_istore (lv2 := [_, _, _, _, _, _, _, _]) (pc2 := 76) dX11_over_74 (by decide) rfl rfl ?_
      refine pb_iload (pc2 := 78) dX11_over_76 rfl rfl ?_
      refine pb_iload (pc2 := 80) dX11_over_78 rfl rfl ?_
      refine pb_callS (pc2 := 83) (k2 := 0) (n2 := 0) mwX7_thinTake swX7_thinTake rfl mlX11_192 dX11_over_80 (t_thinTake (by omega) (by omega)) (by omega) (by omega) (by omega) rfl rfl (Nat.le_of_ble_eq_true rfl) rfl (pb_kE ?_)
      refine pb_iload (pc2 := 85) dX11_over_83 rfl rfl ?_
      refine pb_iload (pc2 := 87) dX11_over_85 rfl rfl ?_
      refine pb_callS (pc2 := 90) (k2 := 0) (n2 := 0) mwX7_thinSend swX7_thinSend rfl mlX11_197 dX11_over_87 (t_thinSend (by omega) (by omega)) (by omega) (by omega) (by omega) rfl rfl (Nat.le_of_ble_eq_true rfl) rfl (pb_kE ?_)
      refine pb_iload_n (pc2 := 91) dX11_over_90 rfl rfl rfl ?_
      refine pb_iload (pc2 := 93) dX11_over_91 rfl rfl ?_
      refine pb_callS (pc2 := 96) (k2 := 0) (n2 := 0) mwX7_layered swX7_layered rfl mlX11_200 dX11_over_93 (t_layered (pb_tab _ _) (by omega) hg) (by omega) (by omega) (by omega) rfl rfl (Nat.le_of_ble_eq_true rfl) rfl (pb_kE ?_)
      exact pb_ireturn dX11_over_96 rfl (pb_finC (if_neg c1) hC)
    · refine pb_bipush (x := -2) (pc2 := 50) dX11_over_48 (by decide) rfl ?_
      exact pb_ireturn dX11_over_50 rfl (pb_finC (if_pos c1) hC)
  · first | refine pb_astore (lv2 := [_, _, _, _, _, _, _, _]) (pc2 := 7) dX11_over_5 (by decide) rfl rfl ?_ | refine pb_astoreN (lv2 := [_, _, _, _, _, _, _, _]) (pc2 := 7) dX11_over_5 (by decide) rfl rfl ?_
    first | refine pb_aload (pc2 := 9) dX11_over_7 rfl rfl ?_ | refine pb_aloadN (pc2 := 9) dX11_over_7 rfl rfl ?_
    refine pb_ifnullN (tgt := 38) dX11_over_9 (by decide) ?_
    refine pb_iconst (x := -1) (pc2 := 39) dX11_over_38 (by decide) rfl ?_
    exact pb_ireturn dX11_over_39 rfl (pb_finC (if_neg (fun z => q z.1)) hC)
set_option maxRecDepth 10000 in
theorem c_ground (w : pb_WF A) (hC : pb_CF A h h) (a g : Int32) : pb_T Z mX11_ground 2 0 0 [.ref 60, .int a, .int g] h (pb_PC (sp_ground A a g) h) := by
  refine pb_T.of pnX11_ground (Nat.le_of_ble_eq_true rfl) (lv := [some (.ref 60), some (.int a), some (.int g), none, none]) rfl ?_
  first | refine pb_aload_n (pc2 := 1) dX11_ground_0 rfl rfl rfl ?_ | refine pb_aload_nN (pc2 := 1) dX11_ground_0 rfl rfl rfl ?_
  refine pb_iload_n (pc2 := 2) dX11_ground_1 rfl rfl rfl ?_
  refine pb_callV (pc2 := 5) (k2 := 0) (n2 := 0) mwX11_areaAt pb_cl9.1 iwX11_areaAt seX11_areaAt rfl mlX11_213 dX11_ground_2 (by first | assumption | exact hR.a rfl | exact hR.o | exact hC.o | exact hC.pal | exact hC.tub | exact hC.k _ _ rfl | exact hC.pot _ (by omega) | exact hC.are _ (by omega) | exact hC.arl _ (by omega) | exact hC.tbo _ (by omega) (by omega)) (t_areaAt hC a) (by omega) (by omega) (by omega) rfl rfl (Nat.le_of_ble_eq_true rfl) rfl (pb_kRef (fun a ha e => ?_) (fun q => ?_))
  · subst e
    first | refine pb_astore_n (lv2 := [_, _, _, _, _]) (pc2 := 6) dX11_ground_5 rfl (by decide) rfl rfl ?_ | refine pb_astore_nN (lv2 := [_, _, _, _, _]) (pc2 := 6) dX11_ground_5 rfl (by decide) rfl rfl ?_
    first | refine pb_aload_n (pc2 := 7) dX11_ground_6 rfl rfl rfl ?_ | refine pb_aload_nN (pc2 := 7) dX11_ground_6 rfl rfl rfl ?_
    refine pb_ifnull (pc2 := 10) dX11_ground_7 rfl ?_
    refine pb_iload_n (pc2 := 11) dX11_ground_10 rfl rfl rfl ?_
    refine pb_callS (pc2 := 14) (k2 := 0) (n2 := 0) mwX11_isShare swX11_isShare rfl mlX11_182 dX11_ground_11 (t_isShare g) (by omega) (by omega) (by omega) rfl rfl (Nat.le_of_ble_eq_true rfl) rfl (pb_kB ?_ ?_)
    rotate_left
    · intro q1
      refine pb_ifF_ne (tgt := 19) (pc2 := 17) dX11_ground_14 rfl rfl (by decide) ?_
      refine pb_iconst (x := -1) (pc2 := 18) dX11_ground_17 (by decide) rfl ?_
      exact pb_ireturn dX11_ground_18 rfl (pb_finC (if_neg (fun z => q1 z.2)) hC)
    intro q1
    refine pb_ifT_ne (tgt := 19) dX11_ground_14 (by decide) (by decide) ?_
    have e0 : sp_ground A (nI a) g = _ := if_pos ⟨pb_in_mk (by omega) (by omega) (by omega), q1⟩
    rw [e0]
    obtain ⟨g, -, hg, rfl⟩ := nI_rng (by omega) q1 (by omega)
    rw [pb_natN (by omega), pb_natN (by omega)]
    have h13 := (w.area ha).2
    first | refine pb_aload_n (pc2 := 20) dX11_ground_19 rfl rfl rfl ?_ | refine pb_aload_nN (pc2 := 20) dX11_ground_19 rfl rfl rfl ?_
    refine pb_getf (pc2 := 23) flX11_217_X0 rfl dX11_ground_20 (by first | assumption | exact hR.a rfl | exact hR.o | exact hC.o | exact hC.pal | exact hC.tub | exact hC.k _ _ rfl | exact hC.pot _ (by omega) | exact hC.are _ (by omega) | exact hC.arl _ (by omega) | exact hC.tbo _ (by omega) (by omega)) rfl rfl ?_
    refine pb_ifN_le (tgt := 29) (pc2 := 26) dX11_ground_23 (by decide) rfl (by omega) (fun c1 => ?_) (fun c1 => ?_)
    · rw [if_neg (by omega)]
      first | refine pb_aload_n (pc2 := 30) dX11_ground_29 rfl rfl rfl ?_ | refine pb_aload_nN (pc2 := 30) dX11_ground_29 rfl rfl rfl ?_
      refine pb_getf (pc2 := 33) flX11_220_X0 rfl dX11_ground_30 (by first | assumption | exact hR.a rfl | exact hR.o | exact hC.o | exact hC.pal | exact hC.tub | exact hC.k _ _ rfl | exact hC.pot _ (by omega) | exact hC.are _ (by omega) | exact hC.arl _ (by omega) | exact hC.tbo _ (by omega) (by omega)) rfl rfl ?_
      refine pb_istore (lv2 := [_, _, _, _, _]) (pc2 := 35) dX11_ground_33 (by decide) rfl rfl ?_
      first | refine pb_aload_n (pc2 := 36) dX11_ground_35 rfl rfl rfl ?_ | refine pb_aload_nN (pc2 := 36) dX11_ground_35 rfl rfl rfl ?_
      refine pb_iload_n (pc2 := 37) dX11_ground_36 rfl rfl rfl ?_
      refine pb_putG (pc2 := 40) flX11_220_X0 rfl dX11_ground_37 (hC.are a ha) (by omega) rfl rfl rfl rfl rfl (fun h1 ho nb => ?_)
      have fa : ∀ a', a' < 10 → h1 (110 + a') = some (.inr (.inr (0, [.ref (140 + a'), .int (nI (A 13 a')), .int (nI (pb_un (A 12) a g a'))]))) := fun a' ha' => by
        by_cases e : a' = a
        · subst e
          rw [ho, pb_un_self]
          rfl
        · rw [nb _ (by omega), pb_un_ne _ _ e]
          exact hC.are a' ha'
      have hC2 : pb_CF (pb_wf A 12 (pb_un (A 12) a g)) h h1 := by
        exact pb_CF.mk (fun b hb => (nb b (by omega)).trans (hC.low b hb)) (fun a c e => (nb a (by first | exact cK_ne e rfl | (have := cK_rng e; omega))).trans (hC.k a c e)) (fun a n e => by rw [nb a (by first | exact cS_ne e rfl | (have := cS_rng e; omega))]; exact hC.s a n e) ((nb 60 (by omega)).trans hC.o) ((nb 61 (by omega)).trans hC.pal) (by rw [nb 65 (by omega)]; exact hC.wan) (fun i hi => by rw [nb _ (by omega)]; exact hC.kpr i hi) ((nb 71 (by omega)).trans hC.tub) (fun i hi => by rw [nb _ (by omega)]; exact hC.lmr i hi) (fun i hi => by rw [nb _ (by omega)]; exact hC.sgr i hi) (by rw [nb 76 (by omega)]; exact hC.shw) (fun p hp => (nb _ (by omega)).trans (hC.pot p hp)) (fun p hp => by rw [nb _ (by omega)]; exact hC.ptr p hp) (fa) (fun a ha => (nb _ (by omega)).trans (hC.arl a ha)) (fun t h12 ht => (nb _ (by omega)).trans (hC.tbo t h12 ht)) (fun t h12 ht => by rw [nb _ (by omega)]; exact hC.tbd t h12 ht) (fun t h12 ht => by rw [nb _ (by omega)]; exact hC.tbs t h12 ht) (fun t ht ht2 => by have hz_ : A 1 0 ≤ t := ht; rw [nb _ (by omega), nb _ (by omega), nb _ (by omega)]; exact hC.tbn t ht ht2) (fun a i ha h10 hi => by rw [nb _ (by omega), nb _ (by omega), nb _ (by omega)]; exact hC.lyo a i ha h10 hi) (fun a i ha h10 hi => by unfold cCache; rw [nb _ (by omega), nb _ (by omega), nb _ (by omega), nb _ (by omega)]; exact hC.lyc a i ha h10 hi) (fun a i ha hi hi2 q hq => (nb _ (by omega)).trans (hC.lyn a i ha hi hi2 q hq)) (by rw [nb 68 (by omega)]; exact hC.mat) (by rw [nb 309 (by omega)]; exact hC.bst) (by rw [nb 69 (by omega), nb 411 (by omega), nb 413 (by omega)]; exact hC.cho) (by rw [nb 70 (by omega)]; exact hC.gla) (by rw [nb 500 (by omega)]; exact hC.glb) (fun a ha => by rw [nb a (by omega)]; exact hC.zer a ha)
      refine pb_iload (pc2 := 42) dX11_ground_40 rfl rfl ?_
      exact pb_ireturn dX11_ground_42 rfl (pb_finC rfl hC2)
    · rw [if_pos (by omega)]
      refine pb_bipush (x := -2) (pc2 := 28) dX11_ground_26 (by decide) rfl ?_
      exact pb_ireturn dX11_ground_28 rfl (pb_finC rfl hC)
  · first | refine pb_astore_n (lv2 := [_, _, _, _, _]) (pc2 := 6) dX11_ground_5 rfl (by decide) rfl rfl ?_ | refine pb_astore_nN (lv2 := [_, _, _, _, _]) (pc2 := 6) dX11_ground_5 rfl (by decide) rfl rfl ?_
    first | refine pb_aload_n (pc2 := 7) dX11_ground_6 rfl rfl rfl ?_ | refine pb_aload_nN (pc2 := 7) dX11_ground_6 rfl rfl rfl ?_
    refine pb_ifnullN (tgt := 17) dX11_ground_7 (by decide) ?_
    refine pb_iconst (x := -1) (pc2 := 18) dX11_ground_17 (by decide) rfl ?_
    exact pb_ireturn dX11_ground_18 rfl (pb_finC (if_neg (fun z => q z.1)) hC)
theorem t_dropsOf {sz tp x c f t : Nat} {F : Nat → Nat} (hm : h 68 = some (.inr (.inr (5, cMt sz tp x c f)))) (hb : h 309 = some (.inl (0, 12, fun j => nI (F j)))) (ht : t < 12) : pb_T Z mX5_dropsOf 0 0 0 [.ref 68, .int (nI t)] h (pb_E (some (.int (nI (F t)))) h) := by
  refine pb_T.of pnX5_dropsOf (Nat.le_of_ble_eq_true rfl) (lv := [some (.ref 68), some (.int (nI t))]) rfl ?_
  first | refine pb_aload_n (pc2 := 1) dX5_dropsOf_0 rfl rfl rfl ?_ | refine pb_aload_nN (pc2 := 1) dX5_dropsOf_0 rfl rfl rfl ?_
  refine pb_getf (pc2 := 4) flX5_22_X5 rfl dX5_dropsOf_1 (by first | assumption | exact hR.a rfl | exact hR.o | exact hC.o | exact hC.pal | exact hC.tub | exact hC.k _ _ rfl | exact hC.pot _ (by omega) | exact hC.are _ (by omega) | exact hC.arl _ (by omega) | exact hC.tbo _ (by omega) (by omega)) rfl rfl ?_
  refine pb_iload_n (pc2 := 5) dX5_dropsOf_4 rfl rfl rfl ?_
  refine pb_iald (pc2 := 6) (by first | assumption | exact hR.a rfl | exact hR.o | exact hC.o | exact hC.pal | exact hC.tub | exact hC.k _ _ rfl | exact hC.pot _ (by omega) | exact hC.are _ (by omega) | exact hC.arl _ (by omega) | exact hC.tbo _ (by omega) (by omega)) ⟨by decide, rfl⟩ dX5_dropsOf_5 (by omega) (by omega) rfl ?_
  exact pb_ireturn dX5_dropsOf_6 rfl (⟨rfl, rfl⟩)
theorem c_matched (w : pb_WF A) (hC : pb_CF A h h) (t : Int32) : pb_T Z mX11_matched 2 0 0 [.ref 60, .int t] h (pb_PC (sp_matched A t) h) := by
  have htt := w.tubes
  have h18 := w.rest.1
  obtain ⟨sz, tp, f, hm⟩ := hC.mat
  refine pb_T.of pnX11_matched (Nat.le_of_ble_eq_true rfl) (lv := [some (.ref 60), some (.int t)]) rfl ?_
  first | refine pb_aload_n (pc2 := 1) dX11_matched_0 rfl rfl rfl ?_ | refine pb_aload_nN (pc2 := 1) dX11_matched_0 rfl rfl rfl ?_
  refine pb_getf (pc2 := 4) flX11_12_X11 rfl dX11_matched_1 (by first | assumption | exact hR.a rfl | exact hR.o | exact hC.o | exact hC.pal | exact hC.tub | exact hC.k _ _ rfl | exact hC.pot _ (by omega) | exact hC.are _ (by omega) | exact hC.arl _ (by omega) | exact hC.tbo _ (by omega) (by omega)) rfl rfl ?_
  refine pb_iload_n (pc2 := 5) dX11_matched_4 rfl rfl rfl ?_
  refine pb_callV (pc2 := 8) (k2 := 0) (n2 := 0) mwX8_at pb_cl7.1 iwX8_at seX8_at rfl mlX11_94 dX11_matched_5 (by first | assumption | exact hR.a rfl | exact hR.o | exact hC.o | exact hC.pal | exact hC.tub | exact hC.k _ _ rfl | exact hC.pot _ (by omega) | exact hC.are _ (by omega) | exact hC.arl _ (by omega) | exact hC.tbo _ (by omega) (by omega)) (t_at w hC t) (by omega) (by omega) (by omega) rfl rfl (Nat.le_of_ble_eq_true rfl) rfl (pb_kRef (fun t ht e => ?_) (fun q => ?_))
  · subst e
    refine pb_ifnull (pc2 := 11) dX11_matched_8 rfl ?_
    first | refine pb_aload_n (pc2 := 12) dX11_matched_11 rfl rfl rfl ?_ | refine pb_aload_nN (pc2 := 12) dX11_matched_11 rfl rfl rfl ?_
    refine pb_getf (pc2 := 15) flX11_50_X11 rfl dX11_matched_12 (by first | assumption | exact hR.a rfl | exact hR.o | exact hC.o | exact hC.pal | exact hC.tub | exact hC.k _ _ rfl | exact hC.pot _ (by omega) | exact hC.are _ (by omega) | exact hC.arl _ (by omega) | exact hC.tbo _ (by omega) (by omega)) rfl rfl ?_
    refine pb_getf (pc2 := 18) flX11_253_X5 rfl dX11_matched_15 (by first | assumption | exact hR.a rfl | exact hR.o | exact hC.o | exact hC.pal | exact hC.tub | exact hC.k _ _ rfl | exact hC.pot _ (by omega) | exact hC.are _ (by omega) | exact hC.arl _ (by omega) | exact hC.tbo _ (by omega) (by omega)) rfl rfl ?_
    refine pb_ifN_ne (tgt := 25) (pc2 := 21) dX11_matched_18 (by decide) rfl (by omega) (fun c => ?_) (fun c => ?_)
    · have e0 : sp_matched A (nI t) = _ := if_pos ⟨c, pb_isT_mk w ht⟩
      rw [e0, pb_natN (by omega)]
      obtain ⟨F, hb, hF⟩ := hC.bst
      first | refine pb_aload_n (pc2 := 26) dX11_matched_25 rfl rfl rfl ?_ | refine pb_aload_nN (pc2 := 26) dX11_matched_25 rfl rfl rfl ?_
      refine pb_getf (pc2 := 29) flX11_50_X11 rfl dX11_matched_26 (by first | assumption | exact hR.a rfl | exact hR.o | exact hC.o | exact hC.pal | exact hC.tub | exact hC.k _ _ rfl | exact hC.pot _ (by omega) | exact hC.are _ (by omega) | exact hC.arl _ (by omega) | exact hC.tbo _ (by omega) (by omega)) rfl rfl ?_
      refine pb_iload_n (pc2 := 30) dX11_matched_29 rfl rfl rfl ?_
      refine pb_callV (pc2 := 33) (k2 := 0) (n2 := 0) mwX5_dropsOf pb_cl5.1 iwX5_dropsOf seX5_dropsOf rfl mlX11_257 dX11_matched_30 (by first | assumption | exact hR.a rfl | exact hR.o | exact hC.o | exact hC.pal | exact hC.tub | exact hC.k _ _ rfl | exact hC.pot _ (by omega) | exact hC.are _ (by omega) | exact hC.arl _ (by omega) | exact hC.tbo _ (by omega) (by omega)) (t_dropsOf hm hb (show t < 12 by omega)) (by omega) (by omega) (by omega) rfl rfl (Nat.le_of_ble_eq_true rfl) rfl (pb_kE ?_)
      refine pb_top (v2 := .int (nI (A 19 t))) (by rw [hF t (by omega)]) ?_
      exact pb_ireturn dX11_matched_33 rfl (pb_finC rfl hC)
    · refine pb_iconst (x := -1) (pc2 := 22) dX11_matched_21 (by decide) rfl ?_
      refine pb_goto (tgt := 33) dX11_matched_22 (by decide) ?_
      exact pb_ireturn dX11_matched_33 rfl (pb_finC (if_neg (fun z => z.1 c)) hC)
  · refine pb_ifnullN (tgt := 21) dX11_matched_8 (by decide) ?_
    refine pb_iconst (x := -1) (pc2 := 22) dX11_matched_21 (by decide) rfl ?_
    refine pb_goto (tgt := 33) dX11_matched_22 (by decide) ?_
    exact pb_ireturn dX11_matched_33 rfl (pb_finC (if_neg (fun z => q z.2)) hC)
theorem c_price (w : pb_WF A) (hC : pb_CF A h h) : pb_T Z mX11_price 1 0 0 [.ref 60] h (pb_PC (sp_price A) h) := by
  have h18 := w.rest.1
  obtain ⟨sz, tp, f, hm⟩ := hC.mat
  refine pb_T.of pnX11_price (Nat.le_of_ble_eq_true rfl) (lv := [some (.ref 60)]) rfl ?_
  first | refine pb_aload_n (pc2 := 1) dX11_price_0 rfl rfl rfl ?_ | refine pb_aload_nN (pc2 := 1) dX11_price_0 rfl rfl rfl ?_
  refine pb_getf (pc2 := 4) flX11_50_X11 rfl dX11_price_1 (by first | assumption | exact hR.a rfl | exact hR.o | exact hC.o | exact hC.pal | exact hC.tub | exact hC.k _ _ rfl | exact hC.pot _ (by omega) | exact hC.are _ (by omega) | exact hC.arl _ (by omega) | exact hC.tbo _ (by omega) (by omega)) rfl rfl ?_
  refine pb_getf (pc2 := 7) flX11_253_X5 rfl dX11_price_4 (by first | assumption | exact hR.a rfl | exact hR.o | exact hC.o | exact hC.pal | exact hC.tub | exact hC.k _ _ rfl | exact hC.pot _ (by omega) | exact hC.are _ (by omega) | exact hC.arl _ (by omega) | exact hC.tbo _ (by omega) (by omega)) rfl rfl ?_
  refine pb_ifN_eq (tgt := 20) (pc2 := 10) dX11_price_7 (by decide) rfl (by omega) (fun c => ?_) (fun c => ?_)
  · refine pb_iconst (x := -1) (pc2 := 21) dX11_price_20 (by decide) rfl ?_
    exact pb_ireturn dX11_price_21 rfl (pb_finC (if_neg (fun z => z c)) hC)
  · first | refine pb_aload_n (pc2 := 11) dX11_price_10 rfl rfl rfl ?_ | refine pb_aload_nN (pc2 := 11) dX11_price_10 rfl rfl rfl ?_
    refine pb_getf (pc2 := 14) flX11_50_X11 rfl dX11_price_11 (by first | assumption | exact hR.a rfl | exact hR.o | exact hC.o | exact hC.pal | exact hC.tub | exact hC.k _ _ rfl | exact hC.pot _ (by omega) | exact hC.are _ (by omega) | exact hC.arl _ (by omega) | exact hC.tbo _ (by omega) (by omega)) rfl rfl ?_
    refine pb_getf (pc2 := 17) flX11_260_X5 rfl dX11_price_14 (by first | assumption | exact hR.a rfl | exact hR.o | exact hC.o | exact hC.pal | exact hC.tub | exact hC.k _ _ rfl | exact hC.pot _ (by omega) | exact hC.are _ (by omega) | exact hC.arl _ (by omega) | exact hC.tbo _ (by omega) (by omega)) rfl rfl ?_
    refine pb_goto (tgt := 21) dX11_price_17 (by decide) ?_
    exact pb_ireturn dX11_price_21 rfl (pb_finC (if_pos c) hC)
theorem t_bestLayer {m f i : Nat} {F : Nat → Nat} (hm : h 70 = some (.inr (.inr (2, cGl m f)))) (hb : h 500 = some (.inl (0, 3, fun j => nI (F j)))) (hi : i < 3) : pb_T Z mX2_bestLayer 0 0 0 [.ref 70, .int (nI i)] h (pb_E (some (.int (nI (F i)))) h) := by
  refine pb_T.of pnX2_bestLayer (Nat.le_of_ble_eq_true rfl) (lv := [some (.ref 70), some (.int (nI i))]) rfl ?_
  first | refine pb_aload_n (pc2 := 1) dX2_bestLayer_0 rfl rfl rfl ?_ | refine pb_aload_nN (pc2 := 1) dX2_bestLayer_0 rfl rfl rfl ?_
  refine pb_getf (pc2 := 4) flX2_18_X2 rfl dX2_bestLayer_1 (by first | assumption | exact hR.a rfl | exact hR.o | exact hC.o | exact hC.pal | exact hC.tub | exact hC.k _ _ rfl | exact hC.pot _ (by omega) | exact hC.are _ (by omega) | exact hC.arl _ (by omega) | exact hC.tbo _ (by omega) (by omega)) rfl rfl ?_
  refine pb_iload_n (pc2 := 5) dX2_bestLayer_4 rfl rfl rfl ?_
  refine pb_iald (pc2 := 6) (by first | assumption | exact hR.a rfl | exact hR.o | exact hC.o | exact hC.pal | exact hC.tub | exact hC.k _ _ rfl | exact hC.pot _ (by omega) | exact hC.are _ (by omega) | exact hC.arl _ (by omega) | exact hC.tbo _ (by omega) (by omega)) ⟨by decide, rfl⟩ dX2_bestLayer_5 (by omega) (by omega) rfl ?_
  exact pb_ireturn dX2_bestLayer_6 rfl (⟨rfl, rfl⟩)
theorem c_clear (w : pb_WF A) (hC : pb_CF A h h) : pb_T Z mX11_clear 1 0 0 [.ref 60] h (pb_PC (sp_clear A) h) := by
  refine pb_T.of pnX11_clear (Nat.le_of_ble_eq_true rfl) (lv := [some (.ref 60), none]) rfl ?_
  first | refine pb_aload_n (pc2 := 1) dX11_clear_0 rfl rfl rfl ?_ | refine pb_aload_nN (pc2 := 1) dX11_clear_0 rfl rfl rfl ?_
  refine pb_getf (pc2 := 4) flX11_68_X11 rfl dX11_clear_1 (by first | assumption | exact hR.a rfl | exact hR.o | exact hC.o | exact hC.pal | exact hC.tub | exact hC.k _ _ rfl | exact hC.pot _ (by omega) | exact hC.are _ (by omega) | exact hC.arl _ (by omega) | exact hC.tbo _ (by omega) (by omega)) rfl rfl ?_
  refine pb_istore_n (lv2 := [_, _]) (pc2 := 5) dX11_clear_4 rfl (by decide) rfl rfl ?_
  first | refine pb_aload_n (pc2 := 6) dX11_clear_5 rfl rfl rfl ?_ | refine pb_aload_nN (pc2 := 6) dX11_clear_5 rfl rfl rfl ?_
  refine pb_iconst (x := nI 0) (pc2 := 7) dX11_clear_6 (by decide) rfl ?_
  refine pb_putG (pc2 := 10) flX11_68_X11 rfl dX11_clear_7 hC.o (by omega) rfl rfl rfl rfl rfl (fun h1 ho nb => ?_)
  have hC2 : pb_CF (pb_wf A 24 (fun _ => 0)) h h1 := by
    exact pb_CF.mk (fun b hb => (nb b (by omega)).trans (hC.low b hb)) (fun a c e => (nb a (by first | exact cK_ne e rfl | (have := cK_rng e; omega))).trans (hC.k a c e)) (fun a n e => by rw [nb a (by first | exact cS_ne e rfl | (have := cS_rng e; omega))]; exact hC.s a n e) (ho) ((nb 61 (by omega)).trans hC.pal) (by rw [nb 65 (by omega)]; exact hC.wan) (fun i hi => by rw [nb _ (by omega)]; exact hC.kpr i hi) ((nb 71 (by omega)).trans hC.tub) (fun i hi => by rw [nb _ (by omega)]; exact hC.lmr i hi) (fun i hi => by rw [nb _ (by omega)]; exact hC.sgr i hi) (by rw [nb 76 (by omega)]; exact hC.shw) (fun p hp => (nb _ (by omega)).trans (hC.pot p hp)) (fun p hp => by rw [nb _ (by omega)]; exact hC.ptr p hp) (fun a ha => (nb _ (by omega)).trans (hC.are a ha)) (fun a ha => (nb _ (by omega)).trans (hC.arl a ha)) (fun t h12 ht => (nb _ (by omega)).trans (hC.tbo t h12 ht)) (fun t h12 ht => by rw [nb _ (by omega)]; exact hC.tbd t h12 ht) (fun t h12 ht => by rw [nb _ (by omega)]; exact hC.tbs t h12 ht) (fun t ht ht2 => by have hz_ : A 1 0 ≤ t := ht; rw [nb _ (by omega), nb _ (by omega), nb _ (by omega)]; exact hC.tbn t ht ht2) (fun a i ha h10 hi => by rw [nb _ (by omega), nb _ (by omega), nb _ (by omega)]; exact hC.lyo a i ha h10 hi) (fun a i ha h10 hi => by unfold cCache; rw [nb _ (by omega), nb _ (by omega), nb _ (by omega), nb _ (by omega)]; exact hC.lyc a i ha h10 hi) (fun a i ha hi hi2 q hq => (nb _ (by omega)).trans (hC.lyn a i ha hi hi2 q hq)) (by rw [nb 68 (by omega)]; exact hC.mat) (by rw [nb 309 (by omega)]; exact hC.bst) (by rw [nb 69 (by omega), nb 411 (by omega), nb 413 (by omega)]; exact hC.cho) (by rw [nb 70 (by omega)]; exact hC.gla) (by rw [nb 500 (by omega)]; exact hC.glb) (fun a ha => by rw [nb a (by omega)]; exact hC.zer a ha)
  refine pb_iload_n (pc2 := 11) dX11_clear_10 rfl rfl rfl ?_
  exact pb_ireturn dX11_clear_11 rfl (pb_finC rfl hC2)
set_option maxRecDepth 10000 in
theorem c_count (w : pb_WF A) (hC : pb_CF A h h) (x : Int32) : pb_T Z mX11_count 2 0 0 [.ref 60, .int x] h (pb_PC (sp_count A x) h) := by
  refine pb_T.of pnX11_count (Nat.le_of_ble_eq_true rfl) (lv := [some (.ref 60), some (.int x)]) rfl ?_
  unfold sp_count
  obtain ⟨s4, s5, s6⟩ := w.sumT
  refine pb_iload_n (pc2 := 1) dX11_count_0 rfl rfl rfl ?_
  by_cases c0 : x = nI 0
  · subst c0
    refine pb_swIn (off := 47) (tgt := 48) dX11_count_1 (by decide) (by decide) rfl (by decide) ?_
    first | refine pb_aload_n (pc2 := 49) dX11_count_48 rfl rfl rfl ?_ | refine pb_aload_nN (pc2 := 49) dX11_count_48 rfl rfl rfl ?_
    refine pb_getf (pc2 := 52) flX11_12_X11 rfl dX11_count_49 (by first | assumption | exact hR.a rfl | exact hR.o | exact hC.o | exact hC.pal | exact hC.tub | exact hC.k _ _ rfl | exact hC.pot _ (by omega) | exact hC.are _ (by omega) | exact hC.arl _ (by omega) | exact hC.tbo _ (by omega) (by omega)) rfl rfl ?_
    refine pb_getf (pc2 := 55) flX11_270_X8 rfl dX11_count_52 (by first | assumption | exact hR.a rfl | exact hR.o | exact hC.o | exact hC.pal | exact hC.tub | exact hC.k _ _ rfl | exact hC.pot _ (by omega) | exact hC.are _ (by omega) | exact hC.arl _ (by omega) | exact hC.tbo _ (by omega) (by omega)) rfl rfl ?_
    exact pb_ireturn dX11_count_55 rfl (pb_finC rfl hC)
  · by_cases c1 : x = nI 1
    · subst c1
      refine pb_swIn (off := 55) (tgt := 56) dX11_count_1 (by decide) (by decide) rfl (by decide) ?_
      first | refine pb_aload_n (pc2 := 57) dX11_count_56 rfl rfl rfl ?_ | refine pb_aload_nN (pc2 := 57) dX11_count_56 rfl rfl rfl ?_
      refine pb_getf (pc2 := 60) flX11_72_X11 rfl dX11_count_57 (by first | assumption | exact hR.a rfl | exact hR.o | exact hC.o | exact hC.pal | exact hC.tub | exact hC.k _ _ rfl | exact hC.pot _ (by omega) | exact hC.are _ (by omega) | exact hC.arl _ (by omega) | exact hC.tbo _ (by omega) (by omega)) rfl rfl ?_
      exact pb_ireturn dX11_count_60 rfl (pb_finC rfl hC)
    · by_cases c2 : x = nI 2
      · subst c2
        refine pb_swIn (off := 60) (tgt := 61) dX11_count_1 (by decide) (by decide) rfl (by decide) ?_
        first | refine pb_aload_n (pc2 := 62) dX11_count_61 rfl rfl rfl ?_ | refine pb_aload_nN (pc2 := 62) dX11_count_61 rfl rfl rfl ?_
        refine pb_getf (pc2 := 65) flX11_68_X11 rfl dX11_count_62 (by first | assumption | exact hR.a rfl | exact hR.o | exact hC.o | exact hC.pal | exact hC.tub | exact hC.k _ _ rfl | exact hC.pot _ (by omega) | exact hC.are _ (by omega) | exact hC.arl _ (by omega) | exact hC.tbo _ (by omega) (by omega)) rfl rfl ?_
        exact pb_ireturn dX11_count_65 rfl (pb_finC rfl hC)
      · by_cases c3 : x = nI 3
        · subst c3
          refine pb_swIn (off := 65) (tgt := 66) dX11_count_1 (by decide) (by decide) rfl (by decide) ?_
          first | refine pb_aload_n (pc2 := 67) dX11_count_66 rfl rfl rfl ?_ | refine pb_aload_nN (pc2 := 67) dX11_count_66 rfl rfl rfl ?_
          refine pb_callV (pc2 := 70) (k2 := 0) (n2 := 0) mwX11_allInPots pb_cl9.1 iwX11_allInPots seX11_allInPots rfl mlX11_279 dX11_count_67 (by first | assumption | exact hR.a rfl | exact hR.o | exact hC.o | exact hC.pal | exact hC.tub | exact hC.k _ _ rfl | exact hC.pot _ (by omega) | exact hC.are _ (by omega) | exact hC.arl _ (by omega) | exact hC.tbo _ (by omega) (by omega)) (t_allInPots hC) (by omega) (by omega) (by omega) rfl rfl (Nat.le_of_ble_eq_true rfl) rfl (pb_kE ?_)
          refine pb_top (v2 := .int (nI (pb_sum 12 (fun t => pb_sum 10 (fun p => A 11 (12 * p + t)))))) (by rw [pb_sum_swap (fun p t => A 11 (12 * p + t)) 10 12]; rfl) ?_
          exact pb_ireturn dX11_count_70 rfl (pb_finC rfl hC)
        · by_cases c4 : x = nI 4
          · subst c4
            refine pb_swIn (off := 70) (tgt := 71) dX11_count_1 (by decide) (by decide) rfl (by decide) ?_
            first | refine pb_aload_n (pc2 := 72) dX11_count_71 rfl rfl rfl ?_ | refine pb_aload_nN (pc2 := 72) dX11_count_71 rfl rfl rfl ?_
            refine pb_getf (pc2 := 75) flX11_12_X11 rfl dX11_count_72 (by first | assumption | exact hR.a rfl | exact hR.o | exact hC.o | exact hC.pal | exact hC.tub | exact hC.k _ _ rfl | exact hC.pot _ (by omega) | exact hC.are _ (by omega) | exact hC.arl _ (by omega) | exact hC.tbo _ (by omega) (by omega)) rfl rfl ?_
            refine pb_callV (pc2 := 78) (k2 := 0) (n2 := 0) mwX8_allLaid pb_cl7.1 iwX8_allLaid seX8_allLaid rfl mlX11_283 dX11_count_75 (by first | assumption | exact hR.a rfl | exact hR.o | exact hC.o | exact hC.pal | exact hC.tub | exact hC.k _ _ rfl | exact hC.pot _ (by omega) | exact hC.are _ (by omega) | exact hC.arl _ (by omega) | exact hC.tbo _ (by omega) (by omega)) (t_allLaid w hC) (by omega) (by omega) (by omega) rfl rfl (Nat.le_of_ble_eq_true rfl) rfl (pb_kE ?_)
            refine pb_top (v2 := .int (nI (pb_sum 12 (A 5)))) (by rw [s5]) ?_
            exact pb_ireturn dX11_count_78 rfl (pb_finC rfl hC)
          · by_cases c5 : x = nI 5
            · subst c5
              refine pb_swIn (off := 78) (tgt := 79) dX11_count_1 (by decide) (by decide) rfl (by decide) ?_
              first | refine pb_aload_n (pc2 := 80) dX11_count_79 rfl rfl rfl ?_ | refine pb_aload_nN (pc2 := 80) dX11_count_79 rfl rfl rfl ?_
              refine pb_getf (pc2 := 83) flX11_12_X11 rfl dX11_count_80 (by first | assumption | exact hR.a rfl | exact hR.o | exact hC.o | exact hC.pal | exact hC.tub | exact hC.k _ _ rfl | exact hC.pot _ (by omega) | exact hC.are _ (by omega) | exact hC.arl _ (by omega) | exact hC.tbo _ (by omega) (by omega)) rfl rfl ?_
              refine pb_callV (pc2 := 86) (k2 := 0) (n2 := 0) mwX8_allLost pb_cl7.1 iwX8_allLost seX8_allLost rfl mlX11_286 dX11_count_83 (by first | assumption | exact hR.a rfl | exact hR.o | exact hC.o | exact hC.pal | exact hC.tub | exact hC.k _ _ rfl | exact hC.pot _ (by omega) | exact hC.are _ (by omega) | exact hC.arl _ (by omega) | exact hC.tbo _ (by omega) (by omega)) (t_allLost w hC) (by omega) (by omega) (by omega) rfl rfl (Nat.le_of_ble_eq_true rfl) rfl (pb_kE ?_)
              refine pb_top (v2 := .int (nI (pb_sum 12 (A 6)))) (by rw [s6]) ?_
              exact pb_ireturn dX11_count_86 rfl (pb_finC rfl hC)
            · by_cases c6 : x = nI 6
              · subst c6
                refine pb_swIn (off := 86) (tgt := 87) dX11_count_1 (by decide) (by decide) rfl (by decide) ?_
                first | refine pb_aload_n (pc2 := 88) dX11_count_87 rfl rfl rfl ?_ | refine pb_aload_nN (pc2 := 88) dX11_count_87 rfl rfl rfl ?_
                refine pb_getf (pc2 := 91) flX11_12_X11 rfl dX11_count_88 (by first | assumption | exact hR.a rfl | exact hR.o | exact hC.o | exact hC.pal | exact hC.tub | exact hC.k _ _ rfl | exact hC.pot _ (by omega) | exact hC.are _ (by omega) | exact hC.arl _ (by omega) | exact hC.tbo _ (by omega) (by omega)) rfl rfl ?_
                refine pb_callV (pc2 := 94) (k2 := 0) (n2 := 0) mwX8_allHeld pb_cl7.1 iwX8_allHeld seX8_allHeld rfl mlX11_289 dX11_count_91 (by first | assumption | exact hR.a rfl | exact hR.o | exact hC.o | exact hC.pal | exact hC.tub | exact hC.k _ _ rfl | exact hC.pot _ (by omega) | exact hC.are _ (by omega) | exact hC.arl _ (by omega) | exact hC.tbo _ (by omega) (by omega)) (t_allHeld w hC) (by omega) (by omega) (by omega) rfl rfl (Nat.le_of_ble_eq_true rfl) rfl (pb_kE ?_)
                refine pb_top (v2 := .int (nI (pb_sum 12 (A 4)))) (by rw [s4]) ?_
                exact pb_ireturn dX11_count_94 rfl (pb_finC rfl hC)
              · by_cases c7 : x = nI 7
                · subst c7
                  refine pb_swIn (off := 94) (tgt := 95) dX11_count_1 (by decide) (by decide) rfl (by decide) ?_
                  first | refine pb_aload_n (pc2 := 96) dX11_count_95 rfl rfl rfl ?_ | refine pb_aload_nN (pc2 := 96) dX11_count_95 rfl rfl rfl ?_
                  refine pb_callV (pc2 := 99) (k2 := 0) (n2 := 0) mwX11_allLayers pb_cl9.1 iwX11_allLayers seX11_allLayers rfl mlX11_292 dX11_count_96 (by first | assumption | exact hR.a rfl | exact hR.o | exact hC.o | exact hC.pal | exact hC.tub | exact hC.k _ _ rfl | exact hC.pot _ (by omega) | exact hC.are _ (by omega) | exact hC.arl _ (by omega) | exact hC.tbo _ (by omega) (by omega)) (t_allLayers hC) (by omega) (by omega) (by omega) rfl rfl (Nat.le_of_ble_eq_true rfl) rfl (pb_kE ?_)
                  exact pb_ireturn dX11_count_99 rfl (pb_finC rfl hC)
                · refine pb_swOut (tgt := 100) dX11_count_1 (pb_swO (m := 7) (by omega) (fun k hk => by rcases (show k = 0 ∨ k = 1 ∨ k = 2 ∨ k = 3 ∨ k = 4 ∨ k = 5 ∨ k = 6 ∨ k = 7 by omega) with rfl | rfl | rfl | rfl | rfl | rfl | rfl | rfl <;> assumption)) (by decide) ?_
                  refine pb_iconst (x := -1) (pc2 := 101) dX11_count_100 (by decide) rfl ?_
                  exact pb_ireturn dX11_count_101 rfl (pb_finC (by rw [if_neg c0, if_neg c1, if_neg c2, if_neg c3, if_neg c4, if_neg c5, if_neg c6, if_neg c7]) hC)
theorem c_glazed (w : pb_WF A) (hC : pb_CF A h h) (i : Int32) : pb_T Z mX11_glazed 1 0 0 [.ref 60, .int i] h (pb_PC (sp_glazed A i) h) := by
  obtain ⟨f, hg⟩ := hC.gla
  obtain ⟨F, hb, hF⟩ := hC.glb
  have h21 := w.rest.2.2.2.1
  have hiff : (nI 0 ≤ i ∧ i ≤ nI (if A 21 0 ≤ 3 then A 21 0 else 0) - nI 1) ↔ (nI 0 ≤ i ∧ i ≤ nI (A 21 0) - nI 1) := by
    rcases h21 with e | e
    · rw [if_pos e]
    · rw [if_neg (by omega), e]
      constructor
      · intro z
        exfalso
        have : nI 0 ≤ nI 0 - nI 1 := Int32.le_trans z.1 z.2
        revert this
        decide
      · intro z
        exfalso
        have : nI 0 ≤ nI 4294967295 - nI 1 := Int32.le_trans z.1 z.2
        revert this
        decide
  refine pb_T.of pnX11_glazed (Nat.le_of_ble_eq_true rfl) (lv := [some (.ref 60), some (.int i)]) rfl ?_
  refine pb_iload_n (pc2 := 1) dX11_glazed_0 rfl rfl rfl ?_
  refine pb_iconst (x := nI 0) (pc2 := 2) dX11_glazed_1 (by decide) rfl ?_
  first | refine pb_aload_n (pc2 := 3) dX11_glazed_2 rfl rfl rfl ?_ | refine pb_aload_nN (pc2 := 3) dX11_glazed_2 rfl rfl rfl ?_
  refine pb_getf (pc2 := 6) flX11_64_X11 rfl dX11_glazed_3 (by first | assumption | exact hR.a rfl | exact hR.o | exact hC.o | exact hC.pal | exact hC.tub | exact hC.k _ _ rfl | exact hC.pot _ (by omega) | exact hC.are _ (by omega) | exact hC.arl _ (by omega) | exact hC.tbo _ (by omega) (by omega)) rfl rfl ?_
  refine pb_getf (pc2 := 9) flX11_264_X2 rfl dX11_glazed_6 (by first | assumption | exact hR.a rfl | exact hR.o | exact hC.o | exact hC.pal | exact hC.tub | exact hC.k _ _ rfl | exact hC.pot _ (by omega) | exact hC.are _ (by omega) | exact hC.arl _ (by omega) | exact hC.tbo _ (by omega) (by omega)) rfl rfl ?_
  refine pb_iconst (x := nI 1) (pc2 := 10) dX11_glazed_9 (by decide) rfl ?_
  refine pb_isub (pc2 := 11) dX11_glazed_10 rfl ?_
  refine pb_callS (pc2 := 14) (k2 := 0) (n2 := 0) mwX11_between swX11_between rfl mlX11_77 dX11_glazed_11 (t_between i (nI 0) (nI (if A 21 0 ≤ 3 then A 21 0 else 0) - nI 1)) (by omega) (by omega) (by omega) rfl rfl (Nat.le_of_ble_eq_true rfl) rfl (pb_kB ?_ ?_)
  rotate_left
  · intro q1
    refine pb_ifT_eq (tgt := 28) dX11_glazed_14 (by decide) rfl ?_
    refine pb_iconst (x := -1) (pc2 := 29) dX11_glazed_28 (by decide) rfl ?_
    exact pb_ireturn dX11_glazed_29 rfl (pb_finC (if_neg (fun z => q1 (hiff.mpr z))) hC)
  intro q1
  refine pb_ifF_eq (tgt := 28) (pc2 := 17) dX11_glazed_14 (by decide) rfl (by decide) ?_
  have q2 := hiff.mp q1
  have e0 : sp_glazed A i = _ := if_pos q2
  rw [e0]
  obtain ⟨i, hi, h3, rfl⟩ := pb_gz_of w q2
  rw [pb_natN (by omega)]
  first | refine pb_aload_n (pc2 := 18) dX11_glazed_17 rfl rfl rfl ?_ | refine pb_aload_nN (pc2 := 18) dX11_glazed_17 rfl rfl rfl ?_
  refine pb_getf (pc2 := 21) flX11_64_X11 rfl dX11_glazed_18 (by first | assumption | exact hR.a rfl | exact hR.o | exact hC.o | exact hC.pal | exact hC.tub | exact hC.k _ _ rfl | exact hC.pot _ (by omega) | exact hC.are _ (by omega) | exact hC.arl _ (by omega) | exact hC.tbo _ (by omega) (by omega)) rfl rfl ?_
  refine pb_iload_n (pc2 := 22) dX11_glazed_21 rfl rfl rfl ?_
  refine pb_callV (pc2 := 25) (k2 := 0) (n2 := 0) mwX2_bestLayer pb_cl2.1 iwX2_bestLayer seX2_bestLayer rfl mlX11_267 dX11_glazed_22 (by first | assumption | exact hR.a rfl | exact hR.o | exact hC.o | exact hC.pal | exact hC.tub | exact hC.k _ _ rfl | exact hC.pot _ (by omega) | exact hC.are _ (by omega) | exact hC.arl _ (by omega) | exact hC.tbo _ (by omega) (by omega)) (t_bestLayer hg hb (show i < 3 by omega)) (by omega) (by omega) (by omega) rfl rfl (Nat.le_of_ble_eq_true rfl) rfl (pb_kE ?_)
  refine pb_top (v2 := .int (nI (A 23 i))) (by rw [hF i (by omega) h3 hi]) ?_
  refine pb_goto (tgt := 29) dX11_glazed_25 (by decide) ?_
  exact pb_ireturn dX11_glazed_29 rfl (pb_finC rfl hC)
set_option maxRecDepth 10000 in
theorem c_keep (w : pb_WF A) (hC : pb_CF A h h) : pb_T Z mX11_keep 1 0 0 [.ref 60] h (pb_PC (sp_keep A) h) := by
  have h24 : A 24 0 ≤ 6 := w.rest.2.2.2.2.2.1
  refine pb_T.of pnX11_keep (Nat.le_of_ble_eq_true rfl) (lv := [some (.ref 60), none]) rfl ?_
  first | refine pb_aload_n (pc2 := 1) dX11_keep_0 rfl rfl rfl ?_ | refine pb_aload_nN (pc2 := 1) dX11_keep_0 rfl rfl rfl ?_
  refine pb_getf (pc2 := 4) flX11_68_X11 rfl dX11_keep_1 (by first | assumption | exact hR.a rfl | exact hR.o | exact hC.o | exact hC.pal | exact hC.tub | exact hC.k _ _ rfl | exact hC.pot _ (by omega) | exact hC.are _ (by omega) | exact hC.arl _ (by omega) | exact hC.tbo _ (by omega) (by omega)) rfl rfl ?_
  refine pb_bipush (x := nI 6) (pc2 := 6) dX11_keep_4 (by decide) rfl ?_
  refine pb_icmpN_lt (tgt := 12) (pc2 := 9) dX11_keep_6 (by decide) rfl (by omega) (by omega) (fun c => ?_) (fun c => ?_)
  · have e0 : sp_keep A = _ := if_neg (by omega)
    rw [e0]
    obtain ⟨T, ht, hT⟩ := hC.wan
    have loop : ∀ (m i : Nat) (F : Nat → Nat) (h' : pb_H), 3 - i < m → i ≤ 3 → h' 60 = some (.inr (.inr (9, co A))) → h' 65 = some (.inl (0, 3, fun j => nI (T j))) → h' 66 = some (.inr (.inl (4, 6, cTo 120 6))) → h' (120 + A 24 0) = some (.inl (0, 3, fun j => nI (F j))) → (∀ j, j < i → F j = A 17 j) → (∀ b, b ≠ 120 + A 24 0 → h' b = h b) → pb_S Z mX11_keep 1 0 0 (pb_PC (nI (A 24 0 + 1), sp_keepA A) h) 14 [some (.ref 60), some (.int (nI i))] [] h' := by
      intro m
      induction m with
      | zero => intro i F h' g1; omega
      | succ m ih =>
        intro i F h' g1 g2 h60 h65 h66 hr hF hne
        refine pb_iload_n (pc2 := 15) dX11_keep_14 rfl rfl rfl ?_
        refine pb_iconst (x := nI 3) (pc2 := 16) dX11_keep_15 (by decide) rfl ?_
        refine pb_icmpN_ge (tgt := 42) (pc2 := 19) dX11_keep_16 (by decide) rfl (by omega) (by omega) (fun q => ?_) (fun q => ?_)
        · have e : i = 3 := by omega
          subst e
          first | refine pb_aload_n (pc2 := 43) dX11_keep_42 rfl rfl rfl ?_ | refine pb_aload_nN (pc2 := 43) dX11_keep_42 rfl rfl rfl ?_
          refine pb_dup (pc2 := 44) dX11_keep_43 rfl rfl ?_
          refine pb_getf (pc2 := 47) flX11_68_X11 rfl dX11_keep_44 (by first | assumption | exact hR.a rfl | exact hR.o | exact hC.o | exact hC.pal | exact hC.tub | exact hC.k _ _ rfl | exact hC.pot _ (by omega) | exact hC.are _ (by omega) | exact hC.arl _ (by omega) | exact hC.tbo _ (by omega) (by omega)) rfl rfl ?_
          refine pb_iconst (x := nI 1) (pc2 := 48) dX11_keep_47 (by decide) rfl ?_
          refine pb_iaddN (pc2 := 49) dX11_keep_48 rfl ?_
          refine pb_putG (pc2 := 52) flX11_68_X11 rfl dX11_keep_49 h60 (by omega) rfl rfl rfl rfl rfl (fun h1 ho n1 => ?_)
          have nb : ∀ b, b ≠ 60 → b ≠ 120 + A 24 0 → h1 b = h b := fun b b1 b2 => (n1 b b1).trans (hne b b2)
          have fk : ∀ i, i < 6 → cRow 3 (fun j => sp_keepA A 25 (3 * i + j)) (h1 (120 + i)) := fun i hi => by
            by_cases e : i = A 24 0
            · rw [e, n1 _ (by omega)]
              refine ⟨F, hr, fun j hj => ?_⟩
              rw [hF j hj]
              show _ = if 3 * A 24 0 ≤ 3 * A 24 0 + j ∧ 3 * A 24 0 + j < 3 * A 24 0 + 3 then A 17 (3 * A 24 0 + j - 3 * A 24 0) else A 25 (3 * A 24 0 + j)
              rw [if_pos (by omega), Nat.add_sub_cancel_left]
            · rw [nb _ (by omega) (by omega)]
              refine cRow_same (hC.kpr i hi) (fun j hj => ?_)
              show (if 3 * A 24 0 ≤ 3 * i + j ∧ 3 * i + j < 3 * A 24 0 + 3 then A 17 (3 * i + j - 3 * A 24 0) else A 25 (3 * i + j)) = _
              rw [if_neg (by omega)]
          have hC2 : pb_CF (sp_keepA A) h h1 := by
            exact pb_CF.mk (fun b hb => (nb b (by omega) (by omega)).trans (hC.low b hb)) (fun a c e => (nb a (by first | exact cK_ne e rfl | (have := cK_rng e; omega)) (by first | exact cK_ne e rfl | (have := cK_rng e; omega))).trans (hC.k a c e)) (fun a n e => by rw [nb a (by first | exact cS_ne e rfl | (have := cS_rng e; omega)) (by first | exact cS_ne e rfl | (have := cS_rng e; omega))]; exact hC.s a n e) (ho) ((nb 61 (by omega) (by omega)).trans hC.pal) (by rw [nb 65 (by omega) (by omega)]; exact hC.wan) (fk) ((nb 71 (by omega) (by omega)).trans hC.tub) (fun i hi => by rw [nb _ (by omega) (by omega)]; exact hC.lmr i hi) (fun i hi => by rw [nb _ (by omega) (by omega)]; exact hC.sgr i hi) (by rw [nb 76 (by omega) (by omega)]; exact hC.shw) (fun p hp => (nb _ (by omega) (by omega)).trans (hC.pot p hp)) (fun p hp => by rw [nb _ (by omega) (by omega)]; exact hC.ptr p hp) (fun a ha => (nb _ (by omega) (by omega)).trans (hC.are a ha)) (fun a ha => (nb _ (by omega) (by omega)).trans (hC.arl a ha)) (fun t h12 ht => (nb _ (by omega) (by omega)).trans (hC.tbo t h12 ht)) (fun t h12 ht => by rw [nb _ (by omega) (by omega)]; exact hC.tbd t h12 ht) (fun t h12 ht => by rw [nb _ (by omega) (by omega)]; exact hC.tbs t h12 ht) (fun t ht ht2 => by have hz_ : A 1 0 ≤ t := ht; rw [nb _ (by omega) (by omega), nb _ (by omega) (by omega), nb _ (by omega) (by omega)]; exact hC.tbn t ht ht2) (fun a i ha h10 hi => by rw [nb _ (by omega) (by omega), nb _ (by omega) (by omega), nb _ (by omega) (by omega)]; exact hC.lyo a i ha h10 hi) (fun a i ha h10 hi => by unfold cCache; rw [nb _ (by omega) (by omega), nb _ (by omega) (by omega), nb _ (by omega) (by omega), nb _ (by omega) (by omega)]; exact hC.lyc a i ha h10 hi) (fun a i ha hi hi2 q hq => (nb _ (by omega) (by omega)).trans (hC.lyn a i ha hi hi2 q hq)) (by rw [nb 68 (by omega) (by omega)]; exact hC.mat) (by rw [nb 309 (by omega) (by omega)]; exact hC.bst) (by rw [nb 69 (by omega) (by omega), nb 411 (by omega) (by omega), nb 413 (by omega) (by omega)]; exact hC.cho) (by rw [nb 70 (by omega) (by omega)]; exact hC.gla) (by rw [nb 500 (by omega) (by omega)]; exact hC.glb) (fun a ha => by rw [nb a (by omega) (by omega)]; exact hC.zer a ha)
          first | refine pb_aload_n (pc2 := 53) dX11_keep_52 rfl rfl rfl ?_ | refine pb_aload_nN (pc2 := 53) dX11_keep_52 rfl rfl rfl ?_
          refine pb_getf (v := .int (nI (A 24 0 + 1))) (pc2 := 56) flX11_68_X11 rfl dX11_keep_53 (by first | assumption | exact hR.a rfl | exact hR.o | exact hC.o | exact hC.pal | exact hC.tub | exact hC.k _ _ rfl | exact hC.pot _ (by omega) | exact hC.are _ (by omega) | exact hC.arl _ (by omega) | exact hC.tbo _ (by omega) (by omega)) rfl rfl ?_
          exact pb_ireturn dX11_keep_56 rfl (pb_finC rfl hC2)
        · skip
          first | refine pb_aload_n (pc2 := 20) dX11_keep_19 rfl rfl rfl ?_ | refine pb_aload_nN (pc2 := 20) dX11_keep_19 rfl rfl rfl ?_
          refine pb_getf (pc2 := 23) flX11_41_X11 rfl dX11_keep_20 (by first | assumption | exact hR.a rfl | exact hR.o | exact hC.o | exact hC.pal | exact hC.tub | exact hC.k _ _ rfl | exact hC.pot _ (by omega) | exact hC.are _ (by omega) | exact hC.arl _ (by omega) | exact hC.tbo _ (by omega) (by omega)) rfl rfl ?_
          first | refine pb_aload_n (pc2 := 24) dX11_keep_23 rfl rfl rfl ?_ | refine pb_aload_nN (pc2 := 24) dX11_keep_23 rfl rfl rfl ?_
          refine pb_getf (pc2 := 27) flX11_68_X11 rfl dX11_keep_24 (by first | assumption | exact hR.a rfl | exact hR.o | exact hC.o | exact hC.pal | exact hC.tub | exact hC.k _ _ rfl | exact hC.pot _ (by omega) | exact hC.are _ (by omega) | exact hC.arl _ (by omega) | exact hC.tbo _ (by omega) (by omega)) rfl rfl ?_
          refine pb_aald (pc2 := 28) (by first | assumption | exact hR.a rfl | exact hR.o | exact hC.o | exact hC.pal | exact hC.tub | exact hC.k _ _ rfl | exact hC.pot _ (by omega) | exact hC.are _ (by omega) | exact hC.arl _ (by omega) | exact hC.tbo _ (by omega) (by omega)) dX11_keep_27 (by decide) (by omega) (by omega) (cTo_at (by omega)) rfl ?_
          refine pb_iload_n (pc2 := 29) dX11_keep_28 rfl rfl rfl ?_
          first | refine pb_aload_n (pc2 := 30) dX11_keep_29 rfl rfl rfl ?_ | refine pb_aload_nN (pc2 := 30) dX11_keep_29 rfl rfl rfl ?_
          refine pb_getf (pc2 := 33) flX11_35_X11 rfl dX11_keep_30 (by first | assumption | exact hR.a rfl | exact hR.o | exact hC.o | exact hC.pal | exact hC.tub | exact hC.k _ _ rfl | exact hC.pot _ (by omega) | exact hC.are _ (by omega) | exact hC.arl _ (by omega) | exact hC.tbo _ (by omega) (by omega)) rfl rfl ?_
          refine pb_iload_n (pc2 := 34) dX11_keep_33 rfl rfl rfl ?_
          refine pb_iald (pc2 := 35) (by first | assumption | exact hR.a rfl | exact hR.o | exact hC.o | exact hC.pal | exact hC.tub | exact hC.k _ _ rfl | exact hC.pot _ (by omega) | exact hC.are _ (by omega) | exact hC.arl _ (by omega) | exact hC.tbo _ (by omega) (by omega)) ⟨by decide, rfl⟩ dX11_keep_34 (by omega) (by omega) rfl ?_
          refine pb_iastG (pc2 := 36) hr dX11_keep_35 (by omega) (by omega) (by omega) rfl (fun h1 hr n1 => ?_)
          refine pb_iincP (c0 := 1) (lv2 := [_, _]) (pc2 := 39) dX11_keep_36 rfl (by decide) rfl rfl ?_
          refine pb_goto (tgt := 14) dX11_keep_39 (by decide) ?_
          refine ih (i + 1) _ h1 (by omega) (by omega) ((n1 _ (by omega)).trans h60) ((n1 _ (by omega)).trans h65) ((n1 _ (by omega)).trans h66) hr (fun j hj => ?_) (fun b hb => (n1 b hb).trans (hne b hb))
          by_cases e : j = i
          · rw [e, pb_un_self, hT i (by omega)]
          · rw [pb_un_ne _ _ e]; exact hF j (by omega)
    obtain ⟨F, hr, hF⟩ := hC.kpr (A 24 0) (by omega)
    refine pb_iconst (x := nI 0) (pc2 := 13) dX11_keep_12 (by decide) rfl ?_
    refine pb_istore_n (lv2 := [_, _]) (pc2 := 14) dX11_keep_13 rfl (by decide) rfl rfl ?_
    exact loop 4 0 F h (by omega) (by omega) hC.o ht (hC.k _ _ rfl) hr (fun j hj => by omega) (fun _ _ => rfl)
  · have e0 : sp_keep A = _ := if_pos (by omega)
    rw [e0]
    refine pb_bipush (x := -3) (pc2 := 11) dX11_keep_9 (by decide) rfl ?_
    exact pb_ireturn dX11_keep_11 rfl (pb_finC rfl hC)
end PB32

