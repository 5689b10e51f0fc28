/-! PUBLIC METHODS OF THE CLASS (first part) -/
def pb_PC (r : Int32 × pb_A) (h : pb_H) : Option Value → pb_H → Prop := fun v h' => v = some (.int r.1) ∧ pb_CF r.2 h h'
theorem pb_finC {r : Int32 × pb_A} {v : Int32} {A' : pb_A} {h h' : pb_H} (e : r = (v, A')) (hC : pb_CF A' h h') : pb_PC r h (some (.int v)) h' := by
  subst e
  exact ⟨rfl, hC⟩
theorem pb_isT_mk {A : pb_A} (w : pb_WF A) {t : Nat} (ht : t < A 1 0) : pb_isT A (nI t) := by
  have := w.tubes
  refine ⟨(nI_leI (by omega) (by omega)).mpr (by omega), ?_⟩
  rw [nI_sub (by omega)]
  exact (nI_leI (by omega) (by omega)).mpr (by omega)
theorem pb_in_mk {lo hi c : Nat} (h1 : lo ≤ c) (h2 : c ≤ hi) (h3 : hi < 2 ^ 31) : pb_in lo hi (nI c) := ⟨(nI_leI (by omega) (by omega)).mpr h1, (nI_leI (by omega) (by omega)).mpr h2⟩
theorem cRow_set {n j v : Nat} {F P P' : Nat → Nat} (hF : ∀ i, i < n → F i = P i) (h1 : P' j = v) (h2 : ∀ i, i < n → i ≠ j → P' i = P i) : ∀ i, i < n → pb_un F j v i = P' i := fun i hi => by
  by_cases e : i = j
  · rw [e, pb_un_self, h1]
  · rw [pb_un_ne _ _ e, hF i hi, h2 i hi e]
theorem cRow_same {n : Nat} {P P' : Nat → Nat} {c : Option pb_C} (hc : cRow n P c) (h : ∀ i, i < n → P' i = P i) : cRow n P' c := by
  obtain ⟨F, h1, h2⟩ := hc
  exact ⟨F, h1, fun i hi => by rw [h2 i hi, h i hi]⟩
theorem cRow_scr {n : Nat} {P : Nat → Nat} {c : Option pb_C} (hc : cRow n P c) : cScr n c := by
  obtain ⟨F, h1, -⟩ := hc
  exact ⟨F, h1⟩
section PB31
variable {Z : pb_Z} {h h0 : pb_H} {A : pb_A}
set_option maxRecDepth 10000 in
theorem c_lamp (w : pb_WF A) (hC : pb_CF A h h) (l b v : Int32) : pb_T Z mX11_lamp 2 0 0 [.ref 60, .int l, .int b, .int v] h (pb_PC (sp_lamp A l b v) h) := by
  refine pb_T.of pnX11_lamp (Nat.le_of_ble_eq_true rfl) (lv := [some (.ref 60), some (.int l), some (.int b), some (.int v)]) rfl ?_
  refine pb_iload_n (pc2 := 1) dX11_lamp_0 rfl rfl rfl ?_
  refine pb_callS (pc2 := 4) (k2 := 0) (n2 := 0) mwX11_isLamp swX11_isLamp rfl mlX11_131 dX11_lamp_1 (t_isLamp l) (by omega) (by omega) (by omega) rfl rfl (Nat.le_of_ble_eq_true rfl) rfl (pb_kB ?_ ?_)
  rotate_left
  · intro q1
    refine pb_ifT_eq (tgt := 24) dX11_lamp_4 (by decide) rfl ?_
    refine pb_iconst (x := -1) (pc2 := 25) dX11_lamp_24 (by decide) rfl ?_
    exact pb_ireturn dX11_lamp_25 rfl (pb_finC (if_neg (fun z => q1 z.1)) hC)
  intro q1
  refine pb_ifF_eq (tgt := 24) (pc2 := 7) dX11_lamp_4 (by decide) rfl (by decide) ?_
  refine pb_iload_n (pc2 := 8) dX11_lamp_7 rfl rfl rfl ?_
  refine pb_callS (pc2 := 11) (k2 := 0) (n2 := 0) mwX11_isBand swX11_isBand rfl mlX11_98 dX11_lamp_8 (t_isBand b) (by omega) (by omega) (by omega) rfl rfl (Nat.le_of_ble_eq_true rfl) rfl (pb_kB ?_ ?_)
  rotate_left
  · intro q2
    refine pb_ifT_eq (tgt := 24) dX11_lamp_11 (by decide) rfl ?_
    refine pb_iconst (x := -1) (pc2 := 25) dX11_lamp_24 (by decide) rfl ?_
    exact pb_ireturn dX11_lamp_25 rfl (pb_finC (if_neg (fun z => q2 z.2.1)) hC)
  intro q2
  refine pb_ifF_eq (tgt := 24) (pc2 := 14) dX11_lamp_11 (by decide) rfl (by decide) ?_
  refine pb_iload_n (pc2 := 15) dX11_lamp_14 rfl rfl rfl ?_
  refine pb_iconst (x := nI 0) (pc2 := 16) dX11_lamp_15 (by decide) rfl ?_
  refine pb_bipush (x := nI 99) (pc2 := 18) dX11_lamp_16 (by decide) rfl ?_
  refine pb_callS (pc2 := 21) (k2 := 0) (n2 := 0) mwX11_between swX11_between rfl mlX11_77 dX11_lamp_18 (t_between v (nI 0) (nI 99)) (by omega) (by omega) (by omega) rfl rfl (Nat.le_of_ble_eq_true rfl) rfl (pb_kB ?_ ?_)
  rotate_left
  · intro q3
    refine pb_ifF_ne (tgt := 26) (pc2 := 24) dX11_lamp_21 rfl rfl (by decide) ?_
    refine pb_iconst (x := -1) (pc2 := 25) dX11_lamp_24 (by decide) rfl ?_
    exact pb_ireturn dX11_lamp_25 rfl (pb_finC (if_neg (fun z => q3 z.2.2)) hC)
  intro q3
  refine pb_ifT_ne (tgt := 26) dX11_lamp_21 (by decide) (by decide) ?_
  have e0 : sp_lamp A l b v = _ := if_pos ⟨q1, q2, q3⟩
  rw [e0]
  obtain ⟨l, -, hl, rfl⟩ := nI_rng (by omega) q1 (by omega)
  obtain ⟨b, -, hb, rfl⟩ := nI_rng (by omega) q2 (by omega)
  obtain ⟨v, -, hv, rfl⟩ := nI_rng (by omega) q3 (by omega)
  rw [pb_natN (by omega), pb_natN (by omega), pb_natN (by omega)]
  obtain ⟨F, hr, hF⟩ := hC.lmr l (by omega)
  first | refine pb_aload_n (pc2 := 27) dX11_lamp_26 rfl rfl rfl ?_ | refine pb_aload_nN (pc2 := 27) dX11_lamp_26 rfl rfl rfl ?_
  refine pb_getf (pc2 := 30) flX11_19_X11 rfl dX11_lamp_27 (by first | assumption | exact hR.a rfl | exact hR.o | exact hC.o | exact hC.pal | exact hC.tub | exact hC.k _ _ rfl | exact hC.pot _ (by omega) | exact hC.are _ (by omega) | exact hC.arl _ (by omega) | exact hC.tbo _ (by omega) (by omega)) rfl rfl ?_
  refine pb_getf (pc2 := 33) flX11_134_X4 rfl dX11_lamp_30 (by first | assumption | exact hR.a rfl | exact hR.o | exact hC.o | exact hC.pal | exact hC.tub | exact hC.k _ _ rfl | exact hC.pot _ (by omega) | exact hC.are _ (by omega) | exact hC.arl _ (by omega) | exact hC.tbo _ (by omega) (by omega)) rfl rfl ?_
  refine pb_iload_n (pc2 := 34) dX11_lamp_33 rfl rfl rfl ?_
  refine pb_aald (pc2 := 35) (by first | assumption | exact hR.a rfl | exact hR.o | exact hC.o | exact hC.pal | exact hC.tub | exact hC.k _ _ rfl | exact hC.pot _ (by omega) | exact hC.are _ (by omega) | exact hC.arl _ (by omega) | exact hC.tbo _ (by omega) (by omega)) dX11_lamp_34 (by decide) (by omega) (by omega) (cTo_at (by omega)) rfl ?_
  refine pb_iload_n (pc2 := 36) dX11_lamp_35 rfl rfl rfl ?_
  refine pb_iload_n (pc2 := 37) dX11_lamp_36 rfl rfl rfl ?_
  refine pb_callS (pc2 := 40) (k2 := 0) (n2 := 0) mwX11_replace swX11_replace rfl mlX11_137 dX11_lamp_37 (t_replace hr (by omega) (by omega) (show b < 8 by omega)) (by omega) (by omega) (by omega) rfl rfl (Nat.le_of_ble_eq_true rfl) rfl (fun r h1 q _ => ?_)
  obtain ⟨rfl, ha, nb⟩ := q
  refine pb_top (v2 := .int (nI (A 9 (8 * l + b)))) (by rw [hF b (by omega)]) ?_
  have fl : ∀ i, i < 4 → cRow 8 (fun j => pb_wf A 9 (pb_un (A 9) (8 * l + b) v) 9 (8 * i + j)) (h1 (80 + i)) := fun i hi => by
    by_cases e : i = l
    · subst e
      refine ⟨_, ha, cRow_set hF ?_ (fun j hj hne => ?_)⟩
      · show pb_un (A 9) (8 * i + b) v (8 * i + b) = v
        rw [pb_un_self]
      · show pb_un (A 9) (8 * i + b) v (8 * i + j) = _
        rw [pb_un_ne _ _ (by omega)]
    · rw [nb _ (by omega)]
      refine cRow_same (hC.lmr i hi) (fun j hj => ?_)
      show pb_un (A 9) (8 * l + b) v (8 * i + j) = _
      rw [pb_un_ne _ _ (by omega)]
  have hC2 : pb_CF (pb_wf A 9 (pb_un (A 9) (8 * l + b) v)) h h1 := by
    exact pb_CF.mk (fun b hb => (nb b (by omega)).trans (hC.low b hb)) (fun a c e => (nb a (by first | exact cK_ne e rfl | (have := cK_rng e; omega))).trans (hC.k a c e)) (fun a n e => by rw [nb a (by first | exact cS_ne e rfl | (have := cS_rng e; omega))]; exact hC.s a n e) ((nb 60 (by omega)).trans hC.o) ((nb 61 (by omega)).trans hC.pal) (by rw [nb 65 (by omega)]; exact hC.wan) (fun i hi => by rw [nb _ (by omega)]; exact hC.kpr i hi) ((nb 71 (by omega)).trans hC.tub) (fl) (fun i hi => by rw [nb _ (by omega)]; exact hC.sgr i hi) (by rw [nb 76 (by omega)]; exact hC.shw) (fun p hp => (nb _ (by omega)).trans (hC.pot p hp)) (fun p hp => by rw [nb _ (by omega)]; exact hC.ptr p hp) (fun a ha => (nb _ (by omega)).trans (hC.are a ha)) (fun a ha => (nb _ (by omega)).trans (hC.arl a ha)) (fun t h12 ht => (nb _ (by omega)).trans (hC.tbo t h12 ht)) (fun t h12 ht => by rw [nb _ (by omega)]; exact hC.tbd t h12 ht) (fun t h12 ht => by rw [nb _ (by omega)]; exact hC.tbs t h12 ht) (fun t ht ht2 => by have hz_ : A 1 0 ≤ t := ht; rw [nb _ (by omega), nb _ (by omega), nb _ (by omega)]; exact hC.tbn t ht ht2) (fun a i ha h10 hi => by rw [nb _ (by omega), nb _ (by omega), nb _ (by omega)]; exact hC.lyo a i ha h10 hi) (fun a i ha h10 hi => by unfold cCache; rw [nb _ (by omega), nb _ (by omega), nb _ (by omega), nb _ (by omega)]; exact hC.lyc a i ha h10 hi) (fun a i ha hi hi2 q hq => (nb _ (by omega)).trans (hC.lyn a i ha hi hi2 q hq)) (by rw [nb 68 (by omega)]; exact hC.mat) (by rw [nb 309 (by omega)]; exact hC.bst) (by rw [nb 69 (by omega), nb 411 (by omega), nb 413 (by omega)]; exact hC.cho) (by rw [nb 70 (by omega)]; exact hC.gla) (by rw [nb 500 (by omega)]; exact hC.glb) (fun a ha => by rw [nb a (by omega)]; exact hC.zer a ha)
  exact pb_ireturn dX11_lamp_40 rfl (pb_finC rfl hC2)
set_option maxRecDepth 10000 in
theorem c_eye (w : pb_WF A) (hC : pb_CF A h h) (l b v : Int32) : pb_T Z mX11_eye 2 0 0 [.ref 60, .int l, .int b, .int v] h (pb_PC (sp_eye A l b v) h) := by
  refine pb_T.of pnX11_eye (Nat.le_of_ble_eq_true rfl) (lv := [some (.ref 60), some (.int l), some (.int b), some (.int v)]) rfl ?_
  refine pb_iload_n (pc2 := 1) dX11_eye_0 rfl rfl rfl ?_
  refine pb_callS (pc2 := 4) (k2 := 0) (n2 := 0) mwX11_isSight swX11_isSight rfl mlX11_141 dX11_eye_1 (t_isSight l) (by omega) (by omega) (by omega) rfl rfl (Nat.le_of_ble_eq_true rfl) rfl (pb_kB ?_ ?_)
  rotate_left
  · intro q1
    refine pb_ifT_eq (tgt := 24) dX11_eye_4 (by decide) rfl ?_
    refine pb_iconst (x := -1) (pc2 := 25) dX11_eye_24 (by decide) rfl ?_
    exact pb_ireturn dX11_eye_25 rfl (pb_finC (if_neg (fun z => q1 z.1)) hC)
  intro q1
  refine pb_ifF_eq (tgt := 24) (pc2 := 7) dX11_eye_4 (by decide) rfl (by decide) ?_
  refine pb_iload_n (pc2 := 8) dX11_eye_7 rfl rfl rfl ?_
  refine pb_callS (pc2 := 11) (k2 := 0) (n2 := 0) mwX11_isBand swX11_isBand rfl mlX11_98 dX11_eye_8 (t_isBand b) (by omega) (by omega) (by omega) rfl rfl (Nat.le_of_ble_eq_true rfl) rfl (pb_kB ?_ ?_)
  rotate_left
  · intro q2
    refine pb_ifT_eq (tgt := 24) dX11_eye_11 (by decide) rfl ?_
    refine pb_iconst (x := -1) (pc2 := 25) dX11_eye_24 (by decide) rfl ?_
    exact pb_ireturn dX11_eye_25 rfl (pb_finC (if_neg (fun z => q2 z.2.1)) hC)
  intro q2
  refine pb_ifF_eq (tgt := 24) (pc2 := 14) dX11_eye_11 (by decide) rfl (by decide) ?_
  refine pb_iload_n (pc2 := 15) dX11_eye_14 rfl rfl rfl ?_
  refine pb_iconst (x := nI 0) (pc2 := 16) dX11_eye_15 (by decide) rfl ?_
  refine pb_bipush (x := nI 99) (pc2 := 18) dX11_eye_16 (by decide) rfl ?_
  refine pb_callS (pc2 := 21) (k2 := 0) (n2 := 0) mwX11_between swX11_between rfl mlX11_77 dX11_eye_18 (t_between v (nI 0) (nI 99)) (by omega) (by omega) (by omega) rfl rfl (Nat.le_of_ble_eq_true rfl) rfl (pb_kB ?_ ?_)
  rotate_left
  · intro q3
    refine pb_ifF_ne (tgt := 26) (pc2 := 24) dX11_eye_21 rfl rfl (by decide) ?_
    refine pb_iconst (x := -1) (pc2 := 25) dX11_eye_24 (by decide) rfl ?_
    exact pb_ireturn dX11_eye_25 rfl (pb_finC (if_neg (fun z => q3 z.2.2)) hC)
  intro q3
  refine pb_ifT_ne (tgt := 26) dX11_eye_21 (by decide) (by decide) ?_
  have e0 : sp_eye A l b v = _ := if_pos ⟨q1, q2, q3⟩
  rw [e0]
  obtain ⟨l, -, hl, rfl⟩ := nI_rng (by omega) q1 (by omega)
  obtain ⟨b, -, hb, rfl⟩ := nI_rng (by omega) q2 (by omega)
  obtain ⟨v, -, hv, rfl⟩ := nI_rng (by omega) q3 (by omega)
  rw [pb_natN (by omega), pb_natN (by omega), pb_natN (by omega)]
  obtain ⟨F, hr, hF⟩ := hC.sgr l (by omega)
  first | refine pb_aload_n (pc2 := 27) dX11_eye_26 rfl rfl rfl ?_ | refine pb_aload_nN (pc2 := 27) dX11_eye_26 rfl rfl rfl ?_
  refine pb_getf (pc2 := 30) flX11_19_X11 rfl dX11_eye_27 (by first | assumption | exact hR.a rfl | exact hR.o | exact hC.o | exact hC.pal | exact hC.tub | exact hC.k _ _ rfl | exact hC.pot _ (by omega) | exact hC.are _ (by omega) | exact hC.arl _ (by omega) | exact hC.tbo _ (by omega) (by omega)) rfl rfl ?_
  refine pb_getf (pc2 := 33) flX11_144_X4 rfl dX11_eye_30 (by first | assumption | exact hR.a rfl | exact hR.o | exact hC.o | exact hC.pal | exact hC.tub | exact hC.k _ _ rfl | exact hC.pot _ (by omega) | exact hC.are _ (by omega) | exact hC.arl _ (by omega) | exact hC.tbo _ (by omega) (by omega)) rfl rfl ?_
  refine pb_iload_n (pc2 := 34) dX11_eye_33 rfl rfl rfl ?_
  refine pb_aald (pc2 := 35) (by first | assumption | exact hR.a rfl | exact hR.o | exact hC.o | exact hC.pal | exact hC.tub | exact hC.k _ _ rfl | exact hC.pot _ (by omega) | exact hC.are _ (by omega) | exact hC.arl _ (by omega) | exact hC.tbo _ (by omega) (by omega)) dX11_eye_34 (by decide) (by omega) (by omega) (cTo_at (by omega)) rfl ?_
  refine pb_iload_n (pc2 := 36) dX11_eye_35 rfl rfl rfl ?_
  refine pb_iload_n (pc2 := 37) dX11_eye_36 rfl rfl rfl ?_
  refine pb_callS (pc2 := 40) (k2 := 0) (n2 := 0) mwX11_replace swX11_replace rfl mlX11_137 dX11_eye_37 (t_replace hr (by omega) (by omega) (show b < 8 by omega)) (by omega) (by omega) (by omega) rfl rfl (Nat.le_of_ble_eq_true rfl) rfl (fun r h1 q _ => ?_)
  obtain ⟨rfl, ha, nb⟩ := q
  refine pb_top (v2 := .int (nI (A 10 (8 * l + b)))) (by rw [hF b (by omega)]) ?_
  have fl : ∀ i, i < 3 → cRow 8 (fun j => pb_wf A 10 (pb_un (A 10) (8 * l + b) v) 10 (8 * i + j)) (h1 (84 + i)) := fun i hi => by
    by_cases e : i = l
    · subst e
      refine ⟨_, ha, cRow_set hF ?_ (fun j hj hne => ?_)⟩
      · show pb_un (A 10) (8 * i + b) v (8 * i + b) = v
        rw [pb_un_self]
      · show pb_un (A 10) (8 * i + b) v (8 * i + j) = _
        rw [pb_un_ne _ _ (by omega)]
    · rw [nb _ (by omega)]
      refine cRow_same (hC.sgr i hi) (fun j hj => ?_)
      show pb_un (A 10) (8 * l + b) v (8 * i + j) = _
      rw [pb_un_ne _ _ (by omega)]
  have hC2 : pb_CF (pb_wf A 10 (pb_un (A 10) (8 * l + b) v)) h h1 := by
    exact pb_CF.mk (fun b hb => (nb b (by omega)).trans (hC.low b hb)) (fun a c e => (nb a (by first | exact cK_ne e rfl | (have := cK_rng e; omega))).trans (hC.k a c e)) (fun a n e => by rw [nb a (by first | exact cS_ne e rfl | (have := cS_rng e; omega))]; exact hC.s a n e) ((nb 60 (by omega)).trans hC.o) ((nb 61 (by omega)).trans hC.pal) (by rw [nb 65 (by omega)]; exact hC.wan) (fun i hi => by rw [nb _ (by omega)]; exact hC.kpr i hi) ((nb 71 (by omega)).trans hC.tub) (fun i hi => by rw [nb _ (by omega)]; exact hC.lmr i hi) (fl) (by rw [nb 76 (by omega)]; exact hC.shw) (fun p hp => (nb _ (by omega)).trans (hC.pot p hp)) (fun p hp => by rw [nb _ (by omega)]; exact hC.ptr p hp) (fun a ha => (nb _ (by omega)).trans (hC.are a ha)) (fun a ha => (nb _ (by omega)).trans (hC.arl a ha)) (fun t h12 ht => (nb _ (by omega)).trans (hC.tbo t h12 ht)) (fun t h12 ht => by rw [nb _ (by omega)]; exact hC.tbd t h12 ht) (fun t h12 ht => by rw [nb _ (by omega)]; exact hC.tbs t h12 ht) (fun t ht ht2 => by have hz_ : A 1 0 ≤ t := ht; rw [nb _ (by omega), nb _ (by omega), nb _ (by omega)]; exact hC.tbn t ht ht2) (fun a i ha h10 hi => by rw [nb _ (by omega), nb _ (by omega), nb _ (by omega)]; exact hC.lyo a i ha h10 hi) (fun a i ha h10 hi => by unfold cCache; rw [nb _ (by omega), nb _ (by omega), nb _ (by omega), nb _ (by omega)]; exact hC.lyc a i ha h10 hi) (fun a i ha hi hi2 q hq => (nb _ (by omega)).trans (hC.lyn a i ha hi hi2 q hq)) (by rw [nb 68 (by omega)]; exact hC.mat) (by rw [nb 309 (by omega)]; exact hC.bst) (by rw [nb 69 (by omega), nb 411 (by omega), nb 413 (by omega)]; exact hC.cho) (by rw [nb 70 (by omega)]; exact hC.gla) (by rw [nb 500 (by omega)]; exact hC.glb) (fun a ha => by rw [nb a (by omega)]; exact hC.zer a ha)
  exact pb_ireturn dX11_eye_40 rfl (pb_finC rfl hC2)
theorem c_years (w : pb_WF A) (hC : pb_CF A h h) (n : Int32) : pb_T Z mX11_years 1 0 0 [.ref 60, .int n] h (pb_PC (sp_years A n) h) := by
  have hy := w.year
  refine pb_T.of pnX11_years (Nat.le_of_ble_eq_true rfl) (lv := [some (.ref 60), some (.int n)]) rfl ?_
  refine pb_iload_n (pc2 := 1) dX11_years_0 rfl rfl rfl ?_
  refine pb_iconst (x := nI 1) (pc2 := 2) dX11_years_1 (by decide) rfl ?_
  refine pb_bipush (x := nI 99) (pc2 := 4) dX11_years_2 (by decide) rfl ?_
  refine pb_callS (pc2 := 7) (k2 := 0) (n2 := 0) mwX11_between swX11_between rfl mlX11_77 dX11_years_4 (t_between n (nI 1) (nI 99)) (by omega) (by omega) (by omega) rfl rfl (Nat.le_of_ble_eq_true rfl) rfl (pb_kB ?_ ?_)
  rotate_left
  · intro q1
    refine pb_ifT_eq (tgt := 21) dX11_years_7 (by decide) rfl ?_
    refine pb_iconst (x := -1) (pc2 := 22) dX11_years_21 (by decide) rfl ?_
    exact pb_ireturn dX11_years_22 rfl (pb_finC (if_neg (fun z => q1 z.1)) hC)
  intro q1
  refine pb_ifF_eq (tgt := 21) (pc2 := 10) dX11_years_7 (by decide) rfl (by decide) ?_
  obtain ⟨n, hn1, hn, rfl⟩ := nI_rng (by omega) q1 (by omega)
  first | refine pb_aload_n (pc2 := 11) dX11_years_10 rfl rfl rfl ?_ | refine pb_aload_nN (pc2 := 11) dX11_years_10 rfl rfl rfl ?_
  refine pb_getf (pc2 := 14) flX11_72_X11 rfl dX11_years_11 (by first | assumption | exact hR.a rfl | exact hR.o | exact hC.o | exact hC.pal | exact hC.tub | exact hC.k _ _ rfl | exact hC.pot _ (by omega) | exact hC.are _ (by omega) | exact hC.arl _ (by omega) | exact hC.tbo _ (by omega) (by omega)) rfl rfl ?_
  refine pb_iload_n (pc2 := 15) dX11_years_14 rfl rfl rfl ?_
  refine pb_iaddN (pc2 := 16) dX11_years_15 rfl ?_
  refine pb_bipush (x := nI 99) (pc2 := 18) dX11_years_16 (by decide) rfl ?_
  refine pb_icmpN_le (tgt := 23) (pc2 := 21) dX11_years_18 (by decide) rfl (by omega) (by omega) (fun c => ?_) (fun c => ?_)
  · have e0 : sp_years A (nI n) = _ := if_pos ⟨q1, by rw [pb_natN (by omega)]; exact c⟩
    rw [e0, pb_natN (by omega)]
    first | refine pb_aload_n (pc2 := 24) dX11_years_23 rfl rfl rfl ?_ | refine pb_aload_nN (pc2 := 24) dX11_years_23 rfl rfl rfl ?_
    refine pb_dup (pc2 := 25) dX11_years_24 rfl rfl ?_
    refine pb_getf (pc2 := 28) flX11_72_X11 rfl dX11_years_25 (by first | assumption | exact hR.a rfl | exact hR.o | exact hC.o | exact hC.pal | exact hC.tub | exact hC.k _ _ rfl | exact hC.pot _ (by omega) | exact hC.are _ (by omega) | exact hC.arl _ (by omega) | exact hC.tbo _ (by omega) (by omega)) rfl rfl ?_
    refine pb_iload_n (pc2 := 29) dX11_years_28 rfl rfl rfl ?_
    refine pb_iaddN (pc2 := 30) dX11_years_29 rfl ?_
    refine pb_putG (pc2 := 33) flX11_72_X11 rfl dX11_years_30 hC.o (by omega) rfl rfl rfl rfl rfl (fun h1 ho nb => ?_)
    have hC2 : pb_CF (pb_wf A 0 (fun _ => A 0 0 + n)) h h1 := by
      exact pb_CF.mk (fun b hb => (nb b (by omega)).trans (hC.low b hb)) (fun a c e => (nb a (by first | exact cK_ne e rfl | (have := cK_rng e; omega))).trans (hC.k a c e)) (fun a n e => by rw [nb a (by first | exact cS_ne e rfl | (have := cS_rng e; omega))]; exact hC.s a n e) (ho) ((nb 61 (by omega)).trans hC.pal) (by rw [nb 65 (by omega)]; exact hC.wan) (fun i hi => by rw [nb _ (by omega)]; exact hC.kpr i hi) ((nb 71 (by omega)).trans hC.tub) (fun i hi => by rw [nb _ (by omega)]; exact hC.lmr i hi) (fun i hi => by rw [nb _ (by omega)]; exact hC.sgr i hi) (by rw [nb 76 (by omega)]; exact hC.shw) (fun p hp => (nb _ (by omega)).trans (hC.pot p hp)) (fun p hp => by rw [nb _ (by omega)]; exact hC.ptr p hp) (fun a ha => (nb _ (by omega)).trans (hC.are a ha)) (fun a ha => (nb _ (by omega)).trans (hC.arl a ha)) (fun t h12 ht => (nb _ (by omega)).trans (hC.tbo t h12 ht)) (fun t h12 ht => by rw [nb _ (by omega)]; exact hC.tbd t h12 ht) (fun t h12 ht => by rw [nb _ (by omega)]; exact hC.tbs t h12 ht) (fun t ht ht2 => by have hz_ : A 1 0 ≤ t := ht; rw [nb _ (by omega), nb _ (by omega), nb _ (by omega)]; exact hC.tbn t ht ht2) (fun a i ha h10 hi => by rw [nb _ (by omega), nb _ (by omega), nb _ (by omega)]; exact hC.lyo a i ha h10 hi) (fun a i ha h10 hi => by unfold cCache; rw [nb _ (by omega), nb _ (by omega), nb _ (by omega), nb _ (by omega)]; exact hC.lyc a i ha h10 hi) (fun a i ha hi hi2 q hq => (nb _ (by omega)).trans (hC.lyn a i ha hi hi2 q hq)) (by rw [nb 68 (by omega)]; exact hC.mat) (by rw [nb 309 (by omega)]; exact hC.bst) (by rw [nb 69 (by omega), nb 411 (by omega), nb 413 (by omega)]; exact hC.cho) (by rw [nb 70 (by omega)]; exact hC.gla) (by rw [nb 500 (by omega)]; exact hC.glb) (fun a ha => by rw [nb a (by omega)]; exact hC.zer a ha)
    first | refine pb_aload_n (pc2 := 34) dX11_years_33 rfl rfl rfl ?_ | refine pb_aload_nN (pc2 := 34) dX11_years_33 rfl rfl rfl ?_
    refine pb_getf (v := .int (nI (A 0 0 + n))) (pc2 := 37) flX11_72_X11 rfl dX11_years_34 (by first | assumption | exact hR.a rfl | exact hR.o | exact hC.o | exact hC.pal | exact hC.tub | exact hC.k _ _ rfl | exact hC.pot _ (by omega) | exact hC.are _ (by omega) | exact hC.arl _ (by omega) | exact hC.tbo _ (by omega) (by omega)) rfl rfl ?_
    exact pb_ireturn dX11_years_37 rfl (pb_finC rfl hC2)
  · refine pb_iconst (x := -1) (pc2 := 22) dX11_years_21 (by decide) rfl ?_
    exact pb_ireturn dX11_years_22 rfl (pb_finC (if_neg (fun z => by have := z.2; rw [pb_natN (by omega)] at this; omega)) hC)
set_option maxRecDepth 10000 in
theorem c_tone (w : pb_WF A) (hC : pb_CF A h h) (a b c : Int32) : pb_T Z mX11_tone 2 0 0 [.ref 60, .int a, .int b, .int c] h (pb_PC (sp_tone A a b c) h) := by
  refine pb_T.of pnX11_tone (Nat.le_of_ble_eq_true rfl) (lv := [some (.ref 60), some (.int a), some (.int b), some (.int c)]) rfl ?_
  refine pb_iload_n (pc2 := 1) dX11_tone_0 rfl rfl rfl ?_
  refine pb_callS (pc2 := 4) (k2 := 0) (n2 := 0) mwX11_isShare swX11_isShare rfl mlX11_182 dX11_tone_1 (t_isShare a) (by omega) (by omega) (by omega) rfl rfl (Nat.le_of_ble_eq_true rfl) rfl (pb_kB ?_ ?_)
  rotate_left
  · intro q1
    refine pb_ifT_eq (tgt := 21) dX11_tone_4 (by decide) rfl ?_
    refine pb_iconst (x := -1) (pc2 := 22) dX11_tone_21 (by decide) rfl ?_
    exact pb_ireturn dX11_tone_22 rfl (pb_finC (if_neg (fun z => q1 z.1)) hC)
  intro q1
  refine pb_ifF_eq (tgt := 21) (pc2 := 7) dX11_tone_4 (by decide) rfl (by decide) ?_
  refine pb_iload_n (pc2 := 8) dX11_tone_7 rfl rfl rfl ?_
  refine pb_callS (pc2 := 11) (k2 := 0) (n2 := 0) mwX11_isShare swX11_isShare rfl mlX11_182 dX11_tone_8 (t_isShare b) (by omega) (by omega) (by omega) rfl rfl (Nat.le_of_ble_eq_true rfl) rfl (pb_kB ?_ ?_)
  rotate_left
  · intro q2
    refine pb_ifT_eq (tgt := 21) dX11_tone_11 (by decide) rfl ?_
    refine pb_iconst (x := -1) (pc2 := 22) dX11_tone_21 (by decide) rfl ?_
    exact pb_ireturn dX11_tone_22 rfl (pb_finC (if_neg (fun z => q2 z.2.1)) hC)
  intro q2
  refine pb_ifF_eq (tgt := 21) (pc2 := 14) dX11_tone_11 (by decide) rfl (by decide) ?_
  refine pb_iload_n (pc2 := 15) dX11_tone_14 rfl rfl rfl ?_
  refine pb_callS (pc2 := 18) (k2 := 0) (n2 := 0) mwX11_isShare swX11_isShare rfl mlX11_182 dX11_tone_15 (t_isShare c) (by omega) (by omega) (by omega) rfl rfl (Nat.le_of_ble_eq_true rfl) rfl (pb_kB ?_ ?_)
  rotate_left
  · intro q3
    refine pb_ifF_ne (tgt := 23) (pc2 := 21) dX11_tone_18 rfl rfl (by decide) ?_
    refine pb_iconst (x := -1) (pc2 := 22) dX11_tone_21 (by decide) rfl ?_
    exact pb_ireturn dX11_tone_22 rfl (pb_finC (if_neg (fun z => q3 z.2.2)) hC)
  intro q3
  refine pb_ifT_ne (tgt := 23) dX11_tone_18 (by decide) (by decide) ?_
  have e0 : sp_tone A a b c = _ := if_pos ⟨q1, q2, q3⟩
  rw [e0]
  obtain ⟨a, -, ha, rfl⟩ := nI_rng (by omega) q1 (by omega)
  obtain ⟨b, -, hb, rfl⟩ := nI_rng (by omega) q2 (by omega)
  obtain ⟨c, -, hc, rfl⟩ := nI_rng (by omega) q3 (by omega)
  rw [pb_natN (by omega), pb_natN (by omega), pb_natN (by omega)]
  obtain ⟨F, hr, hF⟩ := hC.wan
  first | refine pb_aload_n (pc2 := 24) dX11_tone_23 rfl rfl rfl ?_ | refine pb_aload_nN (pc2 := 24) dX11_tone_23 rfl rfl rfl ?_
  refine pb_getf (pc2 := 27) flX11_35_X11 rfl dX11_tone_24 (by first | assumption | exact hR.a rfl | exact hR.o | exact hC.o | exact hC.pal | exact hC.tub | exact hC.k _ _ rfl | exact hC.pot _ (by omega) | exact hC.are _ (by omega) | exact hC.arl _ (by omega) | exact hC.tbo _ (by omega) (by omega)) rfl rfl ?_
  refine pb_iconst (x := nI 0) (pc2 := 28) dX11_tone_27 (by decide) rfl ?_
  refine pb_iload_n (pc2 := 29) dX11_tone_28 rfl rfl rfl ?_
  refine pb_iastG (pc2 := 30) hr dX11_tone_29 (by omega) (by omega) (by omega) rfl (fun h1 hr n1 => ?_)
  have ho1 : h1 60 = _ := (n1 60 (by omega)).trans hC.o
  first | refine pb_aload_n (pc2 := 31) dX11_tone_30 rfl rfl rfl ?_ | refine pb_aload_nN (pc2 := 31) dX11_tone_30 rfl rfl rfl ?_
  refine pb_getf (pc2 := 34) flX11_35_X11 rfl dX11_tone_31 (by first | assumption | exact hR.a rfl | exact hR.o | exact hC.o | exact hC.pal | exact hC.tub | exact hC.k _ _ rfl | exact hC.pot _ (by omega) | exact hC.are _ (by omega) | exact hC.arl _ (by omega) | exact hC.tbo _ (by omega) (by omega)) rfl rfl ?_
  refine pb_iconst (x := nI 1) (pc2 := 35) dX11_tone_34 (by decide) rfl ?_
  refine pb_iload_n (pc2 := 36) dX11_tone_35 rfl rfl rfl ?_
  refine pb_iastG (pc2 := 37) hr dX11_tone_36 (by omega) (by omega) (by omega) rfl (fun h2 hr n2 => ?_)
  have ho2 : h2 60 = _ := (n2 60 (by omega)).trans ho1
  first | refine pb_aload_n (pc2 := 38) dX11_tone_37 rfl rfl rfl ?_ | refine pb_aload_nN (pc2 := 38) dX11_tone_37 rfl rfl rfl ?_
  refine pb_getf (pc2 := 41) flX11_35_X11 rfl dX11_tone_38 (by first | assumption | exact hR.a rfl | exact hR.o | exact hC.o | exact hC.pal | exact hC.tub | exact hC.k _ _ rfl | exact hC.pot _ (by omega) | exact hC.are _ (by omega) | exact hC.arl _ (by omega) | exact hC.tbo _ (by omega) (by omega)) rfl rfl ?_
  refine pb_iconst (x := nI 2) (pc2 := 42) dX11_tone_41 (by decide) rfl ?_
  refine pb_iload_n (pc2 := 43) dX11_tone_42 rfl rfl rfl ?_
  refine pb_iastG (pc2 := 44) hr dX11_tone_43 (by omega) (by omega) (by omega) rfl (fun h3 hr n3 => ?_)
  refine pb_iconst (x := nI 1) (pc2 := 45) dX11_tone_44 (by decide) rfl ?_
  have nb : ∀ x, x ≠ 65 → h3 x = h x := fun x hx => (n3 x hx).trans ((n2 x hx).trans (n1 x hx))
  have fw : cRow 3 (pb_wf A 17 (pb_un (pb_un (pb_un (A 17) 0 a) 1 b) 2 c) 17) (h3 65) := by
    rw [pb_wf_self]
    refine ⟨_, hr, fun i hi => ?_⟩
    unfold pb_un
    rw [hF i hi]
  have hC2 : pb_CF (pb_wf A 17 (pb_un (pb_un (pb_un (A 17) 0 a) 1 b) 2 c)) h h3 := by
    exact pb_CF.mk (fun b hb => (nb b (by omega)).trans (hC.low b hb)) (fun a c e => (nb a (by first | exact cK_ne e rfl | (have := cK_rng e; omega))).trans (hC.k a c e)) (fun a n e => by rw [nb a (by first | exact cS_ne e rfl | (have := cS_rng e; omega))]; exact hC.s a n e) ((nb 60 (by omega)).trans hC.o) ((nb 61 (by omega)).trans hC.pal) (fw) (fun i hi => by rw [nb _ (by omega)]; exact hC.kpr i hi) ((nb 71 (by omega)).trans hC.tub) (fun i hi => by rw [nb _ (by omega)]; exact hC.lmr i hi) (fun i hi => by rw [nb _ (by omega)]; exact hC.sgr i hi) (by rw [nb 76 (by omega)]; exact hC.shw) (fun p hp => (nb _ (by omega)).trans (hC.pot p hp)) (fun p hp => by rw [nb _ (by omega)]; exact hC.ptr p hp) (fun a ha => (nb _ (by omega)).trans (hC.are a ha)) (fun a ha => (nb _ (by omega)).trans (hC.arl a ha)) (fun t h12 ht => (nb _ (by omega)).trans (hC.tbo t h12 ht)) (fun t h12 ht => by rw [nb _ (by omega)]; exact hC.tbd t h12 ht) (fun t h12 ht => by rw [nb _ (by omega)]; exact hC.tbs t h12 ht) (fun t ht ht2 => by have hz_ : A 1 0 ≤ t := ht; rw [nb _ (by omega), nb _ (by omega), nb _ (by omega)]; exact hC.tbn t ht ht2) (fun a i ha h10 hi => by rw [nb _ (by omega), nb _ (by omega), nb _ (by omega)]; exact hC.lyo a i ha h10 hi) (fun a i ha h10 hi => by unfold cCache; rw [nb _ (by omega), nb _ (by omega), nb _ (by omega), nb _ (by omega)]; exact hC.lyc a i ha h10 hi) (fun a i ha hi hi2 q hq => (nb _ (by omega)).trans (hC.lyn a i ha hi hi2 q hq)) (by rw [nb 68 (by omega)]; exact hC.mat) (by rw [nb 309 (by omega)]; exact hC.bst) (by rw [nb 69 (by omega), nb 411 (by omega), nb 413 (by omega)]; exact hC.cho) (by rw [nb 70 (by omega)]; exact hC.gla) (by rw [nb 500 (by omega)]; exact hC.glb) (fun a ha => by rw [nb a (by omega)]; exact hC.zer a ha)
  exact pb_ireturn dX11_tone_45 rfl (pb_finC rfl hC2)
set_option maxRecDepth 10000 in
theorem c_row (w : pb_WF A) (hC : pb_CF A h h) (t b y x : Int32) : pb_T Z mX11_row 2 0 0 [.ref 60, .int t, .int b, .int y, .int x] h (pb_PC (sp_row A t b y x) h) := by
  have htt := w.tubes
  refine pb_T.of pnX11_row (Nat.le_of_ble_eq_true rfl) (lv := [some (.ref 60), some (.int t), some (.int b), some (.int y), some (.int x), none]) rfl ?_
  first | refine pb_aload_n (pc2 := 1) dX11_row_0 rfl rfl rfl ?_ | refine pb_aload_nN (pc2 := 1) dX11_row_0 rfl rfl rfl ?_
  refine pb_getf (pc2 := 4) flX11_12_X11 rfl dX11_row_1 (by first | assumption | exact hR.a rfl | exact hR.o | exact hC.o | exact hC.pal | exact hC.tub | exact hC.k _ _ rfl | exact hC.pot _ (by omega) | exact hC.are _ (by omega) | exact hC.arl _ (by omega) | exact hC.tbo _ (by omega) (by omega)) rfl rfl ?_
  refine pb_iload_n (pc2 := 5) dX11_row_4 rfl rfl rfl ?_
  refine pb_callV (pc2 := 8) (k2 := 0) (n2 := 0) mwX8_at pb_cl7.1 iwX8_at seX8_at rfl mlX11_94 dX11_row_5 (by first | assumption | exact hR.a rfl | exact hR.o | exact hC.o | exact hC.pal | exact hC.tub | exact hC.k _ _ rfl | exact hC.pot _ (by omega) | exact hC.are _ (by omega) | exact hC.arl _ (by omega) | exact hC.tbo _ (by omega) (by omega)) (t_at w hC t) (by omega) (by omega) (by omega) rfl rfl (Nat.le_of_ble_eq_true rfl) rfl (pb_kRef (fun t ht e => ?_) (fun q => ?_))
  · subst e
    have q0 := pb_isT_mk w ht
    first | refine pb_astore (lv2 := [_, _, _, _, _, _]) (pc2 := 10) dX11_row_8 (by decide) rfl rfl ?_ | refine pb_astoreN (lv2 := [_, _, _, _, _, _]) (pc2 := 10) dX11_row_8 (by decide) rfl rfl ?_
    first | refine pb_aload (pc2 := 12) dX11_row_10 rfl rfl ?_ | refine pb_aloadN (pc2 := 12) dX11_row_10 rfl rfl ?_
    refine pb_ifnull (pc2 := 15) dX11_row_12 rfl ?_
    refine pb_iload_n (pc2 := 16) dX11_row_15 rfl rfl rfl ?_
    refine pb_callS (pc2 := 19) (k2 := 0) (n2 := 0) mwX11_isBand swX11_isBand rfl mlX11_98 dX11_row_16 (t_isBand b) (by omega) (by omega) (by omega) rfl rfl (Nat.le_of_ble_eq_true rfl) rfl (pb_kB ?_ ?_)
    rotate_left
    · intro q1
      refine pb_ifT_eq (tgt := 42) dX11_row_19 (by decide) rfl ?_
      refine pb_iconst (x := -1) (pc2 := 43) dX11_row_42 (by decide) rfl ?_
      exact pb_ireturn dX11_row_43 rfl (pb_finC (if_neg (fun z => q1 z.2.1)) hC)
    intro q1
    refine pb_ifF_eq (tgt := 42) (pc2 := 22) dX11_row_19 (by decide) rfl (by decide) ?_
    refine pb_iload_n (pc2 := 23) dX11_row_22 rfl rfl rfl ?_
    refine pb_iconst (x := nI 0) (pc2 := 24) dX11_row_23 (by decide) rfl ?_
    refine pb_bipush (x := nI 99) (pc2 := 26) dX11_row_24 (by decide) rfl ?_
    refine pb_callS (pc2 := 29) (k2 := 0) (n2 := 0) mwX11_between swX11_between rfl mlX11_77 dX11_row_26 (t_between y (nI 0) (nI 99)) (by omega) (by omega) (by omega) rfl rfl (Nat.le_of_ble_eq_true rfl) rfl (pb_kB ?_ ?_)
    rotate_left
    · intro q2
      refine pb_ifT_eq (tgt := 42) dX11_row_29 (by decide) rfl ?_
      refine pb_iconst (x := -1) (pc2 := 43) dX11_row_42 (by decide) rfl ?_
      exact pb_ireturn dX11_row_43 rfl (pb_finC (if_neg (fun z => q2 z.2.2.1)) hC)
    intro q2
    refine pb_ifF_eq (tgt := 42) (pc2 := 32) dX11_row_29 (by decide) rfl (by decide) ?_
    refine pb_iload (pc2 := 34) dX11_row_32 rfl rfl ?_
    refine pb_iconst (x := nI 0) (pc2 := 35) dX11_row_34 (by decide) rfl ?_
    refine pb_iconst (x := nI 1) (pc2 := 36) dX11_row_35 (by decide) rfl ?_
    refine pb_callS (pc2 := 39) (k2 := 0) (n2 := 0) mwX11_between swX11_between rfl mlX11_77 dX11_row_36 (t_between x (nI 0) (nI 1)) (by omega) (by omega) (by omega) rfl rfl (Nat.le_of_ble_eq_true rfl) rfl (pb_kB ?_ ?_)
    rotate_left
    · intro q3
      refine pb_ifF_ne (tgt := 44) (pc2 := 42) dX11_row_39 rfl rfl (by decide) ?_
      refine pb_iconst (x := -1) (pc2 := 43) dX11_row_42 (by decide) rfl ?_
      exact pb_ireturn dX11_row_43 rfl (pb_finC (if_neg (fun z => q3 z.2.2.2)) hC)
    intro q3
    refine pb_ifT_ne (tgt := 44) dX11_row_39 (by decide) (by decide) ?_
    have e0 : sp_row A (nI t) b y x = _ := if_pos ⟨q0, q1, q2, q3⟩
    rw [e0]
    obtain ⟨b, -, hb, rfl⟩ := nI_rng (by omega) q1 (by omega)
    obtain ⟨y, -, hy, rfl⟩ := nI_rng (by omega) q2 (by omega)
    obtain ⟨x, -, hx, rfl⟩ := nI_rng (by omega) q3 (by omega)
    rw [pb_natN (by omega), pb_natN (by omega), pb_natN (by omega)]
    refine pb_iload (pc2 := 46) dX11_row_44 rfl rfl ?_
    refine pb_ifN_ne (tgt := 59) (pc2 := 49) dX11_row_46 (by decide) rfl (by omega) (fun c => ?_) (fun c => ?_)
    · first | refine pb_aload (pc2 := 61) dX11_row_59 rfl rfl ?_ | refine pb_aloadN (pc2 := 61) dX11_row_59 rfl rfl ?_
      refine pb_iload_n (pc2 := 62) dX11_row_61 rfl rfl rfl ?_
      refine pb_callV (pc2 := 65) (k2 := 0) (n2 := 0) mwX10_scatterOf pb_cl8.1 iwX10_scatterOf seX10_scatterOf rfl mlX11_128 dX11_row_62 (by first | assumption | exact hR.a rfl | exact hR.o | exact hC.o | exact hC.pal | exact hC.tub | exact hC.k _ _ rfl | exact hC.pot _ (by omega) | exact hC.are _ (by omega) | exact hC.arl _ (by omega) | exact hC.tbo _ (by omega) (by omega)) (t_scatterOf hC ht (by omega) (show b < 8 by omega)) (by omega) (by omega) (by omega) rfl rfl (Nat.le_of_ble_eq_true rfl) rfl (pb_kE ?_)
      exact pb_ireturn dX11_row_65 rfl (pb_finC (by rw [if_neg (fun z => c (nI_inj (by omega) (by omega) z))]) hC)
    · subst c
      first | refine pb_aload (pc2 := 51) dX11_row_49 rfl rfl ?_ | refine pb_aloadN (pc2 := 51) dX11_row_49 rfl rfl ?_
      refine pb_iload_n (pc2 := 52) dX11_row_51 rfl rfl rfl ?_
      refine pb_iload_n (pc2 := 53) dX11_row_52 rfl rfl rfl ?_
      refine pb_callV (pc2 := 56) (k2 := 0) (n2 := 0) mwX10_drinkAfter pb_cl8.1 iwX10_drinkAfter seX10_drinkAfter rfl mlX11_124 dX11_row_53 (by first | assumption | exact hR.a rfl | exact hR.o | exact hC.o | exact hC.pal | exact hC.tub | exact hC.k _ _ rfl | exact hC.pot _ (by omega) | exact hC.are _ (by omega) | exact hC.arl _ (by omega) | exact hC.tbo _ (by omega) (by omega)) (t_drinkAfter hC ht (by omega) (show b < 8 by omega) (show y < 100 by omega)) (by omega) (by omega) (by omega) rfl rfl (Nat.le_of_ble_eq_true rfl) rfl (pb_kE ?_)
      refine pb_goto (tgt := 65) dX11_row_56 (by decide) ?_
      exact pb_ireturn dX11_row_65 rfl (pb_finC (by rw [if_pos rfl]) hC)
  · first | refine pb_astore (lv2 := [_, _, _, _, _, _]) (pc2 := 10) dX11_row_8 (by decide) rfl rfl ?_ | refine pb_astoreN (lv2 := [_, _, _, _, _, _]) (pc2 := 10) dX11_row_8 (by decide) rfl rfl ?_
    first | refine pb_aload (pc2 := 12) dX11_row_10 rfl rfl ?_ | refine pb_aloadN (pc2 := 12) dX11_row_10 rfl rfl ?_
    refine pb_ifnullN (tgt := 42) dX11_row_12 (by decide) ?_
    refine pb_iconst (x := -1) (pc2 := 43) dX11_row_42 (by decide) rfl ?_
    exact pb_ireturn dX11_row_43 rfl (pb_finC (if_neg (fun z => q z.1)) hC)
end PB31

