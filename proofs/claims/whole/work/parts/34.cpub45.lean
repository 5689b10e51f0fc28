/-! PUBLIC METHODS OF THE CLASS (fourth part): tube, hiding, lay -/
theorem pb_lay_mono {a b : Nat} (hab : a + b ≤ 250) : ∀ (n g g' : Nat), g ≤ g' → g' ≤ 10000 → pb_lay a b n g ≤ pb_lay a b n g' ∧ pb_lay a b n g' - pb_lay a b n g ≤ g' - g
  | 0, g, g', h1, _ => ⟨h1, Nat.le_refl _⟩
  | n + 1, g, g', h1, h2 => by
    obtain ⟨m1, m2⟩ := pb_thin_mono hab h1 h2
    obtain ⟨i1, i2⟩ := pb_lay_mono hab n _ _ m1 (pb_thin_le hab h2)
    exact ⟨i1, Nat.le_trans i2 m2⟩
def pb_hd (a b d n : Nat) : Prop := pb_lay a b n 10000 - pb_lay a b n 0 ≤ d
theorem pb_hd_up {a b d n m : Nat} (hab : a + b ≤ 250) (h : pb_hd a b d n) (hm : n ≤ m) : pb_hd a b d m := by
  obtain ⟨k, rfl⟩ : ∃ k, m = n + k := ⟨m - n, by omega⟩
  unfold pb_hd at h ⊢
  rw [pb_lay_add, pb_lay_add]
  obtain ⟨i1, -⟩ := pb_lay_mono hab n 0 10000 (by omega) (Nat.le_refl _)
  obtain ⟨-, i2⟩ := pb_lay_mono hab k _ _ i1 (pb_lay_le hab n 10000 (Nat.le_refl _))
  omega
def pb_PH (a b d : Nat) (h : pb_H) : Option Value → pb_H → Prop := fun v h' => h' = h ∧ ∃ r, v = some (.int (nI r)) ∧ 1 ≤ r ∧ r ≤ 201 ∧ ∀ n, 1 ≤ n → n ≤ 200 → (pb_hd a b d n ↔ r ≤ n)
theorem k_tube {A : pb_A} {h0 h h2 : pb_H} {c f n : Nat} (htt : A 1 0 < 12) (hC : pb_CF A h0 h) (nb : ∀ b, b ≠ 200 + A 1 0 → b ≠ 220 + A 1 0 → b ≠ 240 + A 1 0 → b ≠ 61 → b ≠ 71 → h2 b = h b) (h61 : h2 61 = some (.inr (.inr (7, [.ref 71, .int (nI (A 1 0 + 1))])))) (h71 : h2 71 = some (.inr (.inl (0, 12, cTo 200 (A 1 0 + 1))))) (ft : ∀ t, t < 12 → t < A 1 0 + 1 → h2 (200 + t) = some (.inr (.inr (8, [.int (nI (pb_un (A 2) (A 1 0) c t)), .int (nI (pb_un (A 3) (A 1 0) f t)), .int (nI (pb_un (A 4) (A 1 0) n t)), .int (nI (A 5 t)), .int (nI (A 6 t)), .ref (220 + t), .ref (240 + t)])))) (fd : ∀ t, t < 12 → t < A 1 0 + 1 → cRow 800 (fun j => pb_fade (pb_un (A 3) (A 1 0) f t) (if 8 * A 1 0 ≤ 8 * t + j / 100 ∧ 8 * t + j / 100 < 8 * A 1 0 + 8 then 100 else A 7 (8 * t + j / 100)) (j % 100)) (h2 (220 + t))) (fs : ∀ t, t < 12 → t < A 1 0 + 1 → cRow 8 (fun j => if 8 * A 1 0 ≤ 8 * t + j ∧ 8 * t + j < 8 * A 1 0 + 8 then 100 else A 8 (8 * t + j)) (h2 (240 + t))) : pb_CF (sp_newTube A c f n) h0 h2 := by
  exact pb_CF.mk (fun b hb => (nb b (by omega) (by omega) (by omega) (by omega) (by omega)).trans (hC.low b hb)) (fun a c e => (nb a (by first | exact cK_ne e rfl | (have := cK_rng e; omega)) (by first | exact cK_ne e rfl | (have := cK_rng e; omega)) (by first | exact cK_ne e rfl | (have := cK_rng e; omega)) (by first | exact cK_ne e rfl | (have := cK_rng e; omega)) (by first | exact cK_ne e rfl | (have := cK_rng e; omega))).trans (hC.k a c e)) (fun a n e => by rw [nb a (by first | exact cS_ne e rfl | (have := cS_rng e; omega)) (by first | exact cS_ne e rfl | (have := cS_rng e; omega)) (by first | exact cS_ne e rfl | (have := cS_rng e; omega)) (by first | exact cS_ne e rfl | (have := cS_rng e; omega)) (by first | exact cS_ne e rfl | (have := cS_rng e; omega))]; exact hC.s a n e) ((nb 60 (by omega) (by omega) (by omega) (by omega) (by omega)).trans hC.o) (h61) (by rw [nb 65 (by omega) (by omega) (by omega) (by omega) (by omega)]; exact hC.wan) (fun i hi => by rw [nb _ (by omega) (by omega) (by omega) (by omega) (by omega)]; exact hC.kpr i hi) (h71) (fun i hi => by rw [nb _ (by omega) (by omega) (by omega) (by omega) (by omega)]; exact hC.lmr i hi) (fun i hi => by rw [nb _ (by omega) (by omega) (by omega) (by omega) (by omega)]; exact hC.sgr i hi) (by rw [nb 76 (by omega) (by omega) (by omega) (by omega) (by omega)]; exact hC.shw) (fun p hp => (nb _ (by omega) (by omega) (by omega) (by omega) (by omega)).trans (hC.pot p hp)) (fun p hp => by rw [nb _ (by omega) (by omega) (by omega) (by omega) (by omega)]; exact hC.ptr p hp) (fun a ha => (nb _ (by omega) (by omega) (by omega) (by omega) (by omega)).trans (hC.are a ha)) (fun a ha => (nb _ (by omega) (by omega) (by omega) (by omega) (by omega)).trans (hC.arl a ha)) (ft) (fd) (fs) (fun t ht ht2 => by have hz_ : A 1 0 + 1 ≤ t := ht; rw [nb _ (by omega) (by omega) (by omega) (by omega) (by omega), nb _ (by omega) (by omega) (by omega) (by omega) (by omega), nb _ (by omega) (by omega) (by omega) (by omega) (by omega)]; exact hC.tbn t (by omega) ht2) (fun a i ha h10 hi => by rw [nb _ (by omega) (by omega) (by omega) (by omega) (by omega), nb _ (by omega) (by omega) (by omega) (by omega) (by omega), nb _ (by omega) (by omega) (by omega) (by omega) (by omega)]; exact hC.lyo a i ha h10 hi) (fun a i ha h10 hi => by unfold cCache; rw [nb _ (by omega) (by omega) (by omega) (by omega) (by omega), nb _ (by omega) (by omega) (by omega) (by omega) (by omega), nb _ (by omega) (by omega) (by omega) (by omega) (by omega), nb _ (by omega) (by omega) (by omega) (by omega) (by omega)]; exact hC.lyc a i ha h10 hi) (fun a i ha hi hi2 q hq => (nb _ (by omega) (by omega) (by omega) (by omega) (by omega)).trans (hC.lyn a i ha hi hi2 q hq)) (by rw [nb 68 (by omega) (by omega) (by omega) (by omega) (by omega)]; exact hC.mat) (by rw [nb 309 (by omega) (by omega) (by omega) (by omega) (by omega)]; exact hC.bst) (by rw [nb 69 (by omega) (by omega) (by omega) (by omega) (by omega), nb 411 (by omega) (by omega) (by omega) (by omega) (by omega), nb 413 (by omega) (by omega) (by omega) (by omega) (by omega)]; exact hC.cho) (by rw [nb 70 (by omega) (by omega) (by omega) (by omega) (by omega)]; exact hC.gla) (by rw [nb 500 (by omega) (by omega) (by omega) (by omega) (by omega)]; exact hC.glb) (fun a ha => by rw [nb a (by omega) (by omega) (by omega) (by omega) (by omega)]; exact hC.zer a ha)
theorem k_lay {A : pb_A} {h0 h h4 : pb_H} {p a n k : Nat} (htt : A 1 0 ≤ 12) (hp : p < 10) (ha : a < 10) (hk : k < 100) (hC : pb_CF A h0 h) (nb : ∀ b, (∀ q, q < 7 → b ≠ 1000 + 100 * q + k) → (b < 110 ∨ 120 ≤ b ∧ b < 140 ∨ 150 ≤ b ∨ (b ≠ 110 + a ∧ b ≠ 140 + a)) → (b < 200 ∨ 200 + A 1 0 ≤ b) → b ≠ 100 + p → b ≠ 130 + p → h4 b = h b) (h60 : h4 60 = some (.inr (.inr (9, co A)))) (fp : ∀ q, q < 10 → h4 (100 + q) = some (.inr (.inr (6, cMx (130 + q) (pb_tot (sp_layA A p a n) q))))) (fr : ∀ q, q < 10 → cRow 12 (pb_pot (sp_layA A p a n) q) (h4 (130 + q))) (fa : ∀ a', a' < 10 → h4 (110 + a') = some (.inr (.inr (0, [.ref (140 + a'), .int (nI (pb_un (A 13) a (A 13 a + 1) a')), .int (nI (A 12 a'))])))) (fl : ∀ a', a' < 10 → h4 (140 + a') = some (.inr (.inl (3, 10, cTo (1000 + 10 * a') (pb_un (A 13) a (A 13 a + 1) a'))))) (ft : ∀ t, t < 12 → t < A 1 0 → h4 (200 + t) = cOb 8 (cTq A (fun t => if t < 12 then A 5 t + A 11 (12 * p + t) else A 5 t) (A 6) t)) (fo : ∀ a' i, a' < 10 → i < 10 → i < pb_un (A 13) a (A 13 a + 1) a' → h4 (1000 + (10 * a' + i)) = some (.inr (.inr (3, cLo (sp_layA A p a n) (10 * a' + i)))) ∧ h4 (1100 + (10 * a' + i)) = some (.inr (.inr (6, cMx (1600 + (10 * a' + i)) (pb_sum 12 (pb_ly (sp_layA A p a n) (10 * a' + i)))))) ∧ cRow 12 (pb_ly (sp_layA A p a n) (10 * a' + i)) (h4 (1600 + (10 * a' + i)))) (fc : ∀ a' i, a' < 10 → i < 10 → i < pb_un (A 13) a (A 13 a + 1) a' → cCache (sp_layA A p a n 14 (10 * a' + i)) (10 * a' + i) h4) (fn : ∀ a' i, a' < 10 → pb_un (A 13) a (A 13 a + 1) a' ≤ i → i < 10 → ∀ q, q < 7 → h4 (1000 + 100 * q + (10 * a' + i)) = none) : pb_CF (sp_layA A p a n) h0 h4 := by
  have nz : ∀ b, b < 1000 → (b < 110 ∨ 120 ≤ b ∧ b < 140 ∨ 150 ≤ b) → (b < 200 ∨ 200 + A 1 0 ≤ b) → b ≠ 100 + p → b ≠ 130 + p → h4 b = h b := fun b b1 b2 b3 b4 b5 => nb b (fun q hq => by omega) (by omega) b3 b4 b5
  clear nb
  exact pb_CF.mk (fun b hb => (nz b (by omega) (by omega) (by omega) (by omega) (by omega)).trans (hC.low b hb)) (fun x c e => (nz x (by have := cK_rng e; omega) (by have := cK_rng e; omega) (by have := cK_rng e; omega) (by have := cK_rng e; omega) (by have := cK_rng e; omega)).trans (hC.k x c e)) (fun x m e => by rw [nz x (by have := cS_rng e; omega) (by have := cS_rng e; omega) (by have := cS_rng e; omega) (by have := cS_rng e; omega) (by have := cS_rng e; omega)]; exact hC.s x m e) h60 ((nz 61 (by omega) (by omega) (by omega) (by omega) (by omega)).trans hC.pal) (by rw [nz 65 (by omega) (by omega) (by omega) (by omega) (by omega)]; exact hC.wan) (fun i hi => by rw [nz _ (by omega) (by omega) (by omega) (by omega) (by omega)]; exact hC.kpr i hi) ((nz 71 (by omega) (by omega) (by omega) (by omega) (by omega)).trans hC.tub) (fun i hi => by rw [nz _ (by omega) (by omega) (by omega) (by omega) (by omega)]; exact hC.lmr i hi) (fun i hi => by rw [nz _ (by omega) (by omega) (by omega) (by omega) (by omega)]; exact hC.sgr i hi) (by rw [nz 76 (by omega) (by omega) (by omega) (by omega) (by omega)]; exact hC.shw) fp fr fa fl ft (fun t h12 ht => by rw [nz _ (by omega) (by omega) (by omega) (by omega) (by omega)]; exact hC.tbd t h12 ht) (fun t h12 ht => by rw [nz _ (by omega) (by omega) (by omega) (by omega) (by omega)]; exact hC.tbs t h12 ht) (fun t ht ht2 => by have hz_ : A 1 0 ≤ t := ht; rw [nz _ (by omega) (by omega) (by omega) (by omega) (by omega), nz _ (by omega) (by omega) (by omega) (by omega) (by omega), nz _ (by omega) (by omega) (by omega) (by omega) (by omega)]; exact hC.tbn t ht ht2) fo fc fn (by rw [nz 68 (by omega) (by omega) (by omega) (by omega) (by omega)]; exact hC.mat) (by rw [nz 309 (by omega) (by omega) (by omega) (by omega) (by omega)]; exact hC.bst) (by rw [nz 69 (by omega) (by omega) (by omega) (by omega) (by omega), nz 411 (by omega) (by omega) (by omega) (by omega) (by omega), nz 413 (by omega) (by omega) (by omega) (by omega) (by omega)]; exact hC.cho) (by rw [nz 70 (by omega) (by omega) (by omega) (by omega) (by omega)]; exact hC.gla) (by rw [nz 500 (by omega) (by omega) (by omega) (by omega) (by omega)]; exact hC.glb) (fun x hx => by rw [nz x (by omega) (by omega) (by omega) (by omega) (by omega)]; exact hC.zer x hx)
section PB34
variable {Z : pb_Z} {h h0 : pb_H} {A : pb_A}
set_option maxRecDepth 10000 in
theorem t_leastHiding {a b d : Nat} (hab : a + b ≤ 250) (hd : d ≤ 10000) : pb_T Z mX7_leastHiding 1 0 0 [.int (nI a), .int (nI b), .int (nI d)] h (pb_PH a b d h) := by
  refine pb_T.of pnX7_leastHiding (Nat.le_of_ble_eq_true rfl) (lv := [some (.int (nI a)), some (.int (nI b)), some (.int (nI d)), none, none, none]) rfl ?_
  have loop : ∀ (m n : Nat), 201 - n < m → 1 ≤ n → n ≤ 201 → (∀ k, 1 ≤ k → k < n → ¬ pb_hd a b d k) → pb_S Z mX7_leastHiding 1 0 0 (pb_PH a b d h) 10 [some (.int (nI a)), some (.int (nI b)), some (.int (nI d)), some (.int (nI (pb_lay a b (n - 1) 0))), some (.int (nI (pb_lay a b (n - 1) 10000))), some (.int (nI n))] [] h := by
    intro m
    induction m with
    | zero => intro n g1; omega
    | succ m ih =>
      intro n g1 g2 g3 hno
      refine pb_iload (pc2 := 12) dX7_leastHiding_10 rfl rfl ?_
      refine pb_sipush (x := nI 200) (pc2 := 15) dX7_leastHiding_12 (by decide) rfl ?_
      refine pb_icmpN_gt (tgt := 51) (pc2 := 18) dX7_leastHiding_15 (by decide) rfl (by omega) (by omega) (fun q => ?_) (fun q => ?_)
      · have e : n = 201 := by omega
        subst e
        refine pb_sipush (x := nI 201) (pc2 := 54) dX7_leastHiding_51 (by decide) rfl ?_
        exact pb_ireturn dX7_leastHiding_54 rfl (⟨rfl, 201, rfl, by omega, by omega, fun k k1 k2 => ⟨fun z => absurd z (hno k k1 (by omega)), fun z => by omega⟩⟩)
      · have l1 := pb_lay_le hab (n - 1) 0 (by omega)
        have l2 := pb_lay_le hab (n - 1) 10000 (by omega)
        have s1 : pb_thin a b (pb_lay a b (n - 1) 0) = pb_lay a b n 0 := by rw [← pb_lay_succ, show n - 1 + 1 = n by omega]
        have s2 : pb_thin a b (pb_lay a b (n - 1) 10000) = pb_lay a b n 10000 := by rw [← pb_lay_succ, show n - 1 + 1 = n by omega]
        have l3 := pb_lay_le hab n 0 (by omega)
        have l4 := pb_lay_le hab n 10000 (by omega)
        obtain ⟨i1, -⟩ := pb_lay_mono hab n 0 10000 (by omega) (Nat.le_refl _)
        refine pb_iload_n (pc2 := 19) dX7_leastHiding_18 rfl rfl rfl ?_
        refine pb_iload_n (pc2 := 20) dX7_leastHiding_19 rfl rfl rfl ?_
        refine pb_iload_n (pc2 := 21) dX7_leastHiding_20 rfl rfl rfl ?_
        refine pb_callS (pc2 := 24) (k2 := 0) (n2 := 0) mwX7_thin swX7_thin rfl mlX7_19 dX7_leastHiding_21 (t_thin hab l1) (by omega) (by omega) (by omega) rfl rfl (Nat.le_of_ble_eq_true rfl) rfl (pb_kE ?_)
        refine pb_top (v2 := .int (nI (pb_lay a b n 0))) (by rw [s1]) ?_
        refine pb_istore_n (lv2 := [_, _, _, _, _, _]) (pc2 := 25) dX7_leastHiding_24 rfl (by decide) rfl rfl ?_
        refine pb_iload_n (pc2 := 26) dX7_leastHiding_25 rfl rfl rfl ?_
        refine pb_iload_n (pc2 := 27) dX7_leastHiding_26 rfl rfl rfl ?_
        refine pb_iload (pc2 := 29) dX7_leastHiding_27 rfl rfl ?_
        refine pb_callS (pc2 := 32) (k2 := 0) (n2 := 0) mwX7_thin swX7_thin rfl mlX7_19 dX7_leastHiding_29 (t_thin hab l2) (by omega) (by omega) (by omega) rfl rfl (Nat.le_of_ble_eq_true rfl) rfl (pb_kE ?_)
        refine pb_top (v2 := .int (nI (pb_lay a b n 10000))) (by rw [s2]) ?_
        refine pb_istore (lv2 := [_, _, _, _, _, _]) (pc2 := 34) dX7_leastHiding_32 (by decide) rfl rfl ?_
        refine pb_iload (pc2 := 36) dX7_leastHiding_34 rfl rfl ?_
        refine pb_iload_n (pc2 := 37) dX7_leastHiding_36 rfl rfl rfl ?_
        refine pb_isubN (pc2 := 38) dX7_leastHiding_37 (by omega) rfl ?_
        refine pb_iload_n (pc2 := 39) dX7_leastHiding_38 rfl rfl rfl ?_
        refine pb_icmpN_gt (tgt := 45) (pc2 := 42) dX7_leastHiding_39 (by decide) rfl (by omega) (by omega) (fun c => ?_) (fun c => ?_)
        · refine pb_iincP (c0 := 1) (lv2 := [_, _, _, _, _, _]) (pc2 := 48) dX7_leastHiding_45 rfl (by decide) rfl rfl ?_
          refine pb_goto (tgt := 10) dX7_leastHiding_48 (by decide) ?_
          refine ih (n + 1) (by omega) (by omega) (by omega) (fun k k1 k2 => ?_)
          by_cases e : k = n
          · rw [e]; unfold pb_hd; omega
          · exact hno k k1 (by omega)
        · refine pb_iload (pc2 := 44) dX7_leastHiding_42 rfl rfl ?_
          exact pb_ireturn dX7_leastHiding_44 rfl (⟨rfl, n, rfl, by omega, by omega, fun k k1 k2 => ⟨fun z => Nat.le_of_not_lt (fun y => hno k k1 y z), fun z => pb_hd_up hab c z⟩⟩)
  refine pb_iconst (x := nI 0) (pc2 := 1) dX7_leastHiding_0 (by decide) rfl ?_
  refine pb_istore_n (lv2 := [_, _, _, _, _, _]) (pc2 := 2) dX7_leastHiding_1 rfl (by decide) rfl rfl ?_
  refine pb_sipush (x := nI 10000) (pc2 := 5) dX7_leastHiding_2 (by decide) rfl ?_
  refine pb_istore (lv2 := [_, _, _, _, _, _]) (pc2 := 7) dX7_leastHiding_5 (by decide) rfl rfl ?_
  refine pb_iconst (x := nI 1) (pc2 := 8) dX7_leastHiding_7 (by decide) rfl ?_
  refine pb_istore (lv2 := [_, _, _, _, _, _]) (pc2 := 10) dX7_leastHiding_8 (by decide) rfl rfl ?_
  exact loop 201 1 (by omega) (by omega) (by omega) (fun k k1 k2 => by omega)
set_option maxRecDepth 10000 in
theorem c_hiding (w : pb_WF A) (hC : pb_CF A h h) (p d : Int32) : pb_T Z mX11_hiding 3 0 0 [.ref 60, .int p, .int d] h (pb_PC (sp_hiding A p d) h) := by
  refine pb_T.of pnX11_hiding (Nat.le_of_ble_eq_true rfl) (lv := [some (.ref 60), some (.int p), some (.int d), none, none, none, none, none]) rfl ?_
  first | refine pb_aload_n (pc2 := 1) dX11_hiding_0 rfl rfl rfl ?_ | refine pb_aload_nN (pc2 := 1) dX11_hiding_0 rfl rfl rfl ?_
  refine pb_iload_n (pc2 := 2) dX11_hiding_1 rfl rfl rfl ?_
  refine pb_callV (pc2 := 5) (k2 := 0) (n2 := 0) mwX11_potAt pb_cl9.1 iwX11_potAt seX11_potAt rfl mlX11_147 dX11_hiding_2 (by first | assumption | exact hR.a rfl | exact hR.o | exact hC.o | exact hC.pal | exact hC.tub | exact hC.k _ _ rfl | exact hC.pot _ (by omega) | exact hC.are _ (by omega) | exact hC.arl _ (by omega) | exact hC.tbo _ (by omega) (by omega)) (t_potAt hC p) (by omega) (by omega) (by omega) rfl rfl (Nat.le_of_ble_eq_true rfl) rfl (pb_kRef (fun p hp e => ?_) (fun q => ?_))
  · subst e
    first | refine pb_astore_n (lv2 := [_, _, _, _, _, _, _, _]) (pc2 := 6) dX11_hiding_5 rfl (by decide) rfl rfl ?_ | refine pb_astore_nN (lv2 := [_, _, _, _, _, _, _, _]) (pc2 := 6) dX11_hiding_5 rfl (by decide) rfl rfl ?_
    first | refine pb_aload_n (pc2 := 7) dX11_hiding_6 rfl rfl rfl ?_ | refine pb_aload_nN (pc2 := 7) dX11_hiding_6 rfl rfl rfl ?_
    refine pb_ifnull (pc2 := 10) dX11_hiding_7 rfl ?_
    refine pb_iload_n (pc2 := 11) dX11_hiding_10 rfl rfl rfl ?_
    refine pb_callS (pc2 := 14) (k2 := 0) (n2 := 0) mwX11_isShare swX11_isShare rfl mlX11_182 dX11_hiding_11 (t_isShare d) (by omega) (by omega) (by omega) rfl rfl (Nat.le_of_ble_eq_true rfl) rfl (pb_kB ?_ ?_)
    rotate_left
    · intro q1
      refine pb_ifF_ne (tgt := 19) (pc2 := 17) dX11_hiding_14 rfl rfl (by decide) ?_
      refine pb_iconst (x := -1) (pc2 := 18) dX11_hiding_17 (by decide) rfl ?_
      exact pb_ireturn dX11_hiding_18 rfl (pb_finC (if_neg (fun z => q1 z.2)) hC)
    intro q1
    refine pb_ifT_ne (tgt := 19) dX11_hiding_14 (by decide) (by decide) ?_
    have e0 : sp_hiding A (nI p) d = _ := if_pos ⟨pb_in_mk (by omega) (by omega) (by omega), q1⟩
    rw [e0]
    obtain ⟨d, -, hd, rfl⟩ := nI_rng (by omega) q1 (by omega)
    rw [pb_natN (by omega), pb_natN (by omega)]
    have t1 := w.tot hp
    first | refine pb_aload_n (pc2 := 20) dX11_hiding_19 rfl rfl rfl ?_ | refine pb_aload_nN (pc2 := 20) dX11_hiding_19 rfl rfl rfl ?_
    refine pb_getf (v := .int (nI (pb_tot A p))) (pc2 := 23) flX11_151_X6 rfl dX11_hiding_20 (by first | assumption | exact hR.a rfl | exact hR.o | exact hC.o | exact hC.pal | exact hC.tub | exact hC.k _ _ rfl | exact hC.pot _ (by omega) | exact hC.are _ (by omega) | exact hC.arl _ (by omega) | exact hC.tbo _ (by omega) (by omega)) rfl rfl ?_
    refine pb_ifN_ne (tgt := 29) (pc2 := 26) dX11_hiding_23 (by decide) rfl (by omega) (fun c1 => ?_) (fun c1 => ?_)
    · rw [if_neg c1]
      have hfo := pb_find_ok (pb_hq A (pb_pot A p) d) 200 1
      generalize pb_find (pb_hq A (pb_pot A p) d) 200 1 = r at hfo ⊢
      have heq : ∀ b n, pb_abs (pb_gp A (pb_pot A p) b n 0) (pb_gp A (pb_pot A p) b n 10000) ≤ d ↔ pb_hd (pb_ta (pb_dk A (pb_pot A p) b 0) (pb_sc A (pb_pot A p) b)) (pb_tb (pb_dk A (pb_pot A p) b 0) (pb_sc A (pb_pot A p) b)) d n := fun b n => by
        obtain ⟨i1, -⟩ := pb_lay_mono (pb_tab (pb_dk A (pb_pot A p) b 0) (pb_sc A (pb_pot A p) b)) n 0 10000 (by omega) (Nat.le_refl _)
        unfold pb_abs pb_gp pb_hd
        omega
      have fin : ∀ (i M : Nat) (o6 o7 : Option Value), i ≤ 8 → M ≤ 201 → 1 ≤ M → (i = 8 ∨ M = 201) → (∀ n, 1 ≤ n → n ≤ 200 → ((∀ b, b < i → pb_abs (pb_gp A (pb_pot A p) b n 0) (pb_gp A (pb_pot A p) b n 10000) ≤ d) ↔ M ≤ n)) → pb_S Z mX11_hiding 3 0 0 (pb_PC (if r = 0 then -2 else nI r, A) h) 106 [some (.ref 60), some (.int (nI p)), some (.int (nI d)), some (.ref (100 + p)), some (.int (nI M)), some (.int (nI i)), o6, o7] [] h := by
        intro i M o6 o7 hi hM hM1 hor hiff
        refine pb_iload (pc2 := 108) dX11_hiding_106 rfl rfl ?_
        refine pb_sipush (x := nI 200) (pc2 := 111) dX11_hiding_108 (by decide) rfl ?_
        refine pb_icmpN_le (tgt := 119) (pc2 := 114) dX11_hiding_111 (by decide) rfl (by omega) (by omega) (fun c => ?_) (fun c => ?_)
        · have e : r = M := by
            have e8 : i = 8 := by omega
            subst e8
            have hq : pb_hq A (pb_pot A p) d M := (hiff M hM1 c).mpr (Nat.le_refl _)
            rcases hfo with ⟨f1, f2, f3, f4⟩ | ⟨f1, f2⟩
            · rcases Nat.lt_trichotomy r M with y | y | y
              · exact absurd ((hiff r f1 (by omega)).mp f3) (by omega)
              · exact y
              · exact absurd hq (f4 M hM1 y)
            · exact absurd hq (f2 M hM1 (by omega))
          refine pb_iload (pc2 := 121) dX11_hiding_119 rfl rfl ?_
          exact pb_ireturn dX11_hiding_121 rfl (pb_finC (by rw [if_neg (by omega), e]) hC)
        · have e : r = 0 := by
            rcases hfo with ⟨f1, f2, f3, f4⟩ | ⟨f1, f2⟩
            · exact absurd ((hiff r f1 (by omega)).mp (fun b hb => f3 b (by omega))) (by omega)
            · exact f1
          refine pb_bipush (x := -2) (pc2 := 116) dX11_hiding_114 (by decide) rfl ?_
          refine pb_goto (tgt := 121) dX11_hiding_116 (by decide) ?_
          exact pb_ireturn dX11_hiding_121 rfl (pb_finC (by rw [if_pos e]) hC)
      have loop : ∀ (m i M : Nat) (o6 o7 : Option Value), 8 - i < m → i ≤ 8 → M ≤ 201 → 1 ≤ M → (∀ n, 1 ≤ n → n ≤ 200 → ((∀ b, b < i → pb_abs (pb_gp A (pb_pot A p) b n 0) (pb_gp A (pb_pot A p) b n 10000) ≤ d) ↔ M ≤ n)) → pb_S Z mX11_hiding 3 0 0 (pb_PC (if r = 0 then -2 else nI r, A) h) 35 [some (.ref 60), some (.int (nI p)), some (.int (nI d)), some (.ref (100 + p)), some (.int (nI M)), some (.int (nI i)), o6, o7] [] h := by
        intro m
        induction m with
        | zero => intro i M o6 o7 g1; omega
        | succ m ih =>
          intro i M o6 o7 g1 g2 g3 g4 hiff
          refine pb_iload (pc2 := 37) dX11_hiding_35 rfl rfl ?_
          refine pb_bipush (x := nI 8) (pc2 := 39) dX11_hiding_37 (by decide) rfl ?_
          refine pb_icmpN_ge (tgt := 106) (pc2 := 42) dX11_hiding_39 (by decide) rfl (by omega) (by omega) (fun q => ?_) (fun q => ?_)
          · exact fin i M o6 o7 g2 g3 g4 (by omega) hiff
          · refine pb_iload (pc2 := 44) dX11_hiding_42 rfl rfl ?_
            refine pb_sipush (x := nI 200) (pc2 := 47) dX11_hiding_44 (by decide) rfl ?_
            refine pb_icmpN_gt (tgt := 106) (pc2 := 50) dX11_hiding_47 (by decide) rfl (by omega) (by omega) (fun q3 => ?_) (fun q3 => ?_)
            · exact fin i M o6 o7 g2 g3 g4 (by omega) hiff
            · obtain ⟨r1, r2, r3, r4⟩ := w.potr hp q c1
              first | refine pb_aload_n (pc2 := 51) dX11_hiding_50 rfl rfl rfl ?_ | refine pb_aload_nN (pc2 := 51) dX11_hiding_50 rfl rfl rfl ?_
              first | refine pb_aload_n (pc2 := 52) dX11_hiding_51 rfl rfl rfl ?_ | refine pb_aload_nN (pc2 := 52) dX11_hiding_51 rfl rfl rfl ?_
              refine pb_getf (pc2 := 55) flX11_12_X11 rfl dX11_hiding_52 (by first | assumption | exact hR.a rfl | exact hR.o | exact hC.o | exact hC.pal | exact hC.tub | exact hC.k _ _ rfl | exact hC.pot _ (by omega) | exact hC.are _ (by omega) | exact hC.arl _ (by omega) | exact hC.tbo _ (by omega) (by omega)) rfl rfl ?_
              refine pb_iload (pc2 := 57) dX11_hiding_55 rfl rfl ?_
              refine pb_iconst (x := nI 0) (pc2 := 58) dX11_hiding_57 (by decide) rfl ?_
              refine pb_callV (pc2 := 61) (k2 := 0) (n2 := 0) mwX6_drink pb_cl6.1 iwX6_drink seX6_drink rfl mlX11_185 dX11_hiding_58 (by first | assumption | exact hR.a rfl | exact hR.o | exact hC.o | exact hC.pal | exact hC.tub | exact hC.k _ _ rfl | exact hC.pot _ (by omega) | exact hC.are _ (by omega) | exact hC.arl _ (by omega) | exact hC.tbo _ (by omega) (by omega)) (t_drink w hC (hC.pot p hp) (hC.ptr p hp) (fun j hj => w.pot hp hj) q (show 0 < 100 by omega)) (by omega) (by omega) (by omega) rfl rfl (Nat.le_of_ble_eq_true rfl) rfl (pb_kE ?_)
              refine pb_istore (lv2 := [_, _, _, _, _, _, _, _]) (pc2 := 63) dX11_hiding_61 (by decide) rfl rfl ?_
              first | refine pb_aload_n (pc2 := 64) dX11_hiding_63 rfl rfl rfl ?_ | refine pb_aload_nN (pc2 := 64) dX11_hiding_63 rfl rfl rfl ?_
              first | refine pb_aload_n (pc2 := 65) dX11_hiding_64 rfl rfl rfl ?_ | refine pb_aload_nN (pc2 := 65) dX11_hiding_64 rfl rfl rfl ?_
              refine pb_getf (pc2 := 68) flX11_12_X11 rfl dX11_hiding_65 (by first | assumption | exact hR.a rfl | exact hR.o | exact hC.o | exact hC.pal | exact hC.tub | exact hC.k _ _ rfl | exact hC.pot _ (by omega) | exact hC.are _ (by omega) | exact hC.arl _ (by omega) | exact hC.tbo _ (by omega) (by omega)) rfl rfl ?_
              refine pb_iload (pc2 := 70) dX11_hiding_68 rfl rfl ?_
              refine pb_callV (pc2 := 73) (k2 := 0) (n2 := 0) mwX6_scatter pb_cl6.1 iwX6_scatter seX6_scatter rfl mlX11_189 dX11_hiding_70 (by first | assumption | exact hR.a rfl | exact hR.o | exact hC.o | exact hC.pal | exact hC.tub | exact hC.k _ _ rfl | exact hC.pot _ (by omega) | exact hC.are _ (by omega) | exact hC.arl _ (by omega) | exact hC.tbo _ (by omega) (by omega)) (t_scatter w hC (hC.pot p hp) (hC.ptr p hp) (fun j hj => w.pot hp hj) q) (by omega) (by omega) (by omega) rfl rfl (Nat.le_of_ble_eq_true rfl) rfl (pb_kE ?_)
              refine pb_istore (lv2 := [_, _, _, _, _, _, _, _]) (pc2 := 75) dX11_hiding_73 (by decide) rfl rfl ?_
              refine pb_iload (pc2 := 77) dX11_hiding_75 rfl rfl ?_
              refine pb_iload (pc2 := 79) dX11_hiding_77 rfl rfl ?_
              refine pb_iload (pc2 := 81) dX11_hiding_79 rfl rfl ?_
              refine pb_callS (pc2 := 84) (k2 := 0) (n2 := 0) mwX7_thinTake swX7_thinTake rfl mlX11_192 dX11_hiding_81 (t_thinTake (by omega) (by omega)) (by omega) (by omega) (by omega) rfl rfl (Nat.le_of_ble_eq_true rfl) rfl (pb_kE ?_)
              refine pb_iload (pc2 := 86) dX11_hiding_84 rfl rfl ?_
              refine pb_iload (pc2 := 88) dX11_hiding_86 rfl rfl ?_
              refine pb_callS (pc2 := 91) (k2 := 0) (n2 := 0) mwX7_thinSend swX7_thinSend rfl mlX11_197 dX11_hiding_88 (t_thinSend (by omega) (by omega)) (by omega) (by omega) (by omega) rfl rfl (Nat.le_of_ble_eq_true rfl) rfl (pb_kE ?_)
              refine pb_iload_n (pc2 := 92) dX11_hiding_91 rfl rfl rfl ?_
              refine pb_callS (pc2 := 95) (k2 := 0) (n2 := 0) mwX7_leastHiding swX7_leastHiding rfl mlX11_204 dX11_hiding_92 (t_leastHiding (pb_tab _ _) hd) (by omega) (by omega) (by omega) rfl rfl (Nat.le_of_ble_eq_true rfl) rfl (fun v h' q4 _ => ?_)
              obtain ⟨rfl, rr, rfl, l1, l2, l3⟩ := q4
              refine pb_mmaxN (pc2 := 98) rfl mlX11_208 dX11_hiding_95 (by omega) (by omega) (by omega) (Nat.le_of_ble_eq_true rfl) rfl ?_
              refine pb_istore (lv2 := [_, _, _, _, _, _, _, _]) (pc2 := 100) dX11_hiding_98 (by decide) rfl rfl ?_
              refine pb_iincP (c0 := 1) (lv2 := [_, _, _, _, _, _, _, _]) (pc2 := 103) dX11_hiding_100 rfl (by decide) rfl rfl ?_
              refine pb_goto (tgt := 35) dX11_hiding_103 (by decide) ?_
              refine ih (i + 1) (max M rr) _ _ (by omega) (by omega) (by omega) (by omega) (fun n n1 n2 => ?_)
              rw [show max M rr ≤ n ↔ M ≤ n ∧ rr ≤ n by omega, ← hiff n n1 n2, ← l3 n n1 n2, ← heq i n]
              constructor
              · intro z
                exact ⟨fun b hb => z b (by omega), z i (by omega)⟩
              · intro z b hb
                by_cases e : b = i
                · rw [e]; exact z.2
                · exact z.1 b (by omega)
      refine pb_iconst (x := nI 1) (pc2 := 30) dX11_hiding_29 (by decide) rfl ?_
      refine pb_istore (lv2 := [_, _, _, _, _, _, _, _]) (pc2 := 32) dX11_hiding_30 (by decide) rfl rfl ?_
      refine pb_iconst (x := nI 0) (pc2 := 33) dX11_hiding_32 (by decide) rfl ?_
      refine pb_istore (lv2 := [_, _, _, _, _, _, _, _]) (pc2 := 35) dX11_hiding_33 (by decide) rfl rfl ?_
      exact loop 9 0 1 _ _ (by omega) (by omega) (by omega) (by omega) (fun n n1 n2 => ⟨fun _ => n1, fun _ b hb => by omega⟩)
    · rw [if_pos c1]
      refine pb_bipush (x := -2) (pc2 := 28) dX11_hiding_26 (by decide) rfl ?_
      exact pb_ireturn dX11_hiding_28 rfl (pb_finC rfl hC)
  · first | refine pb_astore_n (lv2 := [_, _, _, _, _, _, _, _]) (pc2 := 6) dX11_hiding_5 rfl (by decide) rfl rfl ?_ | refine pb_astore_nN (lv2 := [_, _, _, _, _, _, _, _]) (pc2 := 6) dX11_hiding_5 rfl (by decide) rfl rfl ?_
    first | refine pb_aload_n (pc2 := 7) dX11_hiding_6 rfl rfl rfl ?_ | refine pb_aload_nN (pc2 := 7) dX11_hiding_6 rfl rfl rfl ?_
    refine pb_ifnullN (tgt := 17) dX11_hiding_7 (by decide) ?_
    refine pb_iconst (x := -1) (pc2 := 18) dX11_hiding_17 (by decide) rfl ?_
    exact pb_ireturn dX11_hiding_18 rfl (pb_finC (if_neg (fun z => q z.1)) hC)
set_option maxRecDepth 10000 in
theorem t_tubeInit {c f n T : Nat} (ho : h (200 + T) = some (.inr (.inr (8, [.int (nI 0), .int (nI 0), .int (nI 0), .int (nI 0), .int (nI 0), .null, .null])))) (hd : h (220 + T) = none) (hs : h (240 + T) = none) (hT : T < 12) (hf : f ≤ 999) : pb_T Z mX10_init 1 2 808 [.ref (200 + T), .int (nI c), .int (nI f), .int (nI n)] h (fun v h' => v = none ∧ h' (200 + T) = some (.inr (.inr (8, [.int (nI c), .int (nI f), .int (nI n), .int (nI 0), .int (nI 0), .ref (220 + T), .ref (240 + T)]))) ∧ cRow 800 (fun j => pb_fade f 100 (j % 100)) (h' (220 + T)) ∧ cRow 8 (fun _ => 100) (h' (240 + T)) ∧ ∀ b, b ≠ 200 + T → b ≠ 220 + T → b ≠ 240 + T → h' b = h b) := by
  refine pb_T.of pnX10_init (Nat.le_of_ble_eq_true rfl) (lv := [some (.ref (200 + T)), some (.int (nI c)), some (.int (nI f)), some (.int (nI n)), none]) rfl ?_
  have loop : ∀ (m i : Nat) (D S : Nat → Nat) (h' : pb_H), 8 - i < m → i ≤ 8 → h' (200 + T) = some (.inr (.inr (8, [.int (nI c), .int (nI f), .int (nI n), .int (nI 0), .int (nI 0), .ref (220 + T), .ref (240 + T)]))) → h' (220 + T) = some (.inl (0, 800, fun j => nI (D j))) → h' (240 + T) = some (.inl (0, 8, fun j => nI (S j))) → (∀ j, j < 800 → j / 100 < i → D j = pb_fade f 100 (j % 100)) → (∀ j, j < i → S j = 100) → (∀ b, b ≠ 200 + T → b ≠ 220 + T → b ≠ 240 + T → h' b = h b) → pb_S Z mX10_init 1 0 0 (fun v h' => v = none ∧ h' (200 + T) = some (.inr (.inr (8, [.int (nI c), .int (nI f), .int (nI n), .int (nI 0), .int (nI 0), .ref (220 + T), .ref (240 + T)]))) ∧ cRow 800 (fun j => pb_fade f 100 (j % 100)) (h' (220 + T)) ∧ cRow 8 (fun _ => 100) (h' (240 + T)) ∧ ∀ b, b ≠ 200 + T → b ≠ 220 + T → b ≠ 240 + T → h' b = h b) 49 [some (.ref (200 + T)), some (.int (nI c)), some (.int (nI f)), some (.int (nI n)), some (.int (nI i))] [] h' := by
    intro m
    induction m with
    | zero => intro i D S h' g1; omega
    | succ m ih =>
      intro i D S h' g1 g2 ho hd hs hD hS nb
      refine pb_iload (pc2 := 51) dX10_init_49 rfl rfl ?_
      refine pb_bipush (x := nI 8) (pc2 := 53) dX10_init_51 (by decide) rfl ?_
      refine pb_icmpN_ge (tgt := 72) (pc2 := 56) dX10_init_53 (by decide) rfl (by omega) (by omega) (fun q => ?_) (fun q => ?_)
      · have e : i = 8 := by omega
        subst e
        exact pb_return dX10_init_72 rfl (⟨rfl, ho, ⟨D, hd, fun j hj => hD j hj (by omega)⟩, ⟨S, hs, hS⟩, nb⟩)
      · first | refine pb_aload_n (pc2 := 57) dX10_init_56 rfl rfl rfl ?_ | refine pb_aload_nN (pc2 := 57) dX10_init_56 rfl rfl rfl ?_
        refine pb_iload (pc2 := 59) dX10_init_57 rfl rfl ?_
        refine pb_bipush (x := nI 100) (pc2 := 61) dX10_init_59 (by decide) rfl ?_
        refine pb_bipush (x := nI 100) (pc2 := 63) dX10_init_61 (by decide) rfl ?_
        refine pb_callV (pc2 := 66) (k2 := 0) (n2 := 0) mwX10_paint pb_cl8.1 iwX10_paint seX10_paint rfl mlX10_34 dX10_init_63 (by first | assumption | exact hR.a rfl | exact hR.o | exact hC.o | exact hC.pal | exact hC.tub | exact hC.k _ _ rfl | exact hC.pot _ (by omega) | exact hC.are _ (by omega) | exact hC.arl _ (by omega) | exact hC.tbo _ (by omega) (by omega)) (t_paint ho hd hs (by omega) q (show 100 ≤ 999 by omega) hf) (by omega) (by omega) (by omega) rfl rfl (Nat.le_of_ble_eq_true rfl) rfl (fun v h2 q2 _ => ?_)
        obtain ⟨rfl, ⟨D2, hd2, hD2⟩, hs2, n2⟩ := q2
        refine pb_iincP (c0 := 1) (lv2 := [_, _, _, _, _]) (pc2 := 69) dX10_init_66 rfl (by decide) rfl rfl ?_
        refine pb_goto (tgt := 49) dX10_init_69 (by decide) ?_
        refine ih (i + 1) D2 _ h2 (by omega) (by omega) ((n2 _ (by omega) (by omega)).trans ho) hd2 hs2 (fun j hj hj2 => ?_) (fun j hj => ?_) (fun b b1 b2 b3 => (n2 b b2 b3).trans (nb b b1 b2 b3))
        · rw [hD2 j hj]
          by_cases e : j / 100 = i
          · rw [if_pos e]
          · rw [if_neg e]; exact hD j hj (by omega)
        · by_cases e : j = i
          · rw [e, pb_un_self]
          · rw [pb_un_ne _ _ e]; exact hS j (by omega)
  first | refine pb_aload_n (pc2 := 1) dX10_init_0 rfl rfl rfl ?_ | refine pb_aload_nN (pc2 := 1) dX10_init_0 rfl rfl rfl ?_
  refine pb_objI (pc2 := 4) rfl olX10 dX10_init_1 (by omega) (Nat.le_of_ble_eq_true rfl) rfl ?_
  first | refine pb_aload_n (pc2 := 5) dX10_init_4 rfl rfl rfl ?_ | refine pb_aload_nN (pc2 := 5) dX10_init_4 rfl rfl rfl ?_
  refine pb_iconst (x := nI 0) (pc2 := 6) dX10_init_5 (by decide) rfl ?_
  refine pb_putG (fs2 := [_, _, _, _, _, _, _]) (pc2 := 9) flX10_9_X10 rfl dX10_init_6 ho (by omega) rfl rfl rfl rfl rfl (fun h_ ho n1 => ?_)
  have hd := (n1 _ (by omega)).trans hd
  have hs := (n1 _ (by omega)).trans hs
  first | refine pb_aload_n (pc2 := 10) dX10_init_9 rfl rfl rfl ?_ | refine pb_aload_nN (pc2 := 10) dX10_init_9 rfl rfl rfl ?_
  refine pb_iconst (x := nI 0) (pc2 := 11) dX10_init_10 (by decide) rfl ?_
  refine pb_putG (fs2 := [_, _, _, _, _, _, _]) (pc2 := 14) flX10_15_X10 rfl dX10_init_11 ho (by omega) rfl rfl rfl rfl rfl (fun h_ ho n2 => ?_)
  have hd := (n2 _ (by omega)).trans hd
  have hs := (n2 _ (by omega)).trans hs
  first | refine pb_aload_n (pc2 := 15) dX10_init_14 rfl rfl rfl ?_ | refine pb_aload_nN (pc2 := 15) dX10_init_14 rfl rfl rfl ?_
  refine pb_sipush (x := nI 800) (pc2 := 18) dX10_init_15 (by decide) rfl ?_
  refine pb_newaG (220 + T) (k2 := 1) (n2 := 8) (pc2 := 20) dX10_init_18 ⟨by decide, rfl⟩ pb_aI (hd) (by omega) (by omega) (by omega) (by omega) rfl (fun h_ hd n3 => ?_)
  have ho := (n3 _ (by omega)).trans ho
  have hs := (n3 _ (by omega)).trans hs
  refine pb_putFG (fs2 := [_, _, _, _, _, _, _]) (pc2 := 23) flX10_18_X10 rfl dX10_init_20 ho (by omega) rfl rfl rfl rfl rfl rfl rfl (fun h_ ho n4 => ?_)
  have hd := (n4 _ (by omega)).trans hd
  have hs := (n4 _ (by omega)).trans hs
  first | refine pb_aload_n (pc2 := 24) dX10_init_23 rfl rfl rfl ?_ | refine pb_aload_nN (pc2 := 24) dX10_init_23 rfl rfl rfl ?_
  refine pb_bipush (x := nI 8) (pc2 := 26) dX10_init_24 (by decide) rfl ?_
  refine pb_newaG (240 + T) (k2 := 0) (n2 := 0) (pc2 := 28) dX10_init_26 ⟨by decide, rfl⟩ pb_aI (hs) (by omega) (by omega) (by omega) (by omega) rfl (fun h_ hs n5 => ?_)
  have ho := (n5 _ (by omega)).trans ho
  have hd := (n5 _ (by omega)).trans hd
  refine pb_putFG (fs2 := [_, _, _, _, _, _, _]) (pc2 := 31) flX10_22_X10 rfl dX10_init_28 ho (by omega) rfl rfl rfl rfl rfl rfl rfl (fun h_ ho n6 => ?_)
  have hd := (n6 _ (by omega)).trans hd
  have hs := (n6 _ (by omega)).trans hs
  first | refine pb_aload_n (pc2 := 32) dX10_init_31 rfl rfl rfl ?_ | refine pb_aload_nN (pc2 := 32) dX10_init_31 rfl rfl rfl ?_
  refine pb_iload_n (pc2 := 33) dX10_init_32 rfl rfl rfl ?_
  refine pb_putFG (fs2 := [_, _, _, _, _, _, _]) (pc2 := 36) flX10_25_X10 rfl dX10_init_33 ho (by omega) rfl rfl rfl rfl rfl rfl rfl (fun h_ ho n7 => ?_)
  have hd := (n7 _ (by omega)).trans hd
  have hs := (n7 _ (by omega)).trans hs
  first | refine pb_aload_n (pc2 := 37) dX10_init_36 rfl rfl rfl ?_ | refine pb_aload_nN (pc2 := 37) dX10_init_36 rfl rfl rfl ?_
  refine pb_iload_n (pc2 := 38) dX10_init_37 rfl rfl rfl ?_
  refine pb_putFG (fs2 := [_, _, _, _, _, _, _]) (pc2 := 41) flX10_28_X10 rfl dX10_init_38 ho (by omega) rfl rfl rfl rfl rfl rfl rfl (fun h_ ho n8 => ?_)
  have hd := (n8 _ (by omega)).trans hd
  have hs := (n8 _ (by omega)).trans hs
  first | refine pb_aload_n (pc2 := 42) dX10_init_41 rfl rfl rfl ?_ | refine pb_aload_nN (pc2 := 42) dX10_init_41 rfl rfl rfl ?_
  refine pb_iload_n (pc2 := 43) dX10_init_42 rfl rfl rfl ?_
  refine pb_putG (fs2 := [_, _, _, _, _, _, _]) (pc2 := 46) flX10_31_X10 rfl dX10_init_43 ho (by omega) rfl rfl rfl rfl rfl (fun h_ ho n9 => ?_)
  have hd := (n9 _ (by omega)).trans hd
  have hs := (n9 _ (by omega)).trans hs
  refine pb_iconst (x := nI 0) (pc2 := 47) dX10_init_46 (by decide) rfl ?_
  refine pb_istore (lv2 := [_, _, _, _, _]) (pc2 := 49) dX10_init_47 (by decide) rfl rfl ?_
  exact loop 9 0 (fun _ => 0) (fun _ => 0) _ (by omega) (by omega) ho hd hs (fun j hj hj2 => by omega) (fun j hj => by omega) (fun b b1 b2 b3 => ((n9 b (by omega)).trans ((n8 b (by omega)).trans ((n7 b (by omega)).trans ((n6 b (by omega)).trans ((n5 b (by omega)).trans ((n4 b (by omega)).trans ((n3 b (by omega)).trans ((n2 b (by omega)).trans (n1 b (by omega)))))))))))
theorem t_pfull2 {T : Nat} {v : Value} (h61 : h 61 = some (.inr (.inr (7, [v, .int (nI T)])))) (ht : T ≤ 12) : pb_T Z mX8_isFull 0 0 0 [.ref 61] h (pb_B (T = 12) h) := by
  refine pb_T.of pnX8_isFull (Nat.le_of_ble_eq_true rfl) (lv := [some (.ref 61)]) rfl ?_
  first | refine pb_aload_n (pc2 := 1) dX8_isFull_0 rfl rfl rfl ?_ | refine pb_aload_nN (pc2 := 1) dX8_isFull_0 rfl rfl rfl ?_
  refine pb_getf (pc2 := 4) flX8_17_X8 rfl dX8_isFull_1 (by first | assumption | exact hR.a rfl | exact hR.o | exact hC.o | exact hC.pal | exact hC.tub | exact hC.k _ _ rfl | exact hC.pot _ (by omega) | exact hC.are _ (by omega) | exact hC.arl _ (by omega) | exact hC.tbo _ (by omega) (by omega)) rfl rfl ?_
  refine pb_bipush (x := nI 12) (pc2 := 6) dX8_isFull_4 (by decide) rfl ?_
  refine pb_icmpN_lt (tgt := 13) (pc2 := 9) dX8_isFull_6 (by decide) rfl (by omega) (by omega) (fun q => ?_) (fun q => ?_)
  · refine pb_iconst (x := 0) (pc2 := 14) dX8_isFull_13 (by decide) rfl ?_
    exact pb_zreturn dX8_isFull_14 rfl (by first | exact Or.inl rfl | exact Or.inr rfl | assumption) (⟨Or.inr ⟨rfl, by omega⟩, rfl⟩)
  · refine pb_iconst (x := 1) (pc2 := 10) dX8_isFull_9 (by decide) rfl ?_
    refine pb_goto (tgt := 14) dX8_isFull_10 (by decide) ?_
    exact pb_zreturn dX8_isFull_14 rfl (by first | exact Or.inl rfl | exact Or.inr rfl | assumption) (⟨Or.inl ⟨rfl, by omega⟩, rfl⟩)
theorem t_padd {T : Nat} {fs : List Value} (h61 : h 61 = some (.inr (.inr (7, [.ref 71, .int (nI T)])))) (h71 : h 71 = some (.inr (.inl (0, 12, cTo 200 T)))) (ho : h (200 + T) = some (.inr (.inr (8, fs)))) (hT : T < 12) : pb_T Z mX8_add 1 0 0 [.ref 61, .ref (200 + T)] h (fun v h' => v = some (.int (nI T)) ∧ h' 61 = some (.inr (.inr (7, [.ref 71, .int (nI (T + 1))]))) ∧ h' 71 = some (.inr (.inl (0, 12, cTo 200 (T + 1)))) ∧ ∀ b, b ≠ 61 → b ≠ 71 → h' b = h b) := by
  have ef : (fun i => if i = T then some (200 + T) else cTo 200 T i) = cTo 200 (T + 1) := by
    funext i
    unfold cTo
    by_cases e : i = T
    · rw [if_pos e, if_pos (by omega), e]
    · rw [if_neg e]
      by_cases e2 : i < T
      · rw [if_pos e2, if_pos (by omega)]
      · rw [if_neg e2, if_neg (by omega)]
  refine pb_T.of pnX8_add (Nat.le_of_ble_eq_true rfl) (lv := [some (.ref 61), some (.ref (200 + T))]) rfl ?_
  first | refine pb_aload_n (pc2 := 1) dX8_add_0 rfl rfl rfl ?_ | refine pb_aload_nN (pc2 := 1) dX8_add_0 rfl rfl rfl ?_
  refine pb_callV (pc2 := 4) (k2 := 0) (n2 := 0) mwX8_isFull pb_cl7.1 iwX8_isFull seX8_isFull rfl mlX8_21 dX8_add_1 (by first | assumption | exact hR.a rfl | exact hR.o | exact hC.o | exact hC.pal | exact hC.tub | exact hC.k _ _ rfl | exact hC.pot _ (by omega) | exact hC.are _ (by omega) | exact hC.arl _ (by omega) | exact hC.tbo _ (by omega) (by omega)) (t_pfull2 h61 (by omega)) (by omega) (by omega) (by omega) rfl rfl (Nat.le_of_ble_eq_true rfl) rfl (pb_kB (fun q => ?_) (fun q => ?_))
  · omega
  · refine pb_ifT_eq (tgt := 10) dX8_add_4 (by decide) (rfl) ?_
    first | refine pb_aload_n (pc2 := 11) dX8_add_10 rfl rfl rfl ?_ | refine pb_aload_nN (pc2 := 11) dX8_add_10 rfl rfl rfl ?_
    refine pb_getf (pc2 := 14) flX8_11_X8 rfl dX8_add_11 (by first | assumption | exact hR.a rfl | exact hR.o | exact hC.o | exact hC.pal | exact hC.tub | exact hC.k _ _ rfl | exact hC.pot _ (by omega) | exact hC.are _ (by omega) | exact hC.arl _ (by omega) | exact hC.tbo _ (by omega) (by omega)) rfl rfl ?_
    first | refine pb_aload_n (pc2 := 15) dX8_add_14 rfl rfl rfl ?_ | refine pb_aload_nN (pc2 := 15) dX8_add_14 rfl rfl rfl ?_
    refine pb_getf (pc2 := 18) flX8_17_X8 rfl dX8_add_15 (by first | assumption | exact hR.a rfl | exact hR.o | exact hC.o | exact hC.pal | exact hC.tub | exact hC.k _ _ rfl | exact hC.pot _ (by omega) | exact hC.are _ (by omega) | exact hC.arl _ (by omega) | exact hC.tbo _ (by omega) (by omega)) rfl rfl ?_
    first | refine pb_aload_n (pc2 := 19) dX8_add_18 rfl rfl rfl ?_ | refine pb_aload_nN (pc2 := 19) dX8_add_18 rfl rfl rfl ?_
    refine pb_aastG (pc2 := 20) dX8_add_19 (by decide) pb_cl8.1 rfl h71 (by omega) ho (by omega) (by omega) rfl (fun h1 h71 n1 => ?_)
    rw [ef] at h71
    have h61 := (n1 _ (by omega)).trans h61
    first | refine pb_aload_n (pc2 := 21) dX8_add_20 rfl rfl rfl ?_ | refine pb_aload_nN (pc2 := 21) dX8_add_20 rfl rfl rfl ?_
    refine pb_dup (pc2 := 22) dX8_add_21 rfl rfl ?_
    refine pb_getf (pc2 := 25) flX8_17_X8 rfl dX8_add_22 (by first | assumption | exact hR.a rfl | exact hR.o | exact hC.o | exact hC.pal | exact hC.tub | exact hC.k _ _ rfl | exact hC.pot _ (by omega) | exact hC.are _ (by omega) | exact hC.arl _ (by omega) | exact hC.tbo _ (by omega) (by omega)) rfl rfl ?_
    refine pb_iconst (x := nI 1) (pc2 := 26) dX8_add_25 (by decide) rfl ?_
    refine pb_iaddN (pc2 := 27) dX8_add_26 rfl ?_
    refine pb_putG (fs2 := [_, _]) (pc2 := 30) flX8_17_X8 rfl dX8_add_27 h61 (by omega) rfl rfl rfl rfl rfl (fun h_ h61 n2 => ?_)
    have h71 := (n2 _ (by omega)).trans h71
    first | refine pb_aload_n (pc2 := 31) dX8_add_30 rfl rfl rfl ?_ | refine pb_aload_nN (pc2 := 31) dX8_add_30 rfl rfl rfl ?_
    refine pb_getf (pc2 := 34) flX8_17_X8 rfl dX8_add_31 (by first | assumption | exact hR.a rfl | exact hR.o | exact hC.o | exact hC.pal | exact hC.tub | exact hC.k _ _ rfl | exact hC.pot _ (by omega) | exact hC.are _ (by omega) | exact hC.arl _ (by omega) | exact hC.tbo _ (by omega) (by omega)) rfl rfl ?_
    refine pb_iconst (x := nI 1) (pc2 := 35) dX8_add_34 (by decide) rfl ?_
    refine pb_isubN (pc2 := 36) dX8_add_35 (by omega) rfl ?_
    exact pb_ireturn dX8_add_36 rfl (⟨rfl, h61, h71, fun b b1 b2 => ((n2 b (by omega)).trans (n1 b (by omega)))⟩)
set_option maxRecDepth 10000 in
theorem c_tube (w : pb_WF A) (hC : pb_CF A h h) (c f n : Int32) : pb_T Z mX11_tube 3 3 815 [.ref 60, .int c, .int f, .int n] h (pb_PC (sp_tube A c f n) h) := by
  have htt := w.tubes
  refine pb_T.of pnX11_tube (Nat.le_of_ble_eq_true rfl) (lv := [some (.ref 60), some (.int c), some (.int f), some (.int n)]) rfl ?_
  refine pb_iload_n (pc2 := 1) dX11_tube_0 rfl rfl rfl ?_
  refine pb_iconst (x := nI 0) (pc2 := 2) dX11_tube_1 (by decide) rfl ?_
  refine pb_sipush (x := nI 999) (pc2 := 5) dX11_tube_2 (by decide) rfl ?_
  refine pb_callS (pc2 := 8) (k2 := 3) (n2 := 815) mwX11_between swX11_between rfl mlX11_77 dX11_tube_5 (t_between c (nI 0) (nI 999)) (by omega) (by omega) (by omega) rfl rfl (Nat.le_of_ble_eq_true rfl) rfl (pb_kB ?_ ?_)
  rotate_left
  · intro q1
    refine pb_ifT_eq (tgt := 33) dX11_tube_8 (by decide) rfl ?_
    refine pb_iconst (x := -1) (pc2 := 34) dX11_tube_33 (by decide) rfl ?_
    exact pb_ireturn dX11_tube_34 rfl (pb_finC (if_neg (fun z => q1 z.1)) hC)
  intro q1
  refine pb_ifF_eq (tgt := 33) (pc2 := 11) dX11_tube_8 (by decide) rfl (by decide) ?_
  refine pb_iload_n (pc2 := 12) dX11_tube_11 rfl rfl rfl ?_
  refine pb_iconst (x := nI 0) (pc2 := 13) dX11_tube_12 (by decide) rfl ?_
  refine pb_sipush (x := nI 999) (pc2 := 16) dX11_tube_13 (by decide) rfl ?_
  refine pb_callS (pc2 := 19) (k2 := 3) (n2 := 815) mwX11_between swX11_between rfl mlX11_77 dX11_tube_16 (t_between f (nI 0) (nI 999)) (by omega) (by omega) (by omega) rfl rfl (Nat.le_of_ble_eq_true rfl) rfl (pb_kB ?_ ?_)
  rotate_left
  · intro q2
    refine pb_ifT_eq (tgt := 33) dX11_tube_19 (by decide) rfl ?_
    refine pb_iconst (x := -1) (pc2 := 34) dX11_tube_33 (by decide) rfl ?_
    exact pb_ireturn dX11_tube_34 rfl (pb_finC (if_neg (fun z => q2 z.2.1)) hC)
  intro q2
  refine pb_ifF_eq (tgt := 33) (pc2 := 22) dX11_tube_19 (by decide) rfl (by decide) ?_
  refine pb_iload_n (pc2 := 23) dX11_tube_22 rfl rfl rfl ?_
  refine pb_iconst (x := nI 0) (pc2 := 24) dX11_tube_23 (by decide) rfl ?_
  refine pb_sipush (x := nI 9999) (pc2 := 27) dX11_tube_24 (by decide) rfl ?_
  refine pb_callS (pc2 := 30) (k2 := 3) (n2 := 815) mwX11_between swX11_between rfl mlX11_77 dX11_tube_27 (t_between n (nI 0) (nI 9999)) (by omega) (by omega) (by omega) rfl rfl (Nat.le_of_ble_eq_true rfl) rfl (pb_kB ?_ ?_)
  rotate_left
  · intro q3
    refine pb_ifF_ne (tgt := 35) (pc2 := 33) dX11_tube_30 rfl rfl (by decide) ?_
    refine pb_iconst (x := -1) (pc2 := 34) dX11_tube_33 (by decide) rfl ?_
    exact pb_ireturn dX11_tube_34 rfl (pb_finC (if_neg (fun z => q3 z.2.2)) hC)
  intro q3
  refine pb_ifT_ne (tgt := 35) dX11_tube_30 (by decide) (by decide) ?_
  have e0 : sp_tube A c f n = _ := if_pos ⟨q1, q2, q3⟩
  rw [e0]
  obtain ⟨c, -, hc, rfl⟩ := nI_rng (by omega) q1 (by omega)
  obtain ⟨f, -, hf, rfl⟩ := nI_rng (by omega) q2 (by omega)
  obtain ⟨n, -, hn, rfl⟩ := nI_rng (by omega) q3 (by omega)
  rw [pb_natN (by omega), pb_natN (by omega), pb_natN (by omega)]
  first | refine pb_aload_n (pc2 := 36) dX11_tube_35 rfl rfl rfl ?_ | refine pb_aload_nN (pc2 := 36) dX11_tube_35 rfl rfl rfl ?_
  refine pb_getf (pc2 := 39) flX11_12_X11 rfl dX11_tube_36 (by first | assumption | exact hR.a rfl | exact hR.o | exact hC.o | exact hC.pal | exact hC.tub | exact hC.k _ _ rfl | exact hC.pot _ (by omega) | exact hC.are _ (by omega) | exact hC.arl _ (by omega) | exact hC.tbo _ (by omega) (by omega)) rfl rfl ?_
  refine pb_callV (pc2 := 42) (k2 := 3) (n2 := 815) mwX8_isFull pb_cl7.1 iwX8_isFull seX8_isFull rfl mlX11_81 dX11_tube_39 (by first | assumption | exact hR.a rfl | exact hR.o | exact hC.o | exact hC.pal | exact hC.tub | exact hC.k _ _ rfl | exact hC.pot _ (by omega) | exact hC.are _ (by omega) | exact hC.arl _ (by omega) | exact hC.tbo _ (by omega) (by omega)) (t_pfull hC htt) (by omega) (by omega) (by omega) rfl rfl (Nat.le_of_ble_eq_true rfl) rfl (pb_kB (fun c0 => ?_) (fun c0 => ?_))
  · rw [if_pos c0]
    refine pb_ifF_eq (tgt := 50) (pc2 := 45) dX11_tube_42 (by decide) rfl (by decide) ?_
    refine pb_bipush (x := -3) (pc2 := 47) dX11_tube_45 (by decide) rfl ?_
    refine pb_goto (tgt := 67) dX11_tube_47 (by decide) ?_
    exact pb_ireturn dX11_tube_67 rfl (pb_finC rfl hC)
  · rw [if_neg c0]
    refine pb_ifT_eq (tgt := 50) dX11_tube_42 (by decide) (rfl) ?_
    obtain ⟨z1, z2, z3⟩ := hC.tbn (A 1 0) (Nat.le_refl _) (by omega)
    have z5 := (w.none (Nat.le_refl (A 1 0)) (by omega)).1
    first | refine pb_aload_n (pc2 := 51) dX11_tube_50 rfl rfl rfl ?_ | refine pb_aload_nN (pc2 := 51) dX11_tube_50 rfl rfl rfl ?_
    refine pb_getf (pc2 := 54) flX11_12_X11 rfl dX11_tube_51 (by first | assumption | exact hR.a rfl | exact hR.o | exact hC.o | exact hC.pal | exact hC.tub | exact hC.k _ _ rfl | exact hC.pot _ (by omega) | exact hC.are _ (by omega) | exact hC.arl _ (by omega) | exact hC.tbo _ (by omega) (by omega)) rfl rfl ?_
    refine pb_newG (200 + A 1 0) (fs := [.int (nI 0), .int (nI 0), .int (nI 0), .int (nI 0), .int (nI 0), .null, .null]) (k2 := 2) (n2 := 808) (pc2 := 57) pb_cl8 rfl klX11_85 iaX10 iiX10 dX11_tube_54 (z1) (by omega) rfl rfl (by omega) (by omega) rfl (fun h_ ho n1 => ?_)
    have z2 := (n1 _ (by omega)).trans z2
    have z3 := (n1 _ (by omega)).trans z3
    refine pb_dup (pc2 := 58) dX11_tube_57 rfl rfl ?_
    refine pb_iload_n (pc2 := 59) dX11_tube_58 rfl rfl rfl ?_
    refine pb_iload_n (pc2 := 60) dX11_tube_59 rfl rfl rfl ?_
    refine pb_iload_n (pc2 := 61) dX11_tube_60 rfl rfl rfl ?_
    refine pb_callI (pc2 := 64) (k2 := 0) (n2 := 0) mwX10_init rfl rfl iwX10_init rfl mlX11_87 dX11_tube_61 (t_tubeInit ho z2 z3 (by omega) hf) (by omega) (by omega) (by omega) rfl rfl (Nat.le_of_ble_eq_true rfl) rfl (fun v h1 q _ => ?_)
    obtain ⟨rfl, ho, hd, hs, n2⟩ := q
    have h61 := (n2 _ (by omega) (by omega) (by omega)).trans ((n1 _ (by omega)).trans hC.pal)
    have h71 := (n2 _ (by omega) (by omega) (by omega)).trans ((n1 _ (by omega)).trans hC.tub)
    refine pb_callV (pc2 := 67) (k2 := 0) (n2 := 0) mwX8_add pb_cl7.1 iwX8_add seX8_add rfl mlX11_90 dX11_tube_64 (by first | assumption | exact hR.a rfl | exact hR.o | exact hC.o | exact hC.pal | exact hC.tub | exact hC.k _ _ rfl | exact hC.pot _ (by omega) | exact hC.are _ (by omega) | exact hC.arl _ (by omega) | exact hC.tbo _ (by omega) (by omega)) (t_padd h61 h71 ho (by omega)) (by omega) (by omega) (by omega) rfl rfl (Nat.le_of_ble_eq_true rfl) rfl (fun v h2 q _ => ?_)
    obtain ⟨rfl, h61, h71, n3⟩ := q
    have nb : ∀ b, b ≠ 200 + A 1 0 → b ≠ 220 + A 1 0 → b ≠ 240 + A 1 0 → b ≠ 61 → b ≠ 71 → h2 b = h b := fun b b1 b2 b3 b4 b5 => (n3 b b4 b5).trans ((n2 b b1 b2 b3).trans (n1 b b1))
    have ho := (n3 _ (by omega) (by omega)).trans ho
    have e220 := n3 (220 + A 1 0) (by omega) (by omega)
    have e240 := n3 (240 + A 1 0) (by omega) (by omega)
    rw [← e220] at hd
    rw [← e240] at hs
    have ft : ∀ t, t < 12 → t < A 1 0 + 1 → h2 (200 + t) = some (.inr (.inr (8, [.int (nI (pb_un (A 2) (A 1 0) c t)), .int (nI (pb_un (A 3) (A 1 0) f t)), .int (nI (pb_un (A 4) (A 1 0) n t)), .int (nI (A 5 t)), .int (nI (A 6 t)), .ref (220 + t), .ref (240 + t)]))) := fun t h12 ht => by
      by_cases e : t = A 1 0
      · rw [e, pb_un_self, pb_un_self, pb_un_self, show A 5 (A 1 0) = 0 by omega, show A 6 (A 1 0) = 0 by omega]
        exact ho
      · rw [pb_un_ne _ _ e, pb_un_ne _ _ e, pb_un_ne _ _ e, nb _ (by omega) (by omega) (by omega) (by omega) (by omega)]
        exact hC.tbo t h12 (by omega)
    have fd : ∀ t, t < 12 → t < A 1 0 + 1 → cRow 800 (fun j => pb_fade (pb_un (A 3) (A 1 0) f t) (if 8 * A 1 0 ≤ 8 * t + j / 100 ∧ 8 * t + j / 100 < 8 * A 1 0 + 8 then 100 else A 7 (8 * t + j / 100)) (j % 100)) (h2 (220 + t)) := fun t h12 ht => by
      by_cases e : t = A 1 0
      · rw [e]
        refine cRow_same hd (fun j hj => ?_)
        rw [pb_un_self, if_pos (by omega)]
      · rw [nb _ (by omega) (by omega) (by omega) (by omega) (by omega)]
        refine cRow_same (hC.tbd t h12 (by omega)) (fun j hj => ?_)
        rw [pb_un_ne _ _ e, if_neg (by omega)]
    have fs : ∀ t, t < 12 → t < A 1 0 + 1 → cRow 8 (fun j => if 8 * A 1 0 ≤ 8 * t + j ∧ 8 * t + j < 8 * A 1 0 + 8 then 100 else A 8 (8 * t + j)) (h2 (240 + t)) := fun t h12 ht => by
      by_cases e : t = A 1 0
      · rw [e]
        refine cRow_same hs (fun j hj => ?_)
        rw [if_pos (by omega)]
      · rw [nb _ (by omega) (by omega) (by omega) (by omega) (by omega)]
        refine cRow_same (hC.tbs t h12 (by omega)) (fun j hj => ?_)
        rw [if_neg (by omega)]
    have hC2 : pb_CF (sp_newTube A c f n) h h2 := k_tube (by omega) hC nb h61 h71 ft fd fs
    exact pb_ireturn dX11_tube_67 rfl (pb_finC rfl hC2)
theorem t_mixInit {m r : Nat} (ho : h m = some (.inr (.inr (6, [.null, .int (nI 0)])))) (hr : h r = none) (hne : m ≠ r ∧ 2 ≤ m ∧ 2 ≤ r) : pb_T Z mX6_init 1 1 12 [.ref m] h (fun v h' => v = none ∧ h' m = some (.inr (.inr (6, cMx r 0))) ∧ h' r = some (.inl (0, 12, fun _ => nI 0)) ∧ ∀ b, b ≠ m → b ≠ r → h' b = h b) := by
  obtain ⟨m1, m2, m3⟩ := hne
  refine pb_T.of pnX6_init (Nat.le_of_ble_eq_true rfl) (lv := [some (.ref m)]) rfl ?_
  first | refine pb_aload_n (pc2 := 1) dX6_init_0 rfl rfl rfl ?_ | refine pb_aload_nN (pc2 := 1) dX6_init_0 rfl rfl rfl ?_
  refine pb_objI (pc2 := 4) rfl olX6 dX6_init_1 (by omega) (Nat.le_of_ble_eq_true rfl) rfl ?_
  first | refine pb_aload_n (pc2 := 5) dX6_init_4 rfl rfl rfl ?_ | refine pb_aload_nN (pc2 := 5) dX6_init_4 rfl rfl rfl ?_
  refine pb_bipush (x := nI 12) (pc2 := 7) dX6_init_5 (by decide) rfl ?_
  refine pb_newaG (r) (k2 := 0) (n2 := 0) (pc2 := 9) dX6_init_7 ⟨by decide, rfl⟩ pb_aI (hr) (by omega) (by omega) (by omega) (by omega) rfl (fun h_ hr n1 => ?_)
  have ho := (n1 _ (by omega)).trans ho
  refine pb_putFG (fs2 := [_, _]) (pc2 := 12) flX6_9_X6 rfl dX6_init_9 ho (by omega) rfl rfl rfl rfl rfl rfl rfl (fun h_ ho n2 => ?_)
  have hr := (n2 _ (by omega)).trans hr
  first | refine pb_aload_n (pc2 := 13) dX6_init_12 rfl rfl rfl ?_ | refine pb_aload_nN (pc2 := 13) dX6_init_12 rfl rfl rfl ?_
  refine pb_iconst (x := nI 0) (pc2 := 14) dX6_init_13 (by decide) rfl ?_
  refine pb_putG (fs2 := [_, _]) (pc2 := 17) flX6_15_X6 rfl dX6_init_14 ho (by omega) rfl rfl rfl rfl rfl (fun h_ ho n3 => ?_)
  have hr := (n3 _ (by omega)).trans hr
  exact pb_return dX6_init_17 rfl (⟨rfl, ho, hr, fun b b1 b2 => ((n3 b (by omega)).trans ((n2 b (by omega)).trans (n1 b (by omega))))⟩)
set_option maxRecDepth 10000 in
theorem t_layInit {k p n z tot : Nat} {F : Nat → Nat} (hk : k < 100) (hp : p < 10) (hf : ∀ q, q < 7 → q ≠ 0 → h (1000 + 100 * q + k) = none) (ho : h (1000 + k) = some (.inr (.inr (3, [.null, .int (nI 0), .int (nI 0), .null, .null, .null, .null])))) (hm : h (100 + p) = some (.inr (.inr (6, cMx (130 + p) tot)))) (hr : h (130 + p) = some (.inl (0, 12, fun j => nI (F j)))) : pb_T Z mX3_init 2 6 46 [.ref (1000 + k), .ref (100 + p), .int (nI n), .int (nI z)] h (fun v h' => v = none ∧ h' (1000 + k) = some (.inr (.inr (3, [.ref (1100 + k), .int (nI n), .int (nI z), .ref (1200 + k), .ref (1300 + k), .ref (1400 + k), .ref (1500 + k)]))) ∧ h' (1100 + k) = some (.inr (.inr (6, cMx (1600 + k) (pb_sum 12 F)))) ∧ cRow 12 F (h' (1600 + k)) ∧ cRow 8 (fun _ => 0) (h' (1200 + k)) ∧ cRow 8 (fun _ => 0) (h' (1300 + k)) ∧ cRow 8 (fun _ => 4294967295) (h' (1400 + k)) ∧ cRow 8 (fun _ => 0) (h' (1500 + k)) ∧ ∀ b, (∀ q, q < 7 → b ≠ 1000 + 100 * q + k) → h' b = h b) := by
  have f1 := hf 1 (by omega) (by omega)
  have f2 := hf 2 (by omega) (by omega)
  have f3 := hf 3 (by omega) (by omega)
  have f4 := hf 4 (by omega) (by omega)
  have f5 := hf 5 (by omega) (by omega)
  have f6 := hf 6 (by omega) (by omega)
  simp only [Nat.reduceMul, Nat.reduceAdd] at f1 f2 f3 f4 f5 f6
  refine pb_T.of pnX3_init (Nat.le_of_ble_eq_true rfl) (lv := [some (.ref (1000 + k)), some (.ref (100 + p)), some (.int (nI n)), some (.int (nI z))]) rfl ?_
  first | refine pb_aload_n (pc2 := 1) dX3_init_0 rfl rfl rfl ?_ | refine pb_aload_nN (pc2 := 1) dX3_init_0 rfl rfl rfl ?_
  refine pb_objI (pc2 := 4) rfl olX3 dX3_init_1 (by omega) (Nat.le_of_ble_eq_true rfl) rfl ?_
  first | refine pb_aload_n (pc2 := 5) dX3_init_4 rfl rfl rfl ?_ | refine pb_aload_nN (pc2 := 5) dX3_init_4 rfl rfl rfl ?_
  refine pb_newG (1100 + k) (fs := [.null, .int (nI 0)]) (k2 := 5) (n2 := 44) (pc2 := 8) pb_cl6 rfl klX3_9 iaX6 iiX6 dX3_init_5 (f1) (by omega) rfl rfl (by omega) (by omega) rfl (fun h_ hx n1 => ?_)
  have ho := (n1 _ (by omega)).trans ho
  have hm := (n1 _ (by omega)).trans hm
  have hr := (n1 _ (by omega)).trans hr
  have f2 := (n1 _ (by omega)).trans f2
  have f3 := (n1 _ (by omega)).trans f3
  have f4 := (n1 _ (by omega)).trans f4
  have f5 := (n1 _ (by omega)).trans f5
  have f6 := (n1 _ (by omega)).trans f6
  refine pb_dup (pc2 := 9) dX3_init_8 rfl rfl ?_
  refine pb_callIN (pc2 := 12) (k2 := 4) (n2 := 32) mwX6_init rfl rfl iwX6_init rfl mnX3_11 dX3_init_9 (t_mixInit hx f6 (by omega)) (by omega) (by omega) (by omega) rfl rfl (Nat.le_of_ble_eq_true rfl) rfl (fun v h1 q _ => ?_)
  obtain ⟨rfl, hx, f6, n2⟩ := q
  have ho := (n2 _ (by omega) (by omega)).trans ho
  have hm := (n2 _ (by omega) (by omega)).trans hm
  have hr := (n2 _ (by omega) (by omega)).trans hr
  have f2 := (n2 _ (by omega) (by omega)).trans f2
  have f3 := (n2 _ (by omega) (by omega)).trans f3
  have f4 := (n2 _ (by omega) (by omega)).trans f4
  have f5 := (n2 _ (by omega) (by omega)).trans f5
  refine pb_putFG (fs2 := [_, _, _, _, _, _, _]) (pc2 := 15) flX3_12_X3 rfl dX3_init_12 ho (by omega) rfl rfl rfl rfl rfl rfl rfl (fun h_ ho n3 => ?_)
  have hm := (n3 _ (by omega)).trans hm
  have hr := (n3 _ (by omega)).trans hr
  have hx := (n3 _ (by omega)).trans hx
  have f2 := (n3 _ (by omega)).trans f2
  have f3 := (n3 _ (by omega)).trans f3
  have f4 := (n3 _ (by omega)).trans f4
  have f5 := (n3 _ (by omega)).trans f5
  have f6 := (n3 _ (by omega)).trans f6
  first | refine pb_aload_n (pc2 := 16) dX3_init_15 rfl rfl rfl ?_ | refine pb_aload_nN (pc2 := 16) dX3_init_15 rfl rfl rfl ?_
  refine pb_bipush (x := nI 8) (pc2 := 18) dX3_init_16 (by decide) rfl ?_
  refine pb_newaG (1200 + k) (k2 := 3) (n2 := 24) (pc2 := 20) dX3_init_18 ⟨by decide, rfl⟩ pb_aI (f2) (by omega) (by omega) (by omega) (by omega) rfl (fun h_ f2 n4 => ?_)
  have ho := (n4 _ (by omega)).trans ho
  have hm := (n4 _ (by omega)).trans hm
  have hr := (n4 _ (by omega)).trans hr
  have hx := (n4 _ (by omega)).trans hx
  have f3 := (n4 _ (by omega)).trans f3
  have f4 := (n4 _ (by omega)).trans f4
  have f5 := (n4 _ (by omega)).trans f5
  have f6 := (n4 _ (by omega)).trans f6
  refine pb_putFG (fs2 := [_, _, _, _, _, _, _]) (pc2 := 23) flX3_18_X3 rfl dX3_init_20 ho (by omega) rfl rfl rfl rfl rfl rfl rfl (fun h_ ho n5 => ?_)
  have hm := (n5 _ (by omega)).trans hm
  have hr := (n5 _ (by omega)).trans hr
  have hx := (n5 _ (by omega)).trans hx
  have f2 := (n5 _ (by omega)).trans f2
  have f3 := (n5 _ (by omega)).trans f3
  have f4 := (n5 _ (by omega)).trans f4
  have f5 := (n5 _ (by omega)).trans f5
  have f6 := (n5 _ (by omega)).trans f6
  first | refine pb_aload_n (pc2 := 24) dX3_init_23 rfl rfl rfl ?_ | refine pb_aload_nN (pc2 := 24) dX3_init_23 rfl rfl rfl ?_
  refine pb_bipush (x := nI 8) (pc2 := 26) dX3_init_24 (by decide) rfl ?_
  refine pb_newaG (1300 + k) (k2 := 2) (n2 := 16) (pc2 := 28) dX3_init_26 ⟨by decide, rfl⟩ pb_aI (f3) (by omega) (by omega) (by omega) (by omega) rfl (fun h_ f3 n6 => ?_)
  have ho := (n6 _ (by omega)).trans ho
  have hm := (n6 _ (by omega)).trans hm
  have hr := (n6 _ (by omega)).trans hr
  have hx := (n6 _ (by omega)).trans hx
  have f2 := (n6 _ (by omega)).trans f2
  have f4 := (n6 _ (by omega)).trans f4
  have f5 := (n6 _ (by omega)).trans f5
  have f6 := (n6 _ (by omega)).trans f6
  refine pb_putFG (fs2 := [_, _, _, _, _, _, _]) (pc2 := 31) flX3_22_X3 rfl dX3_init_28 ho (by omega) rfl rfl rfl rfl rfl rfl rfl (fun h_ ho n7 => ?_)
  have hm := (n7 _ (by omega)).trans hm
  have hr := (n7 _ (by omega)).trans hr
  have hx := (n7 _ (by omega)).trans hx
  have f2 := (n7 _ (by omega)).trans f2
  have f3 := (n7 _ (by omega)).trans f3
  have f4 := (n7 _ (by omega)).trans f4
  have f5 := (n7 _ (by omega)).trans f5
  have f6 := (n7 _ (by omega)).trans f6
  first | refine pb_aload_n (pc2 := 32) dX3_init_31 rfl rfl rfl ?_ | refine pb_aload_nN (pc2 := 32) dX3_init_31 rfl rfl rfl ?_
  refine pb_bipush (x := nI 8) (pc2 := 34) dX3_init_32 (by decide) rfl ?_
  refine pb_newaG (1400 + k) (k2 := 1) (n2 := 8) (pc2 := 36) dX3_init_34 ⟨by decide, rfl⟩ pb_aI (f4) (by omega) (by omega) (by omega) (by omega) rfl (fun h_ f4 n8 => ?_)
  have ho := (n8 _ (by omega)).trans ho
  have hm := (n8 _ (by omega)).trans hm
  have hr := (n8 _ (by omega)).trans hr
  have hx := (n8 _ (by omega)).trans hx
  have f2 := (n8 _ (by omega)).trans f2
  have f3 := (n8 _ (by omega)).trans f3
  have f5 := (n8 _ (by omega)).trans f5
  have f6 := (n8 _ (by omega)).trans f6
  refine pb_putFG (fs2 := [_, _, _, _, _, _, _]) (pc2 := 39) flX3_25_X3 rfl dX3_init_36 ho (by omega) rfl rfl rfl rfl rfl rfl rfl (fun h_ ho n9 => ?_)
  have hm := (n9 _ (by omega)).trans hm
  have hr := (n9 _ (by omega)).trans hr
  have hx := (n9 _ (by omega)).trans hx
  have f2 := (n9 _ (by omega)).trans f2
  have f3 := (n9 _ (by omega)).trans f3
  have f4 := (n9 _ (by omega)).trans f4
  have f5 := (n9 _ (by omega)).trans f5
  have f6 := (n9 _ (by omega)).trans f6
  first | refine pb_aload_n (pc2 := 40) dX3_init_39 rfl rfl rfl ?_ | refine pb_aload_nN (pc2 := 40) dX3_init_39 rfl rfl rfl ?_
  refine pb_bipush (x := nI 8) (pc2 := 42) dX3_init_40 (by decide) rfl ?_
  refine pb_newaG (1500 + k) (k2 := 0) (n2 := 0) (pc2 := 44) dX3_init_42 ⟨by decide, rfl⟩ pb_aI (f5) (by omega) (by omega) (by omega) (by omega) rfl (fun h_ f5 n10 => ?_)
  have ho := (n10 _ (by omega)).trans ho
  have hm := (n10 _ (by omega)).trans hm
  have hr := (n10 _ (by omega)).trans hr
  have hx := (n10 _ (by omega)).trans hx
  have f2 := (n10 _ (by omega)).trans f2
  have f3 := (n10 _ (by omega)).trans f3
  have f4 := (n10 _ (by omega)).trans f4
  have f6 := (n10 _ (by omega)).trans f6
  refine pb_putFG (fs2 := [_, _, _, _, _, _, _]) (pc2 := 47) flX3_28_X3 rfl dX3_init_44 ho (by omega) rfl rfl rfl rfl rfl rfl rfl (fun h_ ho n11 => ?_)
  have hm := (n11 _ (by omega)).trans hm
  have hr := (n11 _ (by omega)).trans hr
  have hx := (n11 _ (by omega)).trans hx
  have f2 := (n11 _ (by omega)).trans f2
  have f3 := (n11 _ (by omega)).trans f3
  have f4 := (n11 _ (by omega)).trans f4
  have f5 := (n11 _ (by omega)).trans f5
  have f6 := (n11 _ (by omega)).trans f6
  first | refine pb_aload_n (pc2 := 48) dX3_init_47 rfl rfl rfl ?_ | refine pb_aload_nN (pc2 := 48) dX3_init_47 rfl rfl rfl ?_
  refine pb_getf (pc2 := 51) flX3_12_X3 rfl dX3_init_48 (by first | assumption | exact hR.a rfl | exact hR.o | exact hC.o | exact hC.pal | exact hC.tub | exact hC.k _ _ rfl | exact hC.pot _ (by omega) | exact hC.are _ (by omega) | exact hC.arl _ (by omega) | exact hC.tbo _ (by omega) (by omega)) rfl rfl ?_
  first | refine pb_aload_n (pc2 := 52) dX3_init_51 rfl rfl rfl ?_ | refine pb_aload_nN (pc2 := 52) dX3_init_51 rfl rfl rfl ?_
  refine pb_callV (pc2 := 55) (k2 := 0) (n2 := 0) mwX6_addAll pb_cl6.1 iwX6_addAll seX6_addAll rfl mlX3_31 dX3_init_52 (by first | assumption | exact hR.a rfl | exact hR.o | exact hC.o | exact hC.pal | exact hC.tub | exact hC.k _ _ rfl | exact hC.pot _ (by omega) | exact hC.are _ (by omega) | exact hC.arl _ (by omega) | exact hC.tbo _ (by omega) (by omega)) (t_maddAll (F := fun _ => 0) hx f6 hm hr (by omega)) (by omega) (by omega) (by omega) rfl rfl (Nat.le_of_ble_eq_true rfl) rfl (fun v h2 q _ => ?_)
  obtain ⟨rfl, hx, f6, n12⟩ := q
  have ho := (n12 _ (by omega) (by omega)).trans ho
  have f2 := (n12 _ (by omega) (by omega)).trans f2
  have f3 := (n12 _ (by omega) (by omega)).trans f3
  have f4 := (n12 _ (by omega) (by omega)).trans f4
  have f5 := (n12 _ (by omega) (by omega)).trans f5
  obtain ⟨G, f6, hG⟩ := f6
  first | refine pb_aload_n (pc2 := 56) dX3_init_55 rfl rfl rfl ?_ | refine pb_aload_nN (pc2 := 56) dX3_init_55 rfl rfl rfl ?_
  refine pb_iload_n (pc2 := 57) dX3_init_56 rfl rfl rfl ?_
  refine pb_putFG (fs2 := [_, _, _, _, _, _, _]) (pc2 := 60) flX3_35_X3 rfl dX3_init_57 ho (by omega) rfl rfl rfl rfl rfl rfl rfl (fun h_ ho n13 => ?_)
  have hx := (n13 _ (by omega)).trans hx
  have f2 := (n13 _ (by omega)).trans f2
  have f3 := (n13 _ (by omega)).trans f3
  have f4 := (n13 _ (by omega)).trans f4
  have f5 := (n13 _ (by omega)).trans f5
  have f6 := (n13 _ (by omega)).trans f6
  first | refine pb_aload_n (pc2 := 61) dX3_init_60 rfl rfl rfl ?_ | refine pb_aload_nN (pc2 := 61) dX3_init_60 rfl rfl rfl ?_
  refine pb_iload_n (pc2 := 62) dX3_init_61 rfl rfl rfl ?_
  refine pb_putFG (fs2 := [_, _, _, _, _, _, _]) (pc2 := 65) flX3_39_X3 rfl dX3_init_62 ho (by omega) rfl rfl rfl rfl rfl rfl rfl (fun h_ ho n14 => ?_)
  have hx := (n14 _ (by omega)).trans hx
  have f2 := (n14 _ (by omega)).trans f2
  have f3 := (n14 _ (by omega)).trans f3
  have f4 := (n14 _ (by omega)).trans f4
  have f5 := (n14 _ (by omega)).trans f5
  have f6 := (n14 _ (by omega)).trans f6
  first | refine pb_aload_n (pc2 := 66) dX3_init_65 rfl rfl rfl ?_ | refine pb_aload_nN (pc2 := 66) dX3_init_65 rfl rfl rfl ?_
  refine pb_getf (pc2 := 69) flX3_25_X3 rfl dX3_init_66 (by first | assumption | exact hR.a rfl | exact hR.o | exact hC.o | exact hC.pal | exact hC.tub | exact hC.k _ _ rfl | exact hC.pot _ (by omega) | exact hC.are _ (by omega) | exact hC.arl _ (by omega) | exact hC.tbo _ (by omega) (by omega)) rfl rfl ?_
  refine pb_iconst (x := -1) (pc2 := 70) dX3_init_69 (by decide) rfl ?_
  refine pb_top (v2 := .int (nI 4294967295)) (by decide) ?_
  refine pb_callS (pc2 := 73) (k2 := 0) (n2 := 0) mwJ7_fill_53178 swJ7_fill_53178 rfl mlX3_42 dX3_init_70 (t_fill (c := 4294967295) (n := 8) ⟨fun _ => 0, f4⟩ (by omega) (by omega)) (by omega) (by omega) (by omega) rfl rfl (Nat.le_of_ble_eq_true rfl) rfl (pb_kW (fun h3 G4 f4 hG4 n15 => ?_))
  have ho := (n15 _ (by omega)).trans ho
  have hx := (n15 _ (by omega)).trans hx
  have f2 := (n15 _ (by omega)).trans f2
  have f3 := (n15 _ (by omega)).trans f3
  have f5 := (n15 _ (by omega)).trans f5
  have f6 := (n15 _ (by omega)).trans f6
  rw [Nat.zero_add] at hx
  have nb : ∀ b, (∀ q, q < 7 → b ≠ 1000 + 100 * q + k) → h3 b = h b := fun b hb => by
    have b0 := hb 0 (by omega)
    have b1 := hb 1 (by omega)
    have b2 := hb 2 (by omega)
    have b3 := hb 3 (by omega)
    have b4 := hb 4 (by omega)
    have b5 := hb 5 (by omega)
    have b6 := hb 6 (by omega)
    have e12 := n12 b (by omega) (by omega)
    have e2 := n2 b (by omega) (by omega)
    exact ((n15 b (by omega)).trans ((n14 b (by omega)).trans ((n13 b (by omega)).trans (e12.trans ((n11 b (by omega)).trans ((n10 b (by omega)).trans ((n9 b (by omega)).trans ((n8 b (by omega)).trans ((n7 b (by omega)).trans ((n6 b (by omega)).trans ((n5 b (by omega)).trans ((n4 b (by omega)).trans ((n3 b (by omega)).trans (e2.trans (n1 b (by omega)))))))))))))))) 
  exact pb_return dX3_init_73 rfl (⟨rfl, ho, hx, ⟨G, f6, fun j hj => (hG j hj).trans (Nat.zero_add _)⟩, ⟨fun _ => 0, f2, fun _ _ => rfl⟩, ⟨fun _ => 0, f3, fun _ _ => rfl⟩, ⟨G4, f4, hG4⟩, ⟨fun _ => 0, f5, fun _ _ => rfl⟩, nb⟩)
theorem t_afull {s g : Nat} {v : Value} {a : Nat} (ha : h a = some (.inr (.inr (0, [v, .int (nI s), .int (nI g)])))) (hs : s ≤ 10) : pb_T Z mX0_isFull 0 0 0 [.ref a] h (pb_B (s = 10) h) := by
  refine pb_T.of pnX0_isFull (Nat.le_of_ble_eq_true rfl) (lv := [some (.ref a)]) rfl ?_
  first | refine pb_aload_n (pc2 := 1) dX0_isFull_0 rfl rfl rfl ?_ | refine pb_aload_nN (pc2 := 1) dX0_isFull_0 rfl rfl rfl ?_
  refine pb_getf (pc2 := 4) flX0_17_X0 rfl dX0_isFull_1 (by first | assumption | exact hR.a rfl | exact hR.o | exact hC.o | exact hC.pal | exact hC.tub | exact hC.k _ _ rfl | exact hC.pot _ (by omega) | exact hC.are _ (by omega) | exact hC.arl _ (by omega) | exact hC.tbo _ (by omega) (by omega)) rfl rfl ?_
  refine pb_bipush (x := nI 10) (pc2 := 6) dX0_isFull_4 (by decide) rfl ?_
  refine pb_icmpN_lt (tgt := 13) (pc2 := 9) dX0_isFull_6 (by decide) rfl (by omega) (by omega) (fun q => ?_) (fun q => ?_)
  · refine pb_iconst (x := 0) (pc2 := 14) dX0_isFull_13 (by decide) rfl ?_
    exact pb_zreturn dX0_isFull_14 rfl (by first | exact Or.inl rfl | exact Or.inr rfl | assumption) (⟨Or.inr ⟨rfl, by omega⟩, rfl⟩)
  · refine pb_iconst (x := 1) (pc2 := 10) dX0_isFull_9 (by decide) rfl ?_
    refine pb_goto (tgt := 14) dX0_isFull_10 (by decide) ?_
    exact pb_zreturn dX0_isFull_14 rfl (by first | exact Or.inl rfl | exact Or.inr rfl | assumption) (⟨Or.inl ⟨rfl, by omega⟩, rfl⟩)
theorem t_aadd {a s g : Nat} {fs : List Value} (ha10 : a < 10) (ha : h (110 + a) = some (.inr (.inr (0, [.ref (140 + a), .int (nI s), .int (nI g)])))) (hl : h (140 + a) = some (.inr (.inl (3, 10, cTo (1000 + 10 * a) s)))) (ho : h (1000 + (10 * a + s)) = some (.inr (.inr (3, fs)))) (hs : s < 10) : pb_T Z mX0_add 1 0 0 [.ref (110 + a), .ref (1000 + (10 * a + s))] h (fun v h' => v = none ∧ h' (110 + a) = some (.inr (.inr (0, [.ref (140 + a), .int (nI (s + 1)), .int (nI g)]))) ∧ h' (140 + a) = some (.inr (.inl (3, 10, cTo (1000 + 10 * a) (s + 1)))) ∧ ∀ b, b ≠ 110 + a → b ≠ 140 + a → h' b = h b) := by
  have ef : (fun i => if i = s then some (1000 + (10 * a + s)) else cTo (1000 + 10 * a) s i) = cTo (1000 + 10 * a) (s + 1) := by
    funext i
    unfold cTo
    by_cases e : i = s
    · rw [if_pos e, if_pos (by omega), e, Nat.add_assoc]
    · rw [if_neg e]
      by_cases e2 : i < s
      · rw [if_pos e2, if_pos (by omega)]
      · rw [if_neg e2, if_neg (by omega)]
  refine pb_T.of pnX0_add (Nat.le_of_ble_eq_true rfl) (lv := [some (.ref (110 + a)), some (.ref (1000 + (10 * a + s)))]) rfl ?_
  first | refine pb_aload_n (pc2 := 1) dX0_add_0 rfl rfl rfl ?_ | refine pb_aload_nN (pc2 := 1) dX0_add_0 rfl rfl rfl ?_
  refine pb_callV (pc2 := 4) (k2 := 0) (n2 := 0) mwX0_isFull pb_cl0.1 iwX0_isFull seX0_isFull rfl mlX0_24 dX0_add_1 (by first | assumption | exact hR.a rfl | exact hR.o | exact hC.o | exact hC.pal | exact hC.tub | exact hC.k _ _ rfl | exact hC.pot _ (by omega) | exact hC.are _ (by omega) | exact hC.arl _ (by omega) | exact hC.tbo _ (by omega) (by omega)) (t_afull ha (by omega)) (by omega) (by omega) (by omega) rfl rfl (Nat.le_of_ble_eq_true rfl) rfl (pb_kB (fun q => ?_) (fun q => ?_))
  · omega
  · refine pb_ifF_ne (tgt := 27) (pc2 := 7) dX0_add_4 (rfl) rfl (by decide) ?_
    first | refine pb_aload_n (pc2 := 8) dX0_add_7 rfl rfl rfl ?_ | refine pb_aload_nN (pc2 := 8) dX0_add_7 rfl rfl rfl ?_
    refine pb_getf (pc2 := 11) flX0_11_X0 rfl dX0_add_8 (by first | assumption | exact hR.a rfl | exact hR.o | exact hC.o | exact hC.pal | exact hC.tub | exact hC.k _ _ rfl | exact hC.pot _ (by omega) | exact hC.are _ (by omega) | exact hC.arl _ (by omega) | exact hC.tbo _ (by omega) (by omega)) rfl rfl ?_
    first | refine pb_aload_n (pc2 := 12) dX0_add_11 rfl rfl rfl ?_ | refine pb_aload_nN (pc2 := 12) dX0_add_11 rfl rfl rfl ?_
    refine pb_getf (pc2 := 15) flX0_17_X0 rfl dX0_add_12 (by first | assumption | exact hR.a rfl | exact hR.o | exact hC.o | exact hC.pal | exact hC.tub | exact hC.k _ _ rfl | exact hC.pot _ (by omega) | exact hC.are _ (by omega) | exact hC.arl _ (by omega) | exact hC.tbo _ (by omega) (by omega)) rfl rfl ?_
    first | refine pb_aload_n (pc2 := 16) dX0_add_15 rfl rfl rfl ?_ | refine pb_aload_nN (pc2 := 16) dX0_add_15 rfl rfl rfl ?_
    refine pb_aastG (pc2 := 17) dX0_add_16 (by decide) pb_cl3.1 rfl hl (by omega) ho (by omega) (by omega) rfl (fun h1 hl n1 => ?_)
    rw [ef] at hl
    have ha := (n1 _ (by omega)).trans ha
    first | refine pb_aload_n (pc2 := 18) dX0_add_17 rfl rfl rfl ?_ | refine pb_aload_nN (pc2 := 18) dX0_add_17 rfl rfl rfl ?_
    refine pb_dup (pc2 := 19) dX0_add_18 rfl rfl ?_
    refine pb_getf (pc2 := 22) flX0_17_X0 rfl dX0_add_19 (by first | assumption | exact hR.a rfl | exact hR.o | exact hC.o | exact hC.pal | exact hC.tub | exact hC.k _ _ rfl | exact hC.pot _ (by omega) | exact hC.are _ (by omega) | exact hC.arl _ (by omega) | exact hC.tbo _ (by omega) (by omega)) rfl rfl ?_
    refine pb_iconst (x := nI 1) (pc2 := 23) dX0_add_22 (by decide) rfl ?_
    refine pb_iaddN (pc2 := 24) dX0_add_23 rfl ?_
    refine pb_putG (fs2 := [_, _, _]) (pc2 := 27) flX0_17_X0 rfl dX0_add_24 ha (by omega) rfl rfl rfl rfl rfl (fun h_ ha n2 => ?_)
    have hl := (n2 _ (by omega)).trans hl
    exact pb_return dX0_add_27 rfl (⟨rfl, ha, hl, fun b b1 b2 => ((n2 b (by omega)).trans (n1 b (by omega)))⟩)
set_option maxRecDepth 10000 in
theorem c_lay (w : pb_WF A) (hC : pb_CF A h h) (p a n : Int32) : pb_T Z mX11_lay 3 7 53 [.ref 60, .int p, .int a, .int n] h (pb_PC (sp_lay A p a n) h) := by
  have htt := w.tubes
  refine pb_T.of pnX11_lay (Nat.le_of_ble_eq_true rfl) (lv := [some (.ref 60), some (.int p), some (.int a), some (.int n), none, none]) rfl ?_
  first | refine pb_aload_n (pc2 := 1) dX11_lay_0 rfl rfl rfl ?_ | refine pb_aload_nN (pc2 := 1) dX11_lay_0 rfl rfl rfl ?_
  refine pb_iload_n (pc2 := 2) dX11_lay_1 rfl rfl rfl ?_
  refine pb_callV (pc2 := 5) (k2 := 7) (n2 := 53) mwX11_potAt pb_cl9.1 iwX11_potAt seX11_potAt rfl mlX11_147 dX11_lay_2 (by first | assumption | exact hR.a rfl | exact hR.o | exact hC.o | exact hC.pal | exact hC.tub | exact hC.k _ _ rfl | exact hC.pot _ (by omega) | exact hC.are _ (by omega) | exact hC.arl _ (by omega) | exact hC.tbo _ (by omega) (by omega)) (t_potAt hC p) (by omega) (by omega) (by omega) rfl rfl (Nat.le_of_ble_eq_true rfl) rfl (pb_kRef (fun p hp e => ?_) (fun q => ?_))
  · subst e
    first | refine pb_astore (lv2 := [_, _, _, _, _, _]) (pc2 := 7) dX11_lay_5 (by decide) rfl rfl ?_ | refine pb_astoreN (lv2 := [_, _, _, _, _, _]) (pc2 := 7) dX11_lay_5 (by decide) rfl rfl ?_
    first | refine pb_aload_n (pc2 := 8) dX11_lay_7 rfl rfl rfl ?_ | refine pb_aload_nN (pc2 := 8) dX11_lay_7 rfl rfl rfl ?_
    refine pb_iload_n (pc2 := 9) dX11_lay_8 rfl rfl rfl ?_
    refine pb_callV (pc2 := 12) (k2 := 7) (n2 := 53) mwX11_areaAt pb_cl9.1 iwX11_areaAt seX11_areaAt rfl mlX11_213 dX11_lay_9 (by first | assumption | exact hR.a rfl | exact hR.o | exact hC.o | exact hC.pal | exact hC.tub | exact hC.k _ _ rfl | exact hC.pot _ (by omega) | exact hC.are _ (by omega) | exact hC.arl _ (by omega) | exact hC.tbo _ (by omega) (by omega)) (t_areaAt hC a) (by omega) (by omega) (by omega) rfl rfl (Nat.le_of_ble_eq_true rfl) rfl (pb_kRef (fun a ha e => ?_) (fun q => ?_))
    · subst e
      first | refine pb_astore (lv2 := [_, _, _, _, _, _]) (pc2 := 14) dX11_lay_12 (by decide) rfl rfl ?_ | refine pb_astoreN (lv2 := [_, _, _, _, _, _]) (pc2 := 14) dX11_lay_12 (by decide) rfl rfl ?_
      first | refine pb_aload (pc2 := 16) dX11_lay_14 rfl rfl ?_ | refine pb_aloadN (pc2 := 16) dX11_lay_14 rfl rfl ?_
      refine pb_ifnull (pc2 := 19) dX11_lay_16 rfl ?_
      first | refine pb_aload (pc2 := 21) dX11_lay_19 rfl rfl ?_ | refine pb_aloadN (pc2 := 21) dX11_lay_19 rfl rfl ?_
      refine pb_ifnull (pc2 := 24) dX11_lay_21 rfl ?_
      refine pb_iload_n (pc2 := 25) dX11_lay_24 rfl rfl rfl ?_
      refine pb_iconst (x := nI 1) (pc2 := 26) dX11_lay_25 (by decide) rfl ?_
      refine pb_sipush (x := nI 200) (pc2 := 29) dX11_lay_26 (by decide) rfl ?_
      refine pb_callS (pc2 := 32) (k2 := 7) (n2 := 53) mwX11_between swX11_between rfl mlX11_77 dX11_lay_29 (t_between n (nI 1) (nI 200)) (by omega) (by omega) (by omega) rfl rfl (Nat.le_of_ble_eq_true rfl) rfl (pb_kB ?_ ?_)
      rotate_left
      · intro q1
        refine pb_ifF_ne (tgt := 37) (pc2 := 35) dX11_lay_32 rfl rfl (by decide) ?_
        refine pb_iconst (x := -1) (pc2 := 36) dX11_lay_35 (by decide) rfl ?_
        exact pb_ireturn dX11_lay_36 rfl (pb_finC (if_neg (fun z => q1 z.2.2)) hC)
      intro q1
      refine pb_ifT_ne (tgt := 37) dX11_lay_32 (by decide) (by decide) ?_
      have e0 : sp_lay A (nI p) (nI a) n = _ := if_pos ⟨pb_in_mk (by omega) (by omega) (by omega), pb_in_mk (by omega) (by omega) (by omega), q1⟩
      rw [e0]
      obtain ⟨n, hn1, hn, rfl⟩ := nI_rng (by omega) q1 (by omega)
      rw [pb_natN (by omega), pb_natN (by omega), pb_natN (by omega)]
      have t1 := w.tot hp
      have h13 := (w.area ha).2
      first | refine pb_aload (pc2 := 39) dX11_lay_37 rfl rfl ?_ | refine pb_aloadN (pc2 := 39) dX11_lay_37 rfl rfl ?_
      refine pb_getf (v := .int (nI (pb_tot A p))) (pc2 := 42) flX11_151_X6 rfl dX11_lay_39 (by first | assumption | exact hR.a rfl | exact hR.o | exact hC.o | exact hC.pal | exact hC.tub | exact hC.k _ _ rfl | exact hC.pot _ (by omega) | exact hC.are _ (by omega) | exact hC.arl _ (by omega) | exact hC.tbo _ (by omega) (by omega)) rfl rfl ?_
      refine pb_ifN_ne (tgt := 48) (pc2 := 45) dX11_lay_42 (by decide) rfl (by omega) (fun c1 => ?_) (fun c1 => ?_)
      · rw [if_neg c1]
        first | refine pb_aload (pc2 := 50) dX11_lay_48 rfl rfl ?_ | refine pb_aloadN (pc2 := 50) dX11_lay_48 rfl rfl ?_
        refine pb_callV (pc2 := 53) (k2 := 7) (n2 := 53) mwX0_isFull pb_cl0.1 iwX0_isFull seX0_isFull rfl mlX11_223 dX11_lay_50 (by first | assumption | exact hR.a rfl | exact hR.o | exact hC.o | exact hC.pal | exact hC.tub | exact hC.k _ _ rfl | exact hC.pot _ (by omega) | exact hC.are _ (by omega) | exact hC.arl _ (by omega) | exact hC.tbo _ (by omega) (by omega)) (t_afull (hC.are a ha) h13) (by omega) (by omega) (by omega) rfl rfl (Nat.le_of_ble_eq_true rfl) rfl (pb_kB (fun c2 => ?_) (fun c2 => ?_))
        · rw [if_pos c2]
          refine pb_ifF_eq (tgt := 59) (pc2 := 56) dX11_lay_53 (by decide) rfl (by decide) ?_
          refine pb_bipush (x := -3) (pc2 := 58) dX11_lay_56 (by decide) rfl ?_
          exact pb_ireturn dX11_lay_58 rfl (pb_finC rfl hC)
        · rw [if_neg c2]
          refine pb_ifT_eq (tgt := 59) dX11_lay_53 (by decide) (rfl) ?_
          have hfree := hC.lyn a (A 13 a) ha (Nat.le_refl _) (by omega)
          generalize hk : 10 * a + A 13 a = k at hfree
          have f0 := hfree 0 (by omega)
          simp only [Nat.reduceMul, Nat.reduceAdd] at f0
          obtain ⟨F, hr, hF⟩ := hC.ptr p hp
          have hmp := hC.pot p hp
          have h60 := hC.o
          first | refine pb_aload (pc2 := 61) dX11_lay_59 rfl rfl ?_ | refine pb_aloadN (pc2 := 61) dX11_lay_59 rfl rfl ?_
          refine pb_newG (1000 + k) (fs := [.null, .int (nI 0), .int (nI 0), .null, .null, .null, .null]) (k2 := 6) (n2 := 46) (pc2 := 64) pb_cl3 rfl klX11_224 iaX3 iiX3 dX11_lay_61 (f0) (by omega) rfl rfl (by omega) (by omega) rfl (fun h_ ho n1 => ?_)
          have hr := (n1 _ (by omega)).trans hr
          have hmp := (n1 _ (by omega)).trans hmp
          have h60 := (n1 _ (by omega)).trans h60
          refine pb_dup (pc2 := 65) dX11_lay_64 rfl rfl ?_
          first | refine pb_aload (pc2 := 67) dX11_lay_65 rfl rfl ?_ | refine pb_aloadN (pc2 := 67) dX11_lay_65 rfl rfl ?_
          refine pb_iload_n (pc2 := 68) dX11_lay_67 rfl rfl rfl ?_
          first | refine pb_aload_n (pc2 := 69) dX11_lay_68 rfl rfl rfl ?_ | refine pb_aload_nN (pc2 := 69) dX11_lay_68 rfl rfl rfl ?_
          refine pb_getf (pc2 := 72) flX11_72_X11 rfl dX11_lay_69 (by first | assumption | exact hR.a rfl | exact hR.o | exact hC.o | exact hC.pal | exact hC.tub | exact hC.k _ _ rfl | exact hC.pot _ (by omega) | exact hC.are _ (by omega) | exact hC.arl _ (by omega) | exact hC.tbo _ (by omega) (by omega)) rfl rfl ?_
          refine pb_callI (pc2 := 75) (k2 := 0) (n2 := 0) mwX3_init rfl rfl iwX3_init rfl mlX11_226 dX11_lay_72 (t_layInit (k := k) (by omega) hp (fun q q1 q2 => (n1 _ (by omega)).trans (hfree q q1)) ho hmp hr) (by omega) (by omega) (by omega) rfl rfl (Nat.le_of_ble_eq_true rfl) rfl (fun v h1 q _ => ?_)
          obtain ⟨rfl, ho, hx, f6, f2, f3, f4, f5, n2⟩ := q
          have hare := (n2 _ (fun q hq => by omega)).trans ((n1 _ (by omega)).trans (hC.are a ha))
          have harl := (n2 _ (fun q hq => by omega)).trans ((n1 _ (by omega)).trans (hC.arl a ha))
          have ho2 := ho
          rw [← hk] at ho2
          refine pb_top (v2 := .ref (1000 + (10 * a + A 13 a))) (by rw [hk]) ?_
          refine pb_callV (pc2 := 78) (k2 := 0) (n2 := 0) mwX0_add pb_cl0.1 iwX0_add seX0_add rfl mlX11_229 dX11_lay_75 (by first | assumption | exact hR.a rfl | exact hR.o | exact hC.o | exact hC.pal | exact hC.tub | exact hC.k _ _ rfl | exact hC.pot _ (by omega) | exact hC.are _ (by omega) | exact hC.arl _ (by omega) | exact hC.tbo _ (by omega) (by omega)) (t_aadd ha hare harl ho2 (by omega)) (by omega) (by omega) (by omega) rfl rfl (Nat.le_of_ble_eq_true rfl) rfl (fun v h2 q _ => ?_)
          obtain ⟨rfl, hare, harl, n3⟩ := q
          have nb2 : ∀ b, (∀ q, q < 7 → b ≠ 1000 + 100 * q + k) → b ≠ 110 + a → b ≠ 140 + a → h2 b = h b := fun b b1 b2 b3 => (n3 b b2 b3).trans ((n2 b b1).trans (n1 b (by have := b1 0 (by omega); omega)))
          have h60 : h2 60 = _ := (nb2 60 (fun q hq => by omega) (by omega) (by omega)).trans hC.o
          have hm2 := (nb2 (100 + p) (fun q hq => by omega) (by omega) (by omega)).trans (hC.pot p hp)
          obtain ⟨F', hr', hF'⟩ := hC.ptr p hp
          have hr2 := (nb2 (130 + p) (fun q hq => by omega) (by omega) (by omega)).trans hr'
          have h61 := (nb2 61 (fun q hq => by omega) (by omega) (by omega)).trans hC.pal
          have h71 := (nb2 71 (fun q hq => by omega) (by omega) (by omega)).trans hC.tub
          first | refine pb_aload_n (pc2 := 79) dX11_lay_78 rfl rfl rfl ?_ | refine pb_aload_nN (pc2 := 79) dX11_lay_78 rfl rfl rfl ?_
          refine pb_getf (pc2 := 82) flX11_12_X11 rfl dX11_lay_79 (by first | assumption | exact hR.a rfl | exact hR.o | exact hC.o | exact hC.pal | exact hC.tub | exact hC.k _ _ rfl | exact hC.pot _ (by omega) | exact hC.are _ (by omega) | exact hC.arl _ (by omega) | exact hC.tbo _ (by omega) (by omega)) rfl rfl ?_
          first | refine pb_aload (pc2 := 84) dX11_lay_82 rfl rfl ?_ | refine pb_aloadN (pc2 := 84) dX11_lay_82 rfl rfl ?_
          refine pb_callV (pc2 := 87) (k2 := 0) (n2 := 0) mwX8_countLaid pb_cl7.1 iwX8_countLaid seX8_countLaid rfl mlX11_232 dX11_lay_84 (by first | assumption | exact hR.a rfl | exact hR.o | exact hC.o | exact hC.pal | exact hC.tub | exact hC.k _ _ rfl | exact hC.pot _ (by omega) | exact hC.are _ (by omega) | exact hC.arl _ (by omega) | exact hC.tbo _ (by omega) (by omega)) (t_countLaid w h61 h71 (fun t ht => (nb2 _ (fun q hq => by omega) (by omega) (by omega)).trans (hC.tbo t (by omega) ht)) hm2 hr2 (by omega)) (by omega) (by omega) (by omega) rfl rfl (Nat.le_of_ble_eq_true rfl) rfl (fun v h3 q _ => ?_)
          obtain ⟨rfl, hT, n4⟩ := q
          have hm2 := (n4 _ (by omega)).trans hm2
          have hr2 := (n4 _ (by omega)).trans hr2
          first | refine pb_aload (pc2 := 89) dX11_lay_87 rfl rfl ?_ | refine pb_aloadN (pc2 := 89) dX11_lay_87 rfl rfl ?_
          refine pb_callV (pc2 := 92) (k2 := 0) (n2 := 0) mwX6_makeEmpty pb_cl6.1 iwX6_makeEmpty seX6_makeEmpty rfl mlX11_161 dX11_lay_89 (by first | assumption | exact hR.a rfl | exact hR.o | exact hC.o | exact hC.pal | exact hC.tub | exact hC.k _ _ rfl | exact hC.pot _ (by omega) | exact hC.are _ (by omega) | exact hC.arl _ (by omega) | exact hC.tbo _ (by omega) (by omega)) (t_makeEmpty hm2 hr2 (by omega)) (by omega) (by omega) (by omega) rfl rfl (Nat.le_of_ble_eq_true rfl) rfl (fun v h4 q _ => ?_)
          obtain ⟨rfl, hm2, hr2, n5⟩ := q
          have nb : ∀ b, (∀ q, q < 7 → b ≠ 1000 + 100 * q + k) → (b < 110 ∨ 120 ≤ b ∧ b < 140 ∨ 150 ≤ b ∨ (b ≠ 110 + a ∧ b ≠ 140 + a)) → (b < 200 ∨ 200 + A 1 0 ≤ b) → b ≠ 100 + p → b ≠ 130 + p → h4 b = h b := fun b b1 b2 b3 b4 b5 => (n5 b b4 b5).trans ((n4 b b3).trans (nb2 b b1 (by omega) (by omega)))
          have n45 : ∀ b, 1000 ≤ b ∨ (110 ≤ b ∧ b < 120) ∨ (140 ≤ b ∧ b < 150) → h4 b = h2 b := fun b hb => (n5 b (by omega) (by omega)).trans (n4 b (by omega))
          have hare := (n45 _ (by omega)).trans hare
          have harl := (n45 _ (by omega)).trans harl
          have h60 : h4 60 = _ := (nb 60 (fun q hq => by omega) (by omega) (by omega) (by omega) (by omega)).trans hC.o
          obtain ⟨fp, fr⟩ := pb_emp (A' := sp_layA A p a n) hC (fun j => rfl) hm2 hr2 (fun q hq hne => ⟨nb _ (fun q hq => by omega) (by omega) (by omega) (by omega) (by omega), nb _ (fun q hq => by omega) (by omega) (by omega) (by omega) (by omega)⟩)
          have hsum : pb_sum 12 F = pb_tot A p := pb_sum_congr 12 hF
          have ft : ∀ t, t < 12 → t < A 1 0 → h4 (200 + t) = cOb 8 (cTq A (fun t => if t < 12 then A 5 t + A 11 (12 * p + t) else A 5 t) (A 6) t) := fun t h12 ht => by
            rw [n5 _ (by omega) (by omega), hT t ht]
            refine cOb_c (cTq_c ?_ rfl)
            show A 5 t + F' t = if t < 12 then A 5 t + A 11 (12 * p + t) else A 5 t
            rw [if_pos h12, hF' t h12]
            rfl
          have fa : ∀ a', a' < 10 → h4 (110 + a') = some (.inr (.inr (0, [.ref (140 + a'), .int (nI (pb_un (A 13) a (A 13 a + 1) a')), .int (nI (A 12 a'))]))) := fun a' ha' => by
            by_cases e : a' = a
            · subst e
              rw [pb_un_self]
              exact hare
            · rw [nb _ (fun q hq => by omega) (by omega) (by omega) (by omega) (by omega), pb_un_ne _ _ e]
              exact hC.are a' ha'
          have fl : ∀ a', a' < 10 → h4 (140 + a') = some (.inr (.inl (3, 10, cTo (1000 + 10 * a') (pb_un (A 13) a (A 13 a + 1) a')))) := fun a' ha' => by
            by_cases e : a' = a
            · subst e
              rw [pb_un_self]
              exact harl
            · rw [nb _ (fun q hq => by omega) (by omega) (by omega) (by omega) (by omega), pb_un_ne _ _ e]
              exact hC.arl a' ha'
          -- a layer's rows: the new one, or one from before
          have old : ∀ a' i, a' < 10 → i < 10 → i < pb_un (A 13) a (A 13 a + 1) a' → 10 * a' + i ≠ k → i < A 13 a' := fun a' i ha' h10 hi hne => by
            by_cases e : a' = a
            · subst e
              rw [pb_un_self] at hi
              omega
            · rw [pb_un_ne _ _ e] at hi
              exact hi
          have nbk : ∀ k', k' < 100 → k' ≠ k → ∀ q, q < 7 → h4 (1000 + 100 * q + k') = h (1000 + 100 * q + k') := fun k' hk' hne q hq => nb _ (fun q' hq' => by omega) (by omega) (by omega) (by omega) (by omega)
          have d16 : ∀ k' t, t < 12 → sp_layA A p a n 16 (12 * k' + t) = if k' = k then A 11 (12 * p + t) else A 16 (12 * k' + t) := fun k' t ht => by
            show (if 12 * (10 * a + A 13 a) ≤ 12 * k' + t ∧ 12 * k' + t < 12 * (10 * a + A 13 a) + 12 then A 11 (12 * p + (12 * k' + t - 12 * (10 * a + A 13 a))) else A 16 (12 * k' + t)) = _
            rw [hk]
            by_cases e : k' = k
            · subst e
              rw [if_pos (by omega), if_pos rfl, Nat.add_sub_cancel_left]
            · rw [if_neg (by omega), if_neg e]
          have l14 : sp_layA A p a n 14 = pb_un (A 14) k n := by rw [← hk]; rfl
          have l15 : sp_layA A p a n 15 = pb_un (A 15) k (A 0 0) := by rw [← hk]; rfl
          have sly : ∀ k', k' ≠ k → pb_sum 12 (pb_ly (sp_layA A p a n) k') = pb_sum 12 (pb_ly A k') := fun k' hne => pb_sum_congr 12 (fun t ht => by
            show sp_layA A p a n 16 (12 * k' + t) = _
            rw [d16 k' t ht, if_neg hne]
            rfl)
          have slk : pb_sum 12 (pb_ly (sp_layA A p a n) k) = pb_sum 12 F := pb_sum_congr 12 (fun t ht => by
            show sp_layA A p a n 16 (12 * k + t) = _
            rw [d16 k t ht, if_pos rfl, hF t ht]
            rfl)
          have fo : ∀ a' i, a' < 10 → i < 10 → i < pb_un (A 13) a (A 13 a + 1) a' → h4 (1000 + (10 * a' + i)) = some (.inr (.inr (3, cLo (sp_layA A p a n) (10 * a' + i)))) ∧ h4 (1100 + (10 * a' + i)) = some (.inr (.inr (6, cMx (1600 + (10 * a' + i)) (pb_sum 12 (pb_ly (sp_layA A p a n) (10 * a' + i)))))) ∧ cRow 12 (pb_ly (sp_layA A p a n) (10 * a' + i)) (h4 (1600 + (10 * a' + i))) := fun a' i ha' h10 hi => by
            by_cases e : 10 * a' + i = k
            · rw [e, slk]
              refine ⟨?_, ?_, ?_⟩
              · rw [n45 _ (by omega), n3 _ (by omega) (by omega), ho]
                unfold cLo
                rw [l14, l15, pb_un_self, pb_un_self]
              · rw [n45 _ (by omega), n3 _ (by omega) (by omega), hx]
              · rw [n45 _ (by omega), n3 _ (by omega) (by omega)]
                refine cRow_same f6 (fun t ht => ?_)
                show sp_layA A p a n 16 (12 * k + t) = _
                rw [d16 k t ht, if_pos rfl, hF t ht]
                rfl
            · have hi2 := old a' i ha' h10 hi e
              obtain ⟨g1, g2, g3⟩ := hC.lyo a' i ha' h10 hi2
              have m0 := nbk (10 * a' + i) (by omega) e 0 (by omega)
              have m1 := nbk (10 * a' + i) (by omega) e 1 (by omega)
              have m6 := nbk (10 * a' + i) (by omega) e 6 (by omega)
              simp only [Nat.reduceMul, Nat.reduceAdd] at m0 m1 m6
              rw [m0, m1, m6, sly _ e]
              refine ⟨?_, g2, cRow_same g3 (fun t ht => ?_)⟩
              · rw [g1]
                unfold cLo
                rw [l14, l15, pb_un_ne _ _ e, pb_un_ne _ _ e]
              · show sp_layA A p a n 16 (12 * (10 * a' + i) + t) = _
                rw [d16 _ t ht, if_neg e]
                rfl
          have fc : ∀ a' i, a' < 10 → i < 10 → i < pb_un (A 13) a (A 13 a + 1) a' → cCache (sp_layA A p a n 14 (10 * a' + i)) (10 * a' + i) h4 := fun a' i ha' h10 hi => by
            by_cases e : 10 * a' + i = k
            · rw [e]
              obtain ⟨G2, f2, -⟩ := f2
              obtain ⟨G3, f3, -⟩ := f3
              obtain ⟨G4, f4, hG4⟩ := f4
              obtain ⟨G5, f5, -⟩ := f5
              refine ⟨G2, G3, G4, G5, ?_, ?_, ?_, ?_, fun b hb => Or.inl (hG4 b hb)⟩
              · rw [n45 _ (by omega), n3 _ (by omega) (by omega)]; exact f2
              · rw [n45 _ (by omega), n3 _ (by omega) (by omega)]; exact f3
              · rw [n45 _ (by omega), n3 _ (by omega) (by omega)]; exact f4
              · rw [n45 _ (by omega), n3 _ (by omega) (by omega)]; exact f5
            · have hi2 := old a' i ha' h10 hi e
              have m2 := nbk (10 * a' + i) (by omega) e 2 (by omega)
              have m3 := nbk (10 * a' + i) (by omega) e 3 (by omega)
              have m4 := nbk (10 * a' + i) (by omega) e 4 (by omega)
              have m5 := nbk (10 * a' + i) (by omega) e 5 (by omega)
              simp only [Nat.reduceMul, Nat.reduceAdd] at m2 m3 m4 m5
              have hcc := hC.lyc a' i ha' h10 hi2
              unfold cCache at hcc ⊢
              rw [m2, m3, m4, m5, l14, pb_un_ne _ _ e]
              exact hcc
          have fn : ∀ a' i, a' < 10 → pb_un (A 13) a (A 13 a + 1) a' ≤ i → i < 10 → ∀ q, q < 7 → h4 (1000 + 100 * q + (10 * a' + i)) = none := fun a' i ha' hi h10 q hq => by
            have hne : 10 * a' + i ≠ k ∧ A 13 a' ≤ i := by
              by_cases e : a' = a
              · subst e
                rw [pb_un_self] at hi
                omega
              · rw [pb_un_ne _ _ e] at hi
                omega
            rw [nbk _ (by omega) hne.1 q hq]
            exact hC.lyn a' i ha' hne.2 h10 q hq
          have hC2 : pb_CF (sp_layA A p a n) h h4 := k_lay htt hp ha (by omega) hC nb h60 fp fr fa fl ft fo fc fn
          first | refine pb_aload (pc2 := 94) dX11_lay_92 rfl rfl ?_ | refine pb_aloadN (pc2 := 94) dX11_lay_92 rfl rfl ?_
          refine pb_getf (pc2 := 97) flX11_217_X0 rfl dX11_lay_94 (by first | assumption | exact hR.a rfl | exact hR.o | exact hC.o | exact hC.pal | exact hC.tub | exact hC.k _ _ rfl | exact hC.pot _ (by omega) | exact hC.are _ (by omega) | exact hC.arl _ (by omega) | exact hC.tbo _ (by omega) (by omega)) rfl rfl ?_
          exact pb_ireturn dX11_lay_97 rfl (pb_finC rfl hC2)
      · rw [if_pos c1]
        refine pb_bipush (x := -2) (pc2 := 47) dX11_lay_45 (by decide) rfl ?_
        exact pb_ireturn dX11_lay_47 rfl (pb_finC rfl hC)
    · first | refine pb_astore (lv2 := [_, _, _, _, _, _]) (pc2 := 14) dX11_lay_12 (by decide) rfl rfl ?_ | refine pb_astoreN (lv2 := [_, _, _, _, _, _]) (pc2 := 14) dX11_lay_12 (by decide) rfl rfl ?_
      first | refine pb_aload (pc2 := 16) dX11_lay_14 rfl rfl ?_ | refine pb_aloadN (pc2 := 16) dX11_lay_14 rfl rfl ?_
      refine pb_ifnull (pc2 := 19) dX11_lay_16 rfl ?_
      first | refine pb_aload (pc2 := 21) dX11_lay_19 rfl rfl ?_ | refine pb_aloadN (pc2 := 21) dX11_lay_19 rfl rfl ?_
      refine pb_ifnullN (tgt := 35) dX11_lay_21 (by decide) ?_
      refine pb_iconst (x := -1) (pc2 := 36) dX11_lay_35 (by decide) rfl ?_
      exact pb_ireturn dX11_lay_36 rfl (pb_finC (if_neg (fun z => q z.2.1)) hC)
  · first | refine pb_astore (lv2 := [_, _, _, _, _, _]) (pc2 := 7) dX11_lay_5 (by decide) rfl rfl ?_ | refine pb_astoreN (lv2 := [_, _, _, _, _, _]) (pc2 := 7) dX11_lay_5 (by decide) rfl rfl ?_
    first | refine pb_aload_n (pc2 := 8) dX11_lay_7 rfl rfl rfl ?_ | refine pb_aload_nN (pc2 := 8) dX11_lay_7 rfl rfl rfl ?_
    refine pb_iload_n (pc2 := 9) dX11_lay_8 rfl rfl rfl ?_
    refine pb_callV (pc2 := 12) (k2 := 7) (n2 := 53) mwX11_areaAt pb_cl9.1 iwX11_areaAt seX11_areaAt rfl mlX11_213 dX11_lay_9 (by first | assumption | exact hR.a rfl | exact hR.o | exact hC.o | exact hC.pal | exact hC.tub | exact hC.k _ _ rfl | exact hC.pot _ (by omega) | exact hC.are _ (by omega) | exact hC.arl _ (by omega) | exact hC.tbo _ (by omega) (by omega)) (t_areaAt hC a) (by omega) (by omega) (by omega) rfl rfl (Nat.le_of_ble_eq_true rfl) rfl (pb_kRef (fun a ha e => ?_) (fun q2 => ?_))
    · first | refine pb_astore (lv2 := [_, _, _, _, _, _]) (pc2 := 14) dX11_lay_12 (by decide) rfl rfl ?_ | refine pb_astoreN (lv2 := [_, _, _, _, _, _]) (pc2 := 14) dX11_lay_12 (by decide) rfl rfl ?_
      first | refine pb_aload (pc2 := 16) dX11_lay_14 rfl rfl ?_ | refine pb_aloadN (pc2 := 16) dX11_lay_14 rfl rfl ?_
      refine pb_ifnullN (tgt := 35) dX11_lay_16 (by decide) ?_
      refine pb_iconst (x := -1) (pc2 := 36) dX11_lay_35 (by decide) rfl ?_
      exact pb_ireturn dX11_lay_36 rfl (pb_finC (if_neg (fun z => q z.1)) hC)
    · first | refine pb_astore (lv2 := [_, _, _, _, _, _]) (pc2 := 14) dX11_lay_12 (by decide) rfl rfl ?_ | refine pb_astoreN (lv2 := [_, _, _, _, _, _]) (pc2 := 14) dX11_lay_12 (by decide) rfl rfl ?_
      first | refine pb_aload (pc2 := 16) dX11_lay_14 rfl rfl ?_ | refine pb_aloadN (pc2 := 16) dX11_lay_14 rfl rfl ?_
      refine pb_ifnullN (tgt := 35) dX11_lay_16 (by decide) ?_
      refine pb_iconst (x := -1) (pc2 := 36) dX11_lay_35 (by decide) rfl ?_
      exact pb_ireturn dX11_lay_36 rfl (pb_finC (if_neg (fun z => q z.1)) hC)
end PB34
/-! LAYERS OF THE CLASS: back, look, missed, apart -/
theorem pb_see_w {A : pb_A} {l s : Nat} {F G : Nat → Nat} (h : ∀ b, b < 8 → 0 < pb_wt A l s b → F b = G b) : pb_see A l s F = pb_see A l s G := by
  unfold pb_see
  rw [pb_sum_congr (f := fun b => pb_wt A l s b * F b) (g := fun b => pb_wt A l s b * G b) 8 (fun b hb => ?_)]
  by_cases c : 0 < pb_wt A l s b
  · show pb_wt A l s b * F b = pb_wt A l s b * G b
    rw [h b hb c]
  · show pb_wt A l s b * F b = pb_wt A l s b * G b
    rw [show pb_wt A l s b = 0 by omega, Nat.zero_mul, Nat.zero_mul]
theorem pb_sh_w {A : pb_A} {l s b : Nat} (hs : s < 3) (h : 0 < pb_wt A l s b) : pb_sh A l b = 1 := by
  have := pb_sum_mem (f := fun s => pb_wt A l s b) hs
  unfold pb_sh
  rw [if_pos (by omega)]
theorem pb_sh_le (A : pb_A) (l b : Nat) : pb_sh A l b ≤ 1 := by
  unfold pb_sh
  split <;> omega
def pb_shn (A : pb_A) (l : Nat) (F G : Nat → Nat) : Prop := ∀ b, b < 8 → pb_sh A l b = 1 → F b = G b
theorem pb_shn.see {A : pb_A} {l s : Nat} {F G : Nat → Nat} (h : pb_shn A l F G) (hs : s < 3) : pb_see A l s F = pb_see A l s G := pb_see_w (fun b hb c => h b hb (pb_sh_w hs c))
theorem pb_shn.far {A : pb_A} {l a b c : Nat} {F G : Nat → Nat} (h : pb_shn A l F G) : pb_far A l a b c F = pb_far A l a b c G := by
  unfold pb_far
  rw [h.see (s := 0) (by omega), h.see (s := 1) (by omega), h.see (s := 2) (by omega)]
theorem k_sent {A : pb_A} {h0 h h4 : pb_H} {k : Nat} (hk : k < 100) (hC : pb_CF A h0 h) (nb : ∀ b, b ≠ 1200 + k → b ≠ 1300 + k → b ≠ 1400 + k → b ≠ 1500 + k → h4 b = h b) (fc : ∀ a' i', a' < 10 → i' < 10 → i' < A 13 a' → cCache (A 14 (10 * a' + i')) (10 * a' + i') h4) (fn : ∀ a' i', a' < 10 → A 13 a' ≤ i' → i' < 10 → ∀ q, q < 7 → h4 (1000 + 100 * q + (10 * a' + i')) = none) : pb_CF A h0 h4 := by
  exact pb_CF.mk (fun b hb => (nb b (by omega) (by omega) (by omega) (by omega)).trans (hC.low b hb)) (fun a c e => (nb a (by first | exact cK_ne e rfl | (have := cK_rng e; omega)) (by first | exact cK_ne e rfl | (have := cK_rng e; omega)) (by first | exact cK_ne e rfl | (have := cK_rng e; omega)) (by first | exact cK_ne e rfl | (have := cK_rng e; omega))).trans (hC.k a c e)) (fun a n e => by rw [nb a (by first | exact cS_ne e rfl | (have := cS_rng e; omega)) (by first | exact cS_ne e rfl | (have := cS_rng e; omega)) (by first | exact cS_ne e rfl | (have := cS_rng e; omega)) (by first | exact cS_ne e rfl | (have := cS_rng e; omega))]; exact hC.s a n e) ((nb 60 (by omega) (by omega) (by omega) (by omega)).trans hC.o) ((nb 61 (by omega) (by omega) (by omega) (by omega)).trans hC.pal) (by rw [nb 65 (by omega) (by omega) (by omega) (by omega)]; exact hC.wan) (fun i hi => by rw [nb _ (by omega) (by omega) (by omega) (by omega)]; exact hC.kpr i hi) ((nb 71 (by omega) (by omega) (by omega) (by omega)).trans hC.tub) (fun i hi => by rw [nb _ (by omega) (by omega) (by omega) (by omega)]; exact hC.lmr i hi) (fun i hi => by rw [nb _ (by omega) (by omega) (by omega) (by omega)]; exact hC.sgr i hi) (by rw [nb 76 (by omega) (by omega) (by omega) (by omega)]; exact hC.shw) (fun p hp => (nb _ (by omega) (by omega) (by omega) (by omega)).trans (hC.pot p hp)) (fun p hp => by rw [nb _ (by omega) (by omega) (by omega) (by omega)]; exact hC.ptr p hp) (fun a ha => (nb _ (by omega) (by omega) (by omega) (by omega)).trans (hC.are a ha)) (fun a ha => (nb _ (by omega) (by omega) (by omega) (by omega)).trans (hC.arl a ha)) (fun t h12 ht => (nb _ (by omega) (by omega) (by omega) (by omega)).trans (hC.tbo t h12 ht)) (fun t h12 ht => by rw [nb _ (by omega) (by omega) (by omega) (by omega)]; exact hC.tbd t h12 ht) (fun t h12 ht => by rw [nb _ (by omega) (by omega) (by omega) (by omega)]; exact hC.tbs t h12 ht) (fun t ht ht2 => by have hz_ : A 1 0 ≤ t := ht; rw [nb _ (by omega) (by omega) (by omega) (by omega), nb _ (by omega) (by omega) (by omega) (by omega), nb _ (by omega) (by omega) (by omega) (by omega)]; exact hC.tbn t ht ht2) (fun a i ha h10 hi => by rw [nb _ (by omega) (by omega) (by omega) (by omega), nb _ (by omega) (by omega) (by omega) (by omega), nb _ (by omega) (by omega) (by omega) (by omega)]; exact hC.lyo a i ha h10 hi) (fc) (fn) (by rw [nb 68 (by omega) (by omega) (by omega) (by omega)]; exact hC.mat) (by rw [nb 309 (by omega) (by omega) (by omega) (by omega)]; exact hC.bst) (by rw [nb 69 (by omega) (by omega) (by omega) (by omega), nb 411 (by omega) (by omega) (by omega) (by omega), nb 413 (by omega) (by omega) (by omega) (by omega)]; exact hC.cho) (by rw [nb 70 (by omega) (by omega) (by omega) (by omega)]; exact hC.gla) (by rw [nb 500 (by omega) (by omega) (by omega) (by omega)]; exact hC.glb) (fun a ha => by rw [nb a (by omega) (by omega) (by omega) (by omega)]; exact hC.zer a ha)
section PB35
variable {Z : pb_Z} {h h0 : pb_H} {A : pb_A}
set_option maxRecDepth 10000 in
theorem t_sentOver (w : pb_WF A) (hC : pb_CF A h0 h) {a i b z g : Nat} (ha : a < 10) (hi : i < A 13 a) (hb : b < 8) (hz : A 0 0 ≤ z) (hz2 : z ≤ 99) (hg : g ≤ 10000) : pb_T Z mX3_sentOver 2 0 0 [.ref (1000 + (10 * a + i)), .ref 61, .int (nI b), .int (nI z), .int (nI g)] h (fun v h' => v = some (.int (nI (pb_lay (pb_ta (pb_dk A (pb_ly A (10 * a + i)) b (z - A 15 (10 * a + i))) (pb_sc A (pb_ly A (10 * a + i)) b)) (pb_tb (pb_dk A (pb_ly A (10 * a + i)) b (z - A 15 (10 * a + i))) (pb_sc A (pb_ly A (10 * a + i)) b)) (A 14 (10 * a + i)) g))) ∧ pb_CF A h0 h' ∧ ∀ x, x < 1200 ∨ 1600 ≤ x → h' x = h x) := by
  have h13 := (w.area ha).2
  obtain ⟨y1, y2, y3, y4, y5⟩ := w.layer ha hi
  obtain ⟨r1, r2, r3⟩ := w.lyr ha hi hb (z - A 15 (10 * a + i))
  obtain ⟨hly, hmx, hrow⟩ := hC.lyo a i ha (by omega) hi
  have hlyd := fun j (hj : j < 12) => w.lyd ha hi hj
  obtain ⟨F1, F2, F3, F4, c1, c2, c3, c4, hc⟩ := hC.lyc a i ha (by omega) hi
  have hk : 10 * a + i < 100 := by omega
  refine pb_T.of pnX3_sentOver (Nat.le_of_ble_eq_true rfl) (lv := [some (.ref (1000 + (10 * a + i))), some (.ref 61), some (.int (nI b)), some (.int (nI z)), some (.int (nI g)), none, none, none, none]) rfl ?_
  refine pb_aload_n (pc2 := 1) dX3_sentOver_0 rfl rfl rfl ?_
  refine pb_getf (pc2 := 4) flX3_12_X3 rfl dX3_sentOver_1 (by first | assumption | exact hR.a rfl | exact hR.o | exact hC.o | exact hC.pal | exact hC.tub | exact hC.k _ _ rfl | exact hC.pot _ (by omega) | exact hC.are _ (by omega) | exact hC.arl _ (by omega) | exact hC.tbo _ (by omega) (by omega)) rfl rfl ?_
  refine pb_aload_n (pc2 := 5) dX3_sentOver_4 rfl rfl rfl ?_
  refine pb_iload_n (pc2 := 6) dX3_sentOver_5 rfl rfl rfl ?_
  refine pb_iload_n (pc2 := 7) dX3_sentOver_6 rfl rfl rfl ?_
  refine pb_aload_n (pc2 := 8) dX3_sentOver_7 rfl rfl rfl ?_
  refine pb_getf (pc2 := 11) flX3_39_X3 rfl dX3_sentOver_8 (by first | assumption | exact hR.a rfl | exact hR.o | exact hC.o | exact hC.pal | exact hC.tub | exact hC.k _ _ rfl | exact hC.pot _ (by omega) | exact hC.are _ (by omega) | exact hC.arl _ (by omega) | exact hC.tbo _ (by omega) (by omega)) rfl rfl ?_
  refine pb_isubN (pc2 := 12) dX3_sentOver_11 (by omega) rfl ?_
  refine pb_callV (pc2 := 15) (k2 := 0) (n2 := 0) mwX6_drink pb_cl6.1 iwX6_drink seX6_drink rfl mlX3_48 dX3_sentOver_12 (by first | assumption | exact hR.a rfl | exact hR.o | exact hC.o | exact hC.pal | exact hC.tub | exact hC.k _ _ rfl | exact hC.pot _ (by omega) | exact hC.are _ (by omega) | exact hC.arl _ (by omega) | exact hC.tbo _ (by omega) (by omega)) (t_drink w hC hmx hrow hlyd hb (by omega)) (by omega) (by omega) (by omega) rfl rfl (Nat.le_of_ble_eq_true rfl) rfl (pb_kE ?_)
  refine pb_istore (lv2 := [_, _, _, _, _, _, _, _, _]) (pc2 := 17) dX3_sentOver_15 (by decide) rfl rfl ?_
  refine pb_aload_n (pc2 := 18) dX3_sentOver_17 rfl rfl rfl ?_
  refine pb_getf (pc2 := 21) flX3_12_X3 rfl dX3_sentOver_18 (by first | assumption | exact hR.a rfl | exact hR.o | exact hC.o | exact hC.pal | exact hC.tub | exact hC.k _ _ rfl | exact hC.pot _ (by omega) | exact hC.are _ (by omega) | exact hC.arl _ (by omega) | exact hC.tbo _ (by omega) (by omega)) rfl rfl ?_
  refine pb_aload_n (pc2 := 22) dX3_sentOver_21 rfl rfl rfl ?_
  refine pb_iload_n (pc2 := 23) dX3_sentOver_22 rfl rfl rfl ?_
  refine pb_callV (pc2 := 26) (k2 := 0) (n2 := 0) mwX6_scatter pb_cl6.1 iwX6_scatter seX6_scatter rfl mlX3_52 dX3_sentOver_23 (by first | assumption | exact hR.a rfl | exact hR.o | exact hC.o | exact hC.pal | exact hC.tub | exact hC.k _ _ rfl | exact hC.pot _ (by omega) | exact hC.are _ (by omega) | exact hC.arl _ (by omega) | exact hC.tbo _ (by omega) (by omega)) (t_scatter w hC hmx hrow hlyd hb) (by omega) (by omega) (by omega) rfl rfl (Nat.le_of_ble_eq_true rfl) rfl (pb_kE ?_)
  refine pb_istore (lv2 := [_, _, _, _, _, _, _, _, _]) (pc2 := 28) dX3_sentOver_26 (by decide) rfl rfl ?_
  refine pb_iload (pc2 := 30) dX3_sentOver_28 rfl rfl ?_
  refine pb_iload (pc2 := 32) dX3_sentOver_30 rfl rfl ?_
  refine pb_callS (pc2 := 35) (k2 := 0) (n2 := 0) mwX7_thinTake swX7_thinTake rfl mlX3_56 dX3_sentOver_32 (t_thinTake (by omega) (by omega)) (by omega) (by omega) (by omega) rfl rfl (Nat.le_of_ble_eq_true rfl) rfl (pb_kE ?_)
  refine pb_istore (lv2 := [_, _, _, _, _, _, _, _, _]) (pc2 := 37) dX3_sentOver_35 (by decide) rfl rfl ?_
  refine pb_iload (pc2 := 39) dX3_sentOver_37 rfl rfl ?_
  refine pb_iload (pc2 := 41) dX3_sentOver_39 rfl rfl ?_
  refine pb_callS (pc2 := 44) (k2 := 0) (n2 := 0) mwX7_thinSend swX7_thinSend rfl mlX3_62 dX3_sentOver_41 (t_thinSend (by omega) (by omega)) (by omega) (by omega) (by omega) rfl rfl (Nat.le_of_ble_eq_true rfl) rfl (pb_kE ?_)
  have htab := pb_tab (pb_dk A (pb_ly A (10 * a + i)) b (z - A 15 (10 * a + i))) (pb_sc A (pb_ly A (10 * a + i)) b)
  generalize pb_dk A (pb_ly A (10 * a + i)) b (z - A 15 (10 * a + i)) = X at r3 htab ⊢
  generalize pb_sc A (pb_ly A (10 * a + i)) b = S at r1 r2 htab ⊢
  generalize pb_ta X S = ta at htab ⊢
  generalize pb_tb X S = tb at htab ⊢
  have miss : pb_S Z mX3_sentOver 2 0 0 (fun v h' => v = some (.int (nI (pb_lay ta tb (A 14 (10 * a + i)) g))) ∧ pb_CF A h0 h' ∧ ∀ x, x < 1200 ∨ 1600 ≤ x → h' x = h x) 79 [some (.ref (1000 + (10 * a + i))), some (.ref 61), some (.int (nI b)), some (.int (nI z)), some (.int (nI g)), some (.int (nI X)), some (.int (nI S)), some (.int (nI ta)), some (.int (nI tb))] [] h := by
    refine pb_aload_n (pc2 := 80) dX3_sentOver_79 rfl rfl rfl ?_
    refine pb_getf (pc2 := 83) flX3_25_X3 rfl dX3_sentOver_80 (by first | assumption | exact hR.a rfl | exact hR.o | exact hC.o | exact hC.pal | exact hC.tub | exact hC.k _ _ rfl | exact hC.pot _ (by omega) | exact hC.are _ (by omega) | exact hC.arl _ (by omega) | exact hC.tbo _ (by omega) (by omega)) rfl rfl ?_
    refine pb_iload_n (pc2 := 84) dX3_sentOver_83 rfl rfl rfl ?_
    refine pb_iload (pc2 := 86) dX3_sentOver_84 rfl rfl ?_
    refine pb_iastG (pc2 := 87) c3 dX3_sentOver_86 (by omega) hb (by omega) rfl (fun h1 c3 n1 => ?_)
    have hly := (n1 _ (by omega)).trans hly
    have c1 := (n1 _ (by omega)).trans c1
    have c2 := (n1 _ (by omega)).trans c2
    have c4 := (n1 _ (by omega)).trans c4
    refine pb_aload_n (pc2 := 88) dX3_sentOver_87 rfl rfl rfl ?_
    refine pb_getf (pc2 := 91) flX3_18_X3 rfl dX3_sentOver_88 (by first | assumption | exact hR.a rfl | exact hR.o | exact hC.o | exact hC.pal | exact hC.tub | exact hC.k _ _ rfl | exact hC.pot _ (by omega) | exact hC.are _ (by omega) | exact hC.arl _ (by omega) | exact hC.tbo _ (by omega) (by omega)) rfl rfl ?_
    refine pb_iload_n (pc2 := 92) dX3_sentOver_91 rfl rfl rfl ?_
    refine pb_iload (pc2 := 94) dX3_sentOver_92 rfl rfl ?_
    refine pb_iastG (pc2 := 95) c1 dX3_sentOver_94 (by omega) hb (by omega) rfl (fun h2 c1 n2 => ?_)
    have hly := (n2 _ (by omega)).trans hly
    have c2 := (n2 _ (by omega)).trans c2
    have c3 := (n2 _ (by omega)).trans c3
    have c4 := (n2 _ (by omega)).trans c4
    refine pb_aload_n (pc2 := 96) dX3_sentOver_95 rfl rfl rfl ?_
    refine pb_getf (pc2 := 99) flX3_22_X3 rfl dX3_sentOver_96 (by first | assumption | exact hR.a rfl | exact hR.o | exact hC.o | exact hC.pal | exact hC.tub | exact hC.k _ _ rfl | exact hC.pot _ (by omega) | exact hC.are _ (by omega) | exact hC.arl _ (by omega) | exact hC.tbo _ (by omega) (by omega)) rfl rfl ?_
    refine pb_iload_n (pc2 := 100) dX3_sentOver_99 rfl rfl rfl ?_
    refine pb_iload (pc2 := 102) dX3_sentOver_100 rfl rfl ?_
    refine pb_iastG (pc2 := 103) c2 dX3_sentOver_102 (by omega) hb (by omega) rfl (fun h3 c2 n3 => ?_)
    have hly := (n3 _ (by omega)).trans hly
    have c1 := (n3 _ (by omega)).trans c1
    have c3 := (n3 _ (by omega)).trans c3
    have c4 := (n3 _ (by omega)).trans c4
    refine pb_aload_n (pc2 := 104) dX3_sentOver_103 rfl rfl rfl ?_
    refine pb_getf (pc2 := 107) flX3_28_X3 rfl dX3_sentOver_104 (by first | assumption | exact hR.a rfl | exact hR.o | exact hC.o | exact hC.pal | exact hC.tub | exact hC.k _ _ rfl | exact hC.pot _ (by omega) | exact hC.are _ (by omega) | exact hC.arl _ (by omega) | exact hC.tbo _ (by omega) (by omega)) rfl rfl ?_
    refine pb_iload_n (pc2 := 108) dX3_sentOver_107 rfl rfl rfl ?_
    refine pb_iload (pc2 := 110) dX3_sentOver_108 rfl rfl ?_
    refine pb_iload (pc2 := 112) dX3_sentOver_110 rfl rfl ?_
    refine pb_aload_n (pc2 := 113) dX3_sentOver_112 rfl rfl rfl ?_
    refine pb_getf (pc2 := 116) flX3_35_X3 rfl dX3_sentOver_113 (by first | assumption | exact hR.a rfl | exact hR.o | exact hC.o | exact hC.pal | exact hC.tub | exact hC.k _ _ rfl | exact hC.pot _ (by omega) | exact hC.are _ (by omega) | exact hC.arl _ (by omega) | exact hC.tbo _ (by omega) (by omega)) rfl rfl ?_
    refine pb_iload (pc2 := 118) dX3_sentOver_116 rfl rfl ?_
    refine pb_callS (pc2 := 121) (k2 := 0) (n2 := 0) mwX7_layered swX7_layered rfl mlX3_65 dX3_sentOver_118 (t_layered htab (by omega) hg) (by omega) (by omega) (by omega) rfl rfl (Nat.le_of_ble_eq_true rfl) rfl (pb_kE ?_)
    refine pb_iastG (pc2 := 122) c4 dX3_sentOver_121 (by omega) hb (by omega) rfl (fun h4 c4 n4 => ?_)
    have hly := (n4 _ (by omega)).trans hly
    have c1 := (n4 _ (by omega)).trans c1
    have c2 := (n4 _ (by omega)).trans c2
    have c3 := (n4 _ (by omega)).trans c3
    have nb : ∀ b, b ≠ 1200 + (10 * a + i) → b ≠ 1300 + (10 * a + i) → b ≠ 1400 + (10 * a + i) → b ≠ 1500 + (10 * a + i) → h4 b = h b := fun b b1 b2 b3 b4 => ((n4 b (by omega)).trans ((n3 b (by omega)).trans ((n2 b (by omega)).trans (n1 b (by omega)))))
    have fc : ∀ a' i', a' < 10 → i' < 10 → i' < A 13 a' → cCache (A 14 (10 * a' + i')) (10 * a' + i') h4 := fun a' i' ha' h10 hi' => by
      by_cases e : 10 * a' + i' = 10 * a + i
      · rw [e]
        refine ⟨_, _, _, _, c1, c2, c3, c4, fun b' hb' => ?_⟩
        by_cases e2 : b' = b
        · rw [e2, pb_un_self, pb_un_self, pb_un_self, pb_un_self]
          exact Or.inr ⟨by omega, by omega, hg, rfl⟩
        · rw [pb_un_ne _ _ e2, pb_un_ne _ _ e2, pb_un_ne _ _ e2, pb_un_ne _ _ e2]
          exact hc b' hb'
      · have hcc := hC.lyc a' i' ha' h10 hi'
        unfold cCache at hcc ⊢
        rw [nb (1200 + (10 * a' + i')) (by omega) (by omega) (by omega) (by omega), nb (1300 + (10 * a' + i')) (by omega) (by omega) (by omega) (by omega), nb (1400 + (10 * a' + i')) (by omega) (by omega) (by omega) (by omega), nb (1500 + (10 * a' + i')) (by omega) (by omega) (by omega) (by omega)]
        exact hcc
    have fn : ∀ a' i', a' < 10 → A 13 a' ≤ i' → i' < 10 → ∀ q, q < 7 → h4 (1000 + 100 * q + (10 * a' + i')) = none := fun a' i' ha' hi' h10 q hq => by
      have hne : 10 * a' + i' ≠ 10 * a + i := fun e => by
        have : a' = a := by omega
        subst this
        omega
      rw [nb _ (by omega) (by omega) (by omega) (by omega)]
      exact hC.lyn a' i' ha' hi' h10 q hq
    have hC2 : pb_CF A h0 h4 := k_sent hk hC nb fc fn
    refine pb_aload_n (pc2 := 123) dX3_sentOver_122 rfl rfl rfl ?_
    refine pb_getf (pc2 := 126) flX3_28_X3 rfl dX3_sentOver_123 (by first | assumption | exact hR.a rfl | exact hR.o | exact hC.o | exact hC.pal | exact hC.tub | exact hC.k _ _ rfl | exact hC.pot _ (by omega) | exact hC.are _ (by omega) | exact hC.arl _ (by omega) | exact hC.tbo _ (by omega) (by omega)) rfl rfl ?_
    refine pb_iload_n (pc2 := 127) dX3_sentOver_126 rfl rfl rfl ?_
    refine pb_iald (pc2 := 128) (by first | assumption | exact hR.a rfl | exact hR.o | exact hC.o | exact hC.pal | exact hC.tub | exact hC.k _ _ rfl | exact hC.pot _ (by omega) | exact hC.are _ (by omega) | exact hC.arl _ (by omega) | exact hC.tbo _ (by omega) (by omega)) ⟨by decide, rfl⟩ dX3_sentOver_127 (by omega) (by omega) rfl ?_
    refine pb_top (v2 := .int (nI (pb_lay ta tb (A 14 (10 * a + i)) g))) (by rw [pb_un_self]) ?_
    exact pb_ireturn dX3_sentOver_128 rfl (⟨rfl, hC2, fun x hx => nb x (by omega) (by omega) (by omega) (by omega)⟩)
  refine pb_istore (lv2 := [_, _, _, _, _, _, _, _, _]) (pc2 := 46) dX3_sentOver_44 (by decide) rfl rfl ?_
  refine pb_iload (pc2 := 48) dX3_sentOver_46 rfl rfl ?_
  refine pb_aload_n (pc2 := 49) dX3_sentOver_48 rfl rfl rfl ?_
  refine pb_getf (pc2 := 52) flX3_25_X3 rfl dX3_sentOver_49 (by first | assumption | exact hR.a rfl | exact hR.o | exact hC.o | exact hC.pal | exact hC.tub | exact hC.k _ _ rfl | exact hC.pot _ (by omega) | exact hC.are _ (by omega) | exact hC.arl _ (by omega) | exact hC.tbo _ (by omega) (by omega)) rfl rfl ?_
  refine pb_iload_n (pc2 := 53) dX3_sentOver_52 rfl rfl rfl ?_
  refine pb_iald (pc2 := 54) (by first | assumption | exact hR.a rfl | exact hR.o | exact hC.o | exact hC.pal | exact hC.tub | exact hC.k _ _ rfl | exact hC.pot _ (by omega) | exact hC.are _ (by omega) | exact hC.arl _ (by omega) | exact hC.tbo _ (by omega) (by omega)) ⟨by decide, rfl⟩ dX3_sentOver_53 (by omega) (by omega) rfl ?_
  refine pb_icmp_ne (tgt := 79) (pc2 := 57) dX3_sentOver_54 (by decide) rfl (fun q => miss) (fun q => ?_)
  have hF3 : F3 b = g ∧ F1 b ≤ 250 ∧ F2 b ≤ 250 ∧ F4 b = pb_lay (F1 b) (F2 b) (A 14 (10 * a + i)) (F3 b) := by
    rcases hc b hb with e | ⟨e1, e2, e3, e4⟩
    · exfalso
      rw [e] at q
      have := nI_mod q
      omega
    · exact ⟨(nI_inj (by omega) (by omega) q).symm, e1, e2, e4⟩
  obtain ⟨hF3, hF1, hF2, hF4⟩ := hF3
  refine pb_iload (pc2 := 59) dX3_sentOver_57 rfl rfl ?_
  refine pb_aload_n (pc2 := 60) dX3_sentOver_59 rfl rfl rfl ?_
  refine pb_getf (pc2 := 63) flX3_18_X3 rfl dX3_sentOver_60 (by first | assumption | exact hR.a rfl | exact hR.o | exact hC.o | exact hC.pal | exact hC.tub | exact hC.k _ _ rfl | exact hC.pot _ (by omega) | exact hC.are _ (by omega) | exact hC.arl _ (by omega) | exact hC.tbo _ (by omega) (by omega)) rfl rfl ?_
  refine pb_iload_n (pc2 := 64) dX3_sentOver_63 rfl rfl rfl ?_
  refine pb_iald (pc2 := 65) (by first | assumption | exact hR.a rfl | exact hR.o | exact hC.o | exact hC.pal | exact hC.tub | exact hC.k _ _ rfl | exact hC.pot _ (by omega) | exact hC.are _ (by omega) | exact hC.arl _ (by omega) | exact hC.tbo _ (by omega) (by omega)) ⟨by decide, rfl⟩ dX3_sentOver_64 (by omega) (by omega) rfl ?_
  refine pb_icmpN_ne (tgt := 79) (pc2 := 68) dX3_sentOver_65 (by decide) rfl (by omega) (by omega) (fun q2 => ?_) (fun q2 => ?_)
  · exact miss
  · refine pb_iload (pc2 := 70) dX3_sentOver_68 rfl rfl ?_
    refine pb_aload_n (pc2 := 71) dX3_sentOver_70 rfl rfl rfl ?_
    refine pb_getf (pc2 := 74) flX3_22_X3 rfl dX3_sentOver_71 (by first | assumption | exact hR.a rfl | exact hR.o | exact hC.o | exact hC.pal | exact hC.tub | exact hC.k _ _ rfl | exact hC.pot _ (by omega) | exact hC.are _ (by omega) | exact hC.arl _ (by omega) | exact hC.tbo _ (by omega) (by omega)) rfl rfl ?_
    refine pb_iload_n (pc2 := 75) dX3_sentOver_74 rfl rfl rfl ?_
    refine pb_iald (pc2 := 76) (by first | assumption | exact hR.a rfl | exact hR.o | exact hC.o | exact hC.pal | exact hC.tub | exact hC.k _ _ rfl | exact hC.pot _ (by omega) | exact hC.are _ (by omega) | exact hC.arl _ (by omega) | exact hC.tbo _ (by omega) (by omega)) ⟨by decide, rfl⟩ dX3_sentOver_75 (by omega) (by omega) rfl ?_
    refine pb_icmpN_eq (tgt := 122) (pc2 := 79) dX3_sentOver_76 (by decide) rfl (by omega) (by omega) (fun q3 => ?_) (fun q3 => ?_)
    · refine pb_aload_n (pc2 := 123) dX3_sentOver_122 rfl rfl rfl ?_
      refine pb_getf (pc2 := 126) flX3_28_X3 rfl dX3_sentOver_123 (by first | assumption | exact hR.a rfl | exact hR.o | exact hC.o | exact hC.pal | exact hC.tub | exact hC.k _ _ rfl | exact hC.pot _ (by omega) | exact hC.are _ (by omega) | exact hC.arl _ (by omega) | exact hC.tbo _ (by omega) (by omega)) rfl rfl ?_
      refine pb_iload_n (pc2 := 127) dX3_sentOver_126 rfl rfl rfl ?_
      refine pb_iald (pc2 := 128) (by first | assumption | exact hR.a rfl | exact hR.o | exact hC.o | exact hC.pal | exact hC.tub | exact hC.k _ _ rfl | exact hC.pot _ (by omega) | exact hC.are _ (by omega) | exact hC.arl _ (by omega) | exact hC.tbo _ (by omega) (by omega)) ⟨by decide, rfl⟩ dX3_sentOver_127 (by omega) (by omega) rfl ?_
      refine pb_top (v2 := .int (nI (pb_lay ta tb (A 14 (10 * a + i)) g))) (by rw [hF4, hF3, ← q2, ← q3]) ?_
      exact pb_ireturn dX3_sentOver_128 rfl (⟨rfl, hC, fun x hx => rfl⟩)
    · exact miss
set_option maxRecDepth 10000 in
theorem t_sentBack (w : pb_WF A) (hC : pb_CF A h0 h) {a b z : Nat} (ha : a < 10) (hb : b < 8) (hz : A 0 0 ≤ z) (hz2 : z ≤ 99) : pb_T Z mX0_sentBack 3 0 0 [.ref (110 + a), .ref 61, .int (nI b), .int (nI z)] h (fun v h' => v = some (.int (nI (pb_back A a z b))) ∧ pb_CF A h0 h' ∧ ∀ x, x < 1200 ∨ 1600 ≤ x → h' x = h x) := by
  have h13 := (w.area ha).2
  refine pb_T.of pnX0_sentBack (Nat.le_of_ble_eq_true rfl) (lv := [some (.ref (110 + a)), some (.ref 61), some (.int (nI b)), some (.int (nI z)), none, none]) rfl ?_
  have loop : ∀ (m i : Nat) (h' : pb_H), A 13 a - i < m → i ≤ A 13 a → pb_CF A h0 h' → (∀ x, x < 1200 ∨ 1600 ≤ x → h' x = h x) → pb_S Z mX0_sentBack 3 0 0 (fun v h' => v = some (.int (nI (pb_back A a z b))) ∧ pb_CF A h0 h' ∧ ∀ x, x < 1200 ∨ 1600 ≤ x → h' x = h x) 9 [some (.ref (110 + a)), some (.ref 61), some (.int (nI b)), some (.int (nI z)), some (.int (nI (pb_bk A a b z i))), some (.int (nI i))] [] h' := by
    intro m
    induction m with
    | zero => intro i h' g1; omega
    | succ m ih =>
      intro i h' g1 g2 hC nb
      have hare := hC.are a ha
      have harl := hC.arl a ha
      refine pb_iload (pc2 := 11) dX0_sentBack_9 rfl rfl ?_
      refine pb_aload_n (pc2 := 12) dX0_sentBack_11 rfl rfl rfl ?_
      refine pb_getf (pc2 := 15) flX0_17_X0 rfl dX0_sentBack_12 (by first | assumption | exact hR.a rfl | exact hR.o | exact hC.o | exact hC.pal | exact hC.tub | exact hC.k _ _ rfl | exact hC.pot _ (by omega) | exact hC.are _ (by omega) | exact hC.arl _ (by omega) | exact hC.tbo _ (by omega) (by omega)) rfl rfl ?_
      refine pb_icmpN_ge (tgt := 41) (pc2 := 18) dX0_sentBack_15 (by decide) rfl (by omega) (by omega) (fun c => ?_) (fun c => ?_)
      · have e : i = A 13 a := by omega
        subst e
        refine pb_iload (pc2 := 43) dX0_sentBack_41 rfl rfl ?_
        exact pb_ireturn dX0_sentBack_43 rfl (⟨rfl, hC, nb⟩)
      · have hlyo := (hC.lyo a i ha (by omega) c).1
        refine pb_aload_n (pc2 := 19) dX0_sentBack_18 rfl rfl rfl ?_
        refine pb_getf (pc2 := 22) flX0_11_X0 rfl dX0_sentBack_19 (by first | assumption | exact hR.a rfl | exact hR.o | exact hC.o | exact hC.pal | exact hC.tub | exact hC.k _ _ rfl | exact hC.pot _ (by omega) | exact hC.are _ (by omega) | exact hC.arl _ (by omega) | exact hC.tbo _ (by omega) (by omega)) rfl rfl ?_
        refine pb_iload (pc2 := 24) dX0_sentBack_22 rfl rfl ?_
        refine pb_aald (pc2 := 25) (by first | assumption | exact hR.a rfl | exact hR.o | exact hC.o | exact hC.pal | exact hC.tub | exact hC.k _ _ rfl | exact hC.pot _ (by omega) | exact hC.are _ (by omega) | exact hC.arl _ (by omega) | exact hC.tbo _ (by omega) (by omega)) dX0_sentBack_24 (by decide) (by omega) (by omega) (cTo_at (by omega)) rfl ?_
        refine pb_top (v2 := .ref (1000 + (10 * a + i))) (by rw [Nat.add_assoc]) ?_
        refine pb_aload_n (pc2 := 26) dX0_sentBack_25 rfl rfl rfl ?_
        refine pb_iload_n (pc2 := 27) dX0_sentBack_26 rfl rfl rfl ?_
        refine pb_iload_n (pc2 := 28) dX0_sentBack_27 rfl rfl rfl ?_
        refine pb_iload (pc2 := 30) dX0_sentBack_28 rfl rfl ?_
        refine pb_callV (pc2 := 33) (k2 := 0) (n2 := 0) mwX3_sentOver pb_cl3.1 iwX3_sentOver seX3_sentOver rfl mlX0_28 dX0_sentBack_30 (by first | assumption | exact hR.a rfl | exact hR.o | exact hC.o | exact hC.pal | exact hC.tub | exact hC.k _ _ rfl | exact hC.pot _ (by omega) | exact hC.are _ (by omega) | exact hC.arl _ (by omega) | exact hC.tbo _ (by omega) (by omega)) (t_sentOver w hC ha c hb hz hz2 (pb_bk_le w ha i)) (by omega) (by omega) (by omega) rfl rfl (Nat.le_of_ble_eq_true rfl) rfl (fun v h2 q _ => ?_)
        obtain ⟨rfl, hC2, n2⟩ := q
        refine pb_istore (lv2 := [_, _, _, _, _, _]) (pc2 := 35) dX0_sentBack_33 (by decide) rfl rfl ?_
        refine pb_iincP (c0 := 1) (lv2 := [_, _, _, _, _, _]) (pc2 := 38) dX0_sentBack_35 rfl (by decide) rfl rfl ?_
        refine pb_goto (tgt := 9) dX0_sentBack_38 (by decide) ?_
        exact ih (i + 1) h2 (by omega) (by omega) hC2 (fun x hx => (n2 x hx).trans (nb x hx))
  have hare := hC.are a ha
  refine pb_aload_n (pc2 := 1) dX0_sentBack_0 rfl rfl rfl ?_
  refine pb_getf (pc2 := 4) flX0_21_X0 rfl dX0_sentBack_1 (by first | assumption | exact hR.a rfl | exact hR.o | exact hC.o | exact hC.pal | exact hC.tub | exact hC.k _ _ rfl | exact hC.pot _ (by omega) | exact hC.are _ (by omega) | exact hC.arl _ (by omega) | exact hC.tbo _ (by omega) (by omega)) rfl rfl ?_
  refine pb_istore (lv2 := [_, _, _, _, _, _]) (pc2 := 6) dX0_sentBack_4 (by decide) rfl rfl ?_
  refine pb_iconst (x := nI 0) (pc2 := 7) dX0_sentBack_6 (by decide) rfl ?_
  refine pb_istore (lv2 := [_, _, _, _, _, _]) (pc2 := 9) dX0_sentBack_7 (by decide) rfl rfl ?_
  exact loop (A 13 a + 1) 0 h (by omega) (by omega) hC (fun _ _ => rfl)
set_option maxRecDepth 10000 in
theorem t_sendFrom (w : pb_WF A) (hC : pb_CF A h0 h) {l a z : Nat} (hL : pb_LT A l h) (ha : a < 10) (hz : A 0 0 ≤ z) (hz2 : z ≤ 99) : pb_T Z mX11_sendFrom 4 0 0 [.ref 60, .ref (110 + a), .int (nI z)] h (fun v h' => v = none ∧ pb_CF A h0 h' ∧ pb_LT A l h' ∧ ∃ F : Nat → Nat, h' 67 = some (.inl (0, 8, fun j => nI (F j))) ∧ pb_shn A l F (pb_back A a z)) := by
  refine pb_T.of pnX11_sendFrom (Nat.le_of_ble_eq_true rfl) (lv := [some (.ref 60), some (.ref (110 + a)), some (.int (nI z)), none]) rfl ?_
  have loop : ∀ (m b : Nat) (F : Nat → Nat) (h' : pb_H), 8 - b < m → b ≤ 8 → pb_CF A h0 h' → pb_LT A l h' → h' 67 = some (.inl (0, 8, fun j => nI (F j))) → (∀ j, j < b → pb_sh A l j = 1 → F j = pb_back A a z j) → pb_S Z mX11_sendFrom 4 0 0 (fun v h' => v = none ∧ pb_CF A h0 h' ∧ pb_LT A l h' ∧ ∃ F : Nat → Nat, h' 67 = some (.inl (0, 8, fun j => nI (F j))) ∧ pb_shn A l F (pb_back A a z)) 2 [some (.ref 60), some (.ref (110 + a)), some (.int (nI z)), some (.int (nI b))] [] h' := by
    intro m
    induction m with
    | zero => intro b F h' g1; omega
    | succ m ih =>
      intro b F h' g1 g2 hC hL h67 hF
      refine pb_iload_n (pc2 := 3) dX11_sendFrom_2 rfl rfl rfl ?_
      refine pb_bipush (x := nI 8) (pc2 := 5) dX11_sendFrom_3 (by decide) rfl ?_
      refine pb_icmpN_ge (tgt := 42) (pc2 := 8) dX11_sendFrom_5 (by decide) rfl (by omega) (by omega) (fun q => ?_) (fun q => ?_)
      · have e : b = 8 := by omega
        subst e
        exact pb_return dX11_sendFrom_42 rfl (⟨rfl, hC, hL, F, h67, hF⟩)
      · obtain ⟨-, -, B, h76, hB⟩ := id hL
        have hsl := pb_sh_le A l b
        refine pb_aload_n (pc2 := 9) dX11_sendFrom_8 rfl rfl rfl ?_
        refine pb_getf (pc2 := 12) flX11_19_X11 rfl dX11_sendFrom_9 (by first | assumption | exact hR.a rfl | exact hR.o | exact hC.o | exact hC.pal | exact hC.tub | exact hC.k _ _ rfl | exact hC.pot _ (by omega) | exact hC.are _ (by omega) | exact hC.arl _ (by omega) | exact hC.tbo _ (by omega) (by omega)) rfl rfl ?_
        refine pb_getf (pc2 := 15) flX11_295_X4 rfl dX11_sendFrom_12 (by first | assumption | exact hR.a rfl | exact hR.o | exact hC.o | exact hC.pal | exact hC.tub | exact hC.k _ _ rfl | exact hC.pot _ (by omega) | exact hC.are _ (by omega) | exact hC.arl _ (by omega) | exact hC.tbo _ (by omega) (by omega)) rfl rfl ?_
        refine pb_iload_n (pc2 := 16) dX11_sendFrom_15 rfl rfl rfl ?_
        refine pb_baload (pc2 := 17) dX11_sendFrom_16 h76 q (by omega) rfl ?_
        refine pb_top (v2 := .int (nI (pb_sh A l b))) (by rw [hB b q]) ?_
        refine pb_ifN_eq (tgt := 36) (pc2 := 20) dX11_sendFrom_17 (by decide) rfl (by omega) (fun c => ?_) (fun c => ?_)
        · refine pb_iincP (c0 := 1) (lv2 := [_, _, _, _]) (pc2 := 39) dX11_sendFrom_36 rfl (by decide) rfl rfl ?_
          refine pb_goto (tgt := 2) dX11_sendFrom_39 (by decide) ?_
          refine ih (b + 1) F h' (by omega) (by omega) hC hL h67 (fun j hj hs => ?_)
          by_cases e : j = b
          · rw [e, c] at hs; omega
          · exact hF j (by omega) hs
        · refine pb_aload_n (pc2 := 21) dX11_sendFrom_20 rfl rfl rfl ?_
          refine pb_getf (pc2 := 24) flX11_44_X11 rfl dX11_sendFrom_21 (by first | assumption | exact hR.a rfl | exact hR.o | exact hC.o | exact hC.pal | exact hC.tub | exact hC.k _ _ rfl | exact hC.pot _ (by omega) | exact hC.are _ (by omega) | exact hC.arl _ (by omega) | exact hC.tbo _ (by omega) (by omega)) rfl rfl ?_
          refine pb_iload_n (pc2 := 25) dX11_sendFrom_24 rfl rfl rfl ?_
          refine pb_aload_n (pc2 := 26) dX11_sendFrom_25 rfl rfl rfl ?_
          refine pb_aload_n (pc2 := 27) dX11_sendFrom_26 rfl rfl rfl ?_
          refine pb_getf (pc2 := 30) flX11_12_X11 rfl dX11_sendFrom_27 (by first | assumption | exact hR.a rfl | exact hR.o | exact hC.o | exact hC.pal | exact hC.tub | exact hC.k _ _ rfl | exact hC.pot _ (by omega) | exact hC.are _ (by omega) | exact hC.arl _ (by omega) | exact hC.tbo _ (by omega) (by omega)) rfl rfl ?_
          refine pb_iload_n (pc2 := 31) dX11_sendFrom_30 rfl rfl rfl ?_
          refine pb_iload_n (pc2 := 32) dX11_sendFrom_31 rfl rfl rfl ?_
          refine pb_callV (pc2 := 35) (k2 := 0) (n2 := 0) mwX0_sentBack pb_cl0.1 iwX0_sentBack seX0_sentBack rfl mlX11_235 dX11_sendFrom_32 (by first | assumption | exact hR.a rfl | exact hR.o | exact hC.o | exact hC.pal | exact hC.tub | exact hC.k _ _ rfl | exact hC.pot _ (by omega) | exact hC.are _ (by omega) | exact hC.arl _ (by omega) | exact hC.tbo _ (by omega) (by omega)) (t_sentBack w hC ha q hz hz2) (by omega) (by omega) (by omega) rfl rfl (Nat.le_of_ble_eq_true rfl) rfl (fun v h2 q2 _ => ?_)
          obtain ⟨rfl, hC2, n2⟩ := q2
          have h67 := (n2 67 (by omega)).trans h67
          refine pb_iastG (pc2 := 36) h67 dX11_sendFrom_35 (by omega) q (by omega) rfl (fun h3 h67 n3 => ?_)
          refine pb_iincP (c0 := 1) (lv2 := [_, _, _, _]) (pc2 := 39) dX11_sendFrom_36 rfl (by decide) rfl rfl ?_
          refine pb_goto (tgt := 2) dX11_sendFrom_39 (by decide) ?_
          refine ih (b + 1) _ h3 (by omega) (by omega) (hC2.sc (a := 67) rfl h67 n3) (hL.up (fun x x1 x2 => (n3 x (by omega)).trans (n2 x (by omega)))) h67 (fun j hj hs => ?_)
          by_cases e : j = b
          · rw [e, pb_un_self]
          · rw [pb_un_ne _ _ e]; exact hF j (by omega) hs
  obtain ⟨F, h67⟩ := hC.s 67 8 rfl
  refine pb_iconst (x := nI 0) (pc2 := 1) dX11_sendFrom_0 (by decide) rfl ?_
  refine pb_istore_n (lv2 := [_, _, _, _]) (pc2 := 2) dX11_sendFrom_1 rfl (by decide) rfl rfl ?_
  exact loop 9 0 F h (by omega) (by omega) hC hL h67 (fun j hj => by omega)
theorem c_back (w : pb_WF A) (hC : pb_CF A h h) (a b z : Int32) : pb_T Z mX11_back 4 0 0 [.ref 60, .int a, .int b, .int z] h (pb_PC (sp_back A a b z) h) := by
  have hy := w.year
  refine pb_T.of pnX11_back (Nat.le_of_ble_eq_true rfl) (lv := [some (.ref 60), some (.int a), some (.int b), some (.int z), none]) rfl ?_
  first | refine pb_aload_n (pc2 := 1) dX11_back_0 rfl rfl rfl ?_ | refine pb_aload_nN (pc2 := 1) dX11_back_0 rfl rfl rfl ?_
  refine pb_iload_n (pc2 := 2) dX11_back_1 rfl rfl rfl ?_
  refine pb_callV (pc2 := 5) (k2 := 0) (n2 := 0) mwX11_areaAt pb_cl9.1 iwX11_areaAt seX11_areaAt rfl mlX11_213 dX11_back_2 (by first | assumption | exact hR.a rfl | exact hR.o | exact hC.o | exact hC.pal | exact hC.tub | exact hC.k _ _ rfl | exact hC.pot _ (by omega) | exact hC.are _ (by omega) | exact hC.arl _ (by omega) | exact hC.tbo _ (by omega) (by omega)) (t_areaAt hC a) (by omega) (by omega) (by omega) rfl rfl (Nat.le_of_ble_eq_true rfl) rfl (pb_kRef (fun a ha e => ?_) (fun q => ?_))
  · subst e
    first | refine pb_astore (lv2 := [_, _, _, _, _]) (pc2 := 7) dX11_back_5 (by decide) rfl rfl ?_ | refine pb_astoreN (lv2 := [_, _, _, _, _]) (pc2 := 7) dX11_back_5 (by decide) rfl rfl ?_
    first | refine pb_aload (pc2 := 9) dX11_back_7 rfl rfl ?_ | refine pb_aloadN (pc2 := 9) dX11_back_7 rfl rfl ?_
    refine pb_ifnull (pc2 := 12) dX11_back_9 rfl ?_
    refine pb_iload_n (pc2 := 13) dX11_back_12 rfl rfl rfl ?_
    refine pb_callS (pc2 := 16) (k2 := 0) (n2 := 0) mwX11_isBand swX11_isBand rfl mlX11_98 dX11_back_13 (t_isBand b) (by omega) (by omega) (by omega) rfl rfl (Nat.le_of_ble_eq_true rfl) rfl (pb_kB ?_ ?_)
    rotate_left
    · intro q1
      refine pb_ifT_eq (tgt := 32) dX11_back_16 (by decide) rfl ?_
      refine pb_iconst (x := -1) (pc2 := 33) dX11_back_32 (by decide) rfl ?_
      exact pb_ireturn dX11_back_33 rfl (pb_finC (if_neg (fun z => q1 z.2.1)) hC)
    intro q1
    refine pb_ifF_eq (tgt := 32) (pc2 := 19) dX11_back_16 (by decide) rfl (by decide) ?_
    refine pb_iload_n (pc2 := 20) dX11_back_19 rfl rfl rfl ?_
    first | refine pb_aload_n (pc2 := 21) dX11_back_20 rfl rfl rfl ?_ | refine pb_aload_nN (pc2 := 21) dX11_back_20 rfl rfl rfl ?_
    refine pb_getf (pc2 := 24) flX11_72_X11 rfl dX11_back_21 (by first | assumption | exact hR.a rfl | exact hR.o | exact hC.o | exact hC.pal | exact hC.tub | exact hC.k _ _ rfl | exact hC.pot _ (by omega) | exact hC.are _ (by omega) | exact hC.arl _ (by omega) | exact hC.tbo _ (by omega) (by omega)) rfl rfl ?_
    refine pb_bipush (x := nI 99) (pc2 := 26) dX11_back_24 (by decide) rfl ?_
    refine pb_callS (pc2 := 29) (k2 := 0) (n2 := 0) mwX11_between swX11_between rfl mlX11_77 dX11_back_26 (t_between z (nI (A 0 0)) (nI 99)) (by omega) (by omega) (by omega) rfl rfl (Nat.le_of_ble_eq_true rfl) rfl (pb_kB ?_ ?_)
    rotate_left
    · intro q2
      refine pb_ifF_ne (tgt := 34) (pc2 := 32) dX11_back_29 rfl rfl (by decide) ?_
      refine pb_iconst (x := -1) (pc2 := 33) dX11_back_32 (by decide) rfl ?_
      exact pb_ireturn dX11_back_33 rfl (pb_finC (if_neg (fun z => q2 z.2.2)) hC)
    intro q2
    refine pb_ifT_ne (tgt := 34) dX11_back_29 (by decide) (by decide) ?_
    have e0 : sp_back A (nI a) b z = _ := if_pos ⟨pb_in_mk (by omega) (by omega) (by omega), q1, q2⟩
    rw [e0]
    obtain ⟨b, -, hb, rfl⟩ := nI_rng (by omega) q1 (by omega)
    obtain ⟨z, hz1, hz, rfl⟩ := nI_rng (by omega) q2 (by omega)
    rw [pb_natN (by omega), pb_natN (by omega), pb_natN (by omega)]
    first | refine pb_aload (pc2 := 36) dX11_back_34 rfl rfl ?_ | refine pb_aloadN (pc2 := 36) dX11_back_34 rfl rfl ?_
    first | refine pb_aload_n (pc2 := 37) dX11_back_36 rfl rfl rfl ?_ | refine pb_aload_nN (pc2 := 37) dX11_back_36 rfl rfl rfl ?_
    refine pb_getf (pc2 := 40) flX11_12_X11 rfl dX11_back_37 (by first | assumption | exact hR.a rfl | exact hR.o | exact hC.o | exact hC.pal | exact hC.tub | exact hC.k _ _ rfl | exact hC.pot _ (by omega) | exact hC.are _ (by omega) | exact hC.arl _ (by omega) | exact hC.tbo _ (by omega) (by omega)) rfl rfl ?_
    refine pb_iload_n (pc2 := 41) dX11_back_40 rfl rfl rfl ?_
    refine pb_iload_n (pc2 := 42) dX11_back_41 rfl rfl rfl ?_
    refine pb_callV (pc2 := 45) (k2 := 0) (n2 := 0) mwX0_sentBack pb_cl0.1 iwX0_sentBack seX0_sentBack rfl mlX11_235 dX11_back_42 (by first | assumption | exact hR.a rfl | exact hR.o | exact hC.o | exact hC.pal | exact hC.tub | exact hC.k _ _ rfl | exact hC.pot _ (by omega) | exact hC.are _ (by omega) | exact hC.arl _ (by omega) | exact hC.tbo _ (by omega) (by omega)) (t_sentBack w hC ha (show b < 8 by omega) hz1 hz) (by omega) (by omega) (by omega) rfl rfl (Nat.le_of_ble_eq_true rfl) rfl (fun v h1 q _ => ?_)
    obtain ⟨rfl, hC1, -⟩ := q
    exact pb_ireturn dX11_back_45 rfl (pb_finC rfl hC1)
  · first | refine pb_astore (lv2 := [_, _, _, _, _]) (pc2 := 7) dX11_back_5 (by decide) rfl rfl ?_ | refine pb_astoreN (lv2 := [_, _, _, _, _]) (pc2 := 7) dX11_back_5 (by decide) rfl rfl ?_
    first | refine pb_aload (pc2 := 9) dX11_back_7 rfl rfl ?_ | refine pb_aloadN (pc2 := 9) dX11_back_7 rfl rfl ?_
    refine pb_ifnullN (tgt := 32) dX11_back_9 (by decide) ?_
    refine pb_iconst (x := -1) (pc2 := 33) dX11_back_32 (by decide) rfl ?_
    exact pb_ireturn dX11_back_33 rfl (pb_finC (if_neg (fun z => q z.1)) hC)
theorem c_look (w : pb_WF A) (hC : pb_CF A h h) (a l s : Int32) : pb_T Z mX11_look 5 0 0 [.ref 60, .int a, .int l, .int s] h (pb_PC (sp_look A a l s) h) := by
  have hy := w.year
  refine pb_T.of pnX11_look (Nat.le_of_ble_eq_true rfl) (lv := [some (.ref 60), some (.int a), some (.int l), some (.int s), none]) rfl ?_
  first | refine pb_aload_n (pc2 := 1) dX11_look_0 rfl rfl rfl ?_ | refine pb_aload_nN (pc2 := 1) dX11_look_0 rfl rfl rfl ?_
  refine pb_iload_n (pc2 := 2) dX11_look_1 rfl rfl rfl ?_
  refine pb_callV (pc2 := 5) (k2 := 0) (n2 := 0) mwX11_areaAt pb_cl9.1 iwX11_areaAt seX11_areaAt rfl mlX11_213 dX11_look_2 (by first | assumption | exact hR.a rfl | exact hR.o | exact hC.o | exact hC.pal | exact hC.tub | exact hC.k _ _ rfl | exact hC.pot _ (by omega) | exact hC.are _ (by omega) | exact hC.arl _ (by omega) | exact hC.tbo _ (by omega) (by omega)) (t_areaAt hC a) (by omega) (by omega) (by omega) rfl rfl (Nat.le_of_ble_eq_true rfl) rfl (pb_kRef (fun a ha e => ?_) (fun q => ?_))
  · subst e
    first | refine pb_astore (lv2 := [_, _, _, _, _]) (pc2 := 7) dX11_look_5 (by decide) rfl rfl ?_ | refine pb_astoreN (lv2 := [_, _, _, _, _]) (pc2 := 7) dX11_look_5 (by decide) rfl rfl ?_
    first | refine pb_aload (pc2 := 9) dX11_look_7 rfl rfl ?_ | refine pb_aloadN (pc2 := 9) dX11_look_7 rfl rfl ?_
    refine pb_ifnull (pc2 := 12) dX11_look_9 rfl ?_
    refine pb_iload_n (pc2 := 13) dX11_look_12 rfl rfl rfl ?_
    refine pb_callS (pc2 := 16) (k2 := 0) (n2 := 0) mwX11_isLamp swX11_isLamp rfl mlX11_131 dX11_look_13 (t_isLamp l) (by omega) (by omega) (by omega) rfl rfl (Nat.le_of_ble_eq_true rfl) rfl (pb_kB ?_ ?_)
    rotate_left
    · intro q1
      refine pb_ifT_eq (tgt := 26) dX11_look_16 (by decide) rfl ?_
      refine pb_iconst (x := -1) (pc2 := 27) dX11_look_26 (by decide) rfl ?_
      exact pb_ireturn dX11_look_27 rfl (pb_finC (if_neg (fun z => q1 z.2.1)) hC)
    intro q1
    refine pb_ifF_eq (tgt := 26) (pc2 := 19) dX11_look_16 (by decide) rfl (by decide) ?_
    refine pb_iload_n (pc2 := 20) dX11_look_19 rfl rfl rfl ?_
    refine pb_callS (pc2 := 23) (k2 := 0) (n2 := 0) mwX11_isSight swX11_isSight rfl mlX11_141 dX11_look_20 (t_isSight s) (by omega) (by omega) (by omega) rfl rfl (Nat.le_of_ble_eq_true rfl) rfl (pb_kB ?_ ?_)
    rotate_left
    · intro q2
      refine pb_ifF_ne (tgt := 28) (pc2 := 26) dX11_look_23 rfl rfl (by decide) ?_
      refine pb_iconst (x := -1) (pc2 := 27) dX11_look_26 (by decide) rfl ?_
      exact pb_ireturn dX11_look_27 rfl (pb_finC (if_neg (fun z => q2 z.2.2)) hC)
    intro q2
    refine pb_ifT_ne (tgt := 28) dX11_look_23 (by decide) (by decide) ?_
    have e0 : sp_look A (nI a) l s = _ := if_pos ⟨pb_in_mk (by omega) (by omega) (by omega), q1, q2⟩
    rw [e0]
    obtain ⟨l, -, hl, rfl⟩ := nI_rng (by omega) q1 (by omega)
    obtain ⟨s, -, hs, rfl⟩ := nI_rng (by omega) q2 (by omega)
    rw [pb_natN (by omega), pb_natN (by omega), pb_natN (by omega)]
    first | refine pb_aload_n (pc2 := 29) dX11_look_28 rfl rfl rfl ?_ | refine pb_aload_nN (pc2 := 29) dX11_look_28 rfl rfl rfl ?_
    refine pb_getf (pc2 := 32) flX11_19_X11 rfl dX11_look_29 (by first | assumption | exact hR.a rfl | exact hR.o | exact hC.o | exact hC.pal | exact hC.tub | exact hC.k _ _ rfl | exact hC.pot _ (by omega) | exact hC.are _ (by omega) | exact hC.arl _ (by omega) | exact hC.tbo _ (by omega) (by omega)) rfl rfl ?_
    refine pb_iload_n (pc2 := 33) dX11_look_32 rfl rfl rfl ?_
    refine pb_callV (pc2 := 36) (k2 := 0) (n2 := 0) mwX4_shine pb_cl4.1 iwX4_shine seX4_shine rfl mlX11_174 dX11_look_33 (by first | assumption | exact hR.a rfl | exact hR.o | exact hC.o | exact hC.pal | exact hC.tub | exact hC.k _ _ rfl | exact hC.pot _ (by omega) | exact hC.are _ (by omega) | exact hC.arl _ (by omega) | exact hC.tbo _ (by omega) (by omega)) (t_shine w hC (show l < 4 by omega)) (by omega) (by omega) (by omega) rfl rfl (Nat.le_of_ble_eq_true rfl) rfl (fun v h1 q _ => ?_)
    obtain ⟨rfl, hC1, hL1, -⟩ := q
    clear hC
    have hC := hC1
    first | refine pb_aload_n (pc2 := 37) dX11_look_36 rfl rfl rfl ?_ | refine pb_aload_nN (pc2 := 37) dX11_look_36 rfl rfl rfl ?_
    first | refine pb_aload (pc2 := 39) dX11_look_37 rfl rfl ?_ | refine pb_aloadN (pc2 := 39) dX11_look_37 rfl rfl ?_
    first | refine pb_aload_n (pc2 := 40) dX11_look_39 rfl rfl rfl ?_ | refine pb_aload_nN (pc2 := 40) dX11_look_39 rfl rfl rfl ?_
    refine pb_getf (pc2 := 43) flX11_72_X11 rfl dX11_look_40 (by first | assumption | exact hR.a rfl | exact hR.o | exact hC.o | exact hC.pal | exact hC.tub | exact hC.k _ _ rfl | exact hC.pot _ (by omega) | exact hC.are _ (by omega) | exact hC.arl _ (by omega) | exact hC.tbo _ (by omega) (by omega)) rfl rfl ?_
    refine pb_callV (pc2 := 46) (k2 := 0) (n2 := 0) mwX11_sendFrom pb_cl9.1 iwX11_sendFrom seX11_sendFrom rfl mlX11_238 dX11_look_43 (by first | assumption | exact hR.a rfl | exact hR.o | exact hC.o | exact hC.pal | exact hC.tub | exact hC.k _ _ rfl | exact hC.pot _ (by omega) | exact hC.are _ (by omega) | exact hC.arl _ (by omega) | exact hC.tbo _ (by omega) (by omega)) (t_sendFrom w hC hL1 ha (Nat.le_refl _) hy) (by omega) (by omega) (by omega) rfl rfl (Nat.le_of_ble_eq_true rfl) rfl (fun v h2 q _ => ?_)
    obtain ⟨rfl, hC2, hL2, F, h67, hF⟩ := q
    clear hC hC1
    have hC := hC2
    first | refine pb_aload_n (pc2 := 47) dX11_look_46 rfl rfl rfl ?_ | refine pb_aload_nN (pc2 := 47) dX11_look_46 rfl rfl rfl ?_
    refine pb_getf (pc2 := 50) flX11_19_X11 rfl dX11_look_47 (by first | assumption | exact hR.a rfl | exact hR.o | exact hC.o | exact hC.pal | exact hC.tub | exact hC.k _ _ rfl | exact hC.pot _ (by omega) | exact hC.are _ (by omega) | exact hC.arl _ (by omega) | exact hC.tbo _ (by omega) (by omega)) rfl rfl ?_
    refine pb_iload_n (pc2 := 51) dX11_look_50 rfl rfl rfl ?_
    first | refine pb_aload_n (pc2 := 52) dX11_look_51 rfl rfl rfl ?_ | refine pb_aload_nN (pc2 := 52) dX11_look_51 rfl rfl rfl ?_
    refine pb_getf (pc2 := 55) flX11_44_X11 rfl dX11_look_52 (by first | assumption | exact hR.a rfl | exact hR.o | exact hC.o | exact hC.pal | exact hC.tub | exact hC.k _ _ rfl | exact hC.pot _ (by omega) | exact hC.are _ (by omega) | exact hC.arl _ (by omega) | exact hC.tbo _ (by omega) (by omega)) rfl rfl ?_
    refine pb_callV (pc2 := 58) (k2 := 0) (n2 := 0) mwX4_bySight pb_cl4.1 iwX4_bySight seX4_bySight rfl mlX11_178 dX11_look_55 (by first | assumption | exact hR.a rfl | exact hR.o | exact hC.o | exact hC.pal | exact hC.tub | exact hC.k _ _ rfl | exact hC.pot _ (by omega) | exact hC.are _ (by omega) | exact hC.arl _ (by omega) | exact hC.tbo _ (by omega) (by omega)) (t_bySight w hC hL2 (show l < 4 by omega) (show s < 3 by omega) h67 (fun b hb c => by rw [hF b hb (pb_sh_w (by omega) c)]; exact pb_back_le w ha)) (by omega) (by omega) (by omega) rfl rfl (Nat.le_of_ble_eq_true rfl) rfl (pb_kE ?_)
    refine pb_top (v2 := .int (nI (pb_see A l s (pb_back A a (A 0 0))))) (by rw [hF.see (by omega)]) ?_
    exact pb_ireturn dX11_look_58 rfl (pb_finC rfl hC)
  · first | refine pb_astore (lv2 := [_, _, _, _, _]) (pc2 := 7) dX11_look_5 (by decide) rfl rfl ?_ | refine pb_astoreN (lv2 := [_, _, _, _, _]) (pc2 := 7) dX11_look_5 (by decide) rfl rfl ?_
    first | refine pb_aload (pc2 := 9) dX11_look_7 rfl rfl ?_ | refine pb_aloadN (pc2 := 9) dX11_look_7 rfl rfl ?_
    refine pb_ifnullN (tgt := 26) dX11_look_9 (by decide) ?_
    refine pb_iconst (x := -1) (pc2 := 27) dX11_look_26 (by decide) rfl ?_
    exact pb_ireturn dX11_look_27 rfl (pb_finC (if_neg (fun z => q z.1)) hC)
theorem c_apart (w : pb_WF A) (hC : pb_CF A h h) (a l : Int32) : pb_T Z mX11_apart 5 0 0 [.ref 60, .int a, .int l] h (pb_PC (sp_apart A a l) h) := by
  have hy := w.year
  refine pb_T.of pnX11_apart (Nat.le_of_ble_eq_true rfl) (lv := [some (.ref 60), some (.int a), some (.int l), none]) rfl ?_
  first | refine pb_aload_n (pc2 := 1) dX11_apart_0 rfl rfl rfl ?_ | refine pb_aload_nN (pc2 := 1) dX11_apart_0 rfl rfl rfl ?_
  refine pb_iload_n (pc2 := 2) dX11_apart_1 rfl rfl rfl ?_
  refine pb_callV (pc2 := 5) (k2 := 0) (n2 := 0) mwX11_areaAt pb_cl9.1 iwX11_areaAt seX11_areaAt rfl mlX11_213 dX11_apart_2 (by first | assumption | exact hR.a rfl | exact hR.o | exact hC.o | exact hC.pal | exact hC.tub | exact hC.k _ _ rfl | exact hC.pot _ (by omega) | exact hC.are _ (by omega) | exact hC.arl _ (by omega) | exact hC.tbo _ (by omega) (by omega)) (t_areaAt hC a) (by omega) (by omega) (by omega) rfl rfl (Nat.le_of_ble_eq_true rfl) rfl (pb_kRef (fun a ha e => ?_) (fun q => ?_))
  · subst e
    first | refine pb_astore_n (lv2 := [_, _, _, _]) (pc2 := 6) dX11_apart_5 rfl (by decide) rfl rfl ?_ | refine pb_astore_nN (lv2 := [_, _, _, _]) (pc2 := 6) dX11_apart_5 rfl (by decide) rfl rfl ?_
    first | refine pb_aload_n (pc2 := 7) dX11_apart_6 rfl rfl rfl ?_ | refine pb_aload_nN (pc2 := 7) dX11_apart_6 rfl rfl rfl ?_
    refine pb_ifnull (pc2 := 10) dX11_apart_7 rfl ?_
    refine pb_iload_n (pc2 := 11) dX11_apart_10 rfl rfl rfl ?_
    refine pb_callS (pc2 := 14) (k2 := 0) (n2 := 0) mwX11_isLamp swX11_isLamp rfl mlX11_131 dX11_apart_11 (t_isLamp l) (by omega) (by omega) (by omega) rfl rfl (Nat.le_of_ble_eq_true rfl) rfl (pb_kB ?_ ?_)
    rotate_left
    · intro q1
      refine pb_ifF_ne (tgt := 19) (pc2 := 17) dX11_apart_14 rfl rfl (by decide) ?_
      refine pb_iconst (x := -1) (pc2 := 18) dX11_apart_17 (by decide) rfl ?_
      exact pb_ireturn dX11_apart_18 rfl (pb_finC (if_neg (fun z => q1 z.2)) hC)
    intro q1
    refine pb_ifT_ne (tgt := 19) dX11_apart_14 (by decide) (by decide) ?_
    have e0 : sp_apart A (nI a) l = _ := if_pos ⟨pb_in_mk (by omega) (by omega) (by omega), q1⟩
    rw [e0]
    obtain ⟨l, -, hl, rfl⟩ := nI_rng (by omega) q1 (by omega)
    rw [pb_natN (by omega), pb_natN (by omega)]
    first | refine pb_aload_n (pc2 := 20) dX11_apart_19 rfl rfl rfl ?_ | refine pb_aload_nN (pc2 := 20) dX11_apart_19 rfl rfl rfl ?_
    refine pb_getf (pc2 := 23) flX11_19_X11 rfl dX11_apart_20 (by first | assumption | exact hR.a rfl | exact hR.o | exact hC.o | exact hC.pal | exact hC.tub | exact hC.k _ _ rfl | exact hC.pot _ (by omega) | exact hC.are _ (by omega) | exact hC.arl _ (by omega) | exact hC.tbo _ (by omega) (by omega)) rfl rfl ?_
    refine pb_iload_n (pc2 := 24) dX11_apart_23 rfl rfl rfl ?_
    refine pb_callV (pc2 := 27) (k2 := 0) (n2 := 0) mwX4_shine pb_cl4.1 iwX4_shine seX4_shine rfl mlX11_174 dX11_apart_24 (by first | assumption | exact hR.a rfl | exact hR.o | exact hC.o | exact hC.pal | exact hC.tub | exact hC.k _ _ rfl | exact hC.pot _ (by omega) | exact hC.are _ (by omega) | exact hC.arl _ (by omega) | exact hC.tbo _ (by omega) (by omega)) (t_shine w hC (show l < 4 by omega)) (by omega) (by omega) (by omega) rfl rfl (Nat.le_of_ble_eq_true rfl) rfl (fun v h1 q _ => ?_)
    obtain ⟨rfl, hC1, hL1, -⟩ := q
    clear hC
    have hC := hC1
    first | refine pb_aload_n (pc2 := 28) dX11_apart_27 rfl rfl rfl ?_ | refine pb_aload_nN (pc2 := 28) dX11_apart_27 rfl rfl rfl ?_
    first | refine pb_aload_n (pc2 := 29) dX11_apart_28 rfl rfl rfl ?_ | refine pb_aload_nN (pc2 := 29) dX11_apart_28 rfl rfl rfl ?_
    first | refine pb_aload_n (pc2 := 30) dX11_apart_29 rfl rfl rfl ?_ | refine pb_aload_nN (pc2 := 30) dX11_apart_29 rfl rfl rfl ?_
    refine pb_getf (pc2 := 33) flX11_72_X11 rfl dX11_apart_30 (by first | assumption | exact hR.a rfl | exact hR.o | exact hC.o | exact hC.pal | exact hC.tub | exact hC.k _ _ rfl | exact hC.pot _ (by omega) | exact hC.are _ (by omega) | exact hC.arl _ (by omega) | exact hC.tbo _ (by omega) (by omega)) rfl rfl ?_
    refine pb_callV (pc2 := 36) (k2 := 0) (n2 := 0) mwX11_sendFrom pb_cl9.1 iwX11_sendFrom seX11_sendFrom rfl mlX11_238 dX11_apart_33 (by first | assumption | exact hR.a rfl | exact hR.o | exact hC.o | exact hC.pal | exact hC.tub | exact hC.k _ _ rfl | exact hC.pot _ (by omega) | exact hC.are _ (by omega) | exact hC.arl _ (by omega) | exact hC.tbo _ (by omega) (by omega)) (t_sendFrom w hC hL1 ha (Nat.le_refl _) hy) (by omega) (by omega) (by omega) rfl rfl (Nat.le_of_ble_eq_true rfl) rfl (fun v h2 q _ => ?_)
    obtain ⟨rfl, hC2, hL2, F, h67, hF⟩ := q
    clear hC hC1
    have hC := hC2
    obtain ⟨T, h65, hT⟩ := hC.wan
    have hT2 : ∀ i, i < 3 → T i ≤ 10000 := fun i hi => by rw [hT i hi]; exact w.tone hi
    first | refine pb_aload_n (pc2 := 37) dX11_apart_36 rfl rfl rfl ?_ | refine pb_aload_nN (pc2 := 37) dX11_apart_36 rfl rfl rfl ?_
    refine pb_getf (pc2 := 40) flX11_19_X11 rfl dX11_apart_37 (by first | assumption | exact hR.a rfl | exact hR.o | exact hC.o | exact hC.pal | exact hC.tub | exact hC.k _ _ rfl | exact hC.pot _ (by omega) | exact hC.are _ (by omega) | exact hC.arl _ (by omega) | exact hC.tbo _ (by omega) (by omega)) rfl rfl ?_
    first | refine pb_aload_n (pc2 := 41) dX11_apart_40 rfl rfl rfl ?_ | refine pb_aload_nN (pc2 := 41) dX11_apart_40 rfl rfl rfl ?_
    refine pb_getf (pc2 := 44) flX11_35_X11 rfl dX11_apart_41 (by first | assumption | exact hR.a rfl | exact hR.o | exact hC.o | exact hC.pal | exact hC.tub | exact hC.k _ _ rfl | exact hC.pot _ (by omega) | exact hC.are _ (by omega) | exact hC.arl _ (by omega) | exact hC.tbo _ (by omega) (by omega)) rfl rfl ?_
    first | refine pb_aload_n (pc2 := 45) dX11_apart_44 rfl rfl rfl ?_ | refine pb_aload_nN (pc2 := 45) dX11_apart_44 rfl rfl rfl ?_
    refine pb_getf (pc2 := 48) flX11_44_X11 rfl dX11_apart_45 (by first | assumption | exact hR.a rfl | exact hR.o | exact hC.o | exact hC.pal | exact hC.tub | exact hC.k _ _ rfl | exact hC.pot _ (by omega) | exact hC.are _ (by omega) | exact hC.arl _ (by omega) | exact hC.tbo _ (by omega) (by omega)) rfl rfl ?_
    refine pb_callV (pc2 := 51) (k2 := 0) (n2 := 0) mwX4_farFrom pb_cl4.1 iwX4_farFrom seX4_farFrom rfl mlX11_242 dX11_apart_48 (by first | assumption | exact hR.a rfl | exact hR.o | exact hC.o | exact hC.pal | exact hC.tub | exact hC.k _ _ rfl | exact hC.pot _ (by omega) | exact hC.are _ (by omega) | exact hC.arl _ (by omega) | exact hC.tbo _ (by omega) (by omega)) (t_farFrom w hC hL2 (show l < 4 by omega) h67 (fun s b hs hb c => by rw [hF b hb (pb_sh_w hs c)]; exact pb_back_le w ha) h65 hT2 (fun s hs => by rw [hF.see hs]; exact pb_see_le (fun b hb => pb_back_le w ha))) (by omega) (by omega) (by omega) rfl rfl (Nat.le_of_ble_eq_true rfl) rfl (pb_kE ?_)
    refine pb_top (v2 := .int (nI (pb_fy A a l (A 0 0)))) (by rw [hF.far, hT 0 (by omega), hT 1 (by omega), hT 2 (by omega)]; rfl) ?_
    exact pb_ireturn dX11_apart_51 rfl (pb_finC rfl hC)
  · first | refine pb_astore_n (lv2 := [_, _, _, _]) (pc2 := 6) dX11_apart_5 rfl (by decide) rfl rfl ?_ | refine pb_astore_nN (lv2 := [_, _, _, _]) (pc2 := 6) dX11_apart_5 rfl (by decide) rfl rfl ?_
    first | refine pb_aload_n (pc2 := 7) dX11_apart_6 rfl rfl rfl ?_ | refine pb_aload_nN (pc2 := 7) dX11_apart_6 rfl rfl rfl ?_
    refine pb_ifnullN (tgt := 17) dX11_apart_7 (by decide) ?_
    refine pb_iconst (x := -1) (pc2 := 18) dX11_apart_17 (by decide) rfl ?_
    exact pb_ireturn dX11_apart_18 rfl (pb_finC (if_neg (fun z => q z.1)) hC)
set_option maxRecDepth 10000 in
theorem c_missed (w : pb_WF A) (hC : pb_CF A h h) (a l d : Int32) : pb_T Z mX11_missed 5 0 0 [.ref 60, .int a, .int l, .int d] h (pb_PC (sp_missed A a l d) h) := by
  have hy := w.year
  refine pb_T.of pnX11_missed (Nat.le_of_ble_eq_true rfl) (lv := [some (.ref 60), some (.int a), some (.int l), some (.int d), none, none]) rfl ?_
  first | refine pb_aload_n (pc2 := 1) dX11_missed_0 rfl rfl rfl ?_ | refine pb_aload_nN (pc2 := 1) dX11_missed_0 rfl rfl rfl ?_
  refine pb_iload_n (pc2 := 2) dX11_missed_1 rfl rfl rfl ?_
  refine pb_callV (pc2 := 5) (k2 := 0) (n2 := 0) mwX11_areaAt pb_cl9.1 iwX11_areaAt seX11_areaAt rfl mlX11_213 dX11_missed_2 (by first | assumption | exact hR.a rfl | exact hR.o | exact hC.o | exact hC.pal | exact hC.tub | exact hC.k _ _ rfl | exact hC.pot _ (by omega) | exact hC.are _ (by omega) | exact hC.arl _ (by omega) | exact hC.tbo _ (by omega) (by omega)) (t_areaAt hC a) (by omega) (by omega) (by omega) rfl rfl (Nat.le_of_ble_eq_true rfl) rfl (pb_kRef (fun a ha e => ?_) (fun q => ?_))
  · subst e
    first | refine pb_astore (lv2 := [_, _, _, _, _, _]) (pc2 := 7) dX11_missed_5 (by decide) rfl rfl ?_ | refine pb_astoreN (lv2 := [_, _, _, _, _, _]) (pc2 := 7) dX11_missed_5 (by decide) rfl rfl ?_
    first | refine pb_aload (pc2 := 9) dX11_missed_7 rfl rfl ?_ | refine pb_aloadN (pc2 := 9) dX11_missed_7 rfl rfl ?_
    refine pb_ifnull (pc2 := 12) dX11_missed_9 rfl ?_
    refine pb_iload_n (pc2 := 13) dX11_missed_12 rfl rfl rfl ?_
    refine pb_callS (pc2 := 16) (k2 := 0) (n2 := 0) mwX11_isLamp swX11_isLamp rfl mlX11_131 dX11_missed_13 (t_isLamp l) (by omega) (by omega) (by omega) rfl rfl (Nat.le_of_ble_eq_true rfl) rfl (pb_kB ?_ ?_)
    rotate_left
    · intro q1
      refine pb_ifT_eq (tgt := 30) dX11_missed_16 (by decide) rfl ?_
      refine pb_iconst (x := -1) (pc2 := 31) dX11_missed_30 (by decide) rfl ?_
      exact pb_ireturn dX11_missed_31 rfl (pb_finC (if_neg (fun z => q1 z.2.1)) hC)
    intro q1
    refine pb_ifF_eq (tgt := 30) (pc2 := 19) dX11_missed_16 (by decide) rfl (by decide) ?_
    refine pb_iload_n (pc2 := 20) dX11_missed_19 rfl rfl rfl ?_
    refine pb_iconst (x := nI 0) (pc2 := 21) dX11_missed_20 (by decide) rfl ?_
    refine pb_sipush (x := nI 30000) (pc2 := 24) dX11_missed_21 (by decide) rfl ?_
    refine pb_callS (pc2 := 27) (k2 := 0) (n2 := 0) mwX11_between swX11_between rfl mlX11_77 dX11_missed_24 (t_between d (nI 0) (nI 30000)) (by omega) (by omega) (by omega) rfl rfl (Nat.le_of_ble_eq_true rfl) rfl (pb_kB ?_ ?_)
    rotate_left
    · intro q2
      refine pb_ifF_ne (tgt := 32) (pc2 := 30) dX11_missed_27 rfl rfl (by decide) ?_
      refine pb_iconst (x := -1) (pc2 := 31) dX11_missed_30 (by decide) rfl ?_
      exact pb_ireturn dX11_missed_31 rfl (pb_finC (if_neg (fun z => q2 z.2.2)) hC)
    intro q2
    refine pb_ifT_ne (tgt := 32) dX11_missed_27 (by decide) (by decide) ?_
    have e0 : sp_missed A (nI a) l d = _ := if_pos ⟨pb_in_mk (by omega) (by omega) (by omega), q1, q2⟩
    rw [e0]
    obtain ⟨l, -, hl, rfl⟩ := nI_rng (by omega) q1 (by omega)
    obtain ⟨d, -, hd, rfl⟩ := nI_rng (by omega) q2 (by omega)
    rw [pb_natN (by omega), pb_natN (by omega), pb_natN (by omega)]
    have hfo := pb_find_ok (fun n => d < pb_fy A a l (n - 1)) (100 - A 0 0) (A 0 0 + 1)
    generalize pb_find (fun n => d < pb_fy A a l (n - 1)) (100 - A 0 0) (A 0 0 + 1) = r at hfo ⊢
    have loop : ∀ (m z : Nat) (h' : pb_H), 100 - z < m → A 0 0 ≤ z → z ≤ 100 → (∀ k, A 0 0 ≤ k → k < z → ¬ d < pb_fy A a l k) → pb_CF A h h' → pb_LT A l h' → pb_S Z mX11_missed 5 0 0 (pb_PC (if r = 0 then -2 else nI (r - 1), A) h) 46 [some (.ref 60), some (.int (nI a)), some (.int (nI l)), some (.int (nI d)), some (.ref (110 + a)), some (.int (nI z))] [] h' := by
      intro m
      induction m with
      | zero => intro z h' g1; omega
      | succ m ih =>
        intro z h' g1 g2 g3 hno hC hL
        refine pb_iload (pc2 := 48) dX11_missed_46 rfl rfl ?_
        refine pb_bipush (x := nI 99) (pc2 := 50) dX11_missed_48 (by decide) rfl ?_
        refine pb_icmpN_gt (tgt := 89) (pc2 := 53) dX11_missed_50 (by decide) rfl (by omega) (by omega) (fun q => ?_) (fun q => ?_)
        · have e : r = 0 := by
            rcases hfo with ⟨f1, f2, f3, f4⟩ | ⟨f1, f2⟩
            · exact absurd f3 (hno (r - 1) (by omega) (by omega))
            · exact f1
          refine pb_bipush (x := -2) (pc2 := 91) dX11_missed_89 (by decide) rfl ?_
          exact pb_ireturn dX11_missed_91 rfl (pb_finC (by rw [if_pos e]) hC)
        · first | refine pb_aload_n (pc2 := 54) dX11_missed_53 rfl rfl rfl ?_ | refine pb_aload_nN (pc2 := 54) dX11_missed_53 rfl rfl rfl ?_
          first | refine pb_aload (pc2 := 56) dX11_missed_54 rfl rfl ?_ | refine pb_aloadN (pc2 := 56) dX11_missed_54 rfl rfl ?_
          refine pb_iload (pc2 := 58) dX11_missed_56 rfl rfl ?_
          refine pb_callV (pc2 := 61) (k2 := 0) (n2 := 0) mwX11_sendFrom pb_cl9.1 iwX11_sendFrom seX11_sendFrom rfl mlX11_238 dX11_missed_58 (by first | assumption | exact hR.a rfl | exact hR.o | exact hC.o | exact hC.pal | exact hC.tub | exact hC.k _ _ rfl | exact hC.pot _ (by omega) | exact hC.are _ (by omega) | exact hC.arl _ (by omega) | exact hC.tbo _ (by omega) (by omega)) (t_sendFrom w hC hL ha g2 q) (by omega) (by omega) (by omega) rfl rfl (Nat.le_of_ble_eq_true rfl) rfl (fun v h2 q2 _ => ?_)
          obtain ⟨rfl, hC2, hL2, F, h67, hF⟩ := q2
          clear hC hL
          have hC := hC2
          obtain ⟨T, h65, hT⟩ := hC.wan
          have hT2 : ∀ i, i < 3 → T i ≤ 10000 := fun i hi => by rw [hT i hi]; exact w.tone hi
          have hfyl : pb_fy A a l z ≤ 30000 := pb_far_le (w.tone (by omega)) (w.tone (by omega)) (w.tone (by omega)) (fun b hb => pb_back_le w ha)
          first | refine pb_aload_n (pc2 := 62) dX11_missed_61 rfl rfl rfl ?_ | refine pb_aload_nN (pc2 := 62) dX11_missed_61 rfl rfl rfl ?_
          refine pb_getf (pc2 := 65) flX11_19_X11 rfl dX11_missed_62 (by first | assumption | exact hR.a rfl | exact hR.o | exact hC.o | exact hC.pal | exact hC.tub | exact hC.k _ _ rfl | exact hC.pot _ (by omega) | exact hC.are _ (by omega) | exact hC.arl _ (by omega) | exact hC.tbo _ (by omega) (by omega)) rfl rfl ?_
          first | refine pb_aload_n (pc2 := 66) dX11_missed_65 rfl rfl rfl ?_ | refine pb_aload_nN (pc2 := 66) dX11_missed_65 rfl rfl rfl ?_
          refine pb_getf (pc2 := 69) flX11_35_X11 rfl dX11_missed_66 (by first | assumption | exact hR.a rfl | exact hR.o | exact hC.o | exact hC.pal | exact hC.tub | exact hC.k _ _ rfl | exact hC.pot _ (by omega) | exact hC.are _ (by omega) | exact hC.arl _ (by omega) | exact hC.tbo _ (by omega) (by omega)) rfl rfl ?_
          first | refine pb_aload_n (pc2 := 70) dX11_missed_69 rfl rfl rfl ?_ | refine pb_aload_nN (pc2 := 70) dX11_missed_69 rfl rfl rfl ?_
          refine pb_getf (pc2 := 73) flX11_44_X11 rfl dX11_missed_70 (by first | assumption | exact hR.a rfl | exact hR.o | exact hC.o | exact hC.pal | exact hC.tub | exact hC.k _ _ rfl | exact hC.pot _ (by omega) | exact hC.are _ (by omega) | exact hC.arl _ (by omega) | exact hC.tbo _ (by omega) (by omega)) rfl rfl ?_
          refine pb_callV (pc2 := 76) (k2 := 0) (n2 := 0) mwX4_farFrom pb_cl4.1 iwX4_farFrom seX4_farFrom rfl mlX11_242 dX11_missed_73 (by first | assumption | exact hR.a rfl | exact hR.o | exact hC.o | exact hC.pal | exact hC.tub | exact hC.k _ _ rfl | exact hC.pot _ (by omega) | exact hC.are _ (by omega) | exact hC.arl _ (by omega) | exact hC.tbo _ (by omega) (by omega)) (t_farFrom w hC hL2 (show l < 4 by omega) h67 (fun s b hs hb c => by rw [hF b hb (pb_sh_w hs c)]; exact pb_back_le w ha) h65 hT2 (fun s hs => by rw [hF.see hs]; exact pb_see_le (fun b hb => pb_back_le w ha))) (by omega) (by omega) (by omega) rfl rfl (Nat.le_of_ble_eq_true rfl) rfl (pb_kE ?_)
          refine pb_top (v2 := .int (nI (pb_fy A a l z))) (by rw [hF.far, hT 0 (by omega), hT 1 (by omega), hT 2 (by omega)]; rfl) ?_
          refine pb_iload_n (pc2 := 77) dX11_missed_76 rfl rfl rfl ?_
          refine pb_icmpN_le (tgt := 83) (pc2 := 80) dX11_missed_77 (by decide) rfl (by omega) (by omega) (fun c => ?_) (fun c => ?_)
          · refine pb_iincP (c0 := 1) (lv2 := [_, _, _, _, _, _]) (pc2 := 86) dX11_missed_83 rfl (by decide) rfl rfl ?_
            refine pb_goto (tgt := 46) dX11_missed_86 (by decide) ?_
            refine ih (z + 1) h2 (by omega) (by omega) (by omega) (fun k k1 k2 => ?_) hC hL2
            by_cases e : k = z
            · rw [e]; omega
            · exact hno k k1 (by omega)
          · have e : r = z + 1 := by
              rcases hfo with ⟨f1, f2, f3, f4⟩ | ⟨f1, f2⟩
              · rcases Nat.lt_trichotomy r (z + 1) with y | y | y
                · exact absurd f3 (hno (r - 1) (by omega) (by omega))
                · exact y
                · exact absurd (show d < pb_fy A a l (z + 1 - 1) from c) (f4 (z + 1) (by omega) y)
              · exact absurd (show d < pb_fy A a l (z + 1 - 1) from c) (f2 (z + 1) (by omega) (by omega))
            refine pb_iload (pc2 := 82) dX11_missed_80 rfl rfl ?_
            exact pb_ireturn dX11_missed_82 rfl (pb_finC (by rw [if_neg (by omega), e]; rfl) hC)
    first | refine pb_aload_n (pc2 := 33) dX11_missed_32 rfl rfl rfl ?_ | refine pb_aload_nN (pc2 := 33) dX11_missed_32 rfl rfl rfl ?_
    refine pb_getf (pc2 := 36) flX11_19_X11 rfl dX11_missed_33 (by first | assumption | exact hR.a rfl | exact hR.o | exact hC.o | exact hC.pal | exact hC.tub | exact hC.k _ _ rfl | exact hC.pot _ (by omega) | exact hC.are _ (by omega) | exact hC.arl _ (by omega) | exact hC.tbo _ (by omega) (by omega)) rfl rfl ?_
    refine pb_iload_n (pc2 := 37) dX11_missed_36 rfl rfl rfl ?_
    refine pb_callV (pc2 := 40) (k2 := 0) (n2 := 0) mwX4_shine pb_cl4.1 iwX4_shine seX4_shine rfl mlX11_174 dX11_missed_37 (by first | assumption | exact hR.a rfl | exact hR.o | exact hC.o | exact hC.pal | exact hC.tub | exact hC.k _ _ rfl | exact hC.pot _ (by omega) | exact hC.are _ (by omega) | exact hC.arl _ (by omega) | exact hC.tbo _ (by omega) (by omega)) (t_shine w hC (show l < 4 by omega)) (by omega) (by omega) (by omega) rfl rfl (Nat.le_of_ble_eq_true rfl) rfl (fun v h1 q _ => ?_)
    obtain ⟨rfl, hC1, hL1, -⟩ := q
    clear hC
    have hC := hC1
    first | refine pb_aload_n (pc2 := 41) dX11_missed_40 rfl rfl rfl ?_ | refine pb_aload_nN (pc2 := 41) dX11_missed_40 rfl rfl rfl ?_
    refine pb_getf (pc2 := 44) flX11_72_X11 rfl dX11_missed_41 (by first | assumption | exact hR.a rfl | exact hR.o | exact hC.o | exact hC.pal | exact hC.tub | exact hC.k _ _ rfl | exact hC.pot _ (by omega) | exact hC.are _ (by omega) | exact hC.arl _ (by omega) | exact hC.tbo _ (by omega) (by omega)) rfl rfl ?_
    refine pb_istore (lv2 := [_, _, _, _, _, _]) (pc2 := 46) dX11_missed_44 (by decide) rfl rfl ?_
    exact loop 101 (A 0 0) h1 (by omega) (by omega) (by omega) (fun k k1 k2 => by omega) hC hL1
  · first | refine pb_astore (lv2 := [_, _, _, _, _, _]) (pc2 := 7) dX11_missed_5 (by decide) rfl rfl ?_ | refine pb_astoreN (lv2 := [_, _, _, _, _, _]) (pc2 := 7) dX11_missed_5 (by decide) rfl rfl ?_
    first | refine pb_aload (pc2 := 9) dX11_missed_7 rfl rfl ?_ | refine pb_aloadN (pc2 := 9) dX11_missed_7 rfl rfl ?_
    refine pb_ifnullN (tgt := 30) dX11_missed_9 (by decide) ?_
    refine pb_iconst (x := -1) (pc2 := 31) dX11_missed_30 (by decide) rfl ?_
    exact pb_ireturn dX11_missed_31 rfl (pb_finC (if_neg (fun z => q z.1)) hC)
end PB35

