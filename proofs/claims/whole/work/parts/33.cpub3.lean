/-! PUBLIC METHODS OF THE CLASS (third part): what is made, pressed, poured, wasted -/
theorem pb_aI : Cond.arrayClass (pb_pk 0) ∈ pb_tbl := pb_i1 (List.mem_of_getElem? (i := 77) (by decide +kernel)) rfl
theorem pb_aZ : Cond.arrayClass (pb_pk 1) ∈ pb_tbl := pb_i1 (List.mem_of_getElem? (i := 78) (by decide +kernel)) rfl
def cTq (A : pb_A) (X Y : Nat → Nat) (t : Nat) : List Value := [.int (nI (A 2 t)), .int (nI (A 3 t)), .int (nI (A 4 t)), .int (nI (X t)), .int (nI (Y t)), .ref (220 + t), .ref (240 + t)]
theorem cTq_c {A : pb_A} {X Y X' Y' : Nat → Nat} {t : Nat} (h1 : X t = X' t) (h2 : Y t = Y' t) : cTq A X Y t = cTq A X' Y' t := by
  unfold cTq
  rw [h1, h2]
def cOb (ci : Nat) (fs : List Value) : Option pb_C := some (.inr (.inr (ci, fs)))
theorem cOb_c {ci : Nat} {fs fs' : List Value} (h : fs = fs') : cOb ci fs = cOb ci fs' := by rw [h]
theorem pb_tot_c {A A' : pb_A} {p : Nat} (h : ∀ t, t < 12 → A' 11 (12 * p + t) = A 11 (12 * p + t)) : pb_tot A' p = pb_tot A p := pb_sum_congr 12 h
theorem pb_tot_z {A' : pb_A} {p : Nat} (h : ∀ t, t < 12 → A' 11 (12 * p + t) = 0) : pb_tot A' p = 0 := by
  have e : pb_tot A' p = pb_sum 12 (fun _ => 0) := pb_sum_congr 12 h
  rw [e, pb_sum_const]
/-- a pot is emptied -/
theorem pb_emp {A A' : pb_A} {h0 h h2 : pb_H} {p : Nat} (hC : pb_CF A h0 h) (hA : ∀ j, A' 11 j = if 12 * p ≤ j ∧ j < 12 * p + 12 then 0 else A 11 j) (hm : h2 (100 + p) = some (.inr (.inr (6, cMx (130 + p) 0)))) (hr : cRow 12 (fun _ => 0) (h2 (130 + p))) (nb : ∀ q, q < 10 → q ≠ p → h2 (100 + q) = h (100 + q) ∧ h2 (130 + q) = h (130 + q)) : (∀ q, q < 10 → h2 (100 + q) = some (.inr (.inr (6, cMx (130 + q) (pb_tot A' q))))) ∧ (∀ q, q < 10 → cRow 12 (pb_pot A' q) (h2 (130 + q))) := by
  refine ⟨fun q hq => ?_, fun q hq => ?_⟩
  · by_cases e : q = p
    · subst e
      rw [hm, pb_tot_z (fun t ht => by rw [hA, if_pos (by omega)])]
    · rw [(nb q hq e).1, hC.pot q hq, pb_tot_c (A := A) (A' := A') (fun t ht => by rw [hA, if_neg (by omega)])]
  · by_cases e : q = p
    · subst e
      refine cRow_same hr (fun t ht => ?_)
      show A' 11 (12 * q + t) = 0
      rw [hA, if_pos (by omega)]
    · rw [(nb q hq e).2]
      refine cRow_same (hC.ptr q hq) (fun t ht => ?_)
      show A' 11 (12 * q + t) = A 11 (12 * q + t)
      rw [hA, if_neg (by omega)]
/-! the memory after a call, a lemma each (a small context) -/
theorem k_press {A : pb_A} {h0 h h2 : pb_H} {t p n : Nat} (htt : A 1 0 ≤ 12) (ht : t < A 1 0) (hp : p < 10) (hC : pb_CF A h0 h) (nb : ∀ b, b ≠ 200 + t → b ≠ 100 + p → b ≠ 130 + p → h2 b = h b) (ft : ∀ t', t' < 12 → t' < A 1 0 → h2 (200 + t') = some (.inr (.inr (8, [.int (nI (A 2 t')), .int (nI (A 3 t')), .int (nI (pb_un (A 4) t (A 4 t - n) t')), .int (nI (A 5 t')), .int (nI (A 6 t')), .ref (220 + t'), .ref (240 + t')])))) (fp : ∀ p', p' < 10 → h2 (100 + p') = some (.inr (.inr (6, cMx (130 + p') (pb_tot (pb_wf A 11 (pb_un (A 11) (12 * p + t) (A 11 (12 * p + t) + n))) p'))))) (fr : ∀ p', p' < 10 → cRow 12 (fun u => pb_un (A 11) (12 * p + t) (A 11 (12 * p + t) + n) (12 * p' + u)) (h2 (130 + p'))) : pb_CF (pb_wf (pb_wf A 4 (pb_un (A 4) t (A 4 t - n))) 11 (pb_un (A 11) (12 * p + t) (A 11 (12 * p + t) + n))) h0 h2 := by
  exact pb_CF.mk (fun b hb => (nb b (by omega) (by omega) (by omega)).trans (hC.low b hb)) (fun a c e => (nb a (by first | exact cK_ne e rfl | (have := cK_rng e; omega)) (by first | exact cK_ne e rfl | (have := cK_rng e; omega)) (by first | exact cK_ne e rfl | (have := cK_rng e; omega))).trans (hC.k a c e)) (fun a n e => by rw [nb a (by first | exact cS_ne e rfl | (have := cS_rng e; omega)) (by first | exact cS_ne e rfl | (have := cS_rng e; omega)) (by first | exact cS_ne e rfl | (have := cS_rng e; omega))]; exact hC.s a n e) ((nb 60 (by omega) (by omega) (by omega)).trans hC.o) ((nb 61 (by omega) (by omega) (by omega)).trans hC.pal) (by rw [nb 65 (by omega) (by omega) (by omega)]; exact hC.wan) (fun i hi => by rw [nb _ (by omega) (by omega) (by omega)]; exact hC.kpr i hi) ((nb 71 (by omega) (by omega) (by omega)).trans hC.tub) (fun i hi => by rw [nb _ (by omega) (by omega) (by omega)]; exact hC.lmr i hi) (fun i hi => by rw [nb _ (by omega) (by omega) (by omega)]; exact hC.sgr i hi) (by rw [nb 76 (by omega) (by omega) (by omega)]; exact hC.shw) (fp) (fr) (fun a ha => (nb _ (by omega) (by omega) (by omega)).trans (hC.are a ha)) (fun a ha => (nb _ (by omega) (by omega) (by omega)).trans (hC.arl a ha)) (ft) (fun t h12 ht => by rw [nb _ (by omega) (by omega) (by omega)]; exact hC.tbd t h12 ht) (fun t h12 ht => by rw [nb _ (by omega) (by omega) (by omega)]; exact hC.tbs t h12 ht) (fun t ht ht2 => by have hz_ : A 1 0 ≤ t := ht; rw [nb _ (by omega) (by omega) (by omega), nb _ (by omega) (by omega) (by omega), nb _ (by omega) (by omega) (by omega)]; exact hC.tbn t ht ht2) (fun a i ha h10 hi => by rw [nb _ (by omega) (by omega) (by omega), nb _ (by omega) (by omega) (by omega), nb _ (by omega) (by omega) (by omega)]; exact hC.lyo a i ha h10 hi) (fun a i ha h10 hi => by unfold cCache; rw [nb _ (by omega) (by omega) (by omega), nb _ (by omega) (by omega) (by omega), nb _ (by omega) (by omega) (by omega), nb _ (by omega) (by omega) (by omega)]; exact hC.lyc a i ha h10 hi) (fun a i ha hi hi2 q hq => (nb _ (by omega) (by omega) (by omega)).trans (hC.lyn a i ha hi hi2 q hq)) (by rw [nb 68 (by omega) (by omega) (by omega)]; exact hC.mat) (by rw [nb 309 (by omega) (by omega) (by omega)]; exact hC.bst) (by rw [nb 69 (by omega) (by omega) (by omega), nb 411 (by omega) (by omega) (by omega), nb 413 (by omega) (by omega) (by omega)]; exact hC.cho) (by rw [nb 70 (by omega) (by omega) (by omega)]; exact hC.gla) (by rw [nb 500 (by omega) (by omega) (by omega)]; exact hC.glb) (fun a ha => by rw [nb a (by omega) (by omega) (by omega)]; exact hC.zer a ha)
theorem k_pour {A : pb_A} {h0 h h2 : pb_H} {p o : Nat} (hp : p < 10) (ho : o < 10) (hC : pb_CF A h0 h) (nb : ∀ b, b ≠ 100 + p → b ≠ 130 + p → b ≠ 100 + o → b ≠ 130 + o → h2 b = h b) (fp : ∀ q, q < 10 → h2 (100 + q) = some (.inr (.inr (6, cMx (130 + q) (pb_tot (sp_pourA A p o) q))))) (fr : ∀ q, q < 10 → cRow 12 (pb_pot (sp_pourA A p o) q) (h2 (130 + q))) : pb_CF (sp_pourA A p o) h0 h2 := by
  exact pb_CF.mk (fun b hb => (nb b (by omega) (by omega) (by omega) (by omega)).trans (hC.low b hb)) (fun a c e => (nb a (by first | exact cK_ne e rfl | (have := cK_rng e; omega)) (by first | exact cK_ne e rfl | (have := cK_rng e; omega)) (by first | exact cK_ne e rfl | (have := cK_rng e; omega)) (by first | exact cK_ne e rfl | (have := cK_rng e; omega))).trans (hC.k a c e)) (fun a n e => by rw [nb a (by first | exact cS_ne e rfl | (have := cS_rng e; omega)) (by first | exact cS_ne e rfl | (have := cS_rng e; omega)) (by first | exact cS_ne e rfl | (have := cS_rng e; omega)) (by first | exact cS_ne e rfl | (have := cS_rng e; omega))]; exact hC.s a n e) ((nb 60 (by omega) (by omega) (by omega) (by omega)).trans hC.o) ((nb 61 (by omega) (by omega) (by omega) (by omega)).trans hC.pal) (by rw [nb 65 (by omega) (by omega) (by omega) (by omega)]; exact hC.wan) (fun i hi => by rw [nb _ (by omega) (by omega) (by omega) (by omega)]; exact hC.kpr i hi) ((nb 71 (by omega) (by omega) (by omega) (by omega)).trans hC.tub) (fun i hi => by rw [nb _ (by omega) (by omega) (by omega) (by omega)]; exact hC.lmr i hi) (fun i hi => by rw [nb _ (by omega) (by omega) (by omega) (by omega)]; exact hC.sgr i hi) (by rw [nb 76 (by omega) (by omega) (by omega) (by omega)]; exact hC.shw) (fp) (fr) (fun a ha => (nb _ (by omega) (by omega) (by omega) (by omega)).trans (hC.are a ha)) (fun a ha => (nb _ (by omega) (by omega) (by omega) (by omega)).trans (hC.arl a ha)) (fun t h12 ht => (nb _ (by omega) (by omega) (by omega) (by omega)).trans (hC.tbo t h12 ht)) (fun t h12 ht => by rw [nb _ (by omega) (by omega) (by omega) (by omega)]; exact hC.tbd t h12 ht) (fun t h12 ht => by rw [nb _ (by omega) (by omega) (by omega) (by omega)]; exact hC.tbs t h12 ht) (fun t ht ht2 => by have hz_ : A 1 0 ≤ t := ht; rw [nb _ (by omega) (by omega) (by omega) (by omega), nb _ (by omega) (by omega) (by omega) (by omega), nb _ (by omega) (by omega) (by omega) (by omega)]; exact hC.tbn t ht ht2) (fun a i ha h10 hi => by rw [nb _ (by omega) (by omega) (by omega) (by omega), nb _ (by omega) (by omega) (by omega) (by omega), nb _ (by omega) (by omega) (by omega) (by omega)]; exact hC.lyo a i ha h10 hi) (fun a i ha h10 hi => by unfold cCache; rw [nb _ (by omega) (by omega) (by omega) (by omega), nb _ (by omega) (by omega) (by omega) (by omega), nb _ (by omega) (by omega) (by omega) (by omega), nb _ (by omega) (by omega) (by omega) (by omega)]; exact hC.lyc a i ha h10 hi) (fun a i ha hi hi2 q hq => (nb _ (by omega) (by omega) (by omega) (by omega)).trans (hC.lyn a i ha hi hi2 q hq)) (by rw [nb 68 (by omega) (by omega) (by omega) (by omega)]; exact hC.mat) (by rw [nb 309 (by omega) (by omega) (by omega) (by omega)]; exact hC.bst) (by rw [nb 69 (by omega) (by omega) (by omega) (by omega), nb 411 (by omega) (by omega) (by omega) (by omega), nb 413 (by omega) (by omega) (by omega) (by omega)]; exact hC.cho) (by rw [nb 70 (by omega) (by omega) (by omega) (by omega)]; exact hC.gla) (by rw [nb 500 (by omega) (by omega) (by omega) (by omega)]; exact hC.glb) (fun a ha => by rw [nb a (by omega) (by omega) (by omega) (by omega)]; exact hC.zer a ha)
theorem k_waste {A : pb_A} {h0 h h2 : pb_H} {p : Nat} (htt : A 1 0 ≤ 12) (hp : p < 10) (hC : pb_CF A h0 h) (nb : ∀ b, (b < 200 ∨ 200 + A 1 0 ≤ b) → b ≠ 100 + p → b ≠ 130 + p → h2 b = h b) (ft : ∀ t, t < 12 → t < A 1 0 → h2 (200 + t) = cOb 8 (cTq A (A 5) (fun t => if t < 12 then A 6 t + A 11 (12 * p + t) else A 6 t) t)) (fp : ∀ q, q < 10 → h2 (100 + q) = some (.inr (.inr (6, cMx (130 + q) (pb_tot (sp_wasteA A p) q))))) (fr : ∀ q, q < 10 → cRow 12 (pb_pot (sp_wasteA A p) q) (h2 (130 + q))) : pb_CF (sp_wasteA A p) h0 h2 := by
  exact pb_CF.mk (fun b hb => (nb b (by omega) (by omega) (by omega)).trans (hC.low b hb)) (fun a c e => (nb a (by first | exact cK_ne e rfl | (have := cK_rng e; omega)) (by first | exact cK_ne e rfl | (have := cK_rng e; omega)) (by first | exact cK_ne e rfl | (have := cK_rng e; omega))).trans (hC.k a c e)) (fun a n e => by rw [nb a (by first | exact cS_ne e rfl | (have := cS_rng e; omega)) (by first | exact cS_ne e rfl | (have := cS_rng e; omega)) (by first | exact cS_ne e rfl | (have := cS_rng e; omega))]; exact hC.s a n e) ((nb 60 (by omega) (by omega) (by omega)).trans hC.o) ((nb 61 (by omega) (by omega) (by omega)).trans hC.pal) (by rw [nb 65 (by omega) (by omega) (by omega)]; exact hC.wan) (fun i hi => by rw [nb _ (by omega) (by omega) (by omega)]; exact hC.kpr i hi) ((nb 71 (by omega) (by omega) (by omega)).trans hC.tub) (fun i hi => by rw [nb _ (by omega) (by omega) (by omega)]; exact hC.lmr i hi) (fun i hi => by rw [nb _ (by omega) (by omega) (by omega)]; exact hC.sgr i hi) (by rw [nb 76 (by omega) (by omega) (by omega)]; exact hC.shw) (fp) (fr) (fun a ha => (nb _ (by omega) (by omega) (by omega)).trans (hC.are a ha)) (fun a ha => (nb _ (by omega) (by omega) (by omega)).trans (hC.arl a ha)) (ft) (fun t h12 ht => by rw [nb _ (by omega) (by omega) (by omega)]; exact hC.tbd t h12 ht) (fun t h12 ht => by rw [nb _ (by omega) (by omega) (by omega)]; exact hC.tbs t h12 ht) (fun t ht ht2 => by have hz_ : A 1 0 ≤ t := ht; rw [nb _ (by omega) (by omega) (by omega), nb _ (by omega) (by omega) (by omega), nb _ (by omega) (by omega) (by omega)]; exact hC.tbn t ht ht2) (fun a i ha h10 hi => by rw [nb _ (by omega) (by omega) (by omega), nb _ (by omega) (by omega) (by omega), nb _ (by omega) (by omega) (by omega)]; exact hC.lyo a i ha h10 hi) (fun a i ha h10 hi => by unfold cCache; rw [nb _ (by omega) (by omega) (by omega), nb _ (by omega) (by omega) (by omega), nb _ (by omega) (by omega) (by omega), nb _ (by omega) (by omega) (by omega)]; exact hC.lyc a i ha h10 hi) (fun a i ha hi hi2 q hq => (nb _ (by omega) (by omega) (by omega)).trans (hC.lyn a i ha hi hi2 q hq)) (by rw [nb 68 (by omega) (by omega) (by omega)]; exact hC.mat) (by rw [nb 309 (by omega) (by omega) (by omega)]; exact hC.bst) (by rw [nb 69 (by omega) (by omega) (by omega), nb 411 (by omega) (by omega) (by omega), nb 413 (by omega) (by omega) (by omega)]; exact hC.cho) (by rw [nb 70 (by omega) (by omega) (by omega)]; exact hC.gla) (by rw [nb 500 (by omega) (by omega) (by omega)]; exact hC.glb) (fun a ha => by rw [nb a (by omega) (by omega) (by omega)]; exact hC.zer a ha)
section PB33
variable {Z : pb_Z} {h h0 : pb_H} {A : pb_A}
section PBH
variable {y : pb_M} {d k n : Nat} {post : Option Value → pb_H → Prop} {pc : Nat} {lv : List (Option Value)} {st : List Value}
theorem pb_putFG {own : String} {idx ci kf N a : Nat} {C : String} {T : u_T} {ty : Nat → FieldType} {fs fs2 : List Value} {v : Value} {pc2 : Nat} (hl : pb_fl own idx ci kf C T N ty) (hw : y.1.cls = own) (hd : decode y.2.1 pc = .ok (.putfield idx, 3)) (ha : h a = some (.inr (.inr (ci, fs)))) (h2 : 2 ≤ a) (hfin : (T kf).2.2.2 = true) (hni : y.1.name = "<init>") (hdc : (T kf).1 = own) (hn : narrow (ty kf) v = v) (hft : fits (ty kf) v = true) (hs : fs.set kf v = fs2) (hp : pc + 3 = pc2) (kk : ∀ h', h' a = some (.inr (.inr (ci, fs2))) → (∀ b, b ≠ a → h' b = h b) → pb_S Z y d k n post pc2 lv st h') : pb_S Z y d k n post pc lv (v :: .ref a :: st) h := pb_putF hl hw hd ha h2 hfin hni hdc hn hft hs hp (kk _ (pb_set_self _ _ _) (fun _ hb => pb_set_ne _ _ hb))
theorem pb_newG (a : Nat) {own : String} {idx ci N : Nat} {C : String} {T : u_T} {ty : Nat → FieldType} {fs : List Value} {k2 n2 pc2 : Nat} (hl : pb_cl ci C T N ty) (hw : y.1.cls = own) (hcl : Cond.classLink own idx C ∈ pb_tbl) (hin : Cond.instantiable C N ∈ pb_tbl) (hini : Cond.initialized C ∈ pb_tbl) (hd : decode y.2.1 pc = .ok (.new idx, 3)) (ha : h a = none) (h2 : 2 ≤ a) (hfs : (List.range N).map (fun j => defaultValue (ty j)) = fs) (hu : fs.all (fun v => match v with | .ref _ => false | _ => true) = true) (hk : k2 + 1 ≤ k) (hn : n2 + N ≤ n) (hp : pc + 3 = pc2) (kk : ∀ h', h' a = some (.inr (.inr (ci, fs))) → (∀ b, b ≠ a → h' b = h b) → pb_S Z y d k2 n2 post pc2 lv (.ref a :: st) h') : pb_S Z y d k n post pc lv st h := pb_new a hl hw hcl hin hini hd ha h2 hfs hu hk hn hp (kk _ (pb_set_self _ _ _) (fun _ hb => pb_set_ne _ _ hb))
theorem pb_newaG (a : Nat) {ar : ArrayType} {N : Nat} {k2 n2 pc2 : Nat} (hd : decode y.2.1 pc = .ok (.newarray ar, 2)) (hkd : 0 < 2 ∧ newarray.typeOf ar = pb_pk 0) (hw : Cond.arrayClass (pb_pk 0) ∈ pb_tbl) (ha : h a = none) (h2 : 2 ≤ a) (hN : N ≤ 100000) (hk : k2 + 1 ≤ k) (hn : n2 + N ≤ n) (hp : pc + 2 = pc2) (kk : ∀ h', h' a = some (.inl (0, N, fun _ => nI 0)) → (∀ b, b ≠ a → h' b = h b) → pb_S Z y d k2 n2 post pc2 lv (.ref a :: st) h') : pb_S Z y d k n post pc lv (.int (nI N) :: st) h := pb_newa a hd hkd hw ha h2 hN hk hn hp (kk _ (pb_set_self _ _ _) (fun _ hb => pb_set_ne _ _ hb))
theorem pb_aastG {kd ci N a b j : Nat} {f : Nat → Option Nat} {fs : List Value} {C : String} {T : u_T} {M : Nat} {pc2 : Nat} (hd : decode y.2.1 pc = .ok (.aastore, 1)) (hkd : kd < 4) (hC : vwCl[ci]? = some (C, T, M)) (hCk : pb_rk kd = .object C) (ha : h a = some (.inr (.inl (kd, N, f)))) (h2 : 2 ≤ a) (hb : h b = some (.inr (.inr (ci, fs)))) (hj : j < N) (hN : N < 2 ^ 31) (hp : pc + 1 = pc2) (kk : ∀ h', h' a = some (.inr (.inl (kd, N, fun i => if i = j then some b else f i))) → (∀ b, b ≠ a → h' b = h b) → pb_S Z y d k n post pc2 lv st h') : pb_S Z y d k n post pc lv (.ref b :: .int (nI j) :: .ref a :: st) h := pb_aastore hd hkd hC hCk ha h2 hb hj hN hp (kk _ (pb_set_self _ _ _) (fun _ hb => pb_set_ne _ _ hb))
end PBH
set_option maxRecDepth 10000 in
theorem c_press (w : pb_WF A) (hC : pb_CF A h h) (t p n : Int32) : pb_T Z mX11_press 2 0 0 [.ref 60, .int t, .int p, .int n] h (pb_PC (sp_press A t p n) h) := by
  have htt := w.tubes
  refine pb_T.of pnX11_press (Nat.le_of_ble_eq_true rfl) (lv := [some (.ref 60), some (.int t), some (.int p), some (.int n), none, none]) rfl ?_
  first | refine pb_aload_n (pc2 := 1) dX11_press_0 rfl rfl rfl ?_ | refine pb_aload_nN (pc2 := 1) dX11_press_0 rfl rfl rfl ?_
  refine pb_getf (pc2 := 4) flX11_12_X11 rfl dX11_press_1 (by first | assumption | exact hR.a rfl | exact hR.o | exact hC.o | exact hC.pal | exact hC.tub | exact hC.k _ _ rfl | exact hC.pot _ (by omega) | exact hC.are _ (by omega) | exact hC.arl _ (by omega) | exact hC.tbo _ (by omega) (by omega)) rfl rfl ?_
  refine pb_iload_n (pc2 := 5) dX11_press_4 rfl rfl rfl ?_
  refine pb_callV (pc2 := 8) (k2 := 0) (n2 := 0) mwX8_at pb_cl7.1 iwX8_at seX8_at rfl mlX11_94 dX11_press_5 (by first | assumption | exact hR.a rfl | exact hR.o | exact hC.o | exact hC.pal | exact hC.tub | exact hC.k _ _ rfl | exact hC.pot _ (by omega) | exact hC.are _ (by omega) | exact hC.arl _ (by omega) | exact hC.tbo _ (by omega) (by omega)) (t_at w hC t) (by omega) (by omega) (by omega) rfl rfl (Nat.le_of_ble_eq_true rfl) rfl (pb_kRef (fun t ht e => ?_) (fun q => ?_))
  · subst e
    have q0 := pb_isT_mk w ht
    first | refine pb_astore (lv2 := [_, _, _, _, _, _]) (pc2 := 10) dX11_press_8 (by decide) rfl rfl ?_ | refine pb_astoreN (lv2 := [_, _, _, _, _, _]) (pc2 := 10) dX11_press_8 (by decide) rfl rfl ?_
    first | refine pb_aload_n (pc2 := 11) dX11_press_10 rfl rfl rfl ?_ | refine pb_aload_nN (pc2 := 11) dX11_press_10 rfl rfl rfl ?_
    refine pb_iload_n (pc2 := 12) dX11_press_11 rfl rfl rfl ?_
    refine pb_callV (pc2 := 15) (k2 := 0) (n2 := 0) mwX11_potAt pb_cl9.1 iwX11_potAt seX11_potAt rfl mlX11_147 dX11_press_12 (by first | assumption | exact hR.a rfl | exact hR.o | exact hC.o | exact hC.pal | exact hC.tub | exact hC.k _ _ rfl | exact hC.pot _ (by omega) | exact hC.are _ (by omega) | exact hC.arl _ (by omega) | exact hC.tbo _ (by omega) (by omega)) (t_potAt hC p) (by omega) (by omega) (by omega) rfl rfl (Nat.le_of_ble_eq_true rfl) rfl (pb_kRef (fun p hp e => ?_) (fun q => ?_))
    · subst e
      first | refine pb_astore (lv2 := [_, _, _, _, _, _]) (pc2 := 17) dX11_press_15 (by decide) rfl rfl ?_ | refine pb_astoreN (lv2 := [_, _, _, _, _, _]) (pc2 := 17) dX11_press_15 (by decide) rfl rfl ?_
      first | refine pb_aload (pc2 := 19) dX11_press_17 rfl rfl ?_ | refine pb_aloadN (pc2 := 19) dX11_press_17 rfl rfl ?_
      refine pb_ifnull (pc2 := 22) dX11_press_19 rfl ?_
      first | refine pb_aload (pc2 := 24) dX11_press_22 rfl rfl ?_ | refine pb_aloadN (pc2 := 24) dX11_press_22 rfl rfl ?_
      refine pb_ifnull (pc2 := 27) dX11_press_24 rfl ?_
      refine pb_iload_n (pc2 := 28) dX11_press_27 rfl rfl rfl ?_
      refine pb_iconst (x := nI 1) (pc2 := 29) dX11_press_28 (by decide) rfl ?_
      refine pb_bipush (x := nI 99) (pc2 := 31) dX11_press_29 (by decide) rfl ?_
      refine pb_callS (pc2 := 34) (k2 := 0) (n2 := 0) mwX11_between swX11_between rfl mlX11_77 dX11_press_31 (t_between n (nI 1) (nI 99)) (by omega) (by omega) (by omega) rfl rfl (Nat.le_of_ble_eq_true rfl) rfl (pb_kB ?_ ?_)
      rotate_left
      · intro q1
        refine pb_ifF_ne (tgt := 39) (pc2 := 37) dX11_press_34 rfl rfl (by decide) ?_
        refine pb_iconst (x := -1) (pc2 := 38) dX11_press_37 (by decide) rfl ?_
        exact pb_ireturn dX11_press_38 rfl (pb_finC (if_neg (fun z => q1 z.2.2)) hC)
      intro q1
      refine pb_ifT_ne (tgt := 39) dX11_press_34 (by decide) (by decide) ?_
      have e0 : sp_press A (nI t) (nI p) n = _ := if_pos ⟨q0, pb_in_mk (by omega) (by omega) (by omega), q1⟩
      rw [e0]
      obtain ⟨n, hn1, hn, rfl⟩ := nI_rng (by omega) q1 (by omega)
      rw [pb_natN (by omega), pb_natN (by omega), pb_natN (by omega)]
      have hc := w.cons (show t < 12 by omega)
      have htot := w.tot hp
      have hto := hC.tbo t (by omega) ht
      first | refine pb_aload (pc2 := 41) dX11_press_39 rfl rfl ?_ | refine pb_aloadN (pc2 := 41) dX11_press_39 rfl rfl ?_
      refine pb_getf (pc2 := 44) flX11_111_X10 rfl dX11_press_41 (by first | assumption | exact hR.a rfl | exact hR.o | exact hC.o | exact hC.pal | exact hC.tub | exact hC.k _ _ rfl | exact hC.pot _ (by omega) | exact hC.are _ (by omega) | exact hC.arl _ (by omega) | exact hC.tbo _ (by omega) (by omega)) rfl rfl ?_
      refine pb_iload_n (pc2 := 45) dX11_press_44 rfl rfl rfl ?_
      refine pb_icmpN_ge (tgt := 51) (pc2 := 48) dX11_press_45 (by decide) rfl (by omega) (by omega) (fun c1 => ?_) (fun c1 => ?_)
      · rw [if_neg (by omega)]
        first | refine pb_aload (pc2 := 53) dX11_press_51 rfl rfl ?_ | refine pb_aloadN (pc2 := 53) dX11_press_51 rfl rfl ?_
        refine pb_getf (v := .int (nI (pb_tot A p))) (pc2 := 56) flX11_151_X6 rfl dX11_press_53 (by first | assumption | exact hR.a rfl | exact hR.o | exact hC.o | exact hC.pal | exact hC.tub | exact hC.k _ _ rfl | exact hC.pot _ (by omega) | exact hC.are _ (by omega) | exact hC.arl _ (by omega) | exact hC.tbo _ (by omega) (by omega)) rfl rfl ?_
        refine pb_iload_n (pc2 := 57) dX11_press_56 rfl rfl rfl ?_
        refine pb_iaddN (pc2 := 58) dX11_press_57 rfl ?_
        refine pb_sipush (x := nI 999) (pc2 := 61) dX11_press_58 (by decide) rfl ?_
        refine pb_icmpN_le (tgt := 67) (pc2 := 64) dX11_press_61 (by decide) rfl (by omega) (by omega) (fun c2 => ?_) (fun c2 => ?_)
        · rw [if_neg (by omega)]
          first | refine pb_aload (pc2 := 69) dX11_press_67 rfl rfl ?_ | refine pb_aloadN (pc2 := 69) dX11_press_67 rfl rfl ?_
          refine pb_dup (pc2 := 70) dX11_press_69 rfl rfl ?_
          refine pb_getf (pc2 := 73) flX11_111_X10 rfl dX11_press_70 (by first | assumption | exact hR.a rfl | exact hR.o | exact hC.o | exact hC.pal | exact hC.tub | exact hC.k _ _ rfl | exact hC.pot _ (by omega) | exact hC.are _ (by omega) | exact hC.arl _ (by omega) | exact hC.tbo _ (by omega) (by omega)) rfl rfl ?_
          refine pb_iload_n (pc2 := 74) dX11_press_73 rfl rfl rfl ?_
          refine pb_isubN (pc2 := 75) dX11_press_74 (by omega) rfl ?_
          refine pb_putG (fs2 := [_, _, _, _, _, _, _]) (pc2 := 78) flX11_111_X10 rfl dX11_press_75 hto (by omega) rfl rfl rfl rfl rfl (fun h1 hto n1 => ?_)
          obtain ⟨F, hr, hF⟩ := hC.ptr p hp
          have hm := (n1 _ (by omega)).trans (hC.pot p hp)
          have hr := (n1 _ (by omega)).trans hr
          first | refine pb_aload (pc2 := 80) dX11_press_78 rfl rfl ?_ | refine pb_aloadN (pc2 := 80) dX11_press_78 rfl rfl ?_
          refine pb_iload_n (pc2 := 81) dX11_press_80 rfl rfl rfl ?_
          refine pb_iload_n (pc2 := 82) dX11_press_81 rfl rfl rfl ?_
          refine pb_callV (pc2 := 85) (k2 := 0) (n2 := 0) mwX6_add pb_cl6.1 iwX6_add seX6_add rfl mlX11_154 dX11_press_82 (by first | assumption | exact hR.a rfl | exact hR.o | exact hC.o | exact hC.pal | exact hC.tub | exact hC.k _ _ rfl | exact hC.pot _ (by omega) | exact hC.are _ (by omega) | exact hC.arl _ (by omega) | exact hC.tbo _ (by omega) (by omega)) (t_madd hm hr (show t < 12 by omega) (by omega)) (by omega) (by omega) (by omega) rfl rfl (Nat.le_of_ble_eq_true rfl) rfl (fun v h2 q _ => ?_)
          obtain ⟨rfl, hm, hr, n2⟩ := q
          have nb : ∀ b, b ≠ 200 + t → b ≠ 100 + p → b ≠ 130 + p → h2 b = h b := fun b b1 b2 b3 => (n2 b b2 b3).trans (n1 b b1)
          have hto := (n2 _ (by omega) (by omega)).trans hto
          have ft : ∀ t', t' < 12 → t' < A 1 0 → h2 (200 + t') = some (.inr (.inr (8, [.int (nI (A 2 t')), .int (nI (A 3 t')), .int (nI (pb_un (A 4) t (A 4 t - n) t')), .int (nI (A 5 t')), .int (nI (A 6 t')), .ref (220 + t'), .ref (240 + t')]))) := fun t' h12 ht' => by
            by_cases e : t' = t
            · subst e
              rw [pb_un_self]
              exact hto
            · rw [nb _ (by omega) (by omega) (by omega), pb_un_ne _ _ e]
              exact hC.tbo t' h12 ht'
          have e1 := pb_tot_un (B := A) (p := p) (t := t) (v := A 11 (12 * p + t) + n) (by omega)
          have fp : ∀ p', p' < 10 → h2 (100 + p') = some (.inr (.inr (6, cMx (130 + p') (pb_tot (pb_wf A 11 (pb_un (A 11) (12 * p + t) (A 11 (12 * p + t) + n))) p')))) := fun p' hp' => by
            by_cases e : p' = p
            · subst e
              rw [hm, show pb_tot (pb_wf A 11 (pb_un (A 11) (12 * p' + t) (A 11 (12 * p' + t) + n))) p' = pb_tot A p' + n by omega]
            · rw [nb _ (by omega) (by omega) (by omega), hC.pot p' hp']
              rw [pb_tot_c (A := A) (A' := pb_wf A 11 (pb_un (A 11) (12 * p + t) (A 11 (12 * p + t) + n))) (fun u hu => by rw [pb_wf_self, pb_un_ne _ _ (by omega)])]
          have fr : ∀ p', p' < 10 → cRow 12 (fun u => pb_un (A 11) (12 * p + t) (A 11 (12 * p + t) + n) (12 * p' + u)) (h2 (130 + p')) := fun p' hp' => by
            by_cases e : p' = p
            · subst e
              refine ⟨_, hr, cRow_set hF ?_ (fun j hj hne => ?_)⟩
              · rw [hF t (by omega)]
                show pb_un (A 11) (12 * p' + t) (A 11 (12 * p' + t) + n) (12 * p' + t) = _
                rw [pb_un_self]
                rfl
              · show pb_un (A 11) (12 * p' + t) (A 11 (12 * p' + t) + n) (12 * p' + j) = _
                rw [pb_un_ne _ _ (by omega)]
                rfl
            · rw [nb _ (by omega) (by omega) (by omega)]
              refine cRow_same (hC.ptr p' hp') (fun j hj => ?_)
              show pb_un (A 11) (12 * p + t) (A 11 (12 * p + t) + n) (12 * p' + j) = _
              rw [pb_un_ne _ _ (by omega)]
              rfl
          have hC2 : pb_CF (pb_wf (pb_wf A 4 (pb_un (A 4) t (A 4 t - n))) 11 (pb_un (A 11) (12 * p + t) (A 11 (12 * p + t) + n))) h h2 := k_press htt ht hp hC nb ft fp fr
          first | refine pb_aload (pc2 := 87) dX11_press_85 rfl rfl ?_ | refine pb_aloadN (pc2 := 87) dX11_press_85 rfl rfl ?_
          refine pb_getf (pc2 := 90) flX11_151_X6 rfl dX11_press_87 (by first | assumption | exact hR.a rfl | exact hR.o | exact hC.o | exact hC.pal | exact hC.tub | exact hC.k _ _ rfl | exact hC.pot _ (by omega) | exact hC.are _ (by omega) | exact hC.arl _ (by omega) | exact hC.tbo _ (by omega) (by omega)) rfl rfl ?_
          exact pb_ireturn dX11_press_90 rfl (pb_finC rfl hC2)
        · rw [if_pos (by omega)]
          refine pb_bipush (x := -3) (pc2 := 66) dX11_press_64 (by decide) rfl ?_
          exact pb_ireturn dX11_press_66 rfl (pb_finC rfl hC)
      · rw [if_pos (by omega)]
        refine pb_bipush (x := -2) (pc2 := 50) dX11_press_48 (by decide) rfl ?_
        exact pb_ireturn dX11_press_50 rfl (pb_finC rfl hC)
    · first | refine pb_astore (lv2 := [_, _, _, _, _, _]) (pc2 := 17) dX11_press_15 (by decide) rfl rfl ?_ | refine pb_astoreN (lv2 := [_, _, _, _, _, _]) (pc2 := 17) dX11_press_15 (by decide) rfl rfl ?_
      first | refine pb_aload (pc2 := 19) dX11_press_17 rfl rfl ?_ | refine pb_aloadN (pc2 := 19) dX11_press_17 rfl rfl ?_
      refine pb_ifnull (pc2 := 22) dX11_press_19 rfl ?_
      first | refine pb_aload (pc2 := 24) dX11_press_22 rfl rfl ?_ | refine pb_aloadN (pc2 := 24) dX11_press_22 rfl rfl ?_
      refine pb_ifnullN (tgt := 37) dX11_press_24 (by decide) ?_
      refine pb_iconst (x := -1) (pc2 := 38) dX11_press_37 (by decide) rfl ?_
      exact pb_ireturn dX11_press_38 rfl (pb_finC (if_neg (fun z => q z.2.1)) hC)
  · first | refine pb_astore (lv2 := [_, _, _, _, _, _]) (pc2 := 10) dX11_press_8 (by decide) rfl rfl ?_ | refine pb_astoreN (lv2 := [_, _, _, _, _, _]) (pc2 := 10) dX11_press_8 (by decide) rfl rfl ?_
    first | refine pb_aload_n (pc2 := 11) dX11_press_10 rfl rfl rfl ?_ | refine pb_aload_nN (pc2 := 11) dX11_press_10 rfl rfl rfl ?_
    refine pb_iload_n (pc2 := 12) dX11_press_11 rfl rfl rfl ?_
    refine pb_callV (pc2 := 15) (k2 := 0) (n2 := 0) mwX11_potAt pb_cl9.1 iwX11_potAt seX11_potAt rfl mlX11_147 dX11_press_12 (by first | assumption | exact hR.a rfl | exact hR.o | exact hC.o | exact hC.pal | exact hC.tub | exact hC.k _ _ rfl | exact hC.pot _ (by omega) | exact hC.are _ (by omega) | exact hC.arl _ (by omega) | exact hC.tbo _ (by omega) (by omega)) (t_potAt hC p) (by omega) (by omega) (by omega) rfl rfl (Nat.le_of_ble_eq_true rfl) rfl (pb_kRef (fun p hp e => ?_) (fun q2 => ?_))
    · first | refine pb_astore (lv2 := [_, _, _, _, _, _]) (pc2 := 17) dX11_press_15 (by decide) rfl rfl ?_ | refine pb_astoreN (lv2 := [_, _, _, _, _, _]) (pc2 := 17) dX11_press_15 (by decide) rfl rfl ?_
      first | refine pb_aload (pc2 := 19) dX11_press_17 rfl rfl ?_ | refine pb_aloadN (pc2 := 19) dX11_press_17 rfl rfl ?_
      refine pb_ifnullN (tgt := 37) dX11_press_19 (by decide) ?_
      refine pb_iconst (x := -1) (pc2 := 38) dX11_press_37 (by decide) rfl ?_
      exact pb_ireturn dX11_press_38 rfl (pb_finC (if_neg (fun z => q z.1)) hC)
    · first | refine pb_astore (lv2 := [_, _, _, _, _, _]) (pc2 := 17) dX11_press_15 (by decide) rfl rfl ?_ | refine pb_astoreN (lv2 := [_, _, _, _, _, _]) (pc2 := 17) dX11_press_15 (by decide) rfl rfl ?_
      first | refine pb_aload (pc2 := 19) dX11_press_17 rfl rfl ?_ | refine pb_aloadN (pc2 := 19) dX11_press_17 rfl rfl ?_
      refine pb_ifnullN (tgt := 37) dX11_press_19 (by decide) ?_
      refine pb_iconst (x := -1) (pc2 := 38) dX11_press_37 (by decide) rfl ?_
      exact pb_ireturn dX11_press_38 rfl (pb_finC (if_neg (fun z => q z.1)) hC)
set_option maxRecDepth 10000 in
theorem c_pour (w : pb_WF A) (hC : pb_CF A h h) (p o : Int32) : pb_T Z mX11_pour 2 0 0 [.ref 60, .int p, .int o] h (pb_PC (sp_pour A p o) h) := by
  refine pb_T.of pnX11_pour (Nat.le_of_ble_eq_true rfl) (lv := [some (.ref 60), some (.int p), some (.int o), none, none]) rfl ?_
  first | refine pb_aload_n (pc2 := 1) dX11_pour_0 rfl rfl rfl ?_ | refine pb_aload_nN (pc2 := 1) dX11_pour_0 rfl rfl rfl ?_
  refine pb_iload_n (pc2 := 2) dX11_pour_1 rfl rfl rfl ?_
  refine pb_callV (pc2 := 5) (k2 := 0) (n2 := 0) mwX11_potAt pb_cl9.1 iwX11_potAt seX11_potAt rfl mlX11_147 dX11_pour_2 (by first | assumption | exact hR.a rfl | exact hR.o | exact hC.o | exact hC.pal | exact hC.tub | exact hC.k _ _ rfl | exact hC.pot _ (by omega) | exact hC.are _ (by omega) | exact hC.arl _ (by omega) | exact hC.tbo _ (by omega) (by omega)) (t_potAt hC p) (by omega) (by omega) (by omega) rfl rfl (Nat.le_of_ble_eq_true rfl) rfl (pb_kRef (fun p hp e => ?_) (fun q => ?_))
  · subst e
    first | refine pb_astore_n (lv2 := [_, _, _, _, _]) (pc2 := 6) dX11_pour_5 rfl (by decide) rfl rfl ?_ | refine pb_astore_nN (lv2 := [_, _, _, _, _]) (pc2 := 6) dX11_pour_5 rfl (by decide) rfl rfl ?_
    first | refine pb_aload_n (pc2 := 7) dX11_pour_6 rfl rfl rfl ?_ | refine pb_aload_nN (pc2 := 7) dX11_pour_6 rfl rfl rfl ?_
    refine pb_iload_n (pc2 := 8) dX11_pour_7 rfl rfl rfl ?_
    refine pb_callV (pc2 := 11) (k2 := 0) (n2 := 0) mwX11_potAt pb_cl9.1 iwX11_potAt seX11_potAt rfl mlX11_147 dX11_pour_8 (by first | assumption | exact hR.a rfl | exact hR.o | exact hC.o | exact hC.pal | exact hC.tub | exact hC.k _ _ rfl | exact hC.pot _ (by omega) | exact hC.are _ (by omega) | exact hC.arl _ (by omega) | exact hC.tbo _ (by omega) (by omega)) (t_potAt hC o) (by omega) (by omega) (by omega) rfl rfl (Nat.le_of_ble_eq_true rfl) rfl (pb_kRef (fun o ho e => ?_) (fun q => ?_))
    · subst e
      first | refine pb_astore (lv2 := [_, _, _, _, _]) (pc2 := 13) dX11_pour_11 (by decide) rfl rfl ?_ | refine pb_astoreN (lv2 := [_, _, _, _, _]) (pc2 := 13) dX11_pour_11 (by decide) rfl rfl ?_
      first | refine pb_aload_n (pc2 := 14) dX11_pour_13 rfl rfl rfl ?_ | refine pb_aload_nN (pc2 := 14) dX11_pour_13 rfl rfl rfl ?_
      refine pb_ifnull (pc2 := 17) dX11_pour_14 rfl ?_
      first | refine pb_aload (pc2 := 19) dX11_pour_17 rfl rfl ?_ | refine pb_aloadN (pc2 := 19) dX11_pour_17 rfl rfl ?_
      refine pb_ifnull (pc2 := 22) dX11_pour_19 rfl ?_
      refine pb_iload_n (pc2 := 23) dX11_pour_22 rfl rfl rfl ?_
      refine pb_iload_n (pc2 := 24) dX11_pour_23 rfl rfl rfl ?_
      refine pb_icmpN_ne (tgt := 29) (pc2 := 27) dX11_pour_24 (by decide) rfl (by omega) (by omega) (fun c0 => ?_) (fun c0 => ?_)
      · have e0 : sp_pour A (nI p) (nI o) = _ := if_pos ⟨pb_in_mk (by omega) (by omega) (by omega), pb_in_mk (by omega) (by omega) (by omega), fun z => c0 (nI_inj (by omega) (by omega) z)⟩
        rw [e0, pb_natN (by omega), pb_natN (by omega)]
        have t1 := w.tot hp
        have t2 := w.tot ho
        first | refine pb_aload_n (pc2 := 30) dX11_pour_29 rfl rfl rfl ?_ | refine pb_aload_nN (pc2 := 30) dX11_pour_29 rfl rfl rfl ?_
        refine pb_getf (v := .int (nI (pb_tot A p))) (pc2 := 33) flX11_151_X6 rfl dX11_pour_30 (by first | assumption | exact hR.a rfl | exact hR.o | exact hC.o | exact hC.pal | exact hC.tub | exact hC.k _ _ rfl | exact hC.pot _ (by omega) | exact hC.are _ (by omega) | exact hC.arl _ (by omega) | exact hC.tbo _ (by omega) (by omega)) rfl rfl ?_
        refine pb_ifN_ne (tgt := 39) (pc2 := 36) dX11_pour_33 (by decide) rfl (by omega) (fun c1 => ?_) (fun c1 => ?_)
        · rw [if_neg c1]
          first | refine pb_aload_n (pc2 := 40) dX11_pour_39 rfl rfl rfl ?_ | refine pb_aload_nN (pc2 := 40) dX11_pour_39 rfl rfl rfl ?_
          refine pb_getf (v := .int (nI (pb_tot A p))) (pc2 := 43) flX11_151_X6 rfl dX11_pour_40 (by first | assumption | exact hR.a rfl | exact hR.o | exact hC.o | exact hC.pal | exact hC.tub | exact hC.k _ _ rfl | exact hC.pot _ (by omega) | exact hC.are _ (by omega) | exact hC.arl _ (by omega) | exact hC.tbo _ (by omega) (by omega)) rfl rfl ?_
          first | refine pb_aload (pc2 := 45) dX11_pour_43 rfl rfl ?_ | refine pb_aloadN (pc2 := 45) dX11_pour_43 rfl rfl ?_
          refine pb_getf (v := .int (nI (pb_tot A o))) (pc2 := 48) flX11_151_X6 rfl dX11_pour_45 (by first | assumption | exact hR.a rfl | exact hR.o | exact hC.o | exact hC.pal | exact hC.tub | exact hC.k _ _ rfl | exact hC.pot _ (by omega) | exact hC.are _ (by omega) | exact hC.arl _ (by omega) | exact hC.tbo _ (by omega) (by omega)) rfl rfl ?_
          refine pb_iaddN (pc2 := 49) dX11_pour_48 rfl ?_
          refine pb_sipush (x := nI 999) (pc2 := 52) dX11_pour_49 (by decide) rfl ?_
          refine pb_icmpN_le (tgt := 58) (pc2 := 55) dX11_pour_52 (by decide) rfl (by omega) (by omega) (fun c2 => ?_) (fun c2 => ?_)
          · rw [if_neg (by omega)]
            obtain ⟨F, hr, hF⟩ := hC.ptr o ho
            obtain ⟨G, hg, hG⟩ := hC.ptr p hp
            first | refine pb_aload (pc2 := 60) dX11_pour_58 rfl rfl ?_ | refine pb_aloadN (pc2 := 60) dX11_pour_58 rfl rfl ?_
            first | refine pb_aload_n (pc2 := 61) dX11_pour_60 rfl rfl rfl ?_ | refine pb_aload_nN (pc2 := 61) dX11_pour_60 rfl rfl rfl ?_
            refine pb_callV (pc2 := 64) (k2 := 0) (n2 := 0) mwX6_addAll pb_cl6.1 iwX6_addAll seX6_addAll rfl mlX11_157 dX11_pour_61 (by first | assumption | exact hR.a rfl | exact hR.o | exact hC.o | exact hC.pal | exact hC.tub | exact hC.k _ _ rfl | exact hC.pot _ (by omega) | exact hC.are _ (by omega) | exact hC.arl _ (by omega) | exact hC.tbo _ (by omega) (by omega)) (t_maddAll (hC.pot o ho) hr (hC.pot p hp) hg (by omega)) (by omega) (by omega) (by omega) rfl rfl (Nat.le_of_ble_eq_true rfl) rfl (fun v h1 q _ => ?_)
            obtain ⟨rfl, hmo, ⟨F1, hr, hF1⟩, n1⟩ := q
            have hmp := (n1 _ (by omega) (by omega)).trans (hC.pot p hp)
            have hg := (n1 _ (by omega) (by omega)).trans hg
            have hsum : pb_sum 12 G = pb_tot A p := pb_sum_congr 12 hG
            rw [hsum, Nat.add_comm (pb_tot A o)] at hmo
            first | refine pb_aload_n (pc2 := 65) dX11_pour_64 rfl rfl rfl ?_ | refine pb_aload_nN (pc2 := 65) dX11_pour_64 rfl rfl rfl ?_
            refine pb_callV (pc2 := 68) (k2 := 0) (n2 := 0) mwX6_makeEmpty pb_cl6.1 iwX6_makeEmpty seX6_makeEmpty rfl mlX11_161 dX11_pour_65 (by first | assumption | exact hR.a rfl | exact hR.o | exact hC.o | exact hC.pal | exact hC.tub | exact hC.k _ _ rfl | exact hC.pot _ (by omega) | exact hC.are _ (by omega) | exact hC.arl _ (by omega) | exact hC.tbo _ (by omega) (by omega)) (t_makeEmpty hmp hg (by omega)) (by omega) (by omega) (by omega) rfl rfl (Nat.le_of_ble_eq_true rfl) rfl (fun v h2 q _ => ?_)
            obtain ⟨rfl, hmp, hg, n2⟩ := q
            have hmo := (n2 _ (by omega) (by omega)).trans hmo
            have hr := (n2 _ (by omega) (by omega)).trans hr
            have nb : ∀ b, b ≠ 100 + p → b ≠ 130 + p → b ≠ 100 + o → b ≠ 130 + o → h2 b = h b := fun b b1 b2 b3 b4 => (n2 b b1 b2).trans (n1 b b3 b4)
            have ar : ∀ q u, u < 12 → sp_pourA A p o 11 (12 * q + u) = if q = o then A 11 (12 * o + u) + A 11 (12 * p + u) else if q = p then 0 else A 11 (12 * q + u) := fun q u hu => by
              unfold sp_pourA
              rw [pb_wf_self]
              by_cases e : q = o
              · subst e
                rw [if_pos (by omega), if_pos rfl, show 12 * q + u - 12 * q = u by omega]
              · rw [if_neg (by omega), if_neg e]
                by_cases e2 : q = p
                · rw [if_pos (by omega), if_pos e2]
                · rw [if_neg (by omega), if_neg e2]
            have fp : ∀ q, q < 10 → h2 (100 + q) = some (.inr (.inr (6, cMx (130 + q) (pb_tot (sp_pourA A p o) q)))) := fun q hq => by
              by_cases e : q = o
              · subst e
                rw [hmo, sp_pour_tot c0]
              · by_cases e2 : q = p
                · subst e2
                  rw [hmp, pb_tot_z (fun u hu => by rw [ar q u hu, if_neg e, if_pos rfl])]
                · rw [nb _ (by omega) (by omega) (by omega) (by omega), hC.pot q hq]
                  rw [pb_tot_c (A := A) (A' := sp_pourA A p o) (fun u hu => by rw [ar q u hu, if_neg e, if_neg e2])]
            have fr : ∀ q, q < 10 → cRow 12 (pb_pot (sp_pourA A p o) q) (h2 (130 + q)) := fun q hq => by
              by_cases e : q = o
              · subst e
                refine ⟨F1, hr, fun u hu => ?_⟩
                show _ = sp_pourA A p q 11 (12 * q + u)
                rw [ar q u hu, if_pos rfl, hF1 u hu]
                show F u + G u = _
                rw [hF u hu, hG u hu]
                rfl
              · by_cases e2 : q = p
                · subst e2
                  refine cRow_same hg (fun u hu => ?_)
                  show sp_pourA A q o 11 (12 * q + u) = 0
                  rw [ar q u hu, if_neg e, if_pos rfl]
                · rw [nb _ (by omega) (by omega) (by omega) (by omega)]
                  refine cRow_same (hC.ptr q hq) (fun u hu => ?_)
                  show sp_pourA A p o 11 (12 * q + u) = A 11 (12 * q + u)
                  rw [ar q u hu, if_neg e, if_neg e2]
            have hC2 : pb_CF (sp_pourA A p o) h h2 := k_pour hp ho hC nb fp fr
            first | refine pb_aload (pc2 := 70) dX11_pour_68 rfl rfl ?_ | refine pb_aloadN (pc2 := 70) dX11_pour_68 rfl rfl ?_
            refine pb_getf (v := .int (nI (pb_tot A p + pb_tot A o))) (pc2 := 73) flX11_151_X6 rfl dX11_pour_70 (by first | assumption | exact hR.a rfl | exact hR.o | exact hC.o | exact hC.pal | exact hC.tub | exact hC.k _ _ rfl | exact hC.pot _ (by omega) | exact hC.are _ (by omega) | exact hC.arl _ (by omega) | exact hC.tbo _ (by omega) (by omega)) rfl rfl ?_
            exact pb_ireturn dX11_pour_73 rfl (pb_finC rfl hC2)
          · rw [if_pos (by omega)]
            refine pb_bipush (x := -3) (pc2 := 57) dX11_pour_55 (by decide) rfl ?_
            exact pb_ireturn dX11_pour_57 rfl (pb_finC rfl hC)
        · rw [if_pos c1]
          refine pb_bipush (x := -2) (pc2 := 38) dX11_pour_36 (by decide) rfl ?_
          exact pb_ireturn dX11_pour_38 rfl (pb_finC rfl hC)
      · subst c0
        refine pb_iconst (x := -1) (pc2 := 28) dX11_pour_27 (by decide) rfl ?_
        exact pb_ireturn dX11_pour_28 rfl (pb_finC (if_neg (fun z => z.2.2 rfl)) hC)
    · first | refine pb_astore (lv2 := [_, _, _, _, _]) (pc2 := 13) dX11_pour_11 (by decide) rfl rfl ?_ | refine pb_astoreN (lv2 := [_, _, _, _, _]) (pc2 := 13) dX11_pour_11 (by decide) rfl rfl ?_
      first | refine pb_aload_n (pc2 := 14) dX11_pour_13 rfl rfl rfl ?_ | refine pb_aload_nN (pc2 := 14) dX11_pour_13 rfl rfl rfl ?_
      refine pb_ifnull (pc2 := 17) dX11_pour_14 rfl ?_
      first | refine pb_aload (pc2 := 19) dX11_pour_17 rfl rfl ?_ | refine pb_aloadN (pc2 := 19) dX11_pour_17 rfl rfl ?_
      refine pb_ifnullN (tgt := 27) dX11_pour_19 (by decide) ?_
      refine pb_iconst (x := -1) (pc2 := 28) dX11_pour_27 (by decide) rfl ?_
      exact pb_ireturn dX11_pour_28 rfl (pb_finC (if_neg (fun z => q z.2.1)) hC)
  · first | refine pb_astore_n (lv2 := [_, _, _, _, _]) (pc2 := 6) dX11_pour_5 rfl (by decide) rfl rfl ?_ | refine pb_astore_nN (lv2 := [_, _, _, _, _]) (pc2 := 6) dX11_pour_5 rfl (by decide) rfl rfl ?_
    first | refine pb_aload_n (pc2 := 7) dX11_pour_6 rfl rfl rfl ?_ | refine pb_aload_nN (pc2 := 7) dX11_pour_6 rfl rfl rfl ?_
    refine pb_iload_n (pc2 := 8) dX11_pour_7 rfl rfl rfl ?_
    refine pb_callV (pc2 := 11) (k2 := 0) (n2 := 0) mwX11_potAt pb_cl9.1 iwX11_potAt seX11_potAt rfl mlX11_147 dX11_pour_8 (by first | assumption | exact hR.a rfl | exact hR.o | exact hC.o | exact hC.pal | exact hC.tub | exact hC.k _ _ rfl | exact hC.pot _ (by omega) | exact hC.are _ (by omega) | exact hC.arl _ (by omega) | exact hC.tbo _ (by omega) (by omega)) (t_potAt hC o) (by omega) (by omega) (by omega) rfl rfl (Nat.le_of_ble_eq_true rfl) rfl (pb_kRef (fun o ho e => ?_) (fun q2 => ?_))
    · first | refine pb_astore (lv2 := [_, _, _, _, _]) (pc2 := 13) dX11_pour_11 (by decide) rfl rfl ?_ | refine pb_astoreN (lv2 := [_, _, _, _, _]) (pc2 := 13) dX11_pour_11 (by decide) rfl rfl ?_
      first | refine pb_aload_n (pc2 := 14) dX11_pour_13 rfl rfl rfl ?_ | refine pb_aload_nN (pc2 := 14) dX11_pour_13 rfl rfl rfl ?_
      refine pb_ifnullN (tgt := 27) dX11_pour_14 (by decide) ?_
      refine pb_iconst (x := -1) (pc2 := 28) dX11_pour_27 (by decide) rfl ?_
      exact pb_ireturn dX11_pour_28 rfl (pb_finC (if_neg (fun z => q z.1)) hC)
    · first | refine pb_astore (lv2 := [_, _, _, _, _]) (pc2 := 13) dX11_pour_11 (by decide) rfl rfl ?_ | refine pb_astoreN (lv2 := [_, _, _, _, _]) (pc2 := 13) dX11_pour_11 (by decide) rfl rfl ?_
      first | refine pb_aload_n (pc2 := 14) dX11_pour_13 rfl rfl rfl ?_ | refine pb_aload_nN (pc2 := 14) dX11_pour_13 rfl rfl rfl ?_
      refine pb_ifnullN (tgt := 27) dX11_pour_14 (by decide) ?_
      refine pb_iconst (x := -1) (pc2 := 28) dX11_pour_27 (by decide) rfl ?_
      exact pb_ireturn dX11_pour_28 rfl (pb_finC (if_neg (fun z => q z.1)) hC)
set_option maxRecDepth 10000 in
theorem t_countLost (w : pb_WF A) (h61 : h 61 = some (.inr (.inr (7, [.ref 71, .int (nI (A 1 0))])))) (h71 : h 71 = some (.inr (.inl (0, 12, cTo 200 (A 1 0))))) (htb : ∀ t, t < A 1 0 → h (200 + t) = some (.inr (.inr (8, cTb A t)))) {m r tot : Nat} {F : Nat → Nat} (hm : h m = some (.inr (.inr (6, cMx r tot)))) (hr : h r = some (.inl (0, 12, fun j => nI (F j)))) (hne : (m < 200 ∨ 212 ≤ m) ∧ (r < 200 ∨ 212 ≤ r)) : pb_T Z mX8_countLost 1 0 0 [.ref 61, .ref m] h (fun v h' => v = none ∧ (∀ t, t < A 1 0 → h' (200 + t) = cOb 8 (cTq A (A 5) (fun u => A 6 u + F u) t)) ∧ ∀ b, b < 200 ∨ 200 + A 1 0 ≤ b → h' b = h b) := by
  have htt := w.tubes
  obtain ⟨m1, m2⟩ := hne
  refine pb_T.of pnX8_countLost (Nat.le_of_ble_eq_true rfl) (lv := [some (.ref 61), some (.ref m), none]) rfl ?_
  have loop : ∀ (q i : Nat) (h' : pb_H), A 1 0 - i < q → i ≤ A 1 0 → (∀ t, t < A 1 0 → h' (200 + t) = cOb 8 (cTq A (A 5) (fun u => if u < i then A 6 u + F u else A 6 u) t)) → (∀ b, b < 200 ∨ 200 + A 1 0 ≤ b → h' b = h b) → pb_S Z mX8_countLost 1 0 0 (fun v h' => v = none ∧ (∀ t, t < A 1 0 → h' (200 + t) = cOb 8 (cTq A (A 5) (fun u => A 6 u + F u) t)) ∧ ∀ b, b < 200 ∨ 200 + A 1 0 ≤ b → h' b = h b) 2 [some (.ref 61), some (.ref m), some (.int (nI i))] [] h' := by
    intro q
    induction q with
    | zero => intro i h' g1; omega
    | succ q ih =>
      intro i h' g1 g2 hT hne
      have h61 : h' 61 = _ := (hne 61 (by omega)).trans h61
      have h71 : h' 71 = _ := (hne 71 (by omega)).trans h71
      have hm : h' m = _ := (hne m (by omega)).trans hm
      have hr : h' r = _ := (hne r (by omega)).trans hr
      refine pb_iload_n (pc2 := 3) dX8_countLost_2 rfl rfl rfl ?_
      first | refine pb_aload_n (pc2 := 4) dX8_countLost_3 rfl rfl rfl ?_ | refine pb_aload_nN (pc2 := 4) dX8_countLost_3 rfl rfl rfl ?_
      refine pb_getf (pc2 := 7) flX8_17_X8 rfl dX8_countLost_4 (by first | assumption | exact hR.a rfl | exact hR.o | exact hC.o | exact hC.pal | exact hC.tub | exact hC.k _ _ rfl | exact hC.pot _ (by omega) | exact hC.are _ (by omega) | exact hC.arl _ (by omega) | exact hC.tbo _ (by omega) (by omega)) rfl rfl ?_
      refine pb_icmpN_ge (tgt := 35) (pc2 := 10) dX8_countLost_7 (by decide) rfl (by omega) (by omega) (fun c => ?_) (fun c => ?_)
      · have e : i = A 1 0 := by omega
        subst e
        exact pb_return dX8_countLost_35 rfl (⟨rfl, fun t ht => (hT t ht).trans (cOb_c (cTq_c rfl (if_pos ht))), hne⟩)
      · have hti : h' (200 + i) = some (.inr (.inr (8, cTq A (A 5) (A 6) i))) := (hT i c).trans (cOb_c (cTq_c rfl (if_neg (Nat.lt_irrefl i))))
        first | refine pb_aload_n (pc2 := 11) dX8_countLost_10 rfl rfl rfl ?_ | refine pb_aload_nN (pc2 := 11) dX8_countLost_10 rfl rfl rfl ?_
        refine pb_getf (pc2 := 14) flX8_11_X8 rfl dX8_countLost_11 (by first | assumption | exact hR.a rfl | exact hR.o | exact hC.o | exact hC.pal | exact hC.tub | exact hC.k _ _ rfl | exact hC.pot _ (by omega) | exact hC.are _ (by omega) | exact hC.arl _ (by omega) | exact hC.tbo _ (by omega) (by omega)) rfl rfl ?_
        refine pb_iload_n (pc2 := 15) dX8_countLost_14 rfl rfl rfl ?_
        refine pb_aald (pc2 := 16) (by first | assumption | exact hR.a rfl | exact hR.o | exact hC.o | exact hC.pal | exact hC.tub | exact hC.k _ _ rfl | exact hC.pot _ (by omega) | exact hC.are _ (by omega) | exact hC.arl _ (by omega) | exact hC.tbo _ (by omega) (by omega)) dX8_countLost_15 (by decide) (by omega) (by omega) (cTo_at (by omega)) rfl ?_
        refine pb_dup (pc2 := 17) dX8_countLost_16 rfl rfl ?_
        refine pb_getf (pc2 := 20) flX8_29_X10 rfl dX8_countLost_17 (by first | assumption | exact hR.a rfl | exact hR.o | exact hC.o | exact hC.pal | exact hC.tub | exact hC.k _ _ rfl | exact hC.pot _ (by omega) | exact hC.are _ (by omega) | exact hC.arl _ (by omega) | exact hC.tbo _ (by omega) (by omega)) rfl rfl ?_
        first | refine pb_aload_n (pc2 := 21) dX8_countLost_20 rfl rfl rfl ?_ | refine pb_aload_nN (pc2 := 21) dX8_countLost_20 rfl rfl rfl ?_
        refine pb_iload_n (pc2 := 22) dX8_countLost_21 rfl rfl rfl ?_
        refine pb_callV (pc2 := 25) (k2 := 0) (n2 := 0) mwX6_of pb_cl6.1 iwX6_of seX6_of rfl mlX8_32 dX8_countLost_22 (by first | assumption | exact hR.a rfl | exact hR.o | exact hC.o | exact hC.pal | exact hC.tub | exact hC.k _ _ rfl | exact hC.pot _ (by omega) | exact hC.are _ (by omega) | exact hC.arl _ (by omega) | exact hC.tbo _ (by omega) (by omega)) (t_of hm hr (show i < 12 by omega)) (by omega) (by omega) (by omega) rfl rfl (Nat.le_of_ble_eq_true rfl) rfl (pb_kE ?_)
        refine pb_iaddN (pc2 := 26) dX8_countLost_25 rfl ?_
        refine pb_putG (fs2 := [_, _, _, _, _, _, _]) (pc2 := 29) flX8_29_X10 rfl dX8_countLost_26 hti (by omega) rfl rfl rfl rfl rfl (fun h1 ho n1 => ?_)
        refine pb_iincP (c0 := 1) (lv2 := [_, _, _]) (pc2 := 32) dX8_countLost_29 rfl (by decide) rfl rfl ?_
        refine pb_goto (tgt := 2) dX8_countLost_32 (by decide) ?_
        refine ih (i + 1) h1 (by omega) (by omega) (fun t ht => ?_) (fun b hb => (n1 b (by omega)).trans (hne b hb))
        by_cases e : t = i
        · subst e
          rw [ho]
          exact (cOb_c (ci := 8) (fs := cTq A (A 5) (fun u => if u < t + 1 then A 6 u + F u else A 6 u) t) (fs' := cTq A (A 5) (fun u => A 6 u + F u) t) (cTq_c rfl (if_pos (Nat.lt_succ_self t)))).symm
        · rw [n1 _ (by omega), hT t ht]
          refine cOb_c (cTq_c rfl ?_)
          show (if t < i then A 6 t + F t else A 6 t) = (if t < i + 1 then A 6 t + F t else A 6 t)
          by_cases e3 : t < i
          · rw [if_pos e3, if_pos (by omega)]
          · rw [if_neg e3, if_neg (by omega)]
  refine pb_iconst (x := nI 0) (pc2 := 1) dX8_countLost_0 (by decide) rfl ?_
  refine pb_istore_n (lv2 := [_, _, _]) (pc2 := 2) dX8_countLost_1 rfl (by decide) rfl rfl ?_
  refine loop (A 1 0 + 1) 0 h (by omega) (by omega) (fun t ht => ?_) (fun _ _ => rfl)
  rw [htb t ht]
  exact (cOb_c (ci := 8) (fs := cTq A (A 5) (fun u => if u < 0 then A 6 u + F u else A 6 u) t) (fs' := cTq A (A 5) (A 6) t) (cTq_c rfl (if_neg (Nat.not_lt_zero t)))).symm
set_option maxRecDepth 10000 in
theorem t_countLaid (w : pb_WF A) (h61 : h 61 = some (.inr (.inr (7, [.ref 71, .int (nI (A 1 0))])))) (h71 : h 71 = some (.inr (.inl (0, 12, cTo 200 (A 1 0))))) (htb : ∀ t, t < A 1 0 → h (200 + t) = some (.inr (.inr (8, cTb A t)))) {m r tot : Nat} {F : Nat → Nat} (hm : h m = some (.inr (.inr (6, cMx r tot)))) (hr : h r = some (.inl (0, 12, fun j => nI (F j)))) (hne : (m < 200 ∨ 212 ≤ m) ∧ (r < 200 ∨ 212 ≤ r)) : pb_T Z mX8_countLaid 1 0 0 [.ref 61, .ref m] h (fun v h' => v = none ∧ (∀ t, t < A 1 0 → h' (200 + t) = cOb 8 (cTq A (fun u => A 5 u + F u) (A 6) t)) ∧ ∀ b, b < 200 ∨ 200 + A 1 0 ≤ b → h' b = h b) := by
  have htt := w.tubes
  obtain ⟨m1, m2⟩ := hne
  refine pb_T.of pnX8_countLaid (Nat.le_of_ble_eq_true rfl) (lv := [some (.ref 61), some (.ref m), none]) rfl ?_
  have loop : ∀ (q i : Nat) (h' : pb_H), A 1 0 - i < q → i ≤ A 1 0 → (∀ t, t < A 1 0 → h' (200 + t) = cOb 8 (cTq A (fun u => if u < i then A 5 u + F u else A 5 u) (A 6) t)) → (∀ b, b < 200 ∨ 200 + A 1 0 ≤ b → h' b = h b) → pb_S Z mX8_countLaid 1 0 0 (fun v h' => v = none ∧ (∀ t, t < A 1 0 → h' (200 + t) = cOb 8 (cTq A (fun u => A 5 u + F u) (A 6) t)) ∧ ∀ b, b < 200 ∨ 200 + A 1 0 ≤ b → h' b = h b) 2 [some (.ref 61), some (.ref m), some (.int (nI i))] [] h' := by
    intro q
    induction q with
    | zero => intro i h' g1; omega
    | succ q ih =>
      intro i h' g1 g2 hT hne
      have h61 : h' 61 = _ := (hne 61 (by omega)).trans h61
      have h71 : h' 71 = _ := (hne 71 (by omega)).trans h71
      have hm : h' m = _ := (hne m (by omega)).trans hm
      have hr : h' r = _ := (hne r (by omega)).trans hr
      refine pb_iload_n (pc2 := 3) dX8_countLaid_2 rfl rfl rfl ?_
      first | refine pb_aload_n (pc2 := 4) dX8_countLaid_3 rfl rfl rfl ?_ | refine pb_aload_nN (pc2 := 4) dX8_countLaid_3 rfl rfl rfl ?_
      refine pb_getf (pc2 := 7) flX8_17_X8 rfl dX8_countLaid_4 (by first | assumption | exact hR.a rfl | exact hR.o | exact hC.o | exact hC.pal | exact hC.tub | exact hC.k _ _ rfl | exact hC.pot _ (by omega) | exact hC.are _ (by omega) | exact hC.arl _ (by omega) | exact hC.tbo _ (by omega) (by omega)) rfl rfl ?_
      refine pb_icmpN_ge (tgt := 35) (pc2 := 10) dX8_countLaid_7 (by decide) rfl (by omega) (by omega) (fun c => ?_) (fun c => ?_)
      · have e : i = A 1 0 := by omega
        subst e
        exact pb_return dX8_countLaid_35 rfl (⟨rfl, fun t ht => (hT t ht).trans (cOb_c (cTq_c (if_pos ht) rfl)), hne⟩)
      · have hti : h' (200 + i) = some (.inr (.inr (8, cTq A (A 5) (A 6) i))) := (hT i c).trans (cOb_c (cTq_c (if_neg (Nat.lt_irrefl i)) rfl))
        first | refine pb_aload_n (pc2 := 11) dX8_countLaid_10 rfl rfl rfl ?_ | refine pb_aload_nN (pc2 := 11) dX8_countLaid_10 rfl rfl rfl ?_
        refine pb_getf (pc2 := 14) flX8_11_X8 rfl dX8_countLaid_11 (by first | assumption | exact hR.a rfl | exact hR.o | exact hC.o | exact hC.pal | exact hC.tub | exact hC.k _ _ rfl | exact hC.pot _ (by omega) | exact hC.are _ (by omega) | exact hC.arl _ (by omega) | exact hC.tbo _ (by omega) (by omega)) rfl rfl ?_
        refine pb_iload_n (pc2 := 15) dX8_countLaid_14 rfl rfl rfl ?_
        refine pb_aald (pc2 := 16) (by first | assumption | exact hR.a rfl | exact hR.o | exact hC.o | exact hC.pal | exact hC.tub | exact hC.k _ _ rfl | exact hC.pot _ (by omega) | exact hC.are _ (by omega) | exact hC.arl _ (by omega) | exact hC.tbo _ (by omega) (by omega)) dX8_countLaid_15 (by decide) (by omega) (by omega) (cTo_at (by omega)) rfl ?_
        refine pb_dup (pc2 := 17) dX8_countLaid_16 rfl rfl ?_
        refine pb_getf (pc2 := 20) flX8_38_X10 rfl dX8_countLaid_17 (by first | assumption | exact hR.a rfl | exact hR.o | exact hC.o | exact hC.pal | exact hC.tub | exact hC.k _ _ rfl | exact hC.pot _ (by omega) | exact hC.are _ (by omega) | exact hC.arl _ (by omega) | exact hC.tbo _ (by omega) (by omega)) rfl rfl ?_
        first | refine pb_aload_n (pc2 := 21) dX8_countLaid_20 rfl rfl rfl ?_ | refine pb_aload_nN (pc2 := 21) dX8_countLaid_20 rfl rfl rfl ?_
        refine pb_iload_n (pc2 := 22) dX8_countLaid_21 rfl rfl rfl ?_
        refine pb_callV (pc2 := 25) (k2 := 0) (n2 := 0) mwX6_of pb_cl6.1 iwX6_of seX6_of rfl mlX8_32 dX8_countLaid_22 (by first | assumption | exact hR.a rfl | exact hR.o | exact hC.o | exact hC.pal | exact hC.tub | exact hC.k _ _ rfl | exact hC.pot _ (by omega) | exact hC.are _ (by omega) | exact hC.arl _ (by omega) | exact hC.tbo _ (by omega) (by omega)) (t_of hm hr (show i < 12 by omega)) (by omega) (by omega) (by omega) rfl rfl (Nat.le_of_ble_eq_true rfl) rfl (pb_kE ?_)
        refine pb_iaddN (pc2 := 26) dX8_countLaid_25 rfl ?_
        refine pb_putG (fs2 := [_, _, _, _, _, _, _]) (pc2 := 29) flX8_38_X10 rfl dX8_countLaid_26 hti (by omega) rfl rfl rfl rfl rfl (fun h1 ho n1 => ?_)
        refine pb_iincP (c0 := 1) (lv2 := [_, _, _]) (pc2 := 32) dX8_countLaid_29 rfl (by decide) rfl rfl ?_
        refine pb_goto (tgt := 2) dX8_countLaid_32 (by decide) ?_
        refine ih (i + 1) h1 (by omega) (by omega) (fun t ht => ?_) (fun b hb => (n1 b (by omega)).trans (hne b hb))
        by_cases e : t = i
        · subst e
          rw [ho]
          exact (cOb_c (ci := 8) (fs := cTq A (fun u => if u < t + 1 then A 5 u + F u else A 5 u) (A 6) t) (fs' := cTq A (fun u => A 5 u + F u) (A 6) t) (cTq_c (if_pos (Nat.lt_succ_self t)) rfl)).symm
        · rw [n1 _ (by omega), hT t ht]
          refine cOb_c (cTq_c ?_ rfl)
          show (if t < i then A 5 t + F t else A 5 t) = (if t < i + 1 then A 5 t + F t else A 5 t)
          by_cases e3 : t < i
          · rw [if_pos e3, if_pos (by omega)]
          · rw [if_neg e3, if_neg (by omega)]
  refine pb_iconst (x := nI 0) (pc2 := 1) dX8_countLaid_0 (by decide) rfl ?_
  refine pb_istore_n (lv2 := [_, _, _]) (pc2 := 2) dX8_countLaid_1 rfl (by decide) rfl rfl ?_
  refine loop (A 1 0 + 1) 0 h (by omega) (by omega) (fun t ht => ?_) (fun _ _ => rfl)
  rw [htb t ht]
  exact (cOb_c (ci := 8) (fs := cTq A (fun u => if u < 0 then A 5 u + F u else A 5 u) (A 6) t) (fs' := cTq A (A 5) (A 6) t) (cTq_c (if_neg (Nat.not_lt_zero t)) rfl)).symm
set_option maxRecDepth 10000 in
theorem c_waste (w : pb_WF A) (hC : pb_CF A h h) (p : Int32) : pb_T Z mX11_waste 2 0 0 [.ref 60, .int p] h (pb_PC (sp_waste A p) h) := by
  have htt := w.tubes
  refine pb_T.of pnX11_waste (Nat.le_of_ble_eq_true rfl) (lv := [some (.ref 60), some (.int p), none, none]) rfl ?_
  first | refine pb_aload_n (pc2 := 1) dX11_waste_0 rfl rfl rfl ?_ | refine pb_aload_nN (pc2 := 1) dX11_waste_0 rfl rfl rfl ?_
  refine pb_iload_n (pc2 := 2) dX11_waste_1 rfl rfl rfl ?_
  refine pb_callV (pc2 := 5) (k2 := 0) (n2 := 0) mwX11_potAt pb_cl9.1 iwX11_potAt seX11_potAt rfl mlX11_147 dX11_waste_2 (by first | assumption | exact hR.a rfl | exact hR.o | exact hC.o | exact hC.pal | exact hC.tub | exact hC.k _ _ rfl | exact hC.pot _ (by omega) | exact hC.are _ (by omega) | exact hC.arl _ (by omega) | exact hC.tbo _ (by omega) (by omega)) (t_potAt hC p) (by omega) (by omega) (by omega) rfl rfl (Nat.le_of_ble_eq_true rfl) rfl (pb_kRef (fun p hp e => ?_) (fun q => ?_))
  · subst e
    have e0 : sp_waste A (nI p) = _ := if_pos (pb_in_mk (by omega) (by omega) (by omega))
    rw [e0, pb_natN (by omega)]
    have t1 := w.tot hp
    first | refine pb_astore_n (lv2 := [_, _, _, _]) (pc2 := 6) dX11_waste_5 rfl (by decide) rfl rfl ?_ | refine pb_astore_nN (lv2 := [_, _, _, _]) (pc2 := 6) dX11_waste_5 rfl (by decide) rfl rfl ?_
    first | refine pb_aload_n (pc2 := 7) dX11_waste_6 rfl rfl rfl ?_ | refine pb_aload_nN (pc2 := 7) dX11_waste_6 rfl rfl rfl ?_
    refine pb_ifnonnull (tgt := 12) dX11_waste_7 (by decide) ?_
    first | refine pb_aload_n (pc2 := 13) dX11_waste_12 rfl rfl rfl ?_ | refine pb_aload_nN (pc2 := 13) dX11_waste_12 rfl rfl rfl ?_
    refine pb_getf (v := .int (nI (pb_tot A p))) (pc2 := 16) flX11_151_X6 rfl dX11_waste_13 (by first | assumption | exact hR.a rfl | exact hR.o | exact hC.o | exact hC.pal | exact hC.tub | exact hC.k _ _ rfl | exact hC.pot _ (by omega) | exact hC.are _ (by omega) | exact hC.arl _ (by omega) | exact hC.tbo _ (by omega) (by omega)) rfl rfl ?_
    refine pb_ifN_ne (tgt := 22) (pc2 := 19) dX11_waste_16 (by decide) rfl (by omega) (fun c1 => ?_) (fun c1 => ?_)
    · rw [if_neg c1]
      obtain ⟨F, hr, hF⟩ := hC.ptr p hp
      first | refine pb_aload_n (pc2 := 23) dX11_waste_22 rfl rfl rfl ?_ | refine pb_aload_nN (pc2 := 23) dX11_waste_22 rfl rfl rfl ?_
      refine pb_getf (v := .int (nI (pb_tot A p))) (pc2 := 26) flX11_151_X6 rfl dX11_waste_23 (by first | assumption | exact hR.a rfl | exact hR.o | exact hC.o | exact hC.pal | exact hC.tub | exact hC.k _ _ rfl | exact hC.pot _ (by omega) | exact hC.are _ (by omega) | exact hC.arl _ (by omega) | exact hC.tbo _ (by omega) (by omega)) rfl rfl ?_
      refine pb_istore_n (lv2 := [_, _, _, _]) (pc2 := 27) dX11_waste_26 rfl (by decide) rfl rfl ?_
      first | refine pb_aload_n (pc2 := 28) dX11_waste_27 rfl rfl rfl ?_ | refine pb_aload_nN (pc2 := 28) dX11_waste_27 rfl rfl rfl ?_
      refine pb_getf (pc2 := 31) flX11_12_X11 rfl dX11_waste_28 (by first | assumption | exact hR.a rfl | exact hR.o | exact hC.o | exact hC.pal | exact hC.tub | exact hC.k _ _ rfl | exact hC.pot _ (by omega) | exact hC.are _ (by omega) | exact hC.arl _ (by omega) | exact hC.tbo _ (by omega) (by omega)) rfl rfl ?_
      first | refine pb_aload_n (pc2 := 32) dX11_waste_31 rfl rfl rfl ?_ | refine pb_aload_nN (pc2 := 32) dX11_waste_31 rfl rfl rfl ?_
      refine pb_callV (pc2 := 35) (k2 := 0) (n2 := 0) mwX8_countLost pb_cl7.1 iwX8_countLost seX8_countLost rfl mlX11_164 dX11_waste_32 (by first | assumption | exact hR.a rfl | exact hR.o | exact hC.o | exact hC.pal | exact hC.tub | exact hC.k _ _ rfl | exact hC.pot _ (by omega) | exact hC.are _ (by omega) | exact hC.arl _ (by omega) | exact hC.tbo _ (by omega) (by omega)) (t_countLost w hC.pal hC.tub (fun t ht => hC.tbo t (by omega) ht) (hC.pot p hp) hr (by omega)) (by omega) (by omega) (by omega) rfl rfl (Nat.le_of_ble_eq_true rfl) rfl (fun v h1 q _ => ?_)
      obtain ⟨rfl, hT, n1⟩ := q
      have hm := (n1 _ (by omega)).trans (hC.pot p hp)
      have hr := (n1 _ (by omega)).trans hr
      first | refine pb_aload_n (pc2 := 36) dX11_waste_35 rfl rfl rfl ?_ | refine pb_aload_nN (pc2 := 36) dX11_waste_35 rfl rfl rfl ?_
      refine pb_callV (pc2 := 39) (k2 := 0) (n2 := 0) mwX6_makeEmpty pb_cl6.1 iwX6_makeEmpty seX6_makeEmpty rfl mlX11_161 dX11_waste_36 (by first | assumption | exact hR.a rfl | exact hR.o | exact hC.o | exact hC.pal | exact hC.tub | exact hC.k _ _ rfl | exact hC.pot _ (by omega) | exact hC.are _ (by omega) | exact hC.arl _ (by omega) | exact hC.tbo _ (by omega) (by omega)) (t_makeEmpty hm hr (by omega)) (by omega) (by omega) (by omega) rfl rfl (Nat.le_of_ble_eq_true rfl) rfl (fun v h2 q _ => ?_)
      obtain ⟨rfl, hm, hr, n2⟩ := q
      have nb : ∀ b, (b < 200 ∨ 200 + A 1 0 ≤ b) → b ≠ 100 + p → b ≠ 130 + p → h2 b = h b := fun b b1 b2 b3 => (n2 b b2 b3).trans (n1 b b1)
      obtain ⟨fp, fr⟩ := pb_emp (A' := sp_wasteA A p) hC (fun j => rfl) hm hr (fun q hq hne => ⟨nb _ (by omega) (by omega) (by omega), nb _ (by omega) (by omega) (by omega)⟩)
      have ft : ∀ t, t < 12 → t < A 1 0 → h2 (200 + t) = cOb 8 (cTq A (A 5) (fun t => if t < 12 then A 6 t + A 11 (12 * p + t) else A 6 t) t) := fun t h12 ht => by
        rw [n2 _ (by omega) (by omega), hT t ht]
        refine cOb_c (cTq_c rfl ?_)
        show A 6 t + F t = if t < 12 then A 6 t + A 11 (12 * p + t) else A 6 t
        rw [if_pos h12, hF t h12]
        rfl
      have hC2 : pb_CF (sp_wasteA A p) h h2 := k_waste htt hp hC nb ft fp fr
      refine pb_iload_n (pc2 := 40) dX11_waste_39 rfl rfl rfl ?_
      exact pb_ireturn dX11_waste_40 rfl (pb_finC rfl hC2)
    · rw [if_pos c1]
      refine pb_bipush (x := -2) (pc2 := 21) dX11_waste_19 (by decide) rfl ?_
      exact pb_ireturn dX11_waste_21 rfl (pb_finC rfl hC)
  · first | refine pb_astore_n (lv2 := [_, _, _, _]) (pc2 := 6) dX11_waste_5 rfl (by decide) rfl rfl ?_ | refine pb_astore_nN (lv2 := [_, _, _, _]) (pc2 := 6) dX11_waste_5 rfl (by decide) rfl rfl ?_
    first | refine pb_aload_n (pc2 := 7) dX11_waste_6 rfl rfl rfl ?_ | refine pb_aload_nN (pc2 := 7) dX11_waste_6 rfl rfl rfl ?_
    refine pb_ifnonnullN (pc2 := 10) dX11_waste_7 rfl ?_
    refine pb_iconst (x := -1) (pc2 := 11) dX11_waste_10 (by decide) rfl ?_
    exact pb_ireturn dX11_waste_11 rfl (pb_finC (if_neg q) hC)
end PB33

