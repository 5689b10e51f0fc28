/-! WEIGHING A MIXTURE: match's, fewest's -/
def mA (A : pb_A) (σ : Nat × Nat × (Nat → Nat)) : pb_A := pb_wf (sp_B A σ.2.1 σ.2.2) 18 (fun _ => 1)
/-- the search's own state, for a match -/
def stM (A : pb_A) (σ : Nat × Nat × (Nat → Nat)) (sz k : Nat) (h0 h : pb_H) : Prop := pb_CF (mA A σ) h0 h ∧ h 68 = some (.inr (.inr (5, cMt sz k 1 σ.2.1 σ.1))) ∧ σ.1 ≤ 30001 ∧ σ.2.1 ≤ 8000
def stC (A : pb_A) (d : Nat) (σ : Nat → Nat) (sz k : Nat) (h0 h : pb_H) : Prop := pb_CF A h0 h ∧ h 69 = some (.inr (.inr (1, cCh sz k 413 (A 24 0) (2 ^ A 24 0 - 1) d))) ∧ cRow 4096 σ (h 413) ∧ fw_ok (A 24 0) σ
def exM (A : pb_A) (h : pb_H) : Prop := cRow 3 (A 17) (h 310)
def exC (A : pb_A) (h : pb_H) : Prop := h 412 = some (.inr (.inl (4, 6, cTo 480 6))) ∧ ∀ i, i < A 24 0 → cRow 3 (fun j => A 25 (3 * i + j)) (h (480 + i))
theorem k_obM {A A' : pb_A} {h0 h h' : pb_H} (hA : ∀ f, f ≠ 18 → f ≠ 19 → f ≠ 20 → A' f = A f) (hC : pb_CF A h0 h) (hs : ∀ a n, cS a = some n → cScr n (h' a)) (nb : ∀ x, cS x = none → x ≠ 68 → x ≠ 309 → h' x = h x) (hm : ∃ sz tp f, h' 68 = some (.inr (.inr (5, cMt sz tp (A' 18 0) (A' 20 0) f)))) (hb : cRow 12 (A' 19) (h' 309)) : pb_CF A' h0 h' := by
  obtain ⟨B, rfl⟩ : ∃ B : pb_A, A' = B := ⟨A', rfl⟩
  have e : A' = fun f => if f = 18 ∨ f = 19 ∨ f = 20 then A' f else A f := by
    funext f
    by_cases c : f = 18 ∨ f = 19 ∨ f = 20
    · rw [if_pos c]
    · rw [if_neg c]; exact hA f (fun z => c (Or.inl z)) (fun z => c (Or.inr (Or.inl z))) (fun z => c (Or.inr (Or.inr z)))
  generalize hX : A' 18 = X18 at e hm
  generalize hY : A' 19 = X19 at e hb
  generalize hW : A' 20 = X20 at e hm
  have e2 : A' = pb_wf (pb_wf (pb_wf A 20 X20) 19 X19) 18 X18 := by
    rw [e]
    funext f j
    unfold pb_wf
    by_cases c1 : f = 18
    · rw [if_pos c1, if_pos (Or.inl c1), c1, hX]
    · rw [if_neg c1]
      by_cases c2 : f = 19
      · rw [if_pos c2, if_pos (Or.inr (Or.inl c2)), c2, hY]
      · rw [if_neg c2]
        by_cases c3 : f = 20
        · rw [if_pos c3, if_pos (Or.inr (Or.inr c3)), c3, hW]
        · rw [if_neg c3, if_neg (fun z => z.elim c1 (fun z => z.elim c2 c3))]
  clear e hX hY hW hA
  subst e2
  have hs2 := hs
  exact pb_CF.mk (fun b hb => (nb b (cS_n (by omega)) (by omega) (by omega)).trans (hC.low b hb)) (fun a c e => (nb a (cK_S e) (cK_ne e rfl) (cK_ne e rfl)).trans (hC.k a c e)) (hs) ((nb 60 (cS_n (by omega)) (by omega) (by omega)).trans hC.o) ((nb 61 (cS_n (by omega)) (by omega) (by omega)).trans hC.pal) (by rw [nb 65 (cS_n (by omega)) (by omega) (by omega)]; exact hC.wan) (fun i hi => by rw [nb _ (cS_n (by omega)) (by omega) (by omega)]; exact hC.kpr i hi) ((nb 71 (cS_n (by omega)) (by omega) (by omega)).trans hC.tub) (fun i hi => by rw [nb _ (cS_n (by omega)) (by omega) (by omega)]; exact hC.lmr i hi) (fun i hi => by rw [nb _ (cS_n (by omega)) (by omega) (by omega)]; exact hC.sgr i hi) (by rw [nb 76 (cS_n (by omega)) (by omega) (by omega)]; exact hC.shw) (fun p hp => (nb _ (cS_n (by omega)) (by omega) (by omega)).trans (hC.pot p hp)) (fun p hp => by rw [nb _ (cS_n (by omega)) (by omega) (by omega)]; exact hC.ptr p hp) (fun a ha => (nb _ (cS_n (by omega)) (by omega) (by omega)).trans (hC.are a ha)) (fun a ha => (nb _ (cS_n (by omega)) (by omega) (by omega)).trans (hC.arl a ha)) (fun t h12 ht => (nb _ (cS_n (by omega)) (by omega) (by omega)).trans (hC.tbo t h12 ht)) (fun t h12 ht => by rw [nb _ (cS_n (by omega)) (by omega) (by omega)]; exact hC.tbd t h12 ht) (fun t h12 ht => by rw [nb _ (cS_n (by omega)) (by omega) (by omega)]; exact hC.tbs t h12 ht) (fun t ht ht2 => by have hz_ : A 1 0 ≤ t := ht; rw [nb _ (cS_n (by omega)) (by omega) (by omega), nb _ (cS_n (by omega)) (by omega) (by omega), nb _ (cS_n (by omega)) (by omega) (by omega)]; exact hC.tbn t ht ht2) (fun a i ha h10 hi => by rw [nb _ (cS_n (by omega)) (by omega) (by omega), nb _ (cS_n (by omega)) (by omega) (by omega), nb _ (cS_n (by omega)) (by omega) (by omega)]; exact hC.lyo a i ha h10 hi) (fun a i ha h10 hi => by unfold cCache; rw [nb _ (cS_n (by omega)) (by omega) (by omega), nb _ (cS_n (by omega)) (by omega) (by omega), nb _ (cS_n (by omega)) (by omega) (by omega), nb _ (cS_n (by omega)) (by omega) (by omega)]; exact hC.lyc a i ha h10 hi) (fun a i ha hi hi2 q hq => (nb _ (cS_n (by omega)) (by omega) (by omega)).trans (hC.lyn a i ha hi hi2 q hq)) (hm) (hb) (by rw [nb 69 (cS_n (by omega)) (by omega) (by omega), nb 411 (cS_n (by omega)) (by omega) (by omega), nb 413 (cS_n (by omega)) (by omega) (by omega)]; exact hC.cho) (by rw [nb 70 (cS_n (by omega)) (by omega) (by omega)]; exact hC.gla) (by rw [nb 500 (cS_n (by omega)) (by omega) (by omega)]; exact hC.glb) (fun a ha => by rw [nb a (cS_n (by omega)) (by omega) (by omega)]; exact hC.zer a ha)
theorem k_obC {A : pb_A} {h0 h h' : pb_H} (hC : pb_CF A h0 h) (hs : ∀ a n, cS a = some n → cScr n (h' a)) (nb : ∀ x, cS x = none → x ≠ 69 → x ≠ 413 → h' x = h x) (hm : ∃ sz tp gc ag fa, h' 69 = some (.inr (.inr (1, cCh sz tp 413 gc ag fa)))) (hb : cScr 4096 (h' 413)) : pb_CF A h0 h' := by
  obtain ⟨sz, tp, gc, ag, fa, hm⟩ := hm
  exact pb_CF.mk (fun b hb => (nb b (cS_n (by omega)) (by omega) (by omega)).trans (hC.low b hb)) (fun a c e => (nb a (cK_S e) (cK_ne e rfl) (cK_ne e rfl)).trans (hC.k a c e)) (hs) ((nb 60 (cS_n (by omega)) (by omega) (by omega)).trans hC.o) ((nb 61 (cS_n (by omega)) (by omega) (by omega)).trans hC.pal) (by rw [nb 65 (cS_n (by omega)) (by omega) (by omega)]; exact hC.wan) (fun i hi => by rw [nb _ (cS_n (by omega)) (by omega) (by omega)]; exact hC.kpr i hi) ((nb 71 (cS_n (by omega)) (by omega) (by omega)).trans hC.tub) (fun i hi => by rw [nb _ (cS_n (by omega)) (by omega) (by omega)]; exact hC.lmr i hi) (fun i hi => by rw [nb _ (cS_n (by omega)) (by omega) (by omega)]; exact hC.sgr i hi) (by rw [nb 76 (cS_n (by omega)) (by omega) (by omega)]; exact hC.shw) (fun p hp => (nb _ (cS_n (by omega)) (by omega) (by omega)).trans (hC.pot p hp)) (fun p hp => by rw [nb _ (cS_n (by omega)) (by omega) (by omega)]; exact hC.ptr p hp) (fun a ha => (nb _ (cS_n (by omega)) (by omega) (by omega)).trans (hC.are a ha)) (fun a ha => (nb _ (cS_n (by omega)) (by omega) (by omega)).trans (hC.arl a ha)) (fun t h12 ht => (nb _ (cS_n (by omega)) (by omega) (by omega)).trans (hC.tbo t h12 ht)) (fun t h12 ht => by rw [nb _ (cS_n (by omega)) (by omega) (by omega)]; exact hC.tbd t h12 ht) (fun t h12 ht => by rw [nb _ (cS_n (by omega)) (by omega) (by omega)]; exact hC.tbs t h12 ht) (fun t ht ht2 => by have hz_ : A 1 0 ≤ t := ht; rw [nb _ (cS_n (by omega)) (by omega) (by omega), nb _ (cS_n (by omega)) (by omega) (by omega), nb _ (cS_n (by omega)) (by omega) (by omega)]; exact hC.tbn t ht ht2) (fun a i ha h10 hi => by rw [nb _ (cS_n (by omega)) (by omega) (by omega), nb _ (cS_n (by omega)) (by omega) (by omega), nb _ (cS_n (by omega)) (by omega) (by omega)]; exact hC.lyo a i ha h10 hi) (fun a i ha h10 hi => by unfold cCache; rw [nb _ (cS_n (by omega)) (by omega) (by omega), nb _ (cS_n (by omega)) (by omega) (by omega), nb _ (cS_n (by omega)) (by omega) (by omega), nb _ (cS_n (by omega)) (by omega) (by omega)]; exact hC.lyc a i ha h10 hi) (fun a i ha hi hi2 q hq => (nb _ (cS_n (by omega)) (by omega) (by omega)).trans (hC.lyn a i ha hi hi2 q hq)) (by rw [nb 68 (cS_n (by omega)) (by omega) (by omega)]; exact hC.mat) (by rw [nb 309 (cS_n (by omega)) (by omega) (by omega)]; exact hC.bst) (⟨sz, tp, 413, gc, ag, fa, hm, Or.inr ⟨rfl, hb⟩⟩) (by rw [nb 70 (cS_n (by omega)) (by omega) (by omega)]; exact hC.gla) (by rw [nb 500 (cS_n (by omega)) (by omega) (by omega)]; exact hC.glb) (fun a ha => by rw [nb a (cS_n (by omega)) (by omega) (by omega)]; exact hC.zer a ha)
theorem stM.g {A : pb_A} {σ : Nat × Nat × (Nat → Nat)} {sz k sz' k' : Nat} {h0 h h' : pb_H} (hST : stM A σ sz k h0 h) (ho : h' 68 = some (.inr (.inr (5, cMt sz' k' 1 σ.2.1 σ.1)))) (hs : ∀ a n, cS a = some n → cScr n (h' a)) (nb : ∀ x, cS x = none → x ≠ 68 → h' x = h x) : stM A σ sz' k' h0 h' := by
  obtain ⟨hC, -, h3, h4⟩ := hST
  refine ⟨k_obM (fun _ _ _ _ => rfl) hC hs (fun x x1 x2 _ => nb x x1 x2) ⟨sz', k', σ.1, ho⟩ ?_, ho, h3, h4⟩
  rw [nb 309 rfl (by omega)]
  exact hC.bst
theorem stC.g {A : pb_A} {d : Nat} {σ : Nat → Nat} {sz k sz' k' : Nat} {h0 h h' : pb_H} (hST : stC A d σ sz k h0 h) (ho : h' 69 = some (.inr (.inr (1, cCh sz' k' 413 (A 24 0) (2 ^ A 24 0 - 1) d)))) (hs : ∀ a n, cS a = some n → cScr n (h' a)) (nb : ∀ x, cS x = none → x ≠ 69 → h' x = h x) : stC A d σ sz' k' h0 h' := by
  obtain ⟨hC, -, h3, h4⟩ := hST
  have h3' : cRow 4096 σ (h' 413) := by rw [nb 413 rfl (by omega)]; exact h3
  exact ⟨k_obC hC hs (fun x x1 x2 _ => nb x x1 x2) ⟨sz', k', _, _, _, ho⟩ (cRow_scr h3'), ho, h3', h4⟩
section PB38
variable {Z : pb_Z} {h h0 : pb_H} {A : pb_A}
set_option maxRecDepth 10000 in
theorem t_cost {l sz k : Nat} {mem C M : Nat → Nat} {v0 v1 v2 v3 v4 : Value} (hS : sbM A l sz mem h) (hsz : sz ≤ 12) (ho : h 68 = some (.inr (.inr (5, soM sz k v0 v1 v2 v3 v4)))) (hc : h 304 = some (.inl (0, 4, fun j => nI (C j)))) (ha : h 305 = some (.inl (0, 4, fun j => nI (M j)))) (hmm : mmI (A 1 0) sz mem) (hli : mlI sz C M (k + 1) sz) (hk : k < 4) : pb_T Z mX9_cost 0 0 0 [.ref 68] h (pb_E (some (.int (nI (pb_cost A (mxP mem C M (k + 1)))))) h) := by
  obtain ⟨h62, h74, hdr, hsr, hdo, hso, hL, hme, ⟨K, hko, hK⟩, hdi, hsi⟩ := hS
  refine pb_T.of pnX9_cost (Nat.le_of_ble_eq_true rfl) (lv := [some (.ref 68), none, none]) rfl ?_
  have loop : ∀ (m i c : Nat), k + 1 - i < m → i ≤ k + 1 → c = pb_cost A (mxP mem C M i) → pb_S Z mX9_cost 0 0 0 (pb_E (some (.int (nI (pb_cost A (mxP mem C M (k + 1)))))) h) 4 [some (.ref 68), some (.int (nI c)), some (.int (nI i))] [] h := by
    intro m
    induction m with
    | zero => intro i c g1; omega
    | succ m ih =>
      intro i c g1 g2 hcc
      refine pb_iload_n (pc2 := 5) dX9_cost_4 rfl rfl rfl ?_
      refine pb_aload_n (pc2 := 6) dX9_cost_5 rfl rfl rfl ?_
      refine pb_getf (pc2 := 9) flX9_42_X5 rfl dX9_cost_6 (by first | assumption | exact hR.a rfl | exact hR.o | exact hC.o | exact hC.pal | exact hC.tub | exact hC.k _ _ rfl | exact hC.pot _ (by omega) | exact hC.are _ (by omega) | exact hC.arl _ (by omega) | exact hC.tbo _ (by omega) (by omega)) rfl rfl ?_
      refine pb_icmpN_gt (tgt := 39) (pc2 := 12) dX9_cost_9 (by decide) rfl (by omega) (by omega) (fun q => ?_) (fun q => ?_)
      · have e : i = k + 1 := by omega
        subst e
        subst hcc
        refine pb_iload_n (pc2 := 40) dX9_cost_39 rfl rfl rfl ?_
        exact pb_ireturn dX9_cost_40 rfl (⟨rfl, rfl⟩)
      · have hCi : C i < sz := hli.1 i (by omega)
        have hz : mxP mem C M i (mem (C i)) = 0 := mxP_z hmm hCi i (fun j hj => hli.2.1 j i hj (by omega))
        refine pb_iload_n (pc2 := 13) dX9_cost_12 rfl rfl rfl ?_
        refine pb_aload_n (pc2 := 14) dX9_cost_13 rfl rfl rfl ?_
        refine pb_getf (pc2 := 17) flX9_33_X5 rfl dX9_cost_14 (by first | assumption | exact hR.a rfl | exact hR.o | exact hC.o | exact hC.pal | exact hC.tub | exact hC.k _ _ rfl | exact hC.pot _ (by omega) | exact hC.are _ (by omega) | exact hC.arl _ (by omega) | exact hC.tbo _ (by omega) (by omega)) rfl rfl ?_
        refine pb_iload_n (pc2 := 18) dX9_cost_17 rfl rfl rfl ?_
        refine pb_iald (pc2 := 19) (by first | assumption | exact hR.a rfl | exact hR.o | exact hC.o | exact hC.pal | exact hC.tub | exact hC.k _ _ rfl | exact hC.pot _ (by omega) | exact hC.are _ (by omega) | exact hC.arl _ (by omega) | exact hC.tbo _ (by omega) (by omega)) ⟨by decide, rfl⟩ dX9_cost_18 (by omega) (by omega) rfl ?_
        refine pb_aload_n (pc2 := 20) dX9_cost_19 rfl rfl rfl ?_
        refine pb_getf (pc2 := 23) flX9_15_X5 rfl dX9_cost_20 (by first | assumption | exact hR.a rfl | exact hR.o | exact hC.o | exact hC.pal | exact hC.tub | exact hC.k _ _ rfl | exact hC.pot _ (by omega) | exact hC.are _ (by omega) | exact hC.arl _ (by omega) | exact hC.tbo _ (by omega) (by omega)) rfl rfl ?_
        refine pb_aload_n (pc2 := 24) dX9_cost_23 rfl rfl rfl ?_
        refine pb_getf (pc2 := 27) flX9_30_X5 rfl dX9_cost_24 (by first | assumption | exact hR.a rfl | exact hR.o | exact hC.o | exact hC.pal | exact hC.tub | exact hC.k _ _ rfl | exact hC.pot _ (by omega) | exact hC.are _ (by omega) | exact hC.arl _ (by omega) | exact hC.tbo _ (by omega) (by omega)) rfl rfl ?_
        refine pb_iload_n (pc2 := 28) dX9_cost_27 rfl rfl rfl ?_
        refine pb_iald (pc2 := 29) (by first | assumption | exact hR.a rfl | exact hR.o | exact hC.o | exact hC.pal | exact hC.tub | exact hC.k _ _ rfl | exact hC.pot _ (by omega) | exact hC.are _ (by omega) | exact hC.arl _ (by omega) | exact hC.tbo _ (by omega) (by omega)) ⟨by decide, rfl⟩ dX9_cost_28 (by omega) (by omega) rfl ?_
        refine pb_iald (pc2 := 30) (by first | assumption | exact hR.a rfl | exact hR.o | exact hC.o | exact hC.pal | exact hC.tub | exact hC.k _ _ rfl | exact hC.pot _ (by omega) | exact hC.are _ (by omega) | exact hC.arl _ (by omega) | exact hC.tbo _ (by omega) (by omega)) ⟨by decide, rfl⟩ dX9_cost_29 (by omega) (by omega) rfl ?_
        refine pb_imulN (pc2 := 31) dX9_cost_30 rfl ?_
        refine pb_iaddN (pc2 := 32) dX9_cost_31 rfl ?_
        refine pb_istore_n (lv2 := [_, _, _]) (pc2 := 33) dX9_cost_32 rfl (by decide) rfl rfl ?_
        refine pb_iincP (c0 := 1) (lv2 := [_, _, _]) (pc2 := 36) dX9_cost_33 rfl (by decide) rfl rfl ?_
        refine pb_goto (tgt := 4) dX9_cost_36 (by decide) ?_
        refine ih (i + 1) _ (by omega) (by omega) ?_
        show c + M i * K (C i) = pb_cost A (pb_un (mxP mem C M i) (mem (C i)) (M i))
        rw [mx_cost hz (hmm.2 _ hCi), hcc, hK _ hCi]
  refine pb_iconst (x := nI 0) (pc2 := 1) dX9_cost_0 (by decide) rfl ?_
  refine pb_istore_n (lv2 := [_, _, _]) (pc2 := 2) dX9_cost_1 rfl (by decide) rfl rfl ?_
  refine pb_iconst (x := nI 0) (pc2 := 3) dX9_cost_2 (by decide) rfl ?_
  refine pb_istore_n (lv2 := [_, _, _]) (pc2 := 4) dX9_cost_3 rfl (by decide) rfl rfl ?_
  refine loop (k + 2) 0 0 (by omega) (by omega) ?_
  show 0 = pb_sum (A 1 0) (fun t => 0 * A 2 t)
  rw [pb_sum_congr (g := fun _ => 0) _ (fun t _ => Nat.zero_mul _), pb_sum_const, Nat.mul_zero]
set_option maxRecDepth 10000 in
theorem t_write {l sz k : Nat} {mem C M F : Nat → Nat} {v0 v1 v2 v3 v4 : Value} (hT12 : A 1 0 ≤ 12) (hS : sbM A l sz mem h) (hsz : sz ≤ 12) (ho : h 68 = some (.inr (.inr (5, soM sz k v0 v1 v2 v3 v4)))) (hc : h 304 = some (.inl (0, 4, fun j => nI (C j)))) (ha : h 305 = some (.inl (0, 4, fun j => nI (M j)))) (hmm : mmI (A 1 0) sz mem) (hli : mlI sz C M (k + 1) sz) (hk : k < 4) (hb : h 309 = some (.inl (0, 12, fun j => nI (F j)))) : pb_T Z mX9_writeDrops 1 0 0 [.ref 68, .ref 309] h (pb_PW 309 12 (mxP mem C M (k + 1)) h) := by
  obtain ⟨h62, h74, hdr, hsr, hdo, hso, hL, hme, ⟨K, hko, hK⟩, hdi, hsi⟩ := hS
  refine pb_T.of pnX9_writeDrops (Nat.le_of_ble_eq_true rfl) (lv := [some (.ref 68), some (.ref 309), none]) rfl ?_
  have loop : ∀ (m i : Nat) (F : Nat → Nat) (h' : pb_H), k + 1 - i < m → i ≤ k + 1 → h' 309 = some (.inl (0, 12, fun j => nI (F j))) → (∀ t, t < 12 → F t = mxP mem C M i t) → (∀ x, x ≠ 309 → h' x = h x) → pb_S Z mX9_writeDrops 1 0 0 (pb_PW 309 12 (mxP mem C M (k + 1)) h) 7 [some (.ref 68), some (.ref 309), some (.int (nI i))] [] h' := by
    intro m
    induction m with
    | zero => intro i F h' g1; omega
    | succ m ih =>
      intro i F h' g1 g2 hb hF nb
      have ho : h' 68 = _ := (nb _ (by omega)).trans ho
      have hc : h' 304 = _ := (nb _ (by omega)).trans hc
      have ha : h' 305 = _ := (nb _ (by omega)).trans ha
      have hme : h' 300 = _ := (nb _ (by omega)).trans hme
      refine pb_iload_n (pc2 := 8) dX9_writeDrops_7 rfl rfl rfl ?_
      refine pb_aload_n (pc2 := 9) dX9_writeDrops_8 rfl rfl rfl ?_
      refine pb_getf (pc2 := 12) flX9_42_X5 rfl dX9_writeDrops_9 (by first | assumption | exact hR.a rfl | exact hR.o | exact hC.o | exact hC.pal | exact hC.tub | exact hC.k _ _ rfl | exact hC.pot _ (by omega) | exact hC.are _ (by omega) | exact hC.arl _ (by omega) | exact hC.tbo _ (by omega) (by omega)) rfl rfl ?_
      refine pb_icmpN_gt (tgt := 40) (pc2 := 15) dX9_writeDrops_12 (by decide) rfl (by omega) (by omega) (fun q => ?_) (fun q => ?_)
      · have e : i = k + 1 := by omega
        subst e
        exact pb_return dX9_writeDrops_40 rfl (⟨rfl, ⟨F, hb, hF⟩, nb⟩)
      · have hCi : C i < sz := hli.1 i (by omega)
        have hmi := hmm.2 _ hCi
        refine pb_aload_n (pc2 := 16) dX9_writeDrops_15 rfl rfl rfl ?_
        refine pb_aload_n (pc2 := 17) dX9_writeDrops_16 rfl rfl rfl ?_
        refine pb_getf (pc2 := 20) flX9_9_X5 rfl dX9_writeDrops_17 (by first | assumption | exact hR.a rfl | exact hR.o | exact hC.o | exact hC.pal | exact hC.tub | exact hC.k _ _ rfl | exact hC.pot _ (by omega) | exact hC.are _ (by omega) | exact hC.arl _ (by omega) | exact hC.tbo _ (by omega) (by omega)) rfl rfl ?_
        refine pb_aload_n (pc2 := 21) dX9_writeDrops_20 rfl rfl rfl ?_
        refine pb_getf (pc2 := 24) flX9_30_X5 rfl dX9_writeDrops_21 (by first | assumption | exact hR.a rfl | exact hR.o | exact hC.o | exact hC.pal | exact hC.tub | exact hC.k _ _ rfl | exact hC.pot _ (by omega) | exact hC.are _ (by omega) | exact hC.arl _ (by omega) | exact hC.tbo _ (by omega) (by omega)) rfl rfl ?_
        refine pb_iload_n (pc2 := 25) dX9_writeDrops_24 rfl rfl rfl ?_
        refine pb_iald (pc2 := 26) (by first | assumption | exact hR.a rfl | exact hR.o | exact hC.o | exact hC.pal | exact hC.tub | exact hC.k _ _ rfl | exact hC.pot _ (by omega) | exact hC.are _ (by omega) | exact hC.arl _ (by omega) | exact hC.tbo _ (by omega) (by omega)) ⟨by decide, rfl⟩ dX9_writeDrops_25 (by omega) (by omega) rfl ?_
        refine pb_iald (pc2 := 27) (by first | assumption | exact hR.a rfl | exact hR.o | exact hC.o | exact hC.pal | exact hC.tub | exact hC.k _ _ rfl | exact hC.pot _ (by omega) | exact hC.are _ (by omega) | exact hC.arl _ (by omega) | exact hC.tbo _ (by omega) (by omega)) ⟨by decide, rfl⟩ dX9_writeDrops_26 (by omega) (by omega) rfl ?_
        refine pb_aload_n (pc2 := 28) dX9_writeDrops_27 rfl rfl rfl ?_
        refine pb_getf (pc2 := 31) flX9_33_X5 rfl dX9_writeDrops_28 (by first | assumption | exact hR.a rfl | exact hR.o | exact hC.o | exact hC.pal | exact hC.tub | exact hC.k _ _ rfl | exact hC.pot _ (by omega) | exact hC.are _ (by omega) | exact hC.arl _ (by omega) | exact hC.tbo _ (by omega) (by omega)) rfl rfl ?_
        refine pb_iload_n (pc2 := 32) dX9_writeDrops_31 rfl rfl rfl ?_
        refine pb_iald (pc2 := 33) (by first | assumption | exact hR.a rfl | exact hR.o | exact hC.o | exact hC.pal | exact hC.tub | exact hC.k _ _ rfl | exact hC.pot _ (by omega) | exact hC.are _ (by omega) | exact hC.arl _ (by omega) | exact hC.tbo _ (by omega) (by omega)) ⟨by decide, rfl⟩ dX9_writeDrops_32 (by omega) (by omega) rfl ?_
        refine pb_iastG (pc2 := 34) hb dX9_writeDrops_33 (by omega) (by omega) (by omega) rfl (fun h2 hb n2 => ?_)
        refine pb_iincP (c0 := 1) (lv2 := [_, _, _]) (pc2 := 37) dX9_writeDrops_34 rfl (by decide) rfl rfl ?_
        refine pb_goto (tgt := 7) dX9_writeDrops_37 (by decide) ?_
        refine ih (i + 1) _ h2 (by omega) (by omega) hb (fun t ht => ?_) (fun x hx => (n2 x hx).trans (nb x hx))
        show pb_un F (mem (C i)) (M i) t = pb_un (mxP mem C M i) (mem (C i)) (M i) t
        unfold pb_un
        rw [hF t ht]
  refine pb_aload_n (pc2 := 1) dX9_writeDrops_0 rfl rfl rfl ?_
  refine pb_iconst (x := nI 0) (pc2 := 2) dX9_writeDrops_1 (by decide) rfl ?_
  refine pb_callS (pc2 := 5) (k2 := 0) (n2 := 0) mwJ7_fill_53178 swJ7_fill_53178 rfl mlX9_75 dX9_writeDrops_2 (t_fill (c := 0) (n := 12) ⟨F, hb⟩ (by omega) (by omega)) (by omega) (by omega) (by omega) rfl rfl (Nat.le_of_ble_eq_true rfl) rfl (pb_kW (fun h1 G hb hG nb => ?_))
  refine pb_iconst (x := nI 0) (pc2 := 6) dX9_writeDrops_5 (by decide) rfl ?_
  refine pb_istore_n (lv2 := [_, _, _]) (pc2 := 7) dX9_writeDrops_6 rfl (by decide) rfl rfl ?_
  exact loop (k + 2) 0 G h1 (by omega) (by omega) hb hG nb
set_option maxRecDepth 10000 in
theorem t_used {l sz k : Nat} {mem C M : Nat → Nat} {v0 v1 v2 v3 v4 : Value} (hT12 : A 1 0 ≤ 12) (hS : sbC A l sz mem h) (hsz : sz ≤ 12) (ho : h 69 = some (.inr (.inr (1, soC sz k v0 v1 v2 v3 v4)))) (hc : h 404 = some (.inl (0, 4, fun j => nI (C j)))) (hmm : mmI (A 1 0) sz mem) (hli : mlI sz C M (k + 1) sz) (hk : k < 4) : pb_T Z mX9_tubesUsed 0 0 0 [.ref 69] h (pb_E (some (.int (nI (fw_set (mxP mem C M (k + 1)) (A 1 0))))) h) := by
  obtain ⟨h62, h74, hdr, hsr, hdo, hso, hL, hme, ⟨K, hko, hK⟩, hdi, hsi⟩ := hS
  refine pb_T.of pnX9_tubesUsed (Nat.le_of_ble_eq_true rfl) (lv := [some (.ref 69), none, none]) rfl ?_
  have loop : ∀ (m i c : Nat), k + 1 - i < m → i ≤ k + 1 → c = fw_set (mxP mem C M i) (A 1 0) → pb_S Z mX9_tubesUsed 0 0 0 (pb_E (some (.int (nI (fw_set (mxP mem C M (k + 1)) (A 1 0))))) h) 4 [some (.ref 69), some (.int (nI c)), some (.int (nI i))] [] h := by
    intro m
    induction m with
    | zero => intro i c g1; omega
    | succ m ih =>
      intro i c g1 g2 hcc
      refine pb_iload_n (pc2 := 5) dX9_tubesUsed_4 rfl rfl rfl ?_
      refine pb_aload_n (pc2 := 6) dX9_tubesUsed_5 rfl rfl rfl ?_
      refine pb_getf (pc2 := 9) flX9_42_X1 rfl dX9_tubesUsed_6 (by first | assumption | exact hR.a rfl | exact hR.o | exact hC.o | exact hC.pal | exact hC.tub | exact hC.k _ _ rfl | exact hC.pot _ (by omega) | exact hC.are _ (by omega) | exact hC.arl _ (by omega) | exact hC.tbo _ (by omega) (by omega)) rfl rfl ?_
      refine pb_icmpN_gt (tgt := 34) (pc2 := 12) dX9_tubesUsed_9 (by decide) rfl (by omega) (by omega) (fun q => ?_) (fun q => ?_)
      · have e : i = k + 1 := by omega
        subst e
        subst hcc
        refine pb_iload_n (pc2 := 35) dX9_tubesUsed_34 rfl rfl rfl ?_
        exact pb_ireturn dX9_tubesUsed_35 rfl (⟨rfl, rfl⟩)
      · have hCi : C i < sz := hli.1 i (by omega)
        have hmi := hmm.2 _ hCi
        have hz : mxP mem C M i (mem (C i)) = 0 := mxP_z hmm hCi i (fun j hj => hli.2.1 j i hj (by omega))
        refine pb_iload_n (pc2 := 13) dX9_tubesUsed_12 rfl rfl rfl ?_
        refine pb_iconst (x := nI 1) (pc2 := 14) dX9_tubesUsed_13 (by decide) rfl ?_
        refine pb_aload_n (pc2 := 15) dX9_tubesUsed_14 rfl rfl rfl ?_
        refine pb_getf (pc2 := 18) flX9_9_X1 rfl dX9_tubesUsed_15 (by first | assumption | exact hR.a rfl | exact hR.o | exact hC.o | exact hC.pal | exact hC.tub | exact hC.k _ _ rfl | exact hC.pot _ (by omega) | exact hC.are _ (by omega) | exact hC.arl _ (by omega) | exact hC.tbo _ (by omega) (by omega)) rfl rfl ?_
        refine pb_aload_n (pc2 := 19) dX9_tubesUsed_18 rfl rfl rfl ?_
        refine pb_getf (pc2 := 22) flX9_30_X1 rfl dX9_tubesUsed_19 (by first | assumption | exact hR.a rfl | exact hR.o | exact hC.o | exact hC.pal | exact hC.tub | exact hC.k _ _ rfl | exact hC.pot _ (by omega) | exact hC.are _ (by omega) | exact hC.arl _ (by omega) | exact hC.tbo _ (by omega) (by omega)) rfl rfl ?_
        refine pb_iload_n (pc2 := 23) dX9_tubesUsed_22 rfl rfl rfl ?_
        refine pb_iald (pc2 := 24) (by first | assumption | exact hR.a rfl | exact hR.o | exact hC.o | exact hC.pal | exact hC.tub | exact hC.k _ _ rfl | exact hC.pot _ (by omega) | exact hC.are _ (by omega) | exact hC.arl _ (by omega) | exact hC.tbo _ (by omega) (by omega)) ⟨by decide, rfl⟩ dX9_tubesUsed_23 (by omega) (by omega) rfl ?_
        refine pb_iald (pc2 := 25) (by first | assumption | exact hR.a rfl | exact hR.o | exact hC.o | exact hC.pal | exact hC.tub | exact hC.k _ _ rfl | exact hC.pot _ (by omega) | exact hC.are _ (by omega) | exact hC.arl _ (by omega) | exact hC.tbo _ (by omega) (by omega)) ⟨by decide, rfl⟩ dX9_tubesUsed_24 (by omega) (by omega) rfl ?_
        refine pb_ishl1 (pc2 := 26) dX9_tubesUsed_25 (by omega) rfl ?_
        refine pb_iorN (pc2 := 27) dX9_tubesUsed_26 rfl ?_
        refine pb_istore_n (lv2 := [_, _, _]) (pc2 := 28) dX9_tubesUsed_27 rfl (by decide) rfl rfl ?_
        refine pb_iincP (c0 := 1) (lv2 := [_, _, _]) (pc2 := 31) dX9_tubesUsed_28 rfl (by decide) rfl rfl ?_
        refine pb_goto (tgt := 4) dX9_tubesUsed_31 (by decide) ?_
        refine ih (i + 1) _ (by omega) (by omega) ?_
        show c ||| 2 ^ mem (C i) = fw_set (pb_un (mxP mem C M i) (mem (C i)) (M i)) (A 1 0)
        rw [fw_set_un hz (hli.2.2.1 i (by omega)) hmi, hcc]
  refine pb_iconst (x := nI 0) (pc2 := 1) dX9_tubesUsed_0 (by decide) rfl ?_
  refine pb_istore_n (lv2 := [_, _, _]) (pc2 := 2) dX9_tubesUsed_1 rfl (by decide) rfl rfl ?_
  refine pb_iconst (x := nI 0) (pc2 := 3) dX9_tubesUsed_2 (by decide) rfl ?_
  refine pb_istore_n (lv2 := [_, _, _]) (pc2 := 4) dX9_tubesUsed_3 rfl (by decide) rfl rfl ?_
  refine loop (k + 2) 0 0 (by omega) (by omega) ?_
  apply Nat.eq_of_testBit_eq
  intro i
  rw [Nat.zero_testBit]
  cases hc9 : (fw_set (mxP mem C M 0) (A 1 0)).testBit i with
  | false => rfl
  | true =>
    have := (fw_set_tb.mp hc9).2
    exact absurd this (Nat.lt_irrefl 0)
set_option maxRecDepth 10000 in
theorem t_weighM (w : pb_WF A) {l sz k N : Nat} {mem C M G : Nat → Nat} {σ : Nat × Nat × (Nat → Nat)} (hl : l < 4) (hST : stM A σ sz k h0 h) (hX : exM A h) (hS : sbM A l sz mem h) (hsz : sz ≤ 12) (hc : h 304 = some (.inl (0, 4, fun j => nI (C j)))) (ha : h 305 = some (.inl (0, 4, fun j => nI (M j)))) (hmm : mmI (A 1 0) sz mem) (hli : mlI sz C M (k + 1) sz) (hk : k < 4) (hsum : pb_sum 12 (mxP mem C M (k + 1)) = N) (hN1 : 1 ≤ N) (hN : N ≤ 8) (hd : cRow 8 (fun b => pb_dk A (mxP mem C M k) b 0) (h (360 + k))) (hsc : cRow 8 (fun b => pb_sc A (mxP mem C M k) b) (h (364 + k))) (h308 : h 308 = some (.inl (0, 8, fun j => nI (G j)))) (hG : ∀ b, b < 8 → G b = 4294967295) : pb_T Z mX5_weigh 2 0 0 [.ref 68, .ref 62] h (fun v h' => v = none ∧ stM A (sp_mst A l σ (mxP mem C M (k + 1))) sz k h0 h' ∧ ∀ x, x ≠ 68 → x ≠ 308 → x ≠ 309 → h' x = h x) := by
  have htt := w.tubes
  obtain ⟨hC, ho, hs1, hs2⟩ := hST
  obtain ⟨T, h310, hT⟩ := id hX
  have hT2 : ∀ i, i < 3 → T i ≤ 10000 := fun i hi => by rw [hT i hi]; exact w.tone hi
  have hus : pb_us (A 1 0) (mxP mem C M (k + 1)) ≤ 4 := by rw [hli.us hmm]; omega
  have hcl : pb_cost A (mxP mem C M (k + 1)) ≤ 8000 := by
    have h1 := pb_cost_le w (P := mxP mem C M (k + 1))
    have h2 := pb_sum_mono (f := mxP mem C M (k + 1)) htt
    omega
  have hpl := pb_pf_le w l (mxP mem C M (k + 1))
  have hsee : ∀ s, pb_see A l s (pb_tl A (mxP mem C M (k + 1))) ≤ 10000 := fun s => pb_see_le (fun b _ => pb_thick_le _ _)
  have epf : pb_pf A l (mxP mem C M (k + 1)) = pb_sum 3 (fun s => pb_abs (pb_see A l s (pb_tl A (mxP mem C M (k + 1)))) (A 17 s)) := by
    unfold pb_pf pb_far
    simp only [pb_sum, Nat.zero_add]
  refine pb_T.of pnX5_weigh (Nat.le_of_ble_eq_true rfl) (lv := [some (.ref 68), some (.ref 62), none, none]) rfl ?_
  -- what comes behind the loop
  have tail : ∀ (i f : Nat) (G : Nat → Nat) (h' : pb_H), i ≤ 3 → (i = 3 ∨ σ.1 < f) → f = pb_sum i (fun s => pb_abs (pb_see A l s (pb_tl A (mxP mem C M (k + 1)))) (A 17 s)) → h' 308 = some (.inl (0, 8, fun j => nI (G j))) → (∀ x, x ≠ 308 → h' x = h x) → pb_S Z mX5_weigh 2 0 0 (fun v h' => v = none ∧ stM A (sp_mst A l σ (mxP mem C M (k + 1))) sz k h0 h' ∧ ∀ x, x ≠ 68 → x ≠ 308 → x ≠ 309 → h' x = h x) 42 [some (.ref 68), some (.ref 62), some (.int (nI f)), some (.int (nI i))] [] h' := by
    intro i f G h' hi hor hf h308 nb
    have hmono := pb_sum_mono (f := fun s => pb_abs (pb_see A l s (pb_tl A (mxP mem C M (k + 1)))) (A 17 s)) hi
    rw [← hf, ← epf] at hmono
    have ho : h' 68 = _ := (nb _ (by omega)).trans ho
    have hC2 := hC.sc (a := 308) rfl h308 nb
    refine pb_iload_n (pc2 := 43) dX5_weigh_42 rfl rfl rfl ?_
    refine pb_aload_n (pc2 := 44) dX5_weigh_43 rfl rfl rfl ?_
    refine pb_getf (pc2 := 47) flX5_19_X5 rfl dX5_weigh_44 (by first | assumption | exact hR.a rfl | exact hR.o | exact hC.o | exact hC.pal | exact hC.tub | exact hC.k _ _ rfl | exact hC.pot _ (by omega) | exact hC.are _ (by omega) | exact hC.arl _ (by omega) | exact hC.tbo _ (by omega) (by omega)) rfl rfl ?_
    refine pb_icmpN_le (tgt := 51) (pc2 := 50) dX5_weigh_47 (by decide) rfl (by omega) (by omega) (fun c => ?_) (fun c => ?_)
    · have e3 : i = 3 := by omega
      subst e3
      rw [← epf] at hf
      subst hf
      have hc' := (nb 304 (by omega)).trans hc
      have ha' := (nb 305 (by omega)).trans ha
      have hS' := hS.up hsz (fun x hx => nb x (by omega))
      refine pb_aload_n (pc2 := 52) dX5_weigh_51 rfl rfl rfl ?_
      refine pb_callU (x := ⟨RX5, "cost", "()I"⟩) (owner := RX9) (pc2 := 55) (k2 := 0) (n2 := 0) mwX9_cost pb_cl5.1 rfl ⟨by decide, by decide⟩ iwX9_cost suX5_cost smX5_cost (Or.inl rfl) rfl mlX5_49 dX5_weigh_52 (by first | assumption | exact hR.a rfl | exact hR.o | exact hC.o | exact hC.pal | exact hC.tub | exact hC.k _ _ rfl | exact hC.pot _ (by omega) | exact hC.are _ (by omega) | exact hC.arl _ (by omega) | exact hC.tbo _ (by omega) (by omega)) (t_cost hS' hsz ho hc' ha' hmm hli hk) (by omega) (by omega) (by omega) rfl rfl (Nat.le_of_ble_eq_true rfl) rfl (pb_kE ?_)
      have put : (pb_pf A l (mxP mem C M (k + 1)) < σ.1 ∨ pb_pf A l (mxP mem C M (k + 1)) = σ.1 ∧ pb_cost A (mxP mem C M (k + 1)) < σ.2.1) → pb_S Z mX5_weigh 2 0 0 (fun v h' => v = none ∧ stM A (sp_mst A l σ (mxP mem C M (k + 1))) sz k h0 h' ∧ ∀ x, x ≠ 68 → x ≠ 308 → x ≠ 309 → h' x = h x) 72 [some (.ref 68), some (.ref 62), some (.int (nI (pb_pf A l (mxP mem C M (k + 1))))), some (.int (nI (pb_cost A (mxP mem C M (k + 1)))))] [] h' := by
        intro hlt
        have est : sp_mst A l σ (mxP mem C M (k + 1)) = (pb_pf A l (mxP mem C M (k + 1)), pb_cost A (mxP mem C M (k + 1)), fun t => if t < 12 then mxP mem C M (k + 1) t else σ.2.2 t) := if_pos ⟨hus, hlt⟩
        obtain ⟨F, h309, hF⟩ := hC2.bst
        have hc := hc'
        have ha := ha'
        refine pb_aload_n (pc2 := 73) dX5_weigh_72 rfl rfl rfl ?_
        refine pb_iload_n (pc2 := 74) dX5_weigh_73 rfl rfl rfl ?_
        refine pb_putG (fs2 := [_, _, _, _, _, _, _, _, _, _, _, _, _, _, _, _]) (pc2 := 77) flX5_19_X5 rfl dX5_weigh_74 ho (by omega) rfl rfl rfl rfl rfl (fun h_ ho n1 => ?_)
        have hc := (n1 _ (by omega)).trans hc
        have ha := (n1 _ (by omega)).trans ha
        have h309 := (n1 _ (by omega)).trans h309
        refine pb_aload_n (pc2 := 78) dX5_weigh_77 rfl rfl rfl ?_
        refine pb_iload_n (pc2 := 79) dX5_weigh_78 rfl rfl rfl ?_
        refine pb_putG (fs2 := [_, _, _, _, _, _, _, _, _, _, _, _, _, _, _, _]) (pc2 := 82) flX5_15_X5 rfl dX5_weigh_79 ho (by omega) rfl rfl rfl rfl rfl (fun h_ ho n2 => ?_)
        have hc := (n2 _ (by omega)).trans hc
        have ha := (n2 _ (by omega)).trans ha
        have h309 := (n2 _ (by omega)).trans h309
        have hS2 := hS'.up hsz (fun x hx => (n2 x (by omega)).trans (n1 x (by omega)))
        refine pb_aload_n (pc2 := 83) dX5_weigh_82 rfl rfl rfl ?_
        refine pb_aload_n (pc2 := 84) dX5_weigh_83 rfl rfl rfl ?_
        refine pb_getf (pc2 := 87) flX5_22_X5 rfl dX5_weigh_84 (by first | assumption | exact hR.a rfl | exact hR.o | exact hC.o | exact hC.pal | exact hC.tub | exact hC.k _ _ rfl | exact hC.pot _ (by omega) | exact hC.are _ (by omega) | exact hC.arl _ (by omega) | exact hC.tbo _ (by omega) (by omega)) rfl rfl ?_
        refine pb_callU (x := ⟨RX5, "writeDrops", "([I)V"⟩) (owner := RX9) (pc2 := 90) (k2 := 0) (n2 := 0) mwX9_writeDrops pb_cl5.1 rfl ⟨by decide, by decide⟩ iwX9_writeDrops suX5_writeDrops smX5_writeDrops (Or.inl rfl) rfl mlX5_53 dX5_weigh_87 (by first | assumption | exact hR.a rfl | exact hR.o | exact hC.o | exact hC.pal | exact hC.tub | exact hC.k _ _ rfl | exact hC.pot _ (by omega) | exact hC.are _ (by omega) | exact hC.arl _ (by omega) | exact hC.tbo _ (by omega) (by omega)) (t_write htt hS2 hsz ho hc ha hmm hli hk h309) (by omega) (by omega) (by omega) rfl rfl (Nat.le_of_ble_eq_true rfl) rfl (pb_kW (fun h3 F3 h309 hF3 n3 => ?_))
        have ho := (n3 _ (by omega)).trans ho
        rw [est]
        exact pb_return dX5_weigh_90 rfl (⟨rfl, ⟨k_obM (fun f f1 f2 f3 => by show mA A _ f = mA A σ f; unfold mA sp_B pb_wf; funext j; rw [if_neg f1, if_neg f2, if_neg f3, if_neg f1, if_neg f2, if_neg f3]) hC2 (fun a n e => by rw [n3 a (cS_ne e rfl), n2 a (cS_ne e rfl), n1 a (cS_ne e rfl)]; exact hC2.s a n e) (fun x x1 x2 x3 => (n3 x x3).trans ((n2 x x2).trans (n1 x x2))) ⟨sz, k, _, ho⟩ ⟨F3, h309, fun t ht => by rw [hF3 t ht]; exact (if_pos ht).symm⟩, ho, by show pb_pf A l (mxP mem C M (k + 1)) ≤ 30001; omega, hcl⟩, fun x x1 x2 x3 => (n3 x x3).trans ((n2 x x1).trans ((n1 x x1).trans (nb x x2)))⟩)
      refine pb_istore_n (lv2 := [_, _, _, _]) (pc2 := 56) dX5_weigh_55 rfl (by decide) rfl rfl ?_
      refine pb_iload_n (pc2 := 57) dX5_weigh_56 rfl rfl rfl ?_
      refine pb_aload_n (pc2 := 58) dX5_weigh_57 rfl rfl rfl ?_
      refine pb_getf (pc2 := 61) flX5_19_X5 rfl dX5_weigh_58 (by first | assumption | exact hR.a rfl | exact hR.o | exact hC.o | exact hC.pal | exact hC.tub | exact hC.k _ _ rfl | exact hC.pot _ (by omega) | exact hC.are _ (by omega) | exact hC.arl _ (by omega) | exact hC.tbo _ (by omega) (by omega)) rfl rfl ?_
      refine pb_icmpN_lt (tgt := 72) (pc2 := 64) dX5_weigh_61 (by decide) rfl (by omega) (by omega) (fun c2 => ?_) (fun c2 => ?_)
      · exact put (Or.inl c2)
      · refine pb_iload_n (pc2 := 65) dX5_weigh_64 rfl rfl rfl ?_
        refine pb_aload_n (pc2 := 66) dX5_weigh_65 rfl rfl rfl ?_
        refine pb_getf (pc2 := 69) flX5_15_X5 rfl dX5_weigh_66 (by first | assumption | exact hR.a rfl | exact hR.o | exact hC.o | exact hC.pal | exact hC.tub | exact hC.k _ _ rfl | exact hC.pot _ (by omega) | exact hC.are _ (by omega) | exact hC.arl _ (by omega) | exact hC.tbo _ (by omega) (by omega)) rfl rfl ?_
        refine pb_icmpN_ge (tgt := 90) (pc2 := 72) dX5_weigh_69 (by decide) rfl (by omega) (by omega) (fun c3 => ?_) (fun c3 => ?_)
        · have est : sp_mst A l σ (mxP mem C M (k + 1)) = σ := if_neg (fun z => by
            rcases z.2 with z | z
            · omega
            · omega)
          rw [est]
          exact pb_return dX5_weigh_90 rfl (⟨rfl, ⟨hC2, ho, hs1, hs2⟩, fun x x1 x2 x3 => nb x x2⟩)
        · exact put (Or.inr ⟨by omega, c3⟩)
    · have est : sp_mst A l σ (mxP mem C M (k + 1)) = σ := if_neg (fun z => by
        rcases z.2 with z | z
        · omega
        · omega)
      rw [est]
      exact pb_return dX5_weigh_50 rfl (⟨rfl, ⟨hC2, ho, hs1, hs2⟩, fun x x1 x2 x3 => nb x x2⟩)
  have loop : ∀ (m i f : Nat) (G : Nat → Nat) (h' : pb_H), 3 - i < m → i ≤ 3 → f = pb_sum i (fun s => pb_abs (pb_see A l s (pb_tl A (mxP mem C M (k + 1)))) (A 17 s)) → h' 308 = some (.inl (0, 8, fun j => nI (G j))) → (∀ b, b < 8 → G b = 4294967295 ∨ G b = pb_tl A (mxP mem C M (k + 1)) b) → (∀ x, x ≠ 308 → h' x = h x) → pb_S Z mX5_weigh 2 0 0 (fun v h' => v = none ∧ stM A (sp_mst A l σ (mxP mem C M (k + 1))) sz k h0 h' ∧ ∀ x, x ≠ 68 → x ≠ 308 → x ≠ 309 → h' x = h x) 4 [some (.ref 68), some (.ref 62), some (.int (nI f)), some (.int (nI i))] [] h' := by
    intro m
    induction m with
    | zero => intro i f G h' g1; omega
    | succ m ih =>
      intro i f G h' g1 g2 hf h308 hG nb
      have hmono := pb_sum_mono (f := fun s => pb_abs (pb_see A l s (pb_tl A (mxP mem C M (k + 1)))) (A 17 s)) g2
      rw [← hf, ← epf] at hmono
      have ho' : h' 68 = _ := (nb _ (by omega)).trans ho
      refine pb_iload_n (pc2 := 5) dX5_weigh_4 rfl rfl rfl ?_
      refine pb_iconst (x := nI 3) (pc2 := 6) dX5_weigh_5 (by decide) rfl ?_
      refine pb_icmpN_ge (tgt := 42) (pc2 := 9) dX5_weigh_6 (by decide) rfl (by omega) (by omega) (fun q => ?_) (fun q => ?_)
      · exact tail i f G h' g2 (by omega) hf h308 nb
      · refine pb_iload_n (pc2 := 10) dX5_weigh_9 rfl rfl rfl ?_
        refine pb_aload_n (pc2 := 11) dX5_weigh_10 rfl rfl rfl ?_
        refine pb_getf (pc2 := 14) flX5_19_X5 rfl dX5_weigh_11 (by first | assumption | exact hR.a rfl | exact hR.o | exact hC.o | exact hC.pal | exact hC.tub | exact hC.k _ _ rfl | exact hC.pot _ (by omega) | exact hC.are _ (by omega) | exact hC.arl _ (by omega) | exact hC.tbo _ (by omega) (by omega)) rfl rfl ?_
        refine pb_icmpN_gt (tgt := 42) (pc2 := 17) dX5_weigh_14 (by decide) rfl (by omega) (by omega) (fun q2 => ?_) (fun q2 => ?_)
        · exact tail i f G h' g2 (Or.inr q2) hf h308 nb
        · have hc' := (nb 304 (by omega)).trans hc
          have ha' := (nb 305 (by omega)).trans ha
          have hS' := hS.up hsz (fun x hx => nb x (by omega))
          have hd' : cRow 8 (fun b => pb_dk A (mxP mem C M k) b 0) (h' (360 + k)) := by rw [nb _ (by omega)]; exact hd
          have hsc' : cRow 8 (fun b => pb_sc A (mxP mem C M k) b) (h' (364 + k)) := by rw [nb _ (by omega)]; exact hsc
          have hTi := hT2 i q
          have hsi := hsee i
          refine pb_iload_n (pc2 := 18) dX5_weigh_17 rfl rfl rfl ?_
          refine pb_aload_n (pc2 := 19) dX5_weigh_18 rfl rfl rfl ?_
          refine pb_aload_n (pc2 := 20) dX5_weigh_19 rfl rfl rfl ?_
          refine pb_iload_n (pc2 := 21) dX5_weigh_20 rfl rfl rfl ?_
          refine pb_callU (x := ⟨RX5, "bySight", "(LPaintBox$Light;I)I"⟩) (owner := RX9) (pc2 := 24) (k2 := 0) (n2 := 0) mwX9_bySight pb_cl5.1 rfl ⟨by decide, by decide⟩ iwX9_bySight suX5_bySight smX5_bySight (Or.inl rfl) rfl mlX5_39 dX5_weigh_21 (by first | assumption | exact hR.a rfl | exact hR.o | exact hC.o | exact hC.pal | exact hC.tub | exact hC.k _ _ rfl | exact hC.pot _ (by omega) | exact hC.are _ (by omega) | exact hC.arl _ (by omega) | exact hC.tbo _ (by omega) (by omega)) (t_sByM w hl q hS' hsz ho' hc' ha' hmm hli hk hsum hN1 hN hd' hsc' h308 hG) (by omega) (by omega) (by omega) rfl rfl (Nat.le_of_ble_eq_true rfl) rfl (fun v h2 q3 _ => ?_)
          obtain ⟨rfl, ⟨G2, h308, hG2⟩, n2⟩ := q3
          have ho' := (n2 _ (by omega)).trans ho'
          have h310' : h2 310 = _ := (n2 310 (by omega)).trans ((nb 310 (by omega)).trans h310)
          refine pb_aload_n (pc2 := 25) dX5_weigh_24 rfl rfl rfl ?_
          refine pb_getf (pc2 := 28) flX5_26_X5 rfl dX5_weigh_25 (by first | assumption | exact hR.a rfl | exact hR.o | exact hC.o | exact hC.pal | exact hC.tub | exact hC.k _ _ rfl | exact hC.pot _ (by omega) | exact hC.are _ (by omega) | exact hC.arl _ (by omega) | exact hC.tbo _ (by omega) (by omega)) rfl rfl ?_
          refine pb_iload_n (pc2 := 29) dX5_weigh_28 rfl rfl rfl ?_
          refine pb_iald (pc2 := 30) (by first | assumption | exact hR.a rfl | exact hR.o | exact hC.o | exact hC.pal | exact hC.tub | exact hC.k _ _ rfl | exact hC.pot _ (by omega) | exact hC.are _ (by omega) | exact hC.arl _ (by omega) | exact hC.tbo _ (by omega) (by omega)) ⟨by decide, rfl⟩ dX5_weigh_29 (by omega) (by omega) rfl ?_
          refine pb_isub (pc2 := 31) dX5_weigh_30 rfl ?_
          refine pb_mabsN (pc2 := 34) rfl mlX5_43 dX5_weigh_31 (by omega) (by omega) (by omega) (Nat.le_of_ble_eq_true rfl) rfl ?_
          refine pb_iaddN (pc2 := 35) dX5_weigh_34 rfl ?_
          refine pb_istore_n (lv2 := [_, _, _, _]) (pc2 := 36) dX5_weigh_35 rfl (by decide) rfl rfl ?_
          refine pb_iincP (c0 := 1) (lv2 := [_, _, _, _]) (pc2 := 39) dX5_weigh_36 rfl (by decide) rfl rfl ?_
          refine pb_goto (tgt := 4) dX5_weigh_39 (by decide) ?_
          refine ih (i + 1) _ G2 h2 (by omega) (by omega) ?_ h308 hG2 (fun x hx => (n2 x hx).trans (nb x hx))
          show f + pb_abs _ (T i) = pb_sum i _ + pb_abs _ (A 17 i)
          rw [hT i q, hf]
  refine pb_iconst (x := nI 0) (pc2 := 1) dX5_weigh_0 (by decide) rfl ?_
  refine pb_istore_n (lv2 := [_, _, _, _]) (pc2 := 2) dX5_weigh_1 rfl (by decide) rfl rfl ?_
  refine pb_iconst (x := nI 0) (pc2 := 3) dX5_weigh_2 (by decide) rfl ?_
  refine pb_istore_n (lv2 := [_, _, _, _]) (pc2 := 4) dX5_weigh_3 rfl (by decide) rfl rfl ?_
  exact loop 4 0 0 G h (by omega) (by omega) rfl h308 (fun b hb => Or.inl (hG b hb)) (fun _ _ => rfl)
end PB38
/-! FEWEST's WEIGHING -/
section PB39
variable {Z : pb_Z} {h h0 : pb_H} {A : pb_A}
set_option maxRecDepth 10000 in
theorem t_weighC (w : pb_WF A) {l d sz k N : Nat} {mem C M G : Nat → Nat} {σ : Nat → Nat} (hl : l < 4) (hd30 : d ≤ 30000) (hST : stC A d σ sz k h0 h) (hX : exC A h) (hS : sbC A l sz mem h) (hsz : sz ≤ 12) (hc : h 404 = some (.inl (0, 4, fun j => nI (C j)))) (ha : h 405 = some (.inl (0, 4, fun j => nI (M j)))) (hmm : mmI (A 1 0) sz mem) (hli : mlI sz C M (k + 1) sz) (hk : k < 4) (hsum : pb_sum 12 (mxP mem C M (k + 1)) = N) (hN1 : 1 ≤ N) (hN : N ≤ 8) (hd : cRow 8 (fun b => pb_dk A (mxP mem C M k) b 0) (h (460 + k))) (hsc : cRow 8 (fun b => pb_sc A (mxP mem C M k) b) (h (464 + k))) (h408 : h 408 = some (.inl (0, 8, fun j => nI (G j)))) (hG : ∀ b, b < 8 → G b = 4294967295) : pb_T Z mX1_weigh 2 0 0 [.ref 69, .ref 62] h (fun v h' => v = none ∧ stC A d (fw_st A l d σ (mxP mem C M (k + 1))) sz k h0 h' ∧ ∀ x, x ≠ 69 → x ≠ 408 → x ≠ 413 → h' x = h x) := by
  have htt := w.tubes
  obtain ⟨hp1, hp2⟩ := pb_2p htt
  have h24 : A 24 0 ≤ 6 := w.rest.2.2.2.2.2.1
  have h25 : ∀ i, i < 18 → A 25 i ≤ 10000 := w.rest.2.2.2.2.2.2
  have hm64 : 2 ^ A 24 0 ≤ 64 ∧ 1 ≤ 2 ^ A 24 0 := ⟨Nat.pow_le_pow_right (n := 2) (by omega) h24, Nat.one_le_two_pow⟩
  have hstok : fw_ok (A 24 0) (fw_st A l d σ (mxP mem C M (k + 1))) := fw_ok_st hST.2.2.2
  obtain ⟨hC, ho, ⟨R, h413, hR⟩, hok⟩ := hST
  obtain ⟨h412, hgr⟩ := hX
  have hus : pb_us (A 1 0) (mxP mem C M (k + 1)) ≤ 4 := by rw [hli.us hmm]; omega
  have hset := fw_set_lt (P := mxP mem C M (k + 1)) (A 1 0)
  have hsee : ∀ s, pb_see A l s (pb_tl A (mxP mem C M (k + 1))) ≤ 10000 := fun s => pb_see_le (fun b _ => pb_thick_le _ _)
  have est : fw_st A l d σ (mxP mem C M (k + 1)) = pb_un σ (fw_set (mxP mem C M (k + 1)) (A 1 0)) (σ (fw_set (mxP mem C M (k + 1)) (A 1 0)) ||| fw_bits A l d (mxP mem C M (k + 1)) (A 24 0)) := if_pos hus
  have hff : ∀ i, fw_far A l (mxP mem C M (k + 1)) i = pb_abs (pb_see A l 0 (pb_tl A (mxP mem C M (k + 1)))) (A 25 (3 * i)) + pb_abs (pb_see A l 1 (pb_tl A (mxP mem C M (k + 1)))) (A 25 (3 * i + 1)) + pb_abs (pb_see A l 2 (pb_tl A (mxP mem C M (k + 1)))) (A 25 (3 * i + 2)) := fun i => rfl
  generalize hs : fw_set (mxP mem C M (k + 1)) (A 1 0) = s at hset est
  have hRs := hR s (by omega)
  have hσs := fw_ok_lt hok s
  refine pb_T.of pnX1_weigh (Nat.le_of_ble_eq_true rfl) (lv := [some (.ref 69), some (.ref 62), none, none, none, none, none, none]) rfl ?_
  refine pb_aload_n (pc2 := 1) dX1_weigh_0 rfl rfl rfl ?_
  refine pb_callU (x := ⟨RX1, "tubesUsed", "()I"⟩) (owner := RX9) (pc2 := 4) (k2 := 0) (n2 := 0) mwX9_tubesUsed pb_cl1.1 rfl ⟨by decide, by decide⟩ iwX9_tubesUsed suX1_tubesUsed smX1_tubesUsed (Or.inl rfl) rfl mlX1_59 dX1_weigh_1 (by first | assumption | exact hR.a rfl | exact hR.o | exact hC.o | exact hC.pal | exact hC.tub | exact hC.k _ _ rfl | exact hC.pot _ (by omega) | exact hC.are _ (by omega) | exact hC.arl _ (by omega) | exact hC.tbo _ (by omega) (by omega)) (t_used htt hS hsz ho hc hmm hli hk) (by omega) (by omega) (by omega) rfl rfl (Nat.le_of_ble_eq_true rfl) rfl (pb_kE ?_)
  rw [hs]
  refine pb_istore_n (lv2 := [_, _, _, _, _, _, _, _]) (pc2 := 5) dX1_weigh_4 rfl (by decide) rfl rfl ?_
  refine pb_aload_n (pc2 := 6) dX1_weigh_5 rfl rfl rfl ?_
  refine pb_getf (pc2 := 9) flX1_9_X1 rfl dX1_weigh_6 (by first | assumption | exact hR.a rfl | exact hR.o | exact hC.o | exact hC.pal | exact hC.tub | exact hC.k _ _ rfl | exact hC.pot _ (by omega) | exact hC.are _ (by omega) | exact hC.arl _ (by omega) | exact hC.tbo _ (by omega) (by omega)) rfl rfl ?_
  refine pb_iload_n (pc2 := 10) dX1_weigh_9 rfl rfl rfl ?_
  refine pb_iald (pc2 := 11) h413 ⟨by decide, rfl⟩ dX1_weigh_10 (by omega) (by omega) rfl ?_
  refine pb_aload_n (pc2 := 12) dX1_weigh_11 rfl rfl rfl ?_
  refine pb_getf (pc2 := 15) flX1_24_X1 rfl dX1_weigh_12 (by first | assumption | exact hR.a rfl | exact hR.o | exact hC.o | exact hC.pal | exact hC.tub | exact hC.k _ _ rfl | exact hC.pot _ (by omega) | exact hC.are _ (by omega) | exact hC.arl _ (by omega) | exact hC.tbo _ (by omega) (by omega)) rfl rfl ?_
  refine pb_icmpN_ne (tgt := 19) (pc2 := 18) dX1_weigh_15 (by decide) rfl (by omega) (by omega) (fun c => ?_) (fun c => ?_)
  · have s0 := hsee 0
    have s1 := hsee 1
    have s2 := hsee 2
    refine pb_aload_n (pc2 := 20) dX1_weigh_19 rfl rfl rfl ?_
    refine pb_aload_n (pc2 := 21) dX1_weigh_20 rfl rfl rfl ?_
    refine pb_iconst (x := nI 0) (pc2 := 22) dX1_weigh_21 (by decide) rfl ?_
    refine pb_callU (x := ⟨RX1, "bySight", "(LPaintBox$Light;I)I"⟩) (owner := RX9) (pc2 := 25) (k2 := 0) (n2 := 0) mwX9_bySight pb_cl1.1 rfl ⟨by decide, by decide⟩ iwX9_bySight suX1_bySight smX1_bySight (Or.inl rfl) rfl mlX1_63 dX1_weigh_22 (by first | assumption | exact hR.a rfl | exact hR.o | exact hC.o | exact hC.pal | exact hC.tub | exact hC.k _ _ rfl | exact hC.pot _ (by omega) | exact hC.are _ (by omega) | exact hC.arl _ (by omega) | exact hC.tbo _ (by omega) (by omega)) (t_sByC w hl (show 0 < 3 by omega) hS hsz ho hc ha hmm hli hk hsum hN1 hN hd hsc h408 (fun b hb => Or.inl (hG b hb))) (by omega) (by omega) (by omega) rfl rfl (Nat.le_of_ble_eq_true rfl) rfl (fun v h1 q _ => ?_)
    obtain ⟨rfl, ⟨G1, h408, hG1⟩, n1⟩ := q
    have ho := (n1 _ (by omega)).trans ho
    have hc := (n1 _ (by omega)).trans hc
    have ha := (n1 _ (by omega)).trans ha
    have hS := hS.up hsz (fun x hx => n1 x (by omega))
    have hd : cRow 8 (fun b => pb_dk A (mxP mem C M k) b 0) (h1 (460 + k)) := by rw [n1 _ (by omega)]; exact hd
    have hsc : cRow 8 (fun b => pb_sc A (mxP mem C M k) b) (h1 (464 + k)) := by rw [n1 _ (by omega)]; exact hsc
    refine pb_istore_n (lv2 := [_, _, _, _, _, _, _, _]) (pc2 := 26) dX1_weigh_25 rfl (by decide) rfl rfl ?_
    refine pb_aload_n (pc2 := 27) dX1_weigh_26 rfl rfl rfl ?_
    refine pb_aload_n (pc2 := 28) dX1_weigh_27 rfl rfl rfl ?_
    refine pb_iconst (x := nI 1) (pc2 := 29) dX1_weigh_28 (by decide) rfl ?_
    refine pb_callU (x := ⟨RX1, "bySight", "(LPaintBox$Light;I)I"⟩) (owner := RX9) (pc2 := 32) (k2 := 0) (n2 := 0) mwX9_bySight pb_cl1.1 rfl ⟨by decide, by decide⟩ iwX9_bySight suX1_bySight smX1_bySight (Or.inl rfl) rfl mlX1_63 dX1_weigh_29 (by first | assumption | exact hR.a rfl | exact hR.o | exact hC.o | exact hC.pal | exact hC.tub | exact hC.k _ _ rfl | exact hC.pot _ (by omega) | exact hC.are _ (by omega) | exact hC.arl _ (by omega) | exact hC.tbo _ (by omega) (by omega)) (t_sByC w hl (show 1 < 3 by omega) hS hsz ho hc ha hmm hli hk hsum hN1 hN hd hsc h408 hG1) (by omega) (by omega) (by omega) rfl rfl (Nat.le_of_ble_eq_true rfl) rfl (fun v h2 q _ => ?_)
    obtain ⟨rfl, ⟨G2, h408, hG2⟩, n2⟩ := q
    have ho := (n2 _ (by omega)).trans ho
    have hc := (n2 _ (by omega)).trans hc
    have ha := (n2 _ (by omega)).trans ha
    have hS := hS.up hsz (fun x hx => n2 x (by omega))
    have hd : cRow 8 (fun b => pb_dk A (mxP mem C M k) b 0) (h2 (460 + k)) := by rw [n2 _ (by omega)]; exact hd
    have hsc : cRow 8 (fun b => pb_sc A (mxP mem C M k) b) (h2 (464 + k)) := by rw [n2 _ (by omega)]; exact hsc
    refine pb_istore (lv2 := [_, _, _, _, _, _, _, _]) (pc2 := 34) dX1_weigh_32 (by decide) rfl rfl ?_
    refine pb_aload_n (pc2 := 35) dX1_weigh_34 rfl rfl rfl ?_
    refine pb_aload_n (pc2 := 36) dX1_weigh_35 rfl rfl rfl ?_
    refine pb_iconst (x := nI 2) (pc2 := 37) dX1_weigh_36 (by decide) rfl ?_
    refine pb_callU (x := ⟨RX1, "bySight", "(LPaintBox$Light;I)I"⟩) (owner := RX9) (pc2 := 40) (k2 := 0) (n2 := 0) mwX9_bySight pb_cl1.1 rfl ⟨by decide, by decide⟩ iwX9_bySight suX1_bySight smX1_bySight (Or.inl rfl) rfl mlX1_63 dX1_weigh_37 (by first | assumption | exact hR.a rfl | exact hR.o | exact hC.o | exact hC.pal | exact hC.tub | exact hC.k _ _ rfl | exact hC.pot _ (by omega) | exact hC.are _ (by omega) | exact hC.arl _ (by omega) | exact hC.tbo _ (by omega) (by omega)) (t_sByC w hl (show 2 < 3 by omega) hS hsz ho hc ha hmm hli hk hsum hN1 hN hd hsc h408 hG2) (by omega) (by omega) (by omega) rfl rfl (Nat.le_of_ble_eq_true rfl) rfl (fun v h3 q _ => ?_)
    obtain ⟨rfl, ⟨G3, h408, hG3⟩, n3⟩ := q
    have ho := (n3 _ (by omega)).trans ho
    have nb : ∀ x, x ≠ 408 → h3 x = h x := fun x hx => (n3 x hx).trans ((n2 x hx).trans (n1 x hx))
    have h413 := (nb _ (by omega)).trans h413
    have h412 := (nb _ (by omega)).trans h412
    have loop : ∀ (m i : Nat) (R : Nat → Nat) (h' : pb_H) (o7 : Option Value), A 24 0 - i < m → i ≤ A 24 0 → h' 413 = some (.inl (0, 4096, fun j => nI (R j))) → (∀ j, j < 4096 → R j = pb_un σ s (σ s ||| fw_bits A l d (mxP mem C M (k + 1)) i) j) → (∀ x, x ≠ 413 → h' x = h3 x) → pb_S Z mX1_weigh 2 0 0 (fun v h' => v = none ∧ stC A d (fw_st A l d σ (mxP mem C M (k + 1))) sz k h0 h' ∧ ∀ x, x ≠ 69 → x ≠ 408 → x ≠ 413 → h' x = h x) 45 [some (.ref 69), some (.ref 62), some (.int (nI s)), some (.int (nI (pb_see A l 0 (pb_tl A (mxP mem C M (k + 1)))))), some (.int (nI (pb_see A l 1 (pb_tl A (mxP mem C M (k + 1)))))), some (.int (nI (pb_see A l 2 (pb_tl A (mxP mem C M (k + 1)))))), some (.int (nI i)), o7] [] h' := by
      intro m
      induction m with
      | zero => intro i R h' o7 g1; omega
      | succ m ih =>
        intro i R h' o7 g1 g2 h413 hR n4
        have ho : h' 69 = _ := (n4 _ (by omega)).trans ho
        have h412 : h' 412 = _ := (n4 _ (by omega)).trans h412
        refine pb_iload (pc2 := 47) dX1_weigh_45 rfl rfl ?_
        refine pb_aload_n (pc2 := 48) dX1_weigh_47 rfl rfl rfl ?_
        refine pb_getf (pc2 := 51) flX1_20_X1 rfl dX1_weigh_48 (by first | assumption | exact hR.a rfl | exact hR.o | exact hC.o | exact hC.pal | exact hC.tub | exact hC.k _ _ rfl | exact hC.pot _ (by omega) | exact hC.are _ (by omega) | exact hC.arl _ (by omega) | exact hC.tbo _ (by omega) (by omega)) rfl rfl ?_
        refine pb_icmpN_ge (tgt := 120) (pc2 := 54) dX1_weigh_51 (by decide) rfl (by omega) (by omega) (fun q => ?_) (fun q => ?_)
        · have e : i = A 24 0 := by omega
          subst e
          have hrow : cRow 4096 (fw_st A l d σ (mxP mem C M (k + 1))) (h' 413) := ⟨R, h413, fun j hj => by rw [hR j hj, est]⟩
          have nb2 : ∀ x, x ≠ 408 → x ≠ 413 → h' x = h x := fun x x1 x2 => (n4 x x2).trans (nb x x1)
          have h408' : h' 408 = some (.inl (0, 8, fun j => nI (G3 j))) := (n4 _ (by omega)).trans h408
          have hs4 : ∀ a n, cS a = some n → cScr n (h' a) := fun a n e => by
            by_cases e8 : a = 408
            · subst e8
              have en : n = 8 := (Option.some.inj e).symm
              subst en
              exact ⟨G3, h408'⟩
            · rw [nb2 a e8 (cS_ne e rfl)]; exact hC.s a n e
          exact pb_return dX1_weigh_120 rfl (⟨rfl, ⟨k_obC hC hs4 (fun x x1 x2 x3 => nb2 x (fun z => by rw [z] at x1; cases x1) x3) ⟨sz, k, _, _, _, ho⟩ (cRow_scr hrow), ho, hrow, hstok⟩, fun x x1 x2 x3 => nb2 x x2 x3⟩)
        · obtain ⟨Gg, hgg, hGg⟩ := hgr i q
          have hGg : ∀ j, j < 3 → Gg j = A 25 (3 * i + j) := hGg
          have hgg : h' (480 + i) = _ := (n4 _ (by omega)).trans ((nb _ (by omega)).trans hgg)
          have e0 := hGg 0 (by omega)
          have e1 := hGg 1 (by omega)
          have e2 := hGg 2 (by omega)
          have b0 := h25 (3 * i) (by omega)
          have b1 := h25 (3 * i + 1) (by omega)
          have b2 := h25 (3 * i + 2) (by omega)
          have l0 : pb_abs (pb_see A l 0 (pb_tl A (mxP mem C M (k + 1)))) (A 25 (3 * i)) ≤ 10000 := by unfold pb_abs; omega
          have l1 : pb_abs (pb_see A l 1 (pb_tl A (mxP mem C M (k + 1)))) (A 25 (3 * i + 1)) ≤ 10000 := by unfold pb_abs; omega
          have l2 : pb_abs (pb_see A l 2 (pb_tl A (mxP mem C M (k + 1)))) (A 25 (3 * i + 2)) ≤ 10000 := by unfold pb_abs; omega
          refine pb_aload_n (pc2 := 55) dX1_weigh_54 rfl rfl rfl ?_
          refine pb_getf (pc2 := 58) flX1_17_X1 rfl dX1_weigh_55 (by first | assumption | exact hR.a rfl | exact hR.o | exact hC.o | exact hC.pal | exact hC.tub | exact hC.k _ _ rfl | exact hC.pot _ (by omega) | exact hC.are _ (by omega) | exact hC.arl _ (by omega) | exact hC.tbo _ (by omega) (by omega)) rfl rfl ?_
          refine pb_iload (pc2 := 60) dX1_weigh_58 rfl rfl ?_
          refine pb_aald (pc2 := 61) (by first | assumption | exact hR.a rfl | exact hR.o | exact hC.o | exact hC.pal | exact hC.tub | exact hC.k _ _ rfl | exact hC.pot _ (by omega) | exact hC.are _ (by omega) | exact hC.arl _ (by omega) | exact hC.tbo _ (by omega) (by omega)) dX1_weigh_60 (by decide) (by omega) (by omega) (cTo_at (by omega)) rfl ?_
          refine pb_astore (lv2 := [_, _, _, _, _, _, _, _]) (pc2 := 63) dX1_weigh_61 (by decide) rfl rfl ?_
          refine pb_iload_n (pc2 := 64) dX1_weigh_63 rfl rfl rfl ?_
          refine pb_aload (pc2 := 66) dX1_weigh_64 rfl rfl ?_
          refine pb_iconst (x := nI 0) (pc2 := 67) dX1_weigh_66 (by decide) rfl ?_
          refine pb_iald (pc2 := 68) (by first | assumption | exact hR.a rfl | exact hR.o | exact hC.o | exact hC.pal | exact hC.tub | exact hC.k _ _ rfl | exact hC.pot _ (by omega) | exact hC.are _ (by omega) | exact hC.arl _ (by omega) | exact hC.tbo _ (by omega) (by omega)) ⟨by decide, rfl⟩ dX1_weigh_67 (by omega) (by omega) rfl ?_
          refine pb_top (v2 := .int (nI (A 25 (3 * i)))) (by rw [e0]; rfl) ?_
          refine pb_isub (pc2 := 69) dX1_weigh_68 rfl ?_
          refine pb_mabsN (pc2 := 72) rfl mlX1_67 dX1_weigh_69 (by omega) (by omega) (by omega) (Nat.le_of_ble_eq_true rfl) rfl ?_
          refine pb_iload (pc2 := 74) dX1_weigh_72 rfl rfl ?_
          refine pb_aload (pc2 := 76) dX1_weigh_74 rfl rfl ?_
          refine pb_iconst (x := nI 1) (pc2 := 77) dX1_weigh_76 (by decide) rfl ?_
          refine pb_iald (pc2 := 78) (by first | assumption | exact hR.a rfl | exact hR.o | exact hC.o | exact hC.pal | exact hC.tub | exact hC.k _ _ rfl | exact hC.pot _ (by omega) | exact hC.are _ (by omega) | exact hC.arl _ (by omega) | exact hC.tbo _ (by omega) (by omega)) ⟨by decide, rfl⟩ dX1_weigh_77 (by omega) (by omega) rfl ?_
          refine pb_top (v2 := .int (nI (A 25 (3 * i + 1)))) (by rw [e1]) ?_
          refine pb_isub (pc2 := 79) dX1_weigh_78 rfl ?_
          refine pb_mabsN (pc2 := 82) rfl mlX1_67 dX1_weigh_79 (by omega) (by omega) (by omega) (Nat.le_of_ble_eq_true rfl) rfl ?_
          refine pb_iaddN (pc2 := 83) dX1_weigh_82 rfl ?_
          refine pb_iload (pc2 := 85) dX1_weigh_83 rfl rfl ?_
          refine pb_aload (pc2 := 87) dX1_weigh_85 rfl rfl ?_
          refine pb_iconst (x := nI 2) (pc2 := 88) dX1_weigh_87 (by decide) rfl ?_
          refine pb_iald (pc2 := 89) (by first | assumption | exact hR.a rfl | exact hR.o | exact hC.o | exact hC.pal | exact hC.tub | exact hC.k _ _ rfl | exact hC.pot _ (by omega) | exact hC.are _ (by omega) | exact hC.arl _ (by omega) | exact hC.tbo _ (by omega) (by omega)) ⟨by decide, rfl⟩ dX1_weigh_88 (by omega) (by omega) rfl ?_
          refine pb_top (v2 := .int (nI (A 25 (3 * i + 2)))) (by rw [e2]) ?_
          refine pb_isub (pc2 := 90) dX1_weigh_89 rfl ?_
          refine pb_mabsN (pc2 := 93) rfl mlX1_67 dX1_weigh_90 (by omega) (by omega) (by omega) (Nat.le_of_ble_eq_true rfl) rfl ?_
          refine pb_iaddN (pc2 := 94) dX1_weigh_93 rfl ?_
          refine pb_top (v2 := .int (nI (fw_far A l (mxP mem C M (k + 1)) i))) (by rw [hff i]) ?_
          have hfl : fw_far A l (mxP mem C M (k + 1)) i ≤ 30000 := by rw [hff i]; omega
          have fbs : fw_bits A l d (mxP mem C M (k + 1)) (i + 1) = fw_bits A l d (mxP mem C M (k + 1)) i ||| (if fw_far A l (mxP mem C M (k + 1)) i ≤ d then 2 ^ i else 0) := rfl
          refine pb_aload_n (pc2 := 95) dX1_weigh_94 rfl rfl rfl ?_
          refine pb_getf (pc2 := 98) flX1_27_X1 rfl dX1_weigh_95 (by first | assumption | exact hR.a rfl | exact hR.o | exact hC.o | exact hC.pal | exact hC.tub | exact hC.k _ _ rfl | exact hC.pot _ (by omega) | exact hC.are _ (by omega) | exact hC.arl _ (by omega) | exact hC.tbo _ (by omega) (by omega)) rfl rfl ?_
          refine pb_icmpN_gt (tgt := 114) (pc2 := 101) dX1_weigh_98 (by decide) rfl (by omega) (by omega) (fun c2 => ?_) (fun c2 => ?_)
          · refine pb_iincP (c0 := 1) (lv2 := [_, _, _, _, _, _, _, _]) (pc2 := 117) dX1_weigh_114 rfl (by decide) rfl rfl ?_
            refine pb_goto (tgt := 45) dX1_weigh_117 (by decide) ?_
            refine ih (i + 1) R h' _ (by omega) (by omega) h413 (fun j hj => ?_) n4
            rw [hR j hj, fbs, if_neg (by omega), Nat.or_zero]
          · refine pb_aload_n (pc2 := 102) dX1_weigh_101 rfl rfl rfl ?_
            refine pb_getf (pc2 := 105) flX1_9_X1 rfl dX1_weigh_102 (by first | assumption | exact hR.a rfl | exact hR.o | exact hC.o | exact hC.pal | exact hC.tub | exact hC.k _ _ rfl | exact hC.pot _ (by omega) | exact hC.are _ (by omega) | exact hC.arl _ (by omega) | exact hC.tbo _ (by omega) (by omega)) rfl rfl ?_
            refine pb_iload_n (pc2 := 106) dX1_weigh_105 rfl rfl rfl ?_
            refine pb_dup2 (pc2 := 107) dX1_weigh_106 rfl rfl rfl ?_
            refine pb_iald (pc2 := 108) h413 ⟨by decide, rfl⟩ dX1_weigh_107 (by omega) (by omega) rfl ?_
            refine pb_iconst (x := nI 1) (pc2 := 109) dX1_weigh_108 (by decide) rfl ?_
            refine pb_iload (pc2 := 111) dX1_weigh_109 rfl rfl ?_
            refine pb_ishl1 (pc2 := 112) dX1_weigh_111 (by omega) rfl ?_
            refine pb_iorN (pc2 := 113) dX1_weigh_112 rfl ?_
            refine pb_iastG (pc2 := 114) h413 dX1_weigh_113 (by omega) (by omega) (by omega) rfl (fun h5 h413 n5 => ?_)
            refine pb_iincP (c0 := 1) (lv2 := [_, _, _, _, _, _, _, _]) (pc2 := 117) dX1_weigh_114 rfl (by decide) rfl rfl ?_
            refine pb_goto (tgt := 45) dX1_weigh_117 (by decide) ?_
            refine ih (i + 1) _ h5 _ (by omega) (by omega) h413 (fun j hj => ?_) (fun x hx => (n5 x hx).trans (n4 x hx))
            rw [fbs, if_pos c2]
            by_cases e : j = s
            · rw [e, pb_un_self, pb_un_self, hR s (by omega), pb_un_self, Nat.or_assoc]
            · rw [pb_un_ne _ _ e, pb_un_ne _ _ e, hR j hj, pb_un_ne _ _ e]
    refine pb_istore (lv2 := [_, _, _, _, _, _, _, _]) (pc2 := 42) dX1_weigh_40 (by decide) rfl rfl ?_
    refine pb_iconst (x := nI 0) (pc2 := 43) dX1_weigh_42 (by decide) rfl ?_
    refine pb_istore (lv2 := [_, _, _, _, _, _, _, _]) (pc2 := 45) dX1_weigh_43 (by decide) rfl rfl ?_
    refine loop (A 24 0 + 1) 0 R h3 _ (by omega) (by omega) h413 (fun j hj => ?_) (fun _ _ => rfl)
    rw [hR j hj]
    by_cases e : j = s
    · rw [e, pb_un_self]; exact (Nat.or_zero _).symm
    · rw [pb_un_ne _ _ e]
  · have e9 : fw_st A l d σ (mxP mem C M (k + 1)) = σ := by
      rw [est]
      funext j
      by_cases e : j = s
      · rw [e, pb_un_self]
        apply Nat.eq_of_testBit_eq
        intro i
        rw [Nat.testBit_or]
        cases hb : (fw_bits A l d (mxP mem C M (k + 1)) (A 24 0)).testBit i with
        | false => rw [Bool.or_false]
        | true =>
          have hi := fw_bits_tb hb
          have : σ s = 2 ^ A 24 0 - 1 := by omega
          rw [this, Bool.or_true, Nat.testBit_two_pow_sub_one, decide_eq_true hi]
      · rw [pb_un_ne _ _ e]
    rw [e9]
    exact pb_return dX1_weigh_18 rfl (⟨rfl, ⟨hC, ho, ⟨R, h413, hR⟩, hok⟩, fun x _ _ _ => rfl⟩)
end PB39

