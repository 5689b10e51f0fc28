section PBM
variable {Z : pb_Z} {y : pb_M} {d k n : Nat} {post : Option Value → pb_H → Prop} {pc : Nat} {lv : List (Option Value)} {st : List Value} {h : pb_H}
/-- the one static row -/
theorem pb_gets {idx pc2 : Nat} {own : String} (hw : y.1.cls = own) (hl : Cond.fieldLink own idx "PaintBoxModel" "THICKNESS" "[I" ∈ pb_tbl) (hd : decode y.2.1 pc = .ok (.getstatic idx, 3)) (hp : pc + 3 = pc2) (kk : pb_S Z y d k n post pc2 lv (.ref 1 :: st) h) : pb_S Z y d k n post pc lv st h := by
  subst hw hp
  intro p e s m args below meth c R mc ms ρ0 h0 hF hR cells slots ρ H locs ls hD
  obtain ⟨cf, kf, fi, f, a, cell, h1, h2, h3, h4, h5, h6, h7, h8⟩ := hF.2.2.2.2.2.2.1.1.2.2.2.1
  have hr := hD.2.2.2.1
  have ha : a < pb_zb Z := Nat.not_le.mp h8
  have kw := kk p e s m args below meth c R mc ms ρ0 h0 hF hR cells slots ρ H locs ls (hD.stk ⟨hr.2.2.2.2.2.2, hD.oks⟩)
  have e9 : (Value.ref 1 :: st).map (pb_up ρ) = .ref (pb_zt Z) :: st.map (pb_up ρ) := by
    show Value.ref (ρ 1) :: _ = _
    rw [hr.2.2.2.2.2.1]
  rw [e9] at kw
  exact W.gets hF.1 hF.2.1 hF.2.2.2.2.1 (hF.2.2.2.2.2.1 _ hl) h1 h2 h3 h4 (by rw [hr.2.2.2.2.1 a ha]; exact h5) (fun e => by rw [e] at h6; cases h6) h7 rfl hd kw
/-- System.arraycopy between two rows of ints -/
theorem pb_acopy {idx pc2 a0 a n0 n1 sp dp m0 : Nat} {own : String} {f g : Nat → Int32} (hw : y.1.cls = own) (hl : Cond.methodLink own idx arraycopyName ∈ pb_tbl) (hd : decode y.2.1 pc = .ok (.invokestatic idx, 3)) (ha0 : h a0 = some (.inl (0, n0, f))) (ha : h a = some (.inl (0, n1, g))) (h2 : 2 ≤ a) (hs : sp + m0 ≤ n0) (ht : dp + m0 ≤ n1) (hn0 : n0 < 2 ^ 31) (hn1 : n1 < 2 ^ 31) (hdd : 1 ≤ d) (hr : (st.map fun v => v.category).sum ≤ 8) (hp : pc + 3 = pc2) (kk : pb_S Z y d k n post pc2 lv st (pb_set h a (.inl (0, n1, va_cpy f g sp dp m0)))) : pb_S Z y d k n post pc lv (.int (nI m0) :: .int (nI dp) :: .ref a :: .int (nI sp) :: .ref a0 :: st) h := by
  subst hw hp
  intro p e s m args below meth c R mc ms ρ0 h0 hF hR cells slots ρ H locs ls hD
  intro T hT X
  have hts := hF.2.2.2.2.2.1
  obtain ⟨cell0, c1, c2, c3, c4, c5, c6, c7⟩ := (hD.2.2.2.1.1 a0 _ ha0).1
  obtain ⟨cell1, d1, d2, d3, d4, d5, d6, d7⟩ := (hD.2.2.2.1.1 a _ ha).1
  have c7 := c7 (by omega)
  have d7 := d7 (by omega)
  subst c7 d7
  obtain ⟨-, k0, hk0, cm0, hkk0⟩ := (pb_pkA hF.2.2.2.2.2.2.1 (kd := 0) (by omega)) n0 (fun j => .int (f j))
  have z1 : (nI sp).toNatClampNeg = sp := nI_clamp (by omega)
  have z2 : (nI dp).toNatClampNeg = dp := nI_clamp (by omega)
  have z3 : (nI m0).toNatClampNeg = m0 := nI_clamp (by omega)
  obtain ⟨vm', X', step⟩ := X.arraycopy hF.1 hF.2.2.2.2.1 (hts _ hl) (hts _ (by decide +kernel)) (hts _ (by decide +kernel)) (hts _ (by decide +kernel)) (src := ρ a0) (dst := ρ a) (srcPos := nI sp) (destPos := nI dp) (n := nI m0) (by rw [hT]; exact c1) (by rw [hT]; exact d1)
    c3 d3 c4 d4 hk0 hk0 hkk0 hkk0 (by simp [refKind, pb_pk]) (nI_pos (by omega)) (nI_pos (by omega)) (nI_pos (by omega))
    (by rw [nI_toInt (by omega), nI_toInt (by omega), arrV_size]; omega)
    (by rw [nI_toInt (by omega), nI_toInt (by omega), arrV_size]; omega)
    (fun vm₁ _ i hi => by
      rw [z3] at hi
      have e : (arrV (pb_zp Z 0) n0 (fun j => Value.int (f j))).slots.getD ((nI sp).toNatClampNeg + i) .null = .int (f (sp + i)) := by
        rw [z1, Array.getD_eq_getD_getElem?, arrV_read _ _ (by omega)]
        rfl
      refine ⟨?_, ?_⟩
      · rw [e]; rfl
      · rw [e]; exact trivial)
    (g := F0 m pc ls (.int (nI m0) :: .int (nI dp) :: .ref (ρ a) :: .int (nI sp) :: .ref (ρ a0) :: st.map (pb_up ρ))) rfl (by rw [hF.2.2.2.1]; exact hD.2.2.1.1) (rest := st.map (pb_up ρ)) rfl (by rw [hF.2.1]; exact hd) (by have := hR.1; omega) (by
      show 2 * 0 + ((st.map (pb_up ρ)).map fun v => v.category).sum + _ ≤ _
      rw [pb_cat]
      have := hR.2.1
      have e : nativeFrameWords "java/lang/System" "arraycopy" 5 ≤ 20 := by decide +kernel
      omega)
  have e1 : copied (arrV (pb_zp Z 0) n0 (fun j => Value.int (f j))) (arrV (pb_zp Z 0) n1 (fun j => Value.int (g j))) (nI sp) (nI dp) (nI m0) = arrV (pb_zp Z 0) n1 (fun j => .int (va_cpy f g sp dp m0 j)) := by
    have := va_copied (fun z => Value.int z) (pb_zp Z 0) (pb_zp Z 0) (n1 := n1) (dp := dp) f g hs
    unfold copied
    rw [z1, z2, z3]
    exact this
  rw [e1] at X' step
  have hl1 : ρ a < H.size := (Array.getElem?_eq_some_iff.mp d1).1
  have hheap : ((T.setVm vm').setCell (ρ a) (arrV (pb_zp Z 0) n1 (fun j => .int (va_cpy f g sp dp m0 j)))).heap = H.setIfInBounds (ρ a) (arrV (pb_zp Z 0) n1 (fun j => .int (va_cpy f g sp dp m0 j))) := by rw [← hT]; rfl
  have oq : ∀ q : Nat, q ≠ ρ a → (H.setIfInBounds (ρ a) (arrV (pb_zp Z 0) n1 (fun j => .int (va_cpy f g sp dp m0 j))))[q]? = H[q]? := fun q hq => by simp [Array.getElem?_setIfInBounds, Ne.symm hq]
  have hself : (H.setIfInBounds (ρ a) (arrV (pb_zp Z 0) n1 (fun j => .int (va_cpy f g sp dp m0 j))))[ρ a]? = some (arrV (pb_zp Z 0) n1 (fun j => .int (va_cpy f g sp dp m0 j))) := by simp [Array.getElem?_setIfInBounds, hl1]
  have hDw : pb_Dy Z y k n mc ms ρ0 h0 lv st (pb_set h a (.inl (0, n1, va_cpy f g sp dp m0))) cells slots ρ (H.setIfInBounds (ρ a) (arrV (pb_zp Z 0) n1 (fun j => .int (va_cpy f g sp dp m0 j)))) (locs ++ [⟨ρ a, 0⟩]) ls := hD.wr hD.oks.2.2.2.2.2 ha h2 (pb_cellA hself) trivial (by simp) oq
  have hDw2 := fun (L : List Loc) (hL : ∀ q ∈ L, pb_zb Z ≤ q.base) => (⟨hDw.1, hDw.2.1, hDw.2.2.1, hDw.2.2.2.1, hDw.2.2.2.2.1, hDw.2.2.2.2.2.1, hDw.2.2.2.2.2.2.1, t_lL hD.2.2.2.2.2.2.2 hL⟩ : pb_Dy Z y k n mc ms ρ0 h0 lv st (pb_set h a (.inl (0, n1, va_cpy f g sp dp m0))) cells slots ρ (H.setIfInBounds (ρ a) (arrV (pb_zp Z 0) n1 (fun j => .int (va_cpy f g sp dp m0 j)))) (locs ++ L) ls)
  obtain ⟨t, a1, b1⟩ := kk p e s m args below meth c R mc ms ρ0 h0 hF hR cells slots ρ _ _ ls (hDw2 _ (fun q hq => by
      obtain ⟨z, -, hz⟩ := List.mem_map.mp hq
      rw [← hz]
      exact hD.2.2.2.1.2.2.1 a h2 (by rw [ha]; exact fun q => by cases q))) _ hheap X'
  exact ⟨t, step t a1, b1⟩
/-- new int[N][M]: the outer row at a, the inner ones at b, b + 1 and on -/
def pb_mul (h : pb_H) (a b N M : Nat) : pb_H := fun x => if x = a then some (.inr (.inl (4, N, fun i => if i < N then some (b + i) else none))) else if b ≤ x ∧ x < b + N then some (.inl (0, M, fun _ => 0)) else h x
theorem pb_mna (a b : Nat) {own : String} {idx N M : Nat} {k2 n2 pc2 : Nat} (hd : decode y.2.1 pc = .ok (.multianewarray idx 2, 4)) (hw : y.1.cls = own) (hcl : Cond.classLink own idx "[[I" ∈ pb_tbl) (ha : h a = none) (hb : ∀ i, i < N → h (b + i) = none) (hab : a < b) (h2 : 2 ≤ a) (hN : N ≤ 100000) (hM : M ≤ 100000) (hk : k2 + (1 + N) ≤ k) (hn : n2 + (N + N * M) ≤ n) (hp : pc + 4 = pc2) (kk : pb_S Z y d k2 n2 post pc2 lv (.ref a :: st) (pb_mul h a b N M)) : pb_S Z y d k n post pc lv (.int (nI M) :: .int (nI N) :: st) h := by
  subst hw hp
  intro p e s m args below meth c R mc ms ρ0 h0 hF hR cells slots ρ H locs ls hD
  intro T hT X
  have hts := hF.2.2.2.2.2.1
  have zN : (nI N).toNatClampNeg = N := nI_clamp (by omega)
  have zM : (nI M).toNatClampNeg = M := nI_clamp (by omega)
  have hD1 := hD.1
  have hD2 := hD.2.1
  obtain ⟨vm₁, cA, comp, -, fA, fC, hO, -, X', step⟩ := X.multianewarray2F hF.1 hF.2.2.2.2.1 (ty := .int) (hts _ hcl) (hF.2.2.2.2.2.2.1.1.2.2.2.2.2.2.2.2) (hts _ (by decide +kernel)) (g := F0 m pc ls (.int (nI M) :: .int (nI N) :: st.map (pb_up ρ))) rfl (by rw [hF.2.1]; exact hd) rfl (nI_pos (by omega)) (nI_pos (by omega)) (by rw [zN]; omega) (by rw [zM]; show M * 4 ≤ _; omega) (by rw [zM]; omega) rfl rfl (by rw [zN, hR.2.2.1]; omega) (by rw [zN, zM, hR.2.2.2]; omega)
  rw [zN, zM] at X' step
  have hK := hF.2.2.2.2.2.2.1.1.1
  have eA : cA = pb_zr Z 4 := Option.some.inj (fA.symm.trans (hK.2 6 _ rfl).2)
  have eC : comp = pb_zp Z 0 := Option.some.inj (fC.symm.trans (hK.2 0 _ rfl).2)
  subst eA eC
  generalize hFl : Jvm.Free.Multi.fill (T.setVm vm₁) (pb_zr Z 4) (pb_zp Z 0) N M (defaultValue .int) N = F at X' step
  have hTh : (T.setVm vm₁).heap = H := hT
  obtain ⟨f1, f2, -, -⟩ := Jvm.Free.Multi.fill_facts (T.setVm vm₁) (pb_zr Z 4) (pb_zp Z 0) N M (defaultValue .int) N
  rw [hFl, hTh] at f1 f2
  have hold : ∀ x : Nat, x < H.size → F.heap[x]? = H[x]? := fun x hx => by
    have := Jvm.Free.Multi.fill_old (T.setVm vm₁) (pb_zr Z 4) (pb_zp Z 0) N M (defaultValue .int) (a := x) (by rw [hTh]; exact hx) N
    rw [hFl, hTh] at this
    exact this
  have hrow : ∀ j : Nat, j < N → F.heap[H.size + 1 + j]? = some (arrV (pb_zp Z 0) M (fun _ => .int 0)) := fun j hj => by
    have := Jvm.Free.Multi.fill_inner (T.setVm vm₁) (pb_zr Z 4) (pb_zp Z 0) N M (defaultValue .int) N j hj
    rw [hFl, hTh] at this
    rw [this]
    refine congrArg some ?_
    show ({ cls := _, slots := Array.replicate M (.int 0), vm := .none } : Cell) = _
    rw [arrV_new]
  have hout : ∀ i : Nat, Jvm.Free.Multi.outerC (pb_zr Z 4) N H.size i = arrV (pb_zr Z 4) N (fun j => va_rf (if j < i then some (H.size + 1 + j) else none)) := by
    intro i
    induction i with
    | zero =>
      show ({ cls := _, slots := Array.replicate N .null, vm := .none } : Cell) = _
      rw [arrV_new]
      refine congrArg (arrV _ N) (funext fun j => ?_)
      simp [va_rf]
    | succ i ih =>
      show (Jvm.Free.Multi.outerC (pb_zr Z 4) N H.size i).setSlot i (.ref (H.size + 1 + i)) = _
      rw [ih, arrV_store]
      refine congrArg (arrV _ N) (funext fun j => ?_)
      by_cases e : j = i
      · subst e
        simp [updV, va_rf]
      · by_cases h9 : j < i
        · simp [updV, e, h9, Nat.lt_succ_of_lt h9]
        · simp [updV, e, h9, show ¬ j < i + 1 by omega]
  rw [hout] at f2
  -- the new map of addresses
  have hr := hD.2.2.2.1
  have hlt : ∀ x, h x ≠ none → ρ x < H.size := fun x hx => by
    cases e : h x with
    | none => exact absurd e hx
    | some cb => exact pb_cell_lt (hr.1 x cb e).1
  have hna : ∀ x, h x ≠ none → x ≠ a := fun x hx e => hx (by rw [e]; exact ha)
  have hnb : ∀ x, h x ≠ none → ¬ (b ≤ x ∧ x < b + N) := fun x hx e => hx (by
    have := hb (x - b) (by omega)
    rw [show b + (x - b) = x by omega] at this
    exact this)
  have hre : ∀ x, h x ≠ none → (fun x => if x = a then H.size else if b ≤ x ∧ x < b + N then H.size + 1 + (x - b) else ρ x) x = ρ x := fun x hx => by
    show (if x = a then H.size else if b ≤ x ∧ x < b + N then H.size + 1 + (x - b) else ρ x) = ρ x
    rw [if_neg (hna x hx), if_neg (hnb x hx)]
  have hmd : ∀ x, h x ≠ none → pb_mul h a b N M x ≠ none := fun x hx => by
    unfold pb_mul
    rw [if_neg (hna x hx), if_neg (hnb x hx)]
    exact hx
  generalize hρ : (fun x => if x = a then H.size else if b ≤ x ∧ x < b + N then H.size + 1 + (x - b) else ρ x) = ρ' at hre
  have ra : ρ' a = H.size := by rw [← hρ]; exact if_pos rfl
  have rb : ∀ x, x ≠ a → b ≤ x ∧ x < b + N → ρ' x = H.size + 1 + (x - b) := fun x hx hx2 => by
    rw [← hρ]
    show (if x = a then H.size else if b ≤ x ∧ x < b + N then H.size + 1 + (x - b) else ρ x) = _
    rw [if_neg hx, if_pos hx2]
  have hRl : pb_Rl Z ρ' (pb_mul h a b N M) F.heap := by
    refine ⟨fun x cx hx => ?_, fun x x' hx hx' hq => ?_, fun x hx2 hx => ?_, by rw [f1]; have := hr.2.2.2.1; omega, fun q hq => ?_, ?_, hmd 1 hr.2.2.2.2.2.2⟩
    · unfold pb_mul at hx
      by_cases e1 : x = a
      · rw [if_pos e1] at hx
        cases hx
        subst e1
        refine ⟨?_, fun j q hq => ?_⟩
        · show F.heap[ρ' x]? = _
          rw [ra, f2]
          refine congrArg some (congrArg (arrV _ N) (funext fun j => ?_))
          by_cases hj : j < N
          · simp only [hj, if_true, Option.map_some, va_rf]
            rw [rb (b + j) (by omega) (by omega), show b + j - b = j by omega]
          · simp only [hj, if_false, Option.map_none, va_rf]
        · have hq : (if j < N then some (b + j) else none) = some q := hq
          by_cases hj : j < N
          · rw [if_pos hj] at hq
            cases hq
            unfold pb_mul
            rw [if_neg (by omega), if_pos (by omega)]
            exact fun z => by cases z
          · rw [if_neg hj] at hq
            cases hq
      · rw [if_neg e1] at hx
        by_cases e2 : b ≤ x ∧ x < b + N
        · rw [if_pos e2] at hx
          cases hx
          refine ⟨pb_cellA ?_, trivial⟩
          rw [rb x e1 e2]
          exact hrow _ (by omega)
        · rw [if_neg e2] at hx
          have hnx : h x ≠ none := by rw [hx]; exact fun q => by cases q
          obtain ⟨g1, g2⟩ := hr.1 x cx hx
          rw [hre x hnx]
          exact ⟨pb_cell_mono g1 g2 hre (hold _ (hlt x hnx)), pb_refs_mono hmd g2⟩
    · have key : ∀ z, pb_mul h a b N M z ≠ none → (z = a ∧ ρ' z = H.size) ∨ (z ≠ a ∧ (b ≤ z ∧ z < b + N) ∧ ρ' z = H.size + 1 + (z - b)) ∨ (h z ≠ none ∧ ρ' z = ρ z ∧ ρ z < H.size) := fun z hz => by
        by_cases e1 : z = a
        · exact Or.inl ⟨e1, by rw [e1]; exact ra⟩
        · by_cases e2 : b ≤ z ∧ z < b + N
          · exact Or.inr (Or.inl ⟨e1, e2, rb z e1 e2⟩)
          · have hnz : h z ≠ none := by
              unfold pb_mul at hz
              rw [if_neg e1, if_neg e2] at hz
              exact hz
            exact Or.inr (Or.inr ⟨hnz, hre z hnz, hlt z hnz⟩)
      rcases key x hx with ⟨u1, u2⟩ | ⟨u1, u2, u3⟩ | ⟨u1, u2, u3⟩ <;> rcases key x' hx' with ⟨w1, w2⟩ | ⟨w1, w2, w3⟩ | ⟨w1, w2, w3⟩
      · rw [u1, w1]
      · omega
      · omega
      · omega
      · omega
      · omega
      · omega
      · omega
      · exact hr.2.1 x x' u1 w1 (by rw [← u2, ← w2]; exact hq)
    · have hbase := hr.2.2.2.1
      by_cases e1 : x = a
      · rw [e1, ra]; exact hbase
      · by_cases e2 : b ≤ x ∧ x < b + N
        · rw [rb x e1 e2]; omega
        · have hnz : h x ≠ none := by
            unfold pb_mul at hx
            rw [if_neg e1, if_neg e2] at hx
            exact hx
          rw [hre x hnz]
          exact hr.2.2.1 x hx2 hnz
    · rw [hold q (Nat.lt_of_lt_of_le hq hr.2.2.2.1)]
      exact hr.2.2.2.2.1 q hq
    · rw [hre 1 hr.2.2.2.2.2.2]
      exact hr.2.2.2.2.2.1
  obtain ⟨t, a1, b1⟩ := kk p e s m args below meth c R mc ms ρ0 h0 hF hR (cells + 1 + N) (slots + N + N * M) ρ' F.heap locs ls ⟨by omega, by omega, hD.2.2.1.ext hD.2.2.2.2.2.2.1 hre, hRl, fun x hx => ⟨hmd x (hD.2.2.2.2.1 x hx).1, (hre x (hD.2.2.2.2.1 x hx).1).trans (hD.2.2.2.2.1 x hx).2⟩, ⟨by show pb_mul h a b N M a ≠ none; unfold pb_mul; rw [if_pos rfl]; exact (fun q => by cases q), pb_oks_mono hmd hD.oks.2.2⟩, fun j v hj => pb_ok_mono hmd (hD.2.2.2.2.2.2.1 j v hj), hD.2.2.2.2.2.2.2⟩ F rfl X'
  refine ⟨t, step t ?_, b1⟩
  have e9 : (Value.ref a :: st).map (pb_up ρ') = .ref T.heap.size :: st.map (pb_up ρ) := by
    show Value.ref (ρ' a) :: _ = _
    rw [ra, hT, pb_ups_ext hre hD.oks.2.2]
  rw [e9] at a1
  exact a1
end PBM
