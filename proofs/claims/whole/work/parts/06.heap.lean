section PBH
variable {Z : pb_Z} {y : pb_M} {d k n : Nat} {post : Option Value → pb_H → Prop} {pc : Nat} {lv : List (Option Value)} {st : List Value} {h : pb_H}
/-- a class of the list, by its number: name, fields, how many, their types -/
def pb_cl (ci : Nat) (C : String) (T : u_T) (N : Nat) (ty : Nat → FieldType) : Prop := vwCl[ci]? = some (C, T, N) ∧ (∀ w ∈ u_ws C T N, w ∈ pb_tbl) ∧ (∀ j, j < N → parseFieldDescriptor (T j).2.2.1 = some (ty j)) ∧ (∀ a, a < N → ∀ b, b < N → a ≠ b → (T a).2.1 ≠ (T b).2.1)
/-- a field's entry in a class file's pool -/
def pb_fl (own : String) (idx ci kf : Nat) (C : String) (T : u_T) (N : Nat) (ty : Nat → FieldType) : Prop := pb_cl ci C T N ty ∧ kf < N ∧ Cond.fieldLink own idx (T kf).1 (T kf).2.1 (T kf).2.2.1 ∈ pb_tbl
theorem pb_nar (ρ : Nat → Nat) {ty : FieldType} {v : Value} (h : narrow ty v = v) : narrow ty (pb_up ρ v) = pb_up ρ v := by
  cases v <;> first | exact h | (cases ty <;> first | rfl | exact h | (simp [narrow] at h ⊢; done) | (simp [pb_up, narrow]; done))
theorem pb_fit (ρ : Nat → Nat) {ty : FieldType} {v : Value} (h : fits ty v = true) : fits ty (pb_up ρ v) = true := by
  cases v <;> first | exact h | (cases ty <;> first | exact h | (simp [fits] at h ⊢; done) | (simp [pb_up, fits]; done))
theorem pb_cellP {ρ : Nat → Nat} {H : Heap} {ci : Nat} {fs : List Value} {q : Nat} (hc : pb_cell Z ρ (.inr (.inr (ci, fs))) q H) : va_P (pb_zD Z) vwCl [(q, .inr (ci, fs.map (pb_up ρ)))] H := fun j x hj => by
  cases j with
  | zero =>
    cases hj
    obtain ⟨r, h1, -, h3⟩ := hc
    exact ⟨r, h1, h3⟩
  | succ j => cases hj
theorem pb_getf {own : String} {idx ci kf N a : Nat} {C : String} {T : u_T} {ty : Nat → FieldType} {fs : List Value} {v : Value} {pc2 : Nat} (hl : pb_fl own idx ci kf C T N ty) (hw : y.1.cls = own) (hd : decode y.2.1 pc = .ok (.getfield idx, 3)) (ha : h a = some (.inr (.inr (ci, fs)))) (hv : fs[kf]? = some v) (hp : pc + 3 = pc2) (kk : pb_S Z y d k n post pc2 lv (v :: st) h) : pb_S Z y d k n post pc lv (.ref a :: st) h := by
  subst hp hw
  intro p e s m args below meth c R mc ms ρ0 h0 hF hR cells slots ρ H locs ls hD
  have hcell := hD.2.2.2.1.1 a _ ha
  exact va_get hF.1 hF.2.1 hF.2.2.2.2.2.1 hl.1.2.1 hF.2.2.2.2.1 hF.2.2.2.2.2.2.1.1.1 (pb_cellP hcell.1) 0 rfl hl.1.1 kf hl.2.1 (hF.2.2.2.2.2.1 _ hl.2.2) (fun _ q => q) (v := pb_up ρ v) (by rw [List.getElem?_map, hv]; rfl) hd
    (kk p e s m args below meth c R mc ms ρ0 h0 hF hR cells slots ρ H locs ls (hD.stk ⟨pb_oks_mem hcell.2 v (List.mem_of_getElem? hv), hD.oks.2⟩))
/-- the one field of a nest mate's that is private -/
theorem pb_getN {own host : String} {idx ci kf N a : Nat} {C : String} {T : u_T} {ty : Nat → FieldType} {fs : List Value} {v : Value} {pc2 : Nat} (hl : pb_cl ci C T N ty) (hk : kf < N) (hi : Cond.fieldLinkNest own idx (T kf).1 (T kf).2.1 (T kf).2.2.1 host ∈ pb_nw) (hw : y.1.cls = own) (hd : decode y.2.1 pc = .ok (.getfield idx, 3)) (ha : h a = some (.inr (.inr (ci, fs)))) (hv : fs[kf]? = some v) (hp : pc + 3 = pc2) (kk : pb_S Z y d k n post pc2 lv (v :: st) h) : pb_S Z y d k n post pc lv (.ref a :: st) h := by
  subst hp hw
  intro p e s m args below meth c R mc ms ρ0 h0 hF hR cells slots ρ H locs ls hD
  have hcell := hD.2.2.2.1.1 a _ ha
  exact va_getN hF.1 hF.2.1 hF.2.2.2.2.2.1 hl.2.1 hF.2.2.2.2.1 hF.2.2.2.2.2.2.1.1.1 (pb_cellP hcell.1) 0 rfl hl.1 kf hk (va_Nw.use rfl (hF.2.2.2.2.2.2.1.2 _ hi)) (fun _ q => q) (v := pb_up ρ v) (by rw [List.getElem?_map, hv]; rfl) hd
    (kk p e s m args below meth c R mc ms ρ0 h0 hF hR cells slots ρ H locs ls (hD.stk ⟨pb_oks_mem hcell.2 v (List.mem_of_getElem? hv), hD.oks.2⟩))
theorem pb_oks_set {h : pb_H} : ∀ {fs : List Value} {i : Nat} {v : Value}, pb_oks h fs → pb_ok h v → pb_oks h (fs.set i v)
  | [], _, _, hs, _ => hs
  | _ :: _, 0, _, hs, hv => ⟨hv, hs.2⟩
  | _ :: _, i + 1, _, hs, hv => ⟨hs.1, pb_oks_set hs.2 hv⟩
/-- behind a write -/
theorem pb_Dy.wr {k n mc ms : Nat} {ρ0 : Nat → Nat} {h0 : pb_H} {st' : List Value} {cells slots : Nat} {ρ : Nat → Nat} {H H' : Heap} {locs : List Loc} {ls : Array Slot} {a i : Nat} {c0 c : pb_C} (hD : pb_Dy Z y k n mc ms ρ0 h0 lv st h cells slots ρ H locs ls) (hs : pb_oks h st') (ha : h a = some c0) (h2 : 2 ≤ a) (hc : pb_cell Z ρ c (ρ a) H') (hrf : pb_refs h c) (hz : H'.size = H.size) (ho : ∀ q : Nat, q ≠ ρ a → H'[q]? = H[q]?) : pb_Dy Z y k n mc ms ρ0 h0 lv st' (pb_set h a c) cells slots ρ H' (locs ++ [⟨ρ a, i⟩]) ls :=
  ⟨hD.1, hD.2.1, hD.2.2.1, hD.2.2.2.1.set ha h2 hc hrf hz ho, hD.2.2.2.2.1.set a c, pb_oks_mono (fun _ => pb_set_dom) hs, fun j v hj => pb_ok_mono (fun _ => pb_set_dom) (hD.2.2.2.2.2.2.1 j v hj), t_lc hD.2.2.2.2.2.2.2 (hD.2.2.2.1.2.2.1 a h2 (by rw [ha]; exact fun q => by cases q))⟩
theorem pb_putf {own : String} {idx ci kf N a : Nat} {C : String} {T : u_T} {ty : Nat → FieldType} {fs fs2 : List Value} {v : Value} {pc2 : Nat} (hl : pb_fl own idx ci kf C T N ty) (hw : y.1.cls = own) (hd : decode y.2.1 pc = .ok (.putfield idx, 3)) (ha : h a = some (.inr (.inr (ci, fs)))) (h2 : 2 ≤ a) (hfin : (T kf).2.2.2 = false) (hn : narrow (ty kf) v = v) (hft : fits (ty kf) v = true) (hs : fs.set kf v = fs2) (hp : pc + 3 = pc2) (kk : pb_S Z y d k n post pc2 lv st (pb_set h a (.inr (.inr (ci, fs2))))) : pb_S Z y d k n post pc lv (v :: .ref a :: st) h := by
  subst hp hw hs
  intro p e s m args below meth c R mc ms ρ0 h0 hF hR cells slots ρ H locs ls hD
  have hcell := hD.2.2.2.1.1 a _ ha
  obtain ⟨hcl, hk, hli⟩ := hl
  obtain ⟨hc, hin, hty, hnm⟩ := hcl
  have hts := hF.2.2.2.2.2.1
  have hK := hF.2.2.2.2.2.2.1.1.1
  have hap := va_apart (own := y.1.cls) hts hin ty hty hnm hK hc
  obtain ⟨r, h1, hlen, cell, q1, q2, q3, q4⟩ := hcell.1
  have hr : r = (C, T, N) := Option.some.inj (h1.symm.trans hc)
  subst hr
  obtain ⟨hS, hfc, kC, hkC, hkind⟩ := hK.1 ci _ hc
  obtain ⟨cf, kf', fi, f, hi, hsl⟩ := hS kf hk
  have hlay := hts _ (hin _ (u_in_lay hk))
  unfold u_lay at hlay
  rw [if_neg (by rw [hfin]; decide)] at hlay
  have hst := (u_facts hfc hkC (u_lays hts hin hk) hi).1
  have h6 := u_store hfc hkC hkind hlay hi (hty kf hk) (pb_nar ρ hn) (pb_fit ρ hft)
  refine W.putK hF.1 hF.2.1 (f := f) (v := pb_up ρ v) ⟨hF.2.2.2.2.1, hts _ hli, ⟨_, _, _, hi⟩, hst⟩ (by rw [q2]; exact h6) q1 q3 (by rw [hsl]; exact k2_hasslot (q4 kf hk)) rfl rfl hd fun H' e1 e2 e3 => ?_
  refine kk p e s m args below meth c R mc ms ρ0 h0 hF hR cells slots ρ H' _ ls (hD.wr hD.oks.2.2 ha h2 ⟨_, hc, by rw [List.length_set]; exact hlen, ?_⟩ (pb_oks_set hcell.2 hD.oks.1) e2 e3)
  rw [hsl] at e1
  rw [List.map_set]
  exact t_OB.to (V := updV (vp_V (fs.map (pb_up ρ))) kf (pb_up ρ v)) ⟨_, e1, q2, q3, t_set q4 hap hk _⟩ (fun j _ => vp_updV_set (by rw [List.length_map, hlen]; exact hk) _ j)
theorem pb_putF {own : String} {idx ci kf N a : Nat} {C : String} {T : u_T} {ty : Nat → FieldType} {fs fs2 : List Value} {v : Value} {pc2 : Nat} (hl : pb_fl own idx ci kf C T N ty) (hw : y.1.cls = own) (hd : decode y.2.1 pc = .ok (.putfield idx, 3)) (ha : h a = some (.inr (.inr (ci, fs)))) (h2 : 2 ≤ a) (hfin : (T kf).2.2.2 = true) (hni : y.1.name = "<init>") (hdc : (T kf).1 = own) (hn : narrow (ty kf) v = v) (hft : fits (ty kf) v = true) (hs : fs.set kf v = fs2) (hp : pc + 3 = pc2) (kk : pb_S Z y d k n post pc2 lv st (pb_set h a (.inr (.inr (ci, fs2))))) : pb_S Z y d k n post pc lv (v :: .ref a :: st) h := by
  subst hp hw hs
  intro p e s m args below meth c R mc ms ρ0 h0 hF hR cells slots ρ H locs ls hD
  have hcell := hD.2.2.2.1.1 a _ ha
  obtain ⟨hcl, hk, hli⟩ := hl
  obtain ⟨hc, hin, hty, hnm⟩ := hcl
  have hts := hF.2.2.2.2.2.1
  have hK := hF.2.2.2.2.2.2.1.1.1
  have hap := va_apart (own := y.1.cls) hts hin ty hty hnm hK hc
  obtain ⟨r, h1, hlen, cell, q1, q2, q3, q4⟩ := hcell.1
  have hr : r = (C, T, N) := Option.some.inj (h1.symm.trans hc)
  subst hr
  obtain ⟨hS, hfc, kC, hkC, hkind⟩ := hK.1 ci _ hc
  obtain ⟨cf, kf', fi, f, hi, hsl⟩ := hS kf hk
  have hlay := hts _ (hin _ (u_in_lay hk))
  unfold u_lay at hlay
  rw [if_pos hfin] at hlay
  have hst := (u_facts hfc hkC (u_lays hts hin hk) hi).1
  have hcf : m.cls = cf := by
    obtain ⟨_, _, c', _, _, _, -, -, hf', -, -, -, hown2, -⟩ := Cond.laysFinal_spec hlay
    have e1 : c' = cf := by have := hi.symm.trans hf'; simp at this; exact this.1.symm
    rw [hdc] at hown2
    rw [← e1]; exact Option.some.inj (hF.2.2.2.2.1.symm.trans hown2)
  have h6 := u_fits hfc hkC hkind (Or.inr hlay) hi (hty kf hk) (pb_nar ρ hn) (pb_fit ρ hft)
  refine W.putFinK hF.1 hF.2.1 (v := pb_up ρ v) hF.2.2.2.2.1 (hts _ hli) hi hst hcf (hF.2.2.2.2.2.2.2.2.trans hni) (by rw [q2]; exact h6) q1 q3 (by rw [hsl]; exact k2_hasslot (q4 kf hk)) rfl rfl hd fun H' e1 e2 e3 => ?_
  refine kk p e s m args below meth c R mc ms ρ0 h0 hF hR cells slots ρ H' _ ls (hD.wr hD.oks.2.2 ha h2 ⟨_, hc, by rw [List.length_set]; exact hlen, ?_⟩ (pb_oks_set hcell.2 hD.oks.1) e2 e3)
  rw [hsl] at e1
  rw [List.map_set]
  exact t_OB.to (V := updV (vp_V (fs.map (pb_up ρ))) kf (pb_up ρ v)) ⟨_, e1, q2, q3, t_set q4 hap hk _⟩ (fun j _ => vp_updV_set (by rw [List.length_map, hlen]; exact hk) _ j)
-- arrays
theorem pb_pkA {s : State} (hK : pb_K Z s) {kd : Nat} (hkd : kd < 4) : ArrOfT s (pb_zp Z kd) (pb_pk kd) := by
  rcases (show kd = 0 ∨ kd = 1 ∨ kd = 2 ∨ kd = 3 by omega) with rfl | rfl | rfl | rfl
  · exact (hK.1.1.2 0 _ rfl).1
  · exact (hK.1.1.2 1 _ rfl).1
  · exact hK.1.2.1
  · exact hK.1.2.2.1
theorem pb_isA {s : State} {cA : ClassId} {ty : FieldType} (hA : ArrOfT s cA ty) {cell : Cell} (hc : cell.cls = cA) (hv : ∀ z, cell.vm ≠ .statics z) : s.isArrayOf cell ty := by
  obtain ⟨-, k, hk, comp, hkind⟩ := hA 0 (fun _ => .null)
  exact ⟨hv, k, by rw [hc]; exact hk, comp, hkind⟩
theorem pb_iaload {kd N a j : Nat} {f : Nat → Int32} {pc2 : Nat} (hd : decode y.2.1 pc = .ok (.iaload, 1)) (hkd : kd < 4 ∧ pb_pk kd = .int) (ha : h a = some (.inl (kd, N, f))) (hj : j < N) (hN : N < 2 ^ 31) (hp : pc + 1 = pc2) (kk : pb_S Z y d k n post pc2 lv (.int (f j) :: st) h) : pb_S Z y d k n post pc lv (.int (nI j) :: .ref a :: st) h := by
  subst hp
  intro p e s m args below meth c R mc ms ρ0 h0 hF hR cells slots ρ H locs ls hD
  obtain ⟨cell, c1, c2, c3, c4, c5, c6, -⟩ := (hD.2.2.2.1.1 a _ ha).1
  have hcl : (nI j).toNatClampNeg = j := nI_clamp (by omega)
  have hA := pb_isA (pb_pkA hF.2.2.2.2.2.2.1 hkd.1) c2 c3
  rw [hkd.2] at hA
  exact W.iald (v := .int (f j)) hF.1 hF.2.1 c1 hA c4 (fun q => nI_in hj hN (q.elim Or.inl (fun q => Or.inr (Nat.le_trans c5.1 q)))) (by rw [hcl]; exact c6 j hj) rfl rfl hd
    (kk p e s m args below meth c R mc ms ρ0 h0 hF hR cells slots ρ H locs ls (hD.stk ⟨trivial, hD.oks.2.2⟩))
theorem pb_baload {N a j : Nat} {f : Nat → Int32} {pc2 : Nat} (hd : decode y.2.1 pc = .ok (.baload, 1)) (ha : h a = some (.inl (1, N, f))) (hj : j < N) (hN : N < 2 ^ 31) (hp : pc + 1 = pc2) (kk : pb_S Z y d k n post pc2 lv (.int (f j) :: st) h) : pb_S Z y d k n post pc lv (.int (nI j) :: .ref a :: st) h := by
  subst hp
  intro p e s m args below meth c R mc ms ρ0 h0 hF hR cells slots ρ H locs ls hD
  obtain ⟨cell, c1, c2, c3, c4, c5, c6, -⟩ := (hD.2.2.2.1.1 a _ ha).1
  have hcl : (nI j).toNatClampNeg = j := nI_clamp (by omega)
  have hA := pb_isA (pb_pkA hF.2.2.2.2.2.2.1 (kd := 1) (by omega)) c2 c3
  exact W.zald (v := .int (f j)) hF.1 hF.2.1 c1 hA c4 (fun q => nI_in hj hN (q.elim Or.inl (fun q => Or.inr (Nat.le_trans c5.1 q)))) (by rw [hcl]; exact c6 j hj) rfl rfl hd
    (kk p e s m args below meth c R mc ms ρ0 h0 hF hR cells slots ρ H locs ls (hD.stk ⟨trivial, hD.oks.2.2⟩))
theorem pb_alen {kd N a : Nat} {f : Nat → Int32} {pc2 : Nat} (hd : decode y.2.1 pc = .ok (.arraylength, 1)) (hkd : kd < 4) (ha : h a = some (.inl (kd, N, f))) (hp : pc + 1 = pc2) (kk : pb_S Z y d k n post pc2 lv (.int (nI N) :: st) h) : pb_S Z y d k n post pc lv (.ref a :: st) h := by
  subst hp
  intro p e s m args below meth c R mc ms ρ0 h0 hF hR cells slots ρ H locs ls hD
  obtain ⟨cell, c1, c2, c3, c4, c5, c6, -⟩ := (hD.2.2.2.1.1 a _ ha).1
  exact W.alen hF.1 hF.2.1 c1 (pb_isA (pb_pkA hF.2.2.2.2.2.2.1 hkd) c2 c3) c5.2 rfl rfl hd
    (kk p e s m args below meth c R mc ms ρ0 h0 hF hR cells slots ρ H locs ls (hD.stk ⟨trivial, hD.oks.2⟩))
def pb_u (f : Nat → Int32) (j : Nat) (x : Int32) : Nat → Int32 := fun i => if i = j then x else f i
theorem pb_arrU (cA : ClassId) (N : Nat) (f : Nat → Int32) (j : Nat) (x : Int32) : (arrV cA N (fun i => .int (f i))).setSlot j (.int x) = arrV cA N (fun i => .int (pb_u f j x i)) := by
  rw [arrV_store]
  refine congrArg (arrV cA N) (funext fun i => ?_)
  by_cases e : i = j
  · subst e; simp [updV, pb_u]
  · simp [updV, pb_u, e]
theorem pb_cellA {Z : pb_Z} {ρ : Nat → Nat} {kd N q : Nat} {f : Nat → Int32} {H : Heap} (hH : H[q]? = some (arrV (pb_zp Z kd) N (fun j => .int (f j)))) : pb_cell Z ρ (.inl (kd, N, f)) q H := ⟨_, hH, rfl, (fun z hz => by cases hz), (fun hz => by cases hz), ⟨by rw [arrV_size]; exact Nat.le_refl _, by rw [arrV_size]; rfl⟩, fun j hj => arrV_read _ _ hj, fun _ => rfl⟩
theorem pb_iastore {N a j : Nat} {f : Nat → Int32} {x : Int32} {pc2 : Nat} (hd : decode y.2.1 pc = .ok (.iastore, 1)) (ha : h a = some (.inl (0, N, f))) (h2 : 2 ≤ a) (hj : j < N) (hN : N < 2 ^ 31) (hp : pc + 1 = pc2) (kk : pb_S Z y d k n post pc2 lv st (pb_set h a (.inl (0, N, pb_u f j x)))) : pb_S Z y d k n post pc lv (.int x :: .int (nI j) :: .ref a :: st) h := by
  subst hp
  intro p e s m args below meth c R mc ms ρ0 h0 hF hR cells slots ρ H locs ls hD
  obtain ⟨cell, c1, c2, c3, c4, c5, c6, c7⟩ := (hD.2.2.2.1.1 a _ ha).1
  have hcl : (nI j).toNatClampNeg = j := nI_clamp (by omega)
  refine W.iast hF.1 hF.2.1 c1 (pb_isA (pb_pkA hF.2.2.2.2.2.2.1 (kd := 0) (by omega)) c2 c3) c4 (fun q => nI_in hj hN (q.elim Or.inl (fun q => Or.inr (Nat.le_trans c5.1 q)))) rfl rfl hd (fun H' e1 e2 e3 => ?_)
  rw [hcl, c7 (by omega), pb_arrU] at e1
  exact kk p e s m args below meth c R mc ms ρ0 h0 hF hR cells slots ρ H' _ ls (hD.wr hD.oks.2.2.2 ha h2 (pb_cellA e1) trivial e2 e3)
theorem pb_bastore {N a j : Nat} {f : Nat → Int32} {x : Int32} {pc2 : Nat} (hd : decode y.2.1 pc = .ok (.bastore, 1)) (ha : h a = some (.inl (1, N, f))) (h2 : 2 ≤ a) (hx : x = 0 ∨ x = 1) (hj : j < N) (hN : N < 2 ^ 31) (hp : pc + 1 = pc2) (kk : pb_S Z y d k n post pc2 lv st (pb_set h a (.inl (1, N, pb_u f j x)))) : pb_S Z y d k n post pc lv (.int x :: .int (nI j) :: .ref a :: st) h := by
  subst hp
  intro p e s m args below meth c R mc ms ρ0 h0 hF hR cells slots ρ H locs ls hD
  obtain ⟨cell, c1, c2, c3, c4, c5, c6, c7⟩ := (hD.2.2.2.1.1 a _ ha).1
  have hcl : (nI j).toNatClampNeg = j := nI_clamp (by omega)
  have hnx : narrow .boolean (.int x) = .int x := by rcases hx with rfl | rfl <;> rfl
  refine W.zast hF.1 hF.2.1 c1 (pb_isA (pb_pkA hF.2.2.2.2.2.2.1 (kd := 1) (by omega)) c2 c3) c4 (fun q => nI_in hj hN (q.elim Or.inl (fun q => Or.inr (Nat.le_trans c5.1 q)))) rfl rfl hd (fun H' e1 e2 e3 => ?_)
  rw [hcl, c7 (by omega), hnx, pb_arrU] at e1
  exact kk p e s m args below meth c R mc ms ρ0 h0 hF hR cells slots ρ H' _ ls (hD.wr hD.oks.2.2.2 ha h2 (pb_cellA e1) trivial e2 e3)
def pb_rk : Nat → FieldType
  | 0 => .object "PaintBox$Tube"
  | 1 => .object "PaintBox$Mixture"
  | 2 => .object "PaintBox$Area"
  | 3 => .object "PaintBox$Layer"
  | _ => .array .int
theorem pb_rkA {s : State} (hK : pb_K Z s) {kd : Nat} (hkd : kd < 5) : ArrOfT s (pb_zr Z kd) (pb_rk kd) := by
  rcases (show kd = 0 ∨ kd = 1 ∨ kd = 2 ∨ kd = 3 ∨ kd = 4 by omega) with rfl | rfl | rfl | rfl | rfl
  · exact (hK.1.1.2 2 _ rfl).1
  · exact (hK.1.1.2 3 _ rfl).1
  · exact (hK.1.1.2 4 _ rfl).1
  · exact (hK.1.1.2 5 _ rfl).1
  · exact (hK.1.1.2 6 _ rfl).1
theorem pb_rfu (ρ : Nat → Nat) (o : Option Nat) : va_rf (o.map ρ) = pb_up ρ (va_rf o) := by cases o <;> rfl
theorem pb_aaload {kd N a j : Nat} {f : Nat → Option Nat} {v : Value} {pc2 : Nat} (hd : decode y.2.1 pc = .ok (.aaload, 1)) (hkd : kd < 5) (ha : h a = some (.inr (.inl (kd, N, f)))) (hj : j < N) (hN : N < 2 ^ 31) (hv : va_rf (f j) = v) (hp : pc + 1 = pc2) (kk : pb_S Z y d k n post pc2 lv (v :: st) h) : pb_S Z y d k n post pc lv (.int (nI j) :: .ref a :: st) h := by
  subst hp
  intro p e s m args below meth c R mc ms ρ0 h0 hF hR cells slots ρ H locs ls hD
  have hcell := hD.2.2.2.1.1 a _ ha
  have hcl : (nI j).toNatClampNeg = j := nI_clamp (by omega)
  refine W.aald (v := pb_up ρ v) (ty := pb_rk kd) hF.1 hF.2.1 hcell.1 (pb_rkA hF.2.2.2.2.2.2.1 hkd N _) ?_ (fun q => by cases q) (by rw [arrV_size]; exact nI_in hj hN) (by rw [hcl, arrV_read _ _ hj, pb_rfu, hv]) rfl rfl hd
    (kk p e s m args below meth c R mc ms ρ0 h0 hF hR cells slots ρ H locs ls (hD.stk ⟨?_, hD.oks.2.2⟩))
  · rcases (show kd = 0 ∨ kd = 1 ∨ kd = 2 ∨ kd = 3 ∨ kd = 4 by omega) with rfl | rfl | rfl | rfl | rfl <;> rfl
  · rw [← hv]
    cases hf : f j with
    | none => exact trivial
    | some b => exact hcell.2 j b hf
/-- an object into a row of its class -/
theorem pb_aastore {kd ci N a b j : Nat} {f : Nat → Option Nat} {fs : List Value} {C : String} {T : u_T} {M : Nat} {pc2 : Nat} (hd : decode y.2.1 pc = .ok (.aastore, 1)) (hkd : kd < 4) (hC : vwCl[ci]? = some (C, T, M)) (hCk : pb_rk kd = .object C) (ha : h a = some (.inr (.inl (kd, N, f)))) (h2 : 2 ≤ a) (hb : h b = some (.inr (.inr (ci, fs)))) (hj : j < N) (hN : N < 2 ^ 31) (hp : pc + 1 = pc2) (kk : pb_S Z y d k n post pc2 lv st (pb_set h a (.inr (.inl (kd, N, fun i => if i = j then some b else f i))))) : pb_S Z y d k n post pc lv (.ref b :: .int (nI j) :: .ref a :: st) h := by
  subst hp
  intro p e s m args below meth c R mc ms ρ0 h0 hF hR cells slots ρ H locs ls hD
  have hcell := hD.2.2.2.1.1 a _ ha
  have hcl : (nI j).toNatClampNeg = j := nI_clamp (by omega)
  have hK := hF.2.2.2.2.2.2.1.1.1
  obtain ⟨r', hr', hlen', cellV, g1, g2, g3, -⟩ := (hD.2.2.2.1.1 b _ hb).1
  have hcls := (hK.1 ci _ hC).2
  have hRA : va_RA s (pb_zr Z kd) (.object C) := by
    rcases (show kd = 0 ∨ kd = 1 ∨ kd = 2 ∨ kd = 3 by omega) with rfl | rfl | rfl | rfl
    · have := (hK.2 2 _ rfl).2; cases hCk; exact this
    · have := (hK.2 3 _ rfl).2; cases hCk; exact this
    · have := (hK.2 4 _ rfl).2; cases hCk; exact this
    · have := (hK.2 5 _ rfl).2; cases hCk; exact this
  obtain ⟨kA, comp, k1, k2, k3, -⟩ := hRA
  have hcomp : comp = (pb_zD Z).1 ci := Option.some.inj (k3.symm.trans hcls.1)
  subst hcomp
  obtain ⟨kC, hkC, -⟩ := id hcls.2
  refine W.aast hF.1 hF.2.1 hcell.1 (fun q h => by cases h) (fun h => by cases h) k1 k2 rfl hkC ⟨nI_pos (by omega), by rw [hcl, arrV_size]; exact hj⟩ g1 (fun q h => by rw [g3] at h; cases h) (by rw [g2]; exact hkC) (by rw [g2]; exact va_assign hcls) rfl rfl hd fun H' e1 e2 e3 => ?_
  refine kk p e s m args below meth c R mc ms ρ0 h0 hF hR cells slots ρ H' _ ls (hD.wr hD.oks.2.2.2 ha h2 ?_ ?_ e2 e3)
  · show H'[ρ a]? = _
    rw [e1, hcl, arrV_store]
    refine congrArg some (congrArg (arrV _ N) (funext fun i => ?_))
    by_cases e : i = j
    · subst e; simp [updV, va_rf]
    · simp [updV, e]
  · intro i q hq
    by_cases e : i = j
    · simp only [e, if_true] at hq
      cases hq
      rw [hb]; exact fun z => by cases z
    · simp only [e, if_false] at hq
      exact hcell.2 i q hq
-- making
/-- behind a making -/
theorem pb_Dy.mk {k n k2 n2 mc ms : Nat} {ρ0 : Nat → Nat} {h0 : pb_H} {st' : List Value} {cells slots cells2 slots2 : Nat} {ρ : Nat → Nat} {H H' : Heap} {locs : List Loc} {ls : Array Slot} {a : Nat} {c : pb_C} (hD : pb_Dy Z y k n mc ms ρ0 h0 lv st h cells slots ρ H locs ls) (hs : pb_oks h st') (ha : h a = none) (h2 : 2 ≤ a) (hk : cells2 + k2 ≤ cells + k) (hn : slots2 + n2 ≤ slots + n) (hc : pb_cell Z (pb_re ρ a H.size) c H.size H') (hrf : pb_refs h c) (hz : H.size ≤ H'.size) (ho : ∀ q : Nat, q < H.size → H'[q]? = H[q]?) : pb_Dy Z y k2 n2 mc ms ρ0 h0 lv (.ref a :: st') (pb_set h a c) cells2 slots2 (pb_re ρ a H.size) H' locs ls := by
  have he : ∀ b, h b ≠ none → pb_re ρ a H.size b = ρ b := fun b hb => if_neg (fun e => hb (by rw [e]; exact ha))
  exact ⟨by have := hD.1; omega, by have := hD.2.1; omega, hD.2.2.1.ext hD.2.2.2.2.2.2.1 he, hD.2.2.2.1.new ha h2 hc hrf hz ho, hD.2.2.2.2.1.new c _ ha, ⟨(by show pb_set h a c a ≠ none; rw [pb_set_self]; exact (fun q => by cases q)), pb_oks_mono (fun _ => pb_set_dom) hs⟩, fun j v hj => pb_ok_mono (fun _ => pb_set_dom) (hD.2.2.2.2.2.2.1 j v hj), hD.2.2.2.2.2.2.2⟩
theorem pb_st_re {h : pb_H} {ρ : Nat → Nat} {a q : Nat} {st : List Value} (ha : h a = none) (hs : pb_oks h st) : st.map (pb_up (pb_re ρ a q)) = st.map (pb_up ρ) := pb_ups_ext (fun b hb => if_neg (fun e => hb (by rw [e]; exact ha))) hs
theorem pb_new (a : Nat) {own : String} {idx ci N : Nat} {C : String} {T : u_T} {ty : Nat → FieldType} {fs : List Value} {k2 n2 pc2 : Nat} (hl : pb_cl ci C T N ty) (hw : y.1.cls = own) (hcl : Cond.classLink own idx C ∈ pb_tbl) (hin : Cond.instantiable C N ∈ pb_tbl) (hini : Cond.initialized C ∈ pb_tbl) (hd : decode y.2.1 pc = .ok (.new idx, 3)) (ha : h a = none) (h2 : 2 ≤ a) (hfs : (List.range N).map (fun j => defaultValue (ty j)) = fs) (hu : fs.all (fun v => match v with | .ref _ => false | _ => true) = true) (hk : k2 + 1 ≤ k) (hn : n2 + N ≤ n) (hp : pc + 3 = pc2) (kk : pb_S Z y d k2 n2 post pc2 lv (.ref a :: st) (pb_set h a (.inr (.inr (ci, fs))))) : pb_S Z y d k n post pc lv st h := by
  subst hp hw
  intro p e s m args below meth c R mc ms ρ0 h0 hF hR cells slots ρ H locs ls hD
  obtain ⟨hc, hin0, hty, hnm⟩ := hl
  have hts := hF.2.2.2.2.2.1
  have hKn := hF.2.2.2.2.2.2.1.1.1.1 ci _ hc
  have hup : ∀ ρ' : Nat → Nat, fs.map (pb_up ρ') = fs := fun ρ' => by
    have : ∀ l : List Value, l.all (fun v => match v with | .ref _ => false | _ => true) = true → l.map (pb_up ρ') = l := by
      intro l
      induction l with
      | nil => intro _; rfl
      | cons v l ih =>
        intro hl
        simp only [List.all_cons, Bool.and_eq_true] at hl
        rw [List.map_cons, ih hl.2]
        cases v <;> first | rfl | (simp at hl)
    exact this fs hu
  have hok : pb_oks h fs := by
    have : ∀ l : List Value, l.all (fun v => match v with | .ref _ => false | _ => true) = true → pb_oks h l := by
      intro l
      induction l with
      | nil => intro _; trivial
      | cons v l ih =>
        intro hl
        simp only [List.all_cons, Bool.and_eq_true] at hl
        refine ⟨?_, ih hl.2⟩
        cases v <;> first | trivial | (simp at hl)
    exact this fs hu
  refine W.newcK hF.1 hF.2.1 hF.2.2.2.2.1 (hts _ hcl) (hts _ hin) (hts _ hini) rfl hd (by rw [hR.2.2.1]; have := hD.1; omega) (by rw [hR.2.2.2]; have := hD.2.1; omega) hKn.2.1 rfl fun H1 kC hkC e1 z1 o1 => ?_
  have hst := pb_st_re (ρ := ρ) (q := H.size) ha hD.oks
  have hre : pb_re ρ a H.size a = H.size := if_pos rfl
  have kw := kk p e s m args below meth c R mc ms ρ0 h0 hF hR (cells + 1) (slots + N) (pb_re ρ a H.size) H1 locs ls (hD.mk hD.oks ha h2 (by omega) (by omega) (by
    refine ⟨_, hc, ?_, ?_⟩
    · rw [← hfs, List.length_map, List.length_range]
    · rw [hup]
      refine (u_born ty hts hin0 hKn hkC e1 hty).to (fun j hj => ?_)
      rw [← hfs]
      unfold vp_V
      rw [List.getD_eq_getElem?_getD, List.getElem?_map, List.getElem?_range hj]
      rfl) hok (by omega) o1)
  rw [List.map_cons, hst] at kw
  have e9 : pb_up (pb_re ρ a H.size) (.ref a) = .ref H.size := congrArg Value.ref hre
  rw [e9] at kw
  exact kw
theorem pb_newa (a : Nat) {ar : ArrayType} {kd N : Nat} {k2 n2 pc2 : Nat} (hd : decode y.2.1 pc = .ok (.newarray ar, 2)) (hkd : kd < 2 ∧ newarray.typeOf ar = pb_pk kd) (hw : Cond.arrayClass (pb_pk kd) ∈ pb_tbl) (ha : h a = none) (h2 : 2 ≤ a) (hN : N ≤ 100000) (hk : k2 + 1 ≤ k) (hn : n2 + N ≤ n) (hp : pc + 2 = pc2) (kk : pb_S Z y d k2 n2 post pc2 lv (.ref a :: st) (pb_set h a (.inl (kd, N, fun _ => 0)))) : pb_S Z y d k n post pc lv (.int (nI N) :: st) h := by
  subst hp
  intro p e s m args below meth c R mc ms ρ0 h0 hF hR cells slots ρ H locs ls hD
  have hts := hF.2.2.2.2.2.1
  have hcl : (nI N).toNatClampNeg = N := nI_clamp (by omega)
  have hK := hF.2.2.2.2.2.2.1.1.1
  have hfc : s.vm.findClass ("[" ++ (pb_pk kd).toString) = some (pb_zp Z kd) := by
    rcases (show kd = 0 ∨ kd = 1 by omega) with rfl | rfl
    · exact (hK.2 0 _ rfl).2
    · exact (hK.2 1 _ rfl).2
  have hcb : componentBytes (newarray.typeOf ar) ≤ 8 := by
    rw [hkd.2]
    rcases (show kd = 0 ∨ kd = 1 by omega) with rfl | rfl <;> decide
  have hdef : defaultValue (newarray.typeOf ar) = .int 0 := by
    rw [hkd.2]
    rcases (show kd = 0 ∨ kd = 1 by omega) with rfl | rfl <;> rfl
  refine W.newa hF.1 hF.2.1 (by rw [hkd.2]; exact hts _ hw) rfl hd rfl (nI_pos (by omega)) (by
    rw [hcl]
    have := Nat.mul_le_mul hN hcb
    omega) (by rw [hR.2.2.1]; have := hD.1; omega) (by rw [hR.2.2.2, hcl]; have := hD.2.1; omega) (fun cA kA comp f1 f2 f3 => ?_)
  rw [hkd.2, hfc] at f1
  cases f1
  rw [hcl, hdef]
  generalize hH1 : H.push ({ cls := pb_zp Z kd, slots := Array.replicate N (.int 0), vm := .none } : Cell) = H1
  have z1 : H1.size = H.size + 1 := by rw [← hH1, Array.size_push]
  have e1 : H1[H.size]? = some (arrV (pb_zp Z kd) N (fun _ => .int 0)) := by rw [← hH1, Array.getElem?_push_size, ← arrV_new]
  have o1 : ∀ q : Nat, q < H.size → H1[q]? = H[q]? := fun q hq => by rw [← hH1, Array.getElem?_push, if_neg (Nat.ne_of_lt hq)]
  have hst := pb_st_re (ρ := ρ) (q := H.size) ha hD.oks.2
  have hre : pb_re ρ a H.size a = H.size := if_pos rfl
  have kw := kk p e s m args below meth c R mc ms ρ0 h0 hF hR (cells + 1) (slots + N) (pb_re ρ a H.size) H1 locs ls (hD.mk hD.oks.2 ha h2 (by omega) (by omega) (pb_cellA e1) trivial (by omega) o1)
  rw [List.map_cons, hst] at kw
  have e9 : pb_up (pb_re ρ a H.size) (.ref a) = .ref H.size := congrArg Value.ref hre
  rw [e9] at kw
  exact kw
theorem pb_anewa (a : Nat) {own : String} {idx kd N : Nat} {C : String} {k2 n2 pc2 : Nat} (hd : decode y.2.1 pc = .ok (.anewarray idx, 3)) (hw : y.1.cls = own) (hkd : kd < 4) (hCk : pb_rk kd = .object C) (hcl : Cond.classLink own idx C ∈ pb_tbl) (ha : h a = none) (h2 : 2 ≤ a) (hN : N ≤ 100000) (hk : k2 + 1 ≤ k) (hn : n2 + N ≤ n) (hp : pc + 3 = pc2) (kk : pb_S Z y d k2 n2 post pc2 lv (.ref a :: st) (pb_set h a (.inr (.inl (kd, N, fun _ => none))))) : pb_S Z y d k n post pc lv (.int (nI N) :: st) h := by
  subst hp hw
  intro p e s m args below meth c R mc ms ρ0 h0 hF hR cells slots ρ H locs ls hD
  have hts := hF.2.2.2.2.2.1
  have hcN : (nI N).toNatClampNeg = N := nI_clamp (by omega)
  have hK := hF.2.2.2.2.2.2.1.1.1
  have hfc : s.vm.findClass ("[" ++ (FieldType.object C).toString) = some (pb_zr Z kd) := by
    rcases (show kd = 0 ∨ kd = 1 ∨ kd = 2 ∨ kd = 3 by omega) with rfl | rfl | rfl | rfl
    · obtain ⟨_, _, _, _, _, h9⟩ := (hK.2 2 _ rfl).2; cases hCk; exact h9
    · obtain ⟨_, _, _, _, _, h9⟩ := (hK.2 3 _ rfl).2; cases hCk; exact h9
    · obtain ⟨_, _, _, _, _, h9⟩ := (hK.2 4 _ rfl).2; cases hCk; exact h9
    · obtain ⟨_, _, _, _, _, h9⟩ := (hK.2 5 _ rfl).2; cases hCk; exact h9
  have hov : va_AO C s := by
    have hq := hF.2.2.2.2.2.2.1.1.2.2.2.2
    rcases (show kd = 0 ∨ kd = 1 ∨ kd = 2 ∨ kd = 3 by omega) with rfl | rfl | rfl | rfl
    · cases hCk; exact hq.1
    · cases hCk; exact hq.2.1
    · cases hCk; exact hq.2.2.1
    · cases hCk; exact hq.2.2.2.1
  refine W.anew hF.1 hF.2.1 hF.2.2.2.2.1 (hts _ hcl) (va_AO.use hov) rfl hd rfl (nI_pos (by omega)) (by rw [hcN]; omega) (by rw [hR.2.2.1]; have := hD.1; omega) (by rw [hR.2.2.2, hcN]; have := hD.2.1; omega) (fun cA kA comp f1 f2 f3 f4 => ?_)
  rw [hfc] at f1
  cases f1
  rw [hcN]
  generalize hH1 : H.push ({ cls := pb_zr Z kd, slots := Array.replicate N .null, vm := .none } : Cell) = H1
  have z1 : H1.size = H.size + 1 := by rw [← hH1, Array.size_push]
  have e1 : H1[H.size]? = some (arrV (pb_zr Z kd) N (fun _ => .null)) := by rw [← hH1, Array.getElem?_push_size, ← arrV_new]
  have o1 : ∀ q : Nat, q < H.size → H1[q]? = H[q]? := fun q hq => by rw [← hH1, Array.getElem?_push, if_neg (Nat.ne_of_lt hq)]
  have hst := pb_st_re (ρ := ρ) (q := H.size) ha hD.oks.2
  have hre : pb_re ρ a H.size a = H.size := if_pos rfl
  have kw := kk p e s m args below meth c R mc ms ρ0 h0 hF hR (cells + 1) (slots + N) (pb_re ρ a H.size) H1 locs ls (hD.mk hD.oks.2 ha h2 (by omega) (by omega) e1 (fun j b hj => by cases hj) (by omega) o1)
  rw [List.map_cons, hst] at kw
  have e9 : pb_up (pb_re ρ a H.size) (.ref a) = .ref H.size := congrArg Value.ref hre
  rw [e9] at kw
  exact kw
end PBH
