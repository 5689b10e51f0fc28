/-! A SMALL MACHINE OVER THE KIT's: values with addresses that the prover chooses ('virtual'), a heap as a function, a judgement pb_S with one row an instruction. -/
abbrev pb_M : Type := MethodName × ByteArray × Nat × Option FieldType
abbrev pb_C : Type := (Nat × Nat × (Nat → Int32)) ⊕ (Nat × Nat × (Nat → Option Nat)) ⊕ (Nat × List Value)
abbrev pb_H : Type := Nat → Option pb_C
/-- launch, first new address, class numbers, primitive array classes, reference array classes, first heap, the address of the one static row -/
abbrev pb_Z : Type := Launch × Nat × va_G × (Nat → ClassId) × (Nat → ClassId) × Heap × Nat
abbrev pb_zl (Z : pb_Z) : Launch := Z.1
abbrev pb_zb (Z : pb_Z) : Nat := Z.2.1
abbrev pb_zD (Z : pb_Z) : va_G := Z.2.2.1
abbrev pb_zp (Z : pb_Z) : Nat → ClassId := Z.2.2.2.1
abbrev pb_zr (Z : pb_Z) : Nat → ClassId := Z.2.2.2.2.1
abbrev pb_zh (Z : pb_Z) : Heap := Z.2.2.2.2.2.1
abbrev pb_zt (Z : pb_Z) : Nat := Z.2.2.2.2.2.2
def pb_up (ρ : Nat → Nat) : Value → Value
  | .ref a => .ref (ρ a)
  | v => v
def pb_ok (h : pb_H) : Value → Prop
  | .ref a => h a ≠ none
  | _ => True
def pb_oks (h : pb_H) : List Value → Prop
  | [] => True
  | v :: st => pb_ok h v ∧ pb_oks h st
def pb_set (h : pb_H) (a : Nat) (c : pb_C) : pb_H := fun b => if b = a then some c else h b
def pb_pk : Nat → FieldType
  | 1 => .boolean
  | _ => .int
def pb_cell (Z : pb_Z) (ρ : Nat → Nat) (c : pb_C) (q : Nat) (H : Heap) : Prop := match c with
  | .inl (k, n, f) => ∃ cell : Cell, H[q]? = some cell ∧ cell.cls = pb_zp Z k ∧ (∀ z, cell.vm ≠ .statics z) ∧ cell.vm ≠ .unknown ∧ (n ≤ cell.slots.size ∧ cell.slots.size.toInt32 = nI n) ∧ (∀ j, j < n → cell.slots[j]? = some (.int (f j))) ∧ (k < 2 → cell = arrV (pb_zp Z k) n (fun j => .int (f j)))
  | .inr (.inl (k, n, f)) => H[q]? = some (arrV (pb_zr Z k) n (fun j => va_rf ((f j).map ρ)))
  | .inr (.inr (ci, fs)) => ∃ r : vw_C, vwCl[ci]? = some r ∧ fs.length = r.2.2 ∧ t_OB q ((pb_zD Z).1 ci) r.2.2 ((pb_zD Z).2 ci) H (vp_V (fs.map (pb_up ρ)))
def pb_refs (h : pb_H) (c : pb_C) : Prop := match c with
  | .inl _ => True
  | .inr (.inl (_, _, f)) => ∀ j a, f j = some a → h a ≠ none
  | .inr (.inr (_, fs)) => pb_oks h fs
def pb_Rl (Z : pb_Z) (ρ : Nat → Nat) (h : pb_H) (H : Heap) : Prop :=
  (∀ a c, h a = some c → pb_cell Z ρ c (ρ a) H ∧ pb_refs h c) ∧ (∀ a b, h a ≠ none → h b ≠ none → ρ a = ρ b → a = b) ∧ (∀ a, 2 ≤ a → h a ≠ none → pb_zb Z ≤ ρ a) ∧
  pb_zb Z ≤ H.size ∧ (∀ q, q < pb_zb Z → H[q]? = (pb_zh Z)[q]?) ∧ ρ 1 = pb_zt Z ∧ h 1 ≠ none
def pb_Ex (h0 : pb_H) (ρ0 : Nat → Nat) (h : pb_H) (ρ : Nat → Nat) : Prop := ∀ a, h0 a ≠ none → h a ≠ none ∧ ρ a = ρ0 a
def pb_ts (Z : pb_Z) : List (ClassId × FieldType) := [(pb_zp Z 0, .int), (pb_zp Z 1, .boolean), (pb_zr Z 0, .object "PaintBox$Tube"), (pb_zr Z 1, .object "PaintBox$Mixture"), (pb_zr Z 2, .object "PaintBox$Area"), (pb_zr Z 3, .object "PaintBox$Layer"), (pb_zr Z 4, .array .int)]
/-- words that no list of steady words carries -/
def pb_isN : Cond → Bool
  | .methodLinkNest .. => true
  | .fieldLinkNest .. => true
  | .declares _ => true
  | _ => false
def pb_nw : List Cond := lw_tbl.filter pb_isN
theorem pb_isN_on {w : Cond} (hw : pb_isN w = true) : w.onTables = true := by
  cases w <;> first | rfl | (simp [pb_isN] at hw; done)
theorem pb_isN_warm {w : Cond} (hw : pb_isN w = true) {s U : State} (hW : s.WarmedH U.vm) (h : va_Nw w s) : va_Nw w U := by
  cases w <;> first | (simp [pb_isN] at hw; done) | exact va_Nw.warmM hW h | exact va_Nw.warmF hW h | exact va_Nw.warmD hW h
def pb_AA (U : State) : Prop := (Cond.arrayOver (.array .int)).before #[] U = true
theorem pb_AA.moved {u U : State} (hvm : u.vm.Alike U.vm) (h : pb_AA u) : pb_AA U := by
  obtain ⟨comp, c, k, h1, h2, h3, h4, h5⟩ := arrayOverA_spec h
  obtain ⟨k', hk', he⟩ := hvm.2.2 _ _ h3
  have hi : (U.vm.classes.findIdx? fun (x : Class) => match x.kind with | .array component _ => component == comp | _ => false) = some c := by
    rw [hvm.findIdx?_eq _ (fun _ => rfl)]
    exact h2
  have hkind : k'.kind = .array comp (.array .int) := by rw [he]; exact h4
  have f1 : U.vm.findClass (FieldType.array .int).toString = some comp := by rw [hvm.findClass]; exact h1
  have f2 : U.vm.findClass ("[" ++ (FieldType.array .int).toString) = some c := by rw [hvm.findClass]; exact h5
  unfold pb_AA Cond.before Cond.holds
  simp only [Cond.value]
  rw [f1, Option.bind_some]
  refine (congrArg (fun o : Option Nat => (o.bind (fun c => (U.vm.classes[c]?).map fun (k : Class) => match k.kind with | .array _ ty => decide (ty = FieldType.array .int) && decide (U.vm.findClass ("[" ++ (FieldType.array .int).toString) = some c) | _ => false) == some true)) hi).trans ?_
  simp [hk', hkind, f2]
def pb_AO (U : State) : Prop := va_AO "PaintBox$Tube" U ∧ va_AO "PaintBox$Mixture" U ∧ va_AO "PaintBox$Area" U ∧ va_AO "PaintBox$Layer" U ∧ pb_AA U
theorem pb_AO.moved {u U : State} (hvm : u.vm.Alike U.vm) (h : pb_AO u) : pb_AO U := ⟨h.1.moved hvm, h.2.1.moved hvm, h.2.2.1.moved hvm, h.2.2.2.1.moved hvm, h.2.2.2.2.moved hvm⟩
def pb_K0 (Z : pb_Z) (U : State) : Prop := va_K (pb_zD Z) vwCl (pb_ts Z) U ∧ ArrOfT U (pb_zp Z 2) .int ∧ ArrOfT U (pb_zp Z 3) .int ∧ va_Z "PaintBoxModel" "THICKNESS" "[I" (.ref (pb_zt Z)) (fun q => pb_zb Z ≤ q) U (pb_zh Z) ∧ pb_AO U
theorem pb_K0.moved {Z : pb_Z} {u U : State} (hvm : u.vm.Alike U.vm) (h : pb_K0 Z u) : pb_K0 Z U := ⟨h.1.moved hvm, arrOfT_moved hvm h.2.1, arrOfT_moved hvm h.2.2.1, h.2.2.2.1.moved hvm, h.2.2.2.2.moved hvm⟩
def pb_K (Z : pb_Z) (U : State) : Prop := pb_K0 Z U ∧ ∀ w ∈ pb_nw, va_Nw w U
theorem pb_K.warm {Z : pb_Z} {s U : State} (hW : s.WarmedH U.vm) (h : pb_K Z s) : pb_K Z U := ⟨h.1.moved hW.alike, fun w hw => pb_isN_warm (List.mem_filter.mp hw).2 hW (h.2 w hw)⟩
theorem pb_K.same {Z : pb_Z} {u U : State} (hv : u.vm = U.vm) (h : pb_K Z u) : pb_K Z U := ⟨h.1.moved (by rw [hv]; exact Vm.Alike.refl _), fun w hw => va_Nw.same (pb_isN_on (List.mem_filter.mp hw).2) hv (h.2 w hw)⟩
/-- the words of the private methods of the abstract class, on the two that are made -/
def pb_xw : List Cond := [.selects RX5 yX9_addMember yX9_addMember, .selects RX5 yX9_spread yX9_spread, .selects RX5 yX9_sumUp yX9_sumUp, .selects RX1 yX9_addMember yX9_addMember, .selects RX1 yX9_spread yX9_spread, .selects RX1 yX9_sumUp yX9_sumUp]
def pb_tbl : List Cond := pb_xw ++ lw_tbl.filter goodWord
def pb_ws (y : pb_M) : List Cond := Cond.code y.1 y.2.1 y.2.2.1 y.2.2.2 :: pb_tbl
/-- the locals: what is known of them -/
def pb_lv (ρ : Nat → Nat) (ls : Array Slot) (n : Nat) (lv : List (Option Value)) : Prop := ls.size = n ∧ lv_wf ls ∧ ∀ (i : Nat) (v : Value), lv[i]? = some (some v) → ls[i]? = some (.val (pb_up ρ v))
def pb_Fx (Z : pb_Z) (y : pb_M) (p : Program) (s : State) (m : MethodId) (args : Array Value) (meth : Method) (c : Code) : Prop :=
  p.tables.exec = Jvm.exec ∧ c.code = y.2.1 ∧ meth.sig.returnType = y.2.2.2 ∧ c.maxLocals = y.2.2.1 ∧ s.vm.findClass y.1.cls = some m.cls ∧ (∀ w ∈ pb_tbl, w.before args s = true) ∧ pb_K Z s ∧ meth.locks = false ∧ meth.name = y.1.name
def pb_Rm (d mc ms : Nat) (R : Room) : Prop := d ≤ R.frames ∧ 40 * d ≤ R.locals ∧ R.cells = mc ∧ R.slots = ms
def pb_Dy (Z : pb_Z) (y : pb_M) (k n mc ms : Nat) (ρ0 : Nat → Nat) (h0 : pb_H) (lv : List (Option Value)) (st : List Value) (h : pb_H) (cells slots : Nat) (ρ : Nat → Nat) (H : Heap) (locs : List Loc) (ls : Array Slot) : Prop :=
  cells + k ≤ mc ∧ slots + n ≤ ms ∧ pb_lv ρ ls y.2.2.1 lv ∧ pb_Rl Z ρ h H ∧ pb_Ex h0 ρ0 h ρ ∧ pb_oks h st ∧ (∀ (i : Nat) (v : Value), lv[i]? = some (some v) → pb_ok h v) ∧ (∀ q ∈ locs, pb_zb Z ≤ q.base)
def pb_P (Z : pb_Z) (ρ0 : Nat → Nat) (h0 : pb_H) (av : List Value) : Array Value → State → Prop := fun a U => a = (av.map (pb_up ρ0)).toArray ∧ pb_Rl Z ρ0 h0 U.heap ∧ pb_oks h0 av ∧ pb_K Z U
def pb_Q (Z : pb_Z) (ρ0 : Nat → Nat) (h0 : pb_H) (post : Option Value → pb_H → Prop) : Array Value → State → Outcome → State → Prop := fun _ _ o t => ∃ (v : Option Value) (ρ : Nat → Nat) (h : pb_H), o = .returned (v.map (pb_up ρ)) ∧ pb_Rl Z ρ h t.heap ∧ pb_Ex h0 ρ0 h ρ ∧ pb_oks h v.toList ∧ post v h
/-- THE JUDGEMENT: method y, at pc, with these locals, this operand stack, this heap; at most d frames, k cells, n slots more; it returns, and 'post' holds of what it answers and of the heap then -/
def pb_S (Z : pb_Z) (y : pb_M) (d k n : Nat) (post : Option Value → pb_H → Prop) (pc : Nat) (lv : List (Option Value)) (st : List Value) (h : pb_H) : Prop :=
  ∀ (p : Program) (e : Env) (s : State) (m : MethodId) (args : Array Value) (below : List Frame) (meth : Method) (c : Code) (R : Room) (mc ms : Nat) (ρ0 : Nat → Nat) (h0 : pb_H), pb_Fx Z y p s m args meth c → pb_Rm d mc ms R →
    ∀ (cells slots : Nat) (ρ : Nat → Nat) (H : Heap) (locs : List Loc) (ls : Array Slot), pb_Dy Z y k n mc ms ρ0 h0 lv st h cells slots ρ H locs ls →
      W p (pb_zl Z) e R s m args below meth c H locs cells slots (MQ below (pb_Q Z ρ0 h0 post) args s mc ms (fun q => pb_zb Z ≤ q)) (F0 m pc ls (st.map (pb_up ρ)))
/-- A METHOD's CONTRACT -/
def pb_T (Z : pb_Z) (y : pb_M) (d k n : Nat) (av : List Value) (h0 : pb_H) (post : Option Value → pb_H → Prop) : Prop :=
  ∀ ρ0 : Nat → Nat, Met (pb_zl Z) y.1 (pb_ws y) { frames := d, cells := k, slots := n, locals := 40 * d } (pb_P Z ρ0 h0 av) (pb_Q Z ρ0 h0 post) k n (fun q => pb_zb Z ≤ q)
-- facts about heaps
theorem pb_set_self (h : pb_H) (a : Nat) (c : pb_C) : pb_set h a c a = some c := if_pos rfl
theorem pb_set_ne (h : pb_H) {a b : Nat} (c : pb_C) (hb : b ≠ a) : pb_set h a c b = h b := if_neg hb
theorem pb_set_dom {h : pb_H} {a : Nat} {c : pb_C} {b : Nat} (hb : h b ≠ none) : pb_set h a c b ≠ none := by
  unfold pb_set
  split
  · exact fun q => by cases q
  · exact hb
theorem pb_ok_mono {h h' : pb_H} (hd : ∀ b, h b ≠ none → h' b ≠ none) {v : Value} (hv : pb_ok h v) : pb_ok h' v := by
  cases v <;> first | exact trivial | exact hd _ hv
theorem pb_oks_mono {h h' : pb_H} (hd : ∀ b, h b ≠ none → h' b ≠ none) : ∀ {st : List Value}, pb_oks h st → pb_oks h' st
  | [], _ => trivial
  | _ :: _, hs => ⟨pb_ok_mono hd hs.1, pb_oks_mono hd hs.2⟩
theorem pb_refs_mono {h h' : pb_H} (hd : ∀ b, h b ≠ none → h' b ≠ none) {c : pb_C} (hc : pb_refs h c) : pb_refs h' c := by
  rcases c with c | c | c
  · exact trivial
  · exact fun j a hj => hd a (hc j a hj)
  · exact pb_oks_mono hd hc
theorem pb_up_ext {h : pb_H} {ρ ρ' : Nat → Nat} (he : ∀ b, h b ≠ none → ρ' b = ρ b) {v : Value} (hv : pb_ok h v) : pb_up ρ' v = pb_up ρ v := by
  cases v <;> first | rfl | exact congrArg Value.ref (he _ hv)
theorem pb_ups_ext {h : pb_H} {ρ ρ' : Nat → Nat} (he : ∀ b, h b ≠ none → ρ' b = ρ b) : ∀ {st : List Value}, pb_oks h st → st.map (pb_up ρ') = st.map (pb_up ρ)
  | [], _ => rfl
  | v :: st, hs => by rw [List.map_cons, List.map_cons, pb_up_ext he hs.1, pb_ups_ext he hs.2]
theorem pb_oks_app {h : pb_H} : ∀ {a b : List Value}, pb_oks h (a ++ b) → pb_oks h a ∧ pb_oks h b
  | [], _, hs => ⟨trivial, hs⟩
  | _ :: _, _, hs => ⟨⟨hs.1, (pb_oks_app hs.2).1⟩, (pb_oks_app hs.2).2⟩
theorem pb_oks_cat {h : pb_H} : ∀ {a b : List Value}, pb_oks h a → pb_oks h b → pb_oks h (a ++ b)
  | [], _, _, hb => hb
  | _ :: _, _, ha, hb => ⟨ha.1, pb_oks_cat ha.2 hb⟩
theorem pb_oks_mem {h : pb_H} : ∀ {a : List Value}, pb_oks h a → ∀ v ∈ a, pb_ok h v
  | [], _, v, hv => by cases hv
  | w :: a, hs, v, hv => (List.mem_cons.mp hv).elim (fun e => e ▸ hs.1) (fun q => pb_oks_mem hs.2 v q)
theorem pb_oks_of {h : pb_H} : ∀ {a : List Value}, (∀ v ∈ a, pb_ok h v) → pb_oks h a
  | [], _ => trivial
  | w :: _, hs => ⟨hs w List.mem_cons_self, pb_oks_of (fun v hv => hs v (List.mem_cons_of_mem _ hv))⟩
theorem pb_oks_rev {h : pb_H} {a : List Value} (hs : pb_oks h a.reverse) : pb_oks h a := pb_oks_of (fun v hv => pb_oks_mem hs v (List.mem_reverse.mpr hv))
theorem pb_cell_mono {Z : pb_Z} {ρ ρ' : Nat → Nat} {h : pb_H} {c : pb_C} {q : Nat} {H H' : Heap} (hc : pb_cell Z ρ c q H) (hr : pb_refs h c) (he : ∀ b, h b ≠ none → ρ' b = ρ b) (hq : H'[q]? = H[q]?) : pb_cell Z ρ' c q H' := by
  rcases c with ⟨k, n, f⟩ | ⟨k, n, f⟩ | ⟨ci, fs⟩
  · obtain ⟨cell, h1, h2⟩ := hc
    exact ⟨cell, by rw [hq]; exact h1, h2⟩
  · show H'[q]? = _
    rw [hq, hc]
    refine congrArg some (congrArg (arrV _ n) (funext fun j => ?_))
    cases hj : f j with
    | none => rfl
    | some a => exact congrArg Value.ref (he a (hr j a hj)).symm
  · obtain ⟨r, h1, h2, h3⟩ := hc
    refine ⟨r, h1, h2, ?_⟩
    rw [pb_ups_ext he hr]
    exact h3.kept hq
theorem pb_cell_lt {Z : pb_Z} {ρ : Nat → Nat} {c : pb_C} {q : Nat} {H : Heap} (hc : pb_cell Z ρ c q H) : q < H.size := by
  rcases c with ⟨k, n, f⟩ | ⟨k, n, f⟩ | ⟨ci, fs⟩
  · obtain ⟨cell, h1, h2⟩ := hc
    exact (Array.getElem?_eq_some_iff.mp h1).1
  · exact (Array.getElem?_eq_some_iff.mp hc).1
  · obtain ⟨r, h1, h2, cell, h3, -⟩ := hc
    exact (Array.getElem?_eq_some_iff.mp h3).1
theorem pb_Rl.at {Z : pb_Z} {ρ : Nat → Nat} {h : pb_H} {H : Heap} (hr : pb_Rl Z ρ h H) {a : Nat} {c : pb_C} (ha : h a = some c) : pb_cell Z ρ c (ρ a) H := (hr.1 a c ha).1
/-- a cell is written -/
theorem pb_Rl.set {Z : pb_Z} {ρ : Nat → Nat} {h : pb_H} {H H' : Heap} (hr : pb_Rl Z ρ h H) {a : Nat} {c0 c : pb_C} (ha : h a = some c0) (h2 : 2 ≤ a) (hc : pb_cell Z ρ c (ρ a) H') (hrf : pb_refs h c) (hz : H'.size = H.size) (ho : ∀ q : Nat, q ≠ ρ a → H'[q]? = H[q]?) : pb_Rl Z ρ (pb_set h a c) H' := by
  have hna : h a ≠ none := by rw [ha]; exact fun q => by cases q
  have hdom : ∀ b, pb_set h a c b ≠ none → h b ≠ none := fun b hb => by
    by_cases e : b = a
    · rw [e]; exact hna
    · rw [pb_set_ne h c e] at hb; exact hb
  refine ⟨fun b cb hb => ?_, fun b b' hb hb' => hr.2.1 b b' (hdom b hb) (hdom b' hb'), fun b hb2 hb => hr.2.2.1 b hb2 (hdom b hb), by rw [hz]; exact hr.2.2.2.1, fun q hq => ?_, hr.2.2.2.2.2.1, pb_set_dom hr.2.2.2.2.2.2⟩
  · by_cases e : b = a
    · subst e
      rw [pb_set_self] at hb
      cases hb
      exact ⟨hc, pb_refs_mono (fun _ => pb_set_dom) hrf⟩
    · rw [pb_set_ne h c e] at hb
      have hnb : h b ≠ none := by rw [hb]; exact fun q => by cases q
      obtain ⟨g1, g2⟩ := hr.1 b cb hb
      exact ⟨pb_cell_mono g1 g2 (fun _ _ => rfl) (ho _ (fun q => e (hr.2.1 b a hnb hna q))), pb_refs_mono (fun _ => pb_set_dom) g2⟩
  · have hne : q ≠ ρ a := fun e => by
      have := hr.2.2.1 a h2 hna
      omega
    rw [ho q hne]
    exact hr.2.2.2.2.1 q hq
theorem pb_Ex.set {h0 : pb_H} {ρ0 : Nat → Nat} {h : pb_H} {ρ : Nat → Nat} (he : pb_Ex h0 ρ0 h ρ) (a : Nat) (c : pb_C) : pb_Ex h0 ρ0 (pb_set h a c) ρ := fun b hb => ⟨pb_set_dom (he b hb).1, (he b hb).2⟩
def pb_re (ρ : Nat → Nat) (a q : Nat) : Nat → Nat := fun b => if b = a then q else ρ b
/-- a cell is made -/
theorem pb_Rl.new {Z : pb_Z} {ρ : Nat → Nat} {h : pb_H} {H H' : Heap} (hr : pb_Rl Z ρ h H) {a : Nat} {c : pb_C} (ha : h a = none) (h2 : 2 ≤ a) (hc : pb_cell Z (pb_re ρ a H.size) c H.size H') (hrf : pb_refs h c) (hz : H.size ≤ H'.size) (ho : ∀ q : Nat, q < H.size → H'[q]? = H[q]?) : pb_Rl Z (pb_re ρ a H.size) (pb_set h a c) H' := by
  have hne : ∀ b, h b ≠ none → b ≠ a := fun b hb e => hb (by rw [e]; exact ha)
  have he : ∀ b, h b ≠ none → pb_re ρ a H.size b = ρ b := fun b hb => if_neg (hne b hb)
  have hlt : ∀ b, h b ≠ none → ρ b < H.size := fun b hb => by
    cases e : h b with
    | none => exact absurd e hb
    | some cb => exact pb_cell_lt (hr.1 b cb e).1
  have hself : pb_re ρ a H.size a = H.size := if_pos rfl
  have hdom : ∀ b, pb_set h a c b ≠ none → b ≠ a → h b ≠ none := fun b hb e => by rw [pb_set_ne h c e] at hb; exact hb
  refine ⟨fun b cb hb => ?_, fun b b' hb hb' hq => ?_, fun b hb2 hb => ?_, Nat.le_trans hr.2.2.2.1 hz, fun q hq => ?_, ?_, pb_set_dom hr.2.2.2.2.2.2⟩
  · by_cases e : b = a
    · subst e
      rw [pb_set_self] at hb
      cases hb
      rw [hself]
      exact ⟨hc, pb_refs_mono (fun _ => pb_set_dom) hrf⟩
    · rw [pb_set_ne h c e] at hb
      have hnb : h b ≠ none := by rw [hb]; exact fun q => by cases q
      obtain ⟨g1, g2⟩ := hr.1 b cb hb
      rw [he b hnb]
      exact ⟨pb_cell_mono g1 g2 he (ho _ (hlt b hnb)), pb_refs_mono (fun _ => pb_set_dom) g2⟩
  · by_cases e : b = a <;> by_cases e' : b' = a
    · rw [e, e']
    · rw [e, hself, he b' (hdom b' hb' e')] at hq
      have := hlt b' (hdom b' hb' e')
      omega
    · rw [e', hself, he b (hdom b hb e)] at hq
      have := hlt b (hdom b hb e)
      omega
    · rw [he b (hdom b hb e), he b' (hdom b' hb' e')] at hq
      exact hr.2.1 b b' (hdom b hb e) (hdom b' hb' e') hq
  · by_cases e : b = a
    · rw [e, hself]; exact hr.2.2.2.1
    · rw [he b (hdom b hb e)]; exact hr.2.2.1 b hb2 (hdom b hb e)
  · rw [ho q (Nat.lt_of_lt_of_le hq hr.2.2.2.1)]
    exact hr.2.2.2.2.1 q hq
  · show (if 1 = a then H.size else ρ 1) = _
    rw [if_neg (by omega)]
    exact hr.2.2.2.2.2.1
theorem pb_Ex.new {h0 : pb_H} {ρ0 : Nat → Nat} {h : pb_H} {ρ : Nat → Nat} (he : pb_Ex h0 ρ0 h ρ) {a : Nat} (c : pb_C) (q : Nat) (ha : h a = none) : pb_Ex h0 ρ0 (pb_set h a c) (pb_re ρ a q) := fun b hb => ⟨pb_set_dom (he b hb).1, by
  show (if b = a then q else ρ b) = _
  rw [if_neg (fun e => (he b hb).1 (by rw [e]; exact ha))]
  exact (he b hb).2⟩
theorem pb_lv.ext {ρ ρ' : Nat → Nat} {ls : Array Slot} {n : Nat} {lv : List (Option Value)} {h : pb_H} (hl : pb_lv ρ ls n lv) (ho : ∀ (i : Nat) (v : Value), lv[i]? = some (some v) → pb_ok h v) (he : ∀ b, h b ≠ none → ρ' b = ρ b) : pb_lv ρ' ls n lv := ⟨hl.1, hl.2.1, fun i v hi => by rw [pb_up_ext he (ho i v hi)]; exact hl.2.2 i v hi⟩
