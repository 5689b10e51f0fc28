-- ===== end of PART A; then your names; then what follows =====
/-! THE CLAIM OUT OF ONE WALK OF THE LAW'S BODY. Your part is whole_start (and what it stands on); all else here is the same for every law, but numbers. -/
def R_law : String := "PaintBoxLaw"
def lw_P (b : Addr) (xs : List Int32) (args : Array Value) (s : State) : Prop := args = #[.ref b] ∧ s.IntsAt b xs ∧ xs.length ≤ 2560 ∧ (Jvm.Cond.and given_1 narrow_1).before args s = true
def lw_Q (_ : Array Value) (s : State) (o : Outcome) (t : State) : Prop := o = .returned (some (.int 1)) ∧ Framed s o t [] 600000 7302250
def lw_Z (below : List Frame) (a : Array Value) (s : State) : State → Prop := fun t => ∃ o, t.status = .running ∧ Ended t below o ∧ lw_Q a s o t
/-- the law's own end, with 1 on the stack, nothing written that was there before, its room as the claim has it -/
theorem lw_ret {p : Program} {l : Launch} {e : Env} {s : State} {m : MethodId} {below : List Frame} {meth : Method} {c : Code} {b : Nat} (hx : p.tables.exec = Jvm.exec) (hb : c.code = code) (hr : meth.sig.returnType = ret) (hlocks : meth.locks = false) {pc : Nat} {H : Heap} {ls : Array Slot} (hdg : decode code pc = .ok (.ireturn, 1)) : W p l e room_1 s m #[Value.ref b] below meth c H [] 600000 7302250 (lw_Z below #[Value.ref b] s) (F0 m pc ls [.int 1]) := by
  intro T hT X
  obtain ⟨fs, hret, hrun, hended, hW, hframe⟩ := X.leave (v := some (.int 1)) (hlocks := hlocks) (fun h => by rw [hr] at h; cases h)
  have hmeth' : T.vm.method? m = some meth := X.method'
  refine ⟨T.setFrames fs, ?_, .returned (some (.int 1)), hrun, hended, rfl, ⟨_, rfl⟩, hW, hframe⟩
  jvm_step X.here [X.here.top, hx, hb, hdg, hmeth', hr, ret, narrow_b1]
  (try refine ⟨rfl, ?_⟩); (try refine ⟨rfl, ?_⟩)
  first | (intro acts; rw [hret _ acts rfl rfl rfl]) | rw [hret _ _ rfl rfl rfl]
  exact Steps.refl _
/-- what holds at the law's entry: the machine, the code, the tables' words (any of lw_tbl by 'hts w (by decide +kernel)'), the script of L ints xs at the cell b, what the Statement gives of the start (any of its parts by flat_of_before) -/
def lw_At (p : Program) (s : State) (m : MethodId) (meth : Method) (c : Code) (b L : Nat) (xs : Nat → Int32) : Prop :=
  p.tables.exec = Jvm.exec ∧ c.code = code ∧ meth.sig.returnType = ret ∧ c.maxLocals = 4 ∧ s.vm.findClass R_law = some m.cls ∧ (∀ w ∈ lw_tbl, w.before #[Value.ref b] s = true) ∧ va_X b L xs s s.heap ∧ b < s.heap.size ∧ meth.locks = false ∧ (Jvm.Cond.and given_1 narrow_1).before #[Value.ref b] s = true

theorem pb_arrC {ty : FieldType} {A : Array Value} {s : State} (h : (Cond.arrayClass ty).before A s = true) : ∃ (c : ClassId) (k : Class) (comp : ClassId), s.vm.findClass ("[" ++ ty.toString) = some c ∧ s.vm.classes[c]? = some k ∧ k.kind = .array comp ty := by
  obtain ⟨c, k, comp, h1, h2, h3⟩ := Cond.arrayClass_spec h
  exact ⟨c, k, comp, h1, h2, h3⟩
abbrev pb_yL : pb_M := (yL_law, cL_law, 4, some .boolean)
/-- the first heap: the script, the static row -/
def pb_h0 (L : Nat) (xs : Nat → Int32) : pb_H := fun a => if a = 0 then some (.inl (2, L, xs)) else if a = 1 then some (.inl (3, 3, fun j => if j = 0 then 1 else if j = 1 then 2 else 4)) else none

set_option maxRecDepth 100000 in
set_option maxHeartbeats 4000000 in
theorem pb_begin {p : Program} {s : State} {m : MethodId} {meth : Method} {c : Code} (l : Launch) {b L : Nat} {xs : Nat → Int32} (hn : meth.name = "law") (C0 : lw_At p s m meth c b L xs) : ∃ (Z : pb_Z) (ρ : Nat → Nat), pb_zl Z = l ∧ pb_zb Z = s.heap.size ∧ pb_Fx Z pb_yL p s m #[Value.ref b] meth c ∧ pb_Rl Z ρ (pb_h0 L xs) s.heap ∧ ρ 0 = b := by
  obtain ⟨hx, hb, hr, hml, hown, hts, hX, hbl, hlocks, hgv⟩ := id C0

  obtain ⟨c0, iS0, hKn0⟩ := u_known (C := RX0) (T := TX0) (N := 3) (n := 3) hts inX0 (hts (.instantiable RX0 3) (by decide +kernel))
  obtain ⟨c1, iS1, hKn1⟩ := u_known (C := RX1) (T := TX1) (N := 16) (n := 16) hts inX1 (hts (.instantiable RX1 16) (by decide +kernel))
  obtain ⟨c2, iS2, hKn2⟩ := u_known (C := RX2) (T := TX2) (N := 8) (n := 8) hts inX2 (hts (.instantiable RX2 8) (by decide +kernel))
  obtain ⟨c3, iS3, hKn3⟩ := u_known (C := RX3) (T := TX3) (N := 7) (n := 7) hts inX3 (hts (.instantiable RX3 7) (by decide +kernel))
  obtain ⟨c4, iS4, hKn4⟩ := u_known (C := RX4) (T := TX4) (N := 5) (n := 5) hts inX4 (hts (.instantiable RX4 5) (by decide +kernel))
  obtain ⟨c5, iS5, hKn5⟩ := u_known (C := RX5) (T := TX5) (N := 16) (n := 16) hts inX5 (hts (.instantiable RX5 16) (by decide +kernel))
  obtain ⟨c6, iS6, hKn6⟩ := u_known (C := RX6) (T := TX6) (N := 2) (n := 2) hts inX6 (hts (.instantiable RX6 2) (by decide +kernel))
  obtain ⟨c7, iS7, hKn7⟩ := u_known (C := RX8) (T := TX8) (N := 2) (n := 2) hts inX8 (hts (.instantiable RX8 2) (by decide +kernel))
  obtain ⟨c8, iS8, hKn8⟩ := u_known (C := RX10) (T := TX10) (N := 7) (n := 7) hts inX10 (hts (.instantiable RX10 7) (by decide +kernel))
  obtain ⟨c9, iS9, hKn9⟩ := u_known (C := RX11) (T := TX11) (N := 12) (n := 12) hts inX11 (hts (.instantiable RX11 12) (by decide +kernel))
  obtain ⟨c10, iS10, hKn10⟩ := u_known (C := RX12) (T := TX12) (N := 32) (n := 32) hts inX12 (hts (.instantiable RX12 32) (by decide +kernel))
  obtain ⟨dC, dI, hKc⟩ : ∃ (dC : Nat → ClassId) (dI : Nat → Nat → Nat), ∀ (k : Nat) (q : vw_C), vwCl[k]? = some q → u_Kn s q.1 q.2.1 q.2.2 (dC k) (dI k) := by
    refine ⟨fun k => if k = 0 then c0 else if k = 1 then c1 else if k = 2 then c2 else if k = 3 then c3 else if k = 4 then c4 else if k = 5 then c5 else if k = 6 then c6 else if k = 7 then c7 else if k = 8 then c8 else if k = 9 then c9 else c10, fun k => if k = 0 then iS0 else if k = 1 then iS1 else if k = 2 then iS2 else if k = 3 then iS3 else if k = 4 then iS4 else if k = 5 then iS5 else if k = 6 then iS6 else if k = 7 then iS7 else if k = 8 then iS8 else if k = 9 then iS9 else iS10, ?_⟩
    intro k q hq
    match k, hq with
    | 0, hq => cases hq; exact hKn0
    | 1, hq => cases hq; exact hKn1
    | 2, hq => cases hq; exact hKn2
    | 3, hq => cases hq; exact hKn3
    | 4, hq => cases hq; exact hKn4
    | 5, hq => cases hq; exact hKn5
    | 6, hq => cases hq; exact hKn6
    | 7, hq => cases hq; exact hKn7
    | 8, hq => cases hq; exact hKn8
    | 9, hq => cases hq; exact hKn9
    | 10, hq => cases hq; exact hKn10
    | k + 11, hq => simp [vwCl] at hq
  -- arrays of ints and booleans
  have hsI : (Cond.arrayClass .int).before #[Value.ref b] s = true := hts _ (by decide +kernel)
  have hsZ : (Cond.arrayClass .boolean).before #[Value.ref b] s = true := hts _ (by decide +kernel)
  obtain ⟨cI, kI, cmI, fI1, fI2, fI3⟩ := pb_arrC hsI
  obtain ⟨cZ, kZ, cmZ, fZ1, fZ2, fZ3⟩ := pb_arrC hsZ

  have ovT : (Cond.arrayOver (.object "PaintBox$Tube")).before #[Value.ref b] s = true := hts _ (by decide +kernel)
  obtain ⟨cmT, cT, kT, hT1, -, hT2, hT3, hT4⟩ := Cond.arrayOver_spec ovT
  have ovM : (Cond.arrayOver (.object "PaintBox$Mixture")).before #[Value.ref b] s = true := hts _ (by decide +kernel)
  obtain ⟨cmM, cM, kM, hM1, -, hM2, hM3, hM4⟩ := Cond.arrayOver_spec ovM
  have ovA : (Cond.arrayOver (.object "PaintBox$Area")).before #[Value.ref b] s = true := hts _ (by decide +kernel)
  obtain ⟨cmA, cA, kA, hA1, -, hA2, hA3, hA4⟩ := Cond.arrayOver_spec ovA
  have ovY : (Cond.arrayOver (.object "PaintBox$Layer")).before #[Value.ref b] s = true := hts _ (by decide +kernel)
  obtain ⟨cmY, cY, kY, hY1, -, hY2, hY3, hY4⟩ := Cond.arrayOver_spec ovY
  have ovI : (Cond.arrayOver (.array .int)).before #[Value.ref b] s = true := hts _ (by decide +kernel)
  obtain ⟨cm2, c2, k2, h21, -, h22, h23, h24⟩ := arrayOverA_spec ovI
  -- the script and the static row
  obtain ⟨scr, hs1, hs2, hs3, hs4, hs5⟩ := hX
  have hall := flat_of_before _ hgv
  have hA : ∀ a : Nat, a < s.heap.size → ¬ (fun q => s.heap.size ≤ q) a := fun a h1 h2 => by
    have h2 : s.heap.size ≤ a := h2
    omega
  obtain ⟨tA, htA, hTT⟩ := va_Tof (A := fun q => s.heap.size ≤ q) (N := 3) (f := fun j => .int (if j = 0 then 1 else if j = 1 then 2 else 4)) (by omega) (hall (.arrayOf (.static "PaintBoxModel" "THICKNESS" "[I") .int) (by decide +kernel)) (va_eqt (hall (.eq (.length (.static "PaintBoxModel" "THICKNESS" "[I")) (.int 3)) (by decide +kernel))) (fun j hj => by
    rcases (show j = 0 ∨ j = 1 ∨ j = 2 by omega) with rfl | rfl | rfl
    · exact va_eqt (hall (.eq (.elem (.static "PaintBoxModel" "THICKNESS" "[I") (.int 0)) (.int 1)) (by decide +kernel))
    · exact va_eqt (hall (.eq (.elem (.static "PaintBoxModel" "THICKNESS" "[I") (.int 1)) (.int 2)) (by decide +kernel))
    · exact va_eqt (hall (.eq (.elem (.static "PaintBoxModel" "THICKNESS" "[I") (.int 2)) (.int 4)) (by decide +kernel))) hA
  have hne : b ≠ tA := by
    intro e
    have hq := hall (.not (.eq (.arg 0) (.static "PaintBoxModel" "THICKNESS" "[I"))) (by decide +kernel)
    have e1 : (Term.arg 0).eval #[Value.ref b] s none [] s = some (.ref b) := rfl
    rw [← e] at htA
    simp [Cond.before, Cond.holds, Cond.value, e1, htA] at hq
  have hZt := va_Zref (A := fun q => s.heap.size ≤ q) (hts (.laysStatic "PaintBoxModel" "THICKNESS" "[I") (by decide +kernel)) (hts (.initialized "PaintBoxModel") (by decide +kernel)) htA hA
  obtain ⟨th, ht1, ht2, ht3, ht4, ht5, ht6, ht7⟩ := hTT
  refine ⟨(l, s.heap.size, (dC, dI), (fun k => if k = 0 then cI else if k = 1 then cZ else if k = 2 then scr.cls else th.cls), (fun k => if k = 0 then cT else if k = 1 then cM else if k = 2 then cA else if k = 3 then cY else c2), s.heap, tA), (fun a => if a = 0 then b else tA), rfl, rfl, ⟨hx, hb, hr, hml, hown, pb_tbl_of hts, ⟨⟨⟨hKc, fun k q hk => ?_⟩, fun N z => ?_, fun N z => ?_, hZt, ⟨ovT, ovM, ovA, ovY, ovI⟩⟩, fun w hw => va_Nw.of (pb_isN_on (List.mem_filter.mp hw).2) (hts w (List.mem_filter.mp hw).1)⟩, hlocks, hn⟩, ⟨fun a cc ha => ?_, fun a a' ha ha' hq => ?_, fun a ha2 ha => ?_, Nat.le_refl _, fun q _ => rfl, rfl, fun q => by cases q⟩, rfl⟩
  · match k, hk with
    | 0, hk => cases hk; exact ⟨fun N z => ⟨(fun q hq => by cases hq), kI, fI2, cmI, fI3⟩, fI1⟩
    | 1, hk => cases hk; exact ⟨fun N z => ⟨(fun q hq => by cases hq), kZ, fZ2, cmZ, fZ3⟩, fZ1⟩
    | 2, hk => cases hk; exact ⟨fun N z => ⟨(fun q hq => by cases hq), kT, hT2, cmT, hT3⟩, kT, cmT, hT2, hT3, hT1, hT4⟩
    | 3, hk => cases hk; exact ⟨fun N z => ⟨(fun q hq => by cases hq), kM, hM2, cmM, hM3⟩, kM, cmM, hM2, hM3, hM1, hM4⟩
    | 4, hk => cases hk; exact ⟨fun N z => ⟨(fun q hq => by cases hq), kA, hA2, cmA, hA3⟩, kA, cmA, hA2, hA3, hA1, hA4⟩
    | 5, hk => cases hk; exact ⟨fun N z => ⟨(fun q hq => by cases hq), kY, hY2, cmY, hY3⟩, kY, cmY, hY2, hY3, hY1, hY4⟩
    | 6, hk => cases hk; exact ⟨fun N z => ⟨(fun q hq => by cases hq), k2, h22, cm2, h23⟩, h24⟩
    | k + 7, hk => simp [pb_ts] at hk
  · obtain ⟨-, kS, hkS, cmS, hkkS⟩ := hs2
    exact ⟨(fun q hq => by cases hq), kS, hkS, cmS, hkkS⟩
  · obtain ⟨-, kS, hkS, cmS, hkkS⟩ := ht2
    exact ⟨(fun q hq => by cases hq), kS, hkS, cmS, hkkS⟩
  · unfold pb_h0 at ha
    by_cases e0 : a = 0
    · rw [if_pos e0] at ha
      cases ha
      subst e0
      exact ⟨⟨scr, hs1, rfl, hs2.1, hs3, ⟨by omega, by rw [hs4]; rfl⟩, hs5, fun h9 => by omega⟩, trivial⟩
    · rw [if_neg e0] at ha
      by_cases e1 : a = 1
      · rw [if_pos e1] at ha
        cases ha
        subst e1
        exact ⟨⟨th, ht1, rfl, ht2.1, ht3, ⟨ht4, ht5⟩, ht6, fun h9 => by omega⟩, trivial⟩
      · rw [if_neg e1] at ha
        cases ha
  · have hd : ∀ z, pb_h0 L xs z ≠ none → z = 0 ∨ z = 1 := fun z hz => by
      unfold pb_h0 at hz
      by_cases e0 : z = 0
      · exact Or.inl e0
      · rw [if_neg e0] at hz
        by_cases e1 : z = 1
        · exact Or.inr e1
        · rw [if_neg e1] at hz
          exact absurd rfl hz
    rcases hd a ha with rfl | rfl <;> rcases hd a' ha' with rfl | rfl
    · rfl
    · exact absurd hq hne
    · exact absurd hq.symm hne
    · rfl
  · exfalso
    apply ha
    unfold pb_h0
    rw [if_neg (by omega), if_neg (by omega)]
/-- THE LAW's WALK out of the small machine's -/
theorem pb_whole {p : Program} {e : Env} {s : State} {m : MethodId} {below : List Frame} {meth : Method} {c : Code} (l : Launch) {b L : Nat} {xs : Nat → Int32} (hn : meth.name = "law") (C0 : lw_At p s m meth c b L xs) (hS : ∀ Z : pb_Z, pb_S Z pb_yL 100 600000 7302250 (fun v _ => v = some (.int 1)) 0 [some (.ref 0), none, none, none] [] (pb_h0 L xs)) : W p l e room_1 s m #[Value.ref b] below meth c s.heap [] 0 0 (lw_Z below #[Value.ref b] s) (entryFrame m ([Value.ref b] : List Value).toArray 4) := by
  obtain ⟨Z, ρ, rfl, hzb, hF, hRl, h0⟩ := pb_begin l hn C0
  have hle := lv_entry ([.ref b]) (n := 4) (Nat.le_of_ble_eq_true rfl)
  rw [lg_entry_eq]
  generalize (lg_sl ([.ref b]) ++ List.replicate (4 - (lg_sl ([.ref b])).length) Slot.unset).toArray = ls at hle ⊢
  have hz0 : pb_h0 L xs 0 ≠ none := fun q => by cases q
  refine pb_W_Q (hS Z p e s m #[Value.ref b] below meth c room_1 600000 7302250 ρ (pb_h0 L xs) hF ⟨by decide, by decide, rfl, rfl⟩ 0 0 ρ s.heap [] ls ⟨by omega, by omega, ⟨hle.1, hle.2.1, fun i v hi => ?_⟩, hRl, fun a ha => ⟨ha, rfl⟩, trivial, fun i v hi => ?_, fun q hq => by cases hq⟩) ?_
  · match i, hi with
    | 0, hi =>
      cases hi
      show ls[0]? = some (.val (.ref (ρ 0)))
      rw [h0]
      exact hle.2.2 (0, .ref b) List.mem_cons_self
    | 1, hi => cases hi
    | 2, hi => cases hi
    | 3, hi => cases hi
    | i + 4, hi => simp at hi
  · match i, hi with
    | 0, hi => cases hi; exact hz0
    | 1, hi => cases hi
    | 2, hi => cases hi
    | 3, hi => cases hi
    | i + 4, hi => simp at hi
  · rintro t ⟨o, h1, h2, ⟨v, ρ', h', q1, q2, q3, q4, q5⟩, Lc, hFE, hLc⟩
    subst q5
    refine ⟨o, h1, h2, q1, ?_⟩
    obtain ⟨z1, z2, z3⟩ := hFE
    refine ⟨z1, z2, z3.weaken (fun y hy hlt => ?_) (Nat.le_refl _) (Nat.le_refl _)⟩
    have := hLc y hy
    rw [hzb] at this
    exact absurd hlt (Nat.not_lt.mpr this)
