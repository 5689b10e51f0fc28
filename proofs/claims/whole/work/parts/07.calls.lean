-- the words: all of lw_tbl are good; those of the private methods of the abstract class follow
theorem pb_goods {w : Cond} (h : w ∈ pb_tbl) : (w.onTables && w.keeps) = true ∨ ∃ ty, w = .arrayClass ty := by
  rcases List.mem_append.mp h with h | h
  · simp only [pb_xw, List.mem_cons, List.not_mem_nil, or_false] at h
    rcases h with rfl | rfl | rfl | rfl | rfl | rfl <;> exact Or.inl rfl
  · exact good_of_word (List.mem_filter.mp h).2
theorem pb_selP {C : String} {y : MethodName} {n : Nat} {s : State} {args : Array Value} (hins : (Cond.instantiable C n).before args s = true) (hsame : (Cond.sameMethod y.cls y.cls y.name y.desc).before args s = true) (hpriv : (Cond.privateMethod y).before args s = true) (hinst : (Cond.instanceMethod y).before args s = true) : (Cond.selects C y y).before args s = true := by
  obtain ⟨c, k, hc, hk, -, -, -, -⟩ := Cond.instantiable_spec hins
  obtain ⟨mk, methM, hnamed, hmethM, -, -⟩ := Cond.instanceMethod_spec hinst
  obtain ⟨cn, ck, r1, hcn, hck, hni, hf, hn1⟩ := Cond.sameMethod_found hsame
  cases hnamed.symm.trans hn1
  have hcls : mk.cls = cn := Option.some.inj ((findClass_of_methodNamed hnamed).symm.trans hcn)
  have hsel : selectMethod {} s.vm c mk = .method mk := selectMethod_private hmethM (Cond.privateMethod_at hpriv mk methM hnamed hmethM)
  simp only [Cond.before, Cond.holds, Cond.value, hc, hf, hnamed, hsel, hcls, hck]
  simp; exact hni
theorem pb_tbl_of {args : Array Value} {s : State} (hts : ∀ w ∈ lw_tbl, w.before args s = true) : ∀ w ∈ pb_tbl, w.before args s = true := by
  intro w hw
  rcases List.mem_append.mp hw with hw | hw
  · simp only [pb_xw, List.mem_cons, List.not_mem_nil, or_false] at hw
    rcases hw with rfl | rfl | rfl | rfl | rfl | rfl
    · exact pb_selP (n := 16) (hts _ (by decide +kernel)) (hts _ (by decide +kernel)) (hts _ (by decide +kernel)) (hts _ (by decide +kernel))
    · exact pb_selP (n := 16) (hts _ (by decide +kernel)) (hts _ (by decide +kernel)) (hts _ (by decide +kernel)) (hts _ (by decide +kernel))
    · exact pb_selP (n := 16) (hts _ (by decide +kernel)) (hts _ (by decide +kernel)) (hts _ (by decide +kernel)) (hts _ (by decide +kernel))
    · exact pb_selP (n := 16) (hts _ (by decide +kernel)) (hts _ (by decide +kernel)) (hts _ (by decide +kernel)) (hts _ (by decide +kernel))
    · exact pb_selP (n := 16) (hts _ (by decide +kernel)) (hts _ (by decide +kernel)) (hts _ (by decide +kernel)) (hts _ (by decide +kernel))
    · exact pb_selP (n := 16) (hts _ (by decide +kernel)) (hts _ (by decide +kernel)) (hts _ (by decide +kernel)) (hts _ (by decide +kernel))
  · exact hts w (List.mem_filter.mp hw).1
theorem pb_objW : Cond.code objectInit ⟨#[0xb1]⟩ 1 none ∈ pb_tbl := List.mem_of_getElem? (i := 61) rfl
section PBC
variable {Z : pb_Z} {y : pb_M} {d k n : Nat} {post : Option Value → pb_H → Prop} {pc : Nat} {lv : List (Option Value)} {st : List Value} {h : pb_H}
-- entry
def pb_sl : List Value → List (Option Value)
  | [] => []
  | v :: vs => if v.category = 2 then some v :: none :: pb_sl vs else some v :: pb_sl vs
def pb_en (av : List Value) (n : Nat) : List (Option Value) := pb_sl av ++ List.replicate (n - (pb_sl av).length) none
theorem pb_sl_in {ρ : Nat → Nat} : ∀ {vs : List Value} {o i : Nat} {v : Value}, (pb_sl vs)[i]? = some (some v) → (o + i, pb_up ρ v) ∈ lv_args o (vs.map (pb_up ρ))
  | [], o, i, v, h => by simp [pb_sl] at h
  | w :: vs, o, i, v, h => by
    unfold pb_sl at h
    by_cases hc : w.category = 2
    · rw [if_pos hc] at h
      match i, h with
      | 0, h =>
        have e : w = v := by simpa using h
        subst e
        exact List.mem_cons_self
      | 1, h => simp at h
      | i + 2, h =>
        have := pb_sl_in (ρ := ρ) (vs := vs) (o := o + 2) (i := i) (v := v) (by simpa using h)
        rw [show o + (i + 2) = o + 2 + i by omega]
        show _ ∈ (o, pb_up ρ w) :: lv_args (if (pb_up ρ w).category = 2 then o + 2 else o + 1) (vs.map (pb_up ρ))
        rw [pb_up_cat, if_pos hc]
        exact List.mem_cons_of_mem _ this
    · rw [if_neg hc] at h
      match i, h with
      | 0, h =>
        have e : w = v := by simpa using h
        subst e
        exact List.mem_cons_self
      | i + 1, h =>
        have := pb_sl_in (ρ := ρ) (vs := vs) (o := o + 1) (i := i) (v := v) (by simpa using h)
        rw [show o + (i + 1) = o + 1 + i by omega]
        show _ ∈ (o, pb_up ρ w) :: lv_args (if (pb_up ρ w).category = 2 then o + 2 else o + 1) (vs.map (pb_up ρ))
        rw [pb_up_cat, if_neg hc]
        exact List.mem_cons_of_mem _ this
theorem pb_sl_mem : ∀ {vs : List Value} {i : Nat} {v : Value}, (pb_sl vs)[i]? = some (some v) → v ∈ vs
  | [], i, v, h => by simp [pb_sl] at h
  | w :: vs, i, v, h => by
    unfold pb_sl at h
    by_cases hc : w.category = 2
    · rw [if_pos hc] at h
      match i, h with
      | 0, h =>
        have e : w = v := by simpa using h
        subst e
        exact List.mem_cons_self
      | 1, h => simp at h
      | i + 2, h => exact List.mem_cons_of_mem _ (pb_sl_mem (i := i) (by simpa using h))
    · rw [if_neg hc] at h
      match i, h with
      | 0, h =>
        have e : w = v := by simpa using h
        subst e
        exact List.mem_cons_self
      | i + 1, h => exact List.mem_cons_of_mem _ (pb_sl_mem (i := i) (by simpa using h))
theorem pb_en_at {av : List Value} {n i : Nat} {v : Value} (h : (pb_en av n)[i]? = some (some v)) : (pb_sl av)[i]? = some (some v) := by
  unfold pb_en at h
  by_cases hi : i < (pb_sl av).length
  · rw [List.getElem?_append_left hi] at h
    exact h
  · rw [List.getElem?_append_right (by omega)] at h
    have hm := List.mem_of_getElem? h
    rw [List.mem_replicate] at hm
    cases hm.2
theorem pb_lgl (ρ : Nat → Nat) : ∀ av : List Value, (lg_sl (av.map (pb_up ρ))).length = (pb_sl av).length
  | [] => rfl
  | v :: vs => by
    have ih := pb_lgl ρ vs
    unfold lg_sl at ih ⊢
    unfold pb_sl
    rw [List.map_cons, List.flatMap_cons, List.length_append, ih, pb_up_cat]
    by_cases hc : v.category = 2
    · rw [if_pos hc, if_pos hc]; simp; omega
    · rw [if_neg hc, if_neg hc]; simp; omega
/-- A METHOD's CONTRACT out of its walk -/
theorem pb_T.of {av : List Value} {h0 : pb_H} (hy : plainName y.1.cls = true) (hn : (pb_sl av).length ≤ y.2.2.1) {lv : List (Option Value)} (hl : pb_en av y.2.2.1 = lv) (hS : pb_S Z y d k n post 0 lv [] h0) : pb_T Z y d k n av h0 post := by
  subst hl
  intro ρ0
  refine Met.ofW (cc := y.2.1) (maxL := y.2.2.1) (ret := y.2.2.2) hy rfl ?_
  intro p e s m args below meth c s₁ B hml hv
  obtain ⟨rfl, hRl, hok, hK⟩ := hv
  have hts := atoms_spec (ws := pb_ws y) B.pre
  have hF : pb_Fx Z y p s m (av.map (pb_up ρ0)).toArray meth c := ⟨B.exec, B.bytes, B.returns, hml, findClass_of_methodNamed B.named, (fun w hw => hts w (List.mem_cons_of_mem _ hw)), hK, B.notSynchronized, (name_of_methodNamed B.named B.method).1⟩
  have hle := lv_entry (av.map (pb_up ρ0)) (n := y.2.2.1) (by rw [pb_lgl]; exact hn)
  rw [lg_entry_eq]
  refine hS p e s m _ below meth c _ k n ρ0 h0 hF ⟨Nat.le_refl _, Nat.le_refl _, rfl, rfl⟩ 0 0 ρ0 s.heap [] _ ⟨by omega, by omega, ⟨hle.1, hle.2.1, fun i v hi => ?_⟩, hRl, fun a ha => ⟨ha, rfl⟩, trivial, fun i v hi => pb_oks_mem hok v (pb_sl_mem (pb_en_at hi)), fun q hq => by cases hq⟩
  have := pb_sl_in (ρ := ρ0) (o := 0) (pb_en_at hi)
  rw [Nat.zero_add] at this
  exact hle.2.2 _ this
theorem pb_S.mono {post' : Option Value → pb_H → Prop} (hS : pb_S Z y d k n post pc lv st h) (hp : ∀ v h', post v h' → post' v h') : pb_S Z y d k n post' pc lv st h := by
  intro p e s m args below meth c R mc ms ρ0 h0 hF hR cells slots ρ H locs ls hD
  refine pb_W_Q (hS p e s m args below meth c R mc ms ρ0 h0 hF hR cells slots ρ H locs ls hD) ?_
  rintro t ⟨o, h1, h2, ⟨v, ρ', h', q1, q2, q3, q4, q5⟩, h3⟩
  exact ⟨o, h1, h2, ⟨v, ρ', h', q1, q2, q3, q4, hp v h' q5⟩, h3⟩
theorem pb_S.le {k2 n2 : Nat} (hS : pb_S Z y d k2 n2 post pc lv st h) (hk : k2 ≤ k) (hn : n2 ≤ n) : pb_S Z y d k n post pc lv st h := by
  intro p e s m args below meth c R mc ms ρ0 h0 hF hR cells slots ρ H locs ls hD
  exact hS p e s m args below meth c R mc ms ρ0 h0 hF hR cells slots ρ H locs ls ⟨by have := hD.1; omega, by have := hD.2.1; omega, hD.2.2⟩
/-- known of the locals: less -/
theorem pb_S.less {lv2 : List (Option Value)} (hS : pb_S Z y d k n post pc lv2 st h) (hl : ∀ (i : Nat) (v : Value), lv2[i]? = some (some v) → lv[i]? = some (some v)) : pb_S Z y d k n post pc lv st h := by
  intro p e s m args below meth c R mc ms ρ0 h0 hF hR cells slots ρ H locs ls hD
  exact hS p e s m args below meth c R mc ms ρ0 h0 hF hR cells slots ρ H locs ls ⟨hD.1, hD.2.1, ⟨hD.2.2.1.1, hD.2.2.1.2.1, fun i v hi => hD.2.2.1.2.2 i v (hl i v hi)⟩, hD.2.2.2.1, hD.2.2.2.2.1, hD.2.2.2.2.2.1, fun i v hi => hD.2.2.2.2.2.2.1 i v (hl i v hi), hD.2.2.2.2.2.2.2⟩
-- calls
/-- what a method's words are, wherever it is called -/
def pb_mw (y : pb_M) (n : Nat) : Prop := Cond.code y.1 y.2.1 y.2.2.1 y.2.2.2 ∈ pb_tbl ∧ Cond.initialized y.1.cls ∈ pb_tbl ∧ (y.1.cls ≠ "java/lang/invoke/MethodHandle" ∧ y.1.cls ≠ "java/lang/invoke/VarHandle") ∧ (parseMethodDescriptor y.1.desc).map (fun d => d.parameters.length) = some n ∧ y.2.2.1 ≤ 21
theorem pb_blind {ρ : Nat → Nat} {av : List Value} : FrameBlind (pb_P Z ρ h av) := fun a U g mk hp => ⟨hp.1, hp.2.1, hp.2.2.1, pb_K.same (u := U) (U := U.calling g mk a) rfl hp.2.2.2⟩
theorem pb_sig {x : MethodName} {n : Nat} (h : (parseMethodDescriptor x.desc).map (fun d => d.parameters.length) = some n) : ∀ sig, parseMethodDescriptor x.desc = some sig → n = sig.parameters.length := fun sig hs => by
  rw [hs] at h
  exact (Option.some.inj h).symm
theorem pb_pay {y' : pb_M} {args : Array Value} {s : State} (hts : ∀ w ∈ pb_tbl, w.before args s = true) (hc : Cond.code y'.1 y'.2.1 y'.2.2.1 y'.2.2.2 ∈ pb_tbl) : ∀ w ∈ pb_ws y', ∀ (a' : Array Value) (U : State), s.WarmedH U.vm → w.before a' U = true := fun w hw a' U hW => by
  have hm : w ∈ pb_tbl := (List.mem_cons.mp hw).elim (fun e => e ▸ hc) id
  exact word_at hW (pb_goods hm) (hts w hm)
/-- behind a call -/
theorem pb_after {post' : Option Value → pb_H → Prop} {k' n' k2 n2 pc2 : Nat} {rest stk : List Value} {p : Program} {e : Env} {s : State} {m : MethodId} {args : Array Value} {below : List Frame} {meth : Method} {c : Code} {R : Room} {mc ms : Nat} {ρ0 : Nat → Nat} {h0 : pb_H} {cells slots : Nat} {ρ : Nat → Nat} {H : Heap} {locs : List Loc} {ls : Array Slot} {As : Array Value} (hF : pb_Fx Z y p s m args meth c) (hR : pb_Rm d mc ms R) (hD : pb_Dy Z y k n mc ms ρ0 h0 lv st h cells slots ρ H locs ls) (hs : pb_oks h rest) (hk : k2 + k' ≤ k) (hn : n2 + n' ≤ n) (hp : pc + 3 = pc2)
    (hrun : va_Run p (pb_zl Z) e R s m args below meth c H locs cells slots k' n' (F0 m pc ls stk) (rest.map (pb_up ρ)) (pb_Q Z ρ h post' As) (fun q => pb_zb Z ≤ q))
    (kk : ∀ v h', post' v h' → (∀ b, h b ≠ none → h' b ≠ none) → pb_S Z y d k2 n2 post pc2 lv (v.toList ++ rest) h') :
    W p (pb_zl Z) e R s m args below meth c H locs cells slots (MQ below (pb_Q Z ρ0 h0 post) args s mc ms (fun q => pb_zb Z ≤ q)) (F0 m pc ls stk) := by
  subst hp
  intro T hT X
  obtain ⟨v, st₀, t, T', L, e0, X', hL, e1, e2, ⟨v', ρ', h', q1, q2, q3, q4, q5⟩, hgo⟩ := hrun T hT X
  cases q1
  have he : ∀ b, h b ≠ none → ρ' b = ρ b := fun b hb => (q3 b hb).2
  have hdm : ∀ b, h b ≠ none → h' b ≠ none := fun b hb => (q3 b hb).1
  obtain ⟨t2, a1, b1⟩ := kk v' h' q5 hdm p e s m args below meth c R mc ms ρ0 h0 hF hR (cells + k') (slots + n') ρ' T'.heap (locs ++ L) ls ⟨by have := hD.1; omega, by have := hD.2.1; omega, hD.2.2.1.ext hD.2.2.2.2.2.2.1 he, by rw [e1]; exact q2, fun b hb => ⟨hdm b (hD.2.2.2.2.1 b hb).1, (he b (hD.2.2.2.2.1 b hb).1).trans (hD.2.2.2.2.1 b hb).2⟩, pb_oks_cat q4 (pb_oks_mono hdm hs), fun j w hj => pb_ok_mono hdm (hD.2.2.2.2.2.2.1 j w hj), t_lL hD.2.2.2.2.2.2.2 hL⟩ T' rfl X'
  refine ⟨t2, hgo t2 ?_, b1⟩
  have e9 : (v'.toList ++ rest).map (pb_up ρ') = (v'.map (pb_up ρ')).toList ++ rest.map (pb_up ρ) := by
    rw [List.map_append, pb_ups_ext he hs]
    cases v' <;> rfl
  rw [e9] at a1
  exact a1
theorem pb_cat (ρ : Nat → Nat) (st : List Value) : ((st.map (pb_up ρ)).map fun v => v.category) = st.map fun v => v.category := by
  rw [List.map_map]
  exact List.map_congr_left (fun v _ => pb_up_cat ρ v)
theorem pb_room {m : MethodId} {ls : Array Slot} {stk : List Value} {ρ : Nat → Nat} {rest : List Value} (hr : (rest.map fun v => v.category).sum ≤ 8) : 2 * (F0 m pc ls stk).monitorRoom + ((rest.map (pb_up ρ)).map fun v => v.category).sum ≤ 8 := by
  rw [pb_cat]
  show 2 * 0 + _ ≤ 8
  omega
theorem pb_callB {y' : pb_M} {nn idx d' k' n' : Nat} {args : Array Value} {s : State} {own : String} {R : Room} {mc ms : Nat} (hm : pb_mw y' nn) (hts : ∀ w ∈ pb_tbl, w.before args s = true) (hl : Cond.methodLink own idx y'.1 ∈ pb_tbl) (hR : pb_Rm d mc ms R) (hdd : d' + 1 ≤ d) : CallB R s args own idx y'.1 y'.2.1 y'.2.2.1 y'.2.2.2 (pb_ws y') { frames := d', cells := k', slots := n', locals := 40 * d' } k' n' nn :=
  ⟨rfl, rfl, by show d' + 1 ≤ _; have := hR.1; omega, by show 8 + (_ + 11) + 40 * d' ≤ _; have := hR.2.1; have := hm.2.2.2.2; omega, pb_pay hts hm.1, List.mem_cons_self, hts _ hm.1, hts _ hm.2.1, hm.2.2.1, pb_sig hm.2.2.2.1, hts _ hl⟩
theorem pb_callS {y' : pb_M} {nn idx d' k' n' k2 n2 pc2 : Nat} {post' : Option Value → pb_H → Prop} {av rest : List Value} (hm : pb_mw y' nn) (hsw : Cond.static y'.1 ∈ pb_tbl) {own : String} (hw : y.1.cls = own) (hl : Cond.methodLink own idx y'.1 ∈ pb_tbl) (hd : decode y.2.1 pc = .ok (.invokestatic idx, 3)) (hT : pb_T Z y' d' k' n' av h post') (hdd : d' + 1 ≤ d) (hk : k2 + k' ≤ k) (hn : n2 + n' ≤ n) (hlen : av.length = nn) (hst : av.reverse ++ rest = st) (hr : (rest.map fun v => v.category).sum ≤ 8) (hp : pc + 3 = pc2) (kk : ∀ v h', post' v h' → (∀ b, h b ≠ none → h' b ≠ none) → pb_S Z y d k2 n2 post pc2 lv (v.toList ++ rest) h') : pb_S Z y d k n post pc lv st h := by
  subst hw hst
  intro p e s m args below meth c R mc ms ρ0 h0 hF hR cells slots ρ H locs ls hD
  have hts := hF.2.2.2.2.2.1
  have hoks := pb_oks_app hD.oks
  refine pb_after (As := (av.map (pb_up ρ)).toArray) hF hR hD hoks.2 hk hn hp ?_ kk
  exact va_runS (As := av.map (pb_up ρ)) (rest := rest.map (pb_up ρ)) ⟨hF.1, hF.2.1, hF.2.2.2.1, hF.2.2.2.2.1, hts⟩ (hT ρ) ⟨pb_callB hm hts hl hR hdd, hts _ hsw⟩ ⟨pb_blind, fun U hU hW => ⟨rfl, by rw [hU]; exact hD.2.2.2.1, pb_oks_rev hoks.1, pb_K.warm hW hF.2.2.2.2.2.2.1⟩⟩ rfl (by rw [List.length_map]; exact hlen) hD.2.2.1.1 (by rw [List.map_append, List.map_reverse]) (pb_room hr) hd ⟨by rw [hR.2.2.1]; have := hD.1; omega, by rw [hR.2.2.2]; have := hD.2.1; omega⟩
theorem pb_callSN {y' : pb_M} {nn idx d' k' n' k2 n2 pc2 : Nat} {post' : Option Value → pb_H → Prop} {av rest : List Value} {host : String} (hm : pb_mw y' nn) (hsw : Cond.static y'.1 ∈ pb_tbl) {own : String} (hw : y.1.cls = own) (hl : Cond.methodLinkNest own idx y'.1 host ∈ pb_nw) (hd : decode y.2.1 pc = .ok (.invokestatic idx, 3)) (hT : pb_T Z y' d' k' n' av h post') (hdd : d' + 1 ≤ d) (hk : k2 + k' ≤ k) (hn : n2 + n' ≤ n) (hlen : av.length = nn) (hst : av.reverse ++ rest = st) (hr : (rest.map fun v => v.category).sum ≤ 8) (hp : pc + 3 = pc2) (kk : ∀ v h', post' v h' → (∀ b, h b ≠ none → h' b ≠ none) → pb_S Z y d k2 n2 post pc2 lv (v.toList ++ rest) h') : pb_S Z y d k n post pc lv st h := by
  subst hw hst
  intro p e s m args below meth c R mc ms ρ0 h0 hF hR cells slots ρ H locs ls hD
  have hts := hF.2.2.2.2.2.1
  have hoks := pb_oks_app hD.oks
  refine pb_after (As := (av.map (pb_up ρ)).toArray) hF hR hD hoks.2 hk hn hp ?_ kk
  exact va_runSN (host := host) (As := av.map (pb_up ρ)) (rest := rest.map (pb_up ρ)) ⟨hF.1, hF.2.1, hF.2.2.2.1, hF.2.2.2.2.1, hts⟩ (hT ρ) ⟨⟨⟨rfl, rfl, by show d' + 1 ≤ _; have := hR.1; omega, by show 8 + (_ + 11) + 40 * d' ≤ _; have := hR.2.1; have := hm.2.2.2.2; omega, pb_pay hts hm.1, List.mem_cons_self⟩, hts _ hm.1, hts _ hm.2.1, hm.2.2.1, pb_sig hm.2.2.2.1, va_Nw.use rfl (hF.2.2.2.2.2.2.1.2 _ hl)⟩, hts _ hsw, trivial⟩ ⟨pb_blind, fun U hU hW => ⟨rfl, by rw [hU]; exact hD.2.2.2.1, pb_oks_rev hoks.1, pb_K.warm hW hF.2.2.2.2.2.2.1⟩⟩ rfl (by rw [List.length_map]; exact hlen) hD.2.2.1.1 (by rw [List.map_append, List.map_reverse]) (pb_room hr) hd ⟨by rw [hR.2.2.1]; have := hD.1; omega, by rw [hR.2.2.2]; have := hD.2.1; omega⟩
theorem pb_recv {ρ : Nat → Nat} {H : Heap} {ci a N : Nat} {C : String} {T : u_T} {fs : List Value} {s : State} (hK : pb_K Z s) (hr : pb_Rl Z ρ h H) (hC : vwCl[ci]? = some (C, T, N)) (ha : h a = some (.inr (.inr (ci, fs)))) : ∃ cellB : Cell, H[ρ a]? = some cellB ∧ cellB.vm.isStatics = false ∧ s.vm.findClass C = some cellB.cls := by
  obtain ⟨r, h1, -, cell, g1, g2, g3, -⟩ := (hr.1 a _ ha).1
  exact ⟨cell, g1, by rw [g3]; rfl, by rw [g2]; exact (hK.1.1.1 ci _ hC).2.1⟩
theorem pb_callV {y' : pb_M} {nn idx d' k' n' k2 n2 pc2 ci a N : Nat} {C : String} {T : u_T} {fs : List Value} {post' : Option Value → pb_H → Prop} {av rest : List Value} (hm : pb_mw y' nn) (hC : vwCl[ci]? = some (C, T, N)) (hin : Cond.instanceMethod y'.1 ∈ pb_tbl) (hse : Cond.selects C y'.1 y'.1 ∈ pb_tbl) {own : String} (hw : y.1.cls = own) (hl : Cond.methodLink own idx y'.1 ∈ pb_tbl) (hd : decode y.2.1 pc = .ok (.invokevirtual idx, 3)) (ha : h a = some (.inr (.inr (ci, fs)))) (hT : pb_T Z y' d' k' n' (.ref a :: av) h post') (hdd : d' + 1 ≤ d) (hk : k2 + k' ≤ k) (hn : n2 + n' ≤ n) (hlen : av.length = nn) (hst : av.reverse ++ .ref a :: rest = st) (hr : (rest.map fun v => v.category).sum ≤ 8) (hp : pc + 3 = pc2) (kk : ∀ v h', post' v h' → (∀ b, h b ≠ none → h' b ≠ none) → pb_S Z y d k2 n2 post pc2 lv (v.toList ++ rest) h') : pb_S Z y d k n post pc lv st h := by
  subst hw hst
  intro p e s m args below meth c R mc ms ρ0 h0 hF hR cells slots ρ H locs ls hD
  have hts := hF.2.2.2.2.2.1
  have hoks := pb_oks_app hD.oks
  refine pb_after (As := (Value.ref (ρ a) :: av.map (pb_up ρ)).toArray) hF hR hD hoks.2.2 hk hn hp ?_ kk
  exact va_runV (b := ρ a) (As := av.map (pb_up ρ)) (rest := rest.map (pb_up ρ)) ⟨hF.1, hF.2.1, hF.2.2.2.1, hF.2.2.2.2.1, hts⟩ (hT ρ) ⟨pb_callB hm hts hl hR hdd, hts _ hin, hts _ hse⟩ ⟨pb_blind, pb_recv hF.2.2.2.2.2.2.1 hD.2.2.2.1 hC ha, fun U hU hW => ⟨rfl, by rw [hU]; exact hD.2.2.2.1, ⟨hoks.2.1, pb_oks_rev hoks.1⟩, pb_K.warm hW hF.2.2.2.2.2.2.1⟩⟩ rfl (by rw [List.length_map]; exact hlen) hD.2.2.1.1 (by rw [List.map_append, List.map_reverse]; rfl) (pb_room hr) hd ⟨by rw [hR.2.2.1]; have := hD.1; omega, by rw [hR.2.2.2]; have := hD.2.1; omega⟩
/-- a method that the receiver's class inherits, or that an abstract one names: x is named, y' is run -/
theorem pb_callU {y' : pb_M} {x : MethodName} {owner : String} {nn idx d' k' n' k2 n2 pc2 ci a N : Nat} {C : String} {T : u_T} {fs : List Value} {post' : Option Value → pb_H → Prop} {av rest : List Value} (hm : pb_mw y' nn) (hC : vwCl[ci]? = some (C, T, N)) (hxd : x.desc = y'.1.desc) (how : owner ≠ "java/lang/invoke/MethodHandle" ∧ owner ≠ "java/lang/invoke/VarHandle") (hin : Cond.instanceMethod y'.1 ∈ pb_tbl) (hse : Cond.selects C x y'.1 ∈ pb_tbl) (hsm : Cond.sameMethod x.cls owner x.name x.desc ∈ pb_tbl) (hdc : y'.1 = ⟨owner, x.name, x.desc⟩ ∨ Cond.declares ⟨owner, x.name, x.desc⟩ ∈ pb_nw) {own : String} (hw : y.1.cls = own) (hl : Cond.methodLink own idx x ∈ pb_tbl) (hd : decode y.2.1 pc = .ok (.invokevirtual idx, 3)) (ha : h a = some (.inr (.inr (ci, fs)))) (hT : pb_T Z y' d' k' n' (.ref a :: av) h post') (hdd : d' + 1 ≤ d) (hk : k2 + k' ≤ k) (hn : n2 + n' ≤ n) (hlen : av.length = nn) (hst : av.reverse ++ .ref a :: rest = st) (hr : (rest.map fun v => v.category).sum ≤ 8) (hp : pc + 3 = pc2) (kk : ∀ v h', post' v h' → (∀ b, h b ≠ none → h' b ≠ none) → pb_S Z y d k2 n2 post pc2 lv (v.toList ++ rest) h') : pb_S Z y d k n post pc lv st h := by
  subst hw hst
  intro p e s m args below meth c R mc ms ρ0 h0 hF hR cells slots ρ H locs ls hD
  have hts := hF.2.2.2.2.2.1
  have hoks := pb_oks_app hD.oks
  refine pb_after (As := (Value.ref (ρ a) :: av.map (pb_up ρ)).toArray) hF hR hD hoks.2.2 hk hn hp ?_ kk
  have hdcl : va_Decl s ⟨owner, x.name, x.desc⟩ := by
    rcases hdc with hdc | hdc
    · rw [← hdc]
      exact va_Decl.of (hts _ hin) (hts _ hm.1)
    · exact va_Decl.abs (hF.2.2.2.2.2.2.1.2 _ hdc)
  exact va_runU (x := x) (owner := owner) (b := ρ a) (As := av.map (pb_up ρ)) (rest := rest.map (pb_up ρ)) ⟨hF.1, hF.2.1, hF.2.2.2.1, hF.2.2.2.2.1, hts⟩ (hT ρ) ⟨⟨rfl, rfl, by show d' + 1 ≤ _; have := hR.1; omega, by show 8 + (_ + 11) + 40 * d' ≤ _; have := hR.2.1; have := hm.2.2.2.2; omega, pb_pay hts hm.1, List.mem_cons_self⟩, hts _ hm.1, hts _ hm.2.1, how, by rw [hxd]; exact pb_sig hm.2.2.2.1, hts _ hl, hts _ hsm, hdcl, hts _ hse, hts _ hin⟩ ⟨pb_blind, pb_recv hF.2.2.2.2.2.2.1 hD.2.2.2.1 hC ha, fun U hU hW => ⟨rfl, by rw [hU]; exact hD.2.2.2.1, ⟨hoks.2.1, pb_oks_rev hoks.1⟩, pb_K.warm hW hF.2.2.2.2.2.2.1⟩⟩ rfl (by rw [List.length_map]; exact hlen) hD.2.2.1.1 (by rw [List.map_append, List.map_reverse]; rfl) (pb_room hr) hd ⟨by rw [hR.2.2.1]; have := hD.1; omega, by rw [hR.2.2.2]; have := hD.2.1; omega⟩
theorem pb_callI {y' : pb_M} {nn idx d' k' n' k2 n2 pc2 a : Nat} {post' : Option Value → pb_H → Prop} {av rest : List Value} (hm : pb_mw y' nn) (hret : y'.2.2.2 = none) (hni : y'.1.name = "<init>") (hin : Cond.instanceMethod y'.1 ∈ pb_tbl) {own : String} (hw : y.1.cls = own) (hl : Cond.methodLink own idx y'.1 ∈ pb_tbl) (hd : decode y.2.1 pc = .ok (.invokespecial idx, 3)) (hT : pb_T Z y' d' k' n' (.ref a :: av) h post') (hdd : d' + 1 ≤ d) (hk : k2 + k' ≤ k) (hn : n2 + n' ≤ n) (hlen : av.length = nn) (hst : av.reverse ++ .ref a :: rest = st) (hr : (rest.map fun v => v.category).sum ≤ 8) (hp : pc + 3 = pc2) (kk : ∀ v h', post' v h' → (∀ b, h b ≠ none → h' b ≠ none) → pb_S Z y d k2 n2 post pc2 lv (v.toList ++ rest) h') : pb_S Z y d k n post pc lv st h := by
  subst hw hst
  intro p e s m args below meth c R mc ms ρ0 h0 hF hR cells slots ρ H locs ls hD
  have hts := hF.2.2.2.2.2.1
  have hoks := pb_oks_app hD.oks
  refine pb_after (As := (Value.ref (ρ a) :: av.map (pb_up ρ)).toArray) hF hR hD hoks.2.2 hk hn hp ?_ kk
  have cb := pb_callB (k' := k') (n' := n') hm hts hl hR hdd
  rw [hret] at cb
  exact va_runI (b := ρ a) (As := av.map (pb_up ρ)) (rest := rest.map (pb_up ρ)) ⟨hF.1, hF.2.1, hF.2.2.2.1, hF.2.2.2.2.1, hts⟩ (hT ρ) ⟨cb, hni, hts _ hin⟩ ⟨pb_blind, fun U hU hW => ⟨rfl, by rw [hU]; exact hD.2.2.2.1, ⟨hoks.2.1, pb_oks_rev hoks.1⟩, pb_K.warm hW hF.2.2.2.2.2.2.1⟩⟩ rfl (by rw [List.length_map]; exact hlen) hD.2.2.1.1 (by rw [List.map_append, List.map_reverse]; rfl) (pb_room hr) hd ⟨by rw [hR.2.2.1]; have := hD.1; omega, by rw [hR.2.2.2]; have := hD.2.1; omega⟩
theorem pb_callIN {y' : pb_M} {nn idx d' k' n' k2 n2 pc2 a : Nat} {host : String} {post' : Option Value → pb_H → Prop} {av rest : List Value} (hm : pb_mw y' nn) (hret : y'.2.2.2 = none) (hni : y'.1.name = "<init>") (hin : Cond.instanceMethod y'.1 ∈ pb_tbl) {own : String} (hw : y.1.cls = own) (hl : Cond.methodLinkNest own idx y'.1 host ∈ pb_nw) (hd : decode y.2.1 pc = .ok (.invokespecial idx, 3)) (hT : pb_T Z y' d' k' n' (.ref a :: av) h post') (hdd : d' + 1 ≤ d) (hk : k2 + k' ≤ k) (hn : n2 + n' ≤ n) (hlen : av.length = nn) (hst : av.reverse ++ .ref a :: rest = st) (hr : (rest.map fun v => v.category).sum ≤ 8) (hp : pc + 3 = pc2) (kk : ∀ v h', post' v h' → (∀ b, h b ≠ none → h' b ≠ none) → pb_S Z y d k2 n2 post pc2 lv (v.toList ++ rest) h') : pb_S Z y d k n post pc lv st h := by
  subst hw hst
  intro p e s m args below meth c R mc ms ρ0 h0 hF hR cells slots ρ H locs ls hD
  have hts := hF.2.2.2.2.2.1
  have hoks := pb_oks_app hD.oks
  refine pb_after (As := (Value.ref (ρ a) :: av.map (pb_up ρ)).toArray) hF hR hD hoks.2.2 hk hn hp ?_ kk
  have cn : va_CN R s args y.1.cls idx y'.1 host y'.2.1 y'.2.2.1 none (pb_ws y') { frames := d', cells := k', slots := n', locals := 40 * d' } k' n' nn := by
    rw [← hret]
    exact ⟨⟨rfl, rfl, by show d' + 1 ≤ _; have := hR.1; omega, by show 8 + (_ + 11) + 40 * d' ≤ _; have := hR.2.1; have := hm.2.2.2.2; omega, pb_pay hts hm.1, List.mem_cons_self⟩, hts _ hm.1, hts _ hm.2.1, hm.2.2.1, pb_sig hm.2.2.2.1, va_Nw.use rfl (hF.2.2.2.2.2.2.1.2 _ hl)⟩
  exact va_runIN (host := host) (b := ρ a) (As := av.map (pb_up ρ)) (rest := rest.map (pb_up ρ)) ⟨hF.1, hF.2.1, hF.2.2.2.1, hF.2.2.2.2.1, hts⟩ (hT ρ) ⟨cn, hni, hts _ hin⟩ ⟨pb_blind, fun U hU hW => ⟨rfl, by rw [hU]; exact hD.2.2.2.1, ⟨hoks.2.1, pb_oks_rev hoks.1⟩, pb_K.warm hW hF.2.2.2.2.2.2.1⟩⟩ rfl (by rw [List.length_map]; exact hlen) hD.2.2.1.1 (by rw [List.map_append, List.map_reverse]; rfl) (pb_room hr) hd ⟨by rw [hR.2.2.1]; have := hD.1; omega, by rw [hR.2.2.2]; have := hD.2.1; omega⟩
/-- Object.<init> -/
theorem pb_objI {idx a pc2 : Nat} {own : String} (hw : y.1.cls = own) (hl : Cond.methodLink own idx objectInit ∈ pb_tbl) (hd : decode y.2.1 pc = .ok (.invokespecial idx, 3)) (hdd : 1 ≤ d) (hr : (st.map fun v => v.category).sum ≤ 8) (hp : pc + 3 = pc2) (kk : pb_S Z y d k n post pc2 lv st h) : pb_S Z y d k n post pc lv (.ref a :: st) h := by
  subst hw hp
  intro p e s m args below meth c R mc ms ρ0 h0 hF hR cells slots ρ H locs ls hD
  have hts := hF.2.2.2.2.2.1
  refine W.objInit hF.1 hF.2.1 hF.2.2.2.2.1 (hts _ hl) (hts _ (by decide +kernel)) (hts _ pb_objW) rfl (by rw [hF.2.2.2.1]; exact hD.2.2.1.1) rfl hd (by have := hR.1; omega) ?_ ?_
  · show 2 * 0 + ((st.map (pb_up ρ)).map fun v => v.category).sum + 12 ≤ _
    rw [pb_cat]
    have := hR.2.1
    omega
  · exact kk p e s m args below meth c R mc ms ρ0 h0 hF hR cells slots ρ H locs ls (hD.stk hD.oks.2)
end PBC
