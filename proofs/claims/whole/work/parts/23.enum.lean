/-! BITS (rows of kit/laws/BITS.to-paste turned to this claim) AND THE ORDER OF MIXTURES -/
def bt (x : Int32) (i : Nat) : Bool := x.toBitVec.getLsbD i
theorem b_ext {x y : Int32} (h : ∀ i, i < 32 → bt x i = bt y i) : x = y := Int32.toBitVec_inj.mp (BitVec.eq_of_getLsbD_eq (fun i hi => h i hi))
theorem b_and (x y : Int32) (i : Nat) : bt (x &&& y) i = (bt x i && bt y i) := by unfold bt; rw [Int32.toBitVec_and, BitVec.getLsbD_and]
theorem b_or (x y : Int32) (i : Nat) : bt (x ||| y) i = (bt x i || bt y i) := by unfold bt; rw [Int32.toBitVec_or, BitVec.getLsbD_or]
theorem b_xor (x y : Int32) (i : Nat) : bt (x ^^^ y) i = (bt x i ^^ bt y i) := by unfold bt; rw [Int32.toBitVec_xor, BitVec.getLsbD_xor]
theorem s_l : ∀ n, n < 32 → ((nI n &&& 31).toBitVec.smod 32).toNat = n := by decide +kernel
theorem b_nI (s : Nat) {i : Nat} (hi : i < 32) : bt (nI s) i = s.testBit i := by
  unfold bt
  show (BitVec.ofNat 32 s).getLsbD i = _
  rw [BitVec.getLsbD_ofNat]
  simp [hi]
theorem nI_and (a b : Nat) : nI a &&& nI b = nI (a &&& b) := b_ext (fun i hi => by rw [b_and, b_nI a hi, b_nI b hi, b_nI _ hi, Nat.testBit_and])
theorem nI_or (a b : Nat) : nI a ||| nI b = nI (a ||| b) := b_ext (fun i hi => by rw [b_or, b_nI a hi, b_nI b hi, b_nI _ hi, Nat.testBit_or])
theorem nI_xor (a b : Nat) : nI a ^^^ nI b = nI (a ^^^ b) := b_ext (fun i hi => by rw [b_xor, b_nI a hi, b_nI b hi, b_nI _ hi, Nat.testBit_xor])
theorem nI_shr {s t : Nat} (hs : s < 2 ^ 31) (ht : t < 31) : nI s >>> (nI t &&& 31) = nI (s >>> t) := by
  apply Int32.toInt_inj.mp
  have h2 : s >>> t ≤ s := Nat.shiftRight_le s t
  rw [nI_toInt (by omega)]
  show (nI s >>> (nI t &&& 31)).toBitVec.toInt = _
  rw [Int32.toBitVec_shiftRight]
  show ((nI s).toBitVec.sshiftRight' ((nI t &&& 31).toBitVec.smod 32)).toInt = _
  rw [BitVec.sshiftRight', s_l t (by omega), BitVec.toInt_sshiftRight]
  have : (nI s).toBitVec.toInt = (s : Int) := nI_toInt hs
  rw [this]
  rfl
def pb_bit (s t : Nat) : Nat := if s.testBit t then 1 else 0
theorem nI_bit {s t : Nat} (hs : s < 2 ^ 31) (ht : t < 31) : (nI s >>> (nI t &&& 31)) &&& nI 1 = nI (pb_bit s t) := by
  rw [nI_shr hs ht, nI_and]
  congr 1
  unfold pb_bit
  rw [Nat.and_one_is_mod, Nat.shiftRight_eq_div_pow]
  rw [Nat.testBit_eq_decide_div_mod_eq]
  have := Nat.mod_lt (s / 2 ^ t) (show 0 < 2 by decide)
  by_cases h : s / 2 ^ t % 2 = 1
  · rw [if_pos (by simpa using h), h]
  · rw [if_neg (by simpa using h)]
    omega
theorem nI_shl1 : ∀ t, t < 31 → nI 1 <<< (nI t &&& 31) = nI (2 ^ t) := by decide +kernel
theorem pb_bit_le (s t : Nat) : pb_bit s t ≤ 1 := by unfold pb_bit; split <;> omega
theorem pb_bit_1 {s t : Nat} : pb_bit s t = 1 ↔ s.testBit t = true := by
  unfold pb_bit
  split
  · rename_i h; exact ⟨fun _ => h, fun _ => rfl⟩
  · rename_i h; exact ⟨fun q => by omega, fun q => absurd q h⟩
theorem pb_bit_0 {s t : Nat} : pb_bit s t = 0 ↔ s.testBit t = false := by
  unfold pb_bit
  split
  · rename_i h; exact ⟨fun q => by omega, fun q => by rw [h] at q; cases q⟩
  · rename_i h; exact ⟨fun _ => by simpa using h, fun _ => rfl⟩
section PBB
variable {Z : pb_Z} {y : pb_M} {d k n : Nat} {post : Option Value → pb_H → Prop} {pc : Nat} {lv : List (Option Value)} {st : List Value} {h : pb_H}
theorem pb_ishrN {s t : Nat} {pc2 : Nat} (hd : decode y.2.1 pc = .ok (.ishr, 1)) (hs : s < 2 ^ 31) (ht : t < 31) (hp : pc + 1 = pc2) (kk : pb_S Z y d k n post pc2 lv (.int (nI (s >>> t)) :: st) h) : pb_S Z y d k n post pc lv (.int (nI t) :: .int (nI s) :: st) h := pb_ishr hd hp (by rw [nI_shr hs ht]; exact kk)
theorem pb_iandB {s t : Nat} {pc2 : Nat} (hd : decode y.2.1 pc = .ok (.iand, 1)) (hp : pc + 1 = pc2) (kk : pb_S Z y d k n post pc2 lv (.int (nI (pb_bit s t)) :: st) h) : pb_S Z y d k n post pc lv (.int (nI 1) :: .int (nI (s >>> t)) :: st) h := pb_iand hd hp (by
  have e : nI (s >>> t) &&& nI 1 = nI (pb_bit s t) := by
    rw [nI_and]
    congr 1
    unfold pb_bit
    rw [Nat.and_one_is_mod, Nat.shiftRight_eq_div_pow, Nat.testBit_eq_decide_div_mod_eq]
    have := Nat.mod_lt (s / 2 ^ t) (show 0 < 2 by decide)
    by_cases h : s / 2 ^ t % 2 = 1
    · rw [if_pos (by simpa using h), h]
    · rw [if_neg (by simpa using h)]
      omega
  rw [e]
  exact kk)
theorem pb_ishl1 {t : Nat} {pc2 : Nat} (hd : decode y.2.1 pc = .ok (.ishl, 1)) (ht : t < 31) (hp : pc + 1 = pc2) (kk : pb_S Z y d k n post pc2 lv (.int (nI (2 ^ t)) :: st) h) : pb_S Z y d k n post pc lv (.int (nI t) :: .int (nI 1) :: st) h := pb_ishl hd hp (by rw [nI_shl1 t ht]; exact kk)
theorem pb_iorN {a b : Nat} {pc2 : Nat} (hd : decode y.2.1 pc = .ok (.ior, 1)) (hp : pc + 1 = pc2) (kk : pb_S Z y d k n post pc2 lv (.int (nI (a ||| b)) :: st) h) : pb_S Z y d k n post pc lv (.int (nI b) :: .int (nI a) :: st) h := pb_ior hd hp (by rw [nI_or]; exact kk)
theorem pb_iandN {a b : Nat} {pc2 : Nat} (hd : decode y.2.1 pc = .ok (.iand, 1)) (hp : pc + 1 = pc2) (kk : pb_S Z y d k n post pc2 lv (.int (nI (a &&& b)) :: st) h) : pb_S Z y d k n post pc lv (.int (nI b) :: .int (nI a) :: st) h := pb_iand hd hp (by rw [nI_and]; exact kk)
theorem pb_ixorN {a b : Nat} {pc2 : Nat} (hd : decode y.2.1 pc = .ok (.ixor, 1)) (hp : pc + 1 = pc2) (kk : pb_S Z y d k n post pc2 lv (.int (nI (a ^^^ b)) :: st) h) : pb_S Z y d k n post pc lv (.int (nI b) :: .int (nI a) :: st) h := pb_ixor hd hp (by rw [nI_xor]; exact kk)
end PBB
-- mixtures in their order
def pb_fl2 {α : Type} (g : Nat → List α) : Nat → List α
  | 0 => []
  | x + 1 => g (x + 1) ++ pb_fl2 g x
/-- all rows of n drops over the tubes t, t + 1 .. (r of them) that are in s, laid upon P: more of the least tube first -/
def en_l (s : Nat) : Nat → Nat → Nat → (Nat → Nat) → List (Nat → Nat)
  | 0, _, n, P => if n = 0 then [P] else []
  | r + 1, t, n, P => if n = 0 then [P] else if s.testBit t then pb_fl2 (fun x => en_l s r (t + 1) (n - x) (pb_un P t x)) n ++ en_l s r (t + 1) n P else en_l s r (t + 1) n P
theorem en_0 (s : Nat) : ∀ r t P, en_l s r t 0 P = [P]
  | 0, _, _ => rfl
  | _ + 1, _, _ => rfl
theorem pb_fl2_mem {α : Type} {g : Nat → List α} {a : α} : ∀ {n}, a ∈ pb_fl2 g n → ∃ x, 1 ≤ x ∧ x ≤ n ∧ a ∈ g x
  | 0, h => by cases h
  | n + 1, h => by
    rcases List.mem_append.mp h with h | h
    · exact ⟨n + 1, by omega, by omega, h⟩
    · obtain ⟨x, h1, h2, h3⟩ := pb_fl2_mem h
      exact ⟨x, h1, by omega, h3⟩
theorem pb_sum_un2 {P : Nat → Nat} {t x T : Nat} (ht : t < T) (h0 : P t = 0) : pb_sum T (pb_un P t x) = pb_sum T P + x := by
  have := pb_sum_un (F := P) (v := x) T ht
  omega
theorem en_ok {s : Nat} : ∀ (r t n T : Nat) (P : Nat → Nat), t + r = T → (∀ i, t ≤ i → P i = 0) → ∀ Q ∈ en_l s r t n P, pb_sum T Q = pb_sum T P + n ∧ (∀ i, T ≤ i → Q i = 0) ∧ (∀ i, i < T → t ≤ i → 0 < Q i → s.testBit i = true) ∧ ∀ i, i < t → Q i = P i := by
  intro r
  induction r with
  | zero =>
    intro t n T P h1 h0 Q hQ
    unfold en_l at hQ
    by_cases hn : n = 0
    · rw [if_pos hn, List.mem_singleton] at hQ
      subst hQ hn
      exact ⟨rfl, fun i hi => h0 i (by omega), fun i h2 h3 h4 => by omega, fun i _ => rfl⟩
    · rw [if_neg hn] at hQ
      cases hQ
  | succ r ih =>
    intro t n T P h1 h0 Q hQ
    unfold en_l at hQ
    by_cases hn : n = 0
    · rw [if_pos hn, List.mem_singleton] at hQ
      subst hQ hn
      exact ⟨rfl, fun i hi => h0 i (by omega), fun i h2 h3 h4 => by rw [h0 i h3] at h4; omega, fun i _ => rfl⟩
    · rw [if_neg hn] at hQ
      have skip : Q ∈ en_l s r (t + 1) n P → pb_sum T Q = pb_sum T P + n ∧ (∀ i, T ≤ i → Q i = 0) ∧ (∀ i, i < T → t ≤ i → 0 < Q i → s.testBit i = true) ∧ ∀ i, i < t → Q i = P i := fun hQ => by
        obtain ⟨g1, g2, g3, g4⟩ := ih (t + 1) n T P (by omega) (fun i hi => h0 i (by omega)) Q hQ
        refine ⟨g1, g2, fun i h2 h3 h4 => ?_, fun i hi => g4 i (by omega)⟩
        by_cases e : i = t
        · rw [e, g4 t (by omega), h0 t (Nat.le_refl _)] at h4; omega
        · exact g3 i h2 (by omega) h4
      by_cases hb : s.testBit t = true
      · rw [if_pos hb] at hQ
        rcases List.mem_append.mp hQ with hQ | hQ
        · obtain ⟨x, x1, x2, hQ⟩ := pb_fl2_mem hQ
          obtain ⟨g1, g2, g3, g4⟩ := ih (t + 1) (n - x) T (pb_un P t x) (by omega) (fun i hi => by rw [pb_un_ne P x (by omega)]; exact h0 i (by omega)) Q hQ
          rw [pb_sum_un2 (by omega) (h0 t (Nat.le_refl _))] at g1
          refine ⟨by omega, g2, fun i h2 h3 h4 => ?_, fun i hi => by rw [g4 i (by omega), pb_un_ne P x (by omega)]⟩
          by_cases e : i = t
          · rw [e]; exact hb
          · exact g3 i h2 (by omega) h4
        · exact skip hQ
      · rw [if_neg hb] at hQ
        exact skip hQ
-- chains
def pb_ch {α : Type} (R : α → α → Prop) : List α → Prop
  | [] => True
  | a :: l => (∀ b, l.head? = some b → R a b) ∧ pb_ch R l
theorem pb_ch_app {α : Type} {R : α → α → Prop} : ∀ {l1 l2 : List α}, pb_ch R l1 → pb_ch R l2 → (∀ a b, l1.getLast? = some a → l2.head? = some b → R a b) → pb_ch R (l1 ++ l2)
  | [], l2, _, h2, _ => h2
  | [a], l2, h1, h2, h3 => ⟨fun b hb => h3 a b rfl hb, h2⟩
  | a :: b :: l, l2, h1, h2, h3 => ⟨h1.1, pb_ch_app (l1 := b :: l) h1.2 h2 (fun x y hx hy => h3 x y (by rw [List.getLast?_cons_cons]; exact hx) hy)⟩
/-- the next row: l is the last tube of the set -/
def pb_nx (s l : Nat) (P Q : Nat → Nat) : Prop := ∃ u v, u < l ∧ 0 < P u ∧ (∀ i, u < i → i < l → P i = 0) ∧ u < v ∧ v ≤ l ∧ s.testBit v = true ∧ (∀ i, u < i → i < v → s.testBit i = false) ∧ Q = fun i => if i = v then P l + 1 else if i = u then P u - 1 else if i = l then 0 else P i
/-- first and last of them, and how they follow each other -/
theorem en_ch {s l T : Nat} (hl : s.testBit l = true) (hlT : l < T) (hlm : ∀ i, l < i → i < T → s.testBit i = false) : ∀ (r t n : Nat) (P : Nat → Nat), t + r = T → 0 < n → (∀ i, t ≤ i → P i = 0) → (t ≤ l → ∃ f, t ≤ f ∧ f ≤ l ∧ s.testBit f = true ∧ (∀ i, t ≤ i → i < f → s.testBit i = false) ∧ (en_l s r t n P).head? = some (pb_un P f n) ∧ (en_l s r t n P).getLast? = some (pb_un P l n) ∧ pb_ch (pb_nx s l) (en_l s r t n P)) ∧ (l < t → en_l s r t n P = []) := by
  intro r
  induction r with
  | zero =>
    intro t n P h1 hn h0
    refine ⟨fun q => by omega, fun q => ?_⟩
    unfold en_l
    rw [if_neg (by omega)]
  | succ r ih =>
    intro t n P h1 hn h0
    have hskip := ih (t + 1) n P (by omega) hn (fun i hi => h0 i (by omega))
    by_cases hb : s.testBit t = true
    · have htl : t ≤ l := by
        apply Nat.le_of_not_lt
        intro q
        rw [hlm t q (by omega)] at hb
        cases hb
      have hen : en_l s (r + 1) t n P = pb_fl2 (fun x => en_l s r (t + 1) (n - x) (pb_un P t x)) n ++ en_l s r (t + 1) n P := by
        show (if n = 0 then _ else _) = _
        rw [if_neg (by omega), if_pos hb]
      have huu : ∀ x f m, f ≠ t → pb_un (pb_un P t x) f m = fun i => if i = f then m else if i = t then x else P i := fun x f m hf => rfl
      refine ⟨fun _ => ?_, fun q => by omega⟩
      refine ⟨t, Nat.le_refl _, htl, hb, fun i a b => by omega, ?_⟩
      rw [hen]
      by_cases e : t = l
      · -- the last tube: one row alone
        subst e
        have tail : ∀ x, x < n → pb_fl2 (fun x => en_l s r (t + 1) (n - x) (pb_un P t x)) x = [] := by
          intro x
          induction x with
          | zero => intro _; rfl
          | succ x ihx =>
            intro hx
            show en_l s r (t + 1) (n - (x + 1)) (pb_un P t (x + 1)) ++ _ = []
            rw [ihx (by omega), (ih (t + 1) (n - (x + 1)) (pb_un P t (x + 1)) (by omega) (by omega) (fun i hi => by rw [pb_un_ne P _ (by omega)]; exact h0 i (by omega))).2 (by omega)]
            rfl
        obtain ⟨m, rfl⟩ : ∃ m, n = m + 1 := ⟨n - 1, by omega⟩
        have e1 : pb_fl2 (fun x => en_l s r (t + 1) (m + 1 - x) (pb_un P t x)) (m + 1) = [pb_un P t (m + 1)] := by
          show en_l s r (t + 1) (m + 1 - (m + 1)) (pb_un P t (m + 1)) ++ pb_fl2 _ m = _
          rw [tail m (by omega), Nat.sub_self, en_0]
          rfl
        rw [e1, hskip.2 (by omega)]
        exact ⟨rfl, rfl, (fun b hb => by cases hb), trivial⟩
      · have htl2 : t + 1 ≤ l := by omega
        obtain ⟨f, f1, f2, f3, f4, k1, k2, k3⟩ := hskip.1 htl2
        -- the rows with x at t, from x on down to 0
        have key : ∀ x, x ≤ n → 0 < x → (pb_fl2 (fun x => en_l s r (t + 1) (n - x) (pb_un P t x)) x ++ en_l s r (t + 1) n P).head? = some (if x = n then pb_un P t n else pb_un (pb_un P t x) f (n - x)) ∧ (pb_fl2 (fun x => en_l s r (t + 1) (n - x) (pb_un P t x)) x ++ en_l s r (t + 1) n P).getLast? = some (pb_un P l n) ∧ pb_ch (pb_nx s l) (pb_fl2 (fun x => en_l s r (t + 1) (n - x) (pb_un P t x)) x ++ en_l s r (t + 1) n P) := by
          intro x
          induction x with
          | zero => intro _ q; omega
          | succ x ihx =>
            intro hx _
            have rest : ∃ L, pb_fl2 (fun x => en_l s r (t + 1) (n - x) (pb_un P t x)) x ++ en_l s r (t + 1) n P = L ∧ L.head? = some (fun i => if i = f then n - x else if i = t then x else P i) ∧ L.getLast? = some (pb_un P l n) ∧ pb_ch (pb_nx s l) L := by
              refine ⟨_, rfl, ?_⟩
              by_cases hx0 : x = 0
              · subst hx0
                refine ⟨?_, k2, k3⟩
                show (en_l s r (t + 1) n P).head? = _
                rw [k1]
                congr 1
                funext i
                unfold pb_un
                by_cases ei : i = f
                · rw [if_pos ei, if_pos ei]; rfl
                · rw [if_neg ei, if_neg ei]
                  by_cases et : i = t
                  · rw [if_pos et, et]; exact h0 t (Nat.le_refl _)
                  · rw [if_neg et]
              · obtain ⟨g1, g2, g3⟩ := ihx (by omega) (by omega)
                rw [if_neg (by omega)] at g1
                exact ⟨g1, g2, g3⟩
            obtain ⟨L, eL, hL1, hL2, hL3⟩ := rest
            have eall : pb_fl2 (fun x => en_l s r (t + 1) (n - x) (pb_un P t x)) (x + 1) ++ en_l s r (t + 1) n P = en_l s r (t + 1) (n - (x + 1)) (pb_un P t (x + 1)) ++ L := by
              show (_ ++ _) ++ _ = _
              rw [List.append_assoc, eL]
            rw [eall]
            have hLne : L ≠ [] := fun q => by rw [q] at hL1; cases hL1
            have hlast : ∀ B : List (Nat → Nat), (B ++ L).getLast? = some (pb_un P l n) := fun B => by
              rw [List.getLast?_append, hL2]
              rfl
            by_cases hxn : x + 1 = n
            · rw [hxn, Nat.sub_self, en_0]
              refine ⟨by rw [if_pos rfl]; rfl, hlast _, pb_ch_app ⟨(fun b hb => by cases hb), trivial⟩ hL3 (fun a b ha hb => ?_)⟩
              have ha : pb_un P t n = a := Option.some.inj ha
              subst ha
              rw [hL1] at hb
              cases hb
              refine ⟨t, f, by omega, by rw [pb_un_self]; omega, fun i i1 i2 => by rw [pb_un_ne P n (by omega)]; exact h0 i (by omega), by omega, f2, f3, fun i i1 i2 => f4 i (by omega) i2, ?_⟩
              funext i
              rw [pb_un_self, pb_un_ne P n (show l ≠ t by omega), h0 l (by omega)]
              by_cases ei : i = f
              · rw [if_pos ei, if_pos ei]; omega
              · rw [if_neg ei, if_neg ei]
                by_cases et : i = t
                · rw [if_pos et, if_pos et]; omega
                · rw [if_neg et, if_neg et]
                  by_cases el : i = l
                  · rw [if_pos el, el]; exact h0 l (by omega)
                  · rw [if_neg el, pb_un_ne P n et]
            · obtain ⟨f', f1', f2', f3', f4', k1', k2', k3'⟩ := (ih (t + 1) (n - (x + 1)) (pb_un P t (x + 1)) (by omega) (by omega) (fun i hi => by rw [pb_un_ne P _ (by omega)]; exact h0 i (by omega))).1 htl2
              have eff : f' = f := by
                rcases Nat.lt_trichotomy f' f with q | q | q
                · rw [f4 f' f1' q] at f3'; cases f3'
                · exact q
                · rw [f4' f f1 q] at f3; cases f3
              subst eff
              have hBne : en_l s r (t + 1) (n - (x + 1)) (pb_un P t (x + 1)) ≠ [] := fun q => by rw [q] at k1'; cases k1'
              refine ⟨?_, hlast _, pb_ch_app k3' hL3 (fun a b ha hb => ?_)⟩
              · rw [if_neg hxn]
                cases hB : en_l s r (t + 1) (n - (x + 1)) (pb_un P t (x + 1)) with
                | nil => exact absurd hB hBne
                | cons z B =>
                  rw [hB] at k1'
                  exact k1'
              · rw [k2'] at ha
                cases ha
                rw [hL1] at hb
                cases hb
                refine ⟨t, f', by omega, ?_, fun i i1 i2 => ?_, by omega, f2, f3, fun i i1 i2 => f4 i (by omega) i2, ?_⟩
                · rw [pb_un_ne _ _ (show t ≠ l by omega), pb_un_self]; omega
                · rw [pb_un_ne _ _ (show i ≠ l by omega), pb_un_ne _ _ (show i ≠ t by omega)]; exact h0 i (by omega)
                · funext i
                  rw [pb_un_self, pb_un_ne _ _ (show t ≠ l by omega), pb_un_self]
                  by_cases ei : i = f'
                  · rw [if_pos ei, if_pos ei]; omega
                  · rw [if_neg ei, if_neg ei]
                    by_cases et : i = t
                    · rw [if_pos et, if_pos et]; rfl
                    · rw [if_neg et, if_neg et]
                      by_cases el : i = l
                      · rw [if_pos el, el]; exact h0 l (by omega)
                      · rw [if_neg el, pb_un_ne _ _ el, pb_un_ne _ _ et]
        obtain ⟨g1, g2, g3⟩ := key n (Nat.le_refl _) hn
        rw [if_pos rfl] at g1
        exact ⟨g1, g2, g3⟩
    · have hb2 : s.testBit t = false := by simpa using hb
      have hen : en_l s (r + 1) t n P = en_l s r (t + 1) n P := by
        show (if n = 0 then _ else _) = _
        rw [if_neg (by omega), if_neg hb]
      rw [hen]
      have hne : t ≠ l := fun q => by rw [q, hl] at hb2; cases hb2
      refine ⟨fun q => ?_, fun q => hskip.2 (by omega)⟩
      obtain ⟨f, f1, f2, f3, f4, k⟩ := hskip.1 (by omega)
      refine ⟨f, by omega, f2, f3, fun i i1 i2 => ?_, k⟩
      by_cases e : i = t
      · rw [e]; exact hb2
      · exact f4 i (by omega) i2

