theorem nI_mul (a b : Nat) : nI a * nI b = nI (a * b) := (Int32.ofNat_mul a b).symm
theorem nI_sub {a b : Nat} (h : b ≤ a) : nI a - nI b = nI (a - b) := by
  have e : nI a = nI (a - b) + nI b := by rw [nI_add, Nat.sub_add_cancel h]
  rw [e, Int32.add_sub_cancel]
theorem nI_inj {a b : Nat} (ha : a < 2 ^ 31) (hb : b < 2 ^ 31) (h : nI a = nI b) : a = b := by
  have := congrArg Int32.toInt h
  rw [nI_toInt ha, nI_toInt hb] at this
  omega
theorem nI_div {a b : Nat} (ha : a < 2 ^ 31) (hb : b < 2 ^ 31) : nI a / nI b = nI (a / b) := by
  apply Int32.toInt_inj.mp
  have hq : a / b < 2 ^ 31 := Nat.lt_of_le_of_lt (Nat.div_le_self a b) ha
  rw [nI_toInt hq, Int32.toInt_div, nI_toInt ha, nI_toInt hb]
  rw [← Int.ofNat_tdiv]
  generalize a / b = q at hq ⊢
  rw [Int.bmod_eq_of_le] <;> omega
theorem lN_tI {n : Nat} (h : n < 2 ^ 63) : (lN n).toInt = (n : Int) := lg_ofNat_toInt h
theorem lN_div {a b : Nat} (ha : a < 2 ^ 63) (hb : b < 2 ^ 63) : lN a / lN b = lN (a / b) := by
  apply Int64.toInt_inj.mp
  have hq : a / b < 2 ^ 63 := Nat.lt_of_le_of_lt (Nat.div_le_self a b) ha
  rw [lN_tI hq, Int64.toInt_div, lN_tI ha, lN_tI hb]
  rw [← Int.ofNat_tdiv]
  generalize a / b = q at hq ⊢
  rw [Int.bmod_eq_of_le] <;> omega
theorem lN_ltI {a b : Nat} (ha : a < 2 ^ 63) (hb : b < 2 ^ 63) : lN a < lN b ↔ a < b := by
  rw [Int64.lt_iff_toInt_lt, lN_tI ha, lN_tI hb]; omega
theorem lN_inj {a b : Nat} (ha : a < 2 ^ 63) (hb : b < 2 ^ 63) (h : lN a = lN b) : a = b := by
  have := congrArg Int64.toInt h
  rw [lN_tI ha, lN_tI hb] at this
  omega
theorem lN_ne0 {b : Nat} (h0 : 0 < b) (hb : b < 2 ^ 63) : ¬ lN b = 0 := fun h => by
  have := lN_inj (a := b) (b := 0) hb (by decide) h
  omega
theorem nI_i2l {a : Nat} (ha : a < 2 ^ 31) : (nI a).toInt64 = lN a := by
  apply Int64.toInt_inj.mp
  rw [Int32.toInt_toInt64, nI_toInt ha, lN_tI (by omega)]
theorem lN_l2i (a : Nat) : (lN a).toInt32 = nI a := lN_i a
theorem nI_mod {a b : Nat} (h : nI a = nI b) : a % 2 ^ 32 = b % 2 ^ 32 := by
  have := congrArg (fun x : Int32 => x.toBitVec.toNat) h
  exact this
/-- how two longs lie -/
def pb_cmp (a b : Nat) : Int32 := if b < a then 1 else if a = b then 0 else -1
theorem pb_cmp_lg {a b : Nat} (ha : a < 2 ^ 63) (hb : b < 2 ^ 63) : lg_cmp (lN a) (lN b) = pb_cmp a b := by
  unfold lg_cmp pb_cmp
  by_cases h1 : b < a
  · rw [if_pos h1, if_pos ((lN_ltI hb ha).mpr h1)]
  · rw [if_neg h1, if_neg (fun q => h1 ((lN_ltI hb ha).mp q))]
    by_cases h2 : a = b
    · rw [if_pos h2, if_pos (by rw [h2])]
    · rw [if_neg h2, if_neg (fun q => h2 (lN_inj ha hb q))]
def pb_un (F : Nat → Nat) (i v : Nat) : Nat → Nat := fun j => if j = i then v else F j
theorem pb_un_nI (F : Nat → Nat) (i v : Nat) : pb_u (fun j => nI (F j)) i (nI v) = fun j => nI (pb_un F i v j) := by
  funext j
  unfold pb_u pb_un
  by_cases e : j = i
  · rw [if_pos e, if_pos e]
  · rw [if_neg e, if_neg e]
theorem pb_cmp_gt {a b : Nat} : 0 < pb_cmp a b ↔ b < a := by
  unfold pb_cmp
  split
  · rename_i h1; exact ⟨fun _ => h1, fun _ => by decide⟩
  · rename_i h1
    split
    · exact ⟨fun q => absurd q (by decide), fun q => absurd q h1⟩
    · exact ⟨fun q => absurd q (by decide), fun q => absurd q h1⟩
theorem pb_cmp_lt {a b : Nat} : pb_cmp a b < 0 ↔ a < b := by
  unfold pb_cmp
  split
  · rename_i h1; exact ⟨fun q => absurd q (by decide), fun q => by omega⟩
  · rename_i h1
    split
    · exact ⟨fun q => absurd q (by decide), fun q => by omega⟩
    · exact ⟨fun q => by omega, fun q => by decide⟩
theorem pb_cmp_eq {a b : Nat} : pb_cmp a b = 0 ↔ a = b := by
  unfold pb_cmp
  split
  · rename_i h1; exact ⟨fun q => absurd q (by decide), fun q => by omega⟩
  · rename_i h1
    split
    · rename_i h2; exact ⟨fun _ => h2, fun _ => rfl⟩
    · rename_i h2; exact ⟨fun q => absurd q (by decide), fun q => absurd q h2⟩
section PBN
variable {Z : pb_Z} {y : pb_M} {d k n : Nat} {post : Option Value → pb_H → Prop} {pc : Nat} {lv : List (Option Value)} {st : List Value} {h : pb_H}
theorem pb_top {v v2 : Value} (e : v = v2) (kk : pb_S Z y d k n post pc lv (v2 :: st) h) : pb_S Z y d k n post pc lv (v :: st) h := e ▸ kk
theorem pb_hp {h2 : pb_H} (e : h = h2) (kk : pb_S Z y d k n post pc lv st h2) : pb_S Z y d k n post pc lv st h := e ▸ kk
theorem pb_iaddN {a b : Nat} {pc2 : Nat} (hd : decode y.2.1 pc = .ok (.iadd, 1)) (hp : pc + 1 = pc2) (kk : pb_S Z y d k n post pc2 lv (.int (nI (a + b)) :: st) h) : pb_S Z y d k n post pc lv (.int (nI b) :: .int (nI a) :: st) h := by
  exact pb_iadd hd hp (by rw [nI_add]; exact kk)
theorem pb_imulN {a b : Nat} {pc2 : Nat} (hd : decode y.2.1 pc = .ok (.imul, 1)) (hp : pc + 1 = pc2) (kk : pb_S Z y d k n post pc2 lv (.int (nI (a * b)) :: st) h) : pb_S Z y d k n post pc lv (.int (nI b) :: .int (nI a) :: st) h := by
  exact pb_imul hd hp (by rw [nI_mul]; exact kk)
theorem pb_isubN {a b : Nat} {pc2 : Nat} (hd : decode y.2.1 pc = .ok (.isub, 1)) (hb : b ≤ a) (hp : pc + 1 = pc2) (kk : pb_S Z y d k n post pc2 lv (.int (nI (a - b)) :: st) h) : pb_S Z y d k n post pc lv (.int (nI b) :: .int (nI a) :: st) h := by
  exact pb_isub hd hp (by rw [nI_sub hb]; exact kk)
theorem pb_idivN {a b : Nat} {pc2 : Nat} (hd : decode y.2.1 pc = .ok (.idiv, 1)) (hb : 0 < b) (ha2 : a < 2 ^ 31) (hb2 : b < 2 ^ 31) (hp : pc + 1 = pc2) (kk : pb_S Z y d k n post pc2 lv (.int (nI (a / b)) :: st) h) : pb_S Z y d k n post pc lv (.int (nI b) :: .int (nI a) :: st) h := by
  exact pb_idiv hd (nI_ne0 hb hb2) hp (by rw [nI_div ha2 hb2]; exact kk)
theorem pb_iremN {a b : Nat} {pc2 : Nat} (hd : decode y.2.1 pc = .ok (.irem, 1)) (hb : 0 < b) (ha2 : a < 2 ^ 31) (hb2 : b < 2 ^ 31) (hp : pc + 1 = pc2) (kk : pb_S Z y d k n post pc2 lv (.int (nI (a % b)) :: st) h) : pb_S Z y d k n post pc lv (.int (nI b) :: .int (nI a) :: st) h := by
  exact pb_irem hd (nI_ne0 hb hb2) hp (by
    have e : a % b = a - a / b * b := by
      have := Nat.div_add_mod a b
      rw [Nat.mul_comm] at this
      omega
    rw [nI_div ha2 hb2, nI_mul, nI_sub (Nat.div_mul_le_self a b), ← e]; exact kk)
theorem pb_laddN {a b : Nat} {pc2 : Nat} (hd : decode y.2.1 pc = .ok (.ladd, 1)) (hp : pc + 1 = pc2) (kk : pb_S Z y d k n post pc2 lv (.long (lN (a + b)) :: st) h) : pb_S Z y d k n post pc lv (.long (lN b) :: .long (lN a) :: st) h := by
  exact pb_ladd hd hp (by rw [lN_add]; exact kk)
theorem pb_lmulN {a b : Nat} {pc2 : Nat} (hd : decode y.2.1 pc = .ok (.lmul, 1)) (hp : pc + 1 = pc2) (kk : pb_S Z y d k n post pc2 lv (.long (lN (a * b)) :: st) h) : pb_S Z y d k n post pc lv (.long (lN b) :: .long (lN a) :: st) h := by
  exact pb_lmul hd hp (by rw [lN_mul]; exact kk)
theorem pb_lsubN {a b : Nat} {pc2 : Nat} (hd : decode y.2.1 pc = .ok (.lsub, 1)) (hb : b ≤ a) (hp : pc + 1 = pc2) (kk : pb_S Z y d k n post pc2 lv (.long (lN (a - b)) :: st) h) : pb_S Z y d k n post pc lv (.long (lN b) :: .long (lN a) :: st) h := by
  exact pb_lsub hd hp (by rw [lN_sub hb]; exact kk)
theorem pb_ldivN {a b : Nat} {pc2 : Nat} (hd : decode y.2.1 pc = .ok (.ldiv, 1)) (hb : 0 < b) (ha2 : a < 2 ^ 63) (hb2 : b < 2 ^ 63) (hp : pc + 1 = pc2) (kk : pb_S Z y d k n post pc2 lv (.long (lN (a / b)) :: st) h) : pb_S Z y d k n post pc lv (.long (lN b) :: .long (lN a) :: st) h := by
  exact pb_ldiv hd (lN_ne0 hb hb2) hp (by rw [lN_div ha2 hb2]; exact kk)
theorem pb_i2lN {a : Nat} {pc2 : Nat} (hd : decode y.2.1 pc = .ok (.i2l, 1)) (ha2 : a < 2 ^ 31) (hp : pc + 1 = pc2) (kk : pb_S Z y d k n post pc2 lv (.long (lN a) :: st) h) : pb_S Z y d k n post pc lv (.int (nI a) :: st) h := by
  exact pb_i2l hd hp (by rw [nI_i2l ha2]; exact kk)
theorem pb_l2iN {a : Nat} {pc2 : Nat} (hd : decode y.2.1 pc = .ok (.l2i, 1)) (hp : pc + 1 = pc2) (kk : pb_S Z y d k n post pc2 lv (.int (nI a) :: st) h) : pb_S Z y d k n post pc lv (.long (lN a) :: st) h := by
  exact pb_l2i hd hp (by rw [lN_l2i]; exact kk)
theorem pb_lcmpN {a b : Nat} {pc2 : Nat} (hd : decode y.2.1 pc = .ok (.lcmp, 1)) (ha2 : a < 2 ^ 63) (hb2 : b < 2 ^ 63) (hp : pc + 1 = pc2) (kk : pb_S Z y d k n post pc2 lv (.int (pb_cmp a b) :: st) h) : pb_S Z y d k n post pc lv (.long (lN b) :: .long (lN a) :: st) h := by
  exact pb_lcmp hd hp (by rw [pb_cmp_lg ha2 hb2]; exact kk)
theorem pb_icmpN_eq {a b : Nat} {off : Int} {tgt pc2 : Nat} (hd : decode y.2.1 pc = .ok (.if_icmp .eq off, 3)) (ht : (pc : Int) + off = (tgt : Int)) (hp : pc + 3 = pc2) (ha2 : a < 2 ^ 31) (hb2 : b < 2 ^ 31) (kt : a = b → pb_S Z y d k n post tgt lv st h) (kf : ¬ a = b → pb_S Z y d k n post pc2 lv st h) : pb_S Z y d k n post pc lv (.int (nI b) :: .int (nI a) :: st) h :=
  pb_icmp_eq hd ht hp (fun q => kt (nI_inj ha2 hb2 q)) (fun q => kf (fun z => q (by rw [z])))
theorem pb_icmpN_ne {a b : Nat} {off : Int} {tgt pc2 : Nat} (hd : decode y.2.1 pc = .ok (.if_icmp .ne off, 3)) (ht : (pc : Int) + off = (tgt : Int)) (hp : pc + 3 = pc2) (ha2 : a < 2 ^ 31) (hb2 : b < 2 ^ 31) (kt : ¬ a = b → pb_S Z y d k n post tgt lv st h) (kf : a = b → pb_S Z y d k n post pc2 lv st h) : pb_S Z y d k n post pc lv (.int (nI b) :: .int (nI a) :: st) h :=
  pb_icmp_ne hd ht hp (fun q => kt (fun z => q (by rw [z]))) (fun q => kf (nI_inj ha2 hb2 q))
theorem pb_icmpN_lt {a b : Nat} {off : Int} {tgt pc2 : Nat} (hd : decode y.2.1 pc = .ok (.if_icmp .lt off, 3)) (ht : (pc : Int) + off = (tgt : Int)) (hp : pc + 3 = pc2) (ha2 : a < 2 ^ 31) (hb2 : b < 2 ^ 31) (kt : a < b → pb_S Z y d k n post tgt lv st h) (kf : b ≤ a → pb_S Z y d k n post pc2 lv st h) : pb_S Z y d k n post pc lv (.int (nI b) :: .int (nI a) :: st) h :=
  pb_icmp_lt hd ht hp (fun q => kt ((nI_ltI ha2 hb2).mp q)) (fun q => kf (Nat.not_lt.mp (fun z => q ((nI_ltI ha2 hb2).mpr z))))
theorem pb_icmpN_ge {a b : Nat} {off : Int} {tgt pc2 : Nat} (hd : decode y.2.1 pc = .ok (.if_icmp .ge off, 3)) (ht : (pc : Int) + off = (tgt : Int)) (hp : pc + 3 = pc2) (ha2 : a < 2 ^ 31) (hb2 : b < 2 ^ 31) (kt : b ≤ a → pb_S Z y d k n post tgt lv st h) (kf : a < b → pb_S Z y d k n post pc2 lv st h) : pb_S Z y d k n post pc lv (.int (nI b) :: .int (nI a) :: st) h :=
  pb_icmp_ge hd ht hp (fun q => kt ((nI_leI hb2 ha2).mp q)) (fun q => kf (Nat.not_le.mp (fun z => q ((nI_leI hb2 ha2).mpr z))))
theorem pb_icmpN_gt {a b : Nat} {off : Int} {tgt pc2 : Nat} (hd : decode y.2.1 pc = .ok (.if_icmp .gt off, 3)) (ht : (pc : Int) + off = (tgt : Int)) (hp : pc + 3 = pc2) (ha2 : a < 2 ^ 31) (hb2 : b < 2 ^ 31) (kt : b < a → pb_S Z y d k n post tgt lv st h) (kf : a ≤ b → pb_S Z y d k n post pc2 lv st h) : pb_S Z y d k n post pc lv (.int (nI b) :: .int (nI a) :: st) h :=
  pb_icmp_gt hd ht hp (fun q => kt ((nI_ltI hb2 ha2).mp q)) (fun q => kf (Nat.not_lt.mp (fun z => q ((nI_ltI hb2 ha2).mpr z))))
theorem pb_icmpN_le {a b : Nat} {off : Int} {tgt pc2 : Nat} (hd : decode y.2.1 pc = .ok (.if_icmp .le off, 3)) (ht : (pc : Int) + off = (tgt : Int)) (hp : pc + 3 = pc2) (ha2 : a < 2 ^ 31) (hb2 : b < 2 ^ 31) (kt : a ≤ b → pb_S Z y d k n post tgt lv st h) (kf : b < a → pb_S Z y d k n post pc2 lv st h) : pb_S Z y d k n post pc lv (.int (nI b) :: .int (nI a) :: st) h :=
  pb_icmp_le hd ht hp (fun q => kt ((nI_leI ha2 hb2).mp q)) (fun q => kf (Nat.not_le.mp (fun z => q ((nI_leI ha2 hb2).mpr z))))
theorem pb_ifN_eq {a : Nat} {off : Int} {tgt pc2 : Nat} (hd : decode y.2.1 pc = .ok (.ifCond .eq off, 3)) (ht : (pc : Int) + off = (tgt : Int)) (hp : pc + 3 = pc2) (ha2 : a < 2 ^ 31) (kt : a = 0 → pb_S Z y d k n post tgt lv st h) (kf : ¬ a = 0 → pb_S Z y d k n post pc2 lv st h) : pb_S Z y d k n post pc lv (.int (nI a) :: st) h :=
  pb_if_eq hd ht hp (fun q => kt (nI_inj ha2 (by decide) q)) (fun q => kf (fun z => q (by rw [z]; rfl)))
theorem pb_ifN_ne {a : Nat} {off : Int} {tgt pc2 : Nat} (hd : decode y.2.1 pc = .ok (.ifCond .ne off, 3)) (ht : (pc : Int) + off = (tgt : Int)) (hp : pc + 3 = pc2) (ha2 : a < 2 ^ 31) (kt : ¬ a = 0 → pb_S Z y d k n post tgt lv st h) (kf : a = 0 → pb_S Z y d k n post pc2 lv st h) : pb_S Z y d k n post pc lv (.int (nI a) :: st) h :=
  pb_if_ne hd ht hp (fun q => kt (fun z => q (by rw [z]; rfl))) (fun q => kf (nI_inj ha2 (by decide) q))
theorem pb_ifN_gt {a : Nat} {off : Int} {tgt pc2 : Nat} (hd : decode y.2.1 pc = .ok (.ifCond .gt off, 3)) (ht : (pc : Int) + off = (tgt : Int)) (hp : pc + 3 = pc2) (ha2 : a < 2 ^ 31) (kt : 0 < a → pb_S Z y d k n post tgt lv st h) (kf : a = 0 → pb_S Z y d k n post pc2 lv st h) : pb_S Z y d k n post pc lv (.int (nI a) :: st) h :=
  pb_if_gt hd ht hp (fun q => kt ((nI_ltI (a := 0) (by decide) ha2).mp q)) (fun q => kf (Nat.eq_zero_of_not_pos (fun z => q ((nI_ltI (a := 0) (by decide) ha2).mpr z))))
theorem pb_ifN_le {a : Nat} {off : Int} {tgt pc2 : Nat} (hd : decode y.2.1 pc = .ok (.ifCond .le off, 3)) (ht : (pc : Int) + off = (tgt : Int)) (hp : pc + 3 = pc2) (ha2 : a < 2 ^ 31) (kt : a = 0 → pb_S Z y d k n post tgt lv st h) (kf : 0 < a → pb_S Z y d k n post pc2 lv st h) : pb_S Z y d k n post pc lv (.int (nI a) :: st) h :=
  pb_if_le hd ht hp (fun q => kt (Nat.le_zero.mp ((nI_leI (b := 0) ha2 (by decide)).mp q))) (fun q => kf (Nat.pos_of_ne_zero (fun z => q (by rw [z]; exact Int32.le_refl _))))
theorem pb_lifN_gt {a b : Nat} {off : Int} {tgt pc2 : Nat} (hd : decode y.2.1 pc = .ok (.ifCond .gt off, 3)) (ht : (pc : Int) + off = (tgt : Int)) (hp : pc + 3 = pc2) (kt : b < a → pb_S Z y d k n post tgt lv st h) (kf : a ≤ b → pb_S Z y d k n post pc2 lv st h) : pb_S Z y d k n post pc lv (.int (pb_cmp a b) :: st) h :=
  pb_if_gt hd ht hp (fun q => kt (pb_cmp_gt.mp q)) (fun q => kf (Nat.not_lt.mp (fun z => q (pb_cmp_gt.mpr z))))
theorem pb_lifN_le {a b : Nat} {off : Int} {tgt pc2 : Nat} (hd : decode y.2.1 pc = .ok (.ifCond .le off, 3)) (ht : (pc : Int) + off = (tgt : Int)) (hp : pc + 3 = pc2) (kt : a ≤ b → pb_S Z y d k n post tgt lv st h) (kf : b < a → pb_S Z y d k n post pc2 lv st h) : pb_S Z y d k n post pc lv (.int (pb_cmp a b) :: st) h :=
  pb_if_le hd ht hp (fun q => kt (Nat.not_lt.mp (fun z => Int32.not_lt.mpr q (pb_cmp_gt.mpr z)))) (fun q => kf (pb_cmp_gt.mp (Int32.not_le.mp q)))
theorem pb_lifN_lt {a b : Nat} {off : Int} {tgt pc2 : Nat} (hd : decode y.2.1 pc = .ok (.ifCond .lt off, 3)) (ht : (pc : Int) + off = (tgt : Int)) (hp : pc + 3 = pc2) (kt : a < b → pb_S Z y d k n post tgt lv st h) (kf : b ≤ a → pb_S Z y d k n post pc2 lv st h) : pb_S Z y d k n post pc lv (.int (pb_cmp a b) :: st) h :=
  pb_if_lt hd ht hp (fun q => kt (pb_cmp_lt.mp q)) (fun q => kf (Nat.not_lt.mp (fun z => q (pb_cmp_lt.mpr z))))
theorem pb_lifN_ge {a b : Nat} {off : Int} {tgt pc2 : Nat} (hd : decode y.2.1 pc = .ok (.ifCond .ge off, 3)) (ht : (pc : Int) + off = (tgt : Int)) (hp : pc + 3 = pc2) (kt : b ≤ a → pb_S Z y d k n post tgt lv st h) (kf : a < b → pb_S Z y d k n post pc2 lv st h) : pb_S Z y d k n post pc lv (.int (pb_cmp a b) :: st) h :=
  pb_if_ge hd ht hp (fun q => kt (Nat.not_lt.mp (fun z => Int32.not_lt.mpr q (pb_cmp_lt.mpr z)))) (fun q => kf (pb_cmp_lt.mp (Int32.not_le.mp q)))
theorem pb_lifN_eq {a b : Nat} {off : Int} {tgt pc2 : Nat} (hd : decode y.2.1 pc = .ok (.ifCond .eq off, 3)) (ht : (pc : Int) + off = (tgt : Int)) (hp : pc + 3 = pc2) (kt : a = b → pb_S Z y d k n post tgt lv st h) (kf : ¬ a = b → pb_S Z y d k n post pc2 lv st h) : pb_S Z y d k n post pc lv (.int (pb_cmp a b) :: st) h :=
  pb_if_eq hd ht hp (fun q => kt (pb_cmp_eq.mp q)) (fun q => kf (fun z => q (pb_cmp_eq.mpr z)))
theorem pb_lifN_ne {a b : Nat} {off : Int} {tgt pc2 : Nat} (hd : decode y.2.1 pc = .ok (.ifCond .ne off, 3)) (ht : (pc : Int) + off = (tgt : Int)) (hp : pc + 3 = pc2) (kt : ¬ a = b → pb_S Z y d k n post tgt lv st h) (kf : a = b → pb_S Z y d k n post pc2 lv st h) : pb_S Z y d k n post pc lv (.int (pb_cmp a b) :: st) h :=
  pb_if_ne hd ht hp (fun q => kt (fun z => q (pb_cmp_eq.mpr z))) (fun q => kf (pb_cmp_eq.mp q))
theorem pb_ifT_eq {x : Int32} {off : Int} {tgt : Nat} (hd : decode y.2.1 pc = .ok (.ifCond .eq off, 3)) (ht : (pc : Int) + off = (tgt : Int)) (hx : x = 0) (kk : pb_S Z y d k n post tgt lv st h) : pb_S Z y d k n post pc lv (.int x :: st) h := pb_if_eq hd ht rfl (fun _ => kk) (fun q => absurd hx q)
theorem pb_ifF_eq {x : Int32} {off : Int} {pc2 : Nat} (hd : decode y.2.1 pc = .ok (.ifCond .eq off, 3)) (hx : ¬ x = 0) (hp : pc + 3 = pc2) {tgt : Nat} (ht : (pc : Int) + off = (tgt : Int)) (kk : pb_S Z y d k n post pc2 lv st h) : pb_S Z y d k n post pc lv (.int x :: st) h := pb_if_eq hd ht hp (fun q => absurd q hx) (fun _ => kk)
theorem pb_ifT_ne {x : Int32} {off : Int} {tgt : Nat} (hd : decode y.2.1 pc = .ok (.ifCond .ne off, 3)) (ht : (pc : Int) + off = (tgt : Int)) (hx : ¬ x = 0) (kk : pb_S Z y d k n post tgt lv st h) : pb_S Z y d k n post pc lv (.int x :: st) h := pb_if_ne hd ht rfl (fun _ => kk) (fun q => absurd q hx)
theorem pb_ifF_ne {x : Int32} {off : Int} {pc2 : Nat} (hd : decode y.2.1 pc = .ok (.ifCond .ne off, 3)) (hx : x = 0) (hp : pc + 3 = pc2) {tgt : Nat} (ht : (pc : Int) + off = (tgt : Int)) (kk : pb_S Z y d k n post pc2 lv st h) : pb_S Z y d k n post pc lv (.int x :: st) h := pb_if_ne hd ht hp (fun q => absurd hx q) (fun _ => kk)
theorem pb_ifT_lt {x : Int32} {off : Int} {tgt : Nat} (hd : decode y.2.1 pc = .ok (.ifCond .lt off, 3)) (ht : (pc : Int) + off = (tgt : Int)) (hx : x < 0) (kk : pb_S Z y d k n post tgt lv st h) : pb_S Z y d k n post pc lv (.int x :: st) h := pb_if_lt hd ht rfl (fun _ => kk) (fun q => absurd hx q)
theorem pb_ifF_lt {x : Int32} {off : Int} {pc2 : Nat} (hd : decode y.2.1 pc = .ok (.ifCond .lt off, 3)) (hx : ¬ x < 0) (hp : pc + 3 = pc2) {tgt : Nat} (ht : (pc : Int) + off = (tgt : Int)) (kk : pb_S Z y d k n post pc2 lv st h) : pb_S Z y d k n post pc lv (.int x :: st) h := pb_if_lt hd ht hp (fun q => absurd q hx) (fun _ => kk)
theorem pb_ifT_ge {x : Int32} {off : Int} {tgt : Nat} (hd : decode y.2.1 pc = .ok (.ifCond .ge off, 3)) (ht : (pc : Int) + off = (tgt : Int)) (hx : 0 ≤ x) (kk : pb_S Z y d k n post tgt lv st h) : pb_S Z y d k n post pc lv (.int x :: st) h := pb_if_ge hd ht rfl (fun _ => kk) (fun q => absurd hx q)
theorem pb_ifF_ge {x : Int32} {off : Int} {pc2 : Nat} (hd : decode y.2.1 pc = .ok (.ifCond .ge off, 3)) (hx : ¬ 0 ≤ x) (hp : pc + 3 = pc2) {tgt : Nat} (ht : (pc : Int) + off = (tgt : Int)) (kk : pb_S Z y d k n post pc2 lv st h) : pb_S Z y d k n post pc lv (.int x :: st) h := pb_if_ge hd ht hp (fun q => absurd q hx) (fun _ => kk)
theorem pb_ifT_gt {x : Int32} {off : Int} {tgt : Nat} (hd : decode y.2.1 pc = .ok (.ifCond .gt off, 3)) (ht : (pc : Int) + off = (tgt : Int)) (hx : 0 < x) (kk : pb_S Z y d k n post tgt lv st h) : pb_S Z y d k n post pc lv (.int x :: st) h := pb_if_gt hd ht rfl (fun _ => kk) (fun q => absurd hx q)
theorem pb_ifF_gt {x : Int32} {off : Int} {pc2 : Nat} (hd : decode y.2.1 pc = .ok (.ifCond .gt off, 3)) (hx : ¬ 0 < x) (hp : pc + 3 = pc2) {tgt : Nat} (ht : (pc : Int) + off = (tgt : Int)) (kk : pb_S Z y d k n post pc2 lv st h) : pb_S Z y d k n post pc lv (.int x :: st) h := pb_if_gt hd ht hp (fun q => absurd q hx) (fun _ => kk)
theorem pb_ifT_le {x : Int32} {off : Int} {tgt : Nat} (hd : decode y.2.1 pc = .ok (.ifCond .le off, 3)) (ht : (pc : Int) + off = (tgt : Int)) (hx : x ≤ 0) (kk : pb_S Z y d k n post tgt lv st h) : pb_S Z y d k n post pc lv (.int x :: st) h := pb_if_le hd ht rfl (fun _ => kk) (fun q => absurd hx q)
theorem pb_ifF_le {x : Int32} {off : Int} {pc2 : Nat} (hd : decode y.2.1 pc = .ok (.ifCond .le off, 3)) (hx : ¬ x ≤ 0) (hp : pc + 3 = pc2) {tgt : Nat} (ht : (pc : Int) + off = (tgt : Int)) (kk : pb_S Z y d k n post pc2 lv st h) : pb_S Z y d k n post pc lv (.int x :: st) h := pb_if_le hd ht hp (fun q => absurd q hx) (fun _ => kk)
theorem pb_iald {kd N a j : Nat} {F : Nat → Nat} {pc2 : Nat} (ha : h a = some (.inl (kd, N, fun j => nI (F j)))) (hkd : kd < 4 ∧ pb_pk kd = .int) (hd : decode y.2.1 pc = .ok (.iaload, 1)) (hj : j < N) (hN : N < 2 ^ 31) (hp : pc + 1 = pc2) (kk : pb_S Z y d k n post pc2 lv (.int (nI (F j)) :: st) h) : pb_S Z y d k n post pc lv (.int (nI j) :: .ref a :: st) h := pb_iaload hd hkd ha hj hN hp kk
theorem pb_iast {N a j v : Nat} {F : Nat → Nat} {pc2 : Nat} (ha : h a = some (.inl (0, N, fun j => nI (F j)))) (hd : decode y.2.1 pc = .ok (.iastore, 1)) (h2 : 2 ≤ a) (hj : j < N) (hN : N < 2 ^ 31) (hp : pc + 1 = pc2) (kk : pb_S Z y d k n post pc2 lv st (pb_set h a (.inl (0, N, fun i => nI (pb_un F j v i))))) : pb_S Z y d k n post pc lv (.int (nI v) :: .int (nI j) :: .ref a :: st) h := by
  refine pb_iastore hd ha h2 hj hN hp ?_
  rw [pb_un_nI]
  exact kk
theorem pb_iincP {a c0 i0 : Nat} {lv2 : List (Option Value)} {pc2 : Nat} (hd : decode y.2.1 pc = .ok (.iinc i0 (c0 : Int), 3)) (hl : lv[i0]? = some (some (.int (nI a)))) (hn : i0 < y.2.2.1) (hs : pb_s1 lv i0 (.int (nI (a + c0))) = lv2) (hp : pc + 3 = pc2) (kk : pb_S Z y d k n post pc2 lv2 st h) : pb_S Z y d k n post pc lv st h := by
  refine pb_iinc hd hl (v := nI (a + c0)) ?_ hn hs hp kk
  rw [← nI_add]
  rfl
theorem pb_iincM {a i0 : Nat} {lv2 : List (Option Value)} {pc2 : Nat} (hd : decode y.2.1 pc = .ok (.iinc i0 (-1), 3)) (hl : lv[i0]? = some (some (.int (nI a)))) (h1 : 1 ≤ a) (hn : i0 < y.2.2.1) (hs : pb_s1 lv i0 (.int (nI (a - 1))) = lv2) (hp : pc + 3 = pc2) (kk : pb_S Z y d k n post pc2 lv2 st h) : pb_S Z y d k n post pc lv st h := by
  refine pb_iinc hd hl (v := nI (a - 1)) ?_ hn hs hp kk
  rw [← nI_sub h1, Int32.sub_eq_add_neg]
  rfl
end PBN
section PBMath
variable {Z : pb_Z} {y : pb_M} {d k n : Nat} {post : Option Value → pb_H → Prop} {pc : Nat} {lv : List (Option Value)} {st : List Value} {h : pb_H}
theorem pb_mabs {idx pc2 : Nat} {own : String} {x : Int32} (hw : y.1.cls = own) (hl : Cond.methodLink own idx yJ9_abs_0f7a4 ∈ pb_tbl) (hd : decode y.2.1 pc = .ok (.invokestatic idx, 3)) (hdd : 1 ≤ d) (hr : (st.map fun v => v.category).sum ≤ 8) (hp : pc + 3 = pc2) (kk : pb_S Z y d k n post pc2 lv (.int (if 0 ≤ x then x else 0 - x) :: st) h) : pb_S Z y d k n post pc lv (.int x :: st) h := by
  subst hw hp
  intro p e s m args below meth c R mc ms ρ0 h0 hF hR cells slots ρ H locs ls hD
  have hts := hF.2.2.2.2.2.1
  refine va_mabs hF.1 hF.2.1 (by rw [hF.2.2.2.1]; exact hD.2.2.1.1.symm) hF.2.2.2.2.1 (hts _ hl) (hts _ swJ9_abs_0f7a4) (hts _ mwJ9_abs_0f7a4.2.1) (hts _ mwJ9_abs_0f7a4.1) (by have := hR.1; omega) ?_ (by rw [hR.2.2.1]; have := hD.1; omega) (by rw [hR.2.2.2]; have := hD.2.1; omega) hd (kk p e s m args below meth c R mc ms ρ0 h0 hF hR cells slots ρ H locs ls (hD.stk ⟨trivial, hD.oks.2⟩))
  show ((st.map (pb_up ρ)).map fun v => v.category).sum + 13 ≤ _
  rw [pb_cat]
  have := hR.2.1
  omega
theorem pb_mmax {idx pc2 : Nat} {own : String} {x x2 : Int32} (hw : y.1.cls = own) (hl : Cond.methodLink own idx yJ9_max_7cf53 ∈ pb_tbl) (hd : decode y.2.1 pc = .ok (.invokestatic idx, 3)) (hdd : 1 ≤ d) (hr : (st.map fun v => v.category).sum ≤ 8) (hp : pc + 3 = pc2) (kk : pb_S Z y d k n post pc2 lv (.int (if x < x2 then x2 else x) :: st) h) : pb_S Z y d k n post pc lv (.int x2 :: .int x :: st) h := by
  subst hw hp
  intro p e s m args below meth c R mc ms ρ0 h0 hF hR cells slots ρ H locs ls hD
  have hts := hF.2.2.2.2.2.1
  refine va_mmax hF.1 hF.2.1 (by rw [hF.2.2.2.1]; exact hD.2.2.1.1.symm) hF.2.2.2.2.1 (hts _ hl) (hts _ swJ9_max_7cf53) (hts _ mwJ9_max_7cf53.2.1) (hts _ mwJ9_max_7cf53.1) (by have := hR.1; omega) ?_ (by rw [hR.2.2.1]; have := hD.1; omega) (by rw [hR.2.2.2]; have := hD.2.1; omega) hd (kk p e s m args below meth c R mc ms ρ0 h0 hF hR cells slots ρ H locs ls (hD.stk ⟨trivial, hD.oks.2.2⟩))
  show ((st.map (pb_up ρ)).map fun v => v.category).sum + 13 ≤ _
  rw [pb_cat]
  have := hR.2.1
  omega
def pb_abs (a b : Nat) : Nat := (a - b) + (b - a)
/-- the difference of two numbers, without sign -/
theorem pb_mabsN {idx pc2 a b : Nat} {own : String} (hw : y.1.cls = own) (hl : Cond.methodLink own idx yJ9_abs_0f7a4 ∈ pb_tbl) (hd : decode y.2.1 pc = .ok (.invokestatic idx, 3)) (ha : a < 2 ^ 31) (hb : b < 2 ^ 31) (hdd : 1 ≤ d) (hr : (st.map fun v => v.category).sum ≤ 8) (hp : pc + 3 = pc2) (kk : pb_S Z y d k n post pc2 lv (.int (nI (pb_abs a b)) :: st) h) : pb_S Z y d k n post pc lv (.int (nI a - nI b) :: st) h := by
  refine pb_mabs hw hl hd hdd hr hp ?_
  have e : (if 0 ≤ nI a - nI b then nI a - nI b else 0 - (nI a - nI b)) = nI (pb_abs a b) := by
    unfold pb_abs
    by_cases h1 : b ≤ a
    · rw [nI_sub h1, if_pos (nI_pos' (by omega)), show b - a = 0 by omega]
      rfl
    · have e2 : 0 - (nI a - nI b) = nI (b - a) := by
        rw [← nI_sub (show a ≤ b by omega)]
        simp [Int32.sub_eq_add_neg, Int32.neg_add, Int32.add_comm]
      have e3 : ¬ 0 ≤ nI a - nI b := by
        intro q
        obtain ⟨j, hj, e5⟩ := nI_of (Int32.not_lt.mpr q)
        have e6 : nI (j + b) = nI a := by rw [← nI_add, ← e5, Int32.sub_add_cancel]
        have := nI_mod e6
        omega
      rw [if_neg e3, e2, show a - b = 0 by omega, Nat.zero_add]
  rw [e]
  exact kk
theorem pb_mmaxN {idx pc2 a b : Nat} {own : String} (hw : y.1.cls = own) (hl : Cond.methodLink own idx yJ9_max_7cf53 ∈ pb_tbl) (hd : decode y.2.1 pc = .ok (.invokestatic idx, 3)) (ha : a < 2 ^ 31) (hb : b < 2 ^ 31) (hdd : 1 ≤ d) (hr : (st.map fun v => v.category).sum ≤ 8) (hp : pc + 3 = pc2) (kk : pb_S Z y d k n post pc2 lv (.int (nI (max a b)) :: st) h) : pb_S Z y d k n post pc lv (.int (nI b) :: .int (nI a) :: st) h := by
  refine pb_mmax hw hl hd hdd hr hp ?_
  have e : (if nI a < nI b then nI b else nI a) = nI (max a b) := by
    by_cases h1 : a < b
    · rw [if_pos ((nI_ltI ha hb).mpr h1), Nat.max_eq_right (by omega)]
    · rw [if_neg (fun q => h1 ((nI_ltI ha hb).mp q)), Nat.max_eq_left (by omega)]
  rw [e]
  exact kk
end PBMath
