section PBI
variable {Z : pb_Z} {y : pb_M} {d k n : Nat} {post : Option Value → pb_H → Prop} {pc : Nat} {lv : List (Option Value)} {st : List Value} {h : pb_H}
theorem pb_Dy.stk {k n mc ms : Nat} {ρ0 : Nat → Nat} {h0 : pb_H} {st' : List Value} {cells slots : Nat} {ρ : Nat → Nat} {H : Heap} {locs : List Loc} {ls : Array Slot} (hD : pb_Dy Z y k n mc ms ρ0 h0 lv st h cells slots ρ H locs ls) (hs : pb_oks h st') : pb_Dy Z y k n mc ms ρ0 h0 lv st' h cells slots ρ H locs ls := ⟨hD.1, hD.2.1, hD.2.2.1, hD.2.2.2.1, hD.2.2.2.2.1, hs, hD.2.2.2.2.2.2.1, hD.2.2.2.2.2.2.2⟩
theorem pb_Dy.oks {k n mc ms : Nat} {ρ0 : Nat → Nat} {h0 : pb_H} {cells slots : Nat} {ρ : Nat → Nat} {H : Heap} {locs : List Loc} {ls : Array Slot} (hD : pb_Dy Z y k n mc ms ρ0 h0 lv st h cells slots ρ H locs ls) : pb_oks h st := hD.2.2.2.2.2.1
theorem pb_up_cat (ρ : Nat → Nat) (v : Value) : (pb_up ρ v).category = v.category := by cases v <;> rfl
theorem pb_iconst {c0 : Int} {x : Int32} (hd : decode y.2.1 pc = .ok (.iconst c0, 1)) (hv : Int32.ofInt c0 = x) {pc2 : Nat} (hp : pc + 1 = pc2) (kk : pb_S Z y d k n post pc2 lv (.int x :: st) h) : pb_S Z y d k n post pc lv (st) h := by
  subst hp
  intro p e s m args below meth c R mc ms ρ0 h0 hF hR cells slots ρ H locs ls hD
  exact lv_iconst hF.1 hF.2.1 hd hv (kk p e s m args below meth c R mc ms ρ0 h0 hF hR cells slots ρ H locs ls (hD.stk ⟨trivial, hD.oks⟩))
theorem pb_bipush {c0 : Int} {x : Int32} (hd : decode y.2.1 pc = .ok (.bipush c0, 2)) (hv : (Int8.ofInt c0).toInt32 = x) {pc2 : Nat} (hp : pc + 2 = pc2) (kk : pb_S Z y d k n post pc2 lv (.int x :: st) h) : pb_S Z y d k n post pc lv (st) h := by
  subst hp
  intro p e s m args below meth c R mc ms ρ0 h0 hF hR cells slots ρ H locs ls hD
  exact lv_bipush hF.1 hF.2.1 hd hv (kk p e s m args below meth c R mc ms ρ0 h0 hF hR cells slots ρ H locs ls (hD.stk ⟨trivial, hD.oks⟩))
theorem pb_sipush {c0 : Int} {x : Int32} (hd : decode y.2.1 pc = .ok (.sipush c0, 3)) (hv : (Int16.ofInt c0).toInt32 = x) {pc2 : Nat} (hp : pc + 3 = pc2) (kk : pb_S Z y d k n post pc2 lv (.int x :: st) h) : pb_S Z y d k n post pc lv (st) h := by
  subst hp
  intro p e s m args below meth c R mc ms ρ0 h0 hF hR cells slots ρ H locs ls hD
  exact lv_sipush hF.1 hF.2.1 hd hv (kk p e s m args below meth c R mc ms ρ0 h0 hF hR cells slots ρ H locs ls (hD.stk ⟨trivial, hD.oks⟩))
theorem pb_lconst {c0 : Fin 2} {x : Int64} (hd : decode y.2.1 pc = .ok (.lconst c0, 1)) (hv : Int64.ofNat (c0 : Nat) = x) {pc2 : Nat} (hp : pc + 1 = pc2) (kk : pb_S Z y d k n post pc2 lv (.long x :: st) h) : pb_S Z y d k n post pc lv (st) h := by
  subst hp
  intro p e s m args below meth c R mc ms ρ0 h0 hF hR cells slots ρ H locs ls hD
  exact lv_lconst hF.1 hF.2.1 hd hv (kk p e s m args below meth c R mc ms ρ0 h0 hF hR cells slots ρ H locs ls (hD.stk ⟨trivial, hD.oks⟩))
theorem pb_ldc2 {i0 : Nat} {x : Int64} (hd : decode y.2.1 pc = .ok (.ldc2_w i0, 3)) (hc : Cond.constantLong y.1.cls i0 x ∈ pb_tbl) {pc2 : Nat} (hp : pc + 3 = pc2) (kk : pb_S Z y d k n post pc2 lv (.long x :: st) h) : pb_S Z y d k n post pc lv (st) h := by
  subst hp
  intro p e s m args below meth c R mc ms ρ0 h0 hF hR cells slots ρ H locs ls hD
  exact lv_ldc2 hF.1 hF.2.1 hF.2.2.2.2.1 (hF.2.2.2.2.2.1 _ hc) hd (kk p e s m args below meth c R mc ms ρ0 h0 hF hR cells slots ρ H locs ls (hD.stk ⟨trivial, hD.oks⟩))
theorem pb_ldcw {i0 : Nat} {x : Int32} (hd : decode y.2.1 pc = .ok (.ldc_w i0, 3)) (hc : Cond.constant y.1.cls i0 x ∈ pb_tbl) {pc2 : Nat} (hp : pc + 3 = pc2) (kk : pb_S Z y d k n post pc2 lv (.int x :: st) h) : pb_S Z y d k n post pc lv (st) h := by
  subst hp
  intro p e s m args below meth c R mc ms ρ0 h0 hF hR cells slots ρ H locs ls hD
  exact lv_ldcw hF.1 hF.2.1 hF.2.2.2.2.1 (hF.2.2.2.2.2.1 _ hc) hd (kk p e s m args below meth c R mc ms ρ0 h0 hF hR cells slots ρ H locs ls (hD.stk ⟨trivial, hD.oks⟩))
theorem pb_anull  (hd : decode y.2.1 pc = .ok (.aconst_null, 1)) {pc2 : Nat} (hp : pc + 1 = pc2) (kk : pb_S Z y d k n post pc2 lv (.null :: st) h) : pb_S Z y d k n post pc lv (st) h := by
  subst hp
  intro p e s m args below meth c R mc ms ρ0 h0 hF hR cells slots ρ H locs ls hD
  exact lv_null hF.1 hF.2.1 hd (kk p e s m args below meth c R mc ms ρ0 h0 hF hR cells slots ρ H locs ls (hD.stk ⟨trivial, hD.oks⟩))
theorem pb_iload {i0 : Nat} {x : Int32} (hd : decode y.2.1 pc = .ok (.iload i0, 2)) (hl : lv[i0]? = some (some (.int x))) {pc2 : Nat} (hp : pc + 2 = pc2) (kk : pb_S Z y d k n post pc2 lv (.int x :: st) h) : pb_S Z y d k n post pc lv (st) h := by
  subst hp
  intro p e s m args below meth c R mc ms ρ0 h0 hF hR cells slots ρ H locs ls hD
  exact lv_iload hF.1 hF.2.1 hd (hD.2.2.1.2.2 _ _ hl) (kk p e s m args below meth c R mc ms ρ0 h0 hF hR cells slots ρ H locs ls (hD.stk ⟨trivial, hD.oks⟩))
theorem pb_iload_n {j0 : Fin 4} {i0 : Nat} {x : Int32} (hd : decode y.2.1 pc = .ok (.iload_n j0, 1)) (hj : (j0 : Nat) = i0) (hl : lv[i0]? = some (some (.int x))) {pc2 : Nat} (hp : pc + 1 = pc2) (kk : pb_S Z y d k n post pc2 lv (.int x :: st) h) : pb_S Z y d k n post pc lv (st) h := by
  subst hp
  intro p e s m args below meth c R mc ms ρ0 h0 hF hR cells slots ρ H locs ls hD
  exact lv_iload_n hF.1 hF.2.1 hd hj (hD.2.2.1.2.2 _ _ hl) (kk p e s m args below meth c R mc ms ρ0 h0 hF hR cells slots ρ H locs ls (hD.stk ⟨trivial, hD.oks⟩))
theorem pb_lload {i0 : Nat} {x : Int64} (hd : decode y.2.1 pc = .ok (.lload i0, 2)) (hl : lv[i0]? = some (some (.long x))) {pc2 : Nat} (hp : pc + 2 = pc2) (kk : pb_S Z y d k n post pc2 lv (.long x :: st) h) : pb_S Z y d k n post pc lv (st) h := by
  subst hp
  intro p e s m args below meth c R mc ms ρ0 h0 hF hR cells slots ρ H locs ls hD
  exact lv_lload hF.1 hF.2.1 hd (hD.2.2.1.2.2 _ _ hl) (kk p e s m args below meth c R mc ms ρ0 h0 hF hR cells slots ρ H locs ls (hD.stk ⟨trivial, hD.oks⟩))
theorem pb_lload_n {j0 : Fin 4} {i0 : Nat} {x : Int64} (hd : decode y.2.1 pc = .ok (.lload_n j0, 1)) (hj : (j0 : Nat) = i0) (hl : lv[i0]? = some (some (.long x))) {pc2 : Nat} (hp : pc + 1 = pc2) (kk : pb_S Z y d k n post pc2 lv (.long x :: st) h) : pb_S Z y d k n post pc lv (st) h := by
  subst hp
  intro p e s m args below meth c R mc ms ρ0 h0 hF hR cells slots ρ H locs ls hD
  exact lv_lload_n hF.1 hF.2.1 hd hj (hD.2.2.1.2.2 _ _ hl) (kk p e s m args below meth c R mc ms ρ0 h0 hF hR cells slots ρ H locs ls (hD.stk ⟨trivial, hD.oks⟩))
theorem pb_aload {i0 : Nat} {x : Nat} (hd : decode y.2.1 pc = .ok (.aload i0, 2)) (hl : lv[i0]? = some (some (.ref x))) {pc2 : Nat} (hp : pc + 2 = pc2) (kk : pb_S Z y d k n post pc2 lv (.ref x :: st) h) : pb_S Z y d k n post pc lv (st) h := by
  subst hp
  intro p e s m args below meth c R mc ms ρ0 h0 hF hR cells slots ρ H locs ls hD
  exact lv_aload hF.1 hF.2.1 hd (hD.2.2.1.2.2 _ _ hl) (kk p e s m args below meth c R mc ms ρ0 h0 hF hR cells slots ρ H locs ls (hD.stk ⟨hD.2.2.2.2.2.2.1 _ _ hl, hD.oks⟩))
theorem pb_aload_n {j0 : Fin 4} {i0 : Nat} {x : Nat} (hd : decode y.2.1 pc = .ok (.aload_n j0, 1)) (hj : (j0 : Nat) = i0) (hl : lv[i0]? = some (some (.ref x))) {pc2 : Nat} (hp : pc + 1 = pc2) (kk : pb_S Z y d k n post pc2 lv (.ref x :: st) h) : pb_S Z y d k n post pc lv (st) h := by
  subst hp
  intro p e s m args below meth c R mc ms ρ0 h0 hF hR cells slots ρ H locs ls hD
  exact lv_aload_n hF.1 hF.2.1 hd hj (hD.2.2.1.2.2 _ _ hl) (kk p e s m args below meth c R mc ms ρ0 h0 hF hR cells slots ρ H locs ls (hD.stk ⟨hD.2.2.2.2.2.2.1 _ _ hl, hD.oks⟩))
theorem pb_aloadN {i0 : Nat} (hd : decode y.2.1 pc = .ok (.aload i0, 2)) (hl : lv[i0]? = some (some .null)) {pc2 : Nat} (hp : pc + 2 = pc2) (kk : pb_S Z y d k n post pc2 lv (.null :: st) h) : pb_S Z y d k n post pc lv (st) h := by
  subst hp
  intro p e s m args below meth c R mc ms ρ0 h0 hF hR cells slots ρ H locs ls hD
  exact lv_aloadN hF.1 hF.2.1 hd (hD.2.2.1.2.2 _ _ hl) (kk p e s m args below meth c R mc ms ρ0 h0 hF hR cells slots ρ H locs ls (hD.stk ⟨trivial, hD.oks⟩))
theorem pb_aload_nN {j0 : Fin 4} {i0 : Nat} (hd : decode y.2.1 pc = .ok (.aload_n j0, 1)) (hj : (j0 : Nat) = i0) (hl : lv[i0]? = some (some .null)) {pc2 : Nat} (hp : pc + 1 = pc2) (kk : pb_S Z y d k n post pc2 lv (.null :: st) h) : pb_S Z y d k n post pc lv (st) h := by
  subst hp
  intro p e s m args below meth c R mc ms ρ0 h0 hF hR cells slots ρ H locs ls hD
  exact lv_aload_nN hF.1 hF.2.1 hd hj (hD.2.2.1.2.2 _ _ hl) (kk p e s m args below meth c R mc ms ρ0 h0 hF hR cells slots ρ H locs ls (hD.stk ⟨trivial, hD.oks⟩))
theorem pb_iadd {x x2 : Int32} (hd : decode y.2.1 pc = .ok (.iadd, 1)) {pc2 : Nat} (hp : pc + 1 = pc2) (kk : pb_S Z y d k n post pc2 lv (.int (x + x2) :: st) h) : pb_S Z y d k n post pc lv (.int x2 :: .int x :: st) h := by
  subst hp
  intro p e s m args below meth c R mc ms ρ0 h0 hF hR cells slots ρ H locs ls hD
  exact lv_iadd hF.1 hF.2.1 hd (kk p e s m args below meth c R mc ms ρ0 h0 hF hR cells slots ρ H locs ls (hD.stk ⟨trivial, hD.oks.2.2⟩))
theorem pb_isub {x x2 : Int32} (hd : decode y.2.1 pc = .ok (.isub, 1)) {pc2 : Nat} (hp : pc + 1 = pc2) (kk : pb_S Z y d k n post pc2 lv (.int (x - x2) :: st) h) : pb_S Z y d k n post pc lv (.int x2 :: .int x :: st) h := by
  subst hp
  intro p e s m args below meth c R mc ms ρ0 h0 hF hR cells slots ρ H locs ls hD
  exact lv_isub hF.1 hF.2.1 hd (kk p e s m args below meth c R mc ms ρ0 h0 hF hR cells slots ρ H locs ls (hD.stk ⟨trivial, hD.oks.2.2⟩))
theorem pb_imul {x x2 : Int32} (hd : decode y.2.1 pc = .ok (.imul, 1)) {pc2 : Nat} (hp : pc + 1 = pc2) (kk : pb_S Z y d k n post pc2 lv (.int (x * x2) :: st) h) : pb_S Z y d k n post pc lv (.int x2 :: .int x :: st) h := by
  subst hp
  intro p e s m args below meth c R mc ms ρ0 h0 hF hR cells slots ρ H locs ls hD
  exact lv_imul hF.1 hF.2.1 hd (kk p e s m args below meth c R mc ms ρ0 h0 hF hR cells slots ρ H locs ls (hD.stk ⟨trivial, hD.oks.2.2⟩))
theorem pb_iand {x x2 : Int32} (hd : decode y.2.1 pc = .ok (.iand, 1)) {pc2 : Nat} (hp : pc + 1 = pc2) (kk : pb_S Z y d k n post pc2 lv (.int (x &&& x2) :: st) h) : pb_S Z y d k n post pc lv (.int x2 :: .int x :: st) h := by
  subst hp
  intro p e s m args below meth c R mc ms ρ0 h0 hF hR cells slots ρ H locs ls hD
  exact lv_iand hF.1 hF.2.1 hd (kk p e s m args below meth c R mc ms ρ0 h0 hF hR cells slots ρ H locs ls (hD.stk ⟨trivial, hD.oks.2.2⟩))
theorem pb_ior {x x2 : Int32} (hd : decode y.2.1 pc = .ok (.ior, 1)) {pc2 : Nat} (hp : pc + 1 = pc2) (kk : pb_S Z y d k n post pc2 lv (.int (x ||| x2) :: st) h) : pb_S Z y d k n post pc lv (.int x2 :: .int x :: st) h := by
  subst hp
  intro p e s m args below meth c R mc ms ρ0 h0 hF hR cells slots ρ H locs ls hD
  exact lv_ior hF.1 hF.2.1 hd (kk p e s m args below meth c R mc ms ρ0 h0 hF hR cells slots ρ H locs ls (hD.stk ⟨trivial, hD.oks.2.2⟩))
theorem pb_ixor {x x2 : Int32} (hd : decode y.2.1 pc = .ok (.ixor, 1)) {pc2 : Nat} (hp : pc + 1 = pc2) (kk : pb_S Z y d k n post pc2 lv (.int (x ^^^ x2) :: st) h) : pb_S Z y d k n post pc lv (.int x2 :: .int x :: st) h := by
  subst hp
  intro p e s m args below meth c R mc ms ρ0 h0 hF hR cells slots ρ H locs ls hD
  exact lv_ixor hF.1 hF.2.1 hd (kk p e s m args below meth c R mc ms ρ0 h0 hF hR cells slots ρ H locs ls (hD.stk ⟨trivial, hD.oks.2.2⟩))
theorem pb_idiv {x x2 : Int32} (hd : decode y.2.1 pc = .ok (.idiv, 1)) (hne : ¬ x2 = 0) {pc2 : Nat} (hp : pc + 1 = pc2) (kk : pb_S Z y d k n post pc2 lv (.int (x / x2) :: st) h) : pb_S Z y d k n post pc lv (.int x2 :: .int x :: st) h := by
  subst hp
  intro p e s m args below meth c R mc ms ρ0 h0 hF hR cells slots ρ H locs ls hD
  exact lv_idiv hF.1 hF.2.1 hd hne (kk p e s m args below meth c R mc ms ρ0 h0 hF hR cells slots ρ H locs ls (hD.stk ⟨trivial, hD.oks.2.2⟩))
theorem pb_irem {x x2 : Int32} (hd : decode y.2.1 pc = .ok (.irem, 1)) (hne : ¬ x2 = 0) {pc2 : Nat} (hp : pc + 1 = pc2) (kk : pb_S Z y d k n post pc2 lv (.int (x - x / x2 * x2) :: st) h) : pb_S Z y d k n post pc lv (.int x2 :: .int x :: st) h := by
  subst hp
  intro p e s m args below meth c R mc ms ρ0 h0 hF hR cells slots ρ H locs ls hD
  exact lv_irem hF.1 hF.2.1 hd hne (kk p e s m args below meth c R mc ms ρ0 h0 hF hR cells slots ρ H locs ls (hD.stk ⟨trivial, hD.oks.2.2⟩))
theorem pb_ineg {x : Int32} (hd : decode y.2.1 pc = .ok (.ineg, 1)) {pc2 : Nat} (hp : pc + 1 = pc2) (kk : pb_S Z y d k n post pc2 lv (.int (-x) :: st) h) : pb_S Z y d k n post pc lv (.int x :: st) h := by
  subst hp
  intro p e s m args below meth c R mc ms ρ0 h0 hF hR cells slots ρ H locs ls hD
  exact lv_ineg hF.1 hF.2.1 hd (kk p e s m args below meth c R mc ms ρ0 h0 hF hR cells slots ρ H locs ls (hD.stk ⟨trivial, hD.oks.2⟩))
theorem pb_ladd {x x2 : Int64} (hd : decode y.2.1 pc = .ok (.ladd, 1)) {pc2 : Nat} (hp : pc + 1 = pc2) (kk : pb_S Z y d k n post pc2 lv (.long (x + x2) :: st) h) : pb_S Z y d k n post pc lv (.long x2 :: .long x :: st) h := by
  subst hp
  intro p e s m args below meth c R mc ms ρ0 h0 hF hR cells slots ρ H locs ls hD
  exact lv_ladd hF.1 hF.2.1 hd (kk p e s m args below meth c R mc ms ρ0 h0 hF hR cells slots ρ H locs ls (hD.stk ⟨trivial, hD.oks.2.2⟩))
theorem pb_lsub {x x2 : Int64} (hd : decode y.2.1 pc = .ok (.lsub, 1)) {pc2 : Nat} (hp : pc + 1 = pc2) (kk : pb_S Z y d k n post pc2 lv (.long (x - x2) :: st) h) : pb_S Z y d k n post pc lv (.long x2 :: .long x :: st) h := by
  subst hp
  intro p e s m args below meth c R mc ms ρ0 h0 hF hR cells slots ρ H locs ls hD
  exact lv_lsub hF.1 hF.2.1 hd (kk p e s m args below meth c R mc ms ρ0 h0 hF hR cells slots ρ H locs ls (hD.stk ⟨trivial, hD.oks.2.2⟩))
theorem pb_lmul {x x2 : Int64} (hd : decode y.2.1 pc = .ok (.lmul, 1)) {pc2 : Nat} (hp : pc + 1 = pc2) (kk : pb_S Z y d k n post pc2 lv (.long (x * x2) :: st) h) : pb_S Z y d k n post pc lv (.long x2 :: .long x :: st) h := by
  subst hp
  intro p e s m args below meth c R mc ms ρ0 h0 hF hR cells slots ρ H locs ls hD
  exact lv_lmul hF.1 hF.2.1 hd (kk p e s m args below meth c R mc ms ρ0 h0 hF hR cells slots ρ H locs ls (hD.stk ⟨trivial, hD.oks.2.2⟩))
theorem pb_ldiv {x x2 : Int64} (hd : decode y.2.1 pc = .ok (.ldiv, 1)) (hne : ¬ x2 = 0) {pc2 : Nat} (hp : pc + 1 = pc2) (kk : pb_S Z y d k n post pc2 lv (.long (x / x2) :: st) h) : pb_S Z y d k n post pc lv (.long x2 :: .long x :: st) h := by
  subst hp
  intro p e s m args below meth c R mc ms ρ0 h0 hF hR cells slots ρ H locs ls hD
  exact lv_ldiv hF.1 hF.2.1 hd hne (kk p e s m args below meth c R mc ms ρ0 h0 hF hR cells slots ρ H locs ls (hD.stk ⟨trivial, hD.oks.2.2⟩))
theorem pb_i2l {x : Int32} (hd : decode y.2.1 pc = .ok (.i2l, 1)) {pc2 : Nat} (hp : pc + 1 = pc2) (kk : pb_S Z y d k n post pc2 lv (.long x.toInt64 :: st) h) : pb_S Z y d k n post pc lv (.int x :: st) h := by
  subst hp
  intro p e s m args below meth c R mc ms ρ0 h0 hF hR cells slots ρ H locs ls hD
  exact lv_i2l hF.1 hF.2.1 hd rfl (kk p e s m args below meth c R mc ms ρ0 h0 hF hR cells slots ρ H locs ls (hD.stk ⟨trivial, hD.oks.2⟩))
theorem pb_l2i {x : Int64} (hd : decode y.2.1 pc = .ok (.l2i, 1)) {pc2 : Nat} (hp : pc + 1 = pc2) (kk : pb_S Z y d k n post pc2 lv (.int x.toInt32 :: st) h) : pb_S Z y d k n post pc lv (.long x :: st) h := by
  subst hp
  intro p e s m args below meth c R mc ms ρ0 h0 hF hR cells slots ρ H locs ls hD
  exact lv_l2i hF.1 hF.2.1 hd rfl (kk p e s m args below meth c R mc ms ρ0 h0 hF hR cells slots ρ H locs ls (hD.stk ⟨trivial, hD.oks.2⟩))
theorem pb_lcmp {x x2 : Int64} (hd : decode y.2.1 pc = .ok (.lcmp, 1)) {pc2 : Nat} (hp : pc + 1 = pc2) (kk : pb_S Z y d k n post pc2 lv (.int (lg_cmp x x2) :: st) h) : pb_S Z y d k n post pc lv (.long x2 :: .long x :: st) h := by
  subst hp
  intro p e s m args below meth c R mc ms ρ0 h0 hF hR cells slots ρ H locs ls hD
  exact W.lcmp hF.1 hF.2.1 hd (kk p e s m args below meth c R mc ms ρ0 h0 hF hR cells slots ρ H locs ls (hD.stk ⟨trivial, hD.oks.2.2⟩))
theorem pb_iushr {x x2 : Int32} (hd : decode y.2.1 pc = .ok (.iushr, 1)) {pc2 : Nat} (hp : pc + 1 = pc2) (kk : pb_S Z y d k n post pc2 lv (.int (x.toUInt32 >>> (x2.toUInt32 &&& Int32.toUInt32 31)).toInt32 :: st) h) : pb_S Z y d k n post pc lv (.int x2 :: .int x :: st) h := by
  subst hp
  intro p e s m args below meth c R mc ms ρ0 h0 hF hR cells slots ρ H locs ls hD
  exact lv_iushr hF.1 hF.2.1 hd rfl (kk p e s m args below meth c R mc ms ρ0 h0 hF hR cells slots ρ H locs ls (hD.stk ⟨trivial, hD.oks.2.2⟩))
theorem pb_dup {v : Value} (hd : decode y.2.1 pc = .ok (.dup, 1)) (hv : v.category = 1) {pc2 : Nat} (hp : pc + 1 = pc2) (kk : pb_S Z y d k n post pc2 lv (v :: v :: st) h) : pb_S Z y d k n post pc lv (v :: st) h := by
  subst hp
  intro p e s m args below meth c R mc ms ρ0 h0 hF hR cells slots ρ H locs ls hD
  exact lv_dup hF.1 hF.2.1 hd (by rw [pb_up_cat]; exact hv) (kk p e s m args below meth c R mc ms ρ0 h0 hF hR cells slots ρ H locs ls (hD.stk ⟨hD.oks.1, hD.oks.1, hD.oks.2⟩))
theorem pb_dup2 {v v2 : Value} (hd : decode y.2.1 pc = .ok (.dup2, 1)) (hv : v.category = 1) (hv2 : v2.category = 1) {pc2 : Nat} (hp : pc + 1 = pc2) (kk : pb_S Z y d k n post pc2 lv (v :: v2 :: v :: v2 :: st) h) : pb_S Z y d k n post pc lv (v :: v2 :: st) h := by
  subst hp
  intro p e s m args below meth c R mc ms ρ0 h0 hF hR cells slots ρ H locs ls hD
  exact lv_dup2_11 hF.1 hF.2.1 hd (by rw [pb_up_cat]; exact hv) (by rw [pb_up_cat]; exact hv2) (kk p e s m args below meth c R mc ms ρ0 h0 hF hR cells slots ρ H locs ls (hD.stk ⟨hD.oks.1, hD.oks.2.1, hD.oks.1, hD.oks.2.1, hD.oks.2.2⟩))
theorem pb_ishl {x x2 : Int32} (hd : decode y.2.1 pc = .ok (.ishl, 1)) {pc2 : Nat} (hp : pc + 1 = pc2) (kk : pb_S Z y d k n post pc2 lv (.int (x <<< (x2 &&& 31)) :: st) h) : pb_S Z y d k n post pc lv (.int x2 :: .int x :: st) h := by
  subst hp
  intro p e s m args below meth c R mc ms ρ0 h0 hF hR cells slots ρ H locs ls hD
  exact lv_ishl hF.1 hF.2.1 hd (kk p e s m args below meth c R mc ms ρ0 h0 hF hR cells slots ρ H locs ls (hD.stk ⟨trivial, hD.oks.2.2⟩))
theorem pb_ishr {x x2 : Int32} (hd : decode y.2.1 pc = .ok (.ishr, 1)) {pc2 : Nat} (hp : pc + 1 = pc2) (kk : pb_S Z y d k n post pc2 lv (.int (x >>> (x2 &&& 31)) :: st) h) : pb_S Z y d k n post pc lv (.int x2 :: .int x :: st) h := by
  subst hp
  intro p e s m args below meth c R mc ms ρ0 h0 hF hR cells slots ρ H locs ls hD
  exact lv_ishr hF.1 hF.2.1 hd (kk p e s m args below meth c R mc ms ρ0 h0 hF hR cells slots ρ H locs ls (hD.stk ⟨trivial, hD.oks.2.2⟩))
theorem pb_if_eq {x : Int32} {off : Int} {tgt pc2 : Nat} (hd : decode y.2.1 pc = .ok (.ifCond .eq off, 3)) (ht : (pc : Int) + off = (tgt : Int)) (hp : pc + 3 = pc2) (kt : x = 0 → pb_S Z y d k n post tgt lv st h) (kf : ¬ x = 0 → pb_S Z y d k n post pc2 lv st h) : pb_S Z y d k n post pc lv (.int x :: st) h := by
  subst hp
  intro p e s m args below meth c R mc ms ρ0 h0 hF hR cells slots ρ H locs ls hD
  exact lv_if_eq hF.1 hF.2.1 hd ht (fun hq => kt hq p e s m args below meth c R mc ms ρ0 h0 hF hR cells slots ρ H locs ls (hD.stk hD.oks.2)) (fun hq => kf hq p e s m args below meth c R mc ms ρ0 h0 hF hR cells slots ρ H locs ls (hD.stk hD.oks.2))
theorem pb_if_ne {x : Int32} {off : Int} {tgt pc2 : Nat} (hd : decode y.2.1 pc = .ok (.ifCond .ne off, 3)) (ht : (pc : Int) + off = (tgt : Int)) (hp : pc + 3 = pc2) (kt : ¬ x = 0 → pb_S Z y d k n post tgt lv st h) (kf : x = 0 → pb_S Z y d k n post pc2 lv st h) : pb_S Z y d k n post pc lv (.int x :: st) h := by
  subst hp
  intro p e s m args below meth c R mc ms ρ0 h0 hF hR cells slots ρ H locs ls hD
  exact lv_if_ne hF.1 hF.2.1 hd ht (fun hq => kt hq p e s m args below meth c R mc ms ρ0 h0 hF hR cells slots ρ H locs ls (hD.stk hD.oks.2)) (fun hq => kf hq p e s m args below meth c R mc ms ρ0 h0 hF hR cells slots ρ H locs ls (hD.stk hD.oks.2))
theorem pb_if_lt {x : Int32} {off : Int} {tgt pc2 : Nat} (hd : decode y.2.1 pc = .ok (.ifCond .lt off, 3)) (ht : (pc : Int) + off = (tgt : Int)) (hp : pc + 3 = pc2) (kt : x < 0 → pb_S Z y d k n post tgt lv st h) (kf : ¬ x < 0 → pb_S Z y d k n post pc2 lv st h) : pb_S Z y d k n post pc lv (.int x :: st) h := by
  subst hp
  intro p e s m args below meth c R mc ms ρ0 h0 hF hR cells slots ρ H locs ls hD
  exact lv_if_lt hF.1 hF.2.1 hd ht (fun hq => kt hq p e s m args below meth c R mc ms ρ0 h0 hF hR cells slots ρ H locs ls (hD.stk hD.oks.2)) (fun hq => kf hq p e s m args below meth c R mc ms ρ0 h0 hF hR cells slots ρ H locs ls (hD.stk hD.oks.2))
theorem pb_if_ge {x : Int32} {off : Int} {tgt pc2 : Nat} (hd : decode y.2.1 pc = .ok (.ifCond .ge off, 3)) (ht : (pc : Int) + off = (tgt : Int)) (hp : pc + 3 = pc2) (kt : 0 ≤ x → pb_S Z y d k n post tgt lv st h) (kf : ¬ 0 ≤ x → pb_S Z y d k n post pc2 lv st h) : pb_S Z y d k n post pc lv (.int x :: st) h := by
  subst hp
  intro p e s m args below meth c R mc ms ρ0 h0 hF hR cells slots ρ H locs ls hD
  exact lv_if_ge hF.1 hF.2.1 hd ht (fun hq => kt hq p e s m args below meth c R mc ms ρ0 h0 hF hR cells slots ρ H locs ls (hD.stk hD.oks.2)) (fun hq => kf hq p e s m args below meth c R mc ms ρ0 h0 hF hR cells slots ρ H locs ls (hD.stk hD.oks.2))
theorem pb_if_gt {x : Int32} {off : Int} {tgt pc2 : Nat} (hd : decode y.2.1 pc = .ok (.ifCond .gt off, 3)) (ht : (pc : Int) + off = (tgt : Int)) (hp : pc + 3 = pc2) (kt : 0 < x → pb_S Z y d k n post tgt lv st h) (kf : ¬ 0 < x → pb_S Z y d k n post pc2 lv st h) : pb_S Z y d k n post pc lv (.int x :: st) h := by
  subst hp
  intro p e s m args below meth c R mc ms ρ0 h0 hF hR cells slots ρ H locs ls hD
  exact lv_if_gt hF.1 hF.2.1 hd ht (fun hq => kt hq p e s m args below meth c R mc ms ρ0 h0 hF hR cells slots ρ H locs ls (hD.stk hD.oks.2)) (fun hq => kf hq p e s m args below meth c R mc ms ρ0 h0 hF hR cells slots ρ H locs ls (hD.stk hD.oks.2))
theorem pb_if_le {x : Int32} {off : Int} {tgt pc2 : Nat} (hd : decode y.2.1 pc = .ok (.ifCond .le off, 3)) (ht : (pc : Int) + off = (tgt : Int)) (hp : pc + 3 = pc2) (kt : x ≤ 0 → pb_S Z y d k n post tgt lv st h) (kf : ¬ x ≤ 0 → pb_S Z y d k n post pc2 lv st h) : pb_S Z y d k n post pc lv (.int x :: st) h := by
  subst hp
  intro p e s m args below meth c R mc ms ρ0 h0 hF hR cells slots ρ H locs ls hD
  exact lv_if_le hF.1 hF.2.1 hd ht (fun hq => kt hq p e s m args below meth c R mc ms ρ0 h0 hF hR cells slots ρ H locs ls (hD.stk hD.oks.2)) (fun hq => kf hq p e s m args below meth c R mc ms ρ0 h0 hF hR cells slots ρ H locs ls (hD.stk hD.oks.2))
theorem pb_icmp_eq {x x2 : Int32} {off : Int} {tgt pc2 : Nat} (hd : decode y.2.1 pc = .ok (.if_icmp .eq off, 3)) (ht : (pc : Int) + off = (tgt : Int)) (hp : pc + 3 = pc2) (kt : x = x2 → pb_S Z y d k n post tgt lv st h) (kf : ¬ x = x2 → pb_S Z y d k n post pc2 lv st h) : pb_S Z y d k n post pc lv (.int x2 :: .int x :: st) h := by
  subst hp
  intro p e s m args below meth c R mc ms ρ0 h0 hF hR cells slots ρ H locs ls hD
  exact lv_icmp_eq hF.1 hF.2.1 hd ht (fun hq => kt hq p e s m args below meth c R mc ms ρ0 h0 hF hR cells slots ρ H locs ls (hD.stk hD.oks.2.2)) (fun hq => kf hq p e s m args below meth c R mc ms ρ0 h0 hF hR cells slots ρ H locs ls (hD.stk hD.oks.2.2))
theorem pb_icmp_ne {x x2 : Int32} {off : Int} {tgt pc2 : Nat} (hd : decode y.2.1 pc = .ok (.if_icmp .ne off, 3)) (ht : (pc : Int) + off = (tgt : Int)) (hp : pc + 3 = pc2) (kt : ¬ x = x2 → pb_S Z y d k n post tgt lv st h) (kf : x = x2 → pb_S Z y d k n post pc2 lv st h) : pb_S Z y d k n post pc lv (.int x2 :: .int x :: st) h := by
  subst hp
  intro p e s m args below meth c R mc ms ρ0 h0 hF hR cells slots ρ H locs ls hD
  exact lv_icmp_ne hF.1 hF.2.1 hd ht (fun hq => kt hq p e s m args below meth c R mc ms ρ0 h0 hF hR cells slots ρ H locs ls (hD.stk hD.oks.2.2)) (fun hq => kf hq p e s m args below meth c R mc ms ρ0 h0 hF hR cells slots ρ H locs ls (hD.stk hD.oks.2.2))
theorem pb_icmp_lt {x x2 : Int32} {off : Int} {tgt pc2 : Nat} (hd : decode y.2.1 pc = .ok (.if_icmp .lt off, 3)) (ht : (pc : Int) + off = (tgt : Int)) (hp : pc + 3 = pc2) (kt : x < x2 → pb_S Z y d k n post tgt lv st h) (kf : ¬ x < x2 → pb_S Z y d k n post pc2 lv st h) : pb_S Z y d k n post pc lv (.int x2 :: .int x :: st) h := by
  subst hp
  intro p e s m args below meth c R mc ms ρ0 h0 hF hR cells slots ρ H locs ls hD
  exact lv_icmp_lt hF.1 hF.2.1 hd ht (fun hq => kt hq p e s m args below meth c R mc ms ρ0 h0 hF hR cells slots ρ H locs ls (hD.stk hD.oks.2.2)) (fun hq => kf hq p e s m args below meth c R mc ms ρ0 h0 hF hR cells slots ρ H locs ls (hD.stk hD.oks.2.2))
theorem pb_icmp_ge {x x2 : Int32} {off : Int} {tgt pc2 : Nat} (hd : decode y.2.1 pc = .ok (.if_icmp .ge off, 3)) (ht : (pc : Int) + off = (tgt : Int)) (hp : pc + 3 = pc2) (kt : x2 ≤ x → pb_S Z y d k n post tgt lv st h) (kf : ¬ x2 ≤ x → pb_S Z y d k n post pc2 lv st h) : pb_S Z y d k n post pc lv (.int x2 :: .int x :: st) h := by
  subst hp
  intro p e s m args below meth c R mc ms ρ0 h0 hF hR cells slots ρ H locs ls hD
  exact lv_icmp_ge hF.1 hF.2.1 hd ht (fun hq => kt hq p e s m args below meth c R mc ms ρ0 h0 hF hR cells slots ρ H locs ls (hD.stk hD.oks.2.2)) (fun hq => kf hq p e s m args below meth c R mc ms ρ0 h0 hF hR cells slots ρ H locs ls (hD.stk hD.oks.2.2))
theorem pb_icmp_gt {x x2 : Int32} {off : Int} {tgt pc2 : Nat} (hd : decode y.2.1 pc = .ok (.if_icmp .gt off, 3)) (ht : (pc : Int) + off = (tgt : Int)) (hp : pc + 3 = pc2) (kt : x2 < x → pb_S Z y d k n post tgt lv st h) (kf : ¬ x2 < x → pb_S Z y d k n post pc2 lv st h) : pb_S Z y d k n post pc lv (.int x2 :: .int x :: st) h := by
  subst hp
  intro p e s m args below meth c R mc ms ρ0 h0 hF hR cells slots ρ H locs ls hD
  exact lv_icmp_gt hF.1 hF.2.1 hd ht (fun hq => kt hq p e s m args below meth c R mc ms ρ0 h0 hF hR cells slots ρ H locs ls (hD.stk hD.oks.2.2)) (fun hq => kf hq p e s m args below meth c R mc ms ρ0 h0 hF hR cells slots ρ H locs ls (hD.stk hD.oks.2.2))
theorem pb_icmp_le {x x2 : Int32} {off : Int} {tgt pc2 : Nat} (hd : decode y.2.1 pc = .ok (.if_icmp .le off, 3)) (ht : (pc : Int) + off = (tgt : Int)) (hp : pc + 3 = pc2) (kt : x ≤ x2 → pb_S Z y d k n post tgt lv st h) (kf : ¬ x ≤ x2 → pb_S Z y d k n post pc2 lv st h) : pb_S Z y d k n post pc lv (.int x2 :: .int x :: st) h := by
  subst hp
  intro p e s m args below meth c R mc ms ρ0 h0 hF hR cells slots ρ H locs ls hD
  exact lv_icmp_le hF.1 hF.2.1 hd ht (fun hq => kt hq p e s m args below meth c R mc ms ρ0 h0 hF hR cells slots ρ H locs ls (hD.stk hD.oks.2.2)) (fun hq => kf hq p e s m args below meth c R mc ms ρ0 h0 hF hR cells slots ρ H locs ls (hD.stk hD.oks.2.2))
theorem pb_goto {off : Int} {tgt : Nat} (hd : decode y.2.1 pc = .ok (.goto off, 3)) (ht : (pc : Int) + off = (tgt : Int)) (kk : pb_S Z y d k n post tgt lv st h) : pb_S Z y d k n post pc lv (st) h := by
  intro p e s m args below meth c R mc ms ρ0 h0 hF hR cells slots ρ H locs ls hD
  exact lv_goto hF.1 hF.2.1 hd ht (kk p e s m args below meth c R mc ms ρ0 h0 hF hR cells slots ρ H locs ls (hD.stk hD.oks))
theorem pb_ifnonnull {a : Nat} {off : Int} {tgt : Nat} (hd : decode y.2.1 pc = .ok (.ifnonnull off, 3)) (ht : (pc : Int) + off = (tgt : Int)) (kk : pb_S Z y d k n post tgt lv st h) : pb_S Z y d k n post pc lv (.ref a :: st) h := by
  intro p e s m args below meth c R mc ms ρ0 h0 hF hR cells slots ρ H locs ls hD
  exact lv_ifnonnull hF.1 hF.2.1 hd ht (kk p e s m args below meth c R mc ms ρ0 h0 hF hR cells slots ρ H locs ls (hD.stk hD.oks.2))
theorem pb_ifnonnullN {off : Int} {pc2 : Nat} (hd : decode y.2.1 pc = .ok (.ifnonnull off, 3)) (hp : pc + 3 = pc2) (kk : pb_S Z y d k n post pc2 lv st h) : pb_S Z y d k n post pc lv (.null :: st) h := by
  subst hp
  intro p e s m args below meth c R mc ms ρ0 h0 hF hR cells slots ρ H locs ls hD
  exact lv_ifnonnullN hF.1 hF.2.1 hd (kk p e s m args below meth c R mc ms ρ0 h0 hF hR cells slots ρ H locs ls (hD.stk hD.oks.2))
theorem pb_ifnull {a : Nat} {off : Int} {pc2 : Nat} (hd : decode y.2.1 pc = .ok (.ifnull off, 3)) (hp : pc + 3 = pc2) (kk : pb_S Z y d k n post pc2 lv st h) : pb_S Z y d k n post pc lv (.ref a :: st) h := by
  subst hp
  intro p e s m args below meth c R mc ms ρ0 h0 hF hR cells slots ρ H locs ls hD
  exact lv_ifnull hF.1 hF.2.1 hd (kk p e s m args below meth c R mc ms ρ0 h0 hF hR cells slots ρ H locs ls (hD.stk hD.oks.2))
theorem pb_ifnullN {off : Int} {tgt : Nat} (hd : decode y.2.1 pc = .ok (.ifnull off, 3)) (ht : (pc : Int) + off = (tgt : Int)) (kk : pb_S Z y d k n post tgt lv st h) : pb_S Z y d k n post pc lv (.null :: st) h := by
  intro p e s m args below meth c R mc ms ρ0 h0 hF hR cells slots ρ H locs ls hD
  exact lv_ifnullN hF.1 hF.2.1 hd ht (kk p e s m args below meth c R mc ms ρ0 h0 hF hR cells slots ρ H locs ls (hD.stk hD.oks.2))
theorem pb_swIn {x : Int32} {dflt lo hi off : Int} {offs : Array Int} {len tgt : Nat} (hd : decode y.2.1 pc = .ok (.tableswitch dflt lo hi offs, len)) (h1 : ¬ x.toInt < lo) (h2 : ¬ hi < x.toInt) (ho : offs[(x.toInt - lo).toNat]? = some off) (ht : (pc : Int) + off = (tgt : Int)) (kk : pb_S Z y d k n post tgt lv st h) : pb_S Z y d k n post pc lv (.int x :: st) h := by
  intro p e s m args below meth c R mc ms ρ0 h0 hF hR cells slots ρ H locs ls hD
  exact lv_tableIn hF.1 hF.2.1 hd h1 h2 ho ht (kk p e s m args below meth c R mc ms ρ0 h0 hF hR cells slots ρ H locs ls (hD.stk hD.oks.2))
theorem pb_swOut {x : Int32} {dflt lo hi : Int} {offs : Array Int} {len tgt : Nat} (hd : decode y.2.1 pc = .ok (.tableswitch dflt lo hi offs, len)) (h1 : x.toInt < lo ∨ hi < x.toInt) (ht : (pc : Int) + dflt = (tgt : Int)) (kk : pb_S Z y d k n post tgt lv st h) : pb_S Z y d k n post pc lv (.int x :: st) h := by
  intro p e s m args below meth c R mc ms ρ0 h0 hF hR cells slots ρ H locs ls hD
  exact lv_tableOut hF.1 hF.2.1 hd h1 ht (kk p e s m args below meth c R mc ms ρ0 h0 hF hR cells slots ρ H locs ls (hD.stk hD.oks.2))
/-- the known locals as pairs -/
def pb_as (ρ : Nat → Nat) : Nat → List (Option Value) → List (Nat × Value)
  | _, [] => []
  | i, none :: l => pb_as ρ (i + 1) l
  | i, some v :: l => (i, pb_up ρ v) :: pb_as ρ (i + 1) l
theorem pb_as_of {ρ : Nat → Nat} : ∀ {l : List (Option Value)} {i : Nat} {q : Nat × Value}, q ∈ pb_as ρ i l → ∃ (j : Nat) (v : Value), l[j]? = some (some v) ∧ q = (i + j, pb_up ρ v)
  | [], i, q, hq => by cases hq
  | none :: l, i, q, hq => by
    obtain ⟨j, v, h1, h2⟩ := pb_as_of (l := l) (i := i + 1) hq
    exact ⟨j + 1, v, h1, by rw [h2]; congr 1; omega⟩
  | some v :: l, i, q, hq => by
    rcases List.mem_cons.mp hq with rfl | hq
    · exact ⟨0, v, rfl, rfl⟩
    · obtain ⟨j, v, h1, h2⟩ := pb_as_of (l := l) (i := i + 1) hq
      exact ⟨j + 1, v, h1, by rw [h2]; congr 1; omega⟩
theorem pb_as_in {ρ : Nat → Nat} : ∀ {l : List (Option Value)} {i j : Nat} {v : Value}, l[j]? = some (some v) → (i + j, pb_up ρ v) ∈ pb_as ρ i l
  | [], i, j, v, h => by simp at h
  | none :: l, i, 0, v, h => by simp at h
  | none :: l, i, j + 1, v, h => by
    have := pb_as_in (ρ := ρ) (l := l) (i := i + 1) (j := j) (v := v) (by simpa using h)
    rw [show i + (j + 1) = i + 1 + j by omega]
    exact this
  | some w :: l, i, 0, v, h => by
    have e : w = v := by simpa using h
    subst e
    exact List.mem_cons_self
  | some w :: l, i, j + 1, v, h => by
    have := pb_as_in (ρ := ρ) (l := l) (i := i + 1) (j := j) (v := v) (by simpa using h)
    rw [show i + (j + 1) = i + 1 + j by omega]
    exact List.mem_cons_of_mem _ this
theorem pb_lv.has {ρ : Nat → Nat} {ls : Array Slot} {nL : Nat} (hl : pb_lv ρ ls nL lv) : lv_has ls nL (pb_as ρ 0 lv) := ⟨hl.1, hl.2.1, fun q hq => by
  obtain ⟨j, v, h1, h2⟩ := pb_as_of hq
  rw [h2]
  show ls[0 + j]? = _
  rw [Nat.zero_add]
  exact hl.2.2 j v h1⟩
def pb_fx (lv : List (Option Value)) : Nat → List (Option Value)
  | 0 => lv
  | i + 1 => match lv[i]? with
    | some (some w) => if w.category = 2 then lv.set i none else lv
    | _ => lv
theorem pb_fx_at {lv : List (Option Value)} {i j : Nat} {w : Value} (h : (pb_fx lv i)[j]? = some (some w)) : lv[j]? = some (some w) ∧ ¬ (j + 1 = i ∧ w.category = 2) := by
  cases i with
  | zero => exact ⟨h, fun q => by omega⟩
  | succ i =>
    have h : (match lv[i]? with
      | some (some w) => if w.category = 2 then lv.set i none else lv
      | _ => lv)[j]? = some (some w) := h
    cases hx : lv[i]? with
    | none =>
      rw [hx] at h
      refine ⟨h, fun q => ?_⟩
      have e : j = i := by omega
      subst e
      have h : lv[j]? = some (some w) := h
      rw [hx] at h
      cases h
    | some o =>
      cases o with
      | none =>
        rw [hx] at h
        refine ⟨h, fun q => ?_⟩
        have e : j = i := by omega
        subst e
        have h : lv[j]? = some (some w) := h
        rw [hx] at h
        cases h
      | some w' =>
        rw [hx] at h
        have h : (if w'.category = 2 then lv.set i none else lv)[j]? = some (some w) := h
        by_cases hc : w'.category = 2
        · rw [if_pos hc] at h
          by_cases e : j = i
          · subst e
            rw [List.getElem?_set] at h
            simp at h
          · rw [List.getElem?_set_ne (Ne.symm e)] at h
            exact ⟨h, fun q => e (by omega)⟩
        · rw [if_neg hc] at h
          refine ⟨h, fun q => hc ?_⟩
          have e : j = i := by omega
          have h9 : some (some w') = some (some w) := by rw [← hx, ← e]; exact h
          cases h9
          exact q.2
def pb_s1 (lv : List (Option Value)) (i : Nat) (v : Value) : List (Option Value) := (pb_fx lv i).set i (some v)
def pb_s2 (lv : List (Option Value)) (i : Nat) (v : Value) : List (Option Value) := ((pb_fx lv i).set i (some v)).set (i + 1) none
theorem pb_s1_at {lv : List (Option Value)} {i j : Nat} {v w : Value} (h : (pb_s1 lv i v)[j]? = some (some w)) : (j = i ∧ w = v) ∨ (j ≠ i ∧ lv[j]? = some (some w) ∧ ¬ (j + 1 = i ∧ w.category = 2)) := by
  unfold pb_s1 at h
  by_cases e : j = i
  · subst e
    rw [List.getElem?_set] at h
    simp at h
    exact Or.inl ⟨rfl, h.2.symm⟩
  · rw [List.getElem?_set_ne (Ne.symm e)] at h
    exact Or.inr ⟨e, pb_fx_at h⟩
theorem pb_s2_at {lv : List (Option Value)} {i j : Nat} {v w : Value} (h : (pb_s2 lv i v)[j]? = some (some w)) : (j = i ∧ w = v) ∨ (j ≠ i ∧ j ≠ i + 1 ∧ lv[j]? = some (some w) ∧ ¬ (j + 1 = i ∧ w.category = 2)) := by
  unfold pb_s2 at h
  by_cases e1 : j = i + 1
  · subst e1
    rw [List.getElem?_set] at h
    simp at h
  · rw [List.getElem?_set_ne (Ne.symm e1)] at h
    rcases pb_s1_at h with q | q
    · exact Or.inl q
    · exact Or.inr ⟨q.1, e1, q.2⟩
theorem pb_lv.s1 {ρ : Nat → Nat} {ls' : Array Slot} {nL i : Nat} {v : Value} (hl : lv_has ls' nL ((i, pb_up ρ v) :: (pb_as ρ 0 lv).filter (fun q => !(q.1 == i) && !(q.1 + 1 == i && q.2.category == 2)))) : pb_lv ρ ls' nL (pb_s1 lv i v) := ⟨hl.1, hl.2.1, fun j w hj => by
  rcases pb_s1_at hj with ⟨rfl, rfl⟩ | ⟨h1, h2, h3⟩
  · exact hl.2.2 _ List.mem_cons_self
  · refine hl.2.2 (j, pb_up ρ w) (List.mem_cons_of_mem _ (List.mem_filter.mpr ⟨?_, ?_⟩))
    · have := pb_as_in (ρ := ρ) (i := 0) h2
      rw [Nat.zero_add] at this
      exact this
    · simp only [Bool.and_eq_true, Bool.not_eq_true', beq_eq_false_iff_ne, ne_eq, Bool.and_eq_false_iff, pb_up_cat]
      refine ⟨h1, ?_⟩
      by_cases q : j + 1 = i
      · exact Or.inr (fun z => h3 ⟨q, z⟩)
      · exact Or.inl q⟩
theorem pb_lv.s2 {ρ : Nat → Nat} {ls' : Array Slot} {nL i : Nat} {v : Value} (hl : lv_has ls' nL ((i, pb_up ρ v) :: (pb_as ρ 0 lv).filter (fun q => !(q.1 == i) && (!(q.1 == i + 1) && !(q.1 + 1 == i && q.2.category == 2))))) : pb_lv ρ ls' nL (pb_s2 lv i v) := ⟨hl.1, hl.2.1, fun j w hj => by
  rcases pb_s2_at hj with ⟨rfl, rfl⟩ | ⟨h1, h1', h2, h3⟩
  · exact hl.2.2 _ List.mem_cons_self
  · refine hl.2.2 (j, pb_up ρ w) (List.mem_cons_of_mem _ (List.mem_filter.mpr ⟨?_, ?_⟩))
    · have := pb_as_in (ρ := ρ) (i := 0) h2
      rw [Nat.zero_add] at this
      exact this
    · simp only [Bool.and_eq_true, Bool.not_eq_true', beq_eq_false_iff_ne, ne_eq, Bool.and_eq_false_iff, pb_up_cat]
      refine ⟨h1, h1', ?_⟩
      by_cases q : j + 1 = i
      · exact Or.inr (fun z => h3 ⟨q, z⟩)
      · exact Or.inl q⟩
theorem pb_Dy.s1 {k n mc ms : Nat} {ρ0 : Nat → Nat} {h0 : pb_H} {v : Value} {i : Nat} {cells slots : Nat} {ρ : Nat → Nat} {H : Heap} {locs : List Loc} {ls ls' : Array Slot} (hD : pb_Dy Z y k n mc ms ρ0 h0 lv (v :: st) h cells slots ρ H locs ls) (hl : pb_lv ρ ls' y.2.2.1 (pb_s1 lv i v)) : pb_Dy Z y k n mc ms ρ0 h0 (pb_s1 lv i v) st h cells slots ρ H locs ls' :=
  ⟨hD.1, hD.2.1, hl, hD.2.2.2.1, hD.2.2.2.2.1, hD.oks.2, fun j w hj => by
    rcases pb_s1_at hj with ⟨rfl, rfl⟩ | ⟨h1, h2, h3⟩
    · exact hD.oks.1
    · exact hD.2.2.2.2.2.2.1 j w h2, hD.2.2.2.2.2.2.2⟩
theorem pb_Dy.s2 {k n mc ms : Nat} {ρ0 : Nat → Nat} {h0 : pb_H} {v : Value} {i : Nat} {cells slots : Nat} {ρ : Nat → Nat} {H : Heap} {locs : List Loc} {ls ls' : Array Slot} (hD : pb_Dy Z y k n mc ms ρ0 h0 lv (v :: st) h cells slots ρ H locs ls) (hl : pb_lv ρ ls' y.2.2.1 (pb_s2 lv i v)) : pb_Dy Z y k n mc ms ρ0 h0 (pb_s2 lv i v) st h cells slots ρ H locs ls' :=
  ⟨hD.1, hD.2.1, hl, hD.2.2.2.1, hD.2.2.2.2.1, hD.oks.2, fun j w hj => by
    rcases pb_s2_at hj with ⟨rfl, rfl⟩ | ⟨h1, h1', h2, h3⟩
    · exact hD.oks.1
    · exact hD.2.2.2.2.2.2.1 j w h2, hD.2.2.2.2.2.2.2⟩
theorem pb_istore {x : Int32} {i0 : Nat} {lv2 : List (Option Value)} {pc2 : Nat} (hd : decode y.2.1 pc = .ok (.istore i0, 2)) (hn : i0 < y.2.2.1) (hs : pb_s1 lv i0 (.int x) = lv2) (hp : pc + 2 = pc2) (kk : pb_S Z y d k n post pc2 lv2 st h) : pb_S Z y d k n post pc lv (.int x :: st) h := by
  subst hp hs
  intro p e s m args below meth c R mc ms ρ0 h0 hF hR cells slots ρ H locs ls hD
  exact lv_istore hF.1 hF.2.1 hd (hD.2.2.1.has) hn rfl (fun ls hl => kk p e s m args below meth c R mc ms ρ0 h0 hF hR cells slots ρ H locs ls (hD.s1 (pb_lv.s1 (v := .int x) hl)))
theorem pb_istore_n {x : Int32} {j0 : Fin 4} {i0 : Nat} {lv2 : List (Option Value)} {pc2 : Nat} (hd : decode y.2.1 pc = .ok (.istore_n j0, 1)) (hj : (j0 : Nat) = i0) (hn : i0 < y.2.2.1) (hs : pb_s1 lv i0 (.int x) = lv2) (hp : pc + 1 = pc2) (kk : pb_S Z y d k n post pc2 lv2 st h) : pb_S Z y d k n post pc lv (.int x :: st) h := by
  subst hp hs
  intro p e s m args below meth c R mc ms ρ0 h0 hF hR cells slots ρ H locs ls hD
  exact lv_istore_n hF.1 hF.2.1 hd hj (hD.2.2.1.has) hn rfl (fun ls hl => kk p e s m args below meth c R mc ms ρ0 h0 hF hR cells slots ρ H locs ls (hD.s1 (pb_lv.s1 (v := .int x) hl)))
theorem pb_astore {x : Nat} {i0 : Nat} {lv2 : List (Option Value)} {pc2 : Nat} (hd : decode y.2.1 pc = .ok (.astore i0, 2)) (hn : i0 < y.2.2.1) (hs : pb_s1 lv i0 (.ref x) = lv2) (hp : pc + 2 = pc2) (kk : pb_S Z y d k n post pc2 lv2 st h) : pb_S Z y d k n post pc lv (.ref x :: st) h := by
  subst hp hs
  intro p e s m args below meth c R mc ms ρ0 h0 hF hR cells slots ρ H locs ls hD
  exact lv_astore hF.1 hF.2.1 hd (hD.2.2.1.has) hn rfl (fun ls hl => kk p e s m args below meth c R mc ms ρ0 h0 hF hR cells slots ρ H locs ls (hD.s1 (pb_lv.s1 (v := .ref x) hl)))
theorem pb_astore_n {x : Nat} {j0 : Fin 4} {i0 : Nat} {lv2 : List (Option Value)} {pc2 : Nat} (hd : decode y.2.1 pc = .ok (.astore_n j0, 1)) (hj : (j0 : Nat) = i0) (hn : i0 < y.2.2.1) (hs : pb_s1 lv i0 (.ref x) = lv2) (hp : pc + 1 = pc2) (kk : pb_S Z y d k n post pc2 lv2 st h) : pb_S Z y d k n post pc lv (.ref x :: st) h := by
  subst hp hs
  intro p e s m args below meth c R mc ms ρ0 h0 hF hR cells slots ρ H locs ls hD
  exact lv_astore_n hF.1 hF.2.1 hd hj (hD.2.2.1.has) hn rfl (fun ls hl => kk p e s m args below meth c R mc ms ρ0 h0 hF hR cells slots ρ H locs ls (hD.s1 (pb_lv.s1 (v := .ref x) hl)))
theorem pb_astoreN {i0 : Nat} {lv2 : List (Option Value)} {pc2 : Nat} (hd : decode y.2.1 pc = .ok (.astore i0, 2)) (hn : i0 < y.2.2.1) (hs : pb_s1 lv i0 (.null) = lv2) (hp : pc + 2 = pc2) (kk : pb_S Z y d k n post pc2 lv2 st h) : pb_S Z y d k n post pc lv (.null :: st) h := by
  subst hp hs
  intro p e s m args below meth c R mc ms ρ0 h0 hF hR cells slots ρ H locs ls hD
  exact lv_astoreN hF.1 hF.2.1 hd (hD.2.2.1.has) hn rfl (fun ls hl => kk p e s m args below meth c R mc ms ρ0 h0 hF hR cells slots ρ H locs ls (hD.s1 (pb_lv.s1 (v := .null) hl)))
theorem pb_astore_nN {j0 : Fin 4} {i0 : Nat} {lv2 : List (Option Value)} {pc2 : Nat} (hd : decode y.2.1 pc = .ok (.astore_n j0, 1)) (hj : (j0 : Nat) = i0) (hn : i0 < y.2.2.1) (hs : pb_s1 lv i0 (.null) = lv2) (hp : pc + 1 = pc2) (kk : pb_S Z y d k n post pc2 lv2 st h) : pb_S Z y d k n post pc lv (.null :: st) h := by
  subst hp hs
  intro p e s m args below meth c R mc ms ρ0 h0 hF hR cells slots ρ H locs ls hD
  exact lv_astore_nN hF.1 hF.2.1 hd hj (hD.2.2.1.has) hn rfl (fun ls hl => kk p e s m args below meth c R mc ms ρ0 h0 hF hR cells slots ρ H locs ls (hD.s1 (pb_lv.s1 (v := .null) hl)))
theorem pb_lstore {x : Int64} {i0 : Nat} {lv2 : List (Option Value)} {pc2 : Nat} (hd : decode y.2.1 pc = .ok (.lstore i0, 2)) (hn : i0 + 1 < y.2.2.1) (hs : pb_s2 lv i0 (.long x) = lv2) (hp : pc + 2 = pc2) (kk : pb_S Z y d k n post pc2 lv2 st h) : pb_S Z y d k n post pc lv (.long x :: st) h := by
  subst hp hs
  intro p e s m args below meth c R mc ms ρ0 h0 hF hR cells slots ρ H locs ls hD
  exact lv_lstore hF.1 hF.2.1 hd (hD.2.2.1.has) hn rfl (fun ls hl => kk p e s m args below meth c R mc ms ρ0 h0 hF hR cells slots ρ H locs ls (hD.s2 (pb_lv.s2 (v := .long x) hl)))
theorem pb_lstore_n {x : Int64} {j0 : Fin 4} {i0 : Nat} {lv2 : List (Option Value)} {pc2 : Nat} (hd : decode y.2.1 pc = .ok (.lstore_n j0, 1)) (hj : (j0 : Nat) = i0) (hn : i0 + 1 < y.2.2.1) (hs : pb_s2 lv i0 (.long x) = lv2) (hp : pc + 1 = pc2) (kk : pb_S Z y d k n post pc2 lv2 st h) : pb_S Z y d k n post pc lv (.long x :: st) h := by
  subst hp hs
  intro p e s m args below meth c R mc ms ρ0 h0 hF hR cells slots ρ H locs ls hD
  exact lv_lstore_n hF.1 hF.2.1 hd hj (hD.2.2.1.has) hn rfl (fun ls hl => kk p e s m args below meth c R mc ms ρ0 h0 hF hR cells slots ρ H locs ls (hD.s2 (pb_lv.s2 (v := .long x) hl)))
theorem pb_iinc {x : Int32} {c0 : Int} {v : Int32} {i0 : Nat} {lv2 : List (Option Value)} {pc2 : Nat} (hd : decode y.2.1 pc = .ok (.iinc i0 c0, 3)) (hl : lv[i0]? = some (some (.int x))) (hv : x + Int32.ofInt c0 = v) (hn : i0 < y.2.2.1) (hs : pb_s1 lv i0 (.int v) = lv2) (hp : pc + 3 = pc2) (kk : pb_S Z y d k n post pc2 lv2 st h) : pb_S Z y d k n post pc lv st h := by
  subst hp hs
  intro p e s m args below meth c R mc ms ρ0 h0 hF hR cells slots ρ H locs ls hD
  obtain ⟨j, hj⟩ := List.getElem?_of_mem (pb_as_in (ρ := ρ) (i := 0) hl)
  rw [Nat.zero_add] at hj
  have hD2 : pb_Dy Z y k n mc ms ρ0 h0 lv (.int v :: st) h cells slots ρ H locs ls := hD.stk ⟨trivial, hD.oks⟩
  exact lv_iinc hF.1 hF.2.1 hd (hD.2.2.1.has) hj hv hn rfl (fun ls hl => kk p e s m args below meth c R mc ms ρ0 h0 hF hR cells slots ρ H locs ls (hD2.s1 (pb_lv.s1 (v := .int v) hl)))
-- returns
theorem pb_W_Q {p : Program} {l : Launch} {e : Env} {R : Room} {s : State} {m : MethodId} {args : Array Value} {below : List Frame} {meth : Method} {c : Code} {H : Heap} {locs : List Loc} {cells slots : Nat} {Q Q' : State → Prop} {g : JFrame} (hw : W p l e R s m args below meth c H locs cells slots Q g) (hq : ∀ t, Q t → Q' t) : W p l e R s m args below meth c H locs cells slots Q' g := fun T hT X => by
  obtain ⟨t, a, b⟩ := hw T hT X
  exact ⟨t, a, hq t b⟩
theorem pb_ireturn {x : Int32} (hd : decode y.2.1 pc = .ok (.ireturn, 1)) (hr : y.2.2.2 = some .int) (hq : post (some (.int x)) h) : pb_S Z y d k n post pc lv [.int x] h := by
  intro p e s m args below meth c R mc ms ρ0 h0 hF hR cells slots ρ H locs ls hD
  refine W.widen (k := mc) (n := ms) (by have := hD.1; omega) (by have := hD.2.1; omega) ?_
  exact W.iret hF.1 hF.2.1 (hF.2.2.1.trans hr) (fun t ht hW => ⟨some (.int x), ρ, h, rfl, by rw [ht]; exact hD.2.2.2.1, hD.2.2.2.2.1, ⟨trivial, trivial⟩, hq⟩) hD.2.2.2.2.2.2.2 hd hF.2.2.2.2.2.2.2.1
theorem pb_zreturn {x : Int32} (hd : decode y.2.1 pc = .ok (.ireturn, 1)) (hr : y.2.2.2 = some .boolean) (hx : x = 0 ∨ x = 1) (hq : post (some (.int x)) h) : pb_S Z y d k n post pc lv [.int x] h := by
  intro p e s m args below meth c R mc ms ρ0 h0 hF hR cells slots ρ H locs ls hD
  refine W.widen (k := mc) (n := ms) (by have := hD.1; omega) (by have := hD.2.1; omega) ?_
  exact W.zret hF.1 hF.2.1 (hF.2.2.1.trans hr) (by rcases hx with rfl | rfl <;> rfl) (fun t ht hW => ⟨some (.int x), ρ, h, rfl, by rw [ht]; exact hD.2.2.2.1, hD.2.2.2.2.1, ⟨trivial, trivial⟩, hq⟩) hD.2.2.2.2.2.2.2 hd hF.2.2.2.2.2.2.2.1
theorem pb_lreturn {x : Int64} (hd : decode y.2.1 pc = .ok (.lreturn, 1)) (hr : y.2.2.2 = some .long) (hq : post (some (.long x)) h) : pb_S Z y d k n post pc lv [.long x] h := by
  intro p e s m args below meth c R mc ms ρ0 h0 hF hR cells slots ρ H locs ls hD
  refine W.widen (k := mc) (n := ms) (by have := hD.1; omega) (by have := hD.2.1; omega) ?_
  exact W.lret hF.1 hF.2.1 (hF.2.2.1.trans hr) (fun t ht hW => ⟨some (.long x), ρ, h, rfl, by rw [ht]; exact hD.2.2.2.1, hD.2.2.2.2.1, ⟨trivial, trivial⟩, hq⟩) hD.2.2.2.2.2.2.2 hd hF.2.2.2.2.2.2.2.1
theorem pb_return (hd : decode y.2.1 pc = .ok (.return_, 1)) (hr : y.2.2.2 = none) (hq : post none h) : pb_S Z y d k n post pc lv [] h := by
  intro p e s m args below meth c R mc ms ρ0 h0 hF hR cells slots ρ H locs ls hD
  refine W.widen (k := mc) (n := ms) (by have := hD.1; omega) (by have := hD.2.1; omega) ?_
  exact W.vret hF.1 hF.2.1 (hF.2.2.1.trans hr) (fun t ht hW => ⟨none, ρ, h, rfl, by rw [ht]; exact hD.2.2.2.1, hD.2.2.2.2.1, trivial, hq⟩) hD.2.2.2.2.2.2.2 hd hF.2.2.2.2.2.2.2.1
theorem pb_areturn {v : Value} {rt : FieldType} (hd : decode y.2.1 pc = .ok (.areturn, 1)) (hr : y.2.2.2 = some rt) (hrt : (∃ n, rt = .object n) ∨ ∃ t, rt = .array t) (hv : v = .null ∨ ∃ a, v = .ref a) (hq : post (some v) h) : pb_S Z y d k n post pc lv [v] h := by
  intro p e s m args below meth c R mc ms ρ0 h0 hF hR cells slots ρ H locs ls hD
  refine W.widen (k := mc) (n := ms) (by have := hD.1; omega) (by have := hD.2.1; omega) ?_
  exact W.aret hF.1 hF.2.1 (hF.2.2.1.trans hr) hrt (by rcases hv with rfl | ⟨a, rfl⟩; exact Or.inl rfl; exact Or.inr ⟨_, rfl⟩) (fun t ht hW => ⟨some v, ρ, h, rfl, by rw [ht]; exact hD.2.2.2.1, hD.2.2.2.2.1, ⟨hD.oks.1, trivial⟩, hq⟩) hD.2.2.2.2.2.2.2 hd hF.2.2.2.2.2.2.2.1
end PBI
