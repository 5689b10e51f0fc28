/-! THE CLASS's MEMORY -/
def cRow (n : Nat) (P : Nat → Nat) (c : Option pb_C) : Prop := ∃ F : Nat → Nat, c = some (.inl (0, n, fun j => nI (F j))) ∧ ∀ j, j < n → F j = P j
def cScr (n : Nat) (c : Option pb_C) : Prop := ∃ F : Nat → Nat, c = some (.inl (0, n, fun j => nI (F j)))
def cTo (b n : Nat) : Nat → Option Nat := fun i => if i < n then some (b + i) else none
/-- cells that stay -/
def cK : Nat → Option pb_C
  | 62 => some (.inr (.inr (4, [.ref 72, .ref 73, .ref 74, .ref 75, .ref 76])))
  | 63 => some (.inr (.inl (1, 10, cTo 100 10)))
  | 64 => some (.inr (.inl (2, 10, cTo 110 10)))
  | 66 => some (.inr (.inl (4, 6, cTo 120 6)))
  | 72 => some (.inr (.inl (4, 4, cTo 80 4)))
  | 73 => some (.inr (.inl (4, 3, cTo 84 3)))
  | 74 => some (.inr (.inl (4, 3, cTo 87 3)))
  | 302 => some (.inr (.inl (4, 12, cTo 320 12)))
  | 303 => some (.inr (.inl (4, 12, cTo 340 12)))
  | 306 => some (.inr (.inl (4, 4, cTo 360 4)))
  | 307 => some (.inr (.inl (4, 4, cTo 364 4)))
  | 402 => some (.inr (.inl (4, 12, cTo 420 12)))
  | 403 => some (.inr (.inl (4, 12, cTo 440 12)))
  | 406 => some (.inr (.inl (4, 4, cTo 460 4)))
  | 407 => some (.inr (.inl (4, 4, cTo 464 4)))
  | 412 => some (.inr (.inl (4, 6, cTo 480 6)))
  | 502 => some (.inr (.inl (4, 12, cTo 520 12)))
  | 503 => some (.inr (.inl (4, 12, cTo 540 12)))
  | 504 => some (.inr (.inl (4, 4, cTo 560 4)))
  | _ => none
/-- rows that anything may stand in -/
def cS (a : Nat) : Option Nat :=
  if a = 67 ∨ (87 ≤ a ∧ a < 90) then some 8
  else if a = 75 ∨ a = 310 ∨ a = 501 ∨ a = 505 ∨ (480 ≤ a ∧ a < 486) then some 3
  else if a = 300 ∨ a = 301 ∨ a = 400 ∨ a = 401 then some 12
  else if a = 304 ∨ a = 305 ∨ a = 404 ∨ a = 405 then some 4
  else if a = 308 ∨ a = 408 ∨ (320 ≤ a ∧ a < 332) ∨ (340 ≤ a ∧ a < 352) ∨ (361 ≤ a ∧ a < 364) ∨ (365 ≤ a ∧ a < 368) ∨ (420 ≤ a ∧ a < 432) ∨ (440 ≤ a ∧ a < 452) ∨ (461 ≤ a ∧ a < 464) ∨ (465 ≤ a ∧ a < 468) ∨ (520 ≤ a ∧ a < 532) ∨ (540 ≤ a ∧ a < 552) ∨ (560 ≤ a ∧ a < 564) then some 8
  else none
def co (A : pb_A) : List Value := [.ref 61, .ref 62, .ref 63, .ref 64, .ref 65, .ref 66, .ref 67, .ref 68, .ref 69, .ref 70, .int (nI (A 24 0)), .int (nI (A 0 0))]
def cTb (A : pb_A) (t : Nat) : List Value := [.int (nI (A 2 t)), .int (nI (A 3 t)), .int (nI (A 4 t)), .int (nI (A 5 t)), .int (nI (A 6 t)), .ref (220 + t), .ref (240 + t)]
def cMx (r n : Nat) : List Value := [.ref r, .int (nI n)]
def cMt (sz tp x c f : Nat) : List Value := [.ref 300, .ref 301, .ref 302, .ref 303, .int (nI sz), .ref 304, .ref 305, .ref 306, .ref 307, .int (nI tp), .ref 308, .int (nI x), .int (nI c), .int (nI f), .ref 309, .ref 310]
def cCh (sz tp r gc ag fa : Nat) : List Value := [.ref 400, .ref 401, .ref 402, .ref 403, .int (nI sz), .ref 404, .ref 405, .ref 406, .ref 407, .int (nI tp), .ref 408, .ref r, .ref 412, .int (nI gc), .int (nI ag), .int (nI fa)]
def cGl (m f : Nat) : List Value := [.int (nI m), .int (nI f), .ref 500, .ref 501, .ref 502, .ref 503, .ref 504, .ref 505]
def cLo (A : pb_A) (k : Nat) : List Value := [.ref (1100 + k), .int (nI (A 14 k)), .int (nI (A 15 k)), .ref (1200 + k), .ref (1300 + k), .ref (1400 + k), .ref (1500 + k)]
/-- a layer's four rows: what it keeps of its latest answers -/
def cCache (n k : Nat) (h : pb_H) : Prop := ∃ F1 F2 F3 F4 : Nat → Nat, h (1200 + k) = some (.inl (0, 8, fun j => nI (F1 j))) ∧ h (1300 + k) = some (.inl (0, 8, fun j => nI (F2 j))) ∧ h (1400 + k) = some (.inl (0, 8, fun j => nI (F3 j))) ∧ h (1500 + k) = some (.inl (0, 8, fun j => nI (F4 j))) ∧ ∀ b, b < 8 → F3 b = 4294967295 ∨ (F1 b ≤ 250 ∧ F2 b ≤ 250 ∧ F3 b ≤ 10000 ∧ F4 b = pb_lay (F1 b) (F2 b) n (F3 b))
def pb_CF (A : pb_A) (h0 h : pb_H) : Prop :=
  (∀ b, b < 60 → h b = h0 b) ∧
  (∀ a c, cK a = some c → h a = some c) ∧
  (∀ a n, cS a = some n → cScr n (h a)) ∧
  (h 60 = some (.inr (.inr (9, co A)))) ∧
  (h 61 = some (.inr (.inr (7, [.ref 71, .int (nI (A 1 0))])))) ∧
  (cRow 3 (A 17) (h 65)) ∧
  (∀ i, i < 6 → cRow 3 (fun j => A 25 (3 * i + j)) (h (120 + i))) ∧
  (h 71 = some (.inr (.inl (0, 12, cTo 200 (A 1 0))))) ∧
  (∀ i, i < 4 → cRow 8 (fun b => A 9 (8 * i + b)) (h (80 + i))) ∧
  (∀ i, i < 3 → cRow 8 (fun b => A 10 (8 * i + b)) (h (84 + i))) ∧
  (∃ F : Nat → Int32, h 76 = some (.inl (1, 8, F))) ∧
  (∀ p, p < 10 → h (100 + p) = some (.inr (.inr (6, cMx (130 + p) (pb_tot A p))))) ∧
  (∀ p, p < 10 → cRow 12 (pb_pot A p) (h (130 + p))) ∧
  (∀ a, a < 10 → h (110 + a) = some (.inr (.inr (0, [.ref (140 + a), .int (nI (A 13 a)), .int (nI (A 12 a))])))) ∧
  (∀ a, a < 10 → h (140 + a) = some (.inr (.inl (3, 10, cTo (1000 + 10 * a) (A 13 a))))) ∧
  (∀ t, t < 12 → t < A 1 0 → h (200 + t) = some (.inr (.inr (8, cTb A t)))) ∧
  (∀ t, t < 12 → t < A 1 0 → cRow 800 (fun j => pb_fade (A 3 t) (A 7 (8 * t + j / 100)) (j % 100)) (h (220 + t))) ∧
  (∀ t, t < 12 → t < A 1 0 → cRow 8 (fun b => A 8 (8 * t + b)) (h (240 + t))) ∧
  (∀ t, A 1 0 ≤ t → t < 12 → h (200 + t) = none ∧ h (220 + t) = none ∧ h (240 + t) = none) ∧
  (∀ a i, a < 10 → i < 10 → i < A 13 a → h (1000 + (10 * a + i)) = some (.inr (.inr (3, cLo A (10 * a + i)))) ∧ h (1100 + (10 * a + i)) = some (.inr (.inr (6, cMx (1600 + (10 * a + i)) (pb_sum 12 (pb_ly A (10 * a + i)))))) ∧ cRow 12 (pb_ly A (10 * a + i)) (h (1600 + (10 * a + i)))) ∧
  (∀ a i, a < 10 → i < 10 → i < A 13 a → cCache (A 14 (10 * a + i)) (10 * a + i) h) ∧
  (∀ a i, a < 10 → A 13 a ≤ i → i < 10 → ∀ q, q < 7 → h (1000 + 100 * q + (10 * a + i)) = none) ∧
  (∃ sz tp f, h 68 = some (.inr (.inr (5, cMt sz tp (A 18 0) (A 20 0) f)))) ∧
  (cRow 12 (A 19) (h 309)) ∧
  (∃ sz tp r gc ag fa, h 69 = some (.inr (.inr (1, cCh sz tp r gc ag fa))) ∧ ((r = 411 ∧ h 411 = some (.inl (0, 0, fun _ => nI 0)) ∧ h 413 = none) ∨ (r = 413 ∧ cScr 4096 (h 413)))) ∧
  (∃ f, h 70 = some (.inr (.inr (2, cGl (if A 21 0 ≤ 3 then A 21 0 else 0) f)))) ∧
  (∃ F : Nat → Nat, h 500 = some (.inl (0, 3, fun j => nI (F j))) ∧ ∀ i, i < 3 → A 21 0 ≤ 3 → i < A 21 0 → F i = A 23 i) ∧
  (∀ a, a = 360 ∨ a = 364 ∨ a = 460 ∨ a = 464 → cRow 8 (fun _ => 0) (h a))
theorem pb_CF.low {A : pb_A} {h0 h : pb_H} (hC : pb_CF A h0 h) : ∀ b, b < 60 → h b = h0 b := hC.1
theorem pb_CF.k {A : pb_A} {h0 h : pb_H} (hC : pb_CF A h0 h) : ∀ a c, cK a = some c → h a = some c := hC.2.1
theorem pb_CF.s {A : pb_A} {h0 h : pb_H} (hC : pb_CF A h0 h) : ∀ a n, cS a = some n → cScr n (h a) := hC.2.2.1
theorem pb_CF.o {A : pb_A} {h0 h : pb_H} (hC : pb_CF A h0 h) : h 60 = some (.inr (.inr (9, co A))) := hC.2.2.2.1
theorem pb_CF.pal {A : pb_A} {h0 h : pb_H} (hC : pb_CF A h0 h) : h 61 = some (.inr (.inr (7, [.ref 71, .int (nI (A 1 0))]))) := hC.2.2.2.2.1
theorem pb_CF.wan {A : pb_A} {h0 h : pb_H} (hC : pb_CF A h0 h) : cRow 3 (A 17) (h 65) := hC.2.2.2.2.2.1
theorem pb_CF.kpr {A : pb_A} {h0 h : pb_H} (hC : pb_CF A h0 h) : ∀ i, i < 6 → cRow 3 (fun j => A 25 (3 * i + j)) (h (120 + i)) := hC.2.2.2.2.2.2.1
theorem pb_CF.tub {A : pb_A} {h0 h : pb_H} (hC : pb_CF A h0 h) : h 71 = some (.inr (.inl (0, 12, cTo 200 (A 1 0)))) := hC.2.2.2.2.2.2.2.1
theorem pb_CF.lmr {A : pb_A} {h0 h : pb_H} (hC : pb_CF A h0 h) : ∀ i, i < 4 → cRow 8 (fun b => A 9 (8 * i + b)) (h (80 + i)) := hC.2.2.2.2.2.2.2.2.1
theorem pb_CF.sgr {A : pb_A} {h0 h : pb_H} (hC : pb_CF A h0 h) : ∀ i, i < 3 → cRow 8 (fun b => A 10 (8 * i + b)) (h (84 + i)) := hC.2.2.2.2.2.2.2.2.2.1
theorem pb_CF.shw {A : pb_A} {h0 h : pb_H} (hC : pb_CF A h0 h) : ∃ F : Nat → Int32, h 76 = some (.inl (1, 8, F)) := hC.2.2.2.2.2.2.2.2.2.2.1
theorem pb_CF.pot {A : pb_A} {h0 h : pb_H} (hC : pb_CF A h0 h) : ∀ p, p < 10 → h (100 + p) = some (.inr (.inr (6, cMx (130 + p) (pb_tot A p)))) := hC.2.2.2.2.2.2.2.2.2.2.2.1
theorem pb_CF.ptr {A : pb_A} {h0 h : pb_H} (hC : pb_CF A h0 h) : ∀ p, p < 10 → cRow 12 (pb_pot A p) (h (130 + p)) := hC.2.2.2.2.2.2.2.2.2.2.2.2.1
theorem pb_CF.are {A : pb_A} {h0 h : pb_H} (hC : pb_CF A h0 h) : ∀ a, a < 10 → h (110 + a) = some (.inr (.inr (0, [.ref (140 + a), .int (nI (A 13 a)), .int (nI (A 12 a))]))) := hC.2.2.2.2.2.2.2.2.2.2.2.2.2.1
theorem pb_CF.arl {A : pb_A} {h0 h : pb_H} (hC : pb_CF A h0 h) : ∀ a, a < 10 → h (140 + a) = some (.inr (.inl (3, 10, cTo (1000 + 10 * a) (A 13 a)))) := hC.2.2.2.2.2.2.2.2.2.2.2.2.2.2.1
theorem pb_CF.tbo {A : pb_A} {h0 h : pb_H} (hC : pb_CF A h0 h) : ∀ t, t < 12 → t < A 1 0 → h (200 + t) = some (.inr (.inr (8, cTb A t))) := hC.2.2.2.2.2.2.2.2.2.2.2.2.2.2.2.1
theorem pb_CF.tbd {A : pb_A} {h0 h : pb_H} (hC : pb_CF A h0 h) : ∀ t, t < 12 → t < A 1 0 → cRow 800 (fun j => pb_fade (A 3 t) (A 7 (8 * t + j / 100)) (j % 100)) (h (220 + t)) := hC.2.2.2.2.2.2.2.2.2.2.2.2.2.2.2.2.1
theorem pb_CF.tbs {A : pb_A} {h0 h : pb_H} (hC : pb_CF A h0 h) : ∀ t, t < 12 → t < A 1 0 → cRow 8 (fun b => A 8 (8 * t + b)) (h (240 + t)) := hC.2.2.2.2.2.2.2.2.2.2.2.2.2.2.2.2.2.1
theorem pb_CF.tbn {A : pb_A} {h0 h : pb_H} (hC : pb_CF A h0 h) : ∀ t, A 1 0 ≤ t → t < 12 → h (200 + t) = none ∧ h (220 + t) = none ∧ h (240 + t) = none := hC.2.2.2.2.2.2.2.2.2.2.2.2.2.2.2.2.2.2.1
theorem pb_CF.lyo {A : pb_A} {h0 h : pb_H} (hC : pb_CF A h0 h) : ∀ a i, a < 10 → i < 10 → i < A 13 a → h (1000 + (10 * a + i)) = some (.inr (.inr (3, cLo A (10 * a + i)))) ∧ h (1100 + (10 * a + i)) = some (.inr (.inr (6, cMx (1600 + (10 * a + i)) (pb_sum 12 (pb_ly A (10 * a + i)))))) ∧ cRow 12 (pb_ly A (10 * a + i)) (h (1600 + (10 * a + i))) := hC.2.2.2.2.2.2.2.2.2.2.2.2.2.2.2.2.2.2.2.1
theorem pb_CF.lyc {A : pb_A} {h0 h : pb_H} (hC : pb_CF A h0 h) : ∀ a i, a < 10 → i < 10 → i < A 13 a → cCache (A 14 (10 * a + i)) (10 * a + i) h := hC.2.2.2.2.2.2.2.2.2.2.2.2.2.2.2.2.2.2.2.2.1
theorem pb_CF.lyn {A : pb_A} {h0 h : pb_H} (hC : pb_CF A h0 h) : ∀ a i, a < 10 → A 13 a ≤ i → i < 10 → ∀ q, q < 7 → h (1000 + 100 * q + (10 * a + i)) = none := hC.2.2.2.2.2.2.2.2.2.2.2.2.2.2.2.2.2.2.2.2.2.1
theorem pb_CF.mat {A : pb_A} {h0 h : pb_H} (hC : pb_CF A h0 h) : ∃ sz tp f, h 68 = some (.inr (.inr (5, cMt sz tp (A 18 0) (A 20 0) f))) := hC.2.2.2.2.2.2.2.2.2.2.2.2.2.2.2.2.2.2.2.2.2.2.1
theorem pb_CF.bst {A : pb_A} {h0 h : pb_H} (hC : pb_CF A h0 h) : cRow 12 (A 19) (h 309) := hC.2.2.2.2.2.2.2.2.2.2.2.2.2.2.2.2.2.2.2.2.2.2.2.1
theorem pb_CF.cho {A : pb_A} {h0 h : pb_H} (hC : pb_CF A h0 h) : ∃ sz tp r gc ag fa, h 69 = some (.inr (.inr (1, cCh sz tp r gc ag fa))) ∧ ((r = 411 ∧ h 411 = some (.inl (0, 0, fun _ => nI 0)) ∧ h 413 = none) ∨ (r = 413 ∧ cScr 4096 (h 413))) := hC.2.2.2.2.2.2.2.2.2.2.2.2.2.2.2.2.2.2.2.2.2.2.2.2.1
theorem pb_CF.gla {A : pb_A} {h0 h : pb_H} (hC : pb_CF A h0 h) : ∃ f, h 70 = some (.inr (.inr (2, cGl (if A 21 0 ≤ 3 then A 21 0 else 0) f))) := hC.2.2.2.2.2.2.2.2.2.2.2.2.2.2.2.2.2.2.2.2.2.2.2.2.2.1
theorem pb_CF.glb {A : pb_A} {h0 h : pb_H} (hC : pb_CF A h0 h) : ∃ F : Nat → Nat, h 500 = some (.inl (0, 3, fun j => nI (F j))) ∧ ∀ i, i < 3 → A 21 0 ≤ 3 → i < A 21 0 → F i = A 23 i := hC.2.2.2.2.2.2.2.2.2.2.2.2.2.2.2.2.2.2.2.2.2.2.2.2.2.2.1
theorem pb_CF.zer {A : pb_A} {h0 h : pb_H} (hC : pb_CF A h0 h) : ∀ a, a = 360 ∨ a = 364 ∨ a = 460 ∨ a = 464 → cRow 8 (fun _ => 0) (h a) := hC.2.2.2.2.2.2.2.2.2.2.2.2.2.2.2.2.2.2.2.2.2.2.2.2.2.2.2
theorem pb_CF.mk {A : pb_A} {h0 h : pb_H} (low : ∀ b, b < 60 → h b = h0 b) (k : ∀ a c, cK a = some c → h a = some c) (s : ∀ a n, cS a = some n → cScr n (h a)) (o : h 60 = some (.inr (.inr (9, co A)))) (pal : h 61 = some (.inr (.inr (7, [.ref 71, .int (nI (A 1 0))])))) (wan : cRow 3 (A 17) (h 65)) (kpr : ∀ i, i < 6 → cRow 3 (fun j => A 25 (3 * i + j)) (h (120 + i))) (tub : h 71 = some (.inr (.inl (0, 12, cTo 200 (A 1 0))))) (lmr : ∀ i, i < 4 → cRow 8 (fun b => A 9 (8 * i + b)) (h (80 + i))) (sgr : ∀ i, i < 3 → cRow 8 (fun b => A 10 (8 * i + b)) (h (84 + i))) (shw : ∃ F : Nat → Int32, h 76 = some (.inl (1, 8, F))) (pot : ∀ p, p < 10 → h (100 + p) = some (.inr (.inr (6, cMx (130 + p) (pb_tot A p))))) (ptr : ∀ p, p < 10 → cRow 12 (pb_pot A p) (h (130 + p))) (are : ∀ a, a < 10 → h (110 + a) = some (.inr (.inr (0, [.ref (140 + a), .int (nI (A 13 a)), .int (nI (A 12 a))])))) (arl : ∀ a, a < 10 → h (140 + a) = some (.inr (.inl (3, 10, cTo (1000 + 10 * a) (A 13 a))))) (tbo : ∀ t, t < 12 → t < A 1 0 → h (200 + t) = some (.inr (.inr (8, cTb A t)))) (tbd : ∀ t, t < 12 → t < A 1 0 → cRow 800 (fun j => pb_fade (A 3 t) (A 7 (8 * t + j / 100)) (j % 100)) (h (220 + t))) (tbs : ∀ t, t < 12 → t < A 1 0 → cRow 8 (fun b => A 8 (8 * t + b)) (h (240 + t))) (tbn : ∀ t, A 1 0 ≤ t → t < 12 → h (200 + t) = none ∧ h (220 + t) = none ∧ h (240 + t) = none) (lyo : ∀ a i, a < 10 → i < 10 → i < A 13 a → h (1000 + (10 * a + i)) = some (.inr (.inr (3, cLo A (10 * a + i)))) ∧ h (1100 + (10 * a + i)) = some (.inr (.inr (6, cMx (1600 + (10 * a + i)) (pb_sum 12 (pb_ly A (10 * a + i)))))) ∧ cRow 12 (pb_ly A (10 * a + i)) (h (1600 + (10 * a + i)))) (lyc : ∀ a i, a < 10 → i < 10 → i < A 13 a → cCache (A 14 (10 * a + i)) (10 * a + i) h) (lyn : ∀ a i, a < 10 → A 13 a ≤ i → i < 10 → ∀ q, q < 7 → h (1000 + 100 * q + (10 * a + i)) = none) (mat : ∃ sz tp f, h 68 = some (.inr (.inr (5, cMt sz tp (A 18 0) (A 20 0) f)))) (bst : cRow 12 (A 19) (h 309)) (cho : ∃ sz tp r gc ag fa, h 69 = some (.inr (.inr (1, cCh sz tp r gc ag fa))) ∧ ((r = 411 ∧ h 411 = some (.inl (0, 0, fun _ => nI 0)) ∧ h 413 = none) ∨ (r = 413 ∧ cScr 4096 (h 413)))) (gla : ∃ f, h 70 = some (.inr (.inr (2, cGl (if A 21 0 ≤ 3 then A 21 0 else 0) f)))) (glb : ∃ F : Nat → Nat, h 500 = some (.inl (0, 3, fun j => nI (F j))) ∧ ∀ i, i < 3 → A 21 0 ≤ 3 → i < A 21 0 → F i = A 23 i) (zer : ∀ a, a = 360 ∨ a = 364 ∨ a = 460 ∨ a = 464 → cRow 8 (fun _ => 0) (h a)) : pb_CF A h0 h := ⟨low, k, s, o, pal, wan, kpr, tub, lmr, sgr, shw, pot, ptr, are, arl, tbo, tbd, tbs, tbn, lyo, lyc, lyn, mat, bst, cho, gla, glb, zer⟩
theorem cK_all {a : Nat} {c : pb_C} (h : cK a = some c) : a = 62 ∨ a = 63 ∨ a = 64 ∨ a = 66 ∨ a = 72 ∨ a = 73 ∨ a = 74 ∨ a = 302 ∨ a = 303 ∨ a = 306 ∨ a = 307 ∨ a = 402 ∨ a = 403 ∨ a = 406 ∨ a = 407 ∨ a = 412 ∨ a = 502 ∨ a = 503 ∨ a = 504 := by
  unfold cK at h
  split at h <;> first | omega | cases h
theorem cS_all {a n : Nat} (h : cS a = some n) : n ≤ 12 ∧ (a = 67 ∨ (87 ≤ a ∧ a < 90) ∨ a = 75 ∨ a = 310 ∨ a = 501 ∨ a = 505 ∨ (480 ≤ a ∧ a < 486) ∨ a = 300 ∨ a = 301 ∨ a = 400 ∨ a = 401 ∨ a = 304 ∨ a = 305 ∨ a = 404 ∨ a = 405 ∨ a = 308 ∨ a = 408 ∨ (320 ≤ a ∧ a < 332) ∨ (340 ≤ a ∧ a < 352) ∨ (361 ≤ a ∧ a < 364) ∨ (365 ≤ a ∧ a < 368) ∨ (420 ≤ a ∧ a < 432) ∨ (440 ≤ a ∧ a < 452) ∨ (461 ≤ a ∧ a < 464) ∨ (465 ≤ a ∧ a < 468) ∨ (520 ≤ a ∧ a < 532) ∨ (540 ≤ a ∧ a < 552) ∨ (560 ≤ a ∧ a < 564)) := by
  unfold cS at h
  split at h
  · cases h; exact ⟨by decide, by omega⟩
  · split at h
    · cases h; exact ⟨by decide, by omega⟩
    · split at h
      · cases h; exact ⟨by decide, by omega⟩
      · split at h
        · cases h; exact ⟨by decide, by omega⟩
        · split at h
          · cases h; exact ⟨by decide, by omega⟩
          · cases h
theorem cK_rng {a : Nat} {c : pb_C} (h : cK a = some c) : (62 ≤ a ∧ a < 80) ∨ (300 < a ∧ a < 600) := by
  have := cK_all h
  omega
theorem cS_rng {a n : Nat} (h : cS a = some n) : (67 ≤ a ∧ a < 80) ∨ (87 ≤ a ∧ a < 100) ∨ (300 ≤ a ∧ a < 600) := by
  have := cS_all h
  omega
theorem cK_ne {a x : Nat} {c : pb_C} (h : cK a = some c) (hx : cK x = none) : a ≠ x := fun e => by
  rw [e, hx] at h
  cases h
theorem cS_ne {a x n : Nat} (h : cS a = some n) (hx : cS x = none) : a ≠ x := fun e => by
  rw [e, hx] at h
  cases h
theorem cS_facts {a n : Nat} (h : cS a = some n) : (a < 80 ∨ 87 ≤ a) ∧ (a < 100 ∨ 300 ≤ a) ∧ a < 600 := by
  have := cS_rng h
  omega
/-- anything may be written into a row of scratch -/
theorem pb_CF.sc {A : pb_A} {h0 h h' : pb_H} (hC : pb_CF A h0 h) {a n : Nat} (e : cS a = some n) {G : Nat → Nat} (ha : h' a = some (.inl (0, n, fun j => nI (G j)))) (nb : ∀ b, b ≠ a → h' b = h b) : pb_CF A h0 h' := by
  have hf := cS_all e
  have hs : ∀ b m, cS b = some m → cScr m (h' b) := fun b m eb => by
    by_cases e2 : b = a
    · subst e2
      rw [e] at eb
      cases eb
      exact ⟨G, ha⟩
    · rw [nb b e2]; exact hC.s b m eb
  have hk : ∀ b c, cK b = some c → h' b = some c := fun b c eb => by
    have := cK_all eb
    exact (nb b (by omega)).trans (hC.k b c eb)
  have hf2 := cS_facts e
  clear hf
  have ne : ∀ x, cS x = none → x ≠ a := fun x hx => (cS_ne e hx).symm
  exact pb_CF.mk (fun b hb => (nb b (by have := cS_rng e; omega)).trans (hC.low b hb)) (hk) (hs) ((nb 60 (ne 60 rfl)).trans hC.o) ((nb 61 (ne 61 rfl)).trans hC.pal) (by rw [nb 65 (ne 65 rfl)]; exact hC.wan) (fun i hi => by rw [nb _ (by omega)]; exact hC.kpr i hi) ((nb 71 (ne 71 rfl)).trans hC.tub) (fun i hi => by rw [nb _ (by omega)]; exact hC.lmr i hi) (fun i hi => by rw [nb _ (by omega)]; exact hC.sgr i hi) (by rw [nb 76 (ne 76 rfl)]; exact hC.shw) (fun p hp => (nb _ (by omega)).trans (hC.pot p hp)) (fun p hp => by rw [nb _ (by omega)]; exact hC.ptr p hp) (fun a ha => (nb _ (by omega)).trans (hC.are a ha)) (fun a ha => (nb _ (by omega)).trans (hC.arl a ha)) (fun t h12 ht => (nb _ (by omega)).trans (hC.tbo t h12 ht)) (fun t h12 ht => by rw [nb _ (by omega)]; exact hC.tbd t h12 ht) (fun t h12 ht => by rw [nb _ (by omega)]; exact hC.tbs t h12 ht) (fun t ht ht2 => by have hz_ : A 1 0 ≤ t := ht; rw [nb _ (by omega), nb _ (by omega), nb _ (by omega)]; exact hC.tbn t ht ht2) (fun a i ha h10 hi => by rw [nb _ (by omega), nb _ (by omega), nb _ (by omega)]; exact hC.lyo a i ha h10 hi) (fun a i ha h10 hi => by unfold cCache; rw [nb _ (by omega), nb _ (by omega), nb _ (by omega), nb _ (by omega)]; exact hC.lyc a i ha h10 hi) (fun a i ha hi hi2 q hq => (nb _ (by omega)).trans (hC.lyn a i ha hi hi2 q hq)) (by rw [nb 68 (ne 68 rfl)]; exact hC.mat) (by rw [nb 309 (ne 309 rfl)]; exact hC.bst) (by rw [nb 69 (ne 69 rfl), nb 411 (ne 411 rfl), nb 413 (ne 413 rfl)]; exact hC.cho) (by rw [nb 70 (ne 70 rfl)]; exact hC.gla) (by rw [nb 500 (ne 500 rfl)]; exact hC.glb) (fun x hx => by rw [nb x (ne x (by rcases hx with rfl | rfl | rfl | rfl <;> rfl))]; exact hC.zer x hx)
theorem pb_CF.rf {A : pb_A} {h0 h : pb_H} (hC : pb_CF A h0 h) : pb_CF A h h := by
  have nb : ∀ b : Nat, h b = h b := fun _ => rfl
  exact pb_CF.mk (fun _ _ => rfl) (fun a c e => (nb a ).trans (hC.k a c e)) (fun a n e => by rw [nb a ]; exact hC.s a n e) ((nb 60 ).trans hC.o) ((nb 61 ).trans hC.pal) (by rw [nb 65 ]; exact hC.wan) (fun i hi => by rw [nb _ ]; exact hC.kpr i hi) ((nb 71 ).trans hC.tub) (fun i hi => by rw [nb _ ]; exact hC.lmr i hi) (fun i hi => by rw [nb _ ]; exact hC.sgr i hi) (by rw [nb 76 ]; exact hC.shw) (fun p hp => (nb _ ).trans (hC.pot p hp)) (fun p hp => by rw [nb _ ]; exact hC.ptr p hp) (fun a ha => (nb _ ).trans (hC.are a ha)) (fun a ha => (nb _ ).trans (hC.arl a ha)) (fun t h12 ht => (nb _ ).trans (hC.tbo t h12 ht)) (fun t h12 ht => by rw [nb _ ]; exact hC.tbd t h12 ht) (fun t h12 ht => by rw [nb _ ]; exact hC.tbs t h12 ht) (fun t ht ht2 => by have hz_ : A 1 0 ≤ t := ht; rw [nb _ , nb _ , nb _ ]; exact hC.tbn t ht ht2) (fun a i ha h10 hi => by rw [nb _ , nb _ , nb _ ]; exact hC.lyo a i ha h10 hi) (fun a i ha h10 hi => by unfold cCache; rw [nb _ , nb _ , nb _ , nb _ ]; exact hC.lyc a i ha h10 hi) (fun a i ha hi hi2 q hq => (nb _ ).trans (hC.lyn a i ha hi hi2 q hq)) (by rw [nb 68 ]; exact hC.mat) (by rw [nb 309 ]; exact hC.bst) (by rw [nb 69 , nb 411 , nb 413 ]; exact hC.cho) (by rw [nb 70 ]; exact hC.gla) (by rw [nb 500 ]; exact hC.glb) (fun a ha => by rw [nb a ]; exact hC.zer a ha)
theorem pb_CF.trans {A A' : pb_A} {h0 h1 h2 : pb_H} (hC : pb_CF A h0 h1) (hC2 : pb_CF A' h1 h2) : pb_CF A' h0 h2 := ⟨fun b hb => (hC2.low b hb).trans (hC.low b hb), hC2.2⟩

