/-! WHAT ALWAYS HOLDS IS KEPT BY EVERY CALL -/
theorem col_un {F : Nat → Nat} {p t v : Nat} (hp : p < 10) (ht : t < 12) : pb_sum 10 (fun q => pb_un F (12 * p + t) v (12 * q + t)) + F (12 * p + t) = pb_sum 10 (fun q => F (12 * q + t)) + v := by
  rw [pb_sum_congr (f := fun q => pb_un F (12 * p + t) v (12 * q + t)) (g := pb_un (fun q => F (12 * q + t)) p v) 10 (fun q _ => ?_)]
  · exact pb_sum_un (F := fun q => F (12 * q + t)) 10 hp
  · show pb_un F (12 * p + t) v (12 * q + t) = pb_un (fun q => F (12 * q + t)) p v q
    by_cases e : q = p
    · rw [e, pb_un_self, pb_un_self]
    · rw [pb_un_ne _ _ (by omega), pb_un_ne _ _ e]
theorem col_z {F G : Nat → Nat} {p t : Nat} (hp : p < 10) (hG : ∀ q, q < 10 → G (12 * q + t) = if q = p then 0 else F (12 * q + t)) : pb_sum 10 (fun q => G (12 * q + t)) + F (12 * p + t) = pb_sum 10 (fun q => F (12 * q + t)) := by
  rw [pb_sum_congr (f := fun q => G (12 * q + t)) (g := pb_un (fun q => F (12 * q + t)) p 0) 10 (fun q hq => ?_)]
  · have := pb_sum_un (F := fun q => F (12 * q + t)) (v := 0) 10 hp
    omega
  · show G (12 * q + t) = pb_un (fun q => F (12 * q + t)) p 0 q
    rw [hG q hq]
    by_cases e : q = p
    · rw [if_pos e, e, pb_un_self]
    · rw [if_neg e, pb_un_ne _ _ e]
section PB44
variable {A : pb_A}
theorem wf_ofTube (w : pb_WF A) (t x : Int32) : pb_WF (sp_ofTube A t x).2 := by
  unfold sp_ofTube
  repeat (first | exact w | split)
theorem wf_row (w : pb_WF A) (t b y x : Int32) : pb_WF (sp_row A t b y x).2 := by
  unfold sp_row
  repeat (first | exact w | split)
theorem wf_drops (w : pb_WF A) (p t : Int32) : pb_WF (sp_drops A p t).2 := by
  unfold sp_drops
  repeat (first | exact w | split)
theorem wf_thick (w : pb_WF A) (p b : Int32) : pb_WF (sp_thick A p b).2 := by
  unfold sp_thick
  repeat (first | exact w | split)
theorem wf_seen (w : pb_WF A) (p l s : Int32) : pb_WF (sp_seen A p l s).2 := by
  unfold sp_seen
  repeat (first | exact w | split)
theorem wf_over (w : pb_WF A) (p b n g : Int32) : pb_WF (sp_over A p b n g).2 := by
  unfold sp_over
  repeat (first | exact w | split)
theorem wf_hiding (w : pb_WF A) (p d : Int32) : pb_WF (sp_hiding A p d).2 := by
  unfold sp_hiding
  repeat (first | exact w | split)
theorem wf_back (w : pb_WF A) (a b z : Int32) : pb_WF (sp_back A a b z).2 := by
  unfold sp_back
  repeat (first | exact w | split)
theorem wf_look (w : pb_WF A) (a l s : Int32) : pb_WF (sp_look A a l s).2 := by
  unfold sp_look
  repeat (first | exact w | split)
theorem wf_missed (w : pb_WF A) (a l d : Int32) : pb_WF (sp_missed A a l d).2 := by
  unfold sp_missed
  repeat (first | exact w | split)
theorem wf_apart (w : pb_WF A) (a l : Int32) : pb_WF (sp_apart A a l).2 := by
  unfold sp_apart
  repeat (first | exact w | split)
theorem wf_matched (w : pb_WF A) (t : Int32) : pb_WF (sp_matched A t).2 := by
  unfold sp_matched
  repeat (first | exact w | split)
theorem wf_price (w : pb_WF A)  : pb_WF (sp_price A ).2 := by
  unfold sp_price
  repeat (first | exact w | split)
theorem wf_glazed (w : pb_WF A) (i : Int32) : pb_WF (sp_glazed A i).2 := by
  unfold sp_glazed
  repeat (first | exact w | split)
theorem wf_fewest (w : pb_WF A) (l n d : Int32) : pb_WF (sp_fewest A l n d).2 := by
  unfold sp_fewest
  repeat (first | exact w | split)
theorem wf_count (w : pb_WF A) (x : Int32) : pb_WF (sp_count A x).2 := by
  unfold sp_count
  repeat (first | exact w | split)
theorem wf_tube (w : pb_WF A) (c f n : Int32) : pb_WF (sp_tube A c f n).2 := by
  unfold sp_tube
  split
  · rename_i q
    split
    · exact w
    · rename_i hT
      have htt := w.tubes
      obtain ⟨c, -, hc, rfl⟩ := nI_rng (by omega) q.1 (by omega)
      obtain ⟨f, -, hf, rfl⟩ := nI_rng (by omega) q.2.1 (by omega)
      obtain ⟨n, -, hn, rfl⟩ := nI_rng (by omega) q.2.2 (by omega)
      rw [pb_natN (by omega), pb_natN (by omega), pb_natN (by omega)]
      have z5 := (w.none (Nat.le_refl (A 1 0)) (by omega)).1
      have f2 : ∀ t, t < A 1 0 + 1 → pb_un (A 2) (A 1 0) c t ≤ 999 ∧ pb_un (A 3) (A 1 0) f t ≤ 999 := fun t ht => by
        by_cases e : t = A 1 0
        · rw [e, pb_un_self, pb_un_self]; exact ⟨hc, hf⟩
        · rw [pb_un_ne _ _ e, pb_un_ne _ _ e]; exact w.cf (by omega)
      have f4 : ∀ t, t < 12 → pb_un (A 4) (A 1 0) n t + pb_sum 10 (fun p => A 11 (12 * p + t)) + A 5 t + A 6 t ≤ 9999 := fun t ht => by
        by_cases e : t = A 1 0
        · rw [e, pb_un_self]; omega
        · rw [pb_un_ne _ _ e]; exact w.cons ht
      have f5 : ∀ t, A 1 0 + 1 ≤ t → t < 12 → pb_un (A 4) (A 1 0) n t + pb_sum 10 (fun p => A 11 (12 * p + t)) + A 5 t + A 6 t = 0 ∧ ∀ k, k < 100 → A 16 (12 * k + t) = 0 := fun t h1 h2 => by
        rw [pb_un_ne _ _ (by omega)]; exact w.none (by omega) h2
      have f7 : ∀ t b, t < A 1 0 + 1 → b < 8 → (if 8 * A 1 0 ≤ 8 * t + b ∧ 8 * t + b < 8 * A 1 0 + 8 then 100 else A 7 (8 * t + b)) ≤ 999 ∧ 1 ≤ (if 8 * A 1 0 ≤ 8 * t + b ∧ 8 * t + b < 8 * A 1 0 + 8 then 100 else A 8 (8 * t + b)) ∧ (if 8 * A 1 0 ≤ 8 * t + b ∧ 8 * t + b < 8 * A 1 0 + 8 then 100 else A 8 (8 * t + b)) ≤ 999 := fun t b ht hb => by
        by_cases e : t = A 1 0
        · rw [if_pos (by omega), if_pos (by omega)]; omega
        · rw [if_neg (by omega), if_neg (by omega)]; exact w.ks (by omega) hb
      exact ⟨w.1, (show A 1 0 + 1 ≤ 12 by omega), f2, f4, f5, f7, w.2.2.2.2.2.2.1, w.2.2.2.2.2.2.2.1, w.2.2.2.2.2.2.2.2.1, w.2.2.2.2.2.2.2.2.2.1, w.2.2.2.2.2.2.2.2.2.2.1, w.2.2.2.2.2.2.2.2.2.2.2.1, w.rest.1, w.rest.2.1, w.rest.2.2.1, w.rest.2.2.2.1, w.rest.2.2.2.2.1, w.rest.2.2.2.2.2.1, w.rest.2.2.2.2.2.2⟩
  · exact w
theorem wf_band (w : pb_WF A) (t b k s : Int32) : pb_WF (sp_band A t b k s).2 := by
  unfold sp_band
  split
  · rename_i q
    have htt := w.tubes
    obtain ⟨t, ht, rfl⟩ := pb_isT_of w q.1
    obtain ⟨b, -, hb, rfl⟩ := nI_rng (by omega) q.2.1 (by omega)
    obtain ⟨k, -, hk, rfl⟩ := nI_rng (by omega) q.2.2.1 (by omega)
    obtain ⟨s, hs1, hs, rfl⟩ := nI_rng (by omega) q.2.2.2 (by omega)
    rw [pb_natN (by omega), pb_natN (by omega), pb_natN (by omega), pb_natN (by omega)]
    have f7 : ∀ t' b', t' < A 1 0 → b' < 8 → pb_un (A 7) (8 * t + b) k (8 * t' + b') ≤ 999 ∧ 1 ≤ pb_un (A 8) (8 * t + b) s (8 * t' + b') ∧ pb_un (A 8) (8 * t + b) s (8 * t' + b') ≤ 999 := fun t' b' ht' hb' => by
      by_cases e : 8 * t' + b' = 8 * t + b
      · rw [e, pb_un_self, pb_un_self]; omega
      · rw [pb_un_ne _ _ e, pb_un_ne _ _ e]; exact w.ks ht' hb'
    exact ⟨w.1, w.2.1, w.2.2.1, w.2.2.2.1, w.2.2.2.2.1, f7, w.2.2.2.2.2.2.1, w.2.2.2.2.2.2.2.1, w.2.2.2.2.2.2.2.2.1, w.2.2.2.2.2.2.2.2.2.1, w.2.2.2.2.2.2.2.2.2.2.1, w.2.2.2.2.2.2.2.2.2.2.2.1, w.rest.1, w.rest.2.1, w.rest.2.2.1, w.rest.2.2.2.1, w.rest.2.2.2.2.1, w.rest.2.2.2.2.2.1, w.rest.2.2.2.2.2.2⟩
  · exact w
theorem wf_lamp (w : pb_WF A) (l b v : Int32) : pb_WF (sp_lamp A l b v).2 := by
  unfold sp_lamp
  split
  · rename_i q
    obtain ⟨v, -, hv, rfl⟩ := nI_rng (by omega) q.2.2 (by omega)
    rw [pb_natN (c := v) (by omega)]
    have f9 : ∀ i, i < 32 → pb_un (A 9) (8 * pb_nat l + pb_nat b) v i ≤ 99 := fun i hi => by
      by_cases e : i = 8 * pb_nat l + pb_nat b
      · rw [e, pb_un_self]; exact hv
      · rw [pb_un_ne _ _ e]; exact w.lamp hi
    exact ⟨w.1, w.2.1, w.2.2.1, w.2.2.2.1, w.2.2.2.2.1, w.2.2.2.2.2.1, f9, w.2.2.2.2.2.2.2.1, w.2.2.2.2.2.2.2.2.1, w.2.2.2.2.2.2.2.2.2.1, w.2.2.2.2.2.2.2.2.2.2.1, w.2.2.2.2.2.2.2.2.2.2.2.1, w.rest.1, w.rest.2.1, w.rest.2.2.1, w.rest.2.2.2.1, w.rest.2.2.2.2.1, w.rest.2.2.2.2.2.1, w.rest.2.2.2.2.2.2⟩
  · exact w
theorem wf_eye (w : pb_WF A) (l b v : Int32) : pb_WF (sp_eye A l b v).2 := by
  unfold sp_eye
  split
  · rename_i q
    obtain ⟨v, -, hv, rfl⟩ := nI_rng (by omega) q.2.2 (by omega)
    rw [pb_natN (c := v) (by omega)]
    have f9 : ∀ i, i < 24 → pb_un (A 10) (8 * pb_nat l + pb_nat b) v i ≤ 99 := fun i hi => by
      by_cases e : i = 8 * pb_nat l + pb_nat b
      · rw [e, pb_un_self]; exact hv
      · rw [pb_un_ne _ _ e]; exact w.eye hi
    exact ⟨w.1, w.2.1, w.2.2.1, w.2.2.2.1, w.2.2.2.2.1, w.2.2.2.2.2.1, w.2.2.2.2.2.2.1, f9, w.2.2.2.2.2.2.2.2.1, w.2.2.2.2.2.2.2.2.2.1, w.2.2.2.2.2.2.2.2.2.2.1, w.2.2.2.2.2.2.2.2.2.2.2.1, w.rest.1, w.rest.2.1, w.rest.2.2.1, w.rest.2.2.2.1, w.rest.2.2.2.2.1, w.rest.2.2.2.2.2.1, w.rest.2.2.2.2.2.2⟩
  · exact w
theorem wf_years (w : pb_WF A) (n : Int32) : pb_WF (sp_years A n).2 := by
  unfold sp_years
  split
  · rename_i q
    exact ⟨q.2, w.2.1, w.2.2.1, w.2.2.2.1, w.2.2.2.2.1, w.2.2.2.2.2.1, w.2.2.2.2.2.2.1, w.2.2.2.2.2.2.2.1, w.2.2.2.2.2.2.2.2.1, w.2.2.2.2.2.2.2.2.2.1, (fun a i ha hi => by obtain ⟨l1, l2, l3, l4, l5⟩ := w.layer ha hi; exact ⟨l1, l2, Nat.le_trans l3 (Nat.le_add_right _ _), l4, l5⟩), w.2.2.2.2.2.2.2.2.2.2.2.1, w.rest.1, w.rest.2.1, w.rest.2.2.1, w.rest.2.2.2.1, w.rest.2.2.2.2.1, w.rest.2.2.2.2.2.1, w.rest.2.2.2.2.2.2⟩
  · exact w
theorem wf_press (w : pb_WF A) (t p n : Int32) : pb_WF (sp_press A t p n).2 := by
  unfold sp_press
  split
  · rename_i q
    split
    · exact w
    · split
      · exact w
      · rename_i q2 q3
        have htt := w.tubes
        obtain ⟨t, ht, rfl⟩ := pb_isT_of w q.1
        obtain ⟨p, -, hp, rfl⟩ := nI_rng (by omega) q.2.1 (by omega)
        obtain ⟨n, hn1, hn, rfl⟩ := nI_rng (by omega) q.2.2 (by omega)
        rw [pb_natN (by omega), pb_natN (by omega)] at q2
        rw [pb_natN (by omega), pb_natN (by omega)] at q3
        rw [pb_natN (by omega), pb_natN (by omega), pb_natN (by omega)]
        have hcol := col_un (F := A 11) (v := A 11 (12 * p + t) + n) (show p < 10 by omega) (show t < 12 by omega)
        have hcol2 : ∀ t', t' < 12 → t' ≠ t → pb_sum 10 (fun q => pb_un (A 11) (12 * p + t) (A 11 (12 * p + t) + n) (12 * q + t')) = pb_sum 10 (fun q => A 11 (12 * q + t')) := fun t' h12 hne => pb_sum_congr 10 (fun q _ => pb_un_ne _ _ (by omega))
        have f4 : ∀ t', t' < 12 → pb_un (A 4) t (A 4 t - n) t' + pb_sum 10 (fun q => pb_un (A 11) (12 * p + t) (A 11 (12 * p + t) + n) (12 * q + t')) + A 5 t' + A 6 t' ≤ 9999 := fun t' h12 => by
          have := w.cons h12
          by_cases e : t' = t
          · rw [e, pb_un_self]; rw [e] at this; omega
          · rw [pb_un_ne _ _ e, hcol2 t' h12 e]; exact this
        have f5 : ∀ t', A 1 0 ≤ t' → t' < 12 → pb_un (A 4) t (A 4 t - n) t' + pb_sum 10 (fun q => pb_un (A 11) (12 * p + t) (A 11 (12 * p + t) + n) (12 * q + t')) + A 5 t' + A 6 t' = 0 ∧ ∀ k, k < 100 → A 16 (12 * k + t') = 0 := fun t' h1 h2 => by
          rw [pb_un_ne _ _ (by omega), hcol2 t' h2 (by omega)]; exact w.none h1 h2
        have ft : ∀ p', p' < 10 → pb_tot (pb_wf A 11 (pb_un (A 11) (12 * p + t) (A 11 (12 * p + t) + n))) p' ≤ 999 := fun p' hp' => by
          by_cases e : p' = p
          · have := pb_tot_un (B := A) (p := p) (t := t) (v := A 11 (12 * p + t) + n) (by omega)
            rw [e]; omega
          · rw [pb_tot_c (A := A) (A' := pb_wf A 11 (pb_un (A 11) (12 * p + t) (A 11 (12 * p + t) + n))) (fun u hu => by rw [pb_wf_self, pb_un_ne _ _ (by omega)])]; exact w.tot hp'
        exact ⟨w.1, w.2.1, w.2.2.1, f4, f5, w.2.2.2.2.2.1, w.2.2.2.2.2.2.1, w.2.2.2.2.2.2.2.1, ft, w.2.2.2.2.2.2.2.2.2.1, w.2.2.2.2.2.2.2.2.2.2.1, w.2.2.2.2.2.2.2.2.2.2.2.1, w.rest.1, w.rest.2.1, w.rest.2.2.1, w.rest.2.2.2.1, w.rest.2.2.2.2.1, w.rest.2.2.2.2.2.1, w.rest.2.2.2.2.2.2⟩
  · exact w
theorem wf_pour (w : pb_WF A) (p o : Int32) : pb_WF (sp_pour A p o).2 := by
  unfold sp_pour
  split
  · rename_i q
    split
    · exact w
    · split
      · exact w
      · rename_i q2 q3
        obtain ⟨p, -, hp, rfl⟩ := nI_rng (by omega) q.1 (by omega)
        obtain ⟨o, -, ho, rfl⟩ := nI_rng (by omega) q.2.1 (by omega)
        have hpo : ¬ p = o := fun e => q.2.2 (by rw [e])
        rw [pb_natN (by omega), pb_natN (by omega)] at q3
        rw [pb_natN (by omega), pb_natN (by omega)]
        have ar : ∀ r u, u < 12 → sp_pourA A p o 11 (12 * r + u) = if r = o then A 11 (12 * o + u) + A 11 (12 * p + u) else if r = p then 0 else A 11 (12 * r + u) := fun r u hu => by
          unfold sp_pourA
          rw [pb_wf_self]
          by_cases e : r = o
          · rw [if_pos (by omega), if_pos e, e, show 12 * o + u - 12 * o = u by omega]
          · rw [if_neg (by omega), if_neg e]
            by_cases e2 : r = p
            · rw [if_pos (by omega), if_pos e2]
            · rw [if_neg (by omega), if_neg e2]
        have hcol : ∀ t, t < 12 → pb_sum 10 (fun q => sp_pourA A p o 11 (12 * q + t)) = pb_sum 10 (fun q => A 11 (12 * q + t)) := fun t ht => by
          have e1 : pb_sum 10 (fun q => sp_pourA A p o 11 (12 * q + t)) = pb_sum 10 (pb_un (pb_un (fun q => A 11 (12 * q + t)) p 0) o (A 11 (12 * o + t) + A 11 (12 * p + t))) := pb_sum_congr 10 (fun q _ => by
            show sp_pourA A p o 11 (12 * q + t) = _
            rw [ar q t ht]
            by_cases e : q = o
            · rw [if_pos e, e, pb_un_self]
            · rw [if_neg e, pb_un_ne _ _ e]
              by_cases e2 : q = p
              · rw [if_pos e2, e2, pb_un_self]
              · rw [if_neg e2, pb_un_ne _ _ e2])
          have e2 := pb_sum_un (F := pb_un (fun q => A 11 (12 * q + t)) p 0) (i := o) (v := A 11 (12 * o + t) + A 11 (12 * p + t)) 10 (by omega)
          have e3 := pb_sum_un (F := fun q => A 11 (12 * q + t)) (i := p) (v := 0) 10 (by omega)
          rw [pb_un_ne _ _ (fun z => hpo z.symm)] at e2
          rw [e1]
          have e4 : (fun q => A 11 (12 * q + t)) o = A 11 (12 * o + t) := rfl
          have e5 : (fun q => A 11 (12 * q + t)) p = A 11 (12 * p + t) := rfl
          first | rw [e4] at e2 | skip
          first | rw [e5] at e3 | skip
          omega
        have ft : ∀ p', p' < 10 → pb_tot (sp_pourA A p o) p' ≤ 999 := fun p' hp' => by
          by_cases e : p' = o
          · rw [e, sp_pour_tot hpo]; omega
          · by_cases e2 : p' = p
            · rw [pb_tot_z (fun u hu => by rw [ar p' u hu, if_neg e, if_pos e2])]; omega
            · rw [pb_tot_c (A := A) (A' := sp_pourA A p o) (fun u hu => by rw [ar p' u hu, if_neg e, if_neg e2])]; exact w.tot hp'
        exact ⟨w.1, w.2.1, w.2.2.1, (fun t ht => by have := w.cons ht; rw [← hcol t ht] at this; exact this), (fun t h1 h2 => by have := w.none h1 h2; rw [← hcol t h2] at this; exact this), w.2.2.2.2.2.1, w.2.2.2.2.2.2.1, w.2.2.2.2.2.2.2.1, ft, w.2.2.2.2.2.2.2.2.2.1, w.2.2.2.2.2.2.2.2.2.2.1, w.2.2.2.2.2.2.2.2.2.2.2.1, w.rest.1, w.rest.2.1, w.rest.2.2.1, w.rest.2.2.2.1, w.rest.2.2.2.2.1, w.rest.2.2.2.2.2.1, w.rest.2.2.2.2.2.2⟩
  · exact w
theorem wf_emp {p : Nat} {A' : pb_A} (w : pb_WF A) (hp : p < 10) (hA : ∀ j, A' 11 j = if 12 * p ≤ j ∧ j < 12 * p + 12 then 0 else A 11 j) : (∀ t, t < 12 → pb_sum 10 (fun q => A' 11 (12 * q + t)) + A 11 (12 * p + t) = pb_sum 10 (fun q => A 11 (12 * q + t))) ∧ ∀ p', p' < 10 → pb_tot A' p' ≤ 999 := by
  refine ⟨fun t ht => col_z hp (fun q hq => ?_), fun p' hp' => ?_⟩
  · rw [hA]
    by_cases e : q = p
    · rw [if_pos (by omega), if_pos e]
    · rw [if_neg (by omega), if_neg e]
  · by_cases e : p' = p
    · rw [pb_tot_z (fun u hu => by rw [hA, if_pos (by omega)])]; omega
    · rw [pb_tot_c (A := A) (A' := A') (fun u hu => by rw [hA, if_neg (by omega)])]; exact w.tot hp'
theorem wf_waste (w : pb_WF A) (p : Int32) : pb_WF (sp_waste A p).2 := by
  unfold sp_waste
  split
  · rename_i q
    split
    · exact w
    · obtain ⟨p, -, hp, rfl⟩ := nI_rng (by omega) q (by omega)
      rw [pb_natN (by omega)]
      obtain ⟨hcol, ft⟩ := wf_emp (A' := sp_wasteA A p) w (show p < 10 by omega) (fun j => rfl)
      have f6 : ∀ t, t < 12 → sp_wasteA A p 6 t = A 6 t + A 11 (12 * p + t) := fun t ht => if_pos ht
      exact ⟨w.1, w.2.1, w.2.2.1, (fun t ht => by have h1 := w.cons ht; have h2 := hcol t ht; have h3 := f6 t ht; show A 4 t + pb_sum 10 (fun q => sp_wasteA A p 11 (12 * q + t)) + A 5 t + sp_wasteA A p 6 t ≤ 9999; omega), (fun t h1 h2 => by have h3 := w.none h1 h2; have h4 := hcol t h2; have h5 := f6 t h2; refine ⟨?_, h3.2⟩; show A 4 t + pb_sum 10 (fun q => sp_wasteA A p 11 (12 * q + t)) + A 5 t + sp_wasteA A p 6 t = 0; have := h3.1; omega), w.2.2.2.2.2.1, w.2.2.2.2.2.2.1, w.2.2.2.2.2.2.2.1, ft, w.2.2.2.2.2.2.2.2.2.1, w.2.2.2.2.2.2.2.2.2.2.1, w.2.2.2.2.2.2.2.2.2.2.2.1, w.rest.1, w.rest.2.1, w.rest.2.2.1, w.rest.2.2.2.1, w.rest.2.2.2.2.1, w.rest.2.2.2.2.2.1, w.rest.2.2.2.2.2.2⟩
  · exact w
theorem wf_ground (w : pb_WF A) (a g : Int32) : pb_WF (sp_ground A a g).2 := by
  unfold sp_ground
  split
  · rename_i q
    split
    · exact w
    · obtain ⟨g, -, hg, rfl⟩ := nI_rng (by omega) q.2 (by omega)
      rw [pb_natN (c := g) (by omega)]
      have fa : ∀ a2, a2 < 10 → pb_un (A 12) (pb_nat a) g a2 ≤ 10000 ∧ A 13 a2 ≤ 10 := fun a2 ha2 => by
        refine ⟨?_, (w.area ha2).2⟩
        by_cases e : a2 = pb_nat a
        · rw [e, pb_un_self]; exact hg
        · rw [pb_un_ne _ _ e]; exact (w.area ha2).1
      exact ⟨w.1, w.2.1, w.2.2.1, w.2.2.2.1, w.2.2.2.2.1, w.2.2.2.2.2.1, w.2.2.2.2.2.2.1, w.2.2.2.2.2.2.2.1, w.2.2.2.2.2.2.2.2.1, fa, w.2.2.2.2.2.2.2.2.2.2.1, w.2.2.2.2.2.2.2.2.2.2.2.1, w.rest.1, w.rest.2.1, w.rest.2.2.1, w.rest.2.2.2.1, w.rest.2.2.2.2.1, w.rest.2.2.2.2.2.1, w.rest.2.2.2.2.2.2⟩
  · exact w
theorem wf_lay (w : pb_WF A) (p a n : Int32) : pb_WF (sp_lay A p a n).2 := by
  unfold sp_lay
  split
  · rename_i q
    split
    · exact w
    · split
      · exact w
      · rename_i q2 q3
        have htt := w.tubes
        obtain ⟨p, -, hp, rfl⟩ := nI_rng (by omega) q.1 (by omega)
        obtain ⟨a, -, ha, rfl⟩ := nI_rng (by omega) q.2.1 (by omega)
        obtain ⟨n, hn1, hn, rfl⟩ := nI_rng (by omega) q.2.2 (by omega)
        rw [pb_natN (by omega)] at q2 q3
        rw [pb_natN (by omega), pb_natN (by omega), pb_natN (by omega)]
        have h13 := (w.area (show a < 10 by omega)).2
        have htot := w.tot (show p < 10 by omega)
        obtain ⟨hcol, ft⟩ := wf_emp (A' := sp_layA A p a n) w (show p < 10 by omega) (fun j => rfl)
        have f5 : ∀ t, t < 12 → sp_layA A p a n 5 t = A 5 t + A 11 (12 * p + t) := fun t ht => if_pos ht
        have d16 : ∀ k' t, t < 12 → sp_layA A p a n 16 (12 * k' + t) = if k' = 10 * a + A 13 a then A 11 (12 * p + t) else A 16 (12 * k' + t) := fun k' t ht => by
          show (if 12 * (10 * a + A 13 a) ≤ 12 * k' + t ∧ 12 * k' + t < 12 * (10 * a + A 13 a) + 12 then A 11 (12 * p + (12 * k' + t - 12 * (10 * a + A 13 a))) else A 16 (12 * k' + t)) = _
          by_cases e : k' = 10 * a + A 13 a
          · rw [if_pos (by omega), if_pos e, e, Nat.add_sub_cancel_left]
          · rw [if_neg (by omega), if_neg e]
        have fl : ∀ a' i, a' < 10 → i < pb_un (A 13) a (A 13 a + 1) a' → 1 ≤ pb_un (A 14) (10 * a + A 13 a) n (10 * a' + i) ∧ pb_un (A 14) (10 * a + A 13 a) n (10 * a' + i) ≤ 200 ∧ pb_un (A 15) (10 * a + A 13 a) (A 0 0) (10 * a' + i) ≤ A 0 0 ∧ 1 ≤ pb_sum 12 (pb_ly (sp_layA A p a n) (10 * a' + i)) ∧ pb_sum 12 (pb_ly (sp_layA A p a n) (10 * a' + i)) ≤ 999 := fun a' i ha' hi => by
          have hi10 : i < 10 := by
            by_cases e : a' = a
            · rw [e, pb_un_self] at hi; omega
            · rw [pb_un_ne _ _ e] at hi; have := (w.area ha').2; omega
          by_cases e : 10 * a' + i = 10 * a + A 13 a
          · rw [e, pb_un_self, pb_un_self]
            have es : pb_sum 12 (pb_ly (sp_layA A p a n) (10 * a + A 13 a)) = pb_tot A p := pb_sum_congr 12 (fun t ht => by
              show sp_layA A p a n 16 (12 * (10 * a + A 13 a) + t) = _
              rw [d16 _ t ht, if_pos rfl]
              rfl)
            rw [es]
            omega
          · have hi2 : i < A 13 a' := by
              by_cases e2 : a' = a
              · subst e2
                rw [pb_un_self] at hi
                omega
              · rw [pb_un_ne _ _ e2] at hi; exact hi
            have es : pb_sum 12 (pb_ly (sp_layA A p a n) (10 * a' + i)) = pb_sum 12 (pb_ly A (10 * a' + i)) := pb_sum_congr 12 (fun t ht => by
              show sp_layA A p a n 16 (12 * (10 * a' + i) + t) = _
              rw [d16 _ t ht, if_neg e]
              rfl)
            rw [pb_un_ne _ _ e, pb_un_ne _ _ e, es]
            exact w.layer ha' hi2
        have fz : ∀ t, A 1 0 ≤ t → t < 12 → A 4 t + pb_sum 10 (fun q => sp_layA A p a n 11 (12 * q + t)) + sp_layA A p a n 5 t + A 6 t = 0 ∧ ∀ k, k < 100 → sp_layA A p a n 16 (12 * k + t) = 0 := fun t h1 h2 => by
          have h3 := w.none h1 h2
          have h4 := hcol t h2
          have h5 := f5 t h2
          have h6 := h3.1
          refine ⟨by omega, fun k hk => ?_⟩
          rw [d16 k t h2]
          by_cases e : k = 10 * a + A 13 a
          · rw [if_pos e]; exact w.pot0 (by omega) h2 h1
          · rw [if_neg e]; exact h3.2 k hk
        have fa : ∀ a', a' < 10 → A 12 a' ≤ 10000 ∧ pb_un (A 13) a (A 13 a + 1) a' ≤ 10 := fun a' ha' => by
          refine ⟨(w.area ha').1, ?_⟩
          by_cases e : a' = a
          · rw [e, pb_un_self]; omega
          · rw [pb_un_ne _ _ e]; exact (w.area ha').2
        exact ⟨w.1, w.2.1, w.2.2.1, (fun t ht => by have h1 := w.cons ht; have h2 := hcol t ht; have h3 := f5 t ht; show A 4 t + pb_sum 10 (fun q => sp_layA A p a n 11 (12 * q + t)) + sp_layA A p a n 5 t + A 6 t ≤ 9999; omega), fz, w.2.2.2.2.2.1, w.2.2.2.2.2.2.1, w.2.2.2.2.2.2.2.1, ft, fa, fl, w.2.2.2.2.2.2.2.2.2.2.2.1, w.rest.1, w.rest.2.1, w.rest.2.2.1, w.rest.2.2.2.1, w.rest.2.2.2.2.1, w.rest.2.2.2.2.2.1, w.rest.2.2.2.2.2.2⟩
  · exact w
theorem wf_tone (w : pb_WF A) (a b c : Int32) : pb_WF (sp_tone A a b c).2 := by
  unfold sp_tone
  split
  · rename_i q
    obtain ⟨a, -, ha, rfl⟩ := nI_rng (by omega) q.1 (by omega)
    obtain ⟨b, -, hb, rfl⟩ := nI_rng (by omega) q.2.1 (by omega)
    obtain ⟨c, -, hc, rfl⟩ := nI_rng (by omega) q.2.2 (by omega)
    rw [pb_natN (by omega), pb_natN (by omega), pb_natN (by omega)]
    have ft : ∀ i, i < 3 → pb_un (pb_un (pb_un (A 17) 0 a) 1 b) 2 c i ≤ 10000 := fun i hi => by
      have := w.tone hi
      unfold pb_un
      repeat (first | omega | split)
    exact ⟨w.1, w.2.1, w.2.2.1, w.2.2.2.1, w.2.2.2.2.1, w.2.2.2.2.2.1, w.2.2.2.2.2.2.1, w.2.2.2.2.2.2.2.1, w.2.2.2.2.2.2.2.2.1, w.2.2.2.2.2.2.2.2.2.1, w.2.2.2.2.2.2.2.2.2.2.1, ft, w.rest.1, w.rest.2.1, w.rest.2.2.1, w.rest.2.2.2.1, w.rest.2.2.2.2.1, w.rest.2.2.2.2.2.1, w.rest.2.2.2.2.2.2⟩
  · exact w
theorem wf_keep (w : pb_WF A) : pb_WF (sp_keep A).2 := by
  unfold sp_keep
  split
  · exact w
  · rename_i q
    have h24 := w.rest.2.2.2.2.2.1
    have fk : ∀ i, i < 18 → (if 3 * A 24 0 ≤ i ∧ i < 3 * A 24 0 + 3 then A 17 (i - 3 * A 24 0) else A 25 i) ≤ 10000 := fun i hi => by
      split
      · exact w.tone (by omega)
      · exact w.rest.2.2.2.2.2.2 i hi
    exact ⟨w.1, w.2.1, w.2.2.1, w.2.2.2.1, w.2.2.2.2.1, w.2.2.2.2.2.1, w.2.2.2.2.2.2.1, w.2.2.2.2.2.2.2.1, w.2.2.2.2.2.2.2.2.1, w.2.2.2.2.2.2.2.2.2.1, w.2.2.2.2.2.2.2.2.2.2.1, w.2.2.2.2.2.2.2.2.2.2.2.1, w.rest.1, w.rest.2.1, w.rest.2.2.1, w.rest.2.2.2.1, w.rest.2.2.2.2.1, (show A 24 0 + 1 ≤ 6 by omega), fk⟩
theorem wf_clear (w : pb_WF A) : pb_WF (sp_clear A).2 := by
  unfold sp_clear
  exact ⟨w.1, w.2.1, w.2.2.1, w.2.2.2.1, w.2.2.2.2.1, w.2.2.2.2.2.1, w.2.2.2.2.2.2.1, w.2.2.2.2.2.2.2.1, w.2.2.2.2.2.2.2.2.1, w.2.2.2.2.2.2.2.2.2.1, w.2.2.2.2.2.2.2.2.2.2.1, w.2.2.2.2.2.2.2.2.2.2.2.1, w.rest.1, w.rest.2.1, w.rest.2.2.1, w.rest.2.2.2.1, w.rest.2.2.2.2.1, (Nat.zero_le 6), w.rest.2.2.2.2.2.2⟩
theorem wf_mfold {l n : Nat} (w : pb_WF A) (hn : n ≤ 8) : ∀ (L : List (Nat → Nat)) (σ : Nat × Nat × (Nat → Nat)), (∀ Q ∈ L, pb_sum (A 1 0) Q = n ∧ ∀ i, A 1 0 ≤ i → Q i = 0) → σ.2.1 ≤ 8000 → (∀ t, t < 12 → σ.2.2 t ≤ 8) → (L.foldl (sp_mst A l) σ).2.1 ≤ 8000 ∧ ∀ t, t < 12 → (L.foldl (sp_mst A l) σ).2.2 t ≤ 8
  | [], σ, _, h2, h3 => ⟨h2, h3⟩
  | Q :: L, σ, h1, h2, h3 => by
    have htt := w.tubes
    obtain ⟨q1, q2⟩ := h1 Q List.mem_cons_self
    have hc := pb_cost_le w (P := Q)
    have hQ : ∀ t, t < 12 → Q t ≤ 8 := fun t ht => by
      by_cases e : t < A 1 0
      · have := pb_sum_mem (f := Q) e; omega
      · rw [q2 t (by omega)]; omega
    refine wf_mfold w hn L (sp_mst A l σ Q) (fun R hR => h1 R (List.mem_cons_of_mem _ hR)) ?_ (fun t ht => ?_)
    · unfold sp_mst
      split
      · show pb_cost A Q ≤ 8000; omega
      · exact h2
    · unfold sp_mst
      split
      · show (if t < 12 then Q t else σ.2.2 t) ≤ 8
        rw [if_pos ht]; exact hQ t ht
      · exact h3 t ht
theorem wf_match (w : pb_WF A) (l s n : Int32) : pb_WF (sp_match A l s n).2 := by
  unfold sp_match
  split
  · rename_i q
    obtain ⟨n, hn1, hn, rfl⟩ := nI_rng (by omega) q.2.2 (by omega)
    rw [pb_natN (c := n) (by omega)]
    obtain ⟨g1, g2⟩ := wf_mfold (l := pb_nat l) (n := n) w hn (en_l (pb_nat s) (A 1 0) 0 n (fun _ => 0)) (30001, A 20 0, A 19) (fun Q hQ => by
      obtain ⟨e1, e2, -⟩ := en_ok (A 1 0) 0 n (A 1 0) (fun _ => 0) (by omega) (fun _ _ => rfl) Q hQ
      refine ⟨?_, e2⟩
      rw [e1, pb_sum_const]
      omega) w.rest.2.2.1 w.rest.2.1
    have g1 : (sp_mf A (pb_nat l) (pb_nat s) n).2.1 ≤ 8000 := g1
    have g2 : ∀ t, t < 12 → (sp_mf A (pb_nat l) (pb_nat s) n).2.2 t ≤ 8 := g2
    generalize sp_mf A (pb_nat l) (pb_nat s) n = σ at g1 g2 ⊢
    exact ⟨w.1, w.2.1, w.2.2.1, w.2.2.2.1, w.2.2.2.2.1, w.2.2.2.2.2.1, w.2.2.2.2.2.2.1, w.2.2.2.2.2.2.2.1, w.2.2.2.2.2.2.2.2.1, w.2.2.2.2.2.2.2.2.2.1, w.2.2.2.2.2.2.2.2.2.2.1, w.2.2.2.2.2.2.2.2.2.2.2.1, (Nat.le_refl 1), g2, g1, w.rest.2.2.2.1, w.rest.2.2.2.2.1, w.rest.2.2.2.2.2.1, w.rest.2.2.2.2.2.2⟩
  · exact w
theorem gl_fm_mem {α : Type} {g : Nat → List α} {a : α} : ∀ {r x}, a ∈ gl_fm g r x → ∃ y, x ≤ y ∧ y < x + r ∧ a ∈ g y
  | 0, x, h => by cases h
  | r + 1, x, h => by
    rcases List.mem_append.mp h with h | h
    · exact ⟨x, Nat.le_refl _, by omega, h⟩
    · obtain ⟨y, y1, y2, y3⟩ := gl_fm_mem h
      exact ⟨y, by omega, by omega, y3⟩
theorem gl_e_mem {s : Nat} : ∀ d (L K : List Nat), K ∈ gl_e s d L → K.length = L.length + d ∧ ∀ x ∈ K, x ∈ L ∨ x < 36
  | 0, L, K, h => by
    have h : K = L := List.mem_singleton.mp h
    subst h
    exact ⟨rfl, fun x hx => Or.inl hx⟩
  | d + 1, L, K, h => by
    obtain ⟨y, y1, y2, h⟩ := gl_fm_mem h
    split at h
    · obtain ⟨k1, k2⟩ := gl_e_mem d _ K h
      refine ⟨by rw [k1, List.length_append, List.length_singleton]; omega, fun x hx => ?_⟩
      rcases k2 x hx with z | z
      · rcases List.mem_append.mp z with z | z
        · exact Or.inl z
        · rw [List.mem_singleton.mp z]; exact Or.inr (by omega)
      · exact Or.inr z
    · cases h
theorem gl_c_le {x : Nat} (h : x < 36) : gl_c x ≤ 200 := by
  have := gl_th_le (x % 3)
  unfold gl_c
  omega
theorem wf_gfold {l g : Nat} : ∀ (L : List (List Nat)) (σ : Nat × Nat × (Nat → Nat)), (∀ K ∈ L, K.length ≤ 3 ∧ ∀ x ∈ K, x < 36) → σ.2.1 ≤ 3 → (∀ i, i < 3 → σ.2.2 i ≤ 200) → (L.foldl (sp_gst A l g) σ).2.1 ≤ 3 ∧ ∀ i, i < 3 → (L.foldl (sp_gst A l g) σ).2.2 i ≤ 200
  | [], σ, _, h2, h3 => ⟨h2, h3⟩
  | K :: L, σ, h1, h2, h3 => by
    obtain ⟨q1, q2⟩ := h1 K List.mem_cons_self
    refine wf_gfold L (sp_gst A l g σ K) (fun R hR => h1 R (List.mem_cons_of_mem _ hR)) ?_ (fun i hi => ?_)
    · unfold sp_gst
      split
      · exact q1
      · exact h2
    · unfold sp_gst
      split
      · show (if i < K.length then gl_c (K.getD i 0) else σ.2.2 i) ≤ 200
        split
        · rename_i hk
          rw [gl_getD hk]
          exact gl_c_le (q2 _ (List.getElem_mem _))
        · exact h3 i hi
      · exact h3 i hi
theorem wf_glaze (w : pb_WF A) (l s g : Int32) : pb_WF (sp_glaze A l s g).2 := by
  unfold sp_glaze
  split
  · obtain ⟨g1, g2⟩ := wf_gfold (A := A) (l := pb_nat l) (g := pb_nat g) (gl_e (pb_nat s) 1 [] ++ (gl_e (pb_nat s) 2 [] ++ gl_e (pb_nat s) 3 [])) (gl_v A (pb_nat l) (pb_nat g) [], 0, A 23) (fun K hK => by
      have hz : ∀ d, d ≤ 3 → K ∈ gl_e (pb_nat s) d [] → K.length ≤ 3 ∧ ∀ x ∈ K, x < 36 := fun d hd hK => by
        obtain ⟨k1, k2⟩ := gl_e_mem d [] K hK
        exact ⟨by rw [k1]; exact Nat.le_trans (Nat.le_of_eq (Nat.zero_add d)) hd, fun x hx => (k2 x hx).elim (fun z => absurd z List.not_mem_nil) id⟩
      rcases List.mem_append.mp hK with hK | hK
      · exact hz 1 (by omega) hK
      · rcases List.mem_append.mp hK with hK | hK
        · exact hz 2 (by omega) hK
        · exact hz 3 (by omega) hK) (Nat.zero_le _) w.rest.2.2.2.2.1
    have g1 : (sp_gf A (pb_nat l) (pb_nat s) (pb_nat g)).2.1 ≤ 3 := g1
    have g2 : ∀ i, i < 3 → (sp_gf A (pb_nat l) (pb_nat s) (pb_nat g)).2.2 i ≤ 200 := g2
    generalize sp_gf A (pb_nat l) (pb_nat s) (pb_nat g) = σ at g1 g2 ⊢
    exact ⟨w.1, w.2.1, w.2.2.1, w.2.2.2.1, w.2.2.2.2.1, w.2.2.2.2.2.1, w.2.2.2.2.2.2.1, w.2.2.2.2.2.2.2.1, w.2.2.2.2.2.2.2.2.1, w.2.2.2.2.2.2.2.2.2.1, w.2.2.2.2.2.2.2.2.2.2.1, w.2.2.2.2.2.2.2.2.2.2.2.1, w.rest.1, w.rest.2.1, w.rest.2.2.1, Or.inl g1, g2, w.rest.2.2.2.2.2.1, w.rest.2.2.2.2.2.2⟩
  · exact w
end PB44
-- links of the abstract class, and of what is called through it
theorem mlX5_35 : Cond.methodLink RX5 35 ⟨RX5, "goThrough", "(LPaintBox$Palette;LPaintBox$Light;II)V"⟩ ∈ pb_tbl := pb_i3 (List.mem_of_getElem? (i := 140) (by decide +kernel)) rfl
theorem mlX9_81 : Cond.methodLink RX9 81 ⟨RX9, "weigh", "(LPaintBox$Light;)V"⟩ ∈ pb_tbl := pb_i3 (List.mem_of_getElem? (i := 158) (by decide +kernel)) rfl
theorem mlX1_59 : Cond.methodLink RX1 59 ⟨RX1, "tubesUsed", "()I"⟩ ∈ pb_tbl := pb_i3 (List.mem_of_getElem? (i := 164) (by decide +kernel)) rfl
theorem mlX1_63 : Cond.methodLink RX1 63 ⟨RX1, "bySight", "(LPaintBox$Light;I)I"⟩ ∈ pb_tbl := pb_i3 (List.mem_of_getElem? (i := 170) (by decide +kernel)) rfl
theorem mlX5_39 : Cond.methodLink RX5 39 ⟨RX5, "bySight", "(LPaintBox$Light;I)I"⟩ ∈ pb_tbl := pb_i3 (List.mem_of_getElem? (i := 182) (by decide +kernel)) rfl
theorem mlX5_49 : Cond.methodLink RX5 49 ⟨RX5, "cost", "()I"⟩ ∈ pb_tbl := pb_i3 (List.mem_of_getElem? (i := 186) (by decide +kernel)) rfl
theorem mlX5_53 : Cond.methodLink RX5 53 ⟨RX5, "writeDrops", "([I)V"⟩ ∈ pb_tbl := pb_i3 (List.mem_of_getElem? (i := 192) (by decide +kernel)) rfl
theorem mlX1_47 : Cond.methodLink RX1 47 ⟨RX1, "goThrough", "(LPaintBox$Palette;LPaintBox$Light;II)V"⟩ ∈ pb_tbl := pb_i4 (List.mem_of_getElem? (i := 39) (by decide +kernel)) rfl
theorem suX5_goThrough : Cond.selects RX5 ⟨RX5, "goThrough", "(LPaintBox$Palette;LPaintBox$Light;II)V"⟩ yX9_goThrough ∈ pb_tbl := pb_i3 (List.mem_of_getElem? (i := 143) (by decide +kernel)) rfl
theorem smX5_goThrough : Cond.sameMethod RX5 RX9 "goThrough" "(LPaintBox$Palette;LPaintBox$Light;II)V" ∈ pb_tbl := pb_i3 (List.mem_of_getElem? (i := 141) (by decide +kernel)) rfl
theorem suX1_weigh : Cond.selects RX1 ⟨RX9, "weigh", "(LPaintBox$Light;)V"⟩ yX1_weigh ∈ pb_tbl := pb_i3 (List.mem_of_getElem? (i := 161) (by decide +kernel)) rfl
theorem smX1_weigh : Cond.sameMethod RX9 RX9 "weigh" "(LPaintBox$Light;)V" ∈ pb_tbl := pb_i3 (List.mem_of_getElem? (i := 160) (by decide +kernel)) rfl
theorem suX1_tubesUsed : Cond.selects RX1 ⟨RX1, "tubesUsed", "()I"⟩ yX9_tubesUsed ∈ pb_tbl := pb_i3 (List.mem_of_getElem? (i := 167) (by decide +kernel)) rfl
theorem smX1_tubesUsed : Cond.sameMethod RX1 RX9 "tubesUsed" "()I" ∈ pb_tbl := pb_i3 (List.mem_of_getElem? (i := 165) (by decide +kernel)) rfl
theorem suX1_bySight : Cond.selects RX1 ⟨RX1, "bySight", "(LPaintBox$Light;I)I"⟩ yX9_bySight ∈ pb_tbl := pb_i3 (List.mem_of_getElem? (i := 173) (by decide +kernel)) rfl
theorem smX1_bySight : Cond.sameMethod RX1 RX9 "bySight" "(LPaintBox$Light;I)I" ∈ pb_tbl := pb_i3 (List.mem_of_getElem? (i := 171) (by decide +kernel)) rfl
theorem suX5_weigh : Cond.selects RX5 ⟨RX9, "weigh", "(LPaintBox$Light;)V"⟩ yX5_weigh ∈ pb_tbl := pb_i3 (List.mem_of_getElem? (i := 179) (by decide +kernel)) rfl
theorem smX5_weigh : Cond.sameMethod RX9 RX9 "weigh" "(LPaintBox$Light;)V" ∈ pb_tbl := pb_i3 (List.mem_of_getElem? (i := 160) (by decide +kernel)) rfl
theorem suX5_bySight : Cond.selects RX5 ⟨RX5, "bySight", "(LPaintBox$Light;I)I"⟩ yX9_bySight ∈ pb_tbl := pb_i3 (List.mem_of_getElem? (i := 184) (by decide +kernel)) rfl
theorem smX5_bySight : Cond.sameMethod RX5 RX9 "bySight" "(LPaintBox$Light;I)I" ∈ pb_tbl := pb_i3 (List.mem_of_getElem? (i := 183) (by decide +kernel)) rfl
theorem suX5_cost : Cond.selects RX5 ⟨RX5, "cost", "()I"⟩ yX9_cost ∈ pb_tbl := pb_i3 (List.mem_of_getElem? (i := 189) (by decide +kernel)) rfl
theorem smX5_cost : Cond.sameMethod RX5 RX9 "cost" "()I" ∈ pb_tbl := pb_i3 (List.mem_of_getElem? (i := 187) (by decide +kernel)) rfl
theorem suX5_writeDrops : Cond.selects RX5 ⟨RX5, "writeDrops", "([I)V"⟩ yX9_writeDrops ∈ pb_tbl := pb_i3 (List.mem_of_getElem? (i := 195) (by decide +kernel)) rfl
theorem smX5_writeDrops : Cond.sameMethod RX5 RX9 "writeDrops" "([I)V" ∈ pb_tbl := pb_i3 (List.mem_of_getElem? (i := 193) (by decide +kernel)) rfl
theorem suX1_goThrough : Cond.selects RX1 ⟨RX1, "goThrough", "(LPaintBox$Palette;LPaintBox$Light;II)V"⟩ yX9_goThrough ∈ pb_tbl := pb_i4 (List.mem_of_getElem? (i := 41) (by decide +kernel)) rfl
theorem smX1_goThrough : Cond.sameMethod RX1 RX9 "goThrough" "(LPaintBox$Palette;LPaintBox$Light;II)V" ∈ pb_tbl := pb_i4 (List.mem_of_getElem? (i := 40) (by decide +kernel)) rfl
theorem dcX9_weigh : Cond.declares ⟨RX9, "weigh", "(LPaintBox$Light;)V"⟩ ∈ pb_nw := pb_j3 (List.mem_of_getElem? (i := 159) (by decide +kernel)) rfl
theorem sxX5_addMember : Cond.selects RX5 yX9_addMember yX9_addMember ∈ pb_tbl := List.mem_append_left _ (List.mem_of_getElem? (i := 0) rfl)
theorem sxX5_spread : Cond.selects RX5 yX9_spread yX9_spread ∈ pb_tbl := List.mem_append_left _ (List.mem_of_getElem? (i := 1) rfl)
theorem sxX5_sumUp : Cond.selects RX5 yX9_sumUp yX9_sumUp ∈ pb_tbl := List.mem_append_left _ (List.mem_of_getElem? (i := 2) rfl)
theorem sxX1_addMember : Cond.selects RX1 yX9_addMember yX9_addMember ∈ pb_tbl := List.mem_append_left _ (List.mem_of_getElem? (i := 3) rfl)
theorem sxX1_spread : Cond.selects RX1 yX9_spread yX9_spread ∈ pb_tbl := List.mem_append_left _ (List.mem_of_getElem? (i := 4) rfl)
theorem sxX1_sumUp : Cond.selects RX1 yX9_sumUp yX9_sumUp ∈ pb_tbl := List.mem_append_left _ (List.mem_of_getElem? (i := 5) rfl)
/-! THE ORDER IN WHICH THE CLASS GOES THROUGH MIXTURES -/
def em_l (mem : Nat → Nat) : Nat → Nat → Nat → (Nat → Nat) → List (Nat → Nat)
  | 0, _, n, P => if n = 0 then [P] else []
  | r + 1, f, n, P => if n = 0 then [P] else pb_fl2 (fun x => em_l mem r (f + 1) (n - x) (pb_un P (mem f) x)) n ++ em_l mem r (f + 1) n P
theorem em_0 (mem : Nat → Nat) : ∀ r f P, em_l mem r f 0 P = [P]
  | 0, _, _ => rfl
  | _ + 1, _, _ => rfl
theorem em_s {mem : Nat → Nat} {r f n : Nat} {P : Nat → Nat} (hn : 1 ≤ n) : em_l mem (r + 1) f n P = pb_fl2 (fun x => em_l mem r (f + 1) (n - x) (pb_un P (mem f) x)) n ++ em_l mem r (f + 1) n P := if_neg (by omega)
theorem em_e {mem : Nat → Nat} {f n : Nat} {P : Nat → Nat} (hn : 1 ≤ n) : em_l mem 0 f n P = [] := if_neg (by omega)
def em_c (s t : Nat) : Nat := pb_sum t (fun u => pb_bit s u)
theorem em_c_mono {s t u : Nat} (h : t ≤ u) : em_c s t ≤ em_c s u := pb_sum_mono h
theorem em_c_le (s : Nat) : ∀ t, em_c s t ≤ t
  | 0 => Nat.le_refl _
  | t + 1 => by
    have h1 := em_c_le s t
    have h2 := pb_bit_le s t
    show em_c s t + pb_bit s t ≤ t + 1
    omega
theorem em_en {s T : Nat} {mem : Nat → Nat} (hm : ∀ u, u < T → s.testBit u = true → mem (em_c s u) = u) : ∀ (r t n : Nat) (P : Nat → Nat), t + r = T → en_l s r t n P = em_l mem (em_c s T - em_c s t) (em_c s t) n P := by
  intro r
  induction r with
  | zero =>
    intro t n P h
    have e : t = T := by omega
    subst e
    rw [Nat.sub_self]
    rfl
  | succ r ih =>
    intro t n P h
    by_cases hn : n = 0
    · subst hn
      rw [en_0, em_0]
    · show (if n = 0 then [P] else if s.testBit t then pb_fl2 (fun x => en_l s r (t + 1) (n - x) (pb_un P t x)) n ++ en_l s r (t + 1) n P else en_l s r (t + 1) n P) = _
      rw [if_neg hn]
      have e1 : em_c s (t + 1) = em_c s t + pb_bit s t := rfl
      have e2 := em_c_mono (s := s) (show t + 1 ≤ T by omega)
      by_cases hb : s.testBit t = true
      · rw [pb_bit_1.mpr hb] at e1
        rw [if_pos hb, show em_c s T - em_c s t = (em_c s T - em_c s (t + 1)) + 1 by omega, em_s (by omega), hm t (by omega) hb, ih (t + 1) n P (by omega), e1]
        refine congrArg (fun l => l ++ _) ?_
        refine congrArg (fun g => pb_fl2 g n) (funext fun x => ?_)
        show en_l s r (t + 1) (n - x) (pb_un P t x) = _
        rw [ih (t + 1) (n - x) _ (by omega), e1]
      · rw [if_neg hb]
        have hb0 : pb_bit s t = 0 := pb_bit_0.mpr (by simpa using hb)
        have e3 : em_c s (t + 1) = em_c s t := by omega
        rw [ih (t + 1) n P (by omega), e3]
/-- a mixture by levels: members C 0, C 1 .. with drops M 0, M 1 .. -/
def mxP (mem C M : Nat → Nat) : Nat → Nat → Nat
  | 0 => fun _ => 0
  | k + 1 => pb_un (mxP mem C M k) (mem (C k)) (M k)
theorem mxP_c {mem C M C' M' : Nat → Nat} : ∀ k, (∀ i, i < k → C' i = C i ∧ M' i = M i) → mxP mem C' M' k = mxP mem C M k
  | 0, _ => rfl
  | k + 1, h => by
    show pb_un _ _ _ = pb_un _ _ _
    rw [mxP_c k (fun i hi => h i (by omega)), (h k (by omega)).1, (h k (by omega)).2]
def mmI (T sz : Nat) (mem : Nat → Nat) : Prop := (∀ i j, i < j → j < sz → mem i < mem j) ∧ ∀ i, i < sz → mem i < T
def mlI (sz : Nat) (C M : Nat → Nat) (k f : Nat) : Prop := (∀ i, i < k → C i < f) ∧ (∀ i j, i < j → j < k → C i < C j) ∧ (∀ i, i < k → 1 ≤ M i) ∧ f ≤ sz
theorem mmI.ne {T sz : Nat} {mem : Nat → Nat} (hm : mmI T sz mem) {i j : Nat} (hi : i < sz) (hj : j < sz) (h : i ≠ j) : mem i ≠ mem j := by
  rcases Nat.lt_or_gt_of_ne h with q | q
  · have := hm.1 i j q hj; omega
  · have := hm.1 j i q hi; omega
theorem mxP_z {T sz : Nat} {mem C M : Nat → Nat} (hm : mmI T sz mem) {j : Nat} (hj : j < sz) : ∀ k, (∀ i, i < k → C i < j) → mxP mem C M k (mem j) = 0
  | 0, _ => rfl
  | k + 1, h => by
    show pb_un (mxP mem C M k) (mem (C k)) (M k) (mem j) = 0
    have := hm.1 (C k) j (h k (by omega)) hj
    rw [pb_un_ne _ _ (by omega)]
    exact mxP_z hm hj k (fun i hi => h i (by omega))
theorem mxP_T {T sz : Nat} {mem C M : Nat → Nat} (hm : mmI T sz mem) {t : Nat} (ht : T ≤ t) : ∀ k, (∀ i, i < k → C i < sz) → mxP mem C M k t = 0
  | 0, _ => rfl
  | k + 1, h => by
    show pb_un (mxP mem C M k) (mem (C k)) (M k) t = 0
    have := hm.2 (C k) (h k (by omega))
    rw [pb_un_ne _ _ (by omega)]
    exact mxP_T hm ht k (fun i hi => h i (by omega))
theorem pb_sum_mul {P g : Nat → Nat} {u x : Nat} (h0 : P u = 0) : ∀ T, u < T → pb_sum T (fun t => pb_un P u x t * g t) = pb_sum T (fun t => P t * g t) + x * g u
  | 0, h => by omega
  | T + 1, h => by
    show pb_sum T (fun t => pb_un P u x t * g t) + pb_un P u x T * g T = pb_sum T (fun t => P t * g t) + P T * g T + x * g u
    by_cases e : T = u
    · subst e
      have e1 : pb_sum T (fun t => pb_un P T x t * g t) = pb_sum T (fun t => P t * g t) := pb_sum_congr T (fun t ht => by
        show pb_un P T x t * g t = P t * g t
        rw [pb_un_ne _ _ (by omega)])
      rw [e1, pb_un_self, h0, Nat.zero_mul]
      rfl
    · rw [pb_un_ne _ _ e, pb_sum_mul h0 T (by omega)]
      omega
theorem mx_dk {A : pb_A} {P : Nat → Nat} {u x b : Nat} (h0 : P u = 0) (hu : u < A 1 0) : pb_dk A (pb_un P u x) b 0 = pb_dk A P b 0 + x * A 7 (8 * u + b) := pb_sum_mul (g := fun t => pb_fade (A 3 t) (A 7 (8 * t + b)) 0) h0 (A 1 0) hu
theorem mx_sc {A : pb_A} {P : Nat → Nat} {u x b : Nat} (h0 : P u = 0) (hu : u < A 1 0) : pb_sc A (pb_un P u x) b = pb_sc A P b + x * A 8 (8 * u + b) := pb_sum_mul (g := fun t => A 8 (8 * t + b)) h0 (A 1 0) hu
theorem mx_cost {A : pb_A} {P : Nat → Nat} {u x : Nat} (h0 : P u = 0) (hu : u < A 1 0) : pb_cost A (pb_un P u x) = pb_cost A P + x * A 2 u := pb_sum_mul (g := fun t => A 2 t) h0 (A 1 0) hu
theorem us_un {P : Nat → Nat} {u x : Nat} (h0 : P u = 0) (hx : 1 ≤ x) : ∀ T, u < T → pb_us T (pb_un P u x) = pb_us T P + 1
  | 0, h => by omega
  | T + 1, h => by
    show pb_us T (pb_un P u x) + (if 0 < pb_un P u x T then 1 else 0) = pb_us T P + (if 0 < P T then 1 else 0) + 1
    by_cases e : T = u
    · subst e
      rw [pb_us_congr (Q := P) T (fun t ht => pb_un_ne _ _ (by omega)), pb_un_self, h0, if_pos (by omega), if_neg (by omega)]
    · rw [pb_un_ne _ _ e, us_un h0 hx T (by omega)]
      omega
theorem mx_us {T sz : Nat} {mem C M : Nat → Nat} (hm : mmI T sz mem) : ∀ k, (∀ i, i < k → C i < sz) → (∀ i j, i < j → j < k → C i < C j) → (∀ i, i < k → 1 ≤ M i) → pb_us T (mxP mem C M k) = k
  | 0, _, _, _ => by
    show pb_sum T (fun _ => if 0 < 0 then 1 else 0) = 0
    rw [pb_sum_congr (g := fun _ => 0) T (fun t _ => if_neg (by omega)), pb_sum_const, Nat.mul_zero]
  | k + 1, h1, h2, h3 => by
    show pb_us T (pb_un (mxP mem C M k) (mem (C k)) (M k)) = k + 1
    rw [us_un (mxP_z hm (h1 k (by omega)) k (fun i hi => h2 i k hi (by omega))) (h3 k (by omega)) T (hm.2 _ (h1 k (by omega))), mx_us hm k (fun i hi => h1 i (by omega)) (fun i j hi hj => h2 i j hi (by omega)) (fun i hi => h3 i (by omega))]
theorem fw_set_un {P : Nat → Nat} {u x T : Nat} (h0 : P u = 0) (hx : 1 ≤ x) (hu : u < T) : fw_set (pb_un P u x) T = fw_set P T ||| 2 ^ u := by
  apply Nat.eq_of_testBit_eq
  intro i
  rw [Nat.testBit_or, tb_p2, Bool.eq_iff_iff, Bool.or_eq_true, fw_set_tb, fw_set_tb, decide_eq_true_iff]
  by_cases e : u = i
  · subst e
    rw [pb_un_self]
    exact ⟨fun _ => Or.inr rfl, fun _ => ⟨hu, by omega⟩⟩
  · rw [pb_un_ne _ _ (fun q => e q.symm)]
    exact ⟨fun z => Or.inl z, fun z => z.elim id (fun q => absurd q e)⟩
theorem em_us {T sz : Nat} {mem : Nat → Nat} (hm : mmI T sz mem) : ∀ (r f n : Nat) (P : Nat → Nat), f + r = sz → 1 ≤ n → (∀ j, f ≤ j → j < sz → P (mem j) = 0) → ∀ Q ∈ em_l mem r f n P, pb_us T P + 1 ≤ pb_us T Q := by
  intro r
  induction r with
  | zero =>
    intro f n P h1 h2 h3 Q hQ
    rw [em_e h2] at hQ
    cases hQ
  | succ r ih =>
    intro f n P h1 h2 h3 Q hQ
    rw [em_s h2] at hQ
    rcases List.mem_append.mp hQ with hQ | hQ
    · obtain ⟨x, x1, x2, hQ⟩ := pb_fl2_mem hQ
      have e1 := us_un (h3 f (Nat.le_refl _) (by omega)) x1 T (hm.2 f (by omega))
      by_cases e : n - x = 0
      · rw [e, em_0, List.mem_singleton] at hQ
        subst hQ
        omega
      · have := ih (f + 1) (n - x) (pb_un P (mem f) x) (by omega) (by omega) (fun j j1 j2 => by
          rw [pb_un_ne _ _ (hm.ne j2 (by omega) (by omega))]
          exact h3 j (by omega) j2) Q hQ
        omega
    · exact ih (f + 1) n P (by omega) h2 (fun j j1 j2 => h3 j (by omega) j2) Q hQ
theorem fold_id {α β : Type} {stp : α → β → α} {σ : α} : ∀ L : List β, (∀ Q ∈ L, stp σ Q = σ) → L.foldl stp σ = σ
  | [], _ => rfl
  | Q :: L, h => by
    show L.foldl stp (stp σ Q) = σ
    rw [h Q List.mem_cons_self]
    exact fold_id L (fun R hR => h R (List.mem_cons_of_mem _ hR))
theorem fl2_s {α : Type} {g : Nat → List α} {x : Nat} (hx : 1 ≤ x) : pb_fl2 g x = g x ++ pb_fl2 g (x - 1) := by
  obtain ⟨y, rfl⟩ : ∃ y, x = y + 1 := ⟨x - 1, by omega⟩
  rfl
theorem mx_up {mem C M : Nat → Nat} {k m x : Nat} : mxP mem (pb_un C k m) (pb_un M k x) (k + 1) = pb_un (mxP mem C M k) (mem m) x := by
  show pb_un (mxP mem (pb_un C k m) (pb_un M k x) k) (mem (pb_un C k m k)) (pb_un M k x k) = _
  rw [pb_un_self, pb_un_self, mxP_c k (fun i hi => ⟨pb_un_ne _ _ (by omega), pb_un_ne _ _ (by omega)⟩)]
theorem mlI.up {sz : Nat} {C M : Nat → Nat} {k f m x : Nat} (h : mlI sz C M k f) (hf : f ≤ m) (hm : m < sz) (hx : 1 ≤ x) : mlI sz (pb_un C k m) (pb_un M k x) (k + 1) (m + 1) := by
  obtain ⟨h1, h2, h3, h4⟩ := h
  refine ⟨fun i hi => ?_, fun i j hi hj => ?_, fun i hi => ?_, by omega⟩
  · by_cases e : i = k
    · rw [e, pb_un_self]; omega
    · rw [pb_un_ne _ _ e]; have := h1 i (by omega); omega
  · have hik : i ≠ k := by omega
    rw [pb_un_ne _ _ hik]
    by_cases e : j = k
    · rw [e, pb_un_self]; have := h1 i (by omega); omega
    · rw [pb_un_ne _ _ e]; exact h2 i j hi (by omega)
  · by_cases e : i = k
    · rw [e, pb_un_self]; exact hx
    · rw [pb_un_ne _ _ e]; exact h3 i (by omega)
theorem mlI.z {T sz : Nat} {mem C M : Nat → Nat} {k f : Nat} (h : mlI sz C M k f) (hm : mmI T sz mem) {j : Nat} (h1 : f ≤ j) (h2 : j < sz) : mxP mem C M k (mem j) = 0 := mxP_z hm h2 k (fun i hi => by have := h.1 i hi; omega)
theorem mlI.us {T sz : Nat} {mem C M : Nat → Nat} {k f : Nat} (h : mlI sz C M k f) (hm : mmI T sz mem) : pb_us T (mxP mem C M k) = k := mx_us hm k (fun i hi => by have := h.1 i hi; have := h.2.2.2; omega) h.2.1 h.2.2.1
theorem mlI.T {T sz : Nat} {mem C M : Nat → Nat} {k f t : Nat} (h : mlI sz C M k f) (hm : mmI T sz mem) (ht : T ≤ t) : mxP mem C M k t = 0 := mxP_T hm ht k (fun i hi => by have := h.1 i hi; have := h.2.2.2; omega)
theorem mlI.c {sz : Nat} {C M C' M' : Nat → Nat} {k f : Nat} (h : mlI sz C M k f) (hc : ∀ i, i < k → C' i = C i ∧ M' i = M i) : mlI sz C' M' k f := by
  obtain ⟨h1, h2, h3, h4⟩ := h
  refine ⟨fun i hi => ?_, fun i j hi hj => ?_, fun i hi => ?_, h4⟩
  · rw [(hc i hi).1]; exact h1 i hi
  · rw [(hc i (by omega)).1, (hc j hj).1]; exact h2 i j hi hj
  · rw [(hc i hi).2]; exact h3 i hi
section PB36
variable {Z : pb_Z} {h h0 : pb_H} {A : pb_A}
set_option maxRecDepth 10000 in
theorem t_bySight2 (w : pb_WF A) (h62 : h 62 = some (.inr (.inr (4, [.ref 72, .ref 73, .ref 74, .ref 75, .ref 76])))) (h74 : h 74 = some (.inr (.inl (4, 3, cTo 87 3)))) {l s a : Nat} {F : Nat → Nat} (hL : pb_LT A l h) (hl : l < 4) (hs : s < 3) (ha : h a = some (.inl (0, 8, fun j => nI (F j)))) (hF : ∀ b, b < 8 → 0 < pb_wt A l s b → F b ≤ 10000) : pb_T Z mX4_bySight 0 0 0 [.ref 62, .int (nI s), .ref a] h (pb_E (some (.int (nI (pb_see A l s F)))) h) := by
  obtain ⟨hW, ⟨S, h75, hS⟩, -⟩ := hL
  obtain ⟨W, hw8, hW⟩ := hW s hs
  have hS1 := hS s hs
  have hwl : ∀ b, b < 8 → pb_wt A l s b ≤ 9801 := fun b hb => pb_wt_le w hl hs hb
  have hsum := pb_sum_bd (n := 8) hwl
  have hprod : ∀ b, b < 8 → pb_wt A l s b * F b ≤ 98010000 := fun b hb => by
    by_cases c : 0 < pb_wt A l s b
    · exact Nat.mul_le_mul (hwl b hb) (hF b hb c)
    · rw [show pb_wt A l s b = 0 by omega, Nat.zero_mul]; omega
  have hps := pb_sum_bd (n := 8) (f := fun b => pb_wt A l s b * F b) hprod
  refine pb_T.of pnX4_bySight (Nat.le_of_ble_eq_true rfl) (lv := [some (.ref 62), some (.int (nI s)), some (.ref a), none, none, none]) rfl ?_
  refine pb_aload_n (pc2 := 1) dX4_bySight_0 rfl rfl rfl ?_
  refine pb_getf (pc2 := 4) flX4_22_X4 rfl dX4_bySight_1 (by first | assumption | exact hR.a rfl | exact hR.o | exact hC.o | exact hC.pal | exact hC.tub | exact hC.k _ _ rfl | exact hC.pot _ (by omega) | exact hC.are _ (by omega) | exact hC.arl _ (by omega) | exact hC.tbo _ (by omega) (by omega)) rfl rfl ?_
  refine pb_iload_n (pc2 := 5) dX4_bySight_4 rfl rfl rfl ?_
  refine pb_iald (pc2 := 6) (by first | assumption | exact hR.a rfl | exact hR.o | exact hC.o | exact hC.pal | exact hC.tub | exact hC.k _ _ rfl | exact hC.pot _ (by omega) | exact hC.are _ (by omega) | exact hC.arl _ (by omega) | exact hC.tbo _ (by omega) (by omega)) ⟨by decide, rfl⟩ dX4_bySight_5 (by omega) (by omega) rfl ?_
  refine pb_top (v2 := .int (nI (pb_sum 8 (pb_wt A l s)))) (by rw [hS1]) ?_
  refine pb_ifN_gt (tgt := 11) (pc2 := 9) dX4_bySight_6 (by decide) rfl (by omega) (fun c => ?_) (fun c => ?_)
  · have loop : ∀ (m b : Nat), 8 - b < m → b ≤ 8 → pb_S Z mX4_bySight 0 0 0 (pb_E (some (.int (nI (pb_see A l s F)))) h) 24 [some (.ref 62), some (.int (nI s)), some (.ref a), some (.ref (87 + s)), some (.int (nI (pb_sum b (fun b => pb_wt A l s b * F b)))), some (.int (nI b))] [] h := by
      intro m
      induction m with
      | zero => intro b h1; omega
      | succ m ih =>
        intro b h1 h2
        refine pb_iload (pc2 := 26) dX4_bySight_24 rfl rfl ?_
        refine pb_bipush (x := nI 8) (pc2 := 28) dX4_bySight_26 (by decide) rfl ?_
        refine pb_icmpN_ge (tgt := 51) (pc2 := 31) dX4_bySight_28 (by decide) rfl (by omega) (by omega) (fun q => ?_) (fun q => ?_)
        · have e : b = 8 := by omega
          subst e
          refine pb_iload (pc2 := 53) dX4_bySight_51 rfl rfl ?_
          refine pb_aload_n (pc2 := 54) dX4_bySight_53 rfl rfl rfl ?_
          refine pb_getf (pc2 := 57) flX4_22_X4 rfl dX4_bySight_54 (by first | assumption | exact hR.a rfl | exact hR.o | exact hC.o | exact hC.pal | exact hC.tub | exact hC.k _ _ rfl | exact hC.pot _ (by omega) | exact hC.are _ (by omega) | exact hC.arl _ (by omega) | exact hC.tbo _ (by omega) (by omega)) rfl rfl ?_
          refine pb_iload_n (pc2 := 58) dX4_bySight_57 rfl rfl rfl ?_
          refine pb_iald (pc2 := 59) (by first | assumption | exact hR.a rfl | exact hR.o | exact hC.o | exact hC.pal | exact hC.tub | exact hC.k _ _ rfl | exact hC.pot _ (by omega) | exact hC.are _ (by omega) | exact hC.arl _ (by omega) | exact hC.tbo _ (by omega) (by omega)) ⟨by decide, rfl⟩ dX4_bySight_58 (by omega) (by omega) rfl ?_
          refine pb_top (v2 := .int (nI (pb_sum 8 (pb_wt A l s)))) (by rw [hS1]) ?_
          refine pb_idivN (pc2 := 60) dX4_bySight_59 (by omega) (by omega) (by omega) rfl ?_
          refine pb_top (v2 := .int (nI (pb_see A l s F))) (by unfold pb_see; rw [if_neg (by omega)]) ?_
          exact pb_ireturn dX4_bySight_60 rfl (⟨rfl, rfl⟩)
        · have hWb := hW b q
          refine pb_iload (pc2 := 33) dX4_bySight_31 rfl rfl ?_
          refine pb_aload_n (pc2 := 34) dX4_bySight_33 rfl rfl rfl ?_
          refine pb_iload (pc2 := 36) dX4_bySight_34 rfl rfl ?_
          refine pb_iald (pc2 := 37) (by first | assumption | exact hR.a rfl | exact hR.o | exact hC.o | exact hC.pal | exact hC.tub | exact hC.k _ _ rfl | exact hC.pot _ (by omega) | exact hC.are _ (by omega) | exact hC.arl _ (by omega) | exact hC.tbo _ (by omega) (by omega)) ⟨by decide, rfl⟩ dX4_bySight_36 (by omega) (by omega) rfl ?_
          refine pb_aload_n (pc2 := 38) dX4_bySight_37 rfl rfl rfl ?_
          refine pb_iload (pc2 := 40) dX4_bySight_38 rfl rfl ?_
          refine pb_iald (pc2 := 41) (by first | assumption | exact hR.a rfl | exact hR.o | exact hC.o | exact hC.pal | exact hC.tub | exact hC.k _ _ rfl | exact hC.pot _ (by omega) | exact hC.are _ (by omega) | exact hC.arl _ (by omega) | exact hC.tbo _ (by omega) (by omega)) ⟨by decide, rfl⟩ dX4_bySight_40 (by omega) (by omega) rfl ?_
          refine pb_imulN (pc2 := 42) dX4_bySight_41 rfl ?_
          refine pb_iaddN (pc2 := 43) dX4_bySight_42 rfl ?_
          refine pb_top (v2 := .int (nI (pb_sum (b + 1) (fun b => pb_wt A l s b * F b)))) (by rw [hWb]; rfl) ?_
          refine pb_istore (lv2 := [_, _, _, _, _, _]) (pc2 := 45) dX4_bySight_43 (by decide) rfl rfl ?_
          refine pb_iincP (c0 := 1) (lv2 := [_, _, _, _, _, _]) (pc2 := 48) dX4_bySight_45 rfl (by decide) rfl rfl ?_
          refine pb_goto (tgt := 24) dX4_bySight_48 (by decide) ?_
          exact ih (b + 1) (by omega) (by omega)
    refine pb_aload_n (pc2 := 12) dX4_bySight_11 rfl rfl rfl ?_
    refine pb_getf (pc2 := 15) flX4_19_X4 rfl dX4_bySight_12 (by first | assumption | exact hR.a rfl | exact hR.o | exact hC.o | exact hC.pal | exact hC.tub | exact hC.k _ _ rfl | exact hC.pot _ (by omega) | exact hC.are _ (by omega) | exact hC.arl _ (by omega) | exact hC.tbo _ (by omega) (by omega)) rfl rfl ?_
    refine pb_iload_n (pc2 := 16) dX4_bySight_15 rfl rfl rfl ?_
    refine pb_aald (pc2 := 17) (by first | assumption | exact hR.a rfl | exact hR.o | exact hC.o | exact hC.pal | exact hC.tub | exact hC.k _ _ rfl | exact hC.pot _ (by omega) | exact hC.are _ (by omega) | exact hC.arl _ (by omega) | exact hC.tbo _ (by omega) (by omega)) dX4_bySight_16 (by decide) (by omega) (by omega) (cTo_at (by omega)) rfl ?_
    refine pb_astore_n (lv2 := [_, _, _, _, _, _]) (pc2 := 18) dX4_bySight_17 rfl (by decide) rfl rfl ?_
    refine pb_iconst (x := nI 0) (pc2 := 19) dX4_bySight_18 (by decide) rfl ?_
    refine pb_istore (lv2 := [_, _, _, _, _, _]) (pc2 := 21) dX4_bySight_19 (by decide) rfl rfl ?_
    refine pb_iconst (x := nI 0) (pc2 := 22) dX4_bySight_21 (by decide) rfl ?_
    refine pb_istore (lv2 := [_, _, _, _, _, _]) (pc2 := 24) dX4_bySight_22 (by decide) rfl rfl ?_
    exact loop 9 0 (by omega) (by omega)
  · refine pb_iconst (x := nI 0) (pc2 := 10) dX4_bySight_9 (by decide) rfl ?_
    refine pb_top (v2 := .int (nI (pb_see A l s F))) (by unfold pb_see; rw [if_pos c]) ?_
    exact pb_ireturn dX4_bySight_10 rfl (⟨rfl, rfl⟩)
end PB36
/-! THE CLASS's SEARCH: what both searches share (text for one, turned for the other by program) -/
theorem cS_n {x : Nat} (hx : x < 67 ∨ (67 < x ∧ x < 75) ∨ (75 < x ∧ x < 87) ∨ (90 ≤ x ∧ x < 300) ∨ x = 309 ∨ x = 360 ∨ x = 364 ∨ x = 411 ∨ x = 413 ∨ x = 460 ∨ x = 464 ∨ x = 500 ∨ 600 ≤ x) : cS x = none := by
  unfold cS
  rw [if_neg (by omega), if_neg (by omega), if_neg (by omega), if_neg (by omega), if_neg (by omega)]
theorem cK_S {a : Nat} {c : pb_C} (h : cK a = some c) : cS a = none := by
  rcases cK_all h with rfl | rfl | rfl | rfl | rfl | rfl | rfl | rfl | rfl | rfl | rfl | rfl | rfl | rfl | rfl | rfl | rfl | rfl | rfl <;> rfl
theorem cS_8 {a : Nat} (h : a = 67 ∨ (87 ≤ a ∧ a < 90) ∨ a = 308 ∨ a = 408 ∨ (320 ≤ a ∧ a < 332) ∨ (340 ≤ a ∧ a < 352) ∨ (361 ≤ a ∧ a < 364) ∨ (365 ≤ a ∧ a < 368) ∨ (420 ≤ a ∧ a < 432) ∨ (440 ≤ a ∧ a < 452) ∨ (461 ≤ a ∧ a < 464) ∨ (465 ≤ a ∧ a < 468) ∨ (520 ≤ a ∧ a < 532) ∨ (540 ≤ a ∧ a < 552) ∨ (560 ≤ a ∧ a < 564)) : cS a = some 8 := by
  unfold cS
  by_cases c : a = 67 ∨ (87 ≤ a ∧ a < 90)
  · rw [if_pos c]
  · rw [if_neg c, if_neg (by omega), if_neg (by omega), if_neg (by omega), if_pos (by omega)]
section PB37M
variable {Z : pb_Z} {h h0 : pb_H} {A : pb_A}
def soM (sz tp : Nat) (v0 v1 v2 v3 v4 : Value) : List Value := [.ref 300, .ref 301, .ref 302, .ref 303, .int (nI sz), .ref 304, .ref 305, .ref 306, .ref 307, .int (nI tp), .ref 308, v0, v1, v2, v3, v4]
/-- what a search reads and leaves as it is -/
def sbM (A : pb_A) (l sz : Nat) (mem : Nat → Nat) (h : pb_H) : Prop := h 62 = some (.inr (.inr (4, [.ref 72, .ref 73, .ref 74, .ref 75, .ref 76]))) ∧ h 74 = some (.inr (.inl (4, 3, cTo 87 3))) ∧ h 302 = some (.inr (.inl (4, 12, cTo 320 12))) ∧ h 303 = some (.inr (.inl (4, 12, cTo 340 12))) ∧ h 306 = some (.inr (.inl (4, 4, cTo 360 4))) ∧ h 307 = some (.inr (.inl (4, 4, cTo 364 4))) ∧ pb_LT A l h ∧ h 300 = some (.inl (0, 12, fun j => nI (mem j))) ∧ (∃ K : Nat → Nat, h 301 = some (.inl (0, 12, fun j => nI (K j))) ∧ ∀ i, i < sz → K i = A 2 (mem i)) ∧ (∀ i, i < sz → cRow 8 (fun b => A 7 (8 * mem i + b)) (h (320 + i))) ∧ (∀ i, i < sz → cRow 8 (fun b => A 8 (8 * mem i + b)) (h (340 + i)))
theorem sbM.up {l sz : Nat} {mem : Nat → Nat} {h' : pb_H} (hS : sbM A l sz mem h) (hsz : sz ≤ 12) (nb : ∀ x, x = 62 ∨ (74 ≤ x ∧ x < 90) ∨ (300 ≤ x ∧ x < 304) ∨ x = 306 ∨ x = 307 ∨ (320 ≤ x ∧ x < 352) → h' x = h x) : sbM A l sz mem h' := by
  obtain ⟨h62, h74, hdr, hsr, hdo, hso, hL, hme, ⟨K, hko, hK⟩, hdi, hsi⟩ := hS
  refine ⟨(nb _ (by omega)).trans h62, (nb _ (by omega)).trans h74, (nb _ (by omega)).trans hdr, (nb _ (by omega)).trans hsr, (nb _ (by omega)).trans hdo, (nb _ (by omega)).trans hso, hL.up (fun b b1 b2 => nb b (by omega)), (nb _ (by omega)).trans hme, ⟨K, (nb _ (by omega)).trans hko, hK⟩, fun i hi => ?_, fun i hi => ?_⟩
  · rw [nb _ (by omega)]; exact hdi i hi
  · rw [nb _ (by omega)]; exact hsi i hi
/-- a mixture of n drops: its sums -/
theorem mxQM (w : pb_WF A) {sz k N : Nat} {mem C M : Nat → Nat} (hmm : mmI (A 1 0) sz mem) (hli : mlI sz C M (k + 1) sz) (hsum : pb_sum 12 (mxP mem C M (k + 1)) = N) (hN1 : 1 ≤ N) (hN : N ≤ 8) : M k ≤ 8 ∧ ∀ b, b < 8 → 0 < pb_sc A (mxP mem C M (k + 1)) b ∧ pb_dk A (mxP mem C M (k + 1)) b 0 ≤ 999 * pb_sc A (mxP mem C M (k + 1)) b ∧ pb_sc A (mxP mem C M (k + 1)) b < 2 ^ 31 ∧ pb_dk A (mxP mem C M (k + 1)) b 0 < 2 ^ 31 ∧ pb_dk A (mxP mem C M (k + 1)) b 0 = pb_dk A (mxP mem C M k) b 0 + M k * A 7 (8 * mem (C k) + b) ∧ pb_sc A (mxP mem C M (k + 1)) b = pb_sc A (mxP mem C M k) b + M k * A 8 (8 * mem (C k) + b) := by
  have htt := w.tubes
  have hCk : C k < sz := hli.1 k (by omega)
  have hz : mxP mem C M k (mem (C k)) = 0 := mxP_z hmm hCk k (fun i hi => hli.2.1 i k hi (by omega))
  have hT := hmm.2 (C k) hCk
  have hMk : M k ≤ 8 := by
    have := pb_sum_mem (f := mxP mem C M (k + 1)) (show mem (C k) < 12 by omega)
    have e : mxP mem C M (k + 1) (mem (C k)) = M k := pb_un_self _ _ _
    omega
  refine ⟨hMk, fun b hb => ?_⟩
  obtain ⟨r1, r2, r3⟩ := w.rows (P := mxP mem C M (k + 1)) (by omega) (fun t h1 h2 => hli.T hmm h1) hb 0
  rw [hsum] at r1 r2 r3
  exact ⟨by omega, by omega, by omega, by omega, mx_dk hz hT, mx_sc hz hT⟩
set_option maxRecDepth 10000 in
theorem t_sByM (w : pb_WF A) {l s sz k N : Nat} {mem C M G : Nat → Nat} {v0 v1 v2 v3 v4 : Value} (hl : l < 4) (hs : s < 3) (hS : sbM A l sz mem h) (hsz : sz ≤ 12) (ho : h 68 = some (.inr (.inr (5, soM sz k v0 v1 v2 v3 v4)))) (hc : h 304 = some (.inl (0, 4, fun j => nI (C j)))) (ha : h 305 = some (.inl (0, 4, fun j => nI (M j)))) (hmm : mmI (A 1 0) sz mem) (hli : mlI sz C M (k + 1) sz) (hk : k < 4) (hsum : pb_sum 12 (mxP mem C M (k + 1)) = N) (hN1 : 1 ≤ N) (hN : N ≤ 8) (hd : cRow 8 (fun b => pb_dk A (mxP mem C M k) b 0) (h (360 + k))) (hsc : cRow 8 (fun b => pb_sc A (mxP mem C M k) b) (h (364 + k))) (h308 : h 308 = some (.inl (0, 8, fun j => nI (G j)))) (hG : ∀ b, b < 8 → G b = 4294967295 ∨ G b = pb_tl A (mxP mem C M (k + 1)) b) : pb_T Z mX9_bySight 1 0 0 [.ref 68, .ref 62, .int (nI s)] h (fun v h' => v = some (.int (nI (pb_see A l s (pb_tl A (mxP mem C M (k + 1)))))) ∧ (∃ G' : Nat → Nat, h' 308 = some (.inl (0, 8, fun j => nI (G' j))) ∧ ∀ b, b < 8 → G' b = 4294967295 ∨ G' b = pb_tl A (mxP mem C M (k + 1)) b) ∧ ∀ x, x ≠ 308 → h' x = h x) := by
  obtain ⟨hMk, hQ⟩ := mxQM w hmm hli hsum hN1 hN
  have hCk : C k < sz := hli.1 k (by omega)
  obtain ⟨h62, h74, hdr, hsr, hdo, hso, hL, hme, ⟨K, hko, hK⟩, hdi, hsi⟩ := hS
  obtain ⟨D, hd, hD⟩ := hd
  obtain ⟨S, hsc, hSS⟩ := hsc
  obtain ⟨Dr, hdi, hDr⟩ := hdi (C k) hCk
  obtain ⟨Sr, hsi, hSr⟩ := hsi (C k) hCk
  obtain ⟨Wt, hwt, hWt⟩ := hL.1 s hs
  have hD : ∀ b, b < 8 → D b = pb_dk A (mxP mem C M k) b 0 := hD
  have hSS : ∀ b, b < 8 → S b = pb_sc A (mxP mem C M k) b := hSS
  have hDr : ∀ b, b < 8 → Dr b = A 7 (8 * mem (C k) + b) := hDr
  have hSr : ∀ b, b < 8 → Sr b = A 8 (8 * mem (C k) + b) := hSr
  refine pb_T.of pnX9_bySight (Nat.le_of_ble_eq_true rfl) (lv := [some (.ref 68), some (.ref 62), some (.int (nI s)), none, none, none]) rfl ?_
  have loop : ∀ (m b : Nat) (G : Nat → Nat) (h' : pb_H), 8 - b < m → b ≤ 8 → h' 308 = some (.inl (0, 8, fun j => nI (G j))) → (∀ b, b < 8 → G b = 4294967295 ∨ G b = pb_tl A (mxP mem C M (k + 1)) b) → (∀ j, j < b → 0 < pb_wt A l s j → G j = pb_tl A (mxP mem C M (k + 1)) j) → (∀ x, x ≠ 308 → h' x = h x) → pb_S Z mX9_bySight 1 0 0 (fun v h' => v = some (.int (nI (pb_see A l s (pb_tl A (mxP mem C M (k + 1)))))) ∧ (∃ G' : Nat → Nat, h' 308 = some (.inl (0, 8, fun j => nI (G' j))) ∧ ∀ b, b < 8 → G' b = 4294967295 ∨ G' b = pb_tl A (mxP mem C M (k + 1)) b) ∧ ∀ x, x ≠ 308 → h' x = h x) 24 [some (.ref 68), some (.ref 62), some (.int (nI s)), some (.int (nI (M k))), some (.int (nI (C k))), some (.int (nI b))] [] h' := by
    intro m
    induction m with
    | zero => intro b G h' g1; omega
    | succ m ih =>
      intro b G h' g1 g2 h308 hG hGw nb
      have ho : h' 68 = _ := (nb _ (by omega)).trans ho
      have h62 : h' 62 = _ := (nb _ (by omega)).trans h62
      have h74 : h' 74 = _ := (nb _ (by omega)).trans h74
      have hdr : h' 302 = _ := (nb _ (by omega)).trans hdr
      have hsr : h' 303 = _ := (nb _ (by omega)).trans hsr
      have hdo : h' 306 = _ := (nb _ (by omega)).trans hdo
      have hso : h' 307 = _ := (nb _ (by omega)).trans hso
      have hd : h' (360 + k) = _ := (nb _ (by omega)).trans hd
      have hsc : h' (364 + k) = _ := (nb _ (by omega)).trans hsc
      have hdi : h' (320 + C k) = _ := (nb _ (by omega)).trans hdi
      have hsi : h' (340 + C k) = _ := (nb _ (by omega)).trans hsi
      have hwt : h' (87 + s) = _ := (nb _ (by omega)).trans hwt
      have hL' : pb_LT A l h' := hL.up (fun x x1 x2 => nb x (by omega))
      refine pb_iload (pc2 := 26) dX9_bySight_24 rfl rfl ?_
      refine pb_bipush (x := nI 8) (pc2 := 28) dX9_bySight_26 (by decide) rfl ?_
      refine pb_icmpN_ge (tgt := 119) (pc2 := 31) dX9_bySight_28 (by decide) rfl (by omega) (by omega) (fun q => ?_) (fun q => ?_)
      · have e : b = 8 := by omega
        subst e
        refine pb_aload_n (pc2 := 120) dX9_bySight_119 rfl rfl rfl ?_
        refine pb_iload_n (pc2 := 121) dX9_bySight_120 rfl rfl rfl ?_
        refine pb_aload_n (pc2 := 122) dX9_bySight_121 rfl rfl rfl ?_
        refine pb_getf (pc2 := 125) flX9_45_X5 rfl dX9_bySight_122 (by first | assumption | exact hR.a rfl | exact hR.o | exact hC.o | exact hC.pal | exact hC.tub | exact hC.k _ _ rfl | exact hC.pot _ (by omega) | exact hC.are _ (by omega) | exact hC.arl _ (by omega) | exact hC.tbo _ (by omega) (by omega)) rfl rfl ?_
        refine pb_callV (pc2 := 128) (k2 := 0) (n2 := 0) mwX4_bySight pb_cl4.1 iwX4_bySight seX4_bySight rfl mlX9_99 dX9_bySight_125 (by first | assumption | exact hR.a rfl | exact hR.o | exact hC.o | exact hC.pal | exact hC.tub | exact hC.k _ _ rfl | exact hC.pot _ (by omega) | exact hC.are _ (by omega) | exact hC.arl _ (by omega) | exact hC.tbo _ (by omega) (by omega)) (t_bySight2 w h62 h74 hL' hl hs h308 (fun b hb c => by rw [hGw b hb c]; exact pb_thick_le _ _)) (by omega) (by omega) (by omega) rfl rfl (Nat.le_of_ble_eq_true rfl) rfl (pb_kE ?_)
        refine pb_top (v2 := .int (nI (pb_see A l s (pb_tl A (mxP mem C M (k + 1)))))) (by rw [pb_see_w hGw]) ?_
        exact pb_ireturn dX9_bySight_128 rfl (⟨rfl, ⟨G, h308, hG⟩, nb⟩)
      · obtain ⟨Q1, Q2, Q3, Q4, Q5, Q6⟩ := hQ b q
        have htl := pb_thick_le (pb_dk A (mxP mem C M (k + 1)) b 0) (pb_sc A (mxP mem C M (k + 1)) b)
        refine pb_aload_n (pc2 := 32) dX9_bySight_31 rfl rfl rfl ?_
        refine pb_getf (pc2 := 35) flX9_45_X5 rfl dX9_bySight_32 (by first | assumption | exact hR.a rfl | exact hR.o | exact hC.o | exact hC.pal | exact hC.tub | exact hC.k _ _ rfl | exact hC.pot _ (by omega) | exact hC.are _ (by omega) | exact hC.arl _ (by omega) | exact hC.tbo _ (by omega) (by omega)) rfl rfl ?_
        refine pb_iload (pc2 := 37) dX9_bySight_35 rfl rfl ?_
        refine pb_iald (pc2 := 38) (by first | assumption | exact hR.a rfl | exact hR.o | exact hC.o | exact hC.pal | exact hC.tub | exact hC.k _ _ rfl | exact hC.pot _ (by omega) | exact hC.are _ (by omega) | exact hC.arl _ (by omega) | exact hC.tbo _ (by omega) (by omega)) ⟨by decide, rfl⟩ dX9_bySight_37 (by omega) (by omega) rfl ?_
        rcases hG b q with e | e
        · refine pb_top (v2 := .int (nI 4294967295)) (by rw [e]) ?_
          refine pb_ifF_ge (tgt := 113) (pc2 := 41) dX9_bySight_38 (by decide) rfl (by decide) ?_
          refine pb_aload_n (pc2 := 42) dX9_bySight_41 rfl rfl rfl ?_
          refine pb_getf (pc2 := 45) flX9_89_X4 rfl dX9_bySight_42 (by first | assumption | exact hR.a rfl | exact hR.o | exact hC.o | exact hC.pal | exact hC.tub | exact hC.k _ _ rfl | exact hC.pot _ (by omega) | exact hC.are _ (by omega) | exact hC.arl _ (by omega) | exact hC.tbo _ (by omega) (by omega)) rfl rfl ?_
          refine pb_iload_n (pc2 := 46) dX9_bySight_45 rfl rfl rfl ?_
          refine pb_aald (pc2 := 47) (by first | assumption | exact hR.a rfl | exact hR.o | exact hC.o | exact hC.pal | exact hC.tub | exact hC.k _ _ rfl | exact hC.pot _ (by omega) | exact hC.are _ (by omega) | exact hC.arl _ (by omega) | exact hC.tbo _ (by omega) (by omega)) dX9_bySight_46 (by decide) (by omega) (by omega) (cTo_at (by omega)) rfl ?_
          refine pb_iload (pc2 := 49) dX9_bySight_47 rfl rfl ?_
          refine pb_iald (pc2 := 50) (by first | assumption | exact hR.a rfl | exact hR.o | exact hC.o | exact hC.pal | exact hC.tub | exact hC.k _ _ rfl | exact hC.pot _ (by omega) | exact hC.are _ (by omega) | exact hC.arl _ (by omega) | exact hC.tbo _ (by omega) (by omega)) ⟨by decide, rfl⟩ dX9_bySight_49 (by omega) (by omega) rfl ?_
          have hwl := pb_wt_le w hl hs q
          refine pb_top (v2 := .int (nI (pb_wt A l s b))) (by rw [hWt b q]) ?_
          refine pb_ifN_le (tgt := 113) (pc2 := 53) dX9_bySight_50 (by decide) rfl (by omega) (fun c => ?_) (fun c => ?_)
          · refine pb_iincP (c0 := 1) (lv2 := [_, _, _, _, _, _]) (pc2 := 116) dX9_bySight_113 rfl (by decide) rfl rfl ?_
            refine pb_goto (tgt := 24) dX9_bySight_116 (by decide) ?_
            refine ih (b + 1) G h' (by omega) (by omega) h308 hG (fun j hj hw => ?_) nb
            by_cases e2 : j = b
            · rw [e2, c] at hw; omega
            · exact hGw j (by omega) hw
          · refine pb_aload_n (pc2 := 54) dX9_bySight_53 rfl rfl rfl ?_
            refine pb_getf (pc2 := 57) flX9_45_X5 rfl dX9_bySight_54 (by first | assumption | exact hR.a rfl | exact hR.o | exact hC.o | exact hC.pal | exact hC.tub | exact hC.k _ _ rfl | exact hC.pot _ (by omega) | exact hC.are _ (by omega) | exact hC.arl _ (by omega) | exact hC.tbo _ (by omega) (by omega)) rfl rfl ?_
            refine pb_iload (pc2 := 59) dX9_bySight_57 rfl rfl ?_
            refine pb_aload_n (pc2 := 60) dX9_bySight_59 rfl rfl rfl ?_
            refine pb_getf (pc2 := 63) flX9_36_X5 rfl dX9_bySight_60 (by first | assumption | exact hR.a rfl | exact hR.o | exact hC.o | exact hC.pal | exact hC.tub | exact hC.k _ _ rfl | exact hC.pot _ (by omega) | exact hC.are _ (by omega) | exact hC.arl _ (by omega) | exact hC.tbo _ (by omega) (by omega)) rfl rfl ?_
            refine pb_aload_n (pc2 := 64) dX9_bySight_63 rfl rfl rfl ?_
            refine pb_getf (pc2 := 67) flX9_42_X5 rfl dX9_bySight_64 (by first | assumption | exact hR.a rfl | exact hR.o | exact hC.o | exact hC.pal | exact hC.tub | exact hC.k _ _ rfl | exact hC.pot _ (by omega) | exact hC.are _ (by omega) | exact hC.arl _ (by omega) | exact hC.tbo _ (by omega) (by omega)) rfl rfl ?_
            refine pb_aald (pc2 := 68) (by first | assumption | exact hR.a rfl | exact hR.o | exact hC.o | exact hC.pal | exact hC.tub | exact hC.k _ _ rfl | exact hC.pot _ (by omega) | exact hC.are _ (by omega) | exact hC.arl _ (by omega) | exact hC.tbo _ (by omega) (by omega)) dX9_bySight_67 (by decide) (by omega) (by omega) (cTo_at (by omega)) rfl ?_
            refine pb_iload (pc2 := 70) dX9_bySight_68 rfl rfl ?_
            refine pb_iald (pc2 := 71) (by first | assumption | exact hR.a rfl | exact hR.o | exact hC.o | exact hC.pal | exact hC.tub | exact hC.k _ _ rfl | exact hC.pot _ (by omega) | exact hC.are _ (by omega) | exact hC.arl _ (by omega) | exact hC.tbo _ (by omega) (by omega)) ⟨by decide, rfl⟩ dX9_bySight_70 (by omega) (by omega) rfl ?_
            refine pb_iload_n (pc2 := 72) dX9_bySight_71 rfl rfl rfl ?_
            refine pb_aload_n (pc2 := 73) dX9_bySight_72 rfl rfl rfl ?_
            refine pb_getf (pc2 := 76) flX9_20_X5 rfl dX9_bySight_73 (by first | assumption | exact hR.a rfl | exact hR.o | exact hC.o | exact hC.pal | exact hC.tub | exact hC.k _ _ rfl | exact hC.pot _ (by omega) | exact hC.are _ (by omega) | exact hC.arl _ (by omega) | exact hC.tbo _ (by omega) (by omega)) rfl rfl ?_
            refine pb_iload (pc2 := 78) dX9_bySight_76 rfl rfl ?_
            refine pb_aald (pc2 := 79) (by first | assumption | exact hR.a rfl | exact hR.o | exact hC.o | exact hC.pal | exact hC.tub | exact hC.k _ _ rfl | exact hC.pot _ (by omega) | exact hC.are _ (by omega) | exact hC.arl _ (by omega) | exact hC.tbo _ (by omega) (by omega)) dX9_bySight_78 (by decide) (by omega) (by omega) (cTo_at (by omega)) rfl ?_
            refine pb_iload (pc2 := 81) dX9_bySight_79 rfl rfl ?_
            refine pb_iald (pc2 := 82) (by first | assumption | exact hR.a rfl | exact hR.o | exact hC.o | exact hC.pal | exact hC.tub | exact hC.k _ _ rfl | exact hC.pot _ (by omega) | exact hC.are _ (by omega) | exact hC.arl _ (by omega) | exact hC.tbo _ (by omega) (by omega)) ⟨by decide, rfl⟩ dX9_bySight_81 (by omega) (by omega) rfl ?_
            refine pb_imulN (pc2 := 83) dX9_bySight_82 rfl ?_
            refine pb_iaddN (pc2 := 84) dX9_bySight_83 rfl ?_
            refine pb_aload_n (pc2 := 85) dX9_bySight_84 rfl rfl rfl ?_
            refine pb_getf (pc2 := 88) flX9_39_X5 rfl dX9_bySight_85 (by first | assumption | exact hR.a rfl | exact hR.o | exact hC.o | exact hC.pal | exact hC.tub | exact hC.k _ _ rfl | exact hC.pot _ (by omega) | exact hC.are _ (by omega) | exact hC.arl _ (by omega) | exact hC.tbo _ (by omega) (by omega)) rfl rfl ?_
            refine pb_aload_n (pc2 := 89) dX9_bySight_88 rfl rfl rfl ?_
            refine pb_getf (pc2 := 92) flX9_42_X5 rfl dX9_bySight_89 (by first | assumption | exact hR.a rfl | exact hR.o | exact hC.o | exact hC.pal | exact hC.tub | exact hC.k _ _ rfl | exact hC.pot _ (by omega) | exact hC.are _ (by omega) | exact hC.arl _ (by omega) | exact hC.tbo _ (by omega) (by omega)) rfl rfl ?_
            refine pb_aald (pc2 := 93) (by first | assumption | exact hR.a rfl | exact hR.o | exact hC.o | exact hC.pal | exact hC.tub | exact hC.k _ _ rfl | exact hC.pot _ (by omega) | exact hC.are _ (by omega) | exact hC.arl _ (by omega) | exact hC.tbo _ (by omega) (by omega)) dX9_bySight_92 (by decide) (by omega) (by omega) (cTo_at (by omega)) rfl ?_
            refine pb_iload (pc2 := 95) dX9_bySight_93 rfl rfl ?_
            refine pb_iald (pc2 := 96) (by first | assumption | exact hR.a rfl | exact hR.o | exact hC.o | exact hC.pal | exact hC.tub | exact hC.k _ _ rfl | exact hC.pot _ (by omega) | exact hC.are _ (by omega) | exact hC.arl _ (by omega) | exact hC.tbo _ (by omega) (by omega)) ⟨by decide, rfl⟩ dX9_bySight_95 (by omega) (by omega) rfl ?_
            refine pb_iload_n (pc2 := 97) dX9_bySight_96 rfl rfl rfl ?_
            refine pb_aload_n (pc2 := 98) dX9_bySight_97 rfl rfl rfl ?_
            refine pb_getf (pc2 := 101) flX9_23_X5 rfl dX9_bySight_98 (by first | assumption | exact hR.a rfl | exact hR.o | exact hC.o | exact hC.pal | exact hC.tub | exact hC.k _ _ rfl | exact hC.pot _ (by omega) | exact hC.are _ (by omega) | exact hC.arl _ (by omega) | exact hC.tbo _ (by omega) (by omega)) rfl rfl ?_
            refine pb_iload (pc2 := 103) dX9_bySight_101 rfl rfl ?_
            refine pb_aald (pc2 := 104) (by first | assumption | exact hR.a rfl | exact hR.o | exact hC.o | exact hC.pal | exact hC.tub | exact hC.k _ _ rfl | exact hC.pot _ (by omega) | exact hC.are _ (by omega) | exact hC.arl _ (by omega) | exact hC.tbo _ (by omega) (by omega)) dX9_bySight_103 (by decide) (by omega) (by omega) (cTo_at (by omega)) rfl ?_
            refine pb_iload (pc2 := 106) dX9_bySight_104 rfl rfl ?_
            refine pb_iald (pc2 := 107) (by first | assumption | exact hR.a rfl | exact hR.o | exact hC.o | exact hC.pal | exact hC.tub | exact hC.k _ _ rfl | exact hC.pot _ (by omega) | exact hC.are _ (by omega) | exact hC.arl _ (by omega) | exact hC.tbo _ (by omega) (by omega)) ⟨by decide, rfl⟩ dX9_bySight_106 (by omega) (by omega) rfl ?_
            refine pb_imulN (pc2 := 108) dX9_bySight_107 rfl ?_
            refine pb_iaddN (pc2 := 109) dX9_bySight_108 rfl ?_
            rw [hD b q, hSS b q, hDr b q, hSr b q, ← Q5, ← Q6]
            refine pb_callS (pc2 := 112) (k2 := 0) (n2 := 0) mwX7_thickSent swX7_thickSent rfl mlX9_94 dX9_bySight_109 (t_thickSent Q1 Q2 Q3 Q4) (by omega) (by omega) (by omega) rfl rfl (Nat.le_of_ble_eq_true rfl) rfl (pb_kE ?_)
            refine pb_iastG (pc2 := 113) h308 dX9_bySight_112 (by omega) q (by omega) rfl (fun h2 h308 n2 => ?_)
            refine pb_iincP (c0 := 1) (lv2 := [_, _, _, _, _, _]) (pc2 := 116) dX9_bySight_113 rfl (by decide) rfl rfl ?_
            refine pb_goto (tgt := 24) dX9_bySight_116 (by decide) ?_
            refine ih (b + 1) _ h2 (by omega) (by omega) h308 (fun j hj => ?_) (fun j hj hw => ?_) (fun x hx => (n2 x hx).trans (nb x hx))
            · by_cases e2 : j = b
              · rw [e2, pb_un_self]; exact Or.inr rfl
              · rw [pb_un_ne _ _ e2]; exact hG j hj
            · by_cases e2 : j = b
              · rw [e2, pb_un_self]; rfl
              · rw [pb_un_ne _ _ e2]; exact hGw j (by omega) hw
        · refine pb_top (v2 := .int (nI (pb_tl A (mxP mem C M (k + 1)) b))) (by rw [e]) ?_
          refine pb_ifT_ge (tgt := 113) dX9_bySight_38 (by decide) (nI_pos' (Nat.lt_of_le_of_lt htl (by omega))) ?_
          refine pb_iincP (c0 := 1) (lv2 := [_, _, _, _, _, _]) (pc2 := 116) dX9_bySight_113 rfl (by decide) rfl rfl ?_
          refine pb_goto (tgt := 24) dX9_bySight_116 (by decide) ?_
          refine ih (b + 1) G h' (by omega) (by omega) h308 hG (fun j hj hw => ?_) nb
          by_cases e2 : j = b
          · rw [e2]; exact e
          · exact hGw j (by omega) hw
  refine pb_aload_n (pc2 := 1) dX9_bySight_0 rfl rfl rfl ?_
  refine pb_getf (pc2 := 4) flX9_33_X5 rfl dX9_bySight_1 (by first | assumption | exact hR.a rfl | exact hR.o | exact hC.o | exact hC.pal | exact hC.tub | exact hC.k _ _ rfl | exact hC.pot _ (by omega) | exact hC.are _ (by omega) | exact hC.arl _ (by omega) | exact hC.tbo _ (by omega) (by omega)) rfl rfl ?_
  refine pb_aload_n (pc2 := 5) dX9_bySight_4 rfl rfl rfl ?_
  refine pb_getf (pc2 := 8) flX9_42_X5 rfl dX9_bySight_5 (by first | assumption | exact hR.a rfl | exact hR.o | exact hC.o | exact hC.pal | exact hC.tub | exact hC.k _ _ rfl | exact hC.pot _ (by omega) | exact hC.are _ (by omega) | exact hC.arl _ (by omega) | exact hC.tbo _ (by omega) (by omega)) rfl rfl ?_
  refine pb_iald (pc2 := 9) (by first | assumption | exact hR.a rfl | exact hR.o | exact hC.o | exact hC.pal | exact hC.tub | exact hC.k _ _ rfl | exact hC.pot _ (by omega) | exact hC.are _ (by omega) | exact hC.arl _ (by omega) | exact hC.tbo _ (by omega) (by omega)) ⟨by decide, rfl⟩ dX9_bySight_8 (by omega) (by omega) rfl ?_
  refine pb_istore_n (lv2 := [_, _, _, _, _, _]) (pc2 := 10) dX9_bySight_9 rfl (by decide) rfl rfl ?_
  refine pb_aload_n (pc2 := 11) dX9_bySight_10 rfl rfl rfl ?_
  refine pb_getf (pc2 := 14) flX9_30_X5 rfl dX9_bySight_11 (by first | assumption | exact hR.a rfl | exact hR.o | exact hC.o | exact hC.pal | exact hC.tub | exact hC.k _ _ rfl | exact hC.pot _ (by omega) | exact hC.are _ (by omega) | exact hC.arl _ (by omega) | exact hC.tbo _ (by omega) (by omega)) rfl rfl ?_
  refine pb_aload_n (pc2 := 15) dX9_bySight_14 rfl rfl rfl ?_
  refine pb_getf (pc2 := 18) flX9_42_X5 rfl dX9_bySight_15 (by first | assumption | exact hR.a rfl | exact hR.o | exact hC.o | exact hC.pal | exact hC.tub | exact hC.k _ _ rfl | exact hC.pot _ (by omega) | exact hC.are _ (by omega) | exact hC.arl _ (by omega) | exact hC.tbo _ (by omega) (by omega)) rfl rfl ?_
  refine pb_iald (pc2 := 19) (by first | assumption | exact hR.a rfl | exact hR.o | exact hC.o | exact hC.pal | exact hC.tub | exact hC.k _ _ rfl | exact hC.pot _ (by omega) | exact hC.are _ (by omega) | exact hC.arl _ (by omega) | exact hC.tbo _ (by omega) (by omega)) ⟨by decide, rfl⟩ dX9_bySight_18 (by omega) (by omega) rfl ?_
  refine pb_istore (lv2 := [_, _, _, _, _, _]) (pc2 := 21) dX9_bySight_19 (by decide) rfl rfl ?_
  refine pb_iconst (x := nI 0) (pc2 := 22) dX9_bySight_21 (by decide) rfl ?_
  refine pb_istore (lv2 := [_, _, _, _, _, _]) (pc2 := 24) dX9_bySight_22 (by decide) rfl rfl ?_
  exact loop 9 0 G h (by omega) (by omega) h308 hG (fun j hj => by omega) (fun _ _ => rfl)
set_option maxRecDepth 10000 in
theorem t_sumUpM (w : pb_WF A) {l sz k : Nat} {mem C M : Nat → Nat} {v0 v1 v2 v3 v4 : Value} (hS : sbM A l sz mem h) (hsz : sz ≤ 12) {tp : Nat} (ho : h 68 = some (.inr (.inr (5, soM sz tp v0 v1 v2 v3 v4)))) (hc : h 304 = some (.inl (0, 4, fun j => nI (C j)))) (ha : h 305 = some (.inl (0, 4, fun j => nI (M j)))) (hmm : mmI (A 1 0) sz mem) (hli : mlI sz C M (k + 1) sz) (hk : k < 3) (hd : cRow 8 (fun b => pb_dk A (mxP mem C M k) b 0) (h (360 + k))) (hsc : cRow 8 (fun b => pb_sc A (mxP mem C M k) b) (h (364 + k))) (hd1 : cScr 8 (h (360 + (k + 1)))) (hs1 : cScr 8 (h (364 + (k + 1)))) : pb_T Z mX9_sumUp 0 0 0 [.ref 68, .int (nI k)] h (fun v h' => v = none ∧ cRow 8 (fun b => pb_dk A (mxP mem C M (k + 1)) b 0) (h' (360 + (k + 1))) ∧ cRow 8 (fun b => pb_sc A (mxP mem C M (k + 1)) b) (h' (364 + (k + 1))) ∧ ∀ x, x ≠ 360 + (k + 1) → x ≠ 364 + (k + 1) → h' x = h x) := by
  have hCk : C k < sz := hli.1 k (by omega)
  have hz : mxP mem C M k (mem (C k)) = 0 := mxP_z hmm hCk k (fun i hi => hli.2.1 i k hi (by omega))
  have hT := hmm.2 (C k) hCk
  obtain ⟨h62, h74, hdr, hsr, hdo, hso, hL, hme, ⟨K, hko, hK⟩, hdi, hsi⟩ := hS
  obtain ⟨D, hd, hD⟩ := hd
  obtain ⟨S, hsc, hSS⟩ := hsc
  obtain ⟨Dr, hdi, hDr⟩ := hdi (C k) hCk
  obtain ⟨Sr, hsi, hSr⟩ := hsi (C k) hCk
  obtain ⟨D1, hd1⟩ := hd1
  obtain ⟨S1, hs1⟩ := hs1
  have hD : ∀ b, b < 8 → D b = pb_dk A (mxP mem C M k) b 0 := hD
  have hSS : ∀ b, b < 8 → S b = pb_sc A (mxP mem C M k) b := hSS
  have hDr : ∀ b, b < 8 → Dr b = A 7 (8 * mem (C k) + b) := hDr
  have hSr : ∀ b, b < 8 → Sr b = A 8 (8 * mem (C k) + b) := hSr
  refine pb_T.of pnX9_sumUp (Nat.le_of_ble_eq_true rfl) (lv := [some (.ref 68), some (.int (nI k)), none, none, none]) rfl ?_
  have loop : ∀ (m b : Nat) (D1 S1 : Nat → Nat) (h' : pb_H), 8 - b < m → b ≤ 8 → h' (360 + (k + 1)) = some (.inl (0, 8, fun j => nI (D1 j))) → h' (364 + (k + 1)) = some (.inl (0, 8, fun j => nI (S1 j))) → (∀ j, j < b → D1 j = pb_dk A (mxP mem C M (k + 1)) j 0 ∧ S1 j = pb_sc A (mxP mem C M (k + 1)) j) → (∀ x, x ≠ 360 + (k + 1) → x ≠ 364 + (k + 1) → h' x = h x) → pb_S Z mX9_sumUp 0 0 0 (fun v h' => v = none ∧ cRow 8 (fun b => pb_dk A (mxP mem C M (k + 1)) b 0) (h' (360 + (k + 1))) ∧ cRow 8 (fun b => pb_sc A (mxP mem C M (k + 1)) b) (h' (364 + (k + 1))) ∧ ∀ x, x ≠ 360 + (k + 1) → x ≠ 364 + (k + 1) → h' x = h x) 17 [some (.ref 68), some (.int (nI k)), some (.int (nI (M k))), some (.int (nI (C k))), some (.int (nI b))] [] h' := by
    intro m
    induction m with
    | zero => intro b D1 S1 h' g1; omega
    | succ m ih =>
      intro b D1 S1 h' g1 g2 hd1 hs1 hDS nb
      have ho : h' 68 = _ := (nb _ (by omega) (by omega)).trans ho
      have hdr : h' 302 = _ := (nb _ (by omega) (by omega)).trans hdr
      have hsr : h' 303 = _ := (nb _ (by omega) (by omega)).trans hsr
      have hdo : h' 306 = _ := (nb _ (by omega) (by omega)).trans hdo
      have hso : h' 307 = _ := (nb _ (by omega) (by omega)).trans hso
      have hd : h' (360 + k) = _ := (nb _ (by omega) (by omega)).trans hd
      have hsc : h' (364 + k) = _ := (nb _ (by omega) (by omega)).trans hsc
      have hdi : h' (320 + C k) = _ := (nb _ (by omega) (by omega)).trans hdi
      have hsi : h' (340 + C k) = _ := (nb _ (by omega) (by omega)).trans hsi
      refine pb_iload (pc2 := 19) dX9_sumUp_17 rfl rfl ?_
      refine pb_bipush (x := nI 8) (pc2 := 21) dX9_sumUp_19 (by decide) rfl ?_
      refine pb_icmpN_ge (tgt := 94) (pc2 := 24) dX9_sumUp_21 (by decide) rfl (by omega) (by omega) (fun q => ?_) (fun q => ?_)
      · have e : b = 8 := by omega
        subst e
        exact pb_return dX9_sumUp_94 rfl (⟨rfl, ⟨D1, hd1, fun j hj => (hDS j hj).1⟩, ⟨S1, hs1, fun j hj => (hDS j hj).2⟩, nb⟩)
      · have eD : D b + M k * Dr b = pb_dk A (mxP mem C M (k + 1)) b 0 := by
          rw [hD b q, hDr b q]; exact (mx_dk hz hT).symm
        have eS : S b + M k * Sr b = pb_sc A (mxP mem C M (k + 1)) b := by
          rw [hSS b q, hSr b q]; exact (mx_sc hz hT).symm
        refine pb_aload_n (pc2 := 25) dX9_sumUp_24 rfl rfl rfl ?_
        refine pb_getf (pc2 := 28) flX9_36_X5 rfl dX9_sumUp_25 (by first | assumption | exact hR.a rfl | exact hR.o | exact hC.o | exact hC.pal | exact hC.tub | exact hC.k _ _ rfl | exact hC.pot _ (by omega) | exact hC.are _ (by omega) | exact hC.arl _ (by omega) | exact hC.tbo _ (by omega) (by omega)) rfl rfl ?_
        refine pb_iload_n (pc2 := 29) dX9_sumUp_28 rfl rfl rfl ?_
        refine pb_iconst (x := nI 1) (pc2 := 30) dX9_sumUp_29 (by decide) rfl ?_
        refine pb_iaddN (pc2 := 31) dX9_sumUp_30 rfl ?_
        refine pb_aald (pc2 := 32) (by first | assumption | exact hR.a rfl | exact hR.o | exact hC.o | exact hC.pal | exact hC.tub | exact hC.k _ _ rfl | exact hC.pot _ (by omega) | exact hC.are _ (by omega) | exact hC.arl _ (by omega) | exact hC.tbo _ (by omega) (by omega)) dX9_sumUp_31 (by decide) (by omega) (by omega) (cTo_at (by omega)) rfl ?_
        refine pb_iload (pc2 := 34) dX9_sumUp_32 rfl rfl ?_
        refine pb_aload_n (pc2 := 35) dX9_sumUp_34 rfl rfl rfl ?_
        refine pb_getf (pc2 := 38) flX9_36_X5 rfl dX9_sumUp_35 (by first | assumption | exact hR.a rfl | exact hR.o | exact hC.o | exact hC.pal | exact hC.tub | exact hC.k _ _ rfl | exact hC.pot _ (by omega) | exact hC.are _ (by omega) | exact hC.arl _ (by omega) | exact hC.tbo _ (by omega) (by omega)) rfl rfl ?_
        refine pb_iload_n (pc2 := 39) dX9_sumUp_38 rfl rfl rfl ?_
        refine pb_aald (pc2 := 40) (by first | assumption | exact hR.a rfl | exact hR.o | exact hC.o | exact hC.pal | exact hC.tub | exact hC.k _ _ rfl | exact hC.pot _ (by omega) | exact hC.are _ (by omega) | exact hC.arl _ (by omega) | exact hC.tbo _ (by omega) (by omega)) dX9_sumUp_39 (by decide) (by omega) (by omega) (cTo_at (by omega)) rfl ?_
        refine pb_iload (pc2 := 42) dX9_sumUp_40 rfl rfl ?_
        refine pb_iald (pc2 := 43) (by first | assumption | exact hR.a rfl | exact hR.o | exact hC.o | exact hC.pal | exact hC.tub | exact hC.k _ _ rfl | exact hC.pot _ (by omega) | exact hC.are _ (by omega) | exact hC.arl _ (by omega) | exact hC.tbo _ (by omega) (by omega)) ⟨by decide, rfl⟩ dX9_sumUp_42 (by omega) (by omega) rfl ?_
        refine pb_iload_n (pc2 := 44) dX9_sumUp_43 rfl rfl rfl ?_
        refine pb_aload_n (pc2 := 45) dX9_sumUp_44 rfl rfl rfl ?_
        refine pb_getf (pc2 := 48) flX9_20_X5 rfl dX9_sumUp_45 (by first | assumption | exact hR.a rfl | exact hR.o | exact hC.o | exact hC.pal | exact hC.tub | exact hC.k _ _ rfl | exact hC.pot _ (by omega) | exact hC.are _ (by omega) | exact hC.arl _ (by omega) | exact hC.tbo _ (by omega) (by omega)) rfl rfl ?_
        refine pb_iload_n (pc2 := 49) dX9_sumUp_48 rfl rfl rfl ?_
        refine pb_aald (pc2 := 50) (by first | assumption | exact hR.a rfl | exact hR.o | exact hC.o | exact hC.pal | exact hC.tub | exact hC.k _ _ rfl | exact hC.pot _ (by omega) | exact hC.are _ (by omega) | exact hC.arl _ (by omega) | exact hC.tbo _ (by omega) (by omega)) dX9_sumUp_49 (by decide) (by omega) (by omega) (cTo_at (by omega)) rfl ?_
        refine pb_iload (pc2 := 52) dX9_sumUp_50 rfl rfl ?_
        refine pb_iald (pc2 := 53) (by first | assumption | exact hR.a rfl | exact hR.o | exact hC.o | exact hC.pal | exact hC.tub | exact hC.k _ _ rfl | exact hC.pot _ (by omega) | exact hC.are _ (by omega) | exact hC.arl _ (by omega) | exact hC.tbo _ (by omega) (by omega)) ⟨by decide, rfl⟩ dX9_sumUp_52 (by omega) (by omega) rfl ?_
        refine pb_imulN (pc2 := 54) dX9_sumUp_53 rfl ?_
        refine pb_iaddN (pc2 := 55) dX9_sumUp_54 rfl ?_
        refine pb_top (v2 := .int (nI (pb_dk A (mxP mem C M (k + 1)) b 0))) (by rw [eD]) ?_
        refine pb_iastG (pc2 := 56) hd1 dX9_sumUp_55 (by omega) q (by omega) rfl (fun h2 hd1 n2 => ?_)
        have ho := (n2 _ (by omega)).trans ho
        have hsr := (n2 _ (by omega)).trans hsr
        have hso := (n2 _ (by omega)).trans hso
        have hsc := (n2 _ (by omega)).trans hsc
        have hsi := (n2 _ (by omega)).trans hsi
        have hs1 := (n2 _ (by omega)).trans hs1
        refine pb_aload_n (pc2 := 57) dX9_sumUp_56 rfl rfl rfl ?_
        refine pb_getf (pc2 := 60) flX9_39_X5 rfl dX9_sumUp_57 (by first | assumption | exact hR.a rfl | exact hR.o | exact hC.o | exact hC.pal | exact hC.tub | exact hC.k _ _ rfl | exact hC.pot _ (by omega) | exact hC.are _ (by omega) | exact hC.arl _ (by omega) | exact hC.tbo _ (by omega) (by omega)) rfl rfl ?_
        refine pb_iload_n (pc2 := 61) dX9_sumUp_60 rfl rfl rfl ?_
        refine pb_iconst (x := nI 1) (pc2 := 62) dX9_sumUp_61 (by decide) rfl ?_
        refine pb_iaddN (pc2 := 63) dX9_sumUp_62 rfl ?_
        refine pb_aald (pc2 := 64) (by first | assumption | exact hR.a rfl | exact hR.o | exact hC.o | exact hC.pal | exact hC.tub | exact hC.k _ _ rfl | exact hC.pot _ (by omega) | exact hC.are _ (by omega) | exact hC.arl _ (by omega) | exact hC.tbo _ (by omega) (by omega)) dX9_sumUp_63 (by decide) (by omega) (by omega) (cTo_at (by omega)) rfl ?_
        refine pb_iload (pc2 := 66) dX9_sumUp_64 rfl rfl ?_
        refine pb_aload_n (pc2 := 67) dX9_sumUp_66 rfl rfl rfl ?_
        refine pb_getf (pc2 := 70) flX9_39_X5 rfl dX9_sumUp_67 (by first | assumption | exact hR.a rfl | exact hR.o | exact hC.o | exact hC.pal | exact hC.tub | exact hC.k _ _ rfl | exact hC.pot _ (by omega) | exact hC.are _ (by omega) | exact hC.arl _ (by omega) | exact hC.tbo _ (by omega) (by omega)) rfl rfl ?_
        refine pb_iload_n (pc2 := 71) dX9_sumUp_70 rfl rfl rfl ?_
        refine pb_aald (pc2 := 72) (by first | assumption | exact hR.a rfl | exact hR.o | exact hC.o | exact hC.pal | exact hC.tub | exact hC.k _ _ rfl | exact hC.pot _ (by omega) | exact hC.are _ (by omega) | exact hC.arl _ (by omega) | exact hC.tbo _ (by omega) (by omega)) dX9_sumUp_71 (by decide) (by omega) (by omega) (cTo_at (by omega)) rfl ?_
        refine pb_iload (pc2 := 74) dX9_sumUp_72 rfl rfl ?_
        refine pb_iald (pc2 := 75) (by first | assumption | exact hR.a rfl | exact hR.o | exact hC.o | exact hC.pal | exact hC.tub | exact hC.k _ _ rfl | exact hC.pot _ (by omega) | exact hC.are _ (by omega) | exact hC.arl _ (by omega) | exact hC.tbo _ (by omega) (by omega)) ⟨by decide, rfl⟩ dX9_sumUp_74 (by omega) (by omega) rfl ?_
        refine pb_iload_n (pc2 := 76) dX9_sumUp_75 rfl rfl rfl ?_
        refine pb_aload_n (pc2 := 77) dX9_sumUp_76 rfl rfl rfl ?_
        refine pb_getf (pc2 := 80) flX9_23_X5 rfl dX9_sumUp_77 (by first | assumption | exact hR.a rfl | exact hR.o | exact hC.o | exact hC.pal | exact hC.tub | exact hC.k _ _ rfl | exact hC.pot _ (by omega) | exact hC.are _ (by omega) | exact hC.arl _ (by omega) | exact hC.tbo _ (by omega) (by omega)) rfl rfl ?_
        refine pb_iload_n (pc2 := 81) dX9_sumUp_80 rfl rfl rfl ?_
        refine pb_aald (pc2 := 82) (by first | assumption | exact hR.a rfl | exact hR.o | exact hC.o | exact hC.pal | exact hC.tub | exact hC.k _ _ rfl | exact hC.pot _ (by omega) | exact hC.are _ (by omega) | exact hC.arl _ (by omega) | exact hC.tbo _ (by omega) (by omega)) dX9_sumUp_81 (by decide) (by omega) (by omega) (cTo_at (by omega)) rfl ?_
        refine pb_iload (pc2 := 84) dX9_sumUp_82 rfl rfl ?_
        refine pb_iald (pc2 := 85) (by first | assumption | exact hR.a rfl | exact hR.o | exact hC.o | exact hC.pal | exact hC.tub | exact hC.k _ _ rfl | exact hC.pot _ (by omega) | exact hC.are _ (by omega) | exact hC.arl _ (by omega) | exact hC.tbo _ (by omega) (by omega)) ⟨by decide, rfl⟩ dX9_sumUp_84 (by omega) (by omega) rfl ?_
        refine pb_imulN (pc2 := 86) dX9_sumUp_85 rfl ?_
        refine pb_iaddN (pc2 := 87) dX9_sumUp_86 rfl ?_
        refine pb_top (v2 := .int (nI (pb_sc A (mxP mem C M (k + 1)) b))) (by rw [eS]) ?_
        refine pb_iastG (pc2 := 88) hs1 dX9_sumUp_87 (by omega) q (by omega) rfl (fun h3 hs1 n3 => ?_)
        have hd1 := (n3 _ (by omega)).trans hd1
        refine pb_iincP (c0 := 1) (lv2 := [_, _, _, _, _]) (pc2 := 91) dX9_sumUp_88 rfl (by decide) rfl rfl ?_
        refine pb_goto (tgt := 17) dX9_sumUp_91 (by decide) ?_
        refine ih (b + 1) _ _ h3 (by omega) (by omega) hd1 hs1 (fun j hj => ?_) (fun x x1 x2 => (n3 x x2).trans ((n2 x x1).trans (nb x x1 x2)))
        by_cases e : j = b
        · rw [e, pb_un_self, pb_un_self]; exact ⟨rfl, rfl⟩
        · rw [pb_un_ne _ _ e, pb_un_ne _ _ e]; exact hDS j (by omega)
  refine pb_aload_n (pc2 := 1) dX9_sumUp_0 rfl rfl rfl ?_
  refine pb_getf (pc2 := 4) flX9_33_X5 rfl dX9_sumUp_1 (by first | assumption | exact hR.a rfl | exact hR.o | exact hC.o | exact hC.pal | exact hC.tub | exact hC.k _ _ rfl | exact hC.pot _ (by omega) | exact hC.are _ (by omega) | exact hC.arl _ (by omega) | exact hC.tbo _ (by omega) (by omega)) rfl rfl ?_
  refine pb_iload_n (pc2 := 5) dX9_sumUp_4 rfl rfl rfl ?_
  refine pb_iald (pc2 := 6) (by first | assumption | exact hR.a rfl | exact hR.o | exact hC.o | exact hC.pal | exact hC.tub | exact hC.k _ _ rfl | exact hC.pot _ (by omega) | exact hC.are _ (by omega) | exact hC.arl _ (by omega) | exact hC.tbo _ (by omega) (by omega)) ⟨by decide, rfl⟩ dX9_sumUp_5 (by omega) (by omega) rfl ?_
  refine pb_istore_n (lv2 := [_, _, _, _, _]) (pc2 := 7) dX9_sumUp_6 rfl (by decide) rfl rfl ?_
  refine pb_aload_n (pc2 := 8) dX9_sumUp_7 rfl rfl rfl ?_
  refine pb_getf (pc2 := 11) flX9_30_X5 rfl dX9_sumUp_8 (by first | assumption | exact hR.a rfl | exact hR.o | exact hC.o | exact hC.pal | exact hC.tub | exact hC.k _ _ rfl | exact hC.pot _ (by omega) | exact hC.are _ (by omega) | exact hC.arl _ (by omega) | exact hC.tbo _ (by omega) (by omega)) rfl rfl ?_
  refine pb_iload_n (pc2 := 12) dX9_sumUp_11 rfl rfl rfl ?_
  refine pb_iald (pc2 := 13) (by first | assumption | exact hR.a rfl | exact hR.o | exact hC.o | exact hC.pal | exact hC.tub | exact hC.k _ _ rfl | exact hC.pot _ (by omega) | exact hC.are _ (by omega) | exact hC.arl _ (by omega) | exact hC.tbo _ (by omega) (by omega)) ⟨by decide, rfl⟩ dX9_sumUp_12 (by omega) (by omega) rfl ?_
  refine pb_istore_n (lv2 := [_, _, _, _, _]) (pc2 := 14) dX9_sumUp_13 rfl (by decide) rfl rfl ?_
  refine pb_iconst (x := nI 0) (pc2 := 15) dX9_sumUp_14 (by decide) rfl ?_
  refine pb_istore (lv2 := [_, _, _, _, _]) (pc2 := 17) dX9_sumUp_15 (by decide) rfl rfl ?_
  exact loop 9 0 D1 S1 h (by omega) (by omega) hd1 hs1 (fun j hj => by omega) (fun _ _ _ => rfl)
end PB37M
section PB37C
variable {Z : pb_Z} {h h0 : pb_H} {A : pb_A}
def soC (sz tp : Nat) (v0 v1 v2 v3 v4 : Value) : List Value := [.ref 400, .ref 401, .ref 402, .ref 403, .int (nI sz), .ref 404, .ref 405, .ref 406, .ref 407, .int (nI tp), .ref 408, v0, v1, v2, v3, v4]
/-- what a search reads and leaves as it is -/
def sbC (A : pb_A) (l sz : Nat) (mem : Nat → Nat) (h : pb_H) : Prop := h 62 = some (.inr (.inr (4, [.ref 72, .ref 73, .ref 74, .ref 75, .ref 76]))) ∧ h 74 = some (.inr (.inl (4, 3, cTo 87 3))) ∧ h 402 = some (.inr (.inl (4, 12, cTo 420 12))) ∧ h 403 = some (.inr (.inl (4, 12, cTo 440 12))) ∧ h 406 = some (.inr (.inl (4, 4, cTo 460 4))) ∧ h 407 = some (.inr (.inl (4, 4, cTo 464 4))) ∧ pb_LT A l h ∧ h 400 = some (.inl (0, 12, fun j => nI (mem j))) ∧ (∃ K : Nat → Nat, h 401 = some (.inl (0, 12, fun j => nI (K j))) ∧ ∀ i, i < sz → K i = A 2 (mem i)) ∧ (∀ i, i < sz → cRow 8 (fun b => A 7 (8 * mem i + b)) (h (420 + i))) ∧ (∀ i, i < sz → cRow 8 (fun b => A 8 (8 * mem i + b)) (h (440 + i)))
theorem sbC.up {l sz : Nat} {mem : Nat → Nat} {h' : pb_H} (hS : sbC A l sz mem h) (hsz : sz ≤ 12) (nb : ∀ x, x = 62 ∨ (74 ≤ x ∧ x < 90) ∨ (400 ≤ x ∧ x < 404) ∨ x = 406 ∨ x = 407 ∨ (420 ≤ x ∧ x < 452) → h' x = h x) : sbC A l sz mem h' := by
  obtain ⟨h62, h74, hdr, hsr, hdo, hso, hL, hme, ⟨K, hko, hK⟩, hdi, hsi⟩ := hS
  refine ⟨(nb _ (by omega)).trans h62, (nb _ (by omega)).trans h74, (nb _ (by omega)).trans hdr, (nb _ (by omega)).trans hsr, (nb _ (by omega)).trans hdo, (nb _ (by omega)).trans hso, hL.up (fun b b1 b2 => nb b (by omega)), (nb _ (by omega)).trans hme, ⟨K, (nb _ (by omega)).trans hko, hK⟩, fun i hi => ?_, fun i hi => ?_⟩
  · rw [nb _ (by omega)]; exact hdi i hi
  · rw [nb _ (by omega)]; exact hsi i hi
/-- a mixture of n drops: its sums -/
theorem mxQC (w : pb_WF A) {sz k N : Nat} {mem C M : Nat → Nat} (hmm : mmI (A 1 0) sz mem) (hli : mlI sz C M (k + 1) sz) (hsum : pb_sum 12 (mxP mem C M (k + 1)) = N) (hN1 : 1 ≤ N) (hN : N ≤ 8) : M k ≤ 8 ∧ ∀ b, b < 8 → 0 < pb_sc A (mxP mem C M (k + 1)) b ∧ pb_dk A (mxP mem C M (k + 1)) b 0 ≤ 999 * pb_sc A (mxP mem C M (k + 1)) b ∧ pb_sc A (mxP mem C M (k + 1)) b < 2 ^ 31 ∧ pb_dk A (mxP mem C M (k + 1)) b 0 < 2 ^ 31 ∧ pb_dk A (mxP mem C M (k + 1)) b 0 = pb_dk A (mxP mem C M k) b 0 + M k * A 7 (8 * mem (C k) + b) ∧ pb_sc A (mxP mem C M (k + 1)) b = pb_sc A (mxP mem C M k) b + M k * A 8 (8 * mem (C k) + b) := by
  have htt := w.tubes
  have hCk : C k < sz := hli.1 k (by omega)
  have hz : mxP mem C M k (mem (C k)) = 0 := mxP_z hmm hCk k (fun i hi => hli.2.1 i k hi (by omega))
  have hT := hmm.2 (C k) hCk
  have hMk : M k ≤ 8 := by
    have := pb_sum_mem (f := mxP mem C M (k + 1)) (show mem (C k) < 12 by omega)
    have e : mxP mem C M (k + 1) (mem (C k)) = M k := pb_un_self _ _ _
    omega
  refine ⟨hMk, fun b hb => ?_⟩
  obtain ⟨r1, r2, r3⟩ := w.rows (P := mxP mem C M (k + 1)) (by omega) (fun t h1 h2 => hli.T hmm h1) hb 0
  rw [hsum] at r1 r2 r3
  exact ⟨by omega, by omega, by omega, by omega, mx_dk hz hT, mx_sc hz hT⟩
set_option maxRecDepth 10000 in
theorem t_sByC (w : pb_WF A) {l s sz k N : Nat} {mem C M G : Nat → Nat} {v0 v1 v2 v3 v4 : Value} (hl : l < 4) (hs : s < 3) (hS : sbC A l sz mem h) (hsz : sz ≤ 12) (ho : h 69 = some (.inr (.inr (1, soC sz k v0 v1 v2 v3 v4)))) (hc : h 404 = some (.inl (0, 4, fun j => nI (C j)))) (ha : h 405 = some (.inl (0, 4, fun j => nI (M j)))) (hmm : mmI (A 1 0) sz mem) (hli : mlI sz C M (k + 1) sz) (hk : k < 4) (hsum : pb_sum 12 (mxP mem C M (k + 1)) = N) (hN1 : 1 ≤ N) (hN : N ≤ 8) (hd : cRow 8 (fun b => pb_dk A (mxP mem C M k) b 0) (h (460 + k))) (hsc : cRow 8 (fun b => pb_sc A (mxP mem C M k) b) (h (464 + k))) (h308 : h 408 = some (.inl (0, 8, fun j => nI (G j)))) (hG : ∀ b, b < 8 → G b = 4294967295 ∨ G b = pb_tl A (mxP mem C M (k + 1)) b) : pb_T Z mX9_bySight 1 0 0 [.ref 69, .ref 62, .int (nI s)] h (fun v h' => v = some (.int (nI (pb_see A l s (pb_tl A (mxP mem C M (k + 1)))))) ∧ (∃ G' : Nat → Nat, h' 408 = some (.inl (0, 8, fun j => nI (G' j))) ∧ ∀ b, b < 8 → G' b = 4294967295 ∨ G' b = pb_tl A (mxP mem C M (k + 1)) b) ∧ ∀ x, x ≠ 408 → h' x = h x) := by
  obtain ⟨hMk, hQ⟩ := mxQC w hmm hli hsum hN1 hN
  have hCk : C k < sz := hli.1 k (by omega)
  obtain ⟨h62, h74, hdr, hsr, hdo, hso, hL, hme, ⟨K, hko, hK⟩, hdi, hsi⟩ := hS
  obtain ⟨D, hd, hD⟩ := hd
  obtain ⟨S, hsc, hSS⟩ := hsc
  obtain ⟨Dr, hdi, hDr⟩ := hdi (C k) hCk
  obtain ⟨Sr, hsi, hSr⟩ := hsi (C k) hCk
  obtain ⟨Wt, hwt, hWt⟩ := hL.1 s hs
  have hD : ∀ b, b < 8 → D b = pb_dk A (mxP mem C M k) b 0 := hD
  have hSS : ∀ b, b < 8 → S b = pb_sc A (mxP mem C M k) b := hSS
  have hDr : ∀ b, b < 8 → Dr b = A 7 (8 * mem (C k) + b) := hDr
  have hSr : ∀ b, b < 8 → Sr b = A 8 (8 * mem (C k) + b) := hSr
  refine pb_T.of pnX9_bySight (Nat.le_of_ble_eq_true rfl) (lv := [some (.ref 69), some (.ref 62), some (.int (nI s)), none, none, none]) rfl ?_
  have loop : ∀ (m b : Nat) (G : Nat → Nat) (h' : pb_H), 8 - b < m → b ≤ 8 → h' 408 = some (.inl (0, 8, fun j => nI (G j))) → (∀ b, b < 8 → G b = 4294967295 ∨ G b = pb_tl A (mxP mem C M (k + 1)) b) → (∀ j, j < b → 0 < pb_wt A l s j → G j = pb_tl A (mxP mem C M (k + 1)) j) → (∀ x, x ≠ 408 → h' x = h x) → pb_S Z mX9_bySight 1 0 0 (fun v h' => v = some (.int (nI (pb_see A l s (pb_tl A (mxP mem C M (k + 1)))))) ∧ (∃ G' : Nat → Nat, h' 408 = some (.inl (0, 8, fun j => nI (G' j))) ∧ ∀ b, b < 8 → G' b = 4294967295 ∨ G' b = pb_tl A (mxP mem C M (k + 1)) b) ∧ ∀ x, x ≠ 408 → h' x = h x) 24 [some (.ref 69), some (.ref 62), some (.int (nI s)), some (.int (nI (M k))), some (.int (nI (C k))), some (.int (nI b))] [] h' := by
    intro m
    induction m with
    | zero => intro b G h' g1; omega
    | succ m ih =>
      intro b G h' g1 g2 h308 hG hGw nb
      have ho : h' 69 = _ := (nb _ (by omega)).trans ho
      have h62 : h' 62 = _ := (nb _ (by omega)).trans h62
      have h74 : h' 74 = _ := (nb _ (by omega)).trans h74
      have hdr : h' 402 = _ := (nb _ (by omega)).trans hdr
      have hsr : h' 403 = _ := (nb _ (by omega)).trans hsr
      have hdo : h' 406 = _ := (nb _ (by omega)).trans hdo
      have hso : h' 407 = _ := (nb _ (by omega)).trans hso
      have hd : h' (460 + k) = _ := (nb _ (by omega)).trans hd
      have hsc : h' (464 + k) = _ := (nb _ (by omega)).trans hsc
      have hdi : h' (420 + C k) = _ := (nb _ (by omega)).trans hdi
      have hsi : h' (440 + C k) = _ := (nb _ (by omega)).trans hsi
      have hwt : h' (87 + s) = _ := (nb _ (by omega)).trans hwt
      have hL' : pb_LT A l h' := hL.up (fun x x1 x2 => nb x (by omega))
      refine pb_iload (pc2 := 26) dX9_bySight_24 rfl rfl ?_
      refine pb_bipush (x := nI 8) (pc2 := 28) dX9_bySight_26 (by decide) rfl ?_
      refine pb_icmpN_ge (tgt := 119) (pc2 := 31) dX9_bySight_28 (by decide) rfl (by omega) (by omega) (fun q => ?_) (fun q => ?_)
      · have e : b = 8 := by omega
        subst e
        refine pb_aload_n (pc2 := 120) dX9_bySight_119 rfl rfl rfl ?_
        refine pb_iload_n (pc2 := 121) dX9_bySight_120 rfl rfl rfl ?_
        refine pb_aload_n (pc2 := 122) dX9_bySight_121 rfl rfl rfl ?_
        refine pb_getf (pc2 := 125) flX9_45_X1 rfl dX9_bySight_122 (by first | assumption | exact hR.a rfl | exact hR.o | exact hC.o | exact hC.pal | exact hC.tub | exact hC.k _ _ rfl | exact hC.pot _ (by omega) | exact hC.are _ (by omega) | exact hC.arl _ (by omega) | exact hC.tbo _ (by omega) (by omega)) rfl rfl ?_
        refine pb_callV (pc2 := 128) (k2 := 0) (n2 := 0) mwX4_bySight pb_cl4.1 iwX4_bySight seX4_bySight rfl mlX9_99 dX9_bySight_125 (by first | assumption | exact hR.a rfl | exact hR.o | exact hC.o | exact hC.pal | exact hC.tub | exact hC.k _ _ rfl | exact hC.pot _ (by omega) | exact hC.are _ (by omega) | exact hC.arl _ (by omega) | exact hC.tbo _ (by omega) (by omega)) (t_bySight2 w h62 h74 hL' hl hs h308 (fun b hb c => by rw [hGw b hb c]; exact pb_thick_le _ _)) (by omega) (by omega) (by omega) rfl rfl (Nat.le_of_ble_eq_true rfl) rfl (pb_kE ?_)
        refine pb_top (v2 := .int (nI (pb_see A l s (pb_tl A (mxP mem C M (k + 1)))))) (by rw [pb_see_w hGw]) ?_
        exact pb_ireturn dX9_bySight_128 rfl (⟨rfl, ⟨G, h308, hG⟩, nb⟩)
      · obtain ⟨Q1, Q2, Q3, Q4, Q5, Q6⟩ := hQ b q
        have htl := pb_thick_le (pb_dk A (mxP mem C M (k + 1)) b 0) (pb_sc A (mxP mem C M (k + 1)) b)
        refine pb_aload_n (pc2 := 32) dX9_bySight_31 rfl rfl rfl ?_
        refine pb_getf (pc2 := 35) flX9_45_X1 rfl dX9_bySight_32 (by first | assumption | exact hR.a rfl | exact hR.o | exact hC.o | exact hC.pal | exact hC.tub | exact hC.k _ _ rfl | exact hC.pot _ (by omega) | exact hC.are _ (by omega) | exact hC.arl _ (by omega) | exact hC.tbo _ (by omega) (by omega)) rfl rfl ?_
        refine pb_iload (pc2 := 37) dX9_bySight_35 rfl rfl ?_
        refine pb_iald (pc2 := 38) (by first | assumption | exact hR.a rfl | exact hR.o | exact hC.o | exact hC.pal | exact hC.tub | exact hC.k _ _ rfl | exact hC.pot _ (by omega) | exact hC.are _ (by omega) | exact hC.arl _ (by omega) | exact hC.tbo _ (by omega) (by omega)) ⟨by decide, rfl⟩ dX9_bySight_37 (by omega) (by omega) rfl ?_
        rcases hG b q with e | e
        · refine pb_top (v2 := .int (nI 4294967295)) (by rw [e]) ?_
          refine pb_ifF_ge (tgt := 113) (pc2 := 41) dX9_bySight_38 (by decide) rfl (by decide) ?_
          refine pb_aload_n (pc2 := 42) dX9_bySight_41 rfl rfl rfl ?_
          refine pb_getf (pc2 := 45) flX9_89_X4 rfl dX9_bySight_42 (by first | assumption | exact hR.a rfl | exact hR.o | exact hC.o | exact hC.pal | exact hC.tub | exact hC.k _ _ rfl | exact hC.pot _ (by omega) | exact hC.are _ (by omega) | exact hC.arl _ (by omega) | exact hC.tbo _ (by omega) (by omega)) rfl rfl ?_
          refine pb_iload_n (pc2 := 46) dX9_bySight_45 rfl rfl rfl ?_
          refine pb_aald (pc2 := 47) (by first | assumption | exact hR.a rfl | exact hR.o | exact hC.o | exact hC.pal | exact hC.tub | exact hC.k _ _ rfl | exact hC.pot _ (by omega) | exact hC.are _ (by omega) | exact hC.arl _ (by omega) | exact hC.tbo _ (by omega) (by omega)) dX9_bySight_46 (by decide) (by omega) (by omega) (cTo_at (by omega)) rfl ?_
          refine pb_iload (pc2 := 49) dX9_bySight_47 rfl rfl ?_
          refine pb_iald (pc2 := 50) (by first | assumption | exact hR.a rfl | exact hR.o | exact hC.o | exact hC.pal | exact hC.tub | exact hC.k _ _ rfl | exact hC.pot _ (by omega) | exact hC.are _ (by omega) | exact hC.arl _ (by omega) | exact hC.tbo _ (by omega) (by omega)) ⟨by decide, rfl⟩ dX9_bySight_49 (by omega) (by omega) rfl ?_
          have hwl := pb_wt_le w hl hs q
          refine pb_top (v2 := .int (nI (pb_wt A l s b))) (by rw [hWt b q]) ?_
          refine pb_ifN_le (tgt := 113) (pc2 := 53) dX9_bySight_50 (by decide) rfl (by omega) (fun c => ?_) (fun c => ?_)
          · refine pb_iincP (c0 := 1) (lv2 := [_, _, _, _, _, _]) (pc2 := 116) dX9_bySight_113 rfl (by decide) rfl rfl ?_
            refine pb_goto (tgt := 24) dX9_bySight_116 (by decide) ?_
            refine ih (b + 1) G h' (by omega) (by omega) h308 hG (fun j hj hw => ?_) nb
            by_cases e2 : j = b
            · rw [e2, c] at hw; omega
            · exact hGw j (by omega) hw
          · refine pb_aload_n (pc2 := 54) dX9_bySight_53 rfl rfl rfl ?_
            refine pb_getf (pc2 := 57) flX9_45_X1 rfl dX9_bySight_54 (by first | assumption | exact hR.a rfl | exact hR.o | exact hC.o | exact hC.pal | exact hC.tub | exact hC.k _ _ rfl | exact hC.pot _ (by omega) | exact hC.are _ (by omega) | exact hC.arl _ (by omega) | exact hC.tbo _ (by omega) (by omega)) rfl rfl ?_
            refine pb_iload (pc2 := 59) dX9_bySight_57 rfl rfl ?_
            refine pb_aload_n (pc2 := 60) dX9_bySight_59 rfl rfl rfl ?_
            refine pb_getf (pc2 := 63) flX9_36_X1 rfl dX9_bySight_60 (by first | assumption | exact hR.a rfl | exact hR.o | exact hC.o | exact hC.pal | exact hC.tub | exact hC.k _ _ rfl | exact hC.pot _ (by omega) | exact hC.are _ (by omega) | exact hC.arl _ (by omega) | exact hC.tbo _ (by omega) (by omega)) rfl rfl ?_
            refine pb_aload_n (pc2 := 64) dX9_bySight_63 rfl rfl rfl ?_
            refine pb_getf (pc2 := 67) flX9_42_X1 rfl dX9_bySight_64 (by first | assumption | exact hR.a rfl | exact hR.o | exact hC.o | exact hC.pal | exact hC.tub | exact hC.k _ _ rfl | exact hC.pot _ (by omega) | exact hC.are _ (by omega) | exact hC.arl _ (by omega) | exact hC.tbo _ (by omega) (by omega)) rfl rfl ?_
            refine pb_aald (pc2 := 68) (by first | assumption | exact hR.a rfl | exact hR.o | exact hC.o | exact hC.pal | exact hC.tub | exact hC.k _ _ rfl | exact hC.pot _ (by omega) | exact hC.are _ (by omega) | exact hC.arl _ (by omega) | exact hC.tbo _ (by omega) (by omega)) dX9_bySight_67 (by decide) (by omega) (by omega) (cTo_at (by omega)) rfl ?_
            refine pb_iload (pc2 := 70) dX9_bySight_68 rfl rfl ?_
            refine pb_iald (pc2 := 71) (by first | assumption | exact hR.a rfl | exact hR.o | exact hC.o | exact hC.pal | exact hC.tub | exact hC.k _ _ rfl | exact hC.pot _ (by omega) | exact hC.are _ (by omega) | exact hC.arl _ (by omega) | exact hC.tbo _ (by omega) (by omega)) ⟨by decide, rfl⟩ dX9_bySight_70 (by omega) (by omega) rfl ?_
            refine pb_iload_n (pc2 := 72) dX9_bySight_71 rfl rfl rfl ?_
            refine pb_aload_n (pc2 := 73) dX9_bySight_72 rfl rfl rfl ?_
            refine pb_getf (pc2 := 76) flX9_20_X1 rfl dX9_bySight_73 (by first | assumption | exact hR.a rfl | exact hR.o | exact hC.o | exact hC.pal | exact hC.tub | exact hC.k _ _ rfl | exact hC.pot _ (by omega) | exact hC.are _ (by omega) | exact hC.arl _ (by omega) | exact hC.tbo _ (by omega) (by omega)) rfl rfl ?_
            refine pb_iload (pc2 := 78) dX9_bySight_76 rfl rfl ?_
            refine pb_aald (pc2 := 79) (by first | assumption | exact hR.a rfl | exact hR.o | exact hC.o | exact hC.pal | exact hC.tub | exact hC.k _ _ rfl | exact hC.pot _ (by omega) | exact hC.are _ (by omega) | exact hC.arl _ (by omega) | exact hC.tbo _ (by omega) (by omega)) dX9_bySight_78 (by decide) (by omega) (by omega) (cTo_at (by omega)) rfl ?_
            refine pb_iload (pc2 := 81) dX9_bySight_79 rfl rfl ?_
            refine pb_iald (pc2 := 82) (by first | assumption | exact hR.a rfl | exact hR.o | exact hC.o | exact hC.pal | exact hC.tub | exact hC.k _ _ rfl | exact hC.pot _ (by omega) | exact hC.are _ (by omega) | exact hC.arl _ (by omega) | exact hC.tbo _ (by omega) (by omega)) ⟨by decide, rfl⟩ dX9_bySight_81 (by omega) (by omega) rfl ?_
            refine pb_imulN (pc2 := 83) dX9_bySight_82 rfl ?_
            refine pb_iaddN (pc2 := 84) dX9_bySight_83 rfl ?_
            refine pb_aload_n (pc2 := 85) dX9_bySight_84 rfl rfl rfl ?_
            refine pb_getf (pc2 := 88) flX9_39_X1 rfl dX9_bySight_85 (by first | assumption | exact hR.a rfl | exact hR.o | exact hC.o | exact hC.pal | exact hC.tub | exact hC.k _ _ rfl | exact hC.pot _ (by omega) | exact hC.are _ (by omega) | exact hC.arl _ (by omega) | exact hC.tbo _ (by omega) (by omega)) rfl rfl ?_
            refine pb_aload_n (pc2 := 89) dX9_bySight_88 rfl rfl rfl ?_
            refine pb_getf (pc2 := 92) flX9_42_X1 rfl dX9_bySight_89 (by first | assumption | exact hR.a rfl | exact hR.o | exact hC.o | exact hC.pal | exact hC.tub | exact hC.k _ _ rfl | exact hC.pot _ (by omega) | exact hC.are _ (by omega) | exact hC.arl _ (by omega) | exact hC.tbo _ (by omega) (by omega)) rfl rfl ?_
            refine pb_aald (pc2 := 93) (by first | assumption | exact hR.a rfl | exact hR.o | exact hC.o | exact hC.pal | exact hC.tub | exact hC.k _ _ rfl | exact hC.pot _ (by omega) | exact hC.are _ (by omega) | exact hC.arl _ (by omega) | exact hC.tbo _ (by omega) (by omega)) dX9_bySight_92 (by decide) (by omega) (by omega) (cTo_at (by omega)) rfl ?_
            refine pb_iload (pc2 := 95) dX9_bySight_93 rfl rfl ?_
            refine pb_iald (pc2 := 96) (by first | assumption | exact hR.a rfl | exact hR.o | exact hC.o | exact hC.pal | exact hC.tub | exact hC.k _ _ rfl | exact hC.pot _ (by omega) | exact hC.are _ (by omega) | exact hC.arl _ (by omega) | exact hC.tbo _ (by omega) (by omega)) ⟨by decide, rfl⟩ dX9_bySight_95 (by omega) (by omega) rfl ?_
            refine pb_iload_n (pc2 := 97) dX9_bySight_96 rfl rfl rfl ?_
            refine pb_aload_n (pc2 := 98) dX9_bySight_97 rfl rfl rfl ?_
            refine pb_getf (pc2 := 101) flX9_23_X1 rfl dX9_bySight_98 (by first | assumption | exact hR.a rfl | exact hR.o | exact hC.o | exact hC.pal | exact hC.tub | exact hC.k _ _ rfl | exact hC.pot _ (by omega) | exact hC.are _ (by omega) | exact hC.arl _ (by omega) | exact hC.tbo _ (by omega) (by omega)) rfl rfl ?_
            refine pb_iload (pc2 := 103) dX9_bySight_101 rfl rfl ?_
            refine pb_aald (pc2 := 104) (by first | assumption | exact hR.a rfl | exact hR.o | exact hC.o | exact hC.pal | exact hC.tub | exact hC.k _ _ rfl | exact hC.pot _ (by omega) | exact hC.are _ (by omega) | exact hC.arl _ (by omega) | exact hC.tbo _ (by omega) (by omega)) dX9_bySight_103 (by decide) (by omega) (by omega) (cTo_at (by omega)) rfl ?_
            refine pb_iload (pc2 := 106) dX9_bySight_104 rfl rfl ?_
            refine pb_iald (pc2 := 107) (by first | assumption | exact hR.a rfl | exact hR.o | exact hC.o | exact hC.pal | exact hC.tub | exact hC.k _ _ rfl | exact hC.pot _ (by omega) | exact hC.are _ (by omega) | exact hC.arl _ (by omega) | exact hC.tbo _ (by omega) (by omega)) ⟨by decide, rfl⟩ dX9_bySight_106 (by omega) (by omega) rfl ?_
            refine pb_imulN (pc2 := 108) dX9_bySight_107 rfl ?_
            refine pb_iaddN (pc2 := 109) dX9_bySight_108 rfl ?_
            rw [hD b q, hSS b q, hDr b q, hSr b q, ← Q5, ← Q6]
            refine pb_callS (pc2 := 112) (k2 := 0) (n2 := 0) mwX7_thickSent swX7_thickSent rfl mlX9_94 dX9_bySight_109 (t_thickSent Q1 Q2 Q3 Q4) (by omega) (by omega) (by omega) rfl rfl (Nat.le_of_ble_eq_true rfl) rfl (pb_kE ?_)
            refine pb_iastG (pc2 := 113) h308 dX9_bySight_112 (by omega) q (by omega) rfl (fun h2 h308 n2 => ?_)
            refine pb_iincP (c0 := 1) (lv2 := [_, _, _, _, _, _]) (pc2 := 116) dX9_bySight_113 rfl (by decide) rfl rfl ?_
            refine pb_goto (tgt := 24) dX9_bySight_116 (by decide) ?_
            refine ih (b + 1) _ h2 (by omega) (by omega) h308 (fun j hj => ?_) (fun j hj hw => ?_) (fun x hx => (n2 x hx).trans (nb x hx))
            · by_cases e2 : j = b
              · rw [e2, pb_un_self]; exact Or.inr rfl
              · rw [pb_un_ne _ _ e2]; exact hG j hj
            · by_cases e2 : j = b
              · rw [e2, pb_un_self]; rfl
              · rw [pb_un_ne _ _ e2]; exact hGw j (by omega) hw
        · refine pb_top (v2 := .int (nI (pb_tl A (mxP mem C M (k + 1)) b))) (by rw [e]) ?_
          refine pb_ifT_ge (tgt := 113) dX9_bySight_38 (by decide) (nI_pos' (Nat.lt_of_le_of_lt htl (by omega))) ?_
          refine pb_iincP (c0 := 1) (lv2 := [_, _, _, _, _, _]) (pc2 := 116) dX9_bySight_113 rfl (by decide) rfl rfl ?_
          refine pb_goto (tgt := 24) dX9_bySight_116 (by decide) ?_
          refine ih (b + 1) G h' (by omega) (by omega) h308 hG (fun j hj hw => ?_) nb
          by_cases e2 : j = b
          · rw [e2]; exact e
          · exact hGw j (by omega) hw
  refine pb_aload_n (pc2 := 1) dX9_bySight_0 rfl rfl rfl ?_
  refine pb_getf (pc2 := 4) flX9_33_X1 rfl dX9_bySight_1 (by first | assumption | exact hR.a rfl | exact hR.o | exact hC.o | exact hC.pal | exact hC.tub | exact hC.k _ _ rfl | exact hC.pot _ (by omega) | exact hC.are _ (by omega) | exact hC.arl _ (by omega) | exact hC.tbo _ (by omega) (by omega)) rfl rfl ?_
  refine pb_aload_n (pc2 := 5) dX9_bySight_4 rfl rfl rfl ?_
  refine pb_getf (pc2 := 8) flX9_42_X1 rfl dX9_bySight_5 (by first | assumption | exact hR.a rfl | exact hR.o | exact hC.o | exact hC.pal | exact hC.tub | exact hC.k _ _ rfl | exact hC.pot _ (by omega) | exact hC.are _ (by omega) | exact hC.arl _ (by omega) | exact hC.tbo _ (by omega) (by omega)) rfl rfl ?_
  refine pb_iald (pc2 := 9) (by first | assumption | exact hR.a rfl | exact hR.o | exact hC.o | exact hC.pal | exact hC.tub | exact hC.k _ _ rfl | exact hC.pot _ (by omega) | exact hC.are _ (by omega) | exact hC.arl _ (by omega) | exact hC.tbo _ (by omega) (by omega)) ⟨by decide, rfl⟩ dX9_bySight_8 (by omega) (by omega) rfl ?_
  refine pb_istore_n (lv2 := [_, _, _, _, _, _]) (pc2 := 10) dX9_bySight_9 rfl (by decide) rfl rfl ?_
  refine pb_aload_n (pc2 := 11) dX9_bySight_10 rfl rfl rfl ?_
  refine pb_getf (pc2 := 14) flX9_30_X1 rfl dX9_bySight_11 (by first | assumption | exact hR.a rfl | exact hR.o | exact hC.o | exact hC.pal | exact hC.tub | exact hC.k _ _ rfl | exact hC.pot _ (by omega) | exact hC.are _ (by omega) | exact hC.arl _ (by omega) | exact hC.tbo _ (by omega) (by omega)) rfl rfl ?_
  refine pb_aload_n (pc2 := 15) dX9_bySight_14 rfl rfl rfl ?_
  refine pb_getf (pc2 := 18) flX9_42_X1 rfl dX9_bySight_15 (by first | assumption | exact hR.a rfl | exact hR.o | exact hC.o | exact hC.pal | exact hC.tub | exact hC.k _ _ rfl | exact hC.pot _ (by omega) | exact hC.are _ (by omega) | exact hC.arl _ (by omega) | exact hC.tbo _ (by omega) (by omega)) rfl rfl ?_
  refine pb_iald (pc2 := 19) (by first | assumption | exact hR.a rfl | exact hR.o | exact hC.o | exact hC.pal | exact hC.tub | exact hC.k _ _ rfl | exact hC.pot _ (by omega) | exact hC.are _ (by omega) | exact hC.arl _ (by omega) | exact hC.tbo _ (by omega) (by omega)) ⟨by decide, rfl⟩ dX9_bySight_18 (by omega) (by omega) rfl ?_
  refine pb_istore (lv2 := [_, _, _, _, _, _]) (pc2 := 21) dX9_bySight_19 (by decide) rfl rfl ?_
  refine pb_iconst (x := nI 0) (pc2 := 22) dX9_bySight_21 (by decide) rfl ?_
  refine pb_istore (lv2 := [_, _, _, _, _, _]) (pc2 := 24) dX9_bySight_22 (by decide) rfl rfl ?_
  exact loop 9 0 G h (by omega) (by omega) h308 hG (fun j hj => by omega) (fun _ _ => rfl)
set_option maxRecDepth 10000 in
theorem t_sumUpC (w : pb_WF A) {l sz k : Nat} {mem C M : Nat → Nat} {v0 v1 v2 v3 v4 : Value} (hS : sbC A l sz mem h) (hsz : sz ≤ 12) {tp : Nat} (ho : h 69 = some (.inr (.inr (1, soC sz tp v0 v1 v2 v3 v4)))) (hc : h 404 = some (.inl (0, 4, fun j => nI (C j)))) (ha : h 405 = some (.inl (0, 4, fun j => nI (M j)))) (hmm : mmI (A 1 0) sz mem) (hli : mlI sz C M (k + 1) sz) (hk : k < 3) (hd : cRow 8 (fun b => pb_dk A (mxP mem C M k) b 0) (h (460 + k))) (hsc : cRow 8 (fun b => pb_sc A (mxP mem C M k) b) (h (464 + k))) (hd1 : cScr 8 (h (460 + (k + 1)))) (hs1 : cScr 8 (h (464 + (k + 1)))) : pb_T Z mX9_sumUp 0 0 0 [.ref 69, .int (nI k)] h (fun v h' => v = none ∧ cRow 8 (fun b => pb_dk A (mxP mem C M (k + 1)) b 0) (h' (460 + (k + 1))) ∧ cRow 8 (fun b => pb_sc A (mxP mem C M (k + 1)) b) (h' (464 + (k + 1))) ∧ ∀ x, x ≠ 460 + (k + 1) → x ≠ 464 + (k + 1) → h' x = h x) := by
  have hCk : C k < sz := hli.1 k (by omega)
  have hz : mxP mem C M k (mem (C k)) = 0 := mxP_z hmm hCk k (fun i hi => hli.2.1 i k hi (by omega))
  have hT := hmm.2 (C k) hCk
  obtain ⟨h62, h74, hdr, hsr, hdo, hso, hL, hme, ⟨K, hko, hK⟩, hdi, hsi⟩ := hS
  obtain ⟨D, hd, hD⟩ := hd
  obtain ⟨S, hsc, hSS⟩ := hsc
  obtain ⟨Dr, hdi, hDr⟩ := hdi (C k) hCk
  obtain ⟨Sr, hsi, hSr⟩ := hsi (C k) hCk
  obtain ⟨D1, hd1⟩ := hd1
  obtain ⟨S1, hs1⟩ := hs1
  have hD : ∀ b, b < 8 → D b = pb_dk A (mxP mem C M k) b 0 := hD
  have hSS : ∀ b, b < 8 → S b = pb_sc A (mxP mem C M k) b := hSS
  have hDr : ∀ b, b < 8 → Dr b = A 7 (8 * mem (C k) + b) := hDr
  have hSr : ∀ b, b < 8 → Sr b = A 8 (8 * mem (C k) + b) := hSr
  refine pb_T.of pnX9_sumUp (Nat.le_of_ble_eq_true rfl) (lv := [some (.ref 69), some (.int (nI k)), none, none, none]) rfl ?_
  have loop : ∀ (m b : Nat) (D1 S1 : Nat → Nat) (h' : pb_H), 8 - b < m → b ≤ 8 → h' (460 + (k + 1)) = some (.inl (0, 8, fun j => nI (D1 j))) → h' (464 + (k + 1)) = some (.inl (0, 8, fun j => nI (S1 j))) → (∀ j, j < b → D1 j = pb_dk A (mxP mem C M (k + 1)) j 0 ∧ S1 j = pb_sc A (mxP mem C M (k + 1)) j) → (∀ x, x ≠ 460 + (k + 1) → x ≠ 464 + (k + 1) → h' x = h x) → pb_S Z mX9_sumUp 0 0 0 (fun v h' => v = none ∧ cRow 8 (fun b => pb_dk A (mxP mem C M (k + 1)) b 0) (h' (460 + (k + 1))) ∧ cRow 8 (fun b => pb_sc A (mxP mem C M (k + 1)) b) (h' (464 + (k + 1))) ∧ ∀ x, x ≠ 460 + (k + 1) → x ≠ 464 + (k + 1) → h' x = h x) 17 [some (.ref 69), some (.int (nI k)), some (.int (nI (M k))), some (.int (nI (C k))), some (.int (nI b))] [] h' := by
    intro m
    induction m with
    | zero => intro b D1 S1 h' g1; omega
    | succ m ih =>
      intro b D1 S1 h' g1 g2 hd1 hs1 hDS nb
      have ho : h' 69 = _ := (nb _ (by omega) (by omega)).trans ho
      have hdr : h' 402 = _ := (nb _ (by omega) (by omega)).trans hdr
      have hsr : h' 403 = _ := (nb _ (by omega) (by omega)).trans hsr
      have hdo : h' 406 = _ := (nb _ (by omega) (by omega)).trans hdo
      have hso : h' 407 = _ := (nb _ (by omega) (by omega)).trans hso
      have hd : h' (460 + k) = _ := (nb _ (by omega) (by omega)).trans hd
      have hsc : h' (464 + k) = _ := (nb _ (by omega) (by omega)).trans hsc
      have hdi : h' (420 + C k) = _ := (nb _ (by omega) (by omega)).trans hdi
      have hsi : h' (440 + C k) = _ := (nb _ (by omega) (by omega)).trans hsi
      refine pb_iload (pc2 := 19) dX9_sumUp_17 rfl rfl ?_
      refine pb_bipush (x := nI 8) (pc2 := 21) dX9_sumUp_19 (by decide) rfl ?_
      refine pb_icmpN_ge (tgt := 94) (pc2 := 24) dX9_sumUp_21 (by decide) rfl (by omega) (by omega) (fun q => ?_) (fun q => ?_)
      · have e : b = 8 := by omega
        subst e
        exact pb_return dX9_sumUp_94 rfl (⟨rfl, ⟨D1, hd1, fun j hj => (hDS j hj).1⟩, ⟨S1, hs1, fun j hj => (hDS j hj).2⟩, nb⟩)
      · have eD : D b + M k * Dr b = pb_dk A (mxP mem C M (k + 1)) b 0 := by
          rw [hD b q, hDr b q]; exact (mx_dk hz hT).symm
        have eS : S b + M k * Sr b = pb_sc A (mxP mem C M (k + 1)) b := by
          rw [hSS b q, hSr b q]; exact (mx_sc hz hT).symm
        refine pb_aload_n (pc2 := 25) dX9_sumUp_24 rfl rfl rfl ?_
        refine pb_getf (pc2 := 28) flX9_36_X1 rfl dX9_sumUp_25 (by first | assumption | exact hR.a rfl | exact hR.o | exact hC.o | exact hC.pal | exact hC.tub | exact hC.k _ _ rfl | exact hC.pot _ (by omega) | exact hC.are _ (by omega) | exact hC.arl _ (by omega) | exact hC.tbo _ (by omega) (by omega)) rfl rfl ?_
        refine pb_iload_n (pc2 := 29) dX9_sumUp_28 rfl rfl rfl ?_
        refine pb_iconst (x := nI 1) (pc2 := 30) dX9_sumUp_29 (by decide) rfl ?_
        refine pb_iaddN (pc2 := 31) dX9_sumUp_30 rfl ?_
        refine pb_aald (pc2 := 32) (by first | assumption | exact hR.a rfl | exact hR.o | exact hC.o | exact hC.pal | exact hC.tub | exact hC.k _ _ rfl | exact hC.pot _ (by omega) | exact hC.are _ (by omega) | exact hC.arl _ (by omega) | exact hC.tbo _ (by omega) (by omega)) dX9_sumUp_31 (by decide) (by omega) (by omega) (cTo_at (by omega)) rfl ?_
        refine pb_iload (pc2 := 34) dX9_sumUp_32 rfl rfl ?_
        refine pb_aload_n (pc2 := 35) dX9_sumUp_34 rfl rfl rfl ?_
        refine pb_getf (pc2 := 38) flX9_36_X1 rfl dX9_sumUp_35 (by first | assumption | exact hR.a rfl | exact hR.o | exact hC.o | exact hC.pal | exact hC.tub | exact hC.k _ _ rfl | exact hC.pot _ (by omega) | exact hC.are _ (by omega) | exact hC.arl _ (by omega) | exact hC.tbo _ (by omega) (by omega)) rfl rfl ?_
        refine pb_iload_n (pc2 := 39) dX9_sumUp_38 rfl rfl rfl ?_
        refine pb_aald (pc2 := 40) (by first | assumption | exact hR.a rfl | exact hR.o | exact hC.o | exact hC.pal | exact hC.tub | exact hC.k _ _ rfl | exact hC.pot _ (by omega) | exact hC.are _ (by omega) | exact hC.arl _ (by omega) | exact hC.tbo _ (by omega) (by omega)) dX9_sumUp_39 (by decide) (by omega) (by omega) (cTo_at (by omega)) rfl ?_
        refine pb_iload (pc2 := 42) dX9_sumUp_40 rfl rfl ?_
        refine pb_iald (pc2 := 43) (by first | assumption | exact hR.a rfl | exact hR.o | exact hC.o | exact hC.pal | exact hC.tub | exact hC.k _ _ rfl | exact hC.pot _ (by omega) | exact hC.are _ (by omega) | exact hC.arl _ (by omega) | exact hC.tbo _ (by omega) (by omega)) ⟨by decide, rfl⟩ dX9_sumUp_42 (by omega) (by omega) rfl ?_
        refine pb_iload_n (pc2 := 44) dX9_sumUp_43 rfl rfl rfl ?_
        refine pb_aload_n (pc2 := 45) dX9_sumUp_44 rfl rfl rfl ?_
        refine pb_getf (pc2 := 48) flX9_20_X1 rfl dX9_sumUp_45 (by first | assumption | exact hR.a rfl | exact hR.o | exact hC.o | exact hC.pal | exact hC.tub | exact hC.k _ _ rfl | exact hC.pot _ (by omega) | exact hC.are _ (by omega) | exact hC.arl _ (by omega) | exact hC.tbo _ (by omega) (by omega)) rfl rfl ?_
        refine pb_iload_n (pc2 := 49) dX9_sumUp_48 rfl rfl rfl ?_
        refine pb_aald (pc2 := 50) (by first | assumption | exact hR.a rfl | exact hR.o | exact hC.o | exact hC.pal | exact hC.tub | exact hC.k _ _ rfl | exact hC.pot _ (by omega) | exact hC.are _ (by omega) | exact hC.arl _ (by omega) | exact hC.tbo _ (by omega) (by omega)) dX9_sumUp_49 (by decide) (by omega) (by omega) (cTo_at (by omega)) rfl ?_
        refine pb_iload (pc2 := 52) dX9_sumUp_50 rfl rfl ?_
        refine pb_iald (pc2 := 53) (by first | assumption | exact hR.a rfl | exact hR.o | exact hC.o | exact hC.pal | exact hC.tub | exact hC.k _ _ rfl | exact hC.pot _ (by omega) | exact hC.are _ (by omega) | exact hC.arl _ (by omega) | exact hC.tbo _ (by omega) (by omega)) ⟨by decide, rfl⟩ dX9_sumUp_52 (by omega) (by omega) rfl ?_
        refine pb_imulN (pc2 := 54) dX9_sumUp_53 rfl ?_
        refine pb_iaddN (pc2 := 55) dX9_sumUp_54 rfl ?_
        refine pb_top (v2 := .int (nI (pb_dk A (mxP mem C M (k + 1)) b 0))) (by rw [eD]) ?_
        refine pb_iastG (pc2 := 56) hd1 dX9_sumUp_55 (by omega) q (by omega) rfl (fun h2 hd1 n2 => ?_)
        have ho := (n2 _ (by omega)).trans ho
        have hsr := (n2 _ (by omega)).trans hsr
        have hso := (n2 _ (by omega)).trans hso
        have hsc := (n2 _ (by omega)).trans hsc
        have hsi := (n2 _ (by omega)).trans hsi
        have hs1 := (n2 _ (by omega)).trans hs1
        refine pb_aload_n (pc2 := 57) dX9_sumUp_56 rfl rfl rfl ?_
        refine pb_getf (pc2 := 60) flX9_39_X1 rfl dX9_sumUp_57 (by first | assumption | exact hR.a rfl | exact hR.o | exact hC.o | exact hC.pal | exact hC.tub | exact hC.k _ _ rfl | exact hC.pot _ (by omega) | exact hC.are _ (by omega) | exact hC.arl _ (by omega) | exact hC.tbo _ (by omega) (by omega)) rfl rfl ?_
        refine pb_iload_n (pc2 := 61) dX9_sumUp_60 rfl rfl rfl ?_
        refine pb_iconst (x := nI 1) (pc2 := 62) dX9_sumUp_61 (by decide) rfl ?_
        refine pb_iaddN (pc2 := 63) dX9_sumUp_62 rfl ?_
        refine pb_aald (pc2 := 64) (by first | assumption | exact hR.a rfl | exact hR.o | exact hC.o | exact hC.pal | exact hC.tub | exact hC.k _ _ rfl | exact hC.pot _ (by omega) | exact hC.are _ (by omega) | exact hC.arl _ (by omega) | exact hC.tbo _ (by omega) (by omega)) dX9_sumUp_63 (by decide) (by omega) (by omega) (cTo_at (by omega)) rfl ?_
        refine pb_iload (pc2 := 66) dX9_sumUp_64 rfl rfl ?_
        refine pb_aload_n (pc2 := 67) dX9_sumUp_66 rfl rfl rfl ?_
        refine pb_getf (pc2 := 70) flX9_39_X1 rfl dX9_sumUp_67 (by first | assumption | exact hR.a rfl | exact hR.o | exact hC.o | exact hC.pal | exact hC.tub | exact hC.k _ _ rfl | exact hC.pot _ (by omega) | exact hC.are _ (by omega) | exact hC.arl _ (by omega) | exact hC.tbo _ (by omega) (by omega)) rfl rfl ?_
        refine pb_iload_n (pc2 := 71) dX9_sumUp_70 rfl rfl rfl ?_
        refine pb_aald (pc2 := 72) (by first | assumption | exact hR.a rfl | exact hR.o | exact hC.o | exact hC.pal | exact hC.tub | exact hC.k _ _ rfl | exact hC.pot _ (by omega) | exact hC.are _ (by omega) | exact hC.arl _ (by omega) | exact hC.tbo _ (by omega) (by omega)) dX9_sumUp_71 (by decide) (by omega) (by omega) (cTo_at (by omega)) rfl ?_
        refine pb_iload (pc2 := 74) dX9_sumUp_72 rfl rfl ?_
        refine pb_iald (pc2 := 75) (by first | assumption | exact hR.a rfl | exact hR.o | exact hC.o | exact hC.pal | exact hC.tub | exact hC.k _ _ rfl | exact hC.pot _ (by omega) | exact hC.are _ (by omega) | exact hC.arl _ (by omega) | exact hC.tbo _ (by omega) (by omega)) ⟨by decide, rfl⟩ dX9_sumUp_74 (by omega) (by omega) rfl ?_
        refine pb_iload_n (pc2 := 76) dX9_sumUp_75 rfl rfl rfl ?_
        refine pb_aload_n (pc2 := 77) dX9_sumUp_76 rfl rfl rfl ?_
        refine pb_getf (pc2 := 80) flX9_23_X1 rfl dX9_sumUp_77 (by first | assumption | exact hR.a rfl | exact hR.o | exact hC.o | exact hC.pal | exact hC.tub | exact hC.k _ _ rfl | exact hC.pot _ (by omega) | exact hC.are _ (by omega) | exact hC.arl _ (by omega) | exact hC.tbo _ (by omega) (by omega)) rfl rfl ?_
        refine pb_iload_n (pc2 := 81) dX9_sumUp_80 rfl rfl rfl ?_
        refine pb_aald (pc2 := 82) (by first | assumption | exact hR.a rfl | exact hR.o | exact hC.o | exact hC.pal | exact hC.tub | exact hC.k _ _ rfl | exact hC.pot _ (by omega) | exact hC.are _ (by omega) | exact hC.arl _ (by omega) | exact hC.tbo _ (by omega) (by omega)) dX9_sumUp_81 (by decide) (by omega) (by omega) (cTo_at (by omega)) rfl ?_
        refine pb_iload (pc2 := 84) dX9_sumUp_82 rfl rfl ?_
        refine pb_iald (pc2 := 85) (by first | assumption | exact hR.a rfl | exact hR.o | exact hC.o | exact hC.pal | exact hC.tub | exact hC.k _ _ rfl | exact hC.pot _ (by omega) | exact hC.are _ (by omega) | exact hC.arl _ (by omega) | exact hC.tbo _ (by omega) (by omega)) ⟨by decide, rfl⟩ dX9_sumUp_84 (by omega) (by omega) rfl ?_
        refine pb_imulN (pc2 := 86) dX9_sumUp_85 rfl ?_
        refine pb_iaddN (pc2 := 87) dX9_sumUp_86 rfl ?_
        refine pb_top (v2 := .int (nI (pb_sc A (mxP mem C M (k + 1)) b))) (by rw [eS]) ?_
        refine pb_iastG (pc2 := 88) hs1 dX9_sumUp_87 (by omega) q (by omega) rfl (fun h3 hs1 n3 => ?_)
        have hd1 := (n3 _ (by omega)).trans hd1
        refine pb_iincP (c0 := 1) (lv2 := [_, _, _, _, _]) (pc2 := 91) dX9_sumUp_88 rfl (by decide) rfl rfl ?_
        refine pb_goto (tgt := 17) dX9_sumUp_91 (by decide) ?_
        refine ih (b + 1) _ _ h3 (by omega) (by omega) hd1 hs1 (fun j hj => ?_) (fun x x1 x2 => (n3 x x2).trans ((n2 x x1).trans (nb x x1 x2)))
        by_cases e : j = b
        · rw [e, pb_un_self, pb_un_self]; exact ⟨rfl, rfl⟩
        · rw [pb_un_ne _ _ e, pb_un_ne _ _ e]; exact hDS j (by omega)
  refine pb_aload_n (pc2 := 1) dX9_sumUp_0 rfl rfl rfl ?_
  refine pb_getf (pc2 := 4) flX9_33_X1 rfl dX9_sumUp_1 (by first | assumption | exact hR.a rfl | exact hR.o | exact hC.o | exact hC.pal | exact hC.tub | exact hC.k _ _ rfl | exact hC.pot _ (by omega) | exact hC.are _ (by omega) | exact hC.arl _ (by omega) | exact hC.tbo _ (by omega) (by omega)) rfl rfl ?_
  refine pb_iload_n (pc2 := 5) dX9_sumUp_4 rfl rfl rfl ?_
  refine pb_iald (pc2 := 6) (by first | assumption | exact hR.a rfl | exact hR.o | exact hC.o | exact hC.pal | exact hC.tub | exact hC.k _ _ rfl | exact hC.pot _ (by omega) | exact hC.are _ (by omega) | exact hC.arl _ (by omega) | exact hC.tbo _ (by omega) (by omega)) ⟨by decide, rfl⟩ dX9_sumUp_5 (by omega) (by omega) rfl ?_
  refine pb_istore_n (lv2 := [_, _, _, _, _]) (pc2 := 7) dX9_sumUp_6 rfl (by decide) rfl rfl ?_
  refine pb_aload_n (pc2 := 8) dX9_sumUp_7 rfl rfl rfl ?_
  refine pb_getf (pc2 := 11) flX9_30_X1 rfl dX9_sumUp_8 (by first | assumption | exact hR.a rfl | exact hR.o | exact hC.o | exact hC.pal | exact hC.tub | exact hC.k _ _ rfl | exact hC.pot _ (by omega) | exact hC.are _ (by omega) | exact hC.arl _ (by omega) | exact hC.tbo _ (by omega) (by omega)) rfl rfl ?_
  refine pb_iload_n (pc2 := 12) dX9_sumUp_11 rfl rfl rfl ?_
  refine pb_iald (pc2 := 13) (by first | assumption | exact hR.a rfl | exact hR.o | exact hC.o | exact hC.pal | exact hC.tub | exact hC.k _ _ rfl | exact hC.pot _ (by omega) | exact hC.are _ (by omega) | exact hC.arl _ (by omega) | exact hC.tbo _ (by omega) (by omega)) ⟨by decide, rfl⟩ dX9_sumUp_12 (by omega) (by omega) rfl ?_
  refine pb_istore_n (lv2 := [_, _, _, _, _]) (pc2 := 14) dX9_sumUp_13 rfl (by decide) rfl rfl ?_
  refine pb_iconst (x := nI 0) (pc2 := 15) dX9_sumUp_14 (by decide) rfl ?_
  refine pb_istore (lv2 := [_, _, _, _, _]) (pc2 := 17) dX9_sumUp_15 (by decide) rfl rfl ?_
  exact loop 9 0 D1 S1 h (by omega) (by omega) hd1 hs1 (fun j hj => by omega) (fun _ _ _ => rfl)
end PB37C

