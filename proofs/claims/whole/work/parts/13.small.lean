-- the smallest methods: ranges
section PB13
variable {Z : pb_Z} {h : pb_H}
set_option maxRecDepth 10000 in
theorem t_in (x lo hi : Int32) : pb_T Z mX12_in 0 0 0 [.int x, .int lo, .int hi] h (pb_B (lo ≤ x ∧ x ≤ hi) h) := by
  refine pb_T.of pnX12_in (Nat.le_of_ble_eq_true rfl) (lv := [some (.int x), some (.int lo), some (.int hi)]) rfl ?_
  refine pb_iload_n (pc2 := 1) dX12_in_0 rfl rfl rfl ?_
  refine pb_iload_n (pc2 := 2) dX12_in_1 rfl rfl rfl ?_
  refine pb_icmp_lt (tgt := 14) (pc2 := 5) dX12_in_2 (by decide) rfl (fun q => ?_) (fun q => ?_)
  · refine pb_iconst (x := 0) (pc2 := 15) dX12_in_14 (by decide) rfl ?_
    exact pb_zreturn dX12_in_15 rfl (by first | exact Or.inl rfl | exact Or.inr rfl | assumption) (⟨Or.inr ⟨rfl, fun z => Int32.not_le.mpr q z.1⟩, rfl⟩)
  · refine pb_iload_n (pc2 := 6) dX12_in_5 rfl rfl rfl ?_
    refine pb_iload_n (pc2 := 7) dX12_in_6 rfl rfl rfl ?_
    refine pb_icmp_gt (tgt := 14) (pc2 := 10) dX12_in_7 (by decide) rfl (fun q2 => ?_) (fun q2 => ?_)
    · refine pb_iconst (x := 0) (pc2 := 15) dX12_in_14 (by decide) rfl ?_
      exact pb_zreturn dX12_in_15 rfl (by first | exact Or.inl rfl | exact Or.inr rfl | assumption) (⟨Or.inr ⟨rfl, fun z => Int32.not_le.mpr q2 z.2⟩, rfl⟩)
    · refine pb_iconst (x := 1) (pc2 := 11) dX12_in_10 (by decide) rfl ?_
      refine pb_goto (tgt := 15) dX12_in_11 (by decide) ?_
      exact pb_zreturn dX12_in_15 rfl (by first | exact Or.inl rfl | exact Or.inr rfl | assumption) (⟨Or.inl ⟨rfl, Int32.not_lt.mp q, Int32.not_lt.mp q2⟩, rfl⟩)
set_option maxRecDepth 10000 in
theorem t_between (x lo hi : Int32) : pb_T Z mX11_between 0 0 0 [.int x, .int lo, .int hi] h (pb_B (lo ≤ x ∧ x ≤ hi) h) := by
  refine pb_T.of pnX11_between (Nat.le_of_ble_eq_true rfl) (lv := [some (.int x), some (.int lo), some (.int hi)]) rfl ?_
  refine pb_iload_n (pc2 := 1) dX11_between_0 rfl rfl rfl ?_
  refine pb_iload_n (pc2 := 2) dX11_between_1 rfl rfl rfl ?_
  refine pb_icmp_lt (tgt := 14) (pc2 := 5) dX11_between_2 (by decide) rfl (fun q => ?_) (fun q => ?_)
  · refine pb_iconst (x := 0) (pc2 := 15) dX11_between_14 (by decide) rfl ?_
    exact pb_zreturn dX11_between_15 rfl (by first | exact Or.inl rfl | exact Or.inr rfl | assumption) (⟨Or.inr ⟨rfl, fun z => Int32.not_le.mpr q z.1⟩, rfl⟩)
  · refine pb_iload_n (pc2 := 6) dX11_between_5 rfl rfl rfl ?_
    refine pb_iload_n (pc2 := 7) dX11_between_6 rfl rfl rfl ?_
    refine pb_icmp_gt (tgt := 14) (pc2 := 10) dX11_between_7 (by decide) rfl (fun q2 => ?_) (fun q2 => ?_)
    · refine pb_iconst (x := 0) (pc2 := 15) dX11_between_14 (by decide) rfl ?_
      exact pb_zreturn dX11_between_15 rfl (by first | exact Or.inl rfl | exact Or.inr rfl | assumption) (⟨Or.inr ⟨rfl, fun z => Int32.not_le.mpr q2 z.2⟩, rfl⟩)
    · refine pb_iconst (x := 1) (pc2 := 11) dX11_between_10 (by decide) rfl ?_
      refine pb_goto (tgt := 15) dX11_between_11 (by decide) ?_
      exact pb_zreturn dX11_between_15 rfl (by first | exact Or.inl rfl | exact Or.inr rfl | assumption) (⟨Or.inl ⟨rfl, Int32.not_lt.mp q, Int32.not_lt.mp q2⟩, rfl⟩)
theorem t_misBand (x : Int32) : pb_T Z mX12_isBand 1 0 0 [.int x] h (pb_B (nI 0 ≤ x ∧ x ≤ nI 7) h) := by
  refine pb_T.of pnX12_isBand (Nat.le_of_ble_eq_true rfl) (lv := [some (.int x)]) rfl ?_
  refine pb_iload_n (pc2 := 1) dX12_isBand_0 rfl rfl rfl ?_
  refine pb_iconst (x := nI 0) (pc2 := 2) dX12_isBand_1 (by decide) rfl ?_
  refine pb_bipush (x := nI 7) (pc2 := 4) dX12_isBand_2 (by decide) rfl ?_
  refine pb_callS (pc2 := 7) (k2 := 0) (n2 := 0) mwX12_in swX12_in rfl mlX12_95 dX12_isBand_4 (t_in x (nI 0) (nI 7)) (by omega) (by omega) (by omega) rfl rfl (Nat.le_of_ble_eq_true rfl) rfl (pb_kB (fun q => ?_) (fun q => ?_))
  · exact pb_zreturn dX12_isBand_7 rfl (by first | exact Or.inl rfl | exact Or.inr rfl | assumption) (⟨Or.inl ⟨rfl, q⟩, rfl⟩)
  · exact pb_zreturn dX12_isBand_7 rfl (by first | exact Or.inl rfl | exact Or.inr rfl | assumption) (⟨Or.inr ⟨rfl, q⟩, rfl⟩)
end PB13

