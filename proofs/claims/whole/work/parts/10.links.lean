theorem pb_i0 {w : Cond} (h : w ∈ k2_sels lw_privs) (hg : goodWord w = true) : w ∈ pb_tbl := List.mem_append_right _ (List.mem_filter.mpr ⟨List.mem_append_left _ h, hg⟩)
theorem pb_i1 {w : Cond} (h : w ∈ tables_1_1) (hg : goodWord w = true) : w ∈ pb_tbl := List.mem_append_right _ (List.mem_filter.mpr ⟨List.mem_append_right _ (List.mem_append_left _ h), hg⟩)
theorem pb_j1 {w : Cond} (h : w ∈ tables_1_1) (hg : pb_isN w = true) : w ∈ pb_nw := List.mem_filter.mpr ⟨List.mem_append_right _ (List.mem_append_left _ h), hg⟩
theorem pb_i2 {w : Cond} (h : w ∈ tables_1_2) (hg : goodWord w = true) : w ∈ pb_tbl := List.mem_append_right _ (List.mem_filter.mpr ⟨List.mem_append_right _ (List.mem_append_right _ (List.mem_append_left _ h)), hg⟩)
theorem pb_j2 {w : Cond} (h : w ∈ tables_1_2) (hg : pb_isN w = true) : w ∈ pb_nw := List.mem_filter.mpr ⟨List.mem_append_right _ (List.mem_append_right _ (List.mem_append_left _ h)), hg⟩
theorem pb_i3 {w : Cond} (h : w ∈ tables_1_3) (hg : goodWord w = true) : w ∈ pb_tbl := List.mem_append_right _ (List.mem_filter.mpr ⟨List.mem_append_right _ (List.mem_append_right _ (List.mem_append_right _ (List.mem_append_left _ h))), hg⟩)
theorem pb_j3 {w : Cond} (h : w ∈ tables_1_3) (hg : pb_isN w = true) : w ∈ pb_nw := List.mem_filter.mpr ⟨List.mem_append_right _ (List.mem_append_right _ (List.mem_append_right _ (List.mem_append_left _ h))), hg⟩
theorem pb_i4 {w : Cond} (h : w ∈ tables_1_4) (hg : goodWord w = true) : w ∈ pb_tbl := List.mem_append_right _ (List.mem_filter.mpr ⟨List.mem_append_right _ (List.mem_append_right _ (List.mem_append_right _ (List.mem_append_right _ (List.mem_append_left _ h)))), hg⟩)
theorem pb_j4 {w : Cond} (h : w ∈ tables_1_4) (hg : pb_isN w = true) : w ∈ pb_nw := List.mem_filter.mpr ⟨List.mem_append_right _ (List.mem_append_right _ (List.mem_append_right _ (List.mem_append_right _ (List.mem_append_left _ h)))), hg⟩
theorem pb_i5 {w : Cond} (h : w ∈ tables_1_5) (hg : goodWord w = true) : w ∈ pb_tbl := List.mem_append_right _ (List.mem_filter.mpr ⟨List.mem_append_right _ (List.mem_append_right _ (List.mem_append_right _ (List.mem_append_right _ (List.mem_append_right _ h)))), hg⟩)
theorem pb_j5 {w : Cond} (h : w ∈ tables_1_5) (hg : pb_isN w = true) : w ∈ pb_nw := List.mem_filter.mpr ⟨List.mem_append_right _ (List.mem_append_right _ (List.mem_append_right _ (List.mem_append_right _ (List.mem_append_right _ h)))), hg⟩
theorem pb_wi0 : ∀ w ∈ u_ws RX0 TX0 3, w ∈ pb_tbl := by
  show ∀ w ∈ [u_lay RX0 TX0 0, u_lay RX0 TX0 1, u_lay RX0 TX0 2], w ∈ pb_tbl
  exact List.forall_mem_cons.mpr ⟨pb_i1 (List.mem_of_getElem? (i := 237) (by decide +kernel)) rfl, List.forall_mem_cons.mpr ⟨pb_i1 (List.mem_of_getElem? (i := 239) (by decide +kernel)) rfl, List.forall_mem_cons.mpr ⟨pb_i2 (List.mem_of_getElem? (i := 1) (by decide +kernel)) rfl, fun _ h => absurd h List.not_mem_nil⟩⟩⟩
theorem pb_cl0 : pb_cl 0 RX0 TX0 3 tyX0 := ⟨rfl, pb_wi0, tyX0_ok, nmX0⟩
theorem pb_wi1 : ∀ w ∈ u_ws RX1 TX1 16, w ∈ pb_tbl := by
  show ∀ w ∈ [u_lay RX1 TX1 0, u_lay RX1 TX1 1, u_lay RX1 TX1 2, u_lay RX1 TX1 3, u_lay RX1 TX1 4, u_lay RX1 TX1 5, u_lay RX1 TX1 6, u_lay RX1 TX1 7, u_lay RX1 TX1 8, u_lay RX1 TX1 9, u_lay RX1 TX1 10, u_lay RX1 TX1 11, u_lay RX1 TX1 12, u_lay RX1 TX1 13, u_lay RX1 TX1 14, u_lay RX1 TX1 15], w ∈ pb_tbl
  exact List.forall_mem_cons.mpr ⟨pb_i1 (List.mem_of_getElem? (i := 167) (by decide +kernel)) rfl, List.forall_mem_cons.mpr ⟨pb_i1 (List.mem_of_getElem? (i := 168) (by decide +kernel)) rfl, List.forall_mem_cons.mpr ⟨pb_i1 (List.mem_of_getElem? (i := 169) (by decide +kernel)) rfl, List.forall_mem_cons.mpr ⟨pb_i1 (List.mem_of_getElem? (i := 170) (by decide +kernel)) rfl, List.forall_mem_cons.mpr ⟨pb_i1 (List.mem_of_getElem? (i := 171) (by decide +kernel)) rfl, List.forall_mem_cons.mpr ⟨pb_i1 (List.mem_of_getElem? (i := 172) (by decide +kernel)) rfl, List.forall_mem_cons.mpr ⟨pb_i1 (List.mem_of_getElem? (i := 173) (by decide +kernel)) rfl, List.forall_mem_cons.mpr ⟨pb_i1 (List.mem_of_getElem? (i := 174) (by decide +kernel)) rfl, List.forall_mem_cons.mpr ⟨pb_i1 (List.mem_of_getElem? (i := 175) (by decide +kernel)) rfl, List.forall_mem_cons.mpr ⟨pb_i1 (List.mem_of_getElem? (i := 176) (by decide +kernel)) rfl, List.forall_mem_cons.mpr ⟨pb_i1 (List.mem_of_getElem? (i := 177) (by decide +kernel)) rfl, List.forall_mem_cons.mpr ⟨pb_i1 (List.mem_of_getElem? (i := 157) (by decide +kernel)) rfl, List.forall_mem_cons.mpr ⟨pb_i1 (List.mem_of_getElem? (i := 159) (by decide +kernel)) rfl, List.forall_mem_cons.mpr ⟨pb_i1 (List.mem_of_getElem? (i := 161) (by decide +kernel)) rfl, List.forall_mem_cons.mpr ⟨pb_i1 (List.mem_of_getElem? (i := 163) (by decide +kernel)) rfl, List.forall_mem_cons.mpr ⟨pb_i1 (List.mem_of_getElem? (i := 165) (by decide +kernel)) rfl, fun _ h => absurd h List.not_mem_nil⟩⟩⟩⟩⟩⟩⟩⟩⟩⟩⟩⟩⟩⟩⟩⟩
theorem pb_cl1 : pb_cl 1 RX1 TX1 16 tyX1 := ⟨rfl, pb_wi1, tyX1_ok, nmX1⟩
theorem pb_wi2 : ∀ w ∈ u_ws RX2 TX2 8, w ∈ pb_tbl := by
  show ∀ w ∈ [u_lay RX2 TX2 0, u_lay RX2 TX2 1, u_lay RX2 TX2 2, u_lay RX2 TX2 3, u_lay RX2 TX2 4, u_lay RX2 TX2 5, u_lay RX2 TX2 6, u_lay RX2 TX2 7], w ∈ pb_tbl
  exact List.forall_mem_cons.mpr ⟨pb_i1 (List.mem_of_getElem? (i := 195) (by decide +kernel)) rfl, List.forall_mem_cons.mpr ⟨pb_i1 (List.mem_of_getElem? (i := 197) (by decide +kernel)) rfl, List.forall_mem_cons.mpr ⟨pb_i1 (List.mem_of_getElem? (i := 199) (by decide +kernel)) rfl, List.forall_mem_cons.mpr ⟨pb_i1 (List.mem_of_getElem? (i := 201) (by decide +kernel)) rfl, List.forall_mem_cons.mpr ⟨pb_i1 (List.mem_of_getElem? (i := 203) (by decide +kernel)) rfl, List.forall_mem_cons.mpr ⟨pb_i1 (List.mem_of_getElem? (i := 205) (by decide +kernel)) rfl, List.forall_mem_cons.mpr ⟨pb_i1 (List.mem_of_getElem? (i := 207) (by decide +kernel)) rfl, List.forall_mem_cons.mpr ⟨pb_i1 (List.mem_of_getElem? (i := 209) (by decide +kernel)) rfl, fun _ h => absurd h List.not_mem_nil⟩⟩⟩⟩⟩⟩⟩⟩
theorem pb_cl2 : pb_cl 2 RX2 TX2 8 tyX2 := ⟨rfl, pb_wi2, tyX2_ok, nmX2⟩
theorem pb_wi3 : ∀ w ∈ u_ws RX3 TX3 7, w ∈ pb_tbl := by
  show ∀ w ∈ [u_lay RX3 TX3 0, u_lay RX3 TX3 1, u_lay RX3 TX3 2, u_lay RX3 TX3 3, u_lay RX3 TX3 4, u_lay RX3 TX3 5, u_lay RX3 TX3 6], w ∈ pb_tbl
  exact List.forall_mem_cons.mpr ⟨pb_i3 (List.mem_of_getElem? (i := 56) (by decide +kernel)) rfl, List.forall_mem_cons.mpr ⟨pb_i3 (List.mem_of_getElem? (i := 58) (by decide +kernel)) rfl, List.forall_mem_cons.mpr ⟨pb_i3 (List.mem_of_getElem? (i := 60) (by decide +kernel)) rfl, List.forall_mem_cons.mpr ⟨pb_i3 (List.mem_of_getElem? (i := 62) (by decide +kernel)) rfl, List.forall_mem_cons.mpr ⟨pb_i3 (List.mem_of_getElem? (i := 64) (by decide +kernel)) rfl, List.forall_mem_cons.mpr ⟨pb_i3 (List.mem_of_getElem? (i := 66) (by decide +kernel)) rfl, List.forall_mem_cons.mpr ⟨pb_i3 (List.mem_of_getElem? (i := 68) (by decide +kernel)) rfl, fun _ h => absurd h List.not_mem_nil⟩⟩⟩⟩⟩⟩⟩
theorem pb_cl3 : pb_cl 3 RX3 TX3 7 tyX3 := ⟨rfl, pb_wi3, tyX3_ok, nmX3⟩
theorem pb_wi4 : ∀ w ∈ u_ws RX4 TX4 5, w ∈ pb_tbl := by
  show ∀ w ∈ [u_lay RX4 TX4 0, u_lay RX4 TX4 1, u_lay RX4 TX4 2, u_lay RX4 TX4 3, u_lay RX4 TX4 4], w ∈ pb_tbl
  exact List.forall_mem_cons.mpr ⟨pb_i1 (List.mem_of_getElem? (i := 66) (by decide +kernel)) rfl, List.forall_mem_cons.mpr ⟨pb_i1 (List.mem_of_getElem? (i := 68) (by decide +kernel)) rfl, List.forall_mem_cons.mpr ⟨pb_i1 (List.mem_of_getElem? (i := 70) (by decide +kernel)) rfl, List.forall_mem_cons.mpr ⟨pb_i1 (List.mem_of_getElem? (i := 72) (by decide +kernel)) rfl, List.forall_mem_cons.mpr ⟨pb_i1 (List.mem_of_getElem? (i := 74) (by decide +kernel)) rfl, fun _ h => absurd h List.not_mem_nil⟩⟩⟩⟩⟩
theorem pb_cl4 : pb_cl 4 RX4 TX4 5 tyX4 := ⟨rfl, pb_wi4, tyX4_ok, nmX4⟩
theorem pb_wi5 : ∀ w ∈ u_ws RX5 TX5 16, w ∈ pb_tbl := by
  show ∀ w ∈ [u_lay RX5 TX5 0, u_lay RX5 TX5 1, u_lay RX5 TX5 2, u_lay RX5 TX5 3, u_lay RX5 TX5 4, u_lay RX5 TX5 5, u_lay RX5 TX5 6, u_lay RX5 TX5 7, u_lay RX5 TX5 8, u_lay RX5 TX5 9, u_lay RX5 TX5 10, u_lay RX5 TX5 11, u_lay RX5 TX5 12, u_lay RX5 TX5 13, u_lay RX5 TX5 14, u_lay RX5 TX5 15], w ∈ pb_tbl
  exact List.forall_mem_cons.mpr ⟨pb_i1 (List.mem_of_getElem? (i := 122) (by decide +kernel)) rfl, List.forall_mem_cons.mpr ⟨pb_i1 (List.mem_of_getElem? (i := 124) (by decide +kernel)) rfl, List.forall_mem_cons.mpr ⟨pb_i1 (List.mem_of_getElem? (i := 126) (by decide +kernel)) rfl, List.forall_mem_cons.mpr ⟨pb_i1 (List.mem_of_getElem? (i := 128) (by decide +kernel)) rfl, List.forall_mem_cons.mpr ⟨pb_i1 (List.mem_of_getElem? (i := 130) (by decide +kernel)) rfl, List.forall_mem_cons.mpr ⟨pb_i1 (List.mem_of_getElem? (i := 132) (by decide +kernel)) rfl, List.forall_mem_cons.mpr ⟨pb_i1 (List.mem_of_getElem? (i := 134) (by decide +kernel)) rfl, List.forall_mem_cons.mpr ⟨pb_i1 (List.mem_of_getElem? (i := 136) (by decide +kernel)) rfl, List.forall_mem_cons.mpr ⟨pb_i1 (List.mem_of_getElem? (i := 138) (by decide +kernel)) rfl, List.forall_mem_cons.mpr ⟨pb_i1 (List.mem_of_getElem? (i := 140) (by decide +kernel)) rfl, List.forall_mem_cons.mpr ⟨pb_i1 (List.mem_of_getElem? (i := 142) (by decide +kernel)) rfl, List.forall_mem_cons.mpr ⟨pb_i1 (List.mem_of_getElem? (i := 112) (by decide +kernel)) rfl, List.forall_mem_cons.mpr ⟨pb_i1 (List.mem_of_getElem? (i := 114) (by decide +kernel)) rfl, List.forall_mem_cons.mpr ⟨pb_i1 (List.mem_of_getElem? (i := 116) (by decide +kernel)) rfl, List.forall_mem_cons.mpr ⟨pb_i1 (List.mem_of_getElem? (i := 118) (by decide +kernel)) rfl, List.forall_mem_cons.mpr ⟨pb_i1 (List.mem_of_getElem? (i := 120) (by decide +kernel)) rfl, fun _ h => absurd h List.not_mem_nil⟩⟩⟩⟩⟩⟩⟩⟩⟩⟩⟩⟩⟩⟩⟩⟩
theorem pb_cl5 : pb_cl 5 RX5 TX5 16 tyX5 := ⟨rfl, pb_wi5, tyX5_ok, nmX5⟩
theorem pb_wi6 : ∀ w ∈ u_ws RX6 TX6 2, w ∈ pb_tbl := by
  show ∀ w ∈ [u_lay RX6 TX6 0, u_lay RX6 TX6 1], w ∈ pb_tbl
  exact List.forall_mem_cons.mpr ⟨pb_i1 (List.mem_of_getElem? (i := 220) (by decide +kernel)) rfl, List.forall_mem_cons.mpr ⟨pb_i1 (List.mem_of_getElem? (i := 222) (by decide +kernel)) rfl, fun _ h => absurd h List.not_mem_nil⟩⟩
theorem pb_cl6 : pb_cl 6 RX6 TX6 2 tyX6 := ⟨rfl, pb_wi6, tyX6_ok, nmX6⟩
theorem pb_wi7 : ∀ w ∈ u_ws RX8 TX8 2, w ∈ pb_tbl := by
  show ∀ w ∈ [u_lay RX8 TX8 0, u_lay RX8 TX8 1], w ∈ pb_tbl
  exact List.forall_mem_cons.mpr ⟨pb_i1 (List.mem_of_getElem? (i := 40) (by decide +kernel)) rfl, List.forall_mem_cons.mpr ⟨pb_i1 (List.mem_of_getElem? (i := 42) (by decide +kernel)) rfl, fun _ h => absurd h List.not_mem_nil⟩⟩
theorem pb_cl7 : pb_cl 7 RX8 TX8 2 tyX8 := ⟨rfl, pb_wi7, tyX8_ok, nmX8⟩
theorem pb_wi8 : ∀ w ∈ u_ws RX10 TX10 7, w ∈ pb_tbl := by
  show ∀ w ∈ [u_lay RX10 TX10 0, u_lay RX10 TX10 1, u_lay RX10 TX10 2, u_lay RX10 TX10 3, u_lay RX10 TX10 4, u_lay RX10 TX10 5, u_lay RX10 TX10 6], w ∈ pb_tbl
  exact List.forall_mem_cons.mpr ⟨pb_i2 (List.mem_of_getElem? (i := 78) (by decide +kernel)) rfl, List.forall_mem_cons.mpr ⟨pb_i2 (List.mem_of_getElem? (i := 80) (by decide +kernel)) rfl, List.forall_mem_cons.mpr ⟨pb_i2 (List.mem_of_getElem? (i := 82) (by decide +kernel)) rfl, List.forall_mem_cons.mpr ⟨pb_i2 (List.mem_of_getElem? (i := 84) (by decide +kernel)) rfl, List.forall_mem_cons.mpr ⟨pb_i2 (List.mem_of_getElem? (i := 86) (by decide +kernel)) rfl, List.forall_mem_cons.mpr ⟨pb_i2 (List.mem_of_getElem? (i := 88) (by decide +kernel)) rfl, List.forall_mem_cons.mpr ⟨pb_i2 (List.mem_of_getElem? (i := 90) (by decide +kernel)) rfl, fun _ h => absurd h List.not_mem_nil⟩⟩⟩⟩⟩⟩⟩
theorem pb_cl8 : pb_cl 8 RX10 TX10 7 tyX10 := ⟨rfl, pb_wi8, tyX10_ok, nmX10⟩
theorem pb_wi9 : ∀ w ∈ u_ws RX11 TX11 12, w ∈ pb_tbl := by
  show ∀ w ∈ [u_lay RX11 TX11 0, u_lay RX11 TX11 1, u_lay RX11 TX11 2, u_lay RX11 TX11 3, u_lay RX11 TX11 4, u_lay RX11 TX11 5, u_lay RX11 TX11 6, u_lay RX11 TX11 7, u_lay RX11 TX11 8, u_lay RX11 TX11 9, u_lay RX11 TX11 10, u_lay RX11 TX11 11], w ∈ pb_tbl
  exact List.forall_mem_cons.mpr ⟨pb_i2 (List.mem_of_getElem? (i := 16) (by decide +kernel)) rfl, List.forall_mem_cons.mpr ⟨pb_i2 (List.mem_of_getElem? (i := 18) (by decide +kernel)) rfl, List.forall_mem_cons.mpr ⟨pb_i2 (List.mem_of_getElem? (i := 20) (by decide +kernel)) rfl, List.forall_mem_cons.mpr ⟨pb_i2 (List.mem_of_getElem? (i := 22) (by decide +kernel)) rfl, List.forall_mem_cons.mpr ⟨pb_i2 (List.mem_of_getElem? (i := 24) (by decide +kernel)) rfl, List.forall_mem_cons.mpr ⟨pb_i2 (List.mem_of_getElem? (i := 26) (by decide +kernel)) rfl, List.forall_mem_cons.mpr ⟨pb_i2 (List.mem_of_getElem? (i := 28) (by decide +kernel)) rfl, List.forall_mem_cons.mpr ⟨pb_i2 (List.mem_of_getElem? (i := 30) (by decide +kernel)) rfl, List.forall_mem_cons.mpr ⟨pb_i2 (List.mem_of_getElem? (i := 32) (by decide +kernel)) rfl, List.forall_mem_cons.mpr ⟨pb_i2 (List.mem_of_getElem? (i := 34) (by decide +kernel)) rfl, List.forall_mem_cons.mpr ⟨pb_i2 (List.mem_of_getElem? (i := 36) (by decide +kernel)) rfl, List.forall_mem_cons.mpr ⟨pb_i2 (List.mem_of_getElem? (i := 38) (by decide +kernel)) rfl, fun _ h => absurd h List.not_mem_nil⟩⟩⟩⟩⟩⟩⟩⟩⟩⟩⟩⟩
theorem pb_cl9 : pb_cl 9 RX11 TX11 12 tyX11 := ⟨rfl, pb_wi9, tyX11_ok, nmX11⟩
theorem pb_wi10 : ∀ w ∈ u_ws RX12 TX12 32, w ∈ pb_tbl := by
  show ∀ w ∈ [u_lay RX12 TX12 0, u_lay RX12 TX12 1, u_lay RX12 TX12 2, u_lay RX12 TX12 3, u_lay RX12 TX12 4, u_lay RX12 TX12 5, u_lay RX12 TX12 6, u_lay RX12 TX12 7, u_lay RX12 TX12 8, u_lay RX12 TX12 9, u_lay RX12 TX12 10, u_lay RX12 TX12 11, u_lay RX12 TX12 12, u_lay RX12 TX12 13, u_lay RX12 TX12 14, u_lay RX12 TX12 15, u_lay RX12 TX12 16, u_lay RX12 TX12 17, u_lay RX12 TX12 18, u_lay RX12 TX12 19, u_lay RX12 TX12 20, u_lay RX12 TX12 21, u_lay RX12 TX12 22, u_lay RX12 TX12 23, u_lay RX12 TX12 24, u_lay RX12 TX12 25, u_lay RX12 TX12 26, u_lay RX12 TX12 27, u_lay RX12 TX12 28, u_lay RX12 TX12 29, u_lay RX12 TX12 30, u_lay RX12 TX12 31], w ∈ pb_tbl
  exact List.forall_mem_cons.mpr ⟨pb_i4 (List.mem_of_getElem? (i := 117) (by decide +kernel)) rfl, List.forall_mem_cons.mpr ⟨pb_i4 (List.mem_of_getElem? (i := 119) (by decide +kernel)) rfl, List.forall_mem_cons.mpr ⟨pb_i4 (List.mem_of_getElem? (i := 121) (by decide +kernel)) rfl, List.forall_mem_cons.mpr ⟨pb_i4 (List.mem_of_getElem? (i := 123) (by decide +kernel)) rfl, List.forall_mem_cons.mpr ⟨pb_i4 (List.mem_of_getElem? (i := 125) (by decide +kernel)) rfl, List.forall_mem_cons.mpr ⟨pb_i4 (List.mem_of_getElem? (i := 127) (by decide +kernel)) rfl, List.forall_mem_cons.mpr ⟨pb_i4 (List.mem_of_getElem? (i := 129) (by decide +kernel)) rfl, List.forall_mem_cons.mpr ⟨pb_i4 (List.mem_of_getElem? (i := 131) (by decide +kernel)) rfl, List.forall_mem_cons.mpr ⟨pb_i4 (List.mem_of_getElem? (i := 133) (by decide +kernel)) rfl, List.forall_mem_cons.mpr ⟨pb_i4 (List.mem_of_getElem? (i := 135) (by decide +kernel)) rfl, List.forall_mem_cons.mpr ⟨pb_i4 (List.mem_of_getElem? (i := 137) (by decide +kernel)) rfl, List.forall_mem_cons.mpr ⟨pb_i4 (List.mem_of_getElem? (i := 139) (by decide +kernel)) rfl, List.forall_mem_cons.mpr ⟨pb_i4 (List.mem_of_getElem? (i := 141) (by decide +kernel)) rfl, List.forall_mem_cons.mpr ⟨pb_i4 (List.mem_of_getElem? (i := 143) (by decide +kernel)) rfl, List.forall_mem_cons.mpr ⟨pb_i4 (List.mem_of_getElem? (i := 145) (by decide +kernel)) rfl, List.forall_mem_cons.mpr ⟨pb_i4 (List.mem_of_getElem? (i := 147) (by decide +kernel)) rfl, List.forall_mem_cons.mpr ⟨pb_i4 (List.mem_of_getElem? (i := 149) (by decide +kernel)) rfl, List.forall_mem_cons.mpr ⟨pb_i4 (List.mem_of_getElem? (i := 151) (by decide +kernel)) rfl, List.forall_mem_cons.mpr ⟨pb_i4 (List.mem_of_getElem? (i := 153) (by decide +kernel)) rfl, List.forall_mem_cons.mpr ⟨pb_i4 (List.mem_of_getElem? (i := 155) (by decide +kernel)) rfl, List.forall_mem_cons.mpr ⟨pb_i4 (List.mem_of_getElem? (i := 157) (by decide +kernel)) rfl, List.forall_mem_cons.mpr ⟨pb_i4 (List.mem_of_getElem? (i := 159) (by decide +kernel)) rfl, List.forall_mem_cons.mpr ⟨pb_i4 (List.mem_of_getElem? (i := 161) (by decide +kernel)) rfl, List.forall_mem_cons.mpr ⟨pb_i4 (List.mem_of_getElem? (i := 163) (by decide +kernel)) rfl, List.forall_mem_cons.mpr ⟨pb_i4 (List.mem_of_getElem? (i := 165) (by decide +kernel)) rfl, List.forall_mem_cons.mpr ⟨pb_i4 (List.mem_of_getElem? (i := 167) (by decide +kernel)) rfl, List.forall_mem_cons.mpr ⟨pb_i4 (List.mem_of_getElem? (i := 169) (by decide +kernel)) rfl, List.forall_mem_cons.mpr ⟨pb_i4 (List.mem_of_getElem? (i := 171) (by decide +kernel)) rfl, List.forall_mem_cons.mpr ⟨pb_i4 (List.mem_of_getElem? (i := 173) (by decide +kernel)) rfl, List.forall_mem_cons.mpr ⟨pb_i4 (List.mem_of_getElem? (i := 175) (by decide +kernel)) rfl, List.forall_mem_cons.mpr ⟨pb_i4 (List.mem_of_getElem? (i := 177) (by decide +kernel)) rfl, List.forall_mem_cons.mpr ⟨pb_i4 (List.mem_of_getElem? (i := 179) (by decide +kernel)) rfl, fun _ h => absurd h List.not_mem_nil⟩⟩⟩⟩⟩⟩⟩⟩⟩⟩⟩⟩⟩⟩⟩⟩⟩⟩⟩⟩⟩⟩⟩⟩⟩⟩⟩⟩⟩⟩⟩⟩
theorem pb_cl10 : pb_cl 10 RX12 TX12 32 tyX12 := ⟨rfl, pb_wi10, tyX12_ok, nmX12⟩
abbrev mX0_init : pb_M := (yX0_init, cX0_init, 1, none)
set_option maxRecDepth 100000 in
theorem mwX0_init : pb_mw mX0_init 0 := ⟨pb_i1 (List.mem_of_getElem? (i := 228) (rfl)) rfl, pb_i1 (List.mem_of_getElem? (i := 10) (by decide +kernel)) rfl, ⟨by decide, by decide⟩, by decide +kernel, by decide⟩
theorem pnX0_init : plainName mX0_init.1.cls = true := by decide +kernel
theorem iwX0_init : Cond.instanceMethod mX0_init.1 ∈ pb_tbl := pb_i1 (List.mem_of_getElem? (i := 227) (by decide +kernel)) rfl
abbrev mX0_isFull : pb_M := (yX0_isFull, cX0_isFull, 1, (some .boolean))
set_option maxRecDepth 100000 in
theorem mwX0_isFull : pb_mw mX0_isFull 0 := ⟨pb_i3 (List.mem_of_getElem? (i := 38) (rfl)) rfl, pb_i1 (List.mem_of_getElem? (i := 10) (by decide +kernel)) rfl, ⟨by decide, by decide⟩, by decide +kernel, by decide⟩
theorem pnX0_isFull : plainName mX0_isFull.1.cls = true := by decide +kernel
theorem iwX0_isFull : Cond.instanceMethod mX0_isFull.1 ∈ pb_tbl := pb_i3 (List.mem_of_getElem? (i := 36) (by decide +kernel)) rfl
theorem seX0_isFull : Cond.selects RX0 mX0_isFull.1 mX0_isFull.1 ∈ pb_tbl := pb_i3 (List.mem_of_getElem? (i := 37) (by decide +kernel)) rfl
abbrev mX0_add : pb_M := (yX0_add, cX0_add, 2, none)
set_option maxRecDepth 100000 in
theorem mwX0_add : pb_mw mX0_add 1 := ⟨pb_i3 (List.mem_of_getElem? (i := 74) (rfl)) rfl, pb_i1 (List.mem_of_getElem? (i := 10) (by decide +kernel)) rfl, ⟨by decide, by decide⟩, by decide +kernel, by decide⟩
theorem pnX0_add : plainName mX0_add.1.cls = true := by decide +kernel
theorem iwX0_add : Cond.instanceMethod mX0_add.1 ∈ pb_tbl := pb_i3 (List.mem_of_getElem? (i := 72) (by decide +kernel)) rfl
theorem seX0_add : Cond.selects RX0 mX0_add.1 mX0_add.1 ∈ pb_tbl := pb_i3 (List.mem_of_getElem? (i := 73) (by decide +kernel)) rfl
abbrev mX0_sentBack : pb_M := (yX0_sentBack, cX0_sentBack, 6, (some .int))
set_option maxRecDepth 100000 in
theorem mwX0_sentBack : pb_mw mX0_sentBack 3 := ⟨pb_i3 (List.mem_of_getElem? (i := 87) (rfl)) rfl, pb_i1 (List.mem_of_getElem? (i := 10) (by decide +kernel)) rfl, ⟨by decide, by decide⟩, by decide +kernel, by decide⟩
theorem pnX0_sentBack : plainName mX0_sentBack.1.cls = true := by decide +kernel
theorem iwX0_sentBack : Cond.instanceMethod mX0_sentBack.1 ∈ pb_tbl := pb_i3 (List.mem_of_getElem? (i := 85) (by decide +kernel)) rfl
theorem seX0_sentBack : Cond.selects RX0 mX0_sentBack.1 mX0_sentBack.1 ∈ pb_tbl := pb_i3 (List.mem_of_getElem? (i := 86) (by decide +kernel)) rfl
abbrev mX1_init : pb_M := (yX1_init, cX1_init, 1, none)
set_option maxRecDepth 100000 in
theorem mwX1_init : pb_mw mX1_init 0 := ⟨pb_i1 (List.mem_of_getElem? (i := 149) (rfl)) rfl, pb_i1 (List.mem_of_getElem? (i := 7) (by decide +kernel)) rfl, ⟨by decide, by decide⟩, by decide +kernel, by decide⟩
theorem pnX1_init : plainName mX1_init.1.cls = true := by decide +kernel
theorem iwX1_init : Cond.instanceMethod mX1_init.1 ∈ pb_tbl := pb_i1 (List.mem_of_getElem? (i := 148) (by decide +kernel)) rfl
abbrev mX1_aimAt : pb_M := (yX1_aimAt, cX1_aimAt, 5, none)
set_option maxRecDepth 100000 in
theorem mwX1_aimAt : pb_mw mX1_aimAt 3 := ⟨pb_i4 (List.mem_of_getElem? (i := 32) (rfl)) rfl, pb_i1 (List.mem_of_getElem? (i := 7) (by decide +kernel)) rfl, ⟨by decide, by decide⟩, by decide +kernel, by decide⟩
theorem pnX1_aimAt : plainName mX1_aimAt.1.cls = true := by decide +kernel
theorem iwX1_aimAt : Cond.instanceMethod mX1_aimAt.1 ∈ pb_tbl := pb_i4 (List.mem_of_getElem? (i := 30) (by decide +kernel)) rfl
theorem seX1_aimAt : Cond.selects RX1 mX1_aimAt.1 mX1_aimAt.1 ∈ pb_tbl := pb_i4 (List.mem_of_getElem? (i := 31) (by decide +kernel)) rfl
abbrev mX1_fewestOf : pb_M := (yX1_fewestOf, cX1_fewestOf, 5, (some .int))
set_option maxRecDepth 100000 in
theorem mwX1_fewestOf : pb_mw mX1_fewestOf 3 := ⟨pb_i4 (List.mem_of_getElem? (i := 37) (rfl)) rfl, pb_i1 (List.mem_of_getElem? (i := 7) (by decide +kernel)) rfl, ⟨by decide, by decide⟩, by decide +kernel, by decide⟩
theorem pnX1_fewestOf : plainName mX1_fewestOf.1.cls = true := by decide +kernel
theorem iwX1_fewestOf : Cond.instanceMethod mX1_fewestOf.1 ∈ pb_tbl := pb_i4 (List.mem_of_getElem? (i := 35) (by decide +kernel)) rfl
theorem seX1_fewestOf : Cond.selects RX1 mX1_fewestOf.1 mX1_fewestOf.1 ∈ pb_tbl := pb_i4 (List.mem_of_getElem? (i := 36) (by decide +kernel)) rfl
abbrev mX1_weigh : pb_M := (yX1_weigh, cX1_weigh, 8, none)
set_option maxRecDepth 100000 in
theorem mwX1_weigh : pb_mw mX1_weigh 1 := ⟨pb_i3 (List.mem_of_getElem? (i := 163) (rfl)) rfl, pb_i1 (List.mem_of_getElem? (i := 7) (by decide +kernel)) rfl, ⟨by decide, by decide⟩, by decide +kernel, by decide⟩
theorem pnX1_weigh : plainName mX1_weigh.1.cls = true := by decide +kernel
theorem iwX1_weigh : Cond.instanceMethod mX1_weigh.1 ∈ pb_tbl := pb_i3 (List.mem_of_getElem? (i := 162) (by decide +kernel)) rfl
abbrev mX1_passOn : pb_M := (yX1_passOn, cX1_passOn, 5, none)
set_option maxRecDepth 100000 in
theorem mwX1_passOn : pb_mw mX1_passOn 1 := ⟨pb_i4 (List.mem_of_getElem? (i := 45) (rfl)) rfl, pb_i1 (List.mem_of_getElem? (i := 7) (by decide +kernel)) rfl, ⟨by decide, by decide⟩, by decide +kernel, by decide⟩
theorem pnX1_passOn : plainName mX1_passOn.1.cls = true := by decide +kernel
theorem iwX1_passOn : Cond.instanceMethod mX1_passOn.1 ∈ pb_tbl := pb_i4 (List.mem_of_getElem? (i := 44) (by decide +kernel)) rfl
theorem seX1_passOn : Cond.selects RX1 mX1_passOn.1 mX1_passOn.1 ∈ pb_tbl := pb_i0 (List.mem_of_getElem? (i := 8) (by decide +kernel)) rfl
abbrev mX1_leastOf : pb_M := (yX1_leastOf, cX1_leastOf, 5, (some .int))
set_option maxRecDepth 100000 in
theorem mwX1_leastOf : pb_mw mX1_leastOf 1 := ⟨pb_i4 (List.mem_of_getElem? (i := 49) (rfl)) rfl, pb_i1 (List.mem_of_getElem? (i := 7) (by decide +kernel)) rfl, ⟨by decide, by decide⟩, by decide +kernel, by decide⟩
theorem pnX1_leastOf : plainName mX1_leastOf.1.cls = true := by decide +kernel
theorem iwX1_leastOf : Cond.instanceMethod mX1_leastOf.1 ∈ pb_tbl := pb_i4 (List.mem_of_getElem? (i := 48) (by decide +kernel)) rfl
theorem seX1_leastOf : Cond.selects RX1 mX1_leastOf.1 mX1_leastOf.1 ∈ pb_tbl := pb_i0 (List.mem_of_getElem? (i := 9) (by decide +kernel)) rfl
abbrev mX2_init : pb_M := (yX2_init, cX2_init, 1, none)
set_option maxRecDepth 100000 in
theorem mwX2_init : pb_mw mX2_init 0 := ⟨pb_i1 (List.mem_of_getElem? (i := 183) (rfl)) rfl, pb_i1 (List.mem_of_getElem? (i := 8) (by decide +kernel)) rfl, ⟨by decide, by decide⟩, by decide +kernel, by decide⟩
theorem pnX2_init : plainName mX2_init.1.cls = true := by decide +kernel
theorem iwX2_init : Cond.instanceMethod mX2_init.1 ∈ pb_tbl := pb_i1 (List.mem_of_getElem? (i := 182) (by decide +kernel)) rfl
abbrev mX2_nearest : pb_M := (yX2_nearest, cX2_nearest, 8, (some .int))
set_option maxRecDepth 100000 in
theorem mwX2_nearest : pb_mw mX2_nearest 5 := ⟨pb_i3 (List.mem_of_getElem? (i := 221) (rfl)) rfl, pb_i1 (List.mem_of_getElem? (i := 8) (by decide +kernel)) rfl, ⟨by decide, by decide⟩, by decide +kernel, by decide⟩
theorem pnX2_nearest : plainName mX2_nearest.1.cls = true := by decide +kernel
theorem iwX2_nearest : Cond.instanceMethod mX2_nearest.1 ∈ pb_tbl := pb_i3 (List.mem_of_getElem? (i := 219) (by decide +kernel)) rfl
theorem seX2_nearest : Cond.selects RX2 mX2_nearest.1 mX2_nearest.1 ∈ pb_tbl := pb_i3 (List.mem_of_getElem? (i := 220) (by decide +kernel)) rfl
abbrev mX2_bestLayer : pb_M := (yX2_bestLayer, cX2_bestLayer, 2, (some .int))
set_option maxRecDepth 100000 in
theorem mwX2_bestLayer : pb_mw mX2_bestLayer 1 := ⟨pb_i4 (List.mem_of_getElem? (i := 16) (rfl)) rfl, pb_i1 (List.mem_of_getElem? (i := 8) (by decide +kernel)) rfl, ⟨by decide, by decide⟩, by decide +kernel, by decide⟩
theorem pnX2_bestLayer : plainName mX2_bestLayer.1.cls = true := by decide +kernel
theorem iwX2_bestLayer : Cond.instanceMethod mX2_bestLayer.1 ∈ pb_tbl := pb_i4 (List.mem_of_getElem? (i := 14) (by decide +kernel)) rfl
theorem seX2_bestLayer : Cond.selects RX2 mX2_bestLayer.1 mX2_bestLayer.1 ∈ pb_tbl := pb_i4 (List.mem_of_getElem? (i := 15) (by decide +kernel)) rfl
abbrev mX2_readThin : pb_M := (yX2_readThin, cX2_readThin, 6, none)
set_option maxRecDepth 100000 in
theorem mwX2_readThin : pb_mw mX2_readThin 2 := ⟨pb_i3 (List.mem_of_getElem? (i := 227) (rfl)) rfl, pb_i1 (List.mem_of_getElem? (i := 8) (by decide +kernel)) rfl, ⟨by decide, by decide⟩, by decide +kernel, by decide⟩
theorem pnX2_readThin : plainName mX2_readThin.1.cls = true := by decide +kernel
theorem iwX2_readThin : Cond.instanceMethod mX2_readThin.1 ∈ pb_tbl := pb_i3 (List.mem_of_getElem? (i := 226) (by decide +kernel)) rfl
theorem seX2_readThin : Cond.selects RX2 mX2_readThin.1 mX2_readThin.1 ∈ pb_tbl := pb_i0 (List.mem_of_getElem? (i := 4) (by decide +kernel)) rfl
abbrev mX2_layOn : pb_M := (yX2_layOn, cX2_layOn, 7, none)
set_option maxRecDepth 100000 in
theorem mwX2_layOn : pb_mw mX2_layOn 3 := ⟨pb_i3 (List.mem_of_getElem? (i := 237) (rfl)) rfl, pb_i1 (List.mem_of_getElem? (i := 8) (by decide +kernel)) rfl, ⟨by decide, by decide⟩, by decide +kernel, by decide⟩
theorem pnX2_layOn : plainName mX2_layOn.1.cls = true := by decide +kernel
theorem iwX2_layOn : Cond.instanceMethod mX2_layOn.1 ∈ pb_tbl := pb_i3 (List.mem_of_getElem? (i := 236) (by decide +kernel)) rfl
theorem seX2_layOn : Cond.selects RX2 mX2_layOn.1 mX2_layOn.1 ∈ pb_tbl := pb_i0 (List.mem_of_getElem? (i := 5) (by decide +kernel)) rfl
abbrev mX2_thicken : pb_M := (yX2_thicken, cX2_thicken, 6, none)
set_option maxRecDepth 100000 in
theorem mwX2_thicken : pb_mw mX2_thicken 4 := ⟨pb_i4 (List.mem_of_getElem? (i := 1) (rfl)) rfl, pb_i1 (List.mem_of_getElem? (i := 8) (by decide +kernel)) rfl, ⟨by decide, by decide⟩, by decide +kernel, by decide⟩
theorem pnX2_thicken : plainName mX2_thicken.1.cls = true := by decide +kernel
theorem iwX2_thicken : Cond.instanceMethod mX2_thicken.1 ∈ pb_tbl := pb_i4 (List.mem_of_getElem? (i := 0) (by decide +kernel)) rfl
theorem seX2_thicken : Cond.selects RX2 mX2_thicken.1 mX2_thicken.1 ∈ pb_tbl := pb_i0 (List.mem_of_getElem? (i := 6) (by decide +kernel)) rfl
abbrev mX2_weigh : pb_M := (yX2_weigh, cX2_weigh, 5, none)
set_option maxRecDepth 100000 in
theorem mwX2_weigh : pb_mw mX2_weigh 2 := ⟨pb_i4 (List.mem_of_getElem? (i := 6) (rfl)) rfl, pb_i1 (List.mem_of_getElem? (i := 8) (by decide +kernel)) rfl, ⟨by decide, by decide⟩, by decide +kernel, by decide⟩
theorem pnX2_weigh : plainName mX2_weigh.1.cls = true := by decide +kernel
theorem iwX2_weigh : Cond.instanceMethod mX2_weigh.1 ∈ pb_tbl := pb_i4 (List.mem_of_getElem? (i := 5) (by decide +kernel)) rfl
theorem seX2_weigh : Cond.selects RX2 mX2_weigh.1 mX2_weigh.1 ∈ pb_tbl := pb_i0 (List.mem_of_getElem? (i := 7) (by decide +kernel)) rfl
abbrev mX3_init : pb_M := (yX3_init, cX3_init, 4, none)
set_option maxRecDepth 100000 in
theorem mwX3_init : pb_mw mX3_init 3 := ⟨pb_i3 (List.mem_of_getElem? (i := 43) (rfl)) rfl, pb_i1 (List.mem_of_getElem? (i := 15) (by decide +kernel)) rfl, ⟨by decide, by decide⟩, by decide +kernel, by decide⟩
theorem pnX3_init : plainName mX3_init.1.cls = true := by decide +kernel
theorem iwX3_init : Cond.instanceMethod mX3_init.1 ∈ pb_tbl := pb_i3 (List.mem_of_getElem? (i := 42) (by decide +kernel)) rfl
abbrev mX3_sentOver : pb_M := (yX3_sentOver, cX3_sentOver, 9, (some .int))
set_option maxRecDepth 100000 in
theorem mwX3_sentOver : pb_mw mX3_sentOver 4 := ⟨pb_i3 (List.mem_of_getElem? (i := 91) (rfl)) rfl, pb_i1 (List.mem_of_getElem? (i := 15) (by decide +kernel)) rfl, ⟨by decide, by decide⟩, by decide +kernel, by decide⟩
theorem pnX3_sentOver : plainName mX3_sentOver.1.cls = true := by decide +kernel
theorem iwX3_sentOver : Cond.instanceMethod mX3_sentOver.1 ∈ pb_tbl := pb_i3 (List.mem_of_getElem? (i := 89) (by decide +kernel)) rfl
theorem seX3_sentOver : Cond.selects RX3 mX3_sentOver.1 mX3_sentOver.1 ∈ pb_tbl := pb_i3 (List.mem_of_getElem? (i := 90) (by decide +kernel)) rfl
abbrev mX4_init : pb_M := (yX4_init, cX4_init, 2, none)
set_option maxRecDepth 100000 in
theorem mwX4_init : pb_mw mX4_init 0 := ⟨pb_i1 (List.mem_of_getElem? (i := 49) (rfl)) rfl, pb_i1 (List.mem_of_getElem? (i := 3) (by decide +kernel)) rfl, ⟨by decide, by decide⟩, by decide +kernel, by decide⟩
theorem pnX4_init : plainName mX4_init.1.cls = true := by decide +kernel
theorem iwX4_init : Cond.instanceMethod mX4_init.1 ∈ pb_tbl := pb_i1 (List.mem_of_getElem? (i := 48) (by decide +kernel)) rfl
abbrev mX4_shine : pb_M := (yX4_shine, cX4_shine, 4, none)
set_option maxRecDepth 100000 in
theorem mwX4_shine : pb_mw mX4_shine 1 := ⟨pb_i2 (List.mem_of_getElem? (i := 226) (rfl)) rfl, pb_i1 (List.mem_of_getElem? (i := 3) (by decide +kernel)) rfl, ⟨by decide, by decide⟩, by decide +kernel, by decide⟩
theorem pnX4_shine : plainName mX4_shine.1.cls = true := by decide +kernel
theorem iwX4_shine : Cond.instanceMethod mX4_shine.1 ∈ pb_tbl := pb_i2 (List.mem_of_getElem? (i := 224) (by decide +kernel)) rfl
theorem seX4_shine : Cond.selects RX4 mX4_shine.1 mX4_shine.1 ∈ pb_tbl := pb_i2 (List.mem_of_getElem? (i := 225) (by decide +kernel)) rfl
abbrev mX4_bySight : pb_M := (yX4_bySight, cX4_bySight, 6, (some .int))
set_option maxRecDepth 100000 in
theorem mwX4_bySight : pb_mw mX4_bySight 2 := ⟨pb_i2 (List.mem_of_getElem? (i := 230) (rfl)) rfl, pb_i1 (List.mem_of_getElem? (i := 3) (by decide +kernel)) rfl, ⟨by decide, by decide⟩, by decide +kernel, by decide⟩
theorem pnX4_bySight : plainName mX4_bySight.1.cls = true := by decide +kernel
theorem iwX4_bySight : Cond.instanceMethod mX4_bySight.1 ∈ pb_tbl := pb_i2 (List.mem_of_getElem? (i := 228) (by decide +kernel)) rfl
theorem seX4_bySight : Cond.selects RX4 mX4_bySight.1 mX4_bySight.1 ∈ pb_tbl := pb_i2 (List.mem_of_getElem? (i := 229) (by decide +kernel)) rfl
abbrev mX4_farFrom : pb_M := (yX4_farFrom, cX4_farFrom, 5, (some .int))
set_option maxRecDepth 100000 in
theorem mwX4_farFrom : pb_mw mX4_farFrom 2 := ⟨pb_i3 (List.mem_of_getElem? (i := 112) (rfl)) rfl, pb_i1 (List.mem_of_getElem? (i := 3) (by decide +kernel)) rfl, ⟨by decide, by decide⟩, by decide +kernel, by decide⟩
theorem pnX4_farFrom : plainName mX4_farFrom.1.cls = true := by decide +kernel
theorem iwX4_farFrom : Cond.instanceMethod mX4_farFrom.1 ∈ pb_tbl := pb_i3 (List.mem_of_getElem? (i := 110) (by decide +kernel)) rfl
theorem seX4_farFrom : Cond.selects RX4 mX4_farFrom.1 mX4_farFrom.1 ∈ pb_tbl := pb_i3 (List.mem_of_getElem? (i := 111) (by decide +kernel)) rfl
abbrev mX5_init : pb_M := (yX5_init, cX5_init, 1, none)
set_option maxRecDepth 100000 in
theorem mwX5_init : pb_mw mX5_init 0 := ⟨pb_i1 (List.mem_of_getElem? (i := 88) (rfl)) rfl, pb_i1 (List.mem_of_getElem? (i := 6) (by decide +kernel)) rfl, ⟨by decide, by decide⟩, by decide +kernel, by decide⟩
theorem pnX5_init : plainName mX5_init.1.cls = true := by decide +kernel
theorem iwX5_init : Cond.instanceMethod mX5_init.1 ∈ pb_tbl := pb_i1 (List.mem_of_getElem? (i := 87) (by decide +kernel)) rfl
abbrev mX5_nearest : pb_M := (yX5_nearest, cX5_nearest, 6, (some .int))
set_option maxRecDepth 100000 in
theorem mwX5_nearest : pb_mw mX5_nearest 5 := ⟨pb_i3 (List.mem_of_getElem? (i := 136) (rfl)) rfl, pb_i1 (List.mem_of_getElem? (i := 6) (by decide +kernel)) rfl, ⟨by decide, by decide⟩, by decide +kernel, by decide⟩
theorem pnX5_nearest : plainName mX5_nearest.1.cls = true := by decide +kernel
theorem iwX5_nearest : Cond.instanceMethod mX5_nearest.1 ∈ pb_tbl := pb_i3 (List.mem_of_getElem? (i := 134) (by decide +kernel)) rfl
theorem seX5_nearest : Cond.selects RX5 mX5_nearest.1 mX5_nearest.1 ∈ pb_tbl := pb_i3 (List.mem_of_getElem? (i := 135) (by decide +kernel)) rfl
abbrev mX5_dropsOf : pb_M := (yX5_dropsOf, cX5_dropsOf, 2, (some .int))
set_option maxRecDepth 100000 in
theorem mwX5_dropsOf : pb_mw mX5_dropsOf 1 := ⟨pb_i3 (List.mem_of_getElem? (i := 209) (rfl)) rfl, pb_i1 (List.mem_of_getElem? (i := 6) (by decide +kernel)) rfl, ⟨by decide, by decide⟩, by decide +kernel, by decide⟩
theorem pnX5_dropsOf : plainName mX5_dropsOf.1.cls = true := by decide +kernel
theorem iwX5_dropsOf : Cond.instanceMethod mX5_dropsOf.1 ∈ pb_tbl := pb_i3 (List.mem_of_getElem? (i := 207) (by decide +kernel)) rfl
theorem seX5_dropsOf : Cond.selects RX5 mX5_dropsOf.1 mX5_dropsOf.1 ∈ pb_tbl := pb_i3 (List.mem_of_getElem? (i := 208) (by decide +kernel)) rfl
abbrev mX5_weigh : pb_M := (yX5_weigh, cX5_weigh, 4, none)
set_option maxRecDepth 100000 in
theorem mwX5_weigh : pb_mw mX5_weigh 1 := ⟨pb_i3 (List.mem_of_getElem? (i := 181) (rfl)) rfl, pb_i1 (List.mem_of_getElem? (i := 6) (by decide +kernel)) rfl, ⟨by decide, by decide⟩, by decide +kernel, by decide⟩
theorem pnX5_weigh : plainName mX5_weigh.1.cls = true := by decide +kernel
theorem iwX5_weigh : Cond.instanceMethod mX5_weigh.1 ∈ pb_tbl := pb_i3 (List.mem_of_getElem? (i := 180) (by decide +kernel)) rfl
abbrev mX6_init : pb_M := (yX6_init, cX6_init, 1, none)
set_option maxRecDepth 100000 in
theorem mwX6_init : pb_mw mX6_init 0 := ⟨pb_i1 (List.mem_of_getElem? (i := 215) (rfl)) rfl, pb_i1 (List.mem_of_getElem? (i := 9) (by decide +kernel)) rfl, ⟨by decide, by decide⟩, by decide +kernel, by decide⟩
theorem pnX6_init : plainName mX6_init.1.cls = true := by decide +kernel
theorem iwX6_init : Cond.instanceMethod mX6_init.1 ∈ pb_tbl := pb_i1 (List.mem_of_getElem? (i := 214) (by decide +kernel)) rfl
abbrev mX6_of : pb_M := (yX6_of, cX6_of, 2, (some .int))
set_option maxRecDepth 100000 in
theorem mwX6_of : pb_mw mX6_of 1 := ⟨pb_i2 (List.mem_of_getElem? (i := 122) (rfl)) rfl, pb_i1 (List.mem_of_getElem? (i := 9) (by decide +kernel)) rfl, ⟨by decide, by decide⟩, by decide +kernel, by decide⟩
theorem pnX6_of : plainName mX6_of.1.cls = true := by decide +kernel
theorem iwX6_of : Cond.instanceMethod mX6_of.1 ∈ pb_tbl := pb_i2 (List.mem_of_getElem? (i := 120) (by decide +kernel)) rfl
theorem seX6_of : Cond.selects RX6 mX6_of.1 mX6_of.1 ∈ pb_tbl := pb_i2 (List.mem_of_getElem? (i := 121) (by decide +kernel)) rfl
abbrev mX6_add : pb_M := (yX6_add, cX6_add, 3, none)
set_option maxRecDepth 100000 in
theorem mwX6_add : pb_mw mX6_add 2 := ⟨pb_i2 (List.mem_of_getElem? (i := 167) (rfl)) rfl, pb_i1 (List.mem_of_getElem? (i := 9) (by decide +kernel)) rfl, ⟨by decide, by decide⟩, by decide +kernel, by decide⟩
theorem pnX6_add : plainName mX6_add.1.cls = true := by decide +kernel
theorem iwX6_add : Cond.instanceMethod mX6_add.1 ∈ pb_tbl := pb_i2 (List.mem_of_getElem? (i := 165) (by decide +kernel)) rfl
theorem seX6_add : Cond.selects RX6 mX6_add.1 mX6_add.1 ∈ pb_tbl := pb_i2 (List.mem_of_getElem? (i := 166) (by decide +kernel)) rfl
abbrev mX6_addAll : pb_M := (yX6_addAll, cX6_addAll, 3, none)
set_option maxRecDepth 100000 in
theorem mwX6_addAll : pb_mw mX6_addAll 1 := ⟨pb_i2 (List.mem_of_getElem? (i := 175) (rfl)) rfl, pb_i1 (List.mem_of_getElem? (i := 9) (by decide +kernel)) rfl, ⟨by decide, by decide⟩, by decide +kernel, by decide⟩
theorem pnX6_addAll : plainName mX6_addAll.1.cls = true := by decide +kernel
theorem iwX6_addAll : Cond.instanceMethod mX6_addAll.1 ∈ pb_tbl := pb_i2 (List.mem_of_getElem? (i := 173) (by decide +kernel)) rfl
theorem seX6_addAll : Cond.selects RX6 mX6_addAll.1 mX6_addAll.1 ∈ pb_tbl := pb_i2 (List.mem_of_getElem? (i := 174) (by decide +kernel)) rfl
abbrev mX6_makeEmpty : pb_M := (yX6_makeEmpty, cX6_makeEmpty, 1, none)
set_option maxRecDepth 100000 in
theorem mwX6_makeEmpty : pb_mw mX6_makeEmpty 0 := ⟨pb_i2 (List.mem_of_getElem? (i := 180) (rfl)) rfl, pb_i1 (List.mem_of_getElem? (i := 9) (by decide +kernel)) rfl, ⟨by decide, by decide⟩, by decide +kernel, by decide⟩
theorem pnX6_makeEmpty : plainName mX6_makeEmpty.1.cls = true := by decide +kernel
theorem iwX6_makeEmpty : Cond.instanceMethod mX6_makeEmpty.1 ∈ pb_tbl := pb_i2 (List.mem_of_getElem? (i := 178) (by decide +kernel)) rfl
theorem seX6_makeEmpty : Cond.selects RX6 mX6_makeEmpty.1 mX6_makeEmpty.1 ∈ pb_tbl := pb_i2 (List.mem_of_getElem? (i := 179) (by decide +kernel)) rfl
abbrev mX6_drink : pb_M := (yX6_drink, cX6_drink, 6, (some .int))
set_option maxRecDepth 100000 in
theorem mwX6_drink : pb_mw mX6_drink 3 := ⟨pb_i2 (List.mem_of_getElem? (i := 206) (rfl)) rfl, pb_i1 (List.mem_of_getElem? (i := 9) (by decide +kernel)) rfl, ⟨by decide, by decide⟩, by decide +kernel, by decide⟩
theorem pnX6_drink : plainName mX6_drink.1.cls = true := by decide +kernel
theorem iwX6_drink : Cond.instanceMethod mX6_drink.1 ∈ pb_tbl := pb_i2 (List.mem_of_getElem? (i := 204) (by decide +kernel)) rfl
theorem seX6_drink : Cond.selects RX6 mX6_drink.1 mX6_drink.1 ∈ pb_tbl := pb_i2 (List.mem_of_getElem? (i := 205) (by decide +kernel)) rfl
abbrev mX6_scatter : pb_M := (yX6_scatter, cX6_scatter, 5, (some .int))
set_option maxRecDepth 100000 in
theorem mwX6_scatter : pb_mw mX6_scatter 2 := ⟨pb_i2 (List.mem_of_getElem? (i := 211) (rfl)) rfl, pb_i1 (List.mem_of_getElem? (i := 9) (by decide +kernel)) rfl, ⟨by decide, by decide⟩, by decide +kernel, by decide⟩
theorem pnX6_scatter : plainName mX6_scatter.1.cls = true := by decide +kernel
theorem iwX6_scatter : Cond.instanceMethod mX6_scatter.1 ∈ pb_tbl := pb_i2 (List.mem_of_getElem? (i := 209) (by decide +kernel)) rfl
theorem seX6_scatter : Cond.selects RX6 mX6_scatter.1 mX6_scatter.1 ∈ pb_tbl := pb_i2 (List.mem_of_getElem? (i := 210) (by decide +kernel)) rfl
abbrev mX6_sentThick : pb_M := (yX6_sentThick, cX6_sentThick, 3, (some .int))
set_option maxRecDepth 100000 in
theorem mwX6_sentThick : pb_mw mX6_sentThick 2 := ⟨pb_i2 (List.mem_of_getElem? (i := 202) (rfl)) rfl, pb_i1 (List.mem_of_getElem? (i := 9) (by decide +kernel)) rfl, ⟨by decide, by decide⟩, by decide +kernel, by decide⟩
theorem pnX6_sentThick : plainName mX6_sentThick.1.cls = true := by decide +kernel
theorem iwX6_sentThick : Cond.instanceMethod mX6_sentThick.1 ∈ pb_tbl := pb_i2 (List.mem_of_getElem? (i := 200) (by decide +kernel)) rfl
theorem seX6_sentThick : Cond.selects RX6 mX6_sentThick.1 mX6_sentThick.1 ∈ pb_tbl := pb_i2 (List.mem_of_getElem? (i := 201) (by decide +kernel)) rfl
abbrev mX7_thickSent : pb_M := (yX7_thickSent, cX7_thickSent, 11, (some .int))
set_option maxRecDepth 100000 in
theorem mwX7_thickSent : pb_mw mX7_thickSent 2 := ⟨pb_i2 (List.mem_of_getElem? (i := 215) (rfl)) rfl, pb_i1 (List.mem_of_getElem? (i := 13) (by decide +kernel)) rfl, ⟨by decide, by decide⟩, by decide +kernel, by decide⟩
theorem pnX7_thickSent : plainName mX7_thickSent.1.cls = true := by decide +kernel
theorem swX7_thickSent : Cond.static mX7_thickSent.1 ∈ pb_tbl := pb_i2 (List.mem_of_getElem? (i := 214) (by decide +kernel)) rfl
abbrev mX7_thinTake : pb_M := (yX7_thinTake, cX7_thinTake, 3, (some .int))
set_option maxRecDepth 100000 in
theorem mwX7_thinTake : pb_mw mX7_thinTake 2 := ⟨pb_i3 (List.mem_of_getElem? (i := 2) (rfl)) rfl, pb_i1 (List.mem_of_getElem? (i := 13) (by decide +kernel)) rfl, ⟨by decide, by decide⟩, by decide +kernel, by decide⟩
theorem pnX7_thinTake : plainName mX7_thinTake.1.cls = true := by decide +kernel
theorem swX7_thinTake : Cond.static mX7_thinTake.1 ∈ pb_tbl := pb_i3 (List.mem_of_getElem? (i := 1) (by decide +kernel)) rfl
abbrev mX7_thinSend : pb_M := (yX7_thinSend, cX7_thinSend, 3, (some .int))
set_option maxRecDepth 100000 in
theorem mwX7_thinSend : pb_mw mX7_thinSend 2 := ⟨pb_i3 (List.mem_of_getElem? (i := 5) (rfl)) rfl, pb_i1 (List.mem_of_getElem? (i := 13) (by decide +kernel)) rfl, ⟨by decide, by decide⟩, by decide +kernel, by decide⟩
theorem pnX7_thinSend : plainName mX7_thinSend.1.cls = true := by decide +kernel
theorem swX7_thinSend : Cond.static mX7_thinSend.1 ∈ pb_tbl := pb_i3 (List.mem_of_getElem? (i := 4) (by decide +kernel)) rfl
abbrev mX7_thin : pb_M := (yX7_thin, cX7_thin, 7, (some .int))
set_option maxRecDepth 100000 in
theorem mwX7_thin : pb_mw mX7_thin 3 := ⟨pb_i3 (List.mem_of_getElem? (i := 11) (rfl)) rfl, pb_i1 (List.mem_of_getElem? (i := 13) (by decide +kernel)) rfl, ⟨by decide, by decide⟩, by decide +kernel, by decide⟩
theorem pnX7_thin : plainName mX7_thin.1.cls = true := by decide +kernel
theorem swX7_thin : Cond.static mX7_thin.1 ∈ pb_tbl := pb_i3 (List.mem_of_getElem? (i := 10) (by decide +kernel)) rfl
abbrev mX7_layered : pb_M := (yX7_layered, cX7_layered, 7, (some .int))
set_option maxRecDepth 100000 in
theorem mwX7_layered : pb_mw mX7_layered 4 := ⟨pb_i3 (List.mem_of_getElem? (i := 8) (rfl)) rfl, pb_i1 (List.mem_of_getElem? (i := 13) (by decide +kernel)) rfl, ⟨by decide, by decide⟩, by decide +kernel, by decide⟩
theorem pnX7_layered : plainName mX7_layered.1.cls = true := by decide +kernel
theorem swX7_layered : Cond.static mX7_layered.1 ∈ pb_tbl := pb_i3 (List.mem_of_getElem? (i := 7) (by decide +kernel)) rfl
abbrev mX7_leastHiding : pb_M := (yX7_leastHiding, cX7_leastHiding, 6, (some .int))
set_option maxRecDepth 100000 in
theorem mwX7_leastHiding : pb_mw mX7_leastHiding 3 := ⟨pb_i3 (List.mem_of_getElem? (i := 19) (rfl)) rfl, pb_i1 (List.mem_of_getElem? (i := 13) (by decide +kernel)) rfl, ⟨by decide, by decide⟩, by decide +kernel, by decide⟩
theorem pnX7_leastHiding : plainName mX7_leastHiding.1.cls = true := by decide +kernel
theorem swX7_leastHiding : Cond.static mX7_leastHiding.1 ∈ pb_tbl := pb_i3 (List.mem_of_getElem? (i := 18) (by decide +kernel)) rfl
abbrev mX8_init : pb_M := (yX8_init, cX8_init, 1, none)
set_option maxRecDepth 100000 in
theorem mwX8_init : pb_mw mX8_init 0 := ⟨pb_i1 (List.mem_of_getElem? (i := 30) (rfl)) rfl, pb_i1 (List.mem_of_getElem? (i := 2) (by decide +kernel)) rfl, ⟨by decide, by decide⟩, by decide +kernel, by decide⟩
theorem pnX8_init : plainName mX8_init.1.cls = true := by decide +kernel
theorem iwX8_init : Cond.instanceMethod mX8_init.1 ∈ pb_tbl := pb_i1 (List.mem_of_getElem? (i := 29) (by decide +kernel)) rfl
abbrev mX8_isFull : pb_M := (yX8_isFull, cX8_isFull, 1, (some .boolean))
set_option maxRecDepth 100000 in
theorem mwX8_isFull : pb_mw mX8_isFull 0 := ⟨pb_i2 (List.mem_of_getElem? (i := 51) (rfl)) rfl, pb_i1 (List.mem_of_getElem? (i := 2) (by decide +kernel)) rfl, ⟨by decide, by decide⟩, by decide +kernel, by decide⟩
theorem pnX8_isFull : plainName mX8_isFull.1.cls = true := by decide +kernel
theorem iwX8_isFull : Cond.instanceMethod mX8_isFull.1 ∈ pb_tbl := pb_i2 (List.mem_of_getElem? (i := 49) (by decide +kernel)) rfl
theorem seX8_isFull : Cond.selects RX8 mX8_isFull.1 mX8_isFull.1 ∈ pb_tbl := pb_i2 (List.mem_of_getElem? (i := 50) (by decide +kernel)) rfl
abbrev mX8_add : pb_M := (yX8_add, cX8_add, 2, (some .int))
set_option maxRecDepth 100000 in
theorem mwX8_add : pb_mw mX8_add 1 := ⟨pb_i2 (List.mem_of_getElem? (i := 96) (rfl)) rfl, pb_i1 (List.mem_of_getElem? (i := 2) (by decide +kernel)) rfl, ⟨by decide, by decide⟩, by decide +kernel, by decide⟩
theorem pnX8_add : plainName mX8_add.1.cls = true := by decide +kernel
theorem iwX8_add : Cond.instanceMethod mX8_add.1 ∈ pb_tbl := pb_i2 (List.mem_of_getElem? (i := 94) (by decide +kernel)) rfl
theorem seX8_add : Cond.selects RX8 mX8_add.1 mX8_add.1 ∈ pb_tbl := pb_i2 (List.mem_of_getElem? (i := 95) (by decide +kernel)) rfl
abbrev mX8_at : pb_M := (yX8_at, cX8_at, 2, (some (.object "PaintBox$Tube")))
set_option maxRecDepth 100000 in
theorem mwX8_at : pb_mw mX8_at 1 := ⟨pb_i2 (List.mem_of_getElem? (i := 105) (rfl)) rfl, pb_i1 (List.mem_of_getElem? (i := 2) (by decide +kernel)) rfl, ⟨by decide, by decide⟩, by decide +kernel, by decide⟩
theorem pnX8_at : plainName mX8_at.1.cls = true := by decide +kernel
theorem iwX8_at : Cond.instanceMethod mX8_at.1 ∈ pb_tbl := pb_i2 (List.mem_of_getElem? (i := 103) (by decide +kernel)) rfl
theorem seX8_at : Cond.selects RX8 mX8_at.1 mX8_at.1 ∈ pb_tbl := pb_i2 (List.mem_of_getElem? (i := 104) (by decide +kernel)) rfl
abbrev mX8_hasSet : pb_M := (yX8_hasSet, cX8_hasSet, 2, (some .boolean))
set_option maxRecDepth 100000 in
theorem mwX8_hasSet : pb_mw mX8_hasSet 1 := ⟨pb_i3 (List.mem_of_getElem? (i := 132) (rfl)) rfl, pb_i1 (List.mem_of_getElem? (i := 2) (by decide +kernel)) rfl, ⟨by decide, by decide⟩, by decide +kernel, by decide⟩
theorem pnX8_hasSet : plainName mX8_hasSet.1.cls = true := by decide +kernel
theorem iwX8_hasSet : Cond.instanceMethod mX8_hasSet.1 ∈ pb_tbl := pb_i3 (List.mem_of_getElem? (i := 130) (by decide +kernel)) rfl
theorem seX8_hasSet : Cond.selects RX8 mX8_hasSet.1 mX8_hasSet.1 ∈ pb_tbl := pb_i3 (List.mem_of_getElem? (i := 131) (by decide +kernel)) rfl
abbrev mX8_countLost : pb_M := (yX8_countLost, cX8_countLost, 3, none)
set_option maxRecDepth 100000 in
theorem mwX8_countLost : pb_mw mX8_countLost 1 := ⟨pb_i2 (List.mem_of_getElem? (i := 189) (rfl)) rfl, pb_i1 (List.mem_of_getElem? (i := 2) (by decide +kernel)) rfl, ⟨by decide, by decide⟩, by decide +kernel, by decide⟩
theorem pnX8_countLost : plainName mX8_countLost.1.cls = true := by decide +kernel
theorem iwX8_countLost : Cond.instanceMethod mX8_countLost.1 ∈ pb_tbl := pb_i2 (List.mem_of_getElem? (i := 187) (by decide +kernel)) rfl
theorem seX8_countLost : Cond.selects RX8 mX8_countLost.1 mX8_countLost.1 ∈ pb_tbl := pb_i2 (List.mem_of_getElem? (i := 188) (by decide +kernel)) rfl
abbrev mX8_countLaid : pb_M := (yX8_countLaid, cX8_countLaid, 3, none)
set_option maxRecDepth 100000 in
theorem mwX8_countLaid : pb_mw mX8_countLaid 1 := ⟨pb_i3 (List.mem_of_getElem? (i := 79) (rfl)) rfl, pb_i1 (List.mem_of_getElem? (i := 2) (by decide +kernel)) rfl, ⟨by decide, by decide⟩, by decide +kernel, by decide⟩
theorem pnX8_countLaid : plainName mX8_countLaid.1.cls = true := by decide +kernel
theorem iwX8_countLaid : Cond.instanceMethod mX8_countLaid.1 ∈ pb_tbl := pb_i3 (List.mem_of_getElem? (i := 77) (by decide +kernel)) rfl
theorem seX8_countLaid : Cond.selects RX8 mX8_countLaid.1 mX8_countLaid.1 ∈ pb_tbl := pb_i3 (List.mem_of_getElem? (i := 78) (by decide +kernel)) rfl
abbrev mX8_allLaid : pb_M := (yX8_allLaid, cX8_allLaid, 3, (some .int))
set_option maxRecDepth 100000 in
theorem mwX8_allLaid : pb_mw mX8_allLaid 0 := ⟨pb_i4 (List.mem_of_getElem? (i := 67) (rfl)) rfl, pb_i1 (List.mem_of_getElem? (i := 2) (by decide +kernel)) rfl, ⟨by decide, by decide⟩, by decide +kernel, by decide⟩
theorem pnX8_allLaid : plainName mX8_allLaid.1.cls = true := by decide +kernel
theorem iwX8_allLaid : Cond.instanceMethod mX8_allLaid.1 ∈ pb_tbl := pb_i4 (List.mem_of_getElem? (i := 65) (by decide +kernel)) rfl
theorem seX8_allLaid : Cond.selects RX8 mX8_allLaid.1 mX8_allLaid.1 ∈ pb_tbl := pb_i4 (List.mem_of_getElem? (i := 66) (by decide +kernel)) rfl
abbrev mX8_allLost : pb_M := (yX8_allLost, cX8_allLost, 3, (some .int))
set_option maxRecDepth 100000 in
theorem mwX8_allLost : pb_mw mX8_allLost 0 := ⟨pb_i4 (List.mem_of_getElem? (i := 71) (rfl)) rfl, pb_i1 (List.mem_of_getElem? (i := 2) (by decide +kernel)) rfl, ⟨by decide, by decide⟩, by decide +kernel, by decide⟩
theorem pnX8_allLost : plainName mX8_allLost.1.cls = true := by decide +kernel
theorem iwX8_allLost : Cond.instanceMethod mX8_allLost.1 ∈ pb_tbl := pb_i4 (List.mem_of_getElem? (i := 69) (by decide +kernel)) rfl
theorem seX8_allLost : Cond.selects RX8 mX8_allLost.1 mX8_allLost.1 ∈ pb_tbl := pb_i4 (List.mem_of_getElem? (i := 70) (by decide +kernel)) rfl
abbrev mX8_allHeld : pb_M := (yX8_allHeld, cX8_allHeld, 3, (some .int))
set_option maxRecDepth 100000 in
theorem mwX8_allHeld : pb_mw mX8_allHeld 0 := ⟨pb_i4 (List.mem_of_getElem? (i := 75) (rfl)) rfl, pb_i1 (List.mem_of_getElem? (i := 2) (by decide +kernel)) rfl, ⟨by decide, by decide⟩, by decide +kernel, by decide⟩
theorem pnX8_allHeld : plainName mX8_allHeld.1.cls = true := by decide +kernel
theorem iwX8_allHeld : Cond.instanceMethod mX8_allHeld.1 ∈ pb_tbl := pb_i4 (List.mem_of_getElem? (i := 73) (by decide +kernel)) rfl
theorem seX8_allHeld : Cond.selects RX8 mX8_allHeld.1 mX8_allHeld.1 ∈ pb_tbl := pb_i4 (List.mem_of_getElem? (i := 74) (by decide +kernel)) rfl
abbrev mX9_init : pb_M := (yX9_init, cX9_init, 1, none)
set_option maxRecDepth 100000 in
theorem mwX9_init : pb_mw mX9_init 0 := ⟨pb_i1 (List.mem_of_getElem? (i := 91) (rfl)) rfl, pb_i1 (List.mem_of_getElem? (i := 5) (by decide +kernel)) rfl, ⟨by decide, by decide⟩, by decide +kernel, by decide⟩
theorem pnX9_init : plainName mX9_init.1.cls = true := by decide +kernel
theorem iwX9_init : Cond.instanceMethod mX9_init.1 ∈ pb_tbl := pb_i1 (List.mem_of_getElem? (i := 90) (by decide +kernel)) rfl
abbrev mX9_goThrough : pb_M := (yX9_goThrough, cX9_goThrough, 7, none)
set_option maxRecDepth 100000 in
theorem mwX9_goThrough : pb_mw mX9_goThrough 4 := ⟨pb_i3 (List.mem_of_getElem? (i := 145) (rfl)) rfl, pb_i1 (List.mem_of_getElem? (i := 5) (by decide +kernel)) rfl, ⟨by decide, by decide⟩, by decide +kernel, by decide⟩
theorem pnX9_goThrough : plainName mX9_goThrough.1.cls = true := by decide +kernel
theorem iwX9_goThrough : Cond.instanceMethod mX9_goThrough.1 ∈ pb_tbl := pb_i3 (List.mem_of_getElem? (i := 144) (by decide +kernel)) rfl
abbrev mX9_addMember : pb_M := (yX9_addMember, cX9_addMember, 4, none)
set_option maxRecDepth 100000 in
theorem mwX9_addMember : pb_mw mX9_addMember 2 := ⟨pb_i3 (List.mem_of_getElem? (i := 150) (rfl)) rfl, pb_i1 (List.mem_of_getElem? (i := 5) (by decide +kernel)) rfl, ⟨by decide, by decide⟩, by decide +kernel, by decide⟩
theorem pnX9_addMember : plainName mX9_addMember.1.cls = true := by decide +kernel
theorem iwX9_addMember : Cond.instanceMethod mX9_addMember.1 ∈ pb_tbl := pb_i3 (List.mem_of_getElem? (i := 149) (by decide +kernel)) rfl
abbrev mX9_spread : pb_M := (yX9_spread, cX9_spread, 7, none)
set_option maxRecDepth 100000 in
theorem mwX9_spread : pb_mw mX9_spread 4 := ⟨pb_i3 (List.mem_of_getElem? (i := 156) (rfl)) rfl, pb_i1 (List.mem_of_getElem? (i := 5) (by decide +kernel)) rfl, ⟨by decide, by decide⟩, by decide +kernel, by decide⟩
theorem pnX9_spread : plainName mX9_spread.1.cls = true := by decide +kernel
theorem iwX9_spread : Cond.instanceMethod mX9_spread.1 ∈ pb_tbl := pb_i3 (List.mem_of_getElem? (i := 155) (by decide +kernel)) rfl
abbrev mX9_sumUp : pb_M := (yX9_sumUp, cX9_sumUp, 5, none)
set_option maxRecDepth 100000 in
theorem mwX9_sumUp : pb_mw mX9_sumUp 1 := ⟨pb_i3 (List.mem_of_getElem? (i := 201) (rfl)) rfl, pb_i1 (List.mem_of_getElem? (i := 5) (by decide +kernel)) rfl, ⟨by decide, by decide⟩, by decide +kernel, by decide⟩
theorem pnX9_sumUp : plainName mX9_sumUp.1.cls = true := by decide +kernel
theorem iwX9_sumUp : Cond.instanceMethod mX9_sumUp.1 ∈ pb_tbl := pb_i3 (List.mem_of_getElem? (i := 200) (by decide +kernel)) rfl
abbrev mX9_bySight : pb_M := (yX9_bySight, cX9_bySight, 6, (some .int))
set_option maxRecDepth 100000 in
theorem mwX9_bySight : pb_mw mX9_bySight 2 := ⟨pb_i3 (List.mem_of_getElem? (i := 175) (rfl)) rfl, pb_i1 (List.mem_of_getElem? (i := 5) (by decide +kernel)) rfl, ⟨by decide, by decide⟩, by decide +kernel, by decide⟩
theorem pnX9_bySight : plainName mX9_bySight.1.cls = true := by decide +kernel
theorem iwX9_bySight : Cond.instanceMethod mX9_bySight.1 ∈ pb_tbl := pb_i3 (List.mem_of_getElem? (i := 174) (by decide +kernel)) rfl
abbrev mX9_tubesUsed : pb_M := (yX9_tubesUsed, cX9_tubesUsed, 3, (some .int))
set_option maxRecDepth 100000 in
theorem mwX9_tubesUsed : pb_mw mX9_tubesUsed 0 := ⟨pb_i3 (List.mem_of_getElem? (i := 169) (rfl)) rfl, pb_i1 (List.mem_of_getElem? (i := 5) (by decide +kernel)) rfl, ⟨by decide, by decide⟩, by decide +kernel, by decide⟩
theorem pnX9_tubesUsed : plainName mX9_tubesUsed.1.cls = true := by decide +kernel
theorem iwX9_tubesUsed : Cond.instanceMethod mX9_tubesUsed.1 ∈ pb_tbl := pb_i3 (List.mem_of_getElem? (i := 168) (by decide +kernel)) rfl
abbrev mX9_cost : pb_M := (yX9_cost, cX9_cost, 3, (some .int))
set_option maxRecDepth 100000 in
theorem mwX9_cost : pb_mw mX9_cost 0 := ⟨pb_i3 (List.mem_of_getElem? (i := 191) (rfl)) rfl, pb_i1 (List.mem_of_getElem? (i := 5) (by decide +kernel)) rfl, ⟨by decide, by decide⟩, by decide +kernel, by decide⟩
theorem pnX9_cost : plainName mX9_cost.1.cls = true := by decide +kernel
theorem iwX9_cost : Cond.instanceMethod mX9_cost.1 ∈ pb_tbl := pb_i3 (List.mem_of_getElem? (i := 190) (by decide +kernel)) rfl
abbrev mX9_writeDrops : pb_M := (yX9_writeDrops, cX9_writeDrops, 3, none)
set_option maxRecDepth 100000 in
theorem mwX9_writeDrops : pb_mw mX9_writeDrops 1 := ⟨pb_i3 (List.mem_of_getElem? (i := 197) (rfl)) rfl, pb_i1 (List.mem_of_getElem? (i := 5) (by decide +kernel)) rfl, ⟨by decide, by decide⟩, by decide +kernel, by decide⟩
theorem pnX9_writeDrops : plainName mX9_writeDrops.1.cls = true := by decide +kernel
theorem iwX9_writeDrops : Cond.instanceMethod mX9_writeDrops.1 ∈ pb_tbl := pb_i3 (List.mem_of_getElem? (i := 196) (by decide +kernel)) rfl
abbrev mX10_init : pb_M := (yX10_init, cX10_init, 5, none)
set_option maxRecDepth 100000 in
theorem mwX10_init : pb_mw mX10_init 3 := ⟨pb_i2 (List.mem_of_getElem? (i := 56) (rfl)) rfl, pb_i1 (List.mem_of_getElem? (i := 12) (by decide +kernel)) rfl, ⟨by decide, by decide⟩, by decide +kernel, by decide⟩
theorem pnX10_init : plainName mX10_init.1.cls = true := by decide +kernel
theorem iwX10_init : Cond.instanceMethod mX10_init.1 ∈ pb_tbl := pb_i2 (List.mem_of_getElem? (i := 55) (by decide +kernel)) rfl
abbrev mX10_paint : pb_M := (yX10_paint, cX10_paint, 6, none)
set_option maxRecDepth 100000 in
theorem mwX10_paint : pb_mw mX10_paint 3 := ⟨pb_i2 (List.mem_of_getElem? (i := 61) (rfl)) rfl, pb_i1 (List.mem_of_getElem? (i := 12) (by decide +kernel)) rfl, ⟨by decide, by decide⟩, by decide +kernel, by decide⟩
theorem pnX10_paint : plainName mX10_paint.1.cls = true := by decide +kernel
theorem iwX10_paint : Cond.instanceMethod mX10_paint.1 ∈ pb_tbl := pb_i2 (List.mem_of_getElem? (i := 59) (by decide +kernel)) rfl
theorem seX10_paint : Cond.selects RX10 mX10_paint.1 mX10_paint.1 ∈ pb_tbl := pb_i2 (List.mem_of_getElem? (i := 60) (by decide +kernel)) rfl
abbrev mX10_drinkAfter : pb_M := (yX10_drinkAfter, cX10_drinkAfter, 3, (some .int))
set_option maxRecDepth 100000 in
theorem mwX10_drinkAfter : pb_mw mX10_drinkAfter 2 := ⟨pb_i2 (List.mem_of_getElem? (i := 130) (rfl)) rfl, pb_i1 (List.mem_of_getElem? (i := 12) (by decide +kernel)) rfl, ⟨by decide, by decide⟩, by decide +kernel, by decide⟩
theorem pnX10_drinkAfter : plainName mX10_drinkAfter.1.cls = true := by decide +kernel
theorem iwX10_drinkAfter : Cond.instanceMethod mX10_drinkAfter.1 ∈ pb_tbl := pb_i2 (List.mem_of_getElem? (i := 128) (by decide +kernel)) rfl
theorem seX10_drinkAfter : Cond.selects RX10 mX10_drinkAfter.1 mX10_drinkAfter.1 ∈ pb_tbl := pb_i2 (List.mem_of_getElem? (i := 129) (by decide +kernel)) rfl
abbrev mX10_scatterOf : pb_M := (yX10_scatterOf, cX10_scatterOf, 2, (some .int))
set_option maxRecDepth 100000 in
theorem mwX10_scatterOf : pb_mw mX10_scatterOf 1 := ⟨pb_i2 (List.mem_of_getElem? (i := 134) (rfl)) rfl, pb_i1 (List.mem_of_getElem? (i := 12) (by decide +kernel)) rfl, ⟨by decide, by decide⟩, by decide +kernel, by decide⟩
theorem pnX10_scatterOf : plainName mX10_scatterOf.1.cls = true := by decide +kernel
theorem iwX10_scatterOf : Cond.instanceMethod mX10_scatterOf.1 ∈ pb_tbl := pb_i2 (List.mem_of_getElem? (i := 132) (by decide +kernel)) rfl
theorem seX10_scatterOf : Cond.selects RX10 mX10_scatterOf.1 mX10_scatterOf.1 ∈ pb_tbl := pb_i2 (List.mem_of_getElem? (i := 133) (by decide +kernel)) rfl
abbrev mX11_init : pb_M := (yX11_init, cX11_init, 2, none)
set_option maxRecDepth 100000 in
theorem mwX11_init : pb_mw mX11_init 0 := ⟨pb_i1 (List.mem_of_getElem? (i := 22) (rfl)) rfl, pb_i1 (List.mem_of_getElem? (i := 1) (by decide +kernel)) rfl, ⟨by decide, by decide⟩, by decide +kernel, by decide⟩
theorem pnX11_init : plainName mX11_init.1.cls = true := by decide +kernel
theorem iwX11_init : Cond.instanceMethod mX11_init.1 ∈ pb_tbl := pb_i1 (List.mem_of_getElem? (i := 21) (by decide +kernel)) rfl
abbrev mX11_tube : pb_M := (yX11_tube, cX11_tube, 4, (some .int))
set_option maxRecDepth 100000 in
theorem mwX11_tube : pb_mw mX11_tube 3 := ⟨pb_i2 (List.mem_of_getElem? (i := 44) (rfl)) rfl, pb_i1 (List.mem_of_getElem? (i := 1) (by decide +kernel)) rfl, ⟨by decide, by decide⟩, by decide +kernel, by decide⟩
theorem pnX11_tube : plainName mX11_tube.1.cls = true := by decide +kernel
theorem iwX11_tube : Cond.instanceMethod mX11_tube.1 ∈ pb_tbl := pb_i2 (List.mem_of_getElem? (i := 42) (by decide +kernel)) rfl
theorem seX11_tube : Cond.selects RX11 mX11_tube.1 mX11_tube.1 ∈ pb_tbl := pb_i2 (List.mem_of_getElem? (i := 43) (by decide +kernel)) rfl
abbrev mX11_band : pb_M := (yX11_band, cX11_band, 6, (some .int))
set_option maxRecDepth 100000 in
theorem mwX11_band : pb_mw mX11_band 4 := ⟨pb_i2 (List.mem_of_getElem? (i := 101) (rfl)) rfl, pb_i1 (List.mem_of_getElem? (i := 1) (by decide +kernel)) rfl, ⟨by decide, by decide⟩, by decide +kernel, by decide⟩
theorem pnX11_band : plainName mX11_band.1.cls = true := by decide +kernel
theorem iwX11_band : Cond.instanceMethod mX11_band.1 ∈ pb_tbl := pb_i2 (List.mem_of_getElem? (i := 99) (by decide +kernel)) rfl
theorem seX11_band : Cond.selects RX11 mX11_band.1 mX11_band.1 ∈ pb_tbl := pb_i2 (List.mem_of_getElem? (i := 100) (by decide +kernel)) rfl
abbrev mX11_ofTube : pb_M := (yX11_ofTube, cX11_ofTube, 4, (some .int))
set_option maxRecDepth 100000 in
theorem mwX11_ofTube : pb_mw mX11_ofTube 2 := ⟨pb_i2 (List.mem_of_getElem? (i := 114) (rfl)) rfl, pb_i1 (List.mem_of_getElem? (i := 1) (by decide +kernel)) rfl, ⟨by decide, by decide⟩, by decide +kernel, by decide⟩
theorem pnX11_ofTube : plainName mX11_ofTube.1.cls = true := by decide +kernel
theorem iwX11_ofTube : Cond.instanceMethod mX11_ofTube.1 ∈ pb_tbl := pb_i2 (List.mem_of_getElem? (i := 112) (by decide +kernel)) rfl
theorem seX11_ofTube : Cond.selects RX11 mX11_ofTube.1 mX11_ofTube.1 ∈ pb_tbl := pb_i2 (List.mem_of_getElem? (i := 113) (by decide +kernel)) rfl
abbrev mX11_row : pb_M := (yX11_row, cX11_row, 6, (some .int))
set_option maxRecDepth 100000 in
theorem mwX11_row : pb_mw mX11_row 4 := ⟨pb_i2 (List.mem_of_getElem? (i := 126) (rfl)) rfl, pb_i1 (List.mem_of_getElem? (i := 1) (by decide +kernel)) rfl, ⟨by decide, by decide⟩, by decide +kernel, by decide⟩
theorem pnX11_row : plainName mX11_row.1.cls = true := by decide +kernel
theorem iwX11_row : Cond.instanceMethod mX11_row.1 ∈ pb_tbl := pb_i2 (List.mem_of_getElem? (i := 124) (by decide +kernel)) rfl
theorem seX11_row : Cond.selects RX11 mX11_row.1 mX11_row.1 ∈ pb_tbl := pb_i2 (List.mem_of_getElem? (i := 125) (by decide +kernel)) rfl
abbrev mX11_lamp : pb_M := (yX11_lamp, cX11_lamp, 4, (some .int))
set_option maxRecDepth 100000 in
theorem mwX11_lamp : pb_mw mX11_lamp 3 := ⟨pb_i2 (List.mem_of_getElem? (i := 138) (rfl)) rfl, pb_i1 (List.mem_of_getElem? (i := 1) (by decide +kernel)) rfl, ⟨by decide, by decide⟩, by decide +kernel, by decide⟩
theorem pnX11_lamp : plainName mX11_lamp.1.cls = true := by decide +kernel
theorem iwX11_lamp : Cond.instanceMethod mX11_lamp.1 ∈ pb_tbl := pb_i2 (List.mem_of_getElem? (i := 136) (by decide +kernel)) rfl
theorem seX11_lamp : Cond.selects RX11 mX11_lamp.1 mX11_lamp.1 ∈ pb_tbl := pb_i2 (List.mem_of_getElem? (i := 137) (by decide +kernel)) rfl
abbrev mX11_eye : pb_M := (yX11_eye, cX11_eye, 4, (some .int))
set_option maxRecDepth 100000 in
theorem mwX11_eye : pb_mw mX11_eye 3 := ⟨pb_i2 (List.mem_of_getElem? (i := 148) (rfl)) rfl, pb_i1 (List.mem_of_getElem? (i := 1) (by decide +kernel)) rfl, ⟨by decide, by decide⟩, by decide +kernel, by decide⟩
theorem pnX11_eye : plainName mX11_eye.1.cls = true := by decide +kernel
theorem iwX11_eye : Cond.instanceMethod mX11_eye.1 ∈ pb_tbl := pb_i2 (List.mem_of_getElem? (i := 146) (by decide +kernel)) rfl
theorem seX11_eye : Cond.selects RX11 mX11_eye.1 mX11_eye.1 ∈ pb_tbl := pb_i2 (List.mem_of_getElem? (i := 147) (by decide +kernel)) rfl
abbrev mX11_years : pb_M := (yX11_years, cX11_years, 2, (some .int))
set_option maxRecDepth 100000 in
theorem mwX11_years : pb_mw mX11_years 1 := ⟨pb_i2 (List.mem_of_getElem? (i := 155) (rfl)) rfl, pb_i1 (List.mem_of_getElem? (i := 1) (by decide +kernel)) rfl, ⟨by decide, by decide⟩, by decide +kernel, by decide⟩
theorem pnX11_years : plainName mX11_years.1.cls = true := by decide +kernel
theorem iwX11_years : Cond.instanceMethod mX11_years.1 ∈ pb_tbl := pb_i2 (List.mem_of_getElem? (i := 153) (by decide +kernel)) rfl
theorem seX11_years : Cond.selects RX11 mX11_years.1 mX11_years.1 ∈ pb_tbl := pb_i2 (List.mem_of_getElem? (i := 154) (by decide +kernel)) rfl
abbrev mX11_press : pb_M := (yX11_press, cX11_press, 6, (some .int))
set_option maxRecDepth 100000 in
theorem mwX11_press : pb_mw mX11_press 3 := ⟨pb_i2 (List.mem_of_getElem? (i := 159) (rfl)) rfl, pb_i1 (List.mem_of_getElem? (i := 1) (by decide +kernel)) rfl, ⟨by decide, by decide⟩, by decide +kernel, by decide⟩
theorem pnX11_press : plainName mX11_press.1.cls = true := by decide +kernel
theorem iwX11_press : Cond.instanceMethod mX11_press.1 ∈ pb_tbl := pb_i2 (List.mem_of_getElem? (i := 157) (by decide +kernel)) rfl
theorem seX11_press : Cond.selects RX11 mX11_press.1 mX11_press.1 ∈ pb_tbl := pb_i2 (List.mem_of_getElem? (i := 158) (by decide +kernel)) rfl
abbrev mX11_pour : pb_M := (yX11_pour, cX11_pour, 5, (some .int))
set_option maxRecDepth 100000 in
theorem mwX11_pour : pb_mw mX11_pour 2 := ⟨pb_i2 (List.mem_of_getElem? (i := 171) (rfl)) rfl, pb_i1 (List.mem_of_getElem? (i := 1) (by decide +kernel)) rfl, ⟨by decide, by decide⟩, by decide +kernel, by decide⟩
theorem pnX11_pour : plainName mX11_pour.1.cls = true := by decide +kernel
theorem iwX11_pour : Cond.instanceMethod mX11_pour.1 ∈ pb_tbl := pb_i2 (List.mem_of_getElem? (i := 169) (by decide +kernel)) rfl
theorem seX11_pour : Cond.selects RX11 mX11_pour.1 mX11_pour.1 ∈ pb_tbl := pb_i2 (List.mem_of_getElem? (i := 170) (by decide +kernel)) rfl
abbrev mX11_waste : pb_M := (yX11_waste, cX11_waste, 4, (some .int))
set_option maxRecDepth 100000 in
theorem mwX11_waste : pb_mw mX11_waste 1 := ⟨pb_i2 (List.mem_of_getElem? (i := 185) (rfl)) rfl, pb_i1 (List.mem_of_getElem? (i := 1) (by decide +kernel)) rfl, ⟨by decide, by decide⟩, by decide +kernel, by decide⟩
theorem pnX11_waste : plainName mX11_waste.1.cls = true := by decide +kernel
theorem iwX11_waste : Cond.instanceMethod mX11_waste.1 ∈ pb_tbl := pb_i2 (List.mem_of_getElem? (i := 183) (by decide +kernel)) rfl
theorem seX11_waste : Cond.selects RX11 mX11_waste.1 mX11_waste.1 ∈ pb_tbl := pb_i2 (List.mem_of_getElem? (i := 184) (by decide +kernel)) rfl
abbrev mX11_drops : pb_M := (yX11_drops, cX11_drops, 4, (some .int))
set_option maxRecDepth 100000 in
theorem mwX11_drops : pb_mw mX11_drops 2 := ⟨pb_i2 (List.mem_of_getElem? (i := 194) (rfl)) rfl, pb_i1 (List.mem_of_getElem? (i := 1) (by decide +kernel)) rfl, ⟨by decide, by decide⟩, by decide +kernel, by decide⟩
theorem pnX11_drops : plainName mX11_drops.1.cls = true := by decide +kernel
theorem iwX11_drops : Cond.instanceMethod mX11_drops.1 ∈ pb_tbl := pb_i2 (List.mem_of_getElem? (i := 192) (by decide +kernel)) rfl
theorem seX11_drops : Cond.selects RX11 mX11_drops.1 mX11_drops.1 ∈ pb_tbl := pb_i2 (List.mem_of_getElem? (i := 193) (by decide +kernel)) rfl
abbrev mX11_thick : pb_M := (yX11_thick, cX11_thick, 4, (some .int))
set_option maxRecDepth 100000 in
theorem mwX11_thick : pb_mw mX11_thick 2 := ⟨pb_i2 (List.mem_of_getElem? (i := 198) (rfl)) rfl, pb_i1 (List.mem_of_getElem? (i := 1) (by decide +kernel)) rfl, ⟨by decide, by decide⟩, by decide +kernel, by decide⟩
theorem pnX11_thick : plainName mX11_thick.1.cls = true := by decide +kernel
theorem iwX11_thick : Cond.instanceMethod mX11_thick.1 ∈ pb_tbl := pb_i2 (List.mem_of_getElem? (i := 196) (by decide +kernel)) rfl
theorem seX11_thick : Cond.selects RX11 mX11_thick.1 mX11_thick.1 ∈ pb_tbl := pb_i2 (List.mem_of_getElem? (i := 197) (by decide +kernel)) rfl
abbrev mX11_seen : pb_M := (yX11_seen, cX11_seen, 6, (some .int))
set_option maxRecDepth 100000 in
theorem mwX11_seen : pb_mw mX11_seen 3 := ⟨pb_i2 (List.mem_of_getElem? (i := 222) (rfl)) rfl, pb_i1 (List.mem_of_getElem? (i := 1) (by decide +kernel)) rfl, ⟨by decide, by decide⟩, by decide +kernel, by decide⟩
theorem pnX11_seen : plainName mX11_seen.1.cls = true := by decide +kernel
theorem iwX11_seen : Cond.instanceMethod mX11_seen.1 ∈ pb_tbl := pb_i2 (List.mem_of_getElem? (i := 220) (by decide +kernel)) rfl
theorem seX11_seen : Cond.selects RX11 mX11_seen.1 mX11_seen.1 ∈ pb_tbl := pb_i2 (List.mem_of_getElem? (i := 221) (by decide +kernel)) rfl
abbrev mX11_over : pb_M := (yX11_over, cX11_over, 8, (some .int))
set_option maxRecDepth 100000 in
theorem mwX11_over : pb_mw mX11_over 4 := ⟨pb_i2 (List.mem_of_getElem? (i := 234) (rfl)) rfl, pb_i1 (List.mem_of_getElem? (i := 1) (by decide +kernel)) rfl, ⟨by decide, by decide⟩, by decide +kernel, by decide⟩
theorem pnX11_over : plainName mX11_over.1.cls = true := by decide +kernel
theorem iwX11_over : Cond.instanceMethod mX11_over.1 ∈ pb_tbl := pb_i2 (List.mem_of_getElem? (i := 232) (by decide +kernel)) rfl
theorem seX11_over : Cond.selects RX11 mX11_over.1 mX11_over.1 ∈ pb_tbl := pb_i2 (List.mem_of_getElem? (i := 233) (by decide +kernel)) rfl
abbrev mX11_hiding : pb_M := (yX11_hiding, cX11_hiding, 8, (some .int))
set_option maxRecDepth 100000 in
theorem mwX11_hiding : pb_mw mX11_hiding 2 := ⟨pb_i3 (List.mem_of_getElem? (i := 16) (rfl)) rfl, pb_i1 (List.mem_of_getElem? (i := 1) (by decide +kernel)) rfl, ⟨by decide, by decide⟩, by decide +kernel, by decide⟩
theorem pnX11_hiding : plainName mX11_hiding.1.cls = true := by decide +kernel
theorem iwX11_hiding : Cond.instanceMethod mX11_hiding.1 ∈ pb_tbl := pb_i3 (List.mem_of_getElem? (i := 14) (by decide +kernel)) rfl
theorem seX11_hiding : Cond.selects RX11 mX11_hiding.1 mX11_hiding.1 ∈ pb_tbl := pb_i3 (List.mem_of_getElem? (i := 15) (by decide +kernel)) rfl
abbrev mX11_ground : pb_M := (yX11_ground, cX11_ground, 5, (some .int))
set_option maxRecDepth 100000 in
theorem mwX11_ground : pb_mw mX11_ground 2 := ⟨pb_i3 (List.mem_of_getElem? (i := 26) (rfl)) rfl, pb_i1 (List.mem_of_getElem? (i := 1) (by decide +kernel)) rfl, ⟨by decide, by decide⟩, by decide +kernel, by decide⟩
theorem pnX11_ground : plainName mX11_ground.1.cls = true := by decide +kernel
theorem iwX11_ground : Cond.instanceMethod mX11_ground.1 ∈ pb_tbl := pb_i3 (List.mem_of_getElem? (i := 24) (by decide +kernel)) rfl
theorem seX11_ground : Cond.selects RX11 mX11_ground.1 mX11_ground.1 ∈ pb_tbl := pb_i3 (List.mem_of_getElem? (i := 25) (by decide +kernel)) rfl
abbrev mX11_lay : pb_M := (yX11_lay, cX11_lay, 6, (some .int))
set_option maxRecDepth 100000 in
theorem mwX11_lay : pb_mw mX11_lay 3 := ⟨pb_i3 (List.mem_of_getElem? (i := 34) (rfl)) rfl, pb_i1 (List.mem_of_getElem? (i := 1) (by decide +kernel)) rfl, ⟨by decide, by decide⟩, by decide +kernel, by decide⟩
theorem pnX11_lay : plainName mX11_lay.1.cls = true := by decide +kernel
theorem iwX11_lay : Cond.instanceMethod mX11_lay.1 ∈ pb_tbl := pb_i3 (List.mem_of_getElem? (i := 32) (by decide +kernel)) rfl
theorem seX11_lay : Cond.selects RX11 mX11_lay.1 mX11_lay.1 ∈ pb_tbl := pb_i3 (List.mem_of_getElem? (i := 33) (by decide +kernel)) rfl
abbrev mX11_back : pb_M := (yX11_back, cX11_back, 5, (some .int))
set_option maxRecDepth 100000 in
theorem mwX11_back : pb_mw mX11_back 3 := ⟨pb_i3 (List.mem_of_getElem? (i := 83) (rfl)) rfl, pb_i1 (List.mem_of_getElem? (i := 1) (by decide +kernel)) rfl, ⟨by decide, by decide⟩, by decide +kernel, by decide⟩
theorem pnX11_back : plainName mX11_back.1.cls = true := by decide +kernel
theorem iwX11_back : Cond.instanceMethod mX11_back.1 ∈ pb_tbl := pb_i3 (List.mem_of_getElem? (i := 81) (by decide +kernel)) rfl
theorem seX11_back : Cond.selects RX11 mX11_back.1 mX11_back.1 ∈ pb_tbl := pb_i3 (List.mem_of_getElem? (i := 82) (by decide +kernel)) rfl
abbrev mX11_look : pb_M := (yX11_look, cX11_look, 5, (some .int))
set_option maxRecDepth 100000 in
theorem mwX11_look : pb_mw mX11_look 3 := ⟨pb_i3 (List.mem_of_getElem? (i := 100) (rfl)) rfl, pb_i1 (List.mem_of_getElem? (i := 1) (by decide +kernel)) rfl, ⟨by decide, by decide⟩, by decide +kernel, by decide⟩
theorem pnX11_look : plainName mX11_look.1.cls = true := by decide +kernel
theorem iwX11_look : Cond.instanceMethod mX11_look.1 ∈ pb_tbl := pb_i3 (List.mem_of_getElem? (i := 98) (by decide +kernel)) rfl
theorem seX11_look : Cond.selects RX11 mX11_look.1 mX11_look.1 ∈ pb_tbl := pb_i3 (List.mem_of_getElem? (i := 99) (by decide +kernel)) rfl
abbrev mX11_missed : pb_M := (yX11_missed, cX11_missed, 6, (some .int))
set_option maxRecDepth 100000 in
theorem mwX11_missed : pb_mw mX11_missed 3 := ⟨pb_i3 (List.mem_of_getElem? (i := 108) (rfl)) rfl, pb_i1 (List.mem_of_getElem? (i := 1) (by decide +kernel)) rfl, ⟨by decide, by decide⟩, by decide +kernel, by decide⟩
theorem pnX11_missed : plainName mX11_missed.1.cls = true := by decide +kernel
theorem iwX11_missed : Cond.instanceMethod mX11_missed.1 ∈ pb_tbl := pb_i3 (List.mem_of_getElem? (i := 106) (by decide +kernel)) rfl
theorem seX11_missed : Cond.selects RX11 mX11_missed.1 mX11_missed.1 ∈ pb_tbl := pb_i3 (List.mem_of_getElem? (i := 107) (by decide +kernel)) rfl
abbrev mX11_tone : pb_M := (yX11_tone, cX11_tone, 4, (some .int))
set_option maxRecDepth 100000 in
theorem mwX11_tone : pb_mw mX11_tone 3 := ⟨pb_i3 (List.mem_of_getElem? (i := 120) (rfl)) rfl, pb_i1 (List.mem_of_getElem? (i := 1) (by decide +kernel)) rfl, ⟨by decide, by decide⟩, by decide +kernel, by decide⟩
theorem pnX11_tone : plainName mX11_tone.1.cls = true := by decide +kernel
theorem iwX11_tone : Cond.instanceMethod mX11_tone.1 ∈ pb_tbl := pb_i3 (List.mem_of_getElem? (i := 118) (by decide +kernel)) rfl
theorem seX11_tone : Cond.selects RX11 mX11_tone.1 mX11_tone.1 ∈ pb_tbl := pb_i3 (List.mem_of_getElem? (i := 119) (by decide +kernel)) rfl
abbrev mX11_apart : pb_M := (yX11_apart, cX11_apart, 4, (some .int))
set_option maxRecDepth 100000 in
theorem mwX11_apart : pb_mw mX11_apart 2 := ⟨pb_i3 (List.mem_of_getElem? (i := 124) (rfl)) rfl, pb_i1 (List.mem_of_getElem? (i := 1) (by decide +kernel)) rfl, ⟨by decide, by decide⟩, by decide +kernel, by decide⟩
theorem pnX11_apart : plainName mX11_apart.1.cls = true := by decide +kernel
theorem iwX11_apart : Cond.instanceMethod mX11_apart.1 ∈ pb_tbl := pb_i3 (List.mem_of_getElem? (i := 122) (by decide +kernel)) rfl
theorem seX11_apart : Cond.selects RX11 mX11_apart.1 mX11_apart.1 ∈ pb_tbl := pb_i3 (List.mem_of_getElem? (i := 123) (by decide +kernel)) rfl
abbrev mX11_match : pb_M := (yX11_match, cX11_match, 4, (some .int))
set_option maxRecDepth 100000 in
theorem mwX11_match : pb_mw mX11_match 3 := ⟨pb_i3 (List.mem_of_getElem? (i := 128) (rfl)) rfl, pb_i1 (List.mem_of_getElem? (i := 1) (by decide +kernel)) rfl, ⟨by decide, by decide⟩, by decide +kernel, by decide⟩
theorem pnX11_match : plainName mX11_match.1.cls = true := by decide +kernel
theorem iwX11_match : Cond.instanceMethod mX11_match.1 ∈ pb_tbl := pb_i3 (List.mem_of_getElem? (i := 126) (by decide +kernel)) rfl
theorem seX11_match : Cond.selects RX11 mX11_match.1 mX11_match.1 ∈ pb_tbl := pb_i3 (List.mem_of_getElem? (i := 127) (by decide +kernel)) rfl
abbrev mX11_matched : pb_M := (yX11_matched, cX11_matched, 2, (some .int))
set_option maxRecDepth 100000 in
theorem mwX11_matched : pb_mw mX11_matched 1 := ⟨pb_i3 (List.mem_of_getElem? (i := 205) (rfl)) rfl, pb_i1 (List.mem_of_getElem? (i := 1) (by decide +kernel)) rfl, ⟨by decide, by decide⟩, by decide +kernel, by decide⟩
theorem pnX11_matched : plainName mX11_matched.1.cls = true := by decide +kernel
theorem iwX11_matched : Cond.instanceMethod mX11_matched.1 ∈ pb_tbl := pb_i3 (List.mem_of_getElem? (i := 203) (by decide +kernel)) rfl
theorem seX11_matched : Cond.selects RX11 mX11_matched.1 mX11_matched.1 ∈ pb_tbl := pb_i3 (List.mem_of_getElem? (i := 204) (by decide +kernel)) rfl
abbrev mX11_price : pb_M := (yX11_price, cX11_price, 1, (some .int))
set_option maxRecDepth 100000 in
theorem mwX11_price : pb_mw mX11_price 0 := ⟨pb_i3 (List.mem_of_getElem? (i := 213) (rfl)) rfl, pb_i1 (List.mem_of_getElem? (i := 1) (by decide +kernel)) rfl, ⟨by decide, by decide⟩, by decide +kernel, by decide⟩
theorem pnX11_price : plainName mX11_price.1.cls = true := by decide +kernel
theorem iwX11_price : Cond.instanceMethod mX11_price.1 ∈ pb_tbl := pb_i3 (List.mem_of_getElem? (i := 211) (by decide +kernel)) rfl
theorem seX11_price : Cond.selects RX11 mX11_price.1 mX11_price.1 ∈ pb_tbl := pb_i3 (List.mem_of_getElem? (i := 212) (by decide +kernel)) rfl
abbrev mX11_glaze : pb_M := (yX11_glaze, cX11_glaze, 4, (some .int))
set_option maxRecDepth 100000 in
theorem mwX11_glaze : pb_mw mX11_glaze 3 := ⟨pb_i3 (List.mem_of_getElem? (i := 217) (rfl)) rfl, pb_i1 (List.mem_of_getElem? (i := 1) (by decide +kernel)) rfl, ⟨by decide, by decide⟩, by decide +kernel, by decide⟩
theorem pnX11_glaze : plainName mX11_glaze.1.cls = true := by decide +kernel
theorem iwX11_glaze : Cond.instanceMethod mX11_glaze.1 ∈ pb_tbl := pb_i3 (List.mem_of_getElem? (i := 215) (by decide +kernel)) rfl
theorem seX11_glaze : Cond.selects RX11 mX11_glaze.1 mX11_glaze.1 ∈ pb_tbl := pb_i3 (List.mem_of_getElem? (i := 216) (by decide +kernel)) rfl
abbrev mX11_glazed : pb_M := (yX11_glazed, cX11_glazed, 2, (some .int))
set_option maxRecDepth 100000 in
theorem mwX11_glazed : pb_mw mX11_glazed 1 := ⟨pb_i4 (List.mem_of_getElem? (i := 12) (rfl)) rfl, pb_i1 (List.mem_of_getElem? (i := 1) (by decide +kernel)) rfl, ⟨by decide, by decide⟩, by decide +kernel, by decide⟩
theorem pnX11_glazed : plainName mX11_glazed.1.cls = true := by decide +kernel
theorem iwX11_glazed : Cond.instanceMethod mX11_glazed.1 ∈ pb_tbl := pb_i4 (List.mem_of_getElem? (i := 10) (by decide +kernel)) rfl
theorem seX11_glazed : Cond.selects RX11 mX11_glazed.1 mX11_glazed.1 ∈ pb_tbl := pb_i4 (List.mem_of_getElem? (i := 11) (by decide +kernel)) rfl
abbrev mX11_keep : pb_M := (yX11_keep, cX11_keep, 2, (some .int))
set_option maxRecDepth 100000 in
theorem mwX11_keep : pb_mw mX11_keep 0 := ⟨pb_i4 (List.mem_of_getElem? (i := 20) (rfl)) rfl, pb_i1 (List.mem_of_getElem? (i := 1) (by decide +kernel)) rfl, ⟨by decide, by decide⟩, by decide +kernel, by decide⟩
theorem pnX11_keep : plainName mX11_keep.1.cls = true := by decide +kernel
theorem iwX11_keep : Cond.instanceMethod mX11_keep.1 ∈ pb_tbl := pb_i4 (List.mem_of_getElem? (i := 18) (by decide +kernel)) rfl
theorem seX11_keep : Cond.selects RX11 mX11_keep.1 mX11_keep.1 ∈ pb_tbl := pb_i4 (List.mem_of_getElem? (i := 19) (by decide +kernel)) rfl
abbrev mX11_clear : pb_M := (yX11_clear, cX11_clear, 2, (some .int))
set_option maxRecDepth 100000 in
theorem mwX11_clear : pb_mw mX11_clear 0 := ⟨pb_i4 (List.mem_of_getElem? (i := 24) (rfl)) rfl, pb_i1 (List.mem_of_getElem? (i := 1) (by decide +kernel)) rfl, ⟨by decide, by decide⟩, by decide +kernel, by decide⟩
theorem pnX11_clear : plainName mX11_clear.1.cls = true := by decide +kernel
theorem iwX11_clear : Cond.instanceMethod mX11_clear.1 ∈ pb_tbl := pb_i4 (List.mem_of_getElem? (i := 22) (by decide +kernel)) rfl
theorem seX11_clear : Cond.selects RX11 mX11_clear.1 mX11_clear.1 ∈ pb_tbl := pb_i4 (List.mem_of_getElem? (i := 23) (by decide +kernel)) rfl
abbrev mX11_fewest : pb_M := (yX11_fewest, cX11_fewest, 4, (some .int))
set_option maxRecDepth 100000 in
theorem mwX11_fewest : pb_mw mX11_fewest 3 := ⟨pb_i4 (List.mem_of_getElem? (i := 28) (rfl)) rfl, pb_i1 (List.mem_of_getElem? (i := 1) (by decide +kernel)) rfl, ⟨by decide, by decide⟩, by decide +kernel, by decide⟩
theorem pnX11_fewest : plainName mX11_fewest.1.cls = true := by decide +kernel
theorem iwX11_fewest : Cond.instanceMethod mX11_fewest.1 ∈ pb_tbl := pb_i4 (List.mem_of_getElem? (i := 26) (by decide +kernel)) rfl
theorem seX11_fewest : Cond.selects RX11 mX11_fewest.1 mX11_fewest.1 ∈ pb_tbl := pb_i4 (List.mem_of_getElem? (i := 27) (by decide +kernel)) rfl
abbrev mX11_count : pb_M := (yX11_count, cX11_count, 2, (some .int))
set_option maxRecDepth 100000 in
theorem mwX11_count : pb_mw mX11_count 1 := ⟨pb_i4 (List.mem_of_getElem? (i := 59) (rfl)) rfl, pb_i1 (List.mem_of_getElem? (i := 1) (by decide +kernel)) rfl, ⟨by decide, by decide⟩, by decide +kernel, by decide⟩
theorem pnX11_count : plainName mX11_count.1.cls = true := by decide +kernel
theorem iwX11_count : Cond.instanceMethod mX11_count.1 ∈ pb_tbl := pb_i4 (List.mem_of_getElem? (i := 57) (by decide +kernel)) rfl
theorem seX11_count : Cond.selects RX11 mX11_count.1 mX11_count.1 ∈ pb_tbl := pb_i4 (List.mem_of_getElem? (i := 58) (by decide +kernel)) rfl
abbrev mX11_between : pb_M := (yX11_between, cX11_between, 3, (some .boolean))
set_option maxRecDepth 100000 in
theorem mwX11_between : pb_mw mX11_between 3 := ⟨pb_i2 (List.mem_of_getElem? (i := 47) (rfl)) rfl, pb_i1 (List.mem_of_getElem? (i := 1) (by decide +kernel)) rfl, ⟨by decide, by decide⟩, by decide +kernel, by decide⟩
theorem pnX11_between : plainName mX11_between.1.cls = true := by decide +kernel
theorem swX11_between : Cond.static mX11_between.1 ∈ pb_tbl := pb_i2 (List.mem_of_getElem? (i := 46) (by decide +kernel)) rfl
abbrev mX11_isBand : pb_M := (yX11_isBand, cX11_isBand, 1, (some .boolean))
set_option maxRecDepth 100000 in
theorem mwX11_isBand : pb_mw mX11_isBand 1 := ⟨pb_i2 (List.mem_of_getElem? (i := 109) (rfl)) rfl, pb_i1 (List.mem_of_getElem? (i := 1) (by decide +kernel)) rfl, ⟨by decide, by decide⟩, by decide +kernel, by decide⟩
theorem pnX11_isBand : plainName mX11_isBand.1.cls = true := by decide +kernel
theorem swX11_isBand : Cond.static mX11_isBand.1 ∈ pb_tbl := pb_i2 (List.mem_of_getElem? (i := 108) (by decide +kernel)) rfl
abbrev mX11_isLamp : pb_M := (yX11_isLamp, cX11_isLamp, 1, (some .boolean))
set_option maxRecDepth 100000 in
theorem mwX11_isLamp : pb_mw mX11_isLamp 1 := ⟨pb_i2 (List.mem_of_getElem? (i := 141) (rfl)) rfl, pb_i1 (List.mem_of_getElem? (i := 1) (by decide +kernel)) rfl, ⟨by decide, by decide⟩, by decide +kernel, by decide⟩
theorem pnX11_isLamp : plainName mX11_isLamp.1.cls = true := by decide +kernel
theorem swX11_isLamp : Cond.static mX11_isLamp.1 ∈ pb_tbl := pb_i2 (List.mem_of_getElem? (i := 140) (by decide +kernel)) rfl
abbrev mX11_isSight : pb_M := (yX11_isSight, cX11_isSight, 1, (some .boolean))
set_option maxRecDepth 100000 in
theorem mwX11_isSight : pb_mw mX11_isSight 1 := ⟨pb_i2 (List.mem_of_getElem? (i := 151) (rfl)) rfl, pb_i1 (List.mem_of_getElem? (i := 1) (by decide +kernel)) rfl, ⟨by decide, by decide⟩, by decide +kernel, by decide⟩
theorem pnX11_isSight : plainName mX11_isSight.1.cls = true := by decide +kernel
theorem swX11_isSight : Cond.static mX11_isSight.1 ∈ pb_tbl := pb_i2 (List.mem_of_getElem? (i := 150) (by decide +kernel)) rfl
abbrev mX11_isShare : pb_M := (yX11_isShare, cX11_isShare, 1, (some .boolean))
set_option maxRecDepth 100000 in
theorem mwX11_isShare : pb_mw mX11_isShare 1 := ⟨pb_i2 (List.mem_of_getElem? (i := 237) (rfl)) rfl, pb_i1 (List.mem_of_getElem? (i := 1) (by decide +kernel)) rfl, ⟨by decide, by decide⟩, by decide +kernel, by decide⟩
theorem pnX11_isShare : plainName mX11_isShare.1.cls = true := by decide +kernel
theorem swX11_isShare : Cond.static mX11_isShare.1 ∈ pb_tbl := pb_i2 (List.mem_of_getElem? (i := 236) (by decide +kernel)) rfl
abbrev mX11_replace : pb_M := (yX11_replace, cX11_replace, 4, (some .int))
set_option maxRecDepth 100000 in
theorem mwX11_replace : pb_mw mX11_replace 3 := ⟨pb_i2 (List.mem_of_getElem? (i := 144) (rfl)) rfl, pb_i1 (List.mem_of_getElem? (i := 1) (by decide +kernel)) rfl, ⟨by decide, by decide⟩, by decide +kernel, by decide⟩
theorem pnX11_replace : plainName mX11_replace.1.cls = true := by decide +kernel
theorem swX11_replace : Cond.static mX11_replace.1 ∈ pb_tbl := pb_i2 (List.mem_of_getElem? (i := 143) (by decide +kernel)) rfl
abbrev mX11_potAt : pb_M := (yX11_potAt, cX11_potAt, 2, (some (.object "PaintBox$Mixture")))
set_option maxRecDepth 100000 in
theorem mwX11_potAt : pb_mw mX11_potAt 1 := ⟨pb_i2 (List.mem_of_getElem? (i := 163) (rfl)) rfl, pb_i1 (List.mem_of_getElem? (i := 1) (by decide +kernel)) rfl, ⟨by decide, by decide⟩, by decide +kernel, by decide⟩
theorem pnX11_potAt : plainName mX11_potAt.1.cls = true := by decide +kernel
theorem iwX11_potAt : Cond.instanceMethod mX11_potAt.1 ∈ pb_tbl := pb_i2 (List.mem_of_getElem? (i := 162) (by decide +kernel)) rfl
theorem seX11_potAt : Cond.selects RX11 mX11_potAt.1 mX11_potAt.1 ∈ pb_tbl := pb_i0 (List.mem_of_getElem? (i := 1) (by decide +kernel)) rfl
abbrev mX11_areaAt : pb_M := (yX11_areaAt, cX11_areaAt, 2, (some (.object "PaintBox$Area")))
set_option maxRecDepth 100000 in
theorem mwX11_areaAt : pb_mw mX11_areaAt 1 := ⟨pb_i3 (List.mem_of_getElem? (i := 30) (rfl)) rfl, pb_i1 (List.mem_of_getElem? (i := 1) (by decide +kernel)) rfl, ⟨by decide, by decide⟩, by decide +kernel, by decide⟩
theorem pnX11_areaAt : plainName mX11_areaAt.1.cls = true := by decide +kernel
theorem iwX11_areaAt : Cond.instanceMethod mX11_areaAt.1 ∈ pb_tbl := pb_i3 (List.mem_of_getElem? (i := 29) (by decide +kernel)) rfl
theorem seX11_areaAt : Cond.selects RX11 mX11_areaAt.1 mX11_areaAt.1 ∈ pb_tbl := pb_i0 (List.mem_of_getElem? (i := 2) (by decide +kernel)) rfl
abbrev mX11_inPots : pb_M := (yX11_inPots, cX11_inPots, 4, (some .int))
set_option maxRecDepth 100000 in
theorem mwX11_inPots : pb_mw mX11_inPots 1 := ⟨pb_i2 (List.mem_of_getElem? (i := 118) (rfl)) rfl, pb_i1 (List.mem_of_getElem? (i := 1) (by decide +kernel)) rfl, ⟨by decide, by decide⟩, by decide +kernel, by decide⟩
theorem pnX11_inPots : plainName mX11_inPots.1.cls = true := by decide +kernel
theorem iwX11_inPots : Cond.instanceMethod mX11_inPots.1 ∈ pb_tbl := pb_i2 (List.mem_of_getElem? (i := 117) (by decide +kernel)) rfl
theorem seX11_inPots : Cond.selects RX11 mX11_inPots.1 mX11_inPots.1 ∈ pb_tbl := pb_i0 (List.mem_of_getElem? (i := 0) (by decide +kernel)) rfl
abbrev mX11_allInPots : pb_M := (yX11_allInPots, cX11_allInPots, 3, (some .int))
set_option maxRecDepth 100000 in
theorem mwX11_allInPots : pb_mw mX11_allInPots 0 := ⟨pb_i4 (List.mem_of_getElem? (i := 63) (rfl)) rfl, pb_i1 (List.mem_of_getElem? (i := 1) (by decide +kernel)) rfl, ⟨by decide, by decide⟩, by decide +kernel, by decide⟩
theorem pnX11_allInPots : plainName mX11_allInPots.1.cls = true := by decide +kernel
theorem iwX11_allInPots : Cond.instanceMethod mX11_allInPots.1 ∈ pb_tbl := pb_i4 (List.mem_of_getElem? (i := 62) (by decide +kernel)) rfl
theorem seX11_allInPots : Cond.selects RX11 mX11_allInPots.1 mX11_allInPots.1 ∈ pb_tbl := pb_i0 (List.mem_of_getElem? (i := 10) (by decide +kernel)) rfl
abbrev mX11_allLayers : pb_M := (yX11_allLayers, cX11_allLayers, 3, (some .int))
set_option maxRecDepth 100000 in
theorem mwX11_allLayers : pb_mw mX11_allLayers 0 := ⟨pb_i4 (List.mem_of_getElem? (i := 79) (rfl)) rfl, pb_i1 (List.mem_of_getElem? (i := 1) (by decide +kernel)) rfl, ⟨by decide, by decide⟩, by decide +kernel, by decide⟩
theorem pnX11_allLayers : plainName mX11_allLayers.1.cls = true := by decide +kernel
theorem iwX11_allLayers : Cond.instanceMethod mX11_allLayers.1 ∈ pb_tbl := pb_i4 (List.mem_of_getElem? (i := 78) (by decide +kernel)) rfl
theorem seX11_allLayers : Cond.selects RX11 mX11_allLayers.1 mX11_allLayers.1 ∈ pb_tbl := pb_i0 (List.mem_of_getElem? (i := 11) (by decide +kernel)) rfl
abbrev mX11_sendFrom : pb_M := (yX11_sendFrom, cX11_sendFrom, 4, none)
set_option maxRecDepth 100000 in
theorem mwX11_sendFrom : pb_mw mX11_sendFrom 2 := ⟨pb_i3 (List.mem_of_getElem? (i := 104) (rfl)) rfl, pb_i1 (List.mem_of_getElem? (i := 1) (by decide +kernel)) rfl, ⟨by decide, by decide⟩, by decide +kernel, by decide⟩
theorem pnX11_sendFrom : plainName mX11_sendFrom.1.cls = true := by decide +kernel
theorem iwX11_sendFrom : Cond.instanceMethod mX11_sendFrom.1 ∈ pb_tbl := pb_i3 (List.mem_of_getElem? (i := 103) (by decide +kernel)) rfl
theorem seX11_sendFrom : Cond.selects RX11 mX11_sendFrom.1 mX11_sendFrom.1 ∈ pb_tbl := pb_i0 (List.mem_of_getElem? (i := 3) (by decide +kernel)) rfl
abbrev mX12_in : pb_M := (yX12_in, cX12_in, 3, (some .boolean))
set_option maxRecDepth 100000 in
theorem mwX12_in : pb_mw mX12_in 3 := ⟨pb_i4 (List.mem_of_getElem? (i := 188) (rfl)) rfl, pb_i1 (List.mem_of_getElem? (i := 11) (by decide +kernel)) rfl, ⟨by decide, by decide⟩, by decide +kernel, by decide⟩
theorem pnX12_in : plainName mX12_in.1.cls = true := by decide +kernel
theorem swX12_in : Cond.static mX12_in.1 ∈ pb_tbl := pb_i4 (List.mem_of_getElem? (i := 187) (by decide +kernel)) rfl
abbrev mX12_init : pb_M := (yX12_init, cX12_init, 2, none)
set_option maxRecDepth 100000 in
theorem mwX12_init : pb_mw mX12_init 0 := ⟨pb_i4 (List.mem_of_getElem? (i := 84) (rfl)) rfl, pb_i1 (List.mem_of_getElem? (i := 11) (by decide +kernel)) rfl, ⟨by decide, by decide⟩, by decide +kernel, by decide⟩
theorem pnX12_init : plainName mX12_init.1.cls = true := by decide +kernel
theorem iwX12_init : Cond.instanceMethod mX12_init.1 ∈ pb_tbl := pb_i4 (List.mem_of_getElem? (i := 83) (by decide +kernel)) rfl
abbrev mX12_isTube : pb_M := (yX12_isTube, cX12_isTube, 2, (some .boolean))
set_option maxRecDepth 100000 in
theorem mwX12_isTube : pb_mw mX12_isTube 1 := ⟨pb_i4 (List.mem_of_getElem? (i := 196) (rfl)) rfl, pb_i1 (List.mem_of_getElem? (i := 11) (by decide +kernel)) rfl, ⟨by decide, by decide⟩, by decide +kernel, by decide⟩
theorem pnX12_isTube : plainName mX12_isTube.1.cls = true := by decide +kernel
theorem iwX12_isTube : Cond.instanceMethod mX12_isTube.1 ∈ pb_tbl := pb_i4 (List.mem_of_getElem? (i := 195) (by decide +kernel)) rfl
theorem seX12_isTube : Cond.selects RX12 mX12_isTube.1 mX12_isTube.1 ∈ pb_tbl := pb_i0 (List.mem_of_getElem? (i := 12) (by decide +kernel)) rfl
abbrev mX12_isBand : pb_M := (yX12_isBand, cX12_isBand, 1, (some .boolean))
set_option maxRecDepth 100000 in
theorem mwX12_isBand : pb_mw mX12_isBand 1 := ⟨pb_i4 (List.mem_of_getElem? (i := 199) (rfl)) rfl, pb_i1 (List.mem_of_getElem? (i := 11) (by decide +kernel)) rfl, ⟨by decide, by decide⟩, by decide +kernel, by decide⟩
theorem pnX12_isBand : plainName mX12_isBand.1.cls = true := by decide +kernel
theorem swX12_isBand : Cond.static mX12_isBand.1 ∈ pb_tbl := pb_i4 (List.mem_of_getElem? (i := 198) (by decide +kernel)) rfl
abbrev mX12_isLamp : pb_M := (yX12_isLamp, cX12_isLamp, 1, (some .boolean))
set_option maxRecDepth 100000 in
theorem mwX12_isLamp : pb_mw mX12_isLamp 1 := ⟨pb_i4 (List.mem_of_getElem? (i := 222) (rfl)) rfl, pb_i1 (List.mem_of_getElem? (i := 11) (by decide +kernel)) rfl, ⟨by decide, by decide⟩, by decide +kernel, by decide⟩
theorem pnX12_isLamp : plainName mX12_isLamp.1.cls = true := by decide +kernel
theorem swX12_isLamp : Cond.static mX12_isLamp.1 ∈ pb_tbl := pb_i4 (List.mem_of_getElem? (i := 221) (by decide +kernel)) rfl
abbrev mX12_isSight : pb_M := (yX12_isSight, cX12_isSight, 1, (some .boolean))
set_option maxRecDepth 100000 in
theorem mwX12_isSight : pb_mw mX12_isSight 1 := ⟨pb_i4 (List.mem_of_getElem? (i := 229) (rfl)) rfl, pb_i1 (List.mem_of_getElem? (i := 11) (by decide +kernel)) rfl, ⟨by decide, by decide⟩, by decide +kernel, by decide⟩
theorem pnX12_isSight : plainName mX12_isSight.1.cls = true := by decide +kernel
theorem swX12_isSight : Cond.static mX12_isSight.1 ∈ pb_tbl := pb_i4 (List.mem_of_getElem? (i := 228) (by decide +kernel)) rfl
abbrev mX12_isPot : pb_M := (yX12_isPot, cX12_isPot, 1, (some .boolean))
set_option maxRecDepth 100000 in
theorem mwX12_isPot : pb_mw mX12_isPot 1 := ⟨pb_i5 (List.mem_of_getElem? (i := 0) (rfl)) rfl, pb_i1 (List.mem_of_getElem? (i := 11) (by decide +kernel)) rfl, ⟨by decide, by decide⟩, by decide +kernel, by decide⟩
theorem pnX12_isPot : plainName mX12_isPot.1.cls = true := by decide +kernel
theorem swX12_isPot : Cond.static mX12_isPot.1 ∈ pb_tbl := pb_i4 (List.mem_of_getElem? (i := 239) (by decide +kernel)) rfl
abbrev mX12_isArea : pb_M := (yX12_isArea, cX12_isArea, 1, (some .boolean))
set_option maxRecDepth 100000 in
theorem mwX12_isArea : pb_mw mX12_isArea 1 := ⟨pb_i5 (List.mem_of_getElem? (i := 73) (rfl)) rfl, pb_i1 (List.mem_of_getElem? (i := 11) (by decide +kernel)) rfl, ⟨by decide, by decide⟩, by decide +kernel, by decide⟩
theorem pnX12_isArea : plainName mX12_isArea.1.cls = true := by decide +kernel
theorem swX12_isArea : Cond.static mX12_isArea.1 ∈ pb_tbl := pb_i5 (List.mem_of_getElem? (i := 72) (by decide +kernel)) rfl
abbrev mX12_tube : pb_M := (yX12_tube, cX12_tube, 5, (some .int))
set_option maxRecDepth 100000 in
theorem mwX12_tube : pb_mw mX12_tube 3 := ⟨pb_i4 (List.mem_of_getElem? (i := 185) (rfl)) rfl, pb_i1 (List.mem_of_getElem? (i := 11) (by decide +kernel)) rfl, ⟨by decide, by decide⟩, by decide +kernel, by decide⟩
theorem pnX12_tube : plainName mX12_tube.1.cls = true := by decide +kernel
theorem iwX12_tube : Cond.instanceMethod mX12_tube.1 ∈ pb_tbl := pb_i4 (List.mem_of_getElem? (i := 183) (by decide +kernel)) rfl
theorem seX12_tube : Cond.selects RX12 mX12_tube.1 mX12_tube.1 ∈ pb_tbl := pb_i4 (List.mem_of_getElem? (i := 184) (by decide +kernel)) rfl
abbrev mX12_band : pb_M := (yX12_band, cX12_band, 5, (some .int))
set_option maxRecDepth 100000 in
theorem mwX12_band : pb_mw mX12_band 4 := ⟨pb_i4 (List.mem_of_getElem? (i := 192) (rfl)) rfl, pb_i1 (List.mem_of_getElem? (i := 11) (by decide +kernel)) rfl, ⟨by decide, by decide⟩, by decide +kernel, by decide⟩
theorem pnX12_band : plainName mX12_band.1.cls = true := by decide +kernel
theorem iwX12_band : Cond.instanceMethod mX12_band.1 ∈ pb_tbl := pb_i4 (List.mem_of_getElem? (i := 190) (by decide +kernel)) rfl
theorem seX12_band : Cond.selects RX12 mX12_band.1 mX12_band.1 ∈ pb_tbl := pb_i4 (List.mem_of_getElem? (i := 191) (by decide +kernel)) rfl
abbrev mX12_inPots : pb_M := (yX12_inPots, cX12_inPots, 4, (some .int))
set_option maxRecDepth 100000 in
theorem mwX12_inPots : pb_mw mX12_inPots 1 := ⟨pb_i4 (List.mem_of_getElem? (i := 207) (rfl)) rfl, pb_i1 (List.mem_of_getElem? (i := 11) (by decide +kernel)) rfl, ⟨by decide, by decide⟩, by decide +kernel, by decide⟩
theorem pnX12_inPots : plainName mX12_inPots.1.cls = true := by decide +kernel
theorem iwX12_inPots : Cond.instanceMethod mX12_inPots.1 ∈ pb_tbl := pb_i4 (List.mem_of_getElem? (i := 206) (by decide +kernel)) rfl
theorem seX12_inPots : Cond.selects RX12 mX12_inPots.1 mX12_inPots.1 ∈ pb_tbl := pb_i0 (List.mem_of_getElem? (i := 13) (by decide +kernel)) rfl
abbrev mX12_ofTube : pb_M := (yX12_ofTube, cX12_ofTube, 3, (some .int))
set_option maxRecDepth 100000 in
theorem mwX12_ofTube : pb_mw mX12_ofTube 2 := ⟨pb_i4 (List.mem_of_getElem? (i := 203) (rfl)) rfl, pb_i1 (List.mem_of_getElem? (i := 11) (by decide +kernel)) rfl, ⟨by decide, by decide⟩, by decide +kernel, by decide⟩
theorem pnX12_ofTube : plainName mX12_ofTube.1.cls = true := by decide +kernel
theorem iwX12_ofTube : Cond.instanceMethod mX12_ofTube.1 ∈ pb_tbl := pb_i4 (List.mem_of_getElem? (i := 201) (by decide +kernel)) rfl
theorem seX12_ofTube : Cond.selects RX12 mX12_ofTube.1 mX12_ofTube.1 ∈ pb_tbl := pb_i4 (List.mem_of_getElem? (i := 202) (by decide +kernel)) rfl
abbrev mX12_faded : pb_M := (yX12_faded, cX12_faded, 6, (some .int))
set_option maxRecDepth 100000 in
theorem mwX12_faded : pb_mw mX12_faded 3 := ⟨pb_i4 (List.mem_of_getElem? (i := 215) (rfl)) rfl, pb_i1 (List.mem_of_getElem? (i := 11) (by decide +kernel)) rfl, ⟨by decide, by decide⟩, by decide +kernel, by decide⟩
theorem pnX12_faded : plainName mX12_faded.1.cls = true := by decide +kernel
theorem iwX12_faded : Cond.instanceMethod mX12_faded.1 ∈ pb_tbl := pb_i4 (List.mem_of_getElem? (i := 214) (by decide +kernel)) rfl
theorem seX12_faded : Cond.selects RX12 mX12_faded.1 mX12_faded.1 ∈ pb_tbl := pb_i0 (List.mem_of_getElem? (i := 14) (by decide +kernel)) rfl
abbrev mX12_row : pb_M := (yX12_row, cX12_row, 5, (some .int))
set_option maxRecDepth 100000 in
theorem mwX12_row : pb_mw mX12_row 4 := ⟨pb_i4 (List.mem_of_getElem? (i := 211) (rfl)) rfl, pb_i1 (List.mem_of_getElem? (i := 11) (by decide +kernel)) rfl, ⟨by decide, by decide⟩, by decide +kernel, by decide⟩
theorem pnX12_row : plainName mX12_row.1.cls = true := by decide +kernel
theorem iwX12_row : Cond.instanceMethod mX12_row.1 ∈ pb_tbl := pb_i4 (List.mem_of_getElem? (i := 209) (by decide +kernel)) rfl
theorem seX12_row : Cond.selects RX12 mX12_row.1 mX12_row.1 ∈ pb_tbl := pb_i4 (List.mem_of_getElem? (i := 210) (by decide +kernel)) rfl
abbrev mX12_lamp : pb_M := (yX12_lamp, cX12_lamp, 5, (some .int))
set_option maxRecDepth 100000 in
theorem mwX12_lamp : pb_mw mX12_lamp 3 := ⟨pb_i4 (List.mem_of_getElem? (i := 219) (rfl)) rfl, pb_i1 (List.mem_of_getElem? (i := 11) (by decide +kernel)) rfl, ⟨by decide, by decide⟩, by decide +kernel, by decide⟩
theorem pnX12_lamp : plainName mX12_lamp.1.cls = true := by decide +kernel
theorem iwX12_lamp : Cond.instanceMethod mX12_lamp.1 ∈ pb_tbl := pb_i4 (List.mem_of_getElem? (i := 217) (by decide +kernel)) rfl
theorem seX12_lamp : Cond.selects RX12 mX12_lamp.1 mX12_lamp.1 ∈ pb_tbl := pb_i4 (List.mem_of_getElem? (i := 218) (by decide +kernel)) rfl
abbrev mX12_eye : pb_M := (yX12_eye, cX12_eye, 5, (some .int))
set_option maxRecDepth 100000 in
theorem mwX12_eye : pb_mw mX12_eye 3 := ⟨pb_i4 (List.mem_of_getElem? (i := 226) (rfl)) rfl, pb_i1 (List.mem_of_getElem? (i := 11) (by decide +kernel)) rfl, ⟨by decide, by decide⟩, by decide +kernel, by decide⟩
theorem pnX12_eye : plainName mX12_eye.1.cls = true := by decide +kernel
theorem iwX12_eye : Cond.instanceMethod mX12_eye.1 ∈ pb_tbl := pb_i4 (List.mem_of_getElem? (i := 224) (by decide +kernel)) rfl
theorem seX12_eye : Cond.selects RX12 mX12_eye.1 mX12_eye.1 ∈ pb_tbl := pb_i4 (List.mem_of_getElem? (i := 225) (by decide +kernel)) rfl
abbrev mX12_years : pb_M := (yX12_years, cX12_years, 2, (some .int))
set_option maxRecDepth 100000 in
theorem mwX12_years : pb_mw mX12_years 1 := ⟨pb_i4 (List.mem_of_getElem? (i := 233) (rfl)) rfl, pb_i1 (List.mem_of_getElem? (i := 11) (by decide +kernel)) rfl, ⟨by decide, by decide⟩, by decide +kernel, by decide⟩
theorem pnX12_years : plainName mX12_years.1.cls = true := by decide +kernel
theorem iwX12_years : Cond.instanceMethod mX12_years.1 ∈ pb_tbl := pb_i4 (List.mem_of_getElem? (i := 231) (by decide +kernel)) rfl
theorem seX12_years : Cond.selects RX12 mX12_years.1 mX12_years.1 ∈ pb_tbl := pb_i4 (List.mem_of_getElem? (i := 232) (by decide +kernel)) rfl
abbrev mX12_root : pb_M := (yX12_root, cX12_root, 8, (some .long))
set_option maxRecDepth 100000 in
theorem mwX12_root : pb_mw mX12_root 1 := ⟨pb_i5 (List.mem_of_getElem? (i := 36) (rfl)) rfl, pb_i1 (List.mem_of_getElem? (i := 11) (by decide +kernel)) rfl, ⟨by decide, by decide⟩, by decide +kernel, by decide⟩
theorem pnX12_root : plainName mX12_root.1.cls = true := by decide +kernel
theorem swX12_root : Cond.static mX12_root.1 ∈ pb_tbl := pb_i5 (List.mem_of_getElem? (i := 35) (by decide +kernel)) rfl
abbrev mX12_thickBy : pb_M := (yX12_thickBy, cX12_thickBy, 6, (some .int))
set_option maxRecDepth 100000 in
theorem mwX12_thickBy : pb_mw mX12_thickBy 2 := ⟨pb_i5 (List.mem_of_getElem? (i := 31) (rfl)) rfl, pb_i1 (List.mem_of_getElem? (i := 11) (by decide +kernel)) rfl, ⟨by decide, by decide⟩, by decide +kernel, by decide⟩
theorem pnX12_thickBy : plainName mX12_thickBy.1.cls = true := by decide +kernel
theorem swX12_thickBy : Cond.static mX12_thickBy.1 ∈ pb_tbl := pb_i5 (List.mem_of_getElem? (i := 30) (by decide +kernel)) rfl
abbrev mX12_thinBy : pb_M := (yX12_thinBy, cX12_thinBy, 11, (some .int))
set_option maxRecDepth 100000 in
theorem mwX12_thinBy : pb_mw mX12_thinBy 3 := ⟨pb_i5 (List.mem_of_getElem? (i := 56) (rfl)) rfl, pb_i1 (List.mem_of_getElem? (i := 11) (by decide +kernel)) rfl, ⟨by decide, by decide⟩, by decide +kernel, by decide⟩
theorem pnX12_thinBy : plainName mX12_thinBy.1.cls = true := by decide +kernel
theorem swX12_thinBy : Cond.static mX12_thinBy.1 ∈ pb_tbl := pb_i5 (List.mem_of_getElem? (i := 55) (by decide +kernel)) rfl
abbrev mX12_layerBy : pb_M := (yX12_layerBy, cX12_layerBy, 8, (some .int))
set_option maxRecDepth 100000 in
theorem mwX12_layerBy : pb_mw mX12_layerBy 4 := ⟨pb_i5 (List.mem_of_getElem? (i := 53) (rfl)) rfl, pb_i1 (List.mem_of_getElem? (i := 11) (by decide +kernel)) rfl, ⟨by decide, by decide⟩, by decide +kernel, by decide⟩
theorem pnX12_layerBy : plainName mX12_layerBy.1.cls = true := by decide +kernel
theorem swX12_layerBy : Cond.static mX12_layerBy.1 ∈ pb_tbl := pb_i5 (List.mem_of_getElem? (i := 52) (by decide +kernel)) rfl
abbrev mX12_seenBy : pb_M := (yX12_seenBy, cX12_seenBy, 10, (some .int))
set_option maxRecDepth 100000 in
theorem mwX12_seenBy : pb_mw mX12_seenBy 2 := ⟨pb_i5 (List.mem_of_getElem? (i := 46) (rfl)) rfl, pb_i1 (List.mem_of_getElem? (i := 11) (by decide +kernel)) rfl, ⟨by decide, by decide⟩, by decide +kernel, by decide⟩
theorem pnX12_seenBy : plainName mX12_seenBy.1.cls = true := by decide +kernel
theorem iwX12_seenBy : Cond.instanceMethod mX12_seenBy.1 ∈ pb_tbl := pb_i5 (List.mem_of_getElem? (i := 45) (by decide +kernel)) rfl
theorem seX12_seenBy : Cond.selects RX12 mX12_seenBy.1 mX12_seenBy.1 ∈ pb_tbl := pb_i0 (List.mem_of_getElem? (i := 18) (by decide +kernel)) rfl
abbrev mX12_off : pb_M := (yX12_off, cX12_off, 2, (some .int))
set_option maxRecDepth 100000 in
theorem mwX12_off : pb_mw mX12_off 2 := ⟨pb_i5 (List.mem_of_getElem? (i := 66) (rfl)) rfl, pb_i1 (List.mem_of_getElem? (i := 11) (by decide +kernel)) rfl, ⟨by decide, by decide⟩, by decide +kernel, by decide⟩
theorem pnX12_off : plainName mX12_off.1.cls = true := by decide +kernel
theorem swX12_off : Cond.static mX12_off.1 ∈ pb_tbl := pb_i5 (List.mem_of_getElem? (i := 65) (by decide +kernel)) rfl
abbrev mX12_apartFrom : pb_M := (yX12_apartFrom, cX12_apartFrom, 5, (some .int))
set_option maxRecDepth 100000 in
theorem mwX12_apartFrom : pb_mw mX12_apartFrom 4 := ⟨pb_i5 (List.mem_of_getElem? (i := 101) (rfl)) rfl, pb_i1 (List.mem_of_getElem? (i := 11) (by decide +kernel)) rfl, ⟨by decide, by decide⟩, by decide +kernel, by decide⟩
theorem pnX12_apartFrom : plainName mX12_apartFrom.1.cls = true := by decide +kernel
theorem iwX12_apartFrom : Cond.instanceMethod mX12_apartFrom.1 ∈ pb_tbl := pb_i5 (List.mem_of_getElem? (i := 100) (by decide +kernel)) rfl
theorem seX12_apartFrom : Cond.selects RX12 mX12_apartFrom.1 mX12_apartFrom.1 ∈ pb_tbl := pb_i0 (List.mem_of_getElem? (i := 21) (by decide +kernel)) rfl
abbrev mX12_inPot : pb_M := (yX12_inPot, cX12_inPot, 4, (some .int))
set_option maxRecDepth 100000 in
theorem mwX12_inPot : pb_mw mX12_inPot 1 := ⟨pb_i5 (List.mem_of_getElem? (i := 4) (rfl)) rfl, pb_i1 (List.mem_of_getElem? (i := 11) (by decide +kernel)) rfl, ⟨by decide, by decide⟩, by decide +kernel, by decide⟩
theorem pnX12_inPot : plainName mX12_inPot.1.cls = true := by decide +kernel
theorem iwX12_inPot : Cond.instanceMethod mX12_inPot.1 ∈ pb_tbl := pb_i5 (List.mem_of_getElem? (i := 3) (by decide +kernel)) rfl
theorem seX12_inPot : Cond.selects RX12 mX12_inPot.1 mX12_inPot.1 ∈ pb_tbl := pb_i0 (List.mem_of_getElem? (i := 15) (by decide +kernel)) rfl
abbrev mX12_press : pb_M := (yX12_press, cX12_press, 4, (some .int))
set_option maxRecDepth 100000 in
theorem mwX12_press : pb_mw mX12_press 3 := ⟨pb_i4 (List.mem_of_getElem? (i := 237) (rfl)) rfl, pb_i1 (List.mem_of_getElem? (i := 11) (by decide +kernel)) rfl, ⟨by decide, by decide⟩, by decide +kernel, by decide⟩
theorem pnX12_press : plainName mX12_press.1.cls = true := by decide +kernel
theorem iwX12_press : Cond.instanceMethod mX12_press.1 ∈ pb_tbl := pb_i4 (List.mem_of_getElem? (i := 235) (by decide +kernel)) rfl
theorem seX12_press : Cond.selects RX12 mX12_press.1 mX12_press.1 ∈ pb_tbl := pb_i4 (List.mem_of_getElem? (i := 236) (by decide +kernel)) rfl
abbrev mX12_pour : pb_M := (yX12_pour, cX12_pour, 4, (some .int))
set_option maxRecDepth 100000 in
theorem mwX12_pour : pb_mw mX12_pour 2 := ⟨pb_i5 (List.mem_of_getElem? (i := 8) (rfl)) rfl, pb_i1 (List.mem_of_getElem? (i := 11) (by decide +kernel)) rfl, ⟨by decide, by decide⟩, by decide +kernel, by decide⟩
theorem pnX12_pour : plainName mX12_pour.1.cls = true := by decide +kernel
theorem iwX12_pour : Cond.instanceMethod mX12_pour.1 ∈ pb_tbl := pb_i5 (List.mem_of_getElem? (i := 6) (by decide +kernel)) rfl
theorem seX12_pour : Cond.selects RX12 mX12_pour.1 mX12_pour.1 ∈ pb_tbl := pb_i5 (List.mem_of_getElem? (i := 7) (by decide +kernel)) rfl
abbrev mX12_waste : pb_M := (yX12_waste, cX12_waste, 4, (some .int))
set_option maxRecDepth 100000 in
theorem mwX12_waste : pb_mw mX12_waste 1 := ⟨pb_i5 (List.mem_of_getElem? (i := 12) (rfl)) rfl, pb_i1 (List.mem_of_getElem? (i := 11) (by decide +kernel)) rfl, ⟨by decide, by decide⟩, by decide +kernel, by decide⟩
theorem pnX12_waste : plainName mX12_waste.1.cls = true := by decide +kernel
theorem iwX12_waste : Cond.instanceMethod mX12_waste.1 ∈ pb_tbl := pb_i5 (List.mem_of_getElem? (i := 10) (by decide +kernel)) rfl
theorem seX12_waste : Cond.selects RX12 mX12_waste.1 mX12_waste.1 ∈ pb_tbl := pb_i5 (List.mem_of_getElem? (i := 11) (by decide +kernel)) rfl
abbrev mX12_drops : pb_M := (yX12_drops, cX12_drops, 3, (some .int))
set_option maxRecDepth 100000 in
theorem mwX12_drops : pb_mw mX12_drops 2 := ⟨pb_i5 (List.mem_of_getElem? (i := 16) (rfl)) rfl, pb_i1 (List.mem_of_getElem? (i := 11) (by decide +kernel)) rfl, ⟨by decide, by decide⟩, by decide +kernel, by decide⟩
theorem pnX12_drops : plainName mX12_drops.1.cls = true := by decide +kernel
theorem iwX12_drops : Cond.instanceMethod mX12_drops.1 ∈ pb_tbl := pb_i5 (List.mem_of_getElem? (i := 14) (by decide +kernel)) rfl
theorem seX12_drops : Cond.selects RX12 mX12_drops.1 mX12_drops.1 ∈ pb_tbl := pb_i5 (List.mem_of_getElem? (i := 15) (by decide +kernel)) rfl
abbrev mX12_drinkOf : pb_M := (yX12_drinkOf, cX12_drinkOf, 6, (some .long))
set_option maxRecDepth 100000 in
theorem mwX12_drinkOf : pb_mw mX12_drinkOf 2 := ⟨pb_i5 (List.mem_of_getElem? (i := 24) (rfl)) rfl, pb_i1 (List.mem_of_getElem? (i := 11) (by decide +kernel)) rfl, ⟨by decide, by decide⟩, by decide +kernel, by decide⟩
theorem pnX12_drinkOf : plainName mX12_drinkOf.1.cls = true := by decide +kernel
theorem iwX12_drinkOf : Cond.instanceMethod mX12_drinkOf.1 ∈ pb_tbl := pb_i5 (List.mem_of_getElem? (i := 23) (by decide +kernel)) rfl
theorem seX12_drinkOf : Cond.selects RX12 mX12_drinkOf.1 mX12_drinkOf.1 ∈ pb_tbl := pb_i0 (List.mem_of_getElem? (i := 16) (by decide +kernel)) rfl
abbrev mX12_scatterOf : pb_M := (yX12_scatterOf, cX12_scatterOf, 6, (some .long))
set_option maxRecDepth 100000 in
theorem mwX12_scatterOf : pb_mw mX12_scatterOf 2 := ⟨pb_i5 (List.mem_of_getElem? (i := 28) (rfl)) rfl, pb_i1 (List.mem_of_getElem? (i := 11) (by decide +kernel)) rfl, ⟨by decide, by decide⟩, by decide +kernel, by decide⟩
theorem pnX12_scatterOf : plainName mX12_scatterOf.1.cls = true := by decide +kernel
theorem iwX12_scatterOf : Cond.instanceMethod mX12_scatterOf.1 ∈ pb_tbl := pb_i5 (List.mem_of_getElem? (i := 27) (by decide +kernel)) rfl
theorem seX12_scatterOf : Cond.selects RX12 mX12_scatterOf.1 mX12_scatterOf.1 ∈ pb_tbl := pb_i0 (List.mem_of_getElem? (i := 17) (by decide +kernel)) rfl
abbrev mX12_thick : pb_M := (yX12_thick, cX12_thick, 3, (some .int))
set_option maxRecDepth 100000 in
theorem mwX12_thick : pb_mw mX12_thick 2 := ⟨pb_i5 (List.mem_of_getElem? (i := 20) (rfl)) rfl, pb_i1 (List.mem_of_getElem? (i := 11) (by decide +kernel)) rfl, ⟨by decide, by decide⟩, by decide +kernel, by decide⟩
theorem pnX12_thick : plainName mX12_thick.1.cls = true := by decide +kernel
theorem iwX12_thick : Cond.instanceMethod mX12_thick.1 ∈ pb_tbl := pb_i5 (List.mem_of_getElem? (i := 18) (by decide +kernel)) rfl
theorem seX12_thick : Cond.selects RX12 mX12_thick.1 mX12_thick.1 ∈ pb_tbl := pb_i5 (List.mem_of_getElem? (i := 19) (by decide +kernel)) rfl
abbrev mX12_seen : pb_M := (yX12_seen, cX12_seen, 5, (some .int))
set_option maxRecDepth 100000 in
theorem mwX12_seen : pb_mw mX12_seen 3 := ⟨pb_i5 (List.mem_of_getElem? (i := 42) (rfl)) rfl, pb_i1 (List.mem_of_getElem? (i := 11) (by decide +kernel)) rfl, ⟨by decide, by decide⟩, by decide +kernel, by decide⟩
theorem pnX12_seen : plainName mX12_seen.1.cls = true := by decide +kernel
theorem iwX12_seen : Cond.instanceMethod mX12_seen.1 ∈ pb_tbl := pb_i5 (List.mem_of_getElem? (i := 40) (by decide +kernel)) rfl
theorem seX12_seen : Cond.selects RX12 mX12_seen.1 mX12_seen.1 ∈ pb_tbl := pb_i5 (List.mem_of_getElem? (i := 41) (by decide +kernel)) rfl
abbrev mX12_over : pb_M := (yX12_over, cX12_over, 5, (some .int))
set_option maxRecDepth 100000 in
theorem mwX12_over : pb_mw mX12_over 4 := ⟨pb_i5 (List.mem_of_getElem? (i := 50) (rfl)) rfl, pb_i1 (List.mem_of_getElem? (i := 11) (by decide +kernel)) rfl, ⟨by decide, by decide⟩, by decide +kernel, by decide⟩
theorem pnX12_over : plainName mX12_over.1.cls = true := by decide +kernel
theorem iwX12_over : Cond.instanceMethod mX12_over.1 ∈ pb_tbl := pb_i5 (List.mem_of_getElem? (i := 48) (by decide +kernel)) rfl
theorem seX12_over : Cond.selects RX12 mX12_over.1 mX12_over.1 ∈ pb_tbl := pb_i5 (List.mem_of_getElem? (i := 49) (by decide +kernel)) rfl
abbrev mX12_hiding : pb_M := (yX12_hiding, cX12_hiding, 6, (some .int))
set_option maxRecDepth 100000 in
theorem mwX12_hiding : pb_mw mX12_hiding 2 := ⟨pb_i5 (List.mem_of_getElem? (i := 63) (rfl)) rfl, pb_i1 (List.mem_of_getElem? (i := 11) (by decide +kernel)) rfl, ⟨by decide, by decide⟩, by decide +kernel, by decide⟩
theorem pnX12_hiding : plainName mX12_hiding.1.cls = true := by decide +kernel
theorem iwX12_hiding : Cond.instanceMethod mX12_hiding.1 ∈ pb_tbl := pb_i5 (List.mem_of_getElem? (i := 61) (by decide +kernel)) rfl
theorem seX12_hiding : Cond.selects RX12 mX12_hiding.1 mX12_hiding.1 ∈ pb_tbl := pb_i5 (List.mem_of_getElem? (i := 62) (by decide +kernel)) rfl
abbrev mX12_ground : pb_M := (yX12_ground, cX12_ground, 4, (some .int))
set_option maxRecDepth 100000 in
theorem mwX12_ground : pb_mw mX12_ground 2 := ⟨pb_i5 (List.mem_of_getElem? (i := 70) (rfl)) rfl, pb_i1 (List.mem_of_getElem? (i := 11) (by decide +kernel)) rfl, ⟨by decide, by decide⟩, by decide +kernel, by decide⟩
theorem pnX12_ground : plainName mX12_ground.1.cls = true := by decide +kernel
theorem iwX12_ground : Cond.instanceMethod mX12_ground.1 ∈ pb_tbl := pb_i5 (List.mem_of_getElem? (i := 68) (by decide +kernel)) rfl
theorem seX12_ground : Cond.selects RX12 mX12_ground.1 mX12_ground.1 ∈ pb_tbl := pb_i5 (List.mem_of_getElem? (i := 69) (by decide +kernel)) rfl
abbrev mX12_lay : pb_M := (yX12_lay, cX12_lay, 7, (some .int))
set_option maxRecDepth 100000 in
theorem mwX12_lay : pb_mw mX12_lay 3 := ⟨pb_i5 (List.mem_of_getElem? (i := 77) (rfl)) rfl, pb_i1 (List.mem_of_getElem? (i := 11) (by decide +kernel)) rfl, ⟨by decide, by decide⟩, by decide +kernel, by decide⟩
theorem pnX12_lay : plainName mX12_lay.1.cls = true := by decide +kernel
theorem iwX12_lay : Cond.instanceMethod mX12_lay.1 ∈ pb_tbl := pb_i5 (List.mem_of_getElem? (i := 75) (by decide +kernel)) rfl
theorem seX12_lay : Cond.selects RX12 mX12_lay.1 mX12_lay.1 ∈ pb_tbl := pb_i5 (List.mem_of_getElem? (i := 76) (by decide +kernel)) rfl
abbrev mX12_backOf : pb_M := (yX12_backOf, cX12_backOf, 13, (some .int))
set_option maxRecDepth 100000 in
theorem mwX12_backOf : pb_mw mX12_backOf 3 := ⟨pb_i5 (List.mem_of_getElem? (i := 85) (rfl)) rfl, pb_i1 (List.mem_of_getElem? (i := 11) (by decide +kernel)) rfl, ⟨by decide, by decide⟩, by decide +kernel, by decide⟩
theorem pnX12_backOf : plainName mX12_backOf.1.cls = true := by decide +kernel
theorem iwX12_backOf : Cond.instanceMethod mX12_backOf.1 ∈ pb_tbl := pb_i5 (List.mem_of_getElem? (i := 84) (by decide +kernel)) rfl
theorem seX12_backOf : Cond.selects RX12 mX12_backOf.1 mX12_backOf.1 ∈ pb_tbl := pb_i0 (List.mem_of_getElem? (i := 19) (by decide +kernel)) rfl
abbrev mX12_lightOf : pb_M := (yX12_lightOf, cX12_lightOf, 4, none)
set_option maxRecDepth 100000 in
theorem mwX12_lightOf : pb_mw mX12_lightOf 2 := ⟨pb_i5 (List.mem_of_getElem? (i := 93) (rfl)) rfl, pb_i1 (List.mem_of_getElem? (i := 11) (by decide +kernel)) rfl, ⟨by decide, by decide⟩, by decide +kernel, by decide⟩
theorem pnX12_lightOf : plainName mX12_lightOf.1.cls = true := by decide +kernel
theorem iwX12_lightOf : Cond.instanceMethod mX12_lightOf.1 ∈ pb_tbl := pb_i5 (List.mem_of_getElem? (i := 92) (by decide +kernel)) rfl
theorem seX12_lightOf : Cond.selects RX12 mX12_lightOf.1 mX12_lightOf.1 ∈ pb_tbl := pb_i0 (List.mem_of_getElem? (i := 20) (by decide +kernel)) rfl
abbrev mX12_back : pb_M := (yX12_back, cX12_back, 4, (some .int))
set_option maxRecDepth 100000 in
theorem mwX12_back : pb_mw mX12_back 3 := ⟨pb_i5 (List.mem_of_getElem? (i := 81) (rfl)) rfl, pb_i1 (List.mem_of_getElem? (i := 11) (by decide +kernel)) rfl, ⟨by decide, by decide⟩, by decide +kernel, by decide⟩
theorem pnX12_back : plainName mX12_back.1.cls = true := by decide +kernel
theorem iwX12_back : Cond.instanceMethod mX12_back.1 ∈ pb_tbl := pb_i5 (List.mem_of_getElem? (i := 79) (by decide +kernel)) rfl
theorem seX12_back : Cond.selects RX12 mX12_back.1 mX12_back.1 ∈ pb_tbl := pb_i5 (List.mem_of_getElem? (i := 80) (by decide +kernel)) rfl
abbrev mX12_look : pb_M := (yX12_look, cX12_look, 4, (some .int))
set_option maxRecDepth 100000 in
theorem mwX12_look : pb_mw mX12_look 3 := ⟨pb_i5 (List.mem_of_getElem? (i := 89) (rfl)) rfl, pb_i1 (List.mem_of_getElem? (i := 11) (by decide +kernel)) rfl, ⟨by decide, by decide⟩, by decide +kernel, by decide⟩
theorem pnX12_look : plainName mX12_look.1.cls = true := by decide +kernel
theorem iwX12_look : Cond.instanceMethod mX12_look.1 ∈ pb_tbl := pb_i5 (List.mem_of_getElem? (i := 87) (by decide +kernel)) rfl
theorem seX12_look : Cond.selects RX12 mX12_look.1 mX12_look.1 ∈ pb_tbl := pb_i5 (List.mem_of_getElem? (i := 88) (by decide +kernel)) rfl
abbrev mX12_missed : pb_M := (yX12_missed, cX12_missed, 5, (some .int))
set_option maxRecDepth 100000 in
theorem mwX12_missed : pb_mw mX12_missed 3 := ⟨pb_i5 (List.mem_of_getElem? (i := 97) (rfl)) rfl, pb_i1 (List.mem_of_getElem? (i := 11) (by decide +kernel)) rfl, ⟨by decide, by decide⟩, by decide +kernel, by decide⟩
theorem pnX12_missed : plainName mX12_missed.1.cls = true := by decide +kernel
theorem iwX12_missed : Cond.instanceMethod mX12_missed.1 ∈ pb_tbl := pb_i5 (List.mem_of_getElem? (i := 95) (by decide +kernel)) rfl
theorem seX12_missed : Cond.selects RX12 mX12_missed.1 mX12_missed.1 ∈ pb_tbl := pb_i5 (List.mem_of_getElem? (i := 96) (by decide +kernel)) rfl
abbrev mX12_tone : pb_M := (yX12_tone, cX12_tone, 4, (some .int))
set_option maxRecDepth 100000 in
theorem mwX12_tone : pb_mw mX12_tone 3 := ⟨pb_i5 (List.mem_of_getElem? (i := 105) (rfl)) rfl, pb_i1 (List.mem_of_getElem? (i := 11) (by decide +kernel)) rfl, ⟨by decide, by decide⟩, by decide +kernel, by decide⟩
theorem pnX12_tone : plainName mX12_tone.1.cls = true := by decide +kernel
theorem iwX12_tone : Cond.instanceMethod mX12_tone.1 ∈ pb_tbl := pb_i5 (List.mem_of_getElem? (i := 103) (by decide +kernel)) rfl
theorem seX12_tone : Cond.selects RX12 mX12_tone.1 mX12_tone.1 ∈ pb_tbl := pb_i5 (List.mem_of_getElem? (i := 104) (by decide +kernel)) rfl
abbrev mX12_apart : pb_M := (yX12_apart, cX12_apart, 3, (some .int))
set_option maxRecDepth 100000 in
theorem mwX12_apart : pb_mw mX12_apart 2 := ⟨pb_i5 (List.mem_of_getElem? (i := 109) (rfl)) rfl, pb_i1 (List.mem_of_getElem? (i := 11) (by decide +kernel)) rfl, ⟨by decide, by decide⟩, by decide +kernel, by decide⟩
theorem pnX12_apart : plainName mX12_apart.1.cls = true := by decide +kernel
theorem iwX12_apart : Cond.instanceMethod mX12_apart.1 ∈ pb_tbl := pb_i5 (List.mem_of_getElem? (i := 107) (by decide +kernel)) rfl
theorem seX12_apart : Cond.selects RX12 mX12_apart.1 mX12_apart.1 ∈ pb_tbl := pb_i5 (List.mem_of_getElem? (i := 108) (by decide +kernel)) rfl
abbrev mX12_lightOfTrial : pb_M := (yX12_lightOfTrial, cX12_lightOfTrial, 7, none)
set_option maxRecDepth 100000 in
theorem mwX12_lightOfTrial : pb_mw mX12_lightOfTrial 0 := ⟨pb_i5 (List.mem_of_getElem? (i := 129) (rfl)) rfl, pb_i1 (List.mem_of_getElem? (i := 11) (by decide +kernel)) rfl, ⟨by decide, by decide⟩, by decide +kernel, by decide⟩
theorem pnX12_lightOfTrial : plainName mX12_lightOfTrial.1.cls = true := by decide +kernel
theorem iwX12_lightOfTrial : Cond.instanceMethod mX12_lightOfTrial.1 ∈ pb_tbl := pb_i5 (List.mem_of_getElem? (i := 128) (by decide +kernel)) rfl
theorem seX12_lightOfTrial : Cond.selects RX12 mX12_lightOfTrial.1 mX12_lightOfTrial.1 ∈ pb_tbl := pb_i0 (List.mem_of_getElem? (i := 25) (by decide +kernel)) rfl
abbrev mX12_usedMany : pb_M := (yX12_usedMany, cX12_usedMany, 3, (some .int))
set_option maxRecDepth 100000 in
theorem mwX12_usedMany : pb_mw mX12_usedMany 0 := ⟨pb_i5 (List.mem_of_getElem? (i := 125) (rfl)) rfl, pb_i1 (List.mem_of_getElem? (i := 11) (by decide +kernel)) rfl, ⟨by decide, by decide⟩, by decide +kernel, by decide⟩
theorem pnX12_usedMany : plainName mX12_usedMany.1.cls = true := by decide +kernel
theorem iwX12_usedMany : Cond.instanceMethod mX12_usedMany.1 ∈ pb_tbl := pb_i5 (List.mem_of_getElem? (i := 124) (by decide +kernel)) rfl
theorem seX12_usedMany : Cond.selects RX12 mX12_usedMany.1 mX12_usedMany.1 ∈ pb_tbl := pb_i0 (List.mem_of_getElem? (i := 24) (by decide +kernel)) rfl
abbrev mX12_next : pb_M := (yX12_next, cX12_next, 6, (some .boolean))
set_option maxRecDepth 100000 in
theorem mwX12_next : pb_mw mX12_next 1 := ⟨pb_i5 (List.mem_of_getElem? (i := 137) (rfl)) rfl, pb_i1 (List.mem_of_getElem? (i := 11) (by decide +kernel)) rfl, ⟨by decide, by decide⟩, by decide +kernel, by decide⟩
theorem pnX12_next : plainName mX12_next.1.cls = true := by decide +kernel
theorem iwX12_next : Cond.instanceMethod mX12_next.1 ∈ pb_tbl := pb_i5 (List.mem_of_getElem? (i := 136) (by decide +kernel)) rfl
theorem seX12_next : Cond.selects RX12 mX12_next.1 mX12_next.1 ∈ pb_tbl := pb_i0 (List.mem_of_getElem? (i := 27) (by decide +kernel)) rfl
abbrev mX12_begin : pb_M := (yX12_begin, cX12_begin, 6, none)
set_option maxRecDepth 100000 in
theorem mwX12_begin : pb_mw mX12_begin 2 := ⟨pb_i5 (List.mem_of_getElem? (i := 121) (rfl)) rfl, pb_i1 (List.mem_of_getElem? (i := 11) (by decide +kernel)) rfl, ⟨by decide, by decide⟩, by decide +kernel, by decide⟩
theorem pnX12_begin : plainName mX12_begin.1.cls = true := by decide +kernel
theorem iwX12_begin : Cond.instanceMethod mX12_begin.1 ∈ pb_tbl := pb_i5 (List.mem_of_getElem? (i := 120) (by decide +kernel)) rfl
theorem seX12_begin : Cond.selects RX12 mX12_begin.1 mX12_begin.1 ∈ pb_tbl := pb_i0 (List.mem_of_getElem? (i := 23) (by decide +kernel)) rfl
abbrev mX12_isSet : pb_M := (yX12_isSet, cX12_isSet, 2, (some .boolean))
set_option maxRecDepth 100000 in
theorem mwX12_isSet : pb_mw mX12_isSet 1 := ⟨pb_i5 (List.mem_of_getElem? (i := 117) (rfl)) rfl, pb_i1 (List.mem_of_getElem? (i := 11) (by decide +kernel)) rfl, ⟨by decide, by decide⟩, by decide +kernel, by decide⟩
theorem pnX12_isSet : plainName mX12_isSet.1.cls = true := by decide +kernel
theorem iwX12_isSet : Cond.instanceMethod mX12_isSet.1 ∈ pb_tbl := pb_i5 (List.mem_of_getElem? (i := 116) (by decide +kernel)) rfl
theorem seX12_isSet : Cond.selects RX12 mX12_isSet.1 mX12_isSet.1 ∈ pb_tbl := pb_i0 (List.mem_of_getElem? (i := 22) (by decide +kernel)) rfl
abbrev mX12_costOfTrial : pb_M := (yX12_costOfTrial, cX12_costOfTrial, 3, (some .int))
set_option maxRecDepth 100000 in
theorem mwX12_costOfTrial : pb_mw mX12_costOfTrial 0 := ⟨pb_i5 (List.mem_of_getElem? (i := 133) (rfl)) rfl, pb_i1 (List.mem_of_getElem? (i := 11) (by decide +kernel)) rfl, ⟨by decide, by decide⟩, by decide +kernel, by decide⟩
theorem pnX12_costOfTrial : plainName mX12_costOfTrial.1.cls = true := by decide +kernel
theorem iwX12_costOfTrial : Cond.instanceMethod mX12_costOfTrial.1 ∈ pb_tbl := pb_i5 (List.mem_of_getElem? (i := 132) (by decide +kernel)) rfl
theorem seX12_costOfTrial : Cond.selects RX12 mX12_costOfTrial.1 mX12_costOfTrial.1 ∈ pb_tbl := pb_i0 (List.mem_of_getElem? (i := 26) (by decide +kernel)) rfl
abbrev mX12_match : pb_M := (yX12_match, cX12_match, 8, (some .int))
set_option maxRecDepth 100000 in
theorem mwX12_match : pb_mw mX12_match 3 := ⟨pb_i5 (List.mem_of_getElem? (i := 113) (rfl)) rfl, pb_i1 (List.mem_of_getElem? (i := 11) (by decide +kernel)) rfl, ⟨by decide, by decide⟩, by decide +kernel, by decide⟩
theorem pnX12_match : plainName mX12_match.1.cls = true := by decide +kernel
theorem iwX12_match : Cond.instanceMethod mX12_match.1 ∈ pb_tbl := pb_i5 (List.mem_of_getElem? (i := 111) (by decide +kernel)) rfl
theorem seX12_match : Cond.selects RX12 mX12_match.1 mX12_match.1 ∈ pb_tbl := pb_i5 (List.mem_of_getElem? (i := 112) (by decide +kernel)) rfl
abbrev mX12_matched : pb_M := (yX12_matched, cX12_matched, 2, (some .int))
set_option maxRecDepth 100000 in
theorem mwX12_matched : pb_mw mX12_matched 1 := ⟨pb_i5 (List.mem_of_getElem? (i := 141) (rfl)) rfl, pb_i1 (List.mem_of_getElem? (i := 11) (by decide +kernel)) rfl, ⟨by decide, by decide⟩, by decide +kernel, by decide⟩
theorem pnX12_matched : plainName mX12_matched.1.cls = true := by decide +kernel
theorem iwX12_matched : Cond.instanceMethod mX12_matched.1 ∈ pb_tbl := pb_i5 (List.mem_of_getElem? (i := 139) (by decide +kernel)) rfl
theorem seX12_matched : Cond.selects RX12 mX12_matched.1 mX12_matched.1 ∈ pb_tbl := pb_i5 (List.mem_of_getElem? (i := 140) (by decide +kernel)) rfl
abbrev mX12_price : pb_M := (yX12_price, cX12_price, 1, (some .int))
set_option maxRecDepth 100000 in
theorem mwX12_price : pb_mw mX12_price 0 := ⟨pb_i5 (List.mem_of_getElem? (i := 145) (rfl)) rfl, pb_i1 (List.mem_of_getElem? (i := 11) (by decide +kernel)) rfl, ⟨by decide, by decide⟩, by decide +kernel, by decide⟩
theorem pnX12_price : plainName mX12_price.1.cls = true := by decide +kernel
theorem iwX12_price : Cond.instanceMethod mX12_price.1 ∈ pb_tbl := pb_i5 (List.mem_of_getElem? (i := 143) (by decide +kernel)) rfl
theorem seX12_price : Cond.selects RX12 mX12_price.1 mX12_price.1 ∈ pb_tbl := pb_i5 (List.mem_of_getElem? (i := 144) (by decide +kernel)) rfl
abbrev mX12_lightOfGlaze : pb_M := (yX12_lightOfGlaze, cX12_lightOfGlaze, 6, none)
set_option maxRecDepth 100000 in
theorem mwX12_lightOfGlaze : pb_mw mX12_lightOfGlaze 2 := ⟨pb_i5 (List.mem_of_getElem? (i := 153) (rfl)) rfl, pb_i1 (List.mem_of_getElem? (i := 11) (by decide +kernel)) rfl, ⟨by decide, by decide⟩, by decide +kernel, by decide⟩
theorem pnX12_lightOfGlaze : plainName mX12_lightOfGlaze.1.cls = true := by decide +kernel
theorem iwX12_lightOfGlaze : Cond.instanceMethod mX12_lightOfGlaze.1 ∈ pb_tbl := pb_i5 (List.mem_of_getElem? (i := 152) (by decide +kernel)) rfl
theorem seX12_lightOfGlaze : Cond.selects RX12 mX12_lightOfGlaze.1 mX12_lightOfGlaze.1 ∈ pb_tbl := pb_i0 (List.mem_of_getElem? (i := 28) (by decide +kernel)) rfl
abbrev mX12_isGlaze : pb_M := (yX12_isGlaze, cX12_isGlaze, 5, (some .boolean))
set_option maxRecDepth 100000 in
theorem mwX12_isGlaze : pb_mw mX12_isGlaze 2 := ⟨pb_i5 (List.mem_of_getElem? (i := 159) (rfl)) rfl, pb_i1 (List.mem_of_getElem? (i := 11) (by decide +kernel)) rfl, ⟨by decide, by decide⟩, by decide +kernel, by decide⟩
theorem pnX12_isGlaze : plainName mX12_isGlaze.1.cls = true := by decide +kernel
theorem iwX12_isGlaze : Cond.instanceMethod mX12_isGlaze.1 ∈ pb_tbl := pb_i5 (List.mem_of_getElem? (i := 158) (by decide +kernel)) rfl
theorem seX12_isGlaze : Cond.selects RX12 mX12_isGlaze.1 mX12_isGlaze.1 ∈ pb_tbl := pb_i0 (List.mem_of_getElem? (i := 29) (by decide +kernel)) rfl
abbrev mX12_glaze : pb_M := (yX12_glaze, cX12_glaze, 9, (some .int))
set_option maxRecDepth 100000 in
theorem mwX12_glaze : pb_mw mX12_glaze 3 := ⟨pb_i5 (List.mem_of_getElem? (i := 149) (rfl)) rfl, pb_i1 (List.mem_of_getElem? (i := 11) (by decide +kernel)) rfl, ⟨by decide, by decide⟩, by decide +kernel, by decide⟩
theorem pnX12_glaze : plainName mX12_glaze.1.cls = true := by decide +kernel
theorem iwX12_glaze : Cond.instanceMethod mX12_glaze.1 ∈ pb_tbl := pb_i5 (List.mem_of_getElem? (i := 147) (by decide +kernel)) rfl
theorem seX12_glaze : Cond.selects RX12 mX12_glaze.1 mX12_glaze.1 ∈ pb_tbl := pb_i5 (List.mem_of_getElem? (i := 148) (by decide +kernel)) rfl
abbrev mX12_glazed : pb_M := (yX12_glazed, cX12_glazed, 2, (some .int))
set_option maxRecDepth 100000 in
theorem mwX12_glazed : pb_mw mX12_glazed 1 := ⟨pb_i5 (List.mem_of_getElem? (i := 163) (rfl)) rfl, pb_i1 (List.mem_of_getElem? (i := 11) (by decide +kernel)) rfl, ⟨by decide, by decide⟩, by decide +kernel, by decide⟩
theorem pnX12_glazed : plainName mX12_glazed.1.cls = true := by decide +kernel
theorem iwX12_glazed : Cond.instanceMethod mX12_glazed.1 ∈ pb_tbl := pb_i5 (List.mem_of_getElem? (i := 161) (by decide +kernel)) rfl
theorem seX12_glazed : Cond.selects RX12 mX12_glazed.1 mX12_glazed.1 ∈ pb_tbl := pb_i5 (List.mem_of_getElem? (i := 162) (by decide +kernel)) rfl
abbrev mX12_keep : pb_M := (yX12_keep, cX12_keep, 2, (some .int))
set_option maxRecDepth 100000 in
theorem mwX12_keep : pb_mw mX12_keep 0 := ⟨pb_i5 (List.mem_of_getElem? (i := 167) (rfl)) rfl, pb_i1 (List.mem_of_getElem? (i := 11) (by decide +kernel)) rfl, ⟨by decide, by decide⟩, by decide +kernel, by decide⟩
theorem pnX12_keep : plainName mX12_keep.1.cls = true := by decide +kernel
theorem iwX12_keep : Cond.instanceMethod mX12_keep.1 ∈ pb_tbl := pb_i5 (List.mem_of_getElem? (i := 165) (by decide +kernel)) rfl
theorem seX12_keep : Cond.selects RX12 mX12_keep.1 mX12_keep.1 ∈ pb_tbl := pb_i5 (List.mem_of_getElem? (i := 166) (by decide +kernel)) rfl
abbrev mX12_clear : pb_M := (yX12_clear, cX12_clear, 2, (some .int))
set_option maxRecDepth 100000 in
theorem mwX12_clear : pb_mw mX12_clear 0 := ⟨pb_i5 (List.mem_of_getElem? (i := 171) (rfl)) rfl, pb_i1 (List.mem_of_getElem? (i := 11) (by decide +kernel)) rfl, ⟨by decide, by decide⟩, by decide +kernel, by decide⟩
theorem pnX12_clear : plainName mX12_clear.1.cls = true := by decide +kernel
theorem iwX12_clear : Cond.instanceMethod mX12_clear.1 ∈ pb_tbl := pb_i5 (List.mem_of_getElem? (i := 169) (by decide +kernel)) rfl
theorem seX12_clear : Cond.selects RX12 mX12_clear.1 mX12_clear.1 ∈ pb_tbl := pb_i5 (List.mem_of_getElem? (i := 170) (by decide +kernel)) rfl
abbrev mX12_fewest : pb_M := (yX12_fewest, cX12_fewest, 11, (some .int))
set_option maxRecDepth 100000 in
theorem mwX12_fewest : pb_mw mX12_fewest 3 := ⟨pb_i5 (List.mem_of_getElem? (i := 175) (rfl)) rfl, pb_i1 (List.mem_of_getElem? (i := 11) (by decide +kernel)) rfl, ⟨by decide, by decide⟩, by decide +kernel, by decide⟩
theorem pnX12_fewest : plainName mX12_fewest.1.cls = true := by decide +kernel
theorem iwX12_fewest : Cond.instanceMethod mX12_fewest.1 ∈ pb_tbl := pb_i5 (List.mem_of_getElem? (i := 173) (by decide +kernel)) rfl
theorem seX12_fewest : Cond.selects RX12 mX12_fewest.1 mX12_fewest.1 ∈ pb_tbl := pb_i5 (List.mem_of_getElem? (i := 174) (by decide +kernel)) rfl
abbrev mX12_count : pb_M := (yX12_count, cX12_count, 4, (some .int))
set_option maxRecDepth 100000 in
theorem mwX12_count : pb_mw mX12_count 1 := ⟨pb_i5 (List.mem_of_getElem? (i := 179) (rfl)) rfl, pb_i1 (List.mem_of_getElem? (i := 11) (by decide +kernel)) rfl, ⟨by decide, by decide⟩, by decide +kernel, by decide⟩
theorem pnX12_count : plainName mX12_count.1.cls = true := by decide +kernel
theorem iwX12_count : Cond.instanceMethod mX12_count.1 ∈ pb_tbl := pb_i5 (List.mem_of_getElem? (i := 177) (by decide +kernel)) rfl
theorem seX12_count : Cond.selects RX12 mX12_count.1 mX12_count.1 ∈ pb_tbl := pb_i5 (List.mem_of_getElem? (i := 178) (by decide +kernel)) rfl
abbrev mJ6_bitCount_0f7a4 : pb_M := (yJ6_bitCount_0f7a4, cJ6_bitCount_0f7a4, 1, (some .int))
set_option maxRecDepth 100000 in
theorem mwJ6_bitCount_0f7a4 : pb_mw mJ6_bitCount_0f7a4 1 := ⟨pb_i4 (List.mem_of_getElem? (i := 52) (rfl)) rfl, pb_i1 (List.mem_of_getElem? (i := 17) (by decide +kernel)) rfl, ⟨by decide, by decide⟩, by decide +kernel, by decide⟩
theorem pnJ6_bitCount_0f7a4 : plainName mJ6_bitCount_0f7a4.1.cls = true := by decide +kernel
theorem swJ6_bitCount_0f7a4 : Cond.static mJ6_bitCount_0f7a4.1 ∈ pb_tbl := pb_i4 (List.mem_of_getElem? (i := 51) (by decide +kernel)) rfl
abbrev mJ9_abs_0f7a4 : pb_M := (yJ9_abs_0f7a4, cJ9_abs_0f7a4, 1, (some .int))
set_option maxRecDepth 100000 in
theorem mwJ9_abs_0f7a4 : pb_mw mJ9_abs_0f7a4 1 := ⟨pb_i3 (List.mem_of_getElem? (i := 116) (rfl)) rfl, pb_i1 (List.mem_of_getElem? (i := 14) (by decide +kernel)) rfl, ⟨by decide, by decide⟩, by decide +kernel, by decide⟩
theorem swJ9_abs_0f7a4 : Cond.static mJ9_abs_0f7a4.1 ∈ pb_tbl := pb_i3 (List.mem_of_getElem? (i := 115) (by decide +kernel)) rfl
abbrev mJ9_max_7cf53 : pb_M := (yJ9_max_7cf53, cJ9_max_7cf53, 2, (some .int))
set_option maxRecDepth 100000 in
theorem mwJ9_max_7cf53 : pb_mw mJ9_max_7cf53 2 := ⟨pb_i3 (List.mem_of_getElem? (i := 22) (rfl)) rfl, pb_i1 (List.mem_of_getElem? (i := 14) (by decide +kernel)) rfl, ⟨by decide, by decide⟩, by decide +kernel, by decide⟩
theorem swJ9_max_7cf53 : Cond.static mJ9_max_7cf53.1 ∈ pb_tbl := pb_i3 (List.mem_of_getElem? (i := 21) (by decide +kernel)) rfl
abbrev mJ7_fill_53178 : pb_M := (yJ7_fill_53178, cJ7_fill_53178, 4, none)
set_option maxRecDepth 100000 in
theorem mwJ7_fill_53178 : pb_mw mJ7_fill_53178 2 := ⟨pb_i1 (List.mem_of_getElem? (i := 55) (rfl)) rfl, pb_i1 (List.mem_of_getElem? (i := 4) (by decide +kernel)) rfl, ⟨by decide, by decide⟩, by decide +kernel, by decide⟩
theorem pnJ7_fill_53178 : plainName mJ7_fill_53178.1.cls = true := by decide +kernel
theorem swJ7_fill_53178 : Cond.static mJ7_fill_53178.1 ∈ pb_tbl := pb_i1 (List.mem_of_getElem? (i := 54) (by decide +kernel)) rfl
theorem mlL_9 : Cond.methodLink RL 9 yX11_init ∈ pb_tbl := pb_i1 (List.mem_of_getElem? (i := 20) (by decide +kernel)) rfl
theorem mlX11_18 : Cond.methodLink RX11 18 yX4_init ∈ pb_tbl := pb_i1 (List.mem_of_getElem? (i := 47) (by decide +kernel)) rfl
theorem mlX4_30 : Cond.methodLink RX4 30 yJ7_fill_53178 ∈ pb_tbl := pb_i1 (List.mem_of_getElem? (i := 53) (by decide +kernel)) rfl
theorem mlL_13 : Cond.methodLink RL 13 yX11_tube ∈ pb_tbl := pb_i2 (List.mem_of_getElem? (i := 41) (by decide +kernel)) rfl
theorem mlX11_77 : Cond.methodLink RX11 77 yX11_between ∈ pb_tbl := pb_i2 (List.mem_of_getElem? (i := 45) (by decide +kernel)) rfl
theorem mlX11_81 : Cond.methodLink RX11 81 yX8_isFull ∈ pb_tbl := pb_i2 (List.mem_of_getElem? (i := 48) (by decide +kernel)) rfl
theorem mlX11_87 : Cond.methodLink RX11 87 yX10_init ∈ pb_tbl := pb_i2 (List.mem_of_getElem? (i := 54) (by decide +kernel)) rfl
theorem mlX10_34 : Cond.methodLink RX10 34 yX10_paint ∈ pb_tbl := pb_i2 (List.mem_of_getElem? (i := 58) (by decide +kernel)) rfl
theorem mlX11_90 : Cond.methodLink RX11 90 yX8_add ∈ pb_tbl := pb_i2 (List.mem_of_getElem? (i := 93) (by decide +kernel)) rfl
theorem mlX8_21 : Cond.methodLink RX8 21 yX8_isFull ∈ pb_tbl := pb_i2 (List.mem_of_getElem? (i := 97) (by decide +kernel)) rfl
theorem mlL_18 : Cond.methodLink RL 18 yX11_band ∈ pb_tbl := pb_i2 (List.mem_of_getElem? (i := 98) (by decide +kernel)) rfl
theorem mlX11_94 : Cond.methodLink RX11 94 yX8_at ∈ pb_tbl := pb_i2 (List.mem_of_getElem? (i := 102) (by decide +kernel)) rfl
theorem mlX11_98 : Cond.methodLink RX11 98 yX11_isBand ∈ pb_tbl := pb_i2 (List.mem_of_getElem? (i := 107) (by decide +kernel)) rfl
theorem mlX11_102 : Cond.methodLink RX11 102 yX10_paint ∈ pb_tbl := pb_i2 (List.mem_of_getElem? (i := 110) (by decide +kernel)) rfl
theorem mlL_23 : Cond.methodLink RL 23 yX11_ofTube ∈ pb_tbl := pb_i2 (List.mem_of_getElem? (i := 111) (by decide +kernel)) rfl
theorem mlX11_114 : Cond.methodLink RX11 114 yX11_inPots ∈ pb_tbl := pb_i2 (List.mem_of_getElem? (i := 115) (by decide +kernel)) rfl
theorem mlX11_167 : Cond.methodLink RX11 167 yX6_of ∈ pb_tbl := pb_i2 (List.mem_of_getElem? (i := 119) (by decide +kernel)) rfl
theorem mlL_28 : Cond.methodLink RL 28 yX11_row ∈ pb_tbl := pb_i2 (List.mem_of_getElem? (i := 123) (by decide +kernel)) rfl
theorem mlX11_124 : Cond.methodLink RX11 124 yX10_drinkAfter ∈ pb_tbl := pb_i2 (List.mem_of_getElem? (i := 127) (by decide +kernel)) rfl
theorem mlX11_128 : Cond.methodLink RX11 128 yX10_scatterOf ∈ pb_tbl := pb_i2 (List.mem_of_getElem? (i := 131) (by decide +kernel)) rfl
theorem mlL_32 : Cond.methodLink RL 32 yX11_lamp ∈ pb_tbl := pb_i2 (List.mem_of_getElem? (i := 135) (by decide +kernel)) rfl
theorem mlX11_131 : Cond.methodLink RX11 131 yX11_isLamp ∈ pb_tbl := pb_i2 (List.mem_of_getElem? (i := 139) (by decide +kernel)) rfl
theorem mlX11_137 : Cond.methodLink RX11 137 yX11_replace ∈ pb_tbl := pb_i2 (List.mem_of_getElem? (i := 142) (by decide +kernel)) rfl
theorem mlL_36 : Cond.methodLink RL 36 yX11_eye ∈ pb_tbl := pb_i2 (List.mem_of_getElem? (i := 145) (by decide +kernel)) rfl
theorem mlX11_141 : Cond.methodLink RX11 141 yX11_isSight ∈ pb_tbl := pb_i2 (List.mem_of_getElem? (i := 149) (by decide +kernel)) rfl
theorem mlL_40 : Cond.methodLink RL 40 yX11_years ∈ pb_tbl := pb_i2 (List.mem_of_getElem? (i := 152) (by decide +kernel)) rfl
theorem mlL_45 : Cond.methodLink RL 45 yX11_press ∈ pb_tbl := pb_i2 (List.mem_of_getElem? (i := 156) (by decide +kernel)) rfl
theorem mlX11_147 : Cond.methodLink RX11 147 yX11_potAt ∈ pb_tbl := pb_i2 (List.mem_of_getElem? (i := 160) (by decide +kernel)) rfl
theorem mlX11_154 : Cond.methodLink RX11 154 yX6_add ∈ pb_tbl := pb_i2 (List.mem_of_getElem? (i := 164) (by decide +kernel)) rfl
theorem mlL_49 : Cond.methodLink RL 49 yX11_pour ∈ pb_tbl := pb_i2 (List.mem_of_getElem? (i := 168) (by decide +kernel)) rfl
theorem mlX11_157 : Cond.methodLink RX11 157 yX6_addAll ∈ pb_tbl := pb_i2 (List.mem_of_getElem? (i := 172) (by decide +kernel)) rfl
theorem mlX6_19 : Cond.methodLink RX6 19 yX6_add ∈ pb_tbl := pb_i2 (List.mem_of_getElem? (i := 176) (by decide +kernel)) rfl
theorem mlX11_161 : Cond.methodLink RX11 161 yX6_makeEmpty ∈ pb_tbl := pb_i2 (List.mem_of_getElem? (i := 177) (by decide +kernel)) rfl
theorem mlX6_23 : Cond.methodLink RX6 23 yJ7_fill_53178 ∈ pb_tbl := pb_i2 (List.mem_of_getElem? (i := 181) (by decide +kernel)) rfl
theorem mlL_53 : Cond.methodLink RL 53 yX11_waste ∈ pb_tbl := pb_i2 (List.mem_of_getElem? (i := 182) (by decide +kernel)) rfl
theorem mlX11_164 : Cond.methodLink RX11 164 yX8_countLost ∈ pb_tbl := pb_i2 (List.mem_of_getElem? (i := 186) (by decide +kernel)) rfl
theorem mlX8_32 : Cond.methodLink RX8 32 yX6_of ∈ pb_tbl := pb_i2 (List.mem_of_getElem? (i := 190) (by decide +kernel)) rfl
theorem mlL_57 : Cond.methodLink RL 57 yX11_drops ∈ pb_tbl := pb_i2 (List.mem_of_getElem? (i := 191) (by decide +kernel)) rfl
theorem mlL_61 : Cond.methodLink RL 61 yX11_thick ∈ pb_tbl := pb_i2 (List.mem_of_getElem? (i := 195) (by decide +kernel)) rfl
theorem mlX11_170 : Cond.methodLink RX11 170 yX6_sentThick ∈ pb_tbl := pb_i2 (List.mem_of_getElem? (i := 199) (by decide +kernel)) rfl
theorem mlX6_48 : Cond.methodLink RX6 48 yX6_drink ∈ pb_tbl := pb_i2 (List.mem_of_getElem? (i := 203) (by decide +kernel)) rfl
theorem mlX6_38 : Cond.methodLink RX6 38 yX10_drinkAfter ∈ pb_tbl := pb_i2 (List.mem_of_getElem? (i := 207) (by decide +kernel)) rfl
theorem mlX6_52 : Cond.methodLink RX6 52 yX6_scatter ∈ pb_tbl := pb_i2 (List.mem_of_getElem? (i := 208) (by decide +kernel)) rfl
theorem mlX6_44 : Cond.methodLink RX6 44 yX10_scatterOf ∈ pb_tbl := pb_i2 (List.mem_of_getElem? (i := 212) (by decide +kernel)) rfl
theorem mlX6_56 : Cond.methodLink RX6 56 yX7_thickSent ∈ pb_tbl := pb_i2 (List.mem_of_getElem? (i := 213) (by decide +kernel)) rfl
theorem mlL_65 : Cond.methodLink RL 65 yX11_seen ∈ pb_tbl := pb_i2 (List.mem_of_getElem? (i := 219) (by decide +kernel)) rfl
theorem mlX11_174 : Cond.methodLink RX11 174 yX4_shine ∈ pb_tbl := pb_i2 (List.mem_of_getElem? (i := 223) (by decide +kernel)) rfl
theorem mlX11_178 : Cond.methodLink RX11 178 yX4_bySight ∈ pb_tbl := pb_i2 (List.mem_of_getElem? (i := 227) (by decide +kernel)) rfl
theorem mlL_69 : Cond.methodLink RL 69 yX11_over ∈ pb_tbl := pb_i2 (List.mem_of_getElem? (i := 231) (by decide +kernel)) rfl
theorem mlX11_182 : Cond.methodLink RX11 182 yX11_isShare ∈ pb_tbl := pb_i2 (List.mem_of_getElem? (i := 235) (by decide +kernel)) rfl
theorem mlX11_185 : Cond.methodLink RX11 185 yX6_drink ∈ pb_tbl := pb_i2 (List.mem_of_getElem? (i := 238) (by decide +kernel)) rfl
theorem mlX11_189 : Cond.methodLink RX11 189 yX6_scatter ∈ pb_tbl := pb_i2 (List.mem_of_getElem? (i := 239) (by decide +kernel)) rfl
theorem mlX11_192 : Cond.methodLink RX11 192 yX7_thinTake ∈ pb_tbl := pb_i3 (List.mem_of_getElem? (i := 0) (by decide +kernel)) rfl
theorem mlX11_197 : Cond.methodLink RX11 197 yX7_thinSend ∈ pb_tbl := pb_i3 (List.mem_of_getElem? (i := 3) (by decide +kernel)) rfl
theorem mlX11_200 : Cond.methodLink RX11 200 yX7_layered ∈ pb_tbl := pb_i3 (List.mem_of_getElem? (i := 6) (by decide +kernel)) rfl
theorem mlX7_19 : Cond.methodLink RX7 19 yX7_thin ∈ pb_tbl := pb_i3 (List.mem_of_getElem? (i := 9) (by decide +kernel)) rfl
theorem mlL_73 : Cond.methodLink RL 73 yX11_hiding ∈ pb_tbl := pb_i3 (List.mem_of_getElem? (i := 13) (by decide +kernel)) rfl
theorem mlX11_204 : Cond.methodLink RX11 204 yX7_leastHiding ∈ pb_tbl := pb_i3 (List.mem_of_getElem? (i := 17) (by decide +kernel)) rfl
theorem mlX11_208 : Cond.methodLink RX11 208 yJ9_max_7cf53 ∈ pb_tbl := pb_i3 (List.mem_of_getElem? (i := 20) (by decide +kernel)) rfl
theorem mlL_77 : Cond.methodLink RL 77 yX11_ground ∈ pb_tbl := pb_i3 (List.mem_of_getElem? (i := 23) (by decide +kernel)) rfl
theorem mlX11_213 : Cond.methodLink RX11 213 yX11_areaAt ∈ pb_tbl := pb_i3 (List.mem_of_getElem? (i := 27) (by decide +kernel)) rfl
theorem mlL_81 : Cond.methodLink RL 81 yX11_lay ∈ pb_tbl := pb_i3 (List.mem_of_getElem? (i := 31) (by decide +kernel)) rfl
theorem mlX11_223 : Cond.methodLink RX11 223 yX0_isFull ∈ pb_tbl := pb_i3 (List.mem_of_getElem? (i := 35) (by decide +kernel)) rfl
theorem mlX11_226 : Cond.methodLink RX11 226 yX3_init ∈ pb_tbl := pb_i3 (List.mem_of_getElem? (i := 41) (by decide +kernel)) rfl
theorem mlX3_31 : Cond.methodLink RX3 31 yX6_addAll ∈ pb_tbl := pb_i3 (List.mem_of_getElem? (i := 47) (by decide +kernel)) rfl
theorem mlX3_42 : Cond.methodLink RX3 42 yJ7_fill_53178 ∈ pb_tbl := pb_i3 (List.mem_of_getElem? (i := 48) (by decide +kernel)) rfl
theorem mlX11_229 : Cond.methodLink RX11 229 yX0_add ∈ pb_tbl := pb_i3 (List.mem_of_getElem? (i := 71) (by decide +kernel)) rfl
theorem mlX0_24 : Cond.methodLink RX0 24 yX0_isFull ∈ pb_tbl := pb_i3 (List.mem_of_getElem? (i := 75) (by decide +kernel)) rfl
theorem mlX11_232 : Cond.methodLink RX11 232 yX8_countLaid ∈ pb_tbl := pb_i3 (List.mem_of_getElem? (i := 76) (by decide +kernel)) rfl
theorem mlL_85 : Cond.methodLink RL 85 yX11_back ∈ pb_tbl := pb_i3 (List.mem_of_getElem? (i := 80) (by decide +kernel)) rfl
theorem mlX11_235 : Cond.methodLink RX11 235 yX0_sentBack ∈ pb_tbl := pb_i3 (List.mem_of_getElem? (i := 84) (by decide +kernel)) rfl
theorem mlX0_28 : Cond.methodLink RX0 28 yX3_sentOver ∈ pb_tbl := pb_i3 (List.mem_of_getElem? (i := 88) (by decide +kernel)) rfl
theorem mlX3_48 : Cond.methodLink RX3 48 yX6_drink ∈ pb_tbl := pb_i3 (List.mem_of_getElem? (i := 92) (by decide +kernel)) rfl
theorem mlX3_52 : Cond.methodLink RX3 52 yX6_scatter ∈ pb_tbl := pb_i3 (List.mem_of_getElem? (i := 93) (by decide +kernel)) rfl
theorem mlX3_56 : Cond.methodLink RX3 56 yX7_thinTake ∈ pb_tbl := pb_i3 (List.mem_of_getElem? (i := 94) (by decide +kernel)) rfl
theorem mlX3_62 : Cond.methodLink RX3 62 yX7_thinSend ∈ pb_tbl := pb_i3 (List.mem_of_getElem? (i := 95) (by decide +kernel)) rfl
theorem mlX3_65 : Cond.methodLink RX3 65 yX7_layered ∈ pb_tbl := pb_i3 (List.mem_of_getElem? (i := 96) (by decide +kernel)) rfl
theorem mlL_89 : Cond.methodLink RL 89 yX11_look ∈ pb_tbl := pb_i3 (List.mem_of_getElem? (i := 97) (by decide +kernel)) rfl
theorem mlX11_238 : Cond.methodLink RX11 238 yX11_sendFrom ∈ pb_tbl := pb_i3 (List.mem_of_getElem? (i := 101) (by decide +kernel)) rfl
theorem mlL_93 : Cond.methodLink RL 93 yX11_missed ∈ pb_tbl := pb_i3 (List.mem_of_getElem? (i := 105) (by decide +kernel)) rfl
theorem mlX11_242 : Cond.methodLink RX11 242 yX4_farFrom ∈ pb_tbl := pb_i3 (List.mem_of_getElem? (i := 109) (by decide +kernel)) rfl
theorem mlX4_36 : Cond.methodLink RX4 36 yX4_bySight ∈ pb_tbl := pb_i3 (List.mem_of_getElem? (i := 113) (by decide +kernel)) rfl
theorem mlX4_40 : Cond.methodLink RX4 40 yJ9_abs_0f7a4 ∈ pb_tbl := pb_i3 (List.mem_of_getElem? (i := 114) (by decide +kernel)) rfl
theorem mlL_97 : Cond.methodLink RL 97 yX11_tone ∈ pb_tbl := pb_i3 (List.mem_of_getElem? (i := 117) (by decide +kernel)) rfl
theorem mlL_101 : Cond.methodLink RL 101 yX11_apart ∈ pb_tbl := pb_i3 (List.mem_of_getElem? (i := 121) (by decide +kernel)) rfl
theorem mlL_105 : Cond.methodLink RL 105 yX11_match ∈ pb_tbl := pb_i3 (List.mem_of_getElem? (i := 125) (by decide +kernel)) rfl
theorem mlX11_246 : Cond.methodLink RX11 246 yX8_hasSet ∈ pb_tbl := pb_i3 (List.mem_of_getElem? (i := 129) (by decide +kernel)) rfl
theorem mlX11_249 : Cond.methodLink RX11 249 yX5_nearest ∈ pb_tbl := pb_i3 (List.mem_of_getElem? (i := 133) (by decide +kernel)) rfl
theorem mlX9_48 : Cond.methodLink RX9 48 yX8_at ∈ pb_tbl := pb_i3 (List.mem_of_getElem? (i := 146) (by decide +kernel)) rfl
theorem mlX9_54 : Cond.methodLink RX9 54 yX9_addMember ∈ pb_tbl := pb_i3 (List.mem_of_getElem? (i := 147) (by decide +kernel)) rfl
theorem mlX9_67 : Cond.methodLink RX9 67 yX10_drinkAfter ∈ pb_tbl := pb_i3 (List.mem_of_getElem? (i := 151) (by decide +kernel)) rfl
theorem mlX9_71 : Cond.methodLink RX9 71 yX10_scatterOf ∈ pb_tbl := pb_i3 (List.mem_of_getElem? (i := 152) (by decide +kernel)) rfl
theorem mlX9_58 : Cond.methodLink RX9 58 yX9_spread ∈ pb_tbl := pb_i3 (List.mem_of_getElem? (i := 153) (by decide +kernel)) rfl
theorem mlX9_75 : Cond.methodLink RX9 75 yJ7_fill_53178 ∈ pb_tbl := pb_i3 (List.mem_of_getElem? (i := 157) (by decide +kernel)) rfl
theorem mlX9_94 : Cond.methodLink RX9 94 yX7_thickSent ∈ pb_tbl := pb_i3 (List.mem_of_getElem? (i := 176) (by decide +kernel)) rfl
theorem mlX9_99 : Cond.methodLink RX9 99 yX4_bySight ∈ pb_tbl := pb_i3 (List.mem_of_getElem? (i := 177) (by decide +kernel)) rfl
theorem mlX1_67 : Cond.methodLink RX1 67 yJ9_abs_0f7a4 ∈ pb_tbl := pb_i3 (List.mem_of_getElem? (i := 178) (by decide +kernel)) rfl
theorem mlX5_43 : Cond.methodLink RX5 43 yJ9_abs_0f7a4 ∈ pb_tbl := pb_i3 (List.mem_of_getElem? (i := 185) (by decide +kernel)) rfl
theorem mlX9_85 : Cond.methodLink RX9 85 yX9_sumUp ∈ pb_tbl := pb_i3 (List.mem_of_getElem? (i := 198) (by decide +kernel)) rfl
theorem mlL_109 : Cond.methodLink RL 109 yX11_matched ∈ pb_tbl := pb_i3 (List.mem_of_getElem? (i := 202) (by decide +kernel)) rfl
theorem mlX11_257 : Cond.methodLink RX11 257 yX5_dropsOf ∈ pb_tbl := pb_i3 (List.mem_of_getElem? (i := 206) (by decide +kernel)) rfl
theorem mlL_113 : Cond.methodLink RL 113 yX11_price ∈ pb_tbl := pb_i3 (List.mem_of_getElem? (i := 210) (by decide +kernel)) rfl
theorem mlL_118 : Cond.methodLink RL 118 yX11_glaze ∈ pb_tbl := pb_i3 (List.mem_of_getElem? (i := 214) (by decide +kernel)) rfl
theorem mlX11_263 : Cond.methodLink RX11 263 yX2_nearest ∈ pb_tbl := pb_i3 (List.mem_of_getElem? (i := 218) (by decide +kernel)) rfl
theorem mlX2_45 : Cond.methodLink RX2 45 yX8_at ∈ pb_tbl := pb_i3 (List.mem_of_getElem? (i := 223) (by decide +kernel)) rfl
theorem mlX2_51 : Cond.methodLink RX2 51 yX2_readThin ∈ pb_tbl := pb_i3 (List.mem_of_getElem? (i := 224) (by decide +kernel)) rfl
theorem mlX2_71 : Cond.methodLink RX2 71 yX10_drinkAfter ∈ pb_tbl := pb_i3 (List.mem_of_getElem? (i := 228) (by decide +kernel)) rfl
theorem mlX2_77 : Cond.methodLink RX2 77 yX10_scatterOf ∈ pb_tbl := pb_i3 (List.mem_of_getElem? (i := 229) (by decide +kernel)) rfl
theorem mlX2_81 : Cond.methodLink RX2 81 yX7_thinTake ∈ pb_tbl := pb_i3 (List.mem_of_getElem? (i := 230) (by decide +kernel)) rfl
theorem mlX2_86 : Cond.methodLink RX2 86 yX7_thinSend ∈ pb_tbl := pb_i3 (List.mem_of_getElem? (i := 231) (by decide +kernel)) rfl
theorem mlX2_55 : Cond.methodLink RX2 55 yJ7_fill_53178 ∈ pb_tbl := pb_i3 (List.mem_of_getElem? (i := 232) (by decide +kernel)) rfl
theorem mlX2_61 : Cond.methodLink RX2 61 yX4_farFrom ∈ pb_tbl := pb_i3 (List.mem_of_getElem? (i := 233) (by decide +kernel)) rfl
theorem mlX2_67 : Cond.methodLink RX2 67 yX2_layOn ∈ pb_tbl := pb_i3 (List.mem_of_getElem? (i := 234) (by decide +kernel)) rfl
theorem mlX2_89 : Cond.methodLink RX2 89 yX2_thicken ∈ pb_tbl := pb_i3 (List.mem_of_getElem? (i := 238) (by decide +kernel)) rfl
theorem mlX2_101 : Cond.methodLink RX2 101 yX7_layered ∈ pb_tbl := pb_i4 (List.mem_of_getElem? (i := 2) (by decide +kernel)) rfl
theorem mlX2_93 : Cond.methodLink RX2 93 yX2_weigh ∈ pb_tbl := pb_i4 (List.mem_of_getElem? (i := 3) (by decide +kernel)) rfl
theorem mlX2_105 : Cond.methodLink RX2 105 yX4_bySight ∈ pb_tbl := pb_i4 (List.mem_of_getElem? (i := 7) (by decide +kernel)) rfl
theorem mlX2_109 : Cond.methodLink RX2 109 yJ9_abs_0f7a4 ∈ pb_tbl := pb_i4 (List.mem_of_getElem? (i := 8) (by decide +kernel)) rfl
theorem mlL_122 : Cond.methodLink RL 122 yX11_glazed ∈ pb_tbl := pb_i4 (List.mem_of_getElem? (i := 9) (by decide +kernel)) rfl
theorem mlX11_267 : Cond.methodLink RX11 267 yX2_bestLayer ∈ pb_tbl := pb_i4 (List.mem_of_getElem? (i := 13) (by decide +kernel)) rfl
theorem mlL_126 : Cond.methodLink RL 126 yX11_keep ∈ pb_tbl := pb_i4 (List.mem_of_getElem? (i := 17) (by decide +kernel)) rfl
theorem mlL_130 : Cond.methodLink RL 130 yX11_clear ∈ pb_tbl := pb_i4 (List.mem_of_getElem? (i := 21) (by decide +kernel)) rfl
theorem mlL_134 : Cond.methodLink RL 134 yX11_fewest ∈ pb_tbl := pb_i4 (List.mem_of_getElem? (i := 25) (by decide +kernel)) rfl
theorem mlX11_271 : Cond.methodLink RX11 271 yX1_aimAt ∈ pb_tbl := pb_i4 (List.mem_of_getElem? (i := 29) (by decide +kernel)) rfl
theorem mlX11_275 : Cond.methodLink RX11 275 yX1_fewestOf ∈ pb_tbl := pb_i4 (List.mem_of_getElem? (i := 34) (by decide +kernel)) rfl
theorem mlX1_36 : Cond.methodLink RX1 36 yJ7_fill_53178 ∈ pb_tbl := pb_i4 (List.mem_of_getElem? (i := 38) (by decide +kernel)) rfl
theorem mlX1_51 : Cond.methodLink RX1 51 yX1_passOn ∈ pb_tbl := pb_i4 (List.mem_of_getElem? (i := 42) (by decide +kernel)) rfl
theorem mlX1_55 : Cond.methodLink RX1 55 yX1_leastOf ∈ pb_tbl := pb_i4 (List.mem_of_getElem? (i := 46) (by decide +kernel)) rfl
theorem mlX1_72 : Cond.methodLink RX1 72 yJ6_bitCount_0f7a4 ∈ pb_tbl := pb_i4 (List.mem_of_getElem? (i := 50) (by decide +kernel)) rfl
theorem mlL_138 : Cond.methodLink RL 138 yX11_count ∈ pb_tbl := pb_i4 (List.mem_of_getElem? (i := 56) (by decide +kernel)) rfl
theorem mlX11_279 : Cond.methodLink RX11 279 yX11_allInPots ∈ pb_tbl := pb_i4 (List.mem_of_getElem? (i := 60) (by decide +kernel)) rfl
theorem mlX11_283 : Cond.methodLink RX11 283 yX8_allLaid ∈ pb_tbl := pb_i4 (List.mem_of_getElem? (i := 64) (by decide +kernel)) rfl
theorem mlX11_286 : Cond.methodLink RX11 286 yX8_allLost ∈ pb_tbl := pb_i4 (List.mem_of_getElem? (i := 68) (by decide +kernel)) rfl
theorem mlX11_289 : Cond.methodLink RX11 289 yX8_allHeld ∈ pb_tbl := pb_i4 (List.mem_of_getElem? (i := 72) (by decide +kernel)) rfl
theorem mlX11_292 : Cond.methodLink RX11 292 yX11_allLayers ∈ pb_tbl := pb_i4 (List.mem_of_getElem? (i := 76) (by decide +kernel)) rfl
theorem mlL_12 : Cond.methodLink RL 12 yX12_init ∈ pb_tbl := pb_i4 (List.mem_of_getElem? (i := 82) (by decide +kernel)) rfl
theorem mlL_17 : Cond.methodLink RL 17 yX12_tube ∈ pb_tbl := pb_i4 (List.mem_of_getElem? (i := 182) (by decide +kernel)) rfl
theorem mlX12_95 : Cond.methodLink RX12 95 yX12_in ∈ pb_tbl := pb_i4 (List.mem_of_getElem? (i := 186) (by decide +kernel)) rfl
theorem mlL_22 : Cond.methodLink RL 22 yX12_band ∈ pb_tbl := pb_i4 (List.mem_of_getElem? (i := 189) (by decide +kernel)) rfl
theorem mlX12_99 : Cond.methodLink RX12 99 yX12_isTube ∈ pb_tbl := pb_i4 (List.mem_of_getElem? (i := 193) (by decide +kernel)) rfl
theorem mlX12_103 : Cond.methodLink RX12 103 yX12_isBand ∈ pb_tbl := pb_i4 (List.mem_of_getElem? (i := 197) (by decide +kernel)) rfl
theorem mlL_27 : Cond.methodLink RL 27 yX12_ofTube ∈ pb_tbl := pb_i4 (List.mem_of_getElem? (i := 200) (by decide +kernel)) rfl
theorem mlX12_106 : Cond.methodLink RX12 106 yX12_inPots ∈ pb_tbl := pb_i4 (List.mem_of_getElem? (i := 204) (by decide +kernel)) rfl
theorem mlL_31 : Cond.methodLink RL 31 yX12_row ∈ pb_tbl := pb_i4 (List.mem_of_getElem? (i := 208) (by decide +kernel)) rfl
theorem mlX12_110 : Cond.methodLink RX12 110 yX12_faded ∈ pb_tbl := pb_i4 (List.mem_of_getElem? (i := 212) (by decide +kernel)) rfl
theorem mlL_35 : Cond.methodLink RL 35 yX12_lamp ∈ pb_tbl := pb_i4 (List.mem_of_getElem? (i := 216) (by decide +kernel)) rfl
theorem mlX12_114 : Cond.methodLink RX12 114 yX12_isLamp ∈ pb_tbl := pb_i4 (List.mem_of_getElem? (i := 220) (by decide +kernel)) rfl
theorem mlL_39 : Cond.methodLink RL 39 yX12_eye ∈ pb_tbl := pb_i4 (List.mem_of_getElem? (i := 223) (by decide +kernel)) rfl
theorem mlX12_117 : Cond.methodLink RX12 117 yX12_isSight ∈ pb_tbl := pb_i4 (List.mem_of_getElem? (i := 227) (by decide +kernel)) rfl
theorem mlL_44 : Cond.methodLink RL 44 yX12_years ∈ pb_tbl := pb_i4 (List.mem_of_getElem? (i := 230) (by decide +kernel)) rfl
theorem mlL_48 : Cond.methodLink RL 48 yX12_press ∈ pb_tbl := pb_i4 (List.mem_of_getElem? (i := 234) (by decide +kernel)) rfl
theorem mlX12_152 : Cond.methodLink RX12 152 yX12_isPot ∈ pb_tbl := pb_i4 (List.mem_of_getElem? (i := 238) (by decide +kernel)) rfl
theorem mlX12_155 : Cond.methodLink RX12 155 yX12_inPot ∈ pb_tbl := pb_i5 (List.mem_of_getElem? (i := 1) (by decide +kernel)) rfl
theorem mlL_52 : Cond.methodLink RL 52 yX12_pour ∈ pb_tbl := pb_i5 (List.mem_of_getElem? (i := 5) (by decide +kernel)) rfl
theorem mlL_56 : Cond.methodLink RL 56 yX12_waste ∈ pb_tbl := pb_i5 (List.mem_of_getElem? (i := 9) (by decide +kernel)) rfl
theorem mlL_60 : Cond.methodLink RL 60 yX12_drops ∈ pb_tbl := pb_i5 (List.mem_of_getElem? (i := 13) (by decide +kernel)) rfl
theorem mlL_64 : Cond.methodLink RL 64 yX12_thick ∈ pb_tbl := pb_i5 (List.mem_of_getElem? (i := 17) (by decide +kernel)) rfl
theorem mlX12_158 : Cond.methodLink RX12 158 yX12_drinkOf ∈ pb_tbl := pb_i5 (List.mem_of_getElem? (i := 21) (by decide +kernel)) rfl
theorem mlX12_162 : Cond.methodLink RX12 162 yX12_scatterOf ∈ pb_tbl := pb_i5 (List.mem_of_getElem? (i := 25) (by decide +kernel)) rfl
theorem mlX12_165 : Cond.methodLink RX12 165 yX12_thickBy ∈ pb_tbl := pb_i5 (List.mem_of_getElem? (i := 29) (by decide +kernel)) rfl
theorem mlX12_131 : Cond.methodLink RX12 131 yX12_root ∈ pb_tbl := pb_i5 (List.mem_of_getElem? (i := 34) (by decide +kernel)) rfl
theorem mlL_68 : Cond.methodLink RL 68 yX12_seen ∈ pb_tbl := pb_i5 (List.mem_of_getElem? (i := 39) (by decide +kernel)) rfl
theorem mlX12_145 : Cond.methodLink RX12 145 yX12_seenBy ∈ pb_tbl := pb_i5 (List.mem_of_getElem? (i := 43) (by decide +kernel)) rfl
theorem mlL_72 : Cond.methodLink RL 72 yX12_over ∈ pb_tbl := pb_i5 (List.mem_of_getElem? (i := 47) (by decide +kernel)) rfl
theorem mlX12_169 : Cond.methodLink RX12 169 yX12_layerBy ∈ pb_tbl := pb_i5 (List.mem_of_getElem? (i := 51) (by decide +kernel)) rfl
theorem mlX12_141 : Cond.methodLink RX12 141 yX12_thinBy ∈ pb_tbl := pb_i5 (List.mem_of_getElem? (i := 54) (by decide +kernel)) rfl
theorem mlL_76 : Cond.methodLink RL 76 yX12_hiding ∈ pb_tbl := pb_i5 (List.mem_of_getElem? (i := 60) (by decide +kernel)) rfl
theorem mlX12_149 : Cond.methodLink RX12 149 yX12_off ∈ pb_tbl := pb_i5 (List.mem_of_getElem? (i := 64) (by decide +kernel)) rfl
theorem mlL_80 : Cond.methodLink RL 80 yX12_ground ∈ pb_tbl := pb_i5 (List.mem_of_getElem? (i := 67) (by decide +kernel)) rfl
theorem mlX12_173 : Cond.methodLink RX12 173 yX12_isArea ∈ pb_tbl := pb_i5 (List.mem_of_getElem? (i := 71) (by decide +kernel)) rfl
theorem mlL_84 : Cond.methodLink RL 84 yX12_lay ∈ pb_tbl := pb_i5 (List.mem_of_getElem? (i := 74) (by decide +kernel)) rfl
theorem mlL_88 : Cond.methodLink RL 88 yX12_back ∈ pb_tbl := pb_i5 (List.mem_of_getElem? (i := 78) (by decide +kernel)) rfl
theorem mlX12_176 : Cond.methodLink RX12 176 yX12_backOf ∈ pb_tbl := pb_i5 (List.mem_of_getElem? (i := 82) (by decide +kernel)) rfl
theorem mlL_92 : Cond.methodLink RL 92 yX12_look ∈ pb_tbl := pb_i5 (List.mem_of_getElem? (i := 86) (by decide +kernel)) rfl
theorem mlX12_179 : Cond.methodLink RX12 179 yX12_lightOf ∈ pb_tbl := pb_i5 (List.mem_of_getElem? (i := 90) (by decide +kernel)) rfl
theorem mlL_96 : Cond.methodLink RL 96 yX12_missed ∈ pb_tbl := pb_i5 (List.mem_of_getElem? (i := 94) (by decide +kernel)) rfl
theorem mlX12_183 : Cond.methodLink RX12 183 yX12_apartFrom ∈ pb_tbl := pb_i5 (List.mem_of_getElem? (i := 98) (by decide +kernel)) rfl
theorem mlL_100 : Cond.methodLink RL 100 yX12_tone ∈ pb_tbl := pb_i5 (List.mem_of_getElem? (i := 102) (by decide +kernel)) rfl
theorem mlL_104 : Cond.methodLink RL 104 yX12_apart ∈ pb_tbl := pb_i5 (List.mem_of_getElem? (i := 106) (by decide +kernel)) rfl
theorem mlL_108 : Cond.methodLink RL 108 yX12_match ∈ pb_tbl := pb_i5 (List.mem_of_getElem? (i := 110) (by decide +kernel)) rfl
theorem mlX12_187 : Cond.methodLink RX12 187 yX12_isSet ∈ pb_tbl := pb_i5 (List.mem_of_getElem? (i := 114) (by decide +kernel)) rfl
theorem mlX12_190 : Cond.methodLink RX12 190 yX12_begin ∈ pb_tbl := pb_i5 (List.mem_of_getElem? (i := 118) (by decide +kernel)) rfl
theorem mlX12_193 : Cond.methodLink RX12 193 yX12_usedMany ∈ pb_tbl := pb_i5 (List.mem_of_getElem? (i := 122) (by decide +kernel)) rfl
theorem mlX12_197 : Cond.methodLink RX12 197 yX12_lightOfTrial ∈ pb_tbl := pb_i5 (List.mem_of_getElem? (i := 126) (by decide +kernel)) rfl
theorem mlX12_200 : Cond.methodLink RX12 200 yX12_costOfTrial ∈ pb_tbl := pb_i5 (List.mem_of_getElem? (i := 130) (by decide +kernel)) rfl
theorem mlX12_206 : Cond.methodLink RX12 206 yX12_next ∈ pb_tbl := pb_i5 (List.mem_of_getElem? (i := 134) (by decide +kernel)) rfl
theorem mlL_112 : Cond.methodLink RL 112 yX12_matched ∈ pb_tbl := pb_i5 (List.mem_of_getElem? (i := 138) (by decide +kernel)) rfl
theorem mlL_117 : Cond.methodLink RL 117 yX12_price ∈ pb_tbl := pb_i5 (List.mem_of_getElem? (i := 142) (by decide +kernel)) rfl
theorem mlL_121 : Cond.methodLink RL 121 yX12_glaze ∈ pb_tbl := pb_i5 (List.mem_of_getElem? (i := 146) (by decide +kernel)) rfl
theorem mlX12_216 : Cond.methodLink RX12 216 yX12_lightOfGlaze ∈ pb_tbl := pb_i5 (List.mem_of_getElem? (i := 150) (by decide +kernel)) rfl
theorem mlX12_219 : Cond.methodLink RX12 219 yX12_isGlaze ∈ pb_tbl := pb_i5 (List.mem_of_getElem? (i := 156) (by decide +kernel)) rfl
theorem mlL_125 : Cond.methodLink RL 125 yX12_glazed ∈ pb_tbl := pb_i5 (List.mem_of_getElem? (i := 160) (by decide +kernel)) rfl
theorem mlL_129 : Cond.methodLink RL 129 yX12_keep ∈ pb_tbl := pb_i5 (List.mem_of_getElem? (i := 164) (by decide +kernel)) rfl
theorem mlL_133 : Cond.methodLink RL 133 yX12_clear ∈ pb_tbl := pb_i5 (List.mem_of_getElem? (i := 168) (by decide +kernel)) rfl
theorem mlL_137 : Cond.methodLink RL 137 yX12_fewest ∈ pb_tbl := pb_i5 (List.mem_of_getElem? (i := 172) (by decide +kernel)) rfl
theorem mlL_141 : Cond.methodLink RL 141 yX12_count ∈ pb_tbl := pb_i5 (List.mem_of_getElem? (i := 176) (by decide +kernel)) rfl
theorem mnX11_11 : Cond.methodLinkNest RX11 11 yX8_init "PaintBox" ∈ pb_nw := pb_j1 (List.mem_of_getElem? (i := 28) (by decide +kernel)) rfl
theorem mnX11_49 : Cond.methodLinkNest RX11 49 yX5_init "PaintBox" ∈ pb_nw := pb_j1 (List.mem_of_getElem? (i := 86) (by decide +kernel)) rfl
theorem mnX5_3 : Cond.methodLinkNest RX5 3 yX9_init "PaintBox" ∈ pb_nw := pb_j1 (List.mem_of_getElem? (i := 89) (by decide +kernel)) rfl
theorem mnX11_56 : Cond.methodLinkNest RX11 56 yX1_init "PaintBox" ∈ pb_nw := pb_j1 (List.mem_of_getElem? (i := 147) (by decide +kernel)) rfl
theorem mnX1_3 : Cond.methodLinkNest RX1 3 yX9_init "PaintBox" ∈ pb_nw := pb_j1 (List.mem_of_getElem? (i := 150) (by decide +kernel)) rfl
theorem mnX11_63 : Cond.methodLinkNest RX11 63 yX2_init "PaintBox" ∈ pb_nw := pb_j1 (List.mem_of_getElem? (i := 181) (by decide +kernel)) rfl
theorem mnX11_75 : Cond.methodLinkNest RX11 75 yX6_init "PaintBox" ∈ pb_nw := pb_j1 (List.mem_of_getElem? (i := 213) (by decide +kernel)) rfl
theorem mnX11_76 : Cond.methodLinkNest RX11 76 yX0_init "PaintBox" ∈ pb_nw := pb_j1 (List.mem_of_getElem? (i := 226) (by decide +kernel)) rfl
theorem mnX8_25 : Cond.methodLinkNest RX8 25 yX11_between "PaintBox" ∈ pb_nw := pb_j2 (List.mem_of_getElem? (i := 106) (by decide +kernel)) rfl
theorem mnX3_11 : Cond.methodLinkNest RX3 11 yX6_init "PaintBox" ∈ pb_nw := pb_j3 (List.mem_of_getElem? (i := 46) (by decide +kernel)) rfl
theorem flX8_11_X8 : pb_fl RX8 11 7 0 RX8 TX8 2 tyX8 := ⟨pb_cl7, by decide, pb_i1 (List.mem_of_getElem? (i := 34) (by decide +kernel)) rfl⟩
theorem flX8_17_X8 : pb_fl RX8 17 7 1 RX8 TX8 2 tyX8 := ⟨pb_cl7, by decide, pb_i1 (List.mem_of_getElem? (i := 36) (by decide +kernel)) rfl⟩
theorem flX1_42_X8 : pb_fl RX1 42 7 1 RX8 TX8 2 tyX8 := ⟨pb_cl7, by decide, pb_i1 (List.mem_of_getElem? (i := 37) (by decide +kernel)) rfl⟩
theorem flX6_29_X8 : pb_fl RX6 29 7 1 RX8 TX8 2 tyX8 := ⟨pb_cl7, by decide, pb_i1 (List.mem_of_getElem? (i := 38) (by decide +kernel)) rfl⟩
theorem flX11_270_X8 : pb_fl RX11 270 7 1 RX8 TX8 2 tyX8 := ⟨pb_cl7, by decide, pb_i1 (List.mem_of_getElem? (i := 39) (by decide +kernel)) rfl⟩
theorem flX4_11_X4 : pb_fl RX4 11 4 0 RX4 TX4 5 tyX4 := ⟨pb_cl4, by decide, pb_i1 (List.mem_of_getElem? (i := 56) (by decide +kernel)) rfl⟩
theorem flX11_134_X4 : pb_fl RX11 134 4 0 RX4 TX4 5 tyX4 := ⟨pb_cl4, by decide, pb_i1 (List.mem_of_getElem? (i := 57) (by decide +kernel)) rfl⟩
theorem flX4_16_X4 : pb_fl RX4 16 4 1 RX4 TX4 5 tyX4 := ⟨pb_cl4, by decide, pb_i1 (List.mem_of_getElem? (i := 58) (by decide +kernel)) rfl⟩
theorem flX11_144_X4 : pb_fl RX11 144 4 1 RX4 TX4 5 tyX4 := ⟨pb_cl4, by decide, pb_i1 (List.mem_of_getElem? (i := 59) (by decide +kernel)) rfl⟩
theorem flX4_19_X4 : pb_fl RX4 19 4 2 RX4 TX4 5 tyX4 := ⟨pb_cl4, by decide, pb_i1 (List.mem_of_getElem? (i := 60) (by decide +kernel)) rfl⟩
theorem flX9_89_X4 : pb_fl RX9 89 4 2 RX4 TX4 5 tyX4 := ⟨pb_cl4, by decide, pb_i1 (List.mem_of_getElem? (i := 61) (by decide +kernel)) rfl⟩
theorem flX4_22_X4 : pb_fl RX4 22 4 3 RX4 TX4 5 tyX4 := ⟨pb_cl4, by decide, pb_i1 (List.mem_of_getElem? (i := 62) (by decide +kernel)) rfl⟩
theorem flX4_26_X4 : pb_fl RX4 26 4 4 RX4 TX4 5 tyX4 := ⟨pb_cl4, by decide, pb_i1 (List.mem_of_getElem? (i := 63) (by decide +kernel)) rfl⟩
theorem flX2_97_X4 : pb_fl RX2 97 4 4 RX4 TX4 5 tyX4 := ⟨pb_cl4, by decide, pb_i1 (List.mem_of_getElem? (i := 64) (by decide +kernel)) rfl⟩
theorem flX11_295_X4 : pb_fl RX11 295 4 4 RX4 TX4 5 tyX4 := ⟨pb_cl4, by decide, pb_i1 (List.mem_of_getElem? (i := 65) (by decide +kernel)) rfl⟩
theorem flX5_9_X5 : pb_fl RX5 9 5 11 RX5 TX5 16 tyX5 := ⟨pb_cl5, by decide, pb_i1 (List.mem_of_getElem? (i := 94) (by decide +kernel)) rfl⟩
theorem flX11_253_X5 : pb_fl RX11 253 5 11 RX5 TX5 16 tyX5 := ⟨pb_cl5, by decide, pb_i1 (List.mem_of_getElem? (i := 95) (by decide +kernel)) rfl⟩
theorem flX5_15_X5 : pb_fl RX5 15 5 12 RX5 TX5 16 tyX5 := ⟨pb_cl5, by decide, pb_i1 (List.mem_of_getElem? (i := 96) (by decide +kernel)) rfl⟩
theorem flX11_260_X5 : pb_fl RX11 260 5 12 RX5 TX5 16 tyX5 := ⟨pb_cl5, by decide, pb_i1 (List.mem_of_getElem? (i := 97) (by decide +kernel)) rfl⟩
theorem flX5_19_X5 : pb_fl RX5 19 5 13 RX5 TX5 16 tyX5 := ⟨pb_cl5, by decide, pb_i1 (List.mem_of_getElem? (i := 98) (by decide +kernel)) rfl⟩
theorem flX5_22_X5 : pb_fl RX5 22 5 14 RX5 TX5 16 tyX5 := ⟨pb_cl5, by decide, pb_i1 (List.mem_of_getElem? (i := 99) (by decide +kernel)) rfl⟩
theorem flX5_26_X5 : pb_fl RX5 26 5 15 RX5 TX5 16 tyX5 := ⟨pb_cl5, by decide, pb_i1 (List.mem_of_getElem? (i := 100) (by decide +kernel)) rfl⟩
theorem flX9_9_X1 : pb_fl RX9 9 1 0 RX1 TX1 16 tyX1 := ⟨pb_cl1, by decide, pb_i1 (List.mem_of_getElem? (i := 101) (by decide +kernel)) rfl⟩
theorem flX9_9_X5 : pb_fl RX9 9 5 0 RX5 TX5 16 tyX5 := ⟨pb_cl5, by decide, pb_i1 (List.mem_of_getElem? (i := 101) (by decide +kernel)) rfl⟩
theorem flX9_15_X1 : pb_fl RX9 15 1 1 RX1 TX1 16 tyX1 := ⟨pb_cl1, by decide, pb_i1 (List.mem_of_getElem? (i := 102) (by decide +kernel)) rfl⟩
theorem flX9_15_X5 : pb_fl RX9 15 5 1 RX5 TX5 16 tyX5 := ⟨pb_cl5, by decide, pb_i1 (List.mem_of_getElem? (i := 102) (by decide +kernel)) rfl⟩
theorem flX9_20_X1 : pb_fl RX9 20 1 2 RX1 TX1 16 tyX1 := ⟨pb_cl1, by decide, pb_i1 (List.mem_of_getElem? (i := 103) (by decide +kernel)) rfl⟩
theorem flX9_20_X5 : pb_fl RX9 20 5 2 RX5 TX5 16 tyX5 := ⟨pb_cl5, by decide, pb_i1 (List.mem_of_getElem? (i := 103) (by decide +kernel)) rfl⟩
theorem flX9_23_X1 : pb_fl RX9 23 1 3 RX1 TX1 16 tyX1 := ⟨pb_cl1, by decide, pb_i1 (List.mem_of_getElem? (i := 104) (by decide +kernel)) rfl⟩
theorem flX9_23_X5 : pb_fl RX9 23 5 3 RX5 TX5 16 tyX5 := ⟨pb_cl5, by decide, pb_i1 (List.mem_of_getElem? (i := 104) (by decide +kernel)) rfl⟩
theorem flX9_26_X1 : pb_fl RX9 26 1 4 RX1 TX1 16 tyX1 := ⟨pb_cl1, by decide, pb_i1 (List.mem_of_getElem? (i := 105) (by decide +kernel)) rfl⟩
theorem flX9_26_X5 : pb_fl RX9 26 5 4 RX5 TX5 16 tyX5 := ⟨pb_cl5, by decide, pb_i1 (List.mem_of_getElem? (i := 105) (by decide +kernel)) rfl⟩
theorem flX9_30_X1 : pb_fl RX9 30 1 5 RX1 TX1 16 tyX1 := ⟨pb_cl1, by decide, pb_i1 (List.mem_of_getElem? (i := 106) (by decide +kernel)) rfl⟩
theorem flX9_30_X5 : pb_fl RX9 30 5 5 RX5 TX5 16 tyX5 := ⟨pb_cl5, by decide, pb_i1 (List.mem_of_getElem? (i := 106) (by decide +kernel)) rfl⟩
theorem flX9_33_X1 : pb_fl RX9 33 1 6 RX1 TX1 16 tyX1 := ⟨pb_cl1, by decide, pb_i1 (List.mem_of_getElem? (i := 107) (by decide +kernel)) rfl⟩
theorem flX9_33_X5 : pb_fl RX9 33 5 6 RX5 TX5 16 tyX5 := ⟨pb_cl5, by decide, pb_i1 (List.mem_of_getElem? (i := 107) (by decide +kernel)) rfl⟩
theorem flX9_36_X1 : pb_fl RX9 36 1 7 RX1 TX1 16 tyX1 := ⟨pb_cl1, by decide, pb_i1 (List.mem_of_getElem? (i := 108) (by decide +kernel)) rfl⟩
theorem flX9_36_X5 : pb_fl RX9 36 5 7 RX5 TX5 16 tyX5 := ⟨pb_cl5, by decide, pb_i1 (List.mem_of_getElem? (i := 108) (by decide +kernel)) rfl⟩
theorem flX9_39_X1 : pb_fl RX9 39 1 8 RX1 TX1 16 tyX1 := ⟨pb_cl1, by decide, pb_i1 (List.mem_of_getElem? (i := 109) (by decide +kernel)) rfl⟩
theorem flX9_39_X5 : pb_fl RX9 39 5 8 RX5 TX5 16 tyX5 := ⟨pb_cl5, by decide, pb_i1 (List.mem_of_getElem? (i := 109) (by decide +kernel)) rfl⟩
theorem flX9_42_X1 : pb_fl RX9 42 1 9 RX1 TX1 16 tyX1 := ⟨pb_cl1, by decide, pb_i1 (List.mem_of_getElem? (i := 110) (by decide +kernel)) rfl⟩
theorem flX9_42_X5 : pb_fl RX9 42 5 9 RX5 TX5 16 tyX5 := ⟨pb_cl5, by decide, pb_i1 (List.mem_of_getElem? (i := 110) (by decide +kernel)) rfl⟩
theorem flX9_45_X1 : pb_fl RX9 45 1 10 RX1 TX1 16 tyX1 := ⟨pb_cl1, by decide, pb_i1 (List.mem_of_getElem? (i := 111) (by decide +kernel)) rfl⟩
theorem flX9_45_X5 : pb_fl RX9 45 5 10 RX5 TX5 16 tyX5 := ⟨pb_cl5, by decide, pb_i1 (List.mem_of_getElem? (i := 111) (by decide +kernel)) rfl⟩
theorem flX1_9_X1 : pb_fl RX1 9 1 11 RX1 TX1 16 tyX1 := ⟨pb_cl1, by decide, pb_i1 (List.mem_of_getElem? (i := 152) (by decide +kernel)) rfl⟩
theorem flX1_17_X1 : pb_fl RX1 17 1 12 RX1 TX1 16 tyX1 := ⟨pb_cl1, by decide, pb_i1 (List.mem_of_getElem? (i := 153) (by decide +kernel)) rfl⟩
theorem flX1_20_X1 : pb_fl RX1 20 1 13 RX1 TX1 16 tyX1 := ⟨pb_cl1, by decide, pb_i1 (List.mem_of_getElem? (i := 154) (by decide +kernel)) rfl⟩
theorem flX1_24_X1 : pb_fl RX1 24 1 14 RX1 TX1 16 tyX1 := ⟨pb_cl1, by decide, pb_i1 (List.mem_of_getElem? (i := 155) (by decide +kernel)) rfl⟩
theorem flX1_27_X1 : pb_fl RX1 27 1 15 RX1 TX1 16 tyX1 := ⟨pb_cl1, by decide, pb_i1 (List.mem_of_getElem? (i := 156) (by decide +kernel)) rfl⟩
theorem flX2_9_X2 : pb_fl RX2 9 2 0 RX2 TX2 8 tyX2 := ⟨pb_cl2, by decide, pb_i1 (List.mem_of_getElem? (i := 186) (by decide +kernel)) rfl⟩
theorem flX11_264_X2 : pb_fl RX11 264 2 0 RX2 TX2 8 tyX2 := ⟨pb_cl2, by decide, pb_i1 (List.mem_of_getElem? (i := 187) (by decide +kernel)) rfl⟩
theorem flX2_15_X2 : pb_fl RX2 15 2 1 RX2 TX2 8 tyX2 := ⟨pb_cl2, by decide, pb_i1 (List.mem_of_getElem? (i := 188) (by decide +kernel)) rfl⟩
theorem flX2_18_X2 : pb_fl RX2 18 2 2 RX2 TX2 8 tyX2 := ⟨pb_cl2, by decide, pb_i1 (List.mem_of_getElem? (i := 189) (by decide +kernel)) rfl⟩
theorem flX2_22_X2 : pb_fl RX2 22 2 3 RX2 TX2 8 tyX2 := ⟨pb_cl2, by decide, pb_i1 (List.mem_of_getElem? (i := 190) (by decide +kernel)) rfl⟩
theorem flX2_27_X2 : pb_fl RX2 27 2 4 RX2 TX2 8 tyX2 := ⟨pb_cl2, by decide, pb_i1 (List.mem_of_getElem? (i := 191) (by decide +kernel)) rfl⟩
theorem flX2_30_X2 : pb_fl RX2 30 2 5 RX2 TX2 8 tyX2 := ⟨pb_cl2, by decide, pb_i1 (List.mem_of_getElem? (i := 192) (by decide +kernel)) rfl⟩
theorem flX2_33_X2 : pb_fl RX2 33 2 6 RX2 TX2 8 tyX2 := ⟨pb_cl2, by decide, pb_i1 (List.mem_of_getElem? (i := 193) (by decide +kernel)) rfl⟩
theorem flX2_36_X2 : pb_fl RX2 36 2 7 RX2 TX2 8 tyX2 := ⟨pb_cl2, by decide, pb_i1 (List.mem_of_getElem? (i := 194) (by decide +kernel)) rfl⟩
theorem flX6_9_X6 : pb_fl RX6 9 6 0 RX6 TX6 2 tyX6 := ⟨pb_cl6, by decide, pb_i1 (List.mem_of_getElem? (i := 217) (by decide +kernel)) rfl⟩
theorem flX6_15_X6 : pb_fl RX6 15 6 1 RX6 TX6 2 tyX6 := ⟨pb_cl6, by decide, pb_i1 (List.mem_of_getElem? (i := 218) (by decide +kernel)) rfl⟩
theorem flX11_151_X6 : pb_fl RX11 151 6 1 RX6 TX6 2 tyX6 := ⟨pb_cl6, by decide, pb_i1 (List.mem_of_getElem? (i := 219) (by decide +kernel)) rfl⟩
theorem flX0_11_X0 : pb_fl RX0 11 0 0 RX0 TX0 3 tyX0 := ⟨pb_cl0, by decide, pb_i1 (List.mem_of_getElem? (i := 232) (by decide +kernel)) rfl⟩
theorem flX0_17_X0 : pb_fl RX0 17 0 1 RX0 TX0 3 tyX0 := ⟨pb_cl0, by decide, pb_i1 (List.mem_of_getElem? (i := 233) (by decide +kernel)) rfl⟩
theorem flX11_217_X0 : pb_fl RX11 217 0 1 RX0 TX0 3 tyX0 := ⟨pb_cl0, by decide, pb_i1 (List.mem_of_getElem? (i := 234) (by decide +kernel)) rfl⟩
theorem flX0_21_X0 : pb_fl RX0 21 0 2 RX0 TX0 3 tyX0 := ⟨pb_cl0, by decide, pb_i1 (List.mem_of_getElem? (i := 235) (by decide +kernel)) rfl⟩
theorem flX11_220_X0 : pb_fl RX11 220 0 2 RX0 TX0 3 tyX0 := ⟨pb_cl0, by decide, pb_i1 (List.mem_of_getElem? (i := 236) (by decide +kernel)) rfl⟩
theorem flX11_12_X11 : pb_fl RX11 12 9 0 RX11 TX11 12 tyX11 := ⟨pb_cl9, by decide, pb_i2 (List.mem_of_getElem? (i := 4) (by decide +kernel)) rfl⟩
theorem flX11_19_X11 : pb_fl RX11 19 9 1 RX11 TX11 12 tyX11 := ⟨pb_cl9, by decide, pb_i2 (List.mem_of_getElem? (i := 5) (by decide +kernel)) rfl⟩
theorem flX11_25_X11 : pb_fl RX11 25 9 2 RX11 TX11 12 tyX11 := ⟨pb_cl9, by decide, pb_i2 (List.mem_of_getElem? (i := 6) (by decide +kernel)) rfl⟩
theorem flX11_31_X11 : pb_fl RX11 31 9 3 RX11 TX11 12 tyX11 := ⟨pb_cl9, by decide, pb_i2 (List.mem_of_getElem? (i := 7) (by decide +kernel)) rfl⟩
theorem flX11_35_X11 : pb_fl RX11 35 9 4 RX11 TX11 12 tyX11 := ⟨pb_cl9, by decide, pb_i2 (List.mem_of_getElem? (i := 8) (by decide +kernel)) rfl⟩
theorem flX11_41_X11 : pb_fl RX11 41 9 5 RX11 TX11 12 tyX11 := ⟨pb_cl9, by decide, pb_i2 (List.mem_of_getElem? (i := 9) (by decide +kernel)) rfl⟩
theorem flX11_44_X11 : pb_fl RX11 44 9 6 RX11 TX11 12 tyX11 := ⟨pb_cl9, by decide, pb_i2 (List.mem_of_getElem? (i := 10) (by decide +kernel)) rfl⟩
theorem flX11_50_X11 : pb_fl RX11 50 9 7 RX11 TX11 12 tyX11 := ⟨pb_cl9, by decide, pb_i2 (List.mem_of_getElem? (i := 11) (by decide +kernel)) rfl⟩
theorem flX11_57_X11 : pb_fl RX11 57 9 8 RX11 TX11 12 tyX11 := ⟨pb_cl9, by decide, pb_i2 (List.mem_of_getElem? (i := 12) (by decide +kernel)) rfl⟩
theorem flX11_64_X11 : pb_fl RX11 64 9 9 RX11 TX11 12 tyX11 := ⟨pb_cl9, by decide, pb_i2 (List.mem_of_getElem? (i := 13) (by decide +kernel)) rfl⟩
theorem flX11_68_X11 : pb_fl RX11 68 9 10 RX11 TX11 12 tyX11 := ⟨pb_cl9, by decide, pb_i2 (List.mem_of_getElem? (i := 14) (by decide +kernel)) rfl⟩
theorem flX11_72_X11 : pb_fl RX11 72 9 11 RX11 TX11 12 tyX11 := ⟨pb_cl9, by decide, pb_i2 (List.mem_of_getElem? (i := 15) (by decide +kernel)) rfl⟩
theorem flX10_25_X10 : pb_fl RX10 25 8 0 RX10 TX10 7 tyX10 := ⟨pb_cl8, by decide, pb_i2 (List.mem_of_getElem? (i := 62) (by decide +kernel)) rfl⟩
theorem flX9_62_X10 : pb_fl RX9 62 8 0 RX10 TX10 7 tyX10 := ⟨pb_cl8, by decide, pb_i2 (List.mem_of_getElem? (i := 63) (by decide +kernel)) rfl⟩
theorem flX11_105_X10 : pb_fl RX11 105 8 0 RX10 TX10 7 tyX10 := ⟨pb_cl8, by decide, pb_i2 (List.mem_of_getElem? (i := 64) (by decide +kernel)) rfl⟩
theorem flX10_28_X10 : pb_fl RX10 28 8 1 RX10 TX10 7 tyX10 := ⟨pb_cl8, by decide, pb_i2 (List.mem_of_getElem? (i := 65) (by decide +kernel)) rfl⟩
theorem flX11_108_X10 : pb_fl RX11 108 8 1 RX10 TX10 7 tyX10 := ⟨pb_cl8, by decide, pb_i2 (List.mem_of_getElem? (i := 66) (by decide +kernel)) rfl⟩
theorem flX10_31_X10 : pb_fl RX10 31 8 2 RX10 TX10 7 tyX10 := ⟨pb_cl8, by decide, pb_i2 (List.mem_of_getElem? (i := 67) (by decide +kernel)) rfl⟩
theorem flX11_111_X10 : pb_fl RX11 111 8 2 RX10 TX10 7 tyX10 := ⟨pb_cl8, by decide, pb_i2 (List.mem_of_getElem? (i := 68) (by decide +kernel)) rfl⟩
theorem flX8_41_X10 : pb_fl RX8 41 8 2 RX10 TX10 7 tyX10 := ⟨pb_cl8, by decide, pb_i2 (List.mem_of_getElem? (i := 69) (by decide +kernel)) rfl⟩
theorem flX10_9_X10 : pb_fl RX10 9 8 3 RX10 TX10 7 tyX10 := ⟨pb_cl8, by decide, pb_i2 (List.mem_of_getElem? (i := 70) (by decide +kernel)) rfl⟩
theorem flX11_118_X10 : pb_fl RX11 118 8 3 RX10 TX10 7 tyX10 := ⟨pb_cl8, by decide, pb_i2 (List.mem_of_getElem? (i := 71) (by decide +kernel)) rfl⟩
theorem flX8_38_X10 : pb_fl RX8 38 8 3 RX10 TX10 7 tyX10 := ⟨pb_cl8, by decide, pb_i2 (List.mem_of_getElem? (i := 72) (by decide +kernel)) rfl⟩
theorem flX10_15_X10 : pb_fl RX10 15 8 4 RX10 TX10 7 tyX10 := ⟨pb_cl8, by decide, pb_i2 (List.mem_of_getElem? (i := 73) (by decide +kernel)) rfl⟩
theorem flX11_121_X10 : pb_fl RX11 121 8 4 RX10 TX10 7 tyX10 := ⟨pb_cl8, by decide, pb_i2 (List.mem_of_getElem? (i := 74) (by decide +kernel)) rfl⟩
theorem flX8_29_X10 : pb_fl RX8 29 8 4 RX10 TX10 7 tyX10 := ⟨pb_cl8, by decide, pb_i2 (List.mem_of_getElem? (i := 75) (by decide +kernel)) rfl⟩
theorem flX10_18_X10 : pb_fl RX10 18 8 5 RX10 TX10 7 tyX10 := ⟨pb_cl8, by decide, pb_i2 (List.mem_of_getElem? (i := 76) (by decide +kernel)) rfl⟩
theorem flX10_22_X10 : pb_fl RX10 22 8 6 RX10 TX10 7 tyX10 := ⟨pb_cl8, by decide, pb_i2 (List.mem_of_getElem? (i := 77) (by decide +kernel)) rfl⟩
theorem flX3_12_X3 : pb_fl RX3 12 3 0 RX3 TX3 7 tyX3 := ⟨pb_cl3, by decide, pb_i3 (List.mem_of_getElem? (i := 49) (by decide +kernel)) rfl⟩
theorem flX3_35_X3 : pb_fl RX3 35 3 1 RX3 TX3 7 tyX3 := ⟨pb_cl3, by decide, pb_i3 (List.mem_of_getElem? (i := 50) (by decide +kernel)) rfl⟩
theorem flX3_39_X3 : pb_fl RX3 39 3 2 RX3 TX3 7 tyX3 := ⟨pb_cl3, by decide, pb_i3 (List.mem_of_getElem? (i := 51) (by decide +kernel)) rfl⟩
theorem flX3_18_X3 : pb_fl RX3 18 3 3 RX3 TX3 7 tyX3 := ⟨pb_cl3, by decide, pb_i3 (List.mem_of_getElem? (i := 52) (by decide +kernel)) rfl⟩
theorem flX3_22_X3 : pb_fl RX3 22 3 4 RX3 TX3 7 tyX3 := ⟨pb_cl3, by decide, pb_i3 (List.mem_of_getElem? (i := 53) (by decide +kernel)) rfl⟩
theorem flX3_25_X3 : pb_fl RX3 25 3 5 RX3 TX3 7 tyX3 := ⟨pb_cl3, by decide, pb_i3 (List.mem_of_getElem? (i := 54) (by decide +kernel)) rfl⟩
theorem flX3_28_X3 : pb_fl RX3 28 3 6 RX3 TX3 7 tyX3 := ⟨pb_cl3, by decide, pb_i3 (List.mem_of_getElem? (i := 55) (by decide +kernel)) rfl⟩
theorem flX12_120_X12 : pb_fl RX12 120 10 1 RX12 TX12 32 tyX12 := ⟨pb_cl10, by decide, pb_i4 (List.mem_of_getElem? (i := 86) (by decide +kernel)) rfl⟩
theorem flX12_92_X12 : pb_fl RX12 92 10 2 RX12 TX12 32 tyX12 := ⟨pb_cl10, by decide, pb_i4 (List.mem_of_getElem? (i := 87) (by decide +kernel)) rfl⟩
theorem flX12_13_X12 : pb_fl RX12 13 10 3 RX12 TX12 32 tyX12 := ⟨pb_cl10, by decide, pb_i4 (List.mem_of_getElem? (i := 88) (by decide +kernel)) rfl⟩
theorem flX12_17_X12 : pb_fl RX12 17 10 4 RX12 TX12 32 tyX12 := ⟨pb_cl10, by decide, pb_i4 (List.mem_of_getElem? (i := 89) (by decide +kernel)) rfl⟩
theorem flX12_20_X12 : pb_fl RX12 20 10 5 RX12 TX12 32 tyX12 := ⟨pb_cl10, by decide, pb_i4 (List.mem_of_getElem? (i := 90) (by decide +kernel)) rfl⟩
theorem flX12_23_X12 : pb_fl RX12 23 10 6 RX12 TX12 32 tyX12 := ⟨pb_cl10, by decide, pb_i4 (List.mem_of_getElem? (i := 91) (by decide +kernel)) rfl⟩
theorem flX12_26_X12 : pb_fl RX12 26 10 7 RX12 TX12 32 tyX12 := ⟨pb_cl10, by decide, pb_i4 (List.mem_of_getElem? (i := 92) (by decide +kernel)) rfl⟩
theorem flX12_29_X12 : pb_fl RX12 29 10 8 RX12 TX12 32 tyX12 := ⟨pb_cl10, by decide, pb_i4 (List.mem_of_getElem? (i := 93) (by decide +kernel)) rfl⟩
theorem flX12_32_X12 : pb_fl RX12 32 10 9 RX12 TX12 32 tyX12 := ⟨pb_cl10, by decide, pb_i4 (List.mem_of_getElem? (i := 94) (by decide +kernel)) rfl⟩
theorem flX12_35_X12 : pb_fl RX12 35 10 10 RX12 TX12 32 tyX12 := ⟨pb_cl10, by decide, pb_i4 (List.mem_of_getElem? (i := 95) (by decide +kernel)) rfl⟩
theorem flX12_38_X12 : pb_fl RX12 38 10 11 RX12 TX12 32 tyX12 := ⟨pb_cl10, by decide, pb_i4 (List.mem_of_getElem? (i := 96) (by decide +kernel)) rfl⟩
theorem flX12_41_X12 : pb_fl RX12 41 10 12 RX12 TX12 32 tyX12 := ⟨pb_cl10, by decide, pb_i4 (List.mem_of_getElem? (i := 97) (by decide +kernel)) rfl⟩
theorem flX12_44_X12 : pb_fl RX12 44 10 13 RX12 TX12 32 tyX12 := ⟨pb_cl10, by decide, pb_i4 (List.mem_of_getElem? (i := 98) (by decide +kernel)) rfl⟩
theorem flX12_47_X12 : pb_fl RX12 47 10 14 RX12 TX12 32 tyX12 := ⟨pb_cl10, by decide, pb_i4 (List.mem_of_getElem? (i := 99) (by decide +kernel)) rfl⟩
theorem flX12_50_X12 : pb_fl RX12 50 10 15 RX12 TX12 32 tyX12 := ⟨pb_cl10, by decide, pb_i4 (List.mem_of_getElem? (i := 100) (by decide +kernel)) rfl⟩
theorem flX12_53_X12 : pb_fl RX12 53 10 16 RX12 TX12 32 tyX12 := ⟨pb_cl10, by decide, pb_i4 (List.mem_of_getElem? (i := 101) (by decide +kernel)) rfl⟩
theorem flX12_56_X12 : pb_fl RX12 56 10 17 RX12 TX12 32 tyX12 := ⟨pb_cl10, by decide, pb_i4 (List.mem_of_getElem? (i := 102) (by decide +kernel)) rfl⟩
theorem flX12_59_X12 : pb_fl RX12 59 10 18 RX12 TX12 32 tyX12 := ⟨pb_cl10, by decide, pb_i4 (List.mem_of_getElem? (i := 103) (by decide +kernel)) rfl⟩
theorem flX12_62_X12 : pb_fl RX12 62 10 19 RX12 TX12 32 tyX12 := ⟨pb_cl10, by decide, pb_i4 (List.mem_of_getElem? (i := 104) (by decide +kernel)) rfl⟩
theorem flX12_65_X12 : pb_fl RX12 65 10 20 RX12 TX12 32 tyX12 := ⟨pb_cl10, by decide, pb_i4 (List.mem_of_getElem? (i := 105) (by decide +kernel)) rfl⟩
theorem flX12_68_X12 : pb_fl RX12 68 10 21 RX12 TX12 32 tyX12 := ⟨pb_cl10, by decide, pb_i4 (List.mem_of_getElem? (i := 106) (by decide +kernel)) rfl⟩
theorem flX12_71_X12 : pb_fl RX12 71 10 22 RX12 TX12 32 tyX12 := ⟨pb_cl10, by decide, pb_i4 (List.mem_of_getElem? (i := 107) (by decide +kernel)) rfl⟩
theorem flX12_209_X12 : pb_fl RX12 209 10 23 RX12 TX12 32 tyX12 := ⟨pb_cl10, by decide, pb_i4 (List.mem_of_getElem? (i := 108) (by decide +kernel)) rfl⟩
theorem flX12_74_X12 : pb_fl RX12 74 10 24 RX12 TX12 32 tyX12 := ⟨pb_cl10, by decide, pb_i4 (List.mem_of_getElem? (i := 109) (by decide +kernel)) rfl⟩
theorem flX12_203_X12 : pb_fl RX12 203 10 25 RX12 TX12 32 tyX12 := ⟨pb_cl10, by decide, pb_i4 (List.mem_of_getElem? (i := 110) (by decide +kernel)) rfl⟩
theorem flX12_77_X12 : pb_fl RX12 77 10 26 RX12 TX12 32 tyX12 := ⟨pb_cl10, by decide, pb_i4 (List.mem_of_getElem? (i := 111) (by decide +kernel)) rfl⟩
theorem flX12_80_X12 : pb_fl RX12 80 10 27 RX12 TX12 32 tyX12 := ⟨pb_cl10, by decide, pb_i4 (List.mem_of_getElem? (i := 112) (by decide +kernel)) rfl⟩
theorem flX12_83_X12 : pb_fl RX12 83 10 28 RX12 TX12 32 tyX12 := ⟨pb_cl10, by decide, pb_i4 (List.mem_of_getElem? (i := 113) (by decide +kernel)) rfl⟩
theorem flX12_223_X12 : pb_fl RX12 223 10 29 RX12 TX12 32 tyX12 := ⟨pb_cl10, by decide, pb_i4 (List.mem_of_getElem? (i := 114) (by decide +kernel)) rfl⟩
theorem flX12_86_X12 : pb_fl RX12 86 10 30 RX12 TX12 32 tyX12 := ⟨pb_cl10, by decide, pb_i4 (List.mem_of_getElem? (i := 115) (by decide +kernel)) rfl⟩
theorem flX12_89_X12 : pb_fl RX12 89 10 31 RX12 TX12 32 tyX12 := ⟨pb_cl10, by decide, pb_i4 (List.mem_of_getElem? (i := 116) (by decide +kernel)) rfl⟩
theorem klL_7 : Cond.classLink RL 7 RX11 ∈ pb_tbl := pb_i1 (List.mem_of_getElem? (i := 18) (by decide +kernel)) rfl
theorem klX11_9 : Cond.classLink RX11 9 RX8 ∈ pb_tbl := pb_i1 (List.mem_of_getElem? (i := 26) (by decide +kernel)) rfl
theorem klX8_9 : Cond.classLink RX8 9 RX10 ∈ pb_tbl := pb_i1 (List.mem_of_getElem? (i := 32) (by decide +kernel)) rfl
theorem klX11_16 : Cond.classLink RX11 16 RX4 ∈ pb_tbl := pb_i1 (List.mem_of_getElem? (i := 45) (by decide +kernel)) rfl
theorem klX4_9 : Cond.classLink RX4 9 "[[I" ∈ pb_tbl := pb_i1 (List.mem_of_getElem? (i := 51) (by decide +kernel)) rfl
theorem klX11_23 : Cond.classLink RX11 23 RX6 ∈ pb_tbl := pb_i1 (List.mem_of_getElem? (i := 79) (by decide +kernel)) rfl
theorem klX11_29 : Cond.classLink RX11 29 RX0 ∈ pb_tbl := pb_i1 (List.mem_of_getElem? (i := 81) (by decide +kernel)) rfl
theorem klX11_39 : Cond.classLink RX11 39 "[[I" ∈ pb_tbl := pb_i1 (List.mem_of_getElem? (i := 83) (by decide +kernel)) rfl
theorem klX11_47 : Cond.classLink RX11 47 RX5 ∈ pb_tbl := pb_i1 (List.mem_of_getElem? (i := 84) (by decide +kernel)) rfl
theorem klX9_18 : Cond.classLink RX9 18 "[[I" ∈ pb_tbl := pb_i1 (List.mem_of_getElem? (i := 93) (by decide +kernel)) rfl
theorem klX11_54 : Cond.classLink RX11 54 RX1 ∈ pb_tbl := pb_i1 (List.mem_of_getElem? (i := 145) (by decide +kernel)) rfl
theorem klX1_15 : Cond.classLink RX1 15 "[[I" ∈ pb_tbl := pb_i1 (List.mem_of_getElem? (i := 151) (by decide +kernel)) rfl
theorem klX11_61 : Cond.classLink RX11 61 RX2 ∈ pb_tbl := pb_i1 (List.mem_of_getElem? (i := 179) (by decide +kernel)) rfl
theorem klX2_25 : Cond.classLink RX2 25 "[[I" ∈ pb_tbl := pb_i1 (List.mem_of_getElem? (i := 185) (by decide +kernel)) rfl
theorem klX0_9 : Cond.classLink RX0 9 RX3 ∈ pb_tbl := pb_i1 (List.mem_of_getElem? (i := 230) (by decide +kernel)) rfl
theorem klX11_85 : Cond.classLink RX11 85 RX10 ∈ pb_tbl := pb_i2 (List.mem_of_getElem? (i := 52) (by decide +kernel)) rfl
theorem klX11_224 : Cond.classLink RX11 224 RX3 ∈ pb_tbl := pb_i3 (List.mem_of_getElem? (i := 39) (by decide +kernel)) rfl
theorem klX3_9 : Cond.classLink RX3 9 RX6 ∈ pb_tbl := pb_i3 (List.mem_of_getElem? (i := 45) (by decide +kernel)) rfl
theorem klL_10 : Cond.classLink RL 10 RX12 ∈ pb_tbl := pb_i4 (List.mem_of_getElem? (i := 80) (by decide +kernel)) rfl
theorem iaX0 : Cond.instantiable RX0 3 ∈ pb_tbl := pb_i1 (List.mem_of_getElem? (i := 225) (by decide +kernel)) rfl
theorem iiX0 : Cond.initialized RX0 ∈ pb_tbl := pb_i1 (List.mem_of_getElem? (i := 10) (by decide +kernel)) rfl
theorem iaX1 : Cond.instantiable RX1 16 ∈ pb_tbl := pb_i1 (List.mem_of_getElem? (i := 146) (by decide +kernel)) rfl
theorem iiX1 : Cond.initialized RX1 ∈ pb_tbl := pb_i1 (List.mem_of_getElem? (i := 7) (by decide +kernel)) rfl
theorem iaX2 : Cond.instantiable RX2 8 ∈ pb_tbl := pb_i1 (List.mem_of_getElem? (i := 180) (by decide +kernel)) rfl
theorem iiX2 : Cond.initialized RX2 ∈ pb_tbl := pb_i1 (List.mem_of_getElem? (i := 8) (by decide +kernel)) rfl
theorem iaX3 : Cond.instantiable RX3 7 ∈ pb_tbl := pb_i3 (List.mem_of_getElem? (i := 40) (by decide +kernel)) rfl
theorem iiX3 : Cond.initialized RX3 ∈ pb_tbl := pb_i1 (List.mem_of_getElem? (i := 15) (by decide +kernel)) rfl
theorem iaX4 : Cond.instantiable RX4 5 ∈ pb_tbl := pb_i1 (List.mem_of_getElem? (i := 46) (by decide +kernel)) rfl
theorem iiX4 : Cond.initialized RX4 ∈ pb_tbl := pb_i1 (List.mem_of_getElem? (i := 3) (by decide +kernel)) rfl
theorem iaX5 : Cond.instantiable RX5 16 ∈ pb_tbl := pb_i1 (List.mem_of_getElem? (i := 85) (by decide +kernel)) rfl
theorem iiX5 : Cond.initialized RX5 ∈ pb_tbl := pb_i1 (List.mem_of_getElem? (i := 6) (by decide +kernel)) rfl
theorem iaX6 : Cond.instantiable RX6 2 ∈ pb_tbl := pb_i1 (List.mem_of_getElem? (i := 212) (by decide +kernel)) rfl
theorem iiX6 : Cond.initialized RX6 ∈ pb_tbl := pb_i1 (List.mem_of_getElem? (i := 9) (by decide +kernel)) rfl
theorem iaX8 : Cond.instantiable RX8 2 ∈ pb_tbl := pb_i1 (List.mem_of_getElem? (i := 27) (by decide +kernel)) rfl
theorem iiX8 : Cond.initialized RX8 ∈ pb_tbl := pb_i1 (List.mem_of_getElem? (i := 2) (by decide +kernel)) rfl
theorem iaX10 : Cond.instantiable RX10 7 ∈ pb_tbl := pb_i2 (List.mem_of_getElem? (i := 53) (by decide +kernel)) rfl
theorem iiX10 : Cond.initialized RX10 ∈ pb_tbl := pb_i1 (List.mem_of_getElem? (i := 12) (by decide +kernel)) rfl
theorem iaX11 : Cond.instantiable RX11 12 ∈ pb_tbl := pb_i1 (List.mem_of_getElem? (i := 19) (by decide +kernel)) rfl
theorem iiX11 : Cond.initialized RX11 ∈ pb_tbl := pb_i1 (List.mem_of_getElem? (i := 1) (by decide +kernel)) rfl
theorem iaX12 : Cond.instantiable RX12 32 ∈ pb_tbl := pb_i4 (List.mem_of_getElem? (i := 81) (by decide +kernel)) rfl
theorem iiX12 : Cond.initialized RX12 ∈ pb_tbl := pb_i1 (List.mem_of_getElem? (i := 11) (by decide +kernel)) rfl
theorem kcX7_9 : Cond.constantLong RX7 9 (lN 10000) ∈ pb_tbl := pb_i2 (List.mem_of_getElem? (i := 216) (by decide +kernel)) rfl
theorem kcX7_11 : Cond.constantLong RX7 11 (lN 20000) ∈ pb_tbl := pb_i2 (List.mem_of_getElem? (i := 217) (by decide +kernel)) rfl
theorem kcX7_15 : Cond.constantLong RX7 15 (lN 2) ∈ pb_tbl := pb_i2 (List.mem_of_getElem? (i := 218) (by decide +kernel)) rfl
theorem kcX7_17 : Cond.constantLong RX7 17 (lN 100000000) ∈ pb_tbl := pb_i3 (List.mem_of_getElem? (i := 12) (by decide +kernel)) rfl
theorem kcJ6_265 : Cond.constant RJ6 265 (nI 1431655765) ∈ pb_tbl := pb_i4 (List.mem_of_getElem? (i := 53) (by decide +kernel)) rfl
theorem kcJ6_266 : Cond.constant RJ6 266 (nI 858993459) ∈ pb_tbl := pb_i4 (List.mem_of_getElem? (i := 54) (by decide +kernel)) rfl
theorem kcJ6_267 : Cond.constant RJ6 267 (nI 252645135) ∈ pb_tbl := pb_i4 (List.mem_of_getElem? (i := 55) (by decide +kernel)) rfl
theorem kcX12_127 : Cond.constantLong RX12 127 (lN 10000) ∈ pb_tbl := pb_i5 (List.mem_of_getElem? (i := 32) (by decide +kernel)) rfl
theorem kcX12_129 : Cond.constantLong RX12 129 (lN 20000) ∈ pb_tbl := pb_i5 (List.mem_of_getElem? (i := 33) (by decide +kernel)) rfl
theorem kcX12_123 : Cond.constantLong RX12 123 (lN 3000000000) ∈ pb_tbl := pb_i5 (List.mem_of_getElem? (i := 37) (by decide +kernel)) rfl
theorem kcX12_125 : Cond.constantLong RX12 125 (lN 2) ∈ pb_tbl := pb_i5 (List.mem_of_getElem? (i := 38) (by decide +kernel)) rfl
theorem kcX12_135 : Cond.constantLong RX12 135 (lN 2000) ∈ pb_tbl := pb_i5 (List.mem_of_getElem? (i := 57) (by decide +kernel)) rfl
theorem kcX12_137 : Cond.constantLong RX12 137 (lN 8) ∈ pb_tbl := pb_i5 (List.mem_of_getElem? (i := 58) (by decide +kernel)) rfl
theorem kcX12_139 : Cond.constantLong RX12 139 (lN 100000000) ∈ pb_tbl := pb_i5 (List.mem_of_getElem? (i := 59) (by decide +kernel)) rfl
theorem olX11 : Cond.methodLink RX11 3 objectInit ∈ pb_tbl := pb_i1 (List.mem_of_getElem? (i := 23) (by decide +kernel)) rfl
theorem olX8 : Cond.methodLink RX8 3 objectInit ∈ pb_tbl := pb_i1 (List.mem_of_getElem? (i := 31) (by decide +kernel)) rfl
theorem olX4 : Cond.methodLink RX4 3 objectInit ∈ pb_tbl := pb_i1 (List.mem_of_getElem? (i := 50) (by decide +kernel)) rfl
theorem olX9 : Cond.methodLink RX9 3 objectInit ∈ pb_tbl := pb_i1 (List.mem_of_getElem? (i := 92) (by decide +kernel)) rfl
theorem olX2 : Cond.methodLink RX2 3 objectInit ∈ pb_tbl := pb_i1 (List.mem_of_getElem? (i := 184) (by decide +kernel)) rfl
theorem olX6 : Cond.methodLink RX6 3 objectInit ∈ pb_tbl := pb_i1 (List.mem_of_getElem? (i := 216) (by decide +kernel)) rfl
theorem olX0 : Cond.methodLink RX0 3 objectInit ∈ pb_tbl := pb_i1 (List.mem_of_getElem? (i := 229) (by decide +kernel)) rfl
theorem olX10 : Cond.methodLink RX10 3 objectInit ∈ pb_tbl := pb_i2 (List.mem_of_getElem? (i := 57) (by decide +kernel)) rfl
theorem olX3 : Cond.methodLink RX3 3 objectInit ∈ pb_tbl := pb_i3 (List.mem_of_getElem? (i := 44) (by decide +kernel)) rfl
theorem alX5_29 : Cond.methodLink RX5 29 arraycopyName ∈ pb_tbl := pb_i3 (List.mem_of_getElem? (i := 137) (by decide +kernel)) rfl
theorem alX2_39 : Cond.methodLink RX2 39 arraycopyName ∈ pb_tbl := pb_i3 (List.mem_of_getElem? (i := 222) (by decide +kernel)) rfl
theorem alX1_30 : Cond.methodLink RX1 30 arraycopyName ∈ pb_tbl := pb_i4 (List.mem_of_getElem? (i := 33) (by decide +kernel)) rfl
theorem olX12 : Cond.methodLink RX12 7 objectInit ∈ pb_tbl := pb_i4 (List.mem_of_getElem? (i := 85) (by decide +kernel)) rfl
