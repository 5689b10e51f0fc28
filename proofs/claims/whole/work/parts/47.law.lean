/-! THE LAW -/
theorem pb_RF.tr {A : pb_A} {h h1 : pb_H} (hR : pb_RF A h h) (nb : ∀ b, b < 60 → h1 b = h b) : pb_RF A h1 h1 := by
  refine ⟨(nb 20 (by omega)).trans hR.1, fun a n f e => ?_, fun a n e => ?_, fun _ _ => rfl⟩
  · have := pb_rT_facts e
    exact (nb a (by omega)).trans (hR.2.1 a n f e)
  · have := pb_sT_facts e
    rw [nb a (by omega)]
    exact hR.2.2.1 a n e
theorem pb_CF.tr {A : pb_A} {h0 h h1 : pb_H} (hC : pb_CF A h0 h) (nb : ∀ b, 60 ≤ b → h1 b = h b) : pb_CF A h1 h1 := by
  exact pb_CF.mk (fun _ _ => rfl) (fun a c e => (nb a (by first | exact cK_ne e rfl | (have := cK_rng e; omega))).trans (hC.k a c e)) (fun a n e => by rw [nb a (by first | exact cS_ne e rfl | (have := cS_rng e; omega))]; exact hC.s a n e) ((nb 60 (by omega)).trans hC.o) ((nb 61 (by omega)).trans hC.pal) (by rw [nb 65 (by omega)]; exact hC.wan) (fun i hi => by rw [nb _ (by omega)]; exact hC.kpr i hi) ((nb 71 (by omega)).trans hC.tub) (fun i hi => by rw [nb _ (by omega)]; exact hC.lmr i hi) (fun i hi => by rw [nb _ (by omega)]; exact hC.sgr i hi) (by rw [nb 76 (by omega)]; exact hC.shw) (fun p hp => (nb _ (by omega)).trans (hC.pot p hp)) (fun p hp => by rw [nb _ (by omega)]; exact hC.ptr p hp) (fun a ha => (nb _ (by omega)).trans (hC.are a ha)) (fun a ha => (nb _ (by omega)).trans (hC.arl a ha)) (fun t h12 ht => (nb _ (by omega)).trans (hC.tbo t h12 ht)) (fun t h12 ht => by rw [nb _ (by omega)]; exact hC.tbd t h12 ht) (fun t h12 ht => by rw [nb _ (by omega)]; exact hC.tbs t h12 ht) (fun t ht ht2 => by have hz_ : A 1 0 ≤ t := ht; rw [nb _ (by omega), nb _ (by omega), nb _ (by omega)]; exact hC.tbn t ht ht2) (fun a i ha h10 hi => by rw [nb _ (by omega), nb _ (by omega), nb _ (by omega)]; exact hC.lyo a i ha h10 hi) (fun a i ha h10 hi => by unfold cCache; rw [nb _ (by omega), nb _ (by omega), nb _ (by omega), nb _ (by omega)]; exact hC.lyc a i ha h10 hi) (fun a i ha hi hi2 q hq => (nb _ (by omega)).trans (hC.lyn a i ha hi hi2 q hq)) (by rw [nb 68 (by omega)]; exact hC.mat) (by rw [nb 309 (by omega)]; exact hC.bst) (by rw [nb 69 (by omega), nb 411 (by omega), nb 413 (by omega)]; exact hC.cho) (by rw [nb 70 (by omega)]; exact hC.gla) (by rw [nb 500 (by omega)]; exact hC.glb) (fun a ha => by rw [nb a (by omega)]; exact hC.zer a ha)
/-- what holds between two calls -/
def lw_I (A : pb_A) (L : Nat) (xs : Nat → Int32) (h : pb_H) : Prop := pb_WF A ∧ pb_RF A h h ∧ pb_CF A h h ∧ h 0 = some (.inl (2, L, xs)) ∧ pb_TH h
theorem lw_I.c {A A' : pb_A} {L : Nat} {xs : Nat → Int32} {h h1 : pb_H} (hI : lw_I A L xs h) (hC : pb_CF A' h h1) : pb_RF A h1 h1 ∧ h1 0 = some (.inl (2, L, xs)) ∧ pb_TH h1 := ⟨hI.2.1.tr (fun b hb => hC.low b hb), (hC.low 0 (by omega)).trans hI.2.2.2.1, (hC.low 1 (by omega)).trans hI.2.2.2.2⟩
theorem lw_I.n {A' : pb_A} {L : Nat} {xs : Nat → Int32} {h h1 h2 : pb_H} (w : pb_WF A') (hC : pb_CF A' h h1) (h10 : h1 0 = some (.inl (2, L, xs))) (hT : pb_TH h1) (hR : pb_RF A' h1 h2) : lw_I A' L xs h2 := ⟨w, hR.rf, hC.tr (fun b hb => hR.2.2.2 b (Or.inr hb)), (hR.2.2.2 0 (Or.inl (by omega))).trans h10, (hR.2.2.2 1 (Or.inl (by omega))).trans hT⟩
theorem lw_31 (x : Int32) : ∃ k, k < 32 ∧ x &&& nI 31 = nI k := by
  refine ⟨x.toBitVec.toNat &&& 31, Nat.lt_of_le_of_lt Nat.and_le_right (by omega), b_ext (fun i hi => ?_)⟩
  rw [b_and, b_nI 31 hi, b_nI _ hi, Nat.testBit_and]
  rfl
section PB47
variable {Z : pb_Z} {h : pb_H} {A : pb_A}
set_option maxRecDepth 10000 in
theorem lc_tube {L i K N K2 N2 : Nat} {xs : Nat → Int32} (hL : L ≤ 2560) (hi : i + 5 ≤ L) (hK : K2 + 7 ≤ K) (hN : N2 + 4096 ≤ N) (hI : lw_I A L xs h) (nx : ∀ A' h', lw_I A' L xs h' → pb_S Z pb_yL 100 K2 N2 (fun v _ => v = some (.int 1)) 1275 [some (.ref 0), some (.ref 60), some (.ref 20), some (.int (nI i))] [] h') : pb_S Z pb_yL 100 K N (fun v _ => v = some (.int 1)) 172 [some (.ref 0), some (.ref 60), some (.ref 20), some (.int (nI i))] [] h := by
  obtain ⟨w, hR, hC, hs, hT⟩ := id hI
  refine pb_aload_n (pc2 := 173) dL_law_172 rfl rfl rfl ?_
  refine pb_aload_n (pc2 := 174) dL_law_173 rfl rfl rfl ?_
  refine pb_iload_n (pc2 := 175) dL_law_174 rfl rfl rfl ?_
  refine pb_iconst (x := nI 1) (pc2 := 176) dL_law_175 (by decide) rfl ?_
  refine pb_iaddN (pc2 := 177) dL_law_176 rfl ?_
  refine pb_iaload (pc2 := 178) dL_law_177 ⟨by decide, rfl⟩ hs (by omega) (by omega) rfl ?_
  refine pb_aload_n (pc2 := 179) dL_law_178 rfl rfl rfl ?_
  refine pb_iload_n (pc2 := 180) dL_law_179 rfl rfl rfl ?_
  refine pb_iconst (x := nI 2) (pc2 := 181) dL_law_180 (by decide) rfl ?_
  refine pb_iaddN (pc2 := 182) dL_law_181 rfl ?_
  refine pb_iaload (pc2 := 183) dL_law_182 ⟨by decide, rfl⟩ hs (by omega) (by omega) rfl ?_
  refine pb_aload_n (pc2 := 184) dL_law_183 rfl rfl rfl ?_
  refine pb_iload_n (pc2 := 185) dL_law_184 rfl rfl rfl ?_
  refine pb_iconst (x := nI 3) (pc2 := 186) dL_law_185 (by decide) rfl ?_
  refine pb_iaddN (pc2 := 187) dL_law_186 rfl ?_
  refine pb_iaload (pc2 := 188) dL_law_187 ⟨by decide, rfl⟩ hs (by omega) (by omega) rfl ?_
  refine pb_callV (pc2 := 191) (k2 := K2) (n2 := N2) mwX11_tube pb_cl9.1 iwX11_tube seX11_tube rfl mlL_13 dL_law_188 (by first | assumption | exact hR.a rfl | exact hR.o | exact hC.o | exact hC.pal | exact hC.tub | exact hC.k _ _ rfl | exact hC.pot _ (by omega) | exact hC.are _ (by omega) | exact hC.arl _ (by omega) | exact hC.tbo _ (by omega) (by omega)) (c_tube w hC (xs (i + 1)) (xs (i + 2)) (xs (i + 3))) (by omega) (by omega) (by omega) rfl rfl (Nat.le_of_ble_eq_true rfl) rfl (fun v h1 q _ => ?_)
  obtain ⟨rfl, hC1⟩ := q
  obtain ⟨hR1, hs, hT1⟩ := hI.c hC1
  clear hR hC
  have hR := hR1
  refine pb_aload_n (pc2 := 192) dL_law_191 rfl rfl rfl ?_
  refine pb_aload_n (pc2 := 193) dL_law_192 rfl rfl rfl ?_
  refine pb_iload_n (pc2 := 194) dL_law_193 rfl rfl rfl ?_
  refine pb_iconst (x := nI 1) (pc2 := 195) dL_law_194 (by decide) rfl ?_
  refine pb_iaddN (pc2 := 196) dL_law_195 rfl ?_
  refine pb_iaload (pc2 := 197) dL_law_196 ⟨by decide, rfl⟩ hs (by omega) (by omega) rfl ?_
  refine pb_aload_n (pc2 := 198) dL_law_197 rfl rfl rfl ?_
  refine pb_iload_n (pc2 := 199) dL_law_198 rfl rfl rfl ?_
  refine pb_iconst (x := nI 2) (pc2 := 200) dL_law_199 (by decide) rfl ?_
  refine pb_iaddN (pc2 := 201) dL_law_200 rfl ?_
  refine pb_iaload (pc2 := 202) dL_law_201 ⟨by decide, rfl⟩ hs (by omega) (by omega) rfl ?_
  refine pb_aload_n (pc2 := 203) dL_law_202 rfl rfl rfl ?_
  refine pb_iload_n (pc2 := 204) dL_law_203 rfl rfl rfl ?_
  refine pb_iconst (x := nI 3) (pc2 := 205) dL_law_204 (by decide) rfl ?_
  refine pb_iaddN (pc2 := 206) dL_law_205 rfl ?_
  refine pb_iaload (pc2 := 207) dL_law_206 ⟨by decide, rfl⟩ hs (by omega) (by omega) rfl ?_
  refine pb_callV (pc2 := 210) (k2 := K2) (n2 := N2) mwX12_tube pb_cl10.1 iwX12_tube seX12_tube rfl mlL_17 dL_law_207 (by first | assumption | exact hR.a rfl | exact hR.o | exact hC.o | exact hC.pal | exact hC.tub | exact hC.k _ _ rfl | exact hC.pot _ (by omega) | exact hC.are _ (by omega) | exact hC.arl _ (by omega) | exact hC.tbo _ (by omega) (by omega)) (r_tube w hR1 (xs (i + 1)) (xs (i + 2)) (xs (i + 3))) (by omega) (by omega) (by omega) rfl rfl (Nat.le_of_ble_eq_true rfl) rfl (fun v h2 q _ => ?_)
  obtain ⟨rfl, hR2⟩ := q
  refine pb_icmp_eq (tgt := 1275) (pc2 := 213) dL_law_210 (by decide) rfl (fun _ => nx _ h2 (lw_I.n (wf_tube w (xs (i + 1)) (xs (i + 2)) (xs (i + 3))) hC1 hs hT1 hR2)) (fun z => absurd rfl z)
set_option maxRecDepth 10000 in
theorem lc_band {L i K N K2 N2 : Nat} {xs : Nat → Int32} (hL : L ≤ 2560) (hi : i + 5 ≤ L) (hK : K2 + 7 ≤ K) (hN : N2 + 4096 ≤ N) (hI : lw_I A L xs h) (nx : ∀ A' h', lw_I A' L xs h' → pb_S Z pb_yL 100 K2 N2 (fun v _ => v = some (.int 1)) 1275 [some (.ref 0), some (.ref 60), some (.ref 20), some (.int (nI i))] [] h') : pb_S Z pb_yL 100 K N (fun v _ => v = some (.int 1)) 215 [some (.ref 0), some (.ref 60), some (.ref 20), some (.int (nI i))] [] h := by
  obtain ⟨w, hR, hC, hs, hT⟩ := id hI
  refine pb_aload_n (pc2 := 216) dL_law_215 rfl rfl rfl ?_
  refine pb_aload_n (pc2 := 217) dL_law_216 rfl rfl rfl ?_
  refine pb_iload_n (pc2 := 218) dL_law_217 rfl rfl rfl ?_
  refine pb_iconst (x := nI 1) (pc2 := 219) dL_law_218 (by decide) rfl ?_
  refine pb_iaddN (pc2 := 220) dL_law_219 rfl ?_
  refine pb_iaload (pc2 := 221) dL_law_220 ⟨by decide, rfl⟩ hs (by omega) (by omega) rfl ?_
  refine pb_aload_n (pc2 := 222) dL_law_221 rfl rfl rfl ?_
  refine pb_iload_n (pc2 := 223) dL_law_222 rfl rfl rfl ?_
  refine pb_iconst (x := nI 2) (pc2 := 224) dL_law_223 (by decide) rfl ?_
  refine pb_iaddN (pc2 := 225) dL_law_224 rfl ?_
  refine pb_iaload (pc2 := 226) dL_law_225 ⟨by decide, rfl⟩ hs (by omega) (by omega) rfl ?_
  refine pb_aload_n (pc2 := 227) dL_law_226 rfl rfl rfl ?_
  refine pb_iload_n (pc2 := 228) dL_law_227 rfl rfl rfl ?_
  refine pb_iconst (x := nI 3) (pc2 := 229) dL_law_228 (by decide) rfl ?_
  refine pb_iaddN (pc2 := 230) dL_law_229 rfl ?_
  refine pb_iaload (pc2 := 231) dL_law_230 ⟨by decide, rfl⟩ hs (by omega) (by omega) rfl ?_
  refine pb_aload_n (pc2 := 232) dL_law_231 rfl rfl rfl ?_
  refine pb_iload_n (pc2 := 233) dL_law_232 rfl rfl rfl ?_
  refine pb_iconst (x := nI 4) (pc2 := 234) dL_law_233 (by decide) rfl ?_
  refine pb_iaddN (pc2 := 235) dL_law_234 rfl ?_
  refine pb_iaload (pc2 := 236) dL_law_235 ⟨by decide, rfl⟩ hs (by omega) (by omega) rfl ?_
  refine pb_callV (pc2 := 239) (k2 := K2) (n2 := N2) mwX11_band pb_cl9.1 iwX11_band seX11_band rfl mlL_18 dL_law_236 (by first | assumption | exact hR.a rfl | exact hR.o | exact hC.o | exact hC.pal | exact hC.tub | exact hC.k _ _ rfl | exact hC.pot _ (by omega) | exact hC.are _ (by omega) | exact hC.arl _ (by omega) | exact hC.tbo _ (by omega) (by omega)) (c_band w hC (xs (i + 1)) (xs (i + 2)) (xs (i + 3)) (xs (i + 4))) (by omega) (by omega) (by omega) rfl rfl (Nat.le_of_ble_eq_true rfl) rfl (fun v h1 q _ => ?_)
  obtain ⟨rfl, hC1⟩ := q
  obtain ⟨hR1, hs, hT1⟩ := hI.c hC1
  clear hR hC
  have hR := hR1
  refine pb_aload_n (pc2 := 240) dL_law_239 rfl rfl rfl ?_
  refine pb_aload_n (pc2 := 241) dL_law_240 rfl rfl rfl ?_
  refine pb_iload_n (pc2 := 242) dL_law_241 rfl rfl rfl ?_
  refine pb_iconst (x := nI 1) (pc2 := 243) dL_law_242 (by decide) rfl ?_
  refine pb_iaddN (pc2 := 244) dL_law_243 rfl ?_
  refine pb_iaload (pc2 := 245) dL_law_244 ⟨by decide, rfl⟩ hs (by omega) (by omega) rfl ?_
  refine pb_aload_n (pc2 := 246) dL_law_245 rfl rfl rfl ?_
  refine pb_iload_n (pc2 := 247) dL_law_246 rfl rfl rfl ?_
  refine pb_iconst (x := nI 2) (pc2 := 248) dL_law_247 (by decide) rfl ?_
  refine pb_iaddN (pc2 := 249) dL_law_248 rfl ?_
  refine pb_iaload (pc2 := 250) dL_law_249 ⟨by decide, rfl⟩ hs (by omega) (by omega) rfl ?_
  refine pb_aload_n (pc2 := 251) dL_law_250 rfl rfl rfl ?_
  refine pb_iload_n (pc2 := 252) dL_law_251 rfl rfl rfl ?_
  refine pb_iconst (x := nI 3) (pc2 := 253) dL_law_252 (by decide) rfl ?_
  refine pb_iaddN (pc2 := 254) dL_law_253 rfl ?_
  refine pb_iaload (pc2 := 255) dL_law_254 ⟨by decide, rfl⟩ hs (by omega) (by omega) rfl ?_
  refine pb_aload_n (pc2 := 256) dL_law_255 rfl rfl rfl ?_
  refine pb_iload_n (pc2 := 257) dL_law_256 rfl rfl rfl ?_
  refine pb_iconst (x := nI 4) (pc2 := 258) dL_law_257 (by decide) rfl ?_
  refine pb_iaddN (pc2 := 259) dL_law_258 rfl ?_
  refine pb_iaload (pc2 := 260) dL_law_259 ⟨by decide, rfl⟩ hs (by omega) (by omega) rfl ?_
  refine pb_callV (pc2 := 263) (k2 := K2) (n2 := N2) mwX12_band pb_cl10.1 iwX12_band seX12_band rfl mlL_22 dL_law_260 (by first | assumption | exact hR.a rfl | exact hR.o | exact hC.o | exact hC.pal | exact hC.tub | exact hC.k _ _ rfl | exact hC.pot _ (by omega) | exact hC.are _ (by omega) | exact hC.arl _ (by omega) | exact hC.tbo _ (by omega) (by omega)) (r_band w hR1 (xs (i + 1)) (xs (i + 2)) (xs (i + 3)) (xs (i + 4))) (by omega) (by omega) (by omega) rfl rfl (Nat.le_of_ble_eq_true rfl) rfl (fun v h2 q _ => ?_)
  obtain ⟨rfl, hR2⟩ := q
  refine pb_icmp_eq (tgt := 1275) (pc2 := 266) dL_law_263 (by decide) rfl (fun _ => nx _ h2 (lw_I.n (wf_band w (xs (i + 1)) (xs (i + 2)) (xs (i + 3)) (xs (i + 4))) hC1 hs hT1 hR2)) (fun z => absurd rfl z)
set_option maxRecDepth 10000 in
theorem lc_ofTube {L i K N K2 N2 : Nat} {xs : Nat → Int32} (hL : L ≤ 2560) (hi : i + 5 ≤ L) (hK : K2 + 7 ≤ K) (hN : N2 + 4096 ≤ N) (hI : lw_I A L xs h) (nx : ∀ A' h', lw_I A' L xs h' → pb_S Z pb_yL 100 K2 N2 (fun v _ => v = some (.int 1)) 1275 [some (.ref 0), some (.ref 60), some (.ref 20), some (.int (nI i))] [] h') : pb_S Z pb_yL 100 K N (fun v _ => v = some (.int 1)) 268 [some (.ref 0), some (.ref 60), some (.ref 20), some (.int (nI i))] [] h := by
  obtain ⟨w, hR, hC, hs, hT⟩ := id hI
  refine pb_aload_n (pc2 := 269) dL_law_268 rfl rfl rfl ?_
  refine pb_aload_n (pc2 := 270) dL_law_269 rfl rfl rfl ?_
  refine pb_iload_n (pc2 := 271) dL_law_270 rfl rfl rfl ?_
  refine pb_iconst (x := nI 1) (pc2 := 272) dL_law_271 (by decide) rfl ?_
  refine pb_iaddN (pc2 := 273) dL_law_272 rfl ?_
  refine pb_iaload (pc2 := 274) dL_law_273 ⟨by decide, rfl⟩ hs (by omega) (by omega) rfl ?_
  refine pb_aload_n (pc2 := 275) dL_law_274 rfl rfl rfl ?_
  refine pb_iload_n (pc2 := 276) dL_law_275 rfl rfl rfl ?_
  refine pb_iconst (x := nI 2) (pc2 := 277) dL_law_276 (by decide) rfl ?_
  refine pb_iaddN (pc2 := 278) dL_law_277 rfl ?_
  refine pb_iaload (pc2 := 279) dL_law_278 ⟨by decide, rfl⟩ hs (by omega) (by omega) rfl ?_
  refine pb_callV (pc2 := 282) (k2 := K2) (n2 := N2) mwX11_ofTube pb_cl9.1 iwX11_ofTube seX11_ofTube rfl mlL_23 dL_law_279 (by first | assumption | exact hR.a rfl | exact hR.o | exact hC.o | exact hC.pal | exact hC.tub | exact hC.k _ _ rfl | exact hC.pot _ (by omega) | exact hC.are _ (by omega) | exact hC.arl _ (by omega) | exact hC.tbo _ (by omega) (by omega)) (c_ofTube w hC (xs (i + 1)) (xs (i + 2))) (by omega) (by omega) (by omega) rfl rfl (Nat.le_of_ble_eq_true rfl) rfl (fun v h1 q _ => ?_)
  obtain ⟨rfl, hC1⟩ := q
  obtain ⟨hR1, hs, hT1⟩ := hI.c hC1
  clear hR hC
  have hR := hR1
  refine pb_aload_n (pc2 := 283) dL_law_282 rfl rfl rfl ?_
  refine pb_aload_n (pc2 := 284) dL_law_283 rfl rfl rfl ?_
  refine pb_iload_n (pc2 := 285) dL_law_284 rfl rfl rfl ?_
  refine pb_iconst (x := nI 1) (pc2 := 286) dL_law_285 (by decide) rfl ?_
  refine pb_iaddN (pc2 := 287) dL_law_286 rfl ?_
  refine pb_iaload (pc2 := 288) dL_law_287 ⟨by decide, rfl⟩ hs (by omega) (by omega) rfl ?_
  refine pb_aload_n (pc2 := 289) dL_law_288 rfl rfl rfl ?_
  refine pb_iload_n (pc2 := 290) dL_law_289 rfl rfl rfl ?_
  refine pb_iconst (x := nI 2) (pc2 := 291) dL_law_290 (by decide) rfl ?_
  refine pb_iaddN (pc2 := 292) dL_law_291 rfl ?_
  refine pb_iaload (pc2 := 293) dL_law_292 ⟨by decide, rfl⟩ hs (by omega) (by omega) rfl ?_
  refine pb_callV (pc2 := 296) (k2 := K2) (n2 := N2) mwX12_ofTube pb_cl10.1 iwX12_ofTube seX12_ofTube rfl mlL_27 dL_law_293 (by first | assumption | exact hR.a rfl | exact hR.o | exact hC.o | exact hC.pal | exact hC.tub | exact hC.k _ _ rfl | exact hC.pot _ (by omega) | exact hC.are _ (by omega) | exact hC.arl _ (by omega) | exact hC.tbo _ (by omega) (by omega)) (r_ofTube w hR1 (xs (i + 1)) (xs (i + 2))) (by omega) (by omega) (by omega) rfl rfl (Nat.le_of_ble_eq_true rfl) rfl (fun v h2 q _ => ?_)
  obtain ⟨rfl, hR2⟩ := q
  refine pb_icmp_eq (tgt := 1275) (pc2 := 299) dL_law_296 (by decide) rfl (fun _ => nx _ h2 (lw_I.n (wf_ofTube w (xs (i + 1)) (xs (i + 2))) hC1 hs hT1 hR2)) (fun z => absurd rfl z)
set_option maxRecDepth 10000 in
theorem lc_row {L i K N K2 N2 : Nat} {xs : Nat → Int32} (hL : L ≤ 2560) (hi : i + 5 ≤ L) (hK : K2 + 7 ≤ K) (hN : N2 + 4096 ≤ N) (hI : lw_I A L xs h) (nx : ∀ A' h', lw_I A' L xs h' → pb_S Z pb_yL 100 K2 N2 (fun v _ => v = some (.int 1)) 1275 [some (.ref 0), some (.ref 60), some (.ref 20), some (.int (nI i))] [] h') : pb_S Z pb_yL 100 K N (fun v _ => v = some (.int 1)) 301 [some (.ref 0), some (.ref 60), some (.ref 20), some (.int (nI i))] [] h := by
  obtain ⟨w, hR, hC, hs, hT⟩ := id hI
  refine pb_aload_n (pc2 := 302) dL_law_301 rfl rfl rfl ?_
  refine pb_aload_n (pc2 := 303) dL_law_302 rfl rfl rfl ?_
  refine pb_iload_n (pc2 := 304) dL_law_303 rfl rfl rfl ?_
  refine pb_iconst (x := nI 1) (pc2 := 305) dL_law_304 (by decide) rfl ?_
  refine pb_iaddN (pc2 := 306) dL_law_305 rfl ?_
  refine pb_iaload (pc2 := 307) dL_law_306 ⟨by decide, rfl⟩ hs (by omega) (by omega) rfl ?_
  refine pb_aload_n (pc2 := 308) dL_law_307 rfl rfl rfl ?_
  refine pb_iload_n (pc2 := 309) dL_law_308 rfl rfl rfl ?_
  refine pb_iconst (x := nI 2) (pc2 := 310) dL_law_309 (by decide) rfl ?_
  refine pb_iaddN (pc2 := 311) dL_law_310 rfl ?_
  refine pb_iaload (pc2 := 312) dL_law_311 ⟨by decide, rfl⟩ hs (by omega) (by omega) rfl ?_
  refine pb_aload_n (pc2 := 313) dL_law_312 rfl rfl rfl ?_
  refine pb_iload_n (pc2 := 314) dL_law_313 rfl rfl rfl ?_
  refine pb_iconst (x := nI 3) (pc2 := 315) dL_law_314 (by decide) rfl ?_
  refine pb_iaddN (pc2 := 316) dL_law_315 rfl ?_
  refine pb_iaload (pc2 := 317) dL_law_316 ⟨by decide, rfl⟩ hs (by omega) (by omega) rfl ?_
  refine pb_aload_n (pc2 := 318) dL_law_317 rfl rfl rfl ?_
  refine pb_iload_n (pc2 := 319) dL_law_318 rfl rfl rfl ?_
  refine pb_iconst (x := nI 4) (pc2 := 320) dL_law_319 (by decide) rfl ?_
  refine pb_iaddN (pc2 := 321) dL_law_320 rfl ?_
  refine pb_iaload (pc2 := 322) dL_law_321 ⟨by decide, rfl⟩ hs (by omega) (by omega) rfl ?_
  refine pb_callV (pc2 := 325) (k2 := K2) (n2 := N2) mwX11_row pb_cl9.1 iwX11_row seX11_row rfl mlL_28 dL_law_322 (by first | assumption | exact hR.a rfl | exact hR.o | exact hC.o | exact hC.pal | exact hC.tub | exact hC.k _ _ rfl | exact hC.pot _ (by omega) | exact hC.are _ (by omega) | exact hC.arl _ (by omega) | exact hC.tbo _ (by omega) (by omega)) (c_row w hC (xs (i + 1)) (xs (i + 2)) (xs (i + 3)) (xs (i + 4))) (by omega) (by omega) (by omega) rfl rfl (Nat.le_of_ble_eq_true rfl) rfl (fun v h1 q _ => ?_)
  obtain ⟨rfl, hC1⟩ := q
  obtain ⟨hR1, hs, hT1⟩ := hI.c hC1
  clear hR hC
  have hR := hR1
  refine pb_aload_n (pc2 := 326) dL_law_325 rfl rfl rfl ?_
  refine pb_aload_n (pc2 := 327) dL_law_326 rfl rfl rfl ?_
  refine pb_iload_n (pc2 := 328) dL_law_327 rfl rfl rfl ?_
  refine pb_iconst (x := nI 1) (pc2 := 329) dL_law_328 (by decide) rfl ?_
  refine pb_iaddN (pc2 := 330) dL_law_329 rfl ?_
  refine pb_iaload (pc2 := 331) dL_law_330 ⟨by decide, rfl⟩ hs (by omega) (by omega) rfl ?_
  refine pb_aload_n (pc2 := 332) dL_law_331 rfl rfl rfl ?_
  refine pb_iload_n (pc2 := 333) dL_law_332 rfl rfl rfl ?_
  refine pb_iconst (x := nI 2) (pc2 := 334) dL_law_333 (by decide) rfl ?_
  refine pb_iaddN (pc2 := 335) dL_law_334 rfl ?_
  refine pb_iaload (pc2 := 336) dL_law_335 ⟨by decide, rfl⟩ hs (by omega) (by omega) rfl ?_
  refine pb_aload_n (pc2 := 337) dL_law_336 rfl rfl rfl ?_
  refine pb_iload_n (pc2 := 338) dL_law_337 rfl rfl rfl ?_
  refine pb_iconst (x := nI 3) (pc2 := 339) dL_law_338 (by decide) rfl ?_
  refine pb_iaddN (pc2 := 340) dL_law_339 rfl ?_
  refine pb_iaload (pc2 := 341) dL_law_340 ⟨by decide, rfl⟩ hs (by omega) (by omega) rfl ?_
  refine pb_aload_n (pc2 := 342) dL_law_341 rfl rfl rfl ?_
  refine pb_iload_n (pc2 := 343) dL_law_342 rfl rfl rfl ?_
  refine pb_iconst (x := nI 4) (pc2 := 344) dL_law_343 (by decide) rfl ?_
  refine pb_iaddN (pc2 := 345) dL_law_344 rfl ?_
  refine pb_iaload (pc2 := 346) dL_law_345 ⟨by decide, rfl⟩ hs (by omega) (by omega) rfl ?_
  refine pb_callV (pc2 := 349) (k2 := K2) (n2 := N2) mwX12_row pb_cl10.1 iwX12_row seX12_row rfl mlL_31 dL_law_346 (by first | assumption | exact hR.a rfl | exact hR.o | exact hC.o | exact hC.pal | exact hC.tub | exact hC.k _ _ rfl | exact hC.pot _ (by omega) | exact hC.are _ (by omega) | exact hC.arl _ (by omega) | exact hC.tbo _ (by omega) (by omega)) (r_row w hR1 (xs (i + 1)) (xs (i + 2)) (xs (i + 3)) (xs (i + 4))) (by omega) (by omega) (by omega) rfl rfl (Nat.le_of_ble_eq_true rfl) rfl (fun v h2 q _ => ?_)
  obtain ⟨rfl, hR2⟩ := q
  refine pb_icmp_eq (tgt := 1275) (pc2 := 352) dL_law_349 (by decide) rfl (fun _ => nx _ h2 (lw_I.n (wf_row w (xs (i + 1)) (xs (i + 2)) (xs (i + 3)) (xs (i + 4))) hC1 hs hT1 hR2)) (fun z => absurd rfl z)
set_option maxRecDepth 10000 in
theorem lc_lamp {L i K N K2 N2 : Nat} {xs : Nat → Int32} (hL : L ≤ 2560) (hi : i + 5 ≤ L) (hK : K2 + 7 ≤ K) (hN : N2 + 4096 ≤ N) (hI : lw_I A L xs h) (nx : ∀ A' h', lw_I A' L xs h' → pb_S Z pb_yL 100 K2 N2 (fun v _ => v = some (.int 1)) 1275 [some (.ref 0), some (.ref 60), some (.ref 20), some (.int (nI i))] [] h') : pb_S Z pb_yL 100 K N (fun v _ => v = some (.int 1)) 354 [some (.ref 0), some (.ref 60), some (.ref 20), some (.int (nI i))] [] h := by
  obtain ⟨w, hR, hC, hs, hT⟩ := id hI
  refine pb_aload_n (pc2 := 355) dL_law_354 rfl rfl rfl ?_
  refine pb_aload_n (pc2 := 356) dL_law_355 rfl rfl rfl ?_
  refine pb_iload_n (pc2 := 357) dL_law_356 rfl rfl rfl ?_
  refine pb_iconst (x := nI 1) (pc2 := 358) dL_law_357 (by decide) rfl ?_
  refine pb_iaddN (pc2 := 359) dL_law_358 rfl ?_
  refine pb_iaload (pc2 := 360) dL_law_359 ⟨by decide, rfl⟩ hs (by omega) (by omega) rfl ?_
  refine pb_aload_n (pc2 := 361) dL_law_360 rfl rfl rfl ?_
  refine pb_iload_n (pc2 := 362) dL_law_361 rfl rfl rfl ?_
  refine pb_iconst (x := nI 2) (pc2 := 363) dL_law_362 (by decide) rfl ?_
  refine pb_iaddN (pc2 := 364) dL_law_363 rfl ?_
  refine pb_iaload (pc2 := 365) dL_law_364 ⟨by decide, rfl⟩ hs (by omega) (by omega) rfl ?_
  refine pb_aload_n (pc2 := 366) dL_law_365 rfl rfl rfl ?_
  refine pb_iload_n (pc2 := 367) dL_law_366 rfl rfl rfl ?_
  refine pb_iconst (x := nI 3) (pc2 := 368) dL_law_367 (by decide) rfl ?_
  refine pb_iaddN (pc2 := 369) dL_law_368 rfl ?_
  refine pb_iaload (pc2 := 370) dL_law_369 ⟨by decide, rfl⟩ hs (by omega) (by omega) rfl ?_
  refine pb_callV (pc2 := 373) (k2 := K2) (n2 := N2) mwX11_lamp pb_cl9.1 iwX11_lamp seX11_lamp rfl mlL_32 dL_law_370 (by first | assumption | exact hR.a rfl | exact hR.o | exact hC.o | exact hC.pal | exact hC.tub | exact hC.k _ _ rfl | exact hC.pot _ (by omega) | exact hC.are _ (by omega) | exact hC.arl _ (by omega) | exact hC.tbo _ (by omega) (by omega)) (c_lamp w hC (xs (i + 1)) (xs (i + 2)) (xs (i + 3))) (by omega) (by omega) (by omega) rfl rfl (Nat.le_of_ble_eq_true rfl) rfl (fun v h1 q _ => ?_)
  obtain ⟨rfl, hC1⟩ := q
  obtain ⟨hR1, hs, hT1⟩ := hI.c hC1
  clear hR hC
  have hR := hR1
  refine pb_aload_n (pc2 := 374) dL_law_373 rfl rfl rfl ?_
  refine pb_aload_n (pc2 := 375) dL_law_374 rfl rfl rfl ?_
  refine pb_iload_n (pc2 := 376) dL_law_375 rfl rfl rfl ?_
  refine pb_iconst (x := nI 1) (pc2 := 377) dL_law_376 (by decide) rfl ?_
  refine pb_iaddN (pc2 := 378) dL_law_377 rfl ?_
  refine pb_iaload (pc2 := 379) dL_law_378 ⟨by decide, rfl⟩ hs (by omega) (by omega) rfl ?_
  refine pb_aload_n (pc2 := 380) dL_law_379 rfl rfl rfl ?_
  refine pb_iload_n (pc2 := 381) dL_law_380 rfl rfl rfl ?_
  refine pb_iconst (x := nI 2) (pc2 := 382) dL_law_381 (by decide) rfl ?_
  refine pb_iaddN (pc2 := 383) dL_law_382 rfl ?_
  refine pb_iaload (pc2 := 384) dL_law_383 ⟨by decide, rfl⟩ hs (by omega) (by omega) rfl ?_
  refine pb_aload_n (pc2 := 385) dL_law_384 rfl rfl rfl ?_
  refine pb_iload_n (pc2 := 386) dL_law_385 rfl rfl rfl ?_
  refine pb_iconst (x := nI 3) (pc2 := 387) dL_law_386 (by decide) rfl ?_
  refine pb_iaddN (pc2 := 388) dL_law_387 rfl ?_
  refine pb_iaload (pc2 := 389) dL_law_388 ⟨by decide, rfl⟩ hs (by omega) (by omega) rfl ?_
  refine pb_callV (pc2 := 392) (k2 := K2) (n2 := N2) mwX12_lamp pb_cl10.1 iwX12_lamp seX12_lamp rfl mlL_35 dL_law_389 (by first | assumption | exact hR.a rfl | exact hR.o | exact hC.o | exact hC.pal | exact hC.tub | exact hC.k _ _ rfl | exact hC.pot _ (by omega) | exact hC.are _ (by omega) | exact hC.arl _ (by omega) | exact hC.tbo _ (by omega) (by omega)) (r_lamp w hR1 (xs (i + 1)) (xs (i + 2)) (xs (i + 3))) (by omega) (by omega) (by omega) rfl rfl (Nat.le_of_ble_eq_true rfl) rfl (fun v h2 q _ => ?_)
  obtain ⟨rfl, hR2⟩ := q
  refine pb_icmp_eq (tgt := 1275) (pc2 := 395) dL_law_392 (by decide) rfl (fun _ => nx _ h2 (lw_I.n (wf_lamp w (xs (i + 1)) (xs (i + 2)) (xs (i + 3))) hC1 hs hT1 hR2)) (fun z => absurd rfl z)
set_option maxRecDepth 10000 in
theorem lc_eye {L i K N K2 N2 : Nat} {xs : Nat → Int32} (hL : L ≤ 2560) (hi : i + 5 ≤ L) (hK : K2 + 7 ≤ K) (hN : N2 + 4096 ≤ N) (hI : lw_I A L xs h) (nx : ∀ A' h', lw_I A' L xs h' → pb_S Z pb_yL 100 K2 N2 (fun v _ => v = some (.int 1)) 1275 [some (.ref 0), some (.ref 60), some (.ref 20), some (.int (nI i))] [] h') : pb_S Z pb_yL 100 K N (fun v _ => v = some (.int 1)) 397 [some (.ref 0), some (.ref 60), some (.ref 20), some (.int (nI i))] [] h := by
  obtain ⟨w, hR, hC, hs, hT⟩ := id hI
  refine pb_aload_n (pc2 := 398) dL_law_397 rfl rfl rfl ?_
  refine pb_aload_n (pc2 := 399) dL_law_398 rfl rfl rfl ?_
  refine pb_iload_n (pc2 := 400) dL_law_399 rfl rfl rfl ?_
  refine pb_iconst (x := nI 1) (pc2 := 401) dL_law_400 (by decide) rfl ?_
  refine pb_iaddN (pc2 := 402) dL_law_401 rfl ?_
  refine pb_iaload (pc2 := 403) dL_law_402 ⟨by decide, rfl⟩ hs (by omega) (by omega) rfl ?_
  refine pb_aload_n (pc2 := 404) dL_law_403 rfl rfl rfl ?_
  refine pb_iload_n (pc2 := 405) dL_law_404 rfl rfl rfl ?_
  refine pb_iconst (x := nI 2) (pc2 := 406) dL_law_405 (by decide) rfl ?_
  refine pb_iaddN (pc2 := 407) dL_law_406 rfl ?_
  refine pb_iaload (pc2 := 408) dL_law_407 ⟨by decide, rfl⟩ hs (by omega) (by omega) rfl ?_
  refine pb_aload_n (pc2 := 409) dL_law_408 rfl rfl rfl ?_
  refine pb_iload_n (pc2 := 410) dL_law_409 rfl rfl rfl ?_
  refine pb_iconst (x := nI 3) (pc2 := 411) dL_law_410 (by decide) rfl ?_
  refine pb_iaddN (pc2 := 412) dL_law_411 rfl ?_
  refine pb_iaload (pc2 := 413) dL_law_412 ⟨by decide, rfl⟩ hs (by omega) (by omega) rfl ?_
  refine pb_callV (pc2 := 416) (k2 := K2) (n2 := N2) mwX11_eye pb_cl9.1 iwX11_eye seX11_eye rfl mlL_36 dL_law_413 (by first | assumption | exact hR.a rfl | exact hR.o | exact hC.o | exact hC.pal | exact hC.tub | exact hC.k _ _ rfl | exact hC.pot _ (by omega) | exact hC.are _ (by omega) | exact hC.arl _ (by omega) | exact hC.tbo _ (by omega) (by omega)) (c_eye w hC (xs (i + 1)) (xs (i + 2)) (xs (i + 3))) (by omega) (by omega) (by omega) rfl rfl (Nat.le_of_ble_eq_true rfl) rfl (fun v h1 q _ => ?_)
  obtain ⟨rfl, hC1⟩ := q
  obtain ⟨hR1, hs, hT1⟩ := hI.c hC1
  clear hR hC
  have hR := hR1
  refine pb_aload_n (pc2 := 417) dL_law_416 rfl rfl rfl ?_
  refine pb_aload_n (pc2 := 418) dL_law_417 rfl rfl rfl ?_
  refine pb_iload_n (pc2 := 419) dL_law_418 rfl rfl rfl ?_
  refine pb_iconst (x := nI 1) (pc2 := 420) dL_law_419 (by decide) rfl ?_
  refine pb_iaddN (pc2 := 421) dL_law_420 rfl ?_
  refine pb_iaload (pc2 := 422) dL_law_421 ⟨by decide, rfl⟩ hs (by omega) (by omega) rfl ?_
  refine pb_aload_n (pc2 := 423) dL_law_422 rfl rfl rfl ?_
  refine pb_iload_n (pc2 := 424) dL_law_423 rfl rfl rfl ?_
  refine pb_iconst (x := nI 2) (pc2 := 425) dL_law_424 (by decide) rfl ?_
  refine pb_iaddN (pc2 := 426) dL_law_425 rfl ?_
  refine pb_iaload (pc2 := 427) dL_law_426 ⟨by decide, rfl⟩ hs (by omega) (by omega) rfl ?_
  refine pb_aload_n (pc2 := 428) dL_law_427 rfl rfl rfl ?_
  refine pb_iload_n (pc2 := 429) dL_law_428 rfl rfl rfl ?_
  refine pb_iconst (x := nI 3) (pc2 := 430) dL_law_429 (by decide) rfl ?_
  refine pb_iaddN (pc2 := 431) dL_law_430 rfl ?_
  refine pb_iaload (pc2 := 432) dL_law_431 ⟨by decide, rfl⟩ hs (by omega) (by omega) rfl ?_
  refine pb_callV (pc2 := 435) (k2 := K2) (n2 := N2) mwX12_eye pb_cl10.1 iwX12_eye seX12_eye rfl mlL_39 dL_law_432 (by first | assumption | exact hR.a rfl | exact hR.o | exact hC.o | exact hC.pal | exact hC.tub | exact hC.k _ _ rfl | exact hC.pot _ (by omega) | exact hC.are _ (by omega) | exact hC.arl _ (by omega) | exact hC.tbo _ (by omega) (by omega)) (r_eye w hR1 (xs (i + 1)) (xs (i + 2)) (xs (i + 3))) (by omega) (by omega) (by omega) rfl rfl (Nat.le_of_ble_eq_true rfl) rfl (fun v h2 q _ => ?_)
  obtain ⟨rfl, hR2⟩ := q
  refine pb_icmp_eq (tgt := 1275) (pc2 := 438) dL_law_435 (by decide) rfl (fun _ => nx _ h2 (lw_I.n (wf_eye w (xs (i + 1)) (xs (i + 2)) (xs (i + 3))) hC1 hs hT1 hR2)) (fun z => absurd rfl z)
set_option maxRecDepth 10000 in
theorem lc_years {L i K N K2 N2 : Nat} {xs : Nat → Int32} (hL : L ≤ 2560) (hi : i + 5 ≤ L) (hK : K2 + 7 ≤ K) (hN : N2 + 4096 ≤ N) (hI : lw_I A L xs h) (nx : ∀ A' h', lw_I A' L xs h' → pb_S Z pb_yL 100 K2 N2 (fun v _ => v = some (.int 1)) 1275 [some (.ref 0), some (.ref 60), some (.ref 20), some (.int (nI i))] [] h') : pb_S Z pb_yL 100 K N (fun v _ => v = some (.int 1)) 440 [some (.ref 0), some (.ref 60), some (.ref 20), some (.int (nI i))] [] h := by
  obtain ⟨w, hR, hC, hs, hT⟩ := id hI
  refine pb_aload_n (pc2 := 441) dL_law_440 rfl rfl rfl ?_
  refine pb_aload_n (pc2 := 442) dL_law_441 rfl rfl rfl ?_
  refine pb_iload_n (pc2 := 443) dL_law_442 rfl rfl rfl ?_
  refine pb_iconst (x := nI 1) (pc2 := 444) dL_law_443 (by decide) rfl ?_
  refine pb_iaddN (pc2 := 445) dL_law_444 rfl ?_
  refine pb_iaload (pc2 := 446) dL_law_445 ⟨by decide, rfl⟩ hs (by omega) (by omega) rfl ?_
  refine pb_callV (pc2 := 449) (k2 := K2) (n2 := N2) mwX11_years pb_cl9.1 iwX11_years seX11_years rfl mlL_40 dL_law_446 (by first | assumption | exact hR.a rfl | exact hR.o | exact hC.o | exact hC.pal | exact hC.tub | exact hC.k _ _ rfl | exact hC.pot _ (by omega) | exact hC.are _ (by omega) | exact hC.arl _ (by omega) | exact hC.tbo _ (by omega) (by omega)) (c_years w hC (xs (i + 1))) (by omega) (by omega) (by omega) rfl rfl (Nat.le_of_ble_eq_true rfl) rfl (fun v h1 q _ => ?_)
  obtain ⟨rfl, hC1⟩ := q
  obtain ⟨hR1, hs, hT1⟩ := hI.c hC1
  clear hR hC
  have hR := hR1
  refine pb_aload_n (pc2 := 450) dL_law_449 rfl rfl rfl ?_
  refine pb_aload_n (pc2 := 451) dL_law_450 rfl rfl rfl ?_
  refine pb_iload_n (pc2 := 452) dL_law_451 rfl rfl rfl ?_
  refine pb_iconst (x := nI 1) (pc2 := 453) dL_law_452 (by decide) rfl ?_
  refine pb_iaddN (pc2 := 454) dL_law_453 rfl ?_
  refine pb_iaload (pc2 := 455) dL_law_454 ⟨by decide, rfl⟩ hs (by omega) (by omega) rfl ?_
  refine pb_callV (pc2 := 458) (k2 := K2) (n2 := N2) mwX12_years pb_cl10.1 iwX12_years seX12_years rfl mlL_44 dL_law_455 (by first | assumption | exact hR.a rfl | exact hR.o | exact hC.o | exact hC.pal | exact hC.tub | exact hC.k _ _ rfl | exact hC.pot _ (by omega) | exact hC.are _ (by omega) | exact hC.arl _ (by omega) | exact hC.tbo _ (by omega) (by omega)) (r_years w hR1 (xs (i + 1))) (by omega) (by omega) (by omega) rfl rfl (Nat.le_of_ble_eq_true rfl) rfl (fun v h2 q _ => ?_)
  obtain ⟨rfl, hR2⟩ := q
  refine pb_icmp_eq (tgt := 1275) (pc2 := 461) dL_law_458 (by decide) rfl (fun _ => nx _ h2 (lw_I.n (wf_years w (xs (i + 1))) hC1 hs hT1 hR2)) (fun z => absurd rfl z)
set_option maxRecDepth 10000 in
theorem lc_press {L i K N K2 N2 : Nat} {xs : Nat → Int32} (hL : L ≤ 2560) (hi : i + 5 ≤ L) (hK : K2 + 7 ≤ K) (hN : N2 + 4096 ≤ N) (hI : lw_I A L xs h) (nx : ∀ A' h', lw_I A' L xs h' → pb_S Z pb_yL 100 K2 N2 (fun v _ => v = some (.int 1)) 1275 [some (.ref 0), some (.ref 60), some (.ref 20), some (.int (nI i))] [] h') : pb_S Z pb_yL 100 K N (fun v _ => v = some (.int 1)) 463 [some (.ref 0), some (.ref 60), some (.ref 20), some (.int (nI i))] [] h := by
  obtain ⟨w, hR, hC, hs, hT⟩ := id hI
  refine pb_aload_n (pc2 := 464) dL_law_463 rfl rfl rfl ?_
  refine pb_aload_n (pc2 := 465) dL_law_464 rfl rfl rfl ?_
  refine pb_iload_n (pc2 := 466) dL_law_465 rfl rfl rfl ?_
  refine pb_iconst (x := nI 1) (pc2 := 467) dL_law_466 (by decide) rfl ?_
  refine pb_iaddN (pc2 := 468) dL_law_467 rfl ?_
  refine pb_iaload (pc2 := 469) dL_law_468 ⟨by decide, rfl⟩ hs (by omega) (by omega) rfl ?_
  refine pb_aload_n (pc2 := 470) dL_law_469 rfl rfl rfl ?_
  refine pb_iload_n (pc2 := 471) dL_law_470 rfl rfl rfl ?_
  refine pb_iconst (x := nI 2) (pc2 := 472) dL_law_471 (by decide) rfl ?_
  refine pb_iaddN (pc2 := 473) dL_law_472 rfl ?_
  refine pb_iaload (pc2 := 474) dL_law_473 ⟨by decide, rfl⟩ hs (by omega) (by omega) rfl ?_
  refine pb_aload_n (pc2 := 475) dL_law_474 rfl rfl rfl ?_
  refine pb_iload_n (pc2 := 476) dL_law_475 rfl rfl rfl ?_
  refine pb_iconst (x := nI 3) (pc2 := 477) dL_law_476 (by decide) rfl ?_
  refine pb_iaddN (pc2 := 478) dL_law_477 rfl ?_
  refine pb_iaload (pc2 := 479) dL_law_478 ⟨by decide, rfl⟩ hs (by omega) (by omega) rfl ?_
  refine pb_callV (pc2 := 482) (k2 := K2) (n2 := N2) mwX11_press pb_cl9.1 iwX11_press seX11_press rfl mlL_45 dL_law_479 (by first | assumption | exact hR.a rfl | exact hR.o | exact hC.o | exact hC.pal | exact hC.tub | exact hC.k _ _ rfl | exact hC.pot _ (by omega) | exact hC.are _ (by omega) | exact hC.arl _ (by omega) | exact hC.tbo _ (by omega) (by omega)) (c_press w hC (xs (i + 1)) (xs (i + 2)) (xs (i + 3))) (by omega) (by omega) (by omega) rfl rfl (Nat.le_of_ble_eq_true rfl) rfl (fun v h1 q _ => ?_)
  obtain ⟨rfl, hC1⟩ := q
  obtain ⟨hR1, hs, hT1⟩ := hI.c hC1
  clear hR hC
  have hR := hR1
  refine pb_aload_n (pc2 := 483) dL_law_482 rfl rfl rfl ?_
  refine pb_aload_n (pc2 := 484) dL_law_483 rfl rfl rfl ?_
  refine pb_iload_n (pc2 := 485) dL_law_484 rfl rfl rfl ?_
  refine pb_iconst (x := nI 1) (pc2 := 486) dL_law_485 (by decide) rfl ?_
  refine pb_iaddN (pc2 := 487) dL_law_486 rfl ?_
  refine pb_iaload (pc2 := 488) dL_law_487 ⟨by decide, rfl⟩ hs (by omega) (by omega) rfl ?_
  refine pb_aload_n (pc2 := 489) dL_law_488 rfl rfl rfl ?_
  refine pb_iload_n (pc2 := 490) dL_law_489 rfl rfl rfl ?_
  refine pb_iconst (x := nI 2) (pc2 := 491) dL_law_490 (by decide) rfl ?_
  refine pb_iaddN (pc2 := 492) dL_law_491 rfl ?_
  refine pb_iaload (pc2 := 493) dL_law_492 ⟨by decide, rfl⟩ hs (by omega) (by omega) rfl ?_
  refine pb_aload_n (pc2 := 494) dL_law_493 rfl rfl rfl ?_
  refine pb_iload_n (pc2 := 495) dL_law_494 rfl rfl rfl ?_
  refine pb_iconst (x := nI 3) (pc2 := 496) dL_law_495 (by decide) rfl ?_
  refine pb_iaddN (pc2 := 497) dL_law_496 rfl ?_
  refine pb_iaload (pc2 := 498) dL_law_497 ⟨by decide, rfl⟩ hs (by omega) (by omega) rfl ?_
  refine pb_callV (pc2 := 501) (k2 := K2) (n2 := N2) mwX12_press pb_cl10.1 iwX12_press seX12_press rfl mlL_48 dL_law_498 (by first | assumption | exact hR.a rfl | exact hR.o | exact hC.o | exact hC.pal | exact hC.tub | exact hC.k _ _ rfl | exact hC.pot _ (by omega) | exact hC.are _ (by omega) | exact hC.arl _ (by omega) | exact hC.tbo _ (by omega) (by omega)) (r_press w hR1 (xs (i + 1)) (xs (i + 2)) (xs (i + 3))) (by omega) (by omega) (by omega) rfl rfl (Nat.le_of_ble_eq_true rfl) rfl (fun v h2 q _ => ?_)
  obtain ⟨rfl, hR2⟩ := q
  refine pb_icmp_eq (tgt := 1275) (pc2 := 504) dL_law_501 (by decide) rfl (fun _ => nx _ h2 (lw_I.n (wf_press w (xs (i + 1)) (xs (i + 2)) (xs (i + 3))) hC1 hs hT1 hR2)) (fun z => absurd rfl z)
set_option maxRecDepth 10000 in
theorem lc_pour {L i K N K2 N2 : Nat} {xs : Nat → Int32} (hL : L ≤ 2560) (hi : i + 5 ≤ L) (hK : K2 + 7 ≤ K) (hN : N2 + 4096 ≤ N) (hI : lw_I A L xs h) (nx : ∀ A' h', lw_I A' L xs h' → pb_S Z pb_yL 100 K2 N2 (fun v _ => v = some (.int 1)) 1275 [some (.ref 0), some (.ref 60), some (.ref 20), some (.int (nI i))] [] h') : pb_S Z pb_yL 100 K N (fun v _ => v = some (.int 1)) 506 [some (.ref 0), some (.ref 60), some (.ref 20), some (.int (nI i))] [] h := by
  obtain ⟨w, hR, hC, hs, hT⟩ := id hI
  refine pb_aload_n (pc2 := 507) dL_law_506 rfl rfl rfl ?_
  refine pb_aload_n (pc2 := 508) dL_law_507 rfl rfl rfl ?_
  refine pb_iload_n (pc2 := 509) dL_law_508 rfl rfl rfl ?_
  refine pb_iconst (x := nI 1) (pc2 := 510) dL_law_509 (by decide) rfl ?_
  refine pb_iaddN (pc2 := 511) dL_law_510 rfl ?_
  refine pb_iaload (pc2 := 512) dL_law_511 ⟨by decide, rfl⟩ hs (by omega) (by omega) rfl ?_
  refine pb_aload_n (pc2 := 513) dL_law_512 rfl rfl rfl ?_
  refine pb_iload_n (pc2 := 514) dL_law_513 rfl rfl rfl ?_
  refine pb_iconst (x := nI 2) (pc2 := 515) dL_law_514 (by decide) rfl ?_
  refine pb_iaddN (pc2 := 516) dL_law_515 rfl ?_
  refine pb_iaload (pc2 := 517) dL_law_516 ⟨by decide, rfl⟩ hs (by omega) (by omega) rfl ?_
  refine pb_callV (pc2 := 520) (k2 := K2) (n2 := N2) mwX11_pour pb_cl9.1 iwX11_pour seX11_pour rfl mlL_49 dL_law_517 (by first | assumption | exact hR.a rfl | exact hR.o | exact hC.o | exact hC.pal | exact hC.tub | exact hC.k _ _ rfl | exact hC.pot _ (by omega) | exact hC.are _ (by omega) | exact hC.arl _ (by omega) | exact hC.tbo _ (by omega) (by omega)) (c_pour w hC (xs (i + 1)) (xs (i + 2))) (by omega) (by omega) (by omega) rfl rfl (Nat.le_of_ble_eq_true rfl) rfl (fun v h1 q _ => ?_)
  obtain ⟨rfl, hC1⟩ := q
  obtain ⟨hR1, hs, hT1⟩ := hI.c hC1
  clear hR hC
  have hR := hR1
  refine pb_aload_n (pc2 := 521) dL_law_520 rfl rfl rfl ?_
  refine pb_aload_n (pc2 := 522) dL_law_521 rfl rfl rfl ?_
  refine pb_iload_n (pc2 := 523) dL_law_522 rfl rfl rfl ?_
  refine pb_iconst (x := nI 1) (pc2 := 524) dL_law_523 (by decide) rfl ?_
  refine pb_iaddN (pc2 := 525) dL_law_524 rfl ?_
  refine pb_iaload (pc2 := 526) dL_law_525 ⟨by decide, rfl⟩ hs (by omega) (by omega) rfl ?_
  refine pb_aload_n (pc2 := 527) dL_law_526 rfl rfl rfl ?_
  refine pb_iload_n (pc2 := 528) dL_law_527 rfl rfl rfl ?_
  refine pb_iconst (x := nI 2) (pc2 := 529) dL_law_528 (by decide) rfl ?_
  refine pb_iaddN (pc2 := 530) dL_law_529 rfl ?_
  refine pb_iaload (pc2 := 531) dL_law_530 ⟨by decide, rfl⟩ hs (by omega) (by omega) rfl ?_
  refine pb_callV (pc2 := 534) (k2 := K2) (n2 := N2) mwX12_pour pb_cl10.1 iwX12_pour seX12_pour rfl mlL_52 dL_law_531 (by first | assumption | exact hR.a rfl | exact hR.o | exact hC.o | exact hC.pal | exact hC.tub | exact hC.k _ _ rfl | exact hC.pot _ (by omega) | exact hC.are _ (by omega) | exact hC.arl _ (by omega) | exact hC.tbo _ (by omega) (by omega)) (r_pour w hR1 (xs (i + 1)) (xs (i + 2))) (by omega) (by omega) (by omega) rfl rfl (Nat.le_of_ble_eq_true rfl) rfl (fun v h2 q _ => ?_)
  obtain ⟨rfl, hR2⟩ := q
  refine pb_icmp_eq (tgt := 1275) (pc2 := 537) dL_law_534 (by decide) rfl (fun _ => nx _ h2 (lw_I.n (wf_pour w (xs (i + 1)) (xs (i + 2))) hC1 hs hT1 hR2)) (fun z => absurd rfl z)
set_option maxRecDepth 10000 in
theorem lc_waste {L i K N K2 N2 : Nat} {xs : Nat → Int32} (hL : L ≤ 2560) (hi : i + 5 ≤ L) (hK : K2 + 7 ≤ K) (hN : N2 + 4096 ≤ N) (hI : lw_I A L xs h) (nx : ∀ A' h', lw_I A' L xs h' → pb_S Z pb_yL 100 K2 N2 (fun v _ => v = some (.int 1)) 1275 [some (.ref 0), some (.ref 60), some (.ref 20), some (.int (nI i))] [] h') : pb_S Z pb_yL 100 K N (fun v _ => v = some (.int 1)) 539 [some (.ref 0), some (.ref 60), some (.ref 20), some (.int (nI i))] [] h := by
  obtain ⟨w, hR, hC, hs, hT⟩ := id hI
  refine pb_aload_n (pc2 := 540) dL_law_539 rfl rfl rfl ?_
  refine pb_aload_n (pc2 := 541) dL_law_540 rfl rfl rfl ?_
  refine pb_iload_n (pc2 := 542) dL_law_541 rfl rfl rfl ?_
  refine pb_iconst (x := nI 1) (pc2 := 543) dL_law_542 (by decide) rfl ?_
  refine pb_iaddN (pc2 := 544) dL_law_543 rfl ?_
  refine pb_iaload (pc2 := 545) dL_law_544 ⟨by decide, rfl⟩ hs (by omega) (by omega) rfl ?_
  refine pb_callV (pc2 := 548) (k2 := K2) (n2 := N2) mwX11_waste pb_cl9.1 iwX11_waste seX11_waste rfl mlL_53 dL_law_545 (by first | assumption | exact hR.a rfl | exact hR.o | exact hC.o | exact hC.pal | exact hC.tub | exact hC.k _ _ rfl | exact hC.pot _ (by omega) | exact hC.are _ (by omega) | exact hC.arl _ (by omega) | exact hC.tbo _ (by omega) (by omega)) (c_waste w hC (xs (i + 1))) (by omega) (by omega) (by omega) rfl rfl (Nat.le_of_ble_eq_true rfl) rfl (fun v h1 q _ => ?_)
  obtain ⟨rfl, hC1⟩ := q
  obtain ⟨hR1, hs, hT1⟩ := hI.c hC1
  clear hR hC
  have hR := hR1
  refine pb_aload_n (pc2 := 549) dL_law_548 rfl rfl rfl ?_
  refine pb_aload_n (pc2 := 550) dL_law_549 rfl rfl rfl ?_
  refine pb_iload_n (pc2 := 551) dL_law_550 rfl rfl rfl ?_
  refine pb_iconst (x := nI 1) (pc2 := 552) dL_law_551 (by decide) rfl ?_
  refine pb_iaddN (pc2 := 553) dL_law_552 rfl ?_
  refine pb_iaload (pc2 := 554) dL_law_553 ⟨by decide, rfl⟩ hs (by omega) (by omega) rfl ?_
  refine pb_callV (pc2 := 557) (k2 := K2) (n2 := N2) mwX12_waste pb_cl10.1 iwX12_waste seX12_waste rfl mlL_56 dL_law_554 (by first | assumption | exact hR.a rfl | exact hR.o | exact hC.o | exact hC.pal | exact hC.tub | exact hC.k _ _ rfl | exact hC.pot _ (by omega) | exact hC.are _ (by omega) | exact hC.arl _ (by omega) | exact hC.tbo _ (by omega) (by omega)) (r_waste w hR1 (xs (i + 1))) (by omega) (by omega) (by omega) rfl rfl (Nat.le_of_ble_eq_true rfl) rfl (fun v h2 q _ => ?_)
  obtain ⟨rfl, hR2⟩ := q
  refine pb_icmp_eq (tgt := 1275) (pc2 := 560) dL_law_557 (by decide) rfl (fun _ => nx _ h2 (lw_I.n (wf_waste w (xs (i + 1))) hC1 hs hT1 hR2)) (fun z => absurd rfl z)
set_option maxRecDepth 10000 in
theorem lc_drops {L i K N K2 N2 : Nat} {xs : Nat → Int32} (hL : L ≤ 2560) (hi : i + 5 ≤ L) (hK : K2 + 7 ≤ K) (hN : N2 + 4096 ≤ N) (hI : lw_I A L xs h) (nx : ∀ A' h', lw_I A' L xs h' → pb_S Z pb_yL 100 K2 N2 (fun v _ => v = some (.int 1)) 1275 [some (.ref 0), some (.ref 60), some (.ref 20), some (.int (nI i))] [] h') : pb_S Z pb_yL 100 K N (fun v _ => v = some (.int 1)) 562 [some (.ref 0), some (.ref 60), some (.ref 20), some (.int (nI i))] [] h := by
  obtain ⟨w, hR, hC, hs, hT⟩ := id hI
  refine pb_aload_n (pc2 := 563) dL_law_562 rfl rfl rfl ?_
  refine pb_aload_n (pc2 := 564) dL_law_563 rfl rfl rfl ?_
  refine pb_iload_n (pc2 := 565) dL_law_564 rfl rfl rfl ?_
  refine pb_iconst (x := nI 1) (pc2 := 566) dL_law_565 (by decide) rfl ?_
  refine pb_iaddN (pc2 := 567) dL_law_566 rfl ?_
  refine pb_iaload (pc2 := 568) dL_law_567 ⟨by decide, rfl⟩ hs (by omega) (by omega) rfl ?_
  refine pb_aload_n (pc2 := 569) dL_law_568 rfl rfl rfl ?_
  refine pb_iload_n (pc2 := 570) dL_law_569 rfl rfl rfl ?_
  refine pb_iconst (x := nI 2) (pc2 := 571) dL_law_570 (by decide) rfl ?_
  refine pb_iaddN (pc2 := 572) dL_law_571 rfl ?_
  refine pb_iaload (pc2 := 573) dL_law_572 ⟨by decide, rfl⟩ hs (by omega) (by omega) rfl ?_
  refine pb_callV (pc2 := 576) (k2 := K2) (n2 := N2) mwX11_drops pb_cl9.1 iwX11_drops seX11_drops rfl mlL_57 dL_law_573 (by first | assumption | exact hR.a rfl | exact hR.o | exact hC.o | exact hC.pal | exact hC.tub | exact hC.k _ _ rfl | exact hC.pot _ (by omega) | exact hC.are _ (by omega) | exact hC.arl _ (by omega) | exact hC.tbo _ (by omega) (by omega)) (c_drops w hC (xs (i + 1)) (xs (i + 2))) (by omega) (by omega) (by omega) rfl rfl (Nat.le_of_ble_eq_true rfl) rfl (fun v h1 q _ => ?_)
  obtain ⟨rfl, hC1⟩ := q
  obtain ⟨hR1, hs, hT1⟩ := hI.c hC1
  clear hR hC
  have hR := hR1
  refine pb_aload_n (pc2 := 577) dL_law_576 rfl rfl rfl ?_
  refine pb_aload_n (pc2 := 578) dL_law_577 rfl rfl rfl ?_
  refine pb_iload_n (pc2 := 579) dL_law_578 rfl rfl rfl ?_
  refine pb_iconst (x := nI 1) (pc2 := 580) dL_law_579 (by decide) rfl ?_
  refine pb_iaddN (pc2 := 581) dL_law_580 rfl ?_
  refine pb_iaload (pc2 := 582) dL_law_581 ⟨by decide, rfl⟩ hs (by omega) (by omega) rfl ?_
  refine pb_aload_n (pc2 := 583) dL_law_582 rfl rfl rfl ?_
  refine pb_iload_n (pc2 := 584) dL_law_583 rfl rfl rfl ?_
  refine pb_iconst (x := nI 2) (pc2 := 585) dL_law_584 (by decide) rfl ?_
  refine pb_iaddN (pc2 := 586) dL_law_585 rfl ?_
  refine pb_iaload (pc2 := 587) dL_law_586 ⟨by decide, rfl⟩ hs (by omega) (by omega) rfl ?_
  refine pb_callV (pc2 := 590) (k2 := K2) (n2 := N2) mwX12_drops pb_cl10.1 iwX12_drops seX12_drops rfl mlL_60 dL_law_587 (by first | assumption | exact hR.a rfl | exact hR.o | exact hC.o | exact hC.pal | exact hC.tub | exact hC.k _ _ rfl | exact hC.pot _ (by omega) | exact hC.are _ (by omega) | exact hC.arl _ (by omega) | exact hC.tbo _ (by omega) (by omega)) (r_drops w hR1 (xs (i + 1)) (xs (i + 2))) (by omega) (by omega) (by omega) rfl rfl (Nat.le_of_ble_eq_true rfl) rfl (fun v h2 q _ => ?_)
  obtain ⟨rfl, hR2⟩ := q
  refine pb_icmp_eq (tgt := 1275) (pc2 := 593) dL_law_590 (by decide) rfl (fun _ => nx _ h2 (lw_I.n (wf_drops w (xs (i + 1)) (xs (i + 2))) hC1 hs hT1 hR2)) (fun z => absurd rfl z)
set_option maxRecDepth 10000 in
theorem lc_thick {L i K N K2 N2 : Nat} {xs : Nat → Int32} (hL : L ≤ 2560) (hi : i + 5 ≤ L) (hK : K2 + 7 ≤ K) (hN : N2 + 4096 ≤ N) (hI : lw_I A L xs h) (nx : ∀ A' h', lw_I A' L xs h' → pb_S Z pb_yL 100 K2 N2 (fun v _ => v = some (.int 1)) 1275 [some (.ref 0), some (.ref 60), some (.ref 20), some (.int (nI i))] [] h') : pb_S Z pb_yL 100 K N (fun v _ => v = some (.int 1)) 595 [some (.ref 0), some (.ref 60), some (.ref 20), some (.int (nI i))] [] h := by
  obtain ⟨w, hR, hC, hs, hT⟩ := id hI
  refine pb_aload_n (pc2 := 596) dL_law_595 rfl rfl rfl ?_
  refine pb_aload_n (pc2 := 597) dL_law_596 rfl rfl rfl ?_
  refine pb_iload_n (pc2 := 598) dL_law_597 rfl rfl rfl ?_
  refine pb_iconst (x := nI 1) (pc2 := 599) dL_law_598 (by decide) rfl ?_
  refine pb_iaddN (pc2 := 600) dL_law_599 rfl ?_
  refine pb_iaload (pc2 := 601) dL_law_600 ⟨by decide, rfl⟩ hs (by omega) (by omega) rfl ?_
  refine pb_aload_n (pc2 := 602) dL_law_601 rfl rfl rfl ?_
  refine pb_iload_n (pc2 := 603) dL_law_602 rfl rfl rfl ?_
  refine pb_iconst (x := nI 2) (pc2 := 604) dL_law_603 (by decide) rfl ?_
  refine pb_iaddN (pc2 := 605) dL_law_604 rfl ?_
  refine pb_iaload (pc2 := 606) dL_law_605 ⟨by decide, rfl⟩ hs (by omega) (by omega) rfl ?_
  refine pb_callV (pc2 := 609) (k2 := K2) (n2 := N2) mwX11_thick pb_cl9.1 iwX11_thick seX11_thick rfl mlL_61 dL_law_606 (by first | assumption | exact hR.a rfl | exact hR.o | exact hC.o | exact hC.pal | exact hC.tub | exact hC.k _ _ rfl | exact hC.pot _ (by omega) | exact hC.are _ (by omega) | exact hC.arl _ (by omega) | exact hC.tbo _ (by omega) (by omega)) (c_thick w hC (xs (i + 1)) (xs (i + 2))) (by omega) (by omega) (by omega) rfl rfl (Nat.le_of_ble_eq_true rfl) rfl (fun v h1 q _ => ?_)
  obtain ⟨rfl, hC1⟩ := q
  obtain ⟨hR1, hs, hT1⟩ := hI.c hC1
  clear hR hC
  have hR := hR1
  refine pb_aload_n (pc2 := 610) dL_law_609 rfl rfl rfl ?_
  refine pb_aload_n (pc2 := 611) dL_law_610 rfl rfl rfl ?_
  refine pb_iload_n (pc2 := 612) dL_law_611 rfl rfl rfl ?_
  refine pb_iconst (x := nI 1) (pc2 := 613) dL_law_612 (by decide) rfl ?_
  refine pb_iaddN (pc2 := 614) dL_law_613 rfl ?_
  refine pb_iaload (pc2 := 615) dL_law_614 ⟨by decide, rfl⟩ hs (by omega) (by omega) rfl ?_
  refine pb_aload_n (pc2 := 616) dL_law_615 rfl rfl rfl ?_
  refine pb_iload_n (pc2 := 617) dL_law_616 rfl rfl rfl ?_
  refine pb_iconst (x := nI 2) (pc2 := 618) dL_law_617 (by decide) rfl ?_
  refine pb_iaddN (pc2 := 619) dL_law_618 rfl ?_
  refine pb_iaload (pc2 := 620) dL_law_619 ⟨by decide, rfl⟩ hs (by omega) (by omega) rfl ?_
  refine pb_callV (pc2 := 623) (k2 := K2) (n2 := N2) mwX12_thick pb_cl10.1 iwX12_thick seX12_thick rfl mlL_64 dL_law_620 (by first | assumption | exact hR.a rfl | exact hR.o | exact hC.o | exact hC.pal | exact hC.tub | exact hC.k _ _ rfl | exact hC.pot _ (by omega) | exact hC.are _ (by omega) | exact hC.arl _ (by omega) | exact hC.tbo _ (by omega) (by omega)) (r_thick w hR1 (xs (i + 1)) (xs (i + 2))) (by omega) (by omega) (by omega) rfl rfl (Nat.le_of_ble_eq_true rfl) rfl (fun v h2 q _ => ?_)
  obtain ⟨rfl, hR2⟩ := q
  refine pb_icmp_eq (tgt := 1275) (pc2 := 626) dL_law_623 (by decide) rfl (fun _ => nx _ h2 (lw_I.n (wf_thick w (xs (i + 1)) (xs (i + 2))) hC1 hs hT1 hR2)) (fun z => absurd rfl z)
set_option maxRecDepth 10000 in
theorem lc_seen {L i K N K2 N2 : Nat} {xs : Nat → Int32} (hL : L ≤ 2560) (hi : i + 5 ≤ L) (hK : K2 + 7 ≤ K) (hN : N2 + 4096 ≤ N) (hI : lw_I A L xs h) (nx : ∀ A' h', lw_I A' L xs h' → pb_S Z pb_yL 100 K2 N2 (fun v _ => v = some (.int 1)) 1275 [some (.ref 0), some (.ref 60), some (.ref 20), some (.int (nI i))] [] h') : pb_S Z pb_yL 100 K N (fun v _ => v = some (.int 1)) 628 [some (.ref 0), some (.ref 60), some (.ref 20), some (.int (nI i))] [] h := by
  obtain ⟨w, hR, hC, hs, hT⟩ := id hI
  refine pb_aload_n (pc2 := 629) dL_law_628 rfl rfl rfl ?_
  refine pb_aload_n (pc2 := 630) dL_law_629 rfl rfl rfl ?_
  refine pb_iload_n (pc2 := 631) dL_law_630 rfl rfl rfl ?_
  refine pb_iconst (x := nI 1) (pc2 := 632) dL_law_631 (by decide) rfl ?_
  refine pb_iaddN (pc2 := 633) dL_law_632 rfl ?_
  refine pb_iaload (pc2 := 634) dL_law_633 ⟨by decide, rfl⟩ hs (by omega) (by omega) rfl ?_
  refine pb_aload_n (pc2 := 635) dL_law_634 rfl rfl rfl ?_
  refine pb_iload_n (pc2 := 636) dL_law_635 rfl rfl rfl ?_
  refine pb_iconst (x := nI 2) (pc2 := 637) dL_law_636 (by decide) rfl ?_
  refine pb_iaddN (pc2 := 638) dL_law_637 rfl ?_
  refine pb_iaload (pc2 := 639) dL_law_638 ⟨by decide, rfl⟩ hs (by omega) (by omega) rfl ?_
  refine pb_aload_n (pc2 := 640) dL_law_639 rfl rfl rfl ?_
  refine pb_iload_n (pc2 := 641) dL_law_640 rfl rfl rfl ?_
  refine pb_iconst (x := nI 3) (pc2 := 642) dL_law_641 (by decide) rfl ?_
  refine pb_iaddN (pc2 := 643) dL_law_642 rfl ?_
  refine pb_iaload (pc2 := 644) dL_law_643 ⟨by decide, rfl⟩ hs (by omega) (by omega) rfl ?_
  refine pb_callV (pc2 := 647) (k2 := K2) (n2 := N2) mwX11_seen pb_cl9.1 iwX11_seen seX11_seen rfl mlL_65 dL_law_644 (by first | assumption | exact hR.a rfl | exact hR.o | exact hC.o | exact hC.pal | exact hC.tub | exact hC.k _ _ rfl | exact hC.pot _ (by omega) | exact hC.are _ (by omega) | exact hC.arl _ (by omega) | exact hC.tbo _ (by omega) (by omega)) (c_seen w hC (xs (i + 1)) (xs (i + 2)) (xs (i + 3))) (by omega) (by omega) (by omega) rfl rfl (Nat.le_of_ble_eq_true rfl) rfl (fun v h1 q _ => ?_)
  obtain ⟨rfl, hC1⟩ := q
  obtain ⟨hR1, hs, hT1⟩ := hI.c hC1
  clear hR hC
  have hR := hR1
  refine pb_aload_n (pc2 := 648) dL_law_647 rfl rfl rfl ?_
  refine pb_aload_n (pc2 := 649) dL_law_648 rfl rfl rfl ?_
  refine pb_iload_n (pc2 := 650) dL_law_649 rfl rfl rfl ?_
  refine pb_iconst (x := nI 1) (pc2 := 651) dL_law_650 (by decide) rfl ?_
  refine pb_iaddN (pc2 := 652) dL_law_651 rfl ?_
  refine pb_iaload (pc2 := 653) dL_law_652 ⟨by decide, rfl⟩ hs (by omega) (by omega) rfl ?_
  refine pb_aload_n (pc2 := 654) dL_law_653 rfl rfl rfl ?_
  refine pb_iload_n (pc2 := 655) dL_law_654 rfl rfl rfl ?_
  refine pb_iconst (x := nI 2) (pc2 := 656) dL_law_655 (by decide) rfl ?_
  refine pb_iaddN (pc2 := 657) dL_law_656 rfl ?_
  refine pb_iaload (pc2 := 658) dL_law_657 ⟨by decide, rfl⟩ hs (by omega) (by omega) rfl ?_
  refine pb_aload_n (pc2 := 659) dL_law_658 rfl rfl rfl ?_
  refine pb_iload_n (pc2 := 660) dL_law_659 rfl rfl rfl ?_
  refine pb_iconst (x := nI 3) (pc2 := 661) dL_law_660 (by decide) rfl ?_
  refine pb_iaddN (pc2 := 662) dL_law_661 rfl ?_
  refine pb_iaload (pc2 := 663) dL_law_662 ⟨by decide, rfl⟩ hs (by omega) (by omega) rfl ?_
  refine pb_callV (pc2 := 666) (k2 := K2) (n2 := N2) mwX12_seen pb_cl10.1 iwX12_seen seX12_seen rfl mlL_68 dL_law_663 (by first | assumption | exact hR.a rfl | exact hR.o | exact hC.o | exact hC.pal | exact hC.tub | exact hC.k _ _ rfl | exact hC.pot _ (by omega) | exact hC.are _ (by omega) | exact hC.arl _ (by omega) | exact hC.tbo _ (by omega) (by omega)) (r_seen w hR1 (xs (i + 1)) (xs (i + 2)) (xs (i + 3))) (by omega) (by omega) (by omega) rfl rfl (Nat.le_of_ble_eq_true rfl) rfl (fun v h2 q _ => ?_)
  obtain ⟨rfl, hR2⟩ := q
  refine pb_icmp_eq (tgt := 1275) (pc2 := 669) dL_law_666 (by decide) rfl (fun _ => nx _ h2 (lw_I.n (wf_seen w (xs (i + 1)) (xs (i + 2)) (xs (i + 3))) hC1 hs hT1 hR2)) (fun z => absurd rfl z)
set_option maxRecDepth 10000 in
theorem lc_over {L i K N K2 N2 : Nat} {xs : Nat → Int32} (hL : L ≤ 2560) (hi : i + 5 ≤ L) (hK : K2 + 7 ≤ K) (hN : N2 + 4096 ≤ N) (hI : lw_I A L xs h) (nx : ∀ A' h', lw_I A' L xs h' → pb_S Z pb_yL 100 K2 N2 (fun v _ => v = some (.int 1)) 1275 [some (.ref 0), some (.ref 60), some (.ref 20), some (.int (nI i))] [] h') : pb_S Z pb_yL 100 K N (fun v _ => v = some (.int 1)) 671 [some (.ref 0), some (.ref 60), some (.ref 20), some (.int (nI i))] [] h := by
  obtain ⟨w, hR, hC, hs, hT⟩ := id hI
  refine pb_aload_n (pc2 := 672) dL_law_671 rfl rfl rfl ?_
  refine pb_aload_n (pc2 := 673) dL_law_672 rfl rfl rfl ?_
  refine pb_iload_n (pc2 := 674) dL_law_673 rfl rfl rfl ?_
  refine pb_iconst (x := nI 1) (pc2 := 675) dL_law_674 (by decide) rfl ?_
  refine pb_iaddN (pc2 := 676) dL_law_675 rfl ?_
  refine pb_iaload (pc2 := 677) dL_law_676 ⟨by decide, rfl⟩ hs (by omega) (by omega) rfl ?_
  refine pb_aload_n (pc2 := 678) dL_law_677 rfl rfl rfl ?_
  refine pb_iload_n (pc2 := 679) dL_law_678 rfl rfl rfl ?_
  refine pb_iconst (x := nI 2) (pc2 := 680) dL_law_679 (by decide) rfl ?_
  refine pb_iaddN (pc2 := 681) dL_law_680 rfl ?_
  refine pb_iaload (pc2 := 682) dL_law_681 ⟨by decide, rfl⟩ hs (by omega) (by omega) rfl ?_
  refine pb_aload_n (pc2 := 683) dL_law_682 rfl rfl rfl ?_
  refine pb_iload_n (pc2 := 684) dL_law_683 rfl rfl rfl ?_
  refine pb_iconst (x := nI 3) (pc2 := 685) dL_law_684 (by decide) rfl ?_
  refine pb_iaddN (pc2 := 686) dL_law_685 rfl ?_
  refine pb_iaload (pc2 := 687) dL_law_686 ⟨by decide, rfl⟩ hs (by omega) (by omega) rfl ?_
  refine pb_aload_n (pc2 := 688) dL_law_687 rfl rfl rfl ?_
  refine pb_iload_n (pc2 := 689) dL_law_688 rfl rfl rfl ?_
  refine pb_iconst (x := nI 4) (pc2 := 690) dL_law_689 (by decide) rfl ?_
  refine pb_iaddN (pc2 := 691) dL_law_690 rfl ?_
  refine pb_iaload (pc2 := 692) dL_law_691 ⟨by decide, rfl⟩ hs (by omega) (by omega) rfl ?_
  refine pb_callV (pc2 := 695) (k2 := K2) (n2 := N2) mwX11_over pb_cl9.1 iwX11_over seX11_over rfl mlL_69 dL_law_692 (by first | assumption | exact hR.a rfl | exact hR.o | exact hC.o | exact hC.pal | exact hC.tub | exact hC.k _ _ rfl | exact hC.pot _ (by omega) | exact hC.are _ (by omega) | exact hC.arl _ (by omega) | exact hC.tbo _ (by omega) (by omega)) (c_over w hC (xs (i + 1)) (xs (i + 2)) (xs (i + 3)) (xs (i + 4))) (by omega) (by omega) (by omega) rfl rfl (Nat.le_of_ble_eq_true rfl) rfl (fun v h1 q _ => ?_)
  obtain ⟨rfl, hC1⟩ := q
  obtain ⟨hR1, hs, hT1⟩ := hI.c hC1
  clear hR hC
  have hR := hR1
  refine pb_aload_n (pc2 := 696) dL_law_695 rfl rfl rfl ?_
  refine pb_aload_n (pc2 := 697) dL_law_696 rfl rfl rfl ?_
  refine pb_iload_n (pc2 := 698) dL_law_697 rfl rfl rfl ?_
  refine pb_iconst (x := nI 1) (pc2 := 699) dL_law_698 (by decide) rfl ?_
  refine pb_iaddN (pc2 := 700) dL_law_699 rfl ?_
  refine pb_iaload (pc2 := 701) dL_law_700 ⟨by decide, rfl⟩ hs (by omega) (by omega) rfl ?_
  refine pb_aload_n (pc2 := 702) dL_law_701 rfl rfl rfl ?_
  refine pb_iload_n (pc2 := 703) dL_law_702 rfl rfl rfl ?_
  refine pb_iconst (x := nI 2) (pc2 := 704) dL_law_703 (by decide) rfl ?_
  refine pb_iaddN (pc2 := 705) dL_law_704 rfl ?_
  refine pb_iaload (pc2 := 706) dL_law_705 ⟨by decide, rfl⟩ hs (by omega) (by omega) rfl ?_
  refine pb_aload_n (pc2 := 707) dL_law_706 rfl rfl rfl ?_
  refine pb_iload_n (pc2 := 708) dL_law_707 rfl rfl rfl ?_
  refine pb_iconst (x := nI 3) (pc2 := 709) dL_law_708 (by decide) rfl ?_
  refine pb_iaddN (pc2 := 710) dL_law_709 rfl ?_
  refine pb_iaload (pc2 := 711) dL_law_710 ⟨by decide, rfl⟩ hs (by omega) (by omega) rfl ?_
  refine pb_aload_n (pc2 := 712) dL_law_711 rfl rfl rfl ?_
  refine pb_iload_n (pc2 := 713) dL_law_712 rfl rfl rfl ?_
  refine pb_iconst (x := nI 4) (pc2 := 714) dL_law_713 (by decide) rfl ?_
  refine pb_iaddN (pc2 := 715) dL_law_714 rfl ?_
  refine pb_iaload (pc2 := 716) dL_law_715 ⟨by decide, rfl⟩ hs (by omega) (by omega) rfl ?_
  refine pb_callV (pc2 := 719) (k2 := K2) (n2 := N2) mwX12_over pb_cl10.1 iwX12_over seX12_over rfl mlL_72 dL_law_716 (by first | assumption | exact hR.a rfl | exact hR.o | exact hC.o | exact hC.pal | exact hC.tub | exact hC.k _ _ rfl | exact hC.pot _ (by omega) | exact hC.are _ (by omega) | exact hC.arl _ (by omega) | exact hC.tbo _ (by omega) (by omega)) (r_over w hR1 (xs (i + 1)) (xs (i + 2)) (xs (i + 3)) (xs (i + 4))) (by omega) (by omega) (by omega) rfl rfl (Nat.le_of_ble_eq_true rfl) rfl (fun v h2 q _ => ?_)
  obtain ⟨rfl, hR2⟩ := q
  refine pb_icmp_eq (tgt := 1275) (pc2 := 722) dL_law_719 (by decide) rfl (fun _ => nx _ h2 (lw_I.n (wf_over w (xs (i + 1)) (xs (i + 2)) (xs (i + 3)) (xs (i + 4))) hC1 hs hT1 hR2)) (fun z => absurd rfl z)
set_option maxRecDepth 10000 in
theorem lc_hiding {L i K N K2 N2 : Nat} {xs : Nat → Int32} (hL : L ≤ 2560) (hi : i + 5 ≤ L) (hK : K2 + 7 ≤ K) (hN : N2 + 4096 ≤ N) (hI : lw_I A L xs h) (nx : ∀ A' h', lw_I A' L xs h' → pb_S Z pb_yL 100 K2 N2 (fun v _ => v = some (.int 1)) 1275 [some (.ref 0), some (.ref 60), some (.ref 20), some (.int (nI i))] [] h') : pb_S Z pb_yL 100 K N (fun v _ => v = some (.int 1)) 724 [some (.ref 0), some (.ref 60), some (.ref 20), some (.int (nI i))] [] h := by
  obtain ⟨w, hR, hC, hs, hT⟩ := id hI
  refine pb_aload_n (pc2 := 725) dL_law_724 rfl rfl rfl ?_
  refine pb_aload_n (pc2 := 726) dL_law_725 rfl rfl rfl ?_
  refine pb_iload_n (pc2 := 727) dL_law_726 rfl rfl rfl ?_
  refine pb_iconst (x := nI 1) (pc2 := 728) dL_law_727 (by decide) rfl ?_
  refine pb_iaddN (pc2 := 729) dL_law_728 rfl ?_
  refine pb_iaload (pc2 := 730) dL_law_729 ⟨by decide, rfl⟩ hs (by omega) (by omega) rfl ?_
  refine pb_aload_n (pc2 := 731) dL_law_730 rfl rfl rfl ?_
  refine pb_iload_n (pc2 := 732) dL_law_731 rfl rfl rfl ?_
  refine pb_iconst (x := nI 2) (pc2 := 733) dL_law_732 (by decide) rfl ?_
  refine pb_iaddN (pc2 := 734) dL_law_733 rfl ?_
  refine pb_iaload (pc2 := 735) dL_law_734 ⟨by decide, rfl⟩ hs (by omega) (by omega) rfl ?_
  refine pb_callV (pc2 := 738) (k2 := K2) (n2 := N2) mwX11_hiding pb_cl9.1 iwX11_hiding seX11_hiding rfl mlL_73 dL_law_735 (by first | assumption | exact hR.a rfl | exact hR.o | exact hC.o | exact hC.pal | exact hC.tub | exact hC.k _ _ rfl | exact hC.pot _ (by omega) | exact hC.are _ (by omega) | exact hC.arl _ (by omega) | exact hC.tbo _ (by omega) (by omega)) (c_hiding w hC (xs (i + 1)) (xs (i + 2))) (by omega) (by omega) (by omega) rfl rfl (Nat.le_of_ble_eq_true rfl) rfl (fun v h1 q _ => ?_)
  obtain ⟨rfl, hC1⟩ := q
  obtain ⟨hR1, hs, hT1⟩ := hI.c hC1
  clear hR hC
  have hR := hR1
  refine pb_aload_n (pc2 := 739) dL_law_738 rfl rfl rfl ?_
  refine pb_aload_n (pc2 := 740) dL_law_739 rfl rfl rfl ?_
  refine pb_iload_n (pc2 := 741) dL_law_740 rfl rfl rfl ?_
  refine pb_iconst (x := nI 1) (pc2 := 742) dL_law_741 (by decide) rfl ?_
  refine pb_iaddN (pc2 := 743) dL_law_742 rfl ?_
  refine pb_iaload (pc2 := 744) dL_law_743 ⟨by decide, rfl⟩ hs (by omega) (by omega) rfl ?_
  refine pb_aload_n (pc2 := 745) dL_law_744 rfl rfl rfl ?_
  refine pb_iload_n (pc2 := 746) dL_law_745 rfl rfl rfl ?_
  refine pb_iconst (x := nI 2) (pc2 := 747) dL_law_746 (by decide) rfl ?_
  refine pb_iaddN (pc2 := 748) dL_law_747 rfl ?_
  refine pb_iaload (pc2 := 749) dL_law_748 ⟨by decide, rfl⟩ hs (by omega) (by omega) rfl ?_
  refine pb_callV (pc2 := 752) (k2 := K2) (n2 := N2) mwX12_hiding pb_cl10.1 iwX12_hiding seX12_hiding rfl mlL_76 dL_law_749 (by first | assumption | exact hR.a rfl | exact hR.o | exact hC.o | exact hC.pal | exact hC.tub | exact hC.k _ _ rfl | exact hC.pot _ (by omega) | exact hC.are _ (by omega) | exact hC.arl _ (by omega) | exact hC.tbo _ (by omega) (by omega)) (r_hiding w hR1 (xs (i + 1)) (xs (i + 2))) (by omega) (by omega) (by omega) rfl rfl (Nat.le_of_ble_eq_true rfl) rfl (fun v h2 q _ => ?_)
  obtain ⟨rfl, hR2⟩ := q
  refine pb_icmp_eq (tgt := 1275) (pc2 := 755) dL_law_752 (by decide) rfl (fun _ => nx _ h2 (lw_I.n (wf_hiding w (xs (i + 1)) (xs (i + 2))) hC1 hs hT1 hR2)) (fun z => absurd rfl z)
set_option maxRecDepth 10000 in
theorem lc_ground {L i K N K2 N2 : Nat} {xs : Nat → Int32} (hL : L ≤ 2560) (hi : i + 5 ≤ L) (hK : K2 + 7 ≤ K) (hN : N2 + 4096 ≤ N) (hI : lw_I A L xs h) (nx : ∀ A' h', lw_I A' L xs h' → pb_S Z pb_yL 100 K2 N2 (fun v _ => v = some (.int 1)) 1275 [some (.ref 0), some (.ref 60), some (.ref 20), some (.int (nI i))] [] h') : pb_S Z pb_yL 100 K N (fun v _ => v = some (.int 1)) 757 [some (.ref 0), some (.ref 60), some (.ref 20), some (.int (nI i))] [] h := by
  obtain ⟨w, hR, hC, hs, hT⟩ := id hI
  refine pb_aload_n (pc2 := 758) dL_law_757 rfl rfl rfl ?_
  refine pb_aload_n (pc2 := 759) dL_law_758 rfl rfl rfl ?_
  refine pb_iload_n (pc2 := 760) dL_law_759 rfl rfl rfl ?_
  refine pb_iconst (x := nI 1) (pc2 := 761) dL_law_760 (by decide) rfl ?_
  refine pb_iaddN (pc2 := 762) dL_law_761 rfl ?_
  refine pb_iaload (pc2 := 763) dL_law_762 ⟨by decide, rfl⟩ hs (by omega) (by omega) rfl ?_
  refine pb_aload_n (pc2 := 764) dL_law_763 rfl rfl rfl ?_
  refine pb_iload_n (pc2 := 765) dL_law_764 rfl rfl rfl ?_
  refine pb_iconst (x := nI 2) (pc2 := 766) dL_law_765 (by decide) rfl ?_
  refine pb_iaddN (pc2 := 767) dL_law_766 rfl ?_
  refine pb_iaload (pc2 := 768) dL_law_767 ⟨by decide, rfl⟩ hs (by omega) (by omega) rfl ?_
  refine pb_callV (pc2 := 771) (k2 := K2) (n2 := N2) mwX11_ground pb_cl9.1 iwX11_ground seX11_ground rfl mlL_77 dL_law_768 (by first | assumption | exact hR.a rfl | exact hR.o | exact hC.o | exact hC.pal | exact hC.tub | exact hC.k _ _ rfl | exact hC.pot _ (by omega) | exact hC.are _ (by omega) | exact hC.arl _ (by omega) | exact hC.tbo _ (by omega) (by omega)) (c_ground w hC (xs (i + 1)) (xs (i + 2))) (by omega) (by omega) (by omega) rfl rfl (Nat.le_of_ble_eq_true rfl) rfl (fun v h1 q _ => ?_)
  obtain ⟨rfl, hC1⟩ := q
  obtain ⟨hR1, hs, hT1⟩ := hI.c hC1
  clear hR hC
  have hR := hR1
  refine pb_aload_n (pc2 := 772) dL_law_771 rfl rfl rfl ?_
  refine pb_aload_n (pc2 := 773) dL_law_772 rfl rfl rfl ?_
  refine pb_iload_n (pc2 := 774) dL_law_773 rfl rfl rfl ?_
  refine pb_iconst (x := nI 1) (pc2 := 775) dL_law_774 (by decide) rfl ?_
  refine pb_iaddN (pc2 := 776) dL_law_775 rfl ?_
  refine pb_iaload (pc2 := 777) dL_law_776 ⟨by decide, rfl⟩ hs (by omega) (by omega) rfl ?_
  refine pb_aload_n (pc2 := 778) dL_law_777 rfl rfl rfl ?_
  refine pb_iload_n (pc2 := 779) dL_law_778 rfl rfl rfl ?_
  refine pb_iconst (x := nI 2) (pc2 := 780) dL_law_779 (by decide) rfl ?_
  refine pb_iaddN (pc2 := 781) dL_law_780 rfl ?_
  refine pb_iaload (pc2 := 782) dL_law_781 ⟨by decide, rfl⟩ hs (by omega) (by omega) rfl ?_
  refine pb_callV (pc2 := 785) (k2 := K2) (n2 := N2) mwX12_ground pb_cl10.1 iwX12_ground seX12_ground rfl mlL_80 dL_law_782 (by first | assumption | exact hR.a rfl | exact hR.o | exact hC.o | exact hC.pal | exact hC.tub | exact hC.k _ _ rfl | exact hC.pot _ (by omega) | exact hC.are _ (by omega) | exact hC.arl _ (by omega) | exact hC.tbo _ (by omega) (by omega)) (r_ground w hR1 (xs (i + 1)) (xs (i + 2))) (by omega) (by omega) (by omega) rfl rfl (Nat.le_of_ble_eq_true rfl) rfl (fun v h2 q _ => ?_)
  obtain ⟨rfl, hR2⟩ := q
  refine pb_icmp_eq (tgt := 1275) (pc2 := 788) dL_law_785 (by decide) rfl (fun _ => nx _ h2 (lw_I.n (wf_ground w (xs (i + 1)) (xs (i + 2))) hC1 hs hT1 hR2)) (fun z => absurd rfl z)
set_option maxRecDepth 10000 in
theorem lc_lay {L i K N K2 N2 : Nat} {xs : Nat → Int32} (hL : L ≤ 2560) (hi : i + 5 ≤ L) (hK : K2 + 7 ≤ K) (hN : N2 + 4096 ≤ N) (hI : lw_I A L xs h) (nx : ∀ A' h', lw_I A' L xs h' → pb_S Z pb_yL 100 K2 N2 (fun v _ => v = some (.int 1)) 1275 [some (.ref 0), some (.ref 60), some (.ref 20), some (.int (nI i))] [] h') : pb_S Z pb_yL 100 K N (fun v _ => v = some (.int 1)) 790 [some (.ref 0), some (.ref 60), some (.ref 20), some (.int (nI i))] [] h := by
  obtain ⟨w, hR, hC, hs, hT⟩ := id hI
  refine pb_aload_n (pc2 := 791) dL_law_790 rfl rfl rfl ?_
  refine pb_aload_n (pc2 := 792) dL_law_791 rfl rfl rfl ?_
  refine pb_iload_n (pc2 := 793) dL_law_792 rfl rfl rfl ?_
  refine pb_iconst (x := nI 1) (pc2 := 794) dL_law_793 (by decide) rfl ?_
  refine pb_iaddN (pc2 := 795) dL_law_794 rfl ?_
  refine pb_iaload (pc2 := 796) dL_law_795 ⟨by decide, rfl⟩ hs (by omega) (by omega) rfl ?_
  refine pb_aload_n (pc2 := 797) dL_law_796 rfl rfl rfl ?_
  refine pb_iload_n (pc2 := 798) dL_law_797 rfl rfl rfl ?_
  refine pb_iconst (x := nI 2) (pc2 := 799) dL_law_798 (by decide) rfl ?_
  refine pb_iaddN (pc2 := 800) dL_law_799 rfl ?_
  refine pb_iaload (pc2 := 801) dL_law_800 ⟨by decide, rfl⟩ hs (by omega) (by omega) rfl ?_
  refine pb_aload_n (pc2 := 802) dL_law_801 rfl rfl rfl ?_
  refine pb_iload_n (pc2 := 803) dL_law_802 rfl rfl rfl ?_
  refine pb_iconst (x := nI 3) (pc2 := 804) dL_law_803 (by decide) rfl ?_
  refine pb_iaddN (pc2 := 805) dL_law_804 rfl ?_
  refine pb_iaload (pc2 := 806) dL_law_805 ⟨by decide, rfl⟩ hs (by omega) (by omega) rfl ?_
  refine pb_callV (pc2 := 809) (k2 := K2) (n2 := N2) mwX11_lay pb_cl9.1 iwX11_lay seX11_lay rfl mlL_81 dL_law_806 (by first | assumption | exact hR.a rfl | exact hR.o | exact hC.o | exact hC.pal | exact hC.tub | exact hC.k _ _ rfl | exact hC.pot _ (by omega) | exact hC.are _ (by omega) | exact hC.arl _ (by omega) | exact hC.tbo _ (by omega) (by omega)) (c_lay w hC (xs (i + 1)) (xs (i + 2)) (xs (i + 3))) (by omega) (by omega) (by omega) rfl rfl (Nat.le_of_ble_eq_true rfl) rfl (fun v h1 q _ => ?_)
  obtain ⟨rfl, hC1⟩ := q
  obtain ⟨hR1, hs, hT1⟩ := hI.c hC1
  clear hR hC
  have hR := hR1
  refine pb_aload_n (pc2 := 810) dL_law_809 rfl rfl rfl ?_
  refine pb_aload_n (pc2 := 811) dL_law_810 rfl rfl rfl ?_
  refine pb_iload_n (pc2 := 812) dL_law_811 rfl rfl rfl ?_
  refine pb_iconst (x := nI 1) (pc2 := 813) dL_law_812 (by decide) rfl ?_
  refine pb_iaddN (pc2 := 814) dL_law_813 rfl ?_
  refine pb_iaload (pc2 := 815) dL_law_814 ⟨by decide, rfl⟩ hs (by omega) (by omega) rfl ?_
  refine pb_aload_n (pc2 := 816) dL_law_815 rfl rfl rfl ?_
  refine pb_iload_n (pc2 := 817) dL_law_816 rfl rfl rfl ?_
  refine pb_iconst (x := nI 2) (pc2 := 818) dL_law_817 (by decide) rfl ?_
  refine pb_iaddN (pc2 := 819) dL_law_818 rfl ?_
  refine pb_iaload (pc2 := 820) dL_law_819 ⟨by decide, rfl⟩ hs (by omega) (by omega) rfl ?_
  refine pb_aload_n (pc2 := 821) dL_law_820 rfl rfl rfl ?_
  refine pb_iload_n (pc2 := 822) dL_law_821 rfl rfl rfl ?_
  refine pb_iconst (x := nI 3) (pc2 := 823) dL_law_822 (by decide) rfl ?_
  refine pb_iaddN (pc2 := 824) dL_law_823 rfl ?_
  refine pb_iaload (pc2 := 825) dL_law_824 ⟨by decide, rfl⟩ hs (by omega) (by omega) rfl ?_
  refine pb_callV (pc2 := 828) (k2 := K2) (n2 := N2) mwX12_lay pb_cl10.1 iwX12_lay seX12_lay rfl mlL_84 dL_law_825 (by first | assumption | exact hR.a rfl | exact hR.o | exact hC.o | exact hC.pal | exact hC.tub | exact hC.k _ _ rfl | exact hC.pot _ (by omega) | exact hC.are _ (by omega) | exact hC.arl _ (by omega) | exact hC.tbo _ (by omega) (by omega)) (r_lay w hR1 (xs (i + 1)) (xs (i + 2)) (xs (i + 3))) (by omega) (by omega) (by omega) rfl rfl (Nat.le_of_ble_eq_true rfl) rfl (fun v h2 q _ => ?_)
  obtain ⟨rfl, hR2⟩ := q
  refine pb_icmp_eq (tgt := 1275) (pc2 := 831) dL_law_828 (by decide) rfl (fun _ => nx _ h2 (lw_I.n (wf_lay w (xs (i + 1)) (xs (i + 2)) (xs (i + 3))) hC1 hs hT1 hR2)) (fun z => absurd rfl z)
set_option maxRecDepth 10000 in
theorem lc_back {L i K N K2 N2 : Nat} {xs : Nat → Int32} (hL : L ≤ 2560) (hi : i + 5 ≤ L) (hK : K2 + 7 ≤ K) (hN : N2 + 4096 ≤ N) (hI : lw_I A L xs h) (nx : ∀ A' h', lw_I A' L xs h' → pb_S Z pb_yL 100 K2 N2 (fun v _ => v = some (.int 1)) 1275 [some (.ref 0), some (.ref 60), some (.ref 20), some (.int (nI i))] [] h') : pb_S Z pb_yL 100 K N (fun v _ => v = some (.int 1)) 833 [some (.ref 0), some (.ref 60), some (.ref 20), some (.int (nI i))] [] h := by
  obtain ⟨w, hR, hC, hs, hT⟩ := id hI
  refine pb_aload_n (pc2 := 834) dL_law_833 rfl rfl rfl ?_
  refine pb_aload_n (pc2 := 835) dL_law_834 rfl rfl rfl ?_
  refine pb_iload_n (pc2 := 836) dL_law_835 rfl rfl rfl ?_
  refine pb_iconst (x := nI 1) (pc2 := 837) dL_law_836 (by decide) rfl ?_
  refine pb_iaddN (pc2 := 838) dL_law_837 rfl ?_
  refine pb_iaload (pc2 := 839) dL_law_838 ⟨by decide, rfl⟩ hs (by omega) (by omega) rfl ?_
  refine pb_aload_n (pc2 := 840) dL_law_839 rfl rfl rfl ?_
  refine pb_iload_n (pc2 := 841) dL_law_840 rfl rfl rfl ?_
  refine pb_iconst (x := nI 2) (pc2 := 842) dL_law_841 (by decide) rfl ?_
  refine pb_iaddN (pc2 := 843) dL_law_842 rfl ?_
  refine pb_iaload (pc2 := 844) dL_law_843 ⟨by decide, rfl⟩ hs (by omega) (by omega) rfl ?_
  refine pb_aload_n (pc2 := 845) dL_law_844 rfl rfl rfl ?_
  refine pb_iload_n (pc2 := 846) dL_law_845 rfl rfl rfl ?_
  refine pb_iconst (x := nI 3) (pc2 := 847) dL_law_846 (by decide) rfl ?_
  refine pb_iaddN (pc2 := 848) dL_law_847 rfl ?_
  refine pb_iaload (pc2 := 849) dL_law_848 ⟨by decide, rfl⟩ hs (by omega) (by omega) rfl ?_
  refine pb_callV (pc2 := 852) (k2 := K2) (n2 := N2) mwX11_back pb_cl9.1 iwX11_back seX11_back rfl mlL_85 dL_law_849 (by first | assumption | exact hR.a rfl | exact hR.o | exact hC.o | exact hC.pal | exact hC.tub | exact hC.k _ _ rfl | exact hC.pot _ (by omega) | exact hC.are _ (by omega) | exact hC.arl _ (by omega) | exact hC.tbo _ (by omega) (by omega)) (c_back w hC (xs (i + 1)) (xs (i + 2)) (xs (i + 3))) (by omega) (by omega) (by omega) rfl rfl (Nat.le_of_ble_eq_true rfl) rfl (fun v h1 q _ => ?_)
  obtain ⟨rfl, hC1⟩ := q
  obtain ⟨hR1, hs, hT1⟩ := hI.c hC1
  clear hR hC
  have hR := hR1
  refine pb_aload_n (pc2 := 853) dL_law_852 rfl rfl rfl ?_
  refine pb_aload_n (pc2 := 854) dL_law_853 rfl rfl rfl ?_
  refine pb_iload_n (pc2 := 855) dL_law_854 rfl rfl rfl ?_
  refine pb_iconst (x := nI 1) (pc2 := 856) dL_law_855 (by decide) rfl ?_
  refine pb_iaddN (pc2 := 857) dL_law_856 rfl ?_
  refine pb_iaload (pc2 := 858) dL_law_857 ⟨by decide, rfl⟩ hs (by omega) (by omega) rfl ?_
  refine pb_aload_n (pc2 := 859) dL_law_858 rfl rfl rfl ?_
  refine pb_iload_n (pc2 := 860) dL_law_859 rfl rfl rfl ?_
  refine pb_iconst (x := nI 2) (pc2 := 861) dL_law_860 (by decide) rfl ?_
  refine pb_iaddN (pc2 := 862) dL_law_861 rfl ?_
  refine pb_iaload (pc2 := 863) dL_law_862 ⟨by decide, rfl⟩ hs (by omega) (by omega) rfl ?_
  refine pb_aload_n (pc2 := 864) dL_law_863 rfl rfl rfl ?_
  refine pb_iload_n (pc2 := 865) dL_law_864 rfl rfl rfl ?_
  refine pb_iconst (x := nI 3) (pc2 := 866) dL_law_865 (by decide) rfl ?_
  refine pb_iaddN (pc2 := 867) dL_law_866 rfl ?_
  refine pb_iaload (pc2 := 868) dL_law_867 ⟨by decide, rfl⟩ hs (by omega) (by omega) rfl ?_
  refine pb_callV (pc2 := 871) (k2 := K2) (n2 := N2) mwX12_back pb_cl10.1 iwX12_back seX12_back rfl mlL_88 dL_law_868 (by first | assumption | exact hR.a rfl | exact hR.o | exact hC.o | exact hC.pal | exact hC.tub | exact hC.k _ _ rfl | exact hC.pot _ (by omega) | exact hC.are _ (by omega) | exact hC.arl _ (by omega) | exact hC.tbo _ (by omega) (by omega)) (r_back w hR1 (xs (i + 1)) (xs (i + 2)) (xs (i + 3))) (by omega) (by omega) (by omega) rfl rfl (Nat.le_of_ble_eq_true rfl) rfl (fun v h2 q _ => ?_)
  obtain ⟨rfl, hR2⟩ := q
  refine pb_icmp_eq (tgt := 1275) (pc2 := 874) dL_law_871 (by decide) rfl (fun _ => nx _ h2 (lw_I.n (wf_back w (xs (i + 1)) (xs (i + 2)) (xs (i + 3))) hC1 hs hT1 hR2)) (fun z => absurd rfl z)
set_option maxRecDepth 10000 in
theorem lc_look {L i K N K2 N2 : Nat} {xs : Nat → Int32} (hL : L ≤ 2560) (hi : i + 5 ≤ L) (hK : K2 + 7 ≤ K) (hN : N2 + 4096 ≤ N) (hI : lw_I A L xs h) (nx : ∀ A' h', lw_I A' L xs h' → pb_S Z pb_yL 100 K2 N2 (fun v _ => v = some (.int 1)) 1275 [some (.ref 0), some (.ref 60), some (.ref 20), some (.int (nI i))] [] h') : pb_S Z pb_yL 100 K N (fun v _ => v = some (.int 1)) 876 [some (.ref 0), some (.ref 60), some (.ref 20), some (.int (nI i))] [] h := by
  obtain ⟨w, hR, hC, hs, hT⟩ := id hI
  refine pb_aload_n (pc2 := 877) dL_law_876 rfl rfl rfl ?_
  refine pb_aload_n (pc2 := 878) dL_law_877 rfl rfl rfl ?_
  refine pb_iload_n (pc2 := 879) dL_law_878 rfl rfl rfl ?_
  refine pb_iconst (x := nI 1) (pc2 := 880) dL_law_879 (by decide) rfl ?_
  refine pb_iaddN (pc2 := 881) dL_law_880 rfl ?_
  refine pb_iaload (pc2 := 882) dL_law_881 ⟨by decide, rfl⟩ hs (by omega) (by omega) rfl ?_
  refine pb_aload_n (pc2 := 883) dL_law_882 rfl rfl rfl ?_
  refine pb_iload_n (pc2 := 884) dL_law_883 rfl rfl rfl ?_
  refine pb_iconst (x := nI 2) (pc2 := 885) dL_law_884 (by decide) rfl ?_
  refine pb_iaddN (pc2 := 886) dL_law_885 rfl ?_
  refine pb_iaload (pc2 := 887) dL_law_886 ⟨by decide, rfl⟩ hs (by omega) (by omega) rfl ?_
  refine pb_aload_n (pc2 := 888) dL_law_887 rfl rfl rfl ?_
  refine pb_iload_n (pc2 := 889) dL_law_888 rfl rfl rfl ?_
  refine pb_iconst (x := nI 3) (pc2 := 890) dL_law_889 (by decide) rfl ?_
  refine pb_iaddN (pc2 := 891) dL_law_890 rfl ?_
  refine pb_iaload (pc2 := 892) dL_law_891 ⟨by decide, rfl⟩ hs (by omega) (by omega) rfl ?_
  refine pb_callV (pc2 := 895) (k2 := K2) (n2 := N2) mwX11_look pb_cl9.1 iwX11_look seX11_look rfl mlL_89 dL_law_892 (by first | assumption | exact hR.a rfl | exact hR.o | exact hC.o | exact hC.pal | exact hC.tub | exact hC.k _ _ rfl | exact hC.pot _ (by omega) | exact hC.are _ (by omega) | exact hC.arl _ (by omega) | exact hC.tbo _ (by omega) (by omega)) (c_look w hC (xs (i + 1)) (xs (i + 2)) (xs (i + 3))) (by omega) (by omega) (by omega) rfl rfl (Nat.le_of_ble_eq_true rfl) rfl (fun v h1 q _ => ?_)
  obtain ⟨rfl, hC1⟩ := q
  obtain ⟨hR1, hs, hT1⟩ := hI.c hC1
  clear hR hC
  have hR := hR1
  refine pb_aload_n (pc2 := 896) dL_law_895 rfl rfl rfl ?_
  refine pb_aload_n (pc2 := 897) dL_law_896 rfl rfl rfl ?_
  refine pb_iload_n (pc2 := 898) dL_law_897 rfl rfl rfl ?_
  refine pb_iconst (x := nI 1) (pc2 := 899) dL_law_898 (by decide) rfl ?_
  refine pb_iaddN (pc2 := 900) dL_law_899 rfl ?_
  refine pb_iaload (pc2 := 901) dL_law_900 ⟨by decide, rfl⟩ hs (by omega) (by omega) rfl ?_
  refine pb_aload_n (pc2 := 902) dL_law_901 rfl rfl rfl ?_
  refine pb_iload_n (pc2 := 903) dL_law_902 rfl rfl rfl ?_
  refine pb_iconst (x := nI 2) (pc2 := 904) dL_law_903 (by decide) rfl ?_
  refine pb_iaddN (pc2 := 905) dL_law_904 rfl ?_
  refine pb_iaload (pc2 := 906) dL_law_905 ⟨by decide, rfl⟩ hs (by omega) (by omega) rfl ?_
  refine pb_aload_n (pc2 := 907) dL_law_906 rfl rfl rfl ?_
  refine pb_iload_n (pc2 := 908) dL_law_907 rfl rfl rfl ?_
  refine pb_iconst (x := nI 3) (pc2 := 909) dL_law_908 (by decide) rfl ?_
  refine pb_iaddN (pc2 := 910) dL_law_909 rfl ?_
  refine pb_iaload (pc2 := 911) dL_law_910 ⟨by decide, rfl⟩ hs (by omega) (by omega) rfl ?_
  refine pb_callV (pc2 := 914) (k2 := K2) (n2 := N2) mwX12_look pb_cl10.1 iwX12_look seX12_look rfl mlL_92 dL_law_911 (by first | assumption | exact hR.a rfl | exact hR.o | exact hC.o | exact hC.pal | exact hC.tub | exact hC.k _ _ rfl | exact hC.pot _ (by omega) | exact hC.are _ (by omega) | exact hC.arl _ (by omega) | exact hC.tbo _ (by omega) (by omega)) (r_look w hR1 (xs (i + 1)) (xs (i + 2)) (xs (i + 3))) (by omega) (by omega) (by omega) rfl rfl (Nat.le_of_ble_eq_true rfl) rfl (fun v h2 q _ => ?_)
  obtain ⟨rfl, hR2⟩ := q
  refine pb_icmp_eq (tgt := 1275) (pc2 := 917) dL_law_914 (by decide) rfl (fun _ => nx _ h2 (lw_I.n (wf_look w (xs (i + 1)) (xs (i + 2)) (xs (i + 3))) hC1 hs hT1 hR2)) (fun z => absurd rfl z)
set_option maxRecDepth 10000 in
theorem lc_missed {L i K N K2 N2 : Nat} {xs : Nat → Int32} (hL : L ≤ 2560) (hi : i + 5 ≤ L) (hK : K2 + 7 ≤ K) (hN : N2 + 4096 ≤ N) (hI : lw_I A L xs h) (nx : ∀ A' h', lw_I A' L xs h' → pb_S Z pb_yL 100 K2 N2 (fun v _ => v = some (.int 1)) 1275 [some (.ref 0), some (.ref 60), some (.ref 20), some (.int (nI i))] [] h') : pb_S Z pb_yL 100 K N (fun v _ => v = some (.int 1)) 919 [some (.ref 0), some (.ref 60), some (.ref 20), some (.int (nI i))] [] h := by
  obtain ⟨w, hR, hC, hs, hT⟩ := id hI
  refine pb_aload_n (pc2 := 920) dL_law_919 rfl rfl rfl ?_
  refine pb_aload_n (pc2 := 921) dL_law_920 rfl rfl rfl ?_
  refine pb_iload_n (pc2 := 922) dL_law_921 rfl rfl rfl ?_
  refine pb_iconst (x := nI 1) (pc2 := 923) dL_law_922 (by decide) rfl ?_
  refine pb_iaddN (pc2 := 924) dL_law_923 rfl ?_
  refine pb_iaload (pc2 := 925) dL_law_924 ⟨by decide, rfl⟩ hs (by omega) (by omega) rfl ?_
  refine pb_aload_n (pc2 := 926) dL_law_925 rfl rfl rfl ?_
  refine pb_iload_n (pc2 := 927) dL_law_926 rfl rfl rfl ?_
  refine pb_iconst (x := nI 2) (pc2 := 928) dL_law_927 (by decide) rfl ?_
  refine pb_iaddN (pc2 := 929) dL_law_928 rfl ?_
  refine pb_iaload (pc2 := 930) dL_law_929 ⟨by decide, rfl⟩ hs (by omega) (by omega) rfl ?_
  refine pb_aload_n (pc2 := 931) dL_law_930 rfl rfl rfl ?_
  refine pb_iload_n (pc2 := 932) dL_law_931 rfl rfl rfl ?_
  refine pb_iconst (x := nI 3) (pc2 := 933) dL_law_932 (by decide) rfl ?_
  refine pb_iaddN (pc2 := 934) dL_law_933 rfl ?_
  refine pb_iaload (pc2 := 935) dL_law_934 ⟨by decide, rfl⟩ hs (by omega) (by omega) rfl ?_
  refine pb_callV (pc2 := 938) (k2 := K2) (n2 := N2) mwX11_missed pb_cl9.1 iwX11_missed seX11_missed rfl mlL_93 dL_law_935 (by first | assumption | exact hR.a rfl | exact hR.o | exact hC.o | exact hC.pal | exact hC.tub | exact hC.k _ _ rfl | exact hC.pot _ (by omega) | exact hC.are _ (by omega) | exact hC.arl _ (by omega) | exact hC.tbo _ (by omega) (by omega)) (c_missed w hC (xs (i + 1)) (xs (i + 2)) (xs (i + 3))) (by omega) (by omega) (by omega) rfl rfl (Nat.le_of_ble_eq_true rfl) rfl (fun v h1 q _ => ?_)
  obtain ⟨rfl, hC1⟩ := q
  obtain ⟨hR1, hs, hT1⟩ := hI.c hC1
  clear hR hC
  have hR := hR1
  refine pb_aload_n (pc2 := 939) dL_law_938 rfl rfl rfl ?_
  refine pb_aload_n (pc2 := 940) dL_law_939 rfl rfl rfl ?_
  refine pb_iload_n (pc2 := 941) dL_law_940 rfl rfl rfl ?_
  refine pb_iconst (x := nI 1) (pc2 := 942) dL_law_941 (by decide) rfl ?_
  refine pb_iaddN (pc2 := 943) dL_law_942 rfl ?_
  refine pb_iaload (pc2 := 944) dL_law_943 ⟨by decide, rfl⟩ hs (by omega) (by omega) rfl ?_
  refine pb_aload_n (pc2 := 945) dL_law_944 rfl rfl rfl ?_
  refine pb_iload_n (pc2 := 946) dL_law_945 rfl rfl rfl ?_
  refine pb_iconst (x := nI 2) (pc2 := 947) dL_law_946 (by decide) rfl ?_
  refine pb_iaddN (pc2 := 948) dL_law_947 rfl ?_
  refine pb_iaload (pc2 := 949) dL_law_948 ⟨by decide, rfl⟩ hs (by omega) (by omega) rfl ?_
  refine pb_aload_n (pc2 := 950) dL_law_949 rfl rfl rfl ?_
  refine pb_iload_n (pc2 := 951) dL_law_950 rfl rfl rfl ?_
  refine pb_iconst (x := nI 3) (pc2 := 952) dL_law_951 (by decide) rfl ?_
  refine pb_iaddN (pc2 := 953) dL_law_952 rfl ?_
  refine pb_iaload (pc2 := 954) dL_law_953 ⟨by decide, rfl⟩ hs (by omega) (by omega) rfl ?_
  refine pb_callV (pc2 := 957) (k2 := K2) (n2 := N2) mwX12_missed pb_cl10.1 iwX12_missed seX12_missed rfl mlL_96 dL_law_954 (by first | assumption | exact hR.a rfl | exact hR.o | exact hC.o | exact hC.pal | exact hC.tub | exact hC.k _ _ rfl | exact hC.pot _ (by omega) | exact hC.are _ (by omega) | exact hC.arl _ (by omega) | exact hC.tbo _ (by omega) (by omega)) (r_missed w hR1 (xs (i + 1)) (xs (i + 2)) (xs (i + 3))) (by omega) (by omega) (by omega) rfl rfl (Nat.le_of_ble_eq_true rfl) rfl (fun v h2 q _ => ?_)
  obtain ⟨rfl, hR2⟩ := q
  refine pb_icmp_eq (tgt := 1275) (pc2 := 960) dL_law_957 (by decide) rfl (fun _ => nx _ h2 (lw_I.n (wf_missed w (xs (i + 1)) (xs (i + 2)) (xs (i + 3))) hC1 hs hT1 hR2)) (fun z => absurd rfl z)
set_option maxRecDepth 10000 in
theorem lc_tone {L i K N K2 N2 : Nat} {xs : Nat → Int32} (hL : L ≤ 2560) (hi : i + 5 ≤ L) (hK : K2 + 7 ≤ K) (hN : N2 + 4096 ≤ N) (hI : lw_I A L xs h) (nx : ∀ A' h', lw_I A' L xs h' → pb_S Z pb_yL 100 K2 N2 (fun v _ => v = some (.int 1)) 1275 [some (.ref 0), some (.ref 60), some (.ref 20), some (.int (nI i))] [] h') : pb_S Z pb_yL 100 K N (fun v _ => v = some (.int 1)) 962 [some (.ref 0), some (.ref 60), some (.ref 20), some (.int (nI i))] [] h := by
  obtain ⟨w, hR, hC, hs, hT⟩ := id hI
  refine pb_aload_n (pc2 := 963) dL_law_962 rfl rfl rfl ?_
  refine pb_aload_n (pc2 := 964) dL_law_963 rfl rfl rfl ?_
  refine pb_iload_n (pc2 := 965) dL_law_964 rfl rfl rfl ?_
  refine pb_iconst (x := nI 1) (pc2 := 966) dL_law_965 (by decide) rfl ?_
  refine pb_iaddN (pc2 := 967) dL_law_966 rfl ?_
  refine pb_iaload (pc2 := 968) dL_law_967 ⟨by decide, rfl⟩ hs (by omega) (by omega) rfl ?_
  refine pb_aload_n (pc2 := 969) dL_law_968 rfl rfl rfl ?_
  refine pb_iload_n (pc2 := 970) dL_law_969 rfl rfl rfl ?_
  refine pb_iconst (x := nI 2) (pc2 := 971) dL_law_970 (by decide) rfl ?_
  refine pb_iaddN (pc2 := 972) dL_law_971 rfl ?_
  refine pb_iaload (pc2 := 973) dL_law_972 ⟨by decide, rfl⟩ hs (by omega) (by omega) rfl ?_
  refine pb_aload_n (pc2 := 974) dL_law_973 rfl rfl rfl ?_
  refine pb_iload_n (pc2 := 975) dL_law_974 rfl rfl rfl ?_
  refine pb_iconst (x := nI 3) (pc2 := 976) dL_law_975 (by decide) rfl ?_
  refine pb_iaddN (pc2 := 977) dL_law_976 rfl ?_
  refine pb_iaload (pc2 := 978) dL_law_977 ⟨by decide, rfl⟩ hs (by omega) (by omega) rfl ?_
  refine pb_callV (pc2 := 981) (k2 := K2) (n2 := N2) mwX11_tone pb_cl9.1 iwX11_tone seX11_tone rfl mlL_97 dL_law_978 (by first | assumption | exact hR.a rfl | exact hR.o | exact hC.o | exact hC.pal | exact hC.tub | exact hC.k _ _ rfl | exact hC.pot _ (by omega) | exact hC.are _ (by omega) | exact hC.arl _ (by omega) | exact hC.tbo _ (by omega) (by omega)) (c_tone w hC (xs (i + 1)) (xs (i + 2)) (xs (i + 3))) (by omega) (by omega) (by omega) rfl rfl (Nat.le_of_ble_eq_true rfl) rfl (fun v h1 q _ => ?_)
  obtain ⟨rfl, hC1⟩ := q
  obtain ⟨hR1, hs, hT1⟩ := hI.c hC1
  clear hR hC
  have hR := hR1
  refine pb_aload_n (pc2 := 982) dL_law_981 rfl rfl rfl ?_
  refine pb_aload_n (pc2 := 983) dL_law_982 rfl rfl rfl ?_
  refine pb_iload_n (pc2 := 984) dL_law_983 rfl rfl rfl ?_
  refine pb_iconst (x := nI 1) (pc2 := 985) dL_law_984 (by decide) rfl ?_
  refine pb_iaddN (pc2 := 986) dL_law_985 rfl ?_
  refine pb_iaload (pc2 := 987) dL_law_986 ⟨by decide, rfl⟩ hs (by omega) (by omega) rfl ?_
  refine pb_aload_n (pc2 := 988) dL_law_987 rfl rfl rfl ?_
  refine pb_iload_n (pc2 := 989) dL_law_988 rfl rfl rfl ?_
  refine pb_iconst (x := nI 2) (pc2 := 990) dL_law_989 (by decide) rfl ?_
  refine pb_iaddN (pc2 := 991) dL_law_990 rfl ?_
  refine pb_iaload (pc2 := 992) dL_law_991 ⟨by decide, rfl⟩ hs (by omega) (by omega) rfl ?_
  refine pb_aload_n (pc2 := 993) dL_law_992 rfl rfl rfl ?_
  refine pb_iload_n (pc2 := 994) dL_law_993 rfl rfl rfl ?_
  refine pb_iconst (x := nI 3) (pc2 := 995) dL_law_994 (by decide) rfl ?_
  refine pb_iaddN (pc2 := 996) dL_law_995 rfl ?_
  refine pb_iaload (pc2 := 997) dL_law_996 ⟨by decide, rfl⟩ hs (by omega) (by omega) rfl ?_
  refine pb_callV (pc2 := 1000) (k2 := K2) (n2 := N2) mwX12_tone pb_cl10.1 iwX12_tone seX12_tone rfl mlL_100 dL_law_997 (by first | assumption | exact hR.a rfl | exact hR.o | exact hC.o | exact hC.pal | exact hC.tub | exact hC.k _ _ rfl | exact hC.pot _ (by omega) | exact hC.are _ (by omega) | exact hC.arl _ (by omega) | exact hC.tbo _ (by omega) (by omega)) (r_tone w hR1 (xs (i + 1)) (xs (i + 2)) (xs (i + 3))) (by omega) (by omega) (by omega) rfl rfl (Nat.le_of_ble_eq_true rfl) rfl (fun v h2 q _ => ?_)
  obtain ⟨rfl, hR2⟩ := q
  refine pb_icmp_eq (tgt := 1275) (pc2 := 1003) dL_law_1000 (by decide) rfl (fun _ => nx _ h2 (lw_I.n (wf_tone w (xs (i + 1)) (xs (i + 2)) (xs (i + 3))) hC1 hs hT1 hR2)) (fun z => absurd rfl z)
set_option maxRecDepth 10000 in
theorem lc_apart {L i K N K2 N2 : Nat} {xs : Nat → Int32} (hL : L ≤ 2560) (hi : i + 5 ≤ L) (hK : K2 + 7 ≤ K) (hN : N2 + 4096 ≤ N) (hI : lw_I A L xs h) (nx : ∀ A' h', lw_I A' L xs h' → pb_S Z pb_yL 100 K2 N2 (fun v _ => v = some (.int 1)) 1275 [some (.ref 0), some (.ref 60), some (.ref 20), some (.int (nI i))] [] h') : pb_S Z pb_yL 100 K N (fun v _ => v = some (.int 1)) 1005 [some (.ref 0), some (.ref 60), some (.ref 20), some (.int (nI i))] [] h := by
  obtain ⟨w, hR, hC, hs, hT⟩ := id hI
  refine pb_aload_n (pc2 := 1006) dL_law_1005 rfl rfl rfl ?_
  refine pb_aload_n (pc2 := 1007) dL_law_1006 rfl rfl rfl ?_
  refine pb_iload_n (pc2 := 1008) dL_law_1007 rfl rfl rfl ?_
  refine pb_iconst (x := nI 1) (pc2 := 1009) dL_law_1008 (by decide) rfl ?_
  refine pb_iaddN (pc2 := 1010) dL_law_1009 rfl ?_
  refine pb_iaload (pc2 := 1011) dL_law_1010 ⟨by decide, rfl⟩ hs (by omega) (by omega) rfl ?_
  refine pb_aload_n (pc2 := 1012) dL_law_1011 rfl rfl rfl ?_
  refine pb_iload_n (pc2 := 1013) dL_law_1012 rfl rfl rfl ?_
  refine pb_iconst (x := nI 2) (pc2 := 1014) dL_law_1013 (by decide) rfl ?_
  refine pb_iaddN (pc2 := 1015) dL_law_1014 rfl ?_
  refine pb_iaload (pc2 := 1016) dL_law_1015 ⟨by decide, rfl⟩ hs (by omega) (by omega) rfl ?_
  refine pb_callV (pc2 := 1019) (k2 := K2) (n2 := N2) mwX11_apart pb_cl9.1 iwX11_apart seX11_apart rfl mlL_101 dL_law_1016 (by first | assumption | exact hR.a rfl | exact hR.o | exact hC.o | exact hC.pal | exact hC.tub | exact hC.k _ _ rfl | exact hC.pot _ (by omega) | exact hC.are _ (by omega) | exact hC.arl _ (by omega) | exact hC.tbo _ (by omega) (by omega)) (c_apart w hC (xs (i + 1)) (xs (i + 2))) (by omega) (by omega) (by omega) rfl rfl (Nat.le_of_ble_eq_true rfl) rfl (fun v h1 q _ => ?_)
  obtain ⟨rfl, hC1⟩ := q
  obtain ⟨hR1, hs, hT1⟩ := hI.c hC1
  clear hR hC
  have hR := hR1
  refine pb_aload_n (pc2 := 1020) dL_law_1019 rfl rfl rfl ?_
  refine pb_aload_n (pc2 := 1021) dL_law_1020 rfl rfl rfl ?_
  refine pb_iload_n (pc2 := 1022) dL_law_1021 rfl rfl rfl ?_
  refine pb_iconst (x := nI 1) (pc2 := 1023) dL_law_1022 (by decide) rfl ?_
  refine pb_iaddN (pc2 := 1024) dL_law_1023 rfl ?_
  refine pb_iaload (pc2 := 1025) dL_law_1024 ⟨by decide, rfl⟩ hs (by omega) (by omega) rfl ?_
  refine pb_aload_n (pc2 := 1026) dL_law_1025 rfl rfl rfl ?_
  refine pb_iload_n (pc2 := 1027) dL_law_1026 rfl rfl rfl ?_
  refine pb_iconst (x := nI 2) (pc2 := 1028) dL_law_1027 (by decide) rfl ?_
  refine pb_iaddN (pc2 := 1029) dL_law_1028 rfl ?_
  refine pb_iaload (pc2 := 1030) dL_law_1029 ⟨by decide, rfl⟩ hs (by omega) (by omega) rfl ?_
  refine pb_callV (pc2 := 1033) (k2 := K2) (n2 := N2) mwX12_apart pb_cl10.1 iwX12_apart seX12_apart rfl mlL_104 dL_law_1030 (by first | assumption | exact hR.a rfl | exact hR.o | exact hC.o | exact hC.pal | exact hC.tub | exact hC.k _ _ rfl | exact hC.pot _ (by omega) | exact hC.are _ (by omega) | exact hC.arl _ (by omega) | exact hC.tbo _ (by omega) (by omega)) (r_apart w hR1 (xs (i + 1)) (xs (i + 2))) (by omega) (by omega) (by omega) rfl rfl (Nat.le_of_ble_eq_true rfl) rfl (fun v h2 q _ => ?_)
  obtain ⟨rfl, hR2⟩ := q
  refine pb_icmp_eq (tgt := 1275) (pc2 := 1036) dL_law_1033 (by decide) rfl (fun _ => nx _ h2 (lw_I.n (wf_apart w (xs (i + 1)) (xs (i + 2))) hC1 hs hT1 hR2)) (fun z => absurd rfl z)
set_option maxRecDepth 10000 in
theorem lc_match {L i K N K2 N2 : Nat} {xs : Nat → Int32} (hL : L ≤ 2560) (hi : i + 5 ≤ L) (hK : K2 + 7 ≤ K) (hN : N2 + 4096 ≤ N) (hI : lw_I A L xs h) (nx : ∀ A' h', lw_I A' L xs h' → pb_S Z pb_yL 100 K2 N2 (fun v _ => v = some (.int 1)) 1275 [some (.ref 0), some (.ref 60), some (.ref 20), some (.int (nI i))] [] h') : pb_S Z pb_yL 100 K N (fun v _ => v = some (.int 1)) 1038 [some (.ref 0), some (.ref 60), some (.ref 20), some (.int (nI i))] [] h := by
  obtain ⟨w, hR, hC, hs, hT⟩ := id hI
  refine pb_aload_n (pc2 := 1039) dL_law_1038 rfl rfl rfl ?_
  refine pb_aload_n (pc2 := 1040) dL_law_1039 rfl rfl rfl ?_
  refine pb_iload_n (pc2 := 1041) dL_law_1040 rfl rfl rfl ?_
  refine pb_iconst (x := nI 1) (pc2 := 1042) dL_law_1041 (by decide) rfl ?_
  refine pb_iaddN (pc2 := 1043) dL_law_1042 rfl ?_
  refine pb_iaload (pc2 := 1044) dL_law_1043 ⟨by decide, rfl⟩ hs (by omega) (by omega) rfl ?_
  refine pb_aload_n (pc2 := 1045) dL_law_1044 rfl rfl rfl ?_
  refine pb_iload_n (pc2 := 1046) dL_law_1045 rfl rfl rfl ?_
  refine pb_iconst (x := nI 2) (pc2 := 1047) dL_law_1046 (by decide) rfl ?_
  refine pb_iaddN (pc2 := 1048) dL_law_1047 rfl ?_
  refine pb_iaload (pc2 := 1049) dL_law_1048 ⟨by decide, rfl⟩ hs (by omega) (by omega) rfl ?_
  refine pb_aload_n (pc2 := 1050) dL_law_1049 rfl rfl rfl ?_
  refine pb_iload_n (pc2 := 1051) dL_law_1050 rfl rfl rfl ?_
  refine pb_iconst (x := nI 3) (pc2 := 1052) dL_law_1051 (by decide) rfl ?_
  refine pb_iaddN (pc2 := 1053) dL_law_1052 rfl ?_
  refine pb_iaload (pc2 := 1054) dL_law_1053 ⟨by decide, rfl⟩ hs (by omega) (by omega) rfl ?_
  refine pb_callV (pc2 := 1057) (k2 := K2) (n2 := N2) mwX11_match pb_cl9.1 iwX11_match seX11_match rfl mlL_105 dL_law_1054 (by first | assumption | exact hR.a rfl | exact hR.o | exact hC.o | exact hC.pal | exact hC.tub | exact hC.k _ _ rfl | exact hC.pot _ (by omega) | exact hC.are _ (by omega) | exact hC.arl _ (by omega) | exact hC.tbo _ (by omega) (by omega)) (c_match w hC (xs (i + 1)) (xs (i + 2)) (xs (i + 3))) (by omega) (by omega) (by omega) rfl rfl (Nat.le_of_ble_eq_true rfl) rfl (fun v h1 q _ => ?_)
  obtain ⟨rfl, hC1⟩ := q
  obtain ⟨hR1, hs, hT1⟩ := hI.c hC1
  clear hR hC
  have hR := hR1
  refine pb_aload_n (pc2 := 1058) dL_law_1057 rfl rfl rfl ?_
  refine pb_aload_n (pc2 := 1059) dL_law_1058 rfl rfl rfl ?_
  refine pb_iload_n (pc2 := 1060) dL_law_1059 rfl rfl rfl ?_
  refine pb_iconst (x := nI 1) (pc2 := 1061) dL_law_1060 (by decide) rfl ?_
  refine pb_iaddN (pc2 := 1062) dL_law_1061 rfl ?_
  refine pb_iaload (pc2 := 1063) dL_law_1062 ⟨by decide, rfl⟩ hs (by omega) (by omega) rfl ?_
  refine pb_aload_n (pc2 := 1064) dL_law_1063 rfl rfl rfl ?_
  refine pb_iload_n (pc2 := 1065) dL_law_1064 rfl rfl rfl ?_
  refine pb_iconst (x := nI 2) (pc2 := 1066) dL_law_1065 (by decide) rfl ?_
  refine pb_iaddN (pc2 := 1067) dL_law_1066 rfl ?_
  refine pb_iaload (pc2 := 1068) dL_law_1067 ⟨by decide, rfl⟩ hs (by omega) (by omega) rfl ?_
  refine pb_aload_n (pc2 := 1069) dL_law_1068 rfl rfl rfl ?_
  refine pb_iload_n (pc2 := 1070) dL_law_1069 rfl rfl rfl ?_
  refine pb_iconst (x := nI 3) (pc2 := 1071) dL_law_1070 (by decide) rfl ?_
  refine pb_iaddN (pc2 := 1072) dL_law_1071 rfl ?_
  refine pb_iaload (pc2 := 1073) dL_law_1072 ⟨by decide, rfl⟩ hs (by omega) (by omega) rfl ?_
  refine pb_callV (pc2 := 1076) (k2 := K2) (n2 := N2) mwX12_match pb_cl10.1 iwX12_match seX12_match rfl mlL_108 dL_law_1073 (by first | assumption | exact hR.a rfl | exact hR.o | exact hC.o | exact hC.pal | exact hC.tub | exact hC.k _ _ rfl | exact hC.pot _ (by omega) | exact hC.are _ (by omega) | exact hC.arl _ (by omega) | exact hC.tbo _ (by omega) (by omega)) (r_match w hR1 (xs (i + 1)) (xs (i + 2)) (xs (i + 3))) (by omega) (by omega) (by omega) rfl rfl (Nat.le_of_ble_eq_true rfl) rfl (fun v h2 q _ => ?_)
  obtain ⟨rfl, hR2⟩ := q
  refine pb_icmp_eq (tgt := 1275) (pc2 := 1079) dL_law_1076 (by decide) rfl (fun _ => nx _ h2 (lw_I.n (wf_match w (xs (i + 1)) (xs (i + 2)) (xs (i + 3))) hC1 hs hT1 hR2)) (fun z => absurd rfl z)
set_option maxRecDepth 10000 in
theorem lc_matched {L i K N K2 N2 : Nat} {xs : Nat → Int32} (hL : L ≤ 2560) (hi : i + 5 ≤ L) (hK : K2 + 7 ≤ K) (hN : N2 + 4096 ≤ N) (hI : lw_I A L xs h) (nx : ∀ A' h', lw_I A' L xs h' → pb_S Z pb_yL 100 K2 N2 (fun v _ => v = some (.int 1)) 1275 [some (.ref 0), some (.ref 60), some (.ref 20), some (.int (nI i))] [] h') : pb_S Z pb_yL 100 K N (fun v _ => v = some (.int 1)) 1081 [some (.ref 0), some (.ref 60), some (.ref 20), some (.int (nI i))] [] h := by
  obtain ⟨w, hR, hC, hs, hT⟩ := id hI
  refine pb_aload_n (pc2 := 1082) dL_law_1081 rfl rfl rfl ?_
  refine pb_aload_n (pc2 := 1083) dL_law_1082 rfl rfl rfl ?_
  refine pb_iload_n (pc2 := 1084) dL_law_1083 rfl rfl rfl ?_
  refine pb_iconst (x := nI 1) (pc2 := 1085) dL_law_1084 (by decide) rfl ?_
  refine pb_iaddN (pc2 := 1086) dL_law_1085 rfl ?_
  refine pb_iaload (pc2 := 1087) dL_law_1086 ⟨by decide, rfl⟩ hs (by omega) (by omega) rfl ?_
  refine pb_callV (pc2 := 1090) (k2 := K2) (n2 := N2) mwX11_matched pb_cl9.1 iwX11_matched seX11_matched rfl mlL_109 dL_law_1087 (by first | assumption | exact hR.a rfl | exact hR.o | exact hC.o | exact hC.pal | exact hC.tub | exact hC.k _ _ rfl | exact hC.pot _ (by omega) | exact hC.are _ (by omega) | exact hC.arl _ (by omega) | exact hC.tbo _ (by omega) (by omega)) (c_matched w hC (xs (i + 1))) (by omega) (by omega) (by omega) rfl rfl (Nat.le_of_ble_eq_true rfl) rfl (fun v h1 q _ => ?_)
  obtain ⟨rfl, hC1⟩ := q
  obtain ⟨hR1, hs, hT1⟩ := hI.c hC1
  clear hR hC
  have hR := hR1
  refine pb_aload_n (pc2 := 1091) dL_law_1090 rfl rfl rfl ?_
  refine pb_aload_n (pc2 := 1092) dL_law_1091 rfl rfl rfl ?_
  refine pb_iload_n (pc2 := 1093) dL_law_1092 rfl rfl rfl ?_
  refine pb_iconst (x := nI 1) (pc2 := 1094) dL_law_1093 (by decide) rfl ?_
  refine pb_iaddN (pc2 := 1095) dL_law_1094 rfl ?_
  refine pb_iaload (pc2 := 1096) dL_law_1095 ⟨by decide, rfl⟩ hs (by omega) (by omega) rfl ?_
  refine pb_callV (pc2 := 1099) (k2 := K2) (n2 := N2) mwX12_matched pb_cl10.1 iwX12_matched seX12_matched rfl mlL_112 dL_law_1096 (by first | assumption | exact hR.a rfl | exact hR.o | exact hC.o | exact hC.pal | exact hC.tub | exact hC.k _ _ rfl | exact hC.pot _ (by omega) | exact hC.are _ (by omega) | exact hC.arl _ (by omega) | exact hC.tbo _ (by omega) (by omega)) (r_matched w hR1 (xs (i + 1))) (by omega) (by omega) (by omega) rfl rfl (Nat.le_of_ble_eq_true rfl) rfl (fun v h2 q _ => ?_)
  obtain ⟨rfl, hR2⟩ := q
  refine pb_icmp_eq (tgt := 1275) (pc2 := 1102) dL_law_1099 (by decide) rfl (fun _ => nx _ h2 (lw_I.n (wf_matched w (xs (i + 1))) hC1 hs hT1 hR2)) (fun z => absurd rfl z)
set_option maxRecDepth 10000 in
theorem lc_price {L i K N K2 N2 : Nat} {xs : Nat → Int32} (hL : L ≤ 2560) (hi : i + 5 ≤ L) (hK : K2 + 7 ≤ K) (hN : N2 + 4096 ≤ N) (hI : lw_I A L xs h) (nx : ∀ A' h', lw_I A' L xs h' → pb_S Z pb_yL 100 K2 N2 (fun v _ => v = some (.int 1)) 1275 [some (.ref 0), some (.ref 60), some (.ref 20), some (.int (nI i))] [] h') : pb_S Z pb_yL 100 K N (fun v _ => v = some (.int 1)) 1104 [some (.ref 0), some (.ref 60), some (.ref 20), some (.int (nI i))] [] h := by
  obtain ⟨w, hR, hC, hs, hT⟩ := id hI
  refine pb_aload_n (pc2 := 1105) dL_law_1104 rfl rfl rfl ?_
  refine pb_callV (pc2 := 1108) (k2 := K2) (n2 := N2) mwX11_price pb_cl9.1 iwX11_price seX11_price rfl mlL_113 dL_law_1105 (by first | assumption | exact hR.a rfl | exact hR.o | exact hC.o | exact hC.pal | exact hC.tub | exact hC.k _ _ rfl | exact hC.pot _ (by omega) | exact hC.are _ (by omega) | exact hC.arl _ (by omega) | exact hC.tbo _ (by omega) (by omega)) (c_price w hC ) (by omega) (by omega) (by omega) rfl rfl (Nat.le_of_ble_eq_true rfl) rfl (fun v h1 q _ => ?_)
  obtain ⟨rfl, hC1⟩ := q
  obtain ⟨hR1, hs, hT1⟩ := hI.c hC1
  clear hR hC
  have hR := hR1
  refine pb_aload_n (pc2 := 1109) dL_law_1108 rfl rfl rfl ?_
  refine pb_callV (pc2 := 1112) (k2 := K2) (n2 := N2) mwX12_price pb_cl10.1 iwX12_price seX12_price rfl mlL_117 dL_law_1109 (by first | assumption | exact hR.a rfl | exact hR.o | exact hC.o | exact hC.pal | exact hC.tub | exact hC.k _ _ rfl | exact hC.pot _ (by omega) | exact hC.are _ (by omega) | exact hC.arl _ (by omega) | exact hC.tbo _ (by omega) (by omega)) (r_price w hR1 ) (by omega) (by omega) (by omega) rfl rfl (Nat.le_of_ble_eq_true rfl) rfl (fun v h2 q _ => ?_)
  obtain ⟨rfl, hR2⟩ := q
  refine pb_icmp_eq (tgt := 1275) (pc2 := 1115) dL_law_1112 (by decide) rfl (fun _ => nx _ h2 (lw_I.n (wf_price w ) hC1 hs hT1 hR2)) (fun z => absurd rfl z)
set_option maxRecDepth 10000 in
theorem lc_glaze {L i K N K2 N2 : Nat} {xs : Nat → Int32} (hL : L ≤ 2560) (hi : i + 5 ≤ L) (hK : K2 + 7 ≤ K) (hN : N2 + 4096 ≤ N) (hI : lw_I A L xs h) (nx : ∀ A' h', lw_I A' L xs h' → pb_S Z pb_yL 100 K2 N2 (fun v _ => v = some (.int 1)) 1275 [some (.ref 0), some (.ref 60), some (.ref 20), some (.int (nI i))] [] h') : pb_S Z pb_yL 100 K N (fun v _ => v = some (.int 1)) 1117 [some (.ref 0), some (.ref 60), some (.ref 20), some (.int (nI i))] [] h := by
  obtain ⟨w, hR, hC, hs, hT⟩ := id hI
  refine pb_aload_n (pc2 := 1118) dL_law_1117 rfl rfl rfl ?_
  refine pb_aload_n (pc2 := 1119) dL_law_1118 rfl rfl rfl ?_
  refine pb_iload_n (pc2 := 1120) dL_law_1119 rfl rfl rfl ?_
  refine pb_iconst (x := nI 1) (pc2 := 1121) dL_law_1120 (by decide) rfl ?_
  refine pb_iaddN (pc2 := 1122) dL_law_1121 rfl ?_
  refine pb_iaload (pc2 := 1123) dL_law_1122 ⟨by decide, rfl⟩ hs (by omega) (by omega) rfl ?_
  refine pb_aload_n (pc2 := 1124) dL_law_1123 rfl rfl rfl ?_
  refine pb_iload_n (pc2 := 1125) dL_law_1124 rfl rfl rfl ?_
  refine pb_iconst (x := nI 2) (pc2 := 1126) dL_law_1125 (by decide) rfl ?_
  refine pb_iaddN (pc2 := 1127) dL_law_1126 rfl ?_
  refine pb_iaload (pc2 := 1128) dL_law_1127 ⟨by decide, rfl⟩ hs (by omega) (by omega) rfl ?_
  refine pb_aload_n (pc2 := 1129) dL_law_1128 rfl rfl rfl ?_
  refine pb_iload_n (pc2 := 1130) dL_law_1129 rfl rfl rfl ?_
  refine pb_iconst (x := nI 3) (pc2 := 1131) dL_law_1130 (by decide) rfl ?_
  refine pb_iaddN (pc2 := 1132) dL_law_1131 rfl ?_
  refine pb_iaload (pc2 := 1133) dL_law_1132 ⟨by decide, rfl⟩ hs (by omega) (by omega) rfl ?_
  refine pb_callV (pc2 := 1136) (k2 := K2) (n2 := N2) mwX11_glaze pb_cl9.1 iwX11_glaze seX11_glaze rfl mlL_118 dL_law_1133 (by first | assumption | exact hR.a rfl | exact hR.o | exact hC.o | exact hC.pal | exact hC.tub | exact hC.k _ _ rfl | exact hC.pot _ (by omega) | exact hC.are _ (by omega) | exact hC.arl _ (by omega) | exact hC.tbo _ (by omega) (by omega)) (c_glaze w hC (xs (i + 1)) (xs (i + 2)) (xs (i + 3))) (by omega) (by omega) (by omega) rfl rfl (Nat.le_of_ble_eq_true rfl) rfl (fun v h1 q _ => ?_)
  obtain ⟨rfl, hC1⟩ := q
  obtain ⟨hR1, hs, hT1⟩ := hI.c hC1
  clear hR hC
  have hR := hR1
  refine pb_aload_n (pc2 := 1137) dL_law_1136 rfl rfl rfl ?_
  refine pb_aload_n (pc2 := 1138) dL_law_1137 rfl rfl rfl ?_
  refine pb_iload_n (pc2 := 1139) dL_law_1138 rfl rfl rfl ?_
  refine pb_iconst (x := nI 1) (pc2 := 1140) dL_law_1139 (by decide) rfl ?_
  refine pb_iaddN (pc2 := 1141) dL_law_1140 rfl ?_
  refine pb_iaload (pc2 := 1142) dL_law_1141 ⟨by decide, rfl⟩ hs (by omega) (by omega) rfl ?_
  refine pb_aload_n (pc2 := 1143) dL_law_1142 rfl rfl rfl ?_
  refine pb_iload_n (pc2 := 1144) dL_law_1143 rfl rfl rfl ?_
  refine pb_iconst (x := nI 2) (pc2 := 1145) dL_law_1144 (by decide) rfl ?_
  refine pb_iaddN (pc2 := 1146) dL_law_1145 rfl ?_
  refine pb_iaload (pc2 := 1147) dL_law_1146 ⟨by decide, rfl⟩ hs (by omega) (by omega) rfl ?_
  refine pb_aload_n (pc2 := 1148) dL_law_1147 rfl rfl rfl ?_
  refine pb_iload_n (pc2 := 1149) dL_law_1148 rfl rfl rfl ?_
  refine pb_iconst (x := nI 3) (pc2 := 1150) dL_law_1149 (by decide) rfl ?_
  refine pb_iaddN (pc2 := 1151) dL_law_1150 rfl ?_
  refine pb_iaload (pc2 := 1152) dL_law_1151 ⟨by decide, rfl⟩ hs (by omega) (by omega) rfl ?_
  refine pb_callV (pc2 := 1155) (k2 := K2) (n2 := N2) mwX12_glaze pb_cl10.1 iwX12_glaze seX12_glaze rfl mlL_121 dL_law_1152 (by first | assumption | exact hR.a rfl | exact hR.o | exact hC.o | exact hC.pal | exact hC.tub | exact hC.k _ _ rfl | exact hC.pot _ (by omega) | exact hC.are _ (by omega) | exact hC.arl _ (by omega) | exact hC.tbo _ (by omega) (by omega)) (r_glaze w hR1 hT1 (xs (i + 1)) (xs (i + 2)) (xs (i + 3))) (by omega) (by omega) (by omega) rfl rfl (Nat.le_of_ble_eq_true rfl) rfl (fun v h2 q _ => ?_)
  obtain ⟨rfl, hR2⟩ := q
  refine pb_icmp_eq (tgt := 1275) (pc2 := 1158) dL_law_1155 (by decide) rfl (fun _ => nx _ h2 (lw_I.n (wf_glaze w (xs (i + 1)) (xs (i + 2)) (xs (i + 3))) hC1 hs hT1 hR2)) (fun z => absurd rfl z)
set_option maxRecDepth 10000 in
theorem lc_glazed {L i K N K2 N2 : Nat} {xs : Nat → Int32} (hL : L ≤ 2560) (hi : i + 5 ≤ L) (hK : K2 + 7 ≤ K) (hN : N2 + 4096 ≤ N) (hI : lw_I A L xs h) (nx : ∀ A' h', lw_I A' L xs h' → pb_S Z pb_yL 100 K2 N2 (fun v _ => v = some (.int 1)) 1275 [some (.ref 0), some (.ref 60), some (.ref 20), some (.int (nI i))] [] h') : pb_S Z pb_yL 100 K N (fun v _ => v = some (.int 1)) 1160 [some (.ref 0), some (.ref 60), some (.ref 20), some (.int (nI i))] [] h := by
  obtain ⟨w, hR, hC, hs, hT⟩ := id hI
  refine pb_aload_n (pc2 := 1161) dL_law_1160 rfl rfl rfl ?_
  refine pb_aload_n (pc2 := 1162) dL_law_1161 rfl rfl rfl ?_
  refine pb_iload_n (pc2 := 1163) dL_law_1162 rfl rfl rfl ?_
  refine pb_iconst (x := nI 1) (pc2 := 1164) dL_law_1163 (by decide) rfl ?_
  refine pb_iaddN (pc2 := 1165) dL_law_1164 rfl ?_
  refine pb_iaload (pc2 := 1166) dL_law_1165 ⟨by decide, rfl⟩ hs (by omega) (by omega) rfl ?_
  refine pb_callV (pc2 := 1169) (k2 := K2) (n2 := N2) mwX11_glazed pb_cl9.1 iwX11_glazed seX11_glazed rfl mlL_122 dL_law_1166 (by first | assumption | exact hR.a rfl | exact hR.o | exact hC.o | exact hC.pal | exact hC.tub | exact hC.k _ _ rfl | exact hC.pot _ (by omega) | exact hC.are _ (by omega) | exact hC.arl _ (by omega) | exact hC.tbo _ (by omega) (by omega)) (c_glazed w hC (xs (i + 1))) (by omega) (by omega) (by omega) rfl rfl (Nat.le_of_ble_eq_true rfl) rfl (fun v h1 q _ => ?_)
  obtain ⟨rfl, hC1⟩ := q
  obtain ⟨hR1, hs, hT1⟩ := hI.c hC1
  clear hR hC
  have hR := hR1
  refine pb_aload_n (pc2 := 1170) dL_law_1169 rfl rfl rfl ?_
  refine pb_aload_n (pc2 := 1171) dL_law_1170 rfl rfl rfl ?_
  refine pb_iload_n (pc2 := 1172) dL_law_1171 rfl rfl rfl ?_
  refine pb_iconst (x := nI 1) (pc2 := 1173) dL_law_1172 (by decide) rfl ?_
  refine pb_iaddN (pc2 := 1174) dL_law_1173 rfl ?_
  refine pb_iaload (pc2 := 1175) dL_law_1174 ⟨by decide, rfl⟩ hs (by omega) (by omega) rfl ?_
  refine pb_callV (pc2 := 1178) (k2 := K2) (n2 := N2) mwX12_glazed pb_cl10.1 iwX12_glazed seX12_glazed rfl mlL_125 dL_law_1175 (by first | assumption | exact hR.a rfl | exact hR.o | exact hC.o | exact hC.pal | exact hC.tub | exact hC.k _ _ rfl | exact hC.pot _ (by omega) | exact hC.are _ (by omega) | exact hC.arl _ (by omega) | exact hC.tbo _ (by omega) (by omega)) (r_glazed w hR1 (xs (i + 1))) (by omega) (by omega) (by omega) rfl rfl (Nat.le_of_ble_eq_true rfl) rfl (fun v h2 q _ => ?_)
  obtain ⟨rfl, hR2⟩ := q
  refine pb_icmp_eq (tgt := 1275) (pc2 := 1181) dL_law_1178 (by decide) rfl (fun _ => nx _ h2 (lw_I.n (wf_glazed w (xs (i + 1))) hC1 hs hT1 hR2)) (fun z => absurd rfl z)
set_option maxRecDepth 10000 in
theorem lc_keep {L i K N K2 N2 : Nat} {xs : Nat → Int32} (hL : L ≤ 2560) (hi : i + 5 ≤ L) (hK : K2 + 7 ≤ K) (hN : N2 + 4096 ≤ N) (hI : lw_I A L xs h) (nx : ∀ A' h', lw_I A' L xs h' → pb_S Z pb_yL 100 K2 N2 (fun v _ => v = some (.int 1)) 1275 [some (.ref 0), some (.ref 60), some (.ref 20), some (.int (nI i))] [] h') : pb_S Z pb_yL 100 K N (fun v _ => v = some (.int 1)) 1183 [some (.ref 0), some (.ref 60), some (.ref 20), some (.int (nI i))] [] h := by
  obtain ⟨w, hR, hC, hs, hT⟩ := id hI
  refine pb_aload_n (pc2 := 1184) dL_law_1183 rfl rfl rfl ?_
  refine pb_callV (pc2 := 1187) (k2 := K2) (n2 := N2) mwX11_keep pb_cl9.1 iwX11_keep seX11_keep rfl mlL_126 dL_law_1184 (by first | assumption | exact hR.a rfl | exact hR.o | exact hC.o | exact hC.pal | exact hC.tub | exact hC.k _ _ rfl | exact hC.pot _ (by omega) | exact hC.are _ (by omega) | exact hC.arl _ (by omega) | exact hC.tbo _ (by omega) (by omega)) (c_keep w hC ) (by omega) (by omega) (by omega) rfl rfl (Nat.le_of_ble_eq_true rfl) rfl (fun v h1 q _ => ?_)
  obtain ⟨rfl, hC1⟩ := q
  obtain ⟨hR1, hs, hT1⟩ := hI.c hC1
  clear hR hC
  have hR := hR1
  refine pb_aload_n (pc2 := 1188) dL_law_1187 rfl rfl rfl ?_
  refine pb_callV (pc2 := 1191) (k2 := K2) (n2 := N2) mwX12_keep pb_cl10.1 iwX12_keep seX12_keep rfl mlL_129 dL_law_1188 (by first | assumption | exact hR.a rfl | exact hR.o | exact hC.o | exact hC.pal | exact hC.tub | exact hC.k _ _ rfl | exact hC.pot _ (by omega) | exact hC.are _ (by omega) | exact hC.arl _ (by omega) | exact hC.tbo _ (by omega) (by omega)) (r_keep w hR1 ) (by omega) (by omega) (by omega) rfl rfl (Nat.le_of_ble_eq_true rfl) rfl (fun v h2 q _ => ?_)
  obtain ⟨rfl, hR2⟩ := q
  refine pb_icmp_eq (tgt := 1275) (pc2 := 1194) dL_law_1191 (by decide) rfl (fun _ => nx _ h2 (lw_I.n (wf_keep w ) hC1 hs hT1 hR2)) (fun z => absurd rfl z)
set_option maxRecDepth 10000 in
theorem lc_clear {L i K N K2 N2 : Nat} {xs : Nat → Int32} (hL : L ≤ 2560) (hi : i + 5 ≤ L) (hK : K2 + 7 ≤ K) (hN : N2 + 4096 ≤ N) (hI : lw_I A L xs h) (nx : ∀ A' h', lw_I A' L xs h' → pb_S Z pb_yL 100 K2 N2 (fun v _ => v = some (.int 1)) 1275 [some (.ref 0), some (.ref 60), some (.ref 20), some (.int (nI i))] [] h') : pb_S Z pb_yL 100 K N (fun v _ => v = some (.int 1)) 1196 [some (.ref 0), some (.ref 60), some (.ref 20), some (.int (nI i))] [] h := by
  obtain ⟨w, hR, hC, hs, hT⟩ := id hI
  refine pb_aload_n (pc2 := 1197) dL_law_1196 rfl rfl rfl ?_
  refine pb_callV (pc2 := 1200) (k2 := K2) (n2 := N2) mwX11_clear pb_cl9.1 iwX11_clear seX11_clear rfl mlL_130 dL_law_1197 (by first | assumption | exact hR.a rfl | exact hR.o | exact hC.o | exact hC.pal | exact hC.tub | exact hC.k _ _ rfl | exact hC.pot _ (by omega) | exact hC.are _ (by omega) | exact hC.arl _ (by omega) | exact hC.tbo _ (by omega) (by omega)) (c_clear w hC ) (by omega) (by omega) (by omega) rfl rfl (Nat.le_of_ble_eq_true rfl) rfl (fun v h1 q _ => ?_)
  obtain ⟨rfl, hC1⟩ := q
  obtain ⟨hR1, hs, hT1⟩ := hI.c hC1
  clear hR hC
  have hR := hR1
  refine pb_aload_n (pc2 := 1201) dL_law_1200 rfl rfl rfl ?_
  refine pb_callV (pc2 := 1204) (k2 := K2) (n2 := N2) mwX12_clear pb_cl10.1 iwX12_clear seX12_clear rfl mlL_133 dL_law_1201 (by first | assumption | exact hR.a rfl | exact hR.o | exact hC.o | exact hC.pal | exact hC.tub | exact hC.k _ _ rfl | exact hC.pot _ (by omega) | exact hC.are _ (by omega) | exact hC.arl _ (by omega) | exact hC.tbo _ (by omega) (by omega)) (r_clear w hR1 ) (by omega) (by omega) (by omega) rfl rfl (Nat.le_of_ble_eq_true rfl) rfl (fun v h2 q _ => ?_)
  obtain ⟨rfl, hR2⟩ := q
  refine pb_icmp_eq (tgt := 1275) (pc2 := 1207) dL_law_1204 (by decide) rfl (fun _ => nx _ h2 (lw_I.n (wf_clear w ) hC1 hs hT1 hR2)) (fun z => absurd rfl z)
set_option maxRecDepth 10000 in
theorem lc_fewest {L i K N K2 N2 : Nat} {xs : Nat → Int32} (hL : L ≤ 2560) (hi : i + 5 ≤ L) (hK : K2 + 7 ≤ K) (hN : N2 + 4096 ≤ N) (hI : lw_I A L xs h) (nx : ∀ A' h', lw_I A' L xs h' → pb_S Z pb_yL 100 K2 N2 (fun v _ => v = some (.int 1)) 1275 [some (.ref 0), some (.ref 60), some (.ref 20), some (.int (nI i))] [] h') : pb_S Z pb_yL 100 K N (fun v _ => v = some (.int 1)) 1209 [some (.ref 0), some (.ref 60), some (.ref 20), some (.int (nI i))] [] h := by
  obtain ⟨w, hR, hC, hs, hT⟩ := id hI
  refine pb_aload_n (pc2 := 1210) dL_law_1209 rfl rfl rfl ?_
  refine pb_aload_n (pc2 := 1211) dL_law_1210 rfl rfl rfl ?_
  refine pb_iload_n (pc2 := 1212) dL_law_1211 rfl rfl rfl ?_
  refine pb_iconst (x := nI 1) (pc2 := 1213) dL_law_1212 (by decide) rfl ?_
  refine pb_iaddN (pc2 := 1214) dL_law_1213 rfl ?_
  refine pb_iaload (pc2 := 1215) dL_law_1214 ⟨by decide, rfl⟩ hs (by omega) (by omega) rfl ?_
  refine pb_aload_n (pc2 := 1216) dL_law_1215 rfl rfl rfl ?_
  refine pb_iload_n (pc2 := 1217) dL_law_1216 rfl rfl rfl ?_
  refine pb_iconst (x := nI 2) (pc2 := 1218) dL_law_1217 (by decide) rfl ?_
  refine pb_iaddN (pc2 := 1219) dL_law_1218 rfl ?_
  refine pb_iaload (pc2 := 1220) dL_law_1219 ⟨by decide, rfl⟩ hs (by omega) (by omega) rfl ?_
  refine pb_aload_n (pc2 := 1221) dL_law_1220 rfl rfl rfl ?_
  refine pb_iload_n (pc2 := 1222) dL_law_1221 rfl rfl rfl ?_
  refine pb_iconst (x := nI 3) (pc2 := 1223) dL_law_1222 (by decide) rfl ?_
  refine pb_iaddN (pc2 := 1224) dL_law_1223 rfl ?_
  refine pb_iaload (pc2 := 1225) dL_law_1224 ⟨by decide, rfl⟩ hs (by omega) (by omega) rfl ?_
  refine pb_callV (pc2 := 1228) (k2 := K2) (n2 := N2) mwX11_fewest pb_cl9.1 iwX11_fewest seX11_fewest rfl mlL_134 dL_law_1225 (by first | assumption | exact hR.a rfl | exact hR.o | exact hC.o | exact hC.pal | exact hC.tub | exact hC.k _ _ rfl | exact hC.pot _ (by omega) | exact hC.are _ (by omega) | exact hC.arl _ (by omega) | exact hC.tbo _ (by omega) (by omega)) (c_fewest w hC (xs (i + 1)) (xs (i + 2)) (xs (i + 3))) (by omega) (by omega) (by omega) rfl rfl (Nat.le_of_ble_eq_true rfl) rfl (fun v h1 q _ => ?_)
  obtain ⟨rfl, hC1⟩ := q
  obtain ⟨hR1, hs, hT1⟩ := hI.c hC1
  clear hR hC
  have hR := hR1
  refine pb_aload_n (pc2 := 1229) dL_law_1228 rfl rfl rfl ?_
  refine pb_aload_n (pc2 := 1230) dL_law_1229 rfl rfl rfl ?_
  refine pb_iload_n (pc2 := 1231) dL_law_1230 rfl rfl rfl ?_
  refine pb_iconst (x := nI 1) (pc2 := 1232) dL_law_1231 (by decide) rfl ?_
  refine pb_iaddN (pc2 := 1233) dL_law_1232 rfl ?_
  refine pb_iaload (pc2 := 1234) dL_law_1233 ⟨by decide, rfl⟩ hs (by omega) (by omega) rfl ?_
  refine pb_aload_n (pc2 := 1235) dL_law_1234 rfl rfl rfl ?_
  refine pb_iload_n (pc2 := 1236) dL_law_1235 rfl rfl rfl ?_
  refine pb_iconst (x := nI 2) (pc2 := 1237) dL_law_1236 (by decide) rfl ?_
  refine pb_iaddN (pc2 := 1238) dL_law_1237 rfl ?_
  refine pb_iaload (pc2 := 1239) dL_law_1238 ⟨by decide, rfl⟩ hs (by omega) (by omega) rfl ?_
  refine pb_aload_n (pc2 := 1240) dL_law_1239 rfl rfl rfl ?_
  refine pb_iload_n (pc2 := 1241) dL_law_1240 rfl rfl rfl ?_
  refine pb_iconst (x := nI 3) (pc2 := 1242) dL_law_1241 (by decide) rfl ?_
  refine pb_iaddN (pc2 := 1243) dL_law_1242 rfl ?_
  refine pb_iaload (pc2 := 1244) dL_law_1243 ⟨by decide, rfl⟩ hs (by omega) (by omega) rfl ?_
  refine pb_callV (pc2 := 1247) (k2 := K2) (n2 := N2) mwX12_fewest pb_cl10.1 iwX12_fewest seX12_fewest rfl mlL_137 dL_law_1244 (by first | assumption | exact hR.a rfl | exact hR.o | exact hC.o | exact hC.pal | exact hC.tub | exact hC.k _ _ rfl | exact hC.pot _ (by omega) | exact hC.are _ (by omega) | exact hC.arl _ (by omega) | exact hC.tbo _ (by omega) (by omega)) (r_fewest w hR1 (xs (i + 1)) (xs (i + 2)) (xs (i + 3))) (by omega) (by omega) (by omega) rfl rfl (Nat.le_of_ble_eq_true rfl) rfl (fun v h2 q _ => ?_)
  obtain ⟨rfl, hR2⟩ := q
  refine pb_icmp_eq (tgt := 1275) (pc2 := 1250) dL_law_1247 (by decide) rfl (fun _ => nx _ h2 (lw_I.n (wf_fewest w (xs (i + 1)) (xs (i + 2)) (xs (i + 3))) hC1 hs hT1 hR2)) (fun z => absurd rfl z)
set_option maxRecDepth 10000 in
theorem lc_count {L i K N K2 N2 : Nat} {xs : Nat → Int32} (hL : L ≤ 2560) (hi : i + 5 ≤ L) (hK : K2 + 7 ≤ K) (hN : N2 + 4096 ≤ N) (hI : lw_I A L xs h) (nx : ∀ A' h', lw_I A' L xs h' → pb_S Z pb_yL 100 K2 N2 (fun v _ => v = some (.int 1)) 1275 [some (.ref 0), some (.ref 60), some (.ref 20), some (.int (nI i))] [] h') : pb_S Z pb_yL 100 K N (fun v _ => v = some (.int 1)) 1252 [some (.ref 0), some (.ref 60), some (.ref 20), some (.int (nI i))] [] h := by
  obtain ⟨w, hR, hC, hs, hT⟩ := id hI
  refine pb_aload_n (pc2 := 1253) dL_law_1252 rfl rfl rfl ?_
  refine pb_aload_n (pc2 := 1254) dL_law_1253 rfl rfl rfl ?_
  refine pb_iload_n (pc2 := 1255) dL_law_1254 rfl rfl rfl ?_
  refine pb_iconst (x := nI 1) (pc2 := 1256) dL_law_1255 (by decide) rfl ?_
  refine pb_iaddN (pc2 := 1257) dL_law_1256 rfl ?_
  refine pb_iaload (pc2 := 1258) dL_law_1257 ⟨by decide, rfl⟩ hs (by omega) (by omega) rfl ?_
  refine pb_callV (pc2 := 1261) (k2 := K2) (n2 := N2) mwX11_count pb_cl9.1 iwX11_count seX11_count rfl mlL_138 dL_law_1258 (by first | assumption | exact hR.a rfl | exact hR.o | exact hC.o | exact hC.pal | exact hC.tub | exact hC.k _ _ rfl | exact hC.pot _ (by omega) | exact hC.are _ (by omega) | exact hC.arl _ (by omega) | exact hC.tbo _ (by omega) (by omega)) (c_count w hC (xs (i + 1))) (by omega) (by omega) (by omega) rfl rfl (Nat.le_of_ble_eq_true rfl) rfl (fun v h1 q _ => ?_)
  obtain ⟨rfl, hC1⟩ := q
  obtain ⟨hR1, hs, hT1⟩ := hI.c hC1
  clear hR hC
  have hR := hR1
  refine pb_aload_n (pc2 := 1262) dL_law_1261 rfl rfl rfl ?_
  refine pb_aload_n (pc2 := 1263) dL_law_1262 rfl rfl rfl ?_
  refine pb_iload_n (pc2 := 1264) dL_law_1263 rfl rfl rfl ?_
  refine pb_iconst (x := nI 1) (pc2 := 1265) dL_law_1264 (by decide) rfl ?_
  refine pb_iaddN (pc2 := 1266) dL_law_1265 rfl ?_
  refine pb_iaload (pc2 := 1267) dL_law_1266 ⟨by decide, rfl⟩ hs (by omega) (by omega) rfl ?_
  refine pb_callV (pc2 := 1270) (k2 := K2) (n2 := N2) mwX12_count pb_cl10.1 iwX12_count seX12_count rfl mlL_141 dL_law_1267 (by first | assumption | exact hR.a rfl | exact hR.o | exact hC.o | exact hC.pal | exact hC.tub | exact hC.k _ _ rfl | exact hC.pot _ (by omega) | exact hC.are _ (by omega) | exact hC.arl _ (by omega) | exact hC.tbo _ (by omega) (by omega)) (r_count w hR1 (xs (i + 1))) (by omega) (by omega) (by omega) rfl rfl (Nat.le_of_ble_eq_true rfl) rfl (fun v h2 q _ => ?_)
  obtain ⟨rfl, hR2⟩ := q
  refine pb_icmp_eq (tgt := 1275) (pc2 := 1273) dL_law_1270 (by decide) rfl (fun _ => nx _ h2 (lw_I.n (wf_count w (xs (i + 1))) hC1 hs hT1 hR2)) (fun z => absurd rfl z)
set_option maxRecDepth 10000 in
theorem law_ok (Z : pb_Z) {L : Nat} {xs : Nat → Int32} (hL : L ≤ 2560) : pb_S Z pb_yL 100 600000 7302250 (fun v _ => v = some (.int 1)) 0 [some (.ref 0), none, none, none] [] (pb_h0 L xs) := by
  have hfree : ∀ x, 2 ≤ x → pb_h0 L xs x = none := fun x hx => by
    unfold pb_h0
    rw [if_neg (by omega), if_neg (by omega)]
  have loop : ∀ (q i : Nat) (A : pb_A) (h : pb_H), L - i < q → i ≤ L → (i = 0 ∨ 5 ≤ L) → lw_I A L xs h → pb_S Z pb_yL 100 (7 * ((L - i) / 5)) (4096 * ((L - i) / 5)) (fun v _ => v = some (.int 1)) 18 [some (.ref 0), some (.ref 60), some (.ref 20), some (.int (nI i))] [] h := by
    intro q
    induction q with
    | zero => intro i A h g1; omega
    | succ q ih =>
      intro i A h g1 g2 g3 hI
      have hs := hI.2.2.2.1
      have done : ∀ h', pb_S Z pb_yL 100 (7 * ((L - i) / 5)) (4096 * ((L - i) / 5)) (fun v _ => v = some (.int 1)) 1281 [some (.ref 0), some (.ref 60), some (.ref 20), some (.int (nI i))] [] h' := fun h' => by
        refine pb_iconst (x := 1) (pc2 := 1282) dL_law_1281 (by decide) rfl ?_
        exact pb_zreturn dL_law_1282 rfl (by first | exact Or.inl rfl | exact Or.inr rfl | assumption) (rfl)
      refine pb_iload_n (pc2 := 19) dL_law_18 rfl rfl rfl ?_
      refine pb_aload_n (pc2 := 20) dL_law_19 rfl rfl rfl ?_
      refine pb_alenC (pc2 := 21) (by first | assumption | exact hR.a rfl | exact hR.o | exact hC.o | exact hC.pal | exact hC.tub | exact hC.k _ _ rfl | exact hC.pot _ (by omega) | exact hC.are _ (by omega) | exact hC.arl _ (by omega) | exact hC.tbo _ (by omega) (by omega)) dL_law_20 (by decide) rfl ?_
      refine pb_iconst (x := nI 5) (pc2 := 22) dL_law_21 (by decide) rfl ?_
      by_cases c5 : 5 ≤ L
      · refine pb_isubN (pc2 := 23) dL_law_22 c5 rfl ?_
        refine pb_icmpN_gt (tgt := 1281) (pc2 := 26) dL_law_23 (by decide) rfl (by omega) (by omega) (fun c => ?_) (fun c => ?_)
        · exact done h
        · have nx : ∀ A' h', lw_I A' L xs h' → pb_S Z pb_yL 100 (7 * ((L - (i + 5)) / 5)) (4096 * ((L - (i + 5)) / 5)) (fun v _ => v = some (.int 1)) 1275 [some (.ref 0), some (.ref 60), some (.ref 20), some (.int (nI i))] [] h' := fun A' h' hI' => by
            refine pb_iincP (c0 := 5) (lv2 := [_, _, _, _]) (pc2 := 1278) dL_law_1275 rfl (by decide) rfl rfl ?_
            refine pb_goto (tgt := 18) dL_law_1278 (by decide) ?_
            exact ih (i + 5) A' h' (by omega) (by omega) (Or.inr c5) hI'
          have hK : 7 * ((L - (i + 5)) / 5) + 7 ≤ 7 * ((L - i) / 5) := by omega
          have hN : 4096 * ((L - (i + 5)) / 5) + 4096 ≤ 4096 * ((L - i) / 5) := by omega
          have hi : i + 5 ≤ L := by omega
          obtain ⟨k, hk, ek⟩ := lw_31 (xs i)
          refine pb_aload_n (pc2 := 27) dL_law_26 rfl rfl rfl ?_
          refine pb_iload_n (pc2 := 28) dL_law_27 rfl rfl rfl ?_
          refine pb_iaload (pc2 := 29) dL_law_28 ⟨by decide, rfl⟩ hs (by omega) (by omega) rfl ?_
          refine pb_bipush (x := nI 31) (pc2 := 31) dL_law_29 (by decide) rfl ?_
          refine pb_iand (pc2 := 32) dL_law_31 rfl ?_
          refine pb_top (v2 := .int (nI k)) (by rw [ek]) ?_
          rcases (show k = 0 ∨ k = 1 ∨ k = 2 ∨ k = 3 ∨ k = 4 ∨ k = 5 ∨ k = 6 ∨ k = 7 ∨ k = 8 ∨ k = 9 ∨ k = 10 ∨ k = 11 ∨ k = 12 ∨ k = 13 ∨ k = 14 ∨ k = 15 ∨ k = 16 ∨ k = 17 ∨ k = 18 ∨ k = 19 ∨ k = 20 ∨ k = 21 ∨ k = 22 ∨ k = 23 ∨ k = 24 ∨ k = 25 ∨ k = 26 ∨ k = 27 ∨ k = 28 ∨ k = 29 ∨ k = 30 ∨ k = 31 by omega) with rfl | rfl | rfl | rfl | rfl | rfl | rfl | rfl | rfl | rfl | rfl | rfl | rfl | rfl | rfl | rfl | rfl | rfl | rfl | rfl | rfl | rfl | rfl | rfl | rfl | rfl | rfl | rfl | rfl | rfl | rfl | rfl
          · refine pb_swIn (off := 140) (tgt := 172) dL_law_32 (by decide) (by decide) rfl (by decide) ?_
            exact lc_tube hL hi hK hN hI nx
          · refine pb_swIn (off := 183) (tgt := 215) dL_law_32 (by decide) (by decide) rfl (by decide) ?_
            exact lc_band hL hi hK hN hI nx
          · refine pb_swIn (off := 236) (tgt := 268) dL_law_32 (by decide) (by decide) rfl (by decide) ?_
            exact lc_ofTube hL hi hK hN hI nx
          · refine pb_swIn (off := 269) (tgt := 301) dL_law_32 (by decide) (by decide) rfl (by decide) ?_
            exact lc_row hL hi hK hN hI nx
          · refine pb_swIn (off := 322) (tgt := 354) dL_law_32 (by decide) (by decide) rfl (by decide) ?_
            exact lc_lamp hL hi hK hN hI nx
          · refine pb_swIn (off := 365) (tgt := 397) dL_law_32 (by decide) (by decide) rfl (by decide) ?_
            exact lc_eye hL hi hK hN hI nx
          · refine pb_swIn (off := 408) (tgt := 440) dL_law_32 (by decide) (by decide) rfl (by decide) ?_
            exact lc_years hL hi hK hN hI nx
          · refine pb_swIn (off := 431) (tgt := 463) dL_law_32 (by decide) (by decide) rfl (by decide) ?_
            exact lc_press hL hi hK hN hI nx
          · refine pb_swIn (off := 474) (tgt := 506) dL_law_32 (by decide) (by decide) rfl (by decide) ?_
            exact lc_pour hL hi hK hN hI nx
          · refine pb_swIn (off := 507) (tgt := 539) dL_law_32 (by decide) (by decide) rfl (by decide) ?_
            exact lc_waste hL hi hK hN hI nx
          · refine pb_swIn (off := 530) (tgt := 562) dL_law_32 (by decide) (by decide) rfl (by decide) ?_
            exact lc_drops hL hi hK hN hI nx
          · refine pb_swIn (off := 563) (tgt := 595) dL_law_32 (by decide) (by decide) rfl (by decide) ?_
            exact lc_thick hL hi hK hN hI nx
          · refine pb_swIn (off := 596) (tgt := 628) dL_law_32 (by decide) (by decide) rfl (by decide) ?_
            exact lc_seen hL hi hK hN hI nx
          · refine pb_swIn (off := 639) (tgt := 671) dL_law_32 (by decide) (by decide) rfl (by decide) ?_
            exact lc_over hL hi hK hN hI nx
          · refine pb_swIn (off := 692) (tgt := 724) dL_law_32 (by decide) (by decide) rfl (by decide) ?_
            exact lc_hiding hL hi hK hN hI nx
          · refine pb_swIn (off := 725) (tgt := 757) dL_law_32 (by decide) (by decide) rfl (by decide) ?_
            exact lc_ground hL hi hK hN hI nx
          · refine pb_swIn (off := 758) (tgt := 790) dL_law_32 (by decide) (by decide) rfl (by decide) ?_
            exact lc_lay hL hi hK hN hI nx
          · refine pb_swIn (off := 801) (tgt := 833) dL_law_32 (by decide) (by decide) rfl (by decide) ?_
            exact lc_back hL hi hK hN hI nx
          · refine pb_swIn (off := 844) (tgt := 876) dL_law_32 (by decide) (by decide) rfl (by decide) ?_
            exact lc_look hL hi hK hN hI nx
          · refine pb_swIn (off := 887) (tgt := 919) dL_law_32 (by decide) (by decide) rfl (by decide) ?_
            exact lc_missed hL hi hK hN hI nx
          · refine pb_swIn (off := 930) (tgt := 962) dL_law_32 (by decide) (by decide) rfl (by decide) ?_
            exact lc_tone hL hi hK hN hI nx
          · refine pb_swIn (off := 973) (tgt := 1005) dL_law_32 (by decide) (by decide) rfl (by decide) ?_
            exact lc_apart hL hi hK hN hI nx
          · refine pb_swIn (off := 1006) (tgt := 1038) dL_law_32 (by decide) (by decide) rfl (by decide) ?_
            exact lc_match hL hi hK hN hI nx
          · refine pb_swIn (off := 1049) (tgt := 1081) dL_law_32 (by decide) (by decide) rfl (by decide) ?_
            exact lc_matched hL hi hK hN hI nx
          · refine pb_swIn (off := 1072) (tgt := 1104) dL_law_32 (by decide) (by decide) rfl (by decide) ?_
            exact lc_price hL hi hK hN hI nx
          · refine pb_swIn (off := 1085) (tgt := 1117) dL_law_32 (by decide) (by decide) rfl (by decide) ?_
            exact lc_glaze hL hi hK hN hI nx
          · refine pb_swIn (off := 1128) (tgt := 1160) dL_law_32 (by decide) (by decide) rfl (by decide) ?_
            exact lc_glazed hL hi hK hN hI nx
          · refine pb_swIn (off := 1151) (tgt := 1183) dL_law_32 (by decide) (by decide) rfl (by decide) ?_
            exact lc_keep hL hi hK hN hI nx
          · refine pb_swIn (off := 1164) (tgt := 1196) dL_law_32 (by decide) (by decide) rfl (by decide) ?_
            exact lc_clear hL hi hK hN hI nx
          · refine pb_swIn (off := 1177) (tgt := 1209) dL_law_32 (by decide) (by decide) rfl (by decide) ?_
            exact lc_fewest hL hi hK hN hI nx
          · refine pb_swIn (off := 1220) (tgt := 1252) dL_law_32 (by decide) (by decide) rfl (by decide) ?_
            exact lc_count hL hi hK hN hI nx
          · refine pb_swOut (tgt := 1275) dL_law_32 (Or.inr (by decide)) (by decide) ?_
            exact (nx A h hI).le (by omega) (by omega)
      · have e0 : i = 0 := by omega
        subst e0
        refine pb_isub (pc2 := 23) dL_law_22 rfl ?_
        have hneg : nI L - nI 5 < nI 0 := by
          rcases (show L = 0 ∨ L = 1 ∨ L = 2 ∨ L = 3 ∨ L = 4 by omega) with rfl | rfl | rfl | rfl | rfl <;> decide
        refine pb_icmp_gt (tgt := 1281) (pc2 := 26) dL_law_23 (by decide) rfl (fun _ => done h) (fun z => absurd hneg z)
  refine pb_newG (60) (fs := [.null, .null, .null, .null, .null, .null, .null, .null, .null, .null, .int (nI 0), .int (nI 0)]) (k2 := 599999) (n2 := 7302238) (pc2 := 3) pb_cl9 rfl klL_7 iaX11 iiX11 dL_law_0 (hfree 60 (by omega)) (by omega) rfl rfl (by omega) (by omega) rfl (fun h_ ho n1 => ?_)
  refine pb_dup (pc2 := 4) dL_law_3 rfl rfl ?_
  refine pb_callI (pc2 := 7) (k2 := 599000) (n2 := 7300000) mwX11_init rfl rfl iwX11_init rfl mlL_9 dL_law_4 (i_box ho (fun x hx => (n1 x (by omega)).trans (hfree x (by omega)))) (by omega) (by omega) (by omega) rfl rfl (Nat.le_of_ble_eq_true rfl) rfl (fun v h1 q _ => ?_)
  obtain ⟨rfl, hC1⟩ := q
  refine pb_astore_n (lv2 := [_, _, _, _]) (pc2 := 8) dL_law_7 rfl (by decide) rfl rfl ?_
  have hlow : ∀ x, x < 60 → h1 x = pb_h0 L xs x := fun x hx => (hC1.low x hx).trans (n1 x (by omega))
  refine pb_newG (20) (fs := [.int (nI 0), .int (nI 0), .int (nI 0), .null, .null, .null, .null, .null, .null, .null, .null, .null, .null, .null, .null, .null, .null, .null, .null, .null, .null, .null, .null, .int (nI 0), .null, .int (nI 0), .int (nI 0), .null, .null, .int (nI 0), .null, .null]) (k2 := 598000) (n2 := 7299000) (pc2 := 11) pb_cl10 rfl klL_10 iaX12 iiX12 dL_law_8 ((hlow 20 (by omega)).trans (hfree 20 (by omega))) (by omega) rfl rfl (by omega) (by omega) rfl (fun h_ ho n2 => ?_)
  refine pb_dup (pc2 := 12) dL_law_11 rfl rfl ?_
  refine pb_callI (pc2 := 15) (k2 := 597000) (n2 := 7290000) mwX12_init rfl rfl iwX12_init rfl mlL_12 dL_law_12 (i_ref ho (fun x x1 x2 => (n2 x (by omega)).trans ((hlow x x2).trans (hfree x (by omega))))) (by omega) (by omega) (by omega) rfl rfl (Nat.le_of_ble_eq_true rfl) rfl (fun v h2 q _ => ?_)
  obtain ⟨rfl, hR2⟩ := q
  have f0 : h2 0 = some (.inl (2, L, xs)) := (hR2.2.2.2 0 (Or.inl (by omega))).trans ((n2 0 (by omega)).trans ((hlow 0 (by omega)).trans rfl))
  have f1 : pb_TH h2 := by
    refine (hR2.2.2.2 1 (Or.inl (by omega))).trans ((n2 1 (by omega)).trans ((hlow 1 (by omega)).trans ?_))
    show (some (.inl (3, 3, fun j => if j = 0 then 1 else if j = 1 then 2 else 4)) : Option pb_C) = some (.inl (3, 3, fun j => nI (gl_th j)))
    have ef : (fun j : Nat => if j = 0 then (1 : Int32) else if j = 1 then 2 else 4) = fun j => nI (gl_th j) := by
      funext j
      unfold gl_th
      by_cases e1 : j = 0
      · rw [if_pos e1, if_pos e1]; rfl
      · rw [if_neg e1, if_neg e1]
        by_cases e2 : j = 1
        · rw [if_pos e2, if_pos e2]; rfl
        · rw [if_neg e2, if_neg e2]; rfl
    rw [ef]
  refine pb_astore_n (lv2 := [_, _, _, _]) (pc2 := 16) dL_law_15 rfl (by decide) rfl rfl ?_
  refine pb_iconst (x := nI 0) (pc2 := 17) dL_law_16 (by decide) rfl ?_
  refine pb_istore_n (lv2 := [_, _, _, _]) (pc2 := 18) dL_law_17 rfl (by decide) rfl rfl ?_
  exact (loop (L + 1) 0 sp_0 h2 (by omega) (by omega) (Or.inl rfl) ⟨wf_0, hR2.rf, hC1.tr (fun b hb => (hR2.2.2.2 b (Or.inr hb)).trans (n2 b (by omega))), f0, f1⟩).le (by omega) (by omega)
end PB47

