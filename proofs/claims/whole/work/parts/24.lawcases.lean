/-! THE LAW'S CASES, each over what is asked of a pair of methods (op..): RR is the relation between the class's state and the reference's -/
def opI (RR : pw_S → pw_S → Prop) (L : List String) (f : pw_S → Option ((Int32 ⊕ String) × pw_S)) (g : pw_S → Option (Int32 × pw_S)) : Prop := ∀ σ μ, RR σ μ → ∃ r σ' bb μ', f σ = some (r, σ') ∧ g μ = some (bb, μ') ∧ RR σ' μ' ∧ (∀ E, r = .inr E → E ∈ L) ∧ gi μ' 0 0 = (wrI L 0 r).1 ∧ ∀ v, r = .inl v → v = bb
def opZ (RR : pw_S → pw_S → Prop) (L : List String) (f : pw_S → Option ((Int32 ⊕ String) × pw_S)) (g : pw_S → Option (Int32 × pw_S)) : Prop := ∀ σ μ, RR σ μ → ∃ r σ' bb μ', f σ = some (r, σ') ∧ g μ = some (bb, μ') ∧ RR σ' μ' ∧ (∀ E, r = .inr E → E ∈ L) ∧ gi μ' 0 0 = (wrI L 0 r).1 ∧ ∀ v, r = .inl v → (v = 0 ↔ bb = 0)
def opN (RR : pw_S → pw_S → Prop) (f g : pw_S → Option (Int32 × pw_S)) : Prop := ∀ σ μ, RR σ μ → ∃ r σ' μ', f σ = some (r, σ') ∧ g μ = some (r, μ') ∧ RR σ' μ'
def opL (RR : pw_S → pw_S → Prop) (f : pw_S → Option ((Int64 ⊕ String) × pw_S)) (g : pw_S → Option (Int64 × pw_S)) : Prop := ∀ σ μ, RR σ μ → ∃ r σ' μ', f σ = some (.inl r, σ') ∧ g μ = some (r, μ') ∧ RR σ' μ'
def opD (RR : pw_S → pw_S → Prop) : Prop := ∀ σ μ, RR σ μ → gi σ 11 1 = gi μ 13 1 ∧ gi σ 0 10 = gi μ 0 1 ∧ RR σ (si μ 0 0 0)
theorem wrI_1 {L : List String} {o o' : Int64} {r : Int32 ⊕ String} : (wrI L o r).1 = (wrI L o' r).1 := by cases r <;> rfl
theorem wrZ_1 {L : List String} {o o' : Int64} {r : Int32 ⊕ String} : (wrI L o r).1 = (wrZ L o' r).1 := by cases r <;> rfl
theorem wr_ne {L : List String} {E : String} (hL : L.length < 100) : ¬ nI (L.idxOf E + 1) = 0 := nI_ne0 (by omega) (by have := List.idxOf_le_length (a := E) (l := L); omega)
theorem wrI_ok {L : List String} {o : Int64} {r : Int32 ⊕ String} {bb : Int32} (hL : L.length < 100) (hv : ∀ v, r = .inl v → v = bb) (h : (wrI L o r).1 = 0) : (wrI L o r).2 = bb.toInt64 := by
  cases r with
  | inl v => rw [← hv v rfl]; rfl
  | inr E => exact absurd h (wr_ne hL)
theorem wrZ_ok {L : List String} {o : Int64} {r : Int32 ⊕ String} {bb : Int32} (hL : L.length < 100) (hv : ∀ v, r = .inl v → (v = 0 ↔ bb = 0)) (h : (wrZ L o r).1 = 0) : (wrZ L o r).2 = if bb = 0 then 0 else 1 := by
  cases r with
  | inl v =>
    show (if v = 0 then (0 : Int64) else 1) = _
    have := hv v rfl
    by_cases hz : v = 0
    · rw [if_pos hz, if_pos (this.mp hz)]
    · rw [if_neg hz, if_neg (fun h => hz (this.mpr h))]
  | inr E => exact absurd h (wr_ne hL)
section LWC
variable {p : Program} {l : Launch} {e : Env} {s : State} {m : MethodId} {below : List Frame} {meth : Method} {c : Code} {cells slots : Nat} {Q : State → Prop}
variable {b L i : Nat} {xs : Nat → Int32} {D : va_G} {cA : Nat → ClassId} {cL : ClassId} {RR : pw_S → pw_S → Prop}
set_option maxHeartbeats 4000000 in
set_option maxRecDepth 100000 in
theorem lc_setFrames (hC : lwC p s m meth c b L xs D cA cL) (hlt : l.stackTraces = false) (hop : ∀ a1 : Int32, opI RR [pw_iaX, pw_isX] (fX3_setFrames a1) (fX4_setFrames a1)) (hi : i + 5 ≤ L) (hf : cells + 14 ≤ 601024 ∧ slots + 77 ≤ 7293034) (K : lwK RR p l e s m below meth c b D cA cL Q 1613 i (cells + 14) (slots + 77)) : lwK RR p l e s m below meth c b D cA cL Q 164 i cells slots := by
  intro H locs ls ad adm σ μ ob o hRR hI hS hl
  obtain ⟨⟨hx, hb, hml, hown, hts⟩, -⟩ := id hC
  obtain ⟨r, σ', bb, μ', hf1, hg1, hRR', hE, ht, hv⟩ := hop (xs (i + 1)) σ μ hRR
  refine lv_aload_n hx hb dL_law_164 rfl (lv_at hl 1 rfl) ?_
  refine lw_sld hC hS hl 0 4 rfl rfl 1 (by omega) (by decide) dL_law_165 dL_law_166 dL_law_168 dL_law_169 dL_law_170 ?_
  refine lv_aload_n hx hb dL_law_171 rfl (lv_at hl 3 rfl) ?_
  refine lw_W (n := 3) (As := [.ref (ad 0), .int (xs (i + 1)), .ref ob]) hC hI hS (kL_setFrames l D cA cL _ ad hlt hf1 hE) wA_72 rfl (by decide +kernel) wA_69 wA_70 ⟨rfl, rfl, Nat.le_of_ble_eq_true rfl, Nat.le_of_ble_eq_true rfl⟩ rfl hl.1 rfl (Nat.le_of_ble_eq_true rfl) dL_law_172 ⟨by omega, by omega⟩ (fun ad1 H locs hag hI hS => ?_)
  refine W.widen (k := cells + 14) (n := slots + 77) (by omega) (by omega) ?_
  have hl : lv_has ls 9 [(0, .ref b), (1, .ref (ad1 0)), (2, .ref (adm 0)), (3, .ref ob), (4, .int (nI i))] := by rw [hag 0 (by decide)]; exact hl
  refine lv_istore (lv' := [(5, .int (wrI [pw_iaX, pw_isX] o r).1), (0, .ref b), (1, .ref (ad1 0)), (2, .ref (adm 0)), (3, .ref ob), (4, .int (nI i))]) hx hb dL_law_175 hl (by decide) rfl (fun ls hl => ?_)
  refine lv_aload_n hx hb dL_law_177 rfl (lv_at hl 3 rfl) ?_
  refine lw_sld hC hS hl 1 5 rfl rfl 1 (by omega) (by decide) dL_law_178 dL_law_179 dL_law_181 dL_law_182 dL_law_183 ?_
  refine lw_M (As := [.int (xs (i + 1))]) hC hI hS (kX4_setFrames l D cA _ adm hg1) ykX4_setFrames wA_89 wA_90 wA_91 rfl ⟨rfl, rfl, Nat.le_of_ble_eq_true rfl, Nat.le_of_ble_eq_true rfl⟩ rfl hl.1 rfl (Nat.le_of_ble_eq_true rfl) dL_law_184 ⟨by omega, by omega⟩ (fun H locs hI hS => ?_)
  refine lv_istore (lv' := [(6, .int bb), (5, .int (wrI [pw_iaX, pw_isX] o r).1), (0, .ref b), (1, .ref (ad1 0)), (2, .ref (adm 0)), (3, .ref ob), (4, .int (nI i))]) hx hb dL_law_187 hl (by decide) rfl (fun ls hl => ?_)
  exact lw_tailI (i5 := 0) (i6 := 0) (t0 := 0) hC hRR' hI hS hl (ht.trans wrI_1) (wrI_ok (by decide) hv) (fun A => kX4_thrown l D cA A adm rfl) ⟨by omega, by omega⟩ dL_law_189 dL_law_190 dL_law_193 dL_law_195 dL_law_200 dL_law_202 dL_law_205 dL_law_206 dL_law_207 dL_law_208 dL_law_210 dL_law_211 dL_law_212 dL_law_217 (by decide) K
set_option maxHeartbeats 4000000 in
set_option maxRecDepth 100000 in
theorem lc_setWindow (hC : lwC p s m meth c b L xs D cA cL) (hlt : l.stackTraces = false) (hop : ∀ a1 : Int32, opI RR [pw_iaX] (fX3_setWindow a1) (fX4_setWindow a1)) (hi : i + 5 ≤ L) (hf : cells + 14 ≤ 601024 ∧ slots + 77 ≤ 7293034) (K : lwK RR p l e s m below meth c b D cA cL Q 1613 i (cells + 14) (slots + 77)) : lwK RR p l e s m below meth c b D cA cL Q 220 i cells slots := by
  intro H locs ls ad adm σ μ ob o hRR hI hS hl
  obtain ⟨⟨hx, hb, hml, hown, hts⟩, -⟩ := id hC
  obtain ⟨r, σ', bb, μ', hf1, hg1, hRR', hE, ht, hv⟩ := hop (xs (i + 1)) σ μ hRR
  refine lv_aload_n hx hb dL_law_220 rfl (lv_at hl 1 rfl) ?_
  refine lw_sld hC hS hl 0 4 rfl rfl 1 (by omega) (by decide) dL_law_221 dL_law_222 dL_law_224 dL_law_225 dL_law_226 ?_
  refine lv_aload_n hx hb dL_law_227 rfl (lv_at hl 3 rfl) ?_
  refine lw_W (n := 3) (As := [.ref (ad 0), .int (xs (i + 1)), .ref ob]) hC hI hS (kL_setWindow l D cA cL _ ad hlt hf1 hE) wA_109 rfl (by decide +kernel) wA_107 wA_108 ⟨rfl, rfl, Nat.le_of_ble_eq_true rfl, Nat.le_of_ble_eq_true rfl⟩ rfl hl.1 rfl (Nat.le_of_ble_eq_true rfl) dL_law_228 ⟨by omega, by omega⟩ (fun ad1 H locs hag hI hS => ?_)
  refine W.widen (k := cells + 14) (n := slots + 77) (by omega) (by omega) ?_
  have hl : lv_has ls 9 [(0, .ref b), (1, .ref (ad1 0)), (2, .ref (adm 0)), (3, .ref ob), (4, .int (nI i))] := by rw [hag 0 (by decide)]; exact hl
  refine lv_istore (lv' := [(5, .int (wrI [pw_iaX] o r).1), (0, .ref b), (1, .ref (ad1 0)), (2, .ref (adm 0)), (3, .ref ob), (4, .int (nI i))]) hx hb dL_law_231 hl (by decide) rfl (fun ls hl => ?_)
  refine lv_aload_n hx hb dL_law_233 rfl (lv_at hl 3 rfl) ?_
  refine lw_sld hC hS hl 1 5 rfl rfl 1 (by omega) (by decide) dL_law_234 dL_law_235 dL_law_237 dL_law_238 dL_law_239 ?_
  refine lw_M (As := [.int (xs (i + 1))]) hC hI hS (kX4_setWindow l D cA _ adm hg1) ykX4_setWindow wA_114 wA_115 wA_116 rfl ⟨rfl, rfl, Nat.le_of_ble_eq_true rfl, Nat.le_of_ble_eq_true rfl⟩ rfl hl.1 rfl (Nat.le_of_ble_eq_true rfl) dL_law_240 ⟨by omega, by omega⟩ (fun H locs hI hS => ?_)
  refine lv_istore (lv' := [(6, .int bb), (5, .int (wrI [pw_iaX] o r).1), (0, .ref b), (1, .ref (ad1 0)), (2, .ref (adm 0)), (3, .ref ob), (4, .int (nI i))]) hx hb dL_law_243 hl (by decide) rfl (fun ls hl => ?_)
  exact lw_tailI (i5 := 0) (i6 := 0) (t0 := 0) hC hRR' hI hS hl (ht.trans wrI_1) (wrI_ok (by decide) hv) (fun A => kX4_thrown l D cA A adm rfl) ⟨by omega, by omega⟩ dL_law_245 dL_law_246 dL_law_249 dL_law_251 dL_law_256 dL_law_258 dL_law_261 dL_law_262 dL_law_263 dL_law_264 dL_law_266 dL_law_267 dL_law_268 dL_law_273 (by decide) K
set_option maxHeartbeats 4000000 in
set_option maxRecDepth 100000 in
theorem lc_start (hC : lwC p s m meth c b L xs D cA cL) (hlt : l.stackTraces = false) (hop : opI RR [pw_isX] fX3_start fX4_start) (hi : i + 5 ≤ L) (hf : cells + 14 ≤ 601024 ∧ slots + 77 ≤ 7293034) (K : lwK RR p l e s m below meth c b D cA cL Q 1613 i (cells + 14) (slots + 77)) : lwK RR p l e s m below meth c b D cA cL Q 276 i cells slots := by
  intro H locs ls ad adm σ μ ob o hRR hI hS hl
  obtain ⟨⟨hx, hb, hml, hown, hts⟩, -⟩ := id hC
  obtain ⟨r, σ', bb, μ', hf1, hg1, hRR', hE, ht, hv⟩ := hop  σ μ hRR
  refine lv_aload_n hx hb dL_law_276 rfl (lv_at hl 1 rfl) ?_
  refine lv_aload_n hx hb dL_law_277 rfl (lv_at hl 3 rfl) ?_
  refine lw_W (n := 2) (As := [.ref (ad 0), .ref ob]) hC hI hS (kL_start l D cA cL _ ad hlt hf1 hE) wA_120 rfl (by decide +kernel) wA_118 wA_119 ⟨rfl, rfl, Nat.le_of_ble_eq_true rfl, Nat.le_of_ble_eq_true rfl⟩ rfl hl.1 rfl (Nat.le_of_ble_eq_true rfl) dL_law_278 ⟨by omega, by omega⟩ (fun ad1 H locs hag hI hS => ?_)
  refine W.widen (k := cells + 14) (n := slots + 77) (by omega) (by omega) ?_
  have hl : lv_has ls 9 [(0, .ref b), (1, .ref (ad1 0)), (2, .ref (adm 0)), (3, .ref ob), (4, .int (nI i))] := by rw [hag 0 (by decide)]; exact hl
  refine lv_istore (lv' := [(5, .int (wrI [pw_isX] o r).1), (0, .ref b), (1, .ref (ad1 0)), (2, .ref (adm 0)), (3, .ref ob), (4, .int (nI i))]) hx hb dL_law_281 hl (by decide) rfl (fun ls hl => ?_)
  refine lv_aload_n hx hb dL_law_283 rfl (lv_at hl 3 rfl) ?_
  refine lw_M (As := []) hC hI hS (kX4_start l D cA _ adm hg1) ykX4_start wA_133 wA_134 wA_135 rfl ⟨rfl, rfl, Nat.le_of_ble_eq_true rfl, Nat.le_of_ble_eq_true rfl⟩ rfl hl.1 rfl (Nat.le_of_ble_eq_true rfl) dL_law_284 ⟨by omega, by omega⟩ (fun H locs hI hS => ?_)
  refine lv_istore (lv' := [(6, .int bb), (5, .int (wrI [pw_isX] o r).1), (0, .ref b), (1, .ref (ad1 0)), (2, .ref (adm 0)), (3, .ref ob), (4, .int (nI i))]) hx hb dL_law_287 hl (by decide) rfl (fun ls hl => ?_)
  exact lw_tailI (i5 := 0) (i6 := 0) (t0 := 0) hC hRR' hI hS hl (ht.trans wrI_1) (wrI_ok (by decide) hv) (fun A => kX4_thrown l D cA A adm rfl) ⟨by omega, by omega⟩ dL_law_289 dL_law_290 dL_law_293 dL_law_295 dL_law_300 dL_law_302 dL_law_305 dL_law_306 dL_law_307 dL_law_308 dL_law_310 dL_law_311 dL_law_312 dL_law_317 (by decide) K
set_option maxHeartbeats 4000000 in
set_option maxRecDepth 100000 in
theorem lc_fork (hC : lwC p s m meth c b L xs D cA cL) (hlt : l.stackTraces = false) (hop : ∀ a1 : Int32, opI RR [pw_ioX, pw_neX, pw_isX] (fX3_fork a1) (fX4_fork a1)) (hi : i + 5 ≤ L) (hf : cells + 14 ≤ 601024 ∧ slots + 77 ≤ 7293034) (K : lwK RR p l e s m below meth c b D cA cL Q 1613 i (cells + 14) (slots + 77)) : lwK RR p l e s m below meth c b D cA cL Q 320 i cells slots := by
  intro H locs ls ad adm σ μ ob o hRR hI hS hl
  obtain ⟨⟨hx, hb, hml, hown, hts⟩, -⟩ := id hC
  obtain ⟨r, σ', bb, μ', hf1, hg1, hRR', hE, ht, hv⟩ := hop (xs (i + 1)) σ μ hRR
  refine lv_aload_n hx hb dL_law_320 rfl (lv_at hl 1 rfl) ?_
  refine lw_sld hC hS hl 0 4 rfl rfl 1 (by omega) (by decide) dL_law_321 dL_law_322 dL_law_324 dL_law_325 dL_law_326 ?_
  refine lv_aload_n hx hb dL_law_327 rfl (lv_at hl 3 rfl) ?_
  refine lw_W (n := 3) (As := [.ref (ad 0), .int (xs (i + 1)), .ref ob]) hC hI hS (kL_fork l D cA cL _ ad hlt hf1 hE) wA_143 rfl (by decide +kernel) wA_141 wA_142 ⟨rfl, rfl, Nat.le_of_ble_eq_true rfl, Nat.le_of_ble_eq_true rfl⟩ rfl hl.1 rfl (Nat.le_of_ble_eq_true rfl) dL_law_328 ⟨by omega, by omega⟩ (fun ad1 H locs hag hI hS => ?_)
  refine W.widen (k := cells + 14) (n := slots + 77) (by omega) (by omega) ?_
  have hl : lv_has ls 9 [(0, .ref b), (1, .ref (ad1 0)), (2, .ref (adm 0)), (3, .ref ob), (4, .int (nI i))] := by rw [hag 0 (by decide)]; exact hl
  refine lv_istore (lv' := [(5, .int (wrI [pw_ioX, pw_neX, pw_isX] o r).1), (0, .ref b), (1, .ref (ad1 0)), (2, .ref (adm 0)), (3, .ref ob), (4, .int (nI i))]) hx hb dL_law_331 hl (by decide) rfl (fun ls hl => ?_)
  refine lv_aload_n hx hb dL_law_333 rfl (lv_at hl 3 rfl) ?_
  refine lw_sld hC hS hl 1 5 rfl rfl 1 (by omega) (by decide) dL_law_334 dL_law_335 dL_law_337 dL_law_338 dL_law_339 ?_
  refine lw_M (As := [.int (xs (i + 1))]) hC hI hS (kX4_fork l D cA _ adm hg1) ykX4_fork wA_170 wA_171 wA_172 rfl ⟨rfl, rfl, Nat.le_of_ble_eq_true rfl, Nat.le_of_ble_eq_true rfl⟩ rfl hl.1 rfl (Nat.le_of_ble_eq_true rfl) dL_law_340 ⟨by omega, by omega⟩ (fun H locs hI hS => ?_)
  refine lv_istore (lv' := [(6, .int bb), (5, .int (wrI [pw_ioX, pw_neX, pw_isX] o r).1), (0, .ref b), (1, .ref (ad1 0)), (2, .ref (adm 0)), (3, .ref ob), (4, .int (nI i))]) hx hb dL_law_343 hl (by decide) rfl (fun ls hl => ?_)
  exact lw_tailI (i5 := 0) (i6 := 0) (t0 := 0) hC hRR' hI hS hl (ht.trans wrI_1) (wrI_ok (by decide) hv) (fun A => kX4_thrown l D cA A adm rfl) ⟨by omega, by omega⟩ dL_law_345 dL_law_346 dL_law_349 dL_law_351 dL_law_356 dL_law_358 dL_law_361 dL_law_362 dL_law_363 dL_law_364 dL_law_366 dL_law_367 dL_law_368 dL_law_373 (by decide) K
set_option maxHeartbeats 4000000 in
set_option maxRecDepth 100000 in
theorem lc_exit (hC : lwC p s m meth c b L xs D cA cL) (hlt : l.stackTraces = false) (hop : ∀ a1 : Int32, opI RR [pw_ioX, pw_neX] (fX3_exit a1) (fX4_exit a1)) (hi : i + 5 ≤ L) (hf : cells + 14 ≤ 601024 ∧ slots + 77 ≤ 7293034) (K : lwK RR p l e s m below meth c b D cA cL Q 1613 i (cells + 14) (slots + 77)) : lwK RR p l e s m below meth c b D cA cL Q 376 i cells slots := by
  intro H locs ls ad adm σ μ ob o hRR hI hS hl
  obtain ⟨⟨hx, hb, hml, hown, hts⟩, -⟩ := id hC
  obtain ⟨r, σ', bb, μ', hf1, hg1, hRR', hE, ht, hv⟩ := hop (xs (i + 1)) σ μ hRR
  refine lv_aload_n hx hb dL_law_376 rfl (lv_at hl 1 rfl) ?_
  refine lw_sld hC hS hl 0 4 rfl rfl 1 (by omega) (by decide) dL_law_377 dL_law_378 dL_law_380 dL_law_381 dL_law_382 ?_
  refine lv_aload_n hx hb dL_law_383 rfl (lv_at hl 3 rfl) ?_
  refine lw_W (n := 3) (As := [.ref (ad 0), .int (xs (i + 1)), .ref ob]) hC hI hS (kL_exit l D cA cL _ ad hlt hf1 hE) wA_181 rfl (by decide +kernel) wA_179 wA_180 ⟨rfl, rfl, Nat.le_of_ble_eq_true rfl, Nat.le_of_ble_eq_true rfl⟩ rfl hl.1 rfl (Nat.le_of_ble_eq_true rfl) dL_law_384 ⟨by omega, by omega⟩ (fun ad1 H locs hag hI hS => ?_)
  refine W.widen (k := cells + 14) (n := slots + 77) (by omega) (by omega) ?_
  have hl : lv_has ls 9 [(0, .ref b), (1, .ref (ad1 0)), (2, .ref (adm 0)), (3, .ref ob), (4, .int (nI i))] := by rw [hag 0 (by decide)]; exact hl
  refine lv_istore (lv' := [(5, .int (wrI [pw_ioX, pw_neX] o r).1), (0, .ref b), (1, .ref (ad1 0)), (2, .ref (adm 0)), (3, .ref ob), (4, .int (nI i))]) hx hb dL_law_387 hl (by decide) rfl (fun ls hl => ?_)
  refine lv_aload_n hx hb dL_law_389 rfl (lv_at hl 3 rfl) ?_
  refine lw_sld hC hS hl 1 5 rfl rfl 1 (by omega) (by decide) dL_law_390 dL_law_391 dL_law_393 dL_law_394 dL_law_395 ?_
  refine lw_M (As := [.int (xs (i + 1))]) hC hI hS (kX4_exit l D cA _ adm hg1) ykX4_exit wA_202 wA_203 wA_204 rfl ⟨rfl, rfl, Nat.le_of_ble_eq_true rfl, Nat.le_of_ble_eq_true rfl⟩ rfl hl.1 rfl (Nat.le_of_ble_eq_true rfl) dL_law_396 ⟨by omega, by omega⟩ (fun H locs hI hS => ?_)
  refine lv_istore (lv' := [(6, .int bb), (5, .int (wrI [pw_ioX, pw_neX] o r).1), (0, .ref b), (1, .ref (ad1 0)), (2, .ref (adm 0)), (3, .ref ob), (4, .int (nI i))]) hx hb dL_law_399 hl (by decide) rfl (fun ls hl => ?_)
  exact lw_tailI (i5 := 0) (i6 := 0) (t0 := 0) hC hRR' hI hS hl (ht.trans wrI_1) (wrI_ok (by decide) hv) (fun A => kX4_thrown l D cA A adm rfl) ⟨by omega, by omega⟩ dL_law_401 dL_law_402 dL_law_405 dL_law_407 dL_law_412 dL_law_414 dL_law_417 dL_law_418 dL_law_419 dL_law_420 dL_law_422 dL_law_423 dL_law_424 dL_law_429 (by decide) K
set_option maxHeartbeats 4000000 in
set_option maxRecDepth 100000 in
theorem lc_map (hC : lwC p s m meth c b L xs D cA cL) (hlt : l.stackTraces = false) (hop : ∀ a1 a2 : Int32, opI RR [pw_ioX, pw_neX, pw_iaX] (fX3_map a1 a2) (fX4_map a1 a2)) (hi : i + 5 ≤ L) (hf : cells + 14 ≤ 601024 ∧ slots + 77 ≤ 7293034) (K : lwK RR p l e s m below meth c b D cA cL Q 1613 i (cells + 14) (slots + 77)) : lwK RR p l e s m below meth c b D cA cL Q 432 i cells slots := by
  intro H locs ls ad adm σ μ ob o hRR hI hS hl
  obtain ⟨⟨hx, hb, hml, hown, hts⟩, -⟩ := id hC
  obtain ⟨r, σ', bb, μ', hf1, hg1, hRR', hE, ht, hv⟩ := hop (xs (i + 1)) (xs (i + 2)) σ μ hRR
  refine lv_aload_n hx hb dL_law_432 rfl (lv_at hl 1 rfl) ?_
  refine lw_sld hC hS hl 0 4 rfl rfl 1 (by omega) (by decide) dL_law_433 dL_law_434 dL_law_436 dL_law_437 dL_law_438 ?_
  refine lw_sld hC hS hl 0 4 rfl rfl 2 (by omega) (by decide) dL_law_439 dL_law_440 dL_law_442 dL_law_443 dL_law_444 ?_
  refine lv_aload_n hx hb dL_law_445 rfl (lv_at hl 3 rfl) ?_
  refine lw_W (n := 4) (As := [.ref (ad 0), .int (xs (i + 1)), .int (xs (i + 2)), .ref ob]) hC hI hS (kL_map l D cA cL _ ad hlt hf1 hE) wA_237 rfl (by decide +kernel) wA_235 wA_236 ⟨rfl, rfl, Nat.le_of_ble_eq_true rfl, Nat.le_of_ble_eq_true rfl⟩ rfl hl.1 rfl (Nat.le_of_ble_eq_true rfl) dL_law_446 ⟨by omega, by omega⟩ (fun ad1 H locs hag hI hS => ?_)
  refine W.widen (k := cells + 14) (n := slots + 77) (by omega) (by omega) ?_
  have hl : lv_has ls 9 [(0, .ref b), (1, .ref (ad1 0)), (2, .ref (adm 0)), (3, .ref ob), (4, .int (nI i))] := by rw [hag 0 (by decide)]; exact hl
  refine lv_istore (lv' := [(5, .int (wrI [pw_ioX, pw_neX, pw_iaX] o r).1), (0, .ref b), (1, .ref (ad1 0)), (2, .ref (adm 0)), (3, .ref ob), (4, .int (nI i))]) hx hb dL_law_449 hl (by decide) rfl (fun ls hl => ?_)
  refine lv_aload_n hx hb dL_law_451 rfl (lv_at hl 3 rfl) ?_
  refine lw_sld hC hS hl 1 5 rfl rfl 1 (by omega) (by decide) dL_law_452 dL_law_453 dL_law_455 dL_law_456 dL_law_457 ?_
  refine lw_sld hC hS hl 1 5 rfl rfl 2 (by omega) (by decide) dL_law_458 dL_law_459 dL_law_461 dL_law_462 dL_law_463 ?_
  refine lw_M (As := [.int (xs (i + 1)), .int (xs (i + 2))]) hC hI hS (kX4_map l D cA _ adm hg1) ykX4_map wA_267 wA_268 wA_269 rfl ⟨rfl, rfl, Nat.le_of_ble_eq_true rfl, Nat.le_of_ble_eq_true rfl⟩ rfl hl.1 rfl (Nat.le_of_ble_eq_true rfl) dL_law_464 ⟨by omega, by omega⟩ (fun H locs hI hS => ?_)
  refine lv_istore (lv' := [(6, .int bb), (5, .int (wrI [pw_ioX, pw_neX, pw_iaX] o r).1), (0, .ref b), (1, .ref (ad1 0)), (2, .ref (adm 0)), (3, .ref ob), (4, .int (nI i))]) hx hb dL_law_467 hl (by decide) rfl (fun ls hl => ?_)
  exact lw_tailI (i5 := 0) (i6 := 0) (t0 := 0) hC hRR' hI hS hl (ht.trans wrI_1) (wrI_ok (by decide) hv) (fun A => kX4_thrown l D cA A adm rfl) ⟨by omega, by omega⟩ dL_law_469 dL_law_470 dL_law_473 dL_law_475 dL_law_480 dL_law_482 dL_law_485 dL_law_486 dL_law_487 dL_law_488 dL_law_490 dL_law_491 dL_law_492 dL_law_497 (by decide) K
set_option maxHeartbeats 4000000 in
set_option maxRecDepth 100000 in
theorem lc_createSegment (hC : lwC p s m meth c b L xs D cA cL) (hlt : l.stackTraces = false) (hop : ∀ a1 : Int32, opI RR [pw_iaX, pw_isX] (fX3_createSegment a1) (fX4_createSegment a1)) (hi : i + 5 ≤ L) (hf : cells + 14 ≤ 601024 ∧ slots + 77 ≤ 7293034) (K : lwK RR p l e s m below meth c b D cA cL Q 1613 i (cells + 14) (slots + 77)) : lwK RR p l e s m below meth c b D cA cL Q 500 i cells slots := by
  intro H locs ls ad adm σ μ ob o hRR hI hS hl
  obtain ⟨⟨hx, hb, hml, hown, hts⟩, -⟩ := id hC
  obtain ⟨r, σ', bb, μ', hf1, hg1, hRR', hE, ht, hv⟩ := hop (xs (i + 1)) σ μ hRR
  refine lv_aload_n hx hb dL_law_500 rfl (lv_at hl 1 rfl) ?_
  refine lw_sld hC hS hl 0 4 rfl rfl 1 (by omega) (by decide) dL_law_501 dL_law_502 dL_law_504 dL_law_505 dL_law_506 ?_
  refine lv_aload_n hx hb dL_law_507 rfl (lv_at hl 3 rfl) ?_
  refine lw_W (n := 3) (As := [.ref (ad 0), .int (xs (i + 1)), .ref ob]) hC hI hS (kL_createSegment l D cA cL _ ad hlt hf1 hE) wA_288 rfl (by decide +kernel) wA_286 wA_287 ⟨rfl, rfl, Nat.le_of_ble_eq_true rfl, Nat.le_of_ble_eq_true rfl⟩ rfl hl.1 rfl (Nat.le_of_ble_eq_true rfl) dL_law_508 ⟨by omega, by omega⟩ (fun ad1 H locs hag hI hS => ?_)
  refine W.widen (k := cells + 14) (n := slots + 77) (by omega) (by omega) ?_
  have hl : lv_has ls 9 [(0, .ref b), (1, .ref (ad1 0)), (2, .ref (adm 0)), (3, .ref ob), (4, .int (nI i))] := by rw [hag 0 (by decide)]; exact hl
  refine lv_istore (lv' := [(5, .int (wrI [pw_iaX, pw_isX] o r).1), (0, .ref b), (1, .ref (ad1 0)), (2, .ref (adm 0)), (3, .ref ob), (4, .int (nI i))]) hx hb dL_law_511 hl (by decide) rfl (fun ls hl => ?_)
  refine lv_aload_n hx hb dL_law_513 rfl (lv_at hl 3 rfl) ?_
  refine lw_sld hC hS hl 1 5 rfl rfl 1 (by omega) (by decide) dL_law_514 dL_law_515 dL_law_517 dL_law_518 dL_law_519 ?_
  refine lw_M (As := [.int (xs (i + 1))]) hC hI hS (kX4_createSegment l D cA _ adm hg1) ykX4_createSegment wA_293 wA_294 wA_295 rfl ⟨rfl, rfl, Nat.le_of_ble_eq_true rfl, Nat.le_of_ble_eq_true rfl⟩ rfl hl.1 rfl (Nat.le_of_ble_eq_true rfl) dL_law_520 ⟨by omega, by omega⟩ (fun H locs hI hS => ?_)
  refine lv_istore (lv' := [(6, .int bb), (5, .int (wrI [pw_iaX, pw_isX] o r).1), (0, .ref b), (1, .ref (ad1 0)), (2, .ref (adm 0)), (3, .ref ob), (4, .int (nI i))]) hx hb dL_law_523 hl (by decide) rfl (fun ls hl => ?_)
  exact lw_tailI (i5 := 0) (i6 := 0) (t0 := 0) hC hRR' hI hS hl (ht.trans wrI_1) (wrI_ok (by decide) hv) (fun A => kX4_thrown l D cA A adm rfl) ⟨by omega, by omega⟩ dL_law_525 dL_law_526 dL_law_529 dL_law_531 dL_law_536 dL_law_538 dL_law_541 dL_law_542 dL_law_543 dL_law_544 dL_law_546 dL_law_547 dL_law_548 dL_law_553 (by decide) K
set_option maxHeartbeats 4000000 in
set_option maxRecDepth 100000 in
theorem lc_attach (hC : lwC p s m meth c b L xs D cA cL) (hlt : l.stackTraces = false) (hop : ∀ a1 a2 a3 a4 : Int32, opI RR [pw_ioX, pw_neX, pw_iaX] (fX3_attach a1 a2 a3 a4) (fX4_attach a1 a2 a3 a4)) (hi : i + 5 ≤ L) (hf : cells + 14 ≤ 601024 ∧ slots + 77 ≤ 7293034) (K : lwK RR p l e s m below meth c b D cA cL Q 1613 i (cells + 14) (slots + 77)) : lwK RR p l e s m below meth c b D cA cL Q 556 i cells slots := by
  intro H locs ls ad adm σ μ ob o hRR hI hS hl
  obtain ⟨⟨hx, hb, hml, hown, hts⟩, -⟩ := id hC
  obtain ⟨r, σ', bb, μ', hf1, hg1, hRR', hE, ht, hv⟩ := hop (xs (i + 1)) (xs (i + 2)) (xs (i + 3)) (xs (i + 4)) σ μ hRR
  refine lv_aload_n hx hb dL_law_556 rfl (lv_at hl 1 rfl) ?_
  refine lw_sld hC hS hl 0 4 rfl rfl 1 (by omega) (by decide) dL_law_557 dL_law_558 dL_law_560 dL_law_561 dL_law_562 ?_
  refine lw_sld hC hS hl 0 4 rfl rfl 2 (by omega) (by decide) dL_law_563 dL_law_564 dL_law_566 dL_law_567 dL_law_568 ?_
  refine lw_sld hC hS hl 0 4 rfl rfl 3 (by omega) (by decide) dL_law_569 dL_law_570 dL_law_572 dL_law_573 dL_law_574 ?_
  refine lw_sld hC hS hl 0 4 rfl rfl 4 (by omega) (by decide) dL_law_575 dL_law_576 dL_law_578 dL_law_579 dL_law_580 ?_
  refine lv_aload_n hx hb dL_law_581 rfl (lv_at hl 3 rfl) ?_
  refine lw_W (n := 6) (As := [.ref (ad 0), .int (xs (i + 1)), .int (xs (i + 2)), .int (xs (i + 3)), .int (xs (i + 4)), .ref ob]) hC hI hS (kL_attach l D cA cL _ ad hlt hf1 hE) wA_299 rfl (by decide +kernel) wA_297 wA_298 ⟨rfl, rfl, Nat.le_of_ble_eq_true rfl, Nat.le_of_ble_eq_true rfl⟩ rfl hl.1 rfl (Nat.le_of_ble_eq_true rfl) dL_law_582 ⟨by omega, by omega⟩ (fun ad1 H locs hag hI hS => ?_)
  refine W.widen (k := cells + 14) (n := slots + 77) (by omega) (by omega) ?_
  have hl : lv_has ls 9 [(0, .ref b), (1, .ref (ad1 0)), (2, .ref (adm 0)), (3, .ref ob), (4, .int (nI i))] := by rw [hag 0 (by decide)]; exact hl
  refine lv_istore (lv' := [(5, .int (wrI [pw_ioX, pw_neX, pw_iaX] o r).1), (0, .ref b), (1, .ref (ad1 0)), (2, .ref (adm 0)), (3, .ref ob), (4, .int (nI i))]) hx hb dL_law_585 hl (by decide) rfl (fun ls hl => ?_)
  refine lv_aload_n hx hb dL_law_587 rfl (lv_at hl 3 rfl) ?_
  refine lw_sld hC hS hl 1 5 rfl rfl 1 (by omega) (by decide) dL_law_588 dL_law_589 dL_law_591 dL_law_592 dL_law_593 ?_
  refine lw_sld hC hS hl 1 5 rfl rfl 2 (by omega) (by decide) dL_law_594 dL_law_595 dL_law_597 dL_law_598 dL_law_599 ?_
  refine lw_sld hC hS hl 1 5 rfl rfl 3 (by omega) (by decide) dL_law_600 dL_law_601 dL_law_603 dL_law_604 dL_law_605 ?_
  refine lw_sld hC hS hl 1 5 rfl rfl 4 (by omega) (by decide) dL_law_606 dL_law_607 dL_law_609 dL_law_610 dL_law_611 ?_
  refine lw_M (As := [.int (xs (i + 1)), .int (xs (i + 2)), .int (xs (i + 3)), .int (xs (i + 4))]) hC hI hS (kX4_attach l D cA _ adm hg1) ykX4_attach wA_308 wA_309 wA_310 rfl ⟨rfl, rfl, Nat.le_of_ble_eq_true rfl, Nat.le_of_ble_eq_true rfl⟩ rfl hl.1 rfl (Nat.le_of_ble_eq_true rfl) dL_law_612 ⟨by omega, by omega⟩ (fun H locs hI hS => ?_)
  refine lv_istore (lv' := [(6, .int bb), (5, .int (wrI [pw_ioX, pw_neX, pw_iaX] o r).1), (0, .ref b), (1, .ref (ad1 0)), (2, .ref (adm 0)), (3, .ref ob), (4, .int (nI i))]) hx hb dL_law_615 hl (by decide) rfl (fun ls hl => ?_)
  exact lw_tailI (i5 := 0) (i6 := 0) (t0 := 0) hC hRR' hI hS hl (ht.trans wrI_1) (wrI_ok (by decide) hv) (fun A => kX4_thrown l D cA A adm rfl) ⟨by omega, by omega⟩ dL_law_617 dL_law_618 dL_law_621 dL_law_623 dL_law_628 dL_law_630 dL_law_633 dL_law_634 dL_law_635 dL_law_636 dL_law_638 dL_law_639 dL_law_640 dL_law_645 (by decide) K
set_option maxHeartbeats 4000000 in
set_option maxRecDepth 100000 in
theorem lc_unmap (hC : lwC p s m meth c b L xs D cA cL) (hlt : l.stackTraces = false) (hop : ∀ a1 a2 : Int32, opZ RR [pw_ioX, pw_neX, pw_iaX] (fX3_unmap a1 a2) (fX4_unmap a1 a2)) (hi : i + 5 ≤ L) (hf : cells + 14 ≤ 601024 ∧ slots + 77 ≤ 7293034) (K : lwK RR p l e s m below meth c b D cA cL Q 1613 i (cells + 14) (slots + 77)) : lwK RR p l e s m below meth c b D cA cL Q 648 i cells slots := by
  intro H locs ls ad adm σ μ ob o hRR hI hS hl
  obtain ⟨⟨hx, hb, hml, hown, hts⟩, -⟩ := id hC
  obtain ⟨r, σ', bb, μ', hf1, hg1, hRR', hE, ht, hv⟩ := hop (xs (i + 1)) (xs (i + 2)) σ μ hRR
  refine lv_aload_n hx hb dL_law_648 rfl (lv_at hl 1 rfl) ?_
  refine lw_sld hC hS hl 0 4 rfl rfl 1 (by omega) (by decide) dL_law_649 dL_law_650 dL_law_652 dL_law_653 dL_law_654 ?_
  refine lw_sld hC hS hl 0 4 rfl rfl 2 (by omega) (by decide) dL_law_655 dL_law_656 dL_law_658 dL_law_659 dL_law_660 ?_
  refine lv_aload_n hx hb dL_law_661 rfl (lv_at hl 3 rfl) ?_
  refine lw_W (n := 4) (As := [.ref (ad 0), .int (xs (i + 1)), .int (xs (i + 2)), .ref ob]) hC hI hS (kL_unmap l D cA cL _ ad hlt hf1 hE) wA_314 rfl (by decide +kernel) wA_312 wA_313 ⟨rfl, rfl, Nat.le_of_ble_eq_true rfl, Nat.le_of_ble_eq_true rfl⟩ rfl hl.1 rfl (Nat.le_of_ble_eq_true rfl) dL_law_662 ⟨by omega, by omega⟩ (fun ad1 H locs hag hI hS => ?_)
  refine W.widen (k := cells + 14) (n := slots + 77) (by omega) (by omega) ?_
  have hl : lv_has ls 9 [(0, .ref b), (1, .ref (ad1 0)), (2, .ref (adm 0)), (3, .ref ob), (4, .int (nI i))] := by rw [hag 0 (by decide)]; exact hl
  refine lv_istore (lv' := [(5, .int (wrZ [pw_ioX, pw_neX, pw_iaX] o r).1), (0, .ref b), (1, .ref (ad1 0)), (2, .ref (adm 0)), (3, .ref ob), (4, .int (nI i))]) hx hb dL_law_665 hl (by decide) rfl (fun ls hl => ?_)
  refine lv_aload_n hx hb dL_law_667 rfl (lv_at hl 3 rfl) ?_
  refine lw_sld hC hS hl 1 5 rfl rfl 1 (by omega) (by decide) dL_law_668 dL_law_669 dL_law_671 dL_law_672 dL_law_673 ?_
  refine lw_sld hC hS hl 1 5 rfl rfl 2 (by omega) (by decide) dL_law_674 dL_law_675 dL_law_677 dL_law_678 dL_law_679 ?_
  refine lw_M (As := [.int (xs (i + 1)), .int (xs (i + 2))]) hC hI hS (kX4_unmap l D cA _ adm hg1) ykX4_unmap wA_323 wA_324 wA_325 rfl ⟨rfl, rfl, Nat.le_of_ble_eq_true rfl, Nat.le_of_ble_eq_true rfl⟩ rfl hl.1 rfl (Nat.le_of_ble_eq_true rfl) dL_law_680 ⟨by omega, by omega⟩ (fun H locs hI hS => ?_)
  refine lv_istore (lv' := [(6, .int bb), (5, .int (wrZ [pw_ioX, pw_neX, pw_iaX] o r).1), (0, .ref b), (1, .ref (ad1 0)), (2, .ref (adm 0)), (3, .ref ob), (4, .int (nI i))]) hx hb dL_law_683 hl (by decide) rfl (fun ls hl => ?_)
  exact lw_tailZ hC hRR' hI hS hl (ht.trans wrZ_1) (wrZ_ok (by decide) hv) (fun A => kX4_thrown l D cA A adm rfl) ⟨by omega, by omega⟩ dL_law_685 dL_law_686 dL_law_689 dL_law_691 dL_law_696 dL_law_698 dL_law_701 dL_law_702 dL_law_703 dL_law_704 dL_law_706 dL_law_709 dL_law_710 dL_law_713 dL_law_714 dL_law_715 dL_law_720 (by decide) K
set_option maxHeartbeats 4000000 in
set_option maxRecDepth 100000 in
theorem lc_isLive (hC : lwC p s m meth c b L xs D cA cL) (hlt : l.stackTraces = false) (hop : ∀ a1 : Int32, opZ RR [pw_ioX] (fX3_isLive a1) (fX4_isLive a1)) (hi : i + 5 ≤ L) (hf : cells + 14 ≤ 601024 ∧ slots + 77 ≤ 7293034) (K : lwK RR p l e s m below meth c b D cA cL Q 1613 i (cells + 14) (slots + 77)) : lwK RR p l e s m below meth c b D cA cL Q 723 i cells slots := by
  intro H locs ls ad adm σ μ ob o hRR hI hS hl
  obtain ⟨⟨hx, hb, hml, hown, hts⟩, -⟩ := id hC
  obtain ⟨r, σ', bb, μ', hf1, hg1, hRR', hE, ht, hv⟩ := hop (xs (i + 1)) σ μ hRR
  refine lv_aload_n hx hb dL_law_723 rfl (lv_at hl 1 rfl) ?_
  refine lw_sld hC hS hl 0 4 rfl rfl 1 (by omega) (by decide) dL_law_724 dL_law_725 dL_law_727 dL_law_728 dL_law_729 ?_
  refine lv_aload_n hx hb dL_law_730 rfl (lv_at hl 3 rfl) ?_
  refine lw_W (n := 3) (As := [.ref (ad 0), .int (xs (i + 1)), .ref ob]) hC hI hS (kL_isLive l D cA cL _ ad hlt hf1 hE) wA_329 rfl (by decide +kernel) wA_327 wA_328 ⟨rfl, rfl, Nat.le_of_ble_eq_true rfl, Nat.le_of_ble_eq_true rfl⟩ rfl hl.1 rfl (Nat.le_of_ble_eq_true rfl) dL_law_731 ⟨by omega, by omega⟩ (fun ad1 H locs hag hI hS => ?_)
  refine W.widen (k := cells + 14) (n := slots + 77) (by omega) (by omega) ?_
  have hl : lv_has ls 9 [(0, .ref b), (1, .ref (ad1 0)), (2, .ref (adm 0)), (3, .ref ob), (4, .int (nI i))] := by rw [hag 0 (by decide)]; exact hl
  refine lv_istore (lv' := [(5, .int (wrZ [pw_ioX] o r).1), (0, .ref b), (1, .ref (ad1 0)), (2, .ref (adm 0)), (3, .ref ob), (4, .int (nI i))]) hx hb dL_law_734 hl (by decide) rfl (fun ls hl => ?_)
  refine lv_aload_n hx hb dL_law_736 rfl (lv_at hl 3 rfl) ?_
  refine lw_sld hC hS hl 1 5 rfl rfl 1 (by omega) (by decide) dL_law_737 dL_law_738 dL_law_740 dL_law_741 dL_law_742 ?_
  refine lw_M (As := [.int (xs (i + 1))]) hC hI hS (kX4_isLive l D cA _ adm hg1) ykX4_isLive wA_334 wA_335 wA_336 rfl ⟨rfl, rfl, Nat.le_of_ble_eq_true rfl, Nat.le_of_ble_eq_true rfl⟩ rfl hl.1 rfl (Nat.le_of_ble_eq_true rfl) dL_law_743 ⟨by omega, by omega⟩ (fun H locs hI hS => ?_)
  refine lv_istore (lv' := [(6, .int bb), (5, .int (wrZ [pw_ioX] o r).1), (0, .ref b), (1, .ref (ad1 0)), (2, .ref (adm 0)), (3, .ref ob), (4, .int (nI i))]) hx hb dL_law_746 hl (by decide) rfl (fun ls hl => ?_)
  exact lw_tailZ hC hRR' hI hS hl (ht.trans wrZ_1) (wrZ_ok (by decide) hv) (fun A => kX4_thrown l D cA A adm rfl) ⟨by omega, by omega⟩ dL_law_748 dL_law_749 dL_law_752 dL_law_754 dL_law_759 dL_law_761 dL_law_764 dL_law_765 dL_law_766 dL_law_767 dL_law_769 dL_law_772 dL_law_773 dL_law_776 dL_law_777 dL_law_778 dL_law_783 (by decide) K
set_option maxHeartbeats 4000000 in
set_option maxRecDepth 100000 in
theorem lc_mapping (hC : lwC p s m meth c b L xs D cA cL) (hlt : l.stackTraces = false) (hop : ∀ a1 a2 : Int32, opI RR [pw_ioX] (fX3_mapping a1 a2) (fX4_mapping a1 a2)) (hi : i + 5 ≤ L) (hf : cells + 14 ≤ 601024 ∧ slots + 77 ≤ 7293034) (K : lwK RR p l e s m below meth c b D cA cL Q 1613 i (cells + 14) (slots + 77)) : lwK RR p l e s m below meth c b D cA cL Q 786 i cells slots := by
  intro H locs ls ad adm σ μ ob o hRR hI hS hl
  obtain ⟨⟨hx, hb, hml, hown, hts⟩, -⟩ := id hC
  obtain ⟨r, σ', bb, μ', hf1, hg1, hRR', hE, ht, hv⟩ := hop (xs (i + 1)) (xs (i + 2)) σ μ hRR
  refine lv_aload_n hx hb dL_law_786 rfl (lv_at hl 1 rfl) ?_
  refine lw_sld hC hS hl 0 4 rfl rfl 1 (by omega) (by decide) dL_law_787 dL_law_788 dL_law_790 dL_law_791 dL_law_792 ?_
  refine lw_sld hC hS hl 0 4 rfl rfl 2 (by omega) (by decide) dL_law_793 dL_law_794 dL_law_796 dL_law_797 dL_law_798 ?_
  refine lv_aload_n hx hb dL_law_799 rfl (lv_at hl 3 rfl) ?_
  refine lw_W (n := 4) (As := [.ref (ad 0), .int (xs (i + 1)), .int (xs (i + 2)), .ref ob]) hC hI hS (kL_mapping l D cA cL _ ad hlt hf1 hE) wA_340 rfl (by decide +kernel) wA_338 wA_339 ⟨rfl, rfl, Nat.le_of_ble_eq_true rfl, Nat.le_of_ble_eq_true rfl⟩ rfl hl.1 rfl (Nat.le_of_ble_eq_true rfl) dL_law_800 ⟨by omega, by omega⟩ (fun ad1 H locs hag hI hS => ?_)
  refine W.widen (k := cells + 14) (n := slots + 77) (by omega) (by omega) ?_
  have hl : lv_has ls 9 [(0, .ref b), (1, .ref (ad1 0)), (2, .ref (adm 0)), (3, .ref ob), (4, .int (nI i))] := by rw [hag 0 (by decide)]; exact hl
  refine lv_istore (lv' := [(5, .int (wrI [pw_ioX] o r).1), (0, .ref b), (1, .ref (ad1 0)), (2, .ref (adm 0)), (3, .ref ob), (4, .int (nI i))]) hx hb dL_law_803 hl (by decide) rfl (fun ls hl => ?_)
  refine lv_aload_n hx hb dL_law_805 rfl (lv_at hl 3 rfl) ?_
  refine lw_sld hC hS hl 1 5 rfl rfl 1 (by omega) (by decide) dL_law_806 dL_law_807 dL_law_809 dL_law_810 dL_law_811 ?_
  refine lw_sld hC hS hl 1 5 rfl rfl 2 (by omega) (by decide) dL_law_812 dL_law_813 dL_law_815 dL_law_816 dL_law_817 ?_
  refine lw_M (As := [.int (xs (i + 1)), .int (xs (i + 2))]) hC hI hS (kX4_mapping l D cA _ adm hg1) ykX4_mapping wA_345 wA_346 wA_347 rfl ⟨rfl, rfl, Nat.le_of_ble_eq_true rfl, Nat.le_of_ble_eq_true rfl⟩ rfl hl.1 rfl (Nat.le_of_ble_eq_true rfl) dL_law_818 ⟨by omega, by omega⟩ (fun H locs hI hS => ?_)
  refine lv_istore (lv' := [(6, .int bb), (5, .int (wrI [pw_ioX] o r).1), (0, .ref b), (1, .ref (ad1 0)), (2, .ref (adm 0)), (3, .ref ob), (4, .int (nI i))]) hx hb dL_law_821 hl (by decide) rfl (fun ls hl => ?_)
  exact lw_tailI (i5 := 0) (i6 := 0) (t0 := 0) hC hRR' hI hS hl (ht.trans wrI_1) (wrI_ok (by decide) hv) (fun A => kX4_thrown l D cA A adm rfl) ⟨by omega, by omega⟩ dL_law_823 dL_law_824 dL_law_827 dL_law_829 dL_law_834 dL_law_836 dL_law_839 dL_law_840 dL_law_841 dL_law_842 dL_law_844 dL_law_845 dL_law_846 dL_law_851 (by decide) K
set_option maxHeartbeats 4000000 in
set_option maxRecDepth 100000 in
theorem lc_read (hC : lwC p s m meth c b L xs D cA cL) (hlt : l.stackTraces = false) (hop : ∀ a1 a2 : Int32, opI RR [pw_ioX, pw_neX, pw_iaX, pw_isX] (fX3_read a1 a2) (fX4_read a1 a2)) (hi : i + 5 ≤ L) (hf : cells + 14 ≤ 601024 ∧ slots + 77 ≤ 7293034) (K : lwK RR p l e s m below meth c b D cA cL Q 1613 i (cells + 14) (slots + 77)) : lwK RR p l e s m below meth c b D cA cL Q 854 i cells slots := by
  intro H locs ls ad adm σ μ ob o hRR hI hS hl
  obtain ⟨⟨hx, hb, hml, hown, hts⟩, -⟩ := id hC
  obtain ⟨r, σ', bb, μ', hf1, hg1, hRR', hE, ht, hv⟩ := hop (xs (i + 1)) (xs (i + 2)) σ μ hRR
  refine lv_aload_n hx hb dL_law_854 rfl (lv_at hl 1 rfl) ?_
  refine lw_sld hC hS hl 0 4 rfl rfl 1 (by omega) (by decide) dL_law_855 dL_law_856 dL_law_858 dL_law_859 dL_law_860 ?_
  refine lw_sld hC hS hl 0 4 rfl rfl 2 (by omega) (by decide) dL_law_861 dL_law_862 dL_law_864 dL_law_865 dL_law_866 ?_
  refine lv_aload_n hx hb dL_law_867 rfl (lv_at hl 3 rfl) ?_
  refine lw_W (n := 4) (As := [.ref (ad 0), .int (xs (i + 1)), .int (xs (i + 2)), .ref ob]) hC hI hS (kL_read l D cA cL _ ad hlt hf1 hE) wA_355 rfl (by decide +kernel) wA_353 wA_354 ⟨rfl, rfl, Nat.le_of_ble_eq_true rfl, Nat.le_of_ble_eq_true rfl⟩ rfl hl.1 rfl (Nat.le_of_ble_eq_true rfl) dL_law_868 ⟨by omega, by omega⟩ (fun ad1 H locs hag hI hS => ?_)
  refine W.widen (k := cells + 14) (n := slots + 77) (by omega) (by omega) ?_
  have hl : lv_has ls 9 [(0, .ref b), (1, .ref (ad1 0)), (2, .ref (adm 0)), (3, .ref ob), (4, .int (nI i))] := by rw [hag 0 (by decide)]; exact hl
  refine lv_istore (lv' := [(5, .int (wrI [pw_ioX, pw_neX, pw_iaX, pw_isX] o r).1), (0, .ref b), (1, .ref (ad1 0)), (2, .ref (adm 0)), (3, .ref ob), (4, .int (nI i))]) hx hb dL_law_871 hl (by decide) rfl (fun ls hl => ?_)
  refine lv_aload_n hx hb dL_law_873 rfl (lv_at hl 3 rfl) ?_
  refine lw_sld hC hS hl 1 5 rfl rfl 1 (by omega) (by decide) dL_law_874 dL_law_875 dL_law_877 dL_law_878 dL_law_879 ?_
  refine lw_sld hC hS hl 1 5 rfl rfl 2 (by omega) (by decide) dL_law_880 dL_law_881 dL_law_883 dL_law_884 dL_law_885 ?_
  refine lw_M (As := [.int (xs (i + 1)), .int (xs (i + 2))]) hC hI hS (kX4_read l D cA _ adm hg1) ykX4_read wA_450 wA_451 wA_452 rfl ⟨rfl, rfl, Nat.le_of_ble_eq_true rfl, Nat.le_of_ble_eq_true rfl⟩ rfl hl.1 rfl (Nat.le_of_ble_eq_true rfl) dL_law_886 ⟨by omega, by omega⟩ (fun H locs hI hS => ?_)
  refine lv_istore (lv' := [(6, .int bb), (5, .int (wrI [pw_ioX, pw_neX, pw_iaX, pw_isX] o r).1), (0, .ref b), (1, .ref (ad1 0)), (2, .ref (adm 0)), (3, .ref ob), (4, .int (nI i))]) hx hb dL_law_889 hl (by decide) rfl (fun ls hl => ?_)
  exact lw_tailI (i5 := 0) (i6 := 0) (t0 := 0) hC hRR' hI hS hl (ht.trans wrI_1) (wrI_ok (by decide) hv) (fun A => kX4_thrown l D cA A adm rfl) ⟨by omega, by omega⟩ dL_law_891 dL_law_892 dL_law_895 dL_law_897 dL_law_902 dL_law_904 dL_law_907 dL_law_908 dL_law_909 dL_law_910 dL_law_912 dL_law_913 dL_law_914 dL_law_919 (by decide) K
set_option maxHeartbeats 4000000 in
set_option maxRecDepth 100000 in
theorem lc_write (hC : lwC p s m meth c b L xs D cA cL) (hlt : l.stackTraces = false) (hop : ∀ a1 a2 a3 : Int32, opI RR [pw_ioX, pw_neX, pw_iaX, pw_isX] (fX3_write a1 a2 a3) (fX4_write a1 a2 a3)) (hi : i + 5 ≤ L) (hf : cells + 14 ≤ 601024 ∧ slots + 77 ≤ 7293034) (K : lwK RR p l e s m below meth c b D cA cL Q 1613 i (cells + 14) (slots + 77)) : lwK RR p l e s m below meth c b D cA cL Q 922 i cells slots := by
  intro H locs ls ad adm σ μ ob o hRR hI hS hl
  obtain ⟨⟨hx, hb, hml, hown, hts⟩, -⟩ := id hC
  obtain ⟨r, σ', bb, μ', hf1, hg1, hRR', hE, ht, hv⟩ := hop (xs (i + 1)) (xs (i + 2)) (xs (i + 3)) σ μ hRR
  refine lv_aload_n hx hb dL_law_922 rfl (lv_at hl 1 rfl) ?_
  refine lw_sld hC hS hl 0 4 rfl rfl 1 (by omega) (by decide) dL_law_923 dL_law_924 dL_law_926 dL_law_927 dL_law_928 ?_
  refine lw_sld hC hS hl 0 4 rfl rfl 2 (by omega) (by decide) dL_law_929 dL_law_930 dL_law_932 dL_law_933 dL_law_934 ?_
  refine lw_sld hC hS hl 0 4 rfl rfl 3 (by omega) (by decide) dL_law_935 dL_law_936 dL_law_938 dL_law_939 dL_law_940 ?_
  refine lv_aload_n hx hb dL_law_941 rfl (lv_at hl 3 rfl) ?_
  refine lw_W (n := 5) (As := [.ref (ad 0), .int (xs (i + 1)), .int (xs (i + 2)), .int (xs (i + 3)), .ref ob]) hC hI hS (kL_write l D cA cL _ ad hlt hf1 hE) wA_509 rfl (by decide +kernel) wA_507 wA_508 ⟨rfl, rfl, Nat.le_of_ble_eq_true rfl, Nat.le_of_ble_eq_true rfl⟩ rfl hl.1 rfl (Nat.le_of_ble_eq_true rfl) dL_law_942 ⟨by omega, by omega⟩ (fun ad1 H locs hag hI hS => ?_)
  refine W.widen (k := cells + 14) (n := slots + 77) (by omega) (by omega) ?_
  have hl : lv_has ls 9 [(0, .ref b), (1, .ref (ad1 0)), (2, .ref (adm 0)), (3, .ref ob), (4, .int (nI i))] := by rw [hag 0 (by decide)]; exact hl
  refine lv_istore (lv' := [(5, .int (wrI [pw_ioX, pw_neX, pw_iaX, pw_isX] o r).1), (0, .ref b), (1, .ref (ad1 0)), (2, .ref (adm 0)), (3, .ref ob), (4, .int (nI i))]) hx hb dL_law_945 hl (by decide) rfl (fun ls hl => ?_)
  refine lv_aload_n hx hb dL_law_947 rfl (lv_at hl 3 rfl) ?_
  refine lw_sld hC hS hl 1 5 rfl rfl 1 (by omega) (by decide) dL_law_948 dL_law_949 dL_law_951 dL_law_952 dL_law_953 ?_
  refine lw_sld hC hS hl 1 5 rfl rfl 2 (by omega) (by decide) dL_law_954 dL_law_955 dL_law_957 dL_law_958 dL_law_959 ?_
  refine lw_sld hC hS hl 1 5 rfl rfl 3 (by omega) (by decide) dL_law_960 dL_law_961 dL_law_963 dL_law_964 dL_law_965 ?_
  refine lw_M (As := [.int (xs (i + 1)), .int (xs (i + 2)), .int (xs (i + 3))]) hC hI hS (kX4_write l D cA _ adm hg1) ykX4_write wA_522 wA_523 wA_524 rfl ⟨rfl, rfl, Nat.le_of_ble_eq_true rfl, Nat.le_of_ble_eq_true rfl⟩ rfl hl.1 rfl (Nat.le_of_ble_eq_true rfl) dL_law_966 ⟨by omega, by omega⟩ (fun H locs hI hS => ?_)
  refine lv_istore (lv' := [(6, .int bb), (5, .int (wrI [pw_ioX, pw_neX, pw_iaX, pw_isX] o r).1), (0, .ref b), (1, .ref (ad1 0)), (2, .ref (adm 0)), (3, .ref ob), (4, .int (nI i))]) hx hb dL_law_969 hl (by decide) rfl (fun ls hl => ?_)
  exact lw_tailI (i5 := 0) (i6 := 0) (t0 := 0) hC hRR' hI hS hl (ht.trans wrI_1) (wrI_ok (by decide) hv) (fun A => kX4_thrown l D cA A adm rfl) ⟨by omega, by omega⟩ dL_law_971 dL_law_972 dL_law_975 dL_law_977 dL_law_982 dL_law_984 dL_law_987 dL_law_988 dL_law_989 dL_law_990 dL_law_992 dL_law_993 dL_law_994 dL_law_999 (by decide) K
set_option maxHeartbeats 4000000 in
set_option maxRecDepth 100000 in
theorem lc_sync (hC : lwC p s m meth c b L xs D cA cL) (hop : opN RR fX3_sync fX4_sync) (hf : cells + 14 ≤ 601024 ∧ slots + 77 ≤ 7293034) (K : lwK RR p l e s m below meth c b D cA cL Q 1613 i (cells + 14) (slots + 77)) : lwK RR p l e s m below meth c b D cA cL Q 1002 i cells slots := by
  intro H locs ls ad adm σ μ ob o hRR hI hS hl
  obtain ⟨⟨hx, hb, hml, hown, hts⟩, -⟩ := id hC
  obtain ⟨r, σ', μ', hf1, hg1, hRR'⟩ := hop σ μ hRR
  refine W.widen (k := cells + 14) (n := slots + 77) (by omega) (by omega) ?_
  refine lv_aload_n hx hb dL_law_1002 rfl (lv_at hl 1 rfl) ?_
  refine lwr_P hC hI hS (kX3_sync l D cA _ ad hf1) ykX3_sync wA_526 wA_527 wA_528 rfl ⟨rfl, rfl, Nat.le_of_ble_eq_true rfl, Nat.le_of_ble_eq_true rfl⟩ hl.1 rfl (Nat.le_of_ble_eq_true rfl) dL_law_1003 ⟨by omega, by omega⟩ (fun H locs hI hS => ?_)
  refine lv_aload_n hx hb dL_law_1006 rfl (lv_at hl 2 rfl) ?_
  refine lw_M (As := []) hC hI hS (kX4_sync l D cA _ adm hg1) ykX4_sync wA_530 wA_531 wA_532 rfl ⟨rfl, rfl, Nat.le_of_ble_eq_true rfl, Nat.le_of_ble_eq_true rfl⟩ rfl hl.1 rfl (Nat.le_of_ble_eq_true rfl) dL_law_1007 ⟨by omega, by omega⟩ (fun H locs hI hS => ?_)
  exact lv_icmp_eq (tgt := 1613) hx hb dL_law_1010 (by decide) (fun _ => K _ _ _ _ _ _ _ _ _ hRR' hI hS hl) (fun h => absurd rfl h)
set_option maxHeartbeats 4000000 in
set_option maxRecDepth 100000 in
theorem lc_time (hC : lwC p s m meth c b L xs D cA cL) (hop : opN RR fX3_time fX4_time) (hf : cells + 14 ≤ 601024 ∧ slots + 77 ≤ 7293034) (K : lwK RR p l e s m below meth c b D cA cL Q 1613 i (cells + 14) (slots + 77)) : lwK RR p l e s m below meth c b D cA cL Q 1015 i cells slots := by
  intro H locs ls ad adm σ μ ob o hRR hI hS hl
  obtain ⟨⟨hx, hb, hml, hown, hts⟩, -⟩ := id hC
  obtain ⟨r, σ', μ', hf1, hg1, hRR'⟩ := hop σ μ hRR
  refine W.widen (k := cells + 14) (n := slots + 77) (by omega) (by omega) ?_
  refine lv_aload_n hx hb dL_law_1015 rfl (lv_at hl 1 rfl) ?_
  refine lwr_P hC hI hS (kX3_time l D cA _ ad hf1) ykX3_time wA_534 wA_535 wA_536 rfl ⟨rfl, rfl, Nat.le_of_ble_eq_true rfl, Nat.le_of_ble_eq_true rfl⟩ hl.1 rfl (Nat.le_of_ble_eq_true rfl) dL_law_1016 ⟨by omega, by omega⟩ (fun H locs hI hS => ?_)
  refine lv_aload_n hx hb dL_law_1019 rfl (lv_at hl 2 rfl) ?_
  refine lw_M (As := []) hC hI hS (kX4_time l D cA _ adm hg1) ykX4_time wA_538 wA_539 wA_540 rfl ⟨rfl, rfl, Nat.le_of_ble_eq_true rfl, Nat.le_of_ble_eq_true rfl⟩ rfl hl.1 rfl (Nat.le_of_ble_eq_true rfl) dL_law_1020 ⟨by omega, by omega⟩ (fun H locs hI hS => ?_)
  exact lv_icmp_eq (tgt := 1613) hx hb dL_law_1023 (by decide) (fun _ => K _ _ _ _ _ _ _ _ _ hRR' hI hS hl) (fun h => absurd rfl h)
set_option maxHeartbeats 4000000 in
set_option maxRecDepth 100000 in
theorem lc_hand (hC : lwC p s m meth c b L xs D cA cL) (hop : opN RR fX3_hand fX4_hand) (hf : cells + 14 ≤ 601024 ∧ slots + 77 ≤ 7293034) (K : lwK RR p l e s m below meth c b D cA cL Q 1613 i (cells + 14) (slots + 77)) : lwK RR p l e s m below meth c b D cA cL Q 1028 i cells slots := by
  intro H locs ls ad adm σ μ ob o hRR hI hS hl
  obtain ⟨⟨hx, hb, hml, hown, hts⟩, -⟩ := id hC
  obtain ⟨r, σ', μ', hf1, hg1, hRR'⟩ := hop σ μ hRR
  refine W.widen (k := cells + 14) (n := slots + 77) (by omega) (by omega) ?_
  refine lv_aload_n hx hb dL_law_1028 rfl (lv_at hl 1 rfl) ?_
  refine lwr_P hC hI hS (kX3_hand l D cA _ ad hf1) ykX3_hand wA_542 wA_543 wA_544 rfl ⟨rfl, rfl, Nat.le_of_ble_eq_true rfl, Nat.le_of_ble_eq_true rfl⟩ hl.1 rfl (Nat.le_of_ble_eq_true rfl) dL_law_1029 ⟨by omega, by omega⟩ (fun H locs hI hS => ?_)
  refine lv_aload_n hx hb dL_law_1032 rfl (lv_at hl 2 rfl) ?_
  refine lw_M (As := []) hC hI hS (kX4_hand l D cA _ adm hg1) ykX4_hand wA_546 wA_547 wA_548 rfl ⟨rfl, rfl, Nat.le_of_ble_eq_true rfl, Nat.le_of_ble_eq_true rfl⟩ rfl hl.1 rfl (Nat.le_of_ble_eq_true rfl) dL_law_1033 ⟨by omega, by omega⟩ (fun H locs hI hS => ?_)
  exact lv_icmp_eq (tgt := 1613) hx hb dL_law_1036 (by decide) (fun _ => K _ _ _ _ _ _ _ _ _ hRR' hI hS hl) (fun h => absurd rfl h)
set_option maxHeartbeats 4000000 in
set_option maxRecDepth 100000 in
theorem lc_frameOf (hC : lwC p s m meth c b L xs D cA cL) (hlt : l.stackTraces = false) (hop : ∀ a1 a2 : Int32, opI RR [pw_ioX] (fX3_frameOf a1 a2) (fX4_frameOf a1 a2)) (hi : i + 5 ≤ L) (hf : cells + 14 ≤ 601024 ∧ slots + 77 ≤ 7293034) (K : lwK RR p l e s m below meth c b D cA cL Q 1613 i (cells + 14) (slots + 77)) : lwK RR p l e s m below meth c b D cA cL Q 1041 i cells slots := by
  intro H locs ls ad adm σ μ ob o hRR hI hS hl
  obtain ⟨⟨hx, hb, hml, hown, hts⟩, -⟩ := id hC
  obtain ⟨r, σ', bb, μ', hf1, hg1, hRR', hE, ht, hv⟩ := hop (xs (i + 1)) (xs (i + 2)) σ μ hRR
  refine lv_aload_n hx hb dL_law_1041 rfl (lv_at hl 1 rfl) ?_
  refine lw_sld hC hS hl 0 4 rfl rfl 1 (by omega) (by decide) dL_law_1042 dL_law_1043 dL_law_1045 dL_law_1046 dL_law_1047 ?_
  refine lw_sld hC hS hl 0 4 rfl rfl 2 (by omega) (by decide) dL_law_1048 dL_law_1049 dL_law_1051 dL_law_1052 dL_law_1053 ?_
  refine lv_aload_n hx hb dL_law_1054 rfl (lv_at hl 3 rfl) ?_
  refine lw_W (n := 4) (As := [.ref (ad 0), .int (xs (i + 1)), .int (xs (i + 2)), .ref ob]) hC hI hS (kL_frameOf l D cA cL _ ad hlt hf1 hE) wA_552 rfl (by decide +kernel) wA_550 wA_551 ⟨rfl, rfl, Nat.le_of_ble_eq_true rfl, Nat.le_of_ble_eq_true rfl⟩ rfl hl.1 rfl (Nat.le_of_ble_eq_true rfl) dL_law_1055 ⟨by omega, by omega⟩ (fun ad1 H locs hag hI hS => ?_)
  refine W.widen (k := cells + 14) (n := slots + 77) (by omega) (by omega) ?_
  have hl : lv_has ls 9 [(0, .ref b), (1, .ref (ad1 0)), (2, .ref (adm 0)), (3, .ref ob), (4, .int (nI i))] := by rw [hag 0 (by decide)]; exact hl
  refine lv_istore (lv' := [(5, .int (wrI [pw_ioX] o r).1), (0, .ref b), (1, .ref (ad1 0)), (2, .ref (adm 0)), (3, .ref ob), (4, .int (nI i))]) hx hb dL_law_1058 hl (by decide) rfl (fun ls hl => ?_)
  refine lv_aload_n hx hb dL_law_1060 rfl (lv_at hl 3 rfl) ?_
  refine lw_sld hC hS hl 1 5 rfl rfl 1 (by omega) (by decide) dL_law_1061 dL_law_1062 dL_law_1064 dL_law_1065 dL_law_1066 ?_
  refine lw_sld hC hS hl 1 5 rfl rfl 2 (by omega) (by decide) dL_law_1067 dL_law_1068 dL_law_1070 dL_law_1071 dL_law_1072 ?_
  refine lw_M (As := [.int (xs (i + 1)), .int (xs (i + 2))]) hC hI hS (kX4_frameOf l D cA _ adm hg1) ykX4_frameOf wA_557 wA_558 wA_559 rfl ⟨rfl, rfl, Nat.le_of_ble_eq_true rfl, Nat.le_of_ble_eq_true rfl⟩ rfl hl.1 rfl (Nat.le_of_ble_eq_true rfl) dL_law_1073 ⟨by omega, by omega⟩ (fun H locs hI hS => ?_)
  refine lv_istore (lv' := [(6, .int bb), (5, .int (wrI [pw_ioX] o r).1), (0, .ref b), (1, .ref (ad1 0)), (2, .ref (adm 0)), (3, .ref ob), (4, .int (nI i))]) hx hb dL_law_1076 hl (by decide) rfl (fun ls hl => ?_)
  exact lw_tailI (i5 := 0) (i6 := 0) (t0 := 0) hC hRR' hI hS hl (ht.trans wrI_1) (wrI_ok (by decide) hv) (fun A => kX4_thrown l D cA A adm rfl) ⟨by omega, by omega⟩ dL_law_1078 dL_law_1079 dL_law_1082 dL_law_1084 dL_law_1089 dL_law_1091 dL_law_1094 dL_law_1095 dL_law_1096 dL_law_1097 dL_law_1099 dL_law_1100 dL_law_1101 dL_law_1106 (by decide) K
set_option maxHeartbeats 4000000 in
set_option maxRecDepth 100000 in
theorem lc_slotOf (hC : lwC p s m meth c b L xs D cA cL) (hlt : l.stackTraces = false) (hop : ∀ a1 a2 : Int32, opI RR [pw_ioX] (fX3_slotOf a1 a2) (fX4_slotOf a1 a2)) (hi : i + 5 ≤ L) (hf : cells + 14 ≤ 601024 ∧ slots + 77 ≤ 7293034) (K : lwK RR p l e s m below meth c b D cA cL Q 1613 i (cells + 14) (slots + 77)) : lwK RR p l e s m below meth c b D cA cL Q 1109 i cells slots := by
  intro H locs ls ad adm σ μ ob o hRR hI hS hl
  obtain ⟨⟨hx, hb, hml, hown, hts⟩, -⟩ := id hC
  obtain ⟨r, σ', bb, μ', hf1, hg1, hRR', hE, ht, hv⟩ := hop (xs (i + 1)) (xs (i + 2)) σ μ hRR
  refine lv_aload_n hx hb dL_law_1109 rfl (lv_at hl 1 rfl) ?_
  refine lw_sld hC hS hl 0 4 rfl rfl 1 (by omega) (by decide) dL_law_1110 dL_law_1111 dL_law_1113 dL_law_1114 dL_law_1115 ?_
  refine lw_sld hC hS hl 0 4 rfl rfl 2 (by omega) (by decide) dL_law_1116 dL_law_1117 dL_law_1119 dL_law_1120 dL_law_1121 ?_
  refine lv_aload_n hx hb dL_law_1122 rfl (lv_at hl 3 rfl) ?_
  refine lw_W (n := 4) (As := [.ref (ad 0), .int (xs (i + 1)), .int (xs (i + 2)), .ref ob]) hC hI hS (kL_slotOf l D cA cL _ ad hlt hf1 hE) wA_567 rfl (by decide +kernel) wA_565 wA_566 ⟨rfl, rfl, Nat.le_of_ble_eq_true rfl, Nat.le_of_ble_eq_true rfl⟩ rfl hl.1 rfl (Nat.le_of_ble_eq_true rfl) dL_law_1123 ⟨by omega, by omega⟩ (fun ad1 H locs hag hI hS => ?_)
  refine W.widen (k := cells + 14) (n := slots + 77) (by omega) (by omega) ?_
  have hl : lv_has ls 9 [(0, .ref b), (1, .ref (ad1 0)), (2, .ref (adm 0)), (3, .ref ob), (4, .int (nI i))] := by rw [hag 0 (by decide)]; exact hl
  refine lv_istore (lv' := [(5, .int (wrI [pw_ioX] o r).1), (0, .ref b), (1, .ref (ad1 0)), (2, .ref (adm 0)), (3, .ref ob), (4, .int (nI i))]) hx hb dL_law_1126 hl (by decide) rfl (fun ls hl => ?_)
  refine lv_aload_n hx hb dL_law_1128 rfl (lv_at hl 3 rfl) ?_
  refine lw_sld hC hS hl 1 5 rfl rfl 1 (by omega) (by decide) dL_law_1129 dL_law_1130 dL_law_1132 dL_law_1133 dL_law_1134 ?_
  refine lw_sld hC hS hl 1 5 rfl rfl 2 (by omega) (by decide) dL_law_1135 dL_law_1136 dL_law_1138 dL_law_1139 dL_law_1140 ?_
  refine lw_M (As := [.int (xs (i + 1)), .int (xs (i + 2))]) hC hI hS (kX4_slotOf l D cA _ adm hg1) ykX4_slotOf wA_572 wA_573 wA_574 rfl ⟨rfl, rfl, Nat.le_of_ble_eq_true rfl, Nat.le_of_ble_eq_true rfl⟩ rfl hl.1 rfl (Nat.le_of_ble_eq_true rfl) dL_law_1141 ⟨by omega, by omega⟩ (fun H locs hI hS => ?_)
  refine lv_istore (lv' := [(6, .int bb), (5, .int (wrI [pw_ioX] o r).1), (0, .ref b), (1, .ref (ad1 0)), (2, .ref (adm 0)), (3, .ref ob), (4, .int (nI i))]) hx hb dL_law_1144 hl (by decide) rfl (fun ls hl => ?_)
  exact lw_tailI (i5 := 0) (i6 := 0) (t0 := 0) hC hRR' hI hS hl (ht.trans wrI_1) (wrI_ok (by decide) hv) (fun A => kX4_thrown l D cA A adm rfl) ⟨by omega, by omega⟩ dL_law_1146 dL_law_1147 dL_law_1150 dL_law_1152 dL_law_1157 dL_law_1159 dL_law_1162 dL_law_1163 dL_law_1164 dL_law_1165 dL_law_1167 dL_law_1168 dL_law_1169 dL_law_1174 (by decide) K
set_option maxHeartbeats 4000000 in
set_option maxRecDepth 100000 in
theorem lc_sharersOf (hC : lwC p s m meth c b L xs D cA cL) (hlt : l.stackTraces = false) (hop : ∀ a1 a2 : Int32, opI RR [pw_ioX] (fX3_sharersOf a1 a2) (fX4_sharersOf a1 a2)) (hi : i + 5 ≤ L) (hf : cells + 14 ≤ 601024 ∧ slots + 77 ≤ 7293034) (K : lwK RR p l e s m below meth c b D cA cL Q 1613 i (cells + 14) (slots + 77)) : lwK RR p l e s m below meth c b D cA cL Q 1177 i cells slots := by
  intro H locs ls ad adm σ μ ob o hRR hI hS hl
  obtain ⟨⟨hx, hb, hml, hown, hts⟩, -⟩ := id hC
  obtain ⟨r, σ', bb, μ', hf1, hg1, hRR', hE, ht, hv⟩ := hop (xs (i + 1)) (xs (i + 2)) σ μ hRR
  refine lv_aload_n hx hb dL_law_1177 rfl (lv_at hl 1 rfl) ?_
  refine lw_sld hC hS hl 0 4 rfl rfl 1 (by omega) (by decide) dL_law_1178 dL_law_1179 dL_law_1181 dL_law_1182 dL_law_1183 ?_
  refine lw_sld hC hS hl 0 4 rfl rfl 2 (by omega) (by decide) dL_law_1184 dL_law_1185 dL_law_1187 dL_law_1188 dL_law_1189 ?_
  refine lv_aload_n hx hb dL_law_1190 rfl (lv_at hl 3 rfl) ?_
  refine lw_W (n := 4) (As := [.ref (ad 0), .int (xs (i + 1)), .int (xs (i + 2)), .ref ob]) hC hI hS (kL_sharersOf l D cA cL _ ad hlt hf1 hE) wA_582 rfl (by decide +kernel) wA_580 wA_581 ⟨rfl, rfl, Nat.le_of_ble_eq_true rfl, Nat.le_of_ble_eq_true rfl⟩ rfl hl.1 rfl (Nat.le_of_ble_eq_true rfl) dL_law_1191 ⟨by omega, by omega⟩ (fun ad1 H locs hag hI hS => ?_)
  refine W.widen (k := cells + 14) (n := slots + 77) (by omega) (by omega) ?_
  have hl : lv_has ls 9 [(0, .ref b), (1, .ref (ad1 0)), (2, .ref (adm 0)), (3, .ref ob), (4, .int (nI i))] := by rw [hag 0 (by decide)]; exact hl
  refine lv_istore (lv' := [(5, .int (wrI [pw_ioX] o r).1), (0, .ref b), (1, .ref (ad1 0)), (2, .ref (adm 0)), (3, .ref ob), (4, .int (nI i))]) hx hb dL_law_1194 hl (by decide) rfl (fun ls hl => ?_)
  refine lv_aload_n hx hb dL_law_1196 rfl (lv_at hl 3 rfl) ?_
  refine lw_sld hC hS hl 1 5 rfl rfl 1 (by omega) (by decide) dL_law_1197 dL_law_1198 dL_law_1200 dL_law_1201 dL_law_1202 ?_
  refine lw_sld hC hS hl 1 5 rfl rfl 2 (by omega) (by decide) dL_law_1203 dL_law_1204 dL_law_1206 dL_law_1207 dL_law_1208 ?_
  refine lw_M (As := [.int (xs (i + 1)), .int (xs (i + 2))]) hC hI hS (kX4_sharersOf l D cA _ adm hg1) ykX4_sharersOf wA_587 wA_588 wA_589 rfl ⟨rfl, rfl, Nat.le_of_ble_eq_true rfl, Nat.le_of_ble_eq_true rfl⟩ rfl hl.1 rfl (Nat.le_of_ble_eq_true rfl) dL_law_1209 ⟨by omega, by omega⟩ (fun H locs hI hS => ?_)
  refine lv_istore (lv' := [(6, .int bb), (5, .int (wrI [pw_ioX] o r).1), (0, .ref b), (1, .ref (ad1 0)), (2, .ref (adm 0)), (3, .ref ob), (4, .int (nI i))]) hx hb dL_law_1212 hl (by decide) rfl (fun ls hl => ?_)
  exact lw_tailI (i5 := 0) (i6 := 0) (t0 := 0) hC hRR' hI hS hl (ht.trans wrI_1) (wrI_ok (by decide) hv) (fun A => kX4_thrown l D cA A adm rfl) ⟨by omega, by omega⟩ dL_law_1214 dL_law_1215 dL_law_1218 dL_law_1220 dL_law_1225 dL_law_1227 dL_law_1230 dL_law_1231 dL_law_1232 dL_law_1233 dL_law_1235 dL_law_1236 dL_law_1237 dL_law_1242 (by decide) K
set_option maxHeartbeats 4000000 in
set_option maxRecDepth 100000 in
theorem lc_frameState (hC : lwC p s m meth c b L xs D cA cL) (hlt : l.stackTraces = false) (hop : ∀ a1 : Int32, opI RR [pw_ioX] (fX3_frameState a1) (fX4_frameState a1)) (hi : i + 5 ≤ L) (hf : cells + 14 ≤ 601024 ∧ slots + 77 ≤ 7293034) (K : lwK RR p l e s m below meth c b D cA cL Q 1613 i (cells + 14) (slots + 77)) : lwK RR p l e s m below meth c b D cA cL Q 1245 i cells slots := by
  intro H locs ls ad adm σ μ ob o hRR hI hS hl
  obtain ⟨⟨hx, hb, hml, hown, hts⟩, -⟩ := id hC
  obtain ⟨r, σ', bb, μ', hf1, hg1, hRR', hE, ht, hv⟩ := hop (xs (i + 1)) σ μ hRR
  refine lv_aload_n hx hb dL_law_1245 rfl (lv_at hl 1 rfl) ?_
  refine lw_sld hC hS hl 0 4 rfl rfl 1 (by omega) (by decide) dL_law_1246 dL_law_1247 dL_law_1249 dL_law_1250 dL_law_1251 ?_
  refine lv_aload_n hx hb dL_law_1252 rfl (lv_at hl 3 rfl) ?_
  refine lw_W (n := 3) (As := [.ref (ad 0), .int (xs (i + 1)), .ref ob]) hC hI hS (kL_frameState l D cA cL _ ad hlt hf1 hE) wA_593 rfl (by decide +kernel) wA_591 wA_592 ⟨rfl, rfl, Nat.le_of_ble_eq_true rfl, Nat.le_of_ble_eq_true rfl⟩ rfl hl.1 rfl (Nat.le_of_ble_eq_true rfl) dL_law_1253 ⟨by omega, by omega⟩ (fun ad1 H locs hag hI hS => ?_)
  refine W.widen (k := cells + 14) (n := slots + 77) (by omega) (by omega) ?_
  have hl : lv_has ls 9 [(0, .ref b), (1, .ref (ad1 0)), (2, .ref (adm 0)), (3, .ref ob), (4, .int (nI i))] := by rw [hag 0 (by decide)]; exact hl
  refine lv_istore (lv' := [(5, .int (wrI [pw_ioX] o r).1), (0, .ref b), (1, .ref (ad1 0)), (2, .ref (adm 0)), (3, .ref ob), (4, .int (nI i))]) hx hb dL_law_1256 hl (by decide) rfl (fun ls hl => ?_)
  refine lv_aload_n hx hb dL_law_1258 rfl (lv_at hl 3 rfl) ?_
  refine lw_sld hC hS hl 1 5 rfl rfl 1 (by omega) (by decide) dL_law_1259 dL_law_1260 dL_law_1262 dL_law_1263 dL_law_1264 ?_
  refine lw_M (As := [.int (xs (i + 1))]) hC hI hS (kX4_frameState l D cA _ adm hg1) ykX4_frameState wA_602 wA_603 wA_604 rfl ⟨rfl, rfl, Nat.le_of_ble_eq_true rfl, Nat.le_of_ble_eq_true rfl⟩ rfl hl.1 rfl (Nat.le_of_ble_eq_true rfl) dL_law_1265 ⟨by omega, by omega⟩ (fun H locs hI hS => ?_)
  refine lv_istore (lv' := [(6, .int bb), (5, .int (wrI [pw_ioX] o r).1), (0, .ref b), (1, .ref (ad1 0)), (2, .ref (adm 0)), (3, .ref ob), (4, .int (nI i))]) hx hb dL_law_1268 hl (by decide) rfl (fun ls hl => ?_)
  exact lw_tailI (i5 := 0) (i6 := 0) (t0 := 0) hC hRR' hI hS hl (ht.trans wrI_1) (wrI_ok (by decide) hv) (fun A => kX4_thrown l D cA A adm rfl) ⟨by omega, by omega⟩ dL_law_1270 dL_law_1271 dL_law_1274 dL_law_1276 dL_law_1281 dL_law_1283 dL_law_1286 dL_law_1287 dL_law_1288 dL_law_1289 dL_law_1291 dL_law_1292 dL_law_1293 dL_law_1298 (by decide) K
set_option maxHeartbeats 4000000 in
set_option maxRecDepth 100000 in
theorem lc_latestUse (hC : lwC p s m meth c b L xs D cA cL) (hlt : l.stackTraces = false) (hop : ∀ a1 : Int32, opI RR [pw_ioX] (fX3_latestUse a1) (fX4_latestUse a1)) (hi : i + 5 ≤ L) (hf : cells + 14 ≤ 601024 ∧ slots + 77 ≤ 7293034) (K : lwK RR p l e s m below meth c b D cA cL Q 1613 i (cells + 14) (slots + 77)) : lwK RR p l e s m below meth c b D cA cL Q 1301 i cells slots := by
  intro H locs ls ad adm σ μ ob o hRR hI hS hl
  obtain ⟨⟨hx, hb, hml, hown, hts⟩, -⟩ := id hC
  obtain ⟨r, σ', bb, μ', hf1, hg1, hRR', hE, ht, hv⟩ := hop (xs (i + 1)) σ μ hRR
  refine lv_aload_n hx hb dL_law_1301 rfl (lv_at hl 1 rfl) ?_
  refine lw_sld hC hS hl 0 4 rfl rfl 1 (by omega) (by decide) dL_law_1302 dL_law_1303 dL_law_1305 dL_law_1306 dL_law_1307 ?_
  refine lv_aload_n hx hb dL_law_1308 rfl (lv_at hl 3 rfl) ?_
  refine lw_W (n := 3) (As := [.ref (ad 0), .int (xs (i + 1)), .ref ob]) hC hI hS (kL_latestUse l D cA cL _ ad hlt hf1 hE) wA_616 rfl (by decide +kernel) wA_614 wA_615 ⟨rfl, rfl, Nat.le_of_ble_eq_true rfl, Nat.le_of_ble_eq_true rfl⟩ rfl hl.1 rfl (Nat.le_of_ble_eq_true rfl) dL_law_1309 ⟨by omega, by omega⟩ (fun ad1 H locs hag hI hS => ?_)
  refine W.widen (k := cells + 14) (n := slots + 77) (by omega) (by omega) ?_
  have hl : lv_has ls 9 [(0, .ref b), (1, .ref (ad1 0)), (2, .ref (adm 0)), (3, .ref ob), (4, .int (nI i))] := by rw [hag 0 (by decide)]; exact hl
  refine lv_istore (lv' := [(5, .int (wrI [pw_ioX] o r).1), (0, .ref b), (1, .ref (ad1 0)), (2, .ref (adm 0)), (3, .ref ob), (4, .int (nI i))]) hx hb dL_law_1312 hl (by decide) rfl (fun ls hl => ?_)
  refine lv_aload_n hx hb dL_law_1314 rfl (lv_at hl 3 rfl) ?_
  refine lw_sld hC hS hl 1 5 rfl rfl 1 (by omega) (by decide) dL_law_1315 dL_law_1316 dL_law_1318 dL_law_1319 dL_law_1320 ?_
  refine lw_M (As := [.int (xs (i + 1))]) hC hI hS (kX4_latestUse l D cA _ adm hg1) ykX4_latestUse wA_621 wA_622 wA_623 rfl ⟨rfl, rfl, Nat.le_of_ble_eq_true rfl, Nat.le_of_ble_eq_true rfl⟩ rfl hl.1 rfl (Nat.le_of_ble_eq_true rfl) dL_law_1321 ⟨by omega, by omega⟩ (fun H locs hI hS => ?_)
  refine lv_istore (lv' := [(6, .int bb), (5, .int (wrI [pw_ioX] o r).1), (0, .ref b), (1, .ref (ad1 0)), (2, .ref (adm 0)), (3, .ref ob), (4, .int (nI i))]) hx hb dL_law_1324 hl (by decide) rfl (fun ls hl => ?_)
  exact lw_tailI (i5 := 0) (i6 := 0) (t0 := 0) hC hRR' hI hS hl (ht.trans wrI_1) (wrI_ok (by decide) hv) (fun A => kX4_thrown l D cA A adm rfl) ⟨by omega, by omega⟩ dL_law_1326 dL_law_1327 dL_law_1330 dL_law_1332 dL_law_1337 dL_law_1339 dL_law_1342 dL_law_1343 dL_law_1344 dL_law_1345 dL_law_1347 dL_law_1348 dL_law_1349 dL_law_1354 (by decide) K
set_option maxHeartbeats 4000000 in
set_option maxRecDepth 100000 in
theorem lc_isReferenced (hC : lwC p s m meth c b L xs D cA cL) (hlt : l.stackTraces = false) (hop : ∀ a1 : Int32, opZ RR [pw_ioX] (fX3_isReferenced a1) (fX4_isReferenced a1)) (hi : i + 5 ≤ L) (hf : cells + 14 ≤ 601024 ∧ slots + 77 ≤ 7293034) (K : lwK RR p l e s m below meth c b D cA cL Q 1613 i (cells + 14) (slots + 77)) : lwK RR p l e s m below meth c b D cA cL Q 1357 i cells slots := by
  intro H locs ls ad adm σ μ ob o hRR hI hS hl
  obtain ⟨⟨hx, hb, hml, hown, hts⟩, -⟩ := id hC
  obtain ⟨r, σ', bb, μ', hf1, hg1, hRR', hE, ht, hv⟩ := hop (xs (i + 1)) σ μ hRR
  refine lv_aload_n hx hb dL_law_1357 rfl (lv_at hl 1 rfl) ?_
  refine lw_sld hC hS hl 0 4 rfl rfl 1 (by omega) (by decide) dL_law_1358 dL_law_1359 dL_law_1361 dL_law_1362 dL_law_1363 ?_
  refine lv_aload_n hx hb dL_law_1364 rfl (lv_at hl 3 rfl) ?_
  refine lw_W (n := 3) (As := [.ref (ad 0), .int (xs (i + 1)), .ref ob]) hC hI hS (kL_isReferenced l D cA cL _ ad hlt hf1 hE) wA_631 rfl (by decide +kernel) wA_629 wA_630 ⟨rfl, rfl, Nat.le_of_ble_eq_true rfl, Nat.le_of_ble_eq_true rfl⟩ rfl hl.1 rfl (Nat.le_of_ble_eq_true rfl) dL_law_1365 ⟨by omega, by omega⟩ (fun ad1 H locs hag hI hS => ?_)
  refine W.widen (k := cells + 14) (n := slots + 77) (by omega) (by omega) ?_
  have hl : lv_has ls 9 [(0, .ref b), (1, .ref (ad1 0)), (2, .ref (adm 0)), (3, .ref ob), (4, .int (nI i))] := by rw [hag 0 (by decide)]; exact hl
  refine lv_istore (lv' := [(5, .int (wrZ [pw_ioX] o r).1), (0, .ref b), (1, .ref (ad1 0)), (2, .ref (adm 0)), (3, .ref ob), (4, .int (nI i))]) hx hb dL_law_1368 hl (by decide) rfl (fun ls hl => ?_)
  refine lv_aload_n hx hb dL_law_1370 rfl (lv_at hl 3 rfl) ?_
  refine lw_sld hC hS hl 1 5 rfl rfl 1 (by omega) (by decide) dL_law_1371 dL_law_1372 dL_law_1374 dL_law_1375 dL_law_1376 ?_
  refine lw_M (As := [.int (xs (i + 1))]) hC hI hS (kX4_isReferenced l D cA _ adm hg1) ykX4_isReferenced wA_636 wA_637 wA_638 rfl ⟨rfl, rfl, Nat.le_of_ble_eq_true rfl, Nat.le_of_ble_eq_true rfl⟩ rfl hl.1 rfl (Nat.le_of_ble_eq_true rfl) dL_law_1377 ⟨by omega, by omega⟩ (fun H locs hI hS => ?_)
  refine lv_istore (lv' := [(6, .int bb), (5, .int (wrZ [pw_ioX] o r).1), (0, .ref b), (1, .ref (ad1 0)), (2, .ref (adm 0)), (3, .ref ob), (4, .int (nI i))]) hx hb dL_law_1380 hl (by decide) rfl (fun ls hl => ?_)
  exact lw_tailZ hC hRR' hI hS hl (ht.trans wrZ_1) (wrZ_ok (by decide) hv) (fun A => kX4_thrown l D cA A adm rfl) ⟨by omega, by omega⟩ dL_law_1382 dL_law_1383 dL_law_1386 dL_law_1388 dL_law_1393 dL_law_1395 dL_law_1398 dL_law_1399 dL_law_1400 dL_law_1401 dL_law_1403 dL_law_1406 dL_law_1407 dL_law_1410 dL_law_1411 dL_law_1412 dL_law_1417 (by decide) K
set_option maxHeartbeats 4000000 in
set_option maxRecDepth 100000 in
theorem lc_freeFrames (hC : lwC p s m meth c b L xs D cA cL) (hop : opN RR fX3_freeFrames fX4_freeFrames) (hf : cells + 14 ≤ 601024 ∧ slots + 77 ≤ 7293034) (K : lwK RR p l e s m below meth c b D cA cL Q 1613 i (cells + 14) (slots + 77)) : lwK RR p l e s m below meth c b D cA cL Q 1420 i cells slots := by
  intro H locs ls ad adm σ μ ob o hRR hI hS hl
  obtain ⟨⟨hx, hb, hml, hown, hts⟩, -⟩ := id hC
  obtain ⟨r, σ', μ', hf1, hg1, hRR'⟩ := hop σ μ hRR
  refine W.widen (k := cells + 14) (n := slots + 77) (by omega) (by omega) ?_
  refine lv_aload_n hx hb dL_law_1420 rfl (lv_at hl 1 rfl) ?_
  refine lwr_P hC hI hS (kX3_freeFrames l D cA _ ad hf1) ykX3_freeFrames wA_640 wA_641 wA_642 rfl ⟨rfl, rfl, Nat.le_of_ble_eq_true rfl, Nat.le_of_ble_eq_true rfl⟩ hl.1 rfl (Nat.le_of_ble_eq_true rfl) dL_law_1421 ⟨by omega, by omega⟩ (fun H locs hI hS => ?_)
  refine lv_aload_n hx hb dL_law_1424 rfl (lv_at hl 2 rfl) ?_
  refine lw_M (As := []) hC hI hS (kX4_freeFrames l D cA _ adm hg1) ykX4_freeFrames wA_644 wA_645 wA_646 rfl ⟨rfl, rfl, Nat.le_of_ble_eq_true rfl, Nat.le_of_ble_eq_true rfl⟩ rfl hl.1 rfl (Nat.le_of_ble_eq_true rfl) dL_law_1425 ⟨by omega, by omega⟩ (fun H locs hI hS => ?_)
  exact lv_icmp_eq (tgt := 1613) hx hb dL_law_1428 (by decide) (fun _ => K _ _ _ _ _ _ _ _ _ hRR' hI hS hl) (fun h => absurd rfl h)
set_option maxHeartbeats 4000000 in
set_option maxRecDepth 100000 in
theorem lc_freeSlots (hC : lwC p s m meth c b L xs D cA cL) (hop : opN RR fX3_freeSlots fX4_freeSlots) (hf : cells + 14 ≤ 601024 ∧ slots + 77 ≤ 7293034) (K : lwK RR p l e s m below meth c b D cA cL Q 1613 i (cells + 14) (slots + 77)) : lwK RR p l e s m below meth c b D cA cL Q 1433 i cells slots := by
  intro H locs ls ad adm σ μ ob o hRR hI hS hl
  obtain ⟨⟨hx, hb, hml, hown, hts⟩, -⟩ := id hC
  obtain ⟨r, σ', μ', hf1, hg1, hRR'⟩ := hop σ μ hRR
  refine W.widen (k := cells + 14) (n := slots + 77) (by omega) (by omega) ?_
  refine lv_aload_n hx hb dL_law_1433 rfl (lv_at hl 1 rfl) ?_
  refine lwr_P hC hI hS (kX3_freeSlots l D cA _ ad hf1) ykX3_freeSlots wA_648 wA_649 wA_650 rfl ⟨rfl, rfl, Nat.le_of_ble_eq_true rfl, Nat.le_of_ble_eq_true rfl⟩ hl.1 rfl (Nat.le_of_ble_eq_true rfl) dL_law_1434 ⟨by omega, by omega⟩ (fun H locs hI hS => ?_)
  refine lv_aload_n hx hb dL_law_1437 rfl (lv_at hl 2 rfl) ?_
  refine lw_M (As := []) hC hI hS (kX4_freeSlots l D cA _ adm hg1) ykX4_freeSlots wA_652 wA_653 wA_654 rfl ⟨rfl, rfl, Nat.le_of_ble_eq_true rfl, Nat.le_of_ble_eq_true rfl⟩ rfl hl.1 rfl (Nat.le_of_ble_eq_true rfl) dL_law_1438 ⟨by omega, by omega⟩ (fun H locs hI hS => ?_)
  exact lv_icmp_eq (tgt := 1613) hx hb dL_law_1441 (by decide) (fun _ => K _ _ _ _ _ _ _ _ _ hRR' hI hS hl) (fun h => absurd rfl h)
set_option maxHeartbeats 4000000 in
set_option maxRecDepth 100000 in
theorem lc_workingSet (hC : lwC p s m meth c b L xs D cA cL) (hlt : l.stackTraces = false) (hop : ∀ a1 : Int32, opI RR [pw_ioX] (fX3_workingSet a1) (fX4_workingSet a1)) (hi : i + 5 ≤ L) (hf : cells + 14 ≤ 601024 ∧ slots + 77 ≤ 7293034) (K : lwK RR p l e s m below meth c b D cA cL Q 1613 i (cells + 14) (slots + 77)) : lwK RR p l e s m below meth c b D cA cL Q 1446 i cells slots := by
  intro H locs ls ad adm σ μ ob o hRR hI hS hl
  obtain ⟨⟨hx, hb, hml, hown, hts⟩, -⟩ := id hC
  obtain ⟨r, σ', bb, μ', hf1, hg1, hRR', hE, ht, hv⟩ := hop (xs (i + 1)) σ μ hRR
  refine lv_aload_n hx hb dL_law_1446 rfl (lv_at hl 1 rfl) ?_
  refine lw_sld hC hS hl 0 4 rfl rfl 1 (by omega) (by decide) dL_law_1447 dL_law_1448 dL_law_1450 dL_law_1451 dL_law_1452 ?_
  refine lv_aload_n hx hb dL_law_1453 rfl (lv_at hl 3 rfl) ?_
  refine lw_W (n := 3) (As := [.ref (ad 0), .int (xs (i + 1)), .ref ob]) hC hI hS (kL_workingSet l D cA cL _ ad hlt hf1 hE) wA_662 rfl (by decide +kernel) wA_660 wA_661 ⟨rfl, rfl, Nat.le_of_ble_eq_true rfl, Nat.le_of_ble_eq_true rfl⟩ rfl hl.1 rfl (Nat.le_of_ble_eq_true rfl) dL_law_1454 ⟨by omega, by omega⟩ (fun ad1 H locs hag hI hS => ?_)
  refine W.widen (k := cells + 14) (n := slots + 77) (by omega) (by omega) ?_
  have hl : lv_has ls 9 [(0, .ref b), (1, .ref (ad1 0)), (2, .ref (adm 0)), (3, .ref ob), (4, .int (nI i))] := by rw [hag 0 (by decide)]; exact hl
  refine lv_istore (lv' := [(5, .int (wrI [pw_ioX] o r).1), (0, .ref b), (1, .ref (ad1 0)), (2, .ref (adm 0)), (3, .ref ob), (4, .int (nI i))]) hx hb dL_law_1457 hl (by decide) rfl (fun ls hl => ?_)
  refine lv_aload_n hx hb dL_law_1459 rfl (lv_at hl 3 rfl) ?_
  refine lw_sld hC hS hl 1 5 rfl rfl 1 (by omega) (by decide) dL_law_1460 dL_law_1461 dL_law_1463 dL_law_1464 dL_law_1465 ?_
  refine lw_M (As := [.int (xs (i + 1))]) hC hI hS (kX4_workingSet l D cA _ adm hg1) ykX4_workingSet wA_667 wA_668 wA_669 rfl ⟨rfl, rfl, Nat.le_of_ble_eq_true rfl, Nat.le_of_ble_eq_true rfl⟩ rfl hl.1 rfl (Nat.le_of_ble_eq_true rfl) dL_law_1466 ⟨by omega, by omega⟩ (fun H locs hI hS => ?_)
  refine lv_istore (lv' := [(6, .int bb), (5, .int (wrI [pw_ioX] o r).1), (0, .ref b), (1, .ref (ad1 0)), (2, .ref (adm 0)), (3, .ref ob), (4, .int (nI i))]) hx hb dL_law_1469 hl (by decide) rfl (fun ls hl => ?_)
  exact lw_tailI (i5 := 0) (i6 := 0) (t0 := 0) hC hRR' hI hS hl (ht.trans wrI_1) (wrI_ok (by decide) hv) (fun A => kX4_thrown l D cA A adm rfl) ⟨by omega, by omega⟩ dL_law_1471 dL_law_1472 dL_law_1475 dL_law_1477 dL_law_1482 dL_law_1484 dL_law_1487 dL_law_1488 dL_law_1489 dL_law_1490 dL_law_1492 dL_law_1493 dL_law_1494 dL_law_1499 (by decide) K
set_option maxHeartbeats 4000000 in
set_option maxRecDepth 100000 in
theorem lc_count (hC : lwC p s m meth c b L xs D cA cL) (hlt : l.stackTraces = false) (hop : ∀ a1 : Int32, opI RR [pw_ioX] (fX3_count a1) (fX4_count a1)) (hi : i + 5 ≤ L) (hf : cells + 14 ≤ 601024 ∧ slots + 77 ≤ 7293034) (K : lwK RR p l e s m below meth c b D cA cL Q 1613 i (cells + 14) (slots + 77)) : lwK RR p l e s m below meth c b D cA cL Q 1502 i cells slots := by
  intro H locs ls ad adm σ μ ob o hRR hI hS hl
  obtain ⟨⟨hx, hb, hml, hown, hts⟩, -⟩ := id hC
  obtain ⟨r, σ', bb, μ', hf1, hg1, hRR', hE, ht, hv⟩ := hop (xs (i + 1)) σ μ hRR
  refine lv_aload_n hx hb dL_law_1502 rfl (lv_at hl 1 rfl) ?_
  refine lw_sld hC hS hl 0 4 rfl rfl 1 (by omega) (by decide) dL_law_1503 dL_law_1504 dL_law_1506 dL_law_1507 dL_law_1508 ?_
  refine lv_aload_n hx hb dL_law_1509 rfl (lv_at hl 3 rfl) ?_
  refine lw_W (n := 3) (As := [.ref (ad 0), .int (xs (i + 1)), .ref ob]) hC hI hS (kL_count l D cA cL _ ad hlt hf1 hE) wA_673 rfl (by decide +kernel) wA_671 wA_672 ⟨rfl, rfl, Nat.le_of_ble_eq_true rfl, Nat.le_of_ble_eq_true rfl⟩ rfl hl.1 rfl (Nat.le_of_ble_eq_true rfl) dL_law_1510 ⟨by omega, by omega⟩ (fun ad1 H locs hag hI hS => ?_)
  refine W.widen (k := cells + 14) (n := slots + 77) (by omega) (by omega) ?_
  have hl : lv_has ls 9 [(0, .ref b), (1, .ref (ad1 0)), (2, .ref (adm 0)), (3, .ref ob), (4, .int (nI i))] := by rw [hag 0 (by decide)]; exact hl
  refine lv_istore (lv' := [(5, .int (wrI [pw_ioX] o r).1), (0, .ref b), (1, .ref (ad1 0)), (2, .ref (adm 0)), (3, .ref ob), (4, .int (nI i))]) hx hb dL_law_1513 hl (by decide) rfl (fun ls hl => ?_)
  refine lv_aload_n hx hb dL_law_1515 rfl (lv_at hl 3 rfl) ?_
  refine lw_sld hC hS hl 1 5 rfl rfl 1 (by omega) (by decide) dL_law_1516 dL_law_1517 dL_law_1519 dL_law_1520 dL_law_1521 ?_
  refine lw_M (As := [.int (xs (i + 1))]) hC hI hS (kX4_count l D cA _ adm hg1) ykX4_count wA_678 wA_679 wA_680 rfl ⟨rfl, rfl, Nat.le_of_ble_eq_true rfl, Nat.le_of_ble_eq_true rfl⟩ rfl hl.1 rfl (Nat.le_of_ble_eq_true rfl) dL_law_1522 ⟨by omega, by omega⟩ (fun H locs hI hS => ?_)
  refine lv_istore (lv' := [(6, .int bb), (5, .int (wrI [pw_ioX] o r).1), (0, .ref b), (1, .ref (ad1 0)), (2, .ref (adm 0)), (3, .ref ob), (4, .int (nI i))]) hx hb dL_law_1525 hl (by decide) rfl (fun ls hl => ?_)
  exact lw_tailI (i5 := 0) (i6 := 0) (t0 := 0) hC hRR' hI hS hl (ht.trans wrI_1) (wrI_ok (by decide) hv) (fun A => kX4_thrown l D cA A adm rfl) ⟨by omega, by omega⟩ dL_law_1527 dL_law_1528 dL_law_1531 dL_law_1533 dL_law_1538 dL_law_1540 dL_law_1543 dL_law_1544 dL_law_1545 dL_law_1546 dL_law_1548 dL_law_1549 dL_law_1550 dL_law_1555 (by decide) K
set_option maxHeartbeats 4000000 in
set_option maxRecDepth 100000 in
theorem lc_digest (hC : lwC p s m meth c b L xs D cA cL) (hop : opL RR fX3_digest fX4_digest) (hf : cells + 14 ≤ 601024 ∧ slots + 77 ≤ 7293034) (K : lwK RR p l e s m below meth c b D cA cL Q 1613 i (cells + 14) (slots + 77)) : lwK RR p l e s m below meth c b D cA cL Q 1599 i cells slots := by
  intro H locs ls ad adm σ μ ob o hRR hI hS hl
  obtain ⟨⟨hx, hb, hml, hown, hts⟩, -⟩ := id hC
  obtain ⟨r, σ', μ', hf1, hg1, hRR'⟩ := hop σ μ hRR
  refine W.widen (k := cells + 14) (n := slots + 77) (by omega) (by omega) ?_
  refine lv_aload_n hx hb dL_law_1599 rfl (lv_at hl 1 rfl) ?_
  refine lwr_PL hC hI hS (k0X3_digest l D cA _ ad hf1) ykX3_digest wA_690 wA_691 wA_692 rfl ⟨rfl, rfl, Nat.le_of_ble_eq_true rfl, Nat.le_of_ble_eq_true rfl⟩ hl.1 rfl (Nat.le_of_ble_eq_true rfl) dL_law_1600 ⟨by omega, by omega⟩ (fun H locs hI hS => ?_)
  refine lv_aload_n hx hb dL_law_1603 rfl (lv_at hl 2 rfl) ?_
  refine lw_ML (As := []) hC hI hS (kX4_digest l D cA _ adm hg1) ykX4_digest wA_705 wA_706 wA_707 rfl ⟨rfl, rfl, Nat.le_of_ble_eq_true rfl, Nat.le_of_ble_eq_true rfl⟩ rfl hl.1 rfl (Nat.le_of_ble_eq_true rfl) dL_law_1604 ⟨by omega, by omega⟩ (fun H locs hI hS => ?_)
  refine W.lcmp hx hb dL_law_1607 ?_
  rw [lg_cmp_self]
  exact lv_if_eq (tgt := 1613) hx hb dL_law_1608 (by decide) (fun _ => K _ _ _ _ _ _ _ _ _ hRR' hI hS hl) (fun h => absurd rfl h)
end LWC
