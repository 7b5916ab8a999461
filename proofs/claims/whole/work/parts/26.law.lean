/-! THE LAW'S LOOP, over what is asked of each pair of methods (lawOps) -/
def lawOps (RR : pw_S → pw_S → Prop) : Prop := (∀ a1 : Int32, opI RR [pw_iaX, pw_isX] (fX3_setFrames a1) (fX4_setFrames a1)) ∧ (∀ a1 : Int32, opI RR [pw_iaX] (fX3_setWindow a1) (fX4_setWindow a1)) ∧ (opI RR [pw_isX] fX3_start fX4_start) ∧ (∀ a1 : Int32, opI RR [pw_ioX, pw_neX, pw_isX] (fX3_fork a1) (fX4_fork a1)) ∧ (∀ a1 : Int32, opI RR [pw_ioX, pw_neX] (fX3_exit a1) (fX4_exit a1)) ∧ (∀ a1 a2 : Int32, opI RR [pw_ioX, pw_neX, pw_iaX] (fX3_map a1 a2) (fX4_map a1 a2)) ∧ (∀ a1 : Int32, opI RR [pw_iaX, pw_isX] (fX3_createSegment a1) (fX4_createSegment a1)) ∧ (∀ a1 a2 a3 a4 : Int32, opI RR [pw_ioX, pw_neX, pw_iaX] (fX3_attach a1 a2 a3 a4) (fX4_attach a1 a2 a3 a4)) ∧ (∀ a1 a2 : Int32, opZ RR [pw_ioX, pw_neX, pw_iaX] (fX3_unmap a1 a2) (fX4_unmap a1 a2)) ∧ (∀ a1 : Int32, opZ RR [pw_ioX] (fX3_isLive a1) (fX4_isLive a1)) ∧ (∀ a1 a2 : Int32, opI RR [pw_ioX] (fX3_mapping a1 a2) (fX4_mapping a1 a2)) ∧ (∀ a1 a2 : Int32, opI RR [pw_ioX, pw_neX, pw_iaX, pw_isX] (fX3_read a1 a2) (fX4_read a1 a2)) ∧ (∀ a1 a2 a3 : Int32, opI RR [pw_ioX, pw_neX, pw_iaX, pw_isX] (fX3_write a1 a2 a3) (fX4_write a1 a2 a3)) ∧ opN RR fX3_sync fX4_sync ∧ opN RR fX3_time fX4_time ∧ opN RR fX3_hand fX4_hand ∧ (∀ a1 a2 : Int32, opI RR [pw_ioX] (fX3_frameOf a1 a2) (fX4_frameOf a1 a2)) ∧ (∀ a1 a2 : Int32, opI RR [pw_ioX] (fX3_slotOf a1 a2) (fX4_slotOf a1 a2)) ∧ (∀ a1 a2 : Int32, opI RR [pw_ioX] (fX3_sharersOf a1 a2) (fX4_sharersOf a1 a2)) ∧ (∀ a1 : Int32, opI RR [pw_ioX] (fX3_frameState a1) (fX4_frameState a1)) ∧ (∀ a1 : Int32, opI RR [pw_ioX] (fX3_latestUse a1) (fX4_latestUse a1)) ∧ (∀ a1 : Int32, opZ RR [pw_ioX] (fX3_isReferenced a1) (fX4_isReferenced a1)) ∧ opN RR fX3_freeFrames fX4_freeFrames ∧ opN RR fX3_freeSlots fX4_freeSlots ∧ (∀ a1 : Int32, opI RR [pw_ioX] (fX3_workingSet a1) (fX4_workingSet a1)) ∧ (∀ a1 : Int32, opI RR [pw_ioX] (fX3_count a1) (fX4_count a1)) ∧ opD RR ∧ opL RR fX3_digest fX4_digest
theorem nan_cmp {v : UInt64} (h : isNaN64 v = true) : ¬ Op.cmpValue (FP.dcmp v v) .l = 0 := by
  have h1 := isNaN64_iff.mp h
  rw [show (0x7fffffffffffffff : Nat) = 2 ^ 63 - 1 from rfl, Nat.and_two_pow_sub_one_eq_mod] at h1
  have h2 : FP.dcmp v v = none := by
    have h3 : FP.Core.decode FP.Core.b64 v.toNat = .nan := by
      unfold FP.Core.decode
      rw [if_pos (show FP.Core.fieldE FP.Core.b64 v.toNat = FP.Core.b64.exps - 1 by show v.toNat / 4503599627370496 % 2048 = 2047; omega), if_neg (show ¬ FP.Core.fieldT FP.Core.b64 v.toNat = 0 by show ¬ v.toNat % 4503599627370496 = 0; omega)]
    show FP.Core.order (FP.Core.decode FP.Core.b64 v.toNat) (FP.Core.decode FP.Core.b64 v.toNat) = none
    rw [h3]
    rfl
  rw [h2]
  decide
theorem lwC_draw {p : Program} {s : State} {m : MethodId} {meth : Method} {c : Code} {b L : Nat} {xs : Nat → Int32} {D : va_G} {cA : Nat → ClassId} {cL : ClassId} (h : lwC p s m meth c b L xs D cA cL) (d : Drawn) : lwC p (s.setDrawn d) m meth c b L xs D cA cL := by
  obtain ⟨⟨hx, hb, hml, hown, hts⟩, h2, h3, h4, h5, h6, h7, h8⟩ := h
  exact ⟨⟨hx, hb, hml, hown, dr_words hts d⟩, h2, h3, h4, h5, h6, h7, h8⟩
section LWL
variable {p : Program} {l : Launch} {e : Env} {s : State} {m : MethodId} {below : List Frame} {meth : Method} {c : Code} {cells slots : Nat} {Q : State → Prop}
variable {b L i : Nat} {xs : Nat → Int32} {D : va_G} {cA : Nat → ClassId} {cL : ClassId} {RR : pw_S → pw_S → Prop}
set_option maxHeartbeats 4000000 in
set_option maxRecDepth 100000 in
theorem lc_swapRate {d0 : Drawn} (hd0 : s.drawn.sameBut d0 lw_cs) (hC : lwC p s m meth c b L xs D cA cL) (hop : opD RR) (hf : cells + 14 ≤ 601024 ∧ slots + 77 ≤ 7293034) (K : ∀ d, s.drawn.sameBut d lw_cs → lwK RR p l e (s.setDrawn d) m below meth c b D cA cL Q 1613 i (cells + 14) (slots + 77)) : lwK RR p l e (s.setDrawn d0) m below meth c b D cA cL Q 1558 i cells slots := by
  intro H locs ls ad adm σ μ ob o hRR hI hS hl
  obtain ⟨⟨hx, hb, hml, hown, hts⟩, hX, hbl, hK, hXX, hN, har, hL⟩ := id hC
  obtain ⟨e1, e2, hRR'⟩ := hop σ μ hRR
  refine W.widen (k := cells + 14) (n := slots + 77) (by omega) (by omega) ?_
  refine lv_aload_n hx hb dL_law_1558 rfl (lv_at hl 1 rfl) ?_
  have hz0 : s.heap.size ≤ H.size := hS.1
  have hsub := lwA2_in hS.1 hI.1
  have hG : pw_G D cA shP 12 (lwA2 ad σ H) ad σ H := hI.1.weaken fun k hk => Or.inl ⟨k, hk, rfl⟩
  refine va_calldD hd0 (va_runV_D (As := []) (bytes := cX3_swapRate) (maxL := 1) (ret := some .double) (lwC_draw hC d0).1 (kX3_swapRate l D cA (lwA2 ad σ H) ad σ) ⟨wa_B (lwC_draw hC d0).1.2.2.2.2 ykX3_swapRate wA_682 ⟨rfl, rfl, Nat.le_of_ble_eq_true rfl, Nat.le_of_ble_eq_true rfl⟩, (lwC_draw hC d0).1.2.2.2.2 _ wA_683, (lwC_draw hC d0).1.2.2.2.2 _ wA_684⟩ ⟨pw_blind, mw_recv (lwC_draw hC d0).2.2.2.1 hG (hG.fix (by decide)) rfl rfl, fun U hU hW => ⟨rfl, lw_pwU (lwC_draw hC d0) hG hS hsub (fun q h => Or.inr h) hU hW⟩⟩ rfl rfl hl.1 rfl (lv_room (Nat.le_of_ble_eq_true rfl)) dL_law_1559 ⟨by show _ ≤ 601024; omega, by show _ ≤ 7293034; omega⟩) hS (fun q _ h => hsub q h) hsub (fun r1 _ t H1 locs ht _ hp1 hB _ hk hS d1 hd1 => ?_)
  subst ht
  have hI := lw_I.cls hz0 hI (fun q => Iff.rfl) hB hk
  refine lv_dstore (lv' := [(5, .double r1), (0, .ref b), (1, .ref (ad 0)), (2, .ref (adm 0)), (3, .ref ob), (4, .int (nI i))]) hx hb dL_law_1562 hl (by decide) rfl (fun ls hl => ?_)
  refine lv_aload_n hx hb dL_law_1564 rfl (lv_at hl 3 rfl) ?_
  have hz1 : s.heap.size ≤ t.heap.size := hS.1
  have hsub2 := lwA2_in hS.1 hI.2.1
  have hG2 : pw_G D cA shM 15 (lwA2 adm μ t.heap) adm μ t.heap := hI.2.1.weaken fun k hk => Or.inl ⟨k, hk, rfl⟩
  refine va_calldD hd1 (va_runV_D (As := []) (bytes := cX4_swapRate) (maxL := 1) (ret := some .double) (lwC_draw hC d1).1 (kX4_swapRate l D cA (lwA2 adm μ t.heap) adm μ) ⟨wa_B (lwC_draw hC d1).1.2.2.2.2 ykX4_swapRate wA_686 ⟨rfl, rfl, Nat.le_of_ble_eq_true rfl, Nat.le_of_ble_eq_true rfl⟩, (lwC_draw hC d1).1.2.2.2.2 _ wA_687, (lwC_draw hC d1).1.2.2.2.2 _ wA_688⟩ ⟨pw_blind, mw_recv (lwC_draw hC d1).2.2.2.1 hG2 (hG2.fix (by decide)) rfl rfl, fun U hU hW => ⟨rfl, lw_pwU (lwC_draw hC d1) hG2 hS hsub2 (fun q h => Or.inr h) hU hW⟩⟩ rfl rfl hl.1 rfl (lv_room (Nat.le_of_ble_eq_true rfl)) dL_law_1565 ⟨by show _ ≤ 601024; omega, by show _ ≤ 7293034; omega⟩) hS (fun q _ h => hsub2 q h) hsub2 (fun r2 _ t2 H2 locs ht2 _ hp2 hB2 _ hk2 hS d2 hd2 => ?_)
  subst ht2
  have hI := lw_I.mod hz1 hI (fun q => Iff.rfl) hB2 hk2
  refine lv_dstore (lv' := [(7, .double r2), (5, .double r1), (0, .ref b), (1, .ref (ad 0)), (2, .ref (adm 0)), (3, .ref ob), (4, .int (nI i))]) hx hb dL_law_1568 hl (by decide) rfl (fun ls hl => ?_)
  rw [e1, e2] at hp1
  have hcase : r1 = r2 ∨ (isNaN64 r1 = true ∧ isNaN64 r2 = true) := by
    simp only [alike64, Bool.or_eq_true, Bool.and_eq_true, decide_eq_true_eq] at hp1 hp2
    rcases hp1 with g1 | ⟨g1, g1'⟩ <;> rcases hp2 with g2 | ⟨g2, g2'⟩
    · exact Or.inl (g1.trans g2.symm)
    · exact Or.inr ⟨by rw [g1]; exact g2', g2⟩
    · exact Or.inr ⟨g1, by rw [g2]; exact g1'⟩
    · exact Or.inr ⟨g1, g2⟩
  have fin : W p l e room_1 (s.setDrawn d2) m #[Value.ref b] below meth c t2.heap locs (cells + 14) (slots + 77) Q (F0 m 1596 ls []) := lv_goto (tgt := 1613) hx hb dL_law_1596 (by decide) (K d2 hd2 _ _ _ _ _ _ _ _ _ hRR' hI hS (lv_sub hl [2, 3, 4, 5, 6] rfl))
  refine lv_dload hx hb dL_law_1570 (lv_at hl 1 rfl) ?_
  refine lv_dload hx hb dL_law_1572 (lv_at hl 0 rfl) ?_
  refine lv_dcmp hx hb dL_law_1574 ?_
  refine lv_if_eq (tgt := 1596) hx hb dL_law_1575 (by decide) (fun _ => fin) (fun hz => ?_)
  refine lv_dload hx hb dL_law_1578 (lv_at hl 1 rfl) ?_
  refine lv_dload hx hb dL_law_1580 (lv_at hl 1 rfl) ?_
  refine lv_dcmp hx hb dL_law_1582 ?_
  refine lv_if_eq (tgt := 1594) hx hb dL_law_1583 (by decide) (fun hz1 => ?_) (fun hz1 => ?_)
  · exfalso
    rcases hcase with g | ⟨g1, g2⟩
    · rw [← g] at hz; exact hz hz1
    · exact nan_cmp g1 hz1
  · refine lv_dload hx hb dL_law_1586 (lv_at hl 0 rfl) ?_
    refine lv_dload hx hb dL_law_1588 (lv_at hl 0 rfl) ?_
    refine lv_dcmp hx hb dL_law_1590 ?_
    refine lv_if_ne (tgt := 1596) hx hb dL_law_1591 (by decide) (fun _ => fin) (fun hz2 => ?_)
    exfalso
    rcases hcase with g | ⟨g1, g2⟩
    · rw [g] at hz1; exact hz1 hz2
    · exact nan_cmp g2 hz2
set_option maxHeartbeats 16000000 in
set_option maxRecDepth 100000 in
theorem law_loop (hC : lwC p s m meth c b L xs D cA cL) (hlt : l.stackTraces = false) (hr : meth.sig.returnType = ret) (hlocks : meth.locks = false) (hops : lawOps RR) (c0 s0 : Nat) (hc0 : c0 ≤ 100) (hs0 : s0 ≤ 5000) :
    ∀ (n j : Nat), 5 * j ≤ L → L + 5 ≤ 5 * j + 5 * n → ∀ d0, s.drawn.sameBut d0 lw_cs → lwK RR p l e (s.setDrawn d0) m below meth c b D cA cL (lw_Z below #[Value.ref b] s) 23 (5 * j) (c0 + 14 * j) (s0 + 77 * j) := by
  have hL : L ≤ 2560 := hC.2.2.2.2.2.2.2
  intro n
  induction n with
  | zero => intro j h1 h2; omega
  | succ n ih =>
    intro j h1 h2 d0 hd0 H locs ls ad adm σ μ ob o hRR hI hS hl
    obtain ⟨⟨hx, hb, hml, hown, hts⟩, hX, hbl, hK, hXX, hN, har, -⟩ := id hC
    refine lv_iload hx hb dL_law_23 (lv_at hl 4 rfl) ?_
    refine lv_aload_n hx hb dL_law_25 rfl (lv_at hl 0 rfl) ?_
    refine va_slen (s := s.setDrawn d0) (xs := xs) hx hb hX hbl (A := fun q => s.heap.size ≤ q) (Nat.not_le.mpr hbl) hS dL_law_26 ?_
    refine lv_iconst (v := 5) hx hb dL_law_27 (by decide) ?_
    refine lv_isub hx hb dL_law_28 ?_
    have hsub : (Int32.ofNat L - 5).toInt = (L : Int) - 5 := pk_sub_toInt (a := L) (b := 5) (by omega) (by decide)
    have hit : (nI (5 * j)).toInt = ((5 * j : Nat) : Int) := nI_toInt (by omega)
    refine lv_icmp_gt (tgt := 1619) hx hb dL_law_29 (by decide) (fun cz => ?_) (fun cz => ?_)
    · refine lv_iconst (v := 1) hx hb dL_law_1619 (by decide) ?_
      refine va_forget (s := s.setDrawn d0) (fun q hq => hS.2.2 q hq) ?_
      refine W.widen (k := 601024) (n := 7293034) (by omega) (by omega) ?_
      exact lw_ret hd0 hx hb hr hlocks dL_law_1620
    · have hi5 : 5 * j + 5 ≤ L := by
        have h3 : ¬ (Int32.ofNat L - 5).toInt < (nI (5 * j)).toInt := fun h => cz (Int32.lt_iff_toInt_lt.mpr h)
        omega
      have hfc : c0 + 14 * j + 14 ≤ 601024 ∧ s0 + 77 * j + 77 ≤ 7293034 := ⟨by omega, by omega⟩
      have K : ∀ d, s.drawn.sameBut d lw_cs → lwK RR p l e (s.setDrawn d) m below meth c b D cA cL (lw_Z below #[Value.ref b] s) 1613 (5 * j) (c0 + 14 * j + 14) (s0 + 77 * j + 77) := by
        intro d hd H locs ls ad adm σ μ ob o hRR hI hS hl
        refine lv_iinc (v := nI (5 * (j + 1))) (lv' := [(4, .int (nI (5 * (j + 1)))), (0, .ref b), (1, .ref (ad 0)), (2, .ref (adm 0)), (3, .ref ob)]) hx hb dL_law_1613 hl (k := 4) rfl (by show nI (5 * j) + nI 5 = _; rw [nI_add]; rfl) (by decide) rfl (fun ls hl => ?_)
        refine lv_goto (tgt := 23) hx hb dL_law_1616 (by decide) ?_
        have hn := ih (j + 1) (by omega) (by omega) d hd H locs ls ad adm σ μ ob o hRR hI hS (lv_sub hl [1, 2, 3, 4, 0] rfl)
        rw [show c0 + 14 * (j + 1) = c0 + 14 * j + 14 by omega, show s0 + 77 * (j + 1) = s0 + 77 * j + 77 by omega] at hn
        exact hn
      refine lv_aload_n hx hb dL_law_32 rfl (lv_at hl 0 rfl) ?_
      refine lv_iload hx hb dL_law_33 (lv_at hl 4 rfl) ?_
      refine va_sld (s := s.setDrawn d0) hx hb hX hbl (A := fun q => s.heap.size ≤ q) (Nat.not_le.mpr hbl) hS (vp_in_nI (show 5 * j < L by omega) (by omega)) dL_law_35 ?_
      refine lv_bipush (v := 31) hx hb dL_law_36 (by decide) ?_
      refine lv_iand hx hb dL_law_38 ?_
      obtain ⟨w, hw, ew⟩ := pk_andE (xs (nI (5 * j)).toNatClampNeg) (m := 31) 5 (by decide)
      rw [ew]
      have hCd := lwC_draw hC d0
      obtain ⟨o0, o1, o2, o3, o4, o5, o6, o7, o8, o9, o10, o11, o12, o13, o14, o15, o16, o17, o18, o19, o20, o21, o22, o23, o24, o25, o26, o27⟩ := hops
      match w, hw with
      | 0, _ => exact lv_tableIn (off := 125) (tgt := 164) hx hb dL_law_39 (by decide +kernel) (by decide +kernel) (by decide +kernel) (by decide) (lc_setFrames hCd hlt o0 hi5 hfc (K d0 hd0) H locs ls ad adm σ μ ob o hRR hI hS hl)
      | 1, _ => exact lv_tableIn (off := 181) (tgt := 220) hx hb dL_law_39 (by decide +kernel) (by decide +kernel) (by decide +kernel) (by decide) (lc_setWindow hCd hlt o1 hi5 hfc (K d0 hd0) H locs ls ad adm σ μ ob o hRR hI hS hl)
      | 2, _ => exact lv_tableIn (off := 237) (tgt := 276) hx hb dL_law_39 (by decide +kernel) (by decide +kernel) (by decide +kernel) (by decide) (lc_start hCd hlt o2 hi5 hfc (K d0 hd0) H locs ls ad adm σ μ ob o hRR hI hS hl)
      | 3, _ => exact lv_tableIn (off := 281) (tgt := 320) hx hb dL_law_39 (by decide +kernel) (by decide +kernel) (by decide +kernel) (by decide) (lc_fork hCd hlt o3 hi5 hfc (K d0 hd0) H locs ls ad adm σ μ ob o hRR hI hS hl)
      | 4, _ => exact lv_tableIn (off := 337) (tgt := 376) hx hb dL_law_39 (by decide +kernel) (by decide +kernel) (by decide +kernel) (by decide) (lc_exit hCd hlt o4 hi5 hfc (K d0 hd0) H locs ls ad adm σ μ ob o hRR hI hS hl)
      | 5, _ => exact lv_tableIn (off := 393) (tgt := 432) hx hb dL_law_39 (by decide +kernel) (by decide +kernel) (by decide +kernel) (by decide) (lc_map hCd hlt o5 hi5 hfc (K d0 hd0) H locs ls ad adm σ μ ob o hRR hI hS hl)
      | 6, _ => exact lv_tableIn (off := 461) (tgt := 500) hx hb dL_law_39 (by decide +kernel) (by decide +kernel) (by decide +kernel) (by decide) (lc_createSegment hCd hlt o6 hi5 hfc (K d0 hd0) H locs ls ad adm σ μ ob o hRR hI hS hl)
      | 7, _ => exact lv_tableIn (off := 517) (tgt := 556) hx hb dL_law_39 (by decide +kernel) (by decide +kernel) (by decide +kernel) (by decide) (lc_attach hCd hlt o7 hi5 hfc (K d0 hd0) H locs ls ad adm σ μ ob o hRR hI hS hl)
      | 8, _ => exact lv_tableIn (off := 609) (tgt := 648) hx hb dL_law_39 (by decide +kernel) (by decide +kernel) (by decide +kernel) (by decide) (lc_unmap hCd hlt o8 hi5 hfc (K d0 hd0) H locs ls ad adm σ μ ob o hRR hI hS hl)
      | 9, _ => exact lv_tableIn (off := 684) (tgt := 723) hx hb dL_law_39 (by decide +kernel) (by decide +kernel) (by decide +kernel) (by decide) (lc_isLive hCd hlt o9 hi5 hfc (K d0 hd0) H locs ls ad adm σ μ ob o hRR hI hS hl)
      | 10, _ => exact lv_tableIn (off := 747) (tgt := 786) hx hb dL_law_39 (by decide +kernel) (by decide +kernel) (by decide +kernel) (by decide) (lc_mapping hCd hlt o10 hi5 hfc (K d0 hd0) H locs ls ad adm σ μ ob o hRR hI hS hl)
      | 11, _ => exact lv_tableIn (off := 815) (tgt := 854) hx hb dL_law_39 (by decide +kernel) (by decide +kernel) (by decide +kernel) (by decide) (lc_read hCd hlt o11 hi5 hfc (K d0 hd0) H locs ls ad adm σ μ ob o hRR hI hS hl)
      | 12, _ => exact lv_tableIn (off := 883) (tgt := 922) hx hb dL_law_39 (by decide +kernel) (by decide +kernel) (by decide +kernel) (by decide) (lc_write hCd hlt o12 hi5 hfc (K d0 hd0) H locs ls ad adm σ μ ob o hRR hI hS hl)
      | 13, _ => exact lv_tableIn (off := 963) (tgt := 1002) hx hb dL_law_39 (by decide +kernel) (by decide +kernel) (by decide +kernel) (by decide) (lc_sync hCd o13 hfc (K d0 hd0) H locs ls ad adm σ μ ob o hRR hI hS hl)
      | 14, _ => exact lv_tableIn (off := 976) (tgt := 1015) hx hb dL_law_39 (by decide +kernel) (by decide +kernel) (by decide +kernel) (by decide) (lc_time hCd o14 hfc (K d0 hd0) H locs ls ad adm σ μ ob o hRR hI hS hl)
      | 15, _ => exact lv_tableIn (off := 989) (tgt := 1028) hx hb dL_law_39 (by decide +kernel) (by decide +kernel) (by decide +kernel) (by decide) (lc_hand hCd o15 hfc (K d0 hd0) H locs ls ad adm σ μ ob o hRR hI hS hl)
      | 16, _ => exact lv_tableIn (off := 1002) (tgt := 1041) hx hb dL_law_39 (by decide +kernel) (by decide +kernel) (by decide +kernel) (by decide) (lc_frameOf hCd hlt o16 hi5 hfc (K d0 hd0) H locs ls ad adm σ μ ob o hRR hI hS hl)
      | 17, _ => exact lv_tableIn (off := 1070) (tgt := 1109) hx hb dL_law_39 (by decide +kernel) (by decide +kernel) (by decide +kernel) (by decide) (lc_slotOf hCd hlt o17 hi5 hfc (K d0 hd0) H locs ls ad adm σ μ ob o hRR hI hS hl)
      | 18, _ => exact lv_tableIn (off := 1138) (tgt := 1177) hx hb dL_law_39 (by decide +kernel) (by decide +kernel) (by decide +kernel) (by decide) (lc_sharersOf hCd hlt o18 hi5 hfc (K d0 hd0) H locs ls ad adm σ μ ob o hRR hI hS hl)
      | 19, _ => exact lv_tableIn (off := 1206) (tgt := 1245) hx hb dL_law_39 (by decide +kernel) (by decide +kernel) (by decide +kernel) (by decide) (lc_frameState hCd hlt o19 hi5 hfc (K d0 hd0) H locs ls ad adm σ μ ob o hRR hI hS hl)
      | 20, _ => exact lv_tableIn (off := 1262) (tgt := 1301) hx hb dL_law_39 (by decide +kernel) (by decide +kernel) (by decide +kernel) (by decide) (lc_latestUse hCd hlt o20 hi5 hfc (K d0 hd0) H locs ls ad adm σ μ ob o hRR hI hS hl)
      | 21, _ => exact lv_tableIn (off := 1318) (tgt := 1357) hx hb dL_law_39 (by decide +kernel) (by decide +kernel) (by decide +kernel) (by decide) (lc_isReferenced hCd hlt o21 hi5 hfc (K d0 hd0) H locs ls ad adm σ μ ob o hRR hI hS hl)
      | 22, _ => exact lv_tableIn (off := 1381) (tgt := 1420) hx hb dL_law_39 (by decide +kernel) (by decide +kernel) (by decide +kernel) (by decide) (lc_freeFrames hCd o22 hfc (K d0 hd0) H locs ls ad adm σ μ ob o hRR hI hS hl)
      | 23, _ => exact lv_tableIn (off := 1394) (tgt := 1433) hx hb dL_law_39 (by decide +kernel) (by decide +kernel) (by decide +kernel) (by decide) (lc_freeSlots hCd o23 hfc (K d0 hd0) H locs ls ad adm σ μ ob o hRR hI hS hl)
      | 24, _ => exact lv_tableIn (off := 1407) (tgt := 1446) hx hb dL_law_39 (by decide +kernel) (by decide +kernel) (by decide +kernel) (by decide) (lc_workingSet hCd hlt o24 hi5 hfc (K d0 hd0) H locs ls ad adm σ μ ob o hRR hI hS hl)
      | 25, _ => exact lv_tableIn (off := 1463) (tgt := 1502) hx hb dL_law_39 (by decide +kernel) (by decide +kernel) (by decide +kernel) (by decide) (lc_count hCd hlt o25 hi5 hfc (K d0 hd0) H locs ls ad adm σ μ ob o hRR hI hS hl)
      | 26, _ => exact lv_tableIn (off := 1519) (tgt := 1558) hx hb dL_law_39 (by decide +kernel) (by decide +kernel) (by decide +kernel) (by decide) (lc_swapRate hd0 hC o26 hfc K H locs ls ad adm σ μ ob o hRR hI hS hl)
      | 27, _ => exact lv_tableIn (off := 1560) (tgt := 1599) hx hb dL_law_39 (by decide +kernel) (by decide +kernel) (by decide +kernel) (by decide) (lc_digest hCd o27 hfc (K d0 hd0) H locs ls ad adm σ μ ob o hRR hI hS hl)
      | 28, _ => exact lv_tableOut (tgt := 1613) hx hb dL_law_39 (by decide +kernel) (by decide) (W.widen (k := c0 + 14 * j + 14) (n := s0 + 77 * j + 77) (by omega) (by omega) (K d0 hd0 H locs ls ad adm σ μ ob o hRR hI hS hl))
      | 29, _ => exact lv_tableOut (tgt := 1613) hx hb dL_law_39 (by decide +kernel) (by decide) (W.widen (k := c0 + 14 * j + 14) (n := s0 + 77 * j + 77) (by omega) (by omega) (K d0 hd0 H locs ls ad adm σ μ ob o hRR hI hS hl))
      | 30, _ => exact lv_tableOut (tgt := 1613) hx hb dL_law_39 (by decide +kernel) (by decide) (W.widen (k := c0 + 14 * j + 14) (n := s0 + 77 * j + 77) (by omega) (by omega) (K d0 hd0 H locs ls ad adm σ μ ob o hRR hI hS hl))
      | 31, _ => exact lv_tableOut (tgt := 1613) hx hb dL_law_39 (by decide +kernel) (by decide) (W.widen (k := c0 + 14 * j + 14) (n := s0 + 77 * j + 77) (by omega) (by omega) (K d0 hd0 H locs ls ad adm σ μ ob o hRR hI hS hl))
      | k + 32, h => omega
end LWL
