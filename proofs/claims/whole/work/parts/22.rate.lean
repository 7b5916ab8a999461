/-! swapRate, of the class and of the reference: the quotient may be drawn where it is a NaN -/
def rateD (c n : Int32) : UInt64 := if n = 0 then FP.dconst0 else FP.ddiv (FP.i2d c) (FP.i2d n)
set_option maxHeartbeats 4000000 in
set_option maxRecDepth 100000 in
theorem kX3_swapRate (l : Launch) (D : va_G) (cA : Nat → ClassId) (A : Nat → Prop) (ad : Nat → Nat) (σ : pw_S) : MetD lw_cs l yX3_swapRate (wA yX3_swapRate cX3_swapRate 1 (some .double)) ({ frames := 0, cells := 0, slots := 0, locals := 0 }) (pw_Pc D cA shP 12 A ad σ [.ref (ad 0)]) (va_Qd (S := Unit) (fun r _ => alike64 r (rateD (gi σ 11 1) (gi σ 0 10)) = true) (fun _ t => pw_G D cA shP 12 A ad σ t.heap) A) 0 0 A := by
  refine MetD.ofW (cc := cX3_swapRate) (maxL := 1) (ret := some .double) (by decide) rfl ?_
  intro p e s m args below meth c s₁ B hml hv hd0
  obtain ⟨rfl, hG, hK, hA, hX⟩ := hv
  have hx := B.exec
  have hb := B.bytes
  have hr := B.returns
  have hts0 := atoms_spec (ws := wA yX3_swapRate cX3_swapRate 1 (some .double)) B.pre
  have hts1 : ∀ w ∈ wsL_law, w.before _ s = true := fun w hw => hts0 w (List.mem_cons_of_mem _ hw)
  have hts := dr_words hts1 s.drawn
  have hown : s.vm.findClass RX3 = some m.cls := findClass_of_methodNamed B.named
  have hlocks := B.notSynchronized
  have hS : va_S A s.heap s.heap [] := va_S.rf
  have hl := lv_entry ([.ref (ad 0)]) (n := 1) (Nat.le_of_ble_eq_true rfl)
  rw [lg_entry_eq]
  generalize (lg_sl ([.ref (ad 0)]) ++ List.replicate (1 - (lg_sl ([.ref (ad 0)])).length) Slot.unset).toArray = ls at hl ⊢
  have hl : lv_has ls 1 [(0, .ref (ad 0))] := hl
  refine lv_aload_n hx hb dX3_swapRate_0 rfl (lv_at hl 0 rfl) ?_
  refine mw_geti (D := D) (cA := cA) hx hb hts hown hK hG inlX3 rfl (hG.fix (by decide)) rfl 10 (by decide) rfl (by decide +kernel) dX3_swapRate_1 ?_
  refine lv_if_ne (tgt := 9) hx hb dX3_swapRate_4 (by decide) (fun cz => ?_) (fun cz => ?_)
  · refine lv_aload_n hx hb dX3_swapRate_9 rfl (lv_at hl 0 rfl) ?_
    refine mw_getl (D := D) (cA := cA) hx hb hts hown hK hG inlX3 rfl (hG.fix (by decide)) rfl 6 (by decide) 11 rfl (by decide +kernel) dX3_swapRate_10 ?_
    refine lv_iconst (v := 1) hx hb dX3_swapRate_13 (by decide) ?_
    refine mw_iald (D := D) (cA := cA) hx hb hK hG (hG.fix (by decide)) rfl (inb_in (i := 1) (n := 6) (by decide +kernel)) dX3_swapRate_14 ?_
    refine lv_i2d hx hb dX3_swapRate_15 ?_
    refine lv_aload_n hx hb dX3_swapRate_16 rfl (lv_at hl 0 rfl) ?_
    refine mw_geti (D := D) (cA := cA) hx hb hts hown hK hG inlX3 rfl (hG.fix (by decide)) rfl 10 (by decide) rfl (by decide +kernel) dX3_swapRate_17 ?_
    refine lv_i2d hx hb dX3_swapRate_20 ?_
    refine lv_ddiv_any hd0 lw_bits hx hb dX3_swapRate_21 (fun r d1 hal hd1 => ?_)
    refine W.endD hd1 ?_
    exact W.dret hx hb hr (fun t ht hW => ⟨⟨r, (), rfl, by rw [rateD, if_neg cz]; rw [show (1 : Int32).toNatClampNeg = 1 by decide +kernel] at hal; exact hal, by show pw_G D cA shP 12 A ad σ t.heap; rw [ht]; exact hG⟩, hS.F ht⟩) hS.2.2 dX3_swapRate_22 hlocks
  · refine lv_dconst0 hx hb dX3_swapRate_7 ?_
    refine W.endD hd0 ?_
    exact W.dret hx hb hr (fun t ht hW => ⟨⟨_, (), rfl, by rw [rateD, if_pos cz]; exact alike64_refl _, by show pw_G D cA shP 12 A ad σ t.heap; rw [ht]; exact hG⟩, hS.F ht⟩) hS.2.2 dX3_swapRate_8 hlocks
set_option maxHeartbeats 4000000 in
set_option maxRecDepth 100000 in
theorem kX4_swapRate (l : Launch) (D : va_G) (cA : Nat → ClassId) (A : Nat → Prop) (ad : Nat → Nat) (σ : pw_S) : MetD lw_cs l yX4_swapRate (wA yX4_swapRate cX4_swapRate 1 (some .double)) ({ frames := 0, cells := 0, slots := 0, locals := 0 }) (pw_Pc D cA shM 15 A ad σ [.ref (ad 0)]) (va_Qd (S := Unit) (fun r _ => alike64 r (rateD (gi σ 13 1) (gi σ 0 1)) = true) (fun _ t => pw_G D cA shM 15 A ad (si σ 0 0 0) t.heap) A) 0 0 A := by
  refine MetD.ofW (cc := cX4_swapRate) (maxL := 1) (ret := some .double) (by decide) rfl ?_
  intro p e s m args below meth c s₁ B hml hv hd0
  obtain ⟨rfl, hG, hK, hA, hX⟩ := hv
  have hx := B.exec
  have hb := B.bytes
  have hr := B.returns
  have hts0 := atoms_spec (ws := wA yX4_swapRate cX4_swapRate 1 (some .double)) B.pre
  have hts1 : ∀ w ∈ wsL_law, w.before _ s = true := fun w hw => hts0 w (List.mem_cons_of_mem _ hw)
  have hts := dr_words hts1 s.drawn
  have hown : s.vm.findClass RX4 = some m.cls := findClass_of_methodNamed B.named
  have hlocks := B.notSynchronized
  have hS : va_S A s.heap s.heap [] := va_S.rf
  have hl := lv_entry ([.ref (ad 0)]) (n := 1) (Nat.le_of_ble_eq_true rfl)
  rw [lg_entry_eq]
  generalize (lg_sl ([.ref (ad 0)]) ++ List.replicate (1 - (lg_sl ([.ref (ad 0)])).length) Slot.unset).toArray = ls at hl ⊢
  have hl : lv_has ls 1 [(0, .ref (ad 0))] := hl
  refine lv_aload_n hx hb dX4_swapRate_0 rfl (lv_at hl 0 rfl) ?_
  refine lv_iconst (v := 0) hx hb dX4_swapRate_1 (by decide) ?_
  refine mw_puti (D := D) (cA := cA) hx hb hts hown hK hG hS inlX4 tyX4 tyX4_ok nmX4 rfl (hG.fix (by decide)) rfl 0 (by decide) rfl rfl rfl rfl (by decide +kernel) dX4_swapRate_2 (fun H locs hG hS => ?_)
  refine lv_aload_n hx hb dX4_swapRate_5 rfl (lv_at hl 0 rfl) ?_
  refine mw_geti (D := D) (cA := cA) hx hb hts hown hK hG inlX4 rfl (hG.fix (by decide)) rfl 1 (by decide) rfl (by decide +kernel) dX4_swapRate_6 ?_
  refine lv_if_ne (tgt := 16) hx hb dX4_swapRate_9 (by decide) (fun cz => ?_) (fun cz => ?_)
  · refine lv_aload_n hx hb dX4_swapRate_16 rfl (lv_at hl 0 rfl) ?_
    refine mw_getl (D := D) (cA := cA) hx hb hts hown hK hG inlX4 rfl (hG.fix (by decide)) rfl 19 (by decide) 13 rfl (by decide +kernel) dX4_swapRate_17 ?_
    refine lv_iconst (v := 1) hx hb dX4_swapRate_20 (by decide) ?_
    refine mw_iald (D := D) (cA := cA) hx hb hK hG (hG.fix (by decide)) rfl (inb_in (i := 1) (n := 6) (by decide +kernel)) dX4_swapRate_21 ?_
    refine lv_i2d hx hb dX4_swapRate_22 ?_
    refine lv_aload_n hx hb dX4_swapRate_23 rfl (lv_at hl 0 rfl) ?_
    refine mw_geti (D := D) (cA := cA) hx hb hts hown hK hG inlX4 rfl (hG.fix (by decide)) rfl 1 (by decide) rfl (by decide +kernel) dX4_swapRate_24 ?_
    refine lv_i2d hx hb dX4_swapRate_27 ?_
    refine lv_ddiv_any hd0 lw_bits hx hb dX4_swapRate_28 (fun r d1 hal hd1 => ?_)
    refine W.endD hd1 ?_
    have cz : ¬ gi σ 0 1 = 0 := cz
    exact W.dret hx hb hr (fun t ht hW => ⟨⟨r, (), rfl, by rw [rateD, if_neg cz]; rw [show (1 : Int32).toNatClampNeg = 1 by decide +kernel] at hal; exact hal, by subst ht; exact hG⟩, hS.F ht⟩) hS.2.2 dX4_swapRate_29 hlocks
  · refine lv_dconst0 hx hb dX4_swapRate_12 ?_
    refine lv_goto (tgt := 29) hx hb dX4_swapRate_13 (by decide) ?_
    refine W.endD hd0 ?_
    have cz : gi σ 0 1 = 0 := cz
    exact W.dret hx hb hr (fun t ht hW => ⟨⟨_, (), rfl, by rw [rateD, if_pos cz]; exact alike64_refl _, by subst ht; exact hG⟩, hS.F ht⟩) hS.2.2 dX4_swapRate_29 hlocks
