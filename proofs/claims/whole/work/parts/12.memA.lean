/-! PagedMemory: pure functions and contracts, first half (printed by wip/whole/gen) -/
def fX3_setFrames_11 (σ : pw_S) : Option ((Int32 ⊕ String) × pw_S) := some (.inr pw_iaX, σ)
def fX3_setFrames (a1 : Int32) (σ : pw_S) : Option ((Int32 ⊕ String) × pw_S) := (if a1 < 4 then fX3_setFrames_11 σ else (if a1 ≤ 12 then bnd (fX1_freeCount σ) (fun r6 σ7 => (if (gi σ7 4 3) ≤ r6 then ld (si σ7 4 3 (a1)) (fun σ10 => ld (si σ10 4 4 (0)) (fun σ12 => some (.inl ((gi σ7 4 3)), σ12))) else some (.inr pw_isX, σ7))) else fX3_setFrames_11 σ))
set_option maxHeartbeats 4000000 in
set_option maxRecDepth 100000 in
theorem kX3_setFrames (l : Launch) (D : va_G) (cA : Nat → ClassId) (A : Nat → Prop) (ad : Nat → Nat) (hlt : l.stackTraces = false) {σ σ' : pw_S} {r : (Int32 ⊕ String)} {a1 : Int32} (hf : fX3_setFrames a1 σ = some (r, σ')) : vx_Met l yX3_setFrames (wA yX3_setFrames cX3_setFrames 3 (some .int)) ({ frames := 6, cells := 1, slots := 6, locals := 82 }) (pw_Pc D cA shP 12 A ad σ [.ref (ad 0), .int (a1)]) (px_Qi D cA shP 12 A ad r σ') (px_X D cA shP 12 A ad r σ') 1 6 A := by
  refine mw_enterX (own := RX3) (by decide) rfl (Nat.le_of_ble_eq_true rfl) ?_
  intro p e s m args below meth c ls hC hr hlocks hout hK hA hX hG hS hl
  obtain ⟨hx, hb, hml, hown, hts⟩ := id hC
  have K11 : ∀ (σ : pw_S), fX3_setFrames_11  σ = some (r, σ') → mw_K p l e ({ frames := 6, cells := 1, slots := 6, locals := 82 }) s m args below meth c (vx_MQ below (px_Qi D cA shP 12 A ad r σ') (px_X D cA shP 12 A ad r σ') args s 1 6 A) A D cA shP 12 ad 3 11 0 0 [] [] σ := by
    intro  σ hf H locs ls hG hS hl
    unfold fX3_setFrames_11 at hf
    exact mt_throw mtE_ia (List.mem_of_getElem? (i := 0) rfl) hC hout hlt hX hG hS hlocks hl.1 hf (Nat.le_of_ble_eq_true rfl) (Nat.le_of_ble_eq_true rfl) (Nat.le_of_ble_eq_true rfl) (Nat.le_of_ble_eq_true rfl) (Nat.le_of_ble_eq_true rfl) (Nat.le_of_ble_eq_true rfl) dX3_setFrames_11 dX3_setFrames_14 dX3_setFrames_15 dX3_setFrames_17 dX3_setFrames_20
  have hl : lv_has ls 3 [(0, .ref (ad 0)), (1, .int (a1))] := hl
  unfold fX3_setFrames at hf
  refine lv_iload_n hx hb dX3_setFrames_0 rfl (lv_at hl 1 rfl) ?_
  refine lv_iconst (v := 4) hx hb dX3_setFrames_1 (by decide) ?_
  refine lv_icmp_lt (tgt := 11) hx hb dX3_setFrames_2 (by decide) (fun c4 => ?_) (fun c4 => ?_)
  · have hf := it_pos c4 hf
    exact K11 _ hf _ _ _ hG hS (lv_sub hl [] rfl)
  · have hf := it_neg c4 hf
    refine lv_iload_n hx hb dX3_setFrames_5 rfl (lv_at hl 1 rfl) ?_
    refine lv_bipush (v := 12) hx hb dX3_setFrames_6 (by decide) ?_
    refine lv_icmp_le (tgt := 21) hx hb dX3_setFrames_8 (by decide) (fun c5 => ?_) (fun c5 => ?_)
    · have hf := it_pos c5 hf
      refine lv_aload_n hx hb dX3_setFrames_21 rfl (lv_at hl 0 rfl) ?_
      refine mw_getl hx hb hts hown hK hG inlX3 rfl (hG.fix (by decide)) rfl 3 (by decide) 4 rfl wA_21 dX3_setFrames_22 ?_
      obtain ⟨r6, σ7, hc8, hf⟩ := bnd_some hf
      refine mc_i (mc_V (As := []) hC hK hA hX hG hS (kX1_freeCount l D cA A ad hc8) ykX1_freeCount wA_85 wA_86 wA_87 (hG.fix (by decide)) rfl rfl ⟨rfl, rfl, Nat.le_of_ble_eq_true rfl, Nat.le_of_ble_eq_true rfl⟩ rfl hl.1 rfl (Nat.le_of_ble_eq_true rfl) dX3_setFrames_25 ⟨Nat.le_of_ble_eq_true rfl, Nat.le_of_ble_eq_true rfl⟩) hS (fun H locs hG hS => ?_)
      refine lv_aload_n hx hb dX3_setFrames_28 rfl (lv_at hl 0 rfl) ?_
      refine mw_getl hx hb hts hown hK hG inlX3 rfl (hG.fix (by decide)) rfl 3 (by decide) 4 rfl wA_21 dX3_setFrames_29 ?_
      refine mw_geti hx hb hts hown hK hG inlX1 rfl (hG.fix (by decide)) rfl 3 (by decide) rfl wA_83 dX3_setFrames_32 ?_
      refine lv_icmp_ge (tgt := 48) hx hb dX3_setFrames_35 (by decide) (fun c9 => ?_) (fun c9 => ?_)
      · have hf := it_pos c9 hf
        refine lv_aload_n hx hb dX3_setFrames_48 rfl (lv_at hl 0 rfl) ?_
        refine mw_getl hx hb hts hown hK hG inlX3 rfl (hG.fix (by decide)) rfl 3 (by decide) 4 rfl wA_21 dX3_setFrames_49 ?_
        refine mw_geti hx hb hts hown hK hG inlX1 rfl (hG.fix (by decide)) rfl 3 (by decide) rfl wA_83 dX3_setFrames_52 ?_
        refine lv_istore_n (lv' := [(2, .int ((gi σ7 4 3))), (0, .ref (ad 0)), (1, .int (a1))]) hx hb dX3_setFrames_55 rfl hl (by decide) rfl (fun ls hl => ?_)
        refine lv_aload_n hx hb dX3_setFrames_56 rfl (lv_at hl 1 rfl) ?_
        refine mw_getl hx hb hts hown hK hG inlX3 rfl (hG.fix (by decide)) rfl 3 (by decide) 4 rfl wA_21 dX3_setFrames_57 ?_
        refine lv_iload_n hx hb dX3_setFrames_60 rfl (lv_at hl 2 rfl) ?_
        refine mw_puti hx hb hts hown hK hG hS inlX1 tyX1 tyX1_ok nmX1 rfl (hG.fix (by decide)) rfl 3 (by decide) rfl rfl rfl rfl wA_83 dX3_setFrames_61 (fun H locs hG hS => ?_)
        obtain ⟨σ10, e11, hf⟩ := ld_some hf
        rw [← e11] at hG
        clear e11
        refine lv_aload_n hx hb dX3_setFrames_64 rfl (lv_at hl 1 rfl) ?_
        refine mw_getl hx hb hts hown hK hG inlX3 rfl (hG.fix (by decide)) rfl 3 (by decide) 4 rfl wA_21 dX3_setFrames_65 ?_
        refine lv_iconst (v := 0) hx hb dX3_setFrames_68 (by decide) ?_
        refine mw_puti hx hb hts hown hK hG hS inlX1 tyX1 tyX1_ok nmX1 rfl (hG.fix (by decide)) rfl 4 (by decide) rfl rfl rfl rfl wA_84 dX3_setFrames_69 (fun H locs hG hS => ?_)
        obtain ⟨σ12, e13, hf⟩ := ld_some hf
        rw [← e13] at hG
        clear e13
        refine lv_iload_n hx hb dX3_setFrames_72 rfl (lv_at hl 0 rfl) ?_
        exact mrx_i hC hr hlocks hG hS hf (Nat.le_of_ble_eq_true rfl) (Nat.le_of_ble_eq_true rfl) dX3_setFrames_73
      · have hf := it_neg c9 hf
        exact mt_throw mtE_is (List.mem_of_getElem? (i := 1) rfl) hC hout hlt hX hG hS hlocks hl.1 hf (Nat.le_of_ble_eq_true rfl) (Nat.le_of_ble_eq_true rfl) (Nat.le_of_ble_eq_true rfl) (Nat.le_of_ble_eq_true rfl) (Nat.le_of_ble_eq_true rfl) (Nat.le_of_ble_eq_true rfl) dX3_setFrames_38 dX3_setFrames_41 dX3_setFrames_42 dX3_setFrames_44 dX3_setFrames_47
    · have hf := it_neg c5 hf
      exact K11 _ hf _ _ _ hG hS (lv_sub hl [] rfl)
def fX3_setWindow_10 (σ : pw_S) : Option ((Int32 ⊕ String) × pw_S) := some (.inr pw_iaX, σ)
def fX3_setWindow (a1 : Int32) (σ : pw_S) : Option ((Int32 ⊕ String) × pw_S) := (if a1 < 0 then fX3_setWindow_10 σ else (if a1 ≤ 50 then ld (si σ 0 9 (a1)) (fun σ5 => some (.inl ((gi σ 0 9)), σ5)) else fX3_setWindow_10 σ))
set_option maxHeartbeats 4000000 in
set_option maxRecDepth 100000 in
theorem kX3_setWindow (l : Launch) (D : va_G) (cA : Nat → ClassId) (A : Nat → Prop) (ad : Nat → Nat) (hlt : l.stackTraces = false) {σ σ' : pw_S} {r : (Int32 ⊕ String)} {a1 : Int32} (hf : fX3_setWindow a1 σ = some (r, σ')) : vx_Met l yX3_setWindow (wA yX3_setWindow cX3_setWindow 3 (some .int)) ({ frames := 6, cells := 1, slots := 6, locals := 82 }) (pw_Pc D cA shP 12 A ad σ [.ref (ad 0), .int (a1)]) (px_Qi D cA shP 12 A ad r σ') (px_X D cA shP 12 A ad r σ') 1 6 A := by
  refine mw_enterX (own := RX3) (by decide) rfl (Nat.le_of_ble_eq_true rfl) ?_
  intro p e s m args below meth c ls hC hr hlocks hout hK hA hX hG hS hl
  obtain ⟨hx, hb, hml, hown, hts⟩ := id hC
  have K10 : ∀ (σ : pw_S), fX3_setWindow_10  σ = some (r, σ') → mw_K p l e ({ frames := 6, cells := 1, slots := 6, locals := 82 }) s m args below meth c (vx_MQ below (px_Qi D cA shP 12 A ad r σ') (px_X D cA shP 12 A ad r σ') args s 1 6 A) A D cA shP 12 ad 3 10 0 0 [] [] σ := by
    intro  σ hf H locs ls hG hS hl
    unfold fX3_setWindow_10 at hf
    exact mt_throw mtE_ia (List.mem_of_getElem? (i := 2) rfl) hC hout hlt hX hG hS hlocks hl.1 hf (Nat.le_of_ble_eq_true rfl) (Nat.le_of_ble_eq_true rfl) (Nat.le_of_ble_eq_true rfl) (Nat.le_of_ble_eq_true rfl) (Nat.le_of_ble_eq_true rfl) (Nat.le_of_ble_eq_true rfl) dX3_setWindow_10 dX3_setWindow_13 dX3_setWindow_14 dX3_setWindow_16 dX3_setWindow_19
  have hl : lv_has ls 3 [(0, .ref (ad 0)), (1, .int (a1))] := hl
  unfold fX3_setWindow at hf
  refine lv_iload_n hx hb dX3_setWindow_0 rfl (lv_at hl 1 rfl) ?_
  refine lv_if_lt (tgt := 10) hx hb dX3_setWindow_1 (by decide) (fun c3 => ?_) (fun c3 => ?_)
  · have hf := it_pos c3 hf
    exact K10 _ hf _ _ _ hG hS (lv_sub hl [] rfl)
  · have hf := it_neg c3 hf
    refine lv_iload_n hx hb dX3_setWindow_4 rfl (lv_at hl 1 rfl) ?_
    refine lv_bipush (v := 50) hx hb dX3_setWindow_5 (by decide) ?_
    refine lv_icmp_le (tgt := 20) hx hb dX3_setWindow_7 (by decide) (fun c4 => ?_) (fun c4 => ?_)
    · have hf := it_pos c4 hf
      refine lv_aload_n hx hb dX3_setWindow_20 rfl (lv_at hl 0 rfl) ?_
      refine mw_geti hx hb hts hown hK hG inlX3 rfl (hG.fix (by decide)) rfl 9 (by decide) rfl wA_31 dX3_setWindow_21 ?_
      refine lv_istore_n (lv' := [(2, .int ((gi σ 0 9))), (0, .ref (ad 0)), (1, .int (a1))]) hx hb dX3_setWindow_24 rfl hl (by decide) rfl (fun ls hl => ?_)
      refine lv_aload_n hx hb dX3_setWindow_25 rfl (lv_at hl 1 rfl) ?_
      refine lv_iload_n hx hb dX3_setWindow_26 rfl (lv_at hl 2 rfl) ?_
      refine mw_puti hx hb hts hown hK hG hS inlX3 tyX3 tyX3_ok nmX3 rfl (hG.fix (by decide)) rfl 9 (by decide) rfl rfl rfl rfl wA_31 dX3_setWindow_27 (fun H locs hG hS => ?_)
      obtain ⟨σ5, e6, hf⟩ := ld_some hf
      rw [← e6] at hG
      clear e6
      refine lv_iload_n hx hb dX3_setWindow_30 rfl (lv_at hl 0 rfl) ?_
      exact mrx_i hC hr hlocks hG hS hf (Nat.le_of_ble_eq_true rfl) (Nat.le_of_ble_eq_true rfl) dX3_setWindow_31
    · have hf := it_neg c4 hf
      exact K10 _ hf _ _ _ hG hS (lv_sub hl [] rfl)
def fX3_requireRoomForProcess (σ : pw_S) : Option ((Unit ⊕ String) × pw_S) := (if (gi σ 0 7) < 10 then some (.inl (()), σ) else some (.inr pw_isX, σ))
set_option maxHeartbeats 4000000 in
set_option maxRecDepth 100000 in
theorem kX3_requireRoomForProcess (l : Launch) (D : va_G) (cA : Nat → ClassId) (A : Nat → Prop) (ad : Nat → Nat) (hlt : l.stackTraces = false) {σ σ' : pw_S} {r : (Unit ⊕ String)} (hf : fX3_requireRoomForProcess σ = some (r, σ')) : vx_Met l yX3_requireRoomForProcess (wA yX3_requireRoomForProcess cX3_requireRoomForProcess 1 none) ({ frames := 6, cells := 1, slots := 6, locals := 82 }) (pw_Pc D cA shP 12 A ad σ [.ref (ad 0)]) (px_Qv D cA shP 12 A ad r σ') (px_X D cA shP 12 A ad r σ') 1 6 A := by
  refine mw_enterX (own := RX3) (by decide) rfl (Nat.le_of_ble_eq_true rfl) ?_
  intro p e s m args below meth c ls hC hr hlocks hout hK hA hX hG hS hl
  obtain ⟨hx, hb, hml, hown, hts⟩ := id hC
  have hl : lv_has ls 1 [(0, .ref (ad 0))] := hl
  unfold fX3_requireRoomForProcess at hf
  refine lv_aload_n hx hb dX3_requireRoomForProcess_0 rfl (lv_at hl 0 rfl) ?_
  refine mw_geti hx hb hts hown hK hG inlX3 rfl (hG.fix (by decide)) rfl 7 (by decide) rfl wA_29 dX3_requireRoomForProcess_1 ?_
  refine lv_bipush (v := 10) hx hb dX3_requireRoomForProcess_4 (by decide) ?_
  refine lv_icmp_lt (tgt := 19) hx hb dX3_requireRoomForProcess_6 (by decide) (fun c2 => ?_) (fun c2 => ?_)
  · have hf := it_pos c2 hf
    exact mrx_v hC hr hlocks hG hS hf (Nat.le_of_ble_eq_true rfl) (Nat.le_of_ble_eq_true rfl) dX3_requireRoomForProcess_19
  · have hf := it_neg c2 hf
    exact mt_throw mtE_is (List.mem_of_getElem? (i := 10) rfl) hC hout hlt hX hG hS hlocks hl.1 hf (Nat.le_of_ble_eq_true rfl) (Nat.le_of_ble_eq_true rfl) (Nat.le_of_ble_eq_true rfl) (Nat.le_of_ble_eq_true rfl) (Nat.le_of_ble_eq_true rfl) (Nat.le_of_ble_eq_true rfl) dX3_requireRoomForProcess_9 dX3_requireRoomForProcess_12 dX3_requireRoomForProcess_13 dX3_requireRoomForProcess_15 dX3_requireRoomForProcess_18
def fX3_createProcess (σ : pw_S) : Option (Int32 × pw_S) := ck (inb ((gi σ 0 7)) (10)) (ld (si σ 2 (Int32.toNatClampNeg ((gi σ 0 7))) (1)) (fun σ2 => ld (si σ2 0 7 (((gi σ2 0 7) + 1))) (fun σ4 => some ((gi σ 0 7), σ4))))
set_option maxHeartbeats 4000000 in
set_option maxRecDepth 100000 in
theorem kX3_createProcess (l : Launch) (D : va_G) (cA : Nat → ClassId) (A : Nat → Prop) (ad : Nat → Nat) {σ σ' : pw_S} {r : Int32} (hf : fX3_createProcess σ = some (r, σ')) : Met l yX3_createProcess (wA yX3_createProcess cX3_createProcess 2 (some .int)) ({ frames := 0, cells := 0, slots := 0, locals := 0 }) (pw_Pc D cA shP 12 A ad σ [.ref (ad 0)]) (pw_Qi D cA shP 12 A ad r σ') 0 0 A := by
  refine mw_enter (own := RX3) (by decide) rfl (Nat.le_of_ble_eq_true rfl) ?_
  intro p e s m args below meth c ls hC hr hlocks hK hA hX hG hS hl
  obtain ⟨hx, hb, hml, hown, hts⟩ := id hC
  have hl : lv_has ls 2 [(0, .ref (ad 0))] := hl
  unfold fX3_createProcess at hf
  refine lv_aload_n hx hb dX3_createProcess_0 rfl (lv_at hl 0 rfl) ?_
  refine mw_geti hx hb hts hown hK hG inlX3 rfl (hG.fix (by decide)) rfl 7 (by decide) rfl wA_29 dX3_createProcess_1 ?_
  refine lv_istore_n (lv' := [(1, .int ((gi σ 0 7))), (0, .ref (ad 0))]) hx hb dX3_createProcess_4 rfl hl (by decide) rfl (fun ls hl => ?_)
  refine lv_aload_n hx hb dX3_createProcess_5 rfl (lv_at hl 1 rfl) ?_
  refine mw_getl hx hb hts hown hK hG inlX3 rfl (hG.fix (by decide)) rfl 1 (by decide) 2 rfl wA_16 dX3_createProcess_6 ?_
  refine lv_iload_n hx hb dX3_createProcess_9 rfl (lv_at hl 0 rfl) ?_
  refine lv_iconst (v := 1) hx hb dX3_createProcess_10 (by decide) ?_
  obtain ⟨h1, hf⟩ := ck_some hf
  refine mw_zast hx hb hK hG hS (hG.fix (by decide)) rfl rfl (inb_in h1) dX3_createProcess_11 (fun H locs hG hS => ?_)
  obtain ⟨σ2, e3, hf⟩ := ld_some hf
  rw [← e3] at hG
  clear e3
  refine lv_aload_n hx hb dX3_createProcess_12 rfl (lv_at hl 1 rfl) ?_
  refine lv_dup hx hb dX3_createProcess_13 rfl ?_
  refine mw_geti hx hb hts hown hK hG inlX3 rfl (hG.fix (by decide)) rfl 7 (by decide) rfl wA_29 dX3_createProcess_14 ?_
  refine lv_iconst (v := 1) hx hb dX3_createProcess_17 (by decide) ?_
  refine lv_iadd hx hb dX3_createProcess_18 ?_
  refine mw_puti hx hb hts hown hK hG hS inlX3 tyX3 tyX3_ok nmX3 rfl (hG.fix (by decide)) rfl 7 (by decide) rfl rfl rfl rfl wA_29 dX3_createProcess_19 (fun H locs hG hS => ?_)
  obtain ⟨σ4, e5, hf⟩ := ld_some hf
  rw [← e5] at hG
  clear e5
  refine lv_iload_n hx hb dX3_createProcess_22 rfl (lv_at hl 0 rfl) ?_
  exact mr_i hC hr hlocks hG hS hf (Nat.le_of_ble_eq_true rfl) (Nat.le_of_ble_eq_true rfl) dX3_createProcess_23
def fX3_start (σ : pw_S) : Option ((Int32 ⊕ String) × pw_S) := bnx (fX3_requireRoomForProcess σ) (fun r1 σ2 => bnd (fX3_createProcess σ2) (fun r8 σ9 => some (.inl (r8), σ9)))
set_option maxHeartbeats 4000000 in
set_option maxRecDepth 100000 in
theorem kX3_start (l : Launch) (D : va_G) (cA : Nat → ClassId) (A : Nat → Prop) (ad : Nat → Nat) (hlt : l.stackTraces = false) {σ σ' : pw_S} {r : (Int32 ⊕ String)} (hf : fX3_start σ = some (r, σ')) : vx_Met l yX3_start (wA yX3_start cX3_start 1 (some .int)) ({ frames := 7, cells := 1, slots := 6, locals := 102 }) (pw_Pc D cA shP 12 A ad σ [.ref (ad 0)]) (px_Qi D cA shP 12 A ad r σ') (px_X D cA shP 12 A ad r σ') 1 6 A := by
  refine mw_enterX (own := RX3) (by decide) rfl (Nat.le_of_ble_eq_true rfl) ?_
  intro p e s m args below meth c ls hC hr hlocks hout hK hA hX hG hS hl
  obtain ⟨hx, hb, hml, hown, hts⟩ := id hC
  have hl : lv_has ls 1 [(0, .ref (ad 0))] := hl
  unfold fX3_start at hf
  refine lv_aload_n hx hb dX3_start_0 rfl (lv_at hl 0 rfl) ?_
  obtain ⟨z4, σ2, hc3, hi5, hx6⟩ := bnx_some hf
  refine mx_v (mx_V (As := []) hC hK hA hX hG hS (kX3_requireRoomForProcess l D cA A ad hlt hc3) ykX3_requireRoomForProcess wA_125 wA_126 wA_127 (hG.fix (by decide)) rfl rfl ⟨rfl, rfl, Nat.le_of_ble_eq_true rfl, Nat.le_of_ble_eq_true rfl⟩ rfl hl.1 rfl (Nat.le_of_ble_eq_true rfl) dX3_start_1 ⟨Nat.le_of_ble_eq_true rfl, Nat.le_of_ble_eq_true rfl⟩) hS hout hlocks (bnx_x hx6) (Nat.le_of_ble_eq_true rfl) (Nat.le_of_ble_eq_true rfl) (fun r1 he7 H locs hG hS => ?_)
  have hf := hi5 r1 he7
  clear hi5 hx6
  refine lv_aload_n hx hb dX3_start_4 rfl (lv_at hl 0 rfl) ?_
  obtain ⟨r8, σ9, hc10, hf⟩ := bnd_some hf
  refine mc_i (mc_V (As := []) hC hK hA hX hG hS (kX3_createProcess l D cA A ad hc10) ykX3_createProcess wA_129 wA_130 wA_131 (hG.fix (by decide)) rfl rfl ⟨rfl, rfl, Nat.le_of_ble_eq_true rfl, Nat.le_of_ble_eq_true rfl⟩ rfl hl.1 rfl (Nat.le_of_ble_eq_true rfl) dX3_start_5 ⟨Nat.le_of_ble_eq_true rfl, Nat.le_of_ble_eq_true rfl⟩) hS (fun H locs hG hS => ?_)
  exact mrx_i hC hr hlocks hG hS hf (Nat.le_of_ble_eq_true rfl) (Nat.le_of_ble_eq_true rfl) dX3_start_8
def fX3_requireProcess_12 (σ : pw_S) : Option ((Unit ⊕ String) × pw_S) := some (.inr pw_ioX, σ)
def fX3_requireProcess (a1 : Int32) (σ : pw_S) : Option ((Unit ⊕ String) × pw_S) := (if a1 < 0 then fX3_requireProcess_12 σ else (if a1 < (gi σ 0 7) then some (.inl (()), σ) else fX3_requireProcess_12 σ))
set_option maxHeartbeats 4000000 in
set_option maxRecDepth 100000 in
theorem kX3_requireProcess (l : Launch) (D : va_G) (cA : Nat → ClassId) (A : Nat → Prop) (ad : Nat → Nat) (hlt : l.stackTraces = false) {σ σ' : pw_S} {r : (Unit ⊕ String)} {a1 : Int32} (hf : fX3_requireProcess a1 σ = some (r, σ')) : vx_Met l yX3_requireProcess (wA yX3_requireProcess cX3_requireProcess 2 none) ({ frames := 6, cells := 1, slots := 6, locals := 82 }) (pw_Pc D cA shP 12 A ad σ [.ref (ad 0), .int (a1)]) (px_Qv D cA shP 12 A ad r σ') (px_X D cA shP 12 A ad r σ') 1 6 A := by
  refine mw_enterX (own := RX3) (by decide) rfl (Nat.le_of_ble_eq_true rfl) ?_
  intro p e s m args below meth c ls hC hr hlocks hout hK hA hX hG hS hl
  obtain ⟨hx, hb, hml, hown, hts⟩ := id hC
  have K12 : ∀ (σ : pw_S), fX3_requireProcess_12  σ = some (r, σ') → mw_K p l e ({ frames := 6, cells := 1, slots := 6, locals := 82 }) s m args below meth c (vx_MQ below (px_Qv D cA shP 12 A ad r σ') (px_X D cA shP 12 A ad r σ') args s 1 6 A) A D cA shP 12 ad 2 12 0 0 [] [] σ := by
    intro  σ hf H locs ls hG hS hl
    unfold fX3_requireProcess_12 at hf
    exact mt_throw mtE_io (List.mem_of_getElem? (i := 6) rfl) hC hout hlt hX hG hS hlocks hl.1 hf (Nat.le_of_ble_eq_true rfl) (Nat.le_of_ble_eq_true rfl) (Nat.le_of_ble_eq_true rfl) (Nat.le_of_ble_eq_true rfl) (Nat.le_of_ble_eq_true rfl) (Nat.le_of_ble_eq_true rfl) dX3_requireProcess_12 dX3_requireProcess_15 dX3_requireProcess_16 dX3_requireProcess_18 dX3_requireProcess_21
  have hl : lv_has ls 2 [(0, .ref (ad 0)), (1, .int (a1))] := hl
  unfold fX3_requireProcess at hf
  refine lv_iload_n hx hb dX3_requireProcess_0 rfl (lv_at hl 1 rfl) ?_
  refine lv_if_lt (tgt := 12) hx hb dX3_requireProcess_1 (by decide) (fun c3 => ?_) (fun c3 => ?_)
  · have hf := it_pos c3 hf
    exact K12 _ hf _ _ _ hG hS (lv_sub hl [] rfl)
  · have hf := it_neg c3 hf
    refine lv_iload_n hx hb dX3_requireProcess_4 rfl (lv_at hl 1 rfl) ?_
    refine lv_aload_n hx hb dX3_requireProcess_5 rfl (lv_at hl 0 rfl) ?_
    refine mw_geti hx hb hts hown hK hG inlX3 rfl (hG.fix (by decide)) rfl 7 (by decide) rfl wA_29 dX3_requireProcess_6 ?_
    refine lv_icmp_lt (tgt := 22) hx hb dX3_requireProcess_9 (by decide) (fun c4 => ?_) (fun c4 => ?_)
    · have hf := it_pos c4 hf
      exact mrx_v hC hr hlocks hG hS hf (Nat.le_of_ble_eq_true rfl) (Nat.le_of_ble_eq_true rfl) dX3_requireProcess_22
    · have hf := it_neg c4 hf
      exact K12 _ hf _ _ _ hG hS (lv_sub hl [] rfl)
set_option maxHeartbeats 4000000 in
set_option maxRecDepth 100000 in
theorem k0X3_requireProcess (l : Launch) (D : va_G) (cA : Nat → ClassId) (A : Nat → Prop) (ad : Nat → Nat) {σ σ' : pw_S} {r : Unit} {a1 : Int32} (hf : fX3_requireProcess a1 σ = some (.inl r, σ')) : Met l yX3_requireProcess (wA yX3_requireProcess cX3_requireProcess 2 none) ({ frames := 0, cells := 0, slots := 0, locals := 0 }) (pw_Pc D cA shP 12 A ad σ [.ref (ad 0), .int (a1)]) (pw_Qv D cA shP 12 A ad r σ') 0 0 A := by
  refine mw_enter (own := RX3) (by decide) rfl (Nat.le_of_ble_eq_true rfl) ?_
  intro p e s m args below meth c ls hC hr hlocks hK hA hX hG hS hl
  obtain ⟨hx, hb, hml, hown, hts⟩ := id hC
  have K12 : ∀ (σ : pw_S), fX3_requireProcess_12  σ = some (.inl r, σ') → mw_K p l e ({ frames := 0, cells := 0, slots := 0, locals := 0 }) s m args below meth c (MQ below (pw_Qv D cA shP 12 A ad r σ') args s 0 0 A) A D cA shP 12 ad 2 12 0 0 [] [] σ := by
    intro  σ hf H locs ls hG hS hl
    unfold fX3_requireProcess_12 at hf
    cases hf
  have hl : lv_has ls 2 [(0, .ref (ad 0)), (1, .int (a1))] := hl
  unfold fX3_requireProcess at hf
  refine lv_iload_n hx hb dX3_requireProcess_0 rfl (lv_at hl 1 rfl) ?_
  refine lv_if_lt (tgt := 12) hx hb dX3_requireProcess_1 (by decide) (fun c3 => ?_) (fun c3 => ?_)
  · have hf := it_pos c3 hf
    exact K12 _ hf _ _ _ hG hS (lv_sub hl [] rfl)
  · have hf := it_neg c3 hf
    refine lv_iload_n hx hb dX3_requireProcess_4 rfl (lv_at hl 1 rfl) ?_
    refine lv_aload_n hx hb dX3_requireProcess_5 rfl (lv_at hl 0 rfl) ?_
    refine mw_geti hx hb hts hown hK hG inlX3 rfl (hG.fix (by decide)) rfl 7 (by decide) rfl wA_29 dX3_requireProcess_6 ?_
    refine lv_icmp_lt (tgt := 22) hx hb dX3_requireProcess_9 (by decide) (fun c4 => ?_) (fun c4 => ?_)
    · have hf := it_pos c4 hf
      have hf := inl_some hf
      exact mr_v hC hr hlocks hG hS hf (Nat.le_of_ble_eq_true rfl) (Nat.le_of_ble_eq_true rfl) dX3_requireProcess_22
    · have hf := it_neg c4 hf
      exact K12 _ hf _ _ _ hG hS (lv_sub hl [] rfl)
def fX3_requireLive (a1 : Int32) (σ : pw_S) : Option ((Unit ⊕ String) × pw_S) := ck (inb (a1) (10)) ((if (gi σ 2 (Int32.toNatClampNeg (a1))) = 0 then some (.inr pw_neX, σ) else some (.inl (()), σ)))
set_option maxHeartbeats 4000000 in
set_option maxRecDepth 100000 in
theorem kX3_requireLive (l : Launch) (D : va_G) (cA : Nat → ClassId) (A : Nat → Prop) (ad : Nat → Nat) (hlt : l.stackTraces = false) {σ σ' : pw_S} {r : (Unit ⊕ String)} {a1 : Int32} (hf : fX3_requireLive a1 σ = some (r, σ')) : vx_Met l yX3_requireLive (wA yX3_requireLive cX3_requireLive 2 none) ({ frames := 6, cells := 1, slots := 6, locals := 82 }) (pw_Pc D cA shP 12 A ad σ [.ref (ad 0), .int (a1)]) (px_Qv D cA shP 12 A ad r σ') (px_X D cA shP 12 A ad r σ') 1 6 A := by
  refine mw_enterX (own := RX3) (by decide) rfl (Nat.le_of_ble_eq_true rfl) ?_
  intro p e s m args below meth c ls hC hr hlocks hout hK hA hX hG hS hl
  obtain ⟨hx, hb, hml, hown, hts⟩ := id hC
  have hl : lv_has ls 2 [(0, .ref (ad 0)), (1, .int (a1))] := hl
  unfold fX3_requireLive at hf
  refine lv_aload_n hx hb dX3_requireLive_0 rfl (lv_at hl 0 rfl) ?_
  refine mw_getl hx hb hts hown hK hG inlX3 rfl (hG.fix (by decide)) rfl 1 (by decide) 2 rfl wA_16 dX3_requireLive_1 ?_
  refine lv_iload_n hx hb dX3_requireLive_4 rfl (lv_at hl 1 rfl) ?_
  obtain ⟨h2, hf⟩ := ck_some hf
  refine mw_zald hx hb hK hG (hG.fix (by decide)) rfl (inb_in h2) dX3_requireLive_5 ?_
  refine lv_if_ne (tgt := 19) hx hb dX3_requireLive_6 (by decide) (fun c3 => ?_) (fun c3 => ?_)
  · have hf := it_neg c3 hf
    exact mrx_v hC hr hlocks hG hS hf (Nat.le_of_ble_eq_true rfl) (Nat.le_of_ble_eq_true rfl) dX3_requireLive_19
  · have hf := it_pos c3 hf
    exact mt_throwN mtN_ne (List.mem_of_getElem? (i := 9) rfl) hC hout hlt hX hG hS hlocks hl.1 hf (Nat.le_of_ble_eq_true rfl) (Nat.le_of_ble_eq_true rfl) (Nat.le_of_ble_eq_true rfl) (Nat.le_of_ble_eq_true rfl) (Nat.le_of_ble_eq_true rfl) (Nat.le_of_ble_eq_true rfl) dX3_requireLive_9 dX3_requireLive_12 dX3_requireLive_13 dX3_requireLive_15 dX3_requireLive_18
def fX3_placeOf (a0 : Int32) (a1 : Int32) (σ : pw_S) : Option (Int32 × pw_S) := some (((a0 * 16) + a1), σ)
set_option maxHeartbeats 4000000 in
set_option maxRecDepth 100000 in
theorem kX3_placeOf (l : Launch) (D : va_G) (cA : Nat → ClassId) (A : Nat → Prop) (ad : Nat → Nat) {σ σ' : pw_S} {r : Int32} {a0 : Int32} {a1 : Int32} (hf : fX3_placeOf a0 a1 σ = some (r, σ')) : Met l yX3_placeOf (wA yX3_placeOf cX3_placeOf 2 (some .int)) ({ frames := 0, cells := 0, slots := 0, locals := 0 }) (pw_Pc D cA shP 12 A ad σ [.int (a0), .int (a1)]) (pw_Qi D cA shP 12 A ad r σ') 0 0 A := by
  refine mw_enter (own := RX3) (by decide) rfl (Nat.le_of_ble_eq_true rfl) ?_
  intro p e s m args below meth c ls hC hr hlocks hK hA hX hG hS hl
  obtain ⟨hx, hb, hml, hown, hts⟩ := id hC
  have hl : lv_has ls 2 [(0, .int (a0)), (1, .int (a1))] := hl
  unfold fX3_placeOf at hf
  refine lv_iload_n hx hb dX3_placeOf_0 rfl (lv_at hl 0 rfl) ?_
  refine lv_bipush (v := 16) hx hb dX3_placeOf_1 (by decide) ?_
  refine lv_imul hx hb dX3_placeOf_3 ?_
  refine lv_iload_n hx hb dX3_placeOf_4 rfl (lv_at hl 1 rfl) ?_
  refine lv_iadd hx hb dX3_placeOf_5 ?_
  exact mr_i hC hr hlocks hG hS hf (Nat.le_of_ble_eq_true rfl) (Nat.le_of_ble_eq_true rfl) dX3_placeOf_6
def fX3_refer (a1 : Int32) (a2 : Nat) (σ : pw_S) : Option (Unit × pw_S) := ck (okc σ a2) (ck (inb (a1) (160)) (ld (sr σ 1 (Int32.toNatClampNeg (a1)) (some a2)) (fun σ3 => ld (si σ3 a2 6 (((gi σ3 a2 6) + 1))) (fun σ5 => some ((), σ5)))))
set_option maxHeartbeats 4000000 in
set_option maxRecDepth 100000 in
theorem kX3_refer (l : Launch) (D : va_G) (cA : Nat → ClassId) (A : Nat → Prop) (ad : Nat → Nat) {σ σ' : pw_S} {r : Unit} {a1 : Int32} {a2 : Nat} (hf : fX3_refer a1 a2 σ = some (r, σ')) : Met l yX3_refer (wA yX3_refer cX3_refer 3 none) ({ frames := 0, cells := 0, slots := 0, locals := 0 }) (pw_Pc D cA shP 12 A ad σ [.ref (ad 0), .int (a1), .ref (ad a2)]) (pw_Qv D cA shP 12 A ad r σ') 0 0 A := by
  refine mw_enter (own := RX3) (by decide) rfl (Nat.le_of_ble_eq_true rfl) ?_
  intro p e s m args below meth c ls hC hr hlocks hK hA hX hG hS hl
  obtain ⟨hx, hb, hml, hown, hts⟩ := id hC
  have hl : lv_has ls 3 [(0, .ref (ad 0)), (1, .int (a1)), (2, .ref (ad a2))] := hl
  unfold fX3_refer at hf
  refine lv_aload_n hx hb dX3_refer_0 rfl (lv_at hl 0 rfl) ?_
  refine mw_getl hx hb hts hown hK hG inlX3 rfl (hG.fix (by decide)) rfl 0 (by decide) 1 rfl wA_14 dX3_refer_1 ?_
  refine lv_iload_n hx hb dX3_refer_4 rfl (lv_at hl 1 rfl) ?_
  refine lv_aload_n hx hb dX3_refer_5 rfl (lv_at hl 2 rfl) ?_
  obtain ⟨h1, hf⟩ := ck_some hf
  obtain ⟨h2, hf⟩ := ck_some hf
  refine mw_aast hx hb hK hG hS (hG.fix (by decide)) rfl (okc_lt h1) (shP_c h1) (inb_in h2) dX3_refer_6 (fun H locs hG hS => ?_)
  obtain ⟨σ3, e4, hf⟩ := ld_some hf
  rw [← e4] at hG
  have h1 := okc_sr e4 h1
  clear e4
  refine lv_aload_n hx hb dX3_refer_7 rfl (lv_at hl 2 rfl) ?_
  refine lv_dup hx hb dX3_refer_8 rfl ?_
  refine mw_geti hx hb hts hown hK hG inlX0 rfl (okc_lt h1) (shP_c h1) 6 (by decide) rfl wA_169 dX3_refer_9 ?_
  refine lv_iconst (v := 1) hx hb dX3_refer_12 (by decide) ?_
  refine lv_iadd hx hb dX3_refer_13 ?_
  refine mw_puti hx hb hts hown hK hG hS inlX0 tyX0 tyX0_ok nmX0 rfl (okc_lt h1) (shP_c h1) 6 (by decide) rfl rfl rfl rfl wA_169 dX3_refer_14 (fun H locs hG hS => ?_)
  obtain ⟨σ5, e6, hf⟩ := ld_some hf
  rw [← e6] at hG
  have h1 := okc_si e6 h1
  clear e6
  exact mr_v hC hr hlocks hG hS hf (Nat.le_of_ble_eq_true rfl) (Nat.le_of_ble_eq_true rfl) dX3_refer_17
def fX3_fork_55 (bk21 : Int32 → Int32 → Int32 → pw_S → Option ((Int32 ⊕ String) × pw_S)) (x1 : Int32) (x2 : Int32) (x3 : Int32) (σ : pw_S) : Option ((Int32 ⊕ String) × pw_S) := bk21 x1 x2 (x3 + 1) σ
def fX3_fork_21_b (bk21 : Int32 → Int32 → Int32 → pw_S → Option ((Int32 ⊕ String) × pw_S)) (x1 : Int32) (x2 : Int32) (x3 : Int32) (σ : pw_S) : Option ((Int32 ⊕ String) × pw_S) := (if 16 ≤ x3 then some (.inl (x2), σ) else bnd (fX3_placeOf x1 x3 σ) (fun r5 σ6 => ck (inb (r5) (160)) (ld (gr σ6 1 (Int32.toNatClampNeg (r5))) (fun o9 => oc o9 (fX3_fork_55 bk21 x1 x2 x3 σ6) (fun q11 => bnd (fX3_placeOf x2 x3 σ6) (fun r13 σ14 => bnd (fX3_refer r13 q11 σ14) (fun r16 σ17 => fX3_fork_55 bk21 x1 x2 x3 σ17)))))))
def fX3_fork_21 : Nat → Int32 → Int32 → Int32 → pw_S → Option ((Int32 ⊕ String) × pw_S)
  | 0, _, _, _, _ => none
  | n + 1, x1, x2, x3, σ => fX3_fork_21_b (fX3_fork_21 n) x1 x2 x3 σ
def fX3_fork (a1 : Int32) (σ : pw_S) : Option ((Int32 ⊕ String) × pw_S) := bnx (fX3_requireProcess a1 σ) (fun r19 σ20 => bnx (fX3_requireLive a1 σ20) (fun r26 σ27 => bnx (fX3_requireRoomForProcess σ27) (fun r33 σ34 => bnd (fX3_createProcess σ34) (fun r40 σ41 => fX3_fork_21 1000 a1 r40 0 σ41))))
set_option maxHeartbeats 4000000 in
set_option maxRecDepth 100000 in
theorem kX3_fork (l : Launch) (D : va_G) (cA : Nat → ClassId) (A : Nat → Prop) (ad : Nat → Nat) (hlt : l.stackTraces = false) {σ σ' : pw_S} {r : (Int32 ⊕ String)} {a1 : Int32} (hf : fX3_fork a1 σ = some (r, σ')) : vx_Met l yX3_fork (wA yX3_fork cX3_fork 5 (some .int)) ({ frames := 7, cells := 3, slots := 18, locals := 103 }) (pw_Pc D cA shP 12 A ad σ [.ref (ad 0), .int (a1)]) (px_Qi D cA shP 12 A ad r σ') (px_X D cA shP 12 A ad r σ') 3 18 A := by
  refine mw_enterX (own := RX3) (by decide) rfl (Nat.le_of_ble_eq_true rfl) ?_
  intro p e s m args below meth c ls hC hr hlocks hout hK hA hX hG hS hl
  obtain ⟨hx, hb, hml, hown, hts⟩ := id hC
  have K21 : ∀ (n21 : Nat) (x1 : Int32) (x2 : Int32) (x3 : Int32) (σ : pw_S), fX3_fork_21 n21 x1 x2 x3 σ = some (r, σ') → mw_K p l e ({ frames := 7, cells := 3, slots := 18, locals := 103 }) s m args below meth c (vx_MQ below (px_Qi D cA shP 12 A ad r σ') (px_X D cA shP 12 A ad r σ') args s 3 18 A) A D cA shP 12 ad 5 21 3 18 [(0, .ref (ad 0)), (1, .int (x1)), (2, .int (x2)), (3, .int (x3))] [] σ := by
    intro n21
    induction n21 with
    | zero => intro x1 x2 x3 σ hf; cases hf
    | succ n21 ih21 =>
      have K55 : ∀ (x1 : Int32) (x2 : Int32) (x3 : Int32) (σ : pw_S), fX3_fork_55 (fX3_fork_21 n21) x1 x2 x3 σ = some (r, σ') → mw_K p l e ({ frames := 7, cells := 3, slots := 18, locals := 103 }) s m args below meth c (vx_MQ below (px_Qi D cA shP 12 A ad r σ') (px_X D cA shP 12 A ad r σ') args s 3 18 A) A D cA shP 12 ad 5 55 3 18 [(0, .ref (ad 0)), (1, .int (x1)), (2, .int (x2)), (3, .int (x3))] [] σ := by
        intro x1 x2 x3 σ hf H locs ls hG hS hl
        unfold fX3_fork_55 at hf
        refine lv_iinc (v := x3 + 1) (lv' := [(3, .int (x3 + 1)), (0, .ref (ad 0)), (1, .int (x1)), (2, .int (x2))]) hx hb dX3_fork_55 hl (k := 3) rfl rfl (by decide) rfl (fun ls hl => ?_)
        refine lv_goto (tgt := 21) hx hb dX3_fork_58 (by decide) ?_
        exact ih21 _ _ _ _ hf _ _ _ hG hS (lv_sub hl [1, 2, 3, 0] rfl)
      intro x1 x2 x3 σ hf H locs ls hG hS hl
      have hf : fX3_fork_21_b (fX3_fork_21 n21) x1 x2 x3 σ = some (r, σ') := hf
      unfold fX3_fork_21_b at hf
      refine lv_iload_n hx hb dX3_fork_21 rfl (lv_at hl 3 rfl) ?_
      refine lv_bipush (v := 16) hx hb dX3_fork_22 (by decide) ?_
      refine lv_icmp_ge (tgt := 61) hx hb dX3_fork_24 (by decide) (fun c4 => ?_) (fun c4 => ?_)
      · have hf := it_pos c4 hf
        refine lv_iload_n hx hb dX3_fork_61 rfl (lv_at hl 2 rfl) ?_
        exact mrx_i hC hr hlocks hG hS hf (Nat.le_of_ble_eq_true rfl) (Nat.le_of_ble_eq_true rfl) dX3_fork_62
      · have hf := it_neg c4 hf
        refine lv_aload_n hx hb dX3_fork_27 rfl (lv_at hl 0 rfl) ?_
        refine mw_getl hx hb hts hown hK hG inlX3 rfl (hG.fix (by decide)) rfl 0 (by decide) 1 rfl wA_14 dX3_fork_28 ?_
        refine lv_iload_n hx hb dX3_fork_31 rfl (lv_at hl 1 rfl) ?_
        refine lv_iload_n hx hb dX3_fork_32 rfl (lv_at hl 3 rfl) ?_
        obtain ⟨r5, σ6, hc7, hf⟩ := bnd_some hf
        refine mc_i (mc_S (As := [.int (x1), .int (x3)]) hC hK hA hX hG hS (kX3_placeOf l D cA A ad hc7) ykX3_placeOf wA_162 wA_163 ⟨rfl, rfl, Nat.le_of_ble_eq_true rfl, Nat.le_of_ble_eq_true rfl⟩ rfl hl.1 rfl (Nat.le_of_ble_eq_true rfl) dX3_fork_33 ⟨Nat.le_of_ble_eq_true rfl, Nat.le_of_ble_eq_true rfl⟩) hS (fun H locs hG hS => ?_)
        obtain ⟨h8, hf⟩ := ck_some hf
        obtain ⟨o9, e10, hf⟩ := ld_some hf
        refine mw_aald hx hb hK hG (hG.fix (by decide)) rfl (inb_in h8) dX3_fork_36 ?_
        rw [← e10]
        clear e10
        refine mq_astore (lv' := [(4, va_rf (Option.map ad o9)), (0, .ref (ad 0)), (1, .int (x1)), (2, .int (x2)), (3, .int (x3))]) hx hb dX3_fork_37 hl (by decide) rfl (fun ls hl => ?_)
        refine mq_aload hx hb dX3_fork_39 (lv_at hl 0 rfl) ?_
        refine mq_ifnull (tgt := 55) hx hb dX3_fork_41 (by decide) (fun c12 => ?_) (fun q11 c12 => ?_)
        · subst c12
          have hl : lv_has ls 5 [(4, .null), (0, .ref (ad 0)), (1, .int (x1)), (2, .int (x2)), (3, .int (x3))] := hl
          have hf := oc_none hf
          exact K55 _ _ _ _ hf _ _ _ hG hS (lv_sub hl [1, 2, 3, 4] rfl)
        · subst c12
          have hl : lv_has ls 5 [(4, .ref (ad q11)), (0, .ref (ad 0)), (1, .int (x1)), (2, .int (x2)), (3, .int (x3))] := hl
          have hf := oc_some hf
          refine lv_aload_n hx hb dX3_fork_44 rfl (lv_at hl 1 rfl) ?_
          refine lv_iload_n hx hb dX3_fork_45 rfl (lv_at hl 3 rfl) ?_
          refine lv_iload_n hx hb dX3_fork_46 rfl (lv_at hl 4 rfl) ?_
          obtain ⟨r13, σ14, hc15, hf⟩ := bnd_some hf
          refine mc_i (mc_S (As := [.int (x2), .int (x3)]) hC hK hA hX hG hS (kX3_placeOf l D cA A ad hc15) ykX3_placeOf wA_162 wA_163 ⟨rfl, rfl, Nat.le_of_ble_eq_true rfl, Nat.le_of_ble_eq_true rfl⟩ rfl hl.1 rfl (Nat.le_of_ble_eq_true rfl) dX3_fork_47 ⟨Nat.le_of_ble_eq_true rfl, Nat.le_of_ble_eq_true rfl⟩) hS (fun H locs hG hS => ?_)
          refine lv_aload hx hb dX3_fork_50 (lv_at hl 0 rfl) ?_
          obtain ⟨r16, σ17, hc18, hf⟩ := bnd_some hf
          refine mc_v (mc_V (As := [.int (r13), .ref (ad q11)]) hC hK hA hX hG hS (kX3_refer l D cA A ad hc18) ykX3_refer wA_165 wA_166 wA_167 (hG.fix (by decide)) rfl rfl ⟨rfl, rfl, Nat.le_of_ble_eq_true rfl, Nat.le_of_ble_eq_true rfl⟩ rfl hl.1 rfl (Nat.le_of_ble_eq_true rfl) dX3_fork_52 ⟨Nat.le_of_ble_eq_true rfl, Nat.le_of_ble_eq_true rfl⟩) hS (fun H locs hG hS => ?_)
          exact K55 _ _ _ _ hf _ _ _ hG hS (lv_sub hl [1, 2, 3, 4] rfl)
  have hl : lv_has ls 5 [(0, .ref (ad 0)), (1, .int (a1))] := hl
  unfold fX3_fork at hf
  refine lv_aload_n hx hb dX3_fork_0 rfl (lv_at hl 0 rfl) ?_
  refine lv_iload_n hx hb dX3_fork_1 rfl (lv_at hl 1 rfl) ?_
  obtain ⟨z22, σ20, hc21, hi23, hx24⟩ := bnx_some hf
  refine mx_v (mx_V (As := [.int (a1)]) hC hK hA hX hG hS (kX3_requireProcess l D cA A ad hlt hc21) ykX3_requireProcess wA_150 wA_151 wA_152 (hG.fix (by decide)) rfl rfl ⟨rfl, rfl, Nat.le_of_ble_eq_true rfl, Nat.le_of_ble_eq_true rfl⟩ rfl hl.1 rfl (Nat.le_of_ble_eq_true rfl) dX3_fork_2 ⟨Nat.le_of_ble_eq_true rfl, Nat.le_of_ble_eq_true rfl⟩) hS hout hlocks (bnx_x hx24) (Nat.le_of_ble_eq_true rfl) (Nat.le_of_ble_eq_true rfl) (fun r19 he25 H locs hG hS => ?_)
  have hf := hi23 r19 he25
  clear hi23 hx24
  refine lv_aload_n hx hb dX3_fork_5 rfl (lv_at hl 0 rfl) ?_
  refine lv_iload_n hx hb dX3_fork_6 rfl (lv_at hl 1 rfl) ?_
  obtain ⟨z29, σ27, hc28, hi30, hx31⟩ := bnx_some hf
  refine mx_v (mx_V (As := [.int (a1)]) hC hK hA hX hG hS (kX3_requireLive l D cA A ad hlt hc28) ykX3_requireLive wA_156 wA_157 wA_158 (hG.fix (by decide)) rfl rfl ⟨rfl, rfl, Nat.le_of_ble_eq_true rfl, Nat.le_of_ble_eq_true rfl⟩ rfl hl.1 rfl (Nat.le_of_ble_eq_true rfl) dX3_fork_7 ⟨Nat.le_of_ble_eq_true rfl, Nat.le_of_ble_eq_true rfl⟩) hS hout hlocks (bnx_x hx31) (Nat.le_of_ble_eq_true rfl) (Nat.le_of_ble_eq_true rfl) (fun r26 he32 H locs hG hS => ?_)
  have hf := hi30 r26 he32
  clear hi30 hx31
  refine lv_aload_n hx hb dX3_fork_10 rfl (lv_at hl 0 rfl) ?_
  obtain ⟨z36, σ34, hc35, hi37, hx38⟩ := bnx_some hf
  refine mx_v (mx_V (As := []) hC hK hA hX hG hS (kX3_requireRoomForProcess l D cA A ad hlt hc35) ykX3_requireRoomForProcess wA_125 wA_126 wA_127 (hG.fix (by decide)) rfl rfl ⟨rfl, rfl, Nat.le_of_ble_eq_true rfl, Nat.le_of_ble_eq_true rfl⟩ rfl hl.1 rfl (Nat.le_of_ble_eq_true rfl) dX3_fork_11 ⟨Nat.le_of_ble_eq_true rfl, Nat.le_of_ble_eq_true rfl⟩) hS hout hlocks (bnx_x hx38) (Nat.le_of_ble_eq_true rfl) (Nat.le_of_ble_eq_true rfl) (fun r33 he39 H locs hG hS => ?_)
  have hf := hi37 r33 he39
  clear hi37 hx38
  refine lv_aload_n hx hb dX3_fork_14 rfl (lv_at hl 0 rfl) ?_
  obtain ⟨r40, σ41, hc42, hf⟩ := bnd_some hf
  refine mc_i (mc_V (As := []) hC hK hA hX hG hS (kX3_createProcess l D cA A ad hc42) ykX3_createProcess wA_129 wA_130 wA_131 (hG.fix (by decide)) rfl rfl ⟨rfl, rfl, Nat.le_of_ble_eq_true rfl, Nat.le_of_ble_eq_true rfl⟩ rfl hl.1 rfl (Nat.le_of_ble_eq_true rfl) dX3_fork_15 ⟨Nat.le_of_ble_eq_true rfl, Nat.le_of_ble_eq_true rfl⟩) hS (fun H locs hG hS => ?_)
  refine lv_istore_n (lv' := [(2, .int (r40)), (0, .ref (ad 0)), (1, .int (a1))]) hx hb dX3_fork_18 rfl hl (by decide) rfl (fun ls hl => ?_)
  refine lv_iconst (v := 0) hx hb dX3_fork_19 (by decide) ?_
  refine lv_istore_n (lv' := [(3, .int (0)), (2, .int (r40)), (0, .ref (ad 0)), (1, .int (a1))]) hx hb dX3_fork_20 rfl hl (by decide) rfl (fun ls hl => ?_)
  exact K21 1000 _ _ _ _ hf _ _ _ hG hS (lv_sub hl [2, 3, 1, 0] rfl)
def fX3_dropReference_65 (x2 : Nat) (σ : pw_S) : Option (Int32 × pw_S) := bnd (fX2_vacateSlotOf x2 σ) (fun r6 σ7 => some (1, σ7))
def fX3_dropReference_44 (σ : pw_S) : Option (Int32 × pw_S) := some (0, σ)
def fX3_dropReference (a1 : Int32) (σ : pw_S) : Option (Int32 × pw_S) := ck (inb (a1) (160)) (ld (gr σ 1 (Int32.toNatClampNeg (a1))) (fun o10 => oc o10 (some (0, σ)) (fun q12 => ck (inb (a1) (160)) (ld (sr σ 1 (Int32.toNatClampNeg (a1)) none) (fun σ15 => ck (okc σ15 q12) (ld (si σ15 q12 6 (((gi σ15 q12 6) - 1))) (fun σ18 => (if (gi σ18 q12 1) = 0 then (if (gi σ18 q12 6) ≤ 0 then (if (gi σ18 q12 3) = (-1) then fX3_dropReference_65 q12 σ18 else bnd (fX1_vacate ((gi σ18 q12 3)) σ18) (fun r23 σ24 => fX3_dropReference_65 q12 σ24)) else fX3_dropReference_44 σ18) else fX3_dropReference_44 σ18))))))))
set_option maxHeartbeats 4000000 in
set_option maxRecDepth 100000 in
theorem kX3_dropReference (l : Launch) (D : va_G) (cA : Nat → ClassId) (A : Nat → Prop) (ad : Nat → Nat) {σ σ' : pw_S} {r : Int32} {a1 : Int32} (hf : fX3_dropReference a1 σ = some (r, σ')) : Met l yX3_dropReference (wA yX3_dropReference cX3_dropReference 3 (some .boolean)) ({ frames := 1, cells := 0, slots := 0, locals := 22 }) (pw_Pc D cA shP 12 A ad σ [.ref (ad 0), .int (a1)]) (pw_Qi D cA shP 12 A ad r σ') 0 0 A := by
  refine mw_enter (own := RX3) (by decide) rfl (Nat.le_of_ble_eq_true rfl) ?_
  intro p e s m args below meth c ls hC hr hlocks hK hA hX hG hS hl
  obtain ⟨hx, hb, hml, hown, hts⟩ := id hC
  have K65 : ∀ (x2 : Nat) (σ : pw_S), fX3_dropReference_65 x2 σ = some (r, σ') → mw_K p l e ({ frames := 1, cells := 0, slots := 0, locals := 22 }) s m args below meth c (MQ below (pw_Qi D cA shP 12 A ad r σ') args s 0 0 A) A D cA shP 12 ad 3 65 0 0 [(0, .ref (ad 0)), (2, .ref (ad x2))] [] σ := by
    intro x2 σ hf H locs ls hG hS hl
    unfold fX3_dropReference_65 at hf
    refine lv_aload_n hx hb dX3_dropReference_65 rfl (lv_at hl 0 rfl) ?_
    refine mw_getl hx hb hts hown hK hG inlX3 rfl (hG.fix (by decide)) rfl 4 (by decide) 8 rfl wA_25 dX3_dropReference_66 ?_
    refine lv_aload_n hx hb dX3_dropReference_69 rfl (lv_at hl 1 rfl) ?_
    obtain ⟨r6, σ7, hc8, hf⟩ := bnd_some hf
    refine mc_v (mc_V (As := [.ref (ad x2)]) hC hK hA hX hG hS (kX2_vacateSlotOf l D cA A ad hc8) ykX2_vacateSlotOf wA_197 wA_198 wA_199 (hG.fix (by decide)) rfl rfl ⟨rfl, rfl, Nat.le_of_ble_eq_true rfl, Nat.le_of_ble_eq_true rfl⟩ rfl hl.1 rfl (Nat.le_of_ble_eq_true rfl) dX3_dropReference_70 ⟨Nat.le_of_ble_eq_true rfl, Nat.le_of_ble_eq_true rfl⟩) hS (fun H locs hG hS => ?_)
    refine lv_iconst (v := 1) hx hb dX3_dropReference_73 (by decide) ?_
    exact mr_z hC hr hlocks hG hS (by decide) hf (Nat.le_of_ble_eq_true rfl) (Nat.le_of_ble_eq_true rfl) dX3_dropReference_74
  have K44 : ∀ (σ : pw_S), fX3_dropReference_44  σ = some (r, σ') → mw_K p l e ({ frames := 1, cells := 0, slots := 0, locals := 22 }) s m args below meth c (MQ below (pw_Qi D cA shP 12 A ad r σ') args s 0 0 A) A D cA shP 12 ad 3 44 0 0 [] [] σ := by
    intro  σ hf H locs ls hG hS hl
    unfold fX3_dropReference_44 at hf
    refine lv_iconst (v := 0) hx hb dX3_dropReference_44 (by decide) ?_
    exact mr_z hC hr hlocks hG hS (by decide) hf (Nat.le_of_ble_eq_true rfl) (Nat.le_of_ble_eq_true rfl) dX3_dropReference_45
  have hl : lv_has ls 3 [(0, .ref (ad 0)), (1, .int (a1))] := hl
  unfold fX3_dropReference at hf
  refine lv_aload_n hx hb dX3_dropReference_0 rfl (lv_at hl 0 rfl) ?_
  refine mw_getl hx hb hts hown hK hG inlX3 rfl (hG.fix (by decide)) rfl 0 (by decide) 1 rfl wA_14 dX3_dropReference_1 ?_
  refine lv_iload_n hx hb dX3_dropReference_4 rfl (lv_at hl 1 rfl) ?_
  obtain ⟨h9, hf⟩ := ck_some hf
  obtain ⟨o10, e11, hf⟩ := ld_some hf
  refine mw_aald hx hb hK hG (hG.fix (by decide)) rfl (inb_in h9) dX3_dropReference_5 ?_
  rw [← e11]
  clear e11
  refine mq_astore_n (lv' := [(2, va_rf (Option.map ad o10)), (0, .ref (ad 0)), (1, .int (a1))]) hx hb dX3_dropReference_6 rfl hl (by decide) rfl (fun ls hl => ?_)
  refine mq_aload_n hx hb dX3_dropReference_7 rfl (lv_at hl 0 rfl) ?_
  refine mq_ifnonnull (tgt := 13) hx hb dX3_dropReference_8 (by decide) (fun q12 c13 => ?_) (fun c13 => ?_)
  · subst c13
    have hl : lv_has ls 3 [(2, .ref (ad q12)), (0, .ref (ad 0)), (1, .int (a1))] := hl
    have hf := oc_some hf
    refine lv_aload_n hx hb dX3_dropReference_13 rfl (lv_at hl 1 rfl) ?_
    refine mw_getl hx hb hts hown hK hG inlX3 rfl (hG.fix (by decide)) rfl 0 (by decide) 1 rfl wA_14 dX3_dropReference_14 ?_
    refine lv_iload_n hx hb dX3_dropReference_17 rfl (lv_at hl 2 rfl) ?_
    refine lv_null hx hb dX3_dropReference_18 ?_
    obtain ⟨h14, hf⟩ := ck_some hf
    refine mw_aastN hx hb hK hG hS (hG.fix (by decide)) rfl (inb_in h14) dX3_dropReference_19 (fun H locs hG hS => ?_)
    obtain ⟨σ15, e16, hf⟩ := ld_some hf
    rw [← e16] at hG
    clear e16
    refine lv_aload_n hx hb dX3_dropReference_20 rfl (lv_at hl 0 rfl) ?_
    refine lv_dup hx hb dX3_dropReference_21 rfl ?_
    obtain ⟨h17, hf⟩ := ck_some hf
    refine mw_geti hx hb hts hown hK hG inlX0 rfl (okc_lt h17) (shP_c h17) 6 (by decide) rfl wA_169 dX3_dropReference_22 ?_
    refine lv_iconst (v := 1) hx hb dX3_dropReference_25 (by decide) ?_
    refine lv_isub hx hb dX3_dropReference_26 ?_
    refine mw_puti hx hb hts hown hK hG hS inlX0 tyX0 tyX0_ok nmX0 rfl (okc_lt h17) (shP_c h17) 6 (by decide) rfl rfl rfl rfl wA_169 dX3_dropReference_27 (fun H locs hG hS => ?_)
    obtain ⟨σ18, e19, hf⟩ := ld_some hf
    rw [← e19] at hG
    have h17 := okc_si e19 h17
    clear e19
    refine lv_aload_n hx hb dX3_dropReference_30 rfl (lv_at hl 0 rfl) ?_
    refine mw_geti hx hb hts hown hK hG inlX0 rfl (okc_lt h17) (shP_c h17) 1 (by decide) rfl wA_190 dX3_dropReference_31 ?_
    refine lv_if_ne (tgt := 44) hx hb dX3_dropReference_34 (by decide) (fun c20 => ?_) (fun c20 => ?_)
    · have hf := it_neg c20 hf
      exact K44 _ hf _ _ _ hG hS (lv_sub hl [] rfl)
    · have hf := it_pos c20 hf
      refine lv_aload_n hx hb dX3_dropReference_37 rfl (lv_at hl 0 rfl) ?_
      refine mw_geti hx hb hts hown hK hG inlX0 rfl (okc_lt h17) (shP_c h17) 6 (by decide) rfl wA_169 dX3_dropReference_38 ?_
      refine lv_if_le (tgt := 46) hx hb dX3_dropReference_41 (by decide) (fun c21 => ?_) (fun c21 => ?_)
      · have hf := it_pos c21 hf
        refine lv_aload_n hx hb dX3_dropReference_46 rfl (lv_at hl 0 rfl) ?_
        refine mw_geti hx hb hts hown hK hG inlX0 rfl (okc_lt h17) (shP_c h17) 3 (by decide) rfl wA_191 dX3_dropReference_47 ?_
        refine lv_iconst (v := (-1)) hx hb dX3_dropReference_50 (by decide) ?_
        refine lv_icmp_eq (tgt := 65) hx hb dX3_dropReference_51 (by decide) (fun c22 => ?_) (fun c22 => ?_)
        · have hf := it_pos c22 hf
          exact K65 _ _ hf _ _ _ hG hS (lv_sub hl [1, 0] rfl)
        · have hf := it_neg c22 hf
          refine lv_aload_n hx hb dX3_dropReference_54 rfl (lv_at hl 1 rfl) ?_
          refine mw_getl hx hb hts hown hK hG inlX3 rfl (hG.fix (by decide)) rfl 3 (by decide) 4 rfl wA_21 dX3_dropReference_55 ?_
          refine lv_aload_n hx hb dX3_dropReference_58 rfl (lv_at hl 0 rfl) ?_
          refine mw_geti hx hb hts hown hK hG inlX0 rfl (okc_lt h17) (shP_c h17) 3 (by decide) rfl wA_191 dX3_dropReference_59 ?_
          obtain ⟨r23, σ24, hc25, hf⟩ := bnd_some hf
          refine mc_v (mc_V (As := [.int ((gi σ18 q12 3))]) hC hK hA hX hG hS (kX1_vacate l D cA A ad hc25) ykX1_vacate wA_192 wA_193 wA_194 (hG.fix (by decide)) rfl rfl ⟨rfl, rfl, Nat.le_of_ble_eq_true rfl, Nat.le_of_ble_eq_true rfl⟩ rfl hl.1 rfl (Nat.le_of_ble_eq_true rfl) dX3_dropReference_62 ⟨Nat.le_of_ble_eq_true rfl, Nat.le_of_ble_eq_true rfl⟩) hS (fun H locs hG hS => ?_)
          exact K65 _ _ hf _ _ _ hG hS (lv_sub hl [1, 0] rfl)
      · have hf := it_neg c21 hf
        exact K44 _ hf _ _ _ hG hS (lv_sub hl [] rfl)
  · subst c13
    have hl : lv_has ls 3 [(2, .null), (0, .ref (ad 0)), (1, .int (a1))] := hl
    have hf := oc_none hf
    refine lv_iconst (v := 0) hx hb dX3_dropReference_11 (by decide) ?_
    exact mr_z hC hr hlocks hG hS (by decide) hf (Nat.le_of_ble_eq_true rfl) (Nat.le_of_ble_eq_true rfl) dX3_dropReference_12
def fX3_exit_35 (bk14 : Int32 → Int32 → Int32 → pw_S → Option ((Int32 ⊕ String) × pw_S)) (x1 : Int32) (x2 : Int32) (x3 : Int32) (σ : pw_S) : Option ((Int32 ⊕ String) × pw_S) := bk14 x1 x2 (x3 + 1) σ
def fX3_exit_14_b (bk14 : Int32 → Int32 → Int32 → pw_S → Option ((Int32 ⊕ String) × pw_S)) (x1 : Int32) (x2 : Int32) (x3 : Int32) (σ : pw_S) : Option ((Int32 ⊕ String) × pw_S) := (if 16 ≤ x3 then ck (inb (x1) (10)) (ld (si σ 2 (Int32.toNatClampNeg (x1)) (0)) (fun σ5 => some (.inl (x2), σ5))) else bnd (fX3_placeOf x1 x3 σ) (fun r7 σ8 => bnd (fX3_dropReference r7 σ8) (fun r10 σ11 => (if r10 = 0 then fX3_exit_35 bk14 x1 x2 x3 σ11 else fX3_exit_35 bk14 x1 (x2 + 1) x3 σ11))))
def fX3_exit_14 : Nat → Int32 → Int32 → Int32 → pw_S → Option ((Int32 ⊕ String) × pw_S)
  | 0, _, _, _, _ => none
  | n + 1, x1, x2, x3, σ => fX3_exit_14_b (fX3_exit_14 n) x1 x2 x3 σ
def fX3_exit (a1 : Int32) (σ : pw_S) : Option ((Int32 ⊕ String) × pw_S) := bnx (fX3_requireProcess a1 σ) (fun r14 σ15 => bnx (fX3_requireLive a1 σ15) (fun r21 σ22 => fX3_exit_14 1000 a1 0 0 σ22))
set_option maxHeartbeats 4000000 in
set_option maxRecDepth 100000 in
theorem kX3_exit (l : Launch) (D : va_G) (cA : Nat → ClassId) (A : Nat → Prop) (ad : Nat → Nat) (hlt : l.stackTraces = false) {σ σ' : pw_S} {r : (Int32 ⊕ String)} {a1 : Int32} (hf : fX3_exit a1 σ = some (r, σ')) : vx_Met l yX3_exit (wA yX3_exit cX3_exit 4 (some .int)) ({ frames := 7, cells := 2, slots := 12, locals := 103 }) (pw_Pc D cA shP 12 A ad σ [.ref (ad 0), .int (a1)]) (px_Qi D cA shP 12 A ad r σ') (px_X D cA shP 12 A ad r σ') 2 12 A := by
  refine mw_enterX (own := RX3) (by decide) rfl (Nat.le_of_ble_eq_true rfl) ?_
  intro p e s m args below meth c ls hC hr hlocks hout hK hA hX hG hS hl
  obtain ⟨hx, hb, hml, hown, hts⟩ := id hC
  have K14 : ∀ (n14 : Nat) (x1 : Int32) (x2 : Int32) (x3 : Int32) (σ : pw_S), fX3_exit_14 n14 x1 x2 x3 σ = some (r, σ') → mw_K p l e ({ frames := 7, cells := 2, slots := 12, locals := 103 }) s m args below meth c (vx_MQ below (px_Qi D cA shP 12 A ad r σ') (px_X D cA shP 12 A ad r σ') args s 2 12 A) A D cA shP 12 ad 4 14 2 12 [(0, .ref (ad 0)), (1, .int (x1)), (2, .int (x2)), (3, .int (x3))] [] σ := by
    intro n14
    induction n14 with
    | zero => intro x1 x2 x3 σ hf; cases hf
    | succ n14 ih14 =>
      have K35 : ∀ (x1 : Int32) (x2 : Int32) (x3 : Int32) (σ : pw_S), fX3_exit_35 (fX3_exit_14 n14) x1 x2 x3 σ = some (r, σ') → mw_K p l e ({ frames := 7, cells := 2, slots := 12, locals := 103 }) s m args below meth c (vx_MQ below (px_Qi D cA shP 12 A ad r σ') (px_X D cA shP 12 A ad r σ') args s 2 12 A) A D cA shP 12 ad 4 35 2 12 [(0, .ref (ad 0)), (1, .int (x1)), (2, .int (x2)), (3, .int (x3))] [] σ := by
        intro x1 x2 x3 σ hf H locs ls hG hS hl
        unfold fX3_exit_35 at hf
        refine lv_iinc (v := x3 + 1) (lv' := [(3, .int (x3 + 1)), (0, .ref (ad 0)), (1, .int (x1)), (2, .int (x2))]) hx hb dX3_exit_35 hl (k := 3) rfl rfl (by decide) rfl (fun ls hl => ?_)
        refine lv_goto (tgt := 14) hx hb dX3_exit_38 (by decide) ?_
        exact ih14 _ _ _ _ hf _ _ _ hG hS (lv_sub hl [1, 2, 3, 0] rfl)
      intro x1 x2 x3 σ hf H locs ls hG hS hl
      have hf : fX3_exit_14_b (fX3_exit_14 n14) x1 x2 x3 σ = some (r, σ') := hf
      unfold fX3_exit_14_b at hf
      refine lv_iload_n hx hb dX3_exit_14 rfl (lv_at hl 3 rfl) ?_
      refine lv_bipush (v := 16) hx hb dX3_exit_15 (by decide) ?_
      refine lv_icmp_ge (tgt := 41) hx hb dX3_exit_17 (by decide) (fun c3 => ?_) (fun c3 => ?_)
      · have hf := it_pos c3 hf
        refine lv_aload_n hx hb dX3_exit_41 rfl (lv_at hl 0 rfl) ?_
        refine mw_getl hx hb hts hown hK hG inlX3 rfl (hG.fix (by decide)) rfl 1 (by decide) 2 rfl wA_16 dX3_exit_42 ?_
        refine lv_iload_n hx hb dX3_exit_45 rfl (lv_at hl 1 rfl) ?_
        refine lv_iconst (v := 0) hx hb dX3_exit_46 (by decide) ?_
        obtain ⟨h4, hf⟩ := ck_some hf
        refine mw_zast hx hb hK hG hS (hG.fix (by decide)) rfl rfl (inb_in h4) dX3_exit_47 (fun H locs hG hS => ?_)
        obtain ⟨σ5, e6, hf⟩ := ld_some hf
        rw [← e6] at hG
        clear e6
        refine lv_iload_n hx hb dX3_exit_48 rfl (lv_at hl 2 rfl) ?_
        exact mrx_i hC hr hlocks hG hS hf (Nat.le_of_ble_eq_true rfl) (Nat.le_of_ble_eq_true rfl) dX3_exit_49
      · have hf := it_neg c3 hf
        refine lv_aload_n hx hb dX3_exit_20 rfl (lv_at hl 0 rfl) ?_
        refine lv_iload_n hx hb dX3_exit_21 rfl (lv_at hl 1 rfl) ?_
        refine lv_iload_n hx hb dX3_exit_22 rfl (lv_at hl 3 rfl) ?_
        obtain ⟨r7, σ8, hc9, hf⟩ := bnd_some hf
        refine mc_i (mc_S (As := [.int (x1), .int (x3)]) hC hK hA hX hG hS (kX3_placeOf l D cA A ad hc9) ykX3_placeOf wA_162 wA_163 ⟨rfl, rfl, Nat.le_of_ble_eq_true rfl, Nat.le_of_ble_eq_true rfl⟩ rfl hl.1 rfl (Nat.le_of_ble_eq_true rfl) dX3_exit_23 ⟨Nat.le_of_ble_eq_true rfl, Nat.le_of_ble_eq_true rfl⟩) hS (fun H locs hG hS => ?_)
        obtain ⟨r10, σ11, hc12, hf⟩ := bnd_some hf
        refine mc_i (mc_V (As := [.int (r7)]) hC hK hA hX hG hS (kX3_dropReference l D cA A ad hc12) ykX3_dropReference wA_186 wA_187 wA_188 (hG.fix (by decide)) rfl rfl ⟨rfl, rfl, Nat.le_of_ble_eq_true rfl, Nat.le_of_ble_eq_true rfl⟩ rfl hl.1 rfl (Nat.le_of_ble_eq_true rfl) dX3_exit_26 ⟨Nat.le_of_ble_eq_true rfl, Nat.le_of_ble_eq_true rfl⟩) hS (fun H locs hG hS => ?_)
        refine lv_if_eq (tgt := 35) hx hb dX3_exit_29 (by decide) (fun c13 => ?_) (fun c13 => ?_)
        · have hf := it_pos c13 hf
          exact K35 _ _ _ _ hf _ _ _ hG hS (lv_sub hl [0, 1, 2, 3] rfl)
        · have hf := it_neg c13 hf
          refine lv_iinc (v := x2 + 1) (lv' := [(2, .int (x2 + 1)), (0, .ref (ad 0)), (1, .int (x1)), (3, .int (x3))]) hx hb dX3_exit_32 hl (k := 2) rfl rfl (by decide) rfl (fun ls hl => ?_)
          exact K35 _ _ _ _ hf _ _ _ hG hS (lv_sub hl [1, 2, 0, 3] rfl)
  have hl : lv_has ls 4 [(0, .ref (ad 0)), (1, .int (a1))] := hl
  unfold fX3_exit at hf
  refine lv_aload_n hx hb dX3_exit_0 rfl (lv_at hl 0 rfl) ?_
  refine lv_iload_n hx hb dX3_exit_1 rfl (lv_at hl 1 rfl) ?_
  obtain ⟨z17, σ15, hc16, hi18, hx19⟩ := bnx_some hf
  refine mx_v (mx_V (As := [.int (a1)]) hC hK hA hX hG hS (kX3_requireProcess l D cA A ad hlt hc16) ykX3_requireProcess wA_150 wA_151 wA_152 (hG.fix (by decide)) rfl rfl ⟨rfl, rfl, Nat.le_of_ble_eq_true rfl, Nat.le_of_ble_eq_true rfl⟩ rfl hl.1 rfl (Nat.le_of_ble_eq_true rfl) dX3_exit_2 ⟨Nat.le_of_ble_eq_true rfl, Nat.le_of_ble_eq_true rfl⟩) hS hout hlocks (bnx_x hx19) (Nat.le_of_ble_eq_true rfl) (Nat.le_of_ble_eq_true rfl) (fun r14 he20 H locs hG hS => ?_)
  have hf := hi18 r14 he20
  clear hi18 hx19
  refine lv_aload_n hx hb dX3_exit_5 rfl (lv_at hl 0 rfl) ?_
  refine lv_iload_n hx hb dX3_exit_6 rfl (lv_at hl 1 rfl) ?_
  obtain ⟨z24, σ22, hc23, hi25, hx26⟩ := bnx_some hf
  refine mx_v (mx_V (As := [.int (a1)]) hC hK hA hX hG hS (kX3_requireLive l D cA A ad hlt hc23) ykX3_requireLive wA_156 wA_157 wA_158 (hG.fix (by decide)) rfl rfl ⟨rfl, rfl, Nat.le_of_ble_eq_true rfl, Nat.le_of_ble_eq_true rfl⟩ rfl hl.1 rfl (Nat.le_of_ble_eq_true rfl) dX3_exit_7 ⟨Nat.le_of_ble_eq_true rfl, Nat.le_of_ble_eq_true rfl⟩) hS hout hlocks (bnx_x hx26) (Nat.le_of_ble_eq_true rfl) (Nat.le_of_ble_eq_true rfl) (fun r21 he27 H locs hG hS => ?_)
  have hf := hi25 r21 he27
  clear hi25 hx26
  refine lv_iconst (v := 0) hx hb dX3_exit_10 (by decide) ?_
  refine lv_istore_n (lv' := [(2, .int (0)), (0, .ref (ad 0)), (1, .int (a1))]) hx hb dX3_exit_11 rfl hl (by decide) rfl (fun ls hl => ?_)
  refine lv_iconst (v := 0) hx hb dX3_exit_12 (by decide) ?_
  refine lv_istore_n (lv' := [(3, .int (0)), (2, .int (0)), (0, .ref (ad 0)), (1, .int (a1))]) hx hb dX3_exit_13 rfl hl (by decide) rfl (fun ls hl => ?_)
  exact K14 1000 _ _ _ _ hf _ _ _ hG hS (lv_sub hl [2, 3, 1, 0] rfl)
def fX3_requirePage_15 (σ : pw_S) : Option ((Unit ⊕ String) × pw_S) := some (.inr pw_ioX, σ)
def fX3_requirePage (a1 : Int32) (a2 : Int32) (σ : pw_S) : Option ((Unit ⊕ String) × pw_S) := bnx (fX3_requireProcess a1 σ) (fun r3 σ4 => (if a2 < 0 then fX3_requirePage_15 σ4 else (if a2 < 16 then some (.inl (()), σ4) else fX3_requirePage_15 σ4)))
set_option maxHeartbeats 4000000 in
set_option maxRecDepth 100000 in
theorem kX3_requirePage (l : Launch) (D : va_G) (cA : Nat → ClassId) (A : Nat → Prop) (ad : Nat → Nat) (hlt : l.stackTraces = false) {σ σ' : pw_S} {r : (Unit ⊕ String)} {a1 : Int32} {a2 : Int32} (hf : fX3_requirePage a1 a2 σ = some (r, σ')) : vx_Met l yX3_requirePage (wA yX3_requirePage cX3_requirePage 3 none) ({ frames := 7, cells := 2, slots := 12, locals := 103 }) (pw_Pc D cA shP 12 A ad σ [.ref (ad 0), .int (a1), .int (a2)]) (px_Qv D cA shP 12 A ad r σ') (px_X D cA shP 12 A ad r σ') 2 12 A := by
  refine mw_enterX (own := RX3) (by decide) rfl (Nat.le_of_ble_eq_true rfl) ?_
  intro p e s m args below meth c ls hC hr hlocks hout hK hA hX hG hS hl
  obtain ⟨hx, hb, hml, hown, hts⟩ := id hC
  have K15 : ∀ (σ : pw_S), fX3_requirePage_15  σ = some (r, σ') → mw_K p l e ({ frames := 7, cells := 2, slots := 12, locals := 103 }) s m args below meth c (vx_MQ below (px_Qv D cA shP 12 A ad r σ') (px_X D cA shP 12 A ad r σ') args s 2 12 A) A D cA shP 12 ad 3 15 1 6 [] [] σ := by
    intro  σ hf H locs ls hG hS hl
    unfold fX3_requirePage_15 at hf
    exact mt_throw mtE_io (List.mem_of_getElem? (i := 7) rfl) hC hout hlt hX hG hS hlocks hl.1 hf (Nat.le_of_ble_eq_true rfl) (Nat.le_of_ble_eq_true rfl) (Nat.le_of_ble_eq_true rfl) (Nat.le_of_ble_eq_true rfl) (Nat.le_of_ble_eq_true rfl) (Nat.le_of_ble_eq_true rfl) dX3_requirePage_15 dX3_requirePage_18 dX3_requirePage_19 dX3_requirePage_21 dX3_requirePage_24
  have hl : lv_has ls 3 [(0, .ref (ad 0)), (1, .int (a1)), (2, .int (a2))] := hl
  unfold fX3_requirePage at hf
  refine lv_aload_n hx hb dX3_requirePage_0 rfl (lv_at hl 0 rfl) ?_
  refine lv_iload_n hx hb dX3_requirePage_1 rfl (lv_at hl 1 rfl) ?_
  obtain ⟨z6, σ4, hc5, hi7, hx8⟩ := bnx_some hf
  refine mx_v (mx_V (As := [.int (a1)]) hC hK hA hX hG hS (kX3_requireProcess l D cA A ad hlt hc5) ykX3_requireProcess wA_150 wA_151 wA_152 (hG.fix (by decide)) rfl rfl ⟨rfl, rfl, Nat.le_of_ble_eq_true rfl, Nat.le_of_ble_eq_true rfl⟩ rfl hl.1 rfl (Nat.le_of_ble_eq_true rfl) dX3_requirePage_2 ⟨Nat.le_of_ble_eq_true rfl, Nat.le_of_ble_eq_true rfl⟩) hS hout hlocks (bnx_x hx8) (Nat.le_of_ble_eq_true rfl) (Nat.le_of_ble_eq_true rfl) (fun r3 he9 H locs hG hS => ?_)
  have hf := hi7 r3 he9
  clear hi7 hx8
  refine lv_iload_n hx hb dX3_requirePage_5 rfl (lv_at hl 2 rfl) ?_
  refine lv_if_lt (tgt := 15) hx hb dX3_requirePage_6 (by decide) (fun c10 => ?_) (fun c10 => ?_)
  · have hf := it_pos c10 hf
    exact K15 _ hf _ _ _ hG hS (lv_sub hl [] rfl)
  · have hf := it_neg c10 hf
    refine lv_iload_n hx hb dX3_requirePage_9 rfl (lv_at hl 2 rfl) ?_
    refine lv_bipush (v := 16) hx hb dX3_requirePage_10 (by decide) ?_
    refine lv_icmp_lt (tgt := 25) hx hb dX3_requirePage_12 (by decide) (fun c11 => ?_) (fun c11 => ?_)
    · have hf := it_pos c11 hf
      exact mrx_v hC hr hlocks hG hS hf (Nat.le_of_ble_eq_true rfl) (Nat.le_of_ble_eq_true rfl) dX3_requirePage_25
    · have hf := it_neg c11 hf
      exact K15 _ hf _ _ _ hG hS (lv_sub hl [] rfl)
set_option maxHeartbeats 4000000 in
set_option maxRecDepth 100000 in
theorem k0X3_requirePage (l : Launch) (D : va_G) (cA : Nat → ClassId) (A : Nat → Prop) (ad : Nat → Nat) {σ σ' : pw_S} {r : Unit} {a1 : Int32} {a2 : Int32} (hf : fX3_requirePage a1 a2 σ = some (.inl r, σ')) : Met l yX3_requirePage (wA yX3_requirePage cX3_requirePage 3 none) ({ frames := 1, cells := 0, slots := 0, locals := 21 }) (pw_Pc D cA shP 12 A ad σ [.ref (ad 0), .int (a1), .int (a2)]) (pw_Qv D cA shP 12 A ad r σ') 0 0 A := by
  refine mw_enter (own := RX3) (by decide) rfl (Nat.le_of_ble_eq_true rfl) ?_
  intro p e s m args below meth c ls hC hr hlocks hK hA hX hG hS hl
  obtain ⟨hx, hb, hml, hown, hts⟩ := id hC
  have K15 : ∀ (σ : pw_S), fX3_requirePage_15  σ = some (.inl r, σ') → mw_K p l e ({ frames := 1, cells := 0, slots := 0, locals := 21 }) s m args below meth c (MQ below (pw_Qv D cA shP 12 A ad r σ') args s 0 0 A) A D cA shP 12 ad 3 15 0 0 [] [] σ := by
    intro  σ hf H locs ls hG hS hl
    unfold fX3_requirePage_15 at hf
    cases hf
  have hl : lv_has ls 3 [(0, .ref (ad 0)), (1, .int (a1)), (2, .int (a2))] := hl
  unfold fX3_requirePage at hf
  refine lv_aload_n hx hb dX3_requirePage_0 rfl (lv_at hl 0 rfl) ?_
  refine lv_iload_n hx hb dX3_requirePage_1 rfl (lv_at hl 1 rfl) ?_
  obtain ⟨r3, σ4, hc5, hf⟩ := bnx_ok hf
  refine mc_v (mc_V (As := [.int (a1)]) hC hK hA hX hG hS (k0X3_requireProcess l D cA A ad hc5) ykX3_requireProcess wA_150 wA_151 wA_152 (hG.fix (by decide)) rfl rfl ⟨rfl, rfl, Nat.le_of_ble_eq_true rfl, Nat.le_of_ble_eq_true rfl⟩ rfl hl.1 rfl (Nat.le_of_ble_eq_true rfl) dX3_requirePage_2 ⟨Nat.le_of_ble_eq_true rfl, Nat.le_of_ble_eq_true rfl⟩) hS (fun H locs hG hS => ?_)
  refine lv_iload_n hx hb dX3_requirePage_5 rfl (lv_at hl 2 rfl) ?_
  refine lv_if_lt (tgt := 15) hx hb dX3_requirePage_6 (by decide) (fun c6 => ?_) (fun c6 => ?_)
  · have hf := it_pos c6 hf
    exact K15 _ hf _ _ _ hG hS (lv_sub hl [] rfl)
  · have hf := it_neg c6 hf
    refine lv_iload_n hx hb dX3_requirePage_9 rfl (lv_at hl 2 rfl) ?_
    refine lv_bipush (v := 16) hx hb dX3_requirePage_10 (by decide) ?_
    refine lv_icmp_lt (tgt := 25) hx hb dX3_requirePage_12 (by decide) (fun c7 => ?_) (fun c7 => ?_)
    · have hf := it_pos c7 hf
      have hf := inl_some hf
      exact mr_v hC hr hlocks hG hS hf (Nat.le_of_ble_eq_true rfl) (Nat.le_of_ble_eq_true rfl) dX3_requirePage_25
    · have hf := it_neg c7 hf
      exact K15 _ hf _ _ _ hG hS (lv_sub hl [] rfl)
def fX3_requireUnmapped (a1 : Int32) (a2 : Int32) (σ : pw_S) : Option ((Unit ⊕ String) × pw_S) := bnd (fX3_placeOf a1 a2 σ) (fun r3 σ4 => ck (inb (r3) (160)) (ld (gr σ4 1 (Int32.toNatClampNeg (r3))) (fun o7 => oc o7 (some (.inl (()), σ4)) (fun q9 => some (.inr pw_iaX, σ4)))))
set_option maxHeartbeats 4000000 in
set_option maxRecDepth 100000 in
theorem kX3_requireUnmapped (l : Launch) (D : va_G) (cA : Nat → ClassId) (A : Nat → Prop) (ad : Nat → Nat) (hlt : l.stackTraces = false) {σ σ' : pw_S} {r : (Unit ⊕ String)} {a1 : Int32} {a2 : Int32} (hf : fX3_requireUnmapped a1 a2 σ = some (r, σ')) : vx_Met l yX3_requireUnmapped (wA yX3_requireUnmapped cX3_requireUnmapped 3 none) ({ frames := 6, cells := 1, slots := 6, locals := 82 }) (pw_Pc D cA shP 12 A ad σ [.ref (ad 0), .int (a1), .int (a2)]) (px_Qv D cA shP 12 A ad r σ') (px_X D cA shP 12 A ad r σ') 1 6 A := by
  refine mw_enterX (own := RX3) (by decide) rfl (Nat.le_of_ble_eq_true rfl) ?_
  intro p e s m args below meth c ls hC hr hlocks hout hK hA hX hG hS hl
  obtain ⟨hx, hb, hml, hown, hts⟩ := id hC
  have hl : lv_has ls 3 [(0, .ref (ad 0)), (1, .int (a1)), (2, .int (a2))] := hl
  unfold fX3_requireUnmapped at hf
  refine lv_aload_n hx hb dX3_requireUnmapped_0 rfl (lv_at hl 0 rfl) ?_
  refine mw_getl hx hb hts hown hK hG inlX3 rfl (hG.fix (by decide)) rfl 0 (by decide) 1 rfl wA_14 dX3_requireUnmapped_1 ?_
  refine lv_iload_n hx hb dX3_requireUnmapped_4 rfl (lv_at hl 1 rfl) ?_
  refine lv_iload_n hx hb dX3_requireUnmapped_5 rfl (lv_at hl 2 rfl) ?_
  obtain ⟨r3, σ4, hc5, hf⟩ := bnd_some hf
  refine mc_i (mc_S (As := [.int (a1), .int (a2)]) hC hK hA hX hG hS (kX3_placeOf l D cA A ad hc5) ykX3_placeOf wA_162 wA_163 ⟨rfl, rfl, Nat.le_of_ble_eq_true rfl, Nat.le_of_ble_eq_true rfl⟩ rfl hl.1 rfl (Nat.le_of_ble_eq_true rfl) dX3_requireUnmapped_6 ⟨Nat.le_of_ble_eq_true rfl, Nat.le_of_ble_eq_true rfl⟩) hS (fun H locs hG hS => ?_)
  obtain ⟨h6, hf⟩ := ck_some hf
  obtain ⟨o7, e8, hf⟩ := ld_some hf
  refine mw_aald hx hb hK hG (hG.fix (by decide)) rfl (inb_in h6) dX3_requireUnmapped_9 ?_
  rw [← e8]
  clear e8
  refine mq_ifnull (tgt := 23) hx hb dX3_requireUnmapped_10 (by decide) (fun c10 => ?_) (fun q9 c10 => ?_)
  · subst c10
    have hf := oc_none hf
    exact mrx_v hC hr hlocks hG hS hf (Nat.le_of_ble_eq_true rfl) (Nat.le_of_ble_eq_true rfl) dX3_requireUnmapped_23
  · subst c10
    have hf := oc_some hf
    exact mt_throw mtE_ia (List.mem_of_getElem? (i := 11) rfl) hC hout hlt hX hG hS hlocks hl.1 hf (Nat.le_of_ble_eq_true rfl) (Nat.le_of_ble_eq_true rfl) (Nat.le_of_ble_eq_true rfl) (Nat.le_of_ble_eq_true rfl) (Nat.le_of_ble_eq_true rfl) (Nat.le_of_ble_eq_true rfl) dX3_requireUnmapped_13 dX3_requireUnmapped_16 dX3_requireUnmapped_17 dX3_requireUnmapped_19 dX3_requireUnmapped_22
def fX3_mappedPages_26 (bk4 : Int32 → Int32 → Int32 → pw_S → Option (Int32 × pw_S)) (x1 : Int32) (x2 : Int32) (x3 : Int32) (σ : pw_S) : Option (Int32 × pw_S) := bk4 x1 x2 (x3 + 1) σ
def fX3_mappedPages_4_b (bk4 : Int32 → Int32 → Int32 → pw_S → Option (Int32 × pw_S)) (x1 : Int32) (x2 : Int32) (x3 : Int32) (σ : pw_S) : Option (Int32 × pw_S) := (if 16 ≤ x3 then some (x2, σ) else bnd (fX3_placeOf x1 x3 σ) (fun r5 σ6 => ck (inb (r5) (160)) (ld (gr σ6 1 (Int32.toNatClampNeg (r5))) (fun o9 => oc o9 (fX3_mappedPages_26 bk4 x1 x2 x3 σ6) (fun q11 => fX3_mappedPages_26 bk4 x1 (x2 + 1) x3 σ6)))))
def fX3_mappedPages_4 : Nat → Int32 → Int32 → Int32 → pw_S → Option (Int32 × pw_S)
  | 0, _, _, _, _ => none
  | n + 1, x1, x2, x3, σ => fX3_mappedPages_4_b (fX3_mappedPages_4 n) x1 x2 x3 σ
def fX3_mappedPages (a1 : Int32) (σ : pw_S) : Option (Int32 × pw_S) := fX3_mappedPages_4 1000 a1 0 0 σ
set_option maxHeartbeats 4000000 in
set_option maxRecDepth 100000 in
theorem kX3_mappedPages (l : Launch) (D : va_G) (cA : Nat → ClassId) (A : Nat → Prop) (ad : Nat → Nat) {σ σ' : pw_S} {r : Int32} {a1 : Int32} (hf : fX3_mappedPages a1 σ = some (r, σ')) : Met l yX3_mappedPages (wA yX3_mappedPages cX3_mappedPages 4 (some .int)) ({ frames := 1, cells := 0, slots := 0, locals := 21 }) (pw_Pc D cA shP 12 A ad σ [.ref (ad 0), .int (a1)]) (pw_Qi D cA shP 12 A ad r σ') 0 0 A := by
  refine mw_enter (own := RX3) (by decide) rfl (Nat.le_of_ble_eq_true rfl) ?_
  intro p e s m args below meth c ls hC hr hlocks hK hA hX hG hS hl
  obtain ⟨hx, hb, hml, hown, hts⟩ := id hC
  have K4 : ∀ (n4 : Nat) (x1 : Int32) (x2 : Int32) (x3 : Int32) (σ : pw_S), fX3_mappedPages_4 n4 x1 x2 x3 σ = some (r, σ') → mw_K p l e ({ frames := 1, cells := 0, slots := 0, locals := 21 }) s m args below meth c (MQ below (pw_Qi D cA shP 12 A ad r σ') args s 0 0 A) A D cA shP 12 ad 4 4 0 0 [(0, .ref (ad 0)), (1, .int (x1)), (2, .int (x2)), (3, .int (x3))] [] σ := by
    intro n4
    induction n4 with
    | zero => intro x1 x2 x3 σ hf; cases hf
    | succ n4 ih4 =>
      have K26 : ∀ (x1 : Int32) (x2 : Int32) (x3 : Int32) (σ : pw_S), fX3_mappedPages_26 (fX3_mappedPages_4 n4) x1 x2 x3 σ = some (r, σ') → mw_K p l e ({ frames := 1, cells := 0, slots := 0, locals := 21 }) s m args below meth c (MQ below (pw_Qi D cA shP 12 A ad r σ') args s 0 0 A) A D cA shP 12 ad 4 26 0 0 [(0, .ref (ad 0)), (1, .int (x1)), (2, .int (x2)), (3, .int (x3))] [] σ := by
        intro x1 x2 x3 σ hf H locs ls hG hS hl
        unfold fX3_mappedPages_26 at hf
        refine lv_iinc (v := x3 + 1) (lv' := [(3, .int (x3 + 1)), (0, .ref (ad 0)), (1, .int (x1)), (2, .int (x2))]) hx hb dX3_mappedPages_26 hl (k := 3) rfl rfl (by decide) rfl (fun ls hl => ?_)
        refine lv_goto (tgt := 4) hx hb dX3_mappedPages_29 (by decide) ?_
        exact ih4 _ _ _ _ hf _ _ _ hG hS (lv_sub hl [1, 2, 3, 0] rfl)
      intro x1 x2 x3 σ hf H locs ls hG hS hl
      have hf : fX3_mappedPages_4_b (fX3_mappedPages_4 n4) x1 x2 x3 σ = some (r, σ') := hf
      unfold fX3_mappedPages_4_b at hf
      refine lv_iload_n hx hb dX3_mappedPages_4 rfl (lv_at hl 3 rfl) ?_
      refine lv_bipush (v := 16) hx hb dX3_mappedPages_5 (by decide) ?_
      refine lv_icmp_ge (tgt := 32) hx hb dX3_mappedPages_7 (by decide) (fun c4 => ?_) (fun c4 => ?_)
      · have hf := it_pos c4 hf
        refine lv_iload_n hx hb dX3_mappedPages_32 rfl (lv_at hl 2 rfl) ?_
        exact mr_i hC hr hlocks hG hS hf (Nat.le_of_ble_eq_true rfl) (Nat.le_of_ble_eq_true rfl) dX3_mappedPages_33
      · have hf := it_neg c4 hf
        refine lv_aload_n hx hb dX3_mappedPages_10 rfl (lv_at hl 0 rfl) ?_
        refine mw_getl hx hb hts hown hK hG inlX3 rfl (hG.fix (by decide)) rfl 0 (by decide) 1 rfl wA_14 dX3_mappedPages_11 ?_
        refine lv_iload_n hx hb dX3_mappedPages_14 rfl (lv_at hl 1 rfl) ?_
        refine lv_iload_n hx hb dX3_mappedPages_15 rfl (lv_at hl 3 rfl) ?_
        obtain ⟨r5, σ6, hc7, hf⟩ := bnd_some hf
        refine mc_i (mc_S (As := [.int (x1), .int (x3)]) hC hK hA hX hG hS (kX3_placeOf l D cA A ad hc7) ykX3_placeOf wA_162 wA_163 ⟨rfl, rfl, Nat.le_of_ble_eq_true rfl, Nat.le_of_ble_eq_true rfl⟩ rfl hl.1 rfl (Nat.le_of_ble_eq_true rfl) dX3_mappedPages_16 ⟨Nat.le_of_ble_eq_true rfl, Nat.le_of_ble_eq_true rfl⟩) hS (fun H locs hG hS => ?_)
        obtain ⟨h8, hf⟩ := ck_some hf
        obtain ⟨o9, e10, hf⟩ := ld_some hf
        refine mw_aald hx hb hK hG (hG.fix (by decide)) rfl (inb_in h8) dX3_mappedPages_19 ?_
        rw [← e10]
        clear e10
        refine mq_ifnull (tgt := 26) hx hb dX3_mappedPages_20 (by decide) (fun c12 => ?_) (fun q11 c12 => ?_)
        · subst c12
          have hf := oc_none hf
          exact K26 _ _ _ _ hf _ _ _ hG hS (lv_sub hl [0, 1, 2, 3] rfl)
        · subst c12
          have hf := oc_some hf
          refine lv_iinc (v := x2 + 1) (lv' := [(2, .int (x2 + 1)), (0, .ref (ad 0)), (1, .int (x1)), (3, .int (x3))]) hx hb dX3_mappedPages_23 hl (k := 2) rfl rfl (by decide) rfl (fun ls hl => ?_)
          exact K26 _ _ _ _ hf _ _ _ hG hS (lv_sub hl [1, 2, 0, 3] rfl)
  have hl : lv_has ls 4 [(0, .ref (ad 0)), (1, .int (a1))] := hl
  unfold fX3_mappedPages at hf
  refine lv_iconst (v := 0) hx hb dX3_mappedPages_0 (by decide) ?_
  refine lv_istore_n (lv' := [(2, .int (0)), (0, .ref (ad 0)), (1, .int (a1))]) hx hb dX3_mappedPages_1 rfl hl (by decide) rfl (fun ls hl => ?_)
  refine lv_iconst (v := 0) hx hb dX3_mappedPages_2 (by decide) ?_
  refine lv_istore_n (lv' := [(3, .int (0)), (2, .int (0)), (0, .ref (ad 0)), (1, .int (a1))]) hx hb dX3_mappedPages_3 rfl hl (by decide) rfl (fun ls hl => ?_)
  exact K4 1000 _ _ _ _ hf _ _ _ hG hS (lv_sub hl [2, 3, 1, 0] rfl)
def fX3_requireSegmentContent_32 (σ : pw_S) : Option ((Nat ⊕ String) × pw_S) := some (.inr pw_ioX, σ)
def fX3_requireSegmentContent_12 (σ : pw_S) : Option ((Nat ⊕ String) × pw_S) := some (.inr pw_ioX, σ)
def fX3_requireSegmentContent (a1 : Int32) (a2 : Int32) (σ : pw_S) : Option ((Nat ⊕ String) × pw_S) := (if a1 < 0 then fX3_requireSegmentContent_12 σ else (if a1 < (gi σ 0 8) then (if a2 < 0 then fX3_requireSegmentContent_32 σ else (if a2 < 6 then ck (inb (((a1 * 6) + a2)) (24)) (ld (gr σ 3 (Int32.toNatClampNeg (((a1 * 6) + a2)))) (fun o12 => oc o12 (some (.inr pw_ioX, σ)) (fun q14 => some (.inl (q14), σ)))) else fX3_requireSegmentContent_32 σ)) else fX3_requireSegmentContent_12 σ))
set_option maxHeartbeats 4000000 in
set_option maxRecDepth 100000 in
theorem kX3_requireSegmentContent (l : Launch) (D : va_G) (cA : Nat → ClassId) (A : Nat → Prop) (ad : Nat → Nat) (hlt : l.stackTraces = false) {σ σ' : pw_S} {r : (Nat ⊕ String)} {a1 : Int32} {a2 : Int32} (hf : fX3_requireSegmentContent a1 a2 σ = some (r, σ')) : vx_Met l yX3_requireSegmentContent (wA yX3_requireSegmentContent cX3_requireSegmentContent 4 (some (.object "PagedMemory$Content"))) ({ frames := 6, cells := 1, slots := 6, locals := 82 }) (pw_Pc D cA shP 12 A ad σ [.ref (ad 0), .int (a1), .int (a2)]) (px_Qk D cA shP 12 A ad r σ') (px_X D cA shP 12 A ad r σ') 1 6 A := by
  refine mw_enterX (own := RX3) (by decide) rfl (Nat.le_of_ble_eq_true rfl) ?_
  intro p e s m args below meth c ls hC hr hlocks hout hK hA hX hG hS hl
  obtain ⟨hx, hb, hml, hown, hts⟩ := id hC
  have K32 : ∀ (σ : pw_S), fX3_requireSegmentContent_32  σ = some (r, σ') → mw_K p l e ({ frames := 6, cells := 1, slots := 6, locals := 82 }) s m args below meth c (vx_MQ below (px_Qk D cA shP 12 A ad r σ') (px_X D cA shP 12 A ad r σ') args s 1 6 A) A D cA shP 12 ad 4 32 0 0 [] [] σ := by
    intro  σ hf H locs ls hG hS hl
    unfold fX3_requireSegmentContent_32 at hf
    exact mt_throw mtE_io (List.mem_of_getElem? (i := 14) rfl) hC hout hlt hX hG hS hlocks hl.1 hf (Nat.le_of_ble_eq_true rfl) (Nat.le_of_ble_eq_true rfl) (Nat.le_of_ble_eq_true rfl) (Nat.le_of_ble_eq_true rfl) (Nat.le_of_ble_eq_true rfl) (Nat.le_of_ble_eq_true rfl) dX3_requireSegmentContent_32 dX3_requireSegmentContent_35 dX3_requireSegmentContent_36 dX3_requireSegmentContent_38 dX3_requireSegmentContent_41
  have K12 : ∀ (σ : pw_S), fX3_requireSegmentContent_12  σ = some (r, σ') → mw_K p l e ({ frames := 6, cells := 1, slots := 6, locals := 82 }) s m args below meth c (vx_MQ below (px_Qk D cA shP 12 A ad r σ') (px_X D cA shP 12 A ad r σ') args s 1 6 A) A D cA shP 12 ad 4 12 0 0 [] [] σ := by
    intro  σ hf H locs ls hG hS hl
    unfold fX3_requireSegmentContent_12 at hf
    exact mt_throw mtE_io (List.mem_of_getElem? (i := 13) rfl) hC hout hlt hX hG hS hlocks hl.1 hf (Nat.le_of_ble_eq_true rfl) (Nat.le_of_ble_eq_true rfl) (Nat.le_of_ble_eq_true rfl) (Nat.le_of_ble_eq_true rfl) (Nat.le_of_ble_eq_true rfl) (Nat.le_of_ble_eq_true rfl) dX3_requireSegmentContent_12 dX3_requireSegmentContent_15 dX3_requireSegmentContent_16 dX3_requireSegmentContent_18 dX3_requireSegmentContent_21
  have hl : lv_has ls 4 [(0, .ref (ad 0)), (1, .int (a1)), (2, .int (a2))] := hl
  unfold fX3_requireSegmentContent at hf
  refine lv_iload_n hx hb dX3_requireSegmentContent_0 rfl (lv_at hl 1 rfl) ?_
  refine lv_if_lt (tgt := 12) hx hb dX3_requireSegmentContent_1 (by decide) (fun c7 => ?_) (fun c7 => ?_)
  · have hf := it_pos c7 hf
    exact K12 _ hf _ _ _ hG hS (lv_sub hl [] rfl)
  · have hf := it_neg c7 hf
    refine lv_iload_n hx hb dX3_requireSegmentContent_4 rfl (lv_at hl 1 rfl) ?_
    refine lv_aload_n hx hb dX3_requireSegmentContent_5 rfl (lv_at hl 0 rfl) ?_
    refine mw_geti hx hb hts hown hK hG inlX3 rfl (hG.fix (by decide)) rfl 8 (by decide) rfl wA_30 dX3_requireSegmentContent_6 ?_
    refine lv_icmp_lt (tgt := 22) hx hb dX3_requireSegmentContent_9 (by decide) (fun c8 => ?_) (fun c8 => ?_)
    · have hf := it_pos c8 hf
      refine lv_iload_n hx hb dX3_requireSegmentContent_22 rfl (lv_at hl 2 rfl) ?_
      refine lv_if_lt (tgt := 32) hx hb dX3_requireSegmentContent_23 (by decide) (fun c9 => ?_) (fun c9 => ?_)
      · have hf := it_pos c9 hf
        exact K32 _ hf _ _ _ hG hS (lv_sub hl [] rfl)
      · have hf := it_neg c9 hf
        refine lv_iload_n hx hb dX3_requireSegmentContent_26 rfl (lv_at hl 2 rfl) ?_
        refine lv_bipush (v := 6) hx hb dX3_requireSegmentContent_27 (by decide) ?_
        refine lv_icmp_lt (tgt := 42) hx hb dX3_requireSegmentContent_29 (by decide) (fun c10 => ?_) (fun c10 => ?_)
        · have hf := it_pos c10 hf
          refine lv_aload_n hx hb dX3_requireSegmentContent_42 rfl (lv_at hl 0 rfl) ?_
          refine mw_getl hx hb hts hown hK hG inlX3 rfl (hG.fix (by decide)) rfl 2 (by decide) 3 rfl wA_17 dX3_requireSegmentContent_43 ?_
          refine lv_iload_n hx hb dX3_requireSegmentContent_46 rfl (lv_at hl 1 rfl) ?_
          refine lv_bipush (v := 6) hx hb dX3_requireSegmentContent_47 (by decide) ?_
          refine lv_imul hx hb dX3_requireSegmentContent_49 ?_
          refine lv_iload_n hx hb dX3_requireSegmentContent_50 rfl (lv_at hl 2 rfl) ?_
          refine lv_iadd hx hb dX3_requireSegmentContent_51 ?_
          obtain ⟨h11, hf⟩ := ck_some hf
          obtain ⟨o12, e13, hf⟩ := ld_some hf
          refine mw_aald hx hb hK hG (hG.fix (by decide)) rfl (inb_in h11) dX3_requireSegmentContent_52 ?_
          rw [← e13]
          clear e13
          refine mq_astore_n (lv' := [(3, va_rf (Option.map ad o12)), (0, .ref (ad 0)), (1, .int (a1)), (2, .int (a2))]) hx hb dX3_requireSegmentContent_53 rfl hl (by decide) rfl (fun ls hl => ?_)
          refine mq_aload_n hx hb dX3_requireSegmentContent_54 rfl (lv_at hl 0 rfl) ?_
          refine mq_ifnonnull (tgt := 68) hx hb dX3_requireSegmentContent_55 (by decide) (fun q14 c15 => ?_) (fun c15 => ?_)
          · subst c15
            have hl : lv_has ls 4 [(3, .ref (ad q14)), (0, .ref (ad 0)), (1, .int (a1)), (2, .int (a2))] := hl
            have hf := oc_some hf
            refine lv_aload_n hx hb dX3_requireSegmentContent_68 rfl (lv_at hl 0 rfl) ?_
            exact mrx_k hC hr hlocks hG hS hf (Nat.le_of_ble_eq_true rfl) (Nat.le_of_ble_eq_true rfl) dX3_requireSegmentContent_69
          · subst c15
            have hl : lv_has ls 4 [(3, .null), (0, .ref (ad 0)), (1, .int (a1)), (2, .int (a2))] := hl
            have hf := oc_none hf
            exact mt_throw mtE_io (List.mem_of_getElem? (i := 15) rfl) hC hout hlt hX hG hS hlocks hl.1 hf (Nat.le_of_ble_eq_true rfl) (Nat.le_of_ble_eq_true rfl) (Nat.le_of_ble_eq_true rfl) (Nat.le_of_ble_eq_true rfl) (Nat.le_of_ble_eq_true rfl) (Nat.le_of_ble_eq_true rfl) dX3_requireSegmentContent_58 dX3_requireSegmentContent_61 dX3_requireSegmentContent_62 dX3_requireSegmentContent_64 dX3_requireSegmentContent_67
        · have hf := it_neg c10 hf
          exact K32 _ hf _ _ _ hG hS (lv_sub hl [] rfl)
    · have hf := it_neg c8 hf
      exact K12 _ hf _ _ _ hG hS (lv_sub hl [] rfl)
def fX3_attach (a1 : Int32) (a2 : Int32) (a3 : Int32) (a4 : Int32) (σ : pw_S) : Option ((Int32 ⊕ String) × pw_S) := bnx (fX3_requirePage a1 a2 σ) (fun r1 σ2 => bnx (fX3_requireSegmentContent a3 a4 σ2) (fun r8 σ9 => bnx (fX3_requireLive a1 σ9) (fun r15 σ16 => bnx (fX3_requireUnmapped a1 a2 σ16) (fun r22 σ23 => bnd (fX3_placeOf a1 a2 σ23) (fun r29 σ30 => bnd (fX3_refer r29 r8 σ30) (fun r32 σ33 => bnd (fX3_mappedPages a1 σ33) (fun r35 σ36 => some (.inl (r35), σ36))))))))
set_option maxHeartbeats 4000000 in
set_option maxRecDepth 100000 in
theorem kX3_attach (l : Launch) (D : va_G) (cA : Nat → ClassId) (A : Nat → Prop) (ad : Nat → Nat) (hlt : l.stackTraces = false) {σ σ' : pw_S} {r : (Int32 ⊕ String)} {a1 : Int32} {a2 : Int32} {a3 : Int32} {a4 : Int32} (hf : fX3_attach a1 a2 a3 a4 σ = some (r, σ')) : vx_Met l yX3_attach (wA yX3_attach cX3_attach 6 (some .int)) ({ frames := 8, cells := 5, slots := 30, locals := 125 }) (pw_Pc D cA shP 12 A ad σ [.ref (ad 0), .int (a1), .int (a2), .int (a3), .int (a4)]) (px_Qi D cA shP 12 A ad r σ') (px_X D cA shP 12 A ad r σ') 5 30 A := by
  refine mw_enterX (own := RX3) (by decide) rfl (Nat.le_of_ble_eq_true rfl) ?_
  intro p e s m args below meth c ls hC hr hlocks hout hK hA hX hG hS hl
  obtain ⟨hx, hb, hml, hown, hts⟩ := id hC
  have hl : lv_has ls 6 [(0, .ref (ad 0)), (1, .int (a1)), (2, .int (a2)), (3, .int (a3)), (4, .int (a4))] := hl
  unfold fX3_attach at hf
  refine lv_aload_n hx hb dX3_attach_0 rfl (lv_at hl 0 rfl) ?_
  refine lv_iload_n hx hb dX3_attach_1 rfl (lv_at hl 1 rfl) ?_
  refine lv_iload_n hx hb dX3_attach_2 rfl (lv_at hl 2 rfl) ?_
  obtain ⟨z4, σ2, hc3, hi5, hx6⟩ := bnx_some hf
  refine mx_v (mx_V (As := [.int (a1), .int (a2)]) hC hK hA hX hG hS (kX3_requirePage l D cA A ad hlt hc3) ykX3_requirePage wA_244 wA_245 wA_246 (hG.fix (by decide)) rfl rfl ⟨rfl, rfl, Nat.le_of_ble_eq_true rfl, Nat.le_of_ble_eq_true rfl⟩ rfl hl.1 rfl (Nat.le_of_ble_eq_true rfl) dX3_attach_3 ⟨Nat.le_of_ble_eq_true rfl, Nat.le_of_ble_eq_true rfl⟩) hS hout hlocks (bnx_x hx6) (Nat.le_of_ble_eq_true rfl) (Nat.le_of_ble_eq_true rfl) (fun r1 he7 H locs hG hS => ?_)
  have hf := hi5 r1 he7
  clear hi5 hx6
  refine lv_aload_n hx hb dX3_attach_6 rfl (lv_at hl 0 rfl) ?_
  refine lv_iload_n hx hb dX3_attach_7 rfl (lv_at hl 3 rfl) ?_
  refine lv_iload hx hb dX3_attach_8 (lv_at hl 4 rfl) ?_
  obtain ⟨z11, σ9, hc10, hi12, hx13⟩ := bnx_some hf
  refine mx_k (mx_V (As := [.int (a3), .int (a4)]) hC hK hA hX hG hS (kX3_requireSegmentContent l D cA A ad hlt hc10) ykX3_requireSegmentContent wA_304 wA_305 wA_306 (hG.fix (by decide)) rfl rfl ⟨rfl, rfl, Nat.le_of_ble_eq_true rfl, Nat.le_of_ble_eq_true rfl⟩ rfl hl.1 rfl (Nat.le_of_ble_eq_true rfl) dX3_attach_10 ⟨Nat.le_of_ble_eq_true rfl, Nat.le_of_ble_eq_true rfl⟩) hS hout hlocks (bnx_x hx13) (Nat.le_of_ble_eq_true rfl) (Nat.le_of_ble_eq_true rfl) (fun r8 he14 H locs hG hS => ?_)
  have hf := hi12 r8 he14
  clear hi12 hx13
  refine lv_astore (lv' := [(5, .ref (ad r8)), (0, .ref (ad 0)), (1, .int (a1)), (2, .int (a2)), (3, .int (a3)), (4, .int (a4))]) hx hb dX3_attach_13 hl (by decide) rfl (fun ls hl => ?_)
  refine lv_aload_n hx hb dX3_attach_15 rfl (lv_at hl 1 rfl) ?_
  refine lv_iload_n hx hb dX3_attach_16 rfl (lv_at hl 2 rfl) ?_
  obtain ⟨z18, σ16, hc17, hi19, hx20⟩ := bnx_some hf
  refine mx_v (mx_V (As := [.int (a1)]) hC hK hA hX hG hS (kX3_requireLive l D cA A ad hlt hc17) ykX3_requireLive wA_156 wA_157 wA_158 (hG.fix (by decide)) rfl rfl ⟨rfl, rfl, Nat.le_of_ble_eq_true rfl, Nat.le_of_ble_eq_true rfl⟩ rfl hl.1 rfl (Nat.le_of_ble_eq_true rfl) dX3_attach_17 ⟨Nat.le_of_ble_eq_true rfl, Nat.le_of_ble_eq_true rfl⟩) hS hout hlocks (bnx_x hx20) (Nat.le_of_ble_eq_true rfl) (Nat.le_of_ble_eq_true rfl) (fun r15 he21 H locs hG hS => ?_)
  have hf := hi19 r15 he21
  clear hi19 hx20
  refine lv_aload_n hx hb dX3_attach_20 rfl (lv_at hl 1 rfl) ?_
  refine lv_iload_n hx hb dX3_attach_21 rfl (lv_at hl 2 rfl) ?_
  refine lv_iload_n hx hb dX3_attach_22 rfl (lv_at hl 3 rfl) ?_
  obtain ⟨z25, σ23, hc24, hi26, hx27⟩ := bnx_some hf
  refine mx_v (mx_V (As := [.int (a1), .int (a2)]) hC hK hA hX hG hS (kX3_requireUnmapped l D cA A ad hlt hc24) ykX3_requireUnmapped wA_248 wA_249 wA_250 (hG.fix (by decide)) rfl rfl ⟨rfl, rfl, Nat.le_of_ble_eq_true rfl, Nat.le_of_ble_eq_true rfl⟩ rfl hl.1 rfl (Nat.le_of_ble_eq_true rfl) dX3_attach_23 ⟨Nat.le_of_ble_eq_true rfl, Nat.le_of_ble_eq_true rfl⟩) hS hout hlocks (bnx_x hx27) (Nat.le_of_ble_eq_true rfl) (Nat.le_of_ble_eq_true rfl) (fun r22 he28 H locs hG hS => ?_)
  have hf := hi26 r22 he28
  clear hi26 hx27
  refine lv_aload_n hx hb dX3_attach_26 rfl (lv_at hl 1 rfl) ?_
  refine lv_iload_n hx hb dX3_attach_27 rfl (lv_at hl 2 rfl) ?_
  refine lv_iload_n hx hb dX3_attach_28 rfl (lv_at hl 3 rfl) ?_
  obtain ⟨r29, σ30, hc31, hf⟩ := bnd_some hf
  refine mc_i (mc_S (As := [.int (a1), .int (a2)]) hC hK hA hX hG hS (kX3_placeOf l D cA A ad hc31) ykX3_placeOf wA_162 wA_163 ⟨rfl, rfl, Nat.le_of_ble_eq_true rfl, Nat.le_of_ble_eq_true rfl⟩ rfl hl.1 rfl (Nat.le_of_ble_eq_true rfl) dX3_attach_29 ⟨Nat.le_of_ble_eq_true rfl, Nat.le_of_ble_eq_true rfl⟩) hS (fun H locs hG hS => ?_)
  refine lv_aload hx hb dX3_attach_32 (lv_at hl 0 rfl) ?_
  obtain ⟨r32, σ33, hc34, hf⟩ := bnd_some hf
  refine mc_v (mc_V (As := [.int (r29), .ref (ad r8)]) hC hK hA hX hG hS (kX3_refer l D cA A ad hc34) ykX3_refer wA_165 wA_166 wA_167 (hG.fix (by decide)) rfl rfl ⟨rfl, rfl, Nat.le_of_ble_eq_true rfl, Nat.le_of_ble_eq_true rfl⟩ rfl hl.1 rfl (Nat.le_of_ble_eq_true rfl) dX3_attach_34 ⟨Nat.le_of_ble_eq_true rfl, Nat.le_of_ble_eq_true rfl⟩) hS (fun H locs hG hS => ?_)
  refine lv_aload_n hx hb dX3_attach_37 rfl (lv_at hl 1 rfl) ?_
  refine lv_iload_n hx hb dX3_attach_38 rfl (lv_at hl 2 rfl) ?_
  obtain ⟨r35, σ36, hc37, hf⟩ := bnd_some hf
  refine mc_i (mc_V (As := [.int (a1)]) hC hK hA hX hG hS (kX3_mappedPages l D cA A ad hc37) ykX3_mappedPages wA_263 wA_264 wA_265 (hG.fix (by decide)) rfl rfl ⟨rfl, rfl, Nat.le_of_ble_eq_true rfl, Nat.le_of_ble_eq_true rfl⟩ rfl hl.1 rfl (Nat.le_of_ble_eq_true rfl) dX3_attach_39 ⟨Nat.le_of_ble_eq_true rfl, Nat.le_of_ble_eq_true rfl⟩) hS (fun H locs hG hS => ?_)
  exact mrx_i hC hr hlocks hG hS hf (Nat.le_of_ble_eq_true rfl) (Nat.le_of_ble_eq_true rfl) dX3_attach_42
def fX3_requireMapped (a1 : Int32) (a2 : Int32) (σ : pw_S) : Option ((Nat ⊕ String) × pw_S) := bnd (fX3_placeOf a1 a2 σ) (fun r3 σ4 => ck (inb (r3) (160)) (ld (gr σ4 1 (Int32.toNatClampNeg (r3))) (fun o7 => oc o7 (some (.inr pw_iaX, σ4)) (fun q9 => some (.inl (q9), σ4)))))
set_option maxHeartbeats 4000000 in
set_option maxRecDepth 100000 in
theorem kX3_requireMapped (l : Launch) (D : va_G) (cA : Nat → ClassId) (A : Nat → Prop) (ad : Nat → Nat) (hlt : l.stackTraces = false) {σ σ' : pw_S} {r : (Nat ⊕ String)} {a1 : Int32} {a2 : Int32} (hf : fX3_requireMapped a1 a2 σ = some (r, σ')) : vx_Met l yX3_requireMapped (wA yX3_requireMapped cX3_requireMapped 4 (some (.object "PagedMemory$Content"))) ({ frames := 6, cells := 1, slots := 6, locals := 82 }) (pw_Pc D cA shP 12 A ad σ [.ref (ad 0), .int (a1), .int (a2)]) (px_Qk D cA shP 12 A ad r σ') (px_X D cA shP 12 A ad r σ') 1 6 A := by
  refine mw_enterX (own := RX3) (by decide) rfl (Nat.le_of_ble_eq_true rfl) ?_
  intro p e s m args below meth c ls hC hr hlocks hout hK hA hX hG hS hl
  obtain ⟨hx, hb, hml, hown, hts⟩ := id hC
  have hl : lv_has ls 4 [(0, .ref (ad 0)), (1, .int (a1)), (2, .int (a2))] := hl
  unfold fX3_requireMapped at hf
  refine lv_aload_n hx hb dX3_requireMapped_0 rfl (lv_at hl 0 rfl) ?_
  refine mw_getl hx hb hts hown hK hG inlX3 rfl (hG.fix (by decide)) rfl 0 (by decide) 1 rfl wA_14 dX3_requireMapped_1 ?_
  refine lv_iload_n hx hb dX3_requireMapped_4 rfl (lv_at hl 1 rfl) ?_
  refine lv_iload_n hx hb dX3_requireMapped_5 rfl (lv_at hl 2 rfl) ?_
  obtain ⟨r3, σ4, hc5, hf⟩ := bnd_some hf
  refine mc_i (mc_S (As := [.int (a1), .int (a2)]) hC hK hA hX hG hS (kX3_placeOf l D cA A ad hc5) ykX3_placeOf wA_162 wA_163 ⟨rfl, rfl, Nat.le_of_ble_eq_true rfl, Nat.le_of_ble_eq_true rfl⟩ rfl hl.1 rfl (Nat.le_of_ble_eq_true rfl) dX3_requireMapped_6 ⟨Nat.le_of_ble_eq_true rfl, Nat.le_of_ble_eq_true rfl⟩) hS (fun H locs hG hS => ?_)
  obtain ⟨h6, hf⟩ := ck_some hf
  obtain ⟨o7, e8, hf⟩ := ld_some hf
  refine mw_aald hx hb hK hG (hG.fix (by decide)) rfl (inb_in h6) dX3_requireMapped_9 ?_
  rw [← e8]
  clear e8
  refine mq_astore_n (lv' := [(3, va_rf (Option.map ad o7)), (0, .ref (ad 0)), (1, .int (a1)), (2, .int (a2))]) hx hb dX3_requireMapped_10 rfl hl (by decide) rfl (fun ls hl => ?_)
  refine mq_aload_n hx hb dX3_requireMapped_11 rfl (lv_at hl 0 rfl) ?_
  refine mq_ifnonnull (tgt := 25) hx hb dX3_requireMapped_12 (by decide) (fun q9 c10 => ?_) (fun c10 => ?_)
  · subst c10
    have hl : lv_has ls 4 [(3, .ref (ad q9)), (0, .ref (ad 0)), (1, .int (a1)), (2, .int (a2))] := hl
    have hf := oc_some hf
    refine lv_aload_n hx hb dX3_requireMapped_25 rfl (lv_at hl 0 rfl) ?_
    exact mrx_k hC hr hlocks hG hS hf (Nat.le_of_ble_eq_true rfl) (Nat.le_of_ble_eq_true rfl) dX3_requireMapped_26
  · subst c10
    have hl : lv_has ls 4 [(3, .null), (0, .ref (ad 0)), (1, .int (a1)), (2, .int (a2))] := hl
    have hf := oc_none hf
    exact mt_throw mtE_ia (List.mem_of_getElem? (i := 12) rfl) hC hout hlt hX hG hS hlocks hl.1 hf (Nat.le_of_ble_eq_true rfl) (Nat.le_of_ble_eq_true rfl) (Nat.le_of_ble_eq_true rfl) (Nat.le_of_ble_eq_true rfl) (Nat.le_of_ble_eq_true rfl) (Nat.le_of_ble_eq_true rfl) dX3_requireMapped_15 dX3_requireMapped_18 dX3_requireMapped_19 dX3_requireMapped_21 dX3_requireMapped_24
def fX3_unmap (a1 : Int32) (a2 : Int32) (σ : pw_S) : Option ((Int32 ⊕ String) × pw_S) := bnx (fX3_requirePage a1 a2 σ) (fun r1 σ2 => bnx (fX3_requireLive a1 σ2) (fun r8 σ9 => bnx (fX3_requireMapped a1 a2 σ9) (fun r15 σ16 => bnd (fX3_placeOf a1 a2 σ16) (fun r22 σ23 => bnd (fX3_dropReference r22 σ23) (fun r25 σ26 => ck (isB (r25)) (some (.inl (r25), σ26)))))))
set_option maxHeartbeats 4000000 in
set_option maxRecDepth 100000 in
theorem kX3_unmap (l : Launch) (D : va_G) (cA : Nat → ClassId) (A : Nat → Prop) (ad : Nat → Nat) (hlt : l.stackTraces = false) {σ σ' : pw_S} {r : (Int32 ⊕ String)} {a1 : Int32} {a2 : Int32} (hf : fX3_unmap a1 a2 σ = some (r, σ')) : vx_Met l yX3_unmap (wA yX3_unmap cX3_unmap 3 (some .boolean)) ({ frames := 8, cells := 4, slots := 24, locals := 125 }) (pw_Pc D cA shP 12 A ad σ [.ref (ad 0), .int (a1), .int (a2)]) (px_Qi D cA shP 12 A ad r σ') (px_X D cA shP 12 A ad r σ') 4 24 A := by
  refine mw_enterX (own := RX3) (by decide) rfl (Nat.le_of_ble_eq_true rfl) ?_
  intro p e s m args below meth c ls hC hr hlocks hout hK hA hX hG hS hl
  obtain ⟨hx, hb, hml, hown, hts⟩ := id hC
  have hl : lv_has ls 3 [(0, .ref (ad 0)), (1, .int (a1)), (2, .int (a2))] := hl
  unfold fX3_unmap at hf
  refine lv_aload_n hx hb dX3_unmap_0 rfl (lv_at hl 0 rfl) ?_
  refine lv_iload_n hx hb dX3_unmap_1 rfl (lv_at hl 1 rfl) ?_
  refine lv_iload_n hx hb dX3_unmap_2 rfl (lv_at hl 2 rfl) ?_
  obtain ⟨z4, σ2, hc3, hi5, hx6⟩ := bnx_some hf
  refine mx_v (mx_V (As := [.int (a1), .int (a2)]) hC hK hA hX hG hS (kX3_requirePage l D cA A ad hlt hc3) ykX3_requirePage wA_244 wA_245 wA_246 (hG.fix (by decide)) rfl rfl ⟨rfl, rfl, Nat.le_of_ble_eq_true rfl, Nat.le_of_ble_eq_true rfl⟩ rfl hl.1 rfl (Nat.le_of_ble_eq_true rfl) dX3_unmap_3 ⟨Nat.le_of_ble_eq_true rfl, Nat.le_of_ble_eq_true rfl⟩) hS hout hlocks (bnx_x hx6) (Nat.le_of_ble_eq_true rfl) (Nat.le_of_ble_eq_true rfl) (fun r1 he7 H locs hG hS => ?_)
  have hf := hi5 r1 he7
  clear hi5 hx6
  refine lv_aload_n hx hb dX3_unmap_6 rfl (lv_at hl 0 rfl) ?_
  refine lv_iload_n hx hb dX3_unmap_7 rfl (lv_at hl 1 rfl) ?_
  obtain ⟨z11, σ9, hc10, hi12, hx13⟩ := bnx_some hf
  refine mx_v (mx_V (As := [.int (a1)]) hC hK hA hX hG hS (kX3_requireLive l D cA A ad hlt hc10) ykX3_requireLive wA_156 wA_157 wA_158 (hG.fix (by decide)) rfl rfl ⟨rfl, rfl, Nat.le_of_ble_eq_true rfl, Nat.le_of_ble_eq_true rfl⟩ rfl hl.1 rfl (Nat.le_of_ble_eq_true rfl) dX3_unmap_8 ⟨Nat.le_of_ble_eq_true rfl, Nat.le_of_ble_eq_true rfl⟩) hS hout hlocks (bnx_x hx13) (Nat.le_of_ble_eq_true rfl) (Nat.le_of_ble_eq_true rfl) (fun r8 he14 H locs hG hS => ?_)
  have hf := hi12 r8 he14
  clear hi12 hx13
  refine lv_aload_n hx hb dX3_unmap_11 rfl (lv_at hl 0 rfl) ?_
  refine lv_iload_n hx hb dX3_unmap_12 rfl (lv_at hl 1 rfl) ?_
  refine lv_iload_n hx hb dX3_unmap_13 rfl (lv_at hl 2 rfl) ?_
  obtain ⟨z18, σ16, hc17, hi19, hx20⟩ := bnx_some hf
  refine mx_k (mx_V (As := [.int (a1), .int (a2)]) hC hK hA hX hG hS (kX3_requireMapped l D cA A ad hlt hc17) ykX3_requireMapped wA_319 wA_320 wA_321 (hG.fix (by decide)) rfl rfl ⟨rfl, rfl, Nat.le_of_ble_eq_true rfl, Nat.le_of_ble_eq_true rfl⟩ rfl hl.1 rfl (Nat.le_of_ble_eq_true rfl) dX3_unmap_14 ⟨Nat.le_of_ble_eq_true rfl, Nat.le_of_ble_eq_true rfl⟩) hS hout hlocks (bnx_x hx20) (Nat.le_of_ble_eq_true rfl) (Nat.le_of_ble_eq_true rfl) (fun r15 he21 H locs hG hS => ?_)
  have hf := hi19 r15 he21
  clear hi19 hx20
  refine lv_pop hx hb dX3_unmap_17 rfl ?_
  refine lv_aload_n hx hb dX3_unmap_18 rfl (lv_at hl 0 rfl) ?_
  refine lv_iload_n hx hb dX3_unmap_19 rfl (lv_at hl 1 rfl) ?_
  refine lv_iload_n hx hb dX3_unmap_20 rfl (lv_at hl 2 rfl) ?_
  obtain ⟨r22, σ23, hc24, hf⟩ := bnd_some hf
  refine mc_i (mc_S (As := [.int (a1), .int (a2)]) hC hK hA hX hG hS (kX3_placeOf l D cA A ad hc24) ykX3_placeOf wA_162 wA_163 ⟨rfl, rfl, Nat.le_of_ble_eq_true rfl, Nat.le_of_ble_eq_true rfl⟩ rfl hl.1 rfl (Nat.le_of_ble_eq_true rfl) dX3_unmap_21 ⟨Nat.le_of_ble_eq_true rfl, Nat.le_of_ble_eq_true rfl⟩) hS (fun H locs hG hS => ?_)
  obtain ⟨r25, σ26, hc27, hf⟩ := bnd_some hf
  refine mc_i (mc_V (As := [.int (r22)]) hC hK hA hX hG hS (kX3_dropReference l D cA A ad hc27) ykX3_dropReference wA_186 wA_187 wA_188 (hG.fix (by decide)) rfl rfl ⟨rfl, rfl, Nat.le_of_ble_eq_true rfl, Nat.le_of_ble_eq_true rfl⟩ rfl hl.1 rfl (Nat.le_of_ble_eq_true rfl) dX3_unmap_24 ⟨Nat.le_of_ble_eq_true rfl, Nat.le_of_ble_eq_true rfl⟩) hS (fun H locs hG hS => ?_)
  obtain ⟨h28, hf⟩ := ck_some hf
  exact mrx_z hC hr hlocks hG hS (isB_or h28) hf (Nat.le_of_ble_eq_true rfl) (Nat.le_of_ble_eq_true rfl) dX3_unmap_27
def fX3_isLive (a1 : Int32) (σ : pw_S) : Option ((Int32 ⊕ String) × pw_S) := bnx (fX3_requireProcess a1 σ) (fun r1 σ2 => ck (inb (a1) (10)) (ck (isB ((gi σ2 2 (Int32.toNatClampNeg (a1))))) (some (.inl ((gi σ2 2 (Int32.toNatClampNeg (a1)))), σ2))))
set_option maxHeartbeats 4000000 in
set_option maxRecDepth 100000 in
theorem kX3_isLive (l : Launch) (D : va_G) (cA : Nat → ClassId) (A : Nat → Prop) (ad : Nat → Nat) (hlt : l.stackTraces = false) {σ σ' : pw_S} {r : (Int32 ⊕ String)} {a1 : Int32} (hf : fX3_isLive a1 σ = some (r, σ')) : vx_Met l yX3_isLive (wA yX3_isLive cX3_isLive 2 (some .boolean)) ({ frames := 7, cells := 1, slots := 6, locals := 103 }) (pw_Pc D cA shP 12 A ad σ [.ref (ad 0), .int (a1)]) (px_Qi D cA shP 12 A ad r σ') (px_X D cA shP 12 A ad r σ') 1 6 A := by
  refine mw_enterX (own := RX3) (by decide) rfl (Nat.le_of_ble_eq_true rfl) ?_
  intro p e s m args below meth c ls hC hr hlocks hout hK hA hX hG hS hl
  obtain ⟨hx, hb, hml, hown, hts⟩ := id hC
  have hl : lv_has ls 2 [(0, .ref (ad 0)), (1, .int (a1))] := hl
  unfold fX3_isLive at hf
  refine lv_aload_n hx hb dX3_isLive_0 rfl (lv_at hl 0 rfl) ?_
  refine lv_iload_n hx hb dX3_isLive_1 rfl (lv_at hl 1 rfl) ?_
  obtain ⟨z4, σ2, hc3, hi5, hx6⟩ := bnx_some hf
  refine mx_v (mx_V (As := [.int (a1)]) hC hK hA hX hG hS (kX3_requireProcess l D cA A ad hlt hc3) ykX3_requireProcess wA_150 wA_151 wA_152 (hG.fix (by decide)) rfl rfl ⟨rfl, rfl, Nat.le_of_ble_eq_true rfl, Nat.le_of_ble_eq_true rfl⟩ rfl hl.1 rfl (Nat.le_of_ble_eq_true rfl) dX3_isLive_2 ⟨Nat.le_of_ble_eq_true rfl, Nat.le_of_ble_eq_true rfl⟩) hS hout hlocks (bnx_x hx6) (Nat.le_of_ble_eq_true rfl) (Nat.le_of_ble_eq_true rfl) (fun r1 he7 H locs hG hS => ?_)
  have hf := hi5 r1 he7
  clear hi5 hx6
  refine lv_aload_n hx hb dX3_isLive_5 rfl (lv_at hl 0 rfl) ?_
  refine mw_getl hx hb hts hown hK hG inlX3 rfl (hG.fix (by decide)) rfl 1 (by decide) 2 rfl wA_16 dX3_isLive_6 ?_
  refine lv_iload_n hx hb dX3_isLive_9 rfl (lv_at hl 1 rfl) ?_
  obtain ⟨h8, hf⟩ := ck_some hf
  refine mw_zald hx hb hK hG (hG.fix (by decide)) rfl (inb_in h8) dX3_isLive_10 ?_
  obtain ⟨h9, hf⟩ := ck_some hf
  exact mrx_z hC hr hlocks hG hS (isB_or h9) hf (Nat.le_of_ble_eq_true rfl) (Nat.le_of_ble_eq_true rfl) dX3_isLive_11
def fX3_mapping_35 (y0 : Int32) (σ : pw_S) : Option ((Int32 ⊕ String) × pw_S) := some (.inl (y0), σ)
def fX3_mapping (a1 : Int32) (a2 : Int32) (σ : pw_S) : Option ((Int32 ⊕ String) × pw_S) := bnx (fX3_requirePage a1 a2 σ) (fun r4 σ5 => bnd (fX3_placeOf a1 a2 σ5) (fun r11 σ12 => ck (inb (r11) (160)) (ld (gr σ12 1 (Int32.toNatClampNeg (r11))) (fun o15 => oc o15 (some (.inl (0), σ12)) (fun q17 => ck (okc σ12 q17) ((if (gi σ12 q17 1) = 0 then fX3_mapping_35 1 σ12 else fX3_mapping_35 2 σ12)))))))
set_option maxHeartbeats 4000000 in
set_option maxRecDepth 100000 in
theorem kX3_mapping (l : Launch) (D : va_G) (cA : Nat → ClassId) (A : Nat → Prop) (ad : Nat → Nat) (hlt : l.stackTraces = false) {σ σ' : pw_S} {r : (Int32 ⊕ String)} {a1 : Int32} {a2 : Int32} (hf : fX3_mapping a1 a2 σ = some (r, σ')) : vx_Met l yX3_mapping (wA yX3_mapping cX3_mapping 4 (some .int)) ({ frames := 8, cells := 2, slots := 12, locals := 125 }) (pw_Pc D cA shP 12 A ad σ [.ref (ad 0), .int (a1), .int (a2)]) (px_Qi D cA shP 12 A ad r σ') (px_X D cA shP 12 A ad r σ') 2 12 A := by
  refine mw_enterX (own := RX3) (by decide) rfl (Nat.le_of_ble_eq_true rfl) ?_
  intro p e s m args below meth c ls hC hr hlocks hout hK hA hX hG hS hl
  obtain ⟨hx, hb, hml, hown, hts⟩ := id hC
  have K35 : ∀ (y0 : Int32) (σ : pw_S), fX3_mapping_35 y0 σ = some (r, σ') → mw_K p l e ({ frames := 8, cells := 2, slots := 12, locals := 125 }) s m args below meth c (vx_MQ below (px_Qi D cA shP 12 A ad r σ') (px_X D cA shP 12 A ad r σ') args s 2 12 A) A D cA shP 12 ad 4 35 2 12 [] [.int (y0)] σ := by
    intro y0 σ hf H locs ls hG hS hl
    unfold fX3_mapping_35 at hf
    exact mrx_i hC hr hlocks hG hS hf (Nat.le_of_ble_eq_true rfl) (Nat.le_of_ble_eq_true rfl) dX3_mapping_35
  have hl : lv_has ls 4 [(0, .ref (ad 0)), (1, .int (a1)), (2, .int (a2))] := hl
  unfold fX3_mapping at hf
  refine lv_aload_n hx hb dX3_mapping_0 rfl (lv_at hl 0 rfl) ?_
  refine lv_iload_n hx hb dX3_mapping_1 rfl (lv_at hl 1 rfl) ?_
  refine lv_iload_n hx hb dX3_mapping_2 rfl (lv_at hl 2 rfl) ?_
  obtain ⟨z7, σ5, hc6, hi8, hx9⟩ := bnx_some hf
  refine mx_v (mx_V (As := [.int (a1), .int (a2)]) hC hK hA hX hG hS (kX3_requirePage l D cA A ad hlt hc6) ykX3_requirePage wA_244 wA_245 wA_246 (hG.fix (by decide)) rfl rfl ⟨rfl, rfl, Nat.le_of_ble_eq_true rfl, Nat.le_of_ble_eq_true rfl⟩ rfl hl.1 rfl (Nat.le_of_ble_eq_true rfl) dX3_mapping_3 ⟨Nat.le_of_ble_eq_true rfl, Nat.le_of_ble_eq_true rfl⟩) hS hout hlocks (bnx_x hx9) (Nat.le_of_ble_eq_true rfl) (Nat.le_of_ble_eq_true rfl) (fun r4 he10 H locs hG hS => ?_)
  have hf := hi8 r4 he10
  clear hi8 hx9
  refine lv_aload_n hx hb dX3_mapping_6 rfl (lv_at hl 0 rfl) ?_
  refine mw_getl hx hb hts hown hK hG inlX3 rfl (hG.fix (by decide)) rfl 0 (by decide) 1 rfl wA_14 dX3_mapping_7 ?_
  refine lv_iload_n hx hb dX3_mapping_10 rfl (lv_at hl 1 rfl) ?_
  refine lv_iload_n hx hb dX3_mapping_11 rfl (lv_at hl 2 rfl) ?_
  obtain ⟨r11, σ12, hc13, hf⟩ := bnd_some hf
  refine mc_i (mc_S (As := [.int (a1), .int (a2)]) hC hK hA hX hG hS (kX3_placeOf l D cA A ad hc13) ykX3_placeOf wA_162 wA_163 ⟨rfl, rfl, Nat.le_of_ble_eq_true rfl, Nat.le_of_ble_eq_true rfl⟩ rfl hl.1 rfl (Nat.le_of_ble_eq_true rfl) dX3_mapping_12 ⟨Nat.le_of_ble_eq_true rfl, Nat.le_of_ble_eq_true rfl⟩) hS (fun H locs hG hS => ?_)
  obtain ⟨h14, hf⟩ := ck_some hf
  obtain ⟨o15, e16, hf⟩ := ld_some hf
  refine mw_aald hx hb hK hG (hG.fix (by decide)) rfl (inb_in h14) dX3_mapping_15 ?_
  rw [← e16]
  clear e16
  refine mq_astore_n (lv' := [(3, va_rf (Option.map ad o15)), (0, .ref (ad 0)), (1, .int (a1)), (2, .int (a2))]) hx hb dX3_mapping_16 rfl hl (by decide) rfl (fun ls hl => ?_)
  refine mq_aload_n hx hb dX3_mapping_17 rfl (lv_at hl 0 rfl) ?_
  refine mq_ifnonnull (tgt := 23) hx hb dX3_mapping_18 (by decide) (fun q17 c18 => ?_) (fun c18 => ?_)
  · subst c18
    have hl : lv_has ls 4 [(3, .ref (ad q17)), (0, .ref (ad 0)), (1, .int (a1)), (2, .int (a2))] := hl
    have hf := oc_some hf
    refine lv_aload_n hx hb dX3_mapping_23 rfl (lv_at hl 0 rfl) ?_
    obtain ⟨h19, hf⟩ := ck_some hf
    refine mw_geti hx hb hts hown hK hG inlX0 rfl (okc_lt h19) (shP_c h19) 1 (by decide) rfl wA_190 dX3_mapping_24 ?_
    refine lv_if_eq (tgt := 34) hx hb dX3_mapping_27 (by decide) (fun c20 => ?_) (fun c20 => ?_)
    · have hf := it_pos c20 hf
      refine lv_iconst (v := 1) hx hb dX3_mapping_34 (by decide) ?_
      exact K35 _ _ hf _ _ _ hG hS (lv_sub hl [] rfl)
    · have hf := it_neg c20 hf
      refine lv_iconst (v := 2) hx hb dX3_mapping_30 (by decide) ?_
      refine lv_goto (tgt := 35) hx hb dX3_mapping_31 (by decide) ?_
      exact K35 _ _ hf _ _ _ hG hS (lv_sub hl [] rfl)
  · subst c18
    have hl : lv_has ls 4 [(3, .null), (0, .ref (ad 0)), (1, .int (a1)), (2, .int (a2))] := hl
    have hf := oc_none hf
    refine lv_iconst (v := 0) hx hb dX3_mapping_21 (by decide) ?_
    exact mrx_i hC hr hlocks hG hS hf (Nat.le_of_ble_eq_true rfl) (Nat.le_of_ble_eq_true rfl) dX3_mapping_22
set_option maxHeartbeats 4000000 in
set_option maxRecDepth 100000 in
theorem k0X3_mapping (l : Launch) (D : va_G) (cA : Nat → ClassId) (A : Nat → Prop) (ad : Nat → Nat) {σ σ' : pw_S} {r : Int32} {a1 : Int32} {a2 : Int32} (hf : fX3_mapping a1 a2 σ = some (.inl r, σ')) : Met l yX3_mapping (wA yX3_mapping cX3_mapping 4 (some .int)) ({ frames := 2, cells := 0, slots := 0, locals := 43 }) (pw_Pc D cA shP 12 A ad σ [.ref (ad 0), .int (a1), .int (a2)]) (pw_Qi D cA shP 12 A ad r σ') 0 0 A := by
  refine mw_enter (own := RX3) (by decide) rfl (Nat.le_of_ble_eq_true rfl) ?_
  intro p e s m args below meth c ls hC hr hlocks hK hA hX hG hS hl
  obtain ⟨hx, hb, hml, hown, hts⟩ := id hC
  have K35 : ∀ (y0 : Int32) (σ : pw_S), fX3_mapping_35 y0 σ = some (.inl r, σ') → mw_K p l e ({ frames := 2, cells := 0, slots := 0, locals := 43 }) s m args below meth c (MQ below (pw_Qi D cA shP 12 A ad r σ') args s 0 0 A) A D cA shP 12 ad 4 35 0 0 [] [.int (y0)] σ := by
    intro y0 σ hf H locs ls hG hS hl
    unfold fX3_mapping_35 at hf
    have hf := inl_some hf
    exact mr_i hC hr hlocks hG hS hf (Nat.le_of_ble_eq_true rfl) (Nat.le_of_ble_eq_true rfl) dX3_mapping_35
  have hl : lv_has ls 4 [(0, .ref (ad 0)), (1, .int (a1)), (2, .int (a2))] := hl
  unfold fX3_mapping at hf
  refine lv_aload_n hx hb dX3_mapping_0 rfl (lv_at hl 0 rfl) ?_
  refine lv_iload_n hx hb dX3_mapping_1 rfl (lv_at hl 1 rfl) ?_
  refine lv_iload_n hx hb dX3_mapping_2 rfl (lv_at hl 2 rfl) ?_
  obtain ⟨r4, σ5, hc6, hf⟩ := bnx_ok hf
  refine mc_v (mc_V (As := [.int (a1), .int (a2)]) hC hK hA hX hG hS (k0X3_requirePage l D cA A ad hc6) ykX3_requirePage wA_244 wA_245 wA_246 (hG.fix (by decide)) rfl rfl ⟨rfl, rfl, Nat.le_of_ble_eq_true rfl, Nat.le_of_ble_eq_true rfl⟩ rfl hl.1 rfl (Nat.le_of_ble_eq_true rfl) dX3_mapping_3 ⟨Nat.le_of_ble_eq_true rfl, Nat.le_of_ble_eq_true rfl⟩) hS (fun H locs hG hS => ?_)
  refine lv_aload_n hx hb dX3_mapping_6 rfl (lv_at hl 0 rfl) ?_
  refine mw_getl hx hb hts hown hK hG inlX3 rfl (hG.fix (by decide)) rfl 0 (by decide) 1 rfl wA_14 dX3_mapping_7 ?_
  refine lv_iload_n hx hb dX3_mapping_10 rfl (lv_at hl 1 rfl) ?_
  refine lv_iload_n hx hb dX3_mapping_11 rfl (lv_at hl 2 rfl) ?_
  obtain ⟨r7, σ8, hc9, hf⟩ := bnd_some hf
  refine mc_i (mc_S (As := [.int (a1), .int (a2)]) hC hK hA hX hG hS (kX3_placeOf l D cA A ad hc9) ykX3_placeOf wA_162 wA_163 ⟨rfl, rfl, Nat.le_of_ble_eq_true rfl, Nat.le_of_ble_eq_true rfl⟩ rfl hl.1 rfl (Nat.le_of_ble_eq_true rfl) dX3_mapping_12 ⟨Nat.le_of_ble_eq_true rfl, Nat.le_of_ble_eq_true rfl⟩) hS (fun H locs hG hS => ?_)
  obtain ⟨h10, hf⟩ := ck_some hf
  obtain ⟨o11, e12, hf⟩ := ld_some hf
  refine mw_aald hx hb hK hG (hG.fix (by decide)) rfl (inb_in h10) dX3_mapping_15 ?_
  rw [← e12]
  clear e12
  refine mq_astore_n (lv' := [(3, va_rf (Option.map ad o11)), (0, .ref (ad 0)), (1, .int (a1)), (2, .int (a2))]) hx hb dX3_mapping_16 rfl hl (by decide) rfl (fun ls hl => ?_)
  refine mq_aload_n hx hb dX3_mapping_17 rfl (lv_at hl 0 rfl) ?_
  refine mq_ifnonnull (tgt := 23) hx hb dX3_mapping_18 (by decide) (fun q13 c14 => ?_) (fun c14 => ?_)
  · subst c14
    have hl : lv_has ls 4 [(3, .ref (ad q13)), (0, .ref (ad 0)), (1, .int (a1)), (2, .int (a2))] := hl
    have hf := oc_some hf
    refine lv_aload_n hx hb dX3_mapping_23 rfl (lv_at hl 0 rfl) ?_
    obtain ⟨h15, hf⟩ := ck_some hf
    refine mw_geti hx hb hts hown hK hG inlX0 rfl (okc_lt h15) (shP_c h15) 1 (by decide) rfl wA_190 dX3_mapping_24 ?_
    refine lv_if_eq (tgt := 34) hx hb dX3_mapping_27 (by decide) (fun c16 => ?_) (fun c16 => ?_)
    · have hf := it_pos c16 hf
      refine lv_iconst (v := 1) hx hb dX3_mapping_34 (by decide) ?_
      exact K35 _ _ hf _ _ _ hG hS (lv_sub hl [] rfl)
    · have hf := it_neg c16 hf
      refine lv_iconst (v := 2) hx hb dX3_mapping_30 (by decide) ?_
      refine lv_goto (tgt := 35) hx hb dX3_mapping_31 (by decide) ?_
      exact K35 _ _ hf _ _ _ hG hS (lv_sub hl [] rfl)
  · subst c14
    have hl : lv_has ls 4 [(3, .null), (0, .ref (ad 0)), (1, .int (a1)), (2, .int (a2))] := hl
    have hf := oc_none hf
    refine lv_iconst (v := 0) hx hb dX3_mapping_21 (by decide) ?_
    have hf := inl_some hf
    exact mr_i hC hr hlocks hG hS hf (Nat.le_of_ble_eq_true rfl) (Nat.le_of_ble_eq_true rfl) dX3_mapping_22
def fX3_requireAddressed_15 (σ : pw_S) : Option ((Nat ⊕ String) × pw_S) := some (.inr pw_ioX, σ)
def fX3_requireAddressed (a1 : Int32) (a2 : Int32) (σ : pw_S) : Option ((Nat ⊕ String) × pw_S) := bnx (fX3_requireProcess a1 σ) (fun r3 σ4 => (if a2 < 0 then fX3_requireAddressed_15 σ4 else (if a2 < 64 then bnx (fX3_requireLive a1 σ4) (fun r12 σ13 => bnx (fX3_requireMapped a1 ((a2 / 4)) σ13) (fun r19 σ20 => some (.inl (r19), σ20))) else fX3_requireAddressed_15 σ4)))
set_option maxHeartbeats 4000000 in
set_option maxRecDepth 100000 in
theorem kX3_requireAddressed (l : Launch) (D : va_G) (cA : Nat → ClassId) (A : Nat → Prop) (ad : Nat → Nat) (hlt : l.stackTraces = false) {σ σ' : pw_S} {r : (Nat ⊕ String)} {a1 : Int32} {a2 : Int32} (hf : fX3_requireAddressed a1 a2 σ = some (r, σ')) : vx_Met l yX3_requireAddressed (wA yX3_requireAddressed cX3_requireAddressed 3 (some (.object "PagedMemory$Content"))) ({ frames := 7, cells := 3, slots := 18, locals := 105 }) (pw_Pc D cA shP 12 A ad σ [.ref (ad 0), .int (a1), .int (a2)]) (px_Qk D cA shP 12 A ad r σ') (px_X D cA shP 12 A ad r σ') 3 18 A := by
  refine mw_enterX (own := RX3) (by decide) rfl (Nat.le_of_ble_eq_true rfl) ?_
  intro p e s m args below meth c ls hC hr hlocks hout hK hA hX hG hS hl
  obtain ⟨hx, hb, hml, hown, hts⟩ := id hC
  have K15 : ∀ (σ : pw_S), fX3_requireAddressed_15  σ = some (r, σ') → mw_K p l e ({ frames := 7, cells := 3, slots := 18, locals := 105 }) s m args below meth c (vx_MQ below (px_Qk D cA shP 12 A ad r σ') (px_X D cA shP 12 A ad r σ') args s 3 18 A) A D cA shP 12 ad 3 15 1 6 [] [] σ := by
    intro  σ hf H locs ls hG hS hl
    unfold fX3_requireAddressed_15 at hf
    exact mt_throw mtE_io (List.mem_of_getElem? (i := 16) rfl) hC hout hlt hX hG hS hlocks hl.1 hf (Nat.le_of_ble_eq_true rfl) (Nat.le_of_ble_eq_true rfl) (Nat.le_of_ble_eq_true rfl) (Nat.le_of_ble_eq_true rfl) (Nat.le_of_ble_eq_true rfl) (Nat.le_of_ble_eq_true rfl) dX3_requireAddressed_15 dX3_requireAddressed_18 dX3_requireAddressed_19 dX3_requireAddressed_21 dX3_requireAddressed_24
  have hl : lv_has ls 3 [(0, .ref (ad 0)), (1, .int (a1)), (2, .int (a2))] := hl
  unfold fX3_requireAddressed at hf
  refine lv_aload_n hx hb dX3_requireAddressed_0 rfl (lv_at hl 0 rfl) ?_
  refine lv_iload_n hx hb dX3_requireAddressed_1 rfl (lv_at hl 1 rfl) ?_
  obtain ⟨z6, σ4, hc5, hi7, hx8⟩ := bnx_some hf
  refine mx_v (mx_V (As := [.int (a1)]) hC hK hA hX hG hS (kX3_requireProcess l D cA A ad hlt hc5) ykX3_requireProcess wA_150 wA_151 wA_152 (hG.fix (by decide)) rfl rfl ⟨rfl, rfl, Nat.le_of_ble_eq_true rfl, Nat.le_of_ble_eq_true rfl⟩ rfl hl.1 rfl (Nat.le_of_ble_eq_true rfl) dX3_requireAddressed_2 ⟨Nat.le_of_ble_eq_true rfl, Nat.le_of_ble_eq_true rfl⟩) hS hout hlocks (bnx_x hx8) (Nat.le_of_ble_eq_true rfl) (Nat.le_of_ble_eq_true rfl) (fun r3 he9 H locs hG hS => ?_)
  have hf := hi7 r3 he9
  clear hi7 hx8
  refine lv_iload_n hx hb dX3_requireAddressed_5 rfl (lv_at hl 2 rfl) ?_
  refine lv_if_lt (tgt := 15) hx hb dX3_requireAddressed_6 (by decide) (fun c10 => ?_) (fun c10 => ?_)
  · have hf := it_pos c10 hf
    exact K15 _ hf _ _ _ hG hS (lv_sub hl [] rfl)
  · have hf := it_neg c10 hf
    refine lv_iload_n hx hb dX3_requireAddressed_9 rfl (lv_at hl 2 rfl) ?_
    refine lv_bipush (v := 64) hx hb dX3_requireAddressed_10 (by decide) ?_
    refine lv_icmp_lt (tgt := 25) hx hb dX3_requireAddressed_12 (by decide) (fun c11 => ?_) (fun c11 => ?_)
    · have hf := it_pos c11 hf
      refine lv_aload_n hx hb dX3_requireAddressed_25 rfl (lv_at hl 0 rfl) ?_
      refine lv_iload_n hx hb dX3_requireAddressed_26 rfl (lv_at hl 1 rfl) ?_
      obtain ⟨z15, σ13, hc14, hi16, hx17⟩ := bnx_some hf
      refine mx_v (mx_V (As := [.int (a1)]) hC hK hA hX hG hS (kX3_requireLive l D cA A ad hlt hc14) ykX3_requireLive wA_156 wA_157 wA_158 (hG.fix (by decide)) rfl rfl ⟨rfl, rfl, Nat.le_of_ble_eq_true rfl, Nat.le_of_ble_eq_true rfl⟩ rfl hl.1 rfl (Nat.le_of_ble_eq_true rfl) dX3_requireAddressed_27 ⟨Nat.le_of_ble_eq_true rfl, Nat.le_of_ble_eq_true rfl⟩) hS hout hlocks (bnx_x hx17) (Nat.le_of_ble_eq_true rfl) (Nat.le_of_ble_eq_true rfl) (fun r12 he18 H locs hG hS => ?_)
      have hf := hi16 r12 he18
      clear hi16 hx17
      refine lv_aload_n hx hb dX3_requireAddressed_30 rfl (lv_at hl 0 rfl) ?_
      refine lv_iload_n hx hb dX3_requireAddressed_31 rfl (lv_at hl 1 rfl) ?_
      refine lv_iload_n hx hb dX3_requireAddressed_32 rfl (lv_at hl 2 rfl) ?_
      refine lv_iconst (v := 4) hx hb dX3_requireAddressed_33 (by decide) ?_
      refine lv_idiv hx hb dX3_requireAddressed_34 (by decide) ?_
      obtain ⟨z22, σ20, hc21, hi23, hx24⟩ := bnx_some hf
      refine mx_k (mx_V (As := [.int (a1), .int ((a2 / 4))]) hC hK hA hX hG hS (kX3_requireMapped l D cA A ad hlt hc21) ykX3_requireMapped wA_319 wA_320 wA_321 (hG.fix (by decide)) rfl rfl ⟨rfl, rfl, Nat.le_of_ble_eq_true rfl, Nat.le_of_ble_eq_true rfl⟩ rfl hl.1 rfl (Nat.le_of_ble_eq_true rfl) dX3_requireAddressed_35 ⟨Nat.le_of_ble_eq_true rfl, Nat.le_of_ble_eq_true rfl⟩) hS hout hlocks (bnx_x hx24) (Nat.le_of_ble_eq_true rfl) (Nat.le_of_ble_eq_true rfl) (fun r19 he25 H locs hG hS => ?_)
      have hf := hi23 r19 he25
      clear hi23 hx24
      exact mrx_k hC hr hlocks hG hS hf (Nat.le_of_ble_eq_true rfl) (Nat.le_of_ble_eq_true rfl) dX3_requireAddressed_38
    · have hf := it_neg c11 hf
      exact K15 _ hf _ _ _ hG hS (lv_sub hl [] rfl)
def fX3_requireObtainableFrame_42 (σ : pw_S) : Option ((Unit ⊕ String) × pw_S) := some (.inl (()), σ)
def fX3_requireObtainableFrame (σ : pw_S) : Option ((Unit ⊕ String) × pw_S) := bnd (fX1_smallestFree σ) (fun r4 σ5 => (if r4 = (-1) then bnd (fX1_oldestClean σ5) (fun r8 σ9 => (if r8 = (-1) then bnd (fX2_freeCount σ9) (fun r12 σ13 => (if r12 = 0 then some (.inr pw_isX, σ13) else fX3_requireObtainableFrame_42 σ13)) else fX3_requireObtainableFrame_42 σ9)) else fX3_requireObtainableFrame_42 σ5))
set_option maxHeartbeats 4000000 in
set_option maxRecDepth 100000 in
theorem kX3_requireObtainableFrame (l : Launch) (D : va_G) (cA : Nat → ClassId) (A : Nat → Prop) (ad : Nat → Nat) (hlt : l.stackTraces = false) {σ σ' : pw_S} {r : (Unit ⊕ String)} (hf : fX3_requireObtainableFrame σ = some (r, σ')) : vx_Met l yX3_requireObtainableFrame (wA yX3_requireObtainableFrame cX3_requireObtainableFrame 1 none) ({ frames := 6, cells := 1, slots := 6, locals := 82 }) (pw_Pc D cA shP 12 A ad σ [.ref (ad 0)]) (px_Qv D cA shP 12 A ad r σ') (px_X D cA shP 12 A ad r σ') 1 6 A := by
  refine mw_enterX (own := RX3) (by decide) rfl (Nat.le_of_ble_eq_true rfl) ?_
  intro p e s m args below meth c ls hC hr hlocks hout hK hA hX hG hS hl
  obtain ⟨hx, hb, hml, hown, hts⟩ := id hC
  have K42 : ∀ (σ : pw_S), fX3_requireObtainableFrame_42  σ = some (r, σ') → mw_K p l e ({ frames := 6, cells := 1, slots := 6, locals := 82 }) s m args below meth c (vx_MQ below (px_Qv D cA shP 12 A ad r σ') (px_X D cA shP 12 A ad r σ') args s 1 6 A) A D cA shP 12 ad 1 42 0 0 [] [] σ := by
    intro  σ hf H locs ls hG hS hl
    unfold fX3_requireObtainableFrame_42 at hf
    exact mrx_v hC hr hlocks hG hS hf (Nat.le_of_ble_eq_true rfl) (Nat.le_of_ble_eq_true rfl) dX3_requireObtainableFrame_42
  have hl : lv_has ls 1 [(0, .ref (ad 0))] := hl
  unfold fX3_requireObtainableFrame at hf
  refine lv_aload_n hx hb dX3_requireObtainableFrame_0 rfl (lv_at hl 0 rfl) ?_
  refine mw_getl hx hb hts hown hK hG inlX3 rfl (hG.fix (by decide)) rfl 3 (by decide) 4 rfl wA_21 dX3_requireObtainableFrame_1 ?_
  obtain ⟨r4, σ5, hc6, hf⟩ := bnd_some hf
  refine mc_i (mc_V (As := []) hC hK hA hX hG hS (kX1_smallestFree l D cA A ad hc6) ykX1_smallestFree wA_369 wA_370 wA_371 (hG.fix (by decide)) rfl rfl ⟨rfl, rfl, Nat.le_of_ble_eq_true rfl, Nat.le_of_ble_eq_true rfl⟩ rfl hl.1 rfl (Nat.le_of_ble_eq_true rfl) dX3_requireObtainableFrame_4 ⟨Nat.le_of_ble_eq_true rfl, Nat.le_of_ble_eq_true rfl⟩) hS (fun H locs hG hS => ?_)
  refine lv_iconst (v := (-1)) hx hb dX3_requireObtainableFrame_7 (by decide) ?_
  refine lv_icmp_ne (tgt := 42) hx hb dX3_requireObtainableFrame_8 (by decide) (fun c7 => ?_) (fun c7 => ?_)
  · have hf := it_neg c7 hf
    exact K42 _ hf _ _ _ hG hS (lv_sub hl [] rfl)
  · have hf := it_pos c7 hf
    refine lv_aload_n hx hb dX3_requireObtainableFrame_11 rfl (lv_at hl 0 rfl) ?_
    refine mw_getl hx hb hts hown hK hG inlX3 rfl (hG.fix (by decide)) rfl 3 (by decide) 4 rfl wA_21 dX3_requireObtainableFrame_12 ?_
    obtain ⟨r8, σ9, hc10, hf⟩ := bnd_some hf
    refine mc_i (mc_V (As := []) hC hK hA hX hG hS (kX1_oldestClean l D cA A ad hc10) ykX1_oldestClean wA_373 wA_374 wA_375 (hG.fix (by decide)) rfl rfl ⟨rfl, rfl, Nat.le_of_ble_eq_true rfl, Nat.le_of_ble_eq_true rfl⟩ rfl hl.1 rfl (Nat.le_of_ble_eq_true rfl) dX3_requireObtainableFrame_15 ⟨Nat.le_of_ble_eq_true rfl, Nat.le_of_ble_eq_true rfl⟩) hS (fun H locs hG hS => ?_)
    refine lv_iconst (v := (-1)) hx hb dX3_requireObtainableFrame_18 (by decide) ?_
    refine lv_icmp_ne (tgt := 42) hx hb dX3_requireObtainableFrame_19 (by decide) (fun c11 => ?_) (fun c11 => ?_)
    · have hf := it_neg c11 hf
      exact K42 _ hf _ _ _ hG hS (lv_sub hl [] rfl)
    · have hf := it_pos c11 hf
      refine lv_aload_n hx hb dX3_requireObtainableFrame_22 rfl (lv_at hl 0 rfl) ?_
      refine mw_getl hx hb hts hown hK hG inlX3 rfl (hG.fix (by decide)) rfl 4 (by decide) 8 rfl wA_25 dX3_requireObtainableFrame_23 ?_
      obtain ⟨r12, σ13, hc14, hf⟩ := bnd_some hf
      refine mc_i (mc_V (As := []) hC hK hA hX hG hS (kX2_freeCount l D cA A ad hc14) ykX2_freeCount wA_378 wA_379 wA_380 (hG.fix (by decide)) rfl rfl ⟨rfl, rfl, Nat.le_of_ble_eq_true rfl, Nat.le_of_ble_eq_true rfl⟩ rfl hl.1 rfl (Nat.le_of_ble_eq_true rfl) dX3_requireObtainableFrame_26 ⟨Nat.le_of_ble_eq_true rfl, Nat.le_of_ble_eq_true rfl⟩) hS (fun H locs hG hS => ?_)
      refine lv_if_ne (tgt := 42) hx hb dX3_requireObtainableFrame_29 (by decide) (fun c15 => ?_) (fun c15 => ?_)
      · have hf := it_neg c15 hf
        exact K42 _ hf _ _ _ hG hS (lv_sub hl [] rfl)
      · have hf := it_pos c15 hf
        exact mt_throw mtE_is (List.mem_of_getElem? (i := 17) rfl) hC hout hlt hX hG hS hlocks hl.1 hf (Nat.le_of_ble_eq_true rfl) (Nat.le_of_ble_eq_true rfl) (Nat.le_of_ble_eq_true rfl) (Nat.le_of_ble_eq_true rfl) (Nat.le_of_ble_eq_true rfl) (Nat.le_of_ble_eq_true rfl) dX3_requireObtainableFrame_32 dX3_requireObtainableFrame_35 dX3_requireObtainableFrame_36 dX3_requireObtainableFrame_38 dX3_requireObtainableFrame_41
def fX3_isOutsideWindow_26 (y0 : Int32) (σ : pw_S) : Option (Int32 × pw_S) := ck (isB (y0)) (some (y0, σ))
def fX3_isOutsideWindow (a1 : Int32) (σ : pw_S) : Option (Int32 × pw_S) := ck (inb (a1) (12)) ((if ((gi σ 0 10) - (gi σ 6 (Int32.toNatClampNeg (a1)))) ≤ (gi σ 0 9) then fX3_isOutsideWindow_26 0 σ else fX3_isOutsideWindow_26 1 σ))
set_option maxHeartbeats 4000000 in
set_option maxRecDepth 100000 in
theorem kX3_isOutsideWindow (l : Launch) (D : va_G) (cA : Nat → ClassId) (A : Nat → Prop) (ad : Nat → Nat) {σ σ' : pw_S} {r : Int32} {a1 : Int32} (hf : fX3_isOutsideWindow a1 σ = some (r, σ')) : Met l yX3_isOutsideWindow (wA yX3_isOutsideWindow cX3_isOutsideWindow 2 (some .boolean)) ({ frames := 0, cells := 0, slots := 0, locals := 0 }) (pw_Pc D cA shP 12 A ad σ [.ref (ad 0), .int (a1)]) (pw_Qi D cA shP 12 A ad r σ') 0 0 A := by
  refine mw_enter (own := RX3) (by decide) rfl (Nat.le_of_ble_eq_true rfl) ?_
  intro p e s m args below meth c ls hC hr hlocks hK hA hX hG hS hl
  obtain ⟨hx, hb, hml, hown, hts⟩ := id hC
  have K26 : ∀ (y0 : Int32) (σ : pw_S), fX3_isOutsideWindow_26 y0 σ = some (r, σ') → mw_K p l e ({ frames := 0, cells := 0, slots := 0, locals := 0 }) s m args below meth c (MQ below (pw_Qi D cA shP 12 A ad r σ') args s 0 0 A) A D cA shP 12 ad 2 26 0 0 [] [.int (y0)] σ := by
    intro y0 σ hf H locs ls hG hS hl
    unfold fX3_isOutsideWindow_26 at hf
    obtain ⟨h2, hf⟩ := ck_some hf
    exact mr_z hC hr hlocks hG hS (isB_or h2) hf (Nat.le_of_ble_eq_true rfl) (Nat.le_of_ble_eq_true rfl) dX3_isOutsideWindow_26
  have hl : lv_has ls 2 [(0, .ref (ad 0)), (1, .int (a1))] := hl
  unfold fX3_isOutsideWindow at hf
  refine lv_aload_n hx hb dX3_isOutsideWindow_0 rfl (lv_at hl 0 rfl) ?_
  refine mw_geti hx hb hts hown hK hG inlX3 rfl (hG.fix (by decide)) rfl 10 (by decide) rfl wA_32 dX3_isOutsideWindow_1 ?_
  refine lv_aload_n hx hb dX3_isOutsideWindow_4 rfl (lv_at hl 0 rfl) ?_
  refine mw_getl hx hb hts hown hK hG inlX3 rfl (hG.fix (by decide)) rfl 3 (by decide) 4 rfl wA_21 dX3_isOutsideWindow_5 ?_
  refine mw_getl hx hb hts hown hK hG inlX1 rfl (hG.fix (by decide)) rfl 1 (by decide) 6 rfl wA_401 dX3_isOutsideWindow_8 ?_
  refine lv_iload_n hx hb dX3_isOutsideWindow_11 rfl (lv_at hl 1 rfl) ?_
  obtain ⟨h3, hf⟩ := ck_some hf
  refine mw_iald hx hb hK hG (hG.fix (by decide)) rfl (inb_in h3) dX3_isOutsideWindow_12 ?_
  refine lv_isub hx hb dX3_isOutsideWindow_13 ?_
  refine lv_aload_n hx hb dX3_isOutsideWindow_14 rfl (lv_at hl 0 rfl) ?_
  refine mw_geti hx hb hts hown hK hG inlX3 rfl (hG.fix (by decide)) rfl 9 (by decide) rfl wA_31 dX3_isOutsideWindow_15 ?_
  refine lv_icmp_le (tgt := 25) hx hb dX3_isOutsideWindow_18 (by decide) (fun c4 => ?_) (fun c4 => ?_)
  · have hf := it_pos c4 hf
    refine lv_iconst (v := 0) hx hb dX3_isOutsideWindow_25 (by decide) ?_
    exact K26 _ _ hf _ _ _ hG hS (lv_sub hl [] rfl)
  · have hf := it_neg c4 hf
    refine lv_iconst (v := 1) hx hb dX3_isOutsideWindow_21 (by decide) ?_
    refine lv_goto (tgt := 26) hx hb dX3_isOutsideWindow_22 (by decide) ?_
    exact K26 _ _ hf _ _ _ hG hS (lv_sub hl [] rfl)
