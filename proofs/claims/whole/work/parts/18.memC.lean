/-! PagedMemory: the methods that make Contents (printed by wip/whole/gen) -/
noncomputable def fX3_map (a1 : Int32) (a2 : Int32) (σ : pw_S) : Option ((Int32 ⊕ String) × pw_S) := bnx (fX3_requirePage a1 a2 σ) (fun r2 σ3 => bnx (fX3_requireLive a1 σ3) (fun r9 σ10 => bnx (fX3_requireUnmapped a1 a2 σ10) (fun r16 σ17 => bnd (fX3_placeOf a1 a2 σ17) (fun r23 σ24 => ck (cnew σ24) (ld (gN σ24) (fun k28 => ld (newC σ24 ((-1))) (fun σ30 => bnd (fX3_refer r23 k28 σ30) (fun r37 σ38 => bnd (fX3_mappedPages a1 σ38) (fun r40 σ41 => some (.inl (r40), σ41))))))))))
set_option maxHeartbeats 4000000 in
set_option maxRecDepth 100000 in
theorem kX3_map (l : Launch) (D : va_G) (cA : Nat → ClassId) (A : Nat → Prop) (ad : Nat → Nat) (hlt : l.stackTraces = false) {σ σ' : pw_S} {r : (Int32 ⊕ String)} {a1 : Int32} {a2 : Int32} (hf : fX3_map a1 a2 σ = some (r, σ')) : vx_Met l yX3_map (wA yX3_map cX3_map 3 (some .int)) ({ frames := 8, cells := 6, slots := 35, locals := 125 }) (pw_Pc D cA shP 12 A ad σ [.ref (ad 0), .int (a1), .int (a2)]) (pa_Qi D cA shP 12 A ad 12 r σ') (px_X D cA shP 12 A ad r σ') 6 35 A := by
  refine mw_enterX (own := RX3) (by decide) rfl (Nat.le_of_ble_eq_true rfl) ?_
  intro p e s m args below meth c ls hC hr hlocks hout hK hA hX hG hS hl
  obtain ⟨hx, hb, hml, hown, hts⟩ := id hC
  have hl : lv_has ls 3 [(0, .ref (ad 0)), (1, .int (a1)), (2, .int (a2))] := hl
  unfold fX3_map at hf
  refine lv_aload_n hx hb dX3_map_0 rfl (lv_at hl 0 rfl) ?_
  refine lv_iload_n hx hb dX3_map_1 rfl (lv_at hl 1 rfl) ?_
  refine lv_iload_n hx hb dX3_map_2 rfl (lv_at hl 2 rfl) ?_
  obtain ⟨z5, σ3, hc4, hi6, hx7⟩ := bnx_some hf
  refine mx_v (mx_V (As := [.int (a1), .int (a2)]) hC hK hA hX hG hS (kX3_requirePage l D cA A ad hlt hc4) ykX3_requirePage wA_244 wA_245 wA_246 (hG.fix (by decide)) rfl rfl ⟨rfl, rfl, Nat.le_of_ble_eq_true rfl, Nat.le_of_ble_eq_true rfl⟩ rfl hl.1 rfl (Nat.le_of_ble_eq_true rfl) dX3_map_3 ⟨Nat.le_of_ble_eq_true rfl, Nat.le_of_ble_eq_true rfl⟩) hS hout hlocks (bnx_x hx7) (Nat.le_of_ble_eq_true rfl) (Nat.le_of_ble_eq_true rfl) (fun r2 he8 H locs hG hS => ?_)
  have hf := hi6 r2 he8
  clear hi6 hx7
  refine lv_aload_n hx hb dX3_map_6 rfl (lv_at hl 0 rfl) ?_
  refine lv_iload_n hx hb dX3_map_7 rfl (lv_at hl 1 rfl) ?_
  obtain ⟨z12, σ10, hc11, hi13, hx14⟩ := bnx_some hf
  refine mx_v (mx_V (As := [.int (a1)]) hC hK hA hX hG hS (kX3_requireLive l D cA A ad hlt hc11) ykX3_requireLive wA_156 wA_157 wA_158 (hG.fix (by decide)) rfl rfl ⟨rfl, rfl, Nat.le_of_ble_eq_true rfl, Nat.le_of_ble_eq_true rfl⟩ rfl hl.1 rfl (Nat.le_of_ble_eq_true rfl) dX3_map_8 ⟨Nat.le_of_ble_eq_true rfl, Nat.le_of_ble_eq_true rfl⟩) hS hout hlocks (bnx_x hx14) (Nat.le_of_ble_eq_true rfl) (Nat.le_of_ble_eq_true rfl) (fun r9 he15 H locs hG hS => ?_)
  have hf := hi13 r9 he15
  clear hi13 hx14
  refine lv_aload_n hx hb dX3_map_11 rfl (lv_at hl 0 rfl) ?_
  refine lv_iload_n hx hb dX3_map_12 rfl (lv_at hl 1 rfl) ?_
  refine lv_iload_n hx hb dX3_map_13 rfl (lv_at hl 2 rfl) ?_
  obtain ⟨z19, σ17, hc18, hi20, hx21⟩ := bnx_some hf
  refine mx_v (mx_V (As := [.int (a1), .int (a2)]) hC hK hA hX hG hS (kX3_requireUnmapped l D cA A ad hlt hc18) ykX3_requireUnmapped wA_248 wA_249 wA_250 (hG.fix (by decide)) rfl rfl ⟨rfl, rfl, Nat.le_of_ble_eq_true rfl, Nat.le_of_ble_eq_true rfl⟩ rfl hl.1 rfl (Nat.le_of_ble_eq_true rfl) dX3_map_14 ⟨Nat.le_of_ble_eq_true rfl, Nat.le_of_ble_eq_true rfl⟩) hS hout hlocks (bnx_x hx21) (Nat.le_of_ble_eq_true rfl) (Nat.le_of_ble_eq_true rfl) (fun r16 he22 H locs hG hS => ?_)
  have hf := hi20 r16 he22
  clear hi20 hx21
  refine lv_aload_n hx hb dX3_map_17 rfl (lv_at hl 0 rfl) ?_
  refine lv_iload_n hx hb dX3_map_18 rfl (lv_at hl 1 rfl) ?_
  refine lv_iload_n hx hb dX3_map_19 rfl (lv_at hl 2 rfl) ?_
  obtain ⟨r23, σ24, hc25, hf⟩ := bnd_some hf
  refine mc_i (mc_S (As := [.int (a1), .int (a2)]) hC hK hA hX hG hS (kX3_placeOf l D cA A ad hc25) ykX3_placeOf wA_162 wA_163 ⟨rfl, rfl, Nat.le_of_ble_eq_true rfl, Nat.le_of_ble_eq_true rfl⟩ rfl hl.1 rfl (Nat.le_of_ble_eq_true rfl) dX3_map_20 ⟨Nat.le_of_ble_eq_true rfl, Nat.le_of_ble_eq_true rfl⟩) hS (fun H locs hG hS => ?_)
  refine mw_newC hC hK hA hG hS (Nat.le_of_ble_eq_true rfl) (Nat.le_of_ble_eq_true rfl) dX3_map_23 (fun qB26 H hP hD hS => ?_)
  refine lv_dup hx hb dX3_map_26 rfl ?_
  refine lv_iconst (v := (-1)) hx hb dX3_map_27 (by decide) ?_
  obtain ⟨h27, hf⟩ := ck_some hf
  obtain ⟨k28, e29, hf⟩ := ld_some hf
  obtain ⟨σ30, e31, hf⟩ := ld_some hf
  refine mw_initC hC hK hA hP hD hS h27 hl.1 (Nat.le_of_ble_eq_true rfl) (Nat.le_of_ble_eq_true rfl) (Nat.le_of_ble_eq_true rfl) (Nat.le_of_ble_eq_true rfl) (Nat.le_of_ble_eq_true rfl) dX3_map_28 (fun ad32 H locs had33 haq34 hG hS => ?_)
  rw [← e31] at hG
  rw [← e29] at haq34
  have hag35 : ∀ k, k < 12 → ad32 k = ad k := fun k hk => (had33 k (Nat.lt_of_lt_of_le hk (cnew_of h27).1)).trans ((fun _ _ => rfl) k hk)
  refine W.eq (g2 := F0 m 31 ls [.ref (ad32 k28), .int (r23), .ref (ad32 0)]) (by rw [haq34, had33 0 (Nat.lt_of_lt_of_le (by decide) (cnew_of h27).1)]) ?_
  have hl : lv_has ls 3 [(0, .ref (ad32 0)), (1, .int (a1)), (2, .int (a2))] := by rw [had33 0 (Nat.lt_of_lt_of_le (by decide) (cnew_of h27).1)]; exact hl
  have h36 := okc_new h27 e29 e31
  clear e31 e29
  obtain ⟨r37, σ38, hc39, hf⟩ := bnd_some hf
  refine mc_v (mc_V (As := [.int (r23), .ref (ad32 k28)]) hC hK hA hX hG hS (kX3_refer l D cA A ad32 hc39) ykX3_refer wA_165 wA_166 wA_167 (hG.fix (by decide)) rfl rfl ⟨rfl, rfl, Nat.le_of_ble_eq_true rfl, Nat.le_of_ble_eq_true rfl⟩ rfl hl.1 rfl (Nat.le_of_ble_eq_true rfl) dX3_map_31 ⟨Nat.le_of_ble_eq_true rfl, Nat.le_of_ble_eq_true rfl⟩) hS (fun H locs hG hS => ?_)
  refine lv_aload_n hx hb dX3_map_34 rfl (lv_at hl 0 rfl) ?_
  refine lv_iload_n hx hb dX3_map_35 rfl (lv_at hl 1 rfl) ?_
  obtain ⟨r40, σ41, hc42, hf⟩ := bnd_some hf
  refine mc_i (mc_V (As := [.int (a1)]) hC hK hA hX hG hS (kX3_mappedPages l D cA A ad32 hc42) ykX3_mappedPages wA_263 wA_264 wA_265 (hG.fix (by decide)) rfl rfl ⟨rfl, rfl, Nat.le_of_ble_eq_true rfl, Nat.le_of_ble_eq_true rfl⟩ rfl hl.1 rfl (Nat.le_of_ble_eq_true rfl) dX3_map_36 ⟨Nat.le_of_ble_eq_true rfl, Nat.le_of_ble_eq_true rfl⟩) hS (fun H locs hG hS => ?_)
  exact mra_i hC hr hlocks hag35 hG hS hf (Nat.le_of_ble_eq_true rfl) (Nat.le_of_ble_eq_true rfl) dX3_map_39
noncomputable def fX3_createSegment_46_b (bk46 : Int32 → Int32 → Int32 → pw_S → Option ((Int32 ⊕ String) × pw_S)) (x1 : Int32) (x2 : Int32) (x3 : Int32) (σ : pw_S) : Option ((Int32 ⊕ String) × pw_S) := (if x1 ≤ x3 then ld (si σ 0 8 (((gi σ 0 8) + 1))) (fun σ7 => some (.inl (x2), σ7)) else ck (cnew σ) (ld (gN σ) (fun k11 => ld (newC σ (((x2 * 6) + x3))) (fun σ13 => ck (inb (((x2 * 6) + x3)) (24)) (ld (sr σ13 3 (Int32.toNatClampNeg (((x2 * 6) + x3))) (some k11)) (fun σ21 => bk46 x1 x2 (x3 + 1) σ21))))))
noncomputable def fX3_createSegment_46 : Nat → Int32 → Int32 → Int32 → pw_S → Option ((Int32 ⊕ String) × pw_S)
  | 0, _, _, _, _ => none
  | n + 1, x1, x2, x3, σ => fX3_createSegment_46_b (fX3_createSegment_46 n) x1 x2 x3 σ
noncomputable def fX3_createSegment_11 (σ : pw_S) : Option ((Int32 ⊕ String) × pw_S) := some (.inr pw_iaX, σ)
noncomputable def fX3_createSegment (a1 : Int32) (σ : pw_S) : Option ((Int32 ⊕ String) × pw_S) := (if a1 < 1 then fX3_createSegment_11 σ else (if a1 ≤ 6 then (if (gi σ 0 8) < 4 then fX3_createSegment_46 7 a1 ((gi σ 0 8)) 0 σ else some (.inr pw_isX, σ)) else fX3_createSegment_11 σ))
set_option maxHeartbeats 4000000 in
set_option maxRecDepth 100000 in
theorem kX3_createSegment (l : Launch) (D : va_G) (cA : Nat → ClassId) (A : Nat → Prop) (ad : Nat → Nat) (hlt : l.stackTraces = false) {σ σ' : pw_S} {r : (Int32 ⊕ String)} {a1 : Int32} (hf : fX3_createSegment a1 σ = some (r, σ')) : vx_Met l yX3_createSegment (wA yX3_createSegment cX3_createSegment 5 (some .int)) ({ frames := 6, cells := 14, slots := 77, locals := 82 }) (pw_Pc D cA shP 12 A ad σ [.ref (ad 0), .int (a1)]) (pa_Qi D cA shP 12 A ad 12 r σ') (px_X D cA shP 12 A ad r σ') 14 77 A := by
  refine mw_enterX (own := RX3) (by decide) rfl (Nat.le_of_ble_eq_true rfl) ?_
  intro p e s m args below meth c ls hC hr hlocks hout hK hA hX hG hS hl
  obtain ⟨hx, hb, hml, hown, hts⟩ := id hC
  have K46 : ∀ (n46 : Nat) (adK : Nat → Nat) (x1 : Int32) (x2 : Int32) (x3 : Int32) (σ : pw_S) (cells slots : Nat), (∀ k, k < 12 → adK k = ad k) → cells + 2 * n46 ≤ 14 → slots + 11 * n46 ≤ 77 → fX3_createSegment_46 n46 x1 x2 x3 σ = some (r, σ') → mw_K p l e ({ frames := 6, cells := 14, slots := 77, locals := 82 }) s m args below meth c (vx_MQ below (pa_Qi D cA shP 12 A ad 12 r σ') (px_X D cA shP 12 A ad r σ') args s 14 77 A) A D cA shP 12 adK 5 46 cells slots [(0, .ref (adK 0)), (1, .int (x1)), (2, .int (x2)), (3, .int (x3))] [] σ := by
    intro n46
    induction n46 with
    | zero => intro adK x1 x2 x3 σ cells slots hag hcl hsl hf; cases hf
    | succ n46 ih46 =>
      intro adK x1 x2 x3 σ cells slots hag hcl hsl hf H locs ls hG hS hl
      have hf : fX3_createSegment_46_b (fX3_createSegment_46 n46) x1 x2 x3 σ = some (r, σ') := hf
      unfold fX3_createSegment_46_b at hf
      refine lv_iload_n hx hb dX3_createSegment_46 rfl (lv_at hl 3 rfl) ?_
      refine lv_iload_n hx hb dX3_createSegment_47 rfl (lv_at hl 1 rfl) ?_
      refine lv_icmp_ge (tgt := 81) hx hb dX3_createSegment_48 (by decide) (fun c6 => ?_) (fun c6 => ?_)
      · have hf := it_pos c6 hf
        refine lv_aload_n hx hb dX3_createSegment_81 rfl (lv_at hl 0 rfl) ?_
        refine lv_dup hx hb dX3_createSegment_82 rfl ?_
        refine mw_geti hx hb hts hown hK hG inlX3 rfl (hG.fix (by decide)) rfl 8 (by decide) rfl wA_30 dX3_createSegment_83 ?_
        refine lv_iconst (v := 1) hx hb dX3_createSegment_86 (by decide) ?_
        refine lv_iadd hx hb dX3_createSegment_87 ?_
        refine mw_puti hx hb hts hown hK hG hS inlX3 tyX3 tyX3_ok nmX3 rfl (hG.fix (by decide)) rfl 8 (by decide) rfl rfl rfl rfl wA_30 dX3_createSegment_88 (fun H locs hG hS => ?_)
        obtain ⟨σ7, e8, hf⟩ := ld_some hf
        rw [← e8] at hG
        clear e8
        refine lv_iload_n hx hb dX3_createSegment_91 rfl (lv_at hl 2 rfl) ?_
        exact mra_i hC hr hlocks hag hG hS hf (by show _ ≤ _; omega) (by show _ ≤ _; omega) dX3_createSegment_92
      · have hf := it_neg c6 hf
        refine lv_iload_n hx hb dX3_createSegment_51 rfl (lv_at hl 2 rfl) ?_
        refine lv_bipush (v := 6) hx hb dX3_createSegment_52 (by decide) ?_
        refine lv_imul hx hb dX3_createSegment_54 ?_
        refine lv_iload_n hx hb dX3_createSegment_55 rfl (lv_at hl 3 rfl) ?_
        refine lv_iadd hx hb dX3_createSegment_56 ?_
        refine lv_istore (lv' := [(4, .int (((x2 * 6) + x3))), (0, .ref (adK 0)), (1, .int (x1)), (2, .int (x2)), (3, .int (x3))]) hx hb dX3_createSegment_57 hl (by decide) rfl (fun ls hl => ?_)
        refine lv_aload_n hx hb dX3_createSegment_59 rfl (lv_at hl 1 rfl) ?_
        refine mw_getl hx hb hts hown hK hG inlX3 rfl (hG.fix (by decide)) rfl 2 (by decide) 3 rfl wA_17 dX3_createSegment_60 ?_
        refine lv_iload hx hb dX3_createSegment_63 (lv_at hl 0 rfl) ?_
        refine mw_newC hC hK hA hG hS (by show _ ≤ 14; omega) (by show _ ≤ 77; omega) dX3_createSegment_65 (fun qB9 H hP hD hS => ?_)
        refine lv_dup hx hb dX3_createSegment_68 rfl ?_
        refine lv_iload hx hb dX3_createSegment_69 (lv_at hl 0 rfl) ?_
        obtain ⟨h10, hf⟩ := ck_some hf
        obtain ⟨k11, e12, hf⟩ := ld_some hf
        obtain ⟨σ13, e14, hf⟩ := ld_some hf
        refine mw_initC hC hK hA hP hD hS h10 hl.1 (Nat.le_of_ble_eq_true rfl) (Nat.le_of_ble_eq_true rfl) (by show _ ≤ 14; omega) (by show _ ≤ 77; omega) (Nat.le_of_ble_eq_true rfl) dX3_createSegment_71 (fun ad15 H locs had16 haq17 hG hS => ?_)
        rw [← e14] at hG
        rw [← e12] at haq17
        have hag18 : ∀ k, k < 12 → ad15 k = ad k := fun k hk => (had16 k (Nat.lt_of_lt_of_le hk (cnew_of h10).1)).trans (hag k hk)
        refine W.eq (g2 := F0 m 74 ls [.ref (ad15 k11), .int (((x2 * 6) + x3)), .ref (ad15 3)]) (by rw [haq17, had16 3 (Nat.lt_of_lt_of_le (by decide) (cnew_of h10).1)]) ?_
        have hl : lv_has ls 5 [(4, .int (((x2 * 6) + x3))), (0, .ref (ad15 0)), (1, .int (x1)), (2, .int (x2)), (3, .int (x3))] := by rw [had16 0 (Nat.lt_of_lt_of_le (by decide) (cnew_of h10).1)]; exact hl
        have h19 := okc_new h10 e12 e14
        clear e14 e12
        obtain ⟨h20, hf⟩ := ck_some hf
        refine mw_aast hx hb hK hG hS (hG.fix (by decide)) rfl (okc_lt h19) (shP_c h19) (inb_in h20) dX3_createSegment_74 (fun H locs hG hS => ?_)
        obtain ⟨σ21, e22, hf⟩ := ld_some hf
        rw [← e22] at hG
        have h19 := okc_sr e22 h19
        clear e22
        refine lv_iinc (v := x3 + 1) (lv' := [(3, .int (x3 + 1)), (4, .int (((x2 * 6) + x3))), (0, .ref (ad15 0)), (1, .int (x1)), (2, .int (x2))]) hx hb dX3_createSegment_75 hl (k := 4) rfl rfl (by decide) rfl (fun ls hl => ?_)
        refine lv_goto (tgt := 46) hx hb dX3_createSegment_78 (by decide) ?_
        exact ih46 ad15 _ _ _ _ _ _ hag18 (by omega) (by omega) hf _ _ _ hG hS (lv_sub hl [2, 3, 4, 0] rfl)
  have K11 : ∀ (σ : pw_S), fX3_createSegment_11  σ = some (r, σ') → mw_K p l e ({ frames := 6, cells := 14, slots := 77, locals := 82 }) s m args below meth c (vx_MQ below (pa_Qi D cA shP 12 A ad 12 r σ') (px_X D cA shP 12 A ad r σ') args s 14 77 A) A D cA shP 12 ad 5 11 0 0 [] [] σ := by
    intro  σ hf H locs ls hG hS hl
    unfold fX3_createSegment_11 at hf
    exact mt_throw mtE_ia (List.mem_of_getElem? (i := 3) rfl) hC hout hlt hX hG hS hlocks hl.1 hf (Nat.le_of_ble_eq_true rfl) (Nat.le_of_ble_eq_true rfl) (Nat.le_of_ble_eq_true rfl) (Nat.le_of_ble_eq_true rfl) (Nat.le_of_ble_eq_true rfl) (Nat.le_of_ble_eq_true rfl) dX3_createSegment_11 dX3_createSegment_14 dX3_createSegment_15 dX3_createSegment_17 dX3_createSegment_20
  have hl : lv_has ls 5 [(0, .ref (ad 0)), (1, .int (a1))] := hl
  unfold fX3_createSegment at hf
  refine lv_iload_n hx hb dX3_createSegment_0 rfl (lv_at hl 1 rfl) ?_
  refine lv_iconst (v := 1) hx hb dX3_createSegment_1 (by decide) ?_
  refine lv_icmp_lt (tgt := 11) hx hb dX3_createSegment_2 (by decide) (fun c23 => ?_) (fun c23 => ?_)
  · have hf := it_pos c23 hf
    exact K11 _ hf _ _ _ hG hS (lv_sub hl [] rfl)
  · have hf := it_neg c23 hf
    refine lv_iload_n hx hb dX3_createSegment_5 rfl (lv_at hl 1 rfl) ?_
    refine lv_bipush (v := 6) hx hb dX3_createSegment_6 (by decide) ?_
    refine lv_icmp_le (tgt := 21) hx hb dX3_createSegment_8 (by decide) (fun c24 => ?_) (fun c24 => ?_)
    · have hf := it_pos c24 hf
      refine lv_aload_n hx hb dX3_createSegment_21 rfl (lv_at hl 0 rfl) ?_
      refine mw_geti hx hb hts hown hK hG inlX3 rfl (hG.fix (by decide)) rfl 8 (by decide) rfl wA_30 dX3_createSegment_22 ?_
      refine lv_iconst (v := 4) hx hb dX3_createSegment_25 (by decide) ?_
      refine lv_icmp_lt (tgt := 39) hx hb dX3_createSegment_26 (by decide) (fun c25 => ?_) (fun c25 => ?_)
      · have hf := it_pos c25 hf
        refine lv_aload_n hx hb dX3_createSegment_39 rfl (lv_at hl 0 rfl) ?_
        refine mw_geti hx hb hts hown hK hG inlX3 rfl (hG.fix (by decide)) rfl 8 (by decide) rfl wA_30 dX3_createSegment_40 ?_
        refine lv_istore_n (lv' := [(2, .int ((gi σ 0 8))), (0, .ref (ad 0)), (1, .int (a1))]) hx hb dX3_createSegment_43 rfl hl (by decide) rfl (fun ls hl => ?_)
        refine lv_iconst (v := 0) hx hb dX3_createSegment_44 (by decide) ?_
        refine lv_istore_n (lv' := [(3, .int (0)), (2, .int ((gi σ 0 8))), (0, .ref (ad 0)), (1, .int (a1))]) hx hb dX3_createSegment_45 rfl hl (by decide) rfl (fun ls hl => ?_)
        exact K46 7 ad _ _ _ _ _ _ (fun _ _ => rfl) (by omega) (by omega) hf _ _ _ hG hS (lv_sub hl [2, 3, 1, 0] rfl)
      · have hf := it_neg c25 hf
        exact mt_throw mtE_is (List.mem_of_getElem? (i := 4) rfl) hC hout hlt hX hG hS hlocks hl.1 hf (Nat.le_of_ble_eq_true rfl) (Nat.le_of_ble_eq_true rfl) (Nat.le_of_ble_eq_true rfl) (Nat.le_of_ble_eq_true rfl) (Nat.le_of_ble_eq_true rfl) (Nat.le_of_ble_eq_true rfl) dX3_createSegment_29 dX3_createSegment_32 dX3_createSegment_33 dX3_createSegment_35 dX3_createSegment_38
    · have hf := it_neg c24 hf
      exact K11 _ hf _ _ _ hG hS (lv_sub hl [] rfl)
noncomputable def fX3_copyForPage (a1 : Int32) (a2 : Nat) (σ : pw_S) : Option (Nat × pw_S) := ck (okc σ a2) (ck (cnew σ) (ld (gN σ) (fun k5 => ld (newC σ ((-1))) (fun σ7 => ld (cpW σ7 a2 k5) (fun σ14 => bnd (fX3_giveFrame k5 2 σ14) (fun r16 σ17 => bnd (fX3_dropReference a1 σ17) (fun r19 σ20 => bnd (fX3_refer a1 k5 σ20) (fun r22 σ23 => some (k5, σ23)))))))))
set_option maxHeartbeats 4000000 in
set_option maxRecDepth 100000 in
theorem kX3_copyForPage (l : Launch) (D : va_G) (cA : Nat → ClassId) (A : Nat → Prop) (ad : Nat → Nat) {σ σ' : pw_S} {r : Nat} {a1 : Int32} {a2 : Nat} (hf : fX3_copyForPage a1 a2 σ = some (r, σ')) : Met l yX3_copyForPage (wA yX3_copyForPage cX3_copyForPage 4 (some (.object "PagedMemory$Content"))) ({ frames := 5, cells := 2, slots := 11, locals := 119 }) (pw_Pc D cA shP 12 A ad σ [.ref (ad 0), .int (a1), .ref (ad a2)]) (pa_Qk D cA shP 12 A ad 12 r σ') 2 11 A := by
  refine mw_enter (own := RX3) (by decide) rfl (Nat.le_of_ble_eq_true rfl) ?_
  intro p e s m args below meth c ls hC hr hlocks hK hA hX hG hS hl
  obtain ⟨hx, hb, hml, hown, hts⟩ := id hC
  have hl : lv_has ls 4 [(0, .ref (ad 0)), (1, .int (a1)), (2, .ref (ad a2))] := hl
  unfold fX3_copyForPage at hf
  obtain ⟨h2, hf⟩ := ck_some hf
  refine mw_newC hC hK hA hG hS (Nat.le_of_ble_eq_true rfl) (Nat.le_of_ble_eq_true rfl) dX3_copyForPage_0 (fun qB3 H hP hD hS => ?_)
  refine lv_dup hx hb dX3_copyForPage_3 rfl ?_
  refine lv_iconst (v := (-1)) hx hb dX3_copyForPage_4 (by decide) ?_
  obtain ⟨h4, hf⟩ := ck_some hf
  obtain ⟨k5, e6, hf⟩ := ld_some hf
  obtain ⟨σ7, e8, hf⟩ := ld_some hf
  refine mw_initC hC hK hA hP hD hS h4 hl.1 (Nat.le_of_ble_eq_true rfl) (Nat.le_of_ble_eq_true rfl) (Nat.le_of_ble_eq_true rfl) (Nat.le_of_ble_eq_true rfl) (Nat.le_of_ble_eq_true rfl) dX3_copyForPage_5 (fun ad9 H locs had10 haq11 hG hS => ?_)
  rw [← e8] at hG
  rw [← e6] at haq11
  have hag12 : ∀ k, k < 12 → ad9 k = ad k := fun k hk => (had10 k (Nat.lt_of_lt_of_le hk (cnew_of h4).1)).trans ((fun _ _ => rfl) k hk)
  refine W.eq (g2 := F0 m 8 ls [.ref (ad9 k5)]) (by rw [haq11]) ?_
  have hl : lv_has ls 4 [(0, .ref (ad9 0)), (1, .int (a1)), (2, .ref (ad9 a2))] := by rw [had10 0 (Nat.lt_of_lt_of_le (by decide) (cnew_of h4).1), had10 a2 (okc_lt h2)]; exact hl
  have h2 := okc_nc e8 h2
  have h13 := okc_new h4 e6 e8
  clear e8 e6
  refine lv_astore_n (lv' := [(3, .ref (ad9 k5)), (0, .ref (ad9 0)), (1, .int (a1)), (2, .ref (ad9 a2))]) hx hb dX3_copyForPage_8 rfl hl (by decide) rfl (fun ls hl => ?_)
  refine lv_aload_n hx hb dX3_copyForPage_9 rfl (lv_at hl 3 rfl) ?_
  refine mw_getl hx hb hts hown hK hG inlX0 rfl (okc_lt h2) (shP_c h2) 0 (by decide) (a2 + 1) rfl wA_360 dX3_copyForPage_10 ?_
  refine lv_iconst (v := 0) hx hb dX3_copyForPage_13 (by decide) ?_
  refine lv_aload_n hx hb dX3_copyForPage_14 rfl (lv_at hl 0 rfl) ?_
  refine mw_getl hx hb hts hown hK hG inlX0 rfl (okc_lt h13) (shP_c h13) 0 (by decide) (k5 + 1) rfl wA_360 dX3_copyForPage_15 ?_
  refine lv_iconst (v := 0) hx hb dX3_copyForPage_18 (by decide) ?_
  refine lv_iconst (v := 4) hx hb dX3_copyForPage_19 (by decide) ?_
  obtain ⟨σ14, e15, hf⟩ := ld_some hf
  refine mw_copyW hC hK hG hS h2 h13 hl.1 (Nat.le_of_ble_eq_true rfl) (Nat.le_of_ble_eq_true rfl) dX3_copyForPage_20 (fun H locs hG hS => ?_)
  rw [← e15] at hG
  have h2 := okc_cp e15 h2
  have h13 := okc_cp e15 h13
  clear e15
  refine lv_aload_n hx hb dX3_copyForPage_23 rfl (lv_at hl 1 rfl) ?_
  refine lv_aload_n hx hb dX3_copyForPage_24 rfl (lv_at hl 0 rfl) ?_
  refine lv_iconst (v := 2) hx hb dX3_copyForPage_25 (by decide) ?_
  obtain ⟨r16, σ17, hc18, hf⟩ := bnd_some hf
  refine mc_v (mc_V (As := [.ref (ad9 k5), .int (2)]) hC hK hA hX hG hS (kX3_giveFrame l D cA A ad9 hc18) ykX3_giveFrame wA_387 wA_388 wA_389 (hG.fix (by decide)) rfl rfl ⟨rfl, rfl, Nat.le_of_ble_eq_true rfl, Nat.le_of_ble_eq_true rfl⟩ rfl hl.1 rfl (Nat.le_of_ble_eq_true rfl) dX3_copyForPage_26 ⟨Nat.le_of_ble_eq_true rfl, Nat.le_of_ble_eq_true rfl⟩) hS (fun H locs hG hS => ?_)
  refine lv_aload_n hx hb dX3_copyForPage_29 rfl (lv_at hl 1 rfl) ?_
  refine lv_iload_n hx hb dX3_copyForPage_30 rfl (lv_at hl 2 rfl) ?_
  obtain ⟨r19, σ20, hc21, hf⟩ := bnd_some hf
  refine mc_i (mc_V (As := [.int (a1)]) hC hK hA hX hG hS (kX3_dropReference l D cA A ad9 hc21) ykX3_dropReference wA_186 wA_187 wA_188 (hG.fix (by decide)) rfl rfl ⟨rfl, rfl, Nat.le_of_ble_eq_true rfl, Nat.le_of_ble_eq_true rfl⟩ rfl hl.1 rfl (Nat.le_of_ble_eq_true rfl) dX3_copyForPage_31 ⟨Nat.le_of_ble_eq_true rfl, Nat.le_of_ble_eq_true rfl⟩) hS (fun H locs hG hS => ?_)
  refine lv_pop hx hb dX3_copyForPage_34 rfl ?_
  refine lv_aload_n hx hb dX3_copyForPage_35 rfl (lv_at hl 1 rfl) ?_
  refine lv_iload_n hx hb dX3_copyForPage_36 rfl (lv_at hl 2 rfl) ?_
  refine lv_aload_n hx hb dX3_copyForPage_37 rfl (lv_at hl 0 rfl) ?_
  obtain ⟨r22, σ23, hc24, hf⟩ := bnd_some hf
  refine mc_v (mc_V (As := [.int (a1), .ref (ad9 k5)]) hC hK hA hX hG hS (kX3_refer l D cA A ad9 hc24) ykX3_refer wA_165 wA_166 wA_167 (hG.fix (by decide)) rfl rfl ⟨rfl, rfl, Nat.le_of_ble_eq_true rfl, Nat.le_of_ble_eq_true rfl⟩ rfl hl.1 rfl (Nat.le_of_ble_eq_true rfl) dX3_copyForPage_38 ⟨Nat.le_of_ble_eq_true rfl, Nat.le_of_ble_eq_true rfl⟩) hS (fun H locs hG hS => ?_)
  refine lv_aload_n hx hb dX3_copyForPage_41 rfl (lv_at hl 0 rfl) ?_
  exact mra_k hC hr hlocks hag12 hG hS hf (Nat.le_of_ble_eq_true rfl) (Nat.le_of_ble_eq_true rfl) dX3_copyForPage_42
noncomputable def fX3_write_86 (x2 : Int32) (x3 : Int32) (x4 : Nat) (σ : pw_S) : Option ((Int32 ⊕ String) × pw_S) := ck (okc σ x4) (ck (inb ((x2 - x2 / 4 * 4)) (4)) (ck (inb ((x2 - x2 / 4 * 4)) (4)) (ld (si σ (x4 + 1) (Int32.toNatClampNeg ((x2 - x2 / 4 * 4))) (x3)) (fun σ10 => bnd (fX2_vacateSlotOf x4 σ10) (fun r12 σ13 => ck (okc σ13 x4) (ld (si σ13 x4 5 (1)) (fun σ16 => bnd (fX1_use ((gi σ16 x4 3)) ((gi σ16 0 10)) σ16) (fun r18 σ19 => some (.inl ((gi σ (x4 + 1) (Int32.toNatClampNeg ((x2 - x2 / 4 * 4))))), σ19)))))))))
noncomputable def fX3_write_50 (x1 : Int32) (x2 : Int32) (x3 : Int32) (x4 : Nat) (x5 : Int32) (σ : pw_S) : Option ((Int32 ⊕ String) × pw_S) := ld (si σ 0 10 (((gi σ 0 10) + 1))) (fun σ21 => bnd (fX3_bringIn x4 σ21) (fun r23 σ24 => (if x5 = 0 then fX3_write_86 x2 x3 x4 σ24 else bnd (fX3_placeOf x1 ((x2 / 4)) σ24) (fun r27 σ28 => bnd (fX3_copyForPage r27 x4 σ28) (fun r30 σ31 => fX3_write_86 x2 x3 r30 σ31)))))
noncomputable def fX3_write_46 (x1 : Int32) (x2 : Int32) (x3 : Int32) (x4 : Nat) (x5 : Int32) (σ : pw_S) : Option ((Int32 ⊕ String) × pw_S) := bnx (fX3_requireObtainableFrame σ) (fun r36 σ37 => fX3_write_50 x1 x2 x3 x4 x5 σ37)
noncomputable def fX3_write_30 (x1 : Int32) (x2 : Int32) (x3 : Int32) (x4 : Nat) (y0 : Int32) (σ : pw_S) : Option ((Int32 ⊕ String) × pw_S) := (if y0 = 0 then ck (okc σ x4) ((if (gi σ x4 3) = (-1) then fX3_write_46 x1 x2 x3 x4 y0 σ else fX3_write_50 x1 x2 x3 x4 y0 σ)) else fX3_write_46 x1 x2 x3 x4 y0 σ)
noncomputable def fX3_write_29 (x1 : Int32) (x2 : Int32) (x3 : Int32) (x4 : Nat) (σ : pw_S) : Option ((Int32 ⊕ String) × pw_S) := fX3_write_30 x1 x2 x3 x4 0 σ
noncomputable def fX3_write (a1 : Int32) (a2 : Int32) (a3 : Int32) (σ : pw_S) : Option ((Int32 ⊕ String) × pw_S) := bnx (fX3_requireAddressed a1 a2 σ) (fun r46 σ47 => ck (okc σ47 r46) ((if (gi σ47 r46 1) = 0 then (if (gi σ47 r46 6) ≤ 1 then fX3_write_29 a1 a2 a3 r46 σ47 else fX3_write_30 a1 a2 a3 r46 1 σ47) else fX3_write_29 a1 a2 a3 r46 σ47)))
set_option maxHeartbeats 4000000 in
set_option maxRecDepth 100000 in
theorem kX3_write (l : Launch) (D : va_G) (cA : Nat → ClassId) (A : Nat → Prop) (ad : Nat → Nat) (hlt : l.stackTraces = false) {σ σ' : pw_S} {r : (Int32 ⊕ String)} {a1 : Int32} {a2 : Int32} {a3 : Int32} (hf : fX3_write a1 a2 a3 σ = some (r, σ')) : vx_Met l yX3_write (wA yX3_write cX3_write 7 (some .int)) ({ frames := 8, cells := 6, slots := 35, locals := 142 }) (pw_Pc D cA shP 12 A ad σ [.ref (ad 0), .int (a1), .int (a2), .int (a3)]) (pa_Qi D cA shP 12 A ad 12 r σ') (px_X D cA shP 12 A ad r σ') 6 35 A := by
  refine mw_enterX (own := RX3) (by decide) rfl (Nat.le_of_ble_eq_true rfl) ?_
  intro p e s m args below meth c ls hC hr hlocks hout hK hA hX hG hS hl
  obtain ⟨hx, hb, hml, hown, hts⟩ := id hC
  have K86 : ∀ (adK : Nat → Nat) (x2 : Int32) (x3 : Int32) (x4 : Nat) (σ : pw_S), (∀ k, k < 12 → adK k = ad k) → fX3_write_86 x2 x3 x4 σ = some (r, σ') → mw_K p l e ({ frames := 8, cells := 6, slots := 35, locals := 142 }) s m args below meth c (vx_MQ below (pa_Qi D cA shP 12 A ad 12 r σ') (px_X D cA shP 12 A ad r σ') args s 6 35 A) A D cA shP 12 adK 7 86 6 35 [(0, .ref (adK 0)), (2, .int (x2)), (3, .int (x3)), (4, .ref (adK x4))] [] σ := by
    intro adK x2 x3 x4 σ hag hf H locs ls hG hS hl
    unfold fX3_write_86 at hf
    refine lv_aload hx hb dX3_write_86 (lv_at hl 3 rfl) ?_
    obtain ⟨h7, hf⟩ := ck_some hf
    refine mw_getl hx hb hts hown hK hG inlX0 rfl (okc_lt h7) (shP_c h7) 0 (by decide) (x4 + 1) rfl wA_360 dX3_write_88 ?_
    refine lv_iload_n hx hb dX3_write_91 rfl (lv_at hl 1 rfl) ?_
    refine lv_iconst (v := 4) hx hb dX3_write_92 (by decide) ?_
    refine lv_irem hx hb dX3_write_93 (by decide) ?_
    obtain ⟨h8, hf⟩ := ck_some hf
    refine mw_iald hx hb hK hG (okc_lw h7) (shP_w h7) (inb_in h8) dX3_write_94 ?_
    refine lv_istore (lv' := [(6, .int ((gi σ (x4 + 1) (Int32.toNatClampNeg ((x2 - x2 / 4 * 4)))))), (0, .ref (adK 0)), (2, .int (x2)), (3, .int (x3)), (4, .ref (adK x4))]) hx hb dX3_write_95 hl (by decide) rfl (fun ls hl => ?_)
    refine lv_aload hx hb dX3_write_97 (lv_at hl 4 rfl) ?_
    refine mw_getl hx hb hts hown hK hG inlX0 rfl (okc_lt h7) (shP_c h7) 0 (by decide) (x4 + 1) rfl wA_360 dX3_write_99 ?_
    refine lv_iload_n hx hb dX3_write_102 rfl (lv_at hl 2 rfl) ?_
    refine lv_iconst (v := 4) hx hb dX3_write_103 (by decide) ?_
    refine lv_irem hx hb dX3_write_104 (by decide) ?_
    refine lv_iload_n hx hb dX3_write_105 rfl (lv_at hl 3 rfl) ?_
    obtain ⟨h9, hf⟩ := ck_some hf
    refine mw_iast hx hb hK hG hS (okc_lw h7) (shP_w h7) (inb_in h9) dX3_write_106 (fun H locs hG hS => ?_)
    obtain ⟨σ10, e11, hf⟩ := ld_some hf
    rw [← e11] at hG
    have h7 := okc_si e11 h7
    clear e11
    refine lv_aload_n hx hb dX3_write_107 rfl (lv_at hl 1 rfl) ?_
    refine mw_getl hx hb hts hown hK hG inlX3 rfl (hG.fix (by decide)) rfl 4 (by decide) 8 rfl wA_25 dX3_write_108 ?_
    refine lv_aload hx hb dX3_write_111 (lv_at hl 4 rfl) ?_
    obtain ⟨r12, σ13, hc14, hf⟩ := bnd_some hf
    refine mc_v (mc_V (As := [.ref (adK x4)]) hC hK hA hX hG hS (kX2_vacateSlotOf l D cA A adK hc14) ykX2_vacateSlotOf wA_197 wA_198 wA_199 (hG.fix (by decide)) rfl rfl ⟨rfl, rfl, Nat.le_of_ble_eq_true rfl, Nat.le_of_ble_eq_true rfl⟩ rfl hl.1 rfl (Nat.le_of_ble_eq_true rfl) dX3_write_113 ⟨Nat.le_of_ble_eq_true rfl, Nat.le_of_ble_eq_true rfl⟩) hS (fun H locs hG hS => ?_)
    refine lv_aload hx hb dX3_write_116 (lv_at hl 4 rfl) ?_
    refine lv_iconst (v := 1) hx hb dX3_write_118 (by decide) ?_
    obtain ⟨h15, hf⟩ := ck_some hf
    refine mw_puti hx hb hts hown hK hG hS inlX0 tyX0 tyX0_ok nmX0 rfl (okc_lt h15) (shP_c h15) 5 (by decide) rfl rfl rfl rfl wA_402 dX3_write_119 (fun H locs hG hS => ?_)
    obtain ⟨σ16, e17, hf⟩ := ld_some hf
    rw [← e17] at hG
    have h15 := okc_si e17 h15
    clear e17
    refine lv_aload_n hx hb dX3_write_122 rfl (lv_at hl 1 rfl) ?_
    refine mw_getl hx hb hts hown hK hG inlX3 rfl (hG.fix (by decide)) rfl 3 (by decide) 4 rfl wA_21 dX3_write_123 ?_
    refine lv_aload hx hb dX3_write_126 (lv_at hl 4 rfl) ?_
    refine mw_geti hx hb hts hown hK hG inlX0 rfl (okc_lt h15) (shP_c h15) 3 (by decide) rfl wA_191 dX3_write_128 ?_
    refine lv_aload_n hx hb dX3_write_131 rfl (lv_at hl 1 rfl) ?_
    refine mw_geti hx hb hts hown hK hG inlX3 rfl (hG.fix (by decide)) rfl 10 (by decide) rfl wA_32 dX3_write_132 ?_
    obtain ⟨r18, σ19, hc20, hf⟩ := bnd_some hf
    refine mc_v (mc_V (As := [.int ((gi σ16 x4 3)), .int ((gi σ16 0 10))]) hC hK hA hX hG hS (kX1_use l D cA A adK hc20) ykX1_use wA_446 wA_447 wA_448 (hG.fix (by decide)) rfl rfl ⟨rfl, rfl, Nat.le_of_ble_eq_true rfl, Nat.le_of_ble_eq_true rfl⟩ rfl hl.1 rfl (Nat.le_of_ble_eq_true rfl) dX3_write_135 ⟨Nat.le_of_ble_eq_true rfl, Nat.le_of_ble_eq_true rfl⟩) hS (fun H locs hG hS => ?_)
    refine lv_iload hx hb dX3_write_138 (lv_at hl 0 rfl) ?_
    exact mra_i hC hr hlocks hag hG hS hf (Nat.le_of_ble_eq_true rfl) (Nat.le_of_ble_eq_true rfl) dX3_write_140
  have K50 : ∀ (x1 : Int32) (x2 : Int32) (x3 : Int32) (x4 : Nat) (x5 : Int32) (σ : pw_S), fX3_write_50 x1 x2 x3 x4 x5 σ = some (r, σ') → mw_K p l e ({ frames := 8, cells := 6, slots := 35, locals := 142 }) s m args below meth c (vx_MQ below (pa_Qi D cA shP 12 A ad 12 r σ') (px_X D cA shP 12 A ad r σ') args s 6 35 A) A D cA shP 12 ad 7 50 4 24 [(0, .ref (ad 0)), (1, .int (x1)), (2, .int (x2)), (3, .int (x3)), (4, .ref (ad x4)), (5, .int (x5))] [] σ := by
    intro x1 x2 x3 x4 x5 σ hf H locs ls hG hS hl
    unfold fX3_write_50 at hf
    refine lv_aload_n hx hb dX3_write_50 rfl (lv_at hl 0 rfl) ?_
    refine lv_dup hx hb dX3_write_51 rfl ?_
    refine mw_geti hx hb hts hown hK hG inlX3 rfl (hG.fix (by decide)) rfl 10 (by decide) rfl wA_32 dX3_write_52 ?_
    refine lv_iconst (v := 1) hx hb dX3_write_55 (by decide) ?_
    refine lv_iadd hx hb dX3_write_56 ?_
    refine mw_puti hx hb hts hown hK hG hS inlX3 tyX3 tyX3_ok nmX3 rfl (hG.fix (by decide)) rfl 10 (by decide) rfl rfl rfl rfl wA_32 dX3_write_57 (fun H locs hG hS => ?_)
    obtain ⟨σ21, e22, hf⟩ := ld_some hf
    rw [← e22] at hG
    clear e22
    refine lv_aload_n hx hb dX3_write_60 rfl (lv_at hl 0 rfl) ?_
    refine lv_aload hx hb dX3_write_61 (lv_at hl 4 rfl) ?_
    obtain ⟨r23, σ24, hc25, hf⟩ := bnd_some hf
    refine mc_v (mc_V (As := [.ref (ad x4)]) hC hK hA hX hG hS (kX3_bringIn l D cA A ad hc25) ykX3_bringIn wA_382 wA_383 wA_384 (hG.fix (by decide)) rfl rfl ⟨rfl, rfl, Nat.le_of_ble_eq_true rfl, Nat.le_of_ble_eq_true rfl⟩ rfl hl.1 rfl (Nat.le_of_ble_eq_true rfl) dX3_write_63 ⟨Nat.le_of_ble_eq_true rfl, Nat.le_of_ble_eq_true rfl⟩) hS (fun H locs hG hS => ?_)
    refine lv_iload hx hb dX3_write_66 (lv_at hl 5 rfl) ?_
    refine lv_if_eq (tgt := 86) hx hb dX3_write_68 (by decide) (fun c26 => ?_) (fun c26 => ?_)
    · have hf := it_pos c26 hf
      refine W.widen (k := 6) (n := 35) (Nat.le_of_ble_eq_true rfl) (Nat.le_of_ble_eq_true rfl) ?_
      exact K86 ad _ _ _ _ (fun _ _ => rfl) hf _ _ _ hG hS (lv_sub hl [0, 2, 3, 4] rfl)
    · have hf := it_neg c26 hf
      refine lv_aload_n hx hb dX3_write_71 rfl (lv_at hl 0 rfl) ?_
      refine lv_iload_n hx hb dX3_write_72 rfl (lv_at hl 1 rfl) ?_
      refine lv_iload_n hx hb dX3_write_73 rfl (lv_at hl 2 rfl) ?_
      refine lv_iconst (v := 4) hx hb dX3_write_74 (by decide) ?_
      refine lv_idiv hx hb dX3_write_75 (by decide) ?_
      obtain ⟨r27, σ28, hc29, hf⟩ := bnd_some hf
      refine mc_i (mc_S (As := [.int (x1), .int ((x2 / 4))]) hC hK hA hX hG hS (kX3_placeOf l D cA A ad hc29) ykX3_placeOf wA_162 wA_163 ⟨rfl, rfl, Nat.le_of_ble_eq_true rfl, Nat.le_of_ble_eq_true rfl⟩ rfl hl.1 rfl (Nat.le_of_ble_eq_true rfl) dX3_write_76 ⟨Nat.le_of_ble_eq_true rfl, Nat.le_of_ble_eq_true rfl⟩) hS (fun H locs hG hS => ?_)
      refine lv_aload hx hb dX3_write_79 (lv_at hl 4 rfl) ?_
      obtain ⟨r30, σ31, hc32, hf⟩ := bnd_some hf
      refine mc_ka (mc_V (As := [.int (r27), .ref (ad x4)]) hC hK hA hX hG hS (kX3_copyForPage l D cA A ad hc32) ykX3_copyForPage wA_514 wA_515 wA_516 (hG.fix (by decide)) rfl rfl ⟨rfl, rfl, Nat.le_of_ble_eq_true rfl, Nat.le_of_ble_eq_true rfl⟩ rfl hl.1 rfl (Nat.le_of_ble_eq_true rfl) dX3_write_81 ⟨Nat.le_of_ble_eq_true rfl, Nat.le_of_ble_eq_true rfl⟩) hS (fun ad33 H locs had34 hG hS => ?_)
      have hag35 : ∀ k, k < 12 → ad33 k = ad k := fun k hk => (had34 k hk).trans ((fun _ _ => rfl) k hk)
      have hl := lv_sub hl [0, 1, 2, 3, 5] rfl
      have hl : lv_has ls 7 [(0, .ref (ad 0)), (1, .int (x1)), (2, .int (x2)), (3, .int (x3)), (5, .int (x5))] := hl
      have hl : lv_has ls 7 [(0, .ref (ad33 0)), (1, .int (x1)), (2, .int (x2)), (3, .int (x3)), (5, .int (x5))] := by rw [had34 0 (by decide)]; exact hl
      refine lv_astore (lv' := [(4, .ref (ad33 r30)), (0, .ref (ad33 0)), (1, .int (x1)), (2, .int (x2)), (3, .int (x3)), (5, .int (x5))]) hx hb dX3_write_84 hl (by decide) rfl (fun ls hl => ?_)
      exact K86 ad33 _ _ _ _ hag35 hf _ _ _ hG hS (lv_sub hl [1, 3, 4, 0] rfl)
  have K46 : ∀ (x1 : Int32) (x2 : Int32) (x3 : Int32) (x4 : Nat) (x5 : Int32) (σ : pw_S), fX3_write_46 x1 x2 x3 x4 x5 σ = some (r, σ') → mw_K p l e ({ frames := 8, cells := 6, slots := 35, locals := 142 }) s m args below meth c (vx_MQ below (pa_Qi D cA shP 12 A ad 12 r σ') (px_X D cA shP 12 A ad r σ') args s 6 35 A) A D cA shP 12 ad 7 46 3 18 [(0, .ref (ad 0)), (1, .int (x1)), (2, .int (x2)), (3, .int (x3)), (4, .ref (ad x4)), (5, .int (x5))] [] σ := by
    intro x1 x2 x3 x4 x5 σ hf H locs ls hG hS hl
    unfold fX3_write_46 at hf
    refine lv_aload_n hx hb dX3_write_46 rfl (lv_at hl 0 rfl) ?_
    obtain ⟨z39, σ37, hc38, hi40, hx41⟩ := bnx_some hf
    refine mx_v (mx_V (As := []) hC hK hA hX hG hS (kX3_requireObtainableFrame l D cA A ad hlt hc38) ykX3_requireObtainableFrame wA_365 wA_366 wA_367 (hG.fix (by decide)) rfl rfl ⟨rfl, rfl, Nat.le_of_ble_eq_true rfl, Nat.le_of_ble_eq_true rfl⟩ rfl hl.1 rfl (Nat.le_of_ble_eq_true rfl) dX3_write_47 ⟨Nat.le_of_ble_eq_true rfl, Nat.le_of_ble_eq_true rfl⟩) hS hout hlocks (bnx_x hx41) (Nat.le_of_ble_eq_true rfl) (Nat.le_of_ble_eq_true rfl) (fun r36 he42 H locs hG hS => ?_)
    have hf := hi40 r36 he42
    clear hi40 hx41
    exact K50 _ _ _ _ _ _ hf _ _ _ hG hS (lv_sub hl [0, 1, 2, 3, 4, 5] rfl)
  have K30 : ∀ (x1 : Int32) (x2 : Int32) (x3 : Int32) (x4 : Nat) (y0 : Int32) (σ : pw_S), fX3_write_30 x1 x2 x3 x4 y0 σ = some (r, σ') → mw_K p l e ({ frames := 8, cells := 6, slots := 35, locals := 142 }) s m args below meth c (vx_MQ below (pa_Qi D cA shP 12 A ad 12 r σ') (px_X D cA shP 12 A ad r σ') args s 6 35 A) A D cA shP 12 ad 7 30 3 18 [(0, .ref (ad 0)), (1, .int (x1)), (2, .int (x2)), (3, .int (x3)), (4, .ref (ad x4))] [.int (y0)] σ := by
    intro x1 x2 x3 x4 y0 σ hf H locs ls hG hS hl
    unfold fX3_write_30 at hf
    refine lv_istore (lv' := [(5, .int (y0)), (0, .ref (ad 0)), (1, .int (x1)), (2, .int (x2)), (3, .int (x3)), (4, .ref (ad x4))]) hx hb dX3_write_30 hl (by decide) rfl (fun ls hl => ?_)
    refine lv_iload hx hb dX3_write_32 (lv_at hl 0 rfl) ?_
    refine lv_if_ne (tgt := 46) hx hb dX3_write_34 (by decide) (fun c43 => ?_) (fun c43 => ?_)
    · have hf := it_neg c43 hf
      exact K46 _ _ _ _ _ _ hf _ _ _ hG hS (lv_sub hl [1, 2, 3, 4, 5, 0] rfl)
    · have hf := it_pos c43 hf
      refine lv_aload hx hb dX3_write_37 (lv_at hl 5 rfl) ?_
      obtain ⟨h44, hf⟩ := ck_some hf
      refine mw_geti hx hb hts hown hK hG inlX0 rfl (okc_lt h44) (shP_c h44) 3 (by decide) rfl wA_191 dX3_write_39 ?_
      refine lv_iconst (v := (-1)) hx hb dX3_write_42 (by decide) ?_
      refine lv_icmp_ne (tgt := 50) hx hb dX3_write_43 (by decide) (fun c45 => ?_) (fun c45 => ?_)
      · have hf := it_neg c45 hf
        refine W.widen (k := 4) (n := 24) (Nat.le_of_ble_eq_true rfl) (Nat.le_of_ble_eq_true rfl) ?_
        exact K50 _ _ _ _ _ _ hf _ _ _ hG hS (lv_sub hl [1, 2, 3, 4, 5, 0] rfl)
      · have hf := it_pos c45 hf
        exact K46 _ _ _ _ _ _ hf _ _ _ hG hS (lv_sub hl [1, 2, 3, 4, 5, 0] rfl)
  have K29 : ∀ (x1 : Int32) (x2 : Int32) (x3 : Int32) (x4 : Nat) (σ : pw_S), fX3_write_29 x1 x2 x3 x4 σ = some (r, σ') → mw_K p l e ({ frames := 8, cells := 6, slots := 35, locals := 142 }) s m args below meth c (vx_MQ below (pa_Qi D cA shP 12 A ad 12 r σ') (px_X D cA shP 12 A ad r σ') args s 6 35 A) A D cA shP 12 ad 7 29 3 18 [(0, .ref (ad 0)), (1, .int (x1)), (2, .int (x2)), (3, .int (x3)), (4, .ref (ad x4))] [] σ := by
    intro x1 x2 x3 x4 σ hf H locs ls hG hS hl
    unfold fX3_write_29 at hf
    refine lv_iconst (v := 0) hx hb dX3_write_29 (by decide) ?_
    exact K30 _ _ _ _ _ _ hf _ _ _ hG hS (lv_sub hl [0, 1, 2, 3, 4] rfl)
  have hl : lv_has ls 7 [(0, .ref (ad 0)), (1, .int (a1)), (2, .int (a2)), (3, .int (a3))] := hl
  unfold fX3_write at hf
  refine lv_aload_n hx hb dX3_write_0 rfl (lv_at hl 0 rfl) ?_
  refine lv_iload_n hx hb dX3_write_1 rfl (lv_at hl 1 rfl) ?_
  refine lv_iload_n hx hb dX3_write_2 rfl (lv_at hl 2 rfl) ?_
  obtain ⟨z49, σ47, hc48, hi50, hx51⟩ := bnx_some hf
  refine mx_k (mx_V (As := [.int (a1), .int (a2)]) hC hK hA hX hG hS (kX3_requireAddressed l D cA A ad hlt hc48) ykX3_requireAddressed wA_361 wA_362 wA_363 (hG.fix (by decide)) rfl rfl ⟨rfl, rfl, Nat.le_of_ble_eq_true rfl, Nat.le_of_ble_eq_true rfl⟩ rfl hl.1 rfl (Nat.le_of_ble_eq_true rfl) dX3_write_3 ⟨Nat.le_of_ble_eq_true rfl, Nat.le_of_ble_eq_true rfl⟩) hS hout hlocks (bnx_x hx51) (Nat.le_of_ble_eq_true rfl) (Nat.le_of_ble_eq_true rfl) (fun r46 he52 H locs hG hS => ?_)
  have hf := hi50 r46 he52
  clear hi50 hx51
  refine lv_astore (lv' := [(4, .ref (ad r46)), (0, .ref (ad 0)), (1, .int (a1)), (2, .int (a2)), (3, .int (a3))]) hx hb dX3_write_6 hl (by decide) rfl (fun ls hl => ?_)
  refine lv_aload hx hb dX3_write_8 (lv_at hl 0 rfl) ?_
  obtain ⟨h53, hf⟩ := ck_some hf
  refine mw_geti hx hb hts hown hK hG inlX0 rfl (okc_lt h53) (shP_c h53) 1 (by decide) rfl wA_190 dX3_write_10 ?_
  refine lv_if_ne (tgt := 29) hx hb dX3_write_13 (by decide) (fun c54 => ?_) (fun c54 => ?_)
  · have hf := it_neg c54 hf
    exact K29 _ _ _ _ _ hf _ _ _ hG hS (lv_sub hl [1, 2, 3, 4, 0] rfl)
  · have hf := it_pos c54 hf
    refine lv_aload hx hb dX3_write_16 (lv_at hl 0 rfl) ?_
    refine mw_geti hx hb hts hown hK hG inlX0 rfl (okc_lt h53) (shP_c h53) 6 (by decide) rfl wA_169 dX3_write_18 ?_
    refine lv_iconst (v := 1) hx hb dX3_write_21 (by decide) ?_
    refine lv_icmp_le (tgt := 29) hx hb dX3_write_22 (by decide) (fun c55 => ?_) (fun c55 => ?_)
    · have hf := it_pos c55 hf
      exact K29 _ _ _ _ _ hf _ _ _ hG hS (lv_sub hl [1, 2, 3, 4, 0] rfl)
    · have hf := it_neg c55 hf
      refine lv_iconst (v := 1) hx hb dX3_write_25 (by decide) ?_
      refine lv_goto (tgt := 30) hx hb dX3_write_26 (by decide) ?_
      exact K30 _ _ _ _ _ _ hf _ _ _ hG hS (lv_sub hl [1, 2, 3, 4, 0] rfl)
