/-! PagedMemory: pure functions and contracts, second half (printed by wip/whole/gen) -/
def fX3_firstPageOf_2_b (bk2 : Nat → Int32 → pw_S → Option (Int32 × pw_S)) (x1 : Nat) (x2 : Int32) (σ : pw_S) : Option (Int32 × pw_S) := (if (nI 160) ≤ x2 then some ((nI 160), σ) else ck (inb (x2) (160)) (ld (gr σ 1 (Int32.toNatClampNeg (x2))) (fun o5 => ck (okc σ x1) (ck (okO σ o5) ((if o5 = some x1 then some (x2, σ) else bk2 x1 (x2 + 1) σ))))))
def fX3_firstPageOf_2 : Nat → Nat → Int32 → pw_S → Option (Int32 × pw_S)
  | 0, _, _, _ => none
  | n + 1, x1, x2, σ => fX3_firstPageOf_2_b (fX3_firstPageOf_2 n) x1 x2 σ
def fX3_firstPageOf (a1 : Nat) (σ : pw_S) : Option (Int32 × pw_S) := fX3_firstPageOf_2 1000 a1 0 σ
set_option maxHeartbeats 4000000 in
set_option maxRecDepth 100000 in
theorem kX3_firstPageOf (l : Launch) (D : va_G) (cA : Nat → ClassId) (A : Nat → Prop) (ad : Nat → Nat) {σ σ' : pw_S} {r : Int32} {a1 : Nat} (hf : fX3_firstPageOf a1 σ = some (r, σ')) : Met l yX3_firstPageOf (wA yX3_firstPageOf cX3_firstPageOf 3 (some .int)) ({ frames := 0, cells := 0, slots := 0, locals := 0 }) (pw_Pc D cA shP 12 A ad σ [.ref (ad 0), .ref (ad a1)]) (pw_Qi D cA shP 12 A ad r σ') 0 0 A := by
  refine mw_enter (own := RX3) (by decide) rfl (Nat.le_of_ble_eq_true rfl) ?_
  intro p e s m args below meth c ls hC hr hlocks hK hA hX hG hS hl
  obtain ⟨hx, hb, hml, hown, hts⟩ := id hC
  have K2 : ∀ (n2 : Nat) (x1 : Nat) (x2 : Int32) (σ : pw_S), fX3_firstPageOf_2 n2 x1 x2 σ = some (r, σ') → mw_K p l e ({ frames := 0, cells := 0, slots := 0, locals := 0 }) s m args below meth c (MQ below (pw_Qi D cA shP 12 A ad r σ') args s 0 0 A) A D cA shP 12 ad 3 2 0 0 [(0, .ref (ad 0)), (1, .ref (ad x1)), (2, .int (x2))] [] σ := by
    intro n2
    induction n2 with
    | zero => intro x1 x2 σ hf; cases hf
    | succ n2 ih2 =>
      intro x1 x2 σ hf H locs ls hG hS hl
      have hf : fX3_firstPageOf_2_b (fX3_firstPageOf_2 n2) x1 x2 σ = some (r, σ') := hf
      unfold fX3_firstPageOf_2_b at hf
      refine lv_iload_n hx hb dX3_firstPageOf_2 rfl (lv_at hl 2 rfl) ?_
      refine lv_aload_n hx hb dX3_firstPageOf_3 rfl (lv_at hl 0 rfl) ?_
      refine mw_getl hx hb hts hown hK hG inlX3 rfl (hG.fix (by decide)) rfl 0 (by decide) 1 rfl wA_14 dX3_firstPageOf_4 ?_
      refine mw_alen hx hb hK hG (hG.fix (by decide)) rfl (by decide) dX3_firstPageOf_7 ?_
      refine lv_icmp_ge (tgt := 29) hx hb dX3_firstPageOf_8 (by decide) (fun c3 => ?_) (fun c3 => ?_)
      · have hf := it_pos c3 hf
        refine lv_aload_n hx hb dX3_firstPageOf_29 rfl (lv_at hl 0 rfl) ?_
        refine mw_getl hx hb hts hown hK hG inlX3 rfl (hG.fix (by decide)) rfl 0 (by decide) 1 rfl wA_14 dX3_firstPageOf_30 ?_
        refine mw_alen hx hb hK hG (hG.fix (by decide)) rfl (by decide) dX3_firstPageOf_33 ?_
        exact mr_i hC hr hlocks hG hS hf (Nat.le_of_ble_eq_true rfl) (Nat.le_of_ble_eq_true rfl) dX3_firstPageOf_34
      · have hf := it_neg c3 hf
        refine lv_aload_n hx hb dX3_firstPageOf_11 rfl (lv_at hl 0 rfl) ?_
        refine mw_getl hx hb hts hown hK hG inlX3 rfl (hG.fix (by decide)) rfl 0 (by decide) 1 rfl wA_14 dX3_firstPageOf_12 ?_
        refine lv_iload_n hx hb dX3_firstPageOf_15 rfl (lv_at hl 2 rfl) ?_
        obtain ⟨h4, hf⟩ := ck_some hf
        obtain ⟨o5, e6, hf⟩ := ld_some hf
        refine mw_aald hx hb hK hG (hG.fix (by decide)) rfl (inb_in h4) dX3_firstPageOf_16 ?_
        rw [← e6]
        clear e6
        refine lv_aload_n hx hb dX3_firstPageOf_17 rfl (lv_at hl 1 rfl) ?_
        obtain ⟨h7, hf⟩ := ck_some hf
        obtain ⟨h8, hf⟩ := ck_some hf
        refine mq_acmp_ne (tgt := 23) hx hb hG (okO_lt h8) (okc_lt h7) dX3_firstPageOf_18 (by decide) (fun c9 => ?_) (fun c9 => ?_)
        · have hf := it_neg c9 hf
          refine lv_iinc (v := x2 + 1) (lv' := [(2, .int (x2 + 1)), (0, .ref (ad 0)), (1, .ref (ad x1))]) hx hb dX3_firstPageOf_23 hl (k := 2) rfl rfl (by decide) rfl (fun ls hl => ?_)
          refine lv_goto (tgt := 2) hx hb dX3_firstPageOf_26 (by decide) ?_
          exact ih2 _ _ _ hf _ _ _ hG hS (lv_sub hl [1, 2, 0] rfl)
        · have hf := it_pos c9 hf
          refine lv_iload_n hx hb dX3_firstPageOf_21 rfl (lv_at hl 2 rfl) ?_
          exact mr_i hC hr hlocks hG hS hf (Nat.le_of_ble_eq_true rfl) (Nat.le_of_ble_eq_true rfl) dX3_firstPageOf_22
  have hl : lv_has ls 3 [(0, .ref (ad 0)), (1, .ref (ad a1))] := hl
  unfold fX3_firstPageOf at hf
  refine lv_iconst (v := 0) hx hb dX3_firstPageOf_0 (by decide) ?_
  refine lv_istore_n (lv' := [(2, .int (0)), (0, .ref (ad 0)), (1, .ref (ad a1))]) hx hb dX3_firstPageOf_1 rfl hl (by decide) rfl (fun ls hl => ?_)
  exact K2 1000 _ _ _ hf _ _ _ hG hS (lv_sub hl [1, 2, 0] rfl)
def fX3_gatherCluster_136 (x5 : Int32) (σ : pw_S) : Option (Int32 × pw_S) := some (x5, σ)
def fX3_gatherCluster_64_b (bk64 : Nat → Nat → Int32 → Int32 → Int32 → pw_S → Option (Int32 × pw_S)) (x1 : Nat) (x3 : Nat) (x4 : Int32) (x5 : Int32) (x6 : Int32) (σ : pw_S) : Option (Int32 × pw_S) := (if x4 ≤ x6 then fX3_gatherCluster_136 x5 σ else ck (kar x3) ((if (nI (shP x3).2.2.1) ≤ x6 then fX3_gatherCluster_136 x5 σ else ck (kar x3) (ck (inb (x6) ((shP x3).2.2.1)) (ld (gr σ x3 (Int32.toNatClampNeg (x6))) (fun o16 => (if x5 = 4 then fX3_gatherCluster_136 x5 σ else oc o16 (fX3_gatherCluster_136 x5 σ) (fun q19 => ck (okc σ q19) (ck (okc σ x1) ((if (gi σ q19 1) = (gi σ x1 1) then (if (gi σ q19 5) = 0 then fX3_gatherCluster_136 x5 σ else ck (inb (x5) (4)) (ld (sr σ 10 (Int32.toNatClampNeg (x5)) (some q19)) (fun σ26 => bk64 x1 x3 x4 (x5 + 1) (x6 + 1) σ26))) else fX3_gatherCluster_136 x5 σ)))))))))))
def fX3_gatherCluster_64 : Nat → Nat → Nat → Int32 → Int32 → Int32 → pw_S → Option (Int32 × pw_S)
  | 0, _, _, _, _, _, _ => none
  | n + 1, x1, x3, x4, x5, x6, σ => fX3_gatherCluster_64_b (fX3_gatherCluster_64 n) x1 x3 x4 x5 x6 σ
def fX3_gatherCluster_47 (x1 : Nat) (x2 : Int32) (x3 : Nat) (y0 : Int32) (σ : pw_S) : Option (Int32 × pw_S) := ck (okc σ x1) (ck (inb (0) (4)) (ld (sr σ 10 (Int32.toNatClampNeg (0)) (some x1)) (fun σ30 => fX3_gatherCluster_64 1000 x1 x3 y0 1 ((x2 + 1)) σ30)))
def fX3_gatherCluster_18 (x1 : Nat) (x2 : Int32) (y0 : Nat) (σ : pw_S) : Option (Int32 × pw_S) := ck (okc σ x1) ((if (gi σ x1 1) = 0 then fX3_gatherCluster_47 x1 x2 y0 ((((x2 / 16) + 1) * 16)) σ else fX3_gatherCluster_47 x1 x2 y0 ((((x2 / 6) + 1) * 6)) σ))
def fX3_gatherCluster (a1 : Nat) (a2 : Int32) (σ : pw_S) : Option (Int32 × pw_S) := ck (okc σ a1) ((if (gi σ a1 1) = 0 then fX3_gatherCluster_18 a1 a2 1 σ else fX3_gatherCluster_18 a1 a2 3 σ))
set_option maxHeartbeats 4000000 in
set_option maxRecDepth 100000 in
theorem kX3_gatherCluster (l : Launch) (D : va_G) (cA : Nat → ClassId) (A : Nat → Prop) (ad : Nat → Nat) {σ σ' : pw_S} {r : Int32} {a1 : Nat} {a2 : Int32} (hf : fX3_gatherCluster a1 a2 σ = some (r, σ')) : Met l yX3_gatherCluster (wA yX3_gatherCluster cX3_gatherCluster 8 (some .int)) ({ frames := 0, cells := 0, slots := 0, locals := 0 }) (pw_Pc D cA shP 12 A ad σ [.ref (ad 0), .ref (ad a1), .int (a2)]) (pw_Qi D cA shP 12 A ad r σ') 0 0 A := by
  refine mw_enter (own := RX3) (by decide) rfl (Nat.le_of_ble_eq_true rfl) ?_
  intro p e s m args below meth c ls hC hr hlocks hK hA hX hG hS hl
  obtain ⟨hx, hb, hml, hown, hts⟩ := id hC
  have K136 : ∀ (x5 : Int32) (σ : pw_S), fX3_gatherCluster_136 x5 σ = some (r, σ') → mw_K p l e ({ frames := 0, cells := 0, slots := 0, locals := 0 }) s m args below meth c (MQ below (pw_Qi D cA shP 12 A ad r σ') args s 0 0 A) A D cA shP 12 ad 8 136 0 0 [(5, .int (x5))] [] σ := by
    intro x5 σ hf H locs ls hG hS hl
    unfold fX3_gatherCluster_136 at hf
    refine lv_iload hx hb dX3_gatherCluster_136 (lv_at hl 0 rfl) ?_
    exact mr_i hC hr hlocks hG hS hf (Nat.le_of_ble_eq_true rfl) (Nat.le_of_ble_eq_true rfl) dX3_gatherCluster_138
  have K64 : ∀ (n64 : Nat) (x1 : Nat) (x3 : Nat) (x4 : Int32) (x5 : Int32) (x6 : Int32) (σ : pw_S), fX3_gatherCluster_64 n64 x1 x3 x4 x5 x6 σ = some (r, σ') → mw_K p l e ({ frames := 0, cells := 0, slots := 0, locals := 0 }) s m args below meth c (MQ below (pw_Qi D cA shP 12 A ad r σ') args s 0 0 A) A D cA shP 12 ad 8 64 0 0 [(0, .ref (ad 0)), (1, .ref (ad x1)), (3, .ref (ad x3)), (4, .int (x4)), (5, .int (x5)), (6, .int (x6))] [] σ := by
    intro n64
    induction n64 with
    | zero => intro x1 x3 x4 x5 x6 σ hf; cases hf
    | succ n64 ih64 =>
      intro x1 x3 x4 x5 x6 σ hf H locs ls hG hS hl
      have hf : fX3_gatherCluster_64_b (fX3_gatherCluster_64 n64) x1 x3 x4 x5 x6 σ = some (r, σ') := hf
      unfold fX3_gatherCluster_64_b at hf
      refine lv_iload hx hb dX3_gatherCluster_64 (lv_at hl 5 rfl) ?_
      refine lv_iload hx hb dX3_gatherCluster_66 (lv_at hl 3 rfl) ?_
      refine lv_icmp_ge (tgt := 136) hx hb dX3_gatherCluster_68 (by decide) (fun c11 => ?_) (fun c11 => ?_)
      · have hf := it_pos c11 hf
        exact K136 _ _ hf _ _ _ hG hS (lv_sub hl [4] rfl)
      · have hf := it_neg c11 hf
        refine lv_iload hx hb dX3_gatherCluster_71 (lv_at hl 5 rfl) ?_
        refine lv_aload_n hx hb dX3_gatherCluster_73 rfl (lv_at hl 2 rfl) ?_
        obtain ⟨h12, hf⟩ := ck_some hf
        refine mw_alen hx hb hK hG (hG.fix (kar_lt h12)) (kar_sh h12) (by decide) dX3_gatherCluster_74 ?_
        refine lv_icmp_ge (tgt := 136) hx hb dX3_gatherCluster_75 (by decide) (fun c13 => ?_) (fun c13 => ?_)
        · have hf := it_pos c13 hf
          exact K136 _ _ hf _ _ _ hG hS (lv_sub hl [4] rfl)
        · have hf := it_neg c13 hf
          refine lv_aload_n hx hb dX3_gatherCluster_78 rfl (lv_at hl 2 rfl) ?_
          refine lv_iload hx hb dX3_gatherCluster_79 (lv_at hl 5 rfl) ?_
          obtain ⟨h14, hf⟩ := ck_some hf
          obtain ⟨h15, hf⟩ := ck_some hf
          obtain ⟨o16, e17, hf⟩ := ld_some hf
          refine mw_aald hx hb hK hG (hG.fix (kar_lt h14)) (kar_sh h14) (inb_in h15) dX3_gatherCluster_81 ?_
          rw [← e17]
          clear e17
          refine mq_astore (lv' := [(7, va_rf (Option.map ad o16)), (0, .ref (ad 0)), (1, .ref (ad x1)), (3, .ref (ad x3)), (4, .int (x4)), (5, .int (x5)), (6, .int (x6))]) hx hb dX3_gatherCluster_82 hl (by decide) rfl (fun ls hl => ?_)
          refine lv_iload hx hb dX3_gatherCluster_84 (lv_at hl 5 rfl) ?_
          refine lv_iconst (v := 4) hx hb dX3_gatherCluster_86 (by decide) ?_
          refine lv_icmp_eq (tgt := 136) hx hb dX3_gatherCluster_87 (by decide) (fun c18 => ?_) (fun c18 => ?_)
          · have hf := it_pos c18 hf
            exact K136 _ _ hf _ _ _ hG hS (lv_sub hl [5] rfl)
          · have hf := it_neg c18 hf
            refine mq_aload hx hb dX3_gatherCluster_90 (lv_at hl 0 rfl) ?_
            refine mq_ifnull (tgt := 136) hx hb dX3_gatherCluster_92 (by decide) (fun c20 => ?_) (fun q19 c20 => ?_)
            · subst c20
              have hl : lv_has ls 8 [(7, .null), (0, .ref (ad 0)), (1, .ref (ad x1)), (3, .ref (ad x3)), (4, .int (x4)), (5, .int (x5)), (6, .int (x6))] := hl
              have hf := oc_none hf
              exact K136 _ _ hf _ _ _ hG hS (lv_sub hl [5] rfl)
            · subst c20
              have hl : lv_has ls 8 [(7, .ref (ad q19)), (0, .ref (ad 0)), (1, .ref (ad x1)), (3, .ref (ad x3)), (4, .int (x4)), (5, .int (x5)), (6, .int (x6))] := hl
              have hf := oc_some hf
              refine lv_aload hx hb dX3_gatherCluster_95 (lv_at hl 0 rfl) ?_
              obtain ⟨h21, hf⟩ := ck_some hf
              refine mw_geti hx hb hts hown hK hG inlX0 rfl (okc_lt h21) (shP_c h21) 1 (by decide) rfl wA_190 dX3_gatherCluster_97 ?_
              refine lv_aload_n hx hb dX3_gatherCluster_100 rfl (lv_at hl 2 rfl) ?_
              obtain ⟨h22, hf⟩ := ck_some hf
              refine mw_geti hx hb hts hown hK hG inlX0 rfl (okc_lt h22) (shP_c h22) 1 (by decide) rfl wA_190 dX3_gatherCluster_101 ?_
              refine lv_icmp_ne (tgt := 136) hx hb dX3_gatherCluster_104 (by decide) (fun c23 => ?_) (fun c23 => ?_)
              · have hf := it_neg c23 hf
                exact K136 _ _ hf _ _ _ hG hS (lv_sub hl [5] rfl)
              · have hf := it_pos c23 hf
                refine lv_aload hx hb dX3_gatherCluster_107 (lv_at hl 0 rfl) ?_
                refine mw_geti hx hb hts hown hK hG inlX0 rfl (okc_lt h21) (shP_c h21) 5 (by decide) rfl wA_402 dX3_gatherCluster_109 ?_
                refine lv_if_ne (tgt := 118) hx hb dX3_gatherCluster_112 (by decide) (fun c24 => ?_) (fun c24 => ?_)
                · have hf := it_neg c24 hf
                  refine lv_aload_n hx hb dX3_gatherCluster_118 rfl (lv_at hl 1 rfl) ?_
                  refine mw_getl hx hb hts hown hK hG inlX3 rfl (hG.fix (by decide)) rfl 5 (by decide) 10 rfl wA_26 dX3_gatherCluster_119 ?_
                  refine lv_iload hx hb dX3_gatherCluster_122 (lv_at hl 5 rfl) ?_
                  refine lv_aload hx hb dX3_gatherCluster_124 (lv_at hl 0 rfl) ?_
                  obtain ⟨h25, hf⟩ := ck_some hf
                  refine mw_aast hx hb hK hG hS (hG.fix (by decide)) rfl (okc_lt h21) (shP_c h21) (inb_in h25) dX3_gatherCluster_126 (fun H locs hG hS => ?_)
                  obtain ⟨σ26, e27, hf⟩ := ld_some hf
                  rw [← e27] at hG
                  have h21 := okc_sr e27 h21
                  have h22 := okc_sr e27 h22
                  clear e27
                  refine lv_iinc (v := x5 + 1) (lv' := [(5, .int (x5 + 1)), (7, .ref (ad q19)), (0, .ref (ad 0)), (1, .ref (ad x1)), (3, .ref (ad x3)), (4, .int (x4)), (6, .int (x6))]) hx hb dX3_gatherCluster_127 hl (k := 5) rfl rfl (by decide) rfl (fun ls hl => ?_)
                  refine lv_iinc (v := x6 + 1) (lv' := [(6, .int (x6 + 1)), (5, .int (x5 + 1)), (7, .ref (ad q19)), (0, .ref (ad 0)), (1, .ref (ad x1)), (3, .ref (ad x3)), (4, .int (x4))]) hx hb dX3_gatherCluster_130 hl (k := 6) rfl rfl (by decide) rfl (fun ls hl => ?_)
                  refine lv_goto (tgt := 64) hx hb dX3_gatherCluster_133 (by decide) ?_
                  exact ih64 _ _ _ _ _ _ hf _ _ _ hG hS (lv_sub hl [3, 4, 5, 6, 1, 0] rfl)
                · have hf := it_pos c24 hf
                  refine lv_goto (tgt := 136) hx hb dX3_gatherCluster_115 (by decide) ?_
                  exact K136 _ _ hf _ _ _ hG hS (lv_sub hl [5] rfl)
  have K47 : ∀ (x1 : Nat) (x2 : Int32) (x3 : Nat) (y0 : Int32) (σ : pw_S), fX3_gatherCluster_47 x1 x2 x3 y0 σ = some (r, σ') → mw_K p l e ({ frames := 0, cells := 0, slots := 0, locals := 0 }) s m args below meth c (MQ below (pw_Qi D cA shP 12 A ad r σ') args s 0 0 A) A D cA shP 12 ad 8 47 0 0 [(0, .ref (ad 0)), (1, .ref (ad x1)), (2, .int (x2)), (3, .ref (ad x3))] [.int (y0)] σ := by
    intro x1 x2 x3 y0 σ hf H locs ls hG hS hl
    unfold fX3_gatherCluster_47 at hf
    refine lv_istore (lv' := [(4, .int (y0)), (0, .ref (ad 0)), (1, .ref (ad x1)), (2, .int (x2)), (3, .ref (ad x3))]) hx hb dX3_gatherCluster_47 hl (by decide) rfl (fun ls hl => ?_)
    refine lv_aload_n hx hb dX3_gatherCluster_49 rfl (lv_at hl 1 rfl) ?_
    refine mw_getl hx hb hts hown hK hG inlX3 rfl (hG.fix (by decide)) rfl 5 (by decide) 10 rfl wA_26 dX3_gatherCluster_50 ?_
    refine lv_iconst (v := 0) hx hb dX3_gatherCluster_53 (by decide) ?_
    refine lv_aload_n hx hb dX3_gatherCluster_54 rfl (lv_at hl 2 rfl) ?_
    obtain ⟨h28, hf⟩ := ck_some hf
    obtain ⟨h29, hf⟩ := ck_some hf
    refine mw_aast hx hb hK hG hS (hG.fix (by decide)) rfl (okc_lt h28) (shP_c h28) (inb_in h29) dX3_gatherCluster_55 (fun H locs hG hS => ?_)
    obtain ⟨σ30, e31, hf⟩ := ld_some hf
    rw [← e31] at hG
    have h28 := okc_sr e31 h28
    clear e31
    refine lv_iconst (v := 1) hx hb dX3_gatherCluster_56 (by decide) ?_
    refine lv_istore (lv' := [(5, .int (1)), (4, .int (y0)), (0, .ref (ad 0)), (1, .ref (ad x1)), (2, .int (x2)), (3, .ref (ad x3))]) hx hb dX3_gatherCluster_57 hl (by decide) rfl (fun ls hl => ?_)
    refine lv_iload_n hx hb dX3_gatherCluster_59 rfl (lv_at hl 4 rfl) ?_
    refine lv_iconst (v := 1) hx hb dX3_gatherCluster_60 (by decide) ?_
    refine lv_iadd hx hb dX3_gatherCluster_61 ?_
    refine lv_istore (lv' := [(6, .int ((x2 + 1))), (5, .int (1)), (4, .int (y0)), (0, .ref (ad 0)), (1, .ref (ad x1)), (2, .int (x2)), (3, .ref (ad x3))]) hx hb dX3_gatherCluster_62 hl (by decide) rfl (fun ls hl => ?_)
    exact K64 1000 _ _ _ _ _ _ hf _ _ _ hG hS (lv_sub hl [3, 4, 6, 2, 1, 0] rfl)
  have K18 : ∀ (x1 : Nat) (x2 : Int32) (y0 : Nat) (σ : pw_S), fX3_gatherCluster_18 x1 x2 y0 σ = some (r, σ') → mw_K p l e ({ frames := 0, cells := 0, slots := 0, locals := 0 }) s m args below meth c (MQ below (pw_Qi D cA shP 12 A ad r σ') args s 0 0 A) A D cA shP 12 ad 8 18 0 0 [(0, .ref (ad 0)), (1, .ref (ad x1)), (2, .int (x2))] [.ref (ad y0)] σ := by
    intro x1 x2 y0 σ hf H locs ls hG hS hl
    unfold fX3_gatherCluster_18 at hf
    refine lv_astore_n (lv' := [(3, .ref (ad y0)), (0, .ref (ad 0)), (1, .ref (ad x1)), (2, .int (x2))]) hx hb dX3_gatherCluster_18 rfl hl (by decide) rfl (fun ls hl => ?_)
    refine lv_aload_n hx hb dX3_gatherCluster_19 rfl (lv_at hl 2 rfl) ?_
    obtain ⟨h32, hf⟩ := ck_some hf
    refine mw_geti hx hb hts hown hK hG inlX0 rfl (okc_lt h32) (shP_c h32) 1 (by decide) rfl wA_190 dX3_gatherCluster_20 ?_
    refine lv_if_eq (tgt := 38) hx hb dX3_gatherCluster_23 (by decide) (fun c33 => ?_) (fun c33 => ?_)
    · have hf := it_pos c33 hf
      refine lv_iload_n hx hb dX3_gatherCluster_38 rfl (lv_at hl 3 rfl) ?_
      refine lv_bipush (v := 16) hx hb dX3_gatherCluster_39 (by decide) ?_
      refine lv_idiv hx hb dX3_gatherCluster_41 (by decide) ?_
      refine lv_iconst (v := 1) hx hb dX3_gatherCluster_42 (by decide) ?_
      refine lv_iadd hx hb dX3_gatherCluster_43 ?_
      refine lv_bipush (v := 16) hx hb dX3_gatherCluster_44 (by decide) ?_
      refine lv_imul hx hb dX3_gatherCluster_46 ?_
      exact K47 _ _ _ _ _ hf _ _ _ hG hS (lv_sub hl [1, 2, 3, 0] rfl)
    · have hf := it_neg c33 hf
      refine lv_iload_n hx hb dX3_gatherCluster_26 rfl (lv_at hl 3 rfl) ?_
      refine lv_bipush (v := 6) hx hb dX3_gatherCluster_27 (by decide) ?_
      refine lv_idiv hx hb dX3_gatherCluster_29 (by decide) ?_
      refine lv_iconst (v := 1) hx hb dX3_gatherCluster_30 (by decide) ?_
      refine lv_iadd hx hb dX3_gatherCluster_31 ?_
      refine lv_bipush (v := 6) hx hb dX3_gatherCluster_32 (by decide) ?_
      refine lv_imul hx hb dX3_gatherCluster_34 ?_
      refine lv_goto (tgt := 47) hx hb dX3_gatherCluster_35 (by decide) ?_
      exact K47 _ _ _ _ _ hf _ _ _ hG hS (lv_sub hl [1, 2, 3, 0] rfl)
  have hl : lv_has ls 8 [(0, .ref (ad 0)), (1, .ref (ad a1)), (2, .int (a2))] := hl
  unfold fX3_gatherCluster at hf
  refine lv_aload_n hx hb dX3_gatherCluster_0 rfl (lv_at hl 1 rfl) ?_
  obtain ⟨h34, hf⟩ := ck_some hf
  refine mw_geti hx hb hts hown hK hG inlX0 rfl (okc_lt h34) (shP_c h34) 1 (by decide) rfl wA_190 dX3_gatherCluster_1 ?_
  refine lv_if_eq (tgt := 14) hx hb dX3_gatherCluster_4 (by decide) (fun c35 => ?_) (fun c35 => ?_)
  · have hf := it_pos c35 hf
    refine lv_aload_n hx hb dX3_gatherCluster_14 rfl (lv_at hl 0 rfl) ?_
    refine mw_getl hx hb hts hown hK hG inlX3 rfl (hG.fix (by decide)) rfl 0 (by decide) 1 rfl wA_14 dX3_gatherCluster_15 ?_
    exact K18 _ _ _ _ hf _ _ _ hG hS (lv_sub hl [0, 1, 2] rfl)
  · have hf := it_neg c35 hf
    refine lv_aload_n hx hb dX3_gatherCluster_7 rfl (lv_at hl 0 rfl) ?_
    refine mw_getl hx hb hts hown hK hG inlX3 rfl (hG.fix (by decide)) rfl 2 (by decide) 3 rfl wA_17 dX3_gatherCluster_8 ?_
    refine lv_goto (tgt := 18) hx hb dX3_gatherCluster_11 (by decide) ?_
    exact K18 _ _ _ _ hf _ _ _ hG hS (lv_sub hl [0, 1, 2] rfl)
def fX3_writeOut_33_b (bk33 : Int32 → pw_S → Option (Int32 × pw_S)) (x3 : Int32) (σ : pw_S) : Option (Int32 × pw_S) := (if x3 ≤ 0 then some (0, σ) else bnd (fX2_roomFor x3 σ) (fun r7 σ8 => (if r7 = (-1) then bk33 (x3 + (-1)) σ8 else bnd (fX2_putAll 10 x3 r7 σ8) (fun r11 σ12 => ck (inb (5) (6)) (ck (inb (5) (6)) (ld (si σ12 11 (Int32.toNatClampNeg (5)) (((gi σ12 11 (Int32.toNatClampNeg (5))) + x3))) (fun σ16 => some (x3, σ16))))))))
def fX3_writeOut_33 : Nat → Int32 → pw_S → Option (Int32 × pw_S)
  | 0, _, _ => none
  | n + 1, x3, σ => fX3_writeOut_33_b (fX3_writeOut_33 n) x3 σ
def fX3_writeOut_25 (x1 : Nat) (y0 : Int32) (σ : pw_S) : Option (Int32 × pw_S) := bnd (fX3_gatherCluster x1 y0 σ) (fun r18 σ19 => fX3_writeOut_33 1000 r18 σ19)
def fX3_writeOut (a1 : Option Nat) (σ : pw_S) : Option (Int32 × pw_S) := oc a1 (some (0, σ)) (fun q21 => ck (okc σ q21) ((if (gi σ q21 1) = 0 then bnd (fX3_firstPageOf q21 σ) (fun r25 σ26 => fX3_writeOut_25 q21 r25 σ26) else fX3_writeOut_25 q21 ((gi σ q21 2)) σ)))
set_option maxHeartbeats 4000000 in
set_option maxRecDepth 100000 in
theorem kX3_writeOut (l : Launch) (D : va_G) (cA : Nat → ClassId) (A : Nat → Prop) (ad : Nat → Nat) {σ σ' : pw_S} {r : Int32} {a1 : Option Nat} (hf : fX3_writeOut a1 σ = some (r, σ')) : Met l yX3_writeOut (wA yX3_writeOut cX3_writeOut 5 (some .int)) ({ frames := 1, cells := 0, slots := 0, locals := 27 }) (pw_Pc D cA shP 12 A ad σ [.ref (ad 0), va_rf (Option.map ad a1)]) (pw_Qi D cA shP 12 A ad r σ') 0 0 A := by
  refine mw_enter (own := RX3) (by decide) rfl (by cases a1 <;> exact Nat.le_of_ble_eq_true rfl) ?_
  intro p e s m args below meth c ls hC hr hlocks hK hA hX hG hS hl
  obtain ⟨hx, hb, hml, hown, hts⟩ := id hC
  have K33 : ∀ (n33 : Nat) (x3 : Int32) (σ : pw_S), fX3_writeOut_33 n33 x3 σ = some (r, σ') → mw_K p l e ({ frames := 1, cells := 0, slots := 0, locals := 27 }) s m args below meth c (MQ below (pw_Qi D cA shP 12 A ad r σ') args s 0 0 A) A D cA shP 12 ad 5 33 0 0 [(0, .ref (ad 0)), (3, .int (x3))] [] σ := by
    intro n33
    induction n33 with
    | zero => intro x3 σ hf; cases hf
    | succ n33 ih33 =>
      intro x3 σ hf H locs ls hG hS hl
      have hf : fX3_writeOut_33_b (fX3_writeOut_33 n33) x3 σ = some (r, σ') := hf
      unfold fX3_writeOut_33_b at hf
      refine lv_iload_n hx hb dX3_writeOut_33 rfl (lv_at hl 1 rfl) ?_
      refine lv_if_le (tgt := 85) hx hb dX3_writeOut_34 (by decide) (fun c6 => ?_) (fun c6 => ?_)
      · have hf := it_pos c6 hf
        refine lv_iconst (v := 0) hx hb dX3_writeOut_85 (by decide) ?_
        exact mr_i hC hr hlocks hG hS hf (Nat.le_of_ble_eq_true rfl) (Nat.le_of_ble_eq_true rfl) dX3_writeOut_86
      · have hf := it_neg c6 hf
        refine lv_aload_n hx hb dX3_writeOut_37 rfl (lv_at hl 0 rfl) ?_
        refine mw_getl hx hb hts hown hK hG inlX3 rfl (hG.fix (by decide)) rfl 4 (by decide) 8 rfl wA_25 dX3_writeOut_38 ?_
        refine lv_iload_n hx hb dX3_writeOut_41 rfl (lv_at hl 1 rfl) ?_
        obtain ⟨r7, σ8, hc9, hf⟩ := bnd_some hf
        refine mc_i (mc_V (As := [.int (x3)]) hC hK hA hX hG hS (kX2_roomFor l D cA A ad hc9) ykX2_roomFor wA_420 wA_421 wA_422 (hG.fix (by decide)) rfl rfl ⟨rfl, rfl, Nat.le_of_ble_eq_true rfl, Nat.le_of_ble_eq_true rfl⟩ rfl hl.1 rfl (Nat.le_of_ble_eq_true rfl) dX3_writeOut_42 ⟨Nat.le_of_ble_eq_true rfl, Nat.le_of_ble_eq_true rfl⟩) hS (fun H locs hG hS => ?_)
        refine lv_istore (lv' := [(4, .int (r7)), (0, .ref (ad 0)), (3, .int (x3))]) hx hb dX3_writeOut_45 hl (by decide) rfl (fun ls hl => ?_)
        refine lv_iload hx hb dX3_writeOut_47 (lv_at hl 0 rfl) ?_
        refine lv_iconst (v := (-1)) hx hb dX3_writeOut_49 (by decide) ?_
        refine lv_icmp_eq (tgt := 79) hx hb dX3_writeOut_50 (by decide) (fun c10 => ?_) (fun c10 => ?_)
        · have hf := it_pos c10 hf
          refine lv_iinc (v := x3 + (-1)) (lv' := [(3, .int (x3 + (-1))), (4, .int (r7)), (0, .ref (ad 0))]) hx hb dX3_writeOut_79 hl (k := 2) rfl rfl (by decide) rfl (fun ls hl => ?_)
          refine lv_goto (tgt := 33) hx hb dX3_writeOut_82 (by decide) ?_
          exact ih33 _ _ hf _ _ _ hG hS (lv_sub hl [2, 0] rfl)
        · have hf := it_neg c10 hf
          refine lv_aload_n hx hb dX3_writeOut_53 rfl (lv_at hl 1 rfl) ?_
          refine mw_getl hx hb hts hown hK hG inlX3 rfl (hG.fix (by decide)) rfl 4 (by decide) 8 rfl wA_25 dX3_writeOut_54 ?_
          refine lv_aload_n hx hb dX3_writeOut_57 rfl (lv_at hl 1 rfl) ?_
          refine mw_getl hx hb hts hown hK hG inlX3 rfl (hG.fix (by decide)) rfl 5 (by decide) 10 rfl wA_26 dX3_writeOut_58 ?_
          refine lv_iload_n hx hb dX3_writeOut_61 rfl (lv_at hl 2 rfl) ?_
          refine lv_iload hx hb dX3_writeOut_62 (lv_at hl 0 rfl) ?_
          obtain ⟨r11, σ12, hc13, hf⟩ := bnd_some hf
          refine mc_v (mc_V (As := [.ref (ad 10), .int (x3), .int (r7)]) hC hK hA hX hG hS (kX2_putAll l D cA A ad hc13) ykX2_putAll wA_424 wA_425 wA_426 (hG.fix (by decide)) rfl rfl ⟨rfl, rfl, Nat.le_of_ble_eq_true rfl, Nat.le_of_ble_eq_true rfl⟩ rfl hl.1 rfl (Nat.le_of_ble_eq_true rfl) dX3_writeOut_64 ⟨Nat.le_of_ble_eq_true rfl, Nat.le_of_ble_eq_true rfl⟩) hS (fun H locs hG hS => ?_)
          refine lv_aload_n hx hb dX3_writeOut_67 rfl (lv_at hl 1 rfl) ?_
          refine mw_getl hx hb hts hown hK hG inlX3 rfl (hG.fix (by decide)) rfl 6 (by decide) 11 rfl wA_28 dX3_writeOut_68 ?_
          refine lv_iconst (v := 5) hx hb dX3_writeOut_71 (by decide) ?_
          refine lv_dup2_11 hx hb dX3_writeOut_72 rfl rfl ?_
          obtain ⟨h14, hf⟩ := ck_some hf
          refine mw_iald hx hb hK hG (hG.fix (by decide)) rfl (inb_in h14) dX3_writeOut_73 ?_
          refine lv_iload_n hx hb dX3_writeOut_74 rfl (lv_at hl 2 rfl) ?_
          refine lv_iadd hx hb dX3_writeOut_75 ?_
          obtain ⟨h15, hf⟩ := ck_some hf
          refine mw_iast hx hb hK hG hS (hG.fix (by decide)) rfl (inb_in h15) dX3_writeOut_76 (fun H locs hG hS => ?_)
          obtain ⟨σ16, e17, hf⟩ := ld_some hf
          rw [← e17] at hG
          clear e17
          refine lv_iload_n hx hb dX3_writeOut_77 rfl (lv_at hl 2 rfl) ?_
          exact mr_i hC hr hlocks hG hS hf (Nat.le_of_ble_eq_true rfl) (Nat.le_of_ble_eq_true rfl) dX3_writeOut_78
  have K25 : ∀ (x1 : Nat) (y0 : Int32) (σ : pw_S), fX3_writeOut_25 x1 y0 σ = some (r, σ') → mw_K p l e ({ frames := 1, cells := 0, slots := 0, locals := 27 }) s m args below meth c (MQ below (pw_Qi D cA shP 12 A ad r σ') args s 0 0 A) A D cA shP 12 ad 5 25 0 0 [(0, .ref (ad 0)), (1, .ref (ad x1))] [.int (y0)] σ := by
    intro x1 y0 σ hf H locs ls hG hS hl
    unfold fX3_writeOut_25 at hf
    refine lv_istore_n (lv' := [(2, .int (y0)), (0, .ref (ad 0)), (1, .ref (ad x1))]) hx hb dX3_writeOut_25 rfl hl (by decide) rfl (fun ls hl => ?_)
    refine lv_aload_n hx hb dX3_writeOut_26 rfl (lv_at hl 1 rfl) ?_
    refine lv_aload_n hx hb dX3_writeOut_27 rfl (lv_at hl 2 rfl) ?_
    refine lv_iload_n hx hb dX3_writeOut_28 rfl (lv_at hl 0 rfl) ?_
    obtain ⟨r18, σ19, hc20, hf⟩ := bnd_some hf
    refine mc_i (mc_V (As := [.ref (ad x1), .int (y0)]) hC hK hA hX hG hS (kX3_gatherCluster l D cA A ad hc20) ykX3_gatherCluster wA_416 wA_417 wA_418 (hG.fix (by decide)) rfl rfl ⟨rfl, rfl, Nat.le_of_ble_eq_true rfl, Nat.le_of_ble_eq_true rfl⟩ rfl hl.1 rfl (Nat.le_of_ble_eq_true rfl) dX3_writeOut_29 ⟨Nat.le_of_ble_eq_true rfl, Nat.le_of_ble_eq_true rfl⟩) hS (fun H locs hG hS => ?_)
    refine lv_istore_n (lv' := [(3, .int (r18)), (2, .int (y0)), (0, .ref (ad 0)), (1, .ref (ad x1))]) hx hb dX3_writeOut_32 rfl hl (by decide) rfl (fun ls hl => ?_)
    exact K33 1000 _ _ hf _ _ _ hG hS (lv_sub hl [2, 0] rfl)
  have hl : lv_has ls 5 [(0, .ref (ad 0)), (1, va_rf (Option.map ad a1))] := hl
  unfold fX3_writeOut at hf
  refine mq_aload_n hx hb dX3_writeOut_0 rfl (lv_at hl 1 rfl) ?_
  refine mq_ifnonnull (tgt := 6) hx hb dX3_writeOut_1 (by decide) (fun q21 c22 => ?_) (fun c22 => ?_)
  · subst c22
    have hl : lv_has ls 5 [(0, .ref (ad 0)), (1, .ref (ad q21))] := hl
    have hf := oc_some hf
    refine lv_aload_n hx hb dX3_writeOut_6 rfl (lv_at hl 1 rfl) ?_
    obtain ⟨h23, hf⟩ := ck_some hf
    refine mw_geti hx hb hts hown hK hG inlX0 rfl (okc_lt h23) (shP_c h23) 1 (by decide) rfl wA_190 dX3_writeOut_7 ?_
    refine lv_if_eq (tgt := 20) hx hb dX3_writeOut_10 (by decide) (fun c24 => ?_) (fun c24 => ?_)
    · have hf := it_pos c24 hf
      refine lv_aload_n hx hb dX3_writeOut_20 rfl (lv_at hl 0 rfl) ?_
      refine lv_aload_n hx hb dX3_writeOut_21 rfl (lv_at hl 1 rfl) ?_
      obtain ⟨r25, σ26, hc27, hf⟩ := bnd_some hf
      refine mc_i (mc_V (As := [.ref (ad q21)]) hC hK hA hX hG hS (kX3_firstPageOf l D cA A ad hc27) ykX3_firstPageOf wA_412 wA_413 wA_414 (hG.fix (by decide)) rfl rfl ⟨rfl, rfl, Nat.le_of_ble_eq_true rfl, Nat.le_of_ble_eq_true rfl⟩ rfl hl.1 rfl (Nat.le_of_ble_eq_true rfl) dX3_writeOut_22 ⟨Nat.le_of_ble_eq_true rfl, Nat.le_of_ble_eq_true rfl⟩) hS (fun H locs hG hS => ?_)
      exact K25 _ _ _ hf _ _ _ hG hS (lv_sub hl [0, 1] rfl)
    · have hf := it_neg c24 hf
      refine lv_aload_n hx hb dX3_writeOut_13 rfl (lv_at hl 1 rfl) ?_
      refine mw_geti hx hb hts hown hK hG inlX0 rfl (okc_lt h23) (shP_c h23) 2 (by decide) rfl wA_411 dX3_writeOut_14 ?_
      refine lv_goto (tgt := 25) hx hb dX3_writeOut_17 (by decide) ?_
      exact K25 _ _ _ hf _ _ _ hG hS (lv_sub hl [0, 1] rfl)
  · subst c22
    have hl : lv_has ls 5 [(0, .ref (ad 0)), (1, .null)] := hl
    have hf := oc_none hf
    refine lv_iconst (v := 0) hx hb dX3_writeOut_4 (by decide) ?_
    exact mr_i hC hr hlocks hG hS hf (Nat.le_of_ble_eq_true rfl) (Nat.le_of_ble_eq_true rfl) dX3_writeOut_5
def fX3_givesWayWhenLookedAt_76 (σ : pw_S) : Option (Int32 × pw_S) := some (1, σ)
def fX3_givesWayWhenLookedAt (a1 : Int32) (σ : pw_S) : Option (Int32 × pw_S) := ck (inb (a1) (12)) ((if (gi σ 7 (Int32.toNatClampNeg (a1))) = 0 then bnd (fX3_isOutsideWindow a1 σ) (fun r8 σ9 => (if r8 = 0 then some (0, σ9) else ck (inb (a1) (12)) (ld (gr σ9 5 (Int32.toNatClampNeg (a1))) (fun o13 => oc o13 (fX3_givesWayWhenLookedAt_76 σ9) (fun q15 => ck (okc σ9 q15) ((if (gi σ9 q15 5) = 0 then fX3_givesWayWhenLookedAt_76 σ9 else bnd (fX3_writeOut (some q15) σ9) (fun r19 σ20 => some (0, σ20))))))))) else ck (inb (a1) (12)) (ld (si σ 7 (Int32.toNatClampNeg (a1)) (0)) (fun σ23 => ck (inb (a1) (12)) (ld (si σ23 6 (Int32.toNatClampNeg (a1)) ((gi σ23 0 10))) (fun σ26 => some (0, σ26)))))))
set_option maxHeartbeats 4000000 in
set_option maxRecDepth 100000 in
theorem kX3_givesWayWhenLookedAt (l : Launch) (D : va_G) (cA : Nat → ClassId) (A : Nat → Prop) (ad : Nat → Nat) {σ σ' : pw_S} {r : Int32} {a1 : Int32} (hf : fX3_givesWayWhenLookedAt a1 σ = some (r, σ')) : Met l yX3_givesWayWhenLookedAt (wA yX3_givesWayWhenLookedAt cX3_givesWayWhenLookedAt 3 (some .boolean)) ({ frames := 2, cells := 0, slots := 0, locals := 51 }) (pw_Pc D cA shP 12 A ad σ [.ref (ad 0), .int (a1)]) (pw_Qi D cA shP 12 A ad r σ') 0 0 A := by
  refine mw_enter (own := RX3) (by decide) rfl (Nat.le_of_ble_eq_true rfl) ?_
  intro p e s m args below meth c ls hC hr hlocks hK hA hX hG hS hl
  obtain ⟨hx, hb, hml, hown, hts⟩ := id hC
  have K76 : ∀ (σ : pw_S), fX3_givesWayWhenLookedAt_76  σ = some (r, σ') → mw_K p l e ({ frames := 2, cells := 0, slots := 0, locals := 51 }) s m args below meth c (MQ below (pw_Qi D cA shP 12 A ad r σ') args s 0 0 A) A D cA shP 12 ad 3 76 0 0 [] [] σ := by
    intro  σ hf H locs ls hG hS hl
    unfold fX3_givesWayWhenLookedAt_76 at hf
    refine lv_iconst (v := 1) hx hb dX3_givesWayWhenLookedAt_76 (by decide) ?_
    exact mr_z hC hr hlocks hG hS (by decide) hf (Nat.le_of_ble_eq_true rfl) (Nat.le_of_ble_eq_true rfl) dX3_givesWayWhenLookedAt_77
  have hl : lv_has ls 3 [(0, .ref (ad 0)), (1, .int (a1))] := hl
  unfold fX3_givesWayWhenLookedAt at hf
  refine lv_aload_n hx hb dX3_givesWayWhenLookedAt_0 rfl (lv_at hl 0 rfl) ?_
  refine mw_getl hx hb hts hown hK hG inlX3 rfl (hG.fix (by decide)) rfl 3 (by decide) 4 rfl wA_21 dX3_givesWayWhenLookedAt_1 ?_
  refine mw_getl hx hb hts hown hK hG inlX1 rfl (hG.fix (by decide)) rfl 2 (by decide) 7 rfl wA_400 dX3_givesWayWhenLookedAt_4 ?_
  refine lv_iload_n hx hb dX3_givesWayWhenLookedAt_7 rfl (lv_at hl 1 rfl) ?_
  obtain ⟨h6, hf⟩ := ck_some hf
  refine mw_zald hx hb hK hG (hG.fix (by decide)) rfl (inb_in h6) dX3_givesWayWhenLookedAt_8 ?_
  refine lv_if_eq (tgt := 37) hx hb dX3_givesWayWhenLookedAt_9 (by decide) (fun c7 => ?_) (fun c7 => ?_)
  · have hf := it_pos c7 hf
    refine lv_aload_n hx hb dX3_givesWayWhenLookedAt_37 rfl (lv_at hl 0 rfl) ?_
    refine lv_iload_n hx hb dX3_givesWayWhenLookedAt_38 rfl (lv_at hl 1 rfl) ?_
    obtain ⟨r8, σ9, hc10, hf⟩ := bnd_some hf
    refine mc_i (mc_V (As := [.int (a1)]) hC hK hA hX hG hS (kX3_isOutsideWindow l D cA A ad hc10) ykX3_isOutsideWindow wA_403 wA_404 wA_405 (hG.fix (by decide)) rfl rfl ⟨rfl, rfl, Nat.le_of_ble_eq_true rfl, Nat.le_of_ble_eq_true rfl⟩ rfl hl.1 rfl (Nat.le_of_ble_eq_true rfl) dX3_givesWayWhenLookedAt_39 ⟨Nat.le_of_ble_eq_true rfl, Nat.le_of_ble_eq_true rfl⟩) hS (fun H locs hG hS => ?_)
    refine lv_if_ne (tgt := 47) hx hb dX3_givesWayWhenLookedAt_42 (by decide) (fun c11 => ?_) (fun c11 => ?_)
    · have hf := it_neg c11 hf
      refine lv_aload_n hx hb dX3_givesWayWhenLookedAt_47 rfl (lv_at hl 0 rfl) ?_
      refine mw_getl hx hb hts hown hK hG inlX3 rfl (hG.fix (by decide)) rfl 3 (by decide) 4 rfl wA_21 dX3_givesWayWhenLookedAt_48 ?_
      refine mw_getl hx hb hts hown hK hG inlX1 rfl (hG.fix (by decide)) rfl 0 (by decide) 5 rfl wA_395 dX3_givesWayWhenLookedAt_51 ?_
      refine lv_iload_n hx hb dX3_givesWayWhenLookedAt_54 rfl (lv_at hl 1 rfl) ?_
      obtain ⟨h12, hf⟩ := ck_some hf
      obtain ⟨o13, e14, hf⟩ := ld_some hf
      refine mw_aald hx hb hK hG (hG.fix (by decide)) rfl (inb_in h12) dX3_givesWayWhenLookedAt_55 ?_
      rw [← e14]
      clear e14
      refine mq_astore_n (lv' := [(2, va_rf (Option.map ad o13)), (0, .ref (ad 0)), (1, .int (a1))]) hx hb dX3_givesWayWhenLookedAt_56 rfl hl (by decide) rfl (fun ls hl => ?_)
      refine mq_aload_n hx hb dX3_givesWayWhenLookedAt_57 rfl (lv_at hl 0 rfl) ?_
      refine mq_ifnull (tgt := 76) hx hb dX3_givesWayWhenLookedAt_58 (by decide) (fun c16 => ?_) (fun q15 c16 => ?_)
      · subst c16
        have hl : lv_has ls 3 [(2, .null), (0, .ref (ad 0)), (1, .int (a1))] := hl
        have hf := oc_none hf
        exact K76 _ hf _ _ _ hG hS (lv_sub hl [] rfl)
      · subst c16
        have hl : lv_has ls 3 [(2, .ref (ad q15)), (0, .ref (ad 0)), (1, .int (a1))] := hl
        have hf := oc_some hf
        refine lv_aload_n hx hb dX3_givesWayWhenLookedAt_61 rfl (lv_at hl 0 rfl) ?_
        obtain ⟨h17, hf⟩ := ck_some hf
        refine mw_geti hx hb hts hown hK hG inlX0 rfl (okc_lt h17) (shP_c h17) 5 (by decide) rfl wA_402 dX3_givesWayWhenLookedAt_62 ?_
        refine lv_if_eq (tgt := 76) hx hb dX3_givesWayWhenLookedAt_65 (by decide) (fun c18 => ?_) (fun c18 => ?_)
        · have hf := it_pos c18 hf
          exact K76 _ hf _ _ _ hG hS (lv_sub hl [] rfl)
        · have hf := it_neg c18 hf
          refine lv_aload_n hx hb dX3_givesWayWhenLookedAt_68 rfl (lv_at hl 1 rfl) ?_
          refine lv_aload_n hx hb dX3_givesWayWhenLookedAt_69 rfl (lv_at hl 0 rfl) ?_
          obtain ⟨r19, σ20, hc21, hf⟩ := bnd_some hf
          refine mc_i (mc_V (As := [va_rf (Option.map ad (some q15))]) hC hK hA hX hG hS (kX3_writeOut l D cA A ad hc21) ykX3_writeOut wA_407 wA_408 wA_409 (hG.fix (by decide)) rfl rfl ⟨rfl, rfl, Nat.le_of_ble_eq_true rfl, Nat.le_of_ble_eq_true rfl⟩ rfl hl.1 rfl (Nat.le_of_ble_eq_true rfl) dX3_givesWayWhenLookedAt_70 ⟨Nat.le_of_ble_eq_true rfl, Nat.le_of_ble_eq_true rfl⟩) hS (fun H locs hG hS => ?_)
          refine lv_pop hx hb dX3_givesWayWhenLookedAt_73 rfl ?_
          refine lv_iconst (v := 0) hx hb dX3_givesWayWhenLookedAt_74 (by decide) ?_
          exact mr_z hC hr hlocks hG hS (by decide) hf (Nat.le_of_ble_eq_true rfl) (Nat.le_of_ble_eq_true rfl) dX3_givesWayWhenLookedAt_75
    · have hf := it_pos c11 hf
      refine lv_iconst (v := 0) hx hb dX3_givesWayWhenLookedAt_45 (by decide) ?_
      exact mr_z hC hr hlocks hG hS (by decide) hf (Nat.le_of_ble_eq_true rfl) (Nat.le_of_ble_eq_true rfl) dX3_givesWayWhenLookedAt_46
  · have hf := it_neg c7 hf
    refine lv_aload_n hx hb dX3_givesWayWhenLookedAt_12 rfl (lv_at hl 0 rfl) ?_
    refine mw_getl hx hb hts hown hK hG inlX3 rfl (hG.fix (by decide)) rfl 3 (by decide) 4 rfl wA_21 dX3_givesWayWhenLookedAt_13 ?_
    refine mw_getl hx hb hts hown hK hG inlX1 rfl (hG.fix (by decide)) rfl 2 (by decide) 7 rfl wA_400 dX3_givesWayWhenLookedAt_16 ?_
    refine lv_iload_n hx hb dX3_givesWayWhenLookedAt_19 rfl (lv_at hl 1 rfl) ?_
    refine lv_iconst (v := 0) hx hb dX3_givesWayWhenLookedAt_20 (by decide) ?_
    obtain ⟨h22, hf⟩ := ck_some hf
    refine mw_zast hx hb hK hG hS (hG.fix (by decide)) rfl rfl (inb_in h22) dX3_givesWayWhenLookedAt_21 (fun H locs hG hS => ?_)
    obtain ⟨σ23, e24, hf⟩ := ld_some hf
    rw [← e24] at hG
    clear e24
    refine lv_aload_n hx hb dX3_givesWayWhenLookedAt_22 rfl (lv_at hl 0 rfl) ?_
    refine mw_getl hx hb hts hown hK hG inlX3 rfl (hG.fix (by decide)) rfl 3 (by decide) 4 rfl wA_21 dX3_givesWayWhenLookedAt_23 ?_
    refine mw_getl hx hb hts hown hK hG inlX1 rfl (hG.fix (by decide)) rfl 1 (by decide) 6 rfl wA_401 dX3_givesWayWhenLookedAt_26 ?_
    refine lv_iload_n hx hb dX3_givesWayWhenLookedAt_29 rfl (lv_at hl 1 rfl) ?_
    refine lv_aload_n hx hb dX3_givesWayWhenLookedAt_30 rfl (lv_at hl 0 rfl) ?_
    refine mw_geti hx hb hts hown hK hG inlX3 rfl (hG.fix (by decide)) rfl 10 (by decide) rfl wA_32 dX3_givesWayWhenLookedAt_31 ?_
    obtain ⟨h25, hf⟩ := ck_some hf
    refine mw_iast hx hb hK hG hS (hG.fix (by decide)) rfl (inb_in h25) dX3_givesWayWhenLookedAt_34 (fun H locs hG hS => ?_)
    obtain ⟨σ26, e27, hf⟩ := ld_some hf
    rw [← e27] at hG
    clear e27
    refine lv_iconst (v := 0) hx hb dX3_givesWayWhenLookedAt_35 (by decide) ?_
    exact mr_z hC hr hlocks hG hS (by decide) hf (Nat.le_of_ble_eq_true rfl) (Nat.le_of_ble_eq_true rfl) dX3_givesWayWhenLookedAt_36
def fX3_freeByClock_109 (x1 : Int32) (σ : pw_S) : Option (Int32 × pw_S) := bnd (fX1_vacate x1 σ) (fun r6 σ7 => ck (inb (4) (6)) (ck (inb (4) (6)) (ld (si σ7 11 (Int32.toNatClampNeg (4)) (((gi σ7 11 (Int32.toNatClampNeg (4))) + 1))) (fun σ11 => bnd (fX1_moveHandBehind x1 σ11) (fun r13 σ14 => some (x1, σ14))))))
def fX3_freeByClock_82 (x1 : Int32) (σ : pw_S) : Option (Int32 × pw_S) := (if x1 = (-1) then bnd (fX1_oldest σ) (fun r17 σ18 => ck (inb (r17) (12)) (ld (gr σ18 5 (Int32.toNatClampNeg (r17))) (fun o21 => bnd (fX3_writeOut o21 σ18) (fun r23 σ24 => fX3_freeByClock_109 r17 σ24)))) else fX3_freeByClock_109 x1 σ)
def fX3_freeByClock_69 (x1 : Int32) (σ : pw_S) : Option (Int32 × pw_S) := (if x1 = (-1) then bnd (fX1_oldestClean σ) (fun r27 σ28 => fX3_freeByClock_82 r27 σ28) else fX3_freeByClock_82 x1 σ)
def fX3_freeByClock_63 (bk14 : Int32 → Int32 → Int32 → pw_S → Option (Int32 × pw_S)) (x1 : Int32) (x2 : Int32) (x3 : Int32) (σ : pw_S) : Option (Int32 × pw_S) := bk14 x1 x2 (x3 + 1) σ
def fX3_freeByClock_14_b (bk14 : Int32 → Int32 → Int32 → pw_S → Option (Int32 × pw_S)) (x1 : Int32) (x2 : Int32) (x3 : Int32) (σ : pw_S) : Option (Int32 × pw_S) := (if x2 ≤ x3 then fX3_freeByClock_69 x1 σ else (if x1 = (-1) then bnd (fX3_givesWayWhenLookedAt ((gi σ 4 4)) σ) (fun r32 σ33 => (if r32 = 0 then bnd (fX1_moveHandBehind ((gi σ33 4 4)) σ33) (fun r36 σ37 => fX3_freeByClock_63 bk14 x1 x2 x3 σ37) else fX3_freeByClock_63 bk14 ((gi σ33 4 4)) x2 x3 σ33)) else fX3_freeByClock_69 x1 σ))
def fX3_freeByClock_14 : Nat → Int32 → Int32 → Int32 → pw_S → Option (Int32 × pw_S)
  | 0, _, _, _, _ => none
  | n + 1, x1, x2, x3, σ => fX3_freeByClock_14_b (fX3_freeByClock_14 n) x1 x2 x3 σ
def fX3_freeByClock (σ : pw_S) : Option (Int32 × pw_S) := fX3_freeByClock_14 1000 ((-1)) ((2 * (gi σ 4 3))) 0 σ
set_option maxHeartbeats 4000000 in
set_option maxRecDepth 100000 in
theorem kX3_freeByClock (l : Launch) (D : va_G) (cA : Nat → ClassId) (A : Nat → Prop) (ad : Nat → Nat) {σ σ' : pw_S} {r : Int32} (hf : fX3_freeByClock σ = some (r, σ')) : Met l yX3_freeByClock (wA yX3_freeByClock cX3_freeByClock 4 (some .int)) ({ frames := 3, cells := 0, slots := 0, locals := 73 }) (pw_Pc D cA shP 12 A ad σ [.ref (ad 0)]) (pw_Qi D cA shP 12 A ad r σ') 0 0 A := by
  refine mw_enter (own := RX3) (by decide) rfl (Nat.le_of_ble_eq_true rfl) ?_
  intro p e s m args below meth c ls hC hr hlocks hK hA hX hG hS hl
  obtain ⟨hx, hb, hml, hown, hts⟩ := id hC
  have K109 : ∀ (x1 : Int32) (σ : pw_S), fX3_freeByClock_109 x1 σ = some (r, σ') → mw_K p l e ({ frames := 3, cells := 0, slots := 0, locals := 73 }) s m args below meth c (MQ below (pw_Qi D cA shP 12 A ad r σ') args s 0 0 A) A D cA shP 12 ad 4 109 0 0 [(0, .ref (ad 0)), (1, .int (x1))] [] σ := by
    intro x1 σ hf H locs ls hG hS hl
    unfold fX3_freeByClock_109 at hf
    refine lv_aload_n hx hb dX3_freeByClock_109 rfl (lv_at hl 0 rfl) ?_
    refine mw_getl hx hb hts hown hK hG inlX3 rfl (hG.fix (by decide)) rfl 3 (by decide) 4 rfl wA_21 dX3_freeByClock_110 ?_
    refine lv_iload_n hx hb dX3_freeByClock_113 rfl (lv_at hl 1 rfl) ?_
    obtain ⟨r6, σ7, hc8, hf⟩ := bnd_some hf
    refine mc_v (mc_V (As := [.int (x1)]) hC hK hA hX hG hS (kX1_vacate l D cA A ad hc8) ykX1_vacate wA_192 wA_193 wA_194 (hG.fix (by decide)) rfl rfl ⟨rfl, rfl, Nat.le_of_ble_eq_true rfl, Nat.le_of_ble_eq_true rfl⟩ rfl hl.1 rfl (Nat.le_of_ble_eq_true rfl) dX3_freeByClock_114 ⟨Nat.le_of_ble_eq_true rfl, Nat.le_of_ble_eq_true rfl⟩) hS (fun H locs hG hS => ?_)
    refine lv_aload_n hx hb dX3_freeByClock_117 rfl (lv_at hl 0 rfl) ?_
    refine mw_getl hx hb hts hown hK hG inlX3 rfl (hG.fix (by decide)) rfl 6 (by decide) 11 rfl wA_28 dX3_freeByClock_118 ?_
    refine lv_iconst (v := 4) hx hb dX3_freeByClock_121 (by decide) ?_
    refine lv_dup2_11 hx hb dX3_freeByClock_122 rfl rfl ?_
    obtain ⟨h9, hf⟩ := ck_some hf
    refine mw_iald hx hb hK hG (hG.fix (by decide)) rfl (inb_in h9) dX3_freeByClock_123 ?_
    refine lv_iconst (v := 1) hx hb dX3_freeByClock_124 (by decide) ?_
    refine lv_iadd hx hb dX3_freeByClock_125 ?_
    obtain ⟨h10, hf⟩ := ck_some hf
    refine mw_iast hx hb hK hG hS (hG.fix (by decide)) rfl (inb_in h10) dX3_freeByClock_126 (fun H locs hG hS => ?_)
    obtain ⟨σ11, e12, hf⟩ := ld_some hf
    rw [← e12] at hG
    clear e12
    refine lv_aload_n hx hb dX3_freeByClock_127 rfl (lv_at hl 0 rfl) ?_
    refine mw_getl hx hb hts hown hK hG inlX3 rfl (hG.fix (by decide)) rfl 3 (by decide) 4 rfl wA_21 dX3_freeByClock_128 ?_
    refine lv_iload_n hx hb dX3_freeByClock_131 rfl (lv_at hl 1 rfl) ?_
    obtain ⟨r13, σ14, hc15, hf⟩ := bnd_some hf
    refine mc_v (mc_V (As := [.int (x1)]) hC hK hA hX hG hS (kX1_moveHandBehind l D cA A ad hc15) ykX1_moveHandBehind wA_429 wA_430 wA_431 (hG.fix (by decide)) rfl rfl ⟨rfl, rfl, Nat.le_of_ble_eq_true rfl, Nat.le_of_ble_eq_true rfl⟩ rfl hl.1 rfl (Nat.le_of_ble_eq_true rfl) dX3_freeByClock_132 ⟨Nat.le_of_ble_eq_true rfl, Nat.le_of_ble_eq_true rfl⟩) hS (fun H locs hG hS => ?_)
    refine lv_iload_n hx hb dX3_freeByClock_135 rfl (lv_at hl 1 rfl) ?_
    exact mr_i hC hr hlocks hG hS hf (Nat.le_of_ble_eq_true rfl) (Nat.le_of_ble_eq_true rfl) dX3_freeByClock_136
  have K82 : ∀ (x1 : Int32) (σ : pw_S), fX3_freeByClock_82 x1 σ = some (r, σ') → mw_K p l e ({ frames := 3, cells := 0, slots := 0, locals := 73 }) s m args below meth c (MQ below (pw_Qi D cA shP 12 A ad r σ') args s 0 0 A) A D cA shP 12 ad 4 82 0 0 [(0, .ref (ad 0)), (1, .int (x1))] [] σ := by
    intro x1 σ hf H locs ls hG hS hl
    unfold fX3_freeByClock_82 at hf
    refine lv_iload_n hx hb dX3_freeByClock_82 rfl (lv_at hl 1 rfl) ?_
    refine lv_iconst (v := (-1)) hx hb dX3_freeByClock_83 (by decide) ?_
    refine lv_icmp_ne (tgt := 109) hx hb dX3_freeByClock_84 (by decide) (fun c16 => ?_) (fun c16 => ?_)
    · have hf := it_neg c16 hf
      exact K109 _ _ hf _ _ _ hG hS (lv_sub hl [0, 1] rfl)
    · have hf := it_pos c16 hf
      refine lv_aload_n hx hb dX3_freeByClock_87 rfl (lv_at hl 0 rfl) ?_
      refine mw_getl hx hb hts hown hK hG inlX3 rfl (hG.fix (by decide)) rfl 3 (by decide) 4 rfl wA_21 dX3_freeByClock_88 ?_
      obtain ⟨r17, σ18, hc19, hf⟩ := bnd_some hf
      refine mc_i (mc_V (As := []) hC hK hA hX hG hS (kX1_oldest l D cA A ad hc19) ykX1_oldest wA_433 wA_434 wA_435 (hG.fix (by decide)) rfl rfl ⟨rfl, rfl, Nat.le_of_ble_eq_true rfl, Nat.le_of_ble_eq_true rfl⟩ rfl hl.1 rfl (Nat.le_of_ble_eq_true rfl) dX3_freeByClock_91 ⟨Nat.le_of_ble_eq_true rfl, Nat.le_of_ble_eq_true rfl⟩) hS (fun H locs hG hS => ?_)
      refine lv_istore_n (lv' := [(1, .int (r17)), (0, .ref (ad 0))]) hx hb dX3_freeByClock_94 rfl hl (by decide) rfl (fun ls hl => ?_)
      refine lv_aload_n hx hb dX3_freeByClock_95 rfl (lv_at hl 1 rfl) ?_
      refine lv_aload_n hx hb dX3_freeByClock_96 rfl (lv_at hl 1 rfl) ?_
      refine mw_getl hx hb hts hown hK hG inlX3 rfl (hG.fix (by decide)) rfl 3 (by decide) 4 rfl wA_21 dX3_freeByClock_97 ?_
      refine mw_getl hx hb hts hown hK hG inlX1 rfl (hG.fix (by decide)) rfl 0 (by decide) 5 rfl wA_395 dX3_freeByClock_100 ?_
      refine lv_iload_n hx hb dX3_freeByClock_103 rfl (lv_at hl 0 rfl) ?_
      obtain ⟨h20, hf⟩ := ck_some hf
      obtain ⟨o21, e22, hf⟩ := ld_some hf
      refine mw_aald hx hb hK hG (hG.fix (by decide)) rfl (inb_in h20) dX3_freeByClock_104 ?_
      rw [← e22]
      clear e22
      obtain ⟨r23, σ24, hc25, hf⟩ := bnd_some hf
      refine mc_i (mc_V (As := [va_rf (Option.map ad o21)]) hC hK hA hX hG hS (kX3_writeOut l D cA A ad hc25) ykX3_writeOut wA_407 wA_408 wA_409 (hG.fix (by decide)) rfl rfl ⟨rfl, rfl, Nat.le_of_ble_eq_true rfl, Nat.le_of_ble_eq_true rfl⟩ rfl hl.1 rfl (Nat.le_of_ble_eq_true rfl) dX3_freeByClock_105 ⟨Nat.le_of_ble_eq_true rfl, Nat.le_of_ble_eq_true rfl⟩) hS (fun H locs hG hS => ?_)
      refine lv_pop hx hb dX3_freeByClock_108 rfl ?_
      exact K109 _ _ hf _ _ _ hG hS (lv_sub hl [1, 0] rfl)
  have K69 : ∀ (x1 : Int32) (σ : pw_S), fX3_freeByClock_69 x1 σ = some (r, σ') → mw_K p l e ({ frames := 3, cells := 0, slots := 0, locals := 73 }) s m args below meth c (MQ below (pw_Qi D cA shP 12 A ad r σ') args s 0 0 A) A D cA shP 12 ad 4 69 0 0 [(0, .ref (ad 0)), (1, .int (x1))] [] σ := by
    intro x1 σ hf H locs ls hG hS hl
    unfold fX3_freeByClock_69 at hf
    refine lv_iload_n hx hb dX3_freeByClock_69 rfl (lv_at hl 1 rfl) ?_
    refine lv_iconst (v := (-1)) hx hb dX3_freeByClock_70 (by decide) ?_
    refine lv_icmp_ne (tgt := 82) hx hb dX3_freeByClock_71 (by decide) (fun c26 => ?_) (fun c26 => ?_)
    · have hf := it_neg c26 hf
      exact K82 _ _ hf _ _ _ hG hS (lv_sub hl [0, 1] rfl)
    · have hf := it_pos c26 hf
      refine lv_aload_n hx hb dX3_freeByClock_74 rfl (lv_at hl 0 rfl) ?_
      refine mw_getl hx hb hts hown hK hG inlX3 rfl (hG.fix (by decide)) rfl 3 (by decide) 4 rfl wA_21 dX3_freeByClock_75 ?_
      obtain ⟨r27, σ28, hc29, hf⟩ := bnd_some hf
      refine mc_i (mc_V (As := []) hC hK hA hX hG hS (kX1_oldestClean l D cA A ad hc29) ykX1_oldestClean wA_373 wA_374 wA_375 (hG.fix (by decide)) rfl rfl ⟨rfl, rfl, Nat.le_of_ble_eq_true rfl, Nat.le_of_ble_eq_true rfl⟩ rfl hl.1 rfl (Nat.le_of_ble_eq_true rfl) dX3_freeByClock_78 ⟨Nat.le_of_ble_eq_true rfl, Nat.le_of_ble_eq_true rfl⟩) hS (fun H locs hG hS => ?_)
      refine lv_istore_n (lv' := [(1, .int (r27)), (0, .ref (ad 0))]) hx hb dX3_freeByClock_81 rfl hl (by decide) rfl (fun ls hl => ?_)
      exact K82 _ _ hf _ _ _ hG hS (lv_sub hl [1, 0] rfl)
  have K14 : ∀ (n14 : Nat) (x1 : Int32) (x2 : Int32) (x3 : Int32) (σ : pw_S), fX3_freeByClock_14 n14 x1 x2 x3 σ = some (r, σ') → mw_K p l e ({ frames := 3, cells := 0, slots := 0, locals := 73 }) s m args below meth c (MQ below (pw_Qi D cA shP 12 A ad r σ') args s 0 0 A) A D cA shP 12 ad 4 14 0 0 [(0, .ref (ad 0)), (1, .int (x1)), (2, .int (x2)), (3, .int (x3))] [] σ := by
    intro n14
    induction n14 with
    | zero => intro x1 x2 x3 σ hf; cases hf
    | succ n14 ih14 =>
      have K63 : ∀ (x1 : Int32) (x2 : Int32) (x3 : Int32) (σ : pw_S), fX3_freeByClock_63 (fX3_freeByClock_14 n14) x1 x2 x3 σ = some (r, σ') → mw_K p l e ({ frames := 3, cells := 0, slots := 0, locals := 73 }) s m args below meth c (MQ below (pw_Qi D cA shP 12 A ad r σ') args s 0 0 A) A D cA shP 12 ad 4 63 0 0 [(0, .ref (ad 0)), (1, .int (x1)), (2, .int (x2)), (3, .int (x3))] [] σ := by
        intro x1 x2 x3 σ hf H locs ls hG hS hl
        unfold fX3_freeByClock_63 at hf
        refine lv_iinc (v := x3 + 1) (lv' := [(3, .int (x3 + 1)), (0, .ref (ad 0)), (1, .int (x1)), (2, .int (x2))]) hx hb dX3_freeByClock_63 hl (k := 3) rfl rfl (by decide) rfl (fun ls hl => ?_)
        refine lv_goto (tgt := 14) hx hb dX3_freeByClock_66 (by decide) ?_
        exact ih14 _ _ _ _ hf _ _ _ hG hS (lv_sub hl [1, 2, 3, 0] rfl)
      intro x1 x2 x3 σ hf H locs ls hG hS hl
      have hf : fX3_freeByClock_14_b (fX3_freeByClock_14 n14) x1 x2 x3 σ = some (r, σ') := hf
      unfold fX3_freeByClock_14_b at hf
      refine lv_iload_n hx hb dX3_freeByClock_14 rfl (lv_at hl 3 rfl) ?_
      refine lv_iload_n hx hb dX3_freeByClock_15 rfl (lv_at hl 2 rfl) ?_
      refine lv_icmp_ge (tgt := 69) hx hb dX3_freeByClock_16 (by decide) (fun c30 => ?_) (fun c30 => ?_)
      · have hf := it_pos c30 hf
        exact K69 _ _ hf _ _ _ hG hS (lv_sub hl [0, 1] rfl)
      · have hf := it_neg c30 hf
        refine lv_iload_n hx hb dX3_freeByClock_19 rfl (lv_at hl 1 rfl) ?_
        refine lv_iconst (v := (-1)) hx hb dX3_freeByClock_20 (by decide) ?_
        refine lv_icmp_ne (tgt := 69) hx hb dX3_freeByClock_21 (by decide) (fun c31 => ?_) (fun c31 => ?_)
        · have hf := it_neg c31 hf
          exact K69 _ _ hf _ _ _ hG hS (lv_sub hl [0, 1] rfl)
        · have hf := it_pos c31 hf
          refine lv_aload_n hx hb dX3_freeByClock_24 rfl (lv_at hl 0 rfl) ?_
          refine lv_aload_n hx hb dX3_freeByClock_25 rfl (lv_at hl 0 rfl) ?_
          refine mw_getl hx hb hts hown hK hG inlX3 rfl (hG.fix (by decide)) rfl 3 (by decide) 4 rfl wA_21 dX3_freeByClock_26 ?_
          refine mw_geti hx hb hts hown hK hG inlX1 rfl (hG.fix (by decide)) rfl 4 (by decide) rfl wA_84 dX3_freeByClock_29 ?_
          obtain ⟨r32, σ33, hc34, hf⟩ := bnd_some hf
          refine mc_i (mc_V (As := [.int ((gi σ 4 4))]) hC hK hA hX hG hS (kX3_givesWayWhenLookedAt l D cA A ad hc34) ykX3_givesWayWhenLookedAt wA_396 wA_397 wA_398 (hG.fix (by decide)) rfl rfl ⟨rfl, rfl, Nat.le_of_ble_eq_true rfl, Nat.le_of_ble_eq_true rfl⟩ rfl hl.1 rfl (Nat.le_of_ble_eq_true rfl) dX3_freeByClock_32 ⟨Nat.le_of_ble_eq_true rfl, Nat.le_of_ble_eq_true rfl⟩) hS (fun H locs hG hS => ?_)
          refine lv_if_eq (tgt := 49) hx hb dX3_freeByClock_35 (by decide) (fun c35 => ?_) (fun c35 => ?_)
          · have hf := it_pos c35 hf
            refine lv_aload_n hx hb dX3_freeByClock_49 rfl (lv_at hl 0 rfl) ?_
            refine mw_getl hx hb hts hown hK hG inlX3 rfl (hG.fix (by decide)) rfl 3 (by decide) 4 rfl wA_21 dX3_freeByClock_50 ?_
            refine lv_aload_n hx hb dX3_freeByClock_53 rfl (lv_at hl 0 rfl) ?_
            refine mw_getl hx hb hts hown hK hG inlX3 rfl (hG.fix (by decide)) rfl 3 (by decide) 4 rfl wA_21 dX3_freeByClock_54 ?_
            refine mw_geti hx hb hts hown hK hG inlX1 rfl (hG.fix (by decide)) rfl 4 (by decide) rfl wA_84 dX3_freeByClock_57 ?_
            obtain ⟨r36, σ37, hc38, hf⟩ := bnd_some hf
            refine mc_v (mc_V (As := [.int ((gi σ33 4 4))]) hC hK hA hX hG hS (kX1_moveHandBehind l D cA A ad hc38) ykX1_moveHandBehind wA_429 wA_430 wA_431 (hG.fix (by decide)) rfl rfl ⟨rfl, rfl, Nat.le_of_ble_eq_true rfl, Nat.le_of_ble_eq_true rfl⟩ rfl hl.1 rfl (Nat.le_of_ble_eq_true rfl) dX3_freeByClock_60 ⟨Nat.le_of_ble_eq_true rfl, Nat.le_of_ble_eq_true rfl⟩) hS (fun H locs hG hS => ?_)
            exact K63 _ _ _ _ hf _ _ _ hG hS (lv_sub hl [0, 1, 2, 3] rfl)
          · have hf := it_neg c35 hf
            refine lv_aload_n hx hb dX3_freeByClock_38 rfl (lv_at hl 0 rfl) ?_
            refine mw_getl hx hb hts hown hK hG inlX3 rfl (hG.fix (by decide)) rfl 3 (by decide) 4 rfl wA_21 dX3_freeByClock_39 ?_
            refine mw_geti hx hb hts hown hK hG inlX1 rfl (hG.fix (by decide)) rfl 4 (by decide) rfl wA_84 dX3_freeByClock_42 ?_
            refine lv_istore_n (lv' := [(1, .int ((gi σ33 4 4))), (0, .ref (ad 0)), (2, .int (x2)), (3, .int (x3))]) hx hb dX3_freeByClock_45 rfl hl (by decide) rfl (fun ls hl => ?_)
            refine lv_goto (tgt := 63) hx hb dX3_freeByClock_46 (by decide) ?_
            exact K63 _ _ _ _ hf _ _ _ hG hS (lv_sub hl [1, 0, 2, 3] rfl)
  have hl : lv_has ls 4 [(0, .ref (ad 0))] := hl
  unfold fX3_freeByClock at hf
  refine lv_iconst (v := (-1)) hx hb dX3_freeByClock_0 (by decide) ?_
  refine lv_istore_n (lv' := [(1, .int ((-1))), (0, .ref (ad 0))]) hx hb dX3_freeByClock_1 rfl hl (by decide) rfl (fun ls hl => ?_)
  refine lv_iconst (v := 2) hx hb dX3_freeByClock_2 (by decide) ?_
  refine lv_aload_n hx hb dX3_freeByClock_3 rfl (lv_at hl 1 rfl) ?_
  refine mw_getl hx hb hts hown hK hG inlX3 rfl (hG.fix (by decide)) rfl 3 (by decide) 4 rfl wA_21 dX3_freeByClock_4 ?_
  refine mw_geti hx hb hts hown hK hG inlX1 rfl (hG.fix (by decide)) rfl 3 (by decide) rfl wA_83 dX3_freeByClock_7 ?_
  refine lv_imul hx hb dX3_freeByClock_10 ?_
  refine lv_istore_n (lv' := [(2, .int ((2 * (gi σ 4 3)))), (1, .int ((-1))), (0, .ref (ad 0))]) hx hb dX3_freeByClock_11 rfl hl (by decide) rfl (fun ls hl => ?_)
  refine lv_iconst (v := 0) hx hb dX3_freeByClock_12 (by decide) ?_
  refine lv_istore_n (lv' := [(3, .int (0)), (2, .int ((2 * (gi σ 4 3)))), (1, .int ((-1))), (0, .ref (ad 0))]) hx hb dX3_freeByClock_13 rfl hl (by decide) rfl (fun ls hl => ?_)
  exact K14 1000 _ _ _ _ hf _ _ _ hG hS (lv_sub hl [3, 2, 1, 0] rfl)
def fX3_giveFrame_18 (x1 : Nat) (x2 : Int32) (x3 : Int32) (σ : pw_S) : Option (Unit × pw_S) := bnd (fX1_put x1 x3 ((gi σ 0 10)) σ) (fun r2 σ3 => ck (inb (x2) (6)) (ck (inb (x2) (6)) (ld (si σ3 11 (Int32.toNatClampNeg (x2)) (((gi σ3 11 (Int32.toNatClampNeg (x2))) + 1))) (fun σ7 => some ((), σ7)))))
def fX3_giveFrame (a1 : Nat) (a2 : Int32) (σ : pw_S) : Option (Unit × pw_S) := bnd (fX1_smallestFree σ) (fun r9 σ10 => (if r9 = (-1) then bnd (fX3_freeByClock σ10) (fun r13 σ14 => fX3_giveFrame_18 a1 a2 r13 σ14) else fX3_giveFrame_18 a1 a2 r9 σ10))
set_option maxHeartbeats 4000000 in
set_option maxRecDepth 100000 in
theorem kX3_giveFrame (l : Launch) (D : va_G) (cA : Nat → ClassId) (A : Nat → Prop) (ad : Nat → Nat) {σ σ' : pw_S} {r : Unit} {a1 : Nat} {a2 : Int32} (hf : fX3_giveFrame a1 a2 σ = some (r, σ')) : Met l yX3_giveFrame (wA yX3_giveFrame cX3_giveFrame 4 none) ({ frames := 4, cells := 0, slots := 0, locals := 96 }) (pw_Pc D cA shP 12 A ad σ [.ref (ad 0), .ref (ad a1), .int (a2)]) (pw_Qv D cA shP 12 A ad r σ') 0 0 A := by
  refine mw_enter (own := RX3) (by decide) rfl (Nat.le_of_ble_eq_true rfl) ?_
  intro p e s m args below meth c ls hC hr hlocks hK hA hX hG hS hl
  obtain ⟨hx, hb, hml, hown, hts⟩ := id hC
  have K18 : ∀ (x1 : Nat) (x2 : Int32) (x3 : Int32) (σ : pw_S), fX3_giveFrame_18 x1 x2 x3 σ = some (r, σ') → mw_K p l e ({ frames := 4, cells := 0, slots := 0, locals := 96 }) s m args below meth c (MQ below (pw_Qv D cA shP 12 A ad r σ') args s 0 0 A) A D cA shP 12 ad 4 18 0 0 [(0, .ref (ad 0)), (1, .ref (ad x1)), (2, .int (x2)), (3, .int (x3))] [] σ := by
    intro x1 x2 x3 σ hf H locs ls hG hS hl
    unfold fX3_giveFrame_18 at hf
    refine lv_aload_n hx hb dX3_giveFrame_18 rfl (lv_at hl 0 rfl) ?_
    refine mw_getl hx hb hts hown hK hG inlX3 rfl (hG.fix (by decide)) rfl 3 (by decide) 4 rfl wA_21 dX3_giveFrame_19 ?_
    refine lv_aload_n hx hb dX3_giveFrame_22 rfl (lv_at hl 1 rfl) ?_
    refine lv_iload_n hx hb dX3_giveFrame_23 rfl (lv_at hl 3 rfl) ?_
    refine lv_aload_n hx hb dX3_giveFrame_24 rfl (lv_at hl 0 rfl) ?_
    refine mw_geti hx hb hts hown hK hG inlX3 rfl (hG.fix (by decide)) rfl 10 (by decide) rfl wA_32 dX3_giveFrame_25 ?_
    obtain ⟨r2, σ3, hc4, hf⟩ := bnd_some hf
    refine mc_v (mc_V (As := [.ref (ad x1), .int (x3), .int ((gi σ 0 10))]) hC hK hA hX hG hS (kX1_put l D cA A ad hc4) ykX1_put wA_437 wA_438 wA_439 (hG.fix (by decide)) rfl rfl ⟨rfl, rfl, Nat.le_of_ble_eq_true rfl, Nat.le_of_ble_eq_true rfl⟩ rfl hl.1 rfl (Nat.le_of_ble_eq_true rfl) dX3_giveFrame_28 ⟨Nat.le_of_ble_eq_true rfl, Nat.le_of_ble_eq_true rfl⟩) hS (fun H locs hG hS => ?_)
    refine lv_aload_n hx hb dX3_giveFrame_31 rfl (lv_at hl 0 rfl) ?_
    refine mw_getl hx hb hts hown hK hG inlX3 rfl (hG.fix (by decide)) rfl 6 (by decide) 11 rfl wA_28 dX3_giveFrame_32 ?_
    refine lv_iload_n hx hb dX3_giveFrame_35 rfl (lv_at hl 2 rfl) ?_
    refine lv_dup2_11 hx hb dX3_giveFrame_36 rfl rfl ?_
    obtain ⟨h5, hf⟩ := ck_some hf
    refine mw_iald hx hb hK hG (hG.fix (by decide)) rfl (inb_in h5) dX3_giveFrame_37 ?_
    refine lv_iconst (v := 1) hx hb dX3_giveFrame_38 (by decide) ?_
    refine lv_iadd hx hb dX3_giveFrame_39 ?_
    obtain ⟨h6, hf⟩ := ck_some hf
    refine mw_iast hx hb hK hG hS (hG.fix (by decide)) rfl (inb_in h6) dX3_giveFrame_40 (fun H locs hG hS => ?_)
    obtain ⟨σ7, e8, hf⟩ := ld_some hf
    rw [← e8] at hG
    clear e8
    exact mr_v hC hr hlocks hG hS hf (Nat.le_of_ble_eq_true rfl) (Nat.le_of_ble_eq_true rfl) dX3_giveFrame_41
  have hl : lv_has ls 4 [(0, .ref (ad 0)), (1, .ref (ad a1)), (2, .int (a2))] := hl
  unfold fX3_giveFrame at hf
  refine lv_aload_n hx hb dX3_giveFrame_0 rfl (lv_at hl 0 rfl) ?_
  refine mw_getl hx hb hts hown hK hG inlX3 rfl (hG.fix (by decide)) rfl 3 (by decide) 4 rfl wA_21 dX3_giveFrame_1 ?_
  obtain ⟨r9, σ10, hc11, hf⟩ := bnd_some hf
  refine mc_i (mc_V (As := []) hC hK hA hX hG hS (kX1_smallestFree l D cA A ad hc11) ykX1_smallestFree wA_369 wA_370 wA_371 (hG.fix (by decide)) rfl rfl ⟨rfl, rfl, Nat.le_of_ble_eq_true rfl, Nat.le_of_ble_eq_true rfl⟩ rfl hl.1 rfl (Nat.le_of_ble_eq_true rfl) dX3_giveFrame_4 ⟨Nat.le_of_ble_eq_true rfl, Nat.le_of_ble_eq_true rfl⟩) hS (fun H locs hG hS => ?_)
  refine lv_istore_n (lv' := [(3, .int (r9)), (0, .ref (ad 0)), (1, .ref (ad a1)), (2, .int (a2))]) hx hb dX3_giveFrame_7 rfl hl (by decide) rfl (fun ls hl => ?_)
  refine lv_iload_n hx hb dX3_giveFrame_8 rfl (lv_at hl 0 rfl) ?_
  refine lv_iconst (v := (-1)) hx hb dX3_giveFrame_9 (by decide) ?_
  refine lv_icmp_ne (tgt := 18) hx hb dX3_giveFrame_10 (by decide) (fun c12 => ?_) (fun c12 => ?_)
  · have hf := it_neg c12 hf
    exact K18 _ _ _ _ hf _ _ _ hG hS (lv_sub hl [1, 2, 3, 0] rfl)
  · have hf := it_pos c12 hf
    refine lv_aload_n hx hb dX3_giveFrame_13 rfl (lv_at hl 1 rfl) ?_
    obtain ⟨r13, σ14, hc15, hf⟩ := bnd_some hf
    refine mc_i (mc_V (As := []) hC hK hA hX hG hS (kX3_freeByClock l D cA A ad hc15) ykX3_freeByClock wA_391 wA_392 wA_393 (hG.fix (by decide)) rfl rfl ⟨rfl, rfl, Nat.le_of_ble_eq_true rfl, Nat.le_of_ble_eq_true rfl⟩ rfl hl.1 rfl (Nat.le_of_ble_eq_true rfl) dX3_giveFrame_14 ⟨Nat.le_of_ble_eq_true rfl, Nat.le_of_ble_eq_true rfl⟩) hS (fun H locs hG hS => ?_)
    refine lv_istore_n (lv' := [(3, .int (r13)), (0, .ref (ad 0)), (1, .ref (ad a1)), (2, .int (a2))]) hx hb dX3_giveFrame_17 rfl hl (by decide) rfl (fun ls hl => ?_)
    exact K18 _ _ _ _ hf _ _ _ hG hS (lv_sub hl [1, 2, 3, 0] rfl)
def fX3_prefetchBehind_84 (σ : pw_S) : Option (Unit × pw_S) := some ((), σ)
def fX3_prefetchBehind_78 (bk4 : Int32 → Int32 → pw_S → Option (Unit × pw_S)) (x1 : Int32) (x2 : Int32) (σ : pw_S) : Option (Unit × pw_S) := bk4 x1 (x2 + 1) σ
def fX3_prefetchBehind_4_b (bk4 : Int32 → Int32 → pw_S → Option (Unit × pw_S)) (x1 : Int32) (x2 : Int32) (σ : pw_S) : Option (Unit × pw_S) := (if (x1 + 3) < x2 then fX3_prefetchBehind_84 σ else (if 24 ≤ x2 then fX3_prefetchBehind_84 σ else ck (inb (x2) (24)) (ld (gr σ 9 (Int32.toNatClampNeg (x2))) (fun o10 => bnd (fX1_smallestFree σ) (fun r12 σ13 => oc o10 (fX3_prefetchBehind_78 bk4 x1 x2 σ13) (fun q15 => ck (okc σ13 q15) ((if (gi σ13 q15 3) = (-1) then (if r12 = (-1) then fX3_prefetchBehind_78 bk4 x1 x2 σ13 else bnd (fX1_put q15 r12 ((gi σ13 0 10)) σ13) (fun r20 σ21 => ck (inb (3) (6)) (ck (inb (3) (6)) (ld (si σ21 11 (Int32.toNatClampNeg (3)) (((gi σ21 11 (Int32.toNatClampNeg (3))) + 1))) (fun σ25 => fX3_prefetchBehind_78 bk4 x1 x2 σ25))))) else fX3_prefetchBehind_78 bk4 x1 x2 σ13))))))))
def fX3_prefetchBehind_4 : Nat → Int32 → Int32 → pw_S → Option (Unit × pw_S)
  | 0, _, _, _ => none
  | n + 1, x1, x2, σ => fX3_prefetchBehind_4_b (fX3_prefetchBehind_4 n) x1 x2 σ
def fX3_prefetchBehind (a1 : Int32) (σ : pw_S) : Option (Unit × pw_S) := fX3_prefetchBehind_4 1000 a1 ((a1 + 1)) σ
set_option maxHeartbeats 4000000 in
set_option maxRecDepth 100000 in
theorem kX3_prefetchBehind (l : Launch) (D : va_G) (cA : Nat → ClassId) (A : Nat → Prop) (ad : Nat → Nat) {σ σ' : pw_S} {r : Unit} {a1 : Int32} (hf : fX3_prefetchBehind a1 σ = some (r, σ')) : Met l yX3_prefetchBehind (wA yX3_prefetchBehind cX3_prefetchBehind 5 none) ({ frames := 1, cells := 0, slots := 0, locals := 23 }) (pw_Pc D cA shP 12 A ad σ [.ref (ad 0), .int (a1)]) (pw_Qv D cA shP 12 A ad r σ') 0 0 A := by
  refine mw_enter (own := RX3) (by decide) rfl (Nat.le_of_ble_eq_true rfl) ?_
  intro p e s m args below meth c ls hC hr hlocks hK hA hX hG hS hl
  obtain ⟨hx, hb, hml, hown, hts⟩ := id hC
  have K84 : ∀ (σ : pw_S), fX3_prefetchBehind_84  σ = some (r, σ') → mw_K p l e ({ frames := 1, cells := 0, slots := 0, locals := 23 }) s m args below meth c (MQ below (pw_Qv D cA shP 12 A ad r σ') args s 0 0 A) A D cA shP 12 ad 5 84 0 0 [] [] σ := by
    intro  σ hf H locs ls hG hS hl
    unfold fX3_prefetchBehind_84 at hf
    exact mr_v hC hr hlocks hG hS hf (Nat.le_of_ble_eq_true rfl) (Nat.le_of_ble_eq_true rfl) dX3_prefetchBehind_84
  have K4 : ∀ (n4 : Nat) (x1 : Int32) (x2 : Int32) (σ : pw_S), fX3_prefetchBehind_4 n4 x1 x2 σ = some (r, σ') → mw_K p l e ({ frames := 1, cells := 0, slots := 0, locals := 23 }) s m args below meth c (MQ below (pw_Qv D cA shP 12 A ad r σ') args s 0 0 A) A D cA shP 12 ad 5 4 0 0 [(0, .ref (ad 0)), (1, .int (x1)), (2, .int (x2))] [] σ := by
    intro n4
    induction n4 with
    | zero => intro x1 x2 σ hf; cases hf
    | succ n4 ih4 =>
      have K78 : ∀ (x1 : Int32) (x2 : Int32) (σ : pw_S), fX3_prefetchBehind_78 (fX3_prefetchBehind_4 n4) x1 x2 σ = some (r, σ') → mw_K p l e ({ frames := 1, cells := 0, slots := 0, locals := 23 }) s m args below meth c (MQ below (pw_Qv D cA shP 12 A ad r σ') args s 0 0 A) A D cA shP 12 ad 5 78 0 0 [(0, .ref (ad 0)), (1, .int (x1)), (2, .int (x2))] [] σ := by
        intro x1 x2 σ hf H locs ls hG hS hl
        unfold fX3_prefetchBehind_78 at hf
        refine lv_iinc (v := x2 + 1) (lv' := [(2, .int (x2 + 1)), (0, .ref (ad 0)), (1, .int (x1))]) hx hb dX3_prefetchBehind_78 hl (k := 2) rfl rfl (by decide) rfl (fun ls hl => ?_)
        refine lv_goto (tgt := 4) hx hb dX3_prefetchBehind_81 (by decide) ?_
        exact ih4 _ _ _ hf _ _ _ hG hS (lv_sub hl [1, 2, 0] rfl)
      intro x1 x2 σ hf H locs ls hG hS hl
      have hf : fX3_prefetchBehind_4_b (fX3_prefetchBehind_4 n4) x1 x2 σ = some (r, σ') := hf
      unfold fX3_prefetchBehind_4_b at hf
      refine lv_iload_n hx hb dX3_prefetchBehind_4 rfl (lv_at hl 2 rfl) ?_
      refine lv_iload_n hx hb dX3_prefetchBehind_5 rfl (lv_at hl 1 rfl) ?_
      refine lv_iconst (v := 3) hx hb dX3_prefetchBehind_6 (by decide) ?_
      refine lv_iadd hx hb dX3_prefetchBehind_7 ?_
      refine lv_icmp_gt (tgt := 84) hx hb dX3_prefetchBehind_8 (by decide) (fun c7 => ?_) (fun c7 => ?_)
      · have hf := it_pos c7 hf
        exact K84 _ hf _ _ _ hG hS (lv_sub hl [] rfl)
      · have hf := it_neg c7 hf
        refine lv_iload_n hx hb dX3_prefetchBehind_11 rfl (lv_at hl 2 rfl) ?_
        refine lv_bipush (v := 24) hx hb dX3_prefetchBehind_12 (by decide) ?_
        refine lv_icmp_ge (tgt := 84) hx hb dX3_prefetchBehind_14 (by decide) (fun c8 => ?_) (fun c8 => ?_)
        · have hf := it_pos c8 hf
          exact K84 _ hf _ _ _ hG hS (lv_sub hl [] rfl)
        · have hf := it_neg c8 hf
          refine lv_aload_n hx hb dX3_prefetchBehind_17 rfl (lv_at hl 0 rfl) ?_
          refine mw_getl hx hb hts hown hK hG inlX3 rfl (hG.fix (by decide)) rfl 4 (by decide) 8 rfl wA_25 dX3_prefetchBehind_18 ?_
          refine mw_getl hx hb hts hown hK hG inlX2 rfl (hG.fix (by decide)) rfl 0 (by decide) 9 rfl wA_445 dX3_prefetchBehind_21 ?_
          refine lv_iload_n hx hb dX3_prefetchBehind_24 rfl (lv_at hl 2 rfl) ?_
          obtain ⟨h9, hf⟩ := ck_some hf
          obtain ⟨o10, e11, hf⟩ := ld_some hf
          refine mw_aald hx hb hK hG (hG.fix (by decide)) rfl (inb_in h9) dX3_prefetchBehind_25 ?_
          rw [← e11]
          clear e11
          refine mq_astore_n (lv' := [(3, va_rf (Option.map ad o10)), (0, .ref (ad 0)), (1, .int (x1)), (2, .int (x2))]) hx hb dX3_prefetchBehind_26 rfl hl (by decide) rfl (fun ls hl => ?_)
          refine lv_aload_n hx hb dX3_prefetchBehind_27 rfl (lv_at hl 1 rfl) ?_
          refine mw_getl hx hb hts hown hK hG inlX3 rfl (hG.fix (by decide)) rfl 3 (by decide) 4 rfl wA_21 dX3_prefetchBehind_28 ?_
          obtain ⟨r12, σ13, hc14, hf⟩ := bnd_some hf
          refine mc_i (mc_V (As := []) hC hK hA hX hG hS (kX1_smallestFree l D cA A ad hc14) ykX1_smallestFree wA_369 wA_370 wA_371 (hG.fix (by decide)) rfl rfl ⟨rfl, rfl, Nat.le_of_ble_eq_true rfl, Nat.le_of_ble_eq_true rfl⟩ rfl hl.1 rfl (Nat.le_of_ble_eq_true rfl) dX3_prefetchBehind_31 ⟨Nat.le_of_ble_eq_true rfl, Nat.le_of_ble_eq_true rfl⟩) hS (fun H locs hG hS => ?_)
          refine lv_istore (lv' := [(4, .int (r12)), (3, va_rf (Option.map ad o10)), (0, .ref (ad 0)), (1, .int (x1)), (2, .int (x2))]) hx hb dX3_prefetchBehind_34 hl (by decide) (by cases o10 <;> rfl) (fun ls hl => ?_)
          refine mq_aload_n hx hb dX3_prefetchBehind_36 rfl (lv_at hl 1 rfl) ?_
          refine mq_ifnull (tgt := 78) hx hb dX3_prefetchBehind_37 (by decide) (fun c16 => ?_) (fun q15 c16 => ?_)
          · subst c16
            have hl : lv_has ls 5 [(4, .int (r12)), (3, .null), (0, .ref (ad 0)), (1, .int (x1)), (2, .int (x2))] := hl
            have hf := oc_none hf
            exact K78 _ _ _ hf _ _ _ hG hS (lv_sub hl [2, 3, 4] rfl)
          · subst c16
            have hl : lv_has ls 5 [(4, .int (r12)), (3, .ref (ad q15)), (0, .ref (ad 0)), (1, .int (x1)), (2, .int (x2))] := hl
            have hf := oc_some hf
            refine lv_aload_n hx hb dX3_prefetchBehind_40 rfl (lv_at hl 1 rfl) ?_
            obtain ⟨h17, hf⟩ := ck_some hf
            refine mw_geti hx hb hts hown hK hG inlX0 rfl (okc_lt h17) (shP_c h17) 3 (by decide) rfl wA_191 dX3_prefetchBehind_41 ?_
            refine lv_iconst (v := (-1)) hx hb dX3_prefetchBehind_44 (by decide) ?_
            refine lv_icmp_ne (tgt := 78) hx hb dX3_prefetchBehind_45 (by decide) (fun c18 => ?_) (fun c18 => ?_)
            · have hf := it_neg c18 hf
              exact K78 _ _ _ hf _ _ _ hG hS (lv_sub hl [2, 3, 4] rfl)
            · have hf := it_pos c18 hf
              refine lv_iload hx hb dX3_prefetchBehind_48 (lv_at hl 0 rfl) ?_
              refine lv_iconst (v := (-1)) hx hb dX3_prefetchBehind_50 (by decide) ?_
              refine lv_icmp_eq (tgt := 78) hx hb dX3_prefetchBehind_51 (by decide) (fun c19 => ?_) (fun c19 => ?_)
              · have hf := it_pos c19 hf
                exact K78 _ _ _ hf _ _ _ hG hS (lv_sub hl [2, 3, 4] rfl)
              · have hf := it_neg c19 hf
                refine lv_aload_n hx hb dX3_prefetchBehind_54 rfl (lv_at hl 2 rfl) ?_
                refine mw_getl hx hb hts hown hK hG inlX3 rfl (hG.fix (by decide)) rfl 3 (by decide) 4 rfl wA_21 dX3_prefetchBehind_55 ?_
                refine lv_aload_n hx hb dX3_prefetchBehind_58 rfl (lv_at hl 1 rfl) ?_
                refine lv_iload hx hb dX3_prefetchBehind_59 (lv_at hl 0 rfl) ?_
                refine lv_aload_n hx hb dX3_prefetchBehind_61 rfl (lv_at hl 2 rfl) ?_
                refine mw_geti hx hb hts hown hK hG inlX3 rfl (hG.fix (by decide)) rfl 10 (by decide) rfl wA_32 dX3_prefetchBehind_62 ?_
                obtain ⟨r20, σ21, hc22, hf⟩ := bnd_some hf
                refine mc_v (mc_V (As := [.ref (ad q15), .int (r12), .int ((gi σ13 0 10))]) hC hK hA hX hG hS (kX1_put l D cA A ad hc22) ykX1_put wA_437 wA_438 wA_439 (hG.fix (by decide)) rfl rfl ⟨rfl, rfl, Nat.le_of_ble_eq_true rfl, Nat.le_of_ble_eq_true rfl⟩ rfl hl.1 rfl (Nat.le_of_ble_eq_true rfl) dX3_prefetchBehind_65 ⟨Nat.le_of_ble_eq_true rfl, Nat.le_of_ble_eq_true rfl⟩) hS (fun H locs hG hS => ?_)
                refine lv_aload_n hx hb dX3_prefetchBehind_68 rfl (lv_at hl 2 rfl) ?_
                refine mw_getl hx hb hts hown hK hG inlX3 rfl (hG.fix (by decide)) rfl 6 (by decide) 11 rfl wA_28 dX3_prefetchBehind_69 ?_
                refine lv_iconst (v := 3) hx hb dX3_prefetchBehind_72 (by decide) ?_
                refine lv_dup2_11 hx hb dX3_prefetchBehind_73 rfl rfl ?_
                obtain ⟨h23, hf⟩ := ck_some hf
                refine mw_iald hx hb hK hG (hG.fix (by decide)) rfl (inb_in h23) dX3_prefetchBehind_74 ?_
                refine lv_iconst (v := 1) hx hb dX3_prefetchBehind_75 (by decide) ?_
                refine lv_iadd hx hb dX3_prefetchBehind_76 ?_
                obtain ⟨h24, hf⟩ := ck_some hf
                refine mw_iast hx hb hK hG hS (hG.fix (by decide)) rfl (inb_in h24) dX3_prefetchBehind_77 (fun H locs hG hS => ?_)
                obtain ⟨σ25, e26, hf⟩ := ld_some hf
                rw [← e26] at hG
                clear e26
                exact K78 _ _ _ hf _ _ _ hG hS (lv_sub hl [2, 3, 4] rfl)
  have hl : lv_has ls 5 [(0, .ref (ad 0)), (1, .int (a1))] := hl
  unfold fX3_prefetchBehind at hf
  refine lv_iload_n hx hb dX3_prefetchBehind_0 rfl (lv_at hl 1 rfl) ?_
  refine lv_iconst (v := 1) hx hb dX3_prefetchBehind_1 (by decide) ?_
  refine lv_iadd hx hb dX3_prefetchBehind_2 ?_
  refine lv_istore_n (lv' := [(2, .int ((a1 + 1))), (0, .ref (ad 0)), (1, .int (a1))]) hx hb dX3_prefetchBehind_3 rfl hl (by decide) rfl (fun ls hl => ?_)
  exact K4 1000 _ _ _ hf _ _ _ hG hS (lv_sub hl [1, 2, 0] rfl)
def fX3_bringIn (a1 : Nat) (σ : pw_S) : Option (Unit × pw_S) := ck (okc σ a1) ((if (gi σ a1 3) = (-1) then (if (gi σ a1 4) = (-1) then bnd (fX3_giveFrame a1 0 σ) (fun r13 σ14 => some ((), σ14)) else bnd (fX3_giveFrame a1 1 σ) (fun r6 σ7 => ck (okc σ7 a1) (bnd (fX3_prefetchBehind ((gi σ7 a1 4)) σ7) (fun r10 σ11 => some ((), σ11))))) else some ((), σ)))
set_option maxHeartbeats 4000000 in
set_option maxRecDepth 100000 in
theorem kX3_bringIn (l : Launch) (D : va_G) (cA : Nat → ClassId) (A : Nat → Prop) (ad : Nat → Nat) {σ σ' : pw_S} {r : Unit} {a1 : Nat} (hf : fX3_bringIn a1 σ = some (r, σ')) : Met l yX3_bringIn (wA yX3_bringIn cX3_bringIn 2 none) ({ frames := 5, cells := 0, slots := 0, locals := 119 }) (pw_Pc D cA shP 12 A ad σ [.ref (ad 0), .ref (ad a1)]) (pw_Qv D cA shP 12 A ad r σ') 0 0 A := by
  refine mw_enter (own := RX3) (by decide) rfl (Nat.le_of_ble_eq_true rfl) ?_
  intro p e s m args below meth c ls hC hr hlocks hK hA hX hG hS hl
  obtain ⟨hx, hb, hml, hown, hts⟩ := id hC
  have hl : lv_has ls 2 [(0, .ref (ad 0)), (1, .ref (ad a1))] := hl
  unfold fX3_bringIn at hf
  refine lv_aload_n hx hb dX3_bringIn_0 rfl (lv_at hl 1 rfl) ?_
  obtain ⟨h3, hf⟩ := ck_some hf
  refine mw_geti hx hb hts hown hK hG inlX0 rfl (okc_lt h3) (shP_c h3) 3 (by decide) rfl wA_191 dX3_bringIn_1 ?_
  refine lv_iconst (v := (-1)) hx hb dX3_bringIn_4 (by decide) ?_
  refine lv_icmp_eq (tgt := 9) hx hb dX3_bringIn_5 (by decide) (fun c4 => ?_) (fun c4 => ?_)
  · have hf := it_pos c4 hf
    refine lv_aload_n hx hb dX3_bringIn_9 rfl (lv_at hl 1 rfl) ?_
    refine mw_geti hx hb hts hown hK hG inlX0 rfl (okc_lt h3) (shP_c h3) 4 (by decide) rfl wA_386 dX3_bringIn_10 ?_
    refine lv_iconst (v := (-1)) hx hb dX3_bringIn_13 (by decide) ?_
    refine lv_icmp_ne (tgt := 24) hx hb dX3_bringIn_14 (by decide) (fun c5 => ?_) (fun c5 => ?_)
    · have hf := it_neg c5 hf
      refine lv_aload_n hx hb dX3_bringIn_24 rfl (lv_at hl 0 rfl) ?_
      refine lv_aload_n hx hb dX3_bringIn_25 rfl (lv_at hl 1 rfl) ?_
      refine lv_iconst (v := 1) hx hb dX3_bringIn_26 (by decide) ?_
      obtain ⟨r6, σ7, hc8, hf⟩ := bnd_some hf
      refine mc_v (mc_V (As := [.ref (ad a1), .int (1)]) hC hK hA hX hG hS (kX3_giveFrame l D cA A ad hc8) ykX3_giveFrame wA_387 wA_388 wA_389 (hG.fix (by decide)) rfl rfl ⟨rfl, rfl, Nat.le_of_ble_eq_true rfl, Nat.le_of_ble_eq_true rfl⟩ rfl hl.1 rfl (Nat.le_of_ble_eq_true rfl) dX3_bringIn_27 ⟨Nat.le_of_ble_eq_true rfl, Nat.le_of_ble_eq_true rfl⟩) hS (fun H locs hG hS => ?_)
      refine lv_aload_n hx hb dX3_bringIn_30 rfl (lv_at hl 0 rfl) ?_
      refine lv_aload_n hx hb dX3_bringIn_31 rfl (lv_at hl 1 rfl) ?_
      obtain ⟨h9, hf⟩ := ck_some hf
      refine mw_geti hx hb hts hown hK hG inlX0 rfl (okc_lt h9) (shP_c h9) 4 (by decide) rfl wA_386 dX3_bringIn_32 ?_
      obtain ⟨r10, σ11, hc12, hf⟩ := bnd_some hf
      refine mc_v (mc_V (As := [.int ((gi σ7 a1 4))]) hC hK hA hX hG hS (kX3_prefetchBehind l D cA A ad hc12) ykX3_prefetchBehind wA_441 wA_442 wA_443 (hG.fix (by decide)) rfl rfl ⟨rfl, rfl, Nat.le_of_ble_eq_true rfl, Nat.le_of_ble_eq_true rfl⟩ rfl hl.1 rfl (Nat.le_of_ble_eq_true rfl) dX3_bringIn_35 ⟨Nat.le_of_ble_eq_true rfl, Nat.le_of_ble_eq_true rfl⟩) hS (fun H locs hG hS => ?_)
      exact mr_v hC hr hlocks hG hS hf (Nat.le_of_ble_eq_true rfl) (Nat.le_of_ble_eq_true rfl) dX3_bringIn_38
    · have hf := it_pos c5 hf
      refine lv_aload_n hx hb dX3_bringIn_17 rfl (lv_at hl 0 rfl) ?_
      refine lv_aload_n hx hb dX3_bringIn_18 rfl (lv_at hl 1 rfl) ?_
      refine lv_iconst (v := 0) hx hb dX3_bringIn_19 (by decide) ?_
      obtain ⟨r13, σ14, hc15, hf⟩ := bnd_some hf
      refine mc_v (mc_V (As := [.ref (ad a1), .int (0)]) hC hK hA hX hG hS (kX3_giveFrame l D cA A ad hc15) ykX3_giveFrame wA_387 wA_388 wA_389 (hG.fix (by decide)) rfl rfl ⟨rfl, rfl, Nat.le_of_ble_eq_true rfl, Nat.le_of_ble_eq_true rfl⟩ rfl hl.1 rfl (Nat.le_of_ble_eq_true rfl) dX3_bringIn_20 ⟨Nat.le_of_ble_eq_true rfl, Nat.le_of_ble_eq_true rfl⟩) hS (fun H locs hG hS => ?_)
      exact mr_v hC hr hlocks hG hS hf (Nat.le_of_ble_eq_true rfl) (Nat.le_of_ble_eq_true rfl) dX3_bringIn_23
  · have hf := it_neg c4 hf
    exact mr_v hC hr hlocks hG hS hf (Nat.le_of_ble_eq_true rfl) (Nat.le_of_ble_eq_true rfl) dX3_bringIn_8
def fX3_read_19 (x2 : Int32) (x3 : Nat) (σ : pw_S) : Option ((Int32 ⊕ String) × pw_S) := ld (si σ 0 10 (((gi σ 0 10) + 1))) (fun σ2 => bnd (fX3_bringIn x3 σ2) (fun r4 σ5 => ck (okc σ5 x3) (bnd (fX1_use ((gi σ5 x3 3)) ((gi σ5 0 10)) σ5) (fun r8 σ9 => ck (okc σ9 x3) (ck (inb ((x2 - x2 / 4 * 4)) (4)) (some (.inl ((gi σ9 (x3 + 1) (Int32.toNatClampNeg ((x2 - x2 / 4 * 4))))), σ9)))))))
def fX3_read (a1 : Int32) (a2 : Int32) (σ : pw_S) : Option ((Int32 ⊕ String) × pw_S) := bnx (fX3_requireAddressed a1 a2 σ) (fun r13 σ14 => ck (okc σ14 r13) ((if (gi σ14 r13 3) = (-1) then bnx (fX3_requireObtainableFrame σ14) (fun r22 σ23 => fX3_read_19 a2 r13 σ23) else fX3_read_19 a2 r13 σ14)))
set_option maxHeartbeats 4000000 in
set_option maxRecDepth 100000 in
theorem kX3_read (l : Launch) (D : va_G) (cA : Nat → ClassId) (A : Nat → Prop) (ad : Nat → Nat) (hlt : l.stackTraces = false) {σ σ' : pw_S} {r : (Int32 ⊕ String)} {a1 : Int32} {a2 : Int32} (hf : fX3_read a1 a2 σ = some (r, σ')) : vx_Met l yX3_read (wA yX3_read cX3_read 4 (some .int)) ({ frames := 8, cells := 4, slots := 24, locals := 140 }) (pw_Pc D cA shP 12 A ad σ [.ref (ad 0), .int (a1), .int (a2)]) (px_Qi D cA shP 12 A ad r σ') (px_X D cA shP 12 A ad r σ') 4 24 A := by
  refine mw_enterX (own := RX3) (by decide) rfl (Nat.le_of_ble_eq_true rfl) ?_
  intro p e s m args below meth c ls hC hr hlocks hout hK hA hX hG hS hl
  obtain ⟨hx, hb, hml, hown, hts⟩ := id hC
  have K19 : ∀ (x2 : Int32) (x3 : Nat) (σ : pw_S), fX3_read_19 x2 x3 σ = some (r, σ') → mw_K p l e ({ frames := 8, cells := 4, slots := 24, locals := 140 }) s m args below meth c (vx_MQ below (px_Qi D cA shP 12 A ad r σ') (px_X D cA shP 12 A ad r σ') args s 4 24 A) A D cA shP 12 ad 4 19 4 24 [(0, .ref (ad 0)), (2, .int (x2)), (3, .ref (ad x3))] [] σ := by
    intro x2 x3 σ hf H locs ls hG hS hl
    unfold fX3_read_19 at hf
    refine lv_aload_n hx hb dX3_read_19 rfl (lv_at hl 0 rfl) ?_
    refine lv_dup hx hb dX3_read_20 rfl ?_
    refine mw_geti hx hb hts hown hK hG inlX3 rfl (hG.fix (by decide)) rfl 10 (by decide) rfl wA_32 dX3_read_21 ?_
    refine lv_iconst (v := 1) hx hb dX3_read_24 (by decide) ?_
    refine lv_iadd hx hb dX3_read_25 ?_
    refine mw_puti hx hb hts hown hK hG hS inlX3 tyX3 tyX3_ok nmX3 rfl (hG.fix (by decide)) rfl 10 (by decide) rfl rfl rfl rfl wA_32 dX3_read_26 (fun H locs hG hS => ?_)
    obtain ⟨σ2, e3, hf⟩ := ld_some hf
    rw [← e3] at hG
    clear e3
    refine lv_aload_n hx hb dX3_read_29 rfl (lv_at hl 0 rfl) ?_
    refine lv_aload_n hx hb dX3_read_30 rfl (lv_at hl 2 rfl) ?_
    obtain ⟨r4, σ5, hc6, hf⟩ := bnd_some hf
    refine mc_v (mc_V (As := [.ref (ad x3)]) hC hK hA hX hG hS (kX3_bringIn l D cA A ad hc6) ykX3_bringIn wA_382 wA_383 wA_384 (hG.fix (by decide)) rfl rfl ⟨rfl, rfl, Nat.le_of_ble_eq_true rfl, Nat.le_of_ble_eq_true rfl⟩ rfl hl.1 rfl (Nat.le_of_ble_eq_true rfl) dX3_read_31 ⟨Nat.le_of_ble_eq_true rfl, Nat.le_of_ble_eq_true rfl⟩) hS (fun H locs hG hS => ?_)
    refine lv_aload_n hx hb dX3_read_34 rfl (lv_at hl 0 rfl) ?_
    refine mw_getl hx hb hts hown hK hG inlX3 rfl (hG.fix (by decide)) rfl 3 (by decide) 4 rfl wA_21 dX3_read_35 ?_
    refine lv_aload_n hx hb dX3_read_38 rfl (lv_at hl 2 rfl) ?_
    obtain ⟨h7, hf⟩ := ck_some hf
    refine mw_geti hx hb hts hown hK hG inlX0 rfl (okc_lt h7) (shP_c h7) 3 (by decide) rfl wA_191 dX3_read_39 ?_
    refine lv_aload_n hx hb dX3_read_42 rfl (lv_at hl 0 rfl) ?_
    refine mw_geti hx hb hts hown hK hG inlX3 rfl (hG.fix (by decide)) rfl 10 (by decide) rfl wA_32 dX3_read_43 ?_
    obtain ⟨r8, σ9, hc10, hf⟩ := bnd_some hf
    refine mc_v (mc_V (As := [.int ((gi σ5 x3 3)), .int ((gi σ5 0 10))]) hC hK hA hX hG hS (kX1_use l D cA A ad hc10) ykX1_use wA_446 wA_447 wA_448 (hG.fix (by decide)) rfl rfl ⟨rfl, rfl, Nat.le_of_ble_eq_true rfl, Nat.le_of_ble_eq_true rfl⟩ rfl hl.1 rfl (Nat.le_of_ble_eq_true rfl) dX3_read_46 ⟨Nat.le_of_ble_eq_true rfl, Nat.le_of_ble_eq_true rfl⟩) hS (fun H locs hG hS => ?_)
    refine lv_aload_n hx hb dX3_read_49 rfl (lv_at hl 2 rfl) ?_
    obtain ⟨h11, hf⟩ := ck_some hf
    refine mw_getl hx hb hts hown hK hG inlX0 rfl (okc_lt h11) (shP_c h11) 0 (by decide) (x3 + 1) rfl wA_360 dX3_read_50 ?_
    refine lv_iload_n hx hb dX3_read_53 rfl (lv_at hl 1 rfl) ?_
    refine lv_iconst (v := 4) hx hb dX3_read_54 (by decide) ?_
    refine lv_irem hx hb dX3_read_55 (by decide) ?_
    obtain ⟨h12, hf⟩ := ck_some hf
    refine mw_iald hx hb hK hG (okc_lw h11) (shP_w h11) (inb_in h12) dX3_read_56 ?_
    exact mrx_i hC hr hlocks hG hS hf (Nat.le_of_ble_eq_true rfl) (Nat.le_of_ble_eq_true rfl) dX3_read_57
  have hl : lv_has ls 4 [(0, .ref (ad 0)), (1, .int (a1)), (2, .int (a2))] := hl
  unfold fX3_read at hf
  refine lv_aload_n hx hb dX3_read_0 rfl (lv_at hl 0 rfl) ?_
  refine lv_iload_n hx hb dX3_read_1 rfl (lv_at hl 1 rfl) ?_
  refine lv_iload_n hx hb dX3_read_2 rfl (lv_at hl 2 rfl) ?_
  obtain ⟨z16, σ14, hc15, hi17, hx18⟩ := bnx_some hf
  refine mx_k (mx_V (As := [.int (a1), .int (a2)]) hC hK hA hX hG hS (kX3_requireAddressed l D cA A ad hlt hc15) ykX3_requireAddressed wA_361 wA_362 wA_363 (hG.fix (by decide)) rfl rfl ⟨rfl, rfl, Nat.le_of_ble_eq_true rfl, Nat.le_of_ble_eq_true rfl⟩ rfl hl.1 rfl (Nat.le_of_ble_eq_true rfl) dX3_read_3 ⟨Nat.le_of_ble_eq_true rfl, Nat.le_of_ble_eq_true rfl⟩) hS hout hlocks (bnx_x hx18) (Nat.le_of_ble_eq_true rfl) (Nat.le_of_ble_eq_true rfl) (fun r13 he19 H locs hG hS => ?_)
  have hf := hi17 r13 he19
  clear hi17 hx18
  refine lv_astore_n (lv' := [(3, .ref (ad r13)), (0, .ref (ad 0)), (1, .int (a1)), (2, .int (a2))]) hx hb dX3_read_6 rfl hl (by decide) rfl (fun ls hl => ?_)
  refine lv_aload_n hx hb dX3_read_7 rfl (lv_at hl 0 rfl) ?_
  obtain ⟨h20, hf⟩ := ck_some hf
  refine mw_geti hx hb hts hown hK hG inlX0 rfl (okc_lt h20) (shP_c h20) 3 (by decide) rfl wA_191 dX3_read_8 ?_
  refine lv_iconst (v := (-1)) hx hb dX3_read_11 (by decide) ?_
  refine lv_icmp_ne (tgt := 19) hx hb dX3_read_12 (by decide) (fun c21 => ?_) (fun c21 => ?_)
  · have hf := it_neg c21 hf
    refine W.widen (k := 4) (n := 24) (Nat.le_of_ble_eq_true rfl) (Nat.le_of_ble_eq_true rfl) ?_
    exact K19 _ _ _ hf _ _ _ hG hS (lv_sub hl [1, 3, 0] rfl)
  · have hf := it_pos c21 hf
    refine lv_aload_n hx hb dX3_read_15 rfl (lv_at hl 1 rfl) ?_
    obtain ⟨z25, σ23, hc24, hi26, hx27⟩ := bnx_some hf
    refine mx_v (mx_V (As := []) hC hK hA hX hG hS (kX3_requireObtainableFrame l D cA A ad hlt hc24) ykX3_requireObtainableFrame wA_365 wA_366 wA_367 (hG.fix (by decide)) rfl rfl ⟨rfl, rfl, Nat.le_of_ble_eq_true rfl, Nat.le_of_ble_eq_true rfl⟩ rfl hl.1 rfl (Nat.le_of_ble_eq_true rfl) dX3_read_16 ⟨Nat.le_of_ble_eq_true rfl, Nat.le_of_ble_eq_true rfl⟩) hS hout hlocks (bnx_x hx27) (Nat.le_of_ble_eq_true rfl) (Nat.le_of_ble_eq_true rfl) (fun r22 he28 H locs hG hS => ?_)
    have hf := hi26 r22 he28
    clear hi26 hx27
    exact K19 _ _ _ hf _ _ _ hG hS (lv_sub hl [1, 3, 0] rfl)
def fX3_sync_44 (bk4 : Int32 → Int32 → pw_S → Option (Int32 × pw_S)) (x1 : Int32) (x2 : Int32) (σ : pw_S) : Option (Int32 × pw_S) := bk4 x1 (x2 + 1) σ
def fX3_sync_4_b (bk4 : Int32 → Int32 → pw_S → Option (Int32 × pw_S)) (x1 : Int32) (x2 : Int32) (σ : pw_S) : Option (Int32 × pw_S) := (if (gi σ 4 3) ≤ x2 then some (x1, σ) else ck (inb (x2) (12)) (ld (gr σ 5 (Int32.toNatClampNeg (x2))) (fun o7 => oc o7 (fX3_sync_44 bk4 x1 x2 σ) (fun q9 => ck (okc σ q9) ((if (gi σ q9 5) = 0 then fX3_sync_44 bk4 x1 x2 σ else bnd (fX3_writeOut (some q9) σ) (fun r13 σ14 => fX3_sync_44 bk4 ((x1 + r13)) x2 σ14)))))))
def fX3_sync_4 : Nat → Int32 → Int32 → pw_S → Option (Int32 × pw_S)
  | 0, _, _, _ => none
  | n + 1, x1, x2, σ => fX3_sync_4_b (fX3_sync_4 n) x1 x2 σ
def fX3_sync (σ : pw_S) : Option (Int32 × pw_S) := fX3_sync_4 1000 0 0 σ
set_option maxHeartbeats 4000000 in
set_option maxRecDepth 100000 in
theorem kX3_sync (l : Launch) (D : va_G) (cA : Nat → ClassId) (A : Nat → Prop) (ad : Nat → Nat) {σ σ' : pw_S} {r : Int32} (hf : fX3_sync σ = some (r, σ')) : Met l yX3_sync (wA yX3_sync cX3_sync 4 (some .int)) ({ frames := 2, cells := 0, slots := 0, locals := 51 }) (pw_Pc D cA shP 12 A ad σ [.ref (ad 0)]) (pw_Qi D cA shP 12 A ad r σ') 0 0 A := by
  refine mw_enter (own := RX3) (by decide) rfl (Nat.le_of_ble_eq_true rfl) ?_
  intro p e s m args below meth c ls hC hr hlocks hK hA hX hG hS hl
  obtain ⟨hx, hb, hml, hown, hts⟩ := id hC
  have K4 : ∀ (n4 : Nat) (x1 : Int32) (x2 : Int32) (σ : pw_S), fX3_sync_4 n4 x1 x2 σ = some (r, σ') → mw_K p l e ({ frames := 2, cells := 0, slots := 0, locals := 51 }) s m args below meth c (MQ below (pw_Qi D cA shP 12 A ad r σ') args s 0 0 A) A D cA shP 12 ad 4 4 0 0 [(0, .ref (ad 0)), (1, .int (x1)), (2, .int (x2))] [] σ := by
    intro n4
    induction n4 with
    | zero => intro x1 x2 σ hf; cases hf
    | succ n4 ih4 =>
      have K44 : ∀ (x1 : Int32) (x2 : Int32) (σ : pw_S), fX3_sync_44 (fX3_sync_4 n4) x1 x2 σ = some (r, σ') → mw_K p l e ({ frames := 2, cells := 0, slots := 0, locals := 51 }) s m args below meth c (MQ below (pw_Qi D cA shP 12 A ad r σ') args s 0 0 A) A D cA shP 12 ad 4 44 0 0 [(0, .ref (ad 0)), (1, .int (x1)), (2, .int (x2))] [] σ := by
        intro x1 x2 σ hf H locs ls hG hS hl
        unfold fX3_sync_44 at hf
        refine lv_iinc (v := x2 + 1) (lv' := [(2, .int (x2 + 1)), (0, .ref (ad 0)), (1, .int (x1))]) hx hb dX3_sync_44 hl (k := 2) rfl rfl (by decide) rfl (fun ls hl => ?_)
        refine lv_goto (tgt := 4) hx hb dX3_sync_47 (by decide) ?_
        exact ih4 _ _ _ hf _ _ _ hG hS (lv_sub hl [1, 2, 0] rfl)
      intro x1 x2 σ hf H locs ls hG hS hl
      have hf : fX3_sync_4_b (fX3_sync_4 n4) x1 x2 σ = some (r, σ') := hf
      unfold fX3_sync_4_b at hf
      refine lv_iload_n hx hb dX3_sync_4 rfl (lv_at hl 2 rfl) ?_
      refine lv_aload_n hx hb dX3_sync_5 rfl (lv_at hl 0 rfl) ?_
      refine mw_getl hx hb hts hown hK hG inlX3 rfl (hG.fix (by decide)) rfl 3 (by decide) 4 rfl wA_21 dX3_sync_6 ?_
      refine mw_geti hx hb hts hown hK hG inlX1 rfl (hG.fix (by decide)) rfl 3 (by decide) rfl wA_83 dX3_sync_9 ?_
      refine lv_icmp_ge (tgt := 50) hx hb dX3_sync_12 (by decide) (fun c5 => ?_) (fun c5 => ?_)
      · have hf := it_pos c5 hf
        refine lv_iload_n hx hb dX3_sync_50 rfl (lv_at hl 1 rfl) ?_
        exact mr_i hC hr hlocks hG hS hf (Nat.le_of_ble_eq_true rfl) (Nat.le_of_ble_eq_true rfl) dX3_sync_51
      · have hf := it_neg c5 hf
        refine lv_aload_n hx hb dX3_sync_15 rfl (lv_at hl 0 rfl) ?_
        refine mw_getl hx hb hts hown hK hG inlX3 rfl (hG.fix (by decide)) rfl 3 (by decide) 4 rfl wA_21 dX3_sync_16 ?_
        refine mw_getl hx hb hts hown hK hG inlX1 rfl (hG.fix (by decide)) rfl 0 (by decide) 5 rfl wA_395 dX3_sync_19 ?_
        refine lv_iload_n hx hb dX3_sync_22 rfl (lv_at hl 2 rfl) ?_
        obtain ⟨h6, hf⟩ := ck_some hf
        obtain ⟨o7, e8, hf⟩ := ld_some hf
        refine mw_aald hx hb hK hG (hG.fix (by decide)) rfl (inb_in h6) dX3_sync_23 ?_
        rw [← e8]
        clear e8
        refine mq_astore_n (lv' := [(3, va_rf (Option.map ad o7)), (0, .ref (ad 0)), (1, .int (x1)), (2, .int (x2))]) hx hb dX3_sync_24 rfl hl (by decide) rfl (fun ls hl => ?_)
        refine mq_aload_n hx hb dX3_sync_25 rfl (lv_at hl 0 rfl) ?_
        refine mq_ifnull (tgt := 44) hx hb dX3_sync_26 (by decide) (fun c10 => ?_) (fun q9 c10 => ?_)
        · subst c10
          have hl : lv_has ls 4 [(3, .null), (0, .ref (ad 0)), (1, .int (x1)), (2, .int (x2))] := hl
          have hf := oc_none hf
          exact K44 _ _ _ hf _ _ _ hG hS (lv_sub hl [1, 2, 3] rfl)
        · subst c10
          have hl : lv_has ls 4 [(3, .ref (ad q9)), (0, .ref (ad 0)), (1, .int (x1)), (2, .int (x2))] := hl
          have hf := oc_some hf
          refine lv_aload_n hx hb dX3_sync_29 rfl (lv_at hl 0 rfl) ?_
          obtain ⟨h11, hf⟩ := ck_some hf
          refine mw_geti hx hb hts hown hK hG inlX0 rfl (okc_lt h11) (shP_c h11) 5 (by decide) rfl wA_402 dX3_sync_30 ?_
          refine lv_if_eq (tgt := 44) hx hb dX3_sync_33 (by decide) (fun c12 => ?_) (fun c12 => ?_)
          · have hf := it_pos c12 hf
            exact K44 _ _ _ hf _ _ _ hG hS (lv_sub hl [1, 2, 3] rfl)
          · have hf := it_neg c12 hf
            refine lv_iload_n hx hb dX3_sync_36 rfl (lv_at hl 2 rfl) ?_
            refine lv_aload_n hx hb dX3_sync_37 rfl (lv_at hl 1 rfl) ?_
            refine lv_aload_n hx hb dX3_sync_38 rfl (lv_at hl 0 rfl) ?_
            obtain ⟨r13, σ14, hc15, hf⟩ := bnd_some hf
            refine mc_i (mc_V (As := [va_rf (Option.map ad (some q9))]) hC hK hA hX hG hS (kX3_writeOut l D cA A ad hc15) ykX3_writeOut wA_407 wA_408 wA_409 (hG.fix (by decide)) rfl rfl ⟨rfl, rfl, Nat.le_of_ble_eq_true rfl, Nat.le_of_ble_eq_true rfl⟩ rfl hl.1 rfl (Nat.le_of_ble_eq_true rfl) dX3_sync_39 ⟨Nat.le_of_ble_eq_true rfl, Nat.le_of_ble_eq_true rfl⟩) hS (fun H locs hG hS => ?_)
            refine lv_iadd hx hb dX3_sync_42 ?_
            refine lv_istore_n (lv' := [(1, .int ((x1 + r13))), (3, .ref (ad q9)), (0, .ref (ad 0)), (2, .int (x2))]) hx hb dX3_sync_43 rfl hl (by decide) rfl (fun ls hl => ?_)
            exact K44 _ _ _ hf _ _ _ hG hS (lv_sub hl [2, 0, 3] rfl)
  have hl : lv_has ls 4 [(0, .ref (ad 0))] := hl
  unfold fX3_sync at hf
  refine lv_iconst (v := 0) hx hb dX3_sync_0 (by decide) ?_
  refine lv_istore_n (lv' := [(1, .int (0)), (0, .ref (ad 0))]) hx hb dX3_sync_1 rfl hl (by decide) rfl (fun ls hl => ?_)
  refine lv_iconst (v := 0) hx hb dX3_sync_2 (by decide) ?_
  refine lv_istore_n (lv' := [(2, .int (0)), (1, .int (0)), (0, .ref (ad 0))]) hx hb dX3_sync_3 rfl hl (by decide) rfl (fun ls hl => ?_)
  exact K4 1000 _ _ _ hf _ _ _ hG hS (lv_sub hl [2, 1, 0] rfl)
def fX3_time (σ : pw_S) : Option (Int32 × pw_S) := some ((gi σ 0 10), σ)
set_option maxHeartbeats 4000000 in
set_option maxRecDepth 100000 in
theorem kX3_time (l : Launch) (D : va_G) (cA : Nat → ClassId) (A : Nat → Prop) (ad : Nat → Nat) {σ σ' : pw_S} {r : Int32} (hf : fX3_time σ = some (r, σ')) : Met l yX3_time (wA yX3_time cX3_time 1 (some .int)) ({ frames := 0, cells := 0, slots := 0, locals := 0 }) (pw_Pc D cA shP 12 A ad σ [.ref (ad 0)]) (pw_Qi D cA shP 12 A ad r σ') 0 0 A := by
  refine mw_enter (own := RX3) (by decide) rfl (Nat.le_of_ble_eq_true rfl) ?_
  intro p e s m args below meth c ls hC hr hlocks hK hA hX hG hS hl
  obtain ⟨hx, hb, hml, hown, hts⟩ := id hC
  have hl : lv_has ls 1 [(0, .ref (ad 0))] := hl
  unfold fX3_time at hf
  refine lv_aload_n hx hb dX3_time_0 rfl (lv_at hl 0 rfl) ?_
  refine mw_geti hx hb hts hown hK hG inlX3 rfl (hG.fix (by decide)) rfl 10 (by decide) rfl wA_32 dX3_time_1 ?_
  exact mr_i hC hr hlocks hG hS hf (Nat.le_of_ble_eq_true rfl) (Nat.le_of_ble_eq_true rfl) dX3_time_4
def fX3_hand (σ : pw_S) : Option (Int32 × pw_S) := some ((gi σ 4 4), σ)
set_option maxHeartbeats 4000000 in
set_option maxRecDepth 100000 in
theorem kX3_hand (l : Launch) (D : va_G) (cA : Nat → ClassId) (A : Nat → Prop) (ad : Nat → Nat) {σ σ' : pw_S} {r : Int32} (hf : fX3_hand σ = some (r, σ')) : Met l yX3_hand (wA yX3_hand cX3_hand 1 (some .int)) ({ frames := 0, cells := 0, slots := 0, locals := 0 }) (pw_Pc D cA shP 12 A ad σ [.ref (ad 0)]) (pw_Qi D cA shP 12 A ad r σ') 0 0 A := by
  refine mw_enter (own := RX3) (by decide) rfl (Nat.le_of_ble_eq_true rfl) ?_
  intro p e s m args below meth c ls hC hr hlocks hK hA hX hG hS hl
  obtain ⟨hx, hb, hml, hown, hts⟩ := id hC
  have hl : lv_has ls 1 [(0, .ref (ad 0))] := hl
  unfold fX3_hand at hf
  refine lv_aload_n hx hb dX3_hand_0 rfl (lv_at hl 0 rfl) ?_
  refine mw_getl hx hb hts hown hK hG inlX3 rfl (hG.fix (by decide)) rfl 3 (by decide) 4 rfl wA_21 dX3_hand_1 ?_
  refine mw_geti hx hb hts hown hK hG inlX1 rfl (hG.fix (by decide)) rfl 4 (by decide) rfl wA_84 dX3_hand_4 ?_
  exact mr_i hC hr hlocks hG hS hf (Nat.le_of_ble_eq_true rfl) (Nat.le_of_ble_eq_true rfl) dX3_hand_7
def fX3_frameOf_29 (y0 : Int32) (σ : pw_S) : Option ((Int32 ⊕ String) × pw_S) := some (.inl (y0), σ)
def fX3_frameOf (a1 : Int32) (a2 : Int32) (σ : pw_S) : Option ((Int32 ⊕ String) × pw_S) := bnx (fX3_requirePage a1 a2 σ) (fun r3 σ4 => bnd (fX3_placeOf a1 a2 σ4) (fun r10 σ11 => ck (inb (r10) (160)) (ld (gr σ11 1 (Int32.toNatClampNeg (r10))) (fun o14 => oc o14 (fX3_frameOf_29 ((-1)) σ11) (fun q16 => ck (okc σ11 q16) (fX3_frameOf_29 ((gi σ11 q16 3)) σ11))))))
set_option maxHeartbeats 4000000 in
set_option maxRecDepth 100000 in
theorem kX3_frameOf (l : Launch) (D : va_G) (cA : Nat → ClassId) (A : Nat → Prop) (ad : Nat → Nat) (hlt : l.stackTraces = false) {σ σ' : pw_S} {r : (Int32 ⊕ String)} {a1 : Int32} {a2 : Int32} (hf : fX3_frameOf a1 a2 σ = some (r, σ')) : vx_Met l yX3_frameOf (wA yX3_frameOf cX3_frameOf 4 (some .int)) ({ frames := 8, cells := 2, slots := 12, locals := 125 }) (pw_Pc D cA shP 12 A ad σ [.ref (ad 0), .int (a1), .int (a2)]) (px_Qi D cA shP 12 A ad r σ') (px_X D cA shP 12 A ad r σ') 2 12 A := by
  refine mw_enterX (own := RX3) (by decide) rfl (Nat.le_of_ble_eq_true rfl) ?_
  intro p e s m args below meth c ls hC hr hlocks hout hK hA hX hG hS hl
  obtain ⟨hx, hb, hml, hown, hts⟩ := id hC
  have K29 : ∀ (y0 : Int32) (σ : pw_S), fX3_frameOf_29 y0 σ = some (r, σ') → mw_K p l e ({ frames := 8, cells := 2, slots := 12, locals := 125 }) s m args below meth c (vx_MQ below (px_Qi D cA shP 12 A ad r σ') (px_X D cA shP 12 A ad r σ') args s 2 12 A) A D cA shP 12 ad 4 29 2 12 [] [.int (y0)] σ := by
    intro y0 σ hf H locs ls hG hS hl
    unfold fX3_frameOf_29 at hf
    exact mrx_i hC hr hlocks hG hS hf (Nat.le_of_ble_eq_true rfl) (Nat.le_of_ble_eq_true rfl) dX3_frameOf_29
  have hl : lv_has ls 4 [(0, .ref (ad 0)), (1, .int (a1)), (2, .int (a2))] := hl
  unfold fX3_frameOf at hf
  refine lv_aload_n hx hb dX3_frameOf_0 rfl (lv_at hl 0 rfl) ?_
  refine lv_iload_n hx hb dX3_frameOf_1 rfl (lv_at hl 1 rfl) ?_
  refine lv_iload_n hx hb dX3_frameOf_2 rfl (lv_at hl 2 rfl) ?_
  obtain ⟨z6, σ4, hc5, hi7, hx8⟩ := bnx_some hf
  refine mx_v (mx_V (As := [.int (a1), .int (a2)]) hC hK hA hX hG hS (kX3_requirePage l D cA A ad hlt hc5) ykX3_requirePage wA_244 wA_245 wA_246 (hG.fix (by decide)) rfl rfl ⟨rfl, rfl, Nat.le_of_ble_eq_true rfl, Nat.le_of_ble_eq_true rfl⟩ rfl hl.1 rfl (Nat.le_of_ble_eq_true rfl) dX3_frameOf_3 ⟨Nat.le_of_ble_eq_true rfl, Nat.le_of_ble_eq_true rfl⟩) hS hout hlocks (bnx_x hx8) (Nat.le_of_ble_eq_true rfl) (Nat.le_of_ble_eq_true rfl) (fun r3 he9 H locs hG hS => ?_)
  have hf := hi7 r3 he9
  clear hi7 hx8
  refine lv_aload_n hx hb dX3_frameOf_6 rfl (lv_at hl 0 rfl) ?_
  refine mw_getl hx hb hts hown hK hG inlX3 rfl (hG.fix (by decide)) rfl 0 (by decide) 1 rfl wA_14 dX3_frameOf_7 ?_
  refine lv_iload_n hx hb dX3_frameOf_10 rfl (lv_at hl 1 rfl) ?_
  refine lv_iload_n hx hb dX3_frameOf_11 rfl (lv_at hl 2 rfl) ?_
  obtain ⟨r10, σ11, hc12, hf⟩ := bnd_some hf
  refine mc_i (mc_S (As := [.int (a1), .int (a2)]) hC hK hA hX hG hS (kX3_placeOf l D cA A ad hc12) ykX3_placeOf wA_162 wA_163 ⟨rfl, rfl, Nat.le_of_ble_eq_true rfl, Nat.le_of_ble_eq_true rfl⟩ rfl hl.1 rfl (Nat.le_of_ble_eq_true rfl) dX3_frameOf_12 ⟨Nat.le_of_ble_eq_true rfl, Nat.le_of_ble_eq_true rfl⟩) hS (fun H locs hG hS => ?_)
  obtain ⟨h13, hf⟩ := ck_some hf
  obtain ⟨o14, e15, hf⟩ := ld_some hf
  refine mw_aald hx hb hK hG (hG.fix (by decide)) rfl (inb_in h13) dX3_frameOf_15 ?_
  rw [← e15]
  clear e15
  refine mq_astore_n (lv' := [(3, va_rf (Option.map ad o14)), (0, .ref (ad 0)), (1, .int (a1)), (2, .int (a2))]) hx hb dX3_frameOf_16 rfl hl (by decide) rfl (fun ls hl => ?_)
  refine mq_aload_n hx hb dX3_frameOf_17 rfl (lv_at hl 0 rfl) ?_
  refine mq_ifnonnull (tgt := 25) hx hb dX3_frameOf_18 (by decide) (fun q16 c17 => ?_) (fun c17 => ?_)
  · subst c17
    have hl : lv_has ls 4 [(3, .ref (ad q16)), (0, .ref (ad 0)), (1, .int (a1)), (2, .int (a2))] := hl
    have hf := oc_some hf
    refine lv_aload_n hx hb dX3_frameOf_25 rfl (lv_at hl 0 rfl) ?_
    obtain ⟨h18, hf⟩ := ck_some hf
    refine mw_geti hx hb hts hown hK hG inlX0 rfl (okc_lt h18) (shP_c h18) 3 (by decide) rfl wA_191 dX3_frameOf_26 ?_
    exact K29 _ _ hf _ _ _ hG hS (lv_sub hl [] rfl)
  · subst c17
    have hl : lv_has ls 4 [(3, .null), (0, .ref (ad 0)), (1, .int (a1)), (2, .int (a2))] := hl
    have hf := oc_none hf
    refine lv_iconst (v := (-1)) hx hb dX3_frameOf_21 (by decide) ?_
    refine lv_goto (tgt := 29) hx hb dX3_frameOf_22 (by decide) ?_
    exact K29 _ _ hf _ _ _ hG hS (lv_sub hl [] rfl)
set_option maxHeartbeats 4000000 in
set_option maxRecDepth 100000 in
theorem k0X3_frameOf (l : Launch) (D : va_G) (cA : Nat → ClassId) (A : Nat → Prop) (ad : Nat → Nat) {σ σ' : pw_S} {r : Int32} {a1 : Int32} {a2 : Int32} (hf : fX3_frameOf a1 a2 σ = some (.inl r, σ')) : Met l yX3_frameOf (wA yX3_frameOf cX3_frameOf 4 (some .int)) ({ frames := 2, cells := 0, slots := 0, locals := 43 }) (pw_Pc D cA shP 12 A ad σ [.ref (ad 0), .int (a1), .int (a2)]) (pw_Qi D cA shP 12 A ad r σ') 0 0 A := by
  refine mw_enter (own := RX3) (by decide) rfl (Nat.le_of_ble_eq_true rfl) ?_
  intro p e s m args below meth c ls hC hr hlocks hK hA hX hG hS hl
  obtain ⟨hx, hb, hml, hown, hts⟩ := id hC
  have K29 : ∀ (y0 : Int32) (σ : pw_S), fX3_frameOf_29 y0 σ = some (.inl r, σ') → mw_K p l e ({ frames := 2, cells := 0, slots := 0, locals := 43 }) s m args below meth c (MQ below (pw_Qi D cA shP 12 A ad r σ') args s 0 0 A) A D cA shP 12 ad 4 29 0 0 [] [.int (y0)] σ := by
    intro y0 σ hf H locs ls hG hS hl
    unfold fX3_frameOf_29 at hf
    have hf := inl_some hf
    exact mr_i hC hr hlocks hG hS hf (Nat.le_of_ble_eq_true rfl) (Nat.le_of_ble_eq_true rfl) dX3_frameOf_29
  have hl : lv_has ls 4 [(0, .ref (ad 0)), (1, .int (a1)), (2, .int (a2))] := hl
  unfold fX3_frameOf at hf
  refine lv_aload_n hx hb dX3_frameOf_0 rfl (lv_at hl 0 rfl) ?_
  refine lv_iload_n hx hb dX3_frameOf_1 rfl (lv_at hl 1 rfl) ?_
  refine lv_iload_n hx hb dX3_frameOf_2 rfl (lv_at hl 2 rfl) ?_
  obtain ⟨r3, σ4, hc5, hf⟩ := bnx_ok hf
  refine mc_v (mc_V (As := [.int (a1), .int (a2)]) hC hK hA hX hG hS (k0X3_requirePage l D cA A ad hc5) ykX3_requirePage wA_244 wA_245 wA_246 (hG.fix (by decide)) rfl rfl ⟨rfl, rfl, Nat.le_of_ble_eq_true rfl, Nat.le_of_ble_eq_true rfl⟩ rfl hl.1 rfl (Nat.le_of_ble_eq_true rfl) dX3_frameOf_3 ⟨Nat.le_of_ble_eq_true rfl, Nat.le_of_ble_eq_true rfl⟩) hS (fun H locs hG hS => ?_)
  refine lv_aload_n hx hb dX3_frameOf_6 rfl (lv_at hl 0 rfl) ?_
  refine mw_getl hx hb hts hown hK hG inlX3 rfl (hG.fix (by decide)) rfl 0 (by decide) 1 rfl wA_14 dX3_frameOf_7 ?_
  refine lv_iload_n hx hb dX3_frameOf_10 rfl (lv_at hl 1 rfl) ?_
  refine lv_iload_n hx hb dX3_frameOf_11 rfl (lv_at hl 2 rfl) ?_
  obtain ⟨r6, σ7, hc8, hf⟩ := bnd_some hf
  refine mc_i (mc_S (As := [.int (a1), .int (a2)]) hC hK hA hX hG hS (kX3_placeOf l D cA A ad hc8) ykX3_placeOf wA_162 wA_163 ⟨rfl, rfl, Nat.le_of_ble_eq_true rfl, Nat.le_of_ble_eq_true rfl⟩ rfl hl.1 rfl (Nat.le_of_ble_eq_true rfl) dX3_frameOf_12 ⟨Nat.le_of_ble_eq_true rfl, Nat.le_of_ble_eq_true rfl⟩) hS (fun H locs hG hS => ?_)
  obtain ⟨h9, hf⟩ := ck_some hf
  obtain ⟨o10, e11, hf⟩ := ld_some hf
  refine mw_aald hx hb hK hG (hG.fix (by decide)) rfl (inb_in h9) dX3_frameOf_15 ?_
  rw [← e11]
  clear e11
  refine mq_astore_n (lv' := [(3, va_rf (Option.map ad o10)), (0, .ref (ad 0)), (1, .int (a1)), (2, .int (a2))]) hx hb dX3_frameOf_16 rfl hl (by decide) rfl (fun ls hl => ?_)
  refine mq_aload_n hx hb dX3_frameOf_17 rfl (lv_at hl 0 rfl) ?_
  refine mq_ifnonnull (tgt := 25) hx hb dX3_frameOf_18 (by decide) (fun q12 c13 => ?_) (fun c13 => ?_)
  · subst c13
    have hl : lv_has ls 4 [(3, .ref (ad q12)), (0, .ref (ad 0)), (1, .int (a1)), (2, .int (a2))] := hl
    have hf := oc_some hf
    refine lv_aload_n hx hb dX3_frameOf_25 rfl (lv_at hl 0 rfl) ?_
    obtain ⟨h14, hf⟩ := ck_some hf
    refine mw_geti hx hb hts hown hK hG inlX0 rfl (okc_lt h14) (shP_c h14) 3 (by decide) rfl wA_191 dX3_frameOf_26 ?_
    exact K29 _ _ hf _ _ _ hG hS (lv_sub hl [] rfl)
  · subst c13
    have hl : lv_has ls 4 [(3, .null), (0, .ref (ad 0)), (1, .int (a1)), (2, .int (a2))] := hl
    have hf := oc_none hf
    refine lv_iconst (v := (-1)) hx hb dX3_frameOf_21 (by decide) ?_
    refine lv_goto (tgt := 29) hx hb dX3_frameOf_22 (by decide) ?_
    exact K29 _ _ hf _ _ _ hG hS (lv_sub hl [] rfl)
def fX3_slotOf_29 (y0 : Int32) (σ : pw_S) : Option ((Int32 ⊕ String) × pw_S) := some (.inl (y0), σ)
def fX3_slotOf (a1 : Int32) (a2 : Int32) (σ : pw_S) : Option ((Int32 ⊕ String) × pw_S) := bnx (fX3_requirePage a1 a2 σ) (fun r3 σ4 => bnd (fX3_placeOf a1 a2 σ4) (fun r10 σ11 => ck (inb (r10) (160)) (ld (gr σ11 1 (Int32.toNatClampNeg (r10))) (fun o14 => oc o14 (fX3_slotOf_29 ((-1)) σ11) (fun q16 => ck (okc σ11 q16) (fX3_slotOf_29 ((gi σ11 q16 4)) σ11))))))
set_option maxHeartbeats 4000000 in
set_option maxRecDepth 100000 in
theorem kX3_slotOf (l : Launch) (D : va_G) (cA : Nat → ClassId) (A : Nat → Prop) (ad : Nat → Nat) (hlt : l.stackTraces = false) {σ σ' : pw_S} {r : (Int32 ⊕ String)} {a1 : Int32} {a2 : Int32} (hf : fX3_slotOf a1 a2 σ = some (r, σ')) : vx_Met l yX3_slotOf (wA yX3_slotOf cX3_slotOf 4 (some .int)) ({ frames := 8, cells := 2, slots := 12, locals := 125 }) (pw_Pc D cA shP 12 A ad σ [.ref (ad 0), .int (a1), .int (a2)]) (px_Qi D cA shP 12 A ad r σ') (px_X D cA shP 12 A ad r σ') 2 12 A := by
  refine mw_enterX (own := RX3) (by decide) rfl (Nat.le_of_ble_eq_true rfl) ?_
  intro p e s m args below meth c ls hC hr hlocks hout hK hA hX hG hS hl
  obtain ⟨hx, hb, hml, hown, hts⟩ := id hC
  have K29 : ∀ (y0 : Int32) (σ : pw_S), fX3_slotOf_29 y0 σ = some (r, σ') → mw_K p l e ({ frames := 8, cells := 2, slots := 12, locals := 125 }) s m args below meth c (vx_MQ below (px_Qi D cA shP 12 A ad r σ') (px_X D cA shP 12 A ad r σ') args s 2 12 A) A D cA shP 12 ad 4 29 2 12 [] [.int (y0)] σ := by
    intro y0 σ hf H locs ls hG hS hl
    unfold fX3_slotOf_29 at hf
    exact mrx_i hC hr hlocks hG hS hf (Nat.le_of_ble_eq_true rfl) (Nat.le_of_ble_eq_true rfl) dX3_slotOf_29
  have hl : lv_has ls 4 [(0, .ref (ad 0)), (1, .int (a1)), (2, .int (a2))] := hl
  unfold fX3_slotOf at hf
  refine lv_aload_n hx hb dX3_slotOf_0 rfl (lv_at hl 0 rfl) ?_
  refine lv_iload_n hx hb dX3_slotOf_1 rfl (lv_at hl 1 rfl) ?_
  refine lv_iload_n hx hb dX3_slotOf_2 rfl (lv_at hl 2 rfl) ?_
  obtain ⟨z6, σ4, hc5, hi7, hx8⟩ := bnx_some hf
  refine mx_v (mx_V (As := [.int (a1), .int (a2)]) hC hK hA hX hG hS (kX3_requirePage l D cA A ad hlt hc5) ykX3_requirePage wA_244 wA_245 wA_246 (hG.fix (by decide)) rfl rfl ⟨rfl, rfl, Nat.le_of_ble_eq_true rfl, Nat.le_of_ble_eq_true rfl⟩ rfl hl.1 rfl (Nat.le_of_ble_eq_true rfl) dX3_slotOf_3 ⟨Nat.le_of_ble_eq_true rfl, Nat.le_of_ble_eq_true rfl⟩) hS hout hlocks (bnx_x hx8) (Nat.le_of_ble_eq_true rfl) (Nat.le_of_ble_eq_true rfl) (fun r3 he9 H locs hG hS => ?_)
  have hf := hi7 r3 he9
  clear hi7 hx8
  refine lv_aload_n hx hb dX3_slotOf_6 rfl (lv_at hl 0 rfl) ?_
  refine mw_getl hx hb hts hown hK hG inlX3 rfl (hG.fix (by decide)) rfl 0 (by decide) 1 rfl wA_14 dX3_slotOf_7 ?_
  refine lv_iload_n hx hb dX3_slotOf_10 rfl (lv_at hl 1 rfl) ?_
  refine lv_iload_n hx hb dX3_slotOf_11 rfl (lv_at hl 2 rfl) ?_
  obtain ⟨r10, σ11, hc12, hf⟩ := bnd_some hf
  refine mc_i (mc_S (As := [.int (a1), .int (a2)]) hC hK hA hX hG hS (kX3_placeOf l D cA A ad hc12) ykX3_placeOf wA_162 wA_163 ⟨rfl, rfl, Nat.le_of_ble_eq_true rfl, Nat.le_of_ble_eq_true rfl⟩ rfl hl.1 rfl (Nat.le_of_ble_eq_true rfl) dX3_slotOf_12 ⟨Nat.le_of_ble_eq_true rfl, Nat.le_of_ble_eq_true rfl⟩) hS (fun H locs hG hS => ?_)
  obtain ⟨h13, hf⟩ := ck_some hf
  obtain ⟨o14, e15, hf⟩ := ld_some hf
  refine mw_aald hx hb hK hG (hG.fix (by decide)) rfl (inb_in h13) dX3_slotOf_15 ?_
  rw [← e15]
  clear e15
  refine mq_astore_n (lv' := [(3, va_rf (Option.map ad o14)), (0, .ref (ad 0)), (1, .int (a1)), (2, .int (a2))]) hx hb dX3_slotOf_16 rfl hl (by decide) rfl (fun ls hl => ?_)
  refine mq_aload_n hx hb dX3_slotOf_17 rfl (lv_at hl 0 rfl) ?_
  refine mq_ifnonnull (tgt := 25) hx hb dX3_slotOf_18 (by decide) (fun q16 c17 => ?_) (fun c17 => ?_)
  · subst c17
    have hl : lv_has ls 4 [(3, .ref (ad q16)), (0, .ref (ad 0)), (1, .int (a1)), (2, .int (a2))] := hl
    have hf := oc_some hf
    refine lv_aload_n hx hb dX3_slotOf_25 rfl (lv_at hl 0 rfl) ?_
    obtain ⟨h18, hf⟩ := ck_some hf
    refine mw_geti hx hb hts hown hK hG inlX0 rfl (okc_lt h18) (shP_c h18) 4 (by decide) rfl wA_386 dX3_slotOf_26 ?_
    exact K29 _ _ hf _ _ _ hG hS (lv_sub hl [] rfl)
  · subst c17
    have hl : lv_has ls 4 [(3, .null), (0, .ref (ad 0)), (1, .int (a1)), (2, .int (a2))] := hl
    have hf := oc_none hf
    refine lv_iconst (v := (-1)) hx hb dX3_slotOf_21 (by decide) ?_
    refine lv_goto (tgt := 29) hx hb dX3_slotOf_22 (by decide) ?_
    exact K29 _ _ hf _ _ _ hG hS (lv_sub hl [] rfl)
set_option maxHeartbeats 4000000 in
set_option maxRecDepth 100000 in
theorem k0X3_slotOf (l : Launch) (D : va_G) (cA : Nat → ClassId) (A : Nat → Prop) (ad : Nat → Nat) {σ σ' : pw_S} {r : Int32} {a1 : Int32} {a2 : Int32} (hf : fX3_slotOf a1 a2 σ = some (.inl r, σ')) : Met l yX3_slotOf (wA yX3_slotOf cX3_slotOf 4 (some .int)) ({ frames := 2, cells := 0, slots := 0, locals := 43 }) (pw_Pc D cA shP 12 A ad σ [.ref (ad 0), .int (a1), .int (a2)]) (pw_Qi D cA shP 12 A ad r σ') 0 0 A := by
  refine mw_enter (own := RX3) (by decide) rfl (Nat.le_of_ble_eq_true rfl) ?_
  intro p e s m args below meth c ls hC hr hlocks hK hA hX hG hS hl
  obtain ⟨hx, hb, hml, hown, hts⟩ := id hC
  have K29 : ∀ (y0 : Int32) (σ : pw_S), fX3_slotOf_29 y0 σ = some (.inl r, σ') → mw_K p l e ({ frames := 2, cells := 0, slots := 0, locals := 43 }) s m args below meth c (MQ below (pw_Qi D cA shP 12 A ad r σ') args s 0 0 A) A D cA shP 12 ad 4 29 0 0 [] [.int (y0)] σ := by
    intro y0 σ hf H locs ls hG hS hl
    unfold fX3_slotOf_29 at hf
    have hf := inl_some hf
    exact mr_i hC hr hlocks hG hS hf (Nat.le_of_ble_eq_true rfl) (Nat.le_of_ble_eq_true rfl) dX3_slotOf_29
  have hl : lv_has ls 4 [(0, .ref (ad 0)), (1, .int (a1)), (2, .int (a2))] := hl
  unfold fX3_slotOf at hf
  refine lv_aload_n hx hb dX3_slotOf_0 rfl (lv_at hl 0 rfl) ?_
  refine lv_iload_n hx hb dX3_slotOf_1 rfl (lv_at hl 1 rfl) ?_
  refine lv_iload_n hx hb dX3_slotOf_2 rfl (lv_at hl 2 rfl) ?_
  obtain ⟨r3, σ4, hc5, hf⟩ := bnx_ok hf
  refine mc_v (mc_V (As := [.int (a1), .int (a2)]) hC hK hA hX hG hS (k0X3_requirePage l D cA A ad hc5) ykX3_requirePage wA_244 wA_245 wA_246 (hG.fix (by decide)) rfl rfl ⟨rfl, rfl, Nat.le_of_ble_eq_true rfl, Nat.le_of_ble_eq_true rfl⟩ rfl hl.1 rfl (Nat.le_of_ble_eq_true rfl) dX3_slotOf_3 ⟨Nat.le_of_ble_eq_true rfl, Nat.le_of_ble_eq_true rfl⟩) hS (fun H locs hG hS => ?_)
  refine lv_aload_n hx hb dX3_slotOf_6 rfl (lv_at hl 0 rfl) ?_
  refine mw_getl hx hb hts hown hK hG inlX3 rfl (hG.fix (by decide)) rfl 0 (by decide) 1 rfl wA_14 dX3_slotOf_7 ?_
  refine lv_iload_n hx hb dX3_slotOf_10 rfl (lv_at hl 1 rfl) ?_
  refine lv_iload_n hx hb dX3_slotOf_11 rfl (lv_at hl 2 rfl) ?_
  obtain ⟨r6, σ7, hc8, hf⟩ := bnd_some hf
  refine mc_i (mc_S (As := [.int (a1), .int (a2)]) hC hK hA hX hG hS (kX3_placeOf l D cA A ad hc8) ykX3_placeOf wA_162 wA_163 ⟨rfl, rfl, Nat.le_of_ble_eq_true rfl, Nat.le_of_ble_eq_true rfl⟩ rfl hl.1 rfl (Nat.le_of_ble_eq_true rfl) dX3_slotOf_12 ⟨Nat.le_of_ble_eq_true rfl, Nat.le_of_ble_eq_true rfl⟩) hS (fun H locs hG hS => ?_)
  obtain ⟨h9, hf⟩ := ck_some hf
  obtain ⟨o10, e11, hf⟩ := ld_some hf
  refine mw_aald hx hb hK hG (hG.fix (by decide)) rfl (inb_in h9) dX3_slotOf_15 ?_
  rw [← e11]
  clear e11
  refine mq_astore_n (lv' := [(3, va_rf (Option.map ad o10)), (0, .ref (ad 0)), (1, .int (a1)), (2, .int (a2))]) hx hb dX3_slotOf_16 rfl hl (by decide) rfl (fun ls hl => ?_)
  refine mq_aload_n hx hb dX3_slotOf_17 rfl (lv_at hl 0 rfl) ?_
  refine mq_ifnonnull (tgt := 25) hx hb dX3_slotOf_18 (by decide) (fun q12 c13 => ?_) (fun c13 => ?_)
  · subst c13
    have hl : lv_has ls 4 [(3, .ref (ad q12)), (0, .ref (ad 0)), (1, .int (a1)), (2, .int (a2))] := hl
    have hf := oc_some hf
    refine lv_aload_n hx hb dX3_slotOf_25 rfl (lv_at hl 0 rfl) ?_
    obtain ⟨h14, hf⟩ := ck_some hf
    refine mw_geti hx hb hts hown hK hG inlX0 rfl (okc_lt h14) (shP_c h14) 4 (by decide) rfl wA_386 dX3_slotOf_26 ?_
    exact K29 _ _ hf _ _ _ hG hS (lv_sub hl [] rfl)
  · subst c13
    have hl : lv_has ls 4 [(3, .null), (0, .ref (ad 0)), (1, .int (a1)), (2, .int (a2))] := hl
    have hf := oc_none hf
    refine lv_iconst (v := (-1)) hx hb dX3_slotOf_21 (by decide) ?_
    refine lv_goto (tgt := 29) hx hb dX3_slotOf_22 (by decide) ?_
    exact K29 _ _ hf _ _ _ hG hS (lv_sub hl [] rfl)
def fX3_sharersOf_29 (y0 : Int32) (σ : pw_S) : Option ((Int32 ⊕ String) × pw_S) := some (.inl (y0), σ)
def fX3_sharersOf (a1 : Int32) (a2 : Int32) (σ : pw_S) : Option ((Int32 ⊕ String) × pw_S) := bnx (fX3_requirePage a1 a2 σ) (fun r3 σ4 => bnd (fX3_placeOf a1 a2 σ4) (fun r10 σ11 => ck (inb (r10) (160)) (ld (gr σ11 1 (Int32.toNatClampNeg (r10))) (fun o14 => oc o14 (fX3_sharersOf_29 0 σ11) (fun q16 => ck (okc σ11 q16) (fX3_sharersOf_29 ((gi σ11 q16 6)) σ11))))))
set_option maxHeartbeats 4000000 in
set_option maxRecDepth 100000 in
theorem kX3_sharersOf (l : Launch) (D : va_G) (cA : Nat → ClassId) (A : Nat → Prop) (ad : Nat → Nat) (hlt : l.stackTraces = false) {σ σ' : pw_S} {r : (Int32 ⊕ String)} {a1 : Int32} {a2 : Int32} (hf : fX3_sharersOf a1 a2 σ = some (r, σ')) : vx_Met l yX3_sharersOf (wA yX3_sharersOf cX3_sharersOf 4 (some .int)) ({ frames := 8, cells := 2, slots := 12, locals := 125 }) (pw_Pc D cA shP 12 A ad σ [.ref (ad 0), .int (a1), .int (a2)]) (px_Qi D cA shP 12 A ad r σ') (px_X D cA shP 12 A ad r σ') 2 12 A := by
  refine mw_enterX (own := RX3) (by decide) rfl (Nat.le_of_ble_eq_true rfl) ?_
  intro p e s m args below meth c ls hC hr hlocks hout hK hA hX hG hS hl
  obtain ⟨hx, hb, hml, hown, hts⟩ := id hC
  have K29 : ∀ (y0 : Int32) (σ : pw_S), fX3_sharersOf_29 y0 σ = some (r, σ') → mw_K p l e ({ frames := 8, cells := 2, slots := 12, locals := 125 }) s m args below meth c (vx_MQ below (px_Qi D cA shP 12 A ad r σ') (px_X D cA shP 12 A ad r σ') args s 2 12 A) A D cA shP 12 ad 4 29 2 12 [] [.int (y0)] σ := by
    intro y0 σ hf H locs ls hG hS hl
    unfold fX3_sharersOf_29 at hf
    exact mrx_i hC hr hlocks hG hS hf (Nat.le_of_ble_eq_true rfl) (Nat.le_of_ble_eq_true rfl) dX3_sharersOf_29
  have hl : lv_has ls 4 [(0, .ref (ad 0)), (1, .int (a1)), (2, .int (a2))] := hl
  unfold fX3_sharersOf at hf
  refine lv_aload_n hx hb dX3_sharersOf_0 rfl (lv_at hl 0 rfl) ?_
  refine lv_iload_n hx hb dX3_sharersOf_1 rfl (lv_at hl 1 rfl) ?_
  refine lv_iload_n hx hb dX3_sharersOf_2 rfl (lv_at hl 2 rfl) ?_
  obtain ⟨z6, σ4, hc5, hi7, hx8⟩ := bnx_some hf
  refine mx_v (mx_V (As := [.int (a1), .int (a2)]) hC hK hA hX hG hS (kX3_requirePage l D cA A ad hlt hc5) ykX3_requirePage wA_244 wA_245 wA_246 (hG.fix (by decide)) rfl rfl ⟨rfl, rfl, Nat.le_of_ble_eq_true rfl, Nat.le_of_ble_eq_true rfl⟩ rfl hl.1 rfl (Nat.le_of_ble_eq_true rfl) dX3_sharersOf_3 ⟨Nat.le_of_ble_eq_true rfl, Nat.le_of_ble_eq_true rfl⟩) hS hout hlocks (bnx_x hx8) (Nat.le_of_ble_eq_true rfl) (Nat.le_of_ble_eq_true rfl) (fun r3 he9 H locs hG hS => ?_)
  have hf := hi7 r3 he9
  clear hi7 hx8
  refine lv_aload_n hx hb dX3_sharersOf_6 rfl (lv_at hl 0 rfl) ?_
  refine mw_getl hx hb hts hown hK hG inlX3 rfl (hG.fix (by decide)) rfl 0 (by decide) 1 rfl wA_14 dX3_sharersOf_7 ?_
  refine lv_iload_n hx hb dX3_sharersOf_10 rfl (lv_at hl 1 rfl) ?_
  refine lv_iload_n hx hb dX3_sharersOf_11 rfl (lv_at hl 2 rfl) ?_
  obtain ⟨r10, σ11, hc12, hf⟩ := bnd_some hf
  refine mc_i (mc_S (As := [.int (a1), .int (a2)]) hC hK hA hX hG hS (kX3_placeOf l D cA A ad hc12) ykX3_placeOf wA_162 wA_163 ⟨rfl, rfl, Nat.le_of_ble_eq_true rfl, Nat.le_of_ble_eq_true rfl⟩ rfl hl.1 rfl (Nat.le_of_ble_eq_true rfl) dX3_sharersOf_12 ⟨Nat.le_of_ble_eq_true rfl, Nat.le_of_ble_eq_true rfl⟩) hS (fun H locs hG hS => ?_)
  obtain ⟨h13, hf⟩ := ck_some hf
  obtain ⟨o14, e15, hf⟩ := ld_some hf
  refine mw_aald hx hb hK hG (hG.fix (by decide)) rfl (inb_in h13) dX3_sharersOf_15 ?_
  rw [← e15]
  clear e15
  refine mq_astore_n (lv' := [(3, va_rf (Option.map ad o14)), (0, .ref (ad 0)), (1, .int (a1)), (2, .int (a2))]) hx hb dX3_sharersOf_16 rfl hl (by decide) rfl (fun ls hl => ?_)
  refine mq_aload_n hx hb dX3_sharersOf_17 rfl (lv_at hl 0 rfl) ?_
  refine mq_ifnonnull (tgt := 25) hx hb dX3_sharersOf_18 (by decide) (fun q16 c17 => ?_) (fun c17 => ?_)
  · subst c17
    have hl : lv_has ls 4 [(3, .ref (ad q16)), (0, .ref (ad 0)), (1, .int (a1)), (2, .int (a2))] := hl
    have hf := oc_some hf
    refine lv_aload_n hx hb dX3_sharersOf_25 rfl (lv_at hl 0 rfl) ?_
    obtain ⟨h18, hf⟩ := ck_some hf
    refine mw_geti hx hb hts hown hK hG inlX0 rfl (okc_lt h18) (shP_c h18) 6 (by decide) rfl wA_169 dX3_sharersOf_26 ?_
    exact K29 _ _ hf _ _ _ hG hS (lv_sub hl [] rfl)
  · subst c17
    have hl : lv_has ls 4 [(3, .null), (0, .ref (ad 0)), (1, .int (a1)), (2, .int (a2))] := hl
    have hf := oc_none hf
    refine lv_iconst (v := 0) hx hb dX3_sharersOf_21 (by decide) ?_
    refine lv_goto (tgt := 29) hx hb dX3_sharersOf_22 (by decide) ?_
    exact K29 _ _ hf _ _ _ hG hS (lv_sub hl [] rfl)
def fX3_requireFrame_15 (σ : pw_S) : Option ((Unit ⊕ String) × pw_S) := some (.inr pw_ioX, σ)
def fX3_requireFrame (a1 : Int32) (σ : pw_S) : Option ((Unit ⊕ String) × pw_S) := (if a1 < 0 then fX3_requireFrame_15 σ else (if a1 < (gi σ 4 3) then some (.inl (()), σ) else fX3_requireFrame_15 σ))
set_option maxHeartbeats 4000000 in
set_option maxRecDepth 100000 in
theorem kX3_requireFrame (l : Launch) (D : va_G) (cA : Nat → ClassId) (A : Nat → Prop) (ad : Nat → Nat) (hlt : l.stackTraces = false) {σ σ' : pw_S} {r : (Unit ⊕ String)} {a1 : Int32} (hf : fX3_requireFrame a1 σ = some (r, σ')) : vx_Met l yX3_requireFrame (wA yX3_requireFrame cX3_requireFrame 2 none) ({ frames := 6, cells := 1, slots := 6, locals := 82 }) (pw_Pc D cA shP 12 A ad σ [.ref (ad 0), .int (a1)]) (px_Qv D cA shP 12 A ad r σ') (px_X D cA shP 12 A ad r σ') 1 6 A := by
  refine mw_enterX (own := RX3) (by decide) rfl (Nat.le_of_ble_eq_true rfl) ?_
  intro p e s m args below meth c ls hC hr hlocks hout hK hA hX hG hS hl
  obtain ⟨hx, hb, hml, hown, hts⟩ := id hC
  have K15 : ∀ (σ : pw_S), fX3_requireFrame_15  σ = some (r, σ') → mw_K p l e ({ frames := 6, cells := 1, slots := 6, locals := 82 }) s m args below meth c (vx_MQ below (px_Qv D cA shP 12 A ad r σ') (px_X D cA shP 12 A ad r σ') args s 1 6 A) A D cA shP 12 ad 2 15 0 0 [] [] σ := by
    intro  σ hf H locs ls hG hS hl
    unfold fX3_requireFrame_15 at hf
    exact mt_throw mtE_io (List.mem_of_getElem? (i := 8) rfl) hC hout hlt hX hG hS hlocks hl.1 hf (Nat.le_of_ble_eq_true rfl) (Nat.le_of_ble_eq_true rfl) (Nat.le_of_ble_eq_true rfl) (Nat.le_of_ble_eq_true rfl) (Nat.le_of_ble_eq_true rfl) (Nat.le_of_ble_eq_true rfl) dX3_requireFrame_15 dX3_requireFrame_18 dX3_requireFrame_19 dX3_requireFrame_21 dX3_requireFrame_24
  have hl : lv_has ls 2 [(0, .ref (ad 0)), (1, .int (a1))] := hl
  unfold fX3_requireFrame at hf
  refine lv_iload_n hx hb dX3_requireFrame_0 rfl (lv_at hl 1 rfl) ?_
  refine lv_if_lt (tgt := 15) hx hb dX3_requireFrame_1 (by decide) (fun c3 => ?_) (fun c3 => ?_)
  · have hf := it_pos c3 hf
    exact K15 _ hf _ _ _ hG hS (lv_sub hl [] rfl)
  · have hf := it_neg c3 hf
    refine lv_iload_n hx hb dX3_requireFrame_4 rfl (lv_at hl 1 rfl) ?_
    refine lv_aload_n hx hb dX3_requireFrame_5 rfl (lv_at hl 0 rfl) ?_
    refine mw_getl hx hb hts hown hK hG inlX3 rfl (hG.fix (by decide)) rfl 3 (by decide) 4 rfl wA_21 dX3_requireFrame_6 ?_
    refine mw_geti hx hb hts hown hK hG inlX1 rfl (hG.fix (by decide)) rfl 3 (by decide) rfl wA_83 dX3_requireFrame_9 ?_
    refine lv_icmp_lt (tgt := 25) hx hb dX3_requireFrame_12 (by decide) (fun c4 => ?_) (fun c4 => ?_)
    · have hf := it_pos c4 hf
      exact mrx_v hC hr hlocks hG hS hf (Nat.le_of_ble_eq_true rfl) (Nat.le_of_ble_eq_true rfl) dX3_requireFrame_25
    · have hf := it_neg c4 hf
      exact K15 _ hf _ _ _ hG hS (lv_sub hl [] rfl)
set_option maxHeartbeats 4000000 in
set_option maxRecDepth 100000 in
theorem k0X3_requireFrame (l : Launch) (D : va_G) (cA : Nat → ClassId) (A : Nat → Prop) (ad : Nat → Nat) {σ σ' : pw_S} {r : Unit} {a1 : Int32} (hf : fX3_requireFrame a1 σ = some (.inl r, σ')) : Met l yX3_requireFrame (wA yX3_requireFrame cX3_requireFrame 2 none) ({ frames := 0, cells := 0, slots := 0, locals := 0 }) (pw_Pc D cA shP 12 A ad σ [.ref (ad 0), .int (a1)]) (pw_Qv D cA shP 12 A ad r σ') 0 0 A := by
  refine mw_enter (own := RX3) (by decide) rfl (Nat.le_of_ble_eq_true rfl) ?_
  intro p e s m args below meth c ls hC hr hlocks hK hA hX hG hS hl
  obtain ⟨hx, hb, hml, hown, hts⟩ := id hC
  have K15 : ∀ (σ : pw_S), fX3_requireFrame_15  σ = some (.inl r, σ') → mw_K p l e ({ frames := 0, cells := 0, slots := 0, locals := 0 }) s m args below meth c (MQ below (pw_Qv D cA shP 12 A ad r σ') args s 0 0 A) A D cA shP 12 ad 2 15 0 0 [] [] σ := by
    intro  σ hf H locs ls hG hS hl
    unfold fX3_requireFrame_15 at hf
    cases hf
  have hl : lv_has ls 2 [(0, .ref (ad 0)), (1, .int (a1))] := hl
  unfold fX3_requireFrame at hf
  refine lv_iload_n hx hb dX3_requireFrame_0 rfl (lv_at hl 1 rfl) ?_
  refine lv_if_lt (tgt := 15) hx hb dX3_requireFrame_1 (by decide) (fun c3 => ?_) (fun c3 => ?_)
  · have hf := it_pos c3 hf
    exact K15 _ hf _ _ _ hG hS (lv_sub hl [] rfl)
  · have hf := it_neg c3 hf
    refine lv_iload_n hx hb dX3_requireFrame_4 rfl (lv_at hl 1 rfl) ?_
    refine lv_aload_n hx hb dX3_requireFrame_5 rfl (lv_at hl 0 rfl) ?_
    refine mw_getl hx hb hts hown hK hG inlX3 rfl (hG.fix (by decide)) rfl 3 (by decide) 4 rfl wA_21 dX3_requireFrame_6 ?_
    refine mw_geti hx hb hts hown hK hG inlX1 rfl (hG.fix (by decide)) rfl 3 (by decide) rfl wA_83 dX3_requireFrame_9 ?_
    refine lv_icmp_lt (tgt := 25) hx hb dX3_requireFrame_12 (by decide) (fun c4 => ?_) (fun c4 => ?_)
    · have hf := it_pos c4 hf
      have hf := inl_some hf
      exact mr_v hC hr hlocks hG hS hf (Nat.le_of_ble_eq_true rfl) (Nat.le_of_ble_eq_true rfl) dX3_requireFrame_25
    · have hf := it_neg c4 hf
      exact K15 _ hf _ _ _ hG hS (lv_sub hl [] rfl)
def fX3_frameState_33 (y0 : Int32) (σ : pw_S) : Option ((Int32 ⊕ String) × pw_S) := some (.inl (y0), σ)
def fX3_frameState (a1 : Int32) (σ : pw_S) : Option ((Int32 ⊕ String) × pw_S) := bnx (fX3_requireFrame a1 σ) (fun r4 σ5 => ck (inb (a1) (12)) (ld (gr σ5 5 (Int32.toNatClampNeg (a1))) (fun o12 => oc o12 (some (.inl (0), σ5)) (fun q14 => ck (okc σ5 q14) ((if (gi σ5 q14 5) = 0 then fX3_frameState_33 1 σ5 else fX3_frameState_33 2 σ5))))))
set_option maxHeartbeats 4000000 in
set_option maxRecDepth 100000 in
theorem kX3_frameState (l : Launch) (D : va_G) (cA : Nat → ClassId) (A : Nat → Prop) (ad : Nat → Nat) (hlt : l.stackTraces = false) {σ σ' : pw_S} {r : (Int32 ⊕ String)} {a1 : Int32} (hf : fX3_frameState a1 σ = some (r, σ')) : vx_Met l yX3_frameState (wA yX3_frameState cX3_frameState 3 (some .int)) ({ frames := 7, cells := 1, slots := 6, locals := 103 }) (pw_Pc D cA shP 12 A ad σ [.ref (ad 0), .int (a1)]) (px_Qi D cA shP 12 A ad r σ') (px_X D cA shP 12 A ad r σ') 1 6 A := by
  refine mw_enterX (own := RX3) (by decide) rfl (Nat.le_of_ble_eq_true rfl) ?_
  intro p e s m args below meth c ls hC hr hlocks hout hK hA hX hG hS hl
  obtain ⟨hx, hb, hml, hown, hts⟩ := id hC
  have K33 : ∀ (y0 : Int32) (σ : pw_S), fX3_frameState_33 y0 σ = some (r, σ') → mw_K p l e ({ frames := 7, cells := 1, slots := 6, locals := 103 }) s m args below meth c (vx_MQ below (px_Qi D cA shP 12 A ad r σ') (px_X D cA shP 12 A ad r σ') args s 1 6 A) A D cA shP 12 ad 3 33 1 6 [] [.int (y0)] σ := by
    intro y0 σ hf H locs ls hG hS hl
    unfold fX3_frameState_33 at hf
    exact mrx_i hC hr hlocks hG hS hf (Nat.le_of_ble_eq_true rfl) (Nat.le_of_ble_eq_true rfl) dX3_frameState_33
  have hl : lv_has ls 3 [(0, .ref (ad 0)), (1, .int (a1))] := hl
  unfold fX3_frameState at hf
  refine lv_aload_n hx hb dX3_frameState_0 rfl (lv_at hl 0 rfl) ?_
  refine lv_iload_n hx hb dX3_frameState_1 rfl (lv_at hl 1 rfl) ?_
  obtain ⟨z7, σ5, hc6, hi8, hx9⟩ := bnx_some hf
  refine mx_v (mx_V (As := [.int (a1)]) hC hK hA hX hG hS (kX3_requireFrame l D cA A ad hlt hc6) ykX3_requireFrame wA_598 wA_599 wA_600 (hG.fix (by decide)) rfl rfl ⟨rfl, rfl, Nat.le_of_ble_eq_true rfl, Nat.le_of_ble_eq_true rfl⟩ rfl hl.1 rfl (Nat.le_of_ble_eq_true rfl) dX3_frameState_2 ⟨Nat.le_of_ble_eq_true rfl, Nat.le_of_ble_eq_true rfl⟩) hS hout hlocks (bnx_x hx9) (Nat.le_of_ble_eq_true rfl) (Nat.le_of_ble_eq_true rfl) (fun r4 he10 H locs hG hS => ?_)
  have hf := hi8 r4 he10
  clear hi8 hx9
  refine lv_aload_n hx hb dX3_frameState_5 rfl (lv_at hl 0 rfl) ?_
  refine mw_getl hx hb hts hown hK hG inlX3 rfl (hG.fix (by decide)) rfl 3 (by decide) 4 rfl wA_21 dX3_frameState_6 ?_
  refine mw_getl hx hb hts hown hK hG inlX1 rfl (hG.fix (by decide)) rfl 0 (by decide) 5 rfl wA_395 dX3_frameState_9 ?_
  refine lv_iload_n hx hb dX3_frameState_12 rfl (lv_at hl 1 rfl) ?_
  obtain ⟨h11, hf⟩ := ck_some hf
  obtain ⟨o12, e13, hf⟩ := ld_some hf
  refine mw_aald hx hb hK hG (hG.fix (by decide)) rfl (inb_in h11) dX3_frameState_13 ?_
  rw [← e13]
  clear e13
  refine mq_astore_n (lv' := [(2, va_rf (Option.map ad o12)), (0, .ref (ad 0)), (1, .int (a1))]) hx hb dX3_frameState_14 rfl hl (by decide) rfl (fun ls hl => ?_)
  refine mq_aload_n hx hb dX3_frameState_15 rfl (lv_at hl 0 rfl) ?_
  refine mq_ifnonnull (tgt := 21) hx hb dX3_frameState_16 (by decide) (fun q14 c15 => ?_) (fun c15 => ?_)
  · subst c15
    have hl : lv_has ls 3 [(2, .ref (ad q14)), (0, .ref (ad 0)), (1, .int (a1))] := hl
    have hf := oc_some hf
    refine lv_aload_n hx hb dX3_frameState_21 rfl (lv_at hl 0 rfl) ?_
    obtain ⟨h16, hf⟩ := ck_some hf
    refine mw_geti hx hb hts hown hK hG inlX0 rfl (okc_lt h16) (shP_c h16) 5 (by decide) rfl wA_402 dX3_frameState_22 ?_
    refine lv_if_eq (tgt := 32) hx hb dX3_frameState_25 (by decide) (fun c17 => ?_) (fun c17 => ?_)
    · have hf := it_pos c17 hf
      refine lv_iconst (v := 1) hx hb dX3_frameState_32 (by decide) ?_
      exact K33 _ _ hf _ _ _ hG hS (lv_sub hl [] rfl)
    · have hf := it_neg c17 hf
      refine lv_iconst (v := 2) hx hb dX3_frameState_28 (by decide) ?_
      refine lv_goto (tgt := 33) hx hb dX3_frameState_29 (by decide) ?_
      exact K33 _ _ hf _ _ _ hG hS (lv_sub hl [] rfl)
  · subst c15
    have hl : lv_has ls 3 [(2, .null), (0, .ref (ad 0)), (1, .int (a1))] := hl
    have hf := oc_none hf
    refine lv_iconst (v := 0) hx hb dX3_frameState_19 (by decide) ?_
    exact mrx_i hC hr hlocks hG hS hf (Nat.le_of_ble_eq_true rfl) (Nat.le_of_ble_eq_true rfl) dX3_frameState_20
set_option maxHeartbeats 4000000 in
set_option maxRecDepth 100000 in
theorem k0X3_frameState (l : Launch) (D : va_G) (cA : Nat → ClassId) (A : Nat → Prop) (ad : Nat → Nat) {σ σ' : pw_S} {r : Int32} {a1 : Int32} (hf : fX3_frameState a1 σ = some (.inl r, σ')) : Met l yX3_frameState (wA yX3_frameState cX3_frameState 3 (some .int)) ({ frames := 1, cells := 0, slots := 0, locals := 21 }) (pw_Pc D cA shP 12 A ad σ [.ref (ad 0), .int (a1)]) (pw_Qi D cA shP 12 A ad r σ') 0 0 A := by
  refine mw_enter (own := RX3) (by decide) rfl (Nat.le_of_ble_eq_true rfl) ?_
  intro p e s m args below meth c ls hC hr hlocks hK hA hX hG hS hl
  obtain ⟨hx, hb, hml, hown, hts⟩ := id hC
  have K33 : ∀ (y0 : Int32) (σ : pw_S), fX3_frameState_33 y0 σ = some (.inl r, σ') → mw_K p l e ({ frames := 1, cells := 0, slots := 0, locals := 21 }) s m args below meth c (MQ below (pw_Qi D cA shP 12 A ad r σ') args s 0 0 A) A D cA shP 12 ad 3 33 0 0 [] [.int (y0)] σ := by
    intro y0 σ hf H locs ls hG hS hl
    unfold fX3_frameState_33 at hf
    have hf := inl_some hf
    exact mr_i hC hr hlocks hG hS hf (Nat.le_of_ble_eq_true rfl) (Nat.le_of_ble_eq_true rfl) dX3_frameState_33
  have hl : lv_has ls 3 [(0, .ref (ad 0)), (1, .int (a1))] := hl
  unfold fX3_frameState at hf
  refine lv_aload_n hx hb dX3_frameState_0 rfl (lv_at hl 0 rfl) ?_
  refine lv_iload_n hx hb dX3_frameState_1 rfl (lv_at hl 1 rfl) ?_
  obtain ⟨r4, σ5, hc6, hf⟩ := bnx_ok hf
  refine mc_v (mc_V (As := [.int (a1)]) hC hK hA hX hG hS (k0X3_requireFrame l D cA A ad hc6) ykX3_requireFrame wA_598 wA_599 wA_600 (hG.fix (by decide)) rfl rfl ⟨rfl, rfl, Nat.le_of_ble_eq_true rfl, Nat.le_of_ble_eq_true rfl⟩ rfl hl.1 rfl (Nat.le_of_ble_eq_true rfl) dX3_frameState_2 ⟨Nat.le_of_ble_eq_true rfl, Nat.le_of_ble_eq_true rfl⟩) hS (fun H locs hG hS => ?_)
  refine lv_aload_n hx hb dX3_frameState_5 rfl (lv_at hl 0 rfl) ?_
  refine mw_getl hx hb hts hown hK hG inlX3 rfl (hG.fix (by decide)) rfl 3 (by decide) 4 rfl wA_21 dX3_frameState_6 ?_
  refine mw_getl hx hb hts hown hK hG inlX1 rfl (hG.fix (by decide)) rfl 0 (by decide) 5 rfl wA_395 dX3_frameState_9 ?_
  refine lv_iload_n hx hb dX3_frameState_12 rfl (lv_at hl 1 rfl) ?_
  obtain ⟨h7, hf⟩ := ck_some hf
  obtain ⟨o8, e9, hf⟩ := ld_some hf
  refine mw_aald hx hb hK hG (hG.fix (by decide)) rfl (inb_in h7) dX3_frameState_13 ?_
  rw [← e9]
  clear e9
  refine mq_astore_n (lv' := [(2, va_rf (Option.map ad o8)), (0, .ref (ad 0)), (1, .int (a1))]) hx hb dX3_frameState_14 rfl hl (by decide) rfl (fun ls hl => ?_)
  refine mq_aload_n hx hb dX3_frameState_15 rfl (lv_at hl 0 rfl) ?_
  refine mq_ifnonnull (tgt := 21) hx hb dX3_frameState_16 (by decide) (fun q10 c11 => ?_) (fun c11 => ?_)
  · subst c11
    have hl : lv_has ls 3 [(2, .ref (ad q10)), (0, .ref (ad 0)), (1, .int (a1))] := hl
    have hf := oc_some hf
    refine lv_aload_n hx hb dX3_frameState_21 rfl (lv_at hl 0 rfl) ?_
    obtain ⟨h12, hf⟩ := ck_some hf
    refine mw_geti hx hb hts hown hK hG inlX0 rfl (okc_lt h12) (shP_c h12) 5 (by decide) rfl wA_402 dX3_frameState_22 ?_
    refine lv_if_eq (tgt := 32) hx hb dX3_frameState_25 (by decide) (fun c13 => ?_) (fun c13 => ?_)
    · have hf := it_pos c13 hf
      refine lv_iconst (v := 1) hx hb dX3_frameState_32 (by decide) ?_
      exact K33 _ _ hf _ _ _ hG hS (lv_sub hl [] rfl)
    · have hf := it_neg c13 hf
      refine lv_iconst (v := 2) hx hb dX3_frameState_28 (by decide) ?_
      refine lv_goto (tgt := 33) hx hb dX3_frameState_29 (by decide) ?_
      exact K33 _ _ hf _ _ _ hG hS (lv_sub hl [] rfl)
  · subst c11
    have hl : lv_has ls 3 [(2, .null), (0, .ref (ad 0)), (1, .int (a1))] := hl
    have hf := oc_none hf
    refine lv_iconst (v := 0) hx hb dX3_frameState_19 (by decide) ?_
    have hf := inl_some hf
    exact mr_i hC hr hlocks hG hS hf (Nat.le_of_ble_eq_true rfl) (Nat.le_of_ble_eq_true rfl) dX3_frameState_20
def fX3_latestUse (a1 : Int32) (σ : pw_S) : Option ((Int32 ⊕ String) × pw_S) := bnx (fX3_requireFrame a1 σ) (fun r1 σ2 => ck (inb (a1) (12)) (some (.inl ((gi σ2 6 (Int32.toNatClampNeg (a1)))), σ2)))
set_option maxHeartbeats 4000000 in
set_option maxRecDepth 100000 in
theorem kX3_latestUse (l : Launch) (D : va_G) (cA : Nat → ClassId) (A : Nat → Prop) (ad : Nat → Nat) (hlt : l.stackTraces = false) {σ σ' : pw_S} {r : (Int32 ⊕ String)} {a1 : Int32} (hf : fX3_latestUse a1 σ = some (r, σ')) : vx_Met l yX3_latestUse (wA yX3_latestUse cX3_latestUse 2 (some .int)) ({ frames := 7, cells := 1, slots := 6, locals := 103 }) (pw_Pc D cA shP 12 A ad σ [.ref (ad 0), .int (a1)]) (px_Qi D cA shP 12 A ad r σ') (px_X D cA shP 12 A ad r σ') 1 6 A := by
  refine mw_enterX (own := RX3) (by decide) rfl (Nat.le_of_ble_eq_true rfl) ?_
  intro p e s m args below meth c ls hC hr hlocks hout hK hA hX hG hS hl
  obtain ⟨hx, hb, hml, hown, hts⟩ := id hC
  have hl : lv_has ls 2 [(0, .ref (ad 0)), (1, .int (a1))] := hl
  unfold fX3_latestUse at hf
  refine lv_aload_n hx hb dX3_latestUse_0 rfl (lv_at hl 0 rfl) ?_
  refine lv_iload_n hx hb dX3_latestUse_1 rfl (lv_at hl 1 rfl) ?_
  obtain ⟨z4, σ2, hc3, hi5, hx6⟩ := bnx_some hf
  refine mx_v (mx_V (As := [.int (a1)]) hC hK hA hX hG hS (kX3_requireFrame l D cA A ad hlt hc3) ykX3_requireFrame wA_598 wA_599 wA_600 (hG.fix (by decide)) rfl rfl ⟨rfl, rfl, Nat.le_of_ble_eq_true rfl, Nat.le_of_ble_eq_true rfl⟩ rfl hl.1 rfl (Nat.le_of_ble_eq_true rfl) dX3_latestUse_2 ⟨Nat.le_of_ble_eq_true rfl, Nat.le_of_ble_eq_true rfl⟩) hS hout hlocks (bnx_x hx6) (Nat.le_of_ble_eq_true rfl) (Nat.le_of_ble_eq_true rfl) (fun r1 he7 H locs hG hS => ?_)
  have hf := hi5 r1 he7
  clear hi5 hx6
  refine lv_aload_n hx hb dX3_latestUse_5 rfl (lv_at hl 0 rfl) ?_
  refine mw_getl hx hb hts hown hK hG inlX3 rfl (hG.fix (by decide)) rfl 3 (by decide) 4 rfl wA_21 dX3_latestUse_6 ?_
  refine mw_getl hx hb hts hown hK hG inlX1 rfl (hG.fix (by decide)) rfl 1 (by decide) 6 rfl wA_401 dX3_latestUse_9 ?_
  refine lv_iload_n hx hb dX3_latestUse_12 rfl (lv_at hl 1 rfl) ?_
  obtain ⟨h8, hf⟩ := ck_some hf
  refine mw_iald hx hb hK hG (hG.fix (by decide)) rfl (inb_in h8) dX3_latestUse_13 ?_
  exact mrx_i hC hr hlocks hG hS hf (Nat.le_of_ble_eq_true rfl) (Nat.le_of_ble_eq_true rfl) dX3_latestUse_14
set_option maxHeartbeats 4000000 in
set_option maxRecDepth 100000 in
theorem k0X3_latestUse (l : Launch) (D : va_G) (cA : Nat → ClassId) (A : Nat → Prop) (ad : Nat → Nat) {σ σ' : pw_S} {r : Int32} {a1 : Int32} (hf : fX3_latestUse a1 σ = some (.inl r, σ')) : Met l yX3_latestUse (wA yX3_latestUse cX3_latestUse 2 (some .int)) ({ frames := 1, cells := 0, slots := 0, locals := 21 }) (pw_Pc D cA shP 12 A ad σ [.ref (ad 0), .int (a1)]) (pw_Qi D cA shP 12 A ad r σ') 0 0 A := by
  refine mw_enter (own := RX3) (by decide) rfl (Nat.le_of_ble_eq_true rfl) ?_
  intro p e s m args below meth c ls hC hr hlocks hK hA hX hG hS hl
  obtain ⟨hx, hb, hml, hown, hts⟩ := id hC
  have hl : lv_has ls 2 [(0, .ref (ad 0)), (1, .int (a1))] := hl
  unfold fX3_latestUse at hf
  refine lv_aload_n hx hb dX3_latestUse_0 rfl (lv_at hl 0 rfl) ?_
  refine lv_iload_n hx hb dX3_latestUse_1 rfl (lv_at hl 1 rfl) ?_
  obtain ⟨r1, σ2, hc3, hf⟩ := bnx_ok hf
  refine mc_v (mc_V (As := [.int (a1)]) hC hK hA hX hG hS (k0X3_requireFrame l D cA A ad hc3) ykX3_requireFrame wA_598 wA_599 wA_600 (hG.fix (by decide)) rfl rfl ⟨rfl, rfl, Nat.le_of_ble_eq_true rfl, Nat.le_of_ble_eq_true rfl⟩ rfl hl.1 rfl (Nat.le_of_ble_eq_true rfl) dX3_latestUse_2 ⟨Nat.le_of_ble_eq_true rfl, Nat.le_of_ble_eq_true rfl⟩) hS (fun H locs hG hS => ?_)
  refine lv_aload_n hx hb dX3_latestUse_5 rfl (lv_at hl 0 rfl) ?_
  refine mw_getl hx hb hts hown hK hG inlX3 rfl (hG.fix (by decide)) rfl 3 (by decide) 4 rfl wA_21 dX3_latestUse_6 ?_
  refine mw_getl hx hb hts hown hK hG inlX1 rfl (hG.fix (by decide)) rfl 1 (by decide) 6 rfl wA_401 dX3_latestUse_9 ?_
  refine lv_iload_n hx hb dX3_latestUse_12 rfl (lv_at hl 1 rfl) ?_
  obtain ⟨h4, hf⟩ := ck_some hf
  refine mw_iald hx hb hK hG (hG.fix (by decide)) rfl (inb_in h4) dX3_latestUse_13 ?_
  have hf := inl_some hf
  exact mr_i hC hr hlocks hG hS hf (Nat.le_of_ble_eq_true rfl) (Nat.le_of_ble_eq_true rfl) dX3_latestUse_14
def fX3_isReferenced (a1 : Int32) (σ : pw_S) : Option ((Int32 ⊕ String) × pw_S) := bnx (fX3_requireFrame a1 σ) (fun r1 σ2 => ck (inb (a1) (12)) (ck (isB ((gi σ2 7 (Int32.toNatClampNeg (a1))))) (some (.inl ((gi σ2 7 (Int32.toNatClampNeg (a1)))), σ2))))
set_option maxHeartbeats 4000000 in
set_option maxRecDepth 100000 in
theorem kX3_isReferenced (l : Launch) (D : va_G) (cA : Nat → ClassId) (A : Nat → Prop) (ad : Nat → Nat) (hlt : l.stackTraces = false) {σ σ' : pw_S} {r : (Int32 ⊕ String)} {a1 : Int32} (hf : fX3_isReferenced a1 σ = some (r, σ')) : vx_Met l yX3_isReferenced (wA yX3_isReferenced cX3_isReferenced 2 (some .boolean)) ({ frames := 7, cells := 1, slots := 6, locals := 103 }) (pw_Pc D cA shP 12 A ad σ [.ref (ad 0), .int (a1)]) (px_Qi D cA shP 12 A ad r σ') (px_X D cA shP 12 A ad r σ') 1 6 A := by
  refine mw_enterX (own := RX3) (by decide) rfl (Nat.le_of_ble_eq_true rfl) ?_
  intro p e s m args below meth c ls hC hr hlocks hout hK hA hX hG hS hl
  obtain ⟨hx, hb, hml, hown, hts⟩ := id hC
  have hl : lv_has ls 2 [(0, .ref (ad 0)), (1, .int (a1))] := hl
  unfold fX3_isReferenced at hf
  refine lv_aload_n hx hb dX3_isReferenced_0 rfl (lv_at hl 0 rfl) ?_
  refine lv_iload_n hx hb dX3_isReferenced_1 rfl (lv_at hl 1 rfl) ?_
  obtain ⟨z4, σ2, hc3, hi5, hx6⟩ := bnx_some hf
  refine mx_v (mx_V (As := [.int (a1)]) hC hK hA hX hG hS (kX3_requireFrame l D cA A ad hlt hc3) ykX3_requireFrame wA_598 wA_599 wA_600 (hG.fix (by decide)) rfl rfl ⟨rfl, rfl, Nat.le_of_ble_eq_true rfl, Nat.le_of_ble_eq_true rfl⟩ rfl hl.1 rfl (Nat.le_of_ble_eq_true rfl) dX3_isReferenced_2 ⟨Nat.le_of_ble_eq_true rfl, Nat.le_of_ble_eq_true rfl⟩) hS hout hlocks (bnx_x hx6) (Nat.le_of_ble_eq_true rfl) (Nat.le_of_ble_eq_true rfl) (fun r1 he7 H locs hG hS => ?_)
  have hf := hi5 r1 he7
  clear hi5 hx6
  refine lv_aload_n hx hb dX3_isReferenced_5 rfl (lv_at hl 0 rfl) ?_
  refine mw_getl hx hb hts hown hK hG inlX3 rfl (hG.fix (by decide)) rfl 3 (by decide) 4 rfl wA_21 dX3_isReferenced_6 ?_
  refine mw_getl hx hb hts hown hK hG inlX1 rfl (hG.fix (by decide)) rfl 2 (by decide) 7 rfl wA_400 dX3_isReferenced_9 ?_
  refine lv_iload_n hx hb dX3_isReferenced_12 rfl (lv_at hl 1 rfl) ?_
  obtain ⟨h8, hf⟩ := ck_some hf
  refine mw_zald hx hb hK hG (hG.fix (by decide)) rfl (inb_in h8) dX3_isReferenced_13 ?_
  obtain ⟨h9, hf⟩ := ck_some hf
  exact mrx_z hC hr hlocks hG hS (isB_or h9) hf (Nat.le_of_ble_eq_true rfl) (Nat.le_of_ble_eq_true rfl) dX3_isReferenced_14
set_option maxHeartbeats 4000000 in
set_option maxRecDepth 100000 in
theorem k0X3_isReferenced (l : Launch) (D : va_G) (cA : Nat → ClassId) (A : Nat → Prop) (ad : Nat → Nat) {σ σ' : pw_S} {r : Int32} {a1 : Int32} (hf : fX3_isReferenced a1 σ = some (.inl r, σ')) : Met l yX3_isReferenced (wA yX3_isReferenced cX3_isReferenced 2 (some .boolean)) ({ frames := 1, cells := 0, slots := 0, locals := 21 }) (pw_Pc D cA shP 12 A ad σ [.ref (ad 0), .int (a1)]) (pw_Qi D cA shP 12 A ad r σ') 0 0 A := by
  refine mw_enter (own := RX3) (by decide) rfl (Nat.le_of_ble_eq_true rfl) ?_
  intro p e s m args below meth c ls hC hr hlocks hK hA hX hG hS hl
  obtain ⟨hx, hb, hml, hown, hts⟩ := id hC
  have hl : lv_has ls 2 [(0, .ref (ad 0)), (1, .int (a1))] := hl
  unfold fX3_isReferenced at hf
  refine lv_aload_n hx hb dX3_isReferenced_0 rfl (lv_at hl 0 rfl) ?_
  refine lv_iload_n hx hb dX3_isReferenced_1 rfl (lv_at hl 1 rfl) ?_
  obtain ⟨r1, σ2, hc3, hf⟩ := bnx_ok hf
  refine mc_v (mc_V (As := [.int (a1)]) hC hK hA hX hG hS (k0X3_requireFrame l D cA A ad hc3) ykX3_requireFrame wA_598 wA_599 wA_600 (hG.fix (by decide)) rfl rfl ⟨rfl, rfl, Nat.le_of_ble_eq_true rfl, Nat.le_of_ble_eq_true rfl⟩ rfl hl.1 rfl (Nat.le_of_ble_eq_true rfl) dX3_isReferenced_2 ⟨Nat.le_of_ble_eq_true rfl, Nat.le_of_ble_eq_true rfl⟩) hS (fun H locs hG hS => ?_)
  refine lv_aload_n hx hb dX3_isReferenced_5 rfl (lv_at hl 0 rfl) ?_
  refine mw_getl hx hb hts hown hK hG inlX3 rfl (hG.fix (by decide)) rfl 3 (by decide) 4 rfl wA_21 dX3_isReferenced_6 ?_
  refine mw_getl hx hb hts hown hK hG inlX1 rfl (hG.fix (by decide)) rfl 2 (by decide) 7 rfl wA_400 dX3_isReferenced_9 ?_
  refine lv_iload_n hx hb dX3_isReferenced_12 rfl (lv_at hl 1 rfl) ?_
  obtain ⟨h4, hf⟩ := ck_some hf
  refine mw_zald hx hb hK hG (hG.fix (by decide)) rfl (inb_in h4) dX3_isReferenced_13 ?_
  obtain ⟨h5, hf⟩ := ck_some hf
  have hf := inl_some hf
  exact mr_z hC hr hlocks hG hS (isB_or h5) hf (Nat.le_of_ble_eq_true rfl) (Nat.le_of_ble_eq_true rfl) dX3_isReferenced_14
def fX3_freeFrames (σ : pw_S) : Option (Int32 × pw_S) := bnd (fX1_freeCount σ) (fun r1 σ2 => some (r1, σ2))
set_option maxHeartbeats 4000000 in
set_option maxRecDepth 100000 in
theorem kX3_freeFrames (l : Launch) (D : va_G) (cA : Nat → ClassId) (A : Nat → Prop) (ad : Nat → Nat) {σ σ' : pw_S} {r : Int32} (hf : fX3_freeFrames σ = some (r, σ')) : Met l yX3_freeFrames (wA yX3_freeFrames cX3_freeFrames 1 (some .int)) ({ frames := 1, cells := 0, slots := 0, locals := 22 }) (pw_Pc D cA shP 12 A ad σ [.ref (ad 0)]) (pw_Qi D cA shP 12 A ad r σ') 0 0 A := by
  refine mw_enter (own := RX3) (by decide) rfl (Nat.le_of_ble_eq_true rfl) ?_
  intro p e s m args below meth c ls hC hr hlocks hK hA hX hG hS hl
  obtain ⟨hx, hb, hml, hown, hts⟩ := id hC
  have hl : lv_has ls 1 [(0, .ref (ad 0))] := hl
  unfold fX3_freeFrames at hf
  refine lv_aload_n hx hb dX3_freeFrames_0 rfl (lv_at hl 0 rfl) ?_
  refine mw_getl hx hb hts hown hK hG inlX3 rfl (hG.fix (by decide)) rfl 3 (by decide) 4 rfl wA_21 dX3_freeFrames_1 ?_
  obtain ⟨r1, σ2, hc3, hf⟩ := bnd_some hf
  refine mc_i (mc_V (As := []) hC hK hA hX hG hS (kX1_freeCount l D cA A ad hc3) ykX1_freeCount wA_85 wA_86 wA_87 (hG.fix (by decide)) rfl rfl ⟨rfl, rfl, Nat.le_of_ble_eq_true rfl, Nat.le_of_ble_eq_true rfl⟩ rfl hl.1 rfl (Nat.le_of_ble_eq_true rfl) dX3_freeFrames_4 ⟨Nat.le_of_ble_eq_true rfl, Nat.le_of_ble_eq_true rfl⟩) hS (fun H locs hG hS => ?_)
  exact mr_i hC hr hlocks hG hS hf (Nat.le_of_ble_eq_true rfl) (Nat.le_of_ble_eq_true rfl) dX3_freeFrames_7
def fX3_freeSlots (σ : pw_S) : Option (Int32 × pw_S) := bnd (fX2_freeCount σ) (fun r1 σ2 => some (r1, σ2))
set_option maxHeartbeats 4000000 in
set_option maxRecDepth 100000 in
theorem kX3_freeSlots (l : Launch) (D : va_G) (cA : Nat → ClassId) (A : Nat → Prop) (ad : Nat → Nat) {σ σ' : pw_S} {r : Int32} (hf : fX3_freeSlots σ = some (r, σ')) : Met l yX3_freeSlots (wA yX3_freeSlots cX3_freeSlots 1 (some .int)) ({ frames := 1, cells := 0, slots := 0, locals := 22 }) (pw_Pc D cA shP 12 A ad σ [.ref (ad 0)]) (pw_Qi D cA shP 12 A ad r σ') 0 0 A := by
  refine mw_enter (own := RX3) (by decide) rfl (Nat.le_of_ble_eq_true rfl) ?_
  intro p e s m args below meth c ls hC hr hlocks hK hA hX hG hS hl
  obtain ⟨hx, hb, hml, hown, hts⟩ := id hC
  have hl : lv_has ls 1 [(0, .ref (ad 0))] := hl
  unfold fX3_freeSlots at hf
  refine lv_aload_n hx hb dX3_freeSlots_0 rfl (lv_at hl 0 rfl) ?_
  refine mw_getl hx hb hts hown hK hG inlX3 rfl (hG.fix (by decide)) rfl 4 (by decide) 8 rfl wA_25 dX3_freeSlots_1 ?_
  obtain ⟨r1, σ2, hc3, hf⟩ := bnd_some hf
  refine mc_i (mc_V (As := []) hC hK hA hX hG hS (kX2_freeCount l D cA A ad hc3) ykX2_freeCount wA_378 wA_379 wA_380 (hG.fix (by decide)) rfl rfl ⟨rfl, rfl, Nat.le_of_ble_eq_true rfl, Nat.le_of_ble_eq_true rfl⟩ rfl hl.1 rfl (Nat.le_of_ble_eq_true rfl) dX3_freeSlots_4 ⟨Nat.le_of_ble_eq_true rfl, Nat.le_of_ble_eq_true rfl⟩) hS (fun H locs hG hS => ?_)
  exact mr_i hC hr hlocks hG hS hf (Nat.le_of_ble_eq_true rfl) (Nat.le_of_ble_eq_true rfl) dX3_freeSlots_7
def fX3_workingSet_56 (bk9 : Int32 → Int32 → Int32 → pw_S → Option ((Int32 ⊕ String) × pw_S)) (x1 : Int32) (x2 : Int32) (x3 : Int32) (σ : pw_S) : Option ((Int32 ⊕ String) × pw_S) := bk9 x1 x2 (x3 + 1) σ
def fX3_workingSet_9_b (bk9 : Int32 → Int32 → Int32 → pw_S → Option ((Int32 ⊕ String) × pw_S)) (x1 : Int32) (x2 : Int32) (x3 : Int32) (σ : pw_S) : Option ((Int32 ⊕ String) × pw_S) := (if 16 ≤ x3 then some (.inl (x2), σ) else bnd (fX3_placeOf x1 x3 σ) (fun r7 σ8 => ck (inb (r7) (160)) (ld (gr σ8 1 (Int32.toNatClampNeg (r7))) (fun o11 => oc o11 (fX3_workingSet_56 bk9 x1 x2 x3 σ8) (fun q13 => ck (okc σ8 q13) ((if (gi σ8 q13 3) = (-1) then fX3_workingSet_56 bk9 x1 x2 x3 σ8 else bnd (fX3_isOutsideWindow ((gi σ8 q13 3)) σ8) (fun r17 σ18 => (if r17 = 0 then fX3_workingSet_56 bk9 x1 (x2 + 1) x3 σ18 else fX3_workingSet_56 bk9 x1 x2 x3 σ18)))))))))
def fX3_workingSet_9 : Nat → Int32 → Int32 → Int32 → pw_S → Option ((Int32 ⊕ String) × pw_S)
  | 0, _, _, _, _ => none
  | n + 1, x1, x2, x3, σ => fX3_workingSet_9_b (fX3_workingSet_9 n) x1 x2 x3 σ
def fX3_workingSet (a1 : Int32) (σ : pw_S) : Option ((Int32 ⊕ String) × pw_S) := bnx (fX3_requireProcess a1 σ) (fun r21 σ22 => fX3_workingSet_9 1000 a1 0 0 σ22)
set_option maxHeartbeats 4000000 in
set_option maxRecDepth 100000 in
theorem kX3_workingSet (l : Launch) (D : va_G) (cA : Nat → ClassId) (A : Nat → Prop) (ad : Nat → Nat) (hlt : l.stackTraces = false) {σ σ' : pw_S} {r : (Int32 ⊕ String)} {a1 : Int32} (hf : fX3_workingSet a1 σ = some (r, σ')) : vx_Met l yX3_workingSet (wA yX3_workingSet cX3_workingSet 5 (some .int)) ({ frames := 7, cells := 1, slots := 6, locals := 103 }) (pw_Pc D cA shP 12 A ad σ [.ref (ad 0), .int (a1)]) (px_Qi D cA shP 12 A ad r σ') (px_X D cA shP 12 A ad r σ') 1 6 A := by
  refine mw_enterX (own := RX3) (by decide) rfl (Nat.le_of_ble_eq_true rfl) ?_
  intro p e s m args below meth c ls hC hr hlocks hout hK hA hX hG hS hl
  obtain ⟨hx, hb, hml, hown, hts⟩ := id hC
  have K9 : ∀ (n9 : Nat) (x1 : Int32) (x2 : Int32) (x3 : Int32) (σ : pw_S), fX3_workingSet_9 n9 x1 x2 x3 σ = some (r, σ') → mw_K p l e ({ frames := 7, cells := 1, slots := 6, locals := 103 }) s m args below meth c (vx_MQ below (px_Qi D cA shP 12 A ad r σ') (px_X D cA shP 12 A ad r σ') args s 1 6 A) A D cA shP 12 ad 5 9 1 6 [(0, .ref (ad 0)), (1, .int (x1)), (2, .int (x2)), (3, .int (x3))] [] σ := by
    intro n9
    induction n9 with
    | zero => intro x1 x2 x3 σ hf; cases hf
    | succ n9 ih9 =>
      have K56 : ∀ (x1 : Int32) (x2 : Int32) (x3 : Int32) (σ : pw_S), fX3_workingSet_56 (fX3_workingSet_9 n9) x1 x2 x3 σ = some (r, σ') → mw_K p l e ({ frames := 7, cells := 1, slots := 6, locals := 103 }) s m args below meth c (vx_MQ below (px_Qi D cA shP 12 A ad r σ') (px_X D cA shP 12 A ad r σ') args s 1 6 A) A D cA shP 12 ad 5 56 1 6 [(0, .ref (ad 0)), (1, .int (x1)), (2, .int (x2)), (3, .int (x3))] [] σ := by
        intro x1 x2 x3 σ hf H locs ls hG hS hl
        unfold fX3_workingSet_56 at hf
        refine lv_iinc (v := x3 + 1) (lv' := [(3, .int (x3 + 1)), (0, .ref (ad 0)), (1, .int (x1)), (2, .int (x2))]) hx hb dX3_workingSet_56 hl (k := 3) rfl rfl (by decide) rfl (fun ls hl => ?_)
        refine lv_goto (tgt := 9) hx hb dX3_workingSet_59 (by decide) ?_
        exact ih9 _ _ _ _ hf _ _ _ hG hS (lv_sub hl [1, 2, 3, 0] rfl)
      intro x1 x2 x3 σ hf H locs ls hG hS hl
      have hf : fX3_workingSet_9_b (fX3_workingSet_9 n9) x1 x2 x3 σ = some (r, σ') := hf
      unfold fX3_workingSet_9_b at hf
      refine lv_iload_n hx hb dX3_workingSet_9 rfl (lv_at hl 3 rfl) ?_
      refine lv_bipush (v := 16) hx hb dX3_workingSet_10 (by decide) ?_
      refine lv_icmp_ge (tgt := 62) hx hb dX3_workingSet_12 (by decide) (fun c6 => ?_) (fun c6 => ?_)
      · have hf := it_pos c6 hf
        refine lv_iload_n hx hb dX3_workingSet_62 rfl (lv_at hl 2 rfl) ?_
        exact mrx_i hC hr hlocks hG hS hf (Nat.le_of_ble_eq_true rfl) (Nat.le_of_ble_eq_true rfl) dX3_workingSet_63
      · have hf := it_neg c6 hf
        refine lv_aload_n hx hb dX3_workingSet_15 rfl (lv_at hl 0 rfl) ?_
        refine mw_getl hx hb hts hown hK hG inlX3 rfl (hG.fix (by decide)) rfl 0 (by decide) 1 rfl wA_14 dX3_workingSet_16 ?_
        refine lv_iload_n hx hb dX3_workingSet_19 rfl (lv_at hl 1 rfl) ?_
        refine lv_iload_n hx hb dX3_workingSet_20 rfl (lv_at hl 3 rfl) ?_
        obtain ⟨r7, σ8, hc9, hf⟩ := bnd_some hf
        refine mc_i (mc_S (As := [.int (x1), .int (x3)]) hC hK hA hX hG hS (kX3_placeOf l D cA A ad hc9) ykX3_placeOf wA_162 wA_163 ⟨rfl, rfl, Nat.le_of_ble_eq_true rfl, Nat.le_of_ble_eq_true rfl⟩ rfl hl.1 rfl (Nat.le_of_ble_eq_true rfl) dX3_workingSet_21 ⟨Nat.le_of_ble_eq_true rfl, Nat.le_of_ble_eq_true rfl⟩) hS (fun H locs hG hS => ?_)
        obtain ⟨h10, hf⟩ := ck_some hf
        obtain ⟨o11, e12, hf⟩ := ld_some hf
        refine mw_aald hx hb hK hG (hG.fix (by decide)) rfl (inb_in h10) dX3_workingSet_24 ?_
        rw [← e12]
        clear e12
        refine mq_astore (lv' := [(4, va_rf (Option.map ad o11)), (0, .ref (ad 0)), (1, .int (x1)), (2, .int (x2)), (3, .int (x3))]) hx hb dX3_workingSet_25 hl (by decide) rfl (fun ls hl => ?_)
        refine mq_aload hx hb dX3_workingSet_27 (lv_at hl 0 rfl) ?_
        refine mq_ifnull (tgt := 56) hx hb dX3_workingSet_29 (by decide) (fun c14 => ?_) (fun q13 c14 => ?_)
        · subst c14
          have hl : lv_has ls 5 [(4, .null), (0, .ref (ad 0)), (1, .int (x1)), (2, .int (x2)), (3, .int (x3))] := hl
          have hf := oc_none hf
          exact K56 _ _ _ _ hf _ _ _ hG hS (lv_sub hl [1, 2, 3, 4] rfl)
        · subst c14
          have hl : lv_has ls 5 [(4, .ref (ad q13)), (0, .ref (ad 0)), (1, .int (x1)), (2, .int (x2)), (3, .int (x3))] := hl
          have hf := oc_some hf
          refine lv_aload hx hb dX3_workingSet_32 (lv_at hl 0 rfl) ?_
          obtain ⟨h15, hf⟩ := ck_some hf
          refine mw_geti hx hb hts hown hK hG inlX0 rfl (okc_lt h15) (shP_c h15) 3 (by decide) rfl wA_191 dX3_workingSet_34 ?_
          refine lv_iconst (v := (-1)) hx hb dX3_workingSet_37 (by decide) ?_
          refine lv_icmp_eq (tgt := 56) hx hb dX3_workingSet_38 (by decide) (fun c16 => ?_) (fun c16 => ?_)
          · have hf := it_pos c16 hf
            exact K56 _ _ _ _ hf _ _ _ hG hS (lv_sub hl [1, 2, 3, 4] rfl)
          · have hf := it_neg c16 hf
            refine lv_aload_n hx hb dX3_workingSet_41 rfl (lv_at hl 1 rfl) ?_
            refine lv_aload hx hb dX3_workingSet_42 (lv_at hl 0 rfl) ?_
            refine mw_geti hx hb hts hown hK hG inlX0 rfl (okc_lt h15) (shP_c h15) 3 (by decide) rfl wA_191 dX3_workingSet_44 ?_
            obtain ⟨r17, σ18, hc19, hf⟩ := bnd_some hf
            refine mc_i (mc_V (As := [.int ((gi σ8 q13 3))]) hC hK hA hX hG hS (kX3_isOutsideWindow l D cA A ad hc19) ykX3_isOutsideWindow wA_403 wA_404 wA_405 (hG.fix (by decide)) rfl rfl ⟨rfl, rfl, Nat.le_of_ble_eq_true rfl, Nat.le_of_ble_eq_true rfl⟩ rfl hl.1 rfl (Nat.le_of_ble_eq_true rfl) dX3_workingSet_47 ⟨Nat.le_of_ble_eq_true rfl, Nat.le_of_ble_eq_true rfl⟩) hS (fun H locs hG hS => ?_)
            refine lv_if_ne (tgt := 56) hx hb dX3_workingSet_50 (by decide) (fun c20 => ?_) (fun c20 => ?_)
            · have hf := it_neg c20 hf
              exact K56 _ _ _ _ hf _ _ _ hG hS (lv_sub hl [1, 2, 3, 4] rfl)
            · have hf := it_pos c20 hf
              refine lv_iinc (v := x2 + 1) (lv' := [(2, .int (x2 + 1)), (4, .ref (ad q13)), (0, .ref (ad 0)), (1, .int (x1)), (3, .int (x3))]) hx hb dX3_workingSet_53 hl (k := 3) rfl rfl (by decide) rfl (fun ls hl => ?_)
              exact K56 _ _ _ _ hf _ _ _ hG hS (lv_sub hl [2, 3, 0, 4] rfl)
  have hl : lv_has ls 5 [(0, .ref (ad 0)), (1, .int (a1))] := hl
  unfold fX3_workingSet at hf
  refine lv_aload_n hx hb dX3_workingSet_0 rfl (lv_at hl 0 rfl) ?_
  refine lv_iload_n hx hb dX3_workingSet_1 rfl (lv_at hl 1 rfl) ?_
  obtain ⟨z24, σ22, hc23, hi25, hx26⟩ := bnx_some hf
  refine mx_v (mx_V (As := [.int (a1)]) hC hK hA hX hG hS (kX3_requireProcess l D cA A ad hlt hc23) ykX3_requireProcess wA_150 wA_151 wA_152 (hG.fix (by decide)) rfl rfl ⟨rfl, rfl, Nat.le_of_ble_eq_true rfl, Nat.le_of_ble_eq_true rfl⟩ rfl hl.1 rfl (Nat.le_of_ble_eq_true rfl) dX3_workingSet_2 ⟨Nat.le_of_ble_eq_true rfl, Nat.le_of_ble_eq_true rfl⟩) hS hout hlocks (bnx_x hx26) (Nat.le_of_ble_eq_true rfl) (Nat.le_of_ble_eq_true rfl) (fun r21 he27 H locs hG hS => ?_)
  have hf := hi25 r21 he27
  clear hi25 hx26
  refine lv_iconst (v := 0) hx hb dX3_workingSet_5 (by decide) ?_
  refine lv_istore_n (lv' := [(2, .int (0)), (0, .ref (ad 0)), (1, .int (a1))]) hx hb dX3_workingSet_6 rfl hl (by decide) rfl (fun ls hl => ?_)
  refine lv_iconst (v := 0) hx hb dX3_workingSet_7 (by decide) ?_
  refine lv_istore_n (lv' := [(3, .int (0)), (2, .int (0)), (0, .ref (ad 0)), (1, .int (a1))]) hx hb dX3_workingSet_8 rfl hl (by decide) rfl (fun ls hl => ?_)
  exact K9 1000 _ _ _ _ hf _ _ _ hG hS (lv_sub hl [2, 3, 1, 0] rfl)
def fX3_count_10 (σ : pw_S) : Option ((Int32 ⊕ String) × pw_S) := some (.inr pw_ioX, σ)
def fX3_count (a1 : Int32) (σ : pw_S) : Option ((Int32 ⊕ String) × pw_S) := (if a1 < 0 then fX3_count_10 σ else (if a1 < 6 then ck (inb (a1) (6)) (some (.inl ((gi σ 11 (Int32.toNatClampNeg (a1)))), σ)) else fX3_count_10 σ))
set_option maxHeartbeats 4000000 in
set_option maxRecDepth 100000 in
theorem kX3_count (l : Launch) (D : va_G) (cA : Nat → ClassId) (A : Nat → Prop) (ad : Nat → Nat) (hlt : l.stackTraces = false) {σ σ' : pw_S} {r : (Int32 ⊕ String)} {a1 : Int32} (hf : fX3_count a1 σ = some (r, σ')) : vx_Met l yX3_count (wA yX3_count cX3_count 2 (some .int)) ({ frames := 6, cells := 1, slots := 6, locals := 82 }) (pw_Pc D cA shP 12 A ad σ [.ref (ad 0), .int (a1)]) (px_Qi D cA shP 12 A ad r σ') (px_X D cA shP 12 A ad r σ') 1 6 A := by
  refine mw_enterX (own := RX3) (by decide) rfl (Nat.le_of_ble_eq_true rfl) ?_
  intro p e s m args below meth c ls hC hr hlocks hout hK hA hX hG hS hl
  obtain ⟨hx, hb, hml, hown, hts⟩ := id hC
  have K10 : ∀ (σ : pw_S), fX3_count_10  σ = some (r, σ') → mw_K p l e ({ frames := 6, cells := 1, slots := 6, locals := 82 }) s m args below meth c (vx_MQ below (px_Qi D cA shP 12 A ad r σ') (px_X D cA shP 12 A ad r σ') args s 1 6 A) A D cA shP 12 ad 2 10 0 0 [] [] σ := by
    intro  σ hf H locs ls hG hS hl
    unfold fX3_count_10 at hf
    exact mt_throw mtE_io (List.mem_of_getElem? (i := 5) rfl) hC hout hlt hX hG hS hlocks hl.1 hf (Nat.le_of_ble_eq_true rfl) (Nat.le_of_ble_eq_true rfl) (Nat.le_of_ble_eq_true rfl) (Nat.le_of_ble_eq_true rfl) (Nat.le_of_ble_eq_true rfl) (Nat.le_of_ble_eq_true rfl) dX3_count_10 dX3_count_13 dX3_count_14 dX3_count_16 dX3_count_19
  have hl : lv_has ls 2 [(0, .ref (ad 0)), (1, .int (a1))] := hl
  unfold fX3_count at hf
  refine lv_iload_n hx hb dX3_count_0 rfl (lv_at hl 1 rfl) ?_
  refine lv_if_lt (tgt := 10) hx hb dX3_count_1 (by decide) (fun c3 => ?_) (fun c3 => ?_)
  · have hf := it_pos c3 hf
    exact K10 _ hf _ _ _ hG hS (lv_sub hl [] rfl)
  · have hf := it_neg c3 hf
    refine lv_iload_n hx hb dX3_count_4 rfl (lv_at hl 1 rfl) ?_
    refine lv_bipush (v := 6) hx hb dX3_count_5 (by decide) ?_
    refine lv_icmp_lt (tgt := 20) hx hb dX3_count_7 (by decide) (fun c4 => ?_) (fun c4 => ?_)
    · have hf := it_pos c4 hf
      refine lv_aload_n hx hb dX3_count_20 rfl (lv_at hl 0 rfl) ?_
      refine mw_getl hx hb hts hown hK hG inlX3 rfl (hG.fix (by decide)) rfl 6 (by decide) 11 rfl wA_28 dX3_count_21 ?_
      refine lv_iload_n hx hb dX3_count_24 rfl (lv_at hl 1 rfl) ?_
      obtain ⟨h5, hf⟩ := ck_some hf
      refine mw_iald hx hb hK hG (hG.fix (by decide)) rfl (inb_in h5) dX3_count_25 ?_
      exact mrx_i hC hr hlocks hG hS hf (Nat.le_of_ble_eq_true rfl) (Nat.le_of_ble_eq_true rfl) dX3_count_26
    · have hf := it_neg c4 hf
      exact K10 _ hf _ _ _ hG hS (lv_sub hl [] rfl)
def fX3_mix (a0 : Int64) (a2 : Int64) (σ : pw_S) : Option (Int64 × pw_S) := some (((a0 * 31) + a2), σ)
set_option maxHeartbeats 4000000 in
set_option maxRecDepth 100000 in
theorem kX3_mix (l : Launch) (D : va_G) (cA : Nat → ClassId) (A : Nat → Prop) (ad : Nat → Nat) {σ σ' : pw_S} {r : Int64} {a0 : Int64} {a2 : Int64} (hf : fX3_mix a0 a2 σ = some (r, σ')) : Met l yX3_mix (wA yX3_mix cX3_mix 4 (some .long)) ({ frames := 0, cells := 0, slots := 0, locals := 0 }) (pw_Pc D cA shP 12 A ad σ [.long (a0), .long (a2)]) (pw_Ql D cA shP 12 A ad r σ') 0 0 A := by
  refine mw_enter (own := RX3) (by decide) rfl (Nat.le_of_ble_eq_true rfl) ?_
  intro p e s m args below meth c ls hC hr hlocks hK hA hX hG hS hl
  obtain ⟨hx, hb, hml, hown, hts⟩ := id hC
  have hl : lv_has ls 4 [(0, .long (a0)), (2, .long (a2))] := hl
  unfold fX3_mix at hf
  refine lv_lload_n hx hb dX3_mix_0 rfl (lv_at hl 0 rfl) ?_
  refine lv_ldc2 (v := 31) hx hb hown (hts _ wA_698) dX3_mix_1 ?_
  refine lv_lmul hx hb dX3_mix_4 ?_
  refine lv_lload_n hx hb dX3_mix_5 rfl (lv_at hl 1 rfl) ?_
  refine lv_ladd hx hb dX3_mix_6 ?_
  exact mr_l hC hr hlocks hG hS hf (Nat.le_of_ble_eq_true rfl) (Nat.le_of_ble_eq_true rfl) dX3_mix_7
def fX3_digest_201_b (bk201 : Int64 → Int32 → pw_S → Option ((Int64 ⊕ String) × pw_S)) (x1 : Int64) (x3 : Int32) (σ : pw_S) : Option ((Int64 ⊕ String) × pw_S) := (if 6 ≤ x3 then some (.inl (x1), σ) else ck (inb (x3) (6)) (bnd (fX3_mix x1 ((Int32.toInt64 ((gi σ 11 (Int32.toNatClampNeg (x3)))))) σ) (fun r9 σ10 => bk201 r9 (x3 + 1) σ10)))
def fX3_digest_201 : Nat → Int64 → Int32 → pw_S → Option ((Int64 ⊕ String) × pw_S)
  | 0, _, _, _ => none
  | n + 1, x1, x3, σ => fX3_digest_201_b (fX3_digest_201 n) x1 x3 σ
def fX3_digest_176 (bk129 : Int64 → Int32 → pw_S → Option ((Int64 ⊕ String) × pw_S)) (x3 : Int32) (y0 : Int64) (y1 : Int64) (σ : pw_S) : Option ((Int64 ⊕ String) × pw_S) := bnd (fX3_mix y1 y0 σ) (fun r12 σ13 => bk129 r12 (x3 + 1) σ13)
def fX3_digest_129_b (bk129 : Int64 → Int32 → pw_S → Option ((Int64 ⊕ String) × pw_S)) (x1 : Int64) (x3 : Int32) (σ : pw_S) : Option ((Int64 ⊕ String) × pw_S) := (if (gi σ 4 3) ≤ x3 then bnd (fX2_freeCount σ) (fun r16 σ17 => bnd (fX3_mix x1 ((Int32.toInt64 (r16))) σ17) (fun r19 σ20 => fX3_digest_201 1000 r19 0 σ20)) else bnx (fX3_frameState x3 σ) (fun r22 σ23 => bnd (fX3_mix x1 ((Int32.toInt64 (r22))) σ23) (fun r25 σ26 => bnx (fX3_latestUse x3 σ26) (fun r28 σ29 => bnd (fX3_mix r25 ((Int32.toInt64 (r28))) σ29) (fun r31 σ32 => bnx (fX3_isReferenced x3 σ32) (fun r34 σ35 => (if r34 = 0 then fX3_digest_176 bk129 x3 0 r31 σ35 else fX3_digest_176 bk129 x3 1 r31 σ35)))))))
def fX3_digest_129 : Nat → Int64 → Int32 → pw_S → Option ((Int64 ⊕ String) × pw_S)
  | 0, _, _, _ => none
  | n + 1, x1, x3, σ => fX3_digest_129_b (fX3_digest_129 n) x1 x3 σ
def fX3_digest_69_b (bk39 : Int64 → Int32 → pw_S → Option ((Int64 ⊕ String) × pw_S)) (bk69 : Int64 → Int32 → Int32 → pw_S → Option ((Int64 ⊕ String) × pw_S)) (x1 : Int64) (x3 : Int32) (x4 : Int32) (σ : pw_S) : Option ((Int64 ⊕ String) × pw_S) := (if 16 ≤ x4 then bk39 x1 (x3 + 1) σ else bnx (fX3_mapping x3 x4 σ) (fun r39 σ40 => bnd (fX3_mix x1 ((Int32.toInt64 (r39))) σ40) (fun r42 σ43 => bnx (fX3_frameOf x3 x4 σ43) (fun r45 σ46 => bnd (fX3_mix r42 ((Int32.toInt64 (r45))) σ46) (fun r48 σ49 => bnx (fX3_slotOf x3 x4 σ49) (fun r51 σ52 => bnd (fX3_mix r48 ((Int32.toInt64 (r51))) σ52) (fun r54 σ55 => bk69 r54 x3 (x4 + 1) σ55)))))))
def fX3_digest_69 (bk39 : Int64 → Int32 → pw_S → Option ((Int64 ⊕ String) × pw_S)) : Nat → Int64 → Int32 → Int32 → pw_S → Option ((Int64 ⊕ String) × pw_S)
  | 0, _, _, _, _ => none
  | n + 1, x1, x3, x4, σ => fX3_digest_69_b bk39 (fX3_digest_69 bk39 n) x1 x3 x4 σ
def fX3_digest_62 (bk39 : Int64 → Int32 → pw_S → Option ((Int64 ⊕ String) × pw_S)) (x3 : Int32) (y0 : Int64) (y1 : Int64) (σ : pw_S) : Option ((Int64 ⊕ String) × pw_S) := bnd (fX3_mix y1 y0 σ) (fun r57 σ58 => fX3_digest_69 bk39 1000 r57 x3 0 σ58)
def fX3_digest_39_b (bk39 : Int64 → Int32 → pw_S → Option ((Int64 ⊕ String) × pw_S)) (x1 : Int64) (x3 : Int32) (σ : pw_S) : Option ((Int64 ⊕ String) × pw_S) := (if (gi σ 0 7) ≤ x3 then fX3_digest_129 1000 x1 0 σ else ck (inb (x3) (10)) ((if (gi σ 2 (Int32.toNatClampNeg (x3))) = 0 then fX3_digest_62 bk39 x3 0 x1 σ else fX3_digest_62 bk39 x3 1 x1 σ)))
def fX3_digest_39 : Nat → Int64 → Int32 → pw_S → Option ((Int64 ⊕ String) × pw_S)
  | 0, _, _, _ => none
  | n + 1, x1, x3, σ => fX3_digest_39_b (fX3_digest_39 n) x1 x3 σ
def fX3_digest (σ : pw_S) : Option ((Int64 ⊕ String) × pw_S) := bnd (fX3_mix 67 ((Int32.toInt64 ((gi σ 0 10)))) σ) (fun r63 σ64 => bnd (fX3_mix r63 ((Int32.toInt64 ((gi σ64 4 4)))) σ64) (fun r66 σ67 => bnd (fX3_mix r66 ((Int32.toInt64 ((gi σ67 0 7)))) σ67) (fun r69 σ70 => fX3_digest_39 1000 r69 0 σ70)))
set_option maxHeartbeats 4000000 in
set_option maxRecDepth 100000 in
theorem k0X3_digest (l : Launch) (D : va_G) (cA : Nat → ClassId) (A : Nat → Prop) (ad : Nat → Nat) {σ σ' : pw_S} {r : Int64} (hf : fX3_digest σ = some (.inl r, σ')) : Met l yX3_digest (wA yX3_digest cX3_digest 5 (some .long)) ({ frames := 3, cells := 0, slots := 0, locals := 66 }) (pw_Pc D cA shP 12 A ad σ [.ref (ad 0)]) (pw_Ql D cA shP 12 A ad r σ') 0 0 A := by
  refine mw_enter (own := RX3) (by decide) rfl (Nat.le_of_ble_eq_true rfl) ?_
  intro p e s m args below meth c ls hC hr hlocks hK hA hX hG hS hl
  obtain ⟨hx, hb, hml, hown, hts⟩ := id hC
  have K201 : ∀ (n201 : Nat) (x1 : Int64) (x3 : Int32) (σ : pw_S), fX3_digest_201 n201 x1 x3 σ = some (.inl r, σ') → mw_K p l e ({ frames := 3, cells := 0, slots := 0, locals := 66 }) s m args below meth c (MQ below (pw_Ql D cA shP 12 A ad r σ') args s 0 0 A) A D cA shP 12 ad 5 201 0 0 [(0, .ref (ad 0)), (1, .long (x1)), (3, .int (x3))] [] σ := by
    intro n201
    induction n201 with
    | zero => intro x1 x3 σ hf; cases hf
    | succ n201 ih201 =>
      intro x1 x3 σ hf H locs ls hG hS hl
      have hf : fX3_digest_201_b (fX3_digest_201 n201) x1 x3 σ = some (.inl r, σ') := hf
      unfold fX3_digest_201_b at hf
      refine lv_iload_n hx hb dX3_digest_201 rfl (lv_at hl 2 rfl) ?_
      refine lv_bipush (v := 6) hx hb dX3_digest_202 (by decide) ?_
      refine lv_icmp_ge (tgt := 225) hx hb dX3_digest_204 (by decide) (fun c7 => ?_) (fun c7 => ?_)
      · have hf := it_pos c7 hf
        refine lv_lload_n hx hb dX3_digest_225 rfl (lv_at hl 1 rfl) ?_
        have hf := inl_some hf
        exact mr_l hC hr hlocks hG hS hf (Nat.le_of_ble_eq_true rfl) (Nat.le_of_ble_eq_true rfl) dX3_digest_226
      · have hf := it_neg c7 hf
        refine lv_lload_n hx hb dX3_digest_207 rfl (lv_at hl 1 rfl) ?_
        refine lv_aload_n hx hb dX3_digest_208 rfl (lv_at hl 0 rfl) ?_
        refine mw_getl hx hb hts hown hK hG inlX3 rfl (hG.fix (by decide)) rfl 6 (by decide) 11 rfl wA_28 dX3_digest_209 ?_
        refine lv_iload_n hx hb dX3_digest_212 rfl (lv_at hl 2 rfl) ?_
        obtain ⟨h8, hf⟩ := ck_some hf
        refine mw_iald hx hb hK hG (hG.fix (by decide)) rfl (inb_in h8) dX3_digest_213 ?_
        refine lv_i2l (v := Int32.toInt64 ((gi σ 11 (Int32.toNatClampNeg (x3))))) hx hb dX3_digest_214 rfl ?_
        obtain ⟨r9, σ10, hc11, hf⟩ := bnd_some hf
        refine mc_l (mc_S (As := [.long (x1), .long ((Int32.toInt64 ((gi σ 11 (Int32.toNatClampNeg (x3))))))]) hC hK hA hX hG hS (kX3_mix l D cA A ad hc11) ykX3_mix wA_695 wA_696 ⟨rfl, rfl, Nat.le_of_ble_eq_true rfl, Nat.le_of_ble_eq_true rfl⟩ rfl hl.1 rfl (Nat.le_of_ble_eq_true rfl) dX3_digest_215 ⟨Nat.le_of_ble_eq_true rfl, Nat.le_of_ble_eq_true rfl⟩) hS (fun H locs hG hS => ?_)
        refine lv_lstore_n (lv' := [(1, .long (r9)), (0, .ref (ad 0)), (3, .int (x3))]) hx hb dX3_digest_218 rfl hl (by decide) rfl (fun ls hl => ?_)
        refine lv_iinc (v := x3 + 1) (lv' := [(3, .int (x3 + 1)), (1, .long (r9)), (0, .ref (ad 0))]) hx hb dX3_digest_219 hl (k := 2) rfl rfl (by decide) rfl (fun ls hl => ?_)
        refine lv_goto (tgt := 201) hx hb dX3_digest_222 (by decide) ?_
        exact ih201 _ _ _ hf _ _ _ hG hS (lv_sub hl [2, 1, 0] rfl)
  have K129 : ∀ (n129 : Nat) (x1 : Int64) (x3 : Int32) (σ : pw_S), fX3_digest_129 n129 x1 x3 σ = some (.inl r, σ') → mw_K p l e ({ frames := 3, cells := 0, slots := 0, locals := 66 }) s m args below meth c (MQ below (pw_Ql D cA shP 12 A ad r σ') args s 0 0 A) A D cA shP 12 ad 5 129 0 0 [(0, .ref (ad 0)), (1, .long (x1)), (3, .int (x3))] [] σ := by
    intro n129
    induction n129 with
    | zero => intro x1 x3 σ hf; cases hf
    | succ n129 ih129 =>
      have K176 : ∀ (x3 : Int32) (y0 : Int64) (y1 : Int64) (σ : pw_S), fX3_digest_176 (fX3_digest_129 n129) x3 y0 y1 σ = some (.inl r, σ') → mw_K p l e ({ frames := 3, cells := 0, slots := 0, locals := 66 }) s m args below meth c (MQ below (pw_Ql D cA shP 12 A ad r σ') args s 0 0 A) A D cA shP 12 ad 5 176 0 0 [(0, .ref (ad 0)), (3, .int (x3))] [.long (y0), .long (y1)] σ := by
        intro x3 y0 y1 σ hf H locs ls hG hS hl
        unfold fX3_digest_176 at hf
        obtain ⟨r12, σ13, hc14, hf⟩ := bnd_some hf
        refine mc_l (mc_S (As := [.long (y1), .long (y0)]) hC hK hA hX hG hS (kX3_mix l D cA A ad hc14) ykX3_mix wA_695 wA_696 ⟨rfl, rfl, Nat.le_of_ble_eq_true rfl, Nat.le_of_ble_eq_true rfl⟩ rfl hl.1 rfl (Nat.le_of_ble_eq_true rfl) dX3_digest_176 ⟨Nat.le_of_ble_eq_true rfl, Nat.le_of_ble_eq_true rfl⟩) hS (fun H locs hG hS => ?_)
        refine lv_lstore_n (lv' := [(1, .long (r12)), (0, .ref (ad 0)), (3, .int (x3))]) hx hb dX3_digest_179 rfl hl (by decide) rfl (fun ls hl => ?_)
        refine lv_iinc (v := x3 + 1) (lv' := [(3, .int (x3 + 1)), (1, .long (r12)), (0, .ref (ad 0))]) hx hb dX3_digest_180 hl (k := 2) rfl rfl (by decide) rfl (fun ls hl => ?_)
        refine lv_goto (tgt := 129) hx hb dX3_digest_183 (by decide) ?_
        exact ih129 _ _ _ hf _ _ _ hG hS (lv_sub hl [2, 1, 0] rfl)
      intro x1 x3 σ hf H locs ls hG hS hl
      have hf : fX3_digest_129_b (fX3_digest_129 n129) x1 x3 σ = some (.inl r, σ') := hf
      unfold fX3_digest_129_b at hf
      refine lv_iload_n hx hb dX3_digest_129 rfl (lv_at hl 2 rfl) ?_
      refine lv_aload_n hx hb dX3_digest_130 rfl (lv_at hl 0 rfl) ?_
      refine mw_getl hx hb hts hown hK hG inlX3 rfl (hG.fix (by decide)) rfl 3 (by decide) 4 rfl wA_21 dX3_digest_131 ?_
      refine mw_geti hx hb hts hown hK hG inlX1 rfl (hG.fix (by decide)) rfl 3 (by decide) rfl wA_83 dX3_digest_134 ?_
      refine lv_icmp_ge (tgt := 186) hx hb dX3_digest_137 (by decide) (fun c15 => ?_) (fun c15 => ?_)
      · have hf := it_pos c15 hf
        refine lv_lload_n hx hb dX3_digest_186 rfl (lv_at hl 1 rfl) ?_
        refine lv_aload_n hx hb dX3_digest_187 rfl (lv_at hl 0 rfl) ?_
        refine mw_getl hx hb hts hown hK hG inlX3 rfl (hG.fix (by decide)) rfl 4 (by decide) 8 rfl wA_25 dX3_digest_188 ?_
        obtain ⟨r16, σ17, hc18, hf⟩ := bnd_some hf
        refine mc_i (mc_V (As := []) hC hK hA hX hG hS (kX2_freeCount l D cA A ad hc18) ykX2_freeCount wA_378 wA_379 wA_380 (hG.fix (by decide)) rfl rfl ⟨rfl, rfl, Nat.le_of_ble_eq_true rfl, Nat.le_of_ble_eq_true rfl⟩ rfl hl.1 rfl (Nat.le_of_ble_eq_true rfl) dX3_digest_191 ⟨Nat.le_of_ble_eq_true rfl, Nat.le_of_ble_eq_true rfl⟩) hS (fun H locs hG hS => ?_)
        refine lv_i2l (v := Int32.toInt64 (r16)) hx hb dX3_digest_194 rfl ?_
        obtain ⟨r19, σ20, hc21, hf⟩ := bnd_some hf
        refine mc_l (mc_S (As := [.long (x1), .long ((Int32.toInt64 (r16)))]) hC hK hA hX hG hS (kX3_mix l D cA A ad hc21) ykX3_mix wA_695 wA_696 ⟨rfl, rfl, Nat.le_of_ble_eq_true rfl, Nat.le_of_ble_eq_true rfl⟩ rfl hl.1 rfl (Nat.le_of_ble_eq_true rfl) dX3_digest_195 ⟨Nat.le_of_ble_eq_true rfl, Nat.le_of_ble_eq_true rfl⟩) hS (fun H locs hG hS => ?_)
        refine lv_lstore_n (lv' := [(1, .long (r19)), (0, .ref (ad 0)), (3, .int (x3))]) hx hb dX3_digest_198 rfl hl (by decide) rfl (fun ls hl => ?_)
        refine lv_iconst (v := 0) hx hb dX3_digest_199 (by decide) ?_
        refine lv_istore_n (lv' := [(3, .int (0)), (1, .long (r19)), (0, .ref (ad 0))]) hx hb dX3_digest_200 rfl hl (by decide) rfl (fun ls hl => ?_)
        exact K201 1000 _ _ _ hf _ _ _ hG hS (lv_sub hl [2, 1, 0] rfl)
      · have hf := it_neg c15 hf
        refine lv_lload_n hx hb dX3_digest_140 rfl (lv_at hl 1 rfl) ?_
        refine lv_aload_n hx hb dX3_digest_141 rfl (lv_at hl 0 rfl) ?_
        refine lv_iload_n hx hb dX3_digest_142 rfl (lv_at hl 2 rfl) ?_
        obtain ⟨r22, σ23, hc24, hf⟩ := bnx_ok hf
        refine mc_i (mc_V (As := [.int (x3)]) hC hK hA hX hG hS (k0X3_frameState l D cA A ad hc24) ykX3_frameState wA_702 wA_595 wA_596 (hG.fix (by decide)) rfl rfl ⟨rfl, rfl, Nat.le_of_ble_eq_true rfl, Nat.le_of_ble_eq_true rfl⟩ rfl hl.1 rfl (Nat.le_of_ble_eq_true rfl) dX3_digest_143 ⟨Nat.le_of_ble_eq_true rfl, Nat.le_of_ble_eq_true rfl⟩) hS (fun H locs hG hS => ?_)
        refine lv_i2l (v := Int32.toInt64 (r22)) hx hb dX3_digest_146 rfl ?_
        obtain ⟨r25, σ26, hc27, hf⟩ := bnd_some hf
        refine mc_l (mc_S (As := [.long (x1), .long ((Int32.toInt64 (r22)))]) hC hK hA hX hG hS (kX3_mix l D cA A ad hc27) ykX3_mix wA_695 wA_696 ⟨rfl, rfl, Nat.le_of_ble_eq_true rfl, Nat.le_of_ble_eq_true rfl⟩ rfl hl.1 rfl (Nat.le_of_ble_eq_true rfl) dX3_digest_147 ⟨Nat.le_of_ble_eq_true rfl, Nat.le_of_ble_eq_true rfl⟩) hS (fun H locs hG hS => ?_)
        refine lv_lstore_n (lv' := [(1, .long (r25)), (0, .ref (ad 0)), (3, .int (x3))]) hx hb dX3_digest_150 rfl hl (by decide) rfl (fun ls hl => ?_)
        refine lv_lload_n hx hb dX3_digest_151 rfl (lv_at hl 0 rfl) ?_
        refine lv_aload_n hx hb dX3_digest_152 rfl (lv_at hl 1 rfl) ?_
        refine lv_iload_n hx hb dX3_digest_153 rfl (lv_at hl 2 rfl) ?_
        obtain ⟨r28, σ29, hc30, hf⟩ := bnx_ok hf
        refine mc_i (mc_V (As := [.int (x3)]) hC hK hA hX hG hS (k0X3_latestUse l D cA A ad hc30) ykX3_latestUse wA_703 wA_618 wA_619 (hG.fix (by decide)) rfl rfl ⟨rfl, rfl, Nat.le_of_ble_eq_true rfl, Nat.le_of_ble_eq_true rfl⟩ rfl hl.1 rfl (Nat.le_of_ble_eq_true rfl) dX3_digest_154 ⟨Nat.le_of_ble_eq_true rfl, Nat.le_of_ble_eq_true rfl⟩) hS (fun H locs hG hS => ?_)
        refine lv_i2l (v := Int32.toInt64 (r28)) hx hb dX3_digest_157 rfl ?_
        obtain ⟨r31, σ32, hc33, hf⟩ := bnd_some hf
        refine mc_l (mc_S (As := [.long (r25), .long ((Int32.toInt64 (r28)))]) hC hK hA hX hG hS (kX3_mix l D cA A ad hc33) ykX3_mix wA_695 wA_696 ⟨rfl, rfl, Nat.le_of_ble_eq_true rfl, Nat.le_of_ble_eq_true rfl⟩ rfl hl.1 rfl (Nat.le_of_ble_eq_true rfl) dX3_digest_158 ⟨Nat.le_of_ble_eq_true rfl, Nat.le_of_ble_eq_true rfl⟩) hS (fun H locs hG hS => ?_)
        refine lv_lstore_n (lv' := [(1, .long (r31)), (0, .ref (ad 0)), (3, .int (x3))]) hx hb dX3_digest_161 rfl hl (by decide) rfl (fun ls hl => ?_)
        refine lv_lload_n hx hb dX3_digest_162 rfl (lv_at hl 0 rfl) ?_
        refine lv_aload_n hx hb dX3_digest_163 rfl (lv_at hl 1 rfl) ?_
        refine lv_iload_n hx hb dX3_digest_164 rfl (lv_at hl 2 rfl) ?_
        obtain ⟨r34, σ35, hc36, hf⟩ := bnx_ok hf
        refine mc_i (mc_V (As := [.int (x3)]) hC hK hA hX hG hS (k0X3_isReferenced l D cA A ad hc36) ykX3_isReferenced wA_704 wA_633 wA_634 (hG.fix (by decide)) rfl rfl ⟨rfl, rfl, Nat.le_of_ble_eq_true rfl, Nat.le_of_ble_eq_true rfl⟩ rfl hl.1 rfl (Nat.le_of_ble_eq_true rfl) dX3_digest_165 ⟨Nat.le_of_ble_eq_true rfl, Nat.le_of_ble_eq_true rfl⟩) hS (fun H locs hG hS => ?_)
        refine lv_if_eq (tgt := 175) hx hb dX3_digest_168 (by decide) (fun c37 => ?_) (fun c37 => ?_)
        · have hf := it_pos c37 hf
          refine lv_lconst (v := 0) hx hb dX3_digest_175 (by decide) ?_
          exact K176 _ _ _ _ hf _ _ _ hG hS (lv_sub hl [1, 2] rfl)
        · have hf := it_neg c37 hf
          refine lv_lconst (v := 1) hx hb dX3_digest_171 (by decide) ?_
          refine lv_goto (tgt := 176) hx hb dX3_digest_172 (by decide) ?_
          exact K176 _ _ _ _ hf _ _ _ hG hS (lv_sub hl [1, 2] rfl)
  have K39 : ∀ (n39 : Nat) (x1 : Int64) (x3 : Int32) (σ : pw_S), fX3_digest_39 n39 x1 x3 σ = some (.inl r, σ') → mw_K p l e ({ frames := 3, cells := 0, slots := 0, locals := 66 }) s m args below meth c (MQ below (pw_Ql D cA shP 12 A ad r σ') args s 0 0 A) A D cA shP 12 ad 5 39 0 0 [(0, .ref (ad 0)), (1, .long (x1)), (3, .int (x3))] [] σ := by
    intro n39
    induction n39 with
    | zero => intro x1 x3 σ hf; cases hf
    | succ n39 ih39 =>
      have K69 : ∀ (n69 : Nat) (x1 : Int64) (x3 : Int32) (x4 : Int32) (σ : pw_S), fX3_digest_69 (fX3_digest_39 n39) n69 x1 x3 x4 σ = some (.inl r, σ') → mw_K p l e ({ frames := 3, cells := 0, slots := 0, locals := 66 }) s m args below meth c (MQ below (pw_Ql D cA shP 12 A ad r σ') args s 0 0 A) A D cA shP 12 ad 5 69 0 0 [(0, .ref (ad 0)), (1, .long (x1)), (3, .int (x3)), (4, .int (x4))] [] σ := by
        intro n69
        induction n69 with
        | zero => intro x1 x3 x4 σ hf; cases hf
        | succ n69 ih69 =>
          intro x1 x3 x4 σ hf H locs ls hG hS hl
          have hf : fX3_digest_69_b (fX3_digest_39 n39) (fX3_digest_69 (fX3_digest_39 n39) n69) x1 x3 x4 σ = some (.inl r, σ') := hf
          unfold fX3_digest_69_b at hf
          refine lv_iload hx hb dX3_digest_69 (lv_at hl 3 rfl) ?_
          refine lv_bipush (v := 16) hx hb dX3_digest_71 (by decide) ?_
          refine lv_icmp_ge (tgt := 121) hx hb dX3_digest_73 (by decide) (fun c38 => ?_) (fun c38 => ?_)
          · have hf := it_pos c38 hf
            refine lv_iinc (v := x3 + 1) (lv' := [(3, .int (x3 + 1)), (0, .ref (ad 0)), (1, .long (x1)), (4, .int (x4))]) hx hb dX3_digest_121 hl (k := 2) rfl rfl (by decide) rfl (fun ls hl => ?_)
            refine lv_goto (tgt := 39) hx hb dX3_digest_124 (by decide) ?_
            exact ih39 _ _ _ hf _ _ _ hG hS (lv_sub hl [1, 2, 0] rfl)
          · have hf := it_neg c38 hf
            refine lv_lload_n hx hb dX3_digest_76 rfl (lv_at hl 1 rfl) ?_
            refine lv_aload_n hx hb dX3_digest_77 rfl (lv_at hl 0 rfl) ?_
            refine lv_iload_n hx hb dX3_digest_78 rfl (lv_at hl 2 rfl) ?_
            refine lv_iload hx hb dX3_digest_79 (lv_at hl 3 rfl) ?_
            obtain ⟨r39, σ40, hc41, hf⟩ := bnx_ok hf
            refine mc_i (mc_V (As := [.int (x3), .int (x4)]) hC hK hA hX hG hS (k0X3_mapping l D cA A ad hc41) ykX3_mapping wA_699 wA_342 wA_343 (hG.fix (by decide)) rfl rfl ⟨rfl, rfl, Nat.le_of_ble_eq_true rfl, Nat.le_of_ble_eq_true rfl⟩ rfl hl.1 rfl (Nat.le_of_ble_eq_true rfl) dX3_digest_81 ⟨Nat.le_of_ble_eq_true rfl, Nat.le_of_ble_eq_true rfl⟩) hS (fun H locs hG hS => ?_)
            refine lv_i2l (v := Int32.toInt64 (r39)) hx hb dX3_digest_84 rfl ?_
            obtain ⟨r42, σ43, hc44, hf⟩ := bnd_some hf
            refine mc_l (mc_S (As := [.long (x1), .long ((Int32.toInt64 (r39)))]) hC hK hA hX hG hS (kX3_mix l D cA A ad hc44) ykX3_mix wA_695 wA_696 ⟨rfl, rfl, Nat.le_of_ble_eq_true rfl, Nat.le_of_ble_eq_true rfl⟩ rfl hl.1 rfl (Nat.le_of_ble_eq_true rfl) dX3_digest_85 ⟨Nat.le_of_ble_eq_true rfl, Nat.le_of_ble_eq_true rfl⟩) hS (fun H locs hG hS => ?_)
            refine lv_lstore_n (lv' := [(1, .long (r42)), (0, .ref (ad 0)), (3, .int (x3)), (4, .int (x4))]) hx hb dX3_digest_88 rfl hl (by decide) rfl (fun ls hl => ?_)
            refine lv_lload_n hx hb dX3_digest_89 rfl (lv_at hl 0 rfl) ?_
            refine lv_aload_n hx hb dX3_digest_90 rfl (lv_at hl 1 rfl) ?_
            refine lv_iload_n hx hb dX3_digest_91 rfl (lv_at hl 2 rfl) ?_
            refine lv_iload hx hb dX3_digest_92 (lv_at hl 3 rfl) ?_
            obtain ⟨r45, σ46, hc47, hf⟩ := bnx_ok hf
            refine mc_i (mc_V (As := [.int (x3), .int (x4)]) hC hK hA hX hG hS (k0X3_frameOf l D cA A ad hc47) ykX3_frameOf wA_700 wA_554 wA_555 (hG.fix (by decide)) rfl rfl ⟨rfl, rfl, Nat.le_of_ble_eq_true rfl, Nat.le_of_ble_eq_true rfl⟩ rfl hl.1 rfl (Nat.le_of_ble_eq_true rfl) dX3_digest_94 ⟨Nat.le_of_ble_eq_true rfl, Nat.le_of_ble_eq_true rfl⟩) hS (fun H locs hG hS => ?_)
            refine lv_i2l (v := Int32.toInt64 (r45)) hx hb dX3_digest_97 rfl ?_
            obtain ⟨r48, σ49, hc50, hf⟩ := bnd_some hf
            refine mc_l (mc_S (As := [.long (r42), .long ((Int32.toInt64 (r45)))]) hC hK hA hX hG hS (kX3_mix l D cA A ad hc50) ykX3_mix wA_695 wA_696 ⟨rfl, rfl, Nat.le_of_ble_eq_true rfl, Nat.le_of_ble_eq_true rfl⟩ rfl hl.1 rfl (Nat.le_of_ble_eq_true rfl) dX3_digest_98 ⟨Nat.le_of_ble_eq_true rfl, Nat.le_of_ble_eq_true rfl⟩) hS (fun H locs hG hS => ?_)
            refine lv_lstore_n (lv' := [(1, .long (r48)), (0, .ref (ad 0)), (3, .int (x3)), (4, .int (x4))]) hx hb dX3_digest_101 rfl hl (by decide) rfl (fun ls hl => ?_)
            refine lv_lload_n hx hb dX3_digest_102 rfl (lv_at hl 0 rfl) ?_
            refine lv_aload_n hx hb dX3_digest_103 rfl (lv_at hl 1 rfl) ?_
            refine lv_iload_n hx hb dX3_digest_104 rfl (lv_at hl 2 rfl) ?_
            refine lv_iload hx hb dX3_digest_105 (lv_at hl 3 rfl) ?_
            obtain ⟨r51, σ52, hc53, hf⟩ := bnx_ok hf
            refine mc_i (mc_V (As := [.int (x3), .int (x4)]) hC hK hA hX hG hS (k0X3_slotOf l D cA A ad hc53) ykX3_slotOf wA_701 wA_569 wA_570 (hG.fix (by decide)) rfl rfl ⟨rfl, rfl, Nat.le_of_ble_eq_true rfl, Nat.le_of_ble_eq_true rfl⟩ rfl hl.1 rfl (Nat.le_of_ble_eq_true rfl) dX3_digest_107 ⟨Nat.le_of_ble_eq_true rfl, Nat.le_of_ble_eq_true rfl⟩) hS (fun H locs hG hS => ?_)
            refine lv_i2l (v := Int32.toInt64 (r51)) hx hb dX3_digest_110 rfl ?_
            obtain ⟨r54, σ55, hc56, hf⟩ := bnd_some hf
            refine mc_l (mc_S (As := [.long (r48), .long ((Int32.toInt64 (r51)))]) hC hK hA hX hG hS (kX3_mix l D cA A ad hc56) ykX3_mix wA_695 wA_696 ⟨rfl, rfl, Nat.le_of_ble_eq_true rfl, Nat.le_of_ble_eq_true rfl⟩ rfl hl.1 rfl (Nat.le_of_ble_eq_true rfl) dX3_digest_111 ⟨Nat.le_of_ble_eq_true rfl, Nat.le_of_ble_eq_true rfl⟩) hS (fun H locs hG hS => ?_)
            refine lv_lstore_n (lv' := [(1, .long (r54)), (0, .ref (ad 0)), (3, .int (x3)), (4, .int (x4))]) hx hb dX3_digest_114 rfl hl (by decide) rfl (fun ls hl => ?_)
            refine lv_iinc (v := x4 + 1) (lv' := [(4, .int (x4 + 1)), (1, .long (r54)), (0, .ref (ad 0)), (3, .int (x3))]) hx hb dX3_digest_115 hl (k := 3) rfl rfl (by decide) rfl (fun ls hl => ?_)
            refine lv_goto (tgt := 69) hx hb dX3_digest_118 (by decide) ?_
            exact ih69 _ _ _ _ hf _ _ _ hG hS (lv_sub hl [2, 1, 3, 0] rfl)
      have K62 : ∀ (x3 : Int32) (y0 : Int64) (y1 : Int64) (σ : pw_S), fX3_digest_62 (fX3_digest_39 n39) x3 y0 y1 σ = some (.inl r, σ') → mw_K p l e ({ frames := 3, cells := 0, slots := 0, locals := 66 }) s m args below meth c (MQ below (pw_Ql D cA shP 12 A ad r σ') args s 0 0 A) A D cA shP 12 ad 5 62 0 0 [(0, .ref (ad 0)), (3, .int (x3))] [.long (y0), .long (y1)] σ := by
        intro x3 y0 y1 σ hf H locs ls hG hS hl
        unfold fX3_digest_62 at hf
        obtain ⟨r57, σ58, hc59, hf⟩ := bnd_some hf
        refine mc_l (mc_S (As := [.long (y1), .long (y0)]) hC hK hA hX hG hS (kX3_mix l D cA A ad hc59) ykX3_mix wA_695 wA_696 ⟨rfl, rfl, Nat.le_of_ble_eq_true rfl, Nat.le_of_ble_eq_true rfl⟩ rfl hl.1 rfl (Nat.le_of_ble_eq_true rfl) dX3_digest_62 ⟨Nat.le_of_ble_eq_true rfl, Nat.le_of_ble_eq_true rfl⟩) hS (fun H locs hG hS => ?_)
        refine lv_lstore_n (lv' := [(1, .long (r57)), (0, .ref (ad 0)), (3, .int (x3))]) hx hb dX3_digest_65 rfl hl (by decide) rfl (fun ls hl => ?_)
        refine lv_iconst (v := 0) hx hb dX3_digest_66 (by decide) ?_
        refine lv_istore (lv' := [(4, .int (0)), (1, .long (r57)), (0, .ref (ad 0)), (3, .int (x3))]) hx hb dX3_digest_67 hl (by decide) rfl (fun ls hl => ?_)
        exact K69 1000 _ _ _ _ hf _ _ _ hG hS (lv_sub hl [2, 1, 3, 0] rfl)
      intro x1 x3 σ hf H locs ls hG hS hl
      have hf : fX3_digest_39_b (fX3_digest_39 n39) x1 x3 σ = some (.inl r, σ') := hf
      unfold fX3_digest_39_b at hf
      refine lv_iload_n hx hb dX3_digest_39 rfl (lv_at hl 2 rfl) ?_
      refine lv_aload_n hx hb dX3_digest_40 rfl (lv_at hl 0 rfl) ?_
      refine mw_geti hx hb hts hown hK hG inlX3 rfl (hG.fix (by decide)) rfl 7 (by decide) rfl wA_29 dX3_digest_41 ?_
      refine lv_icmp_ge (tgt := 127) hx hb dX3_digest_44 (by decide) (fun c60 => ?_) (fun c60 => ?_)
      · have hf := it_pos c60 hf
        refine lv_iconst (v := 0) hx hb dX3_digest_127 (by decide) ?_
        refine lv_istore_n (lv' := [(3, .int (0)), (0, .ref (ad 0)), (1, .long (x1))]) hx hb dX3_digest_128 rfl hl (by decide) rfl (fun ls hl => ?_)
        exact K129 1000 _ _ _ hf _ _ _ hG hS (lv_sub hl [1, 2, 0] rfl)
      · have hf := it_neg c60 hf
        refine lv_lload_n hx hb dX3_digest_47 rfl (lv_at hl 1 rfl) ?_
        refine lv_aload_n hx hb dX3_digest_48 rfl (lv_at hl 0 rfl) ?_
        refine mw_getl hx hb hts hown hK hG inlX3 rfl (hG.fix (by decide)) rfl 1 (by decide) 2 rfl wA_16 dX3_digest_49 ?_
        refine lv_iload_n hx hb dX3_digest_52 rfl (lv_at hl 2 rfl) ?_
        obtain ⟨h61, hf⟩ := ck_some hf
        refine mw_zald hx hb hK hG (hG.fix (by decide)) rfl (inb_in h61) dX3_digest_53 ?_
        refine lv_if_eq (tgt := 61) hx hb dX3_digest_54 (by decide) (fun c62 => ?_) (fun c62 => ?_)
        · have hf := it_pos c62 hf
          refine lv_lconst (v := 0) hx hb dX3_digest_61 (by decide) ?_
          exact K62 _ _ _ _ hf _ _ _ hG hS (lv_sub hl [0, 2] rfl)
        · have hf := it_neg c62 hf
          refine lv_lconst (v := 1) hx hb dX3_digest_57 (by decide) ?_
          refine lv_goto (tgt := 62) hx hb dX3_digest_58 (by decide) ?_
          exact K62 _ _ _ _ hf _ _ _ hG hS (lv_sub hl [0, 2] rfl)
  have hl : lv_has ls 5 [(0, .ref (ad 0))] := hl
  unfold fX3_digest at hf
  refine lv_ldc2 (v := 67) hx hb hown (hts _ wA_694) dX3_digest_0 ?_
  refine lv_lstore_n (lv' := [(1, .long (67)), (0, .ref (ad 0))]) hx hb dX3_digest_3 rfl hl (by decide) rfl (fun ls hl => ?_)
  refine lv_lload_n hx hb dX3_digest_4 rfl (lv_at hl 0 rfl) ?_
  refine lv_aload_n hx hb dX3_digest_5 rfl (lv_at hl 1 rfl) ?_
  refine mw_geti hx hb hts hown hK hG inlX3 rfl (hG.fix (by decide)) rfl 10 (by decide) rfl wA_32 dX3_digest_6 ?_
  refine lv_i2l (v := Int32.toInt64 ((gi σ 0 10))) hx hb dX3_digest_9 rfl ?_
  obtain ⟨r63, σ64, hc65, hf⟩ := bnd_some hf
  refine mc_l (mc_S (As := [.long (67), .long ((Int32.toInt64 ((gi σ 0 10))))]) hC hK hA hX hG hS (kX3_mix l D cA A ad hc65) ykX3_mix wA_695 wA_696 ⟨rfl, rfl, Nat.le_of_ble_eq_true rfl, Nat.le_of_ble_eq_true rfl⟩ rfl hl.1 rfl (Nat.le_of_ble_eq_true rfl) dX3_digest_10 ⟨Nat.le_of_ble_eq_true rfl, Nat.le_of_ble_eq_true rfl⟩) hS (fun H locs hG hS => ?_)
  refine lv_lstore_n (lv' := [(1, .long (r63)), (0, .ref (ad 0))]) hx hb dX3_digest_13 rfl hl (by decide) rfl (fun ls hl => ?_)
  refine lv_lload_n hx hb dX3_digest_14 rfl (lv_at hl 0 rfl) ?_
  refine lv_aload_n hx hb dX3_digest_15 rfl (lv_at hl 1 rfl) ?_
  refine mw_getl hx hb hts hown hK hG inlX3 rfl (hG.fix (by decide)) rfl 3 (by decide) 4 rfl wA_21 dX3_digest_16 ?_
  refine mw_geti hx hb hts hown hK hG inlX1 rfl (hG.fix (by decide)) rfl 4 (by decide) rfl wA_84 dX3_digest_19 ?_
  refine lv_i2l (v := Int32.toInt64 ((gi σ64 4 4))) hx hb dX3_digest_22 rfl ?_
  obtain ⟨r66, σ67, hc68, hf⟩ := bnd_some hf
  refine mc_l (mc_S (As := [.long (r63), .long ((Int32.toInt64 ((gi σ64 4 4))))]) hC hK hA hX hG hS (kX3_mix l D cA A ad hc68) ykX3_mix wA_695 wA_696 ⟨rfl, rfl, Nat.le_of_ble_eq_true rfl, Nat.le_of_ble_eq_true rfl⟩ rfl hl.1 rfl (Nat.le_of_ble_eq_true rfl) dX3_digest_23 ⟨Nat.le_of_ble_eq_true rfl, Nat.le_of_ble_eq_true rfl⟩) hS (fun H locs hG hS => ?_)
  refine lv_lstore_n (lv' := [(1, .long (r66)), (0, .ref (ad 0))]) hx hb dX3_digest_26 rfl hl (by decide) rfl (fun ls hl => ?_)
  refine lv_lload_n hx hb dX3_digest_27 rfl (lv_at hl 0 rfl) ?_
  refine lv_aload_n hx hb dX3_digest_28 rfl (lv_at hl 1 rfl) ?_
  refine mw_geti hx hb hts hown hK hG inlX3 rfl (hG.fix (by decide)) rfl 7 (by decide) rfl wA_29 dX3_digest_29 ?_
  refine lv_i2l (v := Int32.toInt64 ((gi σ67 0 7))) hx hb dX3_digest_32 rfl ?_
  obtain ⟨r69, σ70, hc71, hf⟩ := bnd_some hf
  refine mc_l (mc_S (As := [.long (r66), .long ((Int32.toInt64 ((gi σ67 0 7))))]) hC hK hA hX hG hS (kX3_mix l D cA A ad hc71) ykX3_mix wA_695 wA_696 ⟨rfl, rfl, Nat.le_of_ble_eq_true rfl, Nat.le_of_ble_eq_true rfl⟩ rfl hl.1 rfl (Nat.le_of_ble_eq_true rfl) dX3_digest_33 ⟨Nat.le_of_ble_eq_true rfl, Nat.le_of_ble_eq_true rfl⟩) hS (fun H locs hG hS => ?_)
  refine lv_lstore_n (lv' := [(1, .long (r69)), (0, .ref (ad 0))]) hx hb dX3_digest_36 rfl hl (by decide) rfl (fun ls hl => ?_)
  refine lv_iconst (v := 0) hx hb dX3_digest_37 (by decide) ?_
  refine lv_istore_n (lv' := [(3, .int (0)), (1, .long (r69)), (0, .ref (ad 0))]) hx hb dX3_digest_38 rfl hl (by decide) rfl (fun ls hl => ?_)
  exact K39 1000 _ _ _ hf _ _ _ hG hS (lv_sub hl [2, 1, 0] rfl)
