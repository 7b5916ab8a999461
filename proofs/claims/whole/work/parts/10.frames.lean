/-! FrameTable: pure functions and contracts (printed by wip/whole/gen) -/
def fX1_freeCount_24 (bk4 : Int32 → Int32 → pw_S → Option (Int32 × pw_S)) (x1 : Int32) (x2 : Int32) (σ : pw_S) : Option (Int32 × pw_S) := bk4 x1 (x2 + 1) σ
def fX1_freeCount_4_b (bk4 : Int32 → Int32 → pw_S → Option (Int32 × pw_S)) (x1 : Int32) (x2 : Int32) (σ : pw_S) : Option (Int32 × pw_S) := (if (gi σ 4 3) ≤ x2 then some (x1, σ) else ck (inb (x2) (12)) (ld (gr σ 5 (Int32.toNatClampNeg (x2))) (fun o6 => oc o6 (fX1_freeCount_24 bk4 (x1 + 1) x2 σ) (fun q8 => fX1_freeCount_24 bk4 x1 x2 σ))))
def fX1_freeCount_4 : Nat → Int32 → Int32 → pw_S → Option (Int32 × pw_S)
  | 0, _, _, _ => none
  | n + 1, x1, x2, σ => fX1_freeCount_4_b (fX1_freeCount_4 n) x1 x2 σ
def fX1_freeCount (σ : pw_S) : Option (Int32 × pw_S) := fX1_freeCount_4 1000 0 0 σ
set_option maxHeartbeats 4000000 in
set_option maxRecDepth 100000 in
theorem kX1_freeCount (l : Launch) (D : va_G) (cA : Nat → ClassId) (A : Nat → Prop) (ad : Nat → Nat) {σ σ' : pw_S} {r : Int32} (hf : fX1_freeCount σ = some (r, σ')) : Met l yX1_freeCount (wA yX1_freeCount cX1_freeCount 3 (some .int)) ({ frames := 0, cells := 0, slots := 0, locals := 0 }) (pw_Pc D cA shP 12 A ad σ [.ref (ad 4)]) (pw_Qi D cA shP 12 A ad r σ') 0 0 A := by
  refine mw_enter (own := RX1) (by decide) rfl (Nat.le_of_ble_eq_true rfl) ?_
  intro p e s m args below meth c ls hC hr hlocks hK hA hX hG hS hl
  obtain ⟨hx, hb, hml, hown, hts⟩ := id hC
  have K4 : ∀ (n4 : Nat) (x1 : Int32) (x2 : Int32) (σ : pw_S), fX1_freeCount_4 n4 x1 x2 σ = some (r, σ') → mw_K p l e ({ frames := 0, cells := 0, slots := 0, locals := 0 }) s m args below meth c (MQ below (pw_Qi D cA shP 12 A ad r σ') args s 0 0 A) A D cA shP 12 ad 3 4 0 0 [(0, .ref (ad 4)), (1, .int (x1)), (2, .int (x2))] [] σ := by
    intro n4
    induction n4 with
    | zero => intro x1 x2 σ hf; cases hf
    | succ n4 ih4 =>
      have K24 : ∀ (x1 : Int32) (x2 : Int32) (σ : pw_S), fX1_freeCount_24 (fX1_freeCount_4 n4) x1 x2 σ = some (r, σ') → mw_K p l e ({ frames := 0, cells := 0, slots := 0, locals := 0 }) s m args below meth c (MQ below (pw_Qi D cA shP 12 A ad r σ') args s 0 0 A) A D cA shP 12 ad 3 24 0 0 [(0, .ref (ad 4)), (1, .int (x1)), (2, .int (x2))] [] σ := by
        intro x1 x2 σ hf H locs ls hG hS hl
        unfold fX1_freeCount_24 at hf
        refine lv_iinc (v := x2 + 1) (lv' := [(2, .int (x2 + 1)), (0, .ref (ad 4)), (1, .int (x1))]) hx hb dX1_freeCount_24 hl (k := 2) rfl rfl (by decide) rfl (fun ls hl => ?_)
        refine lv_goto (tgt := 4) hx hb dX1_freeCount_27 (by decide) ?_
        exact ih4 _ _ _ hf _ _ _ hG hS (lv_sub hl [1, 2, 0] rfl)
      intro x1 x2 σ hf H locs ls hG hS hl
      have hf : fX1_freeCount_4_b (fX1_freeCount_4 n4) x1 x2 σ = some (r, σ') := hf
      unfold fX1_freeCount_4_b at hf
      refine lv_iload_n hx hb dX1_freeCount_4 rfl (lv_at hl 2 rfl) ?_
      refine lv_aload_n hx hb dX1_freeCount_5 rfl (lv_at hl 0 rfl) ?_
      refine mw_geti hx hb hts hown hK hG inlX1 rfl (hG.fix (by decide)) rfl 3 (by decide) rfl wA_41 dX1_freeCount_6 ?_
      refine lv_icmp_ge (tgt := 30) hx hb dX1_freeCount_9 (by decide) (fun c4 => ?_) (fun c4 => ?_)
      · have hf := it_pos c4 hf
        refine lv_iload_n hx hb dX1_freeCount_30 rfl (lv_at hl 1 rfl) ?_
        exact mr_i hC hr hlocks hG hS hf (Nat.le_of_ble_eq_true rfl) (Nat.le_of_ble_eq_true rfl) dX1_freeCount_31
      · have hf := it_neg c4 hf
        refine lv_aload_n hx hb dX1_freeCount_12 rfl (lv_at hl 0 rfl) ?_
        refine mw_getl hx hb hts hown hK hG inlX1 rfl (hG.fix (by decide)) rfl 0 (by decide) 5 rfl wA_38 dX1_freeCount_13 ?_
        refine lv_iload_n hx hb dX1_freeCount_16 rfl (lv_at hl 2 rfl) ?_
        obtain ⟨h5, hf⟩ := ck_some hf
        obtain ⟨o6, e7, hf⟩ := ld_some hf
        refine mw_aald hx hb hK hG (hG.fix (by decide)) rfl (inb_in h5) dX1_freeCount_17 ?_
        rw [← e7]
        clear e7
        refine mq_ifnonnull (tgt := 24) hx hb dX1_freeCount_18 (by decide) (fun q8 c9 => ?_) (fun c9 => ?_)
        · subst c9
          have hf := oc_some hf
          exact K24 _ _ _ hf _ _ _ hG hS (lv_sub hl [0, 1, 2] rfl)
        · subst c9
          have hf := oc_none hf
          refine lv_iinc (v := x1 + 1) (lv' := [(1, .int (x1 + 1)), (0, .ref (ad 4)), (2, .int (x2))]) hx hb dX1_freeCount_21 hl (k := 1) rfl rfl (by decide) rfl (fun ls hl => ?_)
          exact K24 _ _ _ hf _ _ _ hG hS (lv_sub hl [1, 0, 2] rfl)
  have hl : lv_has ls 3 [(0, .ref (ad 4))] := hl
  unfold fX1_freeCount at hf
  refine lv_iconst (v := 0) hx hb dX1_freeCount_0 (by decide) ?_
  refine lv_istore_n (lv' := [(1, .int (0)), (0, .ref (ad 4))]) hx hb dX1_freeCount_1 rfl hl (by decide) rfl (fun ls hl => ?_)
  refine lv_iconst (v := 0) hx hb dX1_freeCount_2 (by decide) ?_
  refine lv_istore_n (lv' := [(2, .int (0)), (1, .int (0)), (0, .ref (ad 4))]) hx hb dX1_freeCount_3 rfl hl (by decide) rfl (fun ls hl => ?_)
  exact K4 1000 _ _ _ hf _ _ _ hG hS (lv_sub hl [2, 1, 0] rfl)
def fX1_smallestFree_2_b (bk2 : Int32 → pw_S → Option (Int32 × pw_S)) (x1 : Int32) (σ : pw_S) : Option (Int32 × pw_S) := (if (gi σ 4 3) ≤ x1 then some ((-1), σ) else ck (inb (x1) (12)) (ld (gr σ 5 (Int32.toNatClampNeg (x1))) (fun o6 => oc o6 (some (x1, σ)) (fun q8 => bk2 (x1 + 1) σ))))
def fX1_smallestFree_2 : Nat → Int32 → pw_S → Option (Int32 × pw_S)
  | 0, _, _ => none
  | n + 1, x1, σ => fX1_smallestFree_2_b (fX1_smallestFree_2 n) x1 σ
def fX1_smallestFree (σ : pw_S) : Option (Int32 × pw_S) := fX1_smallestFree_2 1000 0 σ
set_option maxHeartbeats 4000000 in
set_option maxRecDepth 100000 in
theorem kX1_smallestFree (l : Launch) (D : va_G) (cA : Nat → ClassId) (A : Nat → Prop) (ad : Nat → Nat) {σ σ' : pw_S} {r : Int32} (hf : fX1_smallestFree σ = some (r, σ')) : Met l yX1_smallestFree (wA yX1_smallestFree cX1_smallestFree 2 (some .int)) ({ frames := 0, cells := 0, slots := 0, locals := 0 }) (pw_Pc D cA shP 12 A ad σ [.ref (ad 4)]) (pw_Qi D cA shP 12 A ad r σ') 0 0 A := by
  refine mw_enter (own := RX1) (by decide) rfl (Nat.le_of_ble_eq_true rfl) ?_
  intro p e s m args below meth c ls hC hr hlocks hK hA hX hG hS hl
  obtain ⟨hx, hb, hml, hown, hts⟩ := id hC
  have K2 : ∀ (n2 : Nat) (x1 : Int32) (σ : pw_S), fX1_smallestFree_2 n2 x1 σ = some (r, σ') → mw_K p l e ({ frames := 0, cells := 0, slots := 0, locals := 0 }) s m args below meth c (MQ below (pw_Qi D cA shP 12 A ad r σ') args s 0 0 A) A D cA shP 12 ad 2 2 0 0 [(0, .ref (ad 4)), (1, .int (x1))] [] σ := by
    intro n2
    induction n2 with
    | zero => intro x1 σ hf; cases hf
    | succ n2 ih2 =>
      intro x1 σ hf H locs ls hG hS hl
      have hf : fX1_smallestFree_2_b (fX1_smallestFree_2 n2) x1 σ = some (r, σ') := hf
      unfold fX1_smallestFree_2_b at hf
      refine lv_iload_n hx hb dX1_smallestFree_2 rfl (lv_at hl 1 rfl) ?_
      refine lv_aload_n hx hb dX1_smallestFree_3 rfl (lv_at hl 0 rfl) ?_
      refine mw_geti hx hb hts hown hK hG inlX1 rfl (hG.fix (by decide)) rfl 3 (by decide) rfl wA_41 dX1_smallestFree_4 ?_
      refine lv_icmp_ge (tgt := 27) hx hb dX1_smallestFree_7 (by decide) (fun c4 => ?_) (fun c4 => ?_)
      · have hf := it_pos c4 hf
        refine lv_iconst (v := (-1)) hx hb dX1_smallestFree_27 (by decide) ?_
        exact mr_i hC hr hlocks hG hS hf (Nat.le_of_ble_eq_true rfl) (Nat.le_of_ble_eq_true rfl) dX1_smallestFree_28
      · have hf := it_neg c4 hf
        refine lv_aload_n hx hb dX1_smallestFree_10 rfl (lv_at hl 0 rfl) ?_
        refine mw_getl hx hb hts hown hK hG inlX1 rfl (hG.fix (by decide)) rfl 0 (by decide) 5 rfl wA_38 dX1_smallestFree_11 ?_
        refine lv_iload_n hx hb dX1_smallestFree_14 rfl (lv_at hl 1 rfl) ?_
        obtain ⟨h5, hf⟩ := ck_some hf
        obtain ⟨o6, e7, hf⟩ := ld_some hf
        refine mw_aald hx hb hK hG (hG.fix (by decide)) rfl (inb_in h5) dX1_smallestFree_15 ?_
        rw [← e7]
        clear e7
        refine mq_ifnonnull (tgt := 21) hx hb dX1_smallestFree_16 (by decide) (fun q8 c9 => ?_) (fun c9 => ?_)
        · subst c9
          have hf := oc_some hf
          refine lv_iinc (v := x1 + 1) (lv' := [(1, .int (x1 + 1)), (0, .ref (ad 4))]) hx hb dX1_smallestFree_21 hl (k := 1) rfl rfl (by decide) rfl (fun ls hl => ?_)
          refine lv_goto (tgt := 2) hx hb dX1_smallestFree_24 (by decide) ?_
          exact ih2 _ _ hf _ _ _ hG hS (lv_sub hl [1, 0] rfl)
        · subst c9
          have hf := oc_none hf
          refine lv_iload_n hx hb dX1_smallestFree_19 rfl (lv_at hl 1 rfl) ?_
          exact mr_i hC hr hlocks hG hS hf (Nat.le_of_ble_eq_true rfl) (Nat.le_of_ble_eq_true rfl) dX1_smallestFree_20
  have hl : lv_has ls 2 [(0, .ref (ad 4))] := hl
  unfold fX1_smallestFree at hf
  refine lv_iconst (v := 0) hx hb dX1_smallestFree_0 (by decide) ?_
  refine lv_istore_n (lv' := [(1, .int (0)), (0, .ref (ad 4))]) hx hb dX1_smallestFree_1 rfl hl (by decide) rfl (fun ls hl => ?_)
  exact K2 1000 _ _ hf _ _ _ hG hS (lv_sub hl [1, 0] rfl)
def fX1_oldestClean_52 (bk4 : Int32 → Int32 → pw_S → Option (Int32 × pw_S)) (x1 : Int32) (x2 : Int32) (σ : pw_S) : Option (Int32 × pw_S) := bk4 x1 (x2 + 1) σ
def fX1_oldestClean_50 (bk4 : Int32 → Int32 → pw_S → Option (Int32 × pw_S)) (x2 : Int32) (σ : pw_S) : Option (Int32 × pw_S) := fX1_oldestClean_52 bk4 x2 x2 σ
def fX1_oldestClean_4_b (bk4 : Int32 → Int32 → pw_S → Option (Int32 × pw_S)) (x1 : Int32) (x2 : Int32) (σ : pw_S) : Option (Int32 × pw_S) := (if (gi σ 4 3) ≤ x2 then some (x1, σ) else ck (inb (x2) (12)) (ld (gr σ 5 (Int32.toNatClampNeg (x2))) (fun o9 => oc o9 (fX1_oldestClean_52 bk4 x1 x2 σ) (fun q11 => ck (okc σ q11) ((if (gi σ q11 5) = 0 then (if x1 = (-1) then fX1_oldestClean_50 bk4 x2 σ else ck (inb (x2) (12)) (ck (inb (x1) (12)) ((if (gi σ 6 (Int32.toNatClampNeg (x1))) ≤ (gi σ 6 (Int32.toNatClampNeg (x2))) then fX1_oldestClean_52 bk4 x1 x2 σ else fX1_oldestClean_50 bk4 x2 σ)))) else fX1_oldestClean_52 bk4 x1 x2 σ))))))
def fX1_oldestClean_4 : Nat → Int32 → Int32 → pw_S → Option (Int32 × pw_S)
  | 0, _, _, _ => none
  | n + 1, x1, x2, σ => fX1_oldestClean_4_b (fX1_oldestClean_4 n) x1 x2 σ
def fX1_oldestClean (σ : pw_S) : Option (Int32 × pw_S) := fX1_oldestClean_4 1000 ((-1)) 0 σ
set_option maxHeartbeats 4000000 in
set_option maxRecDepth 100000 in
theorem kX1_oldestClean (l : Launch) (D : va_G) (cA : Nat → ClassId) (A : Nat → Prop) (ad : Nat → Nat) {σ σ' : pw_S} {r : Int32} (hf : fX1_oldestClean σ = some (r, σ')) : Met l yX1_oldestClean (wA yX1_oldestClean cX1_oldestClean 4 (some .int)) ({ frames := 0, cells := 0, slots := 0, locals := 0 }) (pw_Pc D cA shP 12 A ad σ [.ref (ad 4)]) (pw_Qi D cA shP 12 A ad r σ') 0 0 A := by
  refine mw_enter (own := RX1) (by decide) rfl (Nat.le_of_ble_eq_true rfl) ?_
  intro p e s m args below meth c ls hC hr hlocks hK hA hX hG hS hl
  obtain ⟨hx, hb, hml, hown, hts⟩ := id hC
  have K4 : ∀ (n4 : Nat) (x1 : Int32) (x2 : Int32) (σ : pw_S), fX1_oldestClean_4 n4 x1 x2 σ = some (r, σ') → mw_K p l e ({ frames := 0, cells := 0, slots := 0, locals := 0 }) s m args below meth c (MQ below (pw_Qi D cA shP 12 A ad r σ') args s 0 0 A) A D cA shP 12 ad 4 4 0 0 [(0, .ref (ad 4)), (1, .int (x1)), (2, .int (x2))] [] σ := by
    intro n4
    induction n4 with
    | zero => intro x1 x2 σ hf; cases hf
    | succ n4 ih4 =>
      have K52 : ∀ (x1 : Int32) (x2 : Int32) (σ : pw_S), fX1_oldestClean_52 (fX1_oldestClean_4 n4) x1 x2 σ = some (r, σ') → mw_K p l e ({ frames := 0, cells := 0, slots := 0, locals := 0 }) s m args below meth c (MQ below (pw_Qi D cA shP 12 A ad r σ') args s 0 0 A) A D cA shP 12 ad 4 52 0 0 [(0, .ref (ad 4)), (1, .int (x1)), (2, .int (x2))] [] σ := by
        intro x1 x2 σ hf H locs ls hG hS hl
        unfold fX1_oldestClean_52 at hf
        refine lv_iinc (v := x2 + 1) (lv' := [(2, .int (x2 + 1)), (0, .ref (ad 4)), (1, .int (x1))]) hx hb dX1_oldestClean_52 hl (k := 2) rfl rfl (by decide) rfl (fun ls hl => ?_)
        refine lv_goto (tgt := 4) hx hb dX1_oldestClean_55 (by decide) ?_
        exact ih4 _ _ _ hf _ _ _ hG hS (lv_sub hl [1, 2, 0] rfl)
      have K50 : ∀ (x2 : Int32) (σ : pw_S), fX1_oldestClean_50 (fX1_oldestClean_4 n4) x2 σ = some (r, σ') → mw_K p l e ({ frames := 0, cells := 0, slots := 0, locals := 0 }) s m args below meth c (MQ below (pw_Qi D cA shP 12 A ad r σ') args s 0 0 A) A D cA shP 12 ad 4 50 0 0 [(0, .ref (ad 4)), (2, .int (x2))] [] σ := by
        intro x2 σ hf H locs ls hG hS hl
        unfold fX1_oldestClean_50 at hf
        refine lv_iload_n hx hb dX1_oldestClean_50 rfl (lv_at hl 1 rfl) ?_
        refine lv_istore_n (lv' := [(1, .int (x2)), (0, .ref (ad 4)), (2, .int (x2))]) hx hb dX1_oldestClean_51 rfl hl (by decide) rfl (fun ls hl => ?_)
        exact K52 _ _ _ hf _ _ _ hG hS (lv_sub hl [1, 0, 2] rfl)
      intro x1 x2 σ hf H locs ls hG hS hl
      have hf : fX1_oldestClean_4_b (fX1_oldestClean_4 n4) x1 x2 σ = some (r, σ') := hf
      unfold fX1_oldestClean_4_b at hf
      refine lv_iload_n hx hb dX1_oldestClean_4 rfl (lv_at hl 2 rfl) ?_
      refine lv_aload_n hx hb dX1_oldestClean_5 rfl (lv_at hl 0 rfl) ?_
      refine mw_geti hx hb hts hown hK hG inlX1 rfl (hG.fix (by decide)) rfl 3 (by decide) rfl wA_41 dX1_oldestClean_6 ?_
      refine lv_icmp_ge (tgt := 58) hx hb dX1_oldestClean_9 (by decide) (fun c7 => ?_) (fun c7 => ?_)
      · have hf := it_pos c7 hf
        refine lv_iload_n hx hb dX1_oldestClean_58 rfl (lv_at hl 1 rfl) ?_
        exact mr_i hC hr hlocks hG hS hf (Nat.le_of_ble_eq_true rfl) (Nat.le_of_ble_eq_true rfl) dX1_oldestClean_59
      · have hf := it_neg c7 hf
        refine lv_aload_n hx hb dX1_oldestClean_12 rfl (lv_at hl 0 rfl) ?_
        refine mw_getl hx hb hts hown hK hG inlX1 rfl (hG.fix (by decide)) rfl 0 (by decide) 5 rfl wA_38 dX1_oldestClean_13 ?_
        refine lv_iload_n hx hb dX1_oldestClean_16 rfl (lv_at hl 2 rfl) ?_
        obtain ⟨h8, hf⟩ := ck_some hf
        obtain ⟨o9, e10, hf⟩ := ld_some hf
        refine mw_aald hx hb hK hG (hG.fix (by decide)) rfl (inb_in h8) dX1_oldestClean_17 ?_
        rw [← e10]
        clear e10
        refine mq_astore_n (lv' := [(3, va_rf (Option.map ad o9)), (0, .ref (ad 4)), (1, .int (x1)), (2, .int (x2))]) hx hb dX1_oldestClean_18 rfl hl (by decide) rfl (fun ls hl => ?_)
        refine mq_aload_n hx hb dX1_oldestClean_19 rfl (lv_at hl 0 rfl) ?_
        refine mq_ifnull (tgt := 52) hx hb dX1_oldestClean_20 (by decide) (fun c12 => ?_) (fun q11 c12 => ?_)
        · subst c12
          have hl : lv_has ls 4 [(3, .null), (0, .ref (ad 4)), (1, .int (x1)), (2, .int (x2))] := hl
          have hf := oc_none hf
          exact K52 _ _ _ hf _ _ _ hG hS (lv_sub hl [1, 2, 3] rfl)
        · subst c12
          have hl : lv_has ls 4 [(3, .ref (ad q11)), (0, .ref (ad 4)), (1, .int (x1)), (2, .int (x2))] := hl
          have hf := oc_some hf
          refine lv_aload_n hx hb dX1_oldestClean_23 rfl (lv_at hl 0 rfl) ?_
          obtain ⟨h13, hf⟩ := ck_some hf
          refine mw_geti hx hb hts hown hK hG inlX0 rfl (okc_lt h13) (shP_c h13) 5 (by decide) rfl wA_377 dX1_oldestClean_24 ?_
          refine lv_if_ne (tgt := 52) hx hb dX1_oldestClean_27 (by decide) (fun c14 => ?_) (fun c14 => ?_)
          · have hf := it_neg c14 hf
            exact K52 _ _ _ hf _ _ _ hG hS (lv_sub hl [1, 2, 3] rfl)
          · have hf := it_pos c14 hf
            refine lv_iload_n hx hb dX1_oldestClean_30 rfl (lv_at hl 2 rfl) ?_
            refine lv_iconst (v := (-1)) hx hb dX1_oldestClean_31 (by decide) ?_
            refine lv_icmp_eq (tgt := 50) hx hb dX1_oldestClean_32 (by decide) (fun c15 => ?_) (fun c15 => ?_)
            · have hf := it_pos c15 hf
              exact K50 _ _ hf _ _ _ hG hS (lv_sub hl [1, 3] rfl)
            · have hf := it_neg c15 hf
              refine lv_aload_n hx hb dX1_oldestClean_35 rfl (lv_at hl 1 rfl) ?_
              refine mw_getl hx hb hts hown hK hG inlX1 rfl (hG.fix (by decide)) rfl 1 (by decide) 6 rfl wA_39 dX1_oldestClean_36 ?_
              refine lv_iload_n hx hb dX1_oldestClean_39 rfl (lv_at hl 3 rfl) ?_
              obtain ⟨h16, hf⟩ := ck_some hf
              refine mw_iald hx hb hK hG (hG.fix (by decide)) rfl (inb_in h16) dX1_oldestClean_40 ?_
              refine lv_aload_n hx hb dX1_oldestClean_41 rfl (lv_at hl 1 rfl) ?_
              refine mw_getl hx hb hts hown hK hG inlX1 rfl (hG.fix (by decide)) rfl 1 (by decide) 6 rfl wA_39 dX1_oldestClean_42 ?_
              refine lv_iload_n hx hb dX1_oldestClean_45 rfl (lv_at hl 2 rfl) ?_
              obtain ⟨h17, hf⟩ := ck_some hf
              refine mw_iald hx hb hK hG (hG.fix (by decide)) rfl (inb_in h17) dX1_oldestClean_46 ?_
              refine lv_icmp_ge (tgt := 52) hx hb dX1_oldestClean_47 (by decide) (fun c18 => ?_) (fun c18 => ?_)
              · have hf := it_pos c18 hf
                exact K52 _ _ _ hf _ _ _ hG hS (lv_sub hl [1, 2, 3] rfl)
              · have hf := it_neg c18 hf
                exact K50 _ _ hf _ _ _ hG hS (lv_sub hl [1, 3] rfl)
  have hl : lv_has ls 4 [(0, .ref (ad 4))] := hl
  unfold fX1_oldestClean at hf
  refine lv_iconst (v := (-1)) hx hb dX1_oldestClean_0 (by decide) ?_
  refine lv_istore_n (lv' := [(1, .int ((-1))), (0, .ref (ad 4))]) hx hb dX1_oldestClean_1 rfl hl (by decide) rfl (fun ls hl => ?_)
  refine lv_iconst (v := 0) hx hb dX1_oldestClean_2 (by decide) ?_
  refine lv_istore_n (lv' := [(2, .int (0)), (1, .int ((-1))), (0, .ref (ad 4))]) hx hb dX1_oldestClean_3 rfl hl (by decide) rfl (fun ls hl => ?_)
  exact K4 1000 _ _ _ hf _ _ _ hG hS (lv_sub hl [2, 1, 0] rfl)
def fX1_oldest_29 (bk4 : Int32 → Int32 → pw_S → Option (Int32 × pw_S)) (x1 : Int32) (x2 : Int32) (σ : pw_S) : Option (Int32 × pw_S) := bk4 x1 (x2 + 1) σ
def fX1_oldest_4_b (bk4 : Int32 → Int32 → pw_S → Option (Int32 × pw_S)) (x1 : Int32) (x2 : Int32) (σ : pw_S) : Option (Int32 × pw_S) := (if (gi σ 4 3) ≤ x2 then some (x1, σ) else ck (inb (x2) (12)) (ck (inb (x1) (12)) ((if (gi σ 6 (Int32.toNatClampNeg (x1))) ≤ (gi σ 6 (Int32.toNatClampNeg (x2))) then fX1_oldest_29 bk4 x1 x2 σ else fX1_oldest_29 bk4 x2 x2 σ))))
def fX1_oldest_4 : Nat → Int32 → Int32 → pw_S → Option (Int32 × pw_S)
  | 0, _, _, _ => none
  | n + 1, x1, x2, σ => fX1_oldest_4_b (fX1_oldest_4 n) x1 x2 σ
def fX1_oldest (σ : pw_S) : Option (Int32 × pw_S) := fX1_oldest_4 1000 0 1 σ
set_option maxHeartbeats 4000000 in
set_option maxRecDepth 100000 in
theorem kX1_oldest (l : Launch) (D : va_G) (cA : Nat → ClassId) (A : Nat → Prop) (ad : Nat → Nat) {σ σ' : pw_S} {r : Int32} (hf : fX1_oldest σ = some (r, σ')) : Met l yX1_oldest (wA yX1_oldest cX1_oldest 3 (some .int)) ({ frames := 0, cells := 0, slots := 0, locals := 0 }) (pw_Pc D cA shP 12 A ad σ [.ref (ad 4)]) (pw_Qi D cA shP 12 A ad r σ') 0 0 A := by
  refine mw_enter (own := RX1) (by decide) rfl (Nat.le_of_ble_eq_true rfl) ?_
  intro p e s m args below meth c ls hC hr hlocks hK hA hX hG hS hl
  obtain ⟨hx, hb, hml, hown, hts⟩ := id hC
  have K4 : ∀ (n4 : Nat) (x1 : Int32) (x2 : Int32) (σ : pw_S), fX1_oldest_4 n4 x1 x2 σ = some (r, σ') → mw_K p l e ({ frames := 0, cells := 0, slots := 0, locals := 0 }) s m args below meth c (MQ below (pw_Qi D cA shP 12 A ad r σ') args s 0 0 A) A D cA shP 12 ad 3 4 0 0 [(0, .ref (ad 4)), (1, .int (x1)), (2, .int (x2))] [] σ := by
    intro n4
    induction n4 with
    | zero => intro x1 x2 σ hf; cases hf
    | succ n4 ih4 =>
      have K29 : ∀ (x1 : Int32) (x2 : Int32) (σ : pw_S), fX1_oldest_29 (fX1_oldest_4 n4) x1 x2 σ = some (r, σ') → mw_K p l e ({ frames := 0, cells := 0, slots := 0, locals := 0 }) s m args below meth c (MQ below (pw_Qi D cA shP 12 A ad r σ') args s 0 0 A) A D cA shP 12 ad 3 29 0 0 [(0, .ref (ad 4)), (1, .int (x1)), (2, .int (x2))] [] σ := by
        intro x1 x2 σ hf H locs ls hG hS hl
        unfold fX1_oldest_29 at hf
        refine lv_iinc (v := x2 + 1) (lv' := [(2, .int (x2 + 1)), (0, .ref (ad 4)), (1, .int (x1))]) hx hb dX1_oldest_29 hl (k := 2) rfl rfl (by decide) rfl (fun ls hl => ?_)
        refine lv_goto (tgt := 4) hx hb dX1_oldest_32 (by decide) ?_
        exact ih4 _ _ _ hf _ _ _ hG hS (lv_sub hl [1, 2, 0] rfl)
      intro x1 x2 σ hf H locs ls hG hS hl
      have hf : fX1_oldest_4_b (fX1_oldest_4 n4) x1 x2 σ = some (r, σ') := hf
      unfold fX1_oldest_4_b at hf
      refine lv_iload_n hx hb dX1_oldest_4 rfl (lv_at hl 2 rfl) ?_
      refine lv_aload_n hx hb dX1_oldest_5 rfl (lv_at hl 0 rfl) ?_
      refine mw_geti hx hb hts hown hK hG inlX1 rfl (hG.fix (by decide)) rfl 3 (by decide) rfl wA_41 dX1_oldest_6 ?_
      refine lv_icmp_ge (tgt := 35) hx hb dX1_oldest_9 (by decide) (fun c3 => ?_) (fun c3 => ?_)
      · have hf := it_pos c3 hf
        refine lv_iload_n hx hb dX1_oldest_35 rfl (lv_at hl 1 rfl) ?_
        exact mr_i hC hr hlocks hG hS hf (Nat.le_of_ble_eq_true rfl) (Nat.le_of_ble_eq_true rfl) dX1_oldest_36
      · have hf := it_neg c3 hf
        refine lv_aload_n hx hb dX1_oldest_12 rfl (lv_at hl 0 rfl) ?_
        refine mw_getl hx hb hts hown hK hG inlX1 rfl (hG.fix (by decide)) rfl 1 (by decide) 6 rfl wA_39 dX1_oldest_13 ?_
        refine lv_iload_n hx hb dX1_oldest_16 rfl (lv_at hl 2 rfl) ?_
        obtain ⟨h4, hf⟩ := ck_some hf
        refine mw_iald hx hb hK hG (hG.fix (by decide)) rfl (inb_in h4) dX1_oldest_17 ?_
        refine lv_aload_n hx hb dX1_oldest_18 rfl (lv_at hl 0 rfl) ?_
        refine mw_getl hx hb hts hown hK hG inlX1 rfl (hG.fix (by decide)) rfl 1 (by decide) 6 rfl wA_39 dX1_oldest_19 ?_
        refine lv_iload_n hx hb dX1_oldest_22 rfl (lv_at hl 1 rfl) ?_
        obtain ⟨h5, hf⟩ := ck_some hf
        refine mw_iald hx hb hK hG (hG.fix (by decide)) rfl (inb_in h5) dX1_oldest_23 ?_
        refine lv_icmp_ge (tgt := 29) hx hb dX1_oldest_24 (by decide) (fun c6 => ?_) (fun c6 => ?_)
        · have hf := it_pos c6 hf
          exact K29 _ _ _ hf _ _ _ hG hS (lv_sub hl [0, 1, 2] rfl)
        · have hf := it_neg c6 hf
          refine lv_iload_n hx hb dX1_oldest_27 rfl (lv_at hl 2 rfl) ?_
          refine lv_istore_n (lv' := [(1, .int (x2)), (0, .ref (ad 4)), (2, .int (x2))]) hx hb dX1_oldest_28 rfl hl (by decide) rfl (fun ls hl => ?_)
          exact K29 _ _ _ hf _ _ _ hG hS (lv_sub hl [1, 0, 2] rfl)
  have hl : lv_has ls 3 [(0, .ref (ad 4))] := hl
  unfold fX1_oldest at hf
  refine lv_iconst (v := 0) hx hb dX1_oldest_0 (by decide) ?_
  refine lv_istore_n (lv' := [(1, .int (0)), (0, .ref (ad 4))]) hx hb dX1_oldest_1 rfl hl (by decide) rfl (fun ls hl => ?_)
  refine lv_iconst (v := 1) hx hb dX1_oldest_2 (by decide) ?_
  refine lv_istore_n (lv' := [(2, .int (1)), (1, .int (0)), (0, .ref (ad 4))]) hx hb dX1_oldest_3 rfl hl (by decide) rfl (fun ls hl => ?_)
  exact K4 1000 _ _ _ hf _ _ _ hG hS (lv_sub hl [2, 1, 0] rfl)
def fX1_put (a1 : Nat) (a2 : Int32) (a3 : Int32) (σ : pw_S) : Option (Unit × pw_S) := ck (okc σ a1) (ck (inb (a2) (12)) (ld (sr σ 5 (Int32.toNatClampNeg (a2)) (some a1)) (fun σ3 => ck (inb (a2) (12)) (ld (si σ3 6 (Int32.toNatClampNeg (a2)) (a3)) (fun σ6 => ck (inb (a2) (12)) (ld (si σ6 7 (Int32.toNatClampNeg (a2)) (0)) (fun σ9 => ld (si σ9 a1 3 (a2)) (fun σ11 => some ((), σ11)))))))))
set_option maxHeartbeats 4000000 in
set_option maxRecDepth 100000 in
theorem kX1_put (l : Launch) (D : va_G) (cA : Nat → ClassId) (A : Nat → Prop) (ad : Nat → Nat) {σ σ' : pw_S} {r : Unit} {a1 : Nat} {a2 : Int32} {a3 : Int32} (hf : fX1_put a1 a2 a3 σ = some (r, σ')) : Met l yX1_put (wA yX1_put cX1_put 4 none) ({ frames := 0, cells := 0, slots := 0, locals := 0 }) (pw_Pc D cA shP 12 A ad σ [.ref (ad 4), .ref (ad a1), .int (a2), .int (a3)]) (pw_Qv D cA shP 12 A ad r σ') 0 0 A := by
  refine mw_enter (own := RX1) (by decide) rfl (Nat.le_of_ble_eq_true rfl) ?_
  intro p e s m args below meth c ls hC hr hlocks hK hA hX hG hS hl
  obtain ⟨hx, hb, hml, hown, hts⟩ := id hC
  have hl : lv_has ls 4 [(0, .ref (ad 4)), (1, .ref (ad a1)), (2, .int (a2)), (3, .int (a3))] := hl
  unfold fX1_put at hf
  refine lv_aload_n hx hb dX1_put_0 rfl (lv_at hl 0 rfl) ?_
  refine mw_getl hx hb hts hown hK hG inlX1 rfl (hG.fix (by decide)) rfl 0 (by decide) 5 rfl wA_38 dX1_put_1 ?_
  refine lv_iload_n hx hb dX1_put_4 rfl (lv_at hl 2 rfl) ?_
  refine lv_aload_n hx hb dX1_put_5 rfl (lv_at hl 1 rfl) ?_
  obtain ⟨h1, hf⟩ := ck_some hf
  obtain ⟨h2, hf⟩ := ck_some hf
  refine mw_aast hx hb hK hG hS (hG.fix (by decide)) rfl (okc_lt h1) (shP_c h1) (inb_in h2) dX1_put_6 (fun H locs hG hS => ?_)
  obtain ⟨σ3, e4, hf⟩ := ld_some hf
  rw [← e4] at hG
  have h1 := okc_sr e4 h1
  clear e4
  refine lv_aload_n hx hb dX1_put_7 rfl (lv_at hl 0 rfl) ?_
  refine mw_getl hx hb hts hown hK hG inlX1 rfl (hG.fix (by decide)) rfl 1 (by decide) 6 rfl wA_39 dX1_put_8 ?_
  refine lv_iload_n hx hb dX1_put_11 rfl (lv_at hl 2 rfl) ?_
  refine lv_iload_n hx hb dX1_put_12 rfl (lv_at hl 3 rfl) ?_
  obtain ⟨h5, hf⟩ := ck_some hf
  refine mw_iast hx hb hK hG hS (hG.fix (by decide)) rfl (inb_in h5) dX1_put_13 (fun H locs hG hS => ?_)
  obtain ⟨σ6, e7, hf⟩ := ld_some hf
  rw [← e7] at hG
  have h1 := okc_si e7 h1
  clear e7
  refine lv_aload_n hx hb dX1_put_14 rfl (lv_at hl 0 rfl) ?_
  refine mw_getl hx hb hts hown hK hG inlX1 rfl (hG.fix (by decide)) rfl 2 (by decide) 7 rfl wA_40 dX1_put_15 ?_
  refine lv_iload_n hx hb dX1_put_18 rfl (lv_at hl 2 rfl) ?_
  refine lv_iconst (v := 0) hx hb dX1_put_19 (by decide) ?_
  obtain ⟨h8, hf⟩ := ck_some hf
  refine mw_zast hx hb hK hG hS (hG.fix (by decide)) rfl rfl (inb_in h8) dX1_put_20 (fun H locs hG hS => ?_)
  obtain ⟨σ9, e10, hf⟩ := ld_some hf
  rw [← e10] at hG
  have h1 := okc_si e10 h1
  clear e10
  refine lv_aload_n hx hb dX1_put_21 rfl (lv_at hl 1 rfl) ?_
  refine lv_iload_n hx hb dX1_put_22 rfl (lv_at hl 2 rfl) ?_
  refine mw_puti hx hb hts hown hK hG hS inlX0 tyX0 tyX0_ok nmX0 rfl (okc_lt h1) (shP_c h1) 3 (by decide) rfl rfl rfl rfl wA_196 dX1_put_23 (fun H locs hG hS => ?_)
  obtain ⟨σ11, e12, hf⟩ := ld_some hf
  rw [← e12] at hG
  have h1 := okc_si e12 h1
  clear e12
  exact mr_v hC hr hlocks hG hS hf (Nat.le_of_ble_eq_true rfl) (Nat.le_of_ble_eq_true rfl) dX1_put_26
def fX1_use_26 (σ : pw_S) : Option (Unit × pw_S) := some ((), σ)
def fX1_use (a1 : Int32) (a2 : Int32) (σ : pw_S) : Option (Unit × pw_S) := (if a1 < 0 then fX1_use_26 σ else (if (gi σ 4 3) ≤ a1 then fX1_use_26 σ else ck (inb (a1) (12)) (ld (si σ 6 (Int32.toNatClampNeg (a1)) (a2)) (fun σ6 => ck (inb (a1) (12)) (ld (si σ6 7 (Int32.toNatClampNeg (a1)) (1)) (fun σ9 => fX1_use_26 σ9))))))
set_option maxHeartbeats 4000000 in
set_option maxRecDepth 100000 in
theorem kX1_use (l : Launch) (D : va_G) (cA : Nat → ClassId) (A : Nat → Prop) (ad : Nat → Nat) {σ σ' : pw_S} {r : Unit} {a1 : Int32} {a2 : Int32} (hf : fX1_use a1 a2 σ = some (r, σ')) : Met l yX1_use (wA yX1_use cX1_use 3 none) ({ frames := 0, cells := 0, slots := 0, locals := 0 }) (pw_Pc D cA shP 12 A ad σ [.ref (ad 4), .int (a1), .int (a2)]) (pw_Qv D cA shP 12 A ad r σ') 0 0 A := by
  refine mw_enter (own := RX1) (by decide) rfl (Nat.le_of_ble_eq_true rfl) ?_
  intro p e s m args below meth c ls hC hr hlocks hK hA hX hG hS hl
  obtain ⟨hx, hb, hml, hown, hts⟩ := id hC
  have K26 : ∀ (σ : pw_S), fX1_use_26  σ = some (r, σ') → mw_K p l e ({ frames := 0, cells := 0, slots := 0, locals := 0 }) s m args below meth c (MQ below (pw_Qv D cA shP 12 A ad r σ') args s 0 0 A) A D cA shP 12 ad 3 26 0 0 [] [] σ := by
    intro  σ hf H locs ls hG hS hl
    unfold fX1_use_26 at hf
    exact mr_v hC hr hlocks hG hS hf (Nat.le_of_ble_eq_true rfl) (Nat.le_of_ble_eq_true rfl) dX1_use_26
  have hl : lv_has ls 3 [(0, .ref (ad 4)), (1, .int (a1)), (2, .int (a2))] := hl
  unfold fX1_use at hf
  refine lv_iload_n hx hb dX1_use_0 rfl (lv_at hl 1 rfl) ?_
  refine lv_if_lt (tgt := 26) hx hb dX1_use_1 (by decide) (fun c3 => ?_) (fun c3 => ?_)
  · have hf := it_pos c3 hf
    exact K26 _ hf _ _ _ hG hS (lv_sub hl [] rfl)
  · have hf := it_neg c3 hf
    refine lv_iload_n hx hb dX1_use_4 rfl (lv_at hl 1 rfl) ?_
    refine lv_aload_n hx hb dX1_use_5 rfl (lv_at hl 0 rfl) ?_
    refine mw_geti hx hb hts hown hK hG inlX1 rfl (hG.fix (by decide)) rfl 3 (by decide) rfl wA_41 dX1_use_6 ?_
    refine lv_icmp_ge (tgt := 26) hx hb dX1_use_9 (by decide) (fun c4 => ?_) (fun c4 => ?_)
    · have hf := it_pos c4 hf
      exact K26 _ hf _ _ _ hG hS (lv_sub hl [] rfl)
    · have hf := it_neg c4 hf
      refine lv_aload_n hx hb dX1_use_12 rfl (lv_at hl 0 rfl) ?_
      refine mw_getl hx hb hts hown hK hG inlX1 rfl (hG.fix (by decide)) rfl 1 (by decide) 6 rfl wA_39 dX1_use_13 ?_
      refine lv_iload_n hx hb dX1_use_16 rfl (lv_at hl 1 rfl) ?_
      refine lv_iload_n hx hb dX1_use_17 rfl (lv_at hl 2 rfl) ?_
      obtain ⟨h5, hf⟩ := ck_some hf
      refine mw_iast hx hb hK hG hS (hG.fix (by decide)) rfl (inb_in h5) dX1_use_18 (fun H locs hG hS => ?_)
      obtain ⟨σ6, e7, hf⟩ := ld_some hf
      rw [← e7] at hG
      clear e7
      refine lv_aload_n hx hb dX1_use_19 rfl (lv_at hl 0 rfl) ?_
      refine mw_getl hx hb hts hown hK hG inlX1 rfl (hG.fix (by decide)) rfl 2 (by decide) 7 rfl wA_40 dX1_use_20 ?_
      refine lv_iload_n hx hb dX1_use_23 rfl (lv_at hl 1 rfl) ?_
      refine lv_iconst (v := 1) hx hb dX1_use_24 (by decide) ?_
      obtain ⟨h8, hf⟩ := ck_some hf
      refine mw_zast hx hb hK hG hS (hG.fix (by decide)) rfl rfl (inb_in h8) dX1_use_25 (fun H locs hG hS => ?_)
      obtain ⟨σ9, e10, hf⟩ := ld_some hf
      rw [← e10] at hG
      clear e10
      exact K26 _ hf _ _ _ hG hS (lv_sub hl [] rfl)
def fX1_vacate_16 (x1 : Int32) (σ : pw_S) : Option (Unit × pw_S) := ck (inb (x1) (12)) (ld (sr σ 5 (Int32.toNatClampNeg (x1)) none) (fun σ4 => ck (inb (x1) (12)) (ld (si σ4 6 (Int32.toNatClampNeg (x1)) ((-1))) (fun σ7 => ck (inb (x1) (12)) (ld (si σ7 7 (Int32.toNatClampNeg (x1)) (0)) (fun σ10 => some ((), σ10)))))))
def fX1_vacate (a1 : Int32) (σ : pw_S) : Option (Unit × pw_S) := ck (inb (a1) (12)) (ld (gr σ 5 (Int32.toNatClampNeg (a1))) (fun o13 => oc o13 (fX1_vacate_16 a1 σ) (fun q15 => ck (okc σ q15) (ld (si σ q15 3 ((-1))) (fun σ18 => fX1_vacate_16 a1 σ18)))))
set_option maxHeartbeats 4000000 in
set_option maxRecDepth 100000 in
theorem kX1_vacate (l : Launch) (D : va_G) (cA : Nat → ClassId) (A : Nat → Prop) (ad : Nat → Nat) {σ σ' : pw_S} {r : Unit} {a1 : Int32} (hf : fX1_vacate a1 σ = some (r, σ')) : Met l yX1_vacate (wA yX1_vacate cX1_vacate 3 none) ({ frames := 0, cells := 0, slots := 0, locals := 0 }) (pw_Pc D cA shP 12 A ad σ [.ref (ad 4), .int (a1)]) (pw_Qv D cA shP 12 A ad r σ') 0 0 A := by
  refine mw_enter (own := RX1) (by decide) rfl (Nat.le_of_ble_eq_true rfl) ?_
  intro p e s m args below meth c ls hC hr hlocks hK hA hX hG hS hl
  obtain ⟨hx, hb, hml, hown, hts⟩ := id hC
  have K16 : ∀ (x1 : Int32) (σ : pw_S), fX1_vacate_16 x1 σ = some (r, σ') → mw_K p l e ({ frames := 0, cells := 0, slots := 0, locals := 0 }) s m args below meth c (MQ below (pw_Qv D cA shP 12 A ad r σ') args s 0 0 A) A D cA shP 12 ad 3 16 0 0 [(0, .ref (ad 4)), (1, .int (x1))] [] σ := by
    intro x1 σ hf H locs ls hG hS hl
    unfold fX1_vacate_16 at hf
    refine lv_aload_n hx hb dX1_vacate_16 rfl (lv_at hl 0 rfl) ?_
    refine mw_getl hx hb hts hown hK hG inlX1 rfl (hG.fix (by decide)) rfl 0 (by decide) 5 rfl wA_38 dX1_vacate_17 ?_
    refine lv_iload_n hx hb dX1_vacate_20 rfl (lv_at hl 1 rfl) ?_
    refine lv_null hx hb dX1_vacate_21 ?_
    obtain ⟨h3, hf⟩ := ck_some hf
    refine mw_aastN hx hb hK hG hS (hG.fix (by decide)) rfl (inb_in h3) dX1_vacate_22 (fun H locs hG hS => ?_)
    obtain ⟨σ4, e5, hf⟩ := ld_some hf
    rw [← e5] at hG
    clear e5
    refine lv_aload_n hx hb dX1_vacate_23 rfl (lv_at hl 0 rfl) ?_
    refine mw_getl hx hb hts hown hK hG inlX1 rfl (hG.fix (by decide)) rfl 1 (by decide) 6 rfl wA_39 dX1_vacate_24 ?_
    refine lv_iload_n hx hb dX1_vacate_27 rfl (lv_at hl 1 rfl) ?_
    refine lv_iconst (v := (-1)) hx hb dX1_vacate_28 (by decide) ?_
    obtain ⟨h6, hf⟩ := ck_some hf
    refine mw_iast hx hb hK hG hS (hG.fix (by decide)) rfl (inb_in h6) dX1_vacate_29 (fun H locs hG hS => ?_)
    obtain ⟨σ7, e8, hf⟩ := ld_some hf
    rw [← e8] at hG
    clear e8
    refine lv_aload_n hx hb dX1_vacate_30 rfl (lv_at hl 0 rfl) ?_
    refine mw_getl hx hb hts hown hK hG inlX1 rfl (hG.fix (by decide)) rfl 2 (by decide) 7 rfl wA_40 dX1_vacate_31 ?_
    refine lv_iload_n hx hb dX1_vacate_34 rfl (lv_at hl 1 rfl) ?_
    refine lv_iconst (v := 0) hx hb dX1_vacate_35 (by decide) ?_
    obtain ⟨h9, hf⟩ := ck_some hf
    refine mw_zast hx hb hK hG hS (hG.fix (by decide)) rfl rfl (inb_in h9) dX1_vacate_36 (fun H locs hG hS => ?_)
    obtain ⟨σ10, e11, hf⟩ := ld_some hf
    rw [← e11] at hG
    clear e11
    exact mr_v hC hr hlocks hG hS hf (Nat.le_of_ble_eq_true rfl) (Nat.le_of_ble_eq_true rfl) dX1_vacate_37
  have hl : lv_has ls 3 [(0, .ref (ad 4)), (1, .int (a1))] := hl
  unfold fX1_vacate at hf
  refine lv_aload_n hx hb dX1_vacate_0 rfl (lv_at hl 0 rfl) ?_
  refine mw_getl hx hb hts hown hK hG inlX1 rfl (hG.fix (by decide)) rfl 0 (by decide) 5 rfl wA_38 dX1_vacate_1 ?_
  refine lv_iload_n hx hb dX1_vacate_4 rfl (lv_at hl 1 rfl) ?_
  obtain ⟨h12, hf⟩ := ck_some hf
  obtain ⟨o13, e14, hf⟩ := ld_some hf
  refine mw_aald hx hb hK hG (hG.fix (by decide)) rfl (inb_in h12) dX1_vacate_5 ?_
  rw [← e14]
  clear e14
  refine mq_astore_n (lv' := [(2, va_rf (Option.map ad o13)), (0, .ref (ad 4)), (1, .int (a1))]) hx hb dX1_vacate_6 rfl hl (by decide) rfl (fun ls hl => ?_)
  refine mq_aload_n hx hb dX1_vacate_7 rfl (lv_at hl 0 rfl) ?_
  refine mq_ifnull (tgt := 16) hx hb dX1_vacate_8 (by decide) (fun c16 => ?_) (fun q15 c16 => ?_)
  · subst c16
    have hl : lv_has ls 3 [(2, .null), (0, .ref (ad 4)), (1, .int (a1))] := hl
    have hf := oc_none hf
    exact K16 _ _ hf _ _ _ hG hS (lv_sub hl [1, 2] rfl)
  · subst c16
    have hl : lv_has ls 3 [(2, .ref (ad q15)), (0, .ref (ad 4)), (1, .int (a1))] := hl
    have hf := oc_some hf
    refine lv_aload_n hx hb dX1_vacate_11 rfl (lv_at hl 0 rfl) ?_
    refine lv_iconst (v := (-1)) hx hb dX1_vacate_12 (by decide) ?_
    obtain ⟨h17, hf⟩ := ck_some hf
    refine mw_puti hx hb hts hown hK hG hS inlX0 tyX0 tyX0_ok nmX0 rfl (okc_lt h17) (shP_c h17) 3 (by decide) rfl rfl rfl rfl wA_196 dX1_vacate_13 (fun H locs hG hS => ?_)
    obtain ⟨σ18, e19, hf⟩ := ld_some hf
    rw [← e19] at hG
    have h17 := okc_si e19 h17
    clear e19
    exact K16 _ _ hf _ _ _ hG hS (lv_sub hl [1, 2] rfl)
def fX1_moveHandBehind_18 (y0 : Int32) (σ : pw_S) : Option (Unit × pw_S) := ld (si σ 4 4 (y0)) (fun σ2 => some ((), σ2))
def fX1_moveHandBehind (a1 : Int32) (σ : pw_S) : Option (Unit × pw_S) := (if (gi σ 4 3) ≤ (a1 + 1) then fX1_moveHandBehind_18 0 σ else fX1_moveHandBehind_18 ((a1 + 1)) σ)
set_option maxHeartbeats 4000000 in
set_option maxRecDepth 100000 in
theorem kX1_moveHandBehind (l : Launch) (D : va_G) (cA : Nat → ClassId) (A : Nat → Prop) (ad : Nat → Nat) {σ σ' : pw_S} {r : Unit} {a1 : Int32} (hf : fX1_moveHandBehind a1 σ = some (r, σ')) : Met l yX1_moveHandBehind (wA yX1_moveHandBehind cX1_moveHandBehind 2 none) ({ frames := 0, cells := 0, slots := 0, locals := 0 }) (pw_Pc D cA shP 12 A ad σ [.ref (ad 4), .int (a1)]) (pw_Qv D cA shP 12 A ad r σ') 0 0 A := by
  refine mw_enter (own := RX1) (by decide) rfl (Nat.le_of_ble_eq_true rfl) ?_
  intro p e s m args below meth c ls hC hr hlocks hK hA hX hG hS hl
  obtain ⟨hx, hb, hml, hown, hts⟩ := id hC
  have K18 : ∀ (y0 : Int32) (σ : pw_S), fX1_moveHandBehind_18 y0 σ = some (r, σ') → mw_K p l e ({ frames := 0, cells := 0, slots := 0, locals := 0 }) s m args below meth c (MQ below (pw_Qv D cA shP 12 A ad r σ') args s 0 0 A) A D cA shP 12 ad 2 18 0 0 [] [.int (y0), .ref (ad 4)] σ := by
    intro y0 σ hf H locs ls hG hS hl
    unfold fX1_moveHandBehind_18 at hf
    refine mw_puti hx hb hts hown hK hG hS inlX1 tyX1 tyX1_ok nmX1 rfl (hG.fix (by decide)) rfl 4 (by decide) rfl rfl rfl rfl wA_42 dX1_moveHandBehind_18 (fun H locs hG hS => ?_)
    obtain ⟨σ2, e3, hf⟩ := ld_some hf
    rw [← e3] at hG
    clear e3
    exact mr_v hC hr hlocks hG hS hf (Nat.le_of_ble_eq_true rfl) (Nat.le_of_ble_eq_true rfl) dX1_moveHandBehind_21
  have hl : lv_has ls 2 [(0, .ref (ad 4)), (1, .int (a1))] := hl
  unfold fX1_moveHandBehind at hf
  refine lv_aload_n hx hb dX1_moveHandBehind_0 rfl (lv_at hl 0 rfl) ?_
  refine lv_iload_n hx hb dX1_moveHandBehind_1 rfl (lv_at hl 1 rfl) ?_
  refine lv_iconst (v := 1) hx hb dX1_moveHandBehind_2 (by decide) ?_
  refine lv_iadd hx hb dX1_moveHandBehind_3 ?_
  refine lv_aload_n hx hb dX1_moveHandBehind_4 rfl (lv_at hl 0 rfl) ?_
  refine mw_geti hx hb hts hown hK hG inlX1 rfl (hG.fix (by decide)) rfl 3 (by decide) rfl wA_41 dX1_moveHandBehind_5 ?_
  refine lv_icmp_ge (tgt := 17) hx hb dX1_moveHandBehind_8 (by decide) (fun c4 => ?_) (fun c4 => ?_)
  · have hf := it_pos c4 hf
    refine lv_iconst (v := 0) hx hb dX1_moveHandBehind_17 (by decide) ?_
    exact K18 _ _ hf _ _ _ hG hS (lv_sub hl [] rfl)
  · have hf := it_neg c4 hf
    refine lv_iload_n hx hb dX1_moveHandBehind_11 rfl (lv_at hl 1 rfl) ?_
    refine lv_iconst (v := 1) hx hb dX1_moveHandBehind_12 (by decide) ?_
    refine lv_iadd hx hb dX1_moveHandBehind_13 ?_
    refine lv_goto (tgt := 18) hx hb dX1_moveHandBehind_14 (by decide) ?_
    exact K18 _ _ hf _ _ _ hG hS (lv_sub hl [] rfl)
