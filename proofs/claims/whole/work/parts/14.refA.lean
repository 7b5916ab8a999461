/-! the reference: pure functions and contracts, first half (printed by wip/whole/gen) -/
def fX4_thrown (σ : pw_S) : Option (Int32 × pw_S) := some ((gi σ 0 0), σ)
set_option maxHeartbeats 4000000 in
set_option maxRecDepth 100000 in
theorem kX4_thrown (l : Launch) (D : va_G) (cA : Nat → ClassId) (A : Nat → Prop) (ad : Nat → Nat) {σ σ' : pw_S} {r : Int32} (hf : fX4_thrown σ = some (r, σ')) : Met l yX4_thrown (wA yX4_thrown cX4_thrown 1 (some .int)) ({ frames := 0, cells := 0, slots := 0, locals := 0 }) (pw_Pc D cA shM 15 A ad σ [.ref (ad 0)]) (pw_Qi D cA shM 15 A ad r σ') 0 0 A := by
  refine mw_enter (own := RX4) (by decide) rfl (Nat.le_of_ble_eq_true rfl) ?_
  intro p e s m args below meth c ls hC hr hlocks hK hA hX hG hS hl
  obtain ⟨hx, hb, hml, hown, hts⟩ := id hC
  have hl : lv_has ls 1 [(0, .ref (ad 0))] := hl
  unfold fX4_thrown at hf
  refine lv_aload_n hx hb dX4_thrown_0 rfl (lv_at hl 0 rfl) ?_
  refine mw_geti hx hb hts hown hK hG inlX4 rfl (hG.fix (by decide)) rfl 0 (by decide) rfl wA_93 dX4_thrown_1 ?_
  exact mr_i hC hr hlocks hG hS hf (Nat.le_of_ble_eq_true rfl) (Nat.le_of_ble_eq_true rfl) dX4_thrown_4
def fX4_no (a1 : Int32) (σ : pw_S) : Option (Int32 × pw_S) := ld (si σ 0 0 (a1)) (fun σ1 => some (0, σ1))
set_option maxHeartbeats 4000000 in
set_option maxRecDepth 100000 in
theorem kX4_no (l : Launch) (D : va_G) (cA : Nat → ClassId) (A : Nat → Prop) (ad : Nat → Nat) {σ σ' : pw_S} {r : Int32} {a1 : Int32} (hf : fX4_no a1 σ = some (r, σ')) : Met l yX4_no (wA yX4_no cX4_no 2 (some .int)) ({ frames := 0, cells := 0, slots := 0, locals := 0 }) (pw_Pc D cA shM 15 A ad σ [.ref (ad 0), .int (a1)]) (pw_Qi D cA shM 15 A ad r σ') 0 0 A := by
  refine mw_enter (own := RX4) (by decide) rfl (Nat.le_of_ble_eq_true rfl) ?_
  intro p e s m args below meth c ls hC hr hlocks hK hA hX hG hS hl
  obtain ⟨hx, hb, hml, hown, hts⟩ := id hC
  have hl : lv_has ls 2 [(0, .ref (ad 0)), (1, .int (a1))] := hl
  unfold fX4_no at hf
  refine lv_aload_n hx hb dX4_no_0 rfl (lv_at hl 0 rfl) ?_
  refine lv_iload_n hx hb dX4_no_1 rfl (lv_at hl 1 rfl) ?_
  refine mw_puti hx hb hts hown hK hG hS inlX4 tyX4 tyX4_ok nmX4 rfl (hG.fix (by decide)) rfl 0 (by decide) rfl rfl rfl rfl wA_93 dX4_no_2 (fun H locs hG hS => ?_)
  obtain ⟨σ1, e2, hf⟩ := ld_some hf
  rw [← e2] at hG
  clear e2
  refine lv_iconst (v := 0) hx hb dX4_no_5 (by decide) ?_
  exact mr_i hC hr hlocks hG hS hf (Nat.le_of_ble_eq_true rfl) (Nat.le_of_ble_eq_true rfl) dX4_no_6
def fX4_frameWith_2_b (bk2 : Int32 → Int32 → pw_S → Option (Int32 × pw_S)) (x1 : Int32) (x2 : Int32) (σ : pw_S) : Option (Int32 × pw_S) := (if (gi σ 0 3) ≤ x2 then some ((-1), σ) else ck (inb (x2) (12)) ((if (gi σ 1 (Int32.toNatClampNeg (x2))) = x1 then some (x2, σ) else bk2 x1 (x2 + 1) σ)))
def fX4_frameWith_2 : Nat → Int32 → Int32 → pw_S → Option (Int32 × pw_S)
  | 0, _, _, _ => none
  | n + 1, x1, x2, σ => fX4_frameWith_2_b (fX4_frameWith_2 n) x1 x2 σ
def fX4_frameWith (a1 : Int32) (σ : pw_S) : Option (Int32 × pw_S) := fX4_frameWith_2 1000 a1 0 σ
set_option maxHeartbeats 4000000 in
set_option maxRecDepth 100000 in
theorem kX4_frameWith (l : Launch) (D : va_G) (cA : Nat → ClassId) (A : Nat → Prop) (ad : Nat → Nat) {σ σ' : pw_S} {r : Int32} {a1 : Int32} (hf : fX4_frameWith a1 σ = some (r, σ')) : Met l yX4_frameWith (wA yX4_frameWith cX4_frameWith 3 (some .int)) ({ frames := 0, cells := 0, slots := 0, locals := 0 }) (pw_Pc D cA shM 15 A ad σ [.ref (ad 0), .int (a1)]) (pw_Qi D cA shM 15 A ad r σ') 0 0 A := by
  refine mw_enter (own := RX4) (by decide) rfl (Nat.le_of_ble_eq_true rfl) ?_
  intro p e s m args below meth c ls hC hr hlocks hK hA hX hG hS hl
  obtain ⟨hx, hb, hml, hown, hts⟩ := id hC
  have K2 : ∀ (n2 : Nat) (x1 : Int32) (x2 : Int32) (σ : pw_S), fX4_frameWith_2 n2 x1 x2 σ = some (r, σ') → mw_K p l e ({ frames := 0, cells := 0, slots := 0, locals := 0 }) s m args below meth c (MQ below (pw_Qi D cA shM 15 A ad r σ') args s 0 0 A) A D cA shM 15 ad 3 2 0 0 [(0, .ref (ad 0)), (1, .int (x1)), (2, .int (x2))] [] σ := by
    intro n2
    induction n2 with
    | zero => intro x1 x2 σ hf; cases hf
    | succ n2 ih2 =>
      intro x1 x2 σ hf H locs ls hG hS hl
      have hf : fX4_frameWith_2_b (fX4_frameWith_2 n2) x1 x2 σ = some (r, σ') := hf
      unfold fX4_frameWith_2_b at hf
      refine lv_iload_n hx hb dX4_frameWith_2 rfl (lv_at hl 2 rfl) ?_
      refine lv_aload_n hx hb dX4_frameWith_3 rfl (lv_at hl 0 rfl) ?_
      refine mw_geti hx hb hts hown hK hG inlX4 rfl (hG.fix (by decide)) rfl 3 (by decide) rfl wA_54 dX4_frameWith_4 ?_
      refine lv_icmp_ge (tgt := 28) hx hb dX4_frameWith_7 (by decide) (fun c3 => ?_) (fun c3 => ?_)
      · have hf := it_pos c3 hf
        refine lv_iconst (v := (-1)) hx hb dX4_frameWith_28 (by decide) ?_
        exact mr_i hC hr hlocks hG hS hf (Nat.le_of_ble_eq_true rfl) (Nat.le_of_ble_eq_true rfl) dX4_frameWith_29
      · have hf := it_neg c3 hf
        refine lv_aload_n hx hb dX4_frameWith_10 rfl (lv_at hl 0 rfl) ?_
        refine mw_getl hx hb hts hown hK hG inlX4 rfl (hG.fix (by decide)) rfl 5 (by decide) 1 rfl wA_55 dX4_frameWith_11 ?_
        refine lv_iload_n hx hb dX4_frameWith_14 rfl (lv_at hl 2 rfl) ?_
        obtain ⟨h4, hf⟩ := ck_some hf
        refine mw_iald hx hb hK hG (hG.fix (by decide)) rfl (inb_in h4) dX4_frameWith_15 ?_
        refine lv_iload_n hx hb dX4_frameWith_16 rfl (lv_at hl 1 rfl) ?_
        refine lv_icmp_ne (tgt := 22) hx hb dX4_frameWith_17 (by decide) (fun c5 => ?_) (fun c5 => ?_)
        · have hf := it_neg c5 hf
          refine lv_iinc (v := x2 + 1) (lv' := [(2, .int (x2 + 1)), (0, .ref (ad 0)), (1, .int (x1))]) hx hb dX4_frameWith_22 hl (k := 2) rfl rfl (by decide) rfl (fun ls hl => ?_)
          refine lv_goto (tgt := 2) hx hb dX4_frameWith_25 (by decide) ?_
          exact ih2 _ _ _ hf _ _ _ hG hS (lv_sub hl [1, 2, 0] rfl)
        · have hf := it_pos c5 hf
          refine lv_iload_n hx hb dX4_frameWith_20 rfl (lv_at hl 2 rfl) ?_
          exact mr_i hC hr hlocks hG hS hf (Nat.le_of_ble_eq_true rfl) (Nat.le_of_ble_eq_true rfl) dX4_frameWith_21
  have hl : lv_has ls 3 [(0, .ref (ad 0)), (1, .int (a1))] := hl
  unfold fX4_frameWith at hf
  refine lv_iconst (v := 0) hx hb dX4_frameWith_0 (by decide) ?_
  refine lv_istore_n (lv' := [(2, .int (0)), (0, .ref (ad 0)), (1, .int (a1))]) hx hb dX4_frameWith_1 rfl hl (by decide) rfl (fun ls hl => ?_)
  exact K2 1000 _ _ _ hf _ _ _ hG hS (lv_sub hl [1, 2, 0] rfl)
def fX4_slotWith_2_b (bk2 : Int32 → Int32 → pw_S → Option (Int32 × pw_S)) (x1 : Int32) (x2 : Int32) (σ : pw_S) : Option (Int32 × pw_S) := (if 24 ≤ x2 then some ((-1), σ) else ck (inb (x2) (24)) ((if (gi σ 4 (Int32.toNatClampNeg (x2))) = x1 then some (x2, σ) else bk2 x1 (x2 + 1) σ)))
def fX4_slotWith_2 : Nat → Int32 → Int32 → pw_S → Option (Int32 × pw_S)
  | 0, _, _, _ => none
  | n + 1, x1, x2, σ => fX4_slotWith_2_b (fX4_slotWith_2 n) x1 x2 σ
def fX4_slotWith (a1 : Int32) (σ : pw_S) : Option (Int32 × pw_S) := fX4_slotWith_2 1000 a1 0 σ
set_option maxHeartbeats 4000000 in
set_option maxRecDepth 100000 in
theorem kX4_slotWith (l : Launch) (D : va_G) (cA : Nat → ClassId) (A : Nat → Prop) (ad : Nat → Nat) {σ σ' : pw_S} {r : Int32} {a1 : Int32} (hf : fX4_slotWith a1 σ = some (r, σ')) : Met l yX4_slotWith (wA yX4_slotWith cX4_slotWith 3 (some .int)) ({ frames := 0, cells := 0, slots := 0, locals := 0 }) (pw_Pc D cA shM 15 A ad σ [.ref (ad 0), .int (a1)]) (pw_Qi D cA shM 15 A ad r σ') 0 0 A := by
  refine mw_enter (own := RX4) (by decide) rfl (Nat.le_of_ble_eq_true rfl) ?_
  intro p e s m args below meth c ls hC hr hlocks hK hA hX hG hS hl
  obtain ⟨hx, hb, hml, hown, hts⟩ := id hC
  have K2 : ∀ (n2 : Nat) (x1 : Int32) (x2 : Int32) (σ : pw_S), fX4_slotWith_2 n2 x1 x2 σ = some (r, σ') → mw_K p l e ({ frames := 0, cells := 0, slots := 0, locals := 0 }) s m args below meth c (MQ below (pw_Qi D cA shM 15 A ad r σ') args s 0 0 A) A D cA shM 15 ad 3 2 0 0 [(0, .ref (ad 0)), (1, .int (x1)), (2, .int (x2))] [] σ := by
    intro n2
    induction n2 with
    | zero => intro x1 x2 σ hf; cases hf
    | succ n2 ih2 =>
      intro x1 x2 σ hf H locs ls hG hS hl
      have hf : fX4_slotWith_2_b (fX4_slotWith_2 n2) x1 x2 σ = some (r, σ') := hf
      unfold fX4_slotWith_2_b at hf
      refine lv_iload_n hx hb dX4_slotWith_2 rfl (lv_at hl 2 rfl) ?_
      refine lv_bipush (v := 24) hx hb dX4_slotWith_3 (by decide) ?_
      refine lv_icmp_ge (tgt := 26) hx hb dX4_slotWith_5 (by decide) (fun c3 => ?_) (fun c3 => ?_)
      · have hf := it_pos c3 hf
        refine lv_iconst (v := (-1)) hx hb dX4_slotWith_26 (by decide) ?_
        exact mr_i hC hr hlocks hG hS hf (Nat.le_of_ble_eq_true rfl) (Nat.le_of_ble_eq_true rfl) dX4_slotWith_27
      · have hf := it_neg c3 hf
        refine lv_aload_n hx hb dX4_slotWith_8 rfl (lv_at hl 0 rfl) ?_
        refine mw_getl hx hb hts hown hK hG inlX4 rfl (hG.fix (by decide)) rfl 8 (by decide) 4 rfl wA_58 dX4_slotWith_9 ?_
        refine lv_iload_n hx hb dX4_slotWith_12 rfl (lv_at hl 2 rfl) ?_
        obtain ⟨h4, hf⟩ := ck_some hf
        refine mw_iald hx hb hK hG (hG.fix (by decide)) rfl (inb_in h4) dX4_slotWith_13 ?_
        refine lv_iload_n hx hb dX4_slotWith_14 rfl (lv_at hl 1 rfl) ?_
        refine lv_icmp_ne (tgt := 20) hx hb dX4_slotWith_15 (by decide) (fun c5 => ?_) (fun c5 => ?_)
        · have hf := it_neg c5 hf
          refine lv_iinc (v := x2 + 1) (lv' := [(2, .int (x2 + 1)), (0, .ref (ad 0)), (1, .int (x1))]) hx hb dX4_slotWith_20 hl (k := 2) rfl rfl (by decide) rfl (fun ls hl => ?_)
          refine lv_goto (tgt := 2) hx hb dX4_slotWith_23 (by decide) ?_
          exact ih2 _ _ _ hf _ _ _ hG hS (lv_sub hl [1, 2, 0] rfl)
        · have hf := it_pos c5 hf
          refine lv_iload_n hx hb dX4_slotWith_18 rfl (lv_at hl 2 rfl) ?_
          exact mr_i hC hr hlocks hG hS hf (Nat.le_of_ble_eq_true rfl) (Nat.le_of_ble_eq_true rfl) dX4_slotWith_19
  have hl : lv_has ls 3 [(0, .ref (ad 0)), (1, .int (a1))] := hl
  unfold fX4_slotWith at hf
  refine lv_iconst (v := 0) hx hb dX4_slotWith_0 (by decide) ?_
  refine lv_istore_n (lv' := [(2, .int (0)), (0, .ref (ad 0)), (1, .int (a1))]) hx hb dX4_slotWith_1 rfl hl (by decide) rfl (fun ls hl => ?_)
  exact K2 1000 _ _ _ hf _ _ _ hG hS (lv_sub hl [1, 2, 0] rfl)
def fX4_isDirty_23 (y0 : Int32) (σ : pw_S) : Option (Int32 × pw_S) := ck (isB (y0)) (some (y0, σ))
def fX4_isDirty_22 (σ : pw_S) : Option (Int32 × pw_S) := fX4_isDirty_23 0 σ
def fX4_isDirty (a1 : Int32) (σ : pw_S) : Option (Int32 × pw_S) := ck (inb (a1) (200)) ((if (gi σ 6 (Int32.toNatClampNeg (a1))) = 0 then fX4_isDirty_22 σ else bnd (fX4_slotWith a1 σ) (fun r6 σ7 => (if r6 = (-1) then fX4_isDirty_23 1 σ7 else fX4_isDirty_22 σ7))))
set_option maxHeartbeats 4000000 in
set_option maxRecDepth 100000 in
theorem kX4_isDirty (l : Launch) (D : va_G) (cA : Nat → ClassId) (A : Nat → Prop) (ad : Nat → Nat) {σ σ' : pw_S} {r : Int32} {a1 : Int32} (hf : fX4_isDirty a1 σ = some (r, σ')) : Met l yX4_isDirty (wA yX4_isDirty cX4_isDirty 2 (some .boolean)) ({ frames := 1, cells := 0, slots := 0, locals := 22 }) (pw_Pc D cA shM 15 A ad σ [.ref (ad 0), .int (a1)]) (pw_Qi D cA shM 15 A ad r σ') 0 0 A := by
  refine mw_enter (own := RX4) (by decide) rfl (Nat.le_of_ble_eq_true rfl) ?_
  intro p e s m args below meth c ls hC hr hlocks hK hA hX hG hS hl
  obtain ⟨hx, hb, hml, hown, hts⟩ := id hC
  have K23 : ∀ (y0 : Int32) (σ : pw_S), fX4_isDirty_23 y0 σ = some (r, σ') → mw_K p l e ({ frames := 1, cells := 0, slots := 0, locals := 22 }) s m args below meth c (MQ below (pw_Qi D cA shM 15 A ad r σ') args s 0 0 A) A D cA shM 15 ad 2 23 0 0 [] [.int (y0)] σ := by
    intro y0 σ hf H locs ls hG hS hl
    unfold fX4_isDirty_23 at hf
    obtain ⟨h3, hf⟩ := ck_some hf
    exact mr_z hC hr hlocks hG hS (isB_or h3) hf (Nat.le_of_ble_eq_true rfl) (Nat.le_of_ble_eq_true rfl) dX4_isDirty_23
  have K22 : ∀ (σ : pw_S), fX4_isDirty_22  σ = some (r, σ') → mw_K p l e ({ frames := 1, cells := 0, slots := 0, locals := 22 }) s m args below meth c (MQ below (pw_Qi D cA shM 15 A ad r σ') args s 0 0 A) A D cA shM 15 ad 2 22 0 0 [] [] σ := by
    intro  σ hf H locs ls hG hS hl
    unfold fX4_isDirty_22 at hf
    refine lv_iconst (v := 0) hx hb dX4_isDirty_22 (by decide) ?_
    exact K23 _ _ hf _ _ _ hG hS (lv_sub hl [] rfl)
  have hl : lv_has ls 2 [(0, .ref (ad 0)), (1, .int (a1))] := hl
  unfold fX4_isDirty at hf
  refine lv_aload_n hx hb dX4_isDirty_0 rfl (lv_at hl 0 rfl) ?_
  refine mw_getl hx hb hts hown hK hG inlX4 rfl (hG.fix (by decide)) rfl 10 (by decide) 6 rfl wA_60 dX4_isDirty_1 ?_
  refine lv_iload_n hx hb dX4_isDirty_4 rfl (lv_at hl 1 rfl) ?_
  obtain ⟨h4, hf⟩ := ck_some hf
  refine mw_zald hx hb hK hG (hG.fix (by decide)) rfl (inb_in h4) dX4_isDirty_5 ?_
  refine lv_if_eq (tgt := 22) hx hb dX4_isDirty_6 (by decide) (fun c5 => ?_) (fun c5 => ?_)
  · have hf := it_pos c5 hf
    exact K22 _ hf _ _ _ hG hS (lv_sub hl [] rfl)
  · have hf := it_neg c5 hf
    refine lv_aload_n hx hb dX4_isDirty_9 rfl (lv_at hl 0 rfl) ?_
    refine lv_iload_n hx hb dX4_isDirty_10 rfl (lv_at hl 1 rfl) ?_
    obtain ⟨r6, σ7, hc8, hf⟩ := bnd_some hf
    refine mc_i (mc_V (As := [.int (a1)]) hC hK hA hX hG hS (kX4_slotWith l D cA A ad hc8) ykX4_slotWith wA_231 wA_232 wA_233 (hG.fix (by decide)) rfl rfl ⟨rfl, rfl, Nat.le_of_ble_eq_true rfl, Nat.le_of_ble_eq_true rfl⟩ rfl hl.1 rfl (Nat.le_of_ble_eq_true rfl) dX4_isDirty_11 ⟨Nat.le_of_ble_eq_true rfl, Nat.le_of_ble_eq_true rfl⟩) hS (fun H locs hG hS => ?_)
    refine lv_iconst (v := (-1)) hx hb dX4_isDirty_14 (by decide) ?_
    refine lv_icmp_ne (tgt := 22) hx hb dX4_isDirty_15 (by decide) (fun c9 => ?_) (fun c9 => ?_)
    · have hf := it_neg c9 hf
      exact K22 _ hf _ _ _ hG hS (lv_sub hl [] rfl)
    · have hf := it_pos c9 hf
      refine lv_iconst (v := 1) hx hb dX4_isDirty_18 (by decide) ?_
      refine lv_goto (tgt := 23) hx hb dX4_isDirty_19 (by decide) ?_
      exact K23 _ _ hf _ _ _ hG hS (lv_sub hl [] rfl)
def fX4_create_33_b (bk33 : Int32 → Int32 → pw_S → Option (Int32 × pw_S)) (x1 : Int32) (x2 : Int32) (σ : pw_S) : Option (Int32 × pw_S) := (if 4 ≤ x2 then some (x1, σ) else ck (inb (((4 * x1) + x2)) (800)) (ld (si σ 7 (Int32.toNatClampNeg (((4 * x1) + x2))) (0)) (fun σ5 => bk33 x1 (x2 + 1) σ5)))
def fX4_create_33 : Nat → Int32 → Int32 → pw_S → Option (Int32 × pw_S)
  | 0, _, _, _ => none
  | n + 1, x1, x2, σ => fX4_create_33_b (fX4_create_33 n) x1 x2 σ
def fX4_create_2_b (bk2 : Int32 → pw_S → Option (Int32 × pw_S)) (x1 : Int32) (σ : pw_S) : Option (Int32 × pw_S) := ck (inb (x1) (200)) ((if (gi σ 5 (Int32.toNatClampNeg (x1))) = 0 then ck (inb (x1) (200)) (ld (si σ 5 (Int32.toNatClampNeg (x1)) (1)) (fun σ10 => ck (inb (x1) (200)) (ld (si σ10 6 (Int32.toNatClampNeg (x1)) (0)) (fun σ13 => fX4_create_33 1000 x1 0 σ13)))) else bk2 (x1 + 1) σ))
def fX4_create_2 : Nat → Int32 → pw_S → Option (Int32 × pw_S)
  | 0, _, _ => none
  | n + 1, x1, σ => fX4_create_2_b (fX4_create_2 n) x1 σ
def fX4_create (σ : pw_S) : Option (Int32 × pw_S) := fX4_create_2 1000 0 σ
set_option maxHeartbeats 4000000 in
set_option maxRecDepth 100000 in
theorem kX4_create (l : Launch) (D : va_G) (cA : Nat → ClassId) (A : Nat → Prop) (ad : Nat → Nat) {σ σ' : pw_S} {r : Int32} (hf : fX4_create σ = some (r, σ')) : Met l yX4_create (wA yX4_create cX4_create 3 (some .int)) ({ frames := 0, cells := 0, slots := 0, locals := 0 }) (pw_Pc D cA shM 15 A ad σ [.ref (ad 0)]) (pw_Qi D cA shM 15 A ad r σ') 0 0 A := by
  refine mw_enter (own := RX4) (by decide) rfl (Nat.le_of_ble_eq_true rfl) ?_
  intro p e s m args below meth c ls hC hr hlocks hK hA hX hG hS hl
  obtain ⟨hx, hb, hml, hown, hts⟩ := id hC
  have K33 : ∀ (n33 : Nat) (x1 : Int32) (x2 : Int32) (σ : pw_S), fX4_create_33 n33 x1 x2 σ = some (r, σ') → mw_K p l e ({ frames := 0, cells := 0, slots := 0, locals := 0 }) s m args below meth c (MQ below (pw_Qi D cA shM 15 A ad r σ') args s 0 0 A) A D cA shM 15 ad 3 33 0 0 [(0, .ref (ad 0)), (1, .int (x1)), (2, .int (x2))] [] σ := by
    intro n33
    induction n33 with
    | zero => intro x1 x2 σ hf; cases hf
    | succ n33 ih33 =>
      intro x1 x2 σ hf H locs ls hG hS hl
      have hf : fX4_create_33_b (fX4_create_33 n33) x1 x2 σ = some (r, σ') := hf
      unfold fX4_create_33_b at hf
      refine lv_iload_n hx hb dX4_create_33 rfl (lv_at hl 2 rfl) ?_
      refine lv_iconst (v := 4) hx hb dX4_create_34 (by decide) ?_
      refine lv_icmp_ge (tgt := 55) hx hb dX4_create_35 (by decide) (fun c3 => ?_) (fun c3 => ?_)
      · have hf := it_pos c3 hf
        refine lv_iload_n hx hb dX4_create_55 rfl (lv_at hl 1 rfl) ?_
        exact mr_i hC hr hlocks hG hS hf (Nat.le_of_ble_eq_true rfl) (Nat.le_of_ble_eq_true rfl) dX4_create_56
      · have hf := it_neg c3 hf
        refine lv_aload_n hx hb dX4_create_38 rfl (lv_at hl 0 rfl) ?_
        refine mw_getl hx hb hts hown hK hG inlX4 rfl (hG.fix (by decide)) rfl 11 (by decide) 7 rfl wA_61 dX4_create_39 ?_
        refine lv_iconst (v := 4) hx hb dX4_create_42 (by decide) ?_
        refine lv_iload_n hx hb dX4_create_43 rfl (lv_at hl 1 rfl) ?_
        refine lv_imul hx hb dX4_create_44 ?_
        refine lv_iload_n hx hb dX4_create_45 rfl (lv_at hl 2 rfl) ?_
        refine lv_iadd hx hb dX4_create_46 ?_
        refine lv_iconst (v := 0) hx hb dX4_create_47 (by decide) ?_
        obtain ⟨h4, hf⟩ := ck_some hf
        refine mw_iast hx hb hK hG hS (hG.fix (by decide)) rfl (inb_in h4) dX4_create_48 (fun H locs hG hS => ?_)
        obtain ⟨σ5, e6, hf⟩ := ld_some hf
        rw [← e6] at hG
        clear e6
        refine lv_iinc (v := x2 + 1) (lv' := [(2, .int (x2 + 1)), (0, .ref (ad 0)), (1, .int (x1))]) hx hb dX4_create_49 hl (k := 2) rfl rfl (by decide) rfl (fun ls hl => ?_)
        refine lv_goto (tgt := 33) hx hb dX4_create_52 (by decide) ?_
        exact ih33 _ _ _ hf _ _ _ hG hS (lv_sub hl [1, 2, 0] rfl)
  have K2 : ∀ (n2 : Nat) (x1 : Int32) (σ : pw_S), fX4_create_2 n2 x1 σ = some (r, σ') → mw_K p l e ({ frames := 0, cells := 0, slots := 0, locals := 0 }) s m args below meth c (MQ below (pw_Qi D cA shM 15 A ad r σ') args s 0 0 A) A D cA shM 15 ad 3 2 0 0 [(0, .ref (ad 0)), (1, .int (x1))] [] σ := by
    intro n2
    induction n2 with
    | zero => intro x1 σ hf; cases hf
    | succ n2 ih2 =>
      intro x1 σ hf H locs ls hG hS hl
      have hf : fX4_create_2_b (fX4_create_2 n2) x1 σ = some (r, σ') := hf
      unfold fX4_create_2_b at hf
      refine lv_aload_n hx hb dX4_create_2 rfl (lv_at hl 0 rfl) ?_
      refine mw_getl hx hb hts hown hK hG inlX4 rfl (hG.fix (by decide)) rfl 9 (by decide) 5 rfl wA_59 dX4_create_3 ?_
      refine lv_iload_n hx hb dX4_create_6 rfl (lv_at hl 1 rfl) ?_
      obtain ⟨h7, hf⟩ := ck_some hf
      refine mw_zald hx hb hK hG (hG.fix (by decide)) rfl (inb_in h7) dX4_create_7 ?_
      refine lv_if_eq (tgt := 17) hx hb dX4_create_8 (by decide) (fun c8 => ?_) (fun c8 => ?_)
      · have hf := it_pos c8 hf
        refine lv_aload_n hx hb dX4_create_17 rfl (lv_at hl 0 rfl) ?_
        refine mw_getl hx hb hts hown hK hG inlX4 rfl (hG.fix (by decide)) rfl 9 (by decide) 5 rfl wA_59 dX4_create_18 ?_
        refine lv_iload_n hx hb dX4_create_21 rfl (lv_at hl 1 rfl) ?_
        refine lv_iconst (v := 1) hx hb dX4_create_22 (by decide) ?_
        obtain ⟨h9, hf⟩ := ck_some hf
        refine mw_zast hx hb hK hG hS (hG.fix (by decide)) rfl rfl (inb_in h9) dX4_create_23 (fun H locs hG hS => ?_)
        obtain ⟨σ10, e11, hf⟩ := ld_some hf
        rw [← e11] at hG
        clear e11
        refine lv_aload_n hx hb dX4_create_24 rfl (lv_at hl 0 rfl) ?_
        refine mw_getl hx hb hts hown hK hG inlX4 rfl (hG.fix (by decide)) rfl 10 (by decide) 6 rfl wA_60 dX4_create_25 ?_
        refine lv_iload_n hx hb dX4_create_28 rfl (lv_at hl 1 rfl) ?_
        refine lv_iconst (v := 0) hx hb dX4_create_29 (by decide) ?_
        obtain ⟨h12, hf⟩ := ck_some hf
        refine mw_zast hx hb hK hG hS (hG.fix (by decide)) rfl rfl (inb_in h12) dX4_create_30 (fun H locs hG hS => ?_)
        obtain ⟨σ13, e14, hf⟩ := ld_some hf
        rw [← e14] at hG
        clear e14
        refine lv_iconst (v := 0) hx hb dX4_create_31 (by decide) ?_
        refine lv_istore_n (lv' := [(2, .int (0)), (0, .ref (ad 0)), (1, .int (x1))]) hx hb dX4_create_32 rfl hl (by decide) rfl (fun ls hl => ?_)
        exact K33 1000 _ _ _ hf _ _ _ hG hS (lv_sub hl [1, 2, 0] rfl)
      · have hf := it_neg c8 hf
        refine lv_iinc (v := x1 + 1) (lv' := [(1, .int (x1 + 1)), (0, .ref (ad 0))]) hx hb dX4_create_11 hl (k := 1) rfl rfl (by decide) rfl (fun ls hl => ?_)
        refine lv_goto (tgt := 2) hx hb dX4_create_14 (by decide) ?_
        exact ih2 _ _ hf _ _ _ hG hS (lv_sub hl [1, 0] rfl)
  have hl : lv_has ls 3 [(0, .ref (ad 0))] := hl
  unfold fX4_create at hf
  refine lv_iconst (v := 0) hx hb dX4_create_0 (by decide) ?_
  refine lv_istore_n (lv' := [(1, .int (0)), (0, .ref (ad 0))]) hx hb dX4_create_1 rfl hl (by decide) rfl (fun ls hl => ?_)
  exact K2 1000 _ _ hf _ _ _ hG hS (lv_sub hl [1, 0] rfl)
def fX4_at (a0 : Int32) (a1 : Int32) (σ : pw_S) : Option (Int32 × pw_S) := some (((16 * a0) + a1), σ)
set_option maxHeartbeats 4000000 in
set_option maxRecDepth 100000 in
theorem kX4_at (l : Launch) (D : va_G) (cA : Nat → ClassId) (A : Nat → Prop) (ad : Nat → Nat) {σ σ' : pw_S} {r : Int32} {a0 : Int32} {a1 : Int32} (hf : fX4_at a0 a1 σ = some (r, σ')) : Met l yX4_at (wA yX4_at cX4_at 2 (some .int)) ({ frames := 0, cells := 0, slots := 0, locals := 0 }) (pw_Pc D cA shM 15 A ad σ [.int (a0), .int (a1)]) (pw_Qi D cA shM 15 A ad r σ') 0 0 A := by
  refine mw_enter (own := RX4) (by decide) rfl (Nat.le_of_ble_eq_true rfl) ?_
  intro p e s m args below meth c ls hC hr hlocks hK hA hX hG hS hl
  obtain ⟨hx, hb, hml, hown, hts⟩ := id hC
  have hl : lv_has ls 2 [(0, .int (a0)), (1, .int (a1))] := hl
  unfold fX4_at at hf
  refine lv_bipush (v := 16) hx hb dX4_at_0 (by decide) ?_
  refine lv_iload_n hx hb dX4_at_2 rfl (lv_at hl 0 rfl) ?_
  refine lv_imul hx hb dX4_at_3 ?_
  refine lv_iload_n hx hb dX4_at_4 rfl (lv_at hl 1 rfl) ?_
  refine lv_iadd hx hb dX4_at_5 ?_
  exact mr_i hC hr hlocks hG hS hf (Nat.le_of_ble_eq_true rfl) (Nat.le_of_ble_eq_true rfl) dX4_at_6
def fX4_references_40 (bk4 : Int32 → Int32 → Int32 → pw_S → Option (Int32 × pw_S)) (x1 : Int32) (x3 : Int32) (y0 : Int32) (y1 : Int32) (σ : pw_S) : Option (Int32 × pw_S) := bk4 x1 ((y1 + y0)) (x3 + 1) σ
def fX4_references_39 (bk4 : Int32 → Int32 → Int32 → pw_S → Option (Int32 × pw_S)) (x1 : Int32) (x3 : Int32) (y0 : Int32) (σ : pw_S) : Option (Int32 × pw_S) := fX4_references_40 bk4 x1 x3 0 y0 σ
def fX4_references_4_b (bk4 : Int32 → Int32 → Int32 → pw_S → Option (Int32 × pw_S)) (x1 : Int32) (x2 : Int32) (x3 : Int32) (σ : pw_S) : Option (Int32 × pw_S) := (if (16 * (gi σ 0 12)) ≤ x3 then some (x2, σ) else ck (inb (x3) (160)) ((if (gi σ 9 (Int32.toNatClampNeg (x3))) ≤ 0 then fX4_references_39 bk4 x1 x3 x2 σ else ck (inb (x3) (160)) ((if (gi σ 10 (Int32.toNatClampNeg (x3))) = x1 then fX4_references_40 bk4 x1 x3 1 x2 σ else fX4_references_39 bk4 x1 x3 x2 σ)))))
def fX4_references_4 : Nat → Int32 → Int32 → Int32 → pw_S → Option (Int32 × pw_S)
  | 0, _, _, _, _ => none
  | n + 1, x1, x2, x3, σ => fX4_references_4_b (fX4_references_4 n) x1 x2 x3 σ
def fX4_references (a1 : Int32) (σ : pw_S) : Option (Int32 × pw_S) := fX4_references_4 1000 a1 0 0 σ
set_option maxHeartbeats 4000000 in
set_option maxRecDepth 100000 in
theorem kX4_references (l : Launch) (D : va_G) (cA : Nat → ClassId) (A : Nat → Prop) (ad : Nat → Nat) {σ σ' : pw_S} {r : Int32} {a1 : Int32} (hf : fX4_references a1 σ = some (r, σ')) : Met l yX4_references (wA yX4_references cX4_references 4 (some .int)) ({ frames := 0, cells := 0, slots := 0, locals := 0 }) (pw_Pc D cA shM 15 A ad σ [.ref (ad 0), .int (a1)]) (pw_Qi D cA shM 15 A ad r σ') 0 0 A := by
  refine mw_enter (own := RX4) (by decide) rfl (Nat.le_of_ble_eq_true rfl) ?_
  intro p e s m args below meth c ls hC hr hlocks hK hA hX hG hS hl
  obtain ⟨hx, hb, hml, hown, hts⟩ := id hC
  have K4 : ∀ (n4 : Nat) (x1 : Int32) (x2 : Int32) (x3 : Int32) (σ : pw_S), fX4_references_4 n4 x1 x2 x3 σ = some (r, σ') → mw_K p l e ({ frames := 0, cells := 0, slots := 0, locals := 0 }) s m args below meth c (MQ below (pw_Qi D cA shM 15 A ad r σ') args s 0 0 A) A D cA shM 15 ad 4 4 0 0 [(0, .ref (ad 0)), (1, .int (x1)), (2, .int (x2)), (3, .int (x3))] [] σ := by
    intro n4
    induction n4 with
    | zero => intro x1 x2 x3 σ hf; cases hf
    | succ n4 ih4 =>
      have K40 : ∀ (x1 : Int32) (x3 : Int32) (y0 : Int32) (y1 : Int32) (σ : pw_S), fX4_references_40 (fX4_references_4 n4) x1 x3 y0 y1 σ = some (r, σ') → mw_K p l e ({ frames := 0, cells := 0, slots := 0, locals := 0 }) s m args below meth c (MQ below (pw_Qi D cA shM 15 A ad r σ') args s 0 0 A) A D cA shM 15 ad 4 40 0 0 [(0, .ref (ad 0)), (1, .int (x1)), (3, .int (x3))] [.int (y0), .int (y1)] σ := by
        intro x1 x3 y0 y1 σ hf H locs ls hG hS hl
        unfold fX4_references_40 at hf
        refine lv_iadd hx hb dX4_references_40 ?_
        refine lv_istore_n (lv' := [(2, .int ((y1 + y0))), (0, .ref (ad 0)), (1, .int (x1)), (3, .int (x3))]) hx hb dX4_references_41 rfl hl (by decide) rfl (fun ls hl => ?_)
        refine lv_iinc (v := x3 + 1) (lv' := [(3, .int (x3 + 1)), (2, .int ((y1 + y0))), (0, .ref (ad 0)), (1, .int (x1))]) hx hb dX4_references_42 hl (k := 3) rfl rfl (by decide) rfl (fun ls hl => ?_)
        refine lv_goto (tgt := 4) hx hb dX4_references_45 (by decide) ?_
        exact ih4 _ _ _ _ hf _ _ _ hG hS (lv_sub hl [2, 3, 1, 0] rfl)
      have K39 : ∀ (x1 : Int32) (x3 : Int32) (y0 : Int32) (σ : pw_S), fX4_references_39 (fX4_references_4 n4) x1 x3 y0 σ = some (r, σ') → mw_K p l e ({ frames := 0, cells := 0, slots := 0, locals := 0 }) s m args below meth c (MQ below (pw_Qi D cA shM 15 A ad r σ') args s 0 0 A) A D cA shM 15 ad 4 39 0 0 [(0, .ref (ad 0)), (1, .int (x1)), (3, .int (x3))] [.int (y0)] σ := by
        intro x1 x3 y0 σ hf H locs ls hG hS hl
        unfold fX4_references_39 at hf
        refine lv_iconst (v := 0) hx hb dX4_references_39 (by decide) ?_
        exact K40 _ _ _ _ _ hf _ _ _ hG hS (lv_sub hl [0, 1, 2] rfl)
      intro x1 x2 x3 σ hf H locs ls hG hS hl
      have hf : fX4_references_4_b (fX4_references_4 n4) x1 x2 x3 σ = some (r, σ') := hf
      unfold fX4_references_4_b at hf
      refine lv_iload_n hx hb dX4_references_4 rfl (lv_at hl 3 rfl) ?_
      refine lv_bipush (v := 16) hx hb dX4_references_5 (by decide) ?_
      refine lv_aload_n hx hb dX4_references_7 rfl (lv_at hl 0 rfl) ?_
      refine mw_geti hx hb hts hown hK hG inlX4 rfl (hG.fix (by decide)) rfl 12 (by decide) rfl wA_137 dX4_references_8 ?_
      refine lv_imul hx hb dX4_references_11 ?_
      refine lv_icmp_ge (tgt := 48) hx hb dX4_references_12 (by decide) (fun c4 => ?_) (fun c4 => ?_)
      · have hf := it_pos c4 hf
        refine lv_iload_n hx hb dX4_references_48 rfl (lv_at hl 2 rfl) ?_
        exact mr_i hC hr hlocks hG hS hf (Nat.le_of_ble_eq_true rfl) (Nat.le_of_ble_eq_true rfl) dX4_references_49
      · have hf := it_neg c4 hf
        refine lv_iload_n hx hb dX4_references_15 rfl (lv_at hl 2 rfl) ?_
        refine lv_aload_n hx hb dX4_references_16 rfl (lv_at hl 0 rfl) ?_
        refine mw_getl hx hb hts hown hK hG inlX4 rfl (hG.fix (by decide)) rfl 14 (by decide) 9 rfl wA_63 dX4_references_17 ?_
        refine lv_iload_n hx hb dX4_references_20 rfl (lv_at hl 3 rfl) ?_
        obtain ⟨h5, hf⟩ := ck_some hf
        refine mw_iald hx hb hK hG (hG.fix (by decide)) rfl (inb_in h5) dX4_references_21 ?_
        refine lv_if_le (tgt := 39) hx hb dX4_references_22 (by decide) (fun c6 => ?_) (fun c6 => ?_)
        · have hf := it_pos c6 hf
          exact K39 _ _ _ _ hf _ _ _ hG hS (lv_sub hl [0, 1, 3] rfl)
        · have hf := it_neg c6 hf
          refine lv_aload_n hx hb dX4_references_25 rfl (lv_at hl 0 rfl) ?_
          refine mw_getl hx hb hts hown hK hG inlX4 rfl (hG.fix (by decide)) rfl 15 (by decide) 10 rfl wA_64 dX4_references_26 ?_
          refine lv_iload_n hx hb dX4_references_29 rfl (lv_at hl 3 rfl) ?_
          obtain ⟨h7, hf⟩ := ck_some hf
          refine mw_iald hx hb hK hG (hG.fix (by decide)) rfl (inb_in h7) dX4_references_30 ?_
          refine lv_iload_n hx hb dX4_references_31 rfl (lv_at hl 1 rfl) ?_
          refine lv_icmp_ne (tgt := 39) hx hb dX4_references_32 (by decide) (fun c8 => ?_) (fun c8 => ?_)
          · have hf := it_neg c8 hf
            exact K39 _ _ _ _ hf _ _ _ hG hS (lv_sub hl [0, 1, 3] rfl)
          · have hf := it_pos c8 hf
            refine lv_iconst (v := 1) hx hb dX4_references_35 (by decide) ?_
            refine lv_goto (tgt := 40) hx hb dX4_references_36 (by decide) ?_
            exact K40 _ _ _ _ _ hf _ _ _ hG hS (lv_sub hl [0, 1, 3] rfl)
  have hl : lv_has ls 4 [(0, .ref (ad 0)), (1, .int (a1))] := hl
  unfold fX4_references at hf
  refine lv_iconst (v := 0) hx hb dX4_references_0 (by decide) ?_
  refine lv_istore_n (lv' := [(2, .int (0)), (0, .ref (ad 0)), (1, .int (a1))]) hx hb dX4_references_1 rfl hl (by decide) rfl (fun ls hl => ?_)
  refine lv_iconst (v := 0) hx hb dX4_references_2 (by decide) ?_
  refine lv_istore_n (lv' := [(3, .int (0)), (2, .int (0)), (0, .ref (ad 0)), (1, .int (a1))]) hx hb dX4_references_3 rfl hl (by decide) rfl (fun ls hl => ?_)
  exact K4 1000 _ _ _ _ hf _ _ _ hG hS (lv_sub hl [2, 3, 1, 0] rfl)
def fX4_segmentPlace_12_b (bk2 : Int32 → Int32 → pw_S → Option (Int32 × pw_S)) (bk12 : Int32 → Int32 → Int32 → pw_S → Option (Int32 × pw_S)) (x1 : Int32) (x2 : Int32) (x3 : Int32) (σ : pw_S) : Option (Int32 × pw_S) := ck (inb (x2) (4)) ((if (gi σ 11 (Int32.toNatClampNeg (x2))) ≤ x3 then bk2 x1 (x2 + 1) σ else ck (inb (((6 * x2) + x3)) (24)) ((if (gi σ 12 (Int32.toNatClampNeg (((6 * x2) + x3)))) = x1 then some (((6 * x2) + x3), σ) else bk12 x1 x2 (x3 + 1) σ))))
def fX4_segmentPlace_12 (bk2 : Int32 → Int32 → pw_S → Option (Int32 × pw_S)) : Nat → Int32 → Int32 → Int32 → pw_S → Option (Int32 × pw_S)
  | 0, _, _, _, _ => none
  | n + 1, x1, x2, x3, σ => fX4_segmentPlace_12_b bk2 (fX4_segmentPlace_12 bk2 n) x1 x2 x3 σ
def fX4_segmentPlace_2_b (bk2 : Int32 → Int32 → pw_S → Option (Int32 × pw_S)) (x1 : Int32) (x2 : Int32) (σ : pw_S) : Option (Int32 × pw_S) := (if (gi σ 0 16) ≤ x2 then some ((-1), σ) else fX4_segmentPlace_12 bk2 1000 x1 x2 0 σ)
def fX4_segmentPlace_2 : Nat → Int32 → Int32 → pw_S → Option (Int32 × pw_S)
  | 0, _, _, _ => none
  | n + 1, x1, x2, σ => fX4_segmentPlace_2_b (fX4_segmentPlace_2 n) x1 x2 σ
def fX4_segmentPlace (a1 : Int32) (σ : pw_S) : Option (Int32 × pw_S) := fX4_segmentPlace_2 1000 a1 0 σ
set_option maxHeartbeats 4000000 in
set_option maxRecDepth 100000 in
theorem kX4_segmentPlace (l : Launch) (D : va_G) (cA : Nat → ClassId) (A : Nat → Prop) (ad : Nat → Nat) {σ σ' : pw_S} {r : Int32} {a1 : Int32} (hf : fX4_segmentPlace a1 σ = some (r, σ')) : Met l yX4_segmentPlace (wA yX4_segmentPlace cX4_segmentPlace 4 (some .int)) ({ frames := 0, cells := 0, slots := 0, locals := 0 }) (pw_Pc D cA shM 15 A ad σ [.ref (ad 0), .int (a1)]) (pw_Qi D cA shM 15 A ad r σ') 0 0 A := by
  refine mw_enter (own := RX4) (by decide) rfl (Nat.le_of_ble_eq_true rfl) ?_
  intro p e s m args below meth c ls hC hr hlocks hK hA hX hG hS hl
  obtain ⟨hx, hb, hml, hown, hts⟩ := id hC
  have K2 : ∀ (n2 : Nat) (x1 : Int32) (x2 : Int32) (σ : pw_S), fX4_segmentPlace_2 n2 x1 x2 σ = some (r, σ') → mw_K p l e ({ frames := 0, cells := 0, slots := 0, locals := 0 }) s m args below meth c (MQ below (pw_Qi D cA shM 15 A ad r σ') args s 0 0 A) A D cA shM 15 ad 4 2 0 0 [(0, .ref (ad 0)), (1, .int (x1)), (2, .int (x2))] [] σ := by
    intro n2
    induction n2 with
    | zero => intro x1 x2 σ hf; cases hf
    | succ n2 ih2 =>
      have K12 : ∀ (n12 : Nat) (x1 : Int32) (x2 : Int32) (x3 : Int32) (σ : pw_S), fX4_segmentPlace_12 (fX4_segmentPlace_2 n2) n12 x1 x2 x3 σ = some (r, σ') → mw_K p l e ({ frames := 0, cells := 0, slots := 0, locals := 0 }) s m args below meth c (MQ below (pw_Qi D cA shM 15 A ad r σ') args s 0 0 A) A D cA shM 15 ad 4 12 0 0 [(0, .ref (ad 0)), (1, .int (x1)), (2, .int (x2)), (3, .int (x3))] [] σ := by
        intro n12
        induction n12 with
        | zero => intro x1 x2 x3 σ hf; cases hf
        | succ n12 ih12 =>
          intro x1 x2 x3 σ hf H locs ls hG hS hl
          have hf : fX4_segmentPlace_12_b (fX4_segmentPlace_2 n2) (fX4_segmentPlace_12 (fX4_segmentPlace_2 n2) n12) x1 x2 x3 σ = some (r, σ') := hf
          unfold fX4_segmentPlace_12_b at hf
          refine lv_iload_n hx hb dX4_segmentPlace_12 rfl (lv_at hl 3 rfl) ?_
          refine lv_aload_n hx hb dX4_segmentPlace_13 rfl (lv_at hl 0 rfl) ?_
          refine mw_getl hx hb hts hown hK hG inlX4 rfl (hG.fix (by decide)) rfl 17 (by decide) 11 rfl wA_65 dX4_segmentPlace_14 ?_
          refine lv_iload_n hx hb dX4_segmentPlace_17 rfl (lv_at hl 2 rfl) ?_
          obtain ⟨h4, hf⟩ := ck_some hf
          refine mw_iald hx hb hK hG (hG.fix (by decide)) rfl (inb_in h4) dX4_segmentPlace_18 ?_
          refine lv_icmp_ge (tgt := 50) hx hb dX4_segmentPlace_19 (by decide) (fun c5 => ?_) (fun c5 => ?_)
          · have hf := it_pos c5 hf
            refine lv_iinc (v := x2 + 1) (lv' := [(2, .int (x2 + 1)), (0, .ref (ad 0)), (1, .int (x1)), (3, .int (x3))]) hx hb dX4_segmentPlace_50 hl (k := 2) rfl rfl (by decide) rfl (fun ls hl => ?_)
            refine lv_goto (tgt := 2) hx hb dX4_segmentPlace_53 (by decide) ?_
            exact ih2 _ _ _ hf _ _ _ hG hS (lv_sub hl [1, 2, 0] rfl)
          · have hf := it_neg c5 hf
            refine lv_aload_n hx hb dX4_segmentPlace_22 rfl (lv_at hl 0 rfl) ?_
            refine mw_getl hx hb hts hown hK hG inlX4 rfl (hG.fix (by decide)) rfl 18 (by decide) 12 rfl wA_66 dX4_segmentPlace_23 ?_
            refine lv_bipush (v := 6) hx hb dX4_segmentPlace_26 (by decide) ?_
            refine lv_iload_n hx hb dX4_segmentPlace_28 rfl (lv_at hl 2 rfl) ?_
            refine lv_imul hx hb dX4_segmentPlace_29 ?_
            refine lv_iload_n hx hb dX4_segmentPlace_30 rfl (lv_at hl 3 rfl) ?_
            refine lv_iadd hx hb dX4_segmentPlace_31 ?_
            obtain ⟨h6, hf⟩ := ck_some hf
            refine mw_iald hx hb hK hG (hG.fix (by decide)) rfl (inb_in h6) dX4_segmentPlace_32 ?_
            refine lv_iload_n hx hb dX4_segmentPlace_33 rfl (lv_at hl 1 rfl) ?_
            refine lv_icmp_ne (tgt := 44) hx hb dX4_segmentPlace_34 (by decide) (fun c7 => ?_) (fun c7 => ?_)
            · have hf := it_neg c7 hf
              refine lv_iinc (v := x3 + 1) (lv' := [(3, .int (x3 + 1)), (0, .ref (ad 0)), (1, .int (x1)), (2, .int (x2))]) hx hb dX4_segmentPlace_44 hl (k := 3) rfl rfl (by decide) rfl (fun ls hl => ?_)
              refine lv_goto (tgt := 12) hx hb dX4_segmentPlace_47 (by decide) ?_
              exact ih12 _ _ _ _ hf _ _ _ hG hS (lv_sub hl [1, 2, 3, 0] rfl)
            · have hf := it_pos c7 hf
              refine lv_bipush (v := 6) hx hb dX4_segmentPlace_37 (by decide) ?_
              refine lv_iload_n hx hb dX4_segmentPlace_39 rfl (lv_at hl 2 rfl) ?_
              refine lv_imul hx hb dX4_segmentPlace_40 ?_
              refine lv_iload_n hx hb dX4_segmentPlace_41 rfl (lv_at hl 3 rfl) ?_
              refine lv_iadd hx hb dX4_segmentPlace_42 ?_
              exact mr_i hC hr hlocks hG hS hf (Nat.le_of_ble_eq_true rfl) (Nat.le_of_ble_eq_true rfl) dX4_segmentPlace_43
      intro x1 x2 σ hf H locs ls hG hS hl
      have hf : fX4_segmentPlace_2_b (fX4_segmentPlace_2 n2) x1 x2 σ = some (r, σ') := hf
      unfold fX4_segmentPlace_2_b at hf
      refine lv_iload_n hx hb dX4_segmentPlace_2 rfl (lv_at hl 2 rfl) ?_
      refine lv_aload_n hx hb dX4_segmentPlace_3 rfl (lv_at hl 0 rfl) ?_
      refine mw_geti hx hb hts hown hK hG inlX4 rfl (hG.fix (by decide)) rfl 16 (by decide) rfl wA_226 dX4_segmentPlace_4 ?_
      refine lv_icmp_ge (tgt := 56) hx hb dX4_segmentPlace_7 (by decide) (fun c8 => ?_) (fun c8 => ?_)
      · have hf := it_pos c8 hf
        refine lv_iconst (v := (-1)) hx hb dX4_segmentPlace_56 (by decide) ?_
        exact mr_i hC hr hlocks hG hS hf (Nat.le_of_ble_eq_true rfl) (Nat.le_of_ble_eq_true rfl) dX4_segmentPlace_57
      · have hf := it_neg c8 hf
        refine lv_iconst (v := 0) hx hb dX4_segmentPlace_10 (by decide) ?_
        refine lv_istore_n (lv' := [(3, .int (0)), (0, .ref (ad 0)), (1, .int (x1)), (2, .int (x2))]) hx hb dX4_segmentPlace_11 rfl hl (by decide) rfl (fun ls hl => ?_)
        exact K12 1000 _ _ _ _ hf _ _ _ hG hS (lv_sub hl [1, 2, 3, 0] rfl)
  have hl : lv_has ls 4 [(0, .ref (ad 0)), (1, .int (a1))] := hl
  unfold fX4_segmentPlace at hf
  refine lv_iconst (v := 0) hx hb dX4_segmentPlace_0 (by decide) ?_
  refine lv_istore_n (lv' := [(2, .int (0)), (0, .ref (ad 0)), (1, .int (a1))]) hx hb dX4_segmentPlace_1 rfl hl (by decide) rfl (fun ls hl => ?_)
  exact K2 1000 _ _ _ hf _ _ _ hG hS (lv_sub hl [1, 2, 0] rfl)
def fX4_isInSegment_14 (y0 : Int32) (σ : pw_S) : Option (Int32 × pw_S) := ck (isB (y0)) (some (y0, σ))
def fX4_isInSegment (a1 : Int32) (σ : pw_S) : Option (Int32 × pw_S) := bnd (fX4_segmentPlace a1 σ) (fun r3 σ4 => (if r3 = (-1) then fX4_isInSegment_14 0 σ4 else fX4_isInSegment_14 1 σ4))
set_option maxHeartbeats 4000000 in
set_option maxRecDepth 100000 in
theorem kX4_isInSegment (l : Launch) (D : va_G) (cA : Nat → ClassId) (A : Nat → Prop) (ad : Nat → Nat) {σ σ' : pw_S} {r : Int32} {a1 : Int32} (hf : fX4_isInSegment a1 σ = some (r, σ')) : Met l yX4_isInSegment (wA yX4_isInSegment cX4_isInSegment 2 (some .boolean)) ({ frames := 1, cells := 0, slots := 0, locals := 23 }) (pw_Pc D cA shM 15 A ad σ [.ref (ad 0), .int (a1)]) (pw_Qi D cA shM 15 A ad r σ') 0 0 A := by
  refine mw_enter (own := RX4) (by decide) rfl (Nat.le_of_ble_eq_true rfl) ?_
  intro p e s m args below meth c ls hC hr hlocks hK hA hX hG hS hl
  obtain ⟨hx, hb, hml, hown, hts⟩ := id hC
  have K14 : ∀ (y0 : Int32) (σ : pw_S), fX4_isInSegment_14 y0 σ = some (r, σ') → mw_K p l e ({ frames := 1, cells := 0, slots := 0, locals := 23 }) s m args below meth c (MQ below (pw_Qi D cA shM 15 A ad r σ') args s 0 0 A) A D cA shM 15 ad 2 14 0 0 [] [.int (y0)] σ := by
    intro y0 σ hf H locs ls hG hS hl
    unfold fX4_isInSegment_14 at hf
    obtain ⟨h2, hf⟩ := ck_some hf
    exact mr_z hC hr hlocks hG hS (isB_or h2) hf (Nat.le_of_ble_eq_true rfl) (Nat.le_of_ble_eq_true rfl) dX4_isInSegment_14
  have hl : lv_has ls 2 [(0, .ref (ad 0)), (1, .int (a1))] := hl
  unfold fX4_isInSegment at hf
  refine lv_aload_n hx hb dX4_isInSegment_0 rfl (lv_at hl 0 rfl) ?_
  refine lv_iload_n hx hb dX4_isInSegment_1 rfl (lv_at hl 1 rfl) ?_
  obtain ⟨r3, σ4, hc5, hf⟩ := bnd_some hf
  refine mc_i (mc_V (As := [.int (a1)]) hC hK hA hX hG hS (kX4_segmentPlace l D cA A ad hc5) ykX4_segmentPlace wA_222 wA_223 wA_224 (hG.fix (by decide)) rfl rfl ⟨rfl, rfl, Nat.le_of_ble_eq_true rfl, Nat.le_of_ble_eq_true rfl⟩ rfl hl.1 rfl (Nat.le_of_ble_eq_true rfl) dX4_isInSegment_2 ⟨Nat.le_of_ble_eq_true rfl, Nat.le_of_ble_eq_true rfl⟩) hS (fun H locs hG hS => ?_)
  refine lv_iconst (v := (-1)) hx hb dX4_isInSegment_5 (by decide) ?_
  refine lv_icmp_eq (tgt := 13) hx hb dX4_isInSegment_6 (by decide) (fun c6 => ?_) (fun c6 => ?_)
  · have hf := it_pos c6 hf
    refine lv_iconst (v := 0) hx hb dX4_isInSegment_13 (by decide) ?_
    exact K14 _ _ hf _ _ _ hG hS (lv_sub hl [] rfl)
  · have hf := it_neg c6 hf
    refine lv_iconst (v := 1) hx hb dX4_isInSegment_9 (by decide) ?_
    refine lv_goto (tgt := 14) hx hb dX4_isInSegment_10 (by decide) ?_
    exact K14 _ _ hf _ _ _ hG hS (lv_sub hl [] rfl)
def fX4_vanishes_54 (x1 : Int32) (σ : pw_S) : Option (Int32 × pw_S) := ck (inb (x1) (200)) (ld (si σ 5 (Int32.toNatClampNeg (x1)) (0)) (fun σ6 => some (1, σ6)))
def fX4_vanishes_36 (x1 : Int32) (σ : pw_S) : Option (Int32 × pw_S) := bnd (fX4_slotWith x1 σ) (fun r8 σ9 => (if r8 = (-1) then fX4_vanishes_54 x1 σ9 else ck (inb (r8) (24)) (ld (si σ9 4 (Int32.toNatClampNeg (r8)) ((-1))) (fun σ13 => fX4_vanishes_54 x1 σ13))))
def fX4_vanishes_16 (σ : pw_S) : Option (Int32 × pw_S) := some (0, σ)
def fX4_vanishes (a1 : Int32) (σ : pw_S) : Option (Int32 × pw_S) := bnd (fX4_references a1 σ) (fun r15 σ16 => (if 0 < r15 then fX4_vanishes_16 σ16 else bnd (fX4_isInSegment a1 σ16) (fun r19 σ20 => (if r19 = 0 then bnd (fX4_frameWith a1 σ20) (fun r23 σ24 => (if r23 = (-1) then fX4_vanishes_36 a1 σ24 else ck (inb (r23) (12)) (ld (si σ24 1 (Int32.toNatClampNeg (r23)) ((-1))) (fun σ28 => fX4_vanishes_36 a1 σ28)))) else fX4_vanishes_16 σ20))))
set_option maxHeartbeats 4000000 in
set_option maxRecDepth 100000 in
theorem kX4_vanishes (l : Launch) (D : va_G) (cA : Nat → ClassId) (A : Nat → Prop) (ad : Nat → Nat) {σ σ' : pw_S} {r : Int32} {a1 : Int32} (hf : fX4_vanishes a1 σ = some (r, σ')) : Met l yX4_vanishes (wA yX4_vanishes cX4_vanishes 4 (some .boolean)) ({ frames := 2, cells := 0, slots := 0, locals := 44 }) (pw_Pc D cA shM 15 A ad σ [.ref (ad 0), .int (a1)]) (pw_Qi D cA shM 15 A ad r σ') 0 0 A := by
  refine mw_enter (own := RX4) (by decide) rfl (Nat.le_of_ble_eq_true rfl) ?_
  intro p e s m args below meth c ls hC hr hlocks hK hA hX hG hS hl
  obtain ⟨hx, hb, hml, hown, hts⟩ := id hC
  have K54 : ∀ (x1 : Int32) (σ : pw_S), fX4_vanishes_54 x1 σ = some (r, σ') → mw_K p l e ({ frames := 2, cells := 0, slots := 0, locals := 44 }) s m args below meth c (MQ below (pw_Qi D cA shM 15 A ad r σ') args s 0 0 A) A D cA shM 15 ad 4 54 0 0 [(0, .ref (ad 0)), (1, .int (x1))] [] σ := by
    intro x1 σ hf H locs ls hG hS hl
    unfold fX4_vanishes_54 at hf
    refine lv_aload_n hx hb dX4_vanishes_54 rfl (lv_at hl 0 rfl) ?_
    refine mw_getl hx hb hts hown hK hG inlX4 rfl (hG.fix (by decide)) rfl 9 (by decide) 5 rfl wA_59 dX4_vanishes_55 ?_
    refine lv_iload_n hx hb dX4_vanishes_58 rfl (lv_at hl 1 rfl) ?_
    refine lv_iconst (v := 0) hx hb dX4_vanishes_59 (by decide) ?_
    obtain ⟨h5, hf⟩ := ck_some hf
    refine mw_zast hx hb hK hG hS (hG.fix (by decide)) rfl rfl (inb_in h5) dX4_vanishes_60 (fun H locs hG hS => ?_)
    obtain ⟨σ6, e7, hf⟩ := ld_some hf
    rw [← e7] at hG
    clear e7
    refine lv_iconst (v := 1) hx hb dX4_vanishes_61 (by decide) ?_
    exact mr_z hC hr hlocks hG hS (by decide) hf (Nat.le_of_ble_eq_true rfl) (Nat.le_of_ble_eq_true rfl) dX4_vanishes_62
  have K36 : ∀ (x1 : Int32) (σ : pw_S), fX4_vanishes_36 x1 σ = some (r, σ') → mw_K p l e ({ frames := 2, cells := 0, slots := 0, locals := 44 }) s m args below meth c (MQ below (pw_Qi D cA shM 15 A ad r σ') args s 0 0 A) A D cA shM 15 ad 4 36 0 0 [(0, .ref (ad 0)), (1, .int (x1))] [] σ := by
    intro x1 σ hf H locs ls hG hS hl
    unfold fX4_vanishes_36 at hf
    refine lv_aload_n hx hb dX4_vanishes_36 rfl (lv_at hl 0 rfl) ?_
    refine lv_iload_n hx hb dX4_vanishes_37 rfl (lv_at hl 1 rfl) ?_
    obtain ⟨r8, σ9, hc10, hf⟩ := bnd_some hf
    refine mc_i (mc_V (As := [.int (x1)]) hC hK hA hX hG hS (kX4_slotWith l D cA A ad hc10) ykX4_slotWith wA_231 wA_232 wA_233 (hG.fix (by decide)) rfl rfl ⟨rfl, rfl, Nat.le_of_ble_eq_true rfl, Nat.le_of_ble_eq_true rfl⟩ rfl hl.1 rfl (Nat.le_of_ble_eq_true rfl) dX4_vanishes_38 ⟨Nat.le_of_ble_eq_true rfl, Nat.le_of_ble_eq_true rfl⟩) hS (fun H locs hG hS => ?_)
    refine lv_istore_n (lv' := [(3, .int (r8)), (0, .ref (ad 0)), (1, .int (x1))]) hx hb dX4_vanishes_41 rfl hl (by decide) rfl (fun ls hl => ?_)
    refine lv_iload_n hx hb dX4_vanishes_42 rfl (lv_at hl 0 rfl) ?_
    refine lv_iconst (v := (-1)) hx hb dX4_vanishes_43 (by decide) ?_
    refine lv_icmp_eq (tgt := 54) hx hb dX4_vanishes_44 (by decide) (fun c11 => ?_) (fun c11 => ?_)
    · have hf := it_pos c11 hf
      exact K54 _ _ hf _ _ _ hG hS (lv_sub hl [1, 2] rfl)
    · have hf := it_neg c11 hf
      refine lv_aload_n hx hb dX4_vanishes_47 rfl (lv_at hl 1 rfl) ?_
      refine mw_getl hx hb hts hown hK hG inlX4 rfl (hG.fix (by decide)) rfl 8 (by decide) 4 rfl wA_58 dX4_vanishes_48 ?_
      refine lv_iload_n hx hb dX4_vanishes_51 rfl (lv_at hl 0 rfl) ?_
      refine lv_iconst (v := (-1)) hx hb dX4_vanishes_52 (by decide) ?_
      obtain ⟨h12, hf⟩ := ck_some hf
      refine mw_iast hx hb hK hG hS (hG.fix (by decide)) rfl (inb_in h12) dX4_vanishes_53 (fun H locs hG hS => ?_)
      obtain ⟨σ13, e14, hf⟩ := ld_some hf
      rw [← e14] at hG
      clear e14
      exact K54 _ _ hf _ _ _ hG hS (lv_sub hl [1, 2] rfl)
  have K16 : ∀ (σ : pw_S), fX4_vanishes_16  σ = some (r, σ') → mw_K p l e ({ frames := 2, cells := 0, slots := 0, locals := 44 }) s m args below meth c (MQ below (pw_Qi D cA shM 15 A ad r σ') args s 0 0 A) A D cA shM 15 ad 4 16 0 0 [] [] σ := by
    intro  σ hf H locs ls hG hS hl
    unfold fX4_vanishes_16 at hf
    refine lv_iconst (v := 0) hx hb dX4_vanishes_16 (by decide) ?_
    exact mr_z hC hr hlocks hG hS (by decide) hf (Nat.le_of_ble_eq_true rfl) (Nat.le_of_ble_eq_true rfl) dX4_vanishes_17
  have hl : lv_has ls 4 [(0, .ref (ad 0)), (1, .int (a1))] := hl
  unfold fX4_vanishes at hf
  refine lv_aload_n hx hb dX4_vanishes_0 rfl (lv_at hl 0 rfl) ?_
  refine lv_iload_n hx hb dX4_vanishes_1 rfl (lv_at hl 1 rfl) ?_
  obtain ⟨r15, σ16, hc17, hf⟩ := bnd_some hf
  refine mc_i (mc_V (As := [.int (a1)]) hC hK hA hX hG hS (kX4_references l D cA A ad hc17) ykX4_references wA_214 wA_215 wA_216 (hG.fix (by decide)) rfl rfl ⟨rfl, rfl, Nat.le_of_ble_eq_true rfl, Nat.le_of_ble_eq_true rfl⟩ rfl hl.1 rfl (Nat.le_of_ble_eq_true rfl) dX4_vanishes_2 ⟨Nat.le_of_ble_eq_true rfl, Nat.le_of_ble_eq_true rfl⟩) hS (fun H locs hG hS => ?_)
  refine lv_if_gt (tgt := 16) hx hb dX4_vanishes_5 (by decide) (fun c18 => ?_) (fun c18 => ?_)
  · have hf := it_pos c18 hf
    exact K16 _ hf _ _ _ hG hS (lv_sub hl [] rfl)
  · have hf := it_neg c18 hf
    refine lv_aload_n hx hb dX4_vanishes_8 rfl (lv_at hl 0 rfl) ?_
    refine lv_iload_n hx hb dX4_vanishes_9 rfl (lv_at hl 1 rfl) ?_
    obtain ⟨r19, σ20, hc21, hf⟩ := bnd_some hf
    refine mc_i (mc_V (As := [.int (a1)]) hC hK hA hX hG hS (kX4_isInSegment l D cA A ad hc21) ykX4_isInSegment wA_218 wA_219 wA_220 (hG.fix (by decide)) rfl rfl ⟨rfl, rfl, Nat.le_of_ble_eq_true rfl, Nat.le_of_ble_eq_true rfl⟩ rfl hl.1 rfl (Nat.le_of_ble_eq_true rfl) dX4_vanishes_10 ⟨Nat.le_of_ble_eq_true rfl, Nat.le_of_ble_eq_true rfl⟩) hS (fun H locs hG hS => ?_)
    refine lv_if_eq (tgt := 18) hx hb dX4_vanishes_13 (by decide) (fun c22 => ?_) (fun c22 => ?_)
    · have hf := it_pos c22 hf
      refine lv_aload_n hx hb dX4_vanishes_18 rfl (lv_at hl 0 rfl) ?_
      refine lv_iload_n hx hb dX4_vanishes_19 rfl (lv_at hl 1 rfl) ?_
      obtain ⟨r23, σ24, hc25, hf⟩ := bnd_some hf
      refine mc_i (mc_V (As := [.int (a1)]) hC hK hA hX hG hS (kX4_frameWith l D cA A ad hc25) ykX4_frameWith wA_227 wA_228 wA_229 (hG.fix (by decide)) rfl rfl ⟨rfl, rfl, Nat.le_of_ble_eq_true rfl, Nat.le_of_ble_eq_true rfl⟩ rfl hl.1 rfl (Nat.le_of_ble_eq_true rfl) dX4_vanishes_20 ⟨Nat.le_of_ble_eq_true rfl, Nat.le_of_ble_eq_true rfl⟩) hS (fun H locs hG hS => ?_)
      refine lv_istore_n (lv' := [(2, .int (r23)), (0, .ref (ad 0)), (1, .int (a1))]) hx hb dX4_vanishes_23 rfl hl (by decide) rfl (fun ls hl => ?_)
      refine lv_iload_n hx hb dX4_vanishes_24 rfl (lv_at hl 0 rfl) ?_
      refine lv_iconst (v := (-1)) hx hb dX4_vanishes_25 (by decide) ?_
      refine lv_icmp_eq (tgt := 36) hx hb dX4_vanishes_26 (by decide) (fun c26 => ?_) (fun c26 => ?_)
      · have hf := it_pos c26 hf
        exact K36 _ _ hf _ _ _ hG hS (lv_sub hl [1, 2] rfl)
      · have hf := it_neg c26 hf
        refine lv_aload_n hx hb dX4_vanishes_29 rfl (lv_at hl 1 rfl) ?_
        refine mw_getl hx hb hts hown hK hG inlX4 rfl (hG.fix (by decide)) rfl 5 (by decide) 1 rfl wA_55 dX4_vanishes_30 ?_
        refine lv_iload_n hx hb dX4_vanishes_33 rfl (lv_at hl 0 rfl) ?_
        refine lv_iconst (v := (-1)) hx hb dX4_vanishes_34 (by decide) ?_
        obtain ⟨h27, hf⟩ := ck_some hf
        refine mw_iast hx hb hK hG hS (hG.fix (by decide)) rfl (inb_in h27) dX4_vanishes_35 (fun H locs hG hS => ?_)
        obtain ⟨σ28, e29, hf⟩ := ld_some hf
        rw [← e29] at hG
        clear e29
        exact K36 _ _ hf _ _ _ hG hS (lv_sub hl [1, 2] rfl)
    · have hf := it_neg c22 hf
      exact K16 _ hf _ _ _ hG hS (lv_sub hl [] rfl)
def fX4_used_28 (bk4 : Int32 → Int32 → pw_S → Option (Int32 × pw_S)) (x2 : Int32) (y0 : Int32) (y1 : Int32) (σ : pw_S) : Option (Int32 × pw_S) := bk4 ((y1 + y0)) (x2 + 1) σ
def fX4_used_4_b (bk4 : Int32 → Int32 → pw_S → Option (Int32 × pw_S)) (x1 : Int32) (x2 : Int32) (σ : pw_S) : Option (Int32 × pw_S) := (if (gi σ 0 3) ≤ x2 then some (x1, σ) else ck (inb (x2) (12)) ((if (gi σ 1 (Int32.toNatClampNeg (x2))) = (-1) then fX4_used_28 bk4 x2 0 x1 σ else fX4_used_28 bk4 x2 1 x1 σ)))
def fX4_used_4 : Nat → Int32 → Int32 → pw_S → Option (Int32 × pw_S)
  | 0, _, _, _ => none
  | n + 1, x1, x2, σ => fX4_used_4_b (fX4_used_4 n) x1 x2 σ
def fX4_used (σ : pw_S) : Option (Int32 × pw_S) := fX4_used_4 1000 0 0 σ
set_option maxHeartbeats 4000000 in
set_option maxRecDepth 100000 in
theorem kX4_used (l : Launch) (D : va_G) (cA : Nat → ClassId) (A : Nat → Prop) (ad : Nat → Nat) {σ σ' : pw_S} {r : Int32} (hf : fX4_used σ = some (r, σ')) : Met l yX4_used (wA yX4_used cX4_used 3 (some .int)) ({ frames := 0, cells := 0, slots := 0, locals := 0 }) (pw_Pc D cA shM 15 A ad σ [.ref (ad 0)]) (pw_Qi D cA shM 15 A ad r σ') 0 0 A := by
  refine mw_enter (own := RX4) (by decide) rfl (Nat.le_of_ble_eq_true rfl) ?_
  intro p e s m args below meth c ls hC hr hlocks hK hA hX hG hS hl
  obtain ⟨hx, hb, hml, hown, hts⟩ := id hC
  have K4 : ∀ (n4 : Nat) (x1 : Int32) (x2 : Int32) (σ : pw_S), fX4_used_4 n4 x1 x2 σ = some (r, σ') → mw_K p l e ({ frames := 0, cells := 0, slots := 0, locals := 0 }) s m args below meth c (MQ below (pw_Qi D cA shM 15 A ad r σ') args s 0 0 A) A D cA shM 15 ad 3 4 0 0 [(0, .ref (ad 0)), (1, .int (x1)), (2, .int (x2))] [] σ := by
    intro n4
    induction n4 with
    | zero => intro x1 x2 σ hf; cases hf
    | succ n4 ih4 =>
      have K28 : ∀ (x2 : Int32) (y0 : Int32) (y1 : Int32) (σ : pw_S), fX4_used_28 (fX4_used_4 n4) x2 y0 y1 σ = some (r, σ') → mw_K p l e ({ frames := 0, cells := 0, slots := 0, locals := 0 }) s m args below meth c (MQ below (pw_Qi D cA shM 15 A ad r σ') args s 0 0 A) A D cA shM 15 ad 3 28 0 0 [(0, .ref (ad 0)), (2, .int (x2))] [.int (y0), .int (y1)] σ := by
        intro x2 y0 y1 σ hf H locs ls hG hS hl
        unfold fX4_used_28 at hf
        refine lv_iadd hx hb dX4_used_28 ?_
        refine lv_istore_n (lv' := [(1, .int ((y1 + y0))), (0, .ref (ad 0)), (2, .int (x2))]) hx hb dX4_used_29 rfl hl (by decide) rfl (fun ls hl => ?_)
        refine lv_iinc (v := x2 + 1) (lv' := [(2, .int (x2 + 1)), (1, .int ((y1 + y0))), (0, .ref (ad 0))]) hx hb dX4_used_30 hl (k := 2) rfl rfl (by decide) rfl (fun ls hl => ?_)
        refine lv_goto (tgt := 4) hx hb dX4_used_33 (by decide) ?_
        exact ih4 _ _ _ hf _ _ _ hG hS (lv_sub hl [2, 1, 0] rfl)
      intro x1 x2 σ hf H locs ls hG hS hl
      have hf : fX4_used_4_b (fX4_used_4 n4) x1 x2 σ = some (r, σ') := hf
      unfold fX4_used_4_b at hf
      refine lv_iload_n hx hb dX4_used_4 rfl (lv_at hl 2 rfl) ?_
      refine lv_aload_n hx hb dX4_used_5 rfl (lv_at hl 0 rfl) ?_
      refine mw_geti hx hb hts hown hK hG inlX4 rfl (hG.fix (by decide)) rfl 3 (by decide) rfl wA_54 dX4_used_6 ?_
      refine lv_icmp_ge (tgt := 36) hx hb dX4_used_9 (by decide) (fun c3 => ?_) (fun c3 => ?_)
      · have hf := it_pos c3 hf
        refine lv_iload_n hx hb dX4_used_36 rfl (lv_at hl 1 rfl) ?_
        exact mr_i hC hr hlocks hG hS hf (Nat.le_of_ble_eq_true rfl) (Nat.le_of_ble_eq_true rfl) dX4_used_37
      · have hf := it_neg c3 hf
        refine lv_iload_n hx hb dX4_used_12 rfl (lv_at hl 1 rfl) ?_
        refine lv_aload_n hx hb dX4_used_13 rfl (lv_at hl 0 rfl) ?_
        refine mw_getl hx hb hts hown hK hG inlX4 rfl (hG.fix (by decide)) rfl 5 (by decide) 1 rfl wA_55 dX4_used_14 ?_
        refine lv_iload_n hx hb dX4_used_17 rfl (lv_at hl 2 rfl) ?_
        obtain ⟨h4, hf⟩ := ck_some hf
        refine mw_iald hx hb hK hG (hG.fix (by decide)) rfl (inb_in h4) dX4_used_18 ?_
        refine lv_iconst (v := (-1)) hx hb dX4_used_19 (by decide) ?_
        refine lv_icmp_ne (tgt := 27) hx hb dX4_used_20 (by decide) (fun c5 => ?_) (fun c5 => ?_)
        · have hf := it_neg c5 hf
          refine lv_iconst (v := 1) hx hb dX4_used_27 (by decide) ?_
          exact K28 _ _ _ _ hf _ _ _ hG hS (lv_sub hl [0, 2] rfl)
        · have hf := it_pos c5 hf
          refine lv_iconst (v := 0) hx hb dX4_used_23 (by decide) ?_
          refine lv_goto (tgt := 28) hx hb dX4_used_24 (by decide) ?_
          exact K28 _ _ _ _ hf _ _ _ hG hS (lv_sub hl [0, 2] rfl)
  have hl : lv_has ls 3 [(0, .ref (ad 0))] := hl
  unfold fX4_used at hf
  refine lv_iconst (v := 0) hx hb dX4_used_0 (by decide) ?_
  refine lv_istore_n (lv' := [(1, .int (0)), (0, .ref (ad 0))]) hx hb dX4_used_1 rfl hl (by decide) rfl (fun ls hl => ?_)
  refine lv_iconst (v := 0) hx hb dX4_used_2 (by decide) ?_
  refine lv_istore_n (lv' := [(2, .int (0)), (1, .int (0)), (0, .ref (ad 0))]) hx hb dX4_used_3 rfl hl (by decide) rfl (fun ls hl => ?_)
  exact K4 1000 _ _ _ hf _ _ _ hG hS (lv_sub hl [2, 1, 0] rfl)
def fX4_setFrames_16 (σ : pw_S) : Option (Int32 × pw_S) := bnd (fX4_no 1 σ) (fun r4 σ5 => some (r4, σ5))
def fX4_setFrames (a1 : Int32) (σ : pw_S) : Option (Int32 × pw_S) := ld (si σ 0 0 (0)) (fun σ7 => (if a1 < 4 then fX4_setFrames_16 σ7 else (if a1 ≤ 12 then bnd (fX4_used σ7) (fun r11 σ12 => (if r11 ≤ 0 then ld (si σ12 0 3 (a1)) (fun σ15 => ld (si σ15 0 4 (0)) (fun σ17 => some ((gi σ12 0 3), σ17))) else bnd (fX4_no 2 σ12) (fun r19 σ20 => some (r19, σ20)))) else fX4_setFrames_16 σ7)))
set_option maxHeartbeats 4000000 in
set_option maxRecDepth 100000 in
theorem kX4_setFrames (l : Launch) (D : va_G) (cA : Nat → ClassId) (A : Nat → Prop) (ad : Nat → Nat) {σ σ' : pw_S} {r : Int32} {a1 : Int32} (hf : fX4_setFrames a1 σ = some (r, σ')) : Met l yX4_setFrames (wA yX4_setFrames cX4_setFrames 3 (some .int)) ({ frames := 1, cells := 0, slots := 0, locals := 22 }) (pw_Pc D cA shM 15 A ad σ [.ref (ad 0), .int (a1)]) (pw_Qi D cA shM 15 A ad r σ') 0 0 A := by
  refine mw_enter (own := RX4) (by decide) rfl (Nat.le_of_ble_eq_true rfl) ?_
  intro p e s m args below meth c ls hC hr hlocks hK hA hX hG hS hl
  obtain ⟨hx, hb, hml, hown, hts⟩ := id hC
  have K16 : ∀ (σ : pw_S), fX4_setFrames_16  σ = some (r, σ') → mw_K p l e ({ frames := 1, cells := 0, slots := 0, locals := 22 }) s m args below meth c (MQ below (pw_Qi D cA shM 15 A ad r σ') args s 0 0 A) A D cA shM 15 ad 3 16 0 0 [(0, .ref (ad 0))] [] σ := by
    intro  σ hf H locs ls hG hS hl
    unfold fX4_setFrames_16 at hf
    refine lv_aload_n hx hb dX4_setFrames_16 rfl (lv_at hl 0 rfl) ?_
    refine lv_iconst (v := 1) hx hb dX4_setFrames_17 (by decide) ?_
    obtain ⟨r4, σ5, hc6, hf⟩ := bnd_some hf
    refine mc_i (mc_V (As := [.int (1)]) hC hK hA hX hG hS (kX4_no l D cA A ad hc6) ykX4_no wA_95 wA_96 wA_97 (hG.fix (by decide)) rfl rfl ⟨rfl, rfl, Nat.le_of_ble_eq_true rfl, Nat.le_of_ble_eq_true rfl⟩ rfl hl.1 rfl (Nat.le_of_ble_eq_true rfl) dX4_setFrames_18 ⟨Nat.le_of_ble_eq_true rfl, Nat.le_of_ble_eq_true rfl⟩) hS (fun H locs hG hS => ?_)
    exact mr_i hC hr hlocks hG hS hf (Nat.le_of_ble_eq_true rfl) (Nat.le_of_ble_eq_true rfl) dX4_setFrames_21
  have hl : lv_has ls 3 [(0, .ref (ad 0)), (1, .int (a1))] := hl
  unfold fX4_setFrames at hf
  refine lv_aload_n hx hb dX4_setFrames_0 rfl (lv_at hl 0 rfl) ?_
  refine lv_iconst (v := 0) hx hb dX4_setFrames_1 (by decide) ?_
  refine mw_puti hx hb hts hown hK hG hS inlX4 tyX4 tyX4_ok nmX4 rfl (hG.fix (by decide)) rfl 0 (by decide) rfl rfl rfl rfl wA_93 dX4_setFrames_2 (fun H locs hG hS => ?_)
  obtain ⟨σ7, e8, hf⟩ := ld_some hf
  rw [← e8] at hG
  clear e8
  refine lv_iload_n hx hb dX4_setFrames_5 rfl (lv_at hl 1 rfl) ?_
  refine lv_iconst (v := 4) hx hb dX4_setFrames_6 (by decide) ?_
  refine lv_icmp_lt (tgt := 16) hx hb dX4_setFrames_7 (by decide) (fun c9 => ?_) (fun c9 => ?_)
  · have hf := it_pos c9 hf
    exact K16 _ hf _ _ _ hG hS (lv_sub hl [0] rfl)
  · have hf := it_neg c9 hf
    refine lv_iload_n hx hb dX4_setFrames_10 rfl (lv_at hl 1 rfl) ?_
    refine lv_bipush (v := 12) hx hb dX4_setFrames_11 (by decide) ?_
    refine lv_icmp_le (tgt := 22) hx hb dX4_setFrames_13 (by decide) (fun c10 => ?_) (fun c10 => ?_)
    · have hf := it_pos c10 hf
      refine lv_aload_n hx hb dX4_setFrames_22 rfl (lv_at hl 0 rfl) ?_
      obtain ⟨r11, σ12, hc13, hf⟩ := bnd_some hf
      refine mc_i (mc_V (As := []) hC hK hA hX hG hS (kX4_used l D cA A ad hc13) ykX4_used wA_99 wA_100 wA_101 (hG.fix (by decide)) rfl rfl ⟨rfl, rfl, Nat.le_of_ble_eq_true rfl, Nat.le_of_ble_eq_true rfl⟩ rfl hl.1 rfl (Nat.le_of_ble_eq_true rfl) dX4_setFrames_23 ⟨Nat.le_of_ble_eq_true rfl, Nat.le_of_ble_eq_true rfl⟩) hS (fun H locs hG hS => ?_)
      refine lv_if_le (tgt := 35) hx hb dX4_setFrames_26 (by decide) (fun c14 => ?_) (fun c14 => ?_)
      · have hf := it_pos c14 hf
        refine lv_aload_n hx hb dX4_setFrames_35 rfl (lv_at hl 0 rfl) ?_
        refine mw_geti hx hb hts hown hK hG inlX4 rfl (hG.fix (by decide)) rfl 3 (by decide) rfl wA_54 dX4_setFrames_36 ?_
        refine lv_istore_n (lv' := [(2, .int ((gi σ12 0 3))), (0, .ref (ad 0)), (1, .int (a1))]) hx hb dX4_setFrames_39 rfl hl (by decide) rfl (fun ls hl => ?_)
        refine lv_aload_n hx hb dX4_setFrames_40 rfl (lv_at hl 1 rfl) ?_
        refine lv_iload_n hx hb dX4_setFrames_41 rfl (lv_at hl 2 rfl) ?_
        refine mw_puti hx hb hts hown hK hG hS inlX4 tyX4 tyX4_ok nmX4 rfl (hG.fix (by decide)) rfl 3 (by decide) rfl rfl rfl rfl wA_54 dX4_setFrames_42 (fun H locs hG hS => ?_)
        obtain ⟨σ15, e16, hf⟩ := ld_some hf
        rw [← e16] at hG
        clear e16
        refine lv_aload_n hx hb dX4_setFrames_45 rfl (lv_at hl 1 rfl) ?_
        refine lv_iconst (v := 0) hx hb dX4_setFrames_46 (by decide) ?_
        refine mw_puti hx hb hts hown hK hG hS inlX4 tyX4 tyX4_ok nmX4 rfl (hG.fix (by decide)) rfl 4 (by decide) rfl rfl rfl rfl wA_94 dX4_setFrames_47 (fun H locs hG hS => ?_)
        obtain ⟨σ17, e18, hf⟩ := ld_some hf
        rw [← e18] at hG
        clear e18
        refine lv_iload_n hx hb dX4_setFrames_50 rfl (lv_at hl 0 rfl) ?_
        exact mr_i hC hr hlocks hG hS hf (Nat.le_of_ble_eq_true rfl) (Nat.le_of_ble_eq_true rfl) dX4_setFrames_51
      · have hf := it_neg c14 hf
        refine lv_aload_n hx hb dX4_setFrames_29 rfl (lv_at hl 0 rfl) ?_
        refine lv_iconst (v := 2) hx hb dX4_setFrames_30 (by decide) ?_
        obtain ⟨r19, σ20, hc21, hf⟩ := bnd_some hf
        refine mc_i (mc_V (As := [.int (2)]) hC hK hA hX hG hS (kX4_no l D cA A ad hc21) ykX4_no wA_95 wA_96 wA_97 (hG.fix (by decide)) rfl rfl ⟨rfl, rfl, Nat.le_of_ble_eq_true rfl, Nat.le_of_ble_eq_true rfl⟩ rfl hl.1 rfl (Nat.le_of_ble_eq_true rfl) dX4_setFrames_31 ⟨Nat.le_of_ble_eq_true rfl, Nat.le_of_ble_eq_true rfl⟩) hS (fun H locs hG hS => ?_)
        exact mr_i hC hr hlocks hG hS hf (Nat.le_of_ble_eq_true rfl) (Nat.le_of_ble_eq_true rfl) dX4_setFrames_34
    · have hf := it_neg c10 hf
      exact K16 _ hf _ _ _ hG hS (lv_sub hl [0] rfl)
def fX4_setWindow_15 (σ : pw_S) : Option (Int32 × pw_S) := bnd (fX4_no 1 σ) (fun r3 σ4 => some (r3, σ4))
def fX4_setWindow (a1 : Int32) (σ : pw_S) : Option (Int32 × pw_S) := ld (si σ 0 0 (0)) (fun σ6 => (if a1 < 0 then fX4_setWindow_15 σ6 else (if a1 ≤ 50 then ld (si σ6 0 2 (a1)) (fun σ10 => some ((gi σ6 0 2), σ10)) else fX4_setWindow_15 σ6)))
set_option maxHeartbeats 4000000 in
set_option maxRecDepth 100000 in
theorem kX4_setWindow (l : Launch) (D : va_G) (cA : Nat → ClassId) (A : Nat → Prop) (ad : Nat → Nat) {σ σ' : pw_S} {r : Int32} {a1 : Int32} (hf : fX4_setWindow a1 σ = some (r, σ')) : Met l yX4_setWindow (wA yX4_setWindow cX4_setWindow 3 (some .int)) ({ frames := 1, cells := 0, slots := 0, locals := 21 }) (pw_Pc D cA shM 15 A ad σ [.ref (ad 0), .int (a1)]) (pw_Qi D cA shM 15 A ad r σ') 0 0 A := by
  refine mw_enter (own := RX4) (by decide) rfl (Nat.le_of_ble_eq_true rfl) ?_
  intro p e s m args below meth c ls hC hr hlocks hK hA hX hG hS hl
  obtain ⟨hx, hb, hml, hown, hts⟩ := id hC
  have K15 : ∀ (σ : pw_S), fX4_setWindow_15  σ = some (r, σ') → mw_K p l e ({ frames := 1, cells := 0, slots := 0, locals := 21 }) s m args below meth c (MQ below (pw_Qi D cA shM 15 A ad r σ') args s 0 0 A) A D cA shM 15 ad 3 15 0 0 [(0, .ref (ad 0))] [] σ := by
    intro  σ hf H locs ls hG hS hl
    unfold fX4_setWindow_15 at hf
    refine lv_aload_n hx hb dX4_setWindow_15 rfl (lv_at hl 0 rfl) ?_
    refine lv_iconst (v := 1) hx hb dX4_setWindow_16 (by decide) ?_
    obtain ⟨r3, σ4, hc5, hf⟩ := bnd_some hf
    refine mc_i (mc_V (As := [.int (1)]) hC hK hA hX hG hS (kX4_no l D cA A ad hc5) ykX4_no wA_95 wA_96 wA_97 (hG.fix (by decide)) rfl rfl ⟨rfl, rfl, Nat.le_of_ble_eq_true rfl, Nat.le_of_ble_eq_true rfl⟩ rfl hl.1 rfl (Nat.le_of_ble_eq_true rfl) dX4_setWindow_17 ⟨Nat.le_of_ble_eq_true rfl, Nat.le_of_ble_eq_true rfl⟩) hS (fun H locs hG hS => ?_)
    exact mr_i hC hr hlocks hG hS hf (Nat.le_of_ble_eq_true rfl) (Nat.le_of_ble_eq_true rfl) dX4_setWindow_20
  have hl : lv_has ls 3 [(0, .ref (ad 0)), (1, .int (a1))] := hl
  unfold fX4_setWindow at hf
  refine lv_aload_n hx hb dX4_setWindow_0 rfl (lv_at hl 0 rfl) ?_
  refine lv_iconst (v := 0) hx hb dX4_setWindow_1 (by decide) ?_
  refine mw_puti hx hb hts hown hK hG hS inlX4 tyX4 tyX4_ok nmX4 rfl (hG.fix (by decide)) rfl 0 (by decide) rfl rfl rfl rfl wA_93 dX4_setWindow_2 (fun H locs hG hS => ?_)
  obtain ⟨σ6, e7, hf⟩ := ld_some hf
  rw [← e7] at hG
  clear e7
  refine lv_iload_n hx hb dX4_setWindow_5 rfl (lv_at hl 1 rfl) ?_
  refine lv_if_lt (tgt := 15) hx hb dX4_setWindow_6 (by decide) (fun c8 => ?_) (fun c8 => ?_)
  · have hf := it_pos c8 hf
    exact K15 _ hf _ _ _ hG hS (lv_sub hl [0] rfl)
  · have hf := it_neg c8 hf
    refine lv_iload_n hx hb dX4_setWindow_9 rfl (lv_at hl 1 rfl) ?_
    refine lv_bipush (v := 50) hx hb dX4_setWindow_10 (by decide) ?_
    refine lv_icmp_le (tgt := 21) hx hb dX4_setWindow_12 (by decide) (fun c9 => ?_) (fun c9 => ?_)
    · have hf := it_pos c9 hf
      refine lv_aload_n hx hb dX4_setWindow_21 rfl (lv_at hl 0 rfl) ?_
      refine mw_geti hx hb hts hown hK hG inlX4 rfl (hG.fix (by decide)) rfl 2 (by decide) rfl wA_53 dX4_setWindow_22 ?_
      refine lv_istore_n (lv' := [(2, .int ((gi σ6 0 2))), (0, .ref (ad 0)), (1, .int (a1))]) hx hb dX4_setWindow_25 rfl hl (by decide) rfl (fun ls hl => ?_)
      refine lv_aload_n hx hb dX4_setWindow_26 rfl (lv_at hl 1 rfl) ?_
      refine lv_iload_n hx hb dX4_setWindow_27 rfl (lv_at hl 2 rfl) ?_
      refine mw_puti hx hb hts hown hK hG hS inlX4 tyX4 tyX4_ok nmX4 rfl (hG.fix (by decide)) rfl 2 (by decide) rfl rfl rfl rfl wA_53 dX4_setWindow_28 (fun H locs hG hS => ?_)
      obtain ⟨σ10, e11, hf⟩ := ld_some hf
      rw [← e11] at hG
      clear e11
      refine lv_iload_n hx hb dX4_setWindow_31 rfl (lv_at hl 0 rfl) ?_
      exact mr_i hC hr hlocks hG hS hf (Nat.le_of_ble_eq_true rfl) (Nat.le_of_ble_eq_true rfl) dX4_setWindow_32
    · have hf := it_neg c9 hf
      exact K15 _ hf _ _ _ hG hS (lv_sub hl [0] rfl)
def fX4_isProcess_17 (y0 : Int32) (σ : pw_S) : Option (Int32 × pw_S) := ck (isB (y0)) (some (y0, σ))
def fX4_isProcess_16 (σ : pw_S) : Option (Int32 × pw_S) := fX4_isProcess_17 0 σ
def fX4_isProcess (a1 : Int32) (σ : pw_S) : Option (Int32 × pw_S) := (if a1 < 0 then fX4_isProcess_16 σ else (if (gi σ 0 12) ≤ a1 then fX4_isProcess_16 σ else fX4_isProcess_17 1 σ))
set_option maxHeartbeats 4000000 in
set_option maxRecDepth 100000 in
theorem kX4_isProcess (l : Launch) (D : va_G) (cA : Nat → ClassId) (A : Nat → Prop) (ad : Nat → Nat) {σ σ' : pw_S} {r : Int32} {a1 : Int32} (hf : fX4_isProcess a1 σ = some (r, σ')) : Met l yX4_isProcess (wA yX4_isProcess cX4_isProcess 2 (some .boolean)) ({ frames := 0, cells := 0, slots := 0, locals := 0 }) (pw_Pc D cA shM 15 A ad σ [.ref (ad 0), .int (a1)]) (pw_Qi D cA shM 15 A ad r σ') 0 0 A := by
  refine mw_enter (own := RX4) (by decide) rfl (Nat.le_of_ble_eq_true rfl) ?_
  intro p e s m args below meth c ls hC hr hlocks hK hA hX hG hS hl
  obtain ⟨hx, hb, hml, hown, hts⟩ := id hC
  have K17 : ∀ (y0 : Int32) (σ : pw_S), fX4_isProcess_17 y0 σ = some (r, σ') → mw_K p l e ({ frames := 0, cells := 0, slots := 0, locals := 0 }) s m args below meth c (MQ below (pw_Qi D cA shM 15 A ad r σ') args s 0 0 A) A D cA shM 15 ad 2 17 0 0 [] [.int (y0)] σ := by
    intro y0 σ hf H locs ls hG hS hl
    unfold fX4_isProcess_17 at hf
    obtain ⟨h3, hf⟩ := ck_some hf
    exact mr_z hC hr hlocks hG hS (isB_or h3) hf (Nat.le_of_ble_eq_true rfl) (Nat.le_of_ble_eq_true rfl) dX4_isProcess_17
  have K16 : ∀ (σ : pw_S), fX4_isProcess_16  σ = some (r, σ') → mw_K p l e ({ frames := 0, cells := 0, slots := 0, locals := 0 }) s m args below meth c (MQ below (pw_Qi D cA shM 15 A ad r σ') args s 0 0 A) A D cA shM 15 ad 2 16 0 0 [] [] σ := by
    intro  σ hf H locs ls hG hS hl
    unfold fX4_isProcess_16 at hf
    refine lv_iconst (v := 0) hx hb dX4_isProcess_16 (by decide) ?_
    exact K17 _ _ hf _ _ _ hG hS (lv_sub hl [] rfl)
  have hl : lv_has ls 2 [(0, .ref (ad 0)), (1, .int (a1))] := hl
  unfold fX4_isProcess at hf
  refine lv_iload_n hx hb dX4_isProcess_0 rfl (lv_at hl 1 rfl) ?_
  refine lv_if_lt (tgt := 16) hx hb dX4_isProcess_1 (by decide) (fun c4 => ?_) (fun c4 => ?_)
  · have hf := it_pos c4 hf
    exact K16 _ hf _ _ _ hG hS (lv_sub hl [] rfl)
  · have hf := it_neg c4 hf
    refine lv_iload_n hx hb dX4_isProcess_4 rfl (lv_at hl 1 rfl) ?_
    refine lv_aload_n hx hb dX4_isProcess_5 rfl (lv_at hl 0 rfl) ?_
    refine mw_geti hx hb hts hown hK hG inlX4 rfl (hG.fix (by decide)) rfl 12 (by decide) rfl wA_137 dX4_isProcess_6 ?_
    refine lv_icmp_ge (tgt := 16) hx hb dX4_isProcess_9 (by decide) (fun c5 => ?_) (fun c5 => ?_)
    · have hf := it_pos c5 hf
      exact K16 _ hf _ _ _ hG hS (lv_sub hl [] rfl)
    · have hf := it_neg c5 hf
      refine lv_iconst (v := 1) hx hb dX4_isProcess_12 (by decide) ?_
      refine lv_goto (tgt := 17) hx hb dX4_isProcess_13 (by decide) ?_
      exact K17 _ _ hf _ _ _ hG hS (lv_sub hl [] rfl)
def fX4_isPage_15 (y0 : Int32) (σ : pw_S) : Option (Int32 × pw_S) := ck (isB (y0)) (some (y0, σ))
def fX4_isPage_14 (σ : pw_S) : Option (Int32 × pw_S) := fX4_isPage_15 0 σ
def fX4_isPage (a0 : Int32) (σ : pw_S) : Option (Int32 × pw_S) := (if a0 < 0 then fX4_isPage_14 σ else (if 16 ≤ a0 then fX4_isPage_14 σ else fX4_isPage_15 1 σ))
set_option maxHeartbeats 4000000 in
set_option maxRecDepth 100000 in
theorem kX4_isPage (l : Launch) (D : va_G) (cA : Nat → ClassId) (A : Nat → Prop) (ad : Nat → Nat) {σ σ' : pw_S} {r : Int32} {a0 : Int32} (hf : fX4_isPage a0 σ = some (r, σ')) : Met l yX4_isPage (wA yX4_isPage cX4_isPage 1 (some .boolean)) ({ frames := 0, cells := 0, slots := 0, locals := 0 }) (pw_Pc D cA shM 15 A ad σ [.int (a0)]) (pw_Qi D cA shM 15 A ad r σ') 0 0 A := by
  refine mw_enter (own := RX4) (by decide) rfl (Nat.le_of_ble_eq_true rfl) ?_
  intro p e s m args below meth c ls hC hr hlocks hK hA hX hG hS hl
  obtain ⟨hx, hb, hml, hown, hts⟩ := id hC
  have K15 : ∀ (y0 : Int32) (σ : pw_S), fX4_isPage_15 y0 σ = some (r, σ') → mw_K p l e ({ frames := 0, cells := 0, slots := 0, locals := 0 }) s m args below meth c (MQ below (pw_Qi D cA shM 15 A ad r σ') args s 0 0 A) A D cA shM 15 ad 1 15 0 0 [] [.int (y0)] σ := by
    intro y0 σ hf H locs ls hG hS hl
    unfold fX4_isPage_15 at hf
    obtain ⟨h3, hf⟩ := ck_some hf
    exact mr_z hC hr hlocks hG hS (isB_or h3) hf (Nat.le_of_ble_eq_true rfl) (Nat.le_of_ble_eq_true rfl) dX4_isPage_15
  have K14 : ∀ (σ : pw_S), fX4_isPage_14  σ = some (r, σ') → mw_K p l e ({ frames := 0, cells := 0, slots := 0, locals := 0 }) s m args below meth c (MQ below (pw_Qi D cA shM 15 A ad r σ') args s 0 0 A) A D cA shM 15 ad 1 14 0 0 [] [] σ := by
    intro  σ hf H locs ls hG hS hl
    unfold fX4_isPage_14 at hf
    refine lv_iconst (v := 0) hx hb dX4_isPage_14 (by decide) ?_
    exact K15 _ _ hf _ _ _ hG hS (lv_sub hl [] rfl)
  have hl : lv_has ls 1 [(0, .int (a0))] := hl
  unfold fX4_isPage at hf
  refine lv_iload_n hx hb dX4_isPage_0 rfl (lv_at hl 0 rfl) ?_
  refine lv_if_lt (tgt := 14) hx hb dX4_isPage_1 (by decide) (fun c4 => ?_) (fun c4 => ?_)
  · have hf := it_pos c4 hf
    exact K14 _ hf _ _ _ hG hS (lv_sub hl [] rfl)
  · have hf := it_neg c4 hf
    refine lv_iload_n hx hb dX4_isPage_4 rfl (lv_at hl 0 rfl) ?_
    refine lv_bipush (v := 16) hx hb dX4_isPage_5 (by decide) ?_
    refine lv_icmp_ge (tgt := 14) hx hb dX4_isPage_7 (by decide) (fun c5 => ?_) (fun c5 => ?_)
    · have hf := it_pos c5 hf
      exact K14 _ hf _ _ _ hG hS (lv_sub hl [] rfl)
    · have hf := it_neg c5 hf
      refine lv_iconst (v := 1) hx hb dX4_isPage_10 (by decide) ?_
      refine lv_goto (tgt := 15) hx hb dX4_isPage_11 (by decide) ?_
      exact K15 _ _ hf _ _ _ hG hS (lv_sub hl [] rfl)
def fX4_start_32_b (bk32 : Int32 → pw_S → Option (Int32 × pw_S)) (x1 : Int32) (σ : pw_S) : Option (Int32 × pw_S) := (if 16 ≤ x1 then ld (si σ 0 12 (((gi σ 0 12) + 1))) (fun σ4 => some (((gi σ4 0 12) - 1), σ4)) else bnd (fX4_at ((gi σ 0 12)) x1 σ) (fun r6 σ7 => ck (inb (r6) (160)) (ld (si σ7 9 (Int32.toNatClampNeg (r6)) (0)) (fun σ10 => bk32 (x1 + 1) σ10))))
def fX4_start_32 : Nat → Int32 → pw_S → Option (Int32 × pw_S)
  | 0, _, _ => none
  | n + 1, x1, σ => fX4_start_32_b (fX4_start_32 n) x1 σ
def fX4_start (σ : pw_S) : Option (Int32 × pw_S) := ld (si σ 0 0 (0)) (fun σ12 => (if (gi σ12 0 12) = 10 then bnd (fX4_no 1 σ12) (fun r18 σ19 => some (r18, σ19)) else ck (inb ((gi σ12 0 12)) (10)) (ld (si σ12 8 (Int32.toNatClampNeg ((gi σ12 0 12))) (1)) (fun σ16 => fX4_start_32 1000 0 σ16))))
set_option maxHeartbeats 4000000 in
set_option maxRecDepth 100000 in
theorem kX4_start (l : Launch) (D : va_G) (cA : Nat → ClassId) (A : Nat → Prop) (ad : Nat → Nat) {σ σ' : pw_S} {r : Int32} (hf : fX4_start σ = some (r, σ')) : Met l yX4_start (wA yX4_start cX4_start 2 (some .int)) ({ frames := 1, cells := 0, slots := 0, locals := 21 }) (pw_Pc D cA shM 15 A ad σ [.ref (ad 0)]) (pw_Qi D cA shM 15 A ad r σ') 0 0 A := by
  refine mw_enter (own := RX4) (by decide) rfl (Nat.le_of_ble_eq_true rfl) ?_
  intro p e s m args below meth c ls hC hr hlocks hK hA hX hG hS hl
  obtain ⟨hx, hb, hml, hown, hts⟩ := id hC
  have K32 : ∀ (n32 : Nat) (x1 : Int32) (σ : pw_S), fX4_start_32 n32 x1 σ = some (r, σ') → mw_K p l e ({ frames := 1, cells := 0, slots := 0, locals := 21 }) s m args below meth c (MQ below (pw_Qi D cA shM 15 A ad r σ') args s 0 0 A) A D cA shM 15 ad 2 32 0 0 [(0, .ref (ad 0)), (1, .int (x1))] [] σ := by
    intro n32
    induction n32 with
    | zero => intro x1 σ hf; cases hf
    | succ n32 ih32 =>
      intro x1 σ hf H locs ls hG hS hl
      have hf : fX4_start_32_b (fX4_start_32 n32) x1 σ = some (r, σ') := hf
      unfold fX4_start_32_b at hf
      refine lv_iload_n hx hb dX4_start_32 rfl (lv_at hl 1 rfl) ?_
      refine lv_bipush (v := 16) hx hb dX4_start_33 (by decide) ?_
      refine lv_icmp_ge (tgt := 58) hx hb dX4_start_35 (by decide) (fun c3 => ?_) (fun c3 => ?_)
      · have hf := it_pos c3 hf
        refine lv_aload_n hx hb dX4_start_58 rfl (lv_at hl 0 rfl) ?_
        refine lv_dup hx hb dX4_start_59 rfl ?_
        refine mw_geti hx hb hts hown hK hG inlX4 rfl (hG.fix (by decide)) rfl 12 (by decide) rfl wA_137 dX4_start_60 ?_
        refine lv_iconst (v := 1) hx hb dX4_start_63 (by decide) ?_
        refine lv_iadd hx hb dX4_start_64 ?_
        refine mw_puti hx hb hts hown hK hG hS inlX4 tyX4 tyX4_ok nmX4 rfl (hG.fix (by decide)) rfl 12 (by decide) rfl rfl rfl rfl wA_137 dX4_start_65 (fun H locs hG hS => ?_)
        obtain ⟨σ4, e5, hf⟩ := ld_some hf
        rw [← e5] at hG
        clear e5
        refine lv_aload_n hx hb dX4_start_68 rfl (lv_at hl 0 rfl) ?_
        refine mw_geti hx hb hts hown hK hG inlX4 rfl (hG.fix (by decide)) rfl 12 (by decide) rfl wA_137 dX4_start_69 ?_
        refine lv_iconst (v := 1) hx hb dX4_start_72 (by decide) ?_
        refine lv_isub hx hb dX4_start_73 ?_
        exact mr_i hC hr hlocks hG hS hf (Nat.le_of_ble_eq_true rfl) (Nat.le_of_ble_eq_true rfl) dX4_start_74
      · have hf := it_neg c3 hf
        refine lv_aload_n hx hb dX4_start_38 rfl (lv_at hl 0 rfl) ?_
        refine mw_getl hx hb hts hown hK hG inlX4 rfl (hG.fix (by decide)) rfl 14 (by decide) 9 rfl wA_63 dX4_start_39 ?_
        refine lv_aload_n hx hb dX4_start_42 rfl (lv_at hl 0 rfl) ?_
        refine mw_geti hx hb hts hown hK hG inlX4 rfl (hG.fix (by decide)) rfl 12 (by decide) rfl wA_137 dX4_start_43 ?_
        refine lv_iload_n hx hb dX4_start_46 rfl (lv_at hl 1 rfl) ?_
        obtain ⟨r6, σ7, hc8, hf⟩ := bnd_some hf
        refine mc_i (mc_S (As := [.int ((gi σ 0 12)), .int (x1)]) hC hK hA hX hG hS (kX4_at l D cA A ad hc8) ykX4_at wA_138 wA_139 ⟨rfl, rfl, Nat.le_of_ble_eq_true rfl, Nat.le_of_ble_eq_true rfl⟩ rfl hl.1 rfl (Nat.le_of_ble_eq_true rfl) dX4_start_47 ⟨Nat.le_of_ble_eq_true rfl, Nat.le_of_ble_eq_true rfl⟩) hS (fun H locs hG hS => ?_)
        refine lv_iconst (v := 0) hx hb dX4_start_50 (by decide) ?_
        obtain ⟨h9, hf⟩ := ck_some hf
        refine mw_iast hx hb hK hG hS (hG.fix (by decide)) rfl (inb_in h9) dX4_start_51 (fun H locs hG hS => ?_)
        obtain ⟨σ10, e11, hf⟩ := ld_some hf
        rw [← e11] at hG
        clear e11
        refine lv_iinc (v := x1 + 1) (lv' := [(1, .int (x1 + 1)), (0, .ref (ad 0))]) hx hb dX4_start_52 hl (k := 1) rfl rfl (by decide) rfl (fun ls hl => ?_)
        refine lv_goto (tgt := 32) hx hb dX4_start_55 (by decide) ?_
        exact ih32 _ _ hf _ _ _ hG hS (lv_sub hl [1, 0] rfl)
  have hl : lv_has ls 2 [(0, .ref (ad 0))] := hl
  unfold fX4_start at hf
  refine lv_aload_n hx hb dX4_start_0 rfl (lv_at hl 0 rfl) ?_
  refine lv_iconst (v := 0) hx hb dX4_start_1 (by decide) ?_
  refine mw_puti hx hb hts hown hK hG hS inlX4 tyX4 tyX4_ok nmX4 rfl (hG.fix (by decide)) rfl 0 (by decide) rfl rfl rfl rfl wA_93 dX4_start_2 (fun H locs hG hS => ?_)
  obtain ⟨σ12, e13, hf⟩ := ld_some hf
  rw [← e13] at hG
  clear e13
  refine lv_aload_n hx hb dX4_start_5 rfl (lv_at hl 0 rfl) ?_
  refine mw_geti hx hb hts hown hK hG inlX4 rfl (hG.fix (by decide)) rfl 12 (by decide) rfl wA_137 dX4_start_6 ?_
  refine lv_bipush (v := 10) hx hb dX4_start_9 (by decide) ?_
  refine lv_icmp_ne (tgt := 20) hx hb dX4_start_11 (by decide) (fun c14 => ?_) (fun c14 => ?_)
  · have hf := it_neg c14 hf
    refine lv_aload_n hx hb dX4_start_20 rfl (lv_at hl 0 rfl) ?_
    refine mw_getl hx hb hts hown hK hG inlX4 rfl (hG.fix (by decide)) rfl 13 (by decide) 8 rfl wA_62 dX4_start_21 ?_
    refine lv_aload_n hx hb dX4_start_24 rfl (lv_at hl 0 rfl) ?_
    refine mw_geti hx hb hts hown hK hG inlX4 rfl (hG.fix (by decide)) rfl 12 (by decide) rfl wA_137 dX4_start_25 ?_
    refine lv_iconst (v := 1) hx hb dX4_start_28 (by decide) ?_
    obtain ⟨h15, hf⟩ := ck_some hf
    refine mw_zast hx hb hK hG hS (hG.fix (by decide)) rfl rfl (inb_in h15) dX4_start_29 (fun H locs hG hS => ?_)
    obtain ⟨σ16, e17, hf⟩ := ld_some hf
    rw [← e17] at hG
    clear e17
    refine lv_iconst (v := 0) hx hb dX4_start_30 (by decide) ?_
    refine lv_istore_n (lv' := [(1, .int (0)), (0, .ref (ad 0))]) hx hb dX4_start_31 rfl hl (by decide) rfl (fun ls hl => ?_)
    exact K32 1000 _ _ hf _ _ _ hG hS (lv_sub hl [1, 0] rfl)
  · have hf := it_pos c14 hf
    refine lv_aload_n hx hb dX4_start_14 rfl (lv_at hl 0 rfl) ?_
    refine lv_iconst (v := 1) hx hb dX4_start_15 (by decide) ?_
    obtain ⟨r18, σ19, hc20, hf⟩ := bnd_some hf
    refine mc_i (mc_V (As := [.int (1)]) hC hK hA hX hG hS (kX4_no l D cA A ad hc20) ykX4_no wA_95 wA_96 wA_97 (hG.fix (by decide)) rfl rfl ⟨rfl, rfl, Nat.le_of_ble_eq_true rfl, Nat.le_of_ble_eq_true rfl⟩ rfl hl.1 rfl (Nat.le_of_ble_eq_true rfl) dX4_start_16 ⟨Nat.le_of_ble_eq_true rfl, Nat.le_of_ble_eq_true rfl⟩) hS (fun H locs hG hS => ?_)
    exact mr_i hC hr hlocks hG hS hf (Nat.le_of_ble_eq_true rfl) (Nat.le_of_ble_eq_true rfl) dX4_start_19
def fX4_fork_59_b (bk59 : Int32 → Int32 → Int32 → pw_S → Option (Int32 × pw_S)) (x1 : Int32) (x2 : Int32) (x3 : Int32) (σ : pw_S) : Option (Int32 × pw_S) := (if 16 ≤ x3 then some (x2, σ) else bnd (fX4_at x2 x3 σ) (fun r7 σ8 => bnd (fX4_at x1 x3 σ8) (fun r10 σ11 => ck (inb (r10) (160)) (ck (inb (r7) (160)) (ld (si σ11 9 (Int32.toNatClampNeg (r7)) ((gi σ11 9 (Int32.toNatClampNeg (r10))))) (fun σ15 => bnd (fX4_at x2 x3 σ15) (fun r17 σ18 => bnd (fX4_at x1 x3 σ18) (fun r20 σ21 => ck (inb (r20) (160)) (ck (inb (r17) (160)) (ld (si σ21 10 (Int32.toNatClampNeg (r17)) ((gi σ21 10 (Int32.toNatClampNeg (r20))))) (fun σ25 => bk59 x1 x2 (x3 + 1) σ25)))))))))))
def fX4_fork_59 : Nat → Int32 → Int32 → Int32 → pw_S → Option (Int32 × pw_S)
  | 0, _, _, _, _ => none
  | n + 1, x1, x2, x3, σ => fX4_fork_59_b (fX4_fork_59 n) x1 x2 x3 σ
def fX4_fork_40 (x1 : Int32) (y0 : Int32) (σ : pw_S) : Option (Int32 × pw_S) := ld (si σ 0 0 (y0)) (fun σ27 => (if (gi σ27 0 0) ≤ 0 then bnd (fX4_start σ27) (fun r30 σ31 => fX4_fork_59 1000 x1 r30 0 σ31) else some (0, σ27)))
def fX4_fork (a1 : Int32) (σ : pw_S) : Option (Int32 × pw_S) := bnd (fX4_isProcess a1 σ) (fun r33 σ34 => (if r33 = 0 then fX4_fork_40 a1 1 σ34 else ck (inb (a1) (10)) ((if (gi σ34 8 (Int32.toNatClampNeg (a1))) = 0 then fX4_fork_40 a1 2 σ34 else (if (gi σ34 0 12) = 10 then fX4_fork_40 a1 3 σ34 else fX4_fork_40 a1 0 σ34)))))
set_option maxHeartbeats 4000000 in
set_option maxRecDepth 100000 in
theorem kX4_fork (l : Launch) (D : va_G) (cA : Nat → ClassId) (A : Nat → Prop) (ad : Nat → Nat) {σ σ' : pw_S} {r : Int32} {a1 : Int32} (hf : fX4_fork a1 σ = some (r, σ')) : Met l yX4_fork (wA yX4_fork cX4_fork 4 (some .int)) ({ frames := 2, cells := 0, slots := 0, locals := 42 }) (pw_Pc D cA shM 15 A ad σ [.ref (ad 0), .int (a1)]) (pw_Qi D cA shM 15 A ad r σ') 0 0 A := by
  refine mw_enter (own := RX4) (by decide) rfl (Nat.le_of_ble_eq_true rfl) ?_
  intro p e s m args below meth c ls hC hr hlocks hK hA hX hG hS hl
  obtain ⟨hx, hb, hml, hown, hts⟩ := id hC
  have K59 : ∀ (n59 : Nat) (x1 : Int32) (x2 : Int32) (x3 : Int32) (σ : pw_S), fX4_fork_59 n59 x1 x2 x3 σ = some (r, σ') → mw_K p l e ({ frames := 2, cells := 0, slots := 0, locals := 42 }) s m args below meth c (MQ below (pw_Qi D cA shM 15 A ad r σ') args s 0 0 A) A D cA shM 15 ad 4 59 0 0 [(0, .ref (ad 0)), (1, .int (x1)), (2, .int (x2)), (3, .int (x3))] [] σ := by
    intro n59
    induction n59 with
    | zero => intro x1 x2 x3 σ hf; cases hf
    | succ n59 ih59 =>
      intro x1 x2 x3 σ hf H locs ls hG hS hl
      have hf : fX4_fork_59_b (fX4_fork_59 n59) x1 x2 x3 σ = some (r, σ') := hf
      unfold fX4_fork_59_b at hf
      refine lv_iload_n hx hb dX4_fork_59 rfl (lv_at hl 3 rfl) ?_
      refine lv_bipush (v := 16) hx hb dX4_fork_60 (by decide) ?_
      refine lv_icmp_ge (tgt := 111) hx hb dX4_fork_62 (by decide) (fun c6 => ?_) (fun c6 => ?_)
      · have hf := it_pos c6 hf
        refine lv_iload_n hx hb dX4_fork_111 rfl (lv_at hl 2 rfl) ?_
        exact mr_i hC hr hlocks hG hS hf (Nat.le_of_ble_eq_true rfl) (Nat.le_of_ble_eq_true rfl) dX4_fork_112
      · have hf := it_neg c6 hf
        refine lv_aload_n hx hb dX4_fork_65 rfl (lv_at hl 0 rfl) ?_
        refine mw_getl hx hb hts hown hK hG inlX4 rfl (hG.fix (by decide)) rfl 14 (by decide) 9 rfl wA_63 dX4_fork_66 ?_
        refine lv_iload_n hx hb dX4_fork_69 rfl (lv_at hl 2 rfl) ?_
        refine lv_iload_n hx hb dX4_fork_70 rfl (lv_at hl 3 rfl) ?_
        obtain ⟨r7, σ8, hc9, hf⟩ := bnd_some hf
        refine mc_i (mc_S (As := [.int (x2), .int (x3)]) hC hK hA hX hG hS (kX4_at l D cA A ad hc9) ykX4_at wA_138 wA_139 ⟨rfl, rfl, Nat.le_of_ble_eq_true rfl, Nat.le_of_ble_eq_true rfl⟩ rfl hl.1 rfl (Nat.le_of_ble_eq_true rfl) dX4_fork_71 ⟨Nat.le_of_ble_eq_true rfl, Nat.le_of_ble_eq_true rfl⟩) hS (fun H locs hG hS => ?_)
        refine lv_aload_n hx hb dX4_fork_74 rfl (lv_at hl 0 rfl) ?_
        refine mw_getl hx hb hts hown hK hG inlX4 rfl (hG.fix (by decide)) rfl 14 (by decide) 9 rfl wA_63 dX4_fork_75 ?_
        refine lv_iload_n hx hb dX4_fork_78 rfl (lv_at hl 1 rfl) ?_
        refine lv_iload_n hx hb dX4_fork_79 rfl (lv_at hl 3 rfl) ?_
        obtain ⟨r10, σ11, hc12, hf⟩ := bnd_some hf
        refine mc_i (mc_S (As := [.int (x1), .int (x3)]) hC hK hA hX hG hS (kX4_at l D cA A ad hc12) ykX4_at wA_138 wA_139 ⟨rfl, rfl, Nat.le_of_ble_eq_true rfl, Nat.le_of_ble_eq_true rfl⟩ rfl hl.1 rfl (Nat.le_of_ble_eq_true rfl) dX4_fork_80 ⟨Nat.le_of_ble_eq_true rfl, Nat.le_of_ble_eq_true rfl⟩) hS (fun H locs hG hS => ?_)
        obtain ⟨h13, hf⟩ := ck_some hf
        refine mw_iald hx hb hK hG (hG.fix (by decide)) rfl (inb_in h13) dX4_fork_83 ?_
        obtain ⟨h14, hf⟩ := ck_some hf
        refine mw_iast hx hb hK hG hS (hG.fix (by decide)) rfl (inb_in h14) dX4_fork_84 (fun H locs hG hS => ?_)
        obtain ⟨σ15, e16, hf⟩ := ld_some hf
        rw [← e16] at hG
        clear e16
        refine lv_aload_n hx hb dX4_fork_85 rfl (lv_at hl 0 rfl) ?_
        refine mw_getl hx hb hts hown hK hG inlX4 rfl (hG.fix (by decide)) rfl 15 (by decide) 10 rfl wA_64 dX4_fork_86 ?_
        refine lv_iload_n hx hb dX4_fork_89 rfl (lv_at hl 2 rfl) ?_
        refine lv_iload_n hx hb dX4_fork_90 rfl (lv_at hl 3 rfl) ?_
        obtain ⟨r17, σ18, hc19, hf⟩ := bnd_some hf
        refine mc_i (mc_S (As := [.int (x2), .int (x3)]) hC hK hA hX hG hS (kX4_at l D cA A ad hc19) ykX4_at wA_138 wA_139 ⟨rfl, rfl, Nat.le_of_ble_eq_true rfl, Nat.le_of_ble_eq_true rfl⟩ rfl hl.1 rfl (Nat.le_of_ble_eq_true rfl) dX4_fork_91 ⟨Nat.le_of_ble_eq_true rfl, Nat.le_of_ble_eq_true rfl⟩) hS (fun H locs hG hS => ?_)
        refine lv_aload_n hx hb dX4_fork_94 rfl (lv_at hl 0 rfl) ?_
        refine mw_getl hx hb hts hown hK hG inlX4 rfl (hG.fix (by decide)) rfl 15 (by decide) 10 rfl wA_64 dX4_fork_95 ?_
        refine lv_iload_n hx hb dX4_fork_98 rfl (lv_at hl 1 rfl) ?_
        refine lv_iload_n hx hb dX4_fork_99 rfl (lv_at hl 3 rfl) ?_
        obtain ⟨r20, σ21, hc22, hf⟩ := bnd_some hf
        refine mc_i (mc_S (As := [.int (x1), .int (x3)]) hC hK hA hX hG hS (kX4_at l D cA A ad hc22) ykX4_at wA_138 wA_139 ⟨rfl, rfl, Nat.le_of_ble_eq_true rfl, Nat.le_of_ble_eq_true rfl⟩ rfl hl.1 rfl (Nat.le_of_ble_eq_true rfl) dX4_fork_100 ⟨Nat.le_of_ble_eq_true rfl, Nat.le_of_ble_eq_true rfl⟩) hS (fun H locs hG hS => ?_)
        obtain ⟨h23, hf⟩ := ck_some hf
        refine mw_iald hx hb hK hG (hG.fix (by decide)) rfl (inb_in h23) dX4_fork_103 ?_
        obtain ⟨h24, hf⟩ := ck_some hf
        refine mw_iast hx hb hK hG hS (hG.fix (by decide)) rfl (inb_in h24) dX4_fork_104 (fun H locs hG hS => ?_)
        obtain ⟨σ25, e26, hf⟩ := ld_some hf
        rw [← e26] at hG
        clear e26
        refine lv_iinc (v := x3 + 1) (lv' := [(3, .int (x3 + 1)), (0, .ref (ad 0)), (1, .int (x1)), (2, .int (x2))]) hx hb dX4_fork_105 hl (k := 3) rfl rfl (by decide) rfl (fun ls hl => ?_)
        refine lv_goto (tgt := 59) hx hb dX4_fork_108 (by decide) ?_
        exact ih59 _ _ _ _ hf _ _ _ hG hS (lv_sub hl [1, 2, 3, 0] rfl)
  have K40 : ∀ (x1 : Int32) (y0 : Int32) (σ : pw_S), fX4_fork_40 x1 y0 σ = some (r, σ') → mw_K p l e ({ frames := 2, cells := 0, slots := 0, locals := 42 }) s m args below meth c (MQ below (pw_Qi D cA shM 15 A ad r σ') args s 0 0 A) A D cA shM 15 ad 4 40 0 0 [(0, .ref (ad 0)), (1, .int (x1))] [.int (y0), .ref (ad 0)] σ := by
    intro x1 y0 σ hf H locs ls hG hS hl
    unfold fX4_fork_40 at hf
    refine mw_puti hx hb hts hown hK hG hS inlX4 tyX4 tyX4_ok nmX4 rfl (hG.fix (by decide)) rfl 0 (by decide) rfl rfl rfl rfl wA_93 dX4_fork_40 (fun H locs hG hS => ?_)
    obtain ⟨σ27, e28, hf⟩ := ld_some hf
    rw [← e28] at hG
    clear e28
    refine lv_aload_n hx hb dX4_fork_43 rfl (lv_at hl 0 rfl) ?_
    refine mw_geti hx hb hts hown hK hG inlX4 rfl (hG.fix (by decide)) rfl 0 (by decide) rfl wA_93 dX4_fork_44 ?_
    refine lv_if_le (tgt := 52) hx hb dX4_fork_47 (by decide) (fun c29 => ?_) (fun c29 => ?_)
    · have hf := it_pos c29 hf
      refine lv_aload_n hx hb dX4_fork_52 rfl (lv_at hl 0 rfl) ?_
      obtain ⟨r30, σ31, hc32, hf⟩ := bnd_some hf
      refine mc_i (mc_V (As := []) hC hK hA hX hG hS (kX4_start l D cA A ad hc32) ykX4_start wA_178 wA_134 wA_135 (hG.fix (by decide)) rfl rfl ⟨rfl, rfl, Nat.le_of_ble_eq_true rfl, Nat.le_of_ble_eq_true rfl⟩ rfl hl.1 rfl (Nat.le_of_ble_eq_true rfl) dX4_fork_53 ⟨Nat.le_of_ble_eq_true rfl, Nat.le_of_ble_eq_true rfl⟩) hS (fun H locs hG hS => ?_)
      refine lv_istore_n (lv' := [(2, .int (r30)), (0, .ref (ad 0)), (1, .int (x1))]) hx hb dX4_fork_56 rfl hl (by decide) rfl (fun ls hl => ?_)
      refine lv_iconst (v := 0) hx hb dX4_fork_57 (by decide) ?_
      refine lv_istore_n (lv' := [(3, .int (0)), (2, .int (r30)), (0, .ref (ad 0)), (1, .int (x1))]) hx hb dX4_fork_58 rfl hl (by decide) rfl (fun ls hl => ?_)
      exact K59 1000 _ _ _ _ hf _ _ _ hG hS (lv_sub hl [2, 3, 1, 0] rfl)
    · have hf := it_neg c29 hf
      refine lv_iconst (v := 0) hx hb dX4_fork_50 (by decide) ?_
      exact mr_i hC hr hlocks hG hS hf (Nat.le_of_ble_eq_true rfl) (Nat.le_of_ble_eq_true rfl) dX4_fork_51
  have hl : lv_has ls 4 [(0, .ref (ad 0)), (1, .int (a1))] := hl
  unfold fX4_fork at hf
  refine lv_aload_n hx hb dX4_fork_0 rfl (lv_at hl 0 rfl) ?_
  refine lv_aload_n hx hb dX4_fork_1 rfl (lv_at hl 0 rfl) ?_
  refine lv_iload_n hx hb dX4_fork_2 rfl (lv_at hl 1 rfl) ?_
  obtain ⟨r33, σ34, hc35, hf⟩ := bnd_some hf
  refine mc_i (mc_V (As := [.int (a1)]) hC hK hA hX hG hS (kX4_isProcess l D cA A ad hc35) ykX4_isProcess wA_174 wA_175 wA_176 (hG.fix (by decide)) rfl rfl ⟨rfl, rfl, Nat.le_of_ble_eq_true rfl, Nat.le_of_ble_eq_true rfl⟩ rfl hl.1 rfl (Nat.le_of_ble_eq_true rfl) dX4_fork_3 ⟨Nat.le_of_ble_eq_true rfl, Nat.le_of_ble_eq_true rfl⟩) hS (fun H locs hG hS => ?_)
  refine lv_if_ne (tgt := 13) hx hb dX4_fork_6 (by decide) (fun c36 => ?_) (fun c36 => ?_)
  · have hf := it_neg c36 hf
    refine lv_aload_n hx hb dX4_fork_13 rfl (lv_at hl 0 rfl) ?_
    refine mw_getl hx hb hts hown hK hG inlX4 rfl (hG.fix (by decide)) rfl 13 (by decide) 8 rfl wA_62 dX4_fork_14 ?_
    refine lv_iload_n hx hb dX4_fork_17 rfl (lv_at hl 1 rfl) ?_
    obtain ⟨h37, hf⟩ := ck_some hf
    refine mw_zald hx hb hK hG (hG.fix (by decide)) rfl (inb_in h37) dX4_fork_18 ?_
    refine lv_if_ne (tgt := 26) hx hb dX4_fork_19 (by decide) (fun c38 => ?_) (fun c38 => ?_)
    · have hf := it_neg c38 hf
      refine lv_aload_n hx hb dX4_fork_26 rfl (lv_at hl 0 rfl) ?_
      refine mw_geti hx hb hts hown hK hG inlX4 rfl (hG.fix (by decide)) rfl 12 (by decide) rfl wA_137 dX4_fork_27 ?_
      refine lv_bipush (v := 10) hx hb dX4_fork_30 (by decide) ?_
      refine lv_icmp_ne (tgt := 39) hx hb dX4_fork_32 (by decide) (fun c39 => ?_) (fun c39 => ?_)
      · have hf := it_neg c39 hf
        refine lv_iconst (v := 0) hx hb dX4_fork_39 (by decide) ?_
        exact K40 _ _ _ hf _ _ _ hG hS (lv_sub hl [0, 1] rfl)
      · have hf := it_pos c39 hf
        refine lv_iconst (v := 3) hx hb dX4_fork_35 (by decide) ?_
        refine lv_goto (tgt := 40) hx hb dX4_fork_36 (by decide) ?_
        exact K40 _ _ _ hf _ _ _ hG hS (lv_sub hl [0, 1] rfl)
    · have hf := it_pos c38 hf
      refine lv_iconst (v := 2) hx hb dX4_fork_22 (by decide) ?_
      refine lv_goto (tgt := 40) hx hb dX4_fork_23 (by decide) ?_
      exact K40 _ _ _ hf _ _ _ hG hS (lv_sub hl [0, 1] rfl)
  · have hf := it_pos c36 hf
    refine lv_iconst (v := 1) hx hb dX4_fork_9 (by decide) ?_
    refine lv_goto (tgt := 40) hx hb dX4_fork_10 (by decide) ?_
    exact K40 _ _ _ hf _ _ _ hG hS (lv_sub hl [0, 1] rfl)
def fX4_clear (a1 : Int32) (a2 : Int32) (σ : pw_S) : Option (Int32 × pw_S) := bnd (fX4_at a1 a2 σ) (fun r1 σ2 => ck (inb (r1) (160)) (ld (si σ2 9 (Int32.toNatClampNeg (r1)) (0)) (fun σ5 => bnd (fX4_at a1 a2 σ5) (fun r7 σ8 => ck (inb (r7) (160)) (bnd (fX4_vanishes ((gi σ8 10 (Int32.toNatClampNeg (r7)))) σ8) (fun r11 σ12 => ck (isB (r11)) (some (r11, σ12))))))))
set_option maxHeartbeats 4000000 in
set_option maxRecDepth 100000 in
theorem kX4_clear (l : Launch) (D : va_G) (cA : Nat → ClassId) (A : Nat → Prop) (ad : Nat → Nat) {σ σ' : pw_S} {r : Int32} {a1 : Int32} {a2 : Int32} (hf : fX4_clear a1 a2 σ = some (r, σ')) : Met l yX4_clear (wA yX4_clear cX4_clear 3 (some .boolean)) ({ frames := 3, cells := 0, slots := 0, locals := 67 }) (pw_Pc D cA shM 15 A ad σ [.ref (ad 0), .int (a1), .int (a2)]) (pw_Qi D cA shM 15 A ad r σ') 0 0 A := by
  refine mw_enter (own := RX4) (by decide) rfl (Nat.le_of_ble_eq_true rfl) ?_
  intro p e s m args below meth c ls hC hr hlocks hK hA hX hG hS hl
  obtain ⟨hx, hb, hml, hown, hts⟩ := id hC
  have hl : lv_has ls 3 [(0, .ref (ad 0)), (1, .int (a1)), (2, .int (a2))] := hl
  unfold fX4_clear at hf
  refine lv_aload_n hx hb dX4_clear_0 rfl (lv_at hl 0 rfl) ?_
  refine mw_getl hx hb hts hown hK hG inlX4 rfl (hG.fix (by decide)) rfl 14 (by decide) 9 rfl wA_63 dX4_clear_1 ?_
  refine lv_iload_n hx hb dX4_clear_4 rfl (lv_at hl 1 rfl) ?_
  refine lv_iload_n hx hb dX4_clear_5 rfl (lv_at hl 2 rfl) ?_
  obtain ⟨r1, σ2, hc3, hf⟩ := bnd_some hf
  refine mc_i (mc_S (As := [.int (a1), .int (a2)]) hC hK hA hX hG hS (kX4_at l D cA A ad hc3) ykX4_at wA_138 wA_139 ⟨rfl, rfl, Nat.le_of_ble_eq_true rfl, Nat.le_of_ble_eq_true rfl⟩ rfl hl.1 rfl (Nat.le_of_ble_eq_true rfl) dX4_clear_6 ⟨Nat.le_of_ble_eq_true rfl, Nat.le_of_ble_eq_true rfl⟩) hS (fun H locs hG hS => ?_)
  refine lv_iconst (v := 0) hx hb dX4_clear_9 (by decide) ?_
  obtain ⟨h4, hf⟩ := ck_some hf
  refine mw_iast hx hb hK hG hS (hG.fix (by decide)) rfl (inb_in h4) dX4_clear_10 (fun H locs hG hS => ?_)
  obtain ⟨σ5, e6, hf⟩ := ld_some hf
  rw [← e6] at hG
  clear e6
  refine lv_aload_n hx hb dX4_clear_11 rfl (lv_at hl 0 rfl) ?_
  refine lv_aload_n hx hb dX4_clear_12 rfl (lv_at hl 0 rfl) ?_
  refine mw_getl hx hb hts hown hK hG inlX4 rfl (hG.fix (by decide)) rfl 15 (by decide) 10 rfl wA_64 dX4_clear_13 ?_
  refine lv_iload_n hx hb dX4_clear_16 rfl (lv_at hl 1 rfl) ?_
  refine lv_iload_n hx hb dX4_clear_17 rfl (lv_at hl 2 rfl) ?_
  obtain ⟨r7, σ8, hc9, hf⟩ := bnd_some hf
  refine mc_i (mc_S (As := [.int (a1), .int (a2)]) hC hK hA hX hG hS (kX4_at l D cA A ad hc9) ykX4_at wA_138 wA_139 ⟨rfl, rfl, Nat.le_of_ble_eq_true rfl, Nat.le_of_ble_eq_true rfl⟩ rfl hl.1 rfl (Nat.le_of_ble_eq_true rfl) dX4_clear_18 ⟨Nat.le_of_ble_eq_true rfl, Nat.le_of_ble_eq_true rfl⟩) hS (fun H locs hG hS => ?_)
  obtain ⟨h10, hf⟩ := ck_some hf
  refine mw_iald hx hb hK hG (hG.fix (by decide)) rfl (inb_in h10) dX4_clear_21 ?_
  obtain ⟨r11, σ12, hc13, hf⟩ := bnd_some hf
  refine mc_i (mc_V (As := [.int ((gi σ8 10 (Int32.toNatClampNeg (r7))))]) hC hK hA hX hG hS (kX4_vanishes l D cA A ad hc13) ykX4_vanishes wA_210 wA_211 wA_212 (hG.fix (by decide)) rfl rfl ⟨rfl, rfl, Nat.le_of_ble_eq_true rfl, Nat.le_of_ble_eq_true rfl⟩ rfl hl.1 rfl (Nat.le_of_ble_eq_true rfl) dX4_clear_22 ⟨Nat.le_of_ble_eq_true rfl, Nat.le_of_ble_eq_true rfl⟩) hS (fun H locs hG hS => ?_)
  obtain ⟨h14, hf⟩ := ck_some hf
  exact mr_z hC hr hlocks hG hS (isB_or h14) hf (Nat.le_of_ble_eq_true rfl) (Nat.le_of_ble_eq_true rfl) dX4_clear_25
def fX4_exit_84 (bk50 : Int32 → Int32 → Int32 → pw_S → Option (Int32 × pw_S)) (x1 : Int32) (x3 : Int32) (y0 : Int32) (y1 : Int32) (σ : pw_S) : Option (Int32 × pw_S) := bk50 x1 ((y1 + y0)) (x3 + 1) σ
def fX4_exit_83 (bk50 : Int32 → Int32 → Int32 → pw_S → Option (Int32 × pw_S)) (x1 : Int32) (x3 : Int32) (y0 : Int32) (σ : pw_S) : Option (Int32 × pw_S) := fX4_exit_84 bk50 x1 x3 0 y0 σ
def fX4_exit_50_b (bk50 : Int32 → Int32 → Int32 → pw_S → Option (Int32 × pw_S)) (x1 : Int32) (x2 : Int32) (x3 : Int32) (σ : pw_S) : Option (Int32 × pw_S) := (if 16 ≤ x3 then some (x2, σ) else bnd (fX4_at x1 x3 σ) (fun r8 σ9 => ck (inb (r8) (160)) ((if (gi σ9 9 (Int32.toNatClampNeg (r8))) ≤ 0 then fX4_exit_83 bk50 x1 x3 x2 σ9 else bnd (fX4_clear x1 x3 σ9) (fun r13 σ14 => (if r13 = 0 then fX4_exit_83 bk50 x1 x3 x2 σ14 else fX4_exit_84 bk50 x1 x3 1 x2 σ14))))))
def fX4_exit_50 : Nat → Int32 → Int32 → Int32 → pw_S → Option (Int32 × pw_S)
  | 0, _, _, _, _ => none
  | n + 1, x1, x2, x3, σ => fX4_exit_50_b (fX4_exit_50 n) x1 x2 x3 σ
def fX4_exit_27 (x1 : Int32) (y0 : Int32) (σ : pw_S) : Option (Int32 × pw_S) := ld (si σ 0 0 (y0)) (fun σ17 => (if (gi σ17 0 0) ≤ 0 then ck (inb (x1) (10)) (ld (si σ17 8 (Int32.toNatClampNeg (x1)) (0)) (fun σ21 => fX4_exit_50 1000 x1 0 0 σ21)) else some (0, σ17)))
def fX4_exit (a1 : Int32) (σ : pw_S) : Option (Int32 × pw_S) := bnd (fX4_isProcess a1 σ) (fun r23 σ24 => (if r23 = 0 then fX4_exit_27 a1 1 σ24 else ck (inb (a1) (10)) ((if (gi σ24 8 (Int32.toNatClampNeg (a1))) = 0 then fX4_exit_27 a1 2 σ24 else fX4_exit_27 a1 0 σ24))))
set_option maxHeartbeats 4000000 in
set_option maxRecDepth 100000 in
theorem kX4_exit (l : Launch) (D : va_G) (cA : Nat → ClassId) (A : Nat → Prop) (ad : Nat → Nat) {σ σ' : pw_S} {r : Int32} {a1 : Int32} (hf : fX4_exit a1 σ = some (r, σ')) : Met l yX4_exit (wA yX4_exit cX4_exit 4 (some .int)) ({ frames := 4, cells := 0, slots := 0, locals := 89 }) (pw_Pc D cA shM 15 A ad σ [.ref (ad 0), .int (a1)]) (pw_Qi D cA shM 15 A ad r σ') 0 0 A := by
  refine mw_enter (own := RX4) (by decide) rfl (Nat.le_of_ble_eq_true rfl) ?_
  intro p e s m args below meth c ls hC hr hlocks hK hA hX hG hS hl
  obtain ⟨hx, hb, hml, hown, hts⟩ := id hC
  have K50 : ∀ (n50 : Nat) (x1 : Int32) (x2 : Int32) (x3 : Int32) (σ : pw_S), fX4_exit_50 n50 x1 x2 x3 σ = some (r, σ') → mw_K p l e ({ frames := 4, cells := 0, slots := 0, locals := 89 }) s m args below meth c (MQ below (pw_Qi D cA shM 15 A ad r σ') args s 0 0 A) A D cA shM 15 ad 4 50 0 0 [(0, .ref (ad 0)), (1, .int (x1)), (2, .int (x2)), (3, .int (x3))] [] σ := by
    intro n50
    induction n50 with
    | zero => intro x1 x2 x3 σ hf; cases hf
    | succ n50 ih50 =>
      have K84 : ∀ (x1 : Int32) (x3 : Int32) (y0 : Int32) (y1 : Int32) (σ : pw_S), fX4_exit_84 (fX4_exit_50 n50) x1 x3 y0 y1 σ = some (r, σ') → mw_K p l e ({ frames := 4, cells := 0, slots := 0, locals := 89 }) s m args below meth c (MQ below (pw_Qi D cA shM 15 A ad r σ') args s 0 0 A) A D cA shM 15 ad 4 84 0 0 [(0, .ref (ad 0)), (1, .int (x1)), (3, .int (x3))] [.int (y0), .int (y1)] σ := by
        intro x1 x3 y0 y1 σ hf H locs ls hG hS hl
        unfold fX4_exit_84 at hf
        refine lv_iadd hx hb dX4_exit_84 ?_
        refine lv_istore_n (lv' := [(2, .int ((y1 + y0))), (0, .ref (ad 0)), (1, .int (x1)), (3, .int (x3))]) hx hb dX4_exit_85 rfl hl (by decide) rfl (fun ls hl => ?_)
        refine lv_iinc (v := x3 + 1) (lv' := [(3, .int (x3 + 1)), (2, .int ((y1 + y0))), (0, .ref (ad 0)), (1, .int (x1))]) hx hb dX4_exit_86 hl (k := 3) rfl rfl (by decide) rfl (fun ls hl => ?_)
        refine lv_goto (tgt := 50) hx hb dX4_exit_89 (by decide) ?_
        exact ih50 _ _ _ _ hf _ _ _ hG hS (lv_sub hl [2, 3, 1, 0] rfl)
      have K83 : ∀ (x1 : Int32) (x3 : Int32) (y0 : Int32) (σ : pw_S), fX4_exit_83 (fX4_exit_50 n50) x1 x3 y0 σ = some (r, σ') → mw_K p l e ({ frames := 4, cells := 0, slots := 0, locals := 89 }) s m args below meth c (MQ below (pw_Qi D cA shM 15 A ad r σ') args s 0 0 A) A D cA shM 15 ad 4 83 0 0 [(0, .ref (ad 0)), (1, .int (x1)), (3, .int (x3))] [.int (y0)] σ := by
        intro x1 x3 y0 σ hf H locs ls hG hS hl
        unfold fX4_exit_83 at hf
        refine lv_iconst (v := 0) hx hb dX4_exit_83 (by decide) ?_
        exact K84 _ _ _ _ _ hf _ _ _ hG hS (lv_sub hl [0, 1, 2] rfl)
      intro x1 x2 x3 σ hf H locs ls hG hS hl
      have hf : fX4_exit_50_b (fX4_exit_50 n50) x1 x2 x3 σ = some (r, σ') := hf
      unfold fX4_exit_50_b at hf
      refine lv_iload_n hx hb dX4_exit_50 rfl (lv_at hl 3 rfl) ?_
      refine lv_bipush (v := 16) hx hb dX4_exit_51 (by decide) ?_
      refine lv_icmp_ge (tgt := 92) hx hb dX4_exit_53 (by decide) (fun c7 => ?_) (fun c7 => ?_)
      · have hf := it_pos c7 hf
        refine lv_iload_n hx hb dX4_exit_92 rfl (lv_at hl 2 rfl) ?_
        exact mr_i hC hr hlocks hG hS hf (Nat.le_of_ble_eq_true rfl) (Nat.le_of_ble_eq_true rfl) dX4_exit_93
      · have hf := it_neg c7 hf
        refine lv_iload_n hx hb dX4_exit_56 rfl (lv_at hl 2 rfl) ?_
        refine lv_aload_n hx hb dX4_exit_57 rfl (lv_at hl 0 rfl) ?_
        refine mw_getl hx hb hts hown hK hG inlX4 rfl (hG.fix (by decide)) rfl 14 (by decide) 9 rfl wA_63 dX4_exit_58 ?_
        refine lv_iload_n hx hb dX4_exit_61 rfl (lv_at hl 1 rfl) ?_
        refine lv_iload_n hx hb dX4_exit_62 rfl (lv_at hl 3 rfl) ?_
        obtain ⟨r8, σ9, hc10, hf⟩ := bnd_some hf
        refine mc_i (mc_S (As := [.int (x1), .int (x3)]) hC hK hA hX hG hS (kX4_at l D cA A ad hc10) ykX4_at wA_138 wA_139 ⟨rfl, rfl, Nat.le_of_ble_eq_true rfl, Nat.le_of_ble_eq_true rfl⟩ rfl hl.1 rfl (Nat.le_of_ble_eq_true rfl) dX4_exit_63 ⟨Nat.le_of_ble_eq_true rfl, Nat.le_of_ble_eq_true rfl⟩) hS (fun H locs hG hS => ?_)
        obtain ⟨h11, hf⟩ := ck_some hf
        refine mw_iald hx hb hK hG (hG.fix (by decide)) rfl (inb_in h11) dX4_exit_66 ?_
        refine lv_if_le (tgt := 83) hx hb dX4_exit_67 (by decide) (fun c12 => ?_) (fun c12 => ?_)
        · have hf := it_pos c12 hf
          exact K83 _ _ _ _ hf _ _ _ hG hS (lv_sub hl [0, 1, 3] rfl)
        · have hf := it_neg c12 hf
          refine lv_aload_n hx hb dX4_exit_70 rfl (lv_at hl 0 rfl) ?_
          refine lv_iload_n hx hb dX4_exit_71 rfl (lv_at hl 1 rfl) ?_
          refine lv_iload_n hx hb dX4_exit_72 rfl (lv_at hl 3 rfl) ?_
          obtain ⟨r13, σ14, hc15, hf⟩ := bnd_some hf
          refine mc_i (mc_V (As := [.int (x1), .int (x3)]) hC hK hA hX hG hS (kX4_clear l D cA A ad hc15) ykX4_clear wA_206 wA_207 wA_208 (hG.fix (by decide)) rfl rfl ⟨rfl, rfl, Nat.le_of_ble_eq_true rfl, Nat.le_of_ble_eq_true rfl⟩ rfl hl.1 rfl (Nat.le_of_ble_eq_true rfl) dX4_exit_73 ⟨Nat.le_of_ble_eq_true rfl, Nat.le_of_ble_eq_true rfl⟩) hS (fun H locs hG hS => ?_)
          refine lv_if_eq (tgt := 83) hx hb dX4_exit_76 (by decide) (fun c16 => ?_) (fun c16 => ?_)
          · have hf := it_pos c16 hf
            exact K83 _ _ _ _ hf _ _ _ hG hS (lv_sub hl [0, 1, 3] rfl)
          · have hf := it_neg c16 hf
            refine lv_iconst (v := 1) hx hb dX4_exit_79 (by decide) ?_
            refine lv_goto (tgt := 84) hx hb dX4_exit_80 (by decide) ?_
            exact K84 _ _ _ _ _ hf _ _ _ hG hS (lv_sub hl [0, 1, 3] rfl)
  have K27 : ∀ (x1 : Int32) (y0 : Int32) (σ : pw_S), fX4_exit_27 x1 y0 σ = some (r, σ') → mw_K p l e ({ frames := 4, cells := 0, slots := 0, locals := 89 }) s m args below meth c (MQ below (pw_Qi D cA shM 15 A ad r σ') args s 0 0 A) A D cA shM 15 ad 4 27 0 0 [(0, .ref (ad 0)), (1, .int (x1))] [.int (y0), .ref (ad 0)] σ := by
    intro x1 y0 σ hf H locs ls hG hS hl
    unfold fX4_exit_27 at hf
    refine mw_puti hx hb hts hown hK hG hS inlX4 tyX4 tyX4_ok nmX4 rfl (hG.fix (by decide)) rfl 0 (by decide) rfl rfl rfl rfl wA_93 dX4_exit_27 (fun H locs hG hS => ?_)
    obtain ⟨σ17, e18, hf⟩ := ld_some hf
    rw [← e18] at hG
    clear e18
    refine lv_aload_n hx hb dX4_exit_30 rfl (lv_at hl 0 rfl) ?_
    refine mw_geti hx hb hts hown hK hG inlX4 rfl (hG.fix (by decide)) rfl 0 (by decide) rfl wA_93 dX4_exit_31 ?_
    refine lv_if_le (tgt := 39) hx hb dX4_exit_34 (by decide) (fun c19 => ?_) (fun c19 => ?_)
    · have hf := it_pos c19 hf
      refine lv_aload_n hx hb dX4_exit_39 rfl (lv_at hl 0 rfl) ?_
      refine mw_getl hx hb hts hown hK hG inlX4 rfl (hG.fix (by decide)) rfl 13 (by decide) 8 rfl wA_62 dX4_exit_40 ?_
      refine lv_iload_n hx hb dX4_exit_43 rfl (lv_at hl 1 rfl) ?_
      refine lv_iconst (v := 0) hx hb dX4_exit_44 (by decide) ?_
      obtain ⟨h20, hf⟩ := ck_some hf
      refine mw_zast hx hb hK hG hS (hG.fix (by decide)) rfl rfl (inb_in h20) dX4_exit_45 (fun H locs hG hS => ?_)
      obtain ⟨σ21, e22, hf⟩ := ld_some hf
      rw [← e22] at hG
      clear e22
      refine lv_iconst (v := 0) hx hb dX4_exit_46 (by decide) ?_
      refine lv_istore_n (lv' := [(2, .int (0)), (0, .ref (ad 0)), (1, .int (x1))]) hx hb dX4_exit_47 rfl hl (by decide) rfl (fun ls hl => ?_)
      refine lv_iconst (v := 0) hx hb dX4_exit_48 (by decide) ?_
      refine lv_istore_n (lv' := [(3, .int (0)), (2, .int (0)), (0, .ref (ad 0)), (1, .int (x1))]) hx hb dX4_exit_49 rfl hl (by decide) rfl (fun ls hl => ?_)
      exact K50 1000 _ _ _ _ hf _ _ _ hG hS (lv_sub hl [2, 3, 1, 0] rfl)
    · have hf := it_neg c19 hf
      refine lv_iconst (v := 0) hx hb dX4_exit_37 (by decide) ?_
      exact mr_i hC hr hlocks hG hS hf (Nat.le_of_ble_eq_true rfl) (Nat.le_of_ble_eq_true rfl) dX4_exit_38
  have hl : lv_has ls 4 [(0, .ref (ad 0)), (1, .int (a1))] := hl
  unfold fX4_exit at hf
  refine lv_aload_n hx hb dX4_exit_0 rfl (lv_at hl 0 rfl) ?_
  refine lv_aload_n hx hb dX4_exit_1 rfl (lv_at hl 0 rfl) ?_
  refine lv_iload_n hx hb dX4_exit_2 rfl (lv_at hl 1 rfl) ?_
  obtain ⟨r23, σ24, hc25, hf⟩ := bnd_some hf
  refine mc_i (mc_V (As := [.int (a1)]) hC hK hA hX hG hS (kX4_isProcess l D cA A ad hc25) ykX4_isProcess wA_174 wA_175 wA_176 (hG.fix (by decide)) rfl rfl ⟨rfl, rfl, Nat.le_of_ble_eq_true rfl, Nat.le_of_ble_eq_true rfl⟩ rfl hl.1 rfl (Nat.le_of_ble_eq_true rfl) dX4_exit_3 ⟨Nat.le_of_ble_eq_true rfl, Nat.le_of_ble_eq_true rfl⟩) hS (fun H locs hG hS => ?_)
  refine lv_if_ne (tgt := 13) hx hb dX4_exit_6 (by decide) (fun c26 => ?_) (fun c26 => ?_)
  · have hf := it_neg c26 hf
    refine lv_aload_n hx hb dX4_exit_13 rfl (lv_at hl 0 rfl) ?_
    refine mw_getl hx hb hts hown hK hG inlX4 rfl (hG.fix (by decide)) rfl 13 (by decide) 8 rfl wA_62 dX4_exit_14 ?_
    refine lv_iload_n hx hb dX4_exit_17 rfl (lv_at hl 1 rfl) ?_
    obtain ⟨h27, hf⟩ := ck_some hf
    refine mw_zald hx hb hK hG (hG.fix (by decide)) rfl (inb_in h27) dX4_exit_18 ?_
    refine lv_if_ne (tgt := 26) hx hb dX4_exit_19 (by decide) (fun c28 => ?_) (fun c28 => ?_)
    · have hf := it_neg c28 hf
      refine lv_iconst (v := 0) hx hb dX4_exit_26 (by decide) ?_
      exact K27 _ _ _ hf _ _ _ hG hS (lv_sub hl [0, 1] rfl)
    · have hf := it_pos c28 hf
      refine lv_iconst (v := 2) hx hb dX4_exit_22 (by decide) ?_
      refine lv_goto (tgt := 27) hx hb dX4_exit_23 (by decide) ?_
      exact K27 _ _ _ hf _ _ _ hG hS (lv_sub hl [0, 1] rfl)
  · have hf := it_pos c26 hf
    refine lv_iconst (v := 1) hx hb dX4_exit_9 (by decide) ?_
    refine lv_goto (tgt := 27) hx hb dX4_exit_10 (by decide) ?_
    exact K27 _ _ _ hf _ _ _ hG hS (lv_sub hl [0, 1] rfl)
def fX4_mapped_29 (bk4 : Int32 → Int32 → Int32 → pw_S → Option (Int32 × pw_S)) (x1 : Int32) (x3 : Int32) (y0 : Int32) (y1 : Int32) (σ : pw_S) : Option (Int32 × pw_S) := bk4 x1 ((y1 + y0)) (x3 + 1) σ
def fX4_mapped_4_b (bk4 : Int32 → Int32 → Int32 → pw_S → Option (Int32 × pw_S)) (x1 : Int32) (x2 : Int32) (x3 : Int32) (σ : pw_S) : Option (Int32 × pw_S) := (if 16 ≤ x3 then some (x2, σ) else bnd (fX4_at x1 x3 σ) (fun r4 σ5 => ck (inb (r4) (160)) ((if (gi σ5 9 (Int32.toNatClampNeg (r4))) ≤ 0 then fX4_mapped_29 bk4 x1 x3 0 x2 σ5 else fX4_mapped_29 bk4 x1 x3 1 x2 σ5))))
def fX4_mapped_4 : Nat → Int32 → Int32 → Int32 → pw_S → Option (Int32 × pw_S)
  | 0, _, _, _, _ => none
  | n + 1, x1, x2, x3, σ => fX4_mapped_4_b (fX4_mapped_4 n) x1 x2 x3 σ
def fX4_mapped (a1 : Int32) (σ : pw_S) : Option (Int32 × pw_S) := fX4_mapped_4 1000 a1 0 0 σ
set_option maxHeartbeats 4000000 in
set_option maxRecDepth 100000 in
theorem kX4_mapped (l : Launch) (D : va_G) (cA : Nat → ClassId) (A : Nat → Prop) (ad : Nat → Nat) {σ σ' : pw_S} {r : Int32} {a1 : Int32} (hf : fX4_mapped a1 σ = some (r, σ')) : Met l yX4_mapped (wA yX4_mapped cX4_mapped 4 (some .int)) ({ frames := 1, cells := 0, slots := 0, locals := 21 }) (pw_Pc D cA shM 15 A ad σ [.ref (ad 0), .int (a1)]) (pw_Qi D cA shM 15 A ad r σ') 0 0 A := by
  refine mw_enter (own := RX4) (by decide) rfl (Nat.le_of_ble_eq_true rfl) ?_
  intro p e s m args below meth c ls hC hr hlocks hK hA hX hG hS hl
  obtain ⟨hx, hb, hml, hown, hts⟩ := id hC
  have K4 : ∀ (n4 : Nat) (x1 : Int32) (x2 : Int32) (x3 : Int32) (σ : pw_S), fX4_mapped_4 n4 x1 x2 x3 σ = some (r, σ') → mw_K p l e ({ frames := 1, cells := 0, slots := 0, locals := 21 }) s m args below meth c (MQ below (pw_Qi D cA shM 15 A ad r σ') args s 0 0 A) A D cA shM 15 ad 4 4 0 0 [(0, .ref (ad 0)), (1, .int (x1)), (2, .int (x2)), (3, .int (x3))] [] σ := by
    intro n4
    induction n4 with
    | zero => intro x1 x2 x3 σ hf; cases hf
    | succ n4 ih4 =>
      have K29 : ∀ (x1 : Int32) (x3 : Int32) (y0 : Int32) (y1 : Int32) (σ : pw_S), fX4_mapped_29 (fX4_mapped_4 n4) x1 x3 y0 y1 σ = some (r, σ') → mw_K p l e ({ frames := 1, cells := 0, slots := 0, locals := 21 }) s m args below meth c (MQ below (pw_Qi D cA shM 15 A ad r σ') args s 0 0 A) A D cA shM 15 ad 4 29 0 0 [(0, .ref (ad 0)), (1, .int (x1)), (3, .int (x3))] [.int (y0), .int (y1)] σ := by
        intro x1 x3 y0 y1 σ hf H locs ls hG hS hl
        unfold fX4_mapped_29 at hf
        refine lv_iadd hx hb dX4_mapped_29 ?_
        refine lv_istore_n (lv' := [(2, .int ((y1 + y0))), (0, .ref (ad 0)), (1, .int (x1)), (3, .int (x3))]) hx hb dX4_mapped_30 rfl hl (by decide) rfl (fun ls hl => ?_)
        refine lv_iinc (v := x3 + 1) (lv' := [(3, .int (x3 + 1)), (2, .int ((y1 + y0))), (0, .ref (ad 0)), (1, .int (x1))]) hx hb dX4_mapped_31 hl (k := 3) rfl rfl (by decide) rfl (fun ls hl => ?_)
        refine lv_goto (tgt := 4) hx hb dX4_mapped_34 (by decide) ?_
        exact ih4 _ _ _ _ hf _ _ _ hG hS (lv_sub hl [2, 3, 1, 0] rfl)
      intro x1 x2 x3 σ hf H locs ls hG hS hl
      have hf : fX4_mapped_4_b (fX4_mapped_4 n4) x1 x2 x3 σ = some (r, σ') := hf
      unfold fX4_mapped_4_b at hf
      refine lv_iload_n hx hb dX4_mapped_4 rfl (lv_at hl 3 rfl) ?_
      refine lv_bipush (v := 16) hx hb dX4_mapped_5 (by decide) ?_
      refine lv_icmp_ge (tgt := 37) hx hb dX4_mapped_7 (by decide) (fun c3 => ?_) (fun c3 => ?_)
      · have hf := it_pos c3 hf
        refine lv_iload_n hx hb dX4_mapped_37 rfl (lv_at hl 2 rfl) ?_
        exact mr_i hC hr hlocks hG hS hf (Nat.le_of_ble_eq_true rfl) (Nat.le_of_ble_eq_true rfl) dX4_mapped_38
      · have hf := it_neg c3 hf
        refine lv_iload_n hx hb dX4_mapped_10 rfl (lv_at hl 2 rfl) ?_
        refine lv_aload_n hx hb dX4_mapped_11 rfl (lv_at hl 0 rfl) ?_
        refine mw_getl hx hb hts hown hK hG inlX4 rfl (hG.fix (by decide)) rfl 14 (by decide) 9 rfl wA_63 dX4_mapped_12 ?_
        refine lv_iload_n hx hb dX4_mapped_15 rfl (lv_at hl 1 rfl) ?_
        refine lv_iload_n hx hb dX4_mapped_16 rfl (lv_at hl 3 rfl) ?_
        obtain ⟨r4, σ5, hc6, hf⟩ := bnd_some hf
        refine mc_i (mc_S (As := [.int (x1), .int (x3)]) hC hK hA hX hG hS (kX4_at l D cA A ad hc6) ykX4_at wA_138 wA_139 ⟨rfl, rfl, Nat.le_of_ble_eq_true rfl, Nat.le_of_ble_eq_true rfl⟩ rfl hl.1 rfl (Nat.le_of_ble_eq_true rfl) dX4_mapped_17 ⟨Nat.le_of_ble_eq_true rfl, Nat.le_of_ble_eq_true rfl⟩) hS (fun H locs hG hS => ?_)
        obtain ⟨h7, hf⟩ := ck_some hf
        refine mw_iald hx hb hK hG (hG.fix (by decide)) rfl (inb_in h7) dX4_mapped_20 ?_
        refine lv_if_le (tgt := 28) hx hb dX4_mapped_21 (by decide) (fun c8 => ?_) (fun c8 => ?_)
        · have hf := it_pos c8 hf
          refine lv_iconst (v := 0) hx hb dX4_mapped_28 (by decide) ?_
          exact K29 _ _ _ _ _ hf _ _ _ hG hS (lv_sub hl [0, 1, 3] rfl)
        · have hf := it_neg c8 hf
          refine lv_iconst (v := 1) hx hb dX4_mapped_24 (by decide) ?_
          refine lv_goto (tgt := 29) hx hb dX4_mapped_25 (by decide) ?_
          exact K29 _ _ _ _ _ hf _ _ _ hG hS (lv_sub hl [0, 1, 3] rfl)
  have hl : lv_has ls 4 [(0, .ref (ad 0)), (1, .int (a1))] := hl
  unfold fX4_mapped at hf
  refine lv_iconst (v := 0) hx hb dX4_mapped_0 (by decide) ?_
  refine lv_istore_n (lv' := [(2, .int (0)), (0, .ref (ad 0)), (1, .int (a1))]) hx hb dX4_mapped_1 rfl hl (by decide) rfl (fun ls hl => ?_)
  refine lv_iconst (v := 0) hx hb dX4_mapped_2 (by decide) ?_
  refine lv_istore_n (lv' := [(3, .int (0)), (2, .int (0)), (0, .ref (ad 0)), (1, .int (a1))]) hx hb dX4_mapped_3 rfl hl (by decide) rfl (fun ls hl => ?_)
  exact K4 1000 _ _ _ _ hf _ _ _ hG hS (lv_sub hl [2, 3, 1, 0] rfl)
def fX4_canMap_70 (y0 : Int32) (σ : pw_S) : Option (Int32 × pw_S) := ck (isB (y0)) (some (y0, σ))
def fX4_canMap_55 (y0 : Int32) (σ : pw_S) : Option (Int32 × pw_S) := ld (si σ 0 0 (y0)) (fun σ8 => (if (gi σ8 0 0) = 0 then fX4_canMap_70 1 σ8 else fX4_canMap_70 0 σ8))
def fX4_canMap_20 (σ : pw_S) : Option (Int32 × pw_S) := fX4_canMap_55 1 σ
def fX4_canMap (a1 : Int32) (a2 : Int32) (a3 : Int32) (σ : pw_S) : Option (Int32 × pw_S) := bnd (fX4_isProcess a1 σ) (fun r11 σ12 => (if r11 = 0 then fX4_canMap_20 σ12 else bnd (fX4_isPage a2 σ12) (fun r15 σ16 => (if r15 = 0 then fX4_canMap_20 σ16 else (if a3 = 0 then fX4_canMap_20 σ16 else ck (inb (a1) (10)) ((if (gi σ16 8 (Int32.toNatClampNeg (a1))) = 0 then fX4_canMap_55 2 σ16 else bnd (fX4_at a1 a2 σ16) (fun r22 σ23 => ck (inb (r22) (160)) ((if (gi σ23 9 (Int32.toNatClampNeg (r22))) ≤ 0 then fX4_canMap_55 0 σ23 else fX4_canMap_55 3 σ23))))))))))
set_option maxHeartbeats 4000000 in
set_option maxRecDepth 100000 in
theorem kX4_canMap (l : Launch) (D : va_G) (cA : Nat → ClassId) (A : Nat → Prop) (ad : Nat → Nat) {σ σ' : pw_S} {r : Int32} {a1 : Int32} {a2 : Int32} {a3 : Int32} (hf : fX4_canMap a1 a2 a3 σ = some (r, σ')) : Met l yX4_canMap (wA yX4_canMap cX4_canMap 4 (some .boolean)) ({ frames := 1, cells := 0, slots := 0, locals := 21 }) (pw_Pc D cA shM 15 A ad σ [.ref (ad 0), .int (a1), .int (a2), .int (a3)]) (pw_Qi D cA shM 15 A ad r σ') 0 0 A := by
  refine mw_enter (own := RX4) (by decide) rfl (Nat.le_of_ble_eq_true rfl) ?_
  intro p e s m args below meth c ls hC hr hlocks hK hA hX hG hS hl
  obtain ⟨hx, hb, hml, hown, hts⟩ := id hC
  have K70 : ∀ (y0 : Int32) (σ : pw_S), fX4_canMap_70 y0 σ = some (r, σ') → mw_K p l e ({ frames := 1, cells := 0, slots := 0, locals := 21 }) s m args below meth c (MQ below (pw_Qi D cA shM 15 A ad r σ') args s 0 0 A) A D cA shM 15 ad 4 70 0 0 [] [.int (y0)] σ := by
    intro y0 σ hf H locs ls hG hS hl
    unfold fX4_canMap_70 at hf
    obtain ⟨h7, hf⟩ := ck_some hf
    exact mr_z hC hr hlocks hG hS (isB_or h7) hf (Nat.le_of_ble_eq_true rfl) (Nat.le_of_ble_eq_true rfl) dX4_canMap_70
  have K55 : ∀ (y0 : Int32) (σ : pw_S), fX4_canMap_55 y0 σ = some (r, σ') → mw_K p l e ({ frames := 1, cells := 0, slots := 0, locals := 21 }) s m args below meth c (MQ below (pw_Qi D cA shM 15 A ad r σ') args s 0 0 A) A D cA shM 15 ad 4 55 0 0 [(0, .ref (ad 0))] [.int (y0), .ref (ad 0)] σ := by
    intro y0 σ hf H locs ls hG hS hl
    unfold fX4_canMap_55 at hf
    refine mw_puti hx hb hts hown hK hG hS inlX4 tyX4 tyX4_ok nmX4 rfl (hG.fix (by decide)) rfl 0 (by decide) rfl rfl rfl rfl wA_93 dX4_canMap_55 (fun H locs hG hS => ?_)
    obtain ⟨σ8, e9, hf⟩ := ld_some hf
    rw [← e9] at hG
    clear e9
    refine lv_aload_n hx hb dX4_canMap_58 rfl (lv_at hl 0 rfl) ?_
    refine mw_geti hx hb hts hown hK hG inlX4 rfl (hG.fix (by decide)) rfl 0 (by decide) rfl wA_93 dX4_canMap_59 ?_
    refine lv_if_ne (tgt := 69) hx hb dX4_canMap_62 (by decide) (fun c10 => ?_) (fun c10 => ?_)
    · have hf := it_neg c10 hf
      refine lv_iconst (v := 0) hx hb dX4_canMap_69 (by decide) ?_
      exact K70 _ _ hf _ _ _ hG hS (lv_sub hl [] rfl)
    · have hf := it_pos c10 hf
      refine lv_iconst (v := 1) hx hb dX4_canMap_65 (by decide) ?_
      refine lv_goto (tgt := 70) hx hb dX4_canMap_66 (by decide) ?_
      exact K70 _ _ hf _ _ _ hG hS (lv_sub hl [] rfl)
  have K20 : ∀ (σ : pw_S), fX4_canMap_20  σ = some (r, σ') → mw_K p l e ({ frames := 1, cells := 0, slots := 0, locals := 21 }) s m args below meth c (MQ below (pw_Qi D cA shM 15 A ad r σ') args s 0 0 A) A D cA shM 15 ad 4 20 0 0 [(0, .ref (ad 0))] [.ref (ad 0)] σ := by
    intro  σ hf H locs ls hG hS hl
    unfold fX4_canMap_20 at hf
    refine lv_iconst (v := 1) hx hb dX4_canMap_20 (by decide) ?_
    refine lv_goto (tgt := 55) hx hb dX4_canMap_21 (by decide) ?_
    exact K55 _ _ hf _ _ _ hG hS (lv_sub hl [0] rfl)
  have hl : lv_has ls 4 [(0, .ref (ad 0)), (1, .int (a1)), (2, .int (a2)), (3, .int (a3))] := hl
  unfold fX4_canMap at hf
  refine lv_aload_n hx hb dX4_canMap_0 rfl (lv_at hl 0 rfl) ?_
  refine lv_aload_n hx hb dX4_canMap_1 rfl (lv_at hl 0 rfl) ?_
  refine lv_iload_n hx hb dX4_canMap_2 rfl (lv_at hl 1 rfl) ?_
  obtain ⟨r11, σ12, hc13, hf⟩ := bnd_some hf
  refine mc_i (mc_V (As := [.int (a1)]) hC hK hA hX hG hS (kX4_isProcess l D cA A ad hc13) ykX4_isProcess wA_174 wA_175 wA_176 (hG.fix (by decide)) rfl rfl ⟨rfl, rfl, Nat.le_of_ble_eq_true rfl, Nat.le_of_ble_eq_true rfl⟩ rfl hl.1 rfl (Nat.le_of_ble_eq_true rfl) dX4_canMap_3 ⟨Nat.le_of_ble_eq_true rfl, Nat.le_of_ble_eq_true rfl⟩) hS (fun H locs hG hS => ?_)
  refine lv_if_eq (tgt := 20) hx hb dX4_canMap_6 (by decide) (fun c14 => ?_) (fun c14 => ?_)
  · have hf := it_pos c14 hf
    exact K20 _ hf _ _ _ hG hS (lv_sub hl [0] rfl)
  · have hf := it_neg c14 hf
    refine lv_iload_n hx hb dX4_canMap_9 rfl (lv_at hl 2 rfl) ?_
    obtain ⟨r15, σ16, hc17, hf⟩ := bnd_some hf
    refine mc_i (mc_S (As := [.int (a2)]) hC hK hA hX hG hS (kX4_isPage l D cA A ad hc17) ykX4_isPage wA_275 wA_276 ⟨rfl, rfl, Nat.le_of_ble_eq_true rfl, Nat.le_of_ble_eq_true rfl⟩ rfl hl.1 rfl (Nat.le_of_ble_eq_true rfl) dX4_canMap_10 ⟨Nat.le_of_ble_eq_true rfl, Nat.le_of_ble_eq_true rfl⟩) hS (fun H locs hG hS => ?_)
    refine lv_if_eq (tgt := 20) hx hb dX4_canMap_13 (by decide) (fun c18 => ?_) (fun c18 => ?_)
    · have hf := it_pos c18 hf
      exact K20 _ hf _ _ _ hG hS (lv_sub hl [0] rfl)
    · have hf := it_neg c18 hf
      refine lv_iload_n hx hb dX4_canMap_16 rfl (lv_at hl 3 rfl) ?_
      refine lv_if_ne (tgt := 24) hx hb dX4_canMap_17 (by decide) (fun c19 => ?_) (fun c19 => ?_)
      · have hf := it_neg c19 hf
        refine lv_aload_n hx hb dX4_canMap_24 rfl (lv_at hl 0 rfl) ?_
        refine mw_getl hx hb hts hown hK hG inlX4 rfl (hG.fix (by decide)) rfl 13 (by decide) 8 rfl wA_62 dX4_canMap_25 ?_
        refine lv_iload_n hx hb dX4_canMap_28 rfl (lv_at hl 1 rfl) ?_
        obtain ⟨h20, hf⟩ := ck_some hf
        refine mw_zald hx hb hK hG (hG.fix (by decide)) rfl (inb_in h20) dX4_canMap_29 ?_
        refine lv_if_ne (tgt := 37) hx hb dX4_canMap_30 (by decide) (fun c21 => ?_) (fun c21 => ?_)
        · have hf := it_neg c21 hf
          refine lv_aload_n hx hb dX4_canMap_37 rfl (lv_at hl 0 rfl) ?_
          refine mw_getl hx hb hts hown hK hG inlX4 rfl (hG.fix (by decide)) rfl 14 (by decide) 9 rfl wA_63 dX4_canMap_38 ?_
          refine lv_iload_n hx hb dX4_canMap_41 rfl (lv_at hl 1 rfl) ?_
          refine lv_iload_n hx hb dX4_canMap_42 rfl (lv_at hl 2 rfl) ?_
          obtain ⟨r22, σ23, hc24, hf⟩ := bnd_some hf
          refine mc_i (mc_S (As := [.int (a1), .int (a2)]) hC hK hA hX hG hS (kX4_at l D cA A ad hc24) ykX4_at wA_138 wA_139 ⟨rfl, rfl, Nat.le_of_ble_eq_true rfl, Nat.le_of_ble_eq_true rfl⟩ rfl hl.1 rfl (Nat.le_of_ble_eq_true rfl) dX4_canMap_43 ⟨Nat.le_of_ble_eq_true rfl, Nat.le_of_ble_eq_true rfl⟩) hS (fun H locs hG hS => ?_)
          obtain ⟨h25, hf⟩ := ck_some hf
          refine mw_iald hx hb hK hG (hG.fix (by decide)) rfl (inb_in h25) dX4_canMap_46 ?_
          refine lv_if_le (tgt := 54) hx hb dX4_canMap_47 (by decide) (fun c26 => ?_) (fun c26 => ?_)
          · have hf := it_pos c26 hf
            refine lv_iconst (v := 0) hx hb dX4_canMap_54 (by decide) ?_
            exact K55 _ _ hf _ _ _ hG hS (lv_sub hl [0] rfl)
          · have hf := it_neg c26 hf
            refine lv_iconst (v := 3) hx hb dX4_canMap_50 (by decide) ?_
            refine lv_goto (tgt := 55) hx hb dX4_canMap_51 (by decide) ?_
            exact K55 _ _ hf _ _ _ hG hS (lv_sub hl [0] rfl)
        · have hf := it_pos c21 hf
          refine lv_iconst (v := 2) hx hb dX4_canMap_33 (by decide) ?_
          refine lv_goto (tgt := 55) hx hb dX4_canMap_34 (by decide) ?_
          exact K55 _ _ hf _ _ _ hG hS (lv_sub hl [0] rfl)
      · have hf := it_pos c19 hf
        exact K20 _ hf _ _ _ hG hS (lv_sub hl [0] rfl)
def fX4_map (a1 : Int32) (a2 : Int32) (σ : pw_S) : Option (Int32 × pw_S) := bnd (fX4_canMap a1 a2 1 σ) (fun r2 σ3 => (if r2 = 0 then some (0, σ3) else bnd (fX4_at a1 a2 σ3) (fun r6 σ7 => ck (inb (r6) (160)) (ld (si σ7 9 (Int32.toNatClampNeg (r6)) (1)) (fun σ10 => bnd (fX4_at a1 a2 σ10) (fun r12 σ13 => bnd (fX4_create σ13) (fun r15 σ16 => ck (inb (r12) (160)) (ld (si σ16 10 (Int32.toNatClampNeg (r12)) (r15)) (fun σ19 => bnd (fX4_mapped a1 σ19) (fun r21 σ22 => some (r21, σ22)))))))))))
set_option maxHeartbeats 4000000 in
set_option maxRecDepth 100000 in
theorem kX4_map (l : Launch) (D : va_G) (cA : Nat → ClassId) (A : Nat → Prop) (ad : Nat → Nat) {σ σ' : pw_S} {r : Int32} {a1 : Int32} {a2 : Int32} (hf : fX4_map a1 a2 σ = some (r, σ')) : Met l yX4_map (wA yX4_map cX4_map 3 (some .int)) ({ frames := 2, cells := 0, slots := 0, locals := 44 }) (pw_Pc D cA shM 15 A ad σ [.ref (ad 0), .int (a1), .int (a2)]) (pw_Qi D cA shM 15 A ad r σ') 0 0 A := by
  refine mw_enter (own := RX4) (by decide) rfl (Nat.le_of_ble_eq_true rfl) ?_
  intro p e s m args below meth c ls hC hr hlocks hK hA hX hG hS hl
  obtain ⟨hx, hb, hml, hown, hts⟩ := id hC
  have hl : lv_has ls 3 [(0, .ref (ad 0)), (1, .int (a1)), (2, .int (a2))] := hl
  unfold fX4_map at hf
  refine lv_aload_n hx hb dX4_map_0 rfl (lv_at hl 0 rfl) ?_
  refine lv_iload_n hx hb dX4_map_1 rfl (lv_at hl 1 rfl) ?_
  refine lv_iload_n hx hb dX4_map_2 rfl (lv_at hl 2 rfl) ?_
  refine lv_iconst (v := 1) hx hb dX4_map_3 (by decide) ?_
  obtain ⟨r2, σ3, hc4, hf⟩ := bnd_some hf
  refine mc_i (mc_V (As := [.int (a1), .int (a2), .int (1)]) hC hK hA hX hG hS (kX4_canMap l D cA A ad hc4) ykX4_canMap wA_271 wA_272 wA_273 (hG.fix (by decide)) rfl rfl ⟨rfl, rfl, Nat.le_of_ble_eq_true rfl, Nat.le_of_ble_eq_true rfl⟩ rfl hl.1 rfl (Nat.le_of_ble_eq_true rfl) dX4_map_4 ⟨Nat.le_of_ble_eq_true rfl, Nat.le_of_ble_eq_true rfl⟩) hS (fun H locs hG hS => ?_)
  refine lv_if_ne (tgt := 12) hx hb dX4_map_7 (by decide) (fun c5 => ?_) (fun c5 => ?_)
  · have hf := it_neg c5 hf
    refine lv_aload_n hx hb dX4_map_12 rfl (lv_at hl 0 rfl) ?_
    refine mw_getl hx hb hts hown hK hG inlX4 rfl (hG.fix (by decide)) rfl 14 (by decide) 9 rfl wA_63 dX4_map_13 ?_
    refine lv_iload_n hx hb dX4_map_16 rfl (lv_at hl 1 rfl) ?_
    refine lv_iload_n hx hb dX4_map_17 rfl (lv_at hl 2 rfl) ?_
    obtain ⟨r6, σ7, hc8, hf⟩ := bnd_some hf
    refine mc_i (mc_S (As := [.int (a1), .int (a2)]) hC hK hA hX hG hS (kX4_at l D cA A ad hc8) ykX4_at wA_138 wA_139 ⟨rfl, rfl, Nat.le_of_ble_eq_true rfl, Nat.le_of_ble_eq_true rfl⟩ rfl hl.1 rfl (Nat.le_of_ble_eq_true rfl) dX4_map_18 ⟨Nat.le_of_ble_eq_true rfl, Nat.le_of_ble_eq_true rfl⟩) hS (fun H locs hG hS => ?_)
    refine lv_iconst (v := 1) hx hb dX4_map_21 (by decide) ?_
    obtain ⟨h9, hf⟩ := ck_some hf
    refine mw_iast hx hb hK hG hS (hG.fix (by decide)) rfl (inb_in h9) dX4_map_22 (fun H locs hG hS => ?_)
    obtain ⟨σ10, e11, hf⟩ := ld_some hf
    rw [← e11] at hG
    clear e11
    refine lv_aload_n hx hb dX4_map_23 rfl (lv_at hl 0 rfl) ?_
    refine mw_getl hx hb hts hown hK hG inlX4 rfl (hG.fix (by decide)) rfl 15 (by decide) 10 rfl wA_64 dX4_map_24 ?_
    refine lv_iload_n hx hb dX4_map_27 rfl (lv_at hl 1 rfl) ?_
    refine lv_iload_n hx hb dX4_map_28 rfl (lv_at hl 2 rfl) ?_
    obtain ⟨r12, σ13, hc14, hf⟩ := bnd_some hf
    refine mc_i (mc_S (As := [.int (a1), .int (a2)]) hC hK hA hX hG hS (kX4_at l D cA A ad hc14) ykX4_at wA_138 wA_139 ⟨rfl, rfl, Nat.le_of_ble_eq_true rfl, Nat.le_of_ble_eq_true rfl⟩ rfl hl.1 rfl (Nat.le_of_ble_eq_true rfl) dX4_map_29 ⟨Nat.le_of_ble_eq_true rfl, Nat.le_of_ble_eq_true rfl⟩) hS (fun H locs hG hS => ?_)
    refine lv_aload_n hx hb dX4_map_32 rfl (lv_at hl 0 rfl) ?_
    obtain ⟨r15, σ16, hc17, hf⟩ := bnd_some hf
    refine mc_i (mc_V (As := []) hC hK hA hX hG hS (kX4_create l D cA A ad hc17) ykX4_create wA_278 wA_279 wA_280 (hG.fix (by decide)) rfl rfl ⟨rfl, rfl, Nat.le_of_ble_eq_true rfl, Nat.le_of_ble_eq_true rfl⟩ rfl hl.1 rfl (Nat.le_of_ble_eq_true rfl) dX4_map_33 ⟨Nat.le_of_ble_eq_true rfl, Nat.le_of_ble_eq_true rfl⟩) hS (fun H locs hG hS => ?_)
    obtain ⟨h18, hf⟩ := ck_some hf
    refine mw_iast hx hb hK hG hS (hG.fix (by decide)) rfl (inb_in h18) dX4_map_36 (fun H locs hG hS => ?_)
    obtain ⟨σ19, e20, hf⟩ := ld_some hf
    rw [← e20] at hG
    clear e20
    refine lv_aload_n hx hb dX4_map_37 rfl (lv_at hl 0 rfl) ?_
    refine lv_iload_n hx hb dX4_map_38 rfl (lv_at hl 1 rfl) ?_
    obtain ⟨r21, σ22, hc23, hf⟩ := bnd_some hf
    refine mc_i (mc_V (As := [.int (a1)]) hC hK hA hX hG hS (kX4_mapped l D cA A ad hc23) ykX4_mapped wA_282 wA_283 wA_284 (hG.fix (by decide)) rfl rfl ⟨rfl, rfl, Nat.le_of_ble_eq_true rfl, Nat.le_of_ble_eq_true rfl⟩ rfl hl.1 rfl (Nat.le_of_ble_eq_true rfl) dX4_map_39 ⟨Nat.le_of_ble_eq_true rfl, Nat.le_of_ble_eq_true rfl⟩) hS (fun H locs hG hS => ?_)
    exact mr_i hC hr hlocks hG hS hf (Nat.le_of_ble_eq_true rfl) (Nat.le_of_ble_eq_true rfl) dX4_map_42
  · have hf := it_pos c5 hf
    refine lv_iconst (v := 0) hx hb dX4_map_10 (by decide) ?_
    exact mr_i hC hr hlocks hG hS hf (Nat.le_of_ble_eq_true rfl) (Nat.le_of_ble_eq_true rfl) dX4_map_11
def fX4_createSegment_38_b (bk38 : Int32 → Int32 → pw_S → Option (Int32 × pw_S)) (x1 : Int32) (x2 : Int32) (σ : pw_S) : Option (Int32 × pw_S) := (if x1 ≤ x2 then ck (inb ((gi σ 0 16)) (4)) (ld (si σ 11 (Int32.toNatClampNeg ((gi σ 0 16))) (x1)) (fun σ7 => ld (si σ7 0 16 (((gi σ7 0 16) + 1))) (fun σ9 => some (((gi σ9 0 16) - 1), σ9)))) else bnd (fX4_create σ) (fun r11 σ12 => ck (inb (((6 * (gi σ 0 16)) + x2)) (24)) (ld (si σ12 12 (Int32.toNatClampNeg (((6 * (gi σ 0 16)) + x2))) (r11)) (fun σ15 => bk38 x1 (x2 + 1) σ15))))
def fX4_createSegment_38 : Nat → Int32 → Int32 → pw_S → Option (Int32 × pw_S)
  | 0, _, _, _ => none
  | n + 1, x1, x2, σ => fX4_createSegment_38_b (fX4_createSegment_38 n) x1 x2 σ
def fX4_createSegment_16 (σ : pw_S) : Option (Int32 × pw_S) := bnd (fX4_no 1 σ) (fun r17 σ18 => some (r17, σ18))
def fX4_createSegment (a1 : Int32) (σ : pw_S) : Option (Int32 × pw_S) := ld (si σ 0 0 (0)) (fun σ20 => (if a1 < 1 then fX4_createSegment_16 σ20 else (if a1 ≤ 6 then (if (gi σ20 0 16) = 4 then bnd (fX4_no 2 σ20) (fun r25 σ26 => some (r25, σ26)) else fX4_createSegment_38 1000 a1 0 σ20) else fX4_createSegment_16 σ20)))
set_option maxHeartbeats 4000000 in
set_option maxRecDepth 100000 in
theorem kX4_createSegment (l : Launch) (D : va_G) (cA : Nat → ClassId) (A : Nat → Prop) (ad : Nat → Nat) {σ σ' : pw_S} {r : Int32} {a1 : Int32} (hf : fX4_createSegment a1 σ = some (r, σ')) : Met l yX4_createSegment (wA yX4_createSegment cX4_createSegment 3 (some .int)) ({ frames := 1, cells := 0, slots := 0, locals := 22 }) (pw_Pc D cA shM 15 A ad σ [.ref (ad 0), .int (a1)]) (pw_Qi D cA shM 15 A ad r σ') 0 0 A := by
  refine mw_enter (own := RX4) (by decide) rfl (Nat.le_of_ble_eq_true rfl) ?_
  intro p e s m args below meth c ls hC hr hlocks hK hA hX hG hS hl
  obtain ⟨hx, hb, hml, hown, hts⟩ := id hC
  have K38 : ∀ (n38 : Nat) (x1 : Int32) (x2 : Int32) (σ : pw_S), fX4_createSegment_38 n38 x1 x2 σ = some (r, σ') → mw_K p l e ({ frames := 1, cells := 0, slots := 0, locals := 22 }) s m args below meth c (MQ below (pw_Qi D cA shM 15 A ad r σ') args s 0 0 A) A D cA shM 15 ad 3 38 0 0 [(0, .ref (ad 0)), (1, .int (x1)), (2, .int (x2))] [] σ := by
    intro n38
    induction n38 with
    | zero => intro x1 x2 σ hf; cases hf
    | succ n38 ih38 =>
      intro x1 x2 σ hf H locs ls hG hS hl
      have hf : fX4_createSegment_38_b (fX4_createSegment_38 n38) x1 x2 σ = some (r, σ') := hf
      unfold fX4_createSegment_38_b at hf
      refine lv_iload_n hx hb dX4_createSegment_38 rfl (lv_at hl 2 rfl) ?_
      refine lv_iload_n hx hb dX4_createSegment_39 rfl (lv_at hl 1 rfl) ?_
      refine lv_icmp_ge (tgt := 67) hx hb dX4_createSegment_40 (by decide) (fun c5 => ?_) (fun c5 => ?_)
      · have hf := it_pos c5 hf
        refine lv_aload_n hx hb dX4_createSegment_67 rfl (lv_at hl 0 rfl) ?_
        refine mw_getl hx hb hts hown hK hG inlX4 rfl (hG.fix (by decide)) rfl 17 (by decide) 11 rfl wA_65 dX4_createSegment_68 ?_
        refine lv_aload_n hx hb dX4_createSegment_71 rfl (lv_at hl 0 rfl) ?_
        refine mw_geti hx hb hts hown hK hG inlX4 rfl (hG.fix (by decide)) rfl 16 (by decide) rfl wA_226 dX4_createSegment_72 ?_
        refine lv_iload_n hx hb dX4_createSegment_75 rfl (lv_at hl 1 rfl) ?_
        obtain ⟨h6, hf⟩ := ck_some hf
        refine mw_iast hx hb hK hG hS (hG.fix (by decide)) rfl (inb_in h6) dX4_createSegment_76 (fun H locs hG hS => ?_)
        obtain ⟨σ7, e8, hf⟩ := ld_some hf
        rw [← e8] at hG
        clear e8
        refine lv_aload_n hx hb dX4_createSegment_77 rfl (lv_at hl 0 rfl) ?_
        refine lv_dup hx hb dX4_createSegment_78 rfl ?_
        refine mw_geti hx hb hts hown hK hG inlX4 rfl (hG.fix (by decide)) rfl 16 (by decide) rfl wA_226 dX4_createSegment_79 ?_
        refine lv_iconst (v := 1) hx hb dX4_createSegment_82 (by decide) ?_
        refine lv_iadd hx hb dX4_createSegment_83 ?_
        refine mw_puti hx hb hts hown hK hG hS inlX4 tyX4 tyX4_ok nmX4 rfl (hG.fix (by decide)) rfl 16 (by decide) rfl rfl rfl rfl wA_226 dX4_createSegment_84 (fun H locs hG hS => ?_)
        obtain ⟨σ9, e10, hf⟩ := ld_some hf
        rw [← e10] at hG
        clear e10
        refine lv_aload_n hx hb dX4_createSegment_87 rfl (lv_at hl 0 rfl) ?_
        refine mw_geti hx hb hts hown hK hG inlX4 rfl (hG.fix (by decide)) rfl 16 (by decide) rfl wA_226 dX4_createSegment_88 ?_
        refine lv_iconst (v := 1) hx hb dX4_createSegment_91 (by decide) ?_
        refine lv_isub hx hb dX4_createSegment_92 ?_
        exact mr_i hC hr hlocks hG hS hf (Nat.le_of_ble_eq_true rfl) (Nat.le_of_ble_eq_true rfl) dX4_createSegment_93
      · have hf := it_neg c5 hf
        refine lv_aload_n hx hb dX4_createSegment_43 rfl (lv_at hl 0 rfl) ?_
        refine mw_getl hx hb hts hown hK hG inlX4 rfl (hG.fix (by decide)) rfl 18 (by decide) 12 rfl wA_66 dX4_createSegment_44 ?_
        refine lv_bipush (v := 6) hx hb dX4_createSegment_47 (by decide) ?_
        refine lv_aload_n hx hb dX4_createSegment_49 rfl (lv_at hl 0 rfl) ?_
        refine mw_geti hx hb hts hown hK hG inlX4 rfl (hG.fix (by decide)) rfl 16 (by decide) rfl wA_226 dX4_createSegment_50 ?_
        refine lv_imul hx hb dX4_createSegment_53 ?_
        refine lv_iload_n hx hb dX4_createSegment_54 rfl (lv_at hl 2 rfl) ?_
        refine lv_iadd hx hb dX4_createSegment_55 ?_
        refine lv_aload_n hx hb dX4_createSegment_56 rfl (lv_at hl 0 rfl) ?_
        obtain ⟨r11, σ12, hc13, hf⟩ := bnd_some hf
        refine mc_i (mc_V (As := []) hC hK hA hX hG hS (kX4_create l D cA A ad hc13) ykX4_create wA_278 wA_279 wA_280 (hG.fix (by decide)) rfl rfl ⟨rfl, rfl, Nat.le_of_ble_eq_true rfl, Nat.le_of_ble_eq_true rfl⟩ rfl hl.1 rfl (Nat.le_of_ble_eq_true rfl) dX4_createSegment_57 ⟨Nat.le_of_ble_eq_true rfl, Nat.le_of_ble_eq_true rfl⟩) hS (fun H locs hG hS => ?_)
        obtain ⟨h14, hf⟩ := ck_some hf
        refine mw_iast hx hb hK hG hS (hG.fix (by decide)) rfl (inb_in h14) dX4_createSegment_60 (fun H locs hG hS => ?_)
        obtain ⟨σ15, e16, hf⟩ := ld_some hf
        rw [← e16] at hG
        clear e16
        refine lv_iinc (v := x2 + 1) (lv' := [(2, .int (x2 + 1)), (0, .ref (ad 0)), (1, .int (x1))]) hx hb dX4_createSegment_61 hl (k := 2) rfl rfl (by decide) rfl (fun ls hl => ?_)
        refine lv_goto (tgt := 38) hx hb dX4_createSegment_64 (by decide) ?_
        exact ih38 _ _ _ hf _ _ _ hG hS (lv_sub hl [1, 2, 0] rfl)
  have K16 : ∀ (σ : pw_S), fX4_createSegment_16  σ = some (r, σ') → mw_K p l e ({ frames := 1, cells := 0, slots := 0, locals := 22 }) s m args below meth c (MQ below (pw_Qi D cA shM 15 A ad r σ') args s 0 0 A) A D cA shM 15 ad 3 16 0 0 [(0, .ref (ad 0))] [] σ := by
    intro  σ hf H locs ls hG hS hl
    unfold fX4_createSegment_16 at hf
    refine lv_aload_n hx hb dX4_createSegment_16 rfl (lv_at hl 0 rfl) ?_
    refine lv_iconst (v := 1) hx hb dX4_createSegment_17 (by decide) ?_
    obtain ⟨r17, σ18, hc19, hf⟩ := bnd_some hf
    refine mc_i (mc_V (As := [.int (1)]) hC hK hA hX hG hS (kX4_no l D cA A ad hc19) ykX4_no wA_95 wA_96 wA_97 (hG.fix (by decide)) rfl rfl ⟨rfl, rfl, Nat.le_of_ble_eq_true rfl, Nat.le_of_ble_eq_true rfl⟩ rfl hl.1 rfl (Nat.le_of_ble_eq_true rfl) dX4_createSegment_18 ⟨Nat.le_of_ble_eq_true rfl, Nat.le_of_ble_eq_true rfl⟩) hS (fun H locs hG hS => ?_)
    exact mr_i hC hr hlocks hG hS hf (Nat.le_of_ble_eq_true rfl) (Nat.le_of_ble_eq_true rfl) dX4_createSegment_21
  have hl : lv_has ls 3 [(0, .ref (ad 0)), (1, .int (a1))] := hl
  unfold fX4_createSegment at hf
  refine lv_aload_n hx hb dX4_createSegment_0 rfl (lv_at hl 0 rfl) ?_
  refine lv_iconst (v := 0) hx hb dX4_createSegment_1 (by decide) ?_
  refine mw_puti hx hb hts hown hK hG hS inlX4 tyX4 tyX4_ok nmX4 rfl (hG.fix (by decide)) rfl 0 (by decide) rfl rfl rfl rfl wA_93 dX4_createSegment_2 (fun H locs hG hS => ?_)
  obtain ⟨σ20, e21, hf⟩ := ld_some hf
  rw [← e21] at hG
  clear e21
  refine lv_iload_n hx hb dX4_createSegment_5 rfl (lv_at hl 1 rfl) ?_
  refine lv_iconst (v := 1) hx hb dX4_createSegment_6 (by decide) ?_
  refine lv_icmp_lt (tgt := 16) hx hb dX4_createSegment_7 (by decide) (fun c22 => ?_) (fun c22 => ?_)
  · have hf := it_pos c22 hf
    exact K16 _ hf _ _ _ hG hS (lv_sub hl [0] rfl)
  · have hf := it_neg c22 hf
    refine lv_iload_n hx hb dX4_createSegment_10 rfl (lv_at hl 1 rfl) ?_
    refine lv_bipush (v := 6) hx hb dX4_createSegment_11 (by decide) ?_
    refine lv_icmp_le (tgt := 22) hx hb dX4_createSegment_13 (by decide) (fun c23 => ?_) (fun c23 => ?_)
    · have hf := it_pos c23 hf
      refine lv_aload_n hx hb dX4_createSegment_22 rfl (lv_at hl 0 rfl) ?_
      refine mw_geti hx hb hts hown hK hG inlX4 rfl (hG.fix (by decide)) rfl 16 (by decide) rfl wA_226 dX4_createSegment_23 ?_
      refine lv_iconst (v := 4) hx hb dX4_createSegment_26 (by decide) ?_
      refine lv_icmp_ne (tgt := 36) hx hb dX4_createSegment_27 (by decide) (fun c24 => ?_) (fun c24 => ?_)
      · have hf := it_neg c24 hf
        refine lv_iconst (v := 0) hx hb dX4_createSegment_36 (by decide) ?_
        refine lv_istore_n (lv' := [(2, .int (0)), (0, .ref (ad 0)), (1, .int (a1))]) hx hb dX4_createSegment_37 rfl hl (by decide) rfl (fun ls hl => ?_)
        exact K38 1000 _ _ _ hf _ _ _ hG hS (lv_sub hl [1, 2, 0] rfl)
      · have hf := it_pos c24 hf
        refine lv_aload_n hx hb dX4_createSegment_30 rfl (lv_at hl 0 rfl) ?_
        refine lv_iconst (v := 2) hx hb dX4_createSegment_31 (by decide) ?_
        obtain ⟨r25, σ26, hc27, hf⟩ := bnd_some hf
        refine mc_i (mc_V (As := [.int (2)]) hC hK hA hX hG hS (kX4_no l D cA A ad hc27) ykX4_no wA_95 wA_96 wA_97 (hG.fix (by decide)) rfl rfl ⟨rfl, rfl, Nat.le_of_ble_eq_true rfl, Nat.le_of_ble_eq_true rfl⟩ rfl hl.1 rfl (Nat.le_of_ble_eq_true rfl) dX4_createSegment_32 ⟨Nat.le_of_ble_eq_true rfl, Nat.le_of_ble_eq_true rfl⟩) hS (fun H locs hG hS => ?_)
        exact mr_i hC hr hlocks hG hS hf (Nat.le_of_ble_eq_true rfl) (Nat.le_of_ble_eq_true rfl) dX4_createSegment_35
    · have hf := it_neg c23 hf
      exact K16 _ hf _ _ _ hG hS (lv_sub hl [0] rfl)
def fX4_attach_33 (x1 : Int32) (x2 : Int32) (x3 : Int32) (x4 : Int32) (y0 : Int32) (σ : pw_S) : Option (Int32 × pw_S) := bnd (fX4_canMap x1 x2 y0 σ) (fun r6 σ7 => (if r6 = 0 then some (0, σ7) else bnd (fX4_at x1 x2 σ7) (fun r10 σ11 => ck (inb (r10) (160)) (ld (si σ11 9 (Int32.toNatClampNeg (r10)) (2)) (fun σ14 => bnd (fX4_at x1 x2 σ14) (fun r16 σ17 => ck (inb (((6 * x3) + x4)) (24)) (ck (inb (r16) (160)) (ld (si σ17 10 (Int32.toNatClampNeg (r16)) ((gi σ17 12 (Int32.toNatClampNeg (((6 * x3) + x4)))))) (fun σ21 => bnd (fX4_mapped x1 σ21) (fun r23 σ24 => some (r23, σ24)))))))))))
def fX4_attach_32 (x1 : Int32) (x2 : Int32) (x3 : Int32) (x4 : Int32) (σ : pw_S) : Option (Int32 × pw_S) := fX4_attach_33 x1 x2 x3 x4 0 σ
def fX4_attach (a1 : Int32) (a2 : Int32) (a3 : Int32) (a4 : Int32) (σ : pw_S) : Option (Int32 × pw_S) := (if a3 < 0 then fX4_attach_32 a1 a2 a3 a4 σ else (if (gi σ 0 16) ≤ a3 then fX4_attach_32 a1 a2 a3 a4 σ else (if a4 < 0 then fX4_attach_32 a1 a2 a3 a4 σ else ck (inb (a3) (4)) ((if (gi σ 11 (Int32.toNatClampNeg (a3))) ≤ a4 then fX4_attach_32 a1 a2 a3 a4 σ else fX4_attach_33 a1 a2 a3 a4 1 σ)))))
set_option maxHeartbeats 4000000 in
set_option maxRecDepth 100000 in
theorem kX4_attach (l : Launch) (D : va_G) (cA : Nat → ClassId) (A : Nat → Prop) (ad : Nat → Nat) {σ σ' : pw_S} {r : Int32} {a1 : Int32} {a2 : Int32} {a3 : Int32} {a4 : Int32} (hf : fX4_attach a1 a2 a3 a4 σ = some (r, σ')) : Met l yX4_attach (wA yX4_attach cX4_attach 6 (some .int)) ({ frames := 2, cells := 0, slots := 0, locals := 44 }) (pw_Pc D cA shM 15 A ad σ [.ref (ad 0), .int (a1), .int (a2), .int (a3), .int (a4)]) (pw_Qi D cA shM 15 A ad r σ') 0 0 A := by
  refine mw_enter (own := RX4) (by decide) rfl (Nat.le_of_ble_eq_true rfl) ?_
  intro p e s m args below meth c ls hC hr hlocks hK hA hX hG hS hl
  obtain ⟨hx, hb, hml, hown, hts⟩ := id hC
  have K33 : ∀ (x1 : Int32) (x2 : Int32) (x3 : Int32) (x4 : Int32) (y0 : Int32) (σ : pw_S), fX4_attach_33 x1 x2 x3 x4 y0 σ = some (r, σ') → mw_K p l e ({ frames := 2, cells := 0, slots := 0, locals := 44 }) s m args below meth c (MQ below (pw_Qi D cA shM 15 A ad r σ') args s 0 0 A) A D cA shM 15 ad 6 33 0 0 [(0, .ref (ad 0)), (1, .int (x1)), (2, .int (x2)), (3, .int (x3)), (4, .int (x4))] [.int (y0)] σ := by
    intro x1 x2 x3 x4 y0 σ hf H locs ls hG hS hl
    unfold fX4_attach_33 at hf
    refine lv_istore (lv' := [(5, .int (y0)), (0, .ref (ad 0)), (1, .int (x1)), (2, .int (x2)), (3, .int (x3)), (4, .int (x4))]) hx hb dX4_attach_33 hl (by decide) rfl (fun ls hl => ?_)
    refine lv_aload_n hx hb dX4_attach_35 rfl (lv_at hl 1 rfl) ?_
    refine lv_iload_n hx hb dX4_attach_36 rfl (lv_at hl 2 rfl) ?_
    refine lv_iload_n hx hb dX4_attach_37 rfl (lv_at hl 3 rfl) ?_
    refine lv_iload hx hb dX4_attach_38 (lv_at hl 0 rfl) ?_
    obtain ⟨r6, σ7, hc8, hf⟩ := bnd_some hf
    refine mc_i (mc_V (As := [.int (x1), .int (x2), .int (y0)]) hC hK hA hX hG hS (kX4_canMap l D cA A ad hc8) ykX4_canMap wA_271 wA_272 wA_273 (hG.fix (by decide)) rfl rfl ⟨rfl, rfl, Nat.le_of_ble_eq_true rfl, Nat.le_of_ble_eq_true rfl⟩ rfl hl.1 rfl (Nat.le_of_ble_eq_true rfl) dX4_attach_40 ⟨Nat.le_of_ble_eq_true rfl, Nat.le_of_ble_eq_true rfl⟩) hS (fun H locs hG hS => ?_)
    refine lv_if_ne (tgt := 48) hx hb dX4_attach_43 (by decide) (fun c9 => ?_) (fun c9 => ?_)
    · have hf := it_neg c9 hf
      refine lv_aload_n hx hb dX4_attach_48 rfl (lv_at hl 1 rfl) ?_
      refine mw_getl hx hb hts hown hK hG inlX4 rfl (hG.fix (by decide)) rfl 14 (by decide) 9 rfl wA_63 dX4_attach_49 ?_
      refine lv_iload_n hx hb dX4_attach_52 rfl (lv_at hl 2 rfl) ?_
      refine lv_iload_n hx hb dX4_attach_53 rfl (lv_at hl 3 rfl) ?_
      obtain ⟨r10, σ11, hc12, hf⟩ := bnd_some hf
      refine mc_i (mc_S (As := [.int (x1), .int (x2)]) hC hK hA hX hG hS (kX4_at l D cA A ad hc12) ykX4_at wA_138 wA_139 ⟨rfl, rfl, Nat.le_of_ble_eq_true rfl, Nat.le_of_ble_eq_true rfl⟩ rfl hl.1 rfl (Nat.le_of_ble_eq_true rfl) dX4_attach_54 ⟨Nat.le_of_ble_eq_true rfl, Nat.le_of_ble_eq_true rfl⟩) hS (fun H locs hG hS => ?_)
      refine lv_iconst (v := 2) hx hb dX4_attach_57 (by decide) ?_
      obtain ⟨h13, hf⟩ := ck_some hf
      refine mw_iast hx hb hK hG hS (hG.fix (by decide)) rfl (inb_in h13) dX4_attach_58 (fun H locs hG hS => ?_)
      obtain ⟨σ14, e15, hf⟩ := ld_some hf
      rw [← e15] at hG
      clear e15
      refine lv_aload_n hx hb dX4_attach_59 rfl (lv_at hl 1 rfl) ?_
      refine mw_getl hx hb hts hown hK hG inlX4 rfl (hG.fix (by decide)) rfl 15 (by decide) 10 rfl wA_64 dX4_attach_60 ?_
      refine lv_iload_n hx hb dX4_attach_63 rfl (lv_at hl 2 rfl) ?_
      refine lv_iload_n hx hb dX4_attach_64 rfl (lv_at hl 3 rfl) ?_
      obtain ⟨r16, σ17, hc18, hf⟩ := bnd_some hf
      refine mc_i (mc_S (As := [.int (x1), .int (x2)]) hC hK hA hX hG hS (kX4_at l D cA A ad hc18) ykX4_at wA_138 wA_139 ⟨rfl, rfl, Nat.le_of_ble_eq_true rfl, Nat.le_of_ble_eq_true rfl⟩ rfl hl.1 rfl (Nat.le_of_ble_eq_true rfl) dX4_attach_65 ⟨Nat.le_of_ble_eq_true rfl, Nat.le_of_ble_eq_true rfl⟩) hS (fun H locs hG hS => ?_)
      refine lv_aload_n hx hb dX4_attach_68 rfl (lv_at hl 1 rfl) ?_
      refine mw_getl hx hb hts hown hK hG inlX4 rfl (hG.fix (by decide)) rfl 18 (by decide) 12 rfl wA_66 dX4_attach_69 ?_
      refine lv_bipush (v := 6) hx hb dX4_attach_72 (by decide) ?_
      refine lv_iload_n hx hb dX4_attach_74 rfl (lv_at hl 4 rfl) ?_
      refine lv_imul hx hb dX4_attach_75 ?_
      refine lv_iload hx hb dX4_attach_76 (lv_at hl 5 rfl) ?_
      refine lv_iadd hx hb dX4_attach_78 ?_
      obtain ⟨h19, hf⟩ := ck_some hf
      refine mw_iald hx hb hK hG (hG.fix (by decide)) rfl (inb_in h19) dX4_attach_79 ?_
      obtain ⟨h20, hf⟩ := ck_some hf
      refine mw_iast hx hb hK hG hS (hG.fix (by decide)) rfl (inb_in h20) dX4_attach_80 (fun H locs hG hS => ?_)
      obtain ⟨σ21, e22, hf⟩ := ld_some hf
      rw [← e22] at hG
      clear e22
      refine lv_aload_n hx hb dX4_attach_81 rfl (lv_at hl 1 rfl) ?_
      refine lv_iload_n hx hb dX4_attach_82 rfl (lv_at hl 2 rfl) ?_
      obtain ⟨r23, σ24, hc25, hf⟩ := bnd_some hf
      refine mc_i (mc_V (As := [.int (x1)]) hC hK hA hX hG hS (kX4_mapped l D cA A ad hc25) ykX4_mapped wA_282 wA_283 wA_284 (hG.fix (by decide)) rfl rfl ⟨rfl, rfl, Nat.le_of_ble_eq_true rfl, Nat.le_of_ble_eq_true rfl⟩ rfl hl.1 rfl (Nat.le_of_ble_eq_true rfl) dX4_attach_83 ⟨Nat.le_of_ble_eq_true rfl, Nat.le_of_ble_eq_true rfl⟩) hS (fun H locs hG hS => ?_)
      exact mr_i hC hr hlocks hG hS hf (Nat.le_of_ble_eq_true rfl) (Nat.le_of_ble_eq_true rfl) dX4_attach_86
    · have hf := it_pos c9 hf
      refine lv_iconst (v := 0) hx hb dX4_attach_46 (by decide) ?_
      exact mr_i hC hr hlocks hG hS hf (Nat.le_of_ble_eq_true rfl) (Nat.le_of_ble_eq_true rfl) dX4_attach_47
  have K32 : ∀ (x1 : Int32) (x2 : Int32) (x3 : Int32) (x4 : Int32) (σ : pw_S), fX4_attach_32 x1 x2 x3 x4 σ = some (r, σ') → mw_K p l e ({ frames := 2, cells := 0, slots := 0, locals := 44 }) s m args below meth c (MQ below (pw_Qi D cA shM 15 A ad r σ') args s 0 0 A) A D cA shM 15 ad 6 32 0 0 [(0, .ref (ad 0)), (1, .int (x1)), (2, .int (x2)), (3, .int (x3)), (4, .int (x4))] [] σ := by
    intro x1 x2 x3 x4 σ hf H locs ls hG hS hl
    unfold fX4_attach_32 at hf
    refine lv_iconst (v := 0) hx hb dX4_attach_32 (by decide) ?_
    exact K33 _ _ _ _ _ _ hf _ _ _ hG hS (lv_sub hl [0, 1, 2, 3, 4] rfl)
  have hl : lv_has ls 6 [(0, .ref (ad 0)), (1, .int (a1)), (2, .int (a2)), (3, .int (a3)), (4, .int (a4))] := hl
  unfold fX4_attach at hf
  refine lv_iload_n hx hb dX4_attach_0 rfl (lv_at hl 3 rfl) ?_
  refine lv_if_lt (tgt := 32) hx hb dX4_attach_1 (by decide) (fun c26 => ?_) (fun c26 => ?_)
  · have hf := it_pos c26 hf
    exact K32 _ _ _ _ _ hf _ _ _ hG hS (lv_sub hl [0, 1, 2, 3, 4] rfl)
  · have hf := it_neg c26 hf
    refine lv_iload_n hx hb dX4_attach_4 rfl (lv_at hl 3 rfl) ?_
    refine lv_aload_n hx hb dX4_attach_5 rfl (lv_at hl 0 rfl) ?_
    refine mw_geti hx hb hts hown hK hG inlX4 rfl (hG.fix (by decide)) rfl 16 (by decide) rfl wA_226 dX4_attach_6 ?_
    refine lv_icmp_ge (tgt := 32) hx hb dX4_attach_9 (by decide) (fun c27 => ?_) (fun c27 => ?_)
    · have hf := it_pos c27 hf
      exact K32 _ _ _ _ _ hf _ _ _ hG hS (lv_sub hl [0, 1, 2, 3, 4] rfl)
    · have hf := it_neg c27 hf
      refine lv_iload hx hb dX4_attach_12 (lv_at hl 4 rfl) ?_
      refine lv_if_lt (tgt := 32) hx hb dX4_attach_14 (by decide) (fun c28 => ?_) (fun c28 => ?_)
      · have hf := it_pos c28 hf
        exact K32 _ _ _ _ _ hf _ _ _ hG hS (lv_sub hl [0, 1, 2, 3, 4] rfl)
      · have hf := it_neg c28 hf
        refine lv_iload hx hb dX4_attach_17 (lv_at hl 4 rfl) ?_
        refine lv_aload_n hx hb dX4_attach_19 rfl (lv_at hl 0 rfl) ?_
        refine mw_getl hx hb hts hown hK hG inlX4 rfl (hG.fix (by decide)) rfl 17 (by decide) 11 rfl wA_65 dX4_attach_20 ?_
        refine lv_iload_n hx hb dX4_attach_23 rfl (lv_at hl 3 rfl) ?_
        obtain ⟨h29, hf⟩ := ck_some hf
        refine mw_iald hx hb hK hG (hG.fix (by decide)) rfl (inb_in h29) dX4_attach_24 ?_
        refine lv_icmp_ge (tgt := 32) hx hb dX4_attach_25 (by decide) (fun c30 => ?_) (fun c30 => ?_)
        · have hf := it_pos c30 hf
          exact K32 _ _ _ _ _ hf _ _ _ hG hS (lv_sub hl [0, 1, 2, 3, 4] rfl)
        · have hf := it_neg c30 hf
          refine lv_iconst (v := 1) hx hb dX4_attach_28 (by decide) ?_
          refine lv_goto (tgt := 33) hx hb dX4_attach_29 (by decide) ?_
          exact K33 _ _ _ _ _ _ hf _ _ _ hG hS (lv_sub hl [0, 1, 2, 3, 4] rfl)
def fX4_unmap_75 (y0 : Int32) (σ : pw_S) : Option (Int32 × pw_S) := ck (isB (y0)) (some (y0, σ))
def fX4_unmap_74 (σ : pw_S) : Option (Int32 × pw_S) := fX4_unmap_75 0 σ
def fX4_unmap_51 (x1 : Int32) (x2 : Int32) (y0 : Int32) (σ : pw_S) : Option (Int32 × pw_S) := ld (si σ 0 0 (y0)) (fun σ8 => (if (gi σ8 0 0) = 0 then bnd (fX4_clear x1 x2 σ8) (fun r11 σ12 => (if r11 = 0 then fX4_unmap_74 σ12 else fX4_unmap_75 1 σ12)) else fX4_unmap_74 σ8))
def fX4_unmap_16 (x1 : Int32) (x2 : Int32) (σ : pw_S) : Option (Int32 × pw_S) := fX4_unmap_51 x1 x2 1 σ
def fX4_unmap (a1 : Int32) (a2 : Int32) (σ : pw_S) : Option (Int32 × pw_S) := bnd (fX4_isProcess a1 σ) (fun r15 σ16 => (if r15 = 0 then fX4_unmap_16 a1 a2 σ16 else bnd (fX4_isPage a2 σ16) (fun r19 σ20 => (if r19 = 0 then fX4_unmap_16 a1 a2 σ20 else ck (inb (a1) (10)) ((if (gi σ20 8 (Int32.toNatClampNeg (a1))) = 0 then fX4_unmap_51 a1 a2 2 σ20 else bnd (fX4_at a1 a2 σ20) (fun r25 σ26 => ck (inb (r25) (160)) ((if (gi σ26 9 (Int32.toNatClampNeg (r25))) = 0 then fX4_unmap_51 a1 a2 3 σ26 else fX4_unmap_51 a1 a2 0 σ26)))))))))
set_option maxHeartbeats 4000000 in
set_option maxRecDepth 100000 in
theorem kX4_unmap (l : Launch) (D : va_G) (cA : Nat → ClassId) (A : Nat → Prop) (ad : Nat → Nat) {σ σ' : pw_S} {r : Int32} {a1 : Int32} {a2 : Int32} (hf : fX4_unmap a1 a2 σ = some (r, σ')) : Met l yX4_unmap (wA yX4_unmap cX4_unmap 3 (some .boolean)) ({ frames := 4, cells := 0, slots := 0, locals := 89 }) (pw_Pc D cA shM 15 A ad σ [.ref (ad 0), .int (a1), .int (a2)]) (pw_Qi D cA shM 15 A ad r σ') 0 0 A := by
  refine mw_enter (own := RX4) (by decide) rfl (Nat.le_of_ble_eq_true rfl) ?_
  intro p e s m args below meth c ls hC hr hlocks hK hA hX hG hS hl
  obtain ⟨hx, hb, hml, hown, hts⟩ := id hC
  have K75 : ∀ (y0 : Int32) (σ : pw_S), fX4_unmap_75 y0 σ = some (r, σ') → mw_K p l e ({ frames := 4, cells := 0, slots := 0, locals := 89 }) s m args below meth c (MQ below (pw_Qi D cA shM 15 A ad r σ') args s 0 0 A) A D cA shM 15 ad 3 75 0 0 [] [.int (y0)] σ := by
    intro y0 σ hf H locs ls hG hS hl
    unfold fX4_unmap_75 at hf
    obtain ⟨h7, hf⟩ := ck_some hf
    exact mr_z hC hr hlocks hG hS (isB_or h7) hf (Nat.le_of_ble_eq_true rfl) (Nat.le_of_ble_eq_true rfl) dX4_unmap_75
  have K74 : ∀ (σ : pw_S), fX4_unmap_74  σ = some (r, σ') → mw_K p l e ({ frames := 4, cells := 0, slots := 0, locals := 89 }) s m args below meth c (MQ below (pw_Qi D cA shM 15 A ad r σ') args s 0 0 A) A D cA shM 15 ad 3 74 0 0 [] [] σ := by
    intro  σ hf H locs ls hG hS hl
    unfold fX4_unmap_74 at hf
    refine lv_iconst (v := 0) hx hb dX4_unmap_74 (by decide) ?_
    exact K75 _ _ hf _ _ _ hG hS (lv_sub hl [] rfl)
  have K51 : ∀ (x1 : Int32) (x2 : Int32) (y0 : Int32) (σ : pw_S), fX4_unmap_51 x1 x2 y0 σ = some (r, σ') → mw_K p l e ({ frames := 4, cells := 0, slots := 0, locals := 89 }) s m args below meth c (MQ below (pw_Qi D cA shM 15 A ad r σ') args s 0 0 A) A D cA shM 15 ad 3 51 0 0 [(0, .ref (ad 0)), (1, .int (x1)), (2, .int (x2))] [.int (y0), .ref (ad 0)] σ := by
    intro x1 x2 y0 σ hf H locs ls hG hS hl
    unfold fX4_unmap_51 at hf
    refine mw_puti hx hb hts hown hK hG hS inlX4 tyX4 tyX4_ok nmX4 rfl (hG.fix (by decide)) rfl 0 (by decide) rfl rfl rfl rfl wA_93 dX4_unmap_51 (fun H locs hG hS => ?_)
    obtain ⟨σ8, e9, hf⟩ := ld_some hf
    rw [← e9] at hG
    clear e9
    refine lv_aload_n hx hb dX4_unmap_54 rfl (lv_at hl 0 rfl) ?_
    refine mw_geti hx hb hts hown hK hG inlX4 rfl (hG.fix (by decide)) rfl 0 (by decide) rfl wA_93 dX4_unmap_55 ?_
    refine lv_if_ne (tgt := 74) hx hb dX4_unmap_58 (by decide) (fun c10 => ?_) (fun c10 => ?_)
    · have hf := it_neg c10 hf
      exact K74 _ hf _ _ _ hG hS (lv_sub hl [] rfl)
    · have hf := it_pos c10 hf
      refine lv_aload_n hx hb dX4_unmap_61 rfl (lv_at hl 0 rfl) ?_
      refine lv_iload_n hx hb dX4_unmap_62 rfl (lv_at hl 1 rfl) ?_
      refine lv_iload_n hx hb dX4_unmap_63 rfl (lv_at hl 2 rfl) ?_
      obtain ⟨r11, σ12, hc13, hf⟩ := bnd_some hf
      refine mc_i (mc_V (As := [.int (x1), .int (x2)]) hC hK hA hX hG hS (kX4_clear l D cA A ad hc13) ykX4_clear wA_206 wA_207 wA_208 (hG.fix (by decide)) rfl rfl ⟨rfl, rfl, Nat.le_of_ble_eq_true rfl, Nat.le_of_ble_eq_true rfl⟩ rfl hl.1 rfl (Nat.le_of_ble_eq_true rfl) dX4_unmap_64 ⟨Nat.le_of_ble_eq_true rfl, Nat.le_of_ble_eq_true rfl⟩) hS (fun H locs hG hS => ?_)
      refine lv_if_eq (tgt := 74) hx hb dX4_unmap_67 (by decide) (fun c14 => ?_) (fun c14 => ?_)
      · have hf := it_pos c14 hf
        exact K74 _ hf _ _ _ hG hS (lv_sub hl [] rfl)
      · have hf := it_neg c14 hf
        refine lv_iconst (v := 1) hx hb dX4_unmap_70 (by decide) ?_
        refine lv_goto (tgt := 75) hx hb dX4_unmap_71 (by decide) ?_
        exact K75 _ _ hf _ _ _ hG hS (lv_sub hl [] rfl)
  have K16 : ∀ (x1 : Int32) (x2 : Int32) (σ : pw_S), fX4_unmap_16 x1 x2 σ = some (r, σ') → mw_K p l e ({ frames := 4, cells := 0, slots := 0, locals := 89 }) s m args below meth c (MQ below (pw_Qi D cA shM 15 A ad r σ') args s 0 0 A) A D cA shM 15 ad 3 16 0 0 [(0, .ref (ad 0)), (1, .int (x1)), (2, .int (x2))] [.ref (ad 0)] σ := by
    intro x1 x2 σ hf H locs ls hG hS hl
    unfold fX4_unmap_16 at hf
    refine lv_iconst (v := 1) hx hb dX4_unmap_16 (by decide) ?_
    refine lv_goto (tgt := 51) hx hb dX4_unmap_17 (by decide) ?_
    exact K51 _ _ _ _ hf _ _ _ hG hS (lv_sub hl [0, 1, 2] rfl)
  have hl : lv_has ls 3 [(0, .ref (ad 0)), (1, .int (a1)), (2, .int (a2))] := hl
  unfold fX4_unmap at hf
  refine lv_aload_n hx hb dX4_unmap_0 rfl (lv_at hl 0 rfl) ?_
  refine lv_aload_n hx hb dX4_unmap_1 rfl (lv_at hl 0 rfl) ?_
  refine lv_iload_n hx hb dX4_unmap_2 rfl (lv_at hl 1 rfl) ?_
  obtain ⟨r15, σ16, hc17, hf⟩ := bnd_some hf
  refine mc_i (mc_V (As := [.int (a1)]) hC hK hA hX hG hS (kX4_isProcess l D cA A ad hc17) ykX4_isProcess wA_174 wA_175 wA_176 (hG.fix (by decide)) rfl rfl ⟨rfl, rfl, Nat.le_of_ble_eq_true rfl, Nat.le_of_ble_eq_true rfl⟩ rfl hl.1 rfl (Nat.le_of_ble_eq_true rfl) dX4_unmap_3 ⟨Nat.le_of_ble_eq_true rfl, Nat.le_of_ble_eq_true rfl⟩) hS (fun H locs hG hS => ?_)
  refine lv_if_eq (tgt := 16) hx hb dX4_unmap_6 (by decide) (fun c18 => ?_) (fun c18 => ?_)
  · have hf := it_pos c18 hf
    exact K16 _ _ _ hf _ _ _ hG hS (lv_sub hl [0, 1, 2] rfl)
  · have hf := it_neg c18 hf
    refine lv_iload_n hx hb dX4_unmap_9 rfl (lv_at hl 2 rfl) ?_
    obtain ⟨r19, σ20, hc21, hf⟩ := bnd_some hf
    refine mc_i (mc_S (As := [.int (a2)]) hC hK hA hX hG hS (kX4_isPage l D cA A ad hc21) ykX4_isPage wA_275 wA_276 ⟨rfl, rfl, Nat.le_of_ble_eq_true rfl, Nat.le_of_ble_eq_true rfl⟩ rfl hl.1 rfl (Nat.le_of_ble_eq_true rfl) dX4_unmap_10 ⟨Nat.le_of_ble_eq_true rfl, Nat.le_of_ble_eq_true rfl⟩) hS (fun H locs hG hS => ?_)
    refine lv_if_ne (tgt := 20) hx hb dX4_unmap_13 (by decide) (fun c22 => ?_) (fun c22 => ?_)
    · have hf := it_neg c22 hf
      refine lv_aload_n hx hb dX4_unmap_20 rfl (lv_at hl 0 rfl) ?_
      refine mw_getl hx hb hts hown hK hG inlX4 rfl (hG.fix (by decide)) rfl 13 (by decide) 8 rfl wA_62 dX4_unmap_21 ?_
      refine lv_iload_n hx hb dX4_unmap_24 rfl (lv_at hl 1 rfl) ?_
      obtain ⟨h23, hf⟩ := ck_some hf
      refine mw_zald hx hb hK hG (hG.fix (by decide)) rfl (inb_in h23) dX4_unmap_25 ?_
      refine lv_if_ne (tgt := 33) hx hb dX4_unmap_26 (by decide) (fun c24 => ?_) (fun c24 => ?_)
      · have hf := it_neg c24 hf
        refine lv_aload_n hx hb dX4_unmap_33 rfl (lv_at hl 0 rfl) ?_
        refine mw_getl hx hb hts hown hK hG inlX4 rfl (hG.fix (by decide)) rfl 14 (by decide) 9 rfl wA_63 dX4_unmap_34 ?_
        refine lv_iload_n hx hb dX4_unmap_37 rfl (lv_at hl 1 rfl) ?_
        refine lv_iload_n hx hb dX4_unmap_38 rfl (lv_at hl 2 rfl) ?_
        obtain ⟨r25, σ26, hc27, hf⟩ := bnd_some hf
        refine mc_i (mc_S (As := [.int (a1), .int (a2)]) hC hK hA hX hG hS (kX4_at l D cA A ad hc27) ykX4_at wA_138 wA_139 ⟨rfl, rfl, Nat.le_of_ble_eq_true rfl, Nat.le_of_ble_eq_true rfl⟩ rfl hl.1 rfl (Nat.le_of_ble_eq_true rfl) dX4_unmap_39 ⟨Nat.le_of_ble_eq_true rfl, Nat.le_of_ble_eq_true rfl⟩) hS (fun H locs hG hS => ?_)
        obtain ⟨h28, hf⟩ := ck_some hf
        refine mw_iald hx hb hK hG (hG.fix (by decide)) rfl (inb_in h28) dX4_unmap_42 ?_
        refine lv_if_ne (tgt := 50) hx hb dX4_unmap_43 (by decide) (fun c29 => ?_) (fun c29 => ?_)
        · have hf := it_neg c29 hf
          refine lv_iconst (v := 0) hx hb dX4_unmap_50 (by decide) ?_
          exact K51 _ _ _ _ hf _ _ _ hG hS (lv_sub hl [0, 1, 2] rfl)
        · have hf := it_pos c29 hf
          refine lv_iconst (v := 3) hx hb dX4_unmap_46 (by decide) ?_
          refine lv_goto (tgt := 51) hx hb dX4_unmap_47 (by decide) ?_
          exact K51 _ _ _ _ hf _ _ _ hG hS (lv_sub hl [0, 1, 2] rfl)
      · have hf := it_pos c24 hf
        refine lv_iconst (v := 2) hx hb dX4_unmap_29 (by decide) ?_
        refine lv_goto (tgt := 51) hx hb dX4_unmap_30 (by decide) ?_
        exact K51 _ _ _ _ hf _ _ _ hG hS (lv_sub hl [0, 1, 2] rfl)
    · have hf := it_pos c22 hf
      exact K16 _ _ _ hf _ _ _ hG hS (lv_sub hl [0, 1, 2] rfl)
def fX4_isLive_38 (y0 : Int32) (σ : pw_S) : Option (Int32 × pw_S) := ck (isB (y0)) (some (y0, σ))
def fX4_isLive_37 (σ : pw_S) : Option (Int32 × pw_S) := fX4_isLive_38 0 σ
def fX4_isLive_14 (x1 : Int32) (y0 : Int32) (σ : pw_S) : Option (Int32 × pw_S) := ld (si σ 0 0 (y0)) (fun σ5 => (if (gi σ5 0 0) = 0 then ck (inb (x1) (10)) ((if (gi σ5 8 (Int32.toNatClampNeg (x1))) = 0 then fX4_isLive_37 σ5 else fX4_isLive_38 1 σ5)) else fX4_isLive_37 σ5))
def fX4_isLive (a1 : Int32) (σ : pw_S) : Option (Int32 × pw_S) := bnd (fX4_isProcess a1 σ) (fun r10 σ11 => (if r10 = 0 then fX4_isLive_14 a1 1 σ11 else fX4_isLive_14 a1 0 σ11))
set_option maxHeartbeats 4000000 in
set_option maxRecDepth 100000 in
theorem kX4_isLive (l : Launch) (D : va_G) (cA : Nat → ClassId) (A : Nat → Prop) (ad : Nat → Nat) {σ σ' : pw_S} {r : Int32} {a1 : Int32} (hf : fX4_isLive a1 σ = some (r, σ')) : Met l yX4_isLive (wA yX4_isLive cX4_isLive 2 (some .boolean)) ({ frames := 1, cells := 0, slots := 0, locals := 21 }) (pw_Pc D cA shM 15 A ad σ [.ref (ad 0), .int (a1)]) (pw_Qi D cA shM 15 A ad r σ') 0 0 A := by
  refine mw_enter (own := RX4) (by decide) rfl (Nat.le_of_ble_eq_true rfl) ?_
  intro p e s m args below meth c ls hC hr hlocks hK hA hX hG hS hl
  obtain ⟨hx, hb, hml, hown, hts⟩ := id hC
  have K38 : ∀ (y0 : Int32) (σ : pw_S), fX4_isLive_38 y0 σ = some (r, σ') → mw_K p l e ({ frames := 1, cells := 0, slots := 0, locals := 21 }) s m args below meth c (MQ below (pw_Qi D cA shM 15 A ad r σ') args s 0 0 A) A D cA shM 15 ad 2 38 0 0 [] [.int (y0)] σ := by
    intro y0 σ hf H locs ls hG hS hl
    unfold fX4_isLive_38 at hf
    obtain ⟨h4, hf⟩ := ck_some hf
    exact mr_z hC hr hlocks hG hS (isB_or h4) hf (Nat.le_of_ble_eq_true rfl) (Nat.le_of_ble_eq_true rfl) dX4_isLive_38
  have K37 : ∀ (σ : pw_S), fX4_isLive_37  σ = some (r, σ') → mw_K p l e ({ frames := 1, cells := 0, slots := 0, locals := 21 }) s m args below meth c (MQ below (pw_Qi D cA shM 15 A ad r σ') args s 0 0 A) A D cA shM 15 ad 2 37 0 0 [] [] σ := by
    intro  σ hf H locs ls hG hS hl
    unfold fX4_isLive_37 at hf
    refine lv_iconst (v := 0) hx hb dX4_isLive_37 (by decide) ?_
    exact K38 _ _ hf _ _ _ hG hS (lv_sub hl [] rfl)
  have K14 : ∀ (x1 : Int32) (y0 : Int32) (σ : pw_S), fX4_isLive_14 x1 y0 σ = some (r, σ') → mw_K p l e ({ frames := 1, cells := 0, slots := 0, locals := 21 }) s m args below meth c (MQ below (pw_Qi D cA shM 15 A ad r σ') args s 0 0 A) A D cA shM 15 ad 2 14 0 0 [(0, .ref (ad 0)), (1, .int (x1))] [.int (y0), .ref (ad 0)] σ := by
    intro x1 y0 σ hf H locs ls hG hS hl
    unfold fX4_isLive_14 at hf
    refine mw_puti hx hb hts hown hK hG hS inlX4 tyX4 tyX4_ok nmX4 rfl (hG.fix (by decide)) rfl 0 (by decide) rfl rfl rfl rfl wA_93 dX4_isLive_14 (fun H locs hG hS => ?_)
    obtain ⟨σ5, e6, hf⟩ := ld_some hf
    rw [← e6] at hG
    clear e6
    refine lv_aload_n hx hb dX4_isLive_17 rfl (lv_at hl 0 rfl) ?_
    refine mw_geti hx hb hts hown hK hG inlX4 rfl (hG.fix (by decide)) rfl 0 (by decide) rfl wA_93 dX4_isLive_18 ?_
    refine lv_if_ne (tgt := 37) hx hb dX4_isLive_21 (by decide) (fun c7 => ?_) (fun c7 => ?_)
    · have hf := it_neg c7 hf
      exact K37 _ hf _ _ _ hG hS (lv_sub hl [] rfl)
    · have hf := it_pos c7 hf
      refine lv_aload_n hx hb dX4_isLive_24 rfl (lv_at hl 0 rfl) ?_
      refine mw_getl hx hb hts hown hK hG inlX4 rfl (hG.fix (by decide)) rfl 13 (by decide) 8 rfl wA_62 dX4_isLive_25 ?_
      refine lv_iload_n hx hb dX4_isLive_28 rfl (lv_at hl 1 rfl) ?_
      obtain ⟨h8, hf⟩ := ck_some hf
      refine mw_zald hx hb hK hG (hG.fix (by decide)) rfl (inb_in h8) dX4_isLive_29 ?_
      refine lv_if_eq (tgt := 37) hx hb dX4_isLive_30 (by decide) (fun c9 => ?_) (fun c9 => ?_)
      · have hf := it_pos c9 hf
        exact K37 _ hf _ _ _ hG hS (lv_sub hl [] rfl)
      · have hf := it_neg c9 hf
        refine lv_iconst (v := 1) hx hb dX4_isLive_33 (by decide) ?_
        refine lv_goto (tgt := 38) hx hb dX4_isLive_34 (by decide) ?_
        exact K38 _ _ hf _ _ _ hG hS (lv_sub hl [] rfl)
  have hl : lv_has ls 2 [(0, .ref (ad 0)), (1, .int (a1))] := hl
  unfold fX4_isLive at hf
  refine lv_aload_n hx hb dX4_isLive_0 rfl (lv_at hl 0 rfl) ?_
  refine lv_aload_n hx hb dX4_isLive_1 rfl (lv_at hl 0 rfl) ?_
  refine lv_iload_n hx hb dX4_isLive_2 rfl (lv_at hl 1 rfl) ?_
  obtain ⟨r10, σ11, hc12, hf⟩ := bnd_some hf
  refine mc_i (mc_V (As := [.int (a1)]) hC hK hA hX hG hS (kX4_isProcess l D cA A ad hc12) ykX4_isProcess wA_174 wA_175 wA_176 (hG.fix (by decide)) rfl rfl ⟨rfl, rfl, Nat.le_of_ble_eq_true rfl, Nat.le_of_ble_eq_true rfl⟩ rfl hl.1 rfl (Nat.le_of_ble_eq_true rfl) dX4_isLive_3 ⟨Nat.le_of_ble_eq_true rfl, Nat.le_of_ble_eq_true rfl⟩) hS (fun H locs hG hS => ?_)
  refine lv_if_eq (tgt := 13) hx hb dX4_isLive_6 (by decide) (fun c13 => ?_) (fun c13 => ?_)
  · have hf := it_pos c13 hf
    refine lv_iconst (v := 1) hx hb dX4_isLive_13 (by decide) ?_
    exact K14 _ _ _ hf _ _ _ hG hS (lv_sub hl [0, 1] rfl)
  · have hf := it_neg c13 hf
    refine lv_iconst (v := 0) hx hb dX4_isLive_9 (by decide) ?_
    refine lv_goto (tgt := 14) hx hb dX4_isLive_10 (by decide) ?_
    exact K14 _ _ _ hf _ _ _ hG hS (lv_sub hl [0, 1] rfl)
def fX4_asks_36 (y0 : Int32) (σ : pw_S) : Option (Int32 × pw_S) := ck (isB (y0)) (some (y0, σ))
def fX4_asks_21 (y0 : Int32) (σ : pw_S) : Option (Int32 × pw_S) := ld (si σ 0 0 (y0)) (fun σ5 => (if (gi σ5 0 0) = 0 then fX4_asks_36 1 σ5 else fX4_asks_36 0 σ5))
def fX4_asks_20 (σ : pw_S) : Option (Int32 × pw_S) := fX4_asks_21 1 σ
def fX4_asks (a1 : Int32) (a2 : Int32) (σ : pw_S) : Option (Int32 × pw_S) := bnd (fX4_isProcess a1 σ) (fun r8 σ9 => (if r8 = 0 then fX4_asks_20 σ9 else bnd (fX4_isPage a2 σ9) (fun r12 σ13 => (if r12 = 0 then fX4_asks_20 σ13 else fX4_asks_21 0 σ13))))
set_option maxHeartbeats 4000000 in
set_option maxRecDepth 100000 in
theorem kX4_asks (l : Launch) (D : va_G) (cA : Nat → ClassId) (A : Nat → Prop) (ad : Nat → Nat) {σ σ' : pw_S} {r : Int32} {a1 : Int32} {a2 : Int32} (hf : fX4_asks a1 a2 σ = some (r, σ')) : Met l yX4_asks (wA yX4_asks cX4_asks 3 (some .boolean)) ({ frames := 1, cells := 0, slots := 0, locals := 21 }) (pw_Pc D cA shM 15 A ad σ [.ref (ad 0), .int (a1), .int (a2)]) (pw_Qi D cA shM 15 A ad r σ') 0 0 A := by
  refine mw_enter (own := RX4) (by decide) rfl (Nat.le_of_ble_eq_true rfl) ?_
  intro p e s m args below meth c ls hC hr hlocks hK hA hX hG hS hl
  obtain ⟨hx, hb, hml, hown, hts⟩ := id hC
  have K36 : ∀ (y0 : Int32) (σ : pw_S), fX4_asks_36 y0 σ = some (r, σ') → mw_K p l e ({ frames := 1, cells := 0, slots := 0, locals := 21 }) s m args below meth c (MQ below (pw_Qi D cA shM 15 A ad r σ') args s 0 0 A) A D cA shM 15 ad 3 36 0 0 [] [.int (y0)] σ := by
    intro y0 σ hf H locs ls hG hS hl
    unfold fX4_asks_36 at hf
    obtain ⟨h4, hf⟩ := ck_some hf
    exact mr_z hC hr hlocks hG hS (isB_or h4) hf (Nat.le_of_ble_eq_true rfl) (Nat.le_of_ble_eq_true rfl) dX4_asks_36
  have K21 : ∀ (y0 : Int32) (σ : pw_S), fX4_asks_21 y0 σ = some (r, σ') → mw_K p l e ({ frames := 1, cells := 0, slots := 0, locals := 21 }) s m args below meth c (MQ below (pw_Qi D cA shM 15 A ad r σ') args s 0 0 A) A D cA shM 15 ad 3 21 0 0 [(0, .ref (ad 0))] [.int (y0), .ref (ad 0)] σ := by
    intro y0 σ hf H locs ls hG hS hl
    unfold fX4_asks_21 at hf
    refine mw_puti hx hb hts hown hK hG hS inlX4 tyX4 tyX4_ok nmX4 rfl (hG.fix (by decide)) rfl 0 (by decide) rfl rfl rfl rfl wA_93 dX4_asks_21 (fun H locs hG hS => ?_)
    obtain ⟨σ5, e6, hf⟩ := ld_some hf
    rw [← e6] at hG
    clear e6
    refine lv_aload_n hx hb dX4_asks_24 rfl (lv_at hl 0 rfl) ?_
    refine mw_geti hx hb hts hown hK hG inlX4 rfl (hG.fix (by decide)) rfl 0 (by decide) rfl wA_93 dX4_asks_25 ?_
    refine lv_if_ne (tgt := 35) hx hb dX4_asks_28 (by decide) (fun c7 => ?_) (fun c7 => ?_)
    · have hf := it_neg c7 hf
      refine lv_iconst (v := 0) hx hb dX4_asks_35 (by decide) ?_
      exact K36 _ _ hf _ _ _ hG hS (lv_sub hl [] rfl)
    · have hf := it_pos c7 hf
      refine lv_iconst (v := 1) hx hb dX4_asks_31 (by decide) ?_
      refine lv_goto (tgt := 36) hx hb dX4_asks_32 (by decide) ?_
      exact K36 _ _ hf _ _ _ hG hS (lv_sub hl [] rfl)
  have K20 : ∀ (σ : pw_S), fX4_asks_20  σ = some (r, σ') → mw_K p l e ({ frames := 1, cells := 0, slots := 0, locals := 21 }) s m args below meth c (MQ below (pw_Qi D cA shM 15 A ad r σ') args s 0 0 A) A D cA shM 15 ad 3 20 0 0 [(0, .ref (ad 0))] [.ref (ad 0)] σ := by
    intro  σ hf H locs ls hG hS hl
    unfold fX4_asks_20 at hf
    refine lv_iconst (v := 1) hx hb dX4_asks_20 (by decide) ?_
    exact K21 _ _ hf _ _ _ hG hS (lv_sub hl [0] rfl)
  have hl : lv_has ls 3 [(0, .ref (ad 0)), (1, .int (a1)), (2, .int (a2))] := hl
  unfold fX4_asks at hf
  refine lv_aload_n hx hb dX4_asks_0 rfl (lv_at hl 0 rfl) ?_
  refine lv_aload_n hx hb dX4_asks_1 rfl (lv_at hl 0 rfl) ?_
  refine lv_iload_n hx hb dX4_asks_2 rfl (lv_at hl 1 rfl) ?_
  obtain ⟨r8, σ9, hc10, hf⟩ := bnd_some hf
  refine mc_i (mc_V (As := [.int (a1)]) hC hK hA hX hG hS (kX4_isProcess l D cA A ad hc10) ykX4_isProcess wA_174 wA_175 wA_176 (hG.fix (by decide)) rfl rfl ⟨rfl, rfl, Nat.le_of_ble_eq_true rfl, Nat.le_of_ble_eq_true rfl⟩ rfl hl.1 rfl (Nat.le_of_ble_eq_true rfl) dX4_asks_3 ⟨Nat.le_of_ble_eq_true rfl, Nat.le_of_ble_eq_true rfl⟩) hS (fun H locs hG hS => ?_)
  refine lv_if_eq (tgt := 20) hx hb dX4_asks_6 (by decide) (fun c11 => ?_) (fun c11 => ?_)
  · have hf := it_pos c11 hf
    exact K20 _ hf _ _ _ hG hS (lv_sub hl [0] rfl)
  · have hf := it_neg c11 hf
    refine lv_iload_n hx hb dX4_asks_9 rfl (lv_at hl 2 rfl) ?_
    obtain ⟨r12, σ13, hc14, hf⟩ := bnd_some hf
    refine mc_i (mc_S (As := [.int (a2)]) hC hK hA hX hG hS (kX4_isPage l D cA A ad hc14) ykX4_isPage wA_275 wA_276 ⟨rfl, rfl, Nat.le_of_ble_eq_true rfl, Nat.le_of_ble_eq_true rfl⟩ rfl hl.1 rfl (Nat.le_of_ble_eq_true rfl) dX4_asks_10 ⟨Nat.le_of_ble_eq_true rfl, Nat.le_of_ble_eq_true rfl⟩) hS (fun H locs hG hS => ?_)
    refine lv_if_eq (tgt := 20) hx hb dX4_asks_13 (by decide) (fun c15 => ?_) (fun c15 => ?_)
    · have hf := it_pos c15 hf
      exact K20 _ hf _ _ _ hG hS (lv_sub hl [0] rfl)
    · have hf := it_neg c15 hf
      refine lv_iconst (v := 0) hx hb dX4_asks_16 (by decide) ?_
      refine lv_goto (tgt := 21) hx hb dX4_asks_17 (by decide) ?_
      exact K21 _ _ hf _ _ _ hG hS (lv_sub hl [0] rfl)
def fX4_mapping_23 (y0 : Int32) (σ : pw_S) : Option (Int32 × pw_S) := some (y0, σ)
def fX4_mapping (a1 : Int32) (a2 : Int32) (σ : pw_S) : Option (Int32 × pw_S) := bnd (fX4_asks a1 a2 σ) (fun r2 σ3 => (if r2 = 0 then fX4_mapping_23 0 σ3 else bnd (fX4_at a1 a2 σ3) (fun r6 σ7 => ck (inb (r6) (160)) (fX4_mapping_23 ((gi σ7 9 (Int32.toNatClampNeg (r6)))) σ7))))
set_option maxHeartbeats 4000000 in
set_option maxRecDepth 100000 in
theorem kX4_mapping (l : Launch) (D : va_G) (cA : Nat → ClassId) (A : Nat → Prop) (ad : Nat → Nat) {σ σ' : pw_S} {r : Int32} {a1 : Int32} {a2 : Int32} (hf : fX4_mapping a1 a2 σ = some (r, σ')) : Met l yX4_mapping (wA yX4_mapping cX4_mapping 3 (some .int)) ({ frames := 2, cells := 0, slots := 0, locals := 43 }) (pw_Pc D cA shM 15 A ad σ [.ref (ad 0), .int (a1), .int (a2)]) (pw_Qi D cA shM 15 A ad r σ') 0 0 A := by
  refine mw_enter (own := RX4) (by decide) rfl (Nat.le_of_ble_eq_true rfl) ?_
  intro p e s m args below meth c ls hC hr hlocks hK hA hX hG hS hl
  obtain ⟨hx, hb, hml, hown, hts⟩ := id hC
  have K23 : ∀ (y0 : Int32) (σ : pw_S), fX4_mapping_23 y0 σ = some (r, σ') → mw_K p l e ({ frames := 2, cells := 0, slots := 0, locals := 43 }) s m args below meth c (MQ below (pw_Qi D cA shM 15 A ad r σ') args s 0 0 A) A D cA shM 15 ad 3 23 0 0 [] [.int (y0)] σ := by
    intro y0 σ hf H locs ls hG hS hl
    unfold fX4_mapping_23 at hf
    exact mr_i hC hr hlocks hG hS hf (Nat.le_of_ble_eq_true rfl) (Nat.le_of_ble_eq_true rfl) dX4_mapping_23
  have hl : lv_has ls 3 [(0, .ref (ad 0)), (1, .int (a1)), (2, .int (a2))] := hl
  unfold fX4_mapping at hf
  refine lv_aload_n hx hb dX4_mapping_0 rfl (lv_at hl 0 rfl) ?_
  refine lv_iload_n hx hb dX4_mapping_1 rfl (lv_at hl 1 rfl) ?_
  refine lv_iload_n hx hb dX4_mapping_2 rfl (lv_at hl 2 rfl) ?_
  obtain ⟨r2, σ3, hc4, hf⟩ := bnd_some hf
  refine mc_i (mc_V (As := [.int (a1), .int (a2)]) hC hK hA hX hG hS (kX4_asks l D cA A ad hc4) ykX4_asks wA_349 wA_350 wA_351 (hG.fix (by decide)) rfl rfl ⟨rfl, rfl, Nat.le_of_ble_eq_true rfl, Nat.le_of_ble_eq_true rfl⟩ rfl hl.1 rfl (Nat.le_of_ble_eq_true rfl) dX4_mapping_3 ⟨Nat.le_of_ble_eq_true rfl, Nat.le_of_ble_eq_true rfl⟩) hS (fun H locs hG hS => ?_)
  refine lv_if_eq (tgt := 22) hx hb dX4_mapping_6 (by decide) (fun c5 => ?_) (fun c5 => ?_)
  · have hf := it_pos c5 hf
    refine lv_iconst (v := 0) hx hb dX4_mapping_22 (by decide) ?_
    exact K23 _ _ hf _ _ _ hG hS (lv_sub hl [] rfl)
  · have hf := it_neg c5 hf
    refine lv_aload_n hx hb dX4_mapping_9 rfl (lv_at hl 0 rfl) ?_
    refine mw_getl hx hb hts hown hK hG inlX4 rfl (hG.fix (by decide)) rfl 14 (by decide) 9 rfl wA_63 dX4_mapping_10 ?_
    refine lv_iload_n hx hb dX4_mapping_13 rfl (lv_at hl 1 rfl) ?_
    refine lv_iload_n hx hb dX4_mapping_14 rfl (lv_at hl 2 rfl) ?_
    obtain ⟨r6, σ7, hc8, hf⟩ := bnd_some hf
    refine mc_i (mc_S (As := [.int (a1), .int (a2)]) hC hK hA hX hG hS (kX4_at l D cA A ad hc8) ykX4_at wA_138 wA_139 ⟨rfl, rfl, Nat.le_of_ble_eq_true rfl, Nat.le_of_ble_eq_true rfl⟩ rfl hl.1 rfl (Nat.le_of_ble_eq_true rfl) dX4_mapping_15 ⟨Nat.le_of_ble_eq_true rfl, Nat.le_of_ble_eq_true rfl⟩) hS (fun H locs hG hS => ?_)
    obtain ⟨h9, hf⟩ := ck_some hf
    refine mw_iald hx hb hK hG (hG.fix (by decide)) rfl (inb_in h9) dX4_mapping_18 ?_
    refine lv_goto (tgt := 23) hx hb dX4_mapping_19 (by decide) ?_
    exact K23 _ _ hf _ _ _ hG hS (lv_sub hl [] rfl)
def fX4_nextInSegment_40 (y0 : Int32) (σ : pw_S) : Option (Int32 × pw_S) := some (y0, σ)
def fX4_nextInSegment (a1 : Int32) (a2 : Int32) (σ : pw_S) : Option (Int32 × pw_S) := ck (inb ((a1 / 6)) (4)) ((if (gi σ 11 (Int32.toNatClampNeg ((a1 / 6)))) ≤ ((a1 - a1 / 6 * 6) + a2) then fX4_nextInSegment_40 ((-1)) σ else ck (inb (((6 * (a1 / 6)) + ((a1 - a1 / 6 * 6) + a2))) (24)) (fX4_nextInSegment_40 ((gi σ 12 (Int32.toNatClampNeg (((6 * (a1 / 6)) + ((a1 - a1 / 6 * 6) + a2)))))) σ)))
set_option maxHeartbeats 4000000 in
set_option maxRecDepth 100000 in
theorem kX4_nextInSegment (l : Launch) (D : va_G) (cA : Nat → ClassId) (A : Nat → Prop) (ad : Nat → Nat) {σ σ' : pw_S} {r : Int32} {a1 : Int32} {a2 : Int32} (hf : fX4_nextInSegment a1 a2 σ = some (r, σ')) : Met l yX4_nextInSegment (wA yX4_nextInSegment cX4_nextInSegment 5 (some .int)) ({ frames := 0, cells := 0, slots := 0, locals := 0 }) (pw_Pc D cA shM 15 A ad σ [.ref (ad 0), .int (a1), .int (a2)]) (pw_Qi D cA shM 15 A ad r σ') 0 0 A := by
  refine mw_enter (own := RX4) (by decide) rfl (Nat.le_of_ble_eq_true rfl) ?_
  intro p e s m args below meth c ls hC hr hlocks hK hA hX hG hS hl
  obtain ⟨hx, hb, hml, hown, hts⟩ := id hC
  have K40 : ∀ (y0 : Int32) (σ : pw_S), fX4_nextInSegment_40 y0 σ = some (r, σ') → mw_K p l e ({ frames := 0, cells := 0, slots := 0, locals := 0 }) s m args below meth c (MQ below (pw_Qi D cA shM 15 A ad r σ') args s 0 0 A) A D cA shM 15 ad 5 40 0 0 [] [.int (y0)] σ := by
    intro y0 σ hf H locs ls hG hS hl
    unfold fX4_nextInSegment_40 at hf
    exact mr_i hC hr hlocks hG hS hf (Nat.le_of_ble_eq_true rfl) (Nat.le_of_ble_eq_true rfl) dX4_nextInSegment_40
  have hl : lv_has ls 5 [(0, .ref (ad 0)), (1, .int (a1)), (2, .int (a2))] := hl
  unfold fX4_nextInSegment at hf
  refine lv_iload_n hx hb dX4_nextInSegment_0 rfl (lv_at hl 1 rfl) ?_
  refine lv_bipush (v := 6) hx hb dX4_nextInSegment_1 (by decide) ?_
  refine lv_idiv hx hb dX4_nextInSegment_3 (by decide) ?_
  refine lv_istore_n (lv' := [(3, .int ((a1 / 6))), (0, .ref (ad 0)), (1, .int (a1)), (2, .int (a2))]) hx hb dX4_nextInSegment_4 rfl hl (by decide) rfl (fun ls hl => ?_)
  refine lv_iload_n hx hb dX4_nextInSegment_5 rfl (lv_at hl 2 rfl) ?_
  refine lv_bipush (v := 6) hx hb dX4_nextInSegment_6 (by decide) ?_
  refine lv_irem hx hb dX4_nextInSegment_8 (by decide) ?_
  refine lv_iload_n hx hb dX4_nextInSegment_9 rfl (lv_at hl 3 rfl) ?_
  refine lv_iadd hx hb dX4_nextInSegment_10 ?_
  refine lv_istore (lv' := [(4, .int (((a1 - a1 / 6 * 6) + a2))), (3, .int ((a1 / 6))), (0, .ref (ad 0)), (1, .int (a1)), (2, .int (a2))]) hx hb dX4_nextInSegment_11 hl (by decide) rfl (fun ls hl => ?_)
  refine lv_iload hx hb dX4_nextInSegment_13 (lv_at hl 0 rfl) ?_
  refine lv_aload_n hx hb dX4_nextInSegment_15 rfl (lv_at hl 2 rfl) ?_
  refine mw_getl hx hb hts hown hK hG inlX4 rfl (hG.fix (by decide)) rfl 17 (by decide) 11 rfl wA_65 dX4_nextInSegment_16 ?_
  refine lv_iload_n hx hb dX4_nextInSegment_19 rfl (lv_at hl 1 rfl) ?_
  obtain ⟨h2, hf⟩ := ck_some hf
  refine mw_iald hx hb hK hG (hG.fix (by decide)) rfl (inb_in h2) dX4_nextInSegment_20 ?_
  refine lv_icmp_ge (tgt := 39) hx hb dX4_nextInSegment_21 (by decide) (fun c3 => ?_) (fun c3 => ?_)
  · have hf := it_pos c3 hf
    refine lv_iconst (v := (-1)) hx hb dX4_nextInSegment_39 (by decide) ?_
    exact K40 _ _ hf _ _ _ hG hS (lv_sub hl [] rfl)
  · have hf := it_neg c3 hf
    refine lv_aload_n hx hb dX4_nextInSegment_24 rfl (lv_at hl 2 rfl) ?_
    refine mw_getl hx hb hts hown hK hG inlX4 rfl (hG.fix (by decide)) rfl 18 (by decide) 12 rfl wA_66 dX4_nextInSegment_25 ?_
    refine lv_bipush (v := 6) hx hb dX4_nextInSegment_28 (by decide) ?_
    refine lv_iload_n hx hb dX4_nextInSegment_30 rfl (lv_at hl 1 rfl) ?_
    refine lv_imul hx hb dX4_nextInSegment_31 ?_
    refine lv_iload hx hb dX4_nextInSegment_32 (lv_at hl 0 rfl) ?_
    refine lv_iadd hx hb dX4_nextInSegment_34 ?_
    obtain ⟨h4, hf⟩ := ck_some hf
    refine mw_iald hx hb hK hG (hG.fix (by decide)) rfl (inb_in h4) dX4_nextInSegment_35 ?_
    refine lv_goto (tgt := 40) hx hb dX4_nextInSegment_36 (by decide) ?_
    exact K40 _ _ hf _ _ _ hG hS (lv_sub hl [] rfl)
def fX4_nextOfProcess_35 (y0 : Int32) (σ : pw_S) : Option (Int32 × pw_S) := some (y0, σ)
def fX4_nextOfProcess_34 (σ : pw_S) : Option (Int32 × pw_S) := fX4_nextOfProcess_35 ((-1)) σ
def fX4_nextOfProcess (a1 : Int32) (a2 : Int32) (σ : pw_S) : Option (Int32 × pw_S) := (if 16 ≤ ((a1 - a1 / 16 * 16) + a2) then fX4_nextOfProcess_34 σ else ck (inb ((a1 + a2)) (160)) ((if (gi σ 9 (Int32.toNatClampNeg ((a1 + a2)))) = 1 then ck (inb ((a1 + a2)) (160)) (fX4_nextOfProcess_35 ((gi σ 10 (Int32.toNatClampNeg ((a1 + a2))))) σ) else fX4_nextOfProcess_34 σ)))
set_option maxHeartbeats 4000000 in
set_option maxRecDepth 100000 in
theorem kX4_nextOfProcess (l : Launch) (D : va_G) (cA : Nat → ClassId) (A : Nat → Prop) (ad : Nat → Nat) {σ σ' : pw_S} {r : Int32} {a1 : Int32} {a2 : Int32} (hf : fX4_nextOfProcess a1 a2 σ = some (r, σ')) : Met l yX4_nextOfProcess (wA yX4_nextOfProcess cX4_nextOfProcess 3 (some .int)) ({ frames := 0, cells := 0, slots := 0, locals := 0 }) (pw_Pc D cA shM 15 A ad σ [.ref (ad 0), .int (a1), .int (a2)]) (pw_Qi D cA shM 15 A ad r σ') 0 0 A := by
  refine mw_enter (own := RX4) (by decide) rfl (Nat.le_of_ble_eq_true rfl) ?_
  intro p e s m args below meth c ls hC hr hlocks hK hA hX hG hS hl
  obtain ⟨hx, hb, hml, hown, hts⟩ := id hC
  have K35 : ∀ (y0 : Int32) (σ : pw_S), fX4_nextOfProcess_35 y0 σ = some (r, σ') → mw_K p l e ({ frames := 0, cells := 0, slots := 0, locals := 0 }) s m args below meth c (MQ below (pw_Qi D cA shM 15 A ad r σ') args s 0 0 A) A D cA shM 15 ad 3 35 0 0 [] [.int (y0)] σ := by
    intro y0 σ hf H locs ls hG hS hl
    unfold fX4_nextOfProcess_35 at hf
    exact mr_i hC hr hlocks hG hS hf (Nat.le_of_ble_eq_true rfl) (Nat.le_of_ble_eq_true rfl) dX4_nextOfProcess_35
  have K34 : ∀ (σ : pw_S), fX4_nextOfProcess_34  σ = some (r, σ') → mw_K p l e ({ frames := 0, cells := 0, slots := 0, locals := 0 }) s m args below meth c (MQ below (pw_Qi D cA shM 15 A ad r σ') args s 0 0 A) A D cA shM 15 ad 3 34 0 0 [] [] σ := by
    intro  σ hf H locs ls hG hS hl
    unfold fX4_nextOfProcess_34 at hf
    refine lv_iconst (v := (-1)) hx hb dX4_nextOfProcess_34 (by decide) ?_
    exact K35 _ _ hf _ _ _ hG hS (lv_sub hl [] rfl)
  have hl : lv_has ls 3 [(0, .ref (ad 0)), (1, .int (a1)), (2, .int (a2))] := hl
  unfold fX4_nextOfProcess at hf
  refine lv_iload_n hx hb dX4_nextOfProcess_0 rfl (lv_at hl 1 rfl) ?_
  refine lv_bipush (v := 16) hx hb dX4_nextOfProcess_1 (by decide) ?_
  refine lv_irem hx hb dX4_nextOfProcess_3 (by decide) ?_
  refine lv_iload_n hx hb dX4_nextOfProcess_4 rfl (lv_at hl 2 rfl) ?_
  refine lv_iadd hx hb dX4_nextOfProcess_5 ?_
  refine lv_bipush (v := 16) hx hb dX4_nextOfProcess_6 (by decide) ?_
  refine lv_icmp_ge (tgt := 34) hx hb dX4_nextOfProcess_8 (by decide) (fun c3 => ?_) (fun c3 => ?_)
  · have hf := it_pos c3 hf
    exact K34 _ hf _ _ _ hG hS (lv_sub hl [] rfl)
  · have hf := it_neg c3 hf
    refine lv_aload_n hx hb dX4_nextOfProcess_11 rfl (lv_at hl 0 rfl) ?_
    refine mw_getl hx hb hts hown hK hG inlX4 rfl (hG.fix (by decide)) rfl 14 (by decide) 9 rfl wA_63 dX4_nextOfProcess_12 ?_
    refine lv_iload_n hx hb dX4_nextOfProcess_15 rfl (lv_at hl 1 rfl) ?_
    refine lv_iload_n hx hb dX4_nextOfProcess_16 rfl (lv_at hl 2 rfl) ?_
    refine lv_iadd hx hb dX4_nextOfProcess_17 ?_
    obtain ⟨h4, hf⟩ := ck_some hf
    refine mw_iald hx hb hK hG (hG.fix (by decide)) rfl (inb_in h4) dX4_nextOfProcess_18 ?_
    refine lv_iconst (v := 1) hx hb dX4_nextOfProcess_19 (by decide) ?_
    refine lv_icmp_ne (tgt := 34) hx hb dX4_nextOfProcess_20 (by decide) (fun c5 => ?_) (fun c5 => ?_)
    · have hf := it_neg c5 hf
      exact K34 _ hf _ _ _ hG hS (lv_sub hl [] rfl)
    · have hf := it_pos c5 hf
      refine lv_aload_n hx hb dX4_nextOfProcess_23 rfl (lv_at hl 0 rfl) ?_
      refine mw_getl hx hb hts hown hK hG inlX4 rfl (hG.fix (by decide)) rfl 15 (by decide) 10 rfl wA_64 dX4_nextOfProcess_24 ?_
      refine lv_iload_n hx hb dX4_nextOfProcess_27 rfl (lv_at hl 1 rfl) ?_
      refine lv_iload_n hx hb dX4_nextOfProcess_28 rfl (lv_at hl 2 rfl) ?_
      refine lv_iadd hx hb dX4_nextOfProcess_29 ?_
      obtain ⟨h6, hf⟩ := ck_some hf
      refine mw_iald hx hb hK hG (hG.fix (by decide)) rfl (inb_in h6) dX4_nextOfProcess_30 ?_
      refine lv_goto (tgt := 35) hx hb dX4_nextOfProcess_31 (by decide) ?_
      exact K35 _ _ hf _ _ _ hG hS (lv_sub hl [] rfl)
