/-! SwapArea: pure functions and contracts (printed by wip/whole/gen) -/
def fX2_freeCount_22 (bk4 : Int32 → Int32 → pw_S → Option (Int32 × pw_S)) (x1 : Int32) (x2 : Int32) (σ : pw_S) : Option (Int32 × pw_S) := bk4 x1 (x2 + 1) σ
def fX2_freeCount_4_b (bk4 : Int32 → Int32 → pw_S → Option (Int32 × pw_S)) (x1 : Int32) (x2 : Int32) (σ : pw_S) : Option (Int32 × pw_S) := (if 24 ≤ x2 then some (x1, σ) else ck (inb (x2) (24)) (ld (gr σ 9 (Int32.toNatClampNeg (x2))) (fun o6 => oc o6 (fX2_freeCount_22 bk4 (x1 + 1) x2 σ) (fun q8 => fX2_freeCount_22 bk4 x1 x2 σ))))
def fX2_freeCount_4 : Nat → Int32 → Int32 → pw_S → Option (Int32 × pw_S)
  | 0, _, _, _ => none
  | n + 1, x1, x2, σ => fX2_freeCount_4_b (fX2_freeCount_4 n) x1 x2 σ
def fX2_freeCount (σ : pw_S) : Option (Int32 × pw_S) := fX2_freeCount_4 1000 0 0 σ
set_option maxHeartbeats 4000000 in
set_option maxRecDepth 100000 in
theorem kX2_freeCount (l : Launch) (D : va_G) (cA : Nat → ClassId) (A : Nat → Prop) (ad : Nat → Nat) {σ σ' : pw_S} {r : Int32} (hf : fX2_freeCount σ = some (r, σ')) : Met l yX2_freeCount (wA yX2_freeCount cX2_freeCount 3 (some .int)) ({ frames := 0, cells := 0, slots := 0, locals := 0 }) (pw_Pc D cA shP 12 A ad σ [.ref (ad 8)]) (pw_Qi D cA shP 12 A ad r σ') 0 0 A := by
  refine mw_enter (own := RX2) (by decide) rfl (Nat.le_of_ble_eq_true rfl) ?_
  intro p e s m args below meth c ls hC hr hlocks hK hA hX hG hS hl
  obtain ⟨hx, hb, hml, hown, hts⟩ := id hC
  have K4 : ∀ (n4 : Nat) (x1 : Int32) (x2 : Int32) (σ : pw_S), fX2_freeCount_4 n4 x1 x2 σ = some (r, σ') → mw_K p l e ({ frames := 0, cells := 0, slots := 0, locals := 0 }) s m args below meth c (MQ below (pw_Qi D cA shP 12 A ad r σ') args s 0 0 A) A D cA shP 12 ad 3 4 0 0 [(0, .ref (ad 8)), (1, .int (x1)), (2, .int (x2))] [] σ := by
    intro n4
    induction n4 with
    | zero => intro x1 x2 σ hf; cases hf
    | succ n4 ih4 =>
      have K22 : ∀ (x1 : Int32) (x2 : Int32) (σ : pw_S), fX2_freeCount_22 (fX2_freeCount_4 n4) x1 x2 σ = some (r, σ') → mw_K p l e ({ frames := 0, cells := 0, slots := 0, locals := 0 }) s m args below meth c (MQ below (pw_Qi D cA shP 12 A ad r σ') args s 0 0 A) A D cA shP 12 ad 3 22 0 0 [(0, .ref (ad 8)), (1, .int (x1)), (2, .int (x2))] [] σ := by
        intro x1 x2 σ hf H locs ls hG hS hl
        unfold fX2_freeCount_22 at hf
        refine lv_iinc (v := x2 + 1) (lv' := [(2, .int (x2 + 1)), (0, .ref (ad 8)), (1, .int (x1))]) hx hb dX2_freeCount_22 hl (k := 2) rfl rfl (by decide) rfl (fun ls hl => ?_)
        refine lv_goto (tgt := 4) hx hb dX2_freeCount_25 (by decide) ?_
        exact ih4 _ _ _ hf _ _ _ hG hS (lv_sub hl [1, 2, 0] rfl)
      intro x1 x2 σ hf H locs ls hG hS hl
      have hf : fX2_freeCount_4_b (fX2_freeCount_4 n4) x1 x2 σ = some (r, σ') := hf
      unfold fX2_freeCount_4_b at hf
      refine lv_iload_n hx hb dX2_freeCount_4 rfl (lv_at hl 2 rfl) ?_
      refine lv_bipush (v := 24) hx hb dX2_freeCount_5 (by decide) ?_
      refine lv_icmp_ge (tgt := 28) hx hb dX2_freeCount_7 (by decide) (fun c4 => ?_) (fun c4 => ?_)
      · have hf := it_pos c4 hf
        refine lv_iload_n hx hb dX2_freeCount_28 rfl (lv_at hl 1 rfl) ?_
        exact mr_i hC hr hlocks hG hS hf (Nat.le_of_ble_eq_true rfl) (Nat.le_of_ble_eq_true rfl) dX2_freeCount_29
      · have hf := it_neg c4 hf
        refine lv_aload_n hx hb dX2_freeCount_10 rfl (lv_at hl 0 rfl) ?_
        refine mw_getl hx hb hts hown hK hG inlX2 rfl (hG.fix (by decide)) rfl 0 (by decide) 9 rfl wA_48 dX2_freeCount_11 ?_
        refine lv_iload_n hx hb dX2_freeCount_14 rfl (lv_at hl 2 rfl) ?_
        obtain ⟨h5, hf⟩ := ck_some hf
        obtain ⟨o6, e7, hf⟩ := ld_some hf
        refine mw_aald hx hb hK hG (hG.fix (by decide)) rfl (inb_in h5) dX2_freeCount_15 ?_
        rw [← e7]
        clear e7
        refine mq_ifnonnull (tgt := 22) hx hb dX2_freeCount_16 (by decide) (fun q8 c9 => ?_) (fun c9 => ?_)
        · subst c9
          have hf := oc_some hf
          exact K22 _ _ _ hf _ _ _ hG hS (lv_sub hl [0, 1, 2] rfl)
        · subst c9
          have hf := oc_none hf
          refine lv_iinc (v := x1 + 1) (lv' := [(1, .int (x1 + 1)), (0, .ref (ad 8)), (2, .int (x2))]) hx hb dX2_freeCount_19 hl (k := 1) rfl rfl (by decide) rfl (fun ls hl => ?_)
          exact K22 _ _ _ hf _ _ _ hG hS (lv_sub hl [1, 0, 2] rfl)
  have hl : lv_has ls 3 [(0, .ref (ad 8))] := hl
  unfold fX2_freeCount at hf
  refine lv_iconst (v := 0) hx hb dX2_freeCount_0 (by decide) ?_
  refine lv_istore_n (lv' := [(1, .int (0)), (0, .ref (ad 8))]) hx hb dX2_freeCount_1 rfl hl (by decide) rfl (fun ls hl => ?_)
  refine lv_iconst (v := 0) hx hb dX2_freeCount_2 (by decide) ?_
  refine lv_istore_n (lv' := [(2, .int (0)), (1, .int (0)), (0, .ref (ad 8))]) hx hb dX2_freeCount_3 rfl hl (by decide) rfl (fun ls hl => ?_)
  exact K4 1000 _ _ _ hf _ _ _ hG hS (lv_sub hl [2, 1, 0] rfl)
def fX2_roomFor_26 (bk4 : Int32 → Int32 → Int32 → pw_S → Option (Int32 × pw_S)) (x1 : Int32) (x3 : Int32) (y0 : Int32) (σ : pw_S) : Option (Int32 × pw_S) := (if y0 = x1 then some (((x3 - x1) + 1), σ) else bk4 x1 y0 (x3 + 1) σ)
def fX2_roomFor_4_b (bk4 : Int32 → Int32 → Int32 → pw_S → Option (Int32 × pw_S)) (x1 : Int32) (x2 : Int32) (x3 : Int32) (σ : pw_S) : Option (Int32 × pw_S) := (if 24 ≤ x3 then some ((-1), σ) else ck (inb (x3) (24)) (ld (gr σ 9 (Int32.toNatClampNeg (x3))) (fun o8 => oc o8 (fX2_roomFor_26 bk4 x1 x3 ((x2 + 1)) σ) (fun q10 => fX2_roomFor_26 bk4 x1 x3 0 σ))))
def fX2_roomFor_4 : Nat → Int32 → Int32 → Int32 → pw_S → Option (Int32 × pw_S)
  | 0, _, _, _, _ => none
  | n + 1, x1, x2, x3, σ => fX2_roomFor_4_b (fX2_roomFor_4 n) x1 x2 x3 σ
def fX2_roomFor (a1 : Int32) (σ : pw_S) : Option (Int32 × pw_S) := fX2_roomFor_4 1000 a1 0 0 σ
set_option maxHeartbeats 4000000 in
set_option maxRecDepth 100000 in
theorem kX2_roomFor (l : Launch) (D : va_G) (cA : Nat → ClassId) (A : Nat → Prop) (ad : Nat → Nat) {σ σ' : pw_S} {r : Int32} {a1 : Int32} (hf : fX2_roomFor a1 σ = some (r, σ')) : Met l yX2_roomFor (wA yX2_roomFor cX2_roomFor 4 (some .int)) ({ frames := 0, cells := 0, slots := 0, locals := 0 }) (pw_Pc D cA shP 12 A ad σ [.ref (ad 8), .int (a1)]) (pw_Qi D cA shP 12 A ad r σ') 0 0 A := by
  refine mw_enter (own := RX2) (by decide) rfl (Nat.le_of_ble_eq_true rfl) ?_
  intro p e s m args below meth c ls hC hr hlocks hK hA hX hG hS hl
  obtain ⟨hx, hb, hml, hown, hts⟩ := id hC
  have K4 : ∀ (n4 : Nat) (x1 : Int32) (x2 : Int32) (x3 : Int32) (σ : pw_S), fX2_roomFor_4 n4 x1 x2 x3 σ = some (r, σ') → mw_K p l e ({ frames := 0, cells := 0, slots := 0, locals := 0 }) s m args below meth c (MQ below (pw_Qi D cA shP 12 A ad r σ') args s 0 0 A) A D cA shP 12 ad 4 4 0 0 [(0, .ref (ad 8)), (1, .int (x1)), (2, .int (x2)), (3, .int (x3))] [] σ := by
    intro n4
    induction n4 with
    | zero => intro x1 x2 x3 σ hf; cases hf
    | succ n4 ih4 =>
      have K26 : ∀ (x1 : Int32) (x3 : Int32) (y0 : Int32) (σ : pw_S), fX2_roomFor_26 (fX2_roomFor_4 n4) x1 x3 y0 σ = some (r, σ') → mw_K p l e ({ frames := 0, cells := 0, slots := 0, locals := 0 }) s m args below meth c (MQ below (pw_Qi D cA shP 12 A ad r σ') args s 0 0 A) A D cA shP 12 ad 4 26 0 0 [(0, .ref (ad 8)), (1, .int (x1)), (3, .int (x3))] [.int (y0)] σ := by
        intro x1 x3 y0 σ hf H locs ls hG hS hl
        unfold fX2_roomFor_26 at hf
        refine lv_istore_n (lv' := [(2, .int (y0)), (0, .ref (ad 8)), (1, .int (x1)), (3, .int (x3))]) hx hb dX2_roomFor_26 rfl hl (by decide) rfl (fun ls hl => ?_)
        refine lv_iload_n hx hb dX2_roomFor_27 rfl (lv_at hl 0 rfl) ?_
        refine lv_iload_n hx hb dX2_roomFor_28 rfl (lv_at hl 2 rfl) ?_
        refine lv_icmp_ne (tgt := 38) hx hb dX2_roomFor_29 (by decide) (fun c5 => ?_) (fun c5 => ?_)
        · have hf := it_neg c5 hf
          refine lv_iinc (v := x3 + 1) (lv' := [(3, .int (x3 + 1)), (2, .int (y0)), (0, .ref (ad 8)), (1, .int (x1))]) hx hb dX2_roomFor_38 hl (k := 3) rfl rfl (by decide) rfl (fun ls hl => ?_)
          refine lv_goto (tgt := 4) hx hb dX2_roomFor_41 (by decide) ?_
          exact ih4 _ _ _ _ hf _ _ _ hG hS (lv_sub hl [2, 3, 1, 0] rfl)
        · have hf := it_pos c5 hf
          refine lv_iload_n hx hb dX2_roomFor_32 rfl (lv_at hl 3 rfl) ?_
          refine lv_iload_n hx hb dX2_roomFor_33 rfl (lv_at hl 2 rfl) ?_
          refine lv_isub hx hb dX2_roomFor_34 ?_
          refine lv_iconst (v := 1) hx hb dX2_roomFor_35 (by decide) ?_
          refine lv_iadd hx hb dX2_roomFor_36 ?_
          exact mr_i hC hr hlocks hG hS hf (Nat.le_of_ble_eq_true rfl) (Nat.le_of_ble_eq_true rfl) dX2_roomFor_37
      intro x1 x2 x3 σ hf H locs ls hG hS hl
      have hf : fX2_roomFor_4_b (fX2_roomFor_4 n4) x1 x2 x3 σ = some (r, σ') := hf
      unfold fX2_roomFor_4_b at hf
      refine lv_iload_n hx hb dX2_roomFor_4 rfl (lv_at hl 3 rfl) ?_
      refine lv_bipush (v := 24) hx hb dX2_roomFor_5 (by decide) ?_
      refine lv_icmp_ge (tgt := 44) hx hb dX2_roomFor_7 (by decide) (fun c6 => ?_) (fun c6 => ?_)
      · have hf := it_pos c6 hf
        refine lv_iconst (v := (-1)) hx hb dX2_roomFor_44 (by decide) ?_
        exact mr_i hC hr hlocks hG hS hf (Nat.le_of_ble_eq_true rfl) (Nat.le_of_ble_eq_true rfl) dX2_roomFor_45
      · have hf := it_neg c6 hf
        refine lv_aload_n hx hb dX2_roomFor_10 rfl (lv_at hl 0 rfl) ?_
        refine mw_getl hx hb hts hown hK hG inlX2 rfl (hG.fix (by decide)) rfl 0 (by decide) 9 rfl wA_48 dX2_roomFor_11 ?_
        refine lv_iload_n hx hb dX2_roomFor_14 rfl (lv_at hl 3 rfl) ?_
        obtain ⟨h7, hf⟩ := ck_some hf
        obtain ⟨o8, e9, hf⟩ := ld_some hf
        refine mw_aald hx hb hK hG (hG.fix (by decide)) rfl (inb_in h7) dX2_roomFor_15 ?_
        rw [← e9]
        clear e9
        refine mq_ifnonnull (tgt := 25) hx hb dX2_roomFor_16 (by decide) (fun q10 c11 => ?_) (fun c11 => ?_)
        · subst c11
          have hf := oc_some hf
          refine lv_iconst (v := 0) hx hb dX2_roomFor_25 (by decide) ?_
          exact K26 _ _ _ _ hf _ _ _ hG hS (lv_sub hl [0, 1, 3] rfl)
        · subst c11
          have hf := oc_none hf
          refine lv_iload_n hx hb dX2_roomFor_19 rfl (lv_at hl 2 rfl) ?_
          refine lv_iconst (v := 1) hx hb dX2_roomFor_20 (by decide) ?_
          refine lv_iadd hx hb dX2_roomFor_21 ?_
          refine lv_goto (tgt := 26) hx hb dX2_roomFor_22 (by decide) ?_
          exact K26 _ _ _ _ hf _ _ _ hG hS (lv_sub hl [0, 1, 3] rfl)
  have hl : lv_has ls 4 [(0, .ref (ad 8)), (1, .int (a1))] := hl
  unfold fX2_roomFor at hf
  refine lv_iconst (v := 0) hx hb dX2_roomFor_0 (by decide) ?_
  refine lv_istore_n (lv' := [(2, .int (0)), (0, .ref (ad 8)), (1, .int (a1))]) hx hb dX2_roomFor_1 rfl hl (by decide) rfl (fun ls hl => ?_)
  refine lv_iconst (v := 0) hx hb dX2_roomFor_2 (by decide) ?_
  refine lv_istore_n (lv' := [(3, .int (0)), (2, .int (0)), (0, .ref (ad 8)), (1, .int (a1))]) hx hb dX2_roomFor_3 rfl hl (by decide) rfl (fun ls hl => ?_)
  exact K4 1000 _ _ _ _ hf _ _ _ hG hS (lv_sub hl [2, 3, 1, 0] rfl)
def fX2_putAll_68 (σ : pw_S) : Option (Unit × pw_S) := some ((), σ)
def fX2_putAll_62 (bk3 : Nat → Int32 → Int32 → Int32 → pw_S → Option (Unit × pw_S)) (x1 : Nat) (x2 : Int32) (x3 : Int32) (x4 : Int32) (σ : pw_S) : Option (Unit × pw_S) := bk3 x1 x2 x3 (x4 + 1) σ
def fX2_putAll_3_b (bk3 : Nat → Int32 → Int32 → Int32 → pw_S → Option (Unit × pw_S)) (x1 : Nat) (x2 : Int32) (x3 : Int32) (x4 : Int32) (σ : pw_S) : Option (Unit × pw_S) := (if x2 ≤ x4 then fX2_putAll_68 σ else ck (kar x1) ((if (nI (shP x1).2.2.1) ≤ x4 then fX2_putAll_68 σ else (if 24 ≤ (x3 + x4) then fX2_putAll_68 σ else ck (kar x1) (ck (inb (x4) ((shP x1).2.2.1)) (ld (gr σ x1 (Int32.toNatClampNeg (x4))) (fun o12 => oc o12 (fX2_putAll_62 bk3 x1 x2 x3 x4 σ) (fun q14 => ck (okc σ q14) (ck (inb ((x3 + x4)) (24)) (ld (sr σ 9 (Int32.toNatClampNeg ((x3 + x4))) (some q14)) (fun σ18 => ld (si σ18 q14 4 ((x3 + x4))) (fun σ20 => ld (si σ20 q14 5 (0)) (fun σ22 => fX2_putAll_62 bk3 x1 x2 x3 x4 σ22)))))))))))))
def fX2_putAll_3 : Nat → Nat → Int32 → Int32 → Int32 → pw_S → Option (Unit × pw_S)
  | 0, _, _, _, _, _ => none
  | n + 1, x1, x2, x3, x4, σ => fX2_putAll_3_b (fX2_putAll_3 n) x1 x2 x3 x4 σ
def fX2_putAll (a1 : Nat) (a2 : Int32) (a3 : Int32) (σ : pw_S) : Option (Unit × pw_S) := fX2_putAll_3 1000 a1 a2 a3 0 σ
set_option maxHeartbeats 4000000 in
set_option maxRecDepth 100000 in
theorem kX2_putAll (l : Launch) (D : va_G) (cA : Nat → ClassId) (A : Nat → Prop) (ad : Nat → Nat) {σ σ' : pw_S} {r : Unit} {a1 : Nat} {a2 : Int32} {a3 : Int32} (hf : fX2_putAll a1 a2 a3 σ = some (r, σ')) : Met l yX2_putAll (wA yX2_putAll cX2_putAll 6 none) ({ frames := 0, cells := 0, slots := 0, locals := 0 }) (pw_Pc D cA shP 12 A ad σ [.ref (ad 8), .ref (ad a1), .int (a2), .int (a3)]) (pw_Qv D cA shP 12 A ad r σ') 0 0 A := by
  refine mw_enter (own := RX2) (by decide) rfl (Nat.le_of_ble_eq_true rfl) ?_
  intro p e s m args below meth c ls hC hr hlocks hK hA hX hG hS hl
  obtain ⟨hx, hb, hml, hown, hts⟩ := id hC
  have K68 : ∀ (σ : pw_S), fX2_putAll_68  σ = some (r, σ') → mw_K p l e ({ frames := 0, cells := 0, slots := 0, locals := 0 }) s m args below meth c (MQ below (pw_Qv D cA shP 12 A ad r σ') args s 0 0 A) A D cA shP 12 ad 6 68 0 0 [] [] σ := by
    intro  σ hf H locs ls hG hS hl
    unfold fX2_putAll_68 at hf
    exact mr_v hC hr hlocks hG hS hf (Nat.le_of_ble_eq_true rfl) (Nat.le_of_ble_eq_true rfl) dX2_putAll_68
  have K3 : ∀ (n3 : Nat) (x1 : Nat) (x2 : Int32) (x3 : Int32) (x4 : Int32) (σ : pw_S), fX2_putAll_3 n3 x1 x2 x3 x4 σ = some (r, σ') → mw_K p l e ({ frames := 0, cells := 0, slots := 0, locals := 0 }) s m args below meth c (MQ below (pw_Qv D cA shP 12 A ad r σ') args s 0 0 A) A D cA shP 12 ad 6 3 0 0 [(0, .ref (ad 8)), (1, .ref (ad x1)), (2, .int (x2)), (3, .int (x3)), (4, .int (x4))] [] σ := by
    intro n3
    induction n3 with
    | zero => intro x1 x2 x3 x4 σ hf; cases hf
    | succ n3 ih3 =>
      have K62 : ∀ (x1 : Nat) (x2 : Int32) (x3 : Int32) (x4 : Int32) (σ : pw_S), fX2_putAll_62 (fX2_putAll_3 n3) x1 x2 x3 x4 σ = some (r, σ') → mw_K p l e ({ frames := 0, cells := 0, slots := 0, locals := 0 }) s m args below meth c (MQ below (pw_Qv D cA shP 12 A ad r σ') args s 0 0 A) A D cA shP 12 ad 6 62 0 0 [(0, .ref (ad 8)), (1, .ref (ad x1)), (2, .int (x2)), (3, .int (x3)), (4, .int (x4))] [] σ := by
        intro x1 x2 x3 x4 σ hf H locs ls hG hS hl
        unfold fX2_putAll_62 at hf
        refine lv_iinc (v := x4 + 1) (lv' := [(4, .int (x4 + 1)), (0, .ref (ad 8)), (1, .ref (ad x1)), (2, .int (x2)), (3, .int (x3))]) hx hb dX2_putAll_62 hl (k := 4) rfl rfl (by decide) rfl (fun ls hl => ?_)
        refine lv_goto (tgt := 3) hx hb dX2_putAll_65 (by decide) ?_
        exact ih3 _ _ _ _ _ hf _ _ _ hG hS (lv_sub hl [1, 2, 3, 4, 0] rfl)
      intro x1 x2 x3 x4 σ hf H locs ls hG hS hl
      have hf : fX2_putAll_3_b (fX2_putAll_3 n3) x1 x2 x3 x4 σ = some (r, σ') := hf
      unfold fX2_putAll_3_b at hf
      refine lv_iload hx hb dX2_putAll_3 (lv_at hl 4 rfl) ?_
      refine lv_iload_n hx hb dX2_putAll_5 rfl (lv_at hl 2 rfl) ?_
      refine lv_icmp_ge (tgt := 68) hx hb dX2_putAll_6 (by decide) (fun c6 => ?_) (fun c6 => ?_)
      · have hf := it_pos c6 hf
        exact K68 _ hf _ _ _ hG hS (lv_sub hl [] rfl)
      · have hf := it_neg c6 hf
        refine lv_iload hx hb dX2_putAll_9 (lv_at hl 4 rfl) ?_
        refine lv_aload_n hx hb dX2_putAll_11 rfl (lv_at hl 1 rfl) ?_
        obtain ⟨h7, hf⟩ := ck_some hf
        refine mw_alen hx hb hK hG (hG.fix (kar_lt h7)) (kar_sh h7) (by decide) dX2_putAll_12 ?_
        refine lv_icmp_ge (tgt := 68) hx hb dX2_putAll_13 (by decide) (fun c8 => ?_) (fun c8 => ?_)
        · have hf := it_pos c8 hf
          exact K68 _ hf _ _ _ hG hS (lv_sub hl [] rfl)
        · have hf := it_neg c8 hf
          refine lv_iload_n hx hb dX2_putAll_16 rfl (lv_at hl 3 rfl) ?_
          refine lv_iload hx hb dX2_putAll_17 (lv_at hl 4 rfl) ?_
          refine lv_iadd hx hb dX2_putAll_19 ?_
          refine lv_bipush (v := 24) hx hb dX2_putAll_20 (by decide) ?_
          refine lv_icmp_ge (tgt := 68) hx hb dX2_putAll_22 (by decide) (fun c9 => ?_) (fun c9 => ?_)
          · have hf := it_pos c9 hf
            exact K68 _ hf _ _ _ hG hS (lv_sub hl [] rfl)
          · have hf := it_neg c9 hf
            refine lv_aload_n hx hb dX2_putAll_25 rfl (lv_at hl 1 rfl) ?_
            refine lv_iload hx hb dX2_putAll_26 (lv_at hl 4 rfl) ?_
            obtain ⟨h10, hf⟩ := ck_some hf
            obtain ⟨h11, hf⟩ := ck_some hf
            obtain ⟨o12, e13, hf⟩ := ld_some hf
            refine mw_aald hx hb hK hG (hG.fix (kar_lt h10)) (kar_sh h10) (inb_in h11) dX2_putAll_28 ?_
            rw [← e13]
            clear e13
            refine mq_astore (lv' := [(5, va_rf (Option.map ad o12)), (0, .ref (ad 8)), (1, .ref (ad x1)), (2, .int (x2)), (3, .int (x3)), (4, .int (x4))]) hx hb dX2_putAll_29 hl (by decide) rfl (fun ls hl => ?_)
            refine mq_aload hx hb dX2_putAll_31 (lv_at hl 0 rfl) ?_
            refine mq_ifnull (tgt := 62) hx hb dX2_putAll_33 (by decide) (fun c15 => ?_) (fun q14 c15 => ?_)
            · subst c15
              have hl : lv_has ls 6 [(5, .null), (0, .ref (ad 8)), (1, .ref (ad x1)), (2, .int (x2)), (3, .int (x3)), (4, .int (x4))] := hl
              have hf := oc_none hf
              exact K62 _ _ _ _ _ hf _ _ _ hG hS (lv_sub hl [1, 2, 3, 4, 5] rfl)
            · subst c15
              have hl : lv_has ls 6 [(5, .ref (ad q14)), (0, .ref (ad 8)), (1, .ref (ad x1)), (2, .int (x2)), (3, .int (x3)), (4, .int (x4))] := hl
              have hf := oc_some hf
              refine lv_aload_n hx hb dX2_putAll_36 rfl (lv_at hl 1 rfl) ?_
              refine mw_getl hx hb hts hown hK hG inlX2 rfl (hG.fix (by decide)) rfl 0 (by decide) 9 rfl wA_48 dX2_putAll_37 ?_
              refine lv_iload_n hx hb dX2_putAll_40 rfl (lv_at hl 4 rfl) ?_
              refine lv_iload hx hb dX2_putAll_41 (lv_at hl 5 rfl) ?_
              refine lv_iadd hx hb dX2_putAll_43 ?_
              refine lv_aload hx hb dX2_putAll_44 (lv_at hl 0 rfl) ?_
              obtain ⟨h16, hf⟩ := ck_some hf
              obtain ⟨h17, hf⟩ := ck_some hf
              refine mw_aast hx hb hK hG hS (hG.fix (by decide)) rfl (okc_lt h16) (shP_c h16) (inb_in h17) dX2_putAll_46 (fun H locs hG hS => ?_)
              obtain ⟨σ18, e19, hf⟩ := ld_some hf
              rw [← e19] at hG
              have h16 := okc_sr e19 h16
              clear e19
              refine lv_aload hx hb dX2_putAll_47 (lv_at hl 0 rfl) ?_
              refine lv_iload_n hx hb dX2_putAll_49 rfl (lv_at hl 4 rfl) ?_
              refine lv_iload hx hb dX2_putAll_50 (lv_at hl 5 rfl) ?_
              refine lv_iadd hx hb dX2_putAll_52 ?_
              refine mw_puti hx hb hts hown hK hG hS inlX0 tyX0 tyX0_ok nmX0 rfl (okc_lt h16) (shP_c h16) 4 (by decide) rfl rfl rfl rfl wA_201 dX2_putAll_53 (fun H locs hG hS => ?_)
              obtain ⟨σ20, e21, hf⟩ := ld_some hf
              rw [← e21] at hG
              have h16 := okc_si e21 h16
              clear e21
              refine lv_aload hx hb dX2_putAll_56 (lv_at hl 0 rfl) ?_
              refine lv_iconst (v := 0) hx hb dX2_putAll_58 (by decide) ?_
              refine mw_puti hx hb hts hown hK hG hS inlX0 tyX0 tyX0_ok nmX0 rfl (okc_lt h16) (shP_c h16) 5 (by decide) rfl rfl rfl rfl wA_428 dX2_putAll_59 (fun H locs hG hS => ?_)
              obtain ⟨σ22, e23, hf⟩ := ld_some hf
              rw [← e23] at hG
              have h16 := okc_si e23 h16
              clear e23
              exact K62 _ _ _ _ _ hf _ _ _ hG hS (lv_sub hl [1, 2, 3, 4, 5] rfl)
  have hl : lv_has ls 6 [(0, .ref (ad 8)), (1, .ref (ad a1)), (2, .int (a2)), (3, .int (a3))] := hl
  unfold fX2_putAll at hf
  refine lv_iconst (v := 0) hx hb dX2_putAll_0 (by decide) ?_
  refine lv_istore (lv' := [(4, .int (0)), (0, .ref (ad 8)), (1, .ref (ad a1)), (2, .int (a2)), (3, .int (a3))]) hx hb dX2_putAll_1 hl (by decide) rfl (fun ls hl => ?_)
  exact K3 1000 _ _ _ _ _ hf _ _ _ hG hS (lv_sub hl [1, 2, 3, 4, 0] rfl)
def fX2_vacateSlotOf_26 (x1 : Nat) (σ : pw_S) : Option (Unit × pw_S) := ck (okc σ x1) (ld (si σ x1 4 ((-1))) (fun σ4 => some ((), σ4)))
def fX2_vacateSlotOf (a1 : Nat) (σ : pw_S) : Option (Unit × pw_S) := ck (okc σ a1) ((if (gi σ a1 4) < 0 then fX2_vacateSlotOf_26 a1 σ else (if 24 ≤ (gi σ a1 4) then fX2_vacateSlotOf_26 a1 σ else ck (inb ((gi σ a1 4)) (24)) (ld (sr σ 9 (Int32.toNatClampNeg ((gi σ a1 4))) none) (fun σ10 => fX2_vacateSlotOf_26 a1 σ10)))))
set_option maxHeartbeats 4000000 in
set_option maxRecDepth 100000 in
theorem kX2_vacateSlotOf (l : Launch) (D : va_G) (cA : Nat → ClassId) (A : Nat → Prop) (ad : Nat → Nat) {σ σ' : pw_S} {r : Unit} {a1 : Nat} (hf : fX2_vacateSlotOf a1 σ = some (r, σ')) : Met l yX2_vacateSlotOf (wA yX2_vacateSlotOf cX2_vacateSlotOf 2 none) ({ frames := 0, cells := 0, slots := 0, locals := 0 }) (pw_Pc D cA shP 12 A ad σ [.ref (ad 8), .ref (ad a1)]) (pw_Qv D cA shP 12 A ad r σ') 0 0 A := by
  refine mw_enter (own := RX2) (by decide) rfl (Nat.le_of_ble_eq_true rfl) ?_
  intro p e s m args below meth c ls hC hr hlocks hK hA hX hG hS hl
  obtain ⟨hx, hb, hml, hown, hts⟩ := id hC
  have K26 : ∀ (x1 : Nat) (σ : pw_S), fX2_vacateSlotOf_26 x1 σ = some (r, σ') → mw_K p l e ({ frames := 0, cells := 0, slots := 0, locals := 0 }) s m args below meth c (MQ below (pw_Qv D cA shP 12 A ad r σ') args s 0 0 A) A D cA shP 12 ad 2 26 0 0 [(1, .ref (ad x1))] [] σ := by
    intro x1 σ hf H locs ls hG hS hl
    unfold fX2_vacateSlotOf_26 at hf
    refine lv_aload_n hx hb dX2_vacateSlotOf_26 rfl (lv_at hl 0 rfl) ?_
    refine lv_iconst (v := (-1)) hx hb dX2_vacateSlotOf_27 (by decide) ?_
    obtain ⟨h3, hf⟩ := ck_some hf
    refine mw_puti hx hb hts hown hK hG hS inlX0 tyX0 tyX0_ok nmX0 rfl (okc_lt h3) (shP_c h3) 4 (by decide) rfl rfl rfl rfl wA_201 dX2_vacateSlotOf_28 (fun H locs hG hS => ?_)
    obtain ⟨σ4, e5, hf⟩ := ld_some hf
    rw [← e5] at hG
    have h3 := okc_si e5 h3
    clear e5
    exact mr_v hC hr hlocks hG hS hf (Nat.le_of_ble_eq_true rfl) (Nat.le_of_ble_eq_true rfl) dX2_vacateSlotOf_31
  have hl : lv_has ls 2 [(0, .ref (ad 8)), (1, .ref (ad a1))] := hl
  unfold fX2_vacateSlotOf at hf
  refine lv_aload_n hx hb dX2_vacateSlotOf_0 rfl (lv_at hl 1 rfl) ?_
  obtain ⟨h6, hf⟩ := ck_some hf
  refine mw_geti hx hb hts hown hK hG inlX0 rfl (okc_lt h6) (shP_c h6) 4 (by decide) rfl wA_201 dX2_vacateSlotOf_1 ?_
  refine lv_if_lt (tgt := 26) hx hb dX2_vacateSlotOf_4 (by decide) (fun c7 => ?_) (fun c7 => ?_)
  · have hf := it_pos c7 hf
    exact K26 _ _ hf _ _ _ hG hS (lv_sub hl [1] rfl)
  · have hf := it_neg c7 hf
    refine lv_aload_n hx hb dX2_vacateSlotOf_7 rfl (lv_at hl 1 rfl) ?_
    refine mw_geti hx hb hts hown hK hG inlX0 rfl (okc_lt h6) (shP_c h6) 4 (by decide) rfl wA_201 dX2_vacateSlotOf_8 ?_
    refine lv_bipush (v := 24) hx hb dX2_vacateSlotOf_11 (by decide) ?_
    refine lv_icmp_ge (tgt := 26) hx hb dX2_vacateSlotOf_13 (by decide) (fun c8 => ?_) (fun c8 => ?_)
    · have hf := it_pos c8 hf
      exact K26 _ _ hf _ _ _ hG hS (lv_sub hl [1] rfl)
    · have hf := it_neg c8 hf
      refine lv_aload_n hx hb dX2_vacateSlotOf_16 rfl (lv_at hl 0 rfl) ?_
      refine mw_getl hx hb hts hown hK hG inlX2 rfl (hG.fix (by decide)) rfl 0 (by decide) 9 rfl wA_48 dX2_vacateSlotOf_17 ?_
      refine lv_aload_n hx hb dX2_vacateSlotOf_20 rfl (lv_at hl 1 rfl) ?_
      refine mw_geti hx hb hts hown hK hG inlX0 rfl (okc_lt h6) (shP_c h6) 4 (by decide) rfl wA_201 dX2_vacateSlotOf_21 ?_
      refine lv_null hx hb dX2_vacateSlotOf_24 ?_
      obtain ⟨h9, hf⟩ := ck_some hf
      refine mw_aastN hx hb hK hG hS (hG.fix (by decide)) rfl (inb_in h9) dX2_vacateSlotOf_25 (fun H locs hG hS => ?_)
      obtain ⟨σ10, e11, hf⟩ := ld_some hf
      rw [← e11] at hG
      have h6 := okc_sr e11 h6
      clear e11
      exact K26 _ _ hf _ _ _ hG hS (lv_sub hl [1] rfl)
