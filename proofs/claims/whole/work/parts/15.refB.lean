/-! the reference: pure functions and contracts, second half (printed by wip/whole/gen) -/
def fX4_findCluster_193 (x4 : Int32) (σ : pw_S) : Option (Int32 × pw_S) := some (x4, σ)
def fX4_findCluster_187 (bk62 : Int32 → Int32 → Int32 → Int32 → Int32 → pw_S → Option (Int32 × pw_S)) (x2 : Int32) (x3 : Int32) (x4 : Int32) (x5 : Int32) (x6 : Int32) (σ : pw_S) : Option (Int32 × pw_S) := bk62 x2 x3 x4 x5 (x6 + 1) σ
def fX4_findCluster_158 (bk62 : Int32 → Int32 → Int32 → Int32 → Int32 → pw_S → Option (Int32 × pw_S)) (bk132 : Int32 → Int32 → Int32 → Int32 → Int32 → Int32 → Int32 → pw_S → Option (Int32 × pw_S)) (x2 : Int32) (x3 : Int32) (x4 : Int32) (x6 : Int32) (x7 : Int32) (x8 : Int32) (y0 : Int32) (y1 : Int32) (σ : pw_S) : Option (Int32 × pw_S) := bk132 x2 x3 x4 ((y1 &&& y0)) x6 x7 (x8 + 1) σ
def fX4_findCluster_132_b (bk62 : Int32 → Int32 → Int32 → Int32 → Int32 → pw_S → Option (Int32 × pw_S)) (bk132 : Int32 → Int32 → Int32 → Int32 → Int32 → Int32 → Int32 → pw_S → Option (Int32 × pw_S)) (x2 : Int32) (x3 : Int32) (x4 : Int32) (x5 : Int32) (x6 : Int32) (x7 : Int32) (x8 : Int32) (σ : pw_S) : Option (Int32 × pw_S) := (if x4 ≤ x8 then (if x5 = 0 then fX4_findCluster_187 bk62 x2 x3 x4 x5 x6 σ else ck (inb (x4) (4)) (ld (si σ 14 (Int32.toNatClampNeg (x4)) (x7)) (fun σ16 => fX4_findCluster_187 bk62 x2 x3 (x4 + 1) x5 x6 σ16))) else ck (inb (x8) (4)) ((if (gi σ 14 (Int32.toNatClampNeg (x8))) = x7 then fX4_findCluster_158 bk62 bk132 x2 x3 x4 x6 x7 x8 0 x5 σ else fX4_findCluster_158 bk62 bk132 x2 x3 x4 x6 x7 x8 1 x5 σ)))
def fX4_findCluster_132 (bk62 : Int32 → Int32 → Int32 → Int32 → Int32 → pw_S → Option (Int32 × pw_S)) : Nat → Int32 → Int32 → Int32 → Int32 → Int32 → Int32 → Int32 → pw_S → Option (Int32 × pw_S)
  | 0, _, _, _, _, _, _, _, _ => none
  | n + 1, x2, x3, x4, x5, x6, x7, x8, σ => fX4_findCluster_132_b bk62 (fX4_findCluster_132 bk62 n) x2 x3 x4 x5 x6 x7 x8 σ
def fX4_findCluster_127 (bk62 : Int32 → Int32 → Int32 → Int32 → Int32 → pw_S → Option (Int32 × pw_S)) (x2 : Int32) (x3 : Int32) (x4 : Int32) (x6 : Int32) (x7 : Int32) (y0 : Int32) (σ : pw_S) : Option (Int32 × pw_S) := fX4_findCluster_132 bk62 1000 x2 x3 x4 y0 x6 x7 0 σ
def fX4_findCluster_126 (bk62 : Int32 → Int32 → Int32 → Int32 → Int32 → pw_S → Option (Int32 × pw_S)) (x2 : Int32) (x3 : Int32) (x4 : Int32) (x6 : Int32) (x7 : Int32) (σ : pw_S) : Option (Int32 × pw_S) := fX4_findCluster_127 bk62 x2 x3 x4 x6 x7 0 σ
def fX4_findCluster_95 (bk62 : Int32 → Int32 → Int32 → Int32 → Int32 → pw_S → Option (Int32 × pw_S)) (x2 : Int32) (x3 : Int32) (x4 : Int32) (x6 : Int32) (y0 : Int32) (σ : pw_S) : Option (Int32 × pw_S) := (if y0 = (-1) then fX4_findCluster_126 bk62 x2 x3 x4 x6 y0 σ else bnd (fX4_frameWith y0 σ) (fun r21 σ22 => (if r21 = (-1) then fX4_findCluster_126 bk62 x2 x3 x4 x6 y0 σ22 else bnd (fX4_isDirty y0 σ22) (fun r25 σ26 => (if r25 = 0 then fX4_findCluster_126 bk62 x2 x3 x4 x6 y0 σ26 else fX4_findCluster_127 bk62 x2 x3 x4 x6 y0 1 σ26)))))
def fX4_findCluster_62_b (bk62 : Int32 → Int32 → Int32 → Int32 → Int32 → pw_S → Option (Int32 × pw_S)) (x2 : Int32) (x3 : Int32) (x4 : Int32) (x5 : Int32) (x6 : Int32) (σ : pw_S) : Option (Int32 × pw_S) := (if 4 ≤ x6 then fX4_findCluster_193 x4 σ else (if x5 = 0 then fX4_findCluster_193 x4 σ else (if x3 = (-1) then bnd (fX4_nextInSegment x2 x6 σ) (fun r35 σ36 => fX4_findCluster_95 bk62 x2 x3 x4 x6 r35 σ36) else bnd (fX4_nextOfProcess x2 x6 σ) (fun r32 σ33 => fX4_findCluster_95 bk62 x2 x3 x4 x6 r32 σ33))))
def fX4_findCluster_62 : Nat → Int32 → Int32 → Int32 → Int32 → Int32 → pw_S → Option (Int32 × pw_S)
  | 0, _, _, _, _, _, _ => none
  | n + 1, x2, x3, x4, x5, x6, σ => fX4_findCluster_62_b (fX4_findCluster_62 n) x2 x3 x4 x5 x6 σ
def fX4_findCluster_53 (x2 : Int32) (x3 : Int32) (σ : pw_S) : Option (Int32 × pw_S) := fX4_findCluster_62 1000 x2 x3 1 1 1 σ
def fX4_findCluster_40 (bk20 : Int32 → Int32 → pw_S → Option (Int32 × pw_S)) (x1 : Int32) (x3 : Int32) (σ : pw_S) : Option (Int32 × pw_S) := bk20 x1 (x3 + 1) σ
def fX4_findCluster_20_b (bk20 : Int32 → Int32 → pw_S → Option (Int32 × pw_S)) (x1 : Int32) (x3 : Int32) (σ : pw_S) : Option (Int32 × pw_S) := ck (inb (x3) (160)) ((if (gi σ 9 (Int32.toNatClampNeg (x3))) = 1 then ck (inb (x3) (160)) ((if (gi σ 10 (Int32.toNatClampNeg (x3))) = x1 then fX4_findCluster_53 x3 x3 σ else fX4_findCluster_40 bk20 x1 x3 σ)) else fX4_findCluster_40 bk20 x1 x3 σ))
def fX4_findCluster_20 : Nat → Int32 → Int32 → pw_S → Option (Int32 × pw_S)
  | 0, _, _, _ => none
  | n + 1, x1, x3, σ => fX4_findCluster_20_b (fX4_findCluster_20 n) x1 x3 σ
def fX4_findCluster (a1 : Int32) (σ : pw_S) : Option (Int32 × pw_S) := ck (inb (0) (4)) (ld (si σ 14 (Int32.toNatClampNeg (0)) (a1)) (fun σ43 => bnd (fX4_segmentPlace a1 σ43) (fun r45 σ46 => (if r45 = (-1) then fX4_findCluster_20 1000 a1 0 σ46 else fX4_findCluster_53 r45 ((-1)) σ46))))
set_option maxHeartbeats 4000000 in
set_option maxRecDepth 100000 in
theorem kX4_findCluster (l : Launch) (D : va_G) (cA : Nat → ClassId) (A : Nat → Prop) (ad : Nat → Nat) {σ σ' : pw_S} {r : Int32} {a1 : Int32} (hf : fX4_findCluster a1 σ = some (r, σ')) : Met l yX4_findCluster (wA yX4_findCluster cX4_findCluster 9 (some .int)) ({ frames := 2, cells := 0, slots := 0, locals := 43 }) (pw_Pc D cA shM 15 A ad σ [.ref (ad 0), .int (a1)]) (pw_Qi D cA shM 15 A ad r σ') 0 0 A := by
  refine mw_enter (own := RX4) (by decide) rfl (Nat.le_of_ble_eq_true rfl) ?_
  intro p e s m args below meth c ls hC hr hlocks hK hA hX hG hS hl
  obtain ⟨hx, hb, hml, hown, hts⟩ := id hC
  have K193 : ∀ (x4 : Int32) (σ : pw_S), fX4_findCluster_193 x4 σ = some (r, σ') → mw_K p l e ({ frames := 2, cells := 0, slots := 0, locals := 43 }) s m args below meth c (MQ below (pw_Qi D cA shM 15 A ad r σ') args s 0 0 A) A D cA shM 15 ad 9 193 0 0 [(4, .int (x4))] [] σ := by
    intro x4 σ hf H locs ls hG hS hl
    unfold fX4_findCluster_193 at hf
    refine lv_iload hx hb dX4_findCluster_193 (lv_at hl 0 rfl) ?_
    exact mr_i hC hr hlocks hG hS hf (Nat.le_of_ble_eq_true rfl) (Nat.le_of_ble_eq_true rfl) dX4_findCluster_195
  have K62 : ∀ (n62 : Nat) (x2 : Int32) (x3 : Int32) (x4 : Int32) (x5 : Int32) (x6 : Int32) (σ : pw_S), fX4_findCluster_62 n62 x2 x3 x4 x5 x6 σ = some (r, σ') → mw_K p l e ({ frames := 2, cells := 0, slots := 0, locals := 43 }) s m args below meth c (MQ below (pw_Qi D cA shM 15 A ad r σ') args s 0 0 A) A D cA shM 15 ad 9 62 0 0 [(0, .ref (ad 0)), (2, .int (x2)), (3, .int (x3)), (4, .int (x4)), (5, .int (x5)), (6, .int (x6))] [] σ := by
    intro n62
    induction n62 with
    | zero => intro x2 x3 x4 x5 x6 σ hf; cases hf
    | succ n62 ih62 =>
      have K187 : ∀ (x2 : Int32) (x3 : Int32) (x4 : Int32) (x5 : Int32) (x6 : Int32) (σ : pw_S), fX4_findCluster_187 (fX4_findCluster_62 n62) x2 x3 x4 x5 x6 σ = some (r, σ') → mw_K p l e ({ frames := 2, cells := 0, slots := 0, locals := 43 }) s m args below meth c (MQ below (pw_Qi D cA shM 15 A ad r σ') args s 0 0 A) A D cA shM 15 ad 9 187 0 0 [(0, .ref (ad 0)), (2, .int (x2)), (3, .int (x3)), (4, .int (x4)), (5, .int (x5)), (6, .int (x6))] [] σ := by
        intro x2 x3 x4 x5 x6 σ hf H locs ls hG hS hl
        unfold fX4_findCluster_187 at hf
        refine lv_iinc (v := x6 + 1) (lv' := [(6, .int (x6 + 1)), (0, .ref (ad 0)), (2, .int (x2)), (3, .int (x3)), (4, .int (x4)), (5, .int (x5))]) hx hb dX4_findCluster_187 hl (k := 5) rfl rfl (by decide) rfl (fun ls hl => ?_)
        refine lv_goto (tgt := 62) hx hb dX4_findCluster_190 (by decide) ?_
        exact ih62 _ _ _ _ _ _ hf _ _ _ hG hS (lv_sub hl [1, 2, 3, 4, 5, 0] rfl)
      have K132 : ∀ (n132 : Nat) (x2 : Int32) (x3 : Int32) (x4 : Int32) (x5 : Int32) (x6 : Int32) (x7 : Int32) (x8 : Int32) (σ : pw_S), fX4_findCluster_132 (fX4_findCluster_62 n62) n132 x2 x3 x4 x5 x6 x7 x8 σ = some (r, σ') → mw_K p l e ({ frames := 2, cells := 0, slots := 0, locals := 43 }) s m args below meth c (MQ below (pw_Qi D cA shM 15 A ad r σ') args s 0 0 A) A D cA shM 15 ad 9 132 0 0 [(0, .ref (ad 0)), (2, .int (x2)), (3, .int (x3)), (4, .int (x4)), (5, .int (x5)), (6, .int (x6)), (7, .int (x7)), (8, .int (x8))] [] σ := by
        intro n132
        induction n132 with
        | zero => intro x2 x3 x4 x5 x6 x7 x8 σ hf; cases hf
        | succ n132 ih132 =>
          have K158 : ∀ (x2 : Int32) (x3 : Int32) (x4 : Int32) (x6 : Int32) (x7 : Int32) (x8 : Int32) (y0 : Int32) (y1 : Int32) (σ : pw_S), fX4_findCluster_158 (fX4_findCluster_62 n62) (fX4_findCluster_132 (fX4_findCluster_62 n62) n132) x2 x3 x4 x6 x7 x8 y0 y1 σ = some (r, σ') → mw_K p l e ({ frames := 2, cells := 0, slots := 0, locals := 43 }) s m args below meth c (MQ below (pw_Qi D cA shM 15 A ad r σ') args s 0 0 A) A D cA shM 15 ad 9 158 0 0 [(0, .ref (ad 0)), (2, .int (x2)), (3, .int (x3)), (4, .int (x4)), (6, .int (x6)), (7, .int (x7)), (8, .int (x8))] [.int (y0), .int (y1)] σ := by
            intro x2 x3 x4 x6 x7 x8 y0 y1 σ hf H locs ls hG hS hl
            unfold fX4_findCluster_158 at hf
            refine lv_iand hx hb dX4_findCluster_158 ?_
            refine lv_istore (lv' := [(5, .int ((y1 &&& y0))), (0, .ref (ad 0)), (2, .int (x2)), (3, .int (x3)), (4, .int (x4)), (6, .int (x6)), (7, .int (x7)), (8, .int (x8))]) hx hb dX4_findCluster_159 hl (by decide) rfl (fun ls hl => ?_)
            refine lv_iinc (v := x8 + 1) (lv' := [(8, .int (x8 + 1)), (5, .int ((y1 &&& y0))), (0, .ref (ad 0)), (2, .int (x2)), (3, .int (x3)), (4, .int (x4)), (6, .int (x6)), (7, .int (x7))]) hx hb dX4_findCluster_161 hl (k := 7) rfl rfl (by decide) rfl (fun ls hl => ?_)
            refine lv_goto (tgt := 132) hx hb dX4_findCluster_164 (by decide) ?_
            exact ih132 _ _ _ _ _ _ _ _ hf _ _ _ hG hS (lv_sub hl [2, 3, 4, 5, 1, 6, 7, 0] rfl)
          intro x2 x3 x4 x5 x6 x7 x8 σ hf H locs ls hG hS hl
          have hf : fX4_findCluster_132_b (fX4_findCluster_62 n62) (fX4_findCluster_132 (fX4_findCluster_62 n62) n132) x2 x3 x4 x5 x6 x7 x8 σ = some (r, σ') := hf
          unfold fX4_findCluster_132_b at hf
          refine lv_iload hx hb dX4_findCluster_132 (lv_at hl 7 rfl) ?_
          refine lv_iload hx hb dX4_findCluster_134 (lv_at hl 3 rfl) ?_
          refine lv_icmp_ge (tgt := 167) hx hb dX4_findCluster_136 (by decide) (fun c13 => ?_) (fun c13 => ?_)
          · have hf := it_pos c13 hf
            refine lv_iload hx hb dX4_findCluster_167 (lv_at hl 4 rfl) ?_
            refine lv_if_ne (tgt := 175) hx hb dX4_findCluster_169 (by decide) (fun c14 => ?_) (fun c14 => ?_)
            · have hf := it_neg c14 hf
              refine lv_aload_n hx hb dX4_findCluster_175 rfl (lv_at hl 0 rfl) ?_
              refine mw_getl hx hb hts hown hK hG inlX4 rfl (hG.fix (by decide)) rfl 20 (by decide) 14 rfl wA_68 dX4_findCluster_176 ?_
              refine lv_iload hx hb dX4_findCluster_179 (lv_at hl 3 rfl) ?_
              refine lv_iload hx hb dX4_findCluster_181 (lv_at hl 6 rfl) ?_
              obtain ⟨h15, hf⟩ := ck_some hf
              refine mw_iast hx hb hK hG hS (hG.fix (by decide)) rfl (inb_in h15) dX4_findCluster_183 (fun H locs hG hS => ?_)
              obtain ⟨σ16, e17, hf⟩ := ld_some hf
              rw [← e17] at hG
              clear e17
              refine lv_iinc (v := x4 + 1) (lv' := [(4, .int (x4 + 1)), (0, .ref (ad 0)), (2, .int (x2)), (3, .int (x3)), (5, .int (x5)), (6, .int (x6)), (7, .int (x7)), (8, .int (x8))]) hx hb dX4_findCluster_184 hl (k := 3) rfl rfl (by decide) rfl (fun ls hl => ?_)
              exact K187 _ _ _ _ _ _ hf _ _ _ hG hS (lv_sub hl [1, 2, 3, 0, 4, 5] rfl)
            · have hf := it_pos c14 hf
              refine lv_goto (tgt := 187) hx hb dX4_findCluster_172 (by decide) ?_
              exact K187 _ _ _ _ _ _ hf _ _ _ hG hS (lv_sub hl [0, 1, 2, 3, 4, 5] rfl)
          · have hf := it_neg c13 hf
            refine lv_iload hx hb dX4_findCluster_139 (lv_at hl 4 rfl) ?_
            refine lv_aload_n hx hb dX4_findCluster_141 rfl (lv_at hl 0 rfl) ?_
            refine mw_getl hx hb hts hown hK hG inlX4 rfl (hG.fix (by decide)) rfl 20 (by decide) 14 rfl wA_68 dX4_findCluster_142 ?_
            refine lv_iload hx hb dX4_findCluster_145 (lv_at hl 7 rfl) ?_
            obtain ⟨h18, hf⟩ := ck_some hf
            refine mw_iald hx hb hK hG (hG.fix (by decide)) rfl (inb_in h18) dX4_findCluster_147 ?_
            refine lv_iload hx hb dX4_findCluster_148 (lv_at hl 6 rfl) ?_
            refine lv_icmp_eq (tgt := 157) hx hb dX4_findCluster_150 (by decide) (fun c19 => ?_) (fun c19 => ?_)
            · have hf := it_pos c19 hf
              refine lv_iconst (v := 0) hx hb dX4_findCluster_157 (by decide) ?_
              exact K158 _ _ _ _ _ _ _ _ _ hf _ _ _ hG hS (lv_sub hl [0, 1, 2, 3, 5, 6, 7] rfl)
            · have hf := it_neg c19 hf
              refine lv_iconst (v := 1) hx hb dX4_findCluster_153 (by decide) ?_
              refine lv_goto (tgt := 158) hx hb dX4_findCluster_154 (by decide) ?_
              exact K158 _ _ _ _ _ _ _ _ _ hf _ _ _ hG hS (lv_sub hl [0, 1, 2, 3, 5, 6, 7] rfl)
      have K127 : ∀ (x2 : Int32) (x3 : Int32) (x4 : Int32) (x6 : Int32) (x7 : Int32) (y0 : Int32) (σ : pw_S), fX4_findCluster_127 (fX4_findCluster_62 n62) x2 x3 x4 x6 x7 y0 σ = some (r, σ') → mw_K p l e ({ frames := 2, cells := 0, slots := 0, locals := 43 }) s m args below meth c (MQ below (pw_Qi D cA shM 15 A ad r σ') args s 0 0 A) A D cA shM 15 ad 9 127 0 0 [(0, .ref (ad 0)), (2, .int (x2)), (3, .int (x3)), (4, .int (x4)), (6, .int (x6)), (7, .int (x7))] [.int (y0)] σ := by
        intro x2 x3 x4 x6 x7 y0 σ hf H locs ls hG hS hl
        unfold fX4_findCluster_127 at hf
        refine lv_istore (lv' := [(5, .int (y0)), (0, .ref (ad 0)), (2, .int (x2)), (3, .int (x3)), (4, .int (x4)), (6, .int (x6)), (7, .int (x7))]) hx hb dX4_findCluster_127 hl (by decide) rfl (fun ls hl => ?_)
        refine lv_iconst (v := 0) hx hb dX4_findCluster_129 (by decide) ?_
        refine lv_istore (lv' := [(8, .int (0)), (5, .int (y0)), (0, .ref (ad 0)), (2, .int (x2)), (3, .int (x3)), (4, .int (x4)), (6, .int (x6)), (7, .int (x7))]) hx hb dX4_findCluster_130 hl (by decide) rfl (fun ls hl => ?_)
        exact K132 1000 _ _ _ _ _ _ _ _ hf _ _ _ hG hS (lv_sub hl [2, 3, 4, 5, 1, 6, 7, 0] rfl)
      have K126 : ∀ (x2 : Int32) (x3 : Int32) (x4 : Int32) (x6 : Int32) (x7 : Int32) (σ : pw_S), fX4_findCluster_126 (fX4_findCluster_62 n62) x2 x3 x4 x6 x7 σ = some (r, σ') → mw_K p l e ({ frames := 2, cells := 0, slots := 0, locals := 43 }) s m args below meth c (MQ below (pw_Qi D cA shM 15 A ad r σ') args s 0 0 A) A D cA shM 15 ad 9 126 0 0 [(0, .ref (ad 0)), (2, .int (x2)), (3, .int (x3)), (4, .int (x4)), (6, .int (x6)), (7, .int (x7))] [] σ := by
        intro x2 x3 x4 x6 x7 σ hf H locs ls hG hS hl
        unfold fX4_findCluster_126 at hf
        refine lv_iconst (v := 0) hx hb dX4_findCluster_126 (by decide) ?_
        exact K127 _ _ _ _ _ _ _ hf _ _ _ hG hS (lv_sub hl [0, 1, 2, 3, 4, 5] rfl)
      have K95 : ∀ (x2 : Int32) (x3 : Int32) (x4 : Int32) (x6 : Int32) (y0 : Int32) (σ : pw_S), fX4_findCluster_95 (fX4_findCluster_62 n62) x2 x3 x4 x6 y0 σ = some (r, σ') → mw_K p l e ({ frames := 2, cells := 0, slots := 0, locals := 43 }) s m args below meth c (MQ below (pw_Qi D cA shM 15 A ad r σ') args s 0 0 A) A D cA shM 15 ad 9 95 0 0 [(0, .ref (ad 0)), (2, .int (x2)), (3, .int (x3)), (4, .int (x4)), (6, .int (x6))] [.int (y0)] σ := by
        intro x2 x3 x4 x6 y0 σ hf H locs ls hG hS hl
        unfold fX4_findCluster_95 at hf
        refine lv_istore (lv' := [(7, .int (y0)), (0, .ref (ad 0)), (2, .int (x2)), (3, .int (x3)), (4, .int (x4)), (6, .int (x6))]) hx hb dX4_findCluster_95 hl (by decide) rfl (fun ls hl => ?_)
        refine lv_iload hx hb dX4_findCluster_97 (lv_at hl 0 rfl) ?_
        refine lv_iconst (v := (-1)) hx hb dX4_findCluster_99 (by decide) ?_
        refine lv_icmp_eq (tgt := 126) hx hb dX4_findCluster_100 (by decide) (fun c20 => ?_) (fun c20 => ?_)
        · have hf := it_pos c20 hf
          exact K126 _ _ _ _ _ _ hf _ _ _ hG hS (lv_sub hl [1, 2, 3, 4, 5, 0] rfl)
        · have hf := it_neg c20 hf
          refine lv_aload_n hx hb dX4_findCluster_103 rfl (lv_at hl 1 rfl) ?_
          refine lv_iload hx hb dX4_findCluster_104 (lv_at hl 0 rfl) ?_
          obtain ⟨r21, σ22, hc23, hf⟩ := bnd_some hf
          refine mc_i (mc_V (As := [.int (y0)]) hC hK hA hX hG hS (kX4_frameWith l D cA A ad hc23) ykX4_frameWith wA_227 wA_228 wA_229 (hG.fix (by decide)) rfl rfl ⟨rfl, rfl, Nat.le_of_ble_eq_true rfl, Nat.le_of_ble_eq_true rfl⟩ rfl hl.1 rfl (Nat.le_of_ble_eq_true rfl) dX4_findCluster_106 ⟨Nat.le_of_ble_eq_true rfl, Nat.le_of_ble_eq_true rfl⟩) hS (fun H locs hG hS => ?_)
          refine lv_iconst (v := (-1)) hx hb dX4_findCluster_109 (by decide) ?_
          refine lv_icmp_eq (tgt := 126) hx hb dX4_findCluster_110 (by decide) (fun c24 => ?_) (fun c24 => ?_)
          · have hf := it_pos c24 hf
            exact K126 _ _ _ _ _ _ hf _ _ _ hG hS (lv_sub hl [1, 2, 3, 4, 5, 0] rfl)
          · have hf := it_neg c24 hf
            refine lv_aload_n hx hb dX4_findCluster_113 rfl (lv_at hl 1 rfl) ?_
            refine lv_iload hx hb dX4_findCluster_114 (lv_at hl 0 rfl) ?_
            obtain ⟨r25, σ26, hc27, hf⟩ := bnd_some hf
            refine mc_i (mc_V (As := [.int (y0)]) hC hK hA hX hG hS (kX4_isDirty l D cA A ad hc27) ykX4_isDirty wA_467 wA_468 wA_469 (hG.fix (by decide)) rfl rfl ⟨rfl, rfl, Nat.le_of_ble_eq_true rfl, Nat.le_of_ble_eq_true rfl⟩ rfl hl.1 rfl (Nat.le_of_ble_eq_true rfl) dX4_findCluster_116 ⟨Nat.le_of_ble_eq_true rfl, Nat.le_of_ble_eq_true rfl⟩) hS (fun H locs hG hS => ?_)
            refine lv_if_eq (tgt := 126) hx hb dX4_findCluster_119 (by decide) (fun c28 => ?_) (fun c28 => ?_)
            · have hf := it_pos c28 hf
              exact K126 _ _ _ _ _ _ hf _ _ _ hG hS (lv_sub hl [1, 2, 3, 4, 5, 0] rfl)
            · have hf := it_neg c28 hf
              refine lv_iconst (v := 1) hx hb dX4_findCluster_122 (by decide) ?_
              refine lv_goto (tgt := 127) hx hb dX4_findCluster_123 (by decide) ?_
              exact K127 _ _ _ _ _ _ _ hf _ _ _ hG hS (lv_sub hl [1, 2, 3, 4, 5, 0] rfl)
      intro x2 x3 x4 x5 x6 σ hf H locs ls hG hS hl
      have hf : fX4_findCluster_62_b (fX4_findCluster_62 n62) x2 x3 x4 x5 x6 σ = some (r, σ') := hf
      unfold fX4_findCluster_62_b at hf
      refine lv_iload hx hb dX4_findCluster_62 (lv_at hl 5 rfl) ?_
      refine lv_iconst (v := 4) hx hb dX4_findCluster_64 (by decide) ?_
      refine lv_icmp_ge (tgt := 193) hx hb dX4_findCluster_65 (by decide) (fun c29 => ?_) (fun c29 => ?_)
      · have hf := it_pos c29 hf
        exact K193 _ _ hf _ _ _ hG hS (lv_sub hl [3] rfl)
      · have hf := it_neg c29 hf
        refine lv_iload hx hb dX4_findCluster_68 (lv_at hl 4 rfl) ?_
        refine lv_if_eq (tgt := 193) hx hb dX4_findCluster_70 (by decide) (fun c30 => ?_) (fun c30 => ?_)
        · have hf := it_pos c30 hf
          exact K193 _ _ hf _ _ _ hG hS (lv_sub hl [3] rfl)
        · have hf := it_neg c30 hf
          refine lv_iload_n hx hb dX4_findCluster_73 rfl (lv_at hl 2 rfl) ?_
          refine lv_iconst (v := (-1)) hx hb dX4_findCluster_74 (by decide) ?_
          refine lv_icmp_ne (tgt := 88) hx hb dX4_findCluster_75 (by decide) (fun c31 => ?_) (fun c31 => ?_)
          · have hf := it_neg c31 hf
            refine lv_aload_n hx hb dX4_findCluster_88 rfl (lv_at hl 0 rfl) ?_
            refine lv_iload_n hx hb dX4_findCluster_89 rfl (lv_at hl 1 rfl) ?_
            refine lv_iload hx hb dX4_findCluster_90 (lv_at hl 5 rfl) ?_
            obtain ⟨r32, σ33, hc34, hf⟩ := bnd_some hf
            refine mc_i (mc_V (As := [.int (x2), .int (x6)]) hC hK hA hX hG hS (kX4_nextOfProcess l D cA A ad hc34) ykX4_nextOfProcess wA_499 wA_500 wA_501 (hG.fix (by decide)) rfl rfl ⟨rfl, rfl, Nat.le_of_ble_eq_true rfl, Nat.le_of_ble_eq_true rfl⟩ rfl hl.1 rfl (Nat.le_of_ble_eq_true rfl) dX4_findCluster_92 ⟨Nat.le_of_ble_eq_true rfl, Nat.le_of_ble_eq_true rfl⟩) hS (fun H locs hG hS => ?_)
            exact K95 _ _ _ _ _ _ hf _ _ _ hG hS (lv_sub hl [0, 1, 2, 3, 5] rfl)
          · have hf := it_pos c31 hf
            refine lv_aload_n hx hb dX4_findCluster_78 rfl (lv_at hl 0 rfl) ?_
            refine lv_iload_n hx hb dX4_findCluster_79 rfl (lv_at hl 1 rfl) ?_
            refine lv_iload hx hb dX4_findCluster_80 (lv_at hl 5 rfl) ?_
            obtain ⟨r35, σ36, hc37, hf⟩ := bnd_some hf
            refine mc_i (mc_V (As := [.int (x2), .int (x6)]) hC hK hA hX hG hS (kX4_nextInSegment l D cA A ad hc37) ykX4_nextInSegment wA_495 wA_496 wA_497 (hG.fix (by decide)) rfl rfl ⟨rfl, rfl, Nat.le_of_ble_eq_true rfl, Nat.le_of_ble_eq_true rfl⟩ rfl hl.1 rfl (Nat.le_of_ble_eq_true rfl) dX4_findCluster_82 ⟨Nat.le_of_ble_eq_true rfl, Nat.le_of_ble_eq_true rfl⟩) hS (fun H locs hG hS => ?_)
            refine lv_goto (tgt := 95) hx hb dX4_findCluster_85 (by decide) ?_
            exact K95 _ _ _ _ _ _ hf _ _ _ hG hS (lv_sub hl [0, 1, 2, 3, 5] rfl)
  have K53 : ∀ (x2 : Int32) (x3 : Int32) (σ : pw_S), fX4_findCluster_53 x2 x3 σ = some (r, σ') → mw_K p l e ({ frames := 2, cells := 0, slots := 0, locals := 43 }) s m args below meth c (MQ below (pw_Qi D cA shM 15 A ad r σ') args s 0 0 A) A D cA shM 15 ad 9 53 0 0 [(0, .ref (ad 0)), (2, .int (x2)), (3, .int (x3))] [] σ := by
    intro x2 x3 σ hf H locs ls hG hS hl
    unfold fX4_findCluster_53 at hf
    refine lv_iconst (v := 1) hx hb dX4_findCluster_53 (by decide) ?_
    refine lv_istore (lv' := [(4, .int (1)), (0, .ref (ad 0)), (2, .int (x2)), (3, .int (x3))]) hx hb dX4_findCluster_54 hl (by decide) rfl (fun ls hl => ?_)
    refine lv_iconst (v := 1) hx hb dX4_findCluster_56 (by decide) ?_
    refine lv_istore (lv' := [(5, .int (1)), (4, .int (1)), (0, .ref (ad 0)), (2, .int (x2)), (3, .int (x3))]) hx hb dX4_findCluster_57 hl (by decide) rfl (fun ls hl => ?_)
    refine lv_iconst (v := 1) hx hb dX4_findCluster_59 (by decide) ?_
    refine lv_istore (lv' := [(6, .int (1)), (5, .int (1)), (4, .int (1)), (0, .ref (ad 0)), (2, .int (x2)), (3, .int (x3))]) hx hb dX4_findCluster_60 hl (by decide) rfl (fun ls hl => ?_)
    exact K62 1000 _ _ _ _ _ _ hf _ _ _ hG hS (lv_sub hl [3, 4, 5, 2, 1, 0] rfl)
  have K20 : ∀ (n20 : Nat) (x1 : Int32) (x3 : Int32) (σ : pw_S), fX4_findCluster_20 n20 x1 x3 σ = some (r, σ') → mw_K p l e ({ frames := 2, cells := 0, slots := 0, locals := 43 }) s m args below meth c (MQ below (pw_Qi D cA shM 15 A ad r σ') args s 0 0 A) A D cA shM 15 ad 9 20 0 0 [(0, .ref (ad 0)), (1, .int (x1)), (3, .int (x3))] [] σ := by
    intro n20
    induction n20 with
    | zero => intro x1 x3 σ hf; cases hf
    | succ n20 ih20 =>
      have K40 : ∀ (x1 : Int32) (x3 : Int32) (σ : pw_S), fX4_findCluster_40 (fX4_findCluster_20 n20) x1 x3 σ = some (r, σ') → mw_K p l e ({ frames := 2, cells := 0, slots := 0, locals := 43 }) s m args below meth c (MQ below (pw_Qi D cA shM 15 A ad r σ') args s 0 0 A) A D cA shM 15 ad 9 40 0 0 [(0, .ref (ad 0)), (1, .int (x1)), (3, .int (x3))] [] σ := by
        intro x1 x3 σ hf H locs ls hG hS hl
        unfold fX4_findCluster_40 at hf
        refine lv_iinc (v := x3 + 1) (lv' := [(3, .int (x3 + 1)), (0, .ref (ad 0)), (1, .int (x1))]) hx hb dX4_findCluster_40 hl (k := 2) rfl rfl (by decide) rfl (fun ls hl => ?_)
        refine lv_goto (tgt := 20) hx hb dX4_findCluster_43 (by decide) ?_
        exact ih20 _ _ _ hf _ _ _ hG hS (lv_sub hl [1, 2, 0] rfl)
      intro x1 x3 σ hf H locs ls hG hS hl
      have hf : fX4_findCluster_20_b (fX4_findCluster_20 n20) x1 x3 σ = some (r, σ') := hf
      unfold fX4_findCluster_20_b at hf
      refine lv_aload_n hx hb dX4_findCluster_20 rfl (lv_at hl 0 rfl) ?_
      refine mw_getl hx hb hts hown hK hG inlX4 rfl (hG.fix (by decide)) rfl 14 (by decide) 9 rfl wA_63 dX4_findCluster_21 ?_
      refine lv_iload_n hx hb dX4_findCluster_24 rfl (lv_at hl 2 rfl) ?_
      obtain ⟨h38, hf⟩ := ck_some hf
      refine mw_iald hx hb hK hG (hG.fix (by decide)) rfl (inb_in h38) dX4_findCluster_25 ?_
      refine lv_iconst (v := 1) hx hb dX4_findCluster_26 (by decide) ?_
      refine lv_icmp_ne (tgt := 40) hx hb dX4_findCluster_27 (by decide) (fun c39 => ?_) (fun c39 => ?_)
      · have hf := it_neg c39 hf
        exact K40 _ _ _ hf _ _ _ hG hS (lv_sub hl [0, 1, 2] rfl)
      · have hf := it_pos c39 hf
        refine lv_aload_n hx hb dX4_findCluster_30 rfl (lv_at hl 0 rfl) ?_
        refine mw_getl hx hb hts hown hK hG inlX4 rfl (hG.fix (by decide)) rfl 15 (by decide) 10 rfl wA_64 dX4_findCluster_31 ?_
        refine lv_iload_n hx hb dX4_findCluster_34 rfl (lv_at hl 2 rfl) ?_
        obtain ⟨h40, hf⟩ := ck_some hf
        refine mw_iald hx hb hK hG (hG.fix (by decide)) rfl (inb_in h40) dX4_findCluster_35 ?_
        refine lv_iload_n hx hb dX4_findCluster_36 rfl (lv_at hl 1 rfl) ?_
        refine lv_icmp_eq (tgt := 46) hx hb dX4_findCluster_37 (by decide) (fun c41 => ?_) (fun c41 => ?_)
        · have hf := it_pos c41 hf
          refine lv_iload_n hx hb dX4_findCluster_46 rfl (lv_at hl 2 rfl) ?_
          refine lv_istore_n (lv' := [(2, .int (x3)), (0, .ref (ad 0)), (1, .int (x1)), (3, .int (x3))]) hx hb dX4_findCluster_47 rfl hl (by decide) rfl (fun ls hl => ?_)
          refine lv_goto (tgt := 53) hx hb dX4_findCluster_48 (by decide) ?_
          exact K53 _ _ _ hf _ _ _ hG hS (lv_sub hl [1, 0, 3] rfl)
        · have hf := it_neg c41 hf
          exact K40 _ _ _ hf _ _ _ hG hS (lv_sub hl [0, 1, 2] rfl)
  have hl : lv_has ls 9 [(0, .ref (ad 0)), (1, .int (a1))] := hl
  unfold fX4_findCluster at hf
  refine lv_aload_n hx hb dX4_findCluster_0 rfl (lv_at hl 0 rfl) ?_
  refine mw_getl hx hb hts hown hK hG inlX4 rfl (hG.fix (by decide)) rfl 20 (by decide) 14 rfl wA_68 dX4_findCluster_1 ?_
  refine lv_iconst (v := 0) hx hb dX4_findCluster_4 (by decide) ?_
  refine lv_iload_n hx hb dX4_findCluster_5 rfl (lv_at hl 1 rfl) ?_
  obtain ⟨h42, hf⟩ := ck_some hf
  refine mw_iast hx hb hK hG hS (hG.fix (by decide)) rfl (inb_in h42) dX4_findCluster_6 (fun H locs hG hS => ?_)
  obtain ⟨σ43, e44, hf⟩ := ld_some hf
  rw [← e44] at hG
  clear e44
  refine lv_aload_n hx hb dX4_findCluster_7 rfl (lv_at hl 0 rfl) ?_
  refine lv_iload_n hx hb dX4_findCluster_8 rfl (lv_at hl 1 rfl) ?_
  obtain ⟨r45, σ46, hc47, hf⟩ := bnd_some hf
  refine mc_i (mc_V (As := [.int (a1)]) hC hK hA hX hG hS (kX4_segmentPlace l D cA A ad hc47) ykX4_segmentPlace wA_222 wA_223 wA_224 (hG.fix (by decide)) rfl rfl ⟨rfl, rfl, Nat.le_of_ble_eq_true rfl, Nat.le_of_ble_eq_true rfl⟩ rfl hl.1 rfl (Nat.le_of_ble_eq_true rfl) dX4_findCluster_9 ⟨Nat.le_of_ble_eq_true rfl, Nat.le_of_ble_eq_true rfl⟩) hS (fun H locs hG hS => ?_)
  refine lv_istore_n (lv' := [(2, .int (r45)), (0, .ref (ad 0)), (1, .int (a1))]) hx hb dX4_findCluster_12 rfl hl (by decide) rfl (fun ls hl => ?_)
  refine lv_iconst (v := 0) hx hb dX4_findCluster_13 (by decide) ?_
  refine lv_istore_n (lv' := [(3, .int (0)), (2, .int (r45)), (0, .ref (ad 0)), (1, .int (a1))]) hx hb dX4_findCluster_14 rfl hl (by decide) rfl (fun ls hl => ?_)
  refine lv_iload_n hx hb dX4_findCluster_15 rfl (lv_at hl 1 rfl) ?_
  refine lv_iconst (v := (-1)) hx hb dX4_findCluster_16 (by decide) ?_
  refine lv_icmp_ne (tgt := 51) hx hb dX4_findCluster_17 (by decide) (fun c48 => ?_) (fun c48 => ?_)
  · have hf := it_neg c48 hf
    refine lv_iconst (v := (-1)) hx hb dX4_findCluster_51 (by decide) ?_
    refine lv_istore_n (lv' := [(3, .int ((-1))), (2, .int (r45)), (0, .ref (ad 0)), (1, .int (a1))]) hx hb dX4_findCluster_52 rfl hl (by decide) rfl (fun ls hl => ?_)
    exact K53 _ _ _ hf _ _ _ hG hS (lv_sub hl [2, 1, 0] rfl)
  · have hf := it_pos c48 hf
    exact K20 1000 _ _ _ hf _ _ _ hG hS (lv_sub hl [2, 3, 0] rfl)
def fX4_room_27 (bk4 : Int32 → Int32 → Int32 → pw_S → Option (Int32 × pw_S)) (x1 : Int32) (x3 : Int32) (y0 : Int32) (σ : pw_S) : Option (Int32 × pw_S) := (if y0 = x1 then some (((x3 - x1) + 1), σ) else bk4 x1 y0 (x3 + 1) σ)
def fX4_room_4_b (bk4 : Int32 → Int32 → Int32 → pw_S → Option (Int32 × pw_S)) (x1 : Int32) (x2 : Int32) (x3 : Int32) (σ : pw_S) : Option (Int32 × pw_S) := (if 24 ≤ x3 then some ((-1), σ) else ck (inb (x3) (24)) ((if (gi σ 4 (Int32.toNatClampNeg (x3))) = (-1) then fX4_room_27 bk4 x1 x3 ((x2 + 1)) σ else fX4_room_27 bk4 x1 x3 0 σ)))
def fX4_room_4 : Nat → Int32 → Int32 → Int32 → pw_S → Option (Int32 × pw_S)
  | 0, _, _, _, _ => none
  | n + 1, x1, x2, x3, σ => fX4_room_4_b (fX4_room_4 n) x1 x2 x3 σ
def fX4_room (a1 : Int32) (σ : pw_S) : Option (Int32 × pw_S) := fX4_room_4 1000 a1 0 0 σ
set_option maxHeartbeats 4000000 in
set_option maxRecDepth 100000 in
theorem kX4_room (l : Launch) (D : va_G) (cA : Nat → ClassId) (A : Nat → Prop) (ad : Nat → Nat) {σ σ' : pw_S} {r : Int32} {a1 : Int32} (hf : fX4_room a1 σ = some (r, σ')) : Met l yX4_room (wA yX4_room cX4_room 4 (some .int)) ({ frames := 0, cells := 0, slots := 0, locals := 0 }) (pw_Pc D cA shM 15 A ad σ [.ref (ad 0), .int (a1)]) (pw_Qi D cA shM 15 A ad r σ') 0 0 A := by
  refine mw_enter (own := RX4) (by decide) rfl (Nat.le_of_ble_eq_true rfl) ?_
  intro p e s m args below meth c ls hC hr hlocks hK hA hX hG hS hl
  obtain ⟨hx, hb, hml, hown, hts⟩ := id hC
  have K4 : ∀ (n4 : Nat) (x1 : Int32) (x2 : Int32) (x3 : Int32) (σ : pw_S), fX4_room_4 n4 x1 x2 x3 σ = some (r, σ') → mw_K p l e ({ frames := 0, cells := 0, slots := 0, locals := 0 }) s m args below meth c (MQ below (pw_Qi D cA shM 15 A ad r σ') args s 0 0 A) A D cA shM 15 ad 4 4 0 0 [(0, .ref (ad 0)), (1, .int (x1)), (2, .int (x2)), (3, .int (x3))] [] σ := by
    intro n4
    induction n4 with
    | zero => intro x1 x2 x3 σ hf; cases hf
    | succ n4 ih4 =>
      have K27 : ∀ (x1 : Int32) (x3 : Int32) (y0 : Int32) (σ : pw_S), fX4_room_27 (fX4_room_4 n4) x1 x3 y0 σ = some (r, σ') → mw_K p l e ({ frames := 0, cells := 0, slots := 0, locals := 0 }) s m args below meth c (MQ below (pw_Qi D cA shM 15 A ad r σ') args s 0 0 A) A D cA shM 15 ad 4 27 0 0 [(0, .ref (ad 0)), (1, .int (x1)), (3, .int (x3))] [.int (y0)] σ := by
        intro x1 x3 y0 σ hf H locs ls hG hS hl
        unfold fX4_room_27 at hf
        refine lv_istore_n (lv' := [(2, .int (y0)), (0, .ref (ad 0)), (1, .int (x1)), (3, .int (x3))]) hx hb dX4_room_27 rfl hl (by decide) rfl (fun ls hl => ?_)
        refine lv_iload_n hx hb dX4_room_28 rfl (lv_at hl 0 rfl) ?_
        refine lv_iload_n hx hb dX4_room_29 rfl (lv_at hl 2 rfl) ?_
        refine lv_icmp_ne (tgt := 39) hx hb dX4_room_30 (by decide) (fun c4 => ?_) (fun c4 => ?_)
        · have hf := it_neg c4 hf
          refine lv_iinc (v := x3 + 1) (lv' := [(3, .int (x3 + 1)), (2, .int (y0)), (0, .ref (ad 0)), (1, .int (x1))]) hx hb dX4_room_39 hl (k := 3) rfl rfl (by decide) rfl (fun ls hl => ?_)
          refine lv_goto (tgt := 4) hx hb dX4_room_42 (by decide) ?_
          exact ih4 _ _ _ _ hf _ _ _ hG hS (lv_sub hl [2, 3, 1, 0] rfl)
        · have hf := it_pos c4 hf
          refine lv_iload_n hx hb dX4_room_33 rfl (lv_at hl 3 rfl) ?_
          refine lv_iload_n hx hb dX4_room_34 rfl (lv_at hl 2 rfl) ?_
          refine lv_isub hx hb dX4_room_35 ?_
          refine lv_iconst (v := 1) hx hb dX4_room_36 (by decide) ?_
          refine lv_iadd hx hb dX4_room_37 ?_
          exact mr_i hC hr hlocks hG hS hf (Nat.le_of_ble_eq_true rfl) (Nat.le_of_ble_eq_true rfl) dX4_room_38
      intro x1 x2 x3 σ hf H locs ls hG hS hl
      have hf : fX4_room_4_b (fX4_room_4 n4) x1 x2 x3 σ = some (r, σ') := hf
      unfold fX4_room_4_b at hf
      refine lv_iload_n hx hb dX4_room_4 rfl (lv_at hl 3 rfl) ?_
      refine lv_bipush (v := 24) hx hb dX4_room_5 (by decide) ?_
      refine lv_icmp_ge (tgt := 45) hx hb dX4_room_7 (by decide) (fun c5 => ?_) (fun c5 => ?_)
      · have hf := it_pos c5 hf
        refine lv_iconst (v := (-1)) hx hb dX4_room_45 (by decide) ?_
        exact mr_i hC hr hlocks hG hS hf (Nat.le_of_ble_eq_true rfl) (Nat.le_of_ble_eq_true rfl) dX4_room_46
      · have hf := it_neg c5 hf
        refine lv_aload_n hx hb dX4_room_10 rfl (lv_at hl 0 rfl) ?_
        refine mw_getl hx hb hts hown hK hG inlX4 rfl (hG.fix (by decide)) rfl 8 (by decide) 4 rfl wA_58 dX4_room_11 ?_
        refine lv_iload_n hx hb dX4_room_14 rfl (lv_at hl 3 rfl) ?_
        obtain ⟨h6, hf⟩ := ck_some hf
        refine mw_iald hx hb hK hG (hG.fix (by decide)) rfl (inb_in h6) dX4_room_15 ?_
        refine lv_iconst (v := (-1)) hx hb dX4_room_16 (by decide) ?_
        refine lv_icmp_ne (tgt := 26) hx hb dX4_room_17 (by decide) (fun c7 => ?_) (fun c7 => ?_)
        · have hf := it_neg c7 hf
          refine lv_iconst (v := 0) hx hb dX4_room_26 (by decide) ?_
          exact K27 _ _ _ _ hf _ _ _ hG hS (lv_sub hl [0, 1, 3] rfl)
        · have hf := it_pos c7 hf
          refine lv_iload_n hx hb dX4_room_20 rfl (lv_at hl 2 rfl) ?_
          refine lv_iconst (v := 1) hx hb dX4_room_21 (by decide) ?_
          refine lv_iadd hx hb dX4_room_22 ?_
          refine lv_goto (tgt := 27) hx hb dX4_room_23 (by decide) ?_
          exact K27 _ _ _ _ hf _ _ _ hG hS (lv_sub hl [0, 1, 3] rfl)
  have hl : lv_has ls 4 [(0, .ref (ad 0)), (1, .int (a1))] := hl
  unfold fX4_room at hf
  refine lv_iconst (v := 0) hx hb dX4_room_0 (by decide) ?_
  refine lv_istore_n (lv' := [(2, .int (0)), (0, .ref (ad 0)), (1, .int (a1))]) hx hb dX4_room_1 rfl hl (by decide) rfl (fun ls hl => ?_)
  refine lv_iconst (v := 0) hx hb dX4_room_2 (by decide) ?_
  refine lv_istore_n (lv' := [(3, .int (0)), (2, .int (0)), (0, .ref (ad 0)), (1, .int (a1))]) hx hb dX4_room_3 rfl hl (by decide) rfl (fun ls hl => ?_)
  exact K4 1000 _ _ _ _ hf _ _ _ hG hS (lv_sub hl [2, 3, 1, 0] rfl)
def fX4_writeOut_42_b (bk42 : Int32 → Int32 → Int32 → pw_S → Option (Int32 × pw_S)) (x2 : Int32) (x3 : Int32) (x4 : Int32) (σ : pw_S) : Option (Int32 × pw_S) := (if x2 ≤ x4 then ck (inb (5) (6)) (ck (inb (5) (6)) (ld (si σ 13 (Int32.toNatClampNeg (5)) (((gi σ 13 (Int32.toNatClampNeg (5))) + x2))) (fun σ8 => some (x2, σ8)))) else ck (inb (x4) (4)) (ck (inb ((x3 + x4)) (24)) (ld (si σ 4 (Int32.toNatClampNeg ((x3 + x4))) ((gi σ 14 (Int32.toNatClampNeg (x4))))) (fun σ12 => bk42 x2 x3 (x4 + 1) σ12))))
def fX4_writeOut_42 : Nat → Int32 → Int32 → Int32 → pw_S → Option (Int32 × pw_S)
  | 0, _, _, _, _ => none
  | n + 1, x2, x3, x4, σ => fX4_writeOut_42_b (fX4_writeOut_42 n) x2 x3 x4 σ
def fX4_writeOut_38 (x2 : Int32) (y0 : Int32) (σ : pw_S) : Option (Int32 × pw_S) := fX4_writeOut_42 1000 x2 y0 0 σ
def fX4_writeOut_25 (x2 : Int32) (σ : pw_S) : Option (Int32 × pw_S) := (if x2 ≤ 0 then fX4_writeOut_38 x2 0 σ else bnd (fX4_room x2 σ) (fun r15 σ16 => fX4_writeOut_38 x2 r15 σ16))
def fX4_writeOut_6_b (bk6 : Int32 → pw_S → Option (Int32 × pw_S)) (x2 : Int32) (σ : pw_S) : Option (Int32 × pw_S) := (if x2 ≤ 0 then fX4_writeOut_25 x2 σ else bnd (fX4_room x2 σ) (fun r19 σ20 => (if r19 = (-1) then bk6 (x2 + (-1)) σ20 else fX4_writeOut_25 x2 σ20)))
def fX4_writeOut_6 : Nat → Int32 → pw_S → Option (Int32 × pw_S)
  | 0, _, _ => none
  | n + 1, x2, σ => fX4_writeOut_6_b (fX4_writeOut_6 n) x2 σ
def fX4_writeOut (a1 : Int32) (σ : pw_S) : Option (Int32 × pw_S) := bnd (fX4_findCluster a1 σ) (fun r23 σ24 => fX4_writeOut_6 1000 r23 σ24)
set_option maxHeartbeats 4000000 in
set_option maxRecDepth 100000 in
theorem kX4_writeOut (l : Launch) (D : va_G) (cA : Nat → ClassId) (A : Nat → Prop) (ad : Nat → Nat) {σ σ' : pw_S} {r : Int32} {a1 : Int32} (hf : fX4_writeOut a1 σ = some (r, σ')) : Met l yX4_writeOut (wA yX4_writeOut cX4_writeOut 5 (some .int)) ({ frames := 3, cells := 0, slots := 0, locals := 71 }) (pw_Pc D cA shM 15 A ad σ [.ref (ad 0), .int (a1)]) (pw_Qi D cA shM 15 A ad r σ') 0 0 A := by
  refine mw_enter (own := RX4) (by decide) rfl (Nat.le_of_ble_eq_true rfl) ?_
  intro p e s m args below meth c ls hC hr hlocks hK hA hX hG hS hl
  obtain ⟨hx, hb, hml, hown, hts⟩ := id hC
  have K42 : ∀ (n42 : Nat) (x2 : Int32) (x3 : Int32) (x4 : Int32) (σ : pw_S), fX4_writeOut_42 n42 x2 x3 x4 σ = some (r, σ') → mw_K p l e ({ frames := 3, cells := 0, slots := 0, locals := 71 }) s m args below meth c (MQ below (pw_Qi D cA shM 15 A ad r σ') args s 0 0 A) A D cA shM 15 ad 5 42 0 0 [(0, .ref (ad 0)), (2, .int (x2)), (3, .int (x3)), (4, .int (x4))] [] σ := by
    intro n42
    induction n42 with
    | zero => intro x2 x3 x4 σ hf; cases hf
    | succ n42 ih42 =>
      intro x2 x3 x4 σ hf H locs ls hG hS hl
      have hf : fX4_writeOut_42_b (fX4_writeOut_42 n42) x2 x3 x4 σ = some (r, σ') := hf
      unfold fX4_writeOut_42_b at hf
      refine lv_iload hx hb dX4_writeOut_42 (lv_at hl 3 rfl) ?_
      refine lv_iload_n hx hb dX4_writeOut_44 rfl (lv_at hl 1 rfl) ?_
      refine lv_icmp_ge (tgt := 70) hx hb dX4_writeOut_45 (by decide) (fun c5 => ?_) (fun c5 => ?_)
      · have hf := it_pos c5 hf
        refine lv_aload_n hx hb dX4_writeOut_70 rfl (lv_at hl 0 rfl) ?_
        refine mw_getl hx hb hts hown hK hG inlX4 rfl (hG.fix (by decide)) rfl 19 (by decide) 13 rfl wA_67 dX4_writeOut_71 ?_
        refine lv_iconst (v := 5) hx hb dX4_writeOut_74 (by decide) ?_
        refine lv_dup2_11 hx hb dX4_writeOut_75 rfl rfl ?_
        obtain ⟨h6, hf⟩ := ck_some hf
        refine mw_iald hx hb hK hG (hG.fix (by decide)) rfl (inb_in h6) dX4_writeOut_76 ?_
        refine lv_iload_n hx hb dX4_writeOut_77 rfl (lv_at hl 1 rfl) ?_
        refine lv_iadd hx hb dX4_writeOut_78 ?_
        obtain ⟨h7, hf⟩ := ck_some hf
        refine mw_iast hx hb hK hG hS (hG.fix (by decide)) rfl (inb_in h7) dX4_writeOut_79 (fun H locs hG hS => ?_)
        obtain ⟨σ8, e9, hf⟩ := ld_some hf
        rw [← e9] at hG
        clear e9
        refine lv_iload_n hx hb dX4_writeOut_80 rfl (lv_at hl 1 rfl) ?_
        exact mr_i hC hr hlocks hG hS hf (Nat.le_of_ble_eq_true rfl) (Nat.le_of_ble_eq_true rfl) dX4_writeOut_81
      · have hf := it_neg c5 hf
        refine lv_aload_n hx hb dX4_writeOut_48 rfl (lv_at hl 0 rfl) ?_
        refine mw_getl hx hb hts hown hK hG inlX4 rfl (hG.fix (by decide)) rfl 8 (by decide) 4 rfl wA_58 dX4_writeOut_49 ?_
        refine lv_iload_n hx hb dX4_writeOut_52 rfl (lv_at hl 2 rfl) ?_
        refine lv_iload hx hb dX4_writeOut_53 (lv_at hl 3 rfl) ?_
        refine lv_iadd hx hb dX4_writeOut_55 ?_
        refine lv_aload_n hx hb dX4_writeOut_56 rfl (lv_at hl 0 rfl) ?_
        refine mw_getl hx hb hts hown hK hG inlX4 rfl (hG.fix (by decide)) rfl 20 (by decide) 14 rfl wA_68 dX4_writeOut_57 ?_
        refine lv_iload hx hb dX4_writeOut_60 (lv_at hl 3 rfl) ?_
        obtain ⟨h10, hf⟩ := ck_some hf
        refine mw_iald hx hb hK hG (hG.fix (by decide)) rfl (inb_in h10) dX4_writeOut_62 ?_
        obtain ⟨h11, hf⟩ := ck_some hf
        refine mw_iast hx hb hK hG hS (hG.fix (by decide)) rfl (inb_in h11) dX4_writeOut_63 (fun H locs hG hS => ?_)
        obtain ⟨σ12, e13, hf⟩ := ld_some hf
        rw [← e13] at hG
        clear e13
        refine lv_iinc (v := x4 + 1) (lv' := [(4, .int (x4 + 1)), (0, .ref (ad 0)), (2, .int (x2)), (3, .int (x3))]) hx hb dX4_writeOut_64 hl (k := 3) rfl rfl (by decide) rfl (fun ls hl => ?_)
        refine lv_goto (tgt := 42) hx hb dX4_writeOut_67 (by decide) ?_
        exact ih42 _ _ _ _ hf _ _ _ hG hS (lv_sub hl [1, 2, 3, 0] rfl)
  have K38 : ∀ (x2 : Int32) (y0 : Int32) (σ : pw_S), fX4_writeOut_38 x2 y0 σ = some (r, σ') → mw_K p l e ({ frames := 3, cells := 0, slots := 0, locals := 71 }) s m args below meth c (MQ below (pw_Qi D cA shM 15 A ad r σ') args s 0 0 A) A D cA shM 15 ad 5 38 0 0 [(0, .ref (ad 0)), (2, .int (x2))] [.int (y0)] σ := by
    intro x2 y0 σ hf H locs ls hG hS hl
    unfold fX4_writeOut_38 at hf
    refine lv_istore_n (lv' := [(3, .int (y0)), (0, .ref (ad 0)), (2, .int (x2))]) hx hb dX4_writeOut_38 rfl hl (by decide) rfl (fun ls hl => ?_)
    refine lv_iconst (v := 0) hx hb dX4_writeOut_39 (by decide) ?_
    refine lv_istore (lv' := [(4, .int (0)), (3, .int (y0)), (0, .ref (ad 0)), (2, .int (x2))]) hx hb dX4_writeOut_40 hl (by decide) rfl (fun ls hl => ?_)
    exact K42 1000 _ _ _ _ hf _ _ _ hG hS (lv_sub hl [2, 3, 1, 0] rfl)
  have K25 : ∀ (x2 : Int32) (σ : pw_S), fX4_writeOut_25 x2 σ = some (r, σ') → mw_K p l e ({ frames := 3, cells := 0, slots := 0, locals := 71 }) s m args below meth c (MQ below (pw_Qi D cA shM 15 A ad r σ') args s 0 0 A) A D cA shM 15 ad 5 25 0 0 [(0, .ref (ad 0)), (2, .int (x2))] [] σ := by
    intro x2 σ hf H locs ls hG hS hl
    unfold fX4_writeOut_25 at hf
    refine lv_iload_n hx hb dX4_writeOut_25 rfl (lv_at hl 1 rfl) ?_
    refine lv_if_le (tgt := 37) hx hb dX4_writeOut_26 (by decide) (fun c14 => ?_) (fun c14 => ?_)
    · have hf := it_pos c14 hf
      refine lv_iconst (v := 0) hx hb dX4_writeOut_37 (by decide) ?_
      exact K38 _ _ _ hf _ _ _ hG hS (lv_sub hl [0, 1] rfl)
    · have hf := it_neg c14 hf
      refine lv_aload_n hx hb dX4_writeOut_29 rfl (lv_at hl 0 rfl) ?_
      refine lv_iload_n hx hb dX4_writeOut_30 rfl (lv_at hl 1 rfl) ?_
      obtain ⟨r15, σ16, hc17, hf⟩ := bnd_some hf
      refine mc_i (mc_V (As := [.int (x2)]) hC hK hA hX hG hS (kX4_room l D cA A ad hc17) ykX4_room wA_463 wA_464 wA_465 (hG.fix (by decide)) rfl rfl ⟨rfl, rfl, Nat.le_of_ble_eq_true rfl, Nat.le_of_ble_eq_true rfl⟩ rfl hl.1 rfl (Nat.le_of_ble_eq_true rfl) dX4_writeOut_31 ⟨Nat.le_of_ble_eq_true rfl, Nat.le_of_ble_eq_true rfl⟩) hS (fun H locs hG hS => ?_)
      refine lv_goto (tgt := 38) hx hb dX4_writeOut_34 (by decide) ?_
      exact K38 _ _ _ hf _ _ _ hG hS (lv_sub hl [0, 1] rfl)
  have K6 : ∀ (n6 : Nat) (x2 : Int32) (σ : pw_S), fX4_writeOut_6 n6 x2 σ = some (r, σ') → mw_K p l e ({ frames := 3, cells := 0, slots := 0, locals := 71 }) s m args below meth c (MQ below (pw_Qi D cA shM 15 A ad r σ') args s 0 0 A) A D cA shM 15 ad 5 6 0 0 [(0, .ref (ad 0)), (2, .int (x2))] [] σ := by
    intro n6
    induction n6 with
    | zero => intro x2 σ hf; cases hf
    | succ n6 ih6 =>
      intro x2 σ hf H locs ls hG hS hl
      have hf : fX4_writeOut_6_b (fX4_writeOut_6 n6) x2 σ = some (r, σ') := hf
      unfold fX4_writeOut_6_b at hf
      refine lv_iload_n hx hb dX4_writeOut_6 rfl (lv_at hl 1 rfl) ?_
      refine lv_if_le (tgt := 25) hx hb dX4_writeOut_7 (by decide) (fun c18 => ?_) (fun c18 => ?_)
      · have hf := it_pos c18 hf
        exact K25 _ _ hf _ _ _ hG hS (lv_sub hl [0, 1] rfl)
      · have hf := it_neg c18 hf
        refine lv_aload_n hx hb dX4_writeOut_10 rfl (lv_at hl 0 rfl) ?_
        refine lv_iload_n hx hb dX4_writeOut_11 rfl (lv_at hl 1 rfl) ?_
        obtain ⟨r19, σ20, hc21, hf⟩ := bnd_some hf
        refine mc_i (mc_V (As := [.int (x2)]) hC hK hA hX hG hS (kX4_room l D cA A ad hc21) ykX4_room wA_463 wA_464 wA_465 (hG.fix (by decide)) rfl rfl ⟨rfl, rfl, Nat.le_of_ble_eq_true rfl, Nat.le_of_ble_eq_true rfl⟩ rfl hl.1 rfl (Nat.le_of_ble_eq_true rfl) dX4_writeOut_12 ⟨Nat.le_of_ble_eq_true rfl, Nat.le_of_ble_eq_true rfl⟩) hS (fun H locs hG hS => ?_)
        refine lv_iconst (v := (-1)) hx hb dX4_writeOut_15 (by decide) ?_
        refine lv_icmp_ne (tgt := 25) hx hb dX4_writeOut_16 (by decide) (fun c22 => ?_) (fun c22 => ?_)
        · have hf := it_neg c22 hf
          exact K25 _ _ hf _ _ _ hG hS (lv_sub hl [0, 1] rfl)
        · have hf := it_pos c22 hf
          refine lv_iinc (v := x2 + (-1)) (lv' := [(2, .int (x2 + (-1))), (0, .ref (ad 0))]) hx hb dX4_writeOut_19 hl (k := 1) rfl rfl (by decide) rfl (fun ls hl => ?_)
          refine lv_goto (tgt := 6) hx hb dX4_writeOut_22 (by decide) ?_
          exact ih6 _ _ hf _ _ _ hG hS (lv_sub hl [1, 0] rfl)
  have hl : lv_has ls 5 [(0, .ref (ad 0)), (1, .int (a1))] := hl
  unfold fX4_writeOut at hf
  refine lv_aload_n hx hb dX4_writeOut_0 rfl (lv_at hl 0 rfl) ?_
  refine lv_iload_n hx hb dX4_writeOut_1 rfl (lv_at hl 1 rfl) ?_
  obtain ⟨r23, σ24, hc25, hf⟩ := bnd_some hf
  refine mc_i (mc_V (As := [.int (a1)]) hC hK hA hX hG hS (kX4_findCluster l D cA A ad hc25) ykX4_findCluster wA_491 wA_492 wA_493 (hG.fix (by decide)) rfl rfl ⟨rfl, rfl, Nat.le_of_ble_eq_true rfl, Nat.le_of_ble_eq_true rfl⟩ rfl hl.1 rfl (Nat.le_of_ble_eq_true rfl) dX4_writeOut_2 ⟨Nat.le_of_ble_eq_true rfl, Nat.le_of_ble_eq_true rfl⟩) hS (fun H locs hG hS => ?_)
  refine lv_istore_n (lv' := [(2, .int (r23)), (0, .ref (ad 0)), (1, .int (a1))]) hx hb dX4_writeOut_5 rfl hl (by decide) rfl (fun ls hl => ?_)
  exact K6 1000 _ _ hf _ _ _ hG hS (lv_sub hl [1, 0] rfl)
def fX4_evict_59 (σ : pw_S) : Option (Unit × pw_S) := some ((), σ)
def fX4_evict (a1 : Int32) (σ : pw_S) : Option (Unit × pw_S) := ck (inb (a1) (12)) (ck (inb (a1) (12)) (ld (si σ 1 (Int32.toNatClampNeg (a1)) ((-1))) (fun σ4 => ck (inb (a1) (12)) (ld (si σ4 3 (Int32.toNatClampNeg (a1)) (0)) (fun σ7 => ck (inb (4) (6)) (ck (inb (4) (6)) (ld (si σ7 13 (Int32.toNatClampNeg (4)) (((gi σ7 13 (Int32.toNatClampNeg (4))) + 1))) (fun σ11 => ck (nzb ((gi σ11 0 3))) (ld (si σ11 0 4 (((a1 + 1) - (a1 + 1) / (gi σ11 0 3) * (gi σ11 0 3)))) (fun σ14 => bnd (fX4_slotWith ((gi σ 1 (Int32.toNatClampNeg (a1)))) σ14) (fun r16 σ17 => (if r16 = (-1) then ck (inb ((gi σ 1 (Int32.toNatClampNeg (a1)))) (200)) (ld (si σ17 6 (Int32.toNatClampNeg ((gi σ 1 (Int32.toNatClampNeg (a1))))) (0)) (fun σ21 => fX4_evict_59 σ21)) else fX4_evict_59 σ17))))))))))))
set_option maxHeartbeats 4000000 in
set_option maxRecDepth 100000 in
theorem kX4_evict (l : Launch) (D : va_G) (cA : Nat → ClassId) (A : Nat → Prop) (ad : Nat → Nat) {σ σ' : pw_S} {r : Unit} {a1 : Int32} (hf : fX4_evict a1 σ = some (r, σ')) : Met l yX4_evict (wA yX4_evict cX4_evict 3 none) ({ frames := 1, cells := 0, slots := 0, locals := 22 }) (pw_Pc D cA shM 15 A ad σ [.ref (ad 0), .int (a1)]) (pw_Qv D cA shM 15 A ad r σ') 0 0 A := by
  refine mw_enter (own := RX4) (by decide) rfl (Nat.le_of_ble_eq_true rfl) ?_
  intro p e s m args below meth c ls hC hr hlocks hK hA hX hG hS hl
  obtain ⟨hx, hb, hml, hown, hts⟩ := id hC
  have K59 : ∀ (σ : pw_S), fX4_evict_59  σ = some (r, σ') → mw_K p l e ({ frames := 1, cells := 0, slots := 0, locals := 22 }) s m args below meth c (MQ below (pw_Qv D cA shM 15 A ad r σ') args s 0 0 A) A D cA shM 15 ad 3 59 0 0 [] [] σ := by
    intro  σ hf H locs ls hG hS hl
    unfold fX4_evict_59 at hf
    exact mr_v hC hr hlocks hG hS hf (Nat.le_of_ble_eq_true rfl) (Nat.le_of_ble_eq_true rfl) dX4_evict_59
  have hl : lv_has ls 3 [(0, .ref (ad 0)), (1, .int (a1))] := hl
  unfold fX4_evict at hf
  refine lv_aload_n hx hb dX4_evict_0 rfl (lv_at hl 0 rfl) ?_
  refine mw_getl hx hb hts hown hK hG inlX4 rfl (hG.fix (by decide)) rfl 5 (by decide) 1 rfl wA_55 dX4_evict_1 ?_
  refine lv_iload_n hx hb dX4_evict_4 rfl (lv_at hl 1 rfl) ?_
  obtain ⟨h2, hf⟩ := ck_some hf
  refine mw_iald hx hb hK hG (hG.fix (by decide)) rfl (inb_in h2) dX4_evict_5 ?_
  refine lv_istore_n (lv' := [(2, .int ((gi σ 1 (Int32.toNatClampNeg (a1))))), (0, .ref (ad 0)), (1, .int (a1))]) hx hb dX4_evict_6 rfl hl (by decide) rfl (fun ls hl => ?_)
  refine lv_aload_n hx hb dX4_evict_7 rfl (lv_at hl 1 rfl) ?_
  refine mw_getl hx hb hts hown hK hG inlX4 rfl (hG.fix (by decide)) rfl 5 (by decide) 1 rfl wA_55 dX4_evict_8 ?_
  refine lv_iload_n hx hb dX4_evict_11 rfl (lv_at hl 2 rfl) ?_
  refine lv_iconst (v := (-1)) hx hb dX4_evict_12 (by decide) ?_
  obtain ⟨h3, hf⟩ := ck_some hf
  refine mw_iast hx hb hK hG hS (hG.fix (by decide)) rfl (inb_in h3) dX4_evict_13 (fun H locs hG hS => ?_)
  obtain ⟨σ4, e5, hf⟩ := ld_some hf
  rw [← e5] at hG
  clear e5
  refine lv_aload_n hx hb dX4_evict_14 rfl (lv_at hl 1 rfl) ?_
  refine mw_getl hx hb hts hown hK hG inlX4 rfl (hG.fix (by decide)) rfl 7 (by decide) 3 rfl wA_57 dX4_evict_15 ?_
  refine lv_iload_n hx hb dX4_evict_18 rfl (lv_at hl 2 rfl) ?_
  refine lv_iconst (v := 0) hx hb dX4_evict_19 (by decide) ?_
  obtain ⟨h6, hf⟩ := ck_some hf
  refine mw_zast hx hb hK hG hS (hG.fix (by decide)) rfl rfl (inb_in h6) dX4_evict_20 (fun H locs hG hS => ?_)
  obtain ⟨σ7, e8, hf⟩ := ld_some hf
  rw [← e8] at hG
  clear e8
  refine lv_aload_n hx hb dX4_evict_21 rfl (lv_at hl 1 rfl) ?_
  refine mw_getl hx hb hts hown hK hG inlX4 rfl (hG.fix (by decide)) rfl 19 (by decide) 13 rfl wA_67 dX4_evict_22 ?_
  refine lv_iconst (v := 4) hx hb dX4_evict_25 (by decide) ?_
  refine lv_dup2_11 hx hb dX4_evict_26 rfl rfl ?_
  obtain ⟨h9, hf⟩ := ck_some hf
  refine mw_iald hx hb hK hG (hG.fix (by decide)) rfl (inb_in h9) dX4_evict_27 ?_
  refine lv_iconst (v := 1) hx hb dX4_evict_28 (by decide) ?_
  refine lv_iadd hx hb dX4_evict_29 ?_
  obtain ⟨h10, hf⟩ := ck_some hf
  refine mw_iast hx hb hK hG hS (hG.fix (by decide)) rfl (inb_in h10) dX4_evict_30 (fun H locs hG hS => ?_)
  obtain ⟨σ11, e12, hf⟩ := ld_some hf
  rw [← e12] at hG
  clear e12
  refine lv_aload_n hx hb dX4_evict_31 rfl (lv_at hl 1 rfl) ?_
  refine lv_iload_n hx hb dX4_evict_32 rfl (lv_at hl 2 rfl) ?_
  refine lv_iconst (v := 1) hx hb dX4_evict_33 (by decide) ?_
  refine lv_iadd hx hb dX4_evict_34 ?_
  refine lv_aload_n hx hb dX4_evict_35 rfl (lv_at hl 1 rfl) ?_
  refine mw_geti hx hb hts hown hK hG inlX4 rfl (hG.fix (by decide)) rfl 3 (by decide) rfl wA_54 dX4_evict_36 ?_
  obtain ⟨h13, hf⟩ := ck_some hf
  refine lv_irem hx hb dX4_evict_39 (nz_ne h13) ?_
  refine mw_puti hx hb hts hown hK hG hS inlX4 tyX4 tyX4_ok nmX4 rfl (hG.fix (by decide)) rfl 4 (by decide) rfl rfl rfl rfl wA_94 dX4_evict_40 (fun H locs hG hS => ?_)
  obtain ⟨σ14, e15, hf⟩ := ld_some hf
  rw [← e15] at hG
  clear e15
  refine lv_aload_n hx hb dX4_evict_43 rfl (lv_at hl 1 rfl) ?_
  refine lv_iload_n hx hb dX4_evict_44 rfl (lv_at hl 0 rfl) ?_
  obtain ⟨r16, σ17, hc18, hf⟩ := bnd_some hf
  refine mc_i (mc_V (As := [.int ((gi σ 1 (Int32.toNatClampNeg (a1))))]) hC hK hA hX hG hS (kX4_slotWith l D cA A ad hc18) ykX4_slotWith wA_231 wA_232 wA_233 (hG.fix (by decide)) rfl rfl ⟨rfl, rfl, Nat.le_of_ble_eq_true rfl, Nat.le_of_ble_eq_true rfl⟩ rfl hl.1 rfl (Nat.le_of_ble_eq_true rfl) dX4_evict_45 ⟨Nat.le_of_ble_eq_true rfl, Nat.le_of_ble_eq_true rfl⟩) hS (fun H locs hG hS => ?_)
  refine lv_iconst (v := (-1)) hx hb dX4_evict_48 (by decide) ?_
  refine lv_icmp_ne (tgt := 59) hx hb dX4_evict_49 (by decide) (fun c19 => ?_) (fun c19 => ?_)
  · have hf := it_neg c19 hf
    exact K59 _ hf _ _ _ hG hS (lv_sub hl [] rfl)
  · have hf := it_pos c19 hf
    refine lv_aload_n hx hb dX4_evict_52 rfl (lv_at hl 1 rfl) ?_
    refine mw_getl hx hb hts hown hK hG inlX4 rfl (hG.fix (by decide)) rfl 10 (by decide) 6 rfl wA_60 dX4_evict_53 ?_
    refine lv_iload_n hx hb dX4_evict_56 rfl (lv_at hl 0 rfl) ?_
    refine lv_iconst (v := 0) hx hb dX4_evict_57 (by decide) ?_
    obtain ⟨h20, hf⟩ := ck_some hf
    refine mw_zast hx hb hK hG hS (hG.fix (by decide)) rfl rfl (inb_in h20) dX4_evict_58 (fun H locs hG hS => ?_)
    obtain ⟨σ21, e22, hf⟩ := ld_some hf
    rw [← e22] at hG
    clear e22
    exact K59 _ hf _ _ _ hG hS (lv_sub hl [] rfl)
def fX4_freed_227 (x2 : Int32) (σ : pw_S) : Option (Int32 × pw_S) := bnd (fX4_evict x2 σ) (fun r13 σ14 => some (x2, σ14))
def fX4_freed_206 (bk159 : Int32 → Int32 → Int32 → pw_S → Option (Int32 × pw_S)) (x1 : Int32) (x2 : Int32) (x3 : Int32) (σ : pw_S) : Option (Int32 × pw_S) := bk159 x1 x2 (x3 + 1) σ
def fX4_freed_204 (bk159 : Int32 → Int32 → Int32 → pw_S → Option (Int32 × pw_S)) (x1 : Int32) (x3 : Int32) (σ : pw_S) : Option (Int32 × pw_S) := fX4_freed_206 bk159 x1 x3 x3 σ
def fX4_freed_184 (bk159 : Int32 → Int32 → Int32 → pw_S → Option (Int32 × pw_S)) (x1 : Int32) (x2 : Int32) (x3 : Int32) (σ : pw_S) : Option (Int32 × pw_S) := (if x2 = (-1) then fX4_freed_204 bk159 x1 x3 σ else ck (inb (x3) (12)) (ck (inb (x2) (12)) ((if (gi σ 2 (Int32.toNatClampNeg (x2))) ≤ (gi σ 2 (Int32.toNatClampNeg (x3))) then fX4_freed_206 bk159 x1 x2 x3 σ else fX4_freed_204 bk159 x1 x3 σ))))
def fX4_freed_159_b (bk159 : Int32 → Int32 → Int32 → pw_S → Option (Int32 × pw_S)) (x1 : Int32) (x2 : Int32) (x3 : Int32) (σ : pw_S) : Option (Int32 × pw_S) := (if (gi σ 0 3) ≤ x3 then (if x1 = 0 then ck (inb (x2) (12)) (bnd (fX4_writeOut ((gi σ 1 (Int32.toNatClampNeg (x2)))) σ) (fun r23 σ24 => fX4_freed_227 x2 σ24)) else fX4_freed_227 x2 σ) else (if x1 = 0 then fX4_freed_184 bk159 x1 x2 x3 σ else ck (inb (x3) (12)) (bnd (fX4_isDirty ((gi σ 1 (Int32.toNatClampNeg (x3)))) σ) (fun r28 σ29 => (if r28 = 0 then fX4_freed_184 bk159 x1 x2 x3 σ29 else fX4_freed_206 bk159 x1 x2 x3 σ29)))))
def fX4_freed_159 : Nat → Int32 → Int32 → Int32 → pw_S → Option (Int32 × pw_S)
  | 0, _, _, _, _ => none
  | n + 1, x1, x2, x3, σ => fX4_freed_159_b (fX4_freed_159 n) x1 x2 x3 σ
def fX4_freed_147 (bk120 : Int32 → Int32 → pw_S → Option (Int32 × pw_S)) (x2 : Int32) (y0 : Int32) (y1 : Int32) (σ : pw_S) : Option (Int32 × pw_S) := bk120 ((y1 ||| y0)) (x2 + 1) σ
def fX4_freed_120_b (bk120 : Int32 → Int32 → pw_S → Option (Int32 × pw_S)) (x1 : Int32) (x2 : Int32) (σ : pw_S) : Option (Int32 × pw_S) := (if (gi σ 0 3) ≤ x2 then fX4_freed_159 1000 x1 ((-1)) 0 σ else ck (inb (x2) (12)) (bnd (fX4_isDirty ((gi σ 1 (Int32.toNatClampNeg (x2)))) σ) (fun r34 σ35 => (if r34 = 0 then fX4_freed_147 bk120 x2 1 x1 σ35 else fX4_freed_147 bk120 x2 0 x1 σ35))))
def fX4_freed_120 : Nat → Int32 → Int32 → pw_S → Option (Int32 × pw_S)
  | 0, _, _, _ => none
  | n + 1, x1, x2, σ => fX4_freed_120_b (fX4_freed_120 n) x1 x2 σ
def fX4_freed_95 (bk2 : Int32 → pw_S → Option (Int32 × pw_S)) (x1 : Int32) (σ : pw_S) : Option (Int32 × pw_S) := ck (nzb ((gi σ 0 3))) (ld (si σ 0 4 ((((gi σ 0 4) + 1) - ((gi σ 0 4) + 1) / (gi σ 0 3) * (gi σ 0 3)))) (fun σ39 => bk2 (x1 + 1) σ39))
def fX4_freed_2_b (bk2 : Int32 → pw_S → Option (Int32 × pw_S)) (x1 : Int32) (σ : pw_S) : Option (Int32 × pw_S) := (if (2 * (gi σ 0 3)) ≤ x1 then fX4_freed_120 1000 0 0 σ else ck (inb ((gi σ 0 4)) (12)) ((if (gi σ 3 (Int32.toNatClampNeg ((gi σ 0 4)))) = 0 then ck (inb ((gi σ 0 4)) (12)) ((if ((gi σ 0 1) - (gi σ 2 (Int32.toNatClampNeg ((gi σ 0 4))))) ≤ (gi σ 0 2) then fX4_freed_95 bk2 x1 σ else ck (inb ((gi σ 0 4)) (12)) (bnd (fX4_isDirty ((gi σ 1 (Int32.toNatClampNeg ((gi σ 0 4))))) σ) (fun r47 σ48 => (if r47 = 0 then bnd (fX4_evict ((gi σ 0 4)) σ48) (fun r55 σ56 => some ((gi σ 0 4), σ56)) else ck (inb ((gi σ 0 4)) (12)) (bnd (fX4_writeOut ((gi σ48 1 (Int32.toNatClampNeg ((gi σ 0 4))))) σ48) (fun r52 σ53 => fX4_freed_95 bk2 x1 σ53))))))) else ck (inb ((gi σ 0 4)) (12)) (ld (si σ 3 (Int32.toNatClampNeg ((gi σ 0 4))) (0)) (fun σ59 => ck (inb ((gi σ 0 4)) (12)) (ld (si σ59 2 (Int32.toNatClampNeg ((gi σ 0 4))) ((gi σ59 0 1))) (fun σ62 => fX4_freed_95 bk2 x1 σ62)))))))
def fX4_freed_2 : Nat → Int32 → pw_S → Option (Int32 × pw_S)
  | 0, _, _ => none
  | n + 1, x1, σ => fX4_freed_2_b (fX4_freed_2 n) x1 σ
def fX4_freed (σ : pw_S) : Option (Int32 × pw_S) := fX4_freed_2 1000 0 σ
set_option maxHeartbeats 4000000 in
set_option maxRecDepth 100000 in
theorem kX4_freed (l : Launch) (D : va_G) (cA : Nat → ClassId) (A : Nat → Prop) (ad : Nat → Nat) {σ σ' : pw_S} {r : Int32} (hf : fX4_freed σ = some (r, σ')) : Met l yX4_freed (wA yX4_freed cX4_freed 4 (some .int)) ({ frames := 4, cells := 0, slots := 0, locals := 95 }) (pw_Pc D cA shM 15 A ad σ [.ref (ad 0)]) (pw_Qi D cA shM 15 A ad r σ') 0 0 A := by
  refine mw_enter (own := RX4) (by decide) rfl (Nat.le_of_ble_eq_true rfl) ?_
  intro p e s m args below meth c ls hC hr hlocks hK hA hX hG hS hl
  obtain ⟨hx, hb, hml, hown, hts⟩ := id hC
  have K227 : ∀ (x2 : Int32) (σ : pw_S), fX4_freed_227 x2 σ = some (r, σ') → mw_K p l e ({ frames := 4, cells := 0, slots := 0, locals := 95 }) s m args below meth c (MQ below (pw_Qi D cA shM 15 A ad r σ') args s 0 0 A) A D cA shM 15 ad 4 227 0 0 [(0, .ref (ad 0)), (2, .int (x2))] [] σ := by
    intro x2 σ hf H locs ls hG hS hl
    unfold fX4_freed_227 at hf
    refine lv_aload_n hx hb dX4_freed_227 rfl (lv_at hl 0 rfl) ?_
    refine lv_iload_n hx hb dX4_freed_228 rfl (lv_at hl 1 rfl) ?_
    obtain ⟨r13, σ14, hc15, hf⟩ := bnd_some hf
    refine mc_v (mc_V (As := [.int (x2)]) hC hK hA hX hG hS (kX4_evict l D cA A ad hc15) ykX4_evict wA_483 wA_484 wA_485 (hG.fix (by decide)) rfl rfl ⟨rfl, rfl, Nat.le_of_ble_eq_true rfl, Nat.le_of_ble_eq_true rfl⟩ rfl hl.1 rfl (Nat.le_of_ble_eq_true rfl) dX4_freed_229 ⟨Nat.le_of_ble_eq_true rfl, Nat.le_of_ble_eq_true rfl⟩) hS (fun H locs hG hS => ?_)
    refine lv_iload_n hx hb dX4_freed_232 rfl (lv_at hl 1 rfl) ?_
    exact mr_i hC hr hlocks hG hS hf (Nat.le_of_ble_eq_true rfl) (Nat.le_of_ble_eq_true rfl) dX4_freed_233
  have K159 : ∀ (n159 : Nat) (x1 : Int32) (x2 : Int32) (x3 : Int32) (σ : pw_S), fX4_freed_159 n159 x1 x2 x3 σ = some (r, σ') → mw_K p l e ({ frames := 4, cells := 0, slots := 0, locals := 95 }) s m args below meth c (MQ below (pw_Qi D cA shM 15 A ad r σ') args s 0 0 A) A D cA shM 15 ad 4 159 0 0 [(0, .ref (ad 0)), (1, .int (x1)), (2, .int (x2)), (3, .int (x3))] [] σ := by
    intro n159
    induction n159 with
    | zero => intro x1 x2 x3 σ hf; cases hf
    | succ n159 ih159 =>
      have K206 : ∀ (x1 : Int32) (x2 : Int32) (x3 : Int32) (σ : pw_S), fX4_freed_206 (fX4_freed_159 n159) x1 x2 x3 σ = some (r, σ') → mw_K p l e ({ frames := 4, cells := 0, slots := 0, locals := 95 }) s m args below meth c (MQ below (pw_Qi D cA shM 15 A ad r σ') args s 0 0 A) A D cA shM 15 ad 4 206 0 0 [(0, .ref (ad 0)), (1, .int (x1)), (2, .int (x2)), (3, .int (x3))] [] σ := by
        intro x1 x2 x3 σ hf H locs ls hG hS hl
        unfold fX4_freed_206 at hf
        refine lv_iinc (v := x3 + 1) (lv' := [(3, .int (x3 + 1)), (0, .ref (ad 0)), (1, .int (x1)), (2, .int (x2))]) hx hb dX4_freed_206 hl (k := 3) rfl rfl (by decide) rfl (fun ls hl => ?_)
        refine lv_goto (tgt := 159) hx hb dX4_freed_209 (by decide) ?_
        exact ih159 _ _ _ _ hf _ _ _ hG hS (lv_sub hl [1, 2, 3, 0] rfl)
      have K204 : ∀ (x1 : Int32) (x3 : Int32) (σ : pw_S), fX4_freed_204 (fX4_freed_159 n159) x1 x3 σ = some (r, σ') → mw_K p l e ({ frames := 4, cells := 0, slots := 0, locals := 95 }) s m args below meth c (MQ below (pw_Qi D cA shM 15 A ad r σ') args s 0 0 A) A D cA shM 15 ad 4 204 0 0 [(0, .ref (ad 0)), (1, .int (x1)), (3, .int (x3))] [] σ := by
        intro x1 x3 σ hf H locs ls hG hS hl
        unfold fX4_freed_204 at hf
        refine lv_iload_n hx hb dX4_freed_204 rfl (lv_at hl 2 rfl) ?_
        refine lv_istore_n (lv' := [(2, .int (x3)), (0, .ref (ad 0)), (1, .int (x1)), (3, .int (x3))]) hx hb dX4_freed_205 rfl hl (by decide) rfl (fun ls hl => ?_)
        exact K206 _ _ _ _ hf _ _ _ hG hS (lv_sub hl [1, 2, 0, 3] rfl)
      have K184 : ∀ (x1 : Int32) (x2 : Int32) (x3 : Int32) (σ : pw_S), fX4_freed_184 (fX4_freed_159 n159) x1 x2 x3 σ = some (r, σ') → mw_K p l e ({ frames := 4, cells := 0, slots := 0, locals := 95 }) s m args below meth c (MQ below (pw_Qi D cA shM 15 A ad r σ') args s 0 0 A) A D cA shM 15 ad 4 184 0 0 [(0, .ref (ad 0)), (1, .int (x1)), (2, .int (x2)), (3, .int (x3))] [] σ := by
        intro x1 x2 x3 σ hf H locs ls hG hS hl
        unfold fX4_freed_184 at hf
        refine lv_iload_n hx hb dX4_freed_184 rfl (lv_at hl 2 rfl) ?_
        refine lv_iconst (v := (-1)) hx hb dX4_freed_185 (by decide) ?_
        refine lv_icmp_eq (tgt := 204) hx hb dX4_freed_186 (by decide) (fun c16 => ?_) (fun c16 => ?_)
        · have hf := it_pos c16 hf
          exact K204 _ _ _ hf _ _ _ hG hS (lv_sub hl [0, 1, 3] rfl)
        · have hf := it_neg c16 hf
          refine lv_aload_n hx hb dX4_freed_189 rfl (lv_at hl 0 rfl) ?_
          refine mw_getl hx hb hts hown hK hG inlX4 rfl (hG.fix (by decide)) rfl 6 (by decide) 2 rfl wA_56 dX4_freed_190 ?_
          refine lv_iload_n hx hb dX4_freed_193 rfl (lv_at hl 3 rfl) ?_
          obtain ⟨h17, hf⟩ := ck_some hf
          refine mw_iald hx hb hK hG (hG.fix (by decide)) rfl (inb_in h17) dX4_freed_194 ?_
          refine lv_aload_n hx hb dX4_freed_195 rfl (lv_at hl 0 rfl) ?_
          refine mw_getl hx hb hts hown hK hG inlX4 rfl (hG.fix (by decide)) rfl 6 (by decide) 2 rfl wA_56 dX4_freed_196 ?_
          refine lv_iload_n hx hb dX4_freed_199 rfl (lv_at hl 2 rfl) ?_
          obtain ⟨h18, hf⟩ := ck_some hf
          refine mw_iald hx hb hK hG (hG.fix (by decide)) rfl (inb_in h18) dX4_freed_200 ?_
          refine lv_icmp_ge (tgt := 206) hx hb dX4_freed_201 (by decide) (fun c19 => ?_) (fun c19 => ?_)
          · have hf := it_pos c19 hf
            exact K206 _ _ _ _ hf _ _ _ hG hS (lv_sub hl [0, 1, 2, 3] rfl)
          · have hf := it_neg c19 hf
            exact K204 _ _ _ hf _ _ _ hG hS (lv_sub hl [0, 1, 3] rfl)
      intro x1 x2 x3 σ hf H locs ls hG hS hl
      have hf : fX4_freed_159_b (fX4_freed_159 n159) x1 x2 x3 σ = some (r, σ') := hf
      unfold fX4_freed_159_b at hf
      refine lv_iload_n hx hb dX4_freed_159 rfl (lv_at hl 3 rfl) ?_
      refine lv_aload_n hx hb dX4_freed_160 rfl (lv_at hl 0 rfl) ?_
      refine mw_geti hx hb hts hown hK hG inlX4 rfl (hG.fix (by decide)) rfl 3 (by decide) rfl wA_54 dX4_freed_161 ?_
      refine lv_icmp_ge (tgt := 212) hx hb dX4_freed_164 (by decide) (fun c20 => ?_) (fun c20 => ?_)
      · have hf := it_pos c20 hf
        refine lv_iload_n hx hb dX4_freed_212 rfl (lv_at hl 1 rfl) ?_
        refine lv_if_ne (tgt := 227) hx hb dX4_freed_213 (by decide) (fun c21 => ?_) (fun c21 => ?_)
        · have hf := it_neg c21 hf
          exact K227 _ _ hf _ _ _ hG hS (lv_sub hl [0, 2] rfl)
        · have hf := it_pos c21 hf
          refine lv_aload_n hx hb dX4_freed_216 rfl (lv_at hl 0 rfl) ?_
          refine lv_aload_n hx hb dX4_freed_217 rfl (lv_at hl 0 rfl) ?_
          refine mw_getl hx hb hts hown hK hG inlX4 rfl (hG.fix (by decide)) rfl 5 (by decide) 1 rfl wA_55 dX4_freed_218 ?_
          refine lv_iload_n hx hb dX4_freed_221 rfl (lv_at hl 2 rfl) ?_
          obtain ⟨h22, hf⟩ := ck_some hf
          refine mw_iald hx hb hK hG (hG.fix (by decide)) rfl (inb_in h22) dX4_freed_222 ?_
          obtain ⟨r23, σ24, hc25, hf⟩ := bnd_some hf
          refine mc_i (mc_V (As := [.int ((gi σ 1 (Int32.toNatClampNeg (x2))))]) hC hK hA hX hG hS (kX4_writeOut l D cA A ad hc25) ykX4_writeOut wA_487 wA_488 wA_489 (hG.fix (by decide)) rfl rfl ⟨rfl, rfl, Nat.le_of_ble_eq_true rfl, Nat.le_of_ble_eq_true rfl⟩ rfl hl.1 rfl (Nat.le_of_ble_eq_true rfl) dX4_freed_223 ⟨Nat.le_of_ble_eq_true rfl, Nat.le_of_ble_eq_true rfl⟩) hS (fun H locs hG hS => ?_)
          refine lv_pop hx hb dX4_freed_226 rfl ?_
          exact K227 _ _ hf _ _ _ hG hS (lv_sub hl [0, 2] rfl)
      · have hf := it_neg c20 hf
        refine lv_iload_n hx hb dX4_freed_167 rfl (lv_at hl 1 rfl) ?_
        refine lv_if_eq (tgt := 184) hx hb dX4_freed_168 (by decide) (fun c26 => ?_) (fun c26 => ?_)
        · have hf := it_pos c26 hf
          exact K184 _ _ _ _ hf _ _ _ hG hS (lv_sub hl [0, 1, 2, 3] rfl)
        · have hf := it_neg c26 hf
          refine lv_aload_n hx hb dX4_freed_171 rfl (lv_at hl 0 rfl) ?_
          refine lv_aload_n hx hb dX4_freed_172 rfl (lv_at hl 0 rfl) ?_
          refine mw_getl hx hb hts hown hK hG inlX4 rfl (hG.fix (by decide)) rfl 5 (by decide) 1 rfl wA_55 dX4_freed_173 ?_
          refine lv_iload_n hx hb dX4_freed_176 rfl (lv_at hl 3 rfl) ?_
          obtain ⟨h27, hf⟩ := ck_some hf
          refine mw_iald hx hb hK hG (hG.fix (by decide)) rfl (inb_in h27) dX4_freed_177 ?_
          obtain ⟨r28, σ29, hc30, hf⟩ := bnd_some hf
          refine mc_i (mc_V (As := [.int ((gi σ 1 (Int32.toNatClampNeg (x3))))]) hC hK hA hX hG hS (kX4_isDirty l D cA A ad hc30) ykX4_isDirty wA_467 wA_468 wA_469 (hG.fix (by decide)) rfl rfl ⟨rfl, rfl, Nat.le_of_ble_eq_true rfl, Nat.le_of_ble_eq_true rfl⟩ rfl hl.1 rfl (Nat.le_of_ble_eq_true rfl) dX4_freed_178 ⟨Nat.le_of_ble_eq_true rfl, Nat.le_of_ble_eq_true rfl⟩) hS (fun H locs hG hS => ?_)
          refine lv_if_ne (tgt := 206) hx hb dX4_freed_181 (by decide) (fun c31 => ?_) (fun c31 => ?_)
          · have hf := it_neg c31 hf
            exact K206 _ _ _ _ hf _ _ _ hG hS (lv_sub hl [0, 1, 2, 3] rfl)
          · have hf := it_pos c31 hf
            exact K184 _ _ _ _ hf _ _ _ hG hS (lv_sub hl [0, 1, 2, 3] rfl)
  have K120 : ∀ (n120 : Nat) (x1 : Int32) (x2 : Int32) (σ : pw_S), fX4_freed_120 n120 x1 x2 σ = some (r, σ') → mw_K p l e ({ frames := 4, cells := 0, slots := 0, locals := 95 }) s m args below meth c (MQ below (pw_Qi D cA shM 15 A ad r σ') args s 0 0 A) A D cA shM 15 ad 4 120 0 0 [(0, .ref (ad 0)), (1, .int (x1)), (2, .int (x2))] [] σ := by
    intro n120
    induction n120 with
    | zero => intro x1 x2 σ hf; cases hf
    | succ n120 ih120 =>
      have K147 : ∀ (x2 : Int32) (y0 : Int32) (y1 : Int32) (σ : pw_S), fX4_freed_147 (fX4_freed_120 n120) x2 y0 y1 σ = some (r, σ') → mw_K p l e ({ frames := 4, cells := 0, slots := 0, locals := 95 }) s m args below meth c (MQ below (pw_Qi D cA shM 15 A ad r σ') args s 0 0 A) A D cA shM 15 ad 4 147 0 0 [(0, .ref (ad 0)), (2, .int (x2))] [.int (y0), .int (y1)] σ := by
        intro x2 y0 y1 σ hf H locs ls hG hS hl
        unfold fX4_freed_147 at hf
        refine lv_ior hx hb dX4_freed_147 ?_
        refine lv_istore_n (lv' := [(1, .int ((y1 ||| y0))), (0, .ref (ad 0)), (2, .int (x2))]) hx hb dX4_freed_148 rfl hl (by decide) rfl (fun ls hl => ?_)
        refine lv_iinc (v := x2 + 1) (lv' := [(2, .int (x2 + 1)), (1, .int ((y1 ||| y0))), (0, .ref (ad 0))]) hx hb dX4_freed_149 hl (k := 2) rfl rfl (by decide) rfl (fun ls hl => ?_)
        refine lv_goto (tgt := 120) hx hb dX4_freed_152 (by decide) ?_
        exact ih120 _ _ _ hf _ _ _ hG hS (lv_sub hl [2, 1, 0] rfl)
      intro x1 x2 σ hf H locs ls hG hS hl
      have hf : fX4_freed_120_b (fX4_freed_120 n120) x1 x2 σ = some (r, σ') := hf
      unfold fX4_freed_120_b at hf
      refine lv_iload_n hx hb dX4_freed_120 rfl (lv_at hl 2 rfl) ?_
      refine lv_aload_n hx hb dX4_freed_121 rfl (lv_at hl 0 rfl) ?_
      refine mw_geti hx hb hts hown hK hG inlX4 rfl (hG.fix (by decide)) rfl 3 (by decide) rfl wA_54 dX4_freed_122 ?_
      refine lv_icmp_ge (tgt := 155) hx hb dX4_freed_125 (by decide) (fun c32 => ?_) (fun c32 => ?_)
      · have hf := it_pos c32 hf
        refine lv_iconst (v := (-1)) hx hb dX4_freed_155 (by decide) ?_
        refine lv_istore_n (lv' := [(2, .int ((-1))), (0, .ref (ad 0)), (1, .int (x1))]) hx hb dX4_freed_156 rfl hl (by decide) rfl (fun ls hl => ?_)
        refine lv_iconst (v := 0) hx hb dX4_freed_157 (by decide) ?_
        refine lv_istore_n (lv' := [(3, .int (0)), (2, .int ((-1))), (0, .ref (ad 0)), (1, .int (x1))]) hx hb dX4_freed_158 rfl hl (by decide) rfl (fun ls hl => ?_)
        exact K159 1000 _ _ _ _ hf _ _ _ hG hS (lv_sub hl [2, 3, 1, 0] rfl)
      · have hf := it_neg c32 hf
        refine lv_iload_n hx hb dX4_freed_128 rfl (lv_at hl 1 rfl) ?_
        refine lv_aload_n hx hb dX4_freed_129 rfl (lv_at hl 0 rfl) ?_
        refine lv_aload_n hx hb dX4_freed_130 rfl (lv_at hl 0 rfl) ?_
        refine mw_getl hx hb hts hown hK hG inlX4 rfl (hG.fix (by decide)) rfl 5 (by decide) 1 rfl wA_55 dX4_freed_131 ?_
        refine lv_iload_n hx hb dX4_freed_134 rfl (lv_at hl 2 rfl) ?_
        obtain ⟨h33, hf⟩ := ck_some hf
        refine mw_iald hx hb hK hG (hG.fix (by decide)) rfl (inb_in h33) dX4_freed_135 ?_
        obtain ⟨r34, σ35, hc36, hf⟩ := bnd_some hf
        refine mc_i (mc_V (As := [.int ((gi σ 1 (Int32.toNatClampNeg (x2))))]) hC hK hA hX hG hS (kX4_isDirty l D cA A ad hc36) ykX4_isDirty wA_467 wA_468 wA_469 (hG.fix (by decide)) rfl rfl ⟨rfl, rfl, Nat.le_of_ble_eq_true rfl, Nat.le_of_ble_eq_true rfl⟩ rfl hl.1 rfl (Nat.le_of_ble_eq_true rfl) dX4_freed_136 ⟨Nat.le_of_ble_eq_true rfl, Nat.le_of_ble_eq_true rfl⟩) hS (fun H locs hG hS => ?_)
        refine lv_if_ne (tgt := 146) hx hb dX4_freed_139 (by decide) (fun c37 => ?_) (fun c37 => ?_)
        · have hf := it_neg c37 hf
          refine lv_iconst (v := 0) hx hb dX4_freed_146 (by decide) ?_
          exact K147 _ _ _ _ hf _ _ _ hG hS (lv_sub hl [0, 2] rfl)
        · have hf := it_pos c37 hf
          refine lv_iconst (v := 1) hx hb dX4_freed_142 (by decide) ?_
          refine lv_goto (tgt := 147) hx hb dX4_freed_143 (by decide) ?_
          exact K147 _ _ _ _ hf _ _ _ hG hS (lv_sub hl [0, 2] rfl)
  have K2 : ∀ (n2 : Nat) (x1 : Int32) (σ : pw_S), fX4_freed_2 n2 x1 σ = some (r, σ') → mw_K p l e ({ frames := 4, cells := 0, slots := 0, locals := 95 }) s m args below meth c (MQ below (pw_Qi D cA shM 15 A ad r σ') args s 0 0 A) A D cA shM 15 ad 4 2 0 0 [(0, .ref (ad 0)), (1, .int (x1))] [] σ := by
    intro n2
    induction n2 with
    | zero => intro x1 σ hf; cases hf
    | succ n2 ih2 =>
      have K95 : ∀ (x1 : Int32) (σ : pw_S), fX4_freed_95 (fX4_freed_2 n2) x1 σ = some (r, σ') → mw_K p l e ({ frames := 4, cells := 0, slots := 0, locals := 95 }) s m args below meth c (MQ below (pw_Qi D cA shM 15 A ad r σ') args s 0 0 A) A D cA shM 15 ad 4 95 0 0 [(0, .ref (ad 0)), (1, .int (x1))] [] σ := by
        intro x1 σ hf H locs ls hG hS hl
        unfold fX4_freed_95 at hf
        refine lv_aload_n hx hb dX4_freed_95 rfl (lv_at hl 0 rfl) ?_
        refine lv_aload_n hx hb dX4_freed_96 rfl (lv_at hl 0 rfl) ?_
        refine mw_geti hx hb hts hown hK hG inlX4 rfl (hG.fix (by decide)) rfl 4 (by decide) rfl wA_94 dX4_freed_97 ?_
        refine lv_iconst (v := 1) hx hb dX4_freed_100 (by decide) ?_
        refine lv_iadd hx hb dX4_freed_101 ?_
        refine lv_aload_n hx hb dX4_freed_102 rfl (lv_at hl 0 rfl) ?_
        refine mw_geti hx hb hts hown hK hG inlX4 rfl (hG.fix (by decide)) rfl 3 (by decide) rfl wA_54 dX4_freed_103 ?_
        obtain ⟨h38, hf⟩ := ck_some hf
        refine lv_irem hx hb dX4_freed_106 (nz_ne h38) ?_
        refine mw_puti hx hb hts hown hK hG hS inlX4 tyX4 tyX4_ok nmX4 rfl (hG.fix (by decide)) rfl 4 (by decide) rfl rfl rfl rfl wA_94 dX4_freed_107 (fun H locs hG hS => ?_)
        obtain ⟨σ39, e40, hf⟩ := ld_some hf
        rw [← e40] at hG
        clear e40
        refine lv_iinc (v := x1 + 1) (lv' := [(1, .int (x1 + 1)), (0, .ref (ad 0))]) hx hb dX4_freed_110 hl (k := 1) rfl rfl (by decide) rfl (fun ls hl => ?_)
        refine lv_goto (tgt := 2) hx hb dX4_freed_113 (by decide) ?_
        exact ih2 _ _ hf _ _ _ hG hS (lv_sub hl [1, 0] rfl)
      intro x1 σ hf H locs ls hG hS hl
      have hf : fX4_freed_2_b (fX4_freed_2 n2) x1 σ = some (r, σ') := hf
      unfold fX4_freed_2_b at hf
      refine lv_iload_n hx hb dX4_freed_2 rfl (lv_at hl 1 rfl) ?_
      refine lv_iconst (v := 2) hx hb dX4_freed_3 (by decide) ?_
      refine lv_aload_n hx hb dX4_freed_4 rfl (lv_at hl 0 rfl) ?_
      refine mw_geti hx hb hts hown hK hG inlX4 rfl (hG.fix (by decide)) rfl 3 (by decide) rfl wA_54 dX4_freed_5 ?_
      refine lv_imul hx hb dX4_freed_8 ?_
      refine lv_icmp_ge (tgt := 116) hx hb dX4_freed_9 (by decide) (fun c41 => ?_) (fun c41 => ?_)
      · have hf := it_pos c41 hf
        refine lv_iconst (v := 0) hx hb dX4_freed_116 (by decide) ?_
        refine lv_istore_n (lv' := [(1, .int (0)), (0, .ref (ad 0))]) hx hb dX4_freed_117 rfl hl (by decide) rfl (fun ls hl => ?_)
        refine lv_iconst (v := 0) hx hb dX4_freed_118 (by decide) ?_
        refine lv_istore_n (lv' := [(2, .int (0)), (1, .int (0)), (0, .ref (ad 0))]) hx hb dX4_freed_119 rfl hl (by decide) rfl (fun ls hl => ?_)
        exact K120 1000 _ _ _ hf _ _ _ hG hS (lv_sub hl [2, 1, 0] rfl)
      · have hf := it_neg c41 hf
        refine lv_aload_n hx hb dX4_freed_12 rfl (lv_at hl 0 rfl) ?_
        refine mw_geti hx hb hts hown hK hG inlX4 rfl (hG.fix (by decide)) rfl 4 (by decide) rfl wA_94 dX4_freed_13 ?_
        refine lv_istore_n (lv' := [(2, .int ((gi σ 0 4))), (0, .ref (ad 0)), (1, .int (x1))]) hx hb dX4_freed_16 rfl hl (by decide) rfl (fun ls hl => ?_)
        refine lv_aload_n hx hb dX4_freed_17 rfl (lv_at hl 1 rfl) ?_
        refine mw_getl hx hb hts hown hK hG inlX4 rfl (hG.fix (by decide)) rfl 7 (by decide) 3 rfl wA_57 dX4_freed_18 ?_
        refine lv_iload_n hx hb dX4_freed_21 rfl (lv_at hl 0 rfl) ?_
        obtain ⟨h42, hf⟩ := ck_some hf
        refine mw_zald hx hb hK hG (hG.fix (by decide)) rfl (inb_in h42) dX4_freed_22 ?_
        refine lv_if_eq (tgt := 46) hx hb dX4_freed_23 (by decide) (fun c43 => ?_) (fun c43 => ?_)
        · have hf := it_pos c43 hf
          refine lv_aload_n hx hb dX4_freed_46 rfl (lv_at hl 1 rfl) ?_
          refine mw_geti hx hb hts hown hK hG inlX4 rfl (hG.fix (by decide)) rfl 1 (by decide) rfl wA_454 dX4_freed_47 ?_
          refine lv_aload_n hx hb dX4_freed_50 rfl (lv_at hl 1 rfl) ?_
          refine mw_getl hx hb hts hown hK hG inlX4 rfl (hG.fix (by decide)) rfl 6 (by decide) 2 rfl wA_56 dX4_freed_51 ?_
          refine lv_iload_n hx hb dX4_freed_54 rfl (lv_at hl 0 rfl) ?_
          obtain ⟨h44, hf⟩ := ck_some hf
          refine mw_iald hx hb hK hG (hG.fix (by decide)) rfl (inb_in h44) dX4_freed_55 ?_
          refine lv_isub hx hb dX4_freed_56 ?_
          refine lv_aload_n hx hb dX4_freed_57 rfl (lv_at hl 1 rfl) ?_
          refine mw_geti hx hb hts hown hK hG inlX4 rfl (hG.fix (by decide)) rfl 2 (by decide) rfl wA_53 dX4_freed_58 ?_
          refine lv_icmp_le (tgt := 95) hx hb dX4_freed_61 (by decide) (fun c45 => ?_) (fun c45 => ?_)
          · have hf := it_pos c45 hf
            exact K95 _ _ hf _ _ _ hG hS (lv_sub hl [1, 2] rfl)
          · have hf := it_neg c45 hf
            refine lv_aload_n hx hb dX4_freed_64 rfl (lv_at hl 1 rfl) ?_
            refine lv_aload_n hx hb dX4_freed_65 rfl (lv_at hl 1 rfl) ?_
            refine mw_getl hx hb hts hown hK hG inlX4 rfl (hG.fix (by decide)) rfl 5 (by decide) 1 rfl wA_55 dX4_freed_66 ?_
            refine lv_iload_n hx hb dX4_freed_69 rfl (lv_at hl 0 rfl) ?_
            obtain ⟨h46, hf⟩ := ck_some hf
            refine mw_iald hx hb hK hG (hG.fix (by decide)) rfl (inb_in h46) dX4_freed_70 ?_
            obtain ⟨r47, σ48, hc49, hf⟩ := bnd_some hf
            refine mc_i (mc_V (As := [.int ((gi σ 1 (Int32.toNatClampNeg ((gi σ 0 4)))))]) hC hK hA hX hG hS (kX4_isDirty l D cA A ad hc49) ykX4_isDirty wA_467 wA_468 wA_469 (hG.fix (by decide)) rfl rfl ⟨rfl, rfl, Nat.le_of_ble_eq_true rfl, Nat.le_of_ble_eq_true rfl⟩ rfl hl.1 rfl (Nat.le_of_ble_eq_true rfl) dX4_freed_71 ⟨Nat.le_of_ble_eq_true rfl, Nat.le_of_ble_eq_true rfl⟩) hS (fun H locs hG hS => ?_)
            refine lv_if_ne (tgt := 84) hx hb dX4_freed_74 (by decide) (fun c50 => ?_) (fun c50 => ?_)
            · have hf := it_neg c50 hf
              refine lv_aload_n hx hb dX4_freed_84 rfl (lv_at hl 1 rfl) ?_
              refine lv_aload_n hx hb dX4_freed_85 rfl (lv_at hl 1 rfl) ?_
              refine mw_getl hx hb hts hown hK hG inlX4 rfl (hG.fix (by decide)) rfl 5 (by decide) 1 rfl wA_55 dX4_freed_86 ?_
              refine lv_iload_n hx hb dX4_freed_89 rfl (lv_at hl 0 rfl) ?_
              obtain ⟨h51, hf⟩ := ck_some hf
              refine mw_iald hx hb hK hG (hG.fix (by decide)) rfl (inb_in h51) dX4_freed_90 ?_
              obtain ⟨r52, σ53, hc54, hf⟩ := bnd_some hf
              refine mc_i (mc_V (As := [.int ((gi σ48 1 (Int32.toNatClampNeg ((gi σ 0 4)))))]) hC hK hA hX hG hS (kX4_writeOut l D cA A ad hc54) ykX4_writeOut wA_487 wA_488 wA_489 (hG.fix (by decide)) rfl rfl ⟨rfl, rfl, Nat.le_of_ble_eq_true rfl, Nat.le_of_ble_eq_true rfl⟩ rfl hl.1 rfl (Nat.le_of_ble_eq_true rfl) dX4_freed_91 ⟨Nat.le_of_ble_eq_true rfl, Nat.le_of_ble_eq_true rfl⟩) hS (fun H locs hG hS => ?_)
              refine lv_pop hx hb dX4_freed_94 rfl ?_
              exact K95 _ _ hf _ _ _ hG hS (lv_sub hl [1, 2] rfl)
            · have hf := it_pos c50 hf
              refine lv_aload_n hx hb dX4_freed_77 rfl (lv_at hl 1 rfl) ?_
              refine lv_iload_n hx hb dX4_freed_78 rfl (lv_at hl 0 rfl) ?_
              obtain ⟨r55, σ56, hc57, hf⟩ := bnd_some hf
              refine mc_v (mc_V (As := [.int ((gi σ 0 4))]) hC hK hA hX hG hS (kX4_evict l D cA A ad hc57) ykX4_evict wA_483 wA_484 wA_485 (hG.fix (by decide)) rfl rfl ⟨rfl, rfl, Nat.le_of_ble_eq_true rfl, Nat.le_of_ble_eq_true rfl⟩ rfl hl.1 rfl (Nat.le_of_ble_eq_true rfl) dX4_freed_79 ⟨Nat.le_of_ble_eq_true rfl, Nat.le_of_ble_eq_true rfl⟩) hS (fun H locs hG hS => ?_)
              refine lv_iload_n hx hb dX4_freed_82 rfl (lv_at hl 0 rfl) ?_
              exact mr_i hC hr hlocks hG hS hf (Nat.le_of_ble_eq_true rfl) (Nat.le_of_ble_eq_true rfl) dX4_freed_83
        · have hf := it_neg c43 hf
          refine lv_aload_n hx hb dX4_freed_26 rfl (lv_at hl 1 rfl) ?_
          refine mw_getl hx hb hts hown hK hG inlX4 rfl (hG.fix (by decide)) rfl 7 (by decide) 3 rfl wA_57 dX4_freed_27 ?_
          refine lv_iload_n hx hb dX4_freed_30 rfl (lv_at hl 0 rfl) ?_
          refine lv_iconst (v := 0) hx hb dX4_freed_31 (by decide) ?_
          obtain ⟨h58, hf⟩ := ck_some hf
          refine mw_zast hx hb hK hG hS (hG.fix (by decide)) rfl rfl (inb_in h58) dX4_freed_32 (fun H locs hG hS => ?_)
          obtain ⟨σ59, e60, hf⟩ := ld_some hf
          rw [← e60] at hG
          clear e60
          refine lv_aload_n hx hb dX4_freed_33 rfl (lv_at hl 1 rfl) ?_
          refine mw_getl hx hb hts hown hK hG inlX4 rfl (hG.fix (by decide)) rfl 6 (by decide) 2 rfl wA_56 dX4_freed_34 ?_
          refine lv_iload_n hx hb dX4_freed_37 rfl (lv_at hl 0 rfl) ?_
          refine lv_aload_n hx hb dX4_freed_38 rfl (lv_at hl 1 rfl) ?_
          refine mw_geti hx hb hts hown hK hG inlX4 rfl (hG.fix (by decide)) rfl 1 (by decide) rfl wA_454 dX4_freed_39 ?_
          obtain ⟨h61, hf⟩ := ck_some hf
          refine mw_iast hx hb hK hG hS (hG.fix (by decide)) rfl (inb_in h61) dX4_freed_42 (fun H locs hG hS => ?_)
          obtain ⟨σ62, e63, hf⟩ := ld_some hf
          rw [← e63] at hG
          clear e63
          refine lv_goto (tgt := 95) hx hb dX4_freed_43 (by decide) ?_
          exact K95 _ _ hf _ _ _ hG hS (lv_sub hl [1, 2] rfl)
  have hl : lv_has ls 4 [(0, .ref (ad 0))] := hl
  unfold fX4_freed at hf
  refine lv_iconst (v := 0) hx hb dX4_freed_0 (by decide) ?_
  refine lv_istore_n (lv' := [(1, .int (0)), (0, .ref (ad 0))]) hx hb dX4_freed_1 rfl hl (by decide) rfl (fun ls hl => ?_)
  exact K2 1000 _ _ hf _ _ _ hG hS (lv_sub hl [1, 0] rfl)
def fX4_take_16 (x1 : Int32) (x2 : Int32) (x3 : Int32) (σ : pw_S) : Option (Unit × pw_S) := ck (inb (x3) (12)) (ld (si σ 1 (Int32.toNatClampNeg (x3)) (x1)) (fun σ3 => ck (inb (x3) (12)) (ld (si σ3 2 (Int32.toNatClampNeg (x3)) ((gi σ3 0 1))) (fun σ6 => ck (inb (x3) (12)) (ld (si σ6 3 (Int32.toNatClampNeg (x3)) (0)) (fun σ9 => ck (inb (x2) (6)) (ck (inb (x2) (6)) (ld (si σ9 13 (Int32.toNatClampNeg (x2)) (((gi σ9 13 (Int32.toNatClampNeg (x2))) + 1))) (fun σ13 => some ((), σ13))))))))))
def fX4_take (a1 : Int32) (a2 : Int32) (σ : pw_S) : Option (Unit × pw_S) := bnd (fX4_frameWith ((-1)) σ) (fun r15 σ16 => (if r15 = (-1) then bnd (fX4_freed σ16) (fun r19 σ20 => fX4_take_16 a1 a2 r19 σ20) else fX4_take_16 a1 a2 r15 σ16))
set_option maxHeartbeats 4000000 in
set_option maxRecDepth 100000 in
theorem kX4_take (l : Launch) (D : va_G) (cA : Nat → ClassId) (A : Nat → Prop) (ad : Nat → Nat) {σ σ' : pw_S} {r : Unit} {a1 : Int32} {a2 : Int32} (hf : fX4_take a1 a2 σ = some (r, σ')) : Met l yX4_take (wA yX4_take cX4_take 4 none) ({ frames := 5, cells := 0, slots := 0, locals := 118 }) (pw_Pc D cA shM 15 A ad σ [.ref (ad 0), .int (a1), .int (a2)]) (pw_Qv D cA shM 15 A ad r σ') 0 0 A := by
  refine mw_enter (own := RX4) (by decide) rfl (Nat.le_of_ble_eq_true rfl) ?_
  intro p e s m args below meth c ls hC hr hlocks hK hA hX hG hS hl
  obtain ⟨hx, hb, hml, hown, hts⟩ := id hC
  have K16 : ∀ (x1 : Int32) (x2 : Int32) (x3 : Int32) (σ : pw_S), fX4_take_16 x1 x2 x3 σ = some (r, σ') → mw_K p l e ({ frames := 5, cells := 0, slots := 0, locals := 118 }) s m args below meth c (MQ below (pw_Qv D cA shM 15 A ad r σ') args s 0 0 A) A D cA shM 15 ad 4 16 0 0 [(0, .ref (ad 0)), (1, .int (x1)), (2, .int (x2)), (3, .int (x3))] [] σ := by
    intro x1 x2 x3 σ hf H locs ls hG hS hl
    unfold fX4_take_16 at hf
    refine lv_aload_n hx hb dX4_take_16 rfl (lv_at hl 0 rfl) ?_
    refine mw_getl hx hb hts hown hK hG inlX4 rfl (hG.fix (by decide)) rfl 5 (by decide) 1 rfl wA_55 dX4_take_17 ?_
    refine lv_iload_n hx hb dX4_take_20 rfl (lv_at hl 3 rfl) ?_
    refine lv_iload_n hx hb dX4_take_21 rfl (lv_at hl 1 rfl) ?_
    obtain ⟨h2, hf⟩ := ck_some hf
    refine mw_iast hx hb hK hG hS (hG.fix (by decide)) rfl (inb_in h2) dX4_take_22 (fun H locs hG hS => ?_)
    obtain ⟨σ3, e4, hf⟩ := ld_some hf
    rw [← e4] at hG
    clear e4
    refine lv_aload_n hx hb dX4_take_23 rfl (lv_at hl 0 rfl) ?_
    refine mw_getl hx hb hts hown hK hG inlX4 rfl (hG.fix (by decide)) rfl 6 (by decide) 2 rfl wA_56 dX4_take_24 ?_
    refine lv_iload_n hx hb dX4_take_27 rfl (lv_at hl 3 rfl) ?_
    refine lv_aload_n hx hb dX4_take_28 rfl (lv_at hl 0 rfl) ?_
    refine mw_geti hx hb hts hown hK hG inlX4 rfl (hG.fix (by decide)) rfl 1 (by decide) rfl wA_454 dX4_take_29 ?_
    obtain ⟨h5, hf⟩ := ck_some hf
    refine mw_iast hx hb hK hG hS (hG.fix (by decide)) rfl (inb_in h5) dX4_take_32 (fun H locs hG hS => ?_)
    obtain ⟨σ6, e7, hf⟩ := ld_some hf
    rw [← e7] at hG
    clear e7
    refine lv_aload_n hx hb dX4_take_33 rfl (lv_at hl 0 rfl) ?_
    refine mw_getl hx hb hts hown hK hG inlX4 rfl (hG.fix (by decide)) rfl 7 (by decide) 3 rfl wA_57 dX4_take_34 ?_
    refine lv_iload_n hx hb dX4_take_37 rfl (lv_at hl 3 rfl) ?_
    refine lv_iconst (v := 0) hx hb dX4_take_38 (by decide) ?_
    obtain ⟨h8, hf⟩ := ck_some hf
    refine mw_zast hx hb hK hG hS (hG.fix (by decide)) rfl rfl (inb_in h8) dX4_take_39 (fun H locs hG hS => ?_)
    obtain ⟨σ9, e10, hf⟩ := ld_some hf
    rw [← e10] at hG
    clear e10
    refine lv_aload_n hx hb dX4_take_40 rfl (lv_at hl 0 rfl) ?_
    refine mw_getl hx hb hts hown hK hG inlX4 rfl (hG.fix (by decide)) rfl 19 (by decide) 13 rfl wA_67 dX4_take_41 ?_
    refine lv_iload_n hx hb dX4_take_44 rfl (lv_at hl 2 rfl) ?_
    refine lv_dup2_11 hx hb dX4_take_45 rfl rfl ?_
    obtain ⟨h11, hf⟩ := ck_some hf
    refine mw_iald hx hb hK hG (hG.fix (by decide)) rfl (inb_in h11) dX4_take_46 ?_
    refine lv_iconst (v := 1) hx hb dX4_take_47 (by decide) ?_
    refine lv_iadd hx hb dX4_take_48 ?_
    obtain ⟨h12, hf⟩ := ck_some hf
    refine mw_iast hx hb hK hG hS (hG.fix (by decide)) rfl (inb_in h12) dX4_take_49 (fun H locs hG hS => ?_)
    obtain ⟨σ13, e14, hf⟩ := ld_some hf
    rw [← e14] at hG
    clear e14
    exact mr_v hC hr hlocks hG hS hf (Nat.le_of_ble_eq_true rfl) (Nat.le_of_ble_eq_true rfl) dX4_take_50
  have hl : lv_has ls 4 [(0, .ref (ad 0)), (1, .int (a1)), (2, .int (a2))] := hl
  unfold fX4_take at hf
  refine lv_aload_n hx hb dX4_take_0 rfl (lv_at hl 0 rfl) ?_
  refine lv_iconst (v := (-1)) hx hb dX4_take_1 (by decide) ?_
  obtain ⟨r15, σ16, hc17, hf⟩ := bnd_some hf
  refine mc_i (mc_V (As := [.int ((-1))]) hC hK hA hX hG hS (kX4_frameWith l D cA A ad hc17) ykX4_frameWith wA_227 wA_228 wA_229 (hG.fix (by decide)) rfl rfl ⟨rfl, rfl, Nat.le_of_ble_eq_true rfl, Nat.le_of_ble_eq_true rfl⟩ rfl hl.1 rfl (Nat.le_of_ble_eq_true rfl) dX4_take_2 ⟨Nat.le_of_ble_eq_true rfl, Nat.le_of_ble_eq_true rfl⟩) hS (fun H locs hG hS => ?_)
  refine lv_istore_n (lv' := [(3, .int (r15)), (0, .ref (ad 0)), (1, .int (a1)), (2, .int (a2))]) hx hb dX4_take_5 rfl hl (by decide) rfl (fun ls hl => ?_)
  refine lv_iload_n hx hb dX4_take_6 rfl (lv_at hl 0 rfl) ?_
  refine lv_iconst (v := (-1)) hx hb dX4_take_7 (by decide) ?_
  refine lv_icmp_ne (tgt := 16) hx hb dX4_take_8 (by decide) (fun c18 => ?_) (fun c18 => ?_)
  · have hf := it_neg c18 hf
    exact K16 _ _ _ _ hf _ _ _ hG hS (lv_sub hl [1, 2, 3, 0] rfl)
  · have hf := it_pos c18 hf
    refine lv_aload_n hx hb dX4_take_11 rfl (lv_at hl 1 rfl) ?_
    obtain ⟨r19, σ20, hc21, hf⟩ := bnd_some hf
    refine mc_i (mc_V (As := []) hC hK hA hX hG hS (kX4_freed l D cA A ad hc21) ykX4_freed wA_479 wA_480 wA_481 (hG.fix (by decide)) rfl rfl ⟨rfl, rfl, Nat.le_of_ble_eq_true rfl, Nat.le_of_ble_eq_true rfl⟩ rfl hl.1 rfl (Nat.le_of_ble_eq_true rfl) dX4_take_12 ⟨Nat.le_of_ble_eq_true rfl, Nat.le_of_ble_eq_true rfl⟩) hS (fun H locs hG hS => ?_)
    refine lv_istore_n (lv' := [(3, .int (r19)), (0, .ref (ad 0)), (1, .int (a1)), (2, .int (a2))]) hx hb dX4_take_15 rfl hl (by decide) rfl (fun ls hl => ?_)
    exact K16 _ _ _ _ hf _ _ _ hG hS (lv_sub hl [1, 2, 3, 0] rfl)
def fX4_bring_99 (σ : pw_S) : Option (Unit × pw_S) := some ((), σ)
def fX4_bring_93 (bk33 : Int32 → Int32 → pw_S → Option (Unit × pw_S)) (x2 : Int32) (x3 : Int32) (σ : pw_S) : Option (Unit × pw_S) := bk33 x2 (x3 + 1) σ
def fX4_bring_33_b (bk33 : Int32 → Int32 → pw_S → Option (Unit × pw_S)) (x2 : Int32) (x3 : Int32) (σ : pw_S) : Option (Unit × pw_S) := (if 3 < x3 then fX4_bring_99 σ else (if x2 = (-1) then fX4_bring_99 σ else (if 24 ≤ (x2 + x3) then fX4_bring_99 σ else ck (inb ((x2 + x3)) (24)) ((if (gi σ 4 (Int32.toNatClampNeg ((x2 + x3)))) = (-1) then fX4_bring_93 bk33 x2 x3 σ else bnd (fX4_frameWith ((gi σ 4 (Int32.toNatClampNeg ((x2 + x3))))) σ) (fun r14 σ15 => (if r14 = (-1) then bnd (fX4_frameWith ((-1)) σ15) (fun r18 σ19 => (if r18 = (-1) then fX4_bring_93 bk33 x2 x3 σ19 else bnd (fX4_take ((gi σ 4 (Int32.toNatClampNeg ((x2 + x3))))) 3 σ19) (fun r22 σ23 => fX4_bring_93 bk33 x2 x3 σ23))) else fX4_bring_93 bk33 x2 x3 σ15)))))))
def fX4_bring_33 : Nat → Int32 → Int32 → pw_S → Option (Unit × pw_S)
  | 0, _, _, _ => none
  | n + 1, x2, x3, σ => fX4_bring_33_b (fX4_bring_33 n) x2 x3 σ
def fX4_bring_28 (x2 : Int32) (y0 : Int32) (y1 : Int32) (σ : pw_S) : Option (Unit × pw_S) := bnd (fX4_take y1 y0 σ) (fun r25 σ26 => fX4_bring_33 1000 x2 1 σ26)
def fX4_bring (a1 : Int32) (σ : pw_S) : Option (Unit × pw_S) := bnd (fX4_frameWith a1 σ) (fun r28 σ29 => (if r28 = (-1) then bnd (fX4_slotWith a1 σ29) (fun r32 σ33 => (if r32 = (-1) then fX4_bring_28 r32 0 a1 σ33 else fX4_bring_28 r32 1 a1 σ33)) else some ((), σ29)))
set_option maxHeartbeats 4000000 in
set_option maxRecDepth 100000 in
theorem kX4_bring (l : Launch) (D : va_G) (cA : Nat → ClassId) (A : Nat → Prop) (ad : Nat → Nat) {σ σ' : pw_S} {r : Unit} {a1 : Int32} (hf : fX4_bring a1 σ = some (r, σ')) : Met l yX4_bring (wA yX4_bring cX4_bring 5 none) ({ frames := 6, cells := 0, slots := 0, locals := 141 }) (pw_Pc D cA shM 15 A ad σ [.ref (ad 0), .int (a1)]) (pw_Qv D cA shM 15 A ad r σ') 0 0 A := by
  refine mw_enter (own := RX4) (by decide) rfl (Nat.le_of_ble_eq_true rfl) ?_
  intro p e s m args below meth c ls hC hr hlocks hK hA hX hG hS hl
  obtain ⟨hx, hb, hml, hown, hts⟩ := id hC
  have K99 : ∀ (σ : pw_S), fX4_bring_99  σ = some (r, σ') → mw_K p l e ({ frames := 6, cells := 0, slots := 0, locals := 141 }) s m args below meth c (MQ below (pw_Qv D cA shM 15 A ad r σ') args s 0 0 A) A D cA shM 15 ad 5 99 0 0 [] [] σ := by
    intro  σ hf H locs ls hG hS hl
    unfold fX4_bring_99 at hf
    exact mr_v hC hr hlocks hG hS hf (Nat.le_of_ble_eq_true rfl) (Nat.le_of_ble_eq_true rfl) dX4_bring_99
  have K33 : ∀ (n33 : Nat) (x2 : Int32) (x3 : Int32) (σ : pw_S), fX4_bring_33 n33 x2 x3 σ = some (r, σ') → mw_K p l e ({ frames := 6, cells := 0, slots := 0, locals := 141 }) s m args below meth c (MQ below (pw_Qv D cA shM 15 A ad r σ') args s 0 0 A) A D cA shM 15 ad 5 33 0 0 [(0, .ref (ad 0)), (2, .int (x2)), (3, .int (x3))] [] σ := by
    intro n33
    induction n33 with
    | zero => intro x2 x3 σ hf; cases hf
    | succ n33 ih33 =>
      have K93 : ∀ (x2 : Int32) (x3 : Int32) (σ : pw_S), fX4_bring_93 (fX4_bring_33 n33) x2 x3 σ = some (r, σ') → mw_K p l e ({ frames := 6, cells := 0, slots := 0, locals := 141 }) s m args below meth c (MQ below (pw_Qv D cA shM 15 A ad r σ') args s 0 0 A) A D cA shM 15 ad 5 93 0 0 [(0, .ref (ad 0)), (2, .int (x2)), (3, .int (x3))] [] σ := by
        intro x2 x3 σ hf H locs ls hG hS hl
        unfold fX4_bring_93 at hf
        refine lv_iinc (v := x3 + 1) (lv' := [(3, .int (x3 + 1)), (0, .ref (ad 0)), (2, .int (x2))]) hx hb dX4_bring_93 hl (k := 2) rfl rfl (by decide) rfl (fun ls hl => ?_)
        refine lv_goto (tgt := 33) hx hb dX4_bring_96 (by decide) ?_
        exact ih33 _ _ _ hf _ _ _ hG hS (lv_sub hl [1, 2, 0] rfl)
      intro x2 x3 σ hf H locs ls hG hS hl
      have hf : fX4_bring_33_b (fX4_bring_33 n33) x2 x3 σ = some (r, σ') := hf
      unfold fX4_bring_33_b at hf
      refine lv_iload_n hx hb dX4_bring_33 rfl (lv_at hl 2 rfl) ?_
      refine lv_iconst (v := 3) hx hb dX4_bring_34 (by decide) ?_
      refine lv_icmp_gt (tgt := 99) hx hb dX4_bring_35 (by decide) (fun c9 => ?_) (fun c9 => ?_)
      · have hf := it_pos c9 hf
        exact K99 _ hf _ _ _ hG hS (lv_sub hl [] rfl)
      · have hf := it_neg c9 hf
        refine lv_iload_n hx hb dX4_bring_38 rfl (lv_at hl 1 rfl) ?_
        refine lv_iconst (v := (-1)) hx hb dX4_bring_39 (by decide) ?_
        refine lv_icmp_eq (tgt := 99) hx hb dX4_bring_40 (by decide) (fun c10 => ?_) (fun c10 => ?_)
        · have hf := it_pos c10 hf
          exact K99 _ hf _ _ _ hG hS (lv_sub hl [] rfl)
        · have hf := it_neg c10 hf
          refine lv_iload_n hx hb dX4_bring_43 rfl (lv_at hl 1 rfl) ?_
          refine lv_iload_n hx hb dX4_bring_44 rfl (lv_at hl 2 rfl) ?_
          refine lv_iadd hx hb dX4_bring_45 ?_
          refine lv_bipush (v := 24) hx hb dX4_bring_46 (by decide) ?_
          refine lv_icmp_ge (tgt := 99) hx hb dX4_bring_48 (by decide) (fun c11 => ?_) (fun c11 => ?_)
          · have hf := it_pos c11 hf
            exact K99 _ hf _ _ _ hG hS (lv_sub hl [] rfl)
          · have hf := it_neg c11 hf
            refine lv_aload_n hx hb dX4_bring_51 rfl (lv_at hl 0 rfl) ?_
            refine mw_getl hx hb hts hown hK hG inlX4 rfl (hG.fix (by decide)) rfl 8 (by decide) 4 rfl wA_58 dX4_bring_52 ?_
            refine lv_iload_n hx hb dX4_bring_55 rfl (lv_at hl 1 rfl) ?_
            refine lv_iload_n hx hb dX4_bring_56 rfl (lv_at hl 2 rfl) ?_
            refine lv_iadd hx hb dX4_bring_57 ?_
            obtain ⟨h12, hf⟩ := ck_some hf
            refine mw_iald hx hb hK hG (hG.fix (by decide)) rfl (inb_in h12) dX4_bring_58 ?_
            refine lv_istore (lv' := [(4, .int ((gi σ 4 (Int32.toNatClampNeg ((x2 + x3)))))), (0, .ref (ad 0)), (2, .int (x2)), (3, .int (x3))]) hx hb dX4_bring_59 hl (by decide) rfl (fun ls hl => ?_)
            refine lv_iload hx hb dX4_bring_61 (lv_at hl 0 rfl) ?_
            refine lv_iconst (v := (-1)) hx hb dX4_bring_63 (by decide) ?_
            refine lv_icmp_eq (tgt := 93) hx hb dX4_bring_64 (by decide) (fun c13 => ?_) (fun c13 => ?_)
            · have hf := it_pos c13 hf
              exact K93 _ _ _ hf _ _ _ hG hS (lv_sub hl [1, 2, 3] rfl)
            · have hf := it_neg c13 hf
              refine lv_aload_n hx hb dX4_bring_67 rfl (lv_at hl 1 rfl) ?_
              refine lv_iload hx hb dX4_bring_68 (lv_at hl 0 rfl) ?_
              obtain ⟨r14, σ15, hc16, hf⟩ := bnd_some hf
              refine mc_i (mc_V (As := [.int ((gi σ 4 (Int32.toNatClampNeg ((x2 + x3)))))]) hC hK hA hX hG hS (kX4_frameWith l D cA A ad hc16) ykX4_frameWith wA_227 wA_228 wA_229 (hG.fix (by decide)) rfl rfl ⟨rfl, rfl, Nat.le_of_ble_eq_true rfl, Nat.le_of_ble_eq_true rfl⟩ rfl hl.1 rfl (Nat.le_of_ble_eq_true rfl) dX4_bring_70 ⟨Nat.le_of_ble_eq_true rfl, Nat.le_of_ble_eq_true rfl⟩) hS (fun H locs hG hS => ?_)
              refine lv_iconst (v := (-1)) hx hb dX4_bring_73 (by decide) ?_
              refine lv_icmp_ne (tgt := 93) hx hb dX4_bring_74 (by decide) (fun c17 => ?_) (fun c17 => ?_)
              · have hf := it_neg c17 hf
                exact K93 _ _ _ hf _ _ _ hG hS (lv_sub hl [1, 2, 3] rfl)
              · have hf := it_pos c17 hf
                refine lv_aload_n hx hb dX4_bring_77 rfl (lv_at hl 1 rfl) ?_
                refine lv_iconst (v := (-1)) hx hb dX4_bring_78 (by decide) ?_
                obtain ⟨r18, σ19, hc20, hf⟩ := bnd_some hf
                refine mc_i (mc_V (As := [.int ((-1))]) hC hK hA hX hG hS (kX4_frameWith l D cA A ad hc20) ykX4_frameWith wA_227 wA_228 wA_229 (hG.fix (by decide)) rfl rfl ⟨rfl, rfl, Nat.le_of_ble_eq_true rfl, Nat.le_of_ble_eq_true rfl⟩ rfl hl.1 rfl (Nat.le_of_ble_eq_true rfl) dX4_bring_79 ⟨Nat.le_of_ble_eq_true rfl, Nat.le_of_ble_eq_true rfl⟩) hS (fun H locs hG hS => ?_)
                refine lv_iconst (v := (-1)) hx hb dX4_bring_82 (by decide) ?_
                refine lv_icmp_eq (tgt := 93) hx hb dX4_bring_83 (by decide) (fun c21 => ?_) (fun c21 => ?_)
                · have hf := it_pos c21 hf
                  exact K93 _ _ _ hf _ _ _ hG hS (lv_sub hl [1, 2, 3] rfl)
                · have hf := it_neg c21 hf
                  refine lv_aload_n hx hb dX4_bring_86 rfl (lv_at hl 1 rfl) ?_
                  refine lv_iload hx hb dX4_bring_87 (lv_at hl 0 rfl) ?_
                  refine lv_iconst (v := 3) hx hb dX4_bring_89 (by decide) ?_
                  obtain ⟨r22, σ23, hc24, hf⟩ := bnd_some hf
                  refine mc_v (mc_V (As := [.int ((gi σ 4 (Int32.toNatClampNeg ((x2 + x3))))), .int (3)]) hC hK hA hX hG hS (kX4_take l D cA A ad hc24) ykX4_take wA_475 wA_476 wA_477 (hG.fix (by decide)) rfl rfl ⟨rfl, rfl, Nat.le_of_ble_eq_true rfl, Nat.le_of_ble_eq_true rfl⟩ rfl hl.1 rfl (Nat.le_of_ble_eq_true rfl) dX4_bring_90 ⟨Nat.le_of_ble_eq_true rfl, Nat.le_of_ble_eq_true rfl⟩) hS (fun H locs hG hS => ?_)
                  exact K93 _ _ _ hf _ _ _ hG hS (lv_sub hl [1, 2, 3] rfl)
  have K28 : ∀ (x2 : Int32) (y0 : Int32) (y1 : Int32) (σ : pw_S), fX4_bring_28 x2 y0 y1 σ = some (r, σ') → mw_K p l e ({ frames := 6, cells := 0, slots := 0, locals := 141 }) s m args below meth c (MQ below (pw_Qv D cA shM 15 A ad r σ') args s 0 0 A) A D cA shM 15 ad 5 28 0 0 [(0, .ref (ad 0)), (2, .int (x2))] [.int (y0), .int (y1), .ref (ad 0)] σ := by
    intro x2 y0 y1 σ hf H locs ls hG hS hl
    unfold fX4_bring_28 at hf
    obtain ⟨r25, σ26, hc27, hf⟩ := bnd_some hf
    refine mc_v (mc_V (As := [.int (y1), .int (y0)]) hC hK hA hX hG hS (kX4_take l D cA A ad hc27) ykX4_take wA_475 wA_476 wA_477 (hG.fix (by decide)) rfl rfl ⟨rfl, rfl, Nat.le_of_ble_eq_true rfl, Nat.le_of_ble_eq_true rfl⟩ rfl hl.1 rfl (Nat.le_of_ble_eq_true rfl) dX4_bring_28 ⟨Nat.le_of_ble_eq_true rfl, Nat.le_of_ble_eq_true rfl⟩) hS (fun H locs hG hS => ?_)
    refine lv_iconst (v := 1) hx hb dX4_bring_31 (by decide) ?_
    refine lv_istore_n (lv' := [(3, .int (1)), (0, .ref (ad 0)), (2, .int (x2))]) hx hb dX4_bring_32 rfl hl (by decide) rfl (fun ls hl => ?_)
    exact K33 1000 _ _ _ hf _ _ _ hG hS (lv_sub hl [1, 2, 0] rfl)
  have hl : lv_has ls 5 [(0, .ref (ad 0)), (1, .int (a1))] := hl
  unfold fX4_bring at hf
  refine lv_aload_n hx hb dX4_bring_0 rfl (lv_at hl 0 rfl) ?_
  refine lv_iload_n hx hb dX4_bring_1 rfl (lv_at hl 1 rfl) ?_
  obtain ⟨r28, σ29, hc30, hf⟩ := bnd_some hf
  refine mc_i (mc_V (As := [.int (a1)]) hC hK hA hX hG hS (kX4_frameWith l D cA A ad hc30) ykX4_frameWith wA_227 wA_228 wA_229 (hG.fix (by decide)) rfl rfl ⟨rfl, rfl, Nat.le_of_ble_eq_true rfl, Nat.le_of_ble_eq_true rfl⟩ rfl hl.1 rfl (Nat.le_of_ble_eq_true rfl) dX4_bring_2 ⟨Nat.le_of_ble_eq_true rfl, Nat.le_of_ble_eq_true rfl⟩) hS (fun H locs hG hS => ?_)
  refine lv_iconst (v := (-1)) hx hb dX4_bring_5 (by decide) ?_
  refine lv_icmp_eq (tgt := 10) hx hb dX4_bring_6 (by decide) (fun c31 => ?_) (fun c31 => ?_)
  · have hf := it_pos c31 hf
    refine lv_aload_n hx hb dX4_bring_10 rfl (lv_at hl 0 rfl) ?_
    refine lv_iload_n hx hb dX4_bring_11 rfl (lv_at hl 1 rfl) ?_
    obtain ⟨r32, σ33, hc34, hf⟩ := bnd_some hf
    refine mc_i (mc_V (As := [.int (a1)]) hC hK hA hX hG hS (kX4_slotWith l D cA A ad hc34) ykX4_slotWith wA_231 wA_232 wA_233 (hG.fix (by decide)) rfl rfl ⟨rfl, rfl, Nat.le_of_ble_eq_true rfl, Nat.le_of_ble_eq_true rfl⟩ rfl hl.1 rfl (Nat.le_of_ble_eq_true rfl) dX4_bring_12 ⟨Nat.le_of_ble_eq_true rfl, Nat.le_of_ble_eq_true rfl⟩) hS (fun H locs hG hS => ?_)
    refine lv_istore_n (lv' := [(2, .int (r32)), (0, .ref (ad 0)), (1, .int (a1))]) hx hb dX4_bring_15 rfl hl (by decide) rfl (fun ls hl => ?_)
    refine lv_aload_n hx hb dX4_bring_16 rfl (lv_at hl 1 rfl) ?_
    refine lv_iload_n hx hb dX4_bring_17 rfl (lv_at hl 2 rfl) ?_
    refine lv_iload_n hx hb dX4_bring_18 rfl (lv_at hl 0 rfl) ?_
    refine lv_iconst (v := (-1)) hx hb dX4_bring_19 (by decide) ?_
    refine lv_icmp_ne (tgt := 27) hx hb dX4_bring_20 (by decide) (fun c35 => ?_) (fun c35 => ?_)
    · have hf := it_neg c35 hf
      refine lv_iconst (v := 1) hx hb dX4_bring_27 (by decide) ?_
      exact K28 _ _ _ _ hf _ _ _ hG hS (lv_sub hl [1, 0] rfl)
    · have hf := it_pos c35 hf
      refine lv_iconst (v := 0) hx hb dX4_bring_23 (by decide) ?_
      refine lv_goto (tgt := 28) hx hb dX4_bring_24 (by decide) ?_
      exact K28 _ _ _ _ hf _ _ _ hG hS (lv_sub hl [1, 0] rfl)
  · have hf := it_neg c31 hf
    exact mr_v hC hr hlocks hG hS hf (Nat.le_of_ble_eq_true rfl) (Nat.le_of_ble_eq_true rfl) dX4_bring_9
def fX4_isPossible_67 (bk30 : Int32 → Int32 → pw_S → Option (Int32 × pw_S)) (x3 : Int32) (y0 : Int32) (y1 : Int32) (σ : pw_S) : Option (Int32 × pw_S) := bk30 ((y1 ||| y0)) (x3 + 1) σ
def fX4_isPossible_66 (bk30 : Int32 → Int32 → pw_S → Option (Int32 × pw_S)) (x3 : Int32) (y0 : Int32) (σ : pw_S) : Option (Int32 × pw_S) := fX4_isPossible_67 bk30 x3 0 y0 σ
def fX4_isPossible_30_b (bk30 : Int32 → Int32 → pw_S → Option (Int32 × pw_S)) (x2 : Int32) (x3 : Int32) (σ : pw_S) : Option (Int32 × pw_S) := (if (gi σ 0 3) ≤ x3 then ck (isB (x2)) (some (x2, σ)) else ck (inb (x3) (12)) ((if (gi σ 1 (Int32.toNatClampNeg (x3))) = (-1) then fX4_isPossible_66 bk30 x3 x2 σ else ck (inb (x3) (12)) (bnd (fX4_isDirty ((gi σ 1 (Int32.toNatClampNeg (x3)))) σ) (fun r12 σ13 => (if r12 = 0 then fX4_isPossible_67 bk30 x3 1 x2 σ13 else fX4_isPossible_66 bk30 x3 x2 σ13))))))
def fX4_isPossible_30 : Nat → Int32 → Int32 → pw_S → Option (Int32 × pw_S)
  | 0, _, _, _ => none
  | n + 1, x2, x3, σ => fX4_isPossible_30_b (fX4_isPossible_30 n) x2 x3 σ
def fX4_isPossible_27 (y0 : Int32) (σ : pw_S) : Option (Int32 × pw_S) := fX4_isPossible_30 1000 y0 0 σ
def fX4_isPossible_22 (σ : pw_S) : Option (Int32 × pw_S) := fX4_isPossible_27 1 σ
def fX4_isPossible (a1 : Int32) (σ : pw_S) : Option (Int32 × pw_S) := (if a1 = 0 then fX4_isPossible_22 σ else bnd (fX4_frameWith ((-1)) σ) (fun r17 σ18 => (if r17 = (-1) then bnd (fX4_room 1 σ18) (fun r21 σ22 => (if r21 = (-1) then fX4_isPossible_27 0 σ22 else fX4_isPossible_22 σ22)) else fX4_isPossible_22 σ18)))
set_option maxHeartbeats 4000000 in
set_option maxRecDepth 100000 in
theorem kX4_isPossible (l : Launch) (D : va_G) (cA : Nat → ClassId) (A : Nat → Prop) (ad : Nat → Nat) {σ σ' : pw_S} {r : Int32} {a1 : Int32} (hf : fX4_isPossible a1 σ = some (r, σ')) : Met l yX4_isPossible (wA yX4_isPossible cX4_isPossible 4 (some .boolean)) ({ frames := 2, cells := 0, slots := 0, locals := 43 }) (pw_Pc D cA shM 15 A ad σ [.ref (ad 0), .int (a1)]) (pw_Qi D cA shM 15 A ad r σ') 0 0 A := by
  refine mw_enter (own := RX4) (by decide) rfl (Nat.le_of_ble_eq_true rfl) ?_
  intro p e s m args below meth c ls hC hr hlocks hK hA hX hG hS hl
  obtain ⟨hx, hb, hml, hown, hts⟩ := id hC
  have K30 : ∀ (n30 : Nat) (x2 : Int32) (x3 : Int32) (σ : pw_S), fX4_isPossible_30 n30 x2 x3 σ = some (r, σ') → mw_K p l e ({ frames := 2, cells := 0, slots := 0, locals := 43 }) s m args below meth c (MQ below (pw_Qi D cA shM 15 A ad r σ') args s 0 0 A) A D cA shM 15 ad 4 30 0 0 [(0, .ref (ad 0)), (2, .int (x2)), (3, .int (x3))] [] σ := by
    intro n30
    induction n30 with
    | zero => intro x2 x3 σ hf; cases hf
    | succ n30 ih30 =>
      have K67 : ∀ (x3 : Int32) (y0 : Int32) (y1 : Int32) (σ : pw_S), fX4_isPossible_67 (fX4_isPossible_30 n30) x3 y0 y1 σ = some (r, σ') → mw_K p l e ({ frames := 2, cells := 0, slots := 0, locals := 43 }) s m args below meth c (MQ below (pw_Qi D cA shM 15 A ad r σ') args s 0 0 A) A D cA shM 15 ad 4 67 0 0 [(0, .ref (ad 0)), (3, .int (x3))] [.int (y0), .int (y1)] σ := by
        intro x3 y0 y1 σ hf H locs ls hG hS hl
        unfold fX4_isPossible_67 at hf
        refine lv_ior hx hb dX4_isPossible_67 ?_
        refine lv_istore_n (lv' := [(2, .int ((y1 ||| y0))), (0, .ref (ad 0)), (3, .int (x3))]) hx hb dX4_isPossible_68 rfl hl (by decide) rfl (fun ls hl => ?_)
        refine lv_iinc (v := x3 + 1) (lv' := [(3, .int (x3 + 1)), (2, .int ((y1 ||| y0))), (0, .ref (ad 0))]) hx hb dX4_isPossible_69 hl (k := 2) rfl rfl (by decide) rfl (fun ls hl => ?_)
        refine lv_goto (tgt := 30) hx hb dX4_isPossible_72 (by decide) ?_
        exact ih30 _ _ _ hf _ _ _ hG hS (lv_sub hl [2, 1, 0] rfl)
      have K66 : ∀ (x3 : Int32) (y0 : Int32) (σ : pw_S), fX4_isPossible_66 (fX4_isPossible_30 n30) x3 y0 σ = some (r, σ') → mw_K p l e ({ frames := 2, cells := 0, slots := 0, locals := 43 }) s m args below meth c (MQ below (pw_Qi D cA shM 15 A ad r σ') args s 0 0 A) A D cA shM 15 ad 4 66 0 0 [(0, .ref (ad 0)), (3, .int (x3))] [.int (y0)] σ := by
        intro x3 y0 σ hf H locs ls hG hS hl
        unfold fX4_isPossible_66 at hf
        refine lv_iconst (v := 0) hx hb dX4_isPossible_66 (by decide) ?_
        exact K67 _ _ _ _ hf _ _ _ hG hS (lv_sub hl [0, 1] rfl)
      intro x2 x3 σ hf H locs ls hG hS hl
      have hf : fX4_isPossible_30_b (fX4_isPossible_30 n30) x2 x3 σ = some (r, σ') := hf
      unfold fX4_isPossible_30_b at hf
      refine lv_iload_n hx hb dX4_isPossible_30 rfl (lv_at hl 2 rfl) ?_
      refine lv_aload_n hx hb dX4_isPossible_31 rfl (lv_at hl 0 rfl) ?_
      refine mw_geti hx hb hts hown hK hG inlX4 rfl (hG.fix (by decide)) rfl 3 (by decide) rfl wA_54 dX4_isPossible_32 ?_
      refine lv_icmp_ge (tgt := 75) hx hb dX4_isPossible_35 (by decide) (fun c7 => ?_) (fun c7 => ?_)
      · have hf := it_pos c7 hf
        refine lv_iload_n hx hb dX4_isPossible_75 rfl (lv_at hl 1 rfl) ?_
        obtain ⟨h8, hf⟩ := ck_some hf
        exact mr_z hC hr hlocks hG hS (isB_or h8) hf (Nat.le_of_ble_eq_true rfl) (Nat.le_of_ble_eq_true rfl) dX4_isPossible_76
      · have hf := it_neg c7 hf
        refine lv_iload_n hx hb dX4_isPossible_38 rfl (lv_at hl 1 rfl) ?_
        refine lv_aload_n hx hb dX4_isPossible_39 rfl (lv_at hl 0 rfl) ?_
        refine mw_getl hx hb hts hown hK hG inlX4 rfl (hG.fix (by decide)) rfl 5 (by decide) 1 rfl wA_55 dX4_isPossible_40 ?_
        refine lv_iload_n hx hb dX4_isPossible_43 rfl (lv_at hl 2 rfl) ?_
        obtain ⟨h9, hf⟩ := ck_some hf
        refine mw_iald hx hb hK hG (hG.fix (by decide)) rfl (inb_in h9) dX4_isPossible_44 ?_
        refine lv_iconst (v := (-1)) hx hb dX4_isPossible_45 (by decide) ?_
        refine lv_icmp_eq (tgt := 66) hx hb dX4_isPossible_46 (by decide) (fun c10 => ?_) (fun c10 => ?_)
        · have hf := it_pos c10 hf
          exact K66 _ _ _ hf _ _ _ hG hS (lv_sub hl [0, 2] rfl)
        · have hf := it_neg c10 hf
          refine lv_aload_n hx hb dX4_isPossible_49 rfl (lv_at hl 0 rfl) ?_
          refine lv_aload_n hx hb dX4_isPossible_50 rfl (lv_at hl 0 rfl) ?_
          refine mw_getl hx hb hts hown hK hG inlX4 rfl (hG.fix (by decide)) rfl 5 (by decide) 1 rfl wA_55 dX4_isPossible_51 ?_
          refine lv_iload_n hx hb dX4_isPossible_54 rfl (lv_at hl 2 rfl) ?_
          obtain ⟨h11, hf⟩ := ck_some hf
          refine mw_iald hx hb hK hG (hG.fix (by decide)) rfl (inb_in h11) dX4_isPossible_55 ?_
          obtain ⟨r12, σ13, hc14, hf⟩ := bnd_some hf
          refine mc_i (mc_V (As := [.int ((gi σ 1 (Int32.toNatClampNeg (x3))))]) hC hK hA hX hG hS (kX4_isDirty l D cA A ad hc14) ykX4_isDirty wA_467 wA_468 wA_469 (hG.fix (by decide)) rfl rfl ⟨rfl, rfl, Nat.le_of_ble_eq_true rfl, Nat.le_of_ble_eq_true rfl⟩ rfl hl.1 rfl (Nat.le_of_ble_eq_true rfl) dX4_isPossible_56 ⟨Nat.le_of_ble_eq_true rfl, Nat.le_of_ble_eq_true rfl⟩) hS (fun H locs hG hS => ?_)
          refine lv_if_ne (tgt := 66) hx hb dX4_isPossible_59 (by decide) (fun c15 => ?_) (fun c15 => ?_)
          · have hf := it_neg c15 hf
            exact K66 _ _ _ hf _ _ _ hG hS (lv_sub hl [0, 2] rfl)
          · have hf := it_pos c15 hf
            refine lv_iconst (v := 1) hx hb dX4_isPossible_62 (by decide) ?_
            refine lv_goto (tgt := 67) hx hb dX4_isPossible_63 (by decide) ?_
            exact K67 _ _ _ _ hf _ _ _ hG hS (lv_sub hl [0, 2] rfl)
  have K27 : ∀ (y0 : Int32) (σ : pw_S), fX4_isPossible_27 y0 σ = some (r, σ') → mw_K p l e ({ frames := 2, cells := 0, slots := 0, locals := 43 }) s m args below meth c (MQ below (pw_Qi D cA shM 15 A ad r σ') args s 0 0 A) A D cA shM 15 ad 4 27 0 0 [(0, .ref (ad 0))] [.int (y0)] σ := by
    intro y0 σ hf H locs ls hG hS hl
    unfold fX4_isPossible_27 at hf
    refine lv_istore_n (lv' := [(2, .int (y0)), (0, .ref (ad 0))]) hx hb dX4_isPossible_27 rfl hl (by decide) rfl (fun ls hl => ?_)
    refine lv_iconst (v := 0) hx hb dX4_isPossible_28 (by decide) ?_
    refine lv_istore_n (lv' := [(3, .int (0)), (2, .int (y0)), (0, .ref (ad 0))]) hx hb dX4_isPossible_29 rfl hl (by decide) rfl (fun ls hl => ?_)
    exact K30 1000 _ _ _ hf _ _ _ hG hS (lv_sub hl [2, 1, 0] rfl)
  have K22 : ∀ (σ : pw_S), fX4_isPossible_22  σ = some (r, σ') → mw_K p l e ({ frames := 2, cells := 0, slots := 0, locals := 43 }) s m args below meth c (MQ below (pw_Qi D cA shM 15 A ad r σ') args s 0 0 A) A D cA shM 15 ad 4 22 0 0 [(0, .ref (ad 0))] [] σ := by
    intro  σ hf H locs ls hG hS hl
    unfold fX4_isPossible_22 at hf
    refine lv_iconst (v := 1) hx hb dX4_isPossible_22 (by decide) ?_
    refine lv_goto (tgt := 27) hx hb dX4_isPossible_23 (by decide) ?_
    exact K27 _ _ hf _ _ _ hG hS (lv_sub hl [0] rfl)
  have hl : lv_has ls 4 [(0, .ref (ad 0)), (1, .int (a1))] := hl
  unfold fX4_isPossible at hf
  refine lv_iload_n hx hb dX4_isPossible_0 rfl (lv_at hl 1 rfl) ?_
  refine lv_if_eq (tgt := 22) hx hb dX4_isPossible_1 (by decide) (fun c16 => ?_) (fun c16 => ?_)
  · have hf := it_pos c16 hf
    exact K22 _ hf _ _ _ hG hS (lv_sub hl [0] rfl)
  · have hf := it_neg c16 hf
    refine lv_aload_n hx hb dX4_isPossible_4 rfl (lv_at hl 0 rfl) ?_
    refine lv_iconst (v := (-1)) hx hb dX4_isPossible_5 (by decide) ?_
    obtain ⟨r17, σ18, hc19, hf⟩ := bnd_some hf
    refine mc_i (mc_V (As := [.int ((-1))]) hC hK hA hX hG hS (kX4_frameWith l D cA A ad hc19) ykX4_frameWith wA_227 wA_228 wA_229 (hG.fix (by decide)) rfl rfl ⟨rfl, rfl, Nat.le_of_ble_eq_true rfl, Nat.le_of_ble_eq_true rfl⟩ rfl hl.1 rfl (Nat.le_of_ble_eq_true rfl) dX4_isPossible_6 ⟨Nat.le_of_ble_eq_true rfl, Nat.le_of_ble_eq_true rfl⟩) hS (fun H locs hG hS => ?_)
    refine lv_iconst (v := (-1)) hx hb dX4_isPossible_9 (by decide) ?_
    refine lv_icmp_ne (tgt := 22) hx hb dX4_isPossible_10 (by decide) (fun c20 => ?_) (fun c20 => ?_)
    · have hf := it_neg c20 hf
      exact K22 _ hf _ _ _ hG hS (lv_sub hl [0] rfl)
    · have hf := it_pos c20 hf
      refine lv_aload_n hx hb dX4_isPossible_13 rfl (lv_at hl 0 rfl) ?_
      refine lv_iconst (v := 1) hx hb dX4_isPossible_14 (by decide) ?_
      obtain ⟨r21, σ22, hc23, hf⟩ := bnd_some hf
      refine mc_i (mc_V (As := [.int (1)]) hC hK hA hX hG hS (kX4_room l D cA A ad hc23) ykX4_room wA_463 wA_464 wA_465 (hG.fix (by decide)) rfl rfl ⟨rfl, rfl, Nat.le_of_ble_eq_true rfl, Nat.le_of_ble_eq_true rfl⟩ rfl hl.1 rfl (Nat.le_of_ble_eq_true rfl) dX4_isPossible_15 ⟨Nat.le_of_ble_eq_true rfl, Nat.le_of_ble_eq_true rfl⟩) hS (fun H locs hG hS => ?_)
      refine lv_iconst (v := (-1)) hx hb dX4_isPossible_18 (by decide) ?_
      refine lv_icmp_eq (tgt := 26) hx hb dX4_isPossible_19 (by decide) (fun c24 => ?_) (fun c24 => ?_)
      · have hf := it_pos c24 hf
        refine lv_iconst (v := 0) hx hb dX4_isPossible_26 (by decide) ?_
        exact K27 _ _ hf _ _ _ hG hS (lv_sub hl [0] rfl)
      · have hf := it_neg c24 hf
        exact K22 _ hf _ _ _ hG hS (lv_sub hl [0] rfl)
def fX4_begins_163 (y0 : Int32) (σ : pw_S) : Option (Int32 × pw_S) := ck (isB (y0)) (some (y0, σ))
def fX4_begins_151 (σ : pw_S) : Option (Int32 × pw_S) := (if (gi σ 0 0) = 0 then fX4_begins_163 1 σ else fX4_begins_163 0 σ)
def fX4_begins_140 (y0 : Int32) (σ : pw_S) : Option (Int32 × pw_S) := bnd (fX4_isPossible y0 σ) (fun r16 σ17 => (if r16 = 0 then ld (si σ17 0 0 (4)) (fun σ20 => fX4_begins_151 σ20) else fX4_begins_151 σ17))
def fX4_begins_135 (σ : pw_S) : Option (Int32 × pw_S) := fX4_begins_140 1 σ
def fX4_begins_117 (x4 : Int32) (y0 : Int32) (σ : pw_S) : Option (Int32 × pw_S) := (if y0 = 0 then bnd (fX4_frameWith x4 σ) (fun r23 σ24 => (if r23 = (-1) then fX4_begins_135 σ24 else fX4_begins_140 0 σ24)) else fX4_begins_135 σ)
def fX4_begins_116 (x4 : Int32) (σ : pw_S) : Option (Int32 × pw_S) := fX4_begins_117 x4 0 σ
def fX4_begins_56 (x1 : Int32) (x2 : Int32) (x3 : Int32) (y0 : Int32) (σ : pw_S) : Option (Int32 × pw_S) := ld (si σ 0 0 (y0)) (fun σ27 => (if (gi σ27 0 0) ≤ 0 then bnd (fX4_at x1 ((x2 / 4)) σ27) (fun r30 σ31 => ck (inb (r30) (160)) ((if x3 = 0 then fX4_begins_116 ((gi σ31 10 (Int32.toNatClampNeg (r30)))) σ31 else bnd (fX4_at x1 ((x2 / 4)) σ31) (fun r35 σ36 => ck (inb (r35) (160)) ((if (gi σ36 9 (Int32.toNatClampNeg (r35))) = 1 then bnd (fX4_references ((gi σ31 10 (Int32.toNatClampNeg (r30)))) σ36) (fun r40 σ41 => (if r40 ≤ 1 then fX4_begins_116 ((gi σ31 10 (Int32.toNatClampNeg (r30)))) σ41 else fX4_begins_117 ((gi σ31 10 (Int32.toNatClampNeg (r30)))) 1 σ41)) else fX4_begins_116 ((gi σ31 10 (Int32.toNatClampNeg (r30)))) σ36)))))) else some (0, σ27)))
def fX4_begins_19 (x1 : Int32) (x2 : Int32) (x3 : Int32) (σ : pw_S) : Option (Int32 × pw_S) := fX4_begins_56 x1 x2 x3 1 σ
def fX4_begins (a1 : Int32) (a2 : Int32) (a3 : Int32) (σ : pw_S) : Option (Int32 × pw_S) := bnd (fX4_isProcess a1 σ) (fun r44 σ45 => (if r44 = 0 then fX4_begins_19 a1 a2 a3 σ45 else (if a2 < 0 then fX4_begins_19 a1 a2 a3 σ45 else (if a2 < 64 then ck (inb (a1) (10)) ((if (gi σ45 8 (Int32.toNatClampNeg (a1))) = 0 then fX4_begins_56 a1 a2 a3 2 σ45 else bnd (fX4_at a1 ((a2 / 4)) σ45) (fun r52 σ53 => ck (inb (r52) (160)) ((if (gi σ53 9 (Int32.toNatClampNeg (r52))) = 0 then fX4_begins_56 a1 a2 a3 3 σ53 else fX4_begins_56 a1 a2 a3 0 σ53))))) else fX4_begins_19 a1 a2 a3 σ45))))
set_option maxHeartbeats 4000000 in
set_option maxRecDepth 100000 in
theorem kX4_begins (l : Launch) (D : va_G) (cA : Nat → ClassId) (A : Nat → Prop) (ad : Nat → Nat) {σ σ' : pw_S} {r : Int32} {a1 : Int32} {a2 : Int32} {a3 : Int32} (hf : fX4_begins a1 a2 a3 σ = some (r, σ')) : Met l yX4_begins (wA yX4_begins cX4_begins 6 (some .boolean)) ({ frames := 3, cells := 0, slots := 0, locals := 66 }) (pw_Pc D cA shM 15 A ad σ [.ref (ad 0), .int (a1), .int (a2), .int (a3)]) (pw_Qi D cA shM 15 A ad r σ') 0 0 A := by
  refine mw_enter (own := RX4) (by decide) rfl (Nat.le_of_ble_eq_true rfl) ?_
  intro p e s m args below meth c ls hC hr hlocks hK hA hX hG hS hl
  obtain ⟨hx, hb, hml, hown, hts⟩ := id hC
  have K163 : ∀ (y0 : Int32) (σ : pw_S), fX4_begins_163 y0 σ = some (r, σ') → mw_K p l e ({ frames := 3, cells := 0, slots := 0, locals := 66 }) s m args below meth c (MQ below (pw_Qi D cA shM 15 A ad r σ') args s 0 0 A) A D cA shM 15 ad 6 163 0 0 [] [.int (y0)] σ := by
    intro y0 σ hf H locs ls hG hS hl
    unfold fX4_begins_163 at hf
    obtain ⟨h14, hf⟩ := ck_some hf
    exact mr_z hC hr hlocks hG hS (isB_or h14) hf (Nat.le_of_ble_eq_true rfl) (Nat.le_of_ble_eq_true rfl) dX4_begins_163
  have K151 : ∀ (σ : pw_S), fX4_begins_151  σ = some (r, σ') → mw_K p l e ({ frames := 3, cells := 0, slots := 0, locals := 66 }) s m args below meth c (MQ below (pw_Qi D cA shM 15 A ad r σ') args s 0 0 A) A D cA shM 15 ad 6 151 0 0 [(0, .ref (ad 0))] [] σ := by
    intro  σ hf H locs ls hG hS hl
    unfold fX4_begins_151 at hf
    refine lv_aload_n hx hb dX4_begins_151 rfl (lv_at hl 0 rfl) ?_
    refine mw_geti hx hb hts hown hK hG inlX4 rfl (hG.fix (by decide)) rfl 0 (by decide) rfl wA_93 dX4_begins_152 ?_
    refine lv_if_ne (tgt := 162) hx hb dX4_begins_155 (by decide) (fun c15 => ?_) (fun c15 => ?_)
    · have hf := it_neg c15 hf
      refine lv_iconst (v := 0) hx hb dX4_begins_162 (by decide) ?_
      exact K163 _ _ hf _ _ _ hG hS (lv_sub hl [] rfl)
    · have hf := it_pos c15 hf
      refine lv_iconst (v := 1) hx hb dX4_begins_158 (by decide) ?_
      refine lv_goto (tgt := 163) hx hb dX4_begins_159 (by decide) ?_
      exact K163 _ _ hf _ _ _ hG hS (lv_sub hl [] rfl)
  have K140 : ∀ (y0 : Int32) (σ : pw_S), fX4_begins_140 y0 σ = some (r, σ') → mw_K p l e ({ frames := 3, cells := 0, slots := 0, locals := 66 }) s m args below meth c (MQ below (pw_Qi D cA shM 15 A ad r σ') args s 0 0 A) A D cA shM 15 ad 6 140 0 0 [(0, .ref (ad 0))] [.int (y0), .ref (ad 0)] σ := by
    intro y0 σ hf H locs ls hG hS hl
    unfold fX4_begins_140 at hf
    obtain ⟨r16, σ17, hc18, hf⟩ := bnd_some hf
    refine mc_i (mc_V (As := [.int (y0)]) hC hK hA hX hG hS (kX4_isPossible l D cA A ad hc18) ykX4_isPossible wA_459 wA_460 wA_461 (hG.fix (by decide)) rfl rfl ⟨rfl, rfl, Nat.le_of_ble_eq_true rfl, Nat.le_of_ble_eq_true rfl⟩ rfl hl.1 rfl (Nat.le_of_ble_eq_true rfl) dX4_begins_140 ⟨Nat.le_of_ble_eq_true rfl, Nat.le_of_ble_eq_true rfl⟩) hS (fun H locs hG hS => ?_)
    refine lv_if_ne (tgt := 151) hx hb dX4_begins_143 (by decide) (fun c19 => ?_) (fun c19 => ?_)
    · have hf := it_neg c19 hf
      exact K151 _ hf _ _ _ hG hS (lv_sub hl [0] rfl)
    · have hf := it_pos c19 hf
      refine lv_aload_n hx hb dX4_begins_146 rfl (lv_at hl 0 rfl) ?_
      refine lv_iconst (v := 4) hx hb dX4_begins_147 (by decide) ?_
      refine mw_puti hx hb hts hown hK hG hS inlX4 tyX4 tyX4_ok nmX4 rfl (hG.fix (by decide)) rfl 0 (by decide) rfl rfl rfl rfl wA_93 dX4_begins_148 (fun H locs hG hS => ?_)
      obtain ⟨σ20, e21, hf⟩ := ld_some hf
      rw [← e21] at hG
      clear e21
      exact K151 _ hf _ _ _ hG hS (lv_sub hl [0] rfl)
  have K135 : ∀ (σ : pw_S), fX4_begins_135  σ = some (r, σ') → mw_K p l e ({ frames := 3, cells := 0, slots := 0, locals := 66 }) s m args below meth c (MQ below (pw_Qi D cA shM 15 A ad r σ') args s 0 0 A) A D cA shM 15 ad 6 135 0 0 [(0, .ref (ad 0))] [.ref (ad 0)] σ := by
    intro  σ hf H locs ls hG hS hl
    unfold fX4_begins_135 at hf
    refine lv_iconst (v := 1) hx hb dX4_begins_135 (by decide) ?_
    refine lv_goto (tgt := 140) hx hb dX4_begins_136 (by decide) ?_
    exact K140 _ _ hf _ _ _ hG hS (lv_sub hl [0] rfl)
  have K117 : ∀ (x4 : Int32) (y0 : Int32) (σ : pw_S), fX4_begins_117 x4 y0 σ = some (r, σ') → mw_K p l e ({ frames := 3, cells := 0, slots := 0, locals := 66 }) s m args below meth c (MQ below (pw_Qi D cA shM 15 A ad r σ') args s 0 0 A) A D cA shM 15 ad 6 117 0 0 [(0, .ref (ad 0)), (4, .int (x4))] [.int (y0)] σ := by
    intro x4 y0 σ hf H locs ls hG hS hl
    unfold fX4_begins_117 at hf
    refine lv_istore (lv' := [(5, .int (y0)), (0, .ref (ad 0)), (4, .int (x4))]) hx hb dX4_begins_117 hl (by decide) rfl (fun ls hl => ?_)
    refine lv_aload_n hx hb dX4_begins_119 rfl (lv_at hl 1 rfl) ?_
    refine lv_iload hx hb dX4_begins_120 (lv_at hl 0 rfl) ?_
    refine lv_if_ne (tgt := 135) hx hb dX4_begins_122 (by decide) (fun c22 => ?_) (fun c22 => ?_)
    · have hf := it_neg c22 hf
      exact K135 _ hf _ _ _ hG hS (lv_sub hl [1] rfl)
    · have hf := it_pos c22 hf
      refine lv_aload_n hx hb dX4_begins_125 rfl (lv_at hl 1 rfl) ?_
      refine lv_iload hx hb dX4_begins_126 (lv_at hl 2 rfl) ?_
      obtain ⟨r23, σ24, hc25, hf⟩ := bnd_some hf
      refine mc_i (mc_V (As := [.int (x4)]) hC hK hA hX hG hS (kX4_frameWith l D cA A ad hc25) ykX4_frameWith wA_227 wA_228 wA_229 (hG.fix (by decide)) rfl rfl ⟨rfl, rfl, Nat.le_of_ble_eq_true rfl, Nat.le_of_ble_eq_true rfl⟩ rfl hl.1 rfl (Nat.le_of_ble_eq_true rfl) dX4_begins_128 ⟨Nat.le_of_ble_eq_true rfl, Nat.le_of_ble_eq_true rfl⟩) hS (fun H locs hG hS => ?_)
      refine lv_iconst (v := (-1)) hx hb dX4_begins_131 (by decide) ?_
      refine lv_icmp_ne (tgt := 139) hx hb dX4_begins_132 (by decide) (fun c26 => ?_) (fun c26 => ?_)
      · have hf := it_neg c26 hf
        refine lv_iconst (v := 0) hx hb dX4_begins_139 (by decide) ?_
        exact K140 _ _ hf _ _ _ hG hS (lv_sub hl [1] rfl)
      · have hf := it_pos c26 hf
        exact K135 _ hf _ _ _ hG hS (lv_sub hl [1] rfl)
  have K116 : ∀ (x4 : Int32) (σ : pw_S), fX4_begins_116 x4 σ = some (r, σ') → mw_K p l e ({ frames := 3, cells := 0, slots := 0, locals := 66 }) s m args below meth c (MQ below (pw_Qi D cA shM 15 A ad r σ') args s 0 0 A) A D cA shM 15 ad 6 116 0 0 [(0, .ref (ad 0)), (4, .int (x4))] [] σ := by
    intro x4 σ hf H locs ls hG hS hl
    unfold fX4_begins_116 at hf
    refine lv_iconst (v := 0) hx hb dX4_begins_116 (by decide) ?_
    exact K117 _ _ _ hf _ _ _ hG hS (lv_sub hl [0, 1] rfl)
  have K56 : ∀ (x1 : Int32) (x2 : Int32) (x3 : Int32) (y0 : Int32) (σ : pw_S), fX4_begins_56 x1 x2 x3 y0 σ = some (r, σ') → mw_K p l e ({ frames := 3, cells := 0, slots := 0, locals := 66 }) s m args below meth c (MQ below (pw_Qi D cA shM 15 A ad r σ') args s 0 0 A) A D cA shM 15 ad 6 56 0 0 [(0, .ref (ad 0)), (1, .int (x1)), (2, .int (x2)), (3, .int (x3))] [.int (y0), .ref (ad 0)] σ := by
    intro x1 x2 x3 y0 σ hf H locs ls hG hS hl
    unfold fX4_begins_56 at hf
    refine mw_puti hx hb hts hown hK hG hS inlX4 tyX4 tyX4_ok nmX4 rfl (hG.fix (by decide)) rfl 0 (by decide) rfl rfl rfl rfl wA_93 dX4_begins_56 (fun H locs hG hS => ?_)
    obtain ⟨σ27, e28, hf⟩ := ld_some hf
    rw [← e28] at hG
    clear e28
    refine lv_aload_n hx hb dX4_begins_59 rfl (lv_at hl 0 rfl) ?_
    refine mw_geti hx hb hts hown hK hG inlX4 rfl (hG.fix (by decide)) rfl 0 (by decide) rfl wA_93 dX4_begins_60 ?_
    refine lv_if_le (tgt := 68) hx hb dX4_begins_63 (by decide) (fun c29 => ?_) (fun c29 => ?_)
    · have hf := it_pos c29 hf
      refine lv_aload_n hx hb dX4_begins_68 rfl (lv_at hl 0 rfl) ?_
      refine mw_getl hx hb hts hown hK hG inlX4 rfl (hG.fix (by decide)) rfl 15 (by decide) 10 rfl wA_64 dX4_begins_69 ?_
      refine lv_iload_n hx hb dX4_begins_72 rfl (lv_at hl 1 rfl) ?_
      refine lv_iload_n hx hb dX4_begins_73 rfl (lv_at hl 2 rfl) ?_
      refine lv_iconst (v := 4) hx hb dX4_begins_74 (by decide) ?_
      refine lv_idiv hx hb dX4_begins_75 (by decide) ?_
      obtain ⟨r30, σ31, hc32, hf⟩ := bnd_some hf
      refine mc_i (mc_S (As := [.int (x1), .int ((x2 / 4))]) hC hK hA hX hG hS (kX4_at l D cA A ad hc32) ykX4_at wA_138 wA_139 ⟨rfl, rfl, Nat.le_of_ble_eq_true rfl, Nat.le_of_ble_eq_true rfl⟩ rfl hl.1 rfl (Nat.le_of_ble_eq_true rfl) dX4_begins_76 ⟨Nat.le_of_ble_eq_true rfl, Nat.le_of_ble_eq_true rfl⟩) hS (fun H locs hG hS => ?_)
      obtain ⟨h33, hf⟩ := ck_some hf
      refine mw_iald hx hb hK hG (hG.fix (by decide)) rfl (inb_in h33) dX4_begins_79 ?_
      refine lv_istore (lv' := [(4, .int ((gi σ31 10 (Int32.toNatClampNeg (r30))))), (0, .ref (ad 0)), (1, .int (x1)), (2, .int (x2)), (3, .int (x3))]) hx hb dX4_begins_80 hl (by decide) rfl (fun ls hl => ?_)
      refine lv_iload_n hx hb dX4_begins_82 rfl (lv_at hl 4 rfl) ?_
      refine lv_if_eq (tgt := 116) hx hb dX4_begins_83 (by decide) (fun c34 => ?_) (fun c34 => ?_)
      · have hf := it_pos c34 hf
        exact K116 _ _ hf _ _ _ hG hS (lv_sub hl [1, 0] rfl)
      · have hf := it_neg c34 hf
        refine lv_aload_n hx hb dX4_begins_86 rfl (lv_at hl 1 rfl) ?_
        refine mw_getl hx hb hts hown hK hG inlX4 rfl (hG.fix (by decide)) rfl 14 (by decide) 9 rfl wA_63 dX4_begins_87 ?_
        refine lv_iload_n hx hb dX4_begins_90 rfl (lv_at hl 2 rfl) ?_
        refine lv_iload_n hx hb dX4_begins_91 rfl (lv_at hl 3 rfl) ?_
        refine lv_iconst (v := 4) hx hb dX4_begins_92 (by decide) ?_
        refine lv_idiv hx hb dX4_begins_93 (by decide) ?_
        obtain ⟨r35, σ36, hc37, hf⟩ := bnd_some hf
        refine mc_i (mc_S (As := [.int (x1), .int ((x2 / 4))]) hC hK hA hX hG hS (kX4_at l D cA A ad hc37) ykX4_at wA_138 wA_139 ⟨rfl, rfl, Nat.le_of_ble_eq_true rfl, Nat.le_of_ble_eq_true rfl⟩ rfl hl.1 rfl (Nat.le_of_ble_eq_true rfl) dX4_begins_94 ⟨Nat.le_of_ble_eq_true rfl, Nat.le_of_ble_eq_true rfl⟩) hS (fun H locs hG hS => ?_)
        obtain ⟨h38, hf⟩ := ck_some hf
        refine mw_iald hx hb hK hG (hG.fix (by decide)) rfl (inb_in h38) dX4_begins_97 ?_
        refine lv_iconst (v := 1) hx hb dX4_begins_98 (by decide) ?_
        refine lv_icmp_ne (tgt := 116) hx hb dX4_begins_99 (by decide) (fun c39 => ?_) (fun c39 => ?_)
        · have hf := it_neg c39 hf
          exact K116 _ _ hf _ _ _ hG hS (lv_sub hl [1, 0] rfl)
        · have hf := it_pos c39 hf
          refine lv_aload_n hx hb dX4_begins_102 rfl (lv_at hl 1 rfl) ?_
          refine lv_iload hx hb dX4_begins_103 (lv_at hl 0 rfl) ?_
          obtain ⟨r40, σ41, hc42, hf⟩ := bnd_some hf
          refine mc_i (mc_V (As := [.int ((gi σ31 10 (Int32.toNatClampNeg (r30))))]) hC hK hA hX hG hS (kX4_references l D cA A ad hc42) ykX4_references wA_214 wA_215 wA_216 (hG.fix (by decide)) rfl rfl ⟨rfl, rfl, Nat.le_of_ble_eq_true rfl, Nat.le_of_ble_eq_true rfl⟩ rfl hl.1 rfl (Nat.le_of_ble_eq_true rfl) dX4_begins_105 ⟨Nat.le_of_ble_eq_true rfl, Nat.le_of_ble_eq_true rfl⟩) hS (fun H locs hG hS => ?_)
          refine lv_iconst (v := 1) hx hb dX4_begins_108 (by decide) ?_
          refine lv_icmp_le (tgt := 116) hx hb dX4_begins_109 (by decide) (fun c43 => ?_) (fun c43 => ?_)
          · have hf := it_pos c43 hf
            exact K116 _ _ hf _ _ _ hG hS (lv_sub hl [1, 0] rfl)
          · have hf := it_neg c43 hf
            refine lv_iconst (v := 1) hx hb dX4_begins_112 (by decide) ?_
            refine lv_goto (tgt := 117) hx hb dX4_begins_113 (by decide) ?_
            exact K117 _ _ _ hf _ _ _ hG hS (lv_sub hl [1, 0] rfl)
    · have hf := it_neg c29 hf
      refine lv_iconst (v := 0) hx hb dX4_begins_66 (by decide) ?_
      exact mr_z hC hr hlocks hG hS (by decide) hf (Nat.le_of_ble_eq_true rfl) (Nat.le_of_ble_eq_true rfl) dX4_begins_67
  have K19 : ∀ (x1 : Int32) (x2 : Int32) (x3 : Int32) (σ : pw_S), fX4_begins_19 x1 x2 x3 σ = some (r, σ') → mw_K p l e ({ frames := 3, cells := 0, slots := 0, locals := 66 }) s m args below meth c (MQ below (pw_Qi D cA shM 15 A ad r σ') args s 0 0 A) A D cA shM 15 ad 6 19 0 0 [(0, .ref (ad 0)), (1, .int (x1)), (2, .int (x2)), (3, .int (x3))] [.ref (ad 0)] σ := by
    intro x1 x2 x3 σ hf H locs ls hG hS hl
    unfold fX4_begins_19 at hf
    refine lv_iconst (v := 1) hx hb dX4_begins_19 (by decide) ?_
    refine lv_goto (tgt := 56) hx hb dX4_begins_20 (by decide) ?_
    exact K56 _ _ _ _ _ hf _ _ _ hG hS (lv_sub hl [0, 1, 2, 3] rfl)
  have hl : lv_has ls 6 [(0, .ref (ad 0)), (1, .int (a1)), (2, .int (a2)), (3, .int (a3))] := hl
  unfold fX4_begins at hf
  refine lv_aload_n hx hb dX4_begins_0 rfl (lv_at hl 0 rfl) ?_
  refine lv_aload_n hx hb dX4_begins_1 rfl (lv_at hl 0 rfl) ?_
  refine lv_iload_n hx hb dX4_begins_2 rfl (lv_at hl 1 rfl) ?_
  obtain ⟨r44, σ45, hc46, hf⟩ := bnd_some hf
  refine mc_i (mc_V (As := [.int (a1)]) hC hK hA hX hG hS (kX4_isProcess l D cA A ad hc46) ykX4_isProcess wA_174 wA_175 wA_176 (hG.fix (by decide)) rfl rfl ⟨rfl, rfl, Nat.le_of_ble_eq_true rfl, Nat.le_of_ble_eq_true rfl⟩ rfl hl.1 rfl (Nat.le_of_ble_eq_true rfl) dX4_begins_3 ⟨Nat.le_of_ble_eq_true rfl, Nat.le_of_ble_eq_true rfl⟩) hS (fun H locs hG hS => ?_)
  refine lv_if_eq (tgt := 19) hx hb dX4_begins_6 (by decide) (fun c47 => ?_) (fun c47 => ?_)
  · have hf := it_pos c47 hf
    exact K19 _ _ _ _ hf _ _ _ hG hS (lv_sub hl [0, 1, 2, 3] rfl)
  · have hf := it_neg c47 hf
    refine lv_iload_n hx hb dX4_begins_9 rfl (lv_at hl 2 rfl) ?_
    refine lv_if_lt (tgt := 19) hx hb dX4_begins_10 (by decide) (fun c48 => ?_) (fun c48 => ?_)
    · have hf := it_pos c48 hf
      exact K19 _ _ _ _ hf _ _ _ hG hS (lv_sub hl [0, 1, 2, 3] rfl)
    · have hf := it_neg c48 hf
      refine lv_iload_n hx hb dX4_begins_13 rfl (lv_at hl 2 rfl) ?_
      refine lv_bipush (v := 64) hx hb dX4_begins_14 (by decide) ?_
      refine lv_icmp_lt (tgt := 23) hx hb dX4_begins_16 (by decide) (fun c49 => ?_) (fun c49 => ?_)
      · have hf := it_pos c49 hf
        refine lv_aload_n hx hb dX4_begins_23 rfl (lv_at hl 0 rfl) ?_
        refine mw_getl hx hb hts hown hK hG inlX4 rfl (hG.fix (by decide)) rfl 13 (by decide) 8 rfl wA_62 dX4_begins_24 ?_
        refine lv_iload_n hx hb dX4_begins_27 rfl (lv_at hl 1 rfl) ?_
        obtain ⟨h50, hf⟩ := ck_some hf
        refine mw_zald hx hb hK hG (hG.fix (by decide)) rfl (inb_in h50) dX4_begins_28 ?_
        refine lv_if_ne (tgt := 36) hx hb dX4_begins_29 (by decide) (fun c51 => ?_) (fun c51 => ?_)
        · have hf := it_neg c51 hf
          refine lv_aload_n hx hb dX4_begins_36 rfl (lv_at hl 0 rfl) ?_
          refine mw_getl hx hb hts hown hK hG inlX4 rfl (hG.fix (by decide)) rfl 14 (by decide) 9 rfl wA_63 dX4_begins_37 ?_
          refine lv_iload_n hx hb dX4_begins_40 rfl (lv_at hl 1 rfl) ?_
          refine lv_iload_n hx hb dX4_begins_41 rfl (lv_at hl 2 rfl) ?_
          refine lv_iconst (v := 4) hx hb dX4_begins_42 (by decide) ?_
          refine lv_idiv hx hb dX4_begins_43 (by decide) ?_
          obtain ⟨r52, σ53, hc54, hf⟩ := bnd_some hf
          refine mc_i (mc_S (As := [.int (a1), .int ((a2 / 4))]) hC hK hA hX hG hS (kX4_at l D cA A ad hc54) ykX4_at wA_138 wA_139 ⟨rfl, rfl, Nat.le_of_ble_eq_true rfl, Nat.le_of_ble_eq_true rfl⟩ rfl hl.1 rfl (Nat.le_of_ble_eq_true rfl) dX4_begins_44 ⟨Nat.le_of_ble_eq_true rfl, Nat.le_of_ble_eq_true rfl⟩) hS (fun H locs hG hS => ?_)
          obtain ⟨h55, hf⟩ := ck_some hf
          refine mw_iald hx hb hK hG (hG.fix (by decide)) rfl (inb_in h55) dX4_begins_47 ?_
          refine lv_if_ne (tgt := 55) hx hb dX4_begins_48 (by decide) (fun c56 => ?_) (fun c56 => ?_)
          · have hf := it_neg c56 hf
            refine lv_iconst (v := 0) hx hb dX4_begins_55 (by decide) ?_
            exact K56 _ _ _ _ _ hf _ _ _ hG hS (lv_sub hl [0, 1, 2, 3] rfl)
          · have hf := it_pos c56 hf
            refine lv_iconst (v := 3) hx hb dX4_begins_51 (by decide) ?_
            refine lv_goto (tgt := 56) hx hb dX4_begins_52 (by decide) ?_
            exact K56 _ _ _ _ _ hf _ _ _ hG hS (lv_sub hl [0, 1, 2, 3] rfl)
        · have hf := it_pos c51 hf
          refine lv_iconst (v := 2) hx hb dX4_begins_32 (by decide) ?_
          refine lv_goto (tgt := 56) hx hb dX4_begins_33 (by decide) ?_
          exact K56 _ _ _ _ _ hf _ _ _ hG hS (lv_sub hl [0, 1, 2, 3] rfl)
      · have hf := it_neg c49 hf
        exact K19 _ _ _ _ hf _ _ _ hG hS (lv_sub hl [0, 1, 2, 3] rfl)
def fX4_use (a1 : Int32) (σ : pw_S) : Option (Unit × pw_S) := bnd (fX4_frameWith a1 σ) (fun r1 σ2 => ck (inb (r1) (12)) (ld (si σ2 2 (Int32.toNatClampNeg (r1)) ((gi σ2 0 1))) (fun σ5 => ck (inb (r1) (12)) (ld (si σ5 3 (Int32.toNatClampNeg (r1)) (1)) (fun σ8 => some ((), σ8))))))
set_option maxHeartbeats 4000000 in
set_option maxRecDepth 100000 in
theorem kX4_use (l : Launch) (D : va_G) (cA : Nat → ClassId) (A : Nat → Prop) (ad : Nat → Nat) {σ σ' : pw_S} {r : Unit} {a1 : Int32} (hf : fX4_use a1 σ = some (r, σ')) : Met l yX4_use (wA yX4_use cX4_use 3 none) ({ frames := 1, cells := 0, slots := 0, locals := 22 }) (pw_Pc D cA shM 15 A ad σ [.ref (ad 0), .int (a1)]) (pw_Qv D cA shM 15 A ad r σ') 0 0 A := by
  refine mw_enter (own := RX4) (by decide) rfl (Nat.le_of_ble_eq_true rfl) ?_
  intro p e s m args below meth c ls hC hr hlocks hK hA hX hG hS hl
  obtain ⟨hx, hb, hml, hown, hts⟩ := id hC
  have hl : lv_has ls 3 [(0, .ref (ad 0)), (1, .int (a1))] := hl
  unfold fX4_use at hf
  refine lv_aload_n hx hb dX4_use_0 rfl (lv_at hl 0 rfl) ?_
  refine lv_iload_n hx hb dX4_use_1 rfl (lv_at hl 1 rfl) ?_
  obtain ⟨r1, σ2, hc3, hf⟩ := bnd_some hf
  refine mc_i (mc_V (As := [.int (a1)]) hC hK hA hX hG hS (kX4_frameWith l D cA A ad hc3) ykX4_frameWith wA_227 wA_228 wA_229 (hG.fix (by decide)) rfl rfl ⟨rfl, rfl, Nat.le_of_ble_eq_true rfl, Nat.le_of_ble_eq_true rfl⟩ rfl hl.1 rfl (Nat.le_of_ble_eq_true rfl) dX4_use_2 ⟨Nat.le_of_ble_eq_true rfl, Nat.le_of_ble_eq_true rfl⟩) hS (fun H locs hG hS => ?_)
  refine lv_istore_n (lv' := [(2, .int (r1)), (0, .ref (ad 0)), (1, .int (a1))]) hx hb dX4_use_5 rfl hl (by decide) rfl (fun ls hl => ?_)
  refine lv_aload_n hx hb dX4_use_6 rfl (lv_at hl 1 rfl) ?_
  refine mw_getl hx hb hts hown hK hG inlX4 rfl (hG.fix (by decide)) rfl 6 (by decide) 2 rfl wA_56 dX4_use_7 ?_
  refine lv_iload_n hx hb dX4_use_10 rfl (lv_at hl 0 rfl) ?_
  refine lv_aload_n hx hb dX4_use_11 rfl (lv_at hl 1 rfl) ?_
  refine mw_geti hx hb hts hown hK hG inlX4 rfl (hG.fix (by decide)) rfl 1 (by decide) rfl wA_454 dX4_use_12 ?_
  obtain ⟨h4, hf⟩ := ck_some hf
  refine mw_iast hx hb hK hG hS (hG.fix (by decide)) rfl (inb_in h4) dX4_use_15 (fun H locs hG hS => ?_)
  obtain ⟨σ5, e6, hf⟩ := ld_some hf
  rw [← e6] at hG
  clear e6
  refine lv_aload_n hx hb dX4_use_16 rfl (lv_at hl 1 rfl) ?_
  refine mw_getl hx hb hts hown hK hG inlX4 rfl (hG.fix (by decide)) rfl 7 (by decide) 3 rfl wA_57 dX4_use_17 ?_
  refine lv_iload_n hx hb dX4_use_20 rfl (lv_at hl 0 rfl) ?_
  refine lv_iconst (v := 1) hx hb dX4_use_21 (by decide) ?_
  obtain ⟨h7, hf⟩ := ck_some hf
  refine mw_zast hx hb hK hG hS (hG.fix (by decide)) rfl rfl (inb_in h7) dX4_use_22 (fun H locs hG hS => ?_)
  obtain ⟨σ8, e9, hf⟩ := ld_some hf
  rw [← e9] at hG
  clear e9
  exact mr_v hC hr hlocks hG hS hf (Nat.le_of_ble_eq_true rfl) (Nat.le_of_ble_eq_true rfl) dX4_use_23
def fX4_read (a1 : Int32) (a2 : Int32) (σ : pw_S) : Option (Int32 × pw_S) := bnd (fX4_begins a1 a2 0 σ) (fun r2 σ3 => (if r2 = 0 then some (0, σ3) else ld (si σ3 0 1 (((gi σ3 0 1) + 1))) (fun σ6 => bnd (fX4_at a1 ((a2 / 4)) σ6) (fun r8 σ9 => ck (inb (r8) (160)) (bnd (fX4_bring ((gi σ9 10 (Int32.toNatClampNeg (r8)))) σ9) (fun r12 σ13 => bnd (fX4_use ((gi σ9 10 (Int32.toNatClampNeg (r8)))) σ13) (fun r15 σ16 => ck (inb (((4 * (gi σ9 10 (Int32.toNatClampNeg (r8)))) + (a2 - a2 / 4 * 4))) (800)) (some ((gi σ16 7 (Int32.toNatClampNeg (((4 * (gi σ9 10 (Int32.toNatClampNeg (r8)))) + (a2 - a2 / 4 * 4))))), σ16)))))))))
set_option maxHeartbeats 4000000 in
set_option maxRecDepth 100000 in
theorem kX4_read (l : Launch) (D : va_G) (cA : Nat → ClassId) (A : Nat → Prop) (ad : Nat → Nat) {σ σ' : pw_S} {r : Int32} {a1 : Int32} {a2 : Int32} (hf : fX4_read a1 a2 σ = some (r, σ')) : Met l yX4_read (wA yX4_read cX4_read 4 (some .int)) ({ frames := 7, cells := 0, slots := 0, locals := 165 }) (pw_Pc D cA shM 15 A ad σ [.ref (ad 0), .int (a1), .int (a2)]) (pw_Qi D cA shM 15 A ad r σ') 0 0 A := by
  refine mw_enter (own := RX4) (by decide) rfl (Nat.le_of_ble_eq_true rfl) ?_
  intro p e s m args below meth c ls hC hr hlocks hK hA hX hG hS hl
  obtain ⟨hx, hb, hml, hown, hts⟩ := id hC
  have hl : lv_has ls 4 [(0, .ref (ad 0)), (1, .int (a1)), (2, .int (a2))] := hl
  unfold fX4_read at hf
  refine lv_aload_n hx hb dX4_read_0 rfl (lv_at hl 0 rfl) ?_
  refine lv_iload_n hx hb dX4_read_1 rfl (lv_at hl 1 rfl) ?_
  refine lv_iload_n hx hb dX4_read_2 rfl (lv_at hl 2 rfl) ?_
  refine lv_iconst (v := 0) hx hb dX4_read_3 (by decide) ?_
  obtain ⟨r2, σ3, hc4, hf⟩ := bnd_some hf
  refine mc_i (mc_V (As := [.int (a1), .int (a2), .int (0)]) hC hK hA hX hG hS (kX4_begins l D cA A ad hc4) ykX4_begins wA_455 wA_456 wA_457 (hG.fix (by decide)) rfl rfl ⟨rfl, rfl, Nat.le_of_ble_eq_true rfl, Nat.le_of_ble_eq_true rfl⟩ rfl hl.1 rfl (Nat.le_of_ble_eq_true rfl) dX4_read_4 ⟨Nat.le_of_ble_eq_true rfl, Nat.le_of_ble_eq_true rfl⟩) hS (fun H locs hG hS => ?_)
  refine lv_if_ne (tgt := 12) hx hb dX4_read_7 (by decide) (fun c5 => ?_) (fun c5 => ?_)
  · have hf := it_neg c5 hf
    refine lv_aload_n hx hb dX4_read_12 rfl (lv_at hl 0 rfl) ?_
    refine lv_dup hx hb dX4_read_13 rfl ?_
    refine mw_geti hx hb hts hown hK hG inlX4 rfl (hG.fix (by decide)) rfl 1 (by decide) rfl wA_454 dX4_read_14 ?_
    refine lv_iconst (v := 1) hx hb dX4_read_17 (by decide) ?_
    refine lv_iadd hx hb dX4_read_18 ?_
    refine mw_puti hx hb hts hown hK hG hS inlX4 tyX4 tyX4_ok nmX4 rfl (hG.fix (by decide)) rfl 1 (by decide) rfl rfl rfl rfl wA_454 dX4_read_19 (fun H locs hG hS => ?_)
    obtain ⟨σ6, e7, hf⟩ := ld_some hf
    rw [← e7] at hG
    clear e7
    refine lv_aload_n hx hb dX4_read_22 rfl (lv_at hl 0 rfl) ?_
    refine mw_getl hx hb hts hown hK hG inlX4 rfl (hG.fix (by decide)) rfl 15 (by decide) 10 rfl wA_64 dX4_read_23 ?_
    refine lv_iload_n hx hb dX4_read_26 rfl (lv_at hl 1 rfl) ?_
    refine lv_iload_n hx hb dX4_read_27 rfl (lv_at hl 2 rfl) ?_
    refine lv_iconst (v := 4) hx hb dX4_read_28 (by decide) ?_
    refine lv_idiv hx hb dX4_read_29 (by decide) ?_
    obtain ⟨r8, σ9, hc10, hf⟩ := bnd_some hf
    refine mc_i (mc_S (As := [.int (a1), .int ((a2 / 4))]) hC hK hA hX hG hS (kX4_at l D cA A ad hc10) ykX4_at wA_138 wA_139 ⟨rfl, rfl, Nat.le_of_ble_eq_true rfl, Nat.le_of_ble_eq_true rfl⟩ rfl hl.1 rfl (Nat.le_of_ble_eq_true rfl) dX4_read_30 ⟨Nat.le_of_ble_eq_true rfl, Nat.le_of_ble_eq_true rfl⟩) hS (fun H locs hG hS => ?_)
    obtain ⟨h11, hf⟩ := ck_some hf
    refine mw_iald hx hb hK hG (hG.fix (by decide)) rfl (inb_in h11) dX4_read_33 ?_
    refine lv_istore_n (lv' := [(3, .int ((gi σ9 10 (Int32.toNatClampNeg (r8))))), (0, .ref (ad 0)), (1, .int (a1)), (2, .int (a2))]) hx hb dX4_read_34 rfl hl (by decide) rfl (fun ls hl => ?_)
    refine lv_aload_n hx hb dX4_read_35 rfl (lv_at hl 1 rfl) ?_
    refine lv_iload_n hx hb dX4_read_36 rfl (lv_at hl 0 rfl) ?_
    obtain ⟨r12, σ13, hc14, hf⟩ := bnd_some hf
    refine mc_v (mc_V (As := [.int ((gi σ9 10 (Int32.toNatClampNeg (r8))))]) hC hK hA hX hG hS (kX4_bring l D cA A ad hc14) ykX4_bring wA_471 wA_472 wA_473 (hG.fix (by decide)) rfl rfl ⟨rfl, rfl, Nat.le_of_ble_eq_true rfl, Nat.le_of_ble_eq_true rfl⟩ rfl hl.1 rfl (Nat.le_of_ble_eq_true rfl) dX4_read_37 ⟨Nat.le_of_ble_eq_true rfl, Nat.le_of_ble_eq_true rfl⟩) hS (fun H locs hG hS => ?_)
    refine lv_aload_n hx hb dX4_read_40 rfl (lv_at hl 1 rfl) ?_
    refine lv_iload_n hx hb dX4_read_41 rfl (lv_at hl 0 rfl) ?_
    obtain ⟨r15, σ16, hc17, hf⟩ := bnd_some hf
    refine mc_v (mc_V (As := [.int ((gi σ9 10 (Int32.toNatClampNeg (r8))))]) hC hK hA hX hG hS (kX4_use l D cA A ad hc17) ykX4_use wA_503 wA_504 wA_505 (hG.fix (by decide)) rfl rfl ⟨rfl, rfl, Nat.le_of_ble_eq_true rfl, Nat.le_of_ble_eq_true rfl⟩ rfl hl.1 rfl (Nat.le_of_ble_eq_true rfl) dX4_read_42 ⟨Nat.le_of_ble_eq_true rfl, Nat.le_of_ble_eq_true rfl⟩) hS (fun H locs hG hS => ?_)
    refine lv_aload_n hx hb dX4_read_45 rfl (lv_at hl 1 rfl) ?_
    refine mw_getl hx hb hts hown hK hG inlX4 rfl (hG.fix (by decide)) rfl 11 (by decide) 7 rfl wA_61 dX4_read_46 ?_
    refine lv_iconst (v := 4) hx hb dX4_read_49 (by decide) ?_
    refine lv_iload_n hx hb dX4_read_50 rfl (lv_at hl 0 rfl) ?_
    refine lv_imul hx hb dX4_read_51 ?_
    refine lv_iload_n hx hb dX4_read_52 rfl (lv_at hl 3 rfl) ?_
    refine lv_iconst (v := 4) hx hb dX4_read_53 (by decide) ?_
    refine lv_irem hx hb dX4_read_54 (by decide) ?_
    refine lv_iadd hx hb dX4_read_55 ?_
    obtain ⟨h18, hf⟩ := ck_some hf
    refine mw_iald hx hb hK hG (hG.fix (by decide)) rfl (inb_in h18) dX4_read_56 ?_
    exact mr_i hC hr hlocks hG hS hf (Nat.le_of_ble_eq_true rfl) (Nat.le_of_ble_eq_true rfl) dX4_read_57
  · have hf := it_pos c5 hf
    refine lv_iconst (v := 0) hx hb dX4_read_10 (by decide) ?_
    exact mr_i hC hr hlocks hG hS hf (Nat.le_of_ble_eq_true rfl) (Nat.le_of_ble_eq_true rfl) dX4_read_11
def fX4_write_160 (x2 : Int32) (x3 : Int32) (x5 : Int32) (σ : pw_S) : Option (Int32 × pw_S) := ck (inb (x5) (200)) (ld (si σ 6 (Int32.toNatClampNeg (x5)) (1)) (fun σ7 => ck (inb (((4 * x5) + (x2 - x2 / 4 * 4))) (800)) (ck (inb (((4 * x5) + (x2 - x2 / 4 * 4))) (800)) (ld (si σ7 7 (Int32.toNatClampNeg (((4 * x5) + (x2 - x2 / 4 * 4)))) (x3)) (fun σ11 => some ((gi σ7 7 (Int32.toNatClampNeg (((4 * x5) + (x2 - x2 / 4 * 4))))), σ11))))))
def fX4_write_132 (x2 : Int32) (x3 : Int32) (x5 : Int32) (σ : pw_S) : Option (Int32 × pw_S) := bnd (fX4_use x5 σ) (fun r13 σ14 => bnd (fX4_slotWith x5 σ14) (fun r16 σ17 => (if r16 = (-1) then fX4_write_160 x2 x3 x5 σ17 else ck (inb (r16) (24)) (ld (si σ17 4 (Int32.toNatClampNeg (r16)) ((-1))) (fun σ21 => fX4_write_160 x2 x3 x5 σ21)))))
def fX4_write_76_b (bk76 : Int32 → Int32 → Int32 → Int32 → Int32 → Int32 → pw_S → Option (Int32 × pw_S)) (x2 : Int32) (x3 : Int32) (x4 : Int32) (x5 : Int32) (x6 : Int32) (x7 : Int32) (σ : pw_S) : Option (Int32 × pw_S) := (if 4 ≤ x7 then bnd (fX4_take x6 2 σ) (fun r24 σ25 => ck (inb (x4) (160)) (ld (si σ25 10 (Int32.toNatClampNeg (x4)) (x6)) (fun σ28 => fX4_write_132 x2 x3 x6 σ28))) else ck (inb (((4 * x5) + x7)) (800)) (ck (inb (((4 * x6) + x7)) (800)) (ld (si σ 7 (Int32.toNatClampNeg (((4 * x6) + x7))) ((gi σ 7 (Int32.toNatClampNeg (((4 * x5) + x7)))))) (fun σ32 => bk76 x2 x3 x4 x5 x6 (x7 + 1) σ32))))
def fX4_write_76 : Nat → Int32 → Int32 → Int32 → Int32 → Int32 → Int32 → pw_S → Option (Int32 × pw_S)
  | 0, _, _, _, _, _, _, _ => none
  | n + 1, x2, x3, x4, x5, x6, x7, σ => fX4_write_76_b (fX4_write_76 n) x2 x3 x4 x5 x6 x7 σ
def fX4_write (a1 : Int32) (a2 : Int32) (a3 : Int32) (σ : pw_S) : Option (Int32 × pw_S) := bnd (fX4_begins a1 a2 1 σ) (fun r34 σ35 => (if r34 = 0 then some (0, σ35) else ld (si σ35 0 1 (((gi σ35 0 1) + 1))) (fun σ38 => bnd (fX4_at a1 ((a2 / 4)) σ38) (fun r40 σ41 => ck (inb (r40) (160)) (bnd (fX4_bring ((gi σ41 10 (Int32.toNatClampNeg (r40)))) σ41) (fun r44 σ45 => ck (inb (r40) (160)) ((if (gi σ45 9 (Int32.toNatClampNeg (r40))) = 1 then bnd (fX4_references ((gi σ41 10 (Int32.toNatClampNeg (r40)))) σ45) (fun r49 σ50 => (if r49 ≤ 1 then fX4_write_132 a2 a3 ((gi σ41 10 (Int32.toNatClampNeg (r40)))) σ50 else bnd (fX4_create σ50) (fun r53 σ54 => fX4_write_76 1000 a2 a3 r40 ((gi σ41 10 (Int32.toNatClampNeg (r40)))) r53 0 σ54))) else fX4_write_132 a2 a3 ((gi σ41 10 (Int32.toNatClampNeg (r40)))) σ45))))))))
set_option maxHeartbeats 4000000 in
set_option maxRecDepth 100000 in
theorem kX4_write (l : Launch) (D : va_G) (cA : Nat → ClassId) (A : Nat → Prop) (ad : Nat → Nat) {σ σ' : pw_S} {r : Int32} {a1 : Int32} {a2 : Int32} {a3 : Int32} (hf : fX4_write a1 a2 a3 σ = some (r, σ')) : Met l yX4_write (wA yX4_write cX4_write 8 (some .int)) ({ frames := 7, cells := 0, slots := 0, locals := 165 }) (pw_Pc D cA shM 15 A ad σ [.ref (ad 0), .int (a1), .int (a2), .int (a3)]) (pw_Qi D cA shM 15 A ad r σ') 0 0 A := by
  refine mw_enter (own := RX4) (by decide) rfl (Nat.le_of_ble_eq_true rfl) ?_
  intro p e s m args below meth c ls hC hr hlocks hK hA hX hG hS hl
  obtain ⟨hx, hb, hml, hown, hts⟩ := id hC
  have K160 : ∀ (x2 : Int32) (x3 : Int32) (x5 : Int32) (σ : pw_S), fX4_write_160 x2 x3 x5 σ = some (r, σ') → mw_K p l e ({ frames := 7, cells := 0, slots := 0, locals := 165 }) s m args below meth c (MQ below (pw_Qi D cA shM 15 A ad r σ') args s 0 0 A) A D cA shM 15 ad 8 160 0 0 [(0, .ref (ad 0)), (2, .int (x2)), (3, .int (x3)), (5, .int (x5))] [] σ := by
    intro x2 x3 x5 σ hf H locs ls hG hS hl
    unfold fX4_write_160 at hf
    refine lv_aload_n hx hb dX4_write_160 rfl (lv_at hl 0 rfl) ?_
    refine mw_getl hx hb hts hown hK hG inlX4 rfl (hG.fix (by decide)) rfl 10 (by decide) 6 rfl wA_60 dX4_write_161 ?_
    refine lv_iload hx hb dX4_write_164 (lv_at hl 3 rfl) ?_
    refine lv_iconst (v := 1) hx hb dX4_write_166 (by decide) ?_
    obtain ⟨h6, hf⟩ := ck_some hf
    refine mw_zast hx hb hK hG hS (hG.fix (by decide)) rfl rfl (inb_in h6) dX4_write_167 (fun H locs hG hS => ?_)
    obtain ⟨σ7, e8, hf⟩ := ld_some hf
    rw [← e8] at hG
    clear e8
    refine lv_aload_n hx hb dX4_write_168 rfl (lv_at hl 0 rfl) ?_
    refine mw_getl hx hb hts hown hK hG inlX4 rfl (hG.fix (by decide)) rfl 11 (by decide) 7 rfl wA_61 dX4_write_169 ?_
    refine lv_iconst (v := 4) hx hb dX4_write_172 (by decide) ?_
    refine lv_iload hx hb dX4_write_173 (lv_at hl 3 rfl) ?_
    refine lv_imul hx hb dX4_write_175 ?_
    refine lv_iload_n hx hb dX4_write_176 rfl (lv_at hl 1 rfl) ?_
    refine lv_iconst (v := 4) hx hb dX4_write_177 (by decide) ?_
    refine lv_irem hx hb dX4_write_178 (by decide) ?_
    refine lv_iadd hx hb dX4_write_179 ?_
    obtain ⟨h9, hf⟩ := ck_some hf
    refine mw_iald hx hb hK hG (hG.fix (by decide)) rfl (inb_in h9) dX4_write_180 ?_
    refine lv_istore (lv' := [(7, .int ((gi σ7 7 (Int32.toNatClampNeg (((4 * x5) + (x2 - x2 / 4 * 4))))))), (0, .ref (ad 0)), (2, .int (x2)), (3, .int (x3)), (5, .int (x5))]) hx hb dX4_write_181 hl (by decide) rfl (fun ls hl => ?_)
    refine lv_aload_n hx hb dX4_write_183 rfl (lv_at hl 1 rfl) ?_
    refine mw_getl hx hb hts hown hK hG inlX4 rfl (hG.fix (by decide)) rfl 11 (by decide) 7 rfl wA_61 dX4_write_184 ?_
    refine lv_iconst (v := 4) hx hb dX4_write_187 (by decide) ?_
    refine lv_iload hx hb dX4_write_188 (lv_at hl 4 rfl) ?_
    refine lv_imul hx hb dX4_write_190 ?_
    refine lv_iload_n hx hb dX4_write_191 rfl (lv_at hl 2 rfl) ?_
    refine lv_iconst (v := 4) hx hb dX4_write_192 (by decide) ?_
    refine lv_irem hx hb dX4_write_193 (by decide) ?_
    refine lv_iadd hx hb dX4_write_194 ?_
    refine lv_iload_n hx hb dX4_write_195 rfl (lv_at hl 3 rfl) ?_
    obtain ⟨h10, hf⟩ := ck_some hf
    refine mw_iast hx hb hK hG hS (hG.fix (by decide)) rfl (inb_in h10) dX4_write_196 (fun H locs hG hS => ?_)
    obtain ⟨σ11, e12, hf⟩ := ld_some hf
    rw [← e12] at hG
    clear e12
    refine lv_iload hx hb dX4_write_197 (lv_at hl 0 rfl) ?_
    exact mr_i hC hr hlocks hG hS hf (Nat.le_of_ble_eq_true rfl) (Nat.le_of_ble_eq_true rfl) dX4_write_199
  have K132 : ∀ (x2 : Int32) (x3 : Int32) (x5 : Int32) (σ : pw_S), fX4_write_132 x2 x3 x5 σ = some (r, σ') → mw_K p l e ({ frames := 7, cells := 0, slots := 0, locals := 165 }) s m args below meth c (MQ below (pw_Qi D cA shM 15 A ad r σ') args s 0 0 A) A D cA shM 15 ad 8 132 0 0 [(0, .ref (ad 0)), (2, .int (x2)), (3, .int (x3)), (5, .int (x5))] [] σ := by
    intro x2 x3 x5 σ hf H locs ls hG hS hl
    unfold fX4_write_132 at hf
    refine lv_aload_n hx hb dX4_write_132 rfl (lv_at hl 0 rfl) ?_
    refine lv_iload hx hb dX4_write_133 (lv_at hl 3 rfl) ?_
    obtain ⟨r13, σ14, hc15, hf⟩ := bnd_some hf
    refine mc_v (mc_V (As := [.int (x5)]) hC hK hA hX hG hS (kX4_use l D cA A ad hc15) ykX4_use wA_503 wA_504 wA_505 (hG.fix (by decide)) rfl rfl ⟨rfl, rfl, Nat.le_of_ble_eq_true rfl, Nat.le_of_ble_eq_true rfl⟩ rfl hl.1 rfl (Nat.le_of_ble_eq_true rfl) dX4_write_135 ⟨Nat.le_of_ble_eq_true rfl, Nat.le_of_ble_eq_true rfl⟩) hS (fun H locs hG hS => ?_)
    refine lv_aload_n hx hb dX4_write_138 rfl (lv_at hl 0 rfl) ?_
    refine lv_iload hx hb dX4_write_139 (lv_at hl 3 rfl) ?_
    obtain ⟨r16, σ17, hc18, hf⟩ := bnd_some hf
    refine mc_i (mc_V (As := [.int (x5)]) hC hK hA hX hG hS (kX4_slotWith l D cA A ad hc18) ykX4_slotWith wA_231 wA_232 wA_233 (hG.fix (by decide)) rfl rfl ⟨rfl, rfl, Nat.le_of_ble_eq_true rfl, Nat.le_of_ble_eq_true rfl⟩ rfl hl.1 rfl (Nat.le_of_ble_eq_true rfl) dX4_write_141 ⟨Nat.le_of_ble_eq_true rfl, Nat.le_of_ble_eq_true rfl⟩) hS (fun H locs hG hS => ?_)
    refine lv_istore (lv' := [(6, .int (r16)), (0, .ref (ad 0)), (2, .int (x2)), (3, .int (x3)), (5, .int (x5))]) hx hb dX4_write_144 hl (by decide) rfl (fun ls hl => ?_)
    refine lv_iload hx hb dX4_write_146 (lv_at hl 0 rfl) ?_
    refine lv_iconst (v := (-1)) hx hb dX4_write_148 (by decide) ?_
    refine lv_icmp_eq (tgt := 160) hx hb dX4_write_149 (by decide) (fun c19 => ?_) (fun c19 => ?_)
    · have hf := it_pos c19 hf
      exact K160 _ _ _ _ hf _ _ _ hG hS (lv_sub hl [1, 2, 3, 4] rfl)
    · have hf := it_neg c19 hf
      refine lv_aload_n hx hb dX4_write_152 rfl (lv_at hl 1 rfl) ?_
      refine mw_getl hx hb hts hown hK hG inlX4 rfl (hG.fix (by decide)) rfl 8 (by decide) 4 rfl wA_58 dX4_write_153 ?_
      refine lv_iload hx hb dX4_write_156 (lv_at hl 0 rfl) ?_
      refine lv_iconst (v := (-1)) hx hb dX4_write_158 (by decide) ?_
      obtain ⟨h20, hf⟩ := ck_some hf
      refine mw_iast hx hb hK hG hS (hG.fix (by decide)) rfl (inb_in h20) dX4_write_159 (fun H locs hG hS => ?_)
      obtain ⟨σ21, e22, hf⟩ := ld_some hf
      rw [← e22] at hG
      clear e22
      exact K160 _ _ _ _ hf _ _ _ hG hS (lv_sub hl [1, 2, 3, 4] rfl)
  have K76 : ∀ (n76 : Nat) (x2 : Int32) (x3 : Int32) (x4 : Int32) (x5 : Int32) (x6 : Int32) (x7 : Int32) (σ : pw_S), fX4_write_76 n76 x2 x3 x4 x5 x6 x7 σ = some (r, σ') → mw_K p l e ({ frames := 7, cells := 0, slots := 0, locals := 165 }) s m args below meth c (MQ below (pw_Qi D cA shM 15 A ad r σ') args s 0 0 A) A D cA shM 15 ad 8 76 0 0 [(0, .ref (ad 0)), (2, .int (x2)), (3, .int (x3)), (4, .int (x4)), (5, .int (x5)), (6, .int (x6)), (7, .int (x7))] [] σ := by
    intro n76
    induction n76 with
    | zero => intro x2 x3 x4 x5 x6 x7 σ hf; cases hf
    | succ n76 ih76 =>
      intro x2 x3 x4 x5 x6 x7 σ hf H locs ls hG hS hl
      have hf : fX4_write_76_b (fX4_write_76 n76) x2 x3 x4 x5 x6 x7 σ = some (r, σ') := hf
      unfold fX4_write_76_b at hf
      refine lv_iload hx hb dX4_write_76 (lv_at hl 6 rfl) ?_
      refine lv_iconst (v := 4) hx hb dX4_write_78 (by decide) ?_
      refine lv_icmp_ge (tgt := 112) hx hb dX4_write_79 (by decide) (fun c23 => ?_) (fun c23 => ?_)
      · have hf := it_pos c23 hf
        refine lv_aload_n hx hb dX4_write_112 rfl (lv_at hl 0 rfl) ?_
        refine lv_iload hx hb dX4_write_113 (lv_at hl 5 rfl) ?_
        refine lv_iconst (v := 2) hx hb dX4_write_115 (by decide) ?_
        obtain ⟨r24, σ25, hc26, hf⟩ := bnd_some hf
        refine mc_v (mc_V (As := [.int (x6), .int (2)]) hC hK hA hX hG hS (kX4_take l D cA A ad hc26) ykX4_take wA_475 wA_476 wA_477 (hG.fix (by decide)) rfl rfl ⟨rfl, rfl, Nat.le_of_ble_eq_true rfl, Nat.le_of_ble_eq_true rfl⟩ rfl hl.1 rfl (Nat.le_of_ble_eq_true rfl) dX4_write_116 ⟨Nat.le_of_ble_eq_true rfl, Nat.le_of_ble_eq_true rfl⟩) hS (fun H locs hG hS => ?_)
        refine lv_aload_n hx hb dX4_write_119 rfl (lv_at hl 0 rfl) ?_
        refine mw_getl hx hb hts hown hK hG inlX4 rfl (hG.fix (by decide)) rfl 15 (by decide) 10 rfl wA_64 dX4_write_120 ?_
        refine lv_iload hx hb dX4_write_123 (lv_at hl 3 rfl) ?_
        refine lv_iload hx hb dX4_write_125 (lv_at hl 5 rfl) ?_
        obtain ⟨h27, hf⟩ := ck_some hf
        refine mw_iast hx hb hK hG hS (hG.fix (by decide)) rfl (inb_in h27) dX4_write_127 (fun H locs hG hS => ?_)
        obtain ⟨σ28, e29, hf⟩ := ld_some hf
        rw [← e29] at hG
        clear e29
        refine lv_iload hx hb dX4_write_128 (lv_at hl 5 rfl) ?_
        refine lv_istore (lv' := [(5, .int (x6)), (0, .ref (ad 0)), (2, .int (x2)), (3, .int (x3)), (4, .int (x4)), (6, .int (x6)), (7, .int (x7))]) hx hb dX4_write_130 hl (by decide) rfl (fun ls hl => ?_)
        exact K132 _ _ _ _ hf _ _ _ hG hS (lv_sub hl [1, 2, 3, 0] rfl)
      · have hf := it_neg c23 hf
        refine lv_aload_n hx hb dX4_write_82 rfl (lv_at hl 0 rfl) ?_
        refine mw_getl hx hb hts hown hK hG inlX4 rfl (hG.fix (by decide)) rfl 11 (by decide) 7 rfl wA_61 dX4_write_83 ?_
        refine lv_iconst (v := 4) hx hb dX4_write_86 (by decide) ?_
        refine lv_iload hx hb dX4_write_87 (lv_at hl 5 rfl) ?_
        refine lv_imul hx hb dX4_write_89 ?_
        refine lv_iload hx hb dX4_write_90 (lv_at hl 6 rfl) ?_
        refine lv_iadd hx hb dX4_write_92 ?_
        refine lv_aload_n hx hb dX4_write_93 rfl (lv_at hl 0 rfl) ?_
        refine mw_getl hx hb hts hown hK hG inlX4 rfl (hG.fix (by decide)) rfl 11 (by decide) 7 rfl wA_61 dX4_write_94 ?_
        refine lv_iconst (v := 4) hx hb dX4_write_97 (by decide) ?_
        refine lv_iload hx hb dX4_write_98 (lv_at hl 4 rfl) ?_
        refine lv_imul hx hb dX4_write_100 ?_
        refine lv_iload hx hb dX4_write_101 (lv_at hl 6 rfl) ?_
        refine lv_iadd hx hb dX4_write_103 ?_
        obtain ⟨h30, hf⟩ := ck_some hf
        refine mw_iald hx hb hK hG (hG.fix (by decide)) rfl (inb_in h30) dX4_write_104 ?_
        obtain ⟨h31, hf⟩ := ck_some hf
        refine mw_iast hx hb hK hG hS (hG.fix (by decide)) rfl (inb_in h31) dX4_write_105 (fun H locs hG hS => ?_)
        obtain ⟨σ32, e33, hf⟩ := ld_some hf
        rw [← e33] at hG
        clear e33
        refine lv_iinc (v := x7 + 1) (lv' := [(7, .int (x7 + 1)), (0, .ref (ad 0)), (2, .int (x2)), (3, .int (x3)), (4, .int (x4)), (5, .int (x5)), (6, .int (x6))]) hx hb dX4_write_106 hl (k := 6) rfl rfl (by decide) rfl (fun ls hl => ?_)
        refine lv_goto (tgt := 76) hx hb dX4_write_109 (by decide) ?_
        exact ih76 _ _ _ _ _ _ _ hf _ _ _ hG hS (lv_sub hl [1, 2, 3, 4, 5, 6, 0] rfl)
  have hl : lv_has ls 8 [(0, .ref (ad 0)), (1, .int (a1)), (2, .int (a2)), (3, .int (a3))] := hl
  unfold fX4_write at hf
  refine lv_aload_n hx hb dX4_write_0 rfl (lv_at hl 0 rfl) ?_
  refine lv_iload_n hx hb dX4_write_1 rfl (lv_at hl 1 rfl) ?_
  refine lv_iload_n hx hb dX4_write_2 rfl (lv_at hl 2 rfl) ?_
  refine lv_iconst (v := 1) hx hb dX4_write_3 (by decide) ?_
  obtain ⟨r34, σ35, hc36, hf⟩ := bnd_some hf
  refine mc_i (mc_V (As := [.int (a1), .int (a2), .int (1)]) hC hK hA hX hG hS (kX4_begins l D cA A ad hc36) ykX4_begins wA_455 wA_456 wA_457 (hG.fix (by decide)) rfl rfl ⟨rfl, rfl, Nat.le_of_ble_eq_true rfl, Nat.le_of_ble_eq_true rfl⟩ rfl hl.1 rfl (Nat.le_of_ble_eq_true rfl) dX4_write_4 ⟨Nat.le_of_ble_eq_true rfl, Nat.le_of_ble_eq_true rfl⟩) hS (fun H locs hG hS => ?_)
  refine lv_if_ne (tgt := 12) hx hb dX4_write_7 (by decide) (fun c37 => ?_) (fun c37 => ?_)
  · have hf := it_neg c37 hf
    refine lv_aload_n hx hb dX4_write_12 rfl (lv_at hl 0 rfl) ?_
    refine lv_dup hx hb dX4_write_13 rfl ?_
    refine mw_geti hx hb hts hown hK hG inlX4 rfl (hG.fix (by decide)) rfl 1 (by decide) rfl wA_454 dX4_write_14 ?_
    refine lv_iconst (v := 1) hx hb dX4_write_17 (by decide) ?_
    refine lv_iadd hx hb dX4_write_18 ?_
    refine mw_puti hx hb hts hown hK hG hS inlX4 tyX4 tyX4_ok nmX4 rfl (hG.fix (by decide)) rfl 1 (by decide) rfl rfl rfl rfl wA_454 dX4_write_19 (fun H locs hG hS => ?_)
    obtain ⟨σ38, e39, hf⟩ := ld_some hf
    rw [← e39] at hG
    clear e39
    refine lv_iload_n hx hb dX4_write_22 rfl (lv_at hl 1 rfl) ?_
    refine lv_iload_n hx hb dX4_write_23 rfl (lv_at hl 2 rfl) ?_
    refine lv_iconst (v := 4) hx hb dX4_write_24 (by decide) ?_
    refine lv_idiv hx hb dX4_write_25 (by decide) ?_
    obtain ⟨r40, σ41, hc42, hf⟩ := bnd_some hf
    refine mc_i (mc_S (As := [.int (a1), .int ((a2 / 4))]) hC hK hA hX hG hS (kX4_at l D cA A ad hc42) ykX4_at wA_138 wA_139 ⟨rfl, rfl, Nat.le_of_ble_eq_true rfl, Nat.le_of_ble_eq_true rfl⟩ rfl hl.1 rfl (Nat.le_of_ble_eq_true rfl) dX4_write_26 ⟨Nat.le_of_ble_eq_true rfl, Nat.le_of_ble_eq_true rfl⟩) hS (fun H locs hG hS => ?_)
    refine lv_istore (lv' := [(4, .int (r40)), (0, .ref (ad 0)), (1, .int (a1)), (2, .int (a2)), (3, .int (a3))]) hx hb dX4_write_29 hl (by decide) rfl (fun ls hl => ?_)
    refine lv_aload_n hx hb dX4_write_31 rfl (lv_at hl 1 rfl) ?_
    refine mw_getl hx hb hts hown hK hG inlX4 rfl (hG.fix (by decide)) rfl 15 (by decide) 10 rfl wA_64 dX4_write_32 ?_
    refine lv_iload hx hb dX4_write_35 (lv_at hl 0 rfl) ?_
    obtain ⟨h43, hf⟩ := ck_some hf
    refine mw_iald hx hb hK hG (hG.fix (by decide)) rfl (inb_in h43) dX4_write_37 ?_
    refine lv_istore (lv' := [(5, .int ((gi σ41 10 (Int32.toNatClampNeg (r40))))), (4, .int (r40)), (0, .ref (ad 0)), (1, .int (a1)), (2, .int (a2)), (3, .int (a3))]) hx hb dX4_write_38 hl (by decide) rfl (fun ls hl => ?_)
    refine lv_aload_n hx hb dX4_write_40 rfl (lv_at hl 2 rfl) ?_
    refine lv_iload hx hb dX4_write_41 (lv_at hl 0 rfl) ?_
    obtain ⟨r44, σ45, hc46, hf⟩ := bnd_some hf
    refine mc_v (mc_V (As := [.int ((gi σ41 10 (Int32.toNatClampNeg (r40))))]) hC hK hA hX hG hS (kX4_bring l D cA A ad hc46) ykX4_bring wA_471 wA_472 wA_473 (hG.fix (by decide)) rfl rfl ⟨rfl, rfl, Nat.le_of_ble_eq_true rfl, Nat.le_of_ble_eq_true rfl⟩ rfl hl.1 rfl (Nat.le_of_ble_eq_true rfl) dX4_write_43 ⟨Nat.le_of_ble_eq_true rfl, Nat.le_of_ble_eq_true rfl⟩) hS (fun H locs hG hS => ?_)
    refine lv_aload_n hx hb dX4_write_46 rfl (lv_at hl 2 rfl) ?_
    refine mw_getl hx hb hts hown hK hG inlX4 rfl (hG.fix (by decide)) rfl 14 (by decide) 9 rfl wA_63 dX4_write_47 ?_
    refine lv_iload hx hb dX4_write_50 (lv_at hl 1 rfl) ?_
    obtain ⟨h47, hf⟩ := ck_some hf
    refine mw_iald hx hb hK hG (hG.fix (by decide)) rfl (inb_in h47) dX4_write_52 ?_
    refine lv_iconst (v := 1) hx hb dX4_write_53 (by decide) ?_
    refine lv_icmp_ne (tgt := 132) hx hb dX4_write_54 (by decide) (fun c48 => ?_) (fun c48 => ?_)
    · have hf := it_neg c48 hf
      exact K132 _ _ _ _ hf _ _ _ hG hS (lv_sub hl [2, 4, 5, 0] rfl)
    · have hf := it_pos c48 hf
      refine lv_aload_n hx hb dX4_write_57 rfl (lv_at hl 2 rfl) ?_
      refine lv_iload hx hb dX4_write_58 (lv_at hl 0 rfl) ?_
      obtain ⟨r49, σ50, hc51, hf⟩ := bnd_some hf
      refine mc_i (mc_V (As := [.int ((gi σ41 10 (Int32.toNatClampNeg (r40))))]) hC hK hA hX hG hS (kX4_references l D cA A ad hc51) ykX4_references wA_214 wA_215 wA_216 (hG.fix (by decide)) rfl rfl ⟨rfl, rfl, Nat.le_of_ble_eq_true rfl, Nat.le_of_ble_eq_true rfl⟩ rfl hl.1 rfl (Nat.le_of_ble_eq_true rfl) dX4_write_60 ⟨Nat.le_of_ble_eq_true rfl, Nat.le_of_ble_eq_true rfl⟩) hS (fun H locs hG hS => ?_)
      refine lv_iconst (v := 1) hx hb dX4_write_63 (by decide) ?_
      refine lv_icmp_le (tgt := 132) hx hb dX4_write_64 (by decide) (fun c52 => ?_) (fun c52 => ?_)
      · have hf := it_pos c52 hf
        exact K132 _ _ _ _ hf _ _ _ hG hS (lv_sub hl [2, 4, 5, 0] rfl)
      · have hf := it_neg c52 hf
        refine lv_aload_n hx hb dX4_write_67 rfl (lv_at hl 2 rfl) ?_
        obtain ⟨r53, σ54, hc55, hf⟩ := bnd_some hf
        refine mc_i (mc_V (As := []) hC hK hA hX hG hS (kX4_create l D cA A ad hc55) ykX4_create wA_278 wA_279 wA_280 (hG.fix (by decide)) rfl rfl ⟨rfl, rfl, Nat.le_of_ble_eq_true rfl, Nat.le_of_ble_eq_true rfl⟩ rfl hl.1 rfl (Nat.le_of_ble_eq_true rfl) dX4_write_68 ⟨Nat.le_of_ble_eq_true rfl, Nat.le_of_ble_eq_true rfl⟩) hS (fun H locs hG hS => ?_)
        refine lv_istore (lv' := [(6, .int (r53)), (5, .int ((gi σ41 10 (Int32.toNatClampNeg (r40))))), (4, .int (r40)), (0, .ref (ad 0)), (1, .int (a1)), (2, .int (a2)), (3, .int (a3))]) hx hb dX4_write_71 hl (by decide) rfl (fun ls hl => ?_)
        refine lv_iconst (v := 0) hx hb dX4_write_73 (by decide) ?_
        refine lv_istore (lv' := [(7, .int (0)), (6, .int (r53)), (5, .int ((gi σ41 10 (Int32.toNatClampNeg (r40))))), (4, .int (r40)), (0, .ref (ad 0)), (1, .int (a1)), (2, .int (a2)), (3, .int (a3))]) hx hb dX4_write_74 hl (by decide) rfl (fun ls hl => ?_)
        exact K76 1000 _ _ _ _ _ _ _ hf _ _ _ hG hS (lv_sub hl [4, 6, 7, 3, 2, 1, 0] rfl)
  · have hf := it_pos c37 hf
    refine lv_iconst (v := 0) hx hb dX4_write_10 (by decide) ?_
    exact mr_i hC hr hlocks hG hS hf (Nat.le_of_ble_eq_true rfl) (Nat.le_of_ble_eq_true rfl) dX4_write_11
def fX4_sync_53 (bk9 : Int32 → Int32 → pw_S → Option (Int32 × pw_S)) (x1 : Int32) (x2 : Int32) (σ : pw_S) : Option (Int32 × pw_S) := bk9 x1 (x2 + 1) σ
def fX4_sync_9_b (bk9 : Int32 → Int32 → pw_S → Option (Int32 × pw_S)) (x1 : Int32) (x2 : Int32) (σ : pw_S) : Option (Int32 × pw_S) := (if (gi σ 0 3) ≤ x2 then some (x1, σ) else ck (inb (x2) (12)) ((if (gi σ 1 (Int32.toNatClampNeg (x2))) = (-1) then fX4_sync_53 bk9 x1 x2 σ else ck (inb (x2) (12)) (bnd (fX4_isDirty ((gi σ 1 (Int32.toNatClampNeg (x2)))) σ) (fun r8 σ9 => (if r8 = 0 then fX4_sync_53 bk9 x1 x2 σ9 else ck (inb (x2) (12)) (bnd (fX4_writeOut ((gi σ9 1 (Int32.toNatClampNeg (x2)))) σ9) (fun r13 σ14 => fX4_sync_53 bk9 ((x1 + r13)) x2 σ14))))))))
def fX4_sync_9 : Nat → Int32 → Int32 → pw_S → Option (Int32 × pw_S)
  | 0, _, _, _ => none
  | n + 1, x1, x2, σ => fX4_sync_9_b (fX4_sync_9 n) x1 x2 σ
def fX4_sync (σ : pw_S) : Option (Int32 × pw_S) := ld (si σ 0 0 (0)) (fun σ16 => fX4_sync_9 1000 0 0 σ16)
set_option maxHeartbeats 4000000 in
set_option maxRecDepth 100000 in
theorem kX4_sync (l : Launch) (D : va_G) (cA : Nat → ClassId) (A : Nat → Prop) (ad : Nat → Nat) {σ σ' : pw_S} {r : Int32} (hf : fX4_sync σ = some (r, σ')) : Met l yX4_sync (wA yX4_sync cX4_sync 3 (some .int)) ({ frames := 4, cells := 0, slots := 0, locals := 95 }) (pw_Pc D cA shM 15 A ad σ [.ref (ad 0)]) (pw_Qi D cA shM 15 A ad r σ') 0 0 A := by
  refine mw_enter (own := RX4) (by decide) rfl (Nat.le_of_ble_eq_true rfl) ?_
  intro p e s m args below meth c ls hC hr hlocks hK hA hX hG hS hl
  obtain ⟨hx, hb, hml, hown, hts⟩ := id hC
  have K9 : ∀ (n9 : Nat) (x1 : Int32) (x2 : Int32) (σ : pw_S), fX4_sync_9 n9 x1 x2 σ = some (r, σ') → mw_K p l e ({ frames := 4, cells := 0, slots := 0, locals := 95 }) s m args below meth c (MQ below (pw_Qi D cA shM 15 A ad r σ') args s 0 0 A) A D cA shM 15 ad 3 9 0 0 [(0, .ref (ad 0)), (1, .int (x1)), (2, .int (x2))] [] σ := by
    intro n9
    induction n9 with
    | zero => intro x1 x2 σ hf; cases hf
    | succ n9 ih9 =>
      have K53 : ∀ (x1 : Int32) (x2 : Int32) (σ : pw_S), fX4_sync_53 (fX4_sync_9 n9) x1 x2 σ = some (r, σ') → mw_K p l e ({ frames := 4, cells := 0, slots := 0, locals := 95 }) s m args below meth c (MQ below (pw_Qi D cA shM 15 A ad r σ') args s 0 0 A) A D cA shM 15 ad 3 53 0 0 [(0, .ref (ad 0)), (1, .int (x1)), (2, .int (x2))] [] σ := by
        intro x1 x2 σ hf H locs ls hG hS hl
        unfold fX4_sync_53 at hf
        refine lv_iinc (v := x2 + 1) (lv' := [(2, .int (x2 + 1)), (0, .ref (ad 0)), (1, .int (x1))]) hx hb dX4_sync_53 hl (k := 2) rfl rfl (by decide) rfl (fun ls hl => ?_)
        refine lv_goto (tgt := 9) hx hb dX4_sync_56 (by decide) ?_
        exact ih9 _ _ _ hf _ _ _ hG hS (lv_sub hl [1, 2, 0] rfl)
      intro x1 x2 σ hf H locs ls hG hS hl
      have hf : fX4_sync_9_b (fX4_sync_9 n9) x1 x2 σ = some (r, σ') := hf
      unfold fX4_sync_9_b at hf
      refine lv_iload_n hx hb dX4_sync_9 rfl (lv_at hl 2 rfl) ?_
      refine lv_aload_n hx hb dX4_sync_10 rfl (lv_at hl 0 rfl) ?_
      refine mw_geti hx hb hts hown hK hG inlX4 rfl (hG.fix (by decide)) rfl 3 (by decide) rfl wA_54 dX4_sync_11 ?_
      refine lv_icmp_ge (tgt := 59) hx hb dX4_sync_14 (by decide) (fun c4 => ?_) (fun c4 => ?_)
      · have hf := it_pos c4 hf
        refine lv_iload_n hx hb dX4_sync_59 rfl (lv_at hl 1 rfl) ?_
        exact mr_i hC hr hlocks hG hS hf (Nat.le_of_ble_eq_true rfl) (Nat.le_of_ble_eq_true rfl) dX4_sync_60
      · have hf := it_neg c4 hf
        refine lv_aload_n hx hb dX4_sync_17 rfl (lv_at hl 0 rfl) ?_
        refine mw_getl hx hb hts hown hK hG inlX4 rfl (hG.fix (by decide)) rfl 5 (by decide) 1 rfl wA_55 dX4_sync_18 ?_
        refine lv_iload_n hx hb dX4_sync_21 rfl (lv_at hl 2 rfl) ?_
        obtain ⟨h5, hf⟩ := ck_some hf
        refine mw_iald hx hb hK hG (hG.fix (by decide)) rfl (inb_in h5) dX4_sync_22 ?_
        refine lv_iconst (v := (-1)) hx hb dX4_sync_23 (by decide) ?_
        refine lv_icmp_eq (tgt := 53) hx hb dX4_sync_24 (by decide) (fun c6 => ?_) (fun c6 => ?_)
        · have hf := it_pos c6 hf
          exact K53 _ _ _ hf _ _ _ hG hS (lv_sub hl [0, 1, 2] rfl)
        · have hf := it_neg c6 hf
          refine lv_aload_n hx hb dX4_sync_27 rfl (lv_at hl 0 rfl) ?_
          refine lv_aload_n hx hb dX4_sync_28 rfl (lv_at hl 0 rfl) ?_
          refine mw_getl hx hb hts hown hK hG inlX4 rfl (hG.fix (by decide)) rfl 5 (by decide) 1 rfl wA_55 dX4_sync_29 ?_
          refine lv_iload_n hx hb dX4_sync_32 rfl (lv_at hl 2 rfl) ?_
          obtain ⟨h7, hf⟩ := ck_some hf
          refine mw_iald hx hb hK hG (hG.fix (by decide)) rfl (inb_in h7) dX4_sync_33 ?_
          obtain ⟨r8, σ9, hc10, hf⟩ := bnd_some hf
          refine mc_i (mc_V (As := [.int ((gi σ 1 (Int32.toNatClampNeg (x2))))]) hC hK hA hX hG hS (kX4_isDirty l D cA A ad hc10) ykX4_isDirty wA_467 wA_468 wA_469 (hG.fix (by decide)) rfl rfl ⟨rfl, rfl, Nat.le_of_ble_eq_true rfl, Nat.le_of_ble_eq_true rfl⟩ rfl hl.1 rfl (Nat.le_of_ble_eq_true rfl) dX4_sync_34 ⟨Nat.le_of_ble_eq_true rfl, Nat.le_of_ble_eq_true rfl⟩) hS (fun H locs hG hS => ?_)
          refine lv_if_eq (tgt := 53) hx hb dX4_sync_37 (by decide) (fun c11 => ?_) (fun c11 => ?_)
          · have hf := it_pos c11 hf
            exact K53 _ _ _ hf _ _ _ hG hS (lv_sub hl [0, 1, 2] rfl)
          · have hf := it_neg c11 hf
            refine lv_iload_n hx hb dX4_sync_40 rfl (lv_at hl 1 rfl) ?_
            refine lv_aload_n hx hb dX4_sync_41 rfl (lv_at hl 0 rfl) ?_
            refine lv_aload_n hx hb dX4_sync_42 rfl (lv_at hl 0 rfl) ?_
            refine mw_getl hx hb hts hown hK hG inlX4 rfl (hG.fix (by decide)) rfl 5 (by decide) 1 rfl wA_55 dX4_sync_43 ?_
            refine lv_iload_n hx hb dX4_sync_46 rfl (lv_at hl 2 rfl) ?_
            obtain ⟨h12, hf⟩ := ck_some hf
            refine mw_iald hx hb hK hG (hG.fix (by decide)) rfl (inb_in h12) dX4_sync_47 ?_
            obtain ⟨r13, σ14, hc15, hf⟩ := bnd_some hf
            refine mc_i (mc_V (As := [.int ((gi σ9 1 (Int32.toNatClampNeg (x2))))]) hC hK hA hX hG hS (kX4_writeOut l D cA A ad hc15) ykX4_writeOut wA_487 wA_488 wA_489 (hG.fix (by decide)) rfl rfl ⟨rfl, rfl, Nat.le_of_ble_eq_true rfl, Nat.le_of_ble_eq_true rfl⟩ rfl hl.1 rfl (Nat.le_of_ble_eq_true rfl) dX4_sync_48 ⟨Nat.le_of_ble_eq_true rfl, Nat.le_of_ble_eq_true rfl⟩) hS (fun H locs hG hS => ?_)
            refine lv_iadd hx hb dX4_sync_51 ?_
            refine lv_istore_n (lv' := [(1, .int ((x1 + r13))), (0, .ref (ad 0)), (2, .int (x2))]) hx hb dX4_sync_52 rfl hl (by decide) rfl (fun ls hl => ?_)
            exact K53 _ _ _ hf _ _ _ hG hS (lv_sub hl [1, 0, 2] rfl)
  have hl : lv_has ls 3 [(0, .ref (ad 0))] := hl
  unfold fX4_sync at hf
  refine lv_aload_n hx hb dX4_sync_0 rfl (lv_at hl 0 rfl) ?_
  refine lv_iconst (v := 0) hx hb dX4_sync_1 (by decide) ?_
  refine mw_puti hx hb hts hown hK hG hS inlX4 tyX4 tyX4_ok nmX4 rfl (hG.fix (by decide)) rfl 0 (by decide) rfl rfl rfl rfl wA_93 dX4_sync_2 (fun H locs hG hS => ?_)
  obtain ⟨σ16, e17, hf⟩ := ld_some hf
  rw [← e17] at hG
  clear e17
  refine lv_iconst (v := 0) hx hb dX4_sync_5 (by decide) ?_
  refine lv_istore_n (lv' := [(1, .int (0)), (0, .ref (ad 0))]) hx hb dX4_sync_6 rfl hl (by decide) rfl (fun ls hl => ?_)
  refine lv_iconst (v := 0) hx hb dX4_sync_7 (by decide) ?_
  refine lv_istore_n (lv' := [(2, .int (0)), (1, .int (0)), (0, .ref (ad 0))]) hx hb dX4_sync_8 rfl hl (by decide) rfl (fun ls hl => ?_)
  exact K9 1000 _ _ _ hf _ _ _ hG hS (lv_sub hl [2, 1, 0] rfl)
def fX4_time (σ : pw_S) : Option (Int32 × pw_S) := ld (si σ 0 0 (0)) (fun σ1 => some ((gi σ1 0 1), σ1))
set_option maxHeartbeats 4000000 in
set_option maxRecDepth 100000 in
theorem kX4_time (l : Launch) (D : va_G) (cA : Nat → ClassId) (A : Nat → Prop) (ad : Nat → Nat) {σ σ' : pw_S} {r : Int32} (hf : fX4_time σ = some (r, σ')) : Met l yX4_time (wA yX4_time cX4_time 1 (some .int)) ({ frames := 0, cells := 0, slots := 0, locals := 0 }) (pw_Pc D cA shM 15 A ad σ [.ref (ad 0)]) (pw_Qi D cA shM 15 A ad r σ') 0 0 A := by
  refine mw_enter (own := RX4) (by decide) rfl (Nat.le_of_ble_eq_true rfl) ?_
  intro p e s m args below meth c ls hC hr hlocks hK hA hX hG hS hl
  obtain ⟨hx, hb, hml, hown, hts⟩ := id hC
  have hl : lv_has ls 1 [(0, .ref (ad 0))] := hl
  unfold fX4_time at hf
  refine lv_aload_n hx hb dX4_time_0 rfl (lv_at hl 0 rfl) ?_
  refine lv_iconst (v := 0) hx hb dX4_time_1 (by decide) ?_
  refine mw_puti hx hb hts hown hK hG hS inlX4 tyX4 tyX4_ok nmX4 rfl (hG.fix (by decide)) rfl 0 (by decide) rfl rfl rfl rfl wA_93 dX4_time_2 (fun H locs hG hS => ?_)
  obtain ⟨σ1, e2, hf⟩ := ld_some hf
  rw [← e2] at hG
  clear e2
  refine lv_aload_n hx hb dX4_time_5 rfl (lv_at hl 0 rfl) ?_
  refine mw_geti hx hb hts hown hK hG inlX4 rfl (hG.fix (by decide)) rfl 1 (by decide) rfl wA_454 dX4_time_6 ?_
  exact mr_i hC hr hlocks hG hS hf (Nat.le_of_ble_eq_true rfl) (Nat.le_of_ble_eq_true rfl) dX4_time_9
def fX4_hand (σ : pw_S) : Option (Int32 × pw_S) := ld (si σ 0 0 (0)) (fun σ1 => some ((gi σ1 0 4), σ1))
set_option maxHeartbeats 4000000 in
set_option maxRecDepth 100000 in
theorem kX4_hand (l : Launch) (D : va_G) (cA : Nat → ClassId) (A : Nat → Prop) (ad : Nat → Nat) {σ σ' : pw_S} {r : Int32} (hf : fX4_hand σ = some (r, σ')) : Met l yX4_hand (wA yX4_hand cX4_hand 1 (some .int)) ({ frames := 0, cells := 0, slots := 0, locals := 0 }) (pw_Pc D cA shM 15 A ad σ [.ref (ad 0)]) (pw_Qi D cA shM 15 A ad r σ') 0 0 A := by
  refine mw_enter (own := RX4) (by decide) rfl (Nat.le_of_ble_eq_true rfl) ?_
  intro p e s m args below meth c ls hC hr hlocks hK hA hX hG hS hl
  obtain ⟨hx, hb, hml, hown, hts⟩ := id hC
  have hl : lv_has ls 1 [(0, .ref (ad 0))] := hl
  unfold fX4_hand at hf
  refine lv_aload_n hx hb dX4_hand_0 rfl (lv_at hl 0 rfl) ?_
  refine lv_iconst (v := 0) hx hb dX4_hand_1 (by decide) ?_
  refine mw_puti hx hb hts hown hK hG hS inlX4 tyX4 tyX4_ok nmX4 rfl (hG.fix (by decide)) rfl 0 (by decide) rfl rfl rfl rfl wA_93 dX4_hand_2 (fun H locs hG hS => ?_)
  obtain ⟨σ1, e2, hf⟩ := ld_some hf
  rw [← e2] at hG
  clear e2
  refine lv_aload_n hx hb dX4_hand_5 rfl (lv_at hl 0 rfl) ?_
  refine mw_geti hx hb hts hown hK hG inlX4 rfl (hG.fix (by decide)) rfl 4 (by decide) rfl wA_94 dX4_hand_6 ?_
  exact mr_i hC hr hlocks hG hS hf (Nat.le_of_ble_eq_true rfl) (Nat.le_of_ble_eq_true rfl) dX4_hand_9
def fX4_frameAt_23 (y0 : Int32) (σ : pw_S) : Option (Int32 × pw_S) := some (y0, σ)
def fX4_frameAt (a1 : Int32) (σ : pw_S) : Option (Int32 × pw_S) := ck (inb (a1) (160)) ((if (gi σ 9 (Int32.toNatClampNeg (a1))) ≤ 0 then fX4_frameAt_23 ((-1)) σ else ck (inb (a1) (160)) (bnd (fX4_frameWith ((gi σ 10 (Int32.toNatClampNeg (a1)))) σ) (fun r5 σ6 => fX4_frameAt_23 r5 σ6))))
set_option maxHeartbeats 4000000 in
set_option maxRecDepth 100000 in
theorem kX4_frameAt (l : Launch) (D : va_G) (cA : Nat → ClassId) (A : Nat → Prop) (ad : Nat → Nat) {σ σ' : pw_S} {r : Int32} {a1 : Int32} (hf : fX4_frameAt a1 σ = some (r, σ')) : Met l yX4_frameAt (wA yX4_frameAt cX4_frameAt 2 (some .int)) ({ frames := 1, cells := 0, slots := 0, locals := 22 }) (pw_Pc D cA shM 15 A ad σ [.ref (ad 0), .int (a1)]) (pw_Qi D cA shM 15 A ad r σ') 0 0 A := by
  refine mw_enter (own := RX4) (by decide) rfl (Nat.le_of_ble_eq_true rfl) ?_
  intro p e s m args below meth c ls hC hr hlocks hK hA hX hG hS hl
  obtain ⟨hx, hb, hml, hown, hts⟩ := id hC
  have K23 : ∀ (y0 : Int32) (σ : pw_S), fX4_frameAt_23 y0 σ = some (r, σ') → mw_K p l e ({ frames := 1, cells := 0, slots := 0, locals := 22 }) s m args below meth c (MQ below (pw_Qi D cA shM 15 A ad r σ') args s 0 0 A) A D cA shM 15 ad 2 23 0 0 [] [.int (y0)] σ := by
    intro y0 σ hf H locs ls hG hS hl
    unfold fX4_frameAt_23 at hf
    exact mr_i hC hr hlocks hG hS hf (Nat.le_of_ble_eq_true rfl) (Nat.le_of_ble_eq_true rfl) dX4_frameAt_23
  have hl : lv_has ls 2 [(0, .ref (ad 0)), (1, .int (a1))] := hl
  unfold fX4_frameAt at hf
  refine lv_aload_n hx hb dX4_frameAt_0 rfl (lv_at hl 0 rfl) ?_
  refine mw_getl hx hb hts hown hK hG inlX4 rfl (hG.fix (by decide)) rfl 14 (by decide) 9 rfl wA_63 dX4_frameAt_1 ?_
  refine lv_iload_n hx hb dX4_frameAt_4 rfl (lv_at hl 1 rfl) ?_
  obtain ⟨h2, hf⟩ := ck_some hf
  refine mw_iald hx hb hK hG (hG.fix (by decide)) rfl (inb_in h2) dX4_frameAt_5 ?_
  refine lv_if_le (tgt := 22) hx hb dX4_frameAt_6 (by decide) (fun c3 => ?_) (fun c3 => ?_)
  · have hf := it_pos c3 hf
    refine lv_iconst (v := (-1)) hx hb dX4_frameAt_22 (by decide) ?_
    exact K23 _ _ hf _ _ _ hG hS (lv_sub hl [] rfl)
  · have hf := it_neg c3 hf
    refine lv_aload_n hx hb dX4_frameAt_9 rfl (lv_at hl 0 rfl) ?_
    refine lv_aload_n hx hb dX4_frameAt_10 rfl (lv_at hl 0 rfl) ?_
    refine mw_getl hx hb hts hown hK hG inlX4 rfl (hG.fix (by decide)) rfl 15 (by decide) 10 rfl wA_64 dX4_frameAt_11 ?_
    refine lv_iload_n hx hb dX4_frameAt_14 rfl (lv_at hl 1 rfl) ?_
    obtain ⟨h4, hf⟩ := ck_some hf
    refine mw_iald hx hb hK hG (hG.fix (by decide)) rfl (inb_in h4) dX4_frameAt_15 ?_
    obtain ⟨r5, σ6, hc7, hf⟩ := bnd_some hf
    refine mc_i (mc_V (As := [.int ((gi σ 10 (Int32.toNatClampNeg (a1))))]) hC hK hA hX hG hS (kX4_frameWith l D cA A ad hc7) ykX4_frameWith wA_227 wA_228 wA_229 (hG.fix (by decide)) rfl rfl ⟨rfl, rfl, Nat.le_of_ble_eq_true rfl, Nat.le_of_ble_eq_true rfl⟩ rfl hl.1 rfl (Nat.le_of_ble_eq_true rfl) dX4_frameAt_16 ⟨Nat.le_of_ble_eq_true rfl, Nat.le_of_ble_eq_true rfl⟩) hS (fun H locs hG hS => ?_)
    refine lv_goto (tgt := 23) hx hb dX4_frameAt_19 (by decide) ?_
    exact K23 _ _ hf _ _ _ hG hS (lv_sub hl [] rfl)
def fX4_slotAt_23 (y0 : Int32) (σ : pw_S) : Option (Int32 × pw_S) := some (y0, σ)
def fX4_slotAt (a1 : Int32) (σ : pw_S) : Option (Int32 × pw_S) := ck (inb (a1) (160)) ((if (gi σ 9 (Int32.toNatClampNeg (a1))) ≤ 0 then fX4_slotAt_23 ((-1)) σ else ck (inb (a1) (160)) (bnd (fX4_slotWith ((gi σ 10 (Int32.toNatClampNeg (a1)))) σ) (fun r5 σ6 => fX4_slotAt_23 r5 σ6))))
set_option maxHeartbeats 4000000 in
set_option maxRecDepth 100000 in
theorem kX4_slotAt (l : Launch) (D : va_G) (cA : Nat → ClassId) (A : Nat → Prop) (ad : Nat → Nat) {σ σ' : pw_S} {r : Int32} {a1 : Int32} (hf : fX4_slotAt a1 σ = some (r, σ')) : Met l yX4_slotAt (wA yX4_slotAt cX4_slotAt 2 (some .int)) ({ frames := 1, cells := 0, slots := 0, locals := 22 }) (pw_Pc D cA shM 15 A ad σ [.ref (ad 0), .int (a1)]) (pw_Qi D cA shM 15 A ad r σ') 0 0 A := by
  refine mw_enter (own := RX4) (by decide) rfl (Nat.le_of_ble_eq_true rfl) ?_
  intro p e s m args below meth c ls hC hr hlocks hK hA hX hG hS hl
  obtain ⟨hx, hb, hml, hown, hts⟩ := id hC
  have K23 : ∀ (y0 : Int32) (σ : pw_S), fX4_slotAt_23 y0 σ = some (r, σ') → mw_K p l e ({ frames := 1, cells := 0, slots := 0, locals := 22 }) s m args below meth c (MQ below (pw_Qi D cA shM 15 A ad r σ') args s 0 0 A) A D cA shM 15 ad 2 23 0 0 [] [.int (y0)] σ := by
    intro y0 σ hf H locs ls hG hS hl
    unfold fX4_slotAt_23 at hf
    exact mr_i hC hr hlocks hG hS hf (Nat.le_of_ble_eq_true rfl) (Nat.le_of_ble_eq_true rfl) dX4_slotAt_23
  have hl : lv_has ls 2 [(0, .ref (ad 0)), (1, .int (a1))] := hl
  unfold fX4_slotAt at hf
  refine lv_aload_n hx hb dX4_slotAt_0 rfl (lv_at hl 0 rfl) ?_
  refine mw_getl hx hb hts hown hK hG inlX4 rfl (hG.fix (by decide)) rfl 14 (by decide) 9 rfl wA_63 dX4_slotAt_1 ?_
  refine lv_iload_n hx hb dX4_slotAt_4 rfl (lv_at hl 1 rfl) ?_
  obtain ⟨h2, hf⟩ := ck_some hf
  refine mw_iald hx hb hK hG (hG.fix (by decide)) rfl (inb_in h2) dX4_slotAt_5 ?_
  refine lv_if_le (tgt := 22) hx hb dX4_slotAt_6 (by decide) (fun c3 => ?_) (fun c3 => ?_)
  · have hf := it_pos c3 hf
    refine lv_iconst (v := (-1)) hx hb dX4_slotAt_22 (by decide) ?_
    exact K23 _ _ hf _ _ _ hG hS (lv_sub hl [] rfl)
  · have hf := it_neg c3 hf
    refine lv_aload_n hx hb dX4_slotAt_9 rfl (lv_at hl 0 rfl) ?_
    refine lv_aload_n hx hb dX4_slotAt_10 rfl (lv_at hl 0 rfl) ?_
    refine mw_getl hx hb hts hown hK hG inlX4 rfl (hG.fix (by decide)) rfl 15 (by decide) 10 rfl wA_64 dX4_slotAt_11 ?_
    refine lv_iload_n hx hb dX4_slotAt_14 rfl (lv_at hl 1 rfl) ?_
    obtain ⟨h4, hf⟩ := ck_some hf
    refine mw_iald hx hb hK hG (hG.fix (by decide)) rfl (inb_in h4) dX4_slotAt_15 ?_
    obtain ⟨r5, σ6, hc7, hf⟩ := bnd_some hf
    refine mc_i (mc_V (As := [.int ((gi σ 10 (Int32.toNatClampNeg (a1))))]) hC hK hA hX hG hS (kX4_slotWith l D cA A ad hc7) ykX4_slotWith wA_231 wA_232 wA_233 (hG.fix (by decide)) rfl rfl ⟨rfl, rfl, Nat.le_of_ble_eq_true rfl, Nat.le_of_ble_eq_true rfl⟩ rfl hl.1 rfl (Nat.le_of_ble_eq_true rfl) dX4_slotAt_16 ⟨Nat.le_of_ble_eq_true rfl, Nat.le_of_ble_eq_true rfl⟩) hS (fun H locs hG hS => ?_)
    refine lv_goto (tgt := 23) hx hb dX4_slotAt_19 (by decide) ?_
    exact K23 _ _ hf _ _ _ hG hS (lv_sub hl [] rfl)
def fX4_frameOf_22 (y0 : Int32) (σ : pw_S) : Option (Int32 × pw_S) := some (y0, σ)
def fX4_frameOf (a1 : Int32) (a2 : Int32) (σ : pw_S) : Option (Int32 × pw_S) := bnd (fX4_asks a1 a2 σ) (fun r2 σ3 => (if r2 = 0 then fX4_frameOf_22 0 σ3 else bnd (fX4_at a1 a2 σ3) (fun r6 σ7 => bnd (fX4_frameAt r6 σ7) (fun r9 σ10 => fX4_frameOf_22 r9 σ10))))
set_option maxHeartbeats 4000000 in
set_option maxRecDepth 100000 in
theorem kX4_frameOf (l : Launch) (D : va_G) (cA : Nat → ClassId) (A : Nat → Prop) (ad : Nat → Nat) {σ σ' : pw_S} {r : Int32} {a1 : Int32} {a2 : Int32} (hf : fX4_frameOf a1 a2 σ = some (r, σ')) : Met l yX4_frameOf (wA yX4_frameOf cX4_frameOf 3 (some .int)) ({ frames := 2, cells := 0, slots := 0, locals := 43 }) (pw_Pc D cA shM 15 A ad σ [.ref (ad 0), .int (a1), .int (a2)]) (pw_Qi D cA shM 15 A ad r σ') 0 0 A := by
  refine mw_enter (own := RX4) (by decide) rfl (Nat.le_of_ble_eq_true rfl) ?_
  intro p e s m args below meth c ls hC hr hlocks hK hA hX hG hS hl
  obtain ⟨hx, hb, hml, hown, hts⟩ := id hC
  have K22 : ∀ (y0 : Int32) (σ : pw_S), fX4_frameOf_22 y0 σ = some (r, σ') → mw_K p l e ({ frames := 2, cells := 0, slots := 0, locals := 43 }) s m args below meth c (MQ below (pw_Qi D cA shM 15 A ad r σ') args s 0 0 A) A D cA shM 15 ad 3 22 0 0 [] [.int (y0)] σ := by
    intro y0 σ hf H locs ls hG hS hl
    unfold fX4_frameOf_22 at hf
    exact mr_i hC hr hlocks hG hS hf (Nat.le_of_ble_eq_true rfl) (Nat.le_of_ble_eq_true rfl) dX4_frameOf_22
  have hl : lv_has ls 3 [(0, .ref (ad 0)), (1, .int (a1)), (2, .int (a2))] := hl
  unfold fX4_frameOf at hf
  refine lv_aload_n hx hb dX4_frameOf_0 rfl (lv_at hl 0 rfl) ?_
  refine lv_iload_n hx hb dX4_frameOf_1 rfl (lv_at hl 1 rfl) ?_
  refine lv_iload_n hx hb dX4_frameOf_2 rfl (lv_at hl 2 rfl) ?_
  obtain ⟨r2, σ3, hc4, hf⟩ := bnd_some hf
  refine mc_i (mc_V (As := [.int (a1), .int (a2)]) hC hK hA hX hG hS (kX4_asks l D cA A ad hc4) ykX4_asks wA_349 wA_350 wA_351 (hG.fix (by decide)) rfl rfl ⟨rfl, rfl, Nat.le_of_ble_eq_true rfl, Nat.le_of_ble_eq_true rfl⟩ rfl hl.1 rfl (Nat.le_of_ble_eq_true rfl) dX4_frameOf_3 ⟨Nat.le_of_ble_eq_true rfl, Nat.le_of_ble_eq_true rfl⟩) hS (fun H locs hG hS => ?_)
  refine lv_if_eq (tgt := 21) hx hb dX4_frameOf_6 (by decide) (fun c5 => ?_) (fun c5 => ?_)
  · have hf := it_pos c5 hf
    refine lv_iconst (v := 0) hx hb dX4_frameOf_21 (by decide) ?_
    exact K22 _ _ hf _ _ _ hG hS (lv_sub hl [] rfl)
  · have hf := it_neg c5 hf
    refine lv_aload_n hx hb dX4_frameOf_9 rfl (lv_at hl 0 rfl) ?_
    refine lv_iload_n hx hb dX4_frameOf_10 rfl (lv_at hl 1 rfl) ?_
    refine lv_iload_n hx hb dX4_frameOf_11 rfl (lv_at hl 2 rfl) ?_
    obtain ⟨r6, σ7, hc8, hf⟩ := bnd_some hf
    refine mc_i (mc_S (As := [.int (a1), .int (a2)]) hC hK hA hX hG hS (kX4_at l D cA A ad hc8) ykX4_at wA_138 wA_139 ⟨rfl, rfl, Nat.le_of_ble_eq_true rfl, Nat.le_of_ble_eq_true rfl⟩ rfl hl.1 rfl (Nat.le_of_ble_eq_true rfl) dX4_frameOf_12 ⟨Nat.le_of_ble_eq_true rfl, Nat.le_of_ble_eq_true rfl⟩) hS (fun H locs hG hS => ?_)
    obtain ⟨r9, σ10, hc11, hf⟩ := bnd_some hf
    refine mc_i (mc_V (As := [.int (r6)]) hC hK hA hX hG hS (kX4_frameAt l D cA A ad hc11) ykX4_frameAt wA_561 wA_562 wA_563 (hG.fix (by decide)) rfl rfl ⟨rfl, rfl, Nat.le_of_ble_eq_true rfl, Nat.le_of_ble_eq_true rfl⟩ rfl hl.1 rfl (Nat.le_of_ble_eq_true rfl) dX4_frameOf_15 ⟨Nat.le_of_ble_eq_true rfl, Nat.le_of_ble_eq_true rfl⟩) hS (fun H locs hG hS => ?_)
    refine lv_goto (tgt := 22) hx hb dX4_frameOf_18 (by decide) ?_
    exact K22 _ _ hf _ _ _ hG hS (lv_sub hl [] rfl)
def fX4_slotOf_22 (y0 : Int32) (σ : pw_S) : Option (Int32 × pw_S) := some (y0, σ)
def fX4_slotOf (a1 : Int32) (a2 : Int32) (σ : pw_S) : Option (Int32 × pw_S) := bnd (fX4_asks a1 a2 σ) (fun r2 σ3 => (if r2 = 0 then fX4_slotOf_22 0 σ3 else bnd (fX4_at a1 a2 σ3) (fun r6 σ7 => bnd (fX4_slotAt r6 σ7) (fun r9 σ10 => fX4_slotOf_22 r9 σ10))))
set_option maxHeartbeats 4000000 in
set_option maxRecDepth 100000 in
theorem kX4_slotOf (l : Launch) (D : va_G) (cA : Nat → ClassId) (A : Nat → Prop) (ad : Nat → Nat) {σ σ' : pw_S} {r : Int32} {a1 : Int32} {a2 : Int32} (hf : fX4_slotOf a1 a2 σ = some (r, σ')) : Met l yX4_slotOf (wA yX4_slotOf cX4_slotOf 3 (some .int)) ({ frames := 2, cells := 0, slots := 0, locals := 43 }) (pw_Pc D cA shM 15 A ad σ [.ref (ad 0), .int (a1), .int (a2)]) (pw_Qi D cA shM 15 A ad r σ') 0 0 A := by
  refine mw_enter (own := RX4) (by decide) rfl (Nat.le_of_ble_eq_true rfl) ?_
  intro p e s m args below meth c ls hC hr hlocks hK hA hX hG hS hl
  obtain ⟨hx, hb, hml, hown, hts⟩ := id hC
  have K22 : ∀ (y0 : Int32) (σ : pw_S), fX4_slotOf_22 y0 σ = some (r, σ') → mw_K p l e ({ frames := 2, cells := 0, slots := 0, locals := 43 }) s m args below meth c (MQ below (pw_Qi D cA shM 15 A ad r σ') args s 0 0 A) A D cA shM 15 ad 3 22 0 0 [] [.int (y0)] σ := by
    intro y0 σ hf H locs ls hG hS hl
    unfold fX4_slotOf_22 at hf
    exact mr_i hC hr hlocks hG hS hf (Nat.le_of_ble_eq_true rfl) (Nat.le_of_ble_eq_true rfl) dX4_slotOf_22
  have hl : lv_has ls 3 [(0, .ref (ad 0)), (1, .int (a1)), (2, .int (a2))] := hl
  unfold fX4_slotOf at hf
  refine lv_aload_n hx hb dX4_slotOf_0 rfl (lv_at hl 0 rfl) ?_
  refine lv_iload_n hx hb dX4_slotOf_1 rfl (lv_at hl 1 rfl) ?_
  refine lv_iload_n hx hb dX4_slotOf_2 rfl (lv_at hl 2 rfl) ?_
  obtain ⟨r2, σ3, hc4, hf⟩ := bnd_some hf
  refine mc_i (mc_V (As := [.int (a1), .int (a2)]) hC hK hA hX hG hS (kX4_asks l D cA A ad hc4) ykX4_asks wA_349 wA_350 wA_351 (hG.fix (by decide)) rfl rfl ⟨rfl, rfl, Nat.le_of_ble_eq_true rfl, Nat.le_of_ble_eq_true rfl⟩ rfl hl.1 rfl (Nat.le_of_ble_eq_true rfl) dX4_slotOf_3 ⟨Nat.le_of_ble_eq_true rfl, Nat.le_of_ble_eq_true rfl⟩) hS (fun H locs hG hS => ?_)
  refine lv_if_eq (tgt := 21) hx hb dX4_slotOf_6 (by decide) (fun c5 => ?_) (fun c5 => ?_)
  · have hf := it_pos c5 hf
    refine lv_iconst (v := 0) hx hb dX4_slotOf_21 (by decide) ?_
    exact K22 _ _ hf _ _ _ hG hS (lv_sub hl [] rfl)
  · have hf := it_neg c5 hf
    refine lv_aload_n hx hb dX4_slotOf_9 rfl (lv_at hl 0 rfl) ?_
    refine lv_iload_n hx hb dX4_slotOf_10 rfl (lv_at hl 1 rfl) ?_
    refine lv_iload_n hx hb dX4_slotOf_11 rfl (lv_at hl 2 rfl) ?_
    obtain ⟨r6, σ7, hc8, hf⟩ := bnd_some hf
    refine mc_i (mc_S (As := [.int (a1), .int (a2)]) hC hK hA hX hG hS (kX4_at l D cA A ad hc8) ykX4_at wA_138 wA_139 ⟨rfl, rfl, Nat.le_of_ble_eq_true rfl, Nat.le_of_ble_eq_true rfl⟩ rfl hl.1 rfl (Nat.le_of_ble_eq_true rfl) dX4_slotOf_12 ⟨Nat.le_of_ble_eq_true rfl, Nat.le_of_ble_eq_true rfl⟩) hS (fun H locs hG hS => ?_)
    obtain ⟨r9, σ10, hc11, hf⟩ := bnd_some hf
    refine mc_i (mc_V (As := [.int (r6)]) hC hK hA hX hG hS (kX4_slotAt l D cA A ad hc11) ykX4_slotAt wA_576 wA_577 wA_578 (hG.fix (by decide)) rfl rfl ⟨rfl, rfl, Nat.le_of_ble_eq_true rfl, Nat.le_of_ble_eq_true rfl⟩ rfl hl.1 rfl (Nat.le_of_ble_eq_true rfl) dX4_slotOf_15 ⟨Nat.le_of_ble_eq_true rfl, Nat.le_of_ble_eq_true rfl⟩) hS (fun H locs hG hS => ?_)
    refine lv_goto (tgt := 22) hx hb dX4_slotOf_18 (by decide) ?_
    exact K22 _ _ hf _ _ _ hG hS (lv_sub hl [] rfl)
def fX4_sharersOf_40 (y0 : Int32) (σ : pw_S) : Option (Int32 × pw_S) := some (y0, σ)
def fX4_sharersOf_39 (σ : pw_S) : Option (Int32 × pw_S) := fX4_sharersOf_40 0 σ
def fX4_sharersOf (a1 : Int32) (a2 : Int32) (σ : pw_S) : Option (Int32 × pw_S) := bnd (fX4_asks a1 a2 σ) (fun r3 σ4 => (if r3 = 0 then fX4_sharersOf_39 σ4 else bnd (fX4_at a1 a2 σ4) (fun r7 σ8 => ck (inb (r7) (160)) ((if (gi σ8 9 (Int32.toNatClampNeg (r7))) ≤ 0 then fX4_sharersOf_39 σ8 else bnd (fX4_at a1 a2 σ8) (fun r12 σ13 => ck (inb (r12) (160)) (bnd (fX4_references ((gi σ13 10 (Int32.toNatClampNeg (r12)))) σ13) (fun r16 σ17 => fX4_sharersOf_40 r16 σ17))))))))
set_option maxHeartbeats 4000000 in
set_option maxRecDepth 100000 in
theorem kX4_sharersOf (l : Launch) (D : va_G) (cA : Nat → ClassId) (A : Nat → Prop) (ad : Nat → Nat) {σ σ' : pw_S} {r : Int32} {a1 : Int32} {a2 : Int32} (hf : fX4_sharersOf a1 a2 σ = some (r, σ')) : Met l yX4_sharersOf (wA yX4_sharersOf cX4_sharersOf 3 (some .int)) ({ frames := 2, cells := 0, slots := 0, locals := 43 }) (pw_Pc D cA shM 15 A ad σ [.ref (ad 0), .int (a1), .int (a2)]) (pw_Qi D cA shM 15 A ad r σ') 0 0 A := by
  refine mw_enter (own := RX4) (by decide) rfl (Nat.le_of_ble_eq_true rfl) ?_
  intro p e s m args below meth c ls hC hr hlocks hK hA hX hG hS hl
  obtain ⟨hx, hb, hml, hown, hts⟩ := id hC
  have K40 : ∀ (y0 : Int32) (σ : pw_S), fX4_sharersOf_40 y0 σ = some (r, σ') → mw_K p l e ({ frames := 2, cells := 0, slots := 0, locals := 43 }) s m args below meth c (MQ below (pw_Qi D cA shM 15 A ad r σ') args s 0 0 A) A D cA shM 15 ad 3 40 0 0 [] [.int (y0)] σ := by
    intro y0 σ hf H locs ls hG hS hl
    unfold fX4_sharersOf_40 at hf
    exact mr_i hC hr hlocks hG hS hf (Nat.le_of_ble_eq_true rfl) (Nat.le_of_ble_eq_true rfl) dX4_sharersOf_40
  have K39 : ∀ (σ : pw_S), fX4_sharersOf_39  σ = some (r, σ') → mw_K p l e ({ frames := 2, cells := 0, slots := 0, locals := 43 }) s m args below meth c (MQ below (pw_Qi D cA shM 15 A ad r σ') args s 0 0 A) A D cA shM 15 ad 3 39 0 0 [] [] σ := by
    intro  σ hf H locs ls hG hS hl
    unfold fX4_sharersOf_39 at hf
    refine lv_iconst (v := 0) hx hb dX4_sharersOf_39 (by decide) ?_
    exact K40 _ _ hf _ _ _ hG hS (lv_sub hl [] rfl)
  have hl : lv_has ls 3 [(0, .ref (ad 0)), (1, .int (a1)), (2, .int (a2))] := hl
  unfold fX4_sharersOf at hf
  refine lv_aload_n hx hb dX4_sharersOf_0 rfl (lv_at hl 0 rfl) ?_
  refine lv_iload_n hx hb dX4_sharersOf_1 rfl (lv_at hl 1 rfl) ?_
  refine lv_iload_n hx hb dX4_sharersOf_2 rfl (lv_at hl 2 rfl) ?_
  obtain ⟨r3, σ4, hc5, hf⟩ := bnd_some hf
  refine mc_i (mc_V (As := [.int (a1), .int (a2)]) hC hK hA hX hG hS (kX4_asks l D cA A ad hc5) ykX4_asks wA_349 wA_350 wA_351 (hG.fix (by decide)) rfl rfl ⟨rfl, rfl, Nat.le_of_ble_eq_true rfl, Nat.le_of_ble_eq_true rfl⟩ rfl hl.1 rfl (Nat.le_of_ble_eq_true rfl) dX4_sharersOf_3 ⟨Nat.le_of_ble_eq_true rfl, Nat.le_of_ble_eq_true rfl⟩) hS (fun H locs hG hS => ?_)
  refine lv_if_eq (tgt := 39) hx hb dX4_sharersOf_6 (by decide) (fun c6 => ?_) (fun c6 => ?_)
  · have hf := it_pos c6 hf
    exact K39 _ hf _ _ _ hG hS (lv_sub hl [] rfl)
  · have hf := it_neg c6 hf
    refine lv_aload_n hx hb dX4_sharersOf_9 rfl (lv_at hl 0 rfl) ?_
    refine mw_getl hx hb hts hown hK hG inlX4 rfl (hG.fix (by decide)) rfl 14 (by decide) 9 rfl wA_63 dX4_sharersOf_10 ?_
    refine lv_iload_n hx hb dX4_sharersOf_13 rfl (lv_at hl 1 rfl) ?_
    refine lv_iload_n hx hb dX4_sharersOf_14 rfl (lv_at hl 2 rfl) ?_
    obtain ⟨r7, σ8, hc9, hf⟩ := bnd_some hf
    refine mc_i (mc_S (As := [.int (a1), .int (a2)]) hC hK hA hX hG hS (kX4_at l D cA A ad hc9) ykX4_at wA_138 wA_139 ⟨rfl, rfl, Nat.le_of_ble_eq_true rfl, Nat.le_of_ble_eq_true rfl⟩ rfl hl.1 rfl (Nat.le_of_ble_eq_true rfl) dX4_sharersOf_15 ⟨Nat.le_of_ble_eq_true rfl, Nat.le_of_ble_eq_true rfl⟩) hS (fun H locs hG hS => ?_)
    obtain ⟨h10, hf⟩ := ck_some hf
    refine mw_iald hx hb hK hG (hG.fix (by decide)) rfl (inb_in h10) dX4_sharersOf_18 ?_
    refine lv_if_le (tgt := 39) hx hb dX4_sharersOf_19 (by decide) (fun c11 => ?_) (fun c11 => ?_)
    · have hf := it_pos c11 hf
      exact K39 _ hf _ _ _ hG hS (lv_sub hl [] rfl)
    · have hf := it_neg c11 hf
      refine lv_aload_n hx hb dX4_sharersOf_22 rfl (lv_at hl 0 rfl) ?_
      refine lv_aload_n hx hb dX4_sharersOf_23 rfl (lv_at hl 0 rfl) ?_
      refine mw_getl hx hb hts hown hK hG inlX4 rfl (hG.fix (by decide)) rfl 15 (by decide) 10 rfl wA_64 dX4_sharersOf_24 ?_
      refine lv_iload_n hx hb dX4_sharersOf_27 rfl (lv_at hl 1 rfl) ?_
      refine lv_iload_n hx hb dX4_sharersOf_28 rfl (lv_at hl 2 rfl) ?_
      obtain ⟨r12, σ13, hc14, hf⟩ := bnd_some hf
      refine mc_i (mc_S (As := [.int (a1), .int (a2)]) hC hK hA hX hG hS (kX4_at l D cA A ad hc14) ykX4_at wA_138 wA_139 ⟨rfl, rfl, Nat.le_of_ble_eq_true rfl, Nat.le_of_ble_eq_true rfl⟩ rfl hl.1 rfl (Nat.le_of_ble_eq_true rfl) dX4_sharersOf_29 ⟨Nat.le_of_ble_eq_true rfl, Nat.le_of_ble_eq_true rfl⟩) hS (fun H locs hG hS => ?_)
      obtain ⟨h15, hf⟩ := ck_some hf
      refine mw_iald hx hb hK hG (hG.fix (by decide)) rfl (inb_in h15) dX4_sharersOf_32 ?_
      obtain ⟨r16, σ17, hc18, hf⟩ := bnd_some hf
      refine mc_i (mc_V (As := [.int ((gi σ13 10 (Int32.toNatClampNeg (r12))))]) hC hK hA hX hG hS (kX4_references l D cA A ad hc18) ykX4_references wA_214 wA_215 wA_216 (hG.fix (by decide)) rfl rfl ⟨rfl, rfl, Nat.le_of_ble_eq_true rfl, Nat.le_of_ble_eq_true rfl⟩ rfl hl.1 rfl (Nat.le_of_ble_eq_true rfl) dX4_sharersOf_33 ⟨Nat.le_of_ble_eq_true rfl, Nat.le_of_ble_eq_true rfl⟩) hS (fun H locs hG hS => ?_)
      refine lv_goto (tgt := 40) hx hb dX4_sharersOf_36 (by decide) ?_
      exact K40 _ _ hf _ _ _ hG hS (lv_sub hl [] rfl)
def fX4_asksFrame_33 (y0 : Int32) (σ : pw_S) : Option (Int32 × pw_S) := ck (isB (y0)) (some (y0, σ))
def fX4_asksFrame_18 (y0 : Int32) (σ : pw_S) : Option (Int32 × pw_S) := ld (si σ 0 0 (y0)) (fun σ5 => (if (gi σ5 0 0) = 0 then fX4_asksFrame_33 1 σ5 else fX4_asksFrame_33 0 σ5))
def fX4_asksFrame_17 (σ : pw_S) : Option (Int32 × pw_S) := fX4_asksFrame_18 1 σ
def fX4_asksFrame (a1 : Int32) (σ : pw_S) : Option (Int32 × pw_S) := (if a1 < 0 then fX4_asksFrame_17 σ else (if (gi σ 0 3) ≤ a1 then fX4_asksFrame_17 σ else fX4_asksFrame_18 0 σ))
set_option maxHeartbeats 4000000 in
set_option maxRecDepth 100000 in
theorem kX4_asksFrame (l : Launch) (D : va_G) (cA : Nat → ClassId) (A : Nat → Prop) (ad : Nat → Nat) {σ σ' : pw_S} {r : Int32} {a1 : Int32} (hf : fX4_asksFrame a1 σ = some (r, σ')) : Met l yX4_asksFrame (wA yX4_asksFrame cX4_asksFrame 2 (some .boolean)) ({ frames := 0, cells := 0, slots := 0, locals := 0 }) (pw_Pc D cA shM 15 A ad σ [.ref (ad 0), .int (a1)]) (pw_Qi D cA shM 15 A ad r σ') 0 0 A := by
  refine mw_enter (own := RX4) (by decide) rfl (Nat.le_of_ble_eq_true rfl) ?_
  intro p e s m args below meth c ls hC hr hlocks hK hA hX hG hS hl
  obtain ⟨hx, hb, hml, hown, hts⟩ := id hC
  have K33 : ∀ (y0 : Int32) (σ : pw_S), fX4_asksFrame_33 y0 σ = some (r, σ') → mw_K p l e ({ frames := 0, cells := 0, slots := 0, locals := 0 }) s m args below meth c (MQ below (pw_Qi D cA shM 15 A ad r σ') args s 0 0 A) A D cA shM 15 ad 2 33 0 0 [] [.int (y0)] σ := by
    intro y0 σ hf H locs ls hG hS hl
    unfold fX4_asksFrame_33 at hf
    obtain ⟨h4, hf⟩ := ck_some hf
    exact mr_z hC hr hlocks hG hS (isB_or h4) hf (Nat.le_of_ble_eq_true rfl) (Nat.le_of_ble_eq_true rfl) dX4_asksFrame_33
  have K18 : ∀ (y0 : Int32) (σ : pw_S), fX4_asksFrame_18 y0 σ = some (r, σ') → mw_K p l e ({ frames := 0, cells := 0, slots := 0, locals := 0 }) s m args below meth c (MQ below (pw_Qi D cA shM 15 A ad r σ') args s 0 0 A) A D cA shM 15 ad 2 18 0 0 [(0, .ref (ad 0))] [.int (y0), .ref (ad 0)] σ := by
    intro y0 σ hf H locs ls hG hS hl
    unfold fX4_asksFrame_18 at hf
    refine mw_puti hx hb hts hown hK hG hS inlX4 tyX4 tyX4_ok nmX4 rfl (hG.fix (by decide)) rfl 0 (by decide) rfl rfl rfl rfl wA_93 dX4_asksFrame_18 (fun H locs hG hS => ?_)
    obtain ⟨σ5, e6, hf⟩ := ld_some hf
    rw [← e6] at hG
    clear e6
    refine lv_aload_n hx hb dX4_asksFrame_21 rfl (lv_at hl 0 rfl) ?_
    refine mw_geti hx hb hts hown hK hG inlX4 rfl (hG.fix (by decide)) rfl 0 (by decide) rfl wA_93 dX4_asksFrame_22 ?_
    refine lv_if_ne (tgt := 32) hx hb dX4_asksFrame_25 (by decide) (fun c7 => ?_) (fun c7 => ?_)
    · have hf := it_neg c7 hf
      refine lv_iconst (v := 0) hx hb dX4_asksFrame_32 (by decide) ?_
      exact K33 _ _ hf _ _ _ hG hS (lv_sub hl [] rfl)
    · have hf := it_pos c7 hf
      refine lv_iconst (v := 1) hx hb dX4_asksFrame_28 (by decide) ?_
      refine lv_goto (tgt := 33) hx hb dX4_asksFrame_29 (by decide) ?_
      exact K33 _ _ hf _ _ _ hG hS (lv_sub hl [] rfl)
  have K17 : ∀ (σ : pw_S), fX4_asksFrame_17  σ = some (r, σ') → mw_K p l e ({ frames := 0, cells := 0, slots := 0, locals := 0 }) s m args below meth c (MQ below (pw_Qi D cA shM 15 A ad r σ') args s 0 0 A) A D cA shM 15 ad 2 17 0 0 [(0, .ref (ad 0))] [.ref (ad 0)] σ := by
    intro  σ hf H locs ls hG hS hl
    unfold fX4_asksFrame_17 at hf
    refine lv_iconst (v := 1) hx hb dX4_asksFrame_17 (by decide) ?_
    exact K18 _ _ hf _ _ _ hG hS (lv_sub hl [0] rfl)
  have hl : lv_has ls 2 [(0, .ref (ad 0)), (1, .int (a1))] := hl
  unfold fX4_asksFrame at hf
  refine lv_aload_n hx hb dX4_asksFrame_0 rfl (lv_at hl 0 rfl) ?_
  refine lv_iload_n hx hb dX4_asksFrame_1 rfl (lv_at hl 1 rfl) ?_
  refine lv_if_lt (tgt := 17) hx hb dX4_asksFrame_2 (by decide) (fun c8 => ?_) (fun c8 => ?_)
  · have hf := it_pos c8 hf
    exact K17 _ hf _ _ _ hG hS (lv_sub hl [0] rfl)
  · have hf := it_neg c8 hf
    refine lv_iload_n hx hb dX4_asksFrame_5 rfl (lv_at hl 1 rfl) ?_
    refine lv_aload_n hx hb dX4_asksFrame_6 rfl (lv_at hl 0 rfl) ?_
    refine mw_geti hx hb hts hown hK hG inlX4 rfl (hG.fix (by decide)) rfl 3 (by decide) rfl wA_54 dX4_asksFrame_7 ?_
    refine lv_icmp_ge (tgt := 17) hx hb dX4_asksFrame_10 (by decide) (fun c9 => ?_) (fun c9 => ?_)
    · have hf := it_pos c9 hf
      exact K17 _ hf _ _ _ hG hS (lv_sub hl [0] rfl)
    · have hf := it_neg c9 hf
      refine lv_iconst (v := 0) hx hb dX4_asksFrame_13 (by decide) ?_
      refine lv_goto (tgt := 18) hx hb dX4_asksFrame_14 (by decide) ?_
      exact K18 _ _ hf _ _ _ hG hS (lv_sub hl [0] rfl)
def fX4_stateOf_32 (y0 : Int32) (σ : pw_S) : Option (Int32 × pw_S) := some (y0, σ)
def fX4_stateOf (a1 : Int32) (σ : pw_S) : Option (Int32 × pw_S) := ck (inb (a1) (12)) ((if (gi σ 1 (Int32.toNatClampNeg (a1))) = (-1) then fX4_stateOf_32 0 σ else ck (inb (a1) (12)) (bnd (fX4_isDirty ((gi σ 1 (Int32.toNatClampNeg (a1)))) σ) (fun r6 σ7 => (if r6 = 0 then fX4_stateOf_32 1 σ7 else fX4_stateOf_32 2 σ7)))))
set_option maxHeartbeats 4000000 in
set_option maxRecDepth 100000 in
theorem kX4_stateOf (l : Launch) (D : va_G) (cA : Nat → ClassId) (A : Nat → Prop) (ad : Nat → Nat) {σ σ' : pw_S} {r : Int32} {a1 : Int32} (hf : fX4_stateOf a1 σ = some (r, σ')) : Met l yX4_stateOf (wA yX4_stateOf cX4_stateOf 2 (some .int)) ({ frames := 2, cells := 0, slots := 0, locals := 43 }) (pw_Pc D cA shM 15 A ad σ [.ref (ad 0), .int (a1)]) (pw_Qi D cA shM 15 A ad r σ') 0 0 A := by
  refine mw_enter (own := RX4) (by decide) rfl (Nat.le_of_ble_eq_true rfl) ?_
  intro p e s m args below meth c ls hC hr hlocks hK hA hX hG hS hl
  obtain ⟨hx, hb, hml, hown, hts⟩ := id hC
  have K32 : ∀ (y0 : Int32) (σ : pw_S), fX4_stateOf_32 y0 σ = some (r, σ') → mw_K p l e ({ frames := 2, cells := 0, slots := 0, locals := 43 }) s m args below meth c (MQ below (pw_Qi D cA shM 15 A ad r σ') args s 0 0 A) A D cA shM 15 ad 2 32 0 0 [] [.int (y0)] σ := by
    intro y0 σ hf H locs ls hG hS hl
    unfold fX4_stateOf_32 at hf
    exact mr_i hC hr hlocks hG hS hf (Nat.le_of_ble_eq_true rfl) (Nat.le_of_ble_eq_true rfl) dX4_stateOf_32
  have hl : lv_has ls 2 [(0, .ref (ad 0)), (1, .int (a1))] := hl
  unfold fX4_stateOf at hf
  refine lv_aload_n hx hb dX4_stateOf_0 rfl (lv_at hl 0 rfl) ?_
  refine mw_getl hx hb hts hown hK hG inlX4 rfl (hG.fix (by decide)) rfl 5 (by decide) 1 rfl wA_55 dX4_stateOf_1 ?_
  refine lv_iload_n hx hb dX4_stateOf_4 rfl (lv_at hl 1 rfl) ?_
  obtain ⟨h3, hf⟩ := ck_some hf
  refine mw_iald hx hb hK hG (hG.fix (by decide)) rfl (inb_in h3) dX4_stateOf_5 ?_
  refine lv_iconst (v := (-1)) hx hb dX4_stateOf_6 (by decide) ?_
  refine lv_icmp_ne (tgt := 14) hx hb dX4_stateOf_7 (by decide) (fun c4 => ?_) (fun c4 => ?_)
  · have hf := it_neg c4 hf
    refine lv_aload_n hx hb dX4_stateOf_14 rfl (lv_at hl 0 rfl) ?_
    refine lv_aload_n hx hb dX4_stateOf_15 rfl (lv_at hl 0 rfl) ?_
    refine mw_getl hx hb hts hown hK hG inlX4 rfl (hG.fix (by decide)) rfl 5 (by decide) 1 rfl wA_55 dX4_stateOf_16 ?_
    refine lv_iload_n hx hb dX4_stateOf_19 rfl (lv_at hl 1 rfl) ?_
    obtain ⟨h5, hf⟩ := ck_some hf
    refine mw_iald hx hb hK hG (hG.fix (by decide)) rfl (inb_in h5) dX4_stateOf_20 ?_
    obtain ⟨r6, σ7, hc8, hf⟩ := bnd_some hf
    refine mc_i (mc_V (As := [.int ((gi σ 1 (Int32.toNatClampNeg (a1))))]) hC hK hA hX hG hS (kX4_isDirty l D cA A ad hc8) ykX4_isDirty wA_467 wA_468 wA_469 (hG.fix (by decide)) rfl rfl ⟨rfl, rfl, Nat.le_of_ble_eq_true rfl, Nat.le_of_ble_eq_true rfl⟩ rfl hl.1 rfl (Nat.le_of_ble_eq_true rfl) dX4_stateOf_21 ⟨Nat.le_of_ble_eq_true rfl, Nat.le_of_ble_eq_true rfl⟩) hS (fun H locs hG hS => ?_)
    refine lv_if_eq (tgt := 31) hx hb dX4_stateOf_24 (by decide) (fun c9 => ?_) (fun c9 => ?_)
    · have hf := it_pos c9 hf
      refine lv_iconst (v := 1) hx hb dX4_stateOf_31 (by decide) ?_
      exact K32 _ _ hf _ _ _ hG hS (lv_sub hl [] rfl)
    · have hf := it_neg c9 hf
      refine lv_iconst (v := 2) hx hb dX4_stateOf_27 (by decide) ?_
      refine lv_goto (tgt := 32) hx hb dX4_stateOf_28 (by decide) ?_
      exact K32 _ _ hf _ _ _ hG hS (lv_sub hl [] rfl)
  · have hf := it_pos c4 hf
    refine lv_iconst (v := 0) hx hb dX4_stateOf_10 (by decide) ?_
    refine lv_goto (tgt := 32) hx hb dX4_stateOf_11 (by decide) ?_
    exact K32 _ _ hf _ _ _ hG hS (lv_sub hl [] rfl)
def fX4_useOf_20 (y0 : Int32) (σ : pw_S) : Option (Int32 × pw_S) := some (y0, σ)
def fX4_useOf (a1 : Int32) (σ : pw_S) : Option (Int32 × pw_S) := ck (inb (a1) (12)) ((if (gi σ 1 (Int32.toNatClampNeg (a1))) = (-1) then fX4_useOf_20 ((-1)) σ else ck (inb (a1) (12)) (fX4_useOf_20 ((gi σ 2 (Int32.toNatClampNeg (a1)))) σ)))
set_option maxHeartbeats 4000000 in
set_option maxRecDepth 100000 in
theorem kX4_useOf (l : Launch) (D : va_G) (cA : Nat → ClassId) (A : Nat → Prop) (ad : Nat → Nat) {σ σ' : pw_S} {r : Int32} {a1 : Int32} (hf : fX4_useOf a1 σ = some (r, σ')) : Met l yX4_useOf (wA yX4_useOf cX4_useOf 2 (some .int)) ({ frames := 0, cells := 0, slots := 0, locals := 0 }) (pw_Pc D cA shM 15 A ad σ [.ref (ad 0), .int (a1)]) (pw_Qi D cA shM 15 A ad r σ') 0 0 A := by
  refine mw_enter (own := RX4) (by decide) rfl (Nat.le_of_ble_eq_true rfl) ?_
  intro p e s m args below meth c ls hC hr hlocks hK hA hX hG hS hl
  obtain ⟨hx, hb, hml, hown, hts⟩ := id hC
  have K20 : ∀ (y0 : Int32) (σ : pw_S), fX4_useOf_20 y0 σ = some (r, σ') → mw_K p l e ({ frames := 0, cells := 0, slots := 0, locals := 0 }) s m args below meth c (MQ below (pw_Qi D cA shM 15 A ad r σ') args s 0 0 A) A D cA shM 15 ad 2 20 0 0 [] [.int (y0)] σ := by
    intro y0 σ hf H locs ls hG hS hl
    unfold fX4_useOf_20 at hf
    exact mr_i hC hr hlocks hG hS hf (Nat.le_of_ble_eq_true rfl) (Nat.le_of_ble_eq_true rfl) dX4_useOf_20
  have hl : lv_has ls 2 [(0, .ref (ad 0)), (1, .int (a1))] := hl
  unfold fX4_useOf at hf
  refine lv_aload_n hx hb dX4_useOf_0 rfl (lv_at hl 0 rfl) ?_
  refine mw_getl hx hb hts hown hK hG inlX4 rfl (hG.fix (by decide)) rfl 5 (by decide) 1 rfl wA_55 dX4_useOf_1 ?_
  refine lv_iload_n hx hb dX4_useOf_4 rfl (lv_at hl 1 rfl) ?_
  obtain ⟨h2, hf⟩ := ck_some hf
  refine mw_iald hx hb hK hG (hG.fix (by decide)) rfl (inb_in h2) dX4_useOf_5 ?_
  refine lv_iconst (v := (-1)) hx hb dX4_useOf_6 (by decide) ?_
  refine lv_icmp_ne (tgt := 14) hx hb dX4_useOf_7 (by decide) (fun c3 => ?_) (fun c3 => ?_)
  · have hf := it_neg c3 hf
    refine lv_aload_n hx hb dX4_useOf_14 rfl (lv_at hl 0 rfl) ?_
    refine mw_getl hx hb hts hown hK hG inlX4 rfl (hG.fix (by decide)) rfl 6 (by decide) 2 rfl wA_56 dX4_useOf_15 ?_
    refine lv_iload_n hx hb dX4_useOf_18 rfl (lv_at hl 1 rfl) ?_
    obtain ⟨h4, hf⟩ := ck_some hf
    refine mw_iald hx hb hK hG (hG.fix (by decide)) rfl (inb_in h4) dX4_useOf_19 ?_
    exact K20 _ _ hf _ _ _ hG hS (lv_sub hl [] rfl)
  · have hf := it_pos c3 hf
    refine lv_iconst (v := (-1)) hx hb dX4_useOf_10 (by decide) ?_
    refine lv_goto (tgt := 20) hx hb dX4_useOf_11 (by decide) ?_
    exact K20 _ _ hf _ _ _ hG hS (lv_sub hl [] rfl)
def fX4_frameState_17 (y0 : Int32) (σ : pw_S) : Option (Int32 × pw_S) := some (y0, σ)
def fX4_frameState (a1 : Int32) (σ : pw_S) : Option (Int32 × pw_S) := bnd (fX4_asksFrame a1 σ) (fun r2 σ3 => (if r2 = 0 then fX4_frameState_17 0 σ3 else bnd (fX4_stateOf a1 σ3) (fun r6 σ7 => fX4_frameState_17 r6 σ7)))
set_option maxHeartbeats 4000000 in
set_option maxRecDepth 100000 in
theorem kX4_frameState (l : Launch) (D : va_G) (cA : Nat → ClassId) (A : Nat → Prop) (ad : Nat → Nat) {σ σ' : pw_S} {r : Int32} {a1 : Int32} (hf : fX4_frameState a1 σ = some (r, σ')) : Met l yX4_frameState (wA yX4_frameState cX4_frameState 2 (some .int)) ({ frames := 3, cells := 0, slots := 0, locals := 64 }) (pw_Pc D cA shM 15 A ad σ [.ref (ad 0), .int (a1)]) (pw_Qi D cA shM 15 A ad r σ') 0 0 A := by
  refine mw_enter (own := RX4) (by decide) rfl (Nat.le_of_ble_eq_true rfl) ?_
  intro p e s m args below meth c ls hC hr hlocks hK hA hX hG hS hl
  obtain ⟨hx, hb, hml, hown, hts⟩ := id hC
  have K17 : ∀ (y0 : Int32) (σ : pw_S), fX4_frameState_17 y0 σ = some (r, σ') → mw_K p l e ({ frames := 3, cells := 0, slots := 0, locals := 64 }) s m args below meth c (MQ below (pw_Qi D cA shM 15 A ad r σ') args s 0 0 A) A D cA shM 15 ad 2 17 0 0 [] [.int (y0)] σ := by
    intro y0 σ hf H locs ls hG hS hl
    unfold fX4_frameState_17 at hf
    exact mr_i hC hr hlocks hG hS hf (Nat.le_of_ble_eq_true rfl) (Nat.le_of_ble_eq_true rfl) dX4_frameState_17
  have hl : lv_has ls 2 [(0, .ref (ad 0)), (1, .int (a1))] := hl
  unfold fX4_frameState at hf
  refine lv_aload_n hx hb dX4_frameState_0 rfl (lv_at hl 0 rfl) ?_
  refine lv_iload_n hx hb dX4_frameState_1 rfl (lv_at hl 1 rfl) ?_
  obtain ⟨r2, σ3, hc4, hf⟩ := bnd_some hf
  refine mc_i (mc_V (As := [.int (a1)]) hC hK hA hX hG hS (kX4_asksFrame l D cA A ad hc4) ykX4_asksFrame wA_606 wA_607 wA_608 (hG.fix (by decide)) rfl rfl ⟨rfl, rfl, Nat.le_of_ble_eq_true rfl, Nat.le_of_ble_eq_true rfl⟩ rfl hl.1 rfl (Nat.le_of_ble_eq_true rfl) dX4_frameState_2 ⟨Nat.le_of_ble_eq_true rfl, Nat.le_of_ble_eq_true rfl⟩) hS (fun H locs hG hS => ?_)
  refine lv_if_eq (tgt := 16) hx hb dX4_frameState_5 (by decide) (fun c5 => ?_) (fun c5 => ?_)
  · have hf := it_pos c5 hf
    refine lv_iconst (v := 0) hx hb dX4_frameState_16 (by decide) ?_
    exact K17 _ _ hf _ _ _ hG hS (lv_sub hl [] rfl)
  · have hf := it_neg c5 hf
    refine lv_aload_n hx hb dX4_frameState_8 rfl (lv_at hl 0 rfl) ?_
    refine lv_iload_n hx hb dX4_frameState_9 rfl (lv_at hl 1 rfl) ?_
    obtain ⟨r6, σ7, hc8, hf⟩ := bnd_some hf
    refine mc_i (mc_V (As := [.int (a1)]) hC hK hA hX hG hS (kX4_stateOf l D cA A ad hc8) ykX4_stateOf wA_610 wA_611 wA_612 (hG.fix (by decide)) rfl rfl ⟨rfl, rfl, Nat.le_of_ble_eq_true rfl, Nat.le_of_ble_eq_true rfl⟩ rfl hl.1 rfl (Nat.le_of_ble_eq_true rfl) dX4_frameState_10 ⟨Nat.le_of_ble_eq_true rfl, Nat.le_of_ble_eq_true rfl⟩) hS (fun H locs hG hS => ?_)
    refine lv_goto (tgt := 17) hx hb dX4_frameState_13 (by decide) ?_
    exact K17 _ _ hf _ _ _ hG hS (lv_sub hl [] rfl)
def fX4_latestUse_17 (y0 : Int32) (σ : pw_S) : Option (Int32 × pw_S) := some (y0, σ)
def fX4_latestUse (a1 : Int32) (σ : pw_S) : Option (Int32 × pw_S) := bnd (fX4_asksFrame a1 σ) (fun r2 σ3 => (if r2 = 0 then fX4_latestUse_17 0 σ3 else bnd (fX4_useOf a1 σ3) (fun r6 σ7 => fX4_latestUse_17 r6 σ7)))
set_option maxHeartbeats 4000000 in
set_option maxRecDepth 100000 in
theorem kX4_latestUse (l : Launch) (D : va_G) (cA : Nat → ClassId) (A : Nat → Prop) (ad : Nat → Nat) {σ σ' : pw_S} {r : Int32} {a1 : Int32} (hf : fX4_latestUse a1 σ = some (r, σ')) : Met l yX4_latestUse (wA yX4_latestUse cX4_latestUse 2 (some .int)) ({ frames := 1, cells := 0, slots := 0, locals := 21 }) (pw_Pc D cA shM 15 A ad σ [.ref (ad 0), .int (a1)]) (pw_Qi D cA shM 15 A ad r σ') 0 0 A := by
  refine mw_enter (own := RX4) (by decide) rfl (Nat.le_of_ble_eq_true rfl) ?_
  intro p e s m args below meth c ls hC hr hlocks hK hA hX hG hS hl
  obtain ⟨hx, hb, hml, hown, hts⟩ := id hC
  have K17 : ∀ (y0 : Int32) (σ : pw_S), fX4_latestUse_17 y0 σ = some (r, σ') → mw_K p l e ({ frames := 1, cells := 0, slots := 0, locals := 21 }) s m args below meth c (MQ below (pw_Qi D cA shM 15 A ad r σ') args s 0 0 A) A D cA shM 15 ad 2 17 0 0 [] [.int (y0)] σ := by
    intro y0 σ hf H locs ls hG hS hl
    unfold fX4_latestUse_17 at hf
    exact mr_i hC hr hlocks hG hS hf (Nat.le_of_ble_eq_true rfl) (Nat.le_of_ble_eq_true rfl) dX4_latestUse_17
  have hl : lv_has ls 2 [(0, .ref (ad 0)), (1, .int (a1))] := hl
  unfold fX4_latestUse at hf
  refine lv_aload_n hx hb dX4_latestUse_0 rfl (lv_at hl 0 rfl) ?_
  refine lv_iload_n hx hb dX4_latestUse_1 rfl (lv_at hl 1 rfl) ?_
  obtain ⟨r2, σ3, hc4, hf⟩ := bnd_some hf
  refine mc_i (mc_V (As := [.int (a1)]) hC hK hA hX hG hS (kX4_asksFrame l D cA A ad hc4) ykX4_asksFrame wA_606 wA_607 wA_608 (hG.fix (by decide)) rfl rfl ⟨rfl, rfl, Nat.le_of_ble_eq_true rfl, Nat.le_of_ble_eq_true rfl⟩ rfl hl.1 rfl (Nat.le_of_ble_eq_true rfl) dX4_latestUse_2 ⟨Nat.le_of_ble_eq_true rfl, Nat.le_of_ble_eq_true rfl⟩) hS (fun H locs hG hS => ?_)
  refine lv_if_eq (tgt := 16) hx hb dX4_latestUse_5 (by decide) (fun c5 => ?_) (fun c5 => ?_)
  · have hf := it_pos c5 hf
    refine lv_iconst (v := 0) hx hb dX4_latestUse_16 (by decide) ?_
    exact K17 _ _ hf _ _ _ hG hS (lv_sub hl [] rfl)
  · have hf := it_neg c5 hf
    refine lv_aload_n hx hb dX4_latestUse_8 rfl (lv_at hl 0 rfl) ?_
    refine lv_iload_n hx hb dX4_latestUse_9 rfl (lv_at hl 1 rfl) ?_
    obtain ⟨r6, σ7, hc8, hf⟩ := bnd_some hf
    refine mc_i (mc_V (As := [.int (a1)]) hC hK hA hX hG hS (kX4_useOf l D cA A ad hc8) ykX4_useOf wA_625 wA_626 wA_627 (hG.fix (by decide)) rfl rfl ⟨rfl, rfl, Nat.le_of_ble_eq_true rfl, Nat.le_of_ble_eq_true rfl⟩ rfl hl.1 rfl (Nat.le_of_ble_eq_true rfl) dX4_latestUse_10 ⟨Nat.le_of_ble_eq_true rfl, Nat.le_of_ble_eq_true rfl⟩) hS (fun H locs hG hS => ?_)
    refine lv_goto (tgt := 17) hx hb dX4_latestUse_13 (by decide) ?_
    exact K17 _ _ hf _ _ _ hG hS (lv_sub hl [] rfl)
def fX4_isReferenced_32 (y0 : Int32) (σ : pw_S) : Option (Int32 × pw_S) := ck (isB (y0)) (some (y0, σ))
def fX4_isReferenced_31 (σ : pw_S) : Option (Int32 × pw_S) := fX4_isReferenced_32 0 σ
def fX4_isReferenced (a1 : Int32) (σ : pw_S) : Option (Int32 × pw_S) := bnd (fX4_asksFrame a1 σ) (fun r5 σ6 => (if r5 = 0 then fX4_isReferenced_31 σ6 else ck (inb (a1) (12)) ((if (gi σ6 1 (Int32.toNatClampNeg (a1))) = (-1) then fX4_isReferenced_31 σ6 else ck (inb (a1) (12)) ((if (gi σ6 3 (Int32.toNatClampNeg (a1))) = 0 then fX4_isReferenced_31 σ6 else fX4_isReferenced_32 1 σ6))))))
set_option maxHeartbeats 4000000 in
set_option maxRecDepth 100000 in
theorem kX4_isReferenced (l : Launch) (D : va_G) (cA : Nat → ClassId) (A : Nat → Prop) (ad : Nat → Nat) {σ σ' : pw_S} {r : Int32} {a1 : Int32} (hf : fX4_isReferenced a1 σ = some (r, σ')) : Met l yX4_isReferenced (wA yX4_isReferenced cX4_isReferenced 2 (some .boolean)) ({ frames := 1, cells := 0, slots := 0, locals := 21 }) (pw_Pc D cA shM 15 A ad σ [.ref (ad 0), .int (a1)]) (pw_Qi D cA shM 15 A ad r σ') 0 0 A := by
  refine mw_enter (own := RX4) (by decide) rfl (Nat.le_of_ble_eq_true rfl) ?_
  intro p e s m args below meth c ls hC hr hlocks hK hA hX hG hS hl
  obtain ⟨hx, hb, hml, hown, hts⟩ := id hC
  have K32 : ∀ (y0 : Int32) (σ : pw_S), fX4_isReferenced_32 y0 σ = some (r, σ') → mw_K p l e ({ frames := 1, cells := 0, slots := 0, locals := 21 }) s m args below meth c (MQ below (pw_Qi D cA shM 15 A ad r σ') args s 0 0 A) A D cA shM 15 ad 2 32 0 0 [] [.int (y0)] σ := by
    intro y0 σ hf H locs ls hG hS hl
    unfold fX4_isReferenced_32 at hf
    obtain ⟨h4, hf⟩ := ck_some hf
    exact mr_z hC hr hlocks hG hS (isB_or h4) hf (Nat.le_of_ble_eq_true rfl) (Nat.le_of_ble_eq_true rfl) dX4_isReferenced_32
  have K31 : ∀ (σ : pw_S), fX4_isReferenced_31  σ = some (r, σ') → mw_K p l e ({ frames := 1, cells := 0, slots := 0, locals := 21 }) s m args below meth c (MQ below (pw_Qi D cA shM 15 A ad r σ') args s 0 0 A) A D cA shM 15 ad 2 31 0 0 [] [] σ := by
    intro  σ hf H locs ls hG hS hl
    unfold fX4_isReferenced_31 at hf
    refine lv_iconst (v := 0) hx hb dX4_isReferenced_31 (by decide) ?_
    exact K32 _ _ hf _ _ _ hG hS (lv_sub hl [] rfl)
  have hl : lv_has ls 2 [(0, .ref (ad 0)), (1, .int (a1))] := hl
  unfold fX4_isReferenced at hf
  refine lv_aload_n hx hb dX4_isReferenced_0 rfl (lv_at hl 0 rfl) ?_
  refine lv_iload_n hx hb dX4_isReferenced_1 rfl (lv_at hl 1 rfl) ?_
  obtain ⟨r5, σ6, hc7, hf⟩ := bnd_some hf
  refine mc_i (mc_V (As := [.int (a1)]) hC hK hA hX hG hS (kX4_asksFrame l D cA A ad hc7) ykX4_asksFrame wA_606 wA_607 wA_608 (hG.fix (by decide)) rfl rfl ⟨rfl, rfl, Nat.le_of_ble_eq_true rfl, Nat.le_of_ble_eq_true rfl⟩ rfl hl.1 rfl (Nat.le_of_ble_eq_true rfl) dX4_isReferenced_2 ⟨Nat.le_of_ble_eq_true rfl, Nat.le_of_ble_eq_true rfl⟩) hS (fun H locs hG hS => ?_)
  refine lv_if_eq (tgt := 31) hx hb dX4_isReferenced_5 (by decide) (fun c8 => ?_) (fun c8 => ?_)
  · have hf := it_pos c8 hf
    exact K31 _ hf _ _ _ hG hS (lv_sub hl [] rfl)
  · have hf := it_neg c8 hf
    refine lv_aload_n hx hb dX4_isReferenced_8 rfl (lv_at hl 0 rfl) ?_
    refine mw_getl hx hb hts hown hK hG inlX4 rfl (hG.fix (by decide)) rfl 5 (by decide) 1 rfl wA_55 dX4_isReferenced_9 ?_
    refine lv_iload_n hx hb dX4_isReferenced_12 rfl (lv_at hl 1 rfl) ?_
    obtain ⟨h9, hf⟩ := ck_some hf
    refine mw_iald hx hb hK hG (hG.fix (by decide)) rfl (inb_in h9) dX4_isReferenced_13 ?_
    refine lv_iconst (v := (-1)) hx hb dX4_isReferenced_14 (by decide) ?_
    refine lv_icmp_eq (tgt := 31) hx hb dX4_isReferenced_15 (by decide) (fun c10 => ?_) (fun c10 => ?_)
    · have hf := it_pos c10 hf
      exact K31 _ hf _ _ _ hG hS (lv_sub hl [] rfl)
    · have hf := it_neg c10 hf
      refine lv_aload_n hx hb dX4_isReferenced_18 rfl (lv_at hl 0 rfl) ?_
      refine mw_getl hx hb hts hown hK hG inlX4 rfl (hG.fix (by decide)) rfl 7 (by decide) 3 rfl wA_57 dX4_isReferenced_19 ?_
      refine lv_iload_n hx hb dX4_isReferenced_22 rfl (lv_at hl 1 rfl) ?_
      obtain ⟨h11, hf⟩ := ck_some hf
      refine mw_zald hx hb hK hG (hG.fix (by decide)) rfl (inb_in h11) dX4_isReferenced_23 ?_
      refine lv_if_eq (tgt := 31) hx hb dX4_isReferenced_24 (by decide) (fun c12 => ?_) (fun c12 => ?_)
      · have hf := it_pos c12 hf
        exact K31 _ hf _ _ _ hG hS (lv_sub hl [] rfl)
      · have hf := it_neg c12 hf
        refine lv_iconst (v := 1) hx hb dX4_isReferenced_27 (by decide) ?_
        refine lv_goto (tgt := 32) hx hb dX4_isReferenced_28 (by decide) ?_
        exact K32 _ _ hf _ _ _ hG hS (lv_sub hl [] rfl)
def fX4_freeFrames (σ : pw_S) : Option (Int32 × pw_S) := ld (si σ 0 0 (0)) (fun σ1 => bnd (fX4_used σ1) (fun r3 σ4 => some (((gi σ1 0 3) - r3), σ4)))
set_option maxHeartbeats 4000000 in
set_option maxRecDepth 100000 in
theorem kX4_freeFrames (l : Launch) (D : va_G) (cA : Nat → ClassId) (A : Nat → Prop) (ad : Nat → Nat) {σ σ' : pw_S} {r : Int32} (hf : fX4_freeFrames σ = some (r, σ')) : Met l yX4_freeFrames (wA yX4_freeFrames cX4_freeFrames 1 (some .int)) ({ frames := 1, cells := 0, slots := 0, locals := 22 }) (pw_Pc D cA shM 15 A ad σ [.ref (ad 0)]) (pw_Qi D cA shM 15 A ad r σ') 0 0 A := by
  refine mw_enter (own := RX4) (by decide) rfl (Nat.le_of_ble_eq_true rfl) ?_
  intro p e s m args below meth c ls hC hr hlocks hK hA hX hG hS hl
  obtain ⟨hx, hb, hml, hown, hts⟩ := id hC
  have hl : lv_has ls 1 [(0, .ref (ad 0))] := hl
  unfold fX4_freeFrames at hf
  refine lv_aload_n hx hb dX4_freeFrames_0 rfl (lv_at hl 0 rfl) ?_
  refine lv_iconst (v := 0) hx hb dX4_freeFrames_1 (by decide) ?_
  refine mw_puti hx hb hts hown hK hG hS inlX4 tyX4 tyX4_ok nmX4 rfl (hG.fix (by decide)) rfl 0 (by decide) rfl rfl rfl rfl wA_93 dX4_freeFrames_2 (fun H locs hG hS => ?_)
  obtain ⟨σ1, e2, hf⟩ := ld_some hf
  rw [← e2] at hG
  clear e2
  refine lv_aload_n hx hb dX4_freeFrames_5 rfl (lv_at hl 0 rfl) ?_
  refine mw_geti hx hb hts hown hK hG inlX4 rfl (hG.fix (by decide)) rfl 3 (by decide) rfl wA_54 dX4_freeFrames_6 ?_
  refine lv_aload_n hx hb dX4_freeFrames_9 rfl (lv_at hl 0 rfl) ?_
  obtain ⟨r3, σ4, hc5, hf⟩ := bnd_some hf
  refine mc_i (mc_V (As := []) hC hK hA hX hG hS (kX4_used l D cA A ad hc5) ykX4_used wA_99 wA_100 wA_101 (hG.fix (by decide)) rfl rfl ⟨rfl, rfl, Nat.le_of_ble_eq_true rfl, Nat.le_of_ble_eq_true rfl⟩ rfl hl.1 rfl (Nat.le_of_ble_eq_true rfl) dX4_freeFrames_10 ⟨Nat.le_of_ble_eq_true rfl, Nat.le_of_ble_eq_true rfl⟩) hS (fun H locs hG hS => ?_)
  refine lv_isub hx hb dX4_freeFrames_13 ?_
  exact mr_i hC hr hlocks hG hS hf (Nat.le_of_ble_eq_true rfl) (Nat.le_of_ble_eq_true rfl) dX4_freeFrames_14
def fX4_slotsLeft_26 (bk4 : Int32 → Int32 → pw_S → Option (Int32 × pw_S)) (x2 : Int32) (y0 : Int32) (y1 : Int32) (σ : pw_S) : Option (Int32 × pw_S) := bk4 ((y1 + y0)) (x2 + 1) σ
def fX4_slotsLeft_4_b (bk4 : Int32 → Int32 → pw_S → Option (Int32 × pw_S)) (x1 : Int32) (x2 : Int32) (σ : pw_S) : Option (Int32 × pw_S) := (if 24 ≤ x2 then some (x1, σ) else ck (inb (x2) (24)) ((if (gi σ 4 (Int32.toNatClampNeg (x2))) = (-1) then fX4_slotsLeft_26 bk4 x2 1 x1 σ else fX4_slotsLeft_26 bk4 x2 0 x1 σ)))
def fX4_slotsLeft_4 : Nat → Int32 → Int32 → pw_S → Option (Int32 × pw_S)
  | 0, _, _, _ => none
  | n + 1, x1, x2, σ => fX4_slotsLeft_4_b (fX4_slotsLeft_4 n) x1 x2 σ
def fX4_slotsLeft (σ : pw_S) : Option (Int32 × pw_S) := fX4_slotsLeft_4 1000 0 0 σ
set_option maxHeartbeats 4000000 in
set_option maxRecDepth 100000 in
theorem kX4_slotsLeft (l : Launch) (D : va_G) (cA : Nat → ClassId) (A : Nat → Prop) (ad : Nat → Nat) {σ σ' : pw_S} {r : Int32} (hf : fX4_slotsLeft σ = some (r, σ')) : Met l yX4_slotsLeft (wA yX4_slotsLeft cX4_slotsLeft 3 (some .int)) ({ frames := 0, cells := 0, slots := 0, locals := 0 }) (pw_Pc D cA shM 15 A ad σ [.ref (ad 0)]) (pw_Qi D cA shM 15 A ad r σ') 0 0 A := by
  refine mw_enter (own := RX4) (by decide) rfl (Nat.le_of_ble_eq_true rfl) ?_
  intro p e s m args below meth c ls hC hr hlocks hK hA hX hG hS hl
  obtain ⟨hx, hb, hml, hown, hts⟩ := id hC
  have K4 : ∀ (n4 : Nat) (x1 : Int32) (x2 : Int32) (σ : pw_S), fX4_slotsLeft_4 n4 x1 x2 σ = some (r, σ') → mw_K p l e ({ frames := 0, cells := 0, slots := 0, locals := 0 }) s m args below meth c (MQ below (pw_Qi D cA shM 15 A ad r σ') args s 0 0 A) A D cA shM 15 ad 3 4 0 0 [(0, .ref (ad 0)), (1, .int (x1)), (2, .int (x2))] [] σ := by
    intro n4
    induction n4 with
    | zero => intro x1 x2 σ hf; cases hf
    | succ n4 ih4 =>
      have K26 : ∀ (x2 : Int32) (y0 : Int32) (y1 : Int32) (σ : pw_S), fX4_slotsLeft_26 (fX4_slotsLeft_4 n4) x2 y0 y1 σ = some (r, σ') → mw_K p l e ({ frames := 0, cells := 0, slots := 0, locals := 0 }) s m args below meth c (MQ below (pw_Qi D cA shM 15 A ad r σ') args s 0 0 A) A D cA shM 15 ad 3 26 0 0 [(0, .ref (ad 0)), (2, .int (x2))] [.int (y0), .int (y1)] σ := by
        intro x2 y0 y1 σ hf H locs ls hG hS hl
        unfold fX4_slotsLeft_26 at hf
        refine lv_iadd hx hb dX4_slotsLeft_26 ?_
        refine lv_istore_n (lv' := [(1, .int ((y1 + y0))), (0, .ref (ad 0)), (2, .int (x2))]) hx hb dX4_slotsLeft_27 rfl hl (by decide) rfl (fun ls hl => ?_)
        refine lv_iinc (v := x2 + 1) (lv' := [(2, .int (x2 + 1)), (1, .int ((y1 + y0))), (0, .ref (ad 0))]) hx hb dX4_slotsLeft_28 hl (k := 2) rfl rfl (by decide) rfl (fun ls hl => ?_)
        refine lv_goto (tgt := 4) hx hb dX4_slotsLeft_31 (by decide) ?_
        exact ih4 _ _ _ hf _ _ _ hG hS (lv_sub hl [2, 1, 0] rfl)
      intro x1 x2 σ hf H locs ls hG hS hl
      have hf : fX4_slotsLeft_4_b (fX4_slotsLeft_4 n4) x1 x2 σ = some (r, σ') := hf
      unfold fX4_slotsLeft_4_b at hf
      refine lv_iload_n hx hb dX4_slotsLeft_4 rfl (lv_at hl 2 rfl) ?_
      refine lv_bipush (v := 24) hx hb dX4_slotsLeft_5 (by decide) ?_
      refine lv_icmp_ge (tgt := 34) hx hb dX4_slotsLeft_7 (by decide) (fun c3 => ?_) (fun c3 => ?_)
      · have hf := it_pos c3 hf
        refine lv_iload_n hx hb dX4_slotsLeft_34 rfl (lv_at hl 1 rfl) ?_
        exact mr_i hC hr hlocks hG hS hf (Nat.le_of_ble_eq_true rfl) (Nat.le_of_ble_eq_true rfl) dX4_slotsLeft_35
      · have hf := it_neg c3 hf
        refine lv_iload_n hx hb dX4_slotsLeft_10 rfl (lv_at hl 1 rfl) ?_
        refine lv_aload_n hx hb dX4_slotsLeft_11 rfl (lv_at hl 0 rfl) ?_
        refine mw_getl hx hb hts hown hK hG inlX4 rfl (hG.fix (by decide)) rfl 8 (by decide) 4 rfl wA_58 dX4_slotsLeft_12 ?_
        refine lv_iload_n hx hb dX4_slotsLeft_15 rfl (lv_at hl 2 rfl) ?_
        obtain ⟨h4, hf⟩ := ck_some hf
        refine mw_iald hx hb hK hG (hG.fix (by decide)) rfl (inb_in h4) dX4_slotsLeft_16 ?_
        refine lv_iconst (v := (-1)) hx hb dX4_slotsLeft_17 (by decide) ?_
        refine lv_icmp_ne (tgt := 25) hx hb dX4_slotsLeft_18 (by decide) (fun c5 => ?_) (fun c5 => ?_)
        · have hf := it_neg c5 hf
          refine lv_iconst (v := 0) hx hb dX4_slotsLeft_25 (by decide) ?_
          exact K26 _ _ _ _ hf _ _ _ hG hS (lv_sub hl [0, 2] rfl)
        · have hf := it_pos c5 hf
          refine lv_iconst (v := 1) hx hb dX4_slotsLeft_21 (by decide) ?_
          refine lv_goto (tgt := 26) hx hb dX4_slotsLeft_22 (by decide) ?_
          exact K26 _ _ _ _ hf _ _ _ hG hS (lv_sub hl [0, 2] rfl)
  have hl : lv_has ls 3 [(0, .ref (ad 0))] := hl
  unfold fX4_slotsLeft at hf
  refine lv_iconst (v := 0) hx hb dX4_slotsLeft_0 (by decide) ?_
  refine lv_istore_n (lv' := [(1, .int (0)), (0, .ref (ad 0))]) hx hb dX4_slotsLeft_1 rfl hl (by decide) rfl (fun ls hl => ?_)
  refine lv_iconst (v := 0) hx hb dX4_slotsLeft_2 (by decide) ?_
  refine lv_istore_n (lv' := [(2, .int (0)), (1, .int (0)), (0, .ref (ad 0))]) hx hb dX4_slotsLeft_3 rfl hl (by decide) rfl (fun ls hl => ?_)
  exact K4 1000 _ _ _ hf _ _ _ hG hS (lv_sub hl [2, 1, 0] rfl)
def fX4_freeSlots (σ : pw_S) : Option (Int32 × pw_S) := ld (si σ 0 0 (0)) (fun σ1 => bnd (fX4_slotsLeft σ1) (fun r3 σ4 => some (r3, σ4)))
set_option maxHeartbeats 4000000 in
set_option maxRecDepth 100000 in
theorem kX4_freeSlots (l : Launch) (D : va_G) (cA : Nat → ClassId) (A : Nat → Prop) (ad : Nat → Nat) {σ σ' : pw_S} {r : Int32} (hf : fX4_freeSlots σ = some (r, σ')) : Met l yX4_freeSlots (wA yX4_freeSlots cX4_freeSlots 1 (some .int)) ({ frames := 1, cells := 0, slots := 0, locals := 22 }) (pw_Pc D cA shM 15 A ad σ [.ref (ad 0)]) (pw_Qi D cA shM 15 A ad r σ') 0 0 A := by
  refine mw_enter (own := RX4) (by decide) rfl (Nat.le_of_ble_eq_true rfl) ?_
  intro p e s m args below meth c ls hC hr hlocks hK hA hX hG hS hl
  obtain ⟨hx, hb, hml, hown, hts⟩ := id hC
  have hl : lv_has ls 1 [(0, .ref (ad 0))] := hl
  unfold fX4_freeSlots at hf
  refine lv_aload_n hx hb dX4_freeSlots_0 rfl (lv_at hl 0 rfl) ?_
  refine lv_iconst (v := 0) hx hb dX4_freeSlots_1 (by decide) ?_
  refine mw_puti hx hb hts hown hK hG hS inlX4 tyX4 tyX4_ok nmX4 rfl (hG.fix (by decide)) rfl 0 (by decide) rfl rfl rfl rfl wA_93 dX4_freeSlots_2 (fun H locs hG hS => ?_)
  obtain ⟨σ1, e2, hf⟩ := ld_some hf
  rw [← e2] at hG
  clear e2
  refine lv_aload_n hx hb dX4_freeSlots_5 rfl (lv_at hl 0 rfl) ?_
  obtain ⟨r3, σ4, hc5, hf⟩ := bnd_some hf
  refine mc_i (mc_V (As := []) hC hK hA hX hG hS (kX4_slotsLeft l D cA A ad hc5) ykX4_slotsLeft wA_656 wA_657 wA_658 (hG.fix (by decide)) rfl rfl ⟨rfl, rfl, Nat.le_of_ble_eq_true rfl, Nat.le_of_ble_eq_true rfl⟩ rfl hl.1 rfl (Nat.le_of_ble_eq_true rfl) dX4_freeSlots_6 ⟨Nat.le_of_ble_eq_true rfl, Nat.le_of_ble_eq_true rfl⟩) hS (fun H locs hG hS => ?_)
  exact mr_i hC hr hlocks hG hS hf (Nat.le_of_ble_eq_true rfl) (Nat.le_of_ble_eq_true rfl) dX4_freeSlots_9
def fX4_workingSet_84 (x2 : Int32) (σ : pw_S) : Option (Int32 × pw_S) := some (x2, σ)
def fX4_workingSet_76 (bk21 : Int32 → Int32 → Int32 → pw_S → Option (Int32 × pw_S)) (x1 : Int32) (x3 : Int32) (y0 : Int32) (y1 : Int32) (σ : pw_S) : Option (Int32 × pw_S) := bk21 x1 ((y1 + y0)) (x3 + 1) σ
def fX4_workingSet_75 (bk21 : Int32 → Int32 → Int32 → pw_S → Option (Int32 × pw_S)) (x1 : Int32) (x3 : Int32) (y0 : Int32) (σ : pw_S) : Option (Int32 × pw_S) := fX4_workingSet_76 bk21 x1 x3 0 y0 σ
def fX4_workingSet_21_b (bk21 : Int32 → Int32 → Int32 → pw_S → Option (Int32 × pw_S)) (x1 : Int32) (x2 : Int32) (x3 : Int32) (σ : pw_S) : Option (Int32 × pw_S) := (if 16 ≤ x3 then fX4_workingSet_84 x2 σ else (if (gi σ 0 0) = 0 then bnd (fX4_at x1 x3 σ) (fun r8 σ9 => bnd (fX4_frameAt r8 σ9) (fun r11 σ12 => (if r11 = (-1) then fX4_workingSet_75 bk21 x1 x3 x2 σ12 else ck (inb (r11) (12)) ((if (gi σ12 0 2) < ((gi σ12 0 1) - (gi σ12 2 (Int32.toNatClampNeg (r11)))) then fX4_workingSet_75 bk21 x1 x3 x2 σ12 else fX4_workingSet_76 bk21 x1 x3 1 x2 σ12))))) else fX4_workingSet_84 x2 σ))
def fX4_workingSet_21 : Nat → Int32 → Int32 → Int32 → pw_S → Option (Int32 × pw_S)
  | 0, _, _, _, _ => none
  | n + 1, x1, x2, x3, σ => fX4_workingSet_21_b (fX4_workingSet_21 n) x1 x2 x3 σ
def fX4_workingSet_14 (x1 : Int32) (y0 : Int32) (σ : pw_S) : Option (Int32 × pw_S) := ld (si σ 0 0 (y0)) (fun σ17 => fX4_workingSet_21 1000 x1 0 0 σ17)
def fX4_workingSet (a1 : Int32) (σ : pw_S) : Option (Int32 × pw_S) := bnd (fX4_isProcess a1 σ) (fun r19 σ20 => (if r19 = 0 then fX4_workingSet_14 a1 1 σ20 else fX4_workingSet_14 a1 0 σ20))
set_option maxHeartbeats 4000000 in
set_option maxRecDepth 100000 in
theorem kX4_workingSet (l : Launch) (D : va_G) (cA : Nat → ClassId) (A : Nat → Prop) (ad : Nat → Nat) {σ σ' : pw_S} {r : Int32} {a1 : Int32} (hf : fX4_workingSet a1 σ = some (r, σ')) : Met l yX4_workingSet (wA yX4_workingSet cX4_workingSet 5 (some .int)) ({ frames := 2, cells := 0, slots := 0, locals := 43 }) (pw_Pc D cA shM 15 A ad σ [.ref (ad 0), .int (a1)]) (pw_Qi D cA shM 15 A ad r σ') 0 0 A := by
  refine mw_enter (own := RX4) (by decide) rfl (Nat.le_of_ble_eq_true rfl) ?_
  intro p e s m args below meth c ls hC hr hlocks hK hA hX hG hS hl
  obtain ⟨hx, hb, hml, hown, hts⟩ := id hC
  have K84 : ∀ (x2 : Int32) (σ : pw_S), fX4_workingSet_84 x2 σ = some (r, σ') → mw_K p l e ({ frames := 2, cells := 0, slots := 0, locals := 43 }) s m args below meth c (MQ below (pw_Qi D cA shM 15 A ad r σ') args s 0 0 A) A D cA shM 15 ad 5 84 0 0 [(2, .int (x2))] [] σ := by
    intro x2 σ hf H locs ls hG hS hl
    unfold fX4_workingSet_84 at hf
    refine lv_iload_n hx hb dX4_workingSet_84 rfl (lv_at hl 0 rfl) ?_
    exact mr_i hC hr hlocks hG hS hf (Nat.le_of_ble_eq_true rfl) (Nat.le_of_ble_eq_true rfl) dX4_workingSet_85
  have K21 : ∀ (n21 : Nat) (x1 : Int32) (x2 : Int32) (x3 : Int32) (σ : pw_S), fX4_workingSet_21 n21 x1 x2 x3 σ = some (r, σ') → mw_K p l e ({ frames := 2, cells := 0, slots := 0, locals := 43 }) s m args below meth c (MQ below (pw_Qi D cA shM 15 A ad r σ') args s 0 0 A) A D cA shM 15 ad 5 21 0 0 [(0, .ref (ad 0)), (1, .int (x1)), (2, .int (x2)), (3, .int (x3))] [] σ := by
    intro n21
    induction n21 with
    | zero => intro x1 x2 x3 σ hf; cases hf
    | succ n21 ih21 =>
      have K76 : ∀ (x1 : Int32) (x3 : Int32) (y0 : Int32) (y1 : Int32) (σ : pw_S), fX4_workingSet_76 (fX4_workingSet_21 n21) x1 x3 y0 y1 σ = some (r, σ') → mw_K p l e ({ frames := 2, cells := 0, slots := 0, locals := 43 }) s m args below meth c (MQ below (pw_Qi D cA shM 15 A ad r σ') args s 0 0 A) A D cA shM 15 ad 5 76 0 0 [(0, .ref (ad 0)), (1, .int (x1)), (3, .int (x3))] [.int (y0), .int (y1)] σ := by
        intro x1 x3 y0 y1 σ hf H locs ls hG hS hl
        unfold fX4_workingSet_76 at hf
        refine lv_iadd hx hb dX4_workingSet_76 ?_
        refine lv_istore_n (lv' := [(2, .int ((y1 + y0))), (0, .ref (ad 0)), (1, .int (x1)), (3, .int (x3))]) hx hb dX4_workingSet_77 rfl hl (by decide) rfl (fun ls hl => ?_)
        refine lv_iinc (v := x3 + 1) (lv' := [(3, .int (x3 + 1)), (2, .int ((y1 + y0))), (0, .ref (ad 0)), (1, .int (x1))]) hx hb dX4_workingSet_78 hl (k := 3) rfl rfl (by decide) rfl (fun ls hl => ?_)
        refine lv_goto (tgt := 21) hx hb dX4_workingSet_81 (by decide) ?_
        exact ih21 _ _ _ _ hf _ _ _ hG hS (lv_sub hl [2, 3, 1, 0] rfl)
      have K75 : ∀ (x1 : Int32) (x3 : Int32) (y0 : Int32) (σ : pw_S), fX4_workingSet_75 (fX4_workingSet_21 n21) x1 x3 y0 σ = some (r, σ') → mw_K p l e ({ frames := 2, cells := 0, slots := 0, locals := 43 }) s m args below meth c (MQ below (pw_Qi D cA shM 15 A ad r σ') args s 0 0 A) A D cA shM 15 ad 5 75 0 0 [(0, .ref (ad 0)), (1, .int (x1)), (3, .int (x3))] [.int (y0)] σ := by
        intro x1 x3 y0 σ hf H locs ls hG hS hl
        unfold fX4_workingSet_75 at hf
        refine lv_iconst (v := 0) hx hb dX4_workingSet_75 (by decide) ?_
        exact K76 _ _ _ _ _ hf _ _ _ hG hS (lv_sub hl [0, 1, 2] rfl)
      intro x1 x2 x3 σ hf H locs ls hG hS hl
      have hf : fX4_workingSet_21_b (fX4_workingSet_21 n21) x1 x2 x3 σ = some (r, σ') := hf
      unfold fX4_workingSet_21_b at hf
      refine lv_iload_n hx hb dX4_workingSet_21 rfl (lv_at hl 3 rfl) ?_
      refine lv_bipush (v := 16) hx hb dX4_workingSet_22 (by decide) ?_
      refine lv_icmp_ge (tgt := 84) hx hb dX4_workingSet_24 (by decide) (fun c6 => ?_) (fun c6 => ?_)
      · have hf := it_pos c6 hf
        exact K84 _ _ hf _ _ _ hG hS (lv_sub hl [2] rfl)
      · have hf := it_neg c6 hf
        refine lv_aload_n hx hb dX4_workingSet_27 rfl (lv_at hl 0 rfl) ?_
        refine mw_geti hx hb hts hown hK hG inlX4 rfl (hG.fix (by decide)) rfl 0 (by decide) rfl wA_93 dX4_workingSet_28 ?_
        refine lv_if_ne (tgt := 84) hx hb dX4_workingSet_31 (by decide) (fun c7 => ?_) (fun c7 => ?_)
        · have hf := it_neg c7 hf
          exact K84 _ _ hf _ _ _ hG hS (lv_sub hl [2] rfl)
        · have hf := it_pos c7 hf
          refine lv_aload_n hx hb dX4_workingSet_34 rfl (lv_at hl 0 rfl) ?_
          refine lv_iload_n hx hb dX4_workingSet_35 rfl (lv_at hl 1 rfl) ?_
          refine lv_iload_n hx hb dX4_workingSet_36 rfl (lv_at hl 3 rfl) ?_
          obtain ⟨r8, σ9, hc10, hf⟩ := bnd_some hf
          refine mc_i (mc_S (As := [.int (x1), .int (x3)]) hC hK hA hX hG hS (kX4_at l D cA A ad hc10) ykX4_at wA_138 wA_139 ⟨rfl, rfl, Nat.le_of_ble_eq_true rfl, Nat.le_of_ble_eq_true rfl⟩ rfl hl.1 rfl (Nat.le_of_ble_eq_true rfl) dX4_workingSet_37 ⟨Nat.le_of_ble_eq_true rfl, Nat.le_of_ble_eq_true rfl⟩) hS (fun H locs hG hS => ?_)
          obtain ⟨r11, σ12, hc13, hf⟩ := bnd_some hf
          refine mc_i (mc_V (As := [.int (r8)]) hC hK hA hX hG hS (kX4_frameAt l D cA A ad hc13) ykX4_frameAt wA_561 wA_562 wA_563 (hG.fix (by decide)) rfl rfl ⟨rfl, rfl, Nat.le_of_ble_eq_true rfl, Nat.le_of_ble_eq_true rfl⟩ rfl hl.1 rfl (Nat.le_of_ble_eq_true rfl) dX4_workingSet_40 ⟨Nat.le_of_ble_eq_true rfl, Nat.le_of_ble_eq_true rfl⟩) hS (fun H locs hG hS => ?_)
          refine lv_istore (lv' := [(4, .int (r11)), (0, .ref (ad 0)), (1, .int (x1)), (2, .int (x2)), (3, .int (x3))]) hx hb dX4_workingSet_43 hl (by decide) rfl (fun ls hl => ?_)
          refine lv_iload_n hx hb dX4_workingSet_45 rfl (lv_at hl 3 rfl) ?_
          refine lv_iload hx hb dX4_workingSet_46 (lv_at hl 0 rfl) ?_
          refine lv_iconst (v := (-1)) hx hb dX4_workingSet_48 (by decide) ?_
          refine lv_icmp_eq (tgt := 75) hx hb dX4_workingSet_49 (by decide) (fun c14 => ?_) (fun c14 => ?_)
          · have hf := it_pos c14 hf
            exact K75 _ _ _ _ hf _ _ _ hG hS (lv_sub hl [1, 2, 4] rfl)
          · have hf := it_neg c14 hf
            refine lv_aload_n hx hb dX4_workingSet_52 rfl (lv_at hl 1 rfl) ?_
            refine mw_geti hx hb hts hown hK hG inlX4 rfl (hG.fix (by decide)) rfl 1 (by decide) rfl wA_454 dX4_workingSet_53 ?_
            refine lv_aload_n hx hb dX4_workingSet_56 rfl (lv_at hl 1 rfl) ?_
            refine mw_getl hx hb hts hown hK hG inlX4 rfl (hG.fix (by decide)) rfl 6 (by decide) 2 rfl wA_56 dX4_workingSet_57 ?_
            refine lv_iload hx hb dX4_workingSet_60 (lv_at hl 0 rfl) ?_
            obtain ⟨h15, hf⟩ := ck_some hf
            refine mw_iald hx hb hK hG (hG.fix (by decide)) rfl (inb_in h15) dX4_workingSet_62 ?_
            refine lv_isub hx hb dX4_workingSet_63 ?_
            refine lv_aload_n hx hb dX4_workingSet_64 rfl (lv_at hl 1 rfl) ?_
            refine mw_geti hx hb hts hown hK hG inlX4 rfl (hG.fix (by decide)) rfl 2 (by decide) rfl wA_53 dX4_workingSet_65 ?_
            refine lv_icmp_gt (tgt := 75) hx hb dX4_workingSet_68 (by decide) (fun c16 => ?_) (fun c16 => ?_)
            · have hf := it_pos c16 hf
              exact K75 _ _ _ _ hf _ _ _ hG hS (lv_sub hl [1, 2, 4] rfl)
            · have hf := it_neg c16 hf
              refine lv_iconst (v := 1) hx hb dX4_workingSet_71 (by decide) ?_
              refine lv_goto (tgt := 76) hx hb dX4_workingSet_72 (by decide) ?_
              exact K76 _ _ _ _ _ hf _ _ _ hG hS (lv_sub hl [1, 2, 4] rfl)
  have K14 : ∀ (x1 : Int32) (y0 : Int32) (σ : pw_S), fX4_workingSet_14 x1 y0 σ = some (r, σ') → mw_K p l e ({ frames := 2, cells := 0, slots := 0, locals := 43 }) s m args below meth c (MQ below (pw_Qi D cA shM 15 A ad r σ') args s 0 0 A) A D cA shM 15 ad 5 14 0 0 [(0, .ref (ad 0)), (1, .int (x1))] [.int (y0), .ref (ad 0)] σ := by
    intro x1 y0 σ hf H locs ls hG hS hl
    unfold fX4_workingSet_14 at hf
    refine mw_puti hx hb hts hown hK hG hS inlX4 tyX4 tyX4_ok nmX4 rfl (hG.fix (by decide)) rfl 0 (by decide) rfl rfl rfl rfl wA_93 dX4_workingSet_14 (fun H locs hG hS => ?_)
    obtain ⟨σ17, e18, hf⟩ := ld_some hf
    rw [← e18] at hG
    clear e18
    refine lv_iconst (v := 0) hx hb dX4_workingSet_17 (by decide) ?_
    refine lv_istore_n (lv' := [(2, .int (0)), (0, .ref (ad 0)), (1, .int (x1))]) hx hb dX4_workingSet_18 rfl hl (by decide) rfl (fun ls hl => ?_)
    refine lv_iconst (v := 0) hx hb dX4_workingSet_19 (by decide) ?_
    refine lv_istore_n (lv' := [(3, .int (0)), (2, .int (0)), (0, .ref (ad 0)), (1, .int (x1))]) hx hb dX4_workingSet_20 rfl hl (by decide) rfl (fun ls hl => ?_)
    exact K21 1000 _ _ _ _ hf _ _ _ hG hS (lv_sub hl [2, 3, 1, 0] rfl)
  have hl : lv_has ls 5 [(0, .ref (ad 0)), (1, .int (a1))] := hl
  unfold fX4_workingSet at hf
  refine lv_aload_n hx hb dX4_workingSet_0 rfl (lv_at hl 0 rfl) ?_
  refine lv_aload_n hx hb dX4_workingSet_1 rfl (lv_at hl 0 rfl) ?_
  refine lv_iload_n hx hb dX4_workingSet_2 rfl (lv_at hl 1 rfl) ?_
  obtain ⟨r19, σ20, hc21, hf⟩ := bnd_some hf
  refine mc_i (mc_V (As := [.int (a1)]) hC hK hA hX hG hS (kX4_isProcess l D cA A ad hc21) ykX4_isProcess wA_174 wA_175 wA_176 (hG.fix (by decide)) rfl rfl ⟨rfl, rfl, Nat.le_of_ble_eq_true rfl, Nat.le_of_ble_eq_true rfl⟩ rfl hl.1 rfl (Nat.le_of_ble_eq_true rfl) dX4_workingSet_3 ⟨Nat.le_of_ble_eq_true rfl, Nat.le_of_ble_eq_true rfl⟩) hS (fun H locs hG hS => ?_)
  refine lv_if_eq (tgt := 13) hx hb dX4_workingSet_6 (by decide) (fun c22 => ?_) (fun c22 => ?_)
  · have hf := it_pos c22 hf
    refine lv_iconst (v := 1) hx hb dX4_workingSet_13 (by decide) ?_
    exact K14 _ _ _ hf _ _ _ hG hS (lv_sub hl [0, 1] rfl)
  · have hf := it_neg c22 hf
    refine lv_iconst (v := 0) hx hb dX4_workingSet_9 (by decide) ?_
    refine lv_goto (tgt := 14) hx hb dX4_workingSet_10 (by decide) ?_
    exact K14 _ _ _ hf _ _ _ hG hS (lv_sub hl [0, 1] rfl)
def fX4_count_28 (y0 : Int32) (σ : pw_S) : Option (Int32 × pw_S) := some (y0, σ)
def fX4_count_23 (σ : pw_S) : Option (Int32 × pw_S) := bnd (fX4_no 1 σ) (fun r3 σ4 => fX4_count_28 r3 σ4)
def fX4_count (a1 : Int32) (σ : pw_S) : Option (Int32 × pw_S) := ld (si σ 0 0 (0)) (fun σ6 => (if a1 < 0 then fX4_count_23 σ6 else (if 5 < a1 then fX4_count_23 σ6 else ck (inb (a1) (6)) (fX4_count_28 ((gi σ6 13 (Int32.toNatClampNeg (a1)))) σ6))))
set_option maxHeartbeats 4000000 in
set_option maxRecDepth 100000 in
theorem kX4_count (l : Launch) (D : va_G) (cA : Nat → ClassId) (A : Nat → Prop) (ad : Nat → Nat) {σ σ' : pw_S} {r : Int32} {a1 : Int32} (hf : fX4_count a1 σ = some (r, σ')) : Met l yX4_count (wA yX4_count cX4_count 2 (some .int)) ({ frames := 1, cells := 0, slots := 0, locals := 21 }) (pw_Pc D cA shM 15 A ad σ [.ref (ad 0), .int (a1)]) (pw_Qi D cA shM 15 A ad r σ') 0 0 A := by
  refine mw_enter (own := RX4) (by decide) rfl (Nat.le_of_ble_eq_true rfl) ?_
  intro p e s m args below meth c ls hC hr hlocks hK hA hX hG hS hl
  obtain ⟨hx, hb, hml, hown, hts⟩ := id hC
  have K28 : ∀ (y0 : Int32) (σ : pw_S), fX4_count_28 y0 σ = some (r, σ') → mw_K p l e ({ frames := 1, cells := 0, slots := 0, locals := 21 }) s m args below meth c (MQ below (pw_Qi D cA shM 15 A ad r σ') args s 0 0 A) A D cA shM 15 ad 2 28 0 0 [] [.int (y0)] σ := by
    intro y0 σ hf H locs ls hG hS hl
    unfold fX4_count_28 at hf
    exact mr_i hC hr hlocks hG hS hf (Nat.le_of_ble_eq_true rfl) (Nat.le_of_ble_eq_true rfl) dX4_count_28
  have K23 : ∀ (σ : pw_S), fX4_count_23  σ = some (r, σ') → mw_K p l e ({ frames := 1, cells := 0, slots := 0, locals := 21 }) s m args below meth c (MQ below (pw_Qi D cA shM 15 A ad r σ') args s 0 0 A) A D cA shM 15 ad 2 23 0 0 [(0, .ref (ad 0))] [] σ := by
    intro  σ hf H locs ls hG hS hl
    unfold fX4_count_23 at hf
    refine lv_aload_n hx hb dX4_count_23 rfl (lv_at hl 0 rfl) ?_
    refine lv_iconst (v := 1) hx hb dX4_count_24 (by decide) ?_
    obtain ⟨r3, σ4, hc5, hf⟩ := bnd_some hf
    refine mc_i (mc_V (As := [.int (1)]) hC hK hA hX hG hS (kX4_no l D cA A ad hc5) ykX4_no wA_95 wA_96 wA_97 (hG.fix (by decide)) rfl rfl ⟨rfl, rfl, Nat.le_of_ble_eq_true rfl, Nat.le_of_ble_eq_true rfl⟩ rfl hl.1 rfl (Nat.le_of_ble_eq_true rfl) dX4_count_25 ⟨Nat.le_of_ble_eq_true rfl, Nat.le_of_ble_eq_true rfl⟩) hS (fun H locs hG hS => ?_)
    exact K28 _ _ hf _ _ _ hG hS (lv_sub hl [] rfl)
  have hl : lv_has ls 2 [(0, .ref (ad 0)), (1, .int (a1))] := hl
  unfold fX4_count at hf
  refine lv_aload_n hx hb dX4_count_0 rfl (lv_at hl 0 rfl) ?_
  refine lv_iconst (v := 0) hx hb dX4_count_1 (by decide) ?_
  refine mw_puti hx hb hts hown hK hG hS inlX4 tyX4 tyX4_ok nmX4 rfl (hG.fix (by decide)) rfl 0 (by decide) rfl rfl rfl rfl wA_93 dX4_count_2 (fun H locs hG hS => ?_)
  obtain ⟨σ6, e7, hf⟩ := ld_some hf
  rw [← e7] at hG
  clear e7
  refine lv_iload_n hx hb dX4_count_5 rfl (lv_at hl 1 rfl) ?_
  refine lv_if_lt (tgt := 23) hx hb dX4_count_6 (by decide) (fun c8 => ?_) (fun c8 => ?_)
  · have hf := it_pos c8 hf
    exact K23 _ hf _ _ _ hG hS (lv_sub hl [0] rfl)
  · have hf := it_neg c8 hf
    refine lv_iload_n hx hb dX4_count_9 rfl (lv_at hl 1 rfl) ?_
    refine lv_iconst (v := 5) hx hb dX4_count_10 (by decide) ?_
    refine lv_icmp_gt (tgt := 23) hx hb dX4_count_11 (by decide) (fun c9 => ?_) (fun c9 => ?_)
    · have hf := it_pos c9 hf
      exact K23 _ hf _ _ _ hG hS (lv_sub hl [0] rfl)
    · have hf := it_neg c9 hf
      refine lv_aload_n hx hb dX4_count_14 rfl (lv_at hl 0 rfl) ?_
      refine mw_getl hx hb hts hown hK hG inlX4 rfl (hG.fix (by decide)) rfl 19 (by decide) 13 rfl wA_67 dX4_count_15 ?_
      refine lv_iload_n hx hb dX4_count_18 rfl (lv_at hl 1 rfl) ?_
      obtain ⟨h10, hf⟩ := ck_some hf
      refine mw_iald hx hb hK hG (hG.fix (by decide)) rfl (inb_in h10) dX4_count_19 ?_
      refine lv_goto (tgt := 28) hx hb dX4_count_20 (by decide) ?_
      exact K28 _ _ hf _ _ _ hG hS (lv_sub hl [] rfl)
def fX4_digest_218_b (bk218 : Int64 → Int32 → pw_S → Option (Int64 × pw_S)) (x1 : Int64) (x3 : Int32) (σ : pw_S) : Option (Int64 × pw_S) := (if (nI 6) ≤ x3 then some (x1, σ) else ck (inb (x3) (6)) (bk218 (((x1 * 31) + (Int32.toInt64 ((gi σ 13 (Int32.toNatClampNeg (x3))))))) (x3 + 1) σ))
def fX4_digest_218 : Nat → Int64 → Int32 → pw_S → Option (Int64 × pw_S)
  | 0, _, _, _ => none
  | n + 1, x1, x3, σ => fX4_digest_218_b (fX4_digest_218 n) x1 x3 σ
def fX4_digest_196 (bk137 : Int64 → Int32 → pw_S → Option (Int64 × pw_S)) (x3 : Int32) (y0 : Int64) (y1 : Int64) (σ : pw_S) : Option (Int64 × pw_S) := bk137 ((y1 + y0)) (x3 + 1) σ
def fX4_digest_195 (bk137 : Int64 → Int32 → pw_S → Option (Int64 × pw_S)) (x3 : Int32) (y0 : Int64) (σ : pw_S) : Option (Int64 × pw_S) := fX4_digest_196 bk137 x3 0 y0 σ
def fX4_digest_137_b (bk137 : Int64 → Int32 → pw_S → Option (Int64 × pw_S)) (x1 : Int64) (x3 : Int32) (σ : pw_S) : Option (Int64 × pw_S) := (if (gi σ 0 3) ≤ x3 then bnd (fX4_slotsLeft σ) (fun r11 σ12 => fX4_digest_218 1000 (((x1 * 31) + (Int32.toInt64 (r11)))) 0 σ12) else bnd (fX4_stateOf x3 σ) (fun r14 σ15 => bnd (fX4_useOf x3 σ15) (fun r17 σ18 => ck (inb (x3) (12)) ((if (gi σ18 1 (Int32.toNatClampNeg (x3))) = (-1) then fX4_digest_195 bk137 x3 ((((((x1 * 31) + (Int32.toInt64 (r14))) * 31) + (Int32.toInt64 (r17))) * 31)) σ18 else ck (inb (x3) (12)) ((if (gi σ18 3 (Int32.toNatClampNeg (x3))) = 0 then fX4_digest_195 bk137 x3 ((((((x1 * 31) + (Int32.toInt64 (r14))) * 31) + (Int32.toInt64 (r17))) * 31)) σ18 else fX4_digest_196 bk137 x3 1 ((((((x1 * 31) + (Int32.toInt64 (r14))) * 31) + (Int32.toInt64 (r17))) * 31)) σ18)))))))
def fX4_digest_137 : Nat → Int64 → Int32 → pw_S → Option (Int64 × pw_S)
  | 0, _, _, _ => none
  | n + 1, x1, x3, σ => fX4_digest_137_b (fX4_digest_137 n) x1 x3 σ
def fX4_digest_73_b (bk37 : Int64 → Int32 → pw_S → Option (Int64 × pw_S)) (bk73 : Int64 → Int32 → Int32 → pw_S → Option (Int64 × pw_S)) (x1 : Int64) (x3 : Int32) (x4 : Int32) (σ : pw_S) : Option (Int64 × pw_S) := bnd (fX4_at x3 16 σ) (fun r24 σ25 => (if r24 ≤ x4 then bk37 x1 (x3 + 1) σ25 else ck (inb (x4) (160)) (bnd (fX4_frameAt x4 σ25) (fun r29 σ30 => bnd (fX4_slotAt x4 σ30) (fun r32 σ33 => bk73 (((((((x1 * 31) + (Int32.toInt64 ((gi σ25 9 (Int32.toNatClampNeg (x4)))))) * 31) + (Int32.toInt64 (r29))) * 31) + (Int32.toInt64 (r32)))) x3 (x4 + 1) σ33)))))
def fX4_digest_73 (bk37 : Int64 → Int32 → pw_S → Option (Int64 × pw_S)) : Nat → Int64 → Int32 → Int32 → pw_S → Option (Int64 × pw_S)
  | 0, _, _, _, _ => none
  | n + 1, x1, x3, x4, σ => fX4_digest_73_b bk37 (fX4_digest_73 bk37 n) x1 x3 x4 σ
def fX4_digest_64 (bk37 : Int64 → Int32 → pw_S → Option (Int64 × pw_S)) (x3 : Int32) (y0 : Int64) (y1 : Int64) (σ : pw_S) : Option (Int64 × pw_S) := bnd (fX4_at x3 0 σ) (fun r35 σ36 => fX4_digest_73 bk37 1000 ((y1 + y0)) x3 r35 σ36)
def fX4_digest_37_b (bk37 : Int64 → Int32 → pw_S → Option (Int64 × pw_S)) (x1 : Int64) (x3 : Int32) (σ : pw_S) : Option (Int64 × pw_S) := (if (gi σ 0 12) ≤ x3 then fX4_digest_137 1000 x1 0 σ else ck (inb (x3) (10)) ((if (gi σ 8 (Int32.toNatClampNeg (x3))) = 0 then fX4_digest_64 bk37 x3 0 ((x1 * 31)) σ else fX4_digest_64 bk37 x3 1 ((x1 * 31)) σ)))
def fX4_digest_37 : Nat → Int64 → Int32 → pw_S → Option (Int64 × pw_S)
  | 0, _, _, _ => none
  | n + 1, x1, x3, σ => fX4_digest_37_b (fX4_digest_37 n) x1 x3 σ
def fX4_digest (σ : pw_S) : Option (Int64 × pw_S) := ld (si σ 0 0 (0)) (fun σ41 => fX4_digest_37 1000 ((((((2077 + (Int32.toInt64 ((gi σ41 0 1)))) * 31) + (Int32.toInt64 ((gi σ41 0 4)))) * 31) + (Int32.toInt64 ((gi σ41 0 12))))) 0 σ41)
set_option maxHeartbeats 4000000 in
set_option maxRecDepth 100000 in
theorem kX4_digest (l : Launch) (D : va_G) (cA : Nat → ClassId) (A : Nat → Prop) (ad : Nat → Nat) {σ σ' : pw_S} {r : Int64} (hf : fX4_digest σ = some (r, σ')) : Met l yX4_digest (wA yX4_digest cX4_digest 5 (some .long)) ({ frames := 3, cells := 0, slots := 0, locals := 64 }) (pw_Pc D cA shM 15 A ad σ [.ref (ad 0)]) (pw_Ql D cA shM 15 A ad r σ') 0 0 A := by
  refine mw_enter (own := RX4) (by decide) rfl (Nat.le_of_ble_eq_true rfl) ?_
  intro p e s m args below meth c ls hC hr hlocks hK hA hX hG hS hl
  obtain ⟨hx, hb, hml, hown, hts⟩ := id hC
  have K218 : ∀ (n218 : Nat) (x1 : Int64) (x3 : Int32) (σ : pw_S), fX4_digest_218 n218 x1 x3 σ = some (r, σ') → mw_K p l e ({ frames := 3, cells := 0, slots := 0, locals := 64 }) s m args below meth c (MQ below (pw_Ql D cA shM 15 A ad r σ') args s 0 0 A) A D cA shM 15 ad 5 218 0 0 [(0, .ref (ad 0)), (1, .long (x1)), (3, .int (x3))] [] σ := by
    intro n218
    induction n218 with
    | zero => intro x1 x3 σ hf; cases hf
    | succ n218 ih218 =>
      intro x1 x3 σ hf H locs ls hG hS hl
      have hf : fX4_digest_218_b (fX4_digest_218 n218) x1 x3 σ = some (r, σ') := hf
      unfold fX4_digest_218_b at hf
      refine lv_iload_n hx hb dX4_digest_218 rfl (lv_at hl 2 rfl) ?_
      refine lv_aload_n hx hb dX4_digest_219 rfl (lv_at hl 0 rfl) ?_
      refine mw_getl hx hb hts hown hK hG inlX4 rfl (hG.fix (by decide)) rfl 19 (by decide) 13 rfl wA_67 dX4_digest_220 ?_
      refine mw_alen hx hb hK hG (hG.fix (by decide)) rfl (by decide) dX4_digest_223 ?_
      refine lv_icmp_ge (tgt := 247) hx hb dX4_digest_224 (by decide) (fun c8 => ?_) (fun c8 => ?_)
      · have hf := it_pos c8 hf
        refine lv_lload_n hx hb dX4_digest_247 rfl (lv_at hl 1 rfl) ?_
        exact mr_l hC hr hlocks hG hS hf (Nat.le_of_ble_eq_true rfl) (Nat.le_of_ble_eq_true rfl) dX4_digest_248
      · have hf := it_neg c8 hf
        refine lv_lload_n hx hb dX4_digest_227 rfl (lv_at hl 1 rfl) ?_
        refine lv_ldc2 (v := 31) hx hb hown (hts _ wA_710) dX4_digest_228 ?_
        refine lv_lmul hx hb dX4_digest_231 ?_
        refine lv_aload_n hx hb dX4_digest_232 rfl (lv_at hl 0 rfl) ?_
        refine mw_getl hx hb hts hown hK hG inlX4 rfl (hG.fix (by decide)) rfl 19 (by decide) 13 rfl wA_67 dX4_digest_233 ?_
        refine lv_iload_n hx hb dX4_digest_236 rfl (lv_at hl 2 rfl) ?_
        obtain ⟨h9, hf⟩ := ck_some hf
        refine mw_iald hx hb hK hG (hG.fix (by decide)) rfl (inb_in h9) dX4_digest_237 ?_
        refine lv_i2l (v := Int32.toInt64 ((gi σ 13 (Int32.toNatClampNeg (x3))))) hx hb dX4_digest_238 rfl ?_
        refine lv_ladd hx hb dX4_digest_239 ?_
        refine lv_lstore_n (lv' := [(1, .long (((x1 * 31) + (Int32.toInt64 ((gi σ 13 (Int32.toNatClampNeg (x3)))))))), (0, .ref (ad 0)), (3, .int (x3))]) hx hb dX4_digest_240 rfl hl (by decide) rfl (fun ls hl => ?_)
        refine lv_iinc (v := x3 + 1) (lv' := [(3, .int (x3 + 1)), (1, .long (((x1 * 31) + (Int32.toInt64 ((gi σ 13 (Int32.toNatClampNeg (x3)))))))), (0, .ref (ad 0))]) hx hb dX4_digest_241 hl (k := 2) rfl rfl (by decide) rfl (fun ls hl => ?_)
        refine lv_goto (tgt := 218) hx hb dX4_digest_244 (by decide) ?_
        exact ih218 _ _ _ hf _ _ _ hG hS (lv_sub hl [2, 1, 0] rfl)
  have K137 : ∀ (n137 : Nat) (x1 : Int64) (x3 : Int32) (σ : pw_S), fX4_digest_137 n137 x1 x3 σ = some (r, σ') → mw_K p l e ({ frames := 3, cells := 0, slots := 0, locals := 64 }) s m args below meth c (MQ below (pw_Ql D cA shM 15 A ad r σ') args s 0 0 A) A D cA shM 15 ad 5 137 0 0 [(0, .ref (ad 0)), (1, .long (x1)), (3, .int (x3))] [] σ := by
    intro n137
    induction n137 with
    | zero => intro x1 x3 σ hf; cases hf
    | succ n137 ih137 =>
      have K196 : ∀ (x3 : Int32) (y0 : Int64) (y1 : Int64) (σ : pw_S), fX4_digest_196 (fX4_digest_137 n137) x3 y0 y1 σ = some (r, σ') → mw_K p l e ({ frames := 3, cells := 0, slots := 0, locals := 64 }) s m args below meth c (MQ below (pw_Ql D cA shM 15 A ad r σ') args s 0 0 A) A D cA shM 15 ad 5 196 0 0 [(0, .ref (ad 0)), (3, .int (x3))] [.long (y0), .long (y1)] σ := by
        intro x3 y0 y1 σ hf H locs ls hG hS hl
        unfold fX4_digest_196 at hf
        refine lv_ladd hx hb dX4_digest_196 ?_
        refine lv_lstore_n (lv' := [(1, .long ((y1 + y0))), (0, .ref (ad 0)), (3, .int (x3))]) hx hb dX4_digest_197 rfl hl (by decide) rfl (fun ls hl => ?_)
        refine lv_iinc (v := x3 + 1) (lv' := [(3, .int (x3 + 1)), (1, .long ((y1 + y0))), (0, .ref (ad 0))]) hx hb dX4_digest_198 hl (k := 2) rfl rfl (by decide) rfl (fun ls hl => ?_)
        refine lv_goto (tgt := 137) hx hb dX4_digest_201 (by decide) ?_
        exact ih137 _ _ _ hf _ _ _ hG hS (lv_sub hl [2, 1, 0] rfl)
      have K195 : ∀ (x3 : Int32) (y0 : Int64) (σ : pw_S), fX4_digest_195 (fX4_digest_137 n137) x3 y0 σ = some (r, σ') → mw_K p l e ({ frames := 3, cells := 0, slots := 0, locals := 64 }) s m args below meth c (MQ below (pw_Ql D cA shM 15 A ad r σ') args s 0 0 A) A D cA shM 15 ad 5 195 0 0 [(0, .ref (ad 0)), (3, .int (x3))] [.long (y0)] σ := by
        intro x3 y0 σ hf H locs ls hG hS hl
        unfold fX4_digest_195 at hf
        refine lv_lconst (v := 0) hx hb dX4_digest_195 (by decide) ?_
        exact K196 _ _ _ _ hf _ _ _ hG hS (lv_sub hl [0, 1] rfl)
      intro x1 x3 σ hf H locs ls hG hS hl
      have hf : fX4_digest_137_b (fX4_digest_137 n137) x1 x3 σ = some (r, σ') := hf
      unfold fX4_digest_137_b at hf
      refine lv_iload_n hx hb dX4_digest_137 rfl (lv_at hl 2 rfl) ?_
      refine lv_aload_n hx hb dX4_digest_138 rfl (lv_at hl 0 rfl) ?_
      refine mw_geti hx hb hts hown hK hG inlX4 rfl (hG.fix (by decide)) rfl 3 (by decide) rfl wA_54 dX4_digest_139 ?_
      refine lv_icmp_ge (tgt := 204) hx hb dX4_digest_142 (by decide) (fun c10 => ?_) (fun c10 => ?_)
      · have hf := it_pos c10 hf
        refine lv_lload_n hx hb dX4_digest_204 rfl (lv_at hl 1 rfl) ?_
        refine lv_ldc2 (v := 31) hx hb hown (hts _ wA_710) dX4_digest_205 ?_
        refine lv_lmul hx hb dX4_digest_208 ?_
        refine lv_aload_n hx hb dX4_digest_209 rfl (lv_at hl 0 rfl) ?_
        obtain ⟨r11, σ12, hc13, hf⟩ := bnd_some hf
        refine mc_i (mc_V (As := []) hC hK hA hX hG hS (kX4_slotsLeft l D cA A ad hc13) ykX4_slotsLeft wA_656 wA_657 wA_658 (hG.fix (by decide)) rfl rfl ⟨rfl, rfl, Nat.le_of_ble_eq_true rfl, Nat.le_of_ble_eq_true rfl⟩ rfl hl.1 rfl (Nat.le_of_ble_eq_true rfl) dX4_digest_210 ⟨Nat.le_of_ble_eq_true rfl, Nat.le_of_ble_eq_true rfl⟩) hS (fun H locs hG hS => ?_)
        refine lv_i2l (v := Int32.toInt64 (r11)) hx hb dX4_digest_213 rfl ?_
        refine lv_ladd hx hb dX4_digest_214 ?_
        refine lv_lstore_n (lv' := [(1, .long (((x1 * 31) + (Int32.toInt64 (r11))))), (0, .ref (ad 0)), (3, .int (x3))]) hx hb dX4_digest_215 rfl hl (by decide) rfl (fun ls hl => ?_)
        refine lv_iconst (v := 0) hx hb dX4_digest_216 (by decide) ?_
        refine lv_istore_n (lv' := [(3, .int (0)), (1, .long (((x1 * 31) + (Int32.toInt64 (r11))))), (0, .ref (ad 0))]) hx hb dX4_digest_217 rfl hl (by decide) rfl (fun ls hl => ?_)
        exact K218 1000 _ _ _ hf _ _ _ hG hS (lv_sub hl [2, 1, 0] rfl)
      · have hf := it_neg c10 hf
        refine lv_lload_n hx hb dX4_digest_145 rfl (lv_at hl 1 rfl) ?_
        refine lv_ldc2 (v := 31) hx hb hown (hts _ wA_710) dX4_digest_146 ?_
        refine lv_lmul hx hb dX4_digest_149 ?_
        refine lv_aload_n hx hb dX4_digest_150 rfl (lv_at hl 0 rfl) ?_
        refine lv_iload_n hx hb dX4_digest_151 rfl (lv_at hl 2 rfl) ?_
        obtain ⟨r14, σ15, hc16, hf⟩ := bnd_some hf
        refine mc_i (mc_V (As := [.int (x3)]) hC hK hA hX hG hS (kX4_stateOf l D cA A ad hc16) ykX4_stateOf wA_610 wA_611 wA_612 (hG.fix (by decide)) rfl rfl ⟨rfl, rfl, Nat.le_of_ble_eq_true rfl, Nat.le_of_ble_eq_true rfl⟩ rfl hl.1 rfl (Nat.le_of_ble_eq_true rfl) dX4_digest_152 ⟨Nat.le_of_ble_eq_true rfl, Nat.le_of_ble_eq_true rfl⟩) hS (fun H locs hG hS => ?_)
        refine lv_i2l (v := Int32.toInt64 (r14)) hx hb dX4_digest_155 rfl ?_
        refine lv_ladd hx hb dX4_digest_156 ?_
        refine lv_ldc2 (v := 31) hx hb hown (hts _ wA_710) dX4_digest_157 ?_
        refine lv_lmul hx hb dX4_digest_160 ?_
        refine lv_aload_n hx hb dX4_digest_161 rfl (lv_at hl 0 rfl) ?_
        refine lv_iload_n hx hb dX4_digest_162 rfl (lv_at hl 2 rfl) ?_
        obtain ⟨r17, σ18, hc19, hf⟩ := bnd_some hf
        refine mc_i (mc_V (As := [.int (x3)]) hC hK hA hX hG hS (kX4_useOf l D cA A ad hc19) ykX4_useOf wA_625 wA_626 wA_627 (hG.fix (by decide)) rfl rfl ⟨rfl, rfl, Nat.le_of_ble_eq_true rfl, Nat.le_of_ble_eq_true rfl⟩ rfl hl.1 rfl (Nat.le_of_ble_eq_true rfl) dX4_digest_163 ⟨Nat.le_of_ble_eq_true rfl, Nat.le_of_ble_eq_true rfl⟩) hS (fun H locs hG hS => ?_)
        refine lv_i2l (v := Int32.toInt64 (r17)) hx hb dX4_digest_166 rfl ?_
        refine lv_ladd hx hb dX4_digest_167 ?_
        refine lv_ldc2 (v := 31) hx hb hown (hts _ wA_710) dX4_digest_168 ?_
        refine lv_lmul hx hb dX4_digest_171 ?_
        refine lv_aload_n hx hb dX4_digest_172 rfl (lv_at hl 0 rfl) ?_
        refine mw_getl hx hb hts hown hK hG inlX4 rfl (hG.fix (by decide)) rfl 5 (by decide) 1 rfl wA_55 dX4_digest_173 ?_
        refine lv_iload_n hx hb dX4_digest_176 rfl (lv_at hl 2 rfl) ?_
        obtain ⟨h20, hf⟩ := ck_some hf
        refine mw_iald hx hb hK hG (hG.fix (by decide)) rfl (inb_in h20) dX4_digest_177 ?_
        refine lv_iconst (v := (-1)) hx hb dX4_digest_178 (by decide) ?_
        refine lv_icmp_eq (tgt := 195) hx hb dX4_digest_179 (by decide) (fun c21 => ?_) (fun c21 => ?_)
        · have hf := it_pos c21 hf
          exact K195 _ _ _ hf _ _ _ hG hS (lv_sub hl [0, 2] rfl)
        · have hf := it_neg c21 hf
          refine lv_aload_n hx hb dX4_digest_182 rfl (lv_at hl 0 rfl) ?_
          refine mw_getl hx hb hts hown hK hG inlX4 rfl (hG.fix (by decide)) rfl 7 (by decide) 3 rfl wA_57 dX4_digest_183 ?_
          refine lv_iload_n hx hb dX4_digest_186 rfl (lv_at hl 2 rfl) ?_
          obtain ⟨h22, hf⟩ := ck_some hf
          refine mw_zald hx hb hK hG (hG.fix (by decide)) rfl (inb_in h22) dX4_digest_187 ?_
          refine lv_if_eq (tgt := 195) hx hb dX4_digest_188 (by decide) (fun c23 => ?_) (fun c23 => ?_)
          · have hf := it_pos c23 hf
            exact K195 _ _ _ hf _ _ _ hG hS (lv_sub hl [0, 2] rfl)
          · have hf := it_neg c23 hf
            refine lv_lconst (v := 1) hx hb dX4_digest_191 (by decide) ?_
            refine lv_goto (tgt := 196) hx hb dX4_digest_192 (by decide) ?_
            exact K196 _ _ _ _ hf _ _ _ hG hS (lv_sub hl [0, 2] rfl)
  have K37 : ∀ (n37 : Nat) (x1 : Int64) (x3 : Int32) (σ : pw_S), fX4_digest_37 n37 x1 x3 σ = some (r, σ') → mw_K p l e ({ frames := 3, cells := 0, slots := 0, locals := 64 }) s m args below meth c (MQ below (pw_Ql D cA shM 15 A ad r σ') args s 0 0 A) A D cA shM 15 ad 5 37 0 0 [(0, .ref (ad 0)), (1, .long (x1)), (3, .int (x3))] [] σ := by
    intro n37
    induction n37 with
    | zero => intro x1 x3 σ hf; cases hf
    | succ n37 ih37 =>
      have K73 : ∀ (n73 : Nat) (x1 : Int64) (x3 : Int32) (x4 : Int32) (σ : pw_S), fX4_digest_73 (fX4_digest_37 n37) n73 x1 x3 x4 σ = some (r, σ') → mw_K p l e ({ frames := 3, cells := 0, slots := 0, locals := 64 }) s m args below meth c (MQ below (pw_Ql D cA shM 15 A ad r σ') args s 0 0 A) A D cA shM 15 ad 5 73 0 0 [(0, .ref (ad 0)), (1, .long (x1)), (3, .int (x3)), (4, .int (x4))] [] σ := by
        intro n73
        induction n73 with
        | zero => intro x1 x3 x4 σ hf; cases hf
        | succ n73 ih73 =>
          intro x1 x3 x4 σ hf H locs ls hG hS hl
          have hf : fX4_digest_73_b (fX4_digest_37 n37) (fX4_digest_73 (fX4_digest_37 n37) n73) x1 x3 x4 σ = some (r, σ') := hf
          unfold fX4_digest_73_b at hf
          refine lv_iload hx hb dX4_digest_73 (lv_at hl 3 rfl) ?_
          refine lv_iload_n hx hb dX4_digest_75 rfl (lv_at hl 2 rfl) ?_
          refine lv_bipush (v := 16) hx hb dX4_digest_76 (by decide) ?_
          obtain ⟨r24, σ25, hc26, hf⟩ := bnd_some hf
          refine mc_i (mc_S (As := [.int (x3), .int (16)]) hC hK hA hX hG hS (kX4_at l D cA A ad hc26) ykX4_at wA_138 wA_139 ⟨rfl, rfl, Nat.le_of_ble_eq_true rfl, Nat.le_of_ble_eq_true rfl⟩ rfl hl.1 rfl (Nat.le_of_ble_eq_true rfl) dX4_digest_78 ⟨Nat.le_of_ble_eq_true rfl, Nat.le_of_ble_eq_true rfl⟩) hS (fun H locs hG hS => ?_)
          refine lv_icmp_ge (tgt := 129) hx hb dX4_digest_81 (by decide) (fun c27 => ?_) (fun c27 => ?_)
          · have hf := it_pos c27 hf
            refine lv_iinc (v := x3 + 1) (lv' := [(3, .int (x3 + 1)), (0, .ref (ad 0)), (1, .long (x1)), (4, .int (x4))]) hx hb dX4_digest_129 hl (k := 2) rfl rfl (by decide) rfl (fun ls hl => ?_)
            refine lv_goto (tgt := 37) hx hb dX4_digest_132 (by decide) ?_
            exact ih37 _ _ _ hf _ _ _ hG hS (lv_sub hl [1, 2, 0] rfl)
          · have hf := it_neg c27 hf
            refine lv_lload_n hx hb dX4_digest_84 rfl (lv_at hl 1 rfl) ?_
            refine lv_ldc2 (v := 31) hx hb hown (hts _ wA_710) dX4_digest_85 ?_
            refine lv_lmul hx hb dX4_digest_88 ?_
            refine lv_aload_n hx hb dX4_digest_89 rfl (lv_at hl 0 rfl) ?_
            refine mw_getl hx hb hts hown hK hG inlX4 rfl (hG.fix (by decide)) rfl 14 (by decide) 9 rfl wA_63 dX4_digest_90 ?_
            refine lv_iload hx hb dX4_digest_93 (lv_at hl 3 rfl) ?_
            obtain ⟨h28, hf⟩ := ck_some hf
            refine mw_iald hx hb hK hG (hG.fix (by decide)) rfl (inb_in h28) dX4_digest_95 ?_
            refine lv_i2l (v := Int32.toInt64 ((gi σ25 9 (Int32.toNatClampNeg (x4))))) hx hb dX4_digest_96 rfl ?_
            refine lv_ladd hx hb dX4_digest_97 ?_
            refine lv_ldc2 (v := 31) hx hb hown (hts _ wA_710) dX4_digest_98 ?_
            refine lv_lmul hx hb dX4_digest_101 ?_
            refine lv_aload_n hx hb dX4_digest_102 rfl (lv_at hl 0 rfl) ?_
            refine lv_iload hx hb dX4_digest_103 (lv_at hl 3 rfl) ?_
            obtain ⟨r29, σ30, hc31, hf⟩ := bnd_some hf
            refine mc_i (mc_V (As := [.int (x4)]) hC hK hA hX hG hS (kX4_frameAt l D cA A ad hc31) ykX4_frameAt wA_561 wA_562 wA_563 (hG.fix (by decide)) rfl rfl ⟨rfl, rfl, Nat.le_of_ble_eq_true rfl, Nat.le_of_ble_eq_true rfl⟩ rfl hl.1 rfl (Nat.le_of_ble_eq_true rfl) dX4_digest_105 ⟨Nat.le_of_ble_eq_true rfl, Nat.le_of_ble_eq_true rfl⟩) hS (fun H locs hG hS => ?_)
            refine lv_i2l (v := Int32.toInt64 (r29)) hx hb dX4_digest_108 rfl ?_
            refine lv_ladd hx hb dX4_digest_109 ?_
            refine lv_ldc2 (v := 31) hx hb hown (hts _ wA_710) dX4_digest_110 ?_
            refine lv_lmul hx hb dX4_digest_113 ?_
            refine lv_aload_n hx hb dX4_digest_114 rfl (lv_at hl 0 rfl) ?_
            refine lv_iload hx hb dX4_digest_115 (lv_at hl 3 rfl) ?_
            obtain ⟨r32, σ33, hc34, hf⟩ := bnd_some hf
            refine mc_i (mc_V (As := [.int (x4)]) hC hK hA hX hG hS (kX4_slotAt l D cA A ad hc34) ykX4_slotAt wA_576 wA_577 wA_578 (hG.fix (by decide)) rfl rfl ⟨rfl, rfl, Nat.le_of_ble_eq_true rfl, Nat.le_of_ble_eq_true rfl⟩ rfl hl.1 rfl (Nat.le_of_ble_eq_true rfl) dX4_digest_117 ⟨Nat.le_of_ble_eq_true rfl, Nat.le_of_ble_eq_true rfl⟩) hS (fun H locs hG hS => ?_)
            refine lv_i2l (v := Int32.toInt64 (r32)) hx hb dX4_digest_120 rfl ?_
            refine lv_ladd hx hb dX4_digest_121 ?_
            refine lv_lstore_n (lv' := [(1, .long (((((((x1 * 31) + (Int32.toInt64 ((gi σ25 9 (Int32.toNatClampNeg (x4)))))) * 31) + (Int32.toInt64 (r29))) * 31) + (Int32.toInt64 (r32))))), (0, .ref (ad 0)), (3, .int (x3)), (4, .int (x4))]) hx hb dX4_digest_122 rfl hl (by decide) rfl (fun ls hl => ?_)
            refine lv_iinc (v := x4 + 1) (lv' := [(4, .int (x4 + 1)), (1, .long (((((((x1 * 31) + (Int32.toInt64 ((gi σ25 9 (Int32.toNatClampNeg (x4)))))) * 31) + (Int32.toInt64 (r29))) * 31) + (Int32.toInt64 (r32))))), (0, .ref (ad 0)), (3, .int (x3))]) hx hb dX4_digest_123 hl (k := 3) rfl rfl (by decide) rfl (fun ls hl => ?_)
            refine lv_goto (tgt := 73) hx hb dX4_digest_126 (by decide) ?_
            exact ih73 _ _ _ _ hf _ _ _ hG hS (lv_sub hl [2, 1, 3, 0] rfl)
      have K64 : ∀ (x3 : Int32) (y0 : Int64) (y1 : Int64) (σ : pw_S), fX4_digest_64 (fX4_digest_37 n37) x3 y0 y1 σ = some (r, σ') → mw_K p l e ({ frames := 3, cells := 0, slots := 0, locals := 64 }) s m args below meth c (MQ below (pw_Ql D cA shM 15 A ad r σ') args s 0 0 A) A D cA shM 15 ad 5 64 0 0 [(0, .ref (ad 0)), (3, .int (x3))] [.long (y0), .long (y1)] σ := by
        intro x3 y0 y1 σ hf H locs ls hG hS hl
        unfold fX4_digest_64 at hf
        refine lv_ladd hx hb dX4_digest_64 ?_
        refine lv_lstore_n (lv' := [(1, .long ((y1 + y0))), (0, .ref (ad 0)), (3, .int (x3))]) hx hb dX4_digest_65 rfl hl (by decide) rfl (fun ls hl => ?_)
        refine lv_iload_n hx hb dX4_digest_66 rfl (lv_at hl 2 rfl) ?_
        refine lv_iconst (v := 0) hx hb dX4_digest_67 (by decide) ?_
        obtain ⟨r35, σ36, hc37, hf⟩ := bnd_some hf
        refine mc_i (mc_S (As := [.int (x3), .int (0)]) hC hK hA hX hG hS (kX4_at l D cA A ad hc37) ykX4_at wA_138 wA_139 ⟨rfl, rfl, Nat.le_of_ble_eq_true rfl, Nat.le_of_ble_eq_true rfl⟩ rfl hl.1 rfl (Nat.le_of_ble_eq_true rfl) dX4_digest_68 ⟨Nat.le_of_ble_eq_true rfl, Nat.le_of_ble_eq_true rfl⟩) hS (fun H locs hG hS => ?_)
        refine lv_istore (lv' := [(4, .int (r35)), (1, .long ((y1 + y0))), (0, .ref (ad 0)), (3, .int (x3))]) hx hb dX4_digest_71 hl (by decide) rfl (fun ls hl => ?_)
        exact K73 1000 _ _ _ _ hf _ _ _ hG hS (lv_sub hl [2, 1, 3, 0] rfl)
      intro x1 x3 σ hf H locs ls hG hS hl
      have hf : fX4_digest_37_b (fX4_digest_37 n37) x1 x3 σ = some (r, σ') := hf
      unfold fX4_digest_37_b at hf
      refine lv_iload_n hx hb dX4_digest_37 rfl (lv_at hl 2 rfl) ?_
      refine lv_aload_n hx hb dX4_digest_38 rfl (lv_at hl 0 rfl) ?_
      refine mw_geti hx hb hts hown hK hG inlX4 rfl (hG.fix (by decide)) rfl 12 (by decide) rfl wA_137 dX4_digest_39 ?_
      refine lv_icmp_ge (tgt := 135) hx hb dX4_digest_42 (by decide) (fun c38 => ?_) (fun c38 => ?_)
      · have hf := it_pos c38 hf
        refine lv_iconst (v := 0) hx hb dX4_digest_135 (by decide) ?_
        refine lv_istore_n (lv' := [(3, .int (0)), (0, .ref (ad 0)), (1, .long (x1))]) hx hb dX4_digest_136 rfl hl (by decide) rfl (fun ls hl => ?_)
        exact K137 1000 _ _ _ hf _ _ _ hG hS (lv_sub hl [1, 2, 0] rfl)
      · have hf := it_neg c38 hf
        refine lv_lload_n hx hb dX4_digest_45 rfl (lv_at hl 1 rfl) ?_
        refine lv_ldc2 (v := 31) hx hb hown (hts _ wA_710) dX4_digest_46 ?_
        refine lv_lmul hx hb dX4_digest_49 ?_
        refine lv_aload_n hx hb dX4_digest_50 rfl (lv_at hl 0 rfl) ?_
        refine mw_getl hx hb hts hown hK hG inlX4 rfl (hG.fix (by decide)) rfl 13 (by decide) 8 rfl wA_62 dX4_digest_51 ?_
        refine lv_iload_n hx hb dX4_digest_54 rfl (lv_at hl 2 rfl) ?_
        obtain ⟨h39, hf⟩ := ck_some hf
        refine mw_zald hx hb hK hG (hG.fix (by decide)) rfl (inb_in h39) dX4_digest_55 ?_
        refine lv_if_eq (tgt := 63) hx hb dX4_digest_56 (by decide) (fun c40 => ?_) (fun c40 => ?_)
        · have hf := it_pos c40 hf
          refine lv_lconst (v := 0) hx hb dX4_digest_63 (by decide) ?_
          exact K64 _ _ _ _ hf _ _ _ hG hS (lv_sub hl [0, 2] rfl)
        · have hf := it_neg c40 hf
          refine lv_lconst (v := 1) hx hb dX4_digest_59 (by decide) ?_
          refine lv_goto (tgt := 64) hx hb dX4_digest_60 (by decide) ?_
          exact K64 _ _ _ _ hf _ _ _ hG hS (lv_sub hl [0, 2] rfl)
  have hl : lv_has ls 5 [(0, .ref (ad 0))] := hl
  unfold fX4_digest at hf
  refine lv_aload_n hx hb dX4_digest_0 rfl (lv_at hl 0 rfl) ?_
  refine lv_iconst (v := 0) hx hb dX4_digest_1 (by decide) ?_
  refine mw_puti hx hb hts hown hK hG hS inlX4 tyX4 tyX4_ok nmX4 rfl (hG.fix (by decide)) rfl 0 (by decide) rfl rfl rfl rfl wA_93 dX4_digest_2 (fun H locs hG hS => ?_)
  obtain ⟨σ41, e42, hf⟩ := ld_some hf
  rw [← e42] at hG
  clear e42
  refine lv_ldc2 (v := 2077) hx hb hown (hts _ wA_709) dX4_digest_5 ?_
  refine lv_aload_n hx hb dX4_digest_8 rfl (lv_at hl 0 rfl) ?_
  refine mw_geti hx hb hts hown hK hG inlX4 rfl (hG.fix (by decide)) rfl 1 (by decide) rfl wA_454 dX4_digest_9 ?_
  refine lv_i2l (v := Int32.toInt64 ((gi σ41 0 1))) hx hb dX4_digest_12 rfl ?_
  refine lv_ladd hx hb dX4_digest_13 ?_
  refine lv_ldc2 (v := 31) hx hb hown (hts _ wA_710) dX4_digest_14 ?_
  refine lv_lmul hx hb dX4_digest_17 ?_
  refine lv_aload_n hx hb dX4_digest_18 rfl (lv_at hl 0 rfl) ?_
  refine mw_geti hx hb hts hown hK hG inlX4 rfl (hG.fix (by decide)) rfl 4 (by decide) rfl wA_94 dX4_digest_19 ?_
  refine lv_i2l (v := Int32.toInt64 ((gi σ41 0 4))) hx hb dX4_digest_22 rfl ?_
  refine lv_ladd hx hb dX4_digest_23 ?_
  refine lv_ldc2 (v := 31) hx hb hown (hts _ wA_710) dX4_digest_24 ?_
  refine lv_lmul hx hb dX4_digest_27 ?_
  refine lv_aload_n hx hb dX4_digest_28 rfl (lv_at hl 0 rfl) ?_
  refine mw_geti hx hb hts hown hK hG inlX4 rfl (hG.fix (by decide)) rfl 12 (by decide) rfl wA_137 dX4_digest_29 ?_
  refine lv_i2l (v := Int32.toInt64 ((gi σ41 0 12))) hx hb dX4_digest_32 rfl ?_
  refine lv_ladd hx hb dX4_digest_33 ?_
  refine lv_lstore_n (lv' := [(1, .long ((((((2077 + (Int32.toInt64 ((gi σ41 0 1)))) * 31) + (Int32.toInt64 ((gi σ41 0 4)))) * 31) + (Int32.toInt64 ((gi σ41 0 12)))))), (0, .ref (ad 0))]) hx hb dX4_digest_34 rfl hl (by decide) rfl (fun ls hl => ?_)
  refine lv_iconst (v := 0) hx hb dX4_digest_35 (by decide) ?_
  refine lv_istore_n (lv' := [(3, .int (0)), (1, .long ((((((2077 + (Int32.toInt64 ((gi σ41 0 1)))) * 31) + (Int32.toInt64 ((gi σ41 0 4)))) * 31) + (Int32.toInt64 ((gi σ41 0 12)))))), (0, .ref (ad 0))]) hx hb dX4_digest_36 rfl hl (by decide) rfl (fun ls hl => ?_)
  exact K37 1000 _ _ _ hf _ _ _ hG hS (lv_sub hl [2, 1, 0] rfl)
