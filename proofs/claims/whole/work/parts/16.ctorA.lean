/-! CONSTRUCTORS, in the kit's list style; the world as a list -/
theorem pw_fz {v : Int32} (h : v = 0 ∨ v = 1) : fits .boolean (.int v) = true := by rcases h with rfl | rfl <;> rfl
theorem pw_ceq {U : State} {a b : ClassId} {C : String} (h1 : va_RA U a (.object C)) (h2 : va_RA U b (.object C)) : a = b := by
  obtain ⟨_, _, _, _, _, e1⟩ := h1
  obtain ⟨_, _, _, _, _, e2⟩ := h2
  exact Option.some.inj (e1.symm.trans e2)
set_option maxHeartbeats 4000000 in
set_option maxRecDepth 100000 in
theorem kX0_init (l : Launch) (D : va_G) (cA : Nat → ClassId) (h0 sz : Nat) (a1 : Int32) : Met l yX0_init (wA yX0_init cX0_init 2 none) ({ frames := 1, cells := 1, slots := 4, locals := 13 }) (va_Pc [.ref h0, .int a1] (fun U => U.heap.size = sz ∧ va_P D vwCl [(h0, .inr (0, [.null, .int 0, .int 0, .int 0, .int 0, .int 0, .int 0]))] U.heap ∧ va_K D vwCl (pw_ty cA) U ∧ va_D (fun _ => True) [(h0, .inr (0, [.null, .int 0, .int 0, .int 0, .int 0, .int 0, .int 0]))])) (va_Qv (S := Nat) (fun _ => True) (fun q1 t => va_P D vwCl [(h0, .inr (0, [.ref q1, .int (if a1 = -1 then 0 else 1), .int a1, .int (-1), .int (-1), .int 0, .int 0])), (q1, .inl (cA 1, 4, .inl (fun _ => 0)))] t.heap ∧ va_D (va_A [(h0, .inr (0, [.null, .int 0, .int 0, .int 0, .int 0, .int 0, .int 0]))] sz) [(h0, .inr (0, [.ref q1, .int (if a1 = -1 then 0 else 1), .int a1, .int (-1), .int (-1), .int 0, .int 0])), (q1, .inl (cA 1, 4, .inl (fun _ => 0)))]) (va_A [(h0, .inr (0, [.null, .int 0, .int 0, .int 0, .int 0, .int 0, .int 0]))] sz)) 1 4 (va_A [(h0, .inr (0, [.null, .int 0, .int 0, .int 0, .int 0, .int 0, .int 0]))] sz) := by
  refine Met.ofW (cc := cX0_init) (maxL := 2) (ret := none) (by decide) rfl ?_
  intro p e s m args below meth c s₁ B hml hv
  obtain ⟨rfl, hsz, hP, hK, hD0⟩ := hv
  have hx := B.exec
  have hb := B.bytes
  have hr := B.returns
  have hts0 := atoms_spec (ws := wA yX0_init cX0_init 2 none) B.pre
  have hts : ∀ w ∈ wsL_law, w.before _ s = true := fun w hw => hts0 w (List.mem_cons_of_mem _ hw)
  have hown : s.vm.findClass RX0 = some m.cls := findClass_of_methodNamed B.named
  have hlocks := B.notSynchronized
  have hin : meth.name = "<init>" := (name_of_methodNamed B.named B.method).1
  subst hsz
  have hD := hD0.self (sz := s.heap.size)
  generalize hAe : va_A [(h0, .inr (0, [.null, .int 0, .int 0, .int 0, .int 0, .int 0, .int 0]))] s.heap.size = A at hD ⊢
  have hA : ∀ q : Nat, s.heap.size ≤ q → A q := fun q h => by rw [← hAe]; exact Or.inr h
  have hS : va_S A s.heap s.heap [] := va_S.rf
  have hP : va_P D vwCl [(h0, .inr (0, [.null, .int 0, .int 0, .int 0, .int 0, .int 0, .int 0]))] s.heap := hP
  have hl := lv_entry ([.ref h0, .int a1]) (n := 2) (Nat.le_of_ble_eq_true rfl)
  rw [lg_entry_eq]
  generalize (lg_sl ([.ref h0, .int a1]) ++ List.replicate (2 - (lg_sl ([.ref h0, .int a1])).length) Slot.unset).toArray = ls at hl ⊢
  have hl : lv_has ls 2 [(0, .ref h0), (1, .int a1)] := hl
  refine lv_aload_n hx hb dX0_init_0 rfl (lv_at hl 0 rfl) ?_
  refine W.objInit hx hb hown (hts _ wA_255) (hts _ wA_11) (hts _ wA_12) rfl (by rw [hml]; exact hl.1) rfl dX0_init_1 (Nat.le_of_ble_eq_true rfl) (Nat.le_of_ble_eq_true rfl) ?_
  refine W.eq (g2 := F0 m 4 ls []) rfl ?_
  refine lv_aload_n hx hb dX0_init_4 rfl (lv_at hl 0 rfl) ?_
  refine lv_iconst (v := 4) hx hb dX0_init_5 (by decide) ?_
  refine va_newa (atype := .int) (ty := .int) (a0 := (4, .inl (fun _ => 0))) hx hb (hts _ wA_27) rfl hK hP hD hS hA (fun _ => rfl) (by decide) rfl (Nat.le_of_ble_eq_true rfl) (Nat.le_of_ble_eq_true rfl) (Nat.le_of_ble_eq_true rfl) dX0_init_6 (fun q6 cA6 H hK2 hP hD hS => ?_)
  have hce : cA6 = cA 1 := Option.some.inj (((hK2.2 3 _ rfl).2).symm.trans ((hK.2 0 _ rfl).2))
  subst hce
  clear hK2
  have hP : va_P D vwCl [(h0, .inr (0, [.null, .int 0, .int 0, .int 0, .int 0, .int 0, .int 0])), (q6, .inl (cA 1, 4, .inl (fun _ => 0)))] H := hP
  have hD : va_D A [(h0, .inr (0, [.null, .int 0, .int 0, .int 0, .int 0, .int 0, .int 0])), (q6, .inl (cA 1, 4, .inl (fun _ => 0)))] := hD
  refine W.widen (k := 1) (n := 4) (Nat.le_of_ble_eq_true rfl) (Nat.le_of_ble_eq_true rfl) ?_
  refine va_putF (D := D) (ci := 0) (v := .ref q6) (ty := .array .int) (C := RX0) (T := TX0) (N := 7) hx hb hts inlX0 tyX0 tyX0_ok nmX0 hown hK hP hD hS 0 rfl rfl 0 (by decide) (hts _ wA_256) (fun _ h9 => h9) rfl hin rfl (by decide +kernel) rfl rfl (Nat.le_of_ble_eq_true rfl) dX0_init_8 (fun H locs hP hD hS => ?_)
  have hP : va_P D vwCl [(h0, .inr (0, [.ref q6, .int 0, .int 0, .int 0, .int 0, .int 0, .int 0])), (q6, .inl (cA 1, 4, .inl (fun _ => 0)))] H := hP
  have hD : va_D A [(h0, .inr (0, [.ref q6, .int 0, .int 0, .int 0, .int 0, .int 0, .int 0])), (q6, .inl (cA 1, 4, .inl (fun _ => 0)))] := hD
  refine lv_aload_n hx hb dX0_init_11 rfl (lv_at hl 0 rfl) ?_
  refine lv_iload_n hx hb dX0_init_12 rfl (lv_at hl 1 rfl) ?_
  refine lv_iconst (v := (-1)) hx hb dX0_init_13 (by decide) ?_
  have K22 : ∀ (z : Int32) (H : Heap) (locs : List Loc), z = (if a1 = -1 then 0 else 1) → va_P D vwCl [(h0, .inr (0, [.ref q6, .int 0, .int 0, .int 0, .int 0, .int 0, .int 0])), (q6, .inl (cA 1, 4, .inl (fun _ => 0)))] H → va_D A [(h0, .inr (0, [.ref q6, .int 0, .int 0, .int 0, .int 0, .int 0, .int 0])), (q6, .inl (cA 1, 4, .inl (fun _ => 0)))] → va_S A s.heap H locs → W p l e ({ frames := 1, cells := 1, slots := 4, locals := 13 }) s m ([.ref h0, .int a1] : List Value).toArray below meth c H locs 1 4 (MQ below (va_Qv (S := Nat) (fun _ => True) (fun q1 t => va_P D vwCl [(h0, .inr (0, [.ref q1, .int (if a1 = -1 then 0 else 1), .int a1, .int (-1), .int (-1), .int 0, .int 0])), (q1, .inl (cA 1, 4, .inl (fun _ => 0)))] t.heap ∧ va_D A [(h0, .inr (0, [.ref q1, .int (if a1 = -1 then 0 else 1), .int a1, .int (-1), .int (-1), .int 0, .int 0])), (q1, .inl (cA 1, 4, .inl (fun _ => 0)))]) A) ([.ref h0, .int a1] : List Value).toArray s 1 4 A) (F0 m 22 ls [.int z, .ref h0]) := by
    intro z H locs hz hP hD hS
    have hz01 : z = 0 ∨ z = 1 := by rw [hz]; split <;> simp
    refine va_putF (D := D) (ci := 0) (v := .int z) (ty := .boolean) (C := RX0) (T := TX0) (N := 7) hx hb hts inlX0 tyX0 tyX0_ok nmX0 hown hK hP hD hS 0 rfl rfl 1 (by decide) (hts _ wA_257) (fun _ h9 => h9) rfl hin rfl (by decide +kernel) (pw_nz hz01) (pw_fz hz01) (Nat.le_of_ble_eq_true rfl) dX0_init_22 (fun H locs hP hD hS => ?_)
    have hP : va_P D vwCl [(h0, .inr (0, [.ref q6, .int z, .int 0, .int 0, .int 0, .int 0, .int 0])), (q6, .inl (cA 1, 4, .inl (fun _ => 0)))] H := hP
    have hD : va_D A [(h0, .inr (0, [.ref q6, .int z, .int 0, .int 0, .int 0, .int 0, .int 0])), (q6, .inl (cA 1, 4, .inl (fun _ => 0)))] := hD
    refine lv_aload_n hx hb dX0_init_25 rfl (lv_at hl 0 rfl) ?_
    refine lv_iload_n hx hb dX0_init_26 rfl (lv_at hl 1 rfl) ?_
    refine va_putF (D := D) (ci := 0) (v := .int a1) (ty := .int) (C := RX0) (T := TX0) (N := 7) hx hb hts inlX0 tyX0 tyX0_ok nmX0 hown hK hP hD hS 0 rfl rfl 2 (by decide) (hts _ wA_258) (fun _ h9 => h9) rfl hin rfl (by decide +kernel) rfl rfl (Nat.le_of_ble_eq_true rfl) dX0_init_27 (fun H locs hP hD hS => ?_)
    have hP : va_P D vwCl [(h0, .inr (0, [.ref q6, .int z, .int a1, .int 0, .int 0, .int 0, .int 0])), (q6, .inl (cA 1, 4, .inl (fun _ => 0)))] H := hP
    have hD : va_D A [(h0, .inr (0, [.ref q6, .int z, .int a1, .int 0, .int 0, .int 0, .int 0])), (q6, .inl (cA 1, 4, .inl (fun _ => 0)))] := hD
    refine lv_aload_n hx hb dX0_init_30 rfl (lv_at hl 0 rfl) ?_
    refine lv_iconst (v := (-1)) hx hb dX0_init_31 (by decide) ?_
    refine va_put (D := D) (ci := 0) (v := .int (-1)) (ty := .int) (C := RX0) (T := TX0) (N := 7) hx hb hts inlX0 tyX0 tyX0_ok nmX0 hown hK hP hD hS 0 rfl rfl 3 (by decide) (hts _ wA_259) (fun _ h9 => h9) rfl (by decide +kernel) rfl rfl (Nat.le_of_ble_eq_true rfl) dX0_init_32 (fun H locs hP hD hS => ?_)
    have hP : va_P D vwCl [(h0, .inr (0, [.ref q6, .int z, .int a1, .int (-1), .int 0, .int 0, .int 0])), (q6, .inl (cA 1, 4, .inl (fun _ => 0)))] H := hP
    have hD : va_D A [(h0, .inr (0, [.ref q6, .int z, .int a1, .int (-1), .int 0, .int 0, .int 0])), (q6, .inl (cA 1, 4, .inl (fun _ => 0)))] := hD
    refine lv_aload_n hx hb dX0_init_35 rfl (lv_at hl 0 rfl) ?_
    refine lv_iconst (v := (-1)) hx hb dX0_init_36 (by decide) ?_
    refine va_put (D := D) (ci := 0) (v := .int (-1)) (ty := .int) (C := RX0) (T := TX0) (N := 7) hx hb hts inlX0 tyX0 tyX0_ok nmX0 hown hK hP hD hS 0 rfl rfl 4 (by decide) (hts _ wA_260) (fun _ h9 => h9) rfl (by decide +kernel) rfl rfl (Nat.le_of_ble_eq_true rfl) dX0_init_37 (fun H locs hP hD hS => ?_)
    have hP : va_P D vwCl [(h0, .inr (0, [.ref q6, .int z, .int a1, .int (-1), .int (-1), .int 0, .int 0])), (q6, .inl (cA 1, 4, .inl (fun _ => 0)))] H := hP
    have hD : va_D A [(h0, .inr (0, [.ref q6, .int z, .int a1, .int (-1), .int (-1), .int 0, .int 0])), (q6, .inl (cA 1, 4, .inl (fun _ => 0)))] := hD
    refine lv_aload_n hx hb dX0_init_40 rfl (lv_at hl 0 rfl) ?_
    refine lv_iconst (v := 0) hx hb dX0_init_41 (by decide) ?_
    refine va_put (D := D) (ci := 0) (v := .int 0) (ty := .boolean) (C := RX0) (T := TX0) (N := 7) hx hb hts inlX0 tyX0 tyX0_ok nmX0 hown hK hP hD hS 0 rfl rfl 5 (by decide) (hts _ wA_261) (fun _ h9 => h9) rfl (by decide +kernel) rfl rfl (Nat.le_of_ble_eq_true rfl) dX0_init_42 (fun H locs hP hD hS => ?_)
    have hP : va_P D vwCl [(h0, .inr (0, [.ref q6, .int z, .int a1, .int (-1), .int (-1), .int 0, .int 0])), (q6, .inl (cA 1, 4, .inl (fun _ => 0)))] H := hP
    have hD : va_D A [(h0, .inr (0, [.ref q6, .int z, .int a1, .int (-1), .int (-1), .int 0, .int 0])), (q6, .inl (cA 1, 4, .inl (fun _ => 0)))] := hD
    refine lv_aload_n hx hb dX0_init_45 rfl (lv_at hl 0 rfl) ?_
    refine lv_iconst (v := 0) hx hb dX0_init_46 (by decide) ?_
    refine va_put (D := D) (ci := 0) (v := .int 0) (ty := .int) (C := RX0) (T := TX0) (N := 7) hx hb hts inlX0 tyX0 tyX0_ok nmX0 hown hK hP hD hS 0 rfl rfl 6 (by decide) (hts _ wA_262) (fun _ h9 => h9) rfl (by decide +kernel) rfl rfl (Nat.le_of_ble_eq_true rfl) dX0_init_47 (fun H locs hP hD hS => ?_)
    have hP : va_P D vwCl [(h0, .inr (0, [.ref q6, .int z, .int a1, .int (-1), .int (-1), .int 0, .int 0])), (q6, .inl (cA 1, 4, .inl (fun _ => 0)))] H := hP
    have hD : va_D A [(h0, .inr (0, [.ref q6, .int z, .int a1, .int (-1), .int (-1), .int 0, .int 0])), (q6, .inl (cA 1, 4, .inl (fun _ => 0)))] := hD
    subst hz
    exact W.vret hx hb hr (fun t ht _ => ⟨⟨q6, rfl, trivial, (by subst ht; exact hP), hD⟩, hS.F ht⟩) hS.2.2 dX0_init_50 hlocks
  refine lv_icmp_eq (tgt := 21) hx hb dX0_init_14 (by decide) (fun cz => ?_) (fun cz => ?_)
  · refine lv_iconst (v := 0) hx hb dX0_init_21 (by decide) ?_
    exact K22 0 _ _ (by rw [if_pos cz]) hP hD hS
  · refine lv_iconst (v := 1) hx hb dX0_init_17 (by decide) ?_
    refine lv_goto (tgt := 22) hx hb dX0_init_18 (by decide) ?_
    exact K22 1 _ _ (by rw [if_neg cz]) hP hD hS
