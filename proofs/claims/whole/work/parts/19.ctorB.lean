theorem cu_m1 {f : Nat → Int32} {i : Nat} (h : ∀ j, j < i → f j = -1) : ∀ j, j < i + 1 → upd f i (-1) j = -1 := by
  intro j hj
  by_cases hij : j = i
  · subst hij
    exact pk_us
  · rw [pk_un hij]
    exact h j (by omega)
set_option maxHeartbeats 4000000 in
set_option maxRecDepth 100000 in
theorem kX2_init (l : Launch) (D : va_G) (cA : Nat → ClassId) (h0 sz : Nat) : Met l yX2_init (wA yX2_init cX2_init 1 none) ({ frames := 1, cells := 1, slots := 24, locals := 13 }) (va_Pc [.ref h0] (fun U => U.heap.size = sz ∧ va_P D vwCl [(h0, .inr (2, [.null]))] U.heap ∧ va_K D vwCl (pw_ty cA) U ∧ va_D (fun _ => True) [(h0, .inr (2, [.null]))] ∧ va_AO RX0 U)) (va_Qv (S := Nat) (fun _ => True) (fun q1 t => va_P D vwCl [(h0, .inr (2, [.ref q1])), (q1, .inl (cA 3, 24, .inr (.inr (.inr (.inr (fun _ => none))))))] t.heap ∧ va_D (va_A [(h0, .inr (2, [.null]))] sz) [(h0, .inr (2, [.ref q1])), (q1, .inl (cA 3, 24, .inr (.inr (.inr (.inr (fun _ => none))))))]) (va_A [(h0, .inr (2, [.null]))] sz)) 1 24 (va_A [(h0, .inr (2, [.null]))] sz) := by
  refine Met.ofW (cc := cX2_init) (maxL := 1) (ret := none) (by decide) rfl ?_
  intro p e s m args below meth c s₁ B hml hv
  obtain ⟨rfl, hsz, hP, hK, hD0, hAO⟩ := hv
  have hx := B.exec
  have hb := B.bytes
  have hr := B.returns
  have hts0 := atoms_spec (ws := wA yX2_init cX2_init 1 none) B.pre
  have hts : ∀ w ∈ wsL_law, w.before _ s = true := fun w hw => hts0 w (List.mem_cons_of_mem _ hw)
  have hown : s.vm.findClass RX2 = some m.cls := findClass_of_methodNamed B.named
  have hlocks := B.notSynchronized
  have hin : meth.name = "<init>" := (name_of_methodNamed B.named B.method).1
  subst hsz
  have hD := hD0.self (sz := s.heap.size)
  generalize hAe : va_A [(h0, .inr (2, [.null]))] s.heap.size = A at hD ⊢
  have hA : ∀ q : Nat, s.heap.size ≤ q → A q := fun q h => by rw [← hAe]; exact Or.inr h
  have hS : va_S A s.heap s.heap [] := va_S.rf
  have hP : va_P D vwCl [(h0, .inr (2, [.null]))] s.heap := hP
  have hl := lv_entry ([.ref h0]) (n := 1) (Nat.le_of_ble_eq_true rfl)
  rw [lg_entry_eq]
  generalize (lg_sl ([.ref h0]) ++ List.replicate (1 - (lg_sl ([.ref h0])).length) Slot.unset).toArray = ls at hl ⊢
  have hl : lv_has ls 1 [(0, .ref h0)] := hl
  refine lv_aload_n hx hb dX2_init_0 rfl (lv_at hl 0 rfl) ?_
  refine W.objInit hx hb hown (hts _ wA_46) (hts _ wA_11) (hts _ wA_12) rfl (by rw [hml]; exact hl.1) rfl dX2_init_1 (Nat.le_of_ble_eq_true rfl) (Nat.le_of_ble_eq_true rfl) ?_
  refine W.eq (g2 := F0 m 4 ls []) rfl ?_
  refine lv_aload_n hx hb dX2_init_4 rfl (lv_at hl 0 rfl) ?_
  refine lv_bipush (v := 24) hx hb dX2_init_5 (by decide) ?_
  refine va_newq hx hb hown (hts _ wA_47) hAO hK hP hD hS hA (N' := 24) (by decide) rfl (Nat.le_of_ble_eq_true rfl) (Nat.le_of_ble_eq_true rfl) (Nat.le_of_ble_eq_true rfl) dX2_init_7 (fun q7 cA7 H hK2 hP hD hS => ?_)
  have hce : cA7 = cA 3 := pw_ceq (hK2.2 3 _ rfl).2 (hK.2 2 _ rfl).2
  subst hce
  clear hK2
  have hP : va_P D vwCl [(h0, .inr (2, [.null])), (q7, .inl (cA 3, 24, .inr (.inr (.inr (.inr (fun _ => none))))))] H := hP
  have hD : va_D A [(h0, .inr (2, [.null])), (q7, .inl (cA 3, 24, .inr (.inr (.inr (.inr (fun _ => none))))))] := hD
  refine W.widen (k := 1) (n := 24) (Nat.le_of_ble_eq_true rfl) (Nat.le_of_ble_eq_true rfl) ?_
  refine va_putF (D := D) (ci := 2) (v := .ref q7) (ty := .array (.object "PagedMemory$Content")) (C := RX2) (T := TX2) (N := 1) hx hb hts inlX2 tyX2 tyX2_ok nmX2 hown hK hP hD hS 0 rfl rfl 0 (by decide) (hts _ wA_48) (fun _ h9 => h9) rfl hin rfl (by decide +kernel) rfl rfl (Nat.le_of_ble_eq_true rfl) dX2_init_10 (fun H locs hP hD hS => ?_)
  have hP : va_P D vwCl [(h0, .inr (2, [.ref q7])), (q7, .inl (cA 3, 24, .inr (.inr (.inr (.inr (fun _ => none))))))] H := hP
  have hD : va_D A [(h0, .inr (2, [.ref q7])), (q7, .inl (cA 3, 24, .inr (.inr (.inr (.inr (fun _ => none))))))] := hD
  exact W.vret hx hb hr (fun t ht _ => ⟨⟨q7, rfl, trivial, (by subst ht; exact hP), hD⟩, hS.F ht⟩) hS.2.2 dX2_init_13 hlocks
set_option maxHeartbeats 4000000 in
set_option maxRecDepth 100000 in
theorem kX1_init (l : Launch) (D : va_G) (cA : Nat → ClassId) (h0 sz : Nat) : Met l yX1_init (wA yX1_init cX1_init 2 none) ({ frames := 1, cells := 3, slots := 36, locals := 13 }) (va_Pc [.ref h0] (fun U => U.heap.size = sz ∧ va_P D vwCl [(h0, .inr (1, [.null, .null, .null, .int 0, .int 0]))] U.heap ∧ va_K D vwCl (pw_ty cA) U ∧ va_D (fun _ => True) [(h0, .inr (1, [.null, .null, .null, .int 0, .int 0]))] ∧ va_AO RX0 U)) (va_Qv (S := (Nat × Nat × Nat) × (Nat → Int32)) (fun u => ∀ j, j < 12 → u.2 j = -1) (fun u t => va_P D vwCl [(h0, .inr (1, [.ref u.1.1, .ref u.1.2.1, .ref u.1.2.2, .int 6, .int 0])), (u.1.1, .inl (cA 3, 12, .inr (.inr (.inr (.inr (fun _ => none)))))), (u.1.2.1, .inl (cA 1, 12, .inl u.2)), (u.1.2.2, .inl (cA 2, 12, .inl (fun _ => 0)))] t.heap ∧ va_D (va_A [(h0, .inr (1, [.null, .null, .null, .int 0, .int 0]))] sz) [(h0, .inr (1, [.ref u.1.1, .ref u.1.2.1, .ref u.1.2.2, .int 6, .int 0])), (u.1.1, .inl (cA 3, 12, .inr (.inr (.inr (.inr (fun _ => none)))))), (u.1.2.1, .inl (cA 1, 12, .inl u.2)), (u.1.2.2, .inl (cA 2, 12, .inl (fun _ => 0)))]) (va_A [(h0, .inr (1, [.null, .null, .null, .int 0, .int 0]))] sz)) 3 36 (va_A [(h0, .inr (1, [.null, .null, .null, .int 0, .int 0]))] sz) := by
  refine Met.ofW (cc := cX1_init) (maxL := 2) (ret := none) (by decide) rfl ?_
  intro p e s m args below meth c s₁ B hml hv
  obtain ⟨rfl, hsz, hP, hK, hD0, hAO⟩ := hv
  have hx := B.exec
  have hb := B.bytes
  have hr := B.returns
  have hts0 := atoms_spec (ws := wA yX1_init cX1_init 2 none) B.pre
  have hts : ∀ w ∈ wsL_law, w.before _ s = true := fun w hw => hts0 w (List.mem_cons_of_mem _ hw)
  have hown : s.vm.findClass RX1 = some m.cls := findClass_of_methodNamed B.named
  have hlocks := B.notSynchronized
  have hin : meth.name = "<init>" := (name_of_methodNamed B.named B.method).1
  subst hsz
  have hD := hD0.self (sz := s.heap.size)
  generalize hAe : va_A [(h0, .inr (1, [.null, .null, .null, .int 0, .int 0]))] s.heap.size = A at hD ⊢
  have hA : ∀ q : Nat, s.heap.size ≤ q → A q := fun q h => by rw [← hAe]; exact Or.inr h
  have hS : va_S A s.heap s.heap [] := va_S.rf
  have hP : va_P D vwCl [(h0, .inr (1, [.null, .null, .null, .int 0, .int 0]))] s.heap := hP
  have hl := lv_entry ([.ref h0]) (n := 2) (Nat.le_of_ble_eq_true rfl)
  rw [lg_entry_eq]
  generalize (lg_sl ([.ref h0]) ++ List.replicate (2 - (lg_sl ([.ref h0])).length) Slot.unset).toArray = ls at hl ⊢
  have hl : lv_has ls 2 [(0, .ref h0)] := hl
  refine lv_aload_n hx hb dX1_init_0 rfl (lv_at hl 0 rfl) ?_
  refine W.objInit hx hb hown (hts _ wA_36) (hts _ wA_11) (hts _ wA_12) rfl (by rw [hml]; exact hl.1) rfl dX1_init_1 (Nat.le_of_ble_eq_true rfl) (Nat.le_of_ble_eq_true rfl) ?_
  refine W.eq (g2 := F0 m 4 ls []) rfl ?_
  refine lv_aload_n hx hb dX1_init_4 rfl (lv_at hl 0 rfl) ?_
  refine lv_bipush (v := 12) hx hb dX1_init_5 (by decide) ?_
  refine va_newq hx hb hown (hts _ wA_37) hAO hK hP hD hS hA (N' := 12) (by decide) rfl (Nat.le_of_ble_eq_true rfl) (Nat.le_of_ble_eq_true rfl) (Nat.le_of_ble_eq_true rfl) dX1_init_7 (fun q7 cA7 H hK2 hP hD hS => ?_)
  have hce : cA7 = cA 3 := pw_ceq (hK2.2 3 _ rfl).2 (hK.2 2 _ rfl).2
  subst hce
  clear hK2
  have hP : va_P D vwCl [(h0, .inr (1, [.null, .null, .null, .int 0, .int 0])), (q7, .inl (cA 3, 12, .inr (.inr (.inr (.inr (fun _ => none))))))] H := hP
  have hD : va_D A [(h0, .inr (1, [.null, .null, .null, .int 0, .int 0])), (q7, .inl (cA 3, 12, .inr (.inr (.inr (.inr (fun _ => none))))))] := hD
  refine W.widen (k := 1) (n := 12) (Nat.le_of_ble_eq_true rfl) (Nat.le_of_ble_eq_true rfl) ?_
  refine va_putF (D := D) (ci := 1) (v := .ref q7) (ty := .array (.object "PagedMemory$Content")) (C := RX1) (T := TX1) (N := 5) hx hb hts inlX1 tyX1 tyX1_ok nmX1 hown hK hP hD hS 0 rfl rfl 0 (by decide) (hts _ wA_38) (fun _ h9 => h9) rfl hin rfl (by decide +kernel) rfl rfl (Nat.le_of_ble_eq_true rfl) dX1_init_10 (fun H locs hP hD hS => ?_)
  have hP : va_P D vwCl [(h0, .inr (1, [.ref q7, .null, .null, .int 0, .int 0])), (q7, .inl (cA 3, 12, .inr (.inr (.inr (.inr (fun _ => none))))))] H := hP
  have hD : va_D A [(h0, .inr (1, [.ref q7, .null, .null, .int 0, .int 0])), (q7, .inl (cA 3, 12, .inr (.inr (.inr (.inr (fun _ => none))))))] := hD
  refine lv_aload_n hx hb dX1_init_13 rfl (lv_at hl 0 rfl) ?_
  refine lv_bipush (v := 12) hx hb dX1_init_14 (by decide) ?_
  refine va_newa (atype := .int) (ty := .int) (a0 := (12, .inl (fun _ => 0))) hx hb (hts _ wA_27) rfl hK hP hD hS hA (fun _ => rfl) (by decide) rfl (Nat.le_of_ble_eq_true rfl) (Nat.le_of_ble_eq_true rfl) (Nat.le_of_ble_eq_true rfl) dX1_init_16 (fun q16 cA16 H hK2 hP hD hS => ?_)
  have hce : cA16 = cA 1 := Option.some.inj (((hK2.2 3 _ rfl).2).symm.trans ((hK.2 0 _ rfl).2))
  subst hce
  clear hK2
  have hP : va_P D vwCl [(h0, .inr (1, [.ref q7, .null, .null, .int 0, .int 0])), (q7, .inl (cA 3, 12, .inr (.inr (.inr (.inr (fun _ => none)))))), (q16, .inl (cA 1, 12, .inl (fun _ => 0)))] H := hP
  have hD : va_D A [(h0, .inr (1, [.ref q7, .null, .null, .int 0, .int 0])), (q7, .inl (cA 3, 12, .inr (.inr (.inr (.inr (fun _ => none)))))), (q16, .inl (cA 1, 12, .inl (fun _ => 0)))] := hD
  refine W.widen (k := 2) (n := 24) (Nat.le_of_ble_eq_true rfl) (Nat.le_of_ble_eq_true rfl) ?_
  refine va_putF (D := D) (ci := 1) (v := .ref q16) (ty := .array .int) (C := RX1) (T := TX1) (N := 5) hx hb hts inlX1 tyX1 tyX1_ok nmX1 hown hK hP hD hS 0 rfl rfl 1 (by decide) (hts _ wA_39) (fun _ h9 => h9) rfl hin rfl (by decide +kernel) rfl rfl (Nat.le_of_ble_eq_true rfl) dX1_init_18 (fun H locs hP hD hS => ?_)
  have hP : va_P D vwCl [(h0, .inr (1, [.ref q7, .ref q16, .null, .int 0, .int 0])), (q7, .inl (cA 3, 12, .inr (.inr (.inr (.inr (fun _ => none)))))), (q16, .inl (cA 1, 12, .inl (fun _ => 0)))] H := hP
  have hD : va_D A [(h0, .inr (1, [.ref q7, .ref q16, .null, .int 0, .int 0])), (q7, .inl (cA 3, 12, .inr (.inr (.inr (.inr (fun _ => none)))))), (q16, .inl (cA 1, 12, .inl (fun _ => 0)))] := hD
  refine lv_aload_n hx hb dX1_init_21 rfl (lv_at hl 0 rfl) ?_
  refine lv_bipush (v := 12) hx hb dX1_init_22 (by decide) ?_
  refine va_newa (atype := .boolean) (ty := .boolean) (a0 := (12, .inl (fun _ => 0))) hx hb (hts _ wA_15) rfl hK hP hD hS hA (fun _ => rfl) (by decide) rfl (Nat.le_of_ble_eq_true rfl) (Nat.le_of_ble_eq_true rfl) (Nat.le_of_ble_eq_true rfl) dX1_init_24 (fun q24 cA24 H hK2 hP hD hS => ?_)
  have hce : cA24 = cA 2 := Option.some.inj (((hK2.2 3 _ rfl).2).symm.trans ((hK.2 1 _ rfl).2))
  subst hce
  clear hK2
  have hP : va_P D vwCl [(h0, .inr (1, [.ref q7, .ref q16, .null, .int 0, .int 0])), (q7, .inl (cA 3, 12, .inr (.inr (.inr (.inr (fun _ => none)))))), (q16, .inl (cA 1, 12, .inl (fun _ => 0))), (q24, .inl (cA 2, 12, .inl (fun _ => 0)))] H := hP
  have hD : va_D A [(h0, .inr (1, [.ref q7, .ref q16, .null, .int 0, .int 0])), (q7, .inl (cA 3, 12, .inr (.inr (.inr (.inr (fun _ => none)))))), (q16, .inl (cA 1, 12, .inl (fun _ => 0))), (q24, .inl (cA 2, 12, .inl (fun _ => 0)))] := hD
  refine W.widen (k := 3) (n := 36) (Nat.le_of_ble_eq_true rfl) (Nat.le_of_ble_eq_true rfl) ?_
  refine va_putF (D := D) (ci := 1) (v := .ref q24) (ty := .array .boolean) (C := RX1) (T := TX1) (N := 5) hx hb hts inlX1 tyX1 tyX1_ok nmX1 hown hK hP hD hS 0 rfl rfl 2 (by decide) (hts _ wA_40) (fun _ h9 => h9) rfl hin rfl (by decide +kernel) rfl rfl (Nat.le_of_ble_eq_true rfl) dX1_init_26 (fun H locs hP hD hS => ?_)
  have hP : va_P D vwCl [(h0, .inr (1, [.ref q7, .ref q16, .ref q24, .int 0, .int 0])), (q7, .inl (cA 3, 12, .inr (.inr (.inr (.inr (fun _ => none)))))), (q16, .inl (cA 1, 12, .inl (fun _ => 0))), (q24, .inl (cA 2, 12, .inl (fun _ => 0)))] H := hP
  have hD : va_D A [(h0, .inr (1, [.ref q7, .ref q16, .ref q24, .int 0, .int 0])), (q7, .inl (cA 3, 12, .inr (.inr (.inr (.inr (fun _ => none)))))), (q16, .inl (cA 1, 12, .inl (fun _ => 0))), (q24, .inl (cA 2, 12, .inl (fun _ => 0)))] := hD
  refine lv_aload_n hx hb dX1_init_29 rfl (lv_at hl 0 rfl) ?_
  refine lv_bipush (v := 6) hx hb dX1_init_30 (by decide) ?_
  refine va_put (D := D) (ci := 1) (v := .int 6) (ty := .int) (C := RX1) (T := TX1) (N := 5) hx hb hts inlX1 tyX1 tyX1_ok nmX1 hown hK hP hD hS 0 rfl rfl 3 (by decide) (hts _ wA_41) (fun _ h9 => h9) rfl (by decide +kernel) rfl rfl (Nat.le_of_ble_eq_true rfl) dX1_init_32 (fun H locs hP hD hS => ?_)
  have hP : va_P D vwCl [(h0, .inr (1, [.ref q7, .ref q16, .ref q24, .int 6, .int 0])), (q7, .inl (cA 3, 12, .inr (.inr (.inr (.inr (fun _ => none)))))), (q16, .inl (cA 1, 12, .inl (fun _ => 0))), (q24, .inl (cA 2, 12, .inl (fun _ => 0)))] H := hP
  have hD : va_D A [(h0, .inr (1, [.ref q7, .ref q16, .ref q24, .int 6, .int 0])), (q7, .inl (cA 3, 12, .inr (.inr (.inr (.inr (fun _ => none)))))), (q16, .inl (cA 1, 12, .inl (fun _ => 0))), (q24, .inl (cA 2, 12, .inl (fun _ => 0)))] := hD
  refine lv_aload_n hx hb dX1_init_35 rfl (lv_at hl 0 rfl) ?_
  refine lv_iconst (v := 0) hx hb dX1_init_36 (by decide) ?_
  refine va_put (D := D) (ci := 1) (v := .int 0) (ty := .int) (C := RX1) (T := TX1) (N := 5) hx hb hts inlX1 tyX1 tyX1_ok nmX1 hown hK hP hD hS 0 rfl rfl 4 (by decide) (hts _ wA_42) (fun _ h9 => h9) rfl (by decide +kernel) rfl rfl (Nat.le_of_ble_eq_true rfl) dX1_init_37 (fun H locs hP hD hS => ?_)
  have hP : va_P D vwCl [(h0, .inr (1, [.ref q7, .ref q16, .ref q24, .int 6, .int 0])), (q7, .inl (cA 3, 12, .inr (.inr (.inr (.inr (fun _ => none)))))), (q16, .inl (cA 1, 12, .inl (fun _ => 0))), (q24, .inl (cA 2, 12, .inl (fun _ => 0)))] H := hP
  have hD : va_D A [(h0, .inr (1, [.ref q7, .ref q16, .ref q24, .int 6, .int 0])), (q7, .inl (cA 3, 12, .inr (.inr (.inr (.inr (fun _ => none)))))), (q16, .inl (cA 1, 12, .inl (fun _ => 0))), (q24, .inl (cA 2, 12, .inl (fun _ => 0)))] := hD
  have K42 : ∀ (n i : Nat) (fu : Nat → Int32) (H : Heap) (locs : List Loc) (ls : Array Slot), i ≤ 12 → i + n = 12 + 1 → (∀ j, j < i → fu j = -1) → va_P D vwCl [(h0, .inr (1, [.ref q7, .ref q16, .ref q24, .int 6, .int 0])), (q7, .inl (cA 3, 12, .inr (.inr (.inr (.inr (fun _ => none)))))), (q16, .inl (cA 1, 12, .inl fu)), (q24, .inl (cA 2, 12, .inl (fun _ => 0)))] H → va_D A [(h0, .inr (1, [.ref q7, .ref q16, .ref q24, .int 6, .int 0])), (q7, .inl (cA 3, 12, .inr (.inr (.inr (.inr (fun _ => none)))))), (q16, .inl (cA 1, 12, .inl fu)), (q24, .inl (cA 2, 12, .inl (fun _ => 0)))] → va_S A s.heap H locs → lv_has ls 2 [(0, .ref h0), (1, .int (nI i))] → W p l e ({ frames := 1, cells := 3, slots := 36, locals := 13 }) s m ([.ref h0] : List Value).toArray below meth c H locs 3 36 (MQ below (va_Qv (S := (Nat × Nat × Nat) × (Nat → Int32)) (fun u => ∀ j, j < 12 → u.2 j = -1) (fun u t => va_P D vwCl [(h0, .inr (1, [.ref u.1.1, .ref u.1.2.1, .ref u.1.2.2, .int 6, .int 0])), (u.1.1, .inl (cA 3, 12, .inr (.inr (.inr (.inr (fun _ => none)))))), (u.1.2.1, .inl (cA 1, 12, .inl u.2)), (u.1.2.2, .inl (cA 2, 12, .inl (fun _ => 0)))] t.heap ∧ va_D A [(h0, .inr (1, [.ref u.1.1, .ref u.1.2.1, .ref u.1.2.2, .int 6, .int 0])), (u.1.1, .inl (cA 3, 12, .inr (.inr (.inr (.inr (fun _ => none)))))), (u.1.2.1, .inl (cA 1, 12, .inl u.2)), (u.1.2.2, .inl (cA 2, 12, .inl (fun _ => 0)))]) A) ([.ref h0] : List Value).toArray s 3 36 A) (F0 m 42 ls []) := by
    intro n
    induction n with
    | zero => intro i fu H locs ls h1 h2; omega
    | succ n ih =>
      intro i fu H locs ls h1 h2 hfl hP hD hS hl
      refine lv_iload_n hx hb dX1_init_42 rfl (lv_at hl 1 rfl) ?_
      refine lv_bipush (v := 12) hx hb dX1_init_43 (by decide) ?_
      refine lv_icmp_ge (tgt := 61) hx hb dX1_init_45 (by decide) (fun cz => ?_) (fun cz => ?_)
      · have hi : i = 12 := by
          have h3 : nI 12 ≤ nI i := cz
          have h4 := (nI_leI (by decide) (by omega)).mp h3
          omega
        subst hi
        exact W.vret hx hb hr (fun t ht _ => ⟨⟨((q7, q16, q24), fu), rfl, hfl, (by subst ht; exact hP), hD⟩, hS.F ht⟩) hS.2.2 dX1_init_61 hlocks
      · have hi : i < 12 := by
          rcases Nat.lt_or_ge i 12 with h3 | h3
          · exact h3
          · exact absurd (show nI 12 ≤ nI i from nI_le h3 (by omega)) cz
        refine lv_aload_n hx hb dX1_init_48 rfl (lv_at hl 0 rfl) ?_
        refine va_get (D := D) (ci := 1) (v := .ref q16) (C := RX1) (T := TX1) (N := 5) hx hb hts inlX1 hown hK hP 0 rfl rfl 1 (by decide) (hts _ wA_39) (fun _ h9 => h9) rfl dX1_init_49 ?_
        refine lv_iload_n hx hb dX1_init_52 rfl (lv_at hl 1 rfl) ?_
        refine lv_iconst (v := (-1)) hx hb dX1_init_53 (by decide) ?_
        refine va_iast hx hb hK hP hD hS 2 0 rfl rfl (vp_in_nI hi (by decide)) dX1_init_54 (fun H locs hP hD hS => ?_)
        rw [nI_clamp (by omega)] at hP hD
        refine lv_iinc (v := nI (i + 1)) (lv' := [(1, .int (nI (i + 1))), (0, .ref h0)]) hx hb dX1_init_55 hl (k := 1) rfl (nI_1 i) (by decide) rfl (fun ls hl => ?_)
        refine lv_goto (tgt := 42) hx hb dX1_init_58 (by decide) ?_
        exact ih (i + 1) (upd fu i (-1)) H locs ls (by omega) (by omega) (cu_m1 hfl) hP hD hS (lv_sub hl [1, 0] rfl)
  refine lv_iconst (v := 0) hx hb dX1_init_40 (by decide) ?_
  refine lv_istore_n (lv' := [(1, .int 0), (0, .ref h0)]) hx hb dX1_init_41 rfl hl (by decide) rfl (fun ls hl => ?_)
  exact K42 13 0 (fun _ => 0) H locs ls (by decide) rfl (fun j hj => by omega) hP hD hS (lv_sub hl [1, 0] rfl)
set_option maxHeartbeats 8000000 in
set_option maxRecDepth 100000 in
theorem kX4_init (l : Launch) (D : va_G) (cA : Nat → ClassId) (h0 sz : Nat) : Met l yX4_init (wA yX4_init cX4_init 2 none) ({ frames := 1, cells := 14, slots := 1628, locals := 13 }) (va_Pc [.ref h0] (fun U => U.heap.size = sz ∧ va_P D vwCl [(h0, .inr (4, [.int 0, .int 0, .int 0, .int 0, .int 0, .null, .null, .null, .null, .null, .null, .null, .int 0, .null, .null, .null, .int 0, .null, .null, .null, .null]))] U.heap ∧ va_K D vwCl (pw_ty cA) U ∧ va_D (fun _ => True) [(h0, .inr (4, [.int 0, .int 0, .int 0, .int 0, .int 0, .null, .null, .null, .null, .null, .null, .null, .int 0, .null, .null, .null, .int 0, .null, .null, .null, .null]))])) (va_Qv (S := (Nat → Nat) × (Nat → Int32) × (Nat → Int32)) (fun u => (∀ j, j < 12 → u.2.1 j = -1) ∧ ∀ j, j < 24 → u.2.2 j = -1) (fun u t => va_P D vwCl [(h0, .inr (4, [.int 0, .int 0, .int 8, .int 6, .int 0, .ref (u.1 1), .ref (u.1 2), .ref (u.1 3), .ref (u.1 4), .ref (u.1 5), .ref (u.1 6), .ref (u.1 7), .int 0, .ref (u.1 8), .ref (u.1 9), .ref (u.1 10), .int 0, .ref (u.1 11), .ref (u.1 12), .ref (u.1 13), .ref (u.1 14)])), (u.1 1, .inl (cA 1, 12, .inl u.2.1)), (u.1 2, .inl (cA 1, 12, .inl (fun _ => 0))), (u.1 3, .inl (cA 2, 12, .inl (fun _ => 0))), (u.1 4, .inl (cA 1, 24, .inl u.2.2)), (u.1 5, .inl (cA 2, 200, .inl (fun _ => 0))), (u.1 6, .inl (cA 2, 200, .inl (fun _ => 0))), (u.1 7, .inl (cA 1, 800, .inl (fun _ => 0))), (u.1 8, .inl (cA 2, 10, .inl (fun _ => 0))), (u.1 9, .inl (cA 1, 160, .inl (fun _ => 0))), (u.1 10, .inl (cA 1, 160, .inl (fun _ => 0))), (u.1 11, .inl (cA 1, 4, .inl (fun _ => 0))), (u.1 12, .inl (cA 1, 24, .inl (fun _ => 0))), (u.1 13, .inl (cA 1, 6, .inl (fun _ => 0))), (u.1 14, .inl (cA 1, 4, .inl (fun _ => 0)))] t.heap ∧ va_D (va_A [(h0, .inr (4, [.int 0, .int 0, .int 0, .int 0, .int 0, .null, .null, .null, .null, .null, .null, .null, .int 0, .null, .null, .null, .int 0, .null, .null, .null, .null]))] sz) [(h0, .inr (4, [.int 0, .int 0, .int 8, .int 6, .int 0, .ref (u.1 1), .ref (u.1 2), .ref (u.1 3), .ref (u.1 4), .ref (u.1 5), .ref (u.1 6), .ref (u.1 7), .int 0, .ref (u.1 8), .ref (u.1 9), .ref (u.1 10), .int 0, .ref (u.1 11), .ref (u.1 12), .ref (u.1 13), .ref (u.1 14)])), (u.1 1, .inl (cA 1, 12, .inl u.2.1)), (u.1 2, .inl (cA 1, 12, .inl (fun _ => 0))), (u.1 3, .inl (cA 2, 12, .inl (fun _ => 0))), (u.1 4, .inl (cA 1, 24, .inl u.2.2)), (u.1 5, .inl (cA 2, 200, .inl (fun _ => 0))), (u.1 6, .inl (cA 2, 200, .inl (fun _ => 0))), (u.1 7, .inl (cA 1, 800, .inl (fun _ => 0))), (u.1 8, .inl (cA 2, 10, .inl (fun _ => 0))), (u.1 9, .inl (cA 1, 160, .inl (fun _ => 0))), (u.1 10, .inl (cA 1, 160, .inl (fun _ => 0))), (u.1 11, .inl (cA 1, 4, .inl (fun _ => 0))), (u.1 12, .inl (cA 1, 24, .inl (fun _ => 0))), (u.1 13, .inl (cA 1, 6, .inl (fun _ => 0))), (u.1 14, .inl (cA 1, 4, .inl (fun _ => 0)))]) (va_A [(h0, .inr (4, [.int 0, .int 0, .int 0, .int 0, .int 0, .null, .null, .null, .null, .null, .null, .null, .int 0, .null, .null, .null, .int 0, .null, .null, .null, .null]))] sz)) 14 1628 (va_A [(h0, .inr (4, [.int 0, .int 0, .int 0, .int 0, .int 0, .null, .null, .null, .null, .null, .null, .null, .int 0, .null, .null, .null, .int 0, .null, .null, .null, .null]))] sz) := by
  refine Met.ofW (cc := cX4_init) (maxL := 2) (ret := none) (by decide) rfl ?_
  intro p e s m args below meth c s₁ B hml hv
  obtain ⟨rfl, hsz, hP, hK, hD0⟩ := hv
  have hx := B.exec
  have hb := B.bytes
  have hr := B.returns
  have hts0 := atoms_spec (ws := wA yX4_init cX4_init 2 none) B.pre
  have hts : ∀ w ∈ wsL_law, w.before _ s = true := fun w hw => hts0 w (List.mem_cons_of_mem _ hw)
  have hown : s.vm.findClass RX4 = some m.cls := findClass_of_methodNamed B.named
  have hlocks := B.notSynchronized
  have hin : meth.name = "<init>" := (name_of_methodNamed B.named B.method).1
  subst hsz
  have hD := hD0.self (sz := s.heap.size)
  generalize hAe : va_A [(h0, .inr (4, [.int 0, .int 0, .int 0, .int 0, .int 0, .null, .null, .null, .null, .null, .null, .null, .int 0, .null, .null, .null, .int 0, .null, .null, .null, .null]))] s.heap.size = A at hD ⊢
  have hA : ∀ q : Nat, s.heap.size ≤ q → A q := fun q h => by rw [← hAe]; exact Or.inr h
  have hS : va_S A s.heap s.heap [] := va_S.rf
  have hP : va_P D vwCl [(h0, .inr (4, [.int 0, .int 0, .int 0, .int 0, .int 0, .null, .null, .null, .null, .null, .null, .null, .int 0, .null, .null, .null, .int 0, .null, .null, .null, .null]))] s.heap := hP
  have hl := lv_entry ([.ref h0]) (n := 2) (Nat.le_of_ble_eq_true rfl)
  rw [lg_entry_eq]
  generalize (lg_sl ([.ref h0]) ++ List.replicate (2 - (lg_sl ([.ref h0])).length) Slot.unset).toArray = ls at hl ⊢
  have hl : lv_has ls 2 [(0, .ref h0)] := hl
  refine lv_aload_n hx hb dX4_init_0 rfl (lv_at hl 0 rfl) ?_
  refine W.objInit hx hb hown (hts _ wA_52) (hts _ wA_11) (hts _ wA_12) rfl (by rw [hml]; exact hl.1) rfl dX4_init_1 (Nat.le_of_ble_eq_true rfl) (Nat.le_of_ble_eq_true rfl) ?_
  refine W.eq (g2 := F0 m 4 ls []) rfl ?_
  refine lv_aload_n hx hb dX4_init_4 rfl (lv_at hl 0 rfl) ?_
  refine lv_bipush (v := 8) hx hb dX4_init_5 (by decide) ?_
  refine va_put (D := D) (ci := 4) (v := .int 8) (ty := .int) (C := RX4) (T := TX4) (N := 21) hx hb hts inlX4 tyX4 tyX4_ok nmX4 hown hK hP hD hS 0 rfl rfl 2 (by decide) (hts _ wA_53) (fun _ h9 => h9) rfl (by decide +kernel) rfl rfl (Nat.le_of_ble_eq_true rfl) dX4_init_7 (fun H locs hP hD hS => ?_)
  have hP : va_P D vwCl [(h0, .inr (4, [.int 0, .int 0, .int 8, .int 0, .int 0, .null, .null, .null, .null, .null, .null, .null, .int 0, .null, .null, .null, .int 0, .null, .null, .null, .null]))] H := hP
  have hD : va_D A [(h0, .inr (4, [.int 0, .int 0, .int 8, .int 0, .int 0, .null, .null, .null, .null, .null, .null, .null, .int 0, .null, .null, .null, .int 0, .null, .null, .null, .null]))] := hD
  refine lv_aload_n hx hb dX4_init_10 rfl (lv_at hl 0 rfl) ?_
  refine lv_bipush (v := 6) hx hb dX4_init_11 (by decide) ?_
  refine va_put (D := D) (ci := 4) (v := .int 6) (ty := .int) (C := RX4) (T := TX4) (N := 21) hx hb hts inlX4 tyX4 tyX4_ok nmX4 hown hK hP hD hS 0 rfl rfl 3 (by decide) (hts _ wA_54) (fun _ h9 => h9) rfl (by decide +kernel) rfl rfl (Nat.le_of_ble_eq_true rfl) dX4_init_13 (fun H locs hP hD hS => ?_)
  have hP : va_P D vwCl [(h0, .inr (4, [.int 0, .int 0, .int 8, .int 6, .int 0, .null, .null, .null, .null, .null, .null, .null, .int 0, .null, .null, .null, .int 0, .null, .null, .null, .null]))] H := hP
  have hD : va_D A [(h0, .inr (4, [.int 0, .int 0, .int 8, .int 6, .int 0, .null, .null, .null, .null, .null, .null, .null, .int 0, .null, .null, .null, .int 0, .null, .null, .null, .null]))] := hD
  refine lv_aload_n hx hb dX4_init_16 rfl (lv_at hl 0 rfl) ?_
  refine lv_bipush (v := 12) hx hb dX4_init_17 (by decide) ?_
  refine va_newa (atype := .int) (ty := .int) (a0 := (12, .inl (fun _ => 0))) hx hb (hts _ wA_27) rfl hK hP hD hS hA (fun _ => rfl) (by decide) rfl (Nat.le_of_ble_eq_true rfl) (Nat.le_of_ble_eq_true rfl) (Nat.le_of_ble_eq_true rfl) dX4_init_19 (fun q19 cA19 H hK2 hP hD hS => ?_)
  have hce : cA19 = cA 1 := Option.some.inj (((hK2.2 3 _ rfl).2).symm.trans ((hK.2 0 _ rfl).2))
  subst hce
  clear hK2
  have hP : va_P D vwCl [(h0, .inr (4, [.int 0, .int 0, .int 8, .int 6, .int 0, .null, .null, .null, .null, .null, .null, .null, .int 0, .null, .null, .null, .int 0, .null, .null, .null, .null])), (q19, .inl (cA 1, 12, .inl (fun _ => 0)))] H := hP
  have hD : va_D A [(h0, .inr (4, [.int 0, .int 0, .int 8, .int 6, .int 0, .null, .null, .null, .null, .null, .null, .null, .int 0, .null, .null, .null, .int 0, .null, .null, .null, .null])), (q19, .inl (cA 1, 12, .inl (fun _ => 0)))] := hD
  refine W.widen (k := 1) (n := 12) (Nat.le_of_ble_eq_true rfl) (Nat.le_of_ble_eq_true rfl) ?_
  refine va_putF (D := D) (ci := 4) (v := .ref q19) (ty := .array .int) (C := RX4) (T := TX4) (N := 21) hx hb hts inlX4 tyX4 tyX4_ok nmX4 hown hK hP hD hS 0 rfl rfl 5 (by decide) (hts _ wA_55) (fun _ h9 => h9) rfl hin rfl (by decide +kernel) rfl rfl (Nat.le_of_ble_eq_true rfl) dX4_init_21 (fun H locs hP hD hS => ?_)
  have hP : va_P D vwCl [(h0, .inr (4, [.int 0, .int 0, .int 8, .int 6, .int 0, .ref q19, .null, .null, .null, .null, .null, .null, .int 0, .null, .null, .null, .int 0, .null, .null, .null, .null])), (q19, .inl (cA 1, 12, .inl (fun _ => 0)))] H := hP
  have hD : va_D A [(h0, .inr (4, [.int 0, .int 0, .int 8, .int 6, .int 0, .ref q19, .null, .null, .null, .null, .null, .null, .int 0, .null, .null, .null, .int 0, .null, .null, .null, .null])), (q19, .inl (cA 1, 12, .inl (fun _ => 0)))] := hD
  refine lv_aload_n hx hb dX4_init_24 rfl (lv_at hl 0 rfl) ?_
  refine lv_bipush (v := 12) hx hb dX4_init_25 (by decide) ?_
  refine va_newa (atype := .int) (ty := .int) (a0 := (12, .inl (fun _ => 0))) hx hb (hts _ wA_27) rfl hK hP hD hS hA (fun _ => rfl) (by decide) rfl (Nat.le_of_ble_eq_true rfl) (Nat.le_of_ble_eq_true rfl) (Nat.le_of_ble_eq_true rfl) dX4_init_27 (fun q27 cA27 H hK2 hP hD hS => ?_)
  have hce : cA27 = cA 1 := Option.some.inj (((hK2.2 3 _ rfl).2).symm.trans ((hK.2 0 _ rfl).2))
  subst hce
  clear hK2
  have hP : va_P D vwCl [(h0, .inr (4, [.int 0, .int 0, .int 8, .int 6, .int 0, .ref q19, .null, .null, .null, .null, .null, .null, .int 0, .null, .null, .null, .int 0, .null, .null, .null, .null])), (q19, .inl (cA 1, 12, .inl (fun _ => 0))), (q27, .inl (cA 1, 12, .inl (fun _ => 0)))] H := hP
  have hD : va_D A [(h0, .inr (4, [.int 0, .int 0, .int 8, .int 6, .int 0, .ref q19, .null, .null, .null, .null, .null, .null, .int 0, .null, .null, .null, .int 0, .null, .null, .null, .null])), (q19, .inl (cA 1, 12, .inl (fun _ => 0))), (q27, .inl (cA 1, 12, .inl (fun _ => 0)))] := hD
  refine W.widen (k := 2) (n := 24) (Nat.le_of_ble_eq_true rfl) (Nat.le_of_ble_eq_true rfl) ?_
  refine va_putF (D := D) (ci := 4) (v := .ref q27) (ty := .array .int) (C := RX4) (T := TX4) (N := 21) hx hb hts inlX4 tyX4 tyX4_ok nmX4 hown hK hP hD hS 0 rfl rfl 6 (by decide) (hts _ wA_56) (fun _ h9 => h9) rfl hin rfl (by decide +kernel) rfl rfl (Nat.le_of_ble_eq_true rfl) dX4_init_29 (fun H locs hP hD hS => ?_)
  have hP : va_P D vwCl [(h0, .inr (4, [.int 0, .int 0, .int 8, .int 6, .int 0, .ref q19, .ref q27, .null, .null, .null, .null, .null, .int 0, .null, .null, .null, .int 0, .null, .null, .null, .null])), (q19, .inl (cA 1, 12, .inl (fun _ => 0))), (q27, .inl (cA 1, 12, .inl (fun _ => 0)))] H := hP
  have hD : va_D A [(h0, .inr (4, [.int 0, .int 0, .int 8, .int 6, .int 0, .ref q19, .ref q27, .null, .null, .null, .null, .null, .int 0, .null, .null, .null, .int 0, .null, .null, .null, .null])), (q19, .inl (cA 1, 12, .inl (fun _ => 0))), (q27, .inl (cA 1, 12, .inl (fun _ => 0)))] := hD
  refine lv_aload_n hx hb dX4_init_32 rfl (lv_at hl 0 rfl) ?_
  refine lv_bipush (v := 12) hx hb dX4_init_33 (by decide) ?_
  refine va_newa (atype := .boolean) (ty := .boolean) (a0 := (12, .inl (fun _ => 0))) hx hb (hts _ wA_15) rfl hK hP hD hS hA (fun _ => rfl) (by decide) rfl (Nat.le_of_ble_eq_true rfl) (Nat.le_of_ble_eq_true rfl) (Nat.le_of_ble_eq_true rfl) dX4_init_35 (fun q35 cA35 H hK2 hP hD hS => ?_)
  have hce : cA35 = cA 2 := Option.some.inj (((hK2.2 3 _ rfl).2).symm.trans ((hK.2 1 _ rfl).2))
  subst hce
  clear hK2
  have hP : va_P D vwCl [(h0, .inr (4, [.int 0, .int 0, .int 8, .int 6, .int 0, .ref q19, .ref q27, .null, .null, .null, .null, .null, .int 0, .null, .null, .null, .int 0, .null, .null, .null, .null])), (q19, .inl (cA 1, 12, .inl (fun _ => 0))), (q27, .inl (cA 1, 12, .inl (fun _ => 0))), (q35, .inl (cA 2, 12, .inl (fun _ => 0)))] H := hP
  have hD : va_D A [(h0, .inr (4, [.int 0, .int 0, .int 8, .int 6, .int 0, .ref q19, .ref q27, .null, .null, .null, .null, .null, .int 0, .null, .null, .null, .int 0, .null, .null, .null, .null])), (q19, .inl (cA 1, 12, .inl (fun _ => 0))), (q27, .inl (cA 1, 12, .inl (fun _ => 0))), (q35, .inl (cA 2, 12, .inl (fun _ => 0)))] := hD
  refine W.widen (k := 3) (n := 36) (Nat.le_of_ble_eq_true rfl) (Nat.le_of_ble_eq_true rfl) ?_
  refine va_putF (D := D) (ci := 4) (v := .ref q35) (ty := .array .boolean) (C := RX4) (T := TX4) (N := 21) hx hb hts inlX4 tyX4 tyX4_ok nmX4 hown hK hP hD hS 0 rfl rfl 7 (by decide) (hts _ wA_57) (fun _ h9 => h9) rfl hin rfl (by decide +kernel) rfl rfl (Nat.le_of_ble_eq_true rfl) dX4_init_37 (fun H locs hP hD hS => ?_)
  have hP : va_P D vwCl [(h0, .inr (4, [.int 0, .int 0, .int 8, .int 6, .int 0, .ref q19, .ref q27, .ref q35, .null, .null, .null, .null, .int 0, .null, .null, .null, .int 0, .null, .null, .null, .null])), (q19, .inl (cA 1, 12, .inl (fun _ => 0))), (q27, .inl (cA 1, 12, .inl (fun _ => 0))), (q35, .inl (cA 2, 12, .inl (fun _ => 0)))] H := hP
  have hD : va_D A [(h0, .inr (4, [.int 0, .int 0, .int 8, .int 6, .int 0, .ref q19, .ref q27, .ref q35, .null, .null, .null, .null, .int 0, .null, .null, .null, .int 0, .null, .null, .null, .null])), (q19, .inl (cA 1, 12, .inl (fun _ => 0))), (q27, .inl (cA 1, 12, .inl (fun _ => 0))), (q35, .inl (cA 2, 12, .inl (fun _ => 0)))] := hD
  refine lv_aload_n hx hb dX4_init_40 rfl (lv_at hl 0 rfl) ?_
  refine lv_bipush (v := 24) hx hb dX4_init_41 (by decide) ?_
  refine va_newa (atype := .int) (ty := .int) (a0 := (24, .inl (fun _ => 0))) hx hb (hts _ wA_27) rfl hK hP hD hS hA (fun _ => rfl) (by decide) rfl (Nat.le_of_ble_eq_true rfl) (Nat.le_of_ble_eq_true rfl) (Nat.le_of_ble_eq_true rfl) dX4_init_43 (fun q43 cA43 H hK2 hP hD hS => ?_)
  have hce : cA43 = cA 1 := Option.some.inj (((hK2.2 3 _ rfl).2).symm.trans ((hK.2 0 _ rfl).2))
  subst hce
  clear hK2
  have hP : va_P D vwCl [(h0, .inr (4, [.int 0, .int 0, .int 8, .int 6, .int 0, .ref q19, .ref q27, .ref q35, .null, .null, .null, .null, .int 0, .null, .null, .null, .int 0, .null, .null, .null, .null])), (q19, .inl (cA 1, 12, .inl (fun _ => 0))), (q27, .inl (cA 1, 12, .inl (fun _ => 0))), (q35, .inl (cA 2, 12, .inl (fun _ => 0))), (q43, .inl (cA 1, 24, .inl (fun _ => 0)))] H := hP
  have hD : va_D A [(h0, .inr (4, [.int 0, .int 0, .int 8, .int 6, .int 0, .ref q19, .ref q27, .ref q35, .null, .null, .null, .null, .int 0, .null, .null, .null, .int 0, .null, .null, .null, .null])), (q19, .inl (cA 1, 12, .inl (fun _ => 0))), (q27, .inl (cA 1, 12, .inl (fun _ => 0))), (q35, .inl (cA 2, 12, .inl (fun _ => 0))), (q43, .inl (cA 1, 24, .inl (fun _ => 0)))] := hD
  refine W.widen (k := 4) (n := 60) (Nat.le_of_ble_eq_true rfl) (Nat.le_of_ble_eq_true rfl) ?_
  refine va_putF (D := D) (ci := 4) (v := .ref q43) (ty := .array .int) (C := RX4) (T := TX4) (N := 21) hx hb hts inlX4 tyX4 tyX4_ok nmX4 hown hK hP hD hS 0 rfl rfl 8 (by decide) (hts _ wA_58) (fun _ h9 => h9) rfl hin rfl (by decide +kernel) rfl rfl (Nat.le_of_ble_eq_true rfl) dX4_init_45 (fun H locs hP hD hS => ?_)
  have hP : va_P D vwCl [(h0, .inr (4, [.int 0, .int 0, .int 8, .int 6, .int 0, .ref q19, .ref q27, .ref q35, .ref q43, .null, .null, .null, .int 0, .null, .null, .null, .int 0, .null, .null, .null, .null])), (q19, .inl (cA 1, 12, .inl (fun _ => 0))), (q27, .inl (cA 1, 12, .inl (fun _ => 0))), (q35, .inl (cA 2, 12, .inl (fun _ => 0))), (q43, .inl (cA 1, 24, .inl (fun _ => 0)))] H := hP
  have hD : va_D A [(h0, .inr (4, [.int 0, .int 0, .int 8, .int 6, .int 0, .ref q19, .ref q27, .ref q35, .ref q43, .null, .null, .null, .int 0, .null, .null, .null, .int 0, .null, .null, .null, .null])), (q19, .inl (cA 1, 12, .inl (fun _ => 0))), (q27, .inl (cA 1, 12, .inl (fun _ => 0))), (q35, .inl (cA 2, 12, .inl (fun _ => 0))), (q43, .inl (cA 1, 24, .inl (fun _ => 0)))] := hD
  refine lv_aload_n hx hb dX4_init_48 rfl (lv_at hl 0 rfl) ?_
  refine lv_sipush (v := 200) hx hb dX4_init_49 (by decide) ?_
  refine va_newa (atype := .boolean) (ty := .boolean) (a0 := (200, .inl (fun _ => 0))) hx hb (hts _ wA_15) rfl hK hP hD hS hA (fun _ => rfl) (by decide) rfl (Nat.le_of_ble_eq_true rfl) (Nat.le_of_ble_eq_true rfl) (Nat.le_of_ble_eq_true rfl) dX4_init_52 (fun q52 cA52 H hK2 hP hD hS => ?_)
  have hce : cA52 = cA 2 := Option.some.inj (((hK2.2 3 _ rfl).2).symm.trans ((hK.2 1 _ rfl).2))
  subst hce
  clear hK2
  have hP : va_P D vwCl [(h0, .inr (4, [.int 0, .int 0, .int 8, .int 6, .int 0, .ref q19, .ref q27, .ref q35, .ref q43, .null, .null, .null, .int 0, .null, .null, .null, .int 0, .null, .null, .null, .null])), (q19, .inl (cA 1, 12, .inl (fun _ => 0))), (q27, .inl (cA 1, 12, .inl (fun _ => 0))), (q35, .inl (cA 2, 12, .inl (fun _ => 0))), (q43, .inl (cA 1, 24, .inl (fun _ => 0))), (q52, .inl (cA 2, 200, .inl (fun _ => 0)))] H := hP
  have hD : va_D A [(h0, .inr (4, [.int 0, .int 0, .int 8, .int 6, .int 0, .ref q19, .ref q27, .ref q35, .ref q43, .null, .null, .null, .int 0, .null, .null, .null, .int 0, .null, .null, .null, .null])), (q19, .inl (cA 1, 12, .inl (fun _ => 0))), (q27, .inl (cA 1, 12, .inl (fun _ => 0))), (q35, .inl (cA 2, 12, .inl (fun _ => 0))), (q43, .inl (cA 1, 24, .inl (fun _ => 0))), (q52, .inl (cA 2, 200, .inl (fun _ => 0)))] := hD
  refine W.widen (k := 5) (n := 260) (Nat.le_of_ble_eq_true rfl) (Nat.le_of_ble_eq_true rfl) ?_
  refine va_putF (D := D) (ci := 4) (v := .ref q52) (ty := .array .boolean) (C := RX4) (T := TX4) (N := 21) hx hb hts inlX4 tyX4 tyX4_ok nmX4 hown hK hP hD hS 0 rfl rfl 9 (by decide) (hts _ wA_59) (fun _ h9 => h9) rfl hin rfl (by decide +kernel) rfl rfl (Nat.le_of_ble_eq_true rfl) dX4_init_54 (fun H locs hP hD hS => ?_)
  have hP : va_P D vwCl [(h0, .inr (4, [.int 0, .int 0, .int 8, .int 6, .int 0, .ref q19, .ref q27, .ref q35, .ref q43, .ref q52, .null, .null, .int 0, .null, .null, .null, .int 0, .null, .null, .null, .null])), (q19, .inl (cA 1, 12, .inl (fun _ => 0))), (q27, .inl (cA 1, 12, .inl (fun _ => 0))), (q35, .inl (cA 2, 12, .inl (fun _ => 0))), (q43, .inl (cA 1, 24, .inl (fun _ => 0))), (q52, .inl (cA 2, 200, .inl (fun _ => 0)))] H := hP
  have hD : va_D A [(h0, .inr (4, [.int 0, .int 0, .int 8, .int 6, .int 0, .ref q19, .ref q27, .ref q35, .ref q43, .ref q52, .null, .null, .int 0, .null, .null, .null, .int 0, .null, .null, .null, .null])), (q19, .inl (cA 1, 12, .inl (fun _ => 0))), (q27, .inl (cA 1, 12, .inl (fun _ => 0))), (q35, .inl (cA 2, 12, .inl (fun _ => 0))), (q43, .inl (cA 1, 24, .inl (fun _ => 0))), (q52, .inl (cA 2, 200, .inl (fun _ => 0)))] := hD
  refine lv_aload_n hx hb dX4_init_57 rfl (lv_at hl 0 rfl) ?_
  refine lv_sipush (v := 200) hx hb dX4_init_58 (by decide) ?_
  refine va_newa (atype := .boolean) (ty := .boolean) (a0 := (200, .inl (fun _ => 0))) hx hb (hts _ wA_15) rfl hK hP hD hS hA (fun _ => rfl) (by decide) rfl (Nat.le_of_ble_eq_true rfl) (Nat.le_of_ble_eq_true rfl) (Nat.le_of_ble_eq_true rfl) dX4_init_61 (fun q61 cA61 H hK2 hP hD hS => ?_)
  have hce : cA61 = cA 2 := Option.some.inj (((hK2.2 3 _ rfl).2).symm.trans ((hK.2 1 _ rfl).2))
  subst hce
  clear hK2
  have hP : va_P D vwCl [(h0, .inr (4, [.int 0, .int 0, .int 8, .int 6, .int 0, .ref q19, .ref q27, .ref q35, .ref q43, .ref q52, .null, .null, .int 0, .null, .null, .null, .int 0, .null, .null, .null, .null])), (q19, .inl (cA 1, 12, .inl (fun _ => 0))), (q27, .inl (cA 1, 12, .inl (fun _ => 0))), (q35, .inl (cA 2, 12, .inl (fun _ => 0))), (q43, .inl (cA 1, 24, .inl (fun _ => 0))), (q52, .inl (cA 2, 200, .inl (fun _ => 0))), (q61, .inl (cA 2, 200, .inl (fun _ => 0)))] H := hP
  have hD : va_D A [(h0, .inr (4, [.int 0, .int 0, .int 8, .int 6, .int 0, .ref q19, .ref q27, .ref q35, .ref q43, .ref q52, .null, .null, .int 0, .null, .null, .null, .int 0, .null, .null, .null, .null])), (q19, .inl (cA 1, 12, .inl (fun _ => 0))), (q27, .inl (cA 1, 12, .inl (fun _ => 0))), (q35, .inl (cA 2, 12, .inl (fun _ => 0))), (q43, .inl (cA 1, 24, .inl (fun _ => 0))), (q52, .inl (cA 2, 200, .inl (fun _ => 0))), (q61, .inl (cA 2, 200, .inl (fun _ => 0)))] := hD
  refine W.widen (k := 6) (n := 460) (Nat.le_of_ble_eq_true rfl) (Nat.le_of_ble_eq_true rfl) ?_
  refine va_putF (D := D) (ci := 4) (v := .ref q61) (ty := .array .boolean) (C := RX4) (T := TX4) (N := 21) hx hb hts inlX4 tyX4 tyX4_ok nmX4 hown hK hP hD hS 0 rfl rfl 10 (by decide) (hts _ wA_60) (fun _ h9 => h9) rfl hin rfl (by decide +kernel) rfl rfl (Nat.le_of_ble_eq_true rfl) dX4_init_63 (fun H locs hP hD hS => ?_)
  have hP : va_P D vwCl [(h0, .inr (4, [.int 0, .int 0, .int 8, .int 6, .int 0, .ref q19, .ref q27, .ref q35, .ref q43, .ref q52, .ref q61, .null, .int 0, .null, .null, .null, .int 0, .null, .null, .null, .null])), (q19, .inl (cA 1, 12, .inl (fun _ => 0))), (q27, .inl (cA 1, 12, .inl (fun _ => 0))), (q35, .inl (cA 2, 12, .inl (fun _ => 0))), (q43, .inl (cA 1, 24, .inl (fun _ => 0))), (q52, .inl (cA 2, 200, .inl (fun _ => 0))), (q61, .inl (cA 2, 200, .inl (fun _ => 0)))] H := hP
  have hD : va_D A [(h0, .inr (4, [.int 0, .int 0, .int 8, .int 6, .int 0, .ref q19, .ref q27, .ref q35, .ref q43, .ref q52, .ref q61, .null, .int 0, .null, .null, .null, .int 0, .null, .null, .null, .null])), (q19, .inl (cA 1, 12, .inl (fun _ => 0))), (q27, .inl (cA 1, 12, .inl (fun _ => 0))), (q35, .inl (cA 2, 12, .inl (fun _ => 0))), (q43, .inl (cA 1, 24, .inl (fun _ => 0))), (q52, .inl (cA 2, 200, .inl (fun _ => 0))), (q61, .inl (cA 2, 200, .inl (fun _ => 0)))] := hD
  refine lv_aload_n hx hb dX4_init_66 rfl (lv_at hl 0 rfl) ?_
  refine lv_sipush (v := 800) hx hb dX4_init_67 (by decide) ?_
  refine va_newa (atype := .int) (ty := .int) (a0 := (800, .inl (fun _ => 0))) hx hb (hts _ wA_27) rfl hK hP hD hS hA (fun _ => rfl) (by decide) rfl (Nat.le_of_ble_eq_true rfl) (Nat.le_of_ble_eq_true rfl) (Nat.le_of_ble_eq_true rfl) dX4_init_70 (fun q70 cA70 H hK2 hP hD hS => ?_)
  have hce : cA70 = cA 1 := Option.some.inj (((hK2.2 3 _ rfl).2).symm.trans ((hK.2 0 _ rfl).2))
  subst hce
  clear hK2
  have hP : va_P D vwCl [(h0, .inr (4, [.int 0, .int 0, .int 8, .int 6, .int 0, .ref q19, .ref q27, .ref q35, .ref q43, .ref q52, .ref q61, .null, .int 0, .null, .null, .null, .int 0, .null, .null, .null, .null])), (q19, .inl (cA 1, 12, .inl (fun _ => 0))), (q27, .inl (cA 1, 12, .inl (fun _ => 0))), (q35, .inl (cA 2, 12, .inl (fun _ => 0))), (q43, .inl (cA 1, 24, .inl (fun _ => 0))), (q52, .inl (cA 2, 200, .inl (fun _ => 0))), (q61, .inl (cA 2, 200, .inl (fun _ => 0))), (q70, .inl (cA 1, 800, .inl (fun _ => 0)))] H := hP
  have hD : va_D A [(h0, .inr (4, [.int 0, .int 0, .int 8, .int 6, .int 0, .ref q19, .ref q27, .ref q35, .ref q43, .ref q52, .ref q61, .null, .int 0, .null, .null, .null, .int 0, .null, .null, .null, .null])), (q19, .inl (cA 1, 12, .inl (fun _ => 0))), (q27, .inl (cA 1, 12, .inl (fun _ => 0))), (q35, .inl (cA 2, 12, .inl (fun _ => 0))), (q43, .inl (cA 1, 24, .inl (fun _ => 0))), (q52, .inl (cA 2, 200, .inl (fun _ => 0))), (q61, .inl (cA 2, 200, .inl (fun _ => 0))), (q70, .inl (cA 1, 800, .inl (fun _ => 0)))] := hD
  refine W.widen (k := 7) (n := 1260) (Nat.le_of_ble_eq_true rfl) (Nat.le_of_ble_eq_true rfl) ?_
  refine va_putF (D := D) (ci := 4) (v := .ref q70) (ty := .array .int) (C := RX4) (T := TX4) (N := 21) hx hb hts inlX4 tyX4 tyX4_ok nmX4 hown hK hP hD hS 0 rfl rfl 11 (by decide) (hts _ wA_61) (fun _ h9 => h9) rfl hin rfl (by decide +kernel) rfl rfl (Nat.le_of_ble_eq_true rfl) dX4_init_72 (fun H locs hP hD hS => ?_)
  have hP : va_P D vwCl [(h0, .inr (4, [.int 0, .int 0, .int 8, .int 6, .int 0, .ref q19, .ref q27, .ref q35, .ref q43, .ref q52, .ref q61, .ref q70, .int 0, .null, .null, .null, .int 0, .null, .null, .null, .null])), (q19, .inl (cA 1, 12, .inl (fun _ => 0))), (q27, .inl (cA 1, 12, .inl (fun _ => 0))), (q35, .inl (cA 2, 12, .inl (fun _ => 0))), (q43, .inl (cA 1, 24, .inl (fun _ => 0))), (q52, .inl (cA 2, 200, .inl (fun _ => 0))), (q61, .inl (cA 2, 200, .inl (fun _ => 0))), (q70, .inl (cA 1, 800, .inl (fun _ => 0)))] H := hP
  have hD : va_D A [(h0, .inr (4, [.int 0, .int 0, .int 8, .int 6, .int 0, .ref q19, .ref q27, .ref q35, .ref q43, .ref q52, .ref q61, .ref q70, .int 0, .null, .null, .null, .int 0, .null, .null, .null, .null])), (q19, .inl (cA 1, 12, .inl (fun _ => 0))), (q27, .inl (cA 1, 12, .inl (fun _ => 0))), (q35, .inl (cA 2, 12, .inl (fun _ => 0))), (q43, .inl (cA 1, 24, .inl (fun _ => 0))), (q52, .inl (cA 2, 200, .inl (fun _ => 0))), (q61, .inl (cA 2, 200, .inl (fun _ => 0))), (q70, .inl (cA 1, 800, .inl (fun _ => 0)))] := hD
  refine lv_aload_n hx hb dX4_init_75 rfl (lv_at hl 0 rfl) ?_
  refine lv_bipush (v := 10) hx hb dX4_init_76 (by decide) ?_
  refine va_newa (atype := .boolean) (ty := .boolean) (a0 := (10, .inl (fun _ => 0))) hx hb (hts _ wA_15) rfl hK hP hD hS hA (fun _ => rfl) (by decide) rfl (Nat.le_of_ble_eq_true rfl) (Nat.le_of_ble_eq_true rfl) (Nat.le_of_ble_eq_true rfl) dX4_init_78 (fun q78 cA78 H hK2 hP hD hS => ?_)
  have hce : cA78 = cA 2 := Option.some.inj (((hK2.2 3 _ rfl).2).symm.trans ((hK.2 1 _ rfl).2))
  subst hce
  clear hK2
  have hP : va_P D vwCl [(h0, .inr (4, [.int 0, .int 0, .int 8, .int 6, .int 0, .ref q19, .ref q27, .ref q35, .ref q43, .ref q52, .ref q61, .ref q70, .int 0, .null, .null, .null, .int 0, .null, .null, .null, .null])), (q19, .inl (cA 1, 12, .inl (fun _ => 0))), (q27, .inl (cA 1, 12, .inl (fun _ => 0))), (q35, .inl (cA 2, 12, .inl (fun _ => 0))), (q43, .inl (cA 1, 24, .inl (fun _ => 0))), (q52, .inl (cA 2, 200, .inl (fun _ => 0))), (q61, .inl (cA 2, 200, .inl (fun _ => 0))), (q70, .inl (cA 1, 800, .inl (fun _ => 0))), (q78, .inl (cA 2, 10, .inl (fun _ => 0)))] H := hP
  have hD : va_D A [(h0, .inr (4, [.int 0, .int 0, .int 8, .int 6, .int 0, .ref q19, .ref q27, .ref q35, .ref q43, .ref q52, .ref q61, .ref q70, .int 0, .null, .null, .null, .int 0, .null, .null, .null, .null])), (q19, .inl (cA 1, 12, .inl (fun _ => 0))), (q27, .inl (cA 1, 12, .inl (fun _ => 0))), (q35, .inl (cA 2, 12, .inl (fun _ => 0))), (q43, .inl (cA 1, 24, .inl (fun _ => 0))), (q52, .inl (cA 2, 200, .inl (fun _ => 0))), (q61, .inl (cA 2, 200, .inl (fun _ => 0))), (q70, .inl (cA 1, 800, .inl (fun _ => 0))), (q78, .inl (cA 2, 10, .inl (fun _ => 0)))] := hD
  refine W.widen (k := 8) (n := 1270) (Nat.le_of_ble_eq_true rfl) (Nat.le_of_ble_eq_true rfl) ?_
  refine va_putF (D := D) (ci := 4) (v := .ref q78) (ty := .array .boolean) (C := RX4) (T := TX4) (N := 21) hx hb hts inlX4 tyX4 tyX4_ok nmX4 hown hK hP hD hS 0 rfl rfl 13 (by decide) (hts _ wA_62) (fun _ h9 => h9) rfl hin rfl (by decide +kernel) rfl rfl (Nat.le_of_ble_eq_true rfl) dX4_init_80 (fun H locs hP hD hS => ?_)
  have hP : va_P D vwCl [(h0, .inr (4, [.int 0, .int 0, .int 8, .int 6, .int 0, .ref q19, .ref q27, .ref q35, .ref q43, .ref q52, .ref q61, .ref q70, .int 0, .ref q78, .null, .null, .int 0, .null, .null, .null, .null])), (q19, .inl (cA 1, 12, .inl (fun _ => 0))), (q27, .inl (cA 1, 12, .inl (fun _ => 0))), (q35, .inl (cA 2, 12, .inl (fun _ => 0))), (q43, .inl (cA 1, 24, .inl (fun _ => 0))), (q52, .inl (cA 2, 200, .inl (fun _ => 0))), (q61, .inl (cA 2, 200, .inl (fun _ => 0))), (q70, .inl (cA 1, 800, .inl (fun _ => 0))), (q78, .inl (cA 2, 10, .inl (fun _ => 0)))] H := hP
  have hD : va_D A [(h0, .inr (4, [.int 0, .int 0, .int 8, .int 6, .int 0, .ref q19, .ref q27, .ref q35, .ref q43, .ref q52, .ref q61, .ref q70, .int 0, .ref q78, .null, .null, .int 0, .null, .null, .null, .null])), (q19, .inl (cA 1, 12, .inl (fun _ => 0))), (q27, .inl (cA 1, 12, .inl (fun _ => 0))), (q35, .inl (cA 2, 12, .inl (fun _ => 0))), (q43, .inl (cA 1, 24, .inl (fun _ => 0))), (q52, .inl (cA 2, 200, .inl (fun _ => 0))), (q61, .inl (cA 2, 200, .inl (fun _ => 0))), (q70, .inl (cA 1, 800, .inl (fun _ => 0))), (q78, .inl (cA 2, 10, .inl (fun _ => 0)))] := hD
  refine lv_aload_n hx hb dX4_init_83 rfl (lv_at hl 0 rfl) ?_
  refine lv_sipush (v := 160) hx hb dX4_init_84 (by decide) ?_
  refine va_newa (atype := .int) (ty := .int) (a0 := (160, .inl (fun _ => 0))) hx hb (hts _ wA_27) rfl hK hP hD hS hA (fun _ => rfl) (by decide) rfl (Nat.le_of_ble_eq_true rfl) (Nat.le_of_ble_eq_true rfl) (Nat.le_of_ble_eq_true rfl) dX4_init_87 (fun q87 cA87 H hK2 hP hD hS => ?_)
  have hce : cA87 = cA 1 := Option.some.inj (((hK2.2 3 _ rfl).2).symm.trans ((hK.2 0 _ rfl).2))
  subst hce
  clear hK2
  have hP : va_P D vwCl [(h0, .inr (4, [.int 0, .int 0, .int 8, .int 6, .int 0, .ref q19, .ref q27, .ref q35, .ref q43, .ref q52, .ref q61, .ref q70, .int 0, .ref q78, .null, .null, .int 0, .null, .null, .null, .null])), (q19, .inl (cA 1, 12, .inl (fun _ => 0))), (q27, .inl (cA 1, 12, .inl (fun _ => 0))), (q35, .inl (cA 2, 12, .inl (fun _ => 0))), (q43, .inl (cA 1, 24, .inl (fun _ => 0))), (q52, .inl (cA 2, 200, .inl (fun _ => 0))), (q61, .inl (cA 2, 200, .inl (fun _ => 0))), (q70, .inl (cA 1, 800, .inl (fun _ => 0))), (q78, .inl (cA 2, 10, .inl (fun _ => 0))), (q87, .inl (cA 1, 160, .inl (fun _ => 0)))] H := hP
  have hD : va_D A [(h0, .inr (4, [.int 0, .int 0, .int 8, .int 6, .int 0, .ref q19, .ref q27, .ref q35, .ref q43, .ref q52, .ref q61, .ref q70, .int 0, .ref q78, .null, .null, .int 0, .null, .null, .null, .null])), (q19, .inl (cA 1, 12, .inl (fun _ => 0))), (q27, .inl (cA 1, 12, .inl (fun _ => 0))), (q35, .inl (cA 2, 12, .inl (fun _ => 0))), (q43, .inl (cA 1, 24, .inl (fun _ => 0))), (q52, .inl (cA 2, 200, .inl (fun _ => 0))), (q61, .inl (cA 2, 200, .inl (fun _ => 0))), (q70, .inl (cA 1, 800, .inl (fun _ => 0))), (q78, .inl (cA 2, 10, .inl (fun _ => 0))), (q87, .inl (cA 1, 160, .inl (fun _ => 0)))] := hD
  refine W.widen (k := 9) (n := 1430) (Nat.le_of_ble_eq_true rfl) (Nat.le_of_ble_eq_true rfl) ?_
  refine va_putF (D := D) (ci := 4) (v := .ref q87) (ty := .array .int) (C := RX4) (T := TX4) (N := 21) hx hb hts inlX4 tyX4 tyX4_ok nmX4 hown hK hP hD hS 0 rfl rfl 14 (by decide) (hts _ wA_63) (fun _ h9 => h9) rfl hin rfl (by decide +kernel) rfl rfl (Nat.le_of_ble_eq_true rfl) dX4_init_89 (fun H locs hP hD hS => ?_)
  have hP : va_P D vwCl [(h0, .inr (4, [.int 0, .int 0, .int 8, .int 6, .int 0, .ref q19, .ref q27, .ref q35, .ref q43, .ref q52, .ref q61, .ref q70, .int 0, .ref q78, .ref q87, .null, .int 0, .null, .null, .null, .null])), (q19, .inl (cA 1, 12, .inl (fun _ => 0))), (q27, .inl (cA 1, 12, .inl (fun _ => 0))), (q35, .inl (cA 2, 12, .inl (fun _ => 0))), (q43, .inl (cA 1, 24, .inl (fun _ => 0))), (q52, .inl (cA 2, 200, .inl (fun _ => 0))), (q61, .inl (cA 2, 200, .inl (fun _ => 0))), (q70, .inl (cA 1, 800, .inl (fun _ => 0))), (q78, .inl (cA 2, 10, .inl (fun _ => 0))), (q87, .inl (cA 1, 160, .inl (fun _ => 0)))] H := hP
  have hD : va_D A [(h0, .inr (4, [.int 0, .int 0, .int 8, .int 6, .int 0, .ref q19, .ref q27, .ref q35, .ref q43, .ref q52, .ref q61, .ref q70, .int 0, .ref q78, .ref q87, .null, .int 0, .null, .null, .null, .null])), (q19, .inl (cA 1, 12, .inl (fun _ => 0))), (q27, .inl (cA 1, 12, .inl (fun _ => 0))), (q35, .inl (cA 2, 12, .inl (fun _ => 0))), (q43, .inl (cA 1, 24, .inl (fun _ => 0))), (q52, .inl (cA 2, 200, .inl (fun _ => 0))), (q61, .inl (cA 2, 200, .inl (fun _ => 0))), (q70, .inl (cA 1, 800, .inl (fun _ => 0))), (q78, .inl (cA 2, 10, .inl (fun _ => 0))), (q87, .inl (cA 1, 160, .inl (fun _ => 0)))] := hD
  refine lv_aload_n hx hb dX4_init_92 rfl (lv_at hl 0 rfl) ?_
  refine lv_sipush (v := 160) hx hb dX4_init_93 (by decide) ?_
  refine va_newa (atype := .int) (ty := .int) (a0 := (160, .inl (fun _ => 0))) hx hb (hts _ wA_27) rfl hK hP hD hS hA (fun _ => rfl) (by decide) rfl (Nat.le_of_ble_eq_true rfl) (Nat.le_of_ble_eq_true rfl) (Nat.le_of_ble_eq_true rfl) dX4_init_96 (fun q96 cA96 H hK2 hP hD hS => ?_)
  have hce : cA96 = cA 1 := Option.some.inj (((hK2.2 3 _ rfl).2).symm.trans ((hK.2 0 _ rfl).2))
  subst hce
  clear hK2
  have hP : va_P D vwCl [(h0, .inr (4, [.int 0, .int 0, .int 8, .int 6, .int 0, .ref q19, .ref q27, .ref q35, .ref q43, .ref q52, .ref q61, .ref q70, .int 0, .ref q78, .ref q87, .null, .int 0, .null, .null, .null, .null])), (q19, .inl (cA 1, 12, .inl (fun _ => 0))), (q27, .inl (cA 1, 12, .inl (fun _ => 0))), (q35, .inl (cA 2, 12, .inl (fun _ => 0))), (q43, .inl (cA 1, 24, .inl (fun _ => 0))), (q52, .inl (cA 2, 200, .inl (fun _ => 0))), (q61, .inl (cA 2, 200, .inl (fun _ => 0))), (q70, .inl (cA 1, 800, .inl (fun _ => 0))), (q78, .inl (cA 2, 10, .inl (fun _ => 0))), (q87, .inl (cA 1, 160, .inl (fun _ => 0))), (q96, .inl (cA 1, 160, .inl (fun _ => 0)))] H := hP
  have hD : va_D A [(h0, .inr (4, [.int 0, .int 0, .int 8, .int 6, .int 0, .ref q19, .ref q27, .ref q35, .ref q43, .ref q52, .ref q61, .ref q70, .int 0, .ref q78, .ref q87, .null, .int 0, .null, .null, .null, .null])), (q19, .inl (cA 1, 12, .inl (fun _ => 0))), (q27, .inl (cA 1, 12, .inl (fun _ => 0))), (q35, .inl (cA 2, 12, .inl (fun _ => 0))), (q43, .inl (cA 1, 24, .inl (fun _ => 0))), (q52, .inl (cA 2, 200, .inl (fun _ => 0))), (q61, .inl (cA 2, 200, .inl (fun _ => 0))), (q70, .inl (cA 1, 800, .inl (fun _ => 0))), (q78, .inl (cA 2, 10, .inl (fun _ => 0))), (q87, .inl (cA 1, 160, .inl (fun _ => 0))), (q96, .inl (cA 1, 160, .inl (fun _ => 0)))] := hD
  refine W.widen (k := 10) (n := 1590) (Nat.le_of_ble_eq_true rfl) (Nat.le_of_ble_eq_true rfl) ?_
  refine va_putF (D := D) (ci := 4) (v := .ref q96) (ty := .array .int) (C := RX4) (T := TX4) (N := 21) hx hb hts inlX4 tyX4 tyX4_ok nmX4 hown hK hP hD hS 0 rfl rfl 15 (by decide) (hts _ wA_64) (fun _ h9 => h9) rfl hin rfl (by decide +kernel) rfl rfl (Nat.le_of_ble_eq_true rfl) dX4_init_98 (fun H locs hP hD hS => ?_)
  have hP : va_P D vwCl [(h0, .inr (4, [.int 0, .int 0, .int 8, .int 6, .int 0, .ref q19, .ref q27, .ref q35, .ref q43, .ref q52, .ref q61, .ref q70, .int 0, .ref q78, .ref q87, .ref q96, .int 0, .null, .null, .null, .null])), (q19, .inl (cA 1, 12, .inl (fun _ => 0))), (q27, .inl (cA 1, 12, .inl (fun _ => 0))), (q35, .inl (cA 2, 12, .inl (fun _ => 0))), (q43, .inl (cA 1, 24, .inl (fun _ => 0))), (q52, .inl (cA 2, 200, .inl (fun _ => 0))), (q61, .inl (cA 2, 200, .inl (fun _ => 0))), (q70, .inl (cA 1, 800, .inl (fun _ => 0))), (q78, .inl (cA 2, 10, .inl (fun _ => 0))), (q87, .inl (cA 1, 160, .inl (fun _ => 0))), (q96, .inl (cA 1, 160, .inl (fun _ => 0)))] H := hP
  have hD : va_D A [(h0, .inr (4, [.int 0, .int 0, .int 8, .int 6, .int 0, .ref q19, .ref q27, .ref q35, .ref q43, .ref q52, .ref q61, .ref q70, .int 0, .ref q78, .ref q87, .ref q96, .int 0, .null, .null, .null, .null])), (q19, .inl (cA 1, 12, .inl (fun _ => 0))), (q27, .inl (cA 1, 12, .inl (fun _ => 0))), (q35, .inl (cA 2, 12, .inl (fun _ => 0))), (q43, .inl (cA 1, 24, .inl (fun _ => 0))), (q52, .inl (cA 2, 200, .inl (fun _ => 0))), (q61, .inl (cA 2, 200, .inl (fun _ => 0))), (q70, .inl (cA 1, 800, .inl (fun _ => 0))), (q78, .inl (cA 2, 10, .inl (fun _ => 0))), (q87, .inl (cA 1, 160, .inl (fun _ => 0))), (q96, .inl (cA 1, 160, .inl (fun _ => 0)))] := hD
  refine lv_aload_n hx hb dX4_init_101 rfl (lv_at hl 0 rfl) ?_
  refine lv_iconst (v := 4) hx hb dX4_init_102 (by decide) ?_
  refine va_newa (atype := .int) (ty := .int) (a0 := (4, .inl (fun _ => 0))) hx hb (hts _ wA_27) rfl hK hP hD hS hA (fun _ => rfl) (by decide) rfl (Nat.le_of_ble_eq_true rfl) (Nat.le_of_ble_eq_true rfl) (Nat.le_of_ble_eq_true rfl) dX4_init_103 (fun q103 cA103 H hK2 hP hD hS => ?_)
  have hce : cA103 = cA 1 := Option.some.inj (((hK2.2 3 _ rfl).2).symm.trans ((hK.2 0 _ rfl).2))
  subst hce
  clear hK2
  have hP : va_P D vwCl [(h0, .inr (4, [.int 0, .int 0, .int 8, .int 6, .int 0, .ref q19, .ref q27, .ref q35, .ref q43, .ref q52, .ref q61, .ref q70, .int 0, .ref q78, .ref q87, .ref q96, .int 0, .null, .null, .null, .null])), (q19, .inl (cA 1, 12, .inl (fun _ => 0))), (q27, .inl (cA 1, 12, .inl (fun _ => 0))), (q35, .inl (cA 2, 12, .inl (fun _ => 0))), (q43, .inl (cA 1, 24, .inl (fun _ => 0))), (q52, .inl (cA 2, 200, .inl (fun _ => 0))), (q61, .inl (cA 2, 200, .inl (fun _ => 0))), (q70, .inl (cA 1, 800, .inl (fun _ => 0))), (q78, .inl (cA 2, 10, .inl (fun _ => 0))), (q87, .inl (cA 1, 160, .inl (fun _ => 0))), (q96, .inl (cA 1, 160, .inl (fun _ => 0))), (q103, .inl (cA 1, 4, .inl (fun _ => 0)))] H := hP
  have hD : va_D A [(h0, .inr (4, [.int 0, .int 0, .int 8, .int 6, .int 0, .ref q19, .ref q27, .ref q35, .ref q43, .ref q52, .ref q61, .ref q70, .int 0, .ref q78, .ref q87, .ref q96, .int 0, .null, .null, .null, .null])), (q19, .inl (cA 1, 12, .inl (fun _ => 0))), (q27, .inl (cA 1, 12, .inl (fun _ => 0))), (q35, .inl (cA 2, 12, .inl (fun _ => 0))), (q43, .inl (cA 1, 24, .inl (fun _ => 0))), (q52, .inl (cA 2, 200, .inl (fun _ => 0))), (q61, .inl (cA 2, 200, .inl (fun _ => 0))), (q70, .inl (cA 1, 800, .inl (fun _ => 0))), (q78, .inl (cA 2, 10, .inl (fun _ => 0))), (q87, .inl (cA 1, 160, .inl (fun _ => 0))), (q96, .inl (cA 1, 160, .inl (fun _ => 0))), (q103, .inl (cA 1, 4, .inl (fun _ => 0)))] := hD
  refine W.widen (k := 11) (n := 1594) (Nat.le_of_ble_eq_true rfl) (Nat.le_of_ble_eq_true rfl) ?_
  refine va_putF (D := D) (ci := 4) (v := .ref q103) (ty := .array .int) (C := RX4) (T := TX4) (N := 21) hx hb hts inlX4 tyX4 tyX4_ok nmX4 hown hK hP hD hS 0 rfl rfl 17 (by decide) (hts _ wA_65) (fun _ h9 => h9) rfl hin rfl (by decide +kernel) rfl rfl (Nat.le_of_ble_eq_true rfl) dX4_init_105 (fun H locs hP hD hS => ?_)
  have hP : va_P D vwCl [(h0, .inr (4, [.int 0, .int 0, .int 8, .int 6, .int 0, .ref q19, .ref q27, .ref q35, .ref q43, .ref q52, .ref q61, .ref q70, .int 0, .ref q78, .ref q87, .ref q96, .int 0, .ref q103, .null, .null, .null])), (q19, .inl (cA 1, 12, .inl (fun _ => 0))), (q27, .inl (cA 1, 12, .inl (fun _ => 0))), (q35, .inl (cA 2, 12, .inl (fun _ => 0))), (q43, .inl (cA 1, 24, .inl (fun _ => 0))), (q52, .inl (cA 2, 200, .inl (fun _ => 0))), (q61, .inl (cA 2, 200, .inl (fun _ => 0))), (q70, .inl (cA 1, 800, .inl (fun _ => 0))), (q78, .inl (cA 2, 10, .inl (fun _ => 0))), (q87, .inl (cA 1, 160, .inl (fun _ => 0))), (q96, .inl (cA 1, 160, .inl (fun _ => 0))), (q103, .inl (cA 1, 4, .inl (fun _ => 0)))] H := hP
  have hD : va_D A [(h0, .inr (4, [.int 0, .int 0, .int 8, .int 6, .int 0, .ref q19, .ref q27, .ref q35, .ref q43, .ref q52, .ref q61, .ref q70, .int 0, .ref q78, .ref q87, .ref q96, .int 0, .ref q103, .null, .null, .null])), (q19, .inl (cA 1, 12, .inl (fun _ => 0))), (q27, .inl (cA 1, 12, .inl (fun _ => 0))), (q35, .inl (cA 2, 12, .inl (fun _ => 0))), (q43, .inl (cA 1, 24, .inl (fun _ => 0))), (q52, .inl (cA 2, 200, .inl (fun _ => 0))), (q61, .inl (cA 2, 200, .inl (fun _ => 0))), (q70, .inl (cA 1, 800, .inl (fun _ => 0))), (q78, .inl (cA 2, 10, .inl (fun _ => 0))), (q87, .inl (cA 1, 160, .inl (fun _ => 0))), (q96, .inl (cA 1, 160, .inl (fun _ => 0))), (q103, .inl (cA 1, 4, .inl (fun _ => 0)))] := hD
  refine lv_aload_n hx hb dX4_init_108 rfl (lv_at hl 0 rfl) ?_
  refine lv_bipush (v := 24) hx hb dX4_init_109 (by decide) ?_
  refine va_newa (atype := .int) (ty := .int) (a0 := (24, .inl (fun _ => 0))) hx hb (hts _ wA_27) rfl hK hP hD hS hA (fun _ => rfl) (by decide) rfl (Nat.le_of_ble_eq_true rfl) (Nat.le_of_ble_eq_true rfl) (Nat.le_of_ble_eq_true rfl) dX4_init_111 (fun q111 cA111 H hK2 hP hD hS => ?_)
  have hce : cA111 = cA 1 := Option.some.inj (((hK2.2 3 _ rfl).2).symm.trans ((hK.2 0 _ rfl).2))
  subst hce
  clear hK2
  have hP : va_P D vwCl [(h0, .inr (4, [.int 0, .int 0, .int 8, .int 6, .int 0, .ref q19, .ref q27, .ref q35, .ref q43, .ref q52, .ref q61, .ref q70, .int 0, .ref q78, .ref q87, .ref q96, .int 0, .ref q103, .null, .null, .null])), (q19, .inl (cA 1, 12, .inl (fun _ => 0))), (q27, .inl (cA 1, 12, .inl (fun _ => 0))), (q35, .inl (cA 2, 12, .inl (fun _ => 0))), (q43, .inl (cA 1, 24, .inl (fun _ => 0))), (q52, .inl (cA 2, 200, .inl (fun _ => 0))), (q61, .inl (cA 2, 200, .inl (fun _ => 0))), (q70, .inl (cA 1, 800, .inl (fun _ => 0))), (q78, .inl (cA 2, 10, .inl (fun _ => 0))), (q87, .inl (cA 1, 160, .inl (fun _ => 0))), (q96, .inl (cA 1, 160, .inl (fun _ => 0))), (q103, .inl (cA 1, 4, .inl (fun _ => 0))), (q111, .inl (cA 1, 24, .inl (fun _ => 0)))] H := hP
  have hD : va_D A [(h0, .inr (4, [.int 0, .int 0, .int 8, .int 6, .int 0, .ref q19, .ref q27, .ref q35, .ref q43, .ref q52, .ref q61, .ref q70, .int 0, .ref q78, .ref q87, .ref q96, .int 0, .ref q103, .null, .null, .null])), (q19, .inl (cA 1, 12, .inl (fun _ => 0))), (q27, .inl (cA 1, 12, .inl (fun _ => 0))), (q35, .inl (cA 2, 12, .inl (fun _ => 0))), (q43, .inl (cA 1, 24, .inl (fun _ => 0))), (q52, .inl (cA 2, 200, .inl (fun _ => 0))), (q61, .inl (cA 2, 200, .inl (fun _ => 0))), (q70, .inl (cA 1, 800, .inl (fun _ => 0))), (q78, .inl (cA 2, 10, .inl (fun _ => 0))), (q87, .inl (cA 1, 160, .inl (fun _ => 0))), (q96, .inl (cA 1, 160, .inl (fun _ => 0))), (q103, .inl (cA 1, 4, .inl (fun _ => 0))), (q111, .inl (cA 1, 24, .inl (fun _ => 0)))] := hD
  refine W.widen (k := 12) (n := 1618) (Nat.le_of_ble_eq_true rfl) (Nat.le_of_ble_eq_true rfl) ?_
  refine va_putF (D := D) (ci := 4) (v := .ref q111) (ty := .array .int) (C := RX4) (T := TX4) (N := 21) hx hb hts inlX4 tyX4 tyX4_ok nmX4 hown hK hP hD hS 0 rfl rfl 18 (by decide) (hts _ wA_66) (fun _ h9 => h9) rfl hin rfl (by decide +kernel) rfl rfl (Nat.le_of_ble_eq_true rfl) dX4_init_113 (fun H locs hP hD hS => ?_)
  have hP : va_P D vwCl [(h0, .inr (4, [.int 0, .int 0, .int 8, .int 6, .int 0, .ref q19, .ref q27, .ref q35, .ref q43, .ref q52, .ref q61, .ref q70, .int 0, .ref q78, .ref q87, .ref q96, .int 0, .ref q103, .ref q111, .null, .null])), (q19, .inl (cA 1, 12, .inl (fun _ => 0))), (q27, .inl (cA 1, 12, .inl (fun _ => 0))), (q35, .inl (cA 2, 12, .inl (fun _ => 0))), (q43, .inl (cA 1, 24, .inl (fun _ => 0))), (q52, .inl (cA 2, 200, .inl (fun _ => 0))), (q61, .inl (cA 2, 200, .inl (fun _ => 0))), (q70, .inl (cA 1, 800, .inl (fun _ => 0))), (q78, .inl (cA 2, 10, .inl (fun _ => 0))), (q87, .inl (cA 1, 160, .inl (fun _ => 0))), (q96, .inl (cA 1, 160, .inl (fun _ => 0))), (q103, .inl (cA 1, 4, .inl (fun _ => 0))), (q111, .inl (cA 1, 24, .inl (fun _ => 0)))] H := hP
  have hD : va_D A [(h0, .inr (4, [.int 0, .int 0, .int 8, .int 6, .int 0, .ref q19, .ref q27, .ref q35, .ref q43, .ref q52, .ref q61, .ref q70, .int 0, .ref q78, .ref q87, .ref q96, .int 0, .ref q103, .ref q111, .null, .null])), (q19, .inl (cA 1, 12, .inl (fun _ => 0))), (q27, .inl (cA 1, 12, .inl (fun _ => 0))), (q35, .inl (cA 2, 12, .inl (fun _ => 0))), (q43, .inl (cA 1, 24, .inl (fun _ => 0))), (q52, .inl (cA 2, 200, .inl (fun _ => 0))), (q61, .inl (cA 2, 200, .inl (fun _ => 0))), (q70, .inl (cA 1, 800, .inl (fun _ => 0))), (q78, .inl (cA 2, 10, .inl (fun _ => 0))), (q87, .inl (cA 1, 160, .inl (fun _ => 0))), (q96, .inl (cA 1, 160, .inl (fun _ => 0))), (q103, .inl (cA 1, 4, .inl (fun _ => 0))), (q111, .inl (cA 1, 24, .inl (fun _ => 0)))] := hD
  refine lv_aload_n hx hb dX4_init_116 rfl (lv_at hl 0 rfl) ?_
  refine lv_bipush (v := 6) hx hb dX4_init_117 (by decide) ?_
  refine va_newa (atype := .int) (ty := .int) (a0 := (6, .inl (fun _ => 0))) hx hb (hts _ wA_27) rfl hK hP hD hS hA (fun _ => rfl) (by decide) rfl (Nat.le_of_ble_eq_true rfl) (Nat.le_of_ble_eq_true rfl) (Nat.le_of_ble_eq_true rfl) dX4_init_119 (fun q119 cA119 H hK2 hP hD hS => ?_)
  have hce : cA119 = cA 1 := Option.some.inj (((hK2.2 3 _ rfl).2).symm.trans ((hK.2 0 _ rfl).2))
  subst hce
  clear hK2
  have hP : va_P D vwCl [(h0, .inr (4, [.int 0, .int 0, .int 8, .int 6, .int 0, .ref q19, .ref q27, .ref q35, .ref q43, .ref q52, .ref q61, .ref q70, .int 0, .ref q78, .ref q87, .ref q96, .int 0, .ref q103, .ref q111, .null, .null])), (q19, .inl (cA 1, 12, .inl (fun _ => 0))), (q27, .inl (cA 1, 12, .inl (fun _ => 0))), (q35, .inl (cA 2, 12, .inl (fun _ => 0))), (q43, .inl (cA 1, 24, .inl (fun _ => 0))), (q52, .inl (cA 2, 200, .inl (fun _ => 0))), (q61, .inl (cA 2, 200, .inl (fun _ => 0))), (q70, .inl (cA 1, 800, .inl (fun _ => 0))), (q78, .inl (cA 2, 10, .inl (fun _ => 0))), (q87, .inl (cA 1, 160, .inl (fun _ => 0))), (q96, .inl (cA 1, 160, .inl (fun _ => 0))), (q103, .inl (cA 1, 4, .inl (fun _ => 0))), (q111, .inl (cA 1, 24, .inl (fun _ => 0))), (q119, .inl (cA 1, 6, .inl (fun _ => 0)))] H := hP
  have hD : va_D A [(h0, .inr (4, [.int 0, .int 0, .int 8, .int 6, .int 0, .ref q19, .ref q27, .ref q35, .ref q43, .ref q52, .ref q61, .ref q70, .int 0, .ref q78, .ref q87, .ref q96, .int 0, .ref q103, .ref q111, .null, .null])), (q19, .inl (cA 1, 12, .inl (fun _ => 0))), (q27, .inl (cA 1, 12, .inl (fun _ => 0))), (q35, .inl (cA 2, 12, .inl (fun _ => 0))), (q43, .inl (cA 1, 24, .inl (fun _ => 0))), (q52, .inl (cA 2, 200, .inl (fun _ => 0))), (q61, .inl (cA 2, 200, .inl (fun _ => 0))), (q70, .inl (cA 1, 800, .inl (fun _ => 0))), (q78, .inl (cA 2, 10, .inl (fun _ => 0))), (q87, .inl (cA 1, 160, .inl (fun _ => 0))), (q96, .inl (cA 1, 160, .inl (fun _ => 0))), (q103, .inl (cA 1, 4, .inl (fun _ => 0))), (q111, .inl (cA 1, 24, .inl (fun _ => 0))), (q119, .inl (cA 1, 6, .inl (fun _ => 0)))] := hD
  refine W.widen (k := 13) (n := 1624) (Nat.le_of_ble_eq_true rfl) (Nat.le_of_ble_eq_true rfl) ?_
  refine va_putF (D := D) (ci := 4) (v := .ref q119) (ty := .array .int) (C := RX4) (T := TX4) (N := 21) hx hb hts inlX4 tyX4 tyX4_ok nmX4 hown hK hP hD hS 0 rfl rfl 19 (by decide) (hts _ wA_67) (fun _ h9 => h9) rfl hin rfl (by decide +kernel) rfl rfl (Nat.le_of_ble_eq_true rfl) dX4_init_121 (fun H locs hP hD hS => ?_)
  have hP : va_P D vwCl [(h0, .inr (4, [.int 0, .int 0, .int 8, .int 6, .int 0, .ref q19, .ref q27, .ref q35, .ref q43, .ref q52, .ref q61, .ref q70, .int 0, .ref q78, .ref q87, .ref q96, .int 0, .ref q103, .ref q111, .ref q119, .null])), (q19, .inl (cA 1, 12, .inl (fun _ => 0))), (q27, .inl (cA 1, 12, .inl (fun _ => 0))), (q35, .inl (cA 2, 12, .inl (fun _ => 0))), (q43, .inl (cA 1, 24, .inl (fun _ => 0))), (q52, .inl (cA 2, 200, .inl (fun _ => 0))), (q61, .inl (cA 2, 200, .inl (fun _ => 0))), (q70, .inl (cA 1, 800, .inl (fun _ => 0))), (q78, .inl (cA 2, 10, .inl (fun _ => 0))), (q87, .inl (cA 1, 160, .inl (fun _ => 0))), (q96, .inl (cA 1, 160, .inl (fun _ => 0))), (q103, .inl (cA 1, 4, .inl (fun _ => 0))), (q111, .inl (cA 1, 24, .inl (fun _ => 0))), (q119, .inl (cA 1, 6, .inl (fun _ => 0)))] H := hP
  have hD : va_D A [(h0, .inr (4, [.int 0, .int 0, .int 8, .int 6, .int 0, .ref q19, .ref q27, .ref q35, .ref q43, .ref q52, .ref q61, .ref q70, .int 0, .ref q78, .ref q87, .ref q96, .int 0, .ref q103, .ref q111, .ref q119, .null])), (q19, .inl (cA 1, 12, .inl (fun _ => 0))), (q27, .inl (cA 1, 12, .inl (fun _ => 0))), (q35, .inl (cA 2, 12, .inl (fun _ => 0))), (q43, .inl (cA 1, 24, .inl (fun _ => 0))), (q52, .inl (cA 2, 200, .inl (fun _ => 0))), (q61, .inl (cA 2, 200, .inl (fun _ => 0))), (q70, .inl (cA 1, 800, .inl (fun _ => 0))), (q78, .inl (cA 2, 10, .inl (fun _ => 0))), (q87, .inl (cA 1, 160, .inl (fun _ => 0))), (q96, .inl (cA 1, 160, .inl (fun _ => 0))), (q103, .inl (cA 1, 4, .inl (fun _ => 0))), (q111, .inl (cA 1, 24, .inl (fun _ => 0))), (q119, .inl (cA 1, 6, .inl (fun _ => 0)))] := hD
  refine lv_aload_n hx hb dX4_init_124 rfl (lv_at hl 0 rfl) ?_
  refine lv_iconst (v := 4) hx hb dX4_init_125 (by decide) ?_
  refine va_newa (atype := .int) (ty := .int) (a0 := (4, .inl (fun _ => 0))) hx hb (hts _ wA_27) rfl hK hP hD hS hA (fun _ => rfl) (by decide) rfl (Nat.le_of_ble_eq_true rfl) (Nat.le_of_ble_eq_true rfl) (Nat.le_of_ble_eq_true rfl) dX4_init_126 (fun q126 cA126 H hK2 hP hD hS => ?_)
  have hce : cA126 = cA 1 := Option.some.inj (((hK2.2 3 _ rfl).2).symm.trans ((hK.2 0 _ rfl).2))
  subst hce
  clear hK2
  have hP : va_P D vwCl [(h0, .inr (4, [.int 0, .int 0, .int 8, .int 6, .int 0, .ref q19, .ref q27, .ref q35, .ref q43, .ref q52, .ref q61, .ref q70, .int 0, .ref q78, .ref q87, .ref q96, .int 0, .ref q103, .ref q111, .ref q119, .null])), (q19, .inl (cA 1, 12, .inl (fun _ => 0))), (q27, .inl (cA 1, 12, .inl (fun _ => 0))), (q35, .inl (cA 2, 12, .inl (fun _ => 0))), (q43, .inl (cA 1, 24, .inl (fun _ => 0))), (q52, .inl (cA 2, 200, .inl (fun _ => 0))), (q61, .inl (cA 2, 200, .inl (fun _ => 0))), (q70, .inl (cA 1, 800, .inl (fun _ => 0))), (q78, .inl (cA 2, 10, .inl (fun _ => 0))), (q87, .inl (cA 1, 160, .inl (fun _ => 0))), (q96, .inl (cA 1, 160, .inl (fun _ => 0))), (q103, .inl (cA 1, 4, .inl (fun _ => 0))), (q111, .inl (cA 1, 24, .inl (fun _ => 0))), (q119, .inl (cA 1, 6, .inl (fun _ => 0))), (q126, .inl (cA 1, 4, .inl (fun _ => 0)))] H := hP
  have hD : va_D A [(h0, .inr (4, [.int 0, .int 0, .int 8, .int 6, .int 0, .ref q19, .ref q27, .ref q35, .ref q43, .ref q52, .ref q61, .ref q70, .int 0, .ref q78, .ref q87, .ref q96, .int 0, .ref q103, .ref q111, .ref q119, .null])), (q19, .inl (cA 1, 12, .inl (fun _ => 0))), (q27, .inl (cA 1, 12, .inl (fun _ => 0))), (q35, .inl (cA 2, 12, .inl (fun _ => 0))), (q43, .inl (cA 1, 24, .inl (fun _ => 0))), (q52, .inl (cA 2, 200, .inl (fun _ => 0))), (q61, .inl (cA 2, 200, .inl (fun _ => 0))), (q70, .inl (cA 1, 800, .inl (fun _ => 0))), (q78, .inl (cA 2, 10, .inl (fun _ => 0))), (q87, .inl (cA 1, 160, .inl (fun _ => 0))), (q96, .inl (cA 1, 160, .inl (fun _ => 0))), (q103, .inl (cA 1, 4, .inl (fun _ => 0))), (q111, .inl (cA 1, 24, .inl (fun _ => 0))), (q119, .inl (cA 1, 6, .inl (fun _ => 0))), (q126, .inl (cA 1, 4, .inl (fun _ => 0)))] := hD
  refine W.widen (k := 14) (n := 1628) (Nat.le_of_ble_eq_true rfl) (Nat.le_of_ble_eq_true rfl) ?_
  refine va_putF (D := D) (ci := 4) (v := .ref q126) (ty := .array .int) (C := RX4) (T := TX4) (N := 21) hx hb hts inlX4 tyX4 tyX4_ok nmX4 hown hK hP hD hS 0 rfl rfl 20 (by decide) (hts _ wA_68) (fun _ h9 => h9) rfl hin rfl (by decide +kernel) rfl rfl (Nat.le_of_ble_eq_true rfl) dX4_init_128 (fun H locs hP hD hS => ?_)
  have hP : va_P D vwCl [(h0, .inr (4, [.int 0, .int 0, .int 8, .int 6, .int 0, .ref q19, .ref q27, .ref q35, .ref q43, .ref q52, .ref q61, .ref q70, .int 0, .ref q78, .ref q87, .ref q96, .int 0, .ref q103, .ref q111, .ref q119, .ref q126])), (q19, .inl (cA 1, 12, .inl (fun _ => 0))), (q27, .inl (cA 1, 12, .inl (fun _ => 0))), (q35, .inl (cA 2, 12, .inl (fun _ => 0))), (q43, .inl (cA 1, 24, .inl (fun _ => 0))), (q52, .inl (cA 2, 200, .inl (fun _ => 0))), (q61, .inl (cA 2, 200, .inl (fun _ => 0))), (q70, .inl (cA 1, 800, .inl (fun _ => 0))), (q78, .inl (cA 2, 10, .inl (fun _ => 0))), (q87, .inl (cA 1, 160, .inl (fun _ => 0))), (q96, .inl (cA 1, 160, .inl (fun _ => 0))), (q103, .inl (cA 1, 4, .inl (fun _ => 0))), (q111, .inl (cA 1, 24, .inl (fun _ => 0))), (q119, .inl (cA 1, 6, .inl (fun _ => 0))), (q126, .inl (cA 1, 4, .inl (fun _ => 0)))] H := hP
  have hD : va_D A [(h0, .inr (4, [.int 0, .int 0, .int 8, .int 6, .int 0, .ref q19, .ref q27, .ref q35, .ref q43, .ref q52, .ref q61, .ref q70, .int 0, .ref q78, .ref q87, .ref q96, .int 0, .ref q103, .ref q111, .ref q119, .ref q126])), (q19, .inl (cA 1, 12, .inl (fun _ => 0))), (q27, .inl (cA 1, 12, .inl (fun _ => 0))), (q35, .inl (cA 2, 12, .inl (fun _ => 0))), (q43, .inl (cA 1, 24, .inl (fun _ => 0))), (q52, .inl (cA 2, 200, .inl (fun _ => 0))), (q61, .inl (cA 2, 200, .inl (fun _ => 0))), (q70, .inl (cA 1, 800, .inl (fun _ => 0))), (q78, .inl (cA 2, 10, .inl (fun _ => 0))), (q87, .inl (cA 1, 160, .inl (fun _ => 0))), (q96, .inl (cA 1, 160, .inl (fun _ => 0))), (q103, .inl (cA 1, 4, .inl (fun _ => 0))), (q111, .inl (cA 1, 24, .inl (fun _ => 0))), (q119, .inl (cA 1, 6, .inl (fun _ => 0))), (q126, .inl (cA 1, 4, .inl (fun _ => 0)))] := hD
  have K154 : ∀ (fu : Nat → Int32), (∀ j, j < 12 → fu j = -1) → ∀ (n i : Nat) (fw : Nat → Int32) (H : Heap) (locs : List Loc) (ls : Array Slot), i ≤ 24 → i + n = 24 + 1 → (∀ j, j < i → fw j = -1) → va_P D vwCl [(h0, .inr (4, [.int 0, .int 0, .int 8, .int 6, .int 0, .ref q19, .ref q27, .ref q35, .ref q43, .ref q52, .ref q61, .ref q70, .int 0, .ref q78, .ref q87, .ref q96, .int 0, .ref q103, .ref q111, .ref q119, .ref q126])), (q19, .inl (cA 1, 12, .inl fu)), (q27, .inl (cA 1, 12, .inl (fun _ => 0))), (q35, .inl (cA 2, 12, .inl (fun _ => 0))), (q43, .inl (cA 1, 24, .inl fw)), (q52, .inl (cA 2, 200, .inl (fun _ => 0))), (q61, .inl (cA 2, 200, .inl (fun _ => 0))), (q70, .inl (cA 1, 800, .inl (fun _ => 0))), (q78, .inl (cA 2, 10, .inl (fun _ => 0))), (q87, .inl (cA 1, 160, .inl (fun _ => 0))), (q96, .inl (cA 1, 160, .inl (fun _ => 0))), (q103, .inl (cA 1, 4, .inl (fun _ => 0))), (q111, .inl (cA 1, 24, .inl (fun _ => 0))), (q119, .inl (cA 1, 6, .inl (fun _ => 0))), (q126, .inl (cA 1, 4, .inl (fun _ => 0)))] H → va_D A [(h0, .inr (4, [.int 0, .int 0, .int 8, .int 6, .int 0, .ref q19, .ref q27, .ref q35, .ref q43, .ref q52, .ref q61, .ref q70, .int 0, .ref q78, .ref q87, .ref q96, .int 0, .ref q103, .ref q111, .ref q119, .ref q126])), (q19, .inl (cA 1, 12, .inl fu)), (q27, .inl (cA 1, 12, .inl (fun _ => 0))), (q35, .inl (cA 2, 12, .inl (fun _ => 0))), (q43, .inl (cA 1, 24, .inl fw)), (q52, .inl (cA 2, 200, .inl (fun _ => 0))), (q61, .inl (cA 2, 200, .inl (fun _ => 0))), (q70, .inl (cA 1, 800, .inl (fun _ => 0))), (q78, .inl (cA 2, 10, .inl (fun _ => 0))), (q87, .inl (cA 1, 160, .inl (fun _ => 0))), (q96, .inl (cA 1, 160, .inl (fun _ => 0))), (q103, .inl (cA 1, 4, .inl (fun _ => 0))), (q111, .inl (cA 1, 24, .inl (fun _ => 0))), (q119, .inl (cA 1, 6, .inl (fun _ => 0))), (q126, .inl (cA 1, 4, .inl (fun _ => 0)))] → va_S A s.heap H locs → lv_has ls 2 [(0, .ref h0), (1, .int (nI i))] → W p l e ({ frames := 1, cells := 14, slots := 1628, locals := 13 }) s m ([.ref h0] : List Value).toArray below meth c H locs 14 1628 (MQ below (va_Qv (S := (Nat → Nat) × (Nat → Int32) × (Nat → Int32)) (fun u => (∀ j, j < 12 → u.2.1 j = -1) ∧ ∀ j, j < 24 → u.2.2 j = -1) (fun u t => va_P D vwCl [(h0, .inr (4, [.int 0, .int 0, .int 8, .int 6, .int 0, .ref (u.1 1), .ref (u.1 2), .ref (u.1 3), .ref (u.1 4), .ref (u.1 5), .ref (u.1 6), .ref (u.1 7), .int 0, .ref (u.1 8), .ref (u.1 9), .ref (u.1 10), .int 0, .ref (u.1 11), .ref (u.1 12), .ref (u.1 13), .ref (u.1 14)])), (u.1 1, .inl (cA 1, 12, .inl u.2.1)), (u.1 2, .inl (cA 1, 12, .inl (fun _ => 0))), (u.1 3, .inl (cA 2, 12, .inl (fun _ => 0))), (u.1 4, .inl (cA 1, 24, .inl u.2.2)), (u.1 5, .inl (cA 2, 200, .inl (fun _ => 0))), (u.1 6, .inl (cA 2, 200, .inl (fun _ => 0))), (u.1 7, .inl (cA 1, 800, .inl (fun _ => 0))), (u.1 8, .inl (cA 2, 10, .inl (fun _ => 0))), (u.1 9, .inl (cA 1, 160, .inl (fun _ => 0))), (u.1 10, .inl (cA 1, 160, .inl (fun _ => 0))), (u.1 11, .inl (cA 1, 4, .inl (fun _ => 0))), (u.1 12, .inl (cA 1, 24, .inl (fun _ => 0))), (u.1 13, .inl (cA 1, 6, .inl (fun _ => 0))), (u.1 14, .inl (cA 1, 4, .inl (fun _ => 0)))] t.heap ∧ va_D A [(h0, .inr (4, [.int 0, .int 0, .int 8, .int 6, .int 0, .ref (u.1 1), .ref (u.1 2), .ref (u.1 3), .ref (u.1 4), .ref (u.1 5), .ref (u.1 6), .ref (u.1 7), .int 0, .ref (u.1 8), .ref (u.1 9), .ref (u.1 10), .int 0, .ref (u.1 11), .ref (u.1 12), .ref (u.1 13), .ref (u.1 14)])), (u.1 1, .inl (cA 1, 12, .inl u.2.1)), (u.1 2, .inl (cA 1, 12, .inl (fun _ => 0))), (u.1 3, .inl (cA 2, 12, .inl (fun _ => 0))), (u.1 4, .inl (cA 1, 24, .inl u.2.2)), (u.1 5, .inl (cA 2, 200, .inl (fun _ => 0))), (u.1 6, .inl (cA 2, 200, .inl (fun _ => 0))), (u.1 7, .inl (cA 1, 800, .inl (fun _ => 0))), (u.1 8, .inl (cA 2, 10, .inl (fun _ => 0))), (u.1 9, .inl (cA 1, 160, .inl (fun _ => 0))), (u.1 10, .inl (cA 1, 160, .inl (fun _ => 0))), (u.1 11, .inl (cA 1, 4, .inl (fun _ => 0))), (u.1 12, .inl (cA 1, 24, .inl (fun _ => 0))), (u.1 13, .inl (cA 1, 6, .inl (fun _ => 0))), (u.1 14, .inl (cA 1, 4, .inl (fun _ => 0)))]) A) ([.ref h0] : List Value).toArray s 14 1628 A) (F0 m 154 ls []) := by
    intro fu hfu n
    induction n with
    | zero => intro i fw H locs ls h1 h2; omega
    | succ n ih =>
      intro i fw H locs ls h1 h2 hfl hP hD hS hl
      refine lv_iload_n hx hb dX4_init_154 rfl (lv_at hl 1 rfl) ?_
      refine lv_bipush (v := 24) hx hb dX4_init_155 (by decide) ?_
      refine lv_icmp_ge (tgt := 173) hx hb dX4_init_157 (by decide) (fun cz => ?_) (fun cz => ?_)
      · have hi : i = 24 := by
          have h3 : nI 24 ≤ nI i := cz
          have h4 := (nI_leI (by decide) (by omega)).mp h3
          omega
        subst hi
        exact W.vret hx hb hr (fun t ht _ => ⟨⟨((fun k => match k with | 1 => q19 | 2 => q27 | 3 => q35 | 4 => q43 | 5 => q52 | 6 => q61 | 7 => q70 | 8 => q78 | 9 => q87 | 10 => q96 | 11 => q103 | 12 => q111 | 13 => q119 | 14 => q126 | _ => 0), fu, fw), rfl, ⟨hfu, hfl⟩, (by subst ht; exact hP), hD⟩, hS.F ht⟩) hS.2.2 dX4_init_173 hlocks
      · have hi : i < 24 := by
          rcases Nat.lt_or_ge i 24 with h3 | h3
          · exact h3
          · exact absurd (show nI 24 ≤ nI i from nI_le h3 (by omega)) cz
        refine lv_aload_n hx hb dX4_init_160 rfl (lv_at hl 0 rfl) ?_
        refine va_get (D := D) (ci := 4) (v := .ref q43) (C := RX4) (T := TX4) (N := 21) hx hb hts inlX4 hown hK hP 0 rfl rfl 8 (by decide) (hts _ wA_58) (fun _ h9 => h9) rfl dX4_init_161 ?_
        refine lv_iload_n hx hb dX4_init_164 rfl (lv_at hl 1 rfl) ?_
        refine lv_iconst (v := (-1)) hx hb dX4_init_165 (by decide) ?_
        refine va_iast hx hb hK hP hD hS 4 0 rfl rfl (vp_in_nI hi (by decide)) dX4_init_166 (fun H locs hP hD hS => ?_)
        rw [nI_clamp (by omega)] at hP hD
        refine lv_iinc (v := nI (i + 1)) (lv' := [(1, .int (nI (i + 1))), (0, .ref h0)]) hx hb dX4_init_167 hl (k := 1) rfl (nI_1 i) (by decide) rfl (fun ls hl => ?_)
        refine lv_goto (tgt := 154) hx hb dX4_init_170 (by decide) ?_
        exact ih (i + 1) (upd fw i (-1)) H locs ls (by omega) (by omega) (cu_m1 hfl) hP hD hS (lv_sub hl [1, 0] rfl)
  have K133 : ∀ (n i : Nat) (fu : Nat → Int32) (H : Heap) (locs : List Loc) (ls : Array Slot), i ≤ 12 → i + n = 12 + 1 → (∀ j, j < i → fu j = -1) → va_P D vwCl [(h0, .inr (4, [.int 0, .int 0, .int 8, .int 6, .int 0, .ref q19, .ref q27, .ref q35, .ref q43, .ref q52, .ref q61, .ref q70, .int 0, .ref q78, .ref q87, .ref q96, .int 0, .ref q103, .ref q111, .ref q119, .ref q126])), (q19, .inl (cA 1, 12, .inl fu)), (q27, .inl (cA 1, 12, .inl (fun _ => 0))), (q35, .inl (cA 2, 12, .inl (fun _ => 0))), (q43, .inl (cA 1, 24, .inl (fun _ => 0))), (q52, .inl (cA 2, 200, .inl (fun _ => 0))), (q61, .inl (cA 2, 200, .inl (fun _ => 0))), (q70, .inl (cA 1, 800, .inl (fun _ => 0))), (q78, .inl (cA 2, 10, .inl (fun _ => 0))), (q87, .inl (cA 1, 160, .inl (fun _ => 0))), (q96, .inl (cA 1, 160, .inl (fun _ => 0))), (q103, .inl (cA 1, 4, .inl (fun _ => 0))), (q111, .inl (cA 1, 24, .inl (fun _ => 0))), (q119, .inl (cA 1, 6, .inl (fun _ => 0))), (q126, .inl (cA 1, 4, .inl (fun _ => 0)))] H → va_D A [(h0, .inr (4, [.int 0, .int 0, .int 8, .int 6, .int 0, .ref q19, .ref q27, .ref q35, .ref q43, .ref q52, .ref q61, .ref q70, .int 0, .ref q78, .ref q87, .ref q96, .int 0, .ref q103, .ref q111, .ref q119, .ref q126])), (q19, .inl (cA 1, 12, .inl fu)), (q27, .inl (cA 1, 12, .inl (fun _ => 0))), (q35, .inl (cA 2, 12, .inl (fun _ => 0))), (q43, .inl (cA 1, 24, .inl (fun _ => 0))), (q52, .inl (cA 2, 200, .inl (fun _ => 0))), (q61, .inl (cA 2, 200, .inl (fun _ => 0))), (q70, .inl (cA 1, 800, .inl (fun _ => 0))), (q78, .inl (cA 2, 10, .inl (fun _ => 0))), (q87, .inl (cA 1, 160, .inl (fun _ => 0))), (q96, .inl (cA 1, 160, .inl (fun _ => 0))), (q103, .inl (cA 1, 4, .inl (fun _ => 0))), (q111, .inl (cA 1, 24, .inl (fun _ => 0))), (q119, .inl (cA 1, 6, .inl (fun _ => 0))), (q126, .inl (cA 1, 4, .inl (fun _ => 0)))] → va_S A s.heap H locs → lv_has ls 2 [(0, .ref h0), (1, .int (nI i))] → W p l e ({ frames := 1, cells := 14, slots := 1628, locals := 13 }) s m ([.ref h0] : List Value).toArray below meth c H locs 14 1628 (MQ below (va_Qv (S := (Nat → Nat) × (Nat → Int32) × (Nat → Int32)) (fun u => (∀ j, j < 12 → u.2.1 j = -1) ∧ ∀ j, j < 24 → u.2.2 j = -1) (fun u t => va_P D vwCl [(h0, .inr (4, [.int 0, .int 0, .int 8, .int 6, .int 0, .ref (u.1 1), .ref (u.1 2), .ref (u.1 3), .ref (u.1 4), .ref (u.1 5), .ref (u.1 6), .ref (u.1 7), .int 0, .ref (u.1 8), .ref (u.1 9), .ref (u.1 10), .int 0, .ref (u.1 11), .ref (u.1 12), .ref (u.1 13), .ref (u.1 14)])), (u.1 1, .inl (cA 1, 12, .inl u.2.1)), (u.1 2, .inl (cA 1, 12, .inl (fun _ => 0))), (u.1 3, .inl (cA 2, 12, .inl (fun _ => 0))), (u.1 4, .inl (cA 1, 24, .inl u.2.2)), (u.1 5, .inl (cA 2, 200, .inl (fun _ => 0))), (u.1 6, .inl (cA 2, 200, .inl (fun _ => 0))), (u.1 7, .inl (cA 1, 800, .inl (fun _ => 0))), (u.1 8, .inl (cA 2, 10, .inl (fun _ => 0))), (u.1 9, .inl (cA 1, 160, .inl (fun _ => 0))), (u.1 10, .inl (cA 1, 160, .inl (fun _ => 0))), (u.1 11, .inl (cA 1, 4, .inl (fun _ => 0))), (u.1 12, .inl (cA 1, 24, .inl (fun _ => 0))), (u.1 13, .inl (cA 1, 6, .inl (fun _ => 0))), (u.1 14, .inl (cA 1, 4, .inl (fun _ => 0)))] t.heap ∧ va_D A [(h0, .inr (4, [.int 0, .int 0, .int 8, .int 6, .int 0, .ref (u.1 1), .ref (u.1 2), .ref (u.1 3), .ref (u.1 4), .ref (u.1 5), .ref (u.1 6), .ref (u.1 7), .int 0, .ref (u.1 8), .ref (u.1 9), .ref (u.1 10), .int 0, .ref (u.1 11), .ref (u.1 12), .ref (u.1 13), .ref (u.1 14)])), (u.1 1, .inl (cA 1, 12, .inl u.2.1)), (u.1 2, .inl (cA 1, 12, .inl (fun _ => 0))), (u.1 3, .inl (cA 2, 12, .inl (fun _ => 0))), (u.1 4, .inl (cA 1, 24, .inl u.2.2)), (u.1 5, .inl (cA 2, 200, .inl (fun _ => 0))), (u.1 6, .inl (cA 2, 200, .inl (fun _ => 0))), (u.1 7, .inl (cA 1, 800, .inl (fun _ => 0))), (u.1 8, .inl (cA 2, 10, .inl (fun _ => 0))), (u.1 9, .inl (cA 1, 160, .inl (fun _ => 0))), (u.1 10, .inl (cA 1, 160, .inl (fun _ => 0))), (u.1 11, .inl (cA 1, 4, .inl (fun _ => 0))), (u.1 12, .inl (cA 1, 24, .inl (fun _ => 0))), (u.1 13, .inl (cA 1, 6, .inl (fun _ => 0))), (u.1 14, .inl (cA 1, 4, .inl (fun _ => 0)))]) A) ([.ref h0] : List Value).toArray s 14 1628 A) (F0 m 133 ls []) := by
    intro n
    induction n with
    | zero => intro i fu H locs ls h1 h2; omega
    | succ n ih =>
      intro i fu H locs ls h1 h2 hfl hP hD hS hl
      refine lv_iload_n hx hb dX4_init_133 rfl (lv_at hl 1 rfl) ?_
      refine lv_bipush (v := 12) hx hb dX4_init_134 (by decide) ?_
      refine lv_icmp_ge (tgt := 152) hx hb dX4_init_136 (by decide) (fun cz => ?_) (fun cz => ?_)
      · have hi : i = 12 := by
          have h3 : nI 12 ≤ nI i := cz
          have h4 := (nI_leI (by decide) (by omega)).mp h3
          omega
        subst hi
        refine lv_iconst (v := 0) hx hb dX4_init_152 (by decide) ?_
        refine lv_istore_n (lv' := [(1, .int 0), (0, .ref h0)]) hx hb dX4_init_153 rfl hl (by decide) rfl (fun ls hl => ?_)
        exact K154 fu hfl 25 0 (fun _ => 0) H locs ls (by decide) rfl (fun j hj => by omega) hP hD hS (lv_sub hl [1, 0] rfl)
      · have hi : i < 12 := by
          rcases Nat.lt_or_ge i 12 with h3 | h3
          · exact h3
          · exact absurd (show nI 12 ≤ nI i from nI_le h3 (by omega)) cz
        refine lv_aload_n hx hb dX4_init_139 rfl (lv_at hl 0 rfl) ?_
        refine va_get (D := D) (ci := 4) (v := .ref q19) (C := RX4) (T := TX4) (N := 21) hx hb hts inlX4 hown hK hP 0 rfl rfl 5 (by decide) (hts _ wA_55) (fun _ h9 => h9) rfl dX4_init_140 ?_
        refine lv_iload_n hx hb dX4_init_143 rfl (lv_at hl 1 rfl) ?_
        refine lv_iconst (v := (-1)) hx hb dX4_init_144 (by decide) ?_
        refine va_iast hx hb hK hP hD hS 1 0 rfl rfl (vp_in_nI hi (by decide)) dX4_init_145 (fun H locs hP hD hS => ?_)
        rw [nI_clamp (by omega)] at hP hD
        refine lv_iinc (v := nI (i + 1)) (lv' := [(1, .int (nI (i + 1))), (0, .ref h0)]) hx hb dX4_init_146 hl (k := 1) rfl (nI_1 i) (by decide) rfl (fun ls hl => ?_)
        refine lv_goto (tgt := 133) hx hb dX4_init_149 (by decide) ?_
        exact ih (i + 1) (upd fu i (-1)) H locs ls (by omega) (by omega) (cu_m1 hfl) hP hD hS (lv_sub hl [1, 0] rfl)
  refine lv_iconst (v := 0) hx hb dX4_init_131 (by decide) ?_
  refine lv_istore_n (lv' := [(1, .int 0), (0, .ref h0)]) hx hb dX4_init_132 rfl hl (by decide) rfl (fun ls hl => ?_)
  exact K133 13 0 (fun _ => 0) H locs ls (by decide) rfl (fun j hj => by omega) hP hD hS (lv_sub hl [1, 0] rfl)
