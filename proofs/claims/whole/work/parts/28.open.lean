/-! WHOLE_START, over lawOps and the first state -/
set_option maxHeartbeats 16000000 in
set_option maxRecDepth 100000 in
theorem whole_open {p : Program} {e : Env} {s : State} {m : MethodId} {below : List Frame} {meth : Method} {c : Code} (l : Launch) (hlt : l.stackTraces = false) {b L : Nat} {xs : Nat → Int32} (hL : L ≤ 2560) (C0 : lw_At p s m meth c b L xs) (hts : ∀ w ∈ wsL_law, w.before #[Value.ref b] s = true) (RR : pw_S → pw_S → Prop) (hops : lawOps RR) (hfirst : ∀ fu fv fw : Nat → Int32, (∀ j, j < 12 → fu j = -1) → (∀ j, j < 12 → fv j = -1) → (∀ j, j < 24 → fw j = -1) → RR (sPi fu) (sMi fv fw)) :
    W p l e room_1 s m #[Value.ref b] below meth c s.heap [] 0 0 (lw_Z below #[Value.ref b] s) (entryFrame m ([Value.ref b] : List Value).toArray 9) := by
  obtain ⟨D, cA, hK, hXX, hN, hAO⟩ := lw_known C0 hts
  obtain ⟨hx, hb, hr, hml, hown0, htb, hX, hbl, hlocks, hgv⟩ := id C0
  have hown : s.vm.findClass RL = some m.cls := hown0
  have hd0 := Drawn.sameBut.refl s.drawn lw_cs
  have hA : ∀ q : Nat, s.heap.size ≤ q → (fun q : Nat => s.heap.size ≤ q) q := fun _ h => h
  have hS : va_S (fun q : Nat => s.heap.size ≤ q) s.heap s.heap [] := va_S.rf
  have hP : va_P D vwCl [] s.heap := fun k q h => by simp at h
  have hD : va_D (fun q : Nat => s.heap.size ≤ q) [] := ⟨fun i j p q h => by simp at h, fun k q h => by simp at h⟩
  have hl := lv_entry ([.ref b]) (n := 9) (Nat.le_of_ble_eq_true rfl)
  rw [lg_entry_eq]
  generalize (lg_sl ([.ref b]) ++ List.replicate (9 - (lg_sl ([.ref b])).length) Slot.unset).toArray = ls at hl ⊢
  have hl : lv_has ls 9 [(0, .ref b)] := hl
  refine va_new (ci := 3) (fs := [.null, .null, .null, .null, .null, .null, .null, .int 0, .int 0, .int 0, .int 0]) (C := RX3) (T := TX3) (N := 11) hx hb hts inlX3 tyX3 tyX3_ok hown (hts _ wA_0) (hts _ wA_1) (hts _ wA_2) hK hP hD hS hA rfl (fun j hj => by rcases (show j = 0 ∨ j = 1 ∨ j = 2 ∨ j = 3 ∨ j = 4 ∨ j = 5 ∨ j = 6 ∨ j = 7 ∨ j = 8 ∨ j = 9 ∨ j = 10 by omega) with rfl | rfl | rfl | rfl | rfl | rfl | rfl | rfl | rfl | rfl | rfl <;> rfl) (Nat.le_of_ble_eq_true rfl) (Nat.le_of_ble_eq_true rfl) dL_law_0 (fun q0 H hP hD hS => ?_)
  have hP : va_P D vwCl [(q0, xblank)] H := hP
  have hD : va_D (fun q : Nat => s.heap.size ≤ q) [(q0, xblank)] := hD
  refine lv_dup hx hb dL_law_3 rfl ?_
  have hz0 : s.heap.size ≤ H.size := hS.1
  have hFc := va_free (wc := [(q0, xblank)]) hD hS hA [0] rfl
  refine va_callv (va_runI (As := []) (rest := [.ref q0]) (bytes := cX3_init) (maxL := 1) ⟨hx, hb, hml, hown, hts⟩ (kX3_init l D cA q0 H.size) ⟨wa_B hts ykX3_init wA_7 ⟨rfl, rfl, Nat.le_of_ble_eq_true rfl, Nat.le_of_ble_eq_true rfl⟩, rfl, hts _ wA_8⟩ ⟨fun a U g mk h => (by obtain ⟨g0, g1, g2, g3, g4, g5⟩ := h; exact ⟨g0, g1, g2, va_K.moved (u := U) (U := U.calling g mk a) (Vm.Alike.refl U.vm) g3, g4, va_AO.moved (u := U) (U := U.calling g mk a) (Vm.Alike.refl U.vm) g5⟩), fun U hU hW => ⟨rfl, (by rw [hU]), (by rw [hU]; exact hP), va_K.moved hW.alike hK, hD.weaken (fun _ _ _ _ => trivial), va_AO.moved hW.alike hAO⟩⟩ rfl rfl hl.1 rfl (lv_room (Nat.le_of_ble_eq_true rfl)) dL_law_4 ⟨Nat.le_of_ble_eq_true rfl, Nat.le_of_ble_eq_true rfl⟩) hS (fun q _ h => hFc q h) hFc (fun u t H1 locs ht hvm hw hB hz1 hk1 hS => ?_)
  obtain ⟨ad, fu⟩ := u
  obtain ⟨had, hfu⟩ := hw
  subst ht
  have had : ad 0 = q0 := had
  have hG1 : pw_G D cA shP 12 (fun q : Nat => s.heap.size ≤ q) ad (sPi fu) t.heap := pw_G.weaken (A := va_A [(q0, xblank)] H.size) hB (fun k hk => hFc _ (hB.2.2.1 k hk))
  refine lv_astore_n (lv' := [(1, .ref q0), (0, .ref b)]) hx hb dL_law_7 rfl hl (by decide) rfl (fun ls hl => ?_)
  refine va_new (ci := 4) (fs := [.int 0, .int 0, .int 0, .int 0, .int 0, .null, .null, .null, .null, .null, .null, .null, .int 0, .null, .null, .null, .int 0, .null, .null, .null, .null]) (C := RX4) (T := TX4) (N := 21) hx hb hts inlX4 tyX4 tyX4_ok hown (hts _ wA_3) (hts _ wA_4) (hts _ wA_5) hK hG1.wP hG1.wD hS hA rfl (fun j hj => by rcases (show j = 0 ∨ j = 1 ∨ j = 2 ∨ j = 3 ∨ j = 4 ∨ j = 5 ∨ j = 6 ∨ j = 7 ∨ j = 8 ∨ j = 9 ∨ j = 10 ∨ j = 11 ∨ j = 12 ∨ j = 13 ∨ j = 14 ∨ j = 15 ∨ j = 16 ∨ j = 17 ∨ j = 18 ∨ j = 19 ∨ j = 20 by omega) with rfl | rfl | rfl | rfl | rfl | rfl | rfl | rfl | rfl | rfl | rfl | rfl | rfl | rfl | rfl | rfl | rfl | rfl | rfl | rfl | rfl <;> rfl) (Nat.le_of_ble_eq_true rfl) (Nat.le_of_ble_eq_true rfl) dL_law_8 (fun q8 H hP hD hS => ?_)
  have hP : va_P D vwCl (pw_wl cA shP ad (sPi fu) ++ [(q8, mblank)]) H := hP
  have hD : va_D (fun q : Nat => s.heap.size ≤ q) (pw_wl cA shP ad (sPi fu) ++ [(q8, mblank)]) := hD
  refine lv_dup hx hb dL_law_11 rfl ?_
  have hFc2 := va_free (wc := [(q8, mblank)]) hD hS hA [12] rfl
  have hPc : va_P D vwCl [(q8, mblank)] H := hP.rgt
  have hDc : va_D (fun q : Nat => s.heap.size ≤ q) [(q8, mblank)] := hD.rgt
  refine va_callv (va_runI (As := []) (rest := [.ref q8]) (bytes := cX4_init) (maxL := 2) ⟨hx, hb, hml, hown, hts⟩ (kX4_init l D cA q8 H.size) ⟨wa_B hts ykX4_init wA_49 ⟨rfl, rfl, Nat.le_of_ble_eq_true rfl, Nat.le_of_ble_eq_true rfl⟩, rfl, hts _ wA_50⟩ ⟨fun a U g mk h => (by obtain ⟨g0, g1, g2, g3, g4⟩ := h; exact ⟨g0, g1, g2, va_K.moved (u := U) (U := U.calling g mk a) (Vm.Alike.refl U.vm) g3, g4⟩), fun U hU hW => ⟨rfl, (by rw [hU]), (by rw [hU]; exact hPc), va_K.moved hW.alike hK, hDc.weaken (fun _ _ _ _ => trivial)⟩⟩ rfl rfl hl.1 rfl (lv_room (Nat.le_of_ble_eq_true rfl)) dL_law_12 ⟨Nat.le_of_ble_eq_true rfl, Nat.le_of_ble_eq_true rfl⟩) hS (fun q _ h => hFc2 q h) hFc2 (fun u t2 H1 locs ht hvm hw hB hz1 hk1 hS => ?_)
  obtain ⟨hfv, hfw⟩ := hw
  obtain ⟨hP1, hD1⟩ := hB
  subst ht
  rw [← sMi_wl u] at hP1 hD1
  obtain ⟨hP, hD⟩ := va_join (wr := pw_wl cA shP ad (sPi fu)) (w1 := pw_wl cA shM (fun k => if k = 0 then q8 else u.1 k) (sMi u.2.1 u.2.2)) hP hD [12] (List.range 12) rfl rfl (by decide) (by decide) hk1 hFc2 hP1 hD1
  obtain ⟨adm, hadm⟩ : ∃ adm, adm = (fun k => if k = 0 then q8 else u.1 k) := ⟨_, rfl⟩
  rw [← hadm] at hP hD
  have had2 : adm 0 = q8 := by rw [hadm]; rfl
  refine lv_astore_n (lv' := [(2, .ref q8), (1, .ref q0), (0, .ref b)]) hx hb dL_law_15 rfl hl (by decide) rfl (fun ls hl => ?_)
  refine lv_iconst (v := 1) hx hb dL_law_16 (by decide) ?_
  refine va_newa (atype := .long) (ty := .long) (a0 := (1, .inr (.inl (fun _ => 0)))) hx hb (hts _ wA_6) rfl hK hP hD hS hA (fun _ => rfl) (by decide) rfl (Nat.le_of_ble_eq_true rfl) (Nat.le_of_ble_eq_true rfl) (Nat.le_of_ble_eq_true rfl) dL_law_17 (fun ob cL H hK2 hP hD hS => ?_)
  have har : ArrOfT s cL .long := (hK2.2 3 _ rfl).1
  refine lv_astore_n (lv' := [(3, .ref ob), (2, .ref q8), (1, .ref q0), (0, .ref b)]) hx hb dL_law_19 rfl hl (by decide) rfl (fun ls hl => ?_)
  refine lv_iconst (v := 0) hx hb dL_law_20 (by decide) ?_
  refine lv_istore (lv' := [(4, .int 0), (3, .ref ob), (2, .ref q8), (1, .ref q0), (0, .ref b)]) hx hb dL_law_21 hl (by decide) rfl (fun ls hl => ?_)
  have hGp : pw_G D cA shP 12 (fun q : Nat => s.heap.size ≤ q) ad (sPi fu) H := pw_G.of hP.lft.lft hD.lft.lft (Nat.le_refl 12)
  have hGm : pw_G D cA shM 15 (fun q : Nat => s.heap.size ≤ q) adm (sMi u.2.1 u.2.2) H := pw_G.of hP.lft.rgt hD.lft.rgt (Nat.le_refl 15)
  have hI : lw_I D cA cL s.heap.size ad adm (sPi fu) (sMi u.2.1 u.2.2) ob 0 H := by
    refine ⟨hGp, hGm, ⟨fun _ => 0, hP.rgt 0 _ rfl, rfl⟩, hD.rgt.2 0 _ rfl, fun k k' hk hk' => hD.lft.crs (pw_wl_at hk) (pw_wl_at hk'), fun k hk => ?_, fun k hk => ?_⟩
    · exact hD.crs (j := 0) (q := (ob, .inl (cL, (1, .inr (.inl (fun _ => 0)))))) (by rw [List.getElem?_append_left (by rw [pw_wl_len]; exact hk)]; exact pw_wl_at hk) rfl
    · exact hD.crs (i := 12 + k) (j := 0) (q := (ob, .inl (cL, (1, .inr (.inl (fun _ => 0)))))) (by rw [List.getElem?_append_right (by rw [pw_wl_len]; show 12 ≤ 12 + k; omega), pw_wl_len]; show (pw_wl cA shM adm (sMi u.2.1 u.2.2))[12 + k - 12]? = _; rw [Nat.add_sub_cancel_left]; exact pw_wl_at hk) rfl
  refine W.base ?_
  refine W.widen (k := 28 + 14 * 0) (n := 1931 + 77 * 0) (by omega) (by omega) ?_
  have hl : lv_has ls 9 (lw_lv b ob (5 * 0) ad adm) := by
    have hl := lv_sub hl [4, 3, 2, 1, 0] rfl
    rw [← had, ← had2] at hl
    exact hl
  exact law_loop ⟨⟨hx, hb, hml, hown, hts⟩, hX, hbl, hK, hXX, hN, har, hL⟩ hlt hr hlocks hops 28 1931 (by decide) (by decide) (L + 1) 0 (Nat.zero_le _) (by omega) s.drawn hd0 H locs ls ad adm (sPi fu) (sMi u.2.1 u.2.2) ob 0 (hfirst _ _ _ hfu hfv hfw) hI hS hl
