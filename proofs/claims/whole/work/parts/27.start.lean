/-! THE ENTRY OF THE LAW: what the Statement gives of the start, the two objects and 'out' -/
theorem va_P.lft {D : va_G} {cl : List vw_C} {a b : va_W} {H : Heap} (h : va_P D cl (a ++ b) H) : va_P D cl a H := fun k q hq => h k q (by rw [List.getElem?_append_left (List.getElem?_eq_some_iff.mp hq).1]; exact hq)
theorem va_P.rgt {D : va_G} {cl : List vw_C} {a b : va_W} {H : Heap} (h : va_P D cl (a ++ b) H) : va_P D cl b H := fun k q hq => h (a.length + k) q (by rw [List.getElem?_append_right (by omega), Nat.add_sub_cancel_left]; exact hq)
theorem va_D.lft {A : Nat → Prop} {a b : va_W} (h : va_D A (a ++ b)) : va_D A a :=
  ⟨fun i j p q hi hj e => h.1 i j p q (by rw [List.getElem?_append_left (List.getElem?_eq_some_iff.mp hi).1]; exact hi) (by rw [List.getElem?_append_left (List.getElem?_eq_some_iff.mp hj).1]; exact hj) e, fun k q hq => h.2 k q (by rw [List.getElem?_append_left (List.getElem?_eq_some_iff.mp hq).1]; exact hq)⟩
theorem va_D.rgt {A : Nat → Prop} {a b : va_W} (h : va_D A (a ++ b)) : va_D A b :=
  ⟨fun i j p q hi hj e => by
    have := h.1 (a.length + i) (a.length + j) p q (by rw [List.getElem?_append_right (by omega), Nat.add_sub_cancel_left]; exact hi) (by rw [List.getElem?_append_right (by omega), Nat.add_sub_cancel_left]; exact hj) e
    omega, fun k q hq => h.2 (a.length + k) q (by rw [List.getElem?_append_right (by omega), Nat.add_sub_cancel_left]; exact hq)⟩
theorem va_D.crs {A : Nat → Prop} {a b : va_W} (h : va_D A (a ++ b)) {i j : Nat} {p q : Nat × va_E} (hi : a[i]? = some p) (hj : b[j]? = some q) : p.1 ≠ q.1 := fun e => by
  have hl := (List.getElem?_eq_some_iff.mp hi).1
  have := h.1 i (a.length + j) p q (by rw [List.getElem?_append_left hl]; exact hi) (by rw [List.getElem?_append_right (by omega), Nat.add_sub_cancel_left]; exact hj) e
  omega
abbrev xblank : va_E := .inr (3, [.null, .null, .null, .null, .null, .null, .null, .int 0, .int 0, .int 0, .int 0])
abbrev mblank : va_E := .inr (4, [.int 0, .int 0, .int 0, .int 0, .int 0, .null, .null, .null, .null, .null, .null, .null, .int 0, .null, .null, .null, .int 0, .null, .null, .null, .null])
theorem sMi_wl {cA : Nat → ClassId} {q8 : Nat} (u : (Nat → Nat) × (Nat → Int32) × (Nat → Int32)) : pw_wl cA shM (fun k => if k = 0 then q8 else u.1 k) (sMi u.2.1 u.2.2) = [(q8, .inr (4, [.int 0, .int 0, .int 8, .int 6, .int 0, .ref (u.1 1), .ref (u.1 2), .ref (u.1 3), .ref (u.1 4), .ref (u.1 5), .ref (u.1 6), .ref (u.1 7), .int 0, .ref (u.1 8), .ref (u.1 9), .ref (u.1 10), .int 0, .ref (u.1 11), .ref (u.1 12), .ref (u.1 13), .ref (u.1 14)])), (u.1 1, .inl (cA 1, 12, .inl u.2.1)), (u.1 2, .inl (cA 1, 12, .inl (fun _ => 0))), (u.1 3, .inl (cA 2, 12, .inl (fun _ => 0))), (u.1 4, .inl (cA 1, 24, .inl u.2.2)), (u.1 5, .inl (cA 2, 200, .inl (fun _ => 0))), (u.1 6, .inl (cA 2, 200, .inl (fun _ => 0))), (u.1 7, .inl (cA 1, 800, .inl (fun _ => 0))), (u.1 8, .inl (cA 2, 10, .inl (fun _ => 0))), (u.1 9, .inl (cA 1, 160, .inl (fun _ => 0))), (u.1 10, .inl (cA 1, 160, .inl (fun _ => 0))), (u.1 11, .inl (cA 1, 4, .inl (fun _ => 0))), (u.1 12, .inl (cA 1, 24, .inl (fun _ => 0))), (u.1 13, .inl (cA 1, 6, .inl (fun _ => 0))), (u.1 14, .inl (cA 1, 4, .inl (fun _ => 0)))] := rfl
/-- what the Statement gives of the tables -/
theorem lw_known {p : Program} {s : State} {m : MethodId} {meth : Method} {c : Code} {b L : Nat} {xs : Nat → Int32} (C0 : lw_At p s m meth c b L xs) (hts : ∀ w ∈ wsL_law, w.before #[Value.ref b] s = true) : ∃ (D : va_G) (cA : Nat → ClassId), va_K D vwCl (pw_ty cA) s ∧ pw_X (fun q => s.heap.size ≤ q) s ∧ pl_N s ∧ va_AO RX0 s := by
  obtain ⟨hx, hb, hr, hml, hown, htb, hX, hbl, hlocks, hgv⟩ := C0
  have hs := flat_of_before _ hgv
  obtain ⟨c0, i0, k0⟩ := u_known (C := RX0) (T := TX0) (N := 7) (n := 7) hts inlX0 (hts _ wA_242)
  obtain ⟨c1, i1, k1⟩ := u_known (C := RX1) (T := TX1) (N := 5) (n := 5) hts inlX1 (hts (.instantiable RX1 5) (by decide +kernel))
  obtain ⟨c2, i2, k2⟩ := u_known (C := RX2) (T := TX2) (N := 1) (n := 1) hts inlX2 (hts (.instantiable RX2 1) (by decide +kernel))
  obtain ⟨c3, i3, k3⟩ := u_known (C := RX3) (T := TX3) (N := 11) (n := 11) hts inlX3 (hts _ wA_1)
  obtain ⟨c4, i4, k4⟩ := u_known (C := RX4) (T := TX4) (N := 21) (n := 21) hts inlX4 (hts _ wA_4)
  obtain ⟨a1, ka1, cm1, f1, g1, e1⟩ := Cond.arrayClass_spec (hts (.arrayClass .int) (by decide +kernel))
  obtain ⟨a2, ka2, cm2, f2, g2, e2⟩ := Cond.arrayClass_spec (hts (.arrayClass .boolean) (by decide +kernel))
  have hao : va_AO RX0 s := va_AO.of (htb (.arrayOver (.object RX0)) (by decide +kernel))
  obtain ⟨cm3, a3, ka3, d3, -, g3, e3, f3⟩ := Cond.arrayOver_spec hao
  refine ⟨(fun k => match k with | 0 => c0 | 1 => c1 | 2 => c2 | 3 => c3 | _ => c4, fun k => match k with | 0 => i0 | 1 => i1 | 2 => i2 | 3 => i3 | _ => i4), fun k => match k with | 1 => a1 | 2 => a2 | _ => a3, ⟨fun k q hq => ?_, fun k q hq => ?_⟩, ⟨?_, ?_, ?_, ?_, ?_⟩, ?_, hao⟩
  · match k, hq with
    | 0, hq => cases hq; exact k0
    | 1, hq => cases hq; exact k1
    | 2, hq => cases hq; exact k2
    | 3, hq => cases hq; exact k3
    | 4, hq => cases hq; exact k4
    | k + 5, hq => simp [vwCl] at hq
  · match k, hq with
    | 0, hq => cases hq; exact ⟨fun n z => ⟨fun k h => (by cases h), ka1, g1, cm1, e1⟩, f1⟩
    | 1, hq => cases hq; exact ⟨fun n z => ⟨fun k h => (by cases h), ka2, g2, cm2, e2⟩, f2⟩
    | 2, hq => cases hq; exact ⟨fun n z => ⟨fun k h => (by cases h), ka3, g3, cm3, e3⟩, ka3, cm3, g3, e3, d3, f3⟩
    | k + 3, hq => simp [pw_ty] at hq
  · exact vx_Zqof (htb (.laysStatic Bundle.tN "UNASSIGNED_STACK" Bundle.steD) (by decide +kernel)) (htb (.initialized Bundle.tN) (by decide +kernel)) (hs (.isRef (.static Bundle.tN "UNASSIGNED_STACK" Bundle.steD)) (by decide +kernel)) (fun a h => Nat.not_le.mpr h)
  · exact vx_Zqof (htb (.laysStatic Bundle.tN "SUPPRESSED_SENTINEL" Bundle.listD) (by decide +kernel)) (htb (.initialized Bundle.tN) (by decide +kernel)) (hs (.isRef (.static Bundle.tN "SUPPRESSED_SENTINEL" Bundle.listD)) (by decide +kernel)) (fun a h => Nat.not_le.mpr h)
  · have key : ∀ q ∈ pw_str, Cond.stringRef RX3 q.1 q.2 ∈ lw_tbl ∧ Cond.exactly (.string RX3 q.1) "java/lang/String" ∈ flatC (Jvm.Cond.and given_1 narrow_1) := by decide +kernel
    intro q hq
    obtain ⟨m1, m2⟩ := key q hq
    obtain ⟨a, c9, cA9, kA9, q1, -⟩ := Cond.exactly_spec (args := #[Value.ref b]) (first := s) (o := none) (s := s) (idx := []) (t := .string RX3 q.1) (cls := "java/lang/String") (hs _ m2)
    exact ⟨a, vk_R.of (htb _ m1) q1⟩
  · have key : ∀ X ∈ [pw_iaX, pw_isX, pw_ioX, pw_neX], Cond.castable X X ∈ lw_tbl := by decide +kernel
    intro X hX
    exact va_Nw.of rfl (htb _ (key X hX))
  · have key : ∀ Y ∈ pw_decl, Cond.declares (Bundle.initS Y) ∈ lw_tbl := by decide +kernel
    intro Y hY
    exact va_Nw.of rfl (htb _ (key Y hY))
  · have key : ∀ q ∈ pl_pairs, Cond.not (.castable q.1 q.2) ∈ flatC (Jvm.Cond.and given_1 narrow_1) := by decide +kernel
    intro q hq
    exact va_Nc.of (hs _ (key q hq))
