/-! NEW CONTENTS: the world as a list, a Content that is made, and the copy of a page's words -/
def pw_wl (cA : Nat → ClassId) (sh : Nat → pw_Sh) (ad : Nat → Nat) (σ : pw_S) : va_W := (List.range (gN σ)).map (fun k => (ad k, pw_e cA ad σ k (sh k)))
theorem pw_wl_len {cA : Nat → ClassId} {sh : Nat → pw_Sh} {ad : Nat → Nat} {σ : pw_S} : (pw_wl cA sh ad σ).length = gN σ := by simp [pw_wl]
theorem pw_wl_at {cA : Nat → ClassId} {sh : Nat → pw_Sh} {ad : Nat → Nat} {σ : pw_S} {k : Nat} (h : k < gN σ) : (pw_wl cA sh ad σ)[k]? = some (ad k, pw_e cA ad σ k (sh k)) := by simp [pw_wl, h]
theorem pw_wl_out {cA : Nat → ClassId} {sh : Nat → pw_Sh} {ad : Nat → Nat} {σ : pw_S} {k : Nat} {q : Nat × va_E} (h : (pw_wl cA sh ad σ)[k]? = some q) : k < gN σ ∧ q = (ad k, pw_e cA ad σ k (sh k)) := by
  have h1 : k < gN σ := by
    have := (List.getElem?_eq_some_iff.mp h).1
    rwa [pw_wl_len] at this
  rw [pw_wl_at h1] at h
  exact ⟨h1, (Option.some.inj h).symm⟩
section PWL
variable {D : va_G} {cA : Nat → ClassId} {sh : Nat → pw_Sh} {n0 : Nat} {A : Nat → Prop} {ad : Nat → Nat} {σ : pw_S} {H : Heap}
theorem pw_G.wP (hG : pw_G D cA sh n0 A ad σ H) : va_P D vwCl (pw_wl cA sh ad σ) H := by
  intro k q hq
  obtain ⟨h1, rfl⟩ := pw_wl_out hq
  exact hG.1 k h1
theorem pw_G.wD (hG : pw_G D cA sh n0 A ad σ H) : va_D A (pw_wl cA sh ad σ) := by
  refine ⟨fun i j x y hi hj hxy => ?_, fun k q hq => ?_⟩
  · obtain ⟨h1, rfl⟩ := pw_wl_out hi
    obtain ⟨h2, rfl⟩ := pw_wl_out hj
    exact hG.2.1 i j h1 h2 hxy
  · obtain ⟨h1, rfl⟩ := pw_wl_out hq
    exact hG.2.2.1 k h1
theorem pw_G.of (hP : va_P D vwCl (pw_wl cA sh ad σ) H) (hD : va_D A (pw_wl cA sh ad σ)) (hn : n0 ≤ gN σ) : pw_G D cA sh n0 A ad σ H :=
  ⟨fun k hk => hP k _ (pw_wl_at hk), fun k k' hk hk' he => hD.1 k k' _ _ (pw_wl_at hk) (pw_wl_at hk') he, fun k hk => hD.2 k _ (pw_wl_at hk), hn⟩
end PWL
def newC (σ : pw_S) (sp : Int32) : pw_S := (σ.1 + 2, fun a b => if a = σ.1 then (if b = 1 then (if sp = -1 then 0 else 1) else if b = 2 then sp else if b = 3 ∨ b = 4 then -1 else 0) else if a = σ.1 + 1 then 0 else σ.2.1 a b, fun a b => if a = σ.1 ∨ a = σ.1 + 1 then none else σ.2.2 a b)
def adC (ad : Nat → Nat) (N q q1 : Nat) : Nat → Nat := fun k => if k = N then q else if k = N + 1 then q1 else ad k
noncomputable def cnew (σ : pw_S) : Bool := @decide (12 ≤ gN σ ∧ gN σ % 2 = 0 ∧ ∀ k j q, gr σ k j = some q → q < gN σ) (Classical.propDecidable _)
theorem cnew_of {σ : pw_S} (h : cnew σ = true) : 12 ≤ gN σ ∧ gN σ % 2 = 0 ∧ ∀ k j q, gr σ k j = some q → q < gN σ := by
  unfold cnew at h
  exact @of_decide_eq_true _ (Classical.propDecidable _) h
theorem cnew_to {σ : pw_S} (h : 12 ≤ gN σ ∧ gN σ % 2 = 0 ∧ ∀ k j q, gr σ k j = some q → q < gN σ) : cnew σ = true := by
  unfold cnew
  exact @decide_eq_true _ (Classical.propDecidable _) h
theorem shP_lk {k : Nat} (hk : k < 12) : ∀ j, (shP k).2.2.2 j ≤ 12 := by
  intro j
  match k, hk with
  | 0, _ => show (match j with | 0 => 2 | 1 => 3 | 2 => 4 | 3 => 5 | 4 => 9 | 5 => 11 | 6 => 12 | _ => 0) ≤ 12; split <;> decide
  | 1, _ => exact Nat.zero_le _
  | 2, _ => exact Nat.zero_le _
  | 3, _ => exact Nat.zero_le _
  | 4, _ => show (match j with | 0 => 6 | 1 => 7 | 2 => 8 | _ => 0) ≤ 12; split <;> decide
  | 5, _ => exact Nat.zero_le _
  | 6, _ => exact Nat.zero_le _
  | 7, _ => exact Nat.zero_le _
  | 8, _ => show (match j with | 0 => 10 | _ => 0) ≤ 12; split <;> decide
  | 9, _ => exact Nat.zero_le _
  | 10, _ => exact Nat.zero_le _
  | 11, _ => exact Nat.zero_le _
theorem shP_lkN {k N : Nat} (hk : k < N) (h12 : 12 ≤ N) (hev : N % 2 = 0) (j : Nat) (h0 : (shP k).2.2.2 j ≠ 0) : (shP k).2.2.2 j - 1 < N := by
  by_cases h : k < 12
  · have := shP_lk h j
    omega
  · obtain ⟨i, rfl⟩ : ∃ i, k = i + 12 := ⟨k - 12, by omega⟩
    rw [shP_hi] at h0 ⊢
    by_cases h2 : (i + 12) % 2 = 0
    · rw [if_pos h2] at h0 ⊢
      dsimp only at h0 ⊢
      by_cases hj : j = 0
      · rw [if_pos hj]
        omega
      · rw [if_neg hj] at h0
        exact absurd rfl h0
    · rw [if_neg h2] at h0
      exact absurd rfl h0
theorem newC_e {cA : Nat → ClassId} {ad : Nat → Nat} {σ : pw_S} {sp : Int32} {q q1 k : Nat} (hc : cnew σ = true) (hk : k < gN σ) : pw_e cA (adC ad (gN σ) q q1) (newC σ sp) k (shP k) = pw_e cA ad σ k (shP k) := by
  obtain ⟨h12, hev, hr⟩ := cnew_of hc
  have hk0 : k ≠ σ.1 := Nat.ne_of_lt hk
  have hk1 : k ≠ σ.1 + 1 := by have : k < σ.1 := hk; omega
  have e1 : ∀ j, gi (newC σ sp) k j = gi σ k j := fun j => by simp only [gi, newC, if_neg hk0, if_neg hk1]
  have e2 : ∀ j, gr (newC σ sp) k j = gr σ k j := fun j => by simp only [gr, newC, if_neg (show ¬ (k = σ.1 ∨ k = σ.1 + 1) by omega)]
  have e3 : ∀ z, z < gN σ → adC ad (gN σ) q q1 z = ad z := fun z hz => by
    unfold adC
    rw [if_neg (Nat.ne_of_lt hz), if_neg (by omega)]
  have e4 : ∀ j, (gr σ k j).map (adC ad (gN σ) q q1) = (gr σ k j).map ad := fun j => by
    cases hg : gr σ k j with
    | none => rfl
    | some z => show some _ = some _; rw [e3 z (hr k j z hg)]
  unfold pw_e
  split
  · congr 2
    unfold pw_fs
    apply List.map_congr_left
    intro j hj
    by_cases h0 : (shP k).2.2.2 j = 0
    · rw [if_pos h0, if_pos h0, e1]
    · rw [if_neg h0, if_neg h0, e3 _ (shP_lkN hk h12 hev j h0)]
  · split
    · simp only [e2, e4]
    · simp only [e1]
theorem newC_a {σ : pw_S} {sp : Int32} {j : Nat} : gi (newC σ sp) (gN σ) j = if j = 1 then (if sp = -1 then 0 else 1) else if j = 2 then sp else if j = 3 ∨ j = 4 then -1 else 0 := by
  unfold gi newC gN
  simp only [if_true]
theorem newC_b {σ : pw_S} {sp : Int32} {j : Nat} : gi (newC σ sp) (gN σ + 1) j = 0 := by
  unfold gi newC gN
  have : ¬ σ.1 + 1 = σ.1 := by omega
  simp only [if_neg this, if_true]
abbrev cblank : va_E := .inr (0, [.null, .int 0, .int 0, .int 0, .int 0, .int 0, .int 0])
abbrev cfull (a1 : Int32) (q1 : Nat) : va_E := .inr (0, [.ref q1, .int (if a1 = -1 then 0 else 1), .int a1, .int (-1), .int (-1), .int 0, .int 0])
abbrev cwords (cA : Nat → ClassId) : va_E := .inl (cA 1, 4, .inl (fun _ => 0))
theorem newC_wl {cA : Nat → ClassId} {ad : Nat → Nat} {σ : pw_S} {sp : Int32} {q q1 : Nat} (hc : cnew σ = true) : pw_wl cA shP (adC ad (gN σ) q q1) (newC σ sp) = pw_wl cA shP ad σ ++ [(q, cfull sp q1), (q1, cwords cA)] := by
  obtain ⟨h12, hev, hr⟩ := cnew_of hc
  have hN : gN (newC σ sp) = gN σ + 1 + 1 := rfl
  have s1 : shP (gN σ) = (0, 0, 7, fun j => if j = 0 then gN σ + 2 else 0) := by
    obtain ⟨i, hi⟩ : ∃ i, gN σ = i + 12 := ⟨gN σ - 12, by omega⟩
    rw [hi, shP_hi, if_pos (by omega)]
  have s2 : shP (gN σ + 1) = (1, 0, 4, lk0) := by
    obtain ⟨i, hi⟩ : ∃ i, gN σ = i + 12 := ⟨gN σ - 12, by omega⟩
    rw [hi, show i + 12 + 1 = (i + 1) + 12 by omega, shP_hi, if_neg (by omega)]
  unfold pw_wl
  rw [hN, List.range_succ, List.range_succ, List.map_append, List.map_append, List.append_assoc]
  congr 1
  · apply List.map_congr_left
    intro k hk
    have hk := List.mem_range.mp hk
    rw [newC_e hc hk]
    congr 1
    unfold adC
    rw [if_neg (Nat.ne_of_lt hk), if_neg (by omega)]
  · show [(_, _), (_, _)] = _
    rw [s1, s2]
    have a0 : adC ad (gN σ) q q1 (gN σ) = q := by unfold adC; rw [if_pos rfl]
    have a1 : adC ad (gN σ) q q1 (gN σ + 1) = q1 := by unfold adC; rw [if_neg (by omega), if_pos rfl]
    have b1 : ∀ j, gi (newC σ sp) (gN σ) j = if j = 1 then (if sp = -1 then 0 else 1) else if j = 2 then sp else if j = 3 ∨ j = 4 then -1 else 0 := fun j => newC_a
    have b2 : ∀ j, gi (newC σ sp) (gN σ + 1) j = 0 := fun j => newC_b
    congr 1
    · congr 1
      show Sum.inr (0, pw_fs _ _ _ 7 _) = _
      unfold pw_fs
      simp only [b1]
      show Sum.inr (0, [_, _, _, _, _, _, _]) = _
      simp [a1]
    · congr 2
      show Sum.inl (cA 1, 4, Sum.inl _) = _
      simp only [b2]
theorem va_nd_range (n : Nat) : va_nd (List.range n) = true := by
  have key : ∀ l : List Nat, l.Nodup → va_nd l = true := by
    intro l
    induction l with
    | nil => intro _; rfl
    | cons a l ih =>
      intro h
      obtain ⟨h1, h2⟩ := List.nodup_cons.mp h
      simp only [va_nd, Bool.and_eq_true, decide_eq_true_eq]
      exact ⟨h1, ih h2⟩
  exact key _ List.nodup_range
theorem z0_cl : (0 : Int32).toNatClampNeg = 0 := by decide +kernel
theorem z4_cl : (4 : Int32).toNatClampNeg = 4 := by decide +kernel
def cpW (σ : pw_S) (o c : Nat) : pw_S := (σ.1, fun a b => if a = c + 1 ∧ b < 4 then σ.2.1 (o + 1) b else σ.2.1 a b, σ.2.2)
theorem okc_nc {σ σ1 : pw_S} {q : Nat} {v : Int32} (e : σ1 = newC σ v) (h : okc σ q = true) : okc σ1 q = true := by
  subst e
  have := of_decide_eq_true h
  exact decide_eq_true ⟨this.1, this.2.1, by show q + 1 < gN σ + 2; omega⟩
theorem okc_cp {σ σ1 : pw_S} {q o c : Nat} (e : σ1 = cpW σ o c) (h : okc σ q = true) : okc σ1 q = true := by subst e; exact h
theorem okc_new {σ σ1 : pw_S} {q : Nat} {v : Int32} (hc : cnew σ = true) (eq : q = gN σ) (e : σ1 = newC σ v) : okc σ1 q = true := by
  subst e
  subst eq
  obtain ⟨h1, h2, -⟩ := cnew_of hc
  exact decide_eq_true ⟨h1, h2, by show gN σ + 1 < gN σ + 2; omega⟩
def leN (σ σ' : pw_S) : Bool := decide (gN σ ≤ gN σ')
theorem leN_le {σ σ' : pw_S} (h : leN σ σ' = true) : gN σ ≤ gN σ' := of_decide_eq_true h
abbrev pa_Qi (D : va_G) (cA : Nat → ClassId) (sh : Nat → pw_Sh) (n0 : Nat) (A : Nat → Prop) (ad : Nat → Nat) (N0 : Nat) (r : Int32 ⊕ String) (σ : pw_S) := va_Qi (S := Nat → Nat) (fun r' ad1 => r = .inl r' ∧ ∀ k, k < N0 → ad1 k = ad k) (fun ad1 t => pw_G D cA sh n0 A ad1 σ t.heap) A
abbrev pa_Qk (D : va_G) (cA : Nat → ClassId) (sh : Nat → pw_Sh) (n0 : Nat) (A : Nat → Prop) (ad : Nat → Nat) (N0 : Nat) (q : Nat) (σ : pw_S) := va_Qr (S := Nat → Nat) (fun ad1 => ∀ k, k < N0 → ad1 k = ad k) (fun ad1 a t => a = ad1 q ∧ pw_G D cA sh n0 A ad1 σ t.heap) A
section PWN
variable {p : Program} {l : Launch} {e : Env} {R : Room} {s : State} {m : MethodId} {args : Array Value} {below : List Frame} {meth : Method} {c : Code} {H : Heap} {locs : List Loc} {cells slots : Nat} {Q : State → Prop}
variable {cc : ByteArray} {pc nL mc ms : Nat} {ls : Array Slot} {rest st0 : List Value} {D : va_G} {cA : Nat → ClassId} {A : Nat → Prop} {ad ad0 : Nat → Nat} {σ σ' : pw_S} {own : String} {N0 : Nat}
theorem mw_newC (hC : CallFix p m c cc nL s args wsL_law RX3) (hK : va_K D vwCl (pw_ty cA) s) (hA : ∀ q : Nat, s.heap.size ≤ q → A q) (hG : pw_G D cA shP 12 A ad σ H) (hS : va_S A s.heap H locs) (hcells : cells + 1 ≤ R.cells) (hslots : slots + 7 ≤ R.slots) (hdg : decode cc pc = .ok (.new 9, 3))
    (kk : ∀ (q : Nat) (H1 : Heap), va_P D vwCl (pw_wl cA shP ad σ ++ [(q, cblank)]) H1 → va_D A (pw_wl cA shP ad σ ++ [(q, cblank)]) → va_S A s.heap H1 locs → W p l e R s m args below meth c H1 locs (cells + 1) (slots + 7) Q (F0 m (pc + 3) ls (.ref q :: rest))) : W p l e R s m args below meth c H locs cells slots Q (F0 m pc ls rest) := by
  obtain ⟨hx, hb, hml, hown, hts⟩ := hC
  exact va_new (ci := 0) (C := RX0) (T := TX0) (N := 7) hx hb hts inlX0 tyX0 tyX0_ok hown (hts _ (by decide +kernel)) (hts _ (by decide +kernel)) (hts _ (by decide +kernel)) hK hG.wP hG.wD hS hA rfl (fun j hj => by rcases (show j = 0 ∨ j = 1 ∨ j = 2 ∨ j = 3 ∨ j = 4 ∨ j = 5 ∨ j = 6 by omega) with rfl | rfl | rfl | rfl | rfl | rfl | rfl <;> rfl) hcells hslots hdg kk
theorem mw_initC (hC : CallFix p m c cc nL s args wsL_law RX3) (hK : va_K D vwCl (pw_ty cA) s) (hA : ∀ q : Nat, s.heap.size ≤ q → A q) {q : Nat} (hP : va_P D vwCl (pw_wl cA shP ad σ ++ [(q, cblank)]) H) (hD : va_D A (pw_wl cA shP ad σ ++ [(q, cblank)])) (hS : va_S A s.heap H locs) (hc : cnew σ = true) {sp : Int32} (hsz : ls.size = nL) (hRf : 2 ≤ R.frames) (hRl : 34 ≤ R.locals) (hRc : cells + 1 ≤ R.cells) (hRs : slots + 4 ≤ R.slots) (hW : (rest.map fun v => v.category).sum ≤ 8) (hdg : decode cc pc = .ok (.invokespecial 112, 3))
    (kk : ∀ (ad1 : Nat → Nat) (H1 : Heap) (locs1 : List Loc), (∀ k, k < gN σ → ad1 k = ad k) → ad1 (gN σ) = q → pw_G D cA shP 12 A ad1 (newC σ sp) H1 → va_S A s.heap H1 locs1 → W p l e R s m args below meth c H1 locs1 (cells + 1) (slots + 4) Q (F0 m (pc + 3) ls rest)) : W p l e R s m args below meth c H locs cells slots Q (F0 m pc ls (.int sp :: .ref q :: rest)) := by
  have hat : (pw_wl cA shP ad σ ++ [(q, cblank)])[gN σ]? = some (q, cblank) := by
    rw [List.getElem?_append_right (by rw [pw_wl_len]; exact Nat.le_refl _), pw_wl_len, Nat.sub_self]
    rfl
  have hC1 : [gN σ].map (fun i => (pw_wl cA shP ad σ ++ [(q, cblank)])[i]?) = [(q, cblank)].map some := by
    show [(pw_wl cA shP ad σ ++ [(q, cblank)])[gN σ]?] = [some (q, cblank)]
    rw [hat]
  have hR1 : (List.range (gN σ)).map (fun i => (pw_wl cA shP ad σ ++ [(q, cblank)])[i]?) = (pw_wl cA shP ad σ).map some := by
    apply List.ext_getElem?
    intro i
    rw [List.getElem?_map, List.getElem?_map]
    by_cases hi : i < gN σ
    · rw [List.getElem?_range hi, pw_wl_at hi]
      show some ((pw_wl cA shP ad σ ++ [(q, cblank)])[i]?) = some (some _)
      rw [List.getElem?_append_left (by rw [pw_wl_len]; exact hi), pw_wl_at hi]
    · rw [List.getElem?_eq_none (by simp; omega), List.getElem?_eq_none (by rw [pw_wl_len]; omega)]
      rfl
  have hPc : va_P D vwCl [(q, cblank)] H := hP.sub [gN σ] (by show List.filterMap _ [gN σ] = _; simp [hat])
  have hDc : va_D A [(q, cblank)] := hD.sub [gN σ] rfl hC1
  have hFc := va_free (wc := [(q, cblank)]) hD hS hA [gN σ] hC1
  refine va_callv (va_runI (As := [.int sp]) (rest := rest) (bytes := cX0_init) (maxL := 2) hC (kX0_init l D cA q H.size sp) ⟨wa_B hC.2.2.2.2 ykX0_init (by decide +kernel) ⟨rfl, rfl, hRf, hRl⟩, rfl, hC.2.2.2.2 _ (by decide +kernel)⟩ ⟨fun a U g mk h => ?_, fun U hU hW => ⟨rfl, by rw [hU], by rw [hU]; exact hPc, va_K.moved hW.alike hK, hDc.weaken (fun _ _ _ _ => trivial)⟩⟩ rfl rfl hsz rfl (lv_room hW) hdg ⟨hRc, hRs⟩) hS (fun q _ h => hFc q h) hFc (fun q1 t H1 locs1 ht hvm hw hB hz1 hk1 hS => ?_)
  · obtain ⟨g0, g1, g2, g3, g4⟩ := h
    exact ⟨g0, g1, g2, va_K.moved (u := U) (U := U.calling g mk a) (Vm.Alike.refl U.vm) g3, g4⟩
  · obtain ⟨hP1, hD1⟩ := hB
    rw [ht] at hP1
    obtain ⟨hP2, hD2⟩ := va_join (wr := pw_wl cA shP ad σ) (w1 := [(q, cfull sp q1), (q1, cwords cA)]) hP hD [gN σ] (List.range (gN σ)) hC1 hR1 (va_nd_range _) (fun i hi h => by rw [List.mem_singleton.mp h] at hi; exact absurd (List.mem_range.mp hi) (Nat.lt_irrefl _)) hk1 hFc hP1 hD1
    rw [← newC_wl hc] at hP2 hD2
    refine kk (adC ad (gN σ) q q1) H1 locs1 (fun k hk => ?_) ?_ (pw_G.of hP2 hD2 (Nat.le_trans (cnew_of hc).1 (by show gN σ ≤ gN σ + 2; omega))) hS
    · unfold adC
      rw [if_neg (Nat.ne_of_lt hk), if_neg (by omega)]
    · unfold adC
      rw [if_pos rfl]
theorem mw_copyW (hC : CallFix p m c cc nL s args wsL_law RX3) (hK : va_K D vwCl (pw_ty cA) s) (hG : pw_G D cA shP 12 A ad σ H) (hS : va_S A s.heap H locs) {o k : Nat} (ho : okc σ o = true) (hk : okc σ k = true) (hsz : ls.size = nL) (hRf : 1 ≤ R.frames) (hRl : (rest.map fun v => v.category).sum + (nativeFrameWords "java/lang/System" "arraycopy" 5 + 11) ≤ R.locals) (hdg : decode cc pc = .ok (.invokestatic 267, 3))
    (kk : ∀ (H1 : Heap) (locs1 : List Loc), pw_G D cA shP 12 A ad (cpW σ o k) H1 → va_S A s.heap H1 locs1 → W p l e R s m args below meth c H1 locs1 cells slots Q (F0 m (pc + 3) ls rest)) : W p l e R s m args below meth c H locs cells slots Q (F0 m pc ls (.int 4 :: .int 0 :: .ref (ad (k + 1)) :: .int 0 :: .ref (ad (o + 1)) :: rest)) := by
  obtain ⟨hx, hb, hml, hown, hts⟩ := hC
  have h0 := pw_wl_at (cA := cA) (sh := shP) (ad := ad) (okc_lw ho)
  have h1 := pw_wl_at (cA := cA) (sh := shP) (ad := ad) (okc_lw hk)
  rw [shP_w ho] at h0
  rw [shP_w hk] at h1
  refine va_copyi hx hb (hml.trans hsz.symm) hown (hts _ (by decide +kernel)) (hts _ (by decide +kernel)) (hts _ (by decide +kernel)) (hts _ (by decide +kernel)) hK hG.wP hG.wD hS (o + 1) (k + 1) 0 0 h0 h1 rfl rfl rfl (by decide +kernel) (by decide +kernel) (by decide +kernel) (by rw [z0_cl, z4_cl]; exact Nat.le_refl 4) (by rw [z0_cl, z4_cl]; exact Nat.le_refl 4) (fun i _ => rfl) hRf hRl hdg (fun H1 locs1 hP hD hS => ?_)
  rw [z0_cl, z4_cl] at hP hD
  have e : (pw_wl cA shP ad σ).set (k + 1) (ad (k + 1), .inl (cA 1, 4, .inl (va_cpy (fun j => gi σ (o + 1) j) (fun j => gi σ (k + 1) j) 0 0 4))) = pw_wl cA shP ad (cpW σ o k) := by
    apply List.ext_getElem?
    intro i
    rw [List.getElem?_set]
    by_cases hi : i < gN σ
    · rw [pw_wl_at (σ := cpW σ o k) hi, pw_wl_len, pw_wl_at hi]
      by_cases hik : k + 1 = i
      · subst hik
        rw [if_pos rfl, if_pos hi, shP_w hk]
        show some (_, Sum.inl (cA 1, 4, Sum.inl _)) = some (_, Sum.inl (cA 1, 4, Sum.inl _))
        congr 6
        funext j
        show (if 0 ≤ j ∧ j < 0 + 4 then gi σ (o + 1) (0 + (j - 0)) else gi σ (k + 1) j) = if k + 1 = k + 1 ∧ j < 4 then σ.2.1 (o + 1) j else σ.2.1 (k + 1) j
        by_cases hj : j < 4
        · rw [if_pos ⟨Nat.zero_le _, by omega⟩, if_pos ⟨rfl, hj⟩, Nat.zero_add, Nat.sub_zero]
          rfl
        · rw [if_neg (by omega), if_neg (by omega)]
          rfl
      · rw [if_neg hik]
        congr 2
        have g1 : ∀ j, gi (cpW σ o k) i j = gi σ i j := fun j => by
          show (if i = k + 1 ∧ j < 4 then _ else _) = _
          rw [if_neg (by omega)]
          rfl
        have g2 : ∀ j, gr (cpW σ o k) i j = gr σ i j := fun j => rfl
        simp only [pw_e, pw_fs, g1, g2]
    · rw [List.getElem?_eq_none (l := pw_wl cA shP ad (cpW σ o k)) (by rw [pw_wl_len]; show gN σ ≤ i; omega), List.getElem?_eq_none (l := pw_wl cA shP ad σ) (by rw [pw_wl_len]; omega), pw_wl_len]
      have := okc_lw hk
      rw [if_neg (by omega)]
  have hP : va_P D vwCl ((pw_wl cA shP ad σ).set (k + 1) (ad (k + 1), .inl (cA 1, 4, .inl (va_cpy (fun j => gi σ (o + 1) j) (fun j => gi σ (k + 1) j) 0 0 4)))) H1 := hP
  have hD : va_D A ((pw_wl cA shP ad σ).set (k + 1) (ad (k + 1), .inl (cA 1, 4, .inl (va_cpy (fun j => gi σ (o + 1) j) (fun j => gi σ (k + 1) j) 0 0 4)))) := hD
  rw [e] at hP hD
  exact kk H1 locs1 (pw_G.of hP hD hG.2.2.2) hS
theorem mra_i {XC : String → State → State → Prop} {r : Int32 ⊕ String} {v : Int32} (hC : CallFix p m c cc nL s args wsL_law own) (hr : meth.sig.returnType = some .int) (hlocks : meth.locks = false) (hag : ∀ k, k < N0 → ad k = ad0 k) (hG : pw_G D cA shP 12 A ad σ H) (hS : va_S A s.heap H locs) (hf : some (Sum.inl v, σ) = some (r, σ')) (hc : cells ≤ mc) (hs : slots ≤ ms) (hdg : decode cc pc = .ok (.ireturn, 1)) : W p l e R s m args below meth c H locs cells slots (vx_MQ below (pa_Qi D cA shP 12 A ad0 N0 r σ') XC args s mc ms A) (F0 m pc ls [.int v]) := by
  cases hf
  refine W.widen hc hs (vx_ret ?_)
  exact W.iret hC.1 hC.2.1 hr (fun t ht _ => ⟨⟨_, ad, rfl, ⟨rfl, hag⟩, by subst ht; exact hG⟩, hS.F ht⟩) hS.2.2 hdg hlocks
theorem mra_k {r q : Nat} {C : String} (hC : CallFix p m c cc nL s args wsL_law own) (hr : meth.sig.returnType = some (.object C)) (hlocks : meth.locks = false) (hag : ∀ k, k < N0 → ad k = ad0 k) (hG : pw_G D cA shP 12 A ad σ H) (hS : va_S A s.heap H locs) (hf : some (q, σ) = some (r, σ')) (hc : cells ≤ mc) (hs : slots ≤ ms) (hdg : decode cc pc = .ok (.areturn, 1)) : W p l e R s m args below meth c H locs cells slots (MQ below (pa_Qk D cA shP 12 A ad0 N0 r σ') args s mc ms A) (F0 m pc ls [.ref (ad q)]) := by
  cases hf
  refine W.widen hc hs ?_
  exact W.aret (v := .ref (ad r)) hC.1 hC.2.1 hr (Or.inl ⟨_, rfl⟩) (Or.inr ⟨_, rfl⟩) (fun t ht _ => ⟨⟨ad, ad r, rfl, hag, rfl, by subst ht; exact hG⟩, hS.F ht⟩) hS.2.2 hdg hlocks
theorem mc_ka {q : Nat} {a : Array Value} (hr : va_Run p l e R s m args below meth c H locs cells slots mc ms (F0 m pc ls st0) rest (pa_Qk D cA shP 12 A ad N0 q σ' a) A) (hS : va_S A s.heap H locs)
    (kk : ∀ (ad1 : Nat → Nat) (H1 : Heap) (locs1 : List Loc), (∀ k, k < N0 → ad1 k = ad k) → pw_G D cA shP 12 A ad1 σ' H1 → va_S A s.heap H1 locs1 → W p l e R s m args below meth c H1 locs1 (cells + mc) (slots + ms) Q (F0 m (pc + 3) ls (.ref (ad1 q) :: rest))) : W p l e R s m args below meth c H locs cells slots Q (F0 m pc ls st0) :=
  va_callr hr hS (fun _ _ h => h) (fun _ h => h) (fun ad1 ra t H1 locs1 ht _ hp hB _ _ hS1 => by obtain ⟨e1, e2⟩ := hB; subst e1; subst ht; exact kk ad1 _ _ hp e2 hS1)
end PWN
