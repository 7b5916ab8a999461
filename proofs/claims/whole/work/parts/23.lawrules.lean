/-! THE LAW'S OWN RULES: the class's world, the reference's world, and 'out', apart from one another and from all that was there before -/
theorem pw_G.weaken {D : va_G} {cA : Nat → ClassId} {sh : Nat → pw_Sh} {n0 : Nat} {A B : Nat → Prop} {ad : Nat → Nat} {σ : pw_S} {H : Heap} (hG : pw_G D cA sh n0 A ad σ H) (h : ∀ k, k < gN σ → B (ad k)) : pw_G D cA sh n0 B ad σ H := ⟨hG.1, hG.2.1, h, hG.2.2.2⟩
theorem pw_X.narrow {A B : Nat → Prop} {U : State} (hX : pw_X A U) (h : ∀ q, B q → A q) : pw_X B U := ⟨⟨hX.1.1.narrow h, hX.1.2.narrow h⟩, ⟨hX.2.1.1.narrow h, hX.2.1.2.narrow h⟩, hX.2.2⟩
/-- the invariant of the heap -/
def lw_I (D : va_G) (cA : Nat → ClassId) (cL : ClassId) (B0 : Nat) (ad adm : Nat → Nat) (σ μ : pw_S) (ob : Nat) (o : Int64) (H : Heap) : Prop :=
  pw_G D cA shP 12 (fun q => B0 ≤ q) ad σ H ∧ pw_G D cA shM 15 (fun q => B0 ≤ q) adm μ H ∧ pl_out cL ob o H ∧ B0 ≤ ob ∧ (∀ k k', k < gN σ → k' < gN μ → ad k ≠ adm k') ∧ (∀ k, k < gN σ → ad k ≠ ob) ∧ ∀ k, k < gN μ → adm k ≠ ob
/-- what is fixed in the law -/
def lwC (p : Program) (s : State) (m : MethodId) (meth : Method) (c : Code) (b L : Nat) (xs : Nat → Int32) (D : va_G) (cA : Nat → ClassId) (cL : ClassId) : Prop :=
  CallFix p m c cL_law 9 s #[Value.ref b] wsL_law RL ∧ va_X b L xs s s.heap ∧ b < s.heap.size ∧ va_K D vwCl (pw_ty cA) s ∧ pw_X (fun q => s.heap.size ≤ q) s ∧ pl_N s ∧ ArrOfT s cL .long ∧ L ≤ 2560
abbrev lw_lv (b ob i : Nat) (ad adm : Nat → Nat) : List (Nat × Value) := [(0, .ref b), (1, .ref (ad 0)), (2, .ref (adm 0)), (3, .ref ob), (4, .int (nI i))]
/-- what is to be shown at a point of the law's loop -/
def lwK (RR : pw_S → pw_S → Prop) (p : Program) (l : Launch) (e : Env) (s : State) (m : MethodId) (below : List Frame) (meth : Method) (c : Code) (b : Nat) (D : va_G) (cA : Nat → ClassId) (cL : ClassId) (Q : State → Prop) (pc i cells slots : Nat) : Prop :=
  ∀ (H : Heap) (locs : List Loc) (ls : Array Slot) (ad adm : Nat → Nat) (σ μ : pw_S) (ob : Nat) (o : Int64), RR σ μ → lw_I D cA cL s.heap.size ad adm σ μ ob o H → va_S (fun q => s.heap.size ≤ q) s.heap H locs → lv_has ls 9 (lw_lv b ob i ad adm) → W p l e room_1 s m #[Value.ref b] below meth c H locs cells slots Q (F0 m pc ls [])
section LWR
variable {p : Program} {l : Launch} {e : Env} {s : State} {m : MethodId} {below : List Frame} {meth : Method} {c : Code} {H : Heap} {locs : List Loc} {cells slots : Nat} {Q : State → Prop}
variable {pc b L i : Nat} {xs : Nat → Int32} {ls : Array Slot} {rest st0 : List Value} {D : va_G} {cA : Nat → ClassId} {cL : ClassId} {ad adm : Nat → Nat} {σ μ σ' μ' : pw_S} {ob : Nat} {o : Int64} {lv : List (Nat × Value)}
variable {y : MethodName} {bytes : ByteArray} {maxL n index mc ms : Nat} {ret : Option FieldType} {rm : Room} {As : List Value}
/-- the script's int at i + k, for a k that the code names -/
theorem lw_sld (hC : lwC p s m meth c b L xs D cA cL) (hS : va_S (fun q => s.heap.size ≤ q) s.heap H locs) (hl : lv_has ls 9 lv) (k0 k4 : Nat) (h0 : lv[k0]? = some (0, .ref b)) (h4 : lv[k4]? = some (4, .int (nI i))) (k : Nat) (hk : i + k < L) (hkn : (Int32.ofInt k) = nI k)
    (d0 : decode cL_law pc = .ok (.aload_n 0, 1)) (d1 : decode cL_law (pc + 1) = .ok (.iload 4, 2)) (d3 : decode cL_law (pc + 3) = .ok (.iconst k, 1)) (d4 : decode cL_law (pc + 4) = .ok (.iadd, 1)) (d5 : decode cL_law (pc + 5) = .ok (.iaload, 1))
    (kk : W p l e room_1 s m #[Value.ref b] below meth c H locs cells slots Q (F0 m (pc + 6) ls (.int (xs (i + k)) :: rest))) : W p l e room_1 s m #[Value.ref b] below meth c H locs cells slots Q (F0 m pc ls rest) := by
  obtain ⟨⟨hx, hb, hml, hown, hts⟩, hX, hbl, hK, hXX, hN, har, hL⟩ := hC
  refine lv_aload_n hx hb d0 rfl (lv_at hl k0 h0) ?_
  refine lv_iload hx hb d1 (lv_at hl k4 h4) ?_
  refine lv_iconst (v := nI k) hx hb d3 hkn ?_
  refine lv_iadd hx hb d4 ?_
  rw [nI_add]
  refine va_sld hx hb hX hbl (Nat.not_le.mpr hbl) hS (vp_in_nI hk (by omega)) d5 ?_
  rw [nI_clamp (by omega)]
  exact kk
/-- behind a call that may change the class's cells and 'out' alone -/
theorem lw_I.wrap {A : Nat → Prop} {ad1 : Nat → Nat} {o1 : Int64} {B0 : Nat} {H1 : Heap} (hB : B0 ≤ H.size) (hI : lw_I D cA cL B0 ad adm σ μ ob o H) (hA : ∀ q, A q ↔ (∃ k, k < gN σ ∧ q = ad k) ∨ q = ob ∨ H.size ≤ q) (hG : pw_G D cA shP 12 (pl_A A ob) ad1 σ' H1) (ho : pl_out cL ob o1 H1) (hk : ∀ q : Nat, q < H.size → ¬ A q → H1[q]? = H[q]?) : lw_I D cA cL B0 ad1 adm σ' μ ob o1 H1 := by
  obtain ⟨h1, h2, h3, h4, h5, h6, h7⟩ := hI
  have hcl : ∀ k, k < gN σ' → (∃ j, j < gN σ ∧ ad1 k = ad j) ∨ H.size ≤ ad1 k := by
    intro k hk
    obtain ⟨g1, g2⟩ := hG.2.2.1 k hk
    rcases (hA _).mp g1 with g | g | g
    · exact Or.inl g
    · exact absurd g g2
    · exact Or.inr g
  have hm : ∀ k, k < gN μ → adm k < H.size ∧ ¬ A (adm k) := by
    intro k hk
    refine ⟨h2.lt hk, fun h => ?_⟩
    rcases (hA _).mp h with ⟨j, hj, e⟩ | e | e
    · exact h5 j k hj hk e.symm
    · exact h7 k hk e
    · exact absurd (h2.lt hk) (Nat.not_lt.mpr e)
  refine ⟨hG.weaken fun k hk => ?_, h2.kept fun k hk2 => hk _ (hm k hk2).1 (hm k hk2).2, ho, h4, fun k k' hk1 hk2 => ?_, fun k hk1 => (hG.2.2.1 k hk1).2, h7⟩
  · rcases hcl k hk with ⟨j, hj, e⟩ | e
    · rw [e]; exact h1.2.2.1 j hj
    · exact Nat.le_trans hB e
  · rcases hcl k hk1 with ⟨j, hj, e⟩ | e
    · rw [e]; exact h5 j k' hj hk2
    · intro h
      rw [h] at e
      exact absurd (hm k' hk2).1 (Nat.not_lt.mpr e)
/-- behind a call that may change the reference's cells alone -/
theorem lw_I.mod {A : Nat → Prop} {B0 : Nat} {H1 : Heap} (hB : B0 ≤ H.size) (hI : lw_I D cA cL B0 ad adm σ μ ob o H) (hA : ∀ q, A q ↔ (∃ k, k < gN μ ∧ q = adm k) ∨ H.size ≤ q) (hG : pw_G D cA shM 15 A adm μ' H1) (hk : ∀ q : Nat, q < H.size → ¬ A q → H1[q]? = H[q]?) : lw_I D cA cL B0 ad adm σ μ' ob o H1 := by
  obtain ⟨h1, h2, h3, h4, h5, h6, h7⟩ := hI
  have hoS : ob < H.size := by obtain ⟨f, g, -⟩ := h3; exact (Array.getElem?_eq_some_iff.mp g).1
  have hcl : ∀ k, k < gN μ' → (∃ j, j < gN μ ∧ adm k = adm j) ∨ H.size ≤ adm k := fun k hk => (hA _).mp (hG.2.2.1 k hk)
  have hp : ∀ k, k < gN σ → ad k < H.size ∧ ¬ A (ad k) := by
    intro k hk
    refine ⟨h1.lt hk, fun h => ?_⟩
    rcases (hA _).mp h with ⟨j, hj, e⟩ | e
    · exact h5 k j hk hj e
    · exact absurd (h1.lt hk) (Nat.not_lt.mpr e)
  have ho : ¬ A ob := fun h => by
    rcases (hA _).mp h with ⟨j, hj, e⟩ | e
    · exact h7 j hj e.symm
    · exact absurd hoS (Nat.not_lt.mpr e)
  refine ⟨h1.kept fun k hk2 => hk _ (hp k hk2).1 (hp k hk2).2, hG.weaken fun k hk => ?_, ?_, h4, fun k k' hk1 hk2 => ?_, h6, fun k hk1 => ?_⟩
  · rcases hcl k hk with ⟨j, hj, e⟩ | e
    · rw [e]; exact h2.2.2.1 j hj
    · exact Nat.le_trans hB e
  · obtain ⟨f, g1, g2⟩ := h3
    exact ⟨f, (hk ob hoS ho).trans g1, g2⟩
  · rcases hcl k' hk2 with ⟨j, hj, e⟩ | e
    · rw [e]; exact h5 k j hk1 hj
    · intro h
      rw [← h] at e
      exact absurd (hp k hk1).1 (Nat.not_lt.mpr e)
  · rcases hcl k hk1 with ⟨j, hj, e⟩ | e
    · rw [e]; exact h7 j hj
    · intro h
      rw [h] at e
      exact absurd hoS (Nat.not_lt.mpr e)
/-- which cells a call of the class may change -/
def lwA1 (ad : Nat → Nat) (σ : pw_S) (ob : Nat) (H : Heap) : Nat → Prop := fun q => (∃ k, k < gN σ ∧ q = ad k) ∨ q = ob ∨ H.size ≤ q
def lwA2 (ad : Nat → Nat) (σ : pw_S) (H : Heap) : Nat → Prop := fun q => (∃ k, k < gN σ ∧ q = ad k) ∨ H.size ≤ q
theorem lwA1_in {B0 : Nat} (hB : B0 ≤ H.size) (hI : lw_I D cA cL B0 ad adm σ μ ob o H) : ∀ q, lwA1 ad σ ob H q → B0 ≤ q := by
  intro q h
  rcases h with ⟨k, hk, e⟩ | e | e
  · rw [e]; exact hI.1.2.2.1 k hk
  · rw [e]; exact hI.2.2.2.1
  · exact Nat.le_trans hB e
theorem lwA2_in {sh : Nat → pw_Sh} {n0 B0 : Nat} (hB : B0 ≤ H.size) (hG : pw_G D cA sh n0 (fun q => B0 ≤ q) ad σ H) : ∀ q, lwA2 ad σ H q → B0 ≤ q := by
  intro q h
  rcases h with ⟨k, hk, e⟩ | e
  · rw [e]; exact hG.2.2.1 k hk
  · exact Nat.le_trans hB e
theorem lw_pwU {sh : Nat → pw_Sh} {n0 : Nat} {U : State} {A : Nat → Prop} (hC : lwC p s m meth c b L xs D cA cL) (hG : pw_G D cA sh n0 A ad σ H) (hS : va_S (fun q => s.heap.size ≤ q) s.heap H locs) (hA : ∀ q, A q → s.heap.size ≤ q) (hA2 : ∀ q : Nat, H.size ≤ q → A q) (hU : U.heap = H) (hW : s.WarmedH U.vm) : pw_U D cA sh n0 A ad σ U := by
  obtain ⟨-, -, -, hK, hXX, -⟩ := hC
  subst hU
  exact ⟨hG, va_K.moved hW.alike hK, hA2, (hXX.moved hW hS).narrow hA⟩
/-- a wrapper's call -/
theorem lw_W {ko : Int32 × Int64} {hh : List (Nat × Nat × Nat × Nat)} (hC : lwC p s m meth c b L xs D cA cL) (hI : lw_I D cA cL s.heap.size ad adm σ μ ob o H) (hS : va_S (fun q => s.heap.size ≤ q) s.heap H locs)
    (hM : Met l y (Cond.codeWith y bytes maxL (some .int) hh :: wsL_law) rm (va_Pc As (pl_U D cA cL (lwA1 ad σ ob H) ad σ ob o)) (pl_Q D cA cL (lwA1 ad σ ob H) ad σ' ob ko) mc ms (lwA1 ad σ ob H)) (hcw : Cond.codeWith y bytes maxL (some .int) hh ∈ wsL_law) (hyc : y.cls = RL) (hpl : (parseMethodDescriptor y.desc).map (fun d => d.parameters.length) = some n) (hl : Cond.methodLink RL index y ∈ wsL_law) (hstt : Cond.static y ∈ wsL_law)
    (hR : rm.cells = mc ∧ rm.slots = ms ∧ rm.frames + 1 ≤ 12 ∧ 8 + (maxL + 11) + rm.locals ≤ 442) (hn : As.length = n) (hsz : ls.size = 9) (hst : st0 = As.reverse ++ rest) (hW : (rest.map fun v => v.category).sum ≤ 8) (hdg : decode cL_law pc = .ok (.invokestatic index, 3)) (hf : cells + mc ≤ 601024 ∧ slots + ms ≤ 7293034)
    (kk : ∀ (ad1 : Nat → Nat) (H1 : Heap) (locs1 : List Loc), (∀ k, k < 12 → ad1 k = ad k) → lw_I D cA cL s.heap.size ad1 adm σ' μ ob ko.2 H1 → va_S (fun q => s.heap.size ≤ q) s.heap H1 locs1 → W p l e room_1 s m #[Value.ref b] below meth c H1 locs1 (cells + mc) (slots + ms) Q (F0 m (pc + 3) ls (.int ko.1 :: rest))) : W p l e room_1 s m #[Value.ref b] below meth c H locs cells slots Q (F0 m pc ls st0) := by
  have hC0 := hC
  obtain ⟨⟨hx, hb, hml, hown, hts⟩, hX, hbl, hK, hXX, hN, har, hL⟩ := hC
  have hin := lwA1_in hS.1 hI
  have hoS : ob < H.size := by obtain ⟨f, g, -⟩ := hI.2.2.1; exact (Array.getElem?_eq_some_iff.mp g).1
  have hG : pw_G D cA shP 12 (pl_A (lwA1 ad σ ob H) ob) ad σ H := hI.1.weaken fun k hk => ⟨Or.inl ⟨k, hk, rfl⟩, hI.2.2.2.2.2.1 k hk⟩
  have hR1 : rm.frames + 1 ≤ room_1.frames ∧ 8 + (maxL + 11) + rm.locals ≤ room_1.locals := hR.2.2
  refine va_calli (vx_runSW (hh := hh) (bytes := bytes) (maxL := maxL) ⟨hx, hb, hml, hown, hts⟩ hM ⟨⟨hR.1, hR.2.1, hR1.1, hR1.2, fun w hw => ?_, List.mem_cons_self⟩, hts _ hcw, by rw [hyc]; exact hts _ wA_71, by rw [hyc]; exact ⟨by decide +kernel, by decide +kernel⟩, fun sig h => ?_, hts _ hl, hts _ hstt⟩ ⟨pl_blind, fun U hU hW => ⟨rfl, ?_⟩⟩ rfl hn hsz hst (lv_room hW) hdg hf) hS (fun q _ h => hin q h) hin (fun r ad1 t H1 locs1 ht _ hp hB _ hk hS1 => ?_)
  · rcases List.mem_cons.mp hw with e | h
    · subst e; exact wa_pay hts _ hcw
    · exact wa_pay hts _ h
  · rw [h] at hpl
    exact (Option.some.inj hpl).symm
  · refine ⟨lw_pwU hC0 hG hS (fun q h => hin q h.1) (fun q h => ⟨Or.inr (Or.inr h), by omega⟩) hU hW, by rw [hU]; exact hI.2.2.1, Or.inr (Or.inl rfl), arrOfT_moved hW.alike har, fun q hq => va_Nc.moved hW.alike (hN q hq)⟩
  · subst ht
    obtain ⟨e1, e2⟩ := hp
    subst e1
    exact kk ad1 _ _ e2 (lw_I.wrap hS.1 hI (fun q => Iff.rfl) hB.1 hB.2 hk) hS1
/-- a call of the reference -/
theorem lw_M {r : Int32} (hC : lwC p s m meth c b L xs D cA cL) (hI : lw_I D cA cL s.heap.size ad adm σ μ ob o H) (hS : va_S (fun q => s.heap.size ≤ q) s.heap H locs)
    (hM : Met l y (wA y bytes maxL ret) rm (pw_Pc D cA shM 15 (lwA2 adm μ H) adm μ (.ref (adm 0) :: As)) (pw_Qi D cA shM 15 (lwA2 adm μ H) adm r μ') 0 0 (lwA2 adm μ H)) (hY : mw_Y y bytes maxL ret n) (hl : Cond.methodLink RL index y ∈ wsL_law) (hin : Cond.instanceMethod y ∈ wsL_law) (hse : Cond.selects y.cls y y ∈ wsL_law) (hc : vwCl[4]? = some (y.cls, TX4, 21))
    (hR : rm.cells = 0 ∧ rm.slots = 0 ∧ rm.frames + 1 ≤ 12 ∧ 8 + (maxL + 11) + rm.locals ≤ 442) (hn : As.length = n) (hsz : ls.size = 9) (hst : st0 = As.reverse ++ .ref (adm 0) :: rest) (hW : (rest.map fun v => v.category).sum ≤ 8) (hdg : decode cL_law pc = .ok (.invokevirtual index, 3)) (hf : cells ≤ 601024 ∧ slots ≤ 7293034)
    (kk : ∀ (H1 : Heap) (locs1 : List Loc), lw_I D cA cL s.heap.size ad adm σ μ' ob o H1 → va_S (fun q => s.heap.size ≤ q) s.heap H1 locs1 → W p l e room_1 s m #[Value.ref b] below meth c H1 locs1 cells slots Q (F0 m (pc + 3) ls (.int r :: rest))) : W p l e room_1 s m #[Value.ref b] below meth c H locs cells slots Q (F0 m pc ls st0) := by
  have hC0 := hC
  obtain ⟨⟨hx, hb, hml, hown, hts⟩, hX, hbl, hK, hXX, hN, har, hL⟩ := hC
  have hI2 := hI.2.1
  have hsub := lwA2_in hS.1 hI2
  have hG : pw_G D cA shM 15 (lwA2 adm μ H) adm μ H := hI2.weaken fun k hk => Or.inl ⟨k, hk, rfl⟩
  refine va_calli (va_runV (bytes := bytes) (maxL := maxL) (ret := ret) ⟨hx, hb, hml, hown, hts⟩ hM ⟨wa_B hts hY hl hR, hts _ hin, hts _ hse⟩ ⟨pw_blind, mw_recv hK hG (hG.fix (by decide)) rfl hc, fun U hU hW => ⟨rfl, lw_pwU hC0 hG hS hsub (fun q h => Or.inr h) hU hW⟩⟩ rfl hn hsz hst (lv_room hW) hdg hf) hS (fun q _ h => hsub q h) hsub (fun r' _ t H1 locs1 ht _ hp hB _ hk hS1 => ?_)
  subst ht
  subst hp
  exact kk _ _ (lw_I.mod hS.1 hI (fun q => Iff.rfl) hB hk) hS1
/-- .. of its digest -/
theorem lw_ML {r : Int64} (hC : lwC p s m meth c b L xs D cA cL) (hI : lw_I D cA cL s.heap.size ad adm σ μ ob o H) (hS : va_S (fun q => s.heap.size ≤ q) s.heap H locs)
    (hM : Met l y (wA y bytes maxL ret) rm (pw_Pc D cA shM 15 (lwA2 adm μ H) adm μ (.ref (adm 0) :: As)) (pw_Ql D cA shM 15 (lwA2 adm μ H) adm r μ') 0 0 (lwA2 adm μ H)) (hY : mw_Y y bytes maxL ret n) (hl : Cond.methodLink RL index y ∈ wsL_law) (hin : Cond.instanceMethod y ∈ wsL_law) (hse : Cond.selects y.cls y y ∈ wsL_law) (hc : vwCl[4]? = some (y.cls, TX4, 21))
    (hR : rm.cells = 0 ∧ rm.slots = 0 ∧ rm.frames + 1 ≤ 12 ∧ 8 + (maxL + 11) + rm.locals ≤ 442) (hn : As.length = n) (hsz : ls.size = 9) (hst : st0 = As.reverse ++ .ref (adm 0) :: rest) (hW : (rest.map fun v => v.category).sum ≤ 8) (hdg : decode cL_law pc = .ok (.invokevirtual index, 3)) (hf : cells ≤ 601024 ∧ slots ≤ 7293034)
    (kk : ∀ (H1 : Heap) (locs1 : List Loc), lw_I D cA cL s.heap.size ad adm σ μ' ob o H1 → va_S (fun q => s.heap.size ≤ q) s.heap H1 locs1 → W p l e room_1 s m #[Value.ref b] below meth c H1 locs1 cells slots Q (F0 m (pc + 3) ls (.long r :: rest))) : W p l e room_1 s m #[Value.ref b] below meth c H locs cells slots Q (F0 m pc ls st0) := by
  have hC0 := hC
  obtain ⟨⟨hx, hb, hml, hown, hts⟩, hX, hbl, hK, hXX, hN, har, hL⟩ := hC
  have hI2 := hI.2.1
  have hsub := lwA2_in hS.1 hI2
  have hG : pw_G D cA shM 15 (lwA2 adm μ H) adm μ H := hI2.weaken fun k hk => Or.inl ⟨k, hk, rfl⟩
  refine va_calll (va_runV (bytes := bytes) (maxL := maxL) (ret := ret) ⟨hx, hb, hml, hown, hts⟩ hM ⟨wa_B hts hY hl hR, hts _ hin, hts _ hse⟩ ⟨pw_blind, mw_recv hK hG (hG.fix (by decide)) rfl hc, fun U hU hW => ⟨rfl, lw_pwU hC0 hG hS hsub (fun q h => Or.inr h) hU hW⟩⟩ rfl hn hsz hst (lv_room hW) hdg hf) hS (fun q _ h => hsub q h) hsub (fun r' _ t H1 locs1 ht _ hp hB _ hk hS1 => ?_)
  subst ht
  subst hp
  exact kk _ _ (lw_I.mod hS.1 hI (fun q => Iff.rfl) hB hk) hS1
theorem lw_I.cls {A : Nat → Prop} {B0 : Nat} {H1 : Heap} (hB : B0 ≤ H.size) (hI : lw_I D cA cL B0 ad adm σ μ ob o H) (hA : ∀ q, A q ↔ (∃ k, k < gN σ ∧ q = ad k) ∨ H.size ≤ q) (hG : pw_G D cA shP 12 A ad σ' H1) (hk : ∀ q : Nat, q < H.size → ¬ A q → H1[q]? = H[q]?) : lw_I D cA cL B0 ad adm σ' μ ob o H1 := by
  have hoS : ob < H.size := by obtain ⟨f, g, -⟩ := hI.2.2.1; exact (Array.getElem?_eq_some_iff.mp g).1
  have hno : ¬ A ob := fun h => by
    rcases (hA _).mp h with ⟨j, hj, e⟩ | e
    · exact hI.2.2.2.2.2.1 j hj e.symm
    · exact absurd hoS (Nat.not_lt.mpr e)
  refine lw_I.wrap (A := lwA1 ad σ ob H) hB hI (fun q => Iff.rfl) (hG.weaken fun k hk2 => ⟨?_, fun h => hno (h ▸ hG.2.2.1 k hk2)⟩) ?_ (fun q h1 h2 => hk q h1 fun h => h2 ?_)
  · rcases (hA _).mp (hG.2.2.1 k hk2) with h | h
    · exact Or.inl h
    · exact Or.inr (Or.inr h)
  · obtain ⟨f, g1, g2⟩ := hI.2.2.1
    exact ⟨f, (hk ob hoS hno).trans g1, g2⟩
  · rcases (hA _).mp h with h | h
    · exact Or.inl h
    · exact Or.inr (Or.inr h)
/-- a call of the class, without a wrapper -/
theorem lwr_P {r : Int32} (hC : lwC p s m meth c b L xs D cA cL) (hI : lw_I D cA cL s.heap.size ad adm σ μ ob o H) (hS : va_S (fun q => s.heap.size ≤ q) s.heap H locs)
    (hM : Met l y (wA y bytes maxL ret) rm (pw_Pc D cA shP 12 (lwA2 ad σ H) ad σ [.ref (ad 0)]) (pw_Qi D cA shP 12 (lwA2 ad σ H) ad r σ') 0 0 (lwA2 ad σ H)) (hY : mw_Y y bytes maxL ret 0) (hl : Cond.methodLink RL index y ∈ wsL_law) (hin : Cond.instanceMethod y ∈ wsL_law) (hse : Cond.selects y.cls y y ∈ wsL_law) (hc : vwCl[3]? = some (y.cls, TX3, 11))
    (hR : rm.cells = 0 ∧ rm.slots = 0 ∧ rm.frames + 1 ≤ 12 ∧ 8 + (maxL + 11) + rm.locals ≤ 442) (hsz : ls.size = 9) (hst : st0 = .ref (ad 0) :: rest) (hW : (rest.map fun v => v.category).sum ≤ 8) (hdg : decode cL_law pc = .ok (.invokevirtual index, 3)) (hf : cells ≤ 601024 ∧ slots ≤ 7293034)
    (kk : ∀ (H1 : Heap) (locs1 : List Loc), lw_I D cA cL s.heap.size ad adm σ' μ ob o H1 → va_S (fun q => s.heap.size ≤ q) s.heap H1 locs1 → W p l e room_1 s m #[Value.ref b] below meth c H1 locs1 cells slots Q (F0 m (pc + 3) ls (.int r :: rest))) : W p l e room_1 s m #[Value.ref b] below meth c H locs cells slots Q (F0 m pc ls st0) := by
  have hC0 := hC
  obtain ⟨⟨hx, hb, hml, hown, hts⟩, hX, hbl, hK, hXX, hN, har, hL⟩ := hC
  have hsub := lwA2_in hS.1 hI.1
  have hG : pw_G D cA shP 12 (lwA2 ad σ H) ad σ H := hI.1.weaken fun k hk => Or.inl ⟨k, hk, rfl⟩
  refine va_calli (va_runV (As := []) (bytes := bytes) (maxL := maxL) (ret := ret) ⟨hx, hb, hml, hown, hts⟩ hM ⟨wa_B hts hY hl hR, hts _ hin, hts _ hse⟩ ⟨pw_blind, mw_recv hK hG (hG.fix (by decide)) rfl hc, fun U hU hW => ⟨rfl, lw_pwU hC0 hG hS hsub (fun q h => Or.inr h) hU hW⟩⟩ rfl rfl hsz hst (lv_room hW) hdg hf) hS (fun q _ h => hsub q h) hsub (fun r' _ t H1 locs1 ht _ hp hB _ hk hS1 => ?_)
  subst ht
  subst hp
  exact kk _ _ (lw_I.cls hS.1 hI (fun q => Iff.rfl) hB hk) hS1
theorem lwr_PL {r : Int64} (hC : lwC p s m meth c b L xs D cA cL) (hI : lw_I D cA cL s.heap.size ad adm σ μ ob o H) (hS : va_S (fun q => s.heap.size ≤ q) s.heap H locs)
    (hM : Met l y (wA y bytes maxL ret) rm (pw_Pc D cA shP 12 (lwA2 ad σ H) ad σ [.ref (ad 0)]) (pw_Ql D cA shP 12 (lwA2 ad σ H) ad r σ') 0 0 (lwA2 ad σ H)) (hY : mw_Y y bytes maxL ret 0) (hl : Cond.methodLink RL index y ∈ wsL_law) (hin : Cond.instanceMethod y ∈ wsL_law) (hse : Cond.selects y.cls y y ∈ wsL_law) (hc : vwCl[3]? = some (y.cls, TX3, 11))
    (hR : rm.cells = 0 ∧ rm.slots = 0 ∧ rm.frames + 1 ≤ 12 ∧ 8 + (maxL + 11) + rm.locals ≤ 442) (hsz : ls.size = 9) (hst : st0 = .ref (ad 0) :: rest) (hW : (rest.map fun v => v.category).sum ≤ 8) (hdg : decode cL_law pc = .ok (.invokevirtual index, 3)) (hf : cells ≤ 601024 ∧ slots ≤ 7293034)
    (kk : ∀ (H1 : Heap) (locs1 : List Loc), lw_I D cA cL s.heap.size ad adm σ' μ ob o H1 → va_S (fun q => s.heap.size ≤ q) s.heap H1 locs1 → W p l e room_1 s m #[Value.ref b] below meth c H1 locs1 cells slots Q (F0 m (pc + 3) ls (.long r :: rest))) : W p l e room_1 s m #[Value.ref b] below meth c H locs cells slots Q (F0 m pc ls st0) := by
  have hC0 := hC
  obtain ⟨⟨hx, hb, hml, hown, hts⟩, hX, hbl, hK, hXX, hN, har, hL⟩ := hC
  have hsub := lwA2_in hS.1 hI.1
  have hG : pw_G D cA shP 12 (lwA2 ad σ H) ad σ H := hI.1.weaken fun k hk => Or.inl ⟨k, hk, rfl⟩
  refine va_calll (va_runV (As := []) (bytes := bytes) (maxL := maxL) (ret := ret) ⟨hx, hb, hml, hown, hts⟩ hM ⟨wa_B hts hY hl hR, hts _ hin, hts _ hse⟩ ⟨pw_blind, mw_recv hK hG (hG.fix (by decide)) rfl hc, fun U hU hW => ⟨rfl, lw_pwU hC0 hG hS hsub (fun q h => Or.inr h) hU hW⟩⟩ rfl rfl hsz hst (lv_room hW) hdg hf) hS (fun q _ h => hsub q h) hsub (fun r' _ t H1 locs1 ht _ hp hB _ hk hS1 => ?_)
  subst ht
  subst hp
  exact kk _ _ (lw_I.cls hS.1 hI (fun q => Iff.rfl) hB hk) hS1
/-- reading 'out' -/
theorem lw_lald (hC : lwC p s m meth c b L xs D cA cL) (hI : lw_I D cA cL s.heap.size ad adm σ μ ob o H) (hdg : decode cL_law pc = .ok (.laload, 1)) (kk : W p l e room_1 s m #[Value.ref b] below meth c H locs cells slots Q (F0 m (pc + 1) ls (.long o :: rest))) : W p l e room_1 s m #[Value.ref b] below meth c H locs cells slots Q (F0 m pc ls (.int 0 :: .ref ob :: rest)) := by
  obtain ⟨⟨hx, hb, hml, hown, hts⟩, hX, hbl, hK, hXX, hN, har, hL⟩ := hC
  obtain ⟨f, g1, g2⟩ := hI.2.2.1
  refine W.lald (v := .long o) hx hb g1 (har 1 (fun j => .long (f j))) (fun q => by cases q) (by show ¬ ((0 : Int32) < 0 ∨ (arrV _ _ _).slots.size ≤ _); rw [arrV_size]; show ¬ ((0 : Int32) < 0 ∨ 1 ≤ (0 : Int32).toNatClampNeg); decide +kernel) (by show (arrV _ _ _).slots[_]? = _; rw [z0_cl, arrV_read _ _ Nat.one_pos, g2]) rfl rfl hdg kk
theorem lg_cmp_self (v : Int64) : lg_cmp v v = 0 := by simp [lg_cmp]
/-- the tail of a case whose answer is an int -/
theorem lw_tailI {kc bb : Int32} {i5 i6 t0 : Nat} {off : Int} {RR : pw_S → pw_S → Prop} (hC : lwC p s m meth c b L xs D cA cL) (hRR : RR σ μ) (hI : lw_I D cA cL s.heap.size ad adm σ μ ob o H) (hS : va_S (fun q => s.heap.size ≤ q) s.heap H locs) (hl : lv_has ls 9 [(6, .int bb), (5, .int kc), (0, .ref b), (1, .ref (ad 0)), (2, .ref (adm 0)), (3, .ref ob), (4, .int (nI i))])
    (ht : gi μ 0 0 = kc) (hv : kc = 0 → o = bb.toInt64) (hth : ∀ A, Met l yX4_thrown (wA yX4_thrown cX4_thrown 1 (some .int)) ({ frames := 0, cells := 0, slots := 0, locals := 0 }) (pw_Pc D cA shM 15 A adm μ [.ref (adm 0)]) (pw_Qi D cA shM 15 A adm (gi μ 0 0) μ) 0 0 A) (hf : cells ≤ 601024 ∧ slots ≤ 7293034)
    (d0 : decode cL_law pc = .ok (.aload_n 2, 1)) (d1 : decode cL_law (pc + 1) = .ok (.invokevirtual 97, 3)) (d4 : decode cL_law (pc + 4) = .ok (.iload 5, 2)) (d6 : decode cL_law (pc + 6) = .ok (.if_icmp .eq 5, 3)) (d11 : decode cL_law (pc + 11) = .ok (.iload 5, 2)) (d13 : decode cL_law (pc + 13) = .ok (.ifCond .ne 15, 3)) (d16 : decode cL_law (pc + 16) = .ok (.aload_n 3, 1)) (d17 : decode cL_law (pc + 17) = .ok (.iconst 0, 1)) (d18 : decode cL_law (pc + 18) = .ok (.laload, 1)) (d19 : decode cL_law (pc + 19) = .ok (.iload 6, 2)) (d21 : decode cL_law (pc + 21) = .ok (.i2l, 1)) (d22 : decode cL_law (pc + 22) = .ok (.lcmp, 1)) (d23 : decode cL_law (pc + 23) = .ok (.ifCond .eq 5, 3)) (d28 : decode cL_law (pc + 28) = .ok (.goto off, 3)) (hoff : ((pc + 28 : Nat) : Int) + off = ((1613 : Nat) : Int))
    (K : lwK RR p l e s m below meth c b D cA cL Q 1613 i cells slots) : W p l e room_1 s m #[Value.ref b] below meth c H locs cells slots Q (F0 m pc ls []) := by
  have hC0 := hC
  obtain ⟨⟨hx, hb, hml, hown, hts⟩, hX, hbl, hK, hXX, hN, har, hL⟩ := hC
  have fin : ∀ {H : Heap} {locs : List Loc}, lw_I D cA cL s.heap.size ad adm σ μ ob o H → va_S (fun q => s.heap.size ≤ q) s.heap H locs → W p l e room_1 s m #[Value.ref b] below meth c H locs cells slots Q (F0 m (pc + 28) ls []) := fun hI hS => lv_goto (tgt := 1613) hx hb d28 hoff (K _ _ _ _ _ _ _ _ _ hRR hI hS (lv_sub hl [2, 3, 4, 5, 6] rfl))
  refine lv_aload_n hx hb d0 rfl (lv_at hl 4 rfl) ?_
  refine lw_M (As := []) hC0 hI hS (hth _) ykX4_thrown (by decide +kernel) (by decide +kernel) (by decide +kernel) rfl ⟨rfl, rfl, Nat.le_of_ble_eq_true rfl, Nat.le_of_ble_eq_true rfl⟩ rfl hl.1 rfl (Nat.le_of_ble_eq_true rfl) d1 hf (fun H locs hI hS => ?_)
  refine lv_iload hx hb d4 (lv_at hl 1 rfl) ?_
  refine lv_icmp_eq (tgt := pc + 11) hx hb d6 (by omega) (fun _ => ?_) (fun hne => absurd ht hne)
  refine lv_iload hx hb d11 (lv_at hl 1 rfl) ?_
  refine lv_if_ne (tgt := pc + 28) hx hb d13 (by omega) (fun _ => fin hI hS) (fun h0 => ?_)
  refine lv_aload_n hx hb d16 rfl (lv_at hl 5 rfl) ?_
  refine lv_iconst (v := 0) hx hb d17 (by decide) ?_
  refine lw_lald hC0 hI d18 ?_
  refine lv_iload hx hb d19 (lv_at hl 0 rfl) ?_
  refine lv_i2l (v := bb.toInt64) hx hb d21 rfl ?_
  refine W.lcmp hx hb d22 ?_
  rw [hv h0, lg_cmp_self]
  exact lv_if_eq (tgt := pc + 28) hx hb d23 (by omega) (fun _ => by have := hv h0; subst this; exact fin hI hS) (fun h => absurd rfl h)
/-- .. a boolean -/
theorem lw_tailZ {kc bb : Int32} {off : Int} {RR : pw_S → pw_S → Prop} (hC : lwC p s m meth c b L xs D cA cL) (hRR : RR σ μ) (hI : lw_I D cA cL s.heap.size ad adm σ μ ob o H) (hS : va_S (fun q => s.heap.size ≤ q) s.heap H locs) (hl : lv_has ls 9 [(6, .int bb), (5, .int kc), (0, .ref b), (1, .ref (ad 0)), (2, .ref (adm 0)), (3, .ref ob), (4, .int (nI i))])
    (ht : gi μ 0 0 = kc) (hv : kc = 0 → o = (if bb = 0 then 0 else 1)) (hth : ∀ A, Met l yX4_thrown (wA yX4_thrown cX4_thrown 1 (some .int)) ({ frames := 0, cells := 0, slots := 0, locals := 0 }) (pw_Pc D cA shM 15 A adm μ [.ref (adm 0)]) (pw_Qi D cA shM 15 A adm (gi μ 0 0) μ) 0 0 A) (hf : cells ≤ 601024 ∧ slots ≤ 7293034)
    (d0 : decode cL_law pc = .ok (.aload_n 2, 1)) (d1 : decode cL_law (pc + 1) = .ok (.invokevirtual 97, 3)) (d4 : decode cL_law (pc + 4) = .ok (.iload 5, 2)) (d6 : decode cL_law (pc + 6) = .ok (.if_icmp .eq 5, 3)) (d11 : decode cL_law (pc + 11) = .ok (.iload 5, 2)) (d13 : decode cL_law (pc + 13) = .ok (.ifCond .ne 22, 3)) (d16 : decode cL_law (pc + 16) = .ok (.aload_n 3, 1)) (d17 : decode cL_law (pc + 17) = .ok (.iconst 0, 1)) (d18 : decode cL_law (pc + 18) = .ok (.laload, 1)) (d19 : decode cL_law (pc + 19) = .ok (.iload 6, 2)) (d21 : decode cL_law (pc + 21) = .ok (.ifCond .eq 7, 3)) (d24 : decode cL_law (pc + 24) = .ok (.lconst 1, 1)) (d25 : decode cL_law (pc + 25) = .ok (.goto 4, 3)) (d28 : decode cL_law (pc + 28) = .ok (.lconst 0, 1)) (d29 : decode cL_law (pc + 29) = .ok (.lcmp, 1)) (d30 : decode cL_law (pc + 30) = .ok (.ifCond .eq 5, 3)) (d35 : decode cL_law (pc + 35) = .ok (.goto off, 3)) (hoff : ((pc + 35 : Nat) : Int) + off = ((1613 : Nat) : Int))
    (K : lwK RR p l e s m below meth c b D cA cL Q 1613 i cells slots) : W p l e room_1 s m #[Value.ref b] below meth c H locs cells slots Q (F0 m pc ls []) := by
  have hC0 := hC
  obtain ⟨⟨hx, hb, hml, hown, hts⟩, hX, hbl, hK, hXX, hN, har, hL⟩ := hC
  have fin : ∀ {H : Heap} {locs : List Loc} (o : Int64), lw_I D cA cL s.heap.size ad adm σ μ ob o H → va_S (fun q => s.heap.size ≤ q) s.heap H locs → W p l e room_1 s m #[Value.ref b] below meth c H locs cells slots Q (F0 m (pc + 35) ls []) := fun o hI hS => lv_goto (tgt := 1613) hx hb d35 hoff (K _ _ _ _ _ _ _ _ _ hRR hI hS (lv_sub hl [2, 3, 4, 5, 6] rfl))
  refine lv_aload_n hx hb d0 rfl (lv_at hl 4 rfl) ?_
  refine lw_M (As := []) hC0 hI hS (hth _) ykX4_thrown (by decide +kernel) (by decide +kernel) (by decide +kernel) rfl ⟨rfl, rfl, Nat.le_of_ble_eq_true rfl, Nat.le_of_ble_eq_true rfl⟩ rfl hl.1 rfl (Nat.le_of_ble_eq_true rfl) d1 hf (fun H locs hI hS => ?_)
  refine lv_iload hx hb d4 (lv_at hl 1 rfl) ?_
  refine lv_icmp_eq (tgt := pc + 11) hx hb d6 (by omega) (fun _ => ?_) (fun hne => absurd ht hne)
  refine lv_iload hx hb d11 (lv_at hl 1 rfl) ?_
  refine lv_if_ne (tgt := pc + 35) hx hb d13 (by omega) (fun _ => fin o hI hS) (fun h0 => ?_)
  refine lv_aload_n hx hb d16 rfl (lv_at hl 5 rfl) ?_
  refine lv_iconst (v := 0) hx hb d17 (by decide) ?_
  refine lw_lald hC0 hI d18 ?_
  refine lv_iload hx hb d19 (lv_at hl 0 rfl) ?_
  have ho := hv h0
  refine lv_if_eq (tgt := pc + 28) hx hb d21 (by omega) (fun hz => ?_) (fun hz => ?_)
  · refine lv_lconst (v := 0) hx hb d28 (by decide) ?_
    refine W.lcmp hx hb d29 ?_
    rw [if_pos hz] at ho
    rw [ho, lg_cmp_self]
    exact lv_if_eq (tgt := pc + 35) hx hb d30 (by omega) (fun _ => fin o hI hS) (fun h => absurd rfl h)
  · refine lv_lconst (v := 1) hx hb d24 (by decide) ?_
    refine lv_goto (tgt := pc + 29) hx hb d25 (by omega) ?_
    refine W.lcmp hx hb d29 ?_
    rw [if_neg hz] at ho
    rw [ho, lg_cmp_self]
    exact lv_if_eq (tgt := pc + 35) hx hb d30 (by omega) (fun _ => fin o hI hS) (fun h => absurd rfl h)
end LWR
