/-! THE LAW'S WRAPPERS: each calls a method of the class, lays its answer into the one cell of 'out', or answers which exception came -/
def pl_out (cL : ClassId) (ob : Nat) (o : Int64) (H : Heap) : Prop := ∃ f : Nat → Int64, H[ob]? = some (vp_cell cL (1, .inr (.inl f))) ∧ f 0 = o
def pl_pairs : List (String × String) := [(pw_isX, pw_iaX), (pw_neX, pw_ioX), (pw_isX, pw_ioX), (pw_isX, pw_neX), (pw_iaX, pw_ioX), (pw_iaX, pw_neX)]
def pl_N (U : State) : Prop := ∀ q ∈ pl_pairs, va_Nc q.1 q.2 U
abbrev pl_A (A : Nat → Prop) (ob : Nat) : Nat → Prop := fun q => A q ∧ q ≠ ob
def pl_U (D : va_G) (cA : Nat → ClassId) (cL : ClassId) (A : Nat → Prop) (ad : Nat → Nat) (σ : pw_S) (ob : Nat) (o : Int64) (U : State) : Prop := pw_U D cA shP 12 (pl_A A ob) ad σ U ∧ pl_out cL ob o U.heap ∧ A ob ∧ ArrOfT U cL .long ∧ pl_N U
abbrev pl_Q (D : va_G) (cA : Nat → ClassId) (cL : ClassId) (A : Nat → Prop) (ad : Nat → Nat) (σ : pw_S) (ob : Nat) (ko : Int32 × Int64) := va_Qi (S := Nat → Nat) (fun r ad1 => r = ko.1 ∧ ∀ k, k < 12 → ad1 k = ad k) (fun ad1 t => pw_G D cA shP 12 (pl_A A ob) ad1 σ t.heap ∧ pl_out cL ob ko.2 t.heap) A
/-- which code a wrapper answers, and what lies in 'out' behind it -/
def wrI (L : List String) (o : Int64) (r : Int32 ⊕ String) : Int32 × Int64 := match r with
  | .inl v => (0, v.toInt64)
  | .inr E => (nI (L.idxOf E + 1), o)
def wrZ (L : List String) (o : Int64) (r : Int32 ⊕ String) : Int32 × Int64 := match r with
  | .inl v => (0, if v = 0 then 0 else 1)
  | .inr E => (nI (L.idxOf E + 1), o)
theorem pl_blind {D : va_G} {cA : Nat → ClassId} {cL : ClassId} {A : Nat → Prop} {ad : Nat → Nat} {σ : pw_S} {ob : Nat} {o : Int64} {av : List Value} : FrameBlind (va_Pc av (pl_U D cA cL A ad σ ob o)) := by
  intro a U g mk h
  obtain ⟨h0, h1, h2, h3, h4, h5⟩ := h
  obtain ⟨-, h6⟩ := pw_blind (av := []) #[] U g mk ⟨rfl, h1⟩
  exact ⟨h0, h6, h2, h3, arrOfT_moved (show U.vm.Alike (U.calling g mk a).vm from Vm.Alike.refl U.vm) h4, fun q hq => va_Nc.moved (u := U) (U := U.calling g mk a) (Vm.Alike.refl U.vm) (h5 q hq)⟩
section PLW
variable {p : Program} {l : Launch} {e : Env} {R : Room} {s : State} {m : MethodId} {args : Array Value} {below : List Frame} {meth : Method} {c : Code} {H : Heap} {locs : List Loc} {cells slots : Nat} {Q : State → Prop}
variable {cc : ByteArray} {pc nL : Nat} {ls : Array Slot} {rest st0 : List Value} {D : va_G} {cA : Nat → ClassId} {cL : ClassId} {A : Nat → Prop} {ad ad0 : Nat → Nat} {σ σ' : pw_S} {ob : Nat} {o : Int64}
variable {y : MethodName} {bytes : ByteArray} {maxL n index mc ms mc' ms' : Nat} {ret : Option FieldType} {rm : Room} {As : List Value}
theorem ml_V {r : Int32 ⊕ String} (hC : CallFix p m c cc nL s args wsL_law RL) (hK : va_K D vwCl (pw_ty cA) s) (hA : ∀ q : Nat, s.heap.size ≤ q → A q) (hob : ob < s.heap.size) (hX : pw_X (pl_A A ob) s) (hG : pw_G D cA shP 12 (pl_A A ob) ad σ s.heap)
    (hM : vx_Met l y (wA y bytes maxL ret) rm (pw_Pc D cA shP 12 (pl_A A ob) ad σ (.ref (ad 0) :: As)) (px_Qi D cA shP 12 (pl_A A ob) ad r σ') (px_X D cA shP 12 (pl_A A ob) ad r σ') mc ms (pl_A A ob)) (hY : mw_Y y bytes maxL ret n) (hl : Cond.methodLink RL index y ∈ wsL_law) (hin : Cond.instanceMethod y ∈ wsL_law) (hse : Cond.selects y.cls y y ∈ wsL_law) (hc : vwCl[3]? = some (y.cls, TX3, 11))
    (hR : rm.cells = mc ∧ rm.slots = ms ∧ rm.frames + 1 ≤ R.frames ∧ 8 + (maxL + 11) + rm.locals ≤ R.locals) (hn : As.length = n) (hsz : ls.size = nL) (hst : st0 = As.reverse ++ .ref (ad 0) :: rest) (hW : (rest.map fun v => v.category).sum ≤ 8) (hdg : decode cc pc = .ok (.invokevirtual index, 3)) (hf : 0 + mc ≤ R.cells ∧ 0 + ms ≤ R.slots)
    (kx : ∀ (E : String) (q : Addr) (ce : Cell) (H1 : Heap) (locs1 : List Loc), r = .inr E → pw_G D cA shP 12 (pl_A A ob) ad σ' H1 → H1[ob]? = s.heap[ob]? → va_S A s.heap H1 locs1 → H1[q]? = some ce → ce.vm = .none → s.vm.findClass E = some ce.cls → vx_W p l e R s m args below meth c H1 locs1 (0 + mc) (0 + ms) Q (F0 m pc ls rest) q)
    (kk : ∀ (v : Int32) (ad1 : Nat → Nat) (H1 : Heap) (locs1 : List Loc), r = .inl v → (∀ k, k < 12 → ad1 k = ad k) → pw_G D cA shP 12 (pl_A A ob) ad1 σ' H1 → H1[ob]? = s.heap[ob]? → va_S A s.heap H1 locs1 → W p l e R s m args below meth c H1 locs1 (0 + mc) (0 + ms) Q (F0 m (pc + 3) ls (.int v :: rest))) : W p l e R s m args below meth c s.heap [] 0 0 Q (F0 m pc ls st0) := by
  have hA' : ∀ q : Nat, s.heap.size ≤ q → pl_A A ob q := fun q h => ⟨hA q h, by omega⟩
  have hr := mx_V (e := e) (below := below) (meth := meth) (A := pl_A A ob) hC hK hA' hX hG va_S.rf hM hY hl hin hse (hG.fix (by decide)) rfl hc hR hn hsz hst hW hdg hf
  refine vx_calli hr (A0 := A) (H0 := s.heap) va_S.rf (fun q _ h => h.1) (fun q h => h.1) (fun q _ h => h.1) (fun E ce q9 _ t H1 locs1 ht _ _ hB _ hk hS1 hce hcv hcl => ?_) (fun v _ t H1 locs1 ht _ hp hB _ hk hS1 => ?_)
  · subst ht
    exact kx E q9 ce _ _ hB.1 hB.2 (hk ob hob (fun h => h.2 rfl)) hS1 hce hcv hcl
  · subst ht
    exact kk v ad _ _ hp (fun _ _ => rfl) hB (hk ob hob (fun h => h.2 rfl)) hS1
theorem ml_VA {r : Int32 ⊕ String} (hC : CallFix p m c cc nL s args wsL_law RL) (hK : va_K D vwCl (pw_ty cA) s) (hA : ∀ q : Nat, s.heap.size ≤ q → A q) (hob : ob < s.heap.size) (hX : pw_X (pl_A A ob) s) (hG : pw_G D cA shP 12 (pl_A A ob) ad σ s.heap)
    (hM : vx_Met l y (wA y bytes maxL ret) rm (pw_Pc D cA shP 12 (pl_A A ob) ad σ (.ref (ad 0) :: As)) (pa_Qi D cA shP 12 (pl_A A ob) ad 12 r σ') (px_X D cA shP 12 (pl_A A ob) ad r σ') mc ms (pl_A A ob)) (hY : mw_Y y bytes maxL ret n) (hl : Cond.methodLink RL index y ∈ wsL_law) (hin : Cond.instanceMethod y ∈ wsL_law) (hse : Cond.selects y.cls y y ∈ wsL_law) (hc : vwCl[3]? = some (y.cls, TX3, 11))
    (hR : rm.cells = mc ∧ rm.slots = ms ∧ rm.frames + 1 ≤ R.frames ∧ 8 + (maxL + 11) + rm.locals ≤ R.locals) (hn : As.length = n) (hsz : ls.size = nL) (hst : st0 = As.reverse ++ .ref (ad 0) :: rest) (hW : (rest.map fun v => v.category).sum ≤ 8) (hdg : decode cc pc = .ok (.invokevirtual index, 3)) (hf : 0 + mc ≤ R.cells ∧ 0 + ms ≤ R.slots)
    (kx : ∀ (E : String) (q : Addr) (ce : Cell) (H1 : Heap) (locs1 : List Loc), r = .inr E → pw_G D cA shP 12 (pl_A A ob) ad σ' H1 → H1[ob]? = s.heap[ob]? → va_S A s.heap H1 locs1 → H1[q]? = some ce → ce.vm = .none → s.vm.findClass E = some ce.cls → vx_W p l e R s m args below meth c H1 locs1 (0 + mc) (0 + ms) Q (F0 m pc ls rest) q)
    (kk : ∀ (v : Int32) (ad1 : Nat → Nat) (H1 : Heap) (locs1 : List Loc), r = .inl v → (∀ k, k < 12 → ad1 k = ad k) → pw_G D cA shP 12 (pl_A A ob) ad1 σ' H1 → H1[ob]? = s.heap[ob]? → va_S A s.heap H1 locs1 → W p l e R s m args below meth c H1 locs1 (0 + mc) (0 + ms) Q (F0 m (pc + 3) ls (.int v :: rest))) : W p l e R s m args below meth c s.heap [] 0 0 Q (F0 m pc ls st0) := by
  have hA' : ∀ q : Nat, s.heap.size ≤ q → pl_A A ob q := fun q h => ⟨hA q h, by omega⟩
  have hr := mx_V (e := e) (below := below) (meth := meth) (A := pl_A A ob) hC hK hA' hX hG va_S.rf hM hY hl hin hse (hG.fix (by decide)) rfl hc hR hn hsz hst hW hdg hf
  refine vx_calli hr (A0 := A) (H0 := s.heap) va_S.rf (fun q _ h => h.1) (fun q h => h.1) (fun q _ h => h.1) (fun E ce q9 _ t H1 locs1 ht _ _ hB _ hk hS1 hce hcv hcl => ?_) (fun v ad1 t H1 locs1 ht _ hp hB _ hk hS1 => ?_)
  · subst ht
    exact kx E q9 ce _ _ hB.1 hB.2 (hk ob hob (fun h => h.2 rfl)) hS1 hce hcv hcl
  · subst ht
    exact kk v ad1 _ _ hp.1 hp.2 hB (hk ob hob (fun h => h.2 rfl)) hS1
theorem ml_last (hx : p.tables.exec = Jvm.exec) (hb : c.code = cc) (ho : pl_out cL ob o H) (har : ArrOfT s cL .long) (hAo : A ob) (hG : pw_G D cA shP 12 (pl_A A ob) ad σ H) (hS : va_S A s.heap H locs) {v : Int64} (hdg : decode cc pc = .ok (.lastore, 1))
    (kk : ∀ (H1 : Heap) (locs1 : List Loc), pl_out cL ob v H1 → pw_G D cA shP 12 (pl_A A ob) ad σ H1 → va_S A s.heap H1 locs1 → W p l e R s m args below meth c H1 locs1 cells slots Q (F0 m (pc + 1) ls rest)) : W p l e R s m args below meth c H locs cells slots Q (F0 m pc ls (.long v :: .int 0 :: .ref ob :: rest)) := by
  obtain ⟨f, hc, -⟩ := ho
  refine W.last hx hb hc (har 1 (fun j => .long (f j))) (fun q => by cases q) (by show ¬ ((0 : Int32) < 0 ∨ (arrV _ _ _).slots.size ≤ _); rw [arrV_size]; show ¬ ((0 : Int32) < 0 ∨ 1 ≤ (0 : Int32).toNatClampNeg); decide +kernel) rfl rfl hdg fun H1 e1 z oq => ?_
  refine kk H1 _ ⟨vp_updL f 0 v, ?_, pk_uLs⟩ (hG.kept fun k hk => oq _ (hG.2.2.1 k hk).2) (hS.put z oq hAo)
  rw [e1, vp_cell_l, vp_cell_l, arrV_store]
  congr 2
  funext q
  rw [show (0 : Int32).toNatClampNeg = 0 from z0_cl]
  by_cases hq : q = 0
  · subst hq
    simp [updV, vp_updL]
  · simp [updV, vp_updL, hq]
theorem ml_ret {v : Int32} {ko : Int32 × Int64} (hC : CallFix p m c cc nL s args wsL_law RL) (hr : meth.sig.returnType = some .int) (hlocks : meth.locks = false) (hv : v = ko.1) (hag : ∀ k, k < 12 → ad k = ad0 k) (hG : pw_G D cA shP 12 (pl_A A ob) ad σ H) (ho : pl_out cL ob ko.2 H) (hS : va_S A s.heap H locs) (hc : cells ≤ mc) (hs : slots ≤ ms) (hdg : decode cc pc = .ok (.ireturn, 1)) : W p l e R s m args below meth c H locs cells slots (MQ below (pl_Q D cA cL A ad0 σ ob ko) args s mc ms A) (F0 m pc ls [.int v]) := by
  subst hv
  refine W.widen hc hs ?_
  exact W.iret hC.1 hC.2.1 hr (fun t ht _ => ⟨⟨_, ad, rfl, ⟨rfl, hag⟩, by subst ht; exact ⟨hG, ho⟩⟩, hS.F ht⟩) hS.2.2 hdg hlocks
/-- the entry of a wrapper -/
theorem ml_enter {Qc : Array Value → State → Outcome → State → Prop} {av : List Value} {hh : List (Nat × Nat × Nat × Nat)} (hy : plainName y.cls = true) (ho : y.cls = RL) (hlen : (lg_sl av).length ≤ maxL)
    (body : ∀ p e s m args below meth c ls, CallFix p m c bytes maxL s args wsL_law RL → meth.sig.returnType = ret → meth.locks = false → c.exceptionTable.toList = tableOf hh → pl_U D cA cL A ad σ ob o s → lv_has ls maxL (lv_args 0 av) → W p l e rm s m args below meth c s.heap [] 0 0 (MQ below Qc args s mc ms A) (F0 m 0 ls [])) : Met l y (Cond.codeWith y bytes maxL ret hh :: wsL_law) rm (va_Pc av (pl_U D cA cL A ad σ ob o)) Qc mc ms A := by
  refine va_MetW (cc := bytes) (maxL := maxL) (ret := ret) hy rfl ?_
  intro p e s m args below meth c s₁ B hml hv
  obtain ⟨rfl, hU⟩ := hv
  have hts := atoms_spec (ws := Cond.codeWith y bytes maxL ret hh :: wsL_law) B.pre
  have hl := lv_entry av (n := maxL) hlen
  rw [lg_entry_eq]
  exact body p e s m _ below meth c _ ⟨B.exec, B.bytes, hml, ho ▸ findClass_of_methodNamed B.named, fun w hw => hts w (List.mem_cons_of_mem _ hw)⟩ B.returns B.notSynchronized (vx_table (x := y) B (hts _ List.mem_cons_self)) hU hl
end PLW
set_option maxHeartbeats 4000000 in
set_option maxRecDepth 100000 in
theorem kL_setFrames (l : Launch) (D : va_G) (cA : Nat → ClassId) (cL : ClassId) (A : Nat → Prop) (ad : Nat → Nat) (hlt : l.stackTraces = false) {σ σ' : pw_S} {r : Int32 ⊕ String} {a1 : Int32} {ob : Nat} {o : Int64} (hf : fX3_setFrames a1 σ = some (r, σ')) (hE : ∀ E, r = .inr E → E ∈ [pw_iaX, pw_isX]) : Met l yL_setFrames (Cond.codeWith yL_setFrames cL_setFrames 4 (some .int) [(0, 9, 12, 13), (0, 9, 15, 15)] :: wsL_law) ({ frames := 7, cells := 1, slots := 6, locals := 104 }) (va_Pc [.ref (ad 0), .int a1, .ref ob] (pl_U D cA cL A ad σ ob o)) (pl_Q D cA cL A ad σ' ob (wrI [pw_iaX, pw_isX] o r)) 1 6 A := by
  refine ml_enter (by decide) rfl (Nat.le_of_ble_eq_true rfl) ?_
  intro p e s m args below meth c ls hC hr hlocks htab hU hl
  obtain ⟨hx, hb, hml, hown, hts⟩ := id hC
  obtain ⟨⟨hG, hK, hA', hX⟩, ho, hAo, har, hNc⟩ := hU
  have hob : ob < s.heap.size := by obtain ⟨f, h1, -⟩ := ho; exact (Array.getElem?_eq_some_iff.mp h1).1
  have hA : ∀ q : Nat, s.heap.size ≤ q → A q := fun q h => (hA' q h).1
  have hl : lv_has ls 4 [(0, .ref (ad 0)), (1, .int a1), (2, .ref ob)] := hl
  refine lv_aload_n hx hb dL_setFrames_0 rfl (lv_at hl 2 rfl) ?_
  refine lv_iconst (v := 0) hx hb dL_setFrames_1 (by decide) ?_
  refine lv_aload_n hx hb dL_setFrames_2 rfl (lv_at hl 0 rfl) ?_
  refine lv_iload_n hx hb dL_setFrames_3 rfl (lv_at hl 1 rfl) ?_
  refine ml_V (As := [.int a1]) hC hK hA hob hX hG (kX3_setFrames l D cA (pl_A A ob) ad hlt hf) ykX3_setFrames wA_75 wA_76 wA_77 rfl ⟨rfl, rfl, Nat.le_of_ble_eq_true rfl, Nat.le_of_ble_eq_true rfl⟩ rfl hl.1 rfl (Nat.le_of_ble_eq_true rfl) dL_setFrames_4 ⟨Nat.le_of_ble_eq_true rfl, Nat.le_of_ble_eq_true rfl⟩ (fun E q ce H locs hE1 hG hob1 hS hce hcv hcl => ?_) (fun v ad1 H locs hv hag hG hob1 hS => ?_)
  · have ho1 : pl_out cL ob o H := by obtain ⟨f, h1, h2⟩ := ho; exact ⟨f, hob1.trans h1, h2⟩
    have hm := hE E hE1
    simp only [List.mem_cons, List.not_mem_nil, or_false] at hm
    rcases hm with rfl | rfl
    · refine vx_catch (own := RL) (name := pw_iaX) hown [] ⟨0, 9, 12, 13⟩ [⟨0, 9, 15, 15⟩] (htab.trans rfl) (fun z hz => absurd hz List.not_mem_nil) rfl (by decide) (hts _ wA_73) (va_Nw.use rfl (hX.2.2.2.1 pw_iaX (by decide))) hce hcv hcl ?_
      refine lv_astore_n (lv' := [(3, .ref q), (0, .ref (ad 0)), (1, .int a1), (2, .ref ob)]) hx hb dL_setFrames_12 rfl hl (by decide) rfl (fun ls hl => ?_)
      refine lv_iconst (v := 1) hx hb dL_setFrames_13 (by decide) ?_
      exact ml_ret (ad0 := ad) hC hr hlocks (by rw [hE1]; show (1 : Int32) = nI (List.idxOf pw_iaX [pw_iaX, pw_isX] + 1); decide +kernel) (fun _ _ => rfl) hG (by rw [hE1]; exact ho1) hS (Nat.le_of_ble_eq_true rfl) (Nat.le_of_ble_eq_true rfl) dL_setFrames_14
    · refine vx_catch (own := RL) (name := pw_isX) hown [⟨0, 9, 12, 13⟩] ⟨0, 9, 15, 15⟩ [] (htab.trans rfl) (fun z hz => by obtain rfl := List.mem_singleton.mp hz; exact Or.inr ⟨by decide, pw_iaX, hts _ wA_73, hNc (pw_isX, pw_iaX) (List.mem_of_getElem? (i := 0) rfl)⟩) rfl (by decide) (hts _ wA_74) (va_Nw.use rfl (hX.2.2.2.1 pw_isX (by decide))) hce hcv hcl ?_
      refine lv_astore_n (lv' := [(3, .ref q), (0, .ref (ad 0)), (1, .int a1), (2, .ref ob)]) hx hb dL_setFrames_15 rfl hl (by decide) rfl (fun ls hl => ?_)
      refine lv_iconst (v := 2) hx hb dL_setFrames_16 (by decide) ?_
      exact ml_ret (ad0 := ad) hC hr hlocks (by rw [hE1]; show (2 : Int32) = nI (List.idxOf pw_isX [pw_iaX, pw_isX] + 1); decide +kernel) (fun _ _ => rfl) hG (by rw [hE1]; exact ho1) hS (Nat.le_of_ble_eq_true rfl) (Nat.le_of_ble_eq_true rfl) dL_setFrames_17
  · have ho1 : pl_out cL ob o H := by obtain ⟨f, h1, h2⟩ := ho; exact ⟨f, hob1.trans h1, h2⟩
    refine lv_i2l (v := v.toInt64) hx hb dL_setFrames_7 rfl ?_
    refine ml_last hx hb ho1 har hAo hG hS dL_setFrames_8 (fun H locs ho1 hG hS => ?_)
    refine lv_goto (tgt := 18) hx hb dL_setFrames_9 (by decide) ?_
    refine lv_iconst (v := 0) hx hb dL_setFrames_18 (by decide) ?_
    exact ml_ret (ad0 := ad) hC hr hlocks (by rw [hv]; rfl) hag hG (by rw [hv]; exact ho1) hS (Nat.le_of_ble_eq_true rfl) (Nat.le_of_ble_eq_true rfl) dL_setFrames_19
set_option maxHeartbeats 4000000 in
set_option maxRecDepth 100000 in
theorem kL_setWindow (l : Launch) (D : va_G) (cA : Nat → ClassId) (cL : ClassId) (A : Nat → Prop) (ad : Nat → Nat) (hlt : l.stackTraces = false) {σ σ' : pw_S} {r : Int32 ⊕ String} {a1 : Int32} {ob : Nat} {o : Int64} (hf : fX3_setWindow a1 σ = some (r, σ')) (hE : ∀ E, r = .inr E → E ∈ [pw_iaX]) : Met l yL_setWindow (Cond.codeWith yL_setWindow cL_setWindow 4 (some .int) [(0, 9, 12, 13)] :: wsL_law) ({ frames := 7, cells := 1, slots := 6, locals := 104 }) (va_Pc [.ref (ad 0), .int a1, .ref ob] (pl_U D cA cL A ad σ ob o)) (pl_Q D cA cL A ad σ' ob (wrI [pw_iaX] o r)) 1 6 A := by
  refine ml_enter (by decide) rfl (Nat.le_of_ble_eq_true rfl) ?_
  intro p e s m args below meth c ls hC hr hlocks htab hU hl
  obtain ⟨hx, hb, hml, hown, hts⟩ := id hC
  obtain ⟨⟨hG, hK, hA', hX⟩, ho, hAo, har, hNc⟩ := hU
  have hob : ob < s.heap.size := by obtain ⟨f, h1, -⟩ := ho; exact (Array.getElem?_eq_some_iff.mp h1).1
  have hA : ∀ q : Nat, s.heap.size ≤ q → A q := fun q h => (hA' q h).1
  have hl : lv_has ls 4 [(0, .ref (ad 0)), (1, .int a1), (2, .ref ob)] := hl
  refine lv_aload_n hx hb dL_setWindow_0 rfl (lv_at hl 2 rfl) ?_
  refine lv_iconst (v := 0) hx hb dL_setWindow_1 (by decide) ?_
  refine lv_aload_n hx hb dL_setWindow_2 rfl (lv_at hl 0 rfl) ?_
  refine lv_iload_n hx hb dL_setWindow_3 rfl (lv_at hl 1 rfl) ?_
  refine ml_V (As := [.int a1]) hC hK hA hob hX hG (kX3_setWindow l D cA (pl_A A ob) ad hlt hf) ykX3_setWindow wA_110 wA_111 wA_112 rfl ⟨rfl, rfl, Nat.le_of_ble_eq_true rfl, Nat.le_of_ble_eq_true rfl⟩ rfl hl.1 rfl (Nat.le_of_ble_eq_true rfl) dL_setWindow_4 ⟨Nat.le_of_ble_eq_true rfl, Nat.le_of_ble_eq_true rfl⟩ (fun E q ce H locs hE1 hG hob1 hS hce hcv hcl => ?_) (fun v ad1 H locs hv hag hG hob1 hS => ?_)
  · have ho1 : pl_out cL ob o H := by obtain ⟨f, h1, h2⟩ := ho; exact ⟨f, hob1.trans h1, h2⟩
    have hm := hE E hE1
    obtain rfl := List.mem_singleton.mp hm
    refine vx_catch (own := RL) (name := pw_iaX) hown [] ⟨0, 9, 12, 13⟩ [] (htab.trans rfl) (fun z hz => absurd hz List.not_mem_nil) rfl (by decide) (hts _ wA_73) (va_Nw.use rfl (hX.2.2.2.1 pw_iaX (by decide))) hce hcv hcl ?_
    refine lv_astore_n (lv' := [(3, .ref q), (0, .ref (ad 0)), (1, .int a1), (2, .ref ob)]) hx hb dL_setWindow_12 rfl hl (by decide) rfl (fun ls hl => ?_)
    refine lv_iconst (v := 1) hx hb dL_setWindow_13 (by decide) ?_
    exact ml_ret (ad0 := ad) hC hr hlocks (by rw [hE1]; show (1 : Int32) = nI (List.idxOf pw_iaX [pw_iaX] + 1); decide +kernel) (fun _ _ => rfl) hG (by rw [hE1]; exact ho1) hS (Nat.le_of_ble_eq_true rfl) (Nat.le_of_ble_eq_true rfl) dL_setWindow_14
  · have ho1 : pl_out cL ob o H := by obtain ⟨f, h1, h2⟩ := ho; exact ⟨f, hob1.trans h1, h2⟩
    refine lv_i2l (v := v.toInt64) hx hb dL_setWindow_7 rfl ?_
    refine ml_last hx hb ho1 har hAo hG hS dL_setWindow_8 (fun H locs ho1 hG hS => ?_)
    refine lv_goto (tgt := 15) hx hb dL_setWindow_9 (by decide) ?_
    refine lv_iconst (v := 0) hx hb dL_setWindow_15 (by decide) ?_
    exact ml_ret (ad0 := ad) hC hr hlocks (by rw [hv]; rfl) hag hG (by rw [hv]; exact ho1) hS (Nat.le_of_ble_eq_true rfl) (Nat.le_of_ble_eq_true rfl) dL_setWindow_16
set_option maxHeartbeats 4000000 in
set_option maxRecDepth 100000 in
theorem kL_start (l : Launch) (D : va_G) (cA : Nat → ClassId) (cL : ClassId) (A : Nat → Prop) (ad : Nat → Nat) (hlt : l.stackTraces = false) {σ σ' : pw_S} {r : Int32 ⊕ String} {ob : Nat} {o : Int64} (hf : fX3_start σ = some (r, σ')) (hE : ∀ E, r = .inr E → E ∈ [pw_isX]) : Met l yL_start (Cond.codeWith yL_start cL_start 3 (some .int) [(0, 8, 11, 15)] :: wsL_law) ({ frames := 8, cells := 1, slots := 6, locals := 122 }) (va_Pc [.ref (ad 0), .ref ob] (pl_U D cA cL A ad σ ob o)) (pl_Q D cA cL A ad σ' ob (wrI [pw_isX] o r)) 1 6 A := by
  refine ml_enter (by decide) rfl (Nat.le_of_ble_eq_true rfl) ?_
  intro p e s m args below meth c ls hC hr hlocks htab hU hl
  obtain ⟨hx, hb, hml, hown, hts⟩ := id hC
  obtain ⟨⟨hG, hK, hA', hX⟩, ho, hAo, har, hNc⟩ := hU
  have hob : ob < s.heap.size := by obtain ⟨f, h1, -⟩ := ho; exact (Array.getElem?_eq_some_iff.mp h1).1
  have hA : ∀ q : Nat, s.heap.size ≤ q → A q := fun q h => (hA' q h).1
  have hl : lv_has ls 3 [(0, .ref (ad 0)), (1, .ref ob)] := hl
  refine lv_aload_n hx hb dL_start_0 rfl (lv_at hl 1 rfl) ?_
  refine lv_iconst (v := 0) hx hb dL_start_1 (by decide) ?_
  refine lv_aload_n hx hb dL_start_2 rfl (lv_at hl 0 rfl) ?_
  refine ml_V (As := []) hC hK hA hob hX hG (kX3_start l D cA (pl_A A ob) ad hlt hf) ykX3_start wA_121 wA_122 wA_123 rfl ⟨rfl, rfl, Nat.le_of_ble_eq_true rfl, Nat.le_of_ble_eq_true rfl⟩ rfl hl.1 rfl (Nat.le_of_ble_eq_true rfl) dL_start_3 ⟨Nat.le_of_ble_eq_true rfl, Nat.le_of_ble_eq_true rfl⟩ (fun E q ce H locs hE1 hG hob1 hS hce hcv hcl => ?_) (fun v ad1 H locs hv hag hG hob1 hS => ?_)
  · have ho1 : pl_out cL ob o H := by obtain ⟨f, h1, h2⟩ := ho; exact ⟨f, hob1.trans h1, h2⟩
    have hm := hE E hE1
    obtain rfl := List.mem_singleton.mp hm
    refine vx_catch (own := RL) (name := pw_isX) hown [] ⟨0, 8, 11, 15⟩ [] (htab.trans rfl) (fun z hz => absurd hz List.not_mem_nil) rfl (by decide) (hts _ wA_74) (va_Nw.use rfl (hX.2.2.2.1 pw_isX (by decide))) hce hcv hcl ?_
    refine lv_astore_n (lv' := [(2, .ref q), (0, .ref (ad 0)), (1, .ref ob)]) hx hb dL_start_11 rfl hl (by decide) rfl (fun ls hl => ?_)
    refine lv_iconst (v := 1) hx hb dL_start_12 (by decide) ?_
    exact ml_ret (ad0 := ad) hC hr hlocks (by rw [hE1]; show (1 : Int32) = nI (List.idxOf pw_isX [pw_isX] + 1); decide +kernel) (fun _ _ => rfl) hG (by rw [hE1]; exact ho1) hS (Nat.le_of_ble_eq_true rfl) (Nat.le_of_ble_eq_true rfl) dL_start_13
  · have ho1 : pl_out cL ob o H := by obtain ⟨f, h1, h2⟩ := ho; exact ⟨f, hob1.trans h1, h2⟩
    refine lv_i2l (v := v.toInt64) hx hb dL_start_6 rfl ?_
    refine ml_last hx hb ho1 har hAo hG hS dL_start_7 (fun H locs ho1 hG hS => ?_)
    refine lv_goto (tgt := 14) hx hb dL_start_8 (by decide) ?_
    refine lv_iconst (v := 0) hx hb dL_start_14 (by decide) ?_
    exact ml_ret (ad0 := ad) hC hr hlocks (by rw [hv]; rfl) hag hG (by rw [hv]; exact ho1) hS (Nat.le_of_ble_eq_true rfl) (Nat.le_of_ble_eq_true rfl) dL_start_15
set_option maxHeartbeats 4000000 in
set_option maxRecDepth 100000 in
theorem kL_fork (l : Launch) (D : va_G) (cA : Nat → ClassId) (cL : ClassId) (A : Nat → Prop) (ad : Nat → Nat) (hlt : l.stackTraces = false) {σ σ' : pw_S} {r : Int32 ⊕ String} {a1 : Int32} {ob : Nat} {o : Int64} (hf : fX3_fork a1 σ = some (r, σ')) (hE : ∀ E, r = .inr E → E ∈ [pw_ioX, pw_neX, pw_isX]) : Met l yL_fork (Cond.codeWith yL_fork cL_fork 4 (some .int) [(0, 9, 12, 27), (0, 9, 15, 29), (0, 9, 18, 15)] :: wsL_law) ({ frames := 8, cells := 3, slots := 18, locals := 127 }) (va_Pc [.ref (ad 0), .int a1, .ref ob] (pl_U D cA cL A ad σ ob o)) (pl_Q D cA cL A ad σ' ob (wrI [pw_ioX, pw_neX, pw_isX] o r)) 3 18 A := by
  refine ml_enter (by decide) rfl (Nat.le_of_ble_eq_true rfl) ?_
  intro p e s m args below meth c ls hC hr hlocks htab hU hl
  obtain ⟨hx, hb, hml, hown, hts⟩ := id hC
  obtain ⟨⟨hG, hK, hA', hX⟩, ho, hAo, har, hNc⟩ := hU
  have hob : ob < s.heap.size := by obtain ⟨f, h1, -⟩ := ho; exact (Array.getElem?_eq_some_iff.mp h1).1
  have hA : ∀ q : Nat, s.heap.size ≤ q → A q := fun q h => (hA' q h).1
  have hl : lv_has ls 4 [(0, .ref (ad 0)), (1, .int a1), (2, .ref ob)] := hl
  refine lv_aload_n hx hb dL_fork_0 rfl (lv_at hl 2 rfl) ?_
  refine lv_iconst (v := 0) hx hb dL_fork_1 (by decide) ?_
  refine lv_aload_n hx hb dL_fork_2 rfl (lv_at hl 0 rfl) ?_
  refine lv_iload_n hx hb dL_fork_3 rfl (lv_at hl 1 rfl) ?_
  refine ml_V (As := [.int a1]) hC hK hA hob hX hG (kX3_fork l D cA (pl_A A ob) ad hlt hf) ykX3_fork wA_146 wA_147 wA_148 rfl ⟨rfl, rfl, Nat.le_of_ble_eq_true rfl, Nat.le_of_ble_eq_true rfl⟩ rfl hl.1 rfl (Nat.le_of_ble_eq_true rfl) dL_fork_4 ⟨Nat.le_of_ble_eq_true rfl, Nat.le_of_ble_eq_true rfl⟩ (fun E q ce H locs hE1 hG hob1 hS hce hcv hcl => ?_) (fun v ad1 H locs hv hag hG hob1 hS => ?_)
  · have ho1 : pl_out cL ob o H := by obtain ⟨f, h1, h2⟩ := ho; exact ⟨f, hob1.trans h1, h2⟩
    have hm := hE E hE1
    simp only [List.mem_cons, List.not_mem_nil, or_false] at hm
    rcases hm with rfl | rfl | rfl
    · refine vx_catch (own := RL) (name := pw_ioX) hown [] ⟨0, 9, 12, 27⟩ [⟨0, 9, 15, 29⟩, ⟨0, 9, 18, 15⟩] (htab.trans rfl) (fun z hz => absurd hz List.not_mem_nil) rfl (by decide) (hts _ wA_144) (va_Nw.use rfl (hX.2.2.2.1 pw_ioX (by decide))) hce hcv hcl ?_
      refine lv_astore_n (lv' := [(3, .ref q), (0, .ref (ad 0)), (1, .int a1), (2, .ref ob)]) hx hb dL_fork_12 rfl hl (by decide) rfl (fun ls hl => ?_)
      refine lv_iconst (v := 1) hx hb dL_fork_13 (by decide) ?_
      exact ml_ret (ad0 := ad) hC hr hlocks (by rw [hE1]; show (1 : Int32) = nI (List.idxOf pw_ioX [pw_ioX, pw_neX, pw_isX] + 1); decide +kernel) (fun _ _ => rfl) hG (by rw [hE1]; exact ho1) hS (Nat.le_of_ble_eq_true rfl) (Nat.le_of_ble_eq_true rfl) dL_fork_14
    · refine vx_catch (own := RL) (name := pw_neX) hown [⟨0, 9, 12, 27⟩] ⟨0, 9, 15, 29⟩ [⟨0, 9, 18, 15⟩] (htab.trans rfl) (fun z hz => by obtain rfl := List.mem_singleton.mp hz; exact Or.inr ⟨by decide, pw_ioX, hts _ wA_144, hNc (pw_neX, pw_ioX) (List.mem_of_getElem? (i := 1) rfl)⟩) rfl (by decide) (hts _ wA_145) (va_Nw.use rfl (hX.2.2.2.1 pw_neX (by decide))) hce hcv hcl ?_
      refine lv_astore_n (lv' := [(3, .ref q), (0, .ref (ad 0)), (1, .int a1), (2, .ref ob)]) hx hb dL_fork_15 rfl hl (by decide) rfl (fun ls hl => ?_)
      refine lv_iconst (v := 2) hx hb dL_fork_16 (by decide) ?_
      exact ml_ret (ad0 := ad) hC hr hlocks (by rw [hE1]; show (2 : Int32) = nI (List.idxOf pw_neX [pw_ioX, pw_neX, pw_isX] + 1); decide +kernel) (fun _ _ => rfl) hG (by rw [hE1]; exact ho1) hS (Nat.le_of_ble_eq_true rfl) (Nat.le_of_ble_eq_true rfl) dL_fork_17
    · refine vx_catch (own := RL) (name := pw_isX) hown [⟨0, 9, 12, 27⟩, ⟨0, 9, 15, 29⟩] ⟨0, 9, 18, 15⟩ [] (htab.trans rfl) (fun z hz => by
            simp only [List.mem_cons, List.not_mem_nil, or_false] at hz
            rcases hz with rfl | rfl
            · exact Or.inr ⟨by decide, pw_ioX, hts _ wA_144, hNc (pw_isX, pw_ioX) (List.mem_of_getElem? (i := 2) rfl)⟩
            · exact Or.inr ⟨by decide, pw_neX, hts _ wA_145, hNc (pw_isX, pw_neX) (List.mem_of_getElem? (i := 3) rfl)⟩) rfl (by decide) (hts _ wA_74) (va_Nw.use rfl (hX.2.2.2.1 pw_isX (by decide))) hce hcv hcl ?_
      refine lv_astore_n (lv' := [(3, .ref q), (0, .ref (ad 0)), (1, .int a1), (2, .ref ob)]) hx hb dL_fork_18 rfl hl (by decide) rfl (fun ls hl => ?_)
      refine lv_iconst (v := 3) hx hb dL_fork_19 (by decide) ?_
      exact ml_ret (ad0 := ad) hC hr hlocks (by rw [hE1]; show (3 : Int32) = nI (List.idxOf pw_isX [pw_ioX, pw_neX, pw_isX] + 1); decide +kernel) (fun _ _ => rfl) hG (by rw [hE1]; exact ho1) hS (Nat.le_of_ble_eq_true rfl) (Nat.le_of_ble_eq_true rfl) dL_fork_20
  · have ho1 : pl_out cL ob o H := by obtain ⟨f, h1, h2⟩ := ho; exact ⟨f, hob1.trans h1, h2⟩
    refine lv_i2l (v := v.toInt64) hx hb dL_fork_7 rfl ?_
    refine ml_last hx hb ho1 har hAo hG hS dL_fork_8 (fun H locs ho1 hG hS => ?_)
    refine lv_goto (tgt := 21) hx hb dL_fork_9 (by decide) ?_
    refine lv_iconst (v := 0) hx hb dL_fork_21 (by decide) ?_
    exact ml_ret (ad0 := ad) hC hr hlocks (by rw [hv]; rfl) hag hG (by rw [hv]; exact ho1) hS (Nat.le_of_ble_eq_true rfl) (Nat.le_of_ble_eq_true rfl) dL_fork_22
set_option maxHeartbeats 4000000 in
set_option maxRecDepth 100000 in
theorem kL_exit (l : Launch) (D : va_G) (cA : Nat → ClassId) (cL : ClassId) (A : Nat → Prop) (ad : Nat → Nat) (hlt : l.stackTraces = false) {σ σ' : pw_S} {r : Int32 ⊕ String} {a1 : Int32} {ob : Nat} {o : Int64} (hf : fX3_exit a1 σ = some (r, σ')) (hE : ∀ E, r = .inr E → E ∈ [pw_ioX, pw_neX]) : Met l yL_exit (Cond.codeWith yL_exit cL_exit 4 (some .int) [(0, 9, 12, 27), (0, 9, 15, 29)] :: wsL_law) ({ frames := 8, cells := 2, slots := 12, locals := 126 }) (va_Pc [.ref (ad 0), .int a1, .ref ob] (pl_U D cA cL A ad σ ob o)) (pl_Q D cA cL A ad σ' ob (wrI [pw_ioX, pw_neX] o r)) 2 12 A := by
  refine ml_enter (by decide) rfl (Nat.le_of_ble_eq_true rfl) ?_
  intro p e s m args below meth c ls hC hr hlocks htab hU hl
  obtain ⟨hx, hb, hml, hown, hts⟩ := id hC
  obtain ⟨⟨hG, hK, hA', hX⟩, ho, hAo, har, hNc⟩ := hU
  have hob : ob < s.heap.size := by obtain ⟨f, h1, -⟩ := ho; exact (Array.getElem?_eq_some_iff.mp h1).1
  have hA : ∀ q : Nat, s.heap.size ≤ q → A q := fun q h => (hA' q h).1
  have hl : lv_has ls 4 [(0, .ref (ad 0)), (1, .int a1), (2, .ref ob)] := hl
  refine lv_aload_n hx hb dL_exit_0 rfl (lv_at hl 2 rfl) ?_
  refine lv_iconst (v := 0) hx hb dL_exit_1 (by decide) ?_
  refine lv_aload_n hx hb dL_exit_2 rfl (lv_at hl 0 rfl) ?_
  refine lv_iload_n hx hb dL_exit_3 rfl (lv_at hl 1 rfl) ?_
  refine ml_V (As := [.int a1]) hC hK hA hob hX hG (kX3_exit l D cA (pl_A A ob) ad hlt hf) ykX3_exit wA_182 wA_183 wA_184 rfl ⟨rfl, rfl, Nat.le_of_ble_eq_true rfl, Nat.le_of_ble_eq_true rfl⟩ rfl hl.1 rfl (Nat.le_of_ble_eq_true rfl) dL_exit_4 ⟨Nat.le_of_ble_eq_true rfl, Nat.le_of_ble_eq_true rfl⟩ (fun E q ce H locs hE1 hG hob1 hS hce hcv hcl => ?_) (fun v ad1 H locs hv hag hG hob1 hS => ?_)
  · have ho1 : pl_out cL ob o H := by obtain ⟨f, h1, h2⟩ := ho; exact ⟨f, hob1.trans h1, h2⟩
    have hm := hE E hE1
    simp only [List.mem_cons, List.not_mem_nil, or_false] at hm
    rcases hm with rfl | rfl
    · refine vx_catch (own := RL) (name := pw_ioX) hown [] ⟨0, 9, 12, 27⟩ [⟨0, 9, 15, 29⟩] (htab.trans rfl) (fun z hz => absurd hz List.not_mem_nil) rfl (by decide) (hts _ wA_144) (va_Nw.use rfl (hX.2.2.2.1 pw_ioX (by decide))) hce hcv hcl ?_
      refine lv_astore_n (lv' := [(3, .ref q), (0, .ref (ad 0)), (1, .int a1), (2, .ref ob)]) hx hb dL_exit_12 rfl hl (by decide) rfl (fun ls hl => ?_)
      refine lv_iconst (v := 1) hx hb dL_exit_13 (by decide) ?_
      exact ml_ret (ad0 := ad) hC hr hlocks (by rw [hE1]; show (1 : Int32) = nI (List.idxOf pw_ioX [pw_ioX, pw_neX] + 1); decide +kernel) (fun _ _ => rfl) hG (by rw [hE1]; exact ho1) hS (Nat.le_of_ble_eq_true rfl) (Nat.le_of_ble_eq_true rfl) dL_exit_14
    · refine vx_catch (own := RL) (name := pw_neX) hown [⟨0, 9, 12, 27⟩] ⟨0, 9, 15, 29⟩ [] (htab.trans rfl) (fun z hz => by obtain rfl := List.mem_singleton.mp hz; exact Or.inr ⟨by decide, pw_ioX, hts _ wA_144, hNc (pw_neX, pw_ioX) (List.mem_of_getElem? (i := 1) rfl)⟩) rfl (by decide) (hts _ wA_145) (va_Nw.use rfl (hX.2.2.2.1 pw_neX (by decide))) hce hcv hcl ?_
      refine lv_astore_n (lv' := [(3, .ref q), (0, .ref (ad 0)), (1, .int a1), (2, .ref ob)]) hx hb dL_exit_15 rfl hl (by decide) rfl (fun ls hl => ?_)
      refine lv_iconst (v := 2) hx hb dL_exit_16 (by decide) ?_
      exact ml_ret (ad0 := ad) hC hr hlocks (by rw [hE1]; show (2 : Int32) = nI (List.idxOf pw_neX [pw_ioX, pw_neX] + 1); decide +kernel) (fun _ _ => rfl) hG (by rw [hE1]; exact ho1) hS (Nat.le_of_ble_eq_true rfl) (Nat.le_of_ble_eq_true rfl) dL_exit_17
  · have ho1 : pl_out cL ob o H := by obtain ⟨f, h1, h2⟩ := ho; exact ⟨f, hob1.trans h1, h2⟩
    refine lv_i2l (v := v.toInt64) hx hb dL_exit_7 rfl ?_
    refine ml_last hx hb ho1 har hAo hG hS dL_exit_8 (fun H locs ho1 hG hS => ?_)
    refine lv_goto (tgt := 18) hx hb dL_exit_9 (by decide) ?_
    refine lv_iconst (v := 0) hx hb dL_exit_18 (by decide) ?_
    exact ml_ret (ad0 := ad) hC hr hlocks (by rw [hv]; rfl) hag hG (by rw [hv]; exact ho1) hS (Nat.le_of_ble_eq_true rfl) (Nat.le_of_ble_eq_true rfl) dL_exit_19
set_option maxHeartbeats 4000000 in
set_option maxRecDepth 100000 in
theorem kL_map (l : Launch) (D : va_G) (cA : Nat → ClassId) (cL : ClassId) (A : Nat → Prop) (ad : Nat → Nat) (hlt : l.stackTraces = false) {σ σ' : pw_S} {r : Int32 ⊕ String} {a1 : Int32} {a2 : Int32} {ob : Nat} {o : Int64} (hf : fX3_map a1 a2 σ = some (r, σ')) (hE : ∀ E, r = .inr E → E ∈ [pw_ioX, pw_neX, pw_iaX]) : Met l yL_map (Cond.codeWith yL_map cL_map 5 (some .int) [(0, 10, 13, 27), (0, 10, 17, 29), (0, 10, 21, 13)] :: wsL_law) ({ frames := 9, cells := 6, slots := 35, locals := 147 }) (va_Pc [.ref (ad 0), .int a1, .int a2, .ref ob] (pl_U D cA cL A ad σ ob o)) (pl_Q D cA cL A ad σ' ob (wrI [pw_ioX, pw_neX, pw_iaX] o r)) 6 35 A := by
  refine ml_enter (by decide) rfl (Nat.le_of_ble_eq_true rfl) ?_
  intro p e s m args below meth c ls hC hr hlocks htab hU hl
  obtain ⟨hx, hb, hml, hown, hts⟩ := id hC
  obtain ⟨⟨hG, hK, hA', hX⟩, ho, hAo, har, hNc⟩ := hU
  have hob : ob < s.heap.size := by obtain ⟨f, h1, -⟩ := ho; exact (Array.getElem?_eq_some_iff.mp h1).1
  have hA : ∀ q : Nat, s.heap.size ≤ q → A q := fun q h => (hA' q h).1
  have hl : lv_has ls 5 [(0, .ref (ad 0)), (1, .int a1), (2, .int a2), (3, .ref ob)] := hl
  refine lv_aload_n hx hb dL_map_0 rfl (lv_at hl 3 rfl) ?_
  refine lv_iconst (v := 0) hx hb dL_map_1 (by decide) ?_
  refine lv_aload_n hx hb dL_map_2 rfl (lv_at hl 0 rfl) ?_
  refine lv_iload_n hx hb dL_map_3 rfl (lv_at hl 1 rfl) ?_
  refine lv_iload_n hx hb dL_map_4 rfl (lv_at hl 2 rfl) ?_
  refine ml_VA (As := [.int a1, .int a2]) hC hK hA hob hX hG (kX3_map l D cA (pl_A A ob) ad hlt hf) ykX3_map wA_238 wA_239 wA_240 rfl ⟨rfl, rfl, Nat.le_of_ble_eq_true rfl, Nat.le_of_ble_eq_true rfl⟩ rfl hl.1 rfl (Nat.le_of_ble_eq_true rfl) dL_map_5 ⟨Nat.le_of_ble_eq_true rfl, Nat.le_of_ble_eq_true rfl⟩ (fun E q ce H locs hE1 hG hob1 hS hce hcv hcl => ?_) (fun v ad1 H locs hv hag hG hob1 hS => ?_)
  · have ho1 : pl_out cL ob o H := by obtain ⟨f, h1, h2⟩ := ho; exact ⟨f, hob1.trans h1, h2⟩
    have hm := hE E hE1
    simp only [List.mem_cons, List.not_mem_nil, or_false] at hm
    rcases hm with rfl | rfl | rfl
    · refine vx_catch (own := RL) (name := pw_ioX) hown [] ⟨0, 10, 13, 27⟩ [⟨0, 10, 17, 29⟩, ⟨0, 10, 21, 13⟩] (htab.trans rfl) (fun z hz => absurd hz List.not_mem_nil) rfl (by decide) (hts _ wA_144) (va_Nw.use rfl (hX.2.2.2.1 pw_ioX (by decide))) hce hcv hcl ?_
      refine lv_astore (lv' := [(4, .ref q), (0, .ref (ad 0)), (1, .int a1), (2, .int a2), (3, .ref ob)]) hx hb dL_map_13 hl (by decide) rfl (fun ls hl => ?_)
      refine lv_iconst (v := 1) hx hb dL_map_15 (by decide) ?_
      exact ml_ret (ad0 := ad) hC hr hlocks (by rw [hE1]; show (1 : Int32) = nI (List.idxOf pw_ioX [pw_ioX, pw_neX, pw_iaX] + 1); decide +kernel) (fun _ _ => rfl) hG (by rw [hE1]; exact ho1) hS (Nat.le_of_ble_eq_true rfl) (Nat.le_of_ble_eq_true rfl) dL_map_16
    · refine vx_catch (own := RL) (name := pw_neX) hown [⟨0, 10, 13, 27⟩] ⟨0, 10, 17, 29⟩ [⟨0, 10, 21, 13⟩] (htab.trans rfl) (fun z hz => by obtain rfl := List.mem_singleton.mp hz; exact Or.inr ⟨by decide, pw_ioX, hts _ wA_144, hNc (pw_neX, pw_ioX) (List.mem_of_getElem? (i := 1) rfl)⟩) rfl (by decide) (hts _ wA_145) (va_Nw.use rfl (hX.2.2.2.1 pw_neX (by decide))) hce hcv hcl ?_
      refine lv_astore (lv' := [(4, .ref q), (0, .ref (ad 0)), (1, .int a1), (2, .int a2), (3, .ref ob)]) hx hb dL_map_17 hl (by decide) rfl (fun ls hl => ?_)
      refine lv_iconst (v := 2) hx hb dL_map_19 (by decide) ?_
      exact ml_ret (ad0 := ad) hC hr hlocks (by rw [hE1]; show (2 : Int32) = nI (List.idxOf pw_neX [pw_ioX, pw_neX, pw_iaX] + 1); decide +kernel) (fun _ _ => rfl) hG (by rw [hE1]; exact ho1) hS (Nat.le_of_ble_eq_true rfl) (Nat.le_of_ble_eq_true rfl) dL_map_20
    · refine vx_catch (own := RL) (name := pw_iaX) hown [⟨0, 10, 13, 27⟩, ⟨0, 10, 17, 29⟩] ⟨0, 10, 21, 13⟩ [] (htab.trans rfl) (fun z hz => by
            simp only [List.mem_cons, List.not_mem_nil, or_false] at hz
            rcases hz with rfl | rfl
            · exact Or.inr ⟨by decide, pw_ioX, hts _ wA_144, hNc (pw_iaX, pw_ioX) (List.mem_of_getElem? (i := 4) rfl)⟩
            · exact Or.inr ⟨by decide, pw_neX, hts _ wA_145, hNc (pw_iaX, pw_neX) (List.mem_of_getElem? (i := 5) rfl)⟩) rfl (by decide) (hts _ wA_73) (va_Nw.use rfl (hX.2.2.2.1 pw_iaX (by decide))) hce hcv hcl ?_
      refine lv_astore (lv' := [(4, .ref q), (0, .ref (ad 0)), (1, .int a1), (2, .int a2), (3, .ref ob)]) hx hb dL_map_21 hl (by decide) rfl (fun ls hl => ?_)
      refine lv_iconst (v := 3) hx hb dL_map_23 (by decide) ?_
      exact ml_ret (ad0 := ad) hC hr hlocks (by rw [hE1]; show (3 : Int32) = nI (List.idxOf pw_iaX [pw_ioX, pw_neX, pw_iaX] + 1); decide +kernel) (fun _ _ => rfl) hG (by rw [hE1]; exact ho1) hS (Nat.le_of_ble_eq_true rfl) (Nat.le_of_ble_eq_true rfl) dL_map_24
  · have ho1 : pl_out cL ob o H := by obtain ⟨f, h1, h2⟩ := ho; exact ⟨f, hob1.trans h1, h2⟩
    refine lv_i2l (v := v.toInt64) hx hb dL_map_8 rfl ?_
    refine ml_last hx hb ho1 har hAo hG hS dL_map_9 (fun H locs ho1 hG hS => ?_)
    refine lv_goto (tgt := 25) hx hb dL_map_10 (by decide) ?_
    refine lv_iconst (v := 0) hx hb dL_map_25 (by decide) ?_
    exact ml_ret (ad0 := ad) hC hr hlocks (by rw [hv]; rfl) hag hG (by rw [hv]; exact ho1) hS (Nat.le_of_ble_eq_true rfl) (Nat.le_of_ble_eq_true rfl) dL_map_26
set_option maxHeartbeats 4000000 in
set_option maxRecDepth 100000 in
theorem kL_createSegment (l : Launch) (D : va_G) (cA : Nat → ClassId) (cL : ClassId) (A : Nat → Prop) (ad : Nat → Nat) (hlt : l.stackTraces = false) {σ σ' : pw_S} {r : Int32 ⊕ String} {a1 : Int32} {ob : Nat} {o : Int64} (hf : fX3_createSegment a1 σ = some (r, σ')) (hE : ∀ E, r = .inr E → E ∈ [pw_iaX, pw_isX]) : Met l yL_createSegment (Cond.codeWith yL_createSegment cL_createSegment 4 (some .int) [(0, 9, 12, 13), (0, 9, 15, 15)] :: wsL_law) ({ frames := 7, cells := 14, slots := 77, locals := 106 }) (va_Pc [.ref (ad 0), .int a1, .ref ob] (pl_U D cA cL A ad σ ob o)) (pl_Q D cA cL A ad σ' ob (wrI [pw_iaX, pw_isX] o r)) 14 77 A := by
  refine ml_enter (by decide) rfl (Nat.le_of_ble_eq_true rfl) ?_
  intro p e s m args below meth c ls hC hr hlocks htab hU hl
  obtain ⟨hx, hb, hml, hown, hts⟩ := id hC
  obtain ⟨⟨hG, hK, hA', hX⟩, ho, hAo, har, hNc⟩ := hU
  have hob : ob < s.heap.size := by obtain ⟨f, h1, -⟩ := ho; exact (Array.getElem?_eq_some_iff.mp h1).1
  have hA : ∀ q : Nat, s.heap.size ≤ q → A q := fun q h => (hA' q h).1
  have hl : lv_has ls 4 [(0, .ref (ad 0)), (1, .int a1), (2, .ref ob)] := hl
  refine lv_aload_n hx hb dL_createSegment_0 rfl (lv_at hl 2 rfl) ?_
  refine lv_iconst (v := 0) hx hb dL_createSegment_1 (by decide) ?_
  refine lv_aload_n hx hb dL_createSegment_2 rfl (lv_at hl 0 rfl) ?_
  refine lv_iload_n hx hb dL_createSegment_3 rfl (lv_at hl 1 rfl) ?_
  refine ml_VA (As := [.int a1]) hC hK hA hob hX hG (kX3_createSegment l D cA (pl_A A ob) ad hlt hf) ykX3_createSegment wA_289 wA_290 wA_291 rfl ⟨rfl, rfl, Nat.le_of_ble_eq_true rfl, Nat.le_of_ble_eq_true rfl⟩ rfl hl.1 rfl (Nat.le_of_ble_eq_true rfl) dL_createSegment_4 ⟨Nat.le_of_ble_eq_true rfl, Nat.le_of_ble_eq_true rfl⟩ (fun E q ce H locs hE1 hG hob1 hS hce hcv hcl => ?_) (fun v ad1 H locs hv hag hG hob1 hS => ?_)
  · have ho1 : pl_out cL ob o H := by obtain ⟨f, h1, h2⟩ := ho; exact ⟨f, hob1.trans h1, h2⟩
    have hm := hE E hE1
    simp only [List.mem_cons, List.not_mem_nil, or_false] at hm
    rcases hm with rfl | rfl
    · refine vx_catch (own := RL) (name := pw_iaX) hown [] ⟨0, 9, 12, 13⟩ [⟨0, 9, 15, 15⟩] (htab.trans rfl) (fun z hz => absurd hz List.not_mem_nil) rfl (by decide) (hts _ wA_73) (va_Nw.use rfl (hX.2.2.2.1 pw_iaX (by decide))) hce hcv hcl ?_
      refine lv_astore_n (lv' := [(3, .ref q), (0, .ref (ad 0)), (1, .int a1), (2, .ref ob)]) hx hb dL_createSegment_12 rfl hl (by decide) rfl (fun ls hl => ?_)
      refine lv_iconst (v := 1) hx hb dL_createSegment_13 (by decide) ?_
      exact ml_ret (ad0 := ad) hC hr hlocks (by rw [hE1]; show (1 : Int32) = nI (List.idxOf pw_iaX [pw_iaX, pw_isX] + 1); decide +kernel) (fun _ _ => rfl) hG (by rw [hE1]; exact ho1) hS (Nat.le_of_ble_eq_true rfl) (Nat.le_of_ble_eq_true rfl) dL_createSegment_14
    · refine vx_catch (own := RL) (name := pw_isX) hown [⟨0, 9, 12, 13⟩] ⟨0, 9, 15, 15⟩ [] (htab.trans rfl) (fun z hz => by obtain rfl := List.mem_singleton.mp hz; exact Or.inr ⟨by decide, pw_iaX, hts _ wA_73, hNc (pw_isX, pw_iaX) (List.mem_of_getElem? (i := 0) rfl)⟩) rfl (by decide) (hts _ wA_74) (va_Nw.use rfl (hX.2.2.2.1 pw_isX (by decide))) hce hcv hcl ?_
      refine lv_astore_n (lv' := [(3, .ref q), (0, .ref (ad 0)), (1, .int a1), (2, .ref ob)]) hx hb dL_createSegment_15 rfl hl (by decide) rfl (fun ls hl => ?_)
      refine lv_iconst (v := 2) hx hb dL_createSegment_16 (by decide) ?_
      exact ml_ret (ad0 := ad) hC hr hlocks (by rw [hE1]; show (2 : Int32) = nI (List.idxOf pw_isX [pw_iaX, pw_isX] + 1); decide +kernel) (fun _ _ => rfl) hG (by rw [hE1]; exact ho1) hS (Nat.le_of_ble_eq_true rfl) (Nat.le_of_ble_eq_true rfl) dL_createSegment_17
  · have ho1 : pl_out cL ob o H := by obtain ⟨f, h1, h2⟩ := ho; exact ⟨f, hob1.trans h1, h2⟩
    refine lv_i2l (v := v.toInt64) hx hb dL_createSegment_7 rfl ?_
    refine ml_last hx hb ho1 har hAo hG hS dL_createSegment_8 (fun H locs ho1 hG hS => ?_)
    refine lv_goto (tgt := 18) hx hb dL_createSegment_9 (by decide) ?_
    refine lv_iconst (v := 0) hx hb dL_createSegment_18 (by decide) ?_
    exact ml_ret (ad0 := ad) hC hr hlocks (by rw [hv]; rfl) hag hG (by rw [hv]; exact ho1) hS (Nat.le_of_ble_eq_true rfl) (Nat.le_of_ble_eq_true rfl) dL_createSegment_19
set_option maxHeartbeats 4000000 in
set_option maxRecDepth 100000 in
theorem kL_attach (l : Launch) (D : va_G) (cA : Nat → ClassId) (cL : ClassId) (A : Nat → Prop) (ad : Nat → Nat) (hlt : l.stackTraces = false) {σ σ' : pw_S} {r : Int32 ⊕ String} {a1 : Int32} {a2 : Int32} {a3 : Int32} {a4 : Int32} {ob : Nat} {o : Int64} (hf : fX3_attach a1 a2 a3 a4 σ = some (r, σ')) (hE : ∀ E, r = .inr E → E ∈ [pw_ioX, pw_neX, pw_iaX]) : Met l yL_attach (Cond.codeWith yL_attach cL_attach 7 (some .int) [(0, 14, 17, 27), (0, 14, 21, 29), (0, 14, 25, 13)] :: wsL_law) ({ frames := 9, cells := 5, slots := 30, locals := 150 }) (va_Pc [.ref (ad 0), .int a1, .int a2, .int a3, .int a4, .ref ob] (pl_U D cA cL A ad σ ob o)) (pl_Q D cA cL A ad σ' ob (wrI [pw_ioX, pw_neX, pw_iaX] o r)) 5 30 A := by
  refine ml_enter (by decide) rfl (Nat.le_of_ble_eq_true rfl) ?_
  intro p e s m args below meth c ls hC hr hlocks htab hU hl
  obtain ⟨hx, hb, hml, hown, hts⟩ := id hC
  obtain ⟨⟨hG, hK, hA', hX⟩, ho, hAo, har, hNc⟩ := hU
  have hob : ob < s.heap.size := by obtain ⟨f, h1, -⟩ := ho; exact (Array.getElem?_eq_some_iff.mp h1).1
  have hA : ∀ q : Nat, s.heap.size ≤ q → A q := fun q h => (hA' q h).1
  have hl : lv_has ls 7 [(0, .ref (ad 0)), (1, .int a1), (2, .int a2), (3, .int a3), (4, .int a4), (5, .ref ob)] := hl
  refine lv_aload hx hb dL_attach_0 (lv_at hl 5 rfl) ?_
  refine lv_iconst (v := 0) hx hb dL_attach_2 (by decide) ?_
  refine lv_aload_n hx hb dL_attach_3 rfl (lv_at hl 0 rfl) ?_
  refine lv_iload_n hx hb dL_attach_4 rfl (lv_at hl 1 rfl) ?_
  refine lv_iload_n hx hb dL_attach_5 rfl (lv_at hl 2 rfl) ?_
  refine lv_iload_n hx hb dL_attach_6 rfl (lv_at hl 3 rfl) ?_
  refine lv_iload hx hb dL_attach_7 (lv_at hl 4 rfl) ?_
  refine ml_V (As := [.int a1, .int a2, .int a3, .int a4]) hC hK hA hob hX hG (kX3_attach l D cA (pl_A A ob) ad hlt hf) ykX3_attach wA_300 wA_301 wA_302 rfl ⟨rfl, rfl, Nat.le_of_ble_eq_true rfl, Nat.le_of_ble_eq_true rfl⟩ rfl hl.1 rfl (Nat.le_of_ble_eq_true rfl) dL_attach_9 ⟨Nat.le_of_ble_eq_true rfl, Nat.le_of_ble_eq_true rfl⟩ (fun E q ce H locs hE1 hG hob1 hS hce hcv hcl => ?_) (fun v ad1 H locs hv hag hG hob1 hS => ?_)
  · have ho1 : pl_out cL ob o H := by obtain ⟨f, h1, h2⟩ := ho; exact ⟨f, hob1.trans h1, h2⟩
    have hm := hE E hE1
    simp only [List.mem_cons, List.not_mem_nil, or_false] at hm
    rcases hm with rfl | rfl | rfl
    · refine vx_catch (own := RL) (name := pw_ioX) hown [] ⟨0, 14, 17, 27⟩ [⟨0, 14, 21, 29⟩, ⟨0, 14, 25, 13⟩] (htab.trans rfl) (fun z hz => absurd hz List.not_mem_nil) rfl (by decide) (hts _ wA_144) (va_Nw.use rfl (hX.2.2.2.1 pw_ioX (by decide))) hce hcv hcl ?_
      refine lv_astore (lv' := [(6, .ref q), (0, .ref (ad 0)), (1, .int a1), (2, .int a2), (3, .int a3), (4, .int a4), (5, .ref ob)]) hx hb dL_attach_17 hl (by decide) rfl (fun ls hl => ?_)
      refine lv_iconst (v := 1) hx hb dL_attach_19 (by decide) ?_
      exact ml_ret (ad0 := ad) hC hr hlocks (by rw [hE1]; show (1 : Int32) = nI (List.idxOf pw_ioX [pw_ioX, pw_neX, pw_iaX] + 1); decide +kernel) (fun _ _ => rfl) hG (by rw [hE1]; exact ho1) hS (Nat.le_of_ble_eq_true rfl) (Nat.le_of_ble_eq_true rfl) dL_attach_20
    · refine vx_catch (own := RL) (name := pw_neX) hown [⟨0, 14, 17, 27⟩] ⟨0, 14, 21, 29⟩ [⟨0, 14, 25, 13⟩] (htab.trans rfl) (fun z hz => by obtain rfl := List.mem_singleton.mp hz; exact Or.inr ⟨by decide, pw_ioX, hts _ wA_144, hNc (pw_neX, pw_ioX) (List.mem_of_getElem? (i := 1) rfl)⟩) rfl (by decide) (hts _ wA_145) (va_Nw.use rfl (hX.2.2.2.1 pw_neX (by decide))) hce hcv hcl ?_
      refine lv_astore (lv' := [(6, .ref q), (0, .ref (ad 0)), (1, .int a1), (2, .int a2), (3, .int a3), (4, .int a4), (5, .ref ob)]) hx hb dL_attach_21 hl (by decide) rfl (fun ls hl => ?_)
      refine lv_iconst (v := 2) hx hb dL_attach_23 (by decide) ?_
      exact ml_ret (ad0 := ad) hC hr hlocks (by rw [hE1]; show (2 : Int32) = nI (List.idxOf pw_neX [pw_ioX, pw_neX, pw_iaX] + 1); decide +kernel) (fun _ _ => rfl) hG (by rw [hE1]; exact ho1) hS (Nat.le_of_ble_eq_true rfl) (Nat.le_of_ble_eq_true rfl) dL_attach_24
    · refine vx_catch (own := RL) (name := pw_iaX) hown [⟨0, 14, 17, 27⟩, ⟨0, 14, 21, 29⟩] ⟨0, 14, 25, 13⟩ [] (htab.trans rfl) (fun z hz => by
            simp only [List.mem_cons, List.not_mem_nil, or_false] at hz
            rcases hz with rfl | rfl
            · exact Or.inr ⟨by decide, pw_ioX, hts _ wA_144, hNc (pw_iaX, pw_ioX) (List.mem_of_getElem? (i := 4) rfl)⟩
            · exact Or.inr ⟨by decide, pw_neX, hts _ wA_145, hNc (pw_iaX, pw_neX) (List.mem_of_getElem? (i := 5) rfl)⟩) rfl (by decide) (hts _ wA_73) (va_Nw.use rfl (hX.2.2.2.1 pw_iaX (by decide))) hce hcv hcl ?_
      refine lv_astore (lv' := [(6, .ref q), (0, .ref (ad 0)), (1, .int a1), (2, .int a2), (3, .int a3), (4, .int a4), (5, .ref ob)]) hx hb dL_attach_25 hl (by decide) rfl (fun ls hl => ?_)
      refine lv_iconst (v := 3) hx hb dL_attach_27 (by decide) ?_
      exact ml_ret (ad0 := ad) hC hr hlocks (by rw [hE1]; show (3 : Int32) = nI (List.idxOf pw_iaX [pw_ioX, pw_neX, pw_iaX] + 1); decide +kernel) (fun _ _ => rfl) hG (by rw [hE1]; exact ho1) hS (Nat.le_of_ble_eq_true rfl) (Nat.le_of_ble_eq_true rfl) dL_attach_28
  · have ho1 : pl_out cL ob o H := by obtain ⟨f, h1, h2⟩ := ho; exact ⟨f, hob1.trans h1, h2⟩
    refine lv_i2l (v := v.toInt64) hx hb dL_attach_12 rfl ?_
    refine ml_last hx hb ho1 har hAo hG hS dL_attach_13 (fun H locs ho1 hG hS => ?_)
    refine lv_goto (tgt := 29) hx hb dL_attach_14 (by decide) ?_
    refine lv_iconst (v := 0) hx hb dL_attach_29 (by decide) ?_
    exact ml_ret (ad0 := ad) hC hr hlocks (by rw [hv]; rfl) hag hG (by rw [hv]; exact ho1) hS (Nat.le_of_ble_eq_true rfl) (Nat.le_of_ble_eq_true rfl) dL_attach_30
set_option maxHeartbeats 4000000 in
set_option maxRecDepth 100000 in
theorem kL_unmap (l : Launch) (D : va_G) (cA : Nat → ClassId) (cL : ClassId) (A : Nat → Prop) (ad : Nat → Nat) (hlt : l.stackTraces = false) {σ σ' : pw_S} {r : Int32 ⊕ String} {a1 : Int32} {a2 : Int32} {ob : Nat} {o : Int64} (hf : fX3_unmap a1 a2 σ = some (r, σ')) (hE : ∀ E, r = .inr E → E ∈ [pw_ioX, pw_neX, pw_iaX]) : Met l yL_unmap (Cond.codeWith yL_unmap cL_unmap 5 (some .int) [(0, 17, 20, 27), (0, 17, 24, 29), (0, 17, 28, 13)] :: wsL_law) ({ frames := 9, cells := 4, slots := 24, locals := 147 }) (va_Pc [.ref (ad 0), .int a1, .int a2, .ref ob] (pl_U D cA cL A ad σ ob o)) (pl_Q D cA cL A ad σ' ob (wrZ [pw_ioX, pw_neX, pw_iaX] o r)) 4 24 A := by
  refine ml_enter (by decide) rfl (Nat.le_of_ble_eq_true rfl) ?_
  intro p e s m args below meth c ls hC hr hlocks htab hU hl
  obtain ⟨hx, hb, hml, hown, hts⟩ := id hC
  obtain ⟨⟨hG, hK, hA', hX⟩, ho, hAo, har, hNc⟩ := hU
  have hob : ob < s.heap.size := by obtain ⟨f, h1, -⟩ := ho; exact (Array.getElem?_eq_some_iff.mp h1).1
  have hA : ∀ q : Nat, s.heap.size ≤ q → A q := fun q h => (hA' q h).1
  have hl : lv_has ls 5 [(0, .ref (ad 0)), (1, .int a1), (2, .int a2), (3, .ref ob)] := hl
  refine lv_aload_n hx hb dL_unmap_0 rfl (lv_at hl 3 rfl) ?_
  refine lv_iconst (v := 0) hx hb dL_unmap_1 (by decide) ?_
  refine lv_aload_n hx hb dL_unmap_2 rfl (lv_at hl 0 rfl) ?_
  refine lv_iload_n hx hb dL_unmap_3 rfl (lv_at hl 1 rfl) ?_
  refine lv_iload_n hx hb dL_unmap_4 rfl (lv_at hl 2 rfl) ?_
  refine ml_V (As := [.int a1, .int a2]) hC hK hA hob hX hG (kX3_unmap l D cA (pl_A A ob) ad hlt hf) ykX3_unmap wA_315 wA_316 wA_317 rfl ⟨rfl, rfl, Nat.le_of_ble_eq_true rfl, Nat.le_of_ble_eq_true rfl⟩ rfl hl.1 rfl (Nat.le_of_ble_eq_true rfl) dL_unmap_5 ⟨Nat.le_of_ble_eq_true rfl, Nat.le_of_ble_eq_true rfl⟩ (fun E q ce H locs hE1 hG hob1 hS hce hcv hcl => ?_) (fun v ad1 H locs hv hag hG hob1 hS => ?_)
  · have ho1 : pl_out cL ob o H := by obtain ⟨f, h1, h2⟩ := ho; exact ⟨f, hob1.trans h1, h2⟩
    have hm := hE E hE1
    simp only [List.mem_cons, List.not_mem_nil, or_false] at hm
    rcases hm with rfl | rfl | rfl
    · refine vx_catch (own := RL) (name := pw_ioX) hown [] ⟨0, 17, 20, 27⟩ [⟨0, 17, 24, 29⟩, ⟨0, 17, 28, 13⟩] (htab.trans rfl) (fun z hz => absurd hz List.not_mem_nil) rfl (by decide) (hts _ wA_144) (va_Nw.use rfl (hX.2.2.2.1 pw_ioX (by decide))) hce hcv hcl ?_
      refine lv_astore (lv' := [(4, .ref q), (0, .ref (ad 0)), (1, .int a1), (2, .int a2), (3, .ref ob)]) hx hb dL_unmap_20 hl (by decide) rfl (fun ls hl => ?_)
      refine lv_iconst (v := 1) hx hb dL_unmap_22 (by decide) ?_
      exact ml_ret (ad0 := ad) hC hr hlocks (by rw [hE1]; show (1 : Int32) = nI (List.idxOf pw_ioX [pw_ioX, pw_neX, pw_iaX] + 1); decide +kernel) (fun _ _ => rfl) hG (by rw [hE1]; exact ho1) hS (Nat.le_of_ble_eq_true rfl) (Nat.le_of_ble_eq_true rfl) dL_unmap_23
    · refine vx_catch (own := RL) (name := pw_neX) hown [⟨0, 17, 20, 27⟩] ⟨0, 17, 24, 29⟩ [⟨0, 17, 28, 13⟩] (htab.trans rfl) (fun z hz => by obtain rfl := List.mem_singleton.mp hz; exact Or.inr ⟨by decide, pw_ioX, hts _ wA_144, hNc (pw_neX, pw_ioX) (List.mem_of_getElem? (i := 1) rfl)⟩) rfl (by decide) (hts _ wA_145) (va_Nw.use rfl (hX.2.2.2.1 pw_neX (by decide))) hce hcv hcl ?_
      refine lv_astore (lv' := [(4, .ref q), (0, .ref (ad 0)), (1, .int a1), (2, .int a2), (3, .ref ob)]) hx hb dL_unmap_24 hl (by decide) rfl (fun ls hl => ?_)
      refine lv_iconst (v := 2) hx hb dL_unmap_26 (by decide) ?_
      exact ml_ret (ad0 := ad) hC hr hlocks (by rw [hE1]; show (2 : Int32) = nI (List.idxOf pw_neX [pw_ioX, pw_neX, pw_iaX] + 1); decide +kernel) (fun _ _ => rfl) hG (by rw [hE1]; exact ho1) hS (Nat.le_of_ble_eq_true rfl) (Nat.le_of_ble_eq_true rfl) dL_unmap_27
    · refine vx_catch (own := RL) (name := pw_iaX) hown [⟨0, 17, 20, 27⟩, ⟨0, 17, 24, 29⟩] ⟨0, 17, 28, 13⟩ [] (htab.trans rfl) (fun z hz => by
            simp only [List.mem_cons, List.not_mem_nil, or_false] at hz
            rcases hz with rfl | rfl
            · exact Or.inr ⟨by decide, pw_ioX, hts _ wA_144, hNc (pw_iaX, pw_ioX) (List.mem_of_getElem? (i := 4) rfl)⟩
            · exact Or.inr ⟨by decide, pw_neX, hts _ wA_145, hNc (pw_iaX, pw_neX) (List.mem_of_getElem? (i := 5) rfl)⟩) rfl (by decide) (hts _ wA_73) (va_Nw.use rfl (hX.2.2.2.1 pw_iaX (by decide))) hce hcv hcl ?_
      refine lv_astore (lv' := [(4, .ref q), (0, .ref (ad 0)), (1, .int a1), (2, .int a2), (3, .ref ob)]) hx hb dL_unmap_28 hl (by decide) rfl (fun ls hl => ?_)
      refine lv_iconst (v := 3) hx hb dL_unmap_30 (by decide) ?_
      exact ml_ret (ad0 := ad) hC hr hlocks (by rw [hE1]; show (3 : Int32) = nI (List.idxOf pw_iaX [pw_ioX, pw_neX, pw_iaX] + 1); decide +kernel) (fun _ _ => rfl) hG (by rw [hE1]; exact ho1) hS (Nat.le_of_ble_eq_true rfl) (Nat.le_of_ble_eq_true rfl) dL_unmap_31
  · have ho1 : pl_out cL ob o H := by obtain ⟨f, h1, h2⟩ := ho; exact ⟨f, hob1.trans h1, h2⟩
    refine lv_if_eq (tgt := 15) hx hb dL_unmap_8 (by decide) (fun cz => ?_) (fun cz => ?_)
    · refine lv_lconst (v := 0) hx hb dL_unmap_15 (by decide) ?_
      refine ml_last hx hb ho1 har hAo hG hS dL_unmap_16 (fun H locs ho1 hG hS => ?_)
      refine lv_goto (tgt := 32) hx hb dL_unmap_17 (by decide) ?_
      refine lv_iconst (v := 0) hx hb dL_unmap_32 (by decide) ?_
      exact ml_ret (ad0 := ad) hC hr hlocks (by rw [hv]; rfl) hag hG (by rw [hv]; exact (by show pl_out cL ob (if v = 0 then 0 else 1) H; rw [if_pos cz]; exact ho1)) hS (Nat.le_of_ble_eq_true rfl) (Nat.le_of_ble_eq_true rfl) dL_unmap_33
    · refine lv_lconst (v := 1) hx hb dL_unmap_11 (by decide) ?_
      refine lv_goto (tgt := 16) hx hb dL_unmap_12 (by decide) ?_
      refine ml_last hx hb ho1 har hAo hG hS dL_unmap_16 (fun H locs ho1 hG hS => ?_)
      refine lv_goto (tgt := 32) hx hb dL_unmap_17 (by decide) ?_
      refine lv_iconst (v := 0) hx hb dL_unmap_32 (by decide) ?_
      exact ml_ret (ad0 := ad) hC hr hlocks (by rw [hv]; rfl) hag hG (by rw [hv]; exact (by show pl_out cL ob (if v = 0 then 0 else 1) H; rw [if_neg cz]; exact ho1)) hS (Nat.le_of_ble_eq_true rfl) (Nat.le_of_ble_eq_true rfl) dL_unmap_33
set_option maxHeartbeats 4000000 in
set_option maxRecDepth 100000 in
theorem kL_isLive (l : Launch) (D : va_G) (cA : Nat → ClassId) (cL : ClassId) (A : Nat → Prop) (ad : Nat → Nat) (hlt : l.stackTraces = false) {σ σ' : pw_S} {r : Int32 ⊕ String} {a1 : Int32} {ob : Nat} {o : Int64} (hf : fX3_isLive a1 σ = some (r, σ')) (hE : ∀ E, r = .inr E → E ∈ [pw_ioX]) : Met l yL_isLive (Cond.codeWith yL_isLive cL_isLive 4 (some .int) [(0, 16, 19, 27)] :: wsL_law) ({ frames := 8, cells := 1, slots := 6, locals := 124 }) (va_Pc [.ref (ad 0), .int a1, .ref ob] (pl_U D cA cL A ad σ ob o)) (pl_Q D cA cL A ad σ' ob (wrZ [pw_ioX] o r)) 1 6 A := by
  refine ml_enter (by decide) rfl (Nat.le_of_ble_eq_true rfl) ?_
  intro p e s m args below meth c ls hC hr hlocks htab hU hl
  obtain ⟨hx, hb, hml, hown, hts⟩ := id hC
  obtain ⟨⟨hG, hK, hA', hX⟩, ho, hAo, har, hNc⟩ := hU
  have hob : ob < s.heap.size := by obtain ⟨f, h1, -⟩ := ho; exact (Array.getElem?_eq_some_iff.mp h1).1
  have hA : ∀ q : Nat, s.heap.size ≤ q → A q := fun q h => (hA' q h).1
  have hl : lv_has ls 4 [(0, .ref (ad 0)), (1, .int a1), (2, .ref ob)] := hl
  refine lv_aload_n hx hb dL_isLive_0 rfl (lv_at hl 2 rfl) ?_
  refine lv_iconst (v := 0) hx hb dL_isLive_1 (by decide) ?_
  refine lv_aload_n hx hb dL_isLive_2 rfl (lv_at hl 0 rfl) ?_
  refine lv_iload_n hx hb dL_isLive_3 rfl (lv_at hl 1 rfl) ?_
  refine ml_V (As := [.int a1]) hC hK hA hob hX hG (kX3_isLive l D cA (pl_A A ob) ad hlt hf) ykX3_isLive wA_330 wA_331 wA_332 rfl ⟨rfl, rfl, Nat.le_of_ble_eq_true rfl, Nat.le_of_ble_eq_true rfl⟩ rfl hl.1 rfl (Nat.le_of_ble_eq_true rfl) dL_isLive_4 ⟨Nat.le_of_ble_eq_true rfl, Nat.le_of_ble_eq_true rfl⟩ (fun E q ce H locs hE1 hG hob1 hS hce hcv hcl => ?_) (fun v ad1 H locs hv hag hG hob1 hS => ?_)
  · have ho1 : pl_out cL ob o H := by obtain ⟨f, h1, h2⟩ := ho; exact ⟨f, hob1.trans h1, h2⟩
    have hm := hE E hE1
    obtain rfl := List.mem_singleton.mp hm
    refine vx_catch (own := RL) (name := pw_ioX) hown [] ⟨0, 16, 19, 27⟩ [] (htab.trans rfl) (fun z hz => absurd hz List.not_mem_nil) rfl (by decide) (hts _ wA_144) (va_Nw.use rfl (hX.2.2.2.1 pw_ioX (by decide))) hce hcv hcl ?_
    refine lv_astore_n (lv' := [(3, .ref q), (0, .ref (ad 0)), (1, .int a1), (2, .ref ob)]) hx hb dL_isLive_19 rfl hl (by decide) rfl (fun ls hl => ?_)
    refine lv_iconst (v := 1) hx hb dL_isLive_20 (by decide) ?_
    exact ml_ret (ad0 := ad) hC hr hlocks (by rw [hE1]; show (1 : Int32) = nI (List.idxOf pw_ioX [pw_ioX] + 1); decide +kernel) (fun _ _ => rfl) hG (by rw [hE1]; exact ho1) hS (Nat.le_of_ble_eq_true rfl) (Nat.le_of_ble_eq_true rfl) dL_isLive_21
  · have ho1 : pl_out cL ob o H := by obtain ⟨f, h1, h2⟩ := ho; exact ⟨f, hob1.trans h1, h2⟩
    refine lv_if_eq (tgt := 14) hx hb dL_isLive_7 (by decide) (fun cz => ?_) (fun cz => ?_)
    · refine lv_lconst (v := 0) hx hb dL_isLive_14 (by decide) ?_
      refine ml_last hx hb ho1 har hAo hG hS dL_isLive_15 (fun H locs ho1 hG hS => ?_)
      refine lv_goto (tgt := 22) hx hb dL_isLive_16 (by decide) ?_
      refine lv_iconst (v := 0) hx hb dL_isLive_22 (by decide) ?_
      exact ml_ret (ad0 := ad) hC hr hlocks (by rw [hv]; rfl) hag hG (by rw [hv]; exact (by show pl_out cL ob (if v = 0 then 0 else 1) H; rw [if_pos cz]; exact ho1)) hS (Nat.le_of_ble_eq_true rfl) (Nat.le_of_ble_eq_true rfl) dL_isLive_23
    · refine lv_lconst (v := 1) hx hb dL_isLive_10 (by decide) ?_
      refine lv_goto (tgt := 15) hx hb dL_isLive_11 (by decide) ?_
      refine ml_last hx hb ho1 har hAo hG hS dL_isLive_15 (fun H locs ho1 hG hS => ?_)
      refine lv_goto (tgt := 22) hx hb dL_isLive_16 (by decide) ?_
      refine lv_iconst (v := 0) hx hb dL_isLive_22 (by decide) ?_
      exact ml_ret (ad0 := ad) hC hr hlocks (by rw [hv]; rfl) hag hG (by rw [hv]; exact (by show pl_out cL ob (if v = 0 then 0 else 1) H; rw [if_neg cz]; exact ho1)) hS (Nat.le_of_ble_eq_true rfl) (Nat.le_of_ble_eq_true rfl) dL_isLive_23
set_option maxHeartbeats 4000000 in
set_option maxRecDepth 100000 in
theorem kL_mapping (l : Launch) (D : va_G) (cA : Nat → ClassId) (cL : ClassId) (A : Nat → Prop) (ad : Nat → Nat) (hlt : l.stackTraces = false) {σ σ' : pw_S} {r : Int32 ⊕ String} {a1 : Int32} {a2 : Int32} {ob : Nat} {o : Int64} (hf : fX3_mapping a1 a2 σ = some (r, σ')) (hE : ∀ E, r = .inr E → E ∈ [pw_ioX]) : Met l yL_mapping (Cond.codeWith yL_mapping cL_mapping 5 (some .int) [(0, 10, 13, 27)] :: wsL_law) ({ frames := 9, cells := 2, slots := 12, locals := 148 }) (va_Pc [.ref (ad 0), .int a1, .int a2, .ref ob] (pl_U D cA cL A ad σ ob o)) (pl_Q D cA cL A ad σ' ob (wrI [pw_ioX] o r)) 2 12 A := by
  refine ml_enter (by decide) rfl (Nat.le_of_ble_eq_true rfl) ?_
  intro p e s m args below meth c ls hC hr hlocks htab hU hl
  obtain ⟨hx, hb, hml, hown, hts⟩ := id hC
  obtain ⟨⟨hG, hK, hA', hX⟩, ho, hAo, har, hNc⟩ := hU
  have hob : ob < s.heap.size := by obtain ⟨f, h1, -⟩ := ho; exact (Array.getElem?_eq_some_iff.mp h1).1
  have hA : ∀ q : Nat, s.heap.size ≤ q → A q := fun q h => (hA' q h).1
  have hl : lv_has ls 5 [(0, .ref (ad 0)), (1, .int a1), (2, .int a2), (3, .ref ob)] := hl
  refine lv_aload_n hx hb dL_mapping_0 rfl (lv_at hl 3 rfl) ?_
  refine lv_iconst (v := 0) hx hb dL_mapping_1 (by decide) ?_
  refine lv_aload_n hx hb dL_mapping_2 rfl (lv_at hl 0 rfl) ?_
  refine lv_iload_n hx hb dL_mapping_3 rfl (lv_at hl 1 rfl) ?_
  refine lv_iload_n hx hb dL_mapping_4 rfl (lv_at hl 2 rfl) ?_
  refine ml_V (As := [.int a1, .int a2]) hC hK hA hob hX hG (kX3_mapping l D cA (pl_A A ob) ad hlt hf) ykX3_mapping wA_341 wA_342 wA_343 rfl ⟨rfl, rfl, Nat.le_of_ble_eq_true rfl, Nat.le_of_ble_eq_true rfl⟩ rfl hl.1 rfl (Nat.le_of_ble_eq_true rfl) dL_mapping_5 ⟨Nat.le_of_ble_eq_true rfl, Nat.le_of_ble_eq_true rfl⟩ (fun E q ce H locs hE1 hG hob1 hS hce hcv hcl => ?_) (fun v ad1 H locs hv hag hG hob1 hS => ?_)
  · have ho1 : pl_out cL ob o H := by obtain ⟨f, h1, h2⟩ := ho; exact ⟨f, hob1.trans h1, h2⟩
    have hm := hE E hE1
    obtain rfl := List.mem_singleton.mp hm
    refine vx_catch (own := RL) (name := pw_ioX) hown [] ⟨0, 10, 13, 27⟩ [] (htab.trans rfl) (fun z hz => absurd hz List.not_mem_nil) rfl (by decide) (hts _ wA_144) (va_Nw.use rfl (hX.2.2.2.1 pw_ioX (by decide))) hce hcv hcl ?_
    refine lv_astore (lv' := [(4, .ref q), (0, .ref (ad 0)), (1, .int a1), (2, .int a2), (3, .ref ob)]) hx hb dL_mapping_13 hl (by decide) rfl (fun ls hl => ?_)
    refine lv_iconst (v := 1) hx hb dL_mapping_15 (by decide) ?_
    exact ml_ret (ad0 := ad) hC hr hlocks (by rw [hE1]; show (1 : Int32) = nI (List.idxOf pw_ioX [pw_ioX] + 1); decide +kernel) (fun _ _ => rfl) hG (by rw [hE1]; exact ho1) hS (Nat.le_of_ble_eq_true rfl) (Nat.le_of_ble_eq_true rfl) dL_mapping_16
  · have ho1 : pl_out cL ob o H := by obtain ⟨f, h1, h2⟩ := ho; exact ⟨f, hob1.trans h1, h2⟩
    refine lv_i2l (v := v.toInt64) hx hb dL_mapping_8 rfl ?_
    refine ml_last hx hb ho1 har hAo hG hS dL_mapping_9 (fun H locs ho1 hG hS => ?_)
    refine lv_goto (tgt := 17) hx hb dL_mapping_10 (by decide) ?_
    refine lv_iconst (v := 0) hx hb dL_mapping_17 (by decide) ?_
    exact ml_ret (ad0 := ad) hC hr hlocks (by rw [hv]; rfl) hag hG (by rw [hv]; exact ho1) hS (Nat.le_of_ble_eq_true rfl) (Nat.le_of_ble_eq_true rfl) dL_mapping_18
set_option maxHeartbeats 4000000 in
set_option maxRecDepth 100000 in
theorem kL_read (l : Launch) (D : va_G) (cA : Nat → ClassId) (cL : ClassId) (A : Nat → Prop) (ad : Nat → Nat) (hlt : l.stackTraces = false) {σ σ' : pw_S} {r : Int32 ⊕ String} {a1 : Int32} {a2 : Int32} {ob : Nat} {o : Int64} (hf : fX3_read a1 a2 σ = some (r, σ')) (hE : ∀ E, r = .inr E → E ∈ [pw_ioX, pw_neX, pw_iaX, pw_isX]) : Met l yL_read (Cond.codeWith yL_read cL_read 5 (some .int) [(0, 10, 13, 27), (0, 10, 17, 29), (0, 10, 21, 13), (0, 10, 25, 15)] :: wsL_law) ({ frames := 9, cells := 4, slots := 24, locals := 163 }) (va_Pc [.ref (ad 0), .int a1, .int a2, .ref ob] (pl_U D cA cL A ad σ ob o)) (pl_Q D cA cL A ad σ' ob (wrI [pw_ioX, pw_neX, pw_iaX, pw_isX] o r)) 4 24 A := by
  refine ml_enter (by decide) rfl (Nat.le_of_ble_eq_true rfl) ?_
  intro p e s m args below meth c ls hC hr hlocks htab hU hl
  obtain ⟨hx, hb, hml, hown, hts⟩ := id hC
  obtain ⟨⟨hG, hK, hA', hX⟩, ho, hAo, har, hNc⟩ := hU
  have hob : ob < s.heap.size := by obtain ⟨f, h1, -⟩ := ho; exact (Array.getElem?_eq_some_iff.mp h1).1
  have hA : ∀ q : Nat, s.heap.size ≤ q → A q := fun q h => (hA' q h).1
  have hl : lv_has ls 5 [(0, .ref (ad 0)), (1, .int a1), (2, .int a2), (3, .ref ob)] := hl
  refine lv_aload_n hx hb dL_read_0 rfl (lv_at hl 3 rfl) ?_
  refine lv_iconst (v := 0) hx hb dL_read_1 (by decide) ?_
  refine lv_aload_n hx hb dL_read_2 rfl (lv_at hl 0 rfl) ?_
  refine lv_iload_n hx hb dL_read_3 rfl (lv_at hl 1 rfl) ?_
  refine lv_iload_n hx hb dL_read_4 rfl (lv_at hl 2 rfl) ?_
  refine ml_V (As := [.int a1, .int a2]) hC hK hA hob hX hG (kX3_read l D cA (pl_A A ob) ad hlt hf) ykX3_read wA_356 wA_357 wA_358 rfl ⟨rfl, rfl, Nat.le_of_ble_eq_true rfl, Nat.le_of_ble_eq_true rfl⟩ rfl hl.1 rfl (Nat.le_of_ble_eq_true rfl) dL_read_5 ⟨Nat.le_of_ble_eq_true rfl, Nat.le_of_ble_eq_true rfl⟩ (fun E q ce H locs hE1 hG hob1 hS hce hcv hcl => ?_) (fun v ad1 H locs hv hag hG hob1 hS => ?_)
  · have ho1 : pl_out cL ob o H := by obtain ⟨f, h1, h2⟩ := ho; exact ⟨f, hob1.trans h1, h2⟩
    have hm := hE E hE1
    simp only [List.mem_cons, List.not_mem_nil, or_false] at hm
    rcases hm with rfl | rfl | rfl | rfl
    · refine vx_catch (own := RL) (name := pw_ioX) hown [] ⟨0, 10, 13, 27⟩ [⟨0, 10, 17, 29⟩, ⟨0, 10, 21, 13⟩, ⟨0, 10, 25, 15⟩] (htab.trans rfl) (fun z hz => absurd hz List.not_mem_nil) rfl (by decide) (hts _ wA_144) (va_Nw.use rfl (hX.2.2.2.1 pw_ioX (by decide))) hce hcv hcl ?_
      refine lv_astore (lv' := [(4, .ref q), (0, .ref (ad 0)), (1, .int a1), (2, .int a2), (3, .ref ob)]) hx hb dL_read_13 hl (by decide) rfl (fun ls hl => ?_)
      refine lv_iconst (v := 1) hx hb dL_read_15 (by decide) ?_
      exact ml_ret (ad0 := ad) hC hr hlocks (by rw [hE1]; show (1 : Int32) = nI (List.idxOf pw_ioX [pw_ioX, pw_neX, pw_iaX, pw_isX] + 1); decide +kernel) (fun _ _ => rfl) hG (by rw [hE1]; exact ho1) hS (Nat.le_of_ble_eq_true rfl) (Nat.le_of_ble_eq_true rfl) dL_read_16
    · refine vx_catch (own := RL) (name := pw_neX) hown [⟨0, 10, 13, 27⟩] ⟨0, 10, 17, 29⟩ [⟨0, 10, 21, 13⟩, ⟨0, 10, 25, 15⟩] (htab.trans rfl) (fun z hz => by obtain rfl := List.mem_singleton.mp hz; exact Or.inr ⟨by decide, pw_ioX, hts _ wA_144, hNc (pw_neX, pw_ioX) (List.mem_of_getElem? (i := 1) rfl)⟩) rfl (by decide) (hts _ wA_145) (va_Nw.use rfl (hX.2.2.2.1 pw_neX (by decide))) hce hcv hcl ?_
      refine lv_astore (lv' := [(4, .ref q), (0, .ref (ad 0)), (1, .int a1), (2, .int a2), (3, .ref ob)]) hx hb dL_read_17 hl (by decide) rfl (fun ls hl => ?_)
      refine lv_iconst (v := 2) hx hb dL_read_19 (by decide) ?_
      exact ml_ret (ad0 := ad) hC hr hlocks (by rw [hE1]; show (2 : Int32) = nI (List.idxOf pw_neX [pw_ioX, pw_neX, pw_iaX, pw_isX] + 1); decide +kernel) (fun _ _ => rfl) hG (by rw [hE1]; exact ho1) hS (Nat.le_of_ble_eq_true rfl) (Nat.le_of_ble_eq_true rfl) dL_read_20
    · refine vx_catch (own := RL) (name := pw_iaX) hown [⟨0, 10, 13, 27⟩, ⟨0, 10, 17, 29⟩] ⟨0, 10, 21, 13⟩ [⟨0, 10, 25, 15⟩] (htab.trans rfl) (fun z hz => by
            simp only [List.mem_cons, List.not_mem_nil, or_false] at hz
            rcases hz with rfl | rfl
            · exact Or.inr ⟨by decide, pw_ioX, hts _ wA_144, hNc (pw_iaX, pw_ioX) (List.mem_of_getElem? (i := 4) rfl)⟩
            · exact Or.inr ⟨by decide, pw_neX, hts _ wA_145, hNc (pw_iaX, pw_neX) (List.mem_of_getElem? (i := 5) rfl)⟩) rfl (by decide) (hts _ wA_73) (va_Nw.use rfl (hX.2.2.2.1 pw_iaX (by decide))) hce hcv hcl ?_
      refine lv_astore (lv' := [(4, .ref q), (0, .ref (ad 0)), (1, .int a1), (2, .int a2), (3, .ref ob)]) hx hb dL_read_21 hl (by decide) rfl (fun ls hl => ?_)
      refine lv_iconst (v := 3) hx hb dL_read_23 (by decide) ?_
      exact ml_ret (ad0 := ad) hC hr hlocks (by rw [hE1]; show (3 : Int32) = nI (List.idxOf pw_iaX [pw_ioX, pw_neX, pw_iaX, pw_isX] + 1); decide +kernel) (fun _ _ => rfl) hG (by rw [hE1]; exact ho1) hS (Nat.le_of_ble_eq_true rfl) (Nat.le_of_ble_eq_true rfl) dL_read_24
    · refine vx_catch (own := RL) (name := pw_isX) hown [⟨0, 10, 13, 27⟩, ⟨0, 10, 17, 29⟩, ⟨0, 10, 21, 13⟩] ⟨0, 10, 25, 15⟩ [] (htab.trans rfl) (fun z hz => by
            simp only [List.mem_cons, List.not_mem_nil, or_false] at hz
            rcases hz with rfl | rfl | rfl
            · exact Or.inr ⟨by decide, pw_ioX, hts _ wA_144, hNc (pw_isX, pw_ioX) (List.mem_of_getElem? (i := 2) rfl)⟩
            · exact Or.inr ⟨by decide, pw_neX, hts _ wA_145, hNc (pw_isX, pw_neX) (List.mem_of_getElem? (i := 3) rfl)⟩
            · exact Or.inr ⟨by decide, pw_iaX, hts _ wA_73, hNc (pw_isX, pw_iaX) (List.mem_of_getElem? (i := 0) rfl)⟩) rfl (by decide) (hts _ wA_74) (va_Nw.use rfl (hX.2.2.2.1 pw_isX (by decide))) hce hcv hcl ?_
      refine lv_astore (lv' := [(4, .ref q), (0, .ref (ad 0)), (1, .int a1), (2, .int a2), (3, .ref ob)]) hx hb dL_read_25 hl (by decide) rfl (fun ls hl => ?_)
      refine lv_iconst (v := 4) hx hb dL_read_27 (by decide) ?_
      exact ml_ret (ad0 := ad) hC hr hlocks (by rw [hE1]; show (4 : Int32) = nI (List.idxOf pw_isX [pw_ioX, pw_neX, pw_iaX, pw_isX] + 1); decide +kernel) (fun _ _ => rfl) hG (by rw [hE1]; exact ho1) hS (Nat.le_of_ble_eq_true rfl) (Nat.le_of_ble_eq_true rfl) dL_read_28
  · have ho1 : pl_out cL ob o H := by obtain ⟨f, h1, h2⟩ := ho; exact ⟨f, hob1.trans h1, h2⟩
    refine lv_i2l (v := v.toInt64) hx hb dL_read_8 rfl ?_
    refine ml_last hx hb ho1 har hAo hG hS dL_read_9 (fun H locs ho1 hG hS => ?_)
    refine lv_goto (tgt := 29) hx hb dL_read_10 (by decide) ?_
    refine lv_iconst (v := 0) hx hb dL_read_29 (by decide) ?_
    exact ml_ret (ad0 := ad) hC hr hlocks (by rw [hv]; rfl) hag hG (by rw [hv]; exact ho1) hS (Nat.le_of_ble_eq_true rfl) (Nat.le_of_ble_eq_true rfl) dL_read_30
set_option maxHeartbeats 4000000 in
set_option maxRecDepth 100000 in
theorem kL_write (l : Launch) (D : va_G) (cA : Nat → ClassId) (cL : ClassId) (A : Nat → Prop) (ad : Nat → Nat) (hlt : l.stackTraces = false) {σ σ' : pw_S} {r : Int32 ⊕ String} {a1 : Int32} {a2 : Int32} {a3 : Int32} {ob : Nat} {o : Int64} (hf : fX3_write a1 a2 a3 σ = some (r, σ')) (hE : ∀ E, r = .inr E → E ∈ [pw_ioX, pw_neX, pw_iaX, pw_isX]) : Met l yL_write (Cond.codeWith yL_write cL_write 6 (some .int) [(0, 12, 15, 27), (0, 12, 19, 29), (0, 12, 23, 13), (0, 12, 27, 15)] :: wsL_law) ({ frames := 9, cells := 6, slots := 35, locals := 168 }) (va_Pc [.ref (ad 0), .int a1, .int a2, .int a3, .ref ob] (pl_U D cA cL A ad σ ob o)) (pl_Q D cA cL A ad σ' ob (wrI [pw_ioX, pw_neX, pw_iaX, pw_isX] o r)) 6 35 A := by
  refine ml_enter (by decide) rfl (Nat.le_of_ble_eq_true rfl) ?_
  intro p e s m args below meth c ls hC hr hlocks htab hU hl
  obtain ⟨hx, hb, hml, hown, hts⟩ := id hC
  obtain ⟨⟨hG, hK, hA', hX⟩, ho, hAo, har, hNc⟩ := hU
  have hob : ob < s.heap.size := by obtain ⟨f, h1, -⟩ := ho; exact (Array.getElem?_eq_some_iff.mp h1).1
  have hA : ∀ q : Nat, s.heap.size ≤ q → A q := fun q h => (hA' q h).1
  have hl : lv_has ls 6 [(0, .ref (ad 0)), (1, .int a1), (2, .int a2), (3, .int a3), (4, .ref ob)] := hl
  refine lv_aload hx hb dL_write_0 (lv_at hl 4 rfl) ?_
  refine lv_iconst (v := 0) hx hb dL_write_2 (by decide) ?_
  refine lv_aload_n hx hb dL_write_3 rfl (lv_at hl 0 rfl) ?_
  refine lv_iload_n hx hb dL_write_4 rfl (lv_at hl 1 rfl) ?_
  refine lv_iload_n hx hb dL_write_5 rfl (lv_at hl 2 rfl) ?_
  refine lv_iload_n hx hb dL_write_6 rfl (lv_at hl 3 rfl) ?_
  refine ml_VA (As := [.int a1, .int a2, .int a3]) hC hK hA hob hX hG (kX3_write l D cA (pl_A A ob) ad hlt hf) ykX3_write wA_510 wA_511 wA_512 rfl ⟨rfl, rfl, Nat.le_of_ble_eq_true rfl, Nat.le_of_ble_eq_true rfl⟩ rfl hl.1 rfl (Nat.le_of_ble_eq_true rfl) dL_write_7 ⟨Nat.le_of_ble_eq_true rfl, Nat.le_of_ble_eq_true rfl⟩ (fun E q ce H locs hE1 hG hob1 hS hce hcv hcl => ?_) (fun v ad1 H locs hv hag hG hob1 hS => ?_)
  · have ho1 : pl_out cL ob o H := by obtain ⟨f, h1, h2⟩ := ho; exact ⟨f, hob1.trans h1, h2⟩
    have hm := hE E hE1
    simp only [List.mem_cons, List.not_mem_nil, or_false] at hm
    rcases hm with rfl | rfl | rfl | rfl
    · refine vx_catch (own := RL) (name := pw_ioX) hown [] ⟨0, 12, 15, 27⟩ [⟨0, 12, 19, 29⟩, ⟨0, 12, 23, 13⟩, ⟨0, 12, 27, 15⟩] (htab.trans rfl) (fun z hz => absurd hz List.not_mem_nil) rfl (by decide) (hts _ wA_144) (va_Nw.use rfl (hX.2.2.2.1 pw_ioX (by decide))) hce hcv hcl ?_
      refine lv_astore (lv' := [(5, .ref q), (0, .ref (ad 0)), (1, .int a1), (2, .int a2), (3, .int a3), (4, .ref ob)]) hx hb dL_write_15 hl (by decide) rfl (fun ls hl => ?_)
      refine lv_iconst (v := 1) hx hb dL_write_17 (by decide) ?_
      exact ml_ret (ad0 := ad) hC hr hlocks (by rw [hE1]; show (1 : Int32) = nI (List.idxOf pw_ioX [pw_ioX, pw_neX, pw_iaX, pw_isX] + 1); decide +kernel) (fun _ _ => rfl) hG (by rw [hE1]; exact ho1) hS (Nat.le_of_ble_eq_true rfl) (Nat.le_of_ble_eq_true rfl) dL_write_18
    · refine vx_catch (own := RL) (name := pw_neX) hown [⟨0, 12, 15, 27⟩] ⟨0, 12, 19, 29⟩ [⟨0, 12, 23, 13⟩, ⟨0, 12, 27, 15⟩] (htab.trans rfl) (fun z hz => by obtain rfl := List.mem_singleton.mp hz; exact Or.inr ⟨by decide, pw_ioX, hts _ wA_144, hNc (pw_neX, pw_ioX) (List.mem_of_getElem? (i := 1) rfl)⟩) rfl (by decide) (hts _ wA_145) (va_Nw.use rfl (hX.2.2.2.1 pw_neX (by decide))) hce hcv hcl ?_
      refine lv_astore (lv' := [(5, .ref q), (0, .ref (ad 0)), (1, .int a1), (2, .int a2), (3, .int a3), (4, .ref ob)]) hx hb dL_write_19 hl (by decide) rfl (fun ls hl => ?_)
      refine lv_iconst (v := 2) hx hb dL_write_21 (by decide) ?_
      exact ml_ret (ad0 := ad) hC hr hlocks (by rw [hE1]; show (2 : Int32) = nI (List.idxOf pw_neX [pw_ioX, pw_neX, pw_iaX, pw_isX] + 1); decide +kernel) (fun _ _ => rfl) hG (by rw [hE1]; exact ho1) hS (Nat.le_of_ble_eq_true rfl) (Nat.le_of_ble_eq_true rfl) dL_write_22
    · refine vx_catch (own := RL) (name := pw_iaX) hown [⟨0, 12, 15, 27⟩, ⟨0, 12, 19, 29⟩] ⟨0, 12, 23, 13⟩ [⟨0, 12, 27, 15⟩] (htab.trans rfl) (fun z hz => by
            simp only [List.mem_cons, List.not_mem_nil, or_false] at hz
            rcases hz with rfl | rfl
            · exact Or.inr ⟨by decide, pw_ioX, hts _ wA_144, hNc (pw_iaX, pw_ioX) (List.mem_of_getElem? (i := 4) rfl)⟩
            · exact Or.inr ⟨by decide, pw_neX, hts _ wA_145, hNc (pw_iaX, pw_neX) (List.mem_of_getElem? (i := 5) rfl)⟩) rfl (by decide) (hts _ wA_73) (va_Nw.use rfl (hX.2.2.2.1 pw_iaX (by decide))) hce hcv hcl ?_
      refine lv_astore (lv' := [(5, .ref q), (0, .ref (ad 0)), (1, .int a1), (2, .int a2), (3, .int a3), (4, .ref ob)]) hx hb dL_write_23 hl (by decide) rfl (fun ls hl => ?_)
      refine lv_iconst (v := 3) hx hb dL_write_25 (by decide) ?_
      exact ml_ret (ad0 := ad) hC hr hlocks (by rw [hE1]; show (3 : Int32) = nI (List.idxOf pw_iaX [pw_ioX, pw_neX, pw_iaX, pw_isX] + 1); decide +kernel) (fun _ _ => rfl) hG (by rw [hE1]; exact ho1) hS (Nat.le_of_ble_eq_true rfl) (Nat.le_of_ble_eq_true rfl) dL_write_26
    · refine vx_catch (own := RL) (name := pw_isX) hown [⟨0, 12, 15, 27⟩, ⟨0, 12, 19, 29⟩, ⟨0, 12, 23, 13⟩] ⟨0, 12, 27, 15⟩ [] (htab.trans rfl) (fun z hz => by
            simp only [List.mem_cons, List.not_mem_nil, or_false] at hz
            rcases hz with rfl | rfl | rfl
            · exact Or.inr ⟨by decide, pw_ioX, hts _ wA_144, hNc (pw_isX, pw_ioX) (List.mem_of_getElem? (i := 2) rfl)⟩
            · exact Or.inr ⟨by decide, pw_neX, hts _ wA_145, hNc (pw_isX, pw_neX) (List.mem_of_getElem? (i := 3) rfl)⟩
            · exact Or.inr ⟨by decide, pw_iaX, hts _ wA_73, hNc (pw_isX, pw_iaX) (List.mem_of_getElem? (i := 0) rfl)⟩) rfl (by decide) (hts _ wA_74) (va_Nw.use rfl (hX.2.2.2.1 pw_isX (by decide))) hce hcv hcl ?_
      refine lv_astore (lv' := [(5, .ref q), (0, .ref (ad 0)), (1, .int a1), (2, .int a2), (3, .int a3), (4, .ref ob)]) hx hb dL_write_27 hl (by decide) rfl (fun ls hl => ?_)
      refine lv_iconst (v := 4) hx hb dL_write_29 (by decide) ?_
      exact ml_ret (ad0 := ad) hC hr hlocks (by rw [hE1]; show (4 : Int32) = nI (List.idxOf pw_isX [pw_ioX, pw_neX, pw_iaX, pw_isX] + 1); decide +kernel) (fun _ _ => rfl) hG (by rw [hE1]; exact ho1) hS (Nat.le_of_ble_eq_true rfl) (Nat.le_of_ble_eq_true rfl) dL_write_30
  · have ho1 : pl_out cL ob o H := by obtain ⟨f, h1, h2⟩ := ho; exact ⟨f, hob1.trans h1, h2⟩
    refine lv_i2l (v := v.toInt64) hx hb dL_write_10 rfl ?_
    refine ml_last hx hb ho1 har hAo hG hS dL_write_11 (fun H locs ho1 hG hS => ?_)
    refine lv_goto (tgt := 31) hx hb dL_write_12 (by decide) ?_
    refine lv_iconst (v := 0) hx hb dL_write_31 (by decide) ?_
    exact ml_ret (ad0 := ad) hC hr hlocks (by rw [hv]; rfl) hag hG (by rw [hv]; exact ho1) hS (Nat.le_of_ble_eq_true rfl) (Nat.le_of_ble_eq_true rfl) dL_write_32
set_option maxHeartbeats 4000000 in
set_option maxRecDepth 100000 in
theorem kL_frameOf (l : Launch) (D : va_G) (cA : Nat → ClassId) (cL : ClassId) (A : Nat → Prop) (ad : Nat → Nat) (hlt : l.stackTraces = false) {σ σ' : pw_S} {r : Int32 ⊕ String} {a1 : Int32} {a2 : Int32} {ob : Nat} {o : Int64} (hf : fX3_frameOf a1 a2 σ = some (r, σ')) (hE : ∀ E, r = .inr E → E ∈ [pw_ioX]) : Met l yL_frameOf (Cond.codeWith yL_frameOf cL_frameOf 5 (some .int) [(0, 10, 13, 27)] :: wsL_law) ({ frames := 9, cells := 2, slots := 12, locals := 148 }) (va_Pc [.ref (ad 0), .int a1, .int a2, .ref ob] (pl_U D cA cL A ad σ ob o)) (pl_Q D cA cL A ad σ' ob (wrI [pw_ioX] o r)) 2 12 A := by
  refine ml_enter (by decide) rfl (Nat.le_of_ble_eq_true rfl) ?_
  intro p e s m args below meth c ls hC hr hlocks htab hU hl
  obtain ⟨hx, hb, hml, hown, hts⟩ := id hC
  obtain ⟨⟨hG, hK, hA', hX⟩, ho, hAo, har, hNc⟩ := hU
  have hob : ob < s.heap.size := by obtain ⟨f, h1, -⟩ := ho; exact (Array.getElem?_eq_some_iff.mp h1).1
  have hA : ∀ q : Nat, s.heap.size ≤ q → A q := fun q h => (hA' q h).1
  have hl : lv_has ls 5 [(0, .ref (ad 0)), (1, .int a1), (2, .int a2), (3, .ref ob)] := hl
  refine lv_aload_n hx hb dL_frameOf_0 rfl (lv_at hl 3 rfl) ?_
  refine lv_iconst (v := 0) hx hb dL_frameOf_1 (by decide) ?_
  refine lv_aload_n hx hb dL_frameOf_2 rfl (lv_at hl 0 rfl) ?_
  refine lv_iload_n hx hb dL_frameOf_3 rfl (lv_at hl 1 rfl) ?_
  refine lv_iload_n hx hb dL_frameOf_4 rfl (lv_at hl 2 rfl) ?_
  refine ml_V (As := [.int a1, .int a2]) hC hK hA hob hX hG (kX3_frameOf l D cA (pl_A A ob) ad hlt hf) ykX3_frameOf wA_553 wA_554 wA_555 rfl ⟨rfl, rfl, Nat.le_of_ble_eq_true rfl, Nat.le_of_ble_eq_true rfl⟩ rfl hl.1 rfl (Nat.le_of_ble_eq_true rfl) dL_frameOf_5 ⟨Nat.le_of_ble_eq_true rfl, Nat.le_of_ble_eq_true rfl⟩ (fun E q ce H locs hE1 hG hob1 hS hce hcv hcl => ?_) (fun v ad1 H locs hv hag hG hob1 hS => ?_)
  · have ho1 : pl_out cL ob o H := by obtain ⟨f, h1, h2⟩ := ho; exact ⟨f, hob1.trans h1, h2⟩
    have hm := hE E hE1
    obtain rfl := List.mem_singleton.mp hm
    refine vx_catch (own := RL) (name := pw_ioX) hown [] ⟨0, 10, 13, 27⟩ [] (htab.trans rfl) (fun z hz => absurd hz List.not_mem_nil) rfl (by decide) (hts _ wA_144) (va_Nw.use rfl (hX.2.2.2.1 pw_ioX (by decide))) hce hcv hcl ?_
    refine lv_astore (lv' := [(4, .ref q), (0, .ref (ad 0)), (1, .int a1), (2, .int a2), (3, .ref ob)]) hx hb dL_frameOf_13 hl (by decide) rfl (fun ls hl => ?_)
    refine lv_iconst (v := 1) hx hb dL_frameOf_15 (by decide) ?_
    exact ml_ret (ad0 := ad) hC hr hlocks (by rw [hE1]; show (1 : Int32) = nI (List.idxOf pw_ioX [pw_ioX] + 1); decide +kernel) (fun _ _ => rfl) hG (by rw [hE1]; exact ho1) hS (Nat.le_of_ble_eq_true rfl) (Nat.le_of_ble_eq_true rfl) dL_frameOf_16
  · have ho1 : pl_out cL ob o H := by obtain ⟨f, h1, h2⟩ := ho; exact ⟨f, hob1.trans h1, h2⟩
    refine lv_i2l (v := v.toInt64) hx hb dL_frameOf_8 rfl ?_
    refine ml_last hx hb ho1 har hAo hG hS dL_frameOf_9 (fun H locs ho1 hG hS => ?_)
    refine lv_goto (tgt := 17) hx hb dL_frameOf_10 (by decide) ?_
    refine lv_iconst (v := 0) hx hb dL_frameOf_17 (by decide) ?_
    exact ml_ret (ad0 := ad) hC hr hlocks (by rw [hv]; rfl) hag hG (by rw [hv]; exact ho1) hS (Nat.le_of_ble_eq_true rfl) (Nat.le_of_ble_eq_true rfl) dL_frameOf_18
set_option maxHeartbeats 4000000 in
set_option maxRecDepth 100000 in
theorem kL_slotOf (l : Launch) (D : va_G) (cA : Nat → ClassId) (cL : ClassId) (A : Nat → Prop) (ad : Nat → Nat) (hlt : l.stackTraces = false) {σ σ' : pw_S} {r : Int32 ⊕ String} {a1 : Int32} {a2 : Int32} {ob : Nat} {o : Int64} (hf : fX3_slotOf a1 a2 σ = some (r, σ')) (hE : ∀ E, r = .inr E → E ∈ [pw_ioX]) : Met l yL_slotOf (Cond.codeWith yL_slotOf cL_slotOf 5 (some .int) [(0, 10, 13, 27)] :: wsL_law) ({ frames := 9, cells := 2, slots := 12, locals := 148 }) (va_Pc [.ref (ad 0), .int a1, .int a2, .ref ob] (pl_U D cA cL A ad σ ob o)) (pl_Q D cA cL A ad σ' ob (wrI [pw_ioX] o r)) 2 12 A := by
  refine ml_enter (by decide) rfl (Nat.le_of_ble_eq_true rfl) ?_
  intro p e s m args below meth c ls hC hr hlocks htab hU hl
  obtain ⟨hx, hb, hml, hown, hts⟩ := id hC
  obtain ⟨⟨hG, hK, hA', hX⟩, ho, hAo, har, hNc⟩ := hU
  have hob : ob < s.heap.size := by obtain ⟨f, h1, -⟩ := ho; exact (Array.getElem?_eq_some_iff.mp h1).1
  have hA : ∀ q : Nat, s.heap.size ≤ q → A q := fun q h => (hA' q h).1
  have hl : lv_has ls 5 [(0, .ref (ad 0)), (1, .int a1), (2, .int a2), (3, .ref ob)] := hl
  refine lv_aload_n hx hb dL_slotOf_0 rfl (lv_at hl 3 rfl) ?_
  refine lv_iconst (v := 0) hx hb dL_slotOf_1 (by decide) ?_
  refine lv_aload_n hx hb dL_slotOf_2 rfl (lv_at hl 0 rfl) ?_
  refine lv_iload_n hx hb dL_slotOf_3 rfl (lv_at hl 1 rfl) ?_
  refine lv_iload_n hx hb dL_slotOf_4 rfl (lv_at hl 2 rfl) ?_
  refine ml_V (As := [.int a1, .int a2]) hC hK hA hob hX hG (kX3_slotOf l D cA (pl_A A ob) ad hlt hf) ykX3_slotOf wA_568 wA_569 wA_570 rfl ⟨rfl, rfl, Nat.le_of_ble_eq_true rfl, Nat.le_of_ble_eq_true rfl⟩ rfl hl.1 rfl (Nat.le_of_ble_eq_true rfl) dL_slotOf_5 ⟨Nat.le_of_ble_eq_true rfl, Nat.le_of_ble_eq_true rfl⟩ (fun E q ce H locs hE1 hG hob1 hS hce hcv hcl => ?_) (fun v ad1 H locs hv hag hG hob1 hS => ?_)
  · have ho1 : pl_out cL ob o H := by obtain ⟨f, h1, h2⟩ := ho; exact ⟨f, hob1.trans h1, h2⟩
    have hm := hE E hE1
    obtain rfl := List.mem_singleton.mp hm
    refine vx_catch (own := RL) (name := pw_ioX) hown [] ⟨0, 10, 13, 27⟩ [] (htab.trans rfl) (fun z hz => absurd hz List.not_mem_nil) rfl (by decide) (hts _ wA_144) (va_Nw.use rfl (hX.2.2.2.1 pw_ioX (by decide))) hce hcv hcl ?_
    refine lv_astore (lv' := [(4, .ref q), (0, .ref (ad 0)), (1, .int a1), (2, .int a2), (3, .ref ob)]) hx hb dL_slotOf_13 hl (by decide) rfl (fun ls hl => ?_)
    refine lv_iconst (v := 1) hx hb dL_slotOf_15 (by decide) ?_
    exact ml_ret (ad0 := ad) hC hr hlocks (by rw [hE1]; show (1 : Int32) = nI (List.idxOf pw_ioX [pw_ioX] + 1); decide +kernel) (fun _ _ => rfl) hG (by rw [hE1]; exact ho1) hS (Nat.le_of_ble_eq_true rfl) (Nat.le_of_ble_eq_true rfl) dL_slotOf_16
  · have ho1 : pl_out cL ob o H := by obtain ⟨f, h1, h2⟩ := ho; exact ⟨f, hob1.trans h1, h2⟩
    refine lv_i2l (v := v.toInt64) hx hb dL_slotOf_8 rfl ?_
    refine ml_last hx hb ho1 har hAo hG hS dL_slotOf_9 (fun H locs ho1 hG hS => ?_)
    refine lv_goto (tgt := 17) hx hb dL_slotOf_10 (by decide) ?_
    refine lv_iconst (v := 0) hx hb dL_slotOf_17 (by decide) ?_
    exact ml_ret (ad0 := ad) hC hr hlocks (by rw [hv]; rfl) hag hG (by rw [hv]; exact ho1) hS (Nat.le_of_ble_eq_true rfl) (Nat.le_of_ble_eq_true rfl) dL_slotOf_18
set_option maxHeartbeats 4000000 in
set_option maxRecDepth 100000 in
theorem kL_sharersOf (l : Launch) (D : va_G) (cA : Nat → ClassId) (cL : ClassId) (A : Nat → Prop) (ad : Nat → Nat) (hlt : l.stackTraces = false) {σ σ' : pw_S} {r : Int32 ⊕ String} {a1 : Int32} {a2 : Int32} {ob : Nat} {o : Int64} (hf : fX3_sharersOf a1 a2 σ = some (r, σ')) (hE : ∀ E, r = .inr E → E ∈ [pw_ioX]) : Met l yL_sharersOf (Cond.codeWith yL_sharersOf cL_sharersOf 5 (some .int) [(0, 10, 13, 27)] :: wsL_law) ({ frames := 9, cells := 2, slots := 12, locals := 148 }) (va_Pc [.ref (ad 0), .int a1, .int a2, .ref ob] (pl_U D cA cL A ad σ ob o)) (pl_Q D cA cL A ad σ' ob (wrI [pw_ioX] o r)) 2 12 A := by
  refine ml_enter (by decide) rfl (Nat.le_of_ble_eq_true rfl) ?_
  intro p e s m args below meth c ls hC hr hlocks htab hU hl
  obtain ⟨hx, hb, hml, hown, hts⟩ := id hC
  obtain ⟨⟨hG, hK, hA', hX⟩, ho, hAo, har, hNc⟩ := hU
  have hob : ob < s.heap.size := by obtain ⟨f, h1, -⟩ := ho; exact (Array.getElem?_eq_some_iff.mp h1).1
  have hA : ∀ q : Nat, s.heap.size ≤ q → A q := fun q h => (hA' q h).1
  have hl : lv_has ls 5 [(0, .ref (ad 0)), (1, .int a1), (2, .int a2), (3, .ref ob)] := hl
  refine lv_aload_n hx hb dL_sharersOf_0 rfl (lv_at hl 3 rfl) ?_
  refine lv_iconst (v := 0) hx hb dL_sharersOf_1 (by decide) ?_
  refine lv_aload_n hx hb dL_sharersOf_2 rfl (lv_at hl 0 rfl) ?_
  refine lv_iload_n hx hb dL_sharersOf_3 rfl (lv_at hl 1 rfl) ?_
  refine lv_iload_n hx hb dL_sharersOf_4 rfl (lv_at hl 2 rfl) ?_
  refine ml_V (As := [.int a1, .int a2]) hC hK hA hob hX hG (kX3_sharersOf l D cA (pl_A A ob) ad hlt hf) ykX3_sharersOf wA_583 wA_584 wA_585 rfl ⟨rfl, rfl, Nat.le_of_ble_eq_true rfl, Nat.le_of_ble_eq_true rfl⟩ rfl hl.1 rfl (Nat.le_of_ble_eq_true rfl) dL_sharersOf_5 ⟨Nat.le_of_ble_eq_true rfl, Nat.le_of_ble_eq_true rfl⟩ (fun E q ce H locs hE1 hG hob1 hS hce hcv hcl => ?_) (fun v ad1 H locs hv hag hG hob1 hS => ?_)
  · have ho1 : pl_out cL ob o H := by obtain ⟨f, h1, h2⟩ := ho; exact ⟨f, hob1.trans h1, h2⟩
    have hm := hE E hE1
    obtain rfl := List.mem_singleton.mp hm
    refine vx_catch (own := RL) (name := pw_ioX) hown [] ⟨0, 10, 13, 27⟩ [] (htab.trans rfl) (fun z hz => absurd hz List.not_mem_nil) rfl (by decide) (hts _ wA_144) (va_Nw.use rfl (hX.2.2.2.1 pw_ioX (by decide))) hce hcv hcl ?_
    refine lv_astore (lv' := [(4, .ref q), (0, .ref (ad 0)), (1, .int a1), (2, .int a2), (3, .ref ob)]) hx hb dL_sharersOf_13 hl (by decide) rfl (fun ls hl => ?_)
    refine lv_iconst (v := 1) hx hb dL_sharersOf_15 (by decide) ?_
    exact ml_ret (ad0 := ad) hC hr hlocks (by rw [hE1]; show (1 : Int32) = nI (List.idxOf pw_ioX [pw_ioX] + 1); decide +kernel) (fun _ _ => rfl) hG (by rw [hE1]; exact ho1) hS (Nat.le_of_ble_eq_true rfl) (Nat.le_of_ble_eq_true rfl) dL_sharersOf_16
  · have ho1 : pl_out cL ob o H := by obtain ⟨f, h1, h2⟩ := ho; exact ⟨f, hob1.trans h1, h2⟩
    refine lv_i2l (v := v.toInt64) hx hb dL_sharersOf_8 rfl ?_
    refine ml_last hx hb ho1 har hAo hG hS dL_sharersOf_9 (fun H locs ho1 hG hS => ?_)
    refine lv_goto (tgt := 17) hx hb dL_sharersOf_10 (by decide) ?_
    refine lv_iconst (v := 0) hx hb dL_sharersOf_17 (by decide) ?_
    exact ml_ret (ad0 := ad) hC hr hlocks (by rw [hv]; rfl) hag hG (by rw [hv]; exact ho1) hS (Nat.le_of_ble_eq_true rfl) (Nat.le_of_ble_eq_true rfl) dL_sharersOf_18
set_option maxHeartbeats 4000000 in
set_option maxRecDepth 100000 in
theorem kL_frameState (l : Launch) (D : va_G) (cA : Nat → ClassId) (cL : ClassId) (A : Nat → Prop) (ad : Nat → Nat) (hlt : l.stackTraces = false) {σ σ' : pw_S} {r : Int32 ⊕ String} {a1 : Int32} {ob : Nat} {o : Int64} (hf : fX3_frameState a1 σ = some (r, σ')) (hE : ∀ E, r = .inr E → E ∈ [pw_ioX]) : Met l yL_frameState (Cond.codeWith yL_frameState cL_frameState 4 (some .int) [(0, 9, 12, 27)] :: wsL_law) ({ frames := 8, cells := 1, slots := 6, locals := 125 }) (va_Pc [.ref (ad 0), .int a1, .ref ob] (pl_U D cA cL A ad σ ob o)) (pl_Q D cA cL A ad σ' ob (wrI [pw_ioX] o r)) 1 6 A := by
  refine ml_enter (by decide) rfl (Nat.le_of_ble_eq_true rfl) ?_
  intro p e s m args below meth c ls hC hr hlocks htab hU hl
  obtain ⟨hx, hb, hml, hown, hts⟩ := id hC
  obtain ⟨⟨hG, hK, hA', hX⟩, ho, hAo, har, hNc⟩ := hU
  have hob : ob < s.heap.size := by obtain ⟨f, h1, -⟩ := ho; exact (Array.getElem?_eq_some_iff.mp h1).1
  have hA : ∀ q : Nat, s.heap.size ≤ q → A q := fun q h => (hA' q h).1
  have hl : lv_has ls 4 [(0, .ref (ad 0)), (1, .int a1), (2, .ref ob)] := hl
  refine lv_aload_n hx hb dL_frameState_0 rfl (lv_at hl 2 rfl) ?_
  refine lv_iconst (v := 0) hx hb dL_frameState_1 (by decide) ?_
  refine lv_aload_n hx hb dL_frameState_2 rfl (lv_at hl 0 rfl) ?_
  refine lv_iload_n hx hb dL_frameState_3 rfl (lv_at hl 1 rfl) ?_
  refine ml_V (As := [.int a1]) hC hK hA hob hX hG (kX3_frameState l D cA (pl_A A ob) ad hlt hf) ykX3_frameState wA_594 wA_595 wA_596 rfl ⟨rfl, rfl, Nat.le_of_ble_eq_true rfl, Nat.le_of_ble_eq_true rfl⟩ rfl hl.1 rfl (Nat.le_of_ble_eq_true rfl) dL_frameState_4 ⟨Nat.le_of_ble_eq_true rfl, Nat.le_of_ble_eq_true rfl⟩ (fun E q ce H locs hE1 hG hob1 hS hce hcv hcl => ?_) (fun v ad1 H locs hv hag hG hob1 hS => ?_)
  · have ho1 : pl_out cL ob o H := by obtain ⟨f, h1, h2⟩ := ho; exact ⟨f, hob1.trans h1, h2⟩
    have hm := hE E hE1
    obtain rfl := List.mem_singleton.mp hm
    refine vx_catch (own := RL) (name := pw_ioX) hown [] ⟨0, 9, 12, 27⟩ [] (htab.trans rfl) (fun z hz => absurd hz List.not_mem_nil) rfl (by decide) (hts _ wA_144) (va_Nw.use rfl (hX.2.2.2.1 pw_ioX (by decide))) hce hcv hcl ?_
    refine lv_astore_n (lv' := [(3, .ref q), (0, .ref (ad 0)), (1, .int a1), (2, .ref ob)]) hx hb dL_frameState_12 rfl hl (by decide) rfl (fun ls hl => ?_)
    refine lv_iconst (v := 1) hx hb dL_frameState_13 (by decide) ?_
    exact ml_ret (ad0 := ad) hC hr hlocks (by rw [hE1]; show (1 : Int32) = nI (List.idxOf pw_ioX [pw_ioX] + 1); decide +kernel) (fun _ _ => rfl) hG (by rw [hE1]; exact ho1) hS (Nat.le_of_ble_eq_true rfl) (Nat.le_of_ble_eq_true rfl) dL_frameState_14
  · have ho1 : pl_out cL ob o H := by obtain ⟨f, h1, h2⟩ := ho; exact ⟨f, hob1.trans h1, h2⟩
    refine lv_i2l (v := v.toInt64) hx hb dL_frameState_7 rfl ?_
    refine ml_last hx hb ho1 har hAo hG hS dL_frameState_8 (fun H locs ho1 hG hS => ?_)
    refine lv_goto (tgt := 15) hx hb dL_frameState_9 (by decide) ?_
    refine lv_iconst (v := 0) hx hb dL_frameState_15 (by decide) ?_
    exact ml_ret (ad0 := ad) hC hr hlocks (by rw [hv]; rfl) hag hG (by rw [hv]; exact ho1) hS (Nat.le_of_ble_eq_true rfl) (Nat.le_of_ble_eq_true rfl) dL_frameState_16
set_option maxHeartbeats 4000000 in
set_option maxRecDepth 100000 in
theorem kL_latestUse (l : Launch) (D : va_G) (cA : Nat → ClassId) (cL : ClassId) (A : Nat → Prop) (ad : Nat → Nat) (hlt : l.stackTraces = false) {σ σ' : pw_S} {r : Int32 ⊕ String} {a1 : Int32} {ob : Nat} {o : Int64} (hf : fX3_latestUse a1 σ = some (r, σ')) (hE : ∀ E, r = .inr E → E ∈ [pw_ioX]) : Met l yL_latestUse (Cond.codeWith yL_latestUse cL_latestUse 4 (some .int) [(0, 9, 12, 27)] :: wsL_law) ({ frames := 8, cells := 1, slots := 6, locals := 124 }) (va_Pc [.ref (ad 0), .int a1, .ref ob] (pl_U D cA cL A ad σ ob o)) (pl_Q D cA cL A ad σ' ob (wrI [pw_ioX] o r)) 1 6 A := by
  refine ml_enter (by decide) rfl (Nat.le_of_ble_eq_true rfl) ?_
  intro p e s m args below meth c ls hC hr hlocks htab hU hl
  obtain ⟨hx, hb, hml, hown, hts⟩ := id hC
  obtain ⟨⟨hG, hK, hA', hX⟩, ho, hAo, har, hNc⟩ := hU
  have hob : ob < s.heap.size := by obtain ⟨f, h1, -⟩ := ho; exact (Array.getElem?_eq_some_iff.mp h1).1
  have hA : ∀ q : Nat, s.heap.size ≤ q → A q := fun q h => (hA' q h).1
  have hl : lv_has ls 4 [(0, .ref (ad 0)), (1, .int a1), (2, .ref ob)] := hl
  refine lv_aload_n hx hb dL_latestUse_0 rfl (lv_at hl 2 rfl) ?_
  refine lv_iconst (v := 0) hx hb dL_latestUse_1 (by decide) ?_
  refine lv_aload_n hx hb dL_latestUse_2 rfl (lv_at hl 0 rfl) ?_
  refine lv_iload_n hx hb dL_latestUse_3 rfl (lv_at hl 1 rfl) ?_
  refine ml_V (As := [.int a1]) hC hK hA hob hX hG (kX3_latestUse l D cA (pl_A A ob) ad hlt hf) ykX3_latestUse wA_617 wA_618 wA_619 rfl ⟨rfl, rfl, Nat.le_of_ble_eq_true rfl, Nat.le_of_ble_eq_true rfl⟩ rfl hl.1 rfl (Nat.le_of_ble_eq_true rfl) dL_latestUse_4 ⟨Nat.le_of_ble_eq_true rfl, Nat.le_of_ble_eq_true rfl⟩ (fun E q ce H locs hE1 hG hob1 hS hce hcv hcl => ?_) (fun v ad1 H locs hv hag hG hob1 hS => ?_)
  · have ho1 : pl_out cL ob o H := by obtain ⟨f, h1, h2⟩ := ho; exact ⟨f, hob1.trans h1, h2⟩
    have hm := hE E hE1
    obtain rfl := List.mem_singleton.mp hm
    refine vx_catch (own := RL) (name := pw_ioX) hown [] ⟨0, 9, 12, 27⟩ [] (htab.trans rfl) (fun z hz => absurd hz List.not_mem_nil) rfl (by decide) (hts _ wA_144) (va_Nw.use rfl (hX.2.2.2.1 pw_ioX (by decide))) hce hcv hcl ?_
    refine lv_astore_n (lv' := [(3, .ref q), (0, .ref (ad 0)), (1, .int a1), (2, .ref ob)]) hx hb dL_latestUse_12 rfl hl (by decide) rfl (fun ls hl => ?_)
    refine lv_iconst (v := 1) hx hb dL_latestUse_13 (by decide) ?_
    exact ml_ret (ad0 := ad) hC hr hlocks (by rw [hE1]; show (1 : Int32) = nI (List.idxOf pw_ioX [pw_ioX] + 1); decide +kernel) (fun _ _ => rfl) hG (by rw [hE1]; exact ho1) hS (Nat.le_of_ble_eq_true rfl) (Nat.le_of_ble_eq_true rfl) dL_latestUse_14
  · have ho1 : pl_out cL ob o H := by obtain ⟨f, h1, h2⟩ := ho; exact ⟨f, hob1.trans h1, h2⟩
    refine lv_i2l (v := v.toInt64) hx hb dL_latestUse_7 rfl ?_
    refine ml_last hx hb ho1 har hAo hG hS dL_latestUse_8 (fun H locs ho1 hG hS => ?_)
    refine lv_goto (tgt := 15) hx hb dL_latestUse_9 (by decide) ?_
    refine lv_iconst (v := 0) hx hb dL_latestUse_15 (by decide) ?_
    exact ml_ret (ad0 := ad) hC hr hlocks (by rw [hv]; rfl) hag hG (by rw [hv]; exact ho1) hS (Nat.le_of_ble_eq_true rfl) (Nat.le_of_ble_eq_true rfl) dL_latestUse_16
set_option maxHeartbeats 4000000 in
set_option maxRecDepth 100000 in
theorem kL_isReferenced (l : Launch) (D : va_G) (cA : Nat → ClassId) (cL : ClassId) (A : Nat → Prop) (ad : Nat → Nat) (hlt : l.stackTraces = false) {σ σ' : pw_S} {r : Int32 ⊕ String} {a1 : Int32} {ob : Nat} {o : Int64} (hf : fX3_isReferenced a1 σ = some (r, σ')) (hE : ∀ E, r = .inr E → E ∈ [pw_ioX]) : Met l yL_isReferenced (Cond.codeWith yL_isReferenced cL_isReferenced 4 (some .int) [(0, 16, 19, 27)] :: wsL_law) ({ frames := 8, cells := 1, slots := 6, locals := 124 }) (va_Pc [.ref (ad 0), .int a1, .ref ob] (pl_U D cA cL A ad σ ob o)) (pl_Q D cA cL A ad σ' ob (wrZ [pw_ioX] o r)) 1 6 A := by
  refine ml_enter (by decide) rfl (Nat.le_of_ble_eq_true rfl) ?_
  intro p e s m args below meth c ls hC hr hlocks htab hU hl
  obtain ⟨hx, hb, hml, hown, hts⟩ := id hC
  obtain ⟨⟨hG, hK, hA', hX⟩, ho, hAo, har, hNc⟩ := hU
  have hob : ob < s.heap.size := by obtain ⟨f, h1, -⟩ := ho; exact (Array.getElem?_eq_some_iff.mp h1).1
  have hA : ∀ q : Nat, s.heap.size ≤ q → A q := fun q h => (hA' q h).1
  have hl : lv_has ls 4 [(0, .ref (ad 0)), (1, .int a1), (2, .ref ob)] := hl
  refine lv_aload_n hx hb dL_isReferenced_0 rfl (lv_at hl 2 rfl) ?_
  refine lv_iconst (v := 0) hx hb dL_isReferenced_1 (by decide) ?_
  refine lv_aload_n hx hb dL_isReferenced_2 rfl (lv_at hl 0 rfl) ?_
  refine lv_iload_n hx hb dL_isReferenced_3 rfl (lv_at hl 1 rfl) ?_
  refine ml_V (As := [.int a1]) hC hK hA hob hX hG (kX3_isReferenced l D cA (pl_A A ob) ad hlt hf) ykX3_isReferenced wA_632 wA_633 wA_634 rfl ⟨rfl, rfl, Nat.le_of_ble_eq_true rfl, Nat.le_of_ble_eq_true rfl⟩ rfl hl.1 rfl (Nat.le_of_ble_eq_true rfl) dL_isReferenced_4 ⟨Nat.le_of_ble_eq_true rfl, Nat.le_of_ble_eq_true rfl⟩ (fun E q ce H locs hE1 hG hob1 hS hce hcv hcl => ?_) (fun v ad1 H locs hv hag hG hob1 hS => ?_)
  · have ho1 : pl_out cL ob o H := by obtain ⟨f, h1, h2⟩ := ho; exact ⟨f, hob1.trans h1, h2⟩
    have hm := hE E hE1
    obtain rfl := List.mem_singleton.mp hm
    refine vx_catch (own := RL) (name := pw_ioX) hown [] ⟨0, 16, 19, 27⟩ [] (htab.trans rfl) (fun z hz => absurd hz List.not_mem_nil) rfl (by decide) (hts _ wA_144) (va_Nw.use rfl (hX.2.2.2.1 pw_ioX (by decide))) hce hcv hcl ?_
    refine lv_astore_n (lv' := [(3, .ref q), (0, .ref (ad 0)), (1, .int a1), (2, .ref ob)]) hx hb dL_isReferenced_19 rfl hl (by decide) rfl (fun ls hl => ?_)
    refine lv_iconst (v := 1) hx hb dL_isReferenced_20 (by decide) ?_
    exact ml_ret (ad0 := ad) hC hr hlocks (by rw [hE1]; show (1 : Int32) = nI (List.idxOf pw_ioX [pw_ioX] + 1); decide +kernel) (fun _ _ => rfl) hG (by rw [hE1]; exact ho1) hS (Nat.le_of_ble_eq_true rfl) (Nat.le_of_ble_eq_true rfl) dL_isReferenced_21
  · have ho1 : pl_out cL ob o H := by obtain ⟨f, h1, h2⟩ := ho; exact ⟨f, hob1.trans h1, h2⟩
    refine lv_if_eq (tgt := 14) hx hb dL_isReferenced_7 (by decide) (fun cz => ?_) (fun cz => ?_)
    · refine lv_lconst (v := 0) hx hb dL_isReferenced_14 (by decide) ?_
      refine ml_last hx hb ho1 har hAo hG hS dL_isReferenced_15 (fun H locs ho1 hG hS => ?_)
      refine lv_goto (tgt := 22) hx hb dL_isReferenced_16 (by decide) ?_
      refine lv_iconst (v := 0) hx hb dL_isReferenced_22 (by decide) ?_
      exact ml_ret (ad0 := ad) hC hr hlocks (by rw [hv]; rfl) hag hG (by rw [hv]; exact (by show pl_out cL ob (if v = 0 then 0 else 1) H; rw [if_pos cz]; exact ho1)) hS (Nat.le_of_ble_eq_true rfl) (Nat.le_of_ble_eq_true rfl) dL_isReferenced_23
    · refine lv_lconst (v := 1) hx hb dL_isReferenced_10 (by decide) ?_
      refine lv_goto (tgt := 15) hx hb dL_isReferenced_11 (by decide) ?_
      refine ml_last hx hb ho1 har hAo hG hS dL_isReferenced_15 (fun H locs ho1 hG hS => ?_)
      refine lv_goto (tgt := 22) hx hb dL_isReferenced_16 (by decide) ?_
      refine lv_iconst (v := 0) hx hb dL_isReferenced_22 (by decide) ?_
      exact ml_ret (ad0 := ad) hC hr hlocks (by rw [hv]; rfl) hag hG (by rw [hv]; exact (by show pl_out cL ob (if v = 0 then 0 else 1) H; rw [if_neg cz]; exact ho1)) hS (Nat.le_of_ble_eq_true rfl) (Nat.le_of_ble_eq_true rfl) dL_isReferenced_23
set_option maxHeartbeats 4000000 in
set_option maxRecDepth 100000 in
theorem kL_workingSet (l : Launch) (D : va_G) (cA : Nat → ClassId) (cL : ClassId) (A : Nat → Prop) (ad : Nat → Nat) (hlt : l.stackTraces = false) {σ σ' : pw_S} {r : Int32 ⊕ String} {a1 : Int32} {ob : Nat} {o : Int64} (hf : fX3_workingSet a1 σ = some (r, σ')) (hE : ∀ E, r = .inr E → E ∈ [pw_ioX]) : Met l yL_workingSet (Cond.codeWith yL_workingSet cL_workingSet 4 (some .int) [(0, 9, 12, 27)] :: wsL_law) ({ frames := 8, cells := 1, slots := 6, locals := 127 }) (va_Pc [.ref (ad 0), .int a1, .ref ob] (pl_U D cA cL A ad σ ob o)) (pl_Q D cA cL A ad σ' ob (wrI [pw_ioX] o r)) 1 6 A := by
  refine ml_enter (by decide) rfl (Nat.le_of_ble_eq_true rfl) ?_
  intro p e s m args below meth c ls hC hr hlocks htab hU hl
  obtain ⟨hx, hb, hml, hown, hts⟩ := id hC
  obtain ⟨⟨hG, hK, hA', hX⟩, ho, hAo, har, hNc⟩ := hU
  have hob : ob < s.heap.size := by obtain ⟨f, h1, -⟩ := ho; exact (Array.getElem?_eq_some_iff.mp h1).1
  have hA : ∀ q : Nat, s.heap.size ≤ q → A q := fun q h => (hA' q h).1
  have hl : lv_has ls 4 [(0, .ref (ad 0)), (1, .int a1), (2, .ref ob)] := hl
  refine lv_aload_n hx hb dL_workingSet_0 rfl (lv_at hl 2 rfl) ?_
  refine lv_iconst (v := 0) hx hb dL_workingSet_1 (by decide) ?_
  refine lv_aload_n hx hb dL_workingSet_2 rfl (lv_at hl 0 rfl) ?_
  refine lv_iload_n hx hb dL_workingSet_3 rfl (lv_at hl 1 rfl) ?_
  refine ml_V (As := [.int a1]) hC hK hA hob hX hG (kX3_workingSet l D cA (pl_A A ob) ad hlt hf) ykX3_workingSet wA_663 wA_664 wA_665 rfl ⟨rfl, rfl, Nat.le_of_ble_eq_true rfl, Nat.le_of_ble_eq_true rfl⟩ rfl hl.1 rfl (Nat.le_of_ble_eq_true rfl) dL_workingSet_4 ⟨Nat.le_of_ble_eq_true rfl, Nat.le_of_ble_eq_true rfl⟩ (fun E q ce H locs hE1 hG hob1 hS hce hcv hcl => ?_) (fun v ad1 H locs hv hag hG hob1 hS => ?_)
  · have ho1 : pl_out cL ob o H := by obtain ⟨f, h1, h2⟩ := ho; exact ⟨f, hob1.trans h1, h2⟩
    have hm := hE E hE1
    obtain rfl := List.mem_singleton.mp hm
    refine vx_catch (own := RL) (name := pw_ioX) hown [] ⟨0, 9, 12, 27⟩ [] (htab.trans rfl) (fun z hz => absurd hz List.not_mem_nil) rfl (by decide) (hts _ wA_144) (va_Nw.use rfl (hX.2.2.2.1 pw_ioX (by decide))) hce hcv hcl ?_
    refine lv_astore_n (lv' := [(3, .ref q), (0, .ref (ad 0)), (1, .int a1), (2, .ref ob)]) hx hb dL_workingSet_12 rfl hl (by decide) rfl (fun ls hl => ?_)
    refine lv_iconst (v := 1) hx hb dL_workingSet_13 (by decide) ?_
    exact ml_ret (ad0 := ad) hC hr hlocks (by rw [hE1]; show (1 : Int32) = nI (List.idxOf pw_ioX [pw_ioX] + 1); decide +kernel) (fun _ _ => rfl) hG (by rw [hE1]; exact ho1) hS (Nat.le_of_ble_eq_true rfl) (Nat.le_of_ble_eq_true rfl) dL_workingSet_14
  · have ho1 : pl_out cL ob o H := by obtain ⟨f, h1, h2⟩ := ho; exact ⟨f, hob1.trans h1, h2⟩
    refine lv_i2l (v := v.toInt64) hx hb dL_workingSet_7 rfl ?_
    refine ml_last hx hb ho1 har hAo hG hS dL_workingSet_8 (fun H locs ho1 hG hS => ?_)
    refine lv_goto (tgt := 15) hx hb dL_workingSet_9 (by decide) ?_
    refine lv_iconst (v := 0) hx hb dL_workingSet_15 (by decide) ?_
    exact ml_ret (ad0 := ad) hC hr hlocks (by rw [hv]; rfl) hag hG (by rw [hv]; exact ho1) hS (Nat.le_of_ble_eq_true rfl) (Nat.le_of_ble_eq_true rfl) dL_workingSet_16
set_option maxHeartbeats 4000000 in
set_option maxRecDepth 100000 in
theorem kL_count (l : Launch) (D : va_G) (cA : Nat → ClassId) (cL : ClassId) (A : Nat → Prop) (ad : Nat → Nat) (hlt : l.stackTraces = false) {σ σ' : pw_S} {r : Int32 ⊕ String} {a1 : Int32} {ob : Nat} {o : Int64} (hf : fX3_count a1 σ = some (r, σ')) (hE : ∀ E, r = .inr E → E ∈ [pw_ioX]) : Met l yL_count (Cond.codeWith yL_count cL_count 4 (some .int) [(0, 9, 12, 27)] :: wsL_law) ({ frames := 7, cells := 1, slots := 6, locals := 103 }) (va_Pc [.ref (ad 0), .int a1, .ref ob] (pl_U D cA cL A ad σ ob o)) (pl_Q D cA cL A ad σ' ob (wrI [pw_ioX] o r)) 1 6 A := by
  refine ml_enter (by decide) rfl (Nat.le_of_ble_eq_true rfl) ?_
  intro p e s m args below meth c ls hC hr hlocks htab hU hl
  obtain ⟨hx, hb, hml, hown, hts⟩ := id hC
  obtain ⟨⟨hG, hK, hA', hX⟩, ho, hAo, har, hNc⟩ := hU
  have hob : ob < s.heap.size := by obtain ⟨f, h1, -⟩ := ho; exact (Array.getElem?_eq_some_iff.mp h1).1
  have hA : ∀ q : Nat, s.heap.size ≤ q → A q := fun q h => (hA' q h).1
  have hl : lv_has ls 4 [(0, .ref (ad 0)), (1, .int a1), (2, .ref ob)] := hl
  refine lv_aload_n hx hb dL_count_0 rfl (lv_at hl 2 rfl) ?_
  refine lv_iconst (v := 0) hx hb dL_count_1 (by decide) ?_
  refine lv_aload_n hx hb dL_count_2 rfl (lv_at hl 0 rfl) ?_
  refine lv_iload_n hx hb dL_count_3 rfl (lv_at hl 1 rfl) ?_
  refine ml_V (As := [.int a1]) hC hK hA hob hX hG (kX3_count l D cA (pl_A A ob) ad hlt hf) ykX3_count wA_674 wA_675 wA_676 rfl ⟨rfl, rfl, Nat.le_of_ble_eq_true rfl, Nat.le_of_ble_eq_true rfl⟩ rfl hl.1 rfl (Nat.le_of_ble_eq_true rfl) dL_count_4 ⟨Nat.le_of_ble_eq_true rfl, Nat.le_of_ble_eq_true rfl⟩ (fun E q ce H locs hE1 hG hob1 hS hce hcv hcl => ?_) (fun v ad1 H locs hv hag hG hob1 hS => ?_)
  · have ho1 : pl_out cL ob o H := by obtain ⟨f, h1, h2⟩ := ho; exact ⟨f, hob1.trans h1, h2⟩
    have hm := hE E hE1
    obtain rfl := List.mem_singleton.mp hm
    refine vx_catch (own := RL) (name := pw_ioX) hown [] ⟨0, 9, 12, 27⟩ [] (htab.trans rfl) (fun z hz => absurd hz List.not_mem_nil) rfl (by decide) (hts _ wA_144) (va_Nw.use rfl (hX.2.2.2.1 pw_ioX (by decide))) hce hcv hcl ?_
    refine lv_astore_n (lv' := [(3, .ref q), (0, .ref (ad 0)), (1, .int a1), (2, .ref ob)]) hx hb dL_count_12 rfl hl (by decide) rfl (fun ls hl => ?_)
    refine lv_iconst (v := 1) hx hb dL_count_13 (by decide) ?_
    exact ml_ret (ad0 := ad) hC hr hlocks (by rw [hE1]; show (1 : Int32) = nI (List.idxOf pw_ioX [pw_ioX] + 1); decide +kernel) (fun _ _ => rfl) hG (by rw [hE1]; exact ho1) hS (Nat.le_of_ble_eq_true rfl) (Nat.le_of_ble_eq_true rfl) dL_count_14
  · have ho1 : pl_out cL ob o H := by obtain ⟨f, h1, h2⟩ := ho; exact ⟨f, hob1.trans h1, h2⟩
    refine lv_i2l (v := v.toInt64) hx hb dL_count_7 rfl ?_
    refine ml_last hx hb ho1 har hAo hG hS dL_count_8 (fun H locs ho1 hG hS => ?_)
    refine lv_goto (tgt := 15) hx hb dL_count_9 (by decide) ?_
    refine lv_iconst (v := 0) hx hb dL_count_15 (by decide) ?_
    exact ml_ret (ad0 := ad) hC hr hlocks (by rw [hv]; rfl) hag hG (by rw [hv]; exact ho1) hS (Nat.le_of_ble_eq_true rfl) (Nat.le_of_ble_eq_true rfl) dL_count_16
