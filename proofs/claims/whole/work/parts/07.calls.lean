/-! CALLS, THROWS AND RETURNS over the worlds: every method has the same words (wsL_law) behind its own code -/
theorem wa_good : wsL_law.all goodWord = true := by decide +kernel
theorem wa_pay {args : Array Value} {s : State} (hts : ∀ w ∈ wsL_law, w.before args s = true) : ∀ w ∈ wsL_law, ∀ (a' : Array Value) (U : State), s.WarmedH U.vm → w.before a' U = true :=
  fun w hw _ _ hW => word_at hW (good_of_word (List.all_eq_true.mp wa_good w hw)) (hts w hw)
abbrev wA (y : MethodName) (b : ByteArray) (n : Nat) (r : Option FieldType) : List Cond := Cond.code y b n r :: wsL_law
/-- what is known of a method by its name -/
def mw_Y (y : MethodName) (b : ByteArray) (maxL : Nat) (ret : Option FieldType) (n : Nat) : Prop :=
  Cond.code y b maxL ret ∈ wsL_law ∧ Cond.initialized y.cls ∈ wsL_law ∧ y.cls ≠ "java/lang/invoke/MethodHandle" ∧ y.cls ≠ "java/lang/invoke/VarHandle" ∧ (parseMethodDescriptor y.desc).map (fun d => d.parameters.length) = some n
theorem wa_B {R : Room} {s : State} {args : Array Value} {own : String} {index : Nat} {y : MethodName} {bytes : ByteArray} {maxL : Nat} {ret : Option FieldType} {rm : Room} {mc ms n : Nat} (hts : ∀ w ∈ wsL_law, w.before args s = true) (hY : mw_Y y bytes maxL ret n) (hl : Cond.methodLink own index y ∈ wsL_law)
    (hR : rm.cells = mc ∧ rm.slots = ms ∧ rm.frames + 1 ≤ R.frames ∧ 8 + (maxL + 11) + rm.locals ≤ R.locals) : CallB R s args own index y bytes maxL ret (wA y bytes maxL ret) rm mc ms n := by
  obtain ⟨h1, h2, h3, h4, h5⟩ := hY
  obtain ⟨r1, r2, r3, r4⟩ := hR
  refine ⟨r1, r2, r3, r4, fun w hw => ?_, List.mem_cons_self, hts _ h1, hts _ h2, ⟨h3, h4⟩, fun sig h => ?_, hts _ hl⟩
  · rcases List.mem_cons.mp hw with e | h
    · subst e; exact wa_pay hts _ h1
    · exact wa_pay hts _ h
  · rw [h] at h5
    exact (Option.some.inj h5).symm
abbrev pw_iaX : String := "java/lang/IllegalArgumentException"
abbrev pw_isX : String := "java/lang/IllegalStateException"
abbrev pw_ioX : String := "java/lang/IndexOutOfBoundsException"
abbrev pw_neX : String := "java/util/NoSuchElementException"
abbrev pw_sup : List String := ["java/lang/RuntimeException", "java/lang/Exception"]
def pw_str : List (Nat × String) := [(58, "the number of frames is not 4 to 12"), (72, "a content is in a frame"), (78, "the window is not 0 to 50"), (118, "the size of a segment is not 1 to 6"), (120, "4 segments were created"), (190, "the kind is not 0 to 5"), (219, "no such process was created"), (221, "there is no such page"), (223, "there is no such frame"), (227, "the process has exited"), (230, "10 processes were created"), (232, "the page is mapped"), (234, "the page is not mapped"), (236, "no such segment was created"), (238, "no segment has such an index"), (240, "the segment has no such index"), (242, "the address is not 0 to 63"), (250, "no frame can be had")]
def pw_decl : List String := ["java/lang/RuntimeException", "java/lang/Exception", Bundle.tN]
/-- what a throw needs of the state beside the tables' words -/
def pw_X (A : Nat → Prop) (U : State) : Prop :=
  vx_Zq Bundle.tN "UNASSIGNED_STACK" Bundle.steD A U U.heap ∧ vx_Zq Bundle.tN "SUPPRESSED_SENTINEL" Bundle.listD A U U.heap ∧ (∀ q ∈ pw_str, ∃ sa, vk_R RX3 q.1 q.2 sa U) ∧ (∀ X ∈ [pw_iaX, pw_isX, pw_ioX, pw_neX], va_Nw (.castable X X) U) ∧ ∀ Y ∈ pw_decl, va_Nw (.declares (Bundle.initS Y)) U
def pw_U (D : va_G) (cA : Nat → ClassId) (sh : Nat → pw_Sh) (n0 : Nat) (A : Nat → Prop) (ad : Nat → Nat) (σ : pw_S) (U : State) : Prop := pw_G D cA sh n0 A ad σ U.heap ∧ va_K D vwCl (pw_ty cA) U ∧ (∀ q : Nat, U.heap.size ≤ q → A q) ∧ pw_X A U
abbrev pw_Pc (D : va_G) (cA : Nat → ClassId) (sh : Nat → pw_Sh) (n0 : Nat) (A : Nat → Prop) (ad : Nat → Nat) (σ : pw_S) (av : List Value) : Array Value → State → Prop := va_Pc av (pw_U D cA sh n0 A ad σ)
theorem pw_X.moved {A : Nat → Prop} {s U : State} (hW : s.WarmedH U.vm) (hX : pw_X A s) {locs : List Loc} (hS : va_S A s.heap U.heap locs) : pw_X A U := by
  obtain ⟨h1, h2, h3, h4, h5⟩ := hX
  exact ⟨(h1.moved hW.alike).kept hS.2.1, (h2.moved hW.alike).kept hS.2.1, fun q hq => (h3 q hq).imp fun _ h => vk_R.warm hW h, fun X hX => va_Nw.warmC hW (h4 X hX), fun Y hY => va_Nw.warmD hW (h5 Y hY)⟩
theorem pw_U.at {D : va_G} {cA : Nat → ClassId} {sh : Nat → pw_Sh} {n0 : Nat} {A : Nat → Prop} {ad : Nat → Nat} {σ : pw_S} {s U : State} {H : Heap} {locs : List Loc} (hK : va_K D vwCl (pw_ty cA) s) (hA : ∀ q : Nat, s.heap.size ≤ q → A q) (hX : pw_X A s) (hG : pw_G D cA sh n0 A ad σ H) (hS : va_S A s.heap H locs) (hU : U.heap = H) (hW : s.WarmedH U.vm) : pw_U D cA sh n0 A ad σ U := by
  subst hU
  exact ⟨hG, va_K.moved hW.alike hK, fun q hq => hA q (Nat.le_trans hS.1 hq), hX.moved hW hS⟩
theorem pw_blind {D : va_G} {cA : Nat → ClassId} {sh : Nat → pw_Sh} {n0 : Nat} {A : Nat → Prop} {ad : Nat → Nat} {σ : pw_S} {av : List Value} : FrameBlind (pw_Pc D cA sh n0 A ad σ av) := by
  intro a U g mk h
  obtain ⟨h0, h1, h2, h3, h4, h5, h6, h7, h8⟩ := h
  refine ⟨h0, h1, va_K.moved (u := U) (U := U.calling g mk a) (Vm.Alike.refl U.vm) h2, h3, vx_Zq.moved (u := U) (U := U.calling g mk a) (Vm.Alike.refl U.vm) h4, vx_Zq.moved (u := U) (U := U.calling g mk a) (Vm.Alike.refl U.vm) h5, fun q hq => (h6 q hq).imp fun _ h => vk_R.same (u := U) (U := U.calling g mk a) rfl h, fun X hX => va_Nw.same (u := U) (U := U.calling g mk a) rfl rfl (h7 X hX), fun Y hY => va_Nw.same (u := U) (U := U.calling g mk a) rfl rfl (h8 Y hY)⟩
abbrev pw_Qi (D : va_G) (cA : Nat → ClassId) (sh : Nat → pw_Sh) (n0 : Nat) (A : Nat → Prop) (ad : Nat → Nat) (r : Int32) (σ : pw_S) := va_Qi (S := Unit) (fun r' _ => r' = r) (fun _ t => pw_G D cA sh n0 A ad σ t.heap) A
abbrev pw_Ql (D : va_G) (cA : Nat → ClassId) (sh : Nat → pw_Sh) (n0 : Nat) (A : Nat → Prop) (ad : Nat → Nat) (r : Int64) (σ : pw_S) := va_Ql (S := Unit) (fun r' _ => r' = r) (fun _ t => pw_G D cA sh n0 A ad σ t.heap) A
abbrev pw_Qv (D : va_G) (cA : Nat → ClassId) (sh : Nat → pw_Sh) (n0 : Nat) (A : Nat → Prop) (ad : Nat → Nat) (_ : Unit) (σ : pw_S) := va_Qv (S := Unit) (fun _ => True) (fun _ t => pw_G D cA sh n0 A ad σ t.heap) A
-- of methods that may throw
abbrev px_Qi (D : va_G) (cA : Nat → ClassId) (sh : Nat → pw_Sh) (n0 : Nat) (A : Nat → Prop) (ad : Nat → Nat) (r : Int32 ⊕ String) (σ : pw_S) := va_Qi (S := Unit) (fun r' _ => r = .inl r') (fun _ t => pw_G D cA sh n0 A ad σ t.heap) A
abbrev px_Qv (D : va_G) (cA : Nat → ClassId) (sh : Nat → pw_Sh) (n0 : Nat) (A : Nat → Prop) (ad : Nat → Nat) (r : Unit ⊕ String) (σ : pw_S) := va_Qv (S := Unit) (fun _ => r = .inl ()) (fun _ t => pw_G D cA sh n0 A ad σ t.heap) A
abbrev px_Qk (D : va_G) (cA : Nat → ClassId) (sh : Nat → pw_Sh) (n0 : Nat) (A : Nat → Prop) (ad : Nat → Nat) (r : Nat ⊕ String) (σ : pw_S) := va_Qr (S := Nat) (fun q => r = .inl q) (fun q a t => a = ad q ∧ pw_G D cA sh n0 A ad σ t.heap) A
abbrev px_X {α : Type} (D : va_G) (cA : Nat → ClassId) (sh : Nat → pw_Sh) (n0 : Nat) (A : Nat → Prop) (ad : Nat → Nat) (r : α ⊕ String) (σ : pw_S) := vx_X (S := Unit) (fun _ => True) (fun E _ t => r = .inr E ∧ pw_G D cA sh n0 A ad σ t.heap) A
section PWC
variable {p : Program} {l : Launch} {e : Env} {R : Room} {s : State} {m : MethodId} {args : Array Value} {below : List Frame} {meth : Method} {c : Code} {H : Heap} {locs : List Loc} {cells slots : Nat} {Q : State → Prop}
variable {cc : ByteArray} {pc nL : Nat} {ls : Array Slot} {rest st0 : List Value} {D : va_G} {cA : Nat → ClassId} {sh : Nat → pw_Sh} {n0 : Nat} {A : Nat → Prop} {ad : Nat → Nat} {σ σ' : pw_S} {own : String}
variable {y : MethodName} {bytes : ByteArray} {maxL n index ci nf k mc ms mc' ms' : Nat} {ret : Option FieldType} {rm : Room} {As : List Value} {lk : Nat → Nat} {T : u_T}
theorem mw_recv (hK : va_K D vwCl (pw_ty cA) s) (hG : pw_G D cA sh n0 A ad σ H) (hk : k < gN σ) (hs : sh k = (0, ci, nf, lk)) {C : String} (hc : vwCl[ci]? = some (C, T, nf)) : ∃ cellB : Cell, H[ad k]? = some cellB ∧ cellB.vm.isStatics = false ∧ s.vm.findClass C = some cellB.cls := by
  have h1 := hG.1 k hk
  rw [hs] at h1
  exact va_recv (fs := pw_fs ad σ k nf lk) hK (pw_one h1) (ci := ci) (q0 := 0) hc rfl
theorem mc_V {Qc : Array Value → State → Outcome → State → Prop} (hC : CallFix p m c cc nL s args wsL_law own) (hK : va_K D vwCl (pw_ty cA) s) (hA : ∀ q : Nat, s.heap.size ≤ q → A q) (hX : pw_X A s) (hG : pw_G D cA sh n0 A ad σ H) (hS : va_S A s.heap H locs)
    (hM : Met l y (wA y bytes maxL ret) rm (pw_Pc D cA sh n0 A ad σ (.ref (ad k) :: As)) Qc mc ms A) (hY : mw_Y y bytes maxL ret n) (hl : Cond.methodLink own index y ∈ wsL_law) (hin : Cond.instanceMethod y ∈ wsL_law) (hse : Cond.selects y.cls y y ∈ wsL_law)
    (hk : k < gN σ) (hs : sh k = (0, ci, nf, lk)) (hc : vwCl[ci]? = some (y.cls, T, nf)) (hR : rm.cells = mc ∧ rm.slots = ms ∧ rm.frames + 1 ≤ R.frames ∧ 8 + (maxL + 11) + rm.locals ≤ R.locals) (hn : As.length = n) (hsz : ls.size = nL) (hst : st0 = As.reverse ++ .ref (ad k) :: rest) (hW : (rest.map fun v => v.category).sum ≤ 8) (hdg : decode cc pc = .ok (.invokevirtual index, 3)) (hf : cells + mc ≤ R.cells ∧ slots + ms ≤ R.slots) :
    va_Run p l e R s m args below meth c H locs cells slots mc ms (F0 m pc ls st0) rest (Qc (Value.ref (ad k) :: As).toArray) A :=
  va_runV hC hM ⟨wa_B hC.2.2.2.2 hY hl hR, hC.2.2.2.2 _ hin, hC.2.2.2.2 _ hse⟩ ⟨pw_blind, mw_recv hK hG hk hs hc, fun _ hU hW => ⟨rfl, pw_U.at hK hA hX hG hS hU hW⟩⟩ rfl hn hsz hst (lv_room hW) hdg hf
theorem mc_S {Qc : Array Value → State → Outcome → State → Prop} (hC : CallFix p m c cc nL s args wsL_law own) (hK : va_K D vwCl (pw_ty cA) s) (hA : ∀ q : Nat, s.heap.size ≤ q → A q) (hX : pw_X A s) (hG : pw_G D cA sh n0 A ad σ H) (hS : va_S A s.heap H locs)
    (hM : Met l y (wA y bytes maxL ret) rm (pw_Pc D cA sh n0 A ad σ As) Qc mc ms A) (hY : mw_Y y bytes maxL ret n) (hl : Cond.methodLink own index y ∈ wsL_law) (hstt : Cond.static y ∈ wsL_law)
    (hR : rm.cells = mc ∧ rm.slots = ms ∧ rm.frames + 1 ≤ R.frames ∧ 8 + (maxL + 11) + rm.locals ≤ R.locals) (hn : As.length = n) (hsz : ls.size = nL) (hst : st0 = As.reverse ++ rest) (hW : (rest.map fun v => v.category).sum ≤ 8) (hdg : decode cc pc = .ok (.invokestatic index, 3)) (hf : cells + mc ≤ R.cells ∧ slots + ms ≤ R.slots) :
    va_Run p l e R s m args below meth c H locs cells slots mc ms (F0 m pc ls st0) rest (Qc As.toArray) A :=
  va_runS hC hM ⟨wa_B hC.2.2.2.2 hY hl hR, hC.2.2.2.2 _ hstt⟩ ⟨pw_blind, fun _ hU hW => ⟨rfl, pw_U.at hK hA hX hG hS hU hW⟩⟩ rfl hn hsz hst (lv_room hW) hdg hf
theorem mx_V {Qc : Array Value → State → Outcome → State → Prop} {XC : String → State → State → Prop} (hC : CallFix p m c cc nL s args wsL_law own) (hK : va_K D vwCl (pw_ty cA) s) (hA : ∀ q : Nat, s.heap.size ≤ q → A q) (hX : pw_X A s) (hG : pw_G D cA sh n0 A ad σ H) (hS : va_S A s.heap H locs)
    (hM : vx_Met l y (wA y bytes maxL ret) rm (pw_Pc D cA sh n0 A ad σ (.ref (ad k) :: As)) Qc XC mc ms A) (hY : mw_Y y bytes maxL ret n) (hl : Cond.methodLink own index y ∈ wsL_law) (hin : Cond.instanceMethod y ∈ wsL_law) (hse : Cond.selects y.cls y y ∈ wsL_law)
    (hk : k < gN σ) (hs : sh k = (0, ci, nf, lk)) (hc : vwCl[ci]? = some (y.cls, T, nf)) (hR : rm.cells = mc ∧ rm.slots = ms ∧ rm.frames + 1 ≤ R.frames ∧ 8 + (maxL + 11) + rm.locals ≤ R.locals) (hn : As.length = n) (hsz : ls.size = nL) (hst : st0 = As.reverse ++ .ref (ad k) :: rest) (hW : (rest.map fun v => v.category).sum ≤ 8) (hdg : decode cc pc = .ok (.invokevirtual index, 3)) (hf : cells + mc ≤ R.cells ∧ slots + ms ≤ R.slots) :
    vx_Run p l e R s m args below meth c H locs cells slots mc ms (F0 m pc ls st0) rest (Qc (Value.ref (ad k) :: As).toArray) XC A :=
  vx_runV hC hM ⟨wa_B hC.2.2.2.2 hY hl hR, hC.2.2.2.2 _ hin, hC.2.2.2.2 _ hse⟩ ⟨pw_blind, mw_recv hK hG hk hs hc, fun _ hU hW => ⟨rfl, pw_U.at hK hA hX hG hS hU hW⟩⟩ rfl hn hsz hst (lv_room hW) hdg hf
-- behind a call
theorem mc_i {r : Int32} {a : Array Value} (hr : va_Run p l e R s m args below meth c H locs cells slots mc ms (F0 m pc ls st0) rest (pw_Qi D cA sh n0 A ad r σ' a) A) (hS : va_S A s.heap H locs)
    (kk : ∀ (H1 : Heap) (locs1 : List Loc), pw_G D cA sh n0 A ad σ' H1 → va_S A s.heap H1 locs1 → W p l e R s m args below meth c H1 locs1 (cells + mc) (slots + ms) Q (F0 m (pc + 3) ls (.int r :: rest))) : W p l e R s m args below meth c H locs cells slots Q (F0 m pc ls st0) :=
  va_calli hr hS (fun _ _ h => h) (fun _ h => h) (fun r' _ t H1 locs1 ht _ hp hB _ _ hS1 => by subst hp; subst ht; exact kk _ _ hB hS1)
theorem mc_l {r : Int64} {a : Array Value} (hr : va_Run p l e R s m args below meth c H locs cells slots mc ms (F0 m pc ls st0) rest (pw_Ql D cA sh n0 A ad r σ' a) A) (hS : va_S A s.heap H locs)
    (kk : ∀ (H1 : Heap) (locs1 : List Loc), pw_G D cA sh n0 A ad σ' H1 → va_S A s.heap H1 locs1 → W p l e R s m args below meth c H1 locs1 (cells + mc) (slots + ms) Q (F0 m (pc + 3) ls (.long r :: rest))) : W p l e R s m args below meth c H locs cells slots Q (F0 m pc ls st0) :=
  va_calll hr hS (fun _ _ h => h) (fun _ h => h) (fun r' _ t H1 locs1 ht _ hp hB _ _ hS1 => by subst hp; subst ht; exact kk _ _ hB hS1)
theorem mc_v {u : Unit} {a : Array Value} (hr : va_Run p l e R s m args below meth c H locs cells slots mc ms (F0 m pc ls st0) rest (pw_Qv D cA sh n0 A ad u σ' a) A) (hS : va_S A s.heap H locs)
    (kk : ∀ (H1 : Heap) (locs1 : List Loc), pw_G D cA sh n0 A ad σ' H1 → va_S A s.heap H1 locs1 → W p l e R s m args below meth c H1 locs1 (cells + mc) (slots + ms) Q (F0 m (pc + 3) ls rest)) : W p l e R s m args below meth c H locs cells slots Q (F0 m pc ls st0) :=
  va_callv hr hS (fun _ _ h => h) (fun _ h => h) (fun _ t H1 locs1 ht _ hp hB _ _ hS1 => by subst ht; exact kk _ _ hB hS1)
-- a callee's throw leaves the caller
theorem mx_leave {α β : Type} {r : α ⊕ String} {r' : β ⊕ String} {Qc : Array Value → State → Outcome → State → Prop} {locs1 : List Loc} {H1 : Heap} {cells1 slots1 : Nat} {t : State} {E : String} {q : Addr} {ce : Cell} {g : JFrame} (hg : g = F0 m pc ls rest) (hout : ∀ x ∈ c.exceptionTable.toList, False) (hlocks : meth.locks = false) (ht : t.heap = H1) (hB : r = .inr E ∧ pw_G D cA sh n0 A ad σ' t.heap) (hce : H1[q]? = some ce) (hcv : ce.vm = .none) (hcl : s.vm.findClass E = some ce.cls) (hS1 : va_S A s.heap H1 locs1) (kx : ∀ E, r = .inr E → r' = .inr E) (hc : cells1 ≤ mc') (hs : slots1 ≤ ms') :
    vx_W p l e R s m args below meth c H1 locs1 cells1 slots1 (vx_MQ below Qc (px_X D cA sh n0 A ad r' σ') args s mc' ms' A) g q := by
  subst hg
  refine vx_out (fun x hx => (hout x hx).elim) hlocks hce hcv hcl (fun t2 ht2 _ => ⟨(), trivial, ⟨kx E hB.1, ?_⟩, hS1.F ht2⟩) hS1.2.2 hc hs
  rw [ht2, ← ht]
  exact hB.2
theorem mx_i {α : Type} {r : Int32 ⊕ String} {r' : α ⊕ String} {σ'' : pw_S} {a : Array Value} {Qc : Array Value → State → Outcome → State → Prop} (hr : vx_Run p l e R s m args below meth c H locs cells slots mc ms (F0 m pc ls st0) rest (px_Qi D cA sh n0 A ad r σ' a) (px_X D cA sh n0 A ad r σ') A) (hS : va_S A s.heap H locs) (hout : ∀ x ∈ c.exceptionTable.toList, False) (hlocks : meth.locks = false) (kx : ∀ E, r = .inr E → r' = .inr E ∧ σ'' = σ') (hc : cells + mc ≤ mc') (hs : slots + ms ≤ ms')
    (kk : ∀ (x : Int32), r = .inl x → ∀ (H1 : Heap) (locs1 : List Loc), pw_G D cA sh n0 A ad σ' H1 → va_S A s.heap H1 locs1 → W p l e R s m args below meth c H1 locs1 (cells + mc) (slots + ms) (vx_MQ below Qc (px_X D cA sh n0 A ad r' σ'') args s mc' ms' A) (F0 m (pc + 3) ls (.int x :: rest))) : W p l e R s m args below meth c H locs cells slots (vx_MQ below Qc (px_X D cA sh n0 A ad r' σ'') args s mc' ms' A) (F0 m pc ls st0) := by
  refine vx_calli hr hS (fun _ _ h => h) (fun _ h => h) (fun _ _ h => h) (fun E ce q9 _ t H1 locs1 ht _ _ hB _ _ hS1 hce hcv hcl => ?_) (fun r' _ t H1 locs1 ht _ hp hB _ _ hS1 => by subst ht; exact kk _ hp _ _ hB hS1)
  obtain ⟨e1, e2⟩ := kx E hB.1
  subst e2
  exact mx_leave rfl hout hlocks ht hB hce hcv hcl hS1 (fun E h => (kx E h).1) hc hs
theorem mx_v {α : Type} {r : Unit ⊕ String} {r' : α ⊕ String} {σ'' : pw_S} {a : Array Value} {Qc : Array Value → State → Outcome → State → Prop} (hr : vx_Run p l e R s m args below meth c H locs cells slots mc ms (F0 m pc ls st0) rest (px_Qv D cA sh n0 A ad r σ' a) (px_X D cA sh n0 A ad r σ') A) (hS : va_S A s.heap H locs) (hout : ∀ x ∈ c.exceptionTable.toList, False) (hlocks : meth.locks = false) (kx : ∀ E, r = .inr E → r' = .inr E ∧ σ'' = σ') (hc : cells + mc ≤ mc') (hs : slots + ms ≤ ms')
    (kk : ∀ (x : Unit), r = .inl x → ∀ (H1 : Heap) (locs1 : List Loc), pw_G D cA sh n0 A ad σ' H1 → va_S A s.heap H1 locs1 → W p l e R s m args below meth c H1 locs1 (cells + mc) (slots + ms) (vx_MQ below Qc (px_X D cA sh n0 A ad r' σ'') args s mc' ms' A) (F0 m (pc + 3) ls rest)) : W p l e R s m args below meth c H locs cells slots (vx_MQ below Qc (px_X D cA sh n0 A ad r' σ'') args s mc' ms' A) (F0 m pc ls st0) := by
  refine vx_callv hr hS (fun _ _ h => h) (fun _ h => h) (fun _ _ h => h) (fun E ce q9 _ t H1 locs1 ht _ _ hB _ _ hS1 hce hcv hcl => ?_) (fun _ t H1 locs1 ht _ hp hB _ _ hS1 => by subst ht; exact kk _ hp _ _ hB hS1)
  obtain ⟨e1, e2⟩ := kx E hB.1
  subst e2
  exact mx_leave rfl hout hlocks ht hB hce hcv hcl hS1 (fun E h => (kx E h).1) hc hs
theorem mx_k {α : Type} {r : Nat ⊕ String} {r' : α ⊕ String} {σ'' : pw_S} {a : Array Value} {Qc : Array Value → State → Outcome → State → Prop} (hr : vx_Run p l e R s m args below meth c H locs cells slots mc ms (F0 m pc ls st0) rest (px_Qk D cA sh n0 A ad r σ' a) (px_X D cA sh n0 A ad r σ') A) (hS : va_S A s.heap H locs) (hout : ∀ x ∈ c.exceptionTable.toList, False) (hlocks : meth.locks = false) (kx : ∀ E, r = .inr E → r' = .inr E ∧ σ'' = σ') (hc : cells + mc ≤ mc') (hs : slots + ms ≤ ms')
    (kk : ∀ (q : Nat), r = .inl q → ∀ (H1 : Heap) (locs1 : List Loc), pw_G D cA sh n0 A ad σ' H1 → va_S A s.heap H1 locs1 → W p l e R s m args below meth c H1 locs1 (cells + mc) (slots + ms) (vx_MQ below Qc (px_X D cA sh n0 A ad r' σ'') args s mc' ms' A) (F0 m (pc + 3) ls (.ref (ad q) :: rest))) : W p l e R s m args below meth c H locs cells slots (vx_MQ below Qc (px_X D cA sh n0 A ad r' σ'') args s mc' ms' A) (F0 m pc ls st0) := by
  intro T hT X
  rcases hr T hT X with ⟨v, st₀, t, T', L, h0, X', hL, e1, e2, ⟨⟨u, ra, hv, hp, ha, hb⟩, hF⟩, st⟩ | ⟨q, st₀, t, T', L, E, ce, h0, X', hL, e1, e2, ⟨u, hp, hb, hF⟩, hce, hcv, hcl, st⟩
  · cases hv
    subst ha
    obtain ⟨k1, k2, k3⟩ := vx_keep h0 e1 hS (fun _ _ h => h) (fun _ h => h) hL hF
    obtain ⟨t2, a1, b1⟩ := kk u hp T'.heap (locs ++ L) (by rw [e1]; exact hb) k3 T' rfl X'
    exact ⟨t2, st t2 a1, b1⟩
  · obtain ⟨k1, k2, k3⟩ := vx_keep h0 e1 hS (fun _ _ h => h) (fun _ h => h) hL hF
    obtain ⟨e3, e4⟩ := kx E hb.1
    subst e4
    obtain ⟨t2, a1, b1⟩ := mx_leave (Qc := Qc) (R := R) (l := l) (r' := r') (pc := pc) (ls := ls) (rest := rest) rfl hout hlocks e1.symm hb (by rw [e1]; exact hce) hcv hcl k3 (fun E h => (kx E h).1) hc hs T' rfl X'
    exact ⟨t2, st.trans a1, b1⟩
-- throws
def mt_E (cls : String) (ik ic : Nat) : Prop := cls ∈ [pw_iaX, pw_isX, pw_ioX, pw_neX] ∧ Bundle.fit cls = true ∧ Cond.classLink RX3 ik cls ∈ wsL_law ∧ Cond.initialized cls ∈ wsL_law ∧ (∀ w ∈ (vx_atS RX3 ic cls pw_sup).filter goodWord, w ∈ wsL_law) ∧ (∀ w ∈ (vx_atS RX3 ic cls pw_sup).filter (fun w => !goodWord w), w ∈ Cond.castable cls cls :: pw_decl.map (fun Y => Cond.declares (Bundle.initS Y))) ∧ ∀ w ∈ Cond.classLink RX3 ik cls :: Cond.initialized cls :: vx_atS RX3 ic cls pw_sup, vx_ot w = true
theorem mt_throw {α : Type} {r' : α ⊕ String} {σ'' : pw_S} {Qc : Array Value → State → Outcome → State → Prop} {cls text : String} {ik is ic : Nat} (hE : mt_E cls ik ic) (hst : (is, text) ∈ pw_str) (hC : CallFix p m c cc nL s args wsL_law RX3) (hout : ∀ x ∈ c.exceptionTable.toList, False) (hlt : l.stackTraces = false) (hX : pw_X A s) (hG : pw_G D cA sh n0 A ad σ H) (hS : va_S A s.heap H locs) (hlocks : meth.locks = false) (hsz : ls.size = nL)
    (hf : some ((Sum.inr cls : α ⊕ String), σ) = some (r', σ'')) (hRf : 5 < R.frames) (hRl : (rest.map fun v => v.category).sum + 82 ≤ R.locals) (hRc : cells + 1 ≤ R.cells) (hRs : slots + 6 ≤ R.slots) (hc : cells + 1 ≤ mc') (hs : slots + 6 ≤ ms')
    (d0 : decode cc pc = .ok (.new ik, 3)) (d3 : decode cc (pc + 3) = .ok (.dup, 1)) (d4 : decode cc (pc + 4) = .ok (.ldc is, 2)) (d6 : decode cc (pc + 6) = .ok (.invokespecial ic, 3)) (d9 : decode cc (pc + 9) = .ok (.athrow, 1)) :
    W p l e R s m args below meth c H locs cells slots (vx_MQ below Qc (px_X D cA sh n0 A ad r' σ'') args s mc' ms' A) (F0 m pc ls rest) := by
  obtain ⟨g1, g2, g3, g4, g5, g6, g7⟩ := hE
  obtain ⟨hx, hb, hml, hown, hts⟩ := hC
  obtain ⟨x1, x2, x3, x4, x5⟩ := hX
  obtain ⟨sa, hstr⟩ := x3 _ hst
  cases hf
  refine vx_throwS (names := pw_sup) hx hb hlt hown g2 (by decide +kernel) (hts _ g3) (hts _ g4) hstr (vx_hat (B := Cond.castable cls cls :: pw_decl.map (fun Y => Cond.declares (Bundle.initS Y))) (fun w hw => hts w (g5 w hw)) g6 (vx_c (va_Nw.use rfl (x4 cls g1)) (fun w hw => by obtain ⟨Y, hY, e⟩ := List.mem_map.mp hw; subst e; exact va_Nw.use rfl (x5 Y hY)))) g7 x1 x2 hS (hsz.trans hml.symm) d0 d3 d4 d6 d9 (fun x hx => (hout x hx).elim) hRf (by simpa using hRl) hRc hRs hlocks (fun t _ hz hk => ⟨(), trivial, ⟨rfl, hG.kept fun k hkN => hk _ (hG.lt hkN)⟩, ?_⟩) hS.2.2 hc hs
  exact ⟨Nat.le_trans hS.1 hz, fun q h1 h2 => (hk q (Nat.lt_of_lt_of_le h1 hS.1)).trans (hS.2.1 q h1 h2)⟩
def mt_N : Prop := Cond.classLink RX3 225 pw_neX ∈ wsL_law ∧ Cond.initialized pw_neX ∈ wsL_law ∧ (∀ w ∈ ne_at.filter goodWord, w ∈ wsL_law) ∧ (∀ w ∈ ne_at.filter (fun w => !goodWord w), w ∈ Cond.castable pw_neX pw_neX :: pw_decl.map (fun Y => Cond.declares (Bundle.initS Y))) ∧ ∀ w ∈ Cond.classLink RX3 225 pw_neX :: Cond.initialized pw_neX :: ne_at, vx_ot w = true
theorem mt_throwN {α : Type} {r' : α ⊕ String} {σ'' : pw_S} {Qc : Array Value → State → Outcome → State → Prop} {text : String} {is : Nat} (hE : mt_N) (hst : (is, text) ∈ pw_str) (hC : CallFix p m c cc nL s args wsL_law RX3) (hout : ∀ x ∈ c.exceptionTable.toList, False) (hlt : l.stackTraces = false) (hX : pw_X A s) (hG : pw_G D cA sh n0 A ad σ H) (hS : va_S A s.heap H locs) (hlocks : meth.locks = false) (hsz : ls.size = nL)
    (hf : some ((Sum.inr pw_neX : α ⊕ String), σ) = some (r', σ'')) (hRf : 5 < R.frames) (hRl : (rest.map fun v => v.category).sum + 82 ≤ R.locals) (hRc : cells + 1 ≤ R.cells) (hRs : slots + 6 ≤ R.slots) (hc : cells + 1 ≤ mc') (hs : slots + 6 ≤ ms')
    (d0 : decode cc pc = .ok (.new 225, 3)) (d3 : decode cc (pc + 3) = .ok (.dup, 1)) (d4 : decode cc (pc + 4) = .ok (.ldc is, 2)) (d6 : decode cc (pc + 6) = .ok (.invokespecial 229, 3)) (d9 : decode cc (pc + 9) = .ok (.athrow, 1)) :
    W p l e R s m args below meth c H locs cells slots (vx_MQ below Qc (px_X D cA sh n0 A ad r' σ'') args s mc' ms' A) (F0 m pc ls rest) := by
  obtain ⟨g3, g4, g5, g6, g7⟩ := hE
  obtain ⟨hx, hb, hml, hown, hts⟩ := hC
  obtain ⟨x1, x2, x3, x4, x5⟩ := hX
  obtain ⟨sa, hstr⟩ := x3 _ hst
  cases hf
  refine ne_throw hx hb hlt hown (hts _ g3) (hts _ g4) hstr (vx_hat (B := Cond.castable pw_neX pw_neX :: pw_decl.map (fun Y => Cond.declares (Bundle.initS Y))) (fun w hw => hts w (g5 w hw)) g6 (vx_c (va_Nw.use rfl (x4 pw_neX (by decide))) (fun w hw => by obtain ⟨Y, hY, e⟩ := List.mem_map.mp hw; subst e; exact va_Nw.use rfl (x5 Y hY)))) g7 x1 x2 hS (hsz.trans hml.symm) d0 d3 d4 d6 d9 (fun x hx => (hout x hx).elim) hRf (by simpa using hRl) hRc hRs hlocks (fun t _ hz hk => ⟨(), trivial, ⟨rfl, hG.kept fun k hkN => hk _ (hG.lt hkN)⟩, ?_⟩) hS.2.2 hc hs
  exact ⟨Nat.le_trans hS.1 hz, fun q h1 h2 => (hk q (Nat.lt_of_lt_of_le h1 hS.1)).trans (hS.2.1 q h1 h2)⟩
-- the entry of a method
theorem mw_enter {Qc : Array Value → State → Outcome → State → Prop} {av : List Value} (hy : plainName y.cls = true) (ho : y.cls = own) (hlen : (lg_sl av).length ≤ maxL)
    (body : ∀ p e s m args below meth c ls, CallFix p m c bytes maxL s args wsL_law own → meth.sig.returnType = ret → meth.locks = false → va_K D vwCl (pw_ty cA) s → (∀ q : Nat, s.heap.size ≤ q → A q) → pw_X A s → pw_G D cA sh n0 A ad σ s.heap → va_S A s.heap s.heap [] → lv_has ls maxL (lv_args 0 av) → W p l e rm s m args below meth c s.heap [] 0 0 (MQ below Qc args s mc ms A) (F0 m 0 ls [])) : Met l y (wA y bytes maxL ret) rm (pw_Pc D cA sh n0 A ad σ av) Qc mc ms A := by
  refine Met.ofW (cc := bytes) (maxL := maxL) (ret := ret) hy rfl ?_
  intro p e s m args below meth c s₁ B hml hv
  obtain ⟨rfl, hG, hK, hA, hX⟩ := hv
  have hts := atoms_spec (ws := wA y bytes maxL ret) B.pre
  have hl := lv_entry av (n := maxL) hlen
  rw [lg_entry_eq]
  exact body p e s m _ below meth c _ ⟨B.exec, B.bytes, hml, ho ▸ findClass_of_methodNamed B.named, fun w hw => hts w (List.mem_cons_of_mem _ hw)⟩ B.returns B.notSynchronized hK hA hX hG va_S.rf hl
theorem mw_enterX {Qc : Array Value → State → Outcome → State → Prop} {XC : String → State → State → Prop} {av : List Value} (hy : plainName y.cls = true) (ho : y.cls = own) (hlen : (lg_sl av).length ≤ maxL)
    (body : ∀ p e s m args below meth c ls, CallFix p m c bytes maxL s args wsL_law own → meth.sig.returnType = ret → meth.locks = false → (∀ x ∈ c.exceptionTable.toList, False) → va_K D vwCl (pw_ty cA) s → (∀ q : Nat, s.heap.size ≤ q → A q) → pw_X A s → pw_G D cA sh n0 A ad σ s.heap → va_S A s.heap s.heap [] → lv_has ls maxL (lv_args 0 av) → W p l e rm s m args below meth c s.heap [] 0 0 (vx_MQ below Qc XC args s mc ms A) (F0 m 0 ls [])) : vx_Met l y (wA y bytes maxL ret) rm (pw_Pc D cA sh n0 A ad σ av) Qc XC mc ms A := by
  refine vx_ofW (cc := bytes) (maxL := maxL) (ret := ret) hy rfl ?_
  intro p e s m args below meth c s₁ B hml hout hv
  obtain ⟨rfl, hG, hK, hA, hX⟩ := hv
  have hts := atoms_spec (ws := wA y bytes maxL ret) B.pre
  have hl := lv_entry av (n := maxL) hlen
  rw [lg_entry_eq]
  exact body p e s m _ below meth c _ ⟨B.exec, B.bytes, hml, ho ▸ findClass_of_methodNamed B.named, fun w hw => hts w (List.mem_cons_of_mem _ hw)⟩ B.returns B.notSynchronized hout hK hA hX hG va_S.rf hl
-- the ends
theorem mr_i {r x : Int32} (hC : CallFix p m c cc nL s args wsL_law own) (hr : meth.sig.returnType = some .int) (hlocks : meth.locks = false) (hG : pw_G D cA sh n0 A ad σ H) (hS : va_S A s.heap H locs) (hf : some (x, σ) = some (r, σ')) (hc : cells ≤ mc) (hs : slots ≤ ms) (hdg : decode cc pc = .ok (.ireturn, 1)) : W p l e R s m args below meth c H locs cells slots (MQ below (pw_Qi D cA sh n0 A ad r σ') args s mc ms A) (F0 m pc ls [.int x]) := by
  cases hf
  refine W.widen hc hs ?_
  exact W.iret hC.1 hC.2.1 hr (fun t ht _ => ⟨⟨_, (), rfl, rfl, by subst ht; exact hG⟩, hS.F ht⟩) hS.2.2 hdg hlocks
theorem pw_nz {x : Int32} (h : x = 0 ∨ x = 1) : narrow .boolean (.int x) = .int x := by rcases h with rfl | rfl <;> rfl
theorem mr_z {r x : Int32} (hC : CallFix p m c cc nL s args wsL_law own) (hr : meth.sig.returnType = some .boolean) (hlocks : meth.locks = false) (hG : pw_G D cA sh n0 A ad σ H) (hS : va_S A s.heap H locs) (hz : x = 0 ∨ x = 1) (hf : some (x, σ) = some (r, σ')) (hc : cells ≤ mc) (hs : slots ≤ ms) (hdg : decode cc pc = .ok (.ireturn, 1)) : W p l e R s m args below meth c H locs cells slots (MQ below (pw_Qi D cA sh n0 A ad r σ') args s mc ms A) (F0 m pc ls [.int x]) := by
  cases hf
  refine W.widen hc hs ?_
  exact W.zret hC.1 hC.2.1 hr (pw_nz hz) (fun t ht _ => ⟨⟨_, (), rfl, rfl, by subst ht; exact hG⟩, hS.F ht⟩) hS.2.2 hdg hlocks
theorem mr_l {r x : Int64} (hC : CallFix p m c cc nL s args wsL_law own) (hr : meth.sig.returnType = some .long) (hlocks : meth.locks = false) (hG : pw_G D cA sh n0 A ad σ H) (hS : va_S A s.heap H locs) (hf : some (x, σ) = some (r, σ')) (hc : cells ≤ mc) (hs : slots ≤ ms) (hdg : decode cc pc = .ok (.lreturn, 1)) : W p l e R s m args below meth c H locs cells slots (MQ below (pw_Ql D cA sh n0 A ad r σ') args s mc ms A) (F0 m pc ls [.long x]) := by
  cases hf
  refine W.widen hc hs ?_
  exact W.lret hC.1 hC.2.1 hr (fun t ht _ => ⟨⟨_, (), rfl, rfl, by subst ht; exact hG⟩, hS.F ht⟩) hS.2.2 hdg hlocks
theorem mr_v {u u' : Unit} (hC : CallFix p m c cc nL s args wsL_law own) (hr : meth.sig.returnType = none) (hlocks : meth.locks = false) (hG : pw_G D cA sh n0 A ad σ H) (hS : va_S A s.heap H locs) (hf : some (u, σ) = some (u', σ')) (hc : cells ≤ mc) (hs : slots ≤ ms) (hdg : decode cc pc = .ok (.return_, 1)) : W p l e R s m args below meth c H locs cells slots (MQ below (pw_Qv D cA sh n0 A ad u' σ') args s mc ms A) (F0 m pc ls []) := by
  cases hf
  refine W.widen hc hs ?_
  exact W.vret hC.1 hC.2.1 hr (fun t ht _ => ⟨⟨(), rfl, trivial, by subst ht; exact hG⟩, hS.F ht⟩) hS.2.2 hdg hlocks
theorem mrx_i {XC : String → State → State → Prop} {r : Int32 ⊕ String} {x : Int32} (hC : CallFix p m c cc nL s args wsL_law own) (hr : meth.sig.returnType = some .int) (hlocks : meth.locks = false) (hG : pw_G D cA sh n0 A ad σ H) (hS : va_S A s.heap H locs) (hf : some (Sum.inl x, σ) = some (r, σ')) (hc : cells ≤ mc) (hs : slots ≤ ms) (hdg : decode cc pc = .ok (.ireturn, 1)) : W p l e R s m args below meth c H locs cells slots (vx_MQ below (px_Qi D cA sh n0 A ad r σ') XC args s mc ms A) (F0 m pc ls [.int x]) := by
  cases hf
  refine W.widen hc hs (vx_ret ?_)
  exact W.iret hC.1 hC.2.1 hr (fun t ht _ => ⟨⟨_, (), rfl, rfl, by subst ht; exact hG⟩, hS.F ht⟩) hS.2.2 hdg hlocks
theorem mrx_z {XC : String → State → State → Prop} {r : Int32 ⊕ String} {x : Int32} (hC : CallFix p m c cc nL s args wsL_law own) (hr : meth.sig.returnType = some .boolean) (hlocks : meth.locks = false) (hG : pw_G D cA sh n0 A ad σ H) (hS : va_S A s.heap H locs) (hz : x = 0 ∨ x = 1) (hf : some (Sum.inl x, σ) = some (r, σ')) (hc : cells ≤ mc) (hs : slots ≤ ms) (hdg : decode cc pc = .ok (.ireturn, 1)) : W p l e R s m args below meth c H locs cells slots (vx_MQ below (px_Qi D cA sh n0 A ad r σ') XC args s mc ms A) (F0 m pc ls [.int x]) := by
  cases hf
  refine W.widen hc hs (vx_ret ?_)
  exact W.zret hC.1 hC.2.1 hr (pw_nz hz) (fun t ht _ => ⟨⟨_, (), rfl, rfl, by subst ht; exact hG⟩, hS.F ht⟩) hS.2.2 hdg hlocks
theorem mrx_v {XC : String → State → State → Prop} {r : Unit ⊕ String} {x : Unit} (hC : CallFix p m c cc nL s args wsL_law own) (hr : meth.sig.returnType = none) (hlocks : meth.locks = false) (hG : pw_G D cA sh n0 A ad σ H) (hS : va_S A s.heap H locs) (hf : some (Sum.inl x, σ) = some (r, σ')) (hc : cells ≤ mc) (hs : slots ≤ ms) (hdg : decode cc pc = .ok (.return_, 1)) : W p l e R s m args below meth c H locs cells slots (vx_MQ below (px_Qv D cA sh n0 A ad r σ') XC args s mc ms A) (F0 m pc ls []) := by
  cases hf
  refine W.widen hc hs (vx_ret ?_)
  exact W.vret hC.1 hC.2.1 hr (fun t ht _ => ⟨⟨(), rfl, rfl, by subst ht; exact hG⟩, hS.F ht⟩) hS.2.2 hdg hlocks
theorem mrx_k {XC : String → State → State → Prop} {r : Nat ⊕ String} {q : Nat} {C : String} (hC : CallFix p m c cc nL s args wsL_law own) (hr : meth.sig.returnType = some (.object C)) (hlocks : meth.locks = false) (hG : pw_G D cA sh n0 A ad σ H) (hS : va_S A s.heap H locs) (hf : some (Sum.inl q, σ) = some (r, σ')) (hc : cells ≤ mc) (hs : slots ≤ ms) (hdg : decode cc pc = .ok (.areturn, 1)) : W p l e R s m args below meth c H locs cells slots (vx_MQ below (px_Qk D cA sh n0 A ad r σ') XC args s mc ms A) (F0 m pc ls [.ref (ad q)]) := by
  cases hf
  refine W.widen hc hs (vx_ret ?_)
  exact W.aret (v := .ref (ad q)) hC.1 hC.2.1 hr (Or.inl ⟨_, rfl⟩) (Or.inr ⟨_, rfl⟩) (fun t ht _ => ⟨⟨q, ad q, rfl, rfl, rfl, by subst ht; exact hG⟩, hS.F ht⟩) hS.2.2 hdg hlocks
-- values that may be null
theorem mq_aload_n (hx : p.tables.exec = Jvm.exec) (hb : c.code = cc) {f : Fin 4} {i : Nat} {o : Option Nat} (hdg : decode cc pc = .ok (.aload_n f, 1)) (hi : (f : Nat) = i) (hl : ls[i]? = some (.val (va_rf o))) (kk : W p l e R s m args below meth c H locs cells slots Q (F0 m (pc + 1) ls (va_rf o :: rest))) : W p l e R s m args below meth c H locs cells slots Q (F0 m pc ls rest) := by
  cases o with
  | none => exact lv_aload_nN hx hb hdg hi hl kk
  | some a => exact lv_aload_n hx hb hdg hi hl kk
theorem mq_aload (hx : p.tables.exec = Jvm.exec) (hb : c.code = cc) {i : Nat} {o : Option Nat} (hdg : decode cc pc = .ok (.aload i, 2)) (hl : ls[i]? = some (.val (va_rf o))) (kk : W p l e R s m args below meth c H locs cells slots Q (F0 m (pc + 2) ls (va_rf o :: rest))) : W p l e R s m args below meth c H locs cells slots Q (F0 m pc ls rest) := by
  cases o with
  | none => exact lv_aloadN hx hb hdg hl kk
  | some a => exact lv_aload hx hb hdg hl kk
theorem mq_astore_n (hx : p.tables.exec = Jvm.exec) (hb : c.code = cc) {f : Fin 4} {i : Nat} {o : Option Nat} {lv lv' : List (Nat × Value)} (hdg : decode cc pc = .ok (.astore_n f, 1)) (hi : (f : Nat) = i) (h : lv_has ls nL lv) (hn : i < nL) (hl : (i, va_rf o) :: lv.filter (fun q => !(q.1 == i) && !(q.1 + 1 == i && q.2.category == 2)) = lv')
    (kk : ∀ ls' : Array Slot, lv_has ls' nL lv' → W p l e R s m args below meth c H locs cells slots Q (F0 m (pc + 1) ls' rest)) : W p l e R s m args below meth c H locs cells slots Q (F0 m pc ls (va_rf o :: rest)) := by
  cases o with
  | none => exact lv_astore_nN hx hb hdg hi h hn hl kk
  | some a => exact lv_astore_n hx hb hdg hi h hn hl kk
theorem mq_astore (hx : p.tables.exec = Jvm.exec) (hb : c.code = cc) {i : Nat} {o : Option Nat} {lv lv' : List (Nat × Value)} (hdg : decode cc pc = .ok (.astore i, 2)) (h : lv_has ls nL lv) (hn : i < nL) (hl : (i, va_rf o) :: lv.filter (fun q => !(q.1 == i) && !(q.1 + 1 == i && q.2.category == 2)) = lv')
    (kk : ∀ ls' : Array Slot, lv_has ls' nL lv' → W p l e R s m args below meth c H locs cells slots Q (F0 m (pc + 2) ls' rest)) : W p l e R s m args below meth c H locs cells slots Q (F0 m pc ls (va_rf o :: rest)) := by
  cases o with
  | none => exact lv_astoreN hx hb hdg h hn hl kk
  | some a => exact lv_astore hx hb hdg h hn hl kk
theorem mq_ifnull (hx : p.tables.exec = Jvm.exec) (hb : c.code = cc) {o : Option Nat} {off : Int} {tgt : Nat} (hdg : decode cc pc = .ok (.ifnull off, 3)) (ht : (pc : Int) + off = (tgt : Int)) (kt : o = none → W p l e R s m args below meth c H locs cells slots Q (F0 m tgt ls rest)) (kf : ∀ q, o = some q → W p l e R s m args below meth c H locs cells slots Q (F0 m (pc + 3) ls rest)) : W p l e R s m args below meth c H locs cells slots Q (F0 m pc ls (va_rf (o.map ad) :: rest)) := by
  cases o with
  | none => exact lv_ifnullN hx hb hdg ht (kt rfl)
  | some q => exact lv_ifnull hx hb hdg (kf q rfl)
theorem mq_ifnonnull (hx : p.tables.exec = Jvm.exec) (hb : c.code = cc) {o : Option Nat} {off : Int} {tgt : Nat} (hdg : decode cc pc = .ok (.ifnonnull off, 3)) (ht : (pc : Int) + off = (tgt : Int)) (kt : ∀ q, o = some q → W p l e R s m args below meth c H locs cells slots Q (F0 m tgt ls rest)) (kf : o = none → W p l e R s m args below meth c H locs cells slots Q (F0 m (pc + 3) ls rest)) : W p l e R s m args below meth c H locs cells slots Q (F0 m pc ls (va_rf (o.map ad) :: rest)) := by
  cases o with
  | none => exact lv_ifnonnullN hx hb hdg (kf rfl)
  | some q => exact lv_ifnonnull hx hb hdg ht (kt q rfl)
theorem mq_acmp_ne (hx : p.tables.exec = Jvm.exec) (hb : c.code = cc) {o : Option Nat} {q : Nat} {off : Int} {tgt : Nat} (hG : pw_G D cA sh n0 A ad σ H) (ho : ∀ k, o = some k → k < gN σ) (hq : q < gN σ) (hdg : decode cc pc = .ok (.if_acmp .ne off, 3)) (ht : (pc : Int) + off = (tgt : Int)) (kt : ¬ o = some q → W p l e R s m args below meth c H locs cells slots Q (F0 m tgt ls rest)) (kf : o = some q → W p l e R s m args below meth c H locs cells slots Q (F0 m (pc + 3) ls rest)) : W p l e R s m args below meth c H locs cells slots Q (F0 m pc ls (.ref (ad q) :: va_rf (o.map ad) :: rest)) := by
  refine lv_acmp_ne (rx := o.map ad) (ry := some (ad q)) hx hb hdg ht (fun h => kt (fun e => h (by rw [e]; rfl))) (fun h => kf ?_)
  cases o with
  | none => cases h
  | some k => rw [hG.2.1 k q (ho k rfl) hq (Option.some.inj h)]
end PWC
