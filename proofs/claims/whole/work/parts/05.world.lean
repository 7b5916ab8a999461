/-! THE TWO WORLDS (the class's, the reference's): a key for each cell, a shape for each key, a pure state (how many keys, ints by key and place, references by key and place) -/
abbrev pw_S : Type := Nat × (Nat → Nat → Int32) × (Nat → Nat → Option Nat)
/-- a shape: kind (0 object, 1 ints, 2 booleans, 3 references), the class, the length, the links of an object (0: an int; k + 1: the cell k) -/
abbrev pw_Sh : Type := Nat × Nat × Nat × (Nat → Nat)
def up2 {α : Type} (f : Nat → Nat → α) (k j : Nat) (x : α) : Nat → Nat → α := fun a b => if a = k then (if b = j then x else f a b) else f a b
def gN (σ : pw_S) : Nat := σ.1
def gi (σ : pw_S) (k j : Nat) : Int32 := σ.2.1 k j
def gr (σ : pw_S) (k j : Nat) : Option Nat := σ.2.2 k j
def si (σ : pw_S) (k j : Nat) (x : Int32) : pw_S := (σ.1, up2 σ.2.1 k j x, σ.2.2)
def sr (σ : pw_S) (k j : Nat) (x : Option Nat) : pw_S := (σ.1, σ.2.1, up2 σ.2.2 k j x)
theorem gN_si {σ : pw_S} {k j : Nat} {x : Int32} : gN (si σ k j x) = gN σ := rfl
theorem gN_sr {σ : pw_S} {k j : Nat} {x : Option Nat} : gN (sr σ k j x) = gN σ := rfl
theorem gi_si {σ : pw_S} {k j a b : Nat} {x : Int32} : gi (si σ k j x) a b = if a = k then (if b = j then x else gi σ a b) else gi σ a b := rfl
theorem gi_sr {σ : pw_S} {k j a b : Nat} {x : Option Nat} : gi (sr σ k j x) a b = gi σ a b := rfl
theorem gr_sr {σ : pw_S} {k j a b : Nat} {x : Option Nat} : gr (sr σ k j x) a b = if a = k then (if b = j then x else gr σ a b) else gr σ a b := rfl
theorem gr_si {σ : pw_S} {k j a b : Nat} {x : Int32} : gr (si σ k j x) a b = gr σ a b := rfl
def pw_fs (ad : Nat → Nat) (σ : pw_S) (k n : Nat) (lk : Nat → Nat) : List Value := (List.range n).map (fun j => if lk j = 0 then .int (gi σ k j) else .ref (ad (lk j - 1)))
def pw_e (cA : Nat → ClassId) (ad : Nat → Nat) (σ : pw_S) (k : Nat) (h : pw_Sh) : va_E :=
  if h.1 = 0 then .inr (h.2.1, pw_fs ad σ k h.2.2.1 h.2.2.2)
  else if h.1 = 3 then .inl (cA 3, h.2.2.1, .inr (.inr (.inr (.inr (fun j => (gr σ k j).map ad)))))
  else .inl (cA h.1, h.2.2.1, .inl (fun j => gi σ k j))
def pw_G (D : va_G) (cA : Nat → ClassId) (sh : Nat → pw_Sh) (n0 : Nat) (A : Nat → Prop) (ad : Nat → Nat) (σ : pw_S) (H : Heap) : Prop :=
  (∀ k, k < gN σ → va_at D vwCl (ad k, pw_e cA ad σ k (sh k)) H) ∧ (∀ k k', k < gN σ → k' < gN σ → ad k = ad k' → k = k') ∧ (∀ k, k < gN σ → A (ad k)) ∧ n0 ≤ gN σ
abbrev pw_ty (cA : Nat → ClassId) : List (ClassId × FieldType) := [(cA 1, .int), (cA 2, .boolean), (cA 3, .object RX0)]
theorem pw_e_si {cA : Nat → ClassId} {ad : Nat → Nat} {σ : pw_S} {k k' j : Nat} {x : Int32} {h : pw_Sh} (hne : k' ≠ k) : pw_e cA ad (si σ k j x) k' h = pw_e cA ad σ k' h := by
  simp only [pw_e, pw_fs, gi_si, gr_si, if_neg hne]
theorem pw_e_sr {cA : Nat → ClassId} {ad : Nat → Nat} {σ : pw_S} {k k' j : Nat} {x : Option Nat} {h : pw_Sh} (hne : k' ≠ k) : pw_e cA ad (sr σ k j x) k' h = pw_e cA ad σ k' h := by
  simp only [pw_e, pw_fs, gi_sr, gr_sr, if_neg hne]
theorem pw_fs_at {ad : Nat → Nat} {σ : pw_S} {k n j : Nat} {lk : Nat → Nat} (hj : j < n) : (pw_fs ad σ k n lk)[j]? = some (if lk j = 0 then .int (gi σ k j) else .ref (ad (lk j - 1))) := by
  simp [pw_fs, hj]
theorem pw_fs_len {ad : Nat → Nat} {σ : pw_S} {k n : Nat} {lk : Nat → Nat} : (pw_fs ad σ k n lk).length = n := by simp [pw_fs]
theorem pw_fs_set {ad : Nat → Nat} {σ : pw_S} {k n j : Nat} {x : Int32} {lk : Nat → Nat} (h0 : lk j = 0) : (pw_fs ad σ k n lk).set j (.int x) = pw_fs ad (si σ k j x) k n lk := by
  apply List.ext_getElem?
  intro i
  rw [List.getElem?_set]
  by_cases hi : i < n
  · rw [pw_fs_at hi, pw_fs_at hi]
    by_cases hj : j = i
    · subst hj
      simp [pw_fs_len, hi, h0, gi_si]
    · have : i ≠ j := fun q => hj q.symm
      simp [hj, gi_si, this]
  · have e1 : (pw_fs ad σ k n lk)[i]? = none := by rw [List.getElem?_eq_none_iff, pw_fs_len]; omega
    have e2 : (pw_fs ad (si σ k j x) k n lk)[i]? = none := by rw [List.getElem?_eq_none_iff, pw_fs_len]; omega
    rw [e1, e2, pw_fs_len]
    by_cases hj : j = i
    · subst hj
      simp [hi]
    · simp [hj]
theorem pw_one {D : va_G} {q : Nat × va_E} {H : Heap} (h : va_at D vwCl q H) : va_P D vwCl [q] H := by
  intro k x hx
  match k, hx with
  | 0, hx => cases hx; exact h
  | k + 1, hx => simp at hx
theorem pw_G.put {D : va_G} {cA : Nat → ClassId} {sh : Nat → pw_Sh} {n0 : Nat} {A : Nat → Prop} {ad : Nat → Nat} {σ σ' : pw_S} {H H1 : Heap} {k : Nat} (hG : pw_G D cA sh n0 A ad σ H) (hk : k < gN σ) (hN : gN σ' = gN σ) (ho : ∀ k', k' ≠ k → pw_e cA ad σ' k' (sh k') = pw_e cA ad σ k' (sh k')) (hc : va_at D vwCl (ad k, pw_e cA ad σ' k (sh k)) H1) (oq : ∀ q : Nat, q ≠ ad k → H1[q]? = H[q]?) : pw_G D cA sh n0 A ad σ' H1 := by
  obtain ⟨h1, h2, h3, h4⟩ := hG
  refine ⟨fun k' hk' => ?_, fun a b ha hb => h2 a b (hN ▸ ha) (hN ▸ hb), fun a ha => h3 a (hN ▸ ha), hN ▸ h4⟩
  by_cases he : k' = k
  · subst he
    exact hc
  · rw [ho k' he]
    exact (h1 k' (hN ▸ hk')).kept (oq _ (fun q => he (h2 k' k (hN ▸ hk') hk q)))
theorem pw_G.kept {D : va_G} {cA : Nat → ClassId} {sh : Nat → pw_Sh} {n0 : Nat} {A : Nat → Prop} {ad : Nat → Nat} {σ : pw_S} {H H1 : Heap} (hG : pw_G D cA sh n0 A ad σ H) (oq : ∀ k : Nat, k < gN σ → H1[ad k]? = H[ad k]?) : pw_G D cA sh n0 A ad σ H1 :=
  ⟨fun k hk => (hG.1 k hk).kept (oq k hk), hG.2.1, hG.2.2.1, hG.2.2.2⟩
theorem pw_G.lt {D : va_G} {cA : Nat → ClassId} {sh : Nat → pw_Sh} {n0 : Nat} {A : Nat → Prop} {ad : Nat → Nat} {σ : pw_S} {H : Heap} (hG : pw_G D cA sh n0 A ad σ H) {k : Nat} (hk : k < gN σ) : ad k < H.size := (hG.1 k hk).lt
theorem pw_G.fix {D : va_G} {cA : Nat → ClassId} {sh : Nat → pw_Sh} {n0 : Nat} {A : Nat → Prop} {ad : Nat → Nat} {σ : pw_S} {H : Heap} (hG : pw_G D cA sh n0 A ad σ H) {k : Nat} (h : k < n0) : k < gN σ := Nat.lt_of_lt_of_le h hG.2.2.2
section PWR
variable {p : Program} {l : Launch} {e : Env} {R : Room} {s : State} {m : MethodId} {args : Array Value} {below : List Frame} {meth : Method} {c : Code} {H : Heap} {locs : List Loc} {cells slots : Nat} {Q : State → Prop}
variable {cc : ByteArray} {pc : Nat} {ls : Array Slot} {rest : List Value} {D : va_G} {cA : Nat → ClassId} {sh : Nat → pw_Sh} {n0 : Nat} {A : Nat → Prop} {ad : Nat → Nat} {σ : pw_S} {H0 : Heap}
theorem mw_geti (hx : p.tables.exec = Jvm.exec) (hb : c.code = cc) {own C : String} {T : u_T} {ci n index k : Nat} {lk : Nat → Nat} (hts : ∀ w ∈ wsL_law, w.before args s = true) (hown : s.vm.findClass own = some m.cls) (hK : va_K D vwCl (pw_ty cA) s) (hG : pw_G D cA sh n0 A ad σ H)
    (hin : ∀ w ∈ u_ws C T n, w ∈ wsL_law) (hc : vwCl[ci]? = some (C, T, n)) (hk : k < gN σ) (hs : sh k = (0, ci, n, lk)) (j : Nat) (hj : j < n) (h0 : lk j = 0) (hlink : Cond.fieldLink own index (T j).1 (T j).2.1 (T j).2.2.1 ∈ wsL_law) (hdg : decode cc pc = .ok (.getfield index, 3))
    (kk : W p l e R s m args below meth c H locs cells slots Q (F0 m (pc + 3) ls (.int (gi σ k j) :: rest))) : W p l e R s m args below meth c H locs cells slots Q (F0 m pc ls (.ref (ad k) :: rest)) := by
  have h1 := hG.1 k hk
  rw [hs] at h1
  exact va_get (ws := [(ad k, .inr (ci, pw_fs ad σ k n lk))]) hx hb hts hin hown hK (pw_one h1) 0 rfl hc j hj (hts _ hlink) (fun _ h => h) (by rw [pw_fs_at hj, if_pos h0]) hdg kk
theorem mw_getl (hx : p.tables.exec = Jvm.exec) (hb : c.code = cc) {own C : String} {T : u_T} {ci n index k : Nat} {lk : Nat → Nat} (hts : ∀ w ∈ wsL_law, w.before args s = true) (hown : s.vm.findClass own = some m.cls) (hK : va_K D vwCl (pw_ty cA) s) (hG : pw_G D cA sh n0 A ad σ H)
    (hin : ∀ w ∈ u_ws C T n, w ∈ wsL_law) (hc : vwCl[ci]? = some (C, T, n)) (hk : k < gN σ) (hs : sh k = (0, ci, n, lk)) (j : Nat) (hj : j < n) (k' : Nat) (h0 : lk j = k' + 1) (hlink : Cond.fieldLink own index (T j).1 (T j).2.1 (T j).2.2.1 ∈ wsL_law) (hdg : decode cc pc = .ok (.getfield index, 3))
    (kk : W p l e R s m args below meth c H locs cells slots Q (F0 m (pc + 3) ls (.ref (ad k') :: rest))) : W p l e R s m args below meth c H locs cells slots Q (F0 m pc ls (.ref (ad k) :: rest)) := by
  have h1 := hG.1 k hk
  rw [hs] at h1
  exact va_get (ws := [(ad k, .inr (ci, pw_fs ad σ k n lk))]) hx hb hts hin hown hK (pw_one h1) 0 rfl hc j hj (hts _ hlink) (fun _ h => h) (by rw [pw_fs_at hj, h0]; rfl) hdg kk
theorem mw_puti (hx : p.tables.exec = Jvm.exec) (hb : c.code = cc) {own C : String} {T : u_T} {ci n index k : Nat} {lk : Nat → Nat} (hts : ∀ w ∈ wsL_law, w.before args s = true) (hown : s.vm.findClass own = some m.cls) (hK : va_K D vwCl (pw_ty cA) s) (hG : pw_G D cA sh n0 A ad σ H) (hS : va_S A H0 H locs)
    (hin : ∀ w ∈ u_ws C T n, w ∈ wsL_law) (ty0 : Nat → FieldType) (hty : ∀ k, k < n → parseFieldDescriptor (T k).2.2.1 = some (ty0 k)) (hnm : ∀ a, a < n → ∀ b, b < n → a ≠ b → (T a).2.1 ≠ (T b).2.1) (hc : vwCl[ci]? = some (C, T, n)) (hk : k < gN σ) (hs : sh k = (0, ci, n, lk)) (j : Nat) (hj : j < n) (h0 : lk j = 0) {x : Int32} (hfin : (T j).2.2.2 = false) (hn : narrow (ty0 j) (.int x) = .int x) (hfit : fits (ty0 j) (.int x) = true) (hlink : Cond.fieldLink own index (T j).1 (T j).2.1 (T j).2.2.1 ∈ wsL_law) (hdg : decode cc pc = .ok (.putfield index, 3))
    (kk : ∀ (H1 : Heap) (locs1 : List Loc), pw_G D cA sh n0 A ad (si σ k j x) H1 → va_S A H0 H1 locs1 → W p l e R s m args below meth c H1 locs1 cells slots Q (F0 m (pc + 3) ls rest)) : W p l e R s m args below meth c H locs cells slots Q (F0 m pc ls (.int x :: .ref (ad k) :: rest)) := by
  have hap := va_apart (own := own) hts hin ty0 hty hnm hK hc
  have h1 := hG.1 k hk
  rw [hs] at h1
  obtain ⟨r, hr1, cell, q1, q2, q3, q4⟩ := h1
  have hr : r = (C, T, n) := Option.some.inj (hr1.symm.trans hc)
  subst hr
  obtain ⟨hSl, hfc, kC, hkC, hkind⟩ := hK.1 ci _ hc
  obtain ⟨cf, kf, fi, f, hi, hsl⟩ := hSl j hj
  have hlay := hts _ (hin _ (u_in_lay hj))
  unfold u_lay at hlay
  rw [if_neg (by rw [hfin]; decide)] at hlay
  have hst := (u_facts hfc hkC (u_lays hts hin hj) hi).1
  have h6 := u_store hfc hkC hkind hlay hi (hty j hj) hn hfit
  refine W.putK hx hb (f := f) ⟨hown, hts _ hlink, ⟨_, _, _, hi⟩, hst⟩ (by rw [q2]; exact h6) q1 q3 (by rw [hsl]; exact k2_hasslot (q4 j hj)) rfl rfl hdg fun H' e1 e2 e3 => ?_
  rw [hsl] at e1 ⊢
  refine kk H' _ (hG.put hk gN_si (fun k' hne => pw_e_si hne) ?_ e3) (hS.put e2 e3 (hG.2.2.1 k hk))
  rw [hs]
  show va_at D vwCl (ad k, .inr (ci, pw_fs ad (si σ k j x) k n lk)) H'
  rw [← pw_fs_set h0]
  exact ⟨_, hc, t_OB.to (V := updV (vp_V (pw_fs ad σ k n lk)) j (.int x)) ⟨_, e1, q2, q3, t_set q4 hap hj (.int x)⟩ (fun i _ => vp_updV_set (by rw [pw_fs_len]; exact hj) (.int x) i)⟩
theorem mw_iald (hx : p.tables.exec = Jvm.exec) (hb : c.code = cc) {ci n k : Nat} {lk : Nat → Nat} (hK : va_K D vwCl (pw_ty cA) s) (hG : pw_G D cA sh n0 A ad σ H) (hk : k < gN σ) (hs : sh k = (1, ci, n, lk)) {i : Int32} (hin : vp_in i n) (hdg : decode cc pc = .ok (.iaload, 1))
    (kk : W p l e R s m args below meth c H locs cells slots Q (F0 m (pc + 1) ls (.int (gi σ k i.toNatClampNeg) :: rest))) : W p l e R s m args below meth c H locs cells slots Q (F0 m pc ls (.int i :: .ref (ad k) :: rest)) := by
  have h1 := hG.1 k hk
  rw [hs] at h1
  exact va_iald (ws := [(ad k, .inl (cA 1, n, .inl (fun j => gi σ k j)))]) hx hb hK (pw_one h1) 0 0 rfl rfl hin hdg kk
theorem mw_zald (hx : p.tables.exec = Jvm.exec) (hb : c.code = cc) {ci n k : Nat} {lk : Nat → Nat} (hK : va_K D vwCl (pw_ty cA) s) (hG : pw_G D cA sh n0 A ad σ H) (hk : k < gN σ) (hs : sh k = (2, ci, n, lk)) {i : Int32} (hin : vp_in i n) (hdg : decode cc pc = .ok (.baload, 1))
    (kk : W p l e R s m args below meth c H locs cells slots Q (F0 m (pc + 1) ls (.int (gi σ k i.toNatClampNeg) :: rest))) : W p l e R s m args below meth c H locs cells slots Q (F0 m pc ls (.int i :: .ref (ad k) :: rest)) := by
  have h1 := hG.1 k hk
  rw [hs] at h1
  exact va_zald (ws := [(ad k, .inl (cA 2, n, .inl (fun j => gi σ k j)))]) hx hb hK (pw_one h1) 0 1 rfl rfl hin hdg kk
theorem mw_aald (hx : p.tables.exec = Jvm.exec) (hb : c.code = cc) {ci n k : Nat} {lk : Nat → Nat} (hK : va_K D vwCl (pw_ty cA) s) (hG : pw_G D cA sh n0 A ad σ H) (hk : k < gN σ) (hs : sh k = (3, ci, n, lk)) {i : Int32} (hin : vp_in i n) (hdg : decode cc pc = .ok (.aaload, 1))
    (kk : W p l e R s m args below meth c H locs cells slots Q (F0 m (pc + 1) ls (va_rf ((gr σ k i.toNatClampNeg).map ad) :: rest))) : W p l e R s m args below meth c H locs cells slots Q (F0 m pc ls (.int i :: .ref (ad k) :: rest)) := by
  have h1 := hG.1 k hk
  rw [hs] at h1
  exact va_aldq (ws := [(ad k, .inl (cA 3, n, .inr (.inr (.inr (.inr (fun j => (gr σ k j).map ad))))))]) hx hb hK (pw_one h1) 0 2 rfl rfl hin hdg kk
theorem mw_alen (hx : p.tables.exec = Jvm.exec) (hb : c.code = cc) {kd ci n k : Nat} {lk : Nat → Nat} (hK : va_K D vwCl (pw_ty cA) s) (hG : pw_G D cA sh n0 A ad σ H) (hk : k < gN σ) (hs : sh k = (kd, ci, n, lk)) (hkd : kd = 1 ∨ kd = 2 ∨ kd = 3) (hdg : decode cc pc = .ok (.arraylength, 1))
    (kk : W p l e R s m args below meth c H locs cells slots Q (F0 m (pc + 1) ls (.int (nI n) :: rest))) : W p l e R s m args below meth c H locs cells slots Q (F0 m pc ls (.ref (ad k) :: rest)) := by
  have h1 := hG.1 k hk
  rw [hs] at h1
  rcases hkd with rfl | rfl | rfl
  · exact W.alen hx hb (cell := vp_cell (cA 1) (n, .inl (fun j => gi σ k j))) (ty := .int) h1 ((hK.2 0 _ rfl).1 n _) (by rw [vp_cell_i, arrV_size]; rfl) rfl rfl hdg kk
  · exact W.alen hx hb (cell := vp_cell (cA 2) (n, .inl (fun j => gi σ k j))) (ty := .boolean) h1 ((hK.2 1 _ rfl).1 n _) (by rw [vp_cell_i, arrV_size]; rfl) rfl rfl hdg kk
  · exact W.alen hx hb (cell := vp_cell (cA 3) (n, .inr (.inr (.inr (.inr (fun j => (gr σ k j).map ad)))))) (ty := .object RX0) h1 ((hK.2 2 _ rfl).1 n _) (by rw [vp_cell_q, arrV_size]; rfl) rfl rfl hdg kk
theorem mw_iast (hx : p.tables.exec = Jvm.exec) (hb : c.code = cc) {ci n k : Nat} {lk : Nat → Nat} (hK : va_K D vwCl (pw_ty cA) s) (hG : pw_G D cA sh n0 A ad σ H) (hS : va_S A H0 H locs) (hk : k < gN σ) (hs : sh k = (1, ci, n, lk)) {i x : Int32} (hin : vp_in i n) (hdg : decode cc pc = .ok (.iastore, 1))
    (kk : ∀ (H1 : Heap) (locs1 : List Loc), pw_G D cA sh n0 A ad (si σ k i.toNatClampNeg x) H1 → va_S A H0 H1 locs1 → W p l e R s m args below meth c H1 locs1 cells slots Q (F0 m (pc + 1) ls rest)) : W p l e R s m args below meth c H locs cells slots Q (F0 m pc ls (.int x :: .int i :: .ref (ad k) :: rest)) := by
  have h1 := hG.1 k hk
  rw [hs] at h1
  have h1 : H[ad k]? = some (vp_cell (cA 1) (n, .inl (fun j => gi σ k j))) := h1
  refine W.iast hx hb h1 ((hK.2 0 _ rfl).1 n (fun j => .int (gi σ k j))) (fun q => by cases q) (by show ¬ (i < 0 ∨ (arrV _ _ _).slots.size ≤ _); rw [arrV_size]; exact hin) rfl rfl hdg fun H1 e z oq => ?_
  refine kk H1 _ (hG.put hk gN_si (fun k' hne => pw_e_si hne) ?_ oq) (hS.put z oq (hG.2.2.1 k hk))
  rw [hs]
  show H1[ad k]? = some (vp_cell (cA 1) (n, .inl (fun j => gi (si σ k i.toNatClampNeg x) k j)))
  rw [e, vp_cell_i, vp_cell_i, arrV_store]
  congr 2
  funext q
  by_cases hq : q = i.toNatClampNeg
  · subst hq
    simp [updV, gi_si]
  · simp [updV, gi_si, hq]
theorem mw_zast (hx : p.tables.exec = Jvm.exec) (hb : c.code = cc) {ci n k : Nat} {lk : Nat → Nat} (hK : va_K D vwCl (pw_ty cA) s) (hG : pw_G D cA sh n0 A ad σ H) (hS : va_S A H0 H locs) (hk : k < gN σ) (hs : sh k = (2, ci, n, lk)) {i x : Int32} (hn : narrow .boolean (.int x) = .int x) (hin : vp_in i n) (hdg : decode cc pc = .ok (.bastore, 1))
    (kk : ∀ (H1 : Heap) (locs1 : List Loc), pw_G D cA sh n0 A ad (si σ k i.toNatClampNeg x) H1 → va_S A H0 H1 locs1 → W p l e R s m args below meth c H1 locs1 cells slots Q (F0 m (pc + 1) ls rest)) : W p l e R s m args below meth c H locs cells slots Q (F0 m pc ls (.int x :: .int i :: .ref (ad k) :: rest)) := by
  have h1 := hG.1 k hk
  rw [hs] at h1
  have h1 : H[ad k]? = some (vp_cell (cA 2) (n, .inl (fun j => gi σ k j))) := h1
  refine W.zast hx hb h1 ((hK.2 1 _ rfl).1 n (fun j => .int (gi σ k j))) (fun q => by cases q) (by show ¬ (i < 0 ∨ (arrV _ _ _).slots.size ≤ _); rw [arrV_size]; exact hin) rfl rfl hdg fun H1 e z oq => ?_
  refine kk H1 _ (hG.put hk gN_si (fun k' hne => pw_e_si hne) ?_ oq) (hS.put z oq (hG.2.2.1 k hk))
  rw [hs]
  show H1[ad k]? = some (vp_cell (cA 2) (n, .inl (fun j => gi (si σ k i.toNatClampNeg x) k j)))
  rw [e, vp_cell_i, vp_cell_i, arrV_store]
  congr 2
  funext q
  by_cases hq : q = i.toNatClampNeg
  · subst hq
    simp [updV, gi_si, hn]
  · simp [updV, gi_si, hq]
theorem mw_aast (hx : p.tables.exec = Jvm.exec) (hb : c.code = cc) {ci n k : Nat} {lk : Nat → Nat} (hK : va_K D vwCl (pw_ty cA) s) (hG : pw_G D cA sh n0 A ad σ H) (hS : va_S A H0 H locs) (hk : k < gN σ) (hs : sh k = (3, ci, n, lk)) {i : Int32} {q : Nat} {lq : Nat → Nat} (hq : q < gN σ) (hsq : sh q = (0, 0, 7, lq)) (hin : vp_in i n) (hdg : decode cc pc = .ok (.aastore, 1))
    (kk : ∀ (H1 : Heap) (locs1 : List Loc), pw_G D cA sh n0 A ad (sr σ k i.toNatClampNeg (some q)) H1 → va_S A H0 H1 locs1 → W p l e R s m args below meth c H1 locs1 cells slots Q (F0 m (pc + 1) ls rest)) : W p l e R s m args below meth c H locs cells slots Q (F0 m pc ls (.ref (ad q) :: .int i :: .ref (ad k) :: rest)) := by
  have hlt : i.toNatClampNeg < n := Nat.not_le.mp fun q => hin (Or.inr q)
  have h0 : ¬ i < 0 := fun q => hin (Or.inl q)
  have h1 := hG.1 k hk
  rw [hs] at h1
  have h1 : H[ad k]? = some (vp_cell (cA 3) (n, .inr (.inr (.inr (.inr (fun j => (gr σ k j).map ad)))))) := h1
  have h2 := hG.1 q hq
  rw [hsq] at h2
  obtain ⟨r', hr', cellV, g1, g2, g3, -⟩ := h2
  have hcls := (hK.1 0 (RX0, TX0, 7) rfl).2
  obtain ⟨kA, comp, k1, k2, k3, -⟩ := (hK.2 2 _ rfl).2
  have hcomp : comp = D.1 0 := Option.some.inj (k3.symm.trans hcls.1)
  subst hcomp
  obtain ⟨kC, hkC, -⟩ := hcls.2
  refine W.aast hx hb h1 (fun q h => by cases h) (fun h => by cases h) k1 k2 rfl hkC ⟨h0, by show _ < (arrV _ _ _).slots.size; rw [arrV_size]; exact hlt⟩ g1 (fun q h => by rw [g3] at h; cases h) (by rw [g2]; exact hkC) (by rw [g2]; exact va_assign hcls) rfl rfl hdg fun H1 e z oq => ?_
  refine kk H1 _ (hG.put hk gN_sr (fun k' hne => pw_e_sr hne) ?_ oq) (hS.put z oq (hG.2.2.1 k hk))
  rw [hs]
  show H1[ad k]? = some (vp_cell (cA 3) (n, .inr (.inr (.inr (.inr (fun j => (gr (sr σ k i.toNatClampNeg (some q)) k j).map ad))))))
  rw [e, vp_cell_q, vp_cell_q, arrV_store]
  congr 2
  funext q
  by_cases hq : q = i.toNatClampNeg
  · subst hq
    simp [updV, gr_sr, va_rf]
  · simp [updV, gr_sr, hq]
theorem mw_aastN (hx : p.tables.exec = Jvm.exec) (hb : c.code = cc) {ci n k : Nat} {lk : Nat → Nat} (hK : va_K D vwCl (pw_ty cA) s) (hG : pw_G D cA sh n0 A ad σ H) (hS : va_S A H0 H locs) (hk : k < gN σ) (hs : sh k = (3, ci, n, lk)) {i : Int32} (hin : vp_in i n) (hdg : decode cc pc = .ok (.aastore, 1))
    (kk : ∀ (H1 : Heap) (locs1 : List Loc), pw_G D cA sh n0 A ad (sr σ k i.toNatClampNeg none) H1 → va_S A H0 H1 locs1 → W p l e R s m args below meth c H1 locs1 cells slots Q (F0 m (pc + 1) ls rest)) : W p l e R s m args below meth c H locs cells slots Q (F0 m pc ls (.null :: .int i :: .ref (ad k) :: rest)) := by
  have h1 := hG.1 k hk
  rw [hs] at h1
  have h1 : H[ad k]? = some (vp_cell (cA 3) (n, .inr (.inr (.inr (.inr (fun j => (gr σ k j).map ad)))))) := h1
  refine va_WaastN (C := RX0) hx hb h1 ((hK.2 2 _ rfl).1 n (fun j => va_rf ((gr σ k j).map ad))) (fun h => by cases h) (by show ¬ (i < 0 ∨ (arrV _ _ _).slots.size ≤ _); rw [arrV_size]; exact hin) rfl rfl hdg fun H1 e z oq => ?_
  refine kk H1 _ (hG.put hk gN_sr (fun k' hne => pw_e_sr hne) ?_ oq) (hS.put z oq (hG.2.2.1 k hk))
  rw [hs]
  show H1[ad k]? = some (vp_cell (cA 3) (n, .inr (.inr (.inr (.inr (fun j => (gr (sr σ k i.toNatClampNeg none) k j).map ad))))))
  rw [e, vp_cell_q, vp_cell_q, arrV_store]
  congr 2
  funext q
  by_cases hq : q = i.toNatClampNeg
  · subst hq
    simp [updV, gr_sr, va_rf]
  · simp [updV, gr_sr, hq]
end PWR
