/-! THE SHAPES of the two worlds, and the small words out of which the pure functions are made -/
def lk0 : Nat → Nat := fun _ => 0
/-- the class's world: 0 PagedMemory, 1 pages, 2 live, 3 segmentContents, 4 FrameTable, 5 contents, 6 usedAt, 7 marked, 8 SwapArea, 9 its contents, 10 cluster, 11 counts; from 12 on two cells for each Content: itself (even), its words (odd) -/
def shP (k : Nat) : pw_Sh := match k with
  | 0 => (0, 3, 11, fun j => match j with | 0 => 2 | 1 => 3 | 2 => 4 | 3 => 5 | 4 => 9 | 5 => 11 | 6 => 12 | _ => 0)
  | 1 => (3, 0, 160, lk0)
  | 2 => (2, 0, 10, lk0)
  | 3 => (3, 0, 24, lk0)
  | 4 => (0, 1, 5, fun j => match j with | 0 => 6 | 1 => 7 | 2 => 8 | _ => 0)
  | 5 => (3, 0, 12, lk0)
  | 6 => (1, 0, 12, lk0)
  | 7 => (2, 0, 12, lk0)
  | 8 => (0, 2, 1, fun j => match j with | 0 => 10 | _ => 0)
  | 9 => (3, 0, 24, lk0)
  | 10 => (3, 0, 4, lk0)
  | 11 => (1, 0, 6, lk0)
  | k => if k % 2 = 0 then (0, 0, 7, fun j => if j = 0 then k + 2 else 0) else (1, 0, 4, lk0)
/-- the reference's world: 0 itself; 1 contentIn, 2 uses, 3 isMarked, 4 contentAt, 5 isThere, 6 isWritten, 7 words, 8 isLive, 9 mappings, 10 contents, 11 sizes, 12 parts, 13 counts, 14 cluster -/
def shM (k : Nat) : pw_Sh := match k with
  | 0 => (0, 4, 21, fun j => match j with | 5 => 2 | 6 => 3 | 7 => 4 | 8 => 5 | 9 => 6 | 10 => 7 | 11 => 8 | 13 => 9 | 14 => 10 | 15 => 11 | 17 => 12 | 18 => 13 | 19 => 14 | 20 => 15 | _ => 0)
  | 1 => (1, 0, 12, lk0)
  | 2 => (1, 0, 12, lk0)
  | 3 => (2, 0, 12, lk0)
  | 4 => (1, 0, 24, lk0)
  | 5 => (2, 0, 200, lk0)
  | 6 => (2, 0, 200, lk0)
  | 7 => (1, 0, 800, lk0)
  | 8 => (2, 0, 10, lk0)
  | 9 => (1, 0, 160, lk0)
  | 10 => (1, 0, 160, lk0)
  | 11 => (1, 0, 4, lk0)
  | 12 => (1, 0, 24, lk0)
  | 13 => (1, 0, 6, lk0)
  | 14 => (1, 0, 4, lk0)
  | _ => (1, 0, 0, lk0)
def ck {α : Type} (b : Bool) (v : Option α) : Option α := if b = true then v else none
def bnd {α β S : Type} (v : Option (α × S)) (k : α → S → Option β) : Option β := match v with
  | none => none
  | some (a, s) => k a s
def bnx {α β S : Type} (v : Option ((α ⊕ String) × S)) (k : α → S → Option ((β ⊕ String) × S)) : Option ((β ⊕ String) × S) := match v with
  | none => none
  | some (.inl a, s) => k a s
  | some (.inr E, s) => some (.inr E, s)
def oc {α : Type} (o : Option Nat) (a : α) (f : Nat → α) : α := match o with
  | none => a
  | some q => f q
def ld {α β : Type} (v : α) (f : α → β) : β := f v
def inb (i : Int32) (n : Nat) : Bool := decide (0 ≤ i.toInt ∧ i.toInt < n)
def okc (σ : pw_S) (q : Nat) : Bool := decide (12 ≤ q ∧ q % 2 = 0 ∧ q + 1 < gN σ)
def okO (σ : pw_S) (o : Option Nat) : Bool := match o with
  | none => true
  | some q => decide (q < gN σ)
def kar (k : Nat) : Bool := decide (k < 12 ∧ (shP k).1 = 3)
def isB (v : Int32) : Bool := decide (v = 0 ∨ v = 1)
def nzb (v : Int32) : Bool := decide (¬ v = 0)
theorem ck_some {α : Type} {b : Bool} {v : Option α} {w : α} (h : ck b v = some w) : b = true ∧ v = some w := by
  unfold ck at h
  split at h
  · exact ⟨‹_›, h⟩
  · cases h
theorem bnd_some {α β S : Type} {v : Option (α × S)} {k : α → S → Option β} {w : β} (h : bnd v k = some w) : ∃ a s, v = some (a, s) ∧ k a s = some w := by
  match v, h with
  | some (a, s), h => exact ⟨a, s, rfl, h⟩
theorem bnx_some {α β S : Type} {v : Option ((α ⊕ String) × S)} {k : α → S → Option ((β ⊕ String) × S)} {w : (β ⊕ String) × S} (h : bnx v k = some w) : ∃ z s, v = some (z, s) ∧ (∀ a, z = .inl a → k a s = some w) ∧ ∀ E, z = .inr E → w = (.inr E, s) := by
  match v, h with
  | some (.inl a, s), h => exact ⟨_, s, rfl, fun b hb => (by cases hb; exact h), fun E hE => (by cases hE)⟩
  | some (.inr E, s), h => exact ⟨_, s, rfl, fun b hb => (by cases hb), fun E2 hE => (by cases hE; exact (Option.some.inj h).symm)⟩
theorem bnx_ok {α β S : Type} {v : Option ((α ⊕ String) × S)} {k : α → S → Option ((β ⊕ String) × S)} {w : β} {s' : S} (h : bnx v k = some (.inl w, s')) : ∃ a s, v = some (.inl a, s) ∧ k a s = some (.inl w, s') := by
  match v, h with
  | some (.inl a, s), h => exact ⟨a, s, rfl, h⟩
theorem bnx_x {α β S : Type} {z : α ⊕ String} {r : β ⊕ String} {s s' : S} (h : ∀ E, z = .inr E → (r, s') = (.inr E, s)) : ∀ E, z = .inr E → r = .inr E ∧ s' = s := fun E hE => Prod.mk.inj (h E hE)
theorem inl_some {β S : Type} {a b : β} {s s' : S} (h : some ((Sum.inl a : β ⊕ String), s) = some (.inl b, s')) : some (a, s) = some (b, s') := by cases h; rfl
theorem ld_some {α β : Type} {v : α} {f : α → β} {w : β} (h : ld v f = w) : ∃ u, u = v ∧ f u = w := ⟨v, rfl, h⟩
theorem oc_some {α : Type} {q : Nat} {a : α} {f : Nat → α} {w : α} (h : oc (some q) a f = w) : f q = w := h
theorem oc_none {α : Type} {a : α} {f : Nat → α} {w : α} (h : oc none a f = w) : a = w := h
theorem it_pos {α : Type} {c : Prop} {hd : Decidable c} {a b w : α} (hc : c) (h : (@ite α c hd a b) = w) : a = w := by rw [if_pos hc] at h; exact h
theorem it_neg {α : Type} {c : Prop} {hd : Decidable c} {a b w : α} (hc : ¬ c) (h : (@ite α c hd a b) = w) : b = w := by rw [if_neg hc] at h; exact h
theorem inb_in {i : Int32} {n : Nat} (h : inb i n = true) : vp_in i n := vp_in_iff.mpr (of_decide_eq_true h)
theorem okc_lt {σ : pw_S} {q : Nat} (h : okc σ q = true) : q < gN σ := by have := of_decide_eq_true h; omega
theorem okc_lw {σ : pw_S} {q : Nat} (h : okc σ q = true) : q + 1 < gN σ := by have := of_decide_eq_true h; omega
theorem okc_si {σ σ1 : pw_S} {k j q : Nat} {v : Int32} (e : σ1 = si σ k j v) (h : okc σ q = true) : okc σ1 q = true := by subst e; exact h
theorem okc_sr {σ σ1 : pw_S} {k j q : Nat} {v : Option Nat} (e : σ1 = sr σ k j v) (h : okc σ q = true) : okc σ1 q = true := by subst e; exact h
theorem okO_lt {σ : pw_S} {o : Option Nat} (h : okO σ o = true) : ∀ k, o = some k → k < gN σ := by
  intro k e
  subst e
  exact of_decide_eq_true h
theorem shP_hi (k : Nat) : shP (k + 12) = if (k + 12) % 2 = 0 then (0, 0, 7, fun j => if j = 0 then k + 12 + 2 else 0) else (1, 0, 4, lk0) := rfl
theorem shP_c {σ : pw_S} {q : Nat} (h : okc σ q = true) : shP q = (0, 0, 7, fun j => if j = 0 then q + 2 else 0) := by
  have h1 := of_decide_eq_true h
  obtain ⟨k, rfl⟩ : ∃ k, q = k + 12 := ⟨q - 12, by omega⟩
  rw [shP_hi, if_pos h1.2.1]
theorem shP_w {σ : pw_S} {q : Nat} (h : okc σ q = true) : shP (q + 1) = (1, 0, 4, lk0) := by
  have h1 := of_decide_eq_true h
  obtain ⟨k, rfl⟩ : ∃ k, q = k + 12 := ⟨q - 12, by omega⟩
  rw [show k + 12 + 1 = (k + 1) + 12 by omega, shP_hi, if_neg (by omega)]
theorem kar_lt {k : Nat} (h : kar k = true) : k < 12 := (of_decide_eq_true h).1
theorem kar_sh {k : Nat} (h : kar k = true) : shP k = (3, (shP k).2.1, (shP k).2.2.1, (shP k).2.2.2) := by
  have h1 := (of_decide_eq_true h).2
  rw [← h1]
theorem isB_or {v : Int32} (h : isB v = true) : v = 0 ∨ v = 1 := of_decide_eq_true h
theorem nz_ne {v : Int32} (h : nzb v = true) : ¬ v = 0 := of_decide_eq_true h
/-- what is to be shown at a cut point -/
abbrev mw_K (p : Program) (l : Launch) (e : Env) (R : Room) (s : State) (m : MethodId) (args : Array Value) (below : List Frame) (meth : Method) (c : Code) (Q : State → Prop) (A : Nat → Prop) (D : va_G) (cA : Nat → ClassId) (sh : Nat → pw_Sh) (n0 : Nat) (ad : Nat → Nat) (nL pc cells slots : Nat) (lv : List (Nat × Value)) (st : List Value) (σ : pw_S) : Prop :=
  ∀ (H : Heap) (locs : List Loc) (ls : Array Slot), pw_G D cA sh n0 A ad σ H → va_S A s.heap H locs → lv_has ls nL lv → W p l e R s m args below meth c H locs cells slots Q (F0 m pc ls st)
theorem mtE_ia : mt_E pw_iaX 56 60 := ⟨by decide, by decide +kernel, by decide +kernel, by decide +kernel, fun _ h => List.mem_append_left _ (List.mem_append_left _ (List.mem_append_left _ (List.mem_append_right _ h))), by decide +kernel, by decide +kernel⟩
theorem mtE_is : mt_E pw_isX 70 74 := ⟨by decide, by decide +kernel, by decide +kernel, by decide +kernel, fun _ h => List.mem_append_left _ (List.mem_append_left _ (List.mem_append_right _ h)), by decide +kernel, by decide +kernel⟩
theorem mtE_io : mt_E pw_ioX 188 192 := ⟨by decide, by decide +kernel, by decide +kernel, by decide +kernel, fun _ h => List.mem_append_left _ (List.mem_append_right _ h), by decide +kernel, by decide +kernel⟩
theorem mtN_ne : mt_N := ⟨by decide +kernel, by decide +kernel, fun _ h => List.mem_append_right _ h, by decide +kernel, by decide +kernel⟩
