/-! NUMBERS, LOOPS, and THE RELATION between the class's state σ and the reference's state μ; d: a Content (its key is ky d), ι d its number in the reference; L: the live ones -/
theorem ze_mul (a b : Nat) : nI a * nI b = nI (a * b) := (Int32.ofNat_mul a b).symm
theorem ze_inb {j n : Nat} (h : j < n) (hn : n < 2 ^ 31) : inb (nI j) n = true := by
  unfold inb
  rw [nI_toInt (by omega)]
  exact decide_eq_true (by omega)
theorem ze_nm {j : Nat} (h : j < 2 ^ 31) : ¬ nI j = -1 := by
  rw [← Int32.toInt_inj, nI_toInt h]
  have : (-1 : Int32).toInt = -1 := by decide
  rw [this]; omega
theorem ze_nm' {j : Nat} (h : j < 2 ^ 31) : ¬ (-1 : Int32) = nI j := fun e => ze_nm h e.symm
theorem ze_lit (n : Nat) : (OfNat.ofNat n : Int32) = nI n := rfl
/-- an argument that passes 0 ≤ a < n -/
theorem ze_arg {a : Int32} {n : Nat} (h0 : ¬ a < 0) (h : a < nI n) (hn : n < 2 ^ 31) : ∃ p, p < n ∧ a = nI p := by
  rw [Int32.lt_iff_toInt_lt] at h0 h
  rw [nI_toInt hn] at h
  rw [Int32.toInt_zero] at h0
  refine ⟨a.toInt.toNat, by omega, ?_⟩
  rw [← Int32.toInt_inj, nI_toInt (by omega)]
  omega
theorem ze_nge {a : Int32} {n : Nat} : ¬ nI n ≤ a ↔ a < nI n := by
  rw [Int32.le_iff_toInt_le, Int32.lt_iff_toInt_lt]; omega
theorem ze_nlt {a b : Int32} : ¬ a < b ↔ b ≤ a := by
  rw [Int32.le_iff_toInt_le, Int32.lt_iff_toInt_lt]; omega
theorem ze_nle {a b : Int32} : ¬ a ≤ b ↔ b < a := by
  rw [Int32.le_iff_toInt_le, Int32.lt_iff_toInt_lt]; omega
theorem ze_ck {α : Type} {b : Bool} {v : Option α} (h : b = true) : ck b v = v := by rw [h]; rfl
theorem ze_ld {α β : Type} {v : α} {f : α → β} : ld v f = f v := rfl
theorem ze_bnd {α β S : Type} {a : α} {s : S} {k : α → S → Option β} : bnd (some (a, s)) k = k a s := rfl
theorem ze_bnx {α β S : Type} {a : α} {s : S} {k : α → S → Option ((β ⊕ String) × S)} : bnx (some (.inl a, s)) k = k a s := rfl
theorem ze_bnr {α β S : Type} {a : String} {s : S} {k : α → S → Option ((β ⊕ String) × S)} : bnx (some (.inr a, s)) k = some (.inr a, s) := rfl
theorem ze_ocn {α : Type} {a : α} {f : Nat → α} : oc none a f = a := rfl
theorem ze_ocs {α : Type} {q : Nat} {a : α} {f : Nat → α} : oc (some q) a f = f q := rfl
theorem ze_c {j : Nat} (h : j < 2 ^ 31) : Int32.toNatClampNeg (nI j) = j := nI_clamp h
theorem ze_sc {σ : pw_S} {k j k' j' : Nat} {v w : Int32} (h : k ≠ k') : si (si σ k j v) k' j' w = si (si σ k' j' w) k j v := by
  unfold si up2
  refine Prod.ext rfl (Prod.ext ?_ rfl)
  funext a b
  show (if a = k' then (if b = j' then w else if a = k then (if b = j then v else σ.2.1 a b) else σ.2.1 a b) else if a = k then (if b = j then v else σ.2.1 a b) else σ.2.1 a b) = (if a = k then (if b = j then v else if a = k' then (if b = j' then w else σ.2.1 a b) else σ.2.1 a b) else if a = k' then (if b = j' then w else σ.2.1 a b) else σ.2.1 a b)
  by_cases h1 : a = k'
  · subst h1
    have h2 : ¬ a = k := fun q => h q.symm
    simp [h2]
  · simp [h1]
/-- loops: a fold, a search -/
def foldN {S : Type} (st : S → Nat → S) : S → Nat → Nat → S
  | s, _, 0 => s
  | s, j, m + 1 => foldN st (st s j) (j + 1) m
def fstI (P : Nat → Bool) : Nat → Nat → Int32
  | _, 0 => -1
  | j, n + 1 => if P j = true then nI j else fstI P (j + 1) n
def cntN (P : Nat → Bool) : Nat → Nat → Nat
  | _, 0 => 0
  | j, n + 1 => (if P j = true then 1 else 0) + cntN P (j + 1) n
theorem loop_fold {S α : Type} (L : Nat → S → Nat → Option α) (N : Nat) (st : S → Nat → S) (ex : S → Option α) (hs : ∀ n s j, j < N → L (n + 1) s j = L n (st s j) (j + 1)) (he : ∀ n s, L (n + 1) s N = ex s) : ∀ m j n s, j + m = N → m < n → L n s j = ex (foldN st s j m) := by
  intro m
  induction m with
  | zero =>
    intro j n s e hn
    obtain ⟨n, rfl⟩ : ∃ n', n = n' + 1 := ⟨n - 1, by omega⟩
    obtain rfl : j = N := by omega
    exact he n s
  | succ m ih =>
    intro j n s e hn
    obtain ⟨n, rfl⟩ : ∃ n', n = n' + 1 := ⟨n - 1, by omega⟩
    rw [hs n s j (by omega), ih (j + 1) n _ (by omega) (by omega)]
    rfl
theorem loop_fst {α : Type} (L : Nat → Nat → Option α) (N : Nat) (P : Nat → Bool) (ex : Int32 → Option α) (hs : ∀ n j, j < N → L (n + 1) j = if P j = true then ex (nI j) else L n (j + 1)) (he : ∀ n, L (n + 1) N = ex (-1)) : ∀ m j n, j + m = N → m < n → L n j = ex (fstI P j m) := by
  intro m
  induction m with
  | zero =>
    intro j n e hn
    obtain ⟨n, rfl⟩ : ∃ n', n = n' + 1 := ⟨n - 1, by omega⟩
    obtain rfl : j = N := by omega
    exact he n
  | succ m ih =>
    intro j n e hn
    obtain ⟨n, rfl⟩ : ∃ n', n = n' + 1 := ⟨n - 1, by omega⟩
    rw [hs n j (by omega), ih (j + 1) n (by omega) (by omega)]
    show _ = ex (if P j = true then nI j else fstI P (j + 1) m)
    by_cases h : P j = true
    · rw [if_pos h, if_pos h]
    · rw [if_neg h, if_neg h]
theorem loop_lock {A B SA SB : Type} (La : Nat → SA → Nat → Option A) (Lb : Nat → SB → Nat → Option B) (N : Nat) (I : Nat → SA → SB → Prop) (post : A → B → Prop)
    (step : ∀ j sa sb, j < N → I j sa sb → (∃ a b, (∀ n, La (n + 1) sa j = some a) ∧ (∀ n, Lb (n + 1) sb j = some b) ∧ post a b) ∨ ∃ sa' sb', (∀ n, La (n + 1) sa j = La n sa' (j + 1)) ∧ (∀ n, Lb (n + 1) sb j = Lb n sb' (j + 1)) ∧ I (j + 1) sa' sb')
    (ex : ∀ sa sb, I N sa sb → ∃ a b, (∀ n, La (n + 1) sa N = some a) ∧ (∀ n, Lb (n + 1) sb N = some b) ∧ post a b) : ∀ m j sa sb n n', j + m = N → m < n → m < n' → I j sa sb → ∃ a b, La n sa j = some a ∧ Lb n' sb j = some b ∧ post a b := by
  intro m
  induction m with
  | zero =>
    intro j sa sb n n' e hn hn' hI
    obtain ⟨n, rfl⟩ : ∃ q, n = q + 1 := ⟨n - 1, by omega⟩
    obtain ⟨n', rfl⟩ : ∃ q, n' = q + 1 := ⟨n' - 1, by omega⟩
    obtain rfl : j = N := by omega
    obtain ⟨a, b, h1, h2, h3⟩ := ex sa sb hI
    exact ⟨a, b, h1 n, h2 n', h3⟩
  | succ m ih =>
    intro j sa sb n n' e hn hn' hI
    obtain ⟨n, rfl⟩ : ∃ q, n = q + 1 := ⟨n - 1, by omega⟩
    obtain ⟨n', rfl⟩ : ∃ q, n' = q + 1 := ⟨n' - 1, by omega⟩
    rcases step j sa sb (by omega) hI with ⟨a, b, h1, h2, h3⟩ | ⟨sa', sb', h1, h2, h3⟩
    · exact ⟨a, b, h1 n, h2 n', h3⟩
    · rw [h1 n, h2 n']
      exact ih (j + 1) sa' sb' n n' (by omega) (by omega) (by omega) h3
theorem foldN_ext {S : Type} {st st' : S → Nat → S} : ∀ m j s, (∀ i s, j ≤ i → i < j + m → st s i = st' s i) → foldN st s j m = foldN st' s j m := by
  intro m
  induction m with
  | zero => intro j s h; rfl
  | succ m ih =>
    intro j s h
    show foldN st (st s j) (j + 1) m = foldN st' (st' s j) (j + 1) m
    rw [h j s (by omega) (by omega)]
    exact ih _ _ (fun i s h1 h2 => h i s (by omega) (by omega))
theorem foldN_cnt {P : Nat → Bool} {st : Int32 → Nat → Int32} : ∀ m j a, (∀ i s, j ≤ i → i < j + m → st s i = s + (if P i = true then 1 else 0)) → foldN st (nI a) j m = nI (a + cntN P j m) := by
  intro m
  induction m with
  | zero => intro j a h; rfl
  | succ m ih =>
    intro j a h
    show foldN st (st (nI a) j) (j + 1) m = nI (a + ((if P j = true then 1 else 0) + cntN P (j + 1) m))
    rw [h j _ (by omega) (by omega)]
    by_cases hp : P j = true
    · rw [if_pos hp, if_pos hp, nI_1, ih _ _ (fun i s h1 h2 => h i s (by omega) (by omega))]
      congr 1; omega
    · rw [if_neg hp, if_neg hp, Int32.add_zero, ih _ _ (fun i s h1 h2 => h i s (by omega) (by omega))]
      congr 1; omega
theorem fstI_ext {P Q : Nat → Bool} : ∀ m j, (∀ i, j ≤ i → i < j + m → P i = Q i) → fstI P j m = fstI Q j m := by
  intro m
  induction m with
  | zero => intro j h; rfl
  | succ m ih =>
    intro j h
    show (if P j = true then nI j else fstI P (j + 1) m) = if Q j = true then nI j else fstI Q (j + 1) m
    rw [h j (by omega) (by omega), ih _ (fun i h1 h2 => h i (by omega) (by omega))]
theorem cntN_ext {P Q : Nat → Bool} : ∀ m j, (∀ i, j ≤ i → i < j + m → P i = Q i) → cntN P j m = cntN Q j m := by
  intro m
  induction m with
  | zero => intro j h; rfl
  | succ m ih =>
    intro j h
    show (if P j = true then 1 else 0) + cntN P (j + 1) m = (if Q j = true then 1 else 0) + cntN Q (j + 1) m
    rw [h j (by omega) (by omega), ih _ (fun i h1 h2 => h i (by omega) (by omega))]
theorem cntN_app {P : Nat → Bool} : ∀ m j n, cntN P j (m + n) = cntN P j m + cntN P (j + m) n := by
  intro m
  induction m with
  | zero => intro j n; simp [cntN]
  | succ m ih =>
    intro j n
    rw [show m + 1 + n = (m + n) + 1 by omega]
    show (if P j = true then 1 else 0) + cntN P (j + 1) (m + n) = (if P j = true then 1 else 0) + cntN P (j + 1) m + _
    rw [ih, show j + 1 + m = j + (m + 1) by omega]
    omega
theorem cntN_0 {P : Nat → Bool} : ∀ m j, (∀ i, j ≤ i → i < j + m → P i = false) → cntN P j m = 0 := by
  intro m
  induction m with
  | zero => intro j h; rfl
  | succ m ih =>
    intro j h
    show (if P j = true then 1 else 0) + cntN P (j + 1) m = 0
    rw [h j (by omega) (by omega), ih _ (fun i h1 h2 => h i (by omega) (by omega))]
    rfl
theorem cntN_le {P : Nat → Bool} : ∀ m j, cntN P j m ≤ m := by
  intro m
  induction m with
  | zero => intro j; exact Nat.le_refl 0
  | succ m ih =>
    intro j
    show (if P j = true then 1 else 0) + cntN P (j + 1) m ≤ m + 1
    have := ih (j + 1)
    split <;> omega
theorem cntN_pos {P : Nat → Bool} : ∀ m j i, j ≤ i → i < j + m → P i = true → 0 < cntN P j m := by
  intro m
  induction m with
  | zero => intro j i h1 h2; omega
  | succ m ih =>
    intro j i h1 h2 hp
    show 0 < (if P j = true then 1 else 0) + cntN P (j + 1) m
    by_cases e : i = j
    · subst e; rw [if_pos hp]; omega
    · have := ih (j + 1) i (by omega) (by omega) hp
      omega
theorem cntN_two {P : Nat → Bool} : ∀ m j, 1 < cntN P j m → ∀ i, ∃ i', j ≤ i' ∧ i' < j + m ∧ P i' = true ∧ i' ≠ i := by
  intro m
  induction m with
  | zero => intro j h; exact absurd h (by simp [cntN])
  | succ m ih =>
    intro j h i
    have h : 1 < (if P j = true then 1 else 0) + cntN P (j + 1) m := h
    by_cases hp : P j = true
    · by_cases e : j = i
      · have h1 : ∃ i', j + 1 ≤ i' ∧ i' < j + 1 + m ∧ P i' = true := by
          apply Classical.byContradiction
          intro hc
          have := cntN_0 (P := P) m (j + 1) (fun i' a b => by
            cases hq : P i' with
            | false => rfl
            | true => exact absurd ⟨i', a, b, hq⟩ hc)
          rw [this, if_pos hp] at h
          omega
        obtain ⟨i', a, b, c⟩ := h1
        exact ⟨i', by omega, by omega, c, by omega⟩
      · exact ⟨j, by omega, by omega, hp, e⟩
    · rw [if_neg hp] at h
      obtain ⟨i', a, b, c, d⟩ := ih (j + 1) (by omega) i
      exact ⟨i', by omega, by omega, c, d⟩
theorem cntN_set {P Q : Nat → Bool} : ∀ m j k, j ≤ k → k < j + m → (∀ i, i ≠ k → P i = Q i) → P k = false → Q k = true → cntN Q j m = cntN P j m + 1 := by
  intro m
  induction m with
  | zero => intro j k h1 h2; omega
  | succ m ih =>
    intro j k h1 h2 he hp hq
    show (if Q j = true then 1 else 0) + cntN Q (j + 1) m = (if P j = true then 1 else 0) + cntN P (j + 1) m + 1
    by_cases e : k = j
    · subst e
      rw [hp, hq, cntN_ext (P := Q) (Q := P) m (k + 1) (fun i h1 h2 => (he i (by omega)).symm)]
      simp; omega
    · rw [he j (fun q => e q.symm), ih (j + 1) k (by omega) (by omega) he hp hq]
      omega
theorem fstI_hit {P : Nat → Bool} : ∀ m j f, j ≤ f → f < j + m → P f = true → (∀ i, j ≤ i → i < f → P i = false) → fstI P j m = nI f := by
  intro m
  induction m with
  | zero => intro j f h1 h2; omega
  | succ m ih =>
    intro j f h1 h2 hp hm
    show (if P j = true then nI j else fstI P (j + 1) m) = nI f
    by_cases e : f = j
    · subst e; rw [if_pos hp]
    · rw [hm j (by omega) (by omega)]
      exact ih (j + 1) f (by omega) (by omega) hp (fun i h1 h2 => hm i (by omega) h2)
theorem fstI_no {P : Nat → Bool} : ∀ m j, (∀ i, j ≤ i → i < j + m → P i = false) → fstI P j m = -1 := by
  intro m
  induction m with
  | zero => intro j h; rfl
  | succ m ih =>
    intro j h
    show (if P j = true then nI j else fstI P (j + 1) m) = -1
    rw [h j (by omega) (by omega)]
    exact ih _ (fun i h1 h2 => h i (by omega) (by omega))
theorem fstI_or {P : Nat → Bool} : ∀ m j, (fstI P j m = -1 ∧ ∀ i, j ≤ i → i < j + m → P i = false) ∨ ∃ f, j ≤ f ∧ f < j + m ∧ P f = true ∧ fstI P j m = nI f ∧ ∀ i, j ≤ i → i < f → P i = false := by
  intro m
  induction m with
  | zero => intro j; exact Or.inl ⟨rfl, fun i h1 h2 => by omega⟩
  | succ m ih =>
    intro j
    show ((if P j = true then nI j else fstI P (j + 1) m) = -1 ∧ _) ∨ ∃ f, _ ∧ _ ∧ _ ∧ (if P j = true then nI j else fstI P (j + 1) m) = nI f ∧ _
    cases hp : P j with
    | true => exact Or.inr ⟨j, by omega, by omega, hp, by simp, fun i h1 h2 => by omega⟩
    | false =>
      rcases ih (j + 1) with ⟨h1, h2⟩ | ⟨f, h1, h2, h3, h4, h5⟩
      · refine Or.inl ⟨by simpa using h1, fun i a b => ?_⟩
        by_cases e : i = j
        · subst e; exact hp
        · exact h2 i (by omega) (by omega)
      · refine Or.inr ⟨f, by omega, by omega, h3, by simpa using h4, fun i a b => ?_⟩
        by_cases e : i = j
        · subst e; exact hp
        · exact h5 i (by omega) (by omega)
def ky (d : Nat) : Nat := 2 * d + 12
def Rel (ι : Nat → Nat) (F hd P G : Nat) (z : Nat → Nat) (L X E : Nat → Prop) (σ μ : pw_S) : Prop :=
  (gi σ 0 10 = gi μ 0 1) ∧
  (gi σ 0 9 = gi μ 0 2) ∧
  (gi σ 4 3 = nI F) ∧
  (gi μ 0 3 = nI F) ∧
  (4 ≤ F) ∧
  (F ≤ 12) ∧
  (gi σ 4 4 = nI hd) ∧
  (gi μ 0 4 = nI hd) ∧
  (hd < F) ∧
  (gi σ 0 7 = nI P) ∧
  (gi μ 0 12 = nI P) ∧
  (P ≤ 10) ∧
  (gi σ 0 8 = nI G) ∧
  (gi μ 0 16 = nI G) ∧
  (G ≤ 4) ∧
  (∀ i, i < 6 → gi σ 11 i = gi μ 13 i) ∧
  (∀ i, i < 10 → E i ∨ (gi σ 2 i = gi μ 8 i ∧ (gi μ 8 i = 0 ∨ gi μ 8 i = 1))) ∧
  (∀ k, k < 160 → (gr σ 1 k = none ∧ gi μ 9 k = 0) ∨ ∃ d, gr σ 1 k = some (ky d) ∧ L d ∧ gi μ 10 k = nI (ι d) ∧ gi μ 9 k = (if gi σ (ky d) 1 = 0 then 1 else 2) ∧ k < 16 * P) ∧
  (∀ k, k < 24 → (gr σ 3 k = none ∧ z (k / 6) ≤ k % 6) ∨ ∃ d, gr σ 3 k = some (ky d) ∧ L d ∧ gi μ 12 k = nI (ι d) ∧ gi σ (ky d) 1 = 1 ∧ gi σ (ky d) 2 = nI k ∧ k % 6 < z (k / 6)) ∧
  (∀ i, i < G → gi μ 11 i = nI (z i) ∧ 1 ≤ z i ∧ z i ≤ 6) ∧
  (∀ f, f < 12 → (gr σ 5 f = none ∧ gi μ 1 f = -1 ∧ gi σ 6 f = -1 ∧ gi σ 7 f = 0) ∨ ∃ d, gr σ 5 f = some (ky d) ∧ f < F ∧ L d ∧ gi μ 1 f = nI (ι d) ∧ gi σ (ky d) 3 = nI f ∧ gi μ 2 f = gi σ 6 f ∧ gi μ 3 f = gi σ 7 f ∧ (gi σ 7 f = 0 ∨ gi σ 7 f = 1)) ∧
  (∀ i, i < 24 → (gr σ 9 i = none ∧ gi μ 4 i = -1) ∨ ∃ d, gr σ 9 i = some (ky d) ∧ L d ∧ gi μ 4 i = nI (ι d) ∧ gi σ (ky d) 4 = nI i) ∧
  (∀ d, L d → 2 * d + 13 < gN σ ∧ ι d < 200) ∧
  (∀ d, L d → gi σ (ky d) 3 = -1 ∨ ∃ f, f < F ∧ gi σ (ky d) 3 = nI f ∧ gr σ 5 f = some (ky d)) ∧
  (∀ d, L d → gi σ (ky d) 4 = -1 ∨ ∃ i, i < 24 ∧ gi σ (ky d) 4 = nI i ∧ gr σ 9 i = some (ky d)) ∧
  (∀ d d', L d → L d' → ι d = ι d' → d = d') ∧
  (∀ n, n < 200 → (gi μ 5 n = 1 ∧ ∃ d, L d ∧ ι d = n) ∨ (gi μ 5 n = 0 ∧ ∀ d, L d → ι d ≠ n)) ∧
  (∀ d, L d → (gi σ (ky d) 5 = 1 ∧ gi μ 6 (ι d) = 1 ∧ gi σ (ky d) 4 = -1 ∧ gi σ (ky d) 3 ≠ -1) ∨ (gi σ (ky d) 5 = 0 ∧ (gi μ 6 (ι d) = 0 ∨ (gi μ 6 (ι d) = 1 ∧ gi σ (ky d) 4 ≠ -1)))) ∧
  (∀ d, L d → ∀ i, i < 4 → gi σ (ky d + 1) i = gi μ 7 (4 * ι d + i)) ∧
  (∀ d, L d → gi σ (ky d) 6 = nI (cntN (fun k => gr σ 1 k == some (ky d)) 0 160)) ∧
  (∀ d, L d → (gi σ (ky d) 1 = 0 ∧ ∀ k, k < 24 → gr σ 3 k ≠ some (ky d)) ∨ (gi σ (ky d) 1 = 1 ∧ (X d ∨ ∃ k, k < 24 ∧ gr σ 3 k = some (ky d)))) ∧
  (∀ d k k', k < 160 → k' < 160 → gr σ 1 k = some (ky d) → gr σ 1 k' = some (ky d) → gi σ (ky d) 1 = 0 → k % 16 = k' % 16) ∧
  (gN σ % 2 = 0 ∧ 12 ≤ gN σ ∧ ∀ k j q, gr σ k j = some q → q < gN σ) ∧
  (∀ d, L d → X d ∨ (∃ k, k < 160 ∧ gr σ 1 k = some (ky d)) ∨ gi σ (ky d) 1 = 1)
theorem Rel.tm {ι : Nat → Nat} {F hd P G : Nat} {z : Nat → Nat} {L X E : Nat → Prop} {σ μ : pw_S} (h : Rel ι F hd P G z L X E σ μ) : gi σ 0 10 = gi μ 0 1 := h.1
theorem Rel.wn {ι : Nat → Nat} {F hd P G : Nat} {z : Nat → Nat} {L X E : Nat → Prop} {σ μ : pw_S} (h : Rel ι F hd P G z L X E σ μ) : gi σ 0 9 = gi μ 0 2 := h.2.1
theorem Rel.fa {ι : Nat → Nat} {F hd P G : Nat} {z : Nat → Nat} {L X E : Nat → Prop} {σ μ : pw_S} (h : Rel ι F hd P G z L X E σ μ) : gi σ 4 3 = nI F := h.2.2.1
theorem Rel.fb {ι : Nat → Nat} {F hd P G : Nat} {z : Nat → Nat} {L X E : Nat → Prop} {σ μ : pw_S} (h : Rel ι F hd P G z L X E σ μ) : gi μ 0 3 = nI F := h.2.2.2.1
theorem Rel.f4 {ι : Nat → Nat} {F hd P G : Nat} {z : Nat → Nat} {L X E : Nat → Prop} {σ μ : pw_S} (h : Rel ι F hd P G z L X E σ μ) : 4 ≤ F := h.2.2.2.2.1
theorem Rel.f12 {ι : Nat → Nat} {F hd P G : Nat} {z : Nat → Nat} {L X E : Nat → Prop} {σ μ : pw_S} (h : Rel ι F hd P G z L X E σ μ) : F ≤ 12 := h.2.2.2.2.2.1
theorem Rel.ha {ι : Nat → Nat} {F hd P G : Nat} {z : Nat → Nat} {L X E : Nat → Prop} {σ μ : pw_S} (h : Rel ι F hd P G z L X E σ μ) : gi σ 4 4 = nI hd := h.2.2.2.2.2.2.1
theorem Rel.hb {ι : Nat → Nat} {F hd P G : Nat} {z : Nat → Nat} {L X E : Nat → Prop} {σ μ : pw_S} (h : Rel ι F hd P G z L X E σ μ) : gi μ 0 4 = nI hd := h.2.2.2.2.2.2.2.1
theorem Rel.hh {ι : Nat → Nat} {F hd P G : Nat} {z : Nat → Nat} {L X E : Nat → Prop} {σ μ : pw_S} (h : Rel ι F hd P G z L X E σ μ) : hd < F := h.2.2.2.2.2.2.2.2.1
theorem Rel.pa {ι : Nat → Nat} {F hd P G : Nat} {z : Nat → Nat} {L X E : Nat → Prop} {σ μ : pw_S} (h : Rel ι F hd P G z L X E σ μ) : gi σ 0 7 = nI P := h.2.2.2.2.2.2.2.2.2.1
theorem Rel.pb {ι : Nat → Nat} {F hd P G : Nat} {z : Nat → Nat} {L X E : Nat → Prop} {σ μ : pw_S} (h : Rel ι F hd P G z L X E σ μ) : gi μ 0 12 = nI P := h.2.2.2.2.2.2.2.2.2.2.1
theorem Rel.pp {ι : Nat → Nat} {F hd P G : Nat} {z : Nat → Nat} {L X E : Nat → Prop} {σ μ : pw_S} (h : Rel ι F hd P G z L X E σ μ) : P ≤ 10 := h.2.2.2.2.2.2.2.2.2.2.2.1
theorem Rel.ga {ι : Nat → Nat} {F hd P G : Nat} {z : Nat → Nat} {L X E : Nat → Prop} {σ μ : pw_S} (h : Rel ι F hd P G z L X E σ μ) : gi σ 0 8 = nI G := h.2.2.2.2.2.2.2.2.2.2.2.2.1
theorem Rel.gb {ι : Nat → Nat} {F hd P G : Nat} {z : Nat → Nat} {L X E : Nat → Prop} {σ μ : pw_S} (h : Rel ι F hd P G z L X E σ μ) : gi μ 0 16 = nI G := h.2.2.2.2.2.2.2.2.2.2.2.2.2.1
theorem Rel.gg {ι : Nat → Nat} {F hd P G : Nat} {z : Nat → Nat} {L X E : Nat → Prop} {σ μ : pw_S} (h : Rel ι F hd P G z L X E σ μ) : G ≤ 4 := h.2.2.2.2.2.2.2.2.2.2.2.2.2.2.1
theorem Rel.cs {ι : Nat → Nat} {F hd P G : Nat} {z : Nat → Nat} {L X E : Nat → Prop} {σ μ : pw_S} (h : Rel ι F hd P G z L X E σ μ) : ∀ i, i < 6 → gi σ 11 i = gi μ 13 i := h.2.2.2.2.2.2.2.2.2.2.2.2.2.2.2.1
theorem Rel.lv {ι : Nat → Nat} {F hd P G : Nat} {z : Nat → Nat} {L X E : Nat → Prop} {σ μ : pw_S} (h : Rel ι F hd P G z L X E σ μ) : ∀ i, i < 10 → E i ∨ (gi σ 2 i = gi μ 8 i ∧ (gi μ 8 i = 0 ∨ gi μ 8 i = 1)) := h.2.2.2.2.2.2.2.2.2.2.2.2.2.2.2.2.1
theorem Rel.pg {ι : Nat → Nat} {F hd P G : Nat} {z : Nat → Nat} {L X E : Nat → Prop} {σ μ : pw_S} (h : Rel ι F hd P G z L X E σ μ) : ∀ k, k < 160 → (gr σ 1 k = none ∧ gi μ 9 k = 0) ∨ ∃ d, gr σ 1 k = some (ky d) ∧ L d ∧ gi μ 10 k = nI (ι d) ∧ gi μ 9 k = (if gi σ (ky d) 1 = 0 then 1 else 2) ∧ k < 16 * P := h.2.2.2.2.2.2.2.2.2.2.2.2.2.2.2.2.2.1
theorem Rel.sg {ι : Nat → Nat} {F hd P G : Nat} {z : Nat → Nat} {L X E : Nat → Prop} {σ μ : pw_S} (h : Rel ι F hd P G z L X E σ μ) : ∀ k, k < 24 → (gr σ 3 k = none ∧ z (k / 6) ≤ k % 6) ∨ ∃ d, gr σ 3 k = some (ky d) ∧ L d ∧ gi μ 12 k = nI (ι d) ∧ gi σ (ky d) 1 = 1 ∧ gi σ (ky d) 2 = nI k ∧ k % 6 < z (k / 6) := h.2.2.2.2.2.2.2.2.2.2.2.2.2.2.2.2.2.2.1
theorem Rel.sz {ι : Nat → Nat} {F hd P G : Nat} {z : Nat → Nat} {L X E : Nat → Prop} {σ μ : pw_S} (h : Rel ι F hd P G z L X E σ μ) : ∀ i, i < G → gi μ 11 i = nI (z i) ∧ 1 ≤ z i ∧ z i ≤ 6 := h.2.2.2.2.2.2.2.2.2.2.2.2.2.2.2.2.2.2.2.1
theorem Rel.fr {ι : Nat → Nat} {F hd P G : Nat} {z : Nat → Nat} {L X E : Nat → Prop} {σ μ : pw_S} (h : Rel ι F hd P G z L X E σ μ) : ∀ f, f < 12 → (gr σ 5 f = none ∧ gi μ 1 f = -1 ∧ gi σ 6 f = -1 ∧ gi σ 7 f = 0) ∨ ∃ d, gr σ 5 f = some (ky d) ∧ f < F ∧ L d ∧ gi μ 1 f = nI (ι d) ∧ gi σ (ky d) 3 = nI f ∧ gi μ 2 f = gi σ 6 f ∧ gi μ 3 f = gi σ 7 f ∧ (gi σ 7 f = 0 ∨ gi σ 7 f = 1) := h.2.2.2.2.2.2.2.2.2.2.2.2.2.2.2.2.2.2.2.2.1
theorem Rel.sl {ι : Nat → Nat} {F hd P G : Nat} {z : Nat → Nat} {L X E : Nat → Prop} {σ μ : pw_S} (h : Rel ι F hd P G z L X E σ μ) : ∀ i, i < 24 → (gr σ 9 i = none ∧ gi μ 4 i = -1) ∨ ∃ d, gr σ 9 i = some (ky d) ∧ L d ∧ gi μ 4 i = nI (ι d) ∧ gi σ (ky d) 4 = nI i := h.2.2.2.2.2.2.2.2.2.2.2.2.2.2.2.2.2.2.2.2.2.1
theorem Rel.nn {ι : Nat → Nat} {F hd P G : Nat} {z : Nat → Nat} {L X E : Nat → Prop} {σ μ : pw_S} (h : Rel ι F hd P G z L X E σ μ) : ∀ d, L d → 2 * d + 13 < gN σ ∧ ι d < 200 := h.2.2.2.2.2.2.2.2.2.2.2.2.2.2.2.2.2.2.2.2.2.2.1
theorem Rel.df {ι : Nat → Nat} {F hd P G : Nat} {z : Nat → Nat} {L X E : Nat → Prop} {σ μ : pw_S} (h : Rel ι F hd P G z L X E σ μ) : ∀ d, L d → gi σ (ky d) 3 = -1 ∨ ∃ f, f < F ∧ gi σ (ky d) 3 = nI f ∧ gr σ 5 f = some (ky d) := h.2.2.2.2.2.2.2.2.2.2.2.2.2.2.2.2.2.2.2.2.2.2.2.1
theorem Rel.ds {ι : Nat → Nat} {F hd P G : Nat} {z : Nat → Nat} {L X E : Nat → Prop} {σ μ : pw_S} (h : Rel ι F hd P G z L X E σ μ) : ∀ d, L d → gi σ (ky d) 4 = -1 ∨ ∃ i, i < 24 ∧ gi σ (ky d) 4 = nI i ∧ gr σ 9 i = some (ky d) := h.2.2.2.2.2.2.2.2.2.2.2.2.2.2.2.2.2.2.2.2.2.2.2.2.1
theorem Rel.ij {ι : Nat → Nat} {F hd P G : Nat} {z : Nat → Nat} {L X E : Nat → Prop} {σ μ : pw_S} (h : Rel ι F hd P G z L X E σ μ) : ∀ d d', L d → L d' → ι d = ι d' → d = d' := h.2.2.2.2.2.2.2.2.2.2.2.2.2.2.2.2.2.2.2.2.2.2.2.2.2.1
theorem Rel.th {ι : Nat → Nat} {F hd P G : Nat} {z : Nat → Nat} {L X E : Nat → Prop} {σ μ : pw_S} (h : Rel ι F hd P G z L X E σ μ) : ∀ n, n < 200 → (gi μ 5 n = 1 ∧ ∃ d, L d ∧ ι d = n) ∨ (gi μ 5 n = 0 ∧ ∀ d, L d → ι d ≠ n) := h.2.2.2.2.2.2.2.2.2.2.2.2.2.2.2.2.2.2.2.2.2.2.2.2.2.2.1
theorem Rel.di {ι : Nat → Nat} {F hd P G : Nat} {z : Nat → Nat} {L X E : Nat → Prop} {σ μ : pw_S} (h : Rel ι F hd P G z L X E σ μ) : ∀ d, L d → (gi σ (ky d) 5 = 1 ∧ gi μ 6 (ι d) = 1 ∧ gi σ (ky d) 4 = -1 ∧ gi σ (ky d) 3 ≠ -1) ∨ (gi σ (ky d) 5 = 0 ∧ (gi μ 6 (ι d) = 0 ∨ (gi μ 6 (ι d) = 1 ∧ gi σ (ky d) 4 ≠ -1))) := h.2.2.2.2.2.2.2.2.2.2.2.2.2.2.2.2.2.2.2.2.2.2.2.2.2.2.2.1
theorem Rel.wd {ι : Nat → Nat} {F hd P G : Nat} {z : Nat → Nat} {L X E : Nat → Prop} {σ μ : pw_S} (h : Rel ι F hd P G z L X E σ μ) : ∀ d, L d → ∀ i, i < 4 → gi σ (ky d + 1) i = gi μ 7 (4 * ι d + i) := h.2.2.2.2.2.2.2.2.2.2.2.2.2.2.2.2.2.2.2.2.2.2.2.2.2.2.2.2.1
theorem Rel.cn {ι : Nat → Nat} {F hd P G : Nat} {z : Nat → Nat} {L X E : Nat → Prop} {σ μ : pw_S} (h : Rel ι F hd P G z L X E σ μ) : ∀ d, L d → gi σ (ky d) 6 = nI (cntN (fun k => gr σ 1 k == some (ky d)) 0 160) := h.2.2.2.2.2.2.2.2.2.2.2.2.2.2.2.2.2.2.2.2.2.2.2.2.2.2.2.2.2.1
theorem Rel.sd {ι : Nat → Nat} {F hd P G : Nat} {z : Nat → Nat} {L X E : Nat → Prop} {σ μ : pw_S} (h : Rel ι F hd P G z L X E σ μ) : ∀ d, L d → (gi σ (ky d) 1 = 0 ∧ ∀ k, k < 24 → gr σ 3 k ≠ some (ky d)) ∨ (gi σ (ky d) 1 = 1 ∧ (X d ∨ ∃ k, k < 24 ∧ gr σ 3 k = some (ky d))) := h.2.2.2.2.2.2.2.2.2.2.2.2.2.2.2.2.2.2.2.2.2.2.2.2.2.2.2.2.2.2.1
theorem Rel.pn {ι : Nat → Nat} {F hd P G : Nat} {z : Nat → Nat} {L X E : Nat → Prop} {σ μ : pw_S} (h : Rel ι F hd P G z L X E σ μ) : ∀ d k k', k < 160 → k' < 160 → gr σ 1 k = some (ky d) → gr σ 1 k' = some (ky d) → gi σ (ky d) 1 = 0 → k % 16 = k' % 16 := h.2.2.2.2.2.2.2.2.2.2.2.2.2.2.2.2.2.2.2.2.2.2.2.2.2.2.2.2.2.2.2.1
theorem Rel.n2 {ι : Nat → Nat} {F hd P G : Nat} {z : Nat → Nat} {L X E : Nat → Prop} {σ μ : pw_S} (h : Rel ι F hd P G z L X E σ μ) : gN σ % 2 = 0 ∧ 12 ≤ gN σ ∧ ∀ k j q, gr σ k j = some q → q < gN σ := h.2.2.2.2.2.2.2.2.2.2.2.2.2.2.2.2.2.2.2.2.2.2.2.2.2.2.2.2.2.2.2.2.1
theorem Rel.xx {ι : Nat → Nat} {F hd P G : Nat} {z : Nat → Nat} {L X E : Nat → Prop} {σ μ : pw_S} (h : Rel ι F hd P G z L X E σ μ) : ∀ d, L d → X d ∨ (∃ k, k < 160 ∧ gr σ 1 k = some (ky d)) ∨ gi σ (ky d) 1 = 1 := h.2.2.2.2.2.2.2.2.2.2.2.2.2.2.2.2.2.2.2.2.2.2.2.2.2.2.2.2.2.2.2.2.2
theorem Rel.mk' {ι : Nat → Nat} {F hd P G : Nat} {z : Nat → Nat} {L X E : Nat → Prop} {σ μ : pw_S} (tm : gi σ 0 10 = gi μ 0 1) (wn : gi σ 0 9 = gi μ 0 2) (fa : gi σ 4 3 = nI F) (fb : gi μ 0 3 = nI F) (f4 : 4 ≤ F) (f12 : F ≤ 12) (ha : gi σ 4 4 = nI hd) (hb : gi μ 0 4 = nI hd) (hh : hd < F) (pa : gi σ 0 7 = nI P) (pb : gi μ 0 12 = nI P) (pp : P ≤ 10) (ga : gi σ 0 8 = nI G) (gb : gi μ 0 16 = nI G) (gg : G ≤ 4) (cs : ∀ i, i < 6 → gi σ 11 i = gi μ 13 i) (lv : ∀ i, i < 10 → E i ∨ (gi σ 2 i = gi μ 8 i ∧ (gi μ 8 i = 0 ∨ gi μ 8 i = 1))) (pg : ∀ k, k < 160 → (gr σ 1 k = none ∧ gi μ 9 k = 0) ∨ ∃ d, gr σ 1 k = some (ky d) ∧ L d ∧ gi μ 10 k = nI (ι d) ∧ gi μ 9 k = (if gi σ (ky d) 1 = 0 then 1 else 2) ∧ k < 16 * P) (sg : ∀ k, k < 24 → (gr σ 3 k = none ∧ z (k / 6) ≤ k % 6) ∨ ∃ d, gr σ 3 k = some (ky d) ∧ L d ∧ gi μ 12 k = nI (ι d) ∧ gi σ (ky d) 1 = 1 ∧ gi σ (ky d) 2 = nI k ∧ k % 6 < z (k / 6)) (sz : ∀ i, i < G → gi μ 11 i = nI (z i) ∧ 1 ≤ z i ∧ z i ≤ 6) (fr : ∀ f, f < 12 → (gr σ 5 f = none ∧ gi μ 1 f = -1 ∧ gi σ 6 f = -1 ∧ gi σ 7 f = 0) ∨ ∃ d, gr σ 5 f = some (ky d) ∧ f < F ∧ L d ∧ gi μ 1 f = nI (ι d) ∧ gi σ (ky d) 3 = nI f ∧ gi μ 2 f = gi σ 6 f ∧ gi μ 3 f = gi σ 7 f ∧ (gi σ 7 f = 0 ∨ gi σ 7 f = 1)) (sl : ∀ i, i < 24 → (gr σ 9 i = none ∧ gi μ 4 i = -1) ∨ ∃ d, gr σ 9 i = some (ky d) ∧ L d ∧ gi μ 4 i = nI (ι d) ∧ gi σ (ky d) 4 = nI i) (nn : ∀ d, L d → 2 * d + 13 < gN σ ∧ ι d < 200) (df : ∀ d, L d → gi σ (ky d) 3 = -1 ∨ ∃ f, f < F ∧ gi σ (ky d) 3 = nI f ∧ gr σ 5 f = some (ky d)) (ds : ∀ d, L d → gi σ (ky d) 4 = -1 ∨ ∃ i, i < 24 ∧ gi σ (ky d) 4 = nI i ∧ gr σ 9 i = some (ky d)) (ij : ∀ d d', L d → L d' → ι d = ι d' → d = d') (th : ∀ n, n < 200 → (gi μ 5 n = 1 ∧ ∃ d, L d ∧ ι d = n) ∨ (gi μ 5 n = 0 ∧ ∀ d, L d → ι d ≠ n)) (di : ∀ d, L d → (gi σ (ky d) 5 = 1 ∧ gi μ 6 (ι d) = 1 ∧ gi σ (ky d) 4 = -1 ∧ gi σ (ky d) 3 ≠ -1) ∨ (gi σ (ky d) 5 = 0 ∧ (gi μ 6 (ι d) = 0 ∨ (gi μ 6 (ι d) = 1 ∧ gi σ (ky d) 4 ≠ -1)))) (wd : ∀ d, L d → ∀ i, i < 4 → gi σ (ky d + 1) i = gi μ 7 (4 * ι d + i)) (cn : ∀ d, L d → gi σ (ky d) 6 = nI (cntN (fun k => gr σ 1 k == some (ky d)) 0 160)) (sd : ∀ d, L d → (gi σ (ky d) 1 = 0 ∧ ∀ k, k < 24 → gr σ 3 k ≠ some (ky d)) ∨ (gi σ (ky d) 1 = 1 ∧ (X d ∨ ∃ k, k < 24 ∧ gr σ 3 k = some (ky d)))) (pn : ∀ d k k', k < 160 → k' < 160 → gr σ 1 k = some (ky d) → gr σ 1 k' = some (ky d) → gi σ (ky d) 1 = 0 → k % 16 = k' % 16) (n2 : gN σ % 2 = 0 ∧ 12 ≤ gN σ ∧ ∀ k j q, gr σ k j = some q → q < gN σ) (xx : ∀ d, L d → X d ∨ (∃ k, k < 160 ∧ gr σ 1 k = some (ky d)) ∨ gi σ (ky d) 1 = 1) : Rel ι F hd P G z L X E σ μ := ⟨tm, wn, fa, fb, f4, f12, ha, hb, hh, pa, pb, pp, ga, gb, gg, cs, lv, pg, sg, sz, fr, sl, nn, df, ds, ij, th, di, wd, cn, sd, pn, n2, xx⟩
abbrev X0 : Nat → Prop := fun _ => False
def RRl (σ μ : pw_S) : Prop := ∃ ι F hd P G z L, Rel ι F hd P G z L X0 X0 σ μ ∧ ∀ i, G ≤ i → z i = 0
