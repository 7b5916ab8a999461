/-! THE QUESTIONS that both ask, in closed form -/
theorem le24 {j : Nat} (h : j < 2 ^ 31) : (24 : Int32) ≤ nI j ↔ 24 ≤ j := nI_leI (a := 24) (by omega) h
theorem le16 {j : Nat} (h : j < 2 ^ 31) : (16 : Int32) ≤ nI j ↔ 16 ≤ j := nI_leI (a := 16) (by omega) h
theorem le6 {j : Nat} (h : j < 2 ^ 31) : (6 : Int32) ≤ nI j ↔ 6 ≤ j := nI_leI (a := 6) (by omega) h
theorem le4 {j : Nat} (h : j < 2 ^ 31) : (4 : Int32) ≤ nI j ↔ 4 ≤ j := nI_leI (a := 4) (by omega) h
theorem m16a (a b : Nat) : nI a * 16 + nI b = nI (16 * a + b) := by rw [show (16 : Int32) = nI 16 from rfl, ze_mul, nI_add, Nat.mul_comm a 16]
theorem m16b (a b : Nat) : 16 * nI a + nI b = nI (16 * a + b) := by rw [show (16 : Int32) = nI 16 from rfl, ze_mul, nI_add]
theorem m16c (a : Nat) : 16 * nI a = nI (16 * a) := by rw [show (16 : Int32) = nI 16 from rfl, ze_mul]
theorem m6a (a b : Nat) : nI a * 6 + nI b = nI (6 * a + b) := by rw [show (6 : Int32) = nI 6 from rfl, ze_mul, nI_add, Nat.mul_comm a 6]
theorem m6b (a b : Nat) : 6 * nI a + nI b = nI (6 * a + b) := by rw [show (6 : Int32) = nI 6 from rfl, ze_mul, nI_add]
theorem m4b (a b : Nat) : 4 * nI a + nI b = nI (4 * a + b) := by rw [show (4 : Int32) = nI 4 from rfl, ze_mul, nI_add]
theorem loop_foldI {S α : Type} (L : Nat → S → Nat → Option α) (N : Nat) (st : S → Nat → S) (ex : S → Option α) (I : Nat → S → Prop) (hs : ∀ n s j, j < N → I j s → L (n + 1) s j = L n (st s j) (j + 1) ∧ I (j + 1) (st s j)) (he : ∀ n s, I N s → L (n + 1) s N = ex s) : ∀ m j n s, j + m = N → m < n → I j s → L n s j = ex (foldN st s j m) := by
  intro m
  induction m with
  | zero =>
    intro j n s e hn hI
    obtain ⟨n, rfl⟩ : ∃ n', n = n' + 1 := ⟨n - 1, by omega⟩
    obtain rfl : j = N := by omega
    exact he n s hI
  | succ m ih =>
    intro j n s e hn hI
    obtain ⟨n, rfl⟩ : ∃ n', n = n' + 1 := ⟨n - 1, by omega⟩
    obtain ⟨h1, h2⟩ := hs n s j (by omega) hI
    rw [h1, ih (j + 1) n _ (by omega) (by omega) h2]
    rfl
section Q
variable {σ μ : pw_S}
theorem q_frameWith {F : Nat} (hF : gi μ 0 3 = nI F) (h12 : F ≤ 12) (c : Int32) : fX4_frameWith c μ = some (fstI (fun f => gi μ 1 f == c) 0 F, μ) := by
  refine loop_fst (fun n j => fX4_frameWith_2 n c (nI j) μ) F (fun f => gi μ 1 f == c) (fun r => some (r, μ)) ?_ ?_ F 0 1000 (by omega) (by omega)
  · intro n j hj
    show fX4_frameWith_2_b (fX4_frameWith_2 n) c (nI j) μ = _
    unfold fX4_frameWith_2_b
    rw [hF, if_neg (by rw [nI_leI] <;> omega), ze_ck (ze_inb (by omega) (by omega)), ze_c (by omega), nI_1]
    simp only [beq_iff_eq]
  · intro n
    show fX4_frameWith_2_b (fX4_frameWith_2 n) c (nI F) μ = _
    unfold fX4_frameWith_2_b
    rw [hF, if_pos (by rw [nI_leI] <;> omega)]
theorem q_slotWith (c : Int32) : fX4_slotWith c μ = some (fstI (fun f => gi μ 4 f == c) 0 24, μ) := by
  refine loop_fst (fun n j => fX4_slotWith_2 n c (nI j) μ) 24 (fun f => gi μ 4 f == c) (fun r => some (r, μ)) ?_ ?_ 24 0 1000 (by omega) (by omega)
  · intro n j hj
    show fX4_slotWith_2_b (fX4_slotWith_2 n) c (nI j) μ = _
    unfold fX4_slotWith_2_b
    rw [if_neg (by rw [le24] <;> omega), ze_ck (ze_inb (by omega) (by omega)), ze_c (by omega), nI_1]
    simp only [beq_iff_eq]
  · intro n
    show fX4_slotWith_2_b (fX4_slotWith_2 n) c (nI 24) μ = _
    unfold fX4_slotWith_2_b
    rw [if_pos (by rw [le24] <;> omega)]
theorem q_smallestFree {F : Nat} (hF : gi σ 4 3 = nI F) (h12 : F ≤ 12) : fX1_smallestFree σ = some (fstI (fun f => (gr σ 5 f).isNone) 0 F, σ) := by
  refine loop_fst (fun n j => fX1_smallestFree_2 n (nI j) σ) F (fun f => (gr σ 5 f).isNone) (fun r => some (r, σ)) ?_ ?_ F 0 1000 (by omega) (by omega)
  · intro n j hj
    show fX1_smallestFree_2_b (fX1_smallestFree_2 n) (nI j) σ = _
    unfold fX1_smallestFree_2_b
    rw [hF, if_neg (by rw [nI_leI] <;> omega), ze_ck (ze_inb (by omega) (by omega)), ze_c (by omega), nI_1, ze_ld]
    cases gr σ 5 j with
    | none => rfl
    | some q => rfl
  · intro n
    show fX1_smallestFree_2_b (fX1_smallestFree_2 n) (nI F) σ = _
    unfold fX1_smallestFree_2_b
    rw [hF, if_pos (by rw [nI_leI] <;> omega)]
theorem q_freeCount {F : Nat} (hF : gi σ 4 3 = nI F) (h12 : F ≤ 12) : fX1_freeCount σ = some (nI (cntN (fun f => (gr σ 5 f).isNone) 0 F), σ) := by
  have := loop_fold (fun n s j => fX1_freeCount_4 n s (nI j) σ) F (fun s j => s + (if (gr σ 5 j).isNone = true then 1 else 0)) (fun s => some (s, σ)) ?_ ?_ F 0 1000 (nI 0) (by omega) (by omega)
  · rw [foldN_cnt (P := fun f => (gr σ 5 f).isNone) F 0 0 (fun i s _ _ => rfl), Nat.zero_add] at this
    exact this
  · intro n s j hj
    show fX1_freeCount_4_b (fX1_freeCount_4 n) s (nI j) σ = fX1_freeCount_4 n _ (nI (j + 1)) σ
    unfold fX1_freeCount_4_b fX1_freeCount_24
    rw [hF, if_neg (by rw [nI_leI] <;> omega), ze_ck (ze_inb (by omega) (by omega)), ze_c (by omega), nI_1, ze_ld]
    cases gr σ 5 j with
    | none => rfl
    | some q => rw [ze_ocs]; simp
  · intro n s
    show fX1_freeCount_4_b (fX1_freeCount_4 n) s (nI F) σ = _
    unfold fX1_freeCount_4_b
    rw [hF, if_pos (by rw [nI_leI] <;> omega)]
theorem q_freeSlots : fX2_freeCount σ = some (nI (cntN (fun f => (gr σ 9 f).isNone) 0 24), σ) := by
  have := loop_fold (fun n s j => fX2_freeCount_4 n s (nI j) σ) 24 (fun s j => s + (if (gr σ 9 j).isNone = true then 1 else 0)) (fun s => some (s, σ)) ?_ ?_ 24 0 1000 (nI 0) (by omega) (by omega)
  · rw [foldN_cnt (P := fun f => (gr σ 9 f).isNone) 24 0 0 (fun i s _ _ => rfl), Nat.zero_add] at this
    exact this
  · intro n s j hj
    show fX2_freeCount_4_b (fX2_freeCount_4 n) s (nI j) σ = fX2_freeCount_4 n _ (nI (j + 1)) σ
    unfold fX2_freeCount_4_b fX2_freeCount_22
    rw [if_neg (by rw [le24] <;> omega), ze_ck (ze_inb (by omega) (by omega)), ze_c (by omega), nI_1, ze_ld]
    cases gr σ 9 j with
    | none => rfl
    | some q => rw [ze_ocs]; simp
  · intro n s
    show fX2_freeCount_4_b (fX2_freeCount_4 n) s (nI 24) σ = _
    unfold fX2_freeCount_4_b
    rw [if_pos (by rw [le24] <;> omega)]
theorem q_slotsLeft : fX4_slotsLeft μ = some (nI (cntN (fun f => gi μ 4 f == -1) 0 24), μ) := by
  have := loop_fold (fun n s j => fX4_slotsLeft_4 n s (nI j) μ) 24 (fun s j => s + (if (gi μ 4 j == -1) = true then 1 else 0)) (fun s => some (s, μ)) ?_ ?_ 24 0 1000 (nI 0) (by omega) (by omega)
  · rw [foldN_cnt (P := fun f => gi μ 4 f == -1) 24 0 0 (fun i s _ _ => rfl), Nat.zero_add] at this
    exact this
  · intro n s j hj
    show fX4_slotsLeft_4_b (fX4_slotsLeft_4 n) s (nI j) μ = fX4_slotsLeft_4 n _ (nI (j + 1)) μ
    unfold fX4_slotsLeft_4_b fX4_slotsLeft_26
    rw [if_neg (by rw [le24] <;> omega), ze_ck (ze_inb (by omega) (by omega)), ze_c (by omega), nI_1]
    by_cases h : gi μ 4 j = -1
    · rw [if_pos h]; simp [h]
    · rw [if_neg h]; simp [h]
  · intro n s
    show fX4_slotsLeft_4_b (fX4_slotsLeft_4 n) s (nI 24) μ = _
    unfold fX4_slotsLeft_4_b
    rw [if_pos (by rw [le24] <;> omega)]
theorem q_used {F : Nat} (hF : gi μ 0 3 = nI F) (h12 : F ≤ 12) : fX4_used μ = some (nI (cntN (fun f => !(gi μ 1 f == -1)) 0 F), μ) := by
  have := loop_fold (fun n s j => fX4_used_4 n s (nI j) μ) F (fun s j => s + (if (!(gi μ 1 j == -1)) = true then 1 else 0)) (fun s => some (s, μ)) ?_ ?_ F 0 1000 (nI 0) (by omega) (by omega)
  · rw [foldN_cnt (P := fun f => !(gi μ 1 f == -1)) F 0 0 (fun i s _ _ => rfl), Nat.zero_add] at this
    exact this
  · intro n s j hj
    show fX4_used_4_b (fX4_used_4 n) s (nI j) μ = fX4_used_4 n _ (nI (j + 1)) μ
    unfold fX4_used_4_b fX4_used_28
    rw [hF, if_neg (by rw [nI_leI] <;> omega), ze_ck (ze_inb (by omega) (by omega)), ze_c (by omega), nI_1]
    by_cases h : gi μ 1 j = -1
    · rw [if_pos h]; simp [h]
    · rw [if_neg h]; simp [h]
  · intro n s
    show fX4_used_4_b (fX4_used_4 n) s (nI F) μ = _
    unfold fX4_used_4_b
    rw [hF, if_pos (by rw [nI_leI] <;> omega)]
theorem q_refs {P : Nat} (hP : gi μ 0 12 = nI P) (h10 : P ≤ 10) (c : Int32) : fX4_references c μ = some (nI (cntN (fun k => decide (¬ gi μ 9 k ≤ 0) && (gi μ 10 k == c)) 0 (16 * P)), μ) := by
  have := loop_fold (fun n s j => fX4_references_4 n c s (nI j) μ) (16 * P) (fun s k => s + (if (decide (¬ gi μ 9 k ≤ 0) && (gi μ 10 k == c)) = true then 1 else 0)) (fun s => some (s, μ)) ?_ ?_ (16 * P) 0 1000 (nI 0) (by omega) (by omega)
  · rw [foldN_cnt (P := fun k => decide (¬ gi μ 9 k ≤ 0) && (gi μ 10 k == c)) (16 * P) 0 0 (fun i s _ _ => rfl), Nat.zero_add] at this
    exact this
  · intro n s j hj
    show fX4_references_4_b (fX4_references_4 n) c s (nI j) μ = fX4_references_4 n c _ (nI (j + 1)) μ
    unfold fX4_references_4_b fX4_references_39 fX4_references_40
    rw [hP, m16c, if_neg (by rw [nI_leI] <;> omega), ze_ck (ze_inb (by omega) (by omega)), ze_ck (ze_inb (by omega) (by omega)), ze_c (by omega), nI_1]
    by_cases h : gi μ 9 j ≤ 0
    · rw [if_pos h]; simp [h]
    · rw [if_neg h]
      by_cases h2 : gi μ 10 j = c
      · rw [if_pos h2]; simp [h, h2]
      · rw [if_neg h2]; simp [h, h2]
  · intro n s
    show fX4_references_4_b (fX4_references_4 n) c s (nI (16 * P)) μ = _
    unfold fX4_references_4_b
    rw [hP, m16c, if_pos (by rw [nI_leI] <;> omega)]
theorem q_mapped {p : Nat} (hp : p < 10) : fX4_mapped (nI p) μ = some (nI (cntN (fun k => decide (¬ gi μ 9 (16 * p + k) ≤ 0)) 0 16), μ) := by
  have := loop_fold (fun n s j => fX4_mapped_4 n (nI p) s (nI j) μ) 16 (fun s k => s + (if (decide (¬ gi μ 9 (16 * p + k) ≤ 0)) = true then 1 else 0)) (fun s => some (s, μ)) ?_ ?_ 16 0 1000 (nI 0) (by omega) (by omega)
  · rw [foldN_cnt (P := fun k => decide (¬ gi μ 9 (16 * p + k) ≤ 0)) 16 0 0 (fun i s _ _ => rfl), Nat.zero_add] at this
    exact this
  · intro n s j hj
    show fX4_mapped_4_b (fX4_mapped_4 n) (nI p) s (nI j) μ = fX4_mapped_4 n (nI p) _ (nI (j + 1)) μ
    unfold fX4_mapped_4_b fX4_mapped_29 fX4_at
    rw [if_neg (by rw [le16] <;> omega), ze_bnd, m16b, ze_ck (ze_inb (by omega) (by omega)), ze_c (by omega), nI_1]
    by_cases h : gi μ 9 (16 * p + j) ≤ 0
    · rw [if_pos h]; simp [h]
    · rw [if_neg h]; simp [h]
  · intro n s
    show fX4_mapped_4_b (fX4_mapped_4 n) (nI p) s (nI 16) μ = _
    unfold fX4_mapped_4_b
    rw [if_pos (by rw [le16] <;> omega)]
theorem q_mappedPages {p : Nat} (hp : p < 10) : fX3_mappedPages (nI p) σ = some (nI (cntN (fun k => (gr σ 1 (16 * p + k)).isSome) 0 16), σ) := by
  have := loop_fold (fun n s j => fX3_mappedPages_4 n (nI p) s (nI j) σ) 16 (fun s k => s + (if ((gr σ 1 (16 * p + k)).isSome) = true then 1 else 0)) (fun s => some (s, σ)) ?_ ?_ 16 0 1000 (nI 0) (by omega) (by omega)
  · rw [foldN_cnt (P := fun k => (gr σ 1 (16 * p + k)).isSome) 16 0 0 (fun i s _ _ => rfl), Nat.zero_add] at this
    exact this
  · intro n s j hj
    show fX3_mappedPages_4_b (fX3_mappedPages_4 n) (nI p) s (nI j) σ = fX3_mappedPages_4 n (nI p) _ (nI (j + 1)) σ
    unfold fX3_mappedPages_4_b fX3_mappedPages_26 fX3_placeOf
    rw [if_neg (by rw [le16] <;> omega), ze_bnd, m16a, ze_ck (ze_inb (by omega) (by omega)), ze_c (by omega), nI_1, ze_ld]
    cases gr σ 1 (16 * p + j) with
    | none => rw [ze_ocn]; simp
    | some q => rw [ze_ocs]; simp
  · intro n s
    show fX3_mappedPages_4_b (fX3_mappedPages_4 n) (nI p) s (nI 16) σ = _
    unfold fX3_mappedPages_4_b
    rw [if_pos (by rw [le16] <;> omega)]
theorem q_firstPage {q : Nat} (hq : okc σ q = true) (hN : ∀ k j q, gr σ k j = some q → q < gN σ) : fX3_firstPageOf q σ = some (if fstI (fun k => gr σ 1 k == some q) 0 160 = -1 then nI 160 else fstI (fun k => gr σ 1 k == some q) 0 160, σ) := by
  have := loop_fst (fun n j => fX3_firstPageOf_2 n q (nI j) σ) 160 (fun k => gr σ 1 k == some q) (fun r => some (if r = -1 then nI 160 else r, σ)) ?_ ?_ 160 0 1000 (by omega) (by omega)
  · exact this
  · intro n j hj
    show fX3_firstPageOf_2_b (fX3_firstPageOf_2 n) q (nI j) σ = _
    unfold fX3_firstPageOf_2_b
    rw [if_neg (by rw [nI_leI] <;> omega), ze_ck (ze_inb (by omega) (by omega)), ze_c (by omega), nI_1, ze_ld, ze_ck hq, ze_ck, if_neg (ze_nm (by omega))]
    · simp only [beq_iff_eq]
    · cases hg : gr σ 1 j with
      | none => rfl
      | some q' => exact decide_eq_true (hN _ _ _ hg)
  · intro n
    show fX3_firstPageOf_2_b (fX3_firstPageOf_2 n) q (nI 160) σ = _
    unfold fX3_firstPageOf_2_b
    rw [if_pos (by rw [nI_leI] <;> omega)]
    rfl
end Q
