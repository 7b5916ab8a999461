/-! what a room is; what the giving of frames and slots keeps -/
theorem room_spec {σ : pw_S} {a : Nat} (h1 : 1 ≤ a) (h4 : a ≤ 4) : ∃ o, fX2_roomFor (nI a) σ = some (o, σ) ∧ ((o = -1 ∧ (a = 1 → ∀ t, t < 24 → gr σ 9 t ≠ none)) ∨ ∃ i, o = nI i ∧ i + a ≤ 24 ∧ ∀ t, t < a → gr σ 9 (i + t) = none) := by
  have key : ∀ m j n r, j + m = 24 → m < n → r ≤ j → r < a → (∀ t, j - r ≤ t → t < j → gr σ 9 t = none) → (a = 1 → ∀ t, t < j → gr σ 9 t ≠ none) → ∃ o, fX2_roomFor_4 n (nI a) (nI r) (nI j) σ = some (o, σ) ∧ ((o = -1 ∧ (a = 1 → ∀ t, t < 24 → gr σ 9 t ≠ none)) ∨ ∃ i, o = nI i ∧ i + a ≤ 24 ∧ ∀ t, t < a → gr σ 9 (i + t) = none) := by
    intro m
    induction m with
    | zero =>
      intro j n r e hn hr ha hf h1'
      obtain ⟨n, rfl⟩ : ∃ n', n = n' + 1 := ⟨n - 1, by omega⟩
      obtain rfl : j = 24 := by omega
      refine ⟨-1, ?_, Or.inl ⟨rfl, h1'⟩⟩
      show fX2_roomFor_4_b (fX2_roomFor_4 n) (nI a) (nI r) (nI 24) σ = _
      unfold fX2_roomFor_4_b
      rw [if_pos (by rw [le24] <;> omega)]
    | succ m ih =>
      intro j n r e hn hr ha hf h1'
      obtain ⟨n, rfl⟩ : ∃ n', n = n' + 1 := ⟨n - 1, by omega⟩
      have e1 : fX2_roomFor_4 (n + 1) (nI a) (nI r) (nI j) σ = oc (gr σ 9 j) (fX2_roomFor_26 (fX2_roomFor_4 n) (nI a) (nI j) (nI (r + 1)) σ) (fun _ => fX2_roomFor_26 (fX2_roomFor_4 n) (nI a) (nI j) (nI 0) σ) := by
        show fX2_roomFor_4_b (fX2_roomFor_4 n) (nI a) (nI r) (nI j) σ = _
        unfold fX2_roomFor_4_b
        rw [if_neg (by rw [le24] <;> omega), ze_ck (ze_inb (by omega) (by omega)), ze_c (by omega), ze_ld, nI_1]
        rfl
      rw [e1]
      unfold fX2_roomFor_26
      cases hg : gr σ 9 j with
      | none =>
        rw [ze_ocn]
        by_cases q : r + 1 = a
        · refine ⟨nI (j - r), ?_, Or.inr ⟨j - r, rfl, by omega, fun t ht => ?_⟩⟩
          · rw [q, if_pos rfl]
            have : nI j - nI a + 1 = nI (j - r) := by
              by_cases q3 : a ≤ j
              · rw [show nI j = nI (j - a) + nI a by rw [nI_add]; congr 1; omega, Int32.add_sub_cancel, nI_1]
                congr 1
                omega
              · obtain rfl : r = j := by omega
                subst q
                match r, h4 with
                | 0, _ => decide
                | 1, _ => decide
                | 2, _ => decide
                | 3, _ => decide
            rw [this]
          · by_cases q2 : j - r + t = j
            · rw [q2]; exact hg
            · exact hf _ (by omega) (by omega)
        · rw [if_neg (by rw [nI_eq (by omega) (by omega)]; exact q), nI_1]
          refine ih (j + 1) n (r + 1) (by omega) (by omega) (by omega) (by omega) (fun t q1 q2 => ?_) (fun q' => ?_)
          · by_cases q3 : t = j
            · rw [q3]; exact hg
            · exact hf t (by omega) (by omega)
          · omega
      | some q =>
        rw [ze_ocs, if_neg (by rw [nI_eq (by omega) (by omega)]; omega), nI_1]
        refine ih (j + 1) n 0 (by omega) (by omega) (by omega) (by omega) (fun t q1 q2 => by omega) (fun q' t ht => ?_)
        by_cases q3 : t = j
        · rw [q3, hg]; simp
        · exact h1' q' t (by omega)
  exact key 24 0 1000 0 (by omega) (by omega) (by omega) (by omega) (fun t _ q => by omega) (fun _ t q => by omega)
def Keep (σ μ σ' μ' : pw_S) : Prop := gN σ' = gN σ ∧ (∀ k, gr σ' 1 k = gr σ 1 k) ∧ (∀ k, gr σ' 3 k = gr σ 3 k) ∧ (∀ j, gi σ' 0 j = gi σ 0 j) ∧ (∀ x, gi σ' (ky x) 1 = gi σ (ky x) 1) ∧ (∀ x, gi σ' (ky x) 6 = gi σ (ky x) 6) ∧ (∀ x i, gi σ' (ky x + 1) i = gi σ (ky x + 1) i) ∧ (∀ j, j ≠ 4 → gi μ' 0 j = gi μ 0 j) ∧ (∀ k, gi μ' 9 k = gi μ 9 k) ∧ (∀ k, gi μ' 10 k = gi μ 10 k) ∧ (∀ k, gi μ' 7 k = gi μ 7 k) ∧ (∀ x, gi σ (ky x) 5 = 0 → gi σ' (ky x) 5 = 0 ∧ gi σ' (ky x) 4 = gi σ (ky x) 4)
theorem Keep.rfl' (σ μ : pw_S) : Keep σ μ σ μ := ⟨rfl, fun _ => rfl, fun _ => rfl, fun _ => rfl, fun _ => rfl, fun _ => rfl, fun _ _ => rfl, fun _ _ => rfl, fun _ => rfl, fun _ => rfl, fun _ => rfl, fun _ h => ⟨h, rfl⟩⟩
theorem Keep.trans {σ μ σ1 μ1 σ2 μ2 : pw_S} (h : Keep σ μ σ1 μ1) (k : Keep σ1 μ1 σ2 μ2) : Keep σ μ σ2 μ2 := by
  obtain ⟨a1, a2, a3, a4, a5, a6, a7, a8, a9, a10, a11, a12⟩ := h
  obtain ⟨b1, b2, b3, b4, b5, b6, b7, b8, b9, b10, b11, b12⟩ := k
  exact ⟨b1.trans a1, fun x => (b2 x).trans (a2 x), fun x => (b3 x).trans (a3 x), fun x => (b4 x).trans (a4 x), fun x => (b5 x).trans (a5 x), fun x => (b6 x).trans (a6 x), fun x i => (b7 x i).trans (a7 x i), fun x q => (b8 x q).trans (a8 x q), fun x => (b9 x).trans (a9 x), fun x => (b10 x).trans (a10 x), fun x => (b11 x).trans (a11 x), fun x q => ⟨(b12 x (a12 x q).1).1, ((b12 x (a12 x q).1).2).trans (a12 x q).2⟩⟩
def KeepF (σ σ' : pw_S) : Prop := (∀ f, gr σ' 5 f = gr σ 5 f) ∧ (∀ f, gi σ' 6 f = gi σ 6 f) ∧ (∀ f, gi σ' 7 f = gi σ 7 f) ∧ (∀ x, gi σ' (ky x) 3 = gi σ (ky x) 3) ∧ gi σ' 4 3 = gi σ 4 3 ∧ gi σ' 4 4 = gi σ 4 4
theorem KeepF.trans {σ σ1 σ2 : pw_S} (h : KeepF σ σ1) (k : KeepF σ1 σ2) : KeepF σ σ2 := by
  obtain ⟨a1, a2, a3, a4, a5, a6⟩ := h
  obtain ⟨b1, b2, b3, b4, b5, b6⟩ := k
  exact ⟨fun x => (b1 x).trans (a1 x), fun x => (b2 x).trans (a2 x), fun x => (b3 x).trans (a3 x), fun x => (b4 x).trans (a4 x), b5.trans a5, b6.trans a6⟩
