/-! A FRAME IS FREED alike: the clock, the oldest clean one, the oldest -/
def nxF (F f : Nat) : Nat := if f + 1 < F then f + 1 else 0
theorem nxF_lt {F f : Nat} (h : 0 < F) : nxF F f < F := by unfold nxF; split <;> omega
theorem nxF_mod {F f : Nat} (h : f < F) : (f + 1) % F = nxF F f := by
  unfold nxF
  split
  · exact Nat.mod_eq_of_lt (by assumption)
  · rw [show f + 1 = F by omega, Nat.mod_self]
def mnS (P : Nat → Bool) (u : Nat → Int32) (b : Int32) (j : Nat) : Int32 := if P j = true ∧ (b = -1 ∨ ¬ u b.toNatClampNeg ≤ u j) then nI j else b
theorem mnS_or {P : Nat → Bool} {u : Nat → Int32} : ∀ m j b, j + m < 2 ^ 31 → (b = -1 ∨ ∃ i, i < j ∧ b = nI i ∧ P i = true) → (foldN (mnS P u) b j m = -1 ∧ b = -1 ∧ ∀ i, j ≤ i → i < j + m → P i = false) ∨ ∃ i, i < j + m ∧ foldN (mnS P u) b j m = nI i ∧ P i = true := by
  intro m
  induction m with
  | zero =>
    intro j b hm hb
    rcases hb with hb | ⟨i, h1, h2, h3⟩
    · exact Or.inl ⟨hb, hb, fun i h1 h2 => by omega⟩
    · exact Or.inr ⟨i, by omega, h2, h3⟩
  | succ m ih =>
    intro j b hm hb
    show (foldN (mnS P u) (mnS P u b j) (j + 1) m = -1 ∧ _) ∨ ∃ i, _ ∧ foldN (mnS P u) (mnS P u b j) (j + 1) m = nI i ∧ _
    by_cases hc : P j = true ∧ (b = -1 ∨ ¬ u b.toNatClampNeg ≤ u j)
    · have e : mnS P u b j = nI j := if_pos hc
      rw [e]
      rcases ih (j + 1) (nI j) (by omega) (Or.inr ⟨j, by omega, rfl, hc.1⟩) with ⟨_, q, _⟩ | ⟨i, h1, h2, h3⟩
      · exact absurd q (ze_nm (by omega))
      · exact Or.inr ⟨i, by omega, h2, h3⟩
    · have e : mnS P u b j = b := if_neg hc
      rw [e]
      rcases ih (j + 1) b (by omega) (by
        rcases hb with hb | ⟨i, h1, h2, h3⟩
        · exact Or.inl hb
        · exact Or.inr ⟨i, by omega, h2, h3⟩) with ⟨q1, q2, q3⟩ | ⟨i, h1, h2, h3⟩
      · refine Or.inl ⟨q1, q2, fun i h1 h2 => ?_⟩
        by_cases e2 : i = j
        · subst e2
          cases hp : P i with
          | false => rfl
          | true => exact absurd ⟨hp, Or.inl q2⟩ hc
        · exact q3 i (by omega) (by omega)
      · exact Or.inr ⟨i, by omega, h2, h3⟩
theorem fold_or {P : Nat → Bool} : ∀ m j (s : Int32), (s = 0 ∨ s = 1) → foldN (fun s i => s ||| (if P i = true then 1 else 0)) s j m = 1 ∨ (foldN (fun s i => s ||| (if P i = true then 1 else 0)) s j m = 0 ∧ s = 0 ∧ ∀ i, j ≤ i → i < j + m → P i = false) := by
  intro m
  induction m with
  | zero =>
    intro j s hs
    rcases hs with hs | hs
    · exact Or.inr ⟨hs, hs, fun i h1 h2 => by omega⟩
    · exact Or.inl hs
  | succ m ih =>
    intro j s hs
    show foldN _ (s ||| (if P j = true then 1 else 0)) (j + 1) m = 1 ∨ (foldN _ (s ||| (if P j = true then 1 else 0)) (j + 1) m = 0 ∧ _)
    cases hp : P j with
    | true =>
      have e : s ||| (if true = true then (1 : Int32) else 0) = 1 := by rcases hs with hs | hs <;> rw [hs] <;> decide
      rw [e]
      rcases ih (j + 1) 1 (Or.inr rfl) with q | ⟨_, q, _⟩
      · exact Or.inl q
      · exact absurd q (by decide)
    | false =>
      have e : s ||| (if false = true then (1 : Int32) else 0) = s := by rcases hs with hs | hs <;> rw [hs] <;> decide
      rw [e]
      rcases ih (j + 1) s hs with q | ⟨q1, q2, q3⟩
      · exact Or.inl q
      · refine Or.inr ⟨q1, q2, fun i h1 h2 => ?_⟩
        by_cases e2 : i = j
        · rw [e2]; exact hp
        · exact q3 i (by omega) (by omega)
theorem fold_or1 {P : Nat → Bool} : ∀ m j (s : Int32), (s = 0 ∨ s = 1) → (s = 1 ∨ ∃ i, j ≤ i ∧ i < j + m ∧ P i = true) → foldN (fun s i => s ||| (if P i = true then 1 else 0)) s j m = 1 := by
  intro m j s hs h
  rcases fold_or (P := P) m j s hs with q | ⟨q1, q2, q3⟩
  · exact q
  · rcases h with h | ⟨i, a, b, c⟩
    · rw [q2] at h; exact absurd h (by decide)
    · rw [q3 i a b] at c; cases c
section FR
variable {ι : Nat → Nat} {F hd P G : Nat} {z : Nat → Nat} {L X E : Nat → Prop} {σ μ : pw_S}
def clb (σ : pw_S) (f : Nat) : Bool := oc (gr σ 5 f) false (fun q => gi σ q 5 == 0)
theorem q_oldestClean (h : Rel ι F hd P G z L X E σ μ) : fX1_oldestClean σ = some (foldN (mnS (clb σ) (gi σ 6)) (-1) 0 F, σ) := by
  have f12 := h.f12
  refine loop_foldI (fun n s j => fX1_oldestClean_4 n s (nI j) σ) F (mnS (clb σ) (gi σ 6)) (fun s => some (s, σ)) (fun j s => s = -1 ∨ ∃ i, i < j ∧ s = nI i) ?_ ?_ F 0 1000 (-1) (by omega) (by omega) (Or.inl rfl)
  · intro n b j hj hb
    refine ⟨?_, ?_⟩
    · show fX1_oldestClean_4_b (fX1_oldestClean_4 n) b (nI j) σ = _
      unfold fX1_oldestClean_4_b fX1_oldestClean_50 fX1_oldestClean_52
      rw [h.fa, if_neg (by rw [nI_leI] <;> omega), ze_ck (ze_inb (by omega) (by omega)), ze_c (by omega), nI_1, ze_ld]
      unfold mnS clb
      rcases h.fr j (by omega) with ⟨a, _⟩ | ⟨d, a, b1, c1, _⟩
      · rw [a, ze_ocn, ze_ocn, if_neg (fun q => by cases q.1)]
      · rw [a, ze_ocs, ze_ocs, ze_ck (h.ok c1), ze_ck (ze_inb (by omega) (by omega))]
        by_cases e : gi σ (ky d) 5 = 0
        · rw [if_pos e]
          rcases hb with hb | ⟨i, i1, i2⟩
          · rw [if_pos hb, if_pos ⟨by simpa using e, Or.inl hb⟩]
          · have hn : ¬ b = -1 := by rw [i2]; exact ze_nm (by omega)
            rw [if_neg hn, ze_ck (by rw [i2]; exact ze_inb (by omega) (by omega))]
            by_cases e2 : gi σ 6 b.toNatClampNeg ≤ gi σ 6 j
            · rw [if_pos e2, if_neg (fun q => q.2.elim hn (fun w => w e2))]
            · rw [if_neg e2, if_pos ⟨by simpa using e, Or.inr e2⟩]
        · rw [if_neg e, if_neg (fun q => e (by simpa using q.1))]
    · unfold mnS
      split
      · exact Or.inr ⟨j, by omega, rfl⟩
      · rcases hb with hb | ⟨i, h1, h2⟩
        · exact Or.inl hb
        · exact Or.inr ⟨i, by omega, h2⟩
  · intro n s _
    show fX1_oldestClean_4_b (fX1_oldestClean_4 n) s (nI F) σ = _
    unfold fX1_oldestClean_4_b
    rw [h.fa, if_pos (by rw [nI_leI] <;> omega)]
theorem q_oldest (h : Rel ι F hd P G z L X E σ μ) : fX1_oldest σ = some (foldN (mnS (fun _ => true) (gi σ 6)) (-1) 0 F, σ) := by
  have f12 := h.f12
  have f4 := h.f4
  have e0 : foldN (mnS (fun _ => true) (gi σ 6)) (-1) 0 F = foldN (mnS (fun _ => true) (gi σ 6)) (nI 0) 1 (F - 1) := by
    obtain ⟨F', rfl⟩ : ∃ q, F = q + 1 := ⟨F - 1, by omega⟩
    show foldN (mnS (fun _ => true) (gi σ 6)) (mnS (fun _ => true) (gi σ 6) (-1) 0) 1 F' = _
    have : mnS (fun _ => true) (gi σ 6) (-1) 0 = nI 0 := if_pos ⟨rfl, Or.inl rfl⟩
    rw [this]
    rfl
  rw [e0]
  refine loop_foldI (fun n s j => fX1_oldest_4 n s (nI j) σ) F (mnS (fun _ => true) (gi σ 6)) (fun s => some (s, σ)) (fun j s => ∃ i, i < j ∧ s = nI i) ?_ ?_ (F - 1) 1 1000 (nI 0) (by omega) (by omega) ⟨0, by omega, rfl⟩
  · intro n b j hj ⟨i, i1, i2⟩
    refine ⟨?_, ?_⟩
    · show fX1_oldest_4_b (fX1_oldest_4 n) b (nI j) σ = _
      unfold fX1_oldest_4_b fX1_oldest_29
      have hn : ¬ b = -1 := by rw [i2]; exact ze_nm (by omega)
      rw [h.fa, if_neg (by rw [nI_leI] <;> omega), ze_ck (ze_inb (by omega) (by omega)), ze_ck (by rw [i2]; exact ze_inb (by omega) (by omega)), ze_c (j := j) (by omega), nI_1]
      unfold mnS
      by_cases e2 : gi σ 6 b.toNatClampNeg ≤ gi σ 6 j
      · rw [if_pos e2, if_neg (fun q => q.2.elim hn (fun w => w e2))]
      · rw [if_neg e2, if_pos ⟨rfl, Or.inr e2⟩]
    · unfold mnS
      split
      · exact ⟨j, by omega, rfl⟩
      · exact ⟨i, by omega, i2⟩
  · intro n s _
    show fX1_oldest_4_b (fX1_oldest_4 n) s (nI F) σ = _
    unfold fX1_oldest_4_b
    rw [h.fa, if_pos (by rw [nI_leI] <;> omega)]
theorem r_clean (h : Rel ι F hd P G z L X E σ μ) {f : Nat} (hf : f < F) (hfull : gr σ 5 f ≠ none) : ∃ d, L d ∧ gr σ 5 f = some (ky d) ∧ gi μ 1 f = nI (ι d) ∧ gi μ 2 f = gi σ 6 f ∧ gi μ 3 f = gi σ 7 f ∧ fX4_isDirty (gi μ 1 f) μ = some (gi σ (ky d) 5, μ) ∧ (clb σ f = true ↔ gi σ (ky d) 5 = 0) := by
  have f12 := h.f12
  rcases h.fr f (by omega) with ⟨a, _⟩ | ⟨d, a, b1, c1, c2, c3, c4, c5, c6⟩
  · exact absurd a hfull
  · refine ⟨d, c1, a, c2, c4, c5, by rw [c2]; exact r_dirty h c1, ?_⟩
    unfold clb
    rw [a, ze_ocs]
    simp
theorem q_hasClean (h : Rel ι F hd P G z L X E σ μ) (hfull : ∀ f, f < F → gr σ 5 f ≠ none) : fX4_freed_120 1000 0 0 μ = fX4_freed_159 1000 (foldN (fun s i => s ||| (if clb σ i = true then 1 else 0)) 0 0 F) (-1) 0 μ := by
  have f12 := h.f12
  refine loop_fold (fun n s j => fX4_freed_120 n s (nI j) μ) F (fun s i => s ||| (if clb σ i = true then 1 else 0)) (fun s => fX4_freed_159 1000 s (-1) 0 μ) ?_ ?_ F 0 1000 0 (by omega) (by omega)
  · intro n s j hj
    obtain ⟨d, d1, d2, d3, d4, d5, d6, d7⟩ := r_clean h hj (hfull j hj)
    show fX4_freed_120_b (fX4_freed_120 n) s (nI j) μ = _
    unfold fX4_freed_120_b fX4_freed_147
    rw [h.fb, if_neg (by rw [nI_leI] <;> omega), ze_ck (ze_inb (by omega) (by omega)), ze_c (by omega), d6, ze_bnd, nI_1]
    by_cases e : gi σ (ky d) 5 = 0
    · rw [if_pos e, if_pos (d7.mpr e)]
    · rw [if_neg e, if_neg (fun q => e (d7.mp q))]
  · intro n s
    show fX4_freed_120_b (fX4_freed_120 n) s (nI F) μ = _
    unfold fX4_freed_120_b
    rw [h.fb, if_pos (by rw [nI_leI] <;> omega)]
theorem q_best (h : Rel ι F hd P G z L X E σ μ) (hfull : ∀ f, f < F → gr σ 5 f ≠ none) (hc : Int32) : fX4_freed_159 1000 hc (-1) 0 μ = (fun b : Int32 => if hc = 0 then ck (inb b 12) (bnd (fX4_writeOut (gi μ 1 b.toNatClampNeg) μ) (fun r23 σ24 => fX4_freed_227 b σ24)) else fX4_freed_227 b μ) (foldN (mnS (fun f => decide (hc = 0) || clb σ f) (gi σ 6)) (-1) 0 F) := by
  have f12 := h.f12
  refine loop_foldI (fun n s j => fX4_freed_159 n hc s (nI j) μ) F (mnS (fun f => decide (hc = 0) || clb σ f) (gi σ 6)) (fun b : Int32 => if hc = 0 then ck (inb b 12) (bnd (fX4_writeOut (gi μ 1 b.toNatClampNeg) μ) (fun r23 σ24 => fX4_freed_227 b σ24)) else fX4_freed_227 b μ) (fun j s => s = -1 ∨ ∃ i, i < j ∧ s = nI i) ?_ ?_ F 0 1000 (-1) (by omega) (by omega) (Or.inl rfl)
  · intro n b j hj hb
    obtain ⟨d, d1, d2, d3, d4, d5, d6, d7⟩ := r_clean h hj (hfull j hj)
    refine ⟨?_, ?_⟩
    · have core : fX4_freed_184 (fX4_freed_159 n) hc b (nI j) μ = fX4_freed_159 n hc (if b = -1 ∨ ¬ gi σ 6 b.toNatClampNeg ≤ gi σ 6 j then nI j else b) (nI (j + 1)) μ := by
        unfold fX4_freed_184 fX4_freed_204 fX4_freed_206
        rw [nI_1]
        rcases hb with hb | ⟨i, i1, i2⟩
        · rw [if_pos hb, if_pos (Or.inl hb)]
        · have hn : ¬ b = -1 := by rw [i2]; exact ze_nm (by omega)
          obtain ⟨_, _, _, _, w4, _⟩ := r_clean h (f := i) (by omega) (hfull i (by omega))
          rw [if_neg hn, ze_ck (ze_inb (by omega) (by omega)), ze_ck (by rw [i2]; exact ze_inb (by omega) (by omega)), ze_c (j := j) (by omega), d4, i2, ze_c (by omega), w4]
          by_cases e2 : gi σ 6 i ≤ gi σ 6 j
          · rw [if_pos e2, if_neg (fun q => q.elim (ze_nm (by omega)) (fun w => w e2))]
          · rw [if_neg e2, if_pos (Or.inr e2)]
      show fX4_freed_159_b (fX4_freed_159 n) hc b (nI j) μ = _
      unfold fX4_freed_159_b
      rw [h.fb, if_neg (by rw [nI_leI] <;> omega), core, ze_ck (ze_inb (by omega) (by omega)), ze_c (by omega), d6, ze_bnd, core]
      unfold mnS fX4_freed_206
      rw [nI_1]
      by_cases e0 : hc = 0
      · rw [if_pos e0]
        by_cases e2 : b = -1 ∨ ¬ gi σ 6 b.toNatClampNeg ≤ gi σ 6 j
        · rw [if_pos e2, if_pos ⟨by simp [e0], e2⟩]
        · rw [if_neg e2, if_neg (fun q => e2 q.2)]
      · rw [if_neg e0]
        by_cases e1 : gi σ (ky d) 5 = 0
        · rw [if_pos e1]
          by_cases e2 : b = -1 ∨ ¬ gi σ 6 b.toNatClampNeg ≤ gi σ 6 j
          · rw [if_pos e2, if_pos ⟨by simp [d7.mpr e1], e2⟩]
          · rw [if_neg e2, if_neg (fun q => e2 q.2)]
        · rw [if_neg e1, if_neg]
          intro q
          have := q.1
          simp [e0] at this
          exact e1 (d7.mp this)
    · unfold mnS
      split
      · exact Or.inr ⟨j, by omega, rfl⟩
      · rcases hb with hb | ⟨i, h1, h2⟩
        · exact Or.inl hb
        · exact Or.inr ⟨i, by omega, h2⟩
  · intro n s _
    show fX4_freed_159_b (fX4_freed_159 n) hc s (nI F) μ = _
    unfold fX4_freed_159_b
    rw [h.fb, if_pos (by rw [nI_leI] <;> omega)]
theorem r_move (h : Rel ι F hd P G z L X E σ μ) {f : Nat} (hf : f < F) : fX1_moveHandBehind (nI f) σ = some ((), si σ 4 4 (nI (nxF F f))) := by
  have f12 := h.f12
  unfold fX1_moveHandBehind fX1_moveHandBehind_18 nxF
  rw [h.fa, nI_1]
  by_cases e : f + 1 < F
  · rw [if_neg (by rw [nI_leI] <;> omega), if_pos e]
    rfl
  · rw [if_pos (by rw [nI_leI] <;> omega), if_neg e]
    rfl
theorem r_mod {f : Nat} (h4 : 4 ≤ F) (f12 : F ≤ 12) (hf : f < F) : nI f + 1 - (nI f + 1) / nI F * nI F = nI (nxF F f) := by
  rw [nI_1, ze_mod (by omega) (by omega), nxF_mod hf]
theorem Keep.vac {σ μ : pw_S} {x f n i j w : Nat} {a b u v : Int32} : Keep σ μ (si (si (si (si (sr (si σ (ky x) 3 (-1)) 5 f none) 6 f (-1)) 7 f 0) 11 i a) 4 4 b) (si (si (si (si (si μ 1 f (-1)) 3 f 0) 6 n v) 13 j u) 0 4 b) := by
  refine ⟨rfl, fun _ => rfl, fun _ => rfl, fun j => ?_, fun y => ?_, fun y => ?_, fun y j => ?_, fun j q => ?_, fun _ => rfl, fun _ => rfl, fun _ => rfl, fun y h => ?_⟩
  · simp (disch := omega) only [reduceIte, Nat.reduceEqDiff, Nat.reduceAdd, gi_si, gi_sr, gr_si, gr_sr, gN_si, gN_sr, ky_e, ky_l, ky_r, kw_e, kw_1, kw_2, kw_l, kw_r, ite_self, if_true, if_false]
  · simp (disch := omega) only [reduceIte, Nat.reduceEqDiff, Nat.reduceAdd, gi_si, gi_sr, gr_si, gr_sr, gN_si, gN_sr, ky_e, ky_l, ky_r, kw_e, kw_1, kw_2, kw_l, kw_r, ite_self, if_true, if_false]
  · simp (disch := omega) only [reduceIte, Nat.reduceEqDiff, Nat.reduceAdd, gi_si, gi_sr, gr_si, gr_sr, gN_si, gN_sr, ky_e, ky_l, ky_r, kw_e, kw_1, kw_2, kw_l, kw_r, ite_self, if_true, if_false]
  · simp (disch := omega) only [reduceIte, Nat.reduceEqDiff, Nat.reduceAdd, gi_si, gi_sr, gr_si, gr_sr, gN_si, gN_sr, ky_e, ky_l, ky_r, kw_e, kw_1, kw_2, kw_l, kw_r, ite_self, if_true, if_false]
  · simp (disch := omega) only [reduceIte, Nat.reduceEqDiff, Nat.reduceAdd, gi_si, gi_sr, gr_si, gr_sr, gN_si, gN_sr, ky_e, ky_l, ky_r, kw_e, kw_1, kw_2, kw_l, kw_r, ite_self, if_true, if_false, q]
  · exact ⟨by simp (disch := omega) only [reduceIte, Nat.reduceEqDiff, Nat.reduceAdd, gi_si, gi_sr, gr_si, gr_sr, gN_si, gN_sr, ky_e, ky_l, ky_r, kw_e, kw_1, kw_2, kw_l, kw_r, ite_self, if_true, if_false]; exact h, by simp (disch := omega) only [reduceIte, Nat.reduceEqDiff, Nat.reduceAdd, gi_si, gi_sr, gr_si, gr_sr, gN_si, gN_sr, ky_e, ky_l, ky_r, kw_e, kw_1, kw_2, kw_l, kw_r, ite_self, if_true, if_false]⟩
theorem r_evict (h : Rel ι F hd P G z L X E σ μ) {f d : Nat} (hf : f < F) (ho : gr σ 5 f = some (ky d)) (hc : gi σ (ky d) 5 = 0) :
    ∃ σ' μ', fX3_freeByClock_109 (nI f) σ = some (nI f, σ') ∧ fX4_evict (nI f) μ = some ((), μ') ∧ Rel ι F (nxF F f) P G z L X E σ' μ' ∧ gr σ' 5 f = none ∧ Keep σ μ σ' μ' ∧ ∀ x, gi σ (ky x) 3 = -1 → gi σ' (ky x) 3 = -1 := by
  have f12 := h.f12
  have f4 := h.f4
  obtain ⟨d', hL, d2, d3, _⟩ := r_clean h hf (by rw [ho]; simp)
  rw [ho, ky_ij] at d2
  subst d2
  have i200 := (h.nn d hL).2
  have hok := h.ok hL
  have hv : fX1_vacate (nI f) σ = some ((), si (si (sr (si σ (ky d) 3 (-1)) 5 f none) 6 f (-1)) 7 f 0) := by
    unfold fX1_vacate fX1_vacate_16
    rw [ze_ck (ze_inb (by omega) (by omega)), ze_c (by omega), ze_ld, ho, ze_ocs, ze_ck hok, ze_ld, ze_ck (ze_inb (by omega) (by omega)), ze_ld, ze_ck (ze_inb (by omega) (by omega)), ze_ld, ze_ck (ze_inb (by omega) (by omega)), ze_ld]
  have hw : ∃ w : Int32, (w = 0 ∨ (w = 1 ∧ gi σ (ky d) 4 ≠ -1)) ∧ fX4_evict (nI f) μ = some ((), si (si (si (si (si μ 1 f (-1)) 3 f 0) 6 (ι d) w) 13 4 (gi μ 13 4 + 1)) 0 4 (nI (nxF F f))) := by
    have e : fX4_evict (nI f) μ = (fun m : pw_S => if gi σ (ky d) 4 = -1 then some ((), si m 6 (ι d) 0) else some ((), m)) (si (si (si (si μ 1 f (-1)) 3 f 0) 13 4 (gi μ 13 4 + 1)) 0 4 (nI (nxF F f))) := by
      unfold fX4_evict fX4_evict_59
      rw [ze_ck (ze_inb (by omega) (by omega)), ze_ck (ze_inb (by omega) (by omega)), ze_ld, ze_ck (ze_inb (by omega) (by omega)), ze_ld, ze_ck (by decide), ze_ck (by decide), ze_ld, ze_c (by omega), show Int32.toNatClampNeg 4 = 4 from rfl]
      rw [show ∀ v, gi (si (si (si μ 1 f (-1)) 3 f 0) 13 4 v) 0 3 = nI F from fun v => h.fb, ze_ck (show nzb (nI F) = true from decide_eq_true (nI_ne0 (by omega) (by omega))), ze_ld, r_mod f4 f12 hf, d3, ze_c (by omega)]
      rw [show ∀ v : Int32, gi (si (si μ 1 f (-1)) 3 f 0) 13 4 = gi μ 13 4 from fun _ => rfl]
      · have sw : fX4_slotWith (nI (ι d)) (si (si (si (si μ 1 f (-1)) 3 f 0) 13 4 (gi μ 13 4 + 1)) 0 4 (nI (nxF F f))) = some (gi σ (ky d) 4, (si (si (si (si μ 1 f (-1)) 3 f 0) 13 4 (gi μ 13 4 + 1)) 0 4 (nI (nxF F f)))) := by
          have q := r_sw h hL
          rw [q_slotWith] at q ⊢
          exact congrArg (fun w => some (w, _)) (Prod.mk.inj (Option.some.inj q)).1
        rw [sw, ze_bnd, ze_ck (ze_inb i200 (by omega)), ze_ld]
      · exact 0
    by_cases c : gi σ (ky d) 4 = -1
    · refine ⟨0, Or.inl rfl, ?_⟩
      rw [e]
      dsimp only
      rw [if_pos c, ze_sc (k := 0) (k' := 6) (by decide), ze_sc (k := 13) (k' := 6) (by decide)]
    · refine ⟨gi μ 6 (ι d), ?_, ?_⟩
      · rcases h.di d hL with ⟨a, _⟩ | ⟨a, b | b⟩
        · rw [hc] at a; exact absurd a (by decide)
        · exact Or.inl b
        · exact Or.inr ⟨b.1, c⟩
      · rw [e]
        dsimp only
        rw [if_neg c, ze_si (s := si (si μ 1 f (-1)) 3 f 0) (k := 6) (j := ι d) (w := gi μ 6 (ι d)) rfl]
  obtain ⟨w, w1, w2⟩ := hw
  obtain ⟨_, hr⟩ := h.vac (f := f) (d := d) (by omega) ho hc w1
  have hr2 := ((hr.count 4 (gi μ 13 4 + 1)).hnd (nxF F f) (nxF_lt (by omega)))
  refine ⟨_, _, ?_, w2, hr2, ?_, Keep.vac (w := 0), ?_⟩
  · unfold fX3_freeByClock_109
    rw [hv, ze_bnd, ze_ck (by decide), ze_ck (by decide), ze_ld, show Int32.toNatClampNeg 4 = 4 from rfl]
    rw [show gi (si (si (sr (si σ (ky d) 3 (-1)) 5 f none) 6 f (-1)) 7 f 0) 11 4 = gi μ 13 4 by
      simp (disch := omega) only [reduceIte, Nat.reduceEqDiff, Nat.reduceAdd, gi_si, gi_sr, gr_si, gr_sr, gN_si, gN_sr, ky_e, ky_l, ky_r, kw_e, kw_1, kw_2, kw_l, kw_r, ite_self, if_true, if_false]
      exact h.cs 4 (by omega)]
    rw [r_move (hr.count 4 (gi μ 13 4 + 1)) hf, ze_bnd]
  · simp (disch := omega) only [reduceIte, Nat.reduceEqDiff, Nat.reduceAdd, gi_si, gi_sr, gr_si, gr_sr, gN_si, gN_sr, ky_e, ky_l, ky_r, kw_e, kw_1, kw_2, kw_l, kw_r, ite_self, if_true, if_false]
  · intro x hx
    simp (disch := omega) only [reduceIte, Nat.reduceEqDiff, Nat.reduceAdd, gi_si, gi_sr, gr_si, gr_sr, gN_si, gN_sr, ky_e, ky_l, ky_r, kw_e, kw_1, kw_2, kw_l, kw_r, ite_self, if_true, if_false]
    split
    · rfl
    · exact hx
end FR
