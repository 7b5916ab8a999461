/-! THE CLOCK runs alike -/
section FR
variable {ι : Nat → Nat} {F hd P G : Nat} {z : Nat → Nat} {L X E : Nat → Prop} {σ μ : pw_S}
/-- a frame can be had: a clean content is in a frame, or a slot is free -/
def Ob (F : Nat) (s : pw_S) : Prop := (∃ f x, f < F ∧ gr s 5 f = some (ky x) ∧ gi s (ky x) 5 = 0) ∨ ∃ i, i < 24 ∧ gr s 9 i = none
def Po (ι : Nat → Nat) (F P G : Nat) (z : Nat → Nat) (L X E : Nat → Prop) (s s' : pw_S) (a b : Option (Int32 × pw_S)) : Prop := ∃ f hd' σ' μ', f < F ∧ a = some (nI f, σ') ∧ b = some (nI f, μ') ∧ Rel ι F hd' P G z L X E σ' μ' ∧ gr σ' 5 f = none ∧ Keep s s' σ' μ' ∧ ∀ x, gi s (ky x) 3 = -1 → gi σ' (ky x) 3 = -1
theorem Po.pre {s s' s2 s2' : pw_S} {a b : Option (Int32 × pw_S)} (h : Po ι F P G z L X E s2 s2' a b) (k : Keep s s' s2 s2') (q : ∀ x, gi s (ky x) 3 = -1 → gi s2 (ky x) 3 = -1) : Po ι F P G z L X E s s' a b := by
  obtain ⟨f, hd', σ', μ', h1, h2, h3, h4, h5, h6, h7⟩ := h
  exact ⟨f, hd', σ', μ', h1, h2, h3, h4, h5, k.trans h6, fun x w => h7 x (q x w)⟩
theorem r_after (h : Rel ι F hd P G z L X E σ μ) (hz : ∀ i, G ≤ i → z i = 0) (hfull : ∀ f, f < F → gr σ 5 f ≠ none) (hob : Ob F σ) (hX : ∀ x, X x → gi σ (ky x) 5 = 0) : Po ι F P G z L X E σ μ (fX3_freeByClock_69 (-1) σ) (fX4_freed_120 1000 0 0 μ) := by
  have f12 := h.f12
  have f4 := h.f4
  by_cases hc : ∃ f, f < F ∧ clb σ f = true
  · obtain ⟨f0, g1, g2⟩ := hc
    have e1 : foldN (fun s i => s ||| (if clb σ i = true then 1 else 0)) (0 : Int32) 0 F = 1 := fold_or1 F 0 0 (Or.inl rfl) (Or.inr ⟨f0, by omega, by omega, g2⟩)
    have e2 : (fun f => decide ((1 : Int32) = 0) || clb σ f) = clb σ := by
      funext f
      simp
    rcases mnS_or (P := clb σ) (u := gi σ 6) F 0 (-1) (by omega) (Or.inl rfl) with ⟨_, _, q⟩ | ⟨f, q1, q2, q3⟩
    · rw [q f0 (by omega) (by omega)] at g2
      cases g2
    · rw [Nat.zero_add] at q1
      obtain ⟨d, d1, d2, d3, d4, d5, d6, d7⟩ := r_clean h q1 (hfull f q1)
      obtain ⟨σ', μ', w1, w2, w3, w4, w5, w6⟩ := r_evict h q1 d2 (d7.mp q3)
      refine ⟨f, _, σ', μ', q1, ?_, ?_, w3, w4, w5, w6⟩
      · unfold fX3_freeByClock_69 fX3_freeByClock_82
        rw [if_pos rfl, q_oldestClean h, ze_bnd, q2, if_neg (ze_nm (by omega)), w1]
      · rw [q_hasClean h hfull, e1, q_best h hfull, e2, q2]
        dsimp only
        rw [if_neg (by decide)]
        unfold fX4_freed_227
        rw [w2, ze_bnd]
  · have e1 : foldN (fun s i => s ||| (if clb σ i = true then 1 else 0)) (0 : Int32) 0 F = 0 := by
      rcases fold_or (P := clb σ) F 0 0 (Or.inl rfl) with q | ⟨q, _⟩
      · exfalso
        have : ∀ i, 0 ≤ i → i < 0 + F → clb σ i = false := by
          intro i _ hi
          cases hq : clb σ i with
          | false => rfl
          | true => exact absurd ⟨i, by omega, hq⟩ hc
        have e : foldN (fun s i => s ||| (if clb σ i = true then 1 else 0)) (0 : Int32) 0 F = foldN (fun s i => s) 0 0 F := by
          refine foldN_ext F 0 0 (fun i s a b => ?_)
          rw [this i a b]
          exact Int32.or_zero
        have e' : ∀ m j, foldN (fun (s : Int32) (i : Nat) => s) 0 j m = 0 := by
          intro m
          induction m with
          | zero => intro j; rfl
          | succ m ih => intro j; exact ih (j + 1)
        rw [e, e'] at q
        exact absurd q (by decide)
      · exact q
    have e2 : (fun f => decide ((0 : Int32) = 0) || clb σ f) = fun _ => true := by
      funext f
      simp
    have hsl : ∃ i, i < 24 ∧ gr σ 9 i = none := by
      rcases hob with ⟨f, x, a1, a2, a3⟩ | q
      · obtain ⟨d, d1, d2, d3, d4, d5, d6, d7⟩ := r_clean h a1 (hfull f a1)
        rw [a2, ky_ij] at d2
        subst d2
        exact absurd ⟨f, a1, d7.mpr a3⟩ hc
      · exact q
    have q0 : foldN (mnS (clb σ) (gi σ 6)) (-1) 0 F = -1 := by
      rcases mnS_or (P := clb σ) (u := gi σ 6) F 0 (-1) (by omega) (Or.inl rfl) with ⟨q, _, _⟩ | ⟨f, q1, q2, q3⟩
      · exact q
      · exact absurd ⟨f, by omega, q3⟩ hc
    rcases mnS_or (P := fun _ => true) (u := gi σ 6) F 0 (-1) (by omega) (Or.inl rfl) with ⟨_, _, q⟩ | ⟨f, q1, q2, q3⟩
    · exact absurd (q 0 (by omega) (by omega)) (by simp)
    · rw [Nat.zero_add] at q1
      obtain ⟨d, d1, d2, d3, d4, d5, d6, d7⟩ := r_clean h q1 (hfull f q1)
      have hdi : gi σ (ky d) 5 = 1 := by
        rcases h.di d d1 with ⟨a, _⟩ | ⟨a, _⟩
        · exact a
        · exact absurd ⟨f, q1, d7.mpr a⟩ hc
      obtain ⟨r, s1, s1', r0, r1, r2, r3, r4, r5, r6, r7⟩ := r_writeOut h hz d1 (fun q => by rw [hX d q] at hdi; exact absurd hdi (by decide)) hdi
      obtain ⟨σ', μ', w1, w2, w3, w4, w5, w6⟩ := r_evict r3 q1 ((r5.1 f).trans d2) (r7 hsl)
      refine ⟨f, _, σ', μ', q1, ?_, ?_, w3, w4, r4.trans w5, fun x w => w6 x ((r5.2.2.2.1 x).trans w)⟩
      · unfold fX3_freeByClock_69 fX3_freeByClock_82
        rw [if_pos rfl, q_oldestClean h, ze_bnd, q0, if_pos rfl, q_oldest h, ze_bnd, q2, ze_ck (ze_inb (by omega) (by omega)), ze_c (by omega), ze_ld, d2, r1, ze_bnd, w1]
      · rw [q_hasClean h hfull, e1, q_best h hfull, e2, q2]
        dsimp only
        rw [if_pos rfl, ze_ck (ze_inb (by omega) (by omega)), ze_c (by omega), d3, r2, ze_bnd]
        unfold fX4_freed_227
        rw [w2, ze_bnd]
theorem Keep.hnd {σ μ : pw_S} {v w : Int32} : Keep σ μ (si σ 4 4 v) (si μ 0 4 w) := by
  refine ⟨rfl, fun _ => rfl, fun _ => rfl, fun j => ?_, fun y => ?_, fun y => ?_, fun y j => ?_, fun j q => ?_, fun _ => rfl, fun _ => rfl, fun _ => rfl, fun y h => ?_⟩
  · simp (disch := omega) only [reduceIte, Nat.reduceEqDiff, Nat.reduceAdd, gi_si, gi_sr, gr_si, gr_sr, gN_si, gN_sr, ky_e, ky_l, ky_r, kw_e, kw_1, kw_2, kw_l, kw_r, ite_self, if_true, if_false]
  · simp (disch := omega) only [reduceIte, Nat.reduceEqDiff, Nat.reduceAdd, gi_si, gi_sr, gr_si, gr_sr, gN_si, gN_sr, ky_e, ky_l, ky_r, kw_e, kw_1, kw_2, kw_l, kw_r, ite_self, if_true, if_false]
  · simp (disch := omega) only [reduceIte, Nat.reduceEqDiff, Nat.reduceAdd, gi_si, gi_sr, gr_si, gr_sr, gN_si, gN_sr, ky_e, ky_l, ky_r, kw_e, kw_1, kw_2, kw_l, kw_r, ite_self, if_true, if_false]
  · simp (disch := omega) only [reduceIte, Nat.reduceEqDiff, Nat.reduceAdd, gi_si, gi_sr, gr_si, gr_sr, gN_si, gN_sr, ky_e, ky_l, ky_r, kw_e, kw_1, kw_2, kw_l, kw_r, ite_self, if_true, if_false]
  · simp (disch := omega) only [reduceIte, Nat.reduceEqDiff, Nat.reduceAdd, gi_si, gi_sr, gr_si, gr_sr, gN_si, gN_sr, ky_e, ky_l, ky_r, kw_e, kw_1, kw_2, kw_l, kw_r, ite_self, if_true, if_false, q]
  · exact ⟨by simp (disch := omega) only [reduceIte, Nat.reduceEqDiff, Nat.reduceAdd, gi_si, gi_sr, gr_si, gr_sr, gN_si, gN_sr, ky_e, ky_l, ky_r, kw_e, kw_1, kw_2, kw_l, kw_r, ite_self, if_true, if_false]; exact h, by simp (disch := omega) only [reduceIte, Nat.reduceEqDiff, Nat.reduceAdd, gi_si, gi_sr, gr_si, gr_sr, gN_si, gN_sr, ky_e, ky_l, ky_r, kw_e, kw_1, kw_2, kw_l, kw_r, ite_self, if_true, if_false]⟩
theorem Keep.mark {σ μ : pw_S} {f g : Nat} {v b w c : Int32} : Keep σ μ (si (si σ 6 f v) 7 f b) (si (si μ 2 g w) 3 g c) := by
  refine ⟨rfl, fun _ => rfl, fun _ => rfl, fun j => ?_, fun y => ?_, fun y => ?_, fun y j => ?_, fun _ _ => rfl, fun _ => rfl, fun _ => rfl, fun _ => rfl, fun y h => ?_⟩
  · simp (disch := omega) only [reduceIte, Nat.reduceEqDiff, Nat.reduceAdd, gi_si, gi_sr, gr_si, gr_sr, gN_si, gN_sr, ky_e, ky_l, ky_r, kw_e, kw_1, kw_2, kw_l, kw_r, ite_self, if_true, if_false]
  · simp (disch := omega) only [reduceIte, Nat.reduceEqDiff, Nat.reduceAdd, gi_si, gi_sr, gr_si, gr_sr, gN_si, gN_sr, ky_e, ky_l, ky_r, kw_e, kw_1, kw_2, kw_l, kw_r, ite_self, if_true, if_false]
  · simp (disch := omega) only [reduceIte, Nat.reduceEqDiff, Nat.reduceAdd, gi_si, gi_sr, gr_si, gr_sr, gN_si, gN_sr, ky_e, ky_l, ky_r, kw_e, kw_1, kw_2, kw_l, kw_r, ite_self, if_true, if_false]
  · simp (disch := omega) only [reduceIte, Nat.reduceEqDiff, Nat.reduceAdd, gi_si, gi_sr, gr_si, gr_sr, gN_si, gN_sr, ky_e, ky_l, ky_r, kw_e, kw_1, kw_2, kw_l, kw_r, ite_self, if_true, if_false]
  · exact ⟨by simp (disch := omega) only [reduceIte, Nat.reduceEqDiff, Nat.reduceAdd, gi_si, gi_sr, gr_si, gr_sr, gN_si, gN_sr, ky_e, ky_l, ky_r, kw_e, kw_1, kw_2, kw_l, kw_r, ite_self, if_true, if_false]; exact h, by simp (disch := omega) only [reduceIte, Nat.reduceEqDiff, Nat.reduceAdd, gi_si, gi_sr, gr_si, gr_sr, gN_si, gN_sr, ky_e, ky_l, ky_r, kw_e, kw_1, kw_2, kw_l, kw_r, ite_self, if_true, if_false]⟩
theorem r_clock (hz : ∀ i, G ≤ i → z i = 0) : ∀ m j n n' hd s s', j + m = 2 * F → m + 1 < n → m < n' → Rel ι F hd P G z L X E s s' → (∀ f, f < F → gr s 5 f ≠ none) → Ob F s → (∀ x, X x → gi s (ky x) 5 = 0) → Po ι F P G z L X E s s' (fX3_freeByClock_14 n (-1) (nI (2 * F)) (nI j) s) (fX4_freed_2 n' (nI j) s') := by
  intro m
  induction m with
  | zero =>
    intro j n n' hd s s' e hn hn' h hfull hob hX
    have f12 := h.f12
    obtain ⟨n, rfl⟩ : ∃ w, n = w + 1 := ⟨n - 1, by omega⟩
    obtain ⟨n', rfl⟩ : ∃ w, n' = w + 1 := ⟨n' - 1, by omega⟩
    have ea : fX3_freeByClock_14 (n + 1) (-1) (nI (2 * F)) (nI j) s = fX3_freeByClock_69 (-1) s := by
      show fX3_freeByClock_14_b (fX3_freeByClock_14 n) (-1) (nI (2 * F)) (nI j) s = _
      unfold fX3_freeByClock_14_b
      rw [if_pos (by rw [nI_leI] <;> omega)]
    have eb : fX4_freed_2 (n' + 1) (nI j) s' = fX4_freed_120 1000 0 0 s' := by
      show fX4_freed_2_b (fX4_freed_2 n') (nI j) s' = _
      unfold fX4_freed_2_b
      rw [h.fb, show (2 : Int32) * nI F = nI (2 * F) by rw [show (2 : Int32) = nI 2 from rfl, ze_mul], if_pos (by rw [nI_leI] <;> omega)]
    rw [ea, eb]
    exact r_after h hz hfull hob hX
  | succ m ih =>
    intro j n n' hd s s' e hn hn' h hfull hob hX
    have f12 := h.f12
    have f4 := h.f4
    have hh := h.hh
    obtain ⟨n, rfl⟩ : ∃ w, n = w + 2 := ⟨n - 2, by omega⟩
    obtain ⟨n', rfl⟩ : ∃ w, n' = w + 1 := ⟨n' - 1, by omega⟩
    obtain ⟨d, d1, d2, d3, d4, d5, d6, d7⟩ := r_clean h hh (hfull hd hh)
    have ea : fX3_freeByClock_14 (n + 2) (-1) (nI (2 * F)) (nI j) s = bnd (fX3_givesWayWhenLookedAt (nI hd) s) (fun r32 σ33 => if r32 = 0 then bnd (fX1_moveHandBehind (gi σ33 4 4) σ33) (fun r36 σ37 => fX3_freeByClock_14 (n + 1) (-1) (nI (2 * F)) (nI (j + 1)) σ37) else fX3_freeByClock_14 (n + 1) (gi σ33 4 4) (nI (2 * F)) (nI (j + 1)) σ33) := by
      show fX3_freeByClock_14_b (fX3_freeByClock_14 (n + 1)) (-1) (nI (2 * F)) (nI j) s = _
      unfold fX3_freeByClock_14_b fX3_freeByClock_63
      rw [if_neg (by rw [nI_leI] <;> omega), if_pos rfl, h.ha, nI_1]
    have ew : fX3_isOutsideWindow (nI hd) s = some (if gi s 0 10 - gi s 6 hd ≤ gi s 0 9 then 0 else 1, s) := by
      unfold fX3_isOutsideWindow fX3_isOutsideWindow_26
      rw [ze_ck (ze_inb (by omega) (by omega)), ze_c (by omega)]
      split <;> rfl
    have eb : fX4_freed_2 (n' + 1) (nI j) s' = (if gi s 7 hd = 0 then (if gi s 0 10 - gi s 6 hd ≤ gi s 0 9 then fX4_freed_95 (fX4_freed_2 n') (nI j) s' else (if gi s (ky d) 5 = 0 then bnd (fX4_evict (nI hd) s') (fun r55 σ56 => some (nI hd, σ56)) else bnd (fX4_writeOut (nI (ι d)) s') (fun r52 σ53 => fX4_freed_95 (fX4_freed_2 n') (nI j) σ53))) else fX4_freed_95 (fX4_freed_2 n') (nI j) (si (si s' 3 hd 0) 2 hd (gi s 0 10))) := by
      show fX4_freed_2_b (fX4_freed_2 n') (nI j) s' = _
      unfold fX4_freed_2_b
      rw [h.fb, show (2 : Int32) * nI F = nI (2 * F) by rw [show (2 : Int32) = nI 2 from rfl, ze_mul], if_neg (by rw [nI_leI] <;> omega), h.hb, ze_ck (ze_inb (by omega) (by omega)), ze_c (by omega), d5, ze_ck (ze_inb (by omega) (by omega)), d4, ← h.tm, ← h.wn, ze_ck (ze_inb (by omega) (by omega)), d6, ze_bnd, ze_ck (ze_inb (by omega) (by omega)), ze_ck (ze_inb (by omega) (by omega)), ze_ld, ze_ck (ze_inb (by omega) (by omega)), ze_ld, d3]
      rw [show gi (si s' 3 hd 0) 0 1 = gi s 0 10 from h.tm.symm]
    have cont : ∀ s2 s2', Rel ι F hd P G z L X E s2 s2' → (∀ f, f < F → gr s2 5 f ≠ none) → Ob F s2 → (∀ x, X x → gi s2 (ky x) 5 = 0) → Keep s s' s2 s2' → (∀ x, gi s (ky x) 3 = -1 → gi s2 (ky x) 3 = -1) → fX3_givesWayWhenLookedAt (nI hd) s = some (0, s2) → fX4_freed_2 (n' + 1) (nI j) s' = fX4_freed_95 (fX4_freed_2 n') (nI j) s2' → Po ι F P G z L X E s s' (fX3_freeByClock_14 (n + 2) (-1) (nI (2 * F)) (nI j) s) (fX4_freed_2 (n' + 1) (nI j) s') := by
      intro s2 s2' q1 q2 q3 q4 q5 q6 q7 q8
      have k1 := ih (j + 1) (n + 1) n' (nxF F hd) (si s2 4 4 (nI (nxF F hd))) (si s2' 0 4 (nI (nxF F hd))) (by omega) (by omega) (by omega) (q1.hnd _ (nxF_lt (by omega))) q2 (by
        rcases q3 with ⟨f, x, a1, a2, a3⟩ | q3
        · refine Or.inl ⟨f, x, a1, a2, ?_⟩
          simp (disch := omega) only [reduceIte, Nat.reduceEqDiff, Nat.reduceAdd, gi_si, gi_sr, gr_si, gr_sr, gN_si, gN_sr, ky_e, ky_l, ky_r, kw_e, kw_1, kw_2, kw_l, kw_r, ite_self, if_true, if_false]
          exact a3
        · exact Or.inr q3) (fun x w => by
        simp (disch := omega) only [reduceIte, Nat.reduceEqDiff, Nat.reduceAdd, gi_si, gi_sr, gr_si, gr_sr, gN_si, gN_sr, ky_e, ky_l, ky_r, kw_e, kw_1, kw_2, kw_l, kw_r, ite_self, if_true, if_false]
        exact q4 x w)
      have e1 : fX3_freeByClock_14 (n + 2) (-1) (nI (2 * F)) (nI j) s = fX3_freeByClock_14 (n + 1) (-1) (nI (2 * F)) (nI (j + 1)) (si s2 4 4 (nI (nxF F hd))) := by
        rw [ea, q7, ze_bnd, if_pos rfl, q1.ha, r_move q1 hh, ze_bnd]
      have e2 : fX4_freed_2 (n' + 1) (nI j) s' = fX4_freed_2 n' (nI (j + 1)) (si s2' 0 4 (nI (nxF F hd))) := by
        rw [q8]
        unfold fX4_freed_95
        rw [q1.fb, q1.hb, ze_ck (show nzb (nI F) = true from decide_eq_true (nI_ne0 (by omega) (by omega))), ze_ld, r_mod f4 f12 hh, nI_1]
      rw [e1, e2]
      exact k1.pre (q5.trans Keep.hnd) (fun x w => by
        simp (disch := omega) only [reduceIte, Nat.reduceEqDiff, Nat.reduceAdd, gi_si, gi_sr, gr_si, gr_sr, gN_si, gN_sr, ky_e, ky_l, ky_r, kw_e, kw_1, kw_2, kw_l, kw_r, ite_self, if_true, if_false]
        exact q6 x w)
    by_cases c1 : gi s 7 hd = 0
    · rw [if_pos c1] at eb
      by_cases c2 : gi s 0 10 - gi s 6 hd ≤ gi s 0 9
      · rw [if_pos c2] at eb
        refine cont s s' h hfull hob hX (Keep.rfl' _ _) (fun _ w => w) ?_ eb
        unfold fX3_givesWayWhenLookedAt
        rw [ze_ck (ze_inb (by omega) (by omega)), ze_c (by omega), if_pos c1, ew, ze_bnd, if_pos c2, if_pos rfl]
      · rw [if_neg c2] at eb
        have eg : fX3_givesWayWhenLookedAt (nI hd) s = (if gi s (ky d) 5 = 0 then some (1, s) else bnd (fX3_writeOut (some (ky d)) s) (fun r19 σ20 => some (0, σ20))) := by
          unfold fX3_givesWayWhenLookedAt fX3_givesWayWhenLookedAt_76
          rw [ze_ck (ze_inb (by omega) (by omega)), ze_c (by omega), if_pos c1, ew, ze_bnd, if_neg c2, if_neg (by decide), ze_ck (ze_inb (by omega) (by omega)), ze_ld, d2, ze_ocs, ze_ck (h.ok d1)]
        rcases h.di d d1 with ⟨y1, _⟩ | ⟨y1, _⟩
        · have y0 : ¬ gi s (ky d) 5 = 0 := by rw [y1]; decide
          rw [if_neg y0] at eb eg
          obtain ⟨r, s1, s1', r0, r1, r2, r3, r4, r5, r6, r7⟩ := r_writeOut h hz d1 (fun q => y0 (hX d q)) y1
          rw [r2, ze_bnd] at eb
          rw [r1, ze_bnd] at eg
          refine cont s1 s1' r3 (fun f hf => by rw [r5.1 f]; exact hfull f hf) ?_ (fun x w => (r4.2.2.2.2.2.2.2.2.2.2.2 x (hX x w)).1) r4 (fun x w => (r5.2.2.2.1 x).trans w) eg eb
          rcases hob with ⟨f, x, a1, a2, a3⟩ | hob
          · exact Or.inl ⟨f, x, a1, (r5.1 f).trans a2, (r4.2.2.2.2.2.2.2.2.2.2.2 x a3).1⟩
          · exact Or.inl ⟨hd, d, hh, (r5.1 hd).trans d2, r7 hob⟩
        · rw [if_pos y1] at eb eg
          obtain ⟨σ', μ', w1, w2, w3, w4, w5, w6⟩ := r_evict h hh d2 y1
          refine ⟨hd, _, σ', μ', hh, ?_, ?_, w3, w4, w5, w6⟩
          · rw [ea, eg, ze_bnd, if_neg (by decide), h.ha]
            show fX3_freeByClock_14_b (fX3_freeByClock_14 n) (nI hd) (nI (2 * F)) (nI (j + 1)) s = _
            have e69 : fX3_freeByClock_69 (nI hd) s = some (nI hd, σ') := by
              unfold fX3_freeByClock_69 fX3_freeByClock_82
              rw [if_neg (ze_nm (by omega)), if_neg (ze_nm (by omega)), w1]
            unfold fX3_freeByClock_14_b
            rw [e69, if_neg (ze_nm (j := hd) (by omega))]
            split <;> rfl
          · rw [eb, w2, ze_bnd]
    · rw [if_neg c1] at eb
      refine cont (si (si s 6 hd (gi s 0 10)) 7 hd 0) (si (si s' 2 hd (gi s 0 10)) 3 hd 0) (h.mark (by omega) (hfull hd hh) (Or.inl rfl)) hfull ?_ ?_ Keep.mark ?_ ?_ ?_
      · rcases hob with ⟨f, x, a1, a2, a3⟩ | q3
        · refine Or.inl ⟨f, x, a1, a2, ?_⟩
          simp (disch := omega) only [reduceIte, Nat.reduceEqDiff, Nat.reduceAdd, gi_si, gi_sr, gr_si, gr_sr, gN_si, gN_sr, ky_e, ky_l, ky_r, kw_e, kw_1, kw_2, kw_l, kw_r, ite_self, if_true, if_false]
          exact a3
        · exact Or.inr q3
      · intro x w
        simp (disch := omega) only [reduceIte, Nat.reduceEqDiff, Nat.reduceAdd, gi_si, gi_sr, gr_si, gr_sr, gN_si, gN_sr, ky_e, ky_l, ky_r, kw_e, kw_1, kw_2, kw_l, kw_r, ite_self, if_true, if_false]
        exact hX x w
      · intro x w
        simp (disch := omega) only [reduceIte, Nat.reduceEqDiff, Nat.reduceAdd, gi_si, gi_sr, gr_si, gr_sr, gN_si, gN_sr, ky_e, ky_l, ky_r, kw_e, kw_1, kw_2, kw_l, kw_r, ite_self, if_true, if_false]
        exact w
      · unfold fX3_givesWayWhenLookedAt
        rw [ze_ck (ze_inb (by omega) (by omega)), ze_c (by omega), if_neg c1, ze_ck (ze_inb (by omega) (by omega)), ze_ld, ze_ck (ze_inb (by omega) (by omega)), ze_ld, ze_sc (k := 7) (k' := 6) (by decide)]
        rfl
      · rw [eb, ze_sc (k := 3) (k' := 2) (by decide)]
theorem r_freed (h : Rel ι F hd P G z L X E σ μ) (hz : ∀ i, G ≤ i → z i = 0) (hfull : ∀ f, f < F → gr σ 5 f ≠ none) (hob : Ob F σ) (hX : ∀ x, X x → gi σ (ky x) 5 = 0) : Po ι F P G z L X E σ μ (fX3_freeByClock σ) (fX4_freed μ) := by
  have f12 := h.f12
  have := r_clock hz (2 * F) 0 1000 1000 hd σ μ (by omega) (by omega) (by omega) h hfull hob hX
  unfold fX3_freeByClock fX4_freed
  rw [h.fa, show (2 : Int32) * nI F = nI (2 * F) by rw [show (2 : Int32) = nI 2 from rfl, ze_mul]]
  exact this
end FR
