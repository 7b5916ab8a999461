/-! A cluster is written out alike -/
section WO
variable {ι : Nat → Nat} {F hd P G : Nat} {z : Nat → Nat} {L X E : Nat → Prop} {σ μ : pw_S}
theorem Keep.slot {σ μ : pw_S} {i x : Nat} {v u : Int32} (hx : gi σ (ky x) 5 = 1) : Keep σ μ (si (si (sr σ 9 i (some (ky x))) (ky x) 4 v) (ky x) 5 0) (si μ 4 i u) := by
  refine ⟨rfl, fun _ => rfl, fun _ => rfl, fun j => ?_, fun y => ?_, fun y => ?_, fun y j => ?_, fun _ _ => rfl, fun _ => rfl, fun _ => rfl, fun _ => rfl, fun y h => ?_⟩
  · simp (disch := omega) only [reduceIte, Nat.reduceEqDiff, Nat.reduceAdd, gi_si, gi_sr, gr_si, gr_sr, gN_si, gN_sr, ky_e, ky_l, ky_r, kw_e, kw_1, kw_2, kw_l, kw_r, ite_self, if_true, if_false]
  · simp (disch := omega) only [reduceIte, Nat.reduceEqDiff, Nat.reduceAdd, gi_si, gi_sr, gr_si, gr_sr, gN_si, gN_sr, ky_e, ky_l, ky_r, kw_e, kw_1, kw_2, kw_l, kw_r, ite_self, if_true, if_false]
  · simp (disch := omega) only [reduceIte, Nat.reduceEqDiff, Nat.reduceAdd, gi_si, gi_sr, gr_si, gr_sr, gN_si, gN_sr, ky_e, ky_l, ky_r, kw_e, kw_1, kw_2, kw_l, kw_r, ite_self, if_true, if_false]
  · simp (disch := omega) only [reduceIte, Nat.reduceEqDiff, Nat.reduceAdd, gi_si, gi_sr, gr_si, gr_sr, gN_si, gN_sr, ky_e, ky_l, ky_r, kw_e, kw_1, kw_2, kw_l, kw_r, ite_self, if_true, if_false]
  · have hne : ¬ y = x := fun q => by rw [q, hx] at h; exact absurd h (by decide)
    exact ⟨by simp (disch := omega) only [reduceIte, Nat.reduceEqDiff, Nat.reduceAdd, gi_si, gi_sr, gr_si, gr_sr, gN_si, gN_sr, ky_e, ky_l, ky_r, kw_e, kw_1, kw_2, kw_l, kw_r, ite_self, if_true, if_false, hne]; exact h, by simp (disch := omega) only [reduceIte, Nat.reduceEqDiff, Nat.reduceAdd, gi_si, gi_sr, gr_si, gr_sr, gN_si, gN_sr, ky_e, ky_l, ky_r, kw_e, kw_1, kw_2, kw_l, kw_r, ite_self, if_true, if_false, hne]⟩
theorem KeepF.slot {σ : pw_S} {i x : Nat} {v : Int32} : KeepF σ (si (si (sr σ 9 i (some (ky x))) (ky x) 4 v) (ky x) 5 0) := by
  refine ⟨fun _ => rfl, fun f => ?_, fun f => ?_, fun y => ?_, ?_, ?_⟩ <;> simp (disch := omega) only [reduceIte, Nat.reduceEqDiff, Nat.reduceAdd, gi_si, gi_sr, gr_si, gr_sr, gN_si, gN_sr, ky_e, ky_l, ky_r, kw_e, kw_1, kw_2, kw_l, kw_r, ite_self, if_true, if_false]
/-- the slots of one cluster are given -/
theorem r_put {c : Nat → Nat} {d k i n : Nat} (hn1 : 1 ≤ n) (hk4 : k ≤ 4) (hnk : n ≤ k) (hi : i + n ≤ 24) :
    ∀ m t q q' s s', t + m = n → m < q → m < q' → Rel ι F hd P G z L X E s s' → (∀ j, j < k → L (c j) ∧ gr s 10 j = some (ky (c j)) ∧ gi s' 14 j = nI (ι (c j))) → (∀ j, t ≤ j → j < k → gi s (ky (c j)) 5 = 1) → (∀ i j, i < k → j < k → c i = c j → i = j) → (∀ j, t ≤ j → j < n → gr s 9 (i + j) = none) →
      ∃ s1 s1', fX2_putAll_3 q 10 (nI n) (nI i) (nI t) s = some ((), s1) ∧ (fX4_writeOut_42 q' (nI n) (nI i) (nI t) s' = some (nI n, si s1' 13 5 (gi s1' 13 5 + nI n))) ∧ Rel ι F hd P G z L X E s1 s1' ∧ Keep s s' s1 s1' ∧ KeepF s s1 ∧ (∀ j, t ≤ j → j < n → gi s1 (ky (c j)) 5 = 0) ∧ (∀ j, gi s1 11 j = gi s 11 j) ∧ (∀ j, gi s1' 13 j = gi s' 13 j) ∧ (∀ j, gi s1' 0 j = gi s' 0 j) := by
  intro m
  induction m with
  | zero =>
    intro t q q' s s' e hq hq' hR hC hD hU hS
    obtain ⟨q, rfl⟩ : ∃ w, q = w + 1 := ⟨q - 1, by omega⟩
    obtain ⟨q', rfl⟩ : ∃ w, q' = w + 1 := ⟨q' - 1, by omega⟩
    obtain rfl : t = n := by omega
    refine ⟨s, s', ?_, ?_, hR, Keep.rfl' _ _, ⟨fun _ => rfl, fun _ => rfl, fun _ => rfl, fun _ => rfl, rfl, rfl⟩, fun j q1 q2 => by omega, fun _ => rfl, fun _ => rfl, fun _ => rfl⟩
    · show fX2_putAll_3_b (fX2_putAll_3 q) 10 (nI t) (nI i) (nI t) s = _
      unfold fX2_putAll_3_b
      rw [if_pos (by rw [nI_leI] <;> omega)]
      rfl
    · show fX4_writeOut_42_b (fX4_writeOut_42 q') (nI t) (nI i) (nI t) s' = _
      unfold fX4_writeOut_42_b
      rw [if_pos (by rw [nI_leI] <;> omega), ze_ck (by decide), ze_ck (by decide), ze_ld]
      rfl
  | succ m ih =>
    intro t q q' s s' e hq hq' hR hC hD hU hS
    obtain ⟨q, rfl⟩ : ∃ w, q = w + 1 := ⟨q - 1, by omega⟩
    obtain ⟨q', rfl⟩ : ∃ w, q' = w + 1 := ⟨q' - 1, by omega⟩
    obtain ⟨c1, c2, c3⟩ := hC t (by omega)
    have hR2 := hR.slot (i := i + t) (d := c t) (by omega) (hS t (by omega) (by omega)) c1 (hD t (by omega) (by omega))
    have ea : fX2_putAll_3 (q + 1) 10 (nI n) (nI i) (nI t) s = fX2_putAll_3 q 10 (nI n) (nI i) (nI (t + 1)) (si (si (sr s 9 (i + t) (some (ky (c t)))) (ky (c t)) 4 (nI (i + t))) (ky (c t)) 5 0) := by
      show fX2_putAll_3_b (fX2_putAll_3 q) 10 (nI n) (nI i) (nI t) s = _
      unfold fX2_putAll_3_b fX2_putAll_62
      rw [if_neg (by rw [nI_leI] <;> omega), ze_ck (by decide), show (shP 10).2.2.1 = 4 from rfl, if_neg (by rw [nI_leI] <;> omega), nI_add, if_neg (by rw [le24] <;> omega), ze_ck (by decide), ze_ck (ze_inb (by omega) (by omega)), ze_ld, ze_c (by omega), c2, ze_ocs, ze_ck (hR.ok c1), ze_ck (ze_inb (by omega) (by omega)), ze_ld, ze_ld, ze_ld, ze_c (by omega), nI_1]
    have eb : fX4_writeOut_42 (q' + 1) (nI n) (nI i) (nI t) s' = fX4_writeOut_42 q' (nI n) (nI i) (nI (t + 1)) (si s' 4 (i + t) (nI (ι (c t)))) := by
      show fX4_writeOut_42_b (fX4_writeOut_42 q') (nI n) (nI i) (nI t) s' = _
      unfold fX4_writeOut_42_b
      rw [if_neg (by rw [nI_leI] <;> omega), ze_ck (ze_inb (by omega) (by omega)), nI_add, ze_ck (ze_inb (by omega) (by omega)), ze_ld, ze_c (by omega), ze_c (by omega), c3, nI_1]
    obtain ⟨s1, s1', r1, r2, r3, r4, r5, r6, r7, r8, r9⟩ := ih (t + 1) q q' _ _ (by omega) (by omega) (by omega) hR2 (fun j hj => hC j hj) (fun j q1 q2 => by
      have hne : c j ≠ c t := fun w => by have := hU _ _ q2 (by omega) w; omega
      simp (disch := omega) only [reduceIte, Nat.reduceEqDiff, Nat.reduceAdd, gi_si, gi_sr, gr_si, gr_sr, gN_si, gN_sr, ky_e, ky_l, ky_r, kw_e, kw_1, kw_2, kw_l, kw_r, ite_self, if_true, if_false, hne]
      exact hD j (by omega) q2) hU (fun j q1 q2 => by
      have hne : i + j ≠ i + t := by omega
      simp (disch := omega) only [reduceIte, Nat.reduceEqDiff, Nat.reduceAdd, gi_si, gi_sr, gr_si, gr_sr, gN_si, gN_sr, ky_e, ky_l, ky_r, kw_e, kw_1, kw_2, kw_l, kw_r, ite_self, if_true, if_false, hne]
      exact hS j (by omega) q2)
    refine ⟨s1, s1', ea.trans r1, eb.trans r2, r3, Keep.trans (Keep.slot (hD t (by omega) (by omega))) r4, KeepF.trans KeepF.slot r5, fun j q1 q2 => ?_, fun j => ?_, fun j => r8 j, fun j => r9 j⟩
    · by_cases w : j = t
      · subst w
        refine (r4.2.2.2.2.2.2.2.2.2.2.2 (c j) ?_).1
        simp (disch := omega) only [reduceIte, Nat.reduceEqDiff, Nat.reduceAdd, gi_si, gi_sr, gr_si, gr_sr, gN_si, gN_sr, ky_e, ky_l, ky_r, kw_e, kw_1, kw_2, kw_l, kw_r, ite_self, if_true, if_false]
      · exact r6 j (by omega) q2
    · rw [r7 j]
      simp (disch := omega) only [reduceIte, Nat.reduceEqDiff, Nat.reduceAdd, gi_si, gi_sr, gr_si, gr_sr, gN_si, gN_sr, ky_e, ky_l, ky_r, kw_e, kw_1, kw_2, kw_l, kw_r, ite_self, if_true, if_false]
theorem Keep.cnt {σ μ : pw_S} {i j : Nat} {v w : Int32} : Keep σ μ (si σ 11 i v) (si μ 13 j w) := by
  refine ⟨rfl, fun _ => rfl, fun _ => rfl, fun j => ?_, fun y => ?_, fun y => ?_, fun y j => ?_, fun _ _ => rfl, fun _ => rfl, fun _ => rfl, fun _ => rfl, fun y h => ?_⟩
  · simp (disch := omega) only [reduceIte, Nat.reduceEqDiff, Nat.reduceAdd, gi_si, gi_sr, gr_si, gr_sr, gN_si, gN_sr, ky_e, ky_l, ky_r, kw_e, kw_1, kw_2, kw_l, kw_r, ite_self, if_true, if_false]
  · simp (disch := omega) only [reduceIte, Nat.reduceEqDiff, Nat.reduceAdd, gi_si, gi_sr, gr_si, gr_sr, gN_si, gN_sr, ky_e, ky_l, ky_r, kw_e, kw_1, kw_2, kw_l, kw_r, ite_self, if_true, if_false]
  · simp (disch := omega) only [reduceIte, Nat.reduceEqDiff, Nat.reduceAdd, gi_si, gi_sr, gr_si, gr_sr, gN_si, gN_sr, ky_e, ky_l, ky_r, kw_e, kw_1, kw_2, kw_l, kw_r, ite_self, if_true, if_false]
  · simp (disch := omega) only [reduceIte, Nat.reduceEqDiff, Nat.reduceAdd, gi_si, gi_sr, gr_si, gr_sr, gN_si, gN_sr, ky_e, ky_l, ky_r, kw_e, kw_1, kw_2, kw_l, kw_r, ite_self, if_true, if_false]
  · exact ⟨by simp (disch := omega) only [reduceIte, Nat.reduceEqDiff, Nat.reduceAdd, gi_si, gi_sr, gr_si, gr_sr, gN_si, gN_sr, ky_e, ky_l, ky_r, kw_e, kw_1, kw_2, kw_l, kw_r, ite_self, if_true, if_false]; exact h, by simp (disch := omega) only [reduceIte, Nat.reduceEqDiff, Nat.reduceAdd, gi_si, gi_sr, gr_si, gr_sr, gN_si, gN_sr, ky_e, ky_l, ky_r, kw_e, kw_1, kw_2, kw_l, kw_r, ite_self, if_true, if_false]⟩
theorem KeepF.cnt {σ : pw_S} {i : Nat} {v : Int32} : KeepF σ (si σ 11 i v) := by
  refine ⟨fun _ => rfl, fun f => ?_, fun f => ?_, fun y => ?_, ?_, ?_⟩ <;> simp (disch := omega) only [reduceIte, Nat.reduceEqDiff, Nat.reduceAdd, gi_si, gi_sr, gr_si, gr_sr, gN_si, gN_sr, ky_e, ky_l, ky_r, kw_e, kw_1, kw_2, kw_l, kw_r, ite_self, if_true, if_false]
/-- the longest part of the cluster for which there is room -/
theorem r_out {c : Nat → Nat} {d k : Nat} (hk4 : k ≤ 4) {s s' : pw_S} (hR : Rel ι F hd P G z L X E s s') (hC : CluC ι L d k c s s') :
    ∀ n q q', n ≤ k → n < q → n < q' → ∃ r s1 s1', r ≤ 4 ∧ fX3_writeOut_33 q (nI n) s = some (nI r, s1) ∧ fX4_writeOut_6 q' (nI n) s' = some (nI r, s1') ∧ Rel ι F hd P G z L X E s1 s1' ∧ Keep s s' s1 s1' ∧ KeepF s s1 ∧ (∀ j, gi s1' 0 j = gi s' 0 j) ∧ (1 ≤ n → (∃ i, i < 24 ∧ gr s 9 i = none) → gi s1 (ky d) 5 = 0) := by
  obtain ⟨C1, C2, C3⟩ := hC
  intro n
  induction n with
  | zero =>
    intro q q' hn hq hq'
    obtain ⟨q, rfl⟩ : ∃ w, q = w + 1 := ⟨q - 1, by omega⟩
    obtain ⟨q', rfl⟩ : ∃ w, q' = w + 1 := ⟨q' - 1, by omega⟩
    refine ⟨0, s, si s' 13 5 (gi s' 13 5 + 0), by omega, ?_, ?_, ?_, ?_, ⟨fun _ => rfl, fun _ => rfl, fun _ => rfl, fun _ => rfl, rfl, rfl⟩, fun _ => rfl, fun w => by omega⟩
    · show fX3_writeOut_33_b (fX3_writeOut_33 q) (nI 0) s = _
      unfold fX3_writeOut_33_b
      rw [if_pos (by decide)]
      rfl
    · show fX4_writeOut_6_b (fX4_writeOut_6 q') (nI 0) s' = _
      unfold fX4_writeOut_6_b fX4_writeOut_25 fX4_writeOut_38
      rw [if_pos (by decide), if_pos (by decide)]
      show fX4_writeOut_42_b (fX4_writeOut_42 999) (nI 0) 0 0 s' = _
      unfold fX4_writeOut_42_b
      rw [if_pos (by decide), ze_ck (by decide), ze_ck (by decide), ze_ld]
      rfl
    · rw [Int32.add_zero, ze_si rfl]; exact hR
    · rw [Int32.add_zero, ze_si rfl]; exact Keep.rfl' _ _
  | succ n ih =>
    intro q q' hn hq hq'
    obtain ⟨q, rfl⟩ : ∃ w, q = w + 1 := ⟨q - 1, by omega⟩
    obtain ⟨q', rfl⟩ : ∃ w, q' = w + 1 := ⟨q' - 1, by omega⟩
    obtain ⟨o, o1, o2⟩ := room_spec (σ := s) (a := n + 1) (by omega) (by omega)
    obtain ⟨o', o3, o4⟩ := r_room hR (nI (n + 1))
    rw [o1] at o3
    obtain rfl : o = o' := (Prod.mk.inj (Option.some.inj o3)).1
    have n0 : ¬ nI (n + 1) ≤ 0 := by
      rw [show (0 : Int32) = nI 0 from rfl, nI_leI (by omega) (by omega)]; omega
    have ea : fX3_writeOut_33 (q + 1) (nI (n + 1)) s = (if o = -1 then fX3_writeOut_33 q (nI n) s else bnd (fX2_putAll 10 (nI (n + 1)) o s) (fun r11 σ12 => some (nI (n + 1), si σ12 11 5 (gi σ12 11 5 + nI (n + 1))))) := by
      show fX3_writeOut_33_b (fX3_writeOut_33 q) (nI (n + 1)) s = _
      unfold fX3_writeOut_33_b
      rw [if_neg n0, o1, ze_bnd, show nI (n + 1) + -1 = nI n by rw [← Int32.sub_eq_add_neg, ze_pred]]
      rfl
    have eb : fX4_writeOut_6 (q' + 1) (nI (n + 1)) s' = (if o = -1 then fX4_writeOut_6 q' (nI n) s' else fX4_writeOut_42 1000 (nI (n + 1)) o 0 s') := by
      show fX4_writeOut_6_b (fX4_writeOut_6 q') (nI (n + 1)) s' = _
      unfold fX4_writeOut_6_b fX4_writeOut_25 fX4_writeOut_38
      rw [if_neg n0, o4, ze_bnd, if_neg n0, o4, ze_bnd, show nI (n + 1) + -1 = nI n by rw [← Int32.sub_eq_add_neg, ze_pred]]
    rw [ea, eb]
    rcases o2 with ⟨o2, o5⟩ | ⟨i, o2, o5, o6⟩
    · rw [if_pos o2, if_pos o2]
      obtain ⟨r, s1, s1', r1, r2, r3, r4, r5, r6, r7, r8⟩ := ih q q' (by omega) (by omega) (by omega)
      refine ⟨r, s1, s1', r1, r2, r3, r4, r5, r6, r7, fun w hx => ?_⟩
      by_cases e : n = 0
      · subst e
        obtain ⟨i, x1, x2⟩ := hx
        exact absurd x2 (o5 rfl i x1)
      · exact r8 (by omega) hx
    · rw [o2, if_neg (ze_nm (by omega)), if_neg (ze_nm (by omega))]
      obtain ⟨s1, s1', r1, r2, r3, r4, r5, r6, r7, r8, r9⟩ := r_put (c := c) (d := d) (k := k) (i := i) (n := n + 1) (by omega) hk4 hn o5 (n + 1) 0 1000 1000 s s' (by omega) (by omega) (by omega) hR (fun j hj => ⟨(C2 j hj).1, (C2 j hj).2.2⟩) (fun j _ hj => (C2 j hj).2.1) C3 (fun j _ hj => o6 j hj)
      refine ⟨n + 1, si s1 11 5 (gi s1 11 5 + nI (n + 1)), si s1' 13 5 (gi s1' 13 5 + nI (n + 1)), by omega, ?_, r2, ?_, Keep.trans r4 Keep.cnt, KeepF.trans r5 KeepF.cnt, fun j => r9 j, fun _ _ => ?_⟩
      · unfold fX2_putAll
        rw [show fX2_putAll_3 1000 10 (nI (n + 1)) (nI i) 0 s = some ((), s1) from r1, ze_bnd]
      · rw [r3.cs 5 (by omega)]
        exact r3.count 5 _
      · have := r6 0 (by omega) (by omega)
        rw [C1] at this
        simp (disch := omega) only [reduceIte, Nat.reduceEqDiff, Nat.reduceAdd, gi_si, gi_sr, gr_si, gr_sr, gN_si, gN_sr, ky_e, ky_l, ky_r, kw_e, kw_1, kw_2, kw_l, kw_r, ite_self, if_true, if_false]
        exact this
/-- both write a dirty content out, with its cluster -/
theorem r_writeOut (h : Rel ι F hd P G z L X E σ μ) (hz : ∀ i, G ≤ i → z i = 0) {d : Nat} (hL : L d) (hX : ¬ X d) (hdi : gi σ (ky d) 5 = 1) :
    ∃ r s1 s1', r ≤ 4 ∧ fX3_writeOut (some (ky d)) σ = some (nI r, s1) ∧ fX4_writeOut (nI (ι d)) μ = some (nI r, s1') ∧ Rel ι F hd P G z L X E s1 s1' ∧ Keep σ μ s1 s1' ∧ KeepF σ s1 ∧ (∀ j, gi s1' 0 j = gi μ 0 j) ∧ ((∃ i, i < 24 ∧ gr σ 9 i = none) → gi s1 (ky d) 5 = 0) := by
  obtain ⟨k, s, s', c, k1, k2, k3, k4, k5, k6, k7, k8, k9, k10⟩ := r_cluster h hz hL hX hdi
  obtain ⟨r, s1, s1', r1, r2, r3, r4, r5, r6, r7, r8⟩ := r_out k2 k5 k6 k 1000 1000 (by omega) (by omega) (by omega)
  have kk : Keep σ μ s s' := ⟨k9, fun _ => k7 _ _ (by omega), fun _ => k7 _ _ (by omega), fun _ => k8 _ _, fun _ => k8 _ _, fun _ => k8 _ _, fun _ _ => k8 _ _, fun _ _ => k10 _ _ (by omega), fun _ => k10 _ _ (by omega), fun _ => k10 _ _ (by omega), fun _ => k10 _ _ (by omega), fun x w => ⟨by rw [k8]; exact w, k8 _ _⟩⟩
  have kf : KeepF σ s := ⟨fun _ => k7 _ _ (by omega), fun _ => k8 _ _, fun _ => k8 _ _, fun _ => k8 _ _, k8 _ _, k8 _ _⟩
  refine ⟨r, s1, s1', r1, by rw [k3]; exact r2, ?_, r4, kk.trans r5, kf.trans r6, fun j => (r7 j).trans (k10 _ _ (by omega)), fun hx => r8 k1 ?_⟩
  · unfold fX4_writeOut
    rw [k4, ze_bnd]
    exact r3
  · obtain ⟨i, x1, x2⟩ := hx
    exact ⟨i, x1, by rw [k7 _ _ (by omega)]; exact x2⟩
end WO
