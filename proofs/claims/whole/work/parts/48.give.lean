/-! GIVING FRAMES: giveFrame and take, the prefetch, bringIn and bring -/
section GV
variable {ι : Nat → Nat} {F hd P G : Nat} {z : Nat → Nat} {L X E : Nat → Prop} {σ μ : pw_S}
/-- a frame is free, or one can be had -/
def Ob1 (F : Nat) (s : pw_S) : Prop := (∃ f, f < F ∧ gr s 5 f = none) ∨ Ob F s
theorem Keep.put {σ μ : pw_S} {x f i j : Nat} {a b u v w c : Int32} : Keep σ μ (si (si (si (si (sr σ 5 f (some (ky x))) 6 f a) 7 f 0) (ky x) 3 b) 11 i c) (si (si (si (si μ 1 f u) 2 f v) 3 f 0) 13 j w) := by
  refine ⟨rfl, fun _ => rfl, fun _ => rfl, fun j => ?_, fun y => ?_, fun y => ?_, fun y j => ?_, fun _ _ => rfl, fun _ => rfl, fun _ => rfl, fun _ => rfl, fun y h => ?_⟩
  · simp (disch := omega) only [reduceIte, Nat.reduceEqDiff, Nat.reduceAdd, gi_si, gi_sr, gr_si, gr_sr, gN_si, gN_sr, ky_e, ky_l, ky_r, kw_e, kw_1, kw_2, kw_l, kw_r, ite_self, if_true, if_false]
  · simp (disch := omega) only [reduceIte, Nat.reduceEqDiff, Nat.reduceAdd, gi_si, gi_sr, gr_si, gr_sr, gN_si, gN_sr, ky_e, ky_l, ky_r, kw_e, kw_1, kw_2, kw_l, kw_r, ite_self, if_true, if_false]
  · simp (disch := omega) only [reduceIte, Nat.reduceEqDiff, Nat.reduceAdd, gi_si, gi_sr, gr_si, gr_sr, gN_si, gN_sr, ky_e, ky_l, ky_r, kw_e, kw_1, kw_2, kw_l, kw_r, ite_self, if_true, if_false]
  · simp (disch := omega) only [reduceIte, Nat.reduceEqDiff, Nat.reduceAdd, gi_si, gi_sr, gr_si, gr_sr, gN_si, gN_sr, ky_e, ky_l, ky_r, kw_e, kw_1, kw_2, kw_l, kw_r, ite_self, if_true, if_false]
  · exact ⟨by simp (disch := omega) only [reduceIte, Nat.reduceEqDiff, Nat.reduceAdd, gi_si, gi_sr, gr_si, gr_sr, gN_si, gN_sr, ky_e, ky_l, ky_r, kw_e, kw_1, kw_2, kw_l, kw_r, ite_self, if_true, if_false]; exact h, by simp (disch := omega) only [reduceIte, Nat.reduceEqDiff, Nat.reduceAdd, gi_si, gi_sr, gr_si, gr_sr, gN_si, gN_sr, ky_e, ky_l, ky_r, kw_e, kw_1, kw_2, kw_l, kw_r, ite_self, if_true, if_false]⟩
theorem r_put1 (h : Rel ι F hd P G z L X E σ μ) {d f : Nat} {t : Int32} (hL : L d) (hf : f < F) : fX1_put (ky d) (nI f) t σ = some ((), si (si (si (sr σ 5 f (some (ky d))) 6 f t) 7 f 0) (ky d) 3 (nI f)) := by
  have f12 := h.f12
  unfold fX1_put
  rw [ze_ck (h.ok hL), ze_ck (ze_inb (by omega) (by omega)), ze_ld, ze_ck (ze_inb (by omega) (by omega)), ze_ld, ze_ck (ze_inb (by omega) (by omega)), ze_ld, ze_ld, ze_c (by omega)]
theorem r_put0 (h : Rel ι F hd P G z L X E σ μ) {d f i : Nat} (hL : L d) (hn : gi σ (ky d) 3 = -1) (hf : f < F) (ho : gr σ 5 f = none) (hi : i < 6) :
    ∃ σ' μ', fX3_giveFrame_18 (ky d) (nI i) (nI f) σ = some ((), σ') ∧ fX4_take_16 (nI (ι d)) (nI i) (nI f) μ = some ((), μ') ∧ Rel ι F hd P G z L X E σ' μ' ∧ Keep σ μ σ' μ' ∧ gi σ' (ky d) 3 = nI f ∧ (∀ y, gi σ (ky y) 3 ≠ -1 → gi σ' (ky y) 3 ≠ -1) ∧ σ' = si (si (si (si (sr σ 5 f (some (ky d))) 6 f (gi σ 0 10)) 7 f 0) (ky d) 3 (nI f)) 11 i (gi σ 11 i + 1) := by
  have f12 := h.f12
  have hr := (h.put (v := gi σ 0 10) hf ho hL hn).count i (gi σ 11 i + 1)
  refine ⟨_, _, ?_, ?_, hr, Keep.put, ?_, ?_, rfl⟩
  · unfold fX3_giveFrame_18
    rw [r_put1 h hL hf, ze_bnd, ze_ck (ze_inb hi (by omega)), ze_ck (ze_inb hi (by omega)), ze_ld, ze_c (by omega)]
    rw [show gi (si (si (si (sr σ 5 f (some (ky d))) 6 f (gi σ 0 10)) 7 f 0) (ky d) 3 (nI f)) 11 i = gi σ 11 i by simp (disch := omega) only [reduceIte, Nat.reduceEqDiff, Nat.reduceAdd, gi_si, gi_sr, gr_si, gr_sr, gN_si, gN_sr, ky_e, ky_l, ky_r, kw_e, kw_1, kw_2, kw_l, kw_r, ite_self, if_true, if_false]]
  · unfold fX4_take_16
    rw [ze_ck (ze_inb (by omega) (by omega)), ze_ld, ze_ck (ze_inb (by omega) (by omega)), ze_ld, ze_ck (ze_inb (by omega) (by omega)), ze_ld, ze_ck (ze_inb hi (by omega)), ze_ck (ze_inb hi (by omega)), ze_ld, ze_c (by omega), ze_c (by omega)]
    rw [show gi (si μ 1 f (nI (ι d))) 0 1 = gi σ 0 10 from h.tm.symm]
    rw [show gi (si (si (si μ 1 f (nI (ι d))) 2 f (gi σ 0 10)) 3 f 0) 13 i = gi σ 11 i from (h.cs i hi).symm]
  · simp (disch := omega) only [reduceIte, Nat.reduceEqDiff, Nat.reduceAdd, gi_si, gi_sr, gr_si, gr_sr, gN_si, gN_sr, ky_e, ky_l, ky_r, kw_e, kw_1, kw_2, kw_l, kw_r, ite_self, if_true, if_false]
  · intro y hy
    simp (disch := omega) only [reduceIte, Nat.reduceEqDiff, Nat.reduceAdd, gi_si, gi_sr, gr_si, gr_sr, gN_si, gN_sr, ky_e, ky_l, ky_r, kw_e, kw_1, kw_2, kw_l, kw_r, ite_self, if_true, if_false]
    split
    · exact ze_nm (by omega)
    · exact hy
theorem r_give (h : Rel ι F hd P G z L X E σ μ) (hz : ∀ i, G ≤ i → z i = 0) {d i : Nat} (hL : L d) (hn : gi σ (ky d) 3 = -1) (hob : Ob1 F σ) (hX : ∀ x, X x → gi σ (ky x) 5 = 0) (hi : i < 6) :
    ∃ hd' σ' μ', fX3_giveFrame (ky d) (nI i) σ = some ((), σ') ∧ fX4_take (nI (ι d)) (nI i) μ = some ((), μ') ∧ Rel ι F hd' P G z L X E σ' μ' ∧ Keep σ μ σ' μ' ∧ gi σ' (ky d) 3 ≠ -1 := by
  have f12 := h.f12
  obtain ⟨o, s1, s2, s3⟩ := r_sf h
  unfold fX3_giveFrame fX4_take
  rw [s1, s2, ze_bnd, ze_bnd]
  rcases s3 with ⟨rfl, hfull⟩ | ⟨f, f1, rfl, f2⟩
  · rw [if_pos rfl, if_pos rfl]
    have hob' : Ob F σ := by
      rcases hob with ⟨f, a, b⟩ | q
      · exact absurd b (hfull f a)
      · exact q
    obtain ⟨f, hd', σ1, μ1, p1, p2, p3, p4, p5, p6, p7⟩ := r_freed h hz hfull hob' hX
    rw [p2, p3, ze_bnd, ze_bnd]
    obtain ⟨σ', μ', g1, g2, g3, g4, g5, _⟩ := r_put0 p4 (i := i) hL (p7 d hn) p1 p5 hi
    exact ⟨hd', σ', μ', g1, g2, g3, p6.trans g4, by rw [g5]; exact ze_nm (by omega)⟩
  · rw [if_neg (ze_nm (by omega)), if_neg (ze_nm (by omega))]
    obtain ⟨σ', μ', g1, g2, g3, g4, g5, _⟩ := r_put0 h (i := i) hL hn f1 f2 hi
    exact ⟨hd, σ', μ', g1, g2, g3, g4, by rw [g5]; exact ze_nm (by omega)⟩
theorem r_pref {t : Nat} (ht : t < 24) : ∀ m k n n' s s', k + m = 4 → m < n → m < n' → Rel ι F hd P G z L X E s s' → ∃ σ' μ', fX3_prefetchBehind_4 n (nI t) (nI (t + k)) s = some ((), σ') ∧ fX4_bring_33 n' (nI t) (nI k) s' = some ((), μ') ∧ Rel ι F hd P G z L X E σ' μ' ∧ Keep s s' σ' μ' ∧ ∀ y, gi s (ky y) 3 ≠ -1 → gi σ' (ky y) 3 ≠ -1 := by
  intro m
  induction m with
  | zero =>
    intro k n n' s s' e hn hn' h
    obtain ⟨n, rfl⟩ : ∃ w, n = w + 1 := ⟨n - 1, by omega⟩
    obtain ⟨n', rfl⟩ : ∃ w, n' = w + 1 := ⟨n' - 1, by omega⟩
    obtain rfl : k = 4 := by omega
    refine ⟨s, s', ?_, ?_, h, Keep.rfl' _ _, fun _ q => q⟩
    · show fX3_prefetchBehind_4_b (fX3_prefetchBehind_4 n) (nI t) (nI (t + 4)) s = _
      unfold fX3_prefetchBehind_4_b
      rw [if_pos (by rw [show (3 : Int32) = nI 3 from rfl, nI_add, nI_ltI] <;> omega)]
      rfl
    · show fX4_bring_33_b (fX4_bring_33 n') (nI t) (nI 4) s' = _
      unfold fX4_bring_33_b
      rw [if_pos (by decide)]
      rfl
  | succ m ih =>
    intro k n n' s s' e hn hn' h
    have f12 := h.f12
    obtain ⟨n, rfl⟩ : ∃ w, n = w + 1 := ⟨n - 1, by omega⟩
    obtain ⟨n', rfl⟩ : ∃ w, n' = w + 1 := ⟨n' - 1, by omega⟩
    have c1 : ¬ nI t + 3 < nI (t + k) := by rw [show (3 : Int32) = nI 3 from rfl, nI_add, nI_ltI] <;> omega
    have c2 : ¬ (3 : Int32) < nI k := by rw [show (3 : Int32) = nI 3 from rfl, nI_ltI] <;> omega
    have c3 : ¬ nI t = -1 := ze_nm (by omega)
    by_cases q : 24 ≤ t + k
    · refine ⟨s, s', ?_, ?_, h, Keep.rfl' _ _, fun _ q => q⟩
      · show fX3_prefetchBehind_4_b (fX3_prefetchBehind_4 n) (nI t) (nI (t + k)) s = _
        unfold fX3_prefetchBehind_4_b
        rw [if_neg c1, if_pos (by rw [le24] <;> omega)]
        rfl
      · show fX4_bring_33_b (fX4_bring_33 n') (nI t) (nI k) s' = _
        unfold fX4_bring_33_b
        rw [if_neg c2, if_neg c3, nI_add, if_pos (by rw [le24] <;> omega)]
        rfl
    have q1 : ¬ (24 : Int32) ≤ nI (t + k) := by rw [le24] <;> omega
    obtain ⟨o, s1, s2, s3⟩ := r_sf h
    have ea : fX3_prefetchBehind_4 (n + 1) (nI t) (nI (t + k)) s = oc (gr s 9 (t + k)) (fX3_prefetchBehind_4 n (nI t) (nI (t + (k + 1))) s) (fun q15 => ck (okc s q15) (if gi s q15 3 = -1 then (if o = -1 then fX3_prefetchBehind_4 n (nI t) (nI (t + (k + 1))) s else bnd (fX1_put q15 o (gi s 0 10) s) (fun r20 σ21 => fX3_prefetchBehind_4 n (nI t) (nI (t + (k + 1))) (si σ21 11 3 (gi σ21 11 3 + 1)))) else fX3_prefetchBehind_4 n (nI t) (nI (t + (k + 1))) s)) := by
      show fX3_prefetchBehind_4_b (fX3_prefetchBehind_4 n) (nI t) (nI (t + k)) s = _
      unfold fX3_prefetchBehind_4_b fX3_prefetchBehind_78
      rw [if_neg c1, if_neg q1, ze_ck (ze_inb (by omega) (by omega)), ze_c (by omega), ze_ld, s1, ze_bnd, nI_1]
      rfl
    have eb : fX4_bring_33 (n' + 1) (nI t) (nI k) s' = (if gi s' 4 (t + k) = -1 then fX4_bring_33 n' (nI t) (nI (k + 1)) s' else bnd (fX4_frameWith (gi s' 4 (t + k)) s') (fun r14 σ15 => if r14 = -1 then bnd (fX4_frameWith (-1) σ15) (fun r18 σ19 => if r18 = -1 then fX4_bring_33 n' (nI t) (nI (k + 1)) σ19 else bnd (fX4_take (gi s' 4 (t + k)) 3 σ19) (fun r22 σ23 => fX4_bring_33 n' (nI t) (nI (k + 1)) σ23)) else fX4_bring_33 n' (nI t) (nI (k + 1)) σ15)) := by
      show fX4_bring_33_b (fX4_bring_33 n') (nI t) (nI k) s' = _
      unfold fX4_bring_33_b fX4_bring_93
      rw [if_neg c2, if_neg c3, nI_add, if_neg q1, ze_ck (ze_inb (by omega) (by omega)), ze_c (by omega), nI_1]
    have same : fX3_prefetchBehind_4 (n + 1) (nI t) (nI (t + k)) s = fX3_prefetchBehind_4 n (nI t) (nI (t + (k + 1))) s → fX4_bring_33 (n' + 1) (nI t) (nI k) s' = fX4_bring_33 n' (nI t) (nI (k + 1)) s' → ∃ σ' μ', fX3_prefetchBehind_4 (n + 1) (nI t) (nI (t + k)) s = some ((), σ') ∧ fX4_bring_33 (n' + 1) (nI t) (nI k) s' = some ((), μ') ∧ Rel ι F hd P G z L X E σ' μ' ∧ Keep s s' σ' μ' ∧ ∀ y, gi s (ky y) 3 ≠ -1 → gi σ' (ky y) 3 ≠ -1 := by
      intro e1 e2
      rw [e1, e2]
      exact ih (k + 1) n n' s s' (by omega) (by omega) (by omega) h
    rcases h.sl (t + k) (by omega) with ⟨a, b⟩ | ⟨d, a, b1, b2, b3⟩
    · refine same ?_ ?_
      · rw [ea, a, ze_ocn]
      · rw [eb, if_pos b]
    · rw [a, ze_ocs, ze_ck (h.ok b1)] at ea
      rw [b2, if_neg (h.im b1), r_fw h b1, ze_bnd, s2, ze_bnd] at eb
      by_cases c4 : gi s (ky d) 3 = -1
      · rw [if_pos c4] at ea eb
        rcases s3 with ⟨rfl, _⟩ | ⟨f, f1, rfl, f2⟩
        · rw [if_pos rfl] at ea eb
          exact same ea eb
        · rw [if_neg (ze_nm (by omega))] at ea eb
          obtain ⟨σ', μ', g1, g2, g3, g4, g5, g6, g7⟩ := r_put0 h (i := 3) b1 c4 f1 f2 (by omega)
          obtain ⟨σ2, μ2, k1, k2, k3, k4, k5⟩ := ih (k + 1) n n' σ' μ' (by omega) (by omega) (by omega) g3
          refine ⟨σ2, μ2, ?_, ?_, k3, g4.trans k4, fun y hy => k5 y (g6 y hy)⟩
          · rw [ea, r_put1 h b1 f1, ze_bnd, ← k1, g7]
            rw [show gi (si (si (si (sr s 5 f (some (ky d))) 6 f (gi s 0 10)) 7 f 0) (ky d) 3 (nI f)) 11 3 = gi s 11 3 by simp (disch := omega) only [reduceIte, Nat.reduceEqDiff, Nat.reduceAdd, gi_si, gi_sr, gr_si, gr_sr, gN_si, gN_sr, ky_e, ky_l, ky_r, kw_e, kw_1, kw_2, kw_l, kw_r, ite_self, if_true, if_false]]
          · rw [eb]
            unfold fX4_take
            rw [s2, ze_bnd, if_neg (ze_nm (by omega)), show fX4_take_16 (nI (ι d)) 3 (nI f) s' = some ((), μ') from g2, ze_bnd, k2]
      · rw [if_neg c4] at ea eb
        exact same ea eb
theorem r_bring (h : Rel ι F hd P G z L X E σ μ) (hz : ∀ i, G ≤ i → z i = 0) {d : Nat} (hL : L d) (hob : gi σ (ky d) 3 = -1 → Ob1 F σ) (hX : ∀ x, X x → gi σ (ky x) 5 = 0) :
    ∃ hd' σ' μ', fX3_bringIn (ky d) σ = some ((), σ') ∧ fX4_bring (nI (ι d)) μ = some ((), μ') ∧ Rel ι F hd' P G z L X E σ' μ' ∧ Keep σ μ σ' μ' ∧ gi σ' (ky d) 3 ≠ -1 ∧ (gi σ (ky d) 3 ≠ -1 → σ' = σ) := by
  unfold fX3_bringIn fX4_bring
  rw [ze_ck (h.ok hL), r_fw h hL, ze_bnd]
  by_cases c : gi σ (ky d) 3 = -1
  · rw [if_pos c, if_pos c, r_sw h hL, ze_bnd]
    have h5 : gi σ (ky d) 5 = 0 := by
      rcases h.di d hL with ⟨_, _, _, a⟩ | ⟨a, _⟩
      · exact absurd c a
      · exact a
    by_cases c2 : gi σ (ky d) 4 = -1
    · rw [if_pos c2, if_pos c2]
      obtain ⟨hd', σ', μ', g1, g2, g3, g4, g5⟩ := r_give h hz (i := 0) hL c (hob c) hX (by omega)
      refine ⟨hd', σ', μ', ?_, ?_, g3, g4, g5, fun q => absurd c q⟩
      · rw [show fX3_giveFrame (ky d) 0 σ = some ((), σ') from g1, ze_bnd]
      · unfold fX4_bring_28
        rw [show fX4_take (nI (ι d)) 0 μ = some ((), μ') from g2, ze_bnd, c2]
        show fX4_bring_33_b (fX4_bring_33 999) (-1) 1 μ' = _
        unfold fX4_bring_33_b
        rw [if_neg (by decide), if_pos rfl]
        rfl
    · rw [if_neg c2, if_neg c2]
      obtain ⟨hd', σ', μ', g1, g2, g3, g4, g5⟩ := r_give h hz (i := 1) hL c (hob c) hX (by omega)
      rcases h.ds d hL with q | ⟨t, t1, t2, t3⟩
      · exact absurd q c2
      obtain ⟨σ2, μ2, k1, k2, k3, k4, k5⟩ := r_pref t1 3 1 1000 1000 σ' μ' (by omega) (by omega) (by omega) g3
      refine ⟨hd', σ2, μ2, ?_, ?_, k3, g4.trans k4, k5 d g5, fun q => absurd c q⟩
      · rw [show fX3_giveFrame (ky d) 1 σ = some ((), σ') from g1, ze_bnd, ze_ck (g3.ok hL), (g4.2.2.2.2.2.2.2.2.2.2.2 d h5).2, t2]
        unfold fX3_prefetchBehind
        rw [nI_1, k1, ze_bnd]
      · unfold fX4_bring_28
        rw [show fX4_take (nI (ι d)) 1 μ = some ((), μ') from g2, ze_bnd, t2]
        exact k2
  · rw [if_neg c, if_neg c]
    exact ⟨hd, σ, μ, rfl, rfl, h, Keep.rfl' _ _, c, fun _ => rfl⟩
end GV
