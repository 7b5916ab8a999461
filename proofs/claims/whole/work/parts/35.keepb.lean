/-! WHAT KEEPS THE RELATION: a page refers or no more, a content is made or vanishes, processes, segments -/
theorem ze_pred (n : Nat) : nI (n + 1) - 1 = nI n := by rw [← nI_1, Int32.add_sub_cancel]
theorem be_n {q : Nat} : ((none : Option Nat) == some q) = false := rfl
theorem be_s {q q' : Nat} : ((some q : Option Nat) == some q') = decide (q = q') := by
  rw [Bool.eq_iff_iff]; simp
section U
variable {ι : Nat → Nat} {F hd P G : Nat} {z : Nat → Nat} {L X E : Nat → Prop} {σ μ : pw_S}
theorem Rel.refer (h : Rel ι F hd P G z L X E σ μ) {k d : Nat} {v : Int32} (hk : k < 160) (hP : k < 16 * P) (ho : gr σ 1 k = none) (hL : L d) (hpn : gi σ (ky d) 1 = 0 → ∀ k', k' < 160 → gr σ 1 k' = some (ky d) → k' % 16 = k % 16) (hv : v = if gi σ (ky d) 1 = 0 then 1 else 2) : Rel ι F hd P G z L X E (si (sr σ 1 k (some (ky d))) (ky d) 6 (gi σ (ky d) 6 + 1)) (si (si μ 9 k v) 10 k (nI (ι d))) := by
  refine (Rel.mk' (by first | exact (have q := Rel.tm h; q) | (simpa (disch := omega) only [reduceIte, Nat.reduceEqDiff, Nat.reduceAdd, gi_si, gi_sr, gr_si, gr_sr, gN_si, gN_sr, ky_e, ky_l, ky_r, kw_e, kw_1, kw_2, kw_l, kw_r, ite_self, if_true, if_false] using Rel.tm h)) (by first | exact (have q := Rel.wn h; q) | (simpa (disch := omega) only [reduceIte, Nat.reduceEqDiff, Nat.reduceAdd, gi_si, gi_sr, gr_si, gr_sr, gN_si, gN_sr, ky_e, ky_l, ky_r, kw_e, kw_1, kw_2, kw_l, kw_r, ite_self, if_true, if_false] using Rel.wn h)) (by first | exact (have q := Rel.fa h; q) | (simpa (disch := omega) only [reduceIte, Nat.reduceEqDiff, Nat.reduceAdd, gi_si, gi_sr, gr_si, gr_sr, gN_si, gN_sr, ky_e, ky_l, ky_r, kw_e, kw_1, kw_2, kw_l, kw_r, ite_self, if_true, if_false] using Rel.fa h)) (by first | exact (have q := Rel.fb h; q) | (simpa (disch := omega) only [reduceIte, Nat.reduceEqDiff, Nat.reduceAdd, gi_si, gi_sr, gr_si, gr_sr, gN_si, gN_sr, ky_e, ky_l, ky_r, kw_e, kw_1, kw_2, kw_l, kw_r, ite_self, if_true, if_false] using Rel.fb h)) (by first | exact (have q := Rel.f4 h; q) | (simpa (disch := omega) only [reduceIte, Nat.reduceEqDiff, Nat.reduceAdd, gi_si, gi_sr, gr_si, gr_sr, gN_si, gN_sr, ky_e, ky_l, ky_r, kw_e, kw_1, kw_2, kw_l, kw_r, ite_self, if_true, if_false] using Rel.f4 h)) (by first | exact (have q := Rel.f12 h; q) | (simpa (disch := omega) only [reduceIte, Nat.reduceEqDiff, Nat.reduceAdd, gi_si, gi_sr, gr_si, gr_sr, gN_si, gN_sr, ky_e, ky_l, ky_r, kw_e, kw_1, kw_2, kw_l, kw_r, ite_self, if_true, if_false] using Rel.f12 h)) (by first | exact (have q := Rel.ha h; q) | (simpa (disch := omega) only [reduceIte, Nat.reduceEqDiff, Nat.reduceAdd, gi_si, gi_sr, gr_si, gr_sr, gN_si, gN_sr, ky_e, ky_l, ky_r, kw_e, kw_1, kw_2, kw_l, kw_r, ite_self, if_true, if_false] using Rel.ha h)) (by first | exact (have q := Rel.hb h; q) | (simpa (disch := omega) only [reduceIte, Nat.reduceEqDiff, Nat.reduceAdd, gi_si, gi_sr, gr_si, gr_sr, gN_si, gN_sr, ky_e, ky_l, ky_r, kw_e, kw_1, kw_2, kw_l, kw_r, ite_self, if_true, if_false] using Rel.hb h)) (by first | exact (have q := Rel.hh h; q) | (simpa (disch := omega) only [reduceIte, Nat.reduceEqDiff, Nat.reduceAdd, gi_si, gi_sr, gr_si, gr_sr, gN_si, gN_sr, ky_e, ky_l, ky_r, kw_e, kw_1, kw_2, kw_l, kw_r, ite_self, if_true, if_false] using Rel.hh h)) (by first | exact (have q := Rel.pa h; q) | (simpa (disch := omega) only [reduceIte, Nat.reduceEqDiff, Nat.reduceAdd, gi_si, gi_sr, gr_si, gr_sr, gN_si, gN_sr, ky_e, ky_l, ky_r, kw_e, kw_1, kw_2, kw_l, kw_r, ite_self, if_true, if_false] using Rel.pa h)) (by first | exact (have q := Rel.pb h; q) | (simpa (disch := omega) only [reduceIte, Nat.reduceEqDiff, Nat.reduceAdd, gi_si, gi_sr, gr_si, gr_sr, gN_si, gN_sr, ky_e, ky_l, ky_r, kw_e, kw_1, kw_2, kw_l, kw_r, ite_self, if_true, if_false] using Rel.pb h)) (by first | exact (have q := Rel.pp h; q) | (simpa (disch := omega) only [reduceIte, Nat.reduceEqDiff, Nat.reduceAdd, gi_si, gi_sr, gr_si, gr_sr, gN_si, gN_sr, ky_e, ky_l, ky_r, kw_e, kw_1, kw_2, kw_l, kw_r, ite_self, if_true, if_false] using Rel.pp h)) (by first | exact (have q := Rel.ga h; q) | (simpa (disch := omega) only [reduceIte, Nat.reduceEqDiff, Nat.reduceAdd, gi_si, gi_sr, gr_si, gr_sr, gN_si, gN_sr, ky_e, ky_l, ky_r, kw_e, kw_1, kw_2, kw_l, kw_r, ite_self, if_true, if_false] using Rel.ga h)) (by first | exact (have q := Rel.gb h; q) | (simpa (disch := omega) only [reduceIte, Nat.reduceEqDiff, Nat.reduceAdd, gi_si, gi_sr, gr_si, gr_sr, gN_si, gN_sr, ky_e, ky_l, ky_r, kw_e, kw_1, kw_2, kw_l, kw_r, ite_self, if_true, if_false] using Rel.gb h)) (by first | exact (have q := Rel.gg h; q) | (simpa (disch := omega) only [reduceIte, Nat.reduceEqDiff, Nat.reduceAdd, gi_si, gi_sr, gr_si, gr_sr, gN_si, gN_sr, ky_e, ky_l, ky_r, kw_e, kw_1, kw_2, kw_l, kw_r, ite_self, if_true, if_false] using Rel.gg h)) (by first | exact (have q := Rel.cs h; q) | (simpa (disch := omega) only [reduceIte, Nat.reduceEqDiff, Nat.reduceAdd, gi_si, gi_sr, gr_si, gr_sr, gN_si, gN_sr, ky_e, ky_l, ky_r, kw_e, kw_1, kw_2, kw_l, kw_r, ite_self, if_true, if_false] using Rel.cs h)) (by first | exact (have q := Rel.lv h; q) | (simpa (disch := omega) only [reduceIte, Nat.reduceEqDiff, Nat.reduceAdd, gi_si, gi_sr, gr_si, gr_sr, gN_si, gN_sr, ky_e, ky_l, ky_r, kw_e, kw_1, kw_2, kw_l, kw_r, ite_self, if_true, if_false] using Rel.lv h)) (?_) (by first | exact (have q := Rel.sg h; q) | (simpa (disch := omega) only [reduceIte, Nat.reduceEqDiff, Nat.reduceAdd, gi_si, gi_sr, gr_si, gr_sr, gN_si, gN_sr, ky_e, ky_l, ky_r, kw_e, kw_1, kw_2, kw_l, kw_r, ite_self, if_true, if_false] using Rel.sg h)) (by first | exact (have q := Rel.sz h; q) | (simpa (disch := omega) only [reduceIte, Nat.reduceEqDiff, Nat.reduceAdd, gi_si, gi_sr, gr_si, gr_sr, gN_si, gN_sr, ky_e, ky_l, ky_r, kw_e, kw_1, kw_2, kw_l, kw_r, ite_self, if_true, if_false] using Rel.sz h)) (by first | exact (have q := Rel.fr h; q) | (simpa (disch := omega) only [reduceIte, Nat.reduceEqDiff, Nat.reduceAdd, gi_si, gi_sr, gr_si, gr_sr, gN_si, gN_sr, ky_e, ky_l, ky_r, kw_e, kw_1, kw_2, kw_l, kw_r, ite_self, if_true, if_false] using Rel.fr h)) (by first | exact (have q := Rel.sl h; q) | (simpa (disch := omega) only [reduceIte, Nat.reduceEqDiff, Nat.reduceAdd, gi_si, gi_sr, gr_si, gr_sr, gN_si, gN_sr, ky_e, ky_l, ky_r, kw_e, kw_1, kw_2, kw_l, kw_r, ite_self, if_true, if_false] using Rel.sl h)) (by first | exact (have q := Rel.nn h; q) | (simpa (disch := omega) only [reduceIte, Nat.reduceEqDiff, Nat.reduceAdd, gi_si, gi_sr, gr_si, gr_sr, gN_si, gN_sr, ky_e, ky_l, ky_r, kw_e, kw_1, kw_2, kw_l, kw_r, ite_self, if_true, if_false] using Rel.nn h)) (by first | exact (have q := Rel.df h; q) | (simpa (disch := omega) only [reduceIte, Nat.reduceEqDiff, Nat.reduceAdd, gi_si, gi_sr, gr_si, gr_sr, gN_si, gN_sr, ky_e, ky_l, ky_r, kw_e, kw_1, kw_2, kw_l, kw_r, ite_self, if_true, if_false] using Rel.df h)) (by first | exact (have q := Rel.ds h; q) | (simpa (disch := omega) only [reduceIte, Nat.reduceEqDiff, Nat.reduceAdd, gi_si, gi_sr, gr_si, gr_sr, gN_si, gN_sr, ky_e, ky_l, ky_r, kw_e, kw_1, kw_2, kw_l, kw_r, ite_self, if_true, if_false] using Rel.ds h)) (by first | exact (have q := Rel.ij h; q) | (simpa (disch := omega) only [reduceIte, Nat.reduceEqDiff, Nat.reduceAdd, gi_si, gi_sr, gr_si, gr_sr, gN_si, gN_sr, ky_e, ky_l, ky_r, kw_e, kw_1, kw_2, kw_l, kw_r, ite_self, if_true, if_false] using Rel.ij h)) (by first | exact (have q := Rel.th h; q) | (simpa (disch := omega) only [reduceIte, Nat.reduceEqDiff, Nat.reduceAdd, gi_si, gi_sr, gr_si, gr_sr, gN_si, gN_sr, ky_e, ky_l, ky_r, kw_e, kw_1, kw_2, kw_l, kw_r, ite_self, if_true, if_false] using Rel.th h)) (by first | exact (have q := Rel.di h; q) | (simpa (disch := omega) only [reduceIte, Nat.reduceEqDiff, Nat.reduceAdd, gi_si, gi_sr, gr_si, gr_sr, gN_si, gN_sr, ky_e, ky_l, ky_r, kw_e, kw_1, kw_2, kw_l, kw_r, ite_self, if_true, if_false] using Rel.di h)) (by first | exact (have q := Rel.wd h; q) | (simpa (disch := omega) only [reduceIte, Nat.reduceEqDiff, Nat.reduceAdd, gi_si, gi_sr, gr_si, gr_sr, gN_si, gN_sr, ky_e, ky_l, ky_r, kw_e, kw_1, kw_2, kw_l, kw_r, ite_self, if_true, if_false] using Rel.wd h)) (?_) (by first | exact (have q := Rel.sd h; q) | (simpa (disch := omega) only [reduceIte, Nat.reduceEqDiff, Nat.reduceAdd, gi_si, gi_sr, gr_si, gr_sr, gN_si, gN_sr, ky_e, ky_l, ky_r, kw_e, kw_1, kw_2, kw_l, kw_r, ite_self, if_true, if_false] using Rel.sd h)) (?_) (h.n2r hL (k := 1) (j := k) (fun _ _ => rfl) rfl) (?_))
  · intro k' hk'
    by_cases e : k' = k
    · subst e
      refine Or.inr ⟨d, ?_⟩
      simp (disch := omega) only [reduceIte, Nat.reduceEqDiff, Nat.reduceAdd, gi_si, gi_sr, gr_si, gr_sr, gN_si, gN_sr, ky_e, ky_l, ky_r, kw_e, kw_1, kw_2, kw_l, kw_r, ite_self, if_true, if_false]
      simp [hL, hv, hP]
    · simpa (disch := omega) only [reduceIte, Nat.reduceEqDiff, Nat.reduceAdd, gi_si, gi_sr, gr_si, gr_sr, gN_si, gN_sr, ky_e, ky_l, ky_r, kw_e, kw_1, kw_2, kw_l, kw_r, ite_self, if_true, if_false, e] using h.pg k' hk'
  · intro d' hL'
    by_cases e : d' = d
    · subst e
      simp (disch := omega) only [reduceIte, Nat.reduceEqDiff, Nat.reduceAdd, gi_si, gi_sr, gr_si, gr_sr, gN_si, gN_sr, ky_e, ky_l, ky_r, kw_e, kw_1, kw_2, kw_l, kw_r, ite_self, if_true, if_false]
      rw [h.cn d' hL', nI_1]
      refine congrArg nI ?_
      refine (cntN_set 160 0 k (by omega) (by omega) ?_ ?_ ?_).symm
      · intro i hi
        simp [hi]
      · rw [ho]; rfl
      · simp
    · simp (disch := omega) only [reduceIte, Nat.reduceEqDiff, Nat.reduceAdd, gi_si, gi_sr, gr_si, gr_sr, gN_si, gN_sr, ky_e, ky_l, ky_r, kw_e, kw_1, kw_2, kw_l, kw_r, ite_self, if_true, if_false, e]
      rw [h.cn d' hL']
      refine congrArg nI ?_
      refine cntN_ext 160 0 (fun i _ _ => ?_)
      by_cases e2 : i = k
      · subst e2
        rw [if_pos rfl, ho, be_n, be_s]
        simp only [ky_e]
        exact (decide_eq_false (fun q => e q.symm)).symm
      · rw [if_neg e2]
  · intro d' k1 k2 h1 h2 h3 h4 h5
    simp (disch := omega) only [reduceIte, Nat.reduceEqDiff, Nat.reduceAdd, gi_si, gi_sr, gr_si, gr_sr, gN_si, gN_sr, ky_e, ky_l, ky_r, kw_e, kw_1, kw_2, kw_l, kw_r, ite_self, if_true, if_false] at h3 h4 h5
    by_cases e1 : k1 = k
    · rw [if_pos e1, ky_ij] at h3
      subst h3
      by_cases e2 : k2 = k
      · rw [e1, e2]
      · rw [if_neg e2] at h4
        rw [e1]
        exact (hpn h5 k2 h2 h4).symm
    · rw [if_neg e1] at h3
      by_cases e2 : k2 = k
      · rw [if_pos e2, ky_ij] at h4
        subst h4
        rw [e2]
        exact hpn h5 k1 h1 h3
      · rw [if_neg e2] at h4
        exact h.pn d' k1 k2 h1 h2 h3 h4 h5
  · intro d' hL'
    rcases h.xx d' hL' with a | ⟨k', a, b⟩ | a
    · exact Or.inl a
    · refine Or.inr (Or.inl ⟨k', a, ?_⟩)
      have : k' ≠ k := fun q => by rw [q, ho] at b; cases b
      simpa (disch := omega) only [reduceIte, Nat.reduceEqDiff, Nat.reduceAdd, gi_si, gi_sr, gr_si, gr_sr, gN_si, gN_sr, ky_e, ky_l, ky_r, kw_e, kw_1, kw_2, kw_l, kw_r, ite_self, if_true, if_false, this] using b
    · refine Or.inr (Or.inr ?_)
      simpa (disch := omega) only [reduceIte, Nat.reduceEqDiff, Nat.reduceAdd, gi_si, gi_sr, gr_si, gr_sr, gN_si, gN_sr, ky_e, ky_l, ky_r, kw_e, kw_1, kw_2, kw_l, kw_r, ite_self, if_true, if_false] using a
theorem Rel.drop (h : Rel ι F hd P G z L X E σ μ) {k d : Nat} (hk : k < 160) (ho : gr σ 1 k = some (ky d)) : L d ∧ Rel ι F hd P G z L (fun x => X x ∨ x = d) E (si (sr σ 1 k none) (ky d) 6 (gi σ (ky d) 6 - 1)) (si μ 9 k 0) := by
  have hL : L d := by
    rcases h.pg k hk with ⟨a, _⟩ | ⟨d', a, b1, _⟩
    · rw [a] at ho; cases ho
    · rw [a, ky_ij] at ho
      rw [← ho]; exact b1
  refine ⟨hL, (Rel.mk' (by first | exact (have q := Rel.tm h; q) | (simpa (disch := omega) only [reduceIte, Nat.reduceEqDiff, Nat.reduceAdd, gi_si, gi_sr, gr_si, gr_sr, gN_si, gN_sr, ky_e, ky_l, ky_r, kw_e, kw_1, kw_2, kw_l, kw_r, ite_self, if_true, if_false] using Rel.tm h)) (by first | exact (have q := Rel.wn h; q) | (simpa (disch := omega) only [reduceIte, Nat.reduceEqDiff, Nat.reduceAdd, gi_si, gi_sr, gr_si, gr_sr, gN_si, gN_sr, ky_e, ky_l, ky_r, kw_e, kw_1, kw_2, kw_l, kw_r, ite_self, if_true, if_false] using Rel.wn h)) (by first | exact (have q := Rel.fa h; q) | (simpa (disch := omega) only [reduceIte, Nat.reduceEqDiff, Nat.reduceAdd, gi_si, gi_sr, gr_si, gr_sr, gN_si, gN_sr, ky_e, ky_l, ky_r, kw_e, kw_1, kw_2, kw_l, kw_r, ite_self, if_true, if_false] using Rel.fa h)) (by first | exact (have q := Rel.fb h; q) | (simpa (disch := omega) only [reduceIte, Nat.reduceEqDiff, Nat.reduceAdd, gi_si, gi_sr, gr_si, gr_sr, gN_si, gN_sr, ky_e, ky_l, ky_r, kw_e, kw_1, kw_2, kw_l, kw_r, ite_self, if_true, if_false] using Rel.fb h)) (by first | exact (have q := Rel.f4 h; q) | (simpa (disch := omega) only [reduceIte, Nat.reduceEqDiff, Nat.reduceAdd, gi_si, gi_sr, gr_si, gr_sr, gN_si, gN_sr, ky_e, ky_l, ky_r, kw_e, kw_1, kw_2, kw_l, kw_r, ite_self, if_true, if_false] using Rel.f4 h)) (by first | exact (have q := Rel.f12 h; q) | (simpa (disch := omega) only [reduceIte, Nat.reduceEqDiff, Nat.reduceAdd, gi_si, gi_sr, gr_si, gr_sr, gN_si, gN_sr, ky_e, ky_l, ky_r, kw_e, kw_1, kw_2, kw_l, kw_r, ite_self, if_true, if_false] using Rel.f12 h)) (by first | exact (have q := Rel.ha h; q) | (simpa (disch := omega) only [reduceIte, Nat.reduceEqDiff, Nat.reduceAdd, gi_si, gi_sr, gr_si, gr_sr, gN_si, gN_sr, ky_e, ky_l, ky_r, kw_e, kw_1, kw_2, kw_l, kw_r, ite_self, if_true, if_false] using Rel.ha h)) (by first | exact (have q := Rel.hb h; q) | (simpa (disch := omega) only [reduceIte, Nat.reduceEqDiff, Nat.reduceAdd, gi_si, gi_sr, gr_si, gr_sr, gN_si, gN_sr, ky_e, ky_l, ky_r, kw_e, kw_1, kw_2, kw_l, kw_r, ite_self, if_true, if_false] using Rel.hb h)) (by first | exact (have q := Rel.hh h; q) | (simpa (disch := omega) only [reduceIte, Nat.reduceEqDiff, Nat.reduceAdd, gi_si, gi_sr, gr_si, gr_sr, gN_si, gN_sr, ky_e, ky_l, ky_r, kw_e, kw_1, kw_2, kw_l, kw_r, ite_self, if_true, if_false] using Rel.hh h)) (by first | exact (have q := Rel.pa h; q) | (simpa (disch := omega) only [reduceIte, Nat.reduceEqDiff, Nat.reduceAdd, gi_si, gi_sr, gr_si, gr_sr, gN_si, gN_sr, ky_e, ky_l, ky_r, kw_e, kw_1, kw_2, kw_l, kw_r, ite_self, if_true, if_false] using Rel.pa h)) (by first | exact (have q := Rel.pb h; q) | (simpa (disch := omega) only [reduceIte, Nat.reduceEqDiff, Nat.reduceAdd, gi_si, gi_sr, gr_si, gr_sr, gN_si, gN_sr, ky_e, ky_l, ky_r, kw_e, kw_1, kw_2, kw_l, kw_r, ite_self, if_true, if_false] using Rel.pb h)) (by first | exact (have q := Rel.pp h; q) | (simpa (disch := omega) only [reduceIte, Nat.reduceEqDiff, Nat.reduceAdd, gi_si, gi_sr, gr_si, gr_sr, gN_si, gN_sr, ky_e, ky_l, ky_r, kw_e, kw_1, kw_2, kw_l, kw_r, ite_self, if_true, if_false] using Rel.pp h)) (by first | exact (have q := Rel.ga h; q) | (simpa (disch := omega) only [reduceIte, Nat.reduceEqDiff, Nat.reduceAdd, gi_si, gi_sr, gr_si, gr_sr, gN_si, gN_sr, ky_e, ky_l, ky_r, kw_e, kw_1, kw_2, kw_l, kw_r, ite_self, if_true, if_false] using Rel.ga h)) (by first | exact (have q := Rel.gb h; q) | (simpa (disch := omega) only [reduceIte, Nat.reduceEqDiff, Nat.reduceAdd, gi_si, gi_sr, gr_si, gr_sr, gN_si, gN_sr, ky_e, ky_l, ky_r, kw_e, kw_1, kw_2, kw_l, kw_r, ite_self, if_true, if_false] using Rel.gb h)) (by first | exact (have q := Rel.gg h; q) | (simpa (disch := omega) only [reduceIte, Nat.reduceEqDiff, Nat.reduceAdd, gi_si, gi_sr, gr_si, gr_sr, gN_si, gN_sr, ky_e, ky_l, ky_r, kw_e, kw_1, kw_2, kw_l, kw_r, ite_self, if_true, if_false] using Rel.gg h)) (by first | exact (have q := Rel.cs h; q) | (simpa (disch := omega) only [reduceIte, Nat.reduceEqDiff, Nat.reduceAdd, gi_si, gi_sr, gr_si, gr_sr, gN_si, gN_sr, ky_e, ky_l, ky_r, kw_e, kw_1, kw_2, kw_l, kw_r, ite_self, if_true, if_false] using Rel.cs h)) (by first | exact (have q := Rel.lv h; q) | (simpa (disch := omega) only [reduceIte, Nat.reduceEqDiff, Nat.reduceAdd, gi_si, gi_sr, gr_si, gr_sr, gN_si, gN_sr, ky_e, ky_l, ky_r, kw_e, kw_1, kw_2, kw_l, kw_r, ite_self, if_true, if_false] using Rel.lv h)) (?_) (by first | exact (have q := Rel.sg h; q) | (simpa (disch := omega) only [reduceIte, Nat.reduceEqDiff, Nat.reduceAdd, gi_si, gi_sr, gr_si, gr_sr, gN_si, gN_sr, ky_e, ky_l, ky_r, kw_e, kw_1, kw_2, kw_l, kw_r, ite_self, if_true, if_false] using Rel.sg h)) (by first | exact (have q := Rel.sz h; q) | (simpa (disch := omega) only [reduceIte, Nat.reduceEqDiff, Nat.reduceAdd, gi_si, gi_sr, gr_si, gr_sr, gN_si, gN_sr, ky_e, ky_l, ky_r, kw_e, kw_1, kw_2, kw_l, kw_r, ite_self, if_true, if_false] using Rel.sz h)) (by first | exact (have q := Rel.fr h; q) | (simpa (disch := omega) only [reduceIte, Nat.reduceEqDiff, Nat.reduceAdd, gi_si, gi_sr, gr_si, gr_sr, gN_si, gN_sr, ky_e, ky_l, ky_r, kw_e, kw_1, kw_2, kw_l, kw_r, ite_self, if_true, if_false] using Rel.fr h)) (by first | exact (have q := Rel.sl h; q) | (simpa (disch := omega) only [reduceIte, Nat.reduceEqDiff, Nat.reduceAdd, gi_si, gi_sr, gr_si, gr_sr, gN_si, gN_sr, ky_e, ky_l, ky_r, kw_e, kw_1, kw_2, kw_l, kw_r, ite_self, if_true, if_false] using Rel.sl h)) (by first | exact (have q := Rel.nn h; q) | (simpa (disch := omega) only [reduceIte, Nat.reduceEqDiff, Nat.reduceAdd, gi_si, gi_sr, gr_si, gr_sr, gN_si, gN_sr, ky_e, ky_l, ky_r, kw_e, kw_1, kw_2, kw_l, kw_r, ite_self, if_true, if_false] using Rel.nn h)) (by first | exact (have q := Rel.df h; q) | (simpa (disch := omega) only [reduceIte, Nat.reduceEqDiff, Nat.reduceAdd, gi_si, gi_sr, gr_si, gr_sr, gN_si, gN_sr, ky_e, ky_l, ky_r, kw_e, kw_1, kw_2, kw_l, kw_r, ite_self, if_true, if_false] using Rel.df h)) (by first | exact (have q := Rel.ds h; q) | (simpa (disch := omega) only [reduceIte, Nat.reduceEqDiff, Nat.reduceAdd, gi_si, gi_sr, gr_si, gr_sr, gN_si, gN_sr, ky_e, ky_l, ky_r, kw_e, kw_1, kw_2, kw_l, kw_r, ite_self, if_true, if_false] using Rel.ds h)) (by first | exact (have q := Rel.ij h; q) | (simpa (disch := omega) only [reduceIte, Nat.reduceEqDiff, Nat.reduceAdd, gi_si, gi_sr, gr_si, gr_sr, gN_si, gN_sr, ky_e, ky_l, ky_r, kw_e, kw_1, kw_2, kw_l, kw_r, ite_self, if_true, if_false] using Rel.ij h)) (by first | exact (have q := Rel.th h; q) | (simpa (disch := omega) only [reduceIte, Nat.reduceEqDiff, Nat.reduceAdd, gi_si, gi_sr, gr_si, gr_sr, gN_si, gN_sr, ky_e, ky_l, ky_r, kw_e, kw_1, kw_2, kw_l, kw_r, ite_self, if_true, if_false] using Rel.th h)) (by first | exact (have q := Rel.di h; q) | (simpa (disch := omega) only [reduceIte, Nat.reduceEqDiff, Nat.reduceAdd, gi_si, gi_sr, gr_si, gr_sr, gN_si, gN_sr, ky_e, ky_l, ky_r, kw_e, kw_1, kw_2, kw_l, kw_r, ite_self, if_true, if_false] using Rel.di h)) (by first | exact (have q := Rel.wd h; q) | (simpa (disch := omega) only [reduceIte, Nat.reduceEqDiff, Nat.reduceAdd, gi_si, gi_sr, gr_si, gr_sr, gN_si, gN_sr, ky_e, ky_l, ky_r, kw_e, kw_1, kw_2, kw_l, kw_r, ite_self, if_true, if_false] using Rel.wd h)) (?_) (?_) (?_) (h.n2n (k := 1) (j := k) (fun _ _ => rfl) rfl) (?_))⟩
  · intro k' hk'
    by_cases e : k' = k
    · subst e
      refine Or.inl ?_
      simp (disch := omega) only [reduceIte, Nat.reduceEqDiff, Nat.reduceAdd, gi_si, gi_sr, gr_si, gr_sr, gN_si, gN_sr, ky_e, ky_l, ky_r, kw_e, kw_1, kw_2, kw_l, kw_r, ite_self, if_true, if_false]
      simp
    · simpa (disch := omega) only [reduceIte, Nat.reduceEqDiff, Nat.reduceAdd, gi_si, gi_sr, gr_si, gr_sr, gN_si, gN_sr, ky_e, ky_l, ky_r, kw_e, kw_1, kw_2, kw_l, kw_r, ite_self, if_true, if_false, e] using h.pg k' hk'
  · intro d' hL'
    by_cases e : d' = d
    · subst e
      simp (disch := omega) only [reduceIte, Nat.reduceEqDiff, Nat.reduceAdd, gi_si, gi_sr, gr_si, gr_sr, gN_si, gN_sr, ky_e, ky_l, ky_r, kw_e, kw_1, kw_2, kw_l, kw_r, ite_self, if_true, if_false]
      rw [h.cn d' hL']
      rw [cntN_set (P := fun k' => (if k' = k then none else gr σ 1 k') == some (ky d')) (Q := fun k' => gr σ 1 k' == some (ky d')) 160 0 k (by omega) (by omega), ze_pred]
      · intro i hi
        simp [hi]
      · simp
      · simp [ho]
    · simp (disch := omega) only [reduceIte, Nat.reduceEqDiff, Nat.reduceAdd, gi_si, gi_sr, gr_si, gr_sr, gN_si, gN_sr, ky_e, ky_l, ky_r, kw_e, kw_1, kw_2, kw_l, kw_r, ite_self, if_true, if_false, e]
      rw [h.cn d' hL']
      refine congrArg nI ?_
      refine cntN_ext 160 0 (fun i _ _ => ?_)
      by_cases e2 : i = k
      · subst e2
        rw [if_pos rfl, ho, be_n, be_s]
        simp only [ky_e]
        exact (decide_eq_false (fun q => e q.symm))
      · rw [if_neg e2]
  · intro d' hL'
    rcases h.sd d' hL' with ⟨a, b⟩ | ⟨a, b⟩
    · refine Or.inl ?_
      simpa (disch := omega) only [reduceIte, Nat.reduceEqDiff, Nat.reduceAdd, gi_si, gi_sr, gr_si, gr_sr, gN_si, gN_sr, ky_e, ky_l, ky_r, kw_e, kw_1, kw_2, kw_l, kw_r, ite_self, if_true, if_false] using And.intro a b
    · refine Or.inr ⟨by simpa (disch := omega) only [reduceIte, Nat.reduceEqDiff, Nat.reduceAdd, gi_si, gi_sr, gr_si, gr_sr, gN_si, gN_sr, ky_e, ky_l, ky_r, kw_e, kw_1, kw_2, kw_l, kw_r, ite_self, if_true, if_false] using a, ?_⟩
      rcases b with b | b
      · exact Or.inl (Or.inl b)
      · exact Or.inr b
  · intro d' k1 k2 h1 h2 h3 h4 h5
    simp (disch := omega) only [reduceIte, Nat.reduceEqDiff, Nat.reduceAdd, gi_si, gi_sr, gr_si, gr_sr, gN_si, gN_sr, ky_e, ky_l, ky_r, kw_e, kw_1, kw_2, kw_l, kw_r, ite_self, if_true, if_false] at h3 h4 h5
    by_cases e1 : k1 = k
    · rw [if_pos e1] at h3
      cases h3
    · by_cases e2 : k2 = k
      · rw [if_pos e2] at h4
        cases h4
      · rw [if_neg e1] at h3
        rw [if_neg e2] at h4
        exact h.pn d' k1 k2 h1 h2 h3 h4 h5
  · intro d' hL'
    rcases h.xx d' hL' with a | ⟨k', a, b⟩ | a
    · exact Or.inl (Or.inl a)
    · by_cases e : k' = k
      · rw [e, ho, ky_ij] at b
        exact Or.inl (Or.inr b.symm)
      · refine Or.inr (Or.inl ⟨k', a, ?_⟩)
        simpa (disch := omega) only [reduceIte, Nat.reduceEqDiff, Nat.reduceAdd, gi_si, gi_sr, gr_si, gr_sr, gN_si, gN_sr, ky_e, ky_l, ky_r, kw_e, kw_1, kw_2, kw_l, kw_r, ite_self, if_true, if_false, e] using b
    · refine Or.inr (Or.inr ?_)
      simpa (disch := omega) only [reduceIte, Nat.reduceEqDiff, Nat.reduceAdd, gi_si, gi_sr, gr_si, gr_sr, gN_si, gN_sr, ky_e, ky_l, ky_r, kw_e, kw_1, kw_2, kw_l, kw_r, ite_self, if_true, if_false] using a
theorem Rel.unx {X' : Nat → Prop} (h : Rel ι F hd P G z L X E σ μ) (hx : ∀ d, L d → X d → X' d ∨ (((∃ k, k < 160 ∧ gr σ 1 k = some (ky d)) ∨ gi σ (ky d) 1 = 1) ∧ (gi σ (ky d) 1 = 1 → ∃ k, k < 24 ∧ gr σ 3 k = some (ky d)))) : Rel ι F hd P G z L X' E σ μ := by
  refine (Rel.mk' (have q := Rel.tm h; q) (have q := Rel.wn h; q) (have q := Rel.fa h; q) (have q := Rel.fb h; q) (have q := Rel.f4 h; q) (have q := Rel.f12 h; q) (have q := Rel.ha h; q) (have q := Rel.hb h; q) (have q := Rel.hh h; q) (have q := Rel.pa h; q) (have q := Rel.pb h; q) (have q := Rel.pp h; q) (have q := Rel.ga h; q) (have q := Rel.gb h; q) (have q := Rel.gg h; q) (have q := Rel.cs h; q) (have q := Rel.lv h; q) (have q := Rel.pg h; q) (have q := Rel.sg h; q) (have q := Rel.sz h; q) (have q := Rel.fr h; q) (have q := Rel.sl h; q) (have q := Rel.nn h; q) (have q := Rel.df h; q) (have q := Rel.ds h; q) (have q := Rel.ij h; q) (have q := Rel.th h; q) (have q := Rel.di h; q) (have q := Rel.wd h; q) (have q := Rel.cn h; q) (?_) (have q := Rel.pn h; q) (have q := Rel.n2 h; q) (?_))
  · intro d hL
    rcases h.sd d hL with ⟨a, b⟩ | ⟨a, b⟩
    · exact Or.inl ⟨a, b⟩
    · refine Or.inr ⟨a, ?_⟩
      rcases b with b | b
      · rcases hx d hL b with c | c
        · exact Or.inl c
        · exact Or.inr (c.2 a)
      · exact Or.inr b
  · intro d hL
    rcases h.xx d hL with a | a
    · rcases hx d hL a with c | c
      · exact Or.inl c
      · exact Or.inr c.1
    · exact Or.inr a
/-- a content to which nothing refers vanishes -/
theorem Rel.gone {d : Nat} {σ' μ' : pw_S} (h : Rel ι F hd P G z L (fun x => X x ∨ x = d) E σ μ) (hL : L d) (hp : gi σ (ky d) 1 = 0) (hno : ∀ k, k < 160 → gr σ 1 k ≠ some (ky d))
    (eN : gN σ' = gN σ) (er : ∀ k j, k ≠ 5 → k ≠ 9 → gr σ' k j = gr σ k j) (e5 : ∀ f, f < 12 → gr σ' 5 f = if gr σ 5 f = some (ky d) then none else gr σ 5 f) (e9 : ∀ f, f < 24 → gr σ' 9 f = if gr σ 9 f = some (ky d) then none else gr σ 9 f) (en : ∀ k j q, gr σ' k j = some q → q < gN σ')
    (ei : ∀ k j, k ≠ 6 → k ≠ 7 → k ≠ ky d → gi σ' k j = gi σ k j) (e6 : ∀ f, f < 12 → gi σ' 6 f = if gr σ 5 f = some (ky d) then -1 else gi σ 6 f) (e7 : ∀ f, f < 12 → gi σ' 7 f = if gr σ 5 f = some (ky d) then 0 else gi σ 7 f)
    (m : ∀ k j, k ≠ 1 → k ≠ 4 → k ≠ 5 → gi μ' k j = gi μ k j) (m1 : ∀ f, f < 12 → gi μ' 1 f = if gr σ 5 f = some (ky d) then -1 else gi μ 1 f) (m4 : ∀ f, f < 24 → gi μ' 4 f = if gr σ 9 f = some (ky d) then -1 else gi μ 4 f) (m5 : ∀ n, n < 200 → gi μ' 5 n = if n = ι d then 0 else gi μ 5 n) : Rel ι F hd P G z (fun x => L x ∧ x ≠ d) X E σ' μ' := by
  have ec : ∀ d' j, d' ≠ d → gi σ' (ky d') j = gi σ (ky d') j := fun d' j hne => ei _ _ (by unfold ky; omega) (by unfold ky; omega) (by unfold ky; omega)
  have ew : ∀ d' j, gi σ' (ky d' + 1) j = gi σ (ky d' + 1) j := fun d' j => ei _ _ (by unfold ky; omega) (by unfold ky; omega) (by unfold ky; omega)
  have el : ∀ k j, k < 12 → k ≠ 6 → k ≠ 7 → gi σ' k j = gi σ k j := fun k j h1 h2 h3 => ei _ _ h2 h3 (by unfold ky; omega)
  have f12 := h.f12
  refine Rel.mk' ?_ ?_ ?_ ?_ h.f4 h.f12 ?_ ?_ h.hh ?_ ?_ h.pp ?_ ?_ h.gg ?_ ?_ ?_ ?_ ?_ ?_ ?_ ?_ ?_ ?_ ?_ ?_ ?_ ?_ ?_ ?_ ?_ ?_ ?_
  · rw [el _ _ (by omega) (by omega) (by omega), m _ _ (by omega) (by omega) (by omega)]; exact h.tm
  · rw [el _ _ (by omega) (by omega) (by omega), m _ _ (by omega) (by omega) (by omega)]; exact h.wn
  · rw [el _ _ (by omega) (by omega) (by omega)]; exact h.fa
  · rw [m _ _ (by omega) (by omega) (by omega)]; exact h.fb
  · rw [el _ _ (by omega) (by omega) (by omega)]; exact h.ha
  · rw [m _ _ (by omega) (by omega) (by omega)]; exact h.hb
  · rw [el _ _ (by omega) (by omega) (by omega)]; exact h.pa
  · rw [m _ _ (by omega) (by omega) (by omega)]; exact h.pb
  · rw [el _ _ (by omega) (by omega) (by omega)]; exact h.ga
  · rw [m _ _ (by omega) (by omega) (by omega)]; exact h.gb
  · intro i hi
    rw [el _ _ (by omega) (by omega) (by omega), m _ _ (by omega) (by omega) (by omega)]; exact h.cs i hi
  · intro i hi
    rw [el _ _ (by omega) (by omega) (by omega), m _ _ (by omega) (by omega) (by omega)]; exact h.lv i hi
  · intro k hk
    rw [er _ _ (by omega) (by omega), m _ _ (by omega) (by omega) (by omega), m _ _ (by omega) (by omega) (by omega)]
    rcases h.pg k hk with a | ⟨d', a, b1, b2, b3, b4⟩
    · exact Or.inl a
    · have hne : d' ≠ d := fun q => hno k hk (by rw [a, q])
      exact Or.inr ⟨d', a, ⟨b1, hne⟩, b2, by rw [ec _ _ hne]; exact b3, b4⟩
  · intro k hk
    rw [er _ _ (by omega) (by omega), m _ _ (by omega) (by omega) (by omega)]
    rcases h.sg k hk with a | ⟨d', a, b1, b2, b3, b4, b5⟩
    · exact Or.inl a
    · have hne : d' ≠ d := fun q => by rw [q, hp] at b3; exact absurd b3 (by decide)
      exact Or.inr ⟨d', a, ⟨b1, hne⟩, b2, by rw [ec _ _ hne]; exact b3, by rw [ec _ _ hne]; exact b4, b5⟩
  · intro i hi
    rw [m _ _ (by omega) (by omega) (by omega)]; exact h.sz i hi
  · intro f hf
    rw [e5 f hf, m1 f hf, e6 f hf, e7 f hf]
    by_cases e : gr σ 5 f = some (ky d)
    · rw [if_pos e, if_pos e, if_pos e, if_pos e]
      exact Or.inl ⟨rfl, rfl, rfl, rfl⟩
    · rw [if_neg e, if_neg e, if_neg e, if_neg e]
      rcases h.fr f hf with a | ⟨d', a, b1, c1, c2, c3, c4, c5, c6⟩
      · exact Or.inl a
      · have hne : d' ≠ d := fun q => e (by rw [a, q])
        rw [m _ _ (by omega) (by omega) (by omega), m _ _ (by omega) (by omega) (by omega)]
        exact Or.inr ⟨d', a, b1, ⟨c1, hne⟩, c2, by rw [ec _ _ hne]; exact c3, c4, c5, c6⟩
  · intro f hf
    rw [e9 f hf, m4 f hf]
    by_cases e : gr σ 9 f = some (ky d)
    · rw [if_pos e, if_pos e]
      exact Or.inl ⟨rfl, rfl⟩
    · rw [if_neg e, if_neg e]
      rcases h.sl f hf with a | ⟨d', a, c1, c2, c3⟩
      · exact Or.inl a
      · have hne : d' ≠ d := fun q => e (by rw [a, q])
        exact Or.inr ⟨d', a, ⟨c1, hne⟩, c2, by rw [ec _ _ hne]; exact c3⟩
  · intro d' hL'
    rw [eN]; exact h.nn d' hL'.1
  · intro d' hL'
    rw [ec _ _ hL'.2]
    rcases h.df d' hL'.1 with a | ⟨f, a, b, c⟩
    · exact Or.inl a
    · refine Or.inr ⟨f, a, b, ?_⟩
      rw [e5 f (by omega), if_neg (by rw [c, ky_ij]; exact hL'.2)]
      exact c
  · intro d' hL'
    rw [ec _ _ hL'.2]
    rcases h.ds d' hL'.1 with a | ⟨f, a, b, c⟩
    · exact Or.inl a
    · refine Or.inr ⟨f, a, b, ?_⟩
      rw [e9 f (by omega), if_neg (by rw [c, ky_ij]; exact hL'.2)]
      exact c
  · intro d1 d2 h1 h2
    exact h.ij d1 d2 h1.1 h2.1
  · intro n hn
    rw [m5 n hn]
    by_cases e : n = ι d
    · rw [if_pos e]
      exact Or.inr ⟨rfl, fun d' hL' q => hL'.2 (h.ij _ _ hL'.1 hL (by rw [q, e]))⟩
    · rw [if_neg e]
      rcases h.th n hn with ⟨a, d', b, c⟩ | ⟨a, b⟩
      · exact Or.inl ⟨a, d', ⟨b, fun q => e (by rw [← c, q])⟩, c⟩
      · exact Or.inr ⟨a, fun d' hL' => b d' hL'.1⟩
  · intro d' hL'
    rw [ec _ _ hL'.2, ec _ _ hL'.2, ec _ _ hL'.2, m _ _ (by omega) (by omega) (by omega)]
    exact h.di d' hL'.1
  · intro d' hL' i hi
    rw [ew, m _ _ (by omega) (by omega) (by omega)]
    exact h.wd d' hL'.1 i hi
  · intro d' hL'
    rw [ec _ _ hL'.2, h.cn d' hL'.1]
    refine congrArg nI (cntN_ext 160 0 (fun i _ _ => ?_))
    rw [er _ _ (by omega) (by omega)]
  · intro d' hL'
    rw [ec _ _ hL'.2]
    rcases h.sd d' hL'.1 with ⟨a, b⟩ | ⟨a, b⟩
    · exact Or.inl ⟨a, fun k hk => by rw [er _ _ (by omega) (by omega)]; exact b k hk⟩
    · refine Or.inr ⟨a, ?_⟩
      rcases b with (b | b) | ⟨k, b, c⟩
      · exact Or.inl b
      · exact absurd b hL'.2
      · exact Or.inr ⟨k, b, by rw [er _ _ (by omega) (by omega)]; exact c⟩
  · intro d' k k' h1 h2 h3 h4 h5
    rw [er _ _ (by omega) (by omega)] at h3 h4
    by_cases e : d' = d
    · exact absurd (by rw [h3, e]) (hno k h1)
    · rw [ec _ _ e] at h5
      exact h.pn d' k k' h1 h2 h3 h4 h5
  · rw [eN]
    exact ⟨h.n2.1, h.n2.2.1, fun k j q hq => by rw [← eN]; exact en k j q hq⟩
  · intro d' hL'
    rw [ec _ _ hL'.2]
    rcases h.xx d' hL'.1 with (a | a) | ⟨k, a, b⟩ | a
    · exact Or.inl a
    · exact absurd a hL'.2
    · exact Or.inr (Or.inl ⟨k, a, by rw [er _ _ (by omega) (by omega)]; exact b⟩)
    · exact Or.inr (Or.inr a)
end U
