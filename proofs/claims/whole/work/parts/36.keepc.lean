/-! WHAT KEEPS THE RELATION: a content is made, its words, a segment's place, processes, segments, frames -/
section U
variable {ι : Nat → Nat} {F hd P G : Nat} {z : Nat → Nat} {L X E : Nat → Prop} {σ μ : pw_S}
theorem gi_newC {σ : pw_S} {sp : Int32} {a b : Nat} : gi (newC σ sp) a b = if a = gN σ then (if b = 1 then (if sp = -1 then 0 else 1) else if b = 2 then sp else if b = 3 ∨ b = 4 then -1 else 0) else if a = gN σ + 1 then 0 else gi σ a b := rfl
theorem gr_newC {σ : pw_S} {sp : Int32} {a b : Nat} : gr (newC σ sp) a b = if a = gN σ ∨ a = gN σ + 1 then none else gr σ a b := rfl
theorem gN_newC {σ : pw_S} {sp : Int32} : gN (newC σ sp) = gN σ + 2 := rfl
theorem Rel.dn (h : Rel ι F hd P G z L X E σ μ) : ∃ d, gN σ = ky d := by
  obtain ⟨a, b, _⟩ := h.n2
  exact ⟨(gN σ - 12) / 2, by unfold ky; omega⟩
theorem Rel.new (h : Rel ι F hd P G z L X E σ μ) {n dn : Nat} {sp : Int32} {μ' : pw_S} (hn : n < 200) (h5 : gi μ 5 n = 0) (hN : gN σ = ky dn)
    (m : ∀ k j, k ≠ 5 → k ≠ 6 → k ≠ 7 → gi μ' k j = gi μ k j) (m5 : ∀ i, gi μ' 5 i = if i = n then 1 else gi μ 5 i) (m6 : ∀ i, gi μ' 6 i = if i = n then 0 else gi μ 6 i) (m7 : ∀ i, gi μ' 7 i = if 4 * n ≤ i ∧ i < 4 * n + 4 then 0 else gi μ 7 i) :
    Rel (fun x => if x = dn then n else ι x) F hd P G z (fun x => L x ∨ x = dn) (fun x => X x ∨ x = dn) E (newC σ sp) μ' ∧ ¬ L dn := by
  have hne : ∀ d, L d → d ≠ dn := by
    intro d hL q
    have := (h.nn d hL).1
    rw [hN, q] at this
    unfold ky at this
    omega
  have ec : ∀ d j, d ≠ dn → gi (newC σ sp) (ky d) j = gi σ (ky d) j := by
    intro d j q
    rw [gi_newC, hN, if_neg (by rw [ky_e]; exact q), if_neg (by rw [kw_1]; exact id)]
  have ew : ∀ d j, d ≠ dn → gi (newC σ sp) (ky d + 1) j = gi σ (ky d + 1) j := by
    intro d j q
    rw [gi_newC, hN, if_neg (by rw [kw_2]; exact id), if_neg (by rw [kw_e]; exact q)]
  have el : ∀ k j, k < 12 → gi (newC σ sp) k j = gi σ k j := by
    intro k j q
    rw [gi_newC, hN, if_neg (by unfold ky; omega), if_neg (by unfold ky; omega)]
  have er : ∀ k j, k < 12 → gr (newC σ sp) k j = gr σ k j := by
    intro k j q
    rw [gr_newC, hN, if_neg (by unfold ky; omega)]
  have rn : ∀ k j, gr σ k j ≠ some (ky dn) := by
    intro k j q
    have := h.n2.2.2 k j _ q
    omega
  have iL : ∀ d, L d → (if d = dn then n else ι d) = ι d := fun d hL => if_neg (hne d hL)
  have nL : ∀ d, L d → ι d ≠ n := by
    intro d hL q
    rcases h.th n hn with ⟨a, _⟩ | ⟨_, b⟩
    · rw [h5] at a; exact absurd a (by decide)
    · exact b d hL q
  refine ⟨?_, fun q => hne dn q rfl⟩
  refine Rel.mk' ?_ ?_ ?_ ?_ h.f4 h.f12 ?_ ?_ h.hh ?_ ?_ h.pp ?_ ?_ h.gg ?_ ?_ ?_ ?_ ?_ ?_ ?_ ?_ ?_ ?_ ?_ ?_ ?_ ?_ ?_ ?_ ?_ ?_ ?_
  · rw [el _ _ (by omega), m _ _ (by omega) (by omega) (by omega)]; exact h.tm
  · rw [el _ _ (by omega), m _ _ (by omega) (by omega) (by omega)]; exact h.wn
  · rw [el _ _ (by omega)]; exact h.fa
  · rw [m _ _ (by omega) (by omega) (by omega)]; exact h.fb
  · rw [el _ _ (by omega)]; exact h.ha
  · rw [m _ _ (by omega) (by omega) (by omega)]; exact h.hb
  · rw [el _ _ (by omega)]; exact h.pa
  · rw [m _ _ (by omega) (by omega) (by omega)]; exact h.pb
  · rw [el _ _ (by omega)]; exact h.ga
  · rw [m _ _ (by omega) (by omega) (by omega)]; exact h.gb
  · intro i hi
    rw [el _ _ (by omega), m _ _ (by omega) (by omega) (by omega)]; exact h.cs i hi
  · intro i hi
    rw [el _ _ (by omega), m _ _ (by omega) (by omega) (by omega)]; exact h.lv i hi
  · intro k hk
    rw [er _ _ (by omega), m _ _ (by omega) (by omega) (by omega), m _ _ (by omega) (by omega) (by omega)]
    rcases h.pg k hk with a | ⟨d', a, b1, b2, b3, b4⟩
    · exact Or.inl a
    · exact Or.inr ⟨d', a, Or.inl b1, by rw [iL _ b1]; exact b2, by rw [ec _ _ (hne _ b1)]; exact b3, b4⟩
  · intro k hk
    rw [er _ _ (by omega), m _ _ (by omega) (by omega) (by omega)]
    rcases h.sg k hk with a | ⟨d', a, b1, b2, b3, b4, b5⟩
    · exact Or.inl a
    · exact Or.inr ⟨d', a, Or.inl b1, by rw [iL _ b1]; exact b2, by rw [ec _ _ (hne _ b1)]; exact b3, by rw [ec _ _ (hne _ b1)]; exact b4, b5⟩
  · intro i hi
    rw [m _ _ (by omega) (by omega) (by omega)]; exact h.sz i hi
  · intro f hf
    rw [er _ _ (by omega), m _ _ (by omega) (by omega) (by omega), m _ _ (by omega) (by omega) (by omega), m _ _ (by omega) (by omega) (by omega), el _ _ (by omega), el _ _ (by omega)]
    rcases h.fr f hf with a | ⟨d', a, b1, c1, c2, c3, c4, c5, c6⟩
    · exact Or.inl a
    · exact Or.inr ⟨d', a, b1, Or.inl c1, by rw [iL _ c1]; exact c2, by rw [ec _ _ (hne _ c1)]; exact c3, c4, c5, c6⟩
  · intro f hf
    rw [er _ _ (by omega), m _ _ (by omega) (by omega) (by omega)]
    rcases h.sl f hf with a | ⟨d', a, c1, c2, c3⟩
    · exact Or.inl a
    · exact Or.inr ⟨d', a, Or.inl c1, by rw [iL _ c1]; exact c2, by rw [ec _ _ (hne _ c1)]; exact c3⟩
  · intro d hL
    rw [gN_newC]
    rcases hL with hL | hL
    · have := h.nn d hL
      rw [iL _ hL]
      omega
    · rw [if_pos hL, hN, hL]
      unfold ky
      omega
  · intro d hL
    rcases hL with hL | hL
    · rw [ec _ _ (hne _ hL)]
      rcases h.df d hL with a | ⟨f, a, b, c⟩
      · exact Or.inl a
      · exact Or.inr ⟨f, a, b, by rw [er _ _ (by omega)]; exact c⟩
    · refine Or.inl ?_
      rw [gi_newC, hN, hL, if_pos rfl]
      rfl
  · intro d hL
    rcases hL with hL | hL
    · rw [ec _ _ (hne _ hL)]
      rcases h.ds d hL with a | ⟨f, a, b, c⟩
      · exact Or.inl a
      · exact Or.inr ⟨f, a, b, by rw [er _ _ (by omega)]; exact c⟩
    · refine Or.inl ?_
      rw [gi_newC, hN, hL, if_pos rfl]
      rfl
  · intro d d' hL hL' q
    rcases hL with hL | hL
    · rcases hL' with hL' | hL'
      · rw [iL _ hL, iL _ hL'] at q
        exact h.ij _ _ hL hL' q
      · rw [iL _ hL, if_pos hL'] at q
        exact absurd q (nL d hL)
    · rcases hL' with hL' | hL'
      · rw [iL _ hL', if_pos hL] at q
        exact absurd q.symm (nL d' hL')
      · rw [hL, hL']
  · intro i hi
    rw [m5]
    by_cases e : i = n
    · rw [if_pos e]
      exact Or.inl ⟨rfl, dn, Or.inr rfl, by rw [if_pos rfl, e]⟩
    · rw [if_neg e]
      rcases h.th i hi with ⟨a, d', b, c⟩ | ⟨a, b⟩
      · exact Or.inl ⟨a, d', Or.inl b, by rw [iL _ b]; exact c⟩
      · refine Or.inr ⟨a, fun d' hL' => ?_⟩
        rcases hL' with hL' | hL'
        · rw [iL _ hL']; exact b d' hL'
        · rw [if_pos hL']; exact fun q => e q.symm
  · intro d hL
    rcases hL with hL | hL
    · rw [ec _ _ (hne _ hL), ec _ _ (hne _ hL), ec _ _ (hne _ hL), iL _ hL, m6, if_neg (nL d hL)]
      exact h.di d hL
    · refine Or.inr ?_
      rw [if_pos hL, m6, if_pos rfl, gi_newC, hN, hL, if_pos rfl]
      exact ⟨rfl, Or.inl rfl⟩
  · intro d hL i hi
    rcases hL with hL | hL
    · rw [ew _ _ (hne _ hL), iL _ hL, m7, if_neg]
      · exact h.wd d hL i hi
      · have := nL d hL
        omega
    · rw [if_pos hL, m7, if_pos (by omega), gi_newC, hN, hL, if_neg (by rw [kw_2]; exact id), if_pos rfl]
  · intro d hL
    rcases hL with hL | hL
    · rw [ec _ _ (hne _ hL), h.cn d hL]
      refine congrArg nI (cntN_ext 160 0 (fun i _ _ => ?_))
      rw [er _ _ (by omega)]
    · rw [gi_newC, hN, hL, if_pos rfl, cntN_0 160 0]
      · rfl
      · intro i _ _
        rw [er _ _ (by omega)]
        cases hc : (gr σ 1 i == some (ky dn)) with
        | false => rfl
        | true => exact absurd (by simpa using hc) (rn 1 i)
  · intro d hL
    rcases hL with hL | hL
    · rw [ec _ _ (hne _ hL)]
      rcases h.sd d hL with ⟨a, b⟩ | ⟨a, b⟩
      · exact Or.inl ⟨a, fun k hk => by rw [er _ _ (by omega)]; exact b k hk⟩
      · refine Or.inr ⟨a, ?_⟩
        rcases b with b | ⟨k, b, c⟩
        · exact Or.inl (Or.inl b)
        · exact Or.inr ⟨k, b, by rw [er _ _ (by omega)]; exact c⟩
    · rw [gi_newC, hN, hL, if_pos rfl, if_pos rfl]
      by_cases e : sp = -1
      · rw [if_pos e]
        exact Or.inl ⟨rfl, fun k hk => by rw [er _ _ (by omega)]; exact rn 3 k⟩
      · rw [if_neg e]
        exact Or.inr ⟨rfl, Or.inl (Or.inr rfl)⟩
  · intro d k k' h1 h2 h3 h4 h5'
    rw [er _ _ (by omega)] at h3 h4
    by_cases e : d = dn
    · exact absurd (by rw [h3, e]) (rn 1 k)
    · rw [ec _ _ e] at h5'
      exact h.pn d k k' h1 h2 h3 h4 h5'
  · rw [gN_newC]
    refine ⟨by have := h.n2.1; omega, by have := h.n2.2.1; omega, fun k j q hq => ?_⟩
    rw [gr_newC] at hq
    split at hq
    · cases hq
    · have := h.n2.2.2 _ _ _ hq
      omega
  · intro d hL
    rcases hL with hL | hL
    · rw [ec _ _ (hne _ hL)]
      rcases h.xx d hL with a | ⟨k, a, b⟩ | a
      · exact Or.inl (Or.inl a)
      · exact Or.inr (Or.inl ⟨k, a, by rw [er _ _ (by omega)]; exact b⟩)
      · exact Or.inr (Or.inr a)
    · exact Or.inl (Or.inr hL)
theorem Rel.copy (h : Rel ι F hd P G z L X E σ μ) {c o : Nat} {μ' : pw_S} (hc : L c) (ho : L o)
    (m : ∀ k j, k ≠ 7 → gi μ' k j = gi μ k j) (m7 : ∀ i, gi μ' 7 i = if 4 * ι c ≤ i ∧ i < 4 * ι c + 4 then gi μ 7 (4 * ι o + (i - 4 * ι c)) else gi μ 7 i) : Rel ι F hd P G z L X E (cpW σ (ky o) (ky c)) μ' := by
  have e1 : ∀ a b, a ≠ ky c + 1 → gi (cpW σ (ky o) (ky c)) a b = gi σ a b := by
    intro a b q
    show (if a = ky c + 1 ∧ b < 4 then gi σ (ky o + 1) b else gi σ a b) = gi σ a b
    rw [if_neg (fun w => q w.1)]
  have ec : ∀ d j, gi (cpW σ (ky o) (ky c)) (ky d) j = gi σ (ky d) j := fun d j => e1 _ _ (by unfold ky; omega)
  have el : ∀ k j, k < 12 → gi (cpW σ (ky o) (ky c)) k j = gi σ k j := fun d j q => e1 _ _ (by unfold ky; omega)
  have er : ∀ k j, gr (cpW σ (ky o) (ky c)) k j = gr σ k j := fun _ _ => rfl
  refine Rel.mk' ?_ ?_ ?_ ?_ h.f4 h.f12 ?_ ?_ h.hh ?_ ?_ h.pp ?_ ?_ h.gg ?_ ?_ ?_ ?_ ?_ ?_ ?_ h.nn ?_ ?_ h.ij ?_ ?_ ?_ ?_ ?_ ?_ h.n2 ?_
  · rw [el _ _ (by omega), m _ _ (by omega)]; exact h.tm
  · rw [el _ _ (by omega), m _ _ (by omega)]; exact h.wn
  · rw [el _ _ (by omega)]; exact h.fa
  · rw [m _ _ (by omega)]; exact h.fb
  · rw [el _ _ (by omega)]; exact h.ha
  · rw [m _ _ (by omega)]; exact h.hb
  · rw [el _ _ (by omega)]; exact h.pa
  · rw [m _ _ (by omega)]; exact h.pb
  · rw [el _ _ (by omega)]; exact h.ga
  · rw [m _ _ (by omega)]; exact h.gb
  · intro i hi
    rw [el _ _ (by omega), m _ _ (by omega)]; exact h.cs i hi
  · intro i hi
    rw [el _ _ (by omega), m _ _ (by omega)]; exact h.lv i hi
  · intro k hk
    rw [m _ _ (by omega), m _ _ (by omega)]
    simp only [ec, er]
    exact h.pg k hk
  · intro k hk
    rw [m _ _ (by omega)]
    simp only [ec, er]
    exact h.sg k hk
  · intro i hi
    rw [m _ _ (by omega)]; exact h.sz i hi
  · intro f hf
    rw [m _ _ (by omega), m _ _ (by omega), m _ _ (by omega), el _ _ (by omega), el _ _ (by omega)]
    simp only [ec, er]
    exact h.fr f hf
  · intro f hf
    rw [m _ _ (by omega)]
    simp only [ec, er]
    exact h.sl f hf
  · intro d hL
    simp only [ec, er]
    exact h.df d hL
  · intro d hL
    simp only [ec, er]
    exact h.ds d hL
  · intro i hi
    rw [m _ _ (by omega)]
    exact h.th i hi
  · intro d hL
    rw [m _ _ (by omega)]
    simp only [ec, er]
    exact h.di d hL
  · intro d hL i hi
    show (if ky d + 1 = ky c + 1 ∧ i < 4 then gi σ (ky o + 1) i else gi σ (ky d + 1) i) = _
    rw [m7]
    by_cases e : d = c
    · rw [e, if_pos ⟨rfl, hi⟩, if_pos (by omega), show 4 * ι c + i - 4 * ι c = i by omega]
      exact h.wd o ho i hi
    · rw [if_neg (fun w => e (by have := w.1; unfold ky at this; omega)), if_neg]
      · exact h.wd d hL i hi
      · intro w
        exact e (h.ij _ _ hL hc (by omega))
  · intro d hL
    simp only [ec, er]
    exact h.cn d hL
  · intro d hL
    simp only [ec, er]
    exact h.sd d hL
  · intro d
    simp only [ec, er]
    exact h.pn d
  · intro d hL
    simp only [ec, er]
    exact h.xx d hL
theorem Rel.seg (h : Rel ι F hd P G z L X E σ μ) {d k j : Nat} (hL : L d) (hj : j < 6) (hG : G < 4) (hk : k = 6 * G + j) (hz : z G = j) (h1 : gi σ (ky d) 1 = 1) (h2 : gi σ (ky d) 2 = nI k) : Rel ι F hd P G (fun i => if i = G then j + 1 else z i) L X E (sr σ 3 k (some (ky d))) (si μ 12 k (nI (ι d))) := by
  have ho : gr σ 3 k = none := by
    rcases h.sg k (by omega) with ⟨a, _⟩ | ⟨d', a, b1, b2, b3, b4, b5⟩
    · exact a
    · rw [show k / 6 = G by omega, hz, show k % 6 = j by omega] at b5
      omega
  refine (Rel.mk' (by first | exact (have q := Rel.tm h; q) | (simpa (disch := omega) only [reduceIte, Nat.reduceEqDiff, Nat.reduceAdd, gi_si, gi_sr, gr_si, gr_sr, gN_si, gN_sr, ky_e, ky_l, ky_r, kw_e, kw_1, kw_2, kw_l, kw_r, ite_self, if_true, if_false] using Rel.tm h)) (by first | exact (have q := Rel.wn h; q) | (simpa (disch := omega) only [reduceIte, Nat.reduceEqDiff, Nat.reduceAdd, gi_si, gi_sr, gr_si, gr_sr, gN_si, gN_sr, ky_e, ky_l, ky_r, kw_e, kw_1, kw_2, kw_l, kw_r, ite_self, if_true, if_false] using Rel.wn h)) (by first | exact (have q := Rel.fa h; q) | (simpa (disch := omega) only [reduceIte, Nat.reduceEqDiff, Nat.reduceAdd, gi_si, gi_sr, gr_si, gr_sr, gN_si, gN_sr, ky_e, ky_l, ky_r, kw_e, kw_1, kw_2, kw_l, kw_r, ite_self, if_true, if_false] using Rel.fa h)) (by first | exact (have q := Rel.fb h; q) | (simpa (disch := omega) only [reduceIte, Nat.reduceEqDiff, Nat.reduceAdd, gi_si, gi_sr, gr_si, gr_sr, gN_si, gN_sr, ky_e, ky_l, ky_r, kw_e, kw_1, kw_2, kw_l, kw_r, ite_self, if_true, if_false] using Rel.fb h)) (by first | exact (have q := Rel.f4 h; q) | (simpa (disch := omega) only [reduceIte, Nat.reduceEqDiff, Nat.reduceAdd, gi_si, gi_sr, gr_si, gr_sr, gN_si, gN_sr, ky_e, ky_l, ky_r, kw_e, kw_1, kw_2, kw_l, kw_r, ite_self, if_true, if_false] using Rel.f4 h)) (by first | exact (have q := Rel.f12 h; q) | (simpa (disch := omega) only [reduceIte, Nat.reduceEqDiff, Nat.reduceAdd, gi_si, gi_sr, gr_si, gr_sr, gN_si, gN_sr, ky_e, ky_l, ky_r, kw_e, kw_1, kw_2, kw_l, kw_r, ite_self, if_true, if_false] using Rel.f12 h)) (by first | exact (have q := Rel.ha h; q) | (simpa (disch := omega) only [reduceIte, Nat.reduceEqDiff, Nat.reduceAdd, gi_si, gi_sr, gr_si, gr_sr, gN_si, gN_sr, ky_e, ky_l, ky_r, kw_e, kw_1, kw_2, kw_l, kw_r, ite_self, if_true, if_false] using Rel.ha h)) (by first | exact (have q := Rel.hb h; q) | (simpa (disch := omega) only [reduceIte, Nat.reduceEqDiff, Nat.reduceAdd, gi_si, gi_sr, gr_si, gr_sr, gN_si, gN_sr, ky_e, ky_l, ky_r, kw_e, kw_1, kw_2, kw_l, kw_r, ite_self, if_true, if_false] using Rel.hb h)) (by first | exact (have q := Rel.hh h; q) | (simpa (disch := omega) only [reduceIte, Nat.reduceEqDiff, Nat.reduceAdd, gi_si, gi_sr, gr_si, gr_sr, gN_si, gN_sr, ky_e, ky_l, ky_r, kw_e, kw_1, kw_2, kw_l, kw_r, ite_self, if_true, if_false] using Rel.hh h)) (by first | exact (have q := Rel.pa h; q) | (simpa (disch := omega) only [reduceIte, Nat.reduceEqDiff, Nat.reduceAdd, gi_si, gi_sr, gr_si, gr_sr, gN_si, gN_sr, ky_e, ky_l, ky_r, kw_e, kw_1, kw_2, kw_l, kw_r, ite_self, if_true, if_false] using Rel.pa h)) (by first | exact (have q := Rel.pb h; q) | (simpa (disch := omega) only [reduceIte, Nat.reduceEqDiff, Nat.reduceAdd, gi_si, gi_sr, gr_si, gr_sr, gN_si, gN_sr, ky_e, ky_l, ky_r, kw_e, kw_1, kw_2, kw_l, kw_r, ite_self, if_true, if_false] using Rel.pb h)) (by first | exact (have q := Rel.pp h; q) | (simpa (disch := omega) only [reduceIte, Nat.reduceEqDiff, Nat.reduceAdd, gi_si, gi_sr, gr_si, gr_sr, gN_si, gN_sr, ky_e, ky_l, ky_r, kw_e, kw_1, kw_2, kw_l, kw_r, ite_self, if_true, if_false] using Rel.pp h)) (by first | exact (have q := Rel.ga h; q) | (simpa (disch := omega) only [reduceIte, Nat.reduceEqDiff, Nat.reduceAdd, gi_si, gi_sr, gr_si, gr_sr, gN_si, gN_sr, ky_e, ky_l, ky_r, kw_e, kw_1, kw_2, kw_l, kw_r, ite_self, if_true, if_false] using Rel.ga h)) (by first | exact (have q := Rel.gb h; q) | (simpa (disch := omega) only [reduceIte, Nat.reduceEqDiff, Nat.reduceAdd, gi_si, gi_sr, gr_si, gr_sr, gN_si, gN_sr, ky_e, ky_l, ky_r, kw_e, kw_1, kw_2, kw_l, kw_r, ite_self, if_true, if_false] using Rel.gb h)) (by first | exact (have q := Rel.gg h; q) | (simpa (disch := omega) only [reduceIte, Nat.reduceEqDiff, Nat.reduceAdd, gi_si, gi_sr, gr_si, gr_sr, gN_si, gN_sr, ky_e, ky_l, ky_r, kw_e, kw_1, kw_2, kw_l, kw_r, ite_self, if_true, if_false] using Rel.gg h)) (by first | exact (have q := Rel.cs h; q) | (simpa (disch := omega) only [reduceIte, Nat.reduceEqDiff, Nat.reduceAdd, gi_si, gi_sr, gr_si, gr_sr, gN_si, gN_sr, ky_e, ky_l, ky_r, kw_e, kw_1, kw_2, kw_l, kw_r, ite_self, if_true, if_false] using Rel.cs h)) (by first | exact (have q := Rel.lv h; q) | (simpa (disch := omega) only [reduceIte, Nat.reduceEqDiff, Nat.reduceAdd, gi_si, gi_sr, gr_si, gr_sr, gN_si, gN_sr, ky_e, ky_l, ky_r, kw_e, kw_1, kw_2, kw_l, kw_r, ite_self, if_true, if_false] using Rel.lv h)) (by first | exact (have q := Rel.pg h; q) | (simpa (disch := omega) only [reduceIte, Nat.reduceEqDiff, Nat.reduceAdd, gi_si, gi_sr, gr_si, gr_sr, gN_si, gN_sr, ky_e, ky_l, ky_r, kw_e, kw_1, kw_2, kw_l, kw_r, ite_self, if_true, if_false] using Rel.pg h)) (?_) (?_) (by first | exact (have q := Rel.fr h; q) | (simpa (disch := omega) only [reduceIte, Nat.reduceEqDiff, Nat.reduceAdd, gi_si, gi_sr, gr_si, gr_sr, gN_si, gN_sr, ky_e, ky_l, ky_r, kw_e, kw_1, kw_2, kw_l, kw_r, ite_self, if_true, if_false] using Rel.fr h)) (by first | exact (have q := Rel.sl h; q) | (simpa (disch := omega) only [reduceIte, Nat.reduceEqDiff, Nat.reduceAdd, gi_si, gi_sr, gr_si, gr_sr, gN_si, gN_sr, ky_e, ky_l, ky_r, kw_e, kw_1, kw_2, kw_l, kw_r, ite_self, if_true, if_false] using Rel.sl h)) (by first | exact (have q := Rel.nn h; q) | (simpa (disch := omega) only [reduceIte, Nat.reduceEqDiff, Nat.reduceAdd, gi_si, gi_sr, gr_si, gr_sr, gN_si, gN_sr, ky_e, ky_l, ky_r, kw_e, kw_1, kw_2, kw_l, kw_r, ite_self, if_true, if_false] using Rel.nn h)) (by first | exact (have q := Rel.df h; q) | (simpa (disch := omega) only [reduceIte, Nat.reduceEqDiff, Nat.reduceAdd, gi_si, gi_sr, gr_si, gr_sr, gN_si, gN_sr, ky_e, ky_l, ky_r, kw_e, kw_1, kw_2, kw_l, kw_r, ite_self, if_true, if_false] using Rel.df h)) (by first | exact (have q := Rel.ds h; q) | (simpa (disch := omega) only [reduceIte, Nat.reduceEqDiff, Nat.reduceAdd, gi_si, gi_sr, gr_si, gr_sr, gN_si, gN_sr, ky_e, ky_l, ky_r, kw_e, kw_1, kw_2, kw_l, kw_r, ite_self, if_true, if_false] using Rel.ds h)) (by first | exact (have q := Rel.ij h; q) | (simpa (disch := omega) only [reduceIte, Nat.reduceEqDiff, Nat.reduceAdd, gi_si, gi_sr, gr_si, gr_sr, gN_si, gN_sr, ky_e, ky_l, ky_r, kw_e, kw_1, kw_2, kw_l, kw_r, ite_self, if_true, if_false] using Rel.ij h)) (by first | exact (have q := Rel.th h; q) | (simpa (disch := omega) only [reduceIte, Nat.reduceEqDiff, Nat.reduceAdd, gi_si, gi_sr, gr_si, gr_sr, gN_si, gN_sr, ky_e, ky_l, ky_r, kw_e, kw_1, kw_2, kw_l, kw_r, ite_self, if_true, if_false] using Rel.th h)) (by first | exact (have q := Rel.di h; q) | (simpa (disch := omega) only [reduceIte, Nat.reduceEqDiff, Nat.reduceAdd, gi_si, gi_sr, gr_si, gr_sr, gN_si, gN_sr, ky_e, ky_l, ky_r, kw_e, kw_1, kw_2, kw_l, kw_r, ite_self, if_true, if_false] using Rel.di h)) (by first | exact (have q := Rel.wd h; q) | (simpa (disch := omega) only [reduceIte, Nat.reduceEqDiff, Nat.reduceAdd, gi_si, gi_sr, gr_si, gr_sr, gN_si, gN_sr, ky_e, ky_l, ky_r, kw_e, kw_1, kw_2, kw_l, kw_r, ite_self, if_true, if_false] using Rel.wd h)) (by first | exact (have q := Rel.cn h; q) | (simpa (disch := omega) only [reduceIte, Nat.reduceEqDiff, Nat.reduceAdd, gi_si, gi_sr, gr_si, gr_sr, gN_si, gN_sr, ky_e, ky_l, ky_r, kw_e, kw_1, kw_2, kw_l, kw_r, ite_self, if_true, if_false] using Rel.cn h)) (?_) (by first | exact (have q := Rel.pn h; q) | (simpa (disch := omega) only [reduceIte, Nat.reduceEqDiff, Nat.reduceAdd, gi_si, gi_sr, gr_si, gr_sr, gN_si, gN_sr, ky_e, ky_l, ky_r, kw_e, kw_1, kw_2, kw_l, kw_r, ite_self, if_true, if_false] using Rel.pn h)) (h.n2r hL (k := 3) (j := k) (fun _ _ => rfl) rfl) (by first | exact (have q := Rel.xx h; q) | (simpa (disch := omega) only [reduceIte, Nat.reduceEqDiff, Nat.reduceAdd, gi_si, gi_sr, gr_si, gr_sr, gN_si, gN_sr, ky_e, ky_l, ky_r, kw_e, kw_1, kw_2, kw_l, kw_r, ite_self, if_true, if_false] using Rel.xx h)))
  · intro k' hk'
    by_cases e : k' = k
    · subst e
      refine Or.inr ⟨d, ?_⟩
      simp (disch := omega) only [reduceIte, Nat.reduceEqDiff, Nat.reduceAdd, gi_si, gi_sr, gr_si, gr_sr, gN_si, gN_sr, ky_e, ky_l, ky_r, kw_e, kw_1, kw_2, kw_l, kw_r, ite_self, if_true, if_false]
      refine ⟨trivial, hL, trivial, h1, h2, ?_⟩
      rw [if_pos (by omega)]
      omega
    · rcases h.sg k' hk' with ⟨a, b⟩ | ⟨d', a, b1, b2, b3, b4, b5⟩
      · refine Or.inl ?_
        simp (disch := omega) only [reduceIte, Nat.reduceEqDiff, Nat.reduceAdd, gi_si, gi_sr, gr_si, gr_sr, gN_si, gN_sr, ky_e, ky_l, ky_r, kw_e, kw_1, kw_2, kw_l, kw_r, ite_self, if_true, if_false, e]
        refine ⟨a, ?_⟩
        split
        · rename_i q
          rw [q, hz] at b
          omega
        · exact b
      · refine Or.inr ⟨d', ?_⟩
        simp (disch := omega) only [reduceIte, Nat.reduceEqDiff, Nat.reduceAdd, gi_si, gi_sr, gr_si, gr_sr, gN_si, gN_sr, ky_e, ky_l, ky_r, kw_e, kw_1, kw_2, kw_l, kw_r, ite_self, if_true, if_false, e]
        refine ⟨a, b1, b2, b3, b4, ?_⟩
        split
        · rename_i q
          rw [q, hz] at b5
          omega
        · exact b5
  · intro i hi
    rw [if_neg (by omega)]
    simpa (disch := omega) only [reduceIte, Nat.reduceEqDiff, Nat.reduceAdd, gi_si, gi_sr, gr_si, gr_sr, gN_si, gN_sr, ky_e, ky_l, ky_r, kw_e, kw_1, kw_2, kw_l, kw_r, ite_self, if_true, if_false] using h.sz i hi
  · intro d' hL'
    rcases h.sd d' hL' with ⟨a, b⟩ | ⟨a, b⟩
    · refine Or.inl ⟨a, fun k' hk' => ?_⟩
      simp (disch := omega) only [reduceIte, Nat.reduceEqDiff, Nat.reduceAdd, gi_si, gi_sr, gr_si, gr_sr, gN_si, gN_sr, ky_e, ky_l, ky_r, kw_e, kw_1, kw_2, kw_l, kw_r, ite_self, if_true, if_false]
      split
      · intro q
        rw [ky_ij] at q
        rw [← q, h1] at a
        exact absurd a (by decide)
      · exact b k' hk'
    · refine Or.inr ⟨a, ?_⟩
      rcases b with b | ⟨k', b, c⟩
      · exact Or.inl b
      · refine Or.inr ⟨k', b, ?_⟩
        have : k' ≠ k := fun q => by rw [q, ho] at c; cases c
        simp (disch := omega) only [reduceIte, Nat.reduceEqDiff, Nat.reduceAdd, gi_si, gi_sr, gr_si, gr_sr, gN_si, gN_sr, ky_e, ky_l, ky_r, kw_e, kw_1, kw_2, kw_l, kw_r, ite_self, if_true, if_false, this]
        exact c
theorem Rel.segs (h : Rel ι F hd P G z L X E σ μ) (hG : G < 4) (h1 : 1 ≤ z G) (h6 : z G ≤ 6) : Rel ι F hd P (G + 1) z L X E (si σ 0 8 (nI (G + 1))) (si (si μ 11 G (nI (z G))) 0 16 (nI (G + 1))) := by
  refine (Rel.mk' (by first | exact (have q := Rel.tm h; q) | (simpa (disch := omega) only [reduceIte, Nat.reduceEqDiff, Nat.reduceAdd, gi_si, gi_sr, gr_si, gr_sr, gN_si, gN_sr, ky_e, ky_l, ky_r, kw_e, kw_1, kw_2, kw_l, kw_r, ite_self, if_true, if_false] using Rel.tm h)) (by first | exact (have q := Rel.wn h; q) | (simpa (disch := omega) only [reduceIte, Nat.reduceEqDiff, Nat.reduceAdd, gi_si, gi_sr, gr_si, gr_sr, gN_si, gN_sr, ky_e, ky_l, ky_r, kw_e, kw_1, kw_2, kw_l, kw_r, ite_self, if_true, if_false] using Rel.wn h)) (by first | exact (have q := Rel.fa h; q) | (simpa (disch := omega) only [reduceIte, Nat.reduceEqDiff, Nat.reduceAdd, gi_si, gi_sr, gr_si, gr_sr, gN_si, gN_sr, ky_e, ky_l, ky_r, kw_e, kw_1, kw_2, kw_l, kw_r, ite_self, if_true, if_false] using Rel.fa h)) (by first | exact (have q := Rel.fb h; q) | (simpa (disch := omega) only [reduceIte, Nat.reduceEqDiff, Nat.reduceAdd, gi_si, gi_sr, gr_si, gr_sr, gN_si, gN_sr, ky_e, ky_l, ky_r, kw_e, kw_1, kw_2, kw_l, kw_r, ite_self, if_true, if_false] using Rel.fb h)) (by first | exact (have q := Rel.f4 h; q) | (simpa (disch := omega) only [reduceIte, Nat.reduceEqDiff, Nat.reduceAdd, gi_si, gi_sr, gr_si, gr_sr, gN_si, gN_sr, ky_e, ky_l, ky_r, kw_e, kw_1, kw_2, kw_l, kw_r, ite_self, if_true, if_false] using Rel.f4 h)) (by first | exact (have q := Rel.f12 h; q) | (simpa (disch := omega) only [reduceIte, Nat.reduceEqDiff, Nat.reduceAdd, gi_si, gi_sr, gr_si, gr_sr, gN_si, gN_sr, ky_e, ky_l, ky_r, kw_e, kw_1, kw_2, kw_l, kw_r, ite_self, if_true, if_false] using Rel.f12 h)) (by first | exact (have q := Rel.ha h; q) | (simpa (disch := omega) only [reduceIte, Nat.reduceEqDiff, Nat.reduceAdd, gi_si, gi_sr, gr_si, gr_sr, gN_si, gN_sr, ky_e, ky_l, ky_r, kw_e, kw_1, kw_2, kw_l, kw_r, ite_self, if_true, if_false] using Rel.ha h)) (by first | exact (have q := Rel.hb h; q) | (simpa (disch := omega) only [reduceIte, Nat.reduceEqDiff, Nat.reduceAdd, gi_si, gi_sr, gr_si, gr_sr, gN_si, gN_sr, ky_e, ky_l, ky_r, kw_e, kw_1, kw_2, kw_l, kw_r, ite_self, if_true, if_false] using Rel.hb h)) (by first | exact (have q := Rel.hh h; q) | (simpa (disch := omega) only [reduceIte, Nat.reduceEqDiff, Nat.reduceAdd, gi_si, gi_sr, gr_si, gr_sr, gN_si, gN_sr, ky_e, ky_l, ky_r, kw_e, kw_1, kw_2, kw_l, kw_r, ite_self, if_true, if_false] using Rel.hh h)) (by first | exact (have q := Rel.pa h; q) | (simpa (disch := omega) only [reduceIte, Nat.reduceEqDiff, Nat.reduceAdd, gi_si, gi_sr, gr_si, gr_sr, gN_si, gN_sr, ky_e, ky_l, ky_r, kw_e, kw_1, kw_2, kw_l, kw_r, ite_self, if_true, if_false] using Rel.pa h)) (by first | exact (have q := Rel.pb h; q) | (simpa (disch := omega) only [reduceIte, Nat.reduceEqDiff, Nat.reduceAdd, gi_si, gi_sr, gr_si, gr_sr, gN_si, gN_sr, ky_e, ky_l, ky_r, kw_e, kw_1, kw_2, kw_l, kw_r, ite_self, if_true, if_false] using Rel.pb h)) (by first | exact (have q := Rel.pp h; q) | (simpa (disch := omega) only [reduceIte, Nat.reduceEqDiff, Nat.reduceAdd, gi_si, gi_sr, gr_si, gr_sr, gN_si, gN_sr, ky_e, ky_l, ky_r, kw_e, kw_1, kw_2, kw_l, kw_r, ite_self, if_true, if_false] using Rel.pp h)) (rfl) (rfl) (hG) (by first | exact (have q := Rel.cs h; q) | (simpa (disch := omega) only [reduceIte, Nat.reduceEqDiff, Nat.reduceAdd, gi_si, gi_sr, gr_si, gr_sr, gN_si, gN_sr, ky_e, ky_l, ky_r, kw_e, kw_1, kw_2, kw_l, kw_r, ite_self, if_true, if_false] using Rel.cs h)) (by first | exact (have q := Rel.lv h; q) | (simpa (disch := omega) only [reduceIte, Nat.reduceEqDiff, Nat.reduceAdd, gi_si, gi_sr, gr_si, gr_sr, gN_si, gN_sr, ky_e, ky_l, ky_r, kw_e, kw_1, kw_2, kw_l, kw_r, ite_self, if_true, if_false] using Rel.lv h)) (by first | exact (have q := Rel.pg h; q) | (simpa (disch := omega) only [reduceIte, Nat.reduceEqDiff, Nat.reduceAdd, gi_si, gi_sr, gr_si, gr_sr, gN_si, gN_sr, ky_e, ky_l, ky_r, kw_e, kw_1, kw_2, kw_l, kw_r, ite_self, if_true, if_false] using Rel.pg h)) (by first | exact (have q := Rel.sg h; q) | (simpa (disch := omega) only [reduceIte, Nat.reduceEqDiff, Nat.reduceAdd, gi_si, gi_sr, gr_si, gr_sr, gN_si, gN_sr, ky_e, ky_l, ky_r, kw_e, kw_1, kw_2, kw_l, kw_r, ite_self, if_true, if_false] using Rel.sg h)) (?_) (by first | exact (have q := Rel.fr h; q) | (simpa (disch := omega) only [reduceIte, Nat.reduceEqDiff, Nat.reduceAdd, gi_si, gi_sr, gr_si, gr_sr, gN_si, gN_sr, ky_e, ky_l, ky_r, kw_e, kw_1, kw_2, kw_l, kw_r, ite_self, if_true, if_false] using Rel.fr h)) (by first | exact (have q := Rel.sl h; q) | (simpa (disch := omega) only [reduceIte, Nat.reduceEqDiff, Nat.reduceAdd, gi_si, gi_sr, gr_si, gr_sr, gN_si, gN_sr, ky_e, ky_l, ky_r, kw_e, kw_1, kw_2, kw_l, kw_r, ite_self, if_true, if_false] using Rel.sl h)) (by first | exact (have q := Rel.nn h; q) | (simpa (disch := omega) only [reduceIte, Nat.reduceEqDiff, Nat.reduceAdd, gi_si, gi_sr, gr_si, gr_sr, gN_si, gN_sr, ky_e, ky_l, ky_r, kw_e, kw_1, kw_2, kw_l, kw_r, ite_self, if_true, if_false] using Rel.nn h)) (by first | exact (have q := Rel.df h; q) | (simpa (disch := omega) only [reduceIte, Nat.reduceEqDiff, Nat.reduceAdd, gi_si, gi_sr, gr_si, gr_sr, gN_si, gN_sr, ky_e, ky_l, ky_r, kw_e, kw_1, kw_2, kw_l, kw_r, ite_self, if_true, if_false] using Rel.df h)) (by first | exact (have q := Rel.ds h; q) | (simpa (disch := omega) only [reduceIte, Nat.reduceEqDiff, Nat.reduceAdd, gi_si, gi_sr, gr_si, gr_sr, gN_si, gN_sr, ky_e, ky_l, ky_r, kw_e, kw_1, kw_2, kw_l, kw_r, ite_self, if_true, if_false] using Rel.ds h)) (by first | exact (have q := Rel.ij h; q) | (simpa (disch := omega) only [reduceIte, Nat.reduceEqDiff, Nat.reduceAdd, gi_si, gi_sr, gr_si, gr_sr, gN_si, gN_sr, ky_e, ky_l, ky_r, kw_e, kw_1, kw_2, kw_l, kw_r, ite_self, if_true, if_false] using Rel.ij h)) (by first | exact (have q := Rel.th h; q) | (simpa (disch := omega) only [reduceIte, Nat.reduceEqDiff, Nat.reduceAdd, gi_si, gi_sr, gr_si, gr_sr, gN_si, gN_sr, ky_e, ky_l, ky_r, kw_e, kw_1, kw_2, kw_l, kw_r, ite_self, if_true, if_false] using Rel.th h)) (by first | exact (have q := Rel.di h; q) | (simpa (disch := omega) only [reduceIte, Nat.reduceEqDiff, Nat.reduceAdd, gi_si, gi_sr, gr_si, gr_sr, gN_si, gN_sr, ky_e, ky_l, ky_r, kw_e, kw_1, kw_2, kw_l, kw_r, ite_self, if_true, if_false] using Rel.di h)) (by first | exact (have q := Rel.wd h; q) | (simpa (disch := omega) only [reduceIte, Nat.reduceEqDiff, Nat.reduceAdd, gi_si, gi_sr, gr_si, gr_sr, gN_si, gN_sr, ky_e, ky_l, ky_r, kw_e, kw_1, kw_2, kw_l, kw_r, ite_self, if_true, if_false] using Rel.wd h)) (by first | exact (have q := Rel.cn h; q) | (simpa (disch := omega) only [reduceIte, Nat.reduceEqDiff, Nat.reduceAdd, gi_si, gi_sr, gr_si, gr_sr, gN_si, gN_sr, ky_e, ky_l, ky_r, kw_e, kw_1, kw_2, kw_l, kw_r, ite_self, if_true, if_false] using Rel.cn h)) (by first | exact (have q := Rel.sd h; q) | (simpa (disch := omega) only [reduceIte, Nat.reduceEqDiff, Nat.reduceAdd, gi_si, gi_sr, gr_si, gr_sr, gN_si, gN_sr, ky_e, ky_l, ky_r, kw_e, kw_1, kw_2, kw_l, kw_r, ite_self, if_true, if_false] using Rel.sd h)) (by first | exact (have q := Rel.pn h; q) | (simpa (disch := omega) only [reduceIte, Nat.reduceEqDiff, Nat.reduceAdd, gi_si, gi_sr, gr_si, gr_sr, gN_si, gN_sr, ky_e, ky_l, ky_r, kw_e, kw_1, kw_2, kw_l, kw_r, ite_self, if_true, if_false] using Rel.pn h)) (by first | exact (have q := Rel.n2 h; q) | (simpa (disch := omega) only [reduceIte, Nat.reduceEqDiff, Nat.reduceAdd, gi_si, gi_sr, gr_si, gr_sr, gN_si, gN_sr, ky_e, ky_l, ky_r, kw_e, kw_1, kw_2, kw_l, kw_r, ite_self, if_true, if_false] using Rel.n2 h)) (by first | exact (have q := Rel.xx h; q) | (simpa (disch := omega) only [reduceIte, Nat.reduceEqDiff, Nat.reduceAdd, gi_si, gi_sr, gr_si, gr_sr, gN_si, gN_sr, ky_e, ky_l, ky_r, kw_e, kw_1, kw_2, kw_l, kw_r, ite_self, if_true, if_false] using Rel.xx h)))
  intro i hi
  simp (disch := omega) only [reduceIte, Nat.reduceEqDiff, Nat.reduceAdd, gi_si, gi_sr, gr_si, gr_sr, gN_si, gN_sr, ky_e, ky_l, ky_r, kw_e, kw_1, kw_2, kw_l, kw_r, ite_self, if_true, if_false]
  by_cases e : i = G
  · rw [if_pos e, e]
    exact ⟨rfl, h1, h6⟩
  · rw [if_neg e]
    exact h.sz i (by omega)
theorem Rel.proc (h : Rel ι F hd P G z L X E σ μ) (hP : P < 10) {μ' : pw_S} (m : ∀ k j, k ≠ 0 → k ≠ 8 → k ≠ 9 → gi μ' k j = gi μ k j) (m0 : ∀ j, gi μ' 0 j = if j = 12 then nI (P + 1) else if j = 0 then gi μ' 0 0 else gi μ 0 j) (m8 : ∀ j, gi μ' 8 j = if j = P then 1 else gi μ 8 j) (m9 : ∀ j, gi μ' 9 j = if 16 * P ≤ j ∧ j < 16 * P + 16 then 0 else gi μ 9 j) : Rel ι F hd (P + 1) G z L X E (si (si σ 2 P 1) 0 7 (nI (P + 1))) μ' := by
  refine Rel.mk' ?_ ?_ ?_ ?_ h.f4 h.f12 ?_ ?_ h.hh rfl ?_ hP ?_ ?_ h.gg ?_ ?_ ?_ ?_ ?_ ?_ ?_ h.nn h.df h.ds h.ij ?_ ?_ ?_ h.cn h.sd h.pn h.n2 h.xx
  · rw [m0 1]; exact h.tm
  · rw [m0 2]; exact h.wn
  · exact h.fa
  · rw [m0 3]; exact h.fb
  · exact h.ha
  · rw [m0 4]; exact h.hb
  · rw [m0 12]; rfl
  · exact h.ga
  · rw [m0 16]; exact h.gb
  · intro i hi
    rw [m _ _ (by omega) (by omega) (by omega)]; exact h.cs i hi
  · intro i hi
    rw [m8]
    simp (disch := omega) only [reduceIte, Nat.reduceEqDiff, Nat.reduceAdd, gi_si, gi_sr, gr_si, gr_sr, gN_si, gN_sr, ky_e, ky_l, ky_r, kw_e, kw_1, kw_2, kw_l, kw_r, ite_self, if_true, if_false]
    by_cases e : i = P
    · rw [if_pos e, if_pos e]
      exact Or.inr ⟨rfl, Or.inr rfl⟩
    · rw [if_neg e, if_neg e]
      exact h.lv i hi
  · intro k hk
    rw [m9, m _ _ (by omega) (by omega) (by omega)]
    rcases h.pg k hk with ⟨a, b⟩ | ⟨d', a, b1, b2, b3, b4⟩
    · refine Or.inl ⟨a, ?_⟩
      split
      · rfl
      · exact b
    · refine Or.inr ⟨d', a, b1, b2, ?_, by omega⟩
      rw [if_neg (by omega)]
      exact b3
  · intro k hk
    rw [m _ _ (by omega) (by omega) (by omega)]; exact h.sg k hk
  · intro k hk
    rw [m _ _ (by omega) (by omega) (by omega)]; exact h.sz k hk
  · intro k hk
    rw [m _ _ (by omega) (by omega) (by omega), m _ _ (by omega) (by omega) (by omega), m _ _ (by omega) (by omega) (by omega)]; exact h.fr k hk
  · intro k hk
    rw [m _ _ (by omega) (by omega) (by omega)]; exact h.sl k hk
  · intro k hk
    rw [m _ _ (by omega) (by omega) (by omega)]; exact h.th k hk
  · intro k hk
    rw [m _ _ (by omega) (by omega) (by omega)]; exact h.di k hk
  · intro k hk i hi
    rw [m _ _ (by omega) (by omega) (by omega)]; exact h.wd k hk i hi
theorem Rel.liveB (h : Rel ι F hd P G z L X E σ μ) (p : Nat) (v : Int32) : Rel ι F hd P G z L X (fun i => E i ∨ i = p) σ (si μ 8 p v) := by
  refine (Rel.mk' (by first | exact (have q := Rel.tm h; q) | (simpa (disch := omega) only [reduceIte, Nat.reduceEqDiff, Nat.reduceAdd, gi_si, gi_sr, gr_si, gr_sr, gN_si, gN_sr, ky_e, ky_l, ky_r, kw_e, kw_1, kw_2, kw_l, kw_r, ite_self, if_true, if_false] using Rel.tm h)) (by first | exact (have q := Rel.wn h; q) | (simpa (disch := omega) only [reduceIte, Nat.reduceEqDiff, Nat.reduceAdd, gi_si, gi_sr, gr_si, gr_sr, gN_si, gN_sr, ky_e, ky_l, ky_r, kw_e, kw_1, kw_2, kw_l, kw_r, ite_self, if_true, if_false] using Rel.wn h)) (by first | exact (have q := Rel.fa h; q) | (simpa (disch := omega) only [reduceIte, Nat.reduceEqDiff, Nat.reduceAdd, gi_si, gi_sr, gr_si, gr_sr, gN_si, gN_sr, ky_e, ky_l, ky_r, kw_e, kw_1, kw_2, kw_l, kw_r, ite_self, if_true, if_false] using Rel.fa h)) (by first | exact (have q := Rel.fb h; q) | (simpa (disch := omega) only [reduceIte, Nat.reduceEqDiff, Nat.reduceAdd, gi_si, gi_sr, gr_si, gr_sr, gN_si, gN_sr, ky_e, ky_l, ky_r, kw_e, kw_1, kw_2, kw_l, kw_r, ite_self, if_true, if_false] using Rel.fb h)) (by first | exact (have q := Rel.f4 h; q) | (simpa (disch := omega) only [reduceIte, Nat.reduceEqDiff, Nat.reduceAdd, gi_si, gi_sr, gr_si, gr_sr, gN_si, gN_sr, ky_e, ky_l, ky_r, kw_e, kw_1, kw_2, kw_l, kw_r, ite_self, if_true, if_false] using Rel.f4 h)) (by first | exact (have q := Rel.f12 h; q) | (simpa (disch := omega) only [reduceIte, Nat.reduceEqDiff, Nat.reduceAdd, gi_si, gi_sr, gr_si, gr_sr, gN_si, gN_sr, ky_e, ky_l, ky_r, kw_e, kw_1, kw_2, kw_l, kw_r, ite_self, if_true, if_false] using Rel.f12 h)) (by first | exact (have q := Rel.ha h; q) | (simpa (disch := omega) only [reduceIte, Nat.reduceEqDiff, Nat.reduceAdd, gi_si, gi_sr, gr_si, gr_sr, gN_si, gN_sr, ky_e, ky_l, ky_r, kw_e, kw_1, kw_2, kw_l, kw_r, ite_self, if_true, if_false] using Rel.ha h)) (by first | exact (have q := Rel.hb h; q) | (simpa (disch := omega) only [reduceIte, Nat.reduceEqDiff, Nat.reduceAdd, gi_si, gi_sr, gr_si, gr_sr, gN_si, gN_sr, ky_e, ky_l, ky_r, kw_e, kw_1, kw_2, kw_l, kw_r, ite_self, if_true, if_false] using Rel.hb h)) (by first | exact (have q := Rel.hh h; q) | (simpa (disch := omega) only [reduceIte, Nat.reduceEqDiff, Nat.reduceAdd, gi_si, gi_sr, gr_si, gr_sr, gN_si, gN_sr, ky_e, ky_l, ky_r, kw_e, kw_1, kw_2, kw_l, kw_r, ite_self, if_true, if_false] using Rel.hh h)) (by first | exact (have q := Rel.pa h; q) | (simpa (disch := omega) only [reduceIte, Nat.reduceEqDiff, Nat.reduceAdd, gi_si, gi_sr, gr_si, gr_sr, gN_si, gN_sr, ky_e, ky_l, ky_r, kw_e, kw_1, kw_2, kw_l, kw_r, ite_self, if_true, if_false] using Rel.pa h)) (by first | exact (have q := Rel.pb h; q) | (simpa (disch := omega) only [reduceIte, Nat.reduceEqDiff, Nat.reduceAdd, gi_si, gi_sr, gr_si, gr_sr, gN_si, gN_sr, ky_e, ky_l, ky_r, kw_e, kw_1, kw_2, kw_l, kw_r, ite_self, if_true, if_false] using Rel.pb h)) (by first | exact (have q := Rel.pp h; q) | (simpa (disch := omega) only [reduceIte, Nat.reduceEqDiff, Nat.reduceAdd, gi_si, gi_sr, gr_si, gr_sr, gN_si, gN_sr, ky_e, ky_l, ky_r, kw_e, kw_1, kw_2, kw_l, kw_r, ite_self, if_true, if_false] using Rel.pp h)) (by first | exact (have q := Rel.ga h; q) | (simpa (disch := omega) only [reduceIte, Nat.reduceEqDiff, Nat.reduceAdd, gi_si, gi_sr, gr_si, gr_sr, gN_si, gN_sr, ky_e, ky_l, ky_r, kw_e, kw_1, kw_2, kw_l, kw_r, ite_self, if_true, if_false] using Rel.ga h)) (by first | exact (have q := Rel.gb h; q) | (simpa (disch := omega) only [reduceIte, Nat.reduceEqDiff, Nat.reduceAdd, gi_si, gi_sr, gr_si, gr_sr, gN_si, gN_sr, ky_e, ky_l, ky_r, kw_e, kw_1, kw_2, kw_l, kw_r, ite_self, if_true, if_false] using Rel.gb h)) (by first | exact (have q := Rel.gg h; q) | (simpa (disch := omega) only [reduceIte, Nat.reduceEqDiff, Nat.reduceAdd, gi_si, gi_sr, gr_si, gr_sr, gN_si, gN_sr, ky_e, ky_l, ky_r, kw_e, kw_1, kw_2, kw_l, kw_r, ite_self, if_true, if_false] using Rel.gg h)) (by first | exact (have q := Rel.cs h; q) | (simpa (disch := omega) only [reduceIte, Nat.reduceEqDiff, Nat.reduceAdd, gi_si, gi_sr, gr_si, gr_sr, gN_si, gN_sr, ky_e, ky_l, ky_r, kw_e, kw_1, kw_2, kw_l, kw_r, ite_self, if_true, if_false] using Rel.cs h)) (?_) (by first | exact (have q := Rel.pg h; q) | (simpa (disch := omega) only [reduceIte, Nat.reduceEqDiff, Nat.reduceAdd, gi_si, gi_sr, gr_si, gr_sr, gN_si, gN_sr, ky_e, ky_l, ky_r, kw_e, kw_1, kw_2, kw_l, kw_r, ite_self, if_true, if_false] using Rel.pg h)) (by first | exact (have q := Rel.sg h; q) | (simpa (disch := omega) only [reduceIte, Nat.reduceEqDiff, Nat.reduceAdd, gi_si, gi_sr, gr_si, gr_sr, gN_si, gN_sr, ky_e, ky_l, ky_r, kw_e, kw_1, kw_2, kw_l, kw_r, ite_self, if_true, if_false] using Rel.sg h)) (by first | exact (have q := Rel.sz h; q) | (simpa (disch := omega) only [reduceIte, Nat.reduceEqDiff, Nat.reduceAdd, gi_si, gi_sr, gr_si, gr_sr, gN_si, gN_sr, ky_e, ky_l, ky_r, kw_e, kw_1, kw_2, kw_l, kw_r, ite_self, if_true, if_false] using Rel.sz h)) (by first | exact (have q := Rel.fr h; q) | (simpa (disch := omega) only [reduceIte, Nat.reduceEqDiff, Nat.reduceAdd, gi_si, gi_sr, gr_si, gr_sr, gN_si, gN_sr, ky_e, ky_l, ky_r, kw_e, kw_1, kw_2, kw_l, kw_r, ite_self, if_true, if_false] using Rel.fr h)) (by first | exact (have q := Rel.sl h; q) | (simpa (disch := omega) only [reduceIte, Nat.reduceEqDiff, Nat.reduceAdd, gi_si, gi_sr, gr_si, gr_sr, gN_si, gN_sr, ky_e, ky_l, ky_r, kw_e, kw_1, kw_2, kw_l, kw_r, ite_self, if_true, if_false] using Rel.sl h)) (by first | exact (have q := Rel.nn h; q) | (simpa (disch := omega) only [reduceIte, Nat.reduceEqDiff, Nat.reduceAdd, gi_si, gi_sr, gr_si, gr_sr, gN_si, gN_sr, ky_e, ky_l, ky_r, kw_e, kw_1, kw_2, kw_l, kw_r, ite_self, if_true, if_false] using Rel.nn h)) (by first | exact (have q := Rel.df h; q) | (simpa (disch := omega) only [reduceIte, Nat.reduceEqDiff, Nat.reduceAdd, gi_si, gi_sr, gr_si, gr_sr, gN_si, gN_sr, ky_e, ky_l, ky_r, kw_e, kw_1, kw_2, kw_l, kw_r, ite_self, if_true, if_false] using Rel.df h)) (by first | exact (have q := Rel.ds h; q) | (simpa (disch := omega) only [reduceIte, Nat.reduceEqDiff, Nat.reduceAdd, gi_si, gi_sr, gr_si, gr_sr, gN_si, gN_sr, ky_e, ky_l, ky_r, kw_e, kw_1, kw_2, kw_l, kw_r, ite_self, if_true, if_false] using Rel.ds h)) (by first | exact (have q := Rel.ij h; q) | (simpa (disch := omega) only [reduceIte, Nat.reduceEqDiff, Nat.reduceAdd, gi_si, gi_sr, gr_si, gr_sr, gN_si, gN_sr, ky_e, ky_l, ky_r, kw_e, kw_1, kw_2, kw_l, kw_r, ite_self, if_true, if_false] using Rel.ij h)) (by first | exact (have q := Rel.th h; q) | (simpa (disch := omega) only [reduceIte, Nat.reduceEqDiff, Nat.reduceAdd, gi_si, gi_sr, gr_si, gr_sr, gN_si, gN_sr, ky_e, ky_l, ky_r, kw_e, kw_1, kw_2, kw_l, kw_r, ite_self, if_true, if_false] using Rel.th h)) (by first | exact (have q := Rel.di h; q) | (simpa (disch := omega) only [reduceIte, Nat.reduceEqDiff, Nat.reduceAdd, gi_si, gi_sr, gr_si, gr_sr, gN_si, gN_sr, ky_e, ky_l, ky_r, kw_e, kw_1, kw_2, kw_l, kw_r, ite_self, if_true, if_false] using Rel.di h)) (by first | exact (have q := Rel.wd h; q) | (simpa (disch := omega) only [reduceIte, Nat.reduceEqDiff, Nat.reduceAdd, gi_si, gi_sr, gr_si, gr_sr, gN_si, gN_sr, ky_e, ky_l, ky_r, kw_e, kw_1, kw_2, kw_l, kw_r, ite_self, if_true, if_false] using Rel.wd h)) (by first | exact (have q := Rel.cn h; q) | (simpa (disch := omega) only [reduceIte, Nat.reduceEqDiff, Nat.reduceAdd, gi_si, gi_sr, gr_si, gr_sr, gN_si, gN_sr, ky_e, ky_l, ky_r, kw_e, kw_1, kw_2, kw_l, kw_r, ite_self, if_true, if_false] using Rel.cn h)) (by first | exact (have q := Rel.sd h; q) | (simpa (disch := omega) only [reduceIte, Nat.reduceEqDiff, Nat.reduceAdd, gi_si, gi_sr, gr_si, gr_sr, gN_si, gN_sr, ky_e, ky_l, ky_r, kw_e, kw_1, kw_2, kw_l, kw_r, ite_self, if_true, if_false] using Rel.sd h)) (by first | exact (have q := Rel.pn h; q) | (simpa (disch := omega) only [reduceIte, Nat.reduceEqDiff, Nat.reduceAdd, gi_si, gi_sr, gr_si, gr_sr, gN_si, gN_sr, ky_e, ky_l, ky_r, kw_e, kw_1, kw_2, kw_l, kw_r, ite_self, if_true, if_false] using Rel.pn h)) (by first | exact (have q := Rel.n2 h; q) | (simpa (disch := omega) only [reduceIte, Nat.reduceEqDiff, Nat.reduceAdd, gi_si, gi_sr, gr_si, gr_sr, gN_si, gN_sr, ky_e, ky_l, ky_r, kw_e, kw_1, kw_2, kw_l, kw_r, ite_self, if_true, if_false] using Rel.n2 h)) (by first | exact (have q := Rel.xx h; q) | (simpa (disch := omega) only [reduceIte, Nat.reduceEqDiff, Nat.reduceAdd, gi_si, gi_sr, gr_si, gr_sr, gN_si, gN_sr, ky_e, ky_l, ky_r, kw_e, kw_1, kw_2, kw_l, kw_r, ite_self, if_true, if_false] using Rel.xx h)))
  intro i hi
  by_cases e : i = p
  · exact Or.inl (Or.inr e)
  · simp (disch := omega) only [reduceIte, Nat.reduceEqDiff, Nat.reduceAdd, gi_si, gi_sr, gr_si, gr_sr, gN_si, gN_sr, ky_e, ky_l, ky_r, kw_e, kw_1, kw_2, kw_l, kw_r, ite_self, if_true, if_false, e]
    rcases h.lv i hi with a | a
    · exact Or.inl (Or.inl a)
    · exact Or.inr a
theorem Rel.liveA {p : Nat} {v : Int32} (h : Rel ι F hd P G z L X (fun i => E i ∨ i = p) σ μ) (hv : v = 0 ∨ v = 1) (hm : gi μ 8 p = v) : Rel ι F hd P G z L X E (si σ 2 p v) μ := by
  refine (Rel.mk' (by first | exact (have q := Rel.tm h; q) | (simpa (disch := omega) only [reduceIte, Nat.reduceEqDiff, Nat.reduceAdd, gi_si, gi_sr, gr_si, gr_sr, gN_si, gN_sr, ky_e, ky_l, ky_r, kw_e, kw_1, kw_2, kw_l, kw_r, ite_self, if_true, if_false] using Rel.tm h)) (by first | exact (have q := Rel.wn h; q) | (simpa (disch := omega) only [reduceIte, Nat.reduceEqDiff, Nat.reduceAdd, gi_si, gi_sr, gr_si, gr_sr, gN_si, gN_sr, ky_e, ky_l, ky_r, kw_e, kw_1, kw_2, kw_l, kw_r, ite_self, if_true, if_false] using Rel.wn h)) (by first | exact (have q := Rel.fa h; q) | (simpa (disch := omega) only [reduceIte, Nat.reduceEqDiff, Nat.reduceAdd, gi_si, gi_sr, gr_si, gr_sr, gN_si, gN_sr, ky_e, ky_l, ky_r, kw_e, kw_1, kw_2, kw_l, kw_r, ite_self, if_true, if_false] using Rel.fa h)) (by first | exact (have q := Rel.fb h; q) | (simpa (disch := omega) only [reduceIte, Nat.reduceEqDiff, Nat.reduceAdd, gi_si, gi_sr, gr_si, gr_sr, gN_si, gN_sr, ky_e, ky_l, ky_r, kw_e, kw_1, kw_2, kw_l, kw_r, ite_self, if_true, if_false] using Rel.fb h)) (by first | exact (have q := Rel.f4 h; q) | (simpa (disch := omega) only [reduceIte, Nat.reduceEqDiff, Nat.reduceAdd, gi_si, gi_sr, gr_si, gr_sr, gN_si, gN_sr, ky_e, ky_l, ky_r, kw_e, kw_1, kw_2, kw_l, kw_r, ite_self, if_true, if_false] using Rel.f4 h)) (by first | exact (have q := Rel.f12 h; q) | (simpa (disch := omega) only [reduceIte, Nat.reduceEqDiff, Nat.reduceAdd, gi_si, gi_sr, gr_si, gr_sr, gN_si, gN_sr, ky_e, ky_l, ky_r, kw_e, kw_1, kw_2, kw_l, kw_r, ite_self, if_true, if_false] using Rel.f12 h)) (by first | exact (have q := Rel.ha h; q) | (simpa (disch := omega) only [reduceIte, Nat.reduceEqDiff, Nat.reduceAdd, gi_si, gi_sr, gr_si, gr_sr, gN_si, gN_sr, ky_e, ky_l, ky_r, kw_e, kw_1, kw_2, kw_l, kw_r, ite_self, if_true, if_false] using Rel.ha h)) (by first | exact (have q := Rel.hb h; q) | (simpa (disch := omega) only [reduceIte, Nat.reduceEqDiff, Nat.reduceAdd, gi_si, gi_sr, gr_si, gr_sr, gN_si, gN_sr, ky_e, ky_l, ky_r, kw_e, kw_1, kw_2, kw_l, kw_r, ite_self, if_true, if_false] using Rel.hb h)) (by first | exact (have q := Rel.hh h; q) | (simpa (disch := omega) only [reduceIte, Nat.reduceEqDiff, Nat.reduceAdd, gi_si, gi_sr, gr_si, gr_sr, gN_si, gN_sr, ky_e, ky_l, ky_r, kw_e, kw_1, kw_2, kw_l, kw_r, ite_self, if_true, if_false] using Rel.hh h)) (by first | exact (have q := Rel.pa h; q) | (simpa (disch := omega) only [reduceIte, Nat.reduceEqDiff, Nat.reduceAdd, gi_si, gi_sr, gr_si, gr_sr, gN_si, gN_sr, ky_e, ky_l, ky_r, kw_e, kw_1, kw_2, kw_l, kw_r, ite_self, if_true, if_false] using Rel.pa h)) (by first | exact (have q := Rel.pb h; q) | (simpa (disch := omega) only [reduceIte, Nat.reduceEqDiff, Nat.reduceAdd, gi_si, gi_sr, gr_si, gr_sr, gN_si, gN_sr, ky_e, ky_l, ky_r, kw_e, kw_1, kw_2, kw_l, kw_r, ite_self, if_true, if_false] using Rel.pb h)) (by first | exact (have q := Rel.pp h; q) | (simpa (disch := omega) only [reduceIte, Nat.reduceEqDiff, Nat.reduceAdd, gi_si, gi_sr, gr_si, gr_sr, gN_si, gN_sr, ky_e, ky_l, ky_r, kw_e, kw_1, kw_2, kw_l, kw_r, ite_self, if_true, if_false] using Rel.pp h)) (by first | exact (have q := Rel.ga h; q) | (simpa (disch := omega) only [reduceIte, Nat.reduceEqDiff, Nat.reduceAdd, gi_si, gi_sr, gr_si, gr_sr, gN_si, gN_sr, ky_e, ky_l, ky_r, kw_e, kw_1, kw_2, kw_l, kw_r, ite_self, if_true, if_false] using Rel.ga h)) (by first | exact (have q := Rel.gb h; q) | (simpa (disch := omega) only [reduceIte, Nat.reduceEqDiff, Nat.reduceAdd, gi_si, gi_sr, gr_si, gr_sr, gN_si, gN_sr, ky_e, ky_l, ky_r, kw_e, kw_1, kw_2, kw_l, kw_r, ite_self, if_true, if_false] using Rel.gb h)) (by first | exact (have q := Rel.gg h; q) | (simpa (disch := omega) only [reduceIte, Nat.reduceEqDiff, Nat.reduceAdd, gi_si, gi_sr, gr_si, gr_sr, gN_si, gN_sr, ky_e, ky_l, ky_r, kw_e, kw_1, kw_2, kw_l, kw_r, ite_self, if_true, if_false] using Rel.gg h)) (by first | exact (have q := Rel.cs h; q) | (simpa (disch := omega) only [reduceIte, Nat.reduceEqDiff, Nat.reduceAdd, gi_si, gi_sr, gr_si, gr_sr, gN_si, gN_sr, ky_e, ky_l, ky_r, kw_e, kw_1, kw_2, kw_l, kw_r, ite_self, if_true, if_false] using Rel.cs h)) (?_) (by first | exact (have q := Rel.pg h; q) | (simpa (disch := omega) only [reduceIte, Nat.reduceEqDiff, Nat.reduceAdd, gi_si, gi_sr, gr_si, gr_sr, gN_si, gN_sr, ky_e, ky_l, ky_r, kw_e, kw_1, kw_2, kw_l, kw_r, ite_self, if_true, if_false] using Rel.pg h)) (by first | exact (have q := Rel.sg h; q) | (simpa (disch := omega) only [reduceIte, Nat.reduceEqDiff, Nat.reduceAdd, gi_si, gi_sr, gr_si, gr_sr, gN_si, gN_sr, ky_e, ky_l, ky_r, kw_e, kw_1, kw_2, kw_l, kw_r, ite_self, if_true, if_false] using Rel.sg h)) (by first | exact (have q := Rel.sz h; q) | (simpa (disch := omega) only [reduceIte, Nat.reduceEqDiff, Nat.reduceAdd, gi_si, gi_sr, gr_si, gr_sr, gN_si, gN_sr, ky_e, ky_l, ky_r, kw_e, kw_1, kw_2, kw_l, kw_r, ite_self, if_true, if_false] using Rel.sz h)) (by first | exact (have q := Rel.fr h; q) | (simpa (disch := omega) only [reduceIte, Nat.reduceEqDiff, Nat.reduceAdd, gi_si, gi_sr, gr_si, gr_sr, gN_si, gN_sr, ky_e, ky_l, ky_r, kw_e, kw_1, kw_2, kw_l, kw_r, ite_self, if_true, if_false] using Rel.fr h)) (by first | exact (have q := Rel.sl h; q) | (simpa (disch := omega) only [reduceIte, Nat.reduceEqDiff, Nat.reduceAdd, gi_si, gi_sr, gr_si, gr_sr, gN_si, gN_sr, ky_e, ky_l, ky_r, kw_e, kw_1, kw_2, kw_l, kw_r, ite_self, if_true, if_false] using Rel.sl h)) (by first | exact (have q := Rel.nn h; q) | (simpa (disch := omega) only [reduceIte, Nat.reduceEqDiff, Nat.reduceAdd, gi_si, gi_sr, gr_si, gr_sr, gN_si, gN_sr, ky_e, ky_l, ky_r, kw_e, kw_1, kw_2, kw_l, kw_r, ite_self, if_true, if_false] using Rel.nn h)) (by first | exact (have q := Rel.df h; q) | (simpa (disch := omega) only [reduceIte, Nat.reduceEqDiff, Nat.reduceAdd, gi_si, gi_sr, gr_si, gr_sr, gN_si, gN_sr, ky_e, ky_l, ky_r, kw_e, kw_1, kw_2, kw_l, kw_r, ite_self, if_true, if_false] using Rel.df h)) (by first | exact (have q := Rel.ds h; q) | (simpa (disch := omega) only [reduceIte, Nat.reduceEqDiff, Nat.reduceAdd, gi_si, gi_sr, gr_si, gr_sr, gN_si, gN_sr, ky_e, ky_l, ky_r, kw_e, kw_1, kw_2, kw_l, kw_r, ite_self, if_true, if_false] using Rel.ds h)) (by first | exact (have q := Rel.ij h; q) | (simpa (disch := omega) only [reduceIte, Nat.reduceEqDiff, Nat.reduceAdd, gi_si, gi_sr, gr_si, gr_sr, gN_si, gN_sr, ky_e, ky_l, ky_r, kw_e, kw_1, kw_2, kw_l, kw_r, ite_self, if_true, if_false] using Rel.ij h)) (by first | exact (have q := Rel.th h; q) | (simpa (disch := omega) only [reduceIte, Nat.reduceEqDiff, Nat.reduceAdd, gi_si, gi_sr, gr_si, gr_sr, gN_si, gN_sr, ky_e, ky_l, ky_r, kw_e, kw_1, kw_2, kw_l, kw_r, ite_self, if_true, if_false] using Rel.th h)) (by first | exact (have q := Rel.di h; q) | (simpa (disch := omega) only [reduceIte, Nat.reduceEqDiff, Nat.reduceAdd, gi_si, gi_sr, gr_si, gr_sr, gN_si, gN_sr, ky_e, ky_l, ky_r, kw_e, kw_1, kw_2, kw_l, kw_r, ite_self, if_true, if_false] using Rel.di h)) (by first | exact (have q := Rel.wd h; q) | (simpa (disch := omega) only [reduceIte, Nat.reduceEqDiff, Nat.reduceAdd, gi_si, gi_sr, gr_si, gr_sr, gN_si, gN_sr, ky_e, ky_l, ky_r, kw_e, kw_1, kw_2, kw_l, kw_r, ite_self, if_true, if_false] using Rel.wd h)) (by first | exact (have q := Rel.cn h; q) | (simpa (disch := omega) only [reduceIte, Nat.reduceEqDiff, Nat.reduceAdd, gi_si, gi_sr, gr_si, gr_sr, gN_si, gN_sr, ky_e, ky_l, ky_r, kw_e, kw_1, kw_2, kw_l, kw_r, ite_self, if_true, if_false] using Rel.cn h)) (by first | exact (have q := Rel.sd h; q) | (simpa (disch := omega) only [reduceIte, Nat.reduceEqDiff, Nat.reduceAdd, gi_si, gi_sr, gr_si, gr_sr, gN_si, gN_sr, ky_e, ky_l, ky_r, kw_e, kw_1, kw_2, kw_l, kw_r, ite_self, if_true, if_false] using Rel.sd h)) (by first | exact (have q := Rel.pn h; q) | (simpa (disch := omega) only [reduceIte, Nat.reduceEqDiff, Nat.reduceAdd, gi_si, gi_sr, gr_si, gr_sr, gN_si, gN_sr, ky_e, ky_l, ky_r, kw_e, kw_1, kw_2, kw_l, kw_r, ite_self, if_true, if_false] using Rel.pn h)) (by first | exact (have q := Rel.n2 h; q) | (simpa (disch := omega) only [reduceIte, Nat.reduceEqDiff, Nat.reduceAdd, gi_si, gi_sr, gr_si, gr_sr, gN_si, gN_sr, ky_e, ky_l, ky_r, kw_e, kw_1, kw_2, kw_l, kw_r, ite_self, if_true, if_false] using Rel.n2 h)) (by first | exact (have q := Rel.xx h; q) | (simpa (disch := omega) only [reduceIte, Nat.reduceEqDiff, Nat.reduceAdd, gi_si, gi_sr, gr_si, gr_sr, gN_si, gN_sr, ky_e, ky_l, ky_r, kw_e, kw_1, kw_2, kw_l, kw_r, ite_self, if_true, if_false] using Rel.xx h)))
  intro i hi
  by_cases e : i = p
  · subst e
    refine Or.inr ?_
    simp (disch := omega) only [reduceIte, Nat.reduceEqDiff, Nat.reduceAdd, gi_si, gi_sr, gr_si, gr_sr, gN_si, gN_sr, ky_e, ky_l, ky_r, kw_e, kw_1, kw_2, kw_l, kw_r, ite_self, if_true, if_false]
    rw [hm]
    exact ⟨rfl, hv⟩
  · simp (disch := omega) only [reduceIte, Nat.reduceEqDiff, Nat.reduceAdd, gi_si, gi_sr, gr_si, gr_sr, gN_si, gN_sr, ky_e, ky_l, ky_r, kw_e, kw_1, kw_2, kw_l, kw_r, ite_self, if_true, if_false, e]
    rcases h.lv i hi with (a | a) | a
    · exact Or.inl a
    · exact absurd a e
    · exact Or.inr a
theorem Rel.frames (h : Rel ι F hd P G z L X E σ μ) {F' : Nat} (h4 : 4 ≤ F') (h12 : F' ≤ 12) (hn : ∀ f, f < F → gr σ 5 f = none) : Rel ι F' 0 P G z L X E (si (si σ 4 3 (nI F')) 4 4 0) (si (si μ 0 3 (nI F')) 0 4 0) := by
  have f12 := h.f12
  refine (Rel.mk' (by first | exact (have q := Rel.tm h; q) | (simpa (disch := omega) only [reduceIte, Nat.reduceEqDiff, Nat.reduceAdd, gi_si, gi_sr, gr_si, gr_sr, gN_si, gN_sr, ky_e, ky_l, ky_r, kw_e, kw_1, kw_2, kw_l, kw_r, ite_self, if_true, if_false] using Rel.tm h)) (by first | exact (have q := Rel.wn h; q) | (simpa (disch := omega) only [reduceIte, Nat.reduceEqDiff, Nat.reduceAdd, gi_si, gi_sr, gr_si, gr_sr, gN_si, gN_sr, ky_e, ky_l, ky_r, kw_e, kw_1, kw_2, kw_l, kw_r, ite_self, if_true, if_false] using Rel.wn h)) (rfl) (rfl) (h4) (h12) (rfl) (rfl) ((by omega)) (by first | exact (have q := Rel.pa h; q) | (simpa (disch := omega) only [reduceIte, Nat.reduceEqDiff, Nat.reduceAdd, gi_si, gi_sr, gr_si, gr_sr, gN_si, gN_sr, ky_e, ky_l, ky_r, kw_e, kw_1, kw_2, kw_l, kw_r, ite_self, if_true, if_false] using Rel.pa h)) (by first | exact (have q := Rel.pb h; q) | (simpa (disch := omega) only [reduceIte, Nat.reduceEqDiff, Nat.reduceAdd, gi_si, gi_sr, gr_si, gr_sr, gN_si, gN_sr, ky_e, ky_l, ky_r, kw_e, kw_1, kw_2, kw_l, kw_r, ite_self, if_true, if_false] using Rel.pb h)) (by first | exact (have q := Rel.pp h; q) | (simpa (disch := omega) only [reduceIte, Nat.reduceEqDiff, Nat.reduceAdd, gi_si, gi_sr, gr_si, gr_sr, gN_si, gN_sr, ky_e, ky_l, ky_r, kw_e, kw_1, kw_2, kw_l, kw_r, ite_self, if_true, if_false] using Rel.pp h)) (by first | exact (have q := Rel.ga h; q) | (simpa (disch := omega) only [reduceIte, Nat.reduceEqDiff, Nat.reduceAdd, gi_si, gi_sr, gr_si, gr_sr, gN_si, gN_sr, ky_e, ky_l, ky_r, kw_e, kw_1, kw_2, kw_l, kw_r, ite_self, if_true, if_false] using Rel.ga h)) (by first | exact (have q := Rel.gb h; q) | (simpa (disch := omega) only [reduceIte, Nat.reduceEqDiff, Nat.reduceAdd, gi_si, gi_sr, gr_si, gr_sr, gN_si, gN_sr, ky_e, ky_l, ky_r, kw_e, kw_1, kw_2, kw_l, kw_r, ite_self, if_true, if_false] using Rel.gb h)) (by first | exact (have q := Rel.gg h; q) | (simpa (disch := omega) only [reduceIte, Nat.reduceEqDiff, Nat.reduceAdd, gi_si, gi_sr, gr_si, gr_sr, gN_si, gN_sr, ky_e, ky_l, ky_r, kw_e, kw_1, kw_2, kw_l, kw_r, ite_self, if_true, if_false] using Rel.gg h)) (by first | exact (have q := Rel.cs h; q) | (simpa (disch := omega) only [reduceIte, Nat.reduceEqDiff, Nat.reduceAdd, gi_si, gi_sr, gr_si, gr_sr, gN_si, gN_sr, ky_e, ky_l, ky_r, kw_e, kw_1, kw_2, kw_l, kw_r, ite_self, if_true, if_false] using Rel.cs h)) (by first | exact (have q := Rel.lv h; q) | (simpa (disch := omega) only [reduceIte, Nat.reduceEqDiff, Nat.reduceAdd, gi_si, gi_sr, gr_si, gr_sr, gN_si, gN_sr, ky_e, ky_l, ky_r, kw_e, kw_1, kw_2, kw_l, kw_r, ite_self, if_true, if_false] using Rel.lv h)) (by first | exact (have q := Rel.pg h; q) | (simpa (disch := omega) only [reduceIte, Nat.reduceEqDiff, Nat.reduceAdd, gi_si, gi_sr, gr_si, gr_sr, gN_si, gN_sr, ky_e, ky_l, ky_r, kw_e, kw_1, kw_2, kw_l, kw_r, ite_self, if_true, if_false] using Rel.pg h)) (by first | exact (have q := Rel.sg h; q) | (simpa (disch := omega) only [reduceIte, Nat.reduceEqDiff, Nat.reduceAdd, gi_si, gi_sr, gr_si, gr_sr, gN_si, gN_sr, ky_e, ky_l, ky_r, kw_e, kw_1, kw_2, kw_l, kw_r, ite_self, if_true, if_false] using Rel.sg h)) (by first | exact (have q := Rel.sz h; q) | (simpa (disch := omega) only [reduceIte, Nat.reduceEqDiff, Nat.reduceAdd, gi_si, gi_sr, gr_si, gr_sr, gN_si, gN_sr, ky_e, ky_l, ky_r, kw_e, kw_1, kw_2, kw_l, kw_r, ite_self, if_true, if_false] using Rel.sz h)) (?_) (by first | exact (have q := Rel.sl h; q) | (simpa (disch := omega) only [reduceIte, Nat.reduceEqDiff, Nat.reduceAdd, gi_si, gi_sr, gr_si, gr_sr, gN_si, gN_sr, ky_e, ky_l, ky_r, kw_e, kw_1, kw_2, kw_l, kw_r, ite_self, if_true, if_false] using Rel.sl h)) (by first | exact (have q := Rel.nn h; q) | (simpa (disch := omega) only [reduceIte, Nat.reduceEqDiff, Nat.reduceAdd, gi_si, gi_sr, gr_si, gr_sr, gN_si, gN_sr, ky_e, ky_l, ky_r, kw_e, kw_1, kw_2, kw_l, kw_r, ite_self, if_true, if_false] using Rel.nn h)) (?_) (by first | exact (have q := Rel.ds h; q) | (simpa (disch := omega) only [reduceIte, Nat.reduceEqDiff, Nat.reduceAdd, gi_si, gi_sr, gr_si, gr_sr, gN_si, gN_sr, ky_e, ky_l, ky_r, kw_e, kw_1, kw_2, kw_l, kw_r, ite_self, if_true, if_false] using Rel.ds h)) (by first | exact (have q := Rel.ij h; q) | (simpa (disch := omega) only [reduceIte, Nat.reduceEqDiff, Nat.reduceAdd, gi_si, gi_sr, gr_si, gr_sr, gN_si, gN_sr, ky_e, ky_l, ky_r, kw_e, kw_1, kw_2, kw_l, kw_r, ite_self, if_true, if_false] using Rel.ij h)) (by first | exact (have q := Rel.th h; q) | (simpa (disch := omega) only [reduceIte, Nat.reduceEqDiff, Nat.reduceAdd, gi_si, gi_sr, gr_si, gr_sr, gN_si, gN_sr, ky_e, ky_l, ky_r, kw_e, kw_1, kw_2, kw_l, kw_r, ite_self, if_true, if_false] using Rel.th h)) (by first | exact (have q := Rel.di h; q) | (simpa (disch := omega) only [reduceIte, Nat.reduceEqDiff, Nat.reduceAdd, gi_si, gi_sr, gr_si, gr_sr, gN_si, gN_sr, ky_e, ky_l, ky_r, kw_e, kw_1, kw_2, kw_l, kw_r, ite_self, if_true, if_false] using Rel.di h)) (by first | exact (have q := Rel.wd h; q) | (simpa (disch := omega) only [reduceIte, Nat.reduceEqDiff, Nat.reduceAdd, gi_si, gi_sr, gr_si, gr_sr, gN_si, gN_sr, ky_e, ky_l, ky_r, kw_e, kw_1, kw_2, kw_l, kw_r, ite_self, if_true, if_false] using Rel.wd h)) (by first | exact (have q := Rel.cn h; q) | (simpa (disch := omega) only [reduceIte, Nat.reduceEqDiff, Nat.reduceAdd, gi_si, gi_sr, gr_si, gr_sr, gN_si, gN_sr, ky_e, ky_l, ky_r, kw_e, kw_1, kw_2, kw_l, kw_r, ite_self, if_true, if_false] using Rel.cn h)) (by first | exact (have q := Rel.sd h; q) | (simpa (disch := omega) only [reduceIte, Nat.reduceEqDiff, Nat.reduceAdd, gi_si, gi_sr, gr_si, gr_sr, gN_si, gN_sr, ky_e, ky_l, ky_r, kw_e, kw_1, kw_2, kw_l, kw_r, ite_self, if_true, if_false] using Rel.sd h)) (by first | exact (have q := Rel.pn h; q) | (simpa (disch := omega) only [reduceIte, Nat.reduceEqDiff, Nat.reduceAdd, gi_si, gi_sr, gr_si, gr_sr, gN_si, gN_sr, ky_e, ky_l, ky_r, kw_e, kw_1, kw_2, kw_l, kw_r, ite_self, if_true, if_false] using Rel.pn h)) (by first | exact (have q := Rel.n2 h; q) | (simpa (disch := omega) only [reduceIte, Nat.reduceEqDiff, Nat.reduceAdd, gi_si, gi_sr, gr_si, gr_sr, gN_si, gN_sr, ky_e, ky_l, ky_r, kw_e, kw_1, kw_2, kw_l, kw_r, ite_self, if_true, if_false] using Rel.n2 h)) (by first | exact (have q := Rel.xx h; q) | (simpa (disch := omega) only [reduceIte, Nat.reduceEqDiff, Nat.reduceAdd, gi_si, gi_sr, gr_si, gr_sr, gN_si, gN_sr, ky_e, ky_l, ky_r, kw_e, kw_1, kw_2, kw_l, kw_r, ite_self, if_true, if_false] using Rel.xx h)))
  · intro f hf
    rcases h.fr f hf with a | ⟨d', a, b1, _⟩
    · exact Or.inl a
    · rw [hn f b1] at a
      cases a
  · intro d hL
    rcases h.df d hL with a | ⟨f, a, b, c⟩
    · exact Or.inl a
    · rw [hn f a] at c
      cases c
end U
