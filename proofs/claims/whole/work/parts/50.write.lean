/-! WRITE: its end, the copy, the call -/
section WR
variable {ι : Nat → Nat} {F hd P G : Nat} {z : Nat → Nat} {L X E : Nat → Prop} {σ μ : pw_S}
theorem r_w86 (h : Rel ι F hd P G z L X E σ μ) {d j g : Nat} {v : Int32} (hL : L d) (hn : gi σ (ky d) 3 ≠ -1) (hj : j < 4) (hg : g < 16) :
    ∃ σ' μ', fX3_write_86 (nI (4 * g + j)) v (ky d) σ = some (.inl (gi σ (ky d + 1) j), σ') ∧ fX4_write_132 (nI (4 * g + j)) v (nI (ι d)) μ = some (gi σ (ky d + 1) j, μ') ∧ Rel ι F hd P G z L X E σ' μ' ∧ gi μ' 0 0 = gi μ 0 0 := by
  have f12 := h.f12
  have i200 := (h.nn d hL).2
  obtain ⟨f, f1, f2, f3, f4, f5⟩ := r_use h hL hn
  have hw := h.word hj hL v
  have hm := h.mark (v := gi σ 0 10) (b := 1) (f := f) (by omega) (by rw [f3]; simp) (Or.inr rfl)
  have hsw := r_sw hm hL
  rw [show gi (si (si σ 6 f (gi σ 0 10)) 7 f 1) (ky d) 4 = gi σ (ky d) 4 by simp (disch := omega) only [reduceIte, Nat.reduceEqDiff, Nat.reduceAdd, gi_si, gi_sr, gr_si, gr_sr, gN_si, gN_sr, ky_e, ky_l, ky_r, kw_e, kw_1, kw_2, kw_l, kw_r, ite_self, if_true, if_false]] at hsw
  have e3 : gi (si σ (ky d + 1) j v) (ky d) 3 = nI f := by
    simp (disch := omega) only [reduceIte, Nat.reduceEqDiff, Nat.reduceAdd, gi_si, gi_sr, gr_si, gr_sr, gN_si, gN_sr, ky_e, ky_l, ky_r, kw_e, kw_1, kw_2, kw_l, kw_r, ite_self, if_true, if_false]
    exact f2
  have e4 : gi (si σ (ky d + 1) j v) (ky d) 4 = gi σ (ky d) 4 := by simp (disch := omega) only [reduceIte, Nat.reduceEqDiff, Nat.reduceAdd, gi_si, gi_sr, gr_si, gr_sr, gN_si, gN_sr, ky_e, ky_l, ky_r, kw_e, kw_1, kw_2, kw_l, kw_r, ite_self, if_true, if_false]
  have e5 : gr (si σ (ky d + 1) j v) 5 f = some (ky d) := f3
  have ea : ∀ σv, fX2_vacateSlotOf (ky d) (si σ (ky d + 1) j v) = some ((), σv) → gN σv = gN σ → gi σv (ky d) 3 = nI f → gi σv 0 10 = gi σ 0 10 → gi σv 4 3 = nI F → fX3_write_86 (nI (4 * g + j)) v (ky d) σ = some (.inl (gi σ (ky d + 1) j), si (si (si σv (ky d) 5 1) 6 f (gi σ 0 10)) 7 f 1) := by
    intro σv q1 q2 q3 q4 q5
    unfold fX3_write_86
    rw [ze_ck (h.ok hL), ze_mod4 g j hj hg, ze_ck (ze_inb (by omega) (by omega)), ze_ck (ze_inb (by omega) (by omega)), ze_c (by omega), ze_ld, q1, ze_bnd, ze_ck (show okc σv (ky d) = true by unfold okc; rw [q2]; exact h.ok hL), ze_ld]
    rw [show gi (si σv (ky d) 5 1) (ky d) 3 = nI f by
      simp (disch := omega) only [reduceIte, Nat.reduceEqDiff, Nat.reduceAdd, gi_si, gi_sr, gr_si, gr_sr, gN_si, gN_sr, ky_e, ky_l, ky_r, kw_e, kw_1, kw_2, kw_l, kw_r, ite_self, if_true, if_false]
      exact q3]
    rw [show gi (si σv (ky d) 5 1) 0 10 = gi σ 0 10 by
      simp (disch := omega) only [reduceIte, Nat.reduceEqDiff, Nat.reduceAdd, gi_si, gi_sr, gr_si, gr_sr, gN_si, gN_sr, ky_e, ky_l, ky_r, kw_e, kw_1, kw_2, kw_l, kw_r, ite_self, if_true, if_false]
      exact q4]
    rw [f5 _ _ (show gi (si σv (ky d) 5 1) 4 3 = nI F by
      simp (disch := omega) only [reduceIte, Nat.reduceEqDiff, Nat.reduceAdd, gi_si, gi_sr, gr_si, gr_sr, gN_si, gN_sr, ky_e, ky_l, ky_r, kw_e, kw_1, kw_2, kw_l, kw_r, ite_self, if_true, if_false]
      exact q5), ze_bnd]
  have eb : fX4_write_132 (nI (4 * g + j)) v (nI (ι d)) μ = (if gi σ (ky d) 4 = -1 then fX4_write_160 (nI (4 * g + j)) v (nI (ι d)) (si (si μ 2 f (gi σ 0 10)) 3 f 1) else ck (inb (gi σ (ky d) 4) 24) (fX4_write_160 (nI (4 * g + j)) v (nI (ι d)) (si (si (si μ 2 f (gi σ 0 10)) 3 f 1) 4 (Int32.toNatClampNeg (gi σ (ky d) 4)) (-1)))) := by
    unfold fX4_write_132
    rw [f4, ze_bnd, hsw, ze_bnd]
    rfl
  have ec : ∀ m, gi m 7 (4 * ι d + j) = gi σ (ky d + 1) j → fX4_write_160 (nI (4 * g + j)) v (nI (ι d)) m = some (gi σ (ky d + 1) j, si (si m 6 (ι d) 1) 7 (4 * ι d + j) v) := by
    intro m q
    unfold fX4_write_160
    rw [ze_ck (ze_inb i200 (by omega)), ze_c (by omega), ze_ld, ze_mod4 g j hj hg, m4b, ze_ck (ze_inb (by omega) (by omega)), ze_ck (ze_inb (by omega) (by omega)), ze_c (by omega), ze_ld]
    rw [show gi (si m 6 (ι d) 1) 7 (4 * ι d + j) = gi σ (ky d + 1) j from q]
  have wd := h.wd d hL j hj
  rcases h.ds d hL with q | ⟨i, i1, i2, i3⟩
  · have hv : fX2_vacateSlotOf (ky d) (si σ (ky d + 1) j v) = some ((), si σ (ky d + 1) j v) := by
      unfold fX2_vacateSlotOf fX2_vacateSlotOf_26
      rw [ze_ck (hw.ok hL), e4, q, if_pos (by decide), ze_ck (hw.ok hL), ze_ld, ze_si (e4.trans q)]
    have hr := (hw.dirt hL (by rw [e3]; exact ze_nm (by omega)) (e4.trans q)).mark (v := gi σ 0 10) (b := 1) (f := f) (by omega) (by
      rw [show gr (si (si σ (ky d + 1) j v) (ky d) 5 1) 5 f = some (ky d) from f3]
      simp) (Or.inr rfl)
    rw [ze_sc (k := 7) (k' := 6) (by decide), ze_sc (k := 7) (k' := 2) (by decide), ze_sc (k := 7) (k' := 3) (by decide), ze_sc (k := 6) (k' := 2) (by decide), ze_sc (k := 6) (k' := 3) (by decide)] at hr
    refine ⟨_, _, ea _ hv rfl e3 ?_ ?_, ?_, hr, rfl⟩
    · simp (disch := omega) only [reduceIte, Nat.reduceEqDiff, Nat.reduceAdd, gi_si, gi_sr, gr_si, gr_sr, gN_si, gN_sr, ky_e, ky_l, ky_r, kw_e, kw_1, kw_2, kw_l, kw_r, ite_self, if_true, if_false]
    · simp (disch := omega) only [reduceIte, Nat.reduceEqDiff, Nat.reduceAdd, gi_si, gi_sr, gr_si, gr_sr, gN_si, gN_sr, ky_e, ky_l, ky_r, kw_e, kw_1, kw_2, kw_l, kw_r, ite_self, if_true, if_false]
      exact h.fa
    · rw [eb, if_pos q]
      exact ec _ wd.symm
  · have hv : fX2_vacateSlotOf (ky d) (si σ (ky d + 1) j v) = some ((), si (sr (si σ (ky d + 1) j v) 9 i none) (ky d) 4 (-1)) := by
      unfold fX2_vacateSlotOf fX2_vacateSlotOf_26
      rw [ze_ck (hw.ok hL), e4, i2, if_neg (by rw [show (0 : Int32) = nI 0 from rfl, nI_ltI] <;> omega), if_neg (by rw [le24] <;> omega), ze_ck (ze_inb (by omega) (by omega)), ze_c (by omega), ze_ld, ze_ck (show okc (sr (si σ (ky d + 1) j v) 9 i none) (ky d) = true from hw.ok hL), ze_ld]
    have hr := (hw.unslot hL i1 (show gr (si σ (ky d + 1) j v) 9 i = some (ky d) from i3) (by rw [e3]; exact ze_nm (by omega))).mark (v := gi σ 0 10) (b := 1) (f := f) (by omega) (by
      rw [show gr (si (si (sr (si σ (ky d + 1) j v) 9 i none) (ky d) 4 (-1)) (ky d) 5 1) 5 f = some (ky d) from f3]
      simp) (Or.inr rfl)
    rw [ze_sc (k := 7) (k' := 4) (by decide), ze_sc (k := 7) (k' := 6) (by decide), ze_sc (k := 7) (k' := 2) (by decide), ze_sc (k := 7) (k' := 3) (by decide), ze_sc (k := 6) (k' := 2) (by decide), ze_sc (k := 6) (k' := 3) (by decide), ze_sc (k := 4) (k' := 2) (by decide), ze_sc (k := 4) (k' := 3) (by decide)] at hr
    refine ⟨_, _, ea _ hv rfl ?_ ?_ ?_, ?_, hr, rfl⟩
    · simp (disch := omega) only [reduceIte, Nat.reduceEqDiff, Nat.reduceAdd, gi_si, gi_sr, gr_si, gr_sr, gN_si, gN_sr, ky_e, ky_l, ky_r, kw_e, kw_1, kw_2, kw_l, kw_r, ite_self, if_true, if_false]
      exact f2
    · simp (disch := omega) only [reduceIte, Nat.reduceEqDiff, Nat.reduceAdd, gi_si, gi_sr, gr_si, gr_sr, gN_si, gN_sr, ky_e, ky_l, ky_r, kw_e, kw_1, kw_2, kw_l, kw_r, ite_self, if_true, if_false]
    · simp (disch := omega) only [reduceIte, Nat.reduceEqDiff, Nat.reduceAdd, gi_si, gi_sr, gr_si, gr_sr, gN_si, gN_sr, ky_e, ky_l, ky_r, kw_e, kw_1, kw_2, kw_l, kw_r, ite_self, if_true, if_false]
      exact h.fa
    · rw [eb, i2, if_neg (ze_nm (by omega)), ze_ck (ze_inb i1 (by omega)), ze_c (by omega)]
      exact ec _ wd.symm
def cpst (o c : Nat) (s : pw_S) (j : Nat) : pw_S := si s 7 (4 * c + j) (gi s 7 (4 * o + j))
theorem q_cp {x2 x3 x4 : Int32} {o c : Nat} (ho : o < 200) (hc : c < 200) (A : pw_S) : fX4_write_76 1000 x2 x3 x4 (nI o) (nI c) 0 A = bnd (fX4_take (nI c) 2 (foldN (cpst o c) A 0 4)) (fun r24 σ25 => ck (inb x4 160) (fX4_write_132 x2 x3 (nI c) (si σ25 10 (Int32.toNatClampNeg x4) (nI c)))) := by
  refine loop_fold (fun n s j => fX4_write_76 n x2 x3 x4 (nI o) (nI c) (nI j) s) 4 (cpst o c) (fun s => bnd (fX4_take (nI c) 2 s) (fun r24 σ25 => ck (inb x4 160) (fX4_write_132 x2 x3 (nI c) (si σ25 10 (Int32.toNatClampNeg x4) (nI c))))) ?_ ?_ 4 0 1000 A (by omega) (by omega)
  · intro n s j hj
    show fX4_write_76_b (fX4_write_76 n) x2 x3 x4 (nI o) (nI c) (nI j) s = _
    unfold fX4_write_76_b
    rw [if_neg (by rw [le4] <;> omega), m4b, m4b, ze_ck (ze_inb (by omega) (by omega)), ze_ck (ze_inb (by omega) (by omega)), ze_c (by omega), ze_c (by omega), ze_ld, nI_1]
    rfl
  · intro n s
    show fX4_write_76_b (fX4_write_76 n) x2 x3 x4 (nI o) (nI c) (nI 4) s = _
    unfold fX4_write_76_b
    rw [if_pos (by rw [le4] <;> omega)]
    rfl
theorem cp_o {o c : Nat} {A : pw_S} {k j : Nat} (hk : k ≠ 7) : gi (foldN (cpst o c) A 0 4) k j = gi A k j := by
  show gi (cpst o c (cpst o c (cpst o c (cpst o c A 0) 1) 2) 3) k j = _
  unfold cpst
  simp only [gi_si, hk, if_false]
theorem cp_7 {o c : Nat} {A : pw_S} (hne : o ≠ c) (i : Nat) : gi (foldN (cpst o c) A 0 4) 7 i = if 4 * c ≤ i ∧ i < 4 * c + 4 then gi A 7 (4 * o + (i - 4 * c)) else gi A 7 i := by
  show gi (cpst o c (cpst o c (cpst o c (cpst o c A 0) 1) 2) 3) 7 i = _
  have e : ∀ s j b, gi (cpst o c s j) 7 b = if b = 4 * c + j then gi s 7 (4 * o + j) else gi s 7 b := by
    intro s j b
    unfold cpst
    simp only [gi_si, if_true]
  have k1 : ∀ s j t, t < 4 → j < 4 → gi (cpst o c s j) 7 (4 * o + t) = gi s 7 (4 * o + t) := by
    intro s j t h1 h2
    rw [e, if_neg (by omega)]
  by_cases hi : 4 * c ≤ i ∧ i < 4 * c + 4
  · rw [if_pos hi]
    obtain ⟨t, ht, rfl⟩ : ∃ t, t < 4 ∧ i = 4 * c + t := ⟨i - 4 * c, by omega, by omega⟩
    rw [show 4 * c + t - 4 * c = t by omega]
    rcases (show t = 0 ∨ t = 1 ∨ t = 2 ∨ t = 3 by omega) with rfl | rfl | rfl | rfl
    · rw [e, if_neg (by omega), e, if_neg (by omega), e, if_neg (by omega), e, if_pos rfl]
    · rw [e, if_neg (by omega), e, if_neg (by omega), e, if_pos rfl, k1 _ _ _ (by omega) (by omega)]
    · rw [e, if_neg (by omega), e, if_pos rfl, k1 _ _ _ (by omega) (by omega), k1 _ _ _ (by omega) (by omega)]
    · rw [e, if_pos rfl, k1 _ _ _ (by omega) (by omega), k1 _ _ _ (by omega) (by omega), k1 _ _ _ (by omega) (by omega)]
  · rw [if_neg hi, e, if_neg (by omega), e, if_neg (by omega), e, if_neg (by omega), e, if_neg (by omega)]
theorem r_copy (h : Rel ι F hd P G z L X0 X0 σ μ) (hz : ∀ i, G ≤ i → z i = 0) {k d : Nat} {x2 x3 : Int32} (hk : k < 160) (hP : k < 16 * P) (hL : L d) (ho : gr σ 1 k = some (ky d)) (hs : gi σ (ky d) 1 = 0) (hc : ¬ gi σ (ky d) 6 ≤ 1) (hob : Ob1 F σ) :
    ∃ ι' hd' L' dn σ' μ', L' dn ∧ gi σ' (ky dn) 3 ≠ -1 ∧ Rel ι' F hd' P G z L' X0 X0 σ' μ' ∧ fX3_copyForPage (nI k) (ky d) σ = some (ky dn, σ') ∧ bnd (fX4_create μ) (fun r53 σ54 => fX4_write_76 1000 x2 x3 (nI k) (nI (ι d)) r53 0 σ54) = fX4_write_132 x2 x3 (nI (ι' dn)) μ' ∧ gi μ' 0 0 = gi μ 0 0 := by
  obtain ⟨n, A, n1, n2, n3, m, m5, m6, m7⟩ := q_create (μ := μ) (r_free h)
  obtain ⟨dn, hN⟩ := h.dn
  obtain ⟨hr, hnL⟩ := h.new (sp := -1) (dn := dn) (n := n) (μ' := A) n1 n2 hN m m5 m6 m7
  have i200 := (h.nn d hL).2
  have hdn : d ≠ dn := fun q => hnL (q ▸ hL)
  obtain ⟨ι', hι⟩ : ∃ ι' : Nat → Nat, ι' = fun x => if x = dn then n else ι x := ⟨_, rfl⟩
  rw [← hι] at hr
  have i1 : ι' dn = n := by rw [hι]; exact if_pos rfl
  have i2 : ι' d = ι d := by rw [hι]; exact if_neg hdn
  have hne : ι d ≠ n := by
    intro q
    rcases h.th n n1 with ⟨a, _⟩ | ⟨_, a⟩
    · rw [n2] at a; exact absurd a (by decide)
    · exact a d hL q
  have hrc := hr.copy (c := dn) (o := d) (μ' := foldN (cpst (ι d) n) A 0 4) (Or.inr rfl) (Or.inl hL) (fun k j q => cp_o q) (fun i => by rw [i1, i2]; exact cp_7 hne i)
  have er : ∀ a b, a < 12 → gr (cpW (newC σ (-1)) (ky d) (ky dn)) a b = gr σ a b := by
    intro a b q
    show gr (newC σ (-1)) a b = _
    rw [gr_newC, hN, if_neg (by unfold ky; omega)]
  have ec : ∀ x b, gi (cpW (newC σ (-1)) (ky d) (ky dn)) (ky x) b = gi (newC σ (-1)) (ky x) b := by
    intro x b
    show (if ky x = ky dn + 1 ∧ b < 4 then gi (newC σ (-1)) (ky d + 1) b else gi (newC σ (-1)) (ky x) b) = _
    rw [if_neg (by unfold ky; omega)]
  have eo : ∀ x b, x ≠ dn → gi (cpW (newC σ (-1)) (ky d) (ky dn)) (ky x) b = gi σ (ky x) b := by
    intro x b q
    rw [ec, gi_newC, hN, if_neg (by unfold ky; omega), if_neg (by unfold ky; omega)]
  have en : ∀ b, gi (cpW (newC σ (-1)) (ky d) (ky dn)) (ky dn) b = if b = 1 then 0 else if b = 2 then -1 else if b = 3 ∨ b = 4 then -1 else 0 := by
    intro b
    rw [ec, gi_newC, hN, if_pos rfl]
    rfl
  have hNn : gN (cpW (newC σ (-1)) (ky d) (ky dn)) = gN σ + 2 := rfl
  have hcn : fX3_copyForPage (nI k) (ky d) σ = bnd (fX3_giveFrame (ky dn) 2 (cpW (newC σ (-1)) (ky d) (ky dn))) (fun r16 σ17 => bnd (fX3_dropReference (nI k) σ17) (fun r19 σ20 => bnd (fX3_refer (nI k) (ky dn) σ20) (fun r22 σ23 => some (ky dn, σ23)))) := by
    unfold fX3_copyForPage
    rw [ze_ck (h.ok hL), ze_ck (r_cnew h), ze_ld, ze_ld, ze_ld, hN]
  have nk : ∀ k', gr σ 1 k' ≠ some (ky dn) := by
    intro k' q
    have := h.n2.2.2 _ _ _ q
    omega
  generalize cpW (newC σ (-1)) (ky d) (ky dn) = σ14 at hrc er ec eo en hNn hcn
  obtain ⟨hd', σ17, μ17, g1, g2, g3, g4, g5⟩ := r_give hrc hz (i := 2) (d := dn) (Or.inr rfl) (by rw [en]; rfl) (by
    rcases hob with ⟨f, a, b⟩ | ⟨f, x, y1, y2, y3⟩ | ⟨i, a, b⟩
    · exact Or.inl ⟨f, a, by rw [er _ _ (by omega)]; exact b⟩
    · refine Or.inr (Or.inl ⟨f, x, y1, by rw [er _ _ (by omega)]; exact y2, ?_⟩)
      by_cases q : x = dn
      · rw [q, en]; rfl
      · rw [eo _ _ q]; exact y3
    · exact Or.inr (Or.inr ⟨i, a, by rw [er _ _ (by omega)]; exact b⟩)) (fun x q => by
    rcases q with q | q
    · exact absurd q id
    · rw [q, en]; rfl) (by omega)
  have t1 : ∀ k', gr σ17 1 k' = gr σ 1 k' := fun k' => (g4.2.1 k').trans (er _ _ (by omega))
  have t2 : gi σ17 (ky d) 1 = 0 := (g4.2.2.2.2.1 d).trans ((eo _ _ hdn).trans hs)
  have t2n : gi σ17 (ky dn) 1 = 0 := (g4.2.2.2.2.1 dn).trans (en 1)
  have t3 : gi σ17 (ky d) 6 = gi σ (ky d) 6 := (g4.2.2.2.2.2.1 d).trans (eo _ _ hdn)
  have cl := cntN_le (P := fun k => gr σ 1 k == some (ky d)) 160 0
  have cn := h.cn d hL
  have c1 : 1 < cntN (fun k => gr σ 1 k == some (ky d)) 0 160 := by
    rw [cn, show (1 : Int32) = nI 1 from rfl, nI_leI (by omega) (by omega)] at hc
    omega
  obtain ⟨k', k1, k2, k3, k4⟩ := cntN_two 160 0 c1 k
  have k3 : gr σ 1 k' = some (ky d) := by simpa using k3
  obtain ⟨c0, hc0⟩ : ∃ c0, cntN (fun k => gr σ 1 k == some (ky d)) 0 160 = c0 + 2 := ⟨_, (by omega : _ = (cntN (fun k => gr σ 1 k == some (ky d)) 0 160 - 2) + 2)⟩
  have t4 : gi σ17 (ky d) 6 - 1 = nI (c0 + 1) := by rw [t3, cn, hc0, show c0 + 2 = (c0 + 1) + 1 by omega, ze_pred]
  have ho17 : gr σ17 1 k = some (ky d) := (t1 k).trans ho
  obtain ⟨_, h1⟩ := g3.drop (k := k) (d := d) hk ho17
  have ed : fX3_dropReference (nI k) σ17 = some (0, si (sr σ17 1 k none) (ky d) 6 (gi σ17 (ky d) 6 - 1)) := by
    unfold fX3_dropReference fX3_dropReference_44
    rw [ze_ck (ze_inb (by omega) (by omega)), ze_c (by omega), ze_ld, ho17, ze_ocs, ze_ck (ze_inb (by omega) (by omega)), ze_ld, ze_ck (show okc (sr σ17 1 k none) (ky d) = true from g3.ok (Or.inl hL)), ze_ld]
    rw [show gi (sr σ17 1 k none) (ky d) 6 = gi σ17 (ky d) 6 from rfl]
    rw [if_pos (show gi (si (sr σ17 1 k none) (ky d) 6 (gi σ17 (ky d) 6 - 1)) (ky d) 1 = 0 by
      simp (disch := omega) only [reduceIte, Nat.reduceEqDiff, Nat.reduceAdd, gi_si, gi_sr, gr_si, gr_sr, gN_si, gN_sr, ky_e, ky_l, ky_r, kw_e, kw_1, kw_2, kw_l, kw_r, ite_self, if_true, if_false]
      exact t2)]
    rw [if_neg (show ¬ gi (si (sr σ17 1 k none) (ky d) 6 (gi σ17 (ky d) 6 - 1)) (ky d) 6 ≤ 0 by
      simp (disch := omega) only [reduceIte, Nat.reduceEqDiff, Nat.reduceAdd, gi_si, gi_sr, gr_si, gr_sr, gN_si, gN_sr, ky_e, ky_l, ky_r, kw_e, kw_1, kw_2, kw_l, kw_r, ite_self, if_true, if_false]
      rw [t4, show (0 : Int32) = nI 0 from rfl, nI_leI (by omega) (by omega)]
      omega)]
  have ef := r_refer h1 (k := k) (d := dn) hk (Or.inr rfl)
  have h9 : gi μ17 9 k = 1 := by
    rw [g4.2.2.2.2.2.2.2.2.1 k, cp_o (by omega), m _ _ (by omega) (by omega) (by omega)]
    rcases h.pg k hk with ⟨a, _⟩ | ⟨d', a, b1, b2, b3, b4⟩
    · rw [a] at ho; cases ho
    · rw [a, ky_ij] at ho
      subst ho
      rw [b3, if_pos hs]
  have h2 := h1.refer (k := k) (d := dn) (v := 1) hk hP (by simp (disch := omega) only [reduceIte, Nat.reduceEqDiff, Nat.reduceAdd, gi_si, gi_sr, gr_si, gr_sr, gN_si, gN_sr, ky_e, ky_l, ky_r, kw_e, kw_1, kw_2, kw_l, kw_r, ite_self, if_true, if_false]) (Or.inr rfl) (fun _ k' q1 q2 => by
    exfalso
    simp (disch := omega) only [reduceIte, Nat.reduceEqDiff, Nat.reduceAdd, gi_si, gi_sr, gr_si, gr_sr, gN_si, gN_sr, ky_e, ky_l, ky_r, kw_e, kw_1, kw_2, kw_l, kw_r, ite_self, if_true, if_false] at q2
    split at q2
    · cases q2
    · rw [t1] at q2
      exact nk k' q2) (by
    rw [if_pos]
    simp (disch := omega) only [reduceIte, Nat.reduceEqDiff, Nat.reduceAdd, gi_si, gi_sr, gr_si, gr_sr, gN_si, gN_sr, ky_e, ky_l, ky_r, kw_e, kw_1, kw_2, kw_l, kw_r, ite_self, if_true, if_false]
    exact t2n)
  rw [ze_ss, ze_si h9] at h2
  have h3 := h2.unx (X' := X0) (fun x hx q => by
    rcases q with (q | q) | q
    · exact absurd q id
    · subst q
      refine Or.inr ⟨Or.inl ⟨k, hk, ?_⟩, fun w => ?_⟩
      · simp (disch := omega) only [reduceIte, Nat.reduceEqDiff, Nat.reduceAdd, gi_si, gi_sr, gr_si, gr_sr, gN_si, gN_sr, ky_e, ky_l, ky_r, kw_e, kw_1, kw_2, kw_l, kw_r, ite_self, if_true, if_false]
      · exfalso
        simp (disch := omega) only [reduceIte, Nat.reduceEqDiff, Nat.reduceAdd, gi_si, gi_sr, gr_si, gr_sr, gN_si, gN_sr, ky_e, ky_l, ky_r, kw_e, kw_1, kw_2, kw_l, kw_r, ite_self, if_true, if_false] at w
        rw [t2n] at w
        exact absurd w (by decide)
    · subst q
      refine Or.inr ⟨Or.inl ⟨k', by omega, ?_⟩, fun w => ?_⟩
      · simp (disch := omega) only [reduceIte, Nat.reduceEqDiff, Nat.reduceAdd, gi_si, gi_sr, gr_si, gr_sr, gN_si, gN_sr, ky_e, ky_l, ky_r, kw_e, kw_1, kw_2, kw_l, kw_r, ite_self, if_true, if_false, k4]
        rw [t1]
        exact k3
      · exfalso
        simp (disch := omega) only [reduceIte, Nat.reduceEqDiff, Nat.reduceAdd, gi_si, gi_sr, gr_si, gr_sr, gN_si, gN_sr, ky_e, ky_l, ky_r, kw_e, kw_1, kw_2, kw_l, kw_r, ite_self, if_true, if_false] at w
        rw [t2] at w
        exact absurd w (by decide))
  refine ⟨ι', hd', _, dn, _, _, Or.inr rfl, ?_, h3, ?_, ?_, ?_⟩
  · simp (disch := omega) only [reduceIte, Nat.reduceEqDiff, Nat.reduceAdd, gi_si, gi_sr, gr_si, gr_sr, gN_si, gN_sr, ky_e, ky_l, ky_r, kw_e, kw_1, kw_2, kw_l, kw_r, ite_self, if_true, if_false]
    exact g5
  · rw [hcn, show fX3_giveFrame (ky dn) 2 σ14 = some ((), σ17) from g1, ze_bnd, ed, ze_bnd, ef, ze_bnd]
  · rw [n3, ze_bnd, q_cp i200 n1, show fX4_take (nI n) 2 (foldN (cpst (ι d) n) A 0 4) = some ((), μ17) by rw [← i1]; rw [← i1] at g2; exact g2, ze_bnd, ze_ck (ze_inb hk (by omega)), ze_c (by omega), i1]
  · show gi μ17 0 0 = gi μ 0 0
    rw [g4.2.2.2.2.2.2.2.1 0 (by omega), cp_o (by omega), m _ _ (by omega) (by omega) (by omega)]
theorem op_write (a1 a2 a3 : Int32) : opI RRl [pw_ioX, pw_neX, pw_iaX, pw_isX] (fX3_write a1 a2 a3) (fX4_write a1 a2 a3) := by
  intro σ μ h
  have h0 := h
  obtain ⟨ι, F, hd, P, G, z, L, h, hz⟩ := h
  have p10 := h.pp
  rcases g_addr h a1 a2 with ⟨c1, c2⟩ | ⟨c1, c2⟩ | ⟨c1, c2⟩ | ⟨p, g, j, d, p1, g1, j1, e1, e2, hL, ho, hm, hm9, c1, _, c2⟩
  · refine op_no (Er := pw_ioX) (by decide) (h0.thr 1) ?_ (bb := 0) ?_ rfl
    · unfold fX3_write; rw [c1]; rfl
    · unfold fX4_write; rw [c2]; rfl
  · refine op_no (Er := pw_neX) (by decide) (h0.thr 2) ?_ (bb := 0) ?_ rfl
    · unfold fX3_write; rw [c1]; rfl
    · unfold fX4_write; rw [c2]; rfl
  · refine op_no (Er := pw_iaX) (by decide) (h0.thr 3) ?_ (bb := 0) ?_ rfl
    · unfold fX3_write; rw [c1]; rfl
    · unfold fX4_write; rw [c2]; rfl
  · have main : ∀ cp : Bool, (gi σ (ky d) 3 = -1 → Ob1 F σ) → (cp = true → Ob1 F σ ∧ gi σ (ky d) 1 = 0 ∧ ¬ gi σ (ky d) 6 ≤ 1) → (cp = false → gi σ (ky d) 1 ≠ 0 ∨ gi σ (ky d) 6 ≤ 1) → fX3_write a1 a2 a3 σ = fX3_write_50 a1 a2 a3 (ky d) (if cp = true then 1 else 0) σ → fX4_begins a1 a2 1 μ = some (1, si μ 0 0 0) → ∃ r σ' bb μ', fX3_write a1 a2 a3 σ = some (r, σ') ∧ fX4_write a1 a2 a3 μ = some (bb, μ') ∧ RRl σ' μ' ∧ (∀ E, r = .inr E → E ∈ [pw_ioX, pw_neX, pw_iaX, pw_isX]) ∧ gi μ' 0 0 = (wrI [pw_ioX, pw_neX, pw_iaX, pw_isX] 0 r).1 ∧ ∀ v, r = .inl v → v = bb := by
      intro cp hob hcp hnc ea eb
      have ht := (h.thr 0).time (gi σ 0 10 + 1)
      have obt : Ob1 F σ → Ob1 F (si σ 0 10 (gi σ 0 10 + 1)) := by
        rintro (q | ⟨f, x, y1, y2, y3⟩ | q)
        · exact Or.inl q
        · refine Or.inr (Or.inl ⟨f, x, y1, y2, ?_⟩)
          simp (disch := omega) only [reduceIte, Nat.reduceEqDiff, Nat.reduceAdd, gi_si, gi_sr, gr_si, gr_sr, gN_si, gN_sr, ky_e, ky_l, ky_r, kw_e, kw_1, kw_2, kw_l, kw_r, ite_self, if_true, if_false]
          exact y3
        · exact Or.inr (Or.inr q)
      have et : ∀ b, gi (si σ 0 10 (gi σ 0 10 + 1)) (ky d) b = gi σ (ky d) b := fun b => by simp (disch := omega) only [reduceIte, Nat.reduceEqDiff, Nat.reduceAdd, gi_si, gi_sr, gr_si, gr_sr, gN_si, gN_sr, ky_e, ky_l, ky_r, kw_e, kw_1, kw_2, kw_l, kw_r, ite_self, if_true, if_false]
      obtain ⟨hd', σ1, μ1, b1, b2, b3, b4, b5, b6⟩ := r_bring ht hz hL (fun q => obt (hob ((et 3).symm.trans q))) (fun x q => absurd q id)
      have s1 : gi σ1 (ky d) 1 = gi σ (ky d) 1 := (b4.2.2.2.2.1 d).trans (et 1)
      have s6 : gi σ1 (ky d) 6 = gi σ (ky d) 6 := (b4.2.2.2.2.2.1 d).trans (et 6)
      have s0 : gi μ1 0 0 = 0 := (b4.2.2.2.2.2.2.2.1 0 (by omega)).trans rfl
      have s9 : gi μ1 9 (16 * p + g) = if gi σ (ky d) 1 = 0 then 1 else 2 := (b4.2.2.2.2.2.2.2.2.1 _).trans hm9
      have sr1 : gr σ1 1 (16 * p + g) = some (ky d) := (b4.2.1 _).trans ho
      have fb : fX4_write a1 a2 a3 μ = (if gi σ (ky d) 1 = 0 then (if gi σ (ky d) 6 ≤ 1 then fX4_write_132 (nI (4 * g + j)) a3 (nI (ι d)) μ1 else bnd (fX4_create μ1) (fun r53 σ54 => fX4_write_76 1000 (nI (4 * g + j)) a3 (nI (16 * p + g)) (nI (ι d)) r53 0 σ54)) else fX4_write_132 (nI (4 * g + j)) a3 (nI (ι d)) μ1) := by
        unfold fX4_write fX4_at
        rw [eb, ze_bnd, if_neg (by decide), ze_ld, ze_bnd, e1, e2, ze_div4 g j j1 g1, m16b, ze_ck (ze_inb (by omega) (by omega)), ze_c (by omega)]
        rw [show gi (si μ 0 0 0) 0 1 = gi σ 0 10 from h.tm.symm, show ∀ v, gi (si (si μ 0 0 0) 0 1 v) 10 (16 * p + g) = nI (ι d) from fun v => hm]
        rw [b2, ze_bnd, ze_ck (ze_inb (by omega) (by omega)), s9, r_refs b3 hL, ze_bnd, s6]
        by_cases c : gi σ (ky d) 1 = 0
        · rw [if_pos c, if_pos c, if_pos rfl]
        · rw [if_neg c, if_neg c, if_neg (by decide)]
      cases cp with
      | false =>
        obtain ⟨σ', μ', w1, w2, w3, w4⟩ := r_w86 b3 (g := g) (v := a3) hL b5 j1 g1
        refine op_yes (bb := gi σ1 (ky d + 1) j) ⟨ι, F, hd', P, G, z, L, w3, hz⟩ ?_ ?_ (w4.trans s0)
        · rw [ea]
          unfold fX3_write_50
          rw [ze_ld, b1, ze_bnd, if_neg (show ¬ (false = true) by decide), if_pos rfl, e2, w1]
        · rw [fb]
          rcases hnc rfl with q | q
          · rw [if_neg q, w2]
          · rw [if_pos q, w2, ite_self]
      | true =>
        obtain ⟨k1, k2, k3⟩ := hcp rfl
        have ob1 : Ob1 F σ1 := by
          by_cases q : gi σ (ky d) 3 = -1
          · have h5 : gi σ (ky d) 5 = 0 := by
              rcases h.di d hL with ⟨_, _, _, a⟩ | ⟨a, _⟩
              · exact absurd q a
              · exact a
            rcases b3.df d hL with w | ⟨f, f1, f2, f3⟩
            · exact absurd w b5
            · exact Or.inr (Or.inl ⟨f, d, f1, f3, (b4.2.2.2.2.2.2.2.2.2.2.2 d ((et 5).trans h5)).1⟩)
          · rw [b6 (fun w => q ((et 3).symm.trans w))]
            exact obt k1
        obtain ⟨ι', hd2, L', dn, σ2, μ2, v1, v2, v3, v4, v5, v6⟩ := r_copy b3 hz (k := 16 * p + g) (x2 := nI (4 * g + j)) (x3 := a3) (by omega) (by omega) hL sr1 (s1.trans k2) (by rw [s6]; exact k3) ob1
        obtain ⟨σ', μ', w1, w2, w3, w4⟩ := r_w86 v3 (g := g) (v := a3) v1 v2 j1 g1
        refine op_yes (bb := gi σ2 (ky dn + 1) j) ⟨ι', F, hd2, P, G, z, L', w3, hz⟩ ?_ ?_ (w4.trans (v6.trans s0))
        · rw [ea]
          unfold fX3_write_50 fX3_placeOf
          rw [ze_ld, b1, ze_bnd, if_pos rfl, if_neg (by decide), ze_bnd, e1, e2, ze_div4 g j j1 g1, m16a, v4, ze_bnd, w1]
        · rw [fb, if_pos k2, if_neg k3, v5, w2]
    have fa : fX3_write a1 a2 a3 σ = (if gi σ (ky d) 1 = 0 then (if gi σ (ky d) 6 ≤ 1 then fX3_write_29 a1 a2 a3 (ky d) σ else fX3_write_30 a1 a2 a3 (ky d) 1 σ) else fX3_write_29 a1 a2 a3 (ky d) σ) := by
      unfold fX3_write
      rw [c1, ze_bnx, ze_ck (h.ok hL)]
    have plain : (gi σ (ky d) 1 ≠ 0 ∨ gi σ (ky d) 6 ≤ 1) → fX3_write a1 a2 a3 σ = fX3_write_29 a1 a2 a3 (ky d) σ → fX4_begins a1 a2 1 μ = fX4_begins_116 (nI (ι d)) (si μ 0 0 0) → ∃ r σ' bb μ', fX3_write a1 a2 a3 σ = some (r, σ') ∧ fX4_write a1 a2 a3 μ = some (bb, μ') ∧ RRl σ' μ' ∧ (∀ E, r = .inr E → E ∈ [pw_ioX, pw_neX, pw_iaX, pw_isX]) ∧ gi μ' 0 0 = (wrI [pw_ioX, pw_neX, pw_iaX, pw_isX] 0 r).1 ∧ ∀ v, r = .inl v → v = bb := by
      intro hnc ea eb
      have ea2 : fX3_write a1 a2 a3 σ = (if gi σ (ky d) 3 = -1 then fX3_write_46 a1 a2 a3 (ky d) 0 σ else fX3_write_50 a1 a2 a3 (ky d) 0 σ) := by
        rw [ea]
        unfold fX3_write_29 fX3_write_30
        rw [if_pos rfl, ze_ck (h.ok hL)]
      rcases g_116 h hL with ⟨q1, q2⟩ | ⟨q1, q2, q3, q4⟩ | ⟨q1, q2, q3⟩
      · exact main false (fun q => absurd q q1) (fun q => by cases q) (fun _ => hnc) (by rw [ea2, if_neg q1]; rfl) (eb.trans q2)
      · refine main false (fun _ => q3) (fun q => by cases q) (fun _ => hnc) ?_ (eb.trans q4)
        rw [ea2, if_pos q1]
        unfold fX3_write_46
        rw [q2, ze_bnx]
        rfl
      · refine op_no (Er := pw_isX) (by decide) (h0.thr 4) ?_ (bb := 0) ?_ rfl
        · rw [ea2, if_pos q1]
          unfold fX3_write_46
          rw [q2, ze_bnr]
        · unfold fX4_write
          rw [eb, q3, ze_bnd, if_pos rfl, ze_ss]
    by_cases d1 : gi σ (ky d) 1 = 0
    · rw [if_pos d1] at fa c2
      by_cases d6 : gi σ (ky d) 6 ≤ 1
      · rw [if_pos d6] at fa c2
        exact plain (Or.inr d6) fa c2
      · rw [if_neg d6] at fa c2
        have ea2 : fX3_write a1 a2 a3 σ = fX3_write_46 a1 a2 a3 (ky d) 1 σ := by
          rw [fa]
          unfold fX3_write_30
          rw [if_neg (by decide)]
        rcases g_117 h (nI (ι d)) with ⟨q1, q2, q3⟩ | ⟨q1, q2⟩
        · refine main true (fun _ => q2) (fun _ => ⟨q2, d1, d6⟩) (fun q => by cases q) ?_ (c2.trans q3)
          rw [ea2]
          unfold fX3_write_46
          rw [q1, ze_bnx]
          rfl
        · refine op_no (Er := pw_isX) (by decide) (h0.thr 4) ?_ (bb := 0) ?_ rfl
          · rw [ea2]
            unfold fX3_write_46
            rw [q1, ze_bnr]
          · unfold fX4_write
            rw [c2, q2, ze_bnd, if_pos rfl, ze_ss]
    · rw [if_neg d1] at fa c2
      exact plain (Or.inl d1) fa c2
end WR
