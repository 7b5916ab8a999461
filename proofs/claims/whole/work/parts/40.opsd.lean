/-! map, createSegment, attach -/
section OPS
variable {ι : Nat → Nat} {F hd P G : Nat} {z : Nat → Nat} {L X E : Nat → Prop} {σ μ : pw_S}
/-- what map and attach ask first -/
theorem g_canMap (h : Rel ι F hd P G z L X0 X0 σ μ) (a1 a2 : Int32) : (fX3_requirePage a1 a2 σ = some (.inr pw_ioX, σ) ∧ ∀ v, fX4_canMap a1 a2 v μ = some (0, si μ 0 0 1)) ∨
    ∃ p g, p < P ∧ g < 16 ∧ a1 = nI p ∧ a2 = nI g ∧ fX3_requirePage a1 a2 σ = some (.inl (), σ) ∧ fX4_canMap a1 a2 0 μ = some (0, si μ 0 0 1) ∧
      ((fX3_requireLive a1 σ = some (.inr pw_neX, σ) ∧ fX4_canMap a1 a2 1 μ = some (0, si μ 0 0 2)) ∨ (fX3_requireLive a1 σ = some (.inl (), σ) ∧ ((fX3_requireUnmapped a1 a2 σ = some (.inr pw_iaX, σ) ∧ fX4_canMap a1 a2 1 μ = some (0, si μ 0 0 3)) ∨ (fX3_requireUnmapped a1 a2 σ = some (.inl (), σ) ∧ fX4_canMap a1 a2 1 μ = some (1, si μ 0 0 0) ∧ gr σ 1 (16 * p + g) = none)))) := by
  have p10 := h.pp
  unfold fX4_canMap fX4_canMap_20 fX4_canMap_55 fX4_canMap_70
  rcases g_page h a1 a2 with ⟨p, g, h1, h2, h3, h4, h5, h6, h7⟩ | ⟨h5, h6⟩
  · refine Or.inr ⟨p, g, h1, h2, h3, h4, h5, ?_, ?_⟩
    · rw [h6, ze_bnd, if_neg (by decide), h7, ze_bnd, if_neg (by decide)]
      rfl
    · rw [h6, ze_bnd, if_neg (by decide), h7, ze_bnd, if_neg (by decide), if_neg (by decide), h3, h4, ze_ck (ze_inb (by omega) (by omega)), ze_c (by omega)]
      rcases g_live h (p := p) (by omega) with ⟨l1, l2, _⟩ | ⟨l1, l2, _⟩
      · refine Or.inr ⟨l1, ?_⟩
        unfold fX3_requireUnmapped fX3_placeOf fX4_at
        rw [l2, if_neg (by decide), ze_bnd, ze_bnd, m16a, m16b, ze_ck (ze_inb (by omega) (by omega)), ze_ck (ze_inb (by omega) (by omega)), ze_c (by omega), ze_ld]
        rcases h.pg (16 * p + g) (by omega) with ⟨a, b⟩ | ⟨d, a, b1, b2, b3, b4⟩
        · rw [a, b]
          exact Or.inr ⟨rfl, rfl, rfl⟩
        · rw [a, b3, if_neg (by split <;> decide)]
          exact Or.inl ⟨rfl, rfl⟩
      · refine Or.inl ⟨l1, ?_⟩
        rw [if_pos l2]
        rfl
  · refine Or.inl ⟨h5, fun v => ?_⟩
    rcases h6 with h6 | ⟨h6, h7⟩
    · rw [h6]; rfl
    · rw [h6, ze_bnd, if_neg (by decide), h7]; rfl
theorem op_map (a1 a2 : Int32) : opI RRl [pw_ioX, pw_neX, pw_iaX] (fX3_map a1 a2) (fX4_map a1 a2) := by
  intro σ μ h
  have h0 := h
  obtain ⟨ι, F, hd, P, G, z, L, h, hz⟩ := h
  have p10 := h.pp
  rcases g_canMap h a1 a2 with ⟨c1, c2⟩ | ⟨p, g, h1, h2, h3, h4, h5, h6, ⟨c1, c2⟩ | ⟨c1, ⟨c2, c3⟩ | ⟨c2, c3, c4⟩⟩⟩
  · refine op_no (Er := pw_ioX) (by decide) (h0.thr 1) ?_ (bb := 0) ?_ rfl
    · unfold fX3_map; rw [c1]; rfl
    · unfold fX4_map; rw [c2]; rfl
  · refine op_no (Er := pw_neX) (by decide) (h0.thr 2) ?_ (bb := 0) ?_ rfl
    · unfold fX3_map; rw [h5, ze_bnx, c1]; rfl
    · unfold fX4_map; rw [c2]; rfl
  · refine op_no (Er := pw_iaX) (by decide) (h0.thr 3) ?_ (bb := 0) ?_ rfl
    · unfold fX3_map; rw [h5, ze_bnx, c1, ze_bnx, c2]; rfl
    · unfold fX4_map; rw [c3]; rfl
  · obtain ⟨n, A, n1, n2, n3, m, m5, m6, m7⟩ := q_create (μ := si (si μ 0 0 0) 9 (16 * p + g) 1) (by obtain ⟨n, a, b⟩ := r_free h; exact ⟨n, a, b⟩)
    obtain ⟨dn, hN⟩ := h.dn
    have hm9 : gi μ 9 (16 * p + g) = 0 := by
      rcases h.pg (16 * p + g) (by omega) with ⟨a, b⟩ | ⟨d, a, _⟩
      · exact b
      · rw [c4] at a; cases a
    have hA9 : gi A 9 (16 * p + g) = 1 := by
      rw [m _ _ (by omega) (by omega) (by omega)]
      simp (disch := omega) only [reduceIte, Nat.reduceEqDiff, Nat.reduceAdd, gi_si, gi_sr, gr_si, gr_sr, gN_si, gN_sr, ky_e, ky_l, ky_r, kw_e, kw_1, kw_2, kw_l, kw_r, ite_self, if_true, if_false]
    obtain ⟨hr, hnL⟩ := (h.thr 0).new (sp := -1) (dn := dn) (n := n) (μ' := si A 9 (16 * p + g) 0) n1 n2 hN (by
      intro k j q1 q2 q3
      simp only [gi_si]
      by_cases e : k = 9
      · subst e
        by_cases e2 : j = 16 * p + g
        · rw [if_pos rfl, if_pos e2, e2]; simp only [Nat.reduceEqDiff, if_false]; exact hm9.symm
        · rw [if_pos rfl, if_neg e2, m _ _ (by omega) (by omega) (by omega)]
          simp (disch := omega) only [reduceIte, Nat.reduceEqDiff, Nat.reduceAdd, gi_si, gi_sr, gr_si, gr_sr, gN_si, gN_sr, ky_e, ky_l, ky_r, kw_e, kw_1, kw_2, kw_l, kw_r, ite_self, if_true, if_false, e2]
      · rw [if_neg e, m _ _ q1 q2 q3]
        simp (disch := omega) only [reduceIte, Nat.reduceEqDiff, Nat.reduceAdd, gi_si, gi_sr, gr_si, gr_sr, gN_si, gN_sr, ky_e, ky_l, ky_r, kw_e, kw_1, kw_2, kw_l, kw_r, ite_self, if_true, if_false, e]) (fun i => m5 i) (fun i => m6 i) (fun i => m7 i)
    have hg1 : gi (newC σ (-1)) (ky dn) 1 = 0 := by rw [gi_newC, hN, if_pos rfl]; rfl
    have hk : gr (newC σ (-1)) 1 (16 * p + g) = none := by
      rw [gr_newC, hN]
      split
      · rfl
      · exact c4
    have hr2 := hr.refer (k := 16 * p + g) (d := dn) (v := 1) (by omega) (by omega) hk (Or.inr rfl) (fun _ k' q1 q2 => by
      rw [gr_newC, hN] at q2
      split at q2
      · cases q2
      · have := h.n2.2.2 _ _ _ q2
        omega) (by rw [if_pos hg1])
    rw [if_pos rfl, ze_ss, ze_si hA9] at hr2
    have hr3 := hr2.unx (X' := X0) (fun d hL hX => by
      rcases hX with hX | hX
      · exact absurd hX id
      · refine Or.inr ⟨Or.inl ⟨16 * p + g, by omega, ?_⟩, ?_⟩
        · simp (disch := omega) only [reduceIte, Nat.reduceEqDiff, Nat.reduceAdd, gi_si, gi_sr, gr_si, gr_sr, gN_si, gN_sr, ky_e, ky_l, ky_r, kw_e, kw_1, kw_2, kw_l, kw_r, ite_self, if_true, if_false, hX]
        · intro q
          rw [hX] at q
          simp (disch := omega) only [reduceIte, Nat.reduceEqDiff, Nat.reduceAdd, gi_si, gi_sr, gr_si, gr_sr, gN_si, gN_sr, ky_e, ky_l, ky_r, kw_e, kw_1, kw_2, kw_l, kw_r, ite_self, if_true, if_false] at q
          rw [hg1] at q
          exact absurd q (by decide))
    obtain ⟨r, r1, r2⟩ := r_map hr3 (p := p) (by omega)
    refine op_yes (bb := r) ⟨_, F, hd, P, G, z, _, hr3, hz⟩ ?_ ?_ ?_
    · unfold fX3_map fX3_placeOf
      rw [h5, ze_bnx, c1, ze_bnx, c2, ze_bnx, ze_bnd, ze_ck (r_cnew h), ze_ld, ze_ld, h3, h4, m16a, hN, r_refer hr (by omega) (Or.inr rfl), ze_bnd, r1, ze_bnd]
    · unfold fX4_map fX4_at
      rw [c3, ze_bnd, if_neg (by decide), ze_bnd, h3, h4, m16b, ze_ck (ze_inb (by omega) (by omega)), ze_c (by omega), ze_ld, ze_bnd, n3, ze_bnd, ze_ck (ze_inb (by omega) (by omega)), ze_c (by omega), ze_ld, r2, ze_bnd]
    · show gi A 0 0 = 0
      rw [m _ _ (by omega) (by omega) (by omega)]
      rfl
theorem op_attach (a1 a2 a3 a4 : Int32) : opI RRl [pw_ioX, pw_neX, pw_iaX] (fX3_attach a1 a2 a3 a4) (fX4_attach a1 a2 a3 a4) := by
  intro σ μ h
  have h0 := h
  obtain ⟨ι, F, hd, P, G, z, L, h, hz⟩ := h
  have p10 := h.pp
  have g4 := h.gg
  have hs : (fX3_requireSegmentContent a3 a4 σ = some (.inr pw_ioX, σ) ∧ fX4_attach a1 a2 a3 a4 μ = fX4_attach_33 a1 a2 a3 a4 0 μ) ∨ ∃ s i d, s < G ∧ i < 6 ∧ a3 = nI s ∧ a4 = nI i ∧ L d ∧ gr σ 3 (6 * s + i) = some (ky d) ∧ gi σ (ky d) 1 = 1 ∧ gi μ 12 (6 * s + i) = nI (ι d) ∧ fX3_requireSegmentContent a3 a4 σ = some (.inl (ky d), σ) ∧ fX4_attach a1 a2 a3 a4 μ = fX4_attach_33 a1 a2 a3 a4 1 μ := by
    unfold fX3_requireSegmentContent fX3_requireSegmentContent_12 fX3_requireSegmentContent_32 fX4_attach fX4_attach_32
    rw [h.ga, h.gb]
    by_cases q0 : a3 < 0
    · rw [if_pos q0, if_pos q0]; exact Or.inl ⟨rfl, rfl⟩
    rw [if_neg q0, if_neg q0]
    rcases (Classical.em (a3 < nI G)).symm with q1 | q1
    · rw [if_neg q1, if_pos (ze_nlt.mp q1)]; exact Or.inl ⟨rfl, rfl⟩
    rw [if_pos q1, if_neg (ze_nge.mpr q1)]
    obtain ⟨s, s1, s2⟩ := ze_arg q0 q1 (by omega)
    obtain ⟨z1, z2, z3⟩ := h.sz s s1
    by_cases q2 : a4 < 0
    · rw [if_pos q2, if_pos q2]; exact Or.inl ⟨rfl, rfl⟩
    rw [if_neg q2, if_neg q2, s2, ze_ck (ze_inb (by omega) (by omega)), ze_c (by omega), z1]
    rcases (Classical.em (a4 < 6)).symm with q3 | q3
    · rw [if_neg q3, if_pos]
      · exact Or.inl ⟨rfl, rfl⟩
      · rw [ze_nlt, Int32.le_iff_toInt_le] at q3
        rw [Int32.le_iff_toInt_le, nI_toInt (by omega)]
        have : (6 : Int32).toInt = 6 := by decide
        omega
    obtain ⟨i, i1, i2⟩ := ze_arg (n := 6) q2 q3 (by omega)
    rw [if_pos q3, i2, m6a, ze_ck (ze_inb (by omega) (by omega)), ze_c (by omega), ze_ld]
    rcases h.sg (6 * s + i) (by omega) with ⟨a, b⟩ | ⟨d, a, b1, b2, b3, b4, b5⟩
    · rw [show (6 * s + i) / 6 = s by omega, show (6 * s + i) % 6 = i by omega] at b
      rw [a, if_pos (by rw [nI_leI] <;> omega)]
      exact Or.inl ⟨rfl, rfl⟩
    · rw [show (6 * s + i) / 6 = s by omega, show (6 * s + i) % 6 = i by omega] at b5
      rw [a, if_neg (by rw [nI_leI] <;> omega)]
      exact Or.inr ⟨s, i, d, s1, i1, rfl, rfl, b1, a, b3, b2, rfl, rfl⟩
  rcases g_canMap h a1 a2 with ⟨c1, c2⟩ | ⟨p, g, h1, h2, h3, h4, h5, h6, c⟩
  · refine op_no (Er := pw_ioX) (by decide) (h0.thr 1) ?_ (bb := 0) ?_ rfl
    · unfold fX3_attach; rw [c1]; rfl
    · rcases hs with ⟨_, e⟩ | ⟨s, i, d, _, _, _, _, _, _, _, _, _, e⟩
      · rw [e]; unfold fX4_attach_33; rw [c2]; rfl
      · rw [e]; unfold fX4_attach_33; rw [c2]; rfl
  rcases hs with ⟨e1, e⟩ | ⟨s, i, d, s1, i1, s2, i2, hL, hg, hsh, hm, e1, e⟩
  · refine op_no (Er := pw_ioX) (by decide) (h0.thr 1) ?_ (bb := 0) ?_ rfl
    · unfold fX3_attach; rw [h5, ze_bnx, e1]; rfl
    · rw [e]; unfold fX4_attach_33; rw [h6]; rfl
  rcases c with ⟨c1, c2⟩ | ⟨c1, ⟨c2, c3⟩ | ⟨c2, c3, c4⟩⟩
  · refine op_no (Er := pw_neX) (by decide) (h0.thr 2) ?_ (bb := 0) ?_ rfl
    · unfold fX3_attach; rw [h5, ze_bnx, e1, ze_bnx, c1]; rfl
    · rw [e]; unfold fX4_attach_33; rw [c2]; rfl
  · refine op_no (Er := pw_iaX) (by decide) (h0.thr 3) ?_ (bb := 0) ?_ rfl
    · unfold fX3_attach; rw [h5, ze_bnx, e1, ze_bnx, c1, ze_bnx, c2]; rfl
    · rw [e]; unfold fX4_attach_33; rw [c3]; rfl
  · have hr2 := (h.thr 0).refer (k := 16 * p + g) (d := d) (v := 2) (by omega) (by omega) c4 hL (fun q => absurd (q.symm.trans hsh) (by decide)) (by rw [hsh]; rfl)
    obtain ⟨r, r1, r2⟩ := r_map hr2 (p := p) (by omega)
    refine op_yes (bb := r) ⟨_, F, hd, P, G, z, _, hr2, hz⟩ ?_ ?_ rfl
    · unfold fX3_attach fX3_placeOf
      rw [h5, ze_bnx, e1, ze_bnx, c1, ze_bnx, c2, ze_bnx, ze_bnd, h3, h4, m16a, r_refer h (by omega) hL, ze_bnd, r1, ze_bnd]
    · rw [e]
      unfold fX4_attach_33 fX4_at
      rw [c3, ze_bnd, if_neg (by decide), ze_bnd, h3, h4, m16b, ze_ck (ze_inb (by omega) (by omega)), ze_c (by omega), ze_ld, ze_bnd, s2, i2, m6b, ze_ck (ze_inb (by omega) (by omega)), ze_ck (ze_inb (by omega) (by omega)), ze_c (by omega), ze_c (by omega), ze_ld]
      rw [show gi (si (si μ 0 0 0) 9 (16 * p + g) 2) 12 (6 * s + i) = nI (ι d) from hm, r2, ze_bnd]
theorem op_createSegment (a1 : Int32) : opI RRl [pw_iaX, pw_isX] (fX3_createSegment a1) (fX4_createSegment a1) := by
  intro σ μ h
  have h0 := h
  obtain ⟨ι, F, hd, P, G, z, L, h, hz⟩ := h
  have g4 := h.gg
  by_cases c1 : a1 < 1
  · refine op_no (Er := pw_iaX) (by decide) ((h0.thr 0).thr 1) ?_ (bb := 0) ?_ rfl
    · unfold fX3_createSegment; rw [if_pos c1]; rfl
    · unfold fX4_createSegment; rw [ze_ld, if_pos c1]; rfl
  rcases (Classical.em (a1 ≤ 6)).symm with c2 | c2
  · refine op_no (Er := pw_iaX) (by decide) ((h0.thr 0).thr 1) ?_ (bb := 0) ?_ rfl
    · unfold fX3_createSegment; rw [if_neg c1, if_neg c2]; rfl
    · unfold fX4_createSegment; rw [ze_ld, if_neg c1, if_neg c2]; rfl
  obtain ⟨Z, g1, g2⟩ := ze_arg (n := 7) (a := a1) (by
    rw [Int32.lt_iff_toInt_lt] at c1 ⊢
    have e1 : (1 : Int32).toInt = 1 := by decide
    have e2 : (0 : Int32).toInt = 0 := by decide
    omega) (by
    rw [Int32.le_iff_toInt_le] at c2
    rw [Int32.lt_iff_toInt_lt, nI_toInt (by omega)]
    have e1 : (6 : Int32).toInt = 6 := by decide
    omega) (by omega)
  have g3 : 1 ≤ Z := by
    rw [g2, show (1 : Int32) = nI 1 from rfl, nI_ltI (by omega) (by omega)] at c1
    omega
  rcases (Classical.em (G < 4)).symm with c3 | c3
  · obtain rfl : G = 4 := by omega
    refine op_no (Er := pw_isX) (by decide) ((h0.thr 0).thr 2) ?_ (bb := 0) ?_ rfl
    · unfold fX3_createSegment; rw [if_neg c1, if_pos c2, h.ga]; rfl
    · unfold fX4_createSegment; rw [ze_ld, if_neg c1, if_pos c2, if_pos (show gi (si μ 0 0 0) 0 16 = 4 from h.gb)]; rfl
  have := loop_lock (fun n s j => fX3_createSegment_46 n a1 (nI G) (nI j) s) (fun n s j => fX4_createSegment_38 n a1 (nI j) s) Z (fun j s s' => ∃ ι z L, Rel ι F hd P G z L X0 X0 s s' ∧ gi s' 0 0 = 0 ∧ z G = j ∧ ∀ i, G < i → z i = 0) (fun x y => x.1 = .inl (nI G) ∧ y.1 = nI G ∧ RRl x.2 y.2 ∧ gi y.2 0 0 = 0) ?_ ?_ Z 0 σ (si μ 0 0 0) 7 1000 (by omega) (by omega) (by omega) ⟨ι, z, L, h.thr 0, rfl, hz G (by omega), fun i hi => hz i (by omega)⟩
  · obtain ⟨⟨x1, x2⟩, ⟨y1, y2⟩, q1, q2, q3, q4, q5, q6⟩ := this
    dsimp only at q3 q4 q5 q6
    subst q3 q4
    refine op_yes (bb := nI G) q5 ?_ ?_ q6
    · unfold fX3_createSegment
      rw [if_neg c1, if_pos c2, h.ga, if_pos (by rw [show (4 : Int32) = nI 4 from rfl, nI_ltI] <;> omega)]
      exact q1
    · unfold fX4_createSegment
      rw [ze_ld, if_neg c1, if_pos c2, show gi (si μ 0 0 0) 0 16 = nI G from h.gb, if_neg (by rw [show (4 : Int32) = nI 4 from rfl, nI_eq] <;> omega)]
      exact q2
  · intro j s s' hj ⟨ι, z, L, i1, i2, i3, i4⟩
    refine Or.inr ?_
    obtain ⟨n, A, n1, n2, n3, m, m5, m6, m7⟩ := q_create (r_free i1)
    obtain ⟨dn, hN⟩ := i1.dn
    obtain ⟨hr, hnL⟩ := i1.new (sp := nI (6 * G + j)) (dn := dn) n1 n2 hN m m5 m6 m7
    have e1 : gi (newC s (nI (6 * G + j))) (ky dn) 1 = 1 := by rw [gi_newC, hN, if_pos rfl, if_pos rfl, if_neg (ze_nm (by omega))]
    have e2 : gi (newC s (nI (6 * G + j))) (ky dn) 2 = nI (6 * G + j) := by rw [gi_newC, hN, if_pos rfl]; rfl
    have hr2 := hr.seg (d := dn) (k := 6 * G + j) (j := j) (Or.inr rfl) (by omega) c3 rfl i3 e1 e2
    have hr3 := hr2.unx (X' := X0) (fun d hL hX => by
      rcases hX with hX | hX
      · exact absurd hX id
      · refine Or.inr ⟨Or.inr ?_, fun _ => ⟨6 * G + j, by omega, ?_⟩⟩
        · rw [hX]; exact e1
        · simp (disch := omega) only [reduceIte, Nat.reduceEqDiff, Nat.reduceAdd, gi_si, gi_sr, gr_si, gr_sr, gN_si, gN_sr, ky_e, ky_l, ky_r, kw_e, kw_1, kw_2, kw_l, kw_r, ite_self, if_true, if_false, hX])
    rw [if_pos rfl] at hr3
    refine ⟨_, _, fun k => ?_, fun k => ?_, _, _, _, hr3, ?_, ?_, ?_⟩
    · show fX3_createSegment_46_b (fX3_createSegment_46 k) a1 (nI G) (nI j) s = _
      unfold fX3_createSegment_46_b
      rw [g2, if_neg (by rw [nI_leI] <;> omega), ze_ck (r_cnew i1), ze_ld, m6a, ze_ld, ze_ck (ze_inb (by omega) (by omega)), ze_c (by omega), ze_ld, nI_1, hN]
    · show fX4_createSegment_38_b (fX4_createSegment_38 k) a1 (nI j) s' = _
      unfold fX4_createSegment_38_b
      rw [g2, if_neg (by rw [nI_leI] <;> omega), n3, ze_bnd, i1.gb, m6b, ze_ck (ze_inb (by omega) (by omega)), ze_c (by omega), ze_ld, nI_1]
    · show gi A 0 0 = 0
      rw [m _ _ (by omega) (by omega) (by omega)]
      exact i2
    · exact if_pos rfl
    · intro i hi
      rw [if_neg (by omega)]
      exact i4 i hi
  · intro s s' ⟨ι, z, L, i1, i2, i3, i4⟩
    refine ⟨(.inl (nI G), si s 0 8 (nI (G + 1))), (nI G, si (si s' 11 G (nI (z G))) 0 16 (nI (G + 1))), fun n => ?_, fun n => ?_, rfl, rfl, ⟨ι, F, hd, P, G + 1, z, L, i1.segs c3 (by omega) (by omega), fun i hi => i4 i (by omega)⟩, i2⟩
    · show fX3_createSegment_46_b (fX3_createSegment_46 n) a1 (nI G) (nI Z) s = _
      unfold fX3_createSegment_46_b
      rw [g2, if_pos (by rw [nI_leI] <;> omega), ze_ld, i1.ga, nI_1]
    · show fX4_createSegment_38_b (fX4_createSegment_38 n) a1 (nI Z) s' = _
      unfold fX4_createSegment_38_b
      rw [g2, if_pos (by rw [nI_leI] <;> omega), i1.gb, ze_ck (ze_inb (by omega) (by omega)), ze_c (by omega), ze_ld, ze_ld, i3, show gi (si s' 11 G (nI Z)) 0 16 = nI G from i1.gb, nI_1]
      rw [show gi (si (si s' 11 G (nI Z)) 0 16 (nI (G + 1))) 0 16 = nI (G + 1) from rfl, ze_pred]
end OPS
