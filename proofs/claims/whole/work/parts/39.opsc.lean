/-! start, fork, map, createSegment, attach -/
theorem ze_ss {s : pw_S} {k j : Nat} {v w : Int32} : si (si s k j v) k j w = si s k j w := by
  unfold si up2
  refine Prod.ext rfl (Prod.ext ?_ rfl)
  funext a b
  show (if a = k then (if b = j then w else if a = k then (if b = j then v else s.2.1 a b) else s.2.1 a b) else if a = k then (if b = j then v else s.2.1 a b) else s.2.1 a b) = _
  by_cases h1 : a = k
  · by_cases h2 : b = j
    · simp [h1, h2]
    · simp [h1, h2]
  · simp [h1]
theorem ze_si {s : pw_S} {k j : Nat} {w : Int32} (h : gi s k j = w) : si s k j w = s := by
  unfold si up2
  refine Prod.ext rfl (Prod.ext ?_ rfl)
  funext a b
  show (if a = k then (if b = j then w else s.2.1 a b) else s.2.1 a b) = s.2.1 a b
  by_cases h1 : a = k
  · by_cases h2 : b = j
    · rw [if_pos h1, if_pos h2, h1, h2]; exact h.symm
    · simp [h2]
  · simp [h1]
theorem pig : ∀ n m (f : Nat → Nat), (∀ i, i < m → f i < n) → (∀ i j, i < m → j < m → f i = f j → i = j) → m ≤ n := by
  intro n
  induction n with
  | zero =>
    intro m f h1 h2
    cases m with
    | zero => exact Nat.le_refl 0
    | succ m => exact absurd (h1 0 (by omega)) (by omega)
  | succ n ih =>
    intro m f h1 h2
    by_cases hc : ∃ i, i < m ∧ f i = n
    · obtain ⟨i0, a, b⟩ := hc
      have := ih (m - 1) (fun i => f (if i < i0 then i else i + 1)) ?_ ?_
      · omega
      · intro i hi
        have q1 : (if i < i0 then i else i + 1) < m := by split <;> omega
        have q2 := h1 _ q1
        have q3 : f (if i < i0 then i else i + 1) ≠ n := by
          intro q
          have := h2 _ _ q1 a (q.trans b.symm)
          split at this <;> omega
        show f (if i < i0 then i else i + 1) < n
        omega
      · intro i j hi hj q
        have := h2 _ _ (by split <;> omega) (by split <;> omega) q
        split at this <;> split at this <;> omega
    · have := ih m f (fun i hi => by
        have a := h1 i hi
        have b : f i ≠ n := fun q => hc ⟨i, hi, q⟩
        omega) h2
      omega
section OPS
variable {ι : Nat → Nat} {F hd P G : Nat} {z : Nat → Nat} {L X E : Nat → Prop} {σ μ : pw_S}
theorem r_free (h : Rel ι F hd P G z L X0 E σ μ) : ∃ n, n < 200 ∧ gi μ 5 n = 0 := by
  apply Classical.byContradiction
  intro hc
  have key : ∀ n, n < 200 → ∃ q, q < 184 ∧ ∃ d, L d ∧ ι d = n ∧ ((q < 160 ∧ gr σ 1 q = some (ky d)) ∨ (160 ≤ q ∧ gr σ 3 (q - 160) = some (ky d))) := by
    intro n hn
    rcases h.th n hn with ⟨a, d, b, c⟩ | ⟨a, _⟩
    · rcases h.xx d b with e | ⟨k, e1, e2⟩ | e
      · exact absurd e id
      · exact ⟨k, by omega, d, b, c, Or.inl ⟨e1, e2⟩⟩
      · rcases h.sd d b with ⟨q, _⟩ | ⟨_, q | ⟨k, q1, q2⟩⟩
        · rw [e] at q; exact absurd q (by decide)
        · exact absurd q id
        · exact ⟨k + 160, by omega, d, b, c, Or.inr ⟨by omega, by rw [show k + 160 - 160 = k by omega]; exact q2⟩⟩
    · exact absurd ⟨n, hn, a⟩ hc
  have := pig 184 200 (fun n => if hn : n < 200 then Classical.choose (key n hn) else 0) ?_ ?_
  · omega
  · intro i hi
    rw [dif_pos hi]
    exact (Classical.choose_spec (key i hi)).1
  · intro i j hi hj q
    rw [dif_pos hi, dif_pos hj] at q
    obtain ⟨_, d1, a1, a2, a3⟩ := Classical.choose_spec (key i hi)
    obtain ⟨_, d2, b1, b2, b3⟩ := Classical.choose_spec (key j hj)
    rw [q] at a3
    have : some (ky d1) = some (ky d2) := by
      rcases a3 with ⟨x1, x2⟩ | ⟨x1, x2⟩
      · rcases b3 with ⟨y1, y2⟩ | ⟨y1, y2⟩
        · rw [← x2, ← y2]
        · omega
      · rcases b3 with ⟨y1, y2⟩ | ⟨y1, y2⟩
        · omega
        · rw [← x2, ← y2]
    rw [ky_ij] at this
    rw [← a2, ← b2, this]
theorem q_create (hf : ∃ n, n < 200 ∧ gi μ 5 n = 0) : ∃ n μ', n < 200 ∧ gi μ 5 n = 0 ∧ fX4_create μ = some (nI n, μ') ∧ (∀ k j, k ≠ 5 → k ≠ 6 → k ≠ 7 → gi μ' k j = gi μ k j) ∧ (∀ i, gi μ' 5 i = if i = n then 1 else gi μ 5 i) ∧ (∀ i, gi μ' 6 i = if i = n then 0 else gi μ 6 i) ∧ (∀ i, gi μ' 7 i = if 4 * n ≤ i ∧ i < 4 * n + 4 then 0 else gi μ 7 i) := by
  have e := loop_fst (fun n j => fX4_create_2 n (nI j) μ) 200 (fun j => gi μ 5 j == 0) (fun r => if r = -1 then none else fX4_create_33 1000 r 0 (si (si μ 5 r.toNatClampNeg 1) 6 r.toNatClampNeg 0)) ?_ ?_ 200 0 1000 (by omega) (by omega)
  · rcases fstI_or (P := fun j => gi μ 5 j == 0) 200 0 with ⟨a, b⟩ | ⟨n, _, b, c, d, _⟩
    · obtain ⟨n, h1, h2⟩ := hf
      have := b n (by omega) (by omega)
      rw [h2] at this
      exact absurd this (by decide)
    · rw [d] at e
      rw [if_neg (ze_nm (by omega)), ze_c (by omega)] at e
      have e2 := loop_fold (fun n' s j => fX4_create_33 n' (nI n) (nI j) s) 4 (fun s j => si s 7 (4 * n + j) 0) (fun s => some (nI n, s)) ?_ ?_ 4 0 1000 (si (si μ 5 n 1) 6 n 0) (by omega) (by omega)
      · refine ⟨n, _, by omega, by simpa using c, e.trans e2, ?_, ?_, ?_, ?_⟩
        · intro k j h1 h2 h3
          show gi (si (si (si (si (si (si μ 5 n 1) 6 n 0) 7 (4 * n + 0) 0) 7 (4 * n + 1) 0) 7 (4 * n + 2) 0) 7 (4 * n + 3) 0) k j = _
          simp only [gi_si, h1, h2, h3, if_false]
        · intro i; rfl
        · intro i; rfl
        · intro i
          show (if i = 4 * n + 3 then (0 : Int32) else if i = 4 * n + 2 then 0 else if i = 4 * n + 1 then 0 else if i = 4 * n + 0 then 0 else gi μ 7 i) = _
          by_cases q : 4 * n ≤ i ∧ i < 4 * n + 4
          · rw [if_pos q]
            repeat' split
            all_goals first | rfl | omega
          · rw [if_neg q, if_neg (by omega), if_neg (by omega), if_neg (by omega), if_neg (by omega)]
      · intro n' s j hj
        show fX4_create_33_b (fX4_create_33 n') (nI n) (nI j) s = _
        unfold fX4_create_33_b
        rw [if_neg (by rw [le4] <;> omega), m4b, ze_ck (ze_inb (by omega) (by omega)), ze_c (by omega), ze_ld, nI_1]
      · intro n' s
        show fX4_create_33_b (fX4_create_33 n') (nI n) (nI 4) s = _
        unfold fX4_create_33_b
        rw [if_pos (by rw [le4] <;> omega)]
  · intro n j hj
    show fX4_create_2_b (fX4_create_2 n) (nI j) μ = _
    unfold fX4_create_2_b
    rw [ze_ck (ze_inb (by omega) (by omega)), ze_ck (ze_inb (by omega) (by omega)), ze_ld, ze_ck (ze_inb (by omega) (by omega)), ze_ld, ze_c (by omega), nI_1, if_neg (ze_nm (by omega))]
    simp only [beq_iff_eq]
  · intro n
    rfl
theorem r_cnew (h : Rel ι F hd P G z L X E σ μ) : cnew σ = true := by
  unfold cnew
  exact @decide_eq_true _ (Classical.propDecidable _) ⟨h.n2.2.1, h.n2.1, h.n2.2.2⟩
theorem r_start (h : Rel ι F hd P G z L X E σ μ) (hP : P < 10) : ∃ μ', fX3_createProcess σ = some (nI P, si (si σ 2 P 1) 0 7 (nI (P + 1))) ∧ fX4_start μ = some (nI P, μ') ∧ gi μ' 0 0 = 0 ∧ Rel ι F hd (P + 1) G z L X E (si (si σ 2 P 1) 0 7 (nI (P + 1))) μ' := by
  have e2 := loop_foldI (fun n s j => fX4_start_32 n (nI j) s) 16 (fun s j => si s 9 (16 * P + j) 0) (fun s => some (nI P, si s 0 12 (nI (P + 1)))) (fun j s => gi s 0 12 = nI P) ?_ ?_ 16 0 1000 (si (si μ 0 0 0) 8 P 1) (by omega) (by omega) h.pb
  · refine ⟨si (foldN (fun s j => si s 9 (16 * P + j) 0) (si (si μ 0 0 0) 8 P 1) 0 16) 0 12 (nI (P + 1)), ?_, ?_, ?_, ?_⟩
    rotate_left
    · unfold fX4_start
      rw [ze_ld, show gi (si μ 0 0 0) 0 12 = nI P from h.pb, if_neg (by rw [show (10 : Int32) = nI 10 from rfl, nI_eq] <;> omega), ze_ck (ze_inb (by omega) (by omega)), ze_c (by omega), ze_ld]
      exact e2
    · rfl
    · have z16 : ∀ m j s, foldN (fun s j => si s 9 (16 * P + j) 0) s j m = (s.1, (fun a b => if a = 9 ∧ 16 * P + j ≤ b ∧ b < 16 * P + j + m then 0 else s.2.1 a b), s.2.2) := by
        intro m
        induction m with
        | zero =>
          intro j s
          show s = _
          refine Prod.ext rfl (Prod.ext ?_ rfl)
          funext a b
          show s.2.1 a b = if a = 9 ∧ 16 * P + j ≤ b ∧ b < 16 * P + j + 0 then 0 else s.2.1 a b
          rw [if_neg (by omega)]
        | succ m ih =>
          intro j s
          show foldN _ (si s 9 (16 * P + j) 0) (j + 1) m = _
          rw [ih]
          refine Prod.ext rfl (Prod.ext ?_ rfl)
          funext a b
          show (if a = 9 ∧ 16 * P + (j + 1) ≤ b ∧ b < 16 * P + (j + 1) + m then 0 else if a = 9 then (if b = 16 * P + j then 0 else s.2.1 a b) else s.2.1 a b) = if a = 9 ∧ 16 * P + j ≤ b ∧ b < 16 * P + j + (m + 1) then 0 else s.2.1 a b
          by_cases q : a = 9
          · by_cases q2 : b = 16 * P + j
            · rw [if_neg (by omega), if_pos q, if_pos q2, if_pos (by omega)]
            · by_cases q3 : 16 * P + (j + 1) ≤ b ∧ b < 16 * P + (j + 1) + m
              · rw [if_pos ⟨q, q3⟩, if_pos (by omega)]
              · rw [if_neg (by omega), if_pos q, if_neg q2, if_neg (by omega)]
          · rw [if_neg (by omega), if_neg q, if_neg (by omega)]
      rw [z16]
      refine h.proc hP ?_ ?_ ?_ ?_
      · intro k j h1 h2 h3
        show (if k = 0 then (if j = 12 then nI (P + 1) else if k = 9 ∧ _ then (0 : Int32) else _) else if k = 9 ∧ _ then (0 : Int32) else if k = 8 then _ else if k = 0 then _ else gi μ k j) = gi μ k j
        rw [if_neg h1, if_neg (fun q => h3 q.1), if_neg h2, if_neg h1]
      · intro j
        show (if j = 12 then nI (P + 1) else if (0 : Nat) = 9 ∧ 16 * P + 0 ≤ j ∧ j < 16 * P + 0 + 16 then (0 : Int32) else if j = 0 then 0 else gi μ 0 j) = if j = 12 then nI (P + 1) else if j = 0 then 0 else gi μ 0 j
        rw [if_neg (c := (0 : Nat) = 9 ∧ 16 * P + 0 ≤ j ∧ j < 16 * P + 0 + 16) (by omega)]
      · intro j
        show (if (8 : Nat) = 9 ∧ 16 * P + 0 ≤ j ∧ j < 16 * P + 0 + 16 then (0 : Int32) else if j = P then 1 else gi μ 8 j) = if j = P then 1 else gi μ 8 j
        rw [if_neg (c := (8 : Nat) = 9 ∧ 16 * P + 0 ≤ j ∧ j < 16 * P + 0 + 16) (by omega)]
      · intro j
        show (if 9 = 9 ∧ 16 * P + 0 ≤ j ∧ j < 16 * P + 0 + 16 then (0 : Int32) else gi μ 9 j) = if 16 * P ≤ j ∧ j < 16 * P + 16 then 0 else gi μ 9 j
        simp
    · unfold fX3_createProcess
      rw [h.pa, ze_ck (ze_inb (by omega) (by omega)), ze_c (by omega), ze_ld, ze_ld, show gi (si σ 2 P 1) 0 7 = nI P from h.pa, nI_1]
  · intro n s j hj hI
    refine ⟨?_, hI⟩
    show fX4_start_32_b (fX4_start_32 n) (nI j) s = _
    unfold fX4_start_32_b fX4_at
    rw [if_neg (by rw [le16] <;> omega), ze_bnd, hI, m16b, ze_ck (ze_inb (by omega) (by omega)), ze_c (by omega), ze_ld, nI_1]
  · intro n s hI
    show fX4_start_32_b (fX4_start_32 n) (nI 16) s = _
    unfold fX4_start_32_b
    rw [if_pos (by rw [le16] <;> omega), ze_ld, hI, nI_1, show gi (si s 0 12 (nI (P + 1))) 0 12 = nI (P + 1) from rfl, ze_pred]
theorem op_start : opI RRl [pw_isX] fX3_start fX4_start := by
  intro σ μ h
  have h0 := h
  obtain ⟨ι, F, hd, P, G, z, L, h, hz⟩ := h
  have p10 := h.pp
  by_cases c : P < 10
  · obtain ⟨μ', e1, e2, e3, e4⟩ := r_start h c
    refine op_yes (bb := nI P) ⟨ι, F, hd, P + 1, G, z, L, e4, hz⟩ ?_ e2 e3
    unfold fX3_start fX3_requireRoomForProcess
    rw [h.pa, if_pos (by rw [show (10 : Int32) = nI 10 from rfl, nI_ltI] <;> omega), ze_bnx, e1, ze_bnd]
  · obtain rfl : P = 10 := by omega
    refine op_no (Er := pw_isX) (by decide) ((h0.thr 0).thr 1) ?_ (bb := 0) ?_ rfl
    · unfold fX3_start fX3_requireRoomForProcess
      rw [h.pa]; rfl
    · unfold fX4_start
      rw [ze_ld, if_pos (show gi (si μ 0 0 0) 0 12 = 10 from h.pb)]; rfl
theorem Rel.noref (h : Rel ι F hd P G z L X E σ μ) {k : Nat} (ho : gr σ 1 k = none) (v : Int32) : Rel ι F hd P G z L X E σ (si (si μ 9 k 0) 10 k v) := by
  refine (Rel.mk' (by first | exact (have q := Rel.tm h; q) | (simpa (disch := omega) only [reduceIte, Nat.reduceEqDiff, Nat.reduceAdd, gi_si, gi_sr, gr_si, gr_sr, gN_si, gN_sr, ky_e, ky_l, ky_r, kw_e, kw_1, kw_2, kw_l, kw_r, ite_self, if_true, if_false] using Rel.tm h)) (by first | exact (have q := Rel.wn h; q) | (simpa (disch := omega) only [reduceIte, Nat.reduceEqDiff, Nat.reduceAdd, gi_si, gi_sr, gr_si, gr_sr, gN_si, gN_sr, ky_e, ky_l, ky_r, kw_e, kw_1, kw_2, kw_l, kw_r, ite_self, if_true, if_false] using Rel.wn h)) (by first | exact (have q := Rel.fa h; q) | (simpa (disch := omega) only [reduceIte, Nat.reduceEqDiff, Nat.reduceAdd, gi_si, gi_sr, gr_si, gr_sr, gN_si, gN_sr, ky_e, ky_l, ky_r, kw_e, kw_1, kw_2, kw_l, kw_r, ite_self, if_true, if_false] using Rel.fa h)) (by first | exact (have q := Rel.fb h; q) | (simpa (disch := omega) only [reduceIte, Nat.reduceEqDiff, Nat.reduceAdd, gi_si, gi_sr, gr_si, gr_sr, gN_si, gN_sr, ky_e, ky_l, ky_r, kw_e, kw_1, kw_2, kw_l, kw_r, ite_self, if_true, if_false] using Rel.fb h)) (by first | exact (have q := Rel.f4 h; q) | (simpa (disch := omega) only [reduceIte, Nat.reduceEqDiff, Nat.reduceAdd, gi_si, gi_sr, gr_si, gr_sr, gN_si, gN_sr, ky_e, ky_l, ky_r, kw_e, kw_1, kw_2, kw_l, kw_r, ite_self, if_true, if_false] using Rel.f4 h)) (by first | exact (have q := Rel.f12 h; q) | (simpa (disch := omega) only [reduceIte, Nat.reduceEqDiff, Nat.reduceAdd, gi_si, gi_sr, gr_si, gr_sr, gN_si, gN_sr, ky_e, ky_l, ky_r, kw_e, kw_1, kw_2, kw_l, kw_r, ite_self, if_true, if_false] using Rel.f12 h)) (by first | exact (have q := Rel.ha h; q) | (simpa (disch := omega) only [reduceIte, Nat.reduceEqDiff, Nat.reduceAdd, gi_si, gi_sr, gr_si, gr_sr, gN_si, gN_sr, ky_e, ky_l, ky_r, kw_e, kw_1, kw_2, kw_l, kw_r, ite_self, if_true, if_false] using Rel.ha h)) (by first | exact (have q := Rel.hb h; q) | (simpa (disch := omega) only [reduceIte, Nat.reduceEqDiff, Nat.reduceAdd, gi_si, gi_sr, gr_si, gr_sr, gN_si, gN_sr, ky_e, ky_l, ky_r, kw_e, kw_1, kw_2, kw_l, kw_r, ite_self, if_true, if_false] using Rel.hb h)) (by first | exact (have q := Rel.hh h; q) | (simpa (disch := omega) only [reduceIte, Nat.reduceEqDiff, Nat.reduceAdd, gi_si, gi_sr, gr_si, gr_sr, gN_si, gN_sr, ky_e, ky_l, ky_r, kw_e, kw_1, kw_2, kw_l, kw_r, ite_self, if_true, if_false] using Rel.hh h)) (by first | exact (have q := Rel.pa h; q) | (simpa (disch := omega) only [reduceIte, Nat.reduceEqDiff, Nat.reduceAdd, gi_si, gi_sr, gr_si, gr_sr, gN_si, gN_sr, ky_e, ky_l, ky_r, kw_e, kw_1, kw_2, kw_l, kw_r, ite_self, if_true, if_false] using Rel.pa h)) (by first | exact (have q := Rel.pb h; q) | (simpa (disch := omega) only [reduceIte, Nat.reduceEqDiff, Nat.reduceAdd, gi_si, gi_sr, gr_si, gr_sr, gN_si, gN_sr, ky_e, ky_l, ky_r, kw_e, kw_1, kw_2, kw_l, kw_r, ite_self, if_true, if_false] using Rel.pb h)) (by first | exact (have q := Rel.pp h; q) | (simpa (disch := omega) only [reduceIte, Nat.reduceEqDiff, Nat.reduceAdd, gi_si, gi_sr, gr_si, gr_sr, gN_si, gN_sr, ky_e, ky_l, ky_r, kw_e, kw_1, kw_2, kw_l, kw_r, ite_self, if_true, if_false] using Rel.pp h)) (by first | exact (have q := Rel.ga h; q) | (simpa (disch := omega) only [reduceIte, Nat.reduceEqDiff, Nat.reduceAdd, gi_si, gi_sr, gr_si, gr_sr, gN_si, gN_sr, ky_e, ky_l, ky_r, kw_e, kw_1, kw_2, kw_l, kw_r, ite_self, if_true, if_false] using Rel.ga h)) (by first | exact (have q := Rel.gb h; q) | (simpa (disch := omega) only [reduceIte, Nat.reduceEqDiff, Nat.reduceAdd, gi_si, gi_sr, gr_si, gr_sr, gN_si, gN_sr, ky_e, ky_l, ky_r, kw_e, kw_1, kw_2, kw_l, kw_r, ite_self, if_true, if_false] using Rel.gb h)) (by first | exact (have q := Rel.gg h; q) | (simpa (disch := omega) only [reduceIte, Nat.reduceEqDiff, Nat.reduceAdd, gi_si, gi_sr, gr_si, gr_sr, gN_si, gN_sr, ky_e, ky_l, ky_r, kw_e, kw_1, kw_2, kw_l, kw_r, ite_self, if_true, if_false] using Rel.gg h)) (by first | exact (have q := Rel.cs h; q) | (simpa (disch := omega) only [reduceIte, Nat.reduceEqDiff, Nat.reduceAdd, gi_si, gi_sr, gr_si, gr_sr, gN_si, gN_sr, ky_e, ky_l, ky_r, kw_e, kw_1, kw_2, kw_l, kw_r, ite_self, if_true, if_false] using Rel.cs h)) (by first | exact (have q := Rel.lv h; q) | (simpa (disch := omega) only [reduceIte, Nat.reduceEqDiff, Nat.reduceAdd, gi_si, gi_sr, gr_si, gr_sr, gN_si, gN_sr, ky_e, ky_l, ky_r, kw_e, kw_1, kw_2, kw_l, kw_r, ite_self, if_true, if_false] using Rel.lv h)) (?_) (by first | exact (have q := Rel.sg h; q) | (simpa (disch := omega) only [reduceIte, Nat.reduceEqDiff, Nat.reduceAdd, gi_si, gi_sr, gr_si, gr_sr, gN_si, gN_sr, ky_e, ky_l, ky_r, kw_e, kw_1, kw_2, kw_l, kw_r, ite_self, if_true, if_false] using Rel.sg h)) (by first | exact (have q := Rel.sz h; q) | (simpa (disch := omega) only [reduceIte, Nat.reduceEqDiff, Nat.reduceAdd, gi_si, gi_sr, gr_si, gr_sr, gN_si, gN_sr, ky_e, ky_l, ky_r, kw_e, kw_1, kw_2, kw_l, kw_r, ite_self, if_true, if_false] using Rel.sz h)) (by first | exact (have q := Rel.fr h; q) | (simpa (disch := omega) only [reduceIte, Nat.reduceEqDiff, Nat.reduceAdd, gi_si, gi_sr, gr_si, gr_sr, gN_si, gN_sr, ky_e, ky_l, ky_r, kw_e, kw_1, kw_2, kw_l, kw_r, ite_self, if_true, if_false] using Rel.fr h)) (by first | exact (have q := Rel.sl h; q) | (simpa (disch := omega) only [reduceIte, Nat.reduceEqDiff, Nat.reduceAdd, gi_si, gi_sr, gr_si, gr_sr, gN_si, gN_sr, ky_e, ky_l, ky_r, kw_e, kw_1, kw_2, kw_l, kw_r, ite_self, if_true, if_false] using Rel.sl h)) (by first | exact (have q := Rel.nn h; q) | (simpa (disch := omega) only [reduceIte, Nat.reduceEqDiff, Nat.reduceAdd, gi_si, gi_sr, gr_si, gr_sr, gN_si, gN_sr, ky_e, ky_l, ky_r, kw_e, kw_1, kw_2, kw_l, kw_r, ite_self, if_true, if_false] using Rel.nn h)) (by first | exact (have q := Rel.df h; q) | (simpa (disch := omega) only [reduceIte, Nat.reduceEqDiff, Nat.reduceAdd, gi_si, gi_sr, gr_si, gr_sr, gN_si, gN_sr, ky_e, ky_l, ky_r, kw_e, kw_1, kw_2, kw_l, kw_r, ite_self, if_true, if_false] using Rel.df h)) (by first | exact (have q := Rel.ds h; q) | (simpa (disch := omega) only [reduceIte, Nat.reduceEqDiff, Nat.reduceAdd, gi_si, gi_sr, gr_si, gr_sr, gN_si, gN_sr, ky_e, ky_l, ky_r, kw_e, kw_1, kw_2, kw_l, kw_r, ite_self, if_true, if_false] using Rel.ds h)) (by first | exact (have q := Rel.ij h; q) | (simpa (disch := omega) only [reduceIte, Nat.reduceEqDiff, Nat.reduceAdd, gi_si, gi_sr, gr_si, gr_sr, gN_si, gN_sr, ky_e, ky_l, ky_r, kw_e, kw_1, kw_2, kw_l, kw_r, ite_self, if_true, if_false] using Rel.ij h)) (by first | exact (have q := Rel.th h; q) | (simpa (disch := omega) only [reduceIte, Nat.reduceEqDiff, Nat.reduceAdd, gi_si, gi_sr, gr_si, gr_sr, gN_si, gN_sr, ky_e, ky_l, ky_r, kw_e, kw_1, kw_2, kw_l, kw_r, ite_self, if_true, if_false] using Rel.th h)) (by first | exact (have q := Rel.di h; q) | (simpa (disch := omega) only [reduceIte, Nat.reduceEqDiff, Nat.reduceAdd, gi_si, gi_sr, gr_si, gr_sr, gN_si, gN_sr, ky_e, ky_l, ky_r, kw_e, kw_1, kw_2, kw_l, kw_r, ite_self, if_true, if_false] using Rel.di h)) (by first | exact (have q := Rel.wd h; q) | (simpa (disch := omega) only [reduceIte, Nat.reduceEqDiff, Nat.reduceAdd, gi_si, gi_sr, gr_si, gr_sr, gN_si, gN_sr, ky_e, ky_l, ky_r, kw_e, kw_1, kw_2, kw_l, kw_r, ite_self, if_true, if_false] using Rel.wd h)) (by first | exact (have q := Rel.cn h; q) | (simpa (disch := omega) only [reduceIte, Nat.reduceEqDiff, Nat.reduceAdd, gi_si, gi_sr, gr_si, gr_sr, gN_si, gN_sr, ky_e, ky_l, ky_r, kw_e, kw_1, kw_2, kw_l, kw_r, ite_self, if_true, if_false] using Rel.cn h)) (by first | exact (have q := Rel.sd h; q) | (simpa (disch := omega) only [reduceIte, Nat.reduceEqDiff, Nat.reduceAdd, gi_si, gi_sr, gr_si, gr_sr, gN_si, gN_sr, ky_e, ky_l, ky_r, kw_e, kw_1, kw_2, kw_l, kw_r, ite_self, if_true, if_false] using Rel.sd h)) (by first | exact (have q := Rel.pn h; q) | (simpa (disch := omega) only [reduceIte, Nat.reduceEqDiff, Nat.reduceAdd, gi_si, gi_sr, gr_si, gr_sr, gN_si, gN_sr, ky_e, ky_l, ky_r, kw_e, kw_1, kw_2, kw_l, kw_r, ite_self, if_true, if_false] using Rel.pn h)) (by first | exact (have q := Rel.n2 h; q) | (simpa (disch := omega) only [reduceIte, Nat.reduceEqDiff, Nat.reduceAdd, gi_si, gi_sr, gr_si, gr_sr, gN_si, gN_sr, ky_e, ky_l, ky_r, kw_e, kw_1, kw_2, kw_l, kw_r, ite_self, if_true, if_false] using Rel.n2 h)) (by first | exact (have q := Rel.xx h; q) | (simpa (disch := omega) only [reduceIte, Nat.reduceEqDiff, Nat.reduceAdd, gi_si, gi_sr, gr_si, gr_sr, gN_si, gN_sr, ky_e, ky_l, ky_r, kw_e, kw_1, kw_2, kw_l, kw_r, ite_self, if_true, if_false] using Rel.xx h)))
  intro k' hk'
  by_cases e : k' = k
  · subst e
    refine Or.inl ⟨ho, ?_⟩
    simp (disch := omega) only [reduceIte, Nat.reduceEqDiff, Nat.reduceAdd, gi_si, gi_sr, gr_si, gr_sr, gN_si, gN_sr, ky_e, ky_l, ky_r, kw_e, kw_1, kw_2, kw_l, kw_r, ite_self, if_true, if_false]
  · simpa (disch := omega) only [reduceIte, Nat.reduceEqDiff, Nat.reduceAdd, gi_si, gi_sr, gr_si, gr_sr, gN_si, gN_sr, ky_e, ky_l, ky_r, kw_e, kw_1, kw_2, kw_l, kw_r, ite_self, if_true, if_false, e] using h.pg k' hk'
theorem r_refer (h : Rel ι F hd P G z L X E σ μ) {k d : Nat} (hk : k < 160) (hL : L d) : fX3_refer (nI k) (ky d) σ = some ((), si (sr σ 1 k (some (ky d))) (ky d) 6 (gi σ (ky d) 6 + 1)) := by
  unfold fX3_refer
  rw [ze_ck (h.ok hL), ze_ck (ze_inb (by omega) (by omega)), ze_c (by omega)]
  rfl
theorem op_fork (a1 : Int32) : opI RRl [pw_ioX, pw_neX, pw_isX] (fX3_fork a1) (fX4_fork a1) := by
  intro σ μ h
  have h0 := h
  obtain ⟨ι, F, hd, P, G, z, L, h, hz⟩ := h
  have p10 := h.pp
  rcases g_proc h a1 with ⟨p, h1, h2, h3, h4⟩ | ⟨h3, h4⟩
  · rcases g_live h (p := p) (by omega) with ⟨l1, l2, _⟩ | ⟨l1, l2, _⟩
    · by_cases c : P < 10
      · obtain ⟨μ', e1, e2, e3, e4⟩ := r_start (h.thr 0) c
        have := loop_lock (fun n s j => fX3_fork_21 n (nI p) (nI P) (nI j) s) (fun n s j => fX4_fork_59 n (nI p) (nI P) (nI j) s) 16 (fun j s s' => Rel ι F hd (P + 1) G z L X0 X0 s s' ∧ gi s' 0 0 = 0 ∧ ∀ k, 16 * P + j ≤ k → k < 16 * P + 16 → gr s 1 k = none) (fun x y => x.1 = .inl (nI P) ∧ y.1 = nI P ∧ RRl x.2 y.2 ∧ gi y.2 0 0 = 0) ?_ ?_ 16 0 _ _ 1000 1000 (by omega) (by omega) (by omega) ⟨e4, e3, ?_⟩
        · obtain ⟨⟨x1, x2⟩, ⟨y1, y2⟩, q1, q2, q3, q4, q5, q6⟩ := this
          dsimp only at q3 q4 q5 q6
          subst q3 q4
          refine op_yes (bb := nI P) q5 ?_ ?_ q6
          · unfold fX3_fork fX3_requireRoomForProcess
            rw [h3, ze_bnx, h2, l1, ze_bnx, h.pa, if_pos (by rw [show (10 : Int32) = nI 10 from rfl, nI_ltI] <;> omega), ze_bnx, e1, ze_bnd]
            exact q1
          · unfold fX4_fork fX4_fork_40
            rw [h4, ze_bnd, if_neg (by decide), h2, ze_ck (ze_inb (by omega) (by omega)), ze_c (by omega), l2, if_neg (by decide), h.pb, if_neg (by rw [show (10 : Int32) = nI 10 from rfl, nI_eq] <;> omega), ze_ld, if_pos (show gi (si μ 0 0 0) 0 0 ≤ 0 from (by decide : (0 : Int32) ≤ 0)), e2, ze_bnd]
            exact q2
        · intro j s s' hj ⟨i1, i2, i3⟩
          have eb : ∀ n, fX4_fork_59 (n + 1) (nI p) (nI P) (nI j) s' = fX4_fork_59 n (nI p) (nI P) (nI (j + 1)) (si (si s' 9 (16 * P + j) (gi s' 9 (16 * p + j))) 10 (16 * P + j) (gi s' 10 (16 * p + j))) := by
            intro n
            show fX4_fork_59_b (fX4_fork_59 n) (nI p) (nI P) (nI j) s' = _
            unfold fX4_fork_59_b fX4_at
            rw [if_neg (by rw [le16] <;> omega), ze_bnd, ze_bnd, m16b, m16b, ze_ck (ze_inb (by omega) (by omega)), ze_ck (ze_inb (by omega) (by omega)), ze_ld, ze_bnd, ze_bnd, ze_ck (ze_inb (by omega) (by omega)), ze_ck (ze_inb (by omega) (by omega)), ze_ld, ze_c (by omega), ze_c (by omega), nI_1]
            rfl
          have hn := i3 (16 * P + j) (by omega) (by omega)
          refine Or.inr ?_
          rcases i1.pg (16 * p + j) (by omega) with ⟨a, b⟩ | ⟨d, a, b1, b2, b3, b4⟩
          · refine ⟨s, _, fun n => ?_, eb, ?_, i2, fun k q1 q2 => i3 k (by omega) q2⟩
            · show fX3_fork_21_b (fX3_fork_21 n) (nI p) (nI P) (nI j) s = _
              unfold fX3_fork_21_b fX3_placeOf fX3_fork_55
              rw [if_neg (by rw [le16] <;> omega), ze_bnd, m16a, ze_ck (ze_inb (by omega) (by omega)), ze_c (by omega), ze_ld, a, ze_ocn, nI_1]
            · rw [b]
              exact i1.noref hn _
          · refine ⟨si (sr s 1 (16 * P + j) (some (ky d))) (ky d) 6 (gi s (ky d) 6 + 1), _, fun n => ?_, eb, ?_, i2, ?_⟩
            rotate_left
            · rw [b2]
              exact i1.refer (k := 16 * P + j) (d := d) (by omega) (by omega) hn b1 (fun e k' q1 q2 => by
                have := i1.pn d k' (16 * p + j) q1 (by omega) q2 a e
                omega) b3
            · intro k q1 q2
              have : k ≠ 16 * P + j := by omega
              simp (disch := omega) only [reduceIte, Nat.reduceEqDiff, Nat.reduceAdd, gi_si, gi_sr, gr_si, gr_sr, gN_si, gN_sr, ky_e, ky_l, ky_r, kw_e, kw_1, kw_2, kw_l, kw_r, ite_self, if_true, if_false, this]
              exact i3 k (by omega) q2
            · show fX3_fork_21_b (fX3_fork_21 n) (nI p) (nI P) (nI j) s = _
              unfold fX3_fork_21_b fX3_placeOf fX3_fork_55
              rw [if_neg (by rw [le16] <;> omega), ze_bnd, m16a, ze_ck (ze_inb (by omega) (by omega)), ze_c (by omega), ze_ld, a, ze_ocs, ze_bnd, m16a, r_refer i1 (by omega) b1, ze_bnd, nI_1]
        · intro s s' ⟨i1, i2, i3⟩
          refine ⟨(.inl (nI P), s), (nI P, s'), fun n => ?_, fun n => ?_, rfl, rfl, ⟨ι, F, hd, P + 1, G, z, L, i1, hz⟩, i2⟩
          · show fX3_fork_21_b (fX3_fork_21 n) (nI p) (nI P) (nI 16) s = _
            unfold fX3_fork_21_b
            rw [if_pos (by rw [le16] <;> omega)]
          · show fX4_fork_59_b (fX4_fork_59 n) (nI p) (nI P) (nI 16) s' = _
            unfold fX4_fork_59_b
            rw [if_pos (by rw [le16] <;> omega)]
        · intro k q1 q2
          rcases h.pg k (by omega) with ⟨a, b⟩ | ⟨d, a, b1, b2, b3, b4⟩
          · exact a
          · omega
      · obtain rfl : P = 10 := by omega
        refine op_no (Er := pw_isX) (by decide) (h0.thr 3) ?_ (bb := 0) ?_ rfl
        · unfold fX3_fork fX3_requireRoomForProcess
          rw [h3, ze_bnx, h2, l1, ze_bnx, h.pa]; rfl
        · unfold fX4_fork fX4_fork_40
          rw [h4, ze_bnd, if_neg (by decide), h2, ze_ck (ze_inb (by omega) (by omega)), ze_c (by omega), l2, if_neg (by decide), if_pos (show gi μ 0 12 = 10 from h.pb)]
          rfl
    · refine op_no (Er := pw_neX) (by decide) (h0.thr 2) ?_ (bb := 0) ?_ rfl
      · unfold fX3_fork
        rw [h3, ze_bnx, h2, l1, ze_bnr]
      · unfold fX4_fork fX4_fork_40
        rw [h4, ze_bnd, if_neg (by decide), h2, ze_ck (ze_inb (by omega) (by omega)), ze_c (by omega), if_pos l2]
        rfl
  · refine op_no (Er := pw_ioX) (by decide) (h0.thr 1) ?_ (bb := 0) ?_ rfl
    · unfold fX3_fork; rw [h3]; rfl
    · unfold fX4_fork; rw [h4]; rfl
end OPS
