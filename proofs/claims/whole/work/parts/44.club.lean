/-! A CLUSTER, from its first content on -/
section CL
variable {ι : Nat → Nat} {F hd P G : Nat} {z : Nat → Nat} {L X E : Nat → Prop} {σ μ : pw_S}
def CluC (ι : Nat → Nat) (L : Nat → Prop) (d k : Nat) (c : Nat → Nat) (s s' : pw_S) : Prop := c 0 = d ∧ (∀ j, j < k → L (c j) ∧ gi s (ky (c j)) 5 = 1 ∧ gr s 10 j = some (ky (c j)) ∧ gi s' 14 j = nI (ι (c j))) ∧ ∀ i j, i < k → j < k → c i = c j → i = j
theorem CluI.out {T w pl k d : Nat} {s s' : pw_S} (h : CluI ι L T w pl k (gi σ (ky d) 1) σ μ s s') (h1 : 1 ≤ k) (h0 : gr σ T pl = some (ky d))
    (Hd : ∀ i j x, gr σ T (pl + i) = some (ky x) → gr σ T (pl + j) = some (ky x) → pl % w + i < w → pl % w + j < w → gi σ (ky x) 1 = gi σ (ky d) 1 → i = j) : ∃ c, CluC ι L d k c s s' := by
  obtain ⟨I1, I2, I3, I4, I5⟩ := h
  refine ⟨fun j => if hj : j < k then Classical.choose (I5 j hj) else 0, ?_, ?_, ?_⟩
  · dsimp only
    rw [dif_pos (by omega)]
    have := (Classical.choose_spec (I5 0 (by omega))).2.2.2.2.1
    exact (ky_ij.mp (h0.symm.trans this)).symm
  · intro j hj
    dsimp only
    rw [dif_pos hj]
    obtain ⟨a1, a2, a3, a4, _⟩ := Classical.choose_spec (I5 j hj)
    exact ⟨a1, by rw [I2]; exact a2, a3, a4⟩
  · intro i j hi hj e
    dsimp only at e
    rw [dif_pos hi, dif_pos hj] at e
    obtain ⟨a1, a2, a3, a4, a5, a6, a7⟩ := Classical.choose_spec (I5 i hi)
    obtain ⟨b1, b2, b3, b4, b5, b6, b7⟩ := Classical.choose_spec (I5 j hj)
    rw [← e] at b5
    exact Hd i j _ a5 b5 a6 b6 a7
theorem r_cluster (h : Rel ι F hd P G z L X E σ μ) (hz : ∀ i, G ≤ i → z i = 0) {d : Nat} (hL : L d) (hX : ¬ X d) (hdi : gi σ (ky d) 5 = 1) :
    ∃ k s s' c, 1 ≤ k ∧ k ≤ 4 ∧ fX3_writeOut (some (ky d)) σ = fX3_writeOut_33 1000 (nI k) s ∧ fX4_findCluster (nI (ι d)) μ = some (nI k, s') ∧ Rel ι F hd P G z L X E s s' ∧ CluC ι L d k c s s' ∧ (∀ a b, a ≠ 10 → gr s a b = gr σ a b) ∧ (∀ a b, gi s a b = gi σ a b) ∧ gN s = gN σ ∧ (∀ a b, a ≠ 14 → gi s' a b = gi μ a b) := by
  have hok := h.ok hL
  have p10 := h.pp
  have g4 := h.gg
  have h1 : Rel ι F hd P G z L X E (sr σ 10 0 (some (ky d))) (si μ 14 0 (nI (ι d))) := (h.cluA 0 hL).cluB 0 _
  have hwo : fX3_writeOut (some (ky d)) σ = (if (gi σ (ky d) 1) = 0 then bnd (fX3_firstPageOf (ky d) σ) (fun r25 σ26 => fX3_writeOut_25 (ky d) r25 σ26) else fX3_writeOut_25 (ky d) ((gi σ (ky d) 2)) σ) := by
    unfold fX3_writeOut
    rw [ze_ocs, ze_ck hok]
  have hfc : fX4_findCluster (nI (ι d)) μ = (if (if gi σ (ky d) 1 = 0 then (-1 : Int32) else gi σ (ky d) 2) = -1 then fX4_findCluster_20 1000 (nI (ι d)) 0 (si μ 14 0 (nI (ι d))) else fX4_findCluster_53 (if gi σ (ky d) 1 = 0 then (-1 : Int32) else gi σ (ky d) 2) (-1) (si μ 14 0 (nI (ι d)))) := by
    unfold fX4_findCluster
    rw [ze_ck (by decide), ze_ld, show Int32.toNatClampNeg 0 = 0 from rfl, (r_seg h1 hz hL (Or.inr hX)).1, ze_bnd]
    rfl
  have hI0 : ∀ T w pl, gr σ T pl = some (ky d) → pl % w + 0 < w → CluI ι L T w pl 1 (gi σ (ky d) 1) σ μ (sr σ 10 0 (some (ky d))) (si μ 14 0 (nI (ι d))) := by
    intro T w pl q1 q2
    refine ⟨fun a b q => by rw [gr_sr, if_neg q], fun a b => rfl, rfl, fun a b q => by rw [gi_si, if_neg q], fun j hj => ?_⟩
    obtain rfl : j = 0 := by omega
    exact ⟨d, hL, hdi, by rw [gr_sr, if_pos rfl, if_pos rfl], by rw [gi_si, if_pos rfl, if_pos rfl], q1, q2, rfl⟩
  rcases h.sd d hL with ⟨s1, s2⟩ | ⟨s1, s2⟩
  · -- a private one
    obtain ⟨pl0, y1, y2⟩ : ∃ k, k < 160 ∧ gr σ 1 k = some (ky d) := by
      rcases h.xx d hL with q | q | q
      · exact absurd q hX
      · exact q
      · rw [s1] at q; exact absurd q (by decide)
    rcases fstI_or (P := fun k => gr σ 1 k == some (ky d)) 160 0 with ⟨_, q⟩ | ⟨pl, _, b1, b2, b3, b4⟩
    · have := q pl0 (by omega) (by omega)
      rw [y2] at this
      simp at this
    have hpl : gr σ 1 pl = some (ky d) := by simpa using b2
    have Hd : ∀ i j x, gr σ 1 (pl + i) = some (ky x) → gr σ 1 (pl + j) = some (ky x) → pl % 16 + i < 16 → pl % 16 + j < 16 → gi σ (ky x) 1 = gi σ (ky d) 1 → i = j := by
      intro i j x q1 q2 q3 q4 q5
      have := h.pn x (pl + i) (pl + j) (by omega) (by omega) q1 q2 (q5.trans s1)
      omega
    have Hn : ∀ k s', 1 ≤ k → k < 4 → (∀ a b, a ≠ 14 → gi s' a b = gi μ a b) → ∃ v, (if nI pl = -1 then fX4_nextInSegment (nI pl) (nI k) s' else fX4_nextOfProcess (nI pl) (nI k) s') = some (v, s') ∧ ((v = -1 ∧ (16 ≤ pl % 16 + k ∨ gr σ 1 (pl + k) = none ∨ ∃ x, gr σ 1 (pl + k) = some (ky x) ∧ L x ∧ gi σ (ky x) 1 ≠ gi σ (ky d) 1)) ∨ ∃ x, pl % 16 + k < 16 ∧ gr σ 1 (pl + k) = some (ky x) ∧ L x ∧ gi σ (ky x) 1 = gi σ (ky d) 1 ∧ v = nI (ι x)) := by
      intro k s' k1 k4 I4
      rw [if_neg (ze_nm (by omega))]
      unfold fX4_nextOfProcess fX4_nextOfProcess_34 fX4_nextOfProcess_35
      rw [show (16 : Int32) = nI 16 from rfl, ze_mod (by omega) (by omega), nI_add, nI_add]
      by_cases c : 16 ≤ pl % 16 + k
      · rw [if_pos (by rw [nI_leI] <;> omega)]
        exact ⟨-1, rfl, Or.inl ⟨rfl, Or.inl c⟩⟩
      · rw [if_neg (by rw [nI_leI] <;> omega), ze_ck (ze_inb (by omega) (by omega)), ze_ck (ze_inb (by omega) (by omega)), ze_c (by omega), I4 _ _ (by omega), I4 _ _ (by omega)]
        rcases h.pg (pl + k) (by omega) with ⟨a, b⟩ | ⟨x, a, c1, c2, c3, c4⟩
        · rw [b, if_neg (by decide)]
          exact ⟨-1, rfl, Or.inl ⟨rfl, Or.inr (Or.inl a)⟩⟩
        · rw [c3, c2]
          by_cases e : gi σ (ky x) 1 = 0
          · rw [if_pos e, if_pos rfl]
            exact ⟨nI (ι x), rfl, Or.inr ⟨x, by omega, a, c1, by rw [e, s1], rfl⟩⟩
          · rw [if_neg e, if_neg (by decide)]
            exact ⟨-1, rfl, Or.inl ⟨rfl, Or.inr (Or.inr ⟨x, a, c1, by rw [s1]; exact e⟩)⟩⟩
    obtain ⟨k, s, s', k1, k2, k3, k4, k5, k6⟩ := clu_loop (T := 1) (w := 16) (pl := pl) (lenT := 160) (x3 := nI pl) hL (by decide) rfl (by decide) (by decide) (by decide) (by omega) Hd Hn 3 1 1000 1000 _ _ (by omega) (by omega) (by omega) (by omega) h1 (hI0 1 16 pl hpl (by omega))
    obtain ⟨c, hc⟩ := k6.out k1 hpl Hd
    refine ⟨k, s, s', c, k1, k2, ?_, ?_, k5, hc, k6.1, k6.2.1, k6.2.2.1, k6.2.2.2.1⟩
    · rw [hwo, if_pos s1, q_firstPage hok h.n2.2.2, b3, if_neg (ze_nm (by omega)), ze_bnd]
      unfold fX3_writeOut_25 fX3_gatherCluster fX3_gatherCluster_18 fX3_gatherCluster_47
      rw [ze_ck hok, if_pos s1, ze_ck hok, if_pos s1, ze_ck hok, ze_ck (by decide), ze_ld, show Int32.toNatClampNeg 0 = 0 from rfl, show (16 : Int32) = nI 16 from rfl, ze_div (by omega) (by omega), nI_1, ze_mul, nI_1, show (1 : Int32) = nI 1 from rfl, k3, ze_bnd]
    · rw [hfc, if_pos s1, if_pos rfl]
      have e := loop_fst (fun n j => fX4_findCluster_20 n (nI (ι d)) (nI j) (si μ 14 0 (nI (ι d)))) 160 (fun j => (gi μ 9 j == 1) && (gi μ 10 j == nI (ι d))) (fun r => if r = -1 then none else fX4_findCluster_53 r r (si μ 14 0 (nI (ι d)))) ?_ ?_ 160 0 1000 (by omega) (by omega)
      · have e2 : fstI (fun j => (gi μ 9 j == 1) && (gi μ 10 j == nI (ι d))) 0 160 = fstI (fun k => gr σ 1 k == some (ky d)) 0 160 := by
          refine fstI_ext 160 0 (fun j _ hj => ?_)
          rcases h.pg j (by omega) with ⟨a, b⟩ | ⟨x, a, c1, c2, c3, c4⟩
          · rw [a, b]; rfl
          · rw [a, c2, c3, be_s, Bool.eq_iff_iff]
            simp only [Bool.and_eq_true, beq_iff_eq, decide_eq_true_eq, ky_e, h.ie c1 hL]
            constructor
            · exact fun q => q.2
            · intro q
              subst q
              rw [if_pos s1]
              exact ⟨rfl, rfl⟩
        rw [e2, b3, if_neg (ze_nm (by omega))] at e
        refine Eq.trans e ?_
        unfold fX4_findCluster_53
        exact k4
      · intro n j hj
        show fX4_findCluster_20_b (fX4_findCluster_20 n) (nI (ι d)) (nI j) (si μ 14 0 (nI (ι d))) = _
        unfold fX4_findCluster_20_b fX4_findCluster_40
        rw [ze_ck (ze_inb (by omega) (by omega)), ze_ck (ze_inb (by omega) (by omega)), ze_c (by omega), nI_1, if_neg (ze_nm (by omega))]
        rw [show gi (si μ 14 0 (nI (ι d))) 9 j = gi μ 9 j from rfl, show gi (si μ 14 0 (nI (ι d))) 10 j = gi μ 10 j from rfl]
        by_cases q1 : gi μ 9 j = 1
        · by_cases q2 : gi μ 10 j = nI (ι d)
          · rw [if_pos q1, if_pos q2, if_pos (by simp [q1, q2])]
          · rw [if_pos q1, if_neg q2, if_neg (by simp [q2])]
        · rw [if_neg q1, if_neg (by simp [q1])]
      · intro n
        rfl
  · -- one of a segment
    have hne : ¬ gi σ (ky d) 1 = 0 := by rw [s1]; decide
    obtain ⟨pl, y1, y2, hpl, y4, _⟩ := (r_seg h hz hL (Or.inr hX)).2 hne
    have Hd : ∀ i j x, gr σ 3 (pl + i) = some (ky x) → gr σ 3 (pl + j) = some (ky x) → pl % 6 + i < 6 → pl % 6 + j < 6 → gi σ (ky x) 1 = gi σ (ky d) 1 → i = j := by
      intro i j x q1 q2 q3 q4 q5
      rcases h.sg (pl + i) (by omega) with ⟨a, _⟩ | ⟨d1, a, a1, a2, a3, a4, _⟩
      · rw [a] at q1; cases q1
      rcases h.sg (pl + j) (by omega) with ⟨b, _⟩ | ⟨d2, b, b1, b2, b3, b4, _⟩
      · rw [b] at q2; cases q2
      rw [a, ky_ij] at q1
      rw [b, ky_ij] at q2
      subst q1 q2
      rw [a4, nI_eq (by omega) (by omega)] at b4
      omega
    have Hn : ∀ k s', 1 ≤ k → k < 4 → (∀ a b, a ≠ 14 → gi s' a b = gi μ a b) → ∃ v, (if (-1 : Int32) = -1 then fX4_nextInSegment (nI pl) (nI k) s' else fX4_nextOfProcess (nI pl) (nI k) s') = some (v, s') ∧ ((v = -1 ∧ (6 ≤ pl % 6 + k ∨ gr σ 3 (pl + k) = none ∨ ∃ x, gr σ 3 (pl + k) = some (ky x) ∧ L x ∧ gi σ (ky x) 1 ≠ gi σ (ky d) 1)) ∨ ∃ x, pl % 6 + k < 6 ∧ gr σ 3 (pl + k) = some (ky x) ∧ L x ∧ gi σ (ky x) 1 = gi σ (ky d) 1 ∧ v = nI (ι x)) := by
      intro k s' k1 k4 I4
      obtain ⟨z1, z2, z3⟩ := h.sz (pl / 6) y4
      rw [if_pos rfl]
      unfold fX4_nextInSegment fX4_nextInSegment_40
      rw [show (6 : Int32) = nI 6 from rfl, ze_mod (by omega) (by omega), ze_div (by omega) (by omega), nI_add, ze_mul, nI_add, ze_ck (ze_inb (by omega) (by omega)), ze_c (by omega), I4 _ _ (by omega), z1]
      by_cases c : z (pl / 6) ≤ pl % 6 + k
      · rw [if_pos (by rw [nI_leI] <;> omega)]
        refine ⟨-1, rfl, Or.inl ⟨rfl, ?_⟩⟩
        by_cases c2 : 6 ≤ pl % 6 + k
        · exact Or.inl c2
        · refine Or.inr (Or.inl ?_)
          rcases h.sg (pl + k) (by omega) with ⟨a, _⟩ | ⟨d1, a, a1, a2, a3, a4, a5⟩
          · exact a
          · rw [show (pl + k) / 6 = pl / 6 by omega] at a5
            omega
      · rw [if_neg (by rw [nI_leI] <;> omega), ze_ck (ze_inb (by omega) (by omega)), ze_c (by omega), I4 _ _ (by omega), show 6 * (pl / 6) + (pl % 6 + k) = pl + k by omega]
        rcases h.sg (pl + k) (by omega) with ⟨a, a5⟩ | ⟨x, a, a1, a2, a3, a4, a5⟩
        · rw [show (pl + k) / 6 = pl / 6 by omega] at a5
          omega
        · rw [a2]
          exact ⟨nI (ι x), rfl, Or.inr ⟨x, by omega, a, a1, by rw [a3, s1], rfl⟩⟩
    obtain ⟨k, s, s', k1, k2, k3, k4, k5, k6⟩ := clu_loop (T := 3) (w := 6) (pl := pl) (lenT := 24) (x3 := -1) hL (by decide) rfl (by decide) (by decide) (by decide) (by omega) Hd Hn 3 1 1000 1000 _ _ (by omega) (by omega) (by omega) (by omega) h1 (hI0 3 6 pl hpl (by omega))
    obtain ⟨c, hc⟩ := k6.out k1 hpl Hd
    refine ⟨k, s, s', c, k1, k2, ?_, ?_, k5, hc, k6.1, k6.2.1, k6.2.2.1, k6.2.2.2.1⟩
    · rw [hwo, if_neg hne, y2]
      unfold fX3_writeOut_25 fX3_gatherCluster fX3_gatherCluster_18 fX3_gatherCluster_47
      rw [ze_ck hok, if_neg hne, ze_ck hok, if_neg hne, ze_ck hok, ze_ck (by decide), ze_ld, show Int32.toNatClampNeg 0 = 0 from rfl, show (6 : Int32) = nI 6 from rfl, ze_div (by omega) (by omega), nI_1, ze_mul, nI_1, show (1 : Int32) = nI 1 from rfl, k3, ze_bnd]
    · rw [hfc, if_neg hne, y2, if_neg (ze_nm (by omega))]
      unfold fX4_findCluster_53
      exact k4
end CL
