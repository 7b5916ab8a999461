/-! WHAT AN ACCESS ASKS FIRST; use; read -/
section RD
variable {ι : Nat → Nat} {F hd P G : Nat} {z : Nat → Nat} {L X E : Nat → Prop} {σ μ : pw_S}
theorem q_poss (h : Rel ι F hd P G z L X E σ μ) {y : Int32} (hy : y = 0 ∨ y = 1) : fX4_isPossible_30 1000 y 0 μ = some (foldN (fun s i => s ||| (if clb σ i = true then 1 else 0)) y 0 F, μ) := by
  have f12 := h.f12
  have e := loop_fold (fun n s j => fX4_isPossible_30 n s (nI j) μ) F (fun s i => s ||| (if clb σ i = true then 1 else 0)) (fun s => ck (isB s) (some (s, μ))) ?_ ?_ F 0 1000 y (by omega) (by omega)
  · have hb : isB (foldN (fun s i => s ||| (if clb σ i = true then 1 else 0)) y 0 F) = true := by
      rcases fold_or (P := clb σ) F 0 y hy with q | ⟨q, _⟩
      · rw [q]; rfl
      · rw [q]; rfl
    rw [ze_ck hb] at e
    exact e
  · intro n s j hj
    show fX4_isPossible_30_b (fX4_isPossible_30 n) s (nI j) μ = _
    unfold fX4_isPossible_30_b fX4_isPossible_66 fX4_isPossible_67
    rw [h.fb, if_neg (by rw [nI_leI] <;> omega), ze_ck (ze_inb (by omega) (by omega)), ze_c (by omega), nI_1]
    rcases h.fr j (by omega) with ⟨a, b, _⟩ | ⟨d, a, b1, c1, c2, c3, c4, c5, c6⟩
    · rw [if_pos b, if_neg (c := clb σ j = true) (by unfold clb; rw [a, ze_ocn]; decide)]
    · rw [c2, if_neg (h.im c1), ze_ck (ze_inb (by omega) (by omega)), r_dirty h c1, ze_bnd]
      have hc : clb σ j = true ↔ gi σ (ky d) 5 = 0 := by
        unfold clb
        rw [a, ze_ocs]
        simp
      by_cases q : gi σ (ky d) 5 = 0
      · rw [if_pos q, if_pos (hc.mpr q)]
      · rw [if_neg q, if_neg (fun w => q (hc.mp w))]
  · intro n s
    show fX4_isPossible_30_b (fX4_isPossible_30 n) s (nI F) μ = _
    unfold fX4_isPossible_30_b
    rw [h.fb, if_pos (by rw [nI_leI] <;> omega)]
theorem q_poss1 (h : Rel ι F hd P G z L X E σ μ) : fX4_isPossible_27 1 μ = some (1, μ) := by
  unfold fX4_isPossible_27
  rw [q_poss h (Or.inr rfl), fold_or1 F 0 1 (Or.inr rfl) (Or.inl rfl)]
theorem r_poss0 (h : Rel ι F hd P G z L X E σ μ) : fX4_isPossible 0 μ = some (1, μ) := by
  unfold fX4_isPossible fX4_isPossible_22
  rw [if_pos rfl, q_poss1 h]
theorem clb_ex (h : Rel ι F hd P G z L X E σ μ) {f : Nat} (hf : f < F) (hc : clb σ f = true) : Ob F σ := by
  have f12 := h.f12
  rcases h.fr f (by omega) with ⟨a, _⟩ | ⟨d, a, b1, c1, _⟩
  · unfold clb at hc
    rw [a, ze_ocn] at hc
    cases hc
  · unfold clb at hc
    rw [a, ze_ocs] at hc
    exact Or.inl ⟨f, d, hf, a, by simpa using hc⟩
theorem r_poss (h : Rel ι F hd P G z L X E σ μ) : (fX3_requireObtainableFrame σ = some (.inl (), σ) ∧ fX4_isPossible 1 μ = some (1, μ) ∧ Ob1 F σ) ∨ (fX3_requireObtainableFrame σ = some (.inr pw_isX, σ) ∧ fX4_isPossible 1 μ = some (0, μ)) := by
  have f12 := h.f12
  obtain ⟨o, s1, s2, s3⟩ := r_sf h
  unfold fX3_requireObtainableFrame fX3_requireObtainableFrame_42 fX4_isPossible fX4_isPossible_22
  rw [s1, ze_bnd, if_neg (show ¬ (1 : Int32) = 0 by decide), s2, ze_bnd]
  rcases s3 with ⟨rfl, hfull⟩ | ⟨f, f1, rfl, f2⟩
  · rw [if_pos rfl, if_pos rfl, q_oldestClean h, ze_bnd]
    obtain ⟨w, w1, w2⟩ := room_spec (σ := σ) (a := 1) (by omega) (by omega)
    obtain ⟨w', v1, v2⟩ := r_room h 1
    have ew : w' = w := by
      have w1 : fX2_roomFor 1 σ = some (w, σ) := w1
      rw [v1] at w1
      exact (Prod.mk.inj (Option.some.inj w1)).1
    subst ew
    rw [v2, ze_bnd]
    rcases mnS_or (P := clb σ) (u := gi σ 6) F 0 (-1) (by omega) (Or.inl rfl) with ⟨q, _, qf⟩ | ⟨f, q1, q2, q3⟩
    · rw [q, if_pos rfl, q_freeSlots, ze_bnd]
      rcases w2 with ⟨rfl, wn⟩ | ⟨i, rfl, i1, i2⟩
      · have hz : cntN (fun f => (gr σ 9 f).isNone) 0 24 = 0 := cntN_0 24 0 (fun i _ hi => by
          have := wn rfl i (by omega)
          cases hq : gr σ 9 i with
          | none => exact absurd hq this
          | some _ => rfl)
        refine Or.inr ⟨?_, ?_⟩
        · rw [hz, if_pos (show nI 0 = 0 from rfl)]
        · rw [if_pos rfl]
          unfold fX4_isPossible_27
          rw [q_poss h (Or.inl rfl)]
          rcases fold_or (P := clb σ) F 0 0 (Or.inl rfl) with e | ⟨e, _⟩
          · have e2 : foldN (fun s i => s ||| (if clb σ i = true then 1 else 0)) (0 : Int32) 0 F = foldN (fun s i => s) 0 0 F := by
              refine foldN_ext F 0 0 (fun i s a b => ?_)
              rw [qf i a b]
              exact Int32.or_zero
            have e' : ∀ m j, foldN (fun (s : Int32) (i : Nat) => s) 0 j m = 0 := by
              intro m
              induction m with
              | zero => intro j; rfl
              | succ m ih => intro j; exact ih (j + 1)
            rw [e2, e']
          · rw [e]
      · have hp : 0 < cntN (fun f => (gr σ 9 f).isNone) 0 24 := cntN_pos 24 0 i (by omega) (by omega) (by
          have := i2 0 (by omega)
          rw [Nat.add_zero] at this
          rw [this]; rfl)
        have hl := cntN_le (P := fun f => (gr σ 9 f).isNone) 24 0
        refine Or.inl ⟨?_, ?_, Or.inr (Or.inr ⟨i, by omega, ?_⟩)⟩
        · rw [if_neg (nI_ne0 hp (by omega))]
        · rw [if_neg (ze_nm (by omega)), q_poss1 h]
        · have := i2 0 (by omega)
          rwa [Nat.add_zero] at this
    · rw [q2, if_neg (ze_nm (by omega))]
      refine Or.inl ⟨rfl, ?_, Or.inr (clb_ex h (by omega) q3)⟩
      rcases w2 with ⟨rfl, wn⟩ | ⟨i, rfl, i1, i2⟩
      · rw [if_pos rfl]
        unfold fX4_isPossible_27
        rw [q_poss h (Or.inl rfl), fold_or1 F 0 0 (Or.inl rfl) (Or.inr ⟨f, by omega, by omega, q3⟩)]
      · rw [if_neg (ze_nm (by omega)), q_poss1 h]
  · rw [if_neg (ze_nm (by omega)), if_neg (ze_nm (by omega)), q_poss1 h]
    exact Or.inl ⟨rfl, rfl, Or.inl ⟨f, f1, f2⟩⟩
theorem ze_div4 (g j : Nat) (hj : j < 4) (hg : g < 16) : nI (4 * g + j) / 4 = nI g := by
  rw [show (4 : Int32) = nI 4 from rfl, ze_div (by omega) (by omega), show (4 * g + j) / 4 = g by omega]
theorem ze_mod4 (g j : Nat) (hj : j < 4) (hg : g < 16) : nI (4 * g + j) - nI (4 * g + j) / 4 * 4 = nI j := by
  rw [show (4 : Int32) = nI 4 from rfl, ze_mod (by omega) (by omega), show (4 * g + j) % 4 = j by omega]
/-- the first questions of read and write, up to the page's content -/
theorem g_addr (h : Rel ι F hd P G z L X X0 σ μ) (a1 a2 : Int32) :
    (fX3_requireAddressed a1 a2 σ = some (.inr pw_ioX, σ) ∧ ∀ w, fX4_begins a1 a2 w μ = some (0, si μ 0 0 1)) ∨
    (fX3_requireAddressed a1 a2 σ = some (.inr pw_neX, σ) ∧ ∀ w, fX4_begins a1 a2 w μ = some (0, si μ 0 0 2)) ∨
    (fX3_requireAddressed a1 a2 σ = some (.inr pw_iaX, σ) ∧ ∀ w, fX4_begins a1 a2 w μ = some (0, si μ 0 0 3)) ∨
    ∃ p g j d, p < P ∧ g < 16 ∧ j < 4 ∧ a1 = nI p ∧ a2 = nI (4 * g + j) ∧ L d ∧ gr σ 1 (16 * p + g) = some (ky d) ∧ gi μ 10 (16 * p + g) = nI (ι d) ∧ gi μ 9 (16 * p + g) = (if gi σ (ky d) 1 = 0 then 1 else 2) ∧ fX3_requireAddressed a1 a2 σ = some (.inl (ky d), σ) ∧
      fX4_begins a1 a2 0 μ = fX4_begins_116 (nI (ι d)) (si μ 0 0 0) ∧
      fX4_begins a1 a2 1 μ = (if gi σ (ky d) 1 = 0 then (if gi σ (ky d) 6 ≤ 1 then fX4_begins_116 (nI (ι d)) (si μ 0 0 0) else fX4_begins_117 (nI (ι d)) 1 (si μ 0 0 0)) else fX4_begins_116 (nI (ι d)) (si μ 0 0 0)) := by
  have p10 := h.pp
  have no : ∀ w v : Int32, v = 1 ∨ v = 2 ∨ v = 3 → fX4_begins_56 a1 a2 w v μ = some (0, si μ 0 0 v) := by
    intro w v hv
    unfold fX4_begins_56
    rw [ze_ld, show gi (si μ 0 0 v) 0 0 = v from rfl]
    rcases hv with rfl | rfl | rfl <;> rfl
  rcases g_proc h a1 with ⟨p, h1, h2, h3, h4⟩ | ⟨h3, h4⟩
  · by_cases c0 : a2 < 0
    · refine Or.inl ⟨?_, fun w => ?_⟩
      · unfold fX3_requireAddressed
        rw [h3, ze_bnx, if_pos c0]; rfl
      · unfold fX4_begins
        rw [h4, ze_bnd, if_neg (by decide), if_pos c0]
        exact no w 1 (Or.inl rfl)
    by_cases c1 : a2 < 64
    · obtain ⟨q, q1, q2⟩ := ze_arg (n := 64) c0 c1 (by omega)
      obtain ⟨g, j, g1, j1, rfl⟩ : ∃ g j, g < 16 ∧ j < 4 ∧ q = 4 * g + j := ⟨q / 4, q % 4, by omega, by omega, by omega⟩
      have ea : fX3_requireAddressed a1 a2 σ = bnx (fX3_requireLive (nI p) σ) (fun r12 σ13 => bnx (fX3_requireMapped (nI p) (nI g) σ13) (fun r19 σ20 => some (.inl r19, σ20))) := by
        unfold fX3_requireAddressed
        rw [h3, ze_bnx, if_neg c0, if_pos c1, q2, ze_div4 g j j1 g1, h2]
      have eb : ∀ w, fX4_begins a1 a2 w μ = (if gi μ 8 p = 0 then fX4_begins_56 a1 a2 w 2 μ else if gi μ 9 (16 * p + g) = 0 then fX4_begins_56 a1 a2 w 3 μ else fX4_begins_56 a1 a2 w 0 μ) := by
        intro w
        unfold fX4_begins fX4_at
        rw [h4, ze_bnd, if_neg (by decide), if_neg c0, if_pos c1, q2, ze_div4 g j j1 g1, h2, ze_ck (ze_inb (by omega) (by omega)), ze_c (by omega), ze_bnd, m16b, ze_ck (ze_inb (by omega) (by omega)), ze_c (by omega)]
      rcases g_live h (p := p) (by omega) with ⟨l1, l2, _⟩ | ⟨l1, l2, _⟩
      · rw [l1, ze_bnx] at ea
        have em : fX3_requireMapped (nI p) (nI g) σ = oc (gr σ 1 (16 * p + g)) (some (.inr pw_iaX, σ)) (fun q9 => some (.inl q9, σ)) := by
          unfold fX3_requireMapped fX3_placeOf
          rw [ze_bnd, m16a, ze_ck (ze_inb (by omega) (by omega)), ze_c (by omega), ze_ld]
        rcases h.pg (16 * p + g) (by omega) with ⟨a, b⟩ | ⟨d, a, b1, b2, b3, b4⟩
        · refine Or.inr (Or.inr (Or.inl ⟨?_, fun w => ?_⟩))
          · rw [ea, em, a]; rfl
          · rw [eb, l2, if_neg (by decide), if_pos b]
            exact no w 3 (Or.inr (Or.inr rfl))
        · refine Or.inr (Or.inr (Or.inr ⟨p, g, j, d, h1, g1, j1, h2, q2, b1, a, b2, b3, ?_, ?_⟩))
          · rw [ea, em, a]; rfl
          have e0 : ∀ w, fX4_begins a1 a2 w μ = (if w = 0 then fX4_begins_116 (nI (ι d)) (si μ 0 0 0) else if gi μ 9 (16 * p + g) = 1 then bnd (fX4_references (nI (ι d)) (si μ 0 0 0)) (fun r40 σ41 => if r40 ≤ 1 then fX4_begins_116 (nI (ι d)) σ41 else fX4_begins_117 (nI (ι d)) 1 σ41) else fX4_begins_116 (nI (ι d)) (si μ 0 0 0)) := by
            intro w
            rw [eb, l2, if_neg (by decide), if_neg (by rw [b3]; split <;> decide)]
            unfold fX4_begins_56 fX4_at
            rw [ze_ld, if_pos (show gi (si μ 0 0 0) 0 0 ≤ 0 from (by decide : (0 : Int32) ≤ 0)), ze_bnd, q2, ze_div4 g j j1 g1, h2, m16b, ze_ck (ze_inb (by omega) (by omega)), ze_c (by omega), ze_bnd, ze_ck (ze_inb (by omega) (by omega)), ze_c (by omega)]
            rw [show gi (si μ 0 0 0) 10 (16 * p + g) = nI (ι d) from b2]
            rfl
          refine ⟨by rw [e0, if_pos rfl], ?_⟩
          rw [e0, if_neg (by decide), b3, r_refs (h.thr 0) b1, ze_bnd]
          by_cases c : gi σ (ky d) 1 = 0
          · rw [if_pos c, if_pos rfl, if_pos c]
          · rw [if_neg c, if_neg (by decide), if_neg c]
      · refine Or.inr (Or.inl ⟨?_, fun w => ?_⟩)
        · rw [ea, l1]; rfl
        · rw [eb, if_pos l2]
          exact no w 2 (Or.inr (Or.inl rfl))
    · refine Or.inl ⟨?_, fun w => ?_⟩
      · unfold fX3_requireAddressed
        rw [h3, ze_bnx, if_neg c0, if_neg c1]; rfl
      · unfold fX4_begins
        rw [h4, ze_bnd, if_neg (by decide), if_neg c0, if_neg c1]
        exact no w 1 (Or.inl rfl)
  · refine Or.inl ⟨?_, fun w => ?_⟩
    · unfold fX3_requireAddressed
      rw [h3]; rfl
    · unfold fX4_begins
      rw [h4, ze_bnd, if_pos rfl]
      exact no w 1 (Or.inl rfl)
theorem b140_1 {m : pw_S} (e : fX4_isPossible 1 (si m 0 0 0) = some (1, si m 0 0 0)) : fX4_begins_140 1 (si m 0 0 0) = some (1, si m 0 0 0) := by
  unfold fX4_begins_140
  rw [e]; rfl
theorem b140_0 {m : pw_S} (e : fX4_isPossible 1 (si m 0 0 0) = some (0, si m 0 0 0)) : fX4_begins_140 1 (si m 0 0 0) = some (0, si (si m 0 0 0) 0 0 4) := by
  unfold fX4_begins_140
  rw [e]; rfl
theorem b140_n {m : pw_S} (e : fX4_isPossible 0 (si m 0 0 0) = some (1, si m 0 0 0)) : fX4_begins_140 0 (si m 0 0 0) = some (1, si m 0 0 0) := by
  unfold fX4_begins_140
  rw [e]; rfl
/-- the last question: a frame, if one is wanted -/
theorem g_116 (h : Rel ι F hd P G z L X E σ μ) {d : Nat} (hL : L d) : (gi σ (ky d) 3 ≠ -1 ∧ fX4_begins_116 (nI (ι d)) (si μ 0 0 0) = some (1, si μ 0 0 0)) ∨ (gi σ (ky d) 3 = -1 ∧ fX3_requireObtainableFrame σ = some (.inl (), σ) ∧ Ob1 F σ ∧ fX4_begins_116 (nI (ι d)) (si μ 0 0 0) = some (1, si μ 0 0 0)) ∨ (gi σ (ky d) 3 = -1 ∧ fX3_requireObtainableFrame σ = some (.inr pw_isX, σ) ∧ fX4_begins_116 (nI (ι d)) (si μ 0 0 0) = some (0, si (si μ 0 0 0) 0 0 4)) := by
  unfold fX4_begins_116 fX4_begins_117 fX4_begins_135
  rw [if_pos rfl, r_fw (h.thr 0) hL, ze_bnd]
  by_cases c : gi σ (ky d) 3 = -1
  · rw [if_pos c]
    rcases r_poss (h.thr 0) with ⟨a1, a2, a3⟩ | ⟨a1, a2⟩
    · exact Or.inr (Or.inl ⟨c, a1, a3, b140_1 a2⟩)
    · exact Or.inr (Or.inr ⟨c, a1, b140_0 a2⟩)
  · rw [if_neg c]
    exact Or.inl ⟨c, b140_n (r_poss0 (h.thr 0))⟩
theorem g_117 (h : Rel ι F hd P G z L X E σ μ) (x : Int32) : (fX3_requireObtainableFrame σ = some (.inl (), σ) ∧ Ob1 F σ ∧ fX4_begins_117 x 1 (si μ 0 0 0) = some (1, si μ 0 0 0)) ∨ (fX3_requireObtainableFrame σ = some (.inr pw_isX, σ) ∧ fX4_begins_117 x 1 (si μ 0 0 0) = some (0, si (si μ 0 0 0) 0 0 4)) := by
  unfold fX4_begins_117 fX4_begins_135
  rw [if_neg (by decide)]
  rcases r_poss (h.thr 0) with ⟨a1, a2, a3⟩ | ⟨a1, a2⟩
  · exact Or.inl ⟨a1, a3, b140_1 a2⟩
  · exact Or.inr ⟨a1, b140_0 a2⟩
theorem r_use (h : Rel ι F hd P G z L X E σ μ) {d : Nat} (hL : L d) (hn : gi σ (ky d) 3 ≠ -1) : ∃ f, f < F ∧ gi σ (ky d) 3 = nI f ∧ gr σ 5 f = some (ky d) ∧ fX4_use (nI (ι d)) μ = some ((), si (si μ 2 f (gi σ 0 10)) 3 f 1) ∧ ∀ s t, gi s 4 3 = nI F → fX1_use (nI f) t s = some ((), si (si s 6 f t) 7 f 1) := by
  have f12 := h.f12
  rcases h.df d hL with q | ⟨f, f1, f2, f3⟩
  · exact absurd q hn
  refine ⟨f, f1, f2, f3, ?_, fun s t e => ?_⟩
  · unfold fX4_use
    rw [r_fw h hL, ze_bnd, f2, ze_ck (ze_inb (by omega) (by omega)), ze_ld, ze_ck (ze_inb (by omega) (by omega)), ze_ld, ze_c (by omega), h.tm]
  · unfold fX1_use fX1_use_26
    rw [if_neg (by rw [show (0 : Int32) = nI 0 from rfl, nI_ltI] <;> omega), e, if_neg (by rw [nI_leI] <;> omega), ze_ck (ze_inb (by omega) (by omega)), ze_ld, ze_ck (ze_inb (by omega) (by omega)), ze_ld, ze_c (by omega)]
theorem op_read (a1 a2 : Int32) : opI RRl [pw_ioX, pw_neX, pw_iaX, pw_isX] (fX3_read a1 a2) (fX4_read a1 a2) := by
  intro σ μ h
  have h0 := h
  obtain ⟨ι, F, hd, P, G, z, L, h, hz⟩ := h
  have p10 := h.pp
  rcases g_addr h a1 a2 with ⟨c1, c2⟩ | ⟨c1, c2⟩ | ⟨c1, c2⟩ | ⟨p, g, j, d, p1, g1, j1, e1, e2, hL, ho, hm, _, c1, c2, _⟩
  · refine op_no (Er := pw_ioX) (by decide) (h0.thr 1) ?_ (bb := 0) ?_ rfl
    · unfold fX3_read; rw [c1]; rfl
    · unfold fX4_read; rw [c2]; rfl
  · refine op_no (Er := pw_neX) (by decide) (h0.thr 2) ?_ (bb := 0) ?_ rfl
    · unfold fX3_read; rw [c1]; rfl
    · unfold fX4_read; rw [c2]; rfl
  · refine op_no (Er := pw_iaX) (by decide) (h0.thr 3) ?_ (bb := 0) ?_ rfl
    · unfold fX3_read; rw [c1]; rfl
    · unfold fX4_read; rw [c2]; rfl
  · have i200 := (h.nn d hL).2
    have main : (gi σ (ky d) 3 = -1 → Ob1 F σ) → fX3_read a1 a2 σ = fX3_read_19 a2 (ky d) σ → fX4_begins a1 a2 0 μ = some (1, si μ 0 0 0) → ∃ r σ' bb μ', fX3_read a1 a2 σ = some (r, σ') ∧ fX4_read a1 a2 μ = some (bb, μ') ∧ RRl σ' μ' ∧ (∀ E, r = .inr E → E ∈ [pw_ioX, pw_neX, pw_iaX, pw_isX]) ∧ gi μ' 0 0 = (wrI [pw_ioX, pw_neX, pw_iaX, pw_isX] 0 r).1 ∧ ∀ v, r = .inl v → v = bb := by
      intro hob ea eb
      have ht := (h.thr 0).time (gi σ 0 10 + 1)
      obtain ⟨hd', σ1, μ1, b1, b2, b3, b4, b5, _⟩ := r_bring ht hz hL (fun q => by
        have q : gi σ (ky d) 3 = -1 := by
          simp (disch := omega) only [reduceIte, Nat.reduceEqDiff, Nat.reduceAdd, gi_si, gi_sr, gr_si, gr_sr, gN_si, gN_sr, ky_e, ky_l, ky_r, kw_e, kw_1, kw_2, kw_l, kw_r, ite_self, if_true, if_false] at q
          exact q
        rcases hob q with q | ⟨f, x, y1, y2, y3⟩ | q
        · exact Or.inl q
        · refine Or.inr (Or.inl ⟨f, x, y1, y2, ?_⟩)
          simp (disch := omega) only [reduceIte, Nat.reduceEqDiff, Nat.reduceAdd, gi_si, gi_sr, gr_si, gr_sr, gN_si, gN_sr, ky_e, ky_l, ky_r, kw_e, kw_1, kw_2, kw_l, kw_r, ite_self, if_true, if_false]
          exact y3
        · exact Or.inr (Or.inr q)) (fun x q => absurd q id)
      obtain ⟨f, f1, f2, f3, f4, f5⟩ := r_use b3 hL b5
      have f12 := b3.f12
      have hr := b3.mark (v := gi σ1 0 10) (b := 1) (f := f) (by omega) (by rw [f3]; simp) (Or.inr rfl)
      refine op_yes (bb := gi σ1 (ky d + 1) j) ⟨ι, F, hd', P, G, z, L, hr, hz⟩ ?_ ?_ ?_
      · rw [ea]
        unfold fX3_read_19
        rw [ze_ld, b1, ze_bnd, ze_ck (b3.ok hL), f2, f5 _ _ b3.fa, ze_bnd, ze_ck (hr.ok hL), e2, ze_mod4 g j j1 g1, ze_ck (ze_inb (by omega) (by omega)), ze_c (by omega)]
        rw [show gi (si (si σ1 6 f (gi σ1 0 10)) 7 f 1) (ky d + 1) j = gi σ1 (ky d + 1) j by simp (disch := omega) only [reduceIte, Nat.reduceEqDiff, Nat.reduceAdd, gi_si, gi_sr, gr_si, gr_sr, gN_si, gN_sr, ky_e, ky_l, ky_r, kw_e, kw_1, kw_2, kw_l, kw_r, ite_self, if_true, if_false]]
      · unfold fX4_read fX4_at
        rw [eb, ze_bnd, if_neg (by decide), ze_ld, ze_bnd, e1, e2, ze_mod4 g j j1 g1, ze_div4 g j j1 g1, m16b, ze_ck (ze_inb (by omega) (by omega)), ze_c (by omega)]
        rw [show gi (si μ 0 0 0) 0 1 = gi σ 0 10 from h.tm.symm, show ∀ v, gi (si (si μ 0 0 0) 0 1 v) 10 (16 * p + g) = nI (ι d) from fun v => hm]
        rw [b2, ze_bnd, f4, ze_bnd, m4b, ze_ck (ze_inb (by omega) (by omega)), ze_c (by omega)]
        rw [show gi (si (si μ1 2 f (gi σ1 0 10)) 3 f 1) 7 (4 * ι d + j) = gi σ1 (ky d + 1) j from (b3.wd d hL j j1).symm]
      · show gi μ1 0 0 = 0
        rw [b4.2.2.2.2.2.2.2.1 0 (by omega)]
        rfl
    rcases g_116 h hL with ⟨q1, q2⟩ | ⟨q1, q2, q3, q4⟩ | ⟨q1, q2, q3⟩
    · refine main (fun q => absurd q q1) ?_ (c2.trans q2)
      unfold fX3_read
      rw [c1, ze_bnx, ze_ck (h.ok hL), if_neg q1]
    · refine main (fun _ => q3) ?_ (c2.trans q4)
      unfold fX3_read
      rw [c1, ze_bnx, ze_ck (h.ok hL), if_pos q1, q2, ze_bnx]
    · refine op_no (Er := pw_isX) (by decide) (h0.thr 4) ?_ (bb := 0) ?_ rfl
      · unfold fX3_read
        rw [c1, ze_bnx, ze_ck (h.ok hL), if_pos q1, q2, ze_bnr]
      · unfold fX4_read
        rw [c2, q3, ze_bnd, if_pos rfl, ze_ss]
end RD
