/-! THE GUARDS and the calls that only ask -/
section OPS
variable {ι : Nat → Nat} {F hd P G : Nat} {z : Nat → Nat} {L X E : Nat → Prop} {σ μ : pw_S}
theorem g_proc (h : Rel ι F hd P G z L X E σ μ) (a1 : Int32) : (∃ p, p < P ∧ a1 = nI p ∧ fX3_requireProcess a1 σ = some (.inl (), σ) ∧ fX4_isProcess a1 μ = some (1, μ)) ∨ (fX3_requireProcess a1 σ = some (.inr pw_ioX, σ) ∧ fX4_isProcess a1 μ = some (0, μ)) := by
  have p10 := h.pp
  unfold fX3_requireProcess fX3_requireProcess_12 fX4_isProcess fX4_isProcess_16 fX4_isProcess_17
  rw [h.pa, h.pb]
  by_cases h0 : a1 < 0
  · rw [if_pos h0, if_pos h0]
    exact Or.inr ⟨rfl, rfl⟩
  · rw [if_neg h0, if_neg h0]
    by_cases h1 : a1 < nI P
    · rw [if_pos h1, if_neg (by rw [ze_nge]; exact h1)]
      obtain ⟨p, h2, h3⟩ := ze_arg h0 h1 (by omega)
      exact Or.inl ⟨p, h2, h3, rfl, rfl⟩
    · rw [if_neg h1, if_pos (by rw [← ze_nlt]; exact h1)]
      exact Or.inr ⟨rfl, rfl⟩
theorem g_pg2 (a2 : Int32) : (∃ g, g < 16 ∧ a2 = nI g ∧ ¬ a2 < 0 ∧ a2 < 16 ∧ fX4_isPage a2 μ = some (1, μ)) ∨ ((a2 < 0 ∨ (¬ a2 < 0 ∧ ¬ a2 < 16)) ∧ fX4_isPage a2 μ = some (0, μ)) := by
  unfold fX4_isPage fX4_isPage_14 fX4_isPage_15
  by_cases h0 : a2 < 0
  · rw [if_pos h0]
    exact Or.inr ⟨Or.inl h0, rfl⟩
  · rw [if_neg h0]
    by_cases h1 : a2 < 16
    · rw [if_neg (by rw [ze_nle]; exact h1)]
      obtain ⟨p, h2, h3⟩ := ze_arg (n := 16) h0 h1 (by omega)
      exact Or.inl ⟨p, h2, h3, h0, h1, rfl⟩
    · rw [if_pos (by rw [← ze_nlt]; exact h1)]
      exact Or.inr ⟨Or.inr ⟨h0, h1⟩, rfl⟩
theorem g_page (h : Rel ι F hd P G z L X E σ μ) (a1 a2 : Int32) : (∃ p g, p < P ∧ g < 16 ∧ a1 = nI p ∧ a2 = nI g ∧ fX3_requirePage a1 a2 σ = some (.inl (), σ) ∧ fX4_isProcess a1 μ = some (1, μ) ∧ fX4_isPage a2 μ = some (1, μ)) ∨ (fX3_requirePage a1 a2 σ = some (.inr pw_ioX, σ) ∧ (fX4_isProcess a1 μ = some (0, μ) ∨ (fX4_isProcess a1 μ = some (1, μ) ∧ fX4_isPage a2 μ = some (0, μ)))) := by
  unfold fX3_requirePage fX3_requirePage_15
  rcases g_proc h a1 with ⟨p, h1, h2, h3, h4⟩ | ⟨h3, h4⟩
  · rw [h3, ze_bnx]
    rcases g_pg2 (μ := μ) a2 with ⟨g, c1, c2, c3, c4, c5⟩ | ⟨c1, c2⟩
    · rw [if_neg c3, if_pos c4]
      exact Or.inl ⟨p, g, h1, c1, h2, c2, rfl, h4, c5⟩
    · refine Or.inr ⟨?_, Or.inr ⟨h4, c2⟩⟩
      rcases c1 with c1 | ⟨c1, c3⟩
      · rw [if_pos c1]
      · rw [if_neg c1, if_neg c3]
  · rw [h3, ze_bnr]
    exact Or.inr ⟨rfl, Or.inl h4⟩
theorem g_live (h : Rel ι F hd P G z L X X0 σ μ) {p : Nat} (hp : p < 10) : (fX3_requireLive (nI p) σ = some (.inl (), σ) ∧ gi μ 8 p = 1 ∧ gi σ 2 p = 1) ∨ (fX3_requireLive (nI p) σ = some (.inr pw_neX, σ) ∧ gi μ 8 p = 0 ∧ gi σ 2 p = 0) := by
  unfold fX3_requireLive
  rw [ze_ck (ze_inb hp (by omega)), ze_c (by omega)]
  rcases h.lv p hp with a | ⟨a, b | b⟩
  · exact absurd a id
  · rw [a, b, if_pos rfl]
    exact Or.inr ⟨rfl, rfl, rfl⟩
  · rw [a, b, if_neg (by decide)]
    exact Or.inl ⟨rfl, rfl, rfl⟩
theorem g_asks (h : Rel ι F hd P G z L X E σ μ) (a1 a2 : Int32) : (∃ p g, p < P ∧ g < 16 ∧ a1 = nI p ∧ a2 = nI g ∧ fX3_requirePage a1 a2 σ = some (.inl (), σ) ∧ fX4_asks a1 a2 μ = some (1, si μ 0 0 0)) ∨ (fX3_requirePage a1 a2 σ = some (.inr pw_ioX, σ) ∧ fX4_asks a1 a2 μ = some (0, si μ 0 0 1)) := by
  unfold fX4_asks fX4_asks_20 fX4_asks_21 fX4_asks_36
  rcases g_page h a1 a2 with ⟨p, g, h1, h2, h3, h4, h5, h6, h7⟩ | ⟨h1, h2 | ⟨h2, h3⟩⟩
  · refine Or.inl ⟨p, g, h1, h2, h3, h4, h5, ?_⟩
    rw [h6, ze_bnd, if_neg (by decide), h7, ze_bnd, if_neg (by decide)]
    rfl
  · refine Or.inr ⟨h1, ?_⟩
    rw [h2, ze_bnd, if_pos rfl]
    rfl
  · refine Or.inr ⟨h1, ?_⟩
    rw [h2, ze_bnd, if_neg (by decide), h3, ze_bnd, if_pos rfl]
    rfl
theorem g_frame (h : Rel ι F hd P G z L X E σ μ) (a1 : Int32) : (∃ f, f < F ∧ a1 = nI f ∧ fX3_requireFrame a1 σ = some (.inl (), σ) ∧ fX4_asksFrame a1 μ = some (1, si μ 0 0 0)) ∨ (fX3_requireFrame a1 σ = some (.inr pw_ioX, σ) ∧ fX4_asksFrame a1 μ = some (0, si μ 0 0 1)) := by
  have f12 := h.f12
  unfold fX3_requireFrame fX3_requireFrame_15 fX4_asksFrame fX4_asksFrame_17 fX4_asksFrame_18 fX4_asksFrame_33
  rw [h.fa, h.fb]
  by_cases h0 : a1 < 0
  · rw [if_pos h0, if_pos h0]
    exact Or.inr ⟨rfl, rfl⟩
  · rw [if_neg h0, if_neg h0]
    by_cases h1 : a1 < nI F
    · rw [if_pos h1, if_neg (by rw [ze_nge]; exact h1)]
      obtain ⟨p, h2, h3⟩ := ze_arg h0 h1 (by omega)
      exact Or.inl ⟨p, h2, h3, rfl, rfl⟩
    · rw [if_neg h1, if_pos (by rw [← ze_nlt]; exact h1)]
      exact Or.inr ⟨rfl, rfl⟩
theorem RRl.thr {σ μ : pw_S} (h : RRl σ μ) (v : Int32) : RRl σ (si μ 0 0 v) := by
  obtain ⟨ι, F, hd, P, G, z, L, h, hz⟩ := h
  exact ⟨ι, F, hd, P, G, z, L, h.thr v, hz⟩
theorem op_no {L : List String} {Er : String} (hE : Er ∈ L) {bb : Int32} {σ μ μ' : pw_S} {f : pw_S → Option ((Int32 ⊕ String) × pw_S)} {g : pw_S → Option (Int32 × pw_S)} (h : RRl σ μ') (hf : f σ = some (.inr Er, σ)) (hg : g μ = some (bb, μ')) (ht : gi μ' 0 0 = nI (L.idxOf Er + 1)) : ∃ r σ' bb μ', f σ = some (r, σ') ∧ g μ = some (bb, μ') ∧ RRl σ' μ' ∧ (∀ E, r = .inr E → E ∈ L) ∧ gi μ' 0 0 = (wrI L 0 r).1 ∧ ∀ v, r = .inl v → v = bb :=
  ⟨.inr Er, σ, bb, μ', hf, hg, h, fun E q => (by cases q; exact hE), ht, fun v q => (by cases q)⟩
theorem op_yes {L : List String} {bb : Int32} {σ μ σ' μ' : pw_S} {f : pw_S → Option ((Int32 ⊕ String) × pw_S)} {g : pw_S → Option (Int32 × pw_S)} (h : RRl σ' μ') (hf : f σ = some (.inl bb, σ')) (hg : g μ = some (bb, μ')) (ht : gi μ' 0 0 = 0) : ∃ r σ' bb μ', f σ = some (r, σ') ∧ g μ = some (bb, μ') ∧ RRl σ' μ' ∧ (∀ E, r = .inr E → E ∈ L) ∧ gi μ' 0 0 = (wrI L 0 r).1 ∧ ∀ v, r = .inl v → v = bb :=
  ⟨.inl bb, σ', bb, μ', hf, hg, h, fun E q => (by cases q), ht, fun v q => (by cases q; rfl)⟩
theorem op_z {L : List String} {f : pw_S → Option ((Int32 ⊕ String) × pw_S)} {g : pw_S → Option (Int32 × pw_S)} (h : opI RRl L f g) : opZ RRl L f g := by
  intro σ μ hR
  obtain ⟨r, σ', bb, μ', h1, h2, h3, h4, h5, h6⟩ := h σ μ hR
  exact ⟨r, σ', bb, μ', h1, h2, h3, h4, h5, fun v e => by rw [h6 v e]⟩
theorem op_time : opN RRl fX3_time fX4_time := by
  intro σ μ h
  obtain ⟨ι, F, hd, P, G, z, L, h, hz⟩ := h
  exact ⟨gi σ 0 10, σ, si μ 0 0 0, rfl, by rw [h.tm]; rfl, ι, F, hd, P, G, z, L, h.thr 0, hz⟩
theorem op_hand : opN RRl fX3_hand fX4_hand := by
  intro σ μ h
  obtain ⟨ι, F, hd, P, G, z, L, h, hz⟩ := h
  exact ⟨gi σ 4 4, σ, si μ 0 0 0, rfl, by rw [h.ha, ← h.hb]; rfl, ι, F, hd, P, G, z, L, h.thr 0, hz⟩
theorem op_swapRate : opD RRl := by
  intro σ μ h
  have h0 := h
  obtain ⟨ι, F, hd, P, G, z, L, h, hz⟩ := h
  exact ⟨h.cs 1 (by decide), h.tm, h0.thr 0⟩
theorem op_setWindow (a1 : Int32) : opI RRl [pw_iaX] (fX3_setWindow a1) (fX4_setWindow a1) := by
  intro σ μ h
  have h0 := h
  obtain ⟨ι, F, hd, P, G, z, L, h, hz⟩ := h
  by_cases c1 : a1 < 0
  · refine op_no (Er := pw_iaX) (by decide) ((h0.thr 0).thr 1) ?_ (bb := 0) ?_ rfl
    · unfold fX3_setWindow; rw [if_pos c1]; rfl
    · unfold fX4_setWindow; rw [ze_ld, if_pos c1]; rfl
  · by_cases c2 : a1 ≤ 50
    · refine op_yes (bb := gi σ 0 9) (σ' := si σ 0 9 a1) (μ' := si (si μ 0 0 0) 0 2 a1) ?_ ?_ ?_ rfl
      · exact ⟨ι, F, hd, P, G, z, L, (h.thr 0).win a1, hz⟩
      · unfold fX3_setWindow; rw [if_neg c1, if_pos c2]; rfl
      · unfold fX4_setWindow; rw [ze_ld, if_neg c1, if_pos c2, h.wn]; rfl
    · refine op_no (Er := pw_iaX) (by decide) ((h0.thr 0).thr 1) ?_ (bb := 0) ?_ rfl
      · unfold fX3_setWindow; rw [if_neg c1, if_neg c2]; rfl
      · unfold fX4_setWindow; rw [ze_ld, if_neg c1, if_neg c2]; rfl
theorem op_count (a1 : Int32) : opI RRl [pw_ioX] (fX3_count a1) (fX4_count a1) := by
  intro σ μ h
  have h0 := h
  obtain ⟨ι, F, hd, P, G, z, L, h, hz⟩ := h
  by_cases c1 : a1 < 0
  · refine op_no (Er := pw_ioX) (by decide) ((h0.thr 0).thr 1) ?_ (bb := 0) ?_ rfl
    · unfold fX3_count; rw [if_pos c1]; rfl
    · unfold fX4_count; rw [ze_ld, if_pos c1]; rfl
  · by_cases c2 : a1 < 6
    · obtain ⟨p, h2, h3⟩ := ze_arg (n := 6) c1 c2 (by omega)
      refine op_yes (bb := gi σ 11 p) (h0.thr 0) ?_ ?_ rfl
      · unfold fX3_count; rw [if_neg c1, if_pos c2, h3, ze_ck (ze_inb h2 (by omega)), ze_c (by omega)]
      · unfold fX4_count; rw [ze_ld, if_neg c1, if_neg, h3, ze_ck (ze_inb h2 (by omega)), ze_c (by omega), h.cs p h2]; rfl
        rw [h3, show (5 : Int32) = nI 5 from rfl, nI_ltI (by omega) (by omega)]; omega
    · refine op_no (Er := pw_ioX) (by decide) ((h0.thr 0).thr 1) ?_ (bb := 0) ?_ rfl
      · unfold fX3_count; rw [if_neg c1, if_neg c2]; rfl
      · unfold fX4_count; rw [ze_ld, if_neg c1, if_pos]; rfl
        rw [Int32.lt_iff_toInt_lt] at c2 ⊢
        have e1 : (6 : Int32).toInt = 6 := by decide
        have e2 : (5 : Int32).toInt = 5 := by decide
        omega
theorem op_setFrames (a1 : Int32) : opI RRl [pw_iaX, pw_isX] (fX3_setFrames a1) (fX4_setFrames a1) := by
  intro σ μ h
  have h0 := h
  obtain ⟨ι, F, hd, P, G, z, L, h, hz⟩ := h
  have f12 := h.f12
  by_cases c1 : a1 < 4
  · refine op_no (Er := pw_iaX) (by decide) ((h0.thr 0).thr 1) ?_ (bb := 0) ?_ rfl
    · unfold fX3_setFrames; rw [if_pos c1]; rfl
    · unfold fX4_setFrames; rw [ze_ld, if_pos c1]; rfl
  · by_cases c2 : a1 ≤ 12
    · obtain ⟨u, v, u1, u2, u3, u4⟩ := r_used (h.thr 0)
      obtain ⟨F', g1, g2⟩ := ze_arg (n := 13) (a := a1) (by
        rw [Int32.lt_iff_toInt_lt] at c1 ⊢
        have e1 : (4 : Int32).toInt = 4 := by decide
        have e2 : (0 : Int32).toInt = 0 := by decide
        omega) (by
        rw [Int32.le_iff_toInt_le] at c2
        rw [Int32.lt_iff_toInt_lt, nI_toInt (by omega)]
        have e1 : (12 : Int32).toInt = 12 := by decide
        omega) (by omega)
      have g3 : 4 ≤ F' := by
        rw [g2, show (4 : Int32) = nI 4 from rfl, nI_ltI (by omega) (by omega)] at c1
        omega
      by_cases e : u = 0
      · refine op_yes (bb := nI F) (σ' := si (si σ 4 3 (nI F')) 4 4 0) (μ' := si (si (si μ 0 0 0) 0 3 (nI F')) 0 4 0) ?_ ?_ ?_ rfl
        · exact ⟨ι, F', 0, P, G, z, L, (h.thr 0).frames g3 (by omega) (u4 e), hz⟩
        · unfold fX3_setFrames; rw [if_neg c1, if_pos c2, u1, ze_bnd, h.fa, if_pos (by rw [nI_leI] <;> omega), g2]; rfl
        · unfold fX4_setFrames; rw [ze_ld, if_neg c1, if_pos c2, u2, ze_bnd, if_pos (by rw [e]; decide), g2]
          rw [show gi (si μ 0 0 0) 0 3 = nI F from h.fb]; rfl
      · refine op_no (Er := pw_isX) (by decide) ((h0.thr 0).thr 2) ?_ (bb := 0) ?_ rfl
        · unfold fX3_setFrames; rw [if_neg c1, if_pos c2, u1, ze_bnd, h.fa, if_neg (by rw [nI_leI] <;> omega)]
        · unfold fX4_setFrames; rw [ze_ld, if_neg c1, if_pos c2, u2, ze_bnd, if_neg]; rfl
          rw [show (0 : Int32) = nI 0 from rfl, nI_leI (by omega) (by omega)]
          omega
    · refine op_no (Er := pw_iaX) (by decide) ((h0.thr 0).thr 1) ?_ (bb := 0) ?_ rfl
      · unfold fX3_setFrames; rw [if_neg c1, if_neg c2]; rfl
      · unfold fX4_setFrames; rw [ze_ld, if_neg c1, if_neg c2]; rfl
theorem op_freeFrames : opN RRl fX3_freeFrames fX4_freeFrames := by
  intro σ μ h
  have h0 := h
  obtain ⟨ι, F, hd, P, G, z, L, h, hz⟩ := h
  obtain ⟨u, v, u1, u2, u3, u4⟩ := r_used (h.thr 0)
  refine ⟨nI v, σ, si μ 0 0 0, ?_, ?_, h0.thr 0⟩
  · unfold fX3_freeFrames; rw [u1]; rfl
  · unfold fX4_freeFrames; rw [ze_ld, u2, ze_bnd, show gi (si μ 0 0 0) 0 3 = nI F from h.fb, ← u3, ← nI_add, Int32.add_sub_cancel]
theorem op_freeSlots : opN RRl fX3_freeSlots fX4_freeSlots := by
  intro σ μ h
  have h0 := h
  obtain ⟨ι, F, hd, P, G, z, L, h, hz⟩ := h
  refine ⟨nI (cntN (fun f => (gr σ 9 f).isNone) 0 24), σ, si μ 0 0 0, ?_, ?_, h0.thr 0⟩
  · unfold fX3_freeSlots; rw [q_freeSlots]; rfl
  · unfold fX4_freeSlots; rw [ze_ld, r_slots (h.thr 0), ze_bnd]
theorem op_isLive (a1 : Int32) : opZ RRl [pw_ioX] (fX3_isLive a1) (fX4_isLive a1) := by
  refine op_z ?_
  intro σ μ h
  have h0 := h
  obtain ⟨ι, F, hd, P, G, z, L, h, hz⟩ := h
  have p10 := h.pp
  rcases g_proc h a1 with ⟨p, h1, h2, h3, h4⟩ | ⟨h3, h4⟩
  · refine op_yes (bb := gi σ 2 p) (h0.thr 0) ?_ ?_ rfl
    · unfold fX3_isLive
      rw [h3, ze_bnx, h2, ze_ck (ze_inb (by omega) (by omega)), ze_c (by omega), ze_ck]
      rcases g_live h (p := p) (by omega) with ⟨_, _, a⟩ | ⟨_, _, a⟩ <;> rw [a] <;> rfl
    · unfold fX4_isLive fX4_isLive_14
      rw [h4, ze_bnd, if_neg (by decide), ze_ld, if_pos (show gi (si μ 0 0 0) 0 0 = 0 from rfl), h2, ze_ck (ze_inb (by omega) (by omega)), ze_c (by omega)]
      rw [show gi (si μ 0 0 0) 8 p = gi μ 8 p from rfl]
      rcases g_live h (p := p) (by omega) with ⟨_, b, a⟩ | ⟨_, b, a⟩ <;> rw [a, b] <;> rfl
  · refine op_no (Er := pw_ioX) (by decide) (h0.thr 1) ?_ (bb := 0) ?_ rfl
    · unfold fX3_isLive; rw [h3]; rfl
    · unfold fX4_isLive; rw [h4]; rfl
theorem op_mapping (a1 a2 : Int32) : opI RRl [pw_ioX] (fX3_mapping a1 a2) (fX4_mapping a1 a2) := by
  intro σ μ h
  have h0 := h
  obtain ⟨ι, F, hd, P, G, z, L, h, hz⟩ := h
  have p10 := h.pp
  rcases g_asks h a1 a2 with ⟨p, g, h1, h2, h3, h4, h5, h6⟩ | ⟨h5, h6⟩
  · refine op_yes (bb := gi μ 9 (16 * p + g)) (h0.thr 0) ?_ ?_ rfl
    · unfold fX3_mapping fX3_placeOf fX3_mapping_35
      rw [h5, ze_bnx, ze_bnd, h3, h4, m16a, ze_ck (ze_inb (by omega) (by omega)), ze_c (by omega), ze_ld]
      rcases h.pg (16 * p + g) (by omega) with ⟨a, b⟩ | ⟨d, a, b1, b2, b3, b4⟩
      · rw [a, b]; rfl
      · rw [a, ze_ocs, ze_ck (h.ok b1), b3]
        split <;> rfl
    · unfold fX4_mapping fX4_at fX4_mapping_23
      rw [h6, ze_bnd, if_neg (by decide), ze_bnd, h3, h4, m16b, ze_ck (ze_inb (by omega) (by omega)), ze_c (by omega)]
      rfl
  · refine op_no (Er := pw_ioX) (by decide) (h0.thr 1) ?_ (bb := 0) ?_ rfl
    · unfold fX3_mapping; rw [h5]; rfl
    · unfold fX4_mapping; rw [h6]; rfl
theorem r_frameAt (h : Rel ι F hd P G z L X E σ μ) {k : Nat} (hk : k < 160) : fX4_frameAt (nI k) μ = some (oc (gr σ 1 k) (-1) (fun q => gi σ q 3), μ) := by
  unfold fX4_frameAt fX4_frameAt_23
  rw [ze_ck (ze_inb (by omega) (by omega)), ze_ck (ze_inb (by omega) (by omega)), ze_c (by omega)]
  rcases h.pg k hk with ⟨a, b⟩ | ⟨d, a, b1, b2, b3, b4⟩
  · rw [a, b]; rfl
  · rw [a, b2, b3, if_neg (by split <;> decide), r_fw h b1]; rfl
theorem r_slotAt (h : Rel ι F hd P G z L X E σ μ) {k : Nat} (hk : k < 160) : fX4_slotAt (nI k) μ = some (oc (gr σ 1 k) (-1) (fun q => gi σ q 4), μ) := by
  unfold fX4_slotAt fX4_slotAt_23
  rw [ze_ck (ze_inb (by omega) (by omega)), ze_ck (ze_inb (by omega) (by omega)), ze_c (by omega)]
  rcases h.pg k hk with ⟨a, b⟩ | ⟨d, a, b1, b2, b3, b4⟩
  · rw [a, b]; rfl
  · rw [a, b2, b3, if_neg (by split <;> decide), r_sw h b1]; rfl
theorem op_frameOf (a1 a2 : Int32) : opI RRl [pw_ioX] (fX3_frameOf a1 a2) (fX4_frameOf a1 a2) := by
  intro σ μ h
  have h0 := h
  obtain ⟨ι, F, hd, P, G, z, L, h, hz⟩ := h
  have p10 := h.pp
  rcases g_asks h a1 a2 with ⟨p, g, h1, h2, h3, h4, h5, h6⟩ | ⟨h5, h6⟩
  · refine op_yes (bb := oc (gr σ 1 (16 * p + g)) (-1) (fun q => gi σ q 3)) (h0.thr 0) ?_ ?_ rfl
    · unfold fX3_frameOf fX3_placeOf fX3_frameOf_29
      rw [h5, ze_bnx, ze_bnd, h3, h4, m16a, ze_ck (ze_inb (by omega) (by omega)), ze_c (by omega), ze_ld]
      rcases h.pg (16 * p + g) (by omega) with ⟨a, b⟩ | ⟨d, a, b1, b2, b3, b4⟩
      · rw [a]; rfl
      · rw [a, ze_ocs, ze_ck (h.ok b1)]; rfl
    · unfold fX4_frameOf fX4_at fX4_frameOf_22
      rw [h6, ze_bnd, if_neg (by decide), ze_bnd, h3, h4, m16b, r_frameAt (h.thr 0) (by omega)]
      rfl
  · refine op_no (Er := pw_ioX) (by decide) (h0.thr 1) ?_ (bb := 0) ?_ rfl
    · unfold fX3_frameOf; rw [h5]; rfl
    · unfold fX4_frameOf; rw [h6]; rfl
theorem op_slotOf (a1 a2 : Int32) : opI RRl [pw_ioX] (fX3_slotOf a1 a2) (fX4_slotOf a1 a2) := by
  intro σ μ h
  have h0 := h
  obtain ⟨ι, F, hd, P, G, z, L, h, hz⟩ := h
  have p10 := h.pp
  rcases g_asks h a1 a2 with ⟨p, g, h1, h2, h3, h4, h5, h6⟩ | ⟨h5, h6⟩
  · refine op_yes (bb := oc (gr σ 1 (16 * p + g)) (-1) (fun q => gi σ q 4)) (h0.thr 0) ?_ ?_ rfl
    · unfold fX3_slotOf fX3_placeOf fX3_slotOf_29
      rw [h5, ze_bnx, ze_bnd, h3, h4, m16a, ze_ck (ze_inb (by omega) (by omega)), ze_c (by omega), ze_ld]
      rcases h.pg (16 * p + g) (by omega) with ⟨a, b⟩ | ⟨d, a, b1, b2, b3, b4⟩
      · rw [a]; rfl
      · rw [a, ze_ocs, ze_ck (h.ok b1)]; rfl
    · unfold fX4_slotOf fX4_at fX4_slotOf_22
      rw [h6, ze_bnd, if_neg (by decide), ze_bnd, h3, h4, m16b, r_slotAt (h.thr 0) (by omega)]
      rfl
  · refine op_no (Er := pw_ioX) (by decide) (h0.thr 1) ?_ (bb := 0) ?_ rfl
    · unfold fX3_slotOf; rw [h5]; rfl
    · unfold fX4_slotOf; rw [h6]; rfl
theorem op_sharersOf (a1 a2 : Int32) : opI RRl [pw_ioX] (fX3_sharersOf a1 a2) (fX4_sharersOf a1 a2) := by
  intro σ μ h
  have h0 := h
  obtain ⟨ι, F, hd, P, G, z, L, h, hz⟩ := h
  have p10 := h.pp
  rcases g_asks h a1 a2 with ⟨p, g, h1, h2, h3, h4, h5, h6⟩ | ⟨h5, h6⟩
  · refine op_yes (bb := oc (gr σ 1 (16 * p + g)) 0 (fun q => gi σ q 6)) (h0.thr 0) ?_ ?_ rfl
    · unfold fX3_sharersOf fX3_placeOf fX3_sharersOf_29
      rw [h5, ze_bnx, ze_bnd, h3, h4, m16a, ze_ck (ze_inb (by omega) (by omega)), ze_c (by omega), ze_ld]
      rcases h.pg (16 * p + g) (by omega) with ⟨a, b⟩ | ⟨d, a, b1, b2, b3, b4⟩
      · rw [a]; rfl
      · rw [a, ze_ocs, ze_ck (h.ok b1)]; rfl
    · unfold fX4_sharersOf fX4_at fX4_sharersOf_39 fX4_sharersOf_40
      rw [h6, ze_bnd, if_neg (by decide), ze_bnd, ze_bnd, h3, h4, m16b, ze_ck (ze_inb (by omega) (by omega)), ze_ck (ze_inb (by omega) (by omega)), ze_c (by omega)]
      rw [show gi (si μ 0 0 0) 9 (16 * p + g) = gi μ 9 (16 * p + g) from rfl, show gi (si μ 0 0 0) 10 (16 * p + g) = gi μ 10 (16 * p + g) from rfl]
      rcases h.pg (16 * p + g) (by omega) with ⟨a, b⟩ | ⟨d, a, b1, b2, b3, b4⟩
      · rw [a, b]; rfl
      · rw [a, b2, b3, if_neg (by split <;> decide), r_refs (h.thr 0) b1]; rfl
  · refine op_no (Er := pw_ioX) (by decide) (h0.thr 1) ?_ (bb := 0) ?_ rfl
    · unfold fX3_sharersOf; rw [h5]; rfl
    · unfold fX4_sharersOf; rw [h6]; rfl
/-- the state of a frame, its use, its mark, as the reference says them -/
theorem r_stateOf (h : Rel ι F hd P G z L X E σ μ) {f : Nat} (hf : f < 12) : fX4_stateOf (nI f) μ = some (oc (gr σ 5 f) 0 (fun q => if gi σ q 5 = 0 then 1 else 2), μ) := by
  unfold fX4_stateOf fX4_stateOf_32
  rw [ze_ck (ze_inb (by omega) (by omega)), ze_ck (ze_inb (by omega) (by omega)), ze_c (by omega)]
  rcases h.fr f hf with ⟨a, b, _⟩ | ⟨d, a, b1, c1, c2, _⟩
  · rw [a, b]; rfl
  · rw [a, c2, if_neg (h.im c1), r_dirty h c1, ze_bnd, ze_ocs]
    split <;> rfl
theorem r_useOf (h : Rel ι F hd P G z L X E σ μ) {f : Nat} (hf : f < 12) : fX4_useOf (nI f) μ = some (gi σ 6 f, μ) := by
  unfold fX4_useOf fX4_useOf_20
  rw [ze_ck (ze_inb (by omega) (by omega)), ze_ck (ze_inb (by omega) (by omega)), ze_c (by omega)]
  rcases h.fr f hf with ⟨a, b, c, _⟩ | ⟨d, a, b1, c1, c2, c3, c4, c5⟩
  · rw [b, c]; rfl
  · rw [c2, if_neg (h.im c1), c4]
theorem r_state (h : Rel ι F hd P G z L X E σ μ) {f : Nat} (hf : f < F) : fX3_frameState (nI f) σ = some (.inl (oc (gr σ 5 f) 0 (fun q => if gi σ q 5 = 0 then 1 else 2)), σ) ∧ fX3_latestUse (nI f) σ = some (.inl (gi σ 6 f), σ) ∧ fX3_isReferenced (nI f) σ = some (.inl (gi σ 7 f), σ) := by
  have f12 := h.f12
  have hr : fX3_requireFrame (nI f) σ = some (.inl (), σ) := by
    unfold fX3_requireFrame
    rw [h.fa, if_neg, if_pos (by rw [nI_ltI] <;> omega)]
    rw [show (0 : Int32) = nI 0 from rfl, nI_ltI (by omega) (by omega)]
    omega
  refine ⟨?_, ?_, ?_⟩
  · unfold fX3_frameState fX3_frameState_33
    rw [hr, ze_bnx, ze_ck (ze_inb (by omega) (by omega)), ze_c (by omega), ze_ld]
    rcases h.fr f (by omega) with ⟨a, b, _⟩ | ⟨d, a, b1, c1, c2, _⟩
    · rw [a]; rfl
    · rw [a, ze_ocs, ze_ck (h.ok c1)]
      rw [ze_ocs]
      split <;> rfl
  · unfold fX3_latestUse
    rw [hr, ze_bnx, ze_ck (ze_inb (by omega) (by omega)), ze_c (by omega)]
  · unfold fX3_isReferenced
    rw [hr, ze_bnx, ze_ck (ze_inb (by omega) (by omega)), ze_c (by omega), ze_ck]
    rcases h.fr f (by omega) with ⟨a, b, c, e⟩ | ⟨d, a, b1, c1, c2, c3, c4, c5, c6⟩
    · rw [e]; rfl
    · exact decide_eq_true c6
theorem op_frameState (a1 : Int32) : opI RRl [pw_ioX] (fX3_frameState a1) (fX4_frameState a1) := by
  intro σ μ h
  have h0 := h
  obtain ⟨ι, F, hd, P, G, z, L, h, hz⟩ := h
  have f12 := h.f12
  rcases g_frame h a1 with ⟨f, h1, h2, h3, h4⟩ | ⟨h3, h4⟩
  · refine op_yes (h0.thr 0) ?_ (bb := oc (gr σ 5 f) 0 (fun q => if gi σ q 5 = 0 then 1 else 2)) ?_ rfl
    · rw [h2]; exact (r_state h h1).1
    · unfold fX4_frameState; rw [h4, ze_bnd, if_neg (by decide), h2, r_stateOf (h.thr 0) (by omega)]; rfl
  · refine op_no (Er := pw_ioX) (by decide) (h0.thr 1) ?_ (bb := 0) ?_ rfl
    · unfold fX3_frameState; rw [h3]; rfl
    · unfold fX4_frameState; rw [h4]; rfl
theorem op_latestUse (a1 : Int32) : opI RRl [pw_ioX] (fX3_latestUse a1) (fX4_latestUse a1) := by
  intro σ μ h
  have h0 := h
  obtain ⟨ι, F, hd, P, G, z, L, h, hz⟩ := h
  have f12 := h.f12
  rcases g_frame h a1 with ⟨f, h1, h2, h3, h4⟩ | ⟨h3, h4⟩
  · refine op_yes (h0.thr 0) ?_ (bb := gi σ 6 f) ?_ rfl
    · rw [h2]; exact (r_state h h1).2.1
    · unfold fX4_latestUse; rw [h4, ze_bnd, if_neg (by decide), h2, r_useOf (h.thr 0) (by omega)]; rfl
  · refine op_no (Er := pw_ioX) (by decide) (h0.thr 1) ?_ (bb := 0) ?_ rfl
    · unfold fX3_latestUse; rw [h3]; rfl
    · unfold fX4_latestUse; rw [h4]; rfl
theorem op_isReferenced (a1 : Int32) : opZ RRl [pw_ioX] (fX3_isReferenced a1) (fX4_isReferenced a1) := by
  refine op_z ?_
  intro σ μ h
  have h0 := h
  obtain ⟨ι, F, hd, P, G, z, L, h, hz⟩ := h
  have f12 := h.f12
  rcases g_frame h a1 with ⟨f, h1, h2, h3, h4⟩ | ⟨h3, h4⟩
  · refine op_yes (h0.thr 0) ?_ (bb := gi σ 7 f) ?_ rfl
    · rw [h2]; exact (r_state h h1).2.2
    · unfold fX4_isReferenced fX4_isReferenced_31 fX4_isReferenced_32
      rw [h4, ze_bnd, if_neg (by decide), h2, ze_ck (ze_inb (by omega) (by omega)), ze_ck (ze_inb (by omega) (by omega)), ze_c (by omega)]
      rw [show gi (si μ 0 0 0) 1 f = gi μ 1 f from rfl, show gi (si μ 0 0 0) 3 f = gi μ 3 f from rfl]
      rcases h.fr f (by omega) with ⟨a, b, c, e⟩ | ⟨d, a, b1, c1, c2, c3, c4, c5, c6⟩
      · rw [b, e]; rfl
      · rw [c2, if_neg (h.im c1), c5]
        rcases c6 with e | e <;> rw [e] <;> rfl
  · refine op_no (Er := pw_ioX) (by decide) (h0.thr 1) ?_ (bb := 0) ?_ rfl
    · unfold fX3_isReferenced; rw [h3]; rfl
    · unfold fX4_isReferenced; rw [h4]; rfl
end OPS
