/-! THE QUESTIONS, over the relation -/
theorem q_seg {μ : pw_S} {G : Nat} {z : Nat → Nat} (hG : gi μ 0 16 = nI G) (h4 : G ≤ 4) (hz : ∀ i, i < G → gi μ 11 i = nI (z i) ∧ 1 ≤ z i ∧ z i ≤ 6) (c : Int32) :
    fX4_segmentPlace c μ = (fun r : Int32 => if r = -1 then some ((-1 : Int32), μ) else some (nI (6 * r.toNatClampNeg) + fstI (fun k => gi μ 12 (6 * r.toNatClampNeg + k) == c) 0 (z r.toNatClampNeg), μ)) (fstI (fun s => decide (¬ fstI (fun k => gi μ 12 (6 * s + k) == c) 0 (z s) = -1)) 0 G) := by
  refine loop_fst (fun n s => fX4_segmentPlace_2 n c (nI s) μ) G (fun s => decide (¬ fstI (fun k => gi μ 12 (6 * s + k) == c) 0 (z s) = -1)) (fun r : Int32 => if r = -1 then some ((-1 : Int32), μ) else some (nI (6 * r.toNatClampNeg) + fstI (fun k => gi μ 12 (6 * r.toNatClampNeg + k) == c) 0 (z r.toNatClampNeg), μ)) ?_ ?_ G 0 1000 (by omega) (by omega)
  · intro n s hs
    obtain ⟨z1, z2, z3⟩ := hz s hs
    show fX4_segmentPlace_2_b (fX4_segmentPlace_2 n) c (nI s) μ = _
    unfold fX4_segmentPlace_2_b
    rw [hG, if_neg (by rw [nI_leI] <;> omega)]
    have := loop_fst (fun n' k => fX4_segmentPlace_12 (fX4_segmentPlace_2 n) n' c (nI s) (nI k) μ) (z s) (fun k => gi μ 12 (6 * s + k) == c) (fun r : Int32 => if r = -1 then fX4_segmentPlace_2 n c (nI (s + 1)) μ else some (nI (6 * s) + r, μ)) ?_ ?_ (z s) 0 1000 (by omega) (by omega)
    · refine Eq.trans this ?_
      by_cases hf : fstI (fun k => gi μ 12 (6 * s + k) == c) 0 (z s) = -1
      · rw [if_pos hf, if_neg (by simp [hf])]
      · rw [if_neg hf, if_pos (by simp [hf]), if_neg (ze_nm (by omega)), ze_c (by omega)]
    · intro n' k hk
      show fX4_segmentPlace_12_b _ (fX4_segmentPlace_12 _ n') c (nI s) (nI k) μ = _
      unfold fX4_segmentPlace_12_b
      rw [ze_ck (ze_inb (by omega) (by omega)), ze_c (by omega), z1, if_neg (by rw [nI_leI] <;> omega), m6b, ze_ck (ze_inb (by omega) (by omega)), ze_c (by omega), nI_1, if_neg (ze_nm (by omega)), nI_add]
      simp only [beq_iff_eq]
    · intro n'
      show fX4_segmentPlace_12_b _ (fX4_segmentPlace_12 _ n') c (nI s) (nI (z s)) μ = _
      unfold fX4_segmentPlace_12_b
      rw [ze_ck (ze_inb (by omega) (by omega)), ze_c (by omega), z1, if_pos (by rw [nI_leI] <;> omega), nI_1]
      rfl
  · intro n
    show fX4_segmentPlace_2_b (fX4_segmentPlace_2 n) c (nI G) μ = _
    unfold fX4_segmentPlace_2_b
    rw [hG, if_pos (by rw [nI_leI] <;> omega)]
    rfl
section RQ
variable {ι : Nat → Nat} {F hd P G : Nat} {z : Nat → Nat} {L X E : Nat → Prop} {σ μ : pw_S}
theorem ky_ij {d d' : Nat} : some (ky d) = some (ky d') ↔ d = d' := by
  constructor
  · intro h
    have := Option.some.inj h
    unfold ky at this
    omega
  · intro h; rw [h]
theorem Rel.ok (h : Rel ι F hd P G z L X E σ μ) {d : Nat} (hd : L d) : okc σ (ky d) = true := by
  have := (h.nn d hd).1
  exact decide_eq_true (by unfold ky; omega)
theorem Rel.ie (h : Rel ι F hd P G z L X E σ μ) {d d' : Nat} (h1 : L d) (h2 : L d') : nI (ι d) = nI (ι d') ↔ d = d' := by
  have a := (h.nn d h1).2
  have b := (h.nn d' h2).2
  rw [nI_eq (by omega) (by omega)]
  exact ⟨h.ij d d' h1 h2, fun e => by rw [e]⟩
theorem Rel.im (h : Rel ι F hd P G z L X E σ μ) {d : Nat} (h1 : L d) : ¬ nI (ι d) = -1 := by
  have a := (h.nn d h1).2
  exact ze_nm (by omega)
theorem r_sf (h : Rel ι F hd P G z L X E σ μ) : ∃ o, fX1_smallestFree σ = some (o, σ) ∧ fX4_frameWith (-1) μ = some (o, μ) ∧ ((o = -1 ∧ ∀ f, f < F → gr σ 5 f ≠ none) ∨ ∃ f, f < F ∧ o = nI f ∧ gr σ 5 f = none) := by
  have f12 := h.f12
  have e : fstI (fun f => gi μ 1 f == -1) 0 F = fstI (fun f => (gr σ 5 f).isNone) 0 F := by
    refine fstI_ext F 0 (fun f _ h2 => ?_)
    rcases h.fr f (by omega) with ⟨a, b, _⟩ | ⟨d, a, _, hL, b, _⟩
    · rw [a, b]; rfl
    · rw [a, b]
      simpa using h.im hL
  refine ⟨_, q_smallestFree h.fa h.f12, by rw [q_frameWith h.fb h.f12, e], ?_⟩
  rcases fstI_or (P := fun f => (gr σ 5 f).isNone) F 0 with ⟨h1, h2⟩ | ⟨f, _, h2, h3, h4, _⟩
  · refine Or.inl ⟨h1, fun f hf e => ?_⟩
    have := h2 f (by omega) (by omega)
    rw [e] at this
    cases this
  · exact Or.inr ⟨f, by omega, h4, by simpa using h3⟩
theorem r_fw (h : Rel ι F hd P G z L X E σ μ) {d : Nat} (hL : L d) : fX4_frameWith (nI (ι d)) μ = some (gi σ (ky d) 3, μ) := by
  have f12 := h.f12
  rw [q_frameWith h.fb h.f12]
  have key : ∀ f, f < F → gi μ 1 f = nI (ι d) → gr σ 5 f = some (ky d) := by
    intro f hf e
    rcases h.fr f (by omega) with ⟨a, b, _⟩ | ⟨d', a, _, hL', b, _⟩
    · rw [b] at e
      exact absurd e.symm (h.im hL)
    · rw [b, h.ie hL' hL] at e
      rw [a, e]
  rcases h.df d hL with e | ⟨f, h1, h2, h3⟩
  · rw [e, fstI_no F 0]
    intro i _ h2
    cases hc : (gi μ 1 i == nI (ι d)) with
    | false => rfl
    | true =>
      have h3 := key i (by omega) (by simpa using hc)
      rcases h.fr i (by omega) with ⟨a, _⟩ | ⟨d', a, _, hL', b, c, _⟩
      · rw [a] at h3; cases h3
      · rw [a, ky_ij] at h3
        subst h3
        rw [e] at c
        exact absurd c.symm (ze_nm (by omega))
  · rw [h2, fstI_hit F 0 f (by omega) (by omega)]
    · rcases h.fr f (by omega) with ⟨a, _⟩ | ⟨d', a, _, hL', b, c, _⟩
      · rw [a] at h3; cases h3
      · rw [a, ky_ij] at h3
        subst h3
        simpa using b
    · intro i _ hi
      cases hc : (gi μ 1 i == nI (ι d)) with
      | false => rfl
      | true =>
        have h4 := key i (by omega) (by simpa using hc)
        rcases h.fr i (by omega) with ⟨a, _⟩ | ⟨d', a, _, hL', b, c, _⟩
        · rw [a] at h4; cases h4
        · rw [a, ky_ij] at h4
          subst h4
          rw [h2, nI_eq (by omega) (by omega)] at c
          omega
theorem r_sw (h : Rel ι F hd P G z L X E σ μ) {d : Nat} (hL : L d) : fX4_slotWith (nI (ι d)) μ = some (gi σ (ky d) 4, μ) := by
  rw [q_slotWith]
  have key : ∀ f, f < 24 → gi μ 4 f = nI (ι d) → gr σ 9 f = some (ky d) := by
    intro f hf e
    rcases h.sl f (by omega) with ⟨a, b⟩ | ⟨d', a, hL', b, _⟩
    · rw [b] at e
      exact absurd e.symm (h.im hL)
    · rw [b, h.ie hL' hL] at e
      rw [a, e]
  rcases h.ds d hL with e | ⟨f, h1, h2, h3⟩
  · rw [e, fstI_no 24 0]
    intro i _ h2
    cases hc : (gi μ 4 i == nI (ι d)) with
    | false => rfl
    | true =>
      have h3 := key i (by omega) (by simpa using hc)
      rcases h.sl i (by omega) with ⟨a, _⟩ | ⟨d', a, hL', b, c⟩
      · rw [a] at h3; cases h3
      · rw [a, ky_ij] at h3
        subst h3
        rw [e] at c
        exact absurd c.symm (ze_nm (by omega))
  · rw [h2, fstI_hit 24 0 f (by omega) (by omega)]
    · rcases h.sl f (by omega) with ⟨a, _⟩ | ⟨d', a, hL', b, c⟩
      · rw [a] at h3; cases h3
      · rw [a, ky_ij] at h3
        subst h3
        simpa using b
    · intro i _ hi
      cases hc : (gi μ 4 i == nI (ι d)) with
      | false => rfl
      | true =>
        have h4 := key i (by omega) (by simpa using hc)
        rcases h.sl i (by omega) with ⟨a, _⟩ | ⟨d', a, hL', b, c⟩
        · rw [a] at h4; cases h4
        · rw [a, ky_ij] at h4
          subst h4
          rw [h2, nI_eq (by omega) (by omega)] at c
          omega
theorem r_dirty (h : Rel ι F hd P G z L X E σ μ) {d : Nat} (hL : L d) : fX4_isDirty (nI (ι d)) μ = some (gi σ (ky d) 5, μ) := by
  have := (h.nn d hL).2
  unfold fX4_isDirty fX4_isDirty_22 fX4_isDirty_23
  rw [ze_ck (ze_inb this (by omega)), ze_c (by omega), r_sw h hL, ze_bnd]
  rcases h.di d hL with ⟨a, b, c, _⟩ | ⟨a, b | ⟨b, c⟩⟩
  · rw [a, b, c, if_neg (by decide), if_pos rfl]; rfl
  · rw [a, b, if_pos rfl]; rfl
  · rw [a, b, if_neg (by decide), if_neg c]; rfl
theorem r_refs (h : Rel ι F hd P G z L X E σ μ) {d : Nat} (hL : L d) : fX4_references (nI (ι d)) μ = some (gi σ (ky d) 6, μ) := by
  have p10 := h.pp
  rw [q_refs h.pb h.pp, h.cn d hL]
  have e : cntN (fun k => gr σ 1 k == some (ky d)) 0 160 = cntN (fun k => gr σ 1 k == some (ky d)) 0 (16 * P) := by
    rw [show 160 = 16 * P + (160 - 16 * P) by omega, cntN_app, cntN_0 (160 - 16 * P), Nat.add_zero]
    intro i h1 h2
    rcases h.pg i (by omega) with ⟨a, _⟩ | ⟨d', a, _, _, _, b⟩
    · rw [a]; rfl
    · omega
  rw [e]
  refine congrArg (fun q => some (nI q, μ)) ?_
  refine cntN_ext _ 0 (fun i _ hi => ?_)
  rcases h.pg i (by omega) with ⟨a, b⟩ | ⟨d', a, hL', b, c, _⟩
  · rw [a, b]; rfl
  · rw [a, b, c]
    have e1 : ¬ (if gi σ (ky d') 1 = 0 then (1 : Int32) else 2) ≤ 0 := by split <;> decide
    rw [decide_eq_true e1, Bool.true_and]
    rw [Bool.eq_iff_iff]
    simp only [beq_iff_eq]
    rw [h.ie hL' hL, ky_ij]
theorem r_seg (h : Rel ι F hd P G z L X E σ μ) (hz : ∀ i, G ≤ i → z i = 0) {d : Nat} (hL : L d) (hX : gi σ (ky d) 1 = 0 ∨ ¬ X d) : fX4_segmentPlace (nI (ι d)) μ = some (if gi σ (ky d) 1 = 0 then -1 else gi σ (ky d) 2, μ) ∧ (¬ gi σ (ky d) 1 = 0 → ∃ k, k < 24 ∧ gi σ (ky d) 2 = nI k ∧ gr σ 3 k = some (ky d) ∧ k / 6 < G ∧ gi σ (ky d) 1 = 1) := by
  have g4 := h.gg
  have key : ∀ s k, s < G → k < z s → gi μ 12 (6 * s + k) = nI (ι d) → gr σ 3 (6 * s + k) = some (ky d) := by
    intro s k hs hk e
    obtain ⟨z1, z2, z3⟩ := h.sz s hs
    rcases h.sg (6 * s + k) (by omega) with ⟨a, b⟩ | ⟨d', a, hL', b, _⟩
    · rw [show (6 * s + k) / 6 = s by omega, show (6 * s + k) % 6 = k by omega] at b
      omega
    · rw [b, h.ie hL' hL] at e
      rw [a, e]
  rw [q_seg h.gb h.gg h.sz]
  rcases h.sd d hL with ⟨a, b⟩ | ⟨a, b⟩
  · rw [if_pos a]
    refine ⟨?_, fun hn => absurd a hn⟩
    rw [fstI_no G 0]
    · rfl
    · intro s _ hs
      obtain ⟨z1, z2, z3⟩ := h.sz s (by omega)
      rw [fstI_no (z s) 0]
      · rfl
      · intro k _ hk
        cases hc : (gi μ 12 (6 * s + k) == nI (ι d)) with
        | false => rfl
        | true => exact absurd (key s k (by omega) (by omega) (by simpa using hc)) (b _ (by omega))
  · rw [if_neg (by rw [a]; decide)]
    obtain ⟨k, hk, hg⟩ := b.resolve_left (hX.resolve_left (by rw [a]; decide))
    rcases h.sg k hk with ⟨a', _⟩ | ⟨d', a', hL', b1, b2, b3, b4⟩
    · rw [a'] at hg; cases hg
    rw [a', ky_ij] at hg
    subst hg
    have hs : k / 6 < G := by
      apply Classical.byContradiction
      intro hc
      rw [hz _ (by omega)] at b4
      omega
    obtain ⟨z1, z2, z3⟩ := h.sz (k / 6) hs
    have ek : 6 * (k / 6) + k % 6 = k := by omega
    have hit : fstI (fun k' => gi μ 12 (6 * (k / 6) + k') == nI (ι d')) 0 (z (k / 6)) = nI (k % 6) := by
      refine fstI_hit _ 0 (k % 6) (by omega) (by omega) (by simpa [ek] using b1) ?_
      intro i _ hi
      cases hc : (gi μ 12 (6 * (k / 6) + i) == nI (ι d')) with
      | false => rfl
      | true =>
        have h4 := key (k / 6) i hs (by omega) (by simpa using hc)
        rcases h.sg (6 * (k / 6) + i) (by omega) with ⟨a2, _⟩ | ⟨d2, a2, hL2, c1, c2, c3, c4⟩
        · rw [a2] at h4; cases h4
        · rw [a2, ky_ij] at h4
          subst h4
          rw [b3, nI_eq (by omega) (by omega)] at c3
          omega
    refine ⟨?_, fun _ => ⟨k, hk, b3, a', hs, a⟩⟩
    rw [fstI_hit G 0 (k / 6) (by omega) (by omega)]
    · dsimp only
      rw [if_neg (ze_nm (by omega)), ze_c (by omega), hit, nI_add, ek, b3]
    · rw [hit]
      simpa using ze_nm (by omega)
    · intro s _ hs'
      rw [fstI_no (z s) 0]
      · rfl
      · intro i _ hi
        obtain ⟨y1, y2, y3⟩ := h.sz s (by omega)
        cases hc : (gi μ 12 (6 * s + i) == nI (ι d')) with
        | false => rfl
        | true =>
          have h4 := key s i (by omega) (by omega) (by simpa using hc)
          rcases h.sg (6 * s + i) (by omega) with ⟨a2, _⟩ | ⟨d2, a2, hL2, c1, c2, c3, c4⟩
          · rw [a2] at h4; cases h4
          · rw [a2, ky_ij] at h4
            subst h4
            rw [b3, nI_eq (by omega) (by omega)] at c3
            omega
theorem r_map (h : Rel ι F hd P G z L X E σ μ) {p : Nat} (hp : p < 10) : ∃ r, fX3_mappedPages (nI p) σ = some (r, σ) ∧ fX4_mapped (nI p) μ = some (r, μ) := by
  refine ⟨_, q_mappedPages hp, ?_⟩
  rw [q_mapped hp]
  refine congrArg (fun q => some (nI q, μ)) ?_
  refine cntN_ext 16 0 (fun k _ hk => ?_)
  rcases h.pg (16 * p + k) (by omega) with ⟨a, b⟩ | ⟨d', a, hL', b, c, _⟩
  · rw [a, b]; rfl
  · rw [a, c]
    have e1 : ¬ (if gi σ (ky d') 1 = 0 then (1 : Int32) else 2) ≤ 0 := by split <;> decide
    rw [decide_eq_true e1]
    rfl
theorem r_slots (h : Rel ι F hd P G z L X E σ μ) : fX4_slotsLeft μ = some (nI (cntN (fun f => (gr σ 9 f).isNone) 0 24), μ) := by
  rw [q_slotsLeft]
  refine congrArg (fun q => some (nI q, μ)) ?_
  refine cntN_ext 24 0 (fun k _ hk => ?_)
  rcases h.sl k (by omega) with ⟨a, b⟩ | ⟨d', a, hL', b, c⟩
  · rw [a, b]; rfl
  · rw [a, b]
    simpa using h.im hL'
theorem cntN_not {P : Nat → Bool} : ∀ m j, cntN P j m + cntN (fun i => !(P i)) j m = m := by
  intro m
  induction m with
  | zero => intro j; rfl
  | succ m ih =>
    intro j
    show (if P j = true then 1 else 0) + cntN P (j + 1) m + ((if (!(P j)) = true then 1 else 0) + cntN (fun i => !(P i)) (j + 1) m) = m + 1
    have := ih (j + 1)
    cases P j <;> simp <;> omega
theorem r_used (h : Rel ι F hd P G z L X E σ μ) : ∃ u v, fX1_freeCount σ = some (nI v, σ) ∧ fX4_used μ = some (nI u, μ) ∧ v + u = F ∧ (u = 0 → ∀ f, f < F → gr σ 5 f = none) := by
  have f12 := h.f12
  refine ⟨_, _, q_freeCount h.fa h.f12, ?_, cntN_not (P := fun f => (gr σ 5 f).isNone) F 0, ?_⟩
  · rw [q_used h.fb h.f12]
    refine congrArg (fun q => some (nI q, μ)) ?_
    refine cntN_ext F 0 (fun k _ hk => ?_)
    rcases h.fr k (by omega) with ⟨a, b, _⟩ | ⟨d', a, _, hL', b, c⟩
    · rw [a, b]; rfl
    · rw [a, b]
      simpa using h.im hL'
  · intro e f hf
    apply Classical.byContradiction
    intro hc
    have := cntN_pos (P := fun i => !((gr σ 5 i).isNone)) F 0 f (by omega) (by omega) (by
      cases hg : gr σ 5 f with
      | none => exact absurd hg hc
      | some q => rfl)
    omega
theorem r_room (h : Rel ι F hd P G z L X E σ μ) (a : Int32) : ∃ o, fX2_roomFor a σ = some (o, σ) ∧ fX4_room a μ = some (o, μ) := by
  have := loop_lock (fun n s j => fX2_roomFor_4 n a s (nI j) σ) (fun n s j => fX4_room_4 n a s (nI j) μ) 24 (fun j s s' => s = s') (fun x y => ∃ o, x = (o, σ) ∧ y = (o, μ)) ?_ ?_ 24 0 0 0 1000 1000 (by omega) (by omega) (by omega) rfl
  · obtain ⟨x, y, h1, h2, o, e1, e2⟩ := this
    subst e1 e2
    exact ⟨o, h1, h2⟩
  · intro j s s' hj e
    subst e
    have e1 : ∀ n, fX2_roomFor_4 (n + 1) a s (nI j) σ = fX2_roomFor_26 (fX2_roomFor_4 n) a (nI j) (if gr σ 9 j = none then s + 1 else 0) σ := by
      intro n
      show fX2_roomFor_4_b (fX2_roomFor_4 n) a s (nI j) σ = _
      unfold fX2_roomFor_4_b
      rw [if_neg (by rw [le24] <;> omega), ze_ck (ze_inb (by omega) (by omega)), ze_c (by omega), ze_ld]
      cases gr σ 9 j with
      | none => rw [if_pos rfl]; rfl
      | some q => rw [if_neg (by simp)]; rfl
    have e2 : ∀ n, fX4_room_4 (n + 1) a s (nI j) μ = fX4_room_27 (fX4_room_4 n) a (nI j) (if gr σ 9 j = none then s + 1 else 0) μ := by
      intro n
      show fX4_room_4_b (fX4_room_4 n) a s (nI j) μ = _
      unfold fX4_room_4_b
      rw [if_neg (by rw [le24] <;> omega), ze_ck (ze_inb (by omega) (by omega)), ze_c (by omega)]
      rcases h.sl j hj with ⟨a, b⟩ | ⟨d', a, hL', b, c⟩
      · rw [a, b, if_pos rfl, if_pos rfl]
      · rw [a, b, if_neg (h.im hL'), if_neg (by simp)]
    generalize (if gr σ 9 j = none then s + 1 else 0) = w at e1 e2
    by_cases hw : w = a
    · refine Or.inl ⟨_, _, fun n => ?_, fun n => ?_, nI j - a + 1, rfl, rfl⟩
      · rw [e1 n]; unfold fX2_roomFor_26; rw [if_pos hw]
      · rw [e2 n]; unfold fX4_room_27; rw [if_pos hw]
    · refine Or.inr ⟨w, w, fun n => ?_, fun n => ?_, rfl⟩
      · rw [e1 n]; unfold fX2_roomFor_26; rw [if_neg hw, nI_1]
      · rw [e2 n]; unfold fX4_room_27; rw [if_neg hw, nI_1]
  · intro s s' e
    subst e
    refine ⟨_, _, fun n => ?_, fun n => ?_, -1, rfl, rfl⟩
    · show fX2_roomFor_4_b (fX2_roomFor_4 n) a s (nI 24) σ = _
      unfold fX2_roomFor_4_b
      rw [if_pos (by rw [le24] <;> omega)]
    · show fX4_room_4_b (fX4_room_4 n) a s (nI 24) μ = _
      unfold fX4_room_4_b
      rw [if_pos (by rw [le24] <;> omega)]
end RQ
