/-! workingSet, digest -/
section OPS
variable {ι : Nat → Nat} {F hd P G : Nat} {z : Nat → Nat} {L X E : Nat → Prop} {σ μ : pw_S}
theorem op_workingSet (a1 : Int32) : opI RRl [pw_ioX] (fX3_workingSet a1) (fX4_workingSet a1) := by
  intro σ μ h
  have h0 := h
  obtain ⟨ι, F, hd, P, G, z, L, h, hz⟩ := h
  have p10 := h.pp
  have f12 := h.f12
  rcases g_proc h a1 with ⟨p, h1, h2, h3, h4⟩ | ⟨h3, h4⟩
  · have := loop_lock (fun n s j => fX3_workingSet_9 n (nI p) s (nI j) σ) (fun n s j => fX4_workingSet_21 n (nI p) s (nI j) (si μ 0 0 0)) 16 (fun j s s' => s = s') (fun x y => ∃ o, x = (.inl o, σ) ∧ y = (o, si μ 0 0 0)) ?_ ?_ 16 0 0 0 1000 1000 (by omega) (by omega) (by omega) rfl
    · obtain ⟨x, y, e1, e2, o, e3, e4⟩ := this
      subst e3 e4
      refine op_yes (bb := o) (h0.thr 0) ?_ ?_ rfl
      · unfold fX3_workingSet; rw [h3, ze_bnx, h2]; exact e1
      · unfold fX4_workingSet fX4_workingSet_14; rw [h4, ze_bnd, if_neg (by decide), ze_ld, h2]; exact e2
    · intro j s s' hj e
      subst e
      have e1 : ∀ n, fX3_workingSet_9 (n + 1) (nI p) s (nI j) σ = oc (gr σ 1 (16 * p + j)) (fX3_workingSet_9 n (nI p) s (nI (j + 1)) σ) (fun q => ck (okc σ q) (if gi σ q 3 = -1 then fX3_workingSet_9 n (nI p) s (nI (j + 1)) σ else bnd (fX3_isOutsideWindow (gi σ q 3) σ) (fun r17 σ18 => if r17 = 0 then fX3_workingSet_9 n (nI p) (s + 1) (nI (j + 1)) σ18 else fX3_workingSet_9 n (nI p) s (nI (j + 1)) σ18))) := by
        intro n
        show fX3_workingSet_9_b (fX3_workingSet_9 n) (nI p) s (nI j) σ = _
        unfold fX3_workingSet_9_b fX3_workingSet_56 fX3_placeOf
        rw [if_neg (by rw [le16] <;> omega), ze_bnd, m16a, ze_ck (ze_inb (by omega) (by omega)), ze_c (by omega), nI_1, ze_ld]
      have e2 : ∀ n, fX4_workingSet_21 (n + 1) (nI p) s (nI j) (si μ 0 0 0) = (if oc (gr σ 1 (16 * p + j)) (-1) (fun q => gi σ q 3) = -1 then fX4_workingSet_21 n (nI p) s (nI (j + 1)) (si μ 0 0 0) else ck (inb (oc (gr σ 1 (16 * p + j)) (-1) (fun q => gi σ q 3)) 12) (if gi μ 0 2 < gi μ 0 1 - gi μ 2 (Int32.toNatClampNeg (oc (gr σ 1 (16 * p + j)) (-1) (fun q => gi σ q 3))) then fX4_workingSet_21 n (nI p) s (nI (j + 1)) (si μ 0 0 0) else fX4_workingSet_21 n (nI p) (s + 1) (nI (j + 1)) (si μ 0 0 0))) := by
        intro n
        show fX4_workingSet_21_b (fX4_workingSet_21 n) (nI p) s (nI j) (si μ 0 0 0) = _
        unfold fX4_workingSet_21_b fX4_workingSet_75 fX4_workingSet_76 fX4_at
        rw [if_neg (by rw [le16] <;> omega), if_pos (show gi (si μ 0 0 0) 0 0 = 0 from rfl), ze_bnd, m16b, r_frameAt (h.thr 0) (by omega), ze_bnd, nI_1, Int32.add_zero]
        rfl
      refine Or.inr ?_
      rcases h.pg (16 * p + j) (by omega) with ⟨a, b⟩ | ⟨d, a, b1, b2, b3, b4⟩
      · refine ⟨s, s, fun n => ?_, fun n => ?_, rfl⟩
        · rw [e1, a]; rfl
        · rw [e2, a]; rfl
      · rw [a] at e1 e2
        rcases h.df d b1 with c | ⟨f, c1, c2, c3⟩
        · refine ⟨s, s, fun n => ?_, fun n => ?_, rfl⟩
          · rw [e1, ze_ocs, ze_ck (h.ok b1), if_pos c]
          · rw [e2, ze_ocs, if_pos c]
        · have u : gi μ 2 f = gi σ 6 f := by
            rcases h.fr f (by omega) with ⟨y1, _⟩ | ⟨d2, y1, y2, y3, y4, y5, y6, _⟩
            · rw [y1] at c3; cases c3
            · exact y6
          by_cases w : gi σ 0 10 - gi σ 6 f ≤ gi σ 0 9
          · refine ⟨s + 1, s + 1, fun n => ?_, fun n => ?_, rfl⟩
            · rw [e1, ze_ocs, ze_ck (h.ok b1), c2, if_neg (ze_nm (by omega))]
              unfold fX3_isOutsideWindow
              rw [ze_ck (ze_inb (by omega) (by omega)), ze_c (by omega), if_pos w]
              rfl
            · rw [e2, ze_ocs, c2, if_neg (ze_nm (by omega)), ze_ck (ze_inb (by omega) (by omega)), ze_c (by omega), u, ← h.tm, ← h.wn, if_neg]
              rw [ze_nlt]; exact w
          · refine ⟨s, s, fun n => ?_, fun n => ?_, rfl⟩
            · rw [e1, ze_ocs, ze_ck (h.ok b1), c2, if_neg (ze_nm (by omega))]
              unfold fX3_isOutsideWindow
              rw [ze_ck (ze_inb (by omega) (by omega)), ze_c (by omega), if_neg w]
              rfl
            · rw [e2, ze_ocs, c2, if_neg (ze_nm (by omega)), ze_ck (ze_inb (by omega) (by omega)), ze_c (by omega), u, ← h.tm, ← h.wn, if_pos]
              rw [← ze_nle]; exact w
    · intro s s' e
      subst e
      refine ⟨_, _, fun n => ?_, fun n => ?_, s, rfl, rfl⟩
      · show fX3_workingSet_9_b (fX3_workingSet_9 n) (nI p) s (nI 16) σ = _
        unfold fX3_workingSet_9_b
        rw [if_pos (by rw [le16] <;> omega)]
      · show fX4_workingSet_21_b (fX4_workingSet_21 n) (nI p) s (nI 16) (si μ 0 0 0) = _
        unfold fX4_workingSet_21_b
        rw [if_pos (by rw [le16] <;> omega)]
        rfl
  · refine op_no (Er := pw_ioX) (by decide) (h0.thr 1) ?_ (bb := 0) ?_ rfl
    · unfold fX3_workingSet; rw [h3]; rfl
    · unfold fX4_workingSet; rw [h4]; rfl
theorem r_page3 (h : Rel ι F hd P G z L X E σ μ) {p g : Nat} (hp : p < P) (hg : g < 16) : fX3_mapping (nI p) (nI g) σ = some (.inl (gi μ 9 (16 * p + g)), σ) ∧ fX3_frameOf (nI p) (nI g) σ = some (.inl (oc (gr σ 1 (16 * p + g)) (-1) (fun q => gi σ q 3)), σ) ∧ fX3_slotOf (nI p) (nI g) σ = some (.inl (oc (gr σ 1 (16 * p + g)) (-1) (fun q => gi σ q 4)), σ) := by
  have p10 := h.pp
  have h5 : fX3_requirePage (nI p) (nI g) σ = some (.inl (), σ) := by
    have np : ∀ n, n < 2 ^ 31 → ¬ nI n < 0 := by
      intro n hn
      rw [show (0 : Int32) = nI 0 from rfl, nI_ltI hn (by omega)]
      omega
    unfold fX3_requirePage fX3_requireProcess
    rw [h.pa, if_neg (np p (by omega)), if_pos (by rw [nI_ltI] <;> omega), ze_bnx, if_neg (np g (by omega)), if_pos (by rw [show (16 : Int32) = nI 16 from rfl, nI_ltI] <;> omega)]
  refine ⟨?_, ?_, ?_⟩
  · unfold fX3_mapping fX3_placeOf fX3_mapping_35
    rw [h5, ze_bnx, ze_bnd, m16a, ze_ck (ze_inb (by omega) (by omega)), ze_c (by omega), ze_ld]
    rcases h.pg (16 * p + g) (by omega) with ⟨a, b⟩ | ⟨d, a, b1, b2, b3, b4⟩
    · rw [a, b]; rfl
    · rw [a, ze_ocs, ze_ck (h.ok b1), b3]
      split <;> rfl
  · unfold fX3_frameOf fX3_placeOf fX3_frameOf_29
    rw [h5, ze_bnx, ze_bnd, m16a, ze_ck (ze_inb (by omega) (by omega)), ze_c (by omega), ze_ld]
    rcases h.pg (16 * p + g) (by omega) with ⟨a, b⟩ | ⟨d, a, b1, b2, b3, b4⟩
    · rw [a]; rfl
    · rw [a, ze_ocs, ze_ck (h.ok b1)]; rfl
  · unfold fX3_slotOf fX3_placeOf fX3_slotOf_29
    rw [h5, ze_bnx, ze_bnd, m16a, ze_ck (ze_inb (by omega) (by omega)), ze_c (by omega), ze_ld]
    rcases h.pg (16 * p + g) (by omega) with ⟨a, b⟩ | ⟨d, a, b1, b2, b3, b4⟩
    · rw [a]; rfl
    · rw [a, ze_ocs, ze_ck (h.ok b1)]; rfl
def dgP (σ μ : pw_S) (p : Nat) (s : Int64) (g : Nat) : Int64 := ((s * 31 + Int32.toInt64 (gi μ 9 (16 * p + g))) * 31 + Int32.toInt64 (oc (gr σ 1 (16 * p + g)) (-1) (fun q => gi σ q 3))) * 31 + Int32.toInt64 (oc (gr σ 1 (16 * p + g)) (-1) (fun q => gi σ q 4))
def dgF (σ : pw_S) (s : Int64) (f : Nat) : Int64 := ((s * 31 + Int32.toInt64 (oc (gr σ 5 f) 0 (fun q => if gi σ q 5 = 0 then 1 else 2))) * 31 + Int32.toInt64 (gi σ 6 f)) * 31 + (if gi σ 7 f = 0 then 0 else 1)
def dgL (σ μ : pw_S) (s : Int64) (p : Nat) : Int64 := foldN (dgP σ μ p) (s * 31 + (if gi σ 2 p = 0 then 0 else 1)) 0 16
def dgC (σ : pw_S) (s : Int64) (i : Nat) : Int64 := s * 31 + Int32.toInt64 (gi σ 11 i)
theorem dg_c (s : Int64) : fX3_digest_201 1000 s 0 σ = some (.inl (foldN (dgC σ) s 0 6), σ) := by
  refine loop_fold (fun n s j => fX3_digest_201 n s (nI j) σ) 6 (dgC σ) (fun s => some (.inl s, σ)) ?_ ?_ 6 0 1000 s (by omega) (by omega)
  · intro n s j hj
    show fX3_digest_201_b (fX3_digest_201 n) s (nI j) σ = _
    unfold fX3_digest_201_b fX3_mix
    rw [if_neg (by rw [le6] <;> omega), ze_ck (ze_inb (by omega) (by omega)), ze_c (by omega), ze_bnd, nI_1]
    rfl
  · intro n s
    show fX3_digest_201_b (fX3_digest_201 n) s (nI 6) σ = _
    unfold fX3_digest_201_b
    rw [if_pos (by rw [le6] <;> omega)]
theorem dg_cm (h : Rel ι F hd P G z L X E σ μ) (s : Int64) : fX4_digest_218 1000 s 0 μ = some (foldN (dgC σ) s 0 6, μ) := by
  refine loop_fold (fun n s j => fX4_digest_218 n s (nI j) μ) 6 (dgC σ) (fun s => some (s, μ)) ?_ ?_ 6 0 1000 s (by omega) (by omega)
  · intro n s j hj
    show fX4_digest_218_b (fX4_digest_218 n) s (nI j) μ = _
    unfold fX4_digest_218_b
    rw [if_neg (by rw [nI_leI] <;> omega), ze_ck (ze_inb (by omega) (by omega)), ze_c (by omega), nI_1, ← h.cs j hj]
    rfl
  · intro n s
    show fX4_digest_218_b (fX4_digest_218 n) s (nI 6) μ = _
    unfold fX4_digest_218_b
    rw [if_pos (by rw [nI_leI] <;> omega)]
theorem dg_f (h : Rel ι F hd P G z L X E σ μ) (s : Int64) : fX3_digest_129 1000 s 0 σ = some (.inl (foldN (dgC σ) (foldN (dgF σ) s 0 F * 31 + Int32.toInt64 (nI (cntN (fun f => (gr σ 9 f).isNone) 0 24))) 0 6), σ) := by
  have f12 := h.f12
  refine loop_fold (fun n s j => fX3_digest_129 n s (nI j) σ) F (dgF σ) (fun s => some (.inl (foldN (dgC σ) (s * 31 + Int32.toInt64 (nI (cntN (fun f => (gr σ 9 f).isNone) 0 24))) 0 6), σ)) ?_ ?_ F 0 1000 s (by omega) (by omega)
  · intro n s j hj
    obtain ⟨s1, s2, s3⟩ := r_state h hj
    show fX3_digest_129_b (fX3_digest_129 n) s (nI j) σ = _
    unfold fX3_digest_129_b fX3_mix fX3_digest_176 fX3_mix
    rw [h.fa, if_neg (by rw [nI_leI] <;> omega), s1, ze_bnx, ze_bnd, s2, ze_bnx, ze_bnd, s3, ze_bnx, nI_1]
    unfold dgF
    by_cases e : gi σ 7 j = 0
    · rw [if_pos e, if_pos e]; rfl
    · rw [if_neg e, if_neg e]; rfl
  · intro n s
    show fX3_digest_129_b (fX3_digest_129 n) s (nI F) σ = _
    unfold fX3_digest_129_b fX3_mix
    rw [h.fa, if_pos (by rw [nI_leI] <;> omega), q_freeSlots, ze_bnd, ze_bnd, dg_c]
theorem dg_fm (h : Rel ι F hd P G z L X E σ μ) (s : Int64) : fX4_digest_137 1000 s 0 μ = some (foldN (dgC σ) (foldN (dgF σ) s 0 F * 31 + Int32.toInt64 (nI (cntN (fun f => (gr σ 9 f).isNone) 0 24))) 0 6, μ) := by
  have f12 := h.f12
  refine loop_fold (fun n s j => fX4_digest_137 n s (nI j) μ) F (dgF σ) (fun s => some (foldN (dgC σ) (s * 31 + Int32.toInt64 (nI (cntN (fun f => (gr σ 9 f).isNone) 0 24))) 0 6, μ)) ?_ ?_ F 0 1000 s (by omega) (by omega)
  · intro n s j hj
    show fX4_digest_137_b (fX4_digest_137 n) s (nI j) μ = _
    unfold fX4_digest_137_b fX4_digest_195 fX4_digest_196
    rw [h.fb, if_neg (by rw [nI_leI] <;> omega), r_stateOf h (by omega), ze_bnd, r_useOf h (by omega), ze_bnd, ze_ck (ze_inb (by omega) (by omega)), ze_ck (ze_inb (by omega) (by omega)), ze_c (by omega), nI_1]
    unfold dgF
    rcases h.fr j (by omega) with ⟨a, b, c, e⟩ | ⟨d, a, b1, c1, c2, c3, c4, c5, c6⟩
    · rw [if_pos b, if_pos e]
    · rw [c2, if_neg (h.im c1), c5]
      by_cases e : gi σ 7 j = 0
      · rw [if_pos e, if_pos e]
      · rw [if_neg e, if_neg e]
  · intro n s
    show fX4_digest_137_b (fX4_digest_137 n) s (nI F) μ = _
    unfold fX4_digest_137_b
    rw [h.fb, if_pos (by rw [nI_leI] <;> omega), r_slots h, ze_bnd, dg_cm h]
theorem dg_p (h : Rel ι F hd P G z L X E σ μ) (s : Int64) : fX3_digest_39 1000 s 0 σ = some (.inl (foldN (dgC σ) (foldN (dgF σ) (foldN (dgL σ μ) s 0 P) 0 F * 31 + Int32.toInt64 (nI (cntN (fun f => (gr σ 9 f).isNone) 0 24))) 0 6), σ) := by
  have p10 := h.pp
  rw [← dg_f h]
  refine loop_fold (fun n s j => fX3_digest_39 n s (nI j) σ) P (dgL σ μ) (fun s => fX3_digest_129 1000 s 0 σ) ?_ ?_ P 0 1000 s (by omega) (by omega)
  · intro n s p hp
    have key : ∀ s, fX3_digest_69 (fX3_digest_39 n) 1000 s (nI p) 0 σ = fX3_digest_39 n (foldN (dgP σ μ p) s 0 16) (nI (p + 1)) σ := by
      intro s
      refine loop_fold (fun n' s j => fX3_digest_69 (fX3_digest_39 n) n' s (nI p) (nI j) σ) 16 (dgP σ μ p) (fun s => fX3_digest_39 n s (nI (p + 1)) σ) ?_ ?_ 16 0 1000 s (by omega) (by omega)
      · intro n' s g hg
        obtain ⟨s1, s2, s3⟩ := r_page3 h hp hg
        show fX3_digest_69_b (fX3_digest_39 n) (fX3_digest_69 (fX3_digest_39 n) n') s (nI p) (nI g) σ = _
        unfold fX3_digest_69_b fX3_mix
        rw [if_neg (by rw [le16] <;> omega), s1, ze_bnx, ze_bnd, s2, ze_bnx, ze_bnd, s3, ze_bnx, ze_bnd, nI_1]
        rfl
      · intro n' s
        show fX3_digest_69_b (fX3_digest_39 n) (fX3_digest_69 (fX3_digest_39 n) n') s (nI p) (nI 16) σ = _
        unfold fX3_digest_69_b
        rw [if_pos (by rw [le16] <;> omega), nI_1]
    show fX3_digest_39_b (fX3_digest_39 n) s (nI p) σ = _
    unfold fX3_digest_39_b fX3_digest_62 fX3_mix
    rw [h.pa, if_neg (by rw [nI_leI] <;> omega), ze_ck (ze_inb (by omega) (by omega)), ze_c (by omega), ze_bnd, ze_bnd, key, key]
    unfold dgL
    by_cases e : gi σ 2 p = 0
    · rw [if_pos e, if_pos e]
    · rw [if_neg e, if_neg e]
  · intro n s
    show fX3_digest_39_b (fX3_digest_39 n) s (nI P) σ = _
    unfold fX3_digest_39_b
    rw [h.pa, if_pos (by rw [nI_leI] <;> omega)]
theorem dg_pm (h : Rel ι F hd P G z L X X0 σ μ) (s : Int64) : fX4_digest_37 1000 s 0 μ = some (foldN (dgC σ) (foldN (dgF σ) (foldN (dgL σ μ) s 0 P) 0 F * 31 + Int32.toInt64 (nI (cntN (fun f => (gr σ 9 f).isNone) 0 24))) 0 6, μ) := by
  have p10 := h.pp
  rw [← dg_fm h]
  refine loop_fold (fun n s j => fX4_digest_37 n s (nI j) μ) P (dgL σ μ) (fun s => fX4_digest_137 1000 s 0 μ) ?_ ?_ P 0 1000 s (by omega) (by omega)
  · intro n s p hp
    have key : ∀ s, fX4_digest_73 (fX4_digest_37 n) 1000 s (nI p) (nI (16 * p)) μ = fX4_digest_37 n (foldN (dgP σ μ p) s 0 16) (nI (p + 1)) μ := by
      intro s
      refine loop_fold (fun n' s j => fX4_digest_73 (fX4_digest_37 n) n' s (nI p) (nI (16 * p + j)) μ) 16 (dgP σ μ p) (fun s => fX4_digest_37 n s (nI (p + 1)) μ) ?_ ?_ 16 0 1000 s (by omega) (by omega)
      · intro n' s g hg
        show fX4_digest_73_b (fX4_digest_37 n) (fX4_digest_73 (fX4_digest_37 n) n') s (nI p) (nI (16 * p + g)) μ = _
        unfold fX4_digest_73_b fX4_at
        rw [ze_bnd, show (16 : Int32) * nI p + 16 = nI (16 * p + 16) by rw [show (16 : Int32) = nI 16 from rfl, ze_mul, nI_add], if_neg (by rw [nI_leI] <;> omega), ze_ck (ze_inb (by omega) (by omega)), r_frameAt h (by omega), ze_bnd, r_slotAt h (by omega), ze_bnd, ze_c (by omega), nI_1]
        rfl
      · intro n' s
        show fX4_digest_73_b (fX4_digest_37 n) (fX4_digest_73 (fX4_digest_37 n) n') s (nI p) (nI (16 * p + 16)) μ = _
        unfold fX4_digest_73_b fX4_at
        rw [ze_bnd, show (16 : Int32) * nI p + 16 = nI (16 * p + 16) by rw [show (16 : Int32) = nI 16 from rfl, ze_mul, nI_add], if_pos (by rw [nI_leI] <;> omega), nI_1]
    show fX4_digest_37_b (fX4_digest_37 n) s (nI p) μ = _
    unfold fX4_digest_37_b fX4_digest_64 fX4_at
    rw [h.pb, if_neg (by rw [nI_leI] <;> omega), ze_ck (ze_inb (by omega) (by omega)), ze_c (by omega), ze_bnd, ze_bnd, show (16 : Int32) * nI p + 0 = nI (16 * p) by rw [Int32.add_zero, m16c], key, key]
    unfold dgL
    rcases h.lv p (by omega) with e | ⟨e, _⟩
    · exact absurd e id
    rw [← e]
    by_cases e : gi σ 2 p = 0
    · rw [if_pos e, if_pos e]
    · rw [if_neg e, if_neg e]
  · intro n s
    show fX4_digest_37_b (fX4_digest_37 n) s (nI P) μ = _
    unfold fX4_digest_37_b
    rw [h.pb, if_pos (by rw [nI_leI] <;> omega)]
theorem op_digest : opL RRl fX3_digest fX4_digest := by
  intro σ μ h
  have h0 := h
  obtain ⟨ι, F, hd, P, G, z, L, h, hz⟩ := h
  have h := h.thr 0
  have e1 : fX3_digest σ = fX3_digest_39 1000 (((67 * 31 + Int32.toInt64 (gi σ 0 10)) * 31 + Int32.toInt64 (gi σ 4 4)) * 31 + Int32.toInt64 (gi σ 0 7)) 0 σ := rfl
  have e2 : fX4_digest μ = fX4_digest_37 1000 (((67 * 31 + Int32.toInt64 (gi σ 0 10)) * 31 + Int32.toInt64 (gi σ 4 4)) * 31 + Int32.toInt64 (gi σ 0 7)) 0 (si μ 0 0 0) := by
    unfold fX4_digest
    rw [ze_ld, h.tm, h.ha, ← h.hb, h.pa, ← h.pb]
    rfl
  exact ⟨_, σ, si μ 0 0 0, e1.trans (dg_p h _), e2.trans (dg_pm h _), h0.thr 0⟩
end OPS
