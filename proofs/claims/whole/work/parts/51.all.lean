/-! SYNC; all the calls; the first state -/
section SY
theorem op_sync : opN RRl fX3_sync fX4_sync := by
  intro σ μ h
  obtain ⟨ι, F, hd, P, G, z, L, h, hz⟩ := h
  have f12 := h.f12
  have := loop_lock (fun n s j => fX3_sync_4 n s.1 (nI j) s.2) (fun n s j => fX4_sync_9 n s.1 (nI j) s.2) F (fun j (s s' : Int32 × pw_S) => s.1 = s'.1 ∧ Rel ι F hd P G z L X0 X0 s.2 s'.2) (fun x y => x.1 = y.1 ∧ RRl x.2 y.2) ?_ ?_ F 0 (0, σ) (0, si μ 0 0 0) 1000 1000 (by omega) (by omega) (by omega) ⟨rfl, h.thr 0⟩
  · obtain ⟨⟨x1, x2⟩, ⟨y1, y2⟩, q1, q2, q3, q4⟩ := this
    dsimp only at q1 q2 q3 q4
    subst q3
    refine ⟨x1, x2, y2, ?_, ?_, q4⟩
    · unfold fX3_sync
      exact q1
    · unfold fX4_sync
      rw [ze_ld]
      exact q2
  · intro j ⟨v, s⟩ ⟨v', s'⟩ hj ⟨i0, i1⟩
    dsimp only at i0 i1
    subst i0
    refine Or.inr ?_
    rcases i1.fr j (by omega) with ⟨a, b, _⟩ | ⟨d, a, b1, c1, c2, _⟩
    · refine ⟨(v, s), (v, s'), fun n => ?_, fun n => ?_, rfl, i1⟩
      · show fX3_sync_4_b (fX3_sync_4 n) v (nI j) s = _
        unfold fX3_sync_4_b fX3_sync_44
        rw [i1.fa, if_neg (by rw [nI_leI] <;> omega), ze_ck (ze_inb (by omega) (by omega)), ze_c (by omega), ze_ld, a, ze_ocn, nI_1]
      · show fX4_sync_9_b (fX4_sync_9 n) v (nI j) s' = _
        unfold fX4_sync_9_b fX4_sync_53
        rw [i1.fb, if_neg (by rw [nI_leI] <;> omega), ze_ck (ze_inb (by omega) (by omega)), ze_c (by omega), if_pos b, nI_1]
    · have ea : ∀ n, fX3_sync_4 (n + 1) v (nI j) s = (if gi s (ky d) 5 = 0 then fX3_sync_4 n v (nI (j + 1)) s else bnd (fX3_writeOut (some (ky d)) s) (fun r13 σ14 => fX3_sync_4 n (v + r13) (nI (j + 1)) σ14)) := by
        intro n
        show fX3_sync_4_b (fX3_sync_4 n) v (nI j) s = _
        unfold fX3_sync_4_b fX3_sync_44
        rw [i1.fa, if_neg (by rw [nI_leI] <;> omega), ze_ck (ze_inb (by omega) (by omega)), ze_c (by omega), ze_ld, a, ze_ocs, ze_ck (i1.ok c1), nI_1]
      have eb : ∀ n, fX4_sync_9 (n + 1) v (nI j) s' = (if gi s (ky d) 5 = 0 then fX4_sync_9 n v (nI (j + 1)) s' else bnd (fX4_writeOut (nI (ι d)) s') (fun r13 σ14 => fX4_sync_9 n (v + r13) (nI (j + 1)) σ14)) := by
        intro n
        show fX4_sync_9_b (fX4_sync_9 n) v (nI j) s' = _
        unfold fX4_sync_9_b fX4_sync_53
        rw [i1.fb, if_neg (by rw [nI_leI] <;> omega), ze_ck (ze_inb (by omega) (by omega)), ze_c (by omega), c2, if_neg (i1.im c1), ze_ck (ze_inb (by omega) (by omega)), r_dirty i1 c1, ze_bnd, ze_ck (ze_inb (by omega) (by omega)), c2, nI_1]
      rcases i1.di d c1 with ⟨y1, _⟩ | ⟨y1, _⟩
      · have y0 : ¬ gi s (ky d) 5 = 0 := by rw [y1]; decide
        obtain ⟨r, s1, s1', r0, r1, r2, r3, _⟩ := r_writeOut i1 hz c1 id y1
        refine ⟨(v + nI r, s1), (v + nI r, s1'), fun n => ?_, fun n => ?_, rfl, r3⟩
        · exact (ea n).trans (by rw [if_neg y0, r1, ze_bnd])
        · exact (eb n).trans (by rw [if_neg y0, r2, ze_bnd])
      · refine ⟨(v, s), (v, s'), fun n => ?_, fun n => ?_, rfl, i1⟩
        · exact (ea n).trans (if_pos y1)
        · exact (eb n).trans (if_pos y1)
  · intro ⟨v, s⟩ ⟨v', s'⟩ ⟨i0, i1⟩
    dsimp only at i0 i1
    subst i0
    refine ⟨(v, s), (v, s'), fun n => ?_, fun n => ?_, rfl, ⟨ι, F, hd, P, G, z, L, i1, hz⟩⟩
    · show fX3_sync_4_b (fX3_sync_4 n) v (nI F) s = _
      unfold fX3_sync_4_b
      rw [i1.fa, if_pos (by rw [nI_leI] <;> omega)]
    · show fX4_sync_9_b (fX4_sync_9 n) v (nI F) s' = _
      unfold fX4_sync_9_b
      rw [i1.fb, if_pos (by rw [nI_leI] <;> omega)]
theorem ops_all : lawOps RRl := ⟨op_setFrames, op_setWindow, op_start, op_fork, op_exit, op_map, op_createSegment, op_attach, op_unmap, op_isLive, op_mapping, op_read, op_write, op_sync, op_time, op_hand, op_frameOf, op_slotOf, op_sharersOf, op_frameState, op_latestUse, op_isReferenced, op_freeFrames, op_freeSlots, op_workingSet, op_count, op_swapRate, op_digest⟩
theorem first_rel (fu fv fw : Nat → Int32) (hu : ∀ j, j < 12 → fu j = -1) (hv : ∀ j, j < 12 → fv j = -1) (hw : ∀ j, j < 24 → fw j = -1) : RRl (sPi fu) (sMi fv fw) := by
  refine ⟨fun x => x, 6, 0, 0, 0, fun _ => 0, X0, ?_, fun _ _ => rfl⟩
  exact Rel.mk' rfl rfl rfl rfl (by omega) (by omega) rfl rfl (by omega) rfl rfl (by omega) rfl rfl (by omega) (fun _ _ => rfl) (fun _ _ => Or.inr ⟨rfl, Or.inl rfl⟩) (fun _ _ => Or.inl ⟨rfl, rfl⟩) (fun _ _ => Or.inl ⟨rfl, Nat.zero_le _⟩) (fun i hi => absurd hi (by omega)) (fun f hf => Or.inl ⟨rfl, hv f hf, hu f hf, rfl⟩) (fun i hi => Or.inl ⟨rfl, hw i hi⟩) (fun _ q => q.elim) (fun _ q => q.elim) (fun _ q => q.elim) (fun _ _ q => q.elim) (fun _ _ => Or.inr ⟨rfl, fun _ q => q.elim⟩) (fun _ q => q.elim) (fun _ q => q.elim) (fun _ q => q.elim) (fun _ q => q.elim) (fun d k k' _ _ q => by cases q) ⟨show (12 : Nat) % 2 = 0 from rfl, Nat.le_refl 12, fun k j q e => by cases e⟩ (fun _ q => q.elim)
end SY
