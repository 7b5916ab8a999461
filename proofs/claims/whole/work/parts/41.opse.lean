/-! unmap, exit: a reference goes, a content may vanish -/
section OPS
variable {ι : Nat → Nat} {F hd P G : Nat} {z : Nat → Nat} {L X E : Nat → Prop} {σ μ : pw_S}
theorem Rel.occ (h : Rel ι F hd P G z L X E σ μ) {d f : Nat} (hL : L d) (hf : f < 12) : gr σ 5 f = some (ky d) ↔ gi σ (ky d) 3 = nI f := by
  have f12 := h.f12
  constructor
  · intro e
    rcases h.fr f hf with ⟨a, _⟩ | ⟨d2, a, b1, c1, c2, c3, _⟩
    · rw [a] at e; cases e
    · rw [a, ky_ij] at e
      rw [← e]; exact c3
  · intro e
    rcases h.df d hL with a | ⟨f', a, b, c⟩
    · rw [e] at a
      exact absurd a (ze_nm (by omega))
    · rw [e, nI_eq (by omega) (by omega)] at b
      rw [b]; exact c
theorem Rel.ocs (h : Rel ι F hd P G z L X E σ μ) {d f : Nat} (hL : L d) (hf : f < 24) : gr σ 9 f = some (ky d) ↔ gi σ (ky d) 4 = nI f := by
  constructor
  · intro e
    rcases h.sl f hf with ⟨a, _⟩ | ⟨d2, a, c1, c2, c3⟩
    · rw [a] at e; cases e
    · rw [a, ky_ij] at e
      rw [← e]; exact c3
  · intro e
    rcases h.ds d hL with a | ⟨f', a, b, c⟩
    · rw [e] at a
      exact absurd a (ze_nm (by omega))
    · rw [e, nI_eq (by omega) (by omega)] at b
      rw [b]; exact c
/-- a private content to which no page refers any more: both let it vanish -/
theorem r_vanish {d : Nat} (h : Rel ι F hd P G z L (fun x => X x ∨ x = d) E σ μ) (hL : L d) (hp : gi σ (ky d) 1 = 0) (h6 : gi σ (ky d) 6 = 0) (hz : ∀ i, G ≤ i → z i = 0) :
    ∃ σ' μ' L', (if gi σ (ky d) 3 = -1 then fX3_dropReference_65 (ky d) σ else bnd (fX1_vacate (gi σ (ky d) 3) σ) (fun r23 σ24 => fX3_dropReference_65 (ky d) σ24)) = some (1, σ') ∧ fX4_vanishes (nI (ι d)) μ = some (1, μ') ∧ Rel ι F hd P G z L' X E σ' μ' ∧ (∀ j, gi μ' 0 j = gi μ 0 j) ∧ ∀ j, gi μ' 8 j = gi μ 8 j := by
  have f12 := h.f12
  have i200 := (h.nn d hL).2
  have hno : ∀ k, k < 160 → gr σ 1 k ≠ some (ky d) := by
    intro k hk q
    have := cntN_pos (P := fun k => gr σ 1 k == some (ky d)) 160 0 k (by omega) (by omega) (by simpa using q)
    have c := h.cn d hL
    have l := cntN_le (P := fun k => gr σ 1 k == some (ky d)) 160 0
    rw [h6, show (0 : Int32) = nI 0 from rfl, nI_eq (by omega) (by omega)] at c
    omega
  have ev : fX4_vanishes (nI (ι d)) μ = (if gi σ (ky d) 3 = -1 then fX4_vanishes_36 (nI (ι d)) μ else ck (inb (gi σ (ky d) 3) 12) (ld (si μ 1 (Int32.toNatClampNeg (gi σ (ky d) 3)) (-1)) (fun σ28 => fX4_vanishes_36 (nI (ι d)) σ28))) := by
    unfold fX4_vanishes fX4_isInSegment fX4_isInSegment_14
    rw [r_refs h hL, ze_bnd, h6, if_neg (by decide), (r_seg h hz hL (Or.inl hp)).1, ze_bnd, if_pos hp, if_pos rfl, ze_ck (by decide), ze_bnd, if_pos rfl, r_fw h hL, ze_bnd]
  rw [ev]
  have o5 : ∀ f, f < 12 → (gr σ 5 f = some (ky d) ↔ gi σ (ky d) 3 = nI f) := fun f hf => h.occ hL hf
  have o9 : ∀ f, f < 24 → (gr σ 9 f = some (ky d) ↔ gi σ (ky d) 4 = nI f) := fun f hf => h.ocs hL hf
  have hok := h.ok hL
  rcases h.df d hL with a | ⟨f, a1, a2, a3⟩
  · rw [if_pos a, if_pos a]
    unfold fX4_vanishes_36 fX3_dropReference_65 fX2_vacateSlotOf fX2_vacateSlotOf_26 fX4_vanishes_54
    rw [r_sw h hL, ze_bnd, ze_ck hok]
    rcases h.ds d hL with b | ⟨i, b1, b2, b3⟩
    · rw [b, if_pos (by decide), if_pos rfl, ze_ck hok, ze_ld, ze_bnd, ze_ck (ze_inb i200 (by omega)), ze_c (by omega), ze_ld]
      refine ⟨_, _, _, rfl, rfl, h.gone hL hp hno rfl (fun _ _ _ _ => rfl) ?_ ?_ h.n2.2.2 ?_ ?_ ?_ ?_ ?_ ?_ ?_, fun _ => rfl, fun _ => rfl⟩
      · intro f hf; rw [if_neg (by rw [o5 f hf, a]; exact ze_nm' (by omega))]; rfl
      · intro f hf; rw [if_neg (by rw [o9 f hf, b]; exact ze_nm' (by omega))]; rfl
      · intro k j q1 q2 q3; rw [gi_si, if_neg q3]
      · intro f hf; rw [if_neg (by rw [o5 f hf, a]; exact ze_nm' (by omega))]; simp (disch := omega) only [reduceIte, Nat.reduceEqDiff, Nat.reduceAdd, gi_si, gi_sr, gr_si, gr_sr, gN_si, gN_sr, ky_e, ky_l, ky_r, kw_e, kw_1, kw_2, kw_l, kw_r, ite_self, if_true, if_false]
      · intro f hf; rw [if_neg (by rw [o5 f hf, a]; exact ze_nm' (by omega))]; simp (disch := omega) only [reduceIte, Nat.reduceEqDiff, Nat.reduceAdd, gi_si, gi_sr, gr_si, gr_sr, gN_si, gN_sr, ky_e, ky_l, ky_r, kw_e, kw_1, kw_2, kw_l, kw_r, ite_self, if_true, if_false]
      · intro k j q1 q2 q3; rw [gi_si, if_neg q3]
      · intro f hf; rw [if_neg (by rw [o5 f hf, a]; exact ze_nm' (by omega))]; rfl
      · intro f hf; rw [if_neg (by rw [o9 f hf, b]; exact ze_nm' (by omega))]; rfl
      · intro n hn; rfl
    · rw [b2, if_neg (by rw [show (0 : Int32) = nI 0 from rfl, nI_ltI (by omega) (by omega)]; omega), if_neg (by rw [le24 (by omega)]; omega), if_neg (ze_nm (by omega)), ze_ck (ze_inb (by omega) (by omega)), ze_ck (ze_inb (by omega) (by omega)), ze_c (by omega), ze_ld, ze_ld, ze_ck (show okc (sr σ 9 i none) (ky d) = true from hok), ze_bnd, ze_ld, ze_ck (ze_inb i200 (by omega)), ze_c (by omega), ze_ld]
      refine ⟨_, _, _, rfl, rfl, h.gone hL hp hno rfl ?_ ?_ ?_ ?_ ?_ ?_ ?_ ?_ ?_ ?_ ?_, fun _ => rfl, fun _ => rfl⟩
      · intro k j q1 q2; rw [gr_si, gr_sr, if_neg q2]
      · intro f hf; rw [if_neg (by rw [o5 f hf, a]; exact ze_nm' (by omega))]; rfl
      · intro f hf
        rw [gr_si, gr_sr, if_pos rfl]
        by_cases e : f = i
        · rw [if_pos e, if_pos (by rw [e]; exact b3)]
        · rw [if_neg e, if_neg (by rw [o9 f hf, b2, nI_eq (by omega) (by omega)]; omega)]
      · exact (h.n2n (k := 9) (j := i) (fun _ _ => rfl) rfl).2.2
      · intro k j q1 q2 q3; rw [gi_si, if_neg q3]; rfl
      · intro f hf; rw [if_neg (by rw [o5 f hf, a]; exact ze_nm' (by omega))]; simp (disch := omega) only [reduceIte, Nat.reduceEqDiff, Nat.reduceAdd, gi_si, gi_sr, gr_si, gr_sr, gN_si, gN_sr, ky_e, ky_l, ky_r, kw_e, kw_1, kw_2, kw_l, kw_r, ite_self, if_true, if_false]
      · intro f hf; rw [if_neg (by rw [o5 f hf, a]; exact ze_nm' (by omega))]; simp (disch := omega) only [reduceIte, Nat.reduceEqDiff, Nat.reduceAdd, gi_si, gi_sr, gr_si, gr_sr, gN_si, gN_sr, ky_e, ky_l, ky_r, kw_e, kw_1, kw_2, kw_l, kw_r, ite_self, if_true, if_false]
      · intro k j q1 q2 q3; rw [gi_si, if_neg q3, gi_si, if_neg q2]
      · intro f hf; rw [if_neg (by rw [o5 f hf, a]; exact ze_nm' (by omega))]; rfl
      · intro f hf
        rw [gi_si, if_neg (by decide), gi_si, if_pos rfl]
        by_cases e : f = i
        · rw [if_pos e, if_pos (by rw [e]; exact b3)]
        · rw [if_neg e, if_neg (by rw [o9 f hf, b2, nI_eq (by omega) (by omega)]; omega)]
      · intro n hn; rfl
  · rw [a2, if_neg (ze_nm (by omega)), if_neg (ze_nm (by omega)), ze_ck (ze_inb (by omega) (by omega)), ze_c (by omega), ze_ld]
    have hv : fX1_vacate (nI f) σ = some ((), si (si (sr (si σ (ky d) 3 (-1)) 5 f none) 6 f (-1)) 7 f 0) := by
      unfold fX1_vacate fX1_vacate_16
      rw [ze_ck (ze_inb (by omega) (by omega)), ze_c (by omega), ze_ld, a3, ze_ocs, ze_ck hok, ze_ld, ze_ck (ze_inb (by omega) (by omega)), ze_ld, ze_ck (ze_inb (by omega) (by omega)), ze_ld, ze_ck (ze_inb (by omega) (by omega)), ze_ld]
    rw [hv, ze_bnd]
    have sw : fX4_slotWith (nI (ι d)) (si μ 1 f (-1)) = some (gi σ (ky d) 4, si μ 1 f (-1)) := by
      have q := r_sw h hL
      rw [q_slotWith] at q ⊢
      exact congrArg (fun w => some (w, si μ 1 f (-1))) (Prod.mk.inj (Option.some.inj q)).1
    have s4 : gi (si (si (sr (si σ (ky d) 3 (-1)) 5 f none) 6 f (-1)) 7 f 0) (ky d) 4 = gi σ (ky d) 4 := by simp (disch := omega) only [reduceIte, Nat.reduceEqDiff, Nat.reduceAdd, gi_si, gi_sr, gr_si, gr_sr, gN_si, gN_sr, ky_e, ky_l, ky_r, kw_e, kw_1, kw_2, kw_l, kw_r, ite_self, if_true, if_false]
    have hok2 : okc (si (si (sr (si σ (ky d) 3 (-1)) 5 f none) 6 f (-1)) 7 f 0) (ky d) = true := hok
    have u5 : ∀ f', f' < 12 → (gr σ 5 f' = some (ky d) ↔ f' = f) := by
      intro f' hf'
      rw [o5 f' hf', a2, nI_eq (by omega) (by omega)]
      omega
    unfold fX4_vanishes_36 fX3_dropReference_65 fX2_vacateSlotOf fX2_vacateSlotOf_26 fX4_vanishes_54
    rw [sw, ze_bnd, s4, ze_ck hok2]
    rcases h.ds d hL with b | ⟨i, b1, b2, b3⟩
    · rw [b, if_pos (by decide), if_pos rfl, ze_ck hok2, ze_ld, ze_bnd, ze_ck (ze_inb i200 (by omega)), ze_c (by omega), ze_ld]
      refine ⟨_, _, _, rfl, rfl, h.gone hL hp hno rfl ?_ ?_ ?_ ?_ ?_ ?_ ?_ ?_ ?_ ?_ ?_, fun _ => rfl, fun _ => rfl⟩
      · intro k j q1 q2; rw [gr_si, gr_si, gr_si, gr_sr, if_neg q1]; rfl
      · intro f' hf'
        rw [gr_si, gr_si, gr_si, gr_sr, if_pos rfl]
        by_cases e : f' = f
        · rw [if_pos e, if_pos ((u5 f' hf').mpr e)]
        · rw [if_neg e, if_neg (fun q => e ((u5 f' hf').mp q))]; rfl
      · intro f hf; rw [if_neg (by rw [o9 f hf, b]; exact ze_nm' (by omega))]; rfl
      · exact (h.n2n (k := 5) (j := f) (fun _ _ => rfl) rfl).2.2
      · intro k j q1 q2 q3; rw [gi_si, if_neg q3, gi_si, if_neg q2, gi_si, if_neg q1, gi_sr, gi_si, if_neg q3]
      · intro f' hf'
        simp (disch := omega) only [reduceIte, Nat.reduceEqDiff, Nat.reduceAdd, gi_si, gi_sr, gr_si, gr_sr, gN_si, gN_sr, ky_e, ky_l, ky_r, kw_e, kw_1, kw_2, kw_l, kw_r, ite_self, if_true, if_false]
        by_cases e : f' = f
        · rw [if_pos e, if_pos ((u5 f' hf').mpr e)]
        · rw [if_neg e, if_neg (fun q => e ((u5 f' hf').mp q))]
      · intro f' hf'
        simp (disch := omega) only [reduceIte, Nat.reduceEqDiff, Nat.reduceAdd, gi_si, gi_sr, gr_si, gr_sr, gN_si, gN_sr, ky_e, ky_l, ky_r, kw_e, kw_1, kw_2, kw_l, kw_r, ite_self, if_true, if_false]
        by_cases e : f' = f
        · rw [if_pos e, if_pos ((u5 f' hf').mpr e)]
        · rw [if_neg e, if_neg (fun q => e ((u5 f' hf').mp q))]
      · intro k j q1 q2 q3; rw [gi_si, if_neg q3, gi_si, if_neg q1]
      · intro f' hf'
        rw [gi_si, if_neg (by decide), gi_si, if_pos rfl]
        by_cases e : f' = f
        · rw [if_pos e, if_pos ((u5 f' hf').mpr e)]
        · rw [if_neg e, if_neg (fun q => e ((u5 f' hf').mp q))]
      · intro f hf; rw [if_neg (by rw [o9 f hf, b]; exact ze_nm' (by omega))]; rfl
      · intro n hn; rfl
    · rw [b2, if_neg (by rw [show (0 : Int32) = nI 0 from rfl, nI_ltI (by omega) (by omega)]; omega), if_neg (by rw [le24 (by omega)]; omega), if_neg (ze_nm (by omega)), ze_ck (ze_inb (by omega) (by omega)), ze_ck (ze_inb (by omega) (by omega)), ze_c (by omega), ze_ld, ze_ld, ze_ck (show okc (sr (si (si (sr (si σ (ky d) 3 (-1)) 5 f none) 6 f (-1)) 7 f 0) 9 i none) (ky d) = true from hok), ze_bnd, ze_ld, ze_ck (ze_inb i200 (by omega)), ze_c (by omega), ze_ld]
      refine ⟨_, _, _, rfl, rfl, h.gone hL hp hno rfl ?_ ?_ ?_ ?_ ?_ ?_ ?_ ?_ ?_ ?_ ?_, fun _ => rfl, fun _ => rfl⟩
      · intro k j q1 q2; rw [gr_si, gr_sr, if_neg q2, gr_si, gr_si, gr_sr, if_neg q1]; rfl
      · intro f' hf'
        rw [gr_si, gr_sr, if_neg (by decide), gr_si, gr_si, gr_sr, if_pos rfl]
        by_cases e : f' = f
        · rw [if_pos e, if_pos ((u5 f' hf').mpr e)]
        · rw [if_neg e, if_neg (fun q => e ((u5 f' hf').mp q))]; rfl
      · intro f hf
        rw [gr_si, gr_sr, if_pos rfl]
        by_cases e : f = i
        · rw [if_pos e, if_pos (by rw [e]; exact b3)]
        · rw [if_neg e, if_neg (by rw [o9 f hf, b2, nI_eq (by omega) (by omega)]; omega)]; rfl
      · intro k j q hq
        rw [gr_si, gr_sr] at hq
        split at hq
        · split at hq
          · cases hq
          · exact (h.n2n (k := 5) (j := f) (σ' := si (si (sr (si σ (ky d) 3 (-1)) 5 f none) 6 f (-1)) 7 f 0) (fun _ _ => rfl) rfl).2.2 _ _ _ hq
        · exact (h.n2n (k := 5) (j := f) (σ' := si (si (sr (si σ (ky d) 3 (-1)) 5 f none) 6 f (-1)) 7 f 0) (fun _ _ => rfl) rfl).2.2 _ _ _ hq
      · intro k j q1 q2 q3; rw [gi_si, if_neg q3, gi_sr, gi_si, if_neg q2, gi_si, if_neg q1, gi_sr, gi_si, if_neg q3]
      · intro f' hf'
        simp (disch := omega) only [reduceIte, Nat.reduceEqDiff, Nat.reduceAdd, gi_si, gi_sr, gr_si, gr_sr, gN_si, gN_sr, ky_e, ky_l, ky_r, kw_e, kw_1, kw_2, kw_l, kw_r, ite_self, if_true, if_false]
        by_cases e : f' = f
        · rw [if_pos e, if_pos ((u5 f' hf').mpr e)]
        · rw [if_neg e, if_neg (fun q => e ((u5 f' hf').mp q))]
      · intro f' hf'
        simp (disch := omega) only [reduceIte, Nat.reduceEqDiff, Nat.reduceAdd, gi_si, gi_sr, gr_si, gr_sr, gN_si, gN_sr, ky_e, ky_l, ky_r, kw_e, kw_1, kw_2, kw_l, kw_r, ite_self, if_true, if_false]
        by_cases e : f' = f
        · rw [if_pos e, if_pos ((u5 f' hf').mpr e)]
        · rw [if_neg e, if_neg (fun q => e ((u5 f' hf').mp q))]
      · intro k j q1 q2 q3; rw [gi_si, if_neg q3, gi_si, if_neg q2, gi_si, if_neg q1]
      · intro f' hf'
        rw [gi_si, if_neg (by decide), gi_si, if_neg (by decide), gi_si, if_pos rfl]
        by_cases e : f' = f
        · rw [if_pos e, if_pos ((u5 f' hf').mpr e)]
        · rw [if_neg e, if_neg (fun q => e ((u5 f' hf').mp q))]
      · intro f hf
        rw [gi_si, if_neg (by decide), gi_si, if_pos rfl]
        by_cases e : f = i
        · rw [if_pos e, if_pos (by rw [e]; exact b3)]
        · rw [if_neg e, if_neg (by rw [o9 f hf, b2, nI_eq (by omega) (by omega)]; omega)]; rfl
      · intro n hn; rfl
theorem r_clear (h : Rel ι F hd P G z L X0 E σ μ) (hz : ∀ i, G ≤ i → z i = 0) {p g d : Nat} (hp : p < 10) (hg : g < 16) (ho : gr σ 1 (16 * p + g) = some (ky d)) :
    ∃ b σ' μ' L', (b = 0 ∨ b = 1) ∧ fX3_dropReference (nI (16 * p + g)) σ = some (b, σ') ∧ fX4_clear (nI p) (nI g) μ = some (b, μ') ∧ Rel ι F hd P G z L' X0 E σ' μ' ∧ (∀ j, gi μ' 0 j = gi μ 0 j) ∧ ∀ j, gi μ' 8 j = gi μ 8 j := by
  obtain ⟨hL, h1⟩ := h.drop (k := 16 * p + g) (d := d) (by omega) ho
  have hm : gi μ 10 (16 * p + g) = nI (ι d) := by
    rcases h.pg (16 * p + g) (by omega) with ⟨a, _⟩ | ⟨d', a, b1, b2, _⟩
    · rw [a] at ho; cases ho
    · rw [a, ky_ij] at ho
      rw [← ho]; exact b2
  have ea : fX3_dropReference (nI (16 * p + g)) σ = (fun σ18 => (if (gi σ18 (ky d) 1) = 0 then (if (gi σ18 (ky d) 6) ≤ 0 then (if (gi σ18 (ky d) 3) = (-1) then fX3_dropReference_65 (ky d) σ18 else bnd (fX1_vacate ((gi σ18 (ky d) 3)) σ18) (fun r23 σ24 => fX3_dropReference_65 (ky d) σ24)) else fX3_dropReference_44 σ18) else fX3_dropReference_44 σ18)) (si (sr σ 1 (16 * p + g) none) (ky d) 6 (gi σ (ky d) 6 - 1)) := by
    unfold fX3_dropReference
    rw [ze_ck (ze_inb (by omega) (by omega)), ze_c (by omega), ze_ld, ho, ze_ocs, ze_ck (ze_inb (by omega) (by omega)), ze_ld, ze_ck (show okc (sr σ 1 (16 * p + g) none) (ky d) = true from h.ok hL), ze_ld]
    rfl
  have eb : ∀ b μ', (b = 0 ∨ b = 1) → fX4_vanishes (nI (ι d)) (si μ 9 (16 * p + g) 0) = some (b, μ') → fX4_clear (nI p) (nI g) μ = some (b, μ') := by
    intro b μ' hb e
    unfold fX4_clear fX4_at
    rw [ze_bnd, m16b, ze_ck (ze_inb (by omega) (by omega)), ze_c (by omega), ze_ld, ze_bnd, ze_ck (ze_inb (by omega) (by omega)), ze_c (by omega), show gi (si μ 9 (16 * p + g) 0) 10 (16 * p + g) = nI (ι d) from hm, e, ze_bnd, ze_ck (show isB b = true from decide_eq_true hb)]
  rw [ea]
  have hsg : ∀ k, gr (si (sr σ 1 (16 * p + g) none) (ky d) 6 (gi σ (ky d) 6 - 1)) 3 k = gr σ 3 k := fun k => rfl
  have hsh : gi (si (sr σ 1 (16 * p + g) none) (ky d) 6 (gi σ (ky d) 6 - 1)) (ky d) 1 = gi σ (ky d) 1 := by simp (disch := omega) only [reduceIte, Nat.reduceEqDiff, Nat.reduceAdd, gi_si, gi_sr, gr_si, gr_sr, gN_si, gN_sr, ky_e, ky_l, ky_r, kw_e, kw_1, kw_2, kw_l, kw_r, ite_self, if_true, if_false]
  generalize (si (sr σ 1 (16 * p + g) none) (ky d) 6 (gi σ (ky d) 6 - 1)) = σ1 at h1 hsg hsh ⊢
  have hm0 : ∀ j, gi (si μ 9 (16 * p + g) 0) 0 j = gi μ 0 j := fun j => rfl
  have hm8 : ∀ j, gi (si μ 9 (16 * p + g) 0) 8 j = gi μ 8 j := fun j => rfl
  generalize (si μ 9 (16 * p + g) 0) = μ1 at h1 eb hm0 hm8
  dsimp only
  rcases h1.sd d hL with ⟨s1, s2⟩ | ⟨s1, s2⟩
  · rw [if_pos s1]
    have l := cntN_le (P := fun k => gr σ1 1 k == some (ky d)) 160 0
    have c := h1.cn d hL
    by_cases e : cntN (fun k => gr σ1 1 k == some (ky d)) 0 160 = 0
    · rw [e] at c
      obtain ⟨σ', μ', L', e1, e2, e3, e4, e5⟩ := r_vanish h1 hL s1 c hz
      rw [if_pos (by rw [c]; decide), e1]
      exact ⟨1, σ', μ', L', Or.inr rfl, rfl, eb _ _ (Or.inr rfl) e2, e3, fun j => (e4 j).trans (hm0 j), fun j => (e5 j).trans (hm8 j)⟩
    · rw [if_neg (by rw [c, show (0 : Int32) = nI 0 from rfl, nI_leI (by omega) (by omega)]; omega)]
      have hx : ∃ k, k < 160 ∧ gr σ1 1 k = some (ky d) := by
        apply Classical.byContradiction
        intro hc
        refine e (cntN_0 160 0 (fun i _ hi => ?_))
        cases hq : (gr σ1 1 i == some (ky d)) with
        | false => rfl
        | true => exact absurd ⟨i, by omega, by simpa using hq⟩ hc
      have h2 := h1.unx (X' := X0) (fun d' hL' hX => by
        rcases hX with hX | hX
        · exact absurd hX id
        · subst hX
          exact Or.inr ⟨Or.inl hx, fun q => absurd (s1.symm.trans q) (by decide)⟩)
      refine ⟨0, σ1, μ1, L, Or.inl rfl, rfl, eb _ _ (Or.inl rfl) ?_, h2, hm0, hm8⟩
      unfold fX4_vanishes
      rw [r_refs h1 hL, ze_bnd, if_pos (by rw [c, show (0 : Int32) = nI 0 from rfl, nI_ltI (by omega) (by omega)]; omega)]
      rfl
  · rw [if_neg (by rw [s1]; decide)]
    have h2 := h1.unx (X' := X0) (fun d' hL' hX => by
      rcases hX with hX | hX
      · exact absurd hX id
      · subst hX
        refine Or.inr ⟨Or.inr s1, fun _ => ?_⟩
        rcases h.sd d' hL with ⟨a, b⟩ | ⟨a, b | ⟨k, b1, b2⟩⟩
        · rw [← hsh, s1] at a
          exact absurd a (by decide)
        · exact absurd b id
        · exact ⟨k, b1, by rw [hsg]; exact b2⟩)
    refine ⟨0, σ1, μ1, L, Or.inl rfl, rfl, eb _ _ (Or.inl rfl) ?_, h2, hm0, hm8⟩
    have c := h2.cn d hL
    have l := cntN_le (P := fun k => gr σ1 1 k == some (ky d)) 160 0
    unfold fX4_vanishes
    rw [r_refs h2 hL, ze_bnd]
    by_cases e : 0 < gi σ1 (ky d) 6
    · rw [if_pos e]; rfl
    · rw [if_neg e]
      obtain ⟨q1, q2⟩ := r_seg h2 hz hL (Or.inr id)
      obtain ⟨k, k1, k2, _⟩ := q2 (by rw [s1]; decide)
      unfold fX4_isInSegment
      rw [q1, ze_bnd, if_neg (c := gi σ1 (ky d) 1 = 0) (by rw [s1]; decide), k2, if_neg (ze_nm (by omega))]
      rfl
theorem op_unmap (a1 a2 : Int32) : opZ RRl [pw_ioX, pw_neX, pw_iaX] (fX3_unmap a1 a2) (fX4_unmap a1 a2) := by
  refine op_z ?_
  intro σ μ h
  have h0 := h
  obtain ⟨ι, F, hd, P, G, z, L, h, hz⟩ := h
  have p10 := h.pp
  rcases g_page h a1 a2 with ⟨p, g, h1, h2, h3, h4, h5, h6, h7⟩ | ⟨h5, h6⟩
  · have e : fX4_unmap a1 a2 μ = (if gi μ 8 p = 0 then fX4_unmap_51 a1 a2 2 μ else if gi μ 9 (16 * p + g) = 0 then fX4_unmap_51 a1 a2 3 μ else fX4_unmap_51 a1 a2 0 μ) := by
      unfold fX4_unmap fX4_at
      rw [h6, ze_bnd, if_neg (by decide), h7, ze_bnd, if_neg (by decide), h3, h4, ze_ck (ze_inb (by omega) (by omega)), ze_c (by omega), ze_bnd, m16b, ze_ck (ze_inb (by omega) (by omega)), ze_c (by omega)]
    rcases g_live h (p := p) (by omega) with ⟨l1, l2, _⟩ | ⟨l1, l2, _⟩
    · rw [l2, if_neg (by decide)] at e
      rcases h.pg (16 * p + g) (by omega) with ⟨a, b⟩ | ⟨d, a, b1, b2, b3, b4⟩
      · refine op_no (Er := pw_iaX) (by decide) (h0.thr 3) ?_ (bb := 0) ?_ rfl
        · unfold fX3_unmap fX3_requireMapped fX3_placeOf
          rw [h5, ze_bnx, h3, l1, ze_bnx, ze_bnd, h4, m16a, ze_ck (ze_inb (by omega) (by omega)), ze_c (by omega), ze_ld, a]; rfl
        · rw [e, if_pos b]; rfl
      · obtain ⟨bb, σ', μ', L', q1, q2, q3, q4, q5, q6⟩ := r_clear (h.thr 0) hz (p := p) (g := g) (by omega) h2 a
        refine op_yes (bb := bb) ⟨ι, F, hd, P, G, z, L', q4, hz⟩ ?_ ?_ (q5 0)
        · unfold fX3_unmap fX3_requireMapped fX3_placeOf
          rw [h5, ze_bnx, h3, l1, ze_bnx, ze_bnd, h4, m16a, ze_ck (ze_inb (by omega) (by omega)), ze_c (by omega), ze_ld, a, ze_ocs, ze_bnx, ze_bnd, q2, ze_bnd, ze_ck (show isB bb = true from decide_eq_true q1)]
        · rw [e, if_neg (by rw [b3]; split <;> decide)]
          unfold fX4_unmap_51
          rw [ze_ld, if_pos (show gi (si μ 0 0 0) 0 0 = 0 from rfl), h3, h4, q3, ze_bnd]
          rcases q1 with q1 | q1 <;> rw [q1] <;> rfl
    · refine op_no (Er := pw_neX) (by decide) (h0.thr 2) ?_ (bb := 0) ?_ rfl
      · unfold fX3_unmap; rw [h5, ze_bnx, h3, l1]; rfl
      · rw [e, if_pos l2]; rfl
  · refine op_no (Er := pw_ioX) (by decide) (h0.thr 1) ?_ (bb := 0) ?_ rfl
    · unfold fX3_unmap; rw [h5]; rfl
    · unfold fX4_unmap
      rcases h6 with h6 | ⟨h6, h7⟩
      · rw [h6]; rfl
      · rw [h6, ze_bnd, if_neg (by decide), h7]; rfl
theorem op_exit (a1 : Int32) : opI RRl [pw_ioX, pw_neX] (fX3_exit a1) (fX4_exit a1) := by
  intro σ μ h
  have h0 := h
  obtain ⟨ι, F, hd, P, G, z, L, h, hz⟩ := h
  have p10 := h.pp
  rcases g_proc h a1 with ⟨p, h1, h2, h3, h4⟩ | ⟨h3, h4⟩
  · rcases g_live h (p := p) (by omega) with ⟨l1, l2, _⟩ | ⟨l1, l2, _⟩
    · have := loop_lock (fun n s j => fX3_exit_14 n (nI p) s.1 (nI j) s.2) (fun n s j => fX4_exit_50 n (nI p) s.1 (nI j) s.2) 16 (fun j (s s' : Int32 × pw_S) => s.1 = s'.1 ∧ (∃ L, Rel ι F hd P G z L X0 (fun i => X0 i ∨ i = p) s.2 s'.2) ∧ gi s'.2 0 0 = 0 ∧ gi s'.2 8 p = 0) (fun x y => x.1 = .inl y.1 ∧ RRl x.2 y.2 ∧ gi y.2 0 0 = 0) ?_ ?_ 16 0 (0, σ) (0, si (si μ 0 0 0) 8 p 0) 1000 1000 (by omega) (by omega) (by omega) ⟨rfl, ⟨L, (h.thr 0).liveB p 0⟩, rfl, by simp (disch := omega) only [reduceIte, Nat.reduceEqDiff, Nat.reduceAdd, gi_si, gi_sr, gr_si, gr_sr, gN_si, gN_sr, ky_e, ky_l, ky_r, kw_e, kw_1, kw_2, kw_l, kw_r, ite_self, if_true, if_false]⟩
      · obtain ⟨⟨x1, x2⟩, ⟨y1, y2⟩, q1, q2, q3, q4, q5⟩ := this
        dsimp only at q1 q2 q3 q4 q5
        subst q3
        refine op_yes (bb := y1) q4 ?_ ?_ q5
        · unfold fX3_exit
          rw [h3, ze_bnx, h2, l1, ze_bnx]
          exact q1
        · unfold fX4_exit fX4_exit_27
          rw [h4, ze_bnd, if_neg (by decide), h2, ze_ck (ze_inb (by omega) (by omega)), ze_c (by omega), l2, if_neg (by decide), ze_ld, if_pos (show gi (si μ 0 0 0) 0 0 ≤ 0 from (by decide : (0 : Int32) ≤ 0)), ze_ck (ze_inb (by omega) (by omega)), ze_ld]
          exact q2
      · intro j ⟨v, s⟩ ⟨v', s'⟩ hj ⟨i0, ⟨L, i1⟩, i2, i3⟩
        dsimp only at i0 i1 i2 i3
        subst i0
        refine Or.inr ?_
        rcases i1.pg (16 * p + j) (by omega) with ⟨a, b⟩ | ⟨d, a, b1, b2, b3, b4⟩
        · refine ⟨(v, s), (v, s'), fun n => ?_, fun n => ?_, rfl, ⟨L, i1⟩, i2, i3⟩
          · show fX3_exit_14_b (fX3_exit_14 n) (nI p) v (nI j) s = _
            unfold fX3_exit_14_b fX3_placeOf fX3_exit_35 fX3_dropReference
            rw [if_neg (by rw [le16] <;> omega), ze_bnd, m16a, ze_ck (ze_inb (by omega) (by omega)), ze_c (by omega), ze_ld, a, ze_ocn, ze_bnd, if_pos rfl, nI_1]
          · show fX4_exit_50_b (fX4_exit_50 n) (nI p) v (nI j) s' = _
            unfold fX4_exit_50_b fX4_at fX4_exit_83 fX4_exit_84
            rw [if_neg (by rw [le16] <;> omega), ze_bnd, m16b, ze_ck (ze_inb (by omega) (by omega)), ze_c (by omega), b, if_pos (by decide), nI_1, Int32.add_zero]
        · obtain ⟨bb, σ', μ', L', q1, q2, q3, q4, q5, q6⟩ := r_clear i1 hz (p := p) (g := j) (by omega) hj a
          have ea : ∀ n, fX3_exit_14 (n + 1) (nI p) v (nI j) s = (if bb = 0 then fX3_exit_14 n (nI p) v (nI (j + 1)) σ' else fX3_exit_14 n (nI p) (v + 1) (nI (j + 1)) σ') := by
            intro n
            show fX3_exit_14_b (fX3_exit_14 n) (nI p) v (nI j) s = _
            unfold fX3_exit_14_b fX3_placeOf fX3_exit_35
            rw [if_neg (by rw [le16] <;> omega), ze_bnd, m16a, q2, ze_bnd, nI_1]
          have eb : ∀ n, fX4_exit_50 (n + 1) (nI p) v (nI j) s' = (if bb = 0 then fX4_exit_50 n (nI p) v (nI (j + 1)) μ' else fX4_exit_50 n (nI p) (v + 1) (nI (j + 1)) μ') := by
            intro n
            show fX4_exit_50_b (fX4_exit_50 n) (nI p) v (nI j) s' = _
            unfold fX4_exit_50_b fX4_at fX4_exit_83 fX4_exit_84
            rw [if_neg (by rw [le16] <;> omega), ze_bnd, m16b, ze_ck (ze_inb (by omega) (by omega)), ze_c (by omega), b3, if_neg (by split <;> decide), q3, ze_bnd, nI_1, Int32.add_zero]
          by_cases e : bb = 0
          · refine ⟨(v, σ'), (v, μ'), fun n => ?_, fun n => ?_, rfl, ⟨L', q4⟩, (q5 0).trans i2, (q6 p).trans i3⟩
            · exact (ea n).trans (if_pos e)
            · exact (eb n).trans (if_pos e)
          · refine ⟨(v + 1, σ'), (v + 1, μ'), fun n => ?_, fun n => ?_, rfl, ⟨L', q4⟩, (q5 0).trans i2, (q6 p).trans i3⟩
            · exact (ea n).trans (if_neg e)
            · exact (eb n).trans (if_neg e)
      · intro ⟨v, s⟩ ⟨v', s'⟩ ⟨i0, ⟨L, i1⟩, i2, i3⟩
        dsimp only at i0 i1 i2 i3
        subst i0
        refine ⟨(.inl v, si s 2 p 0), (v, s'), fun n => ?_, fun n => ?_, rfl, ⟨ι, F, hd, P, G, z, L, i1.liveA (Or.inl rfl) i3, hz⟩, i2⟩
        · show fX3_exit_14_b (fX3_exit_14 n) (nI p) v (nI 16) s = _
          unfold fX3_exit_14_b
          rw [if_pos (by rw [le16] <;> omega), ze_ck (ze_inb (by omega) (by omega)), ze_c (by omega), ze_ld]
        · show fX4_exit_50_b (fX4_exit_50 n) (nI p) v (nI 16) s' = _
          unfold fX4_exit_50_b
          rw [if_pos (by rw [le16] <;> omega)]
    · refine op_no (Er := pw_neX) (by decide) (h0.thr 2) ?_ (bb := 0) ?_ rfl
      · unfold fX3_exit
        rw [h3, ze_bnx, h2, l1, ze_bnr]
      · unfold fX4_exit fX4_exit_27
        rw [h4, ze_bnd, if_neg (by decide), h2, ze_ck (ze_inb (by omega) (by omega)), ze_c (by omega), if_pos l2]
        rfl
  · refine op_no (Er := pw_ioX) (by decide) (h0.thr 1) ?_ (bb := 0) ?_ rfl
    · unfold fX3_exit; rw [h3]; rfl
    · unfold fX4_exit; rw [h4]; rfl
end OPS
