/-! A CLUSTER is gathered alike -/
theorem ze_div {a b : Nat} (ha : a < 2 ^ 31) (hb : b < 2 ^ 31) : nI a / nI b = nI (a / b) := by
  have hq : a / b < 2 ^ 31 := Nat.lt_of_le_of_lt (Nat.div_le_self a b) ha
  have e : (a : Int).tdiv (b : Int) = ((a / b : Nat) : Int) := by
    rw [Int.ofNat_tdiv]
  rw [← Int32.toInt_inj, Int32.toInt_div, nI_toInt ha, nI_toInt hb, nI_toInt hq, e]
  generalize a / b = q at hq ⊢
  rw [Int.bmod_eq_of_le] <;> omega
theorem ze_sub {a b : Nat} (h : b ≤ a) : nI a - nI b = nI (a - b) := by
  rw [show nI a = nI (a - b) + nI b by rw [nI_add]; congr 1; omega, Int32.add_sub_cancel]
theorem ze_mod {a b : Nat} (ha : a < 2 ^ 31) (hb : b < 2 ^ 31) : nI a - nI a / nI b * nI b = nI (a % b) := by
  have h1 := Nat.div_mul_le_self a b
  have h2 := Nat.div_add_mod a b
  have h3 := Nat.mul_comm b (a / b)
  rw [ze_div ha hb, ze_mul, ze_sub h1]
  congr 1
  omega
theorem fold_and0 {st : Int32 → Nat → Int32} (h : ∀ j, st 0 j = 0) : ∀ m j, foldN st 0 j m = 0 := by
  intro m
  induction m with
  | zero => intro j; rfl
  | succ m ih =>
    intro j
    show foldN st (st 0 j) (j + 1) m = 0
    rw [h j]
    exact ih _
theorem fold_and1 {st : Int32 → Nat → Int32} : ∀ m j, (∀ i, j ≤ i → i < j + m → st 1 i = 1) → foldN st 1 j m = 1 := by
  intro m
  induction m with
  | zero => intro j h; rfl
  | succ m ih =>
    intro j h
    show foldN st (st 1 j) (j + 1) m = 1
    rw [h j (by omega) (by omega)]
    exact ih _ (fun i h1 h2 => h i (by omega) (by omega))
theorem q_inner {bk : Int32 → Int32 → Int32 → Int32 → Int32 → pw_S → Option (Int32 × pw_S)} {x2 x3 v y0 : Int32} {k : Nat} {μ : pw_S} (hk : k < 4) :
    fX4_findCluster_127 bk x2 x3 (nI k) (nI k) v y0 μ = (fun s : Int32 => if s = 0 then bk x2 x3 (nI k) s (nI (k + 1)) μ else bk x2 x3 (nI (k + 1)) s (nI (k + 1)) (si μ 14 k v)) (foldN (fun s j => s &&& (if gi μ 14 j = v then 0 else 1)) y0 0 k) := by
  refine loop_fold (fun n s j => fX4_findCluster_132 bk n x2 x3 (nI k) s (nI k) v (nI j) μ) k (fun s j => s &&& (if gi μ 14 j = v then 0 else 1)) (fun s : Int32 => if s = 0 then bk x2 x3 (nI k) s (nI (k + 1)) μ else bk x2 x3 (nI (k + 1)) s (nI (k + 1)) (si μ 14 k v)) ?_ ?_ k 0 1000 y0 (by omega) (by omega)
  · intro n s j hj
    show fX4_findCluster_132_b bk (fX4_findCluster_132 bk n) x2 x3 (nI k) s (nI k) v (nI j) μ = _
    unfold fX4_findCluster_132_b fX4_findCluster_158
    rw [if_neg (by rw [nI_leI] <;> omega), ze_ck (ze_inb (by omega) (by omega)), ze_c (by omega), nI_1]
    by_cases e : gi μ 14 j = v
    · rw [if_pos e, if_pos e]
    · rw [if_neg e, if_neg e]
  · intro n s
    show fX4_findCluster_132_b bk (fX4_findCluster_132 bk n) x2 x3 (nI k) s (nI k) v (nI k) μ = _
    unfold fX4_findCluster_132_b fX4_findCluster_187
    rw [if_pos (by rw [nI_leI] <;> omega), ze_ck (ze_inb (by omega) (by omega)), ze_c (by omega), ze_ld, nI_1]
theorem inner0 {bk : Int32 → Int32 → Int32 → Int32 → Int32 → pw_S → Option (Int32 × pw_S)} {x2 x3 v : Int32} {k : Nat} {μ : pw_S} (hk : k < 4) : fX4_findCluster_126 bk x2 x3 (nI k) (nI k) v μ = bk x2 x3 (nI k) 0 (nI (k + 1)) μ := by
  unfold fX4_findCluster_126
  rw [q_inner hk, fold_and0]
  · exact if_pos rfl
  · intro j
    exact Int32.zero_and
section CL
variable {ι : Nat → Nat} {F hd P G : Nat} {z : Nat → Nat} {L X E : Nat → Prop} {σ μ : pw_S}
def CluI (ι : Nat → Nat) (L : Nat → Prop) (T w pl k : Nat) (sh : Int32) (σ μ s s' : pw_S) : Prop := (∀ a b, a ≠ 10 → gr s a b = gr σ a b) ∧ (∀ a b, gi s a b = gi σ a b) ∧ gN s = gN σ ∧ (∀ a b, a ≠ 14 → gi s' a b = gi μ a b) ∧ ∀ j, j < k → ∃ x, L x ∧ gi σ (ky x) 5 = 1 ∧ gr s 10 j = some (ky x) ∧ gi s' 14 j = nI (ι x) ∧ gr σ T (pl + j) = some (ky x) ∧ pl % w + j < w ∧ gi σ (ky x) 1 = sh
theorem clu_loop {T w pl lenT d : Nat} {x3 : Int32} (hL : L d) (hT : kar T = true) (hlen : (shP T).2.2.1 = lenT) (hT10 : T ≠ 10) (hw : 0 < w) (h160 : lenT ≤ 160) (he : (pl / w + 1) * w ≤ lenT)
    (Hd : ∀ i j x, gr σ T (pl + i) = some (ky x) → gr σ T (pl + j) = some (ky x) → pl % w + i < w → pl % w + j < w → gi σ (ky x) 1 = gi σ (ky d) 1 → i = j)
    (Hn : ∀ k s', 1 ≤ k → k < 4 → (∀ a b, a ≠ 14 → gi s' a b = gi μ a b) → ∃ v, (if x3 = -1 then fX4_nextInSegment (nI pl) (nI k) s' else fX4_nextOfProcess (nI pl) (nI k) s') = some (v, s') ∧ ((v = -1 ∧ (w ≤ pl % w + k ∨ gr σ T (pl + k) = none ∨ ∃ x, gr σ T (pl + k) = some (ky x) ∧ L x ∧ gi σ (ky x) 1 ≠ gi σ (ky d) 1)) ∨ ∃ x, pl % w + k < w ∧ gr σ T (pl + k) = some (ky x) ∧ L x ∧ gi σ (ky x) 1 = gi σ (ky d) 1 ∧ v = nI (ι x))) :
    ∀ m k n n' s s', k + m = 4 → 1 ≤ k → m < n → m + 1 < n' → Rel ι F hd P G z L X E s s' → CluI ι L T w pl k (gi σ (ky d) 1) σ μ s s' →
      ∃ k' s1 s1', 1 ≤ k' ∧ k' ≤ 4 ∧ fX3_gatherCluster_64 n (ky d) T (nI ((pl / w + 1) * w)) (nI k) (nI (pl + k)) s = some (nI k', s1) ∧ fX4_findCluster_62 n' (nI pl) x3 (nI k) 1 (nI k) s' = some (nI k', s1') ∧ Rel ι F hd P G z L X E s1 s1' ∧ CluI ι L T w pl k' (gi σ (ky d) 1) σ μ s1 s1' := by
  have hpw := Nat.div_add_mod pl w
  have hcm := Nat.mul_comm w (pl / w)
  have hexp : (pl / w + 1) * w = pl / w * w + w := Nat.succ_mul _ _
  have hlt : pl % w < w := Nat.mod_lt _ hw
  intro m
  induction m with
  | zero =>
    intro k n n' s s' e h1 hn hn' hR hI
    obtain ⟨n, rfl⟩ : ∃ q, n = q + 1 := ⟨n - 1, by omega⟩
    obtain ⟨n', rfl⟩ : ∃ q, n' = q + 1 := ⟨n' - 1, by omega⟩
    obtain rfl : k = 4 := by omega
    refine ⟨4, s, s', by omega, by omega, ?_, ?_, hR, hI⟩
    · show fX3_gatherCluster_64_b (fX3_gatherCluster_64 n) (ky d) T (nI ((pl / w + 1) * w)) (nI 4) (nI (pl + 4)) s = _
      unfold fX3_gatherCluster_64_b fX3_gatherCluster_136
      by_cases c1 : (pl / w + 1) * w ≤ pl + 4
      · rw [if_pos (by rw [nI_leI] <;> omega)]
      · rw [if_neg (by rw [nI_leI] <;> omega), ze_ck hT, hlen]
        rw [if_neg (by rw [nI_leI] <;> omega), ze_ck hT, ze_ck (ze_inb (by omega) (by omega)), ze_ld, if_pos (show nI 4 = 4 from rfl)]
    · show fX4_findCluster_62_b (fX4_findCluster_62 n') (nI pl) x3 (nI 4) 1 (nI 4) s' = _
      unfold fX4_findCluster_62_b
      rw [if_pos (by rw [le4] <;> omega)]
      rfl
  | succ m ih =>
    intro k n n' s s' e h1 hn hn' hR hI
    obtain ⟨n, rfl⟩ : ∃ q, n = q + 1 := ⟨n - 1, by omega⟩
    obtain ⟨n', rfl⟩ : ∃ q, n' = q + 2 := ⟨n' - 2, by omega⟩
    obtain ⟨I1, I2, I3, I4, I5⟩ := hI
    obtain ⟨v, v1, v2⟩ := Hn k s' h1 (by omega) I4
    have okd := hR.ok hL
    have eb : fX4_findCluster_62 (n' + 2) (nI pl) x3 (nI k) 1 (nI k) s' = fX4_findCluster_95 (fX4_findCluster_62 (n' + 1)) (nI pl) x3 (nI k) (nI k) v s' := by
      show fX4_findCluster_62_b (fX4_findCluster_62 (n' + 1)) (nI pl) x3 (nI k) 1 (nI k) s' = _
      unfold fX4_findCluster_62_b
      rw [if_neg (by rw [le4] <;> omega), if_neg (by decide)]
      by_cases c : x3 = -1
      · rw [if_pos c] at v1
        rw [if_pos c, v1, ze_bnd]
      · rw [if_neg c] at v1
        rw [if_neg c, v1, ze_bnd]
    have stop : fX4_findCluster_126 (fX4_findCluster_62 (n' + 1)) (nI pl) x3 (nI k) (nI k) v s' = some (nI k, s') := by
      rw [inner0 (by omega)]
      show fX4_findCluster_62_b (fX4_findCluster_62 n') (nI pl) x3 (nI k) 0 (nI (k + 1)) s' = _
      unfold fX4_findCluster_62_b fX4_findCluster_193
      split
      · rfl
      · rfl
    have ea : fX3_gatherCluster_64 (n + 1) (ky d) T (nI ((pl / w + 1) * w)) (nI k) (nI (pl + k)) s = (if w ≤ pl % w + k then some (nI k, s) else oc (gr σ T (pl + k)) (some (nI k, s)) (fun q19 => ck (okc s q19) ((if (gi s q19 1) = (gi s (ky d) 1) then (if (gi s q19 5) = 0 then some (nI k, s) else fX3_gatherCluster_64 n (ky d) T (nI ((pl / w + 1) * w)) (nI (k + 1)) (nI (pl + k + 1)) (sr s 10 k (some q19))) else some (nI k, s))))) := by
      show fX3_gatherCluster_64_b (fX3_gatherCluster_64 n) (ky d) T (nI ((pl / w + 1) * w)) (nI k) (nI (pl + k)) s = _
      unfold fX3_gatherCluster_64_b fX3_gatherCluster_136
      by_cases c1 : w ≤ pl % w + k
      · rw [if_pos c1, if_pos (by rw [nI_leI] <;> omega)]
      · rw [if_neg c1, if_neg (by rw [nI_leI] <;> omega), ze_ck hT, hlen]
        rw [if_neg (by rw [nI_leI] <;> omega), ze_ck hT, ze_ck (ze_inb (by omega) (by omega)), ze_ld, if_neg (by rw [show (4 : Int32) = nI 4 from rfl, nI_eq] <;> omega), ze_c (by omega), I1 T _ hT10]
        cases gr σ T (pl + k) with
        | none => rfl
        | some q =>
          rw [ze_ocs, ze_ocs, ze_ck okd, ze_ck (ze_inb (by omega) (by omega)), ze_ld, ze_c (by omega), nI_1, nI_1]
    rw [ea, eb]
    unfold fX4_findCluster_95
    rcases v2 with ⟨v2, v3⟩ | ⟨x, y1, y2, y3, y4, y5⟩
    · rw [if_pos v2]
      refine ⟨k, s, s', h1, by omega, ?_, stop, hR, I1, I2, I3, I4, I5⟩
      rcases v3 with v3 | v3 | ⟨x, y1, y2, y3⟩
      · rw [if_pos v3]
      · rw [v3]; split <;> rfl
      · rw [y1, ze_ocs, ze_ck (hR.ok y2), I2, I2, if_neg y3]
        split <;> rfl
    · rw [y5, if_neg (hR.im y3), r_fw hR y3, ze_bnd, r_dirty hR y3, ze_bnd, if_neg (by omega), y2, ze_ocs, ze_ck (hR.ok y3), I2, I2, if_pos y4]
      rw [y5] at stop
      rcases hR.di x y3 with ⟨d1, d2, d3, d4⟩ | ⟨d1, _⟩
      · rw [if_neg d4, d1, if_neg (by decide), if_neg (by decide), q_inner (by omega), fold_and1]
        · dsimp only
          rw [if_neg (by decide)]
          have := ih (k + 1) n (n' + 1) (sr s 10 k (some (ky x))) (si s' 14 k (nI (ι x))) (by omega) (by omega) (by omega) (by omega) ((hR.cluA k y3).cluB k _) ?_
          · exact this
          · refine ⟨fun a b q => ?_, fun a b => I2 a b, I3, fun a b q => ?_, fun j hj => ?_⟩
            · rw [gr_sr, if_neg q]; exact I1 a b q
            · rw [gi_si, if_neg q]; exact I4 a b q
            · by_cases e2 : j = k
              · subst e2
                refine ⟨x, y3, by rw [← I2]; exact d1, ?_, ?_, y2, y1, y4⟩
                · rw [gr_sr, if_pos rfl, if_pos rfl]
                · rw [gi_si, if_pos rfl, if_pos rfl]
              · obtain ⟨x', w1, w2, w3, w4, w5⟩ := I5 j (by omega)
                refine ⟨x', w1, w2, ?_, ?_, w5⟩
                · rw [gr_sr, if_pos rfl, if_neg e2]; exact w3
                · rw [gi_si, if_pos rfl, if_neg e2]; exact w4
        · intro j _ hj
          obtain ⟨x', w1, w2, w3, w4, w5, w6, w7⟩ := I5 j (by omega)
          rw [w4, if_neg]
          · decide
          · rw [hR.ie w1 y3]
            intro q
            subst q
            have := Hd j k x' w5 y2 w6 y1 y4
            omega
      · refine ⟨k, s, s', h1, by omega, ?_, ?_, hR, I1, I2, I3, I4, I5⟩
        · rw [d1, if_pos rfl]
        · rw [d1, if_pos rfl, stop]
          split <;> rfl
end CL
