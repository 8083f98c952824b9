/-! ===== the wave goes by ===== -/
theorem depT_cases {k j : Nat} (h : depT k j = true) : (k = 0 ∧ (j = 1 ∨ j = 5)) ∨ (k = 15 ∧ j = 1) ∨ (k = 57 ∧ (j = 2 ∨ j = 8 ∨ j = 18)) ∨ ((k = 7 ∨ k = 26) ∧ j < 9) ∨ k = 16 ∨ k = 58 ∨ (8 ≤ k ∧ k ≤ 12) ∨ (27 ≤ k ∧ k ≤ 31) ∨ k = 62 ∨ k = 64 := by
  unfold depT at h
  split at h
  all_goals first | (have := of_decide_eq_true h; omega) | (have h2 := List.contains_iff_mem.mp h; have h3 : j = 2 ∨ j = 8 ∨ j = 18 := by simpa using h2; omega) | (simp at h; omega) | omega | cases h
/-- what a wave's going by may change -/
def FgC (J : Nat) (σ σ' : SG) : Prop := ∀ c j, ¬ (c = 19 ∧ ((6 ≤ j ∧ j ≤ 8) ∨ j = 13)) → ¬ (35 ≤ c ∧ c ≤ 38) → ¬ (39 ≤ c ∧ c ≤ 48) → ¬ (c = J ∧ 9 ≤ j) → c ≠ J + 6 → c ≠ J + 7 → σ' c j = σ c j
def FgR (ρ ρ' : SG) : Prop := ∀ c j, ¬ (66 ≤ c ∧ c ≤ 67) → ¬ (70 ≤ c ∧ c ≤ 72) → ¬ (76 ≤ c ∧ c ≤ 80) → ¬ (c = 57 ∧ (j = 23 ∨ j = 27 ∨ (30 ≤ j ∧ j ≤ 34) ∨ j = 36)) → ρ' c j = ρ c j
theorem goBy_ok {σ ρ : SG} {S J m q : Nat} (R : Rl σ ρ S J m q) (I : IJud σ ρ J) (ht : σ 19 13 ≠ -1) : ∃ σ' ρ', X1_goBy 1000 σ = some σ' ∧ X12_goesBy 1000 ρ = some ρ' ∧ Rl σ' ρ' S J m q ∧ σ' 19 13 = -1 ∧ FgC J σ σ' ∧ FgR ρ ρ' := by
  obtain ⟨w, L, hw, hwq, D, F, H⟩ := R.hd ht
  obtain ⟨hS, hJ, hU, hUJ, -, -, hC⟩ := R.use
  obtain ⟨⟨n1, n2, r1, r2, -⟩, n5, n6, -⟩ := R.num
  have hon : ∀ s, s < m → σ (39 + 2 * s) 7 = 0 ∨ σ (39 + 2 * s) 7 = 1 := fun s hs => (D.2.2.2.2.2.2.2 s hs).2.1
  obtain ⟨ρ1, k1, k2, k3⟩ := whom_ok (n := 1000) D H (by decide)
  have aρ : Ag ρ ρ1 := fun a j d => by
    rw [k3 a (fun q0 => by subst q0; exact absurd (show false = true from d) (by decide))]
  obtain ⟨σ1, hσ1⟩ : ∃ x, x = up (up (up (up σ 37 (4 * w) (msk (fun s => σ (39 + 2 * s) 7) m)) 37 (4 * w + 1) (-1)) 37 (4 * w + 2) (-1)) 37 (4 * w + 3) 0 := ⟨_, rfl⟩
  have f1 : ∀ c, c ≠ 37 → σ1 c = σ c := fun c hc => by rw [hσ1]; simp (disch := omega) only [up_rw]
  have f37 : ∀ j, ¬ (4 * w ≤ j ∧ j ≤ 4 * w + 3) → σ1 37 j = σ 37 j := fun j hj => by rw [hσ1]; simp (disch := omega) only [up_ne]
  have v37 : σ1 37 (4 * w) = msk (fun s => σ (39 + 2 * s) 7) m ∧ σ1 37 (4 * w + 1) = -1 ∧ σ1 37 (4 * w + 2) = -1 ∧ σ1 37 (4 * w + 3) = 0 := by
    rw [hσ1]
    refine ⟨?_, ?_, ?_, ?_⟩ <;> simp (disch := omega) only [up_eq, up_ne]
  have R1 : Rl σ1 ρ1 S J m q := by
    have R0 := R.ag Ag.rf aρ
    refine R0.upd (fun c j h1 h2 h3 h4 h5 => by rw [f1 c (by omega)]) (fun c j h => rfl) (R0.heat.cg (f1 _ (by omega)) (fun j _ => by rw [f1 19 (by decide)]) (fun j _ _ _ _ _ _ => rfl)) (R0.row.cg (f1 35 (by decide)) (f1 36 (by decide)) rfl rfl rfl (fun t ht => ?_)) (R0.seen.cg (by rw [f1 19 (by decide)]) (f1 38 (by decide)) rfl rfl) (fun t ht => (R0.sw ht).cg (f1 _ (by omega)) (by rw [f1 19 (by decide)]) (by rw [f1 19 (by decide)]) (f1 _ (by omega)) (fun _ _ _ _ _ => rfl)) (fun t ht => (R0.rid ht).cg (by rw [f1 _ (by omega)]) (by rw [f1 _ (by omega)]) (by rw [f1 _ (by omega)]) (f1 _ (by omega)) (by rw [f1 19 (by decide)]) (by rw [f1 19 (by decide)]) rfl) ?_ ?_
    · unfold awy
      rw [f1 _ (by omega)]
      exact ⟨Iff.rfl, rfl⟩
    · rw [R0.bits]
      exact msk_cg (fun s hs => by rw [f1 _ (by omega)])
    · intro v hv1 hv2
      rw [f1 19 (by decide)] at hv1 hv2
      rw [f37 (4 * v) (by omega), f37 (4 * v + 1) (by omega), f37 (4 * v + 2) (by omega), f37 (4 * v + 3) (by omega), R0.gone v hv1 hv2]
      exact tkA_cg (fun s hs => ⟨(f1 _ (by omega)).symm, by rw [f1 _ (by omega)]⟩)
  have e3 : (fun s : Nat => σ1 (39 + 2 * s) 3) = fun s => σ (39 + 2 * s) 3 := funext fun s => by rw [f1 _ (by omega)]
  have e7 : (fun s : Nat => σ1 (39 + 2 * s) 7) = fun s => σ (39 + 2 * s) 7 := funext fun s => by rw [f1 _ (by omega)]
  have e12 : (fun s : Nat => σ1 (39 + 2 * s) 12) = fun s => σ (39 + 2 * s) 12 := funext fun s => by rw [f1 _ (by omega)]
  have e13 : (fun s : Nat => σ1 (39 + 2 * s) 13) = fun s => σ (39 + 2 * s) 13 := funext fun s => by rw [f1 _ (by omega)]
  have D1 : HD m w (σ 35 2) (σ (S + 5) (5 * w + 1)) L (fun s => σ1 (39 + 2 * s) 3) (fun s => σ1 (39 + 2 * s) 7) (fun s => σ1 (39 + 2 * s) 12) (fun s => σ1 (39 + 2 * s) 13) := by
    rw [e3, e7, e12, e13]
    exact D
  have F1 : HF σ1 S m w (σ 35 2) (σ (S + 5) (5 * w + 1)) L (fun s => σ1 (39 + 2 * s) 3) (fun s => σ1 (39 + 2 * s) 7) (fun s => σ1 (39 + 2 * s) 12) (fun s => σ1 (39 + 2 * s) 13) := by
    rw [e3, e7, e12, e13]
    exact F.cg (fun c j h => by rw [f1 c (by omega)]) (fun s hs j hj => by rw [f1 _ (by omega)])
  have h80 : ∀ s, s < m → ρ1 80 s = hv m (σ 35 2) (σ (S + 5) (5 * w + 1)) L (fun s => σ1 (39 + 2 * s) 3) (fun s => σ1 (39 + 2 * s) 7) (fun s => σ1 (39 + 2 * s) 12) (fun s => σ1 (39 + 2 * s) 13) s := by
    rw [e3, e7, e12, e13]
    exact k2
  have I1 : IJud σ1 ρ1 J := I.ag hJ (fun a j d => by
    have := depJ_cases d
    rw [f1 a (by omega)]) aρ.J
  obtain ⟨σ2, ρ2, u1, u2, G⟩ := judged_ok R1 I1 (by rw [f1 19 (by decide)]; exact hw) D1 F1 h80 v37.2
  have hA : ∀ Q : SG → Prop, wp (X1_goBy_e49 1000 (msk (fun s => σ (39 + 2 * s) 7) m) σ2) Q → wp (X1_goBy 1000 σ) Q := fun Q hQ => by
    have hbo : X1_bitsOf 1000 1 σ = some (msk (fun s => σ (39 + 2 * s) 7) m) := bitsOf_ok (a := 1) (Or.inr rfl) hS hU n1 n5 (fun s hs => (hC s hs).1) hon (by decide)
    unfold X1_goBy
    rw [hw]
    refine wp_lt (wp_bind (wp_of hbo (wp_rdI (4 * w) (by omega) (by omega) (by decide) (wp_lt (wp_rdI (4 * w + 1) (by omega) (by omega) (by decide) (wp_lt (wp_rdI (4 * w + 2) (by omega) (by omega) (by decide) (wp_lt (wp_rdI (4 * w + 3) (by omega) (by omega) (by decide) (wp_lt ?_))))))))))
    rw [← hσ1]
    exact wp_bind (wp_of u1 hQ)
  have hB : ∀ Q : SG → Prop, wp (X12_goesBy_e29 1000 ρ2) Q → wp (X12_goesBy 1000 ρ) Q := fun Q hQ => by
    unfold X12_goesBy
    refine wp_bind (wp_of k1 ?_)
    unfold X12_goesBy_e2
    exact wp_bind (wp_of u2 hQ)
  have G' := G
  obtain ⟨g1, g2, g3, g4, g5, g6, g7, g8, g9, g10, g11, g12⟩ := G'
  have hon1 : ∀ s, s < m → σ1 (39 + 2 * s) 7 = 0 ∨ σ1 (39 + 2 * s) 7 = 1 := fun s hs => by rw [f1 _ (by omega)]; exact hon s hs
  have hw1 : σ1 19 13 = (w : Int) := by rw [f1 19 (by decide)]; exact hw
  have h12 : σ2 19 12 ≤ 20 := by
    rw [g1 19 12 (by omega) (by omega) (by omega) (by omega) (by omega) (by omega) (by omega)]
    have := R1.heat.2.2.1
    omega
  have hhi : ∀ s, s < m → 0 ≤ σ2 (39 + 2 * s) 9 ∧ σ2 (39 + 2 * s) 9 ≤ 20 ∧ ρ2 71 s = σ2 (39 + 2 * s) 9 := fun s hs => by
    obtain ⟨-, ⟨x1, x2, x3⟩, ⟨x4, x5, x6⟩, -⟩ := g11 s hs
    exact ⟨x2, by omega, x1⟩
  obtain ⟨σ3, y1, y2, y3⟩ := leaveWave_ok (σ := σ2) (S := S) (m := m) (mn := σ1 19 9) (on := fun s => σ1 (39 + 2 * s) 7) (hi := fun s => σ2 (39 + 2 * s) 9) (sp := fun s => σ1 (39 + 2 * s) 5) (ln := fun s => σ1 (39 + 2 * s) 13) hS (by rw [g1 19 0 (by omega) (by omega) (by omega) (by omega) (by omega) (by omega) (by omega), f1 19 (by decide)]; exact hU) (by rw [g1 S 5 (by omega) (by omega) (by omega) (by omega) (by omega) (by omega) (by omega), f1 S (by omega)]; exact n1) n5 (fun s hs => by rw [g1 34 s (by omega) (by omega) (by omega) (by omega) (by omega) (by omega) (by omega), f1 34 (by decide)]; exact (hC s hs).1) (g1 19 9 (by omega) (by omega) (by omega) (by omega) (by omega) (by omega) (by omega)) (fun s hs => by
      obtain ⟨s1, -, s3, s4⟩ := R1.sp hs
      refine ⟨hon1 s hs, g2 s hs 7 (by omega) (by omega) (by omega) (by omega), ⟨rfl, (hhi s hs).1, (hhi s hs).2.1⟩, ⟨g2 s hs 5 (by omega) (by omega) (by omega) (by omega), by omega, by omega⟩, fun o => ⟨g2 s hs 13 (by omega) (by omega) (by omega) (by omega), ?_⟩⟩
      have := (R1.sw hs).2.2.2.2.2.2.1 o
      omega)
  have b3 : ∀ c j, ¬ (39 ≤ c ∧ c ≤ 48) → c ≠ 37 → c ≠ 38 → ¬ (c = 19 ∧ 6 ≤ j ∧ j ≤ 8) → ¬ (c = J ∧ 9 ≤ j) → c ≠ J + 6 → c ≠ J + 7 → σ3 c j = σ c j := fun c j i1 i2 i3 i4 i5 i6 i7 => by
    rw [y2 c j (by omega), g1 c j (by omega) i2 i3 i4 i5 i6 i7, f1 c i2]
  have b6 : ∀ s, s < m → σ3 (39 + 2 * s) 6 = σ (39 + 2 * s) 6 ∧ σ3 (39 + 2 * s) 9 = σ2 (39 + 2 * s) 9 := fun s hs => ⟨by rw [y2 _ 6 (by omega), g2 s hs 6 (by omega) (by omega) (by omega) (by omega), f1 _ (by omega)], y2 _ 9 (by omega)⟩
  have c3 : ∀ c j, ¬ (66 ≤ c ∧ c ≤ 67) → ¬ (70 ≤ c ∧ c ≤ 72) → ¬ (77 ≤ c ∧ c ≤ 80) → ¬ (c = 57 ∧ (j = 23 ∨ (31 ≤ j ∧ j ≤ 33))) → ρ2 c j = ρ c j := fun c j i1 i2 i3 i4 => by
    rw [g3 c j (by omega) (by omega) (by omega) (by omega) (by omega) (by omega) (by omega) (by omega), k3 c (by omega)]
  have a78 : ∀ s, s < m → σ3 (39 + 2 * s) 7 = 0 ∧ σ3 (39 + 2 * s) 8 = if σ1 (39 + 2 * s) 7 = 0 then σ2 (39 + 2 * s) 8 else if σ2 (39 + 2 * s) 9 < 2 then σ1 19 9 + 1 + mnt (σ1 (39 + 2 * s) 5) (σ1 (39 + 2 * s) 13) else -1 := y3
  have h30 : ρ2 57 30 = msk (fun s => σ (39 + 2 * s) 7) m := (c3 57 30 (by omega) (by omega) (by omega) (by omega)).trans R.bits
  have h36 : ρ2 57 36 = σ 35 2 := (c3 57 36 (by omega) (by omega) (by omega) (by omega)).trans R.row.2.1
  have h34 : ρ2 57 34 = σ 35 1 := (c3 57 34 (by omega) (by omega) (by omega) (by omega)).trans R.row.1
  have h76 : ρ2 76 = ρ 76 := funext fun j => c3 76 j (by omega) (by omega) (by omega) (by omega)
  have v371 : σ1 37 (4 * w) = msk (fun s => σ1 (39 + 2 * s) 7) m := by rw [e7]; exact v37.1
  by_cases cz : msk (fun s => σ (39 + 2 * s) 7) m = 0
  · have hno := (msk_0 hon).mp cz
    refine ⟨up σ3 19 13 (-1), up (up ρ2 57 30 0) 57 27 (-1), of_wp (hA _ ?_), of_wp (hB _ ?_), goBy_fin (σ' := up σ3 19 13 (-1)) (ρ' := up (up ρ2 57 30 0) 57 27 (-1)) R1 hw1 G v371 (fun c j i1 i2 i3 i4 => by rw [up_ne (by omega)]; exact y2 c j i1) (fun c j i1 i2 => by rw [up_ne (by omega), up_ne (by omega)]) (fun s hs => by rw [up_ne (by omega), up_ne (by omega)]; exact a78 s hs) ?_ (up_eq rfl rfl) (up_eq rfl rfl) (by rw [up_ne (by omega), up_eq rfl rfl]), up_eq rfl rfl, fun c j i1 i2 i3 i4 i5 i6 => ?_, fun c j i1 i2 i3 i4 => ?_⟩
    · unfold X1_goBy_e49 X1_goBy_j102
      exact wp_bind (wp_of y1 (wp_bind (wp_ifT (by rw [cz]; rfl) (wp_some (wp_lt (wp_some rfl))))))
    · unfold X12_goesBy_e29 X12_goesBy_j67
      exact wp_bind (wp_ifT (by rw [h30, cz]; rfl) (wp_some (wp_lt (wp_lt (wp_some rfl)))))
    · refine R.row.cg ?_ ?_ ?_ ?_ ?_ (fun s hs => ?_)
      · rw [up_rw (by decide)]
        exact funext fun j => b3 35 j (by omega) (by omega) (by omega) (by omega) (by omega) (by omega) (by omega)
      · rw [up_rw (by decide)]
        exact funext fun j => b3 36 j (by omega) (by omega) (by omega) (by omega) (by omega) (by omega) (by omega)
      · rw [up_rw (by decide), up_rw (by decide)]
        exact h76
      · rw [up_ne (by omega), up_ne (by omega), h34, R.row.1]
      · rw [up_ne (by omega), up_ne (by omega), h36, R.row.2.1]
      · unfold awy
        rw [up_rw (by omega), (a78 s hs).1, (b6 s hs).1, hno s hs]
        exact ⟨Iff.rfl, rfl⟩
    · rw [up_ne (by omega)]
      exact b3 c j (by omega) (by omega) (by omega) (by omega) i4 i5 i6
    · rw [up_ne (by omega), up_ne (by omega)]
      exact c3 c j (by omega) (by omega) (by omega) (by omega)
  · -- somebody took it: behind the row
    have hrest : ∀ (σ4 ρ4 : SG) (L' : List Int), X1_settleRow 1000 (msk (fun s => σ (39 + 2 * s) 7) m) σ3 = some σ4 → σ4 35 2 = 1 → σ4 35 1 = (L'.length : Int) → IsL (σ4 36) L' → (∀ c j, c ≠ 36 → ¬ (c = 35 ∧ (j = 1 ∨ j = 2)) → σ4 c j = σ3 c j) →
        X12_changesRow 1000 ρ2 = some ρ4 → ρ4 57 36 = 1 → ρ4 57 34 = (L'.length : Int) → IsL (ρ4 76) L' → (∀ c j, c ≠ 76 → ¬ (c = 57 ∧ (j = 34 ∨ j = 36)) → ρ4 c j = ρ2 c j) → (∀ x ∈ L', 0 ≤ x ∧ x < (m : Int)) → (∀ s : Nat, s < m → σ (39 + 2 * s) 6 = 1 → (s : Int) ∈ L') → L'.length + ((List.range m).filter (fun s => decide (σ (39 + 2 * s) 6 = 0))).length ≤ m →
        ∃ σ' ρ', X1_goBy 1000 σ = some σ' ∧ X12_goesBy 1000 ρ = some ρ' ∧ Rl σ' ρ' S J m q ∧ σ' 19 13 = -1 ∧ FgC J σ σ' ∧ FgR ρ ρ' := by
      intro σ4 ρ4 L' q1 q2 q3 q4 q5 p1 p2 p3 p4 p5 hx hin hcn
      have awe : (List.range m).filter (awy (up σ4 19 13 (-1))) = (List.range m).filter (fun s => decide (σ (39 + 2 * s) 6 = 0)) := List.filter_congr (fun s hs => by
        have hs := List.mem_range.mp hs
        unfold awy
        rw [up_rw (by omega), q5 _ 6 (by omega) (by omega), q5 _ 7 (by omega) (by omega), (a78 s hs).1, (b6 s hs).1]
        simp)
      refine ⟨up σ4 19 13 (-1), up (up ρ4 57 30 0) 57 27 (-1), of_wp (hA _ ?_), of_wp (hB _ ?_), goBy_fin (σ' := up σ4 19 13 (-1)) (ρ' := up (up ρ4 57 30 0) 57 27 (-1)) R1 hw1 G v371 (fun c j i1 i2 i3 i4 => by rw [up_ne (by omega), q5 c j i2 i3]; exact y2 c j i1) (fun c j i1 i2 => by rw [up_ne (by omega), up_ne (by omega)]; exact p5 c j i1 (by omega)) (fun s hs => by rw [up_ne (by omega), up_ne (by omega), q5 _ 7 (by omega) (by omega), q5 _ 8 (by omega) (by omega)]; exact a78 s hs) ?_ (up_eq rfl rfl) (up_eq rfl rfl) (by rw [up_ne (by omega), up_eq rfl rfl]), up_eq rfl rfl, fun c j i1 i2 i3 i4 i5 i6 => ?_, fun c j i1 i2 i3 i4 => ?_⟩
      · unfold X1_goBy_e49 X1_goBy_j102
        have := msk_32 n5 hon
        exact wp_bind (wp_of y1 (wp_bind (wp_ifF (by rw [w32i (by omega)]; exact cz) (wp_bind (wp_of q1 (wp_some (wp_lt (wp_some rfl))))))))
      · unfold X12_goesBy_e29 X12_goesBy_j67
        have := msk_32 n5 hon
        exact wp_bind (wp_ifF (by rw [h30, w32i (by omega)]; exact cz) (wp_bind (wp_of p1 (wp_some (wp_lt (wp_lt (wp_some rfl)))))))
      · have z1 : up σ4 19 13 (-1) 35 1 = (L'.length : Int) := by rw [up_ne (by omega)]; exact q3
        have z2 : up σ4 19 13 (-1) 35 2 = 1 := by rw [up_ne (by omega)]; exact q2
        have z3 : up (up ρ4 57 30 0) 57 27 (-1) 57 34 = (L'.length : Int) := by rw [up_ne (by omega), up_ne (by omega)]; exact p3
        have z4 : up (up ρ4 57 30 0) 57 27 (-1) 57 36 = 1 := by rw [up_ne (by omega), up_ne (by omega)]; exact p2
        unfold IRow
        rw [z1, z2, z3, z4, awe]
        refine ⟨rfl, rfl, Or.inr rfl, L', rfl, by rw [up_rw (by decide)]; exact q4, by rw [up_rw (by decide), up_rw (by decide)]; exact p4, hx, fun q0 => absurd q0 (by decide), fun _ => ⟨fun s hs h => ?_, hcn⟩⟩
        rw [up_ne (by omega), up_ne (by omega), q5 _ 6 (by omega) (by omega), q5 _ 7 (by omega) (by omega), (a78 s hs).1, (b6 s hs).1] at h
        exact hin s hs (by omega)
      · rw [up_ne (by omega), q5 c j (by omega) (by omega)]
        exact b3 c j (by omega) (by omega) (by omega) (by omega) i4 i5 i6
      · rw [up_ne (by omega), up_ne (by omega), p5 c j (by omega) (by omega)]
        exact c3 c j (by omega) (by omega) (by omega) (by omega)
    have d0 : σ3 19 0 = (S : Int) := (b3 19 0 (by omega) (by omega) (by omega) (by omega) (by omega) (by omega) (by omega)).trans hU
    have d5 : σ3 S 5 = (m : Int) := (b3 S 5 (by omega) (by omega) (by omega) (by omega) (by omega) (by omega) (by omega)).trans n1
    have d34 : ∀ s : Nat, s < 5 → σ3 34 s = ((39 + 2 * s : Nat) : Int) := fun s hs => (b3 34 s (by omega) (by omega) (by omega) (by omega) (by omega) (by omega) (by omega)).trans (hC s hs).1
    have d35 : ∀ j, σ3 35 j = σ 35 j := fun j => b3 35 j (by omega) (by omega) (by omega) (by omega) (by omega) (by omega) (by omega)
    have d36 : σ3 36 = σ 36 := funext fun j => b3 36 j (by omega) (by omega) (by omega) (by omega) (by omega) (by omega) (by omega)
    have d60 : ρ2 60 0 = (m : Int) := (c3 60 0 (by omega) (by omega) (by omega) (by omega)).trans r1
    obtain ⟨w1, w2, w3, L0, w4, w5, w6, w7, w8, w9⟩ := R.row
    have hout : ∀ s : Nat, s < m → σ (39 + 2 * s) 6 = 1 → σ (39 + 2 * s) 7 = 0 ∧ σ2 (39 + 2 * s) 9 < 2 := fun s hs h6 => by
      obtain ⟨-, -, -, -, -, -, o5, o6, -⟩ := R.sw hs
      have o := hon s hs
      have : σ (39 + 2 * s) 7 = 0 := by
        rcases o with o | o
        · exact o
        · have := (o5 o).1
          omega
      refine ⟨this, ?_⟩
      rw [((g11 s hs).2.2.2.1 (by rw [f1 _ (by omega)]; exact this)).1, f1 _ (by omega)]
      exact (o6 h6).2
    rcases w3 with t0 | t1
    · obtain ⟨hL0, hall⟩ := w8 t0
      subst hL0
      obtain ⟨σ4, q1, q2, q3, q4, q5⟩ := settle0_ok (σ := σ3) (n := 1000) (on := fun s => σ (39 + 2 * s) 7) (hi := fun s => σ2 (39 + 2 * s) 9) hS d0 d5 n5 d34 hon (fun s hs => ⟨(b6 s hs).2, (hhi s hs).1, (hhi s hs).2.1⟩) ((d35 2).trans t0) ((d35 1).trans w4) (by decide)
      obtain ⟨ρ4, p1, p2, p3, p4, p5⟩ := changes0_ok (ρ := ρ2) (n := 1000) (on := fun s => σ (39 + 2 * s) 7) (hi := fun s => σ2 (39 + 2 * s) 9) d60 n5 hon h30 (fun s hs => ⟨(hhi s hs).2.2, (hhi s hs).1, (hhi s hs).2.1⟩) (h36.trans t0) (by decide)
      refine hrest σ4 ρ4 _ q1 q2 q3 q4 q5 p1 p2 p3 p4 p5 (fun x hx => ?_) (fun s hs h6 => lf_mem.mpr ⟨s, hs, rfl, hout s hs h6⟩) ?_
      · obtain ⟨s, hs, rfl, -⟩ := lf_mem.mp hx
        omega
      · rw [lf_len]
        refine filt_sum (fun s hs => ?_)
        rintro ⟨a1, a2⟩
        have a1 := of_decide_eq_true a1
        have a2 := of_decide_eq_true a2
        rcases hall s hs with h | h
        · omega
        · have := a1.1
          omega
    · obtain ⟨hin, hcn⟩ := w9 t1
      have hlen : L0.length ≤ 5 := by omega
      obtain ⟨σ4, q1, q2, q3, q4, q5⟩ := settle1_ok (σ := σ3) (n := 1000) (on := fun s => σ (39 + 2 * s) 7) (L := L0) hS d0 d5 n5 hon ((d35 2).trans t1) ((d35 1).trans w4) (by rw [d36]; exact w5) hlen w7 (by decide)
      obtain ⟨ρ4, p1, p2, p3, p4, p5⟩ := changes1_ok (ρ := ρ2) (n := 1000) (on := fun s => σ (39 + 2 * s) 7) (L := L0) n5 hon h30 (h36.trans t1) (h34.trans w4) (by rw [h76]; exact w6) hlen w7 (by decide)
      refine hrest σ4 ρ4 _ q1 q2 q3 q4 q5 p1 p2 p3 p4 p5 (fun x hx => w7 x (List.mem_filter.mp hx).1) (fun s hs h6 => List.mem_filter.mpr ⟨hin s hs (Or.inl h6), ?_⟩) ?_
      · have := (hout s hs h6).1
        exact decide_eq_true (fun q0 => absurd ((show σ (39 + 2 * s) 7 = 1 from q0.2.2).symm.trans this) (by decide))
      · have h1 := filt_all (L := L0) (on := fun s => σ (39 + 2 * s) 7) (k := m) (fun s hs h => hin s hs (Or.inr h))
        have h2 := filt_split (p := awy σ) (q := fun s => decide (σ (39 + 2 * s) 7 = 1)) (r := fun s => decide (σ (39 + 2 * s) 6 = 0)) (m := m) (fun s hs => by
          unfold awy
          obtain ⟨-, -, -, -, -, ⟨-, o2, -⟩, o5, -⟩ := R.sw hs
          rcases hon s hs with o | o
          · simp [o]
          · have := (o5 o).1
            simp [o, this])
        have h3 : (lw (fun s => σ (39 + 2 * s) 7) L0 m).length + ((List.range m).filter (fun s => decide (σ (39 + 2 * s) 7 = 1))).length ≤ L0.length := h1
        omega
