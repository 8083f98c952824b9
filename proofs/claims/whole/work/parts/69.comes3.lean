/-! ===== a wave comes: its loops ===== -/
def FrO (σ σ' : SG) : Prop := ∀ c j, ¬ (35 ≤ c ∧ c ≤ 36) → ¬ (39 ≤ c ∧ c ≤ 47 ∧ c % 2 = 1) → σ' c j = σ c j
def FrOR (ρ ρ' : SG) : Prop := ∀ c j, ¬ (c = 69 ∨ c = 70 ∨ c = 76 ∨ c = 78) → ¬ (c = 57 ∧ j = 34) → ρ' c j = ρ c j
theorem back_ok {σ ρ : SG} {S J m q : Nat} (R : Rl σ ρ S J m q) : ∃ σ' ρ', iter 1000 (fun z : Int × SG => X1_passTo_l53 1000 z.1 z.2) (0, σ) = some σ' ∧ X12_comeBack 1000 ρ = some ρ' ∧ Rl σ' ρ' S J m q ∧ FrO σ σ' ∧ FrOR ρ ρ' := by
  have n5 := R.num.2.1
  obtain ⟨b, b', y1, y2, y3, y4, y5⟩ := wp_loop2 (f := fun z : Int × SG => X1_passTo_l53 1000 z.1 z.2) (g := fun z : SG => X12_comeBack_l0 1000 z) (n := 1000) (n' := 1000) (a := (0, σ)) (a' := ρ)
    (Q := fun b b' => Rl b b' S J m q ∧ FrO σ b ∧ FrOR ρ b') (fun k z z' => z.1 = (k : Int) ∧ Rl z.2 z' S J m q ∧ FrO σ z.2 ∧ FrOR ρ z' ∧ k + ((List.range m).filter (fun t => decide (z.2 (39 + 2 * t) 8 ≠ -1))).length ≤ m) m (by
      rintro k ⟨z1, σ1⟩ ρ1 hk ⟨e1, e2, e3, e4, e5⟩
      obtain rfl : z1 = (k : Int) := e1
      have e2 : Rl σ1 ρ1 S J m q := e2
      have e3 : FrO σ σ1 := e3
      have e5 : k + ((List.range m).filter (fun t => decide (σ1 (39 + 2 * t) 8 ≠ -1))).length ≤ m := e5
      obtain ⟨hS, -, hU, -, -, -, hC⟩ := e2.use
      obtain ⟨⟨n1, -⟩, -⟩ := e2.num
      have hA := earliest_ok (n := 1000) e2 (by decide)
      have hB := firstR_ok (n := 1000) e2 (by decide)
      have hb := erl_b (bk := fun s => σ1 (39 + 2 * s) 8) (mn := σ1 19 9) (k := m)
      generalize erl (fun s => σ1 (39 + 2 * s) 8) (σ1 19 9) m = e at *
      dsimp only
      unfold X1_passTo_l53 X12_comeBack_l0
      rcases hb with ⟨rfl, -⟩ | ⟨t, rfl, ht, hb1, hb2⟩
      · have hr : wp ((iter 1000 (fun z : Int × Int => X12_comeBack_l4 1000 ρ1 z.1 z.2) (-1, 0)).bind (fun s => X12_comeBack_e4 1000 ρ1 s)) (fun z => z = .inr ρ1) := by
          refine wp_bind (wp_of hB ?_)
          unfold X12_comeBack_e4
          exact wp_ifT (by decide) (wp_some rfl)
        by_cases hkm : k = m
        · refine wp_ckI S hU (isSea_S hS) (wp_ifT (by rw [n1, hkm]; exact Int.le_refl _) (wp_some (wp_mono hr ?_)))
          rintro _ rfl
          exact Or.inr ⟨_, _, rfl, rfl, e2, e3, e4⟩
        · refine wp_ckI S hU (isSea_S hS) (wp_ifF (by rw [n1, w32i (by omega), w32i (by omega)]; omega) (wp_bind (wp_of hA (wp_ifT (by decide) (wp_some (wp_mono hr ?_))))))
          rintro _ rfl
          exact Or.inr ⟨_, _, rfl, rfl, e2, e3, e4⟩
      · have hb1 : σ1 (39 + 2 * t) 8 ≠ -1 := hb1
        have hpos := filt_pos (p := fun t => decide (σ1 (39 + 2 * t) 8 ≠ -1)) ht (decide_eq_true hb1)
        have hkm : k < m := by omega
        obtain ⟨σ2, ρ2, o1, o2, o3, o4, o5, o6, o7⟩ := e2.out ht hb1 1000 1000
        have hcnt := filt_lt (p := fun t => decide (σ1 (39 + 2 * t) 8 ≠ -1)) (q := fun t => decide (σ2 (39 + 2 * t) 8 ≠ -1)) ht (decide_eq_true hb1) (by simp [o6]) (fun u hu hut => by rw [o4 (39 + 2 * u) 8 (by omega) (by omega)])
        refine wp_ckI S hU (isSea_S hS) (wp_ifF (by rw [n1, w32i (by omega), w32i (by omega)]; omega) (wp_bind (wp_of hA (wp_ifF (by rw [w32i (by omega)]; omega) (wp_rdn (by omega) (by omega) (wp_ckI (39 + 2 * t) (hC t (by omega)).1 (isSw_s (by omega)) (wp_bind (wp_of o1 (wp_lt (wp_some (wp_bind (wp_of hB ?_))))))))))))
        refine wp_mono o2 ?_
        rintro _ rfl
        refine Or.inl ⟨_, _, rfl, rfl, hkm, by simp only []; omega, o3, fun c j h1 h2 => (o4 c j h1 (by omega)).trans (e3 c j h1 h2), fun c j h1 h2 => (o7 c j h1 h2).trans (e4 c j h1 h2), ?_⟩
        dsimp only
        omega) ⟨rfl, R, fun _ _ _ _ => rfl, fun _ _ _ _ => rfl, by
          have := List.length_filter_le (fun t => decide (σ (39 + 2 * t) 8 ≠ -1)) (List.range m)
          rw [List.length_range] at this
          dsimp only
          omega⟩ (by omega) (by omega)
  refine ⟨b, b', y1, of_wp ?_, y3, y4, y5⟩
  unfold X12_comeBack X12_comeBack_e0
  exact wp_bind (wp_of y2 (wp_some rfl))
def FrS3 (σ σ' : SG) : Prop := ∀ c j, ¬ (39 ≤ c ∧ c ≤ 47 ∧ c % 2 = 1 ∧ j = 3) → σ' c j = σ c j
def FrR68 (ρ ρ' : SG) : Prop := ∀ c j, c ≠ 68 → ρ' c j = ρ c j
theorem swims_ok {σ ρ : SG} {S J m q : Nat} {M : Int} (R : Rl σ ρ S J m q) (hM : σ 19 9 ≤ M ∧ M ≤ 99) : ∃ σ' ρ', iter 1000 (fun z : Int × SG => X1_passTo_l2 1000 M z.1 z.2) (0, σ) = some σ' ∧ X12_swims 1000 (M - σ 19 9) ρ = some ρ' ∧ Rl σ' ρ' S J m q ∧ FrS3 σ σ' ∧ FrR68 ρ ρ' := by
  have n5 := R.num.2.1
  have x9 := R.heat.1
  obtain ⟨b, b', y1, y2, y3, y4, y5⟩ := wp_loop2 (f := fun z : Int × SG => X1_passTo_l2 1000 M z.1 z.2) (g := fun z : Int × SG => X12_swims_l2 1000 (M - σ 19 9) z.1 z.2) (n := 1000) (n' := 1000) (a := (0, σ)) (a' := (0, ρ))
    (Q := fun b b' => Rl b b' S J m q ∧ FrS3 σ b ∧ FrR68 ρ b') (fun k z z' => z.1 = (k : Int) ∧ z'.1 = (k : Int) ∧ Rl z.2 z'.2 S J m q ∧ FrS3 σ z.2 ∧ FrR68 ρ z'.2) m (by
      rintro k ⟨z1, σ1⟩ ⟨z1', ρ1⟩ hk ⟨e1, e1', e2, e3, e4⟩
      obtain rfl : z1 = (k : Int) := e1
      obtain rfl : z1' = (k : Int) := e1'
      have e2 : Rl σ1 ρ1 S J m q := e2
      have e3 : FrS3 σ σ1 := e3
      have e4 : FrR68 ρ ρ1 := e4
      obtain ⟨hS, -, hU, -, -, -, hC⟩ := e2.use
      obtain ⟨⟨n1, -, r1, -⟩, -⟩ := e2.num
      dsimp only
      unfold X1_passTo_l2 X1_passTo_j40 X12_swims_l2 X12_swims_j62
      by_cases hkm : k = m
      · exact wp_ckI S hU (isSea_S hS) (wp_ifT (by rw [n1, hkm]; exact Int.le_refl _) (wp_some (wp_bind (wp_surfers (wp_ifT (by rw [r1, hkm]; exact Int.le_refl _) (wp_some (Or.inr ⟨_, _, rfl, rfl, e2, e3, e4⟩)))))))
      · have hk' : k < m := by omega
        have hC1 := (hC k (by omega)).1
        obtain ⟨⟨p1, p2, p3⟩, ⟨g1, g2, g3⟩, -, -, -, ⟨o1, o2, -, o4⟩, -⟩ := e2.sw hk'
        obtain ⟨z1, z2, z3, z4⟩ := e2.sp hk'
        have e9 : σ1 19 9 = σ 19 9 := e3 19 9 (by omega)
        have hpr : 0 ≤ σ1 (S + 4) k * (M - σ 19 9) ∧ σ1 (S + 4) k * (M - σ 19 9) ≤ 9 * 99 := ⟨Int.mul_nonneg (by omega) (by omega), Int.mul_le_mul (by omega) (by omega) (by omega) (by omega)⟩
        rcases o2 with o2 | o2
        · refine wp_ckI S hU (isSea_S hS) (wp_ifF (by rw [n1, w32i (by omega), w32i (by omega)]; omega) (wp_rdn (by omega) (by omega) (wp_ckI (39 + 2 * k) hC1 (isSw_s (by omega)) (wp_bind (wp_ifT (by rw [o2]; rfl) (wp_some (wp_lt (wp_some ?_))))))))
          refine wp_bind (wp_surfers (wp_ifF (by rw [r1, w32i (by omega), w32i (by omega)]; omega) (wp_rdI (39 + k) (by omega) (by omega) (by decide) (wp_lt (wp_rdn (by omega) (by omega) (wp_bind (wp_ifT (by rw [o1, o2]; rfl) (wp_some (wp_lt (wp_some ?_))))))))))
          exact Or.inl ⟨_, _, rfl, rfl, hk', by simp only []; omega, by simp only []; omega, e2, e3, e4⟩
        · have hsw : wp (X9_swimFor 1000 (39 + 2 * k) (M - σ1 19 9) σ1) (fun r => r = up σ1 (39 + 2 * k) 3 (σ1 (39 + 2 * k) 3 + max (-(σ1 (S + 4) k * (M - σ 19 9))) (min (σ1 (S + 4) k * (M - σ 19 9)) (σ1 (39 + 2 * k) 4 - σ1 (39 + 2 * k) 3)))) := by
            unfold X9_swimFor
            rw [e9, z1]
            generalize σ1 (S + 4) k * (M - σ 19 9) = t at *
            rw [ab32_m (by omega), mn32_m (by omega)]
            by_cases c : σ1 (39 + 2 * k) 3 ≤ σ1 (39 + 2 * k) 4
            · refine wp_lt (wp_ifT (by rw [w32i (by omega), w32i (by omega)]; exact c) (wp_lt (wp_some ?_)))
              congr 2
              omega
            · refine wp_lt (wp_ifF (by rw [w32i (by omega), w32i (by omega)]; exact c) (wp_lt (wp_some ?_)))
              congr 2
              omega
          have hR2 := e2.place (p := σ1 (39 + 2 * k) 3 + max (-(σ1 (S + 4) k * (M - σ 19 9))) (min (σ1 (S + 4) k * (M - σ 19 9)) (σ1 (39 + 2 * k) 4 - σ1 (39 + 2 * k) 3))) hk' (by
            generalize σ1 (S + 4) k * (M - σ 19 9) = t at *
            omega)
          refine wp_ckI S hU (isSea_S hS) (wp_ifF (by rw [n1, w32i (by omega), w32i (by omega)]; omega) (wp_rdn (by omega) (by omega) (wp_ckI (39 + 2 * k) hC1 (isSw_s (by omega)) (wp_bind (wp_ifF (by rw [o2]; decide) (wp_rdn (by omega) (by omega) (wp_ckI (39 + 2 * k) hC1 (isSw_s (by omega)) (wp_bind (wp_mono hsw ?_)))))))))
          rintro _ rfl
          refine wp_some (wp_lt (wp_some ?_))
          refine wp_bind (wp_surfers (wp_ifF (by rw [r1, w32i (by omega), w32i (by omega)]; omega) (wp_rdI (39 + k) (by omega) (by omega) (by decide) (wp_lt (wp_rdn (by omega) (by omega) (wp_bind (wp_ifF (by rw [o1, o2]; decide) (wp_rdn (by omega) (by omega) (wp_rdn (by omega) (by omega) (wp_rdn (by omega) (by omega) (wp_rdn (by omega) (by omega) (wp_lt (wp_some (wp_lt (wp_some ?_)))))))))))))))
          have ev : ρ1 68 k + mx32 (-((M - σ 19 9) * ρ1 60 (39 + k))) (mn32 ((M - σ 19 9) * ρ1 60 (39 + k)) (ρ1 69 k - ρ1 68 k)) = σ1 (39 + 2 * k) 3 + max (-(σ1 (S + 4) k * (M - σ 19 9))) (min (σ1 (S + 4) k * (M - σ 19 9)) (σ1 (39 + 2 * k) 4 - σ1 (39 + 2 * k) 3)) := by
            rw [p1, g1, z2, Int.mul_comm (M - σ 19 9)]
            generalize σ1 (S + 4) k * (M - σ 19 9) = t at *
            rw [mn32_m (by omega), mx32_m (by omega)]
          rw [ev]
          exact Or.inl ⟨_, _, rfl, rfl, hk', by simp only []; omega, by simp only []; omega, hR2, fun c j h => by dsimp only; rw [up_ne (by omega)]; exact e3 c j h, fun c j h => by dsimp only; rw [up_ne (by omega)]; exact e4 c j h⟩) ⟨rfl, rfl, R, fun _ _ _ => rfl, fun _ _ _ => rfl⟩ (by omega) (by omega)
  refine ⟨b, b', y1, of_wp ?_, y3, y4, y5⟩
  unfold X12_swims X12_swims_e2
  exact wp_bind (wp_of y2 (wp_some rfl))
def FrA (σ σ' : SG) : Prop := ∀ c j, ¬ (c = 19 ∧ (j = 10 ∨ j = 11)) → σ' c j = σ c j
def FrAR (ρ ρ' : SG) : Prop := ∀ c j, ¬ (c = 57 ∧ (j = 26 ∨ j = 29)) → ρ' c j = ρ c j
theorem again_ok {σ ρ : SG} {S J m q : Nat} {M : Int} (R : Rl σ ρ S J m q) (hM : 0 ≤ M ∧ M ≤ 99) : ∃ σ' ρ', X1_beginAgain 1000 M σ = some σ' ∧ iter 1000 (fun z : SG => X12_comes_l67 1000 M z) ρ = some ρ' ∧ Rl σ' ρ' S J m q ∧ FrA σ σ' ∧ FrAR ρ ρ' := by
  obtain ⟨hS, -, hU, -⟩ := R.use
  obtain ⟨⟨n1, n2, r1, r2, r3, n3, n4, n7, n8⟩, n5, n6, -⟩ := R.num
  obtain ⟨-, ⟨x1, x2, x3⟩, -, -, -, ⟨y1, y2⟩, -⟩ := R.heat
  have stay : ∀ P : Prop, (∀ σ' ρ', X1_beginAgain 1000 M σ = some σ' → iter 1000 (fun z : SG => X12_comes_l67 1000 M z) ρ = some ρ' → Rl σ' ρ' S J m q → FrA σ σ' → FrAR ρ ρ' → P) → (X1_beginAgain 1000 M σ = some σ → X12_comes_l67 1000 M ρ = some (.inr ρ) → P) := fun P h h1 h2 => h σ ρ h1 (by
    show (X12_comes_l67 1000 M ρ).bind _ = _
    rw [h2]
    rfl) R (fun _ _ _ => rfl) (fun _ _ _ => rfl)
  by_cases c1 : σ S 8 ≤ 0
  · refine stay _ (fun σ' ρ' h1 h2 h3 h4 h5 => ⟨σ', ρ', h1, h2, h3, h4, h5⟩) (of_wp ?_) (of_wp ?_)
    · unfold X1_beginAgain
      exact wp_ckI S hU (isSea_S hS) (wp_ifT (by rw [w32i (by omega)]; exact c1) (wp_some rfl))
    · unfold X12_comes_l67
      exact wp_rdI 3 rfl (by decide) (by decide) (wp_ifT (by rw [r3, w32i (by omega)]; exact c1) (wp_some rfl))
  · rcases y2 with y2 | y2
    · obtain ⟨b, b', z1, z2, z3, z4, z5⟩ := wp_loop2 (f := fun z : SG => X1_beginAgain_l18 1000 M z) (g := fun z : SG => X12_comes_l67 1000 M z) (n := 1000) (n' := 1000) (a := σ) (a' := ρ)
        (Q := fun b b' => Rl b b' S J m q ∧ FrA σ b ∧ FrAR ρ b') (fun k z z' => Rl z z' S J m q ∧ FrA σ z ∧ FrAR ρ z' ∧ (k : Int) ≤ z 19 10) 99 (by
          rintro k σ1 ρ1 hk ⟨e2, e3, e4, e5⟩
          have f1 : σ1 19 0 = (S : Int) := e2.use.2.2.1
          have f2 : σ1 S 8 = σ S 8 := e3 S 8 (by omega)
          obtain ⟨-, ⟨w1, w2, w3⟩, -⟩ := e2.heat
          have f3 : ρ1 60 3 = σ S 8 := (e4 60 3 (by omega)).trans r3
          have f4 : ρ1 57 37 = 0 := (e4 57 37 (by omega)).trans (y1.trans y2)
          unfold X1_beginAgain_l18 X12_comes_l67
          by_cases c : M ≤ σ1 19 10 + σ S 8
          · exact wp_ckI S f1 (isSea_S hS) (wp_ifT (by rw [f2, w32i (by omega), w32i (by omega)]; exact c) (wp_some (wp_rdI 3 rfl (by decide) (by decide) (wp_ifF (by rw [f3, w32i (by omega)]; exact c1) (wp_ifT (by rw [f4]; rfl) (wp_rdI 3 rfl (by decide) (by decide) (wp_ifT (by rw [f3, w1, w32i (by omega), w32i (by omega)]; exact c) (wp_some (Or.inr ⟨_, _, rfl, rfl, e2, e3, e4⟩)))))))))
          · have hR2 := e2.start (x := σ1 19 10 + σ S 8) (by omega)
            refine wp_ckI S f1 (isSea_S hS) (wp_ifF (by rw [f2, w32i (by omega), w32i (by omega)]; exact c) (wp_lt (wp_ckI S (by rw [up_ne (by omega)]; exact f1) (isSea_S hS) (wp_lt (wp_some ?_)))))
            refine wp_rdI 3 rfl (by decide) (by decide) (wp_ifF (by rw [f3, w32i (by omega)]; exact c1) (wp_ifT (by rw [f4]; rfl) (wp_rdI 3 rfl (by decide) (by decide) (wp_ifF (by rw [f3, w1, w32i (by omega), w32i (by omega)]; exact c) (wp_rdI 3 rfl (by decide) (by decide) (wp_lt (wp_lt (wp_some ?_))))))))
            rw [up_ne (show ¬ (19 = 19 ∧ 10 = 11) by decide), up_ne (show ¬ (S = 19 ∧ 8 = 11) by omega), f2, f3, w1, up_ne (show ¬ (57 = 57 ∧ 29 = 26) by decide)]
            refine Or.inl ⟨_, _, rfl, rfl, by omega, hR2, fun c j h => by rw [up_ne (by omega), up_ne (by omega)]; exact e3 c j h, fun c j h => by rw [up_ne (by omega), up_ne (by omega)]; exact e4 c j h, ?_⟩
            rw [up_eq rfl rfl]
            omega) ⟨R, fun _ _ _ => rfl, fun _ _ _ => rfl, by omega⟩ (by decide) (by decide)
      refine ⟨b, b', of_wp ?_, z2, z3, z4, z5⟩
      unfold X1_beginAgain X1_beginAgain_e18
      exact wp_ckI S hU (isSea_S hS) (wp_ifF (by rw [w32i (by omega)]; exact c1) (wp_ifT (by rw [y2]; rfl) (wp_bind (wp_of z1 (wp_some rfl)))))
    · refine stay _ (fun σ' ρ' h1 h2 h3 h4 h5 => ⟨σ', ρ', h1, h2, h3, h4, h5⟩) (of_wp ?_) (of_wp ?_)
      · unfold X1_beginAgain
        exact wp_ckI S hU (isSea_S hS) (wp_ifF (by rw [w32i (by omega)]; exact c1) (wp_ifF (by rw [y2]; decide) (wp_some rfl)))
      · unfold X12_comes_l67
        exact wp_rdI 3 rfl (by decide) (by decide) (wp_ifF (by rw [r3, w32i (by omega)]; exact c1) (wp_ifF (by rw [y1, y2]; decide) (wp_some rfl)))
