/-! ===== judge ===== -/
theorem G_3 {σ ρ : SG} {S J m q : Nat} (hT : ITape σ ρ) (R : Rl σ ρ S J m q) (I : IJud σ ρ J) : wp (X11_judge 1000 σ) (fun r => wp (X12_judge 1000 ρ) (PC [2] σ ρ Tv r)) := by
  obtain ⟨hS, hJ, hU, hUJ, h00, h01, hC⟩ := R.use
  obtain ⟨T, hTJ⟩ : ∃ T : Nat, T = 33 - J := ⟨_, rfl⟩
  have hJ' : T = 7 ∨ T = 26 := by omega
  have h0T : σ 0 1 = (T : Int) := by
    rw [h01, hTJ]
    rcases hJ with rfl | rfl <;> decide
  obtain ⟨v, σ1, ρ1, e1, e2, fC, fR, g2, g0, out⟩ := judgeRead_ok hJ' hT
  have fC' : ∀ c j, ¬ (c = 15 ∧ 2 ≤ j ∧ j ≤ 5) → c ≠ 18 → ¬ (T ≤ c ∧ c ≤ T + 5) → σ1 c j = σ c j := fun c j q1 q2 q3 => by
    rw [fC c j q1 (by omega) (by omega), up_ne (by omega)]
  have hgo : ∀ Q : ((Nat × Int) × SG) → Prop, wp (if w32 v = (-1) then ckR isJudge ((up (up σ1 0 5 v) 15 1 0) 19 1) fun k7 => ckR isJudge ((up (up σ1 0 5 v) 15 1 0) 0 1) fun k8 => lt (up (up (up σ1 0 5 v) 15 1 0) 19 1 ((k8 : Nat) : Int)) fun σ9 => lt (up σ9 0 1 ((k7 : Nat) : Int)) fun σ10 => ckR isJudge (σ10 19 1) fun k11 => some (((0, (σ10 k11 6)), σ10)) else some (((2, 0), (up (up σ1 0 5 v) 15 1 0)))) Q → wp (X11_judge 1000 σ) Q := fun Q hQ => by
    unfold X11_judge
    refine wp_ckI T h0T (isJudge_J hJ') (wp_bnd2 (wp_of e1 (wp_lt (wp_lt ?_))))
    dsimp only
    rw [show up (up σ1 0 5 v) 15 1 0 0 5 = v by rw [up_ne (by omega), up_eq rfl rfl]]
    exact hQ
  rcases out with ⟨rfl, g7, st, cd, l, D, hl, hst, hcd, k2, k20⟩ | ⟨v1, v2, g7⟩
  · obtain ⟨⟨d1, d2, d3, d4, d5⟩, d6⟩ := D
    -- the reference's copies
    obtain ⟨ρ2, hρ2⟩ : ∃ y, y = up ρ1 57 8 (-1) := ⟨_, rfl⟩
    have e220 : ρ2 57 20 = (cd : Int) := by rw [hρ2, up_ne (by omega)]; exact k20
    have e219 : ρ2 57 19 = (l : Int) := by rw [hρ2, up_ne (by omega)]; exact d3
    have hcp : wp (iter 1000 (fun s : Int × SG => X12_judge_l94 1000 s.1 s.2) (0, ρ2)) (fun ρ' => (∀ j, j < cd → ρ' 62 j = ρ1 63 j) ∧ ∀ c j, c ≠ 62 → ρ' c j = ρ2 c j) := by
      refine wp_loop (fun k (z : Int × SG) => z.1 = (k : Int) ∧ (∀ j, j < k → z.2 62 j = ρ1 63 j) ∧ ∀ c j, c ≠ 62 → z.2 c j = ρ2 c j) cd ?_ ⟨rfl, fun j hj => absurd hj (by omega), fun _ _ _ => rfl⟩ (by omega)
      rintro k ⟨z1, τ⟩ hk ⟨x1, x2, x3⟩
      obtain rfl : z1 = (k : Int) := x1
      have x3 : ∀ c j, c ≠ 62 → τ c j = ρ2 c j := x3
      dsimp only
      unfold X12_judge_l94
      by_cases c : k = cd
      · subst c
        exact wp_ifT (by rw [x3 57 20 (by decide), e220]; exact Int.le_refl _) (wp_some (Or.inr ⟨_, rfl, x2, x3⟩))
      · refine wp_ifF (by rw [x3 57 20 (by decide), e220, w32i (by omega), w32i (by omega)]; omega) (wp_rdn (by omega) (by omega) (wp_rdn (by omega) (by omega) (wp_lt (wp_lt (wp_some (Or.inl ⟨_, rfl, by omega, by simp only []; omega, fun j hj => ?_, fun c j hc => ?_⟩))))))
        · dsimp only
          by_cases q : j = k
          · rw [q, up_eq rfl rfl, x3 63 k (by decide), hρ2, up_ne (by omega)]
          · rw [up_ne (by omega)]
            exact x2 j (by omega)
        · dsimp only
          rw [up_ne (by omega)]
          exact x3 c j hc
    obtain ⟨ρ3, c1, c2, c3⟩ := hcp
    have e319 : ρ3 57 19 = (l : Int) := (c3 57 19 (by decide)).trans e219
    have hcq : wp (iter 1000 (fun s : Int × SG => X12_judge_l122 1000 s.1 s.2) (0, ρ3)) (fun ρ' => (∀ j, j < 4 * l → ρ' 64 j = ρ1 65 j) ∧ ∀ c j, c ≠ 64 → ρ' c j = ρ3 c j) := by
      refine wp_loop (fun k (z : Int × SG) => z.1 = (k : Int) ∧ (∀ j, j < k → z.2 64 j = ρ1 65 j) ∧ ∀ c j, c ≠ 64 → z.2 c j = ρ3 c j) (4 * l) ?_ ⟨rfl, fun j hj => absurd hj (by omega), fun _ _ _ => rfl⟩ (by omega)
      rintro k ⟨z1, τ⟩ hk ⟨x1, x2, x3⟩
      obtain rfl : z1 = (k : Int) := x1
      have x3 : ∀ c j, c ≠ 64 → τ c j = ρ3 c j := x3
      dsimp only
      unfold X12_judge_l122
      by_cases c : k = 4 * l
      · exact wp_ifT (by rw [x3 57 19 (by decide), e319, w32i (by omega), w32i (by omega)]; omega) (wp_some (Or.inr ⟨_, rfl, fun j hj => x2 j (by omega), x3⟩))
      · refine wp_ifF (by rw [x3 57 19 (by decide), e319, w32i (by omega), w32i (by omega)]; omega) (wp_rdn (by omega) (by omega) (wp_rdn (by omega) (by omega) (wp_lt (wp_lt (wp_some (Or.inl ⟨_, rfl, by omega, by simp only []; omega, fun j hj => ?_, fun c j hc => ?_⟩))))))
        · dsimp only
          by_cases q : j = k
          · rw [q, up_eq rfl rfl, x3 65 k (by decide), c3 65 k (by decide), hρ2, up_ne (by omega)]
          · rw [up_ne (by omega)]
            exact x2 j (by omega)
        · dsimp only
          rw [up_ne (by omega)]
          exact x3 c j hc
    obtain ⟨ρ4, y1, y2, y3⟩ := hcq
    have e419 : ρ4 57 19 = (l : Int) := (y3 57 19 (by decide)).trans e319
    obtain ⟨ρ5, hρ5⟩ : ∃ y, y = up ρ4 57 18 (l : Int) := ⟨_, rfl⟩
    obtain ⟨σ2, hσ2⟩ : ∃ y, y = up (up (up (up σ1 0 5 (-1)) 15 1 0) 19 1 (T : Int)) 0 1 (J : Int) := ⟨_, rfl⟩
    have E2 : ∀ c j, ¬ (c = 0 ∧ (j = 1 ∨ j = 5)) → ¬ (c = 15 ∧ j = 1) → ¬ (c = 19 ∧ j = 1) → σ2 c j = σ1 c j := fun c j q1 q2 q3 => by rw [hσ2]; simp (disch := omega) only [up_ne]
    have G5a : ∀ c j, c ≠ 62 → c ≠ 64 → ¬ (c = 57 ∧ (j = 8 ∨ j = 18)) → ρ5 c j = ρ1 c j := fun c j q1 q2 q3 => by rw [hρ5, up_ne (by omega), y3 c j q2, c3 c j q1, hρ2, up_ne (by omega)]
    have G62 : ∀ j, j < cd → ρ5 62 j = ρ1 63 j := fun j hj => by rw [hρ5, up_ne (by omega), y3 62 j (by decide)]; exact c2 j hj
    have G64 : ∀ j, j < 4 * l → ρ5 64 j = ρ1 65 j := fun j hj => by rw [hρ5, up_ne (by omega)]; exact y2 j hj
    have E3 : ∀ c j, ¬ (c = 0 ∧ (j = 1 ∨ j = 5)) → ¬ (c = 15 ∧ 1 ≤ j ∧ j ≤ 5) → c ≠ 18 → ¬ (c = 19 ∧ j = 1) → ¬ (T ≤ c ∧ c ≤ T + 5) → σ2 c j = σ c j := fun c j q1 q2 q3 q4 q5 => by
      rw [E2 c j q1 (by omega) q4, fC' c j (by omega) q3 q5]
    have G5 : ∀ c j, c ≠ 62 → c ≠ 63 → c ≠ 64 → c ≠ 65 → ¬ (c = 57 ∧ (j ≤ 8 ∨ (18 ≤ j ∧ j ≤ 21))) → ρ5 c j = ρ c j := fun c j q1 q2 q3 q4 q5 => by
      rw [G5a c j q1 q3 (by omega), fR c j (by omega) q2 q4]
    have hr : ∀ i, i ≤ 5 → σ2 (T + i) = σ1 (T + i) := fun i hi => funext fun j => E2 _ j (by omega) (by omega) (by omega)
    have h1T : σ2 19 1 = (T : Int) := by rw [hσ2]; simp (disch := omega) only [up_eq, up_ne]
    have u : IUse σ2 S T := by
      refine ⟨hS, hJ', ?_, h1T, ?_, ?_, fun s hs => ?_⟩
      · rw [E3 19 0 (by omega) (by omega) (by omega) (by omega) (by omega)]; exact hU
      · rw [E3 0 0 (by omega) (by omega) (by omega) (by omega) (by omega)]; exact h00
      · rw [hσ2, up_eq rfl rfl]; omega
      · rw [E3 34 s (by omega) (by omega) (by omega) (by omega) (by omega), E3 _ 0 (by omega) (by omega) (by omega) (by omega) (by omega)]; exact hC s hs
    refine hgo _ (wp_ifT (by decide) (wp_ckI J (by rw [up_ne (by omega), up_ne (by omega), fC' 19 1 (by omega) (by omega) (by omega)]; exact hUJ) (isJudge_J hJ) (wp_ckI T (by rw [up_ne (by omega), up_ne (by omega), fC' 0 1 (by omega) (by omega) (by omega)]; exact h0T) (isJudge_J hJ') (wp_lt (wp_lt ?_)))))
    rw [← hσ2]
    refine wp_ckI T h1T (isJudge_J hJ') (wp_some (e2 _ ?_))
    unfold X12_judge_j70
    rw [g7]
    refine wp_lt (wp_bind (wp_of (hf0 (by rw [up_ne (by omega)]; exact g7)) (wp_bnd2 (wp_th0 (wp_ifT rfl ?_)))))
    dsimp only
    rw [← hρ2]
    refine wp_bind (wp_of c1 ?_)
    unfold X12_judge_e94
    refine wp_bind (wp_of y1 ?_)
    unfold X12_judge_e122
    rw [e419]
    refine wp_lt ?_
    rw [← hρ5]
    refine wp_some (PC.ok (fun k hk1 hk2 => funext fun j => E3 k j (by omega) (by omega) (by omega) (by omega) (by omega)) ⟨fun k hk => funext fun j => G5 k j (by omega) (by omega) (by omega) (by omega) (by omega), funext fun j => G5 84 j (by omega) (by omega) (by omega) (by omega) (by omega)⟩ ⟨⟨?_, ?_, ?_, ?_, fun j hj => ?_⟩, S, T, m, q, R.fru u (fun c j h => E3 c j (by omega) (by omega) (by omega) (by omega) (by omega)) (fun c j h => G5 c j (by omega) (by omega) (by omega) (by omega) (by omega)), l, st, d1, ?_, ?_, hst, ?_, fun i hi => (d5 i hi).fin hi hr G64 G62 d6⟩ ?_ ?_)
    · rw [hσ2]; simp (disch := omega) only [up_eq, up_ne]; decide
    · rw [hσ2]; simp (disch := omega) only [up_eq, up_ne]; decide
    · rw [G5a 57 2 (by omega) (by omega) (by omega), g2, hσ2]; simp (disch := omega) only [up_eq, up_ne]
    · rw [hρ5, up_ne (by omega), y3 57 8 (by omega), c3 57 8 (by omega), hρ2, up_eq rfl rfl, hσ2]; simp (disch := omega) only [up_eq, up_ne]
    · rw [hσ2] at hj
      simp (disch := omega) only [up_eq, up_ne] at hj
      omega
    · rw [E2 T 6 (by omega) (by omega) (by omega)]; exact d2
    · rw [hρ5, up_eq rfl rfl, if_neg (by omega)]
    · rw [E2 T 2 (by omega) (by omega) (by omega)]; exact k2
    · rw [G5a 57 0 (by omega) (by omega) (by omega), g0]
    · rw [hρ5, up_eq rfl rfl, E2 T 6 (by omega) (by omega) (by omega)]
      exact d2.symm
  · refine hgo _ (wp_ifF (by rw [w32i (by omega)]; omega) (wp_some (e2 _ ?_)))
    unfold X12_judge_j70
    rw [g7]
    refine wp_lt (wp_bind (wp_of (hf1 (x := v) (by rw [up_ne (by omega)]; exact g7) ⟨v1, v2⟩) (wp_bnd2 (wp_th1 (wp_ifF (by dsimp only; decide) (wp_some ?_))))))
    dsimp only
    have E3 : ∀ c j, ¬ (c = 0 ∧ j = 5) → ¬ (c = 15 ∧ 1 ≤ j ∧ j ≤ 5) → c ≠ 18 → ¬ (T ≤ c ∧ c ≤ T + 5) → up (up σ1 0 5 v) 15 1 0 c j = σ c j := fun c j q1 q2 q3 q4 => by rw [up_ne (by omega), up_ne (by omega)]; exact fC' c j (by omega) q3 q4
    have G5 : ∀ c j, c ≠ 63 → c ≠ 65 → ¬ (c = 57 ∧ (j ≤ 8 ∨ (19 ≤ j ∧ j ≤ 21))) → up (up ρ1 57 8 v) 57 0 1 c j = ρ c j := fun c j q1 q2 q3 => by rw [up_ne (by omega), up_ne (by omega)]; exact fR c j (by omega) q1 q2
    refine PC.ex (by decide) (by decide) (fun k hk1 hk2 => funext fun j => E3 k j (by omega) (by omega) (by omega) (by omega)) ⟨fun k hk => funext fun j => G5 k j (by omega) (by omega) (by omega), funext fun j => G5 84 j (by omega) (by omega) (by omega)⟩ ⟨⟨?_, ?_, ?_, ?_, fun j hj => ?_⟩, S, J, m, q, R.fr (fun c j h => E3 c j (by omega) (by omega) (by omega) (by omega)) (fun c j h => G5 c j (by omega) (by omega) (by omega)), I.fr (fun c j h => E3 c j (by omega) (by omega) (by omega) (by omega)) (fun c j h => G5 c j (by omega) (by omega) (by omega))⟩ ?_
    · rw [up_eq rfl rfl]; decide
    · rw [up_eq rfl rfl]; decide
    · rw [up_ne (by omega), up_ne (by omega), g2, up_eq rfl rfl]
    · rw [up_ne (by omega), up_eq rfl rfl, up_ne (by omega), up_eq rfl rfl]
    · rw [up_eq rfl rfl] at hj
      omega
    · rw [up_eq rfl rfl]; rfl
