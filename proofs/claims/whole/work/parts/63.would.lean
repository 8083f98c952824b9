/-! ===== a score by the judge; would ===== -/
theorem score_ok {σ ρ : SG} {J : Nat} {F : Fx} (hJ : J = 7 ∨ J = 26) (I : IJud σ ρ J) (hn : σ J 6 ≠ 0) (hF : Fok F) (hf : ∀ i, i < 8 → σ (J + 6) i = F i ∧ ρ 66 i = F i) :
    ∃ v σ' u ρ', X2_scoreByFacts 1000 J σ = some (v, σ') ∧ X12_scored 1000 ρ = some (u, ρ') ∧ FrJ J σ σ' ∧ FrP ρ ρ' ∧ ((ρ' 57 23 = 0 ∧ v = u ∧ 0 ≤ v ∧ v ≤ 100) ∨ ((ρ' 57 23 = 1 ∨ ρ' 57 23 = 2) ∧ v = -(ρ' 57 23) ∧ u = 0)) := by
  obtain ⟨N, st, i1, i2, i3, i4, i5, i6⟩ := I
  have hN0 : N ≠ 0 := by omega
  rw [if_neg hN0] at i3
  have fA : FrJ J σ (up σ J 11 0) := FrJ.rf.up (by omega)
  have fB : FrP ρ (up ρ 57 23 0) := FrP.rf.up (by omega)
  obtain ⟨b, b', y1, y2, y3⟩ := wp_loop2 (f := fun s : Int × Int × SG => X2_scoreByFacts_l9 1000 J s.1 s.2.1 s.2.2) (g := fun s : Int × Int × SG => X12_scored_l36 1000 s.1 s.2.1 s.2.2) (n := 1000) (n' := 1000) (a := (0, 0, up σ J 11 0)) (a' := (0, 0, up ρ 57 23 0))
    (Q := fun b b' => FrJ J σ b.2 ∧ FrP ρ b'.2 ∧ b.2 J 11 = b'.2 57 23 ∧ ((b'.2 57 23 = 0 ∧ b.1 = b'.1 ∧ rng b.1) ∨ b'.2 57 23 = 1 ∨ b'.2 57 23 = 2))
    (fun k z z' => z.2.1 = (k : Int) ∧ z'.2.1 = (k : Int) ∧ FrJ J σ z.2.2 ∧ FrP ρ z'.2.2 ∧ z.2.2 J 11 = z'.2.2 57 23 ∧ ((z'.2.2 57 23 = 0 ∧ z.1 = z'.1 ∧ rng z.1) ∨ z'.2.2 57 23 = 1 ∨ z'.2.2 57 23 = 2)) N (by
      rintro k ⟨z1, z2, z3⟩ ⟨w1, w2, w3⟩ hk ⟨e1, e2, e3, e4, e5, e6⟩
      obtain rfl : z2 = (k : Int) := e1
      obtain rfl : w2 = (k : Int) := e2
      have e3 : FrJ J σ z3 := e3
      have e4 : FrP ρ w3 := e4
      have e5 : z3 J 11 = w3 57 23 := e5
      have e6 : (w3 57 23 = 0 ∧ z1 = w1 ∧ rng z1) ∨ w3 57 23 = 1 ∨ w3 57 23 = 2 := e6
      have e7 : z3 J 6 = (N : Int) := (e3 J 6 (by omega) (by omega)).trans i2
      have e8 : w3 57 18 = (N : Int) := (e4 57 18 (by decide) (by omega)).trans i3
      dsimp only
      by_cases hkN : k = N
      · unfold X2_scoreByFacts_l9 X12_scored_l36
        refine wp_ifT (by rw [e7, hkN]; exact Int.le_refl _) (wp_some (wp_ifT (by rw [e8, hkN]; exact Int.le_refl _) (wp_some (Or.inr ⟨_, _, rfl, rfl, e3, e4, e5, e6⟩))))
      · rcases e6 with ⟨t1, rfl, t3⟩ | t1
        · obtain ⟨v, v', σ2, ρ2, p1, p2, p3, p4, p5, p6⟩ := line_ok hJ (i6 k (by omega)) i5 i4 (by omega) i2 (by omega) i1 i3 hF hf e3 e4 (e5.trans t1) t1 t3
          refine wp_of p1 (wp_of p2 (Or.inl ⟨_, _, rfl, rfl, by omega, rfl, rfl, p3, p4, p5, p6⟩))
        · unfold X2_scoreByFacts_l9 X12_scored_l36
          refine wp_ifF (by rw [e7, w32i (by omega), w32i (by omega)]; omega) (wp_ifF (by rw [e5, w32i (by omega)]; omega) (wp_some (wp_ifF (by rw [e8, w32i (by omega), w32i (by omega)]; omega) (wp_ifF (by rw [w32i (by omega)]; omega) (wp_some (Or.inr ⟨_, _, rfl, rfl, e3, e4, e5, Or.inr t1⟩))))))) ⟨rfl, rfl, fA, fB, (by dsimp only; rw [up_eq rfl rfl, up_eq rfl rfl]), Or.inl ⟨(by dsimp only; exact up_eq rfl rfl), rfl, (by dsimp only; unfold rng; decide)⟩⟩ (by omega) (by omega)
  obtain ⟨q1, q2, q3, q4⟩ := y3
  obtain ⟨v, σ'⟩ := b
  obtain ⟨u, ρ'⟩ := b'
  have q1 : FrJ J σ σ' := q1
  have q2 : FrP ρ ρ' := q2
  have q3 : σ' J 11 = ρ' 57 23 := q3
  have q4 : (ρ' 57 23 = 0 ∧ v = u ∧ rng v) ∨ ρ' 57 23 = 1 ∨ ρ' 57 23 = 2 := q4
  have hA : wp (X2_scoreByFacts 1000 J σ) (fun r => r = (if ρ' 57 23 = 0 then max 0 (min 100 v) else -(ρ' 57 23), σ')) := by
    unfold X2_scoreByFacts
    refine wp_lt (wp_bind (wp_of y1 ?_))
    unfold X2_scoreByFacts_e9
    rcases q4 with ⟨t1, -, t3⟩ | t1
    · obtain ⟨x1, x2⟩ := t3
      refine wp_ifT (by dsimp only; rw [q3, t1]; rfl) (wp_some ?_)
      dsimp only
      rw [if_pos t1, mn32_m (by omega), mx32_m (by omega)]
    · refine wp_ifF (by dsimp only; rw [q3, w32i (by omega)]; omega) (wp_some ?_)
      dsimp only
      rw [if_neg (by omega), q3]
  have hB : wp (X12_scored 1000 ρ) (fun r => r = (if ρ' 57 23 = 0 then max 0 (min 100 u) else 0, ρ')) := by
    unfold X12_scored
    refine wp_lt (wp_ifF (by rw [up_ne (by omega), i3, w32i (by omega)]; omega) (wp_bind (wp_of y2 ?_)))
    unfold X12_scored_e36
    rcases q4 with ⟨t1, t2, t3⟩ | t1
    · obtain ⟨x1, x2⟩ := t3
      refine wp_ifT (by dsimp only; rw [t1]; decide) (wp_some ?_)
      dsimp only
      rw [if_pos t1]
      unfold mx64 mn64
      rw [w64i (x := u) (by omega), w64i (x := 100) (by decide), w64i (x := 0) (by decide)]
      have e : (if u < 100 then u else 100) = min 100 u := by split <;> omega
      rw [e, w64i (by omega)]
      congr 1
      split <;> omega
    · refine wp_ifF (by dsimp only; rw [w32i (by omega)]; omega) (wp_some ?_)
      dsimp only
      rw [if_neg (by omega)]
  refine ⟨_, σ', _, ρ', of_wp hA, of_wp hB, q1, q2, ?_⟩
  rcases q4 with ⟨t1, t2, t3⟩ | t1
  · rw [if_pos t1, if_pos t1, t2]
    exact Or.inl ⟨t1, rfl, by omega, by omega⟩
  · rw [if_neg (by omega), if_neg (by omega)]
    exact Or.inr ⟨t1, rfl, rfl⟩
/-- scoreOf and scoreBy: what they come to, and what they leave -/
theorem scores_ok {σ ρ : SG} {S J : Nat} {s w : Nat} {p its tn f c pm : Int} (hS : S = 1 ∨ S = 20) (hJ : J = 7 ∨ J = 26) (hU : σ 19 0 = (S : Int)) (hUJ : σ 19 1 = (J : Int)) (I : IJud σ ρ J) (V : ISeaW σ ρ S w) (hw : w < 20) (hs : s < 5) (hp : 0 ≤ p ∧ p ≤ 40) (hi : 1 ≤ its ∧ its ≤ 20) (ht : 0 ≤ tn ∧ tn ≤ 9)
    (h10 : σ 19 10 = f ∧ ρ 57 26 = f ∧ 0 ≤ f ∧ f ≤ 99) (h2 : σ (39 + 2 * s) 2 = c ∧ ρ 72 s = c ∧ 0 ≤ c ∧ c ≤ 20) (hb : σ (39 + 2 * s) 10 = pm ∧ 0 ≤ pm ∧ pm ≤ 100 ∧ ∀ ρ', Ag ρ ρ' → ∃ g, IB ρ' s pm g) :
    ∃ v σ' u ρ', X1_scoreOf 1000 (39 + 2 * s) (w : Int) p its tn σ = some (v, σ') ∧ X12_scoreBy 1000 (s : Int) (w : Int) p its tn ρ = some (u, ρ') ∧ Ag σ σ' ∧ Ag ρ ρ' ∧ AgR σ σ' ∧ AgCL ρ ρ' ∧ (∀ j, j ≠ 23 → ρ' 57 j = ρ 57 j) ∧ (∀ k, k ≠ 66 → k ≠ 67 → k ≠ 57 → ρ' k = ρ k) ∧ (∀ k, k ≠ J → k ≠ J + 6 → k ≠ J + 7 → σ' k = σ k) ∧
      ((ρ' 57 23 = 0 ∧ v = u ∧ 0 ≤ v ∧ v ≤ 100) ∨ ((ρ' 57 23 = 1 ∨ ρ' 57 23 = 2) ∧ v = -(ρ' 57 23) ∧ u = 0)) := by
  obtain ⟨v0, v1, v2, v3, v4, -, -, v5, v6, v7, v8, -⟩ := V
  have r3 := v0 3 (by decide)
  have r4 := v0 4 (by decide)
  have r1 := v0 1 (by decide)
  have r0 : ρ 60 (44 + 5 * w) = σ (S + 5) (5 * w) := v0 0 (by decide)
  obtain ⟨x1, x2, x3, x4⟩ := h10
  obtain ⟨y1, y2, y3, y4⟩ := h2
  obtain ⟨z1, z2, z3, z4⟩ := hb
  -- the reference's facts
  let F : Fx := fun i => if i = 0 then σ (S + 5) (5 * w + 3) else if i = 1 then σ (S + 5) (5 * w + 4) else if i = 2 then its else if i = 3 then ab32 (p - σ (S + 5) (5 * w + 1)) else if i = 4 then tn else if i = 5 then σ (S + 5) (5 * w) - f else if i = 6 then c else pm
  have hab : 0 ≤ ab32 (p - σ (S + 5) (5 * w + 1)) ∧ ab32 (p - σ (S + 5) (5 * w + 1)) ≤ 40 := by rw [ab32_m (by omega)]; omega
  have hF : Fok F := fun i hi' => by
    have : i = 0 ∨ i = 1 ∨ i = 2 ∨ i = 3 ∨ i = 4 ∨ i = 5 ∨ i = 6 ∨ i = 7 := by omega
    rcases this with rfl | rfl | rfl | rfl | rfl | rfl | rfl | rfl <;> simp only [F] <;> unfold rng <;> first | omega | (simp only [] ; omega)
  have hR : ∃ ρ1, (∀ i, i < 8 → ρ1 66 i = F i) ∧ (∀ k, k ≠ 66 → ρ1 k = ρ k) ∧ ∀ Q : Int × SG → Prop, wp (X12_scored 1000 ρ1) Q → wp (X12_scoreBy 1000 (s : Int) (w : Int) p its tn ρ) Q := by
    refine ⟨up (up (up (up (up (up (up (up ρ 66 0 (σ (S + 5) (5 * w + 3))) 66 1 (σ (S + 5) (5 * w + 4))) 66 2 its) 66 3 (ab32 (p - σ (S + 5) (5 * w + 1)))) 66 4 tn) 66 5 (σ (S + 5) (5 * w) - f)) 66 6 c) 66 7 pm, fun i hi' => ?_, fun k hk => by simp (disch := omega) only [up_rw], fun Q h => ?_⟩
    · have : i = 0 ∨ i = 1 ∨ i = 2 ∨ i = 3 ∨ i = 4 ∨ i = 5 ∨ i = 6 ∨ i = 7 := by omega
      rcases this with rfl | rfl | rfl | rfl | rfl | rfl | rfl | rfl <;> simp (disch := omega) only [up_eq, up_ne] <;> rfl
    · unfold X12_scoreBy
      refine wp_bind (wp_ofWave w 3 rfl rfl hw (by decide) ?_)
      rw [r3]
      refine wp_rdI 0 rfl (by decide) (by decide) (wp_lt (wp_bind (wp_ofWave w 4 rfl rfl hw (by decide) ?_)))
      rw [up_ne (by omega), r4]
      refine wp_rdI 1 rfl (by decide) (by decide) (wp_lt (wp_rdI 2 rfl (by decide) (by decide) (wp_lt (wp_bind (wp_ofWave w 1 rfl rfl hw (by decide) ?_)))))
      rw [up_ne (by omega), up_ne (by omega), up_ne (by omega), r1]
      refine wp_rdI 3 rfl (by decide) (by decide) (wp_lt (wp_rdI 4 rfl (by decide) (by decide) (wp_lt (wp_bind (wp_ofWave0 w rfl rfl hw ?_)))))
      rw [show (up (up (up (up (up ρ 66 0 (σ (S + 5) (5 * w + 3))) 66 1 (σ (S + 5) (5 * w + 4))) 66 2 its) 66 3 (ab32 (p - σ (S + 5) (5 * w + 1)))) 66 4 tn) 60 (44 + 5 * w) = σ (S + 5) (5 * w) by (simp (disch := omega) only [up_eq, up_ne, w32i, mx32_m, mn32_m, ab32_m]); exact r0, show (up (up (up (up (up ρ 66 0 (σ (S + 5) (5 * w + 3))) 66 1 (σ (S + 5) (5 * w + 4))) 66 2 its) 66 3 (ab32 (p - σ (S + 5) (5 * w + 1)))) 66 4 tn) 57 26 = f by (simp (disch := omega) only [up_eq, up_ne, w32i, mx32_m, mn32_m, ab32_m]); exact x2]
      refine wp_rdI 5 rfl (by decide) (by decide) (wp_lt (wp_rdn (by omega) (by omega) (wp_rdI 6 rfl (by decide) (by decide) (wp_lt ?_))))
      rw [show (up (up (up (up (up (up ρ 66 0 (σ (S + 5) (5 * w + 3))) 66 1 (σ (S + 5) (5 * w + 4))) 66 2 its) 66 3 (ab32 (p - σ (S + 5) (5 * w + 1)))) 66 4 tn) 66 5 (σ (S + 5) (5 * w) - f)) 72 s = c by (simp (disch := omega) only [up_eq, up_ne, w32i, mx32_m, mn32_m, ab32_m]); exact y2]
      obtain ⟨g, hg⟩ := z4 (up (up (up (up (up (up (up ρ 66 0 (σ (S + 5) (5 * w + 3))) 66 1 (σ (S + 5) (5 * w + 4))) 66 2 its) 66 3 (ab32 (p - σ (S + 5) (5 * w + 1)))) 66 4 tn) 66 5 (σ (S + 5) (5 * w) - f)) 66 6 c) (by (repeat' (first | exact Ag.rf | refine Ag.up ?_ rfl)))
      refine wp_bind (wp_of (hg 1000 0 (by decide)) ?_)
      rw [if_pos w32_0]
      refine wp_rdI 7 rfl (by decide) (by decide) (wp_lt (wp_bnd2 (wp_mono h (fun r hr => wp_some hr))))
  obtain ⟨ρ1, k1, k2, k3⟩ := hR
  have I' : IJud σ ρ1 J := by
    obtain ⟨N, st, i1, i2, i3, i4, i5, i6⟩ := I
    refine ⟨N, st, i1, i2, by rw [k2 57 (by decide)]; exact i3, i4, i5, fun l hl => ?_⟩
    have := i6 l hl
    unfold ILine at *
    rw [k2 64 (by decide), k2 62 (by decide)]
    exact this
  by_cases hn : σ J 6 = 0
  · obtain ⟨N, st, i1, i2, i3, -⟩ := I'
    rw [if_pos (by omega)] at i3
    have hA : wp (X1_scoreOf 1000 (39 + 2 * s) (w : Int) p its tn σ) (fun r => r = (min 100 (σ (S + 5) (5 * w + 3) * its), σ)) := by
      unfold X1_scoreOf
      refine wp_ckI S hU (isSea_S hS) (wp_bind (wp_fact w 3 rfl rfl hw (by decide) (wp_ckI J hUJ (isJudge_J hJ) (wp_ifT (by rw [hn]; rfl) (wp_some ?_)))))
      have hm : 0 ≤ σ (S + 5) (5 * w + 3) * its ∧ σ (S + 5) (5 * w + 3) * its ≤ 9 * 20 := ⟨Int.mul_nonneg (by omega) (by omega), Int.mul_le_mul (by omega) (by omega) (by omega) (by omega)⟩
      rw [mn32_m (by omega)]
    have hB : wp (X12_scoreBy 1000 (s : Int) (w : Int) p its tn ρ) (fun r => r = (min 100 (σ (S + 5) (5 * w + 3) * its), up ρ1 57 23 0)) := by
      refine k3 _ ?_
      unfold X12_scored
      refine wp_lt (wp_ifT (by rw [up_ne (by omega), i3]; rfl) (wp_rdI 0 rfl (by decide) (by decide) (wp_rdI 2 rfl (by decide) (by decide) (wp_some ?_))))
      rw [up_ne (by omega), up_ne (by omega), k1 0 (by decide), k1 2 (by decide)]
      have hm : 0 ≤ σ (S + 5) (5 * w + 3) * its ∧ σ (S + 5) (5 * w + 3) * its ≤ 9 * 20 := ⟨Int.mul_nonneg (by omega) (by omega), Int.mul_le_mul (by omega) (by omega) (by omega) (by omega)⟩
      show (mn32 100 (σ (S + 5) (5 * w + 3) * its), _) = _
      rw [mn32_m (by omega)]
    have hm : 0 ≤ σ (S + 5) (5 * w + 3) * its ∧ σ (S + 5) (5 * w + 3) * its ≤ 9 * 20 := ⟨Int.mul_nonneg (by omega) (by omega), Int.mul_le_mul (by omega) (by omega) (by omega) (by omega)⟩
    have g1 : Ag ρ ρ1 := fun k j d => by
      by_cases q : k = 66
      · subst q; exact absurd d (by simp [dep])
      · rw [k2 k q]
    refine ⟨_, _, _, _, of_wp hA, of_wp hB, Ag.rf, g1.up rfl, AgR.rf, ⟨fun k hk => by rw [up_row _ _ (by omega)]; exact k2 k (by omega), by rw [up_row _ _ (by omega)]; exact k2 84 (by decide)⟩, fun j hj => by rw [up_ne (by omega), k2 57 (by decide)], fun k h1 h2 h3 => by rw [up_row _ _ h3]; exact k2 k h1, fun k _ _ _ => rfl, Or.inl ⟨up_eq rfl rfl, rfl, by omega, by omega⟩⟩
  · have hC : ∃ σ1, (∀ i, i < 8 → σ1 (J + 6) i = F i) ∧ (∀ k, k ≠ J + 6 → σ1 k = σ k) ∧ ∀ Q : Int × SG → Prop, wp (X2_scoreByFacts 1000 J σ1) Q → wp (X1_scoreOf 1000 (39 + 2 * s) (w : Int) p its tn σ) Q := by
      refine ⟨up (up (up (up (up (up (up (up σ (J + 6) 0 (σ (S + 5) (5 * w + 3))) (J + 6) 1 (σ (S + 5) (5 * w + 4))) (J + 6) 2 its) (J + 6) 3 (ab32 (p - σ (S + 5) (5 * w + 1)))) (J + 6) 4 tn) (J + 6) 5 (σ (S + 5) (5 * w) - f)) (J + 6) 6 c) (J + 6) 7 pm, fun i hi' => ?_, fun k hk => by simp (disch := omega) only [up_rw], fun Q h => ?_⟩
      · have : i = 0 ∨ i = 1 ∨ i = 2 ∨ i = 3 ∨ i = 4 ∨ i = 5 ∨ i = 6 ∨ i = 7 := by omega
        rcases this with rfl | rfl | rfl | rfl | rfl | rfl | rfl | rfl <;> simp (disch := omega) only [up_eq, up_ne] <;> rfl
      · obtain ⟨N, st, i1, i2, -⟩ := I
        unfold X1_scoreOf
        refine wp_ckI S hU (isSea_S hS) (wp_bind (wp_fact w 3 rfl rfl hw (by decide) (wp_ckI J hUJ (isJudge_J hJ) (wp_ifF (by rw [i2, w32i (by omega)]; omega) (wp_ckI J hUJ (isJudge_J hJ) (wp_rdI 0 rfl (by decide) (by decide) (wp_lt (wp_ckI S (by (simp (disch := omega) only [up_eq, up_ne, w32i, mx32_m, mn32_m, ab32_m]); exact hU) (isSea_S hS) (wp_bind (wp_fact w 4 rfl rfl hw (by decide) ?_))))))))))
        rw [up_ne (by omega)]
        refine wp_rdI 1 rfl (by decide) (by decide) (wp_lt (wp_rdI 2 rfl (by decide) (by decide) (wp_lt (wp_ckI S (by (simp (disch := omega) only [up_eq, up_ne, w32i, mx32_m, mn32_m, ab32_m]); exact hU) (isSea_S hS) (wp_bind (wp_fact w 1 rfl rfl hw (by decide) ?_))))))
        rw [up_ne (by omega), up_ne (by omega), up_ne (by omega)]
        refine wp_rdI 3 rfl (by decide) (by decide) (wp_lt (wp_rdI 4 rfl (by decide) (by decide) (wp_lt (wp_ckI S (by (simp (disch := omega) only [up_eq, up_ne, w32i, mx32_m, mn32_m, ab32_m]); exact hU) (isSea_S hS) (wp_bind (wp_fact0 w rfl rfl hw ?_))))))
        rw [show (up (up (up (up (up σ (J + 6) 0 (σ (S + 5) (5 * w + 3))) (J + 6) 1 (σ (S + 5) (5 * w + 4))) (J + 6) 2 its) (J + 6) 3 (ab32 (p - σ (S + 5) (5 * w + 1)))) (J + 6) 4 tn) (S + 5) (5 * w) = σ (S + 5) (5 * w) by (simp (disch := omega) only [up_eq, up_ne, w32i, mx32_m, mn32_m, ab32_m]), show (up (up (up (up (up σ (J + 6) 0 (σ (S + 5) (5 * w + 3))) (J + 6) 1 (σ (S + 5) (5 * w + 4))) (J + 6) 2 its) (J + 6) 3 (ab32 (p - σ (S + 5) (5 * w + 1)))) (J + 6) 4 tn) 19 10 = f by (simp (disch := omega) only [up_eq, up_ne, w32i, mx32_m, mn32_m, ab32_m]); exact x1]
        refine wp_rdI 5 rfl (by decide) (by decide) (wp_lt (wp_rdI 6 rfl (by decide) (by decide) (wp_lt (wp_rdI 7 rfl (by decide) (by decide) (wp_lt ?_)))))
        rw [show (up (up (up (up (up (up σ (J + 6) 0 (σ (S + 5) (5 * w + 3))) (J + 6) 1 (σ (S + 5) (5 * w + 4))) (J + 6) 2 its) (J + 6) 3 (ab32 (p - σ (S + 5) (5 * w + 1)))) (J + 6) 4 tn) (J + 6) 5 (σ (S + 5) (5 * w) - f)) (39 + 2 * s) 2 = c by (simp (disch := omega) only [up_eq, up_ne, w32i, mx32_m, mn32_m, ab32_m]); exact y1]
        rw [show (up (up (up (up (up (up (up σ (J + 6) 0 (σ (S + 5) (5 * w + 3))) (J + 6) 1 (σ (S + 5) (5 * w + 4))) (J + 6) 2 its) (J + 6) 3 (ab32 (p - σ (S + 5) (5 * w + 1)))) (J + 6) 4 tn) (J + 6) 5 (σ (S + 5) (5 * w) - f)) (J + 6) 6 c) (39 + 2 * s) 10 = pm by (simp (disch := omega) only [up_eq, up_ne, w32i, mx32_m, mn32_m, ab32_m]); exact z1]
        refine wp_ckI J (by (simp (disch := omega) only [up_eq, up_ne, w32i, mx32_m, mn32_m, ab32_m]); exact hUJ) (isJudge_J hJ) (wp_bnd2 (wp_mono h (fun r hr => wp_some hr)))
    obtain ⟨σ1, c1, c2, c3⟩ := hC
    have I2 : IJud σ1 ρ1 J := by
      obtain ⟨N, st, i1, i2, i3, i4, i5, i6⟩ := I'
      refine ⟨N, st, i1, by rw [c2 J (by omega)]; exact i2, i3, i4, by rw [c2 J (by omega)]; exact i5, fun l hl => ?_⟩
      have := i6 l hl
      unfold ILine at *
      rw [c2 (J + 1) (by omega), c2 (J + 2) (by omega), c2 (J + 3) (by omega), c2 (J + 4) (by omega), c2 (J + 5) (by omega)]
      exact this
    obtain ⟨v, σ', u, ρ', s1, s2, s3, s4, s5⟩ := score_ok hJ I2 (by rw [c2 J (by omega)]; exact hn) hF (fun i hi' => ⟨c1 i hi', k1 i hi'⟩)
    refine ⟨v, σ', u, ρ', of_wp (c3 _ (wp_of s1 rfl)), of_wp (k3 _ (wp_of s2 rfl)), fun k j d => ?_, fun k j d => ?_, fun k h1 h2 => ?_, ⟨fun k hk => ?_, ?_⟩, fun j hj => ?_, fun k h1 h2 h3 => ?_, fun k h1 h2 h3 => ?_, s5⟩
    · have e1 : k ≠ J + 6 := by rintro rfl; rcases hJ with rfl | rfl <;> exact absurd d (by simp [dep])
      have e2 : k ≠ J + 7 := by rintro rfl; rcases hJ with rfl | rfl <;> exact absurd d (by simp [dep])
      have e3 : ¬ (k = J ∧ 9 ≤ j) := by
        rintro ⟨rfl, h⟩
        have hlt : ¬ j < 9 := by omega
        rcases hJ with rfl | rfl <;> exact absurd d (by simp [dep]; omega)
      rw [s3 k j e3 e2, c2 k e1]
    · have e1 : k ≠ 66 := by rintro rfl; exact absurd d (by simp [dep])
      have e2 : k ≠ 67 := by rintro rfl; exact absurd d (by simp [dep])
      have e3 : ¬ (k = 57 ∧ j = 23) := by rintro ⟨rfl, rfl⟩; exact absurd d (by decide)
      rw [s4 k j e2 e3, k2 k e1]
    · funext j
      rw [s3 k j (by omega) (by omega), c2 k (by omega)]
    · funext j
      rw [s4 k j (by omega) (by omega), k2 k (by omega)]
    · funext j
      rw [s4 84 j (by omega) (by omega), k2 84 (by omega)]
    · rw [s4 57 j (by omega) (by omega), k2 57 (by omega)]
    · funext j
      rw [s4 k j h2 (by omega), k2 k h1]
    · funext j
      rw [s3 k j (by omega) h3, c2 k h2]
