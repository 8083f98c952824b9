/-! ===== plan ===== -/
/-- what a plan's search leaves -/
def Sq (σ0 ρ0 σ ρ : SG) : Prop := Ag σ0 σ ∧ Ag ρ0 ρ ∧ AgR σ0 σ ∧ AgCL ρ0 ρ ∧ ∀ j, j ≠ 23 → ρ 57 j = ρ0 57 j
theorem Sq.rf {σ ρ : SG} : Sq σ ρ σ ρ := ⟨Ag.rf, Ag.rf, AgR.rf, AgCL.rf, fun _ _ => rfl⟩
/-- one wave, alone -/
def Wv1 (σ ρ : SG) (i : Nat) : Prop := σ 51 i = ρ 82 i ∧ ((σ 51 i = -1) ∨ (0 ≤ σ 51 i ∧ σ 51 i ≤ 100 ∧ σ 52 i = ρ 83 i ∧ 0 ≤ σ 52 i ∧ σ 52 i ≤ 300))
/-- the waves from nx up to k, alone -/
def Wv (nx : Nat) (σ ρ : SG) (k : Nat) : Prop := ∀ i, nx ≤ i → i < k → Wv1 σ ρ i
theorem wave1_ok {σ0 ρ0 σ ρ : SG} {S J m q s w : Nat} (R : Rl σ0 ρ0 S J m q) (I : IJud σ0 ρ0 J) (hs : s < m) (hw : w < q) (hq : Sq σ0 ρ0 σ ρ) :
    ∃ σ' ρ', X0_readWaves_l8 1000 (39 + 2 * s) (w : Int) σ = some (.inl ((w : Int) + 1, σ')) ∧ X12_plan_l78 1000 (s : Int) (w : Int) ρ = some (.inl ((w : Int) + 1, ρ')) ∧ Sq σ0 ρ0 σ' ρ' ∧ Wv1 σ' ρ' w ∧ ∀ i, i ≠ w → σ' 51 i = σ 51 i ∧ σ' 52 i = σ 52 i ∧ ρ' 82 i = ρ 82 i ∧ ρ' 83 i = ρ 83 i := by
  have hJ := R.use.2.1
  have R1 := R.ag hq.1 hq.2.1
  have I1 := I.ag hJ hq.1.J hq.2.1.J
  obtain ⟨hS, -, hU, hUJ, -, -, hC⟩ := R1.use
  obtain ⟨⟨n1, n2, r1, r2, r3, n3, n4, n7, n8⟩, n5, n6, n9⟩ := R1.num
  obtain ⟨-, ⟨x4, x5, x6⟩, -⟩ := R1.heat
  have n9' : ρ 60 2 = σ S 7 := by rcases n9 with ⟨-, -, h⟩ | ⟨-, h, -⟩ <;> omega
  obtain ⟨v0, v1, v2, -⟩ := R1.seaW hw
  have v00 : ρ 60 (44 + 5 * w) = σ (S + 5) (5 * w) := v0 0 (by decide)
  obtain ⟨⟨p1, p2, p3⟩, -, ⟨b1, b2, b3⟩, -, -, ⟨o1, o2, o3, o4⟩, -⟩ := R1.sw hs
  obtain ⟨z1, z2, z3, z4⟩ := R1.sp hs
  -- both searches
  obtain ⟨-, ρ2, -, k2, ⟨-, k4, -, k6, k7, k8, -, -⟩, -, -, -, -⟩ := find_ok (alone := 1) R1 I1 hs hw (Or.inl rfl)
  obtain ⟨σ3, ρ3, l1, l2, ⟨l3, l4, l5, l6, l7, l8, l9, l10⟩, q1, q2, q3, q4⟩ := find_ok (alone := 1) (σ0 := up σ 51 w (-1)) (R1.ag (Ag.rf.up rfl) Ag.rf) (I1.ag hJ (Ag.J (Ag.rf.up rfl)) AgJ.rf) hs hw (Or.inl rfl)
  rw [k2] at l2
  cases l2
  have c26 : ρ2 57 26 = σ 19 10 := (k7 26 (by decide)).trans x4
  have c60 : ρ2 60 = ρ 60 := k8 60 (by decide) (by decide) (by decide) (by decide)
  have c78 : ρ2 78 = ρ 78 := k8 78 (by decide) (by decide) (by decide) (by decide)
  have c70 : ρ2 70 = ρ 70 := k8 70 (by decide) (by decide) (by decide) (by decide)
  have c82 : ρ2 82 = ρ 82 := k8 82 (by decide) (by decide) (by decide) (by decide)
  have c83 : ρ2 83 = ρ 83 := k8 83 (by decide) (by decide) (by decide) (by decide)
  have hR1 : ∀ Q : (Int × SG) ⊕ SG → Prop, wp (X12_plan_l78 1000 (s : Int) (w : Int) ρ) Q ↔ wp (X12_plan_l78 1000 (s : Int) (w : Int) ρ) Q := fun _ => Iff.rfl
  -- the reference: not taken
  have rno : ∀ Q : (Int × SG) ⊕ SG → Prop, Q (.inl ((w : Int) + 1, up (up ρ2 82 w (-1)) 83 w 0)) → wp (X12_plan_j154 1000 ρ2 (w : Int) (s : Int) 0) Q := fun Q hQ => by
    unfold X12_plan_j154 X12_plan_j176 X12_plan_j228
    exact wp_bind (wp_ifT rfl (wp_some (wp_rdn (by omega) (by omega) (wp_lt (wp_bind (wp_ifT rfl (wp_some (wp_rdn (by omega) (by omega) (wp_lt (wp_lt (wp_some hQ)))))))))))
  have gno : Sq σ0 ρ0 (up σ 51 w (-1)) (up (up ρ2 82 w (-1)) 83 w 0) := ⟨hq.1.up rfl, ((hq.2.1.tr k4).up rfl).up rfl, hq.2.2.1.up (by decide), ((hq.2.2.2.1.tr k6).up (by decide)).up (by decide), fun j hj => by rw [up_ne (by omega), up_ne (by omega), k7 j hj]; exact hq.2.2.2.2 j hj⟩
  have hfact : ∀ (Q : Int → Prop), Q (σ (S + 5) (5 * w)) → wp (X6_factOf 1000 S (w : Int) 0 σ) Q := fun Q h => wp_fact0 w rfl rfl (by omega) h
  have hofw : ∀ (Q : Int → Prop) (ρ' : SG), ρ' 60 = ρ 60 → Q (σ (S + 5) (5 * w)) → wp (X12_ofWave 1000 (w : Int) 0 ρ') Q := fun Q ρ' h1 h => wp_ofWave0 w rfl rfl (by omega) (by rw [h1, v00]; exact h)
  have none1 : Wv1 (up σ 51 w (-1)) (up (up ρ2 82 w (-1)) 83 w 0) w := ⟨by (simp (disch := omega) only [up_eq, up_ne, w32i, mx32_m, mn32_m, ab32_m]), Or.inl (by (simp (disch := omega) only [up_eq, up_ne, w32i, mx32_m, mn32_m, ab32_m]))⟩
  have none2 : ∀ i, i ≠ w → up σ 51 w (-1) 51 i = σ 51 i ∧ up σ 51 w (-1) 52 i = σ 52 i ∧ up (up ρ2 82 w (-1)) 83 w 0 82 i = ρ 82 i ∧ up (up ρ2 82 w (-1)) 83 w 0 83 i = ρ 83 i := fun i hi => by
    simp (disch := omega) only [up_ne]
    rw [c82, c83]
    exact ⟨trivial, trivial, rfl, rfl⟩
  have e19 : up σ 51 w (-1) 19 0 = (S : Int) := by (simp (disch := omega) only [up_eq, up_ne, w32i, mx32_m, mn32_m, ab32_m]); exact hU
  -- is there a ride
  by_cases t1 : σ (S + 5) (5 * w) ≤ σ 19 10 + σ S 7
  · by_cases t2 : σ (39 + 2 * s) 6 = 0 ∧ σ (S + 5) (5 * w) < σ (39 + 2 * s) 8
    · refine ⟨_, _, of_wp ?_, of_wp ?_, gno, none1, none2⟩
      · unfold X0_readWaves_l8 X0_readWaves_j118
        refine wp_ckI S hU (isSea_S hS) (wp_ifF (by (focus ((try simp (disch := omega) only [up_eq, up_ne, w32i, mx32_m, mn32_m, ab32_m]) <;> omega))) (wp_ckI S hU (isSea_S hS) (wp_bind (hfact _ (wp_rdn (by omega) (by omega) (wp_lt (wp_ckI S e19 (isSea_S hS) (wp_bind (wp_ifF (by (focus ((try simp (disch := omega) only [up_eq, up_ne, w32i, mx32_m, mn32_m, ab32_m]) <;> omega))) (wp_ifT (by (focus ((try simp (disch := omega) only [up_eq, up_ne, w32i, mx32_m, mn32_m, ab32_m]) <;> omega))) (wp_ifT (by (focus ((try simp (disch := omega) only [up_eq, up_ne, w32i, mx32_m, mn32_m, ab32_m]) <;> omega))) (wp_some (wp_lt (wp_some rfl))))))))))))))
      · unfold X12_plan_l78
        refine wp_rdI 1 rfl (by decide) (by decide) (wp_ifF (by (focus ((try simp (disch := omega) only [up_eq, up_ne, w32i, mx32_m, mn32_m, ab32_m]) <;> omega))) (wp_bind (wp_of k2 (wp_rdI 0 rfl (by decide) (by decide) (wp_bind ?_)))))
        by_cases c : ρ2 81 0 = -1
        · exact wp_ifT (by rw [c]; rfl) (wp_some (rno _ rfl))
        · refine wp_ifF (by rw [← q1] at c ⊢; rw [w32i (by omega)]; exact c) (wp_bind (hofw _ _ c60 (wp_rdI 2 rfl (by decide) (by decide) (wp_ifF (by rw [c26, c60, n9', w32i (by omega), w32i (by omega)]; omega) (wp_rdn (by omega) (by omega) (wp_ifT (by rw [c78, o1, t2.1]; rfl) (wp_bind (hofw _ _ c60 (wp_rdn (by omega) (by omega) (wp_ifT (by rw [c70, b1, w32i (by omega), w32i (by omega)]; omega) (wp_some (rno _ rfl))))))))))))
    · -- the class's search counts
      have hlen : -1 ≤ σ3 50 2 ∧ σ3 50 2 ≤ 20 := by rcases q4 with ⟨h, -⟩ | ⟨h1, h2, -⟩ <;> omega
      have d19 : σ3 (39 + 2 * s) = σ (39 + 2 * s) := by rw [l9 _ (by omega) (by omega) (by omega) (by omega), up_rw (by omega)]
      have hmin : ∀ Q : Int → Prop, Q (mnt (σ (S + 4) s) (max 0 (σ3 50 2))) → wp (X9_minutesFor 1000 (39 + 2 * s) (mx32 0 (up σ3 51 w (σ3 50 4) 50 2)) (up σ3 51 w (σ3 50 4))) Q := fun Q h => by
        rw [up_ne (by omega), mx32_m (by omega)]
        exact wp_of (minutes_ok (by rw [up_ne (by omega), d19]; exact z1) ⟨z3, z4⟩ (by omega)) h
      have hcls : ∀ Q : (Int × SG) ⊕ SG → Prop, Q (.inl ((w : Int) + 1, up (up σ3 51 w (σ3 50 4)) 52 w (σ (S + 5) (5 * w) + 1 + mnt (σ (S + 4) s) (max 0 (σ3 50 2))))) → wp (X0_readWaves_l8 1000 (39 + 2 * s) (w : Int) σ) Q := fun Q hQ => by
        unfold X0_readWaves_l8 X0_readWaves_j118
        refine wp_ckI S hU (isSea_S hS) (wp_ifF (by (focus ((try simp (disch := omega) only [up_eq, up_ne, w32i, mx32_m, mn32_m, ab32_m]) <;> omega))) (wp_ckI S hU (isSea_S hS) (wp_bind (hfact _ (wp_rdn (by omega) (by omega) (wp_lt (wp_ckI S e19 (isSea_S hS) (wp_bind (wp_ifF (by (focus ((try simp (disch := omega) only [up_eq, up_ne, w32i, mx32_m, mn32_m, ab32_m]) <;> omega))) ?_)))))))))
        rcases o2 with o2 | o2
        · exact wp_ifT (by (focus ((try simp (disch := omega) only [up_eq, up_ne, w32i, mx32_m, mn32_m, ab32_m]) <;> omega))) (wp_ifF (by (focus ((try simp (disch := omega) only [up_eq, up_ne, w32i, mx32_m, mn32_m, ab32_m]) <;> omega))) (wp_bind (wp_of l1 (wp_rdn (by omega) (by omega) (wp_lt (wp_bind (hmin _ (wp_rdn (by omega) (by omega) (wp_lt (wp_some (wp_lt (wp_some hQ))))))))))))
        · exact wp_ifF (by (focus ((try simp (disch := omega) only [up_eq, up_ne, w32i, mx32_m, mn32_m, ab32_m]) <;> omega))) (wp_bind (wp_of l1 (wp_rdn (by omega) (by omega) (wp_lt (wp_bind (hmin _ (wp_rdn (by omega) (by omega) (wp_lt (wp_some (wp_lt (wp_some hQ)))))))))))
      have gC : ∀ (a b : Int), Sq σ0 ρ0 (up (up σ3 51 w (σ3 50 4)) 52 w (σ (S + 5) (5 * w) + 1 + mnt (σ (S + 4) s) (max 0 (σ3 50 2)))) (up (up ρ2 82 w a) 83 w b) := fun a b => ⟨(((hq.1.up (k := 51) rfl).tr l3).up rfl).up rfl, ((hq.2.1.tr k4).up rfl).up rfl, (((hq.2.2.1.up (k := 51) (by decide)).tr l5).up (by decide)).up (by decide), ((hq.2.2.2.1.tr k6).up (by decide)).up (by decide), fun j hj => by rw [up_ne (by omega), up_ne (by omega), k7 j hj]; exact hq.2.2.2.2 j hj⟩
      have d51 : σ3 51 = (up σ 51 w (-1)) 51 := l9 51 (by omega) (by omega) (by omega) (by omega)
      have d52 : σ3 52 = (up σ 51 w (-1)) 52 := l9 52 (by omega) (by omega) (by omega) (by omega)
      have oC : ∀ (a b : Int), ∀ i, i ≠ w → up (up σ3 51 w (σ3 50 4)) 52 w (σ (S + 5) (5 * w) + 1 + mnt (σ (S + 4) s) (max 0 (σ3 50 2))) 51 i = σ 51 i ∧ up (up σ3 51 w (σ3 50 4)) 52 w (σ (S + 5) (5 * w) + 1 + mnt (σ (S + 4) s) (max 0 (σ3 50 2))) 52 i = σ 52 i ∧ up (up ρ2 82 w a) 83 w b 82 i = ρ 82 i ∧ up (up ρ2 82 w a) 83 w b 83 i = ρ 83 i := fun a b i hi => by
        simp (disch := omega) only [up_ne]
        rw [d51, d52, c82, c83]
        simp (disch := omega) only [up_ne]
        exact ⟨trivial, trivial, trivial, trivial⟩
      by_cases c : ρ2 81 0 = -1
      · refine ⟨_, _, of_wp (hcls _ rfl), of_wp ?_, gC (-1) 0, ⟨?_, Or.inl ?_⟩, oC (-1) 0⟩
        · unfold X12_plan_l78
          exact wp_rdI 1 rfl (by decide) (by decide) (wp_ifF (by (focus ((try simp (disch := omega) only [up_eq, up_ne, w32i, mx32_m, mn32_m, ab32_m]) <;> omega))) (wp_bind (wp_of k2 (wp_rdI 0 rfl (by decide) (by decide) (wp_bind (wp_ifT (by rw [c]; rfl) (wp_some (rno _ rfl))))))))
        · (simp (disch := omega) only [up_eq, up_ne, w32i, mx32_m, mn32_m, ab32_m])
          omega
        · (simp (disch := omega) only [up_eq, up_ne, w32i, mx32_m, mn32_m, ab32_m])
          omega
      · have hne : 1 ≤ σ3 50 2 ∧ 0 ≤ σ3 50 4 ∧ σ3 50 4 ≤ 100 := by rcases q4 with ⟨h, -⟩ | ⟨h1, h2, h3, h4, h5⟩ <;> omega
        have mb := mnt_b (sp := σ (S + 4) s) (p := max 0 (σ3 50 2)) ⟨z3, z4⟩ (by omega)
        have ryes : ∀ Q : (Int × SG) ⊕ SG → Prop, Q (.inl ((w : Int) + 1, up (up ρ2 82 w (ρ2 81 2)) 83 w (σ (S + 5) (5 * w) + 1 + mnt (σ (S + 4) s) (max 0 (σ3 50 2))))) → wp (X12_plan_j154 1000 ρ2 (w : Int) (s : Int) 1) Q := fun Q hQ => by
          unfold X12_plan_j154 X12_plan_j176 X12_plan_j228
          have e60 : (up ρ2 82 w (ρ2 81 2)) 60 = ρ 60 := by rw [up_rw (by omega), c60]
          refine wp_bind (wp_ifF (by decide) (wp_rdI 2 rfl (by decide) (by decide) (wp_some (wp_rdn (by omega) (by omega) (wp_lt (wp_bind (wp_ifF (by decide) (wp_bind (hofw _ _ e60 (wp_rdI 0 rfl (by decide) (by decide) (wp_rdI (39 + s) (by omega) (by omega) (by decide) (wp_rdI (39 + s) (by omega) (by omega) (by decide) (wp_ifF ?_ (wp_some (wp_rdn (by omega) (by omega) (wp_lt (wp_lt (wp_some ?_))))))))))))))))))
          · rw [e60, z2, w32i (by omega)]
            omega
          · rw [e60, z2, up_ne (by omega), ← q1, dv32_m ⟨z3, z4⟩ (by omega), show σ3 50 2 = max 0 (σ3 50 2) by omega]
            exact hQ
        refine ⟨_, _, of_wp (hcls _ rfl), of_wp ?_, gC (ρ2 81 2) (σ (S + 5) (5 * w) + 1 + mnt (σ (S + 4) s) (max 0 (σ3 50 2))), ⟨?_, Or.inr ⟨?_, ?_, ?_, ?_, ?_⟩⟩, oC _ _⟩
        · unfold X12_plan_l78
          refine wp_rdI 1 rfl (by decide) (by decide) (wp_ifF (by (focus ((try simp (disch := omega) only [up_eq, up_ne, w32i, mx32_m, mn32_m, ab32_m]) <;> omega))) (wp_bind (wp_of k2 (wp_rdI 0 rfl (by decide) (by decide) (wp_bind ?_)))))
          refine wp_ifF (by rw [← q1] at c ⊢; rw [w32i (by omega)]; exact c) (wp_bind (hofw _ _ c60 (wp_rdI 2 rfl (by decide) (by decide) (wp_ifF (by rw [c26, c60, n9', w32i (by omega), w32i (by omega)]; omega) (wp_rdn (by omega) (by omega) ?_)))))
          rcases o2 with o2 | o2
          · exact wp_ifT (by rw [c78, o1, o2]; rfl) (wp_bind (hofw _ _ c60 (wp_rdn (by omega) (by omega) (wp_ifF (by rw [c70, b1, w32i (by omega), w32i (by omega)]; omega) (wp_some (ryes _ rfl))))))
          · exact wp_ifF (by rw [c78, o1, o2]; decide) (wp_some (ryes _ rfl))
        · (simp (disch := omega) only [up_eq, up_ne, w32i, mx32_m, mn32_m, ab32_m])
          exact q3
        · (simp (disch := omega) only [up_eq, up_ne, w32i, mx32_m, mn32_m, ab32_m])
          omega
        · (simp (disch := omega) only [up_eq, up_ne, w32i, mx32_m, mn32_m, ab32_m])
          omega
        · (simp (disch := omega) only [up_eq, up_ne, w32i, mx32_m, mn32_m, ab32_m])
        · (simp (disch := omega) only [up_eq, up_ne, w32i, mx32_m, mn32_m, ab32_m])
          omega
        · (simp (disch := omega) only [up_eq, up_ne, w32i, mx32_m, mn32_m, ab32_m])
          omega
  · refine ⟨_, _, of_wp ?_, of_wp ?_, gno, none1, none2⟩
    · unfold X0_readWaves_l8 X0_readWaves_j118
      refine wp_ckI S hU (isSea_S hS) (wp_ifF (by (focus ((try simp (disch := omega) only [up_eq, up_ne, w32i, mx32_m, mn32_m, ab32_m]) <;> omega))) (wp_ckI S hU (isSea_S hS) (wp_bind (hfact _ (wp_rdn (by omega) (by omega) (wp_lt (wp_ckI S e19 (isSea_S hS) (wp_bind (wp_ifT (by (focus ((try simp (disch := omega) only [up_eq, up_ne, w32i, mx32_m, mn32_m, ab32_m]) <;> omega))) (wp_some (wp_lt (wp_some rfl))))))))))))
    · unfold X12_plan_l78
      refine wp_rdI 1 rfl (by decide) (by decide) (wp_ifF (by (focus ((try simp (disch := omega) only [up_eq, up_ne, w32i, mx32_m, mn32_m, ab32_m]) <;> omega))) (wp_bind (wp_of k2 (wp_rdI 0 rfl (by decide) (by decide) (wp_bind ?_)))))
      by_cases c : ρ2 81 0 = -1
      · exact wp_ifT (by rw [c]; rfl) (wp_some (rno _ rfl))
      · refine wp_ifF (by rw [← q1] at c ⊢; rw [w32i (by omega)]; exact c) (wp_bind (hofw _ _ c60 (wp_rdI 2 rfl (by decide) (by decide) (wp_ifT (by rw [c26, c60, n9', w32i (by omega), w32i (by omega)]; omega) (wp_some (rno _ rfl))))))
theorem waves_ok {σ0 ρ0 : SG} {S J m q s nx : Nat} (R : Rl σ0 ρ0 S J m q) (I : IJud σ0 ρ0 J) (hs : s < m) (hx : σ0 19 12 = (nx : Int)) :
    ∃ σ' ρ', X0_readWaves 1000 (39 + 2 * s) σ0 = some σ' ∧ iter 1000 (fun z : Int × SG => X12_plan_l78 1000 (s : Int) z.1 z.2) ((nx : Int), ρ0) = some ρ' ∧ Sq σ0 ρ0 σ' ρ' ∧ Wv nx σ' ρ' q := by
  have hnq : nx ≤ q := by have := R.heat.2.2.1; omega
  have hq20 := R.num.2.2.1
  obtain ⟨b, b', y1, y2, y3, y4⟩ := wp_loop2 (f := fun z : Int × SG => X0_readWaves_l8 1000 (39 + 2 * s) z.1 z.2) (g := fun z : Int × SG => X12_plan_l78 1000 (s : Int) z.1 z.2) (n := 1000) (n' := 1000) (a := ((nx : Int), σ0)) (a' := ((nx : Int), ρ0))
    (Q := fun b b' => Sq σ0 ρ0 b b' ∧ Wv nx b b' q) (fun k z z' => z.1 = ((nx + k : Nat) : Int) ∧ z'.1 = ((nx + k : Nat) : Int) ∧ Sq σ0 ρ0 z.2 z'.2 ∧ Wv nx z.2 z'.2 (nx + k)) (q - nx) (by
      rintro k ⟨z1, σ⟩ ⟨z1', ρ⟩ hk ⟨e1, e1', e2, e3⟩
      obtain rfl : z1 = ((nx + k : Nat) : Int) := e1
      obtain rfl : z1' = ((nx + k : Nat) : Int) := e1'
      have e2 : Sq σ0 ρ0 σ ρ := e2
      have e3 : Wv nx σ ρ (nx + k) := e3
      dsimp only
      by_cases hkq : nx + k = q
      · have R1 := R.ag e2.1 e2.2.1
        obtain ⟨hS, -, hU, -⟩ := R1.use
        obtain ⟨⟨n1, n2, r1, r2, -⟩, n5, n6, n9⟩ := R1.num
        unfold X0_readWaves_l8 X12_plan_l78
        exact wp_ckI S hU (isSea_S hS) (wp_ifT (by rw [n2, w32i (by omega), w32i (by omega)]; omega) (wp_some (wp_rdI 1 rfl (by decide) (by decide) (wp_ifT (by rw [r2, w32i (by omega), w32i (by omega)]; omega) (wp_some (Or.inr ⟨_, _, rfl, rfl, e2, by rw [← hkq]; exact e3⟩))))))
      · obtain ⟨σ', ρ', k1, k2, k3, k4, k5⟩ := wave1_ok R I hs (show nx + k < q by omega) e2
        refine wp_of k1 (wp_of k2 (Or.inl ⟨_, _, rfl, rfl, by omega, by simp only []; omega, by simp only []; omega, k3, fun i h1 h2 => ?_⟩))
        by_cases c : i = nx + k
        · rw [c]; exact k4
        · obtain ⟨m1, m2, m3, m4⟩ := k5 i c
          have := e3 i h1 (by omega)
          unfold Wv1 at *
          dsimp only
          rw [m1, m2, m3, m4]
          exact this) ⟨rfl, rfl, Sq.rf, fun i h1 h2 => absurd h2 (by omega)⟩ (by omega) (by omega)
  refine ⟨b, b', of_wp ?_, y2, y3, y4⟩
  unfold X0_readWaves
  rw [hx]
  refine wp_lt (wp_bind (wp_of y1 ?_))
  unfold X0_readWaves_e8
  exact wp_some rfl
/-- the plan's three numbers -/
def P3 (σ0 : SG) (c : SG) (a : Int × Int × Int) : Prop := (∀ k j, ¬ (k = 50 ∧ (j = 5 ∨ j = 6 ∨ j = 7)) → c k j = σ0 k j) ∧ c 50 5 = a.1 ∧ c 50 6 = a.2.1 ∧ c 50 7 = a.2.2 ∧ 0 ≤ a.1 ∧ a.1 ≤ 200
theorem comparePlan_ok {σ0 σ : SG} {a : Int × Int × Int} {t x y : Int} {n : Nat} (h : P3 σ0 σ a) (ht : 0 ≤ t ∧ t ≤ 200) : ∃ σ', X0_comparePlan n t x y σ = some σ' ∧ P3 σ0 σ' (if a.1 < t then (t, x, y) else a) := by
  obtain ⟨h1, h2, h3, h4, h5, h6⟩ := h
  unfold X0_comparePlan
  by_cases c : a.1 < t
  · refine ⟨up (up (up σ 50 5 t) 50 6 x) 50 7 y, of_wp (wp_ifF (by rw [h2, w32i (by omega), w32i (by omega)]; omega) (wp_lt (wp_lt (wp_lt (wp_some rfl))))), ?_⟩
    rw [if_pos c]
    refine ⟨fun k j hk => ?_, ?_, ?_, ?_, ht.1, ht.2⟩
    · rw [up_ne (by omega), up_ne (by omega), up_ne (by omega)]
      exact h1 k j hk
    · (simp (disch := omega) only [up_eq, up_ne, w32i, mx32_m, mn32_m, ab32_m])
    · (simp (disch := omega) only [up_eq, up_ne, w32i, mx32_m, mn32_m, ab32_m])
    · (simp (disch := omega) only [up_eq, up_ne, w32i, mx32_m, mn32_m, ab32_m])
  · refine ⟨σ, of_wp (wp_ifT (by rw [h2, w32i (by omega), w32i (by omega)]; omega) (wp_some rfl)), ?_⟩
    rw [if_neg c]
    exact ⟨h1, h2, h3, h4, h5, h6⟩
