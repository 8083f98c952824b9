/-! ===== comes ===== -/
theorem Rl.cgs {σ ρ σ' ρ' : SG} {S J m q : Nat} (R : Rl σ ρ S J m q) (a : AgC σ σ') (b : AgR ρ ρ') : Rl σ' ρ' S J m q := by
  have hS := R.use.1
  have hm := R.num.2.1
  have ra : ∀ k, k < 57 → σ' k = σ k := a
  have rb : ∀ k, 57 ≤ k → k < 84 → ρ' k = ρ k := fun k h1 h2 => b k h1 (by omega)
  have r57 : ρ' 57 = ρ 57 := rb 57 (by omega) (by omega)
  have r19 : σ' 19 = σ 19 := ra 19 (by omega)
  have w1 : ∀ s, s < 5 → σ' (39 + 2 * s) = σ (39 + 2 * s) := fun s hs => ra _ (by omega)
  have w2 : ∀ s, s < 5 → σ' (40 + 2 * s) = σ (40 + 2 * s) := fun s hs => ra _ (by omega)
  refine ⟨R.use.cg (by rw [ra 0 (by omega)]) (by rw [ra 0 (by omega)]) (by rw [r19]) (by rw [r19]) (ra 34 (by omega)) (fun s hs => by rw [w1 s hs]), R.num.cg (ra S (by omega)) (rb 60 (by omega) (by omega)) (by rw [r57]), fun s hs => (R.seaS hs).cg (fun i _ hi => ra _ (by omega)) (rb 60 (by omega) (by omega)), fun w hw => (R.seaW hw).cg (fun i _ hi => ra _ (by omega)) (rb 60 (by omega) (by omega)),
    R.heat.cg (ra _ (by omega)) (fun j _ => by rw [r19]) (fun j _ _ _ _ _ _ => by rw [r57]), R.row.cg (ra 35 (by omega)) (ra 36 (by omega)) (rb 76 (by omega) (by omega)) (by rw [r57]) (by rw [r57]) (fun s hs => ?_), R.seen.cg (by rw [r19]) (ra 38 (by omega)) (by rw [r57]) (rb 77 (by omega) (by omega)),
    fun s hs => (R.sw hs).cg (w1 s (by omega)) (by rw [r19]) (by rw [r19]) (ra _ (by omega)) (fun k h1 h2 _ _ => by rw [rb k (by omega) (by omega)]), fun s hs => (R.rid hs).cg (by rw [w1 s (by omega)]) (by rw [w1 s (by omega)]) (by rw [w1 s (by omega)]) (w2 s (by omega)) (by rw [r19]) (by rw [r19]) (rb 79 (by omega) (by omega)), ?_,
    R.gone.cg (by rw [r19]) (by rw [r19]) (ra 37 (by omega)) (fun s hs => ⟨w2 s (by omega), by rw [w1 s (by omega)]⟩)⟩
  · unfold awy
    rw [w1 s (by omega)]
    exact ⟨Iff.rfl, rfl⟩
  · rw [r57, R.bits]
    exact msk_cg (fun s hs => by rw [w1 s (by omega)])
theorem IJud.cgs {σ ρ σ' ρ' : SG} {J : Nat} (hJ : J = 7 ∨ J = 26) (I : IJud σ ρ J) (a : AgC σ σ') (b : AgR ρ ρ') : IJud σ' ρ' J := by
  have ea : ∀ i, i < 6 → σ' (J + i) = σ (J + i) := fun i hi => a _ (by omega)
  have e0 : σ' J = σ J := ea 0 (by decide)
  have b57 : ρ' 57 = ρ 57 := b 57 (by decide) (by decide)
  have b62 : ρ' 62 = ρ 62 := b 62 (by decide) (by decide)
  have b64 : ρ' 64 = ρ 64 := b 64 (by decide) (by decide)
  unfold IJud ILine at *
  rw [e0, ea 1 (by decide), ea 2 (by decide), ea 3 (by decide), ea 4 (by decide), ea 5 (by decide), b57, b62, b64]
  exact I
def FcC (J : Nat) (σ σ' : SG) : Prop := ∀ c j, ¬ (c = 19 ∧ 6 ≤ j) → ¬ (35 ≤ c ∧ c ≤ 38) → ¬ (39 ≤ c ∧ c ≤ 48) → ¬ (c = J ∧ 9 ≤ j) → c ≠ J + 6 → c ≠ J + 7 → σ' c j = σ c j
def FcR (ρ ρ' : SG) : Prop := ∀ c j, ¬ (66 ≤ c ∧ c ≤ 72) → ¬ (76 ≤ c ∧ c ≤ 80) → ¬ (c = 57 ∧ (j = 0 ∨ j = 23 ∨ 25 ≤ j)) → ρ' c j = ρ c j
theorem up_id {σ : SG} {k j : Nat} {v : Int} (h : σ k j = v) : up σ k j v = σ := by
  funext a b
  by_cases c : a = k ∧ b = j
  · rw [c.1, c.2, up_eq rfl rfl, h]
  · exact up_ne c
theorem next_ok {σ ρ : SG} {S J m q : Nat} (R : Rl σ ρ S J m q) (h13 : σ 19 13 = -1) (h14 : σ 19 14 = 0) : ∃ v σ' ρ', X1_nextWave_j21 1000 σ = some (v, σ') ∧ X12_comes_j26 1000 ρ = some (v, ρ') ∧ Rl σ' ρ' S J m q ∧ FcC J σ σ' ∧ FcR ρ ρ' := by
  obtain ⟨hS, hJ, hU, -⟩ := R.use
  obtain ⟨⟨n1, n2, r1, r2, r3, n3, n4, n7, n8⟩, n5, n6, n9⟩ := R.num
  obtain ⟨⟨x1, x2, x3⟩, ⟨y1, y2, y3⟩, ⟨z1, z2, z3, z4, z5⟩, -, ⟨t1, t2⟩, -, hm⟩ := R.heat
  obtain ⟨nx, hx⟩ := nat_of z3
  have e35 : ρ 57 35 = 0 := t1.trans h14
  by_cases c : nx = q
  · subst c
    refine ⟨-1, up σ 19 14 1, up ρ 57 35 1, of_wp ?_, of_wp ?_, R.over h13, fun a j i1 i2 i3 i4 i5 i6 => up_ne (by omega), fun a j i1 i2 i3 => up_ne (by omega)⟩
    · unfold X1_nextWave_j21
      exact wp_ckI S hU (isSea_S hS) (wp_ifF (by rw [hx, n2]; exact Int.lt_irrefl _) (wp_lt (wp_some rfl)))
    · unfold X12_comes_j26 X12_comes_j45
      refine wp_rdI 1 rfl (by decide) (by decide) (wp_bind (wp_ifT (by rw [z2, hx, r2]) (wp_some (wp_ifT (Or.inr rfl) (wp_lt (wp_ifF ?_ (wp_some rfl)))))))
      rw [up_eq rfl rfl]
      decide
  · have hq : nx < q := by omega
    obtain ⟨v0, v1, v2, -⟩ := R.seaW hq
    have hM := v1
    obtain ⟨M, hMe⟩ : ∃ M, M = σ (S + 5) (5 * nx) := ⟨_, rfl⟩
    rw [← hMe] at v1 v2
    have hv0 : ρ 60 (44 + 5 * nx) = M := by rw [hMe]; exact v0 0 (by decide)
    obtain ⟨σ8, ρ8, a1, a2, R8, a4, a5⟩ := again_ok (M := M) R (by omega)
    obtain ⟨⟨m1, m2, q1, q2, q3, m3, m4, m7, m8⟩, m5, m6, m9⟩ := R8.num
    obtain ⟨⟨X1, X2, X3⟩, ⟨Y1, Y2, Y3⟩, ⟨Z1, Z2, Z3, Z4, Z5⟩, -, ⟨T1, T2⟩, -, Hm⟩ := R8.heat
    have g12 : σ8 19 12 = (nx : Int) := (a4 19 12 (by omega)).trans hx
    have g13 : σ8 19 13 = -1 := (a4 19 13 (by omega)).trans h13
    have g14 : σ8 19 14 = 0 := (a4 19 14 (by omega)).trans h14
    have gM : σ8 (S + 5) (5 * nx) = M := (a4 _ _ (by omega)).trans hMe.symm
    have hU8 : σ8 19 0 = (S : Int) := R8.use.2.2.1
    have g60 : ρ8 60 2 = σ8 S 7 := by
      rcases m9 with ⟨-, -, h⟩ | ⟨-, -, h, -⟩
      · exact h
      · omega
    have hA : ∀ Q : Int × SG → Prop, wp (ckR isSea (σ8 19 0) fun k9 => if w32 M ≤ w32 ((σ8 19 10) + (σ8 k9 7)) then (X1_passTo 1000 M σ8).bind fun σ11 => lt (up σ11 19 13 (σ11 19 12)) fun σ12 => lt (up σ12 19 12 ((σ12 19 12) + 1)) fun σ13 => some (((σ13 19 13), σ13)) else lt (up σ8 19 14 1) fun σ14 => some (((-1), σ14))) Q → wp (X1_nextWave_j21 1000 σ) Q := fun Q hQ => by
      unfold X1_nextWave_j21
      refine wp_ckI S hU (isSea_S hS) (wp_ifT (by rw [hx, n2, w32i (by omega), w32i (by omega)]; omega) (wp_ckI S hU (isSea_S hS) (wp_bind (wp_fact0 nx hx rfl (by omega) ?_))))
      rw [← hMe]
      exact wp_bind (wp_of a1 hQ)
    have hB : ∀ Q : Int × SG → Prop, wp (X12_comes_e67 1000 M ρ8) Q → wp (X12_comes_j26 1000 ρ) Q := fun Q hQ => by
      unfold X12_comes_j26 X12_comes_j45
      refine wp_rdI 1 rfl (by decide) (by decide) (wp_bind (wp_ifF (by rw [z2, hx, r2, w32i (by omega), w32i (by omega)]; omega) (wp_some (wp_ifT (Or.inl rfl) (wp_lt ?_)))))
      rw [up_id e35]
      refine wp_ifT (by rw [e35]; rfl) (wp_bind (wp_ofWave0 nx (z2.trans hx) rfl (by omega) ?_))
      rw [hv0]
      exact wp_bind (wp_of a2 hQ)
    by_cases d : M ≤ σ8 19 10 + σ8 S 7
    · obtain ⟨σ9, ρ9, b1, b2, R9, b4, b5⟩ := swims_ok (M := M) R8 ⟨by rw [← gM]; exact Hm nx hq (by omega), by omega⟩
      have f12 : σ9 19 12 = (nx : Int) := (b4 19 12 (by omega)).trans g12
      have R9' := R9.minute f12 hq
      rw [b4 (S + 5) (5 * nx) (by omega), gM] at R9'
      obtain ⟨σ10, ρ10, c1, c2, R10, c4, c5⟩ := back_ok R9'
      have h12 : σ10 19 12 = (nx : Int) := by rw [c4 19 12 (by omega) (by omega), up_ne (by omega)]; exact f12
      have h13' : σ10 19 13 = -1 := by rw [c4 19 13 (by omega) (by omega), up_ne (by omega), b4 19 13 (by omega)]; exact g13
      have h14' : σ10 19 14 = 0 := by rw [c4 19 14 (by omega) (by omega), up_ne (by omega), b4 19 14 (by omega)]; exact g14
      have hr28 : ρ10 57 28 = (nx : Int) := R10.heat.2.2.1.2.1.trans h12
      refine ⟨(nx : Int), up (up σ10 19 13 (nx : Int)) 19 12 ((nx : Int) + 1), up (up ρ10 57 27 (nx : Int)) 57 28 ((nx : Int) + 1), of_wp (hA _ ?_), of_wp (hB _ ?_), R10.there h12 hq h13' h14', fun a j i1 i2 i3 i4 i5 i6 => ?_, fun a j i1 i2 i3 => ?_⟩
      · refine wp_ckI S hU8 (isSea_S hS) (wp_ifT (by rw [w32i (by omega), w32i (by omega)]; exact d) (wp_bind ?_))
        unfold X1_passTo X1_passTo_e2 X1_passTo_e53
        refine wp_bind (wp_of b1 (wp_lt (wp_bind (wp_of c1 (wp_some (wp_lt ?_))))))
        rw [h12]
        refine wp_lt (wp_some ?_)
        rw [up_ne (show ¬ (19 = 19 ∧ 12 = 13) by decide), h12, up_ne (show ¬ (19 = 19 ∧ 13 = 12) by decide), up_eq rfl rfl]
      · unfold X12_comes_e67 X12_comes_j147
        refine wp_rdI 2 rfl (by decide) (by decide) (wp_bind (wp_ifT (by rw [Y1, g60, w32i (by omega), w32i (by omega)]; exact d) (wp_some (wp_ifT (Or.inl rfl) (wp_lt ?_)))))
        rw [up_id (T1.trans g14)]
        refine wp_ifT (by rw [T1, g14]; rfl) ?_
        rw [X1]
        refine wp_bind (wp_of b2 (wp_lt (wp_bind (wp_of c2 (wp_lt ?_)))))
        rw [hr28]
        refine wp_lt (wp_some ?_)
        rw [up_ne (show ¬ (57 = 57 ∧ 28 = 27) by decide), hr28, up_ne (show ¬ (57 = 57 ∧ 27 = 28) by decide), up_eq rfl rfl]
      · rw [up_ne (by omega), up_ne (by omega), c4 a j (by omega) (by omega), up_ne (by omega), b4 a j (by omega), a4 a j (by omega)]
      · rw [up_ne (by omega), up_ne (by omega), c5 a j (by omega) (by omega), up_ne (by omega), b5 a j (by omega), a5 a j (by omega)]
    · refine ⟨-1, up σ8 19 14 1, up ρ8 57 35 1, of_wp (hA _ ?_), of_wp (hB _ ?_), R8.over g13, fun a j i1 i2 i3 i4 i5 i6 => ?_, fun a j i1 i2 i3 => ?_⟩
      · exact wp_ckI S hU8 (isSea_S hS) (wp_ifF (by rw [w32i (by omega), w32i (by omega)]; exact d) (wp_lt (wp_some rfl)))
      · unfold X12_comes_e67 X12_comes_j147
        refine wp_rdI 2 rfl (by decide) (by decide) (wp_bind (wp_ifF (by rw [Y1, g60, w32i (by omega), w32i (by omega)]; exact d) (wp_some (wp_ifT (Or.inr rfl) (wp_lt (wp_ifF ?_ (wp_some rfl)))))))
        rw [up_eq rfl rfl]
        decide
      · rw [up_ne (by omega), a4 a j (by omega)]
      · rw [up_ne (by omega), a5 a j (by omega)]
theorem comes_ok {σ ρ : SG} {S J m q : Nat} (R : Rl σ ρ S J m q) (I : IJud σ ρ J) : ∃ v σ' ρ', X11_comes 1000 σ = some (v, σ') ∧ X12_comes 1000 ρ = some (v, ρ') ∧ Rl σ' ρ' S J m q ∧ FcC J σ σ' ∧ FcR ρ ρ' := by
  have R0 := R.th (k := 0)
  have hJ := R.use.2.1
  have I0 : IJud σ (up ρ 57 0 0) J := I.ag hJ AgJ.rf (Ag.J (Ag.rf.up rfl))
  obtain ⟨-, -, ⟨z1, z2, z3, z4, z5⟩, -, ⟨t1, t2⟩, -⟩ := R0.heat
  have hA : ∀ v σ', X1_nextWave 1000 σ = some (v, σ') → X11_comes 1000 σ = some (v, σ') := fun v σ' h => by
    unfold X11_comes
    exact of_wp (wp_bnd2 (wp_of h (wp_some rfl)))
  rcases t2 with t2 | ⟨t2, t3⟩
  · by_cases c : σ 19 13 = -1
    · obtain ⟨v, σ', ρ', h1, h2, h3, h4, h5⟩ := next_ok R0 c t2
      refine ⟨v, σ', ρ', hA v σ' (of_wp ?_), of_wp ?_, h3, h4, fun a j i1 i2 i3 => (h5 a j i1 i2 i3).trans (up_ne (by omega))⟩
      · unfold X1_nextWave
        exact wp_ifT (by rw [t2]; rfl) (wp_bind (wp_ifT (by rw [c]; rfl) (wp_some (wp_of h1 rfl))))
      · unfold X12_comes
        exact wp_lt (wp_ifT (by rw [t1, t2]; rfl) (wp_bind (wp_ifT (by rw [z1, c]; rfl) (wp_some (wp_of h2 rfl)))))
    · obtain ⟨σ1, ρ1, u1, u2, R1, u4, u5, u6⟩ := goBy_ok R0 I0 c
      obtain ⟨v, σ', ρ', h1, h2, h3, h4, h5⟩ := next_ok R1 u4 (by rw [u5 19 14 (by omega) (by omega) (by omega) (by omega) (by omega) (by omega)]; exact t2)
      have hc : w32 (σ 19 13) ≠ -1 := by
        have := R.num.2.2.1
        rw [w32i (by omega)]
        exact c
      refine ⟨v, σ', ρ', hA v σ' (of_wp ?_), of_wp ?_, h3, fun a j i1 i2 i3 i4 i5 i6 => (h4 a j i1 i2 i3 i4 i5 i6).trans (u5 a j (by omega) i2 i3 i4 i5 i6), fun a j i1 i2 i3 => (h5 a j i1 i2 i3).trans ((u6 a j (by omega) (by omega) (by omega) (by omega)).trans (up_ne (by omega)))⟩
      · unfold X1_nextWave
        exact wp_ifT (by rw [t2]; rfl) (wp_bind (wp_ifF hc (wp_bind (wp_of u1 (wp_some (wp_of h1 rfl))))))
      · unfold X12_comes
        exact wp_lt (wp_ifT (by rw [t1, t2]; rfl) (wp_bind (wp_ifF (by rw [z1]; exact hc) (wp_bind (wp_of u2 (wp_some (wp_of h2 rfl)))))))
  · refine ⟨-1, σ, up ρ 57 0 0, hA _ _ (of_wp ?_), of_wp ?_, R0, fun _ _ _ _ _ _ _ _ => rfl, fun a j i1 i2 i3 => up_ne (by omega)⟩
    · unfold X1_nextWave
      exact wp_ifF (by rw [t2]; decide) (wp_some rfl)
    · unfold X12_comes
      exact wp_lt (wp_ifF (by rw [t1, t2]; decide) (wp_some rfl))
theorem G_6 {σ : SG} {S J m q : Nat} (R : Rl σ σ S J m q) (I : IJud σ σ J) : wp (X11_comes 1000 σ) (fun r => wp (X12_comes 1000 r.2) (PA σ r.2 (fun σ1 τ => Rl σ1 τ S J m q ∧ AgT σ σ1 ∧ AgT σ τ) r)) := by
  have hJ := R.use.2.1
  obtain ⟨v, σ', ρ', h1, -, -, h4, -⟩ := comes_ok R I
  have aR : AgR σ σ' := fun k hk _ => funext fun j => h4 k j (by omega) (by omega) (by omega) (by omega) (by omega) (by omega)
  obtain ⟨v2, σ2, ρ2, g1, g2, g3, g4, g5⟩ := comes_ok (R.cgs (fun _ _ => rfl) aR) (I.cgs hJ (fun _ _ => rfl) aR)
  rw [h1] at g1
  cases g1
  have aT : AgT σ σ' := fun k j d => by
    have := depT_cases d
    exact h4 k j (by omega) (by omega) (by omega) (by omega) (by omega) (by omega)
  refine wp_of h1 (wp_of g2 ⟨aR, ⟨fun k hk => funext fun j => g5 k j (by omega) (by omega) (by omega), funext fun j => g5 84 j (by omega) (by omega) (by omega)⟩, ⟨g3, aT, fun k j d => ?_⟩, rfl⟩)
  have := depT_cases d
  exact (g5 k j (by omega) (by omega) (by omega)).trans (aT k j d)
