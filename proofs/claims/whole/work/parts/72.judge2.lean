theorem judge1_ok {σ ρ : SG} {S J w s c : Nat} {hb h0 sp mn p ln tn wy mo fs f g : Int} (P : JP σ ρ S J w s c hb h0 sp mn p ln tn wy mo fs f g) :
    ∃ (sc hd : Int) (σ' ρ' : SG), X1_judgeRide 1000 (39 + 2 * s) ((w : Int) * 4) σ = some σ' ∧ X12_judges 1000 (s : Int) ρ = some ρ' ∧ (hd = if hb = 0 then 0 else 1) ∧ JQ σ ρ J w s c h0 sp mn ln mo f g sc hd σ' ρ' := by
  obtain ⟨v, sc, uj, σ1, ρ1, T, t1, t2, t3, t4, t5, t6, t7⟩ := told_ok P
  obtain ⟨⟨hS, hJ, hU, hUJ, hw, hs⟩, I, V, ⟨i1, i2, i3, i4, i5⟩, ⟨w1, w2⟩, ⟨x1, x2, x3, x4⟩, ⟨c1, c2, c3⟩, ⟨f1, f2, f3, f4⟩, hr, ⟨p1, p2, p3, p4⟩, ⟨y1, y2⟩, ⟨l1, l2, l3, l4⟩, ⟨n1, n2, n3, n4⟩, ⟨h1, h2, h3, h4⟩, hseen, ⟨j1, j2⟩, ⟨g1, g2, g3⟩, ⟨s1, s2, s3⟩, m1⟩ := P
  have hbb := bst_b (f := σ (40 + 2 * s)) (c := c) (fun i hi => (hr i hi).2)
  have k1 : ∀ j, σ1 (39 + 2 * s) j = σ (39 + 2 * s) j := fun j => t7 _ j (by omega) (by omega) (by omega)
  have k2 : ∀ j, σ1 (40 + 2 * s) j = σ (40 + 2 * s) j := fun j => t7 _ j (by omega) (by omega) (by omega)
  have k3 : ∀ j, σ1 37 j = σ 37 j := fun j => t7 _ j (by omega) (by omega) (by omega)
  have k4 : ∀ j, σ1 19 j = σ 19 j := fun j => t7 _ j (by omega) (by omega) (by omega)
  have k5 : ∀ j, σ1 38 j = σ 38 j := fun j => t7 _ j (by omega) (by omega) (by omega)
  -- the class: to the kept ride
  obtain ⟨hd, hhd⟩ : ∃ hd : Int, hd = if hb = 0 then 0 else 1 := ⟨_, rfl⟩
  have hhd2 : hd = 0 ∨ hd = 1 := by rw [hhd]; split; exact Or.inl rfl; exact Or.inr rfl
  obtain ⟨σ2, q1, q2, q3, q4, q5, q6, q7, q8⟩ := keepRide_ok (n := 1000) (σ := σ1) (s := s) (c := c) (sc := sc) (w := (w : Int)) (hd := hd) (uj := uj) (ln := ln) (tn := tn) (wy := wy) (f := f) (g := g) (by rw [k1]; exact c1) c3 (by rw [k1]; exact y1) (by rw [k1]; exact l1) (by rw [k1]; exact n1) (by rw [k1]; exact f1) (by rw [k1]; exact f2) (by rw [f3, f4]; exact ⟨hbb.1, hbb.2.1, hbb.2.2⟩) ⟨t1, t2⟩ hhd2
  have hA0 : ∀ Q : SG → Prop, wp ((if w32 hd = 0 then if 0 ≤ w32 v then (X1_keepSeen 1000 sc (up σ2 19 7 (σ2 19 7 + 1))).bind fun σ22 => some σ22 else lt (up (up σ2 19 7 (σ2 19 7 + 1)) 19 8 (up σ2 19 7 (σ2 19 7 + 1) 19 8 + 1)) fun σ23 => some σ23
      else lt (up (up σ2 19 7 (σ2 19 7 + 1)) (39 + 2 * s) 9 (up σ2 19 7 (σ2 19 7 + 1) (39 + 2 * s) 9 + 1)) fun σ24 => rdA 80 ((w : Int) * 4 + 3) fun j25 => rdA 80 ((w : Int) * 4 + 3) fun j26 => lt (up σ24 37 j26 (σ24 37 j25 + 1)) fun σ27 => some σ27 : Option SG)) (fun s' => wp (X1_judgeRide_j147 1000 ((w : Int) * 4) sc (39 + 2 * s) s') Q) → wp (X1_judgeRide 1000 (39 + 2 * s) ((w : Int) * 4) σ) Q := by
    intro Q hQ
    have hsc : mx32 0 v = sc := by
      rw [mx32_m (by omega)]
      omega
    have huj : wp (if 0 ≤ w32 v then some 0 else some (-v) : Option Int) (fun r => r = uj) := by
      by_cases c : 0 ≤ v
      · exact wp_ifT (by rw [w32i (by omega)]; exact c) (wp_some (by omega))
      · exact wp_ifF (by rw [w32i (by omega)]; exact c) (wp_some (by omega))
    have tail : ∀ y3 : Int, y3 = hd → wp (X1_judgeRide_j51 1000 (39 + 2 * s) y3 ((w : Int) * 4) v σ1) Q := by
      rintro _ rfl
      unfold X1_judgeRide_j51
      rw [hsc]
      refine wp_lt (wp_bind (wp_mono huj ?_))
      rintro _ rfl
      unfold X1_judgeRide_j81
      rw [k4, w1]
      exact wp_bind (wp_of q1 (wp_lt (wp_bind hQ)))
    unfold X1_judgeRide
    rw [y1, l1]
    refine wp_bind (wp_of i1 ?_)
    unfold X1_judgeRide_j21
    rcases T with ⟨e1, e2, -⟩ | ⟨e1, e2, -, -, e3, -⟩
    · have hd0 : hd = 0 := by rw [hhd, if_pos e1]
      refine wp_bind (wp_ifT (by rw [e1]; rfl) (wp_some (wp_bind (wp_ifT rfl ?_))))
      rw [w1, p1, l1, n1]
      exact wp_bnd2 (wp_of e2 (wp_some (tail 0 hd0.symm)))
    · have hd1 : hd = 1 := by rw [hhd, if_neg e1]
      subst e2 e3
      exact wp_bind (wp_ifF (by rw [w32i (by omega)]; exact e1) (wp_some (wp_bind (wp_ifF (by decide) (wp_some (tail 1 hd1.symm))))))
  -- the reference: to its kept ride
  obtain ⟨ρ2, hρ2⟩ : ∃ ρ2, ρ2 = up (up (up (up (up (up (up (up (up (up ρ1 79 (7 * (20 * s + c)) sc) 79 (7 * (20 * s + c) + 1) w) 79 (7 * (20 * s + c) + 2) ln) 79 (7 * (20 * s + c) + 3) tn) 79 (7 * (20 * s + c) + 4) wy) 79 (7 * (20 * s + c) + 5) hd) 79 (7 * (20 * s + c) + 6) uj) 72 s ((c : Int) + 1)) 57 31 (ρ 57 31 + 1)) 57 32 (ρ 57 32 + if uj = 0 then 0 else 1) := ⟨_, rfl⟩
  have r1 : ∀ k, k ≠ 66 → k ≠ 67 → k ≠ 57 → k ≠ 72 → k ≠ 79 → ρ2 k = ρ k := fun k h1 h2 h3 h4 h5 => by rw [hρ2]; simp (disch := omega) only [up_rw]; exact t6 k h1 h2 h3
  have r2 : ∀ j, j ≠ 23 → j ≠ 31 → j ≠ 32 → ρ2 57 j = ρ 57 j := fun j h1 h2 h3 => by rw [hρ2]; simp (disch := omega) only [up_ne]; exact t5 j h1
  have r3 : ρ2 57 23 = uj := by rw [hρ2]; simp (disch := omega) only [up_ne]; exact t3
  have r4 : ρ2 57 31 = ρ 57 31 + 1 := by rw [hρ2]; (simp (disch := omega) only [up_eq, up_ne, w32i, mx32_m, mn32_m, ab32_m])
  have r5 : ρ2 57 32 = ρ 57 32 + (if uj = 0 then 0 else 1) := by rw [hρ2]; (simp (disch := omega) only [up_eq, up_ne, w32i, mx32_m, mn32_m, ab32_m])
  have r6 : ρ2 72 s = (c : Int) + 1 := by rw [hρ2]; (simp (disch := omega) only [up_eq, up_ne, w32i, mx32_m, mn32_m, ab32_m])
  have r7 : ∀ t, t ≠ s → ρ2 72 t = ρ 72 t := fun t ht => by rw [hρ2]; simp (disch := omega) only [up_ne]; rw [t6 72 (by decide) (by decide) (by decide)]
  have r8 : ∀ i, i < 7 → ρ2 79 (7 * (20 * s + c) + i) = val sc w ln tn wy hd uj i := fun i hi => by
    rw [hρ2]
    have : i = 0 ∨ i = 1 ∨ i = 2 ∨ i = 3 ∨ i = 4 ∨ i = 5 ∨ i = 6 := by omega
    rcases this with rfl | rfl | rfl | rfl | rfl | rfl | rfl <;> simp (disch := omega) only [up_eq, up_ne] <;> rfl
  have r9 : ∀ j, ¬ (7 * (20 * s + c) ≤ j ∧ j < 7 * (20 * s + c) + 7) → ρ2 79 j = ρ 79 j := fun j hj => by rw [hρ2]; simp (disch := omega) only [up_ne]; rw [t6 79 (by decide) (by decide) (by decide)]
  have hB0 : ∀ Q : SG → Prop, wp ((if w32 hd = 0 then if w32 (ρ2 57 23) = 0 then (X12_sees 1000 sc ρ2).bind fun σ49 => some σ49 else some ρ2 else rdA 5 (s : Int) fun j50 => rdA 5 (s : Int) fun j51 => lt (up ρ2 71 j51 (ρ2 71 j50 + 1)) fun σ52 => some σ52 : Option SG)) (fun s' => wp (X12_judges_j235 1000 (s : Int) s') Q) → wp (X12_judges 1000 (s : Int) ρ) Q := by
    intro Q hQ
    have tail : ∀ y4 : Int, y4 = hd → wp (X12_judges_j70 1000 (7 * (20 * (s : Int) + ρ 72 s)) (s : Int) y4 sc ρ1) Q := by
      intro y4 e4
      rw [e4, c2]
      unfold X12_judges_j70 X12_judges_j150 X12_judges_j201
      refine wp_rdI (7 * (20 * s + c)) (by omega) (by omega) (by decide) (wp_lt (wp_rdI (7 * (20 * s + c) + 1) (by omega) (by omega) (by decide) (wp_lt ?_)))
      rw [show (up ρ1 79 (7 * (20 * s + c)) sc) 57 27 = (w : Int) by (simp (disch := omega) only [up_eq, up_ne, w32i, mx32_m, mn32_m, ab32_m]); rw [t5 27 (by decide)]; exact w2]
      refine wp_rdn (by omega) (by omega) (wp_rdI (7 * (20 * s + c) + 2) (by omega) (by omega) (by decide) (wp_lt ?_))
      rw [show (up (up ρ1 79 (7 * (20 * s + c)) sc) 79 (7 * (20 * s + c) + 1) w) 74 s = ln by (simp (disch := omega) only [up_eq, up_ne, w32i, mx32_m, mn32_m, ab32_m]); rw [t6 74 (by decide) (by decide) (by decide)]; exact l2]
      refine wp_rdn (by omega) (by omega) (wp_rdI (7 * (20 * s + c) + 3) (by omega) (by omega) (by decide) (wp_lt ?_))
      rw [show (up (up (up ρ1 79 (7 * (20 * s + c)) sc) 79 (7 * (20 * s + c) + 1) w) 79 (7 * (20 * s + c) + 2) ln) 75 s = tn by (simp (disch := omega) only [up_eq, up_ne, w32i, mx32_m, mn32_m, ab32_m]); rw [t6 75 (by decide) (by decide) (by decide)]; exact n2]
      refine wp_rdn (by omega) (by omega) (wp_rdI (7 * (20 * s + c) + 4) (by omega) (by omega) (by decide) (wp_lt ?_))
      rw [show (up (up (up (up ρ1 79 (7 * (20 * s + c)) sc) 79 (7 * (20 * s + c) + 1) w) 79 (7 * (20 * s + c) + 2) ln) 79 (7 * (20 * s + c) + 3) tn) 73 s = wy by (simp (disch := omega) only [up_eq, up_ne, w32i, mx32_m, mn32_m, ab32_m]); rw [t6 73 (by decide) (by decide) (by decide)]; exact y2]
      have hy : ∀ Q : Int → Prop, Q hd → wp (if w32 hd = 0 then some 0 else some 1 : Option Int) Q := fun Q hQ => by
        rcases hhd2 with h | h
        · exact wp_ifT (by rw [h]; rfl) (wp_some (by rw [← h]; exact hQ))
        · exact wp_ifF (by rw [h]; decide) (wp_some (by rw [← h]; exact hQ))
      refine wp_bind (hy _ (wp_rdI (7 * (20 * s + c) + 5) (by omega) (by omega) (by decide) (wp_lt (wp_rdI (7 * (20 * s + c) + 6) (by omega) (by omega) (by decide) (wp_lt ?_)))))
      rw [show (up (up (up (up (up (up ρ1 79 (7 * (20 * s + c)) sc) 79 (7 * (20 * s + c) + 1) w) 79 (7 * (20 * s + c) + 2) ln) 79 (7 * (20 * s + c) + 3) tn) 79 (7 * (20 * s + c) + 4) wy) 79 (7 * (20 * s + c) + 5) hd) 57 23 = uj by (simp (disch := omega) only [up_eq, up_ne, w32i, mx32_m, mn32_m, ab32_m]); exact t3]
      refine wp_rdn (by omega) (by omega) (wp_rdn (by omega) (by omega) (wp_lt (wp_lt ?_)))
      rw [show (up (up (up (up (up (up (up ρ1 79 (7 * (20 * s + c)) sc) 79 (7 * (20 * s + c) + 1) w) 79 (7 * (20 * s + c) + 2) ln) 79 (7 * (20 * s + c) + 3) tn) 79 (7 * (20 * s + c) + 4) wy) 79 (7 * (20 * s + c) + 5) hd) 79 (7 * (20 * s + c) + 6) uj) 72 s = (c : Int) by (simp (disch := omega) only [up_eq, up_ne, w32i, mx32_m, mn32_m, ab32_m]); rw [t6 72 (by decide) (by decide) (by decide)]; exact c2]
      rw [show (up (up (up (up (up (up (up (up ρ1 79 (7 * (20 * s + c)) sc) 79 (7 * (20 * s + c) + 1) w) 79 (7 * (20 * s + c) + 2) ln) 79 (7 * (20 * s + c) + 3) tn) 79 (7 * (20 * s + c) + 4) wy) 79 (7 * (20 * s + c) + 5) hd) 79 (7 * (20 * s + c) + 6) uj) 72 s ((c : Int) + 1)) 57 31 = ρ 57 31 by (simp (disch := omega) only [up_eq, up_ne, w32i, mx32_m, mn32_m, ab32_m]); exact t5 31 (by decide)]
      have e32 : (up (up (up (up (up (up (up (up (up ρ1 79 (7 * (20 * s + c)) sc) 79 (7 * (20 * s + c) + 1) w) 79 (7 * (20 * s + c) + 2) ln) 79 (7 * (20 * s + c) + 3) tn) 79 (7 * (20 * s + c) + 4) wy) 79 (7 * (20 * s + c) + 5) hd) 79 (7 * (20 * s + c) + 6) uj) 72 s ((c : Int) + 1)) 57 31 (ρ 57 31 + 1)) 57 32 = ρ 57 32 := by (simp (disch := omega) only [up_eq, up_ne, w32i, mx32_m, mn32_m, ab32_m]); exact t5 32 (by decide)
      have e23 : (up (up (up (up (up (up (up (up (up ρ1 79 (7 * (20 * s + c)) sc) 79 (7 * (20 * s + c) + 1) w) 79 (7 * (20 * s + c) + 2) ln) 79 (7 * (20 * s + c) + 3) tn) 79 (7 * (20 * s + c) + 4) wy) 79 (7 * (20 * s + c) + 5) hd) 79 (7 * (20 * s + c) + 6) uj) 72 s ((c : Int) + 1)) 57 31 (ρ 57 31 + 1)) 57 23 = uj := by (simp (disch := omega) only [up_eq, up_ne, w32i, mx32_m, mn32_m, ab32_m]); exact t3
      rw [e32]
      have y3 : wp (if w32 ((up (up (up (up (up (up (up (up (up ρ1 79 (7 * (20 * s + c)) sc) 79 (7 * (20 * s + c) + 1) w) 79 (7 * (20 * s + c) + 2) ln) 79 (7 * (20 * s + c) + 3) tn) 79 (7 * (20 * s + c) + 4) wy) 79 (7 * (20 * s + c) + 5) hd) 79 (7 * (20 * s + c) + 6) uj) 72 s ((c : Int) + 1)) 57 31 (ρ 57 31 + 1)) 57 23) ≤ 0 then some 0 else some 1 : Option Int) (fun r => r = if uj = 0 then 0 else 1) := by
        rcases t4 with ⟨t4, -⟩ | ⟨t4, -⟩
        · exact wp_ifT (by rw [e23, t4]; decide) (wp_some (by rw [if_pos t4]))
        · exact wp_ifF (by rw [e23, w32i (by omega)]; omega) (wp_some (by rw [if_neg (by omega)]))
      refine wp_bind (wp_mono y3 ?_)
      rintro _ rfl
      rw [← hρ2]
      exact wp_lt (wp_bind hQ)
    unfold X12_judges X12_judges_j29
    refine wp_rdn (by omega) (by omega) (wp_lt (wp_rdn (by omega) (by omega) ?_))
    rcases T with ⟨e1, -, e2⟩ | ⟨e1, -, e2, e4, -, e3⟩
    · have hd0 : hd = 0 := by rw [hhd, if_pos e1]
      refine wp_bind (wp_ifT (by rw [i4, e1]; rfl) (wp_some (wp_lt (wp_bind (wp_ifT rfl (wp_rdn (by omega) (by omega) (wp_rdn (by omega) (by omega) (wp_rdn (by omega) (by omega) ?_))))))))
      rw [show (up ρ 57 23 0) 57 27 = (w : Int) by (simp (disch := omega) only [up_eq, up_ne, w32i, mx32_m, mn32_m, ab32_m]); exact w2, show (up ρ 57 23 0) 68 s = p by (simp (disch := omega) only [up_eq, up_ne, w32i, mx32_m, mn32_m, ab32_m]); exact p2, show (up ρ 57 23 0) 74 s = ln by (simp (disch := omega) only [up_eq, up_ne, w32i, mx32_m, mn32_m, ab32_m]); exact l2, show (up ρ 57 23 0) 75 s = tn by (simp (disch := omega) only [up_eq, up_ne, w32i, mx32_m, mn32_m, ab32_m]); exact n2]
      exact wp_bnd2 (wp_of e2 (wp_some (tail 0 hd0.symm)))
    · have hd1 : hd = 1 := by rw [hhd, if_neg e1]
      refine wp_bind (wp_ifF (by rw [i4, w32i (by omega)]; exact e1) (wp_some (wp_lt (wp_bind (wp_ifF (by decide) (wp_some ?_))))))
      have := tail 1 hd1.symm
      rw [e2, e3] at this
      exact this
  -- the reference's last step: when one is back
  have hB1 : ∀ (ρ3 : SG) (Q : SG → Prop), ρ3 71 s = h0 + hd → ρ3 74 s = ln → ρ3 60 = ρ 60 → ρ3 57 25 = mn → Q (up ρ3 70 s (if h0 + hd < 2 then mn + 1 + mnt sp ln else -1)) → wp (X12_judges_j235 1000 (s : Int) ρ3) Q := by
    intro ρ3 Q e1 e2 e3 e4 hQ
    unfold X12_judges_j235
    refine wp_bind (wp_of (sentR_ok hs e1 (by omega)) ?_)
    by_cases c : h0 + hd < 2
    · rw [if_pos c] at hQ ⊢
      refine wp_ifT rfl (wp_rdn (by omega) (by omega) (wp_rdI (39 + s) (by omega) (by omega) (by decide) (wp_rdI (39 + s) (by omega) (by omega) (by decide) (wp_ifF (by rw [e3, s1, w32i (by omega)]; omega) (wp_rdn (by omega) (by omega) (wp_lt (wp_some ?_)))))))
      rw [e2, e3, e4, s1, dv32_m ⟨s2, s3⟩ (by omega)]
      exact hQ
    · rw [if_neg c] at hQ ⊢
      exact wp_ifF (by decide) (wp_rdn (by omega) (by omega) (wp_lt (wp_some hQ)))
  -- the class's last step: the greatest score
  have hA1 : ∀ (σ3 : SG) (Q : SG → Prop), σ3 37 (4 * w + 1) = mo → σ3 (39 + 2 * s) 0 = (s : Int) → Q (if mo < sc then up (up σ3 37 (4 * w + 1) sc) 37 (4 * w + 2) s else σ3) → wp (X1_judgeRide_j147 1000 ((w : Int) * 4) sc (39 + 2 * s) σ3) Q := by
    intro σ3 Q e1 e2 hQ
    unfold X1_judgeRide_j147
    refine wp_rdI (4 * w + 1) (by omega) (by omega) (by decide) ?_
    by_cases c : mo < sc
    · rw [if_pos c] at hQ
      refine wp_ifF (by rw [e1, w32i (by omega), w32i (by omega)]; omega) (wp_rdI (4 * w + 1) (by omega) (by omega) (by decide) (wp_lt (wp_rdI (4 * w + 2) (by omega) (by omega) (by decide) (wp_lt (wp_some ?_)))))
      rw [up_ne (by omega), e2]
      exact hQ
    · rw [if_neg c] at hQ
      exact wp_ifT (by rw [e1, w32i (by omega), w32i (by omega)]; omega) (wp_some hQ)
  -- together
  have fin : ∀ (σ4 ρ4 : SG), (∀ k j, k ≠ 38 → ¬ (k = 19 ∧ 6 ≤ j ∧ j ≤ 8) → ¬ (k = 39 + 2 * s ∧ j = 9) → ¬ (k = 37 ∧ j = 4 * w + 3) → σ4 k j = σ2 k j) → σ4 (39 + 2 * s) 9 = h0 + hd → σ4 37 (4 * w + 3) = σ 37 (4 * w + 3) + hd → ρ4 57 31 = σ4 19 7 → ρ4 57 32 = σ4 19 8 → ISeen σ4 ρ4 → (∀ k j, k ≠ 77 → ¬ (k = 57 ∧ j = 33) → ¬ (k = 71 ∧ j = s) → ρ4 k j = ρ2 k j) → ρ4 71 s = h0 + hd →
      JQ σ ρ J w s c h0 sp mn ln mo f g sc hd (if mo < sc then up (up σ4 37 (4 * w + 1) sc) 37 (4 * w + 2) s else σ4) (up ρ4 70 s (if h0 + hd < 2 then mn + 1 + mnt sp ln else -1)) := by
    intro σ4 ρ4 a1 a2 a3 a4 a5 a6 a7 a8
    obtain ⟨σ5, hσ5⟩ : ∃ σ5, σ5 = if mo < sc then up (up σ4 37 (4 * w + 1) sc) 37 (4 * w + 2) (s : Int) else σ4 := ⟨_, rfl⟩
    have b1 : ∀ k j, ¬ (k = 37 ∧ (j = 4 * w + 1 ∨ j = 4 * w + 2)) → σ5 k j = σ4 k j := fun k j h => by
      rw [hσ5]
      split
      · rw [up_ne (by omega), up_ne (by omega)]
      · rfl
    have e40 : ∀ j, σ5 (40 + 2 * s) j = σ2 (40 + 2 * s) j := fun j => (b1 _ j (by omega)).trans (a1 _ j (by omega) (by omega) (by omega) (by omega))
    have e39 : ∀ j, j ≠ 9 → σ5 (39 + 2 * s) j = σ2 (39 + 2 * s) j := fun j hj => (b1 _ j (by omega)).trans (a1 _ j (by omega) (by omega) (by omega) (by omega))
    have e37 : ∀ j, j ≠ 4 * w + 3 → σ4 37 j = σ 37 j := fun j hj => by rw [a1 37 j (by omega) (by omega) (by omega) (by omega), q8 37 (by omega) (by omega), k3]
    rw [← hσ5]
    refine ⟨t1, t2, hhd2, fun i hi => ?_, ?_, ?_, ?_, fun j hj => ?_, fun j hj => ?_, ⟨?_, ?_, ?_, ?_, fun j h1 h2 h3 h4 => ?_⟩, ⟨?_, ?_, ?_, fun t ht => ⟨?_, ?_, ?_⟩⟩, ?_, ⟨?_, ?_⟩, ⟨?_, ?_, ?_, fun j h1 h2 h3 => ?_⟩, fun k j h1 h2 h3 h4 h5 h6 h7 h8 => ?_, fun k j h1 h2 h3 h4 h5 h6 h7 h8 => ?_⟩
    · rw [up_ne (by omega), a7 79 _ (by omega) (by omega) (by omega), r8 i hi, e40, q2 i hi]
    · rw [e40]; exact q2 0 (by decide)
    · rw [e40]; exact q2 1 (by decide)
    · rw [e40]; exact q2 5 (by decide)
    · rw [e40, q3 j hj, k2]
    · rw [up_ne (by omega), a7 79 _ (by omega) (by omega) (by omega), r9 j hj]
    · rw [e39 2 (by decide)]; exact q4
    · rw [e39 10 (by decide)]; exact q5
    · rw [e39 11 (by decide)]; exact q6
    · rw [b1 _ 9 (by omega)]; exact a2
    · rw [e39 j h2, q7 j h1 h3 h4, k1]
    · rw [up_ne (by omega), a7 72 s (by omega) (by omega) (by omega)]; exact r6
    · rw [up_ne (by omega)]; exact a8
    · rw [up_eq rfl rfl]
    · rw [up_ne (by omega), a7 70 t (by omega) (by omega) (by omega), r1 70 (by decide) (by decide) (by decide) (by decide) (by decide)]
    · rw [up_ne (by omega), a7 71 t (by omega) (by omega) (by omega), r1 71 (by decide) (by decide) (by decide) (by decide) (by decide)]
    · rw [up_ne (by omega), a7 72 t (by omega) (by omega) (by omega), r7 t ht]
    · exact a6.cg (b1 19 6 (by omega)) (funext fun j => b1 38 j (by omega)) (up_ne (by omega)) (up_rw (by decide))
    · rw [up_ne (by omega), b1 19 7 (by omega)]; exact a4
    · rw [up_ne (by omega), b1 19 8 (by omega)]; exact a5
    · rw [hσ5]
      split
      · rw [up_ne (by omega), up_eq rfl rfl]
      · rw [e37 _ (by omega)]; exact g1
    · rw [hσ5]
      split
      · rw [up_eq rfl rfl]
      · rw [e37 _ (by omega)]
    · rw [b1 37 _ (by omega)]; exact a3
    · rw [b1 37 j (by omega), e37 j h3]
    · rw [b1 k j (by omega), a1 k j h4 h5 (by omega) (by omega), q8 k h1 h2, t7 k j h6 h7 h8]
    · rw [up_ne (by omega), a7 k j h6 (by omega) (by omega)]
      by_cases c57 : k = 57
      · subst c57
        exact r2 j (by omega) (by omega) (by omega)
      · rw [r1 k h1 h2 c57 h5 h7]
  have z7 : σ2 19 7 = σ 19 7 := by rw [q8 19 (by omega) (by omega), k4]
  have z8 : σ2 19 8 = σ 19 8 := by rw [q8 19 (by omega) (by omega), k4]
  have z9 : σ2 (39 + 2 * s) 9 = h0 := by rw [q7 9 (by decide) (by decide) (by decide), k1]; exact h1
  have z0 : σ2 (39 + 2 * s) 0 = (s : Int) := by rw [q7 0 (by decide) (by decide) (by decide), k1]; exact i5
  have z37 : ∀ j, σ2 37 j = σ 37 j := fun j => by rw [q8 37 (by omega) (by omega), k3]
  have zs : ISeen (up σ2 19 7 (σ2 19 7 + 1)) ρ2 := hseen.cg (by (simp (disch := omega) only [up_eq, up_ne, w32i, mx32_m, mn32_m, ab32_m]); rw [q8 19 (by omega) (by omega), k4]) (by rw [up_rw (by decide), q8 38 (by omega) (by omega)]; exact funext k5) (r2 33 (by decide) (by decide) (by decide)) (r1 77 (by decide) (by decide) (by decide) (by decide) (by decide))
  have y74 : ρ2 74 s = ln := by rw [r1 74 (by decide) (by decide) (by decide) (by decide) (by decide)]; exact l2
  have y71 : ρ2 71 s = h0 := by rw [r1 71 (by decide) (by decide) (by decide) (by decide) (by decide)]; exact h2
  have y60 : ρ2 60 = ρ 60 := r1 60 (by decide) (by decide) (by decide) (by decide) (by decide)
  have y25 : ρ2 57 25 = mn := (r2 25 (by decide) (by decide) (by decide)).trans m1
  by_cases e : hb = 0
  · have hd0 : hd = 0 := by rw [hhd, if_pos e]
    rcases t4 with ⟨t4, tv⟩ | ⟨t4, tv, -⟩
    · obtain ⟨σ4, ρ4, u1, u2, u3, u4, u5⟩ := seen_ok zs ⟨t1, t2⟩
      have w71 : ρ4 71 s = h0 + hd := by rw [u5 71 s (by decide) (by omega), y71, hd0]; omega
      refine ⟨sc, hd, _, _, of_wp (hA0 _ (wp_ifT (by rw [hd0]; rfl) (wp_ifT (by rw [w32i (by omega)]; omega) (wp_bind (wp_of u1 (wp_some (hA1 _ _ ?_ ?_ rfl))))))), of_wp (hB0 _ (wp_ifT (by rw [hd0]; rfl) (wp_ifT (by rw [r3, t4]; rfl) (wp_bind (wp_of u2 (wp_some (hB1 _ _ w71 ?_ ?_ ?_ rfl))))))), hhd, fin σ4 ρ4 (fun k j h1 h2 h3 h4 => ?_) ?_ ?_ ?_ ?_ u3 (fun k j h1 h2 h3 => u5 k j h1 h2) w71⟩
      · rw [u4 37 _ (by decide) (by omega), up_ne (by omega), z37]; exact g1
      · rw [u4 _ 0 (by omega) (by omega), up_ne (by omega)]; exact z0
      · rw [u5 74 s (by decide) (by omega)]; exact y74
      · rw [show ρ4 60 = ρ2 60 from funext fun j => u5 60 j (by decide) (by omega)]; exact y60
      · rw [u5 57 25 (by decide) (by omega)]; exact y25
      · rw [u4 k j h1 (by omega), up_ne (by omega)]
      · rw [u4 _ 9 (by omega) (by omega), up_ne (by omega), z9, hd0]; omega
      · rw [u4 37 _ (by decide) (by omega), up_ne (by omega), z37, hd0]; omega
      · rw [u5 57 31 (by decide) (by omega), r4, u4 19 7 (by decide) (by omega), up_eq rfl rfl, z7, j1]
      · rw [u5 57 32 (by decide) (by omega), r5, u4 19 8 (by decide) (by omega), up_ne (by omega), z8, j2, if_pos t4]; omega
    · have w71 : ρ2 71 s = h0 + hd := by rw [y71, hd0]; omega
      have e8 : up σ2 19 7 (σ2 19 7 + 1) 19 8 = σ 19 8 := by rw [up_ne (by omega), z8]
      refine ⟨sc, hd, _, _, of_wp (hA0 _ (wp_ifT (by rw [hd0]; rfl) (wp_ifF (by rw [w32i (by omega)]; omega) (wp_lt (wp_some (hA1 _ _ ?_ ?_ rfl)))))), of_wp (hB0 _ (wp_ifT (by rw [hd0]; rfl) (wp_ifF (by rw [r3, w32i (by omega)]; omega) (wp_some (hB1 _ _ w71 y74 y60 y25 rfl))))), hhd, fin _ ρ2 (fun k j h1 h2 h3 h4 => ?_) ?_ ?_ ?_ ?_ (zs.cg (by (simp (disch := omega) only [up_eq, up_ne, w32i, mx32_m, mn32_m, ab32_m])) (by rw [up_rw (by decide)]) rfl rfl) (fun k j h1 h2 h3 => rfl) w71⟩
      · rw [up_ne (by omega), up_ne (by omega), z37]; exact g1
      · rw [up_ne (by omega), up_ne (by omega)]; exact z0
      · rw [up_ne (by omega), up_ne (by omega)]
      · rw [up_ne (by omega), up_ne (by omega), z9, hd0]; omega
      · rw [up_ne (by omega), up_ne (by omega), z37, hd0]; omega
      · rw [r4, up_ne (by omega), up_eq rfl rfl, z7, j1]
      · rw [r5, up_eq rfl rfl, e8, j2, if_neg (by omega)]
  · have hd1 : hd = 1 := by rw [hhd, if_neg e]
    have uj0 : uj = 0 := by
      rcases T with ⟨e1, -⟩ | ⟨-, -, -, h, -⟩
      · exact absurd e1 e
      · exact h
    have w71 : up ρ2 71 s (ρ2 71 s + 1) 71 s = h0 + hd := by rw [up_eq rfl rfl, y71, hd1]
    refine ⟨sc, hd, _, _, of_wp (hA0 _ (wp_ifF (by rw [hd1]; decide) (wp_lt (wp_rdI (4 * w + 3) (by omega) (by omega) (by decide) (wp_rdI (4 * w + 3) (by omega) (by omega) (by decide) (wp_lt (wp_some (hA1 _ _ ?_ ?_ rfl)))))))), of_wp (hB0 _ (wp_ifF (by rw [hd1]; decide) (wp_rdn (by omega) (by omega) (wp_rdn (by omega) (by omega) (wp_lt (wp_some (hB1 _ _ w71 ?_ ?_ ?_ rfl))))))), hhd, fin _ _ (fun k j h1 h2 h3 h4 => ?_) ?_ ?_ ?_ ?_ (zs.cg (by (simp (disch := omega) only [up_eq, up_ne, w32i, mx32_m, mn32_m, ab32_m])) (by simp (disch := omega) only [up_rw]) (by (simp (disch := omega) only [up_eq, up_ne, w32i, mx32_m, mn32_m, ab32_m])) (by simp (disch := omega) only [up_rw])) (fun k j h1 h2 h3 => up_ne (by omega)) w71⟩
    · simp (disch := omega) only [up_ne]
      rw [z37]; exact g1
    · simp (disch := omega) only [up_ne]
      exact z0
    · rw [up_ne (by omega)]; exact y74
    · rw [up_rw (by decide)]; exact y60
    · rw [up_ne (by omega)]; exact y25
    · simp (disch := omega) only [up_ne]
    · simp (disch := omega) only [up_eq, up_ne]
      rw [z9, hd1]
    · simp (disch := omega) only [up_eq, up_ne]
      rw [z37, hd1]
    · simp (disch := omega) only [up_eq, up_ne]
      rw [r4, z7, j1]
    · simp (disch := omega) only [up_eq, up_ne]
      rw [r5, z8, j2, if_pos uj0]
      omega
