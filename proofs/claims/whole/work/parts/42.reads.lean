/-! ===== what later calls depend on; the reads ===== -/
def dep (k j : Nat) : Bool := match k with
  | 57 => !([0, 4, 5, 6, 7, 12, 13, 19, 20, 21, 23] : List Nat).contains j
  | 15 => !([2, 3, 4, 5] : List Nat).contains j
  | 7 => decide (j < 9)
  | 26 => decide (j < 9)
  | 17 | 18 | 13 | 14 | 32 | 33 | 50 | 51 | 52 | 53 | 54 | 55 | 56 | 59 | 61 | 63 | 65 | 66 | 67 | 80 | 81 | 82 | 83 | 84 => false
  | _ => true
/-- alike in what later calls depend on -/
def Ag (σ τ : SG) : Prop := ∀ k j, dep k j = true → τ k j = σ k j
theorem Ag.rf {σ : SG} : Ag σ σ := fun _ _ _ => rfl
theorem Ag.tr {σ τ υ : SG} (h : Ag σ τ) (h' : Ag τ υ) : Ag σ υ := fun k j d => (h' k j d).trans (h k j d)
theorem Ag.up {σ τ : SG} {k j : Nat} {v : Int} (h : Ag σ τ) (hd : dep k j = false) : Ag σ (up τ k j v) := fun a b d => by
  rw [← h a b d]
  refine up_else τ v (fun q => ?_)
  rw [q.1, q.2, hd] at d
  cases d
/-- the reference's small steps -/
theorem wZ_0 : wZ 0 = 0 := by decide
theorem wZ_1 : wZ 1 = 1 := by decide
theorem w32_1 : w32 1 = 1 := by decide
theorem wp_throws {n : Nat} {c : Prop} {a k : Int} {σ : SG} {Q : Int × SG → Prop} (hc : (c ∧ a = 1) ∨ (¬ c ∧ a = 0)) (h1 : c → Q (1, up σ 57 0 k)) (h0 : ¬ c → Q (0, σ)) : wp (X12_throwsIf n a k σ) Q := by
  unfold X12_throwsIf
  rcases hc with ⟨hc, rfl⟩ | ⟨hc, rfl⟩
  · exact wp_if (fun q => absurd q (by decide)) (fun _ => wp_lt (wp_some (by rw [wZ_1]; exact h1 hc)))
  · exact wp_if (fun _ => wp_some (by rw [wZ_0]; exact h0 hc)) (fun q => absurd w32_0 q)
/-- 'throwsIf(!in(a, b, c), k)' as it is printed -/
theorem wp_not {Q : Int → Prop} {c : Prop} {v : Int} (hv : (c ∧ v = 1) ∨ (¬ c ∧ v = 0)) (h0 : c → Q 0) (h1 : ¬ c → Q 1) : wp (if w32 v = 0 then some (1 : Int) else some 0) Q := by
  rcases hv with ⟨hc, rfl⟩ | ⟨hc, rfl⟩
  · exact wp_if (fun q => absurd q (by decide)) (fun _ => wp_some (h0 hc))
  · exact wp_if (fun _ => wp_some (h1 hc)) (fun q => absurd w32_0 q)
theorem wp_noSurfer {n : Nat} {a m : Int} {σ : SG} {Q : Int × SG → Prop} (ha : rng a) (hm : σ 60 0 = m) (hm0 : 0 ≤ m ∧ m ≤ 5) (h1 : ¬ (0 ≤ a ∧ a < m) → Q (1, up σ 57 0 1)) (h0 : 0 ≤ a ∧ a < m → Q (0, σ)) : wp (X12_noSurfer n a σ) Q := by
  unfold X12_noSurfer X12_surfers
  have hw := w32_r ha
  refine wp_bind (wp_rdn (j := 0) (by decide) (by decide) (wp_some ?_))
  rw [hm]
  have hm1 : w32 (m - 1) = m - 1 := w32_id (by omega) (by omega)
  refine wp_bind (wp_in (fun q => ?_) (fun q => ?_))
  · have hin : 0 ≤ a ∧ a < m := by rw [w32_0, hw, hm1] at q; omega
    refine wp_bind (wp_not (c := True) (Or.inl ⟨trivial, rfl⟩) (fun _ => ?_) (fun q => absurd trivial q))
    unfold X12_noSurfer_j20
    exact wp_bnd2 (wp_throws (c := False) (Or.inr ⟨fun q => q, rfl⟩) (fun q => q.elim) (fun _ => wp_some (by rw [wZ_0]; exact h0 hin)))
  · have hin : ¬ (0 ≤ a ∧ a < m) := by rw [w32_0, hw, hm1] at q; omega
    refine wp_bind (wp_not (c := False) (Or.inr ⟨fun q => q, rfl⟩) (fun q => q.elim) (fun _ => ?_))
    unfold X12_noSurfer_j20
    exact wp_bnd2 (wp_throws (c := True) (Or.inl ⟨trivial, rfl⟩) (fun _ => wp_some (by rw [wZ_1]; exact h1 hin)) (fun q => absurd trivial q))
theorem thrown_ok {n : Nat} {σ : SG} {k : Int} (h : σ 57 0 = k) : X12_thrown n σ = some k := by
  unfold X12_thrown
  rw [h]
theorem cmp_ok {σ : SG} {v r : Int} (h : σ 84 0 = w32 v) (h2 : w32 r = w32 v) : w32 (cmpL (σ 84 0) (w32 r)) = 0 := by
  rw [h, h2]
  unfold cmpL
  rw [if_neg (by omega), if_pos rfl]
  exact w32_0
theorem use_S {σ : SG} {S J : Nat} (h : IUse σ S J) : isSea S = true := by
  rcases h.1 with ⟨rfl, -⟩ | ⟨rfl, -⟩ <;> rfl
theorem use_J {σ : SG} {S J : Nat} (h : IUse σ S J) : isJudge J = true := by
  rcases h.2.2.1 with ⟨rfl, -⟩ | ⟨rfl, -⟩ <;> rfl
theorem wp_S {β : Type} {σ : SG} {S J : Nat} {f : Nat → Option β} {Q : β → Prop} (h : IUse σ S J) (k : wp (f S) Q) : wp (ckR isSea (σ 19 0) f) Q := wp_ck h.2.1 (use_S h) k
theorem wp_J {β : Type} {σ : SG} {S J : Nat} {f : Nat → Option β} {Q : β → Prop} (h : IUse σ S J) (k : wp (f J) Q) : wp (ckR isJudge (σ 19 1) f) Q := wp_ck h.2.2.2 (use_J h) k
theorem wp_mustS {n : Nat} {a : Int} {σ : SG} {S J : Nat} {Q : Nat → Prop} (hU : IUse σ S J) (hS : ISea σ S) (ha : rng a) (h0 : 0 ≤ a ∧ a < σ S 5 → Q 0) (h1 : ¬ (0 ≤ a ∧ a < σ S 5) → Q 1) : wp (X11_mustBeSurfer n a σ) Q := by
  have hw := w32_r ha
  have h5 : w32 (σ S 5) = σ S 5 := w32_id (by have := hS.1; omega) (by have := hS.1; omega)
  unfold X11_mustBeSurfer
  exact wp_if (fun q => wp_some (h1 (by omega))) (fun _ => wp_S hU (wp_if (fun _ => wp_some (h0 (by omega))) (fun _ => wp_some (h1 (by omega)))))
theorem wp_mustW {n : Nat} {a : Int} {σ : SG} {S J : Nat} {Q : Nat → Prop} (hU : IUse σ S J) (hS : ISea σ S) (ha : rng a) (h0 : 0 ≤ a ∧ a < σ S 6 → Q 0) (h1 : ¬ (0 ≤ a ∧ a < σ S 6) → Q 1) : wp (X11_mustBeWave n a σ) Q := by
  have hw := w32_r ha
  have h5 : w32 (σ S 6) = σ S 6 := w32_id (by have := hS.1; omega) (by have := hS.1; omega)
  unfold X11_mustBeWave
  exact wp_if (fun q => wp_some (h1 (by omega))) (fun _ => wp_S hU (wp_if (fun _ => wp_some (h0 (by omega))) (fun _ => wp_some (h1 (by omega)))))
theorem wp_mustO {n : Nat} {a m : Int} {σ : SG} {Q : Nat → Prop} (ha : rng a) (hm : 0 ≤ m ∧ m < 100) (h0 : 0 ≤ a ∧ a < m → Q 0) (h3 : ¬ (0 ≤ a ∧ a < m) → Q 3) : wp (X11_mustBeOneOf n a m σ) Q := by
  have hw := w32_r ha
  have h5 : w32 m = m := w32_id (by omega) (by omega)
  unfold X11_mustBeOneOf
  exact wp_if (fun q => wp_some (h3 (by omega))) (fun _ => wp_if (fun _ => wp_some (h0 (by omega))) (fun _ => wp_some (h3 (by omega))))
theorem G_11 {σ : SG} {S : Nat} (h5 : 0 ≤ σ S 5 ∧ σ S 5 ≤ 5) (hR : IRow σ S) {a1 : Int} (h1 : rng a1) (a2 a3 a4 a5 : Int) : ST_11 a1 a2 a3 a4 a5 σ (up σ 57 0 0) := by
  obtain ⟨e, l, u, e2, hp, hk⟩ := hR
  have hw := w32_r h1
  have hc : w32 (σ 35 1) = σ 35 1 := w32_id (by omega) (by omega)
  have e3 : up σ 57 0 0 57 36 = σ 35 2 := by rw [up_j σ 0 (show (36 : Nat) ≠ 0 by decide), e2]
  have e4 : up σ 57 0 0 57 34 = σ 35 1 := by rw [up_j σ 0 (show (34 : Nat) ≠ 0 by decide), e]
  by_cases hin : 0 ≤ a1 ∧ a1 < σ 35 1
  · obtain ⟨k, rfl⟩ := nat_of hin.1
    obtain ⟨e1, -, -⟩ := hk k hin.2
    have c1 : wp (X11_row 0 (k : Int) σ) (fun r => r = σ 36 k) := by
      unfold X11_row X5_at
      refine wp_bind (wp_if (fun q => absurd q (by omega)) (fun _ => wp_if (fun _ => ?_) (fun q => absurd (by omega) q)))
      exact wp_rdn (by omega) (by omega) (wp_some (wp_some rfl))
    have c2 : wp (X12_row 0 (k : Int) σ) (fun r => r = (σ 36 k, up σ 57 0 0)) := by
      unfold X12_row
      refine wp_lt (wp_if (fun q => ?_) (fun _ => wp_bind (wp_in (fun _ => ?_) (fun q => absurd ?_ q))))
      · rw [e3] at q
        rcases hp with ⟨p1, p2⟩ | p1
        · omega
        · rw [p1, w32_1] at q; omega
      · refine wp_if (fun q => absurd q (by decide)) (fun _ => wp_rdn (by omega) (by omega) (wp_some ?_))
        rw [up_k σ 0 (show (76 : Nat) ≠ 57 by decide), e1]
      · rw [e4, w32_id (x := σ 35 1 - 1) (by omega) (by omega), w32_0]
        omega
    obtain ⟨r1, g1, rfl⟩ := c1
    obtain ⟨r2, g2, rfl⟩ := c2
    exact ⟨0, 0, _, _, g1, g2, rfl⟩
  · have c1 : wp (X11_row 0 a1 σ) (fun r => r = -1) := by
      unfold X11_row X5_at
      exact wp_bind (wp_if (fun _ => wp_some (wp_some rfl)) (fun _ => wp_if (fun q => absurd q (by omega)) (fun _ => wp_some (wp_some rfl))))
    have c2 : wp (X12_row 0 a1 σ) (fun r => r = (-1, up σ 57 0 0)) := by
      unfold X12_row
      refine wp_lt (wp_if (fun _ => wp_some rfl) (fun _ => wp_bind (wp_in (fun q => absurd q ?_) (fun _ => ?_))))
      · rw [e4, w32_id (x := σ 35 1 - 1) (by omega) (by omega), w32_0]
        omega
      · exact wp_if (fun _ => wp_some rfl) (fun q => absurd w32_0 q)
    obtain ⟨r1, g1, rfl⟩ := c1
    obtain ⟨r2, g2, rfl⟩ := c2
    exact ⟨0, 0, _, _, g1, g2, rfl⟩
