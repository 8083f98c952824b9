/-! ===== wave, name ===== -/
/-- 'if (throwsIf(!in(a, b, c), k) ..' of the reference, in its printed shape -/
theorem wp_inT {β : Type} {n : Nat} {a b c k : Int} {σ : SG} {f : Int → SG → Option β} {Q : β → Prop} {g : Int → Option β} (hg : ∀ y, g y = bnd2 (X12_throwsIf n y k σ) f)
    (h0 : w32 b ≤ w32 a ∧ w32 a ≤ w32 c → wp (f 0 σ) Q) (h1 : ¬ (w32 b ≤ w32 a ∧ w32 a ≤ w32 c) → wp (f 1 (up σ 57 0 k)) Q) :
    wp ((X12_in n a b c σ).bind fun v4 => ((if w32 v4 = 0 then some 1 else some 0) : Option Int).bind g) Q := by
  refine wp_bind (wp_in (fun q => ?_) (fun q => ?_))
  · refine wp_bind (wp_not (c := True) (Or.inl ⟨trivial, rfl⟩) (fun _ => ?_) (fun q => absurd trivial q))
    rw [hg]
    exact wp_bnd2 (wp_throws (c := False) (Or.inr ⟨fun q => q, rfl⟩) (fun q => q.elim) (fun _ => h0 q))
  · refine wp_bind (wp_not (c := False) (Or.inr ⟨fun q => q, rfl⟩) (fun q => q.elim) (fun _ => ?_))
    rw [hg]
    exact wp_bnd2 (wp_throws (c := True) (Or.inl ⟨trivial, rfl⟩) (fun _ => h1 q) (fun q => absurd trivial q))
theorem wp_fact {n S w j : Nat} {σ : SG} {Q : Int → Prop} (hw : w < 20) (hj : j < 5) (h : Q (σ (S + 5) (5 * w + j))) : wp (X6_factOf n S (w : Int) (j : Int) σ) Q := by
  unfold X6_factOf
  have e : ((w : Int) * 5 + (j : Int)) = ((5 * w + j : Nat) : Int) := by omega
  refine wp_lt ?_
  rw [e]
  have e2 : w32 ((5 * w + j : Nat) : Int) = ((5 * w + j : Nat) : Int) := w32_nat (by omega)
  exact wp_if (fun q => absurd q (by omega)) (fun _ => wp_if (fun _ => wp_rdn (by omega) (by omega) (wp_some h)) (fun q => absurd (by omega) q))
theorem wp_ofWave {n w j : Nat} {σ : SG} {Q : Int → Prop} (hw : w < 20) (hj : j < 5) (h : Q (σ 60 (44 + 5 * w + j))) : wp (X12_ofWave n (w : Int) (j : Int) σ) Q := by
  unfold X12_ofWave
  have e : (44 + 5 * (w : Int)) + (j : Int) = ((44 + 5 * w + j : Nat) : Int) := by omega
  rw [e]
  exact wp_rdn (by omega) (by omega) (wp_some h)
theorem G_7 {σ : SG} {S J : Nat} (hU : IUse σ S J) (hS : ISea σ S) {a1 a2 : Int} (h1 : rng a1) (h2 : rng a2) (a3 a4 a5 : Int) : ∃ τ, Ag σ τ ∧ ST_7 a1 a2 a3 a4 a5 σ τ := by
  have hq := hS.1
  have w1 := w32_r h1
  have w2 := w32_r h2
  have m1 : ∀ υ : SG, υ 60 1 = σ 60 1 → w32 (υ 60 1 - 1) = σ S 6 - 1 := fun υ e => by rw [e, hq.2.2.2.1]; exact w32_id (by omega) (by omega)
  by_cases hin : 0 ≤ a1 ∧ a1 < σ S 6
  · by_cases hwh : 0 ≤ a2 ∧ a2 < 5
    · obtain ⟨w, rfl⟩ := nat_of hin.1
      obtain ⟨j, rfl⟩ := nat_of hwh.1
      have hw20 : w < 20 := by omega
      have c1 : wp (X11_wave 0 (w : Int) (j : Int) σ) (fun r => r = ((0, σ (S + 5) (5 * w + j)), σ)) := by
        unfold X11_wave
        refine wp_bind (wp_mustW hU hS h1 (fun _ => wp_if (fun _ => wp_bind (wp_mustO h2 (by decide) (fun _ => wp_if (fun _ => wp_S hU (wp_bind (wp_fact hw20 (by omega) (wp_some rfl)))) (fun q => absurd rfl q)) (fun q => absurd hwh q))) (fun q => absurd rfl q)) (fun q => absurd hin q))
      obtain ⟨⟨o, σ1⟩, g1, g2⟩ := c1
      cases g2
      have e60 : (up (lxI (0, σ (S + 5) (5 * w + j)) σ) 57 0 0) 60 = σ 60 := by
        show (up (up σ 84 0 _) 57 0 0) 60 = _
        rw [up_row _ _ (by decide), up_row _ _ (by decide)]
      have c2 : wp (X12_wave 0 (w : Int) (j : Int) (lxI (0, σ (S + 5) (5 * w + j)) σ)) (fun r => r = (σ (S + 5) (5 * w + j), up (lxI (0, σ (S + 5) (5 * w + j)) σ) 57 0 0)) := by
        unfold X12_wave
        refine wp_lt (wp_rdn (j := 1) (by decide) (by decide) (wp_inT (fun y => rfl) (fun _ => ?_) (fun q => absurd ?_ q)))
        · refine wp_if (fun _ => wp_inT (fun y => rfl) (fun _ => ?_) (fun q => absurd ?_ q)) (fun q => absurd w32_0 q)
          · refine wp_if (fun _ => wp_bind (wp_ofWave hw20 (by omega) (wp_some ?_))) (fun q => absurd w32_0 q)
            rw [e60, (hS.2.2.2 w hin.2).1 j (by omega)]
          · rw [w2, w32_0, show w32 4 = 4 by decide]; omega
        · rw [m1 _ (by rw [e60]), w1, w32_0]; omega
      obtain ⟨⟨r, τ⟩, g3, g4⟩ := c2
      cases g4
      refine ⟨_, ?_, 0, 0, 0, _, _, 0, σ, g1, Or.inl rfl, g3, thrown_ok (up_same _ _ _ _), rfl, fun _ => cmp_ok ?_ rfl⟩
      · exact Ag.up (Ag.up Ag.rf rfl) rfl
      · show (up (up σ 84 0 _) 57 0 0) 84 0 = _
        rw [up_k _ _ (by decide)]
        exact up_same _ _ _ _
    · have c1 : wp (X11_wave 0 a1 a2 σ) (fun r => r = ((3, 0), σ)) := by
        unfold X11_wave
        refine wp_bind (wp_mustW hU hS h1 (fun _ => wp_if (fun _ => wp_bind (wp_mustO h2 (by decide) (fun q => absurd q hwh) (fun _ => wp_if (fun q => absurd q (by decide)) (fun _ => wp_some rfl)))) (fun q => absurd rfl q)) (fun q => absurd hin q))
      obtain ⟨⟨o, σ1⟩, g1, g2⟩ := c1
      cases g2
      have e60 : (up σ 57 0 0) 60 = σ 60 := up_row _ _ (by decide)
      have c2 : wp (X12_wave 0 a1 a2 (lxI (3, 0) σ)) (fun r => r = (0, up (up σ 57 0 0) 57 0 2)) := by
        show wp (X12_wave 0 a1 a2 σ) _
        unfold X12_wave
        refine wp_lt (wp_rdn (j := 1) (by decide) (by decide) (wp_inT (fun y => rfl) (fun _ => ?_) (fun q => absurd ?_ q)))
        · refine wp_if (fun _ => wp_inT (fun y => rfl) (fun q => absurd q ?_) (fun _ => ?_)) (fun q => absurd w32_0 q)
          · rw [w2, w32_0, show w32 4 = 4 by decide]; omega
          · exact wp_if (fun q => absurd q (by decide)) (fun _ => wp_some rfl)
        · rw [m1 _ (by rw [e60]), w1, w32_0]; omega
      obtain ⟨⟨r, τ⟩, g3, g4⟩ := c2
      cases g4
      exact ⟨_, Ag.up (Ag.up Ag.rf rfl) rfl, 0, 0, 0, _, _, 2, σ, g1, Or.inr (Or.inr rfl), g3, thrown_ok (up_same _ _ _ _), rfl, fun q => absurd q (by decide)⟩
  · have c1 : wp (X11_wave 0 a1 a2 σ) (fun r => r = ((1, 0), σ)) := by
      unfold X11_wave
      refine wp_bind (wp_mustW hU hS h1 (fun q => absurd q hin) (fun _ => wp_if (fun q => absurd q (by decide)) (fun _ => wp_some rfl)))
    obtain ⟨⟨o, σ1⟩, g1, g2⟩ := c1
    cases g2
    have e60 : (up σ 57 0 0) 60 = σ 60 := up_row _ _ (by decide)
    have c2 : wp (X12_wave 0 a1 a2 (lxI (1, 0) σ)) (fun r => r = (0, up (up σ 57 0 0) 57 0 1)) := by
      show wp (X12_wave 0 a1 a2 σ) _
      unfold X12_wave
      refine wp_lt (wp_rdn (j := 1) (by decide) (by decide) (wp_inT (fun y => rfl) (fun q => absurd q ?_) (fun _ => ?_)))
      · rw [m1 _ (by rw [e60]), w1, w32_0]; omega
      · exact wp_if (fun q => absurd q (by decide)) (fun _ => wp_some rfl)
    obtain ⟨⟨r, τ⟩, g3, g4⟩ := c2
    cases g4
    exact ⟨_, Ag.up (Ag.up Ag.rf rfl) rfl, 0, 0, 0, _, _, 1, σ, g1, Or.inr (Or.inl rfl), g3, thrown_ok (up_same _ _ _ _), rfl, fun q => absurd q (by decide)⟩
