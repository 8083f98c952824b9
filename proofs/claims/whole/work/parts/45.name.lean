/-! ===== name ===== -/
theorem G_9 {σ : SG} {S J : Nat} (hU : IUse σ S J) (hS : ISea σ S) {a1 a2 : Int} (h1 : rng a1) (h2 : rng a2) (a3 a4 a5 : Int) : ∃ τ, Ag σ τ ∧ ST_9 a1 a2 a3 a4 a5 σ τ := by
  have hq := hS.1
  have w1 := w32_r h1
  have w2 := w32_r h2
  have h5 : w32 (σ S 5) = σ S 5 := w32_id (by omega) (by omega)
  by_cases hin : 0 ≤ a1 ∧ a1 < σ S 5
  · obtain ⟨s, rfl⟩ := nat_of hin.1
    obtain ⟨p1, p2, p3, p4, -⟩ := hS.2.2.1 s hin.2
    have hs5 : s < 5 := by omega
    have hs5' : (s : Int) < 5 := by omega
    have hs5'' : s < 2147483648 := by omega
    have hc2 : w32 (σ (S + 2) s) = σ (S + 2) s := w32_id (by omega) (by omega)
    -- what both answer
    by_cases hk : 0 ≤ a2 ∧ a2 < σ (S + 2) s
    · obtain ⟨k, rfl⟩ := nat_of hk.1
      have hk6 : k < 6 := by omega
      have hb1 : ((6 * s + k : Nat) : Int) < 30 := by omega
      have hb2 : 6 * s + k < 2147483648 := by omega
      obtain ⟨l1, l2⟩ := p4 k hk.2
      have c1 : wp (X11_name 0 (s : Int) (k : Int) σ) (fun r => r = ((0, σ (S + 1) (6 * s + k)), σ)) := by
        unfold X11_name
        refine wp_bind (wp_mustS hU hS h1 (fun _ => wp_if (fun _ => wp_S hU (wp_bind ?_)) (fun q => absurd rfl q)) (fun q => absurd hin q))
        unfold X6_letterOf
        have e : ((s : Int) * 6 + (k : Int)) = ((6 * s + k : Nat) : Int) := by omega
        rw [w1, w2, h5]
        refine wp_if (fun q => absurd q (Int.not_lt.mpr hin.1)) (fun _ => wp_if (fun q => absurd q (Int.not_le.mpr hin.2)) (fun _ => wp_if (fun q => absurd q (Int.not_lt.mpr hk.1)) (fun _ => wp_rdn hs5' hs5'' (wp_if (fun _ => ?_) (fun q => absurd (by rw [hc2]; exact hk.2) q)))))
        rw [e]
        exact wp_rdn hb1 hb2 (wp_some (wp_some rfl))
      obtain ⟨⟨o, σ1⟩, g1, g2⟩ := c1
      cases g2
      have e60 : (up (lxI (0, σ (S + 1) (6 * s + k)) σ) 57 0 0) 60 = σ 60 := by
        show (up (up σ 84 0 _) 57 0 0) 60 = _
        rw [up_row _ _ (by decide), up_row _ _ (by decide)]
      have c2 : wp (X12_name 0 (s : Int) (k : Int) (lxI (0, σ (S + 1) (6 * s + k)) σ)) (fun r => r = (σ (S + 1) (6 * s + k), up (lxI (0, σ (S + 1) (6 * s + k)) σ) 57 0 0)) := by
        unfold X12_name
        refine wp_lt (wp_bnd2 (wp_noSurfer h1 (m := σ S 5) (by rw [e60]; exact hq.1) (by omega) (fun q => absurd hin q) (fun _ => ?_)))
        refine wp_if (fun _ => wp_bind (wp_in (fun _ => wp_bind (wp_if (fun q => absurd q (by decide)) (fun _ => ?_))) (fun q => absurd ?_ q))) (fun q => absurd w32_0 q)
        · have e : (4 + 6 * (s : Int)) + (k : Int) = ((4 + 6 * s + k : Nat) : Int) := by omega
          show wp (rdA 144 ((4 + 6 * (s : Int)) + (k : Int)) _) _
          rw [e]
          refine wp_rdn (by omega) (by omega) (wp_some ?_)
          unfold X12_name_j41
          show wp (if w32 ((up (lxI (0, σ (S + 1) (6 * s + k)) σ) 57 0 0) 60 (4 + 6 * s + k)) = 0 then some (-1, up (lxI (0, σ (S + 1) (6 * s + k)) σ) 57 0 0) else some ((up (lxI (0, σ (S + 1) (6 * s + k)) σ) 57 0 0) 60 (4 + 6 * s + k), up (lxI (0, σ (S + 1) (6 * s + k)) σ) 57 0 0)) _
          rw [e60, p3 k hk6, if_pos hk.2]
          exact wp_if (fun q => absurd q (by rw [w32_id (x := σ (S + 1) (6 * s + k)) (by omega) (by omega)]; omega)) (fun _ => wp_some rfl)
        · rw [w2, w32_0, show w32 5 = 5 by decide]; omega
      obtain ⟨⟨r, τ⟩, g3, g4⟩ := c2
      cases g4
      refine ⟨_, Ag.up (Ag.up Ag.rf rfl) rfl, 0, 0, 0, _, _, 0, σ, g1, Or.inl rfl, g3, thrown_ok (up_same _ _ _ _), rfl, fun _ => cmp_ok ?_ rfl⟩
      show (up (up σ 84 0 _) 57 0 0) 84 0 = _
      rw [up_k _ _ (by decide)]
      exact up_same _ _ _ _
    · have c1 : wp (X11_name 0 (s : Int) a2 σ) (fun r => r = ((0, -1), σ)) := by
        unfold X11_name
        refine wp_bind (wp_mustS hU hS h1 (fun _ => wp_if (fun _ => wp_S hU (wp_bind ?_)) (fun q => absurd rfl q)) (fun q => absurd hin q))
        unfold X6_letterOf
        rw [w1, w2, h5]
        exact wp_if (fun q => absurd q (Int.not_lt.mpr hin.1)) (fun _ => wp_if (fun q => absurd q (Int.not_le.mpr hin.2)) (fun _ => wp_if (fun _ => wp_some (wp_some rfl)) (fun q0 => wp_rdn hs5' hs5'' (wp_if (fun q => absurd ⟨Int.not_lt.mp q0, by rw [hc2] at q; exact q⟩ hk) (fun _ => wp_some (wp_some rfl))))))
      obtain ⟨⟨o, σ1⟩, g1, g2⟩ := c1
      cases g2
      have e60 : (up (lxI (0, -1) σ) 57 0 0) 60 = σ 60 := by
        show (up (up σ 84 0 _) 57 0 0) 60 = _
        rw [up_row _ _ (by decide), up_row _ _ (by decide)]
      have c2 : wp (X12_name 0 (s : Int) a2 (lxI (0, -1) σ)) (fun r => r = (-1, up (lxI (0, -1) σ) 57 0 0)) := by
        unfold X12_name
        refine wp_lt (wp_bnd2 (wp_noSurfer h1 (m := σ S 5) (by rw [e60]; exact hq.1) (by omega) (fun q => absurd hin q) (fun _ => ?_)))
        refine wp_if (fun _ => wp_bind (wp_in (fun q9 => wp_bind (wp_if (fun q => absurd q (by decide)) (fun _ => ?_))) (fun _ => wp_bind (wp_if (fun _ => wp_some ?_) (fun q => absurd w32_0 q))))) (fun q => absurd w32_0 q)
        · rw [w2, w32_0, show w32 5 = 5 by decide] at q9
          obtain ⟨k, rfl⟩ := nat_of q9.1
          have e : (4 + 6 * (s : Int)) + (k : Int) = ((4 + 6 * s + k : Nat) : Int) := by omega
          show wp (rdA 144 ((4 + 6 * (s : Int)) + (k : Int)) _) _
          rw [e]
          refine wp_rdn (by omega) (by omega) (wp_some ?_)
          unfold X12_name_j41
          show wp (if w32 ((up (lxI (0, -1) σ) 57 0 0) 60 (4 + 6 * s + k)) = 0 then some (-1, up (lxI (0, -1) σ) 57 0 0) else some ((up (lxI (0, -1) σ) 57 0 0) 60 (4 + 6 * s + k), up (lxI (0, -1) σ) 57 0 0)) _
          rw [e60, p3 k (by omega), if_neg (show ¬ (k : Int) < σ (S + 2) s from fun q => hk ⟨q9.1, q⟩)]
          exact wp_if (fun _ => wp_some rfl) (fun q => absurd w32_0 q)
        · unfold X12_name_j41
          exact wp_if (fun _ => wp_some rfl) (fun q => absurd w32_0 q)
      obtain ⟨⟨r, τ⟩, g3, g4⟩ := c2
      cases g4
      refine ⟨_, Ag.up (Ag.up Ag.rf rfl) rfl, 0, 0, 0, _, _, 0, σ, g1, Or.inl rfl, g3, thrown_ok (up_same _ _ _ _), rfl, fun _ => cmp_ok ?_ rfl⟩
      show (up (up σ 84 0 _) 57 0 0) 84 0 = _
      rw [up_k _ _ (by decide)]
      exact up_same _ _ _ _
  · have c1 : wp (X11_name 0 a1 a2 σ) (fun r => r = ((1, 0), σ)) := by
      unfold X11_name
      exact wp_bind (wp_mustS hU hS h1 (fun q => absurd q hin) (fun _ => wp_if (fun q => absurd q (by decide)) (fun _ => wp_some rfl)))
    obtain ⟨⟨o, σ1⟩, g1, g2⟩ := c1
    cases g2
    have e60 : (up σ 57 0 0) 60 = σ 60 := up_row _ _ (by decide)
    have c2 : wp (X12_name 0 a1 a2 (lxI (1, 0) σ)) (fun r => r = (0, up (up σ 57 0 0) 57 0 1)) := by
      show wp (X12_name 0 a1 a2 σ) _
      unfold X12_name
      exact wp_lt (wp_bnd2 (wp_noSurfer h1 (m := σ S 5) (by rw [e60]; exact hq.1) (by omega) (fun _ => wp_if (fun q => absurd (show w32 1 = 0 from q) (by decide)) (fun _ => wp_some rfl)) (fun q => absurd q hin)))
    obtain ⟨⟨r, τ⟩, g3, g4⟩ := c2
    cases g4
    exact ⟨_, Ag.up (Ag.up Ag.rf rfl) rfl, 0, 0, 0, _, _, 1, σ, g1, Or.inr rfl, g3, thrown_ok (up_same _ _ _ _), rfl, fun q => absurd q (by decide)⟩
