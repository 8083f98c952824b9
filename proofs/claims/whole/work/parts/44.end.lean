/-! ===== end ===== -/
/-- 'end': the text's length, on both sides -/
theorem G_1 {σ : SG} (hT : ITape σ) {a1 : Int} (h1 : rng a1) (a2 a3 a4 a5 : Int) : ∃ τ, ((τ = up σ 57 0 0) ∨ (0 ≤ a1 ∧ a1 ≤ σ 15 1 ∧ τ = up (up (up σ 15 1 a1) 57 0 0) 57 2 a1)) ∧ ST_1 a1 a2 a3 a4 a5 σ τ := by
  obtain ⟨l, u, e, -, -⟩ := hT
  have w1 := w32_r h1
  have hc : w32 (σ 15 1) = σ 15 1 := w32_id (by omega) (by omega)
  by_cases hin : 0 ≤ a1 ∧ a1 ≤ σ 15 1
  · have c1 : wp (X11_end 0 a1 σ) (fun r => r = (1, up σ 15 1 a1)) := by
      unfold X11_end
      exact wp_if (fun q => absurd q (by omega)) (fun _ => wp_if (fun _ => wp_lt (wp_some rfl)) (fun q => absurd (by omega) q))
    obtain ⟨⟨r, σ1⟩, g1, g2⟩ := c1
    cases g2
    have c2 : wp (X12_end 0 a1 (up σ 15 1 a1)) (fun r => r = (1, up (up (up σ 15 1 a1) 57 0 0) 57 2 a1)) := by
      unfold X12_end
      refine wp_lt (wp_if (fun q => absurd q (by omega)) (fun _ => wp_if (fun _ => wp_lt (wp_some rfl)) (fun q => absurd ?_ q)))
      rw [up_j _ _ (by decide), up_k _ _ (by decide), e]
      omega
    obtain ⟨⟨r, τ⟩, g3, g4⟩ := c2
    cases g4
    exact ⟨_, Or.inr ⟨hin.1, hin.2, rfl⟩, 0, 0, _, _, _, g1, g3, rfl⟩
  · have c1 : wp (X11_end 0 a1 σ) (fun r => r = (0, σ)) := by
      unfold X11_end
      exact wp_if (fun _ => wp_some rfl) (fun _ => wp_if (fun q => absurd q (by omega)) (fun _ => wp_some rfl))
    obtain ⟨⟨r, σ1⟩, g1, g2⟩ := c1
    cases g2
    have c2 : wp (X12_end 0 a1 σ) (fun r => r = (0, up σ 57 0 0)) := by
      unfold X12_end
      refine wp_lt (wp_if (fun _ => wp_some rfl) (fun _ => wp_if (fun q => absurd q ?_) (fun _ => wp_some rfl)))
      rw [up_j _ _ (by decide), e]
      omega
    obtain ⟨⟨r, τ⟩, g3, g4⟩ := c2
    cases g4
    exact ⟨_, Or.inl rfl, 0, 0, _, _, _, g1, g3, rfl⟩
