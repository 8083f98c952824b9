/-! ===== a ride is judged ===== -/
def Mir (σ ρ : SG) (j : Nat) : Prop := ρ 77 j = σ 38 j ∧ 0 ≤ σ 38 j ∧ σ 38 j ≤ 100
theorem seen_ok {σ ρ : SG} {v : Int} (h : ISeen σ ρ) (hv : 0 ≤ v ∧ v ≤ 100) : ∃ σ' ρ', X1_keepSeen 1000 v σ = some σ' ∧ X12_sees 1000 v ρ = some ρ' ∧ ISeen σ' ρ' ∧ (∀ c j, c ≠ 38 → ¬ (c = 19 ∧ j = 6) → σ' c j = σ c j) ∧ (∀ c j, c ≠ 77 → ¬ (c = 57 ∧ j = 33) → ρ' c j = ρ c j) := by
  obtain ⟨h1, h2, h3, h4⟩ := h
  obtain ⟨n, hn⟩ := nat_of h2
  have htop : ∃ t : Nat, t = min n 5 := ⟨_, rfl⟩
  obtain ⟨t, ht⟩ := htop
  obtain ⟨b, b', y1, y2, y3, y4, y5⟩ := wp_loop2 (f := fun z : Int × SG => X1_keepSeen_l22 1000 z.1 z.2) (g := fun z : Int × SG => X12_sees_l9 1000 z.1 z.2) (n := 1000) (n' := 1000) (a := ((t : Int), up σ 19 6 ((t : Int) + 1))) (a' := ((t : Int), ρ))
    (Q := fun b b' => (∀ j, 0 < j → j ≤ t → Mir b b' j) ∧ (∀ c j, c ≠ 38 → b c j = up σ 19 6 ((t : Int) + 1) c j) ∧ (∀ c j, c ≠ 77 → b' c j = ρ c j)) (fun k z z' => z.1 = (t : Int) - k ∧ z'.1 = (t : Int) - k ∧ k ≤ t ∧ (∀ j, (j < n ∨ (t < j + k ∧ j ≤ t)) → Mir z.2 z'.2 j) ∧ (∀ c j, c ≠ 38 → z.2 c j = up σ 19 6 ((t : Int) + 1) c j) ∧ (∀ c j, c ≠ 77 → z'.2 c j = ρ c j)) t (by
      rintro k ⟨z1, σ1⟩ ⟨z1', ρ1⟩ hk ⟨e1, e1', e2, e3, e4, e5⟩
      obtain rfl : z1 = (t : Int) - k := e1
      obtain rfl : z1' = (t : Int) - k := e1'
      have e3 : ∀ j, (j < n ∨ (t < j + k ∧ j ≤ t)) → Mir σ1 ρ1 j := e3
      have e4 : ∀ c j, c ≠ 38 → σ1 c j = up σ 19 6 ((t : Int) + 1) c j := e4
      have e5 : ∀ c j, c ≠ 77 → ρ1 c j = ρ c j := e5
      dsimp only
      unfold X1_keepSeen_l22 X12_sees_l9
      by_cases c : k = t
      · refine wp_ifT (by rw [w32i (by omega)]; omega) (wp_some (wp_ifT (by rw [w32i (by omega)]; omega) (wp_some (Or.inr ⟨_, _, rfl, rfl, fun j h1 h2 => e3 j (Or.inr ⟨by omega, h2⟩), e4, e5⟩))))
      · obtain ⟨m1, m2, m3⟩ := e3 (t - k - 1) (by omega)
        refine wp_ifF (by rw [w32i (by omega)]; omega) (wp_rdI (t - k - 1) (by omega) (by omega) (by decide) (wp_rdI (t - k) (by omega) (by omega) (by decide) (wp_lt (wp_lt (wp_some ?_)))))
        refine wp_ifF (by rw [w32i (by omega)]; omega) (wp_rdI (t - k - 1) (by omega) (by omega) (by decide) (wp_rdI (t - k) (by omega) (by omega) (by decide) (wp_lt (wp_lt (wp_some ?_)))))
        refine Or.inl ⟨_, _, rfl, rfl, by omega, by simp only []; omega, by simp only []; omega, by omega, fun j hj => ?_, fun c j hc => by dsimp only; rw [up_ne (by omega)]; exact e4 c j hc, fun c j hc => by dsimp only; rw [up_ne (by omega)]; exact e5 c j hc⟩
        unfold Mir
        dsimp only
        by_cases cj : j = t - k
        · rw [up_eq rfl cj, up_eq rfl cj]
          exact ⟨m1, m2, m3⟩
        · rw [up_ne (by omega), up_ne (by omega)]
          exact e3 j (by omega)) ⟨by simp, by simp, by omega, fun j hj => by
        have hj' : j < n := by omega
        obtain ⟨a1, a2, a3⟩ := h4 j (by omega)
        unfold Mir
        dsimp only
        rw [up_ne (by omega)]
        exact ⟨a1, a2, a3⟩, fun _ _ _ => rfl, fun _ _ _ => rfl⟩ (by omega) (by omega)
  refine ⟨up b 38 0 v, up (up b' 77 0 v) 57 33 ((t : Int) + 1), of_wp ?_, of_wp ?_, ⟨?_, ?_, ?_, fun k hk => ?_⟩, fun c j h1 h2 => ?_, fun c j h1 h2 => ?_⟩
  · unfold X1_keepSeen X1_keepSeen_e22
    rw [hn, mn32_m (by omega), show min (6 : Int) ((n : Int) + 1) = (t : Int) + 1 by omega]
    refine wp_lt (wp_lt ?_)
    rw [up_eq rfl rfl, show (t : Int) + 1 - 1 = (t : Int) by omega]
    exact wp_bind (wp_of y1 (wp_rdI 0 rfl (by decide) (by decide) (wp_lt (wp_some rfl))))
  · unfold X12_sees X12_sees_e9
    rw [h1, hn, mn32_m (by omega), show min (n : Int) 5 = (t : Int) by omega]
    refine wp_lt (wp_bind (wp_of y2 (wp_rdI 0 rfl (by decide) (by decide) (wp_lt (wp_lt (wp_some ?_))))))
    rw [up_ne (by omega), y5 57 33 (by decide), h1, hn, mn32_m (by omega), show min (6 : Int) ((n : Int) + 1) = (t : Int) + 1 by omega]
  · rw [up_eq rfl rfl, up_ne (by omega), y4 19 6 (by decide), up_eq rfl rfl]
  · rw [up_ne (by omega), y4 19 6 (by decide), up_eq rfl rfl]
    omega
  · rw [up_ne (by omega), y4 19 6 (by decide), up_eq rfl rfl]
    omega
  · rw [up_ne (by omega), y4 19 6 (by decide), up_eq rfl rfl] at hk
    by_cases c : k = 0
    · subst c
      rw [up_ne (by omega), up_eq rfl rfl, up_eq rfl rfl]
      exact ⟨rfl, hv.1, hv.2⟩
    · rw [up_ne (by omega), up_ne (by omega), up_ne (by omega)]
      exact y3 k (by omega) (by omega)
  · rw [up_ne (by omega), y4 c j h1, up_ne (by omega)]
  · rw [up_ne (by omega), up_ne (by omega), y5 c j h1]
