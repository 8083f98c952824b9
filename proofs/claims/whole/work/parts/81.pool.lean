/-! ===== LOOKING BACK: the class's pool ===== -/
def FrPl (σ0 σ : SG) : Prop := ∀ a j, ¬ (a = 53 ∧ j = 2) → a ≠ 54 → a ≠ 55 → a ≠ 56 → σ a j = σ0 a j
theorem FrPl.rf {σ : SG} : FrPl σ σ := fun _ _ _ _ _ _ => rfl
theorem FrPl.tr {σ τ υ : SG} (h : FrPl σ τ) (h' : FrPl τ υ) : FrPl σ υ := fun a j h1 h2 h3 h4 => (h' a j h1 h2 h3 h4).trans (h a j h1 h2 h3 h4)
/-- N scores, the greatest first, all of A among them -/
def PI (σ : SG) (N : Nat) (A : List Int) : Prop := σ 53 2 = (N : Int) ∧ (∀ i j, i < j → j < N → σ 54 j ≤ σ 54 i) ∧ (∀ i, i < N → h01 (σ 54 i)) ∧ ∀ x ∈ A, ∃ i, i < N ∧ σ 54 i = x
theorem keep_ok {σ : SG} {N n : Nat} {A : List Int} {x : Int} (h : PI σ N A) (hN : N < 8) (hx : h01 x) (hn : 10 < n) : ∃ σ', X4_keep n x σ = some σ' ∧ PI σ' (N + 1) (x :: A) ∧ (∀ a j, ¬ (a = 53 ∧ j = 2) → a ≠ 54 → σ' a j = σ a j) := by
  obtain ⟨h1, h2, h3, h4⟩ := h
  have hx' := hx
  obtain ⟨x1, x2⟩ := hx'
  have key : wp (X4_keep n x σ) (fun σ' => PI σ' (N + 1) (x :: A) ∧ (∀ a j, ¬ (a = 53 ∧ j = 2) → a ≠ 54 → σ' a j = σ a j)) := by
    unfold X4_keep
    refine wp_ifT (by rw [h1, w32i (by omega)]; omega) (wp_lt (wp_bind (wp_loop (fun k (z : Int × SG) => z.1 = ((N - k : Nat) : Int) ∧ k ≤ N ∧ (∀ j, j < N - k → z.2 54 j = σ 54 j) ∧ (∀ j, N - k < j → j ≤ N → z.2 54 j = σ 54 (j - 1) ∧ σ 54 (j - 1) < x) ∧ ∀ a j, a ≠ 54 → z.2 a j = σ a j) N ?_ ⟨h1, Nat.zero_le _, fun _ _ => rfl, fun j j1 j2 => absurd j1 (by omega), fun _ _ _ => rfl⟩ (by omega))))
    rintro k ⟨z1, σ1⟩ hk ⟨e1, e2, e3, e4, e5⟩
    obtain rfl : z1 = ((N - k : Nat) : Int) := e1
    have e3 : ∀ j, j < N - k → σ1 54 j = σ 54 j := e3
    have e4 : ∀ j, N - k < j → j ≤ N → σ1 54 j = σ 54 (j - 1) ∧ σ 54 (j - 1) < x := e4
    have e5 : ∀ a j, a ≠ 54 → σ1 a j = σ a j := e5
    have fin : (∀ i, i < N - k → x ≤ σ 54 i) → wp (X4_keep_e18 n x ((N - k : Nat) : Int) σ1) (fun σ' => PI σ' (N + 1) (x :: A) ∧ (∀ a j, ¬ (a = 53 ∧ j = 2) → a ≠ 54 → σ' a j = σ a j)) := by
      intro hi
      unfold X4_keep_e18
      refine wp_rdn (by omega) (by omega) (wp_lt (wp_lt (wp_some ?_)))
      obtain ⟨σ2, hσ2⟩ : ∃ y, y = up (up σ1 54 (N - k) x) 53 2 (up σ1 54 (N - k) x 53 2 + 1) := ⟨_, rfl⟩
      rw [← hσ2]
      have g1 : ∀ j, j < N - k → σ2 54 j = σ 54 j := fun j hj => by rw [hσ2, up_ne (by omega), up_ne (by omega)]; exact e3 j hj
      have g2 : σ2 54 (N - k) = x := by rw [hσ2, up_ne (by omega), up_eq rfl rfl]
      have g3 : ∀ j, N - k < j → j ≤ N → σ2 54 j = σ 54 (j - 1) ∧ σ 54 (j - 1) < x := fun j j1 j2 => by rw [hσ2, up_ne (by omega), up_ne (by omega)]; exact e4 j j1 j2
      refine ⟨⟨?_, fun i j hij hj => ?_, fun i hi2 => ?_, fun y hy => ?_⟩, fun a j a1 a2 => ?_⟩
      · rw [hσ2, up_eq rfl rfl, up_ne (by omega), e5 53 2 (by decide), h1]
        omega
      · by_cases c1 : j < N - k
        · rw [g1 j c1, g1 i (by omega)]
          exact h2 i j hij (by omega)
        · by_cases c2 : j = N - k
          · rw [c2, g2, g1 i (by omega)]
            exact hi i (by omega)
          · obtain ⟨q1, q2⟩ := g3 j (by omega) (by omega)
            rw [q1]
            by_cases c3 : i < N - k
            · rw [g1 i c3]
              exact h2 i (j - 1) (by omega) (by omega)
            · by_cases c4 : i = N - k
              · rw [c4, g2]
                omega
              · obtain ⟨q3, q4⟩ := g3 i (by omega) (by omega)
                rw [q3]
                exact h2 (i - 1) (j - 1) (by omega) (by omega)
      · by_cases c1 : i < N - k
        · rw [g1 i c1]
          exact h3 i (by omega)
        · by_cases c2 : i = N - k
          · rw [c2, g2]
            exact hx
          · rw [(g3 i (by omega) (by omega)).1]
            exact h3 (i - 1) (by omega)
      · rcases List.mem_cons.mp hy with rfl | hy
        · exact ⟨N - k, by omega, g2⟩
        · obtain ⟨i, i1, i2⟩ := h4 y hy
          by_cases c1 : i < N - k
          · exact ⟨i, by omega, by rw [g1 i c1]; exact i2⟩
          · exact ⟨i + 1, by omega, by rw [(g3 (i + 1) (by omega) (by omega)).1]; exact i2⟩
      · rw [hσ2, up_ne (by omega), up_ne (by omega)]
        exact e5 a j a2
    dsimp only
    unfold X4_keep_l18
    by_cases c : N - k = 0
    · exact wp_ifT (by rw [c]; decide) (wp_some (Or.inr ⟨_, rfl, fin (fun i hi => absurd hi (by omega))⟩))
    · have hv : σ1 54 (N - k - 1) = σ 54 (N - k - 1) := e3 _ (by omega)
      obtain ⟨y1, y2⟩ := h3 (N - k - 1) (by omega)
      refine wp_ifF (by rw [w32i (by omega)]; omega) (wp_rdI (N - k - 1) (by omega) (by omega) (by decide) ?_)
      rw [hv]
      by_cases d : x ≤ σ 54 (N - k - 1)
      · refine wp_ifT (by rw [w32i (by omega), w32i (by omega)]; exact d) (wp_some (Or.inr ⟨_, rfl, fin (fun i hi => ?_)⟩))
        by_cases q : i = N - k - 1
        · rw [q]; exact d
        · exact Int.le_trans d (h2 i (N - k - 1) (by omega) (by omega))
      · refine wp_ifF (by rw [w32i (by omega), w32i (by omega)]; exact d) (wp_rdI (N - k - 1) (by omega) (by omega) (by decide) (wp_rdn (by omega) (by omega) (wp_lt (wp_lt (wp_some (Or.inl ⟨_, rfl, by omega, by simp only []; omega, by omega, fun j hj => ?_, fun j j1 j2 => ?_, fun a j ha => ?_⟩))))))
        · dsimp only
          rw [up_ne (by omega)]
          exact e3 j (by omega)
        · dsimp only
          by_cases q : j = N - k
          · rw [q, up_eq rfl rfl, hv]
            exact ⟨rfl, by omega⟩
          · rw [up_ne (by omega)]
            exact e4 j (by omega) j2
        · dsimp only
          rw [up_ne (by omega)]
          exact e5 a j ha
  obtain ⟨σ', e, h⟩ := key
  exact ⟨σ', e, h⟩
/-- the first place of a score -/
theorem placeOf_ok {σ : SG} {N n : Nat} {x : Int} (h1 : σ 53 2 = (N : Int)) (hN : N ≤ 8) (h3 : ∀ i, i < N → h01 (σ 54 i)) (hx : h01 x) (h4 : ∃ i, i < N ∧ σ 54 i = x) (hn : 10 < n) : ∃ p : Nat, X4_placeOf n x σ = some (p : Int) ∧ p < N ∧ σ 54 p = x ∧ ∀ i, i < p → σ 54 i ≠ x := by
  have key : wp (X4_placeOf n x σ) (fun r => ∃ p : Nat, r = (p : Int) ∧ p < N ∧ σ 54 p = x ∧ ∀ i, i < p → σ 54 i ≠ x) := by
    unfold X4_placeOf
    refine wp_bind (wp_loop (fun k (z : Int) => z = (k : Int) ∧ ∀ i, i < k → σ 54 i ≠ x) N ?_ ⟨rfl, fun i hi => absurd hi (by omega)⟩ (by omega))
    rintro k z hk ⟨e1, e2⟩
    obtain rfl : z = (k : Int) := e1
    unfold X4_placeOf_l2
    by_cases c : k = N
    · obtain ⟨i, i1, i2⟩ := h4
      exact absurd i2 (e2 i (by omega))
    · obtain ⟨y1, y2⟩ := h3 k (by omega)
      obtain ⟨x1, x2⟩ := hx
      refine wp_ifF (by rw [h1, w32i (by omega), w32i (by omega)]; omega) (wp_rdn (by omega) (by omega) ?_)
      by_cases d : σ 54 k = x
      · exact wp_ifT (by rw [d]) (wp_some (Or.inr ⟨_, rfl, wp_some ⟨k, rfl, by omega, d, e2⟩⟩))
      · refine wp_ifF (by rw [w32i (by omega), w32i (by omega)]; exact d) (wp_lt (wp_some (Or.inl ⟨_, rfl, by omega, by omega, fun i hi => ?_⟩)))
        by_cases q : i = k
        · rw [q]; exact d
        · exact e2 i (by omega)
  obtain ⟨r, e, p, rfl, h⟩ := key
  exact ⟨p, e, h⟩
/-- what the table stands on -/
def PF (σ : SG) (c : Nat) (sv : Nat → Int) (f s : Int) : Prop := σ 53 2 = ((c + 2 : Nat) : Int) ∧ σ 19 6 = (c : Int) ∧ (∀ i j, i < j → j < c + 2 → σ 54 j ≤ σ 54 i) ∧ (∀ i, i < c + 2 → h01 (σ 54 i)) ∧ (∃ i, i < c + 2 ∧ σ 54 i = f) ∧ (∃ i, i < c + 2 ∧ σ 54 i = s) ∧ ∀ k, k < c → ∃ p : Nat, σ 55 k = (p : Int) ∧ p < c + 2 ∧ σ 54 p = sv k ∧ ∀ i, i < p → σ 54 i ≠ sv k
theorem PF.cg {σ σ' : SG} {c : Nat} {sv : Nat → Int} {f s : Int} (h : PF σ c sv f s) (e : ∀ a j, a ≠ 56 → σ' a j = σ a j) : PF σ' c sv f s := by
  unfold PF at *
  rw [e 53 2 (by decide), e 19 6 (by decide), show σ' 54 = σ 54 from funext fun j => e 54 j (by decide), show σ' 55 = σ 55 from funext fun j => e 55 j (by decide)]
  exact h
theorem fillPool_ok {σ : SG} {c : Nat} {sv : Nat → Int} {f s : Int} (hc : σ 19 6 = (c : Int)) (hc6 : c ≤ 6) (hs : ∀ k, k < c → σ 38 k = sv k ∧ h01 (sv k)) (hf : h01 f) (h2 : h01 s) : ∃ σ', X4_fillPool 1000 f s σ = some σ' ∧ PF σ' c sv f s ∧ FrPl σ σ' := by
  have key : wp (X4_fillPool 1000 f s σ) (fun σ' => PF σ' c sv f s ∧ FrPl σ σ') := by
    unfold X4_fillPool
    obtain ⟨σ1, u1, u2, u3⟩ := keep_ok (σ := up σ 53 2 0) (N := 0) (n := 1000) (A := []) (x := f) ⟨up_eq rfl rfl, fun i j _ h => absurd h (by omega), fun i h => absurd h (by omega), fun x hx => absurd hx (List.not_mem_nil)⟩ (by decide) hf (by decide)
    obtain ⟨σ2, v1, v2, v3⟩ := keep_ok (σ := σ1) (N := 1) (n := 1000) (x := s) u2 (by decide) h2 (by decide)
    have g : ∀ a j, ¬ (a = 53 ∧ j = 2) → a ≠ 54 → σ2 a j = σ a j := fun a j a1 a2 => by rw [v3 a j a1 a2, u3 a j a1 a2, up_ne a1]
    refine wp_lt (wp_bind (wp_of u1 (wp_bind (wp_of v1 (wp_bind ?_)))))
    refine wp_loop (fun k (z : Int × SG) => z.1 = (k : Int) ∧ (∃ A, PI z.2 (k + 2) A ∧ f ∈ A ∧ s ∈ A ∧ ∀ i, i < k → sv i ∈ A) ∧ ∀ a j, ¬ (a = 53 ∧ j = 2) → a ≠ 54 → z.2 a j = σ a j) c ?_ ⟨rfl, ⟨_, v2, by simp, by simp, fun i hi => absurd hi (by omega)⟩, g⟩ (by omega)
    rintro k ⟨z1, σ3⟩ hk ⟨e1, ⟨A, e2, e3, e4, e5⟩, e6⟩
    obtain rfl : z1 = (k : Int) := e1
    have e2 : PI σ3 (k + 2) A := e2
    have e6 : ∀ a j, ¬ (a = 53 ∧ j = 2) → a ≠ 54 → σ3 a j = σ a j := e6
    have f6 : σ3 19 6 = (c : Int) := (e6 19 6 (by decide) (by decide)).trans hc
    have f38 : ∀ i, σ3 38 i = σ 38 i := fun i => e6 38 i (by omega) (by decide)
    dsimp only
    unfold X4_fillPool_l17
    by_cases q : k = c
    · subst q
      refine wp_ifT (by rw [f6]; exact Int.le_refl _) (wp_some (Or.inr ⟨_, rfl, ?_⟩))
      unfold X4_fillPool_e17 X4_fillPool_e49
      obtain ⟨p1, p2, p3, p4⟩ := e2
      refine wp_bind (wp_loop (fun i (z : Int × SG) => z.1 = (i : Int) ∧ (∀ a j, a ≠ 55 → z.2 a j = σ3 a j) ∧ ∀ t, t < i → ∃ p : Nat, z.2 55 t = (p : Int) ∧ p < k + 2 ∧ σ3 54 p = sv t ∧ ∀ i, i < p → σ3 54 i ≠ sv t) k ?_ ⟨rfl, fun _ _ _ => rfl, fun t ht => absurd ht (by omega)⟩ (by omega))
      rintro i ⟨z1, σ4⟩ hi ⟨g1, g2, g3⟩
      obtain rfl : z1 = (i : Int) := g1
      have g2 : ∀ a j, a ≠ 55 → σ4 a j = σ3 a j := g2
      have g3 : ∀ t, t < i → ∃ p : Nat, σ4 55 t = (p : Int) ∧ p < k + 2 ∧ σ3 54 p = sv t ∧ ∀ i, i < p → σ3 54 i ≠ sv t := g3
      have g54 : σ4 54 = σ3 54 := funext fun j => g2 54 j (by decide)
      dsimp only
      unfold X4_fillPool_l49
      by_cases q2 : i = k
      · subst q2
        refine wp_ifT (by rw [g2 19 6 (by decide), f6]; exact Int.le_refl _) (wp_some (Or.inr ⟨_, rfl, wp_some ⟨⟨?_, ?_, ?_, ?_, ?_, ?_, ?_⟩, fun a j a1 a2 a3 a4 => ?_⟩⟩))
        · rw [g2 53 2 (by decide)]; exact p1
        · rw [g2 19 6 (by decide)]; exact f6
        · rw [g54]; exact p2
        · rw [g54]; exact p3
        · rw [g54]; exact p4 f e3
        · rw [g54]; exact p4 s e4
        · rw [g54]; exact g3
        · rw [g2 a j a3]; exact e6 a j a1 a2
      · obtain ⟨s1, s2⟩ := hs i (by omega)
        have s38 : σ4 38 i = sv i := by rw [g2 38 i (by decide), f38, s1]
        obtain ⟨p, o1, o2, o3, o4⟩ := placeOf_ok (σ := σ4) (N := k + 2) (n := 1000) (x := sv i) ((g2 53 2 (by decide)).trans p1) (by omega) (by rw [g54]; exact p3) s2 (by rw [g54]; exact p4 _ (e5 i (by omega))) (by decide)
        rw [g54] at o3 o4
        refine wp_ifF (by rw [g2 19 6 (by decide), f6, w32i (by omega), w32i (by omega)]; omega) (wp_rdn (by omega) (by omega) (wp_bind ?_))
        rw [s38]
        refine wp_of o1 (wp_rdn (by omega) (by omega) (wp_lt (wp_lt (wp_some (Or.inl ⟨_, rfl, by omega, by simp only []; omega, fun a j ha => ?_, fun t ht => ?_⟩)))))
        · dsimp only
          rw [up_ne (by omega)]
          exact g2 a j ha
        · dsimp only
          by_cases q3 : t = i
          · subst q3
            exact ⟨p, up_eq rfl rfl, o2, o3, o4⟩
          · rw [up_ne (by omega)]
            exact g3 t (by omega)
    · obtain ⟨s1, s2⟩ := hs k (by omega)
      obtain ⟨σ4, w1, w2, w3⟩ := keep_ok (σ := σ3) (N := k + 2) (n := 1000) (x := sv k) e2 (by omega) s2 (by decide)
      refine wp_ifF (by rw [f6, w32i (by omega), w32i (by omega)]; omega) (wp_rdn (by omega) (by omega) (wp_bind ?_))
      rw [f38, s1]
      refine wp_of w1 (wp_lt (wp_some (Or.inl ⟨_, rfl, by omega, by simp only []; omega, ⟨sv k :: A, ?_, by simp [e3], by simp [e4], fun i hi => ?_⟩, fun a j a1 a2 => (w3 a j a1 a2).trans (e6 a j a1 a2)⟩)))
      · exact w2
      · by_cases q3 : i = k
        · subst q3; simp
        · exact List.mem_cons_of_mem _ (e5 i (by omega))
  obtain ⟨σ', e, h⟩ := key
  exact ⟨σ', e, h⟩
