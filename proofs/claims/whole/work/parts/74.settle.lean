/-! ===== settleRow, changesRow ===== -/
/-- who did not take the wave and is not sent in -/
def lf (on hi : Nat → Int) : Nat → List Int
  | 0 => []
  | k + 1 => if on k = 0 ∧ hi k < 2 then lf on hi k ++ [(k : Int)] else lf on hi k
theorem lf_len {on hi : Nat → Int} : ∀ {k : Nat}, (lf on hi k).length = ((List.range k).filter (fun s => decide (on s = 0 ∧ hi s < 2))).length
  | 0 => rfl
  | k + 1 => by
    rw [List.range_succ, List.filter_append, List.length_append, ← lf_len (on := on) (hi := hi) (k := k)]
    show (if on k = 0 ∧ hi k < 2 then lf on hi k ++ [(k : Int)] else lf on hi k).length = _
    by_cases c : on k = 0 ∧ hi k < 2
    · rw [if_pos c, List.length_append]
      simp [List.filter, c]
    · rw [if_neg c]
      simp [List.filter, c]
theorem lf_mem {on hi : Nat → Int} {x : Int} : ∀ {k : Nat}, x ∈ lf on hi k ↔ ∃ s : Nat, s < k ∧ x = (s : Int) ∧ on s = 0 ∧ hi s < 2
  | 0 => ⟨fun h => nomatch h, fun ⟨s, h, _⟩ => absurd h (by omega)⟩
  | k + 1 => by
    show x ∈ (if on k = 0 ∧ hi k < 2 then lf on hi k ++ [(k : Int)] else lf on hi k) ↔ _
    by_cases c : on k = 0 ∧ hi k < 2
    · rw [if_pos c, List.mem_append, lf_mem (k := k)]
      constructor
      · rintro (⟨s, h1, h2⟩ | h)
        · exact ⟨s, by omega, h2⟩
        · exact ⟨k, by omega, List.mem_singleton.mp h, c⟩
      · rintro ⟨s, h1, h2, h3⟩
        by_cases q : s = k
        · subst q
          exact Or.inr (List.mem_singleton.mpr h2)
        · exact Or.inl ⟨s, by omega, h2, h3⟩
    · rw [if_neg c, lf_mem (k := k)]
      constructor
      · rintro ⟨s, h1, h2⟩
        exact ⟨s, by omega, h2⟩
      · rintro ⟨s, h1, h2, h3⟩
        by_cases q : s = k
        · subst q
          exact absurd h3 c
        · exact ⟨s, by omega, h2, h3⟩
theorem lf_le {on hi : Nat → Int} {k : Nat} : (lf on hi k).length ≤ k := by
  rw [lf_len]
  exact Nat.le_trans (List.length_filter_le _ _) (by rw [List.length_range]; exact Nat.le_refl k)
theorem add_ok {σ : SG} {L : List Int} {k n : Nat} (h1 : σ 35 1 = (L.length : Int)) (hL : IsL (σ 36) L) (h5 : L.length < 5) : wp (X5_add n (k : Int) σ) (fun σ' => σ' 35 1 = ((L ++ [(k : Int)]).length : Int) ∧ IsL (σ' 36) (L ++ [(k : Int)]) ∧ ∀ c j, c ≠ 36 → ¬ (c = 35 ∧ j = 1) → σ' c j = σ c j) := by
  unfold X5_add
  refine wp_ifF (by rw [h1, w32i (by omega)]; omega) (wp_lt (wp_rdI L.length h1 (by omega) (by decide) (wp_lt (wp_some ⟨?_, ?_, fun c j a b => ?_⟩))))
  · rw [up_ne (by omega), up_eq rfl rfl, h1, List.length_append, List.length_singleton]
    omega
  · refine IsL.snoc (hL.cg (fun j hj => ?_)) (up_eq rfl rfl)
    rw [up_ne (by omega), up_ne (by omega)]
  · rw [up_ne (by omega), up_ne (by omega)]
/-- the bits tell who took the wave -/
theorem bit_on {on : Nat → Int} {m k : Nat} (hm : m ≤ 5) (hk : k < m) (h : ∀ s, s < m → on s = 0 ∨ on s = 1) : bAnd (bShr (msk on m) (k : Int)) 1 = on k := by
  have h1 := msk_32 hm h
  rw [bit_of h1.1 h1.2 (by omega), msk_bit hm hk h]
/-- the class's, nobody told before -/
theorem settle0_ok {σ : SG} {S m n : Nat} {on hi : Nat → Int} (hS : S = 1 ∨ S = 20) (hU : σ 19 0 = (S : Int)) (n1 : σ S 5 = (m : Int)) (n5 : m ≤ 5) (hC : ∀ s : Nat, s < 5 → σ 34 s = ((39 + 2 * s : Nat) : Int)) (hon : ∀ s, s < m → on s = 0 ∨ on s = 1) (hh : ∀ s, s < m → σ (39 + 2 * s) 9 = hi s ∧ 0 ≤ hi s ∧ hi s ≤ 20) (ht : σ 35 2 = 0) (h1 : σ 35 1 = 0) (hn : 10 < n) :
    ∃ σ', X1_settleRow n (msk on m) σ = some σ' ∧ σ' 35 2 = 1 ∧ σ' 35 1 = ((lf on hi m).length : Int) ∧ IsL (σ' 36) (lf on hi m) ∧ ∀ c j, c ≠ 36 → ¬ (c = 35 ∧ (j = 1 ∨ j = 2)) → σ' c j = σ c j := by
  have key : wp (X1_settleRow n (msk on m) σ) (fun σ' => σ' 35 2 = 1 ∧ σ' 35 1 = ((lf on hi m).length : Int) ∧ IsL (σ' 36) (lf on hi m) ∧ ∀ c j, c ≠ 36 → ¬ (c = 35 ∧ (j = 1 ∨ j = 2)) → σ' c j = σ c j) := by
    unfold X1_settleRow
    refine wp_bind (wp_loop (fun k (z : Int × SG) => z.1 = (k : Int) ∧ z.2 35 1 = ((lf on hi k).length : Int) ∧ IsL (z.2 36) (lf on hi k) ∧ ∀ c j, c ≠ 36 → ¬ (c = 35 ∧ j = 1) → z.2 c j = σ c j) m ?_ ⟨rfl, h1, fun k hk => absurd hk (by simp [lf]), fun _ _ _ _ => rfl⟩ (by omega))
    rintro k ⟨z1, σ1⟩ hk ⟨e1, e2, e3, e4⟩
    obtain rfl : z1 = (k : Int) := e1
    have e2 : σ1 35 1 = ((lf on hi k).length : Int) := e2
    have e3 : IsL (σ1 36) (lf on hi k) := e3
    have e4 : ∀ c j, c ≠ 36 → ¬ (c = 35 ∧ j = 1) → σ1 c j = σ c j := e4
    have g1 : σ1 19 0 = (S : Int) := (e4 19 0 (by decide) (by decide)).trans hU
    have g2 : σ1 S 5 = (m : Int) := (e4 S 5 (by omega) (by omega)).trans n1
    have g3 : σ1 35 2 = 0 := (e4 35 2 (by decide) (by decide)).trans ht
    have hle := lf_le (on := on) (hi := hi) (k := k)
    dsimp only
    unfold X1_settleRow_l2 X1_settleRow_j27 X1_settleRow_j87 X1_settleRow_e2
    refine wp_ckI S g1 (isSea_S hS) ?_
    by_cases c : k = m
    · subst c
      refine wp_ifT (by rw [g2]; exact Int.le_refl _) (wp_some (Or.inr ⟨_, rfl, wp_lt (wp_some ⟨up_eq rfl rfl, ?_, ?_, fun c j a b => ?_⟩)⟩))
      · rw [up_ne (by omega)]; exact e2
      · rw [up_rw (by decide)]; exact e3
      · rw [up_ne (by omega)]; exact e4 c j a (by omega)
    · have hC1 : σ1 34 k = ((39 + 2 * k : Nat) : Int) := (e4 34 k (by decide) (by omega)).trans (hC k (by omega))
      obtain ⟨q1, q2, q3⟩ := hh k (by omega)
      have hk9 : σ1 (39 + 2 * k) 9 = hi k := (e4 _ 9 (by omega) (by omega)).trans q1
      have hb := bit_on n5 (show k < m by omega) hon
      have hlf : lf on hi (k + 1) = if on k = 0 ∧ hi k < 2 then lf on hi k ++ [(k : Int)] else lf on hi k := rfl
      refine wp_ifF (by rw [g2, w32i (by omega), w32i (by omega)]; omega) (wp_bind ?_)
      rcases hon k (by omega) with o | o
      · refine wp_ifF (by rw [hb, o]; decide) (wp_some (wp_bind (wp_ifT (by rw [g3]; rfl) (wp_ifT (by rw [g3]; rfl) (wp_ifT rfl (wp_rdn (by omega) (by omega) (wp_ckI (39 + 2 * k) hC1 (isSw_s (by omega)) (wp_bind (wp_of (sent_ok hk9 ⟨q2, q3⟩) ?_)))))))))
        by_cases d : hi k < 2
        · rw [if_pos d]
          refine wp_ifT rfl (wp_bind (wp_mono (add_ok e2 e3 (by omega)) (fun σ2 r => ?_)))
          obtain ⟨r1, r2, r3⟩ := r
          rw [if_pos ⟨o, d⟩] at hlf
          refine wp_some (wp_lt (wp_some (Or.inl ⟨_, rfl, by omega, by simp only []; omega, ?_, ?_, fun c j a b => (r3 c j a b).trans (e4 c j a b)⟩)))
          · rw [hlf]; exact r1
          · rw [hlf]; exact r2
        · rw [if_neg d]
          rw [if_neg (fun q => d q.2)] at hlf
          refine wp_ifF (by decide) (wp_some (wp_lt (wp_some (Or.inl ⟨_, rfl, by omega, by simp only []; omega, ?_, ?_, e4⟩))))
          · rw [hlf]; exact e2
          · rw [hlf]; exact e3
      · rw [if_neg (fun q => absurd (o.symm.trans q.1) (by decide))] at hlf
        refine wp_ifT (by rw [hb, o]) (wp_some (wp_bind (wp_ifT (by rw [g3]; rfl) (wp_ifT (by rw [g3]; rfl) (wp_ifF (by decide) (wp_some (wp_lt (wp_some (Or.inl ⟨_, rfl, by omega, by simp only []; omega, ?_, ?_, e4⟩)))))))))
        · rw [hlf]; exact e2
        · rw [hlf]; exact e3
  obtain ⟨σ', e, h⟩ := key
  exact ⟨σ', e, h⟩
