/-! ===== settleRow, changesRow ===== -/
/-- who did not take the wave and is not sent in -/
def lf (on hi : Nat → Int) : Nat → List Int
  | 0 => []
  | k + 1 => if on k = 0 ∧ hi k < 2 then lf on hi k ++ [(k : Int)] else lf on hi k
theorem lf_len {on hi : Nat → Int} : ∀ {k : Nat}, (lf on hi k).length = ((List.range k).filter (fun s => decide (on s = 0 ∧ hi s < 2))).length
  | 0 => rfl
  | k + 1 => by
    rw [List.range_succ, List.filter_append, List.length_append, ← lf_len (on := on) (hi := hi) (k := k)]
    show (if on k = 0 ∧ hi k < 2 then lf on hi k ++ [(k : Int)] else lf on hi k).length = _
    by_cases c : on k = 0 ∧ hi k < 2
    · rw [if_pos c, List.length_append]
      simp [List.filter, c]
    · rw [if_neg c]
      simp [List.filter, c]
theorem lf_mem {on hi : Nat → Int} {x : Int} : ∀ {k : Nat}, x ∈ lf on hi k ↔ ∃ s : Nat, s < k ∧ x = (s : Int) ∧ on s = 0 ∧ hi s < 2
  | 0 => ⟨(fun h => absurd h (List.not_mem_nil)), (fun ⟨s, h, _⟩ => absurd h (by omega))⟩
  | k + 1 => by
    show x ∈ (if on k = 0 ∧ hi k < 2 then lf on hi k ++ [(k : Int)] else lf on hi k) ↔ _
    by_cases c : on k = 0 ∧ hi k < 2
    · rw [if_pos c, List.mem_append, lf_mem (k := k)]
      constructor
      · rintro (⟨s, h1, h2⟩ | h)
        · exact ⟨s, by omega, h2⟩
        · exact ⟨k, by omega, List.mem_singleton.mp h, c⟩
      · rintro ⟨s, h1, h2, h3⟩
        by_cases q : s = k
        · subst q
          exact Or.inr (List.mem_singleton.mpr h2)
        · exact Or.inl ⟨s, by omega, h2, h3⟩
    · rw [if_neg c, lf_mem (k := k)]
      constructor
      · rintro ⟨s, h1, h2⟩
        exact ⟨s, by omega, h2⟩
      · rintro ⟨s, h1, h2, h3⟩
        by_cases q : s = k
        · subst q
          exact absurd h3 c
        · exact ⟨s, by omega, h2, h3⟩
theorem lf_le {on hi : Nat → Int} {k : Nat} : (lf on hi k).length ≤ k := by
  rw [lf_len]
  exact Nat.le_trans (List.length_filter_le _ _) (by rw [List.length_range]; exact Nat.le_refl k)
theorem add_ok {σ : SG} {L : List Int} {k n : Nat} (h1 : σ 35 1 = (L.length : Int)) (hL : IsL (σ 36) L) (h5 : L.length < 5) : wp (X5_add n (k : Int) σ) (fun σ' => σ' 35 1 = ((L ++ [(k : Int)]).length : Int) ∧ IsL (σ' 36) (L ++ [(k : Int)]) ∧ ∀ c j, c ≠ 36 → ¬ (c = 35 ∧ j = 1) → σ' c j = σ c j) := by
  unfold X5_add
  refine wp_ifF (by rw [h1, w32i (by omega)]; omega) (wp_lt (wp_rdI L.length h1 (by omega) (by decide) (wp_lt (wp_some ⟨?_, ?_, fun c j a b => ?_⟩))))
  · rw [up_ne (by omega), up_eq rfl rfl, h1, List.length_append, List.length_singleton]
    omega
  · refine IsL.snoc (hL.cg (fun j hj => ?_)) (up_eq rfl rfl)
    rw [up_ne (by omega), up_ne (by omega)]
  · rw [up_ne (by omega), up_ne (by omega)]
/-- the bits tell who took the wave -/
theorem bit_on {on : Nat → Int} {m k : Nat} (hm : m ≤ 5) (hk : k < m) (h : ∀ s, s < m → on s = 0 ∨ on s = 1) : bAnd (bShr (msk on m) (k : Int)) 1 = on k := by
  have h1 := msk_32 hm h
  rw [bit_of h1.1 h1.2 (by omega), msk_bit hm hk h]
/-- the class's, nobody told before -/
theorem settle0_ok {σ : SG} {S m n : Nat} {on hi : Nat → Int} (hS : S = 1 ∨ S = 20) (hU : σ 19 0 = (S : Int)) (n1 : σ S 5 = (m : Int)) (n5 : m ≤ 5) (hC : ∀ s : Nat, s < 5 → σ 34 s = ((39 + 2 * s : Nat) : Int)) (hon : ∀ s, s < m → on s = 0 ∨ on s = 1) (hh : ∀ s, s < m → σ (39 + 2 * s) 9 = hi s ∧ 0 ≤ hi s ∧ hi s ≤ 20) (ht : σ 35 2 = 0) (h1 : σ 35 1 = 0) (hn : 10 < n) :
    ∃ σ', X1_settleRow n (msk on m) σ = some σ' ∧ σ' 35 2 = 1 ∧ σ' 35 1 = ((lf on hi m).length : Int) ∧ IsL (σ' 36) (lf on hi m) ∧ ∀ c j, c ≠ 36 → ¬ (c = 35 ∧ (j = 1 ∨ j = 2)) → σ' c j = σ c j := by
  have key : wp (X1_settleRow n (msk on m) σ) (fun σ' => σ' 35 2 = 1 ∧ σ' 35 1 = ((lf on hi m).length : Int) ∧ IsL (σ' 36) (lf on hi m) ∧ ∀ c j, c ≠ 36 → ¬ (c = 35 ∧ (j = 1 ∨ j = 2)) → σ' c j = σ c j) := by
    unfold X1_settleRow
    refine wp_bind (wp_loop (fun k (z : Int × SG) => z.1 = (k : Int) ∧ z.2 35 1 = ((lf on hi k).length : Int) ∧ IsL (z.2 36) (lf on hi k) ∧ ∀ c j, c ≠ 36 → ¬ (c = 35 ∧ j = 1) → z.2 c j = σ c j) m ?_ ⟨rfl, h1, fun k hk => absurd hk (by simp [lf]), fun _ _ _ _ => rfl⟩ (by omega))
    rintro k ⟨z1, σ1⟩ hk ⟨e1, e2, e3, e4⟩
    obtain rfl : z1 = (k : Int) := e1
    have e2 : σ1 35 1 = ((lf on hi k).length : Int) := e2
    have e3 : IsL (σ1 36) (lf on hi k) := e3
    have e4 : ∀ c j, c ≠ 36 → ¬ (c = 35 ∧ j = 1) → σ1 c j = σ c j := e4
    have g1 : σ1 19 0 = (S : Int) := (e4 19 0 (by decide) (by decide)).trans hU
    have g2 : σ1 S 5 = (m : Int) := (e4 S 5 (by omega) (by omega)).trans n1
    have g3 : σ1 35 2 = 0 := (e4 35 2 (by decide) (by decide)).trans ht
    have hle := lf_le (on := on) (hi := hi) (k := k)
    dsimp only
    unfold X1_settleRow_l2 X1_settleRow_j27 X1_settleRow_j87 X1_settleRow_e2
    refine wp_ckI S g1 (isSea_S hS) ?_
    by_cases c : k = m
    · subst c
      refine wp_ifT (by rw [g2]; exact Int.le_refl _) (wp_some (Or.inr ⟨_, rfl, wp_lt (wp_some ⟨up_eq rfl rfl, ?_, ?_, fun c j a b => ?_⟩)⟩))
      · rw [up_ne (by omega)]; exact e2
      · rw [up_rw (by decide)]; exact e3
      · rw [up_ne (by omega)]; exact e4 c j a (by omega)
    · have hC1 : σ1 34 k = ((39 + 2 * k : Nat) : Int) := (e4 34 k (by decide) (by omega)).trans (hC k (by omega))
      obtain ⟨q1, q2, q3⟩ := hh k (by omega)
      have hk9 : σ1 (39 + 2 * k) 9 = hi k := (e4 _ 9 (by omega) (by omega)).trans q1
      have hb := bit_on n5 (show k < m by omega) hon
      have hlf : lf on hi (k + 1) = if on k = 0 ∧ hi k < 2 then lf on hi k ++ [(k : Int)] else lf on hi k := rfl
      refine wp_ifF (by rw [g2, w32i (by omega), w32i (by omega)]; omega) (wp_bind ?_)
      rcases hon k (by omega) with o | o
      · refine wp_ifF (by rw [hb, o]; decide) (wp_some (wp_bind (wp_ifT (by rw [g3]; rfl) (wp_ifT (by rw [g3]; rfl) (wp_ifT rfl (wp_rdn (by omega) (by omega) (wp_ckI (39 + 2 * k) hC1 (isSw_s (by omega)) (wp_bind (wp_of (sent_ok hk9 ⟨q2, q3⟩) ?_)))))))))
        by_cases d : hi k < 2
        · rw [if_pos d]
          refine wp_ifT rfl (wp_bind (wp_mono (add_ok e2 e3 (by omega)) (fun σ2 r => ?_)))
          obtain ⟨r1, r2, r3⟩ := r
          rw [if_pos ⟨o, d⟩] at hlf
          refine wp_some (wp_lt (wp_some (Or.inl ⟨_, rfl, by omega, by simp only []; omega, ?_, ?_, fun c j a b => (r3 c j a b).trans (e4 c j a b)⟩)))
          · rw [hlf]; exact r1
          · rw [hlf]; exact r2
        · rw [if_neg d]
          rw [if_neg (fun q => d q.2)] at hlf
          refine wp_ifF (by decide) (wp_some (wp_lt (wp_some (Or.inl ⟨_, rfl, by omega, by simp only []; omega, ?_, ?_, e4⟩))))
          · rw [hlf]; exact e2
          · rw [hlf]; exact e3
      · rw [if_neg (fun q => absurd (o.symm.trans q.1) (by decide))] at hlf
        refine wp_ifT (by rw [hb, o]; rfl) (wp_some (wp_bind (wp_ifT (by rw [g3]; rfl) (wp_ifT (by rw [g3]; rfl) (wp_ifF (by decide) (wp_some (wp_lt (wp_some (Or.inl ⟨_, rfl, by omega, by simp only []; omega, ?_, ?_, e4⟩)))))))))
        · rw [hlf]; exact e2
        · rw [hlf]; exact e3
  obtain ⟨σ', e, h⟩ := key
  exact ⟨σ', e, h⟩
/-- the row without those of the first k who took the wave -/
def lw (on : Nat → Int) (L : List Int) (k : Nat) : List Int := L.filter (fun x => decide (¬ (0 ≤ x ∧ x < (k : Int) ∧ on x.toNat = 1)))
theorem lw_0 {on : Nat → Int} {L : List Int} : lw on L 0 = L := List.filter_eq_self.mpr (fun x _ => decide_eq_true (by omega))
theorem lw_s1 {on : Nat → Int} {L : List Int} {k : Nat} (h : on k = 1) : lw on L (k + 1) = (lw on L k).filter (fun x => decide (x ≠ (k : Int))) := by
  unfold lw
  rw [List.filter_filter]
  refine List.filter_congr (fun x _ => ?_)
  by_cases c : x = (k : Int)
  · subst c
    simp [h]
    omega
  · have : (0 ≤ x ∧ x < ((k + 1 : Nat) : Int) ∧ on x.toNat = 1) ↔ (0 ≤ x ∧ x < (k : Int) ∧ on x.toNat = 1) := by omega
    simp only [this]
    simp [c]
theorem lw_s0 {on : Nat → Int} {L : List Int} {k : Nat} (h : on k = 0) : lw on L (k + 1) = lw on L k := by
  unfold lw
  refine List.filter_congr (fun x _ => ?_)
  by_cases c : x = (k : Int)
  · subst c
    simp [h]
  · have : (0 ≤ x ∧ x < ((k + 1 : Nat) : Int) ∧ on x.toNat = 1) ↔ (0 ≤ x ∧ x < (k : Int) ∧ on x.toNat = 1) := by omega
    simp only [this]
theorem lw_le {on : Nat → Int} {L : List Int} {k : Nat} : (lw on L k).length ≤ L.length := List.length_filter_le _ _
/-- the class's, told before -/
theorem settle1_ok {σ : SG} {S m n : Nat} {on : Nat → Int} {L : List Int} (hS : S = 1 ∨ S = 20) (hU : σ 19 0 = (S : Int)) (n1 : σ S 5 = (m : Int)) (n5 : m ≤ 5) (hon : ∀ s, s < m → on s = 0 ∨ on s = 1) (ht : σ 35 2 = 1) (h1 : σ 35 1 = (L.length : Int)) (hL : IsL (σ 36) L) (h5 : L.length ≤ 5) (hx : ∀ x ∈ L, 0 ≤ x ∧ x < (m : Int)) (hn : 10 < n) :
    ∃ σ', X1_settleRow n (msk on m) σ = some σ' ∧ σ' 35 2 = 1 ∧ σ' 35 1 = ((lw on L m).length : Int) ∧ IsL (σ' 36) (lw on L m) ∧ ∀ c j, c ≠ 36 → ¬ (c = 35 ∧ (j = 1 ∨ j = 2)) → σ' c j = σ c j := by
  have key : wp (X1_settleRow n (msk on m) σ) (fun σ' => σ' 35 2 = 1 ∧ σ' 35 1 = ((lw on L m).length : Int) ∧ IsL (σ' 36) (lw on L m) ∧ ∀ c j, c ≠ 36 → ¬ (c = 35 ∧ (j = 1 ∨ j = 2)) → σ' c j = σ c j) := by
    unfold X1_settleRow
    refine wp_bind (wp_loop (fun k (z : Int × SG) => z.1 = (k : Int) ∧ z.2 35 1 = ((lw on L k).length : Int) ∧ IsL (z.2 36) (lw on L k) ∧ ∀ c j, c ≠ 36 → ¬ (c = 35 ∧ j = 1) → z.2 c j = σ c j) m ?_ ⟨rfl, by rw [lw_0]; exact h1, by rw [lw_0]; exact hL, fun _ _ _ _ => rfl⟩ (by omega))
    rintro k ⟨z1, σ1⟩ hk ⟨e1, e2, e3, e4⟩
    obtain rfl : z1 = (k : Int) := e1
    have e2 : σ1 35 1 = ((lw on L k).length : Int) := e2
    have e3 : IsL (σ1 36) (lw on L k) := e3
    have e4 : ∀ c j, c ≠ 36 → ¬ (c = 35 ∧ j = 1) → σ1 c j = σ c j := e4
    have g1 : σ1 19 0 = (S : Int) := (e4 19 0 (by decide) (by decide)).trans hU
    have g2 : σ1 S 5 = (m : Int) := (e4 S 5 (by omega) (by omega)).trans n1
    have g3 : σ1 35 2 = 1 := (e4 35 2 (by decide) (by decide)).trans ht
    have hle := lw_le (on := on) (L := L) (k := k)
    dsimp only
    unfold X1_settleRow_l2 X1_settleRow_j27 X1_settleRow_j87 X1_settleRow_e2
    refine wp_ckI S g1 (isSea_S hS) ?_
    by_cases c : k = m
    · subst c
      refine wp_ifT (by rw [g2]; exact Int.le_refl _) (wp_some (Or.inr ⟨_, rfl, wp_lt (wp_some ⟨up_eq rfl rfl, ?_, ?_, fun c j a b => ?_⟩)⟩))
      · rw [up_ne (by omega)]; exact e2
      · rw [up_rw (by decide)]; exact e3
      · rw [up_ne (by omega)]; exact e4 c j a (by omega)
    · have hb := bit_on n5 (show k < m by omega) hon
      refine wp_ifF (by rw [g2, w32i (by omega), w32i (by omega)]; omega) (wp_bind ?_)
      rcases hon k (by omega) with o | o
      · refine wp_ifF (by rw [hb, o]; decide) (wp_some (wp_bind (wp_ifF (by rw [g3]; decide) (wp_ifT rfl (wp_ifF (by rw [g3]; decide) (wp_some (wp_lt (wp_some (Or.inl ⟨_, rfl, by omega, by simp only []; omega, ?_, ?_, e4⟩)))))))))
        · rw [lw_s0 o]; exact e2
        · rw [lw_s0 o]; exact e3
      · refine wp_ifT (by rw [hb, o]; rfl) (wp_some (wp_bind (wp_ifF (by rw [g3]; decide) (wp_ifF (by decide) (wp_bind ?_)))))
        obtain ⟨σ2, r0, r1, r2, r3⟩ := leave_ok (n := n) (a := k) (m := m) e2 e3 (by omega) (fun x hx2 => hx x (List.mem_filter.mp hx2).1) n5 (by omega) hn
        refine wp_of r0 (wp_some (wp_lt (wp_some (Or.inl ⟨_, rfl, by omega, by simp only []; omega, ?_, ?_, fun c j a b => (r3 c j a b).trans (e4 c j a b)⟩))))
        · rw [lw_s1 o]; exact r1
        · rw [lw_s1 o]; exact r2
  obtain ⟨σ', e, h⟩ := key
  exact ⟨σ', e, h⟩
/-- the reference's, nobody told before -/
theorem changes0_ok {ρ : SG} {m n : Nat} {on hi : Nat → Int} (n1 : ρ 60 0 = (m : Int)) (n5 : m ≤ 5) (hon : ∀ s, s < m → on s = 0 ∨ on s = 1) (hb : ρ 57 30 = msk on m) (hh : ∀ s, s < m → ρ 71 s = hi s ∧ 0 ≤ hi s ∧ hi s ≤ 20) (ht : ρ 57 36 = 0) (hn : 10 < n) :
    ∃ ρ', X12_changesRow n ρ = some ρ' ∧ ρ' 57 36 = 1 ∧ ρ' 57 34 = ((lf on hi m).length : Int) ∧ IsL (ρ' 76) (lf on hi m) ∧ ∀ c j, c ≠ 76 → ¬ (c = 57 ∧ (j = 34 ∨ j = 36)) → ρ' c j = ρ c j := by
  have key : wp (X12_changesRow n ρ) (fun ρ' => ρ' 57 36 = 1 ∧ ρ' 57 34 = ((lf on hi m).length : Int) ∧ IsL (ρ' 76) (lf on hi m) ∧ ∀ c j, c ≠ 76 → ¬ (c = 57 ∧ (j = 34 ∨ j = 36)) → ρ' c j = ρ c j) := by
    unfold X12_changesRow
    refine wp_bind (wp_ifT (by rw [ht]; rfl) (wp_bind (wp_loop (fun k (z : Int × Int × SG) => z.2.1 = (k : Int) ∧ z.1 = ((lf on hi k).length : Int) ∧ IsL (z.2.2 76) (lf on hi k) ∧ ∀ c j, c ≠ 76 → z.2.2 c j = ρ c j) m ?_ ⟨rfl, rfl, fun k hk => absurd hk (by simp [lf]), fun _ _ _ => rfl⟩ (by omega))))
    rintro k ⟨z1, z2, ρ1⟩ hk ⟨e1, e2, e3, e4⟩
    obtain rfl : z2 = (k : Int) := e1
    obtain rfl : z1 = ((lf on hi k).length : Int) := e2
    have e3 : IsL (ρ1 76) (lf on hi k) := e3
    have e4 : ∀ c j, c ≠ 76 → ρ1 c j = ρ c j := e4
    have g1 : ρ1 60 0 = (m : Int) := (e4 60 0 (by decide)).trans n1
    have g2 : ρ1 57 30 = msk on m := (e4 57 30 (by decide)).trans hb
    have hle := lf_le (on := on) (hi := hi) (k := k)
    dsimp only
    unfold X12_changesRow_l11 X12_changesRow_j48 X12_changesRow_e11 X12_changesRow_j109
    refine wp_bind (wp_surfers ?_)
    rw [g1]
    by_cases c : k = m
    · subst c
      refine wp_ifT (Int.le_refl _) (wp_some (Or.inr ⟨_, rfl, wp_lt (wp_some (wp_lt (wp_some ⟨?_, up_eq rfl rfl, ?_, fun c j a b => ?_⟩)))⟩))
      · dsimp only; rw [up_ne (by omega), up_eq rfl rfl]
      · dsimp only; rw [up_rw (by decide), up_rw (by decide)]; exact e3
      · dsimp only; rw [up_ne (by omega), up_ne (by omega)]; exact e4 c j a
    · obtain ⟨q1, q2, q3⟩ := hh k (by omega)
      have hk9 : ρ1 71 k = hi k := (e4 _ k (by omega)).trans q1
      have hlf : lf on hi (k + 1) = if on k = 0 ∧ hi k < 2 then lf on hi k ++ [(k : Int)] else lf on hi k := rfl
      refine wp_ifF (by rw [w32i (by omega), w32i (by omega)]; omega) (wp_bind (wp_of (taken_ok g2 n5 (by omega) hon) (wp_bind ?_)))
      rcases hon k (by omega) with o | o
      · refine wp_ifT (by rw [o]; rfl) (wp_bind (wp_of (sentR_ok (by omega) hk9 ⟨q2, q3⟩) ?_))
        by_cases d : hi k < 2
        · rw [if_pos d]
          rw [if_pos ⟨o, d⟩] at hlf
          refine wp_ifT rfl (wp_rdn (by omega) (by omega) (wp_lt (wp_lt (wp_some (wp_lt (wp_some (Or.inl ⟨_, rfl, by omega, by simp only []; omega, ?_, ?_, fun c j a => ?_⟩)))))))
          · rw [hlf, List.length_append, List.length_singleton]; simp only []; omega
          · rw [hlf]
            refine IsL.snoc (e3.cg (fun j hj => up_ne (by omega))) (up_eq rfl rfl)
          · dsimp only
            rw [up_ne (by omega)]; exact e4 c j a
        · rw [if_neg d]
          rw [if_neg (fun q => d q.2)] at hlf
          refine wp_ifF (by decide) (wp_some (wp_lt (wp_some (Or.inl ⟨_, rfl, by omega, by simp only []; omega, by rw [hlf], by rw [hlf]; exact e3, e4⟩))))
      · rw [if_neg (fun q => absurd (o.symm.trans q.1) (by decide))] at hlf
        refine wp_ifF (by rw [o]; decide) (wp_some (wp_lt (wp_some (Or.inl ⟨_, rfl, by omega, by simp only []; omega, by rw [hlf], by rw [hlf]; exact e3, e4⟩))))
  obtain ⟨ρ', e, h⟩ := key
  exact ⟨ρ', e, h⟩
/-- the reference's, told before -/
theorem changes1_ok {ρ : SG} {m n : Nat} {on : Nat → Int} {L : List Int} (n5 : m ≤ 5) (hon : ∀ s, s < m → on s = 0 ∨ on s = 1) (hb : ρ 57 30 = msk on m) (ht : ρ 57 36 = 1) (h1 : ρ 57 34 = (L.length : Int)) (hL : IsL (ρ 76) L) (h5 : L.length ≤ 5) (hx : ∀ x ∈ L, 0 ≤ x ∧ x < (m : Int)) (hn : 10 < n) :
    ∃ ρ', X12_changesRow n ρ = some ρ' ∧ ρ' 57 36 = 1 ∧ ρ' 57 34 = ((lw on L m).length : Int) ∧ IsL (ρ' 76) (lw on L m) ∧ ∀ c j, c ≠ 76 → ¬ (c = 57 ∧ (j = 34 ∨ j = 36)) → ρ' c j = ρ c j := by
  have key : wp (X12_changesRow n ρ) (fun ρ' => ρ' 57 36 = 1 ∧ ρ' 57 34 = ((lw on L m).length : Int) ∧ IsL (ρ' 76) (lw on L m) ∧ ∀ c j, c ≠ 76 → ¬ (c = 57 ∧ (j = 34 ∨ j = 36)) → ρ' c j = ρ c j) := by
    unfold X12_changesRow
    refine wp_bind (wp_ifF (by rw [ht]; decide) (wp_bind (wp_loop (fun k (z : Int × Int × SG) => z.2.1 = (k : Int) ∧ z.1 = ((lw on (L.take k) m).length : Int) ∧ IsL (z.2.2 76) (lw on (L.take k) m) ∧ (∀ j, k ≤ j → j < L.length → z.2.2 76 j = ρ 76 j) ∧ ∀ c j, c ≠ 76 → z.2.2 c j = ρ c j) L.length ?_ ⟨rfl, rfl, fun k hk => absurd hk (by simp [lw]), fun _ _ _ => rfl, fun _ _ _ => rfl⟩ (by omega))))
    rintro k ⟨z1, z2, ρ1⟩ hk ⟨e1, e2, e3, e4, e5⟩
    obtain rfl : z2 = (k : Int) := e1
    obtain rfl : z1 = ((lw on (L.take k) m).length : Int) := e2
    have e3 : IsL (ρ1 76) (lw on (L.take k) m) := e3
    have e4 : ∀ j, k ≤ j → j < L.length → ρ1 76 j = ρ 76 j := e4
    have e5 : ∀ c j, c ≠ 76 → ρ1 c j = ρ c j := e5
    have g1 : ρ1 57 34 = (L.length : Int) := (e5 57 34 (by decide)).trans h1
    have g2 : ρ1 57 30 = msk on m := (e5 57 30 (by decide)).trans hb
    have hle : (lw on (L.take k) m).length ≤ k := Nat.le_trans lw_le (by rw [List.length_take]; omega)
    dsimp only
    unfold X12_changesRow_l64 X12_changesRow_j103 X12_changesRow_e64 X12_changesRow_j109
    by_cases c : k = L.length
    · subst c
      rw [List.take_length] at e3 ⊢
      refine wp_ifT (by rw [g1]; exact Int.le_refl _) (wp_some (Or.inr ⟨_, rfl, wp_some (wp_lt (wp_some ⟨?_, up_eq rfl rfl, ?_, fun c j a b => ?_⟩))⟩))
      · dsimp only; rw [up_ne (by omega)]; exact (e5 57 36 (by decide)).trans ht
      · dsimp only; rw [up_rw (by decide)]; exact e3
      · dsimp only; rw [up_ne (by omega)]; exact e5 c j a
    · have hk' : k < L.length := by omega
      have hv : ρ1 76 k = ρ 76 k := e4 k (Nat.le_refl _) hk'
      have hx' := hx _ (hL.mem hk')
      obtain ⟨s, hs⟩ := nat_of hx'.1
      have htk : L.take (k + 1) = L.take k ++ [ρ 76 k] := by
        rw [List.take_add_one, List.getElem?_eq_getElem hk', hL k hk', List.getD_eq_getElem?_getD, List.getElem?_eq_getElem hk']
        rfl
      have hap : lw on (L.take (k + 1)) m = lw on (L.take k) m ++ lw on [ρ 76 k] m := by
        unfold lw
        rw [htk, List.filter_append]
      refine wp_ifF (by rw [g1, w32i (by omega), w32i (by omega)]; omega) (wp_rdn (by omega) (by omega) (wp_bind ?_))
      rw [hv, hs]
      refine wp_of (taken_ok g2 n5 (by omega) hon) (wp_bind ?_)
      rcases hon s (by omega) with o | o
      · have hl : lw on [ρ 76 k] m = [ρ 76 k] := by
          unfold lw
          rw [hs]
          simp [List.filter, o]
        refine wp_ifT (by rw [o]; rfl) (wp_rdn (by omega) (by omega) (wp_rdn (by omega) (by omega) (wp_lt (wp_lt (wp_some (wp_lt (wp_some (Or.inl ⟨_, rfl, by omega, by simp only []; omega, ?_, ?_, fun j h1 h2 => ?_, fun c j a => ?_⟩))))))))
        · rw [hap, hl, List.length_append, List.length_singleton]; simp only []; omega
        · rw [hap, hl]
          refine IsL.snoc (e3.cg (fun j hj => up_ne (by omega))) ?_
          dsimp only
          rw [up_eq rfl rfl]
          exact hv
        · dsimp only
          rw [up_ne (by omega)]
          exact e4 j (by omega) h2
        · dsimp only
          rw [up_ne (by omega)]
          exact e5 c j a
      · have hl : lw on [ρ 76 k] m = [] := by
          unfold lw
          rw [hs]
          refine List.filter_eq_nil_iff.mpr (fun x hx3 => ?_)
          obtain rfl := List.mem_singleton.mp hx3
          exact fun q => of_decide_eq_true q ⟨by omega, by omega, by rw [Int.toNat_natCast]; exact o⟩
        rw [hl, List.append_nil] at hap
        refine wp_ifF (by rw [o]; decide) (wp_some (wp_lt (wp_some (Or.inl ⟨_, rfl, by omega, by simp only []; omega, by rw [hap], by rw [hap]; exact e3, fun j h1 h2 => e4 j (by omega) h2, e5⟩))))
  obtain ⟨ρ', e, h⟩ := key
  exact ⟨ρ', e, h⟩
