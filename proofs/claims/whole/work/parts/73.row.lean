/-! ===== the row behind a wave ===== -/
theorem filt_sum {p q : Nat → Bool} {m : Nat} (h : ∀ s, s < m → ¬ (p s = true ∧ q s = true)) : ((List.range m).filter p).length + ((List.range m).filter q).length ≤ m := by
  induction m with
  | zero => exact Nat.le_refl 0
  | succ m ih =>
    rw [List.range_succ, List.filter_append, List.filter_append, List.length_append, List.length_append]
    have := ih (fun s hs => h s (by omega))
    have hm := h m (by omega)
    cases hp : p m <;> cases hq : q m <;> simp [List.filter, hp, hq] at * <;> omega
theorem filt_split {p q r : Nat → Bool} {m : Nat} (h : ∀ s, s < m → r s = (p s || q s)) : ((List.range m).filter r).length ≤ ((List.range m).filter p).length + ((List.range m).filter q).length := by
  induction m with
  | zero => exact Nat.le_refl 0
  | succ m ih =>
    rw [List.range_succ, List.filter_append, List.filter_append, List.filter_append, List.length_append, List.length_append, List.length_append]
    have := ih (fun s hs => h s (by omega))
    have hm := h m (by omega)
    cases hp : p m <;> cases hq : q m <;> simp [List.filter, hp, hq, hm] <;> omega
theorem filt_one {L : List Int} {p q : Int → Bool} {x : Int} (hx : x ∈ L) (hp : p x = true) (hq : q x = false) (h : ∀ y, q y = true → p y = true) : (L.filter q).length + 1 ≤ (L.filter p).length := by
  induction L with
  | nil => cases hx
  | cons a l ih =>
    have hle : ∀ l : List Int, (l.filter q).length ≤ (l.filter p).length := fun l => by
      induction l with
      | nil => exact Nat.le_refl 0
      | cons b l ih2 =>
        cases hb : q b
        · cases hb2 : p b <;> simp [List.filter, hb, hb2] <;> omega
        · simp [List.filter, hb, h b hb]
          exact ih2
    by_cases c : a = x
    · subst c
      have := hle l
      simp [List.filter, hp, hq]
      omega
    · have hx' : x ∈ l := by
        cases hx with
        | head => exact absurd rfl c
        | tail _ h => exact h
      have := ih hx'
      cases hb : q a
      · cases hb2 : p a <;> simp [List.filter, hb, hb2] <;> omega
      · simp [List.filter, hb, h a hb]
        omega
/-- those who took the wave are no more than what leaves the row -/
theorem filt_all {L : List Int} {on : Nat → Int} : ∀ {k : Nat}, (∀ s, s < k → on s = 1 → (s : Int) ∈ L) → (L.filter (fun x => decide (¬ (0 ≤ x ∧ x < (k : Int) ∧ on x.toNat = 1)))).length + ((List.range k).filter (fun s => decide (on s = 1))).length ≤ L.length
  | 0, _ => by
    have := List.length_filter_le (fun x : Int => decide (¬ (0 ≤ x ∧ x < ((0 : Nat) : Int) ∧ on x.toNat = 1))) L
    simp only [List.range_zero, List.filter_nil, List.length_nil]
    omega
  | k + 1, h => by
    have ih := filt_all (L := L) (on := on) (k := k) (fun s hs => h s (by omega))
    rw [List.range_succ, List.filter_append, List.length_append]
    by_cases c : on k = 1
    · have h1 := filt_one (p := fun x => decide (¬ (0 ≤ x ∧ x < (k : Int) ∧ on x.toNat = 1))) (q := fun x => decide (¬ (0 ≤ x ∧ x < ((k + 1 : Nat) : Int) ∧ on x.toNat = 1))) (h k (by omega) c) (by simp) (by simp [c]; omega) (fun y hy => by
        have := of_decide_eq_true hy
        exact decide_eq_true (fun q => this ⟨q.1, by omega, q.2.2⟩))
      simp [List.filter, c]
      simp at h1 ih
      omega
    · have e : L.filter (fun x => decide (¬ (0 ≤ x ∧ x < ((k + 1 : Nat) : Int) ∧ on x.toNat = 1))) = L.filter (fun x => decide (¬ (0 ≤ x ∧ x < (k : Int) ∧ on x.toNat = 1))) := List.filter_congr (fun x _ => by
        by_cases cx : x = (k : Int)
        · subst cx
          simp [c]
        · have : (0 ≤ x ∧ x < ((k + 1 : Nat) : Int) ∧ on x.toNat = 1) ↔ (0 ≤ x ∧ x < (k : Int) ∧ on x.toNat = 1) := by omega
          simp only [this])
      rw [e]
      simp [List.filter, c]
      simp at ih
      omega
/-- a row of a list's beginning and the rest -/
theorem IsL.app {f : Nat → Int} {A : List Int} {x : Int} (h : IsL f A) : IsL (fun j => if j = A.length then x else f j) (A ++ [x]) := IsL.snoc (h.cg (fun k hk => if_neg (by omega))) (if_pos rfl)
/-- leave -/
theorem leave_ok {σ : SG} {L : List Int} {a n : Nat} {m : Nat} (h1 : σ 35 1 = (L.length : Int)) (hL : IsL (σ 36) L) (h5 : L.length ≤ 5) (hx : ∀ x ∈ L, 0 ≤ x ∧ x < (m : Int)) (hm : m ≤ 5) (ha : a < 5) (hn : 10 < n) :
    ∃ σ', X5_leave n (a : Int) σ = some σ' ∧ σ' 35 1 = ((L.filter (fun x => decide (x ≠ (a : Int)))).length : Int) ∧ IsL (σ' 36) (L.filter (fun x => decide (x ≠ (a : Int)))) ∧ ∀ c j, c ≠ 36 → ¬ (c = 35 ∧ j = 1) → σ' c j = σ c j := by
  have key : wp (X5_leave n (a : Int) σ) (fun σ' => σ' 35 1 = ((L.filter (fun x => decide (x ≠ (a : Int)))).length : Int) ∧ IsL (σ' 36) (L.filter (fun x => decide (x ≠ (a : Int)))) ∧ ∀ c j, c ≠ 36 → ¬ (c = 35 ∧ j = 1) → σ' c j = σ c j) := by
    unfold X5_leave
    refine wp_bind (wp_loop (fun k (z : Int × Int × SG) => z.2.1 = (k : Int) ∧ z.1 = (((L.take k).filter (fun x => decide (x ≠ (a : Int)))).length : Int) ∧ IsL (z.2.2 36) ((L.take k).filter (fun x => decide (x ≠ (a : Int)))) ∧ (∀ j, k ≤ j → j < L.length → z.2.2 36 j = σ 36 j) ∧ ∀ c j, c ≠ 36 → z.2.2 c j = σ c j) L.length ?_ ⟨rfl, rfl, fun j hj => absurd hj (by simp), fun _ _ _ => rfl, fun _ _ _ => rfl⟩ (by omega))
    rintro k ⟨z1, z2, σ1⟩ hk ⟨e1, e2, e3, e4, e5⟩
    obtain rfl : z2 = (k : Int) := e1
    have e2 : z1 = (((L.take k).filter (fun x => decide (x ≠ (a : Int)))).length : Int) := e2
    have e3 : IsL (σ1 36) ((L.take k).filter (fun x => decide (x ≠ (a : Int)))) := e3
    have e4 : ∀ j, k ≤ j → j < L.length → σ1 36 j = σ 36 j := e4
    have e5 : ∀ c j, c ≠ 36 → σ1 c j = σ c j := e5
    have g1 : σ1 35 1 = (L.length : Int) := (e5 35 1 (by decide)).trans h1
    have hlen : ((L.take k).filter (fun x => decide (x ≠ (a : Int)))).length ≤ k := Nat.le_trans (List.length_filter_le _ _) (by rw [List.length_take]; omega)
    dsimp only
    unfold X5_leave_l4 X5_leave_j37 X5_leave_e4
    by_cases c : k = L.length
    · subst c
      rw [List.take_length] at e2 e3
      refine wp_ifT (by rw [g1, w32i (by omega)]; omega) (wp_some (Or.inr ⟨_, rfl, wp_lt (wp_some ⟨?_, ?_, fun c j h1 h2 => ?_⟩)⟩))
      · rw [up_eq rfl rfl]; exact e2
      · rw [up_rw (by decide)]; exact e3
      · rw [up_ne (by omega)]; exact e5 c j h1
    · have hk' : k < L.length := by omega
      have hv : σ1 36 k = L.getD k 0 := (e4 k (Nat.le_refl _) hk').trans (hL k hk')
      have hm := hx _ (hL.mem hk')
      have htk : L.take (k + 1) = L.take k ++ [σ 36 k] := by
        rw [List.take_add_one, List.getElem?_eq_getElem hk', hL k hk', List.getD_eq_getElem?_getD, List.getElem?_eq_getElem hk']
        rfl
      have hvk : σ1 36 k = σ 36 k := e4 k (Nat.le_refl _) hk'
      refine wp_ifF (by rw [g1, w32i (by omega), w32i (by omega)]; omega) (wp_rdn (by omega) (by omega) (wp_bind ?_))
      by_cases q : σ 36 k = (a : Int)
      · refine wp_ifT (by rw [hvk, q]) (wp_some (wp_lt (wp_some (Or.inl ⟨_, rfl, hk', by simp only []; omega, ?_, ?_, fun j h1 h2 => e4 j (by omega) h2, e5⟩))))
        · rw [htk, List.filter_append]
          simp [List.filter, q]
          simpa using e2
        · rw [htk, List.filter_append]
          simp [List.filter, q]
          simpa using e3
      · refine wp_ifF (by rw [hvk, w32i (by omega), w32i (by omega)]; exact q) (wp_lt (wp_rdn (by omega) (by omega) (wp_rdI ((L.take k).filter (fun x => decide (x ≠ (a : Int)))).length e2 (by omega) (by decide) (wp_lt (wp_some (wp_lt (wp_some (Or.inl ⟨_, rfl, hk', by simp only []; omega, ?_, ?_, fun j h1 h2 => ?_, fun c j hc => ?_⟩))))))))
        · rw [htk, List.filter_append, List.length_append]
          simp only [List.filter, q, ne_eq, not_false_eq_true, decide_true, List.length_singleton]
          rw [e2]
          simp
        · rw [htk, List.filter_append]
          have hf : [σ 36 k].filter (fun x => decide (x ≠ (a : Int))) = [σ 36 k] := by simp [List.filter, q]
          rw [hf]
          dsimp only
          refine IsL.snoc (e3.cg (fun j hj => up_ne (by omega))) ?_
          rw [up_eq rfl rfl]
          exact hvk
        · dsimp only
          rw [up_ne (by omega)]
          exact e4 j (by omega) h2
        · dsimp only
          rw [up_ne (by omega)]
          exact e5 c j hc
  obtain ⟨σ', e, h⟩ := key
  exact ⟨σ', e, h⟩
