/-! ===== numbers; bits ===== -/
theorem mx32_m {x y : Int} (h : (-2147483648 ≤ x ∧ x < 2147483648) ∧ -2147483648 ≤ y ∧ y < 2147483648) : mx32 x y = max x y := by
  unfold mx32
  rw [w32i h.1, w32i h.2]
  split <;> omega
theorem mn32_m {x y : Int} (h : (-2147483648 ≤ x ∧ x < 2147483648) ∧ -2147483648 ≤ y ∧ y < 2147483648) : mn32 x y = min x y := by
  unfold mn32
  rw [w32i h.1, w32i h.2]
  split <;> omega
theorem ab32_m {x : Int} (h : -2147483648 ≤ x ∧ x < 2147483648) : ab32 x = max x (-x) := by
  unfold ab32
  rw [w32i h]
  split <;> omega
theorem bit_all : ∀ v : Fin 32, ∀ s : Fin 5, bAnd (bShr (v.val : Int) (s.val : Int)) 1 = ((v.val / 2 ^ s.val % 2 : Nat) : Int) := by decide +kernel
theorem or_all : ∀ v : Fin 32, ∀ s : Fin 5, bOr (v.val : Int) (bShl 1 (s.val : Int)) = if v.val / 2 ^ s.val % 2 = 1 then (v.val : Int) else ((v.val + 2 ^ s.val : Nat) : Int) := by decide +kernel
theorem shl_all : ∀ s : Fin 5, bShl 1 (s.val : Int) = ((2 ^ s.val : Nat) : Int) := by decide +kernel
theorem or_self : ∀ v : Fin 32, bOr (v.val : Int) 0 = (v.val : Int) := by decide +kernel
theorem bit_of {v : Int} {s : Nat} (h0 : 0 ≤ v) (h1 : v < 32) (hs : s < 5) : bAnd (bShr v (s : Int)) 1 = v / 2 ^ s % 2 := by
  obtain ⟨k, rfl⟩ := nat_of h0
  have h := bit_all ⟨k, by omega⟩ ⟨s, hs⟩
  simp only [] at h
  rw [h]
  push_cast
  rfl
theorem or_of {v : Int} {s : Nat} (h0 : 0 ≤ v) (h1 : v < 2 ^ s) (hs : s < 5) : bOr v (bShl 1 (s : Int)) = v + 2 ^ s := by
  obtain ⟨k, rfl⟩ := nat_of h0
  have h2 : k < 2 ^ s := by exact_mod_cast h1
  have h3 : 2 ^ s ≤ 2 ^ 4 := Nat.pow_le_pow_right (by decide) (by omega)
  have h := or_all ⟨k, by omega⟩ ⟨s, hs⟩
  simp only [] at h
  rw [h, Nat.div_eq_of_lt h2, if_neg (by decide)]
  push_cast
  rfl
/-- setting a bit that isn't set -/
theorem or_bit {v : Int} {s : Nat} (h0 : 0 ≤ v) (h1 : v < 32) (hs : s < 5) (hb : v / 2 ^ s % 2 = 0) : bOr v (bShl 1 (s : Int)) = v + 2 ^ s := by
  obtain ⟨k, rfl⟩ := nat_of h0
  have h := or_all ⟨k, by omega⟩ ⟨s, hs⟩
  have h2 : k / 2 ^ s % 2 = 0 := by exact_mod_cast hb
  simp only [] at h
  rw [h, h2, if_neg (by decide)]
  push_cast
  rfl
theorem msk_b {f : Nat → Int} : ∀ {m : Nat}, (∀ s, s < m → f s = 0 ∨ f s = 1) → 0 ≤ msk f m ∧ msk f m < 2 ^ m
  | 0, _ => by unfold msk; omega
  | m + 1, h => by
    have ih := msk_b (fun s hs => h s (Nat.lt_succ_of_lt hs))
    have h2 : (2 : Int) ^ (m + 1) = 2 * 2 ^ m := by rw [Int.pow_succ]; omega
    unfold msk
    rcases h m (Nat.lt_succ_self m) with e | e <;> rw [e, h2] <;> omega
theorem msk_32 {f : Nat → Int} {m : Nat} (hm : m ≤ 5) (h : ∀ s, s < m → f s = 0 ∨ f s = 1) : 0 ≤ msk f m ∧ msk f m < 32 := by
  have h1 := msk_b h
  have h2 : (2 : Int) ^ m ≤ 2 ^ 5 := by
    have : (2 : Nat) ^ m ≤ 2 ^ 5 := Nat.pow_le_pow_right (by decide) hm
    exact_mod_cast this
  omega
theorem msk_bit {f : Nat → Int} {m s : Nat} (hm : m ≤ 5) (hs : s < m) (h : ∀ s, s < m → f s = 0 ∨ f s = 1) : msk f m / 2 ^ s % 2 = f s := by
  have hm' : m = 1 ∨ m = 2 ∨ m = 3 ∨ m = 4 ∨ m = 5 := by omega
  have hs' : s = 0 ∨ s = 1 ∨ s = 2 ∨ s = 3 ∨ s = 4 := by omega
  rcases hm' with rfl | rfl | rfl | rfl | rfl
  · have q0 := h 0 (by decide)
    rcases hs' with rfl | rfl | rfl | rfl | rfl <;> simp only [msk, Nat.reduceAdd] <;> omega
  · have q0 := h 0 (by decide)
    have q1 := h 1 (by decide)
    rcases hs' with rfl | rfl | rfl | rfl | rfl <;> simp only [msk, Nat.reduceAdd] <;> omega
  · have q0 := h 0 (by decide)
    have q1 := h 1 (by decide)
    have q2 := h 2 (by decide)
    rcases hs' with rfl | rfl | rfl | rfl | rfl <;> simp only [msk, Nat.reduceAdd] <;> omega
  · have q0 := h 0 (by decide)
    have q1 := h 1 (by decide)
    have q2 := h 2 (by decide)
    have q3 := h 3 (by decide)
    rcases hs' with rfl | rfl | rfl | rfl | rfl <;> simp only [msk, Nat.reduceAdd] <;> omega
  · have q0 := h 0 (by decide)
    have q1 := h 1 (by decide)
    have q2 := h 2 (by decide)
    have q3 := h 3 (by decide)
    have q4 := h 4 (by decide)
    rcases hs' with rfl | rfl | rfl | rfl | rfl <;> simp only [msk, Nat.reduceAdd] <;> omega
/-- one bit more -/
theorem msk_or {f : Nat → Int} {k : Nat} (hk : k < 5) (h : ∀ s, s < k → f s = 0 ∨ f s = 1) (h1 : f k = 1) : bOr (msk f k) (bShl 1 (k : Int)) = msk f (k + 1) := by
  have hb := msk_b h
  rw [or_of hb.1 hb.2 hk]
  show _ = msk f k + f k * 2 ^ k
  rw [h1, Int.one_mul]
theorem msk_no {f : Nat → Int} {k : Nat} (h1 : f k = 0) : msk f k = msk f (k + 1) := by
  show _ = msk f k + f k * 2 ^ k
  rw [h1, Int.zero_mul, Int.add_zero]
theorem msk_0 {f : Nat → Int} : ∀ {m : Nat}, (∀ s, s < m → f s = 0 ∨ f s = 1) → (msk f m = 0 ↔ ∀ s, s < m → f s = 0)
  | 0, _ => ⟨fun _ s hs => absurd hs (by omega), fun _ => rfl⟩
  | m + 1, h => by
    have ih := msk_0 (fun s hs => h s (Nat.lt_succ_of_lt hs))
    have hb := msk_b (fun s hs => h s (Nat.lt_succ_of_lt hs))
    have hp : (0 : Int) < 2 ^ m := Int.pow_pos (by decide)
    unfold msk
    constructor
    · intro q s hs
      rcases h m (Nat.lt_succ_self m) with e | e
      · rw [e] at q
        by_cases q2 : s = m
        · rw [q2, e]
        · exact ih.mp (by omega) s (by omega)
      · rw [e] at q; omega
    · intro q
      rw [q m (Nat.lt_succ_self m), ih.mpr (fun s hs => q s (by omega))]
      omega
/-- hasTaken -/
theorem taken_ok {ρ : SG} {f : Nat → Int} {m s n : Nat} (hb : ρ 57 30 = msk f m) (hm : m ≤ 5) (hs : s < m) (h : ∀ s, s < m → f s = 0 ∨ f s = 1) : X12_hasTaken n (s : Int) ρ = some (f s) := by
  have h1 := msk_32 hm h
  unfold X12_hasTaken
  rw [hb, bit_of h1.1 h1.2 (by omega), msk_bit hm hs h]
  rcases h s hs with e | e <;> rw [e]
  · exact if_neg (by decide)
  · exact if_pos (by decide)
/-- bitsOf -/
theorem bitsOf_ok {σ : SG} {S m n : Nat} {a : Int} (ha : a = 0 ∨ a = 1) (hS : S = 1 ∨ S = 20) (hU : σ 19 0 = (S : Int)) (n1 : σ S 5 = (m : Int)) (n5 : m ≤ 5) (hC : ∀ s : Nat, s < 5 → σ 34 s = ((39 + 2 * s : Nat) : Int)) (h : ∀ s, s < m → σ (39 + 2 * s) (if a = 0 then 6 else 7) = 0 ∨ σ (39 + 2 * s) (if a = 0 then 6 else 7) = 1) (hn : 10 < n) : X1_bitsOf n a σ = some (msk (fun s => σ (39 + 2 * s) (if a = 0 then 6 else 7)) m) := by
  refine of_wp ?_
  unfold X1_bitsOf
  refine wp_bind (wp_loop (fun k (z : Int × Int) => z.2 = (k : Int) ∧ z.1 = msk (fun s => σ (39 + 2 * s) (if a = 0 then 6 else 7)) k) m ?_ ⟨rfl, rfl⟩ (by omega))
  rintro k ⟨z1, z2⟩ hk ⟨e1, e2⟩
  obtain rfl : z2 = (k : Int) := e1
  obtain rfl : z1 = msk (fun s => σ (39 + 2 * s) (if a = 0 then 6 else 7)) k := e2
  unfold X1_bitsOf_l4 X1_bitsOf_j52 X1_bitsOf_e4
  by_cases hkm : k = m
  · repeat' (first | with_reducible refine wp_lt ?_ | with_reducible refine wp_bind ?_ | with_reducible refine wp_bnd2 ?_ | with_reducible refine wp_some ?_ | ((with_reducible refine wp_ifT ?_ ?_); (focus ((try simp (disch := omega) only [up_eq, up_ne, w32i]) <;> omega))) | ((with_reducible refine wp_ifF ?_ ?_); (focus ((try simp (disch := omega) only [up_eq, up_ne, w32i]) <;> omega))) | ((with_reducible refine wp_in1 ?_ ?_); (focus ((try simp (disch := omega) only [up_eq, up_ne, w32i]) <;> omega))) | ((with_reducible refine wp_in0 ?_ ?_); (focus ((try simp (disch := omega) only [up_eq, up_ne, w32i]) <;> omega))) | with_reducible refine wp_th0 ?_ | with_reducible refine wp_th1 ?_ | with_reducible refine wp_surfers ?_ | ((with_reducible refine wp_noS0 (m := m) ?_ n5 ?_ ?_ ?_); (focus ((try simp (disch := omega) only [up_eq, up_ne, w32i]) <;> omega)); (focus ((try simp (disch := omega) only [up_eq, up_ne, w32i]) <;> omega)); (focus ((try simp (disch := omega) only [up_eq, up_ne, w32i]) <;> omega))) | ((with_reducible refine wp_noS1 (m := m) ?_ n5 ?_ ?_ ?_); (focus ((try simp (disch := omega) only [up_eq, up_ne, w32i]) <;> omega)); (focus ((try simp (disch := omega) only [up_eq, up_ne, w32i]) <;> omega)); (focus ((try simp (disch := omega) only [up_eq, up_ne, w32i]) <;> omega))) | ((with_reducible refine wp_mS0 (m := m) hU hS n1 n5 ?_ ?_ ?_); (focus ((try simp (disch := omega) only [up_eq, up_ne, w32i]) <;> omega)); (focus ((try simp (disch := omega) only [up_eq, up_ne, w32i]) <;> omega))) | ((with_reducible refine wp_mS1 (m := m) hU hS n1 n5 ?_ ?_ ?_); (focus ((try simp (disch := omega) only [up_eq, up_ne, w32i]) <;> omega)); (focus ((try simp (disch := omega) only [up_eq, up_ne, w32i]) <;> omega))) | ((with_reducible refine wp_mW0 (m := q) hU hS n2 n6 ?_ ?_ ?_); (focus ((try simp (disch := omega) only [up_eq, up_ne, w32i]) <;> omega)); (focus ((try simp (disch := omega) only [up_eq, up_ne, w32i]) <;> omega))) | ((with_reducible refine wp_mW1 (m := q) hU hS n2 n6 ?_ ?_ ?_); (focus ((try simp (disch := omega) only [up_eq, up_ne, w32i]) <;> omega)); (focus ((try simp (disch := omega) only [up_eq, up_ne, w32i]) <;> omega))) | ((with_reducible refine wp_mO0 ?_ ?_); (focus ((try simp (disch := omega) only [up_eq, up_ne, w32i]) <;> omega))) | ((with_reducible refine wp_mO1 ?_ ?_); (focus ((try simp (disch := omega) only [up_eq, up_ne, w32i]) <;> omega))) | ((with_reducible refine wp_mP0 ?_ ?_); (focus ((try simp (disch := omega) only [up_eq, up_ne, w32i]) <;> omega))) | ((with_reducible refine wp_mP1 ?_ ?_); (focus ((try simp (disch := omega) only [up_eq, up_ne, w32i]) <;> omega))) | ((with_reducible refine wp_mR0 ?_ ?_); (focus ((try simp (disch := omega) only [up_eq, up_ne, w32i]) <;> omega))) | ((with_reducible refine wp_mR1 ?_ ?_); (focus ((try simp (disch := omega) only [up_eq, up_ne, w32i]) <;> omega))) | ((with_reducible refine wp_rdn ?_ ?_ ?_); (focus omega); (focus omega)) | ((with_reducible refine wp_rdI 0 ?_ ?_ ?_ ?_); (focus exact rfl); (focus decide); (focus decide)) | ((with_reducible refine wp_rdI 1 ?_ ?_ ?_ ?_); (focus exact rfl); (focus decide); (focus decide)) | ((with_reducible refine wp_rdI 2 ?_ ?_ ?_ ?_); (focus exact rfl); (focus decide); (focus decide)) | ((with_reducible refine wp_rdI 3 ?_ ?_ ?_ ?_); (focus exact rfl); (focus decide); (focus decide)) | ((with_reducible refine wp_ckI (39 + 2 * s) ?_ (isSw_s (by omega)) ?_); (focus ((try simp (disch := omega) only [up_eq, up_ne, w32i]) <;> omega))) | ((with_reducible refine wp_ckI (39 + 2 * k) ?_ (isSw_s (by omega)) ?_); (focus ((try simp (disch := omega) only [up_eq, up_ne, w32i]) <;> omega))) | ((with_reducible refine wp_ckI S ?_ (isSea_S hS) ?_); (focus ((try simp (disch := omega) only [up_eq, up_ne, w32i]) <;> omega))) | ((with_reducible refine wp_ckI J ?_ (isJudge_J hJ) ?_); (focus ((try simp (disch := omega) only [up_eq, up_ne, w32i]) <;> omega))) | fail )
    refine Or.inr ⟨_, rfl, ?_⟩
    rw [hkm]
    exact wp_some rfl
  · have hC1 := hC k (by omega)
    have hs := h k (by omega)
    have hq := fun s (hs : s < k) => h s (by omega)
    rcases ha with rfl | rfl
    · rcases hs with hs | hs
      · have hs' : σ (39 + 2 * k) 6 = 0 := hs
        repeat' (first | with_reducible refine wp_lt ?_ | with_reducible refine wp_bind ?_ | with_reducible refine wp_bnd2 ?_ | with_reducible refine wp_some ?_ | ((with_reducible refine wp_ifT ?_ ?_); (focus ((try simp (disch := omega) only [up_eq, up_ne, w32i]) <;> omega))) | ((with_reducible refine wp_ifF ?_ ?_); (focus ((try simp (disch := omega) only [up_eq, up_ne, w32i]) <;> omega))) | ((with_reducible refine wp_in1 ?_ ?_); (focus ((try simp (disch := omega) only [up_eq, up_ne, w32i]) <;> omega))) | ((with_reducible refine wp_in0 ?_ ?_); (focus ((try simp (disch := omega) only [up_eq, up_ne, w32i]) <;> omega))) | with_reducible refine wp_th0 ?_ | with_reducible refine wp_th1 ?_ | with_reducible refine wp_surfers ?_ | ((with_reducible refine wp_noS0 (m := m) ?_ n5 ?_ ?_ ?_); (focus ((try simp (disch := omega) only [up_eq, up_ne, w32i]) <;> omega)); (focus ((try simp (disch := omega) only [up_eq, up_ne, w32i]) <;> omega)); (focus ((try simp (disch := omega) only [up_eq, up_ne, w32i]) <;> omega))) | ((with_reducible refine wp_noS1 (m := m) ?_ n5 ?_ ?_ ?_); (focus ((try simp (disch := omega) only [up_eq, up_ne, w32i]) <;> omega)); (focus ((try simp (disch := omega) only [up_eq, up_ne, w32i]) <;> omega)); (focus ((try simp (disch := omega) only [up_eq, up_ne, w32i]) <;> omega))) | ((with_reducible refine wp_mS0 (m := m) hU hS n1 n5 ?_ ?_ ?_); (focus ((try simp (disch := omega) only [up_eq, up_ne, w32i]) <;> omega)); (focus ((try simp (disch := omega) only [up_eq, up_ne, w32i]) <;> omega))) | ((with_reducible refine wp_mS1 (m := m) hU hS n1 n5 ?_ ?_ ?_); (focus ((try simp (disch := omega) only [up_eq, up_ne, w32i]) <;> omega)); (focus ((try simp (disch := omega) only [up_eq, up_ne, w32i]) <;> omega))) | ((with_reducible refine wp_mW0 (m := q) hU hS n2 n6 ?_ ?_ ?_); (focus ((try simp (disch := omega) only [up_eq, up_ne, w32i]) <;> omega)); (focus ((try simp (disch := omega) only [up_eq, up_ne, w32i]) <;> omega))) | ((with_reducible refine wp_mW1 (m := q) hU hS n2 n6 ?_ ?_ ?_); (focus ((try simp (disch := omega) only [up_eq, up_ne, w32i]) <;> omega)); (focus ((try simp (disch := omega) only [up_eq, up_ne, w32i]) <;> omega))) | ((with_reducible refine wp_mO0 ?_ ?_); (focus ((try simp (disch := omega) only [up_eq, up_ne, w32i]) <;> omega))) | ((with_reducible refine wp_mO1 ?_ ?_); (focus ((try simp (disch := omega) only [up_eq, up_ne, w32i]) <;> omega))) | ((with_reducible refine wp_mP0 ?_ ?_); (focus ((try simp (disch := omega) only [up_eq, up_ne, w32i]) <;> omega))) | ((with_reducible refine wp_mP1 ?_ ?_); (focus ((try simp (disch := omega) only [up_eq, up_ne, w32i]) <;> omega))) | ((with_reducible refine wp_mR0 ?_ ?_); (focus ((try simp (disch := omega) only [up_eq, up_ne, w32i]) <;> omega))) | ((with_reducible refine wp_mR1 ?_ ?_); (focus ((try simp (disch := omega) only [up_eq, up_ne, w32i]) <;> omega))) | ((with_reducible refine wp_rdn ?_ ?_ ?_); (focus omega); (focus omega)) | ((with_reducible refine wp_rdI 0 ?_ ?_ ?_ ?_); (focus exact rfl); (focus decide); (focus decide)) | ((with_reducible refine wp_rdI 1 ?_ ?_ ?_ ?_); (focus exact rfl); (focus decide); (focus decide)) | ((with_reducible refine wp_rdI 2 ?_ ?_ ?_ ?_); (focus exact rfl); (focus decide); (focus decide)) | ((with_reducible refine wp_rdI 3 ?_ ?_ ?_ ?_); (focus exact rfl); (focus decide); (focus decide)) | ((with_reducible refine wp_ckI (39 + 2 * s) ?_ (isSw_s (by omega)) ?_); (focus ((try simp (disch := omega) only [up_eq, up_ne, w32i]) <;> omega))) | ((with_reducible refine wp_ckI (39 + 2 * k) ?_ (isSw_s (by omega)) ?_); (focus ((try simp (disch := omega) only [up_eq, up_ne, w32i]) <;> omega))) | ((with_reducible refine wp_ckI S ?_ (isSea_S hS) ?_); (focus ((try simp (disch := omega) only [up_eq, up_ne, w32i]) <;> omega))) | ((with_reducible refine wp_ckI J ?_ (isJudge_J hJ) ?_); (focus ((try simp (disch := omega) only [up_eq, up_ne, w32i]) <;> omega))) | fail )
        refine Or.inl ⟨_, rfl, by omega, by omega, msk_no hs⟩
      · have hs' : σ (39 + 2 * k) 6 = 1 := hs
        repeat' (first | with_reducible refine wp_lt ?_ | with_reducible refine wp_bind ?_ | with_reducible refine wp_bnd2 ?_ | with_reducible refine wp_some ?_ | ((with_reducible refine wp_ifT ?_ ?_); (focus ((try simp (disch := omega) only [up_eq, up_ne, w32i]) <;> omega))) | ((with_reducible refine wp_ifF ?_ ?_); (focus ((try simp (disch := omega) only [up_eq, up_ne, w32i]) <;> omega))) | ((with_reducible refine wp_in1 ?_ ?_); (focus ((try simp (disch := omega) only [up_eq, up_ne, w32i]) <;> omega))) | ((with_reducible refine wp_in0 ?_ ?_); (focus ((try simp (disch := omega) only [up_eq, up_ne, w32i]) <;> omega))) | with_reducible refine wp_th0 ?_ | with_reducible refine wp_th1 ?_ | with_reducible refine wp_surfers ?_ | ((with_reducible refine wp_noS0 (m := m) ?_ n5 ?_ ?_ ?_); (focus ((try simp (disch := omega) only [up_eq, up_ne, w32i]) <;> omega)); (focus ((try simp (disch := omega) only [up_eq, up_ne, w32i]) <;> omega)); (focus ((try simp (disch := omega) only [up_eq, up_ne, w32i]) <;> omega))) | ((with_reducible refine wp_noS1 (m := m) ?_ n5 ?_ ?_ ?_); (focus ((try simp (disch := omega) only [up_eq, up_ne, w32i]) <;> omega)); (focus ((try simp (disch := omega) only [up_eq, up_ne, w32i]) <;> omega)); (focus ((try simp (disch := omega) only [up_eq, up_ne, w32i]) <;> omega))) | ((with_reducible refine wp_mS0 (m := m) hU hS n1 n5 ?_ ?_ ?_); (focus ((try simp (disch := omega) only [up_eq, up_ne, w32i]) <;> omega)); (focus ((try simp (disch := omega) only [up_eq, up_ne, w32i]) <;> omega))) | ((with_reducible refine wp_mS1 (m := m) hU hS n1 n5 ?_ ?_ ?_); (focus ((try simp (disch := omega) only [up_eq, up_ne, w32i]) <;> omega)); (focus ((try simp (disch := omega) only [up_eq, up_ne, w32i]) <;> omega))) | ((with_reducible refine wp_mW0 (m := q) hU hS n2 n6 ?_ ?_ ?_); (focus ((try simp (disch := omega) only [up_eq, up_ne, w32i]) <;> omega)); (focus ((try simp (disch := omega) only [up_eq, up_ne, w32i]) <;> omega))) | ((with_reducible refine wp_mW1 (m := q) hU hS n2 n6 ?_ ?_ ?_); (focus ((try simp (disch := omega) only [up_eq, up_ne, w32i]) <;> omega)); (focus ((try simp (disch := omega) only [up_eq, up_ne, w32i]) <;> omega))) | ((with_reducible refine wp_mO0 ?_ ?_); (focus ((try simp (disch := omega) only [up_eq, up_ne, w32i]) <;> omega))) | ((with_reducible refine wp_mO1 ?_ ?_); (focus ((try simp (disch := omega) only [up_eq, up_ne, w32i]) <;> omega))) | ((with_reducible refine wp_mP0 ?_ ?_); (focus ((try simp (disch := omega) only [up_eq, up_ne, w32i]) <;> omega))) | ((with_reducible refine wp_mP1 ?_ ?_); (focus ((try simp (disch := omega) only [up_eq, up_ne, w32i]) <;> omega))) | ((with_reducible refine wp_mR0 ?_ ?_); (focus ((try simp (disch := omega) only [up_eq, up_ne, w32i]) <;> omega))) | ((with_reducible refine wp_mR1 ?_ ?_); (focus ((try simp (disch := omega) only [up_eq, up_ne, w32i]) <;> omega))) | ((with_reducible refine wp_rdn ?_ ?_ ?_); (focus omega); (focus omega)) | ((with_reducible refine wp_rdI 0 ?_ ?_ ?_ ?_); (focus exact rfl); (focus decide); (focus decide)) | ((with_reducible refine wp_rdI 1 ?_ ?_ ?_ ?_); (focus exact rfl); (focus decide); (focus decide)) | ((with_reducible refine wp_rdI 2 ?_ ?_ ?_ ?_); (focus exact rfl); (focus decide); (focus decide)) | ((with_reducible refine wp_rdI 3 ?_ ?_ ?_ ?_); (focus exact rfl); (focus decide); (focus decide)) | ((with_reducible refine wp_ckI (39 + 2 * s) ?_ (isSw_s (by omega)) ?_); (focus ((try simp (disch := omega) only [up_eq, up_ne, w32i]) <;> omega))) | ((with_reducible refine wp_ckI (39 + 2 * k) ?_ (isSw_s (by omega)) ?_); (focus ((try simp (disch := omega) only [up_eq, up_ne, w32i]) <;> omega))) | ((with_reducible refine wp_ckI S ?_ (isSea_S hS) ?_); (focus ((try simp (disch := omega) only [up_eq, up_ne, w32i]) <;> omega))) | ((with_reducible refine wp_ckI J ?_ (isJudge_J hJ) ?_); (focus ((try simp (disch := omega) only [up_eq, up_ne, w32i]) <;> omega))) | fail )
        refine Or.inl ⟨_, rfl, by omega, by omega, msk_or (by omega) hq hs⟩
    · rcases hs with hs | hs
      · have hs' : σ (39 + 2 * k) 7 = 0 := hs
        repeat' (first | with_reducible refine wp_lt ?_ | with_reducible refine wp_bind ?_ | with_reducible refine wp_bnd2 ?_ | with_reducible refine wp_some ?_ | ((with_reducible refine wp_ifT ?_ ?_); (focus ((try simp (disch := omega) only [up_eq, up_ne, w32i]) <;> omega))) | ((with_reducible refine wp_ifF ?_ ?_); (focus ((try simp (disch := omega) only [up_eq, up_ne, w32i]) <;> omega))) | ((with_reducible refine wp_in1 ?_ ?_); (focus ((try simp (disch := omega) only [up_eq, up_ne, w32i]) <;> omega))) | ((with_reducible refine wp_in0 ?_ ?_); (focus ((try simp (disch := omega) only [up_eq, up_ne, w32i]) <;> omega))) | with_reducible refine wp_th0 ?_ | with_reducible refine wp_th1 ?_ | with_reducible refine wp_surfers ?_ | ((with_reducible refine wp_noS0 (m := m) ?_ n5 ?_ ?_ ?_); (focus ((try simp (disch := omega) only [up_eq, up_ne, w32i]) <;> omega)); (focus ((try simp (disch := omega) only [up_eq, up_ne, w32i]) <;> omega)); (focus ((try simp (disch := omega) only [up_eq, up_ne, w32i]) <;> omega))) | ((with_reducible refine wp_noS1 (m := m) ?_ n5 ?_ ?_ ?_); (focus ((try simp (disch := omega) only [up_eq, up_ne, w32i]) <;> omega)); (focus ((try simp (disch := omega) only [up_eq, up_ne, w32i]) <;> omega)); (focus ((try simp (disch := omega) only [up_eq, up_ne, w32i]) <;> omega))) | ((with_reducible refine wp_mS0 (m := m) hU hS n1 n5 ?_ ?_ ?_); (focus ((try simp (disch := omega) only [up_eq, up_ne, w32i]) <;> omega)); (focus ((try simp (disch := omega) only [up_eq, up_ne, w32i]) <;> omega))) | ((with_reducible refine wp_mS1 (m := m) hU hS n1 n5 ?_ ?_ ?_); (focus ((try simp (disch := omega) only [up_eq, up_ne, w32i]) <;> omega)); (focus ((try simp (disch := omega) only [up_eq, up_ne, w32i]) <;> omega))) | ((with_reducible refine wp_mW0 (m := q) hU hS n2 n6 ?_ ?_ ?_); (focus ((try simp (disch := omega) only [up_eq, up_ne, w32i]) <;> omega)); (focus ((try simp (disch := omega) only [up_eq, up_ne, w32i]) <;> omega))) | ((with_reducible refine wp_mW1 (m := q) hU hS n2 n6 ?_ ?_ ?_); (focus ((try simp (disch := omega) only [up_eq, up_ne, w32i]) <;> omega)); (focus ((try simp (disch := omega) only [up_eq, up_ne, w32i]) <;> omega))) | ((with_reducible refine wp_mO0 ?_ ?_); (focus ((try simp (disch := omega) only [up_eq, up_ne, w32i]) <;> omega))) | ((with_reducible refine wp_mO1 ?_ ?_); (focus ((try simp (disch := omega) only [up_eq, up_ne, w32i]) <;> omega))) | ((with_reducible refine wp_mP0 ?_ ?_); (focus ((try simp (disch := omega) only [up_eq, up_ne, w32i]) <;> omega))) | ((with_reducible refine wp_mP1 ?_ ?_); (focus ((try simp (disch := omega) only [up_eq, up_ne, w32i]) <;> omega))) | ((with_reducible refine wp_mR0 ?_ ?_); (focus ((try simp (disch := omega) only [up_eq, up_ne, w32i]) <;> omega))) | ((with_reducible refine wp_mR1 ?_ ?_); (focus ((try simp (disch := omega) only [up_eq, up_ne, w32i]) <;> omega))) | ((with_reducible refine wp_rdn ?_ ?_ ?_); (focus omega); (focus omega)) | ((with_reducible refine wp_rdI 0 ?_ ?_ ?_ ?_); (focus exact rfl); (focus decide); (focus decide)) | ((with_reducible refine wp_rdI 1 ?_ ?_ ?_ ?_); (focus exact rfl); (focus decide); (focus decide)) | ((with_reducible refine wp_rdI 2 ?_ ?_ ?_ ?_); (focus exact rfl); (focus decide); (focus decide)) | ((with_reducible refine wp_rdI 3 ?_ ?_ ?_ ?_); (focus exact rfl); (focus decide); (focus decide)) | ((with_reducible refine wp_ckI (39 + 2 * s) ?_ (isSw_s (by omega)) ?_); (focus ((try simp (disch := omega) only [up_eq, up_ne, w32i]) <;> omega))) | ((with_reducible refine wp_ckI (39 + 2 * k) ?_ (isSw_s (by omega)) ?_); (focus ((try simp (disch := omega) only [up_eq, up_ne, w32i]) <;> omega))) | ((with_reducible refine wp_ckI S ?_ (isSea_S hS) ?_); (focus ((try simp (disch := omega) only [up_eq, up_ne, w32i]) <;> omega))) | ((with_reducible refine wp_ckI J ?_ (isJudge_J hJ) ?_); (focus ((try simp (disch := omega) only [up_eq, up_ne, w32i]) <;> omega))) | fail )
        refine Or.inl ⟨_, rfl, by omega, by omega, msk_no hs⟩
      · have hs' : σ (39 + 2 * k) 7 = 1 := hs
        repeat' (first | with_reducible refine wp_lt ?_ | with_reducible refine wp_bind ?_ | with_reducible refine wp_bnd2 ?_ | with_reducible refine wp_some ?_ | ((with_reducible refine wp_ifT ?_ ?_); (focus ((try simp (disch := omega) only [up_eq, up_ne, w32i]) <;> omega))) | ((with_reducible refine wp_ifF ?_ ?_); (focus ((try simp (disch := omega) only [up_eq, up_ne, w32i]) <;> omega))) | ((with_reducible refine wp_in1 ?_ ?_); (focus ((try simp (disch := omega) only [up_eq, up_ne, w32i]) <;> omega))) | ((with_reducible refine wp_in0 ?_ ?_); (focus ((try simp (disch := omega) only [up_eq, up_ne, w32i]) <;> omega))) | with_reducible refine wp_th0 ?_ | with_reducible refine wp_th1 ?_ | with_reducible refine wp_surfers ?_ | ((with_reducible refine wp_noS0 (m := m) ?_ n5 ?_ ?_ ?_); (focus ((try simp (disch := omega) only [up_eq, up_ne, w32i]) <;> omega)); (focus ((try simp (disch := omega) only [up_eq, up_ne, w32i]) <;> omega)); (focus ((try simp (disch := omega) only [up_eq, up_ne, w32i]) <;> omega))) | ((with_reducible refine wp_noS1 (m := m) ?_ n5 ?_ ?_ ?_); (focus ((try simp (disch := omega) only [up_eq, up_ne, w32i]) <;> omega)); (focus ((try simp (disch := omega) only [up_eq, up_ne, w32i]) <;> omega)); (focus ((try simp (disch := omega) only [up_eq, up_ne, w32i]) <;> omega))) | ((with_reducible refine wp_mS0 (m := m) hU hS n1 n5 ?_ ?_ ?_); (focus ((try simp (disch := omega) only [up_eq, up_ne, w32i]) <;> omega)); (focus ((try simp (disch := omega) only [up_eq, up_ne, w32i]) <;> omega))) | ((with_reducible refine wp_mS1 (m := m) hU hS n1 n5 ?_ ?_ ?_); (focus ((try simp (disch := omega) only [up_eq, up_ne, w32i]) <;> omega)); (focus ((try simp (disch := omega) only [up_eq, up_ne, w32i]) <;> omega))) | ((with_reducible refine wp_mW0 (m := q) hU hS n2 n6 ?_ ?_ ?_); (focus ((try simp (disch := omega) only [up_eq, up_ne, w32i]) <;> omega)); (focus ((try simp (disch := omega) only [up_eq, up_ne, w32i]) <;> omega))) | ((with_reducible refine wp_mW1 (m := q) hU hS n2 n6 ?_ ?_ ?_); (focus ((try simp (disch := omega) only [up_eq, up_ne, w32i]) <;> omega)); (focus ((try simp (disch := omega) only [up_eq, up_ne, w32i]) <;> omega))) | ((with_reducible refine wp_mO0 ?_ ?_); (focus ((try simp (disch := omega) only [up_eq, up_ne, w32i]) <;> omega))) | ((with_reducible refine wp_mO1 ?_ ?_); (focus ((try simp (disch := omega) only [up_eq, up_ne, w32i]) <;> omega))) | ((with_reducible refine wp_mP0 ?_ ?_); (focus ((try simp (disch := omega) only [up_eq, up_ne, w32i]) <;> omega))) | ((with_reducible refine wp_mP1 ?_ ?_); (focus ((try simp (disch := omega) only [up_eq, up_ne, w32i]) <;> omega))) | ((with_reducible refine wp_mR0 ?_ ?_); (focus ((try simp (disch := omega) only [up_eq, up_ne, w32i]) <;> omega))) | ((with_reducible refine wp_mR1 ?_ ?_); (focus ((try simp (disch := omega) only [up_eq, up_ne, w32i]) <;> omega))) | ((with_reducible refine wp_rdn ?_ ?_ ?_); (focus omega); (focus omega)) | ((with_reducible refine wp_rdI 0 ?_ ?_ ?_ ?_); (focus exact rfl); (focus decide); (focus decide)) | ((with_reducible refine wp_rdI 1 ?_ ?_ ?_ ?_); (focus exact rfl); (focus decide); (focus decide)) | ((with_reducible refine wp_rdI 2 ?_ ?_ ?_ ?_); (focus exact rfl); (focus decide); (focus decide)) | ((with_reducible refine wp_rdI 3 ?_ ?_ ?_ ?_); (focus exact rfl); (focus decide); (focus decide)) | ((with_reducible refine wp_ckI (39 + 2 * s) ?_ (isSw_s (by omega)) ?_); (focus ((try simp (disch := omega) only [up_eq, up_ne, w32i]) <;> omega))) | ((with_reducible refine wp_ckI (39 + 2 * k) ?_ (isSw_s (by omega)) ?_); (focus ((try simp (disch := omega) only [up_eq, up_ne, w32i]) <;> omega))) | ((with_reducible refine wp_ckI S ?_ (isSea_S hS) ?_); (focus ((try simp (disch := omega) only [up_eq, up_ne, w32i]) <;> omega))) | ((with_reducible refine wp_ckI J ?_ (isJudge_J hJ) ?_); (focus ((try simp (disch := omega) only [up_eq, up_ne, w32i]) <;> omega))) | fail )
        refine Or.inl ⟨_, rfl, by omega, by omega, msk_or (by omega) hq hs⟩
