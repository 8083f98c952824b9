/-! ===== LOOKING BACK: what it comes to, and the reference's way ===== -/
def sumN (f : Nat → Int) : Nat → Int
  | 0 => 0
  | k + 1 => sumN f k + f k
theorem sumN_cg {f g : Nat → Int} : ∀ {c : Nat}, (∀ k, k < c → f k = g k) → sumN f c = sumN g c
  | 0, _ => rfl
  | c + 1, h => by
    show sumN f c + f c = sumN g c + g c
    rw [sumN_cg (fun k hk => h k (by omega)), h c (by omega)]
theorem sumN_le {f g : Nat → Int} : ∀ {c : Nat}, (∀ k, k < c → f k ≤ g k) → sumN f c ≤ sumN g c
  | 0, _ => Int.le_refl _
  | c + 1, h => by
    show sumN f c + f c ≤ sumN g c + g c
    have h1 := sumN_le (c := c) (fun k hk => h k (by omega))
    have h2 := h c (by omega)
    omega
theorem sumN_b {f : Nat → Int} {M : Int} : ∀ {c : Nat}, (∀ k, k < c → 0 ≤ f k ∧ f k ≤ M) → 0 ≤ sumN f c ∧ sumN f c ≤ (c : Int) * M
  | 0, _ => ⟨Int.le_refl _, by show (0 : Int) ≤ _; rw [show ((0 : Nat) : Int) = 0 from rfl, Int.zero_mul]; exact Int.le_refl _⟩
  | c + 1, h => by
    obtain ⟨h1, h2⟩ := sumN_b (c := c) (fun k hk => h k (by omega))
    obtain ⟨h3, h4⟩ := h c (by omega)
    show 0 ≤ sumN f c + f c ∧ sumN f c + f c ≤ _
    rw [show ((c + 1 : Nat) : Int) = (c : Int) + 1 from by omega, Int.add_mul, Int.one_mul]
    generalize (c : Int) * M = t at *
    omega
theorem sumN_k {v : Int} : ∀ {c : Nat}, sumN (fun _ => v) c = v * (c : Int)
  | 0 => by show (0 : Int) = _; rw [show ((0 : Nat) : Int) = 0 from rfl, Int.mul_zero]
  | c + 1 => by
    show sumN (fun _ => v) c + v = _
    rw [sumN_k, show ((c + 1 : Nat) : Int) = (c : Int) + 1 from by omega, Int.mul_add, Int.mul_one]
/-- WORTH, as the reference goes: n waves to come, r rides left, the best two b and s; of c seen ones -/
def Wr (c : Nat) (sv : Nat → Int) : Nat → Nat → Int → Int → Int
  | 0, _, b, s => b + s
  | n + 1, r, b, s => sumN (fun k => max (Wr c sv n r b s) (if r = 0 ∨ sv k ≤ s then 0 else Wr c sv n (r - 1) (max b (sv k)) (min b (sv k)))) c
theorem Wr_0 {c : Nat} {sv : Nat → Int} {r : Nat} {b s : Int} : Wr c sv 0 r b s = b + s := rfl
theorem Wr_s {c : Nat} {sv : Nat → Int} {n r : Nat} {b s : Int} : Wr c sv (n + 1) r b s = sumN (fun k => max (Wr c sv n r b s) (if r = 0 ∨ sv k ≤ s then 0 else Wr c sv n (r - 1) (max b (sv k)) (min b (sv k)))) c := rfl
def h01 (x : Int) : Prop := 0 ≤ x ∧ x ≤ 100
theorem Wr_b {c : Nat} {sv : Nat → Int} (hc : c ≤ 6) (hs : ∀ k, k < c → h01 (sv k)) : ∀ {n r : Nat} {b s : Int}, h01 b → h01 s → 0 ≤ Wr c sv n r b s ∧ Wr c sv n r b s ≤ 200 * 6 ^ n
  | 0, r, b, s, hb, hs' => by
    rw [Wr_0]
    obtain ⟨b1, b2⟩ := hb
    obtain ⟨s1, s2⟩ := hs'
    rw [show (6 : Int) ^ 0 = 1 from rfl]
    omega
  | n + 1, r, b, s, hb, hs' => by
    rw [Wr_s]
    have h1 := Wr_b hc hs (n := n) (r := r) hb hs'
    have h2 := sumN_b (M := 200 * 6 ^ n) (c := c) (f := fun k => max (Wr c sv n r b s) (if r = 0 ∨ sv k ≤ s then 0 else Wr c sv n (r - 1) (max b (sv k)) (min b (sv k)))) (fun k hk => by
      have hk' := hs k hk
      have h3 := Wr_b hc hs (n := n) (r := r - 1) (b := max b (sv k)) (s := min b (sv k)) (by unfold h01 at *; omega) (by unfold h01 at *; omega)
      generalize (200 * 6 ^ n : Int) = t at *
      split <;> omega)
    refine ⟨h2.1, Int.le_trans h2.2 ?_⟩
    have h4 : (0 : Int) ≤ 200 * 6 ^ n := Int.le_trans h1.1 h1.2
    refine Int.le_trans (Int.mul_le_mul_of_nonneg_right (show (c : Int) ≤ 6 by omega) h4) ?_
    rw [Int.pow_succ]
    generalize (6 : Int) ^ n = t at *
    omega
theorem Wr_b6 {c : Nat} {sv : Nat → Int} {n r : Nat} {b s : Int} (hc : c ≤ 6) (hs : ∀ k, k < c → h01 (sv k)) (hn : n ≤ 6) (hb : h01 b) (h2 : h01 s) : 0 ≤ Wr c sv n r b s ∧ Wr c sv n r b s ≤ 9331200 := by
  have h := Wr_b hc hs (n := n) (r := r) hb h2
  refine ⟨h.1, Int.le_trans h.2 ?_⟩
  have : n = 0 ∨ n = 1 ∨ n = 2 ∨ n = 3 ∨ n = 4 ∨ n = 5 ∨ n = 6 := by omega
  rcases this with rfl | rfl | rfl | rfl | rfl | rfl | rfl <;> decide
/-- a ride more is worth as much or more -/
theorem Wr_up {c : Nat} {sv : Nat → Int} (hc : c ≤ 6) (hs : ∀ k, k < c → h01 (sv k)) : ∀ {n r : Nat} {b s : Int}, h01 b → h01 s → Wr c sv n r b s ≤ Wr c sv n (r + 1) b s
  | 0, r, b, s, _, _ => Int.le_refl _
  | n + 1, r, b, s, hb, h2 => by
    rw [Wr_s, Wr_s]
    refine sumN_le (fun k hk => ?_)
    have hk' := hs k hk
    have i1 := Wr_up hc hs (n := n) (r := r) hb h2
    by_cases q : sv k ≤ s
    · rw [if_pos (Or.inr q), if_pos (Or.inr q)]
      omega
    · have hb1 : h01 (max b (sv k)) := by unfold h01 at *; omega
      have hb2 : h01 (min b (sv k)) := by unfold h01 at *; omega
      rw [if_neg (show ¬ (r + 1 = 0 ∨ sv k ≤ s) by omega), show r + 1 - 1 = r by omega]
      have i3 := (Wr_b hc hs (n := n) (r := r) hb1 hb2).1
      by_cases q2 : r = 0
      · rw [if_pos (Or.inl q2)]
        omega
      · rw [if_neg (by omega)]
        have i2 := Wr_up hc hs (n := n) (r := r - 1) hb1 hb2
        rw [show r - 1 + 1 = r by omega] at i2
        omega
theorem mx64_m {x y : Int} (h : (-9223372036854775808 ≤ x ∧ x < 9223372036854775808) ∧ -9223372036854775808 ≤ y ∧ y < 9223372036854775808) : mx64 x y = max x y := by
  unfold mx64
  rw [w64i h.1, w64i h.2]
  split <;> omega
/-- the reference's -/
def SvR (ρ : SG) (c : Nat) (sv : Nat → Int) : Prop := ρ 57 33 = (c : Int) ∧ c ≤ 6 ∧ ∀ k, k < c → ρ 77 k = sv k ∧ h01 (sv k)
theorem MW_ok {ρ : SG} {c : Nat} {sv : Nat → Int} (V : SvR ρ c sv) {n' : Nat} (hn' : 10 < n') : ∀ {D n r : Nat} {b s : Int}, n < D → n ≤ 6 → r ≤ 6 → h01 b → h01 s → MW n' D (n : Int) (r : Int) b s ρ = some (Wr c sv n r b s)
  | 0, n, r, b, s, h, _, _, _, _ => absurd h (by omega)
  | D + 1, n, r, b, s, hD, hn, hr, hb, h2 => by
    obtain ⟨v1, v2, v3⟩ := V
    have hsv : ∀ k, k < c → h01 (sv k) := fun k hk => (v3 k hk).2
    refine of_wp ?_
    show wp (X12_worthOf_b (MW n' D) n' n r b s ρ) _
    unfold X12_worthOf_b
    have hb' := hb
    have h2' := h2
    obtain ⟨b1, b2⟩ := hb'
    obtain ⟨s1, s2⟩ := h2'
    cases n with
    | zero => exact wp_ifT rfl (wp_some (by rw [w32i (by omega)]; rfl))
    | succ n =>
      have hN : ((n + 1 : Nat) : Int) - 1 = (n : Int) := by omega
      refine wp_ifF (by rw [w32i (by omega)]; omega) ?_
      rw [hN]
      have i0 := Wr_b6 (r := r) v2 hsv (show n ≤ 6 by omega) hb h2
      refine wp_bind (wp_of (MW_ok ⟨v1, v2, v3⟩ hn' (D := D) (n := n) (r := r) (by omega) (by omega) hr hb h2) (wp_bind (wp_loop (fun k (z : Int × Int) => z.2 = (k : Int) ∧ z.1 = sumN (fun k => max (Wr c sv n r b s) (if r = 0 ∨ sv k ≤ s then 0 else Wr c sv n (r - 1) (max b (sv k)) (min b (sv k)))) k) c ?_ ⟨rfl, rfl⟩ (by omega))))
      rintro k ⟨z1, z2⟩ hk ⟨e1, e2⟩
      obtain rfl : z2 = (k : Int) := e1
      have e2 : z1 = _ := e2
      dsimp only
      unfold X12_worthOf_l29
      by_cases q : k = c
      · subst q
        refine wp_ifT (by rw [v1]; exact Int.le_refl _) (wp_some (Or.inr ⟨_, rfl, ?_⟩))
        unfold X12_worthOf_e29
        exact wp_some e2
      · have hk' : k < c := by omega
        obtain ⟨u1, u2⟩ := v3 k hk'
        obtain ⟨u3, u4⟩ := u2
        have hb1 : h01 (max b (sv k)) := by unfold h01 at *; omega
        have hb2 : h01 (min b (sv k)) := by unfold h01 at *; omega
        refine wp_ifF (by rw [v1, w32i (by omega), w32i (by omega)]; omega) (wp_rdn (by omega) (by omega) (wp_lt ?_))
        rw [u1]
        have fin : ∀ y : Int, y = (if r = 0 ∨ sv k ≤ s then 0 else Wr c sv n (r - 1) (max b (sv k)) (min b (sv k))) → wp (X12_worthOf_j84 (MW n' D) n' z1 (Wr c sv n r b s) (k : Int) y) (fun y => (∃ a' : Int × Int, y = .inl a' ∧ k < c ∧ a'.2 = ((k + 1 : Nat) : Int) ∧ a'.1 = sumN (fun k => max (Wr c sv n r b s) (if r = 0 ∨ sv k ≤ s then 0 else Wr c sv n (r - 1) (max b (sv k)) (min b (sv k)))) (k + 1)) ∨ ∃ b_1 : Int, y = .inr b_1 ∧ wp (X12_worthOf_e29 (MW n' D) n' b_1) (fun b_2 => b_2 = Wr c sv (n + 1) r b s)) := by
          intro y hy
          unfold X12_worthOf_j84
          refine wp_lt (wp_lt (wp_some (Or.inl ⟨_, rfl, hk', by simp only []; omega, ?_⟩)))
          have i3 := Wr_b6 (n := n) (r := r - 1) v2 hsv (by omega) hb1 hb2
          have hyb : 0 ≤ y ∧ y ≤ 9331200 := by
            rw [hy]
            split <;> omega
          show z1 + mx64 (Wr c sv n r b s) y = sumN _ k + max (Wr c sv n r b s) (if r = 0 ∨ sv k ≤ s then 0 else Wr c sv n (r - 1) (max b (sv k)) (min b (sv k)))
          rw [mx64_m (by omega), e2, hy]
        by_cases q1 : r = 0
        · refine wp_bind (wp_ifT (by rw [q1]; rfl) (wp_some (fin 0 (by rw [if_pos (Or.inl q1)]))))
        · by_cases q2 : sv k ≤ s
          · exact wp_bind (wp_ifF (by rw [w32i (by omega)]; omega) (wp_ifF (by rw [w32i (by omega), w32i (by omega)]; omega) (wp_some (fin 0 (by rw [if_pos (Or.inr q2)])))))
          · refine wp_bind (wp_ifF (by rw [w32i (by omega)]; omega) (wp_ifT (by rw [w32i (by omega), w32i (by omega)]; omega) ?_))
            rw [hN, mx32_m (by omega), mn32_m (by omega), show (r : Int) - 1 = ((r - 1 : Nat) : Int) by omega]
            exact wp_bind (wp_of (MW_ok ⟨v1, v2, v3⟩ hn' (D := D) (n := n) (r := r - 1) (by omega) (by omega) (by omega) hb1 hb2) (wp_some (fin _ (by rw [if_neg (by omega)]))))
