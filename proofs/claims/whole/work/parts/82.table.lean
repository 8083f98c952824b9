/-! ===== LOOKING BACK: the class's table ===== -/
theorem write_ok {σ : SG} {k hi lo n : Nat} {v : Int} (hk : k ≤ 6) (h1 : hi < 8) (h2 : lo < 8) : X4_write n (k : Int) (hi : Int) (lo : Int) v σ = some (up σ 56 (64 * k + 8 * hi + lo) v) := by
  refine of_wp ?_
  unfold X4_write
  refine wp_lt (wp_ifF (by rw [w32i (by omega)]; omega) (wp_ifF (by rw [w32i (by omega)]; omega) (wp_rdI (64 * k + 8 * hi + lo) (by omega) (by omega) (by decide) (wp_lt (wp_some rfl)))))
theorem read_ok {σ : SG} {k hi lo n : Nat} (hk : k ≤ 6) (h1 : hi < 8) (h2 : lo < 8) : X4_read n (k : Int) (hi : Int) (lo : Int) σ = some (σ 56 (64 * k + 8 * hi + lo)) := by
  refine of_wp ?_
  unfold X4_read
  refine wp_lt (wp_ifF (by rw [w32i (by omega)]; omega) (wp_ifT (by rw [w32i (by omega)]; omega) (wp_rdI (64 * k + 8 * hi + lo) (by omega) (by omega) (by decide) (wp_some rfl))))
theorem ix_ne {k hi lo K H L : Nat} (h1 : hi < 8) (h2 : lo < 8) (h3 : H < 8) (h4 : L < 8) (h : ¬ (k = K ∧ hi = H ∧ lo = L)) : ¬ (56 = 56 ∧ 64 * k + 8 * hi + lo = 64 * K + 8 * H + L) := by
  rintro ⟨-, e⟩
  have e1 : k = K := by
    have a1 : (64 * k + 8 * hi + lo) / 64 = k := by omega
    have a2 : (64 * K + 8 * H + L) / 64 = K := by omega
    rw [← a1, ← a2, e]
  subst e1
  have e2 : hi = H := by omega
  subst e2
  exact h ⟨rfl, rfl, by omega⟩
/-- only the table differs -/
def F56 (σ0 σ : SG) : Prop := ∀ a j, a ≠ 56 → σ a j = σ0 a j
theorem F56.up {σ0 σ : SG} {j : Nat} {v : Int} (h : F56 σ0 σ) : F56 σ0 (up σ 56 j v) := fun a i ha => by rw [up_ne (by omega)]; exact h a i ha
/-- the table at first -/
def T0 (P : Nat → Int) (N : Nat) (σ : SG) (K H L : Nat) : Prop := ∀ k hi lo : Nat, k ≤ 6 → hi ≤ lo → lo < N → (k < K ∨ (k = K ∧ (hi < H ∨ (hi = H ∧ lo < L)))) → σ 56 (64 * k + 8 * hi + lo) = P hi + P lo
theorem init_ok {σ : SG} {c r : Nat} {sv : Nat → Int} {f s : Int} (h : PF σ c sv f s) (hc : c ≤ 6) (hr : r ≤ 6) : wp (iter 1000 (fun s : Int × SG => X4_worthOf_l9 1000 (r : Int) s.1 s.2) (0, σ)) (fun σ' => F56 σ σ' ∧ T0 (σ 54) (c + 2) σ' (r + 1) 0 0) := by
  obtain ⟨p1, p2, p3, p4, -⟩ := h
  refine wp_loop (fun k (z : Int × SG) => z.1 = (k : Int) ∧ F56 σ z.2 ∧ T0 (σ 54) (c + 2) z.2 k 0 0) (r + 1) ?_ ⟨rfl, fun _ _ _ => rfl, fun k hi lo _ _ _ q => absurd q (by omega)⟩ (by omega)
  rintro K ⟨z1, σ1⟩ hK ⟨e1, e2, e3⟩
  obtain rfl : z1 = (K : Int) := e1
  have e2 : F56 σ σ1 := e2
  have e3 : T0 (σ 54) (c + 2) σ1 K 0 0 := e3
  dsimp only
  unfold X4_worthOf_l9
  by_cases d : K = r + 1
  · subst d
    exact wp_ifT (by rw [w32i (by omega), w32i (by omega)]; omega) (wp_some (Or.inr ⟨_, rfl, e2, e3⟩))
  · refine wp_ifF (by rw [w32i (by omega), w32i (by omega)]; omega) (wp_bind (wp_loop (fun H (z : Int × SG) => z.1 = (H : Int) ∧ F56 σ z.2 ∧ T0 (σ 54) (c + 2) z.2 K H 0) (c + 2) ?_ ⟨rfl, e2, e3⟩ (by omega)))
    rintro H ⟨z1, σ2⟩ hH ⟨g1, g2, g3⟩
    obtain rfl : z1 = (H : Int) := g1
    have g2 : F56 σ σ2 := g2
    have g3 : T0 (σ 54) (c + 2) σ2 K H 0 := g3
    have gN : σ2 53 2 = ((c + 2 : Nat) : Int) := (g2 53 2 (by decide)).trans p1
    dsimp only
    unfold X4_worthOf_l19
    by_cases d2 : H = c + 2
    · subst d2
      refine wp_ifT (by rw [gN]; exact Int.le_refl _) (wp_some (Or.inr ⟨_, rfl, ?_⟩))
      unfold X4_worthOf_e19
      exact wp_lt (wp_some (Or.inl ⟨_, rfl, by omega, by simp only []; omega, g2, fun k hi lo q1 q2 q3 q4 => g3 k hi lo q1 q2 q3 (by omega)⟩))
    · refine wp_ifF (by rw [gN, w32i (by omega), w32i (by omega)]; omega) (wp_bind (wp_loop (fun i (z : Int × SG) => z.1 = ((H + i : Nat) : Int) ∧ F56 σ z.2 ∧ T0 (σ 54) (c + 2) z.2 K H (H + i)) (c + 2 - H) ?_ ⟨rfl, g2, fun k hi lo q1 q2 q3 q4 => g3 k hi lo q1 q2 q3 (by omega)⟩ (by omega)))
      rintro i ⟨z1, σ3⟩ hi' ⟨k1, k2, k3⟩
      obtain rfl : z1 = ((H + i : Nat) : Int) := k1
      have k2 : F56 σ σ3 := k2
      have k3 : T0 (σ 54) (c + 2) σ3 K H (H + i) := k3
      have kN : σ3 53 2 = ((c + 2 : Nat) : Int) := (k2 53 2 (by decide)).trans p1
      dsimp only
      unfold X4_worthOf_l32
      by_cases d3 : H + i = c + 2
      · refine wp_ifT (by rw [kN, d3]; exact Int.le_refl _) (wp_some (Or.inr ⟨_, rfl, ?_⟩))
        unfold X4_worthOf_e32
        exact wp_lt (wp_some (Or.inl ⟨_, rfl, by omega, by simp only []; omega, k2, fun k hi lo q1 q2 q3 q4 => k3 k hi lo q1 q2 q3 (by omega)⟩))
      · obtain ⟨u1, u2⟩ := p4 H (by omega)
        obtain ⟨v1, v2⟩ := p4 (H + i) (by omega)
        refine wp_ifF (by rw [kN, w32i (by omega), w32i (by omega)]; omega) (wp_rdn (by omega) (by omega) (wp_rdn (by omega) (by omega) (wp_bind ?_)))
        rw [k2 54 H (by decide), k2 54 (H + i) (by decide), w32i (by omega)]
        refine wp_of (write_ok (by omega) (by omega) (by omega)) (wp_lt (wp_some (Or.inl ⟨_, rfl, by omega, by simp only []; omega, k2.up, fun k hi lo q1 q2 q3 q4 => ?_⟩)))
        dsimp only
        by_cases d4 : k = K ∧ hi = H ∧ lo = H + i
        · obtain ⟨rfl, rfl, rfl⟩ := d4
          exact up_eq rfl rfl
        · rw [up_ne (ix_ne (by omega) (by omega) (by omega) (by omega) d4)]
          exact k3 k hi lo q1 q2 q3 (by omega)
/-- a wave more: one entry -/
theorem wow_ok {σ : SG} {c w K H L : Nat} {sv : Nat → Int} {f s : Int} (h : PF σ c sv f s) (hc : c ≤ 6) (hw : w ≤ 5) (hK : K ≤ 6) (hH : H ≤ L) (hL : L < c + 2) (hs : ∀ k, k < c → h01 (sv k)) (h1 : σ 56 (64 * K + 8 * H + L) = Wr c sv w K (σ 54 H) (σ 54 L)) (h2 : 0 < K → ∀ hi lo : Nat, hi ≤ lo → lo < c + 2 → σ 56 (64 * (K - 1) + 8 * hi + lo) = Wr c sv w (K - 1) (σ 54 hi) (σ 54 lo)) :
    X4_worthOfWave 1000 (K : Int) (H : Int) (L : Int) σ = some (Wr c sv (w + 1) K (σ 54 H) (σ 54 L)) := by
  obtain ⟨p1, p2, p3, p4, -, -, p7⟩ := h
  have hp : ∀ i j, i ≤ j → j < c + 2 → σ 54 j ≤ σ 54 i := fun i j hij hj => by
    by_cases q : i = j
    · rw [q]; exact Int.le_refl _
    · exact p3 i j (by omega) hj
  have b1 := p4 H (by omega)
  have b2 := p4 L hL
  have hb := Wr_b6 (n := w) (r := K) hc hs (by omega) b1 b2
  refine of_wp ?_
  unfold X4_worthOfWave
  refine wp_bind (wp_of (read_ok hK (by omega) (by omega)) ?_)
  rw [h1]
  by_cases c0 : K = 0
  · subst c0
    refine wp_ifT rfl (wp_some ?_)
    rw [p2, w32i (by omega), Wr_s, ← sumN_k]
    refine sumN_cg (fun k hk => ?_)
    rw [if_pos (Or.inl rfl)]
    omega
  · refine wp_ifF (by rw [w32i (by omega)]; omega) (wp_bind (wp_loop (fun k (z : Int × Int) => z.2 = (k : Int) ∧ z.1 = sumN (fun k => max (Wr c sv w K (σ 54 H) (σ 54 L)) (if K = 0 ∨ sv k ≤ σ 54 L then 0 else Wr c sv w (K - 1) (max (σ 54 H) (sv k)) (min (σ 54 H) (sv k)))) k) c ?_ ⟨rfl, rfl⟩ (by omega)))
    rintro k ⟨z1, z2⟩ hk ⟨e1, e2⟩
    obtain rfl : z2 = (k : Int) := e1
    have e2 : z1 = _ := e2
    dsimp only
    unfold X4_worthOfWave_l31
    by_cases q : k = c
    · subst q
      refine wp_ifT (by rw [p2]; exact Int.le_refl _) (wp_some (Or.inr ⟨_, rfl, ?_⟩))
      unfold X4_worthOfWave_e31
      exact wp_some e2
    · obtain ⟨p, a1, a2, a3, -⟩ := p7 k (by omega)
      have hsk := hs k (by omega)
      refine wp_ifF (by rw [p2, w32i (by omega), w32i (by omega)]; omega) (wp_rdn (by omega) (by omega) (wp_lt ?_))
      rw [a1]
      have fin : ∀ y : Int, 0 ≤ y ∧ y ≤ 9331200 → max (Wr c sv w K (σ 54 H) (σ 54 L)) y = max (Wr c sv w K (σ 54 H) (σ 54 L)) (if K = 0 ∨ sv k ≤ σ 54 L then 0 else Wr c sv w (K - 1) (max (σ 54 H) (sv k)) (min (σ 54 H) (sv k))) → wp (X4_worthOfWave_j85 1000 z1 (Wr c sv w K (σ 54 H) (σ 54 L)) (k : Int) y) (fun y => (∃ a' : Int × Int, y = .inl a' ∧ k < c ∧ a'.2 = ((k + 1 : Nat) : Int) ∧ a'.1 = sumN (fun k => max (Wr c sv w K (σ 54 H) (σ 54 L)) (if K = 0 ∨ sv k ≤ σ 54 L then 0 else Wr c sv w (K - 1) (max (σ 54 H) (sv k)) (min (σ 54 H) (sv k)))) (k + 1)) ∨ ∃ b_1 : Int, y = .inr b_1 ∧ wp (X4_worthOfWave_e31 1000 b_1) (fun b_2 => b_2 = Wr c sv (w + 1) K (σ 54 H) (σ 54 L))) := by
        intro y hy hm
        unfold X4_worthOfWave_j85
        refine wp_lt (wp_lt (wp_some (Or.inl ⟨_, rfl, by omega, by simp only []; omega, ?_⟩)))
        show z1 + mx64 (Wr c sv w K (σ 54 H) (σ 54 L)) y = sumN _ k + max (Wr c sv w K (σ 54 H) (σ 54 L)) (if K = 0 ∨ sv k ≤ σ 54 L then 0 else Wr c sv w (K - 1) (max (σ 54 H) (sv k)) (min (σ 54 H) (sv k)))
        rw [mx64_m (by omega), e2, hm]
      have hup : ∀ {x y : Int}, h01 x → h01 y → Wr c sv w (K - 1) x y ≤ Wr c sv w K x y := fun {x y} hx hy => by
        have := Wr_up hc hs (n := w) (r := K - 1) hx hy
        rw [show K - 1 + 1 = K by omega] at this
        exact this
      have hKi : (K : Int) - 1 = ((K - 1 : Nat) : Int) := by omega
      by_cases d : H < p
      · refine wp_bind (wp_ifT (by rw [w32i (by omega), w32i (by omega)]; omega) ?_)
        rw [mn32_m (by omega), hKi, show min (p : Int) (L : Int) = ((min p L : Nat) : Int) by omega]
        refine wp_bind (wp_of (read_ok (by omega) (by omega) (by omega)) (wp_some ?_))
        rw [h2 (by omega) H (min p L) (by omega) (by omega)]
        have b3 := p4 (min p L) (by omega)
        refine fin _ (Wr_b6 hc hs (by omega) b1 b3) ?_
        by_cases d2 : p < L
        · rw [show min p L = p by omega, a3]
          have i1 : sv k ≤ σ 54 H := by rw [← a3]; exact hp H p (by omega) a2
          by_cases d3 : sv k ≤ σ 54 L
          · have i2 : σ 54 L ≤ sv k := by rw [← a3]; exact hp p L (by omega) hL
            rw [if_pos (Or.inr d3), show sv k = σ 54 L by omega]
            have := hup b1 b2
            omega
          · rw [if_neg (by omega), show max (σ 54 H) (sv k) = σ 54 H by omega, show min (σ 54 H) (sv k) = sv k by omega]
        · rw [show min p L = L by omega]
          have i1 : sv k ≤ σ 54 L := by rw [← a3]; exact hp L p (by omega) a2
          rw [if_pos (Or.inr i1)]
          have := hup b1 b2
          omega
      · refine wp_bind (wp_ifF (by rw [w32i (by omega), w32i (by omega)]; omega) ?_)
        rw [hKi]
        refine wp_bind (wp_of (read_ok (by omega) (by omega) (by omega)) (wp_some ?_))
        rw [h2 (by omega) p H (by omega) (by omega), a3]
        refine fin _ (Wr_b6 hc hs (by omega) hsk b1) ?_
        have i1 : σ 54 H ≤ sv k := by rw [← a3]; exact hp p H (by omega) (by omega)
        have i2 : σ 54 L ≤ σ 54 H := hp H L hH hL
        by_cases d3 : sv k ≤ σ 54 L
        · rw [if_pos (Or.inr d3), show sv k = σ 54 H by omega, show σ 54 L = σ 54 H by omega]
          have := hup b1 b1
          have := (Wr_b6 (n := w) (r := K) hc hs (by omega) b1 b1).1
          omega
        · rw [if_neg (by omega), show max (σ 54 H) (sv k) = sv k by omega, show min (σ 54 H) (sv k) = σ 54 H by omega]
/-- the table while a wave more is looked at: K counts down -/
def TW (c w r : Nat) (sv P : Nat → Int) (σ : SG) (K : Int) (H L : Nat) : Prop := ∀ k hi lo : Nat, k ≤ r → hi ≤ lo → lo < c + 2 → (K < (k : Int) ∨ ((k : Int) = K ∧ (hi < H ∨ (hi = H ∧ lo < L))) → σ 56 (64 * k + 8 * hi + lo) = Wr c sv (w + 1) k (P hi) (P lo)) ∧ (¬ (K < (k : Int) ∨ ((k : Int) = K ∧ (hi < H ∨ (hi = H ∧ lo < L)))) → σ 56 (64 * k + 8 * hi + lo) = Wr c sv w k (P hi) (P lo))
theorem TW.cg {c w r H L H' L' : Nat} {sv P : Nat → Int} {σ : SG} {K K' : Int} (h : TW c w r sv P σ K H L) (e : ∀ k hi lo : Nat, k ≤ r → hi ≤ lo → lo < c + 2 → ((K < (k : Int) ∨ ((k : Int) = K ∧ (hi < H ∨ (hi = H ∧ lo < L)))) ↔ (K' < (k : Int) ∨ ((k : Int) = K' ∧ (hi < H' ∨ (hi = H' ∧ lo < L')))))) : TW c w r sv P σ K' H' L' := fun k hi lo q1 q2 q3 => by
  have := e k hi lo q1 q2 q3
  exact ⟨fun q => (h k hi lo q1 q2 q3).1 (this.mpr q), fun q => (h k hi lo q1 q2 q3).2 (fun q' => q (this.mp q'))⟩
theorem look_ok {σ : SG} {c w r : Nat} {sv : Nat → Int} {f s : Int} (h : PF σ c sv f s) (hc : c ≤ 6) (hw : w ≤ 5) (hr : r ≤ 6) (hs : ∀ k, k < c → h01 (sv k)) (hT : ∀ k hi lo : Nat, k ≤ r → hi ≤ lo → lo < c + 2 → σ 56 (64 * k + 8 * hi + lo) = Wr c sv w k (σ 54 hi) (σ 54 lo)) :
    ∃ σ', X4_lookAtWave 1000 (r : Int) σ = some σ' ∧ F56 σ σ' ∧ ∀ k hi lo : Nat, k ≤ r → hi ≤ lo → lo < c + 2 → σ' 56 (64 * k + 8 * hi + lo) = Wr c sv (w + 1) k (σ 54 hi) (σ 54 lo) := by
  have p1 := h.1
  have key : wp (X4_lookAtWave 1000 (r : Int) σ) (fun σ' => F56 σ σ' ∧ ∀ k hi lo : Nat, k ≤ r → hi ≤ lo → lo < c + 2 → σ' 56 (64 * k + 8 * hi + lo) = Wr c sv (w + 1) k (σ 54 hi) (σ 54 lo)) := by
    unfold X4_lookAtWave
    refine wp_bind (wp_loop (fun i (z : Int × SG) => z.1 = (r : Int) - i ∧ F56 σ z.2 ∧ TW c w r sv (σ 54) z.2 ((r : Int) - i) 0 0) (r + 1) ?_ ⟨by simp, fun _ _ _ => rfl, fun k hi lo q1 q2 q3 => ⟨fun q => absurd q (by omega), fun _ => hT k hi lo q1 q2 q3⟩⟩ (by omega))
    rintro i ⟨z1, σ1⟩ hi' ⟨e1, e2, e3⟩
    obtain rfl : z1 = (r : Int) - i := e1
    have e2 : F56 σ σ1 := e2
    have e3 : TW c w r sv (σ 54) σ1 ((r : Int) - i) 0 0 := e3
    dsimp only
    unfold X4_lookAtWave_l2
    by_cases d : i = r + 1
    · subst d
      refine wp_ifT (by rw [w32i (by omega)]; omega) (wp_some (Or.inr ⟨_, rfl, ?_⟩))
      unfold X4_lookAtWave_e2
      exact wp_some ⟨e2, fun k hi lo q1 q2 q3 => (e3 k hi lo q1 q2 q3).1 (by omega)⟩
    · obtain ⟨K, hK⟩ := nat_of (show 0 ≤ (r : Int) - i by omega)
      rw [hK] at e3
      rw [hK]
      refine wp_ifF (by rw [w32i (by omega)]; omega) (wp_bind (wp_loop (fun H (z : Int × SG) => z.1 = (H : Int) ∧ F56 σ z.2 ∧ TW c w r sv (σ 54) z.2 (K : Int) H 0) (c + 2) ?_ ⟨rfl, e2, e3⟩ (by omega)))
      rintro H ⟨z1, σ2⟩ hH ⟨g1, g2, g3⟩
      obtain rfl : z1 = (H : Int) := g1
      have g2 : F56 σ σ2 := g2
      have g3 : TW c w r sv (σ 54) σ2 (K : Int) H 0 := g3
      have gN : σ2 53 2 = ((c + 2 : Nat) : Int) := (g2 53 2 (by decide)).trans p1
      dsimp only
      unfold X4_lookAtWave_l8
      by_cases d2 : H = c + 2
      · subst d2
        refine wp_ifT (by rw [gN]; exact Int.le_refl _) (wp_some (Or.inr ⟨_, rfl, ?_⟩))
        unfold X4_lookAtWave_e8
        exact wp_lt (wp_some (Or.inl ⟨_, rfl, by omega, by simp only []; omega, g2, g3.cg (fun k hi lo q1 q2 q3 => by omega)⟩))
      · refine wp_ifF (by rw [gN, w32i (by omega), w32i (by omega)]; omega) (wp_bind (wp_loop (fun t (z : Int × SG) => z.1 = ((H + t : Nat) : Int) ∧ F56 σ z.2 ∧ TW c w r sv (σ 54) z.2 (K : Int) H (H + t)) (c + 2 - H) ?_ ⟨rfl, g2, g3.cg (fun k hi lo q1 q2 q3 => by omega)⟩ (by omega)))
        rintro t ⟨z1, σ3⟩ ht ⟨k1, k2, k3⟩
        obtain rfl : z1 = ((H + t : Nat) : Int) := k1
        have k2 : F56 σ σ3 := k2
        have k3 : TW c w r sv (σ 54) σ3 (K : Int) H (H + t) := k3
        have kN : σ3 53 2 = ((c + 2 : Nat) : Int) := (k2 53 2 (by decide)).trans p1
        have k54 : σ3 54 = σ 54 := funext fun j => k2 54 j (by decide)
        dsimp only
        unfold X4_lookAtWave_l19
        by_cases d3 : H + t = c + 2
        · refine wp_ifT (by rw [kN, d3]; exact Int.le_refl _) (wp_some (Or.inr ⟨_, rfl, ?_⟩))
          unfold X4_lookAtWave_e19
          exact wp_lt (wp_some (Or.inl ⟨_, rfl, by omega, by simp only []; omega, k2, k3.cg (fun k hi lo q1 q2 q3 => by omega)⟩))
        · have hwow := wow_ok (σ := σ3) (w := w) (K := K) (H := H) (L := H + t) (h.cg k2) hc hw (by omega) (by omega) (by omega) hs (by rw [k54]; exact (k3 K H (H + t) (by omega) (by omega) (by omega)).2 (by omega)) (fun hK0 hi lo q1 q2 => by rw [k54]; exact (k3 (K - 1) hi lo (by omega) q1 q2).2 (by omega))
          rw [k54] at hwow
          refine wp_ifF (by rw [kN, w32i (by omega), w32i (by omega)]; omega) (wp_bind (wp_of hwow (wp_bind (wp_of (write_ok (by omega) (by omega) (by omega)) (wp_lt (wp_some (Or.inl ⟨_, rfl, by omega, by simp only []; omega, k2.up, fun k hi lo q1 q2 q3 => ?_⟩)))))))
          dsimp only
          by_cases d4 : k = K ∧ hi = H ∧ lo = H + t
          · obtain ⟨rfl, rfl, rfl⟩ := d4
            exact ⟨fun _ => up_eq rfl rfl, fun q => absurd (show _ from Or.inr ⟨rfl, Or.inr ⟨rfl, by omega⟩⟩) q⟩
          · rw [up_ne (ix_ne (by omega) (by omega) (by omega) (by omega) d4)]
            exact ⟨fun q => (k3 k hi lo q1 q2 q3).1 (by omega), fun q => (k3 k hi lo q1 q2 q3).2 (by omega)⟩
  obtain ⟨σ', e, h⟩ := key
  exact ⟨σ', e, h⟩
theorem worthOf_ok {σ : SG} {c n r : Nat} {sv : Nat → Int} {f s : Int} (hc : σ 19 6 = (c : Int)) (hc6 : c ≤ 6) (hs : ∀ k, k < c → σ 38 k = sv k ∧ h01 (sv k)) (hf : h01 f) (h2 : h01 s) (hfs : s ≤ f) (hn : n ≤ 6) (hr : r ≤ 6) : ∃ σ', X4_worthOf 1000 f s (n : Int) (r : Int) σ = some (Wr c sv n r f s, σ') ∧ FrPl σ σ' := by
  obtain ⟨σ1, u1, u2, u3⟩ := fillPool_ok hc hc6 hs hf h2
  have hsv : ∀ k, k < c → h01 (sv k) := fun k hk => (hs k hk).2
  have key : wp (X4_worthOf 1000 f s (n : Int) (r : Int) σ) (fun z => z.1 = Wr c sv n r f s ∧ FrPl σ z.2) := by
    unfold X4_worthOf
    refine wp_bind (wp_of u1 (wp_bind (wp_mono (init_ok (r := r) u2 hc6 hr) (fun σ2 h => ?_))))
    obtain ⟨v1, v2⟩ := h
    unfold X4_worthOf_e9
    refine wp_bind (wp_loop (fun w (z : Int × SG) => z.1 = (w : Int) ∧ F56 σ1 z.2 ∧ ∀ k hi lo : Nat, k ≤ r → hi ≤ lo → lo < c + 2 → z.2 56 (64 * k + 8 * hi + lo) = Wr c sv w k (σ1 54 hi) (σ1 54 lo)) n ?_ ⟨rfl, v1, fun k hi lo q1 q2 q3 => v2 k hi lo (by omega) q2 q3 (by omega)⟩ (by omega))
    rintro w ⟨z1, σ3⟩ hw ⟨e1, e2, e3⟩
    obtain rfl : z1 = (w : Int) := e1
    have e2 : F56 σ1 σ3 := e2
    have e3 : ∀ k hi lo : Nat, k ≤ r → hi ≤ lo → lo < c + 2 → σ3 56 (64 * k + 8 * hi + lo) = Wr c sv w k (σ1 54 hi) (σ1 54 lo) := e3
    have e54 : σ3 54 = σ1 54 := funext fun j => e2 54 j (by decide)
    have P3 := u2.cg e2
    dsimp only
    unfold X4_worthOf_l88
    by_cases d : w = n
    · subst d
      refine wp_ifT (Int.le_refl _) (wp_some (Or.inr ⟨_, rfl, ?_⟩))
      unfold X4_worthOf_e88
      obtain ⟨p1, p2, p3, p4, p5, p6, -⟩ := P3
      obtain ⟨a, a1, a2, a3, a4⟩ := placeOf_ok (n := 1000) p1 (by omega) p4 hf p5 (by decide)
      obtain ⟨b, b1, b2, b3, b4⟩ := placeOf_ok (n := 1000) p1 (by omega) p4 h2 p6 (by decide)
      have hab : a ≤ b := by
        by_cases q : a ≤ b
        · exact q
        · have := p3 b a (by omega) a2
          exact absurd (show σ3 54 b = f by omega) (a4 b (by omega))
      refine wp_bind (wp_of a1 (wp_bind (wp_of b1 (wp_bind (wp_of (read_ok hr (by omega) (by omega)) (wp_some ⟨?_, u3.tr (fun x j h1 h2 h3 h4 => e2 x j h4)⟩))))))
      show σ3 56 _ = _
      rw [e3 r a b (Nat.le_refl _) hab b2, ← e54, a3, b3]
    · obtain ⟨σ4, w1, w2, w3⟩ := look_ok (w := w) P3 hc6 (by omega) hr hsv (by rw [e54]; exact e3)
      refine wp_ifF (by rw [w32i (by omega), w32i (by omega)]; omega) (wp_bind (wp_of w1 (wp_lt (wp_some (Or.inl ⟨_, rfl, by omega, by simp only []; omega, fun a j ha => (w2 a j ha).trans (e2 a j ha), ?_⟩)))))
      rw [e54] at w3
      exact w3
  obtain ⟨⟨v, σ'⟩, e, rfl, h⟩ := key
  exact ⟨σ', e, h⟩
