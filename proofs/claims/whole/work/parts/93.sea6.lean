/-! ===== the sea's text, whole ===== -/
theorem iter_l {A B : Type} {f : A → Option (A ⊕ B)} {n : Nat} {a a' : A} (h : f a = some (.inl a')) : iter (n + 1) f a = iter n f a' := by
  show (f a).bind _ = _
  rw [h]
  rfl
theorem iter_r {A B : Type} {f : A → Option (A ⊕ B)} {n : Nat} {a : A} {b : B} (h : f a = some (.inr b)) : iter (n + 1) f a = some b := by
  show (f a).bind _ = _
  rw [h]
  rfl
theorem isg_59 : isg 59 := by unfold isg; decide
def SeaL (B : Nat → Int) (L S : Nat) (σ0 ρ0 : SG) (r : SG ⊕ (Int × SG)) (ρ' : SG) : Prop := (∃ σ' m q, r = .inl σ' ∧ TC σ' B L L ∧ TB ρ' B L L ∧ SeaD σ' ρ' S m q ∧ FsC S σ0 σ' ∧ FsR ρ0 ρ') ∨ (∃ (x : Int) (σ' : SG), r = .inr (x, σ') ∧ FR ρ' B L x ∧ FsC S σ0 σ' ∧ FsR ρ0 ρ')
theorem seaLoop {S : Nat} {σ0 ρ0 : SG} {B : Nat → Int} {L n : Nat} (hT : Txt B L) (hn : 500 < n) : ∀ (d k : Nat) (σ ρ : SG) (b m q : Nat), L - b ≤ d → k ≤ b → TC σ B L b → TB ρ B L b → SeaD σ ρ S m q → FsC S σ0 σ → FsR ρ0 ρ → ∀ n1 n2, d < n1 → d + 1 < n2 → ∃ r ρ', iter n1 (fun s : Int × SG => X7_readInto_l31 n s.1 s.2) ((k : Int), σ) = some r ∧ iter n2 (fun s : SG => X12_sea_l53 n s) ρ = some ρ' ∧ SeaL B L S σ0 ρ0 r ρ' := by
  intro d
  induction d with
  | zero =>
    intro k σ ρ b m q hd hk P R D fC fR n1 n2 h1 h2
    obtain ⟨a, rfl⟩ : ∃ a, n1 = a + 1 := ⟨n1 - 1, by omega⟩
    obtain ⟨c, rfl⟩ : ∃ c, n2 = c + 1 := ⟨n2 - 1, by omega⟩
    have hL := hT.1
    have hb := P.2.2.1
    obtain rfl : b = L := by omega
    refine ⟨.inl σ, ρ, iter_r (of_wp ?_), iter_r (of_wp ?_), Or.inl ⟨σ, m, q, rfl, P, R, D, fC, fR⟩⟩
    · unfold X7_readInto_l31
      refine wp_if (fun _ => wp_some rfl) (fun _ => wp_ifT (by dsimp only; rw [P.2.2.2.2.1, (kd_0 (Nat.le_refl _)).1]; rfl) (wp_some rfl))
    · unfold X12_sea_l53
      exact wp_bind (wp_of R.tr.hf (wp_ifT rfl (wp_ifT (by rw [R.1.1, R.2.2.1]; exact Int.le_refl _) (wp_some rfl))))
  | succ d ih =>
    intro k σ ρ b m q hd hk P R D fC fR n1 n2 h1 h2
    obtain ⟨a, rfl⟩ : ∃ a, n1 = a + 1 := ⟨n1 - 1, by omega⟩
    obtain ⟨c, rfl⟩ : ∃ c, n2 = c + 1 + 1 := ⟨n2 - 2, by omega⟩
    have hL := hT.1
    have hb := P.2.2.1
    by_cases hbL : b = L
    · subst hbL
      refine ⟨.inl σ, ρ, iter_r (of_wp ?_), iter_r (of_wp ?_), Or.inl ⟨σ, m, q, rfl, P, R, D, fC, fR⟩⟩
      · unfold X7_readInto_l31
        refine wp_if (fun _ => wp_some rfl) (fun _ => wp_ifT (by dsimp only; rw [P.2.2.2.2.1, (kd_0 (Nat.le_refl _)).1]; rfl) (wp_some rfl))
      · unfold X12_sea_l53
        exact wp_bind (wp_of R.tr.hf (wp_ifT rfl (wp_ifT (by rw [R.1.1, R.2.2.1]; exact Int.le_refl _) (wp_some rfl))))
    · have hkd : ¬ w32 (σ 15 2) = 0 := by
        rw [P.2.2.2.2.1]
        rcases kd_c (B := B) hb with ⟨q1, q2, -⟩ | ⟨q1, -⟩ | ⟨q1, -⟩ | ⟨q1, -⟩
        · omega
        · rw [q1]; decide
        · rw [q1]; decide
        · rw [q1]; decide
      obtain ⟨v, σ1, ρ1, e1, e2, lC, lR, lo⟩ := line2_ok P R.tr hT D hn
      have stepR : ∀ ρ2, X12_asksSign n 59 ρ1 = some ρ2 → ∀ ρ3, X12_blanks n ρ2 = some ρ3 → X12_sea_l53 n ρ = some (.inl ρ3) := fun ρ2 x1 ρ3 x2 => of_wp (by
        unfold X12_sea_l53
        refine wp_bind (wp_of R.tr.hf (wp_ifT rfl (wp_ifF (by rw [R.1.1, R.2.2.1, w32i (by omega), w32i (by omega)]; omega) (wp_bind (e2 _ ?_)))))
        unfold X12_seaLine_j118
        exact wp_bind (wp_of x1 (wp_some (wp_bind (wp_of x2 (wp_some rfl))))))
      have failR : ∀ (ρ2 : SG) (x : Int), X12_asksSign n 59 ρ1 = some ρ2 → FR ρ2 B L x → FsR ρ1 ρ2 → ∃ ρ', iter (c + 1 + 1) (fun s : SG => X12_sea_l53 n s) ρ = some ρ' ∧ FR ρ' B L x ∧ FsR ρ0 ρ' := fun ρ2 x x1 x2 x3 => by
        obtain ⟨ρ3, y1, y2, y3⟩ := x2.blanks (n := n) hT hn
        refine ⟨ρ3, ?_, y3, fR.tr (lR.tr (x3.tr y2.s))⟩
        refine (iter_l (f := fun s : SG => X12_sea_l53 n s) (a := ρ) (stepR ρ2 x1 ρ3 y1)).trans (iter_r (of_wp ?_))
        unfold X12_sea_l53
        exact wp_bind (wp_of y3.hf (wp_ifF (by decide) (wp_some rfl)))
      have k400 : ¬ 400 ≤ w32 (k : Int) := by rw [w32i (by omega)]; omega
      rcases lo with ⟨rfl, b', m', q', hb', P1, R1, D1⟩ | ⟨rfl, F1⟩
      · obtain ⟨σ2, g1, g2, P2⟩ := P1.passSign (n := n) (c := 59) hT isg_59 hn
        obtain ⟨ρ2, x1, x2, x3⟩ := R1.asksSign (n := n) (c := 59) hT isg_59 hn
        have nb := nx_b (B := B) P1.2.2.1
        cases hs : sgB B L b' 59
        · rw [hs, if_neg (by decide)] at P2 x3
          rw [hs] at g1
          obtain ⟨ρ', y1, y2, y3⟩ := failR ρ2 _ x1 x3 x2.s
          refine ⟨.inr (σ2 15 3, σ2), ρ', iter_r (of_wp ?_), y1, Or.inr ⟨σ2 15 3, σ2, rfl, ?_, fC.tr (lC.tr g2.s), y3⟩⟩
          · unfold X7_readInto_l31
            exact wp_ifF k400 (wp_ifF hkd (wp_bnd2 (wp_of e1 (wp_ifF (by dsimp only; decide) (wp_bnd2 (wp_of g1 (wp_ifT rfl (wp_some rfl))))))))
          · rw [P2.2.2.2.1]; exact y2
        · rw [hs, if_pos rfl] at P2 x3
          rw [hs] at g1
          obtain ⟨ρ3, y1, y2, y3⟩ := x3.blanks (n := n) hT hn
          have hstep : X7_readInto_l31 n (k : Int) σ = some (.inl (((k + 1 : Nat) : Int), σ2)) := of_wp (by
            unfold X7_readInto_l31
            refine wp_ifF k400 (wp_ifF hkd (wp_bnd2 (wp_of e1 (wp_ifF (by dsimp only; decide) (wp_bnd2 (wp_of g1 (wp_ifF (by dsimp only; decide) (wp_lt (wp_some ?_)))))))))
            rw [show (k : Int) + 1 = ((k + 1 : Nat) : Int) by omega])
          have := te_b (B := B) P1.2.2.1
          obtain ⟨r, ρ', h1', h2', h3'⟩ := ih (k + 1) σ2 ρ3 (nx B L b') m' q' (by omega) (by omega) P2 y3 (D1.cg g2 (x2.tr y2)) (fC.tr (lC.tr g2.s)) (fR.tr (lR.tr (x2.tr y2).s)) a (c + 1) (by omega) (by omega)
          exact ⟨r, ρ', (iter_l (f := fun s : Int × SG => X7_readInto_l31 n s.1 s.2) (a := ((k : Int), σ)) hstep).trans h1', (iter_l (f := fun s : SG => X12_sea_l53 n s) (a := ρ) (stepR ρ2 x1 ρ3 y1)).trans h2', h3'⟩
      · obtain ⟨ρ', y1, y2, y3⟩ := failR ρ1 _ F1.asksSign F1 FsR.rf
        refine ⟨.inr (σ1 15 3, σ1), ρ', iter_r (of_wp ?_), y1, Or.inr ⟨σ1 15 3, σ1, rfl, y2, fC.tr lC, y3⟩⟩
        unfold X7_readInto_l31
        exact wp_ifF k400 (wp_ifF hkd (wp_bnd2 (wp_of e1 (wp_ifT rfl (wp_some rfl)))))
/-- what every call keeps -/
def Tv (σ ρ : SG) : Prop := ITape σ ρ ∧ ∃ S J m q : Nat, Rl σ ρ S J m q ∧ IJud σ ρ J
theorem Tv_TJ : TJ Tv := fun σ ρ τ h a b => by
  obtain ⟨hT, S, J, m, q, R, I⟩ := h
  refine ⟨?_, S, J, m, q, R.cgs a b, I.cgs R.use.2.1 a b⟩
  unfold ITape at *
  rw [a 15 (by decide), a 16 (by decide), a 0 (by decide), b 57 (by decide) (by decide), b 58 (by decide) (by decide)]
  exact hT
/-- what a failed text leaves -/
theorem Rl.fr {σ ρ σ' ρ' : SG} {S J m q : Nat} (R : Rl σ ρ S J m q) (a : ∀ c j, (c = 0 ∧ j < 2) ∨ c = 19 ∨ (S ≤ c ∧ c ≤ S + 5) ∨ (34 ≤ c ∧ c ≤ 48) → σ' c j = σ c j) (b : ∀ c j, (c = 57 ∧ (j = 11 ∨ 25 ≤ j)) ∨ c = 60 ∨ (68 ≤ c ∧ c ≤ 79) → ρ' c j = ρ c j) : Rl σ' ρ' S J m q := by
  have hS := R.use.1
  have hm := R.num.2.1
  have ra : ∀ k, k = 19 ∨ (S ≤ k ∧ k ≤ S + 5) ∨ (34 ≤ k ∧ k ≤ 48) → σ' k = σ k := fun k h => funext fun j => a k j (by omega)
  have rb : ∀ k, k = 60 ∨ (68 ≤ k ∧ k ≤ 79) → ρ' k = ρ k := fun k h => funext fun j => b k j (by omega)
  have r19 : σ' 19 = σ 19 := ra 19 (by omega)
  have w1 : ∀ s, s < 5 → σ' (39 + 2 * s) = σ (39 + 2 * s) := fun s hs => ra _ (by omega)
  have w2 : ∀ s, s < 5 → σ' (40 + 2 * s) = σ (40 + 2 * s) := fun s hs => ra _ (by omega)
  refine ⟨R.use.cg (a 0 0 (by omega)) (a 0 1 (by omega)) (by rw [r19]) (by rw [r19]) (ra 34 (by omega)) (fun s hs => by rw [w1 s hs]), R.num.cg (ra S (by omega)) (rb 60 (by omega)) (b 57 11 (by omega)), fun s hs => (R.seaS hs).cg (fun i _ hi => ra _ (by omega)) (rb 60 (by omega)), fun w hw => (R.seaW hw).cg (fun i _ hi => ra _ (by omega)) (rb 60 (by omega)),
    R.heat.cg (ra _ (by omega)) (fun j _ => by rw [r19]) (fun j h1 _ _ _ _ _ => b 57 j (by omega)), R.row.cg (ra 35 (by omega)) (ra 36 (by omega)) (rb 76 (by omega)) (b 57 34 (by omega)) (b 57 36 (by omega)) (fun s hs => ?_), R.seen.cg (by rw [r19]) (ra 38 (by omega)) (b 57 33 (by omega)) (rb 77 (by omega)),
    fun s hs => (R.sw hs).cg (w1 s (by omega)) (by rw [r19]) (by rw [r19]) (ra _ (by omega)) (fun k h1 h2 _ _ => by rw [rb k (by omega)]), fun s hs => (R.rid hs).cg (by rw [w1 s (by omega)]) (by rw [w1 s (by omega)]) (by rw [w1 s (by omega)]) (w2 s (by omega)) (by rw [r19]) (by rw [r19]) (rb 79 (by omega)), ?_,
    R.gone.cg (by rw [r19]) (by rw [r19]) (ra 37 (by omega)) (fun s hs => ⟨w2 s (by omega), by rw [w1 s (by omega)]⟩)⟩
  · unfold awy
    rw [w1 s (by omega)]
    exact ⟨Iff.rfl, rfl⟩
  · rw [b 57 30 (by omega), R.bits]
    exact msk_cg (fun s hs => by rw [w1 s (by omega)])
theorem ISeaS.cgj {σ ρ σ' ρ' : SG} {S s : Nat} (h : ISeaS σ ρ S s) (hs : s < 5) (e : ∀ i, 0 < i → i < 6 → σ' (S + i) = σ (S + i)) (e1 : ∀ j, j < 144 → ρ' 60 j = ρ 60 j) : ISeaS σ' ρ' S s := by
  unfold ISeaS at *
  rw [e 1 (by decide) (by decide), e 2 (by decide) (by decide), e 3 (by decide) (by decide), e 4 (by decide) (by decide), e1 (34 + s) (by omega), e1 (39 + s) (by omega)]
  exact ⟨h.1, h.2.1, fun i hi => by rw [e1 _ (by omega)]; exact h.2.2.1 i hi, h.2.2.2⟩
theorem ISeaW.cgj {σ ρ σ' ρ' : SG} {S w : Nat} (h : ISeaW σ ρ S w) (hw : w < 20) (e : ∀ i, 0 < i → i < 6 → σ' (S + i) = σ (S + i)) (e1 : ∀ j, j < 144 → ρ' 60 j = ρ 60 j) : ISeaW σ' ρ' S w := by
  unfold ISeaW at *
  rw [e 5 (by decide) (by decide)]
  exact ⟨fun j hj => by rw [e1 _ (by omega)]; exact h.1 j hj, h.2⟩
/-- the class reads, the reference reads -/
def SeaO (S : Nat) (σ ρ : SG) (v : Int) (σ' ρ' : SG) : Prop := FsC S σ σ' ∧ (∀ c j, ¬ (c = 57 ∧ (j < 8 ∨ j = 12 ∨ j = 13)) → c ≠ 61 → ρ' c j = ρ c j) ∧ ρ' 57 2 = 0 ∧ ρ' 57 0 = 0 ∧ ((v = -1 ∧ ρ' 57 7 = -1 ∧ ∃ m q, 2 ≤ m ∧ SeaD σ' ρ' S m q) ∨ (0 ≤ v ∧ v ≤ 400 ∧ ρ' 57 7 = v))
theorem seaRead_ok {σ ρ : SG} {S : Nat} (hS : S = 1 ∨ S = 20) (hT : ITape σ ρ) : ∃ v σ' ρ', X7_readInto 1000 S σ = some (v, σ') ∧ (∀ Q, wp (X12_sea_j103 1000 ρ') Q → wp (X12_sea 1000 ρ) Q) ∧ SeaO S (up σ 17 1 (S : Int)) ρ v σ' ρ' := by
  obtain ⟨l1, l2, l3, l4, l5⟩ := hT
  obtain ⟨L, hL⟩ := nat_of l1
  have T : Txt (σ 16) L := ⟨by omega, fun j hj => by have := l5 j (by omega); omega⟩
  -- the class's beginning
  obtain ⟨σ1, hσ1⟩ : ∃ y, y = up (up (up (up (up (up (up σ 17 1 (S : Int)) S 5 0) S 6 0) S 7 30) S 8 0) 17 2 0) 17 3 0 := ⟨_, rfl⟩
  have s15 : ∀ j, σ1 15 j = σ 15 j := fun j => by rw [hσ1]; simp (disch := omega) only [up_ne]
  have s16 : ∀ j, σ1 16 j = σ 16 j := fun j => by rw [hσ1]; simp (disch := omega) only [up_ne]
  obtain ⟨σ2, a1, P, a3⟩ := adv_ok (σ := up σ1 15 4 0) (B := σ 16) (L := L) (e := 0) (n := 1000) T (by rw [up_ne (by omega), s15]; exact hL) (fun j hj => by rw [up_ne (by omega), s16]) (by rw [up_eq rfl rfl]; rfl) (by omega) (by decide)
  have hC : ∀ Q : Int × SG → Prop, wp (((iter 1000 (fun s : Int × SG => X7_readInto_l31 1000 s.1 s.2) (0, σ2)) : Option ((SG) ⊕ (Int × SG))).bind (orr (fun s => X7_readInto_e31 1000 s))) Q → wp (X7_readInto 1000 S σ) Q := fun Q hQ => by
    unfold X7_readInto X6_clear
    refine wp_lt (wp_ckI S (up_eq rfl rfl) (isSea_S hS) (wp_bind (wp_lt (wp_lt (wp_lt (wp_lt (wp_some (wp_lt (wp_lt (wp_bind ?_))))))))))
    rw [← hσ1]
    unfold X10_open
    exact wp_lt (wp_bind (wp_of a1 (wp_some hQ)))
  -- the reference's
  obtain ⟨ρ1, hρ1⟩ : ∃ y, y = up (up (up (up (up ρ 57 0 0) 57 6 (ρ 57 2)) 57 2 0) 57 4 0) 57 7 (-1) := ⟨_, rfl⟩
  have hz : wp (iter 1000 (fun s : Int × SG => X12_sea_l11 1000 s.1 s.2) (0, ρ1)) (fun ρ' => (∀ j, j < 144 → ρ' 61 j = 0) ∧ ∀ c j, c ≠ 61 → ρ' c j = ρ1 c j) := by
    refine wp_loop (fun k (z : Int × SG) => z.1 = (k : Int) ∧ (∀ j, j < k → z.2 61 j = 0) ∧ ∀ c j, c ≠ 61 → z.2 c j = ρ1 c j) 144 ?_ ⟨rfl, fun j hj => absurd hj (by omega), fun _ _ _ => rfl⟩ (by decide)
    rintro k ⟨z1, τ⟩ hk ⟨e1, e2, e3⟩
    obtain rfl : z1 = (k : Int) := e1
    dsimp only
    unfold X12_sea_l11
    by_cases c : k = 144
    · subst c
      exact wp_ifT (by decide) (wp_some (Or.inr ⟨_, rfl, e2, e3⟩))
    · refine wp_ifF (by rw [w32i (by omega)]; omega) (wp_rdn (by omega) (by omega) (wp_lt (wp_lt (wp_some (Or.inl ⟨_, rfl, by omega, by simp only []; omega, fun j hj => ?_, fun c j hc => ?_⟩)))))
      · dsimp only
        by_cases q : j = k
        · rw [q, up_eq rfl rfl]
        · rw [up_ne (by omega)]
          exact e2 j (by omega)
      · dsimp only
        rw [up_ne (by omega)]
        exact e3 c j hc
  obtain ⟨ρ2, z1, z2, z3⟩ := hz
  obtain ⟨ρ3, hρ3⟩ : ∃ y, y = up (up (up ρ2 61 2 30) 57 12 0) 57 13 0 := ⟨_, rfl⟩
  have g57 : ∀ j, j ≠ 12 → j ≠ 13 → ρ3 57 j = ρ1 57 j := fun j h1 h2 => by rw [hρ3, up_ne (by omega), up_ne (by omega), up_ne (by omega)]; exact z3 57 j (by decide)
  have g58 : ∀ j, ρ3 58 j = ρ 58 j := fun j => by rw [hρ3, up_ne (by omega), up_ne (by omega), up_ne (by omega), z3 58 j (by decide), hρ1]; simp (disch := omega) only [up_ne]
  have RB3 : RB ρ3 (σ 16) L := ⟨by rw [g57 6 (by omega) (by omega), hρ1, up_ne (by omega), up_ne (by omega), up_ne (by omega), up_eq rfl rfl, l3]; exact hL, fun j hj => by rw [g58]; exact (l5 j (by omega)).2.2⟩
  have R3 : TR ρ3 (σ 16) L (blk (σ 16) L 0) := ⟨RB3, by rw [g57 7 (by omega) (by omega), hρ1, up_eq rfl rfl], 0, by rw [g57 4 (by omega) (by omega), hρ1, up_ne (by omega), up_eq rfl rfl]; rfl, by omega, rfl⟩
  obtain ⟨ρ4, b1, b2, b3⟩ := R3.blanks (n := 1000) T (by decide)
  have hR : ∀ Q : Int × SG → Prop, wp (((iter 1000 (fun s : SG => X12_sea_l53 1000 s) ρ4) : Option (SG)).bind (fun s => X12_sea_e53 1000 s)) Q → wp (X12_sea 1000 ρ) Q := fun Q hQ => by
    unfold X12_sea X12_begins
    refine wp_lt (wp_bind (wp_lt (wp_lt (wp_lt (wp_lt (wp_some ?_))))))
    rw [show up ρ 57 0 0 57 2 = ρ 57 2 from up_ne (by omega), ← hρ1]
    refine wp_bind (wp_of z1 ?_)
    unfold X12_sea_e11
    refine wp_rdI 2 rfl (by decide) (by decide) (wp_lt (wp_lt (wp_lt ?_)))
    rw [← hρ3]
    exact wp_bind (wp_of b1 hQ)
  -- together
  have E2 : ∀ c j, c ≠ 15 → σ2 c j = σ1 c j := fun c j hc => by rw [a3 c j (by omega), up_ne (by omega)]
  have D : SeaD σ2 ρ4 S 0 0 := by
    refine ⟨⟨by omega, by omega, ?_, ?_, ?_, ?_⟩, ⟨?_, ?_, ?_⟩, ⟨?_, ?_, ?_⟩, fun s hs => absurd hs (by omega), fun w hw => absurd hw (by omega), ⟨?_, Or.inl ?_⟩, ⟨?_, Or.inl ?_⟩, ?_, hS⟩
    · rw [E2 S 5 (by omega), hσ1]; simp (disch := omega) only [up_eq, up_ne]; rfl
    · rw [E2 S 6 (by omega), hσ1]; simp (disch := omega) only [up_eq, up_ne]; rfl
    · rw [b2 61 0 (by omega), hρ3, up_ne (by omega), up_ne (by omega), up_ne (by omega)]; exact z2 0 (by decide)
    · rw [b2 61 1 (by omega), hρ3, up_ne (by omega), up_ne (by omega), up_ne (by omega)]; exact z2 1 (by decide)
    · rw [b2 61 2 (by omega), hρ3, up_ne (by omega), up_ne (by omega), up_eq rfl rfl, E2 S 7 (by omega), hσ1]; simp (disch := omega) only [up_eq, up_ne]
    · rw [E2 S 7 (by omega), hσ1]; simp (disch := omega) only [up_eq, up_ne]; decide
    · rw [E2 S 7 (by omega), hσ1]; simp (disch := omega) only [up_eq, up_ne]; decide
    · rw [b2 61 3 (by omega), hρ3, up_ne (by omega), up_ne (by omega), up_ne (by omega), z2 3 (by decide), E2 S 8 (by omega), hσ1]; simp (disch := omega) only [up_eq, up_ne]
    · rw [E2 S 8 (by omega), hσ1]; simp (disch := omega) only [up_eq, up_ne]; decide
    · rw [E2 S 8 (by omega), hσ1]; simp (disch := omega) only [up_eq, up_ne]; decide
    · rw [b2 57 12 (by omega), hρ3, up_ne (by omega), up_eq rfl rfl, E2 17 2 (by omega), hσ1]; simp (disch := omega) only [up_eq, up_ne]
    · rw [E2 17 2 (by omega), hσ1]; simp (disch := omega) only [up_eq, up_ne]
    · rw [b2 57 13 (by omega), hρ3, up_eq rfl rfl, E2 17 3 (by omega), hσ1]; simp (disch := omega) only [up_eq, up_ne]
    · rw [E2 17 3 (by omega), hσ1]; simp (disch := omega) only [up_eq, up_ne]
    · rw [E2 17 1 (by omega), hσ1]; simp (disch := omega) only [up_eq, up_ne]
  have hb0 := (blk_b (B := σ 16) (show 0 ≤ L by omega)).2
  obtain ⟨r, ρ5, i1, i2, i3⟩ := seaLoop (S := S) (σ0 := σ2) (ρ0 := ρ4) T (n := 1000) (by decide) L 0 σ2 ρ4 (blk (σ 16) L 0) 0 0 (by omega) (by omega) P b3 D FsC.rf FsR.rf 1000 1000 (by omega) (by omega)
  have fC : FsC S (up σ 17 1 (S : Int)) σ2 := fun c j q1 q2 q3 => by
    rw [a3 c j (by omega), up_ne (by omega), hσ1]
    simp (disch := omega) only [up_ne]
  have fR : ∀ ρ', FsR ρ4 ρ' → ∀ c j, ¬ (c = 57 ∧ (j < 8 ∨ j = 12 ∨ j = 13)) → c ≠ 61 → ρ' c j = ρ c j := fun ρ' f c j q1 q2 => by
    rw [f c j (by omega) q2, b2 c j (by omega), hρ3, up_ne (by omega), up_ne (by omega), up_ne (by omega), z3 c j q2, hρ1]
    simp (disch := omega) only [up_ne]
  have f2 : ∀ ρ', FsR ρ4 ρ' → ρ' 57 2 = 0 ∧ ρ' 57 0 = 0 := fun ρ' f => by
    refine ⟨?_, ?_⟩
    · rw [f 57 2 (by omega) (by omega), b2 57 2 (by omega), g57 2 (by omega) (by omega), hρ1, up_ne (by omega), up_ne (by omega), up_eq rfl rfl]
    · rw [f 57 0 (by omega) (by omega), b2 57 0 (by omega), g57 0 (by omega) (by omega), hρ1, up_ne (by omega), up_ne (by omega), up_ne (by omega), up_ne (by omega), up_eq rfl rfl]
  rcases i3 with ⟨σ5, m, q, rfl, P5, R5, D5, c5, r5⟩ | ⟨x, σ5, rfl, F5, c5, r5⟩
  · have h17 : σ5 17 1 = (S : Int) := D5.2.2.2.2.2.2.2.1
    have hm := D5.1.2.2.1
    have hm6 := D5.1.2.2.2.2.1
    have m5 := D5.1.1
    by_cases c : 2 ≤ m
    · refine ⟨-1, σ5, ρ5, of_wp (hC _ (wp_bind (wp_of i1 ?_))), fun Q hQ => hR Q (wp_bind (wp_of i2 ?_)), fC.tr c5, fR ρ5 r5, (f2 ρ5 r5).1, (f2 ρ5 r5).2, Or.inl ⟨rfl, R5.2.1, m, q, c, D5⟩⟩
      · show wp (X7_readInto_e31 1000 σ5) _
        unfold X7_readInto_e31
        exact wp_ckI S h17 (isSea_S hS) (wp_ifT (by rw [hm, w32i (by omega)]; omega) (wp_some rfl))
      · unfold X12_sea_e53
        exact wp_bind (wp_of R5.tr.hf (wp_bind (wp_ifT rfl (wp_rdI 0 rfl (by decide) (by decide) (wp_ifT (by rw [hm6, w32i (by omega)]; omega) (wp_some hQ))))))
    · obtain ⟨ρ6, u1, u2, u3⟩ := R5.fails (n := 1000) T
      refine ⟨(L : Int), σ5, ρ6, of_wp (hC _ (wp_bind (wp_of i1 ?_))), fun Q hQ => hR Q (wp_bind (wp_of i2 ?_)), fC.tr c5, fR ρ6 (r5.tr u2.s), (f2 ρ6 (r5.tr u2.s)).1, (f2 ρ6 (r5.tr u2.s)).2, Or.inr ⟨u3.2.2.1, u3.2.2.2.1, u3.2.1⟩⟩
      · show wp (X7_readInto_e31 1000 σ5) _
        unfold X7_readInto_e31
        exact wp_ckI S h17 (isSea_S hS) (wp_ifF (by rw [hm, w32i (by omega)]; omega) (wp_some (by rw [P5.2.2.2.1])))
      · unfold X12_sea_e53
        exact wp_bind (wp_of R5.tr.hf (wp_bind (wp_ifT rfl (wp_rdI 0 rfl (by decide) (by decide) (wp_ifF (by rw [hm6, w32i (by omega)]; omega) (wp_bind (wp_of u1 (wp_some hQ))))))))
  · refine ⟨x, σ5, ρ5, of_wp (hC _ (wp_bind (wp_of i1 (wp_some rfl)))), fun Q hQ => hR Q (wp_bind (wp_of i2 ?_)), fC.tr c5, fR ρ5 r5, (f2 ρ5 r5).1, (f2 ρ5 r5).2, Or.inr ⟨F5.2.2.1, F5.2.2.2.1, F5.2.1⟩⟩
    unfold X12_sea_e53
    exact wp_bind (wp_of F5.hf (wp_bind (wp_ifF (by decide) (wp_some hQ))))
theorem G_2 {σ ρ : SG} {S J m q : Nat} (hT : ITape σ ρ) (R : Rl σ ρ S J m q) (I : IJud σ ρ J) : wp (X11_sea 1000 σ) (fun r => wp (X12_sea 1000 ρ) (PC [2] σ ρ Tv r)) := by
  obtain ⟨hS, hJ, hU, hUJ, h00, h01, hC⟩ := R.use
  obtain ⟨T, hTS⟩ : ∃ T : Nat, T = 21 - S := ⟨_, rfl⟩
  have hS' : T = 1 ∨ T = 20 := by omega
  have h0T : σ 0 0 = (T : Int) := by
    rw [h00, hTS]
    rcases hS with rfl | rfl <;> decide
  obtain ⟨v, σ1, ρ1, e1, e2, fC, fR, g2, g0, out⟩ := seaRead_ok hS' hT
  have fC' : ∀ c j, ¬ (c = 15 ∧ 2 ≤ j ∧ j ≤ 5) → c ≠ 17 → ¬ (T ≤ c ∧ c ≤ T + 5) → σ1 c j = σ c j := fun c j q1 q2 q3 => by
    rw [fC c j q1 (by omega) (by omega), up_ne (by omega)]
  have hgo : ∀ Q : ((Nat × Int) × SG) → Prop, wp (if w32 v = (-1) then ckR isSea ((up (up σ1 0 5 v) 15 1 0) 19 0) fun k7 => ckR isSea ((up (up σ1 0 5 v) 15 1 0) 0 0) fun k8 => lt (up (up (up σ1 0 5 v) 15 1 0) 19 0 ((k8 : Nat) : Int)) fun σ9 => lt (up σ9 0 0 ((k7 : Nat) : Int)) fun σ10 => (X1_begin 1000 σ10).bind fun σ12 => ckR isSea (σ12 19 0) fun k13 => some (((0, (σ12 k13 6)), σ12)) else some (((2, 0), (up (up σ1 0 5 v) 15 1 0)))) Q → wp (X11_sea 1000 σ) Q := fun Q hQ => by
    unfold X11_sea
    refine wp_ckI T h0T (isSea_S hS') (wp_bnd2 (wp_of e1 (wp_lt (wp_lt ?_))))
    dsimp only
    rw [show up (up σ1 0 5 v) 15 1 0 0 5 = v by rw [up_ne (by omega), up_eq rfl rfl]]
    exact hQ
  rcases out with ⟨rfl, g7, m', q', hm2, D⟩ | ⟨v1, v2, g7⟩
  · obtain ⟨⟨m5, q20, d1, d2, d3, d4⟩, ⟨h1, h2, h3⟩, ⟨a1, a2, a3⟩, dS, dW, -, -, -, -⟩ := D
    -- the reference's copy
    obtain ⟨ρ2, hρ2⟩ : ∃ y, y = up ρ1 57 8 (-1) := ⟨_, rfl⟩
    have hcp : wp (iter 1000 (fun s : Int × SG => X12_sea_l127 1000 s.1 s.2) (0, ρ2)) (fun ρ' => (∀ j, j < 144 → ρ' 60 j = ρ1 61 j) ∧ ∀ c j, c ≠ 60 → ρ' c j = ρ2 c j) := by
      refine wp_loop (fun k (z : Int × SG) => z.1 = (k : Int) ∧ (∀ j, j < k → z.2 60 j = ρ1 61 j) ∧ ∀ c j, c ≠ 60 → z.2 c j = ρ2 c j) 144 ?_ ⟨rfl, fun j hj => absurd hj (by omega), fun _ _ _ => rfl⟩ (by decide)
      rintro k ⟨z1, τ⟩ hk ⟨x1, x2, x3⟩
      obtain rfl : z1 = (k : Int) := x1
      have x3 : ∀ c j, c ≠ 60 → τ c j = ρ2 c j := x3
      dsimp only
      unfold X12_sea_l127
      by_cases c : k = 144
      · subst c
        exact wp_ifT (by decide) (wp_some (Or.inr ⟨_, rfl, x2, x3⟩))
      · refine wp_ifF (by rw [w32i (by omega)]; omega) (wp_rdn (by omega) (by omega) (wp_rdn (by omega) (by omega) (wp_lt (wp_lt (wp_some (Or.inl ⟨_, rfl, by omega, by simp only []; omega, fun j hj => ?_, fun c j hc => ?_⟩))))))
        · dsimp only
          by_cases q : j = k
          · rw [q, up_eq rfl rfl, x3 61 k (by decide), hρ2, up_ne (by omega)]
          · rw [up_ne (by omega)]
            exact x2 j (by omega)
        · dsimp only
          rw [up_ne (by omega)]
          exact x3 c j hc
    obtain ⟨ρ3, c1, c2, c3⟩ := hcp
    obtain ⟨ρ4, hρ4⟩ : ∃ y, y = up ρ3 57 11 1 := ⟨_, rfl⟩
    obtain ⟨σ2, hσ2⟩ : ∃ y, y = up (up (up (up σ1 0 5 (-1)) 15 1 0) 19 0 (T : Int)) 0 0 (S : Int) := ⟨_, rfl⟩
    have E2 : ∀ c j, ¬ (c = 0 ∧ (j = 0 ∨ j = 5)) → ¬ (c = 15 ∧ j = 1) → ¬ (c = 19 ∧ j = 0) → σ2 c j = σ1 c j := fun c j q1 q2 q3 => by rw [hσ2]; simp (disch := omega) only [up_ne]
    have G4 : ∀ c j, c ≠ 60 → ¬ (c = 57 ∧ (j = 8 ∨ j = 11)) → ρ4 c j = ρ1 c j := fun c j q1 q2 => by rw [hρ4, up_ne (by omega), c3 c j q1, hρ2, up_ne (by omega)]
    have G60 : ∀ j, j < 144 → ρ4 60 j = ρ1 61 j := fun j hj => by rw [hρ4, up_ne (by omega)]; exact c2 j hj
    have hst : ∀ s : Nat, s < 5 → σ2 34 s = σ 34 s ∧ σ2 (39 + 2 * s) 0 = σ (39 + 2 * s) 0 := fun s hs => ⟨by rw [E2 34 s (by omega) (by omega) (by omega), fC' 34 s (by omega) (by omega) (by omega)], by rw [E2 _ 0 (by omega) (by omega) (by omega), fC' _ 0 (by omega) (by omega) (by omega)]⟩
    have I0 : Sea0 σ2 ρ4 T J m' q' := by
      refine ⟨⟨hS', hJ, ?_, ?_, ?_, ?_, fun s hs => ?_⟩, ⟨⟨?_, ?_, ?_, ?_, ?_, ?_, ?_, ?_, ?_⟩, m5, q20, Or.inl ⟨?_, hm2, ?_⟩⟩, fun s hs => ?_, fun w hw => ?_⟩
      · rw [hσ2]; simp (disch := omega) only [up_eq, up_ne]
      · rw [E2 19 1 (by omega) (by omega) (by omega), fC' 19 1 (by omega) (by omega) (by omega)]; exact hUJ
      · rw [hσ2, up_eq rfl rfl]; omega
      · rw [E2 0 1 (by omega) (by omega) (by omega), fC' 0 1 (by omega) (by omega) (by omega)]; exact h01
      · rw [(hst s hs).1, (hst s hs).2]; exact hC s hs
      · rw [E2 T 5 (by omega) (by omega) (by omega)]; exact d1
      · rw [E2 T 6 (by omega) (by omega) (by omega)]; exact d2
      · rw [G60 0 (by decide)]; exact d3
      · rw [G60 1 (by decide)]; exact d4
      · rw [G60 3 (by decide), E2 T 8 (by omega) (by omega) (by omega)]; exact a1
      · rw [E2 T 8 (by omega) (by omega) (by omega)]; exact a2
      · rw [E2 T 8 (by omega) (by omega) (by omega)]; exact a3
      · rw [E2 T 7 (by omega) (by omega) (by omega)]; exact h2
      · rw [E2 T 7 (by omega) (by omega) (by omega)]; exact h3
      · rw [hρ4, up_eq rfl rfl]
      · rw [G60 2 (by decide), E2 T 7 (by omega) (by omega) (by omega)]; exact h1
      · exact (dS s hs).cgj (by omega) (fun i i1 i2 => funext fun j => E2 _ j (by omega) (by omega) (by omega)) (fun j hj => by rw [shf_60]; exact G60 j hj)
      · exact (dW w hw).cgj (by omega) (fun i i1 i2 => funext fun j => E2 _ j (by omega) (by omega) (by omega)) (fun j hj => by rw [shf_60]; exact G60 j hj)
    obtain ⟨σ3, ρ5, b1, b2, b3, b4, b5⟩ := begins_ok (n := 1000) (n' := 1000) I0 (by decide) (by decide)
    have h12 : σ3 19 0 = (T : Int) := b3.use.2.2.1
    have hq6 : σ3 T 6 = (q' : Int) := b3.num.1.2.1
    have hr6 : ρ5 60 1 = (q' : Int) := b3.num.1.2.2.2.1
    have E3 : ∀ c j, ¬ (c = 0 ∧ (j = 0 ∨ j = 5)) → ¬ (c = 15 ∧ 1 ≤ j ∧ j ≤ 5) → c ≠ 17 → c ≠ 19 → ¬ (T ≤ c ∧ c ≤ T + 5) → c ≠ 35 → (c < 39 ∨ 48 ≤ c) → σ3 c j = σ c j := fun c j q1 q2 q3 q4 q5 q6 q7 => by
      rw [b4 c j (by omega) (by omega) (by omega), E2 c j q1 (by omega) (by omega), fC' c j (by omega) q3 q5]
    have G5 : ∀ c j, c ≠ 60 → c ≠ 61 → ¬ (c = 57 ∧ (j ≤ 13 ∨ 25 ≤ j)) → ¬ (68 ≤ c ∧ c ≤ 72) → c ≠ 78 → ρ5 c j = ρ c j := fun c j q1 q2 q3 q4 q5 => by
      rw [b5 c j q4 q5 (by omega), G4 c j q1 (by omega), fR c j (by omega) q2]
    refine hgo _ (wp_ifT (by decide) (wp_ckI S (by rw [up_ne (by omega), up_ne (by omega), fC' 19 0 (by omega) (by omega) (by omega)]; exact hU) (isSea_S hS) (wp_ckI T (by rw [up_ne (by omega), up_ne (by omega), fC' 0 0 (by omega) (by omega) (by omega)]; omega) (isSea_S hS') (wp_lt (wp_lt ?_)))))
    rw [← hσ2]
    refine wp_bind (wp_of b1 (wp_ckI T h12 (isSea_S hS') (wp_some (e2 _ ?_))))
    unfold X12_sea_j103
    rw [g7]
    refine wp_lt (wp_bind (wp_of (hf0 (by rw [up_ne (by omega)]; exact g7)) (wp_bnd2 (wp_th0 (wp_ifT rfl ?_)))))
    dsimp only
    rw [← hρ2]
    refine wp_bind (wp_of c1 ?_)
    unfold X12_sea_e127
    refine wp_lt ?_
    rw [← hρ4]
    refine wp_bind (wp_of b2 (wp_rdI 1 rfl (by decide) (by decide) (wp_some (PC.ok (fun k hk1 hk2 => funext fun j => E3 k j (by omega) (by omega) (by omega) (by omega) (by omega) (by omega) (by omega)) ⟨fun k hk => funext fun j => G5 k j (by omega) (by omega) (by omega) (by omega) (by omega), funext fun j => G5 84 j (by omega) (by omega) (by omega) (by omega) (by omega)⟩ ⟨⟨?_, ?_, ?_, ?_, fun j hj => ?_⟩, T, J, m', q', b3, ?_⟩ ?_ ?_))))
    · rw [b4 15 1 (by omega) (by omega) (by omega), hσ2]; simp (disch := omega) only [up_eq, up_ne]; decide
    · rw [b4 15 1 (by omega) (by omega) (by omega), hσ2]; simp (disch := omega) only [up_eq, up_ne]; decide
    · rw [b5 57 2 (by omega) (by omega) (by omega), G4 57 2 (by omega) (by omega), g2, b4 15 1 (by omega) (by omega) (by omega), hσ2]; simp (disch := omega) only [up_eq, up_ne]
    · rw [b5 57 8 (by omega) (by omega) (by omega), hρ4, up_ne (by omega), c3 57 8 (by omega), hρ2, up_eq rfl rfl, b4 0 5 (by omega) (by omega) (by omega), hσ2]; simp (disch := omega) only [up_eq, up_ne]
    · rw [b4 15 1 (by omega) (by omega) (by omega), hσ2] at hj
      simp (disch := omega) only [up_eq, up_ne] at hj
      omega
    · refine I.ag hJ (fun a j d => ?_) (fun a j d => ?_)
      · have := depJ_cases d
        exact E3 a j (by omega) (by omega) (by omega) (by omega) (by omega) (by omega) (by omega)
      · have := depJ_cases d
        exact G5 a j (by omega) (by omega) (by omega) (by omega) (by omega)
    · rw [b5 57 0 (by omega) (by omega) (by omega), G4 57 0 (by omega) (by omega), g0]
    · rw [hq6, hr6]
  · refine hgo _ (wp_ifF (by rw [w32i (by omega)]; omega) (wp_some (e2 _ ?_)))
    unfold X12_sea_j103
    rw [g7]
    refine wp_lt (wp_bind (wp_of (hf1 (x := v) (by rw [up_ne (by omega)]; exact g7) ⟨v1, v2⟩) (wp_bnd2 (wp_th1 (wp_ifF (by dsimp only; decide) (wp_some ?_))))))
    dsimp only
    have E3 : ∀ c j, ¬ (c = 0 ∧ j = 5) → ¬ (c = 15 ∧ 1 ≤ j ∧ j ≤ 5) → c ≠ 17 → ¬ (T ≤ c ∧ c ≤ T + 5) → up (up σ1 0 5 v) 15 1 0 c j = σ c j := fun c j q1 q2 q3 q4 => by rw [up_ne (by omega), up_ne (by omega)]; exact fC' c j (by omega) q3 q4
    have G5 : ∀ c j, c ≠ 61 → ¬ (c = 57 ∧ (j ≤ 8 ∨ j = 12 ∨ j = 13)) → up (up ρ1 57 8 v) 57 0 1 c j = ρ c j := fun c j q1 q2 => by rw [up_ne (by omega), up_ne (by omega)]; exact fR c j (by omega) q1
    refine PC.ex (by decide) (by decide) (fun k hk1 hk2 => funext fun j => E3 k j (by omega) (by omega) (by omega) (by omega)) ⟨fun k hk => funext fun j => G5 k j (by omega) (by omega), funext fun j => G5 84 j (by omega) (by omega)⟩ ⟨⟨?_, ?_, ?_, ?_, fun j hj => ?_⟩, S, J, m, q, R.fr (fun c j h => E3 c j (by omega) (by omega) (by omega) (by omega)) (fun c j h => G5 c j (by omega) (by omega)), ?_⟩ ?_
    · rw [up_eq rfl rfl]; decide
    · rw [up_eq rfl rfl]; decide
    · rw [up_ne (by omega), up_ne (by omega), g2, up_eq rfl rfl]
    · rw [up_ne (by omega), up_eq rfl rfl, up_ne (by omega), up_eq rfl rfl]
    · rw [up_eq rfl rfl] at hj
      omega
    · refine I.ag hJ (fun a j d => ?_) (fun a j d => ?_)
      · have := depJ_cases d
        exact E3 a j (by omega) (by omega) (by omega) (by omega)
      · have := depJ_cases d
        exact G5 a j (by omega) (by omega)
    · rw [up_eq rfl rfl]; rfl
