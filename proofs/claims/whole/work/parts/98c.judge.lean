/-! ===== the judge's text, whole ===== -/
theorem JD2.cg {σ ρ σ' ρ' : SG} {T st cd l : Nat} (h : JD2 σ ρ T st cd l) (a : ∀ c j, T ≤ c ∧ c ≤ T + 5 → σ' c j = σ c j) (b : ρ' 57 19 = ρ 57 19) (b5 : ρ' 65 = ρ 65) (b3 : ρ' 63 = ρ 63) : JD2 σ' ρ' T st cd l := by
  obtain ⟨⟨h1, h2, h3, h4, h5⟩, h6⟩ := h
  have r : ∀ i, i ≤ 5 → σ' (T + i) = σ (T + i) := fun i hi => funext fun j => a _ j (by omega)
  refine ⟨⟨h1, (a T 6 (by omega)).trans h2, b.trans h3, fun q => (a _ l (by omega)).trans (h4 q), fun i hi => ?_⟩, fun j hj => by rw [b5]; exact h6 j hj⟩
  have := h5 i hi
  unfold ILine at *
  rw [shj_64, shj_62] at this
  rw [shj_64, shj_62, r 1 (by decide), r 2 (by decide), r 3 (by decide), r 4 (by decide), r 5 (by decide), b5, b3]
  exact this
theorem ILine.fin {σ ρ σ' ρ' : SG} {T st cd l i : Nat} (h : ILine σ (shj ρ) T st i) (hi : i < l) (r : ∀ i, i ≤ 5 → σ' (T + i) = σ (T + i)) (g5 : ∀ j, j < 4 * l → ρ' 64 j = ρ 65 j) (g3 : ∀ j, j < cd → ρ' 62 j = ρ 63 j) (hcd : ∀ j, j < l → ρ 65 (4 * j + 3) ≤ (cd : Int)) : ILine σ' ρ' T st i := by
  obtain ⟨a, m, b, a', m', b', d, h1, h2, h3, h4, h5, h6, h7, h8, h9, h10, h11, h12, h13, h14⟩ := h
  rw [shj_64] at h6 h7 h8 h11
  rw [shj_62] at h13 h14
  have hb' := hcd i hi
  unfold ILine
  rw [r 1 (by decide), r 2 (by decide), r 3 (by decide), r 4 (by decide), r 5 (by decide), g5 (4 * i) (by omega), g5 (4 * i + 1) (by omega), g5 (4 * i + 2) (by omega), g5 (4 * i + 3) (by omega)]
  refine ⟨a, m, b, a', m', b', d, h1, h2, h3, h4, h5, h6, h7, h8, h9, h10, h11, h12, h13.cg (fun j j1 j2 => g3 j (by omega)), ?_⟩
  rcases h14 with h14 | ⟨c, c1, c2, c3⟩
  · exact Or.inl h14
  · exact Or.inr ⟨c, c1, c2, c3.cg (fun j j1 j2 => g3 j (by omega))⟩
def JuL (B : Nat → Int) (L T : Nat) (σ0 ρ0 : SG) (x : Int) (σ' ρ' : SG) : Prop := FlC T σ0 σ' ∧ FlR ρ0 ρ' ∧ ((x = -1 ∧ ∃ st cd l, JS σ' ρ' B L T L st cd 0 ∧ JD2 σ' ρ' T st cd l ∧ 0 < l) ∨ FR ρ' B L x ∨ ∃ b : Nat, x = (b : Int) ∧ b < L ∧ TR ρ' B L b)
theorem judgeLoop {T : Nat} {σ0 ρ0 : SG} {B : Nat → Int} {L n : Nat} (hT : Txt B L) (hn : 500 < n) : ∀ (d l : Nat) (σ ρ : SG) (b st cd : Nat), 10 - l < d → JS σ ρ B L T b st cd 0 → JD2 σ ρ T st cd l → FlC T σ0 σ → FlR ρ0 ρ → ∀ n1 n2, d < n1 → d < n2 → ∃ (x : Int) (σ' ρ1 ρ' : SG), iter n1 (fun s : Int × SG => X3_readInto_l21 n s.1 s.2) ((l : Int), σ) = some (.inr (x, σ')) ∧ X12_judgeLine n ρ = some ρ1 ∧ iter n2 (fun s : SG => X12_judge_l28 n s) ρ1 = some ρ' ∧ JuL B L T σ0 ρ0 x σ' ρ' := by
  intro d
  induction d with
  | zero => intro l σ ρ b st cd hd; omega
  | succ d ih =>
    intro l σ ρ b st cd hd J D fC fR n1 n2 h1 h2
    obtain ⟨a, rfl⟩ : ∃ a, n1 = a + 1 := ⟨n1 - 1, by omega⟩
    obtain ⟨c, rfl⟩ : ∃ c, n2 = c + 1 := ⟨n2 - 1, by omega⟩
    have hL := hT.1
    have hl := D.1.1
    have k400 : ¬ 400 ≤ w32 (l : Int) := by rw [w32i (by omega)]; omega
    obtain ⟨v, σ1, ρ1, e1, e2, kC, kR, O⟩ := jline_ok (n := n) J D hT hn
    have rstop : ∀ (v44 : Int) (ρ2 : SG), X12_takes n 59 ρ1 = some (v44, ρ2) → v44 = 0 → iter (c + 1) (fun s : SG => X12_judge_l28 n s) ρ1 = some ρ2 := fun v44 ρ2 hv h0 => iter_r (f := fun s : SG => X12_judge_l28 n s) (a := ρ1) (of_wp (by
      unfold X12_judge_l28
      refine wp_bnd2 (wp_of hv (wp_ifT (by rw [h0]; rfl) (wp_some rfl)))))
    rcases O with ⟨rfl, F1⟩ | ⟨rfl, b', st', cd', hb', J', D'⟩
    · obtain ⟨ρ2, u1, u2, u3⟩ := F1.takes (n := n) (c := 59) hT hn
      refine ⟨σ1 15 3, σ1, ρ1, ρ2, iter_r (f := fun s : Int × SG => X3_readInto_l21 n s.1 s.2) (a := ((l : Int), σ)) (of_wp ?_), e2, rstop _ _ u1 rfl, fC.tr kC, fR.tr (kR.tr u2.l), Or.inr (Or.inl u3)⟩
      unfold X3_readInto_l21
      exact wp_ifF k400 (wp_bnd2 (wp_of e1 (wp_ifT rfl (wp_some rfl))))
    · obtain ⟨P', R', -⟩ := id J'
      have hbL := P'.2.2.1
      obtain ⟨ρ2, u1, u2, u3⟩ := R'.takes (n := n) (c := 59) hT isg_59 hn
      have D2 : JD2 σ1 ρ2 T st' cd' (l + 1) := D'.cg (fun _ _ _ => rfl) (u2 57 19 (by omega)) (funext fun j => u2 65 j (by omega)) (funext fun j => u2 63 j (by omega))
      by_cases hq : b' = L
      · have hs : sgB B L b' 59 = false := by
          cases hs : sgB B L b' 59
          · rfl
          · have := (sg_nx isg_59 hs).1
            omega
        rw [hs] at u1
        rw [hs, if_neg (by decide)] at u3
        have J2 := J'.mv FrT.rf u2 P' u3.tr (Nat.le_refl _)
        rw [hq] at J2
        refine ⟨-1, σ1, ρ1, ρ2, iter_r (f := fun s : Int × SG => X3_readInto_l21 n s.1 s.2) (a := ((l : Int), σ)) (of_wp ?_), e2, rstop _ _ u1 rfl, fC.tr kC, fR.tr (kR.tr u2.l), Or.inl ⟨rfl, st', cd', l + 1, J2, D2, by omega⟩⟩
        unfold X3_readInto_l21
        refine wp_ifF k400 (wp_bnd2 (wp_of e1 (wp_ifF (by dsimp only; decide) (wp_ifT ?_ (wp_some rfl)))))
        dsimp only
        rw [P'.2.2.2.2.1, hq, (kd_0 (Nat.le_refl _)).1]
        rfl
      · have hkd : ¬ w32 (σ1 15 2) = 0 := by
          rw [P'.2.2.2.2.1]
          rcases kd_c (B := B) hbL with ⟨q1, q2, -⟩ | ⟨q1, -⟩ | ⟨q1, -⟩ | ⟨q1, -⟩
          · omega
          · rw [q1]; decide
          · rw [q1]; decide
          · rw [q1]; decide
        obtain ⟨σ2, g1, g2, P2⟩ := P'.passSign (n := n) (c := 59) hT isg_59 hn
        cases hs : sgB B L b' 59
        · rw [hs] at u1 g1
          rw [hs, if_neg (by decide)] at u3 P2
          refine ⟨σ2 15 3, σ2, ρ1, ρ2, iter_r (f := fun s : Int × SG => X3_readInto_l21 n s.1 s.2) (a := ((l : Int), σ)) (of_wp ?_), e2, rstop _ _ u1 rfl, fC.tr (kC.tr g2.l), fR.tr (kR.tr u2.l), Or.inr (Or.inr ⟨b', P2.2.2.2.1, by omega, u3.tr⟩)⟩
          unfold X3_readInto_l21
          exact wp_ifF k400 (wp_bnd2 (wp_of e1 (wp_ifF (by dsimp only; decide) (wp_ifF hkd (wp_bnd2 (wp_of g1 (wp_ifT rfl (wp_some rfl))))))))
        · rw [hs] at u1 g1
          rw [hs, if_pos rfl] at u3 P2
          have nb := nx_b (B := B) hbL
          have tb := te_b (B := B) hbL
          have hl1 := D'.1.1
          obtain ⟨x, σ', ρ3, ρ', i1, i2, i3, i4⟩ := ih (l + 1) σ2 ρ2 (nx B L b') st' cd' (by omega) (J'.mv g2 u2 P2 u3 (by omega)) (D2.cg (fun c j hc => g2 c j (by have := J'.2.2.2.1; omega)) rfl rfl rfl) (fC.tr (kC.tr g2.l)) (fR.tr (kR.tr u2.l)) a c (by omega) (by omega)
          refine ⟨x, σ', ρ1, ρ', ?_, e2, ?_, i4⟩
          · refine (iter_l (f := fun s : Int × SG => X3_readInto_l21 n s.1 s.2) (a := ((l : Int), σ)) (a' := (((l + 1 : Nat) : Int), σ2)) (of_wp ?_)).trans i1
            unfold X3_readInto_l21
            refine wp_ifF k400 (wp_bnd2 (wp_of e1 (wp_ifF (by dsimp only; decide) (wp_ifF hkd (wp_bnd2 (wp_of g1 (wp_ifF (by dsimp only; decide) (wp_lt (wp_some ?_)))))))))
            rw [show (l : Int) + 1 = ((l + 1 : Nat) : Int) by omega]
          · refine (iter_l (f := fun s : SG => X12_judge_l28 n s) (a := ρ1) (a' := ρ3) (of_wp ?_)).trans i3
            unfold X12_judge_l28
            exact wp_bnd2 (wp_of u1 (wp_ifF (by dsimp only; decide) (wp_bind (wp_of i2 (wp_some rfl)))))
/-- the class reads, the reference reads -/
def JudO (T : Nat) (σ ρ : SG) (v : Int) (σ' ρ' : SG) : Prop := FlC T σ σ' ∧ (∀ c j, ¬ (c = 57 ∧ (j < 8 ∨ j = 19 ∨ j = 20 ∨ j = 21)) → c ≠ 63 → c ≠ 65 → ρ' c j = ρ c j) ∧ ρ' 57 2 = 0 ∧ ρ' 57 0 = 0 ∧ ((v = -1 ∧ ρ' 57 7 = -1 ∧ ∃ st cd l : Nat, JD2 σ' ρ' T st cd l ∧ 0 < l ∧ st ≤ 400 ∧ cd ≤ 400 ∧ σ' T 2 = (st : Int) ∧ ρ' 57 20 = (cd : Int)) ∨ (0 ≤ v ∧ v ≤ 400 ∧ ρ' 57 7 = v))
theorem judgeRead_ok {σ ρ : SG} {T : Nat} (hS : T = 7 ∨ T = 26) (hT : ITape σ ρ) : ∃ v σ' ρ', X3_readInto 1000 T σ = some (v, σ') ∧ (∀ Q, wp (X12_judge_j70 1000 ρ') Q → wp (X12_judge 1000 ρ) Q) ∧ JudO T (up σ 18 1 (T : Int)) ρ v σ' ρ' := by
  obtain ⟨l1, l2, l3, l4, l5⟩ := hT
  obtain ⟨L, hL⟩ := nat_of l1
  have hTx : Txt (σ 16) L := ⟨by omega, fun j hj => by have := l5 j (by omega); omega⟩
  -- the class's beginning
  obtain ⟨σ1, hσ1⟩ : ∃ y, y = up (up (up σ 18 1 (T : Int)) T 2 0) T 6 0 := ⟨_, rfl⟩
  have s15 : ∀ j, σ1 15 j = σ 15 j := fun j => by rw [hσ1]; simp (disch := omega) only [up_ne]
  have s16 : ∀ j, σ1 16 j = σ 16 j := fun j => by rw [hσ1]; simp (disch := omega) only [up_ne]
  obtain ⟨σ2, a1, P, a3⟩ := adv_ok (σ := up σ1 15 4 0) (B := σ 16) (L := L) (e := 0) (n := 1000) hTx (by rw [up_ne (by omega), s15]; exact hL) (fun j hj => by rw [up_ne (by omega), s16]) (by rw [up_eq rfl rfl]; rfl) (by omega) (by decide)
  have hC : ∀ Q : Int × SG → Prop, wp (((iter 1000 (fun s : Int × SG => X3_readInto_l21 1000 s.1 s.2) (((0 : Nat) : Int), σ2)) : Option ((SG) ⊕ (Int × SG))).bind (orr (fun s => X3_readInto_e21 1000 s))) Q → wp (X3_readInto 1000 T σ) Q := fun Q hQ => by
    unfold X3_readInto X2_clear
    refine wp_lt (wp_ckI T (up_eq rfl rfl) (isJudge_J hS) (wp_bind (wp_lt (wp_lt (wp_some (wp_bind ?_))))))
    rw [← hσ1]
    unfold X10_open
    exact wp_lt (wp_bind (wp_of a1 (wp_some hQ)))
  -- the reference's
  obtain ⟨ρ1, hρ1⟩ : ∃ y, y = up (up (up (up (up ρ 57 0 0) 57 6 (ρ 57 2)) 57 2 0) 57 4 0) 57 7 (-1) := ⟨_, rfl⟩
  obtain ⟨ρ3, hρ3⟩ : ∃ y, y = up (up (up ρ1 57 19 0) 57 20 0) 57 21 0 := ⟨_, rfl⟩
  have g57 : ∀ j, j ≠ 19 → j ≠ 20 → j ≠ 21 → ρ3 57 j = ρ1 57 j := fun j h1 h2 h3 => by rw [hρ3, up_ne (by omega), up_ne (by omega), up_ne (by omega)]
  have g58 : ∀ j, ρ3 58 j = ρ 58 j := fun j => by rw [hρ3, up_ne (by omega), up_ne (by omega), up_ne (by omega), hρ1]; simp (disch := omega) only [up_ne]
  have RB3 : RB ρ3 (σ 16) L := ⟨by rw [g57 6 (by omega) (by omega) (by omega), hρ1, up_ne (by omega), up_ne (by omega), up_ne (by omega), up_eq rfl rfl, l3]; exact hL, fun j hj => by rw [g58]; exact (l5 j (by omega)).2.2⟩
  have R3 : TR ρ3 (σ 16) L (blk (σ 16) L 0) := ⟨RB3, by rw [g57 7 (by omega) (by omega) (by omega), hρ1, up_eq rfl rfl], 0, by rw [g57 4 (by omega) (by omega) (by omega), hρ1, up_ne (by omega), up_eq rfl rfl]; rfl, by omega, rfl⟩
  -- together
  have E2 : ∀ c j, c ≠ 15 → σ2 c j = σ1 c j := fun c j hc => by rw [a3 c j (by omega), up_ne (by omega)]
  have hb0 := (blk_b (B := σ 16) (show 0 ≤ L by omega)).2
  have J0 : JS σ2 ρ3 (σ 16) L T (blk (σ 16) L 0) 0 0 0 := by
    refine ⟨P, R3, ?_, hS, ?_, ?_, ?_, by omega, by omega, by omega⟩
    · rw [E2 18 1 (by omega), hσ1]; simp (disch := omega) only [up_eq, up_ne]
    · rw [E2 T 2 (by omega), hσ1]; simp (disch := omega) only [up_eq, up_ne]; rfl
    · rw [hρ3, up_ne (by omega), up_eq rfl rfl]; rfl
    · rw [hρ3, up_eq rfl rfl]; rfl
  have D0 : JD2 σ2 ρ3 T 0 0 0 := by
    refine ⟨⟨by omega, ?_, ?_, fun h => absurd h (by omega), fun i hi => absurd hi (by omega)⟩, fun j hj => absurd hj (by omega)⟩
    · rw [E2 T 6 (by omega), hσ1, up_eq rfl rfl]; rfl
    · rw [hρ3, up_ne (by omega), up_ne (by omega), up_eq rfl rfl]; rfl
  obtain ⟨x, σ5, ρ4, ρ5, i1, i2, i3, c5, r5, out⟩ := judgeLoop (T := T) (σ0 := σ2) (ρ0 := ρ3) hTx (n := 1000) (by decide) 11 0 σ2 ρ3 (blk (σ 16) L 0) 0 0 (by omega) J0 D0 FlC.rf FlR.rf 1000 1000 (by omega) (by omega)
  have eC : X3_readInto 1000 T σ = some (x, σ5) := of_wp (hC _ (wp_bind (wp_of i1 (wp_some rfl))))
  have hR : ∀ Q : Int × SG → Prop, wp (X12_judge_e28 1000 ρ5) Q → wp (X12_judge 1000 ρ) Q := fun Q hQ => by
    unfold X12_judge X12_begins
    refine wp_lt (wp_bind (wp_lt (wp_lt (wp_lt (wp_lt (wp_some ?_))))))
    rw [show up ρ 57 0 0 57 2 = ρ 57 2 from up_ne (by omega), ← hρ1]
    refine wp_lt (wp_lt (wp_lt ?_))
    rw [← hρ3]
    exact wp_bind (wp_of i2 (wp_bind (wp_of i3 hQ)))
  have fC : FlC T (up σ 18 1 (T : Int)) σ2 := fun c j q1 q2 q3 => by
    rw [a3 c j (by omega), up_ne (by omega), hσ1]
    simp (disch := omega) only [up_ne]
  have fR : ∀ ρ', FlR ρ3 ρ' → ∀ c j, ¬ (c = 57 ∧ (j < 8 ∨ j = 19 ∨ j = 20 ∨ j = 21)) → c ≠ 63 → c ≠ 65 → ρ' c j = ρ c j := fun ρ' f c j q1 q2 q3 => by
    rw [f c j (by omega) q2 q3, hρ3, up_ne (by omega), up_ne (by omega), up_ne (by omega), hρ1]
    simp (disch := omega) only [up_ne]
  have f2 : ∀ ρ', FlR ρ3 ρ' → ρ' 57 2 = 0 ∧ ρ' 57 0 = 0 := fun ρ' f => by
    refine ⟨?_, ?_⟩
    · rw [f 57 2 (by omega) (by omega) (by omega), g57 2 (by omega) (by omega) (by omega), hρ1, up_ne (by omega), up_ne (by omega), up_eq rfl rfl]
    · rw [f 57 0 (by omega) (by omega) (by omega), g57 0 (by omega) (by omega) (by omega), hρ1, up_ne (by omega), up_ne (by omega), up_ne (by omega), up_ne (by omega), up_eq rfl rfl]
  rcases out with ⟨rfl, st, cd, l, J, D, hl⟩ | F | ⟨b, rfl, hb, R⟩
  · obtain ⟨P5, R5, j3, -, j5, j6, j7, j8, j9, -⟩ := J
    obtain ⟨ρ6, u1, u2, u3⟩ := R5.blanks (n := 1000) hTx (by decide)
    refine ⟨-1, σ5, ρ6, eC, fun Q hQ => hR Q ?_, fC.tr c5, fR ρ6 (r5.tr u2.l), (f2 ρ6 (r5.tr u2.l)).1, (f2 ρ6 (r5.tr u2.l)).2, Or.inl ⟨rfl, u3.2.1, st, cd, l, D.cg (fun _ _ _ => rfl) (u2 57 19 (by omega)) (funext fun j => u2 65 j (by omega)) (funext fun j => u2 63 j (by omega)), hl, by omega, by omega, j5, (u2 57 20 (by omega)).trans j6⟩⟩
    unfold X12_judge_e28
    exact wp_bind (wp_of u1 (wp_bind (wp_of u3.tr.hf (wp_bind (wp_ifT rfl (wp_ifT (by rw [u3.1.1, u3.2.2.1]; exact Int.le_refl _) (wp_some hQ)))))))
  · obtain ⟨ρ6, u1, u2, u3⟩ := F.blanks (n := 1000) hTx (by decide)
    refine ⟨x, σ5, ρ6, eC, fun Q hQ => hR Q ?_, fC.tr c5, fR ρ6 (r5.tr u2.l), (f2 ρ6 (r5.tr u2.l)).1, (f2 ρ6 (r5.tr u2.l)).2, Or.inr ⟨u3.2.2.1, u3.2.2.2.1, u3.2.1⟩⟩
    unfold X12_judge_e28
    exact wp_bind (wp_of u1 (wp_bind (wp_of u3.hf (wp_bind (wp_ifF (by decide) (wp_some hQ))))))
  · obtain ⟨ρ6, u1, u2, u3⟩ := R.blanks (n := 1000) hTx (by decide)
    obtain ⟨ρ7, y1, y2, y3⟩ := u3.fails (n := 1000) hTx
    have f7 := r5.tr (u2.tr y2).l
    refine ⟨(b : Int), σ5, ρ7, eC, fun Q hQ => hR Q ?_, fC.tr c5, fR ρ7 f7, (f2 ρ7 f7).1, (f2 ρ7 f7).2, Or.inr ⟨y3.2.2.1, y3.2.2.2.1, y3.2.1⟩⟩
    unfold X12_judge_e28
    exact wp_bind (wp_of u1 (wp_bind (wp_of u3.tr.hf (wp_bind (wp_ifT rfl (wp_ifF (by rw [u3.1.1, u3.2.2.1, w32i (by omega), w32i (by omega)]; omega) (wp_bind (wp_of y1 (wp_some hQ)))))))))
/-! the relation afterwards -/
theorem Rl.fru {σ ρ σ' ρ' : SG} {S J J' m q : Nat} (R : Rl σ ρ S J m q) (u : IUse σ' S J') (a : ∀ c j, (c = 19 ∧ 2 ≤ j) ∨ (S ≤ c ∧ c ≤ S + 5) ∨ (34 ≤ c ∧ c ≤ 48) → σ' c j = σ c j) (b : ∀ c j, (c = 57 ∧ (j = 11 ∨ 25 ≤ j)) ∨ c = 60 ∨ (68 ≤ c ∧ c ≤ 79) → ρ' c j = ρ c j) : Rl σ' ρ' S J' m q := by
  have hS := R.use.1
  have hm := R.num.2.1
  have ra : ∀ k, (S ≤ k ∧ k ≤ S + 5) ∨ (34 ≤ k ∧ k ≤ 48) → σ' k = σ k := fun k h => funext fun j => a k j (by omega)
  have rb : ∀ k, k = 60 ∨ (68 ≤ k ∧ k ≤ 79) → ρ' k = ρ k := fun k h => funext fun j => b k j (by omega)
  have w1 : ∀ s, s < 5 → σ' (39 + 2 * s) = σ (39 + 2 * s) := fun s hs => ra _ (by omega)
  have w2 : ∀ s, s < 5 → σ' (40 + 2 * s) = σ (40 + 2 * s) := fun s hs => ra _ (by omega)
  refine ⟨u, R.num.cg (ra S (by omega)) (rb 60 (by omega)) (b 57 11 (by omega)), fun s hs => (R.seaS hs).cg (fun i _ hi => ra _ (by omega)) (rb 60 (by omega)), fun w hw => (R.seaW hw).cg (fun i _ hi => ra _ (by omega)) (rb 60 (by omega)),
    R.heat.cg (ra _ (by omega)) (fun j _ => a 19 j (by omega)) (fun j h1 _ _ _ _ _ => b 57 j (by omega)), R.row.cg (ra 35 (by omega)) (ra 36 (by omega)) (rb 76 (by omega)) (b 57 34 (by omega)) (b 57 36 (by omega)) (fun s hs => ?_), R.seen.cg (a 19 6 (by omega)) (ra 38 (by omega)) (b 57 33 (by omega)) (rb 77 (by omega)),
    fun s hs => (R.sw hs).cg (w1 s (by omega)) (a 19 12 (by omega)) (a 19 13 (by omega)) (ra _ (by omega)) (fun k h1 h2 _ _ => by rw [rb k (by omega)]), fun s hs => (R.rid hs).cg (by rw [w1 s (by omega)]) (by rw [w1 s (by omega)]) (by rw [w1 s (by omega)]) (w2 s (by omega)) (a 19 12 (by omega)) (a 19 13 (by omega)) (rb 79 (by omega)), ?_,
    R.gone.cg (a 19 12 (by omega)) (a 19 13 (by omega)) (ra 37 (by omega)) (fun s hs => ⟨w2 s (by omega), by rw [w1 s (by omega)]⟩)⟩
  · unfold awy
    rw [w1 s (by omega)]
    exact ⟨Iff.rfl, rfl⟩
  · rw [b 57 30 (by omega), R.bits]
    exact msk_cg (fun s hs => by rw [w1 s (by omega)])
theorem IJud.fr {σ ρ σ' ρ' : SG} {J : Nat} (I : IJud σ ρ J) (a : ∀ c j, J ≤ c ∧ c ≤ J + 5 → σ' c j = σ c j) (b : ∀ c j, (c = 57 ∧ j = 18) ∨ c = 62 ∨ c = 64 → ρ' c j = ρ c j) : IJud σ' ρ' J := by
  obtain ⟨N, st, i1, i2, i3, i4, i5, i6⟩ := I
  have r : ∀ i, i ≤ 5 → σ' (J + i) = σ (J + i) := fun i hi => funext fun j => a _ j (by omega)
  refine ⟨N, st, i1, (a J 6 (by omega)).trans i2, (b 57 18 (by omega)).trans i3, i4, (a J 2 (by omega)).trans i5, fun l hl => ?_⟩
  have := i6 l hl
  unfold ILine at *
  rw [r 1 (by decide), r 2 (by decide), r 3 (by decide), r 4 (by decide), r 5 (by decide), show ρ' 64 = ρ 64 from funext fun j => b 64 j (by omega), show ρ' 62 = ρ 62 from funext fun j => b 62 j (by omega)]
  exact this
