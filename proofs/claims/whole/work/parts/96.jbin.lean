/-! ===== the judge's text: products and sums ===== -/
def binJ (rec : Nat → Int → SG → Option (Int × SG)) (n ri : Nat) (σ5 : SG) (a0 z4 y12 : Int) : Option ((Int × SG) ⊕ ((SG) ⊕ (Int × SG))) := (X10_advance n σ5).bind fun σ15 => bnd2 (rec ri a0 σ15) fun v17 σ18 => if w32 v17 = 0 then some (.inr (.inr (0, σ18))) else ckR isJudge (σ18 18 1) fun k19 => bnd2 (X2_write n k19 y12 0 σ18) fun v21 σ22 => lt (z4 + 1) fun x23 => some (.inl (x23, σ22))
def binL (rec : Nat → Int → SG → Option (Int × SG)) (n : Nat) (c1 c2 k1 k2 : Int) (ri : Nat) (a0 z4 : Int) (σ5 : SG) : Option ((Int × SG) ⊕ ((SG) ⊕ (Int × SG))) := if 400 ≤ w32 z4 then some (.inr (.inl σ5)) else (X10_isSign n c1 σ5).bind fun v9 => if w32 v9 = 0 then (X10_isSign n c2 σ5).bind fun v25 => if w32 v25 = 0 then some (.inr (.inl σ5)) else (X10_isSign n c1 σ5).bind fun v27 => ((if w32 v27 = 0 then some (k2) else some (k1)) : Option (Int)).bind (fun s => binJ rec n ri σ5 a0 z4 s) else (X10_isSign n c1 σ5).bind fun v11 => ((if w32 v11 = 0 then some (k2) else some (k1)) : Option (Int)).bind (fun s => binJ rec n ri σ5 a0 z4 s)
theorem sumL_eq {rec : Nat → Int → SG → Option (Int × SG)} {n : Nat} {a z : Int} {σ : SG} : X3_passSum_l12 rec n a z σ = binL rec n 43 45 2 3 6 a z σ := rfl
theorem prodL_eq {rec : Nat → Int → SG → Option (Int × SG)} {n : Nat} {a z : Int} {σ : SG} : X3_passProduct_l12 rec n a z σ = binL rec n 42 47 4 5 7 a z σ := rfl
def binRj (rec : Nat → SG → Option SG) (n ri : Nat) (y10 : Int) (σ11 : SG) : Option ((Int × SG) ⊕ (SG)) := ((if w32 y10 = (-1) then some (0) else some (1)) : Option (Int)).bind (fun y13 => if w32 y13 = 0 then some (.inl (y13, σ11)) else (rec ri σ11).bind fun σ16 => (X12_codes n y10 σ16).bind fun σ18 => some (.inl (y13, σ18)))
def binR (rec : Nat → SG → Option SG) (n : Nat) (c1 c2 r1 r2 : Int) (ri : Nat) (z3 : Int) (σ4 : SG) : Option ((Int × SG) ⊕ (SG)) := if w32 z3 = 0 then some (.inr σ4) else bnd2 (X12_takes n c1 σ4) fun v8 σ9 => ((if w32 v8 = 0 then bnd2 (X12_takes n c2 σ9) fun v20 σ21 => if w32 v20 = 0 then some (((-1), σ21)) else some ((r2, σ21)) else some ((r1, σ9))) : Option (Int × SG)).bind (fun s => binRj rec n ri s.1 s.2)
theorem sumR_eq {rec : Nat → SG → Option SG} {n : Nat} {z : Int} {σ : SG} : X12_sum_l6 rec n z σ = binR rec n 43 45 20 21 4 z σ := rfl
theorem prodR_eq {rec : Nat → SG → Option SG} {n : Nat} {z : Int} {σ : SG} : X12_product_l6 rec n z σ = binR rec n 42 47 22 23 5 z σ := rfl
theorem FR.binL {ρ : SG} {B : Nat → Int} {L n m ri : Nat} {x c1 c2 r1 r2 : Int} {rec : Nat → SG → Option SG} (h : FR ρ B L x) (hT : Txt B L) (hn : 500 < n) (hm : 1 < m) : ∃ ρ', iter m (fun s : Int × SG => binR rec n c1 c2 r1 r2 ri s.1 s.2) (1, ρ) = some ρ' ∧ FRO ρ B L x ρ' := by
  obtain ⟨a, rfl⟩ : ∃ a, m = a + 1 + 1 := ⟨m - 2, by omega⟩
  obtain ⟨ρ1, e1, e2, e3⟩ := h.takes (n := n) (c := c1) hT hn
  obtain ⟨ρ2, u1, u2, u3⟩ := e3.takes (n := n) (c := c2) hT hn
  have s1 : binR rec n c1 c2 r1 r2 ri 1 ρ = some (.inl (0, ρ2)) := of_wp (by
    unfold binR binRj
    exact wp_ifF (by decide) (wp_bnd2 (wp_of e1 (wp_bind (wp_ifT rfl (wp_bnd2 (wp_of u1 (wp_ifT rfl (wp_some (wp_bind (wp_ifT rfl (wp_some (wp_ifT rfl (wp_some rfl))))))))))))))
  have s2 : binR rec n c1 c2 r1 r2 ri 0 ρ2 = some (.inr ρ2) := of_wp (by
    unfold binR
    exact wp_ifT rfl (wp_some rfl))
  exact ⟨ρ2, (iter_l (f := fun s : Int × SG => binR rec n c1 c2 r1 r2 ri s.1 s.2) (a := (1, ρ)) s1).trans (iter_r (f := fun s : Int × SG => binR rec n c1 c2 r1 r2 ri s.1 s.2) (a := (0, ρ2)) s2), u3, e2.tr u2⟩
/-- which sign stands there; what it is in steps and in codes -/
def pk2 (B : Nat → Int) (L b : Nat) (c1 c2 op1 op2 : Int) : Option (Int × Int) := if sgB B L b c1 = true then some (c1, op1) else if sgB B L b c2 = true then some (c2, op2) else none
theorem binC_no {σ : SG} {B : Nat → Int} {L b n ri : Nat} {c1 c2 k1 k2 a z : Int} {rec : Nat → Int → SG → Option (Int × SG)} (P : TC σ B L b) (hT : Txt B L) (i1 : isg c1) (i2 : isg c2) (h : pk2 B L b c1 c2 k1 k2 = none) : binL rec n c1 c2 k1 k2 ri a z σ = some (.inr (.inl σ)) := by
  unfold pk2 at h
  have a1 := P.isSign (n := n) hT i1
  have a2 := P.isSign (n := n) hT i2
  cases q1 : sgB B L b c1
  · rw [q1, if_neg (by decide)] at h
    cases q2 : sgB B L b c2
    · rw [q1] at a1
      rw [q2] at a2
      refine of_wp ?_
      unfold binL
      exact wp_if (fun _ => wp_some rfl) (fun _ => wp_bind (wp_of a1 (wp_ifT rfl (wp_bind (wp_of a2 (wp_ifT rfl (wp_some rfl)))))))
    · rw [q2, if_pos rfl] at h; cases h
  · rw [q1, if_pos rfl] at h; cases h
theorem binC_go {σ : SG} {B : Nat → Int} {L b n ri : Nat} {c1 c2 k1 k2 c k a z : Int} {rec : Nat → Int → SG → Option (Int × SG)} (P : TC σ B L b) (hT : Txt B L) (i1 : isg c1) (i2 : isg c2) (hz : ¬ 400 ≤ w32 z) (h : pk2 B L b c1 c2 k1 k2 = some (c, k)) : isg c ∧ sgB B L b c = true ∧ (k = k1 ∨ k = k2) ∧ ∀ Q, wp (binJ rec n ri σ a z k) Q → wp (binL rec n c1 c2 k1 k2 ri a z σ) Q := by
  unfold pk2 at h
  have a1 := P.isSign (n := n) hT i1
  have a2 := P.isSign (n := n) hT i2
  cases q1 : sgB B L b c1
  · rw [q1, if_neg (by decide)] at h
    rw [q1] at a1
    cases q2 : sgB B L b c2
    · rw [q2, if_neg (by decide)] at h; cases h
    · rw [q2, if_pos rfl] at h
      rw [q2] at a2
      cases h
      refine ⟨i2, q2, Or.inr rfl, fun Q hQ => ?_⟩
      unfold binL
      exact wp_ifF hz (wp_bind (wp_of a1 (wp_ifT rfl (wp_bind (wp_of a2 (wp_ifF (by decide) (wp_bind (wp_of a1 (wp_bind (wp_ifT rfl (wp_some hQ)))))))))))
  · rw [q1, if_pos rfl] at h
    rw [q1] at a1
    cases h
    refine ⟨i1, q1, Or.inl rfl, fun Q hQ => ?_⟩
    unfold binL
    exact wp_ifF hz (wp_bind (wp_of a1 (wp_ifF (by decide) (wp_bind (wp_of a1 (wp_bind (wp_ifF (by decide) (wp_some hQ))))))))
theorem binR_no {ρ : SG} {B : Nat → Int} {L b n m ri : Nat} {c1 c2 r1 r2 : Int} {rec : Nat → SG → Option SG} (R : TR ρ B L b) (hT : Txt B L) (i1 : isg c1) (i2 : isg c2) (h : pk2 B L b c1 c2 r1 r2 = none) (hn : 500 < n) (hm : 1 < m) : ∃ ρ', iter m (fun s : Int × SG => binR rec n c1 c2 r1 r2 ri s.1 s.2) (1, ρ) = some ρ' ∧ FrK ρ ρ' ∧ TR ρ' B L b := by
  unfold pk2 at h
  obtain ⟨a, rfl⟩ : ∃ a, m = a + 1 + 1 := ⟨m - 2, by omega⟩
  obtain ⟨ρ1, e1, e2, e3⟩ := R.takes (n := n) hT i1 hn
  cases q1 : sgB B L b c1
  · rw [q1, if_neg (by decide)] at h
    rw [q1] at e1
    rw [q1, if_neg (by decide)] at e3
    obtain ⟨ρ2, u1, u2, u3⟩ := e3.tr.takes (n := n) hT i2 hn
    cases q2 : sgB B L b c2
    · rw [q2] at u1
      rw [q2, if_neg (by decide)] at u3
      have s1 : binR rec n c1 c2 r1 r2 ri 1 ρ = some (.inl (0, ρ2)) := of_wp (by
        unfold binR binRj
        exact wp_ifF (by decide) (wp_bnd2 (wp_of e1 (wp_bind (wp_ifT rfl (wp_bnd2 (wp_of u1 (wp_ifT rfl (wp_some (wp_bind (wp_ifT rfl (wp_some (wp_ifT rfl (wp_some rfl))))))))))))))
      have s2 : binR rec n c1 c2 r1 r2 ri 0 ρ2 = some (.inr ρ2) := of_wp (by
        unfold binR
        exact wp_ifT rfl (wp_some rfl))
      exact ⟨ρ2, (iter_l (f := fun s : Int × SG => binR rec n c1 c2 r1 r2 ri s.1 s.2) (a := (1, ρ)) s1).trans (iter_r (f := fun s : Int × SG => binR rec n c1 c2 r1 r2 ri s.1 s.2) (a := (0, ρ2)) s2), e2.tr u2, u3.tr⟩
    · rw [q2, if_pos rfl] at h; cases h
  · rw [q1, if_pos rfl] at h; cases h
theorem binR_go {ρ : SG} {B : Nat → Int} {L b n ri : Nat} {c1 c2 r1 r2 c r : Int} {rec : Nat → SG → Option SG} (R : TR ρ B L b) (hT : Txt B L) (i1 : isg c1) (i2 : isg c2) (hr : ¬ w32 r1 = -1 ∧ ¬ w32 r2 = -1) (h : pk2 B L b c1 c2 r1 r2 = some (c, r)) (hn : 500 < n) : ∃ ρ1, FrK ρ ρ1 ∧ TR ρ1 B L (nx B L b) ∧ ∀ ρ2 ρ3, rec ri ρ1 = some ρ2 → X12_codes n r ρ2 = some ρ3 → binR rec n c1 c2 r1 r2 ri 1 ρ = some (.inl (1, ρ3)) := by
  unfold pk2 at h
  obtain ⟨ρ1, e1, e2, e3⟩ := R.takes (n := n) hT i1 hn
  cases q1 : sgB B L b c1
  · rw [q1, if_neg (by decide)] at h
    rw [q1] at e1
    rw [q1, if_neg (by decide)] at e3
    obtain ⟨ρ2, u1, u2, u3⟩ := e3.tr.takes (n := n) hT i2 hn
    cases q2 : sgB B L b c2
    · rw [q2, if_neg (by decide)] at h; cases h
    · rw [q2, if_pos rfl] at h
      rw [q2] at u1
      rw [q2, if_pos rfl] at u3
      cases h
      refine ⟨ρ2, e2.tr u2, u3, fun ρ3 ρ4 h1 h2 => of_wp ?_⟩
      unfold binR binRj
      exact wp_ifF (by decide) (wp_bnd2 (wp_of e1 (wp_bind (wp_ifT rfl (wp_bnd2 (wp_of u1 (wp_ifF (by dsimp only; decide) (wp_some (wp_bind (wp_ifF hr.2 (wp_some (wp_ifF (by decide) (wp_bind (wp_of h1 (wp_bind (wp_of h2 (wp_some rfl)))))))))))))))))
  · rw [q1, if_pos rfl] at h
    rw [q1] at e1
    rw [q1, if_pos rfl] at e3
    cases h
    refine ⟨ρ1, e2, e3, fun ρ3 ρ4 h1 h2 => of_wp ?_⟩
    unfold binR binRj
    exact wp_ifF (by decide) (wp_bnd2 (wp_of e1 (wp_bind (wp_ifF (by dsimp only; decide) (wp_some (wp_bind (wp_ifF hr.1 (wp_some (wp_ifF (by decide) (wp_bind (wp_of h1 (wp_bind (wp_of h2 (wp_some rfl))))))))))))))
theorem pk2_r {B : Nat → Int} {L b : Nat} {c1 c2 k1 k2 r1 r2 : Int} (h1 : r1 = k1 + 18) (h2 : r2 = k2 + 18) : pk2 B L b c1 c2 r1 r2 = (pk2 B L b c1 c2 k1 k2).map (fun p => (p.1, p.2 + 18)) := by
  unfold pk2
  subst h1 h2
  split
  · rfl
  · split
    · rfl
    · rfl
/-- the loop -/
theorem binLoop {B : Nat → Int} {L T n D E dp ri i2 lv u b0 st0 cd0 : Nat} {c1 c2 k1 k2 r1 r2 : Int} {σ0 ρ0 : SG} (hT : Txt B L) (hn : 500 < n) (hD : D ≤ 300) (i1 : isg c1) (i2' : isg c2) (hk : (k1 = 2 ∨ k1 = 3 ∨ k1 = 4 ∨ k1 = 5) ∧ (k2 = 2 ∨ k2 = 3 ∨ k2 = 4 ∨ k2 = 5)) (hr1 : r1 = k1 + 18) (hr2 : r2 = k2 + 18) (H : PJ B L T n (semS T u) D E ri i2 dp lv) :
    ∀ (d k : Nat) (σ ρ : SG) (b st cd : Nat), L - b ≤ d → k ≤ b → (L - b) + 9 * (6 - dp) + 3 * lv ≤ 3 * D → JK B L T b0 st0 cd0 dp σ0 ρ0 σ ρ b st cd → semS T (1 + u) (σ (T + 1)) (σ (T + 2)) st0 st (ρ 63) cd0 cd → FjC T σ0 σ → FjR ρ0 ρ → ∀ n1 n2, d < n1 → d + 2 < n2 → ∃ r ρ' σ', iter n1 (fun s : Int × SG => binL (JR n E) n c1 c2 k1 k2 ri (dp : Int) s.1 s.2) ((k : Int), σ) = some r ∧ iter n2 (fun s : Int × SG => binR (MJ n D) n c1 c2 r1 r2 i2 s.1 s.2) (1, ρ) = some ρ' ∧ FjC T σ0 σ' ∧ FjR ρ0 ρ' ∧
      ((r = .inl σ' ∧ ∃ b' st' cd', JK B L T b0 st0 cd0 dp σ0 ρ0 σ' ρ' b' st' cd' ∧ semS T (1 + u) (σ' (T + 1)) (σ' (T + 2)) st0 st' (ρ' 63) cd0 cd') ∨ (r = .inr (0, σ') ∧ FR ρ' B L (σ' 15 3) ∧ 0 ≤ ρ' 57 20 ∧ ρ' 57 20 ≤ 400 + ((D + 1 : Nat) : Int))) := by
  intro d
  induction d with
  | zero =>
    intro k σ ρ b st cd hd hkb hf K S0 fC fR n1 n2 h1 h2
    obtain ⟨a, rfl⟩ : ∃ a, n1 = a + 1 := ⟨n1 - 1, by omega⟩
    obtain ⟨J, q1, q2, q3, q4, q5, q6, q7⟩ := id K
    obtain ⟨P, R, -⟩ := id J
    have hno : ∀ x y, pk2 B L b c1 c2 x y = none := fun x y => by
      unfold pk2
      rw [if_neg (fun q => by have := (of_decide_eq_true q).1; have := P.2.2.1; omega), if_neg (fun q => by have := (of_decide_eq_true q).1; have := P.2.2.1; omega)]
    obtain ⟨ρ', x1, x2, x3⟩ := binR_no (n := n) (ri := i2) (rec := MJ n D) R hT i1 i2' (hno r1 r2) hn (show 1 < n2 by omega)
    refine ⟨.inl σ, ρ', σ, iter_r (binC_no P hT i1 i2' (hno k1 k2)), x1, fC, fR.tr x2.j, Or.inl ⟨rfl, b, st, cd, ⟨J.mv FrT.rf x2 P x3 (Nat.le_refl _), q1, q2, q3, q4, q5, q6, fun i hi => by rw [x2 63 i (by omega)]; exact q7 i hi⟩, ?_⟩⟩
    rw [show ρ' 63 = ρ 63 from funext fun i => x2 63 i (by omega)]
    exact S0
  | succ d ih =>
    intro k σ ρ b st cd hd hkb hf K S0 fC fR n1 n2 h1 h2
    obtain ⟨a, rfl⟩ : ∃ a, n1 = a + 1 := ⟨n1 - 1, by omega⟩
    obtain ⟨J, q1, q2, q3, q4, q5, q6, q7⟩ := id K
    obtain ⟨P, R, -, hJ, j5, j6, j7, j8, j9, j10⟩ := id J
    have hL := hT.1
    have hb := P.2.2.1
    cases hpk : pk2 B L b c1 c2 k1 k2 with
    | none =>
      have hno2 : pk2 B L b c1 c2 r1 r2 = none := by rw [pk2_r hr1 hr2, hpk]; rfl
      obtain ⟨ρ', x1, x2, x3⟩ := binR_no (n := n) (ri := i2) (rec := MJ n D) R hT i1 i2' hno2 hn (show 1 < n2 by omega)
      refine ⟨.inl σ, ρ', σ, iter_r (binC_no P hT i1 i2' hpk), x1, fC, fR.tr x2.j, Or.inl ⟨rfl, b, st, cd, ⟨J.mv FrT.rf x2 P x3 (Nat.le_refl _), q1, q2, q3, q4, q5, q6, fun i hi => by rw [x2 63 i (by omega)]; exact q7 i hi⟩, ?_⟩⟩
      rw [show ρ' 63 = ρ 63 from funext fun i => x2 63 i (by omega)]
      exact S0
    | some p =>
      obtain ⟨c, op⟩ := p
      have hgo2 : pk2 B L b c1 c2 r1 r2 = some (c, op + 18) := by rw [pk2_r hr1 hr2, hpk]; rfl
      have hbL : b < L := by
        unfold pk2 at hpk
        by_cases z1 : sgB B L b c1 = true
        · exact (of_decide_eq_true z1).1
        · rw [if_neg z1] at hpk
          by_cases z2 : sgB B L b c2 = true
          · exact (of_decide_eq_true z2).1
          · rw [if_neg z2] at hpk; cases hpk
      obtain ⟨ic, hsg, hop, hC⟩ := binC_go (n := n) (ri := ri) (a := (dp : Int)) (z := (k : Int)) (rec := JR n E) P hT i1 i2' (by rw [w32i (by omega)]; omega) hpk
      have hop2 : op = 2 ∨ op = 3 ∨ op = 4 ∨ op = 5 := by omega
      obtain ⟨ρ1, u1, u2, u3⟩ := binR_go (n := n) (ri := i2) (rec := MJ n D) R hT i1 i2' ⟨by rw [w32i (by omega)]; omega, by rw [w32i (by omega)]; omega⟩ hgo2 hn
      obtain ⟨σ1, g1, P1, g2⟩ := P.adv (n := n) hT hn
      have nb := nx_b (B := B) hb
      have hlt := nb.2.2 hbL
      have J1 := J.mv g2 u1 P1 u2 (by omega)
      obtain ⟨v, σ2, ρ2, e1, e2, kC, kR, O⟩ := H σ1 ρ1 (nx B L b) st cd (by omega) J1
      rcases O with ⟨rfl, F1, F2, F3⟩ | ⟨rfl, b', st', cd', ⟨J2, y1, y2, y3, y4, y5, y6, y7⟩, d2, s1, s2⟩
      · obtain ⟨ρ3, z1, z2, z3, z4⟩ := F1.codes (n := n) (v := op + 18) ⟨F2, by omega⟩
        obtain ⟨c', rfl⟩ : ∃ c', n2 = c' + 1 := ⟨n2 - 1, by omega⟩
        obtain ⟨ρ4, w1, w2, w3⟩ := z2.binL (n := n) (m := c') (ri := i2) (c1 := c1) (c2 := c2) (r1 := r1) (r2 := r2) (rec := MJ n D) hT hn (by omega)
        refine ⟨.inr (0, σ2), ρ4, σ2, iter_r (of_wp (hC _ ?_)), (iter_l (f := fun s : Int × SG => binR (MJ n D) n c1 c2 r1 r2 i2 s.1 s.2) (a := (1, ρ)) (u3 ρ2 ρ3 e2 z1)).trans w1, fC.tr (g2.j.tr kC), fR.tr (u1.j.tr (kR.tr (z3.tr w3.j))), Or.inr ⟨rfl, w2, ?_, ?_⟩⟩
        · unfold binJ
          exact wp_bind (wp_of g1 (wp_bnd2 (wp_of e1 (wp_ifT rfl (wp_some rfl)))))
        · rw [w3 57 20 (by omega), z4]; omega
        · rw [w3 57 20 (by omega), z4]; omega
      · obtain ⟨P2, R2, -⟩ := id J2
        have h181 : σ2 18 1 = (T : Int) := J2.2.2.1
        obtain ⟨σ3, w1, J3, w3, w4, w5, w6, w7⟩ := J2.wC (n := n) (kind := op) (v := 0) hT (by omega)
        obtain ⟨ρ3, z1, J4, z3, z4, z5⟩ := J3.wR (n := n) (v := op + 18) hT (by omega)
        obtain ⟨c', rfl⟩ : ∃ c', n2 = c' + 1 := ⟨n2 - 1, by omega⟩
        have hstep : binL (JR n E) n c1 c2 k1 k2 ri (dp : Int) (k : Int) σ = some (.inl (((k + 1 : Nat) : Int), σ3)) := of_wp (hC _ (by
          unfold binJ
          refine wp_bind (wp_of g1 (wp_bnd2 (wp_of e1 (wp_ifF (by dsimp only; decide) (wp_ckI T h181 (isJudge_J hJ) (wp_bnd2 (wp_of w1 (wp_lt (wp_some ?_)))))))))
          rw [show (k : Int) + 1 = ((k + 1 : Nat) : Int) by omega]))
        obtain ⟨d1, t1, t2⟩ := S0
        have K' : JK B L T b0 st0 cd0 dp σ0 ρ0 σ3 ρ3 b' (st' + 1) (cd' + 1) := ⟨J4, by omega, by omega, by omega, by omega, by omega, fun i hi => by rw [(w5 i (by omega)).1, (w5 i (by omega)).2, (y6 i (by omega)).1, (y6 i (by omega)).2, g2 _ _ (by omega), g2 _ _ (by omega)]; exact q6 i hi, fun i hi => by rw [z4 i (by omega), y7 i (by omega), u1 63 i (by omega)]; exact q7 i hi⟩
        have S' : semS T (1 + u) (σ3 (T + 1)) (σ3 (T + 2)) st0 (st' + 1) (ρ3 63) cd0 (cd' + 1) := by
          refine ⟨dbin op d1 d2, CS_bin (t1.cg (fun i i1 i2 => ?_)) (s1.cg (fun i i1 i2 => w5 i (by omega))) w3 hop2 (Nat.le_refl _), RS_bin (t2.cg (fun i i1 i2 => ?_)) (s2.cg (fun i i1 i2 => z4 i (by omega))) z3 hop2 (Nat.le_refl _)⟩
          · rw [(w5 i (by omega)).1, (w5 i (by omega)).2, (y6 i (by omega)).1, (y6 i (by omega)).2, g2 _ _ (by omega), g2 _ _ (by omega)]
            exact ⟨rfl, rfl⟩
          · rw [z4 i (by omega), y7 i (by omega), u1 63 i (by omega)]
        obtain ⟨r, ρ', σ', m1, m2, m3, m4, m5⟩ := ih (k + 1) σ3 ρ3 b' (st' + 1) (cd' + 1) (by omega) (by omega) (by omega) K' S' (fC.tr (g2.j.tr (kC.tr w6))) (fR.tr (u1.j.tr (kR.tr z5))) a c' (by omega) (by omega)
        exact ⟨r, ρ', σ', (iter_l (f := fun s : Int × SG => binL (JR n E) n c1 c2 k1 k2 ri (dp : Int) s.1 s.2) (a := ((k : Int), σ)) hstep).trans m1, (iter_l (f := fun s : Int × SG => binR (MJ n D) n c1 c2 r1 r2 i2 s.1 s.2) (a := (1, ρ)) (u3 ρ2 ρ3 e2 z1)).trans m2, m3, m4, m5⟩
theorem prod_ok {B : Nat → Int} {L T dp n D E : Nat} (hT : Txt B L) (hn : 500 < n) (hD : D ≤ 300) (H : PJ B L T n (semS T (uP dp)) D E 7 5 dp 1) : PJ B L T n (semS T (1 + uP dp)) (D + 1) (E + 1) 6 4 dp 2 := by
  intro σ ρ b st cd hf J
  have hL := hT.1
  obtain ⟨v, σ1, ρ1, e1, e2, kC, kR, O⟩ := H σ ρ b st cd (by omega) J
  have hR : ∀ ρ', iter n (fun s : Int × SG => binR (MJ n D) n 42 47 22 23 5 s.1 s.2) (1, ρ1) = some ρ' → MJ n (D + 1) 4 ρ = some ρ' := fun ρ' h => of_wp (by
    show wp (X12_product_b (MJ n D) n ρ) _
    unfold X12_product_b
    refine wp_bind (wp_of e2 (wp_bind (wp_of h ?_)))
    unfold X12_product_e6
    exact wp_some rfl)
  rcases O with ⟨rfl, F1, F2, F3⟩ | ⟨rfl, b', st', cd', K, d, s1, s2⟩
  · obtain ⟨ρ2, w1, w2, w3⟩ := F1.binL (n := n) (m := n) (ri := 5) (c1 := 42) (c2 := 47) (r1 := 22) (r2 := 23) (rec := MJ n D) hT hn (by omega)
    refine ⟨0, σ1, ρ2, of_wp ?_, hR _ w1, kC, kR.tr w3.j, Or.inl ⟨rfl, w2, by rw [w3 57 20 (by omega)]; omega, by rw [w3 57 20 (by omega)]; omega⟩⟩
    show wp (X3_passProduct_b (JR n E) n (dp : Int) σ) _
    unfold X3_passProduct_b
    exact wp_bnd2 (wp_of e1 (wp_ifT rfl (wp_some rfl)))
  · have hb' := K.1.1.2.2.1
    obtain ⟨r, ρ', σ', m1, m2, m3, m4, m5⟩ := binLoop (c1 := 42) (c2 := 47) (k1 := 4) (k2 := 5) (r1 := 22) (r2 := 23) (u := uP dp) hT hn hD isg_c.2.2.1 isg_c.2.2.2.2.2.1 (by decide) (by decide) (by decide) H (L - b') 0 σ1 ρ1 b' st' cd' (Nat.le_refl _) (by omega) (by have := K.2.1; omega) K ⟨d, s1.u (by omega), s2.u (by omega)⟩ kC kR n n (by omega) (by omega)
    have hC : ∀ Q : Int × SG → Prop, wp (orr (fun s => X3_passProduct_e12 (JR n E) n s) r) Q → wp (JR n (E + 1) 6 (dp : Int) σ) Q := fun Q hQ => by
      show wp (X3_passProduct_b (JR n E) n (dp : Int) σ) _
      unfold X3_passProduct_b
      exact wp_bnd2 (wp_of e1 (wp_ifF (by dsimp only; decide) (wp_bind (wp_of m1 hQ))))
    rcases m5 with ⟨rfl, b2, st2, cd2, K2, S2⟩ | ⟨rfl, F1, F2, F3⟩
    · refine ⟨1, σ', ρ', of_wp (hC _ ?_), hR _ m2, m3, m4, Or.inr ⟨rfl, b2, st2, cd2, K2, S2⟩⟩
      show wp (X3_passProduct_e12 (JR n E) n σ') _
      unfold X3_passProduct_e12
      exact wp_some rfl
    · exact ⟨0, σ', ρ', of_wp (hC _ (wp_some rfl)), hR _ m2, m3, m4, Or.inl ⟨rfl, F1, F2, F3⟩⟩
theorem sum_ok {B : Nat → Int} {L T dp n D E : Nat} (hT : Txt B L) (hn : 500 < n) (hD : D ≤ 300) (H : PJ B L T n (semS T (1 + uP dp)) D E 6 4 dp 2) : PJ B L T n (semS T (uS dp)) (D + 1) (E + 1) 5 3 dp 3 := by
  intro σ ρ b st cd hf J
  have hL := hT.1
  have hu : uS dp = 1 + (1 + uP dp) := by unfold uS uP; omega
  rw [hu]
  obtain ⟨v, σ1, ρ1, e1, e2, kC, kR, O⟩ := H σ ρ b st cd (by omega) J
  have hR : ∀ ρ', iter n (fun s : Int × SG => binR (MJ n D) n 43 45 20 21 4 s.1 s.2) (1, ρ1) = some ρ' → MJ n (D + 1) 3 ρ = some ρ' := fun ρ' h => of_wp (by
    show wp (X12_sum_b (MJ n D) n ρ) _
    unfold X12_sum_b
    refine wp_bind (wp_of e2 (wp_bind (wp_of h ?_)))
    unfold X12_sum_e6
    exact wp_some rfl)
  rcases O with ⟨rfl, F1, F2, F3⟩ | ⟨rfl, b', st', cd', K, d, s1, s2⟩
  · obtain ⟨ρ2, w1, w2, w3⟩ := F1.binL (n := n) (m := n) (ri := 4) (c1 := 43) (c2 := 45) (r1 := 20) (r2 := 21) (rec := MJ n D) hT hn (by omega)
    refine ⟨0, σ1, ρ2, of_wp ?_, hR _ w1, kC, kR.tr w3.j, Or.inl ⟨rfl, w2, by rw [w3 57 20 (by omega)]; omega, by rw [w3 57 20 (by omega)]; omega⟩⟩
    show wp (X3_passSum_b (JR n E) n (dp : Int) σ) _
    unfold X3_passSum_b
    exact wp_bnd2 (wp_of e1 (wp_ifT rfl (wp_some rfl)))
  · have hb' := K.1.1.2.2.1
    obtain ⟨r, ρ', σ', m1, m2, m3, m4, m5⟩ := binLoop (c1 := 43) (c2 := 45) (k1 := 2) (k2 := 3) (r1 := 20) (r2 := 21) (u := 1 + uP dp) hT hn hD isg_c.2.2.2.1 isg_c.2.2.2.2.1 (by decide) (by decide) (by decide) H (L - b') 0 σ1 ρ1 b' st' cd' (Nat.le_refl _) (by omega) (by have := K.2.1; omega) K ⟨d, s1.u (by omega), s2.u (by omega)⟩ kC kR n n (by omega) (by omega)
    have hC : ∀ Q : Int × SG → Prop, wp (orr (fun s => X3_passSum_e12 (JR n E) n s) r) Q → wp (JR n (E + 1) 5 (dp : Int) σ) Q := fun Q hQ => by
      show wp (X3_passSum_b (JR n E) n (dp : Int) σ) _
      unfold X3_passSum_b
      exact wp_bnd2 (wp_of e1 (wp_ifF (by dsimp only; decide) (wp_bind (wp_of m1 hQ))))
    rcases m5 with ⟨rfl, b2, st2, cd2, K2, S2⟩ | ⟨rfl, F1, F2, F3⟩
    · refine ⟨1, σ', ρ', of_wp (hC _ ?_), hR _ m2, m3, m4, Or.inr ⟨rfl, b2, st2, cd2, K2, S2⟩⟩
      show wp (X3_passSum_e12 (JR n E) n σ') _
      unfold X3_passSum_e12
      exact wp_some rfl
    · exact ⟨0, σ', ρ', of_wp (hC _ (wp_some rfl)), hR _ m2, m3, m4, Or.inl ⟨rfl, F1, F2, F3⟩⟩
