/-! ===== the judge's text: comparisons, groups, atoms ===== -/
def uC (dp : Nat) : Nat := 1 + uS dp
theorem cmps_ok {σ ρ : SG} {B : Nat → Int} {L b n : Nat} (P : TC σ B L b) (R : TR ρ B L b) (hT : Txt B L) (hn : 500 < n) : ∃ (y r : Int) (ρ1 : SG), (∀ {β : Type} (f : Int → Option β) (Q : β → Prop), wp (f y) Q → wp ((X10_isSign n 60 σ).bind fun v5 => ((if w32 v5 = 0 then (X10_isSign n 61 σ).bind fun v18 => if w32 v18 = 0 then (X10_isSign n 62 σ).bind fun v20 => if w32 v20 = 0 then some ((-1)) else some (8) else some (7) else some (6)) : Option (Int)).bind f) Q) ∧
    (∀ {β : Type} (g : Int → SG → Option β) (Q : β → Prop), wp (g r ρ1) Q → wp ((X12_blanks n ρ).bind fun σ12 => bnd2 (X12_takes n 60 σ12) fun v14 σ15 => ((if w32 v14 = 0 then bnd2 (X12_takes n 61 σ15) fun v28 σ29 => if w32 v28 = 0 then bnd2 (X12_takes n 62 σ29) fun v31 σ32 => if w32 v31 = 0 then some (((-1), σ32)) else some ((26, σ32)) else some ((25, σ29)) else some ((24, σ15))) : Option (Int × SG)).bind (fun s => g s.1 s.2)) Q) ∧ FrK ρ ρ1 ∧ ((y = -1 ∧ r = -1 ∧ TB ρ1 B L b) ∨ ((y = 6 ∨ y = 7 ∨ y = 8) ∧ r = y + 18 ∧ b < L ∧ TR ρ1 B L (nx B L b))) := by
  obtain ⟨-, -, -, -, -, -, i60, i61, i62, -⟩ := isg_c
  obtain ⟨ρ0, z1, z2, z3⟩ := R.blanks (n := n) hT hn
  have c60 := P.isSign (n := n) hT i60
  have c61 := P.isSign (n := n) hT i61
  have c62 := P.isSign (n := n) hT i62
  obtain ⟨ρ1, u1, u2, u3⟩ := z3.tr.takes (n := n) hT i60 hn
  cases q1 : sgB B L b 60
  case true =>
    rw [q1] at u1 c60
    rw [q1, if_pos rfl] at u3
    exact ⟨6, 24, ρ1, fun f Q hQ => wp_bind (wp_of c60 (wp_bind (wp_ifF (by decide) (wp_some hQ)))), fun g Q hQ => wp_bind (wp_of z1 (wp_bnd2 (wp_of u1 (wp_bind (wp_ifF (by dsimp only; decide) (wp_some hQ)))))), z2.tr u2, Or.inr ⟨Or.inl rfl, by decide, (sg_nx i60 q1).1, u3⟩⟩
  rw [q1] at u1 c60
  rw [q1, if_neg (by decide)] at u3
  obtain ⟨ρ2, v1, v2, v3⟩ := u3.tr.takes (n := n) hT i61 hn
  cases q2 : sgB B L b 61
  case true =>
    rw [q2] at v1 c61
    rw [q2, if_pos rfl] at v3
    exact ⟨7, 25, ρ2, fun f Q hQ => wp_bind (wp_of c60 (wp_bind (wp_ifT rfl (wp_bind (wp_of c61 (wp_ifF (by decide) (wp_some hQ))))))), fun g Q hQ => wp_bind (wp_of z1 (wp_bnd2 (wp_of u1 (wp_bind (wp_ifT rfl (wp_bnd2 (wp_of v1 (wp_ifF (by dsimp only; decide) (wp_some hQ))))))))), z2.tr (u2.tr v2), Or.inr ⟨Or.inr (Or.inl rfl), by decide, (sg_nx i61 q2).1, v3⟩⟩
  rw [q2] at v1 c61
  rw [q2, if_neg (by decide)] at v3
  obtain ⟨ρ3, x1, x2, x3⟩ := v3.tr.takes (n := n) hT i62 hn
  cases q3 : sgB B L b 62
  case true =>
    rw [q3] at x1 c62
    rw [q3, if_pos rfl] at x3
    exact ⟨8, 26, ρ3, fun f Q hQ => wp_bind (wp_of c60 (wp_bind (wp_ifT rfl (wp_bind (wp_of c61 (wp_ifT rfl (wp_bind (wp_of c62 (wp_ifF (by decide) (wp_some hQ)))))))))), fun g Q hQ => wp_bind (wp_of z1 (wp_bnd2 (wp_of u1 (wp_bind (wp_ifT rfl (wp_bnd2 (wp_of v1 (wp_ifT rfl (wp_bnd2 (wp_of x1 (wp_ifF (by dsimp only; decide) (wp_some hQ)))))))))))), z2.tr (u2.tr (v2.tr x2)), Or.inr ⟨Or.inr (Or.inr rfl), by decide, (sg_nx i62 q3).1, x3⟩⟩
  rw [q3] at x1 c62
  rw [q3, if_neg (by decide)] at x3
  exact ⟨-1, -1, ρ3, fun f Q hQ => wp_bind (wp_of c60 (wp_bind (wp_ifT rfl (wp_bind (wp_of c61 (wp_ifT rfl (wp_bind (wp_of c62 (wp_ifT rfl (wp_some hQ)))))))))), fun g Q hQ => wp_bind (wp_of z1 (wp_bnd2 (wp_of u1 (wp_bind (wp_ifT rfl (wp_bnd2 (wp_of v1 (wp_ifT rfl (wp_bnd2 (wp_of x1 (wp_ifT rfl (wp_some hQ)))))))))))), z2.tr (u2.tr (v2.tr x2)), Or.inl ⟨rfl, rfl, x3⟩⟩
theorem FR.cmps {ρ : SG} {B : Nat → Int} {L n : Nat} {x : Int} (h : FR ρ B L x) (hT : Txt B L) (hn : 500 < n) : ∃ ρ1, (∀ {β : Type} (g : Int → SG → Option β) (Q : β → Prop), wp (g (-1) ρ1) Q → wp ((X12_blanks n ρ).bind fun σ12 => bnd2 (X12_takes n 60 σ12) fun v14 σ15 => ((if w32 v14 = 0 then bnd2 (X12_takes n 61 σ15) fun v28 σ29 => if w32 v28 = 0 then bnd2 (X12_takes n 62 σ29) fun v31 σ32 => if w32 v31 = 0 then Option.some (((-1), σ32)) else Option.some ((26, σ32)) else Option.some ((25, σ29)) else Option.some ((24, σ15))) : Option (Int × SG)).bind (fun s => g s.1 s.2)) Q) ∧ FrK ρ ρ1 ∧ FR ρ1 B L x := by
  obtain ⟨ρ0, z1, z2, z3⟩ := h.blanks (n := n) hT hn
  obtain ⟨ρ1, u1, u2, u3⟩ := z3.takes (n := n) (c := 60) hT hn
  obtain ⟨ρ2, v1, v2, v3⟩ := u3.takes (n := n) (c := 61) hT hn
  obtain ⟨ρ3, x1, x2, x3⟩ := v3.takes (n := n) (c := 62) hT hn
  exact ⟨ρ3, fun g Q hQ => wp_bind (wp_of z1 (wp_bnd2 (wp_of u1 (wp_bind (wp_ifT rfl (wp_bnd2 (wp_of v1 (wp_ifT rfl (wp_bnd2 (wp_of x1 (wp_ifT rfl (wp_some hQ)))))))))))), z2.tr (u2.tr (v2.tr x2)), x3⟩
def cmpR (rec : Nat → SG → Option SG) (n : Nat) (σ8 : SG) : Option SG := (rec 3 σ8).bind fun σ10 => (X12_blanks n σ10).bind fun σ12 => bnd2 (X12_takes n 60 σ12) fun v14 σ15 => ((if w32 v14 = 0 then bnd2 (X12_takes n 61 σ15) fun v28 σ29 => if w32 v28 = 0 then bnd2 (X12_takes n 62 σ29) fun v31 σ32 => if w32 v31 = 0 then some (((-1), σ32)) else some ((26, σ32)) else some ((25, σ29)) else some ((24, σ15))) : Option (Int × SG)).bind (fun s => X12_atom_j128 rec n s.1 s.2)
/-- behind a failure: the second sum writes nothing, the code is written -/
theorem cmpF {ρ : SG} {B : Nat → Int} {L n D : Nat} {x : Int} (h : FR ρ B L x) (hT : Txt B L) (hn : 500 < n) (hD : 3 ≤ D) (hc : 0 ≤ ρ 57 20 ∧ ρ 57 20 < 900) : ∃ ρ', X12_atom_j128 (MJ n D) n (-1) ρ = some ρ' ∧ FR ρ' B L x ∧ FjR ρ ρ' ∧ ρ' 57 20 = ρ 57 20 + 1 := by
  obtain ⟨c, rfl⟩ : ∃ c, D = c + 3 := ⟨D - 3, by omega⟩
  obtain ⟨ρ1, e1, e2, e3⟩ := h.sum (n := n) (D := c) hT hn
  obtain ⟨ρ2, u1, u2, u3, u4⟩ := e2.codes (n := n) (v := -1) (by rw [e3 57 20 (by omega)]; exact hc)
  refine ⟨ρ2, of_wp ?_, u2, e3.j.tr u3, by rw [u4, e3 57 20 (by omega)]⟩
  unfold X12_atom_j128 X12_atom_j138
  exact wp_bind (wp_ifT (by decide) (wp_bind (wp_of h.fails (wp_some (wp_bind (wp_of e1 (wp_bind (wp_of u1 (wp_some rfl)))))))))
theorem cmp_ok {σ ρ : SG} {B : Nat → Int} {L T b st cd dp n D E : Nat} (J : JS σ ρ B L T b st cd dp) (hT : Txt B L) (hn : 500 < n) (hD : D ≤ 300) (hf : (L - b) + 9 * (6 - dp) + 9 ≤ 3 * D) (H : PJ B L T n (semS T (uS dp)) D E 5 3 dp 3) : ∃ v σ' ρ', JR n (E + 1) 4 (dp : Int) σ = some (v, σ') ∧ cmpR (MJ n D) n ρ = some ρ' ∧ JO (semC T (uC dp)) B L T b st cd dp (D + 1) σ ρ v σ' ρ' := by
  have hL := hT.1
  obtain ⟨v, σ1, ρ1, e1, e2, kC, kR, O⟩ := H σ ρ b st cd (by omega) J
  rcases O with ⟨rfl, F1, F2, F3⟩ | ⟨rfl, b1, st1, cd1, K, d, s1, s2⟩
  · obtain ⟨ρ2, u1, u2, u3⟩ := F1.cmps (n := n) hT hn
    obtain ⟨ρ3, w1, w2, w3, w4⟩ := cmpF (n := n) (D := D) u3 hT hn (by omega) (by rw [u2 57 20 (by omega)]; omega)
    refine ⟨0, σ1, ρ3, of_wp ?_, of_wp ?_, kC, kR.tr (u2.j.tr w3), Or.inl ⟨rfl, w2, by rw [w4, u2 57 20 (by omega)]; omega, by rw [w4, u2 57 20 (by omega)]; omega⟩⟩
    · show wp (X3_passComparison_b (JR n E) n (dp : Int) σ) _
      unfold X3_passComparison_b
      exact wp_bnd2 (wp_of e1 (wp_ifT rfl (wp_some rfl)))
    · unfold cmpR
      exact wp_bind (wp_of e2 (u1 _ _ (wp_of w1 rfl)))
  · obtain ⟨J1, k1, k2, k3, k4, k5, k6, k7⟩ := id K
    obtain ⟨P1, R1, -, hJ, j5, j6, j7, j8, j9, j10⟩ := id J1
    have hb1 := P1.2.2.1
    obtain ⟨y, r, ρ2, f1, f2, f3, f4⟩ := cmps_ok P1 R1 hT hn
    have hC : ∀ Q : Int × SG → Prop, wp (X3_passComparison_j62 (JR n E) n σ1 (dp : Int) y) Q → wp (JR n (E + 1) 4 (dp : Int) σ) Q := fun Q hQ => by
      show wp (X3_passComparison_b (JR n E) n (dp : Int) σ) _
      unfold X3_passComparison_b
      exact wp_bnd2 (wp_of e1 (wp_ifF (by dsimp only; decide) (f1 _ _ hQ)))
    have hR : ∀ Q : SG → Prop, wp (X12_atom_j128 (MJ n D) n r ρ2) Q → wp (cmpR (MJ n D) n ρ) Q := fun Q hQ => by
      unfold cmpR
      exact wp_bind (wp_of e2 (f2 (fun a s => X12_atom_j128 (MJ n D) n a s) Q hQ))
    rcases f4 with ⟨rfl, rfl, T1⟩ | ⟨hy, hr, hbL, T1⟩
    · obtain ⟨ρ3, z1, z2, z3⟩ := T1.fails (n := n) hT
      have h20 : ρ3 57 20 = (cd1 : Int) := by rw [z2 57 20 (by omega), f3 57 20 (by omega)]; exact j6
      obtain ⟨c, rfl⟩ : ∃ c, D = c + 3 := ⟨D - 3, by omega⟩
      obtain ⟨ρ4, x1, x2, x3⟩ := z3.sum (n := n) (D := c) hT hn
      obtain ⟨ρ5, u1, u2, u3, u4⟩ := x2.codes (n := n) (v := -1) (by rw [x3 57 20 (by omega), h20]; omega)
      refine ⟨0, σ1, ρ5, of_wp (hC _ ?_), of_wp (hR _ ?_), kC, kR.tr (f3.j.tr (z2.j.tr (x3.j.tr u3))), Or.inl ⟨rfl, by rw [P1.2.2.2.1]; exact u2, by rw [u4, x3 57 20 (by omega), h20]; omega, by rw [u4, x3 57 20 (by omega), h20]; omega⟩⟩
      · unfold X3_passComparison_j62
        exact wp_ifT (by decide) (wp_some rfl)
      · unfold X12_atom_j128 X12_atom_j138
        exact wp_bind (wp_ifT (by decide) (wp_bind (wp_of z1 (wp_some (wp_bind (wp_of x1 (wp_bind (wp_of u1 (wp_some rfl)))))))))
    · obtain ⟨σ2, g1, P2, g2⟩ := P1.adv (n := n) hT hn
      have nb := nx_b (B := B) hb1
      have hlt := nb.2.2 hbL
      have J2 := J1.mv g2 f3 P2 T1 (by omega)
      obtain ⟨v2, σ3, ρ3, m1, m2, kC2, kR2, O2⟩ := H σ2 ρ2 (nx B L b1) st1 cd1 (by omega) J2
      have hC2 : ∀ Q : Int × SG → Prop, wp (if w32 v2 = 0 then some ((0, σ3)) else ckR isJudge (σ3 18 1) fun k13 => bnd2 (X2_write n k13 y 0 σ3) fun v15 σ16 => some ((1, σ16))) Q → wp (JR n (E + 1) 4 (dp : Int) σ) Q := fun Q hQ => hC Q (by
        unfold X3_passComparison_j62
        exact wp_ifF (by rw [w32i (by omega)]; omega) (wp_bind (wp_of g1 (wp_bnd2 (wp_of m1 hQ)))))
      have hR2 : ∀ ρ4, X12_codes n r ρ3 = some ρ4 → cmpR (MJ n D) n ρ = some ρ4 := fun ρ4 h => of_wp (hR _ (by
        unfold X12_atom_j128 X12_atom_j138
        exact wp_bind (wp_ifF (by rw [w32i (by omega)]; omega) (wp_some (wp_bind (wp_of m2 (wp_bind (wp_of h (wp_some rfl)))))))))
      rcases O2 with ⟨rfl, F1, F2, F3⟩ | ⟨rfl, b2, st2, cd2, ⟨J3, y1, y2, y3, y4, y5, y6, y7⟩, d2, t1, t2⟩
      · obtain ⟨ρ4, u1, u2, u3, u4⟩ := F1.codes (n := n) (v := r) ⟨F2, by omega⟩
        exact ⟨0, σ3, ρ4, of_wp (hC2 _ (wp_ifT rfl (wp_some rfl))), hR2 _ u1, kC.tr (g2.j.tr kC2), kR.tr (f3.j.tr (kR2.tr u3)), Or.inl ⟨rfl, u2, by rw [u4]; omega, by rw [u4]; omega⟩⟩
      · obtain ⟨σ4, w1, J4, w3, w4, w5, w6, w7⟩ := J3.wC (n := n) (kind := y) (v := 0) hT (by omega)
        obtain ⟨ρ4, z1, J5, z3, z4, z5⟩ := J4.wR (n := n) (v := r) hT (by omega)
        refine ⟨1, σ4, ρ4, of_wp (hC2 _ (wp_ifF (by decide) (wp_ckI T J3.2.2.1 (isJudge_J hJ) (wp_bnd2 (wp_of w1 (wp_some rfl)))))), hR2 _ z1, kC.tr (g2.j.tr (kC2.tr w6)), kR.tr (f3.j.tr (kR2.tr z5)), Or.inr ⟨rfl, b2, st2 + 1, cd2 + 1, ⟨J5, by omega, by omega, by omega, by omega, by omega, fun i hi => ?_, fun i hi => ?_⟩, dcmp y d d2, Bl_cmp, ?_, ?_⟩⟩
        · rw [(w5 i (by omega)).1, (w5 i (by omega)).2, (y6 i (by omega)).1, (y6 i (by omega)).2, g2 _ _ (by omega), g2 _ _ (by omega)]
          exact k6 i hi
        · rw [z4 i (by omega), y7 i (by omega), f3 63 i (by omega)]
          exact k7 i hi
        · refine CC_cmp (s1.cg (fun i i1 i2 => ?_)) (t1.cg (fun i i1 i2 => w5 i (by omega))) w3 hy (by omega)
          rw [(w5 i (by omega)).1, (w5 i (by omega)).2, (y6 i (by omega)).1, (y6 i (by omega)).2, g2 _ _ (by omega), g2 _ _ (by omega)]
          exact ⟨rfl, rfl⟩
        · refine RS_cmp (s2.cg (fun i i1 i2 => ?_)) (t2.cg (fun i i1 i2 => z4 i (by omega))) (z3.trans hr) hy (by omega)
          rw [z4 i (by omega), y7 i (by omega), f3 63 i (by omega)]
