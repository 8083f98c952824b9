/-! ===== the judge's text: groups ===== -/
theorem JR_3 {n E : Nat} {a : Int} {σ : SG} : JR n (E + 1) 3 a σ = X3_passGroup_b (JR n E) n a σ := rfl
def grpR (rec : Nat → SG → Option SG) (n : Nat) (σ8 : SG) : Option SG := bnd2 (X12_goesIn n σ8) fun v34 σ35 => if w32 v34 = 0 then some (σ35) else (X12_asksSign n 40 σ35).bind fun σ37 => (rec 0 σ37).bind fun σ39 => (X12_asksSign n 41 σ39).bind fun σ41 => lt (up σ41 57 21 ((σ41 57 21) - 1)) fun σ42 => some (σ42)
theorem grp_ok {σ ρ : SG} {B : Nat → Int} {L T b st cd dp n D E : Nat} (J : JS σ ρ B L T b st cd dp) (hT : Txt B L) (hsg : sgB B L b 40 = true) (hn : 500 < n) (hf : (L - b) + 9 * (6 - dp) + 3 * 4 ≤ 3 * (D + 1)) (H : dp < 6 → PJ B L T n (semC T (uC (dp + 1))) D E 0 0 (dp + 1) 6) : ∃ v σ' ρ', JR n (E + 1) 3 (dp : Int) σ = some (v, σ') ∧ grpR (MJ n D) n ρ = some ρ' ∧ JO (semC T (uC dp)) B L T b st cd dp (D + 1) σ ρ v σ' ρ' := by
  have J0 := J
  obtain ⟨P, R, j3, hJ, j5, j6, j7, j8, j9, j10⟩ := J0
  have hL := hT.1
  have hb := P.2.2.1
  obtain ⟨i40, i41, -⟩ := isg_c
  obtain ⟨hbL, hk3, -⟩ := sg_nx i40 hsg
  have nb := nx_b (B := B) hb
  have hlt := nb.2.2 hbL
  rcases goesIn_ok (n := n) R hT j7 j10 hn with ⟨hd, ρ3, x1, x2, x3⟩ | ⟨hd, ρ3, x1, x2, x3⟩
  · have T3 : TR (up ρ3 57 21 (((dp + 1 : Nat) : Int))) B L b := x3.tr.up (Or.inr (Or.inr (Or.inr ⟨rfl, by decide⟩)))
    obtain ⟨ρ4, y1, y2, y3⟩ := T3.asksSign (n := n) hT i40 hn
    rw [if_pos hsg] at y3
    obtain ⟨σ1, g1, P1, g2⟩ := P.adv (n := n) hT hn
    have hc4 : ∀ c j, ¬ (c = 57 ∧ (j = 4 ∨ j = 5 ∨ j = 7 ∨ j = 21)) → ρ4 c j = ρ c j := fun c j q => by rw [y2 c j (by omega), up_ne (by omega), x2 c j (by omega)]
    have J1 : JS σ1 ρ4 B L T (nx B L b) st cd (dp + 1) := ⟨P1, y3, (g2 18 1 (by omega)).trans j3, hJ, (g2 T 2 (by omega)).trans j5, (hc4 57 20 (by omega)).trans j6, by rw [y2 57 21 (by omega), up_eq rfl rfl], by omega, by omega, by omega⟩
    obtain ⟨v, σ2, ρ5, e1, e2, kC, kR, O⟩ := H hd σ1 ρ4 (nx B L b) st cd (by omega) J1
    rw [show ((dp + 1 : Nat) : Int) = (dp : Int) + 1 by omega] at e1
    have fR5 : FjR ρ ρ5 := (fun c j q1 q2 => (kR c j q1 q2).trans (hc4 c j (by omega)))
    have hC : ∀ Q : Int × SG → Prop, wp (if w32 v = 0 then some ((0, σ2)) else bnd2 (X10_passSign n 41 σ2) fun v24 σ25 => if w32 v24 = 0 then some ((0, σ25)) else some ((1, σ25))) Q → wp (JR n (E + 1) 3 (dp : Int) σ) Q := fun Q hQ => by
      rw [JR_3]
      unfold X3_passGroup_b
      exact wp_ifT (by rw [w32i (by omega)]; omega) (wp_bind (wp_of g1 (wp_bnd2 (wp_of e1 hQ))))
    have hR : ∀ ρ6, X12_asksSign n 41 ρ5 = some ρ6 → grpR (MJ n D) n ρ = some (up ρ6 57 21 (ρ6 57 21 - 1)) := fun ρ6 h => of_wp (by
      unfold grpR
      exact wp_bnd2 (wp_of x1 (wp_ifF (by dsimp only; decide) (wp_bind (wp_of y1 (wp_bind (wp_of e2 (wp_bind (wp_of h (wp_lt (wp_some rfl)))))))))))
    have fu : ∀ ρ6, FjR ρ6 (up ρ6 57 21 (ρ6 57 21 - 1)) := fun ρ6 c j q1 q2 => up_ne (by omega)
    rcases O with ⟨rfl, F1, F2, F3⟩ | ⟨rfl, b', st', cd', ⟨J2, k1, k2, k3, k4, k5, k6, k7⟩, d, hB, s1, s2⟩
    · refine ⟨0, σ2, _, of_wp (hC _ (wp_ifT rfl (wp_some rfl))), hR _ F1.asksSign, g2.j.tr kC, fR5.tr (fu ρ5), Or.inl ⟨rfl, F1.up (Or.inr (Or.inr (Or.inr ⟨rfl, by decide⟩))), ?_, ?_⟩⟩
      · rw [up_ne (by omega)]; omega
      · rw [up_ne (by omega)]; omega
    · obtain ⟨P2, R2, m3, -, m5, m6, m7, m8, m9, m10⟩ := id J2
      obtain ⟨σ3, g3, g4, P3⟩ := P2.passSign (n := n) (c := 41) hT i41 hn
      obtain ⟨ρ6, z1, z2, z3⟩ := R2.asksSign (n := n) (c := 41) hT i41 hn
      have nb2 := nx_b (B := B) P2.2.2.1
      cases hs : sgB B L b' 41
      · rw [hs] at g3
        rw [hs, if_neg (by decide)] at P3 z3
        refine ⟨0, σ3, _, of_wp (hC _ (wp_ifF (by decide) (wp_bnd2 (wp_of g3 (wp_ifT rfl (wp_some rfl)))))), hR _ z1, g2.j.tr (kC.tr g4.j), fR5.tr (z2.j.tr (fu ρ6)), Or.inl ⟨rfl, by rw [P3.2.2.2.1]; exact z3.up (Or.inr (Or.inr (Or.inr ⟨rfl, by decide⟩))), ?_, ?_⟩⟩
        · rw [up_ne (by omega), z2 57 20 (by omega), m6]; omega
        · have := P2.2.2.1
          rw [up_ne (by omega), z2 57 20 (by omega), m6]; omega
      · rw [hs] at g3
        rw [hs, if_pos rfl] at P3 z3
        have te2 := te_b (B := B) P2.2.2.1
        have J3 := (J2.mv g4 z2 P3 z3 (by omega)).dp (v := ρ6 57 21 - 1) (dp' := dp) (by rw [z2 57 21 (by omega), m7]; omega) (by omega)
        refine ⟨1, σ3, _, of_wp (hC _ (wp_ifF (by decide) (wp_bnd2 (wp_of g3 (wp_ifF (by dsimp only; decide) (wp_some rfl)))))), hR _ z1, g2.j.tr (kC.tr g4.j), fR5.tr (z2.j.tr (fu ρ6)), Or.inr ⟨rfl, nx B L b', st', cd', ⟨J3, by omega, by omega, by omega, k4, k5, fun i hi => ?_, fun i hi => ?_⟩, d, hB, ?_, ?_⟩⟩
        · rw [g4 _ _ (by omega), g4 _ _ (by omega), (k6 i hi).1, (k6 i hi).2, g2 _ _ (by omega), g2 _ _ (by omega)]
          exact ⟨rfl, rfl⟩
        · rw [up_ne (by omega), z2 63 i (by omega), k7 i hi, hc4 63 i (by omega)]
        · exact (s1.cg (fun i _ _ => ⟨g4 _ _ (by omega), g4 _ _ (by omega)⟩)).u (by unfold uC uS; omega)
        · exact (s2.cg (fun i _ _ => by rw [up_ne (by omega), z2 63 i (by omega)])).u (by unfold uC uS; omega)
  · have h6 : ¬ w32 (dp : Int) < 6 := by rw [hd]; decide
    refine ⟨0, σ, ρ3, of_wp ?_, of_wp ?_, FjC.rf, x2.j, Or.inl ⟨rfl, by rw [P.2.2.2.1]; exact x3, by rw [x2 57 20 (by omega), j6]; omega, by rw [x2 57 20 (by omega), j6]; omega⟩⟩
    · rw [JR_3]
      unfold X3_passGroup_b
      exact wp_ifF h6 (wp_some rfl)
    · unfold grpR
      exact wp_bnd2 (wp_of x1 (wp_ifT rfl (wp_some rfl)))
/-- twice not -/
theorem CC.ext {J : Nat} {K V : Nat → Int} {a b u : Nat} {d d' : Dn} (h : CC J K V a b u d) (e : ∀ F, (d' F).2 = (d F).2 ∧ ((d F).2 = 0 → (d' F).1 = (d F).1)) : CC J K V a b u d' := by
  refine ⟨h.1, fun n st to F σ0 g1 g2 g3 g4 h' T fl σ g5 g6 g7 => ?_⟩
  obtain ⟨c, z, σ', p1, p2, p3⟩ := h.2 n st to F σ0 g1 g2 g3 g4 h' T fl σ g5 g6 g7
  obtain ⟨e1, e2⟩ := e F
  refine ⟨c, z, σ', p1, p2, ?_⟩
  rw [e1]
  rcases p3 with ⟨q1, q2⟩ | q
  · rw [e2 q1]
    exact Or.inl ⟨q1, q2⟩
  · exact Or.inr q
theorem dnot2 {d : Dn} (F : Fx) : (dnot (dnot d) F).2 = (d F).2 ∧ ((d F).2 = 0 → (dnot (dnot d) F).1 = (d F).1) := by
  by_cases c : (d F).2 = 0
  · have h1 : dnot d F = (1 - (d F).1, 0) := if_neg (fun q => q c)
    have h2 : dnot (dnot d) F = (1 - (dnot d F).1, 0) := if_neg (by rw [h1]; exact fun q => q rfl)
    rw [h2, h1]
    refine ⟨c.symm, fun _ => ?_⟩
    dsimp only
    omega
  · have h1 : dnot d F = (0, (d F).2) := if_pos c
    have h2 : dnot (dnot d) F = (0, (dnot d F).2) := if_pos (by rw [h1]; exact c)
    rw [h2, h1]
    exact ⟨rfl, fun q => absurd q c⟩
