/-! ===== the judge's text: atoms, with their nots ===== -/
theorem nt_eq : strB 67 = strB 23 := by decide +kernel
theorem JR_2 {n E : Nat} {a : Int} {σ : SG} : JR n (E + 1) 2 a σ = X3_passAtom_b (JR n E) n a σ := rfl
theorem MJ_2 {n D : Nat} {ρ : SG} : MJ n (D + 1) 2 ρ = X12_atom_b (MJ n D) n ρ := rfl
def AO (B : Nat → Int) (L T b st cd dp D z1 : Nat) (σ ρ : SG) (v : Int) (σ' ρ' : SG) : Prop := FjC T σ σ' ∧ FjR ρ ρ' ∧ (JF B L D v σ' ρ' ∨ (v = 1 ∧ ∃ (b' st' cd' : Nat) (d : Dn), JS σ' ρ' B L T b' st' cd' dp ∧ b < b' ∧ st' + b ≤ st + b' + z1 ∧ cd' + b ≤ cd + b' ∧ st ≤ st' ∧ cd ≤ cd' ∧ (∀ i, i < st → σ' (T + 1) i = σ (T + 1) i ∧ σ' (T + 2) i = σ (T + 2) i) ∧ (∀ i, i < cd → ρ' 63 i = ρ 63 i) ∧ Bl d ∧ CC T (σ' (T + 1)) (σ' (T + 2)) st st' (uC dp) (if z1 = 0 then d else dnot d) ∧ RS (ρ' 63) cd cd' (uC dp) d))
/-- an atom that is no not -/
theorem core_ok {σ ρ : SG} {B : Nat → Int} {L T b st cd dp n D E : Nat} {e5 : Int} (J : JS σ ρ B L T b st cd dp) (hT : Txt B L) (hn : 500 < n) (hD : D ≤ 300) (hno : waB B L b (strB 23) = false) (hf : (L - b) + 9 * (6 - dp) + 12 ≤ 3 * (D + 1)) (Hs : PJ B L T n (semS T (uS dp)) D E 5 3 dp 3) (Hg : dp < 6 → PJ B L T n (semC T (uC (dp + 1))) D E 0 0 (dp + 1) 6) :
    ∃ v σ' ρ', (∀ Q, wp (X3_passAtom_j64 (JR n (E + 1)) n e5 v σ') Q → wp (X3_passAtom_e4 (JR n (E + 1)) n (dp : Int) e5 σ) Q) ∧ MJ n (D + 1) 2 ρ = some ρ' ∧ JO (semC T (uC dp)) B L T b st cd dp (D + 1) σ ρ v σ' ρ' := by
  obtain ⟨P, R, -⟩ := id J
  have i40 := isg_c.1
  obtain ⟨ρ1, u1, u2, u3⟩ := R.takesWord (n := n) (a := 67) hT (by decide) hn
  rw [nt_eq, hno] at u1 u3
  rw [if_neg (by decide)] at u3
  obtain ⟨ρ2, v1, v2, v3⟩ := u3.tr.isSign (n := n) hT i40 hn
  have c40 := P.isSign (n := n) hT i40
  have J2 := J.mv FrT.rf (u2.tr v2) P v3.tr (Nat.le_refl _)
  cases hs : sgB B L b 40
  · rw [hs] at v1 c40
    obtain ⟨v, σ', ρ', e1, e2, k1, k2, O⟩ := cmp_ok (n := n) (E := E) J2 hT hn hD (by omega) Hs
    refine ⟨v, σ', ρ', fun Q hQ => ?_, of_wp ?_, k1, (u2.tr v2).j.tr k2, ?_⟩
    · unfold X3_passAtom_e4
      exact wp_bind (wp_of c40 (wp_bind (wp_ifT rfl (wp_bnd2 (wp_of e1 (wp_some hQ))))))
    · rw [MJ_2]
      unfold X12_atom_b
      refine wp_bind (wp_of R.hf (wp_ifT rfl (wp_bnd2 (wp_of u1 (wp_ifT rfl (wp_bnd2 (wp_of v1 (wp_ifT rfl ?_))))))))
      show wp (cmpR (MJ n D) n ρ2) _
      exact wp_of e2 rfl
    · rcases O with F | ⟨h1, b', st', cd', ⟨q1, q2, q3, q4, q5, q6, q7, q8⟩, S⟩
      · exact Or.inl F
      · exact Or.inr ⟨h1, b', st', cd', ⟨q1, q2, q3, q4, q5, q6, q7, fun i hi => by rw [q8 i hi, v2 63 i (by omega), u2 63 i (by omega)]⟩, S⟩
  · rw [hs] at v1 c40
    obtain ⟨v, σ', ρ', e1, e2, k1, k2, O⟩ := grp_ok (n := n) (E := E) J2 hT hs hn (by omega) Hg
    refine ⟨v, σ', ρ', fun Q hQ => ?_, of_wp ?_, k1, (u2.tr v2).j.tr k2, ?_⟩
    · unfold X3_passAtom_e4
      exact wp_bind (wp_of c40 (wp_bind (wp_ifF (by decide) (wp_bnd2 (wp_of e1 (wp_some hQ))))))
    · rw [MJ_2]
      unfold X12_atom_b
      refine wp_bind (wp_of R.hf (wp_ifT rfl (wp_bnd2 (wp_of u1 (wp_ifT rfl (wp_bnd2 (wp_of v1 (wp_ifF (by dsimp only; decide) ?_))))))))
      show wp (grpR (MJ n D) n ρ2) _
      exact wp_of e2 rfl
    · rcases O with F | ⟨h1, b', st', cd', ⟨q1, q2, q3, q4, q5, q6, q7, q8⟩, S⟩
      · exact Or.inl F
      · exact Or.inr ⟨h1, b', st', cd', ⟨q1, q2, q3, q4, q5, q6, q7, fun i hi => by rw [q8 i hi, v2 63 i (by omega), u2 63 i (by omega)]⟩, S⟩
theorem atomL {B : Nat → Int} {L T dp n E : Nat} (hT : Txt B L) (hn : 500 < n) : ∀ D : Nat, D ≤ 300 → (∀ D', D' < D → PJ B L T n (semS T (uS dp)) D' E 5 3 dp 3) → (∀ D', D' < D → dp < 6 → PJ B L T n (semC T (uC (dp + 1))) D' E 0 0 (dp + 1) 6) → ∀ (z1 k : Nat) (σ ρ : SG) (b st cd : Nat), (L - b) + 9 * (6 - dp) + 12 ≤ 3 * D → JS σ ρ B L T b st cd dp → z1 ≤ 1 → st + z1 ≤ b → k ≤ b → ∀ m, L - b < m → ∃ v σ' ρ', ((iter m (fun s : Int × Int × SG => X3_passAtom_l4 (JR n (E + 1)) n s.1 s.2.1 s.2.2) ((z1 : Int), (k : Int), σ)) : Option (Int × SG)).bind (fun s => X3_passAtom_e4 (JR n (E + 1)) n (dp : Int) s.1 s.2) = some (v, σ') ∧ MJ n D 2 ρ = some ρ' ∧ AO B L T b st cd dp D z1 σ ρ v σ' ρ' := by
  intro D
  induction D with
  | zero => intro _ _ _ z1 k σ ρ b st cd hf; omega
  | succ D ih =>
    intro hD Hs Hg z1 k σ ρ b st cd hf J hz hsz hkb m hm
    obtain ⟨m', rfl⟩ : ∃ m', m = m' + 1 := ⟨m - 1, by omega⟩
    obtain ⟨P, R, j3, hJ, j5, j6, j7, j8, j9, j10⟩ := id J
    have hL := hT.1
    have hb := P.2.2.1
    obtain ⟨σ1, g1, g2, P1⟩ := P.passWord (n := n) (a := 23) hT (by decide) hn
    cases hw : waB B L b (strB 23)
    · rw [hw] at g1
      rw [hw, if_neg (by decide)] at P1
      -- the class's loop ends here, at a state like this one
      obtain ⟨σ2, hl, f2, P2⟩ : ∃ σ2, X3_passAtom_l4 (JR n (E + 1)) n (z1 : Int) (k : Int) σ = some (.inr ((z1 : Int), σ2)) ∧ FrT σ σ2 ∧ TC σ2 B L b := by
        by_cases c : 400 ≤ w32 (k : Int)
        · refine ⟨σ, of_wp ?_, FrT.rf, P⟩
          unfold X3_passAtom_l4
          exact wp_ifT c (wp_some rfl)
        · refine ⟨σ1, of_wp ?_, g2, P1⟩
          unfold X3_passAtom_l4
          exact wp_ifF c (wp_bnd2 (wp_of g1 (wp_ifT rfl (wp_some rfl))))
      have J2 := J.mv f2 FrK.rf P2 R (Nat.le_refl _)
      obtain ⟨v, σ3, ρ3, e1, e2, k1, k2, O⟩ := core_ok (n := n) (E := E) (e5 := (z1 : Int)) J2 hT hn (by omega) hw (by omega) (Hs D (by omega)) (Hg D (by omega))
      have hC : ∀ Q : Int × SG → Prop, wp (X3_passAtom_j64 (JR n (E + 1)) n (z1 : Int) v σ3) Q → wp (((iter (m' + 1) (fun s : Int × Int × SG => X3_passAtom_l4 (JR n (E + 1)) n s.1 s.2.1 s.2.2) ((z1 : Int), (k : Int), σ)) : Option (Int × SG)).bind (fun s => X3_passAtom_e4 (JR n (E + 1)) n (dp : Int) s.1 s.2)) Q := fun Q hQ => wp_bind (wp_of (iter_r (f := fun s : Int × Int × SG => X3_passAtom_l4 (JR n (E + 1)) n s.1 s.2.1 s.2.2) (a := ((z1 : Int), (k : Int), σ)) hl) (e1 Q hQ))
      rcases O with ⟨rfl, F1, F2, F3⟩ | ⟨rfl, b', st', cd', ⟨q1, q2, q3, q4, q5, q6, q7, q8⟩, d, hB, S1, S2⟩
      · refine ⟨0, σ3, ρ3, of_wp (hC _ ?_), e2, f2.j.tr k1, k2, Or.inl ⟨rfl, F1, F2, F3⟩⟩
        unfold X3_passAtom_j64
        exact wp_ifT rfl (wp_some (by rw [wZ_0]))
      · have q7' : ∀ i, i < st → σ3 (T + 1) i = σ (T + 1) i ∧ σ3 (T + 2) i = σ (T + 2) i := fun i hi => by rw [(q7 i hi).1, (q7 i hi).2, f2 _ _ (by omega), f2 _ _ (by omega)]; exact ⟨rfl, rfl⟩
        by_cases z0 : z1 = 0
        · subst z0
          refine ⟨1, σ3, ρ3, of_wp (hC _ ?_), e2, f2.j.tr k1, k2, Or.inr ⟨rfl, b', st', cd', d, q1, q2, by omega, q4, q5, q6, q7', q8, hB, ?_, S2⟩⟩
          · unfold X3_passAtom_j64
            exact wp_ifF (by decide) (wp_ifT (by decide) (wp_some (by rw [wZ_1])))
          · rw [if_pos rfl]; exact S1
        · obtain rfl : z1 = 1 := by omega
          obtain ⟨σ4, w1, J4, w3, w4, w5, w6, w7⟩ := q1.wC (n := n) (kind := 9) (v := 0) hT (by omega)
          refine ⟨1, σ4, ρ3, of_wp (hC _ ?_), e2, f2.j.tr (k1.tr w6), k2, Or.inr ⟨rfl, b', st' + 1, cd', d, J4, q2, by omega, q4, by omega, q6, fun i hi => by rw [(w5 i (by omega)).1, (w5 i (by omega)).2]; exact q7' i hi, q8, hB, ?_, S2⟩⟩
          · unfold X3_passAtom_j64
            exact wp_ifF (by decide) (wp_ifF (by decide) (wp_ckI T q1.2.2.1 (isJudge_J hJ) (wp_bnd2 (wp_of w1 (wp_some (by rw [wZ_1]))))))
          · rw [if_neg (by decide)]
            exact CC_not (S1.cg (fun i i1 i2 => w5 i (by omega))) w3
    · rw [hw] at g1
      rw [hw, if_pos rfl] at P1
      obtain ⟨ρ1, u1, u2, u3⟩ := R.takesWord (n := n) (a := 67) hT (by decide) hn
      rw [nt_eq, hw] at u1 u3
      rw [if_pos rfl] at u3
      obtain ⟨w1, w2, w3, w4⟩ := wa_nx hw hb
      have hl3 : (strB 23).length = 3 := by decide
      have nb := nx_b (B := B) hb
      have J1 := J.mv g2 u2 P1 u3 (by omega)
      have hstep : X3_passAtom_l4 (JR n (E + 1)) n (z1 : Int) (k : Int) σ = some (.inl (((1 - z1 : Nat) : Int), ((k + 1 : Nat) : Int), σ1)) := of_wp (by
        unfold X3_passAtom_l4 X3_passAtom_j32
        refine wp_ifF (by rw [w32i (by omega)]; omega) (wp_bnd2 (wp_of g1 (wp_ifF (by dsimp only; decide) (wp_bind ?_))))
        rw [show (k : Int) + 1 = ((k + 1 : Nat) : Int) by omega]
        by_cases z0 : z1 = 0
        · subst z0
          exact wp_ifT (by decide) (wp_some (wp_lt (wp_some rfl)))
        · obtain rfl : z1 = 1 := by omega
          exact wp_ifF (by decide) (wp_some (wp_lt (wp_some rfl))))
      obtain ⟨v, σ2, ρ2, e1, e2, k1, k2, O⟩ := ih (by omega) (fun D' h => Hs D' (by omega)) (fun D' h => Hg D' (by omega)) (1 - z1) (k + 1) σ1 ρ1 (nx B L b) st cd (by omega) J1 (by omega) (by omega) (by omega) m' (by omega)
      have hC := (congrArg (fun o : Option (Int × SG) => o.bind (fun s => X3_passAtom_e4 (JR n (E + 1)) n (dp : Int) s.1 s.2)) (iter_l (n := m') (f := fun s : Int × Int × SG => X3_passAtom_l4 (JR n (E + 1)) n s.1 s.2.1 s.2.2) (a := ((z1 : Int), (k : Int), σ)) hstep)).trans e1
      have hR : ∀ ρ3, X12_codes n 27 ρ2 = some ρ3 → MJ n (D + 1) 2 ρ = some ρ3 := fun ρ3 h => of_wp (by
        rw [MJ_2]
        unfold X12_atom_b
        exact wp_bind (wp_of R.hf (wp_ifT rfl (wp_bnd2 (wp_of u1 (wp_ifF (by dsimp only; decide) (wp_bind (wp_of e2 (wp_bind (wp_of h (wp_some rfl)))))))))))
      rcases O with ⟨rfl, F1, F2, F3⟩ | ⟨rfl, b', st', cd', d, q1, q2, q3, q4, q5, q6, q7, q8, hB, S1, S2⟩
      · obtain ⟨ρ3, x1, x2, x3, x4⟩ := F1.codes (n := n) (v := 27) ⟨F2, by omega⟩
        exact ⟨0, σ2, ρ3, hC, hR _ x1, g2.j.tr k1, u2.j.tr (k2.tr x3), Or.inl ⟨rfl, x2, by rw [x4]; omega, by rw [x4]; omega⟩⟩
      · obtain ⟨ρ3, x1, J3, x3, x4, x5⟩ := q1.wR (n := n) (v := 27) hT (by omega)
        refine ⟨1, σ2, ρ3, hC, hR _ x1, g2.j.tr k1, u2.j.tr (k2.tr x5), Or.inr ⟨rfl, b', st', cd' + 1, dnot d, J3, by omega, by omega, by omega, q5, by omega, fun i hi => ?_, fun i hi => ?_, Bl_not hB, ?_, RS_not (S2.cg (fun i i1 i2 => x4 i (by omega))) hB x3⟩⟩
        · rw [(q7 i hi).1, (q7 i hi).2, g2 _ _ (by omega), g2 _ _ (by omega)]
          exact ⟨rfl, rfl⟩
        · rw [x4 i (by omega), q8 i hi, u2 63 i (by omega)]
        · by_cases z0 : z1 = 0
          · subst z0
            rw [if_pos rfl]
            rw [if_neg (by decide)] at S1
            exact S1
          · obtain rfl : z1 = 1 := by omega
            rw [if_neg (by decide)]
            rw [if_pos (by decide)] at S1
            exact S1.ext (fun F => dnot2 F)
theorem atom_ok {B : Nat → Int} {L T dp n D E : Nat} (hT : Txt B L) (hn : 500 < n) (hD : D ≤ 300) (Hs : ∀ D', D' < D → PJ B L T n (semS T (uS dp)) D' E 5 3 dp 3) (Hg : ∀ D', D' < D → dp < 6 → PJ B L T n (semC T (uC (dp + 1))) D' E 0 0 (dp + 1) 6) : PJ B L T n (semC T (uC dp)) D (E + 2) 2 2 dp 4 := by
  intro σ ρ b st cd hf J
  have hL := hT.1
  obtain ⟨v, σ', ρ', e1, e2, k1, k2, O⟩ := atomL (E := E) hT hn D hD Hs Hg 0 0 σ ρ b st cd (by omega) J (by omega) J.2.2.2.2.2.2.2.1 (by omega) n (by omega)
  refine ⟨v, σ', ρ', ?_, e2, k1, k2, ?_⟩
  · rw [show E + 2 = (E + 1) + 1 from rfl, JR_2]
    unfold X3_passAtom_b
    exact e1
  · rcases O with F | ⟨h1, b', st', cd', d, q1, q2, q3, q4, q5, q6, q7, q8, hB, S1, S2⟩
    · exact Or.inl F
    · exact Or.inr ⟨h1, b', st', cd', ⟨q1, q2, by omega, q4, q5, q6, q7, q8⟩, d, hB, by rw [if_pos rfl] at S1; exact S1, S2⟩
