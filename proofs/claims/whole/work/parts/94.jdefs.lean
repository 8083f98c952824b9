/-! ===== the judge's text: what is written; once it failed ===== -/
theorem isg_c : isg 40 ∧ isg 41 ∧ isg 42 ∧ isg 43 ∧ isg 45 ∧ isg 47 ∧ isg 60 ∧ isg 61 ∧ isg 62 ∧ isg 91 ∧ isg 93 := by
  refine ⟨?_, ?_, ?_, ?_, ?_, ?_, ?_, ?_, ?_, ?_, ?_⟩ <;> (unfold isg; decide)
def FjC (T : Nat) (σ σ' : SG) : Prop := ∀ c j, ¬ (c = 15 ∧ 2 ≤ j ∧ j ≤ 5) → ¬ (c = T ∧ j = 2) → c ≠ T + 1 → c ≠ T + 2 → σ' c j = σ c j
def FjR (ρ ρ' : SG) : Prop := ∀ c j, ¬ (c = 57 ∧ (j = 4 ∨ j = 5 ∨ j = 7 ∨ j = 20 ∨ j = 21)) → c ≠ 63 → ρ' c j = ρ c j
theorem FjC.rf {T : Nat} {σ : SG} : FjC T σ σ := fun _ _ _ _ _ _ => rfl
theorem FjC.tr {T : Nat} {σ τ υ : SG} (h : FjC T σ τ) (h' : FjC T τ υ) : FjC T σ υ := fun c j a b d e => (h' c j a b d e).trans (h c j a b d e)
theorem FjR.rf {σ : SG} : FjR σ σ := fun _ _ _ _ => rfl
theorem FjR.tr {σ τ υ : SG} (h : FjR σ τ) (h' : FjR τ υ) : FjR σ υ := fun c j a b => (h' c j a b).trans (h c j a b)
theorem FrT.j {T : Nat} {σ τ : SG} (h : FrT σ τ) : FjC T σ τ := fun c j a _ _ _ => h c j a
theorem FrK.j {σ τ : SG} (h : FrK σ τ) : FjR σ τ := fun c j a _ => h c j (by omega)
/-- both are at b; so many steps, codes, so deep -/
def JS (σ ρ : SG) (B : Nat → Int) (L T b st cd dp : Nat) : Prop := TC σ B L b ∧ TR ρ B L b ∧ σ 18 1 = (T : Int) ∧ (T = 7 ∨ T = 26) ∧ σ T 2 = (st : Int) ∧ ρ 57 20 = (cd : Int) ∧ ρ 57 21 = (dp : Int) ∧ st ≤ b ∧ cd ≤ b ∧ dp ≤ 6
/-- a text's piece failed -/
def JF (B : Nat → Int) (L D : Nat) (v : Int) (σ' ρ' : SG) : Prop := v = 0 ∧ FR ρ' B L (σ' 15 3) ∧ 0 ≤ ρ' 57 20 ∧ ρ' 57 20 ≤ 400 + (D : Int)
/-- it stands, and what was there stays -/
def JK (B : Nat → Int) (L T b st cd dp : Nat) (σ ρ σ' ρ' : SG) (b' st' cd' : Nat) : Prop := JS σ' ρ' B L T b' st' cd' dp ∧ b < b' ∧ st' + b ≤ st + b' ∧ cd' + b ≤ cd + b' ∧ st ≤ st' ∧ cd ≤ cd' ∧ (∀ i, i < st → σ' (T + 1) i = σ (T + 1) i ∧ σ' (T + 2) i = σ (T + 2) i) ∧ ∀ i, i < cd → ρ' 63 i = ρ 63 i
abbrev SemT : Type := (Nat → Int) → (Nat → Int) → Nat → Nat → (Nat → Int) → Nat → Nat → Prop
def JO (sem : SemT) (B : Nat → Int) (L T b st cd dp D : Nat) (σ ρ : SG) (v : Int) (σ' ρ' : SG) : Prop := FjC T σ σ' ∧ FjR ρ ρ' ∧ (JF B L D v σ' ρ' ∨ (v = 1 ∧ ∃ b' st' cd', JK B L T b st cd dp σ ρ σ' ρ' b' st' cd' ∧ sem (σ' (T + 1)) (σ' (T + 2)) st st' (ρ' 63) cd cd'))
def semS (T u : Nat) : SemT := fun K V a b Kr a' b' => ∃ d : Dn, CS T K V a b u d ∧ RS Kr a' b' u d
def semC (T u : Nat) : SemT := fun K V a b Kr a' b' => ∃ d : Dn, Bl d ∧ CC T K V a b u d ∧ RS Kr a' b' u d
theorem jwrite_ok {σ : SG} {T st n : Nat} {kind v : Int} (h2 : σ T 2 = (st : Int)) (hs : st < 400) : ∃ σ', X2_write n T kind v σ = some ((st : Int), σ') ∧ σ' T 2 = ((st + 1 : Nat) : Int) ∧ σ' (T + 1) st = kind ∧ σ' (T + 2) st = v ∧ ∀ c j, ¬ (c = T ∧ j = 2) → ¬ (c = T + 1 ∧ j = st) → ¬ (c = T + 2 ∧ j = st) → σ' c j = σ c j := by
  refine ⟨up (up (up σ (T + 1) st kind) (T + 2) st v) T 2 (up (up σ (T + 1) st kind) (T + 2) st v T 2 + 1), of_wp ?_, ?_, ?_, ?_, fun c j q1 q2 q3 => ?_⟩
  · unfold X2_write X2_write_j42
    refine wp_bind (wp_ifF (by rw [h2, w32i (by omega)]; omega) (wp_rdI st h2 (by omega) (by decide) (wp_lt (wp_rdI st (by rw [up_ne (by omega)]; exact h2) (by omega) (by decide) (wp_lt (wp_lt (wp_some (wp_some ?_))))))))
    rw [up_eq rfl rfl, up_ne (by omega), up_ne (by omega), h2]
    congr 1
    omega
  · rw [up_eq rfl rfl, up_ne (by omega), up_ne (by omega), h2]
    omega
  · rw [up_ne (by omega), up_ne (by omega), up_eq rfl rfl]
  · rw [up_ne (by omega), up_eq rfl rfl]
  · rw [up_ne q1, up_ne q3, up_ne q2]
theorem codes_ok {ρ : SG} {cd n : Nat} {v : Int} (h : ρ 57 20 = (cd : Int)) (hc : cd < 900) : ∃ ρ', X12_codes n v ρ = some ρ' ∧ ρ' 57 20 = ((cd + 1 : Nat) : Int) ∧ ρ' 63 cd = v ∧ ∀ c j, ¬ (c = 57 ∧ j = 20) → ¬ (c = 63 ∧ j = cd) → ρ' c j = ρ c j := by
  refine ⟨up (up ρ 63 cd v) 57 20 (up ρ 63 cd v 57 20 + 1), of_wp ?_, ?_, ?_, fun c j q1 q2 => ?_⟩
  · unfold X12_codes
    exact wp_rdI cd h (by omega) (by decide) (wp_lt (wp_lt (wp_some rfl)))
  · rw [up_eq rfl rfl, up_ne (by omega), h]
    omega
  · rw [up_ne (by omega), up_eq rfl rfl]
  · rw [up_ne q1, up_ne q2]
/-- codes, once it failed -/
theorem FR.codes {ρ : SG} {B : Nat → Int} {L n : Nat} {x v : Int} (h : FR ρ B L x) (hc : 0 ≤ ρ 57 20 ∧ ρ 57 20 < 900) : ∃ ρ', X12_codes n v ρ = some ρ' ∧ FR ρ' B L x ∧ FjR ρ ρ' ∧ ρ' 57 20 = ρ 57 20 + 1 := by
  obtain ⟨cd, hcd⟩ := nat_of hc.1
  obtain ⟨ρ', e1, e2, -, e4⟩ := codes_ok (n := n) (v := v) hcd (by omega)
  exact ⟨ρ', e1, h.cg (fun j hj => e4 57 j (by omega) (by omega)) (fun j => e4 58 j (by omega) (by omega)), fun c j q1 q2 => e4 c j (by omega) (by omega), by rw [e2, hcd]; omega⟩
/-! the reference's pieces, once it failed: nothing is written -/
def FRO (ρ : SG) (B : Nat → Int) (L : Nat) (x : Int) (ρ' : SG) : Prop := FR ρ' B L x ∧ FrK ρ ρ'
theorem FR.part {ρ : SG} {B : Nat → Int} {L n D : Nat} {x : Int} (h : FR ρ B L x) : MJ n (D + 1) 5 ρ = some ρ := by
  refine of_wp ?_
  show wp (X12_part_b (MJ n D) n ρ) _
  unfold X12_part_b
  exact wp_bind (wp_of h.hf (wp_ifF (by decide) (wp_some rfl)))
theorem FR.atom {ρ : SG} {B : Nat → Int} {L n D : Nat} {x : Int} (h : FR ρ B L x) : MJ n (D + 1) 2 ρ = some ρ := by
  refine of_wp ?_
  show wp (X12_atom_b (MJ n D) n ρ) _
  unfold X12_atom_b
  exact wp_bind (wp_of h.hf (wp_ifF (by decide) (wp_some rfl)))
/-- the loop of signs, once it failed -/
theorem FR.productL {ρ : SG} {B : Nat → Int} {L n m : Nat} {x : Int} {rec : Nat → SG → Option SG} (h : FR ρ B L x) (hT : Txt B L) (hn : 500 < n) (hm : 1 < m) : wp (iter m (fun s : Int × SG => X12_product_l6 rec n s.1 s.2) (1, ρ)) (fun ρ' => FRO ρ B L x ρ') := by
  obtain ⟨a, rfl⟩ : ∃ a, m = a + 1 + 1 := ⟨m - 2, by omega⟩
  obtain ⟨ρ1, e1, e2, e3⟩ := h.takes (n := n) (c := 42) hT hn
  obtain ⟨ρ2, u1, u2, u3⟩ := e3.takes (n := n) (c := 47) hT hn
  have s1 : X12_product_l6 rec n 1 ρ = some (.inl (0, ρ2)) := of_wp (by
    unfold X12_product_l6 X12_product_j39 X12_product_j50
    exact wp_ifF (by decide) (wp_bnd2 (wp_of e1 (wp_bind (wp_ifT rfl (wp_bnd2 (wp_of u1 (wp_ifT rfl (wp_some (wp_bind (wp_ifT rfl (wp_some (wp_ifT rfl (wp_some rfl))))))))))))))
  have s2 : X12_product_l6 rec n 0 ρ2 = some (.inr ρ2) := of_wp (by
    unfold X12_product_l6
    exact wp_ifT rfl (wp_some rfl))
  exact ⟨ρ2, (iter_l (f := fun s : Int × SG => X12_product_l6 rec n s.1 s.2) (a := (1, ρ)) s1).trans (iter_r (f := fun s : Int × SG => X12_product_l6 rec n s.1 s.2) (a := (0, ρ2)) s2), u3, e2.tr u2⟩
theorem FR.sumL {ρ : SG} {B : Nat → Int} {L n m : Nat} {x : Int} {rec : Nat → SG → Option SG} (h : FR ρ B L x) (hT : Txt B L) (hn : 500 < n) (hm : 1 < m) : wp (iter m (fun s : Int × SG => X12_sum_l6 rec n s.1 s.2) (1, ρ)) (fun ρ' => FRO ρ B L x ρ') := by
  obtain ⟨a, rfl⟩ : ∃ a, m = a + 1 + 1 := ⟨m - 2, by omega⟩
  obtain ⟨ρ1, e1, e2, e3⟩ := h.takes (n := n) (c := 43) hT hn
  obtain ⟨ρ2, u1, u2, u3⟩ := e3.takes (n := n) (c := 45) hT hn
  have s1 : X12_sum_l6 rec n 1 ρ = some (.inl (0, ρ2)) := of_wp (by
    unfold X12_sum_l6 X12_sum_j39 X12_sum_j50
    exact wp_ifF (by decide) (wp_bnd2 (wp_of e1 (wp_bind (wp_ifT rfl (wp_bnd2 (wp_of u1 (wp_ifT rfl (wp_some (wp_bind (wp_ifT rfl (wp_some (wp_ifT rfl (wp_some rfl))))))))))))))
  have s2 : X12_sum_l6 rec n 0 ρ2 = some (.inr ρ2) := of_wp (by
    unfold X12_sum_l6
    exact wp_ifT rfl (wp_some rfl))
  exact ⟨ρ2, (iter_l (f := fun s : Int × SG => X12_sum_l6 rec n s.1 s.2) (a := (1, ρ)) s1).trans (iter_r (f := fun s : Int × SG => X12_sum_l6 rec n s.1 s.2) (a := (0, ρ2)) s2), u3, e2.tr u2⟩
theorem FR.product {ρ : SG} {B : Nat → Int} {L n D : Nat} {x : Int} (h : FR ρ B L x) (hT : Txt B L) (hn : 500 < n) : wp (MJ n (D + 2) 4 ρ) (fun ρ' => FRO ρ B L x ρ') := by
  show wp (X12_product_b (MJ n (D + 1)) n ρ) _
  unfold X12_product_b
  refine wp_bind (wp_of h.part (wp_bind (wp_mono (h.productL hT hn (by omega)) (fun ρ' hp => ?_))))
  unfold X12_product_e6
  exact wp_some hp
theorem FR.sum {ρ : SG} {B : Nat → Int} {L n D : Nat} {x : Int} (h : FR ρ B L x) (hT : Txt B L) (hn : 500 < n) : wp (MJ n (D + 3) 3 ρ) (fun ρ' => FRO ρ B L x ρ') := by
  show wp (X12_sum_b (MJ n (D + 2)) n ρ) _
  unfold X12_sum_b
  refine wp_bind (wp_mono (h.product hT hn) (fun ρ1 h1 => wp_bind (wp_mono (h1.1.sumL hT hn (by omega)) (fun ρ' hp => ?_))))
  unfold X12_sum_e6
  exact wp_some ⟨hp.1, h1.2.tr hp.2⟩
theorem FR.everyL {ρ : SG} {B : Nat → Int} {L n m : Nat} {x : Int} {rec : Nat → SG → Option SG} (h : FR ρ B L x) (hn : 500 < n) (hm : 0 < m) : iter m (fun s : SG => X12_every_l4 rec n s) ρ = some ρ := by
  obtain ⟨a, rfl⟩ : ∃ a, m = a + 1 := ⟨m - 1, by omega⟩
  refine iter_r (of_wp ?_)
  unfold X12_every_l4
  exact wp_bnd2 (wp_of (h.takesWord hn) (wp_ifT rfl (wp_some rfl)))
theorem FR.someL {ρ : SG} {B : Nat → Int} {L n m : Nat} {x : Int} {rec : Nat → SG → Option SG} (h : FR ρ B L x) (hn : 500 < n) (hm : 0 < m) : iter m (fun s : SG => X12_some_l4 rec n s) ρ = some ρ := by
  obtain ⟨a, rfl⟩ : ∃ a, m = a + 1 := ⟨m - 1, by omega⟩
  refine iter_r (of_wp ?_)
  unfold X12_some_l4
  exact wp_bnd2 (wp_of (h.takesWord hn) (wp_ifT rfl (wp_some rfl)))
theorem FR.every {ρ : SG} {B : Nat → Int} {L n D : Nat} {x : Int} (h : FR ρ B L x) (hn : 500 < n) : MJ n (D + 2) 1 ρ = some ρ := by
  refine of_wp ?_
  show wp (X12_every_b (MJ n (D + 1)) n ρ) _
  unfold X12_every_b X12_every_e4
  exact wp_bind (wp_of h.atom (wp_bind (wp_of (h.everyL hn (by omega)) (wp_some rfl))))
theorem FR.anyF {ρ : SG} {B : Nat → Int} {L n D : Nat} {x : Int} (h : FR ρ B L x) (hn : 500 < n) : MJ n (D + 3) 0 ρ = some ρ := by
  refine of_wp ?_
  show wp (X12_some_b (MJ n (D + 2)) n ρ) _
  unfold X12_some_b X12_some_e4
  exact wp_bind (wp_of (h.every hn) (wp_bind (wp_of (h.someL hn (by omega)) (wp_some rfl))))
/-! a fact's word -/
theorem fx_eq : strB 56 = strB 14 ∧ strB 57 = strB 15 ∧ strB 60 = strB 16 ∧ strB 61 = strB 17 ∧ strB 62 = strB 18 ∧ strB 63 = strB 19 ∧ strB 64 = strB 20 ∧ strB 65 = strB 21 := by decide +kernel
theorem fact_ok {σ ρ : SG} {B : Nat → Int} {L b n : Nat} (P : TC σ B L b) (R : TR ρ B L b) (hT : Txt B L) (hn : 500 < n) : ∃ (f : Int) (ρ' : SG), X3_factTold n σ = some f ∧ X12_fact n ρ = some (f, ρ') ∧ FrK ρ ρ' ∧ ((f = -1 ∧ TB ρ' B L b) ∨ (∃ k : Nat, f = (k : Int) ∧ k < 8 ∧ kd B L b = 1 ∧ TR ρ' B L (nx B L b))) := by
  obtain ⟨x0, x1, x2, x3, x4, x5, x6, x7⟩ := fx_eq
  have hb := P.2.2.1
  obtain ⟨ρ0, u0, f0, t0⟩ := R.takesWord (n := n) (a := 56) hT (by decide) hn
  rw [x0] at u0 t0
  have c0 := P.isWord (n := n) (a := 14) hT (by decide) hn
  cases q0 : waB B L b (strB 14)
  case true =>
    rw [q0] at u0 c0
    rw [q0, if_pos rfl] at t0
    refine ⟨(0 : Int), ρ0, of_wp ?_, of_wp ?_, f0, Or.inr ⟨0, rfl, by decide, (wa_nx q0 hb).2.1, t0⟩⟩
    · unfold X3_factTold
      exact wp_bind (wp_of c0 (wp_ifF (by decide) (wp_some rfl)))
    · unfold X12_fact
      exact wp_bnd2 (wp_of u0 (wp_ifF (by dsimp only; decide) (wp_some rfl)))
  rw [q0] at u0 c0
  rw [q0, if_neg (by decide)] at t0
  obtain ⟨ρ1, u1, f1, t1⟩ := t0.tr.takesWord (n := n) (a := 57) hT (by decide) hn
  rw [x1] at u1 t1
  have c1 := P.isWord (n := n) (a := 15) hT (by decide) hn
  cases q1 : waB B L b (strB 15)
  case true =>
    rw [q1] at u1 c1
    rw [q1, if_pos rfl] at t1
    refine ⟨(1 : Int), ρ1, of_wp ?_, of_wp ?_, f0.tr (f1), Or.inr ⟨1, rfl, by decide, (wa_nx q1 hb).2.1, t1⟩⟩
    · unfold X3_factTold
      exact wp_bind (wp_of c0 (wp_ifT rfl (wp_bind (wp_of c1 (wp_ifF (by decide) (wp_some rfl))))))
    · unfold X12_fact
      exact wp_bnd2 (wp_of u0 (wp_ifT rfl (wp_bnd2 (wp_of u1 (wp_ifF (by dsimp only; decide) (wp_some rfl))))))
  rw [q1] at u1 c1
  rw [q1, if_neg (by decide)] at t1
  obtain ⟨ρ2, u2, f2, t2⟩ := t1.tr.takesWord (n := n) (a := 60) hT (by decide) hn
  rw [x2] at u2 t2
  have c2 := P.isWord (n := n) (a := 16) hT (by decide) hn
  cases q2 : waB B L b (strB 16)
  case true =>
    rw [q2] at u2 c2
    rw [q2, if_pos rfl] at t2
    refine ⟨(2 : Int), ρ2, of_wp ?_, of_wp ?_, f0.tr (f1.tr (f2)), Or.inr ⟨2, rfl, by decide, (wa_nx q2 hb).2.1, t2⟩⟩
    · unfold X3_factTold
      exact wp_bind (wp_of c0 (wp_ifT rfl (wp_bind (wp_of c1 (wp_ifT rfl (wp_bind (wp_of c2 (wp_ifF (by decide) (wp_some rfl)))))))))
    · unfold X12_fact
      exact wp_bnd2 (wp_of u0 (wp_ifT rfl (wp_bnd2 (wp_of u1 (wp_ifT rfl (wp_bnd2 (wp_of u2 (wp_ifF (by dsimp only; decide) (wp_some rfl)))))))))
  rw [q2] at u2 c2
  rw [q2, if_neg (by decide)] at t2
  obtain ⟨ρ3, u3, f3, t3⟩ := t2.tr.takesWord (n := n) (a := 61) hT (by decide) hn
  rw [x3] at u3 t3
  have c3 := P.isWord (n := n) (a := 17) hT (by decide) hn
  cases q3 : waB B L b (strB 17)
  case true =>
    rw [q3] at u3 c3
    rw [q3, if_pos rfl] at t3
    refine ⟨(3 : Int), ρ3, of_wp ?_, of_wp ?_, f0.tr (f1.tr (f2.tr (f3))), Or.inr ⟨3, rfl, by decide, (wa_nx q3 hb).2.1, t3⟩⟩
    · unfold X3_factTold
      exact wp_bind (wp_of c0 (wp_ifT rfl (wp_bind (wp_of c1 (wp_ifT rfl (wp_bind (wp_of c2 (wp_ifT rfl (wp_bind (wp_of c3 (wp_ifF (by decide) (wp_some rfl))))))))))))
    · unfold X12_fact
      exact wp_bnd2 (wp_of u0 (wp_ifT rfl (wp_bnd2 (wp_of u1 (wp_ifT rfl (wp_bnd2 (wp_of u2 (wp_ifT rfl (wp_bnd2 (wp_of u3 (wp_ifF (by dsimp only; decide) (wp_some rfl))))))))))))
  rw [q3] at u3 c3
  rw [q3, if_neg (by decide)] at t3
  obtain ⟨ρ4, u4, f4, t4⟩ := t3.tr.takesWord (n := n) (a := 62) hT (by decide) hn
  rw [x4] at u4 t4
  have c4 := P.isWord (n := n) (a := 18) hT (by decide) hn
  cases q4 : waB B L b (strB 18)
  case true =>
    rw [q4] at u4 c4
    rw [q4, if_pos rfl] at t4
    refine ⟨(4 : Int), ρ4, of_wp ?_, of_wp ?_, f0.tr (f1.tr (f2.tr (f3.tr (f4)))), Or.inr ⟨4, rfl, by decide, (wa_nx q4 hb).2.1, t4⟩⟩
    · unfold X3_factTold
      exact wp_bind (wp_of c0 (wp_ifT rfl (wp_bind (wp_of c1 (wp_ifT rfl (wp_bind (wp_of c2 (wp_ifT rfl (wp_bind (wp_of c3 (wp_ifT rfl (wp_bind (wp_of c4 (wp_ifF (by decide) (wp_some rfl)))))))))))))))
    · unfold X12_fact
      exact wp_bnd2 (wp_of u0 (wp_ifT rfl (wp_bnd2 (wp_of u1 (wp_ifT rfl (wp_bnd2 (wp_of u2 (wp_ifT rfl (wp_bnd2 (wp_of u3 (wp_ifT rfl (wp_bnd2 (wp_of u4 (wp_ifF (by dsimp only; decide) (wp_some rfl)))))))))))))))
  rw [q4] at u4 c4
  rw [q4, if_neg (by decide)] at t4
  obtain ⟨ρ5, u5, f5, t5⟩ := t4.tr.takesWord (n := n) (a := 63) hT (by decide) hn
  rw [x5] at u5 t5
  have c5 := P.isWord (n := n) (a := 19) hT (by decide) hn
  cases q5 : waB B L b (strB 19)
  case true =>
    rw [q5] at u5 c5
    rw [q5, if_pos rfl] at t5
    refine ⟨(5 : Int), ρ5, of_wp ?_, of_wp ?_, f0.tr (f1.tr (f2.tr (f3.tr (f4.tr (f5))))), Or.inr ⟨5, rfl, by decide, (wa_nx q5 hb).2.1, t5⟩⟩
    · unfold X3_factTold
      exact wp_bind (wp_of c0 (wp_ifT rfl (wp_bind (wp_of c1 (wp_ifT rfl (wp_bind (wp_of c2 (wp_ifT rfl (wp_bind (wp_of c3 (wp_ifT rfl (wp_bind (wp_of c4 (wp_ifT rfl (wp_bind (wp_of c5 (wp_ifF (by decide) (wp_some rfl))))))))))))))))))
    · unfold X12_fact
      exact wp_bnd2 (wp_of u0 (wp_ifT rfl (wp_bnd2 (wp_of u1 (wp_ifT rfl (wp_bnd2 (wp_of u2 (wp_ifT rfl (wp_bnd2 (wp_of u3 (wp_ifT rfl (wp_bnd2 (wp_of u4 (wp_ifT rfl (wp_bnd2 (wp_of u5 (wp_ifF (by dsimp only; decide) (wp_some rfl))))))))))))))))))
  rw [q5] at u5 c5
  rw [q5, if_neg (by decide)] at t5
  obtain ⟨ρ6, u6, f6, t6⟩ := t5.tr.takesWord (n := n) (a := 64) hT (by decide) hn
  rw [x6] at u6 t6
  have c6 := P.isWord (n := n) (a := 20) hT (by decide) hn
  cases q6 : waB B L b (strB 20)
  case true =>
    rw [q6] at u6 c6
    rw [q6, if_pos rfl] at t6
    refine ⟨(6 : Int), ρ6, of_wp ?_, of_wp ?_, f0.tr (f1.tr (f2.tr (f3.tr (f4.tr (f5.tr (f6)))))), Or.inr ⟨6, rfl, by decide, (wa_nx q6 hb).2.1, t6⟩⟩
    · unfold X3_factTold
      exact wp_bind (wp_of c0 (wp_ifT rfl (wp_bind (wp_of c1 (wp_ifT rfl (wp_bind (wp_of c2 (wp_ifT rfl (wp_bind (wp_of c3 (wp_ifT rfl (wp_bind (wp_of c4 (wp_ifT rfl (wp_bind (wp_of c5 (wp_ifT rfl (wp_bind (wp_of c6 (wp_ifF (by decide) (wp_some rfl)))))))))))))))))))))
    · unfold X12_fact
      exact wp_bnd2 (wp_of u0 (wp_ifT rfl (wp_bnd2 (wp_of u1 (wp_ifT rfl (wp_bnd2 (wp_of u2 (wp_ifT rfl (wp_bnd2 (wp_of u3 (wp_ifT rfl (wp_bnd2 (wp_of u4 (wp_ifT rfl (wp_bnd2 (wp_of u5 (wp_ifT rfl (wp_bnd2 (wp_of u6 (wp_ifF (by dsimp only; decide) (wp_some rfl)))))))))))))))))))))
  rw [q6] at u6 c6
  rw [q6, if_neg (by decide)] at t6
  obtain ⟨ρ7, u7, f7, t7⟩ := t6.tr.takesWord (n := n) (a := 65) hT (by decide) hn
  rw [x7] at u7 t7
  have c7 := P.isWord (n := n) (a := 21) hT (by decide) hn
  cases q7 : waB B L b (strB 21)
  case true =>
    rw [q7] at u7 c7
    rw [q7, if_pos rfl] at t7
    refine ⟨(7 : Int), ρ7, of_wp ?_, of_wp ?_, f0.tr (f1.tr (f2.tr (f3.tr (f4.tr (f5.tr (f6.tr (f7))))))), Or.inr ⟨7, rfl, by decide, (wa_nx q7 hb).2.1, t7⟩⟩
    · unfold X3_factTold
      exact wp_bind (wp_of c0 (wp_ifT rfl (wp_bind (wp_of c1 (wp_ifT rfl (wp_bind (wp_of c2 (wp_ifT rfl (wp_bind (wp_of c3 (wp_ifT rfl (wp_bind (wp_of c4 (wp_ifT rfl (wp_bind (wp_of c5 (wp_ifT rfl (wp_bind (wp_of c6 (wp_ifT rfl (wp_bind (wp_of c7 (wp_ifF (by decide) (wp_some rfl))))))))))))))))))))))))
    · unfold X12_fact
      exact wp_bnd2 (wp_of u0 (wp_ifT rfl (wp_bnd2 (wp_of u1 (wp_ifT rfl (wp_bnd2 (wp_of u2 (wp_ifT rfl (wp_bnd2 (wp_of u3 (wp_ifT rfl (wp_bnd2 (wp_of u4 (wp_ifT rfl (wp_bnd2 (wp_of u5 (wp_ifT rfl (wp_bnd2 (wp_of u6 (wp_ifT rfl (wp_bnd2 (wp_of u7 (wp_ifF (by dsimp only; decide) (wp_some rfl))))))))))))))))))))))))
  rw [q7] at u7 c7
  rw [q7, if_neg (by decide)] at t7
  refine ⟨-1, ρ7, of_wp ?_, of_wp ?_, f0.tr (f1.tr (f2.tr (f3.tr (f4.tr (f5.tr (f6.tr (f7))))))), Or.inl ⟨rfl, t7⟩⟩
  · unfold X3_factTold
    exact wp_bind (wp_of c0 (wp_ifT rfl (wp_bind (wp_of c1 (wp_ifT rfl (wp_bind (wp_of c2 (wp_ifT rfl (wp_bind (wp_of c3 (wp_ifT rfl (wp_bind (wp_of c4 (wp_ifT rfl (wp_bind (wp_of c5 (wp_ifT rfl (wp_bind (wp_of c6 (wp_ifT rfl (wp_bind (wp_of c7 (wp_ifT rfl (wp_some rfl))))))))))))))))))))))))
  · unfold X12_fact
    exact wp_bnd2 (wp_of u0 (wp_ifT rfl (wp_bnd2 (wp_of u1 (wp_ifT rfl (wp_bnd2 (wp_of u2 (wp_ifT rfl (wp_bnd2 (wp_of u3 (wp_ifT rfl (wp_bnd2 (wp_of u4 (wp_ifT rfl (wp_bnd2 (wp_of u5 (wp_ifT rfl (wp_bnd2 (wp_of u6 (wp_ifT rfl (wp_bnd2 (wp_of u7 (wp_ifT rfl (wp_some rfl))))))))))))))))))))))))
