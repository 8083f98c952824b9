/-! ===== the judge's text as a whole; a score ===== -/
/-- line l: from a its sum, from m its condition, up to b; in the reference from a', m' up to b' -/
def ILine (σ ρ : SG) (J st l : Nat) : Prop := ∃ a m b a' m' b' : Nat, ∃ d : Dn, σ (J + 4) l = (a : Int) ∧ σ (J + 5) l = (m : Int) ∧ σ (J + 4) (l + 1) = (b : Int) ∧ m ≤ b ∧ b ≤ st ∧ ρ 64 (4 * l + 1) = (a' : Int) ∧ ρ 64 (4 * l + 2) = (m' : Int) ∧ ρ 64 (4 * l + 3) = (b' : Int) ∧ b' ≤ 900 ∧ m' ≤ b' ∧
  ((σ (J + 3) l = 1 ∧ ρ 64 (4 * l) = 1) ∨ (σ (J + 3) l = 0 ∧ ρ 64 (4 * l) = -1)) ∧ CS J (σ (J + 1)) (σ (J + 2)) a m 24 d ∧ RS (ρ 62) a' m' 400 d ∧
  ((m = b ∧ m' = b') ∨ ∃ c : Dn, Bl c ∧ CC J (σ (J + 1)) (σ (J + 2)) m b 24 c ∧ RS (ρ 62) m' b' 400 c)
def IJud (σ ρ : SG) (J : Nat) : Prop := ∃ N st : Nat, N ≤ 10 ∧ σ J 6 = (N : Int) ∧ ρ 57 18 = (if N = 0 then -1 else (N : Int)) ∧ st ≤ 400 ∧ σ J 2 = (st : Int) ∧ ∀ l, l < N → ILine σ ρ J st l
theorem run_end {J n to : Nat} {z : Int} {σ : SG} (h : σ J 11 ≠ 0 ∧ rng (σ J 11) ∨ z = (to : Int)) (hto : to ≤ 400) : X2_run_l2 n (to : Int) J z σ = some (.inr σ) := by
  unfold X2_run_l2
  by_cases q1 : w32 z < 0
  · rw [if_pos q1]
  · rw [if_neg q1]
    by_cases q2 : w32 (to : Int) ≤ w32 z
    · rw [if_pos q2]
    · rw [if_neg q2]
      by_cases q3 : w32 (σ J 2) ≤ w32 z
      · rw [if_pos q3]
      · rw [if_neg q3]
        rcases h with ⟨h1, h2⟩ | rfl
        · rw [if_neg (by rw [w32_r h2]; exact h1)]
        · exact absurd (Int.le_refl _) q2
theorem runS_ok {J a b u st h : Nat} {K V T : Nat → Int} {d : Dn} {F : Fx} {σ0 σ : SG} {fl : Int} (C : CS J K V a b u d) (g : PG J σ0 K V a b st F) (hF : Fok F) (hb : b ≤ 400) (hu : h + u ≤ 24) (hfl : fl = 0 ∨ fl = 1) (cf : CF J σ0 h T fl σ) :
    ∃ σ', X2_run 1000 J (a : Int) (b : Int) σ = some σ' ∧ (((d F).2 = 0 ∧ rng (d F).1 ∧ CF J σ0 (h + 1) (setT T h (d F).1) fl σ') ∨ (((d F).2 = 1 ∨ (d F).2 = 2) ∧ FrJ J σ0 σ' ∧ σ' J 11 = (d F).2)) := by
  obtain ⟨c, z, σ', e1, s, r⟩ := C.2 1000 st b F σ0 g hF (Nat.le_refl _) hb h T fl σ hu hfl cf
  refine ⟨σ', ?_, ?_⟩
  · unfold X2_run
    have e2 : iter 1000 (fC 1000 J b) ((a : Int), σ) = iter (1000 - c) (fC 1000 J b) (z, σ') := by
      have := stp_iter (n := 1000 - c) s
      rwa [show c + (1000 - c) = 1000 by omega] at this
    have e3 : X2_run_l2 1000 (b : Int) J z σ' = some (.inr σ') := by
      refine run_end ?_ hb
      rcases r with ⟨-, -, r, -⟩ | ⟨r1, -, r3⟩
      · exact Or.inr r
      · exact Or.inl ⟨by omega, by rw [r3]; unfold rng; omega⟩
    show (iter 1000 (fC 1000 J b) ((a : Int), σ)).bind _ = _
    rw [e2, show 1000 - c = (999 - c) + 1 by omega]
    show (((X2_run_l2 1000 (b : Int) J z σ').bind _) : Option SG).bind _ = _
    rw [e3]
    rfl
  · rcases r with ⟨r1, r2, -, r4⟩ | r
    · exact Or.inl ⟨r1, r2, r4⟩
    · exact Or.inr r
theorem runC_ok {J a b u st h : Nat} {K V T : Nat → Int} {d : Dn} {F : Fx} {σ0 σ : SG} {fl : Int} (C : CC J K V a b u d) (g : PG J σ0 K V a b st F) (hF : Fok F) (hb : b ≤ 400) (hu : h + u ≤ 24) (hfl : fl = 0 ∨ fl = 1) (cf : CF J σ0 h T fl σ) :
    ∃ σ', X2_run 1000 J (a : Int) (b : Int) σ = some σ' ∧ (((d F).2 = 0 ∧ ((d F).1 = 0 ∨ (d F).1 = 1) ∧ CF J σ0 h T (d F).1 σ') ∨ (((d F).2 = 1 ∨ (d F).2 = 2) ∧ FrJ J σ0 σ' ∧ σ' J 11 = (d F).2)) := by
  obtain ⟨c, z, σ', e1, s, r⟩ := C.2 1000 st b F σ0 g hF (Nat.le_refl _) hb h T fl σ hu hfl cf
  refine ⟨σ', ?_, ?_⟩
  · unfold X2_run
    have e2 : iter 1000 (fC 1000 J b) ((a : Int), σ) = iter (1000 - c) (fC 1000 J b) (z, σ') := by
      have := stp_iter (n := 1000 - c) s
      rwa [show c + (1000 - c) = 1000 by omega] at this
    have e3 : X2_run_l2 1000 (b : Int) J z σ' = some (.inr σ') := by
      refine run_end ?_ hb
      rcases r with ⟨-, -, r, -⟩ | ⟨r1, -, r3⟩
      · exact Or.inr r
      · exact Or.inl ⟨by omega, by rw [r3]; unfold rng; omega⟩
    show (iter 1000 (fC 1000 J b) ((a : Int), σ)).bind _ = _
    rw [e2, show 1000 - c = (999 - c) + 1 by omega]
    show (((X2_run_l2 1000 (b : Int) J z σ').bind _) : Option SG).bind _ = _
    rw [e3]
    rfl
  · rcases r with ⟨r1, r2, -, r4⟩ | r
    · exact Or.inl ⟨r1, r2, r4⟩
    · exact Or.inr r
/-- nothing runs: an empty piece, or behind trouble -/
theorem run0_ok {J to : Nat} {z : Int} {σ : SG} (h : σ J 11 ≠ 0 ∧ rng (σ J 11) ∨ z = (to : Int)) (hto : to ≤ 400) : X2_run 1000 J z (to : Int) σ = some σ := by
  unfold X2_run
  show (((X2_run_l2 1000 (to : Int) J z σ).bind _) : Option SG).bind _ = _
  rw [run_end h hto]
  rfl
theorem workedR_ok {a b : Nat} {K : Nat → Int} {d : Dn} {F : Fx} {ρ0 ρ : SG} (C : RS K a b 400 d) (g : PR ρ0 K a b F) (hF : Fok F) (hb : b ≤ 900) (hf : FrP ρ0 ρ) (h0 : ρ 57 23 = 0) :
    ∃ ρ', X12_worked 1000 (a : Int) (b : Int) ρ = some (if (d F).2 = 0 then (d F).1 else 0, ρ') ∧ FrP ρ0 ρ' ∧ ρ' 57 23 = (d F).2 ∧ ((d F).2 = 0 ∧ rng (d F).1 ∨ (d F).2 = 1 ∨ (d F).2 = 2) := by
  obtain ⟨c, z1, z2, ρ', e1, s, r⟩ := C.2 1000 b F ρ0 g hF (Nat.le_refl _) hb 0 (fun _ => 0) ρ (by omega) ⟨hf, h0, fun i hi => absurd hi (by omega)⟩
  have hl := C.1.1
  have e2 : iter 1000 (fR 1000 b) ((0 : Int), (a : Int), ρ) = iter (1000 - c) (fR 1000 b) (z1, z2, ρ') := by
    have := stp_iter (n := 1000 - c) s
    rwa [show c + (1000 - c) = 1000 by omega] at this
  refine ⟨ρ', ?_, ?_⟩
  · unfold X12_worked
    show (iter 1000 (fR 1000 b) ((0 : Int), (a : Int), ρ)).bind _ = _
    rw [e2, show 1000 - c = (999 - c) + 1 by omega]
    show (((X12_worked_l5 1000 (b : Int) z1 z2 ρ').bind _) : Option SG).bind _ = _
    rcases r with ⟨r1, r2, r3, rfl, r5⟩ | ⟨r1, r2, r3⟩
    · have e3 : X12_worked_l5 1000 (b : Int) z1 (b : Int) ρ' = some (.inr ρ') := by
        unfold X12_worked_l5
        rw [if_pos (Int.le_refl _)]
      rw [e3]
      show X12_worked_e5 1000 ρ' = _
      rw [if_pos r1]
      refine of_wp ?_
      unfold X12_worked_e5
      refine wp_ifT (by rw [r5.2.1]; decide) (wp_rdI 0 rfl (by decide) (by decide) (wp_some ?_))
      rw [r5.2.2 0 (by omega), setT_eq]
    · have e3 : X12_worked_l5 1000 (b : Int) z1 z2 ρ' = some (.inr ρ') := by
        unfold X12_worked_l5
        by_cases q : w32 (b : Int) ≤ w32 z2
        · rw [if_pos q]
        · rw [if_neg q, if_neg (by rw [r3, w32i (by omega)]; omega)]
      rw [e3]
      show X12_worked_e5 1000 ρ' = _
      rw [if_neg (by omega)]
      refine of_wp ?_
      unfold X12_worked_e5
      exact wp_ifF (by rw [r3, w32i (by omega)]; omega) (wp_some rfl)
  · rcases r with ⟨r1, r2, r3, r4, r5⟩ | ⟨r1, r2, r3⟩
    · exact ⟨r5.1, r5.2.1.trans r1.symm, Or.inl ⟨r1, r2⟩⟩
    · exact ⟨r2, r3, Or.inr r1⟩
theorem popG {J n : Nat} {σ : SG} : ∃ v σ', X2_pop n J σ = some (v, σ') ∧ FrJ J σ σ' ∧ σ' J 11 = σ J 11 := by
  have key : wp (X2_pop n J σ) (fun r => FrJ J σ r.2 ∧ r.2 J 11 = σ J 11) := by
    unfold X2_pop
    by_cases q1 : w32 (σ J 9) ≤ 0
    · exact wp_ifT q1 (wp_some ⟨FrJ.rf, rfl⟩)
    · refine wp_ifF q1 ?_
      by_cases q2 : w32 (σ J 9) ≤ 24
      · refine wp_ifT q2 (wp_lt (wp_rd ?_ (wp_some ⟨FrJ.rf.up (by omega), up_ne (by omega)⟩)))
        rw [up_eq rfl rfl]
        generalize σ J 9 = x at *
        unfold w32 at *
        omega
      · exact wp_ifF q2 (wp_some ⟨FrJ.rf, rfl⟩)
  obtain ⟨⟨v, σ'⟩, e, h1, h2⟩ := key
  exact ⟨v, σ', e, h1, h2⟩
/-- one line, on both sides -/
theorem line_ok {σ ρ σ1 ρ1 : SG} {J st l N : Nat} {F : Fx} {x : Int} (hJ : J = 7 ∨ J = 26) (IL : ILine σ ρ J st l) (hs : σ J 2 = (st : Int)) (hst : st ≤ 400) (hl : l < 10) (h6 : σ J 6 = (N : Int)) (hN : l < N) (hN2 : N ≤ 10) (h18 : ρ 57 18 = (N : Int)) (hF : Fok F) (hf : ∀ i, i < 8 → σ (J + 6) i = F i ∧ ρ 66 i = F i) (f1 : FrJ J σ σ1) (f2 : FrP ρ ρ1) (t1 : σ1 J 11 = 0) (t2 : ρ1 57 23 = 0) (hx : rng x) :
    ∃ v v' σ2 ρ2, X2_scoreByFacts_l9 1000 J x (l : Int) σ1 = some (.inl (v, ((l + 1 : Nat) : Int), σ2)) ∧ X12_scored_l36 1000 x (l : Int) ρ1 = some (.inl (v', ((l + 1 : Nat) : Int), ρ2)) ∧ FrJ J σ σ2 ∧ FrP ρ ρ2 ∧ σ2 J 11 = ρ2 57 23 ∧ ((ρ2 57 23 = 0 ∧ v = v' ∧ rng v) ∨ ρ2 57 23 = 1 ∨ ρ2 57 23 = 2) := by
  obtain ⟨a, m, b, a', m', b', d, la, lm, lb, l1, l2, ra, rm, rb, l3, l4, lsg, lC, lR, lc⟩ := IL
  have hl1 := lC.1.1
  have hl2 := lR.1.1
  have F1 : FrJ J σ (up (up σ1 J 9 0) J 10 1) := (f1.up (by omega)).up (by omega)
  have cf0 : CF J σ 0 (fun _ => 0) 1 (up (up σ1 J 9 0) J 10 1) := ⟨F1, by (simp (disch := omega) only [up_eq, up_ne, w32i, mx32_m, mn32_m, ab32_m]); rfl, by (simp (disch := omega) only [up_eq, up_ne, w32i, mx32_m, mn32_m, ab32_m]), by (simp (disch := omega) only [up_eq, up_ne, w32i, mx32_m, mn32_m, ab32_m]); exact t1, fun i hi => absurd hi (by omega)⟩
  -- the reference's side comes to
  have hR : ∀ (is : Int) (ρ2 : SG), FrP ρ ρ2 → (ρ2 57 23 = 0 ∧ (is = 0 ∨ is = 1) ∨ (ρ2 57 23 = 1 ∨ ρ2 57 23 = 2)) → wp (X12_scored_j109 1000 x (4 * (l : Int)) (l : Int) is ρ2) (fun y => ∃ v' ρ3, y = .inl (v', ((l + 1 : Nat) : Int), ρ3) ∧ FrP ρ ρ3 ∧ (ρ2 57 23 ≠ 0 → ρ3 57 23 = ρ2 57 23) ∧ (ρ2 57 23 = 0 → is = 0 → ρ3 57 23 = 0 ∧ v' = x) ∧ (ρ2 57 23 = 0 → is = 1 → ((d F).2 ≠ 0 → ρ3 57 23 = (d F).2) ∧ ((d F).2 = 0 → rng (d F).1 ∧ ρ3 57 23 = (rk (if σ (J + 3) l = 0 then 3 else 2) x (d F).1).2 ∧ (ρ3 57 23 = 0 → v' = (rk (if σ (J + 3) l = 0 then 3 else 2) x (d F).1).1)))) := by
    intro is ρ2 g1 g2
    unfold X12_scored_j109 X12_scored_j175
    rcases g2 with ⟨g2, g3⟩ | g2
    · rcases g3 with rfl | rfl
      · refine wp_bind (wp_ifF (by rw [g2]; decide) (wp_ifT rfl (wp_some (wp_lt (wp_some ⟨x, ρ2, by simp only []; congr 2, g1, fun q => absurd g2 q, fun _ _ => ⟨g2, rfl⟩, fun _ q => absurd q (by decide)⟩)))))
      · have e1 : ρ2 64 (4 * l + 1) = (a' : Int) := (g1 64 _ (by decide) (by omega)).trans ra
        have e2 : ρ2 64 (4 * l + 2) = (m' : Int) := (g1 64 _ (by decide) (by omega)).trans rm
        obtain ⟨ρ3, w1, w2, w3, w4⟩ := workedR_ok lR ⟨fun i _ _ => rfl, fun i hi => (hf i hi).2⟩ hF (by omega) g1 g2
        have e3 : ρ3 64 (4 * l) = ρ 64 (4 * l) := w2 64 _ (by decide) (by omega)
        refine wp_bind (wp_ifF (by rw [g2]; decide) (wp_ifF (by decide) (wp_rdI (4 * l + 1) (by omega) (by omega) (by decide) (wp_rdI (4 * l + 2) (by omega) (by omega) (by decide) ?_))))
        rw [e1, e2]
        refine wp_bnd2 (wp_of w1 ?_)
        rcases w4 with ⟨w4, w5⟩ | w4
        · have t3 : ρ3 57 23 = 0 := w3.trans w4
          dsimp only
          rw [if_pos w4]
          refine wp_ifT (by rw [t3]; rfl) (wp_rdI (4 * l) (by omega) (by omega) (by decide) ?_)
          rw [e3]
          have hxr := hx
          have hdr := w5
          obtain ⟨x1, x2⟩ := hxr
          obtain ⟨y1, y2⟩ := hdr
          have fin : ∀ op e, (op = 2 ∨ op = 3) → e = exq op x (d F).1 → (if σ (J + 3) l = 0 then 3 else 2) = op → wp (X12_checked 1000 e ρ3) (fun r => r = ((rk op x (d F).1).1, if (rk op x (d F).1).2 = 0 then ρ3 else up ρ3 57 23 (rk op x (d F).1).2)) := by
            rintro op e ho rfl -
            refine wp_of (checked_ok t3 (exq_b hx w5)) ?_
            unfold rk
            rw [if_neg (show ¬ (op = 5 ∧ (d F).1 = 0) by omega)]
            by_cases q : exq op x (d F).1 < -2147483648 ∨ 2147483647 < exq op x (d F).1
            · rw [if_pos q, if_pos q]
              rfl
            · rw [if_neg q, if_neg q]
              rfl
          have close : ∀ op, (if σ (J + 3) l = 0 then (3 : Int) else 2) = op → ∀ r : Int × SG, r = ((rk op x (d F).1).1, if (rk op x (d F).1).2 = 0 then ρ3 else up ρ3 57 23 (rk op x (d F).1).2) → wp (some r : Option (Int × SG)) (fun s => wp (lt ((l : Int) + 1) fun x17 => some (.inl (s.1, x17, s.2)) : Option ((Int × Int × SG) ⊕ (Int × SG))) (fun y => ∃ v' ρ3', y = .inl (v', ((l + 1 : Nat) : Int), ρ3') ∧ FrP ρ ρ3' ∧ (ρ2 57 23 ≠ 0 → ρ3' 57 23 = ρ2 57 23) ∧ (ρ2 57 23 = 0 → (1 : Int) = 0 → ρ3' 57 23 = 0 ∧ v' = x) ∧ (ρ2 57 23 = 0 → (1 : Int) = 1 → ((d F).2 ≠ 0 → ρ3' 57 23 = (d F).2) ∧ ((d F).2 = 0 → rng (d F).1 ∧ ρ3' 57 23 = (rk (if σ (J + 3) l = 0 then 3 else 2) x (d F).1).2 ∧ (ρ3' 57 23 = 0 → v' = (rk (if σ (J + 3) l = 0 then 3 else 2) x (d F).1).1))))) := by
            rintro op ho r rfl
            refine wp_some (wp_lt (wp_some ⟨_, _, by simp only []; congr 2, ?_, fun q => absurd g2 q, fun _ q => absurd q (by decide), fun _ _ => ⟨fun q => absurd w4 q, fun _ => ⟨w5, ?_, fun _ => ?_⟩⟩⟩))
            · split
              · exact w2
              · exact w2.up (by omega)
            · rw [ho]
              split
              · rename_i q
                rw [t3, q]
              · rw [up_eq rfl rfl]
            · rw [ho]
          rcases lsg with ⟨s1, s2⟩ | ⟨s1, s2⟩
          · rw [s2]
            refine wp_bnd2 (wp_mono (fin 2 _ (Or.inl rfl) ?_ (by rw [if_neg (by omega)])) (fun r hr => wp_mono (wp_some (Q := fun s => s = r) rfl) ?_))
            · rw [w32_1, Int.one_mul]
              rfl
            · rintro _ rfl
              have := close 2 (by rw [if_neg (by omega)]) _ hr
              obtain ⟨_, e, h⟩ := this
              cases e
              exact h
          · rw [s2]
            refine wp_bnd2 (wp_mono (fin 3 _ (Or.inr rfl) ?_ (by rw [if_pos s1])) (fun r hr => wp_mono (wp_some (Q := fun s => s = r) rfl) ?_))
            · rw [show w32 (-1) = -1 by decide, Int.neg_one_mul]
              rfl
            · rintro _ rfl
              have := close 3 (by rw [if_pos s1]) _ hr
              obtain ⟨_, e, h⟩ := this
              cases e
              exact h
        · refine wp_ifF (by dsimp only; rw [w3, w32i (by omega)]; omega) (wp_some (wp_lt (wp_some ⟨_, _, by simp only []; congr 2, w2, fun q => absurd g2 q, fun _ q => absurd q (by decide), fun _ _ => ⟨fun _ => w3, fun q => by omega⟩⟩)))
    · refine wp_bind (wp_ifT (by rcases g2 with g2 | g2 <;> rw [g2] <;> decide) (wp_some (wp_lt (wp_some ⟨x, ρ2, by simp only []; congr 2, g1, fun _ => rfl, fun q => by omega, fun q => by omega⟩))))
  -- the class's side behind the condition
  have hC : ∀ (fl : Int) (σ2 : SG), FrJ J σ σ2 → ((σ2 J 11 = 1 ∨ σ2 J 11 = 2) ∨ (CF J σ 0 (fun _ => 0) fl σ2 ∧ (fl = 0 ∨ fl = 1))) → wp ((if w32 (σ2 J 10) = 0 then some (x, σ2) else rdA 11 (l : Int) fun j18 => rdA 10 (l : Int) fun j19 => (X2_run 1000 J (σ2 (J + 4) j18) (σ2 (J + 5) j19) σ2).bind fun σ21 => bnd2 (X2_pop 1000 J σ21) fun v23 σ24 => ((if w32 (σ24 J 11) = 0 then rdA 10 (l : Int) fun j28 => ((if w32 (σ24 (J + 3) j28) = 0 then some 3 else some 2 : Option Int)).bind (fun s => X2_scoreByFacts_j102 1000 J x v23 σ24 s) else some (x, σ24) : Option (Int × SG))).bind (fun s => X2_scoreByFacts_j111 1000 s.1 s.2) : Option (Int × SG)))
      (fun s => wp (X2_scoreByFacts_j112 1000 (l : Int) s.1 s.2) (fun y => ∃ v σ3, y = .inl (v, ((l + 1 : Nat) : Int), σ3) ∧ FrJ J σ σ3 ∧ (σ2 J 11 ≠ 0 → σ3 J 11 = σ2 J 11) ∧ (σ2 J 11 = 0 → fl = 0 → σ3 J 11 = 0 ∧ v = x) ∧ (σ2 J 11 = 0 → fl = 1 → ((d F).2 ≠ 0 → σ3 J 11 = (d F).2) ∧ ((d F).2 = 0 → σ3 J 11 = (rk (if σ (J + 3) l = 0 then 3 else 2) x (d F).1).2 ∧ (σ3 J 11 = 0 → v = (rk (if σ (J + 3) l = 0 then 3 else 2) x (d F).1).1))))) := by
    intro fl σ2 g1 g2
    have e4 : σ2 (J + 4) l = (a : Int) := (g1 _ l (by omega) (by omega)).trans la
    have e5 : σ2 (J + 5) l = (m : Int) := (g1 _ l (by omega) (by omega)).trans lm
    unfold X2_scoreByFacts_j112 X2_scoreByFacts_j111
    rcases g2 with g2 | ⟨g2, g3⟩
    · have hne : σ2 J 11 ≠ 0 := by omega
      by_cases q : w32 (σ2 J 10) = 0
      · exact wp_ifT q (wp_some (wp_lt (wp_some ⟨x, σ2, by simp only []; congr 2, g1, fun _ => rfl, fun h => absurd h hne, fun h => absurd h hne⟩)))
      · refine wp_ifF q (wp_rdn (by omega) (by omega) (wp_rdn (by omega) (by omega) ?_))
        rw [e4, e5]
        refine wp_bind (wp_of (run0_ok (Or.inl ⟨hne, by unfold rng; omega⟩) (by omega)) ?_)
        obtain ⟨v, σ3, p1, p2, p3⟩ := popG (J := J) (n := 1000) (σ := σ2)
        refine wp_bnd2 (wp_of p1 (wp_bind (wp_ifF ?_ (wp_some (wp_some (wp_lt (wp_some ⟨x, σ3, by simp only []; congr 2, g1.tr p2, fun _ => p3, fun h => absurd h hne, fun h => absurd h hne⟩)))))))
        dsimp only
        rw [p3, w32i (by omega)]
        exact hne
    · have h11 := g2.2.2.2.1
      have h10 := g2.2.2.1
      rcases g3 with rfl | rfl
      · exact wp_ifT (by rw [h10]; rfl) (wp_some (wp_lt (wp_some ⟨x, σ2, by simp only []; congr 2, g1, fun h => absurd h11 h, fun _ _ => ⟨h11, rfl⟩, fun _ h => absurd h (by decide)⟩)))
      · refine wp_ifF (by rw [h10]; decide) (wp_rdn (by omega) (by omega) (wp_rdn (by omega) (by omega) ?_))
        rw [e4, e5]
        obtain ⟨σ3, r1, r2⟩ := runS_ok (h := 0) lC ⟨hJ, fun i _ _ => ⟨rfl, rfl⟩, hs, hst, by omega, fun i hi => (hf i hi).1⟩ hF (by omega) (by omega) (Or.inr rfl) g2
        refine wp_bind (wp_of r1 ?_)
        rcases r2 with ⟨r2, r3, r4⟩ | ⟨r2, r3, r4⟩
        · refine wp_bnd2 (wp_of (pop_ok (h := 0) r4.2.1 (by omega) ((r4.2.2.2.2 0 (by omega)).trans setT_eq)) ?_)
          have f4 : FrJ J σ (up σ3 J 9 ((0 : Nat) : Int)) := r4.1.up (by omega)
          have t4 : up σ3 J 9 ((0 : Nat) : Int) J 11 = 0 := by (simp (disch := omega) only [up_eq, up_ne, w32i, mx32_m, mn32_m, ab32_m]); exact r4.2.2.2.1
          have s4 : up σ3 J 9 ((0 : Nat) : Int) (J + 3) l = σ (J + 3) l := f4 _ l (by omega) (by omega)
          refine wp_bind (wp_ifT (by dsimp only; rw [t4]; rfl) (wp_rdn (by omega) (by omega) ?_))
          dsimp only
          unfold X2_scoreByFacts_j102
          have fin : ∀ op : Int, (op = 2 ∨ op = 3) → (if σ (J + 3) l = 0 then 3 else 2) = op → wp (bnd2 (X2_reckon 1000 J op x (d F).1 (up σ3 J 9 ((0 : Nat) : Int))) fun v32 σ33 => some (v32, σ33)) (fun a_1 => wp (some (a_1.1, a_1.2) : Option (Int × SG)) (fun s => wp (lt ((l : Int) + 1) fun x17 => some (.inl (s.1, x17, s.2)) : Option ((Int × Int × SG) ⊕ (Int × SG))) (fun y => ∃ v σ3, y = .inl (v, ((l + 1 : Nat) : Int), σ3) ∧ FrJ J σ σ3 ∧ (σ2 J 11 ≠ 0 → σ3 J 11 = σ2 J 11) ∧ (σ2 J 11 = 0 → (1 : Int) = 0 → σ3 J 11 = 0 ∧ v = x) ∧ (σ2 J 11 = 0 → (1 : Int) = 1 → ((d F).2 ≠ 0 → σ3 J 11 = (d F).2) ∧ ((d F).2 = 0 → σ3 J 11 = (rk (if σ (J + 3) l = 0 then 3 else 2) x (d F).1).2 ∧ (σ3 J 11 = 0 → v = (rk (if σ (J + 3) l = 0 then 3 else 2) x (d F).1).1)))))) := by
            intro op ho hop
            refine wp_bnd2 (wp_of (reckon_ok (by omega) hx r3) (wp_some (wp_some (wp_lt (wp_some ⟨_, _, by simp only []; congr 2, ?_, fun h => absurd h11 h, fun _ h => absurd h (by decide), fun _ _ => ⟨fun h => absurd r2 h, fun _ => ⟨?_, fun _ => ?_⟩⟩⟩)))))
            · split
              · exact f4
              · exact f4.up (by omega)
            · rw [hop]
              split
              · rename_i q
                rw [t4, q]
              · rw [up_eq rfl rfl]
            · rw [hop]
          rcases lsg with ⟨s1, -⟩ | ⟨s1, -⟩
          · exact wp_bind (wp_ifF (by rw [s4, s1]; decide) (wp_some (fin 2 (Or.inl rfl) (by rw [if_neg (by omega)]))))
          · exact wp_bind (wp_ifT (by rw [s4, s1]; rfl) (wp_some (fin 3 (Or.inr rfl) (by rw [if_pos s1]))))
        · obtain ⟨v, σ4, p1, p2, p3⟩ := popG (J := J) (n := 1000) (σ := σ3)
          refine wp_bnd2 (wp_of p1 (wp_bind (wp_ifF ?_ (wp_some (wp_some (wp_lt (wp_some ⟨x, σ4, by simp only []; congr 2, r3.tr p2, fun h => absurd h11 h, fun _ h => absurd h (by decide), fun _ _ => ⟨fun _ => p3.trans r4, fun h => by omega⟩⟩)))))))
          dsimp only
          rw [p3, r4, w32i (by omega)]
          omega
  -- together
  have em : (up (up σ1 J 9 0) J 10 1) (J + 5) l = (m : Int) := (F1 _ l (by omega) (by omega)).trans lm
  have eb : (up (up σ1 J 9 0) J 10 1) (J + 4) (l + 1) = (b : Int) := (F1 _ _ (by omega) (by omega)).trans lb
  have e6 : σ1 J 6 = (N : Int) := (f1 J 6 (by omega) (by omega)).trans h6
  have e18 : ρ1 57 18 = (N : Int) := (f2 57 18 (by decide) (by omega)).trans h18
  have em' : ρ1 64 (4 * l + 2) = (m' : Int) := (f2 64 _ (by decide) (by omega)).trans rm
  have eb' : ρ1 64 (4 * l + 3) = (b' : Int) := (f2 64 _ (by decide) (by omega)).trans rb
  -- behind the condition both stand alike
  have mid : ∃ (fl : Int) (σ2 ρ2 : SG), X2_run 1000 J (m : Int) (b : Int) (up (up σ1 J 9 0) J 10 1) = some σ2 ∧ FrJ J σ σ2 ∧ FrP ρ ρ2 ∧ σ2 J 11 = ρ2 57 23 ∧ ((σ2 J 11 = 1 ∨ σ2 J 11 = 2) ∨ (σ2 J 11 = 0 ∧ CF J σ 0 (fun _ => 0) fl σ2 ∧ (fl = 0 ∨ fl = 1))) ∧
      ∃ is : Int, (σ2 J 11 = 0 → is = fl) ∧ wp ((if w32 (m' : Int) = w32 (b' : Int) then some (1, ρ1) else rdA 40 (4 * (l : Int) + 2) fun j27 => rdA 40 (4 * (l : Int) + 3) fun j28 => bnd2 (X12_worked 1000 (ρ1 64 j27) (ρ1 64 j28) ρ1) fun v30 σ31 => if w32 (cmpL v30 1) = 0 then some (1, σ31) else some (0, σ31) : Option (Int × SG))) (fun r => r = (is, ρ2)) := by
    rcases lc with ⟨q1, q2⟩ | ⟨c, q1, q2, q3⟩
    · refine ⟨1, _, ρ1, run0_ok (Or.inr (by rw [q1])) (by omega), F1, f2, ?_, Or.inr ⟨?_, cf0, Or.inr rfl⟩, 1, fun _ => rfl, wp_ifT (by rw [q2]) (wp_some rfl)⟩
      · (simp (disch := omega) only [up_eq, up_ne, w32i, mx32_m, mn32_m, ab32_m])
        rw [t1, t2]
      · (simp (disch := omega) only [up_eq, up_ne, w32i, mx32_m, mn32_m, ab32_m])
        exact t1
    · have hq2 := q3.1.1
      obtain ⟨σ2, r1, r2⟩ := runC_ok (h := 0) q2 ⟨hJ, fun i _ _ => ⟨rfl, rfl⟩, hs, hst, by omega, fun i hi => (hf i hi).1⟩ hF (by omega) (by omega) (Or.inr rfl) cf0
      obtain ⟨ρ2, w1, w2, w3, w4⟩ := workedR_ok q3 ⟨fun i _ _ => rfl, fun i hi => (hf i hi).2⟩ hF (by omega) f2 t2
      have hw : ∀ Q : Int × SG → Prop, wp (if w32 (cmpL (if (c F).2 = 0 then (c F).1 else 0) 1) = 0 then some (1, ρ2) else some (0, ρ2) : Option (Int × SG)) Q → wp ((if w32 (m' : Int) = w32 (b' : Int) then some (1, ρ1) else rdA 40 (4 * (l : Int) + 2) fun j27 => rdA 40 (4 * (l : Int) + 3) fun j28 => bnd2 (X12_worked 1000 (ρ1 64 j27) (ρ1 64 j28) ρ1) fun v30 σ31 => if w32 (cmpL v30 1) = 0 then some (1, σ31) else some (0, σ31) : Option (Int × SG))) Q := by
        intro Q h
        refine wp_ifF (by rw [w32i (by omega), w32i (by omega)]; omega) (wp_rdI (4 * l + 2) (by omega) (by omega) (by decide) (wp_rdI (4 * l + 3) (by omega) (by omega) (by decide) ?_))
        rw [em', eb']
        exact wp_bnd2 (wp_of w1 h)
      rcases r2 with ⟨r2, r3, r4⟩ | ⟨r2, r3, r4⟩
      · refine ⟨(c F).1, σ2, ρ2, r1, r4.1, w2, ?_, Or.inr ⟨r4.2.2.2.1, r4, r3⟩, (c F).1, fun _ => rfl, hw _ ?_⟩
        · rw [r4.2.2.2.1, w3, r2]
        · rw [if_pos r2]
          have k := cmpL_m (x := (c F).1) (y := 1) (by omega)
          rcases r3 with r3 | r3
          · rw [if_neg (by omega), if_neg (by omega)] at k
            exact wp_ifF (by rw [k]; decide) (wp_some (by rw [r3]))
          · rw [if_neg (by omega), if_pos r3] at k
            exact wp_ifT k (wp_some (by rw [r3]))
      · refine ⟨0, σ2, ρ2, r1, r3, w2, by rw [r4, w3], Or.inl (by omega), 0, fun q => by omega, hw _ ?_⟩
        rw [if_neg (show ¬ (c F).2 = 0 by omega)]
        exact wp_ifF (by decide) (wp_some rfl)
  obtain ⟨fl, σ2, ρ2, m1, m2, m3, m4, m5, is, m6, m7⟩ := mid
  have hA := hC fl σ2 m2 (by rcases m5 with m5 | ⟨-, m5⟩; exact Or.inl m5; exact Or.inr m5)
  have hB := hR is ρ2 m3 (by
    rcases m5 with m5 | ⟨m5, -, m9⟩
    · exact Or.inr (by omega)
    · exact Or.inl ⟨by omega, by rw [m6 m5]; exact m9⟩)
  have hA' : wp (X2_scoreByFacts_l9 1000 J x (l : Int) σ1) (fun y => ∃ v σ3, y = .inl (v, ((l + 1 : Nat) : Int), σ3) ∧ FrJ J σ σ3 ∧ (σ2 J 11 ≠ 0 → σ3 J 11 = σ2 J 11) ∧ (σ2 J 11 = 0 → fl = 0 → σ3 J 11 = 0 ∧ v = x) ∧ (σ2 J 11 = 0 → fl = 1 → ((d F).2 ≠ 0 → σ3 J 11 = (d F).2) ∧ ((d F).2 = 0 → σ3 J 11 = (rk (if σ (J + 3) l = 0 then 3 else 2) x (d F).1).2 ∧ (σ3 J 11 = 0 → v = (rk (if σ (J + 3) l = 0 then 3 else 2) x (d F).1).1)))) := by
    unfold X2_scoreByFacts_l9
    refine wp_ifF (by (focus ((try simp (disch := omega) only [up_eq, up_ne, w32i, mx32_m, mn32_m, ab32_m]) <;> omega))) (wp_ifT (by (focus ((try simp (disch := omega) only [up_eq, up_ne, w32i, mx32_m, mn32_m, ab32_m]) <;> omega))) (wp_lt (wp_lt (wp_rdn (by omega) (by omega) (wp_rdI (l + 1) (by omega) (by omega) (by decide) ?_)))))
    rw [em, eb]
    exact wp_bind (wp_of m1 (wp_bind hA))
  have hB' : wp (X12_scored_l36 1000 x (l : Int) ρ1) (fun y => ∃ v' ρ3, y = .inl (v', ((l + 1 : Nat) : Int), ρ3) ∧ FrP ρ ρ3 ∧ (ρ2 57 23 ≠ 0 → ρ3 57 23 = ρ2 57 23) ∧ (ρ2 57 23 = 0 → is = 0 → ρ3 57 23 = 0 ∧ v' = x) ∧ (ρ2 57 23 = 0 → is = 1 → ((d F).2 ≠ 0 → ρ3 57 23 = (d F).2) ∧ ((d F).2 = 0 → rng (d F).1 ∧ ρ3 57 23 = (rk (if σ (J + 3) l = 0 then 3 else 2) x (d F).1).2 ∧ (ρ3 57 23 = 0 → v' = (rk (if σ (J + 3) l = 0 then 3 else 2) x (d F).1).1)))) := by
    unfold X12_scored_l36
    refine wp_ifF (by (focus ((try simp (disch := omega) only [up_eq, up_ne, w32i, mx32_m, mn32_m, ab32_m]) <;> omega))) (wp_ifT (by (focus ((try simp (disch := omega) only [up_eq, up_ne, w32i, mx32_m, mn32_m, ab32_m]) <;> omega))) (wp_lt (wp_rdI (4 * l + 2) (by omega) (by omega) (by decide) (wp_rdI (4 * l + 3) (by omega) (by omega) (by decide) ?_))))
    rw [em', eb']
    refine wp_bind (wp_mono m7 ?_)
    rintro _ rfl
    exact hB
  obtain ⟨_, eA, v, σ3, rfl, a1, a2, a3, a4⟩ := hA'
  obtain ⟨_, eB, v', ρ3, rfl, b1, b2, b3, b4⟩ := hB'
  refine ⟨v, v', σ3, ρ3, eA, eB, a1, b1, ?_⟩
  rcases m5 with m5 | ⟨m5, -, m9⟩
  · have h1 := a2 (by omega)
    have h2 := b2 (by omega)
    exact ⟨by omega, Or.inr (by omega)⟩
  · have h23 : ρ2 57 23 = 0 := by omega
    have his := m6 m5
    rcases m9 with m9 | m9
    · have h1 := a3 m5 m9
      have h2 := b3 h23 (his.trans m9)
      exact ⟨by omega, Or.inl ⟨h2.1, by rw [h1.2, h2.2], by rw [h1.2]; exact hx⟩⟩
    · obtain ⟨h1, h2⟩ := a4 m5 m9
      obtain ⟨h3, h4⟩ := b4 h23 (his.trans m9)
      by_cases q : (d F).2 = 0
      · obtain ⟨h5, h6⟩ := h2 q
        obtain ⟨h7, h8, h9⟩ := h4 q
        refine ⟨by omega, ?_⟩
        rcases rk_b (op := if σ (J + 3) l = 0 then 3 else 2) (x := x) (y := (d F).1) with ⟨k1, k2⟩ | k
        · exact Or.inl ⟨by omega, by rw [h6 (by omega), h9 (by omega)], by rw [h6 (by omega)]; exact k2⟩
        · exact Or.inr (by omega)
      · have h5 := h1 q
        have h6 := h3 q
        refine ⟨by omega, Or.inr ?_⟩
        obtain ⟨c2, e, y1, y2⟩ := workedR_ok lR ⟨fun i _ _ => rfl, fun i hi => (hf i hi).2⟩ hF (by omega) f2 t2
        omega
