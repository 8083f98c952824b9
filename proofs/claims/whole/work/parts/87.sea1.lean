/-! ===== the sea's text: words and names ===== -/
theorem TR.up {ρ : SG} {B : Nat → Int} {L b k j : Nat} {v : Int} (h : TR ρ B L b) (hk : k = 61 ∨ k = 63 ∨ k = 65 ∨ (k = 57 ∧ 9 ≤ j)) : TR (up ρ k j v) B L b := h.cg (fun i hi => up_ne (by omega)) (fun i => up_ne (by omega))
theorem FR.up {ρ : SG} {B : Nat → Int} {L k j : Nat} {x v : Int} (h : FR ρ B L x) (hk : k = 61 ∨ k = 63 ∨ k = 65 ∨ (k = 57 ∧ 9 ≤ j)) : FR (up ρ k j v) B L x := h.cg (fun i hi => up_ne (by omega)) (fun i => up_ne (by omega))
/-- a word and a number behind it, in the reference -/
theorem TR.after {ρ : SG} {B : Nat → Int} {L b n a : Nat} {lo hi : Int} (h : TR ρ B L b) (hT : Txt B L) (ha : a < 70) (hr : (0 ≤ lo ∧ lo ≤ 9999) ∧ 0 ≤ hi ∧ hi ≤ 9999) (hn : 500 < n) : ∃ v ρ', X12_after n a lo hi ρ = some (v, ρ') ∧ FrK ρ ρ' ∧ (if waB B L b (strB a) = true then (if nuB B L (nx B L b) 2 lo hi = true then v = nmv B (nx B L b) (te B L (nx B L b) - nx B L b) ∧ TR ρ' B L (nx B L (nx B L b)) else FR ρ' B L (nx B L b : Int)) else FR ρ' B L (b : Int)) := by
  obtain ⟨ρ1, e1, e2, e3⟩ := h.asksWord hT ha hn
  unfold X12_after
  cases q : waB B L b (strB a)
  · rw [q, if_neg (by decide)] at e3
    exact ⟨0, ρ1, of_wp (wp_bind (wp_of e1 (wp_bnd2 (wp_of e3.number (wp_some rfl))))), e2, by rw [if_neg (by decide)]; exact e3⟩
  · rw [q, if_pos rfl] at e3
    obtain ⟨v, ρ2, u1, u2, u3, u4⟩ := e3.number (n := n) (dg := 2) (lo := lo) (hi := hi) hT (by decide) hr hn
    exact ⟨v, ρ2, of_wp (wp_bind (wp_of e1 (wp_bnd2 (wp_of u1 (wp_some rfl))))), e2.tr u2, by rw [if_pos rfl]; exact u4⟩
theorem FR.after {ρ : SG} {B : Nat → Int} {L n a : Nat} {x lo hi : Int} (h : FR ρ B L x) : X12_after n a lo hi ρ = some (0, ρ) := by
  unfold X12_after
  exact of_wp (wp_bind (wp_of h.asksWord (wp_bnd2 (wp_of h.number (wp_some rfl)))))
theorem wd_eq : ∀ i, i < 11 → strB (47 + i) = strB i := by decide +kernel
/-- two words of different lengths -/
theorem wa_len {B : Nat → Int} {L b : Nat} {w w' : List Int} (h : waB B L b w = true) (hl : w.length ≠ w'.length) : waB B L b w' = false := decide_eq_false (fun q => by
  have h2 := (of_decide_eq_true h).2.1
  have h3 := q.2.1
  omega)
def kpB (B : Nat → Int) (L b : Nat) : Bool := waB B L b (strB 0) || (waB B L b (strB 1) || (waB B L b (strB 2) || (waB B L b (strB 3) || (waB B L b (strB 4) || (waB B L b (strB 5) || (waB B L b (strB 6) || (waB B L b (strB 7) || (waB B L b (strB 8) || (waB B L b (strB 9) || (waB B L b (strB 10)))))))))))
theorem TC.isKept {σ : SG} {B : Nat → Int} {L b n : Nat} (h : TC σ B L b) (hT : Txt B L) (hn : 500 < n) : X7_isKept n σ = some (b2i (kpB B L b)) := by
  refine of_wp ?_
  unfold X7_isKept
  refine wp_bind (wp_of (h.isWord (n := n) (a := 0) hT (by decide) hn) ?_)
  cases q0 : waB B L b (strB 0)
  case true => exact wp_ifF (by decide) (wp_some (by unfold kpB; rw [q0]; rfl))
  refine wp_ifT rfl ?_
  refine wp_bind (wp_of (h.isWord (n := n) (a := 1) hT (by decide) hn) ?_)
  cases q1 : waB B L b (strB 1)
  case true => exact wp_ifF (by decide) (wp_some (by unfold kpB; rw [q0, q1]; rfl))
  refine wp_ifT rfl ?_
  refine wp_bind (wp_of (h.isWord (n := n) (a := 2) hT (by decide) hn) ?_)
  cases q2 : waB B L b (strB 2)
  case true => exact wp_ifF (by decide) (wp_some (by unfold kpB; rw [q0, q1, q2]; rfl))
  refine wp_ifT rfl ?_
  refine wp_bind (wp_of (h.isWord (n := n) (a := 3) hT (by decide) hn) ?_)
  cases q3 : waB B L b (strB 3)
  case true => exact wp_ifF (by decide) (wp_some (by unfold kpB; rw [q0, q1, q2, q3]; rfl))
  refine wp_ifT rfl ?_
  refine wp_bind (wp_of (h.isWord (n := n) (a := 4) hT (by decide) hn) ?_)
  cases q4 : waB B L b (strB 4)
  case true => exact wp_ifF (by decide) (wp_some (by unfold kpB; rw [q0, q1, q2, q3, q4]; rfl))
  refine wp_ifT rfl ?_
  refine wp_bind (wp_of (h.isWord (n := n) (a := 5) hT (by decide) hn) ?_)
  cases q5 : waB B L b (strB 5)
  case true => exact wp_ifF (by decide) (wp_some (by unfold kpB; rw [q0, q1, q2, q3, q4, q5]; rfl))
  refine wp_ifT rfl ?_
  refine wp_bind (wp_of (h.isWord (n := n) (a := 6) hT (by decide) hn) ?_)
  cases q6 : waB B L b (strB 6)
  case true => exact wp_ifF (by decide) (wp_some (by unfold kpB; rw [q0, q1, q2, q3, q4, q5, q6]; rfl))
  refine wp_ifT rfl ?_
  refine wp_bind (wp_of (h.isWord (n := n) (a := 7) hT (by decide) hn) ?_)
  cases q7 : waB B L b (strB 7)
  case true => exact wp_ifF (by decide) (wp_some (by unfold kpB; rw [q0, q1, q2, q3, q4, q5, q6, q7]; rfl))
  refine wp_ifT rfl ?_
  refine wp_bind (wp_of (h.isWord (n := n) (a := 8) hT (by decide) hn) ?_)
  cases q8 : waB B L b (strB 8)
  case true => exact wp_ifF (by decide) (wp_some (by unfold kpB; rw [q0, q1, q2, q3, q4, q5, q6, q7, q8]; rfl))
  refine wp_ifT rfl ?_
  refine wp_bind (wp_of (h.isWord (n := n) (a := 9) hT (by decide) hn) ?_)
  cases q9 : waB B L b (strB 9)
  case true => exact wp_ifF (by decide) (wp_some (by unfold kpB; rw [q0, q1, q2, q3, q4, q5, q6, q7, q8, q9]; rfl))
  refine wp_ifT rfl ?_
  refine wp_bind (wp_of (h.isWord (n := n) (a := 10) hT (by decide) hn) ?_)
  cases q10 : waB B L b (strB 10)
  · exact wp_ifT rfl (wp_some (by unfold kpB; rw [q0, q1, q2, q3, q4, q5, q6, q7, q8, q9, q10]; rfl))
  · exact wp_ifF (by decide) (wp_some (by unfold kpB; rw [q0, q1, q2, q3, q4, q5, q6, q7, q8, q9, q10]; rfl))
def naB (B : Nat → Int) (L b : Nat) : Bool := decide (kd B L b = 1 ∧ te B L b - b ≤ 6) && !kpB B L b
theorem TR.isName {ρ : SG} {B : Nat → Int} {L b n : Nat} (h : TR ρ B L b) (hT : Txt B L) (hn : 500 < n) : ∃ ρ', X12_isName n ρ = some (b2i (naB B L b), ρ') ∧ FrK ρ ρ' ∧ TB ρ' B L b := by
  obtain ⟨ρ1, e1, e2, e3⟩ := h.wordMany hT hn
  have hL := hT.1
  obtain ⟨t1, t2, t3⟩ := te_b (B := B) h.le.1
  have hwl : wlen B L b ≤ L := by unfold wlen; split <;> omega
  have key : wp (X12_isName n ρ) (fun r => r.1 = b2i (naB B L b) ∧ FrK ρ r.2 ∧ TB r.2 B L b) := by
    unfold X12_isName
    refine wp_bnd2 (wp_of e1 (wp_bind (wp_of e3.tr.hf (wp_ifT rfl ?_))))
    by_cases c1 : wlen B L b = 0
    · refine wp_ifT (by dsimp only; rw [c1]; decide) (wp_some ⟨?_, e2, e3⟩)
      unfold naB
      rw [decide_eq_false (fun q => by unfold wlen at c1; rw [if_pos q.1] at c1; rcases kd_c (B := B) h.le.1 with ⟨q1, -⟩ | ⟨-, q1, -, -, q2, -⟩ | ⟨q1, -⟩ | ⟨q1, -⟩ <;> omega)]
      rfl
    · have k1 : kd B L b = 1 := by
        unfold wlen at c1
        split at c1
        · assumption
        · omega
      have k2 : wlen B L b = te B L b - b := if_pos k1
      refine wp_ifF (by rw [w32i (by omega)]; omega) ?_
      by_cases c2 : 6 < wlen B L b
      · refine wp_ifT (by rw [w32i (by omega)]; omega) (wp_some ⟨?_, e2, e3⟩)
        unfold naB
        rw [decide_eq_false (fun q => by omega)]
        rfl
      · refine wp_ifF (by rw [w32i (by omega)]; omega) ?_
        have kn : naB B L b = !kpB B L b := by
          unfold naB
          rw [decide_eq_true ⟨k1, by omega⟩]
          rfl
        rw [kn]
        obtain ⟨ρ2, u0, f0, t0⟩ := e3.tr.isWord (n := n) (a := 47) hT (by decide) hn
        rw [show strB 47 = strB 0 from wd_eq 0 (by decide)] at u0
        refine wp_bnd2 (wp_of u0 ?_)
        cases q0 : waB B L b (strB 0)
        case true => exact wp_ifF (by dsimp only; decide) (wp_some ⟨by unfold kpB; rw [q0]; rfl, (e2.tr f0), t0⟩)
        refine wp_ifT (by dsimp only; rfl) ?_
        obtain ⟨ρ3, u1, f1, t1⟩ := t0.tr.isWord (n := n) (a := 48) hT (by decide) hn
        rw [wd_eq 1 (by decide)] at u1
        refine wp_bnd2 (wp_of u1 ?_)
        cases q1 : waB B L b (strB 1)
        case true => exact wp_ifF (by dsimp only; decide) (wp_some ⟨by unfold kpB; rw [q0, q1]; rfl, ((e2.tr f0).tr f1), t1⟩)
        refine wp_ifT (by dsimp only; rfl) ?_
        obtain ⟨ρ4, u2, f2, t2⟩ := t1.tr.isWord (n := n) (a := 49) hT (by decide) hn
        rw [wd_eq 2 (by decide)] at u2
        refine wp_bnd2 (wp_of u2 ?_)
        cases q2 : waB B L b (strB 2)
        case true => exact wp_ifF (by dsimp only; decide) (wp_some ⟨by unfold kpB; rw [q0, q1, q2]; rfl, (((e2.tr f0).tr f1).tr f2), t2⟩)
        refine wp_ifT (by dsimp only; rfl) ?_
        obtain ⟨ρ5, u3, f3, t3⟩ := t2.tr.isWord (n := n) (a := 50) hT (by decide) hn
        rw [wd_eq 3 (by decide)] at u3
        refine wp_bnd2 (wp_of u3 ?_)
        cases q3 : waB B L b (strB 3)
        case true => exact wp_ifF (by dsimp only; decide) (wp_some ⟨by unfold kpB; rw [q0, q1, q2, q3]; rfl, ((((e2.tr f0).tr f1).tr f2).tr f3), t3⟩)
        refine wp_ifT (by dsimp only; rfl) ?_
        obtain ⟨ρ6, u4, f4, t4⟩ := t3.tr.isWord (n := n) (a := 51) hT (by decide) hn
        rw [wd_eq 4 (by decide)] at u4
        refine wp_bnd2 (wp_of u4 ?_)
        cases q4 : waB B L b (strB 4)
        case true => exact wp_ifF (by dsimp only; decide) (wp_some ⟨by unfold kpB; rw [q0, q1, q2, q3, q4]; rfl, (((((e2.tr f0).tr f1).tr f2).tr f3).tr f4), t4⟩)
        refine wp_ifT (by dsimp only; rfl) ?_
        obtain ⟨ρ7, u5, f5, t5⟩ := t4.tr.isWord (n := n) (a := 52) hT (by decide) hn
        rw [wd_eq 5 (by decide)] at u5
        refine wp_bnd2 (wp_of u5 ?_)
        cases q5 : waB B L b (strB 5)
        case true => exact wp_ifF (by dsimp only; decide) (wp_some ⟨by unfold kpB; rw [q0, q1, q2, q3, q4, q5]; rfl, ((((((e2.tr f0).tr f1).tr f2).tr f3).tr f4).tr f5), t5⟩)
        refine wp_ifT (by dsimp only; rfl) ?_
        obtain ⟨ρ8, u6, f6, t6⟩ := t5.tr.isWord (n := n) (a := 53) hT (by decide) hn
        rw [wd_eq 6 (by decide)] at u6
        refine wp_bnd2 (wp_of u6 ?_)
        cases q6 : waB B L b (strB 6)
        case true => exact wp_ifF (by dsimp only; decide) (wp_some ⟨by unfold kpB; rw [q0, q1, q2, q3, q4, q5, q6]; rfl, (((((((e2.tr f0).tr f1).tr f2).tr f3).tr f4).tr f5).tr f6), t6⟩)
        refine wp_ifT (by dsimp only; rfl) ?_
        obtain ⟨ρ9, u7, f7, t7⟩ := t6.tr.isWord (n := n) (a := 54) hT (by decide) hn
        rw [wd_eq 7 (by decide)] at u7
        refine wp_bnd2 (wp_of u7 ?_)
        cases q7 : waB B L b (strB 7)
        case true => exact wp_ifF (by dsimp only; decide) (wp_some ⟨by unfold kpB; rw [q0, q1, q2, q3, q4, q5, q6, q7]; rfl, ((((((((e2.tr f0).tr f1).tr f2).tr f3).tr f4).tr f5).tr f6).tr f7), t7⟩)
        refine wp_ifT (by dsimp only; rfl) ?_
        obtain ⟨ρ10, u8, f8, t8⟩ := t7.tr.isWord (n := n) (a := 55) hT (by decide) hn
        rw [wd_eq 8 (by decide)] at u8
        refine wp_bnd2 (wp_of u8 ?_)
        cases q8 : waB B L b (strB 8)
        case true => exact wp_ifF (by dsimp only; decide) (wp_some ⟨by unfold kpB; rw [q0, q1, q2, q3, q4, q5, q6, q7, q8]; rfl, (((((((((e2.tr f0).tr f1).tr f2).tr f3).tr f4).tr f5).tr f6).tr f7).tr f8), t8⟩)
        refine wp_ifT (by dsimp only; rfl) ?_
        obtain ⟨ρ11, u9, f9, t9⟩ := t8.tr.isWord (n := n) (a := 56) hT (by decide) hn
        rw [wd_eq 9 (by decide)] at u9
        refine wp_bnd2 (wp_of u9 ?_)
        cases q9 : waB B L b (strB 9)
        case true => exact wp_ifF (by dsimp only; decide) (wp_some ⟨by unfold kpB; rw [q0, q1, q2, q3, q4, q5, q6, q7, q8, q9]; rfl, ((((((((((e2.tr f0).tr f1).tr f2).tr f3).tr f4).tr f5).tr f6).tr f7).tr f8).tr f9), t9⟩)
        refine wp_ifT (by dsimp only; rfl) ?_
        obtain ⟨ρ12, u10, f10, t10⟩ := t9.tr.isWord (n := n) (a := 57) hT (by decide) hn
        rw [wd_eq 10 (by decide)] at u10
        refine wp_bnd2 (wp_of u10 ?_)
        cases q10 : waB B L b (strB 10)
        · exact wp_ifT (by dsimp only; rfl) (wp_some ⟨by unfold kpB; rw [q0, q1, q2, q3, q4, q5, q6, q7, q8, q9, q10]; rfl, (((((((((((e2.tr f0).tr f1).tr f2).tr f3).tr f4).tr f5).tr f6).tr f7).tr f8).tr f9).tr f10), t10⟩)
        · exact wp_ifF (by dsimp only; decide) (wp_some ⟨by unfold kpB; rw [q0, q1, q2, q3, q4, q5, q6, q7, q8, q9, q10]; rfl, (((((((((((e2.tr f0).tr f1).tr f2).tr f3).tr f4).tr f5).tr f6).tr f7).tr f8).tr f9).tr f10), t10⟩)
  obtain ⟨⟨v, ρ'⟩, e, rfl, h1, h2⟩ := key
  exact ⟨ρ', e, h1, h2⟩
