/-! ===== the sea's text: surfers ===== -/
def shf (ρ : SG) : SG := fun k => if k = 60 then ρ 61 else ρ k
theorem shf_60 {ρ : SG} : shf ρ 60 = ρ 61 := if_pos rfl
def SeaD (σ ρ : SG) (S m q : Nat) : Prop := (m ≤ 5 ∧ q ≤ 20 ∧ σ S 5 = (m : Int) ∧ σ S 6 = (q : Int) ∧ ρ 61 0 = (m : Int) ∧ ρ 61 1 = (q : Int)) ∧ (ρ 61 2 = σ S 7 ∧ 1 ≤ σ S 7 ∧ σ S 7 ≤ 60) ∧ (ρ 61 3 = σ S 8 ∧ 0 ≤ σ S 8 ∧ σ S 8 ≤ 30) ∧ (∀ s : Nat, s < m → ISeaS σ (shf ρ) S s) ∧ (∀ w : Nat, w < q → ISeaW σ (shf ρ) S w) ∧ (ρ 57 12 = σ 17 2 ∧ (σ 17 2 = 0 ∨ σ 17 2 = 1)) ∧ (ρ 57 13 = σ 17 3 ∧ (σ 17 3 = 0 ∨ σ 17 3 = 1)) ∧ σ 17 1 = (S : Int) ∧ (S = 1 ∨ S = 20)
/-- what reading a sea may change -/
def FsC (S : Nat) (σ σ' : SG) : Prop := ∀ c j, ¬ (c = 15 ∧ 2 ≤ j ∧ j ≤ 5) → ¬ (c = 17 ∧ (j = 2 ∨ j = 3)) → ¬ (S ≤ c ∧ c ≤ S + 5 ∧ ¬ (c = S ∧ ¬ (5 ≤ j ∧ j ≤ 8))) → σ' c j = σ c j
def FsR (ρ ρ' : SG) : Prop := ∀ c j, ¬ (c = 57 ∧ (j = 4 ∨ j = 5 ∨ j = 7 ∨ j = 12 ∨ j = 13)) → c ≠ 61 → ρ' c j = ρ c j
theorem FsC.rf {S : Nat} {σ : SG} : FsC S σ σ := fun _ _ _ _ _ => rfl
theorem FsC.tr {S : Nat} {σ τ υ : SG} (h : FsC S σ τ) (h' : FsC S τ υ) : FsC S σ υ := fun c j a b d => (h' c j a b d).trans (h c j a b d)
theorem FsR.rf {σ : SG} : FsR σ σ := fun _ _ _ _ => rfl
theorem FsR.tr {σ τ υ : SG} (h : FsR σ τ) (h' : FsR τ υ) : FsR σ υ := fun c j a b => (h' c j a b).trans (h c j a b)
theorem FrT.s {S : Nat} {σ τ : SG} (h : FrT σ τ) : FsC S σ τ := fun c j a _ _ => h c j a
theorem FrK.s {σ τ : SG} (h : FrK σ τ) : FsR σ τ := fun c j a _ => h c j (by omega)
theorem FsR.up {ρ : SG} {j : Nat} {v : Int} : FsR ρ (up ρ 61 j v) := fun c i _ h => up_ne (by omega)
theorem SeaD.cg {σ ρ σ' ρ' : SG} {S m q : Nat} (h : SeaD σ ρ S m q) (f : FrT σ σ') (g : FrK ρ ρ') : SeaD σ' ρ' S m q := by
  have hS : S = 1 ∨ S = 20 := h.2.2.2.2.2.2.2.2
  have e : ∀ i, i < 6 → σ' (S + i) = σ (S + i) := fun i hi => funext fun j => f _ j (by omega)
  have e0 : σ' S = σ S := e 0 (by decide)
  have e17 : σ' 17 = σ 17 := funext fun j => f 17 j (by omega)
  have r61 : ρ' 61 = ρ 61 := funext fun j => g 61 j (by omega)
  have r60 : shf ρ' 60 = shf ρ 60 := by rw [shf_60, shf_60, r61]
  unfold SeaD at *
  rw [e0, e17, r61, g 57 12 (by omega), g 57 13 (by omega)]
  exact ⟨h.1, h.2.1, h.2.2.1, fun s hs => (h.2.2.2.1 s hs).cg (fun i _ hi => e i hi) r60, fun w hw => (h.2.2.2.2.1 w hw).cg (fun i _ hi => e i hi) r60, h.2.2.2.2.2⟩
/-- what came of a line: it goes on, or it failed -/
def LO (B : Nat → Int) (L S b : Nat) (σ ρ : SG) (v : Int) (σ' ρ' : SG) : Prop := FsC S σ σ' ∧ FsR ρ ρ' ∧ ((v = 1 ∧ ∃ b' m q, b < b' ∧ TC σ' B L b' ∧ TR ρ' B L b' ∧ SeaD σ' ρ' S m q) ∨ (v = 0 ∧ FR ρ' B L (σ' 15 3)))
/-- the name of surfer s is the word at b -/
def smN (σ : SG) (S s : Nat) (B : Nat → Int) (L b : Nat) : Bool := decide (σ (S + 2) s = ((te B L b - b : Nat) : Int) ∧ ∀ i, i < te B L b - b → σ (S + 1) (6 * s + i) = B (b + i))
def anyN (f : Nat → Bool) : Nat → Bool
  | 0 => false
  | k + 1 => anyN f k || f k
theorem anyN_s {f : Nat → Bool} {k : Nat} : anyN f (k + 1) = (anyN f k || f k) := rfl
theorem anyN_t {f : Nat → Bool} {s : Nat} (h : f s = true) : ∀ {m : Nat}, s < m → anyN f m = true
  | 0, hm => absurd hm (by omega)
  | m + 1, hm => by
    rw [anyN_s]
    by_cases c : s = m
    · rw [← c, h, Bool.or_true]
    · rw [anyN_t h (show s < m by omega), Bool.true_or]
theorem anyN_f {f : Nat → Bool} : ∀ {m : Nat}, anyN f m = false → ∀ s, s < m → f s = false
  | 0, _, s, hs => absurd hs (by omega)
  | m + 1, h, s, hs => by
    rw [anyN_s, Bool.or_eq_false_iff] at h
    by_cases c : s = m
    · rw [c]; exact h.2
    · exact anyN_f h.1 s (by omega)
theorem letterOf_ok {σ : SG} {S s k m n c : Nat} (h5 : σ S 5 = (m : Int)) (hm : m ≤ 5) (hs : s < m) (hc : σ (S + 2) s = (c : Int)) (hc6 : c ≤ 6) (hk : k < c) : X6_letterOf n S (s : Int) (k : Int) σ = some (σ (S + 1) (6 * s + k)) := by
  refine of_wp ?_
  unfold X6_letterOf
  exact wp_ifF (by rw [w32i (by omega)]; omega) (wp_ifF (by rw [h5, w32i (by omega), w32i (by omega)]; omega) (wp_ifF (by rw [w32i (by omega)]; omega) (wp_rdn (by omega) (by omega) (wp_ifT (by rw [hc, w32i (by omega), w32i (by omega)]; omega) (wp_rdI (6 * s + k) (by omega) (by omega) (by decide) (wp_some rfl))))))
theorem isNameOf_ok {σ : SG} {B : Nat → Int} {L b S s m n : Nat} (h : TC σ B L b) (hT : Txt B L) (h5 : σ S 5 = (m : Int)) (hm : m ≤ 5) (hs : s < m) (hl : 1 ≤ σ (S + 2) s ∧ σ (S + 2) s ≤ 6) (hlt : ∀ i : Nat, (i : Int) < σ (S + 2) s → 97 ≤ σ (S + 1) (6 * s + i) ∧ σ (S + 1) (6 * s + i) ≤ 122) (hn : 500 < n) : X6_isNameOf n S (s : Int) σ = some (b2i (smN σ S s B L b)) := by
  obtain ⟨h1, h2, h3, h4, h5', h6, h7, h8⟩ := h
  obtain ⟨hL, hB⟩ := hT
  obtain ⟨t1, t2, t3⟩ := te_b (B := B) h3
  obtain ⟨c, hc⟩ := nat_of (show 0 ≤ σ (S + 2) s by omega)
  refine of_wp ?_
  unfold X6_isNameOf
  refine wp_rdn (by omega) (by omega) ?_
  rw [h6, h4, hc]
  by_cases q : te B L b - b = c
  · refine wp_ifT (by rw [w32i (by omega), w32i (by omega)]; omega) (wp_bind (wp_loop (fun k (z : Int) => z = (k : Int) ∧ ∀ i, i < k → σ (S + 1) (6 * s + i) = B (b + i)) c ?_ ⟨rfl, fun i hi => absurd hi (by omega)⟩ (by omega)))
    rintro k z hk ⟨e1, e2⟩
    subst e1
    unfold X6_isNameOf_l22
    refine wp_rdn (by omega) (by omega) ?_
    rw [hc]
    by_cases d : k = c
    · subst d
      refine wp_ifT (Int.le_refl _) (wp_some (Or.inr ⟨_, rfl, wp_some ?_⟩))
      have : smN σ S s B L b = true := decide_eq_true ⟨by omega, fun i hi => e2 i (by omega)⟩
      rw [this]
      rfl
    · have v := hB (b + k) (by omega)
      have u := hlt k (by omega)
      refine wp_ifF (by rw [w32i (by omega), w32i (by omega)]; omega) (wp_ifF (by rw [h1, h4, w32i (by omega), w32i (by omega)]; omega) (wp_bind (wp_of (letterOf_ok h5 hm hs hc (by omega) (by omega)) (wp_rdI (b + k) (by rw [h4]; omega) (by omega) (by decide) ?_))))
      rw [h2 (b + k) (by omega)]
      by_cases q2 : σ (S + 1) (6 * s + k) = B (b + k)
      · refine wp_ifT (by rw [q2]) (wp_lt (wp_some (Or.inl ⟨_, rfl, by omega, by omega, fun i hi => ?_⟩)))
        by_cases q3 : i = k
        · rw [q3]; exact q2
        · exact e2 i (by omega)
      · refine wp_ifF (by rw [w32i (by omega), w32i (by omega)]; exact q2) (wp_some (Or.inr ⟨_, rfl, wp_some ?_⟩))
        have : smN σ S s B L b = false := decide_eq_false (fun q3 => q2 (q3.2 k (by omega)))
        rw [this]
        rfl
  · refine wp_ifF (by rw [w32i (by omega), w32i (by omega)]; omega) (wp_some ?_)
    have : smN σ S s B L b = false := decide_eq_false (fun q3 => by have := q3.1; omega)
    rw [this]
    rfl
theorem isNewName_ok {σ ρ : SG} {B : Nat → Int} {L b S m q n : Nat} (h : TC σ B L b) (hT : Txt B L) (D : SeaD σ ρ S m q) (hn : 500 < n) : X7_isNewName n σ = some (b2i (naB B L b && !anyN (fun s => smN σ S s B L b) m)) := by
  obtain ⟨⟨m5, q20, d1, d2, d3, d4⟩, -, -, dS, -, -, -, d17, hS⟩ := D
  have h' := h
  obtain ⟨h1, h2, h3, h4, h5', h6, h7, h8⟩ := h'
  have hL := hT.1
  obtain ⟨t1, t2, t3⟩ := te_b (B := B) h3
  have hk := kd_c (B := B) h3
  refine of_wp ?_
  unfold X7_isNewName
  rw [h5', h6, h4]
  by_cases c1 : kd B L b = 1
  · refine wp_ifT (by rw [c1]; rfl) ?_
    by_cases c2 : te B L b - b ≤ 6
    · have hna : naB B L b = !kpB B L b := by
        unfold naB
        rw [decide_eq_true ⟨c1, c2⟩]
        rfl
      rw [hna]
      refine wp_ifF (by rw [w32i (by omega)]; omega) (wp_bind (wp_of (h.isKept hT hn) ?_))
      cases kpB B L b
      case true => exact wp_ifF (by decide) (wp_some rfl)
      refine wp_ifT rfl (wp_bind (wp_loop (fun k (z : Int) => z = (k : Int) ∧ anyN (fun s => smN σ S s B L b) k = false) m ?_ ⟨rfl, rfl⟩ (by omega)))
      rintro k z hk' ⟨e1, e2⟩
      subst e1
      unfold X7_isNewName_l42
      refine wp_ckI S d17 (isSea_S hS) ?_
      by_cases d : k = m
      · subst d
        rw [e2]
        exact wp_ifT (by rw [d1]; exact Int.le_refl _) (wp_some (Or.inr ⟨_, rfl, wp_some rfl⟩))
      · have I := dS k (by omega)
        refine wp_ifF (by rw [d1, w32i (by omega), w32i (by omega)]; omega) (wp_ckI S d17 (isSea_S hS) (wp_bind (wp_of (isNameOf_ok h hT d1 m5 (by omega) ⟨I.1, I.2.1⟩ I.2.2.2.1 hn) ?_)))
        cases q1 : smN σ S k B L b
        · exact wp_ifT rfl (wp_lt (wp_some (Or.inl ⟨_, rfl, by omega, by omega, by rw [anyN_s, e2, q1]; rfl⟩)))
        · rw [anyN_t (f := fun s => smN σ S s B L b) q1 (show k < m by omega)]
          exact wp_ifF (by decide) (wp_some (Or.inr ⟨_, rfl, wp_some rfl⟩))
    · have hna : naB B L b = false := by
        unfold naB
        rw [decide_eq_false (fun q => c2 q.2)]
        rfl
      rw [hna]
      exact wp_ifT (by rw [w32i (by omega)]; omega) (wp_some rfl)
  · have hna : naB B L b = false := by
      unfold naB
      rw [decide_eq_false (fun q => c1 q.1)]
      rfl
    rw [hna]
    exact wp_ifF (by rw [w32i (by omega)]; exact c1) (wp_some rfl)
theorem na_t {B : Nat → Int} {L b : Nat} (h : naB B L b = true) (hb : b ≤ L) : kd B L b = 1 ∧ te B L b - b ≤ 6 ∧ 1 ≤ te B L b - b ∧ wlen B L b = te B L b - b ∧ ∀ i, i < te B L b - b → 97 ≤ B (b + i) ∧ B (b + i) ≤ 122 := by
  unfold naB at h
  obtain ⟨h1, h2⟩ := of_decide_eq_true (Bool.and_eq_true_iff.mp h).1
  rcases kd_c (B := B) hb with ⟨q, -⟩ | ⟨-, q1, q2, q3, q4, q5⟩ | ⟨q, -⟩ | ⟨q, -⟩
  · rw [q] at h1; exact absurd h1 (by decide)
  · refine ⟨h1, h2, by omega, if_pos h1, fun i hi => ltB_t.mp ((skp_ok (g := ltB) (B := B) hb).2.2.1 (b + i) (by omega) (by omega))⟩
  · rw [q] at h1; exact absurd h1 (by decide)
  · rw [q] at h1; exact absurd h1 (by decide)
theorem TR.isTold {σ ρ : SG} {B : Nat → Int} {L b S m q n : Nat} (h : TR ρ B L b) (hT : Txt B L) (D : SeaD σ ρ S m q) (hna : naB B L b = true) (hn : 500 < n) : ∃ ρ', X12_isTold n ρ = some (b2i (anyN (fun s => smN σ S s B L b) m), ρ') ∧ FrK ρ ρ' ∧ TB ρ' B L b := by
  obtain ⟨ρ1, e1, e2, e3⟩ := h.wordMany hT hn
  obtain ⟨k1, k2, k3, k4, k5⟩ := na_t hna h.le.1
  obtain ⟨⟨m5, q20, d1, d2, d3, d4⟩, -, -, dS, -⟩ := D
  have e3' := e3
  obtain ⟨r1, r2, r3, r4, r5, r6⟩ := e3'
  obtain ⟨t1, t2, t3⟩ := te_b (B := B) r5
  have hL := hT.1
  have r61 : ∀ j, ρ1 61 j = ρ 61 j := fun j => e2 61 j (by omega)
  refine ⟨ρ1, of_wp ?_, e2, e3⟩
  unfold X12_isTold
  refine wp_bnd2 (wp_of e1 (wp_bind (wp_loop (fun k (z : Int) => z = (k : Int) ∧ anyN (fun s => smN σ S s B L b) k = false) m ?_ ⟨rfl, rfl⟩ (by omega))))
  rintro s z hs ⟨g1, g2⟩
  subst g1
  unfold X12_isTold_l7
  refine wp_rdI 0 rfl (by decide) (by decide) ?_
  have h610 : ρ1 61 0 = (m : Int) := (r61 0).trans d3
  dsimp only
  by_cases d : s = m
  · subst d
    rw [g2]
    refine wp_ifT (by rw [h610]; exact Int.le_refl _) (wp_some (Or.inr ⟨_, rfl, ?_⟩))
    show wp (X12_isTold_e7 n ρ1) _
    unfold X12_isTold_e7
    exact wp_some rfl
  · obtain ⟨i1, i2, i3, i4, -⟩ := dS s (by omega)
    obtain ⟨c, hc⟩ := nat_of (show 0 ≤ σ (S + 2) s by omega)
    rw [shf_60] at i3
    have hi3 : ∀ i, i < 6 → ρ1 61 (4 + 6 * s + i) = if i < c then σ (S + 1) (6 * s + i) else 0 := fun i hi => by
      rw [r61, i3 i hi, hc]
      by_cases q1 : i < c
      · rw [if_pos (by omega), if_pos q1]
      · rw [if_neg (by omega), if_neg q1]
    refine wp_ifF (by rw [h610, w32i (by omega), w32i (by omega)]; omega) (wp_bind ?_)
    rw [k4]
    have hin : wp (iter n (fun s_1 : Int × Int => X12_isTold_l22 n (s : Int) ((te B L b - b : Nat) : Int) ρ1 s_1.1 s_1.2) (1, 0)) (fun y => y = b2i (smN σ S s B L b)) := by
      refine wp_loop (fun i (z : Int × Int) => z.2 = (i : Int) ∧ ((z.1 = 1 ∧ ∀ t, t < i → (if t < c then σ (S + 1) (6 * s + t) else 0) = (if t < te B L b - b then B (b + t) else 0)) ∨ (z.1 = 0 ∧ smN σ S s B L b = false))) 6 ?_ ⟨rfl, Or.inl ⟨rfl, fun t ht => absurd ht (by omega)⟩⟩ (by omega)
      rintro i ⟨y1, y2⟩ hi ⟨p1, p2⟩
      obtain rfl : y2 = (i : Int) := p1
      have p3 : (y1 = 1 ∧ ∀ t, t < i → (if t < c then σ (S + 1) (6 * s + t) else 0) = (if t < te B L b - b then B (b + t) else 0)) ∨ (y1 = 0 ∧ smN σ S s B L b = false) := p2
      clear p2
      dsimp only
      unfold X12_isTold_l22 X12_isTold_j77 X12_isTold_j69
      rcases p3 with ⟨rfl, p4⟩ | ⟨rfl, p4⟩
      · by_cases d6 : i = 6
        · subst d6
          refine wp_ifT (by decide) (wp_some (Or.inr ⟨_, rfl, ?_⟩))
          have hcn : c = te B L b - b := by
            rcases Nat.lt_trichotomy c (te B L b - b) with q1 | q1 | q1
            · have := p4 c (by omega)
              rw [if_neg (by omega), if_pos q1] at this
              have := k5 c q1
              omega
            · exact q1
            · have := p4 (te B L b - b) (by omega)
              rw [if_pos q1, if_neg (by omega)] at this
              have := i4 (te B L b - b) (by omega)
              omega
          have : smN σ S s B L b = true := decide_eq_true ⟨by omega, fun t ht => by
            have := p4 t (by omega)
            rw [if_pos (by omega), if_pos ht] at this
            exact this⟩
          rw [this]
          rfl
        · have hlet : ∀ t, t < c → 97 ≤ σ (S + 1) (6 * s + t) ∧ σ (S + 1) (6 * s + t) ≤ 122 := fun t ht => i4 t (by omega)
          have hD := hi3 i (by omega)
          have go : ∀ y : Int, y = (if i < te B L b - b then B (b + i) else 0) → wp (if w32 (ρ1 61 (4 + 6 * s + i)) = w32 y then some 1 else some 0 : Option Int) (fun s_1 => wp (lt ((i : Int) + 1) fun x14 => some (.inl (s_1, x14)) : Option ((Int × Int) ⊕ Int)) (fun y => (∃ a' : Int × Int, y = .inl a' ∧ i < 6 ∧ a'.2 = ((i + 1 : Nat) : Int) ∧ ((a'.1 = 1 ∧ ∀ t, t < i + 1 → (if t < c then σ (S + 1) (6 * s + t) else 0) = (if t < te B L b - b then B (b + t) else 0)) ∨ (a'.1 = 0 ∧ smN σ S s B L b = false))) ∨ ∃ b_1, y = .inr b_1 ∧ b_1 = b2i (smN σ S s B L b))) := by
            intro y hy
            have hyr : 0 ≤ y ∧ y ≤ 122 := by
              rw [hy]
              split
              · have := k5 i (by assumption)
                omega
              · omega
            have hdr : 0 ≤ ρ1 61 (4 + 6 * s + i) ∧ ρ1 61 (4 + 6 * s + i) ≤ 122 := by
              rw [hD]
              split
              · have := hlet i (by assumption)
                omega
              · omega
            by_cases q1 : ρ1 61 (4 + 6 * s + i) = y
            · refine wp_ifT (by rw [q1]) (wp_some (wp_lt (wp_some (Or.inl ⟨_, rfl, by omega, by simp only []; omega, Or.inl ⟨rfl, fun t ht => ?_⟩⟩))))
              by_cases q2 : t = i
              · rw [q2, ← hy, ← q1, hD]
              · exact p4 t (by omega)
            · refine wp_ifF (by rw [w32i (by omega), w32i (by omega)]; exact q1) (wp_some (wp_lt (wp_some (Or.inl ⟨_, rfl, by omega, by simp only []; omega, Or.inr ⟨rfl, decide_eq_false (fun q2 => ?_)⟩⟩))))
              obtain ⟨q3, q4⟩ := q2
              have hcn : c = te B L b - b := by omega
              apply q1
              rw [hy, hD]
              by_cases q5 : i < c
              · rw [if_pos q5, if_pos (by omega)]
                exact q4 i (by omega)
              · rw [if_neg q5, if_neg (by omega)]
          refine wp_ifF (by rw [w32i (by omega)]; omega) (wp_bind (wp_ifF (by decide) (wp_rdI (4 + 6 * s + i) (by omega) (by omega) (by decide) (wp_bind ?_))))
          by_cases q1 : i < te B L b - b
          · have hu := hT.2 (b + i) (by omega)
            have hl := k5 i q1
            refine wp_ifF (by rw [w32i (by omega), w32i (by omega)]; omega) (wp_rdI (b + i) (by rw [r3]; omega) (by omega) (by decide) (wp_some ?_))
            rw [r1.2 (b + i) (by omega), show sb (B (b + i)) = B (b + i) from if_pos (by omega)]
            exact go _ (by rw [if_pos q1])
          · exact wp_ifT (by rw [w32i (by omega), w32i (by omega)]; omega) (wp_some (go 0 (by rw [if_neg q1])))
      · by_cases d6 : i = 6
        · subst d6
          exact wp_ifT (by decide) (wp_some (Or.inr ⟨_, rfl, by rw [p4]; rfl⟩))
        · exact wp_ifF (by rw [w32i (by omega)]; omega) (wp_bind (wp_ifT rfl (wp_some (wp_lt (wp_some (Or.inl ⟨_, rfl, by omega, by simp only []; omega, Or.inr ⟨rfl, p4⟩⟩))))))
    refine wp_mono hin ?_
    rintro _ rfl
    unfold X12_isTold_e22
    cases q1 : smN σ S s B L b
    · exact wp_ifT rfl (wp_lt (wp_some (Or.inl ⟨_, rfl, by omega, by omega, by rw [anyN_s, g2, q1]; rfl⟩)))
    · rw [anyN_t (f := fun s => smN σ S s B L b) q1 (show s < m by omega)]
      exact wp_ifF (by decide) (wp_some (Or.inr ⟨_, rfl, wp_some rfl⟩))
