/-! ===== the relation between the class's cells (in σ) and the reference's (in ρ) ===== -/
/-- a byte, signed -/
def sb (u : Int) : Int := if u < 128 then u else u - 256
theorem w32_r {a : Int} (h : rng a) : w32 a = a := w32_id h.1 h.2
theorem nat_of {x : Int} (h : 0 ≤ x) : ∃ k : Nat, x = (k : Int) := ⟨x.toNat, by omega⟩
theorem wZ_0 : wZ 0 = 0 := by decide
theorem wZ_1 : wZ 1 = 1 := by decide
theorem w32_1 : w32 1 = 1 := by decide
/-! further steps -/
theorem wp_of {β : Type} {m : Option β} {v : β} {Q : β → Prop} (e : m = some v) (h : Q v) : wp m Q := ⟨v, e, h⟩
theorem of_wp {β : Type} {m : Option β} {v : β} (h : wp m (fun r => r = v)) : m = some v := by
  obtain ⟨b, e, rfl⟩ := h
  exact e
theorem rel_of {β : Type} {m m' : Option β} {P : β → Prop} (h : wp m (fun v => wp m' (fun v' => v' = v ∧ P v))) : ∃ v, m = some v ∧ m' = some v ∧ P v := by
  obtain ⟨b, e, b', e', rfl, h⟩ := h
  exact ⟨_, e, e', h⟩
theorem rel2_of {α β : Type} {m : Option α} {m' : Option β} {P : α → β → Prop} (h : wp m (fun v => wp m' (fun v' => P v v'))) : ∃ v v', m = some v ∧ m' = some v' ∧ P v v' := by
  obtain ⟨b, e, b', e', h⟩ := h
  exact ⟨_, _, e, e', h⟩
theorem wp_ifT {β : Type} {c : Prop} {i : Decidable c} {a b : Option β} {Q : β → Prop} (h : c) (k : wp a Q) : wp (@ite _ c i a b) Q := by rw [if_pos h]; exact k
theorem wp_ifF {β : Type} {c : Prop} {i : Decidable c} {a b : Option β} {Q : β → Prop} (h : ¬ c) (k : wp b Q) : wp (@ite _ c i a b) Q := by rw [if_neg h]; exact k
theorem wp_rdI {β : Type} {n i : Int} (j : Nat) {f : Nat → Option β} {Q : β → Prop} (e : i = (j : Int)) (h : (j : Int) < n) (hb : n ≤ 1000) (k : wp (f j) Q) : wp (rdA n i f) Q := by
  subst e
  exact wp_rdn h (by omega) k
theorem wp_ckI {β : Type} {p : Nat → Bool} {x : Int} (k : Nat) {f : Nat → Option β} {Q : β → Prop} (hx : x = (k : Int)) (hp : p k = true) (h : wp (f k) Q) : wp (ckR p x f) Q := wp_ck hx hp h
theorem isSw_s {s : Nat} (h : s < 5) : isSw (39 + 2 * s) = true := by
  have : s = 0 ∨ s = 1 ∨ s = 2 ∨ s = 3 ∨ s = 4 := by omega
  rcases this with rfl | rfl | rfl | rfl | rfl <;> rfl
theorem isSea_S {S : Nat} (h : S = 1 ∨ S = 20) : isSea S = true := by rcases h with rfl | rfl <;> rfl
theorem isJudge_J {J : Nat} (h : J = 7 ∨ J = 26) : isJudge J = true := by rcases h with rfl | rfl <;> rfl
theorem up_eq {σ : SG} {k j a b : Nat} {v : Int} (h1 : a = k) (h2 : b = j) : up σ k j v a b = v := if_pos ⟨h1, h2⟩
theorem up_ne {σ : SG} {k j a b : Nat} {v : Int} (h : ¬ (a = k ∧ b = j)) : up σ k j v a b = σ a b := if_neg h
theorem w32i {x : Int} (h : -2147483648 ≤ x ∧ x < 2147483648) : w32 x = x := w32_id h.1 h.2
/-- two loops -/
theorem wp_loop {A B : Type} {f : A → Option (A ⊕ B)} {Q : B → Prop} (P : Nat → A → Prop) (m : Nat) (h : ∀ k a, k ≤ m → P k a → wp (f a) (fun y => (∃ a', y = .inl a' ∧ k < m ∧ P (k + 1) a') ∨ (∃ b, y = .inr b ∧ Q b))) {n : Nat} {a : A} (h0 : P 0 a) (hn : m < n) : wp (iter n f a) Q := by
  have key : ∀ d k n a, k + d = m → d < n → P k a → wp (iter n f a) Q := by
    intro d
    induction d with
    | zero =>
      intro k n a hk hn hp
      obtain ⟨y, e, h1⟩ := h k a (by omega) hp
      cases n with
      | zero => omega
      | succ n =>
        unfold iter
        rw [e]
        rcases h1 with ⟨a', rfl, q, -⟩ | ⟨b, rfl, q⟩
        · omega
        · exact ⟨b, rfl, q⟩
    | succ d ih =>
      intro k n a hk hn hp
      obtain ⟨y, e, h1⟩ := h k a (by omega) hp
      cases n with
      | zero => omega
      | succ n =>
        unfold iter
        rw [e]
        rcases h1 with ⟨a', rfl, q, hp'⟩ | ⟨b, rfl, q⟩
        · exact ih (k + 1) n a' (by omega) (by omega) hp'
        · exact ⟨b, rfl, q⟩
  exact key m 0 n a (by omega) hn h0
/-- in a loop's step: it goes on; it ends -/
theorem wp_go {A B : Type} {a : A} {c : Prop} {P : A → Prop} {R : B → Prop} (h : c ∧ P a) : wp (some (.inl a) : Option (A ⊕ B)) (fun y => (∃ a', y = .inl a' ∧ c ∧ P a') ∨ (∃ b, y = .inr b ∧ R b)) := ⟨_, rfl, Or.inl ⟨a, rfl, h⟩⟩
theorem wp_end {A B : Type} {b : B} {c : Prop} {P : A → Prop} {R : B → Prop} (h : R b) : wp (some (.inr b) : Option (A ⊕ B)) (fun y => (∃ a', y = .inl a' ∧ c ∧ P a') ∨ (∃ b, y = .inr b ∧ R b)) := ⟨_, rfl, Or.inr ⟨b, rfl, h⟩⟩
/-- two loops side by side -/
theorem wp_loop2 {A B A' B' : Type} {f : A → Option (A ⊕ B)} {g : A' → Option (A' ⊕ B')} {Q : B → B' → Prop} (P : Nat → A → A' → Prop) (m : Nat)
    (h : ∀ k a a', k ≤ m → P k a a' → wp (f a) (fun y => wp (g a') (fun z => (∃ b b', y = .inl b ∧ z = .inl b' ∧ k < m ∧ P (k + 1) b b') ∨ (∃ b b', y = .inr b ∧ z = .inr b' ∧ Q b b'))))
    {n n' : Nat} {a : A} {a' : A'} (h0 : P 0 a a') (hn : m < n) (hn' : m < n') : ∃ b b', iter n f a = some b ∧ iter n' g a' = some b' ∧ Q b b' := by
  have key : ∀ d k n n' a a', k + d = m → d < n → d < n' → P k a a' → ∃ b b', iter n f a = some b ∧ iter n' g a' = some b' ∧ Q b b' := by
    intro d
    induction d with
    | zero =>
      intro k n n' a a' hk hn hn' hp
      obtain ⟨y, e, z, e', h1⟩ := h k a a' (by omega) hp
      cases n with
      | zero => omega
      | succ n =>
      cases n' with
      | zero => omega
      | succ n' =>
        unfold iter
        rw [e, e']
        rcases h1 with ⟨b, b', rfl, rfl, q, -⟩ | ⟨b, b', rfl, rfl, q⟩
        · omega
        · exact ⟨b, b', rfl, rfl, q⟩
    | succ d ih =>
      intro k n n' a a' hk hn hn' hp
      obtain ⟨y, e, z, e', h1⟩ := h k a a' (by omega) hp
      cases n with
      | zero => omega
      | succ n =>
      cases n' with
      | zero => omega
      | succ n' =>
        unfold iter
        rw [e, e']
        rcases h1 with ⟨b, b', rfl, rfl, q, hp'⟩ | ⟨b, b', rfl, rfl, q⟩
        · exact ih (k + 1) n n' b b' (by omega) (by omega) (by omega) hp'
        · exact ⟨b, b', rfl, rfl, q⟩
  exact key m 0 n n' a a' (by omega) hn hn' h0
theorem wp_go2 {A B A' B' : Type} {a : A} {a' : A'} {c : Prop} {P : A → A' → Prop} {R : B → B' → Prop} (h : c ∧ P a a') : wp (some (.inl a) : Option (A ⊕ B)) (fun y => wp (some (.inl a') : Option (A' ⊕ B')) (fun z => (∃ b b', y = .inl b ∧ z = .inl b' ∧ c ∧ P b b') ∨ (∃ b b', y = .inr b ∧ z = .inr b' ∧ R b b'))) := ⟨_, rfl, _, rfl, Or.inl ⟨a, a', rfl, rfl, h⟩⟩
theorem wp_end2 {A B A' B' : Type} {b : B} {b' : B'} {c : Prop} {P : A → A' → Prop} {R : B → B' → Prop} (h : R b b') : wp (some (.inr b) : Option (A ⊕ B)) (fun y => wp (some (.inr b') : Option (A' ⊕ B')) (fun z => (∃ b b', y = .inl b ∧ z = .inl b' ∧ c ∧ P b b') ∨ (∃ b b', y = .inr b ∧ z = .inr b' ∧ R b b'))) := ⟨_, rfl, _, rfl, Or.inr ⟨b, b', rfl, rfl, h⟩⟩
/-! ===== the parts of the relation ===== -/
/-- the tape and the fault -/
def ITape (σ ρ : SG) : Prop := 0 ≤ σ 15 1 ∧ σ 15 1 ≤ 400 ∧ ρ 57 2 = σ 15 1 ∧ ρ 57 8 = σ 0 5 ∧ ∀ j : Nat, (j : Int) < σ 15 1 → 0 ≤ σ 16 j ∧ σ 16 j ≤ 255 ∧ ρ 58 j = sb (σ 16 j)
/-- the sea in use, at the cell S, with m surfers and q waves -/
def ISeaS (σ ρ : SG) (S s : Nat) : Prop := 1 ≤ σ (S + 2) s ∧ σ (S + 2) s ≤ 6 ∧ (∀ i : Nat, i < 6 → ρ 60 (4 + 6 * s + i) = if (i : Int) < σ (S + 2) s then σ (S + 1) (6 * s + i) else 0) ∧ (∀ i : Nat, (i : Int) < σ (S + 2) s → 97 ≤ σ (S + 1) (6 * s + i) ∧ σ (S + 1) (6 * s + i) ≤ 122) ∧
  ρ 60 (34 + s) = σ (S + 3) s ∧ 0 ≤ σ (S + 3) s ∧ σ (S + 3) s ≤ 40 ∧ ρ 60 (39 + s) = σ (S + 4) s ∧ 1 ≤ σ (S + 4) s ∧ σ (S + 4) s ≤ 9
def ISeaW (σ ρ : SG) (S w : Nat) : Prop := (∀ j : Nat, j < 5 → ρ 60 (44 + 5 * w + j) = σ (S + 5) (5 * w + j)) ∧ 1 ≤ σ (S + 5) (5 * w) ∧ σ (S + 5) (5 * w) ≤ 99 ∧ 0 ≤ σ (S + 5) (5 * w + 1) ∧ σ (S + 5) (5 * w + 1) ≤ 40 ∧ 1 ≤ σ (S + 5) (5 * w + 2) ∧ σ (S + 5) (5 * w + 2) ≤ 3 ∧
  1 ≤ σ (S + 5) (5 * w + 3) ∧ σ (S + 5) (5 * w + 3) ≤ 9 ∧ 1 ≤ σ (S + 5) (5 * w + 4) ∧ σ (S + 5) (5 * w + 4) ≤ 15 ∧ (∀ v : Nat, v < w → σ (S + 5) (5 * v) ≤ σ (S + 5) (5 * w))
/-- its numbers: surfers, waves, minutes, again; the reference's own first three -/
def ISeaN (σ ρ : SG) (S m q : Nat) : Prop := (σ S 5 = (m : Int) ∧ σ S 6 = (q : Int) ∧ ρ 60 0 = (m : Int) ∧ ρ 60 1 = (q : Int) ∧ ρ 60 3 = σ S 8 ∧ 0 ≤ σ S 8 ∧ σ S 8 ≤ 30 ∧ 1 ≤ σ S 7 ∧ σ S 7 ≤ 60) ∧ m ≤ 5 ∧ q ≤ 20 ∧
  ((ρ 57 11 = 1 ∧ 2 ≤ m ∧ ρ 60 2 = σ S 7) ∨ (ρ 57 11 = 0 ∧ m = 0 ∧ q = 0 ∧ σ S 7 = 30))
/-- which sea and which judge are in use -/
def IUse (σ : SG) (S J : Nat) : Prop := (S = 1 ∨ S = 20) ∧ (J = 7 ∨ J = 26) ∧ σ 19 0 = (S : Int) ∧ σ 19 1 = (J : Int) ∧ σ 0 0 = 21 - (S : Int) ∧ σ 0 1 = 33 - (J : Int) ∧ ∀ s : Nat, s < 5 → σ 34 s = ((39 + 2 * s : Nat) : Int) ∧ σ (39 + 2 * s) 0 = (s : Int)
/-- the heat's numbers -/
def IHeat (σ ρ : SG) (S q : Nat) : Prop := (ρ 57 25 = σ 19 9 ∧ 0 ≤ σ 19 9 ∧ σ 19 9 ≤ 99) ∧ (ρ 57 26 = σ 19 10 ∧ 0 ≤ σ 19 10 ∧ σ 19 10 ≤ 99) ∧ (ρ 57 27 = σ 19 13 ∧ ρ 57 28 = σ 19 12 ∧ 0 ≤ σ 19 12 ∧ σ 19 12 ≤ (q : Int) ∧ (σ 19 13 = -1 ∨ (0 ≤ σ 19 13 ∧ σ 19 13 = σ 19 12 - 1))) ∧
  (ρ 57 29 = σ 19 11 ∧ ρ 57 31 = σ 19 7 ∧ ρ 57 32 = σ 19 8) ∧
  (ρ 57 35 = σ 19 14 ∧ (σ 19 14 = 0 ∨ (σ 19 14 = 1 ∧ σ 19 13 = -1))) ∧ (ρ 57 37 = σ 19 15 ∧ (σ 19 15 = 0 ∨ σ 19 15 = 1)) ∧
  (∀ w : Nat, w < q → σ 19 12 ≤ (w : Int) → σ 19 9 ≤ σ (S + 5) (5 * w))
/-- a row of numbers is a list -/
def IsL (f : Nat → Int) (L : List Int) : Prop := ∀ k : Nat, k < L.length → f k = L.getD k 0
/-- who is away: neither out nor on the wave -/
def awy (σ : SG) (s : Nat) : Bool := decide (σ (39 + 2 * s) 6 = 0 ∧ σ (39 + 2 * s) 7 = 0)
/-- the row, what was seen -/
def IRow (σ ρ : SG) (m : Nat) : Prop := ρ 57 34 = σ 35 1 ∧ ρ 57 36 = σ 35 2 ∧ (σ 35 2 = 0 ∨ σ 35 2 = 1) ∧ ∃ L : List Int, σ 35 1 = (L.length : Int) ∧ IsL (σ 36) L ∧ IsL (ρ 76) L ∧ (∀ x ∈ L, 0 ≤ x ∧ x < (m : Int)) ∧
  (σ 35 2 = 0 → L = [] ∧ ∀ s : Nat, s < m → σ (39 + 2 * s) 6 = 1 ∨ σ (39 + 2 * s) 7 = 1) ∧
  (σ 35 2 = 1 → (∀ s : Nat, s < m → σ (39 + 2 * s) 6 = 1 ∨ σ (39 + 2 * s) 7 = 1 → (s : Int) ∈ L) ∧ L.length + ((List.range m).filter (awy σ)).length ≤ m)
def ISeen (σ ρ : SG) : Prop := ρ 57 33 = σ 19 6 ∧ 0 ≤ σ 19 6 ∧ σ 19 6 ≤ 6 ∧ ∀ k : Nat, (k : Int) < σ 19 6 → ρ 77 k = σ 38 k ∧ 0 ≤ σ 38 k ∧ σ 38 k ≤ 100
/-- the best two of the scores -/
def bst (f : Nat → Int) : Nat → Int × Int
  | 0 => (0, 0)
  | k + 1 => if (bst f k).1 < f (7 * k) then (f (7 * k), (bst f k).1) else ((bst f k).1, max (bst f k).2 (f (7 * k)))
/-- one surfer -/
def ISw (σ ρ : SG) (S s : Nat) : Prop := (ρ 68 s = σ (39 + 2 * s) 3 ∧ 0 ≤ σ (39 + 2 * s) 3 ∧ σ (39 + 2 * s) 3 ≤ 40) ∧ (ρ 69 s = σ (39 + 2 * s) 4 ∧ 0 ≤ σ (39 + 2 * s) 4 ∧ σ (39 + 2 * s) 4 ≤ 40) ∧ (ρ 70 s = σ (39 + 2 * s) 8 ∧ -1 ≤ σ (39 + 2 * s) 8 ∧ σ (39 + 2 * s) 8 ≤ 200) ∧
  (ρ 71 s = σ (39 + 2 * s) 9 ∧ 0 ≤ σ (39 + 2 * s) 9 ∧ σ (39 + 2 * s) 9 ≤ σ (39 + 2 * s) 2) ∧ (ρ 72 s = σ (39 + 2 * s) 2 ∧ 0 ≤ σ (39 + 2 * s) 2 ∧ σ (39 + 2 * s) 2 ≤ σ 19 12 ∧ (σ 19 13 ≠ -1 → σ (39 + 2 * s) 2 < σ 19 12)) ∧
  (ρ 78 s = σ (39 + 2 * s) 6 ∧ (σ (39 + 2 * s) 6 = 0 ∨ σ (39 + 2 * s) 6 = 1) ∧ (σ (39 + 2 * s) 7 = 0 ∨ σ (39 + 2 * s) 7 = 1) ∧ σ (39 + 2 * s) 5 = σ (S + 4) s) ∧
  (σ (39 + 2 * s) 7 = 1 → σ (39 + 2 * s) 6 = 0 ∧ σ (39 + 2 * s) 8 = -1 ∧ σ 19 13 ≠ -1 ∧ ρ 73 s = σ (39 + 2 * s) 12 ∧ (σ (39 + 2 * s) 12 = 0 ∨ σ (39 + 2 * s) 12 = 1) ∧ ρ 74 s = σ (39 + 2 * s) 13 ∧ 1 ≤ σ (39 + 2 * s) 13 ∧ σ (39 + 2 * s) 13 ≤ 20 ∧ ρ 75 s = σ (39 + 2 * s) 14 ∧ 0 ≤ σ (39 + 2 * s) 14 ∧ σ (39 + 2 * s) 14 ≤ 9) ∧
  (σ (39 + 2 * s) 6 = 1 → σ (39 + 2 * s) 8 = -1 ∧ σ (39 + 2 * s) 9 < 2) ∧ (σ (39 + 2 * s) 8 ≠ -1 → σ (39 + 2 * s) 9 < 2)
def IRid (σ ρ : SG) (s : Nat) : Prop := (∀ i : Nat, (i : Int) < σ (39 + 2 * s) 2 → (∀ f : Nat, f < 7 → ρ 79 (7 * (20 * s + i) + f) = σ (40 + 2 * s) (7 * i + f)) ∧ 0 ≤ σ (40 + 2 * s) (7 * i) ∧ σ (40 + 2 * s) (7 * i) ≤ 100 ∧ 0 ≤ σ (40 + 2 * s) (7 * i + 1) ∧ σ (40 + 2 * s) (7 * i + 1) < σ 19 12 ∧ σ (40 + 2 * s) (7 * i + 1) ≠ σ 19 13 ∧ (σ (40 + 2 * s) (7 * i + 5) = 0 ∨ σ (40 + 2 * s) (7 * i + 5) = 1)) ∧
  σ (39 + 2 * s) 10 = (bst (σ (40 + 2 * s)) (σ (39 + 2 * s) 2).toNat).1 ∧ σ (39 + 2 * s) 11 = (bst (σ (40 + 2 * s)) (σ (39 + 2 * s) 2).toNat).2 ∧ 0 ≤ σ (39 + 2 * s) 11 ∧ σ (39 + 2 * s) 11 ≤ σ (39 + 2 * s) 10 ∧ σ (39 + 2 * s) 10 ≤ 100
/-- bits of the first m -/
def msk (f : Nat → Int) : Nat → Int
  | 0 => 0
  | k + 1 => msk f k + f k * 2 ^ k
/-- what took tells of a wave: goes through a surfer's rides, through all surfers -/
def tkR (f : Nat → Int) (w : Int) (s : Nat) (a : Int × Int × Int × Int) : Nat → Int × Int × Int × Int
  | 0 => a
  | k + 1 => if f (7 * k + 1) = w then (bOr (tkR f w s a k).1 (bShl 1 s), if (tkR f w s a k).2.1 < f (7 * k) then f (7 * k) else (tkR f w s a k).2.1, if (tkR f w s a k).2.1 < f (7 * k) then (s : Int) else (tkR f w s a k).2.2.1, (tkR f w s a k).2.2.2 + f (7 * k + 5)) else tkR f w s a k
def tkA (σ : SG) (w : Int) : Nat → Int × Int × Int × Int
  | 0 => (0, -1, -1, 0)
  | s + 1 => tkR (σ (40 + 2 * s)) w s (tkA σ w s) (σ (39 + 2 * s) 2).toNat
def IGone (σ : SG) (m : Nat) : Prop := ∀ w : Nat, (w : Int) < σ 19 12 → (w : Int) ≠ σ 19 13 → (σ 37 (4 * w), σ 37 (4 * w + 1), σ 37 (4 * w + 2), σ 37 (4 * w + 3)) = tkA σ w m
/-! ===== what later calls depend on ===== -/
def dep (k j : Nat) : Bool := match k with
  | 57 => !([0, 4, 5, 6, 7, 12, 13, 19, 20, 21, 23] : List Nat).contains j
  | 15 => !([2, 3, 4, 5] : List Nat).contains j
  | 7 => decide (j < 9)
  | 26 => decide (j < 9)
  | 17 | 18 | 13 | 14 | 32 | 33 | 50 | 51 | 52 | 53 | 54 | 55 | 56 | 59 | 61 | 63 | 65 | 66 | 67 | 80 | 81 | 82 | 83 | 84 => false
  | _ => true
/-- alike in what later calls depend on -/
def Ag (σ τ : SG) : Prop := ∀ k j, dep k j = true → τ k j = σ k j
theorem Ag.rf {σ : SG} : Ag σ σ := fun _ _ _ => rfl
theorem Ag.tr {σ τ υ : SG} (h : Ag σ τ) (h' : Ag τ υ) : Ag σ υ := fun k j d => (h' k j d).trans (h k j d)
theorem Ag.sy {σ τ : SG} (h : Ag σ τ) : Ag τ σ := fun k j d => (h k j d).symm
theorem Ag.up {σ τ : SG} {k j : Nat} {v : Int} (h : Ag σ τ) (hd : dep k j = false) : Ag σ (up τ k j v) := fun a b d => by
  rw [← h a b d]
  refine up_else τ v (fun q => ?_)
  rw [q.1, q.2, hd] at d
  cases d
theorem Ag.row {σ τ : SG} {k : Nat} (h : Ag σ τ) (hd : ∀ j, dep k j = true) : τ k = σ k := funext fun j => h k j (hd j)
theorem dep_sw {s : Nat} (h : s < 5) (j : Nat) : dep (39 + 2 * s) j = true := by
  have : s = 0 ∨ s = 1 ∨ s = 2 ∨ s = 3 ∨ s = 4 := by omega
  rcases this with rfl | rfl | rfl | rfl | rfl <;> rfl
theorem dep_rd {s : Nat} (h : s < 5) (j : Nat) : dep (40 + 2 * s) j = true := by
  have : s = 0 ∨ s = 1 ∨ s = 2 ∨ s = 3 ∨ s = 4 := by omega
  rcases this with rfl | rfl | rfl | rfl | rfl <;> rfl
theorem dep_S {S i : Nat} (h : S = 1 ∨ S = 20) (hi : i < 6) (j : Nat) : dep (S + i) j = true := by
  have : i = 0 ∨ i = 1 ∨ i = 2 ∨ i = 3 ∨ i = 4 ∨ i = 5 := by omega
  rcases h with rfl | rfl <;> rcases this with rfl | rfl | rfl | rfl | rfl | rfl <;> rfl
/-- everything but the tape and the judge's text -/
def Rl (σ ρ : SG) (S J m q : Nat) : Prop := IUse σ S J ∧ ISeaN σ ρ S m q ∧ (∀ s : Nat, s < m → ISeaS σ ρ S s) ∧ (∀ w : Nat, w < q → ISeaW σ ρ S w) ∧ IHeat σ ρ S q ∧ IRow σ ρ m ∧ ISeen σ ρ ∧ (∀ s : Nat, s < m → ISw σ ρ S s) ∧ (∀ s : Nat, s < m → IRid σ ρ s) ∧ ρ 57 30 = msk (fun s => σ (39 + 2 * s) 7) m ∧ IGone σ m
theorem Rl.use {σ ρ : SG} {S J m q : Nat} (R : Rl σ ρ S J m q) : IUse σ S J := R.1
theorem Rl.num {σ ρ : SG} {S J m q : Nat} (R : Rl σ ρ S J m q) : ISeaN σ ρ S m q := R.2.1
theorem Rl.seaS {σ ρ : SG} {S J m q s : Nat} (R : Rl σ ρ S J m q) (h : s < m) : ISeaS σ ρ S s := R.2.2.1 s h
theorem Rl.seaW {σ ρ : SG} {S J m q w : Nat} (R : Rl σ ρ S J m q) (h : w < q) : ISeaW σ ρ S w := R.2.2.2.1 w h
theorem Rl.heat {σ ρ : SG} {S J m q : Nat} (R : Rl σ ρ S J m q) : IHeat σ ρ S q := R.2.2.2.2.1
theorem Rl.row {σ ρ : SG} {S J m q : Nat} (R : Rl σ ρ S J m q) : IRow σ ρ m := R.2.2.2.2.2.1
theorem Rl.seen {σ ρ : SG} {S J m q : Nat} (R : Rl σ ρ S J m q) : ISeen σ ρ := R.2.2.2.2.2.2.1
theorem Rl.sw {σ ρ : SG} {S J m q s : Nat} (R : Rl σ ρ S J m q) (h : s < m) : ISw σ ρ S s := R.2.2.2.2.2.2.2.1 s h
theorem Rl.rid {σ ρ : SG} {S J m q s : Nat} (R : Rl σ ρ S J m q) (h : s < m) : IRid σ ρ s := R.2.2.2.2.2.2.2.2.1 s h
theorem Rl.bits {σ ρ : SG} {S J m q : Nat} (R : Rl σ ρ S J m q) : ρ 57 30 = msk (fun s => σ (39 + 2 * s) 7) m := R.2.2.2.2.2.2.2.2.2.1
theorem Rl.gone {σ ρ : SG} {S J m q : Nat} (R : Rl σ ρ S J m q) : IGone σ m := R.2.2.2.2.2.2.2.2.2.2
theorem msk_cg {f g : Nat → Int} : ∀ {m : Nat}, (∀ s, s < m → f s = g s) → msk f m = msk g m
  | 0, _ => rfl
  | m + 1, h => by
    unfold msk
    rw [msk_cg (fun s hs => h s (by omega)), h m (by omega)]
theorem tkA_cg {σ τ : SG} {w : Int} : ∀ {m : Nat}, (∀ s, s < m → σ (40 + 2 * s) = τ (40 + 2 * s) ∧ σ (39 + 2 * s) 2 = τ (39 + 2 * s) 2) → tkA σ w m = tkA τ w m
  | 0, _ => rfl
  | m + 1, h => by
    unfold tkA
    rw [tkA_cg (fun s hs => h s (by omega)), (h m (by omega)).1, (h m (by omega)).2]
theorem ITape.ag {σ ρ σ' ρ' : SG} (h : ITape σ ρ) (a : Ag σ σ') (b : Ag ρ ρ') : ITape σ' ρ' := by
  unfold ITape at *
  rw [a 15 1 rfl, b 57 2 rfl, b 57 8 rfl, a 0 5 rfl, a.row (k := 16) (fun _ => rfl), b.row (k := 58) (fun _ => rfl)]
  exact h
theorem IUse.cg {σ τ : SG} {S J : Nat} (h : IUse σ S J) (e0 : τ 0 0 = σ 0 0) (e1 : τ 0 1 = σ 0 1) (e2 : τ 19 0 = σ 19 0) (e3 : τ 19 1 = σ 19 1) (e4 : τ 34 = σ 34) (e5 : ∀ s, s < 5 → τ (39 + 2 * s) 0 = σ (39 + 2 * s) 0) : IUse τ S J := by
  unfold IUse at *
  rw [e0, e1, e2, e3, e4]
  refine ⟨h.1, h.2.1, h.2.2.1, h.2.2.2.1, h.2.2.2.2.1, h.2.2.2.2.2.1, fun s hs => ?_⟩
  rw [e5 s hs]
  exact h.2.2.2.2.2.2 s hs
theorem ISeaN.cg {σ ρ σ' ρ' : SG} {S m q : Nat} (h : ISeaN σ ρ S m q) (e0 : σ' S = σ S) (e1 : ρ' 60 = ρ 60) (e2 : ρ' 57 11 = ρ 57 11) : ISeaN σ' ρ' S m q := by
  unfold ISeaN at *
  rw [e0, e1, e2]
  exact h
theorem ISeaS.cg {σ ρ σ' ρ' : SG} {S s : Nat} (h : ISeaS σ ρ S s) (e : ∀ i, 0 < i → i < 6 → σ' (S + i) = σ (S + i)) (e1 : ρ' 60 = ρ 60) : ISeaS σ' ρ' S s := by
  unfold ISeaS at *
  rw [e 1 (by decide) (by decide), e 2 (by decide) (by decide), e 3 (by decide) (by decide), e 4 (by decide) (by decide), e1]
  exact h
theorem ISeaW.cg {σ ρ σ' ρ' : SG} {S w : Nat} (h : ISeaW σ ρ S w) (e : ∀ i, 0 < i → i < 6 → σ' (S + i) = σ (S + i)) (e1 : ρ' 60 = ρ 60) : ISeaW σ' ρ' S w := by
  unfold ISeaW at *
  rw [e 5 (by decide) (by decide), e1]
  exact h
theorem IHeat.cg {σ ρ σ' ρ' : SG} {S q : Nat} (h : IHeat σ ρ S q) (e0 : σ' (S + 5) = σ (S + 5)) (e1 : ∀ j, 7 ≤ j → σ' 19 j = σ 19 j) (e2 : ∀ j, 25 ≤ j → j < 38 → j ≠ 30 → j ≠ 33 → j ≠ 34 → j ≠ 36 → ρ' 57 j = ρ 57 j) : IHeat σ' ρ' S q := by
  unfold IHeat at *
  rw [e0, e1 7 (by decide), e1 8 (by decide), e1 9 (by decide), e1 10 (by decide), e1 11 (by decide), e1 12 (by decide), e1 13 (by decide), e1 14 (by decide), e1 15 (by decide), e2 25 (by decide) (by decide) (by decide) (by decide) (by decide) (by decide), e2 26 (by decide) (by decide) (by decide) (by decide) (by decide) (by decide), e2 27 (by decide) (by decide) (by decide) (by decide) (by decide) (by decide), e2 28 (by decide) (by decide) (by decide) (by decide) (by decide) (by decide), e2 29 (by decide) (by decide) (by decide) (by decide) (by decide) (by decide), e2 31 (by decide) (by decide) (by decide) (by decide) (by decide) (by decide), e2 32 (by decide) (by decide) (by decide) (by decide) (by decide) (by decide), e2 35 (by decide) (by decide) (by decide) (by decide) (by decide) (by decide), e2 37 (by decide) (by decide) (by decide) (by decide) (by decide) (by decide)]
  exact h
theorem IRow.cg {σ ρ σ' ρ' : SG} {m : Nat} (h : IRow σ ρ m) (e0 : σ' 35 = σ 35) (e1 : σ' 36 = σ 36) (e2 : ρ' 76 = ρ 76) (e3 : ρ' 57 34 = ρ 57 34) (e4 : ρ' 57 36 = ρ 57 36) (e5 : ∀ s, s < m → ((σ' (39 + 2 * s) 6 = 1 ∨ σ' (39 + 2 * s) 7 = 1) ↔ (σ (39 + 2 * s) 6 = 1 ∨ σ (39 + 2 * s) 7 = 1)) ∧ awy σ' s = awy σ s) : IRow σ' ρ' m := by
  unfold IRow at *
  rw [e0, e1, e2, e3, e4]
  obtain ⟨h1, h2, h3, L, h4, h5, h6, h7, h8, h9⟩ := h
  refine ⟨h1, h2, h3, L, h4, h5, h6, h7, fun q => ⟨(h8 q).1, fun s hs => ?_⟩, fun q => ⟨fun s hs hq => ?_, ?_⟩⟩
  · exact (e5 s hs).1.mpr ((h8 q).2 s hs)
  · exact (h9 q).1 s hs ((e5 s hs).1.mp hq)
  · rw [List.filter_congr (q := awy σ) (fun s hs => (e5 s (List.mem_range.mp hs)).2)]
    exact (h9 q).2
theorem ISeen.cg {σ ρ σ' ρ' : SG} (h : ISeen σ ρ) (e0 : σ' 19 6 = σ 19 6) (e1 : σ' 38 = σ 38) (e2 : ρ' 57 33 = ρ 57 33) (e3 : ρ' 77 = ρ 77) : ISeen σ' ρ' := by
  unfold ISeen at *
  rw [e0, e1, e2, e3]
  exact h
theorem ISw.cg {σ ρ σ' ρ' : SG} {S s : Nat} (h : ISw σ ρ S s) (e0 : σ' (39 + 2 * s) = σ (39 + 2 * s)) (e1 : σ' 19 12 = σ 19 12) (e2 : σ' 19 13 = σ 19 13) (e3 : σ' (S + 4) = σ (S + 4)) (e4 : ∀ k, 68 ≤ k → k < 79 → k ≠ 76 → k ≠ 77 → ρ' k s = ρ k s) : ISw σ' ρ' S s := by
  unfold ISw at *
  rw [e0, e1, e2, e3, e4 68 (by decide) (by decide) (by decide) (by decide), e4 69 (by decide) (by decide) (by decide) (by decide), e4 70 (by decide) (by decide) (by decide) (by decide), e4 71 (by decide) (by decide) (by decide) (by decide), e4 72 (by decide) (by decide) (by decide) (by decide), e4 73 (by decide) (by decide) (by decide) (by decide), e4 74 (by decide) (by decide) (by decide) (by decide), e4 75 (by decide) (by decide) (by decide) (by decide), e4 78 (by decide) (by decide) (by decide) (by decide)]
  exact h
theorem IRid.cg {σ ρ σ' ρ' : SG} {s : Nat} (h : IRid σ ρ s) (e0 : σ' (39 + 2 * s) 2 = σ (39 + 2 * s) 2) (e1 : σ' (39 + 2 * s) 10 = σ (39 + 2 * s) 10) (e2 : σ' (39 + 2 * s) 11 = σ (39 + 2 * s) 11) (e3 : σ' (40 + 2 * s) = σ (40 + 2 * s)) (e4 : σ' 19 12 = σ 19 12) (e5 : σ' 19 13 = σ 19 13) (e6 : ρ' 79 = ρ 79) : IRid σ' ρ' s := by
  unfold IRid at *
  rw [e0, e1, e2, e3, e4, e5, e6]
  exact h
theorem IGone.cg {σ σ' : SG} {m : Nat} (h : IGone σ m) (e0 : σ' 19 12 = σ 19 12) (e1 : σ' 19 13 = σ 19 13) (e2 : σ' 37 = σ 37) (e3 : ∀ s, s < m → σ' (40 + 2 * s) = σ (40 + 2 * s) ∧ σ' (39 + 2 * s) 2 = σ (39 + 2 * s) 2) : IGone σ' m := by
  unfold IGone at *
  rw [e0, e1, e2]
  intro w h1 h2
  rw [h w h1 h2]
  exact tkA_cg (fun s hs => ⟨(e3 s hs).1.symm, (e3 s hs).2.symm⟩)
/-- alike in the tape, the fault and the judge's text -/
def depT (k j : Nat) : Bool := match k with
  | 0 => decide (j = 1 ∨ j = 5)
  | 15 => decide (j = 1)
  | 57 => ([2, 8, 18] : List Nat).contains j
  | 7 | 26 => decide (j < 9)
  | 16 | 58 | 8 | 9 | 10 | 11 | 12 | 27 | 28 | 29 | 30 | 31 | 62 | 64 => true
  | _ => false
def AgT (σ τ : SG) : Prop := ∀ k j, depT k j = true → τ k j = σ k j
theorem AgT.rf {σ : SG} : AgT σ σ := fun _ _ _ => rfl
theorem AgT.tr {σ τ υ : SG} (h : AgT σ τ) (h' : AgT τ υ) : AgT σ υ := fun k j d => (h' k j d).trans (h k j d)
theorem AgT.up {σ τ : SG} {k j : Nat} {v : Int} (h : AgT σ τ) (hd : depT k j = false) : AgT σ (up τ k j v) := fun a b d => by
  rw [← h a b d]
  refine up_else τ v (fun q => ?_)
  rw [q.1, q.2, hd] at d
  cases d
theorem depT_dep : ∀ {k j : Nat}, depT k j = true → dep k j = true
  | k, j, h => by
    unfold depT at h
    split at h
    · rfl
    · have := of_decide_eq_true h; subst this; rfl
    · have h2 := List.contains_iff_mem.mp h
      have h3 : j = 2 ∨ j = 8 ∨ j = 18 := by simpa using h2
      rcases h3 with rfl | rfl | rfl <;> rfl
    · exact h
    · exact h
    all_goals first | rfl | cases h
theorem Ag.T {σ τ : SG} (h : Ag σ τ) : AgT σ τ := fun k j d => h k j (depT_dep d)
theorem AgT.row {σ τ : SG} {k : Nat} (h : AgT σ τ) (hd : ∀ j, depT k j = true) : τ k = σ k := funext fun j => h k j (hd j)
/-- alike in all that the relation depends on but the tape and the fault -/
def depH (k j : Nat) : Bool := dep k j && !(k == 15 || k == 16 || k == 58 || (k == 57 && (j == 2 || j == 8)) || (k == 0 && j == 5))
def AgH (σ τ : SG) : Prop := ∀ k j, depH k j = true → τ k j = σ k j
theorem Ag.H {σ τ : SG} (h : Ag σ τ) : AgH σ τ := fun k j d => h k j (by
  unfold depH at d
  exact (Bool.and_eq_true_iff.mp d).1)
theorem AgH.rf {σ : SG} : AgH σ σ := fun _ _ _ => rfl
theorem AgH.tr {σ τ υ : SG} (h : AgH σ τ) (h' : AgH τ υ) : AgH σ υ := fun k j d => (h' k j d).trans (h k j d)
theorem AgH.up {σ τ : SG} {k j : Nat} {v : Int} (h : AgH σ τ) (hd : depH k j = false) : AgH σ (up τ k j v) := fun a b d => by
  rw [← h a b d]
  refine up_else τ v (fun q => ?_)
  rw [q.1, q.2, hd] at d
  cases d
theorem AgH.row {σ τ : SG} {k : Nat} (h : AgH σ τ) (hd : ∀ j, depH k j = true) : τ k = σ k := funext fun j => h k j (hd j)
theorem depH_sw {s : Nat} (h : s < 5) (j : Nat) : depH (39 + 2 * s) j = true := by
  have : s = 0 ∨ s = 1 ∨ s = 2 ∨ s = 3 ∨ s = 4 := by omega
  rcases this with rfl | rfl | rfl | rfl | rfl <;> rfl
theorem depH_rd {s : Nat} (h : s < 5) (j : Nat) : depH (40 + 2 * s) j = true := by
  have : s = 0 ∨ s = 1 ∨ s = 2 ∨ s = 3 ∨ s = 4 := by omega
  rcases this with rfl | rfl | rfl | rfl | rfl <;> rfl
theorem depH_S {S i : Nat} (h : S = 1 ∨ S = 20) (hi : i < 6) (j : Nat) : depH (S + i) j = true := by
  have : i = 0 ∨ i = 1 ∨ i = 2 ∨ i = 3 ∨ i = 4 ∨ i = 5 := by omega
  rcases h with rfl | rfl <;> rcases this with rfl | rfl | rfl | rfl | rfl | rfl <;> rfl
/-- alike in the judge's text -/
def depJ (k j : Nat) : Bool := match k with
  | 57 => decide (j = 18)
  | 7 | 26 => decide (j < 9)
  | 8 | 9 | 10 | 11 | 12 | 27 | 28 | 29 | 30 | 31 | 62 | 64 => true
  | _ => false
def AgJ (σ τ : SG) : Prop := ∀ k j, depJ k j = true → τ k j = σ k j
theorem AgJ.rf {σ : SG} : AgJ σ σ := fun _ _ _ => rfl
theorem AgJ.tr {σ τ υ : SG} (h : AgJ σ τ) (h' : AgJ τ υ) : AgJ σ υ := fun k j d => (h' k j d).trans (h k j d)
theorem AgJ.up {σ τ : SG} {k j : Nat} {v : Int} (h : AgJ σ τ) (hd : depJ k j = false) : AgJ σ (up τ k j v) := fun a b d => by
  rw [← h a b d]
  refine up_else τ v (fun q => ?_)
  rw [q.1, q.2, hd] at d
  cases d
theorem depJ_T {k j : Nat} (h : depJ k j = true) : depT k j = true := by
  unfold depJ at h
  split at h
  · have := of_decide_eq_true h; subst this; rfl
  · exact h
  · exact h
  all_goals first | rfl | cases h
theorem AgT.J {σ τ : SG} (h : AgT σ τ) : AgJ σ τ := fun k j d => h k j (depJ_T d)
theorem Ag.J {σ τ : SG} (h : Ag σ τ) : AgJ σ τ := h.T.J
theorem Rl.agH {σ ρ σ' ρ' : SG} {S J m q : Nat} (R : Rl σ ρ S J m q) (a : AgH σ σ') (b : AgH ρ ρ') : Rl σ' ρ' S J m q := by
  have hS := R.use.1
  have hm := R.num.2.1
  have r19 : σ' 19 = σ 19 := a.row (fun _ => rfl)
  have r60 : ρ' 60 = ρ 60 := b.row (fun _ => rfl)
  have rS : ∀ i, i < 6 → σ' (S + i) = σ (S + i) := fun i hi => a.row (depH_S hS hi)
  have rw1 : ∀ s, s < 5 → σ' (39 + 2 * s) = σ (39 + 2 * s) := fun s hs => a.row (depH_sw hs)
  have rw2 : ∀ s, s < 5 → σ' (40 + 2 * s) = σ (40 + 2 * s) := fun s hs => a.row (depH_rd hs)
  refine ⟨R.use.cg (a 0 0 rfl) (a 0 1 rfl) (a 19 0 rfl) (a 19 1 rfl) (a.row (fun _ => rfl)) (fun s hs => by rw [rw1 s hs]), R.num.cg (rS 0 (by decide)) r60 (b 57 11 rfl), fun s hs => (R.seaS hs).cg (fun i _ hi => rS i hi) r60, fun w hw => (R.seaW hw).cg (fun i _ hi => rS i hi) r60,
    R.heat.cg (rS 5 (by decide)) (fun j _ => by rw [r19]) (fun j h1 h2 _ _ _ _ => ?_), R.row.cg (a.row (fun _ => rfl)) (a.row (fun _ => rfl)) (b.row (fun _ => rfl)) (b 57 34 rfl) (b 57 36 rfl) (fun s hs => ?_), R.seen.cg (a 19 6 rfl) (a.row (fun _ => rfl)) (b 57 33 rfl) (b.row (fun _ => rfl)),
    fun s hs => (R.sw hs).cg (rw1 s (by omega)) (a 19 12 rfl) (a 19 13 rfl) (rS 4 (by decide)) (fun k h1 h2 _ _ => ?_), fun s hs => (R.rid hs).cg (by rw [rw1 s (by omega)]) (by rw [rw1 s (by omega)]) (by rw [rw1 s (by omega)]) (rw2 s (by omega)) (a 19 12 rfl) (a 19 13 rfl) (b.row (fun _ => rfl)), ?_,
    R.gone.cg (a 19 12 rfl) (a 19 13 rfl) (a.row (fun _ => rfl)) (fun s hs => ⟨rw2 s (by omega), by rw [rw1 s (by omega)]⟩)⟩
  · have : j = 25 ∨ j = 26 ∨ j = 27 ∨ j = 28 ∨ j = 29 ∨ j = 30 ∨ j = 31 ∨ j = 32 ∨ j = 33 ∨ j = 34 ∨ j = 35 ∨ j = 36 ∨ j = 37 := by omega
    rcases this with rfl | rfl | rfl | rfl | rfl | rfl | rfl | rfl | rfl | rfl | rfl | rfl | rfl <;> exact b 57 _ rfl
  · unfold awy
    rw [rw1 s (by omega)]
    exact ⟨Iff.rfl, rfl⟩
  · have : k = 68 ∨ k = 69 ∨ k = 70 ∨ k = 71 ∨ k = 72 ∨ k = 73 ∨ k = 74 ∨ k = 75 ∨ k = 76 ∨ k = 77 ∨ k = 78 := by omega
    rcases this with rfl | rfl | rfl | rfl | rfl | rfl | rfl | rfl | rfl | rfl | rfl <;> exact b _ s rfl
  · rw [b 57 30 rfl, R.bits]
    exact msk_cg (fun s hs => by rw [rw1 s (by omega)])
theorem Rl.ag {σ ρ σ' ρ' : SG} {S J m q : Nat} (R : Rl σ ρ S J m q) (a : Ag σ σ') (b : Ag ρ ρ') : Rl σ' ρ' S J m q := R.agH a.H b.H
theorem ITape.agT {σ ρ σ' ρ' : SG} (h : ITape σ ρ) (a : AgT σ σ') (b : AgT ρ ρ') : ITape σ' ρ' := by
  unfold ITape at *
  rw [a 15 1 rfl, b 57 2 rfl, b 57 8 rfl, a 0 5 rfl, a.row (k := 16) (fun _ => rfl), b.row (k := 58) (fun _ => rfl)]
  exact h
