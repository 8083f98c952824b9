/-! ===== the pure side: what a printed function comes to ===== -/
/-- it comes to an end, with Q -/
def wp {β : Type} (m : Option β) (Q : β → Prop) : Prop := ∃ b, m = some b ∧ Q b
theorem wp_some {β : Type} {b : β} {Q : β → Prop} (h : Q b) : wp (some b) Q := ⟨b, rfl, h⟩
theorem wp_bind {α β : Type} {m : Option α} {f : α → Option β} {Q : β → Prop} (h : wp m (fun a => wp (f a) Q)) : wp (m.bind f) Q := by
  obtain ⟨a, e, b, e2, hq⟩ := h
  exact ⟨b, by rw [e]; exact e2, hq⟩
theorem wp_bnd2 {β : Type} {m : Option (Int × SG)} {f : Int → SG → Option β} {Q : β → Prop} (h : wp m (fun a => wp (f a.1 a.2) Q)) : wp (bnd2 m f) Q := wp_bind h
theorem wp_lt {α β : Type} {x : α} {f : α → Option β} {Q : β → Prop} (h : wp (f x) Q) : wp (lt x f) Q := h
theorem wp_rd {β : Type} {n i : Int} {f : Nat → Option β} {Q : β → Prop} (h : 0 ≤ w32 i ∧ w32 i < n) (k : wp (f (w32 i).toNat) Q) : wp (rdA n i f) Q := by
  rw [rdA_in h]; exact k
theorem wp_rdn {β : Type} {n : Int} {j : Nat} {f : Nat → Option β} {Q : β → Prop} (h : (j : Int) < n) (hb : j < 2147483648) (k : wp (f j) Q) : wp (rdA n (j : Int) f) Q := by
  have e : w32 (j : Int) = (j : Int) := w32_id (by omega) (by omega)
  refine wp_rd (by rw [e]; omega) ?_
  rw [e, Int.toNat_natCast]
  exact k
theorem wp_ck {β : Type} {p : Nat → Bool} {x : Int} {k : Nat} {f : Nat → Option β} {Q : β → Prop} (hx : x = (k : Int)) (hp : p k = true) (h : wp (f k) Q) : wp (ckR p x f) Q := by
  subst hx
  have e : ckR p (k : Int) f = f k := by
    unfold ckR
    rw [Int.toNat_natCast, if_pos ⟨by omega, hp⟩]
  rw [e]; exact h
theorem wp_if {β : Type} {c : Prop} {i : Decidable c} {a b : Option β} {Q : β → Prop} (h1 : c → wp a Q) (h2 : ¬ c → wp b Q) : wp (@ite _ c i a b) Q := by
  by_cases q : c
  · rw [if_pos q]; exact h1 q
  · rw [if_neg q]; exact h2 q
theorem wp_mono {β : Type} {m : Option β} {Q Q' : β → Prop} (h : wp m Q) (hq : ∀ b, Q b → Q' b) : wp m Q' := by
  obtain ⟨b, e, h⟩ := h
  exact ⟨b, e, hq b h⟩
theorem wp_and {β : Type} {m : Option β} {Q Q' : β → Prop} (h : wp m Q) (h' : wp m Q') : wp m (fun b => Q b ∧ Q' b) := by
  obtain ⟨b, e, h⟩ := h
  obtain ⟨b', e', h'⟩ := h'
  rw [e] at e'
  cases e'
  exact ⟨b, e, h, h'⟩
theorem wp_iter {A B : Type} {f : A → Option (A ⊕ B)} {Q : B → Prop} (Inv : A → Prop) (μ : A → Nat) (h : ∀ a, Inv a → wp (f a) (fun y => (∀ a', y = .inl a' → Inv a' ∧ μ a' < μ a) ∧ (∀ b, y = .inr b → Q b))) : ∀ (n : Nat) (a : A), Inv a → μ a < n → wp (iter n f a) Q
  | 0, a, _, hm => absurd hm (Nat.not_lt_zero _)
  | n + 1, a, hi, hm => by
    obtain ⟨y, e, h1, h2⟩ := h a hi
    unfold iter
    rw [e]
    cases y with
    | inl a' =>
      obtain ⟨g1, g2⟩ := h1 a' rfl
      exact wp_iter Inv μ h n a' g1 (by omega)
    | inr b => exact ⟨b, rfl, h2 b rfl⟩
theorem wp_inl {A B : Type} {a : A} {P : A → Prop} {Q : B → Prop} (h : P a) : wp (some (Sum.inl a) : Option (A ⊕ B)) (fun y => (∀ a', y = .inl a' → P a') ∧ (∀ b, y = .inr b → Q b)) := ⟨_, rfl, fun a' e => by cases e; exact h, fun b e => by cases e⟩
theorem wp_inr {A B : Type} {b : B} {P : A → Prop} {Q : B → Prop} (h : Q b) : wp (some (Sum.inr b) : Option (A ⊕ B)) (fun y => (∀ a', y = .inl a' → P a') ∧ (∀ b, y = .inr b → Q b)) := ⟨_, rfl, fun a' e => (by cases e), fun b' e => by cases e; exact h⟩
/-- cells that aren't in L stay -/
def Fr (L : List Nat) (σ τ : SG) : Prop := ∀ k, k ∉ L → τ k = σ k
theorem Fr.rf {L : List Nat} {σ : SG} : Fr L σ σ := fun _ _ => rfl
theorem Fr.tr {L : List Nat} {σ τ υ : SG} (h : Fr L σ τ) (h' : Fr L τ υ) : Fr L σ υ := fun k hk => (h' k hk).trans (h k hk)
theorem Fr.up {L : List Nat} {σ τ : SG} {k j : Nat} {v : Int} (h : Fr L σ τ) (hk : k ∈ L) : Fr L σ (up τ k j v) := fun a ha => by
  rw [← h a ha]
  funext b
  exact up_else τ v (fun q => ha (q.1 ▸ hk))
theorem Fr.sub {L L' : List Nat} {σ τ : SG} (h : Fr L σ τ) (hs : ∀ k ∈ L, k ∈ L') : Fr L' σ τ := fun k hk => h k (fun q => hk (hs k q))
theorem Fr.at {L : List Nat} {σ τ : SG} (h : Fr L σ τ) {k j : Nat} (hk : k ∉ L) : τ k j = σ k j := by rw [h k hk]
/-- reading behind a write, at written places -/
theorem up_k (σ : SG) {k j a b : Nat} (v : Int) (h : a ≠ k) : up σ k j v a b = σ a b := up_else σ v (fun q => h q.1)
theorem up_j (σ : SG) {k j a b : Nat} (v : Int) (h : b ≠ j) : up σ k j v a b = σ a b := up_else σ v (fun q => h q.2)
theorem up_row (σ : SG) {k j a : Nat} (v : Int) (h : a ≠ k) : up σ k j v a = σ a := funext fun b => up_k σ v h
theorem w32_nat {n : Nat} (h : n < 2147483648) : w32 (n : Int) = (n : Int) := w32_id (by omega) (by omega)
