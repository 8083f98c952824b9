/-! ===== ROWS FOR THE PRINTED FUNCTIONS: a printed term that comes to an end, and the machine beside it ===== -/
def iter {A B : Type} : Nat → (A → Option (A ⊕ B)) → A → Option B
  | 0, _, _ => none
  | n + 1, f, a => (f a).bind fun y => match y with
    | .inl a' => iter n f a'
    | .inr b => some b
theorem aw_iter {A B : Type} {f : A → Option (A ⊕ B)} {b : B} (P : A → Prop) (hs : ∀ (a : A) (y : A ⊕ B), f a = some y → (∀ a', y = .inl a' → P a') → (∀ b', y = .inr b' → b' = b) → P a) :
    ∀ (n : Nat) (a : A), iter n f a = some b → P a
  | 0, a, h => by cases h
  | n + 1, a, h => by
    obtain ⟨y, hy, h⟩ := ob_some h
    refine hs a y hy (fun a' e => ?_) (fun b' e => ?_)
    · subst e
      exact aw_iter P hs n a' h
    · subst e
      exact Option.some.inj h
/-- out of a part of the way: on, or out of more -/
def orr {A B : Type} (f : A → Option B) : A ⊕ B → Option B
  | .inl a => f a
  | .inr b => some b
def dOK (b : ByteArray) (l : List (Nat × Instr × Nat)) : Bool := l.all fun q => decide (decode b q.1 = .ok (q.2.1, q.2.2))
theorem dat {b : ByteArray} {l : List (Nat × Instr × Nat)} {pc len : Nat} {ins : Instr} (h : dOK b l = true) (i : Nat) (hi : l[i]? = some (pc, ins, len)) : decode b pc = .ok (ins, len) := by
  have h2 : decide (decode b (pc, ins, len).1 = .ok ((pc, ins, len).2.1, (pc, ins, len).2.2)) = true := List.all_eq_true.mp h (pc, ins, len) (List.mem_of_getElem? hi)
  exact of_decide_eq_true h2
/-- what a caller asks of a callee -/
def CFV (M' : MT) (n : Nat) : Prop := Cond.instanceMethod M'.1 ∈ WT ∧ Cond.selects M'.1.cls M'.1 M'.1 ∈ WT ∧ Cond.initialized M'.1.cls ∈ WT ∧ aCode M' ∈ WT ∧ M'.2.2.2.2 = [] ∧ fitM M' n ∧ M'.2.2.1 ≤ 45
def CFS (M' : MT) (n : Nat) : Prop := Cond.static M'.1 ∈ WT ∧ Cond.initialized M'.1.cls ∈ WT ∧ aCode M' ∈ WT ∧ M'.2.2.2.2 = [] ∧ fitM M' n ∧ M'.2.2.1 ≤ 45
section AWg
variable {Γ : GA} {M M' : MT} {d d' mc' ms' : Nat} {o0 o1 : Nat × Int} {S0 S1 S : AS} {uc us uc' us' pc n idx t : Nat} {ls ls' : List (Option AV)} {st st' as : List AV} {nc : Nat} {σ : SG} {off x y x2 y2 : Int}
theorem AW.ltI {β : Type} {f : Int → Option β} {r : β} (h : lt x f = some r) (k : ∀ y : Int, f y = some r → AW Γ M d o0 S0 uc us pc ls (vI y :: st) S) : AW Γ M d o0 S0 uc us pc ls (vI x :: st) S := k x h
theorem AW.ltL {β : Type} {f : Int → Option β} {r : β} (h : lt x f = some r) (k : ∀ y : Int, f y = some r → AW Γ M d o0 S0 uc us pc ls (vL y :: st) S) : AW Γ M d o0 S0 uc us pc ls (vL x :: st) S := k x h
theorem AW.ltS {β : Type} {f : SG → Option β} {r : β} (h : lt σ f = some r) (k : ∀ τ : SG, f τ = some r → AW Γ M d o0 S0 uc us pc ls st (nc, τ)) : AW Γ M d o0 S0 uc us pc ls st (nc, σ) := k σ h
theorem AW.iincH {β : Type} {f : Int → Option β} {r : β} {i : Nat} (h : lt (x + y) f = some r) (hd : decode M.2.1 pc = .ok (.iinc i y, 3)) (hn : pc + 3 = n) (hl : ls[i]? = some (some (vI x))) (hj : i < M.2.2.1) (hk : lok ls i = true) (k : ∀ z : Int, f z = some r → AW Γ M d o0 S0 uc us n (ls.set i (some (vI z))) st S) : AW Γ M d o0 S0 uc us pc ls st S :=
  AW.iinc hd hn hl hj hk rfl (k (x + y) h)
theorem AW.lq (hs : ls = ls') (k : AW Γ M d o0 S0 uc us pc ls' st S) : AW Γ M d o0 S0 uc us pc ls st S := by rw [hs]; exact k
theorem ite_t {β : Type} {c : Prop} {i : Decidable c} {A B : Option β} {r : β} (h : @ite _ c i A B = some r) (q : c) : A = some r := by rw [if_pos q] at h; exact h
theorem ite_f {β : Type} {c : Prop} {i : Decidable c} {A B : Option β} {r : β} (h : @ite _ c i A B = some r) (q : ¬ c) : B = some r := by rw [if_neg q] at h; exact h
theorem ite_n {β : Type} {c : Prop} {i : Decidable c} {B : Option β} {r : β} (h : @ite _ c i none B = some r) : ¬ c ∧ B = some r := by
  by_cases q : c
  · rw [if_pos q] at h; cases h
  · rw [if_neg q] at h; exact ⟨q, h⟩
section
variable {β : Type} {A B : Option β} {r : β}
theorem AW.if_eqH {i : Decidable (w32 x = 0)} (h : @ite _ (w32 x = 0) i A B = some r) (hd : decode M.2.1 pc = .ok (.ifCond .eq off, 3)) (hn : pc + 3 = n) (ht : (pc : Int) + off = (t : Int)) (kt : A = some r → AW Γ M d o0 S0 uc us t ls st S) (kf : B = some r → AW Γ M d o0 S0 uc us n ls st S) : AW Γ M d o0 S0 uc us pc ls (vI x :: st) S :=
  AW.if_eq hd hn ht (fun q => kt (ite_t h q)) (fun q => kf (ite_f h q))
theorem AW.if_neH {i : Decidable (w32 x = 0)} (h : @ite _ (w32 x = 0) i A B = some r) (hd : decode M.2.1 pc = .ok (.ifCond .ne off, 3)) (hn : pc + 3 = n) (ht : (pc : Int) + off = (t : Int)) (kf : A = some r → AW Γ M d o0 S0 uc us n ls st S) (kt : B = some r → AW Γ M d o0 S0 uc us t ls st S) : AW Γ M d o0 S0 uc us pc ls (vI x :: st) S :=
  AW.if_ne hd hn ht (fun q => kf (ite_t h q)) (fun q => kt (ite_f h q))
theorem AW.if_ltH {i : Decidable (w32 x < 0)} (h : @ite _ (w32 x < 0) i A B = some r) (hd : decode M.2.1 pc = .ok (.ifCond .lt off, 3)) (hn : pc + 3 = n) (ht : (pc : Int) + off = (t : Int)) (kt : A = some r → AW Γ M d o0 S0 uc us t ls st S) (kf : B = some r → AW Γ M d o0 S0 uc us n ls st S) : AW Γ M d o0 S0 uc us pc ls (vI x :: st) S :=
  AW.if_lt hd hn ht (fun q => kt (ite_t h q)) (fun q => kf (ite_f h q))
theorem AW.if_geH {i : Decidable (0 ≤ w32 x)} (h : @ite _ (0 ≤ w32 x) i A B = some r) (hd : decode M.2.1 pc = .ok (.ifCond .ge off, 3)) (hn : pc + 3 = n) (ht : (pc : Int) + off = (t : Int)) (kt : A = some r → AW Γ M d o0 S0 uc us t ls st S) (kf : B = some r → AW Γ M d o0 S0 uc us n ls st S) : AW Γ M d o0 S0 uc us pc ls (vI x :: st) S :=
  AW.if_ge hd hn ht (fun q => kt (ite_t h q)) (fun q => kf (ite_f h q))
theorem AW.if_gtH {i : Decidable (0 < w32 x)} (h : @ite _ (0 < w32 x) i A B = some r) (hd : decode M.2.1 pc = .ok (.ifCond .gt off, 3)) (hn : pc + 3 = n) (ht : (pc : Int) + off = (t : Int)) (kt : A = some r → AW Γ M d o0 S0 uc us t ls st S) (kf : B = some r → AW Γ M d o0 S0 uc us n ls st S) : AW Γ M d o0 S0 uc us pc ls (vI x :: st) S :=
  AW.if_gt hd hn ht (fun q => kt (ite_t h q)) (fun q => kf (ite_f h q))
theorem AW.if_leH {i : Decidable (w32 x ≤ 0)} (h : @ite _ (w32 x ≤ 0) i A B = some r) (hd : decode M.2.1 pc = .ok (.ifCond .le off, 3)) (hn : pc + 3 = n) (ht : (pc : Int) + off = (t : Int)) (kt : A = some r → AW Γ M d o0 S0 uc us t ls st S) (kf : B = some r → AW Γ M d o0 S0 uc us n ls st S) : AW Γ M d o0 S0 uc us pc ls (vI x :: st) S :=
  AW.if_le hd hn ht (fun q => kt (ite_t h q)) (fun q => kf (ite_f h q))
theorem AW.icmp_eqH {i : Decidable (x2 = y2)} (h : @ite _ (x2 = y2) i A B = some r) (hd : decode M.2.1 pc = .ok (.if_icmp .eq off, 3)) (hn : pc + 3 = n) (ht : (pc : Int) + off = (t : Int)) (hx : w32 x = x2) (hy : w32 y = y2) (kt : A = some r → AW Γ M d o0 S0 uc us t ls st S) (kf : B = some r → AW Γ M d o0 S0 uc us n ls st S) : AW Γ M d o0 S0 uc us pc ls (vI y :: vI x :: st) S :=
  AW.icmp_eq hd hn ht hx hy (fun q => kt (ite_t h q)) (fun q => kf (ite_f h q))
theorem AW.icmp_neH {i : Decidable (x2 = y2)} (h : @ite _ (x2 = y2) i A B = some r) (hd : decode M.2.1 pc = .ok (.if_icmp .ne off, 3)) (hn : pc + 3 = n) (ht : (pc : Int) + off = (t : Int)) (hx : w32 x = x2) (hy : w32 y = y2) (kf : A = some r → AW Γ M d o0 S0 uc us n ls st S) (kt : B = some r → AW Γ M d o0 S0 uc us t ls st S) : AW Γ M d o0 S0 uc us pc ls (vI y :: vI x :: st) S :=
  AW.icmp_ne hd hn ht hx hy (fun q => kf (ite_t h q)) (fun q => kt (ite_f h q))
theorem AW.icmp_ltH {i : Decidable (x2 < y2)} (h : @ite _ (x2 < y2) i A B = some r) (hd : decode M.2.1 pc = .ok (.if_icmp .lt off, 3)) (hn : pc + 3 = n) (ht : (pc : Int) + off = (t : Int)) (hx : w32 x = x2) (hy : w32 y = y2) (kt : A = some r → AW Γ M d o0 S0 uc us t ls st S) (kf : B = some r → AW Γ M d o0 S0 uc us n ls st S) : AW Γ M d o0 S0 uc us pc ls (vI y :: vI x :: st) S :=
  AW.icmp_lt hd hn ht hx hy (fun q => kt (ite_t h q)) (fun q => kf (ite_f h q))
theorem AW.icmp_geH {i : Decidable (y2 ≤ x2)} (h : @ite _ (y2 ≤ x2) i A B = some r) (hd : decode M.2.1 pc = .ok (.if_icmp .ge off, 3)) (hn : pc + 3 = n) (ht : (pc : Int) + off = (t : Int)) (hx : w32 x = x2) (hy : w32 y = y2) (kt : A = some r → AW Γ M d o0 S0 uc us t ls st S) (kf : B = some r → AW Γ M d o0 S0 uc us n ls st S) : AW Γ M d o0 S0 uc us pc ls (vI y :: vI x :: st) S :=
  AW.icmp_ge hd hn ht hx hy (fun q => kt (ite_t h q)) (fun q => kf (ite_f h q))
theorem AW.icmp_gtH {i : Decidable (y2 < x2)} (h : @ite _ (y2 < x2) i A B = some r) (hd : decode M.2.1 pc = .ok (.if_icmp .gt off, 3)) (hn : pc + 3 = n) (ht : (pc : Int) + off = (t : Int)) (hx : w32 x = x2) (hy : w32 y = y2) (kt : A = some r → AW Γ M d o0 S0 uc us t ls st S) (kf : B = some r → AW Γ M d o0 S0 uc us n ls st S) : AW Γ M d o0 S0 uc us pc ls (vI y :: vI x :: st) S :=
  AW.icmp_gt hd hn ht hx hy (fun q => kt (ite_t h q)) (fun q => kf (ite_f h q))
theorem AW.icmp_leH {i : Decidable (x2 ≤ y2)} (h : @ite _ (x2 ≤ y2) i A B = some r) (hd : decode M.2.1 pc = .ok (.if_icmp .le off, 3)) (hn : pc + 3 = n) (ht : (pc : Int) + off = (t : Int)) (hx : w32 x = x2) (hy : w32 y = y2) (kt : A = some r → AW Γ M d o0 S0 uc us t ls st S) (kf : B = some r → AW Γ M d o0 S0 uc us n ls st S) : AW Γ M d o0 S0 uc us pc ls (vI y :: vI x :: st) S :=
  AW.icmp_le hd hn ht hx hy (fun q => kt (ite_t h q)) (fun q => kf (ite_f h q))
end
theorem AW.ialdH {β : Type} {k N : Nat} {i N' : Int} {f : Nat → Option β} {r : β} (h : rdA N' i f = some r) (hN : (N : Int) = N') (hly : ly k = (20, N)) (hk : k < nc) (hd : decode M.2.1 pc = .ok (.iaload, 1)) (hn : pc + 1 = n) (kk : ∀ j : Nat, f j = some r → AW Γ M d o0 S0 uc us n ls (vI (σ k j) :: st) (nc, σ)) : AW Γ M d o0 S0 uc us pc ls (vI i :: vR k :: st) (nc, σ) := by
  obtain ⟨hi, h⟩ := rdA_some h
  exact AW.iald hly hk (by rw [hN]; exact hi) hd hn (kk _ h)
theorem AW.laldH {β : Type} {k N : Nat} {i N' : Int} {f : Nat → Option β} {r : β} (h : rdA N' i f = some r) (hN : (N : Int) = N') (hly : ly k = (21, N)) (hk : k < nc) (hd : decode M.2.1 pc = .ok (.laload, 1)) (hn : pc + 1 = n) (kk : ∀ j : Nat, f j = some r → AW Γ M d o0 S0 uc us n ls (vL (σ k j) :: st) (nc, σ)) : AW Γ M d o0 S0 uc us pc ls (vI i :: vR k :: st) (nc, σ) := by
  obtain ⟨hi, h⟩ := rdA_some h
  exact AW.lald hly hk (by rw [hN]; exact hi) hd hn (kk _ h)
theorem AW.baldH {β : Type} {k N : Nat} {i N' : Int} {f : Nat → Option β} {r : β} (h : rdA N' i f = some r) (hN : (N : Int) = N') (hly : ly k = (22, N)) (hk : k < nc) (hd : decode M.2.1 pc = .ok (.baload, 1)) (hn : pc + 1 = n) (kk : ∀ j : Nat, f j = some r → AW Γ M d o0 S0 uc us n ls (vI (σ k j) :: st) (nc, σ)) : AW Γ M d o0 S0 uc us pc ls (vI i :: vR k :: st) (nc, σ) := by
  obtain ⟨hi, h⟩ := rdA_some h
  exact AW.bald hly hk (by rw [hN]; exact hi) hd hn (kk _ h)
theorem AW.zaldH {β : Type} {k N : Nat} {i N' : Int} {f : Nat → Option β} {r : β} (h : rdA N' i f = some r) (hN : (N : Int) = N') (hly : ly k = (23, N)) (hk : k < nc) (hd : decode M.2.1 pc = .ok (.baload, 1)) (hn : pc + 1 = n) (kk : ∀ j : Nat, f j = some r → AW Γ M d o0 S0 uc us n ls (vI (σ k j) :: st) (nc, σ)) : AW Γ M d o0 S0 uc us pc ls (vI i :: vR k :: st) (nc, σ) := by
  obtain ⟨hi, h⟩ := rdA_some h
  exact AW.zald hly hk (by rw [hN]; exact hi) hd hn (kk _ h)
theorem AW.aaldH {β : Type} {p9 : Nat → Bool} {k N : Nat} {i N' : Int} {f : Nat → Nat → Option β} {r : β} (h : rdA N' i (fun j => ckR p9 (σ k j) (f j)) = some r) (hN : (N : Int) = N') (hly : ly k = (24, N)) (hk : k < nc) (hd : decode M.2.1 pc = .ok (.aaload, 1)) (hn : pc + 1 = n) (kk : ∀ (j t : Nat), p9 t = true → f j t = some r → AW Γ M d o0 S0 uc us n ls (vR t :: st) (nc, σ)) : AW Γ M d o0 S0 uc us pc ls (vI i :: vR k :: st) (nc, σ) := by
  obtain ⟨hi, h⟩ := rdA_some h
  obtain ⟨t, ht, hp, h⟩ := ckR_some h
  exact AW.aald hly hk (by rw [hN]; exact hi) ht hd hn (kk _ t hp h)
theorem AW.iastH {β : Type} {k N : Nat} {i N' x : Int} {f : Nat → Option β} {r : β} (h : rdA N' i f = some r) (hN : (N : Int) = N') (hly : ly k = (20, N)) (hk : k < nc) (hd : decode M.2.1 pc = .ok (.iastore, 1)) (hn : pc + 1 = n) (kk : ∀ j : Nat, f j = some r → AW Γ M d o0 S0 uc us n ls st (nc, up σ k j (x))) : AW Γ M d o0 S0 uc us pc ls (vI x :: vI i :: vR k :: st) (nc, σ) := by
  obtain ⟨hi, h⟩ := rdA_some h
  exact AW.iast hly hk (by rw [hN]; exact hi) hd hn (kk _ h)
theorem AW.lastH {β : Type} {k N : Nat} {i N' x : Int} {f : Nat → Option β} {r : β} (h : rdA N' i f = some r) (hN : (N : Int) = N') (hly : ly k = (21, N)) (hk : k < nc) (hd : decode M.2.1 pc = .ok (.lastore, 1)) (hn : pc + 1 = n) (kk : ∀ j : Nat, f j = some r → AW Γ M d o0 S0 uc us n ls st (nc, up σ k j (x))) : AW Γ M d o0 S0 uc us pc ls (vL x :: vI i :: vR k :: st) (nc, σ) := by
  obtain ⟨hi, h⟩ := rdA_some h
  exact AW.last hly hk (by rw [hN]; exact hi) hd hn (kk _ h)
theorem AW.bastH {β : Type} {k N : Nat} {i N' x : Int} {f : Nat → Option β} {r : β} (h : rdA N' i f = some r) (hN : (N : Int) = N') (hly : ly k = (22, N)) (hk : k < nc) (hd : decode M.2.1 pc = .ok (.bastore, 1)) (hn : pc + 1 = n) (kk : ∀ j : Nat, f j = some r → AW Γ M d o0 S0 uc us n ls st (nc, up σ k j (w8 x))) : AW Γ M d o0 S0 uc us pc ls (vI x :: vI i :: vR k :: st) (nc, σ) := by
  obtain ⟨hi, h⟩ := rdA_some h
  exact AW.bast hly hk (by rw [hN]; exact hi) hd hn (kk _ h)
theorem AW.zastH {β : Type} {k N : Nat} {i N' x : Int} {f : Nat → Option β} {r : β} (h : rdA N' i f = some r) (hN : (N : Int) = N') (hly : ly k = (23, N)) (hk : k < nc) (hd : decode M.2.1 pc = .ok (.bastore, 1)) (hn : pc + 1 = n) (kk : ∀ j : Nat, f j = some r → AW Γ M d o0 S0 uc us n ls st (nc, up σ k j (wZ x))) : AW Γ M d o0 S0 uc us pc ls (vI x :: vI i :: vR k :: st) (nc, σ) := by
  obtain ⟨hi, h⟩ := rdA_some h
  exact AW.zast hly hk (by rw [hN]; exact hi) hd hn (kk _ h)
theorem AW.getQH {β : Type} {p9 : Nat → Bool} {c N j k idx : Nat} {C nm ds : String} {fin : Bool} {f : Nat → Option β} {r : β} (h : ckR p9 (σ k j) f = some r) (hf : FF c N j C nm ds fin) (hw : Cond.fieldLink M.1.cls idx C nm ds ∈ WT) (hly : ly k = (c, N)) (hk : k < nc) (hfk : fk c j = 2) (hx : (if nc = 85 then fx c k j else none) = none) (hd : decode M.2.1 pc = .ok (.getfield idx, 3)) (hn : pc + 3 = n) (kk : ∀ t : Nat, p9 t = true → f t = some r → AW Γ M d o0 S0 uc us n ls (vR t :: st) (nc, σ)) : AW Γ M d o0 S0 uc us pc ls (vR k :: st) (nc, σ) := by
  obtain ⟨t, ht, hp, h⟩ := ckR_some h
  exact AW.getQ hf hw hly hk hfk hx ht hd hn (kk t hp h)
theorem AW.putI {c N j k idx : Nat} {C nm ds : String} {v : Int} (hf : FF c N j C nm ds false) (hw : Cond.fieldLink M.1.cls idx C nm ds ∈ WT) (hly : ly k = (c, N)) (hk : k < nc) (hx : (if nc = 85 then fx c k j else none) = none) (hfk : fk c j = 0) (hty : tyA c j = .int) (hd : decode M.2.1 pc = .ok (.putfield idx, 3)) (hn : pc + 3 = n) (kk : AW Γ M d o0 S0 uc us n ls st (nc, up σ k j v)) : AW Γ M d o0 S0 uc us pc ls (vI v :: vR k :: st) (nc, σ) :=
  AW.putV hf hw hly hk hx hfk.symm (Or.inl rfl) (by rw [hty]; rfl) (by rw [hty]; rfl) hd hn kk
theorem AW.putZ {c N j k idx : Nat} {C nm ds : String} {v : Int} (hv : v = 0 ∨ v = 1) (hf : FF c N j C nm ds false) (hw : Cond.fieldLink M.1.cls idx C nm ds ∈ WT) (hly : ly k = (c, N)) (hk : k < nc) (hx : (if nc = 85 then fx c k j else none) = none) (hfk : fk c j = 0) (hty : tyA c j = .boolean) (hd : decode M.2.1 pc = .ok (.putfield idx, 3)) (hn : pc + 3 = n) (kk : AW Γ M d o0 S0 uc us n ls st (nc, up σ k j v)) : AW Γ M d o0 S0 uc us pc ls (vI v :: vR k :: st) (nc, σ) :=
  AW.putV hf hw hly hk hx hfk.symm (Or.inl rfl) (by rw [hty]; rcases hv with rfl | rfl <;> rfl) (by rw [hty]; rcases hv with rfl | rfl; exact (show fits .boolean (.int (Int32.ofInt 0)) = true by decide); exact (show fits .boolean (.int (Int32.ofInt 1)) = true by decide)) hd hn kk
theorem AW.putR {c N j k idx t : Nat} {C nm ds C2 : String} (hf : FF c N j C nm ds false) (hw : Cond.fieldLink M.1.cls idx C nm ds ∈ WT) (hly : ly k = (c, N)) (hk : k < nc) (hx : (if nc = 85 then fx c k j else none) = none) (hfk : fk c j = 2) (hty : tyA c j = .object C2) (hd : decode M.2.1 pc = .ok (.putfield idx, 3)) (hn : pc + 3 = n) (kk : AW Γ M d o0 S0 uc us n ls st (nc, up σ k j (t : Int))) : AW Γ M d o0 S0 uc us pc ls (vR t :: vR k :: st) (nc, σ) :=
  AW.putV hf hw hly hk hx hfk.symm (Or.inl rfl) (by rw [hty, aV_R]; rfl) (by rw [hty, aV_R]; rfl) hd hn kk
theorem AW.cV {k c N : Nat} {T : u_T} (hM : AM Γ M' d' mc' ms' (vR k :: as) S o1 S1) (hC : CFV M' as.length) (hly : ly k = (c, N)) (hk : k < S.1) (hcl : vwCl[c]? = some (M'.1.cls, T, N)) (hc20 : c < 20)
    (hl : Cond.methodLink M.1.cls idx M'.1 ∈ WT) (hd' : d' + 1 ≤ d) (hst : st.length ≤ 4) (hd : decode M.2.1 pc = .ok (.invokevirtual idx, 3)) (hn : pc + 3 = n) (h85 : S1.1 = 85) (hu1 : mc' + uc' ≤ uc) (hu2 : ms' + us' ≤ us) (hs : rS M'.2.2.2.1 o1.2 ++ st = st')
    (k0 : o1.1 = 0 → AW Γ M d o0 S0 uc' us' n ls st' S1) (kx : 0 < o1.1 → AX Γ M d o0 S0 uc' us' pc ls o1.1 S1) : AW Γ M d o0 S0 uc us pc ls (as.reverse ++ vR k :: st) S := by
  subst hs
  exact AW.callV hM hly hk hcl hc20 hl hC.1 hC.2.1 hC.2.2.1 hC.2.2.2.1 hC.2.2.2.2.1 hC.2.2.2.2.2.1 hC.2.2.2.2.2.2 hd' hst hd hn (fun q => by omega) hu1 hu2 k0 kx
theorem AW.cO {j : Nat} (hM : AM Γ M' d' mc' ms' (vO j :: as) S o1 S1) (hC : CFV M' as.length) (hj : j < strN) (hcl : M'.1.cls = "java/lang/String")
    (hl : Cond.methodLink M.1.cls idx M'.1 ∈ WT) (hd' : d' + 1 ≤ d) (hst : st.length ≤ 4) (hd : decode M.2.1 pc = .ok (.invokevirtual idx, 3)) (hn : pc + 3 = n) (h85 : S1.1 = 85) (hu1 : mc' + uc' ≤ uc) (hu2 : ms' + us' ≤ us) (hs : rS M'.2.2.2.1 o1.2 ++ st = st')
    (k0 : o1.1 = 0 → AW Γ M d o0 S0 uc' us' n ls st' S1) (kx : 0 < o1.1 → AX Γ M d o0 S0 uc' us' pc ls o1.1 S1) : AW Γ M d o0 S0 uc us pc ls (as.reverse ++ vO j :: st) S := by
  subst hs
  exact AW.callO hM hj hcl hl hC.1 hC.2.1 hC.2.2.1 hC.2.2.2.1 hC.2.2.2.2.1 hC.2.2.2.2.2.1 hC.2.2.2.2.2.2 hd' hst hd hn (fun q => by omega) hu1 hu2 k0 kx
theorem AW.cS (hM : AM Γ M' d' mc' ms' as S o1 S1) (hC : CFS M' as.length) (hcl : M'.1.cls = M.1.cls)
    (hl : Cond.methodLink M.1.cls idx M'.1 ∈ WT) (hd' : d' + 1 ≤ d) (hst : st.length ≤ 4) (hd : decode M.2.1 pc = .ok (.invokestatic idx, 3)) (hn : pc + 3 = n) (h85 : S1.1 = 85) (hu1 : mc' + uc' ≤ uc) (hu2 : ms' + us' ≤ us) (hs : rS M'.2.2.2.1 o1.2 ++ st = st')
    (k0 : o1.1 = 0 → AW Γ M d o0 S0 uc' us' n ls st' S1) (kx : 0 < o1.1 → AX Γ M d o0 S0 uc' us' pc ls o1.1 S1) : AW Γ M d o0 S0 uc us pc ls (as.reverse ++ st) S := by
  subst hs
  exact AW.callS hM hcl hl hC.1 (by rw [← hcl]; exact hC.2.1) hC.2.2.1 hC.2.2.2.1 hC.2.2.2.2.1 hC.2.2.2.2.2 hd' hst hd hn (fun q => by omega) hu1 hu2 k0 kx
end AWg
theorem lle_s {v : AV} {w : Option AV} {a b : List (Option AV)} (h : w = some v) (t : lle a b) : lle (some v :: a) (w :: b) := ⟨h, t⟩
theorem lle_n {w : Option AV} {a b : List (Option AV)} (t : lle a b) : lle (none :: a) (w :: b) := t
theorem lle_e {a : List (Option AV)} (t : lle a []) : lle (none :: a) [] := t
theorem lle_z {b : List (Option AV)} : lle [] b := trivial
def bnd2 {β : Type} (x : Option (Int × SG)) (f : Int → SG → Option β) : Option β := x.bind fun s => f s.1 s.2
theorem bnd2_some {β : Type} {x : Option (Int × SG)} {f : Int → SG → Option β} {r : β} (h : bnd2 x f = some r) : ∃ v τ, x = some (v, τ) ∧ f v τ = some r := by
  obtain ⟨⟨v, τ⟩, h1, h2⟩ := ob_some h
  exact ⟨v, τ, h1, h2⟩
theorem nlt0 {P : Prop} (h : 0 < (0 : Nat)) : P := absurd h (Nat.lt_irrefl 0)
theorem le45 {a b : Nat} (h : Nat.ble a b = true) : a ≤ b := Nat.le_of_ble_eq_true h
theorem ite_y {β : Type} {c : Prop} {i : Decidable c} {A : Option β} {r : β} (h : @ite _ c i A none = some r) : c ∧ A = some r := by
  by_cases q : c
  · rw [if_pos q] at h; exact ⟨q, h⟩
  · rw [if_neg q] at h; cases h
theorem rdA_ex {β : Type} {n i : Int} {f : Nat → Option β} {r : β} (h : rdA n i f = some r) : ∃ j : Nat, (j = (w32 i).toNat ∧ 0 ≤ w32 i ∧ w32 i < n) ∧ f j = some r := by
  obtain ⟨h1, h2⟩ := rdA_some h
  exact ⟨_, ⟨rfl, h1⟩, h2⟩
