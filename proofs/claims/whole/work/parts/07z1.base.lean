/-- the String constants: eleven words -/
abbrev nJS : Nat := 11
def lenJS : List Nat := [6, 5, 4, 6, 3, 4, 5, 4, 5, 7, 6]
def bytJS : List (List Int32) := [[112, 101, 114, 115, 111, 110], [108, 105, 109, 105, 116], [100, 101, 97, 108], [101, 105, 116, 104, 101, 114], [108, 97, 119], [108, 105, 102, 101], [121, 101, 97, 114, 115], [112, 97, 114, 116], [108, 101, 110, 100, 115], [98, 111, 114, 114, 111, 119, 115], [116, 117, 114, 110, 101, 100]]
/-- an index in its row -/
def inb (i : Int32) (n : Nat) : Bool := !(decide (i < 0) || decide (n ≤ i.toNatClampNeg))
theorem inb_in {i : Int32} {n : Nat} (h : inb i n = true) : vp_in i n := by
  intro q
  simp only [inb, Bool.not_eq_true', Bool.or_eq_false_iff, decide_eq_false_iff_not] at h
  exact q.elim h.1 h.2
theorem inb_nI {k n : Nat} (h : k < n) (hn : n < 2 ^ 31) : inb (nI k) n = true := by
  have h1 := nI_in h hn
  simp only [inb, Bool.not_eq_true', Bool.or_eq_false_iff, decide_eq_false_iff_not]
  exact ⟨fun q => h1 (Or.inl q), fun q => h1 (Or.inr q)⟩
def b2i (b : Bool) : Int32 := if b then 1 else 0
theorem b2i_n (b : Bool) : narrow .boolean (.int (b2i b)) = .int (b2i b) := by cases b <;> decide
def lpN {σ R : Type} (f : σ → Option (σ ⊕ R)) : Nat → σ → Option R
  | 0, _ => none
  | n + 1, s => match f s with
    | none => none
    | some (.inl s') => lpN f n s'
    | some (.inr r) => some r
def lpR {σ R : Type} (f : σ → Option (σ ⊕ R)) (n : Nat) : Option (σ ⊕ R) → Option R
  | none => none
  | some (.inl s') => lpN f n s'
  | some (.inr r) => some r
theorem lpN_succ {σ R : Type} (f : σ → Option (σ ⊕ R)) (n : Nat) (s : σ) : lpN f (n + 1) s = lpR f n (f s) := by
  unfold lpN lpR
  rcases f s with _ | (s' | r) <;> rfl
theorem lpN_mono {σ R : Type} (f : σ → Option (σ ⊕ R)) : ∀ (n : Nat) (s : σ) (r : R), lpN f n s = some r → ∀ m, n ≤ m → lpN f m s = some r
  | 0, s, r, h, m, _ => by cases h
  | n + 1, s, r, h, 0, hm => by omega
  | n + 1, s, r, h, m + 1, hm => by
    rw [lpN_succ] at h ⊢
    rcases hf : f s with _ | (s' | r')
    · rw [hf] at h; cases h
    · rw [hf] at h
      exact lpN_mono f n s' r h m (by omega)
    · rw [hf] at h
      exact h
noncomputable def lpC {σ R : Type} (f : σ → Option (σ ⊕ R)) (s : σ) : Option R :=
  @dite (Option R) (∃ (r : R) (n : Nat), lpN f n s = some r) (Classical.propDecidable _) (fun h => some (Classical.choose h)) (fun _ => none)
theorem lpC_of {σ R : Type} {f : σ → Option (σ ⊕ R)} {s : σ} {n : Nat} {r : R} (h : lpN f n s = some r) : lpC f s = some r := by
  have hx : ∃ (r : R) (n : Nat), lpN f n s = some r := ⟨r, n, h⟩
  unfold lpC
  rw [dif_pos hx]
  obtain ⟨m, hm⟩ := Classical.choose_spec hx
  have h1 := lpN_mono f n s r h (max n m) (Nat.le_max_left _ _)
  have h2 := lpN_mono f m s _ hm (max n m) (Nat.le_max_right _ _)
  exact h2.symm.trans h1
theorem lpC_ex {σ R : Type} {f : σ → Option (σ ⊕ R)} {s : σ} {r : R} (h : lpC f s = some r) : ∃ n, lpN f n s = some r := by
  unfold lpC at h
  by_cases hx : ∃ (r : R) (n : Nat), lpN f n s = some r
  · rw [dif_pos hx] at h
    cases h
    exact Classical.choose_spec hx
  · rw [dif_neg hx] at h
    cases h
theorem lpC_no {σ R : Type} {f : σ → Option (σ ⊕ R)} {s : σ} (h : ∀ n r, ¬ lpN f n s = some r) : lpC f s = none := by
  cases q : lpC f s with
  | none => rfl
  | some r => obtain ⟨n, hn⟩ := lpC_ex q; exact absurd hn (h n r)
/-- what a step comes to -/
noncomputable def lpO {σ R : Type} (f : σ → Option (σ ⊕ R)) : Option (σ ⊕ R) → Option R
  | none => none
  | some (.inl s') => lpC f s'
  | some (.inr r) => some r
theorem lpC_eq {σ R : Type} (f : σ → Option (σ ⊕ R)) (s : σ) : lpC f s = lpO f (f s) := by
  rcases hf : f s with _ | (s' | r)
  · refine lpC_no (fun n r h => ?_)
    cases n with
    | zero => cases h
    | succ n => rw [lpN_succ, hf] at h; cases h
  · show _ = lpC f s'
    cases q : lpC f s' with
    | some r =>
      obtain ⟨n, hn⟩ := lpC_ex q
      exact lpC_of (n := n + 1) (by rw [lpN_succ, hf]; exact hn)
    | none =>
      refine lpC_no (fun n r h => ?_)
      cases n with
      | zero => cases h
      | succ n =>
        rw [lpN_succ, hf] at h
        have := lpC_of (show lpN f n s' = some r from h)
        rw [q] at this
        cases this
  · exact lpC_of (n := 1) (by rw [lpN_succ, hf]; rfl)
theorem lpO_ite {σ R : Type} (f : σ → Option (σ ⊕ R)) (c : Prop) [h : Decidable c] (a b : Option (σ ⊕ R)) : lpO f (if c then a else b) = if c then lpO f a else lpO f b := by
  by_cases hc : c
  · rw [if_pos hc, if_pos hc]
  · rw [if_neg hc, if_neg hc]
theorem lpO_bind {σ R α : Type} (f : σ → Option (σ ⊕ R)) (o : Option α) (g : α → Option (σ ⊕ R)) : lpO f (o.bind g) = o.bind (fun q => lpO f (g q)) := by
  cases o <;> rfl
theorem lpO_none {σ R : Type} (f : σ → Option (σ ⊕ R)) : lpO f none = none := rfl
theorem lpO_l {σ R : Type} (f : σ → Option (σ ⊕ R)) (s : σ) : lpO f (some (.inl s)) = lpC f s := rfl
theorem lpO_r {σ R : Type} (f : σ → Option (σ ⊕ R)) (r : R) : lpO f (some (.inr r)) = some r := rfl
def jch (i : Nat) (j : Int32) : Int32 := (bytJS.getD i []).getD j.toNatClampNeg 0
/-- a row filled up to n -/
def jfill (n : Nat) (f : Nat → Int32) (v : Int32) : Nat → Int32 := fun k => if k < n then v else f k
theorem jfill_step (k : Nat) (f : Nat → Int32) (v : Int32) : upd (jfill k f v) k v = jfill (k + 1) f v := by
  funext j
  unfold upd jfill
  by_cases h : j = k
  · subst h; simp
  · rw [if_neg h]
    by_cases h2 : j < k
    · rw [if_pos h2, if_pos (by omega)]
    · rw [if_neg h2, if_neg (by omega)]
