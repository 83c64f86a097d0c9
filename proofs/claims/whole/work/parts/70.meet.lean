/-! ===== pure: pairs who met: sides, groups, how many ways to be ===== -/
def mtK (A B : Nat → Nat) : Nat → Nat
  | 0 => 0
  | k + 1 => mtK A B k ||| (2 ^ A k ||| 2 ^ B k)
def nrK (A B : Nat → Nat) (p : Nat) : Nat → Nat
  | 0 => 0
  | k + 1 => nrK A B p k ||| (if A k = p then 2 ^ B k else 0) ||| (if B k = p then 2 ^ A k else 0)
theorem mtK_lt {A B : Nat → Nat} {n : Nat} : ∀ k, (∀ i, i < k → A i < n ∧ B i < n) → mtK A B k < 2 ^ n
  | 0, _ => Nat.two_pow_pos _
  | k + 1, h => Nat.or_lt_two_pow (mtK_lt k (fun i hi => h i (by omega))) (Nat.or_lt_two_pow (pz_p2 (h k (by omega)).1) (pz_p2 (h k (by omega)).2))
theorem nrK_lt {A B : Nat → Nat} {n p : Nat} : ∀ k, (∀ i, i < k → A i < n ∧ B i < n) → nrK A B p k < 2 ^ n
  | 0, _ => Nat.two_pow_pos _
  | k + 1, h => by
    refine Nat.or_lt_two_pow (Nat.or_lt_two_pow (nrK_lt k (fun i hi => h i (by omega))) ?_) ?_
    · split
      · exact pz_p2 (h k (by omega)).2
      · exact Nat.two_pow_pos _
    · split
      · exact pz_p2 (h k (by omega)).1
      · exact Nat.two_pow_pos _
theorem pz_bit2 {a q : Nat} : (2 ^ a).testBit q = true ↔ a = q := by
  rw [Nat.testBit_two_pow]
  simp
theorem pz_bitif {c : Prop} [Decidable c] {a q : Nat} : (if c then 2 ^ a else 0).testBit q = true ↔ c ∧ a = q := by
  by_cases h : c
  · rw [if_pos h, pz_bit2]; simp [h]
  · rw [if_neg h, Nat.zero_testBit]; simp [h]
theorem mtK_bit {A B : Nat → Nat} {q : Nat} : ∀ k, (mtK A B k).testBit q = true ↔ ∃ i, i < k ∧ (A i = q ∨ B i = q)
  | 0 => by simp [mtK]
  | k + 1 => by
    show (mtK A B k ||| (2 ^ A k ||| 2 ^ B k)).testBit q = true ↔ _
    rw [Nat.testBit_or, Nat.testBit_or, Bool.or_eq_true, Bool.or_eq_true, mtK_bit k, pz_bit2, pz_bit2]
    constructor
    · rintro (⟨i, a, b⟩ | h)
      · exact ⟨i, by omega, b⟩
      · exact ⟨k, by omega, h⟩
    · rintro ⟨i, a, b⟩
      by_cases e : i = k
      · subst e; exact Or.inr b
      · exact Or.inl ⟨i, by omega, b⟩
theorem nrK_bit {A B : Nat → Nat} {p q : Nat} : ∀ k, (nrK A B p k).testBit q = true ↔ ∃ i, i < k ∧ ((A i = p ∧ B i = q) ∨ (B i = p ∧ A i = q))
  | 0 => by simp [nrK]
  | k + 1 => by
    show (nrK A B p k ||| (if A k = p then 2 ^ B k else 0) ||| (if B k = p then 2 ^ A k else 0)).testBit q = true ↔ _
    rw [Nat.testBit_or, Nat.testBit_or, Bool.or_eq_true, Bool.or_eq_true, nrK_bit k, pz_bitif, pz_bitif]
    constructor
    · rintro ((⟨i, a, b⟩ | h) | h)
      · exact ⟨i, by omega, b⟩
      · exact ⟨k, by omega, Or.inl h⟩
      · exact ⟨k, by omega, Or.inr h⟩
    · rintro ⟨i, a, b⟩
      by_cases e : i = k
      · subst e
        rcases b with b | b
        · exact Or.inl (Or.inr b)
        · exact Or.inr b
      · exact Or.inl (Or.inl ⟨i, by omega, b⟩)
/-- those near to any of a side, of those below k -/
def naK (nr : Nat → Nat) (sd : Nat) : Nat → Nat
  | 0 => 0
  | k + 1 => naK nr sd k ||| (if sd.testBit k = true then nr k else 0)
theorem naK_bit {nr : Nat → Nat} {sd q : Nat} : ∀ k, (naK nr sd k).testBit q = true ↔ ∃ p, p < k ∧ sd.testBit p = true ∧ (nr p).testBit q = true
  | 0 => by simp [naK]
  | k + 1 => by
    show (naK nr sd k ||| (if sd.testBit k = true then nr k else 0)).testBit q = true ↔ _
    rw [Nat.testBit_or, Bool.or_eq_true, naK_bit k]
    have h : (if sd.testBit k = true then nr k else 0).testBit q = true ↔ sd.testBit k = true ∧ (nr k).testBit q = true := by
      by_cases c : sd.testBit k = true
      · rw [if_pos c]; simp [c]
      · rw [if_neg c, Nat.zero_testBit]; simp [c]
    rw [h]
    constructor
    · rintro (⟨p, a, b⟩ | h)
      · exact ⟨p, by omega, b⟩
      · exact ⟨k, by omega, h⟩
    · rintro ⟨p, a, b⟩
      by_cases e : p = k
      · subst e; exact Or.inr b
      · exact Or.inl ⟨p, by omega, b⟩
theorem naK_lt {nr : Nat → Nat} {sd n : Nat} (h : ∀ p, nr p < 2 ^ n) : ∀ k, naK nr sd k < 2 ^ n
  | 0 => Nat.two_pow_pos _
  | k + 1 => by
    refine Nat.or_lt_two_pow (naK_lt h k) ?_
    split
    · exact h k
    · exact Nat.two_pow_pos _
def naT (A B : Nat → Nat) (N sd : Nat) : Nat := naK (fun p => nrK A B p N) sd 10
theorem naT_bit {A B : Nat → Nat} {N sd q : Nat} (h : ∀ i, i < N → A i < 10 ∧ B i < 10) : (naT A B N sd).testBit q = true ↔ ∃ i, i < N ∧ ((sd.testBit (A i) = true ∧ B i = q) ∨ (sd.testBit (B i) = true ∧ A i = q)) := by
  unfold naT
  rw [naK_bit]
  constructor
  · rintro ⟨p, p1, p2, p3⟩
    obtain ⟨i, i1, i2⟩ := (nrK_bit N).mp p3
    rcases i2 with ⟨a, b⟩ | ⟨a, b⟩
    · exact ⟨i, i1, Or.inl ⟨by rw [a]; exact p2, b⟩⟩
    · exact ⟨i, i1, Or.inr ⟨by rw [a]; exact p2, b⟩⟩
  · rintro ⟨i, i1, i2⟩
    rcases i2 with ⟨a, b⟩ | ⟨a, b⟩
    · exact ⟨A i, (h i i1).1, a, (nrK_bit N).mpr ⟨i, i1, Or.inl ⟨rfl, b⟩⟩⟩
    · exact ⟨B i, (h i i1).2, a, (nrK_bit N).mpr ⟨i, i1, Or.inr ⟨rfl, b⟩⟩⟩
/-- S holds both of a pair, or none -/
def clsd (A B : Nat → Nat) (N S : Nat) : Prop := ∀ i, i < N → S.testBit (A i) = S.testBit (B i)
/-- Q is a way for those of S -/
def prp (A B : Nat → Nat) (N S Q : Nat) : Prop := ∀ i, i < N → S.testBit (A i) = true → Q.testBit (A i) ≠ Q.testBit (B i)
def sub (a b : Nat) : Prop := ∀ i, a.testBit i = true → b.testBit i = true
def sides (A B : Nat → Nat) (N v like oth : Nat) : Prop := like.testBit v = true ∧ (∀ i, i < N → (like.testBit (A i) = true → oth.testBit (B i) = true) ∧ (like.testBit (B i) = true → oth.testBit (A i) = true) ∧ (oth.testBit (A i) = true → like.testBit (B i) = true) ∧ (oth.testBit (B i) = true → like.testBit (A i) = true)) ∧ (∀ S, clsd A B N S → S.testBit v = true → sub like S ∧ sub oth S) ∧ ∀ S Q, clsd A B N S → S.testBit v = true → prp A B N S Q → (∀ p, like.testBit p = true → Q.testBit p = Q.testBit v) ∧ ∀ p, oth.testBit p = true → Q.testBit p = !(Q.testBit v)
theorem sides_clsd {A B : Nat → Nat} {N v like oth : Nat} (h : sides A B N v like oth) : clsd A B N (like ||| oth) := by
  intro i hi
  obtain ⟨a, b, c, d⟩ := h.2.1 i hi
  rw [Nat.testBit_or, Nat.testBit_or]
  apply Bool.eq_iff_iff.mpr
  rw [Bool.or_eq_true, Bool.or_eq_true]
  exact ⟨fun x => x.elim (fun y => Or.inr (a y)) (fun y => Or.inl (c y)), fun x => x.elim (fun y => Or.inr (b y)) (fun y => Or.inl (d y))⟩
/-- one spreading -/
def grown (A B : Nat → Nat) (N v like oth : Nat) : Prop := like.testBit v = true ∧ (∀ S, clsd A B N S → S.testBit v = true → sub like S ∧ sub oth S) ∧ ∀ S Q, clsd A B N S → S.testBit v = true → prp A B N S Q → (∀ p, like.testBit p = true → Q.testBit p = Q.testBit v) ∧ ∀ p, oth.testBit p = true → Q.testBit p = !(Q.testBit v)
theorem grown_o {A B : Nat → Nat} {N v like oth : Nat} (hN : ∀ i, i < N → A i < 10 ∧ B i < 10) (h : grown A B N v like oth) : grown A B N v like (oth ||| naT A B N like) := by
  obtain ⟨h1, h2, h3⟩ := h
  refine ⟨h1, fun S hS hv => ⟨(h2 S hS hv).1, fun p hp => ?_⟩, fun S Q hS hv hQ => ⟨(h3 S Q hS hv hQ).1, fun p hp => ?_⟩⟩
  · rw [Nat.testBit_or, Bool.or_eq_true] at hp
    rcases hp with hp | hp
    · exact (h2 S hS hv).2 p hp
    · obtain ⟨i, i1, i2⟩ := (naT_bit hN).mp hp
      rcases i2 with ⟨a, b⟩ | ⟨a, b⟩
      · rw [← b, ← hS i i1]; exact (h2 S hS hv).1 _ a
      · rw [← b, hS i i1]; exact (h2 S hS hv).1 _ a
  · rw [Nat.testBit_or, Bool.or_eq_true] at hp
    rcases hp with hp | hp
    · exact (h3 S Q hS hv hQ).2 p hp
    · obtain ⟨i, i1, i2⟩ := (naT_bit hN).mp hp
      rcases i2 with ⟨a, b⟩ | ⟨a, b⟩
      · have e1 := (h3 S Q hS hv hQ).1 _ a
        have e2 := hQ i i1 ((h2 S hS hv).1 _ a)
        rw [b, e1] at e2
        cases c : Q.testBit p <;> cases c2 : Q.testBit v <;> simp_all
      · have e1 := (h3 S Q hS hv hQ).1 _ a
        have e2 := hQ i i1 (by rw [hS i i1]; exact (h2 S hS hv).1 _ a)
        rw [b, e1] at e2
        cases c : Q.testBit p <;> cases c2 : Q.testBit v <;> simp_all
theorem grown_l {A B : Nat → Nat} {N v like oth : Nat} (hN : ∀ i, i < N → A i < 10 ∧ B i < 10) (h : grown A B N v like oth) : grown A B N v (like ||| naT A B N oth) oth := by
  obtain ⟨h1, h2, h3⟩ := h
  refine ⟨by rw [Nat.testBit_or, h1]; rfl, fun S hS hv => ⟨fun p hp => ?_, (h2 S hS hv).2⟩, fun S Q hS hv hQ => ⟨fun p hp => ?_, (h3 S Q hS hv hQ).2⟩⟩
  · rw [Nat.testBit_or, Bool.or_eq_true] at hp
    rcases hp with hp | hp
    · exact (h2 S hS hv).1 p hp
    · obtain ⟨i, i1, i2⟩ := (naT_bit hN).mp hp
      rcases i2 with ⟨a, b⟩ | ⟨a, b⟩
      · rw [← b, ← hS i i1]; exact (h2 S hS hv).2 _ a
      · rw [← b, hS i i1]; exact (h2 S hS hv).2 _ a
  · rw [Nat.testBit_or, Bool.or_eq_true] at hp
    rcases hp with hp | hp
    · exact (h3 S Q hS hv hQ).1 p hp
    · obtain ⟨i, i1, i2⟩ := (naT_bit hN).mp hp
      rcases i2 with ⟨a, b⟩ | ⟨a, b⟩
      · have e1 := (h3 S Q hS hv hQ).2 _ a
        have e2 := hQ i i1 ((h2 S hS hv).2 _ a)
        rw [b, e1] at e2
        cases c : Q.testBit p <;> cases c2 : Q.testBit v <;> simp_all
      · have e1 := (h3 S Q hS hv hQ).2 _ a
        have e2 := hQ i i1 (by rw [hS i i1]; exact (h2 S hS hv).2 _ a)
        rw [b, e1] at e2
        cases c : Q.testBit p <;> cases c2 : Q.testBit v <;> simp_all
theorem grown_end {A B : Nat → Nat} {N v like oth : Nat} (hN : ∀ i, i < N → A i < 10 ∧ B i < 10) (h : grown A B N v like oth) (h1 : sub (naT A B N like) oth) (h2 : sub (naT A B N oth) like) : sides A B N v like oth := by
  refine ⟨h.1, fun i hi => ⟨fun x => h1 _ ((naT_bit hN).mpr ⟨i, hi, Or.inl ⟨x, rfl⟩⟩), fun x => h1 _ ((naT_bit hN).mpr ⟨i, hi, Or.inr ⟨x, rfl⟩⟩), fun x => h2 _ ((naT_bit hN).mpr ⟨i, hi, Or.inl ⟨x, rfl⟩⟩), fun x => h2 _ ((naT_bit hN).mpr ⟨i, hi, Or.inr ⟨x, rfl⟩⟩)⟩, h.2.1, h.2.2⟩
/-! counting -/
theorem sm_swap (F : Nat → Nat → Nat) (n : Nat) : ∀ m, sm (fun i => sm (fun j => F i j) n) m = sm (fun j => sm (fun i => F i j) m) n
  | 0 => by
    exact (sm_zero (f := fun j => sm (fun i => F i j) 0) n (fun k _ => rfl)).symm
  | m + 1 => by
    rw [sm_s, sm_swap F n m, ← sm_add]
    apply sm_congr
    intro k _
    rfl
theorem ct_bij {P P' : Nat → Bool} {N : Nat} (φ ψ : Nat → Nat) (h1 : ∀ x, x < N → P' x = true → φ x < N ∧ P (φ x) = true ∧ ψ (φ x) = x) (h2 : ∀ y, y < N → P y = true → ψ y < N ∧ P' (ψ y) = true ∧ φ (ψ y) = y) : ct P' N = ct P N := by
  rw [ct_sm, ct_sm]
  have e1 : sm (fun x => if P' x = true then 1 else 0) N = sm (fun x => sm (fun y => if P' x = true ∧ φ x = y then 1 else 0) N) N := by
    apply sm_congr
    intro x hx
    by_cases c : P' x = true
    · have := sm_one (fun _ => 1) (φ x) N
      rw [if_pos (h1 x hx c).1] at this
      refine (if_pos c).trans (this.symm.trans ?_)
      apply sm_congr
      intro y _
      show (if y = φ x then 1 else 0) = if P' x = true ∧ φ x = y then 1 else 0
      by_cases d : y = φ x
      · rw [if_pos d, if_pos ⟨c, d.symm⟩]
      · rw [if_neg d, if_neg (fun z => d z.2.symm)]
    · show (if P' x = true then 1 else 0) = _
      rw [if_neg c, sm_zero N (fun y _ => by rw [if_neg (fun z => c z.1)])]
  have e2 : sm (fun y => if P y = true then 1 else 0) N = sm (fun y => sm (fun x => if P' x = true ∧ φ x = y then 1 else 0) N) N := by
    apply sm_congr
    intro y hy
    by_cases c : P y = true
    · obtain ⟨a, b, d⟩ := h2 y hy c
      have := sm_one (fun _ => 1) (ψ y) N
      rw [if_pos a] at this
      refine (if_pos c).trans (this.symm.trans ?_)
      apply sm_congr
      intro x hx
      show (if x = ψ y then 1 else 0) = if P' x = true ∧ φ x = y then 1 else 0
      by_cases e : x = ψ y
      · rw [if_pos e, if_pos ⟨by rw [e]; exact b, by rw [e]; exact d⟩]
      · rw [if_neg e, if_neg (fun z => e (by rw [← z.2]; exact (h1 x hx z.1).2.2.symm))]
    · show (if P y = true then 1 else 0) = _
      rw [if_neg c, sm_zero N (fun x hx => by
        rw [if_neg (fun z => c (by rw [← z.2]; exact (h1 x hx z.1).2.1))])]
  rw [e1, e2, sm_swap]
theorem ct_or {P P1 P2 : Nat → Bool} : ∀ (n : Nat), (∀ k, k < n → P k = (P1 k || P2 k) ∧ ¬ (P1 k = true ∧ P2 k = true)) → ct P n = ct P1 n + ct P2 n
  | 0, _ => rfl
  | n + 1, h => by
    have ih := ct_or n (fun k hk => h k (by omega))
    obtain ⟨a, b⟩ := h n (by omega)
    rw [ct_s, ct_s, ct_s, ih, a]
    cases c1 : P1 n <;> cases c2 : P2 n <;> simp_all <;> omega
theorem ct_none {P : Nat → Bool} : ∀ (n : Nat), (∀ k, k < n → P k = false) → ct P n = 0
  | 0, _ => rfl
  | n + 1, h => by
    rw [ct_s, ct_none n (fun k hk => h k (by omega)), h n (by omega)]; rfl
theorem sub_le {a b : Nat} (h : sub a b) : a ≤ b := by
  have : a &&& b = a := by
    apply Nat.eq_of_testBit_eq
    intro i
    rw [Nat.testBit_and]
    cases c : a.testBit i with
    | false => rfl
    | true => rw [h i c]; rfl
  rw [← this]; exact Nat.and_le_right

noncomputable def wyB (A B : Nat → Nat) (N S Q : Nat) : Bool := @decide (sub Q S ∧ prp A B N S Q) (Classical.propDecidable _)
theorem wyB_iff {A B : Nat → Nat} {N S Q : Nat} : wyB A B N S Q = true ↔ sub Q S ∧ prp A B N S Q := by
  unfold wyB
  exact @decide_eq_true_iff _ (Classical.propDecidable _)
/-- how many ways -/
noncomputable def wyC (A B : Nat → Nat) (N n S : Nat) : Nat := ct (wyB A B N S) (2 ^ n)
theorem sub_lt {a b n : Nat} (h : sub a b) (hb : b < 2 ^ n) : a < 2 ^ n := Nat.lt_of_le_of_lt (sub_le h) hb
theorem prp_sub {A B : Nat → Nat} {N S S' Q : Nat} (h : sub S' S) (hQ : prp A B N S Q) : prp A B N S' Q := fun i hi hs => hQ i hi (h _ hs)
/-- a way for S, and one of the sides: Q with the group's part as told -/
theorem wy_split {A B : Nat → Nat} {N n v like oth S : Nat} (hs : sides A B N v like oth) (hS : clsd A B N S) (hv : S.testBit v = true) (hSn : S < 2 ^ n) (hdis : like &&& oth = 0) : wyC A B N n S = 2 * wyC A B N n (adn S (like ||| oth)) := by
  have hcl := sides_clsd hs
  obtain ⟨q1, q2, q3, q4⟩ := hs
  obtain ⟨sl, so⟩ := q3 S hS hv
  have hd : ∀ p, like.testBit p = true → oth.testBit p = true → False := fun p h1 h2 => by
    have := congrArg (fun x => Nat.testBit x p) hdis
    simp only [Nat.testBit_and, h1, h2, Nat.zero_testBit] at this
    cases this
  have hSs : sub (adn S (like ||| oth)) S := fun p hp => by
    rw [adn_bit] at hp
    exact (Bool.and_eq_true _ _ ▸ hp).1
  -- a half
  have half : ∀ (x z : Nat), ((x = like ∧ z = oth) ∨ (x = oth ∧ z = like)) → ct (fun Q => wyB A B N S Q && (adn Q (adn Q (like ||| oth)) == x)) (2 ^ n) = wyC A B N n (adn S (like ||| oth)) := by
    intro x z hxz
    have hx1 : ∀ p, x.testBit p = true → (like ||| oth).testBit p = true := fun p hp => by
      rw [Nat.testBit_or]
      rcases hxz with ⟨e, _⟩ | ⟨e, _⟩ <;> subst e <;> rw [hp] <;> simp
    have hxS : sub x S := by
      rcases hxz with ⟨e, _⟩ | ⟨e, _⟩ <;> subst e
      · exact sl
      · exact so
    have hprx : ∀ i, i < N → (like ||| oth).testBit (A i) = true → x.testBit (A i) ≠ x.testBit (B i) := by
      intro i hi h
      obtain ⟨a, b, c, d⟩ := q2 i hi
      rw [Nat.testBit_or, Bool.or_eq_true] at h
      rcases hxz with ⟨e, _⟩ | ⟨e, _⟩ <;> subst e
      · rcases h with h | h
        · have h2 := a h
          intro h3
          rw [h] at h3
          exact hd _ h3.symm h2
        · have h2 := c h
          intro h3
          rw [h2] at h3
          exact hd _ h3 h
      · rcases h with h | h
        · have h2 := a h
          intro h3
          rw [h2] at h3
          exact hd _ h h3
        · have h2 := c h
          intro h3
          rw [h] at h3
          exact hd _ h2 h3.symm
    refine (ct_bij (P' := wyB A B N (adn S (like ||| oth))) (fun Q => Q ||| x) (fun Q => adn Q (like ||| oth)) (fun Q hQ hw => ?_) (fun Q hQ hw => ?_)).symm
    · obtain ⟨w1, w2⟩ := wyB_iff.mp hw
      have hoff : ∀ p, (like ||| oth).testBit p = true → Q.testBit p = false := fun p hp => by
        cases c : Q.testBit p with
        | false => rfl
        | true =>
          have := w1 p c
          rw [adn_bit, hp] at this
          simp at this
      have hback : adn (Q ||| x) (like ||| oth) = Q := by
        apply Nat.eq_of_testBit_eq
        intro p
        rw [adn_bit, Nat.testBit_or (x := Q)]
        cases c : (like ||| oth).testBit p with
        | true => rw [hoff p c]; simp
        | false =>
          have : x.testBit p = false := by
            cases c2 : x.testBit p with
            | false => rfl
            | true => rw [hx1 p c2] at c; cases c
          rw [this]; simp
      have hpart : adn (Q ||| x) (adn (Q ||| x) (like ||| oth)) = x := by
        rw [hback]
        apply Nat.eq_of_testBit_eq
        intro p
        rw [adn_bit, Nat.testBit_or]
        cases c : x.testBit p with
        | true => rw [hoff p (hx1 p c)]; rfl
        | false => cases Q.testBit p <;> rfl
      refine ⟨Nat.or_lt_two_pow hQ (sub_lt hxS hSn), ?_, hback⟩
      show (wyB A B N S (Q ||| x) && (adn (Q ||| x) (adn (Q ||| x) (like ||| oth)) == x)) = true
      rw [hpart]
      simp only [beq_self_eq_true, Bool.and_true]
      refine wyB_iff.mpr ⟨fun p hp => ?_, fun i hi hSi => ?_⟩
      · rw [Nat.testBit_or, Bool.or_eq_true] at hp
        rcases hp with hp | hp
        · exact hSs p (w1 p hp)
        · exact hxS p hp
      · rw [Nat.testBit_or, Nat.testBit_or]
        have hci := hcl i hi
        cases c : (like ||| oth).testBit (A i) with
        | true =>
          rw [c] at hci
          rw [hoff _ c, hoff _ hci.symm, Bool.false_or, Bool.false_or]
          exact hprx i hi c
        | false =>
          rw [c] at hci
          have n1 : x.testBit (A i) = false := by
            cases c2 : x.testBit (A i) with
            | false => rfl
            | true => rw [hx1 _ c2] at c; cases c
          have n2 : x.testBit (B i) = false := by
            cases c2 : x.testBit (B i) with
            | false => rfl
            | true => rw [hx1 _ c2] at hci; cases hci
          rw [n1, n2, Bool.or_false, Bool.or_false]
          exact w2 i hi (by rw [adn_bit, hSi, c]; rfl)
    · have hw' : (wyB A B N S Q && (adn Q (adn Q (like ||| oth)) == x)) = true := hw
      rw [Bool.and_eq_true, beq_iff_eq] at hw'
      obtain ⟨hw1, hw2⟩ := hw'
      obtain ⟨w1, w2⟩ := wyB_iff.mp hw1
      refine ⟨adn_lt hQ, wyB_iff.mpr ⟨fun p hp => ?_, fun i hi hSi => ?_⟩, ?_⟩
      · rw [adn_bit, Bool.and_eq_true] at hp
        rw [adn_bit, w1 p hp.1, hp.2]; rfl
      · rw [adn_bit, Bool.and_eq_true] at hSi
        have hci := hcl i hi
        rw [adn_bit, adn_bit, ← hci]
        have h3 : (like ||| oth).testBit (A i) = false := by simpa using hSi.2
        rw [h3]
        simp only [Bool.not_false, Bool.and_true]
        exact w2 i hi hSi.1
      · show adn Q (like ||| oth) ||| x = Q
        rw [← hw2]
        apply Nat.eq_of_testBit_eq
        intro p
        rw [Nat.testBit_or, adn_bit, adn_bit, adn_bit]
        cases Q.testBit p <;> cases (like ||| oth).testBit p <;> rfl
  have hl := half like oth (Or.inl ⟨rfl, rfl⟩)
  have ho := half oth like (Or.inr ⟨rfl, rfl⟩)
  unfold wyC at hl ho ⊢
  rw [ct_or (P1 := fun Q => wyB A B N S Q && (adn Q (adn Q (like ||| oth)) == like)) (P2 := fun Q => wyB A B N S Q && (adn Q (adn Q (like ||| oth)) == oth)) (2 ^ n) (fun Q hQ => ?_), hl, ho]
  · omega
  · have hpq : ∀ p, (adn Q (adn Q (like ||| oth))).testBit p = (Q.testBit p && (like ||| oth).testBit p) := fun p => by
      rw [adn_bit, adn_bit]
      cases Q.testBit p <;> cases (like ||| oth).testBit p <;> rfl
    constructor
    · cases c : wyB A B N S Q with
      | false => simp
      | true =>
        obtain ⟨w1, w2⟩ := wyB_iff.mp c
        obtain ⟨f1, f2⟩ := q4 S Q hS hv w2
        have : adn Q (adn Q (like ||| oth)) = like ∨ adn Q (adn Q (like ||| oth)) = oth := by
          cases cv : Q.testBit v with
          | true =>
            left
            apply Nat.eq_of_testBit_eq
            intro p
            rw [hpq, Nat.testBit_or]
            cases c1 : like.testBit p with
            | true => rw [f1 p c1, cv]; rfl
            | false =>
              cases c2 : oth.testBit p with
              | true => rw [f2 p c2, cv]; rfl
              | false => simp
          | false =>
            right
            apply Nat.eq_of_testBit_eq
            intro p
            rw [hpq, Nat.testBit_or]
            cases c1 : like.testBit p with
            | true =>
              rw [f1 p c1, cv]
              cases c2 : oth.testBit p with
              | true => exact absurd c2 (fun h => hd p c1 h)
              | false => rfl
            | false =>
              cases c2 : oth.testBit p with
              | true => rw [f2 p c2, cv]; rfl
              | false => simp
        rcases this with h | h <;> simp [h]
    · rintro ⟨h1, h2⟩
      simp only [Bool.and_eq_true, beq_iff_eq] at h1 h2
      have e : like = oth := h1.2.symm.trans h2.2
      exact hd v q1 (by rw [← e]; exact q1)
theorem wy_no {A B : Nat → Nat} {N n v like oth S : Nat} (hs : sides A B N v like oth) (hS : clsd A B N S) (hv : S.testBit v = true) (hdis : like &&& oth ≠ 0) : wyC A B N n S = 0 := by
  apply ct_none
  intro Q _
  cases c : wyB A B N S Q with
  | false => rfl
  | true =>
    exfalso
    obtain ⟨w1, w2⟩ := wyB_iff.mp c
    obtain ⟨f1, f2⟩ := hs.2.2.2 S Q hS hv w2
    apply hdis
    apply Nat.eq_of_testBit_eq
    intro p
    rw [Nat.testBit_and, Nat.zero_testBit]
    cases c1 : like.testBit p with
    | false => rfl
    | true =>
      cases c2 : oth.testBit p with
      | false => rfl
      | true =>
        have e1 := f1 p c1
        have e2 := f2 p c2
        rw [e1] at e2
        cases h : Q.testBit v <;> simp [h] at e2
theorem wy_0 (A B : Nat → Nat) (N n : Nat) : wyC A B N n 0 = 1 := by
  have h0 : wyB A B N 0 0 = true := wyB_iff.mpr ⟨fun i h => h, fun i _ h => by rw [Nat.zero_testBit] at h; cases h⟩
  have hk : ∀ k, 0 < k → wyB A B N 0 k = false := fun k hk => by
    cases c : wyB A B N 0 k with
    | false => rfl
    | true =>
      have := sub_le (wyB_iff.mp c).1
      omega
  have : ∀ m, ct (wyB A B N 0) (m + 1) = 1 := by
    intro m
    induction m with
    | zero => rw [ct_s, h0]; rfl
    | succ m ih => rw [ct_s, ih, hk (m + 1) (by omega)]; rfl
  have hp : 2 ^ n = 2 ^ n - 1 + 1 := by have := Nat.two_pow_pos n; omega
  unfold wyC
  rw [hp]
  exact this _
