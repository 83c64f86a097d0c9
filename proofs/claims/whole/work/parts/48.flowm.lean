/-! ===== pure: the model's search, item by item ===== -/
def arcM (le bo wt : Nat → Nat) (c : Nat → Bool) (m : Nat) (i u v : Nat) (g : Int) : Prop := i = u ∧ u < m ∧ v < m ∧ ((c u = false ∧ c v = true ∧ bo u = bo v ∧ g = 64 * (-(wt v : Int)) - 1) ∨ (c u = true ∧ c v = false ∧ le u = le v ∧ g = 64 * (wt v : Int) - 1))
def srtM (le bo wt : Nat → Nat) (c : Nat → Bool) (cap : Nat → Nat) (m : Nat) (v : Nat) (x : Int) : Prop := v < m ∧ c v = false ∧ cnv le bo c m (le v) < cap (le v) ∧ x = 64 * (wt v : Int)
def phM (le bo : Nat → Nat) (c : Nat → Bool) (φ : Nat → Int) : Nat → Int := fun i => 64 * (if c i = true then φ (le i) else φ (bo i))
def wOf (x : Int) : Int := (x + 63) / 64
theorem arcM_pot {le bo wt : Nat → Nat} {isL c : Nat → Bool} {cap : Nat → Nat} {m nv : Nat} {φ : Nat → Int} {tt : Int} (hI : fInv le bo wt isL c cap m nv φ tt) : ∀ i u v g, arcM le bo wt c m i u v g → phM le bo c φ u + g ≤ phM le bo c φ v := by
  rintro i u v g ⟨_, hu, hv, h⟩
  unfold phM
  rcases h with ⟨a, b, e, h⟩ | ⟨a, b, e, h⟩
  · have := hI.2.1 v hv b
    rw [a, b, e]
    simp only [if_true, Bool.false_eq_true, if_false]
    omega
  · have := hI.1 v hv b
    rw [a, b, e]
    simp only [if_true, Bool.false_eq_true, if_false]
    omega
theorem srtM_pot {le bo wt : Nat → Nat} {isL c : Nat → Bool} {cap : Nat → Nat} {m nv : Nat} {φ : Nat → Int} {tt : Int} (hg : gwf le bo wt isL m nv) (hI : fInv le bo wt isL c cap m nv φ tt) : ∀ v x, srtM le bo wt c cap m v x → x ≤ phM le bo c φ v := by
  rintro v x ⟨h1, h2, h3, h4⟩
  have g := hg v h1
  have := hI.1 v h1 h2
  have h5 := (hI.2.2.2.1 _ g.1 g.2.2.1).1 h3
  unfold phM
  rw [h2]
  simp only [Bool.false_eq_true, if_false]
  omega
theorem rM_bd {le bo wt : Nat → Nat} {isL c : Nat → Bool} {cap : Nat → Nat} {m nv : Nat} {φ : Nat → Int} {tt : Int} (hg : gwf le bo wt isL m nv) (hm : m ≤ 30) (hI : fInv le bo wt isL c cap m nv φ tt) (hφ : ∀ v, φ v ≤ 198) {R : Nat → Option Int} {V : Nat → Option Nat} (h : rI (arcM le bo wt c m) (srtM le bo wt c cap m) R V) : ∀ v x, R v = some x → v < m ∧ -400000 ≤ x ∧ x ≤ 12672 ∧ x ≤ phM le bo c φ v ∧ ∃ (k : Nat) (z : Int), k ≤ 29 ∧ x = 64 * z - k := by
  intro v x hx
  obtain ⟨k, f, t, w1, w2⟩ := h.1 v x hx
  have hk : k < m := swk_k (N := m) (fun u v g hh => hh.elim (fun i hi => ⟨hi.2.1, hi.2.2.1⟩)) (fun v x hs => hs.1) w1
  have hle := swk_le (φ := phM le bo c φ) (fun u v g hh => hh.elim (fun i hi => arcM_pot hI i u v g hi)) (srtM_pot hg hI) w1
  have hlo := swk_lo (G := 12673) (fun u v g hh => hh.elim (fun i hi => by
    have := hg v hi.2.2.1
    rcases hi.2.2.2 with ⟨_, _, _, b⟩ | ⟨_, _, _, b⟩ <;> omega)) (fun v x hs => by rw [hs.2.2.2]; omega) w1 k (Nat.le_refl k)
  have hmod : ∀ p, p ≤ k → ∃ z : Int, t p = 64 * z - p := by
    intro p
    induction p with
    | zero =>
      intro _
      exact ⟨wt (f 0), by rw [w1.1.2.2.2]; simp⟩
    | succ p ih =>
      intro hp
      obtain ⟨z, hz⟩ := ih (by omega)
      obtain ⟨i, hi⟩ := w1.2.2.1 p (by omega)
      rcases hi.2.2.2 with ⟨_, _, _, b⟩ | ⟨_, _, _, b⟩
      · exact ⟨z - wt (f (p + 1)), by push_cast; omega⟩
      · exact ⟨z + wt (f (p + 1)), by push_cast; omega⟩
  have hvm : v < m := by
    rw [← w1.2.1]
    cases k with
    | zero => exact w1.1.1
    | succ k =>
      obtain ⟨i, hi⟩ := w1.2.2.1 k (by omega)
      exact hi.2.2.1
  have hph : phM le bo c φ v ≤ 64 * 198 := by
    unfold phM
    have h1 := hφ (le v)
    have h2 := hφ (bo v)
    split <;> omega
  obtain ⟨z, hz⟩ := hmod k (Nat.le_refl k)
  rw [w2] at hle hlo hz
  refine ⟨hvm, ?_, by omega, hle, k, z, by omega, hz⟩
  have : (12673 : Int) * (k : Int) ≤ 12673 * 29 := by omega
  omega
/-- the best of those that are Q -/
def mxI (Q : Nat → Bool) (x : Nat → Option Int) : Nat → Option Int
  | 0 => none
  | n + 1 => match (if Q n = true then x n else none), mxI Q x n with
    | none, o => o
    | some a, none => some a
    | some a, some b => some (max a b)
theorem mxI_ge {Q : Nat → Bool} {x : Nat → Option Int} {i : Nat} {a : Int} (hq : Q i = true) (hx : x i = some a) : ∀ (n : Nat), i < n → ∃ b, mxI Q x n = some b ∧ a ≤ b
  | n + 1, h => by
    unfold mxI
    by_cases e : i = n
    · subst e
      rw [if_pos hq, hx]
      cases mxI Q x i with
      | none => exact ⟨a, rfl, Int.le_refl a⟩
      | some b => exact ⟨max a b, rfl, by omega⟩
    · obtain ⟨b, h1, h2⟩ := mxI_ge hq hx n (by omega)
      rw [h1]
      cases (if Q n = true then x n else none) with
      | none => exact ⟨b, rfl, h2⟩
      | some a' => exact ⟨max a' b, rfl, by omega⟩
theorem mxI_is {Q : Nat → Bool} {x : Nat → Option Int} : ∀ (n : Nat) (b : Int), mxI Q x n = some b → ∃ i, i < n ∧ Q i = true ∧ x i = some b
  | 0, b, h => by cases h
  | n + 1, b, h => by
    unfold mxI at h
    cases h1 : (if Q n = true then x n else none) with
    | none =>
      rw [h1] at h
      obtain ⟨i, a1, a2⟩ := mxI_is n b h
      exact ⟨i, by omega, a2⟩
    | some a =>
      have hq : Q n = true ∧ x n = some a := by
        by_cases c : Q n = true
        · rw [if_pos c] at h1; exact ⟨c, h1⟩
        · rw [if_neg c] at h1; cases h1
      rw [h1] at h
      cases h2 : mxI Q x n with
      | none =>
        rw [h2] at h
        cases h
        exact ⟨n, by omega, hq.1, hq.2⟩
      | some b' =>
        rw [h2] at h
        have h3 : max a b' = b := Option.some.inj h
        by_cases c : b' ≤ a
        · have : b = a := by omega
          subst this
          exact ⟨n, by omega, hq.1, hq.2⟩
        · have : b = b' := by omega
          subst this
          obtain ⟨i, a1, a2⟩ := mxI_is n b h2
          exact ⟨i, by omega, a2⟩
/-- the worth of coming to v, by the items' -/
def rV (le bo : Nat → Nat) (isL c : Nat → Bool) (cap : Nat → Nat) (m nv : Nat) (R : Nat → Option Int) : Nat → Option Int := fun v =>
  if v < nv ∧ isL v = true ∧ cnv le bo c m v < cap v then (match mxI (fun i => if c i = true then le i == v else bo i == v) (fun i => (R i).map wOf) m with | none => some 0 | some b => some (max b 0)) else mxI (fun i => if c i = true then le i == v else bo i == v) (fun i => (R i).map wOf) m
theorem rV_in {le bo : Nat → Nat} {isL c : Nat → Bool} {cap : Nat → Nat} {m nv : Nat} {R : Nat → Option Int} {i : Nat} {x : Int} {v : Nat} (hi : i < m) (hx : R i = some x) (hv : (if c i = true then le i else bo i) = v) : ∃ b, rV le bo isL c cap m nv R v = some b ∧ wOf x ≤ b := by
  obtain ⟨b, h1, h2⟩ := mxI_ge (Q := fun i => if c i = true then le i == v else bo i == v) (x := fun i => (R i).map wOf) (i := i) (a := wOf x) (by
    show (if c i = true then le i == v else bo i == v) = true
    rw [← hv]
    split <;> simp) (by show (R i).map wOf = _; rw [hx]; rfl) m hi
  unfold rV
  rw [h1]
  split
  · exact ⟨_, rfl, by omega⟩
  · exact ⟨b, rfl, h2⟩
theorem rV_st {le bo : Nat → Nat} {isL c : Nat → Bool} {cap : Nat → Nat} {m nv : Nat} {R : Nat → Option Int} {v : Nat} (h : v < nv ∧ isL v = true ∧ cnv le bo c m v < cap v) : ∃ b, rV le bo isL c cap m nv R v = some b ∧ 0 ≤ b := by
  unfold rV
  rw [if_pos h]
  cases mxI (fun i => if c i = true then le i == v else bo i == v) (fun i => (R i).map wOf) m with
  | none => exact ⟨0, rfl, Int.le_refl 0⟩
  | some b => exact ⟨max b 0, rfl, by omega⟩
theorem rV_is {le bo : Nat → Nat} {isL c : Nat → Bool} {cap : Nat → Nat} {m nv : Nat} {R : Nat → Option Int} {v : Nat} {a : Int} (h : rV le bo isL c cap m nv R v = some a) : (a = 0 ∧ v < nv ∧ isL v = true ∧ cnv le bo c m v < cap v) ∨ ∃ i x, i < m ∧ (if c i = true then le i else bo i) = v ∧ R i = some x ∧ a = wOf x := by
  have hb : ∀ b, mxI (fun i => if c i = true then le i == v else bo i == v) (fun i => (R i).map wOf) m = some b → ∃ i x, i < m ∧ (if c i = true then le i else bo i) = v ∧ R i = some x ∧ b = wOf x := by
    intro b hb
    obtain ⟨i, h1, h2, h3⟩ := mxI_is m b hb
    have h2' : (if c i = true then le i == v else bo i == v) = true := h2
    have h3' : (R i).map wOf = some b := h3
    cases hR : R i with
    | none => rw [hR] at h3'; cases h3'
    | some x =>
      rw [hR] at h3'
      refine ⟨i, x, h1, ?_, hR, (Option.some.inj h3').symm⟩
      by_cases c1 : c i = true
      · rw [if_pos c1] at h2' ⊢; exact eq_of_beq h2'
      · rw [if_neg c1] at h2' ⊢; exact eq_of_beq h2'
  unfold rV at h
  by_cases c0 : v < nv ∧ isL v = true ∧ cnv le bo c m v < cap v
  · rw [if_pos c0] at h
    cases h1 : mxI (fun i => if c i = true then le i == v else bo i == v) (fun i => (R i).map wOf) m with
    | none =>
      rw [h1] at h
      cases h
      exact Or.inl ⟨rfl, c0⟩
    | some b =>
      rw [h1] at h
      have h3 : max b 0 = a := Option.some.inj h
      by_cases c : 0 ≤ b
      · have : a = b := by omega
        subst this
        exact Or.inr (hb a h1)
      · exact Or.inl ⟨by omega, c0⟩
  · rw [if_neg c0] at h
    exact Or.inr (hb a h)
theorem path_exact {A : Nat → Nat → Int → Prop} {R : Nat → Option Int} (hok : ∀ u v g, A u v g → okA R u v g) {k : Nat} {f : Nat → Nat} {t : Nat → Int} (ha : ∀ p, p < k → A (f p) (f (p + 1)) (t (p + 1) - t p)) (hlo : ∀ p, p ≤ k → ∃ b, R (f p) = some b ∧ t p ≤ b) (hk : R (f k) = some (t k)) : ∀ j, j ≤ k → R (f (k - j)) = some (t (k - j))
  | 0, _ => hk
  | j + 1, hj => by
    have ih := path_exact hok ha hlo hk j (by omega)
    have e : k - j = k - (j + 1) + 1 := by omega
    rw [e] at ih
    obtain ⟨b, h1, h2⟩ := hlo (k - (j + 1)) (by omega)
    obtain ⟨b', h3, h4⟩ := hok _ _ _ (ha (k - (j + 1)) (by omega)) b h1
    rw [ih] at h3
    cases h3
    have : b = t (k - (j + 1)) := by omega
    rw [← this]; exact h1
/-- what holds at the end of the model's search -/
theorem rV_all {le bo wt : Nat → Nat} {isL c : Nat → Bool} {cap : Nat → Nat} {m nv : Nat} {φ : Nat → Int} {tt : Int} (hg : gwf le bo wt isL m nv) (hm : m ≤ 30) (hI : fInv le bo wt isL c cap m nv φ tt) (hφ : ∀ v, φ v ≤ 198) {R : Nat → Option Int} {V : Nat → Option Nat} (h : rI (arcM le bo wt c m) (srtM le bo wt c cap m) R V) (hok : ∀ i u v g, arcM le bo wt c m i u v g → okA R u v g) (hst : ∀ v x, srtM le bo wt c cap m v x → ∃ b, R v = some b ∧ x ≤ b) : (∀ i u v g, arcF le bo wt c m i u v g → okA (rV le bo isL c cap m nv R) u v g) ∧ (∀ v a, rV le bo isL c cap m nv R v = some a → a ≤ φ v) := by
  have hbd := rM_bd hg hm hI hφ h
  constructor
  · rintro i u v g ⟨hi, ha⟩ a hu
    have gi := hg i hi
    have fin : ∀ y, R i = some y → (if c i = true then le i else bo i) = v → a + g ≤ wOf y → ∃ b, rV le bo isL c cap m nv R v = some b ∧ a + g ≤ b := by
      intro y h1 h2 h3
      obtain ⟨b, e1, e2⟩ := rV_in (isL := isL) (cap := cap) (nv := nv) hi h1 h2
      exact ⟨b, e1, by omega⟩
    rcases ha with ⟨b1, b2, b3, b4⟩ | ⟨b1, b2, b3, b4⟩
    · rcases rV_is hu with ⟨e1, e2, e3, e4⟩ | ⟨j, x, j1, j2, j3, j4⟩
      · rw [b2] at e2 e4
        obtain ⟨b, h1, h2⟩ := hst i _ ⟨hi, b1, e4, rfl⟩
        refine fin b h1 (by rw [b1]; exact b3.symm) ?_
        unfold wOf; omega
      · have hcj : c j = true := by
          cases hc : c j with
          | true => rfl
          | false =>
            rw [hc] at j2
            simp only [Bool.false_eq_true, if_false] at j2
            have := (hg j j1).2.2.2.1
            rw [j2, b2, gi.2.2.1] at this; cases this
        rw [hcj] at j2
        simp only [if_true] at j2
        obtain ⟨b, h1, h2⟩ := hok j j i _ ⟨rfl, j1, hi, Or.inr ⟨hcj, b1, by rw [j2, b2], rfl⟩⟩ x j3
        obtain ⟨_, _, _, _, k, z, hk, hz⟩ := hbd j x j3
        refine fin b h1 (by rw [b1]; exact b3.symm) ?_
        unfold wOf at j4 ⊢; omega
    · rcases rV_is hu with ⟨e1, e2, e3, e4⟩ | ⟨j, x, j1, j2, j3, j4⟩
      · rw [b2, gi.2.2.2.1] at e3; cases e3
      · have hcj : c j = false := by
          cases hc : c j with
          | false => rfl
          | true =>
            rw [hc] at j2
            simp only [if_true] at j2
            have := (hg j j1).2.2.1
            rw [j2, b2, gi.2.2.2.1] at this; cases this
        rw [hcj] at j2
        simp only [Bool.false_eq_true, if_false] at j2
        obtain ⟨b, h1, h2⟩ := hok j j i _ ⟨rfl, j1, hi, Or.inl ⟨hcj, b1, by rw [j2, b2], rfl⟩⟩ x j3
        obtain ⟨_, _, _, _, k, z, hk, hz⟩ := hbd j x j3
        refine fin b h1 (by rw [b1]; exact b3.symm) ?_
        unfold wOf at j4 ⊢; omega
  · intro v a ha
    rcases rV_is ha with ⟨e1, e2, e3, e4⟩ | ⟨j, x, j1, j2, j3, j4⟩
    · rw [e1]; exact (hI.2.2.2.1 v e2 e3).1 e4
    · obtain ⟨_, _, _, hph, _⟩ := hbd j x j3
      unfold phM at hph
      rw [← j2, j4]
      unfold wOf
      by_cases hc : c j = true
      · rw [if_pos hc] at hph ⊢; omega
      · rw [if_neg hc] at hph ⊢; omega
/-- the model's best path -/
theorem mdl_step {le bo wt : Nat → Nat} {isL c : Nat → Bool} {cap : Nat → Nat} {m nv : Nat} {φ : Nat → Int} {tt : Int} (hg : gwf le bo wt isL m nv) (hm : m ≤ 30) (hI : fInv le bo wt isL c cap m nv φ tt) (hφ : ∀ v, φ v ≤ 198) {R : Nat → Option Int} {V : Nat → Option Nat} (h : rI (arcM le bo wt c m) (srtM le bo wt c cap m) R V) (hok : ∀ i u v g, arcM le bo wt c m i u v g → okA R u v g) (hst : ∀ v x, srtM le bo wt c cap m v x → ∃ b, R v = some b ∧ x ≤ b) {last : Nat} {x : Int} (hl : last < m) (hcl : c last = false) (hx : R last = some x) (hr : cnv le bo c m (bo last) < cap (bo last)) (hbest : ∀ i y, i < m → c i = false → R i = some y → cnv le bo c m (bo i) < cap (bo i) → wOf y ≤ wOf x) (hpos : 0 < wOf x) :
    ∃ (k : Nat) (f : Nat → Nat), k < 30 ∧ f k = last ∧ V (f 0) = none ∧ (∀ p, p < k → V (f (p + 1)) = some (f p)) ∧ (∀ p, p ≤ k → f p < m) ∧ (∀ p q, p < q → q ≤ k → f p ≠ f q) ∧ ∃ φ', fInv le bo wt isL (tgl c f 0 (k + 1)) cap m nv φ' (wOf x) ∧ (∀ v, φ' v ≤ 198) ∧ (wsm wt (tgl c f 0 (k + 1)) m : Int) = wsm wt c m + wOf x ∧ ct (tgl c f 0 (k + 1)) m = ct c m + 1 := by
  have hbd := rM_bd hg hm hI hφ h
  obtain ⟨hokV, hleV⟩ := rV_all hg hm hI hφ h hok hst
  obtain ⟨hW, tm, now, hvia⟩ := h
  obtain ⟨k, f, t, e, w1, w2, w3, w4, w5, w6, w7⟩ := via_path hvia hok (tm last + 1) last x (by omega) hx
  have hfm : ∀ p, p ≤ k → f p < m := fun p hp => (hbd _ _ (w6 p hp)).1
  have hfd : ∀ p q, p < q → q ≤ k → f p ≠ f q := fun p q hpq hqk y => by
    have := w7 p q hpq hqk
    rw [y] at this; omega
  have hk : k + 1 ≤ m := pz_pigeon m (k + 1) f (fun p hp => hfm p (by omega)) (fun p q hpq hq => hfd p q hpq (by omega))
  have hep : ∀ p, p < k → e p = f p := fun p hp => (w5 p hp).1.1
  have hmod : ∀ p, p ≤ k → ∃ z : Int, t p = 64 * z - p := by
    intro p
    induction p with
    | zero =>
      intro _
      exact ⟨wt (f 0), by rw [w3.2.2.2]; simp⟩
    | succ p ih =>
      intro hp
      obtain ⟨z, hz⟩ := ih (by omega)
      rcases (w5 p (by omega)).1.2.2.2 with ⟨_, _, _, b⟩ | ⟨_, _, _, b⟩
      · exact ⟨z - wt (f (p + 1)), by push_cast; omega⟩
      · exact ⟨z + wt (f (p + 1)), by push_cast; omega⟩
  have hwO : ∀ p, p ≤ k → t p = 64 * wOf (t p) - p := by
    intro p hp
    obtain ⟨z, hz⟩ := hmod p hp
    unfold wOf; omega
  -- corners and worths
  have hF : ∃ (F : Nat → Nat) (W : Nat → Int), F 0 = le (f 0) ∧ (∀ p, F (p + 1) = if c (f p) = true then le (f p) else bo (f p)) ∧ W 0 = 0 ∧ ∀ p, W (p + 1) = wOf (t p) := ⟨fun p => match p with | 0 => le (f 0) | p + 1 => if c (f p) = true then le (f p) else bo (f p), fun p => match p with | 0 => 0 | p + 1 => wOf (t p), rfl, fun _ => rfl, rfl, fun _ => rfl⟩
  obtain ⟨F, W, hF0, hF1, hW0, hW1⟩ := hF
  have harc : ∀ p, p < k + 1 → arcF le bo wt c m (f p) (F p) (F (p + 1)) (W (p + 1) - W p) := by
    intro p hp
    refine ⟨hfm p (by omega), ?_⟩
    rw [hF1 p, hW1 p]
    cases p with
    | zero =>
      have hc0 : c (f 0) = false := w3.2.1
      left
      rw [hF0, hW0, hc0]
      refine ⟨rfl, rfl, rfl, ?_⟩
      have := hwO 0 (by omega)
      rw [w3.2.2.2] at this ⊢
      omega
    | succ p =>
      have hs := (w5 p (by omega)).1
      have h1 := hwO p (by omega)
      have h2 := hwO (p + 1) (by omega)
      rw [hF1 p, hW1 p]
      rcases hs.2.2.2 with ⟨b1, b2, b3, b4⟩ | ⟨b1, b2, b3, b4⟩
      · right
        rw [b1, b2]
        simp only [if_true, Bool.false_eq_true, if_false]
        exact ⟨trivial, b3, trivial, by push_cast at h2; omega⟩
      · left
        rw [b1, b2]
        simp only [if_true, Bool.false_eq_true, if_false]
        exact ⟨trivial, b3, trivial, by push_cast at h2; omega⟩
  have hL0 : isL (F 0) = true := by rw [hF0]; exact (hg _ (hfm 0 (by omega))).2.2.1
  have hFk : F (k + 1) = bo last := by rw [hF1 k, w1, hcl]; rfl
  have hLk : isL (F (k + 1)) = false := by rw [hFk]; exact (hg _ hl).2.2.2.1
  have hWk : W (k + 1) = wOf x := by rw [hW1 k, w2]
  have hn0 : F 0 < nv := by rw [hF0]; exact (hg _ (hfm 0 (by omega))).1
  have hnk : F (k + 1) < nv := by rw [hFk]; exact (hg _ hl).2.1
  have hD : ∀ v a, v < nv → isL v = false → cnv le bo c m v < cap v → rV le bo isL c cap m nv R v = some a → a ≤ wOf x := by
    intro v a hv hL hr' ha
    rcases rV_is ha with ⟨_, _, e3, _⟩ | ⟨j, y, j1, j2, j3, j4⟩
    · rw [hL] at e3; cases e3
    · have hcj : c j = false := by
        cases hc : c j with
        | false => rfl
        | true =>
          rw [hc] at j2
          simp only [if_true] at j2
          have := (hg j j1).2.2.1
          rw [j2, hL] at this; cases this
      rw [hcj] at j2
      simp only [Bool.false_eq_true, if_false] at j2
      rw [j4]
      exact hbest j y j1 hcj j3 (by rw [j2]; exact hr')
  have hlo : ∀ p, p ≤ k + 1 → ∃ b, rV le bo isL c cap m nv R (F p) = some b ∧ W p ≤ b := by
    intro p hp
    cases p with
    | zero =>
      rw [hW0]
      exact rV_st ⟨hn0, hL0, by rw [hF0]; exact w3.2.2.1⟩
    | succ p =>
      rw [hW1 p]
      exact rV_in (hfm p (by omega)) (w6 p (by omega)) (hF1 p).symm
  have hRk : rV le bo isL c cap m nv R (F (k + 1)) = some (W (k + 1)) := by
    obtain ⟨b, b1, b2⟩ := hlo (k + 1) (Nat.le_refl _)
    have := hD _ b hnk hLk (by rw [hFk]; exact hr) b1
    rw [hWk] at b2 ⊢
    rw [b1, show b = wOf x from by omega]
  have hex : ∀ p, p ≤ k + 1 → rV le bo isL c cap m nv R (F p) = some (W p) := by
    intro p hp
    have := path_exact (A := fun u v g => ∃ i, arcF le bo wt c m i u v g) (R := rV le bo isL c cap m nv R) (fun u v g hh => hh.elim (fun i hi => hokV i u v g hi)) (k := k + 1) (f := F) (t := W) (fun p hp => ⟨f p, harc p hp⟩) hlo hRk (k + 1 - p) (by omega)
    rw [show k + 1 - (k + 1 - p) = p from by omega] at this
    exact this
  have hst2 : ∀ v, v < nv → isL v = true → cnv le bo c m v < cap v → ∃ b, rV le bo isL c cap m nv R v = some b ∧ 0 ≤ b := fun v h1 h2 h3 => rV_st ⟨h1, h2, h3⟩
  obtain ⟨n1, n2, n3, n4⟩ := fInv_step hg hI (rV le bo isL c cap m nv R) hokV hleV hst2 (D := wOf x) hD harc (fun p q hpq hq => hfd p q hpq (by omega)) hL0 hLk hW0 hWk hex hn0 hnk (by rw [hF0]; exact w3.2.2.1) (by rw [hFk]; exact hr)
  have hcnt := path_cnt hg harc (fun p q hpq hq => hfd p q hpq (by omega)) hL0 (k + 1) (Nat.le_refl _)
  rw [hLk] at hcnt
  refine ⟨k, f, by omega, w1, w4, fun p hp => ?_, hfm, hfd, _, n1, fun v => Int.le_trans (upP_le (hleV v) (by omega)) (hφ v), n2, by simpa using hcnt⟩
  rw [(w5 p hp).2, hep p hp]
theorem mdl_stop {le bo wt : Nat → Nat} {isL c : Nat → Bool} {cap : Nat → Nat} {m nv : Nat} {φ : Nat → Int} {tt : Int} (hg : gwf le bo wt isL m nv) (hm : m ≤ 30) (hI : fInv le bo wt isL c cap m nv φ tt) (ht : 0 ≤ tt) (hφ : ∀ v, φ v ≤ 198) {R : Nat → Option Int} {V : Nat → Option Nat} (h : rI (arcM le bo wt c m) (srtM le bo wt c cap m) R V) (hok : ∀ i u v g, arcM le bo wt c m i u v g → okA R u v g) (hst : ∀ v x, srtM le bo wt c cap m v x → ∃ b, R v = some b ∧ x ≤ b) (hbest : ∀ i y, i < m → c i = false → R i = some y → cnv le bo c m (bo i) < cap (bo i) → wOf y ≤ 0) : optN le bo wt m cap = wsm wt c m := by
  obtain ⟨hokV, hleV⟩ := rV_all hg hm hI hφ h hok hst
  refine fInv_stop hg hI ht (rV le bo isL c cap m nv R) hokV hleV (fun v h1 h2 h3 => rV_st ⟨h1, h2, h3⟩) ?_
  intro v a hv hL hr' ha
  rcases rV_is ha with ⟨_, _, e3, _⟩ | ⟨j, y, j1, j2, j3, j4⟩
  · rw [hL] at e3; cases e3
  · have hcj : c j = false := by
      cases hc : c j with
      | false => rfl
      | true =>
        rw [hc] at j2
        simp only [if_true] at j2
        have := (hg j j1).2.2.1
        rw [j2, hL] at this; cases this
    rw [hcj] at j2
    simp only [Bool.false_eq_true, if_false] at j2
    rw [j4]
    exact hbest j y j1 hcj j3 (by rw [j2]; exact hr')
