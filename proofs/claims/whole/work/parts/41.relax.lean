/-! ===== pure: best walks by relaxing arcs, over potentials ===== -/
/-- R is worse or as good everywhere -/
def leR (R R' : Nat → Option Int) : Prop := ∀ v b, R v = some b → ∃ b', R' v = some b' ∧ b ≤ b'
theorem leR.refl (R : Nat → Option Int) : leR R R := fun _ b h => ⟨b, h, Int.le_refl b⟩
theorem leR.trans {R R' R2 : Nat → Option Int} (h : leR R R') (h2 : leR R' R2) : leR R R2 := fun v b hb => by
  obtain ⟨b1, e1, l1⟩ := h v b hb
  obtain ⟨b2, e2, l2⟩ := h2 v b1 e1
  exact ⟨b2, e2, by omega⟩
def rset (R : Nat → Option Int) (v : Nat) (x : Int) : Nat → Option Int := fun w => if w = v then some x else R w
theorem rset_s {R : Nat → Option Int} {v : Nat} {x : Int} : rset R v x v = some x := by simp [rset]
theorem rset_o {R : Nat → Option Int} {v w : Nat} {x : Int} (h : w ≠ v) : rset R v x w = R w := by simp [rset, h]
theorem leR_set {R : Nat → Option Int} {v : Nat} {x : Int} (h : ∀ b, R v = some b → b < x) : leR R (rset R v x) := fun w b hb => by
  by_cases e : w = v
  · subst e
    exact ⟨x, rset_s, by have := h b hb; omega⟩
  · exact ⟨b, by rw [rset_o e]; exact hb, Int.le_refl b⟩
/-- the arc is served -/
def okA (R : Nat → Option Int) (u v : Nat) (g : Int) : Prop := ∀ a, R u = some a → ∃ b, R v = some b ∧ a + g ≤ b
/-- a walk of k arcs to v that comes nowhere twice, and R is no worse along it -/
def swk (A : Nat → Nat → Int → Prop) (S : Nat → Int → Prop) (R : Nat → Option Int) (k : Nat) (f : Nat → Nat) (t : Nat → Int) (v : Nat) : Prop :=
  S (f 0) (t 0) ∧ f k = v ∧ (∀ p, p < k → A (f p) (f (p + 1)) (t (p + 1) - t p)) ∧ (∀ p q, p < q → q ≤ k → f p ≠ f q) ∧ ∀ p, p ≤ k → ∃ b, R (f p) = some b ∧ t p ≤ b
def HWk (A : Nat → Nat → Int → Prop) (S : Nat → Int → Prop) (R : Nat → Option Int) : Prop := ∀ v x, R v = some x → ∃ k f t, swk A S R k f t v ∧ t k = x
theorem swk.up {A : Nat → Nat → Int → Prop} {S : Nat → Int → Prop} {R R' : Nat → Option Int} {k : Nat} {f : Nat → Nat} {t : Nat → Int} {v : Nat} (h : swk A S R k f t v) (hl : leR R R') : swk A S R' k f t v := by
  obtain ⟨h1, h3, h4, h5, h6⟩ := h
  refine ⟨h1, h3, h4, h5, fun p hp => ?_⟩
  obtain ⟨b, e, l⟩ := h6 p hp
  obtain ⟨b', e', l'⟩ := hl _ b e
  exact ⟨b', e', by omega⟩
theorem swk_pot {A : Nat → Nat → Int → Prop} {φ : Nat → Int} (hφ : ∀ u v g, A u v g → φ u + g ≤ φ v) {k : Nat} {f : Nat → Nat} {t : Nat → Int} (h : ∀ p, p < k → A (f p) (f (p + 1)) (t (p + 1) - t p)) (p : Nat) : ∀ d, p + d ≤ k → t (p + d) - t p ≤ φ (f (p + d)) - φ (f p)
  | 0, _ => by simp
  | d + 1, hd => by
    have ih := swk_pot hφ h p d (by omega)
    have h1 := hφ _ _ _ (h (p + d) (by omega))
    have e : p + (d + 1) = p + d + 1 := by omega
    rw [e]
    omega
theorem swk_le {A : Nat → Nat → Int → Prop} {S : Nat → Int → Prop} {R : Nat → Option Int} {φ : Nat → Int} (hφ : ∀ u v g, A u v g → φ u + g ≤ φ v) (hS : ∀ v x, S v x → x ≤ φ v) {k : Nat} {f : Nat → Nat} {t : Nat → Int} {v : Nat} (h : swk A S R k f t v) : t k ≤ φ v := by
  obtain ⟨h1, h3, h4, h5, h6⟩ := h
  have := swk_pot hφ h4 0 k (by omega)
  have h0 := hS _ _ h1
  rw [Nat.zero_add] at this
  rw [← h3]
  omega
theorem swk_k {A : Nat → Nat → Int → Prop} {S : Nat → Int → Prop} {R : Nat → Option Int} {N : Nat} (hN : ∀ u v g, A u v g → u < N ∧ v < N) (hSN : ∀ v x, S v x → v < N) {k : Nat} {f : Nat → Nat} {t : Nat → Int} {v : Nat} (h : swk A S R k f t v) : k < N := by
  obtain ⟨h1, h3, h4, h5, h6⟩ := h
  have h7 : k + 1 ≤ N := pz_pigeon N (k + 1) f (fun p hp => by
    cases p with
    | zero => exact hSN _ _ h1
    | succ p => exact (hN _ _ _ (h4 p (by omega))).2) (fun p q hpq hq => h5 p q hpq (by omega))
  omega
/-- one more arc, where it betters: the walk still comes nowhere twice -/
theorem swk_ext {A : Nat → Nat → Int → Prop} {S : Nat → Int → Prop} {R : Nat → Option Int} {φ : Nat → Int} (hφ : ∀ u v g, A u v g → φ u + g ≤ φ v) {k : Nat} {f : Nat → Nat} {t : Nat → Int} {u v : Nat} {g : Int} (h : swk A S R k f t u) (ha : A u v g) (hb : ∀ b, R v = some b → b < t k + g) :
    swk A S (rset R v (t k + g)) (k + 1) (fun p => if p ≤ k then f p else v) (fun p => if p ≤ k then t p else t k + g) v := by
  have hup := h.up (leR_set hb)
  obtain ⟨h1, h3, h4, h5, h6⟩ := h
  have hne : ∀ p, p ≤ k → f p ≠ v := fun p hp e => by
    obtain ⟨b, e1, l1⟩ := h6 p hp
    rw [e] at e1
    have l2 := hb b e1
    have l3 := swk_pot hφ h4 p (k - p) (by omega)
    rw [show p + (k - p) = k from by omega, h3, e] at l3
    have l4 := hφ _ _ _ ha
    omega
  refine ⟨?_, ?_, fun p hp => ?_, fun p q hpq hq => ?_, fun p hp => ?_⟩
  · show S (if 0 ≤ k then f 0 else v) (if 0 ≤ k then t 0 else t k + g)
    rw [if_pos (Nat.zero_le k), if_pos (Nat.zero_le k)]; exact h1
  · show (if k + 1 ≤ k then f (k + 1) else v) = v
    rw [if_neg (by omega)]
  · show A (if p ≤ k then f p else v) (if p + 1 ≤ k then f (p + 1) else v) ((if p + 1 ≤ k then t (p + 1) else t k + g) - (if p ≤ k then t p else t k + g))
    rw [if_pos (show p ≤ k by omega), if_pos (show p ≤ k by omega)]
    by_cases c : p + 1 ≤ k
    · rw [if_pos c, if_pos c]
      exact h4 p (by omega)
    · have e : p = k := by omega
      subst e
      rw [if_neg c, if_neg c, h3, show t p + g - t p = g from by omega]
      exact ha
  · show (if p ≤ k then f p else v) ≠ (if q ≤ k then f q else v)
    rw [if_pos (show p ≤ k by omega)]
    by_cases c : q ≤ k
    · rw [if_pos c]; exact h5 p q hpq c
    · rw [if_neg c]; exact hne p (by omega)
  · show ∃ b, rset R v (t k + g) (if p ≤ k then f p else v) = some b ∧ (if p ≤ k then t p else t k + g) ≤ b
    by_cases c : p ≤ k
    · rw [if_pos c, if_pos c]
      exact hup.2.2.2.2 p c
    · rw [if_neg c, if_neg c]
      exact ⟨_, rset_s, Int.le_refl _⟩
theorem HWk_set {A : Nat → Nat → Int → Prop} {S : Nat → Int → Prop} {R : Nat → Option Int} {φ : Nat → Int} (hφ : ∀ u v g, A u v g → φ u + g ≤ φ v) (hW : HWk A S R) {u v : Nat} {g a : Int} (ha : A u v g) (hu : R u = some a) (hb : ∀ b, R v = some b → b < a + g) : HWk A S (rset R v (a + g)) := by
  intro w x hx
  by_cases e : w = v
  · subst e
    rw [rset_s] at hx
    obtain ⟨k, f, t, h1, h2⟩ := hW u a hu
    subst h2
    refine ⟨k + 1, _, _, swk_ext hφ h1 ha hb, ?_⟩
    show (if k + 1 ≤ k then t (k + 1) else t k + g) = x
    rw [if_neg (by omega)]
    exact Option.some.inj hx
  · rw [rset_o e] at hx
    obtain ⟨k, f, t, h1, h2⟩ := hW w x hx
    exact ⟨k, f, t, h1.up (leR_set hb), h2⟩
/-- walks of k arcs -/
def Wlk (A : Nat → Nat → Int → Prop) (S : Nat → Int → Prop) : Nat → Nat → Int → Prop
  | 0, v, x => S v x
  | k + 1, v, x => ∃ u g, A u v g ∧ Wlk A S k u (x - g)
theorem swk_W {A : Nat → Nat → Int → Prop} {S : Nat → Int → Prop} {R : Nat → Option Int} {k : Nat} {f : Nat → Nat} {t : Nat → Int} {v : Nat} (h : swk A S R k f t v) : ∀ p, p ≤ k → Wlk A S p (f p) (t p)
  | 0, _ => h.1
  | p + 1, hp => ⟨f p, t (p + 1) - t p, h.2.2.1 p (by omega), by
    rw [show t (p + 1) - (t (p + 1) - t p) = t p from by omega]
    exact swk_W h p (by omega)⟩
def domR (A : Nat → Nat → Int → Prop) (S : Nat → Int → Prop) (k : Nat) (R : Nat → Option Int) : Prop := ∀ k', k' ≤ k → ∀ v x, Wlk A S k' v x → ∃ b, R v = some b ∧ x ≤ b
theorem domR_up {A : Nat → Nat → Int → Prop} {S : Nat → Int → Prop} {k : Nat} {R R' : Nat → Option Int} (h : domR A S k R) (hl : leR R R') : domR A S k R' := fun k' hk v x hx => by
  obtain ⟨b, e, l⟩ := h k' hk v x hx
  obtain ⟨b', e', l'⟩ := hl v b e
  exact ⟨b', e', by omega⟩
theorem domR_pass {A : Nat → Nat → Int → Prop} {S : Nat → Int → Prop} {k : Nat} {R R' : Nat → Option Int} (h : domR A S k R) (hl : leR R R') (hp : ∀ u v g, A u v g → ∀ a, R u = some a → ∃ b, R' v = some b ∧ a + g ≤ b) : domR A S (k + 1) R' := fun k' hk v x hx => by
  by_cases c : k' ≤ k
  · exact domR_up h hl k' c v x hx
  · have e : k' = k + 1 := by omega
    subst e
    obtain ⟨u, g, ha, hw⟩ := hx
    obtain ⟨b, e, l⟩ := h k (Nat.le_refl k) u _ hw
    obtain ⟨b', e', l'⟩ := hp u v g ha b e
    exact ⟨b', e', by omega⟩
/-- after N - 1 passes nothing betters -/
theorem relax_end {A : Nat → Nat → Int → Prop} {S : Nat → Int → Prop} {R0 R : Nat → Option Int} {φ : Nat → Int} {N k : Nat} (hφ : ∀ u v g, A u v g → φ u + g ≤ φ v) (hN : ∀ u v g, A u v g → u < N ∧ v < N) (hSN : ∀ v x, S v x → v < N) (hk : N ≤ k + 1) (hd : domR A S k R0) (hl : leR R0 R) (hW : HWk A S R) {u v : Nat} {g : Int} (ha : A u v g) : okA R u v g := by
  intro a hu
  cases hv : R v with
  | none =>
    exfalso
    obtain ⟨j, f, t, h1, h2⟩ := hW u a hu
    have h3 := swk_ext hφ h1 ha (fun b hb => by rw [hv] at hb; cases hb)
    have h4 := swk_k hN hSN h3
    have h5 := swk_W h3 (j + 1) (Nat.le_refl _)
    have h6 : (if j + 1 ≤ j then f (j + 1) else v) = v := if_neg (by omega)
    simp only [h6] at h5
    obtain ⟨b, e, l⟩ := hd (j + 1) (by omega) v _ h5
    obtain ⟨b', e', l'⟩ := hl v b e
    rw [hv] at e'; cases e'
  | some b =>
    refine ⟨b, rfl, ?_⟩
    apply Int.not_lt.mp
    intro hlt
    obtain ⟨j, f, t, h1, h2⟩ := hW u a hu
    have h3 := swk_ext hφ h1 ha (fun b' hb => by rw [hv] at hb; cases hb; rw [h2]; exact hlt)
    have h4 := swk_k hN hSN h3
    have h5 := swk_W h3 (j + 1) (Nat.le_refl _)
    have h6 : (if j + 1 ≤ j then f (j + 1) else v) = v := if_neg (by omega)
    simp only [h6] at h5
    obtain ⟨b1, e, l⟩ := hd (j + 1) (by omega) v _ h5
    obtain ⟨b', e', l'⟩ := hl v b1 e
    rw [hv] at e'
    cases e'
    have h7 : (if j + 1 ≤ j then t (j + 1) else t j + g) = t j + g := if_neg (by omega)
    rw [h7] at l
    omega
/-- by whom the value came, and when -/
def viaI (A : Nat → Nat → Nat → Int → Prop) (S : Nat → Int → Prop) (R : Nat → Option Int) (V : Nat → Option Nat) (tm : Nat → Nat) (now : Nat) : Prop :=
  ∀ v, tm v < now ∧ (V v = none → R v = none ∨ ∃ x, S v x ∧ R v = some x) ∧ ∀ i, V v = some i → ∃ u g a b, A i u v g ∧ R u = some a ∧ R v = some b ∧ b ≤ a + g ∧ (tm u < tm v ∨ b < a + g)
theorem viaI_set {A : Nat → Nat → Nat → Int → Prop} {S : Nat → Int → Prop} {R : Nat → Option Int} {V : Nat → Option Nat} {tm : Nat → Nat} {now : Nat} (h : viaI A S R V tm now) {i u v : Nat} {g a : Int} (ha : A i u v g) (hu : R u = some a) (hne : u ≠ v) (hb : ∀ b, R v = some b → b < a + g) :
    viaI A S (rset R v (a + g)) (fun w => if w = v then some i else V w) (fun w => if w = v then now else tm w) (now + 1) := by
  intro w
  have hw := h w
  by_cases e : w = v
  · subst e
    refine ⟨by simp, fun hn => by simp at hn, fun j hj => ?_⟩
    simp only [if_true, Option.some.injEq] at hj
    subst hj
    exact ⟨u, g, a, a + g, ha, by rw [rset_o hne]; exact hu, rset_s, Int.le_refl _, Or.inl (by
      show (if u = w then now else tm u) < (if w = w then now else tm w)
      rw [if_neg hne, if_pos rfl]; exact (h u).1)⟩
  · refine ⟨by simp only [e, if_false]; omega, fun hn => ?_, fun j hj => ?_⟩
    · simp only [e, if_false] at hn
      rw [rset_o e]
      exact hw.2.1 hn
    · simp only [e, if_false] at hj
      obtain ⟨u', g', a', b', q1, q2, q3, q4, q5⟩ := hw.2.2 j hj
      by_cases e2 : u' = v
      · subst e2
        have := hb a' q2
        exact ⟨u', g', a + g, b', q1, rset_s, by rw [rset_o e]; exact q3, by omega, Or.inr (by omega)⟩
      · refine ⟨u', g', a', b', q1, by rw [rset_o e2]; exact q2, by rw [rset_o e]; exact q3, q4, q5.imp (fun q => ?_) id⟩
        show (if u' = v then now else tm u') < (if w = v then now else tm w)
        rw [if_neg e2, if_neg e]; exact q
theorem swk_lo {A : Nat → Nat → Int → Prop} {S : Nat → Int → Prop} {R : Nat → Option Int} {G : Int} (hG : ∀ u v g, A u v g → -G ≤ g) (hS : ∀ v x, S v x → 0 ≤ x) {k : Nat} {f : Nat → Nat} {t : Nat → Int} {v : Nat} (h : swk A S R k f t v) : ∀ p, p ≤ k → - (G * p) ≤ t p
  | 0, _ => by have := hS _ _ h.1; simpa using this
  | p + 1, hp => by
    have ih := swk_lo hG hS h p (by omega)
    have h1 := hG _ _ _ (h.2.2.1 p (by omega))
    have e : G * ((p + 1 : Nat) : Int) = G * (p : Int) + G := by
      rw [show ((p + 1 : Nat) : Int) = (p : Int) + 1 from by omega, Int.mul_add, Int.mul_one]
    rw [e]
    omega
/-- what the loops keep: walks behind the values, and by whom they came -/
def rI (A : Nat → Nat → Nat → Int → Prop) (S : Nat → Int → Prop) (R : Nat → Option Int) (V : Nat → Option Nat) : Prop := HWk (fun u v g => ∃ i, A i u v g) S R ∧ ∃ tm now, viaI A S R V tm now
theorem rI_set {A : Nat → Nat → Nat → Int → Prop} {S : Nat → Int → Prop} {R : Nat → Option Int} {V : Nat → Option Nat} {φ : Nat → Int} (hφ : ∀ i u v g, A i u v g → φ u + g ≤ φ v) (h : rI A S R V) {i u v : Nat} {g a : Int} (ha : A i u v g) (hu : R u = some a) (hne : u ≠ v) (hb : ∀ b, R v = some b → b < a + g) : rI A S (rset R v (a + g)) (fun w => if w = v then some i else V w) := by
  obtain ⟨h1, tm, now, h2⟩ := h
  exact ⟨HWk_set (φ := φ) (fun u v g hh => hh.elim (fun i hi => hφ i u v g hi)) h1 ⟨i, ha⟩ hu hb, _, _, viaI_set h2 ha hu hne hb⟩
theorem okA_set {R : Nat → Option Int} {u v : Nat} {g a : Int} (hu : R u = some a) (hne : u ≠ v) : okA (rset R v (a + g)) u v g := by
  intro a' h
  rw [rset_o hne, hu] at h
  cases h
  exact ⟨_, rset_s, Int.le_refl _⟩
theorem okA_no {R : Nat → Option Int} {u v : Nat} {g : Int} (h : ∀ a, R u = some a → ∃ b, R v = some b ∧ ¬ b < a + g) : okA R u v g := by
  intro a ha
  obtain ⟨b, e, l⟩ := h a ha
  exact ⟨b, e, by omega⟩
theorem okA_le {R0 R R' : Nat → Option Int} {u v : Nat} {g : Int} (h0 : leR R0 R) (h : okA R u v g) (h1 : leR R R') : ∀ a, R0 u = some a → ∃ b, R' v = some b ∧ a + g ≤ b := by
  intro a ha
  obtain ⟨a', e, l⟩ := h0 u a ha
  obtain ⟨b, e2, l2⟩ := h a' e
  obtain ⟨b', e3, l3⟩ := h1 v b e2
  exact ⟨b', e3, by omega⟩
/-- the way back from v along V -/
theorem via_path {A : Nat → Nat → Nat → Int → Prop} {S : Nat → Int → Prop} {R : Nat → Option Int} {V : Nat → Option Nat} {tm : Nat → Nat} {now : Nat} (h : viaI A S R V tm now) (hok : ∀ i u v g, A i u v g → okA R u v g) : ∀ (n v : Nat) (b : Int), tm v < n → R v = some b → ∃ (k : Nat) (f : Nat → Nat) (t : Nat → Int) (e : Nat → Nat), f k = v ∧ t k = b ∧ S (f 0) (t 0) ∧ V (f 0) = none ∧ (∀ p, p < k → A (e p) (f p) (f (p + 1)) (t (p + 1) - t p) ∧ V (f (p + 1)) = some (e p)) ∧ (∀ p, p ≤ k → R (f p) = some (t p)) ∧ ∀ p q, p < q → q ≤ k → tm (f p) < tm (f q)
  | 0, v, b, hn, _ => by omega
  | n + 1, v, b, hn, hv => by
    cases hV : V v with
    | none =>
      rcases (h v).2.1 hV with h1 | ⟨x, h1, h2⟩
      · rw [h1] at hv; cases hv
      · rw [h2] at hv; cases hv
        exact ⟨0, fun _ => v, fun _ => b, fun _ => 0, rfl, rfl, h1, hV, fun p hp => by omega, fun p _ => h2, fun p q hpq hq => by omega⟩
    | some i =>
      obtain ⟨u, g, a, b', q1, q2, q3, q4, q5⟩ := (h v).2.2 i hV
      rw [hv] at q3; cases q3
      obtain ⟨b2, e2, l2⟩ := hok i u v g q1 a q2
      rw [hv] at e2; cases e2
      have htm : tm u < tm v := by
        rcases q5 with q5 | q5
        · exact q5
        · omega
      obtain ⟨k, f, t, e, w1, w2, w3, w4, w5, w6, w7⟩ := via_path h hok n u a (by omega) q2
      have hk0 : ∀ p, p ≤ k → (if p ≤ k then f p else v) = f p := fun p hp => if_pos hp
      have hk1 : (if k + 1 ≤ k then f (k + 1) else v) = v := if_neg (by omega)
      have ht0 : ∀ p, p ≤ k → (if p ≤ k then t p else b) = t p := fun p hp => if_pos hp
      have ht1 : (if k + 1 ≤ k then t (k + 1) else b) = b := if_neg (by omega)
      refine ⟨k + 1, fun p => if p ≤ k then f p else v, fun p => if p ≤ k then t p else b, fun p => if p < k then e p else i, hk1, ht1, ?_, ?_, fun p hp => ?_, fun p hp => ?_, fun p q hpq hq => ?_⟩
      · show S (if 0 ≤ k then f 0 else v) (if 0 ≤ k then t 0 else b)
        rw [hk0 0 (by omega), ht0 0 (by omega)]; exact w3
      · show V (if 0 ≤ k then f 0 else v) = none
        rw [hk0 0 (by omega)]; exact w4
      · show A (if p < k then e p else i) (if p ≤ k then f p else v) (if p + 1 ≤ k then f (p + 1) else v) ((if p + 1 ≤ k then t (p + 1) else b) - (if p ≤ k then t p else b)) ∧ V (if p + 1 ≤ k then f (p + 1) else v) = some (if p < k then e p else i)
        by_cases c : p < k
        · rw [if_pos c, hk0 p (by omega), hk0 (p + 1) (by omega), ht0 p (by omega), ht0 (p + 1) (by omega)]
          exact w5 p c
        · have ep : p = k := by omega
          subst ep
          rw [if_neg c, hk0 p (by omega), hk1, ht0 p (by omega), ht1, w1, w2]
          refine ⟨?_, hV⟩
          rw [show b - a = g from by omega]; exact q1
      · show R (if p ≤ k then f p else v) = some (if p ≤ k then t p else b)
        by_cases c : p ≤ k
        · rw [hk0 p c, ht0 p c]; exact w6 p c
        · rw [if_neg c, if_neg c]; exact hv
      · show tm (if p ≤ k then f p else v) < tm (if q ≤ k then f q else v)
        rw [hk0 p (by omega)]
        by_cases c : q ≤ k
        · rw [hk0 q c]; exact w7 p q hpq c
        · rw [if_neg c]
          by_cases c2 : p = k
          · subst c2; rw [w1]; exact htm
          · have := w7 p k (by omega) (Nat.le_refl k)
            rw [w1] at this
            omega
