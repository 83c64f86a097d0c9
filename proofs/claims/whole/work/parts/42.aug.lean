/-! ===== pure: turning the deals along a path ===== -/
theorem ct_upd {P Q : Nat → Bool} {i : Nat} (h : ∀ k, k ≠ i → P k = Q k) (h0 : P i = false) (h1 : Q i = true) : ∀ (n : Nat), ct Q n = ct P n + (if i < n then 1 else 0)
  | 0 => by simp [ct]
  | n + 1 => by
    rw [ct_s, ct_s, ct_upd h h0 h1 n]
    by_cases e : n = i
    · subst e
      rw [h0, h1]; simp
    · rw [h n e]
      by_cases c : i < n
      · rw [if_pos c, if_pos (show i < n + 1 by omega)]; omega
      · rw [if_neg c, if_neg (show ¬ i < n + 1 by omega)]; omega
theorem sm_upd {f g : Nat → Nat} {i : Nat} (h : ∀ k, k ≠ i → f k = g k) : ∀ (n : Nat), sm g n + (if i < n then f i else 0) = sm f n + (if i < n then g i else 0)
  | 0 => by simp [sm]
  | n + 1 => by
    have ih := sm_upd h n
    rw [sm_s, sm_s]
    by_cases e : n = i
    · subst e
      rw [if_neg (by omega), if_neg (by omega)] at ih
      rw [if_pos (by omega), if_pos (by omega)]
      omega
    · rw [h n e]
      by_cases c : i < n
      · rw [if_pos c, if_pos c] at ih
        rw [if_pos (show i < n + 1 by omega), if_pos (show i < n + 1 by omega)]; omega
      · rw [if_neg c, if_neg c] at ih
        rw [if_neg (show ¬ i < n + 1 by omega), if_neg (show ¬ i < n + 1 by omega)]; omega
def hitB (e : Nat → Nat) (lo hi i : Nat) : Bool := (fo (fun p => decide (lo ≤ p) && e p == i) hi).isSome
theorem hit_iff {e : Nat → Nat} {lo hi i : Nat} : hitB e lo hi i = true ↔ ∃ p, lo ≤ p ∧ p < hi ∧ e p = i := by
  unfold hitB
  cases h : fo (fun p => decide (lo ≤ p) && e p == i) hi with
  | none =>
    simp only [Option.isSome_none, Bool.false_eq_true, false_iff]
    rintro ⟨p, h1, h2, h3⟩
    have := (fo_none _ _).mp h p h2
    simp [h1, h3] at this
  | some p =>
    simp only [Option.isSome_some, true_iff]
    have := fo_some _ _ _ h
    have h2 := this.2.1
    simp only [Bool.and_eq_true, decide_eq_true_eq, beq_iff_eq] at h2
    exact ⟨p, h2.1, this.1, h2.2⟩
theorem hit_t {e : Nat → Nat} {lo hi i : Nat} (h : ∃ p, lo ≤ p ∧ p < hi ∧ e p = i) : hitB e lo hi i = true := hit_iff.mpr h
theorem hit_f {e : Nat → Nat} {lo hi i : Nat} (h : ¬ ∃ p, lo ≤ p ∧ p < hi ∧ e p = i) : hitB e lo hi i = false := by
  cases c : hitB e lo hi i with
  | false => rfl
  | true => exact absurd (hit_iff.mp c) h
theorem hit_c {e : Nat → Nat} {lo hi i lo' hi' i' : Nat} (h : (∃ p, lo ≤ p ∧ p < hi ∧ e p = i) ↔ ∃ p, lo' ≤ p ∧ p < hi' ∧ e p = i') : hitB e lo hi i = hitB e lo' hi' i' := by
  apply Bool.eq_iff_iff.mpr
  rw [hit_iff, hit_iff]; exact h
/-- c with e p turned for p in lo .. hi -/
def tgl (c : Nat → Bool) (e : Nat → Nat) (lo hi : Nat) : Nat → Bool := fun i => c i ^^ hitB e lo hi i
theorem tgl_0 (c : Nat → Bool) (e : Nat → Nat) (a : Nat) : tgl c e a a = c := by
  funext i
  unfold tgl
  rw [show hitB e a a i = false from hit_f (fun ⟨p, h1, h2, _⟩ => by omega)]
  simp
theorem tgl_hi {c : Nat → Bool} {e : Nat → Nat} {lo hi k : Nat} (hd : ∀ p q, p < q → q < k → e p ≠ e q) (h : hi < k) (hl : lo ≤ hi) (i : Nat) : tgl c e lo (hi + 1) i = if i = e hi then !(tgl c e lo hi i) else tgl c e lo hi i := by
  unfold tgl
  by_cases c1 : i = e hi
  · subst c1
    rw [if_pos rfl, show hitB e lo (hi + 1) (e hi) = true from hit_t ⟨hi, hl, by omega, rfl⟩, show hitB e lo hi (e hi) = false from hit_f (fun ⟨p, h1, h2, h3⟩ => hd p hi h2 h h3)]
    simp
  · rw [if_neg c1]
    congr 1
    apply hit_c
    constructor
    · rintro ⟨p, h1, h2, h3⟩
      refine ⟨p, h1, ?_, h3⟩
      by_cases c2 : p = hi
      · subst c2; exact absurd h3.symm c1
      · omega
    · rintro ⟨p, h1, h2, h3⟩
      exact ⟨p, h1, by omega, h3⟩
theorem tgl_lo {c : Nat → Bool} {e : Nat → Nat} {lo k : Nat} (hd : ∀ p q, p < q → q < k → e p ≠ e q) (h : lo < k) (i : Nat) : tgl c e lo k i = if i = e lo then !(tgl c e (lo + 1) k i) else tgl c e (lo + 1) k i := by
  unfold tgl
  by_cases c1 : i = e lo
  · subst c1
    rw [if_pos rfl, show hitB e lo k (e lo) = true from hit_t ⟨lo, Nat.le_refl lo, h, rfl⟩, show hitB e (lo + 1) k (e lo) = false from hit_f (fun ⟨p, h1, h2, h3⟩ => hd lo p (by omega) h2 h3.symm)]
    simp
  · rw [if_neg c1]
    congr 1
    apply hit_c
    constructor
    · rintro ⟨p, h1, h2, h3⟩
      refine ⟨p, ?_, h2, h3⟩
      by_cases c2 : p = lo
      · subst c2; exact absurd h3.symm c1
      · omega
    · rintro ⟨p, h1, h2, h3⟩
      exact ⟨p, by omega, h2, h3⟩
def arcF (le bo wt : Nat → Nat) (c : Nat → Bool) (n : Nat) (i u v : Nat) (g : Int) : Prop := i < n ∧ ((c i = false ∧ u = le i ∧ v = bo i ∧ g = (wt i : Int)) ∨ (c i = true ∧ u = bo i ∧ v = le i ∧ g = -(wt i : Int)))
theorem cnv_turn {le bo : Nat → Nat} {c c' : Nat → Bool} {i n : Nat} (hi : i < n) (h : ∀ k, k ≠ i → c k = c' k) (h0 : c i = false) (h1 : c' i = true) (v : Nat) : cnv le bo c' n v = cnv le bo c n v + (if le i = v ∨ bo i = v then 1 else 0) := by
  unfold cnv
  by_cases e : le i = v ∨ bo i = v
  · rw [if_pos e, ct_upd (P := fun k => c k && (le k == v || bo k == v)) (i := i) (fun k hk => by rw [h k hk]) (by simp [h0]) (by simp only [h1, Bool.true_and, Bool.or_eq_true, beq_iff_eq]; exact e) n, if_pos hi]
  · rw [if_neg e, Nat.add_zero]
    apply ct_congr
    intro k _
    by_cases c1 : k = i
    · subst c1
      have : (le k == v || bo k == v) = false := by
        rw [Bool.eq_false_iff]
        simp only [ne_eq, Bool.or_eq_true, beq_iff_eq]
        exact e
      rw [this, Bool.and_false, Bool.and_false]
    · rw [h k c1]
theorem wsm_turn {wt : Nat → Nat} {c c' : Nat → Bool} {i n : Nat} (hi : i < n) (h : ∀ k, k ≠ i → c k = c' k) (h0 : c i = false) (h1 : c' i = true) : wsm wt c' n = wsm wt c n + wt i := by
  have := sm_upd (f := fun k => if c k = true then wt k else 0) (g := fun k => if c' k = true then wt k else 0) (i := i) (fun k hk => by show (if c k = true then wt k else 0) = _; rw [h k hk]) n
  rw [if_pos hi, if_pos hi] at this
  simp only [h0, h1, Bool.false_eq_true, if_false, if_true] at this
  unfold wsm
  omega
/-- what turning a path does -/
theorem path_turn {le bo wt : Nat → Nat} {isL c : Nat → Bool} {n nv : Nat} (hg : gwf le bo wt isL n nv) {k : Nat} {f e : Nat → Nat} {t : Nat → Int} (hp : ∀ p, p < k → arcF le bo wt c n (e p) (f p) (f (p + 1)) (t (p + 1) - t p)) (hd : ∀ p q, p < q → q < k → e p ≠ e q) (h0 : isL (f 0) = true) : ∀ p, p ≤ k → (wsm wt (tgl c e 0 p) n : Int) = wsm wt c n + (t p - t 0) ∧ ∀ v, (cnv le bo (tgl c e 0 p) n v : Int) = cnv le bo c n v + (if f 0 = v then 1 else 0) + (if f p = v then (if isL (f p) = true then -1 else 1) else 0)
  | 0, _ => by
    rw [tgl_0]
    refine ⟨by omega, fun v => ?_⟩
    rw [h0, if_pos rfl]
    split <;> omega
  | p + 1, h => by
    obtain ⟨ih1, ih2⟩ := path_turn hg hp hd h0 p (by omega)
    obtain ⟨a1, a2⟩ := hp p (by omega)
    have gi := hg (e p) a1
    have hne := hg.ne (e p) a1
    have hs : ∀ i, tgl c e 0 (p + 1) i = if i = e p then !(tgl c e 0 p i) else tgl c e 0 p i := tgl_hi hd (by omega) (Nat.zero_le p)
    have hs1 : ∀ i, i ≠ e p → tgl c e 0 (p + 1) i = tgl c e 0 p i := fun i hi => by rw [hs i, if_neg hi]
    have hc : tgl c e 0 p (e p) = c (e p) := by
      unfold tgl
      rw [show hitB e 0 p (e p) = false from hit_f (fun ⟨q, _, h2, h3⟩ => hd q p h2 (by omega) h3)]
      simp
    have hs2 : tgl c e 0 (p + 1) (e p) = !(c (e p)) := by rw [hs (e p), if_pos rfl, hc]
    rcases a2 with ⟨b1, b2, b3, b4⟩ | ⟨b1, b2, b3, b4⟩
    · have x1 := wsm_turn (wt := wt) a1 (fun i hi => (hs1 i hi).symm) (by rw [hc, b1]) (by rw [hs2, b1]; rfl)
      refine ⟨by omega, fun v => ?_⟩
      have x2 := cnv_turn (le := le) (bo := bo) a1 (fun i hi => (hs1 i hi).symm) (by rw [hc, b1]) (by rw [hs2, b1]; rfl) v
      have x3 := ih2 v
      rw [b2, gi.2.2.1] at x3
      rw [b3, gi.2.2.2.1, x2]
      simp only [if_true, Bool.false_eq_true, if_false] at x3 ⊢
      by_cases d1 : le (e p) = v
      · have d2 : ¬ bo (e p) = v := by omega
        rw [if_pos d1] at x3
        rw [if_pos (Or.inl d1), if_neg d2]
        push_cast; omega
      · rw [if_neg d1] at x3
        by_cases d2 : bo (e p) = v
        · rw [if_pos (Or.inr d2), if_pos d2]; push_cast; omega
        · rw [if_neg (fun x => x.elim d1 d2), if_neg d2]; push_cast; omega
    · have x1 := wsm_turn (wt := wt) (c' := tgl c e 0 p) a1 (fun i hi => hs1 i hi) (by rw [hs2, b1]; rfl) (by rw [hc, b1])
      refine ⟨by omega, fun v => ?_⟩
      have x2 := cnv_turn (le := le) (bo := bo) (c' := tgl c e 0 p) a1 (fun i hi => hs1 i hi) (by rw [hs2, b1]; rfl) (by rw [hc, b1]) v
      have x3 := ih2 v
      rw [b2, gi.2.2.2.1, x2] at x3
      rw [b3, gi.2.2.1]
      simp only [if_true, Bool.false_eq_true, if_false] at x3 ⊢
      by_cases d1 : le (e p) = v
      · have d2 : ¬ bo (e p) = v := by omega
        rw [if_pos (Or.inl d1), if_neg d2] at x3
        rw [if_pos d1]
        push_cast at x3; omega
      · rw [if_neg d1]
        by_cases d2 : bo (e p) = v
        · rw [if_pos (Or.inr d2), if_pos d2] at x3; push_cast at x3; omega
        · rw [if_neg (fun x => x.elim d1 d2), if_neg d2] at x3; push_cast at x3; omega
def upP (R : Nat → Option Int) (φ : Nat → Int) (x : Int) : Nat → Int := fun v => match R v with | some d => max d (φ v - x) | none => φ v - x
theorem upP_s {R : Nat → Option Int} {φ : Nat → Int} {x : Int} {v : Nat} {d : Int} (h : R v = some d) : upP R φ x v = max d (φ v - x) := by unfold upP; rw [h]
theorem upP_n {R : Nat → Option Int} {φ : Nat → Int} {x : Int} {v : Nat} (h : R v = none) : upP R φ x v = φ v - x := by unfold upP; rw [h]
theorem upP_arc {R : Nat → Option Int} {φ : Nat → Int} {x : Int} {u v : Nat} {g : Int} (h : φ u + g ≤ φ v) (hR : okA R u v g) : upP R φ x u + g ≤ upP R φ x v := by
  cases hu : R u with
  | none =>
    rw [upP_n hu]
    cases hv : R v with
    | none => rw [upP_n hv]; omega
    | some b => rw [upP_s hv]; omega
  | some a =>
    obtain ⟨b, e, l⟩ := hR a hu
    rw [upP_s hu, upP_s e]; omega
theorem upP_le {R : Nat → Option Int} {φ : Nat → Int} {x : Int} {v : Nat} (h : ∀ a, R v = some a → a ≤ φ v) (hx : 0 ≤ x) : upP R φ x v ≤ φ v := by
  cases hv : R v with
  | none => rw [upP_n hv]; omega
  | some b => rw [upP_s hv]; have := h b hv; omega
theorem fInv_arc {le bo wt : Nat → Nat} {isL c : Nat → Bool} {cap : Nat → Nat} {n nv : Nat} {φ : Nat → Int} {tt : Int} (h : fInv le bo wt isL c cap n nv φ tt) : ∀ i u v g, arcF le bo wt c n i u v g → φ u + g ≤ φ v := by
  intro i u v g ha
  obtain ⟨a1, a2⟩ := ha
  rcases a2 with ⟨b1, b2, b3, b4⟩ | ⟨b1, b2, b3, b4⟩
  · have := h.1 i a1 b1
    subst b2; subst b3; omega
  · have := h.2.1 i a1 b1
    subst b2; subst b3; omega
/-- one best path more -/
theorem fInv_step {le bo wt : Nat → Nat} {isL c : Nat → Bool} {cap : Nat → Nat} {n nv : Nat} {φ : Nat → Int} {tt : Int} (hg : gwf le bo wt isL n nv) (hI : fInv le bo wt isL c cap n nv φ tt) (R : Nat → Option Int) (hok : ∀ i u v g, arcF le bo wt c n i u v g → okA R u v g) (hle : ∀ v a, R v = some a → a ≤ φ v) (hst : ∀ v, v < nv → isL v = true → cnv le bo c n v < cap v → ∃ b, R v = some b ∧ 0 ≤ b) {D : Int} (hD : ∀ v a, v < nv → isL v = false → cnv le bo c n v < cap v → R v = some a → a ≤ D)
    {k : Nat} {f e : Nat → Nat} {t : Nat → Int} (hp : ∀ p, p < k → arcF le bo wt c n (e p) (f p) (f (p + 1)) (t (p + 1) - t p)) (hd : ∀ p q, p < q → q < k → e p ≠ e q) (h0 : isL (f 0) = true) (hk : isL (f k) = false) (t0 : t 0 = 0) (tk : t k = D) (hR : ∀ p, p ≤ k → R (f p) = some (t p)) (hf0 : f 0 < nv) (hfk : f k < nv) (r0 : cnv le bo c n (f 0) < cap (f 0)) (rk : cnv le bo c n (f k) < cap (f k)) :
    fInv le bo wt isL (tgl c e 0 k) cap n nv (upP R φ (tt - D)) D ∧ (wsm wt (tgl c e 0 k) n : Int) = wsm wt c n + D ∧ (∀ v, cnv le bo (tgl c e 0 k) n v = cnv le bo c n v + (if f 0 = v then 1 else 0) + (if f k = v then 1 else 0)) ∧ D ≤ tt := by
  have harc := fInv_arc hI
  obtain ⟨i1, i2, i3, i4, i5⟩ := hI
  have hDt : D ≤ tt := by
    have h1 := hle _ _ (hR k (Nat.le_refl k))
    have h2 := (i5 _ hfk hk).1 rk
    omega
  obtain ⟨hw, hc⟩ := path_turn hg hp hd h0 k (Nat.le_refl k)
  have hcn : ∀ v, cnv le bo (tgl c e 0 k) n v = cnv le bo c n v + (if f 0 = v then 1 else 0) + (if f k = v then 1 else 0) := by
    intro v
    have := hc v
    rw [hk] at this
    simp only [Bool.false_eq_true, if_false] at this
    have h3 : ((if f 0 = v then 1 else 0 : Nat) : Int) = if f 0 = v then 1 else 0 := by split <;> rfl
    have h4 : ((if f k = v then 1 else 0 : Nat) : Int) = if f k = v then 1 else 0 := by split <;> rfl
    omega
  have h0k : f 0 ≠ f k := fun x => by rw [x, hk] at h0; cases h0
  have hpot : ∀ p, p ≤ k → upP R φ (tt - D) (f p) = t p := by
    intro p hpk
    have h1 := swk_pot (A := fun u v g => ∃ i, arcF le bo wt c n i u v g) (φ := φ) (fun u v g hh => hh.elim (fun i hi => harc i u v g hi)) (k := k) (f := f) (t := t) (fun p hp' => ⟨e p, hp p hp'⟩) p (k - p) (by omega)
    rw [show p + (k - p) = k from by omega] at h1
    have h2 := (i5 _ hfk hk).1 rk
    rw [upP_s (hR p hpk)]
    omega
  have hnp : ∀ i, (∀ p, p < k → e p ≠ i) → tgl c e 0 k i = c i := by
    intro i hi
    unfold tgl
    rw [show hitB e 0 k i = false from hit_f (fun ⟨p, _, h2, h3⟩ => hi p h2 h3)]
    simp
  have hyp : ∀ p, p < k → tgl c e 0 k (e p) = !(c (e p)) := by
    intro p hpk
    unfold tgl
    rw [show hitB e 0 k (e p) = true from hit_t ⟨p, Nat.zero_le p, hpk, rfl⟩]
    simp
  refine ⟨⟨fun i hi hci => ?_, fun i hi hci => ?_, fun v hv => ?_, fun v hv hL => ⟨fun hr => ?_, fun hu => ?_⟩, fun v hv hL => ⟨fun hr => ?_, fun hu => ?_⟩⟩, by omega, hcn, hDt⟩
  · by_cases hx : ∃ p, p < k ∧ e p = i
    · obtain ⟨p, hpk, rfl⟩ := hx
      rw [hyp p hpk] at hci
      have hct : c (e p) = true := by simpa using hci
      obtain ⟨_, a2⟩ := hp p hpk
      rcases a2 with ⟨b1, b2, b3, b4⟩ | ⟨b1, b2, b3, b4⟩
      · rw [hct] at b1; cases b1
      · rw [← b2, ← b3, hpot p (by omega), hpot (p + 1) (by omega)]; omega
    · have hci' : c i = false := by rw [← hnp i (fun p h1 h2 => hx ⟨p, h1, h2⟩)]; exact hci
      exact upP_arc (i1 i hi hci') (hok i _ _ _ ⟨hi, Or.inl ⟨hci', rfl, rfl, rfl⟩⟩)
  · by_cases hx : ∃ p, p < k ∧ e p = i
    · obtain ⟨p, hpk, rfl⟩ := hx
      rw [hyp p hpk] at hci
      have hct : c (e p) = false := by simpa using hci
      obtain ⟨_, a2⟩ := hp p hpk
      rcases a2 with ⟨b1, b2, b3, b4⟩ | ⟨b1, b2, b3, b4⟩
      · rw [← b2, ← b3, hpot p (by omega), hpot (p + 1) (by omega)]; omega
      · rw [hct] at b1; cases b1
    · have hci' : c i = true := by rw [← hnp i (fun p h1 h2 => hx ⟨p, h1, h2⟩)]; exact hci
      have h1 := i2 i hi hci'
      have h2 := upP_arc (x := tt - D) (show φ (bo i) + -(wt i : Int) ≤ φ (le i) by omega) (hok i _ _ _ ⟨hi, Or.inr ⟨hci', rfl, rfl, rfl⟩⟩)
      omega
  · rw [hcn v]
    have := i3 v hv
    by_cases c1 : f 0 = v
    · subst c1
      rw [if_pos rfl, if_neg (fun x => h0k x.symm)]; omega
    · rw [if_neg c1]
      by_cases c2 : f k = v
      · subst c2; rw [if_pos rfl]; omega
      · rw [if_neg c2]; omega
  · rw [hcn v] at hr
    obtain ⟨b, e1, l1⟩ := hst v hv hL (by omega)
    rw [upP_s e1]; omega
  · by_cases c1 : f 0 = v
    · subst c1
      rw [hpot 0 (by omega)]; omega
    · have c2 : ¬ f k = v := fun x => by rw [x, hL] at hk; cases hk
      rw [hcn v, if_neg c1, if_neg c2] at hu
      have h1 := (i4 v hv hL).2 (by omega)
      have h2 := upP_le (x := tt - D) (hle v) (by omega)
      omega
  · rw [hcn v] at hr
    have h1 := (i5 v hv hL).1 (by omega)
    cases hv2 : R v with
    | none => rw [upP_n hv2]; omega
    | some a =>
      have := hD v a hv hL (by omega) hv2
      rw [upP_s hv2]; omega
  · by_cases c1 : f k = v
    · subst c1
      rw [hpot k (by omega)]; omega
    · have c2 : ¬ f 0 = v := fun x => by rw [x, hL] at h0; cases h0
      rw [hcn v, if_neg c1, if_neg c2] at hu
      have h1 := (i5 v hv hL).2 (by omega)
      cases hv2 : R v with
      | none => rw [upP_n hv2]; omega
      | some a => rw [upP_s hv2]; omega
/-- no path betters -/
theorem fInv_stop {le bo wt : Nat → Nat} {isL c : Nat → Bool} {cap : Nat → Nat} {n nv : Nat} {φ : Nat → Int} {tt : Int} (hg : gwf le bo wt isL n nv) (hI : fInv le bo wt isL c cap n nv φ tt) (ht : 0 ≤ tt) (R : Nat → Option Int) (hok : ∀ i u v g, arcF le bo wt c n i u v g → okA R u v g) (hle : ∀ v a, R v = some a → a ≤ φ v) (hst : ∀ v, v < nv → isL v = true → cnv le bo c n v < cap v → ∃ b, R v = some b ∧ 0 ≤ b) (hD : ∀ v a, v < nv → isL v = false → cnv le bo c n v < cap v → R v = some a → a ≤ 0) : optN le bo wt n cap = wsm wt c n := by
  obtain ⟨i1, i2, i3, i4, i5⟩ := hI
  refine fInv_end (f := upP R φ tt) hg ⟨fun i hi hci => ?_, fun i hi hci => ?_, i3, fun v hv hL => ⟨fun hr => ?_, fun hu => ?_⟩, fun v hv hL => ⟨fun hr => ?_, fun hu => ?_⟩⟩
  · exact upP_arc (i1 i hi hci) (hok i _ _ _ ⟨hi, Or.inl ⟨hci, rfl, rfl, rfl⟩⟩)
  · have h1 := i2 i hi hci
    have h2 := upP_arc (x := tt) (show φ (bo i) + -(wt i : Int) ≤ φ (le i) by omega) (hok i _ _ _ ⟨hi, Or.inr ⟨hci, rfl, rfl, rfl⟩⟩)
    omega
  · obtain ⟨b, e1, l1⟩ := hst v hv hL hr
    rw [upP_s e1]; omega
  · have h1 := (i4 v hv hL).2 hu
    have h2 := upP_le (x := tt) (hle v) ht
    omega
  · have h1 := (i5 v hv hL).1 hr
    cases hv2 : R v with
    | none => rw [upP_n hv2]; omega
    | some a =>
      have := hD v a hv hL hr hv2
      rw [upP_s hv2]; omega
  · have h1 := (i5 v hv hL).2 hu
    cases hv2 : R v with
    | none => rw [upP_n hv2]; omega
    | some a => rw [upP_s hv2]; omega
theorem fInv_0 {le bo wt : Nat → Nat} {isL : Nat → Bool} {cap : Nat → Nat} {n nv : Nat} (hg : gwf le bo wt isL n nv) : fInv le bo wt isL (fun _ => false) cap n nv (fun v => if isL v = true then 0 else 198) 198 := by
  have hz : ∀ v, cnv le bo (fun _ => false) n v = 0 := fun v => by
    unfold cnv
    have : ∀ m, ct (fun i => false && (le i == v || bo i == v)) m = 0 := by
      intro m
      induction m with
      | zero => rfl
      | succ m ih => rw [ct_s, ih]; simp
    exact this n
  refine ⟨fun i hi _ => ?_, fun i hi h => by simp at h, fun v _ => by rw [hz v]; omega, fun v _ hL => ⟨fun _ => ?_, fun hu => by rw [hz v] at hu; omega⟩, fun v _ hL => ⟨fun _ => ?_, fun hu => by rw [hz v] at hu; omega⟩⟩
  · have g := hg i hi
    show (if isL (le i) = true then (0 : Int) else 198) + _ ≤ if isL (bo i) = true then 0 else 198
    rw [g.2.2.1, g.2.2.2.1]
    simp only [if_true, Bool.false_eq_true, if_false]
    omega
  · show (0 : Int) ≤ if isL v = true then 0 else 198
    rw [hL]; simp
  · show (if isL v = true then (0 : Int) else 198) ≤ 198
    rw [hL]; simp
