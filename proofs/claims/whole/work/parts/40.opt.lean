/-! ===== pure: the most weight of deals under limits, by choice of each deal; its certificate ===== -/
theorem sm_add (f g : Nat → Nat) : ∀ n, sm (fun k => f k + g k) n = sm f n + sm g n
  | 0 => rfl
  | n + 1 => by
    show sm (fun k => f k + g k) n + (f n + g n) = sm f n + f n + (sm g n + g n)
    rw [sm_add f g n]; omega
theorem sm_mono {f g : Nat → Nat} : ∀ n, (∀ k, k < n → f k ≤ g k) → sm f n ≤ sm g n
  | 0, _ => Nat.le_refl _
  | n + 1, h => by
    have h1 := sm_mono n (fun k hk => h k (by omega))
    have h2 := h n (by omega)
    show sm f n + f n ≤ sm g n + g n
    omega
theorem sm_zero {f : Nat → Nat} : ∀ n, (∀ k, k < n → f k = 0) → sm f n = 0
  | 0, _ => rfl
  | n + 1, h => by
    show sm f n + f n = 0
    rw [sm_zero n (fun k hk => h k (by omega)), h n (by omega)]
theorem sm_one (y : Nat → Nat) (l : Nat) : ∀ n, sm (fun v => if v = l then y v else 0) n = if l < n then y l else 0
  | 0 => by simp [sm]
  | n + 1 => by
    show sm (fun v => if v = l then y v else 0) n + (if n = l then y n else 0) = _
    rw [sm_one y l n]
    by_cases h : n = l
    · subst h; simp
    · by_cases h2 : l < n
      · simp [h, h2, Nat.lt_succ_of_lt h2]
      · simp [h, h2, show ¬ l < n + 1 from by omega]
theorem sm_two (y : Nat → Nat) {l b n : Nat} (hl : l < n) (hb : b < n) (hn : l ≠ b) : sm (fun v => if v = l ∨ v = b then y v else 0) n = y l + y b := by
  have h1 := sm_one y l n
  have h2 := sm_one y b n
  rw [if_pos hl] at h1
  rw [if_pos hb] at h2
  rw [← h1, ← h2, ← sm_add]
  apply sm_congr
  intro k _
  by_cases c1 : k = l
  · subst c1; simp [hn]
  · by_cases c2 : k = b
    · subst c2; simp [c1]
    · simp [c1, c2]
def decc (cap : Nat → Nat) (l b : Nat) : Nat → Nat := fun v => if v = l ∨ v = b then cap v - 1 else cap v
def optN (le bo wt : Nat → Nat) : Nat → (Nat → Nat) → Nat
  | 0, _ => 0
  | k + 1, cap => max (optN le bo wt k cap) (if 0 < cap (le k) ∧ 0 < cap (bo k) then wt k + optN le bo wt k (decc cap (le k) (bo k)) else 0)
/-- how many chosen deals v is in -/
def cnv (le bo : Nat → Nat) (c : Nat → Bool) (n v : Nat) : Nat := ct (fun i => c i && (le i == v || bo i == v)) n
def wsm (wt : Nat → Nat) (c : Nat → Bool) (n : Nat) : Nat := sm (fun i => if c i = true then wt i else 0) n
theorem cnv_s (le bo : Nat → Nat) (c : Nat → Bool) (n v : Nat) : cnv le bo c (n + 1) v = cnv le bo c n v + (if c n = true ∧ (v = le n ∨ v = bo n) then 1 else 0) := by
  unfold cnv
  rw [ct_s]
  have h1 : ((c n && (le n == v || bo n == v)) = true) = (c n = true ∧ (v = le n ∨ v = bo n)) := by
    apply propext
    rw [Bool.and_eq_true, Bool.or_eq_true, beq_iff_eq, beq_iff_eq, eq_comm (a := le n), eq_comm (a := bo n)]
  simp only [h1]
theorem optN_congr {le bo wt le' bo' wt' : Nat → Nat} : ∀ (n : Nat) (cap cap' : Nat → Nat) (nv : Nat), (∀ i, i < n → le i = le' i ∧ bo i = bo' i ∧ wt i = wt' i ∧ le i < nv ∧ bo i < nv) → (∀ v, v < nv → cap v = cap' v) → optN le bo wt n cap = optN le' bo' wt' n cap'
  | 0, _, _, _, _, _ => rfl
  | n + 1, cap, cap', nv, h, hc => by
    have h0 := h n (by omega)
    unfold optN
    rw [optN_congr n cap cap' nv (fun i hi => h i (by omega)) hc, ← h0.1, ← h0.2.1, ← h0.2.2.1, hc _ h0.2.2.2.1, hc _ h0.2.2.2.2, optN_congr n (decc cap (le n) (bo n)) (decc cap' (le n) (bo n)) nv (fun i hi => h i (by omega)) (fun v hv => by unfold decc; rw [hc v hv])]
theorem optN_mono (le bo wt : Nat → Nat) : ∀ (n : Nat) (cap cap' : Nat → Nat), (∀ v, cap v ≤ cap' v) → optN le bo wt n cap ≤ optN le bo wt n cap'
  | 0, _, _, _ => Nat.le_refl _
  | n + 1, cap, cap', h => by
    have h1 := optN_mono le bo wt n cap cap' h
    have h2 := optN_mono le bo wt n (decc cap (le n) (bo n)) (decc cap' (le n) (bo n)) (fun v => by
      have := h v
      unfold decc
      split <;> omega)
    have h3 := h (le n)
    have h4 := h (bo n)
    unfold optN
    by_cases c : 0 < cap (le n) ∧ 0 < cap (bo n)
    · rw [if_pos c, if_pos ⟨by omega, by omega⟩]
      omega
    · rw [if_neg c]
      omega
theorem opt_lo (le bo wt : Nat → Nat) (c : Nat → Bool) : ∀ (n : Nat) (cap : Nat → Nat), (∀ v, cnv le bo c n v ≤ cap v) → wsm wt c n ≤ optN le bo wt n cap
  | 0, _, _ => Nat.le_refl _
  | n + 1, cap, h => by
    unfold wsm
    rw [sm_s]
    unfold optN
    by_cases hc : c n = true
    · have hl := h (le n)
      have hb := h (bo n)
      rw [cnv_s, if_pos ⟨hc, Or.inl rfl⟩] at hl
      rw [cnv_s, if_pos ⟨hc, Or.inr rfl⟩] at hb
      have ih := opt_lo le bo wt c n (decc cap (le n) (bo n)) (fun v => by
        have hv := h v
        rw [cnv_s] at hv
        unfold decc
        by_cases hv2 : v = le n ∨ v = bo n
        · rw [if_pos ⟨hc, hv2⟩] at hv
          rw [if_pos hv2]; omega
        · rw [if_neg hv2]; omega)
      unfold wsm at ih
      rw [if_pos hc, if_pos ⟨by omega, by omega⟩]
      omega
    · have ih := opt_lo le bo wt c n cap (fun v => by
        have hv := h v
        rw [cnv_s] at hv
        omega)
      unfold wsm at ih
      rw [if_neg hc]
      omega
theorem sm_dec (cap y : Nat → Nat) {l b nv : Nat} (hl : l < nv) (hb : b < nv) (hn : l ≠ b) (cl : 0 < cap l) (cb : 0 < cap b) : sm (fun v => decc cap l b v * y v) nv + (y l + y b) = sm (fun v => cap v * y v) nv := by
  rw [← sm_two y hl hb hn, ← sm_add]
  apply sm_congr
  intro v _
  show decc cap l b v * y v + (if v = l ∨ v = b then y v else 0) = cap v * y v
  unfold decc
  by_cases h : v = l ∨ v = b
  · rw [if_pos h, if_pos h]
    have h1 : cap v = (cap v - 1) + 1 := by rcases h with h | h <;> subst h <;> omega
    conv => rhs; rw [h1, Nat.succ_mul]
  · rw [if_neg h, if_neg h]; rfl
theorem opt_hi (le bo wt y : Nat → Nat) (nv : Nat) : ∀ (n : Nat) (cap : Nat → Nat), (∀ i, i < n → le i < nv ∧ bo i < nv ∧ le i ≠ bo i) → optN le bo wt n cap ≤ sm (fun v => cap v * y v) nv + sm (fun i => wt i - (y (le i) + y (bo i))) n
  | 0, _, _ => Nat.zero_le _
  | n + 1, cap, h => by
    have h0 := h n (by omega)
    have h1 := opt_hi le bo wt y nv n cap (fun i hi => h i (by omega))
    unfold optN
    rw [sm_s]
    by_cases c : 0 < cap (le n) ∧ 0 < cap (bo n)
    · have h2 := opt_hi le bo wt y nv n (decc cap (le n) (bo n)) (fun i hi => h i (by omega))
      have h3 := sm_dec cap y h0.1 h0.2.1 h0.2.2 c.1 c.2
      rw [if_pos c]
      omega
    · rw [if_neg c]
      omega
theorem cnv_sum (le bo : Nat → Nat) (c : Nat → Bool) (y : Nat → Nat) (nv : Nat) : ∀ (n : Nat), (∀ i, i < n → le i < nv ∧ bo i < nv ∧ le i ≠ bo i) → sm (fun v => cnv le bo c n v * y v) nv = sm (fun i => if c i = true then y (le i) + y (bo i) else 0) n
  | 0, _ => by
    rw [sm_zero nv (fun v _ => by show cnv le bo c 0 v * y v = 0; unfold cnv; rw [ct_0, Nat.zero_mul])]; rfl
  | n + 1, h => by
    have h0 := h n (by omega)
    rw [sm_s, ← cnv_sum le bo c y nv n (fun i hi => h i (by omega))]
    by_cases hc : c n = true
    · rw [if_pos hc, ← sm_two y h0.1 h0.2.1 h0.2.2, ← sm_add]
      apply sm_congr
      intro v _
      show cnv le bo c (n + 1) v * y v = cnv le bo c n v * y v + (if v = le n ∨ v = bo n then y v else 0)
      rw [cnv_s, Nat.add_mul]
      by_cases h2 : v = le n ∨ v = bo n
      · rw [if_pos ⟨hc, h2⟩, if_pos h2, Nat.one_mul]
      · rw [if_neg (fun x => h2 x.2), if_neg h2, Nat.zero_mul]
    · rw [if_neg hc, Nat.add_zero]
      apply sm_congr
      intro v _
      show cnv le bo c (n + 1) v * y v = cnv le bo c n v * y v
      rw [cnv_s, if_neg (fun x => hc x.1), Nat.add_zero]
theorem cnv_out (le bo : Nat → Nat) (c : Nat → Bool) {nv v : Nat} (hv : nv ≤ v) : ∀ (n : Nat), (∀ i, i < n → le i < nv ∧ bo i < nv ∧ le i ≠ bo i) → cnv le bo c n v = 0
  | 0, _ => rfl
  | n + 1, h => by
    have h0 := h n (by omega)
    rw [cnv_s, cnv_out le bo c hv n (fun i hi => h i (by omega)), if_neg (by omega)]
theorem opt_cert (le bo wt : Nat → Nat) (c : Nat → Bool) (y cap : Nat → Nat) (n nv : Nat) (hg : ∀ i, i < n → le i < nv ∧ bo i < nv ∧ le i ≠ bo i) (hc : ∀ i, i < n → c i = true → y (le i) + y (bo i) ≤ wt i) (hn : ∀ i, i < n → c i = false → wt i ≤ y (le i) + y (bo i)) (hv : ∀ v, v < nv → cnv le bo c n v ≤ cap v ∧ (0 < y v → cnv le bo c n v = cap v)) : optN le bo wt n cap = wsm wt c n := by
  apply Nat.le_antisymm
  · have h1 := opt_hi le bo wt y nv n cap hg
    have h2 : sm (fun v => cap v * y v) nv = sm (fun v => cnv le bo c n v * y v) nv := by
      apply sm_congr
      intro v hv2
      show cap v * y v = cnv le bo c n v * y v
      by_cases h3 : 0 < y v
      · rw [(hv v hv2).2 h3]
      · rw [show y v = 0 from by omega, Nat.mul_zero, Nat.mul_zero]
    rw [h2, cnv_sum le bo c y nv n hg, ← sm_add] at h1
    refine Nat.le_trans h1 (Nat.le_of_eq ?_)
    unfold wsm
    apply sm_congr
    intro i hi
    show (if c i = true then y (le i) + y (bo i) else 0) + (wt i - (y (le i) + y (bo i))) = if c i = true then wt i else 0
    by_cases h3 : c i = true
    · have := hc i hi h3
      rw [if_pos h3, if_pos h3]; omega
    · have := hn i hi (by simpa using h3)
      rw [if_neg h3, if_neg h3]; omega
  · apply opt_lo
    intro v
    by_cases h3 : v < nv
    · exact (hv v h3).1
    · rw [cnv_out le bo c (by omega) n hg]; exact Nat.zero_le _
/-- the invariant of choosing by best paths: potentials f, the last path's worth t -/
def fInv (le bo wt : Nat → Nat) (isL c : Nat → Bool) (cap : Nat → Nat) (n nv : Nat) (f : Nat → Int) (t : Int) : Prop :=
  (∀ i, i < n → c i = false → f (le i) + (wt i : Int) ≤ f (bo i)) ∧ (∀ i, i < n → c i = true → f (bo i) ≤ f (le i) + (wt i : Int)) ∧
  (∀ v, v < nv → cnv le bo c n v ≤ cap v) ∧
  (∀ v, v < nv → isL v = true → (cnv le bo c n v < cap v → 0 ≤ f v) ∧ (0 < cnv le bo c n v → f v ≤ 0)) ∧
  ∀ v, v < nv → isL v = false → (cnv le bo c n v < cap v → f v ≤ t) ∧ (0 < cnv le bo c n v → t ≤ f v)
/-- the deals: lenders lend, borrowers borrow -/
def gwf (le bo wt : Nat → Nat) (isL : Nat → Bool) (n nv : Nat) : Prop := ∀ i, i < n → le i < nv ∧ bo i < nv ∧ isL (le i) = true ∧ isL (bo i) = false ∧ wt i ≤ 198
theorem gwf.ne {le bo wt : Nat → Nat} {isL : Nat → Bool} {n nv : Nat} (h : gwf le bo wt isL n nv) : ∀ i, i < n → le i < nv ∧ bo i < nv ∧ le i ≠ bo i := fun i hi => ⟨(h i hi).1, (h i hi).2.1, fun e => by
  have h1 := (h i hi).2.2.1
  have h2 := (h i hi).2.2.2.1
  rw [e, h2] at h1; cases h1⟩
theorem cnv_pos (le bo : Nat → Nat) (c : Nat → Bool) {i v : Nat} (hc : c i = true) (hv : v = le i ∨ v = bo i) : ∀ (n : Nat), i < n → 0 < cnv le bo c n v
  | n + 1, h => by
    rw [cnv_s]
    by_cases e : i = n
    · subst e
      rw [if_pos ⟨hc, hv⟩]; omega
    · have := cnv_pos le bo c hc hv n (by omega)
      omega
theorem fInv_end {le bo wt : Nat → Nat} {isL c : Nat → Bool} {cap : Nat → Nat} {n nv : Nat} {f : Nat → Int} (hg : gwf le bo wt isL n nv) (h : fInv le bo wt isL c cap n nv f 0) : optN le bo wt n cap = wsm wt c n := by
  obtain ⟨h1, h2, h3, h4, h5⟩ := h
  refine opt_cert le bo wt c (fun v => if isL v = true then (- f v).toNat else (f v).toNat) cap n nv hg.ne (fun i hi hc => ?_) (fun i hi hc => ?_) (fun v hv => ⟨h3 v hv, fun hy => ?_⟩)
  · have g := hg i hi
    have a1 := h2 i hi hc
    have a2 := (h4 _ g.1 g.2.2.1).2 (cnv_pos le bo c hc (Or.inl rfl) n hi)
    have a3 := (h5 _ g.2.1 g.2.2.2.1).2 (cnv_pos le bo c hc (Or.inr rfl) n hi)
    show (if isL (le i) = true then _ else _) + (if isL (bo i) = true then _ else _) ≤ _
    rw [g.2.2.1, g.2.2.2.1]
    simp only [if_true, Bool.false_eq_true, if_false]
    omega
  · have g := hg i hi
    have a1 := h1 i hi hc
    show _ ≤ (if isL (le i) = true then _ else _) + (if isL (bo i) = true then _ else _)
    rw [g.2.2.1, g.2.2.2.1]
    simp only [if_true, Bool.false_eq_true, if_false]
    omega
  · have a0 := h3 v hv
    by_cases c1 : cnv le bo c n v < cap v
    · exfalso
      cases hl : isL v with
      | true =>
        have a1 := (h4 v hv hl).1 c1
        simp only [hl, if_true] at hy
        omega
      | false =>
        have a1 := (h5 v hv hl).1 c1
        simp only [hl, Bool.false_eq_true, if_false] at hy
        omega
    · omega
