/-! ===== pure rows: whole numbers in Int32; choosing from an enumeration ===== -/
def zI (x : Int) : Int32 := Int32.ofInt x
theorem zI_toInt {x : Int} (h1 : -2147483648 ≤ x) (h2 : x < 2147483648) : (zI x).toInt = x := by
  unfold zI
  rw [Int32.toInt_ofInt]
  exact Int.bmod_eq_of_le (by show -((2 ^ 32 : Nat) : Int) / 2 ≤ x; omega) (by show x < (((2 ^ 32 : Nat) : Int) + 1) / 2; omega)
theorem zI_add (a b : Int) : zI a + zI b = zI (a + b) := (Int32.ofInt_add a b).symm
theorem zI_neg (a : Int) : -zI a = zI (-a) := (Int32.ofInt_neg a).symm
theorem zI_n {n : Nat} (h : n < 2 ^ 31) : nI n = zI n := Int32.toInt_inj.mp (by rw [nI_toInt h, zI_toInt (by omega) (by omega)])
theorem zI_lt {a b : Int} (h1 : -2147483648 ≤ a) (h2 : a < 2147483648) (h3 : -2147483648 ≤ b) (h4 : b < 2147483648) : (zI a < zI b) = (a < b) := by
  apply propext
  rw [Int32.lt_iff_toInt_lt, zI_toInt h1 h2, zI_toInt h3 h4]
theorem zI_le {a b : Int} (h1 : -2147483648 ≤ a) (h2 : a < 2147483648) (h3 : -2147483648 ≤ b) (h4 : b < 2147483648) : (zI a ≤ zI b) = (a ≤ b) := by
  apply propext
  rw [Int32.le_iff_toInt_le, zI_toInt h1 h2, zI_toInt h3 h4]
theorem zI_eq {a b : Int} (h1 : -2147483648 ≤ a) (h2 : a < 2147483648) (h3 : -2147483648 ≤ b) (h4 : b < 2147483648) : (zI a = zI b) = (a = b) := by
  apply propext
  constructor
  · intro h
    have := congrArg Int32.toInt h
    rwa [zI_toInt h1 h2, zI_toInt h3 h4] at this
  · intro h; rw [h]
theorem ct_sm (P : Nat → Bool) : ∀ n, ct P n = sm (fun i => if P i = true then 1 else 0) n
  | 0 => rfl
  | n + 1 => by rw [ct_s, sm_s, ct_sm P n]
theorem sm_enum {idx : Nat → Nat} {n : Nat} (F : Nat → Nat) : ∀ (m : Nat), (∀ i j, i < j → j < m → idx i ≠ idx j) → (∀ i, i < m → idx i < n) → sm (fun i => F (idx i)) m = sm (fun d => if hitB idx 0 m d = true then F d else 0) n
  | 0, _, _ => by
    rw [sm_zero n (fun d _ => by show (if hitB idx 0 0 d = true then F d else 0) = 0; rw [hit_f (fun ⟨p, _, h, _⟩ => by omega)]; rfl)]; rfl
  | m + 1, hj, hl => by
    have ih := sm_enum F m (fun i j a b => hj i j a (by omega)) (fun i hi => hl i (by omega))
    have h0 : hitB idx 0 m (idx m) = false := hit_f (fun ⟨p, _, h, e⟩ => hj p m h (by omega) e)
    have h1 : hitB idx 0 (m + 1) (idx m) = true := hit_t ⟨m, by omega, by omega, rfl⟩
    have h2 : ∀ k, k ≠ idx m → hitB idx 0 m k = hitB idx 0 (m + 1) k := fun k hk => hit_c ⟨fun ⟨p, a, b, c⟩ => ⟨p, a, by omega, c⟩, fun ⟨p, a, b, c⟩ => ⟨p, a, by
      by_cases e : p = m
      · subst e; exact absurd c.symm hk
      · omega, c⟩⟩
    have := sm_upd (f := fun d => if hitB idx 0 m d = true then F d else 0) (g := fun d => if hitB idx 0 (m + 1) d = true then F d else 0) (i := idx m) (fun k hk => by show (if hitB idx 0 m k = true then F k else 0) = _; rw [h2 k hk]) n
    rw [if_pos (hl m (by omega)), if_pos (hl m (by omega))] at this
    simp only [h0, h1, Bool.false_eq_true, if_false, if_true] at this
    rw [sm_s, ih]
    omega
theorem opt_at (le bo wt : Nat → Nat) : ∀ (n : Nat) (cap : Nat → Nat), ∃ c : Nat → Bool, (∀ v, cnv le bo c n v ≤ cap v) ∧ wsm wt c n = optN le bo wt n cap
  | 0, cap => ⟨fun _ => false, fun v => Nat.zero_le _, rfl⟩
  | n + 1, cap => by
    have hfix : ∀ (c : Nat → Bool) (b : Bool), (∀ v, cnv le bo (fun i => if i = n then b else c i) n v = cnv le bo c n v) ∧ wsm wt (fun i => if i = n then b else c i) n = wsm wt c n := by
      intro c b
      refine ⟨fun v => ct_congr n (fun k hk => ?_), sm_congr n (fun k hk => ?_)⟩
      · show ((if k = n then b else c k) && _) = (c k && _)
        rw [if_neg (by omega)]
      · show (if (if k = n then b else c k) = true then wt k else 0) = _
        rw [if_neg (show ¬ k = n by omega)]
    by_cases h : optN le bo wt (n + 1) cap = optN le bo wt n cap
    · obtain ⟨c, h1, h2⟩ := opt_at le bo wt n cap
      refine ⟨fun i => if i = n then false else c i, fun v => ?_, ?_⟩
      · rw [cnv_s, (hfix c false).1 v]
        simp only [if_true, Bool.false_eq_true, false_and, if_false]
        exact h1 v
      · unfold wsm
        rw [sm_s]
        have := (hfix c false).2
        unfold wsm at this h2
        rw [this, h2, h]
        simp
    · have hx : 0 < cap (le n) ∧ 0 < cap (bo n) := by
        apply Classical.byContradiction
        intro hc
        apply h
        show max _ (if 0 < cap (le n) ∧ 0 < cap (bo n) then _ else 0) = _
        rw [if_neg hc, Nat.max_eq_left (Nat.zero_le _)]
      have hy : optN le bo wt (n + 1) cap = wt n + optN le bo wt n (decc cap (le n) (bo n)) := by
        have e : optN le bo wt (n + 1) cap = max (optN le bo wt n cap) (wt n + optN le bo wt n (decc cap (le n) (bo n))) := by
          show max _ (if 0 < cap (le n) ∧ 0 < cap (bo n) then _ else 0) = _
          rw [if_pos hx]
        rw [e] at h ⊢
        omega
      obtain ⟨c, h1, h2⟩ := opt_at le bo wt n (decc cap (le n) (bo n))
      refine ⟨fun i => if i = n then true else c i, fun v => ?_, ?_⟩
      · rw [cnv_s, (hfix c true).1 v]
        simp only [if_true, true_and]
        have := h1 v
        unfold decc at this
        by_cases hv : v = le n ∨ v = bo n
        · rw [if_pos hv] at this ⊢
          have : 0 < cap v := by rcases hv with e | e <;> subst e <;> omega
          omega
        · rw [if_neg hv] at this ⊢
          omega
      · unfold wsm
        rw [sm_s]
        have := (hfix c true).2
        unfold wsm at this h2
        rw [this, h2, hy]
        simp; omega
theorem opt_enum {le bo wt le' bo' wt' : Nat → Nat} {idx : Nat → Nat} {m n : Nat} (cap : Nat → Nat) (hj : ∀ i j, i < j → j < m → idx i ≠ idx j) (hl : ∀ i, i < m → idx i < n) (he : ∀ i, i < m → le' i = le (idx i) ∧ bo' i = bo (idx i) ∧ wt' i = wt (idx i)) (hs : ∀ d, d < n → wt d ≠ 0 → ∃ i, i < m ∧ idx i = d) : optN le' bo' wt' m cap = optN le bo wt n cap := by
  apply Nat.le_antisymm
  · obtain ⟨c, h1, h2⟩ := opt_at le' bo' wt' m cap
    have hci : ∀ i, i < m → (fo (fun k => c k && idx k == idx i) m).isSome = c i := by
      intro i hi
      cases hh : fo (fun k => c k && idx k == idx i) m with
      | none =>
        have := (fo_none _ _).mp hh i hi
        simp at this
        rw [this]; rfl
      | some k =>
        obtain ⟨a1, a2, _⟩ := fo_some _ _ _ hh
        simp only [Bool.and_eq_true, beq_iff_eq] at a2
        have : k = i := by
          rcases Nat.lt_trichotomy k i with h | h | h
          · exact absurd a2.2 (hj k i h hi)
          · exact h
          · exact absurd a2.2.symm (hj i k h a1)
        rw [← this, a2.1]; rfl
    have hcn : ∀ d, hitB idx 0 m d = false → (fo (fun k => c k && idx k == d) m).isSome = false := by
      intro d hd
      cases hh : fo (fun k => c k && idx k == d) m with
      | none => rfl
      | some k =>
        obtain ⟨a1, a2, _⟩ := fo_some _ _ _ hh
        simp only [Bool.and_eq_true, beq_iff_eq] at a2
        rw [hit_t ⟨k, by omega, a1, a2.2⟩] at hd
        cases hd
    rw [← h2]
    have e1 : wsm wt' c m = wsm wt (fun d => (fo (fun k => c k && idx k == d) m).isSome) n := by
      have := sm_enum (idx := idx) (n := n) (fun d => if (fo (fun k => c k && idx k == d) m).isSome = true then wt d else 0) m hj hl
      unfold wsm
      rw [show sm (fun i => if c i = true then wt' i else 0) m = sm (fun i => if (fo (fun k => c k && idx k == idx i) m).isSome = true then wt (idx i) else 0) m from sm_congr m (fun i hi => by
        show (if c i = true then wt' i else 0) = _
        rw [hci i hi, (he i hi).2.2]), this]
      apply sm_congr
      intro d _
      show (if hitB idx 0 m d = true then (if (fo (fun k => c k && idx k == d) m).isSome = true then wt d else 0) else 0) = _
      cases hx : hitB idx 0 m d with
      | true => rfl
      | false => simp only [hcn d hx, Bool.false_eq_true, if_false]
    rw [e1]
    apply opt_lo
    intro v
    refine Nat.le_trans (Nat.le_of_eq ?_) (h1 v)
    have := sm_enum (idx := idx) (n := n) (fun d => if ((fo (fun k => c k && idx k == d) m).isSome && (le d == v || bo d == v)) = true then 1 else 0) m hj hl
    unfold cnv
    rw [ct_sm, ct_sm, show sm (fun i => if (c i && (le' i == v || bo' i == v)) = true then 1 else 0) m = sm (fun i => if ((fo (fun k => c k && idx k == idx i) m).isSome && (le (idx i) == v || bo (idx i) == v)) = true then 1 else 0) m from sm_congr m (fun i hi => by
        show (if (c i && (le' i == v || bo' i == v)) = true then 1 else 0) = _
        rw [hci i hi, (he i hi).1, (he i hi).2.1]), this]
    apply sm_congr
    intro d _
    show _ = (if hitB idx 0 m d = true then (if ((fo (fun k => c k && idx k == d) m).isSome && (le d == v || bo d == v)) = true then 1 else 0) else 0)
    cases hx : hitB idx 0 m d with
    | true => rfl
    | false => simp only [hcn d hx, Bool.false_and, Bool.false_eq_true, if_false]
  · obtain ⟨c, h1, h2⟩ := opt_at le bo wt n cap
    rw [← h2]
    have e1 : wsm wt c n = wsm wt' (fun i => c (idx i)) m := by
      have := sm_enum (idx := idx) (n := n) (fun d => if c d = true then wt d else 0) m hj hl
      unfold wsm
      rw [show sm (fun i => if c (idx i) = true then wt' i else 0) m = sm (fun i => if c (idx i) = true then wt (idx i) else 0) m from sm_congr m (fun i hi => by
        show (if c (idx i) = true then wt' i else 0) = _
        rw [(he i hi).2.2]), this]
      apply sm_congr
      intro d hd
      show (if c d = true then wt d else 0) = (if hitB idx 0 m d = true then (if c d = true then wt d else 0) else 0)
      by_cases hw : wt d = 0
      · rw [hw]; simp
      · obtain ⟨i, hi, hid⟩ := hs d hd hw
        rw [if_pos (hit_t ⟨i, by omega, hi, hid⟩)]
    rw [e1]
    apply opt_lo
    intro v
    refine Nat.le_trans ?_ (h1 v)
    have := sm_enum (idx := idx) (n := n) (fun d => if (c d && (le d == v || bo d == v)) = true then 1 else 0) m hj hl
    unfold cnv
    rw [ct_sm, ct_sm, show sm (fun i => if (c (idx i) && (le' i == v || bo' i == v)) = true then 1 else 0) m = sm (fun i => if (c (idx i) && (le (idx i) == v || bo (idx i) == v)) = true then 1 else 0) m from sm_congr m (fun i hi => by
        show (if (c (idx i) && (le' i == v || bo' i == v)) = true then 1 else 0) = _
        rw [(he i hi).1, (he i hi).2.1]), this]
    apply sm_mono
    intro d _
    show (if hitB idx 0 m d = true then (if (c d && (le d == v || bo d == v)) = true then 1 else 0) else 0) ≤ _
    split
    · exact Nat.le_refl _
    · exact Nat.zero_le _
/-- all that fit -/
theorem opt_all {le bo wt : Nat → Nat} {c : Nat → Bool} {cap : Nat → Nat} {n nv : Nat} (hg : ∀ i, i < n → le i < nv ∧ bo i < nv ∧ le i ≠ bo i) (hc : ∀ i, i < n → c i = true) (hv : ∀ v, v < nv → cnv le bo c n v ≤ cap v) : optN le bo wt n cap = wsm wt c n :=
  opt_cert le bo wt c (fun _ => 0) cap n nv hg (fun i _ _ => Nat.zero_le _) (fun i hi h => by rw [hc i hi] at h; cases h) (fun v h => ⟨hv v h, fun h0 => absurd h0 (Nat.lt_irrefl 0)⟩)
theorem path_cnt {le bo wt : Nat → Nat} {isL c : Nat → Bool} {n nv : Nat} (hg : gwf le bo wt isL n nv) {k : Nat} {f e : Nat → Nat} {t : Nat → Int} (hp : ∀ p, p < k → arcF le bo wt c n (e p) (f p) (f (p + 1)) (t (p + 1) - t p)) (hd : ∀ p q, p < q → q < k → e p ≠ e q) (h0 : isL (f 0) = true) : ∀ p, p ≤ k → ct (tgl c e 0 p) n = ct c n + (if isL (f p) = true then 0 else 1)
  | 0, _ => by rw [tgl_0, h0]; rfl
  | p + 1, h => by
    have ih := path_cnt hg hp hd h0 p (by omega)
    obtain ⟨a1, a2⟩ := hp p (by omega)
    have gi := hg (e p) a1
    have hs : ∀ i, tgl c e 0 (p + 1) i = if i = e p then !(tgl c e 0 p i) else tgl c e 0 p i := tgl_hi hd (by omega) (Nat.zero_le p)
    have hs1 : ∀ i, i ≠ e p → tgl c e 0 (p + 1) i = tgl c e 0 p i := fun i hi => by rw [hs i, if_neg hi]
    have hc : tgl c e 0 p (e p) = c (e p) := by
      unfold tgl
      rw [show hitB e 0 p (e p) = false from hit_f (fun ⟨q, _, h2, h3⟩ => hd q p h2 (by omega) h3)]
      simp
    have hs2 : tgl c e 0 (p + 1) (e p) = !(c (e p)) := by rw [hs (e p), if_pos rfl, hc]
    rcases a2 with ⟨b1, b2, b3, b4⟩ | ⟨b1, b2, b3, b4⟩
    · have x := ct_upd (P := tgl c e 0 p) (Q := tgl c e 0 (p + 1)) (fun i hi => (hs1 i hi).symm) (by rw [hc, b1]) (by rw [hs2, b1]; rfl) n
      rw [if_pos a1] at x
      rw [b2, gi.2.2.1] at ih
      rw [b3, gi.2.2.2.1, x]
      simp only [if_true, Bool.false_eq_true, if_false] at ih ⊢
      omega
    · have x := ct_upd (P := tgl c e 0 (p + 1)) (Q := tgl c e 0 p) (i := e p) (fun i hi => hs1 i hi) (by rw [hs2, b1]; rfl) (by rw [hc, b1]) n
      rw [if_pos a1] at x
      rw [b2, gi.2.2.2.1] at ih
      rw [b3, gi.2.2.1]
      simp only [if_true, Bool.false_eq_true, if_false] at ih ⊢
      omega
theorem ct_full {c : Nat → Bool} : ∀ (n : Nat), ct c n = n → ∀ i, i < n → c i = true
  | 0, _, i, hi => by omega
  | n + 1, h, i, hi => by
    rw [ct_s] at h
    have := ct_le c n
    by_cases hc : c n = true
    · rw [if_pos hc] at h
      by_cases e : i = n
      · rw [e]; exact hc
      · exact ct_full n (by omega) i (by omega)
    · rw [if_neg hc] at h; omega
