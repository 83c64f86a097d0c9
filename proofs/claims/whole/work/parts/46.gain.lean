/-! ===== pure rows: GAIN of PARTS; the class's ===== -/
def leG (T : tT) (P d : Nat) : Nat := if P.testBit (T 8 d) = true then T 8 d else T 9 d
def boG (T : tT) (P d : Nat) : Nat := if P.testBit (T 8 d) = true then T 9 d else T 8 d
def wtG (T : tT) (P y d : Nat) : Nat := if T 10 d = y ∧ goT T P d = true then T 11 d + T 12 d else 0
def gyT (T : tT) (P : Nat) (cap : Nat → Nat) (y : Nat) : Nat := optN (leG T P) (boG T P) (wtG T P y) (T 1 0) cap
def gainT (T : tT) (P : Nat) (cap : Nat → Nat) : Nat := sm (gyT T P cap) 60
def capT (T : tT) (a : Option Nat) (lim : Nat) : Nat → Nat := fun v => if a = some v then lim else T 6 v
def ordP (T : tT) (O : Nat → Nat) : Prop := (∀ i, i < T 1 0 → O i < T 1 0) ∧ ∀ i j, i < j → j < T 1 0 → T 10 (O i) < T 10 (O j) ∨ (T 10 (O i) = T 10 (O j) ∧ O i < O j)
theorem ordP.ne {T : tT} {O : Nat → Nat} (h : ordP T O) {i j : Nat} (hij : i < j) (hj : j < T 1 0) : O i ≠ O j := fun x => by
  have := h.2 i j hij hj
  rw [x] at this; omega
theorem ordP.y {T : tT} {O : Nat → Nat} (h : ordP T O) {i j : Nat} (hij : i ≤ j) (hj : j < T 1 0) : T 10 (O i) ≤ T 10 (O j) := by
  by_cases e : i = j
  · rw [e]; exact Nat.le_refl _
  · have := h.2 i j (by omega) hj
    omega
theorem ordP.sur {T : tT} {O : Nat → Nat} (h : ordP T O) {d : Nat} (hd : d < T 1 0) : ∃ i, i < T 1 0 ∧ O i = d := by
  apply Classical.byContradiction
  intro hc
  have := pz_pigeon (T 1 0) (T 1 0 + 1) (fun i => if i = T 1 0 then d else O i) (fun i hi => by
    show (if i = T 1 0 then d else O i) < T 1 0
    split
    · exact hd
    · exact h.1 i (by omega)) (fun i j hij hj => by
    show (if i = T 1 0 then d else O i) ≠ (if j = T 1 0 then d else O j)
    rw [if_neg (show ¬ i = T 1 0 by omega)]
    by_cases e : j = T 1 0
    · rw [if_pos e]; exact fun x => hc ⟨i, by omega, x⟩
    · rw [if_neg e]; exact h.ne hij (by omega))
  omega
theorem ordP.uniq {T : tT} {O O' : Nat → Nat} (h : ordP T O) (h' : ordP T O') : ∀ (n i : Nat), i < n → n ≤ T 1 0 → O i = O' i
  | 0, i, hi, _ => by omega
  | n + 1, i, hi, hn => by
    by_cases e : i < n
    · exact ordP.uniq h h' n i e (by omega)
    · have e2 : i = n := by omega
      subst e2
      obtain ⟨j, hj, ej⟩ := h'.sur (h.1 i (by omega))
      obtain ⟨k, hk, ek⟩ := h.sur (h'.1 i (by omega))
      have j1 : i ≤ j := by
        apply Classical.byContradiction
        intro hc
        have := ordP.uniq h h' i j (by omega) (by omega)
        exact h.ne (show j < i by omega) (by omega) (by omega)
      have k1 : i ≤ k := by
        apply Classical.byContradiction
        intro hc
        have := ordP.uniq h h' i k (by omega) (by omega)
        exact h'.ne (show k < i by omega) (by omega) (by omega)
      by_cases c1 : i = j
      · rw [← ej, ← c1]
      · by_cases c2 : i = k
        · rw [← ek, ← c2]
        · have a1 := h'.2 i j (by omega) hj
          have a2 := h.2 i k (by omega) hk
          rw [ej] at a1
          rw [ek] at a2
          omega
theorem cnv_congr {le bo le' bo' : Nat → Nat} {c c' : Nat → Bool} {n : Nat} (v : Nat) (h : ∀ i, i < n → le i = le' i ∧ bo i = bo' i ∧ c i = c' i) : cnv le bo c n v = cnv le' bo' c' n v := ct_congr n (fun k hk => by
  have := h k hk
  show (c k && (le k == v || bo k == v)) = (c' k && (le' k == v || bo' k == v))
  rw [this.1, this.2.1, this.2.2])
theorem goG {T : tT} {P d : Nat} (h : goT T P d = true) : P.testBit (leG T P d) = true ∧ P.testBit (boG T P d) = false := by
  unfold goT at h
  unfold leG boG
  cases c1 : P.testBit (T 8 d) <;> cases c2 : P.testBit (T 9 d) <;> simp [c1, c2] at h ⊢
theorem leG_lt {T : tT} (hw : twf T) {P d : Nat} (hd : d < T 1 0) : leG T P d < T 0 0 ∧ boG T P d < T 0 0 ∧ leG T P d ≠ boG T P d ∧ T 11 d + T 12 d ≤ 198 := by
  have := hw.ds hd
  unfold leG boG
  split
  · exact ⟨this.1, this.2.1, this.2.2.1, by omega⟩
  · exact ⟨this.2.1, this.1, fun x => this.2.2.1 x.symm, by omega⟩
theorem opt_zero {le bo wt : Nat → Nat} : ∀ (n : Nat) (cap : Nat → Nat), (∀ i, i < n → wt i = 0) → optN le bo wt n cap = 0
  | 0, _, _ => rfl
  | n + 1, cap, h => by
    unfold optN
    rw [opt_zero n cap (fun i hi => h i (by omega)), opt_zero n _ (fun i hi => h i (by omega)), h n (by omega)]
    split <;> rfl
theorem gyT_0 {T : tT} {P : Nat} {cap : Nat → Nat} {y : Nat} (h : ∀ d, d < T 1 0 → T 10 d ≠ y) : gyT T P cap y = 0 := opt_zero _ _ (fun i hi => by
  unfold wtG
  rw [if_neg (fun x => h i hi x.1)])
theorem c_gainOfYear {le bo wt : Nat → Nat} {cap : Nat → Nat} {m nv P : Nat} (hP : P < 2 ^ 10) (hg : gwf le bo wt P.testBit m nv) (hnv : nv ≤ 10) (hm : m ≤ 30) {lf bf wf wa rm : Nat → Int32} (hC : fC le bo wt m lf bf wf) (hwa : ∀ v, v < nv → wa v = nI (cnv le bo (fun _ => true) m v)) (hrm : ∀ v, v < nv → cap v ≤ 10 ∧ rm v = nI (cap v)) (ch : Int32) (rc vi : Nat → Int32) : ∃ o, dn_X2_gainOfYear (nI m) ch bf lf rc rm vi wa wf (nI nv) (nI P) = some o ∧ o.1 = nI (optN le bo wt m cap) := by
  have hcl : ∀ v, cnv le bo (fun _ => true) m v ≤ m := fun v => ct_le _ m
  have hfit : dn_X2_allFit rm wa (nI nv) = some (fo (fun v => decide (cap v < cnv le bo (fun _ => true) m v)) nv).isNone := by
    have hr : ∀ k, k < nv → gn_X2_allFit_0 rm wa (nI nv) (nI k) = if cap k < cnv le bo (fun _ => true) m k then some false else gn_X2_allFit_0 rm wa (nI nv) (nI (k + 1)) := by
      intro k hk
      have h1 := hcl k
      have h2 := hrm k hk
      rw [gq_X2_allFit_0, if_neg (nI_ge hk (by omega)), inb_nI (by omega) (by omega), nI_clamp (by omega), hwa k hk, h2.2, nI_1]
      simp only [if_true, pz_le (show cnv le bo (fun _ => true) m k < 2 ^ 31 by omega) (show cap k < 2 ^ 31 by omega)]
      by_cases c : cap k < cnv le bo (fun _ => true) m k
      · rw [if_pos c, if_neg (by omega)]
      · rw [if_neg c, if_pos (by omega)]
    unfold dn_X2_allFit
    rw [show (0 : Int32) = nI 0 from rfl, pz_find (fun k => gn_X2_allFit_0 rm wa (nI nv) (nI k)) (fun v => decide (cap v < cnv le bo (fun _ => true) m v)) (fun _ => false) true nv]
    · cases fo (fun v => decide (cap v < cnv le bo (fun _ => true) m v)) nv <;> rfl
    · intro k hk c
      show gn_X2_allFit_0 _ _ _ _ = _
      rw [hr k hk, if_pos (of_decide_eq_true c)]
    · intro k hk c
      show gn_X2_allFit_0 _ _ _ _ = gn_X2_allFit_0 _ _ _ _
      rw [hr k hk, if_neg (of_decide_eq_false c)]
    · show gn_X2_allFit_0 _ _ _ _ = _
      rw [gq_X2_allFit_0, if_pos (nI_le (Nat.le_refl _) (by omega))]
  have hsum : dn_X2_sumOfGoing (nI m) wf = some (nI (wsm wt (fun _ => true) m)) := by
    have key := pz_fun (fun k (a : Nat) => gn_X2_sumOfGoing_0 (nI m) wf (nI a) (nI k)) (sm (fun i => if true = true then wt i else 0)) m (by
      intro k hk
      show gn_X2_sumOfGoing_0 _ _ _ _ = gn_X2_sumOfGoing_0 _ _ _ _
      rw [gq_X2_sumOfGoing_0, if_neg (nI_ge hk (by omega)), inb_nI (by omega) (by omega), if_pos rfl, nI_clamp (by omega), (hC k hk).2.2, nI_add, nI_1]
      rfl) m (Nat.le_refl _)
    have key' : dn_X2_sumOfGoing (nI m) wf = gn_X2_sumOfGoing_0 (nI m) wf (nI (wsm wt (fun _ => true) m)) (nI m) := key
    rw [key', gq_X2_sumOfGoing_0, if_pos (nI_le (Nat.le_refl _) (by omega))]
  unfold dn_X2_gainOfYear
  rw [hfit, Option.bind_some]
  cases hx : fo (fun v => decide (cap v < cnv le bo (fun _ => true) m v)) nv with
  | none =>
    rw [hsum]
    refine ⟨_, rfl, ?_⟩
    show nI (wsm wt (fun _ => true) m) = _
    rw [opt_all hg.ne (fun i _ => rfl) (fun v hv => by
      have := of_decide_eq_false ((fo_none _ _).mp hx v hv)
      omega)]
  | some v0 =>
    have hz : ∀ v, cnv le bo (fun _ => false) m v = 0 := fun v => by
      have := (fInv_0 (cap := fun _ => 0) hg).2.2.1
      unfold cnv
      have : ∀ m, ct (fun i => false && (le i == v || bo i == v)) m = 0 := by
        intro m
        induction m with
        | zero => rfl
        | succ m ih => rw [ct_s, ih]; simp
      exact this m
    have hb : (0 : Nat).testBit = fun _ => false := funext (fun i => Nat.zero_testBit i)
    have hw0 : wsm wt (fun _ => false) m = 0 := sm_zero m (fun k _ => by simp)
    have hc0 : ct (fun _ => false) m = 0 := by
      have : ∀ m, ct (fun _ => false) m = 0 := by
        intro m
        induction m with
        | zero => rfl
        | succ m ih => rw [ct_s, ih]; simp
      exact this m
    have := c_paths (cap := cap) hP hg hnv hm hC m 0 0 (fun v => if P.testBit v = true then 0 else 198) 198 rm rc vi (by omega) (by decide) (by rw [hb]; exact fInv_0 hg) (fun v => by
      show (if P.testBit v = true then (0 : Int) else 198) ≤ 198
      split <;> omega) (by omega) (by rw [hb]; exact hc0) (fun v hv => by
      rw [hb, hz v, Nat.sub_zero]; exact hrm v hv)
    rw [hb, hw0] at this
    exact this
theorem c_gather (T : tT) (hw : twf T) (b : Nat → Int32) (hb : ∀ d, d < T 1 0 → b d = nI (T 9 d)) (h : Nat → Int32) (hh : ∀ d, d < T 1 0 → h d = nI (T 12 d)) (e : Nat → Int32) (he : ∀ d, d < T 1 0 → e d = nI (T 13 d)) (l : Nat → Int32) (hl : ∀ d, d < T 1 0 → l d = nI (T 8 d)) (g : Nat → Int32) (hg : ∀ d, d < T 1 0 → g d = nI (T 11 d)) {O : Nat → Nat} (hO : ordP T O) (o : Nat → Int32) (ho : ∀ p, p < T 1 0 → o p = nI (O p)) {P lo hi : Nat} (hP : P < 2 ^ 10) (hlo : lo ≤ hi) (hhi : hi ≤ T 1 0) (bf lf wa wf : Nat → Int32) : ∃ (m : Nat) (idx : Nat → Nat) (wa' lf' bf' wf' : Nat → Int32), dn_X2_gather bf lf wa wf b h o e l g (nI P) (nI lo) (nI hi) = some (nI m, wa', lf', bf', wf') ∧ m ≤ hi - lo ∧ fC (fun i => leG T P (idx i)) (fun i => boG T P (idx i)) (fun i => T 11 (idx i) + T 12 (idx i)) m lf' bf' wf' ∧ (∀ v, v < 10 → wa' v = nI (cnv (fun i => leG T P (idx i)) (fun i => boG T P (idx i)) (fun _ => true) m v)) ∧ (∀ i j, i < j → j < m → idx i ≠ idx j) ∧ (∀ i, i < m → ∃ p, lo ≤ p ∧ p < hi ∧ idx i = O p ∧ goT T P (O p) = true) ∧ ∀ p, lo ≤ p → p < hi → goT T P (O p) = true → ∃ i, i < m ∧ idx i = O p := by
  have hn := hw.d
  have hn0 := hw.p
  obtain ⟨⟨go, wa', lf', bf', wf'⟩, h1, h2⟩ := pz_rel (fun k (q : Int32 × (Nat → Int32) × (Nat → Int32) × (Nat → Int32) × (Nat → Int32)) => gn_X2_gather_0 b h o e l g (nI P) (nI hi) (nI k) q.1 q.2.1 q.2.2.1 q.2.2.2.1 q.2.2.2.2) hi (fun k q => lo ≤ k ∧ ∃ (m : Nat) (idx : Nat → Nat), q.1 = nI m ∧ m ≤ k - lo ∧ fC (fun i => leG T P (idx i)) (fun i => boG T P (idx i)) (fun i => T 11 (idx i) + T 12 (idx i)) m q.2.2.1 q.2.2.2.1 q.2.2.2.2 ∧ (∀ v, v < 10 → q.2.1 v = nI (cnv (fun i => leG T P (idx i)) (fun i => boG T P (idx i)) (fun _ => true) m v)) ∧ (∀ i j, i < j → j < m → idx i ≠ idx j) ∧ (∀ i, i < m → ∃ p, lo ≤ p ∧ p < k ∧ idx i = O p ∧ goT T P (O p) = true) ∧ ∀ p, lo ≤ p → p < k → goT T P (O p) = true → ∃ i, i < m ∧ idx i = O p) (by
    rintro k ⟨go, wa, lf, bf, wf⟩ hk ⟨hlk, m, idx, a1, a2, a3, a4, a5, a6, a7⟩
    have a1' : go = nI m := a1
    subst a1'
    have hd := hO.1 k (by omega)
    have dd := hw.ds hd
    have hst : gn_X2_gather_0 b h o e l g (nI P) (nI hi) (nI k) (nI m) wa lf bf wf = if goT T P (O k) = true then gn_X2_gather_0 b h o e l g (nI P) (nI hi) (nI (k + 1)) (nI (m + 1)) (upd (upd wa (T 8 (O k)) (wa (T 8 (O k)) + 1)) (T 9 (O k)) ((upd wa (T 8 (O k)) (wa (T 8 (O k)) + 1)) (T 9 (O k)) + 1)) (upd lf m (nI (leG T P (O k)))) (upd bf m (nI (boG T P (O k)))) (upd wf m (nI (T 11 (O k) + T 12 (O k)))) else gn_X2_gather_0 b h o e l g (nI P) (nI hi) (nI (k + 1)) (nI m) wa lf bf wf := by
      rw [gq_X2_gather_0, if_neg (nI_ge hk (by omega)), inb_nI (by omega) (by omega), if_pos rfl, nI_clamp (by omega), ho k (by omega), c_goesBy T hw b hb e he l hl hd (by omega), Option.bind_some, nI_1, nI_clamp (by omega), hl _ hd, pz_bit (by omega) (by omega), inb_nI (show O k < 30 by omega) (by omega), if_pos rfl, gq_X2_gather_1, gq_X2_gather_1, inb_nI (show O k < 30 by omega) (by omega), if_pos rfl, nI_clamp (show O k < 2 ^ 31 by omega), gq_X2_gather_2, gq_X2_gather_2, gq_X2_gather_2, inb_nI (show m < 30 by omega) (by omega), if_pos rfl, inb_nI (show O k < 30 by omega) (by omega), gq_X2_gather_3, gq_X2_gather_3, gq_X2_gather_3, inb_nI (show m < 30 by omega) (by omega), if_pos rfl, c_bothShares T hw h hh g hg hd, Option.bind_some, inb_nI (show O k < 30 by omega) (by omega)]
      simp only [gq_X2_gather_3, c_bothShares T hw h hh g hg hd, Option.bind_some, inb_nI (show m < 30 by omega) (show 30 < 2 ^ 31 by omega), inb_nI (show O k < 30 by omega) (show 30 < 2 ^ 31 by omega), nI_clamp (show O k < 2 ^ 31 by omega), hl _ hd, hb _ hd, inb_nI (show T 8 (O k) < 10 by omega) (show 10 < 2 ^ 31 by omega), inb_nI (show T 9 (O k) < 10 by omega) (show 10 < 2 ^ 31 by omega), nI_clamp (show m < 2 ^ 31 by omega), nI_clamp (show T 8 (O k) < 2 ^ 31 by omega), nI_clamp (show T 9 (O k) < 2 ^ 31 by omega), nI_1, if_true]
      cases goT T P (O k) with
      | false => rfl
      | true =>
        unfold leG boG
        cases P.testBit (T 8 (O k)) <;> simp [pz_b1]
    by_cases c : goT T P (O k) = true
    · rw [if_pos c] at hst
      have hc1 := goG c
      have hc2 := leG_lt hw (P := P) hd
      refine ⟨(nI (m + 1), _, _, _, _), ⟨by omega, m + 1, fun i => if i = m then O k else idx i, rfl, by omega, fun i hi => ?_, fun v hv => ?_, fun i j hij hj => ?_, fun i hi => ?_, fun p hp1 hp2 hp3 => ?_⟩, hst⟩
      · show upd lf m (nI (leG T P (O k))) i = nI (leG T P (if i = m then O k else idx i)) ∧ upd bf m (nI (boG T P (O k))) i = nI (boG T P (if i = m then O k else idx i)) ∧ upd wf m (nI (T 11 (O k) + T 12 (O k))) i = nI (T 11 (if i = m then O k else idx i) + T 12 (if i = m then O k else idx i))
        by_cases e1 : i = m
        · subst e1
          rw [if_pos rfl, pk_us, pk_us, pk_us]; exact ⟨rfl, rfl, rfl⟩
        · rw [if_neg e1, pk_un e1, pk_un e1, pk_un e1]
          exact a3 i (by omega)
      · show upd (upd wa (T 8 (O k)) (wa (T 8 (O k)) + 1)) (T 9 (O k)) ((upd wa (T 8 (O k)) (wa (T 8 (O k)) + 1)) (T 9 (O k)) + 1) v = nI (cnv (fun i => leG T P (if i = m then O k else idx i)) (fun i => boG T P (if i = m then O k else idx i)) (fun _ => true) (m + 1) v)
        rw [cnv_s, cnv_congr (le' := fun i => leG T P (idx i)) (bo' := fun i => boG T P (idx i)) (c' := fun _ => true) v (fun i hi => by
          show leG T P (if i = m then O k else idx i) = _ ∧ boG T P (if i = m then O k else idx i) = _ ∧ _
          rw [if_neg (show ¬ i = m by omega)]; exact ⟨rfl, rfl, rfl⟩)]
        have hv4 := a4 v hv
        have hv4' : wa v = _ := hv4
        have hvc : (v = leG T P (O k) ∨ v = boG T P (O k)) ↔ (v = T 8 (O k) ∨ v = T 9 (O k)) := by
          unfold leG boG
          split
          · exact Iff.rfl
          · exact Or.comm
        simp only [eq_self, if_true, true_and, hvc]
        by_cases e1 : v = T 9 (O k)
        · subst e1
          rw [pk_us, pk_un (fun x => dd.2.2.1 x.symm), hv4', if_pos (Or.inr rfl), nI_1]
        · rw [pk_un e1]
          by_cases e2 : v = T 8 (O k)
          · subst e2
            rw [pk_us, hv4', if_pos (Or.inl rfl), nI_1]
          · rw [pk_un e2, hv4', if_neg (fun x => x.elim e2 e1), Nat.add_zero]
      · show (if i = m then O k else idx i) ≠ (if j = m then O k else idx j)
        rw [if_neg (show ¬ i = m by omega)]
        by_cases e1 : j = m
        · rw [if_pos e1]
          obtain ⟨p, p1, p2, p3, _⟩ := a6 i (by omega)
          rw [p3]; exact hO.ne p2 (by omega)
        · rw [if_neg e1]; exact a5 i j hij (by omega)
      · show ∃ p, lo ≤ p ∧ p < k + 1 ∧ (if i = m then O k else idx i) = O p ∧ goT T P (O p) = true
        by_cases e1 : i = m
        · rw [if_pos e1]; exact ⟨k, hlk, by omega, rfl, c⟩
        · rw [if_neg e1]
          obtain ⟨p, p1, p2, p3⟩ := a6 i (by omega)
          exact ⟨p, p1, by omega, p3⟩
      · by_cases e1 : p = k
        · subst e1
          exact ⟨m, by omega, if_pos rfl⟩
        · obtain ⟨i, i1, i2⟩ := a7 p hp1 (by omega) hp3
          exact ⟨i, by omega, by show (if i = m then O k else idx i) = O p; rw [if_neg (by omega)]; exact i2⟩
    · rw [if_neg c] at hst
      refine ⟨(nI m, wa, lf, bf, wf), ⟨by omega, m, idx, rfl, by omega, a3, a4, a5, fun i hi => ?_, fun p hp1 hp2 hp3 => ?_⟩, hst⟩
      · obtain ⟨p, p1, p2, p3⟩ := a6 i hi
        exact ⟨p, p1, by omega, p3⟩
      · by_cases e1 : p = k
        · subst e1; exact absurd hp3 c
        · exact a7 p hp1 (by omega) hp3) (hi - lo) lo (0, jfill 10 wa 0, lf, bf, wf) (by omega) ⟨Nat.le_refl lo, 0, fun _ => 0, rfl, Nat.zero_le _, fun i hi => by omega, fun v hv => by
        show jfill 10 wa 0 v = nI 0
        unfold jfill
        rw [if_pos hv]; rfl, fun i j _ hj => by omega, fun i hi => by omega, fun p h1 h2 => by omega⟩
  obtain ⟨_, m, idx, a1, a2, a3, a4, a5, a6, a7⟩ := h1
  have a1' : go = nI m := a1
  subst a1'
  refine ⟨m, idx, wa', lf', bf', wf', ?_, a2, a3, a4, a5, a6, a7⟩
  have h3 : dn_X2_gather bf lf wa wf b h o e l g (nI P) (nI lo) (nI hi) = gn_X2_gather_0 b h o e l g (nI P) (nI hi) (nI hi) (nI m) wa' lf' bf' wf' := h2
  rw [h3, gq_X2_gather_0, if_pos (nI_le (Nat.le_refl _) (by omega))]
