/-! ===== pure rows: DEALS by years; runs by seeds; plain answers ===== -/
def ordK (T : tT) (O : Nat → Nat) (k : Nat) : Prop := (∀ i, i < k → O i < k) ∧ ∀ i j, i < j → j < k → T 10 (O i) < T 10 (O j) ∨ (T 10 (O i) = T 10 (O j) ∧ O i < O j)
theorem ordK.y {T : tT} {O : Nat → Nat} {k : Nat} (h : ordK T O k) {i j : Nat} (hij : i ≤ j) (hj : j < k) : T 10 (O i) ≤ T 10 (O j) := by
  by_cases e : i = j
  · rw [e]; exact Nat.le_refl _
  · have := h.2 i j (by omega) hj
    omega
theorem c_ins (T : tT) (hw : twf T) (y : Nat → Int32) (hy : ∀ d, d < T 1 0 → y d = nI (T 10 d)) {O : Nat → Nat} {k : Nat} (hk : k < T 1 0) (hO : ordK T O k) : ∀ (j : Nat) (o : Nat → Int32), j ≤ k → (∀ p, p < j → o p = nI (O p)) → (∀ p, j < p → p ≤ k → o p = nI (O (p - 1))) → (∀ p, j ≤ p → p < k → T 10 k < T 10 (O p)) → ∃ O' o', gn_X10_orderByYear_1 (nI (T 1 0)) y (nI k) (nI j) o = gn_X10_orderByYear_0 (nI (T 1 0)) y (nI (k + 1)) o' ∧ ordK T O' (k + 1) ∧ ∀ p, p < k + 1 → o' p = nI (O' p) := by
  have hn := hw.d
  have hdk := hw.ds hk
  -- the place found
  have hput : ∀ (j : Nat) (o : Nat → Int32), j ≤ k → (∀ p, p < j → o p = nI (O p)) → (∀ p, j < p → p ≤ k → o p = nI (O (p - 1))) → (∀ p, j ≤ p → p < k → T 10 k < T 10 (O p)) → (j = 0 ∨ T 10 (O (j - 1)) ≤ T 10 k) → ∃ O' o', gn_X10_orderByYear_0 (nI (T 1 0)) y (nI (k + 1)) (upd o j (nI k)) = gn_X10_orderByYear_0 (nI (T 1 0)) y (nI (k + 1)) o' ∧ ordK T O' (k + 1) ∧ ∀ p, p < k + 1 → o' p = nI (O' p) := by
    intro j o hj h1 h2 h3 h4
    have hO1 : ∀ p, p < k → (if p = j then k else if p < j then O p else O (p - 1)) = (if p = j then k else if p < j then O p else O (p - 1)) := fun _ _ => rfl
    refine ⟨fun p => if p = j then k else if p < j then O p else O (p - 1), upd o j (nI k), rfl, ⟨fun i hi => ?_, fun a b hab hb => ?_⟩, fun p hp => ?_⟩
    · show (if i = j then k else if i < j then O i else O (i - 1)) < k + 1
      by_cases c1 : i = j
      · rw [if_pos c1]; omega
      · rw [if_neg c1]
        by_cases c2 : i < j
        · rw [if_pos c2]; have := hO.1 i (by omega); omega
        · rw [if_neg c2]; have := hO.1 (i - 1) (by omega); omega
    · show T 10 (if a = j then k else if a < j then O a else O (a - 1)) < T 10 (if b = j then k else if b < j then O b else O (b - 1)) ∨ (T 10 (if a = j then k else if a < j then O a else O (a - 1)) = T 10 (if b = j then k else if b < j then O b else O (b - 1)) ∧ (if a = j then k else if a < j then O a else O (a - 1)) < (if b = j then k else if b < j then O b else O (b - 1)))
      by_cases c1 : a = j
      · rw [if_pos c1, if_neg (show ¬ b = j by omega), if_neg (show ¬ b < j by omega)]
        exact Or.inl (h3 (b - 1) (by omega) (by omega))
      · rw [if_neg c1]
        by_cases c2 : a < j
        · rw [if_pos c2]
          by_cases c3 : b = j
          · rw [if_pos c3]
            have h5 := hO.1 a (by omega)
            have h6 := hO.y (show a ≤ j - 1 by omega) (by omega)
            rcases h4 with h4 | h4
            · omega
            · omega
          · rw [if_neg c3]
            by_cases c4 : b < j
            · rw [if_pos c4]; exact hO.2 a b hab (by omega)
            · rw [if_neg c4]; exact hO.2 a (b - 1) (by omega) (by omega)
        · rw [if_neg c2, if_neg (show ¬ b = j by omega), if_neg (show ¬ b < j by omega)]
          exact hO.2 (a - 1) (b - 1) (by omega) (by omega)
    · show upd o j (nI k) p = nI (if p = j then k else if p < j then O p else O (p - 1))
      by_cases c1 : p = j
      · subst c1; rw [pk_us, if_pos rfl]
      · rw [pk_un c1, if_neg c1]
        by_cases c2 : p < j
        · rw [if_pos c2]; exact h1 p c2
        · rw [if_neg c2]; exact h2 p (by omega) (by omega)
  intro j
  induction j with
  | zero =>
    intro o hj h1 h2 h3
    rw [gq_X10_orderByYear_1, if_pos (show nI 0 ≤ 0 by decide), inb_nI (by omega) (by omega), if_pos rfl, nI_clamp (by omega), nI_1]
    exact hput 0 o (by omega) h1 h2 h3 (Or.inl rfl)
  | succ j ih =>
    intro o hj h1 h2 h3
    have hoj := h1 j (by omega)
    have hOj := hO.1 j (by omega)
    have hdj := hw.ds (show O j < T 1 0 by omega)
    rw [gq_X10_orderByYear_1, if_neg (show ¬ nI (j + 1) ≤ 0 from by rw [pz_le0 (by omega)]; omega), pz_s1 (by omega), Nat.add_sub_cancel, inb_nI (show j < 30 by omega) (by omega), if_pos rfl, nI_clamp (show j < 2 ^ 31 by omega), hoj, inb_nI (show O j < 30 by omega) (by omega), if_pos rfl, inb_nI (show k < 30 by omega) (by omega), if_pos rfl, nI_clamp (show O j < 2 ^ 31 by omega), nI_clamp (show k < 2 ^ 31 by omega), hy _ (by omega), hy k hk, inb_nI (show j + 1 < 30 by omega) (by omega), if_pos rfl, if_pos rfl, if_pos rfl, nI_clamp (show j + 1 < 2 ^ 31 by omega), pz_m1 (by omega), Nat.add_sub_cancel, nI_1]
    simp only [pz_le (show T 10 (O j) < 2 ^ 31 by omega) (show T 10 k < 2 ^ 31 by omega)]
    by_cases c : T 10 (O j) ≤ T 10 k
    · rw [if_pos c]
      exact hput (j + 1) o hj h1 h2 h3 (Or.inr (by rw [Nat.add_sub_cancel]; exact c))
    · rw [if_neg c]
      refine ih (upd o (j + 1) (nI (O j))) (by omega) (fun p hp => ?_) (fun p hp1 hp2 => ?_) (fun p hp1 hp2 => ?_)
      · rw [pk_un (by omega)]; exact h1 p (by omega)
      · by_cases e : p = j + 1
        · subst e; rw [pk_us, Nat.add_sub_cancel]
        · rw [pk_un e]; exact h2 p (by omega) hp2
      · by_cases e : p = j
        · subst e; omega
        · exact h3 p (by omega) hp2
theorem c_orderByYear (T : tT) (hw : twf T) (y : Nat → Int32) (hy : ∀ d, d < T 1 0 → y d = nI (T 10 d)) (o : Nat → Int32) : ∃ O o', dn_X10_orderByYear (nI (T 1 0)) o y = some o' ∧ ordP T O ∧ ∀ p, p < T 1 0 → o' p = nI (O p) := by
  have hn := hw.d
  obtain ⟨o', ⟨O, h1, h2⟩, h3⟩ := pz_rel0 (fun k (q : Nat → Int32) => gn_X10_orderByYear_0 (nI (T 1 0)) y (nI k) q) (T 1 0) (fun k q => ∃ O, ordK T O k ∧ ∀ p, p < k → q p = nI (O p)) o ⟨fun _ => 0, ⟨fun i hi => by omega, fun i j _ hj => by omega⟩, fun p hp => by omega⟩ (by
    rintro k q hk ⟨O, h1, h2⟩
    obtain ⟨O', o', e1, e2, e3⟩ := c_ins T hw y hy hk h1 k q (Nat.le_refl k) h2 (fun p hp1 hp2 => by omega) (fun p hp1 hp2 => by omega)
    refine ⟨o', ⟨O', e2, e3⟩, ?_⟩
    show gn_X10_orderByYear_0 _ _ _ _ = _
    rw [gq_X10_orderByYear_0, if_neg (nI_ge hk (by omega))]
    exact e1)
  refine ⟨O, o', ?_, h1, h2⟩
  have h4 : dn_X10_orderByYear (nI (T 1 0)) o y = gn_X10_orderByYear_0 (nI (T 1 0)) y (nI (T 1 0)) o' := h3
  rw [h4, gq_X10_orderByYear_0, if_pos (nI_le (Nat.le_refl _) (by omega))]
/-- those with an earlier key, in order -/
def byP (T : tT) (y d n : Nat) (od : Nat → Int32) : Prop := ∃ O : Nat → Nat, (∀ p, p < n → od p = nI (O p) ∧ O p < T 1 0 ∧ (T 10 (O p) < y ∨ (T 10 (O p) = y ∧ O p < d))) ∧ (∀ i j, i < j → j < n → T 10 (O i) < T 10 (O j) ∨ (T 10 (O i) = T 10 (O j) ∧ O i < O j)) ∧ ∀ e, e < T 1 0 → (T 10 e < y ∨ (T 10 e = y ∧ e < d)) → ∃ p, p < n ∧ O p = e
theorem m_byYears (T : tT) (hw : twf T) (s : Nat → Int32) (hs : mT T s) (od : Nat → Int32) : ∃ O od', dn_X12_byYears od s = some od' ∧ ordP T O ∧ ∀ p, p < T 1 0 → od' p = nI (O p) := by
  have hn := hw.d
  obtain ⟨⟨n, od'⟩, h1, h2⟩ := pz_rel0 (fun yy (q : Nat × (Nat → Int32)) => gn_X12_byYears_0 s (nI q.1) (nI yy) q.2) 60 (fun yy q => byP T yy 0 q.1 q.2) (0, od) ⟨fun _ => 0, fun p hp => by omega, fun i j _ hj => by omega, fun e he h => by omega⟩ (by
    rintro yy ⟨n, od⟩ hyy hP
    obtain ⟨⟨n', od'⟩, g1, g2⟩ := pz_rel0 (fun d (q : Nat × (Nat → Int32)) => gn_X12_byYears_1 s (nI q.1) (nI yy) (nI d) q.2) (T 1 0) (fun d q => byP T yy d q.1 q.2) (n, od) hP (by
      rintro d ⟨n, od⟩ hd ⟨O, o1, o2, o3⟩
      have hdd := hw.ds hd
      have hpg : n + 1 ≤ T 1 0 ∨ T 10 d ≠ yy := by
        by_cases c : T 10 d = yy
        · left
          exact pz_pigeon (T 1 0) (n + 1) (fun p => if p = n then d else O p) (fun p hp => by
            show (if p = n then d else O p) < T 1 0
            by_cases e : p = n
            · rw [if_pos e]; exact hd
            · rw [if_neg e]; exact (o1 p (by omega)).2.1) (fun i j hij hj => by
            show (if i = n then d else O i) ≠ (if j = n then d else O j)
            rw [if_neg (show ¬ i = n by omega)]
            by_cases e : j = n
            · rw [if_pos e]
              have := (o1 i (by omega)).2.2
              intro x
              rw [x] at this; omega
            · rw [if_neg e]
              have := o2 i j hij (by omega)
              intro x
              rw [x] at this; omega)
        · exact Or.inr c
      have hq : gn_X12_byYears_1 s (nI n) (nI yy) (nI d) od = if T 10 d = yy then gn_X12_byYears_1 s (nI (n + 1)) (nI yy) (nI (d + 1)) (upd od n (nI d)) else gn_X12_byYears_1 s (nI n) (nI yy) (nI (d + 1)) od := by
        rw [gq_X12_byYears_1, show (1 : Int32).toNatClampNeg = 1 from rfl, hs.2.1, if_neg (nI_ge hd (by omega)), m_of2 T hw s hs hd, Option.bind_some, nI_1, nI_1]
        simp only [pz_eq (show T 10 d < 2 ^ 31 by omega) (show yy < 2 ^ 31 by omega)]
        by_cases c : T 10 d = yy
        · have hn1 : n + 1 ≤ T 1 0 := hpg.resolve_right (fun x => x c)
          rw [if_pos c, if_pos c, inb_nI (by omega) (by omega), if_pos rfl, nI_clamp (by omega)]
        · rw [if_neg c, if_neg c]
      by_cases c : T 10 d = yy
      · rw [if_pos c] at hq
        refine ⟨(n + 1, upd od n (nI d)), ⟨fun p => if p = n then d else O p, fun p hp => ?_, fun i j hij hj => ?_, fun e he hle => ?_⟩, hq⟩
        · show upd od n (nI d) p = nI (if p = n then d else O p) ∧ (if p = n then d else O p) < T 1 0 ∧ (T 10 (if p = n then d else O p) < yy ∨ (T 10 (if p = n then d else O p) = yy ∧ (if p = n then d else O p) < d + 1))
          by_cases e : p = n
          · rw [if_pos e, e, pk_us]; exact ⟨rfl, hd, Or.inr ⟨c, by omega⟩⟩
          · have hp' : p < n + 1 := hp
            rw [if_neg e, pk_un e]
            have h3 : p < n := by omega
            have := o1 p h3
            exact ⟨this.1, this.2.1, by omega⟩
        · show T 10 (if i = n then d else O i) < T 10 (if j = n then d else O j) ∨ (T 10 (if i = n then d else O i) = T 10 (if j = n then d else O j) ∧ (if i = n then d else O i) < (if j = n then d else O j))
          have hj' : j < n + 1 := hj
          rw [if_neg (show ¬ i = n by omega)]
          by_cases e : j = n
          · rw [if_pos e]
            have h3 : i < n := by omega
            have := (o1 i h3).2.2
            omega
          · rw [if_neg e]
            have h3 : j < n := by omega
            exact o2 i j hij h3
        · by_cases e2 : e = d
          · exact ⟨n, Nat.lt_succ_self n, by show (if n = n then d else O n) = e; rw [if_pos rfl, e2]⟩
          · obtain ⟨p, p1, p2⟩ := o3 e he (by omega)
            have p1' : p < n := p1
            exact ⟨p, Nat.lt_succ_of_lt p1', by show (if p = n then d else O p) = e; rw [if_neg (by omega)]; exact p2⟩
      · rw [if_neg c] at hq
        refine ⟨(n, od), ⟨O, fun p hp => ?_, o2, fun e he hle => ?_⟩, hq⟩
        · have := o1 p hp
          exact ⟨this.1, this.2.1, by omega⟩
        · by_cases e2 : e = d
          · exact o3 e he (by subst e2; omega)
          · exact o3 e he (by omega))
    refine ⟨(n', od'), ?_, ?_⟩
    · obtain ⟨O, o1, o2, o3⟩ := g1
      refine ⟨O, fun p hp => ?_, o2, fun e he hle => ?_⟩
      · have := o1 p hp
        exact ⟨this.1, this.2.1, by omega⟩
      · exact o3 e he (by omega)
    · show gn_X12_byYears_0 s (nI n) (nI yy) od = gn_X12_byYears_0 s (nI n') (nI (yy + 1)) od'
      have g3 : gn_X12_byYears_1 s (nI n) (nI yy) 0 od = gn_X12_byYears_1 s (nI n') (nI yy) (nI (T 1 0)) od' := g2
      rw [gq_X12_byYears_0, if_neg (show ¬ (60 : Int32) ≤ nI yy from nI_ge (b := 60) hyy (by omega)), g3, gq_X12_byYears_1, show (1 : Int32).toNatClampNeg = 1 from rfl, hs.2.1, if_pos (nI_le (Nat.le_refl _) (by omega)), nI_1])
  obtain ⟨O, o1, o2, o3⟩ := h1
  have hle : n ≤ T 1 0 := pz_pigeon (T 1 0) n O (fun p hp => (o1 p hp).2.1) (fun i j hij hj x => by have := o2 i j hij hj; rw [x] at this; omega)
  have hge : T 1 0 ≤ n := by
    have hf : ∀ e, e < T 1 0 → ∃ p, fo (fun p => O p == e) n = some p ∧ p < n ∧ O p = e := by
      intro e he
      obtain ⟨p, p1, p2⟩ := o3 e he (by have := hw.ds he; omega)
      cases c : fo (fun p => O p == e) n with
      | none =>
        have := (fo_none _ _).mp c p p1
        simp [p2] at this
      | some q =>
        obtain ⟨a, b, _⟩ := fo_some _ _ _ c
        exact ⟨q, rfl, a, eq_of_beq b⟩
    refine pz_pigeon n (T 1 0) (fun e => (fo (fun p => O p == e) n).getD 0) (fun e he => ?_) (fun i j hij hj x => ?_)
    · obtain ⟨p, c, p1, _⟩ := hf e he
      show (fo (fun p => O p == e) n).getD 0 < n
      rw [c]; exact p1
    · obtain ⟨p, c, _, p2⟩ := hf i (by omega)
      obtain ⟨q, c', _, q2⟩ := hf j hj
      have x' : (fo (fun p => O p == i) n).getD 0 = (fo (fun p => O p == j) n).getD 0 := x
      rw [c, c'] at x'
      have : p = q := x'
      rw [this, q2] at p2; omega
  have e : n = T 1 0 := by omega
  refine ⟨O, od', ?_, ⟨fun i hi => (o1 i (by rw [e]; exact hi)).2.1, fun i j hij hj => o2 i j hij (by rw [e]; exact hj)⟩, fun p hp => (o1 p (by rw [e]; exact hp)).1⟩
  have h4 : dn_X12_byYears od s = gn_X12_byYears_0 s (nI n) (nI 60) od' := h2
  rw [h4, gq_X12_byYears_0, if_pos (show (60 : Int32) ≤ nI 60 by decide)]
theorem j_run (T : tT) (hw : twf T) (D : tD) (hD : dwf T D) (dl wy fd : Nat → Int32) (hB : cB T D dl wy fd) (b : Nat → Int32) (hb : ∀ d, d < T 1 0 → b d = nI (T 9 d)) (e : Nat → Int32) (he : ∀ d, d < T 1 0 → e d = nI (T 13 d)) (l : Nat → Int32) (hl : ∀ d, d < T 1 0 → l d = nI (T 8 d)) (m : Nat → Int32) (hm : ∀ p, p < T 0 0 → m p = nI (T 6 p)) (y : Nat → Int32) (hy : ∀ d, d < T 1 0 → y d = nI (T 10 d)) {O : Nat → Nat} (hO : ordP T O) (o : Nat → Int32) (ho : ∀ p, p < T 1 0 → o p = nI (O p)) (s : Nat → Int32) (hs : mT T s) (hs3 : mB D s) (rf sd' : Int32) (ba bf od : Nat → Int32) (p1 : Int32) : ∃ q1, dn_X11_run rf (nI D.1) dl fd wy (nI (T 1 0)) (nI (T 2 0)) b o e l m y p1 = some q1 ∧ ∃ q2, dn_X12_run sd' rf ba bf od s p1 = some q2 ∧ q1.1 = q2.1 ∧ q1.2.2.1 = q2.2.2.2.2.2.1 ∧ ∃ D', dwf T D' ∧ q1.2.1 = nI D'.1 ∧ cB T D' q1.2.2.2.1 q1.2.2.2.2.1 q1.2.2.2.2.2 ∧ mT T q2.2.2.2.2.1 ∧ mB D' q2.2.2.2.2.1 := by
  have hn := hw.d
  unfold dn_X11_run dn_X12_run
  rw [show (1 : Int32).toNatClampNeg = 1 from rfl, hs.2.1, show (3 : Int32).toNatClampNeg = 3 from rfl]
  simp only [pz_e0 (show T 1 0 < 2 ^ 31 by omega)]
  by_cases c0 : T 1 0 = 0
  · rw [if_pos c0, if_pos c0]
    exact ⟨_, rfl, _, rfl, rfl, rfl, D, hD, rfl, hB, hs, hs3⟩
  · obtain ⟨O', od', m1, m2, m3⟩ := m_byYears T hw s hs od
    have hOO : ∀ p, p < T 1 0 → O' p = O p := fun p hp => m2.uniq hO (T 1 0) p hp (Nat.le_refl _)
    rw [if_neg c0, if_neg c0, m1, Option.bind_some]
    have hD0 : dwf T (0, D.2) := hD.pop (Nat.zero_le _)
    have hB0 : cB T (0, D.2) dl wy fd := hB.pop (Nat.zero_le _)
    have hs0 : mT T (upd s 3 0) := hs.same hw (fun k _ h3 => pk_un h3)
    have hm0 : mB (0, D.2) (upd s 3 0) := hs3.pop (Nat.zero_le _)
    have key : ∀ (j k : Nat), k + j = T 1 0 → ∀ (x : Int32) (D : tD) (rf : Int32) (dl wy fd s ba bf : Nat → Int32), dwf T D → cB T D dl wy fd → mT T s → mB D s → ∃ q1, gn_X11_run_0 (nI (T 1 0)) (nI (T 2 0)) b o e l m y x (nI k) (nI D.1) rf dl wy fd = some q1 ∧ ∃ q2, gn_X12_run_0 (nI k) 0 od' x s rf ba bf = some q2 ∧ q1.1 = q2.1 ∧ q1.2.2.1 = q2.2.2.2.2.2.1 ∧ ∃ D', dwf T D' ∧ q1.2.1 = nI D'.1 ∧ cB T D' q1.2.2.2.1 q1.2.2.2.2.1 q1.2.2.2.2.2 ∧ mT T q2.2.2.2.2.1 ∧ mB D' q2.2.2.2.2.1 := by
      intro j
      induction j with
      | zero =>
        intro k hk x D rf dl wy fd s ba bf hD hB hs hs3
        have e : k = T 1 0 := by omega
        rw [gq_X11_run_0, gq_X12_run_0, if_pos (show nI (T 1 0) ≤ nI k from nI_le (by omega) (by omega)), show (1 : Int32).toNatClampNeg = 1 from rfl, hs.2.1, if_pos (show nI (T 1 0) ≤ nI k from nI_le (by omega) (by omega)), show (3 : Int32).toNatClampNeg = 3 from rfl, hs3.1]
        exact ⟨_, rfl, _, rfl, rfl, rfl, D, hD, rfl, hB, hs, hs3⟩
      | succ j ih =>
        intro k hk x D rf dl wy fd s ba bf hD hB hs hs3
        have hkn : k < T 1 0 := by omega
        have hd := hO.1 k hkn
        have hdd := hw.ds hd
        -- one deal tried, in the way t
        have hone : ∀ (x' : Int32) (t : Nat), t ≤ 1 → ∀ (dr : Int32), ¬ dr = 0 → ∃ q1, gn_X11_run_1 (nI (T 1 0)) (nI (T 2 0)) b o e l m y x' (nI k) (nI (O k)) dr (nI (t + 1)) (nI D.1) rf dl wy fd = some q1 ∧ ∃ q2, gn_X12_run_1 (nI k) (nI (O k)) (nI t) 0 od' x' s rf ba bf = some q2 ∧ q1.1 = q2.1 ∧ q1.2.2.1 = q2.2.2.2.2.2.1 ∧ ∃ D', dwf T D' ∧ q1.2.1 = nI D'.1 ∧ cB T D' q1.2.2.2.1 q1.2.2.2.2.1 q1.2.2.2.2.2 ∧ mT T q2.2.2.2.2.1 ∧ mB D' q2.2.2.2.2.1 := by
          intro x' t ht dr hdr
          obtain ⟨ba1, bf1, g1⟩ := m_wrong T hw s hs D hD hs3 ba bf hd ht
          have g2 := c_tryDeal T hw D hD dl wy fd hB b hb e he l hl m hm y hy hd ht
          have hwr : wrT T D (O k) t ≤ 6 := by
            unfold wrT
            repeat' split
            all_goals omega
          rw [gq_X11_run_1, if_neg hdr, g2, gq_X12_run_1, g1, Option.bind_some, nI_1]
          simp only [pz_e0 (show wrT T D (O k) t < 2 ^ 31 by omega)]
          by_cases c : wrT T D (O k) t = 0
          · have hdw := wrT_dwf hD hd ht c
            have hlt : D.1 < 30 := by
              have := hdw.le
              rw [pT_1] at this
              omega
            obtain ⟨s', e1, e2, e3⟩ := m_put D s hs3 hlt (O k) t
            rw [if_pos c, if_pos c, e1, Option.bind_some, Option.bind_some]
            exact ih (k + 1) (by omega) x' (pT D (O k) t) rf _ _ _ s' ba1 bf1 hdw (hB.put (O k) t) (hs.same hw e3) e2
          · rw [if_neg c, if_neg c, Option.bind_some]
            simp only [pz_e0 (show wrT T D (O k) t < 2 ^ 31 by omega)]
            rw [if_neg c]
            exact ih (k + 1) (by omega) x' D (rf + 1) dl wy fd s ba1 bf1 hD hB hs hs3
        have hdw : dn_X12_draw x 4 = some (((((x * 1103515245) + 12345).toUInt32 >>> ((8 : Int32).toUInt32 &&& Int32.toUInt32 31)).toInt32) - ((((x * 1103515245) + 12345).toUInt32 >>> ((8 : Int32).toUInt32 &&& Int32.toUInt32 31)).toInt32) / 4 * 4, (x * 1103515245) + 12345) := by
          unfold dn_X12_draw
          rw [if_pos (by decide)]
        rw [gq_X11_run_0, gq_X12_run_0, if_neg (nI_ge hkn (by omega)), show (1 : Int32).toNatClampNeg = 1 from rfl, hs.2.1, if_neg (nI_ge hkn (by omega)), inb_nI (by omega) (by omega), if_pos rfl, if_pos rfl, nI_clamp (by omega), ho k hkn, m3 k hkn, hOO k hkn, inb_nI (show O k < 30 by omega) (by omega), if_pos rfl, nI_clamp (show O k < 2 ^ 31 by omega), he _ hd, hdw, Option.bind_some, m_of5 T hw s hs hd, Option.bind_some]
        obtain ⟨dr, hdr⟩ : ∃ dr, dr = ((((x * 1103515245) + 12345).toUInt32 >>> ((8 : Int32).toUInt32 &&& Int32.toUInt32 31)).toInt32) - ((((x * 1103515245) + 12345).toUInt32 >>> ((8 : Int32).toUInt32 &&& Int32.toUInt32 31)).toInt32) / 4 * 4 := ⟨_, rfl⟩
        rw [← hdr]
        show ∃ q1, _ = some q1 ∧ ∃ q2, (if dr = 0 then _ else if dr = 1 then _ else _) = some q2 ∧ _
        by_cases c1 : dr = 0
        · rw [if_neg (show ¬ dr = 1 from fun z => by rw [c1] at z; exact absurd z (by decide)), gq_X11_run_1, if_pos c1, if_pos c1, nI_1]
          exact ih (k + 1) (by omega) _ D rf dl wy fd s ba bf hD hB hs hs3
        · rw [if_neg c1]
          by_cases c2 : dr = 1
          · rw [if_pos c2, if_pos c2]
            by_cases c3 : nI (T 13 (O k)) = 1
            · rw [if_pos c3, if_pos c3]
              exact hone _ 1 (by omega) dr c1
            · rw [if_neg c3, if_neg c3]
              exact hone _ 0 (by omega) dr c1
          · rw [if_neg c2, if_neg c2]
            exact hone _ 0 (by omega) dr c1
    exact key (T 1 0) 0 (by omega) p1 (0, D.2) 0 dl wy fd (upd s 3 0) ba bf hD0 hB0 hs0 hm0
