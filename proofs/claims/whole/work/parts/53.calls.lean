/-! ===== pure rows: calls of deals done, and of what is a PERSON ===== -/
theorem pz_t01 (x : Int32) : (x < 0 ∨ nI 2 ≤ x) ∨ x = nI 0 ∨ x = nI 1 := by
  rcases pz_ix x (n := 2) (by omega) with h | ⟨j, hj, e⟩
  · exact Or.inl h
  · have : j = 0 ∨ j = 1 := by omega
    rcases this with h | h
    · subst h; exact Or.inr (Or.inl e)
    · subst h; exact Or.inr (Or.inr e)
theorem m_in01_f {p : Int32} (h : p < 0 ∨ nI 2 ≤ p) : dn_X12_isIn p 0 1 = some false := m_isIn_f (n := 2) (by omega) h
theorem m_in01_t {t : Nat} (h : t ≤ 1) : dn_X12_isIn (nI t) 0 1 = some true := m_isIn_t (n := 2) (by omega) (by omega)
theorem m_in59_f {p : Int32} (h : p < 0 ∨ nI 60 ≤ p) : dn_X12_isIn p 0 59 = some false := m_isIn_f (n := 60) (by omega) h
theorem m_in59_t {t : Nat} (h : t < 60) : dn_X12_isIn (nI t) 0 59 = some true := m_isIn_t (n := 60) (by omega) h
theorem c_isYear_f {p : Int32} (h : p < 0 ∨ nI 60 ≤ p) : dn_X11_isYear p = some false := by
  unfold dn_X11_isYear
  by_cases c : p < 0
  · rw [if_pos c]
  · rw [if_neg c, if_pos (show (60 : Int32) ≤ p from h.resolve_left c)]
theorem c_isYear_t {t : Nat} (h : t < 60) : dn_X11_isYear (nI t) = some true := by
  unfold dn_X11_isYear
  rw [if_neg (nI_pos (by omega)), if_neg (show ¬ (60 : Int32) ≤ nI t from nI_ge (b := 60) h (by omega))]
theorem j_does (T : tT) (hw : twf T) (D : tD) (hD : dwf T D) (dl wy fd : Nat → Int32) (hB : cB T D dl wy fd) (b : Nat → Int32) (hb : ∀ d, d < T 1 0 → b d = nI (T 9 d)) (e : Nat → Int32) (he : ∀ d, d < T 1 0 → e d = nI (T 13 d)) (l : Nat → Int32) (hl : ∀ d, d < T 1 0 → l d = nI (T 8 d)) (m : Nat → Int32) (hm : ∀ p, p < T 0 0 → m p = nI (T 6 p)) (y : Nat → Int32) (hy : ∀ d, d < T 1 0 → y d = nI (T 10 d)) (s : Nat → Int32) (hs : mT T s) (hs3 : mB D s) (ba bf : Nat → Int32) (p1 p2 : Int32) : ∃ q1, dn_X11_does (nI D.1) dl fd wy (nI (T 1 0)) (nI (T 2 0)) b e l m y p1 p2 = some q1 ∧ ∃ q2, dn_X12_does ba bf s p1 p2 = some q2 ∧ q1.1 = q2.1 ∧ ∃ D', dwf T D' ∧ q1.2.2.2.2 = nI D'.1 ∧ cB T D' q1.2.1 q1.2.2.1 q1.2.2.2.1 ∧ mT T q2.2.2.2.2 ∧ mB D' q2.2.2.2.2 := by
  have h1 := hw.d
  have hn := hD.le
  rcases pz_ix p1 (n := T 1 0) (by omega) with hp | ⟨d, hd, rfl⟩
  · unfold dn_X11_does dn_X12_does
    rw [c_hasDeal_f hp, m_isDeal_f T hw s hs hp]
    exact ⟨_, rfl, _, rfl, rfl, D, hD, rfl, hB, hs, hs3⟩
  · rcases pz_t01 p2 with hp | hp
    · unfold dn_X11_does dn_X12_does
      rw [c_hasDeal_t (by omega) hd, m_isDeal_t T hw s hs hd, Option.bind_some, Option.bind_some, m_in01_f hp, if_pos rfl, if_pos rfl]
      refine ⟨(-1, dl, wy, fd, nI D.1), ?_, _, rfl, rfl, D, hD, rfl, hB, hs, hs3⟩
      by_cases c : p2 < 0
      · rw [if_pos c]
      · rw [if_neg c, if_neg]
        have h2 := hp.resolve_left c
        rw [Int32.le_iff_toInt_le, show (1 : Int32) = nI 1 from rfl, nI_toInt (by omega)]
        rw [Int32.le_iff_toInt_le, nI_toInt (by omega)] at h2
        omega
    · have hp' : ∃ t : Nat, t ≤ 1 ∧ p2 = nI t := by
        rcases hp with hp | hp
        · exact ⟨0, by omega, hp⟩
        · exact ⟨1, by omega, hp⟩
      obtain ⟨t, ht, rfl⟩ := hp'
      obtain ⟨ba1, bf1, g1⟩ := m_wrong T hw s hs D hD hs3 ba bf hd ht
      have g2 := c_tryDeal T hw D hD dl wy fd hB b hb e he l hl m hm y hy hd ht
      have hwr : wrT T D d t ≤ 6 := by
        unfold wrT
        repeat' split
        all_goals omega
      have gq : dn_X11_does (nI D.1) dl fd wy (nI (T 1 0)) (nI (T 2 0)) b e l m y (nI d) (nI t) = if wrT T D d t = 0 then some (0, upd dl D.1 (nI d), upd wy D.1 (nI (t + 1)), upd fd D.1 (nI (fbT T D.2 D.1 d)), nI (D.1 + 1)) else some (nI (wrT T D d t), dl, wy, fd, nI D.1) := by
        unfold dn_X11_does
        rw [c_hasDeal_t (by omega) hd, Option.bind_some, if_pos rfl, if_neg (nI_pos (by omega)), if_pos (show nI t ≤ 1 from nI_le (b := 1) ht (by omega))]
        have ht2 : t = 0 ∨ t = 1 := by omega
        rcases ht2 with ht2 | ht2
        · subst ht2
          rw [if_neg (show ¬ nI 0 = 1 by decide), show (1 : Int32) = nI (0 + 1) from rfl, g2]
          split <;> rfl
        · subst ht2
          rw [if_pos (show nI 1 = 1 by decide), show (2 : Int32) = nI (1 + 1) from rfl, g2]
          split <;> rfl
      unfold dn_X12_does
      rw [gq, m_isDeal_t T hw s hs hd, Option.bind_some, if_pos rfl, m_in01_t ht, Option.bind_some, if_pos rfl, g1, Option.bind_some]
      simp only [pz_e0 (show wrT T D d t < 2 ^ 31 by omega)]
      by_cases c : wrT T D d t = 0
      · have hdw := wrT_dwf hD hd ht c
        have hlt : D.1 < 30 := by
          have := hdw.le
          rw [pT_1] at this
          omega
        obtain ⟨s', e1, e2, e3⟩ := m_put D s hs3 hlt d t
        rw [if_pos c, if_pos c, e1, Option.bind_some]
        exact ⟨_, rfl, _, rfl, by rw [c]; rfl, pT D d t, hdw, rfl, hB.put d t, hs.same hw e3, e2⟩
      · rw [if_neg c, if_neg c]
        exact ⟨_, rfl, _, rfl, rfl, D, hD, rfl, hB, hs, hs3⟩
theorem j_undo (T : tT) (hw : twf T) (D : tD) (hD : dwf T D) (dl wy fd : Nat → Int32) (hB : cB T D dl wy fd) (s : Nat → Int32) (hs : mT T s) (hs3 : mB D s) : ∃ q1, dn_X11_undo (nI D.1) = some q1 ∧ ∃ q2, dn_X12_undo s = some q2 ∧ q1.1 = q2.1 ∧ ∃ D', dwf T D' ∧ q1.2 = nI D'.1 ∧ cB T D' dl wy fd ∧ mT T q2.2.2 ∧ mB D' q2.2.2 := by
  have h1 := hw.d
  have hn := hD.le
  unfold dn_X11_undo dn_X12_undo
  rw [show (3 : Int32).toNatClampNeg = 3 from rfl, hs3.1]
  simp only [pz_e0 (show D.1 < 2 ^ 31 by omega)]
  by_cases c : D.1 = 0
  · rw [if_pos c, if_pos c]
    exact ⟨_, rfl, _, rfl, rfl, D, hD, rfl, hB, hs, hs3⟩
  · rw [if_neg c, if_neg c, c_dropLast (by omega), Option.bind_some, pk_us, pz_s1 (by omega)]
    exact ⟨_, rfl, _, rfl, rfl, (D.1 - 1, D.2), hD.pop (by omega), rfl, hB.pop (by omega), hs.same hw (fun k _ h3 => pk_un h3), hs3.pop (by omega)⟩
theorem j_is (T : tT) (hw : twf T) (D : tD) (hD : dwf T D) (dl wy fd : Nat → Int32) (hB : cB T D dl wy fd) (b : Nat → Int32) (hb : ∀ d, d < T 1 0 → b d = nI (T 9 d)) (l : Nat → Int32) (hl : ∀ d, d < T 1 0 → l d = nI (T 8 d)) (y : Nat → Int32) (hy : ∀ d, d < T 1 0 → y d = nI (T 10 d)) (s : Nat → Int32) (hs : mT T s) (hs3 : mB D s) (ba bf : Nat → Int32) (p1 p2 : Int32) : ∃ q1, dn_X11_is (nI D.1) dl fd wy (nI (T 0 0)) (nI (T 2 0)) b l y p1 p2 = some q1 ∧ ∃ q2, dn_X12_is ba bf s p1 p2 = some q2 ∧ q1 = q2.1 := by
  have h1 := hw.p
  unfold dn_X11_is dn_X12_is
  rcases pz_ix p1 (n := T 0 0) (by omega) with hp | ⟨p, hp, rfl⟩
  · rw [c_hasPerson_f hp, m_isPerson_f T hw s hs hp]
    exact ⟨_, rfl, _, rfl, rfl⟩
  · rw [c_hasPerson_t (by omega) hp, m_isPerson_t T hw s hs hp, Option.bind_some, Option.bind_some, if_pos rfl, if_pos rfl]
    rcases pz_ix p2 (n := 60) (by omega) with hy2 | ⟨yy, hy2, rfl⟩
    · rw [c_isYear_f hy2, m_in59_f hy2]
      exact ⟨_, rfl, _, rfl, rfl⟩
    · obtain ⟨ba1, bf1, g1, g2⟩ := m_bind T hw s hs D hD hs3 ba bf (yy := yy) (by omega)
      rw [c_isYear_t hy2, m_in59_t hy2, Option.bind_some, Option.bind_some, if_pos rfl, if_pos rfl, c_whatIs T hw D hD dl wy fd hB b hb l hl y hy hp (by omega), Option.bind_some, g1, Option.bind_some, m_now T hw s hs D hD ba1 bf1 (Nat.le_refl _) hp (by omega) g2, Option.bind_some]
      exact ⟨_, rfl, _, rfl, rfl⟩
theorem bs_stepN {P : Nat → Bool} {n : Nat} (hn : n < 32) : (if P n = true then nI (bs P n) ||| (1 : Int32) <<< (nI n &&& 31) else nI (bs P n)) = nI (bs P (n + 1)) := by
  by_cases c : P n = true
  · rw [if_pos c, pz_1shl hn, bs_step c]
  · rw [if_neg c, bs_stay (by simpa using c)]
theorem pz_or0 (x : Int32) : x ||| 0 = x := Int32.or_zero
theorem j_may (T : tT) (hw : twf T) (D : tD) (hD : dwf T D) (dl wy fd : Nat → Int32) (hB : cB T D dl wy fd) (b : Nat → Int32) (hb : ∀ d, d < T 1 0 → b d = nI (T 9 d)) (e : Nat → Int32) (he : ∀ d, d < T 1 0 → e d = nI (T 13 d)) (l : Nat → Int32) (hl : ∀ d, d < T 1 0 → l d = nI (T 8 d)) (m : Nat → Int32) (hm : ∀ p, p < T 0 0 → m p = nI (T 6 p)) (y : Nat → Int32) (hy : ∀ d, d < T 1 0 → y d = nI (T 10 d)) (s : Nat → Int32) (hs : mT T s) (hs3 : mB D s) (ba bf : Nat → Int32) (p1 : Int32) : ∃ q1, dn_X11_may (nI D.1) dl fd wy (nI (T 1 0)) (nI (T 2 0)) b e l m y p1 = some q1 ∧ ∃ q2, dn_X12_may ba bf s p1 = some q2 ∧ q1 = q2.1 := by
  have h1 := hw.d
  rcases pz_t01 p1 with hp | hp
  · unfold dn_X11_may dn_X12_may
    rw [m_in01_f hp]
    refine ⟨-1, ?_, _, rfl, rfl⟩
    by_cases c : p1 < 0
    · rw [if_pos c]
    · rw [if_neg c, if_neg]
      have h2 := hp.resolve_left c
      rw [Int32.le_iff_toInt_le, show (1 : Int32) = nI 1 from rfl, nI_toInt (by omega)]
      rw [Int32.le_iff_toInt_le, nI_toInt (by omega)] at h2
      omega
  · have hp' : ∃ t : Nat, t ≤ 1 ∧ p1 = nI t := by
      rcases hp with hp | hp
      · exact ⟨0, by omega, hp⟩
      · exact ⟨1, by omega, hp⟩
    obtain ⟨t, ht, rfl⟩ := hp'
    have hwr : ∀ d, wrT T D d t ≤ 6 := fun d => by
      unfold wrT
      repeat' split
      all_goals omega
    have key := pz_fun (fun k (a : Nat) => gn_X11_may_0 (nI D.1) dl fd wy (nI (T 1 0)) (nI (T 2 0)) b e l m y (nI (t + 1)) (nI a) (nI k)) (bs (fun d => wrT T D d t == 0)) (T 1 0) (by
      intro k hk
      show gn_X11_may_0 _ _ _ _ _ _ _ _ _ _ _ _ _ _ = gn_X11_may_0 _ _ _ _ _ _ _ _ _ _ _ _ _ _
      have hwk := hwr k
      rw [gq_X11_may_0, if_neg (nI_ge hk (by omega)), c_wrongOf T hw D hD dl wy fd hB b hb e he l hl m hm y hy hk ht, Option.bind_some, ← bs_stepN (show k < 32 by omega), nI_1]
      simp only [pz_e0 (show wrT T D k t < 2 ^ 31 by omega), beq_iff_eq]
      split <;> rfl) (T 1 0) (Nat.le_refl _)
    have key' : gn_X11_may_0 (nI D.1) dl fd wy (nI (T 1 0)) (nI (T 2 0)) b e l m y (nI (t + 1)) 0 0 = some (nI (bs (fun d => wrT T D d t == 0) (T 1 0))) := by
      have : gn_X11_may_0 (nI D.1) dl fd wy (nI (T 1 0)) (nI (T 2 0)) b e l m y (nI (t + 1)) 0 0 = gn_X11_may_0 (nI D.1) dl fd wy (nI (T 1 0)) (nI (T 2 0)) b e l m y (nI (t + 1)) (nI (bs (fun d => wrT T D d t == 0) (T 1 0))) (nI (T 1 0)) := key
      rw [this, gq_X11_may_0, if_pos (nI_le (Nat.le_refl _) (by omega))]
    obtain ⟨q, g1, g2⟩ := pz_rel0 (fun k (q : Int32 × (Nat → Int32) × (Nat → Int32)) => gn_X12_may_0 s (nI t) q.1 (nI k) 0 q.2.1 q.2.2) (T 1 0) (fun k q => q.1 = nI (bs (fun d => wrT T D d t == 0) k)) (0, ba, bf) rfl (by
      rintro k ⟨a, ba, bf⟩ hk ha
      have ha' : a = nI (bs (fun d => wrT T D d t == 0) k) := ha
      subst ha'
      obtain ⟨ba1, bf1, w1⟩ := m_wrong T hw s hs D hD hs3 ba bf hk ht
      have hwk := hwr k
      refine ⟨(nI (bs (fun d => wrT T D d t == 0) (k + 1)), ba1, bf1), rfl, ?_⟩
      show gn_X12_may_0 _ _ _ _ _ _ _ = gn_X12_may_0 _ _ _ _ _ _ _
      rw [gq_X12_may_0, show (1 : Int32).toNatClampNeg = 1 from rfl, hs.2.1, if_neg (nI_ge hk (by omega)), w1, Option.bind_some, ← bs_stepN (show k < 32 by omega), nI_1, pz_or0]
      simp only [pz_e0 (show wrT T D k t < 2 ^ 31 by omega), beq_iff_eq]
      split <;> rfl)
    have g3 : gn_X12_may_0 s (nI t) 0 0 0 ba bf = some (q.1, 0, q.2.1, q.2.2) := by
      have : gn_X12_may_0 s (nI t) 0 0 0 ba bf = gn_X12_may_0 s (nI t) q.1 (nI (T 1 0)) 0 q.2.1 q.2.2 := g2
      rw [this, gq_X12_may_0, show (1 : Int32).toNatClampNeg = 1 from rfl, hs.2.1, if_pos (nI_le (Nat.le_refl _) (by omega))]
    refine ⟨nI (bs (fun d => wrT T D d t == 0) (T 1 0)), ?_, (q.1, 0, q.2.1, q.2.2), ?_, g1.symm⟩
    · unfold dn_X11_may
      rw [if_neg (nI_pos (by omega)), if_pos (show nI t ≤ 1 from nI_le (b := 1) ht (by omega))]
      have ht2 : t = 0 ∨ t = 1 := by omega
      rcases ht2 with ht2 | ht2
      · subst ht2
        rw [if_neg (show ¬ nI 0 = 1 by decide)]; exact key'
      · subst ht2
        rw [if_pos (show nI 1 = 1 by decide)]; exact key'
    · unfold dn_X12_may
      rw [m_in01_t ht, Option.bind_some, if_pos rfl]
      exact g3
theorem j_had (T : tT) (hw : twf T) (D : tD) (hD : dwf T D) (b : Nat → Int32) (hb : ∀ d, d < T 1 0 → b d = nI (T 9 d)) (h : Nat → Int32) (hh : ∀ d, d < T 1 0 → h d = nI (T 12 d)) (l : Nat → Int32) (hl : ∀ d, d < T 1 0 → l d = nI (T 8 d)) (g : Nat → Int32) (hg : ∀ d, d < T 1 0 → g d = nI (T 11 d)) (dl : Nat → Int32) (hdl : ∀ i, i < D.1 → dl i = nI (D.2 i).1) (s : Nat → Int32) (hs : mT T s) (hs3 : mB D s) (p1 : Int32) : ∃ q1, dn_X11_had (nI D.1) dl (nI (T 0 0)) b h l g p1 = some q1 ∧ ∃ q2, dn_X12_had s p1 = some q2 ∧ q1 = q2.1 := by
  have h1 := hw.p
  have h2 := hw.d
  have hn := hD.le
  unfold dn_X11_had dn_X12_had
  rcases pz_ix p1 (n := T 0 0) (by omega) with hp | ⟨p, hp, rfl⟩
  · rw [c_hasPerson_f hp, m_isPerson_f T hw s hs hp]
    exact ⟨_, rfl, _, rfl, rfl⟩
  · have key := pz_fun (fun k (a : Nat) => gn_X0_sharesOf_0 (nI D.1) dl b h l g (nI p) (nI a) (nI k)) (sm (fun i => shT T (D.2 i).1 p)) D.1 (by
      intro k hk
      show gn_X0_sharesOf_0 _ _ _ _ _ _ _ _ _ = gn_X0_sharesOf_0 _ _ _ _ _ _ _ _ _
      rw [gq_X0_sharesOf_0, if_neg (nI_ge hk (by omega)), inb_nI (by omega) (by omega), if_pos rfl, nI_clamp (by omega), hdl k hk, c_shareOf T hw b hb h hh l hl g hg (hD.1 k hk).1 (by omega), Option.bind_some, nI_add, nI_1, sm_s]) D.1 (Nat.le_refl _)
    have key' : dn_X0_sharesOf (nI D.1) dl b h l g (nI p) = some (nI (sm (fun i => shT T (D.2 i).1 p) D.1)) := by
      have : dn_X0_sharesOf (nI D.1) dl b h l g (nI p) = gn_X0_sharesOf_0 (nI D.1) dl b h l g (nI p) (nI (sm (fun i => shT T (D.2 i).1 p) D.1)) (nI D.1) := key
      rw [this, gq_X0_sharesOf_0, if_pos (nI_le (Nat.le_refl _) (by omega))]
    have ke2 := pz_fun (fun k (a : Nat) => gn_X12_had_0 s (nI p) (nI a) (nI k) 0) (sm (fun i => shT T (D.2 i).1 p)) D.1 (by
      intro k hk
      show gn_X12_had_0 _ _ _ _ _ = gn_X12_had_0 _ _ _ _ _
      rw [gq_X12_had_0, show (3 : Int32).toNatClampNeg = 3 from rfl, hs3.1, if_neg (nI_ge hk (by omega)), show (224 : Int32) = nI 224 from rfl, nI_add, inb_nI (by omega) (by omega), if_pos rfl, nI_clamp (by omega), (hs3.2 k hk).1, m_gainOf T hw s hs (hD.1 k hk).1 (by omega), Option.bind_some, nI_add, nI_1, sm_s]) D.1 (Nat.le_refl _)
    have ke2' : gn_X12_had_0 s (nI p) 0 0 0 = some (nI (sm (fun i => shT T (D.2 i).1 p) D.1), 0) := by
      have : gn_X12_had_0 s (nI p) 0 0 0 = gn_X12_had_0 s (nI p) (nI (sm (fun i => shT T (D.2 i).1 p) D.1)) (nI D.1) 0 := ke2
      rw [this, gq_X12_had_0, show (3 : Int32).toNatClampNeg = 3 from rfl, hs3.1, if_pos (nI_le (Nat.le_refl _) (by omega))]
    rw [c_hasPerson_t (by omega) hp, m_isPerson_t T hw s hs hp, Option.bind_some, Option.bind_some, if_pos rfl, if_pos rfl, key', ke2', Option.bind_some]
    exact ⟨_, rfl, _, rfl, rfl⟩
theorem j_goes (T : tT) (hw : twf T) (b : Nat → Int32) (hb : ∀ d, d < T 1 0 → b d = nI (T 9 d)) (e : Nat → Int32) (he : ∀ d, d < T 1 0 → e d = nI (T 13 d)) (l : Nat → Int32) (hl : ∀ d, d < T 1 0 → l d = nI (T 8 d)) (s : Nat → Int32) (hs : mT T s) (p1 : Int32) : ∃ q1, dn_X11_goes (nI (T 0 0)) (nI (T 1 0)) b e l p1 = some q1 ∧ ∃ q2, dn_X12_goes s p1 = some q2 ∧ q1 = q2.1 := by
  have h1 := hw.p
  have h2 := hw.d
  have hp10 := pz_10 h1
  unfold dn_X11_goes dn_X12_goes
  rcases pz_ix p1 (n := 2 ^ T 0 0) (by omega) with hp | ⟨P, hP, rfl⟩
  · rw [c_hasParts_f h1 hp, m_isParts_f T hw s hs hp]
    exact ⟨_, rfl, _, rfl, rfl⟩
  · have key := pz_fun (fun k (a : Nat) => gn_X11_goes_0 (nI (T 1 0)) b e l (nI P) (nI a) (nI k)) (bs (goT T P)) (T 1 0) (by
      intro k hk
      show gn_X11_goes_0 _ _ _ _ _ _ _ = gn_X11_goes_0 _ _ _ _ _ _ _
      rw [gq_X11_goes_0, if_neg (nI_ge hk (by omega)), c_goesBy T hw b hb e he l hl hk (by omega), Option.bind_some, ← bs_stepN (show k < 32 by omega), nI_1]
      split <;> rfl) (T 1 0) (Nat.le_refl _)
    have key' : gn_X11_goes_0 (nI (T 1 0)) b e l (nI P) 0 0 = some (nI (bs (goT T P) (T 1 0))) := by
      have : gn_X11_goes_0 (nI (T 1 0)) b e l (nI P) 0 0 = gn_X11_goes_0 (nI (T 1 0)) b e l (nI P) (nI (bs (goT T P) (T 1 0))) (nI (T 1 0)) := key
      rw [this, gq_X11_goes_0, if_pos (nI_le (Nat.le_refl _) (by omega))]
    have ke2 := pz_fun (fun k (a : Nat) => gn_X12_goes_0 s (nI P) (nI a) (nI k) 0) (bs (goT T P)) (T 1 0) (by
      intro k hk
      show gn_X12_goes_0 _ _ _ _ _ = gn_X12_goes_0 _ _ _ _ _
      have hga := gaT_le T P k
      rw [gq_X12_goes_0, show (1 : Int32).toNatClampNeg = 1 from rfl, hs.2.1, if_neg (nI_ge hk (by omega)), m_goesAs T hw s hs hk (by omega), Option.bind_some, ← bs_stepN (show k < 32 by omega), nI_1, pz_or0, gaT_go]
      simp only [pz_le0 (show gaT T P k < 2 ^ 31 by omega), decide_eq_true_eq]
      by_cases c : gaT T P k = 0
      · rw [if_pos c, if_neg (by omega)]
      · rw [if_neg c, if_pos (by omega)]) (T 1 0) (Nat.le_refl _)
    have ke2' : gn_X12_goes_0 s (nI P) 0 0 0 = some (nI (bs (goT T P) (T 1 0)), 0) := by
      have : gn_X12_goes_0 s (nI P) 0 0 0 = gn_X12_goes_0 s (nI P) (nI (bs (goT T P) (T 1 0))) (nI (T 1 0)) 0 := ke2
      rw [this, gq_X12_goes_0, show (1 : Int32).toNatClampNeg = 1 from rfl, hs.2.1, if_pos (nI_le (Nat.le_refl _) (by omega))]
    rw [c_hasParts_t h1 hP, m_isParts_t T hw s hs hP, Option.bind_some, Option.bind_some, if_pos rfl, if_pos rfl, key', ke2']
    exact ⟨_, rfl, _, rfl, rfl⟩
theorem j_own (T : tT) (hw : twf T) (b : Nat → Int32) (hb : ∀ d, d < T 1 0 → b d = nI (T 9 d)) (h : Nat → Int32) (hh : ∀ d, d < T 1 0 → h d = nI (T 12 d)) (e : Nat → Int32) (he : ∀ d, d < T 1 0 → e d = nI (T 13 d)) (l : Nat → Int32) (hl : ∀ d, d < T 1 0 → l d = nI (T 8 d)) (g : Nat → Int32) (hg : ∀ d, d < T 1 0 → g d = nI (T 11 d)) (s : Nat → Int32) (hs : mT T s) (p1 p2 : Int32) : ∃ q1, dn_X11_own (nI (T 0 0)) (nI (T 1 0)) b h e l g p1 p2 = some q1 ∧ ∃ q2, dn_X12_own s p1 p2 = some q2 ∧ q1 = q2.1 := by
  have h1 := hw.p
  have hp10 := pz_10 h1
  unfold dn_X11_own dn_X12_own
  rcases pz_ix p1 (n := T 0 0) (by omega) with hp | ⟨p, hp, rfl⟩
  · rw [c_hasPerson_f hp, m_isPerson_f T hw s hs hp]
    exact ⟨_, rfl, _, rfl, rfl⟩
  · rw [c_hasPerson_t (by omega) hp, m_isPerson_t T hw s hs hp, Option.bind_some, Option.bind_some, if_pos rfl, if_pos rfl]
    rcases pz_ix p2 (n := 2 ^ T 0 0) (by omega) with hP | ⟨P, hP, rfl⟩
    · rw [c_hasParts_f h1 hP, m_isParts_f T hw s hs hP]
      exact ⟨_, rfl, _, rfl, rfl⟩
    · rw [c_hasParts_t h1 hP, m_isParts_t T hw s hs hP, Option.bind_some, Option.bind_some, if_pos rfl, if_pos rfl, c_ownOf T hw b hb h hh e he l hl g hg (by omega) (by omega), m_ownOf T hw s hs (by omega) (by omega)]
      exact ⟨_, rfl, _, rfl, rfl⟩
def toldT (T : tT) : Nat := bs (fun p => T 7 p == 2) (T 0 0)
theorem j_told (T : tT) (hw : twf T) (s : Nat → Int32) (hs : mT T s) : ∃ q2, dn_X12_told s = some q2 ∧ nI (toldT T) = q2.1 := by
  have h1 := hw.p
  have ke2 := pz_fun (fun k (a : Nat) => gn_X12_told_0 s (nI a) (nI k) 0) (bs (fun p => T 7 p == 2)) (T 0 0) (by
    intro k hk
    show gn_X12_told_0 _ _ _ _ = gn_X12_told_0 _ _ _ _
    have hk7 := hw.ps hk
    rw [gq_X12_told_0, pz_c0, hs.1, if_neg (nI_ge hk (by omega)), show (34 : Int32) = nI 34 from rfl, nI_add, inb_nI (by omega) (by omega), if_pos rfl, nI_clamp (by omega), (hs.ps hk).2.2.2, ← bs_stepN (show k < 32 by omega), nI_1, pz_or0]
    simp only [pz_e2 (show T 7 k < 2 ^ 31 by omega), beq_iff_eq]
    split <;> rfl) (T 0 0) (Nat.le_refl _)
  have ke2' : dn_X12_told s = some (nI (toldT T), 0) := by
    have : dn_X12_told s = gn_X12_told_0 s (nI (toldT T)) (nI (T 0 0)) 0 := ke2
    rw [this, gq_X12_told_0, pz_c0, hs.1, if_pos (nI_le (Nat.le_refl _) (by omega))]
  exact ⟨_, ke2', rfl⟩
