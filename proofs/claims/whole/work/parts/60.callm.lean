/-! ===== pure rows: plain answers ===== -/
theorem m_in03_f {p : Int32} (h : p < 0 ∨ nI 4 ≤ p) : dn_X12_isIn p 0 3 = some false := m_isIn_f (n := 4) (by omega) h
theorem m_in03_t {t : Nat} (h : t < 4) : dn_X12_isIn (nI t) 0 3 = some true := m_isIn_t (n := 4) (by omega) h
theorem m_in06_f {p : Int32} (h : p < 0 ∨ nI 7 ≤ p) : dn_X12_isIn p 0 6 = some false := m_isIn_f (n := 7) (by omega) h
theorem m_in06_t {t : Nat} (h : t < 7) : dn_X12_isIn (nI t) 0 6 = some true := m_isIn_t (n := 7) (by omega) h
theorem pz_nle {p : Int32} {n : Nat} (hn : n + 1 < 2 ^ 31) (h : nI (n + 1) ≤ p) : ¬ p ≤ nI n := by
  intro x
  rw [Int32.le_iff_toInt_le, nI_toInt (by omega)] at h x
  omega
theorem m_throw0 : dn_X12_throwsIf 0 = some (false, 0) := by
  unfold dn_X12_throwsIf
  rw [if_pos rfl, if_pos rfl]
theorem m_throw1 : dn_X12_throwsIf 1 = some (true, 1) := by
  unfold dn_X12_throwsIf
  rw [if_neg (by decide), if_neg (by decide), if_pos rfl]
theorem j_person (T : tT) (hw : twf T) (bo di : Nat → Int32) (hbo : ∀ p, p < T 0 0 → bo p = nI (T 4 p)) (hdi : ∀ p, p < T 0 0 → di p = nI (T 5 p)) (m : Nat → Int32) (hm : ∀ p, p < T 0 0 → m p = nI (T 6 p)) (s : Nat → Int32) (hs : mT T s) (th p1 p2 : Int32) : (dn_X11_person (nI (T 0 0)) (nI (toldT T)) bo di m p1 p2 = some none ∧ ∃ q1, dn_X12_person th s p1 p2 = some q1 ∧ q1.2 = 1) ∨ ∃ v, dn_X11_person (nI (T 0 0)) (nI (toldT T)) bo di m p1 p2 = some (some v) ∧ ∃ q1, dn_X12_person th s p1 p2 = some q1 ∧ q1.2 = 0 ∧ v = q1.1 := by
  have h1 := hw.p
  have hthrow : ∀ a b, gn_X12_person_0 s a b 1 th = some (0, 1) := fun a b => by
    rw [gq_X12_person_0, m_throw1]; rfl
  unfold dn_X11_person dn_X12_person
  rcases pz_ix p1 (n := T 0 0) (by omega) with hp | ⟨p, hp, rfl⟩
  · rw [c_hasPerson_f hp, m_isPerson_f T hw s hs hp]
    exact Or.inl ⟨rfl, (0, 1), hthrow p1 p2, rfl⟩
  · have hps := hw.ps hp
    have hsk := hs.ps hp
    rw [c_hasPerson_t (by omega) hp, m_isPerson_t T hw s hs hp, Option.bind_some, Option.bind_some, if_pos rfl, if_pos rfl]
    rcases pz_ix p2 (n := 4) (by omega) with hq | ⟨j, hj, rfl⟩
    · rw [m_in03_f hq]
      left
      refine ⟨?_, (0, 1), hthrow (nI p) p2, rfl⟩
      by_cases c : p2 < 0
      · rw [if_pos c]
      · rw [if_neg c, if_neg (show ¬ p2 ≤ 3 from pz_nle (n := 3) (by omega) (hq.resolve_left c))]
    · right
      have i1 : inb (nI p) 10 = true := inb_nI (by omega) (by omega)
      rw [m_in03_t hj, Option.bind_some, if_pos rfl, gq_X12_person_0, m_throw0, Option.bind_some, if_neg (nI_pos (by omega)), if_pos (show nI j ≤ 3 from nI_le (b := 3) (by omega) (by omega)), i1, nI_clamp (by omega), show (4 : Int32) = nI 4 from rfl, show (14 : Int32) = nI 14 from rfl, show (24 : Int32) = nI 24 from rfl, show (34 : Int32) = nI 34 from rfl, nI_add, nI_add, nI_add, nI_add, inb_nI (by omega) (by omega), inb_nI (by omega) (by omega), inb_nI (by omega) (by omega), inb_nI (by omega) (by omega), nI_clamp (by omega), nI_clamp (by omega), nI_clamp (by omega), nI_clamp (by omega), hsk.1, hsk.2.1, hsk.2.2.1, hsk.2.2.2, hbo p hp, hdi p hp, hm p hp]
      have hj4 : j = 0 ∨ j = 1 ∨ j = 2 ∨ j = 3 := by omega
      rcases hj4 with e | e | e | e
      · subst e; exact ⟨_, rfl, _, rfl, rfl, rfl⟩
      · subst e; exact ⟨_, rfl, _, rfl, rfl, rfl⟩
      · subst e; exact ⟨_, rfl, _, rfl, rfl, rfl⟩
      · subst e
        have hb := bs_lt (fun p => T 7 p == 2) (T 0 0)
        have hb2 : toldT T < 2 ^ T 0 0 := hb
        have hp10 := pz_10 hw.p
        have e1 : (nI (toldT T) >>> (nI p &&& 31)) &&& 1 = b2i (T 7 p == 2) := by
          rw [pz_bit (by omega) (by omega)]
          unfold toldT
          rw [bs_bit, decide_eq_true hp]; rfl
        rw [e1]
        by_cases c : T 7 p = 2
        · rw [c]; exact ⟨_, rfl, _, rfl, rfl, rfl⟩
        · have e2 : (T 7 p == 2) = false := by simp [c]
          have e3 : ¬ nI (T 7 p) = 2 := by rw [pz_e2 (by omega)]; exact c
          rw [e2]
          refine ⟨_, rfl, (0, 0), ?_, rfl, rfl⟩
          exact (show (if nI (T 7 p) = 2 then some ((1 : Int32), (0 : Int32)) else some (0, 0)) = some (0, 0) from if_neg e3)
theorem j_deal (T : tT) (hw : twf T) (D : tD) (hD : dwf T D) (dl wy fd : Nat → Int32) (hB : cB T D dl wy fd) (b : Nat → Int32) (hb : ∀ d, d < T 1 0 → b d = nI (T 9 d)) (h : Nat → Int32) (hh : ∀ d, d < T 1 0 → h d = nI (T 12 d)) (e : Nat → Int32) (he : ∀ d, d < T 1 0 → e d = nI (T 13 d)) (l : Nat → Int32) (hl : ∀ d, d < T 1 0 → l d = nI (T 8 d)) (g : Nat → Int32) (hg : ∀ d, d < T 1 0 → g d = nI (T 11 d)) (y : Nat → Int32) (hy : ∀ d, d < T 1 0 → y d = nI (T 10 d)) (s : Nat → Int32) (hs : mT T s) (hs3 : mB D s) (th p1 p2 : Int32) : (dn_X11_deal (nI D.1) dl wy (nI (T 1 0)) b h e l g y p1 p2 = some none ∧ ∃ q1, dn_X12_deal th s p1 p2 = some q1 ∧ q1.2 = 1) ∨ ∃ v, dn_X11_deal (nI D.1) dl wy (nI (T 1 0)) b h e l g y p1 p2 = some (some v) ∧ ∃ q1, dn_X12_deal th s p1 p2 = some q1 ∧ q1.2 = 0 ∧ v = q1.1 := by
  have h1 := hw.d
  have hthrow : ∀ a b, gn_X12_deal_0 s a b 1 th = some (0, 1) := fun a b => by
    rw [gq_X12_deal_0, m_throw1]; rfl
  unfold dn_X11_deal dn_X12_deal
  rcases pz_ix p1 (n := T 1 0) (by omega) with hp | ⟨d, hd, rfl⟩
  · rw [c_hasDeal_f hp, m_isDeal_f T hw s hs hp]
    exact Or.inl ⟨rfl, (0, 1), hthrow p1 p2, rfl⟩
  · rw [c_hasDeal_t (by omega) hd, m_isDeal_t T hw s hs hd, Option.bind_some, Option.bind_some, if_pos rfl, if_pos rfl]
    rcases pz_ix p2 (n := 7) (by omega) with hq | ⟨j, hj, rfl⟩
    · rw [m_in06_f hq]
      left
      refine ⟨?_, (0, 1), hthrow (nI d) p2, rfl⟩
      by_cases c : p2 < 0
      · rw [if_pos c]
      · rw [if_neg c, if_neg (show ¬ p2 ≤ 6 from pz_nle (n := 6) (by omega) (hq.resolve_left c))]
    · right
      have i1 : inb (nI d) 30 = true := inb_nI (by omega) (by omega)
      rw [m_in06_t hj, Option.bind_some, if_pos rfl, gq_X12_deal_0, m_throw0, Option.bind_some, if_neg (nI_pos (by omega)), if_pos (show nI j ≤ 6 from nI_le (b := 6) (by omega) (by omega)), i1, nI_clamp (by omega), hl d hd, hb d hd, hy d hd, hg d hd, hh d hd, he d hd, c_wayDone T hw D hD dl wy fd hB (by omega), Option.bind_some, m_doneAs T hw D hD s hs3 (by omega), Option.bind_some]
      have hj7 : j = 0 ∨ j = 1 ∨ j = 2 ∨ j = 3 ∨ j = 4 ∨ j = 5 ∨ j = 6 := by omega
      rcases hj7 with e | e | e | e | e | e | e
      · subst e
        rw [show nI 0 = 0 from rfl, m_of0 T hw s hs hd]; exact ⟨_, rfl, _, rfl, rfl, rfl⟩
      · subst e
        rw [show nI 1 = 1 from rfl, m_of1 T hw s hs hd]; exact ⟨_, rfl, _, rfl, rfl, rfl⟩
      · subst e
        rw [show nI 2 = 2 from rfl, m_of2 T hw s hs hd]; exact ⟨_, rfl, _, rfl, rfl, rfl⟩
      · subst e
        rw [show nI 3 = 3 from rfl, m_of3 T hw s hs hd]; exact ⟨_, rfl, _, rfl, rfl, rfl⟩
      · subst e
        rw [show nI 4 = 4 from rfl, m_of4 T hw s hs hd]; exact ⟨_, rfl, _, rfl, rfl, rfl⟩
      · subst e
        rw [show nI 5 = 5 from rfl, m_of5 T hw s hs hd]; exact ⟨_, rfl, _, rfl, rfl, rfl⟩
      · subst e
        exact ⟨_, rfl, _, rfl, rfl, rfl⟩
theorem j_count (T : tT) (hw : twf T) (D : tD) (hD : dwf T D) (s : Nat → Int32) (hs : mT T s) (hs3 : mB D s) (ln p1 : Int32) : ∃ q1, dn_X11_count (nI D.1) (nI (T 0 0)) (nI (T 1 0)) (nI (T 2 0)) ln p1 = some q1 ∧ ∃ q2, dn_X12_count ln s p1 = some q2 ∧ q1 = q2.1 := by
  unfold dn_X11_count dn_X12_count
  rcases pz_ix p1 (n := 4) (by omega) with hq | ⟨j, hj, rfl⟩
  · have n0 : ¬ p1 = 0 := fun x => by subst x; rcases hq with h | h <;> exact absurd h (by decide)
    have n1 : ¬ p1 = 1 := fun x => by subst x; rcases hq with h | h <;> exact absurd h (by decide)
    have n2 : ¬ p1 = 2 := fun x => by subst x; rcases hq with h | h <;> exact absurd h (by decide)
    have n3 : ¬ p1 = 3 := fun x => by subst x; rcases hq with h | h <;> exact absurd h (by decide)
    rw [m_in03_f hq, Option.bind_some, if_neg n0, if_neg n1, if_neg n2, if_neg n3, if_neg (show ¬ false = true by decide)]
    by_cases c : p1 = 4
    · rw [if_pos c, if_pos c]; exact ⟨_, rfl, _, rfl, rfl⟩
    · rw [if_neg c, if_neg c]; exact ⟨_, rfl, _, rfl, rfl⟩
  · rw [m_in03_t hj, Option.bind_some, if_pos rfl, inb_nI (show j < 284 by omega) (by omega), if_pos rfl, nI_clamp (by omega)]
    have hj4 : j = 0 ∨ j = 1 ∨ j = 2 ∨ j = 3 := by omega
    rcases hj4 with e | e | e | e
    · subst e; rw [hs.1]; exact ⟨_, rfl, _, rfl, rfl⟩
    · subst e; rw [hs.2.1]; exact ⟨_, rfl, _, rfl, rfl⟩
    · subst e; rw [hs.2.2.1]; exact ⟨_, rfl, _, rfl, rfl⟩
    · subst e; rw [hs3.1]; exact ⟨_, rfl, _, rfl, rfl⟩
def chOK (kp ho : Int32) (rw oi : Nat → Int32) : Prop := kp = ho ∧ (kp = 0 ∨ kp = 1) ∧ (kp = 1 → ∀ k, k < 60 → rw k = oi k)
theorem j_oneIs {kp ho : Int32} {rw' oi : Nat → Int32} (hc : chOK kp ho rw' oi) (p1 : Int32) : ∃ q1, dn_X11_oneIs kp rw' p1 = some q1 ∧ ∃ q2, dn_X12_oneIs ho oi p1 = some q2 ∧ q1 = q2.1 := by
  obtain ⟨h1, h2, h3⟩ := hc
  subst h1
  unfold dn_X11_oneIs dn_X12_oneIs
  rcases h2 with h2 | h2
  · rw [if_pos h2, if_pos h2]; exact ⟨_, rfl, _, rfl, rfl⟩
  · have h4 := h3 h2
    have hne : ¬ kp = 0 := by rw [h2]; decide
    rw [if_neg hne, if_neg hne]
    rcases pz_ix p1 (n := 60) (by omega) with hp | ⟨k, hk, rfl⟩
    · rw [c_isYear_f hp, m_in59_f hp]; exact ⟨_, rfl, _, rfl, rfl⟩
    · rw [c_isYear_t hk, m_in59_t hk, Option.bind_some, Option.bind_some, if_pos rfl, if_pos rfl, inb_nI hk (by omega), if_pos rfl, if_pos rfl, nI_clamp (by omega)]
      exact ⟨_, rfl, _, rfl, h4 k hk⟩
def lfOK (td : Int32) (tw : Nat → Int32) (lm : Int32) (lb : Nat → Int32) : Prop := (td = 0 ∧ lm = -1) ∨ ∃ k : Nat, k ≤ 12 ∧ td = nI k ∧ lm = nI k ∧ ∀ j, j < k → tw j = lb j
theorem j_lawfulBy {td lm : Int32} {tw lb : Nat → Int32} (hc : lfOK td tw lm lb) (p1 : Int32) : ∃ q1, dn_X11_lawfulBy td tw p1 = some q1 ∧ ∃ q2, dn_X12_lawfulBy lm lb p1 = some q2 ∧ q1 = q2.1 := by
  unfold dn_X11_lawfulBy dn_X12_lawfulBy
  rcases hc with ⟨h1, h2⟩ | ⟨k, hk, h1, h2, h3⟩
  · have e : dn_X12_isIn p1 0 (lm - 1) = some false := by
      unfold dn_X12_isIn
      by_cases c : p1 < 0
      · rw [if_pos c]
      · rw [if_neg c, if_pos]
        rw [h2, show ((-1 : Int32) - 1) = -2 from by decide, Int32.lt_iff_toInt_lt, show (-2 : Int32).toInt = -2 from rfl]
        rw [Int32.lt_iff_toInt_lt, show (0 : Int32).toInt = 0 from rfl] at c
        omega
    rw [e, h1]
    refine ⟨-1, ?_, _, rfl, rfl⟩
    by_cases c : p1 < 0
    · rw [if_pos c]
    · rw [if_neg c, if_pos]
      rw [Int32.le_iff_toInt_le, show (0 : Int32).toInt = 0 from rfl]
      rw [Int32.lt_iff_toInt_lt, show (0 : Int32).toInt = 0 from rfl] at c
      omega
  · rw [h1, h2]
    rcases pz_ix p1 (n := k) (by omega) with hp | ⟨j, hj, rfl⟩
    · rw [m_isIn_f (by omega) hp]
      refine ⟨-1, ?_, _, rfl, rfl⟩
      by_cases c : p1 < 0
      · rw [if_pos c]
      · rw [if_neg c, if_pos (hp.resolve_left c)]
    · rw [m_isIn_t (by omega) hj, Option.bind_some, if_pos rfl, inb_nI (show j < 12 by omega) (by omega), if_pos rfl, if_neg (nI_pos (by omega)), if_neg (nI_ge hj (by omega)), if_pos (show nI j < 12 from nI_lt (b := 12) (by omega) (by omega)), if_pos rfl, nI_clamp (by omega)]
      exact ⟨_, rfl, _, rfl, h3 j hj⟩
