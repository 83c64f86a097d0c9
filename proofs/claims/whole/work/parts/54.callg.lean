/-! ===== pure rows: calls of GAIN ===== -/
def gmO (T : tT) (sl : Int32) (gm : Nat → Int32) : Prop := sl = 0 → ∀ P, P < 2 ^ T 0 0 → gm P = nI (gnT T P)
theorem gnT_le {T : tT} (hw : twf T) (P : Nat) : gnT T P ≤ 400000 := gainT_le hw P _
theorem m_settled (T : tT) (hw : twf T) (s : Nat → Int32) (hs : mT T s) (sl : Int32) (gm : Nat → Int32) (hgm : gmO T sl gm) (it : Int32) (be cp fa inn sd st us wo : Nat → Int32) : ∃ q, dn_X12_settle it sl be cp fa gm inn s sd st us wo = some q ∧ q.1 = 0 ∧ ∀ P, P < 2 ^ T 0 0 → q.2.2.2.2.2.2.2.2.2.2 P = nI (gnT T P) := by
  unfold dn_X12_settle
  by_cases c : sl = 0
  · rw [if_pos c]
    exact ⟨_, rfl, c, hgm c⟩
  · rw [if_neg c]
    exact m_settle T hw s hs it be cp fa inn sd st us wo gm
theorem j_gain (T : tT) (hw : twf T) (b : Nat → Int32) (hb : ∀ d, d < T 1 0 → b d = nI (T 9 d)) (h : Nat → Int32) (hh : ∀ d, d < T 1 0 → h d = nI (T 12 d)) (e : Nat → Int32) (he : ∀ d, d < T 1 0 → e d = nI (T 13 d)) (l : Nat → Int32) (hl : ∀ d, d < T 1 0 → l d = nI (T 8 d)) (g : Nat → Int32) (hg : ∀ d, d < T 1 0 → g d = nI (T 11 d)) (m : Nat → Int32) (hm : ∀ p, p < T 0 0 → m p = nI (T 6 p)) (y : Nat → Int32) (hy : ∀ d, d < T 1 0 → y d = nI (T 10 d)) {O : Nat → Nat} (hO : ordP T O) (o : Nat → Int32) (ho : ∀ p, p < T 1 0 → o p = nI (O p)) (s : Nat → Int32) (hs : mT T s) {gs : Nat → Int32} (hgs : gOK T gs) (go ch : Int32) (bf lf rc rm vi wa wf : Nat → Int32) (it : Int32) (be cp fa inn sd st us wo : Nat → Int32) (p1 : Int32) : ∃ q1, dn_X11_gain go ch bf lf rc rm vi wa wf (nI (T 0 0)) (nI (T 1 0)) b h o e l g m gs y p1 = some q1 ∧ ∃ q2, dn_X12_gain it be cp fa inn s sd st us wo p1 = some q2 ∧ q1.1 = q2.1 ∧ gOK T q1.2.2.2.2.2.2.2.2.2.2 := by
  have hp10 := pz_10 hw.p
  unfold dn_X11_gain dn_X12_gain
  rcases pz_ix p1 (n := 2 ^ T 0 0) (by omega) with hp | ⟨P, hP, rfl⟩
  · rw [c_hasParts_f hw.p hp, m_isParts_f T hw s hs hp]
    exact ⟨_, rfl, _, rfl, rfl, hgs⟩
  · obtain ⟨rm', go', wa', lf', bf', wf', ch', rc', vi', gs', g1, g2⟩ := c_gainOf T hw b hb h hh e he l hl g hg m hm y hy hO o ho hP hgs go ch bf lf rc rm vi wa wf
    obtain ⟨q, m1, m2⟩ := m_gainBy T hw s hs (P := P) (by omega) (a := none) (lim := 0) (p3 := 0) (Or.inl ⟨rfl, rfl⟩) it be cp fa inn sd st us wo
    rw [c_hasParts_t hw.p hP, m_isParts_t T hw s hs hP, Option.bind_some, Option.bind_some, if_pos rfl, if_pos rfl, g1, m1, Option.bind_some, Option.bind_some]
    exact ⟨_, rfl, _, rfl, m2.symm, g2⟩
/-- the first of most gain below k + 1 -/
def mxT (T : tT) : Nat → Nat
  | 0 => 0
  | k + 1 => if gnT T (mxT T k) < gnT T (k + 1) then k + 1 else mxT T k
theorem mxT_le (T : tT) : ∀ k, mxT T k ≤ k
  | 0 => Nat.le_refl 0
  | k + 1 => by
    have := mxT_le T k
    unfold mxT
    split <;> omega
theorem c_most (T : tT) (hw : twf T) (b : Nat → Int32) (hb : ∀ d, d < T 1 0 → b d = nI (T 9 d)) (h : Nat → Int32) (hh : ∀ d, d < T 1 0 → h d = nI (T 12 d)) (e : Nat → Int32) (he : ∀ d, d < T 1 0 → e d = nI (T 13 d)) (l : Nat → Int32) (hl : ∀ d, d < T 1 0 → l d = nI (T 8 d)) (g : Nat → Int32) (hg : ∀ d, d < T 1 0 → g d = nI (T 11 d)) (m : Nat → Int32) (hm : ∀ p, p < T 0 0 → m p = nI (T 6 p)) (y : Nat → Int32) (hy : ∀ d, d < T 1 0 → y d = nI (T 10 d)) {O : Nat → Nat} (hO : ordP T O) (o : Nat → Int32) (ho : ∀ p, p < T 1 0 → o p = nI (O p)) {gs : Nat → Int32} (hgs : gOK T gs) (go ch : Int32) (bf lf rc rm vi wa wf : Nat → Int32) : ∃ q : Int32 × (Nat → Int32) × Int32 × (Nat → Int32) × (Nat → Int32) × (Nat → Int32) × (Nat → Int32) × Int32 × (Nat → Int32) × (Nat → Int32) × (Nat → Int32), dn_X11_partsOfMost go ch bf lf rc rm vi wa wf (nI (T 0 0)) (nI (T 1 0)) b h o e l g m gs y = some q ∧ q.1 = nI (mxT T (2 ^ T 0 0 - 1)) ∧ gOK T q.2.2.2.2.2.2.2.2.2.2 := by
  have hp10 := pz_10 hw.p
  have hpos : 0 < 2 ^ T 0 0 := Nat.two_pow_pos _
  obtain ⟨q, h1, h2⟩ := pz_rel (fun k (q : Int32 × (Nat → Int32) × Int32 × (Nat → Int32) × (Nat → Int32) × (Nat → Int32) × (Nat → Int32) × Int32 × (Nat → Int32) × (Nat → Int32) × (Nat → Int32)) => gn_X11_partsOfMost_0 (nI (T 0 0)) (nI (T 1 0)) b h o e l g m y q.1 (nI k) q.2.1 q.2.2.1 q.2.2.2.1 q.2.2.2.2.1 q.2.2.2.2.2.1 q.2.2.2.2.2.2.1 q.2.2.2.2.2.2.2.1 q.2.2.2.2.2.2.2.2.1 q.2.2.2.2.2.2.2.2.2.1 q.2.2.2.2.2.2.2.2.2.2) (2 ^ T 0 0) (fun k q => 1 ≤ k ∧ q.1 = nI (mxT T (k - 1)) ∧ gOK T q.2.2.2.2.2.2.2.2.2.2) (by
    rintro k ⟨v1, rm, go, wa, lf, bf, wf, ch, rc, vi, gs⟩ hk ⟨hk1, hv, hgs⟩
    have hv' : v1 = nI (mxT T (k - 1)) := hv
    subst hv'
    have hle := mxT_le T (k - 1)
    obtain ⟨rm', go', wa', lf', bf', wf', ch', rc', vi', gs', g1, g2⟩ := c_gainOf T hw b hb h hh e he l hl g hg m hm y hy hO o ho (P := k) hk hgs go ch bf lf rc rm vi wa wf
    obtain ⟨rm2, go2, wa2, lf2, bf2, wf2, ch2, rc2, vi2, gs2, g3, g4⟩ := c_gainOf T hw b hb h hh e he l hl g hg m hm y hy hO o ho (P := mxT T (k - 1)) (by omega) g2 go' ch' bf' lf' rc' rm' vi' wa' wf'
    refine ⟨(nI (mxT T k), rm2, go2, wa2, lf2, bf2, wf2, ch2, rc2, vi2, gs2), ⟨by omega, by rw [Nat.add_sub_cancel], g4⟩, ?_⟩
    show gn_X11_partsOfMost_0 (nI (T 0 0)) (nI (T 1 0)) b h o e l g m y (nI (mxT T (k - 1))) (nI k) rm go wa lf bf wf ch rc vi gs = _
    have b1 := gnT_le hw k
    have b2 := gnT_le hw (mxT T (k - 1))
    have e : mxT T k = if gnT T (mxT T (k - 1)) < gnT T k then k else mxT T (k - 1) := by
      obtain ⟨j, rfl⟩ : ∃ j, k = j + 1 := ⟨k - 1, by omega⟩
      rfl
    rw [gq_X11_partsOfMost_0, c_partsCount (by have := hw.p; omega), Option.bind_some, if_neg (nI_ge hk (by omega)), g1, Option.bind_some, g3, Option.bind_some, nI_1, e]
    simp only [pz_le (show gnT T k < 2 ^ 31 by omega) (show gnT T (mxT T (k - 1)) < 2 ^ 31 by omega)]
    by_cases c : gnT T (mxT T (k - 1)) < gnT T k
    · rw [if_neg (by omega), if_pos c]
    · rw [if_pos (by omega), if_neg c]) (2 ^ T 0 0 - 1) 1 (0, rm, go, wa, lf, bf, wf, ch, rc, vi, gs) (by omega) ⟨Nat.le_refl 1, rfl, hgs⟩
  refine ⟨q, ?_, h1.2⟩
  have h3 : dn_X11_partsOfMost go ch bf lf rc rm vi wa wf (nI (T 0 0)) (nI (T 1 0)) b h o e l g m gs y = gn_X11_partsOfMost_0 (nI (T 0 0)) (nI (T 1 0)) b h o e l g m y q.1 (nI (2 ^ T 0 0)) q.2.1 q.2.2.1 q.2.2.2.1 q.2.2.2.2.1 q.2.2.2.2.2.1 q.2.2.2.2.2.2.1 q.2.2.2.2.2.2.2.1 q.2.2.2.2.2.2.2.2.1 q.2.2.2.2.2.2.2.2.2.1 q.2.2.2.2.2.2.2.2.2.2 := h2
  rw [h3, gq_X11_partsOfMost_0, c_partsCount (by have := hw.p; omega), Option.bind_some, if_pos (nI_le (Nat.le_refl _) (by omega))]
theorem m_bestOf (T : tT) (hw : twf T) (s : Nat → Int32) (hs : mT T s) (sl : Int32) (gm : Nat → Int32) (hgm : gmO T sl gm) (it : Int32) (be cp fa inn sd st us wo : Nat → Int32) : ∃ q, dn_X12_bestOf it sl be cp fa gm inn s sd st us wo = some q ∧ q.1 = nI (mxT T (2 ^ T 0 0 - 1)) ∧ q.2.1 = 0 ∧ ∀ P, P < 2 ^ T 0 0 → q.2.2.2.2.2.2.2.2.2.2.2 P = nI (gnT T P) := by
  have hp10 := pz_10 hw.p
  have hpos : 0 < 2 ^ T 0 0 := Nat.two_pow_pos _
  obtain ⟨q, h1, h2, h3⟩ := m_settled T hw s hs sl gm hgm it be cp fa inn sd st us wo
  obtain ⟨v, h4, h5⟩ := pz_rel (fun k (v : Int32) => gn_X12_bestOf_0 s v (nI k) q.1 q.2.1 q.2.2.1 q.2.2.2.1 q.2.2.2.2.1 q.2.2.2.2.2.1 q.2.2.2.2.2.2.1 q.2.2.2.2.2.2.2.1 q.2.2.2.2.2.2.2.2.1 q.2.2.2.2.2.2.2.2.2.1 q.2.2.2.2.2.2.2.2.2.2) (2 ^ T 0 0) (fun k v => 1 ≤ k ∧ v = nI (mxT T (k - 1))) (by
    rintro k v hk ⟨hk1, hv⟩
    subst hv
    have hle := mxT_le T (k - 1)
    have b1 := gnT_le hw k
    have b2 := gnT_le hw (mxT T (k - 1))
    refine ⟨nI (mxT T k), ⟨by omega, by rw [Nat.add_sub_cancel]⟩, ?_⟩
    show gn_X12_bestOf_0 s (nI (mxT T (k - 1))) (nI k) q.1 q.2.1 q.2.2.1 q.2.2.2.1 q.2.2.2.2.1 q.2.2.2.2.2.1 q.2.2.2.2.2.2.1 q.2.2.2.2.2.2.2.1 q.2.2.2.2.2.2.2.2.1 q.2.2.2.2.2.2.2.2.2.1 q.2.2.2.2.2.2.2.2.2.2 = gn_X12_bestOf_0 s (nI (mxT T k)) (nI (k + 1)) q.1 q.2.1 q.2.2.1 q.2.2.2.1 q.2.2.2.2.1 q.2.2.2.2.2.1 q.2.2.2.2.2.2.1 q.2.2.2.2.2.2.2.1 q.2.2.2.2.2.2.2.2.1 q.2.2.2.2.2.2.2.2.2.1 q.2.2.2.2.2.2.2.2.2.2
    have e : mxT T k = if gnT T (mxT T (k - 1)) < gnT T k then k else mxT T (k - 1) := by
      obtain ⟨j, rfl⟩ : ∃ j, k = j + 1 := ⟨k - 1, by omega⟩
      rfl
    rw [gq_X12_bestOf_0, m_pc T hw s hs, if_neg (nI_ge hk (by omega)), inb_nI (by omega) (by omega), if_pos rfl, inb_nI (show mxT T (k - 1) < 1024 by omega) (by omega), if_pos rfl, nI_clamp (by omega), nI_clamp (by omega), h3 k hk, h3 (mxT T (k - 1)) (by omega), nI_1, e]
    simp only [pz_le (show gnT T k < 2 ^ 31 by omega) (show gnT T (mxT T (k - 1)) < 2 ^ 31 by omega)]
    by_cases c : gnT T (mxT T (k - 1)) < gnT T k
    · rw [if_neg (by omega), if_pos c]
    · rw [if_pos (by omega), if_neg c]) (2 ^ T 0 0 - 1) 1 0 (by omega) ⟨Nat.le_refl 1, rfl⟩
  refine ⟨(v, q.1, q.2.1, q.2.2.1, q.2.2.2.1, q.2.2.2.2.1, q.2.2.2.2.2.1, q.2.2.2.2.2.2.1, q.2.2.2.2.2.2.2.1, q.2.2.2.2.2.2.2.2.1, q.2.2.2.2.2.2.2.2.2.1, q.2.2.2.2.2.2.2.2.2.2), ?_, h4.2, h2, h3⟩
  unfold dn_X12_bestOf
  rw [h1, Option.bind_some]
  have h6 : gn_X12_bestOf_0 s 0 1 q.1 q.2.1 q.2.2.1 q.2.2.2.1 q.2.2.2.2.1 q.2.2.2.2.2.1 q.2.2.2.2.2.2.1 q.2.2.2.2.2.2.2.1 q.2.2.2.2.2.2.2.2.1 q.2.2.2.2.2.2.2.2.2.1 q.2.2.2.2.2.2.2.2.2.2 = gn_X12_bestOf_0 s v (nI (2 ^ T 0 0)) q.1 q.2.1 q.2.2.1 q.2.2.2.1 q.2.2.2.2.1 q.2.2.2.2.2.1 q.2.2.2.2.2.2.1 q.2.2.2.2.2.2.2.1 q.2.2.2.2.2.2.2.2.1 q.2.2.2.2.2.2.2.2.2.1 q.2.2.2.2.2.2.2.2.2.2 := h5
  rw [h6, gq_X12_bestOf_0, m_pc T hw s hs, if_pos (nI_le (Nat.le_refl _) (by omega))]
theorem j_best (T : tT) (hw : twf T) (b : Nat → Int32) (hb : ∀ d, d < T 1 0 → b d = nI (T 9 d)) (h : Nat → Int32) (hh : ∀ d, d < T 1 0 → h d = nI (T 12 d)) (e : Nat → Int32) (he : ∀ d, d < T 1 0 → e d = nI (T 13 d)) (l : Nat → Int32) (hl : ∀ d, d < T 1 0 → l d = nI (T 8 d)) (g : Nat → Int32) (hg : ∀ d, d < T 1 0 → g d = nI (T 11 d)) (m : Nat → Int32) (hm : ∀ p, p < T 0 0 → m p = nI (T 6 p)) (y : Nat → Int32) (hy : ∀ d, d < T 1 0 → y d = nI (T 10 d)) {O : Nat → Nat} (hO : ordP T O) (o : Nat → Int32) (ho : ∀ p, p < T 1 0 → o p = nI (O p)) (s : Nat → Int32) (hs : mT T s) {gs : Nat → Int32} (hgs : gOK T gs) (sl : Int32) (gm : Nat → Int32) (hgm : gmO T sl gm) (go ch : Int32) (bf lf rc rm vi wa wf : Nat → Int32) (it : Int32) (be cp fa inn sd st us wo : Nat → Int32) : ∃ q1, dn_X11_best go ch bf lf rc rm vi wa wf (nI (T 0 0)) (nI (T 1 0)) b h o e l g m gs y = some q1 ∧ ∃ q2, dn_X12_best it sl be cp fa gm inn s sd st us wo = some q2 ∧ q1.1 = q2.1 ∧ gOK T q1.2.2.2.2.2.2.2.2.2.2 ∧ gmO T q2.2.2.1 q2.2.2.2.2.2.2.2.2.2.2.2.2 := by
  have hp10 := pz_10 hw.p
  have hpos : 0 < 2 ^ T 0 0 := Nat.two_pow_pos _
  have hle := mxT_le T (2 ^ T 0 0 - 1)
  obtain ⟨q, c1, c2, c3⟩ := c_most T hw b hb h hh e he l hl g hg m hm y hy hO o ho hgs go ch bf lf rc rm vi wa wf
  obtain ⟨v1, rm', go', wa', lf', bf', wf', ch', rc', vi', gs'⟩ := q
  have c2' : v1 = nI (mxT T (2 ^ T 0 0 - 1)) := c2
  subst c2'
  obtain ⟨rm2, go2, wa2, lf2, bf2, wf2, ch2, rc2, vi2, gs2, g3, g4⟩ := c_gainOf T hw b hb h hh e he l hl g hg m hm y hy hO o ho (P := mxT T (2 ^ T 0 0 - 1)) (by omega) c3 go' ch' bf' lf' rc' rm' vi' wa' wf'
  obtain ⟨r, m1, m2, m3, m4⟩ := m_bestOf T hw s hs sl gm hgm it be cp fa inn sd st us wo
  unfold dn_X11_best dn_X12_best
  rw [c1, Option.bind_some, m1, Option.bind_some, m2, inb_nI (by omega) (by omega), if_pos rfl, nI_clamp (by omega), m4 _ (by omega)]
  refine ⟨(nI (gnT T (mxT T (2 ^ T 0 0 - 1))), rm2, go2, wa2, lf2, bf2, wf2, ch2, rc2, vi2, gs2), ?_, _, rfl, rfl, g4, fun _ => m4⟩
  show Option.bind (dn_X2_gainOf go' ch' bf' lf' rc' rm' vi' wa' wf' (nI (T 0 0)) (nI (T 1 0)) b h o e l g m gs' y (nI (mxT T (2 ^ T 0 0 - 1)))) _ = _
  have g3' : dn_X2_gainOf go' ch' bf' lf' rc' rm' vi' wa' wf' (nI (T 0 0)) (nI (T 1 0)) b h o e l g m gs' y (nI (mxT T (2 ^ T 0 0 - 1))) = some (nI (gnT T (mxT T (2 ^ T 0 0 - 1))), rm2, go2, wa2, lf2, bf2, wf2, ch2, rc2, vi2, gs2) := g3
  rw [g3', Option.bind_some]
theorem j_bestParts (T : tT) (hw : twf T) (b : Nat → Int32) (hb : ∀ d, d < T 1 0 → b d = nI (T 9 d)) (h : Nat → Int32) (hh : ∀ d, d < T 1 0 → h d = nI (T 12 d)) (e : Nat → Int32) (he : ∀ d, d < T 1 0 → e d = nI (T 13 d)) (l : Nat → Int32) (hl : ∀ d, d < T 1 0 → l d = nI (T 8 d)) (g : Nat → Int32) (hg : ∀ d, d < T 1 0 → g d = nI (T 11 d)) (m : Nat → Int32) (hm : ∀ p, p < T 0 0 → m p = nI (T 6 p)) (y : Nat → Int32) (hy : ∀ d, d < T 1 0 → y d = nI (T 10 d)) {O : Nat → Nat} (hO : ordP T O) (o : Nat → Int32) (ho : ∀ p, p < T 1 0 → o p = nI (O p)) (s : Nat → Int32) (hs : mT T s) {gs : Nat → Int32} (hgs : gOK T gs) (sl : Int32) (gm : Nat → Int32) (hgm : gmO T sl gm) (go ch : Int32) (bf lf rc rm vi wa wf : Nat → Int32) (it : Int32) (be cp fa inn sd st us wo : Nat → Int32) : ∃ q1, dn_X11_bestParts go ch bf lf rc rm vi wa wf (nI (T 0 0)) (nI (T 1 0)) b h o e l g m gs y = some q1 ∧ ∃ q2, dn_X12_bestParts it sl be cp fa gm inn s sd st us wo = some q2 ∧ q1.1 = q2.1 ∧ gOK T q1.2.2.2.2.2.2.2.2.2.2 ∧ gmO T q2.2.2.1 q2.2.2.2.2.2.2.2.2.2.2.2.2 := by
  obtain ⟨q, c1, c2, c3⟩ := c_most T hw b hb h hh e he l hl g hg m hm y hy hO o ho hgs go ch bf lf rc rm vi wa wf
  obtain ⟨r, m1, m2, m3, m4⟩ := m_bestOf T hw s hs sl gm hgm it be cp fa inn sd st us wo
  unfold dn_X11_bestParts dn_X12_bestParts
  rw [c1, Option.bind_some, m1, Option.bind_some]
  exact ⟨_, rfl, _, rfl, c2.trans m2.symm, c3, fun _ => m4⟩
theorem j_above (T : tT) (hw : twf T) (b : Nat → Int32) (hb : ∀ d, d < T 1 0 → b d = nI (T 9 d)) (h : Nat → Int32) (hh : ∀ d, d < T 1 0 → h d = nI (T 12 d)) (e : Nat → Int32) (he : ∀ d, d < T 1 0 → e d = nI (T 13 d)) (l : Nat → Int32) (hl : ∀ d, d < T 1 0 → l d = nI (T 8 d)) (g : Nat → Int32) (hg : ∀ d, d < T 1 0 → g d = nI (T 11 d)) (m : Nat → Int32) (hm : ∀ p, p < T 0 0 → m p = nI (T 6 p)) (y : Nat → Int32) (hy : ∀ d, d < T 1 0 → y d = nI (T 10 d)) {O : Nat → Nat} (hO : ordP T O) (o : Nat → Int32) (ho : ∀ p, p < T 1 0 → o p = nI (O p)) (s : Nat → Int32) (hs : mT T s) {gs : Nat → Int32} (hgs : gOK T gs) (sl : Int32) (gm : Nat → Int32) (hgm : gmO T sl gm) (go ch : Int32) (bf lf rc rm vi wa wf : Nat → Int32) (it : Int32) (be cp fa inn sd st us wo : Nat → Int32) (p1 : Int32) : ∃ q1, dn_X11_above go ch bf lf rc rm vi wa wf (nI (T 0 0)) (nI (T 1 0)) b h o e l g m gs y p1 = some q1 ∧ ∃ q2, dn_X12_above it sl be cp fa gm inn s sd st us wo p1 = some q2 ∧ q1.1 = q2.1 ∧ gOK T q1.2.2.2.2.2.2.2.2.2.2 ∧ gmO T q2.2.2.1 q2.2.2.2.2.2.2.2.2.2.2.2.2 := by
  have hp10 := pz_10 hw.p
  obtain ⟨q, h1, h2⟩ := pz_rel0 (fun k (q : Int32 × (Nat → Int32) × Int32 × (Nat → Int32) × (Nat → Int32) × (Nat → Int32) × (Nat → Int32) × Int32 × (Nat → Int32) × (Nat → Int32) × (Nat → Int32)) => gn_X11_above_0 (nI (T 0 0)) (nI (T 1 0)) b h o e l g m y p1 q.1 (nI k) q.2.1 q.2.2.1 q.2.2.2.1 q.2.2.2.2.1 q.2.2.2.2.2.1 q.2.2.2.2.2.2.1 q.2.2.2.2.2.2.2.1 q.2.2.2.2.2.2.2.2.1 q.2.2.2.2.2.2.2.2.2.1 q.2.2.2.2.2.2.2.2.2.2) (2 ^ T 0 0) (fun k q => q.1 = nI (ct (fun P => !decide (nI (gnT T P) < p1)) k) ∧ gOK T q.2.2.2.2.2.2.2.2.2.2) (0, rm, go, wa, lf, bf, wf, ch, rc, vi, gs) ⟨rfl, hgs⟩ (by
    rintro k ⟨v1, rm, go, wa, lf, bf, wf, ch, rc, vi, gs⟩ hk ⟨hv, hgs⟩
    have hv' : v1 = nI (ct (fun P => !decide (nI (gnT T P) < p1)) k) := hv
    subst hv'
    obtain ⟨rm', go', wa', lf', bf', wf', ch', rc', vi', gs', g1, g2⟩ := c_gainOf T hw b hb h hh e he l hl g hg m hm y hy hO o ho (P := k) hk hgs go ch bf lf rc rm vi wa wf
    refine ⟨(nI (ct (fun P => !decide (nI (gnT T P) < p1)) (k + 1)), rm', go', wa', lf', bf', wf', ch', rc', vi', gs'), ⟨rfl, g2⟩, ?_⟩
    show gn_X11_above_0 (nI (T 0 0)) (nI (T 1 0)) b h o e l g m y p1 (nI (ct (fun P => !decide (nI (gnT T P) < p1)) k)) (nI k) rm go wa lf bf wf ch rc vi gs = _
    rw [gq_X11_above_0, c_partsCount (by have := hw.p; omega), Option.bind_some, if_neg (nI_ge hk (by omega)), g1, Option.bind_some, nI_1, nI_1, ct_s]
    by_cases c : nI (gnT T k) < p1
    · rw [if_pos c, if_neg (by simp [c])]; rfl
    · rw [if_neg c, if_pos (by simp [c])])
  have h3 : dn_X11_above go ch bf lf rc rm vi wa wf (nI (T 0 0)) (nI (T 1 0)) b h o e l g m gs y p1 = some q := by
    have : dn_X11_above go ch bf lf rc rm vi wa wf (nI (T 0 0)) (nI (T 1 0)) b h o e l g m gs y p1 = gn_X11_above_0 (nI (T 0 0)) (nI (T 1 0)) b h o e l g m y p1 q.1 (nI (2 ^ T 0 0)) q.2.1 q.2.2.1 q.2.2.2.1 q.2.2.2.2.1 q.2.2.2.2.2.1 q.2.2.2.2.2.2.1 q.2.2.2.2.2.2.2.1 q.2.2.2.2.2.2.2.2.1 q.2.2.2.2.2.2.2.2.2.1 q.2.2.2.2.2.2.2.2.2.2 := h2
    rw [this, gq_X11_above_0, c_partsCount (by have := hw.p; omega), Option.bind_some, if_pos (nI_le (Nat.le_refl _) (by omega))]
  obtain ⟨r, m1, m2, m3⟩ := m_settled T hw s hs sl gm hgm it be cp fa inn sd st us wo
  have key := pz_fun (fun k (a : Nat) => gn_X12_above_0 s p1 (nI a) (nI k) 0 r.1 r.2.1 r.2.2.1 r.2.2.2.1 r.2.2.2.2.1 r.2.2.2.2.2.1 r.2.2.2.2.2.2.1 r.2.2.2.2.2.2.2.1 r.2.2.2.2.2.2.2.2.1 r.2.2.2.2.2.2.2.2.2.1 r.2.2.2.2.2.2.2.2.2.2) (ct (fun P => !decide (nI (gnT T P) < p1))) (2 ^ T 0 0) (by
    intro k hk
    show gn_X12_above_0 _ _ _ _ _ _ _ _ _ _ _ _ _ _ _ _ = gn_X12_above_0 _ _ _ _ _ _ _ _ _ _ _ _ _ _ _ _
    rw [gq_X12_above_0, m_pc T hw s hs, if_neg (nI_ge hk (by omega)), inb_nI (by omega) (by omega), if_pos rfl, nI_clamp (by omega), m3 k hk, nI_1, nI_1, ct_s]
    by_cases c : nI (gnT T k) < p1
    · rw [if_pos c, if_neg (by simp [c])]
      rw [show (0 : Int32) = nI 0 from rfl, nI_add]
    · rw [if_neg c, if_pos (by simp [c])]) (2 ^ T 0 0) (Nat.le_refl _)
  refine ⟨q, h3, (nI (ct (fun P => !decide (nI (gnT T P) < p1)) (2 ^ T 0 0)), 0, r.1, r.2.1, r.2.2.1, r.2.2.2.1, r.2.2.2.2.1, r.2.2.2.2.2.1, r.2.2.2.2.2.2.1, r.2.2.2.2.2.2.2.1, r.2.2.2.2.2.2.2.2.1, r.2.2.2.2.2.2.2.2.2.1, r.2.2.2.2.2.2.2.2.2.2), ?_, h1.1, h1.2, fun _ => m3⟩
  unfold dn_X12_above
  rw [m1, Option.bind_some]
  have h6 : gn_X12_above_0 s p1 0 0 0 r.1 r.2.1 r.2.2.1 r.2.2.2.1 r.2.2.2.2.1 r.2.2.2.2.2.1 r.2.2.2.2.2.2.1 r.2.2.2.2.2.2.2.1 r.2.2.2.2.2.2.2.2.1 r.2.2.2.2.2.2.2.2.2.1 r.2.2.2.2.2.2.2.2.2.2 = gn_X12_above_0 s p1 (nI (ct (fun P => !decide (nI (gnT T P) < p1)) (2 ^ T 0 0))) (nI (2 ^ T 0 0)) 0 r.1 r.2.1 r.2.2.1 r.2.2.2.1 r.2.2.2.2.1 r.2.2.2.2.2.1 r.2.2.2.2.2.2.1 r.2.2.2.2.2.2.2.1 r.2.2.2.2.2.2.2.2.1 r.2.2.2.2.2.2.2.2.2.1 r.2.2.2.2.2.2.2.2.2.2 := key
  rw [h6, gq_X12_above_0, m_pc T hw s hs, if_pos (nI_le (Nat.le_refl _) (by omega))]
theorem j_price (T : tT) (hw : twf T) (b : Nat → Int32) (hb : ∀ d, d < T 1 0 → b d = nI (T 9 d)) (h : Nat → Int32) (hh : ∀ d, d < T 1 0 → h d = nI (T 12 d)) (e : Nat → Int32) (he : ∀ d, d < T 1 0 → e d = nI (T 13 d)) (l : Nat → Int32) (hl : ∀ d, d < T 1 0 → l d = nI (T 8 d)) (g : Nat → Int32) (hg : ∀ d, d < T 1 0 → g d = nI (T 11 d)) (m : Nat → Int32) (hm : ∀ p, p < T 0 0 → m p = nI (T 6 p)) (y : Nat → Int32) (hy : ∀ d, d < T 1 0 → y d = nI (T 10 d)) {O : Nat → Nat} (hO : ordP T O) (o : Nat → Int32) (ho : ∀ p, p < T 1 0 → o p = nI (O p)) (s : Nat → Int32) (hs : mT T s) {gs : Nat → Int32} (hgs : gOK T gs) (go ch : Int32) (bf lf rc rm vi wa wf : Nat → Int32) (it : Int32) (be cp fa inn sd st us wo : Nat → Int32) (p1 p2 : Int32) : ∃ q1, dn_X11_price go ch bf lf rc rm vi wa wf (nI (T 0 0)) (nI (T 1 0)) b h o e l g m gs y p1 p2 = some q1 ∧ ∃ q2, dn_X12_price it be cp fa inn s sd st us wo p1 p2 = some q2 ∧ q1.1 = q2.1 ∧ gOK T q1.2.2.2.2.2.2.2.2.2.2 := by
  have h1 := hw.p
  have hp10 := pz_10 hw.p
  unfold dn_X11_price dn_X12_price
  rcases pz_ix p1 (n := T 0 0) (by omega) with hp | ⟨p, hp, rfl⟩
  · rw [c_hasPerson_f hp, m_isPerson_f T hw s hs hp]
    exact ⟨_, rfl, _, rfl, rfl, hgs⟩
  · rw [c_hasPerson_t (by omega) hp, m_isPerson_t T hw s hs hp, Option.bind_some, Option.bind_some, if_pos rfl, if_pos rfl]
    rcases pz_ix p2 (n := 2 ^ T 0 0) (by omega) with hP | ⟨P, hP, rfl⟩
    · rw [c_hasParts_f h1 hP, m_isParts_f T hw s hs hP]
      exact ⟨_, rfl, _, rfl, rfl, hgs⟩
    · have hps := hw.ps hp
      obtain ⟨q, w1, w2⟩ := c_gwl T hw b hb h hh e he l hl g hg m hm y hy hO o ho (P := P) (by omega) (a := some p) (lim := T 6 p + 1) (p3 := nI p) (p4 := nI (T 6 p + 1)) (Or.inr ⟨p, hp, rfl, rfl, rfl, by omega⟩) go ch bf lf rc rm vi wa wf
      obtain ⟨rm', go', wa', lf', bf', wf', ch', rc', vi', gs', g1, g2⟩ := c_gainOf T hw b hb h hh e he l hl g hg m hm y hy hO o ho hP hgs q.2.2.1 q.2.2.2.2.2.2.2.1 q.2.2.2.2.2.1 q.2.2.2.2.1 q.2.2.2.2.2.2.2.2.1 q.2.1 q.2.2.2.2.2.2.2.2.2 q.2.2.2.1 q.2.2.2.2.2.2.1
      obtain ⟨r, m1, m2⟩ := m_gainBy T hw s hs (P := P) (by omega) (a := some p) (lim := T 6 p + 1) (p2 := nI p) (p3 := nI (T 6 p + 1)) (Or.inr ⟨p, hp, rfl, rfl, rfl, by omega⟩) it be cp fa inn sd st us wo
      obtain ⟨r2, m3, m4⟩ := m_gainBy T hw s hs (P := P) (by omega) (a := none) (lim := 0) (p3 := 0) (Or.inl ⟨rfl, rfl⟩) r.2.2.1 r.2.2.2.2.2.1 r.2.1 r.2.2.2.2.2.2.1 r.2.2.2.2.1 r.2.2.2.2.2.2.2.2.2 r.2.2.2.2.2.2.2.1 r.2.2.2.1 r.2.2.2.2.2.2.2.2.1
      rw [c_hasParts_t h1 hP, m_isParts_t T hw s hs hP, Option.bind_some, Option.bind_some, if_pos rfl, if_pos rfl, inb_nI (show p < 10 by omega) (by omega), if_pos rfl, nI_clamp (by omega), hm p hp, nI_1, w1, Option.bind_some, g1, Option.bind_some, show (24 : Int32) = nI 24 from rfl, nI_add, inb_nI (by omega) (by omega), if_pos rfl, nI_clamp (by omega), (hs.ps hp).2.2.1, nI_1, m1, Option.bind_some, m3, Option.bind_some, w2, m2, m4]
      exact ⟨_, rfl, _, rfl, rfl, g2⟩
theorem j_loss (T : tT) (hw : twf T) (b : Nat → Int32) (hb : ∀ d, d < T 1 0 → b d = nI (T 9 d)) (h : Nat → Int32) (hh : ∀ d, d < T 1 0 → h d = nI (T 12 d)) (e : Nat → Int32) (he : ∀ d, d < T 1 0 → e d = nI (T 13 d)) (l : Nat → Int32) (hl : ∀ d, d < T 1 0 → l d = nI (T 8 d)) (g : Nat → Int32) (hg : ∀ d, d < T 1 0 → g d = nI (T 11 d)) (m : Nat → Int32) (hm : ∀ p, p < T 0 0 → m p = nI (T 6 p)) (y : Nat → Int32) (hy : ∀ d, d < T 1 0 → y d = nI (T 10 d)) {O : Nat → Nat} (hO : ordP T O) (o : Nat → Int32) (ho : ∀ p, p < T 1 0 → o p = nI (O p)) (s : Nat → Int32) (hs : mT T s) {gs : Nat → Int32} (hgs : gOK T gs) (go ch : Int32) (bf lf rc rm vi wa wf : Nat → Int32) (it : Int32) (be cp fa inn sd st us wo : Nat → Int32) (p1 p2 : Int32) : ∃ q1, dn_X11_loss go ch bf lf rc rm vi wa wf (nI (T 0 0)) (nI (T 1 0)) b h o e l g m gs y p1 p2 = some q1 ∧ ∃ q2, dn_X12_loss it be cp fa inn s sd st us wo p1 p2 = some q2 ∧ q1.1 = q2.1 ∧ gOK T q1.2.2.2.2.2.2.2.2.2.2 := by
  have h1 := hw.p
  have hp10 := pz_10 hw.p
  unfold dn_X11_loss dn_X12_loss
  rcases pz_ix p1 (n := T 0 0) (by omega) with hp | ⟨p, hp, rfl⟩
  · rw [c_hasPerson_f hp, m_isPerson_f T hw s hs hp]
    exact ⟨_, rfl, _, rfl, rfl, hgs⟩
  · rw [c_hasPerson_t (by omega) hp, m_isPerson_t T hw s hs hp, Option.bind_some, Option.bind_some, if_pos rfl, if_pos rfl]
    rcases pz_ix p2 (n := 2 ^ T 0 0) (by omega) with hP | ⟨P, hP, rfl⟩
    · rw [c_hasParts_f h1 hP, m_isParts_f T hw s hs hP]
      exact ⟨_, rfl, _, rfl, rfl, hgs⟩
    · obtain ⟨rm', go', wa', lf', bf', wf', ch', rc', vi', gs', g1, g2⟩ := c_gainOf T hw b hb h hh e he l hl g hg m hm y hy hO o ho hP hgs go ch bf lf rc rm vi wa wf
      obtain ⟨q, w1, w2⟩ := c_gwl T hw b hb h hh e he l hl g hg m hm y hy hO o ho (P := P) (by omega) (a := some p) (lim := 0) (p3 := nI p) (p4 := 0) (Or.inr ⟨p, hp, rfl, rfl, rfl, by omega⟩) go' ch' bf' lf' rc' rm' vi' wa' wf'
      obtain ⟨r, m1, m2⟩ := m_gainBy T hw s hs (P := P) (by omega) (a := none) (lim := 0) (p3 := 0) (Or.inl ⟨rfl, rfl⟩) it be cp fa inn sd st us wo
      obtain ⟨r2, m3, m4⟩ := m_gainBy T hw s hs (P := P) (by omega) (a := some p) (lim := 0) (p2 := nI p) (p3 := 0) (Or.inr ⟨p, hp, rfl, rfl, rfl, by omega⟩) r.2.2.1 r.2.2.2.2.2.1 r.2.1 r.2.2.2.2.2.2.1 r.2.2.2.2.1 r.2.2.2.2.2.2.2.2.2 r.2.2.2.2.2.2.2.1 r.2.2.2.1 r.2.2.2.2.2.2.2.2.1
      rw [c_hasParts_t h1 hP, m_isParts_t T hw s hs hP, Option.bind_some, Option.bind_some, if_pos rfl, if_pos rfl, g1, Option.bind_some, w1, Option.bind_some, m1, Option.bind_some, m3, Option.bind_some, w2, m2, m4]
      exact ⟨_, rfl, _, rfl, rfl, g2⟩
/-- one change that betters GAIN: the first PERSON's -/
def nxT (T : tT) (P : Nat) : Nat := match fo (fun p => decide (gnT T P < gnT T (P ^^^ 2 ^ p))) (T 0 0) with | some p => P ^^^ 2 ^ p | none => P
def itF (F : Nat → Nat) (P : Nat) : Nat → Nat
  | 0 => P
  | k + 1 => F (itF F P k)
theorem pz_xorT {n P p : Nat} (hP : P < 2 ^ n) (hp : p < n) : P ^^^ 2 ^ p < 2 ^ n := Nat.xor_lt_two_pow hP (pz_p2 hp)
theorem pz_xor_ne (P p : Nat) : P ^^^ 2 ^ p ≠ P := fun e => by
  have := congrArg (fun x => Nat.testBit x p) e
  simp [Nat.testBit_xor, Nat.testBit_two_pow_self] at this
theorem nxT_lt {T : tT} {P : Nat} (hP : P < 2 ^ T 0 0) : nxT T P < 2 ^ T 0 0 := by
  unfold nxT
  cases h : fo (fun p => decide (gnT T P < gnT T (P ^^^ 2 ^ p))) (T 0 0) with
  | none => exact hP
  | some p => exact pz_xorT hP (fo_some _ _ _ h).1
theorem itT_lt {T : tT} {P : Nat} (hP : P < 2 ^ T 0 0) : ∀ k, itF (nxT T) P k < 2 ^ T 0 0
  | 0 => hP
  | k + 1 => nxT_lt (itT_lt hP k)
theorem nxT_gt {T : tT} {P : Nat} (h : nxT T P ≠ P) : gnT T P < gnT T (nxT T P) := by
  unfold nxT at h ⊢
  cases c : fo (fun p => decide (gnT T P < gnT T (P ^^^ 2 ^ p))) (T 0 0) with
  | none => rw [c] at h; exact absurd rfl h
  | some p => exact of_decide_eq_true (fo_some _ _ _ c).2.1
theorem climb_ends {T : tT} (hw : twf T) {P : Nat} (hP : P < 2 ^ T 0 0) : ∃ K, K < 1024 ∧ nxT T (itF (nxT T) P K) = itF (nxT T) P K ∧ ∀ k, k < K → nxT T (itF (nxT T) P k) ≠ itF (nxT T) P k := by
  have hp10 := pz_10 hw.p
  cases h : fo (fun k => nxT T (itF (nxT T) P k) == itF (nxT T) P k) 1024 with
  | some K =>
    obtain ⟨a, b, c⟩ := fo_some _ _ _ h
    exact ⟨K, a, eq_of_beq b, fun k hk e => by have := c k hk; simp [e] at this⟩
  | none =>
    exfalso
    have hn := (fo_none _ _).mp h
    have hinc : ∀ d k, k + d < 1024 → gnT T (itF (nxT T) P k) < gnT T (itF (nxT T) P (k + d + 1)) := by
      intro d
      induction d with
      | zero =>
        intro k hk
        exact nxT_gt (fun e => by have := hn k (by omega); simp [e] at this)
      | succ d ih =>
        intro k hk
        have h1 := ih k (by omega)
        have h2 : gnT T (itF (nxT T) P (k + d + 1)) < gnT T (itF (nxT T) P (k + d + 1 + 1)) := nxT_gt (fun e => by have := hn (k + d + 1) (by omega); simp [e] at this)
        have e : k + (d + 1) + 1 = k + d + 1 + 1 := by omega
        rw [e]; omega
    have := pz_pigeon 1024 1025 (itF (nxT T) P) (fun i _ => by have := itT_lt hP i; omega) (fun i j hij hj e => by
      have := hinc (j - i - 1) i (by omega)
      rw [show i + (j - i - 1) + 1 = j from by omega, e] at this
      omega)
    omega
theorem c_firstBetter (T : tT) (hw : twf T) (b : Nat → Int32) (hb : ∀ d, d < T 1 0 → b d = nI (T 9 d)) (h : Nat → Int32) (hh : ∀ d, d < T 1 0 → h d = nI (T 12 d)) (e : Nat → Int32) (he : ∀ d, d < T 1 0 → e d = nI (T 13 d)) (l : Nat → Int32) (hl : ∀ d, d < T 1 0 → l d = nI (T 8 d)) (g : Nat → Int32) (hg : ∀ d, d < T 1 0 → g d = nI (T 11 d)) (m : Nat → Int32) (hm : ∀ p, p < T 0 0 → m p = nI (T 6 p)) (y : Nat → Int32) (hy : ∀ d, d < T 1 0 → y d = nI (T 10 d)) {O : Nat → Nat} (hO : ordP T O) (o : Nat → Int32) (ho : ∀ p, p < T 1 0 → o p = nI (O p)) {gs : Nat → Int32} (hgs : gOK T gs) {P : Nat} (hP : P < 2 ^ T 0 0) (go ch : Int32) (bf lf rc rm vi wa wf : Nat → Int32) : ∃ q : Int32 × (Nat → Int32) × Int32 × (Nat → Int32) × (Nat → Int32) × (Nat → Int32) × (Nat → Int32) × Int32 × (Nat → Int32) × (Nat → Int32) × (Nat → Int32), dn_X11_firstBetter go ch bf lf rc rm vi wa wf (nI (T 0 0)) (nI (T 1 0)) b h o e l g m gs y (nI P) = some q ∧ q.1 = nI (nxT T P) ∧ gOK T q.2.2.2.2.2.2.2.2.2.2 := by
  have hp := hw.p
  have hp10 := pz_10 hw.p
  have b0 := gnT_le hw P
  obtain ⟨rm1, go1, wa1, lf1, bf1, wf1, ch1, rc1, vi1, gs1, g1, g2⟩ := c_gainOf T hw b hb h hh e he l hl g hg m hm y hy hO o ho hP hgs go ch bf lf rc rm vi wa wf
  unfold dn_X11_firstBetter
  rw [g1, Option.bind_some]
  have key : ∀ (j k : Nat), k + j = T 0 0 → ∀ (rm : Nat → Int32) (go : Int32) (wa lf bf wf : Nat → Int32) (ch : Int32) (rc vi gs : Nat → Int32), gOK T gs → (∀ p, p < k → ¬ gnT T P < gnT T (P ^^^ 2 ^ p)) → ∃ q : Int32 × (Nat → Int32) × Int32 × (Nat → Int32) × (Nat → Int32) × (Nat → Int32) × (Nat → Int32) × Int32 × (Nat → Int32) × (Nat → Int32) × (Nat → Int32), gn_X11_firstBetter_0 (nI (T 0 0)) (nI (T 1 0)) b h o e l g m y (nI P) (nI (gnT T P)) (nI k) rm go wa lf bf wf ch rc vi gs = some q ∧ q.1 = nI (nxT T P) ∧ gOK T q.2.2.2.2.2.2.2.2.2.2 := by
    intro j
    induction j with
    | zero =>
      intro k hk rm go wa lf bf wf ch rc vi gs hgs hno
      have e : k = T 0 0 := by omega
      rw [gq_X11_firstBetter_0, if_pos (show nI (T 0 0) ≤ nI k from nI_le (by omega) (by omega))]
      refine ⟨_, rfl, ?_, hgs⟩
      unfold nxT
      rw [(fo_none _ _).mpr (fun p hp => decide_eq_false (hno p (by omega)))]
    | succ j ih =>
      intro k hk rm go wa lf bf wf ch rc vi gs hgs hno
      have hx := pz_xorT hP (show k < T 0 0 by omega)
      have b1 := gnT_le hw (P ^^^ 2 ^ k)
      obtain ⟨rm2, go2, wa2, lf2, bf2, wf2, ch2, rc2, vi2, gs2, g3, g4⟩ := c_gainOf T hw b hb h hh e he l hl g hg m hm y hy hO o ho hx hgs go ch bf lf rc rm vi wa wf
      rw [gq_X11_firstBetter_0, if_neg (nI_ge (show k < T 0 0 by omega) (by omega)), pz_1shl (by omega), pz_xor, g3, Option.bind_some, nI_1]
      simp only [pz_le (show gnT T (P ^^^ 2 ^ k) < 2 ^ 31 by omega) (show gnT T P < 2 ^ 31 by omega)]
      by_cases c : gnT T P < gnT T (P ^^^ 2 ^ k)
      · rw [if_neg (by omega)]
        refine ⟨_, rfl, ?_, g4⟩
        unfold nxT
        rw [fo_is _ _ k (by omega) (decide_eq_true c) (fun j hj => decide_eq_false (hno j hj))]
      · rw [if_pos (by omega)]
        exact ih (k + 1) (by omega) rm2 go2 wa2 lf2 bf2 wf2 ch2 rc2 vi2 gs2 g4 (fun p hp => by
          by_cases e : p = k
          · subst e; exact c
          · exact hno p (by omega))
  exact key (T 0 0) 0 (by omega) rm1 go1 wa1 lf1 bf1 wf1 ch1 rc1 vi1 gs1 g2 (fun p hp => by omega)
