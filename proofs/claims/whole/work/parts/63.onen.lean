/-! ===== pure rows: one's best years, joined ===== -/
theorem bIx_ne {y a l y' a' l' : Nat} (hl : l ≤ 60) (hl' : l' ≤ 60) (ha1 : 1 ≤ a) (ha2 : a ≤ 2) (ha1' : 1 ≤ a') (ha2' : a' ≤ 2) (h : y ≠ y' ∨ (l ≠ l') ∨ (l = l' ∧ 0 < l ∧ a ≠ a')) : bIx y a l ≠ bIx y' a' l' := by
  intro e
  unfold bIx at e
  obtain ⟨i, hi⟩ : ∃ i, i = if l = 0 then 0 else 2 * l - 2 + a := ⟨_, rfl⟩
  obtain ⟨i', hi'⟩ : ∃ i', i' = if l' = 0 then 0 else 2 * l' - 2 + a' := ⟨_, rfl⟩
  rw [← hi, ← hi'] at e
  have b1 : i ≤ 120 := by rw [hi]; split <;> omega
  have b2 : i' ≤ 120 := by rw [hi']; split <;> omega
  have e1 : y = y' := by omega
  have e2 : i = i' := by omega
  rw [hi, hi'] at e2
  by_cases c1 : l = 0
  · rw [if_pos c1] at e2
    by_cases c2 : l' = 0
    · omega
    · rw [if_neg c2] at e2; omega
  · rw [if_neg c1] at e2
    by_cases c2 : l' = 0
    · rw [if_pos c2] at e2; omega
    · rw [if_neg c2] at e2
      omega
theorem vvT_bd {T : tT} (hw : twf T) {p P n : Nat} {M : Nat → Nat} (hM : oneM T p P n M 0) {a l y : Nat} : vvT T p P M a l y ≤ 12000000 := by
  have h1 := ySx_le hw p P a (min 60 (y + l)) (Nat.min_le_left _ _)
  have h2 := hM.2.2 (min 60 (y + l)) (Nat.zero_le _) (Nat.min_le_left _ _)
  unfold vvT
  omega
theorem frT_bd {T : tT} (hw : twf T) {p P n : Nat} {M : Nat → Nat} (hM : oneM T p P n M 0) {a l x y : Nat} : -1 ≤ frT T p P n M a l x y ∧ frT T p P n M a l x y ≤ 12000000 := by
  have h1 := vvT_bd hw hM (a := a) (l := l - 1) (y := y + 1)
  have h2 := vvT_bd hw hM (a := x) (l := n) (y := y)
  have h3 := vvT_bd hw hM (a := a) (l := l) (y := y)
  unfold frT
  split
  · omega
  · split
    · omega
    · split <;> omega
theorem m_best {T : tT} (hw : twf T) {p P n : Nat} (hn1 : 1 ≤ n) (hn : n ≤ 60) {M : Nat → Nat} (hM : oneM T p P n M 0) {mo yg : Nat → Int32} (hyg : ∀ a t, 1 ≤ a → a ≤ 2 → t < 60 → yg (2 * t + a - 1) = nI (ygx T p P a t)) {y a l : Nat} (hy : y < 60) (hl : l ≤ 60) (ha1 : 1 ≤ a) (ha2 : a ≤ 2) (hmo : y + 1 < 60 → lvM T p P M mo (y + 1)) (s : Nat → Int32) (p1 p2 : Int32) : gn_X12_oneOf_4 s p1 p2 (nI n) (nI y) (nI l) (nI a) (-1) 0 yg mo = gn_X12_oneOf_3 s p1 p2 (nI n) (nI y) (nI l) (nI (a + 1)) yg (upd mo (bIx y a l) (nI (vvT T p P M a l y))) := by
  have hv := vvT_bd hw hM (a := a) (l := l) (y := y)
  have hstep : ∀ (x : Nat) (v : Int), x ≤ 2 → -1 ≤ v → v ≤ 12000000 → gn_X12_oneOf_4 s p1 p2 (nI n) (nI y) (nI l) (nI a) (zI v) (nI x) yg mo = gn_X12_oneOf_4 s p1 p2 (nI n) (nI y) (nI l) (nI a) (zI (max v (frT T p P n M a l x y))) (nI (x + 1)) yg mo := by
    intro x v hx h1 h2
    have hf := frT_bd hw hM (a := a) (l := l) (x := x) (y := y)
    rw [gq_X12_oneOf_4, if_neg (show ¬ (3 : Int32) ≤ nI x from nI_ge (b := 3) (by omega) (by omega)), m_from hw hn1 hn hM.1 hyg hy hl ha1 ha2 hx hmo, Option.bind_some, nI_1]
    simp only [zI_le (show -2147483648 ≤ frT T p P n M a l x y by omega) (show frT T p P n M a l x y < 2147483648 by omega) (show -2147483648 ≤ v by omega) (show v < 2147483648 by omega)]
    by_cases c : frT T p P n M a l x y ≤ v
    · rw [if_pos c, show max v (frT T p P n M a l x y) = v from by omega]
    · rw [if_neg c, show max v (frT T p P n M a l x y) = frT T p P n M a l x y from by omega]
  have f0 := frT_bd hw hM (a := a) (l := l) (x := 0) (y := y)
  have f1 := frT_bd hw hM (a := a) (l := l) (x := 1) (y := y)
  have f2 := frT_bd hw hM (a := a) (l := l) (x := 2) (y := y)
  have e0 := hstep 0 (-1) (by omega) (by omega) (by omega)
  have e1 := hstep 1 (max (-1) (frT T p P n M a l 0 y)) (by omega) (by omega) (by omega)
  have e2 := hstep 2 (max (max (-1) (frT T p P n M a l 0 y)) (frT T p P n M a l 1 y)) (by omega) (by omega) (by omega)
  have e3 := frT_max hn1 hM (l := l) hy ha1 ha2
  have hb : bIx y a l < 7381 := by
    unfold bIx
    split <;> omega
  have e4 : gn_X12_oneOf_4 s p1 p2 (nI n) (nI y) (nI l) (nI a) (-1) 0 yg mo = gn_X12_oneOf_4 s p1 p2 (nI n) (nI y) (nI l) (nI a) (zI (vvT T p P M a l y : Int)) (nI 3) yg mo := by
    rw [← e3]
    exact (e0.trans e1).trans e2
  rw [e4, gq_X12_oneOf_4, if_pos (show (3 : Int32) ≤ nI 3 by decide), m_bindI (by omega), Option.bind_some, inb_nI hb (by omega), if_pos rfl, nI_clamp (by omega), nI_1, ← zI_n (by omega)]
theorem m_oneOf {T : tT} (hw : twf T) (s : Nat → Int32) (hs : mT T s) {p P k0 n : Nat} (hp : p < T 0 0) (hP : P < 2 ^ T 0 0) (hk0 : k0 ≤ 60) (hn : n = if k0 = 0 then 60 else k0) {M : Nat → Nat} (hM : oneM T p P n M 0) (mo yg : Nat → Int32) : ∃ yg' mo', dn_X12_oneOf mo s yg (nI p) (nI P) (nI k0) = some (nI (M 0), yg', mo') ∧ (∀ a t, 1 ≤ a → a ≤ 2 → t < 60 → yg' (2 * t + a - 1) = nI (ygx T p P a t)) ∧ ∀ y, y < 60 → lvM T p P M mo' y := by
  have hn1 : 1 ≤ n ∧ n ≤ 60 := by
    rw [hn]
    split <;> omega
  obtain ⟨yg', g1, g2⟩ := m_yearGains T hw s hs yg hp hP
  have key : ∀ (j lo : Nat), lo + j = 60 → ∃ mo', gn_X12_oneOf_1 s (nI p) (nI P) (nI n) 59 yg' mo = gn_X12_oneOf_1 s (nI p) (nI P) (nI n) (nI lo - 1) yg' mo' ∧ ∀ y, lo ≤ y → y < 60 → lvM T p P M mo' y := by
    intro j
    induction j with
    | zero =>
      intro lo hlo
      have e : lo = 60 := by omega
      subst e
      exact ⟨mo, rfl, fun y h1 h2 => by omega⟩
    | succ j ih =>
      intro lo hlo
      obtain ⟨mo1, c1, c2⟩ := ih (lo + 1) (by omega)
      have hlv : ∀ (q : Nat → Int32), (∀ y, lo + 1 ≤ y → y < 60 → lvM T p P M q y) → lo + 1 < 60 → lvM T p P M q (lo + 1) := fun q hq h => hq (lo + 1) (Nat.le_refl _) h
      obtain ⟨mo2, d1, d2⟩ := pz_rel0 (fun l (q : Nat → Int32) => gn_X12_oneOf_2 s (nI p) (nI P) (nI n) (nI lo) (nI l) yg' q) 61 (fun l q => (∀ y, lo + 1 ≤ y → y < 60 → lvM T p P M q y) ∧ ∀ l' a, l' < l → 1 ≤ a → a ≤ 2 → q (bIx lo a l') = nI (vvT T p P M a l' lo)) mo1 ⟨c2, fun l' a h => by omega⟩ (by
        rintro l q hl ⟨q1, q2⟩
        have hst : ∀ (q : Nat → Int32) (a : Nat), 1 ≤ a → a ≤ 2 → (∀ y, lo + 1 ≤ y → y < 60 → lvM T p P M q y) → gn_X12_oneOf_3 s (nI p) (nI P) (nI n) (nI lo) (nI l) (nI a) yg' q = gn_X12_oneOf_3 s (nI p) (nI P) (nI n) (nI lo) (nI l) (nI (a + 1)) yg' (upd q (bIx lo a l) (nI (vvT T p P M a l lo))) := by
          intro q a ha1 ha2 hq
          rw [gq_X12_oneOf_3, if_neg (show ¬ (3 : Int32) ≤ nI a from nI_ge (b := 3) (by omega) (by omega))]
          exact m_best hw hn1.1 hn1.2 hM g2 (by omega) (by omega) ha1 ha2 (hlv q hq) s (nI p) (nI P)
        have hup : ∀ (q : Nat → Int32) (a : Nat), 1 ≤ a → a ≤ 2 → (∀ y, lo + 1 ≤ y → y < 60 → lvM T p P M q y) → ∀ y, lo + 1 ≤ y → y < 60 → lvM T p P M (upd q (bIx lo a l) (nI (vvT T p P M a l lo))) y := by
          intro q a ha1 ha2 hq y h1 h2 l' a' hl' ha1' ha2'
          rw [pk_un (bIx_ne hl' (by omega) ha1' ha2' ha1 ha2 (Or.inl (by omega)))]
          exact hq y h1 h2 l' a' hl' ha1' ha2'
        have u1 := hup q 1 (by omega) (by omega) q1
        have u2 := hup _ 2 (by omega) (by omega) u1
        refine ⟨upd (upd q (bIx lo 1 l) (nI (vvT T p P M 1 l lo))) (bIx lo 2 l) (nI (vvT T p P M 2 l lo)), ⟨u2, fun l' a h1 h2 h3 => ?_⟩, ?_⟩
        · by_cases e : l' = l
          · subst e
            have ha : a = 1 ∨ a = 2 := by omega
            rcases ha with e | e
            · subst e
              by_cases e2 : l' = 0
              · subst e2
                have e3 : bIx lo 1 0 = bIx lo 2 0 := rfl
                rw [e3, pk_us, vvT_0 (by omega), vvT_0 (by omega)]
              · rw [pk_un (bIx_ne (by omega) (by omega) (by omega) (by omega) (by omega) (by omega) (Or.inr (Or.inr ⟨rfl, by omega, by omega⟩))), pk_us]
            · subst e; rw [pk_us]
          · rw [pk_un (bIx_ne (by omega) (by omega) h2 h3 (by omega) (by omega) (Or.inr (Or.inl e))), pk_un (bIx_ne (by omega) (by omega) h2 h3 (by omega) (by omega) (Or.inr (Or.inl e)))]
            exact q2 l' a (by omega) h2 h3
        · show gn_X12_oneOf_2 _ _ _ _ _ _ _ _ = gn_X12_oneOf_2 _ _ _ _ _ _ _ _
          rw [gq_X12_oneOf_2, if_neg (show ¬ (60 : Int32) < nI l from nI_nlt (a := 60) (b := l) (by omega) (by omega)), show (1 : Int32) = nI 1 from rfl, hst q 1 (by omega) (by omega) q1, hst _ 2 (by omega) (by omega) u1, gq_X12_oneOf_3, if_pos (show (3 : Int32) ≤ nI (2 + 1) by decide), nI_1])
      refine ⟨mo2, ?_, fun y h1 h2 => ?_⟩
      · rw [c1, pz_s1 (by omega), Nat.add_sub_cancel, gq_X12_oneOf_1, if_neg (nI_pos (by omega))]
        have d3 : gn_X12_oneOf_2 s (nI p) (nI P) (nI n) (nI lo) 0 yg' mo1 = gn_X12_oneOf_2 s (nI p) (nI P) (nI n) (nI lo) (nI 61) yg' mo2 := d2
        rw [d3, gq_X12_oneOf_2, if_pos (show (60 : Int32) < nI 61 by decide), pz_sub1]
      · by_cases e : y = lo
        · subst e
          exact fun l a hl ha1 ha2 => d1.2 l a (by omega) ha1 ha2
        · exact d1.1 y (by omega) h2
  obtain ⟨mo', c1, c2⟩ := key 60 0 (by omega)
  refine ⟨yg', mo', ?_, g2, fun y hy => c2 y (Nat.zero_le y) hy⟩
  have h0 : gn_X12_oneOf_0 s (nI p) (nI P) (nI n) yg mo = some (nI (M 0), yg', mo') := by
    have e0 : dn_X12_bindAt 0 1 0 = some (nI 0) := by decide
    have e1 := c2 0 (Nat.le_refl 0) (by omega) 0 1 (by omega) (by omega) (by omega)
    have e2 : mo' 0 = nI (M 0) := by
      rw [vvT_0 (by omega)] at e1
      exact e1
    rw [gq_X12_oneOf_0, g1, Option.bind_some, c1, gq_X12_oneOf_1, if_pos (show nI 0 - 1 < 0 by decide), e0, Option.bind_some, inb_nI (by omega) (by omega), if_pos rfl, nI_clamp (by omega), e2]
  unfold dn_X12_oneOf
  simp only [pz_e0 (show k0 < 2 ^ 31 by omega)]
  by_cases c : k0 = 0
  · rw [if_pos c] at hn ⊢
    rw [← h0, hn]; rfl
  · rw [if_neg c] at hn ⊢
    rw [← h0, hn]
theorem j_oneBy (T : tT) (hw : twf T) (b : Nat → Int32) (hb : ∀ d, d < T 1 0 → b d = nI (T 9 d)) (h : Nat → Int32) (hh : ∀ d, d < T 1 0 → h d = nI (T 12 d)) (e : Nat → Int32) (he : ∀ d, d < T 1 0 → e d = nI (T 13 d)) (l : Nat → Int32) (hl : ∀ d, d < T 1 0 → l d = nI (T 8 d)) (g : Nat → Int32) (hg : ∀ d, d < T 1 0 → g d = nI (T 11 d)) (y : Nat → Int32) (hy : ∀ d, d < T 1 0 → y d = nI (T 10 d)) (s : Nat → Int32) (hs : mT T s) (bn : Int32) (bw ln mo mo2 yg : Nat → Int32) (p1 p2 p3 : Int32) : ∃ q1, dn_X11_oneBy bn bw ln mo (nI (T 0 0)) (nI (T 1 0)) b h e l g y p1 p2 p3 = some q1 ∧ ∃ q2, dn_X12_oneBy mo2 s yg p1 p2 p3 = some q2 ∧ q1.1 = q2.1 := by
  have hp1 := hw.p
  have hp10 := pz_10 hw.p
  unfold dn_X11_oneBy dn_X12_oneBy
  rcases pz_ix p1 (n := T 0 0) (by omega) with hp | ⟨p, hp, rfl⟩
  · rw [c_hasPerson_f hp, m_isPerson_f T hw s hs hp]
    exact ⟨_, rfl, _, rfl, rfl⟩
  · rw [c_hasPerson_t (by omega) hp, m_isPerson_t T hw s hs hp, Option.bind_some, Option.bind_some, if_pos rfl, if_pos rfl]
    rcases pz_ix p2 (n := 2 ^ T 0 0) (by omega) with hP | ⟨P, hP, rfl⟩
    · rw [c_hasParts_f hw.p hP, m_isParts_f T hw s hs hP]
      exact ⟨_, rfl, _, rfl, rfl⟩
    · rw [c_hasParts_t hw.p hP, m_isParts_t T hw s hs hP, Option.bind_some, Option.bind_some, if_pos rfl, if_pos rfl]
      rcases pz_ix p3 (n := 61) (by omega) with hk | ⟨k0, hk, rfl⟩
      · have e : dn_X12_isIn p3 0 60 = some false := m_isIn_f (n := 61) (by omega) hk
        rw [e]
        by_cases c : p3 < 0
        · rw [if_pos c]; exact ⟨_, rfl, _, rfl, rfl⟩
        · rw [if_neg c, if_neg (show ¬ p3 ≤ 60 from pz_nle (n := 60) (by omega) (hk.resolve_left c))]; exact ⟨_, rfl, _, rfl, rfl⟩
      · obtain ⟨M, ln', bw', mo', r1, r2, r3, r4, r5⟩ := c_reckon T hw b hb h hh e he l hl g hg y hy hp hP (k0 := k0) (n := if k0 = 0 then 60 else k0) (by omega) rfl bn bw ln mo
        obtain ⟨yg', mo2', o1, o2, o3⟩ := m_oneOf hw s hs hp hP (k0 := k0) (by omega) rfl r5 mo2 yg
        have e : dn_X12_isIn (nI k0) 0 60 = some true := m_isIn_t (n := 61) (by omega) hk
        rw [e, Option.bind_some, if_pos rfl, if_neg (nI_pos (by omega)), if_pos (show nI k0 ≤ 60 from nI_le (b := 60) (by omega) (by omega)), r1, Option.bind_some, o1, Option.bind_some]
        exact ⟨_, rfl, _, rfl, r4 0 (by omega)⟩
