/-! ===== pure rows: the row of one's best years ===== -/
noncomputable def gK (a : Nat) : Int32 → (Nat → Int32) → (Nat → Int32) → (Nat → Int32) → Int32 → Int32 → Int32 → Int32 → (Nat → Int32) → Option (Int32 × (Nat → Int32)) := if a = 1 then gn_X1_keepRow_0 else gn_X1_keepRow_4
theorem gK_1 : gK 1 = gn_X1_keepRow_0 := if_pos rfl
theorem gK_2 : gK 2 = gn_X1_keepRow_4 := if_neg (by decide)
theorem pz_ile {a b : Nat} (ha : a < 2 ^ 31) (hb : b < 2 ^ 31) : (nI a ≤ nI b) = ¬ (b < a) := by
  rw [pz_le ha hb]
  apply propext
  omega
theorem c_kr {T : tT} (hw : twf T) {p P n : Nat} (hn1 : 1 ≤ n) (hn : n ≤ 60) {M : Nat → Nat} (hM : oneM T p P n M 0) {ln bw mo : Nat → Int32} (hln : ∀ t, t ≤ 60 → ln t = nI (ySx T p P 1 t)) (hbw : ∀ t, t ≤ 60 → bw t = nI (ySx T p P 2 t)) (hmo : ∀ t, t ≤ 60 → mo t = nI (M t)) {y bu a : Nat} (hy : y < 60) (hbu : bu ≤ 60) (ha1 : 1 ≤ a) (ha2 : a ≤ 2) (w kp : Int32) (row : Nat → Int32) : gK a (nI n) bw ln mo (nI bu) w (nI y) kp row = if y < bu then gK a (nI n) bw ln mo (nI bu) w (nI (y + 1)) kp (upd row y (if ygx T p P a y = 0 then 0 else w)) else if M y = M (y + 1) then gK a (nI n) bw ln mo (nI bu) w (nI (y + 1)) kp (upd row y 0) else if M y = vvT T p P M 1 n y then gK 1 (nI n) bw ln mo (nI (min 60 (y + n))) 1 (nI (y + 1)) kp (upd row y 1) else gK 2 (nI n) bw ln mo (nI (min 60 (y + n))) 2 (nI (y + 1)) kp (upd row y 2) := by
  have m1 := hM.2.2 y (Nat.zero_le _) (by omega)
  have m2 := hM.2.2 (y + 1) (Nat.zero_le _) (by omega)
  have v1 := vvT_bd hw hM (a := 1) (l := n) (y := y)
  have g1 := c_byBinding hw (p := p) (P := P) (n := n) (a := 1) (y := y) (M := M) hn (by omega) hln (hmo _ (Nat.min_le_left _ _))
  have g2 := c_free (n := n) (y := y) hn (by omega)
  have s1 := ySx_le hw p P 1 y (by omega)
  have s2 := ySx_le hw p P 2 y (by omega)
  have s3 := ySx_le hw p P 1 (y + 1) (by omega)
  have s4 := ySx_le hw p P 2 (y + 1) (by omega)
  have t1 := ySx_s T p P 1 y
  have t2 := ySx_s T p P 2 y
  have i61 : inb (nI y) 61 = true := inb_nI (by omega) (by omega)
  have i61' : inb (nI (y + 1)) 61 = true := inb_nI (by omega) (by omega)
  have i60 : inb (nI y) 60 = true := inb_nI (by omega) (by omega)
  have n60 : ¬ (60 : Int32) ≤ nI y := nI_ge (b := 60) hy (by omega)
  have hk1 : ∀ row, gn_X1_keepRow_1 (nI n) bw ln mo (nI y) 1 kp row = gK 1 (nI n) bw ln mo (nI (min 60 (y + n))) 1 (nI (y + 1)) kp (upd row y 1) := by
    intro row
    rw [gq_X1_keepRow_1, if_neg (by decide), if_neg (by decide), gq_X1_keepRow_3, g2, Option.bind_some, i60, if_pos rfl, nI_clamp (by omega), nI_1, gK_1]
  have hk2 : ∀ row, gn_X1_keepRow_1 (nI n) bw ln mo (nI y) 0 kp row = gK 2 (nI n) bw ln mo (nI (min 60 (y + n))) 2 (nI (y + 1)) kp (upd row y 2) := by
    intro row
    rw [gq_X1_keepRow_1, if_pos rfl, if_pos rfl, gq_X1_keepRow_2, g2, Option.bind_some, i60, if_pos rfl, nI_clamp (by omega), nI_1, gK_2]
  have ha : a = 1 ∨ a = 2 := by omega
  rcases ha with e | e
  · subst e
    rw [gK_1, gq_X1_keepRow_0, if_neg n60, nI_1, i61, i61', i60, nI_clamp (by omega), nI_clamp (by omega), hmo y (by omega), hmo (y + 1) (by omega), g1, Option.bind_some, hln y (by omega), hln (y + 1) (by omega), hk1, hk2]
    simp only [if_true, pz_le (show bu < 2 ^ 31 by omega) (show y < 2 ^ 31 by omega), pz_eq (show M y < 2 ^ 31 by omega) (show M (y + 1) < 2 ^ 31 by omega), pz_eq (show M y < 2 ^ 31 by omega) (show vvT T p P M 1 n y < 2 ^ 31 by omega), pz_le (show ySx T p P 1 (y + 1) < 2 ^ 31 by omega) (show ySx T p P 1 y < 2 ^ 31 by omega), gK_1]
    by_cases c1 : y < bu
    · rw [if_neg (by omega), if_pos c1]
      by_cases c2 : ygx T p P 1 y = 0
      · rw [if_pos (by omega), if_pos c2]
      · rw [if_neg (by omega), if_neg c2]
    · rw [if_pos (by omega), if_neg c1]
  · subst e
    rw [gK_2, gq_X1_keepRow_4, if_neg n60, nI_1, i61, i61', i60, nI_clamp (by omega), nI_clamp (by omega), hmo y (by omega), hmo (y + 1) (by omega), g1, Option.bind_some, hbw y (by omega), hbw (y + 1) (by omega), hk1, hk2]
    simp only [if_true, pz_le (show bu < 2 ^ 31 by omega) (show y < 2 ^ 31 by omega), pz_eq (show M y < 2 ^ 31 by omega) (show M (y + 1) < 2 ^ 31 by omega), pz_eq (show M y < 2 ^ 31 by omega) (show vvT T p P M 1 n y < 2 ^ 31 by omega), pz_le (show ySx T p P 2 (y + 1) < 2 ^ 31 by omega) (show ySx T p P 2 y < 2 ^ 31 by omega), gK_2]
    by_cases c1 : y < bu
    · rw [if_neg (by omega), if_pos c1]
      by_cases c2 : ygx T p P 2 y = 0
      · rw [if_pos (by omega), if_pos c2]
      · rw [if_neg (by omega), if_neg c2]
    · rw [if_pos (by omega), if_neg c1]
theorem m_kr {T : tT} (hw : twf T) {p P n : Nat} (hn1 : 1 ≤ n) (hn : n ≤ 60) {M : Nat → Nat} (hM : oneM T p P n M 0) {mo yg : Nat → Int32} (hyg : ∀ a t, 1 ≤ a → a ≤ 2 → t < 60 → yg (2 * t + a - 1) = nI (ygx T p P a t)) (hmo : ∀ y, y < 60 → lvM T p P M mo y) (s : Nat → Int32) (p1 p2 v4 ho : Int32) {y a l : Nat} (hy : y < 60) (hl : l ≤ 60) (ha1 : 1 ≤ a) (ha2 : a ≤ 2) (oi : Nat → Int32) : gn_X12_one_1 s p1 p2 (nI n) v4 (nI a) (nI l) (nI y) 0 yg mo ho oi = if 0 < l then gn_X12_one_1 s p1 p2 (nI n) v4 (nI a) (nI (l - 1)) (nI (y + 1)) 0 yg mo ho (upd oi y (if ygx T p P a y = 0 then 0 else nI a)) else if M y = M (y + 1) then gn_X12_one_1 s p1 p2 (nI n) v4 (nI a) (nI 0) (nI (y + 1)) 0 yg mo ho (upd oi y 0) else if M y = vvT T p P M 1 n y then gn_X12_one_1 s p1 p2 (nI n) v4 (nI 1) (nI (n - 1)) (nI (y + 1)) 0 yg mo ho (upd oi y 1) else gn_X12_one_1 s p1 p2 (nI n) v4 (nI 2) (nI (n - 1)) (nI (y + 1)) 0 yg mo ho (upd oi y 2) := by
  have hv := vvT_bd hw hM (a := a) (l := l) (y := y)
  have hb : bIx y a l < 7381 := by
    unfold bIx
    split <;> omega
  have h3 : ∀ (v5 : Int32) (l' : Nat) (oi : Nat → Int32), l' < 2 ^ 31 → gn_X12_one_3 s p1 p2 (nI n) v4 v5 (nI l') (nI y) 0 yg mo ho oi = gn_X12_one_1 s p1 p2 (nI n) v4 v5 (nI (l' - 1)) (nI (y + 1)) 0 yg mo ho oi := by
    intro v5 l' oi hl'
    rw [gq_X12_one_3, nI_1]
    simp only [pz_le0 hl']
    by_cases c : l' = 0
    · rw [if_pos c, c]; rfl
    · rw [if_neg c, pz_s1 (by omega)]
  have h2 : ∀ x, x ≤ 2 → gn_X12_one_2 s p1 p2 (nI n) v4 (nI a) (nI l) (nI y) (nI x) 0 yg mo ho oi = if frT T p P n M a l x y = (vvT T p P M a l y : Int) then (if x = 0 then gn_X12_one_1 s p1 p2 (nI n) v4 (nI a) (nI (l - 1)) (nI (y + 1)) 0 yg mo ho (upd oi y (nI x)) else if l = 0 then gn_X12_one_1 s p1 p2 (nI n) v4 (nI x) (nI (n - 1)) (nI (y + 1)) 0 yg mo ho (upd oi y (nI x)) else gn_X12_one_1 s p1 p2 (nI n) v4 (nI a) (nI (l - 1)) (nI (y + 1)) 0 yg mo ho (upd oi y (nI x))) else gn_X12_one_2 s p1 p2 (nI n) v4 (nI a) (nI l) (nI y) (nI (x + 1)) 0 yg mo ho oi := by
    intro x hx
    have hf := frT_bd hw hM (a := a) (l := l) (x := x) (y := y)
    rw [gq_X12_one_2, m_from hw hn1 hn hM.1 hyg hy hl ha1 ha2 hx (fun h => hmo _ h), Option.bind_some, m_bindI (by omega), Option.bind_some, inb_nI hb (by omega), if_pos rfl, nI_clamp (by omega), hmo y hy l a hl ha1 ha2, zI_n (n := vvT T p P M a l y) (by omega), inb_nI hy (by omega), if_pos rfl, nI_clamp (by omega), h3 _ l _ (by omega), h3 _ n _ (by omega), nI_1]
    simp only [zI_eq (show -2147483648 ≤ frT T p P n M a l x y by omega) (show frT T p P n M a l x y < 2147483648 by omega) (show -2147483648 ≤ (vvT T p P M a l y : Int) by omega) (show (vvT T p P M a l y : Int) < 2147483648 by omega), pz_le0 (show x < 2 ^ 31 by omega), pz_e0 (show l < 2 ^ 31 by omega)]
  rw [gq_X12_one_1, if_neg (show ¬ (60 : Int32) ≤ nI y from nI_ge (b := 60) hy (by omega)), show gn_X12_one_2 s p1 p2 (nI n) v4 (nI a) (nI l) (nI y) 0 0 yg mo ho oi = _ from h2 0 (by omega), h2 (0 + 1) (by omega), h2 (0 + 1 + 1) (by omega)]
  unfold frT
  simp only [if_true, Nat.zero_add, show ¬ (1 : Nat) = 0 from by decide, show ¬ (1 + 1 : Nat) = 0 from by decide, if_false]
  by_cases c : l = 0
  · subst c
    have hmx := hM.2.1 y (Nat.zero_le y) hy
    have q0 := vvT_0 (T := T) (p := p) (P := P) (a := a) (y := y) (M := M) (by omega)
    have q1 := vvT_0 (T := T) (p := p) (P := P) (a := a) (y := y + 1) (M := M) (by omega)
    rw [if_neg (show ¬ 0 < 0 by omega)]
    simp only [if_true, Nat.zero_sub, q0, q1]
    by_cases c1 : M y = M (y + 1)
    · rw [if_pos (by omega), if_pos c1]; rfl
    · rw [if_neg (by omega), if_neg c1]
      by_cases c2 : M y = vvT T p P M 1 n y
      · rw [if_pos (by omega), if_pos c2]; rfl
      · have e2 : (vvT T p P M (1 + 1) n y : Int) = (M y : Int) := by
          show ((vvT T p P M 2 n y : Nat) : Int) = (M y : Int)
          omega
        rw [if_neg (by omega), if_neg c2, if_pos e2]; rfl
  · obtain ⟨k, rfl⟩ : ∃ k, l = k + 1 := ⟨l - 1, by omega⟩
    have hs := vvT_s (T := T) (p := p) (P := P) (a := a) (l := k) (M := M) hy
    rw [if_pos (show 0 < k + 1 by omega)]
    simp only [Nat.add_sub_cancel, if_neg c]
    by_cases c1 : ygx T p P a y = 0
    · rw [if_pos (by omega), if_pos c1]; rfl
    · rw [if_neg (by omega), if_neg c1]
      have ha : a = 1 ∨ a = 2 := by omega
      rcases ha with e | e
      · subst e
        rw [if_pos rfl, if_pos rfl]
      · subst e
        rw [if_neg (show ¬ (2 : Nat) = 1 by decide), if_neg (by omega), if_pos (show (2 : Nat) = 1 + 1 by decide), if_pos rfl]
theorem j_rows {T : tT} (hw : twf T) {p P n : Nat} (hn1 : 1 ≤ n) (hn : n ≤ 60) {M : Nat → Nat} (hM : oneM T p P n M 0) {ln bw mo : Nat → Int32} (hln : ∀ t, t ≤ 60 → ln t = nI (ySx T p P 1 t)) (hbw : ∀ t, t ≤ 60 → bw t = nI (ySx T p P 2 t)) (hmo : ∀ t, t ≤ 60 → mo t = nI (M t)) {mo2 yg : Nat → Int32} (hyg : ∀ a t, 1 ≤ a → a ≤ 2 → t < 60 → yg (2 * t + a - 1) = nI (ygx T p P a t)) (hmo2 : ∀ y, y < 60 → lvM T p P M mo2 y) (s : Nat → Int32) (p1 p2 v4 ho kp : Int32) : ∀ (j y : Nat), y + j = 60 → ∀ (bu l a : Nat) (w : Int32) (row oi : Nat → Int32), bu ≤ 60 → l ≤ 60 → 1 ≤ a → a ≤ 2 → ((l = 0 ∧ bu ≤ y) ∨ (0 < l ∧ bu = min 60 (y + l) ∧ w = nI a)) → (∀ k, k < y → row k = oi k) → ∃ row' oi', gK a (nI n) bw ln mo (nI bu) w (nI y) kp row = some (kp, row') ∧ gn_X12_one_1 s p1 p2 (nI n) v4 (nI a) (nI l) (nI y) 0 yg mo2 ho oi = some (v4, 0, yg, mo2, 1, oi') ∧ ∀ k, k < 60 → row' k = oi' k := by
  intro j
  induction j with
  | zero =>
    intro y hy bu l a w row oi hbu hl ha1 ha2 _ hr
    have e : y = 60 := by omega
    subst e
    refine ⟨row, oi, ?_, ?_, hr⟩
    · have ha : a = 1 ∨ a = 2 := by omega
      rcases ha with e | e
      · subst e
        rw [gK_1, gq_X1_keepRow_0, if_pos (show (60 : Int32) ≤ nI 60 by decide)]
      · subst e
        rw [gK_2, gq_X1_keepRow_4, if_pos (show (60 : Int32) ≤ nI 60 by decide)]
    · rw [gq_X12_one_1, if_pos (show (60 : Int32) ≤ nI 60 by decide)]
  | succ j ih =>
    intro y hy bu l a w row oi hbu hl ha1 ha2 hrel hr
    have hy2 : y < 60 := by omega
    have hup : ∀ (v v' : Int32), v = v' → ∀ k, k < y + 1 → upd row y v k = upd oi y v' k := by
      intro v v' hv k hk
      by_cases e : k = y
      · subst e; rw [pk_us, pk_us, hv]
      · rw [pk_un e, pk_un e]; exact hr k (by omega)
    rw [c_kr hw hn1 hn hM hln hbw hmo hy2 hbu ha1 ha2, m_kr hw hn1 hn hM hyg hmo2 s p1 p2 v4 ho hy2 hl ha1 ha2]
    rcases hrel with ⟨h1, h2⟩ | ⟨h1, h2, h3⟩
    · rw [if_neg (show ¬ y < bu by omega), if_neg (show ¬ 0 < l by omega)]
      by_cases c1 : M y = M (y + 1)
      · rw [if_pos c1, if_pos c1]
        exact ih (y + 1) (by omega) bu 0 a w _ _ hbu (by omega) ha1 ha2 (Or.inl ⟨rfl, by omega⟩) (hup _ _ rfl)
      · rw [if_neg c1, if_neg c1]
        have hnx : ∀ a', (n - 1 = 0 ∧ min 60 (y + n) ≤ y + 1) ∨ (0 < n - 1 ∧ min 60 (y + n) = min 60 (y + 1 + (n - 1)) ∧ nI a' = nI a') := by
          intro a'
          by_cases c : n = 1
          · left; omega
          · right
            exact ⟨by omega, by rw [show y + 1 + (n - 1) = y + n from by omega], rfl⟩
        by_cases c2 : M y = vvT T p P M 1 n y
        · rw [if_pos c2, if_pos c2]
          exact ih (y + 1) (by omega) (min 60 (y + n)) (n - 1) 1 1 _ _ (Nat.min_le_left _ _) (by omega) (by omega) (by omega) (hnx 1) (hup _ _ rfl)
        · rw [if_neg c2, if_neg c2]
          exact ih (y + 1) (by omega) (min 60 (y + n)) (n - 1) 2 2 _ _ (Nat.min_le_left _ _) (by omega) (by omega) (by omega) (hnx 2) (hup _ _ rfl)
    · rw [if_pos (show y < bu by omega), if_pos h1]
      refine ih (y + 1) (by omega) bu (l - 1) a w _ _ hbu (by omega) ha1 ha2 ?_ (hup _ _ (by rw [h3]))
      by_cases c : l = 1
      · left; omega
      · right
        exact ⟨by omega, by rw [h2, show y + 1 + (l - 1) = y + l from by omega], h3⟩
theorem j_one (T : tT) (hw : twf T) (b : Nat → Int32) (hb : ∀ d, d < T 1 0 → b d = nI (T 9 d)) (h : Nat → Int32) (hh : ∀ d, d < T 1 0 → h d = nI (T 12 d)) (e : Nat → Int32) (he : ∀ d, d < T 1 0 → e d = nI (T 13 d)) (l : Nat → Int32) (hl : ∀ d, d < T 1 0 → l d = nI (T 8 d)) (g : Nat → Int32) (hg : ∀ d, d < T 1 0 → g d = nI (T 11 d)) (y : Nat → Int32) (hy : ∀ d, d < T 1 0 → y d = nI (T 10 d)) (s : Nat → Int32) (hs : mT T s) {kp ho : Int32} {rw' oi : Nat → Int32} (hc : chOK kp ho rw' oi) (bn : Int32) (bw ln mo mo2 yg : Nat → Int32) (p1 p2 : Int32) : ∃ q1, dn_X11_one kp bn bw ln mo rw' (nI (T 0 0)) (nI (T 1 0)) (nI (T 2 0)) b h e l g y p1 p2 = some q1 ∧ ∃ q2, dn_X12_one ho mo2 oi s yg p1 p2 = some q2 ∧ q1.1 = q2.1 ∧ chOK q1.2.2.2.2.2.1 q2.2.2.2.2.1 q1.2.2.2.2.2.2 q2.2.2.2.2.2 := by
  have hp1 := hw.p
  have hp10 := pz_10 hw.p
  have hlw := hw.n
  unfold dn_X11_one dn_X12_one
  rcases pz_ix p1 (n := T 0 0) (by omega) with hp | ⟨p, hp, rfl⟩
  · rw [c_hasPerson_f hp, m_isPerson_f T hw s hs hp]
    exact ⟨_, rfl, _, rfl, rfl, hc⟩
  · rw [c_hasPerson_t (by omega) hp, m_isPerson_t T hw s hs hp, Option.bind_some, Option.bind_some, if_pos rfl, if_pos rfl]
    rcases pz_ix p2 (n := 2 ^ T 0 0) (by omega) with hP | ⟨P, hP, rfl⟩
    · rw [c_hasParts_f hw.p hP, m_isParts_f T hw s hs hP]
      exact ⟨_, rfl, _, rfl, rfl, hc⟩
    · obtain ⟨n, hn⟩ : ∃ n, n = if T 2 0 = 0 then 60 else T 2 0 := ⟨_, rfl⟩
      have hn1 : 1 ≤ n ∧ n ≤ 60 := by
        rw [hn]
        split <;> omega
      obtain ⟨M, ln', bw', mo', r1, r2, r3, r4, r5⟩ := c_reckon T hw b hb h hh e he l hl g hg y hy hp hP (k0 := T 2 0) (n := n) hlw hn bn bw ln mo
      obtain ⟨yg', mo2', o1, o2, o3⟩ := m_oneOf hw s hs hp hP (k0 := T 2 0) hlw hn r5 mo2 yg
      obtain ⟨row', oi', x1, x2, x3⟩ := j_rows hw hn1.1 hn1.2 r5 r2 r3 r4 o2 o3 s (nI p) (nI P) (nI (M 0)) ho 1 60 0 (by omega) 0 0 1 0 rw' oi (by omega) (by omega) (by omega) (by omega) (Or.inl ⟨rfl, Nat.le_refl 0⟩) (fun k hk => by omega)
      rw [gK_1] at x1
      have x1' : dn_X1_keepRow (nI n) bw' ln' mo' rw' = some (1, row') := x1
      have h0 : gn_X12_one_0 s (nI p) (nI P) (nI n) 0 yg mo2 ho oi = some (nI (M 0), 0, yg', mo2', 1, oi') := by
        rw [gq_X12_one_0, show (2 : Int32).toNatClampNeg = 2 from rfl, hs.2.2.1, o1, Option.bind_some]
        exact x2
      have h0' : (if s (2 : Int32).toNatClampNeg = 0 then gn_X12_one_0 s (nI p) (nI P) 60 0 yg mo2 ho oi else gn_X12_one_0 s (nI p) (nI P) (s (2 : Int32).toNatClampNeg) 0 yg mo2 ho oi) = some (nI (M 0), 0, yg', mo2', 1, oi') := by
        rw [show (2 : Int32).toNatClampNeg = 2 from rfl, hs.2.2.1, ← h0]
        simp only [pz_e0 (show T 2 0 < 2 ^ 31 by omega)]
        by_cases c : T 2 0 = 0
        · rw [if_pos c] at hn ⊢
          rw [hn]; rfl
        · rw [if_neg c] at hn ⊢
          rw [hn]
      rw [c_hasParts_t hw.p hP, m_isParts_t T hw s hs hP, Option.bind_some, Option.bind_some, if_pos rfl, if_pos rfl, r1, Option.bind_some]
      show ∃ q1, Option.bind (dn_X1_keepRow (nI n) bw' ln' mo' rw') _ = some q1 ∧ ∃ q2, (if s (2 : Int32).toNatClampNeg = 0 then gn_X12_one_0 s (nI p) (nI P) 60 0 yg mo2 ho oi else gn_X12_one_0 s (nI p) (nI P) (s (2 : Int32).toNatClampNeg) 0 yg mo2 ho oi) = some q2 ∧ _
      rw [x1', Option.bind_some, h0']
      exact ⟨_, rfl, _, rfl, r4 0 (by omega), rfl, Or.inr rfl, fun _ => x3⟩
