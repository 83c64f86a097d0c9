/-! ===== pure rows: the class's GAIN, year by year ===== -/
theorem c_seg (T : tT) (hw : twf T) (b : Nat → Int32) (hb : ∀ d, d < T 1 0 → b d = nI (T 9 d)) (h : Nat → Int32) (hh : ∀ d, d < T 1 0 → h d = nI (T 12 d)) (e : Nat → Int32) (he : ∀ d, d < T 1 0 → e d = nI (T 13 d)) (l : Nat → Int32) (hl : ∀ d, d < T 1 0 → l d = nI (T 8 d)) (g : Nat → Int32) (hg : ∀ d, d < T 1 0 → g d = nI (T 11 d)) (m : Nat → Int32) (hm : ∀ p, p < T 0 0 → m p = nI (T 6 p)) (y : Nat → Int32) {O : Nat → Nat} (hO : ordP T O) (o : Nat → Int32) (ho : ∀ p, p < T 1 0 → o p = nI (O p)) {P : Nat} (hP : P < 2 ^ 10) {a : Option Nat} {lim : Nat} {p3 p4 : Int32} (hp : (a = none ∧ p3 = -1) ∨ ∃ p, p < T 0 0 ∧ a = some p ∧ p3 = nI p ∧ p4 = nI lim ∧ lim ≤ 10) {lo hi Y : Nat} (hlo : lo < hi) (hhi : hi ≤ T 1 0) (hy1 : ∀ p, lo ≤ p → p < hi → T 10 (O p) = Y) (hy0 : ∀ p, p < lo → T 10 (O p) < Y) (hy2 : ∀ p, hi ≤ p → p < T 1 0 → Y < T 10 (O p)) (sum : Nat) (rm : Nat → Int32) (go : Int32) (wa lf bf wf : Nat → Int32) (ch : Int32) (rc vi : Nat → Int32) : ∃ (rm' : Nat → Int32) (go' : Int32) (wa' lf' bf' wf' : Nat → Int32) (ch' : Int32) (rc' vi' : Nat → Int32), gn_X2_gainWithLimit_1 (nI (T 0 0)) (nI (T 1 0)) b h o e l g m y (nI P) p3 p4 (nI sum) (nI lo) (nI hi) rm go wa lf bf wf ch rc vi = gn_X2_gainWithLimit_0 (nI (T 0 0)) (nI (T 1 0)) b h o e l g m y (nI P) p3 p4 (nI (sum + gyT T P (capT T a lim) Y)) (nI hi) (nI (hi + 1)) rm' go' wa' lf' bf' wf' ch' rc' vi' := by
  have hn := hw.d
  have hn0 := hw.p
  have key : ∀ (rm1 : Nat → Int32), (∀ v, v < T 0 0 → capT T a lim v ≤ 10 ∧ rm1 v = nI (capT T a lim v)) → ∃ (rm' : Nat → Int32) (go' : Int32) (wa' lf' bf' wf' : Nat → Int32) (ch' : Int32) (rc' vi' : Nat → Int32), gn_X2_gainWithLimit_2 (nI (T 0 0)) (nI (T 1 0)) b h o e l g m y (nI P) p3 p4 (nI sum) (nI lo) (nI hi) rm1 go wa lf bf wf ch rc vi = gn_X2_gainWithLimit_0 (nI (T 0 0)) (nI (T 1 0)) b h o e l g m y (nI P) p3 p4 (nI (sum + gyT T P (capT T a lim) Y)) (nI hi) (nI (hi + 1)) rm' go' wa' lf' bf' wf' ch' rc' vi' := by
    intro rm1 hrm1
    obtain ⟨k, idx, wa', lf', bf', wf', g1, g2, g3, g4, g5, g6, g7⟩ := c_gather T hw b hb h hh e he l hl g hg hO o ho hP (show lo ≤ hi by omega) hhi bf lf wa wf
    have hgw : gwf (fun i => leG T P (idx i)) (fun i => boG T P (idx i)) (fun i => T 11 (idx i) + T 12 (idx i)) P.testBit k (T 0 0) := by
      intro i hi'
      obtain ⟨p, p1, p2, p3, p4⟩ := g6 i hi'
      have hd := hO.1 p (by omega)
      show leG T P (idx i) < T 0 0 ∧ boG T P (idx i) < T 0 0 ∧ P.testBit (leG T P (idx i)) = true ∧ P.testBit (boG T P (idx i)) = false ∧ T 11 (idx i) + T 12 (idx i) ≤ 198
      rw [p3]
      have h1 := leG_lt hw (P := P) hd
      have h2 := goG p4
      exact ⟨h1.1, h1.2.1, h2.1, h2.2, h1.2.2.2⟩
    obtain ⟨q, q1, q2⟩ := c_gainOfYear (cap := capT T a lim) hP hgw hn0 (by omega) g3 (fun v hv => g4 v (by omega)) hrm1 ch rc vi
    have hopt : optN (fun i => leG T P (idx i)) (fun i => boG T P (idx i)) (fun i => T 11 (idx i) + T 12 (idx i)) k (capT T a lim) = gyT T P (capT T a lim) Y := by
      unfold gyT
      refine opt_enum (idx := idx) _ g5 (fun i hi' => ?_) (fun i hi' => ⟨rfl, rfl, ?_⟩) (fun d hd hne => ?_)
      · obtain ⟨p, p1, p2, p3, p4⟩ := g6 i hi'
        rw [p3]; exact hO.1 p (by omega)
      · obtain ⟨p, p1, p2, p3, p4⟩ := g6 i hi'
        show T 11 (idx i) + T 12 (idx i) = wtG T P Y (idx i)
        unfold wtG
        rw [p3, if_pos ⟨hy1 p p1 p2, p4⟩]
      · obtain ⟨p, p1, p2⟩ := hO.sur hd
        unfold wtG at hne
        by_cases c : T 10 d = Y ∧ goT T P d = true
        · rw [← p2] at c ⊢
          refine g7 p ?_ ?_ c.2
          · apply Classical.byContradiction
            intro hc
            have := hy0 p (by omega)
            omega
          · apply Classical.byContradiction
            intro hc
            have := hy2 p (by omega) p1
            omega
        · rw [if_neg c] at hne; exact absurd rfl hne
    rw [gq_X2_gainWithLimit_2, g1, Option.bind_some, q1, Option.bind_some, q2, nI_add, nI_1, hopt]
    exact ⟨_, _, _, _, _, _, _, _, _, rfl⟩
  rw [gq_X2_gainWithLimit_1]
  have hcp : ∀ v, v < T 0 0 → va_cpy m rm (0 : Int32).toNatClampNeg (0 : Int32).toNatClampNeg (10 : Int32).toNatClampNeg v = nI (T 6 v) := fun v hv => by
    rw [show (0 : Int32).toNatClampNeg = 0 from rfl, show (10 : Int32).toNatClampNeg = 10 from rfl, sb_cpy0 (by omega), hm v hv]
  rcases hp with ⟨e1, e2⟩ | ⟨p, p1, p2, p5, p6, p7⟩
  · subst e1
    rw [if_pos e2]
    apply key
    intro v hv
    have := hw.ps hv
    exact ⟨by show T 6 v ≤ 10; omega, hcp v hv⟩
  · rw [if_neg (show ¬ p3 = -1 from fun x => by rw [p5, pz_n0 (by omega)] at x; exact x), p5, inb_nI (by omega) (by omega), if_pos rfl]
    rw [p5] at key
    apply key
    intro v hv
    have := hw.ps hv
    rw [nI_clamp (by omega)]
    unfold capT
    by_cases c : v = p
    · subst c
      rw [if_pos p2, pk_us]; exact ⟨p7, p6⟩
    · rw [if_neg (show ¬ a = some v from fun x => by rw [p2] at x; exact c (Option.some.inj x).symm), pk_un c]
      exact ⟨by omega, hcp v hv⟩
theorem sm_gap (f : Nat → Nat) (a : Nat) : ∀ (k : Nat), (∀ y, a ≤ y → y < a + k → f y = 0) → sm f (a + k) = sm f a
  | 0, _ => rfl
  | k + 1, h => by
    show sm f (a + k) + f (a + k) = sm f a
    rw [sm_gap f a k (fun y h1 h2 => h y h1 (by omega)), h (a + k) (by omega) (by omega), Nat.add_zero]
theorem c_gwl (T : tT) (hw : twf T) (b : Nat → Int32) (hb : ∀ d, d < T 1 0 → b d = nI (T 9 d)) (h : Nat → Int32) (hh : ∀ d, d < T 1 0 → h d = nI (T 12 d)) (e : Nat → Int32) (he : ∀ d, d < T 1 0 → e d = nI (T 13 d)) (l : Nat → Int32) (hl : ∀ d, d < T 1 0 → l d = nI (T 8 d)) (g : Nat → Int32) (hg : ∀ d, d < T 1 0 → g d = nI (T 11 d)) (m : Nat → Int32) (hm : ∀ p, p < T 0 0 → m p = nI (T 6 p)) (y : Nat → Int32) (hy : ∀ d, d < T 1 0 → y d = nI (T 10 d)) {O : Nat → Nat} (hO : ordP T O) (o : Nat → Int32) (ho : ∀ p, p < T 1 0 → o p = nI (O p)) {P : Nat} (hP : P < 2 ^ 10) {a : Option Nat} {lim : Nat} {p3 p4 : Int32} (hp : (a = none ∧ p3 = -1) ∨ ∃ p, p < T 0 0 ∧ a = some p ∧ p3 = nI p ∧ p4 = nI lim ∧ lim ≤ 10) (go ch : Int32) (bf lf rc rm vi wa wf : Nat → Int32) : ∃ q, dn_X2_gainWithLimit go ch bf lf rc rm vi wa wf (nI (T 0 0)) (nI (T 1 0)) b h o e l g m y (nI P) p3 p4 = some q ∧ q.1 = nI (gainT T P (capT T a lim)) := by
  have hn := hw.d
  have key : ∀ (j i lo sum : Nat) (rm : Nat → Int32) (go : Int32) (wa lf bf wf : Nat → Int32) (ch : Int32) (rc vi : Nat → Int32), i + j = T 1 0 → lo < i → 0 < j ∨ 0 < i → (∀ p, lo ≤ p → p < i → T 10 (O p) = T 10 (O lo)) → (∀ p, p < lo → T 10 (O p) < T 10 (O lo)) → sum = sm (gyT T P (capT T a lim)) (T 10 (O lo)) → ∃ q, gn_X2_gainWithLimit_0 (nI (T 0 0)) (nI (T 1 0)) b h o e l g m y (nI P) p3 p4 (nI sum) (nI lo) (nI i) rm go wa lf bf wf ch rc vi = some q ∧ q.1 = nI (gainT T P (capT T a lim)) := by
    intro j
    induction j with
    | zero =>
      intro i lo sum rm go wa lf bf wf ch rc vi hij hlo _ hs1 hs0 hsum
      have hi : i = T 1 0 := by omega
      have hds := hw.ds (hO.1 lo (by omega))
      obtain ⟨rm', go', wa', lf', bf', wf', ch', rc', vi', x1⟩ := c_seg T hw b hb h hh e he l hl g hg m hm y hO o ho hP hp hlo (by omega) hs1 hs0 (fun p p1 p2 => by omega) sum rm go wa lf bf wf ch rc vi
      rw [gq_X2_gainWithLimit_0, if_neg (show ¬ nI (T 1 0) < nI i from nI_nlt (by omega) (by omega)), if_pos (show nI i = nI (T 1 0) from by rw [hi]), x1, gq_X2_gainWithLimit_0, if_pos (show nI (T 1 0) < nI (i + 1) from nI_lt (by omega) (by omega))]
      refine ⟨_, rfl, ?_⟩
      show nI (sum + _) = _
      unfold gainT
      have hg := sm_gap (gyT T P (capT T a lim)) (T 10 (O lo) + 1) (60 - (T 10 (O lo) + 1)) (fun y h1 h2 => gyT_0 (fun d hd => by
        obtain ⟨p, p1, p2⟩ := hO.sur hd
        rw [← p2]
        by_cases c : lo ≤ p
        · rw [hs1 p c (by omega)]; omega
        · have := hs0 p (by omega)
          omega))
      rw [show T 10 (O lo) + 1 + (60 - (T 10 (O lo) + 1)) = 60 from by omega] at hg
      rw [hg, sm_s, hsum]
    | succ j ih =>
      intro i lo sum rm go wa lf bf wf ch rc vi hij hlo _ hs1 hs0 hsum
      have hdi := hO.1 i (by omega)
      have hdl := hO.1 lo (by omega)
      have hyi := hw.ds hdi
      have hyl := hw.ds hdl
      rw [gq_X2_gainWithLimit_0, if_neg (show ¬ nI (T 1 0) < nI i from nI_nlt (by omega) (by omega)), if_neg (show ¬ nI i = nI (T 1 0) from by rw [pz_eq (by omega) (by omega)]; omega), inb_nI (by omega) (by omega), if_pos rfl, nI_clamp (by omega), ho i (by omega), inb_nI (show O i < 30 by omega) (by omega), if_pos rfl, inb_nI (show lo < 30 by omega) (by omega), if_pos rfl, nI_clamp (show lo < 2 ^ 31 by omega), ho lo (by omega), inb_nI (show O lo < 30 by omega) (by omega), if_pos rfl, nI_clamp (show O i < 2 ^ 31 by omega), nI_clamp (show O lo < 2 ^ 31 by omega), hy _ hdi, hy _ hdl]
      by_cases c : T 10 (O i) = T 10 (O lo)
      · rw [if_pos (by rw [c]), nI_1]
        exact ih (i + 1) lo sum rm go wa lf bf wf ch rc vi (by omega) (by omega) (Or.inr (by omega)) (fun p h1 h2 => by
          by_cases e1 : p = i
          · rw [e1]; exact c
          · exact hs1 p h1 (by omega)) hs0 hsum
      · rw [if_neg (by rw [pz_eq (by omega) (by omega)]; exact c)]
        have hle := hO.y (show lo ≤ i by omega) (by omega)
        have hgt : ∀ p, i ≤ p → p < T 1 0 → T 10 (O i) ≤ T 10 (O p) := fun p h1 h2 => hO.y h1 h2
        obtain ⟨rm', go', wa', lf', bf', wf', ch', rc', vi', x1⟩ := c_seg T hw b hb h hh e he l hl g hg m hm y hO o ho hP hp hlo (by omega) hs1 hs0 (fun p p1 p2 => by have := hgt p p1 p2; omega) sum rm go wa lf bf wf ch rc vi
        rw [x1]
        refine ih (i + 1) i _ rm' go' wa' lf' bf' wf' ch' rc' vi' (by omega) (by omega) (Or.inr (by omega)) (fun p h1 h2 => by
          have : p = i := by omega
          rw [this]) (fun p h1 => by
          by_cases c1 : lo ≤ p
          · rw [hs1 p c1 h1]; omega
          · have := hs0 p (by omega)
            omega) ?_
        have hg := sm_gap (gyT T P (capT T a lim)) (T 10 (O lo) + 1) (T 10 (O i) - (T 10 (O lo) + 1)) (fun y h1 h2 => gyT_0 (fun d hd => by
          obtain ⟨p, p1, p2⟩ := hO.sur hd
          rw [← p2]
          by_cases c2 : i ≤ p
          · have := hgt p c2 p1
            omega
          · by_cases c1 : lo ≤ p
            · rw [hs1 p c1 (by omega)]; omega
            · have := hs0 p (by omega)
              omega))
        rw [show T 10 (O lo) + 1 + (T 10 (O i) - (T 10 (O lo) + 1)) = T 10 (O i) from by omega] at hg
        rw [hg, sm_s, hsum]
  unfold dn_X2_gainWithLimit
  by_cases c : T 1 0 = 0
  · rw [gq_X2_gainWithLimit_0, if_pos (show nI (T 1 0) < 1 from nI_lt (b := 1) (by omega) (by omega))]
    refine ⟨_, rfl, ?_⟩
    show (0 : Int32) = _
    have : gainT T P (capT T a lim) = 0 := sm_zero 60 (fun y _ => gyT_0 (fun d hd => by omega))
    rw [this]; rfl
  · have hz : sm (gyT T P (capT T a lim)) (T 10 (O 0)) = 0 := sm_zero _ (fun y hy => gyT_0 (fun d hd => by
      obtain ⟨p, p1, p2⟩ := hO.sur hd
      have := hO.y (Nat.zero_le p) p1
      rw [← p2]; omega))
    exact key (T 1 0 - 1) 1 0 0 rm go wa lf bf wf ch rc vi (by omega) (by omega) (Or.inr (by omega)) (fun p h1 h2 => by
      have : p = 0 := by omega
      rw [this]) (fun p h1 => by omega) hz.symm
theorem opt_le_sum (le bo wt : Nat → Nat) (n : Nat) (cap : Nat → Nat) : optN le bo wt n cap ≤ sm wt n := by
  obtain ⟨c, h1, h2⟩ := opt_at le bo wt n cap
  rw [← h2]
  exact sm_mono n (fun k _ => by
    show (if c k = true then wt k else 0) ≤ wt k
    split
    · exact Nat.le_refl _
    · exact Nat.zero_le _)
theorem gainT_le {T : tT} (hw : twf T) (P : Nat) (cap : Nat → Nat) : gainT T P cap ≤ 400000 := by
  have h1 := hw.d
  have : ∀ y, gyT T P cap y ≤ 5940 := by
    intro y
    refine Nat.le_trans (opt_le_sum _ _ _ _ _) (Nat.le_trans (sm_le _ 198 _ (fun k hk => ?_)) (by omega))
    have := hw.ds hk
    unfold wtG
    split <;> omega
  have := sm_le (gyT T P cap) 5940 60 (fun k _ => this k)
  unfold gainT
  omega
/-- GAIN itself -/
def gnT (T : tT) (P : Nat) : Nat := gainT T P (capT T none 0)
/-- gains kept are right ones -/
def gOK (T : tT) (gs : Nat → Int32) : Prop := ∀ P, P < 2 ^ T 0 0 → gs P = -1 ∨ gs P = nI (gnT T P)
theorem c_gainOf (T : tT) (hw : twf T) (b : Nat → Int32) (hb : ∀ d, d < T 1 0 → b d = nI (T 9 d)) (h : Nat → Int32) (hh : ∀ d, d < T 1 0 → h d = nI (T 12 d)) (e : Nat → Int32) (he : ∀ d, d < T 1 0 → e d = nI (T 13 d)) (l : Nat → Int32) (hl : ∀ d, d < T 1 0 → l d = nI (T 8 d)) (g : Nat → Int32) (hg : ∀ d, d < T 1 0 → g d = nI (T 11 d)) (m : Nat → Int32) (hm : ∀ p, p < T 0 0 → m p = nI (T 6 p)) (y : Nat → Int32) (hy : ∀ d, d < T 1 0 → y d = nI (T 10 d)) {O : Nat → Nat} (hO : ordP T O) (o : Nat → Int32) (ho : ∀ p, p < T 1 0 → o p = nI (O p)) {P : Nat} (hP : P < 2 ^ T 0 0) {gs : Nat → Int32} (hgs : gOK T gs) (go ch : Int32) (bf lf rc rm vi wa wf : Nat → Int32) : ∃ (rm' : Nat → Int32) (go' : Int32) (wa' lf' bf' wf' : Nat → Int32) (ch' : Int32) (rc' vi' gs' : Nat → Int32), dn_X2_gainOf go ch bf lf rc rm vi wa wf (nI (T 0 0)) (nI (T 1 0)) b h o e l g m gs y (nI P) = some (nI (gnT T P), rm', go', wa', lf', bf', wf', ch', rc', vi', gs') ∧ gOK T gs' := by
  have hP2 : P < 2 ^ 10 := Nat.lt_of_lt_of_le hP (pz_p2l hw.p)
  have hb0 := gainT_le hw P (capT T none 0)
  have hb1 : gnT T P ≤ 400000 := hb0
  unfold dn_X2_gainOf
  rw [inb_nI (show P < 1024 by omega) (by omega), if_pos rfl, nI_clamp (by omega)]
  by_cases c : gs P = -1
  · rw [if_pos c]
    obtain ⟨q, q1, q2⟩ := c_gwl T hw b hb h hh e he l hl g hg m hm y hy hO o ho hP2 (a := none) (lim := 0) (p4 := 0) (Or.inl ⟨rfl, rfl⟩) go ch bf lf rc rm vi wa wf
    rw [q1, Option.bind_some, pk_us, q2]
    refine ⟨_, _, _, _, _, _, _, _, _, _, rfl, fun Q hQ => ?_⟩
    by_cases e1 : Q = P
    · subst e1; rw [pk_us]; exact Or.inr rfl
    · rw [pk_un e1]; exact hgs Q hQ
  · rw [if_neg c]
    have := (hgs P hP).resolve_left c
    rw [this]
    exact ⟨_, _, _, _, _, _, _, _, _, _, rfl, hgs⟩
