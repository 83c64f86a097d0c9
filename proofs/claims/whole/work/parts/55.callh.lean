/-! ===== pure rows: climb, parts at rest, rounds ===== -/
theorem j_climb (T : tT) (hw : twf T) (b : Nat → Int32) (hb : ∀ d, d < T 1 0 → b d = nI (T 9 d)) (h : Nat → Int32) (hh : ∀ d, d < T 1 0 → h d = nI (T 12 d)) (e : Nat → Int32) (he : ∀ d, d < T 1 0 → e d = nI (T 13 d)) (l : Nat → Int32) (hl : ∀ d, d < T 1 0 → l d = nI (T 8 d)) (g : Nat → Int32) (hg : ∀ d, d < T 1 0 → g d = nI (T 11 d)) (m : Nat → Int32) (hm : ∀ p, p < T 0 0 → m p = nI (T 6 p)) (y : Nat → Int32) (hy : ∀ d, d < T 1 0 → y d = nI (T 10 d)) {O : Nat → Nat} (hO : ordP T O) (o : Nat → Int32) (ho : ∀ p, p < T 1 0 → o p = nI (O p)) (s : Nat → Int32) (hs : mT T s) {gs : Nat → Int32} (hgs : gOK T gs) (sl : Int32) (gm : Nat → Int32) (hgm : gmO T sl gm) (cg : Int32) (go ch : Int32) (bf lf rc rm vi wa wf : Nat → Int32) (it : Int32) (be cp fa inn sd st us wo : Nat → Int32) (p1 : Int32) : ∃ q1, dn_X11_climb cg go ch bf lf rc rm vi wa wf (nI (T 0 0)) (nI (T 1 0)) b h o e l g m gs y p1 = some q1 ∧ ∃ q2, dn_X12_climb it sl cg be cp fa gm inn s sd st us wo p1 = some q2 ∧ q1.1 = q2.1 ∧ q1.2.1 = q2.2.2.2.2.2.2.2.2.2.2.2.2.2 ∧ gOK T q1.2.2.2.2.2.2.2.2.2.2.2 ∧ gmO T q2.2.2.1 q2.2.2.2.2.2.2.2.2.2.2.2.2.1 := by
  have hp1 := hw.p
  have hp10 := pz_10 hw.p
  unfold dn_X11_climb dn_X12_climb
  rcases pz_ix p1 (n := 2 ^ T 0 0) (by omega) with hp | ⟨P, hP, rfl⟩
  · rw [c_hasParts_f hw.p hp, m_isParts_f T hw s hs hp]
    exact ⟨_, rfl, _, rfl, rfl, rfl, hgs, hgm⟩
  · obtain ⟨K, hK, hfix, hno⟩ := climb_ends hw hP
    have hit := itT_lt (T := T) hP
    rw [c_hasParts_t hw.p hP, m_isParts_t T hw s hs hP, Option.bind_some, Option.bind_some, if_pos rfl, if_pos rfl]
    -- the class
    obtain ⟨q, h1, h2⟩ := pz_rel0 (fun k (q : Int32 × (Nat → Int32) × Int32 × (Nat → Int32) × (Nat → Int32) × (Nat → Int32) × (Nat → Int32) × Int32 × (Nat → Int32) × (Nat → Int32) × (Nat → Int32)) => gn_X11_climb_0 (nI (T 0 0)) (nI (T 1 0)) b h o e l g m y (nI (itF (nxT T) P k)) (nI k) (nI k) q.2.1 q.2.2.1 q.2.2.2.1 q.2.2.2.2.1 q.2.2.2.2.2.1 q.2.2.2.2.2.2.1 q.2.2.2.2.2.2.2.1 q.2.2.2.2.2.2.2.2.1 q.2.2.2.2.2.2.2.2.2.1 q.2.2.2.2.2.2.2.2.2.2) K (fun k q => gOK T q.2.2.2.2.2.2.2.2.2.2) (0, rm, go, wa, lf, bf, wf, ch, rc, vi, gs) hgs (by
      rintro k ⟨v1, rm, go, wa, lf, bf, wf, ch, rc, vi, gs⟩ hk hgs
      obtain ⟨r, r1, r2, r3⟩ := c_firstBetter T hw b hb h hh e he l hl g hg m hm y hy hO o ho hgs (hit k) go ch bf lf rc rm vi wa wf
      refine ⟨r, r3, ?_⟩
      show gn_X11_climb_0 (nI (T 0 0)) (nI (T 1 0)) b h o e l g m y (nI (itF (nxT T) P k)) (nI k) (nI k) rm go wa lf bf wf ch rc vi gs = gn_X11_climb_0 (nI (T 0 0)) (nI (T 1 0)) b h o e l g m y (nI (nxT T (itF (nxT T) P k))) (nI (k + 1)) (nI (k + 1)) _ _ _ _ _ _ _ _ _ _
      have h3 := nxT_lt (hit k)
      have h4 := hit k
      rw [gq_X11_climb_0, if_neg (show ¬ (1024 : Int32) ≤ nI k from nI_ge (b := 1024) (by omega) (by omega)), r1, Option.bind_some, r2, if_neg (by rw [pz_eq (by omega) (by omega)]; exact hno k hk), nI_1])
    obtain ⟨r, r1, r2, r3⟩ := c_firstBetter T hw b hb h hh e he l hl g hg m hm y hy hO o ho h1 (hit K) q.2.2.1 q.2.2.2.2.2.2.2.1 q.2.2.2.2.2.1 q.2.2.2.2.1 q.2.2.2.2.2.2.2.2.1 q.2.1 q.2.2.2.2.2.2.2.2.2.1 q.2.2.2.1 q.2.2.2.2.2.2.1
    have hc : gn_X11_climb_0 (nI (T 0 0)) (nI (T 1 0)) b h o e l g m y (nI P) 0 0 rm go wa lf bf wf ch rc vi gs = some (nI (itF (nxT T) P K), nI K, r.2) := by
      have : gn_X11_climb_0 (nI (T 0 0)) (nI (T 1 0)) b h o e l g m y (nI P) 0 0 rm go wa lf bf wf ch rc vi gs = gn_X11_climb_0 (nI (T 0 0)) (nI (T 1 0)) b h o e l g m y (nI (itF (nxT T) P K)) (nI K) (nI K) q.2.1 q.2.2.1 q.2.2.2.1 q.2.2.2.2.1 q.2.2.2.2.2.1 q.2.2.2.2.2.2.1 q.2.2.2.2.2.2.2.1 q.2.2.2.2.2.2.2.2.1 q.2.2.2.2.2.2.2.2.2.1 q.2.2.2.2.2.2.2.2.2.2 := h2
      rw [this, gq_X11_climb_0, if_neg (show ¬ (1024 : Int32) ≤ nI K from nI_ge (b := 1024) (by omega) (by omega)), r1, Option.bind_some, r2, if_pos (by rw [hfix])]
    -- the model
    obtain ⟨z, z1, z2, z3⟩ := m_settled T hw s hs sl gm hgm it be cp fa inn sd st us wo
    have hscan : ∀ (k : Nat) (v : Nat), v < 2 ^ T 0 0 → ∀ (j a : Nat), a + j = T 0 0 → (∀ p, p < a → ¬ gnT T v < gnT T (v ^^^ 2 ^ p)) → gn_X12_climb_0 s (nI v) (nI a) 0 z.1 z.2.1 z.2.2.1 z.2.2.2.1 z.2.2.2.2.1 z.2.2.2.2.2.1 z.2.2.2.2.2.2.1 z.2.2.2.2.2.2.2.1 z.2.2.2.2.2.2.2.2.1 z.2.2.2.2.2.2.2.2.2.1 z.2.2.2.2.2.2.2.2.2.2 (nI k) = if nxT T v = v then some (nI v, 0, z.1, z.2.1, z.2.2.1, z.2.2.2.1, z.2.2.2.2.1, z.2.2.2.2.2.1, z.2.2.2.2.2.2.1, z.2.2.2.2.2.2.2.1, z.2.2.2.2.2.2.2.2.1, z.2.2.2.2.2.2.2.2.2.1, z.2.2.2.2.2.2.2.2.2.2, nI k) else gn_X12_climb_0 s (nI (nxT T v)) 0 0 z.1 z.2.1 z.2.2.1 z.2.2.2.1 z.2.2.2.2.1 z.2.2.2.2.2.1 z.2.2.2.2.2.2.1 z.2.2.2.2.2.2.2.1 z.2.2.2.2.2.2.2.2.1 z.2.2.2.2.2.2.2.2.2.1 z.2.2.2.2.2.2.2.2.2.2 (nI (k + 1)) := by
      intro k v hv j
      induction j with
      | zero =>
        intro a ha hno
        have : nxT T v = v := by
          unfold nxT
          rw [(fo_none _ _).mpr (fun p hp => decide_eq_false (hno p (by omega)))]
        rw [if_pos this, gq_X12_climb_0, pz_c0, hs.1, if_pos (show nI (T 0 0) ≤ nI a from nI_le (by omega) (by omega))]
      | succ j ih =>
        intro a ha hno
        have hx := pz_xorT hv (show a < T 0 0 by omega)
        have b1 := gnT_le hw (v ^^^ 2 ^ a)
        have b0 := gnT_le hw v
        rw [gq_X12_climb_0, pz_c0, hs.1, if_neg (nI_ge (show a < T 0 0 by omega) (by omega)), pz_1shl (by omega), pz_xor, inb_nI (by omega) (by omega), if_pos rfl, inb_nI (by omega) (by omega), if_pos rfl, nI_clamp (by omega), nI_clamp (by omega), z3 _ hx, z3 v hv, nI_1, nI_1]
        simp only [pz_le (show gnT T (v ^^^ 2 ^ a) < 2 ^ 31 by omega) (show gnT T v < 2 ^ 31 by omega)]
        by_cases c : gnT T v < gnT T (v ^^^ 2 ^ a)
        · have hn : nxT T v = v ^^^ 2 ^ a := by
            unfold nxT
            rw [fo_is _ _ a (by omega) (decide_eq_true c) (fun j hj => decide_eq_false (hno j hj))]
          rw [if_neg (by omega), hn, if_neg (pz_xor_ne v a)]
        · rw [if_pos (by omega)]
          exact ih (a + 1) (by omega) (fun p hp => by
            by_cases e : p = a
            · subst e; exact c
            · exact hno p (by omega))
    have hstep : ∀ k, k ≤ K → gn_X12_climb_0 s (nI P) 0 0 z.1 z.2.1 z.2.2.1 z.2.2.2.1 z.2.2.2.2.1 z.2.2.2.2.2.1 z.2.2.2.2.2.2.1 z.2.2.2.2.2.2.2.1 z.2.2.2.2.2.2.2.2.1 z.2.2.2.2.2.2.2.2.2.1 z.2.2.2.2.2.2.2.2.2.2 0 = gn_X12_climb_0 s (nI (itF (nxT T) P k)) 0 0 z.1 z.2.1 z.2.2.1 z.2.2.2.1 z.2.2.2.2.1 z.2.2.2.2.2.1 z.2.2.2.2.2.2.1 z.2.2.2.2.2.2.2.1 z.2.2.2.2.2.2.2.2.1 z.2.2.2.2.2.2.2.2.2.1 z.2.2.2.2.2.2.2.2.2.2 (nI k) := by
      intro k
      induction k with
      | zero => intro _; rfl
      | succ k ih =>
        intro hk
        have := hscan k _ (hit k) (T 0 0) 0 (by omega) (fun p hp => by omega)
        rw [if_neg (hno k (by omega))] at this
        exact (ih (by omega)).trans this
    have hm := hscan K _ (hit K) (T 0 0) 0 (by omega) (fun p hp => by omega)
    rw [if_pos hfix] at hm
    have hm2 := (hstep K (Nat.le_refl K)).trans hm
    rw [hc, z1, Option.bind_some, hm2]
    exact ⟨_, rfl, _, rfl, rfl, rfl, r3, fun _ => z3⟩
/-- the k-th PARTS at rest, and how many -/
def rcT (T : tT) (n : Nat) : Nat := ct (restT T) n
def rsO (T : tT) (rcn : Int32) (rs : Nat → Int32) : Prop := rcn = -1 ∨ (rcn = nI (rcT T (2 ^ T 0 0)) ∧ ∀ P, P < 2 ^ T 0 0 → restT T P = true → rs (rcT T P) = nI P)
theorem rcT_mono (T : tT) {a : Nat} : ∀ (d : Nat), rcT T a ≤ rcT T (a + d)
  | 0 => Nat.le_refl _
  | d + 1 => by
    have := rcT_mono T (a := a) d
    have h2 : rcT T (a + d + 1) = rcT T (a + d) + (if restT T (a + d) = true then 1 else 0) := rfl
    rw [show a + (d + 1) = a + d + 1 from rfl, h2]
    omega
theorem rcT_lt (T : tT) {a b : Nat} (h : a < b) (hr : restT T a = true) : rcT T a < rcT T b := by
  have h1 : rcT T (a + 1) = rcT T a + (if restT T a = true then 1 else 0) := rfl
  rw [if_pos hr] at h1
  have := rcT_mono T (a := a + 1) (b - (a + 1))
  rw [show a + 1 + (b - (a + 1)) = b from by omega] at this
  omega
theorem rcT_find (T : tT) {k : Nat} : ∀ (n : Nat), k < rcT T n → ∃ P, P < n ∧ restT T P = true ∧ rcT T P = k
  | 0, h => by simp [rcT, ct] at h
  | n + 1, h => by
    have h1 : rcT T (n + 1) = rcT T n + (if restT T n = true then 1 else 0) := rfl
    by_cases c : k < rcT T n
    · obtain ⟨P, a, b⟩ := rcT_find T n c
      exact ⟨P, by omega, b⟩
    · by_cases c2 : restT T n = true
      · rw [if_pos c2] at h1
        exact ⟨n, by omega, c2, by omega⟩
      · rw [if_neg c2] at h1; omega
theorem j_rests (T : tT) (hw : twf T) (b : Nat → Int32) (hb : ∀ d, d < T 1 0 → b d = nI (T 9 d)) (h : Nat → Int32) (hh : ∀ d, d < T 1 0 → h d = nI (T 12 d)) (e : Nat → Int32) (he : ∀ d, d < T 1 0 → e d = nI (T 13 d)) (l : Nat → Int32) (hl : ∀ d, d < T 1 0 → l d = nI (T 8 d)) (g : Nat → Int32) (hg : ∀ d, d < T 1 0 → g d = nI (T 11 d)) (s : Nat → Int32) (hs : mT T s) {rcn : Int32} {rs : Nat → Int32} (hrs : rsO T rcn rs) (p1 : Int32) : ∃ q1, dn_X11_rests (nI (T 0 0)) (nI (T 1 0)) b h e l g rcn rs p1 = some q1 ∧ ∃ q2, dn_X12_rests s p1 = some q2 ∧ q1.1 = q2.1 ∧ rsO T q1.2.1 q1.2.2 := by
  have hp1 := hw.p
  have hp10 := pz_10 hw.p
  have hrc : rcT T (2 ^ T 0 0) ≤ 2 ^ T 0 0 := ct_le _ _
  -- what the class kept
  have hkept : ∃ rs', (dn_X11_rests (nI (T 0 0)) (nI (T 1 0)) b h e l g rcn rs p1 = gn_X11_rests_0 p1 (nI (rcT T (2 ^ T 0 0))) rs') ∧ ∀ P, P < 2 ^ T 0 0 → restT T P = true → rs' (rcT T P) = nI P := by
    unfold dn_X11_rests
    by_cases c : rcn = -1
    · rw [if_pos c]
      obtain ⟨q, h1, h2⟩ := pz_rel0 (fun k (q : Nat → Int32) => gn_X11_findRests_0 (nI (T 0 0)) (nI (T 1 0)) b h e l g (nI k) (nI (rcT T k)) q) (2 ^ T 0 0) (fun k q => ∀ P, P < k → restT T P = true → q (rcT T P) = nI P) rs (fun P hP => by omega) (by
        intro k q hk hP
        have hrk : rcT T k ≤ k := ct_le _ _
        have h1 : rcT T (k + 1) = rcT T k + (if restT T k = true then 1 else 0) := rfl
        have hq : gn_X11_findRests_0 (nI (T 0 0)) (nI (T 1 0)) b h e l g (nI k) (nI (rcT T k)) q = if restT T k = true then gn_X11_findRests_0 (nI (T 0 0)) (nI (T 1 0)) b h e l g (nI (k + 1)) (nI (rcT T k + 1)) (upd q (rcT T k) (nI k)) else gn_X11_findRests_0 (nI (T 0 0)) (nI (T 1 0)) b h e l g (nI (k + 1)) (nI (rcT T k)) q := by
          rw [gq_X11_findRests_0, c_partsCount (by omega), Option.bind_some, if_neg (nI_ge hk (by omega)), c_isAtRest T hw b hb h hh e he l hl g hg (by omega), Option.bind_some, inb_nI (by omega) (by omega), if_pos rfl, nI_clamp (by omega), nI_1, nI_1]
        by_cases c1 : restT T k = true
        · rw [if_pos c1] at hq h1
          refine ⟨upd q (rcT T k) (nI k), fun P hp hr => ?_, ?_⟩
          · by_cases e1 : P = k
            · subst e1; rw [pk_us]
            · have := rcT_lt T (show P < k by omega) hr
              rw [pk_un (by omega)]
              exact hP P (by omega) hr
          · show gn_X11_findRests_0 _ _ _ _ _ _ _ _ _ _ = gn_X11_findRests_0 _ _ _ _ _ _ _ _ _ _
            rw [hq, h1]
        · rw [if_neg c1] at hq h1
          refine ⟨q, fun P hp hr => ?_, ?_⟩
          · by_cases e1 : P = k
            · subst e1; exact absurd hr c1
            · exact hP P (by omega) hr
          · show gn_X11_findRests_0 _ _ _ _ _ _ _ _ _ _ = gn_X11_findRests_0 _ _ _ _ _ _ _ _ _ _
            rw [hq, h1]; rfl)
      refine ⟨q, ?_, h1⟩
      have h3 : dn_X11_findRests (nI (T 0 0)) (nI (T 1 0)) b h e l g rs = gn_X11_findRests_0 (nI (T 0 0)) (nI (T 1 0)) b h e l g (nI (2 ^ T 0 0)) (nI (rcT T (2 ^ T 0 0))) q := h2
      rw [h3, gq_X11_findRests_0, c_partsCount (by omega), Option.bind_some, if_pos (nI_le (Nat.le_refl _) (by omega)), Option.bind_some]
    · rw [if_neg c]
      obtain ⟨h1, h2⟩ := hrs.resolve_left c
      rw [h1]
      exact ⟨rs, rfl, h2⟩
  obtain ⟨rs', hc1, hc2⟩ := hkept
  rw [hc1]
  -- the model
  have hmr : ∀ k, k < 2 ^ T 0 0 → gn_X12_rests_0 s p1 (nI (rcT T k)) (nI k) 0 = if restT T k = true then (if nI (rcT T k) = p1 then some (nI k, 0) else gn_X12_rests_0 s p1 (nI (rcT T (k + 1))) (nI (k + 1)) 0) else gn_X12_rests_0 s p1 (nI (rcT T (k + 1))) (nI (k + 1)) 0 := by
    intro k hk
    have h1 : rcT T (k + 1) = rcT T k + (if restT T k = true then 1 else 0) := rfl
    rw [gq_X12_rests_0, m_pc T hw s hs, if_neg (nI_ge hk (by omega)), m_isRest T hw s hs (by omega), Option.bind_some, nI_1, nI_1, h1]
    by_cases c : restT T k = true
    · rw [if_pos c, if_pos c, if_pos c]
    · rw [if_neg c, if_neg c, if_neg c]; rfl
  have hme : ∀ n, n ≤ 2 ^ T 0 0 → (∀ P, P < n → restT T P = true → nI (rcT T P) ≠ p1) → gn_X12_rests_0 s p1 0 0 0 = gn_X12_rests_0 s p1 (nI (rcT T n)) (nI n) 0 := by
    intro n
    induction n with
    | zero => intro _ _; rfl
    | succ n ih =>
      intro hn hno
      rw [ih (by omega) (fun P hP => hno P (by omega)), hmr n (by omega)]
      by_cases c : restT T n = true
      · rw [if_pos c, if_neg (hno n (by omega) c)]
      · rw [if_neg c]
  have hend : (∀ P, P < 2 ^ T 0 0 → restT T P = true → nI (rcT T P) ≠ p1) → gn_X12_rests_0 s p1 0 0 0 = if p1 = -1 then some (nI (rcT T (2 ^ T 0 0)), 0) else some (-1, 0) := by
    intro hno
    rw [hme _ (Nat.le_refl _) hno, gq_X12_rests_0, m_pc T hw s hs, if_pos (nI_le (Nat.le_refl _) (by omega))]
  unfold dn_X12_rests
  by_cases c0 : p1 = -1
  · subst c0
    rw [if_pos (show (-1 : Int32) ≤ -1 by decide), hend (fun P hP _ e => by
      have : rcT T P ≤ P := ct_le _ _
      rw [pz_n0 (by omega)] at e; exact e), if_pos rfl, gq_X11_rests_0, if_pos rfl]
    exact ⟨_, rfl, _, rfl, rfl, Or.inr ⟨rfl, hc2⟩⟩
  · by_cases c1 : p1 < 0
    · have c2 : ¬ (-1 : Int32) ≤ p1 := by
        intro hx
        rw [Int32.le_iff_toInt_le, show (-1 : Int32).toInt = -1 from rfl] at hx
        rw [Int32.lt_iff_toInt_lt, show (0 : Int32).toInt = 0 from rfl] at c1
        exact c0 (Int32.toInt_inj.mp (by rw [show (-1 : Int32).toInt = -1 from rfl]; omega))
      rw [if_neg c2, gq_X11_rests_0, if_neg c0, if_pos c1]
      exact ⟨_, rfl, _, rfl, rfl, Or.inr ⟨rfl, hc2⟩⟩
    · have c2 : (-1 : Int32) ≤ p1 := by
        rw [Int32.lt_iff_toInt_lt, show (0 : Int32).toInt = 0 from rfl] at c1
        rw [Int32.le_iff_toInt_le, show (-1 : Int32).toInt = -1 from rfl]; omega
      rw [if_pos c2, gq_X11_rests_0, if_neg c0, if_neg c1]
      rcases pz_ix p1 (n := rcT T (2 ^ T 0 0)) (by omega) with hp | ⟨k, hk, rfl⟩
      · have hp' := hp.resolve_left c1
        rw [if_pos hp', hend (fun P hP hr e => by
          have h1 := rcT_lt T hP hr
          have : ¬ nI (rcT T (2 ^ T 0 0)) ≤ p1 := by rw [← e]; exact nI_ge h1 (by omega)
          exact this hp'), if_neg c0]
        exact ⟨_, rfl, _, rfl, rfl, Or.inr ⟨rfl, hc2⟩⟩
      · obtain ⟨P, hP, hr, hPk⟩ := rcT_find T _ hk
        have hm : gn_X12_rests_0 s (nI k) 0 0 0 = some (nI P, 0) := by
          rw [hme P (by omega) (fun Q hQ hrQ e => by
            have h1 := rcT_lt T hQ hrQ
            rw [pz_eq (by omega) (by omega)] at e
            omega), hmr P hP, if_pos hr, if_pos (by rw [hPk])]
        rw [hm, if_neg (nI_ge hk (by omega)), if_pos (show nI k < 1024 from nI_lt (b := 1024) (by omega) (by omega)), inb_nI (show k < 1024 by omega) (by omega), if_pos rfl, nI_clamp (by omega), ← hPk, hc2 P hP hr]
        exact ⟨_, rfl, _, rfl, rfl, Or.inr ⟨rfl, hc2⟩⟩
