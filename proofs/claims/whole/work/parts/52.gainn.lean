/-! ===== pure rows: the model's GAIN, year by year ===== -/
theorem sum_first (f Y : Nat → Nat) : ∀ n, (∀ d, d < n → Y d < 60) → sm (fun d => if hitB Y 0 d (Y d) = true then 0 else f (Y d)) n = sm (fun y => if hitB Y 0 n y = true then f y else 0) 60
  | 0, _ => by
    rw [sm_zero 60 (fun y _ => by show (if hitB Y 0 0 y = true then f y else 0) = 0; rw [hit_f (fun ⟨p, _, h, _⟩ => by omega)]; rfl)]; rfl
  | n + 1, h => by
    rw [sm_s, sum_first f Y n (fun d hd => h d (by omega))]
    have h1 : hitB Y 0 (n + 1) (Y n) = true := hit_t ⟨n, by omega, by omega, rfl⟩
    have h2 : ∀ k, k ≠ Y n → hitB Y 0 n k = hitB Y 0 (n + 1) k := fun k hk => hit_c ⟨fun ⟨p, a, b, c⟩ => ⟨p, a, by omega, c⟩, fun ⟨p, a, b, c⟩ => ⟨p, a, by
      by_cases e : p = n
      · subst e; exact absurd c.symm hk
      · omega, c⟩⟩
    have := sm_upd (f := fun y => if hitB Y 0 n y = true then f y else 0) (g := fun y => if hitB Y 0 (n + 1) y = true then f y else 0) (i := Y n) (fun k hk => by show (if hitB Y 0 n k = true then f k else 0) = _; rw [h2 k hk]) 60
    rw [if_pos (h n (by omega)), if_pos (h n (by omega))] at this
    simp only [h1, if_true] at this
    by_cases c : hitB Y 0 n (Y n) = true
    · rw [if_pos c] at this ⊢; omega
    · rw [if_neg c] at this ⊢; omega
theorem m_isFirst (T : tT) (hw : twf T) (s : Nat → Int32) (hs : mT T s) {d : Nat} (hd : d < T 1 0) : dn_X12_isFirst s (nI d) = some (!(hitB (T 10) 0 d (T 10 d))) := by
  have h1 := hw.d
  have hy := hw.ds hd
  have hr : ∀ k, k < d → gn_X12_isFirst_0 s (nI d) (nI k) = if T 10 k = T 10 d then some false else gn_X12_isFirst_0 s (nI d) (nI (k + 1)) := by
    intro k hk
    have hk2 := hw.ds (show k < T 1 0 by omega)
    rw [gq_X12_isFirst_0, if_neg (nI_ge hk (by omega)), m_of2 T hw s hs (by omega), Option.bind_some, m_of2 T hw s hs hd, Option.bind_some, nI_1]
    simp only [pz_eq (show T 10 k < 2 ^ 31 by omega) (show T 10 d < 2 ^ 31 by omega)]
  unfold dn_X12_isFirst
  rw [show (0 : Int32) = nI 0 from rfl, pz_find (fun k => gn_X12_isFirst_0 s (nI d) (nI k)) (fun k => T 10 k == T 10 d) (fun _ => false) true d]
  · cases h : fo (fun k => T 10 k == T 10 d) d with
    | none =>
      rw [hit_f (fun ⟨p, _, p2, p3⟩ => by
        have := (fo_none _ _).mp h p p2
        simp [p3] at this)]
      rfl
    | some k =>
      obtain ⟨a, b, _⟩ := fo_some _ _ _ h
      rw [hit_t ⟨k, by omega, a, eq_of_beq b⟩]
      rfl
  · intro k hk c
    show gn_X12_isFirst_0 _ _ _ = _
    rw [hr k hk, if_pos (eq_of_beq c)]
  · intro k hk c
    show gn_X12_isFirst_0 _ _ _ = gn_X12_isFirst_0 _ _ _
    rw [hr k hk, if_neg (fun x => by simp [x] at c)]
  · show gn_X12_isFirst_0 _ _ _ = _
    rw [gq_X12_isFirst_0, if_pos (nI_le (Nat.le_refl _) (by omega))]
theorem gaT_le1 {T : tT} {P d : Nat} (h : goT T P d = true) : leT T (d, gaT T P d - 1) = leG T P d ∧ boT T (d, gaT T P d - 1) = boG T P d ∧ 0 < gaT T P d := by
  unfold goT at h
  unfold leT boT leG boG gaT
  cases c1 : P.testBit (T 8 d) <;> cases c2 : P.testBit (T 9 d) <;> simp [c1, c2] at h ⊢
  simp [h]
theorem m_items (T : tT) (hw : twf T) (s : Nat → Int32) (hs : mT T s) {P : Nat} (hP : P < 2 ^ 10) {d0 : Nat} (hd0 : d0 < T 1 0) (p2 p3 v4 : Int32) (cp : Nat → Int32) (us inn be fa st wo sd : Nat → Int32) : ∃ (m : Nat) (idx : Nat → Nat) (wo' sd' : Nat → Int32), gn_X12_gainBy_2 s (nI P) p2 p3 v4 (nI d0) (nI d0) cp 0 us inn be fa st wo sd = gn_X12_gainBy_2 s (nI P) p2 p3 v4 (nI d0) (nI (T 1 0)) cp (nI m) us inn be fa st wo' sd' ∧ m ≤ T 1 0 - d0 ∧ fM (fun i => leG T P (idx i)) (fun i => boG T P (idx i)) (fun i => T 11 (idx i) + T 12 (idx i)) m sd' wo' ∧ (∀ i j, i < j → j < m → idx i ≠ idx j) ∧ (∀ i, i < m → idx i < T 1 0 ∧ T 10 (idx i) = T 10 d0 ∧ goT T P (idx i) = true) ∧ ∀ d, d0 ≤ d → d < T 1 0 → T 10 d = T 10 d0 → goT T P d = true → T 11 d + T 12 d ≠ 0 → ∃ i, i < m ∧ idx i = d := by
  have hn := hw.d
  have hn0 := hw.p
  have hy0 := hw.ds hd0
  obtain ⟨⟨go, wo', sd'⟩, h1, h2⟩ := pz_rel (fun k (q : Int32 × (Nat → Int32) × (Nat → Int32)) => gn_X12_gainBy_2 s (nI P) p2 p3 v4 (nI d0) (nI k) cp q.1 us inn be fa st q.2.1 q.2.2) (T 1 0) (fun k q => d0 ≤ k ∧ ∃ (m : Nat) (idx : Nat → Nat), q.1 = nI m ∧ m ≤ k - d0 ∧ fM (fun i => leG T P (idx i)) (fun i => boG T P (idx i)) (fun i => T 11 (idx i) + T 12 (idx i)) m q.2.2 q.2.1 ∧ (∀ i j, i < j → j < m → idx i ≠ idx j) ∧ (∀ i, i < m → idx i < k ∧ T 10 (idx i) = T 10 d0 ∧ goT T P (idx i) = true) ∧ ∀ d, d0 ≤ d → d < k → T 10 d = T 10 d0 → goT T P d = true → T 11 d + T 12 d ≠ 0 → ∃ i, i < m ∧ idx i = d) (by
    rintro k ⟨go, wo, sd⟩ hk ⟨hlk, m, idx, a1, a2, a3, a4, a5, a6⟩
    have a1' : go = nI m := a1
    subst a1'
    have dk := hw.ds hk
    have hga := gaT_le T P k
    have hsd : ∀ t, t ≤ 1 → leT T (k, t) < 10 := fun t ht => by have := leT_lt hw (t := t) hk; omega
    have hq : gn_X12_gainBy_2 s (nI P) p2 p3 v4 (nI d0) (nI k) cp (nI m) us inn be fa st wo sd = if T 10 k = T 10 d0 ∧ goT T P k = true ∧ T 11 k + T 12 k ≠ 0 then gn_X12_gainBy_2 s (nI P) p2 p3 v4 (nI d0) (nI (k + 1)) cp (nI (m + 1)) us inn be fa st (upd wo m (nI (T 11 k + T 12 k))) (upd (upd sd (2 * m) (nI (leG T P k))) (2 * m + 1) (nI (boG T P k))) else gn_X12_gainBy_2 s (nI P) p2 p3 v4 (nI d0) (nI (k + 1)) cp (nI m) us inn be fa st wo sd := by
      rw [gq_X12_gainBy_2, show (1 : Int32).toNatClampNeg = 1 from rfl, hs.2.1, if_neg (nI_ge hk (by omega)), m_of2 T hw s hs hk, Option.bind_some, m_of2 T hw s hs hd0, Option.bind_some]
      simp only [pz_eq (show T 10 k < 2 ^ 31 by omega) (show T 10 d0 < 2 ^ 31 by omega)]
      by_cases c1 : T 10 k = T 10 d0
      · rw [if_pos c1, m_goesAs T hw s hs hk (by omega), Option.bind_some, gq_X12_gainBy_3, gaT_go]
        simp only [pz_e0 (show gaT T P k < 2 ^ 31 by omega)]
        by_cases c2 : gaT T P k = 0
        · rw [if_pos c2, if_neg (fun x => by have := of_decide_eq_true x.2.1; omega), nI_1]
        · rw [if_neg c2, m_of3 T hw s hs hk, Option.bind_some, m_of4 T hw s hs hk, Option.bind_some, nI_add]
          simp only [pz_e0 (show T 11 k + T 12 k < 2 ^ 31 by omega)]
          by_cases c3 : T 11 k + T 12 k = 0
          · rw [if_pos c3, if_neg (fun x => x.2.2 c3), nI_1]
          · have c4 : goT T P k = true := by rw [gaT_go]; exact decide_eq_true (by omega)
            have hl := gaT_le1 c4
            rw [if_neg c3, Option.bind_some, Option.bind_some, inb_nI (show m < 30 by omega) (by omega), if_pos rfl, pz_s1 (by omega), m_lend T hw s hs hk (by omega), Option.bind_some, pz_2, inb_nI (show 2 * m < 60 by omega) (by omega), if_pos rfl, m_borr T hw s hs hk (by omega), Option.bind_some, nI_1, inb_nI (show 2 * m + 1 < 60 by omega) (by omega), if_pos rfl, if_pos ⟨c1, decide_eq_true (by omega), c3⟩, nI_clamp (by omega), nI_clamp (by omega), nI_clamp (by omega), nI_1, nI_1, nI_add, hl.1, hl.2.1]
      · rw [if_neg c1, if_neg (fun x => c1 x.1), gq_X12_gainBy_3, if_pos rfl, nI_1]
    by_cases c : T 10 k = T 10 d0 ∧ goT T P k = true ∧ T 11 k + T 12 k ≠ 0
    · rw [if_pos c] at hq
      refine ⟨(nI (m + 1), _, _), ⟨by omega, m + 1, fun i => if i = m then k else idx i, rfl, by omega, fun i hi => ?_, fun i j hij hj => ?_, fun i hi => ?_, fun d e1 e2 e3 e4 e5 => ?_⟩, hq⟩
      · show upd (upd sd (2 * m) (nI (leG T P k))) (2 * m + 1) (nI (boG T P k)) (2 * i) = nI (leG T P (if i = m then k else idx i)) ∧ upd (upd sd (2 * m) (nI (leG T P k))) (2 * m + 1) (nI (boG T P k)) (2 * i + 1) = nI (boG T P (if i = m then k else idx i)) ∧ upd wo m (nI (T 11 k + T 12 k)) i = nI (T 11 (if i = m then k else idx i) + T 12 (if i = m then k else idx i))
        by_cases e : i = m
        · subst e
          rw [if_pos rfl, pk_un (by omega), pk_us, pk_us, pk_us]; exact ⟨rfl, rfl, rfl⟩
        · rw [if_neg e, pk_un (by omega), pk_un (by omega), pk_un (by omega), pk_un (by omega), pk_un e]
          exact a3 i (by omega)
      · show (if i = m then k else idx i) ≠ (if j = m then k else idx j)
        rw [if_neg (show ¬ i = m by omega)]
        by_cases e : j = m
        · rw [if_pos e]
          have := (a5 i (by omega)).1
          omega
        · rw [if_neg e]; exact a4 i j hij (by omega)
      · show (if i = m then k else idx i) < k + 1 ∧ T 10 (if i = m then k else idx i) = T 10 d0 ∧ goT T P (if i = m then k else idx i) = true
        by_cases e : i = m
        · rw [if_pos e]; exact ⟨by omega, c.1, c.2.1⟩
        · rw [if_neg e]
          have := a5 i (by omega)
          exact ⟨by omega, this.2⟩
      · by_cases e : d = k
        · subst e; exact ⟨m, by omega, if_pos rfl⟩
        · obtain ⟨i, i1, i2⟩ := a6 d e1 (by omega) e3 e4 e5
          exact ⟨i, by omega, by show (if i = m then k else idx i) = d; rw [if_neg (by omega)]; exact i2⟩
    · rw [if_neg c] at hq
      refine ⟨(nI m, wo, sd), ⟨by omega, m, idx, rfl, by omega, a3, a4, fun i hi => ?_, fun d e1 e2 e3 e4 e5 => ?_⟩, hq⟩
      · have := a5 i hi
        exact ⟨by omega, this.2⟩
      · by_cases e : d = k
        · subst e; exact absurd ⟨e3, e4, e5⟩ c
        · exact a6 d e1 (by omega) e3 e4 e5) (T 1 0 - d0) d0 (0, wo, sd) (by omega) ⟨Nat.le_refl d0, 0, fun _ => 0, rfl, Nat.zero_le _, fun i hi => by omega, fun i j _ hj => by omega, fun i hi => by omega, fun d e1 e2 => by omega⟩
  obtain ⟨_, m, idx, a1, a2, a3, a4, a5, a6⟩ := h1
  have a1' : go = nI m := a1
  subst a1'
  exact ⟨m, idx, wo', sd', h2, a2, a3, a4, a5, a6⟩
theorem m_gainBy (T : tT) (hw : twf T) (s : Nat → Int32) (hs : mT T s) {P : Nat} (hP : P < 2 ^ 10) {a : Option Nat} {lim : Nat} {p2 p3 : Int32} (hp : (a = none ∧ p2 = -1) ∨ ∃ p, p < T 0 0 ∧ a = some p ∧ p2 = nI p ∧ p3 = nI lim ∧ lim ≤ 10) (it : Int32) (be cp fa inn sd st us wo : Nat → Int32) : ∃ q, dn_X12_gainBy it be cp fa inn s sd st us wo (nI P) p2 p3 = some q ∧ q.1 = nI (gainT T P (capT T a lim)) := by
  have hn := hw.d
  have hn0 := hw.p
  obtain ⟨cp1, c1, c2⟩ := pz_rel0 (fun k (q : Nat → Int32) => gn_X12_gainBy_0 s (nI P) p2 p3 (nI k) q it us inn be fa st wo sd) (T 0 0) (fun k q => ∀ v, v < k → capT T a lim v ≤ 10 ∧ q v = nI (capT T a lim v)) cp (fun v hv => by omega) (by
    intro k q hk hP2
    have hps := hw.ps hk
    have hsk := hs.ps hk
    have hq : gn_X12_gainBy_0 s (nI P) p2 p3 (nI k) q it us inn be fa st wo sd = gn_X12_gainBy_0 s (nI P) p2 p3 (nI (k + 1)) (upd q k (nI (capT T a lim k))) it us inn be fa st wo sd ∧ capT T a lim k ≤ 10 := by
      rw [gq_X12_gainBy_0, pz_c0, hs.1, if_neg (nI_ge hk (by omega)), inb_nI (show k < 10 by omega) (by omega), show (24 : Int32) = nI 24 from rfl, nI_add, inb_nI (show 24 + k < 284 by omega) (by omega), nI_clamp (show 24 + k < 2 ^ 31 by omega), hsk.2.2.1, nI_clamp (show k < 2 ^ 31 by omega), nI_1]
      unfold capT
      rcases hp with ⟨e1, e2⟩ | ⟨p, q1, q2, q3, q4, q5⟩
      · rw [if_neg (show ¬ nI k = p2 from fun x => by rw [e2, pz_n0 (by omega)] at x; exact x), if_neg (show ¬ a = some k from fun x => by rw [e1] at x; cases x)]
        exact ⟨rfl, by omega⟩
      · by_cases c : k = p
        · subst c
          rw [if_pos q3.symm, if_pos q2, q4]
          exact ⟨rfl, q5⟩
        · rw [if_neg (show ¬ nI k = p2 from fun x => by rw [q3, pz_eq (by omega) (by omega)] at x; exact c x), if_neg (show ¬ a = some k from fun x => by rw [q2] at x; exact c (Option.some.inj x).symm)]
          exact ⟨rfl, by omega⟩
    refine ⟨_, fun v hv => ?_, hq.1⟩
    by_cases e : v = k
    · subst e; rw [pk_us]; exact ⟨hq.2, rfl⟩
    · rw [pk_un e]; exact hP2 v (by omega))
  have c3 : dn_X12_gainBy it be cp fa inn s sd st us wo (nI P) p2 p3 = gn_X12_gainBy_1 s (nI P) p2 p3 0 0 cp1 it us inn be fa st wo sd := by
    have : dn_X12_gainBy it be cp fa inn s sd st us wo (nI P) p2 p3 = gn_X12_gainBy_0 s (nI P) p2 p3 (nI (T 0 0)) cp1 it us inn be fa st wo sd := c2
    rw [this, gq_X12_gainBy_0, pz_c0, hs.1, if_pos (nI_le (Nat.le_refl _) (by omega))]
  obtain ⟨q, h1, h2⟩ := pz_rel0 (fun k (q : Int32 × Int32 × (Nat → Int32) × (Nat → Int32) × (Nat → Int32) × (Nat → Int32) × (Nat → Int32) × (Nat → Int32) × (Nat → Int32)) => gn_X12_gainBy_1 s (nI P) p2 p3 q.1 (nI k) cp1 q.2.1 q.2.2.1 q.2.2.2.1 q.2.2.2.2.1 q.2.2.2.2.2.1 q.2.2.2.2.2.2.1 q.2.2.2.2.2.2.2.1 q.2.2.2.2.2.2.2.2) (T 1 0) (fun k q => q.1 = nI (sm (fun d => if hitB (T 10) 0 d (T 10 d) = true then 0 else gyT T P (capT T a lim) (T 10 d)) k)) (0, it, us, inn, be, fa, st, wo, sd) rfl (by
    rintro k ⟨sum, it, us, inn, be, fa, st, wo, sd⟩ hk hsum
    have hsum' : sum = nI (sm (fun d => if hitB (T 10) 0 d (T 10 d) = true then 0 else gyT T P (capT T a lim) (T 10 d)) k) := hsum
    subst hsum'
    have hq : ∀ x, gn_X12_gainBy_1 s (nI P) p2 p3 x (nI k) cp1 it us inn be fa st wo sd = if (!(hitB (T 10) 0 k (T 10 k))) = true then gn_X12_gainBy_2 s (nI P) p2 p3 x (nI k) (nI k) cp1 0 us inn be fa st wo sd else gn_X12_gainBy_1 s (nI P) p2 p3 x (nI (k + 1)) cp1 it us inn be fa st wo sd := by
      intro x
      rw [gq_X12_gainBy_1, show (1 : Int32).toNatClampNeg = 1 from rfl, hs.2.1, if_neg (nI_ge hk (by omega)), m_isFirst T hw s hs hk, Option.bind_some, nI_1]
    cases c : hitB (T 10) 0 k (T 10 k) with
    | true =>
      refine ⟨(nI (sm (fun d => if hitB (T 10) 0 d (T 10 d) = true then 0 else gyT T P (capT T a lim) (T 10 d)) k), it, us, inn, be, fa, st, wo, sd), ?_, ?_⟩
      · show _ = nI (sm _ k + (if hitB (T 10) 0 k (T 10 k) = true then 0 else _))
        rw [if_pos c, Nat.add_zero]
      · show gn_X12_gainBy_1 s (nI P) p2 p3 _ (nI k) cp1 it us inn be fa st wo sd = gn_X12_gainBy_1 s (nI P) p2 p3 _ (nI (k + 1)) cp1 it us inn be fa st wo sd
        rw [hq, c]; rfl
    | false =>
      obtain ⟨m, idx, wo', sd', i1, i2, i3, i4, i5, i6⟩ := m_items T hw s hs hP hk p2 p3 (nI (sm (fun d => if hitB (T 10) 0 d (T 10 d) = true then 0 else gyT T P (capT T a lim) (T 10 d)) k)) cp1 us inn be fa st wo sd
      have hgw : gwf (fun i => leG T P (idx i)) (fun i => boG T P (idx i)) (fun i => T 11 (idx i) + T 12 (idx i)) P.testBit m (T 0 0) := by
        intro i hi'
        have h5 := i5 i hi'
        have h1 := leG_lt hw (P := P) h5.1
        have h2 := goG h5.2.2
        exact ⟨h1.1, h1.2.1, h2.1, h2.2, h1.2.2.2⟩
      obtain ⟨o, o1, o2⟩ := m_mostOf hgw hn0 (by omega) i3 c1 us inn be fa st
      have hopt : optN (fun i => leG T P (idx i)) (fun i => boG T P (idx i)) (fun i => T 11 (idx i) + T 12 (idx i)) m (capT T a lim) = gyT T P (capT T a lim) (T 10 k) := by
        unfold gyT
        refine opt_enum (idx := idx) _ i4 (fun i hi' => (i5 i hi').1) (fun i hi' => ⟨rfl, rfl, ?_⟩) (fun d hd hne => ?_)
        · show T 11 (idx i) + T 12 (idx i) = wtG T P (T 10 k) (idx i)
          unfold wtG
          rw [if_pos ⟨(i5 i hi').2.1, (i5 i hi').2.2⟩]
        · unfold wtG at hne
          by_cases c2 : T 10 d = T 10 k ∧ goT T P d = true
          · rw [if_pos c2] at hne
            refine i6 d ?_ hd c2.1 c2.2 hne
            apply Classical.byContradiction
            intro hc
            rw [hit_t ⟨d, by omega, by omega, c2.1⟩] at c
            cases c
          · rw [if_neg c2] at hne; exact absurd rfl hne
      refine ⟨(nI (sm (fun d => if hitB (T 10) 0 d (T 10 d) = true then 0 else gyT T P (capT T a lim) (T 10 d)) k) + o.1, nI m, o.2.1, o.2.2.1, o.2.2.2.1, o.2.2.2.2.1, o.2.2.2.2.2, wo', sd'), ?_, ?_⟩
      · show _ + o.1 = nI (sm _ k + (if hitB (T 10) 0 k (T 10 k) = true then 0 else _))
        rw [c, if_neg (by decide), o2, nI_add, hopt]
      · show gn_X12_gainBy_1 s (nI P) p2 p3 _ (nI k) cp1 it us inn be fa st wo sd = gn_X12_gainBy_1 s (nI P) p2 p3 _ (nI (k + 1)) cp1 (nI m) o.2.1 o.2.2.1 o.2.2.2.1 o.2.2.2.2.1 o.2.2.2.2.2 wo' sd'
        rw [hq, c, if_pos (by decide), i1, gq_X12_gainBy_2, show (1 : Int32).toNatClampNeg = 1 from rfl, hs.2.1, if_pos (nI_le (Nat.le_refl _) (by omega)), o1, Option.bind_some, nI_1])
  refine ⟨(q.1, cp1, q.2.1, q.2.2.1, q.2.2.2.1, q.2.2.2.2.1, q.2.2.2.2.2.1, q.2.2.2.2.2.2.1, q.2.2.2.2.2.2.2.1, q.2.2.2.2.2.2.2.2), ?_, ?_⟩
  · have h3 : gn_X12_gainBy_1 s (nI P) p2 p3 0 0 cp1 it us inn be fa st wo sd = gn_X12_gainBy_1 s (nI P) p2 p3 q.1 (nI (T 1 0)) cp1 q.2.1 q.2.2.1 q.2.2.2.1 q.2.2.2.2.1 q.2.2.2.2.2.1 q.2.2.2.2.2.2.1 q.2.2.2.2.2.2.2.1 q.2.2.2.2.2.2.2.2 := h2
    rw [c3, h3, gq_X12_gainBy_1, show (1 : Int32).toNatClampNeg = 1 from rfl, hs.2.1, if_pos (nI_le (Nat.le_refl _) (by omega))]
  · show q.1 = _
    have h1' : q.1 = nI (sm (fun d => if hitB (T 10) 0 d (T 10 d) = true then 0 else gyT T P (capT T a lim) (T 10 d)) (T 1 0)) := h1
    rw [h1']
    congr 1
    rw [sum_first _ _ _ (fun d hd => by have := hw.ds hd; omega)]
    unfold gainT
    apply sm_congr
    intro y _
    show (if hitB (T 10) 0 (T 1 0) y = true then gyT T P (capT T a lim) y else 0) = _
    cases hh : hitB (T 10) 0 (T 1 0) y with
    | true => rfl
    | false =>
      rw [gyT_0 (fun d hd e => by rw [hit_t ⟨d, by omega, hd, e⟩] at hh; cases hh)]
      rfl
theorem m_settle (T : tT) (hw : twf T) (s : Nat → Int32) (hs : mT T s) (it : Int32) (be cp fa inn sd st us wo gs : Nat → Int32) : ∃ q, gn_X12_settle_0 s 0 0 cp it us inn be fa st wo sd gs = some q ∧ q.1 = 0 ∧ ∀ P, P < 2 ^ T 0 0 → q.2.2.2.2.2.2.2.2.2.2 P = nI (gnT T P) := by
  have hp10 := pz_10 hw.p
  obtain ⟨q, h1, h2⟩ := pz_rel0 (fun k (q : Int32 × (Nat → Int32) × Int32 × (Nat → Int32) × (Nat → Int32) × (Nat → Int32) × (Nat → Int32) × (Nat → Int32) × (Nat → Int32) × (Nat → Int32) × (Nat → Int32)) => gn_X12_settle_0 s (nI k) q.1 q.2.1 q.2.2.1 q.2.2.2.1 q.2.2.2.2.1 q.2.2.2.2.2.1 q.2.2.2.2.2.2.1 q.2.2.2.2.2.2.2.1 q.2.2.2.2.2.2.2.2.1 q.2.2.2.2.2.2.2.2.2.1 q.2.2.2.2.2.2.2.2.2.2) (2 ^ T 0 0) (fun k q => q.1 = 0 ∧ ∀ P, P < k → q.2.2.2.2.2.2.2.2.2.2 P = nI (gnT T P)) (0, cp, it, us, inn, be, fa, st, wo, sd, gs) ⟨rfl, fun P hP => by omega⟩ (by
    rintro k ⟨sl, cp, it, us, inn, be, fa, st, wo, sd, gs⟩ hk ⟨hsl, hP⟩
    have hsl' : sl = 0 := hsl
    subst hsl'
    obtain ⟨o, o1, o2⟩ := m_gainBy T hw s hs (P := k) (by omega) (a := none) (lim := 0) (p3 := 0) (Or.inl ⟨rfl, rfl⟩) it be cp fa inn sd st us wo
    refine ⟨(0, o.2.1, o.2.2.1, o.2.2.2.1, o.2.2.2.2.1, o.2.2.2.2.2.1, o.2.2.2.2.2.2.1, o.2.2.2.2.2.2.2.1, o.2.2.2.2.2.2.2.2.1, o.2.2.2.2.2.2.2.2.2, upd gs k o.1), ⟨rfl, fun P hp => ?_⟩, ?_⟩
    · show upd gs k o.1 P = _
      by_cases e : P = k
      · subst e; rw [pk_us]; exact o2
      · rw [pk_un e]; exact hP P (by omega)
    · show gn_X12_settle_0 s (nI k) 0 cp it us inn be fa st wo sd gs = gn_X12_settle_0 _ _ _ _ _ _ _ _ _ _ _ _ _
      rw [gq_X12_settle_0, m_pc T hw s hs, if_neg (nI_ge hk (by omega)), o1, Option.bind_some, inb_nI (by omega) (by omega), if_pos rfl, nI_clamp (by omega), nI_1])
  refine ⟨q, ?_, h1.1, h1.2⟩
  have h3 : gn_X12_settle_0 s 0 0 cp it us inn be fa st wo sd gs = gn_X12_settle_0 s (nI (2 ^ T 0 0)) q.1 q.2.1 q.2.2.1 q.2.2.2.1 q.2.2.2.2.1 q.2.2.2.2.2.1 q.2.2.2.2.2.2.1 q.2.2.2.2.2.2.2.1 q.2.2.2.2.2.2.2.2.1 q.2.2.2.2.2.2.2.2.2.1 q.2.2.2.2.2.2.2.2.2.2 := h2
  rw [h3, gq_X12_settle_0, m_pc T hw s hs, if_pos (nI_le (Nat.le_refl _) (by omega))]
