/-! ===== pure rows: LAWFUL, joined ===== -/
theorem srT_ge (T : tT) (O : Nat → Nat) : ∀ (j : Nat) (D : tD) (w : Nat → Nat) (sum : Nat) (best : Int × (Nat → Nat)), best.1 ≤ (srT T O j D w sum best).1 ∧ (sum : Int) ≤ (srT T O j D w sum best).1
  | 0, D, w, sum, best => by
    show best.1 ≤ (if best.1 < (sum : Int) then ((sum : Int), w) else best).1 ∧ (sum : Int) ≤ (if best.1 < (sum : Int) then ((sum : Int), w) else best).1
    by_cases c : best.1 < (sum : Int)
    · rw [if_pos c]; exact ⟨by show best.1 ≤ (sum : Int); omega, Int.le_refl _⟩
    · rw [if_neg c]; exact ⟨Int.le_refl _, by omega⟩
  | j + 1, D, w, sum, best => by
    have e0 := srT_ge T O j D (wSet w (O (T 1 0 - (j + 1))) 0) sum best
    have e1 : ∀ b : Int × (Nat → Nat), b.1 ≤ (if wrT T D (O (T 1 0 - (j + 1))) 0 = 0 then srT T O j (pT D (O (T 1 0 - (j + 1))) 0) (wSet w (O (T 1 0 - (j + 1))) 1) (sum + bth T (O (T 1 0 - (j + 1)))) b else b).1 := by
      intro b
      split
      · exact (srT_ge T O j _ _ _ b).1
      · exact Int.le_refl _
    have e2 : ∀ b : Int × (Nat → Nat), b.1 ≤ (if wrT T D (O (T 1 0 - (j + 1))) 1 = 0 then srT T O j (pT D (O (T 1 0 - (j + 1))) 1) (wSet w (O (T 1 0 - (j + 1))) 2) (sum + bth T (O (T 1 0 - (j + 1)))) b else b).1 := by
      intro b
      split
      · exact (srT_ge T O j _ _ _ b).1
      · exact Int.le_refl _
    have h1 := e1 (srT T O j D (wSet w (O (T 1 0 - (j + 1))) 0) sum best)
    have h2 := e2 (if wrT T D (O (T 1 0 - (j + 1))) 0 = 0 then srT T O j (pT D (O (T 1 0 - (j + 1))) 0) (wSet w (O (T 1 0 - (j + 1))) 1) (sum + bth T (O (T 1 0 - (j + 1)))) (srT T O j D (wSet w (O (T 1 0 - (j + 1))) 0) sum best) else srT T O j D (wSet w (O (T 1 0 - (j + 1))) 0) sum best)
    exact ⟨Int.le_trans e0.1 (Int.le_trans h1 h2), Int.le_trans e0.2 (Int.le_trans h1 h2)⟩
def lfT (T : tT) (O : Nat → Nat) : Int × (Nat → Nat) := srT T O (T 1 0) (0, fun _ => (0, 0)) (fun _ => 0) 0 (-1, fun _ => 0)
/-- what was kept of LAWFUL is right -/
def lfMO (T : tT) (O : Nat → Nat) (lg : Int32) (lw : Nat → Int32) : Prop := lg = -1 ∨ (lg = zI (lfT T O).1 ∧ ∀ d, d < T 1 0 → lw d = nI ((lfT T O).2 d))
theorem dwf_0 (T : tT) (f : Nat → Nat × Nat) : dwf T (0, f) := ⟨fun i hi => absurd hi (Nat.not_lt_zero i), fun i j _ hj => absurd hj (Nat.not_lt_zero j)⟩
theorem c_lawful (T : tT) (hw : twf T) (b : Nat → Int32) (hb : ∀ d, d < T 1 0 → b d = nI (T 9 d)) (h : Nat → Int32) (hh : ∀ d, d < T 1 0 → h d = nI (T 12 d)) (e : Nat → Int32) (he : ∀ d, d < T 1 0 → e d = nI (T 13 d)) (l : Nat → Int32) (hl : ∀ d, d < T 1 0 → l d = nI (T 8 d)) (g : Nat → Int32) (hg : ∀ d, d < T 1 0 → g d = nI (T 11 d)) (m : Nat → Int32) (hm : ∀ p, p < T 0 0 → m p = nI (T 6 p)) (y : Nat → Int32) (hy : ∀ d, d < T 1 0 → y d = nI (T 10 d)) {O : Nat → Nat} (hO : ordP T O) (o : Nat → Int32) (ho : ∀ p, p < T 1 0 → o p = nI (O p)) (hn12 : T 1 0 ≤ 12) {lg : Int32} {lw : Nat → Int32} (hlf : lfMO T O lg lw) (td : Int32) (ah tw : Nat → Int32) (tsz : Int32) (tdl tfd twy ws : Nat → Int32) : ∃ (ah' tw' : Nat → Int32) (tsz' lg' : Int32) (lw' ws' tdl' twy' tfd' : Nat → Int32), dn_X11_lawful (nI (T 1 0)) (nI (T 2 0)) b h o e l g m lg lw y td ah tw tsz tdl tfd twy ws = some (zI (lfT T O).1, ah', tw', nI (T 1 0), tsz', lg', lw', ws', tdl', twy', tfd') ∧ lfMO T O lg' lw' ∧ ∀ d, d < T 1 0 → tw' d = nI ((lfT T O).2 d) := by
  have hn := hw.d
  have hge := srT_ge T O (T 1 0) (0, fun _ => (0, 0)) (fun _ => 0) 0 (-1, fun _ => 0)
  have hge1 : (0 : Int) ≤ (lfT T O).1 := hge.2
  have hend : ∀ (lw2 : Nat → Int32) (td : Int32) (ah : Nat → Int32) (tsz lg2 : Int32) (ws tdl twy tfd : Nat → Int32), (∀ d, d < T 1 0 → lw2 d = nI ((lfT T O).2 d)) → lg2 = zI (lfT T O).1 → ∃ (ah' tw' : Nat → Int32) (tsz' lg' : Int32) (lw' ws' tdl' twy' tfd' : Nat → Int32), gn_X3_reckon_0 (nI (T 1 0)) (nI (T 2 0)) b h o e l g m y ah tw td tsz lg2 lw2 ws tdl twy tfd = some (zI (lfT T O).1, ah', tw', nI (T 1 0), tsz', lg', lw', ws', tdl', twy', tfd') ∧ lfMO T O lg' lw' ∧ ∀ d, d < T 1 0 → tw' d = nI ((lfT T O).2 d) := by
    intro lw2 td ah tsz lg2 ws tdl twy tfd h1 h2
    rw [gq_X3_reckon_0, h2]
    refine ⟨_, _, _, _, _, _, _, _, _, rfl, Or.inr ⟨rfl, h1⟩, fun d hd => ?_⟩
    rw [show (0 : Int32).toNatClampNeg = 0 from rfl, show (12 : Int32).toNatClampNeg = 12 from rfl, sb_cpy0 (by omega)]
    exact h1 d hd
  have hwrap : ∀ q : Option (Int32 × (Nat → Int32) × (Nat → Int32) × Int32 × Int32 × Int32 × (Nat → Int32) × (Nat → Int32) × (Nat → Int32) × (Nat → Int32) × (Nat → Int32)), (Option.bind q fun q2 => some (q2.1, q2.2.1, q2.2.2.1, q2.2.2.2.1, q2.2.2.2.2.1, q2.2.2.2.2.2.1, q2.2.2.2.2.2.2.1, q2.2.2.2.2.2.2.2.1, q2.2.2.2.2.2.2.2.2.1, q2.2.2.2.2.2.2.2.2.2.1, q2.2.2.2.2.2.2.2.2.2.2)) = q := fun q => by cases q <;> rfl
  unfold dn_X11_lawful
  rw [if_pos (show nI (T 1 0) ≤ 12 from nI_le (b := 12) hn12 (by omega)), hwrap]
  unfold dn_X3_reckon
  by_cases c : lg = -1
  · rw [if_pos c, inb_nI (show T 1 0 < 13 by omega) (by omega), if_pos rfl, nI_clamp (by omega)]
    have key : ∀ (j k : Nat), k + j = T 1 0 → ∃ ah', gn_X3_reckon_1 (nI (T 1 0)) (nI (T 2 0)) b h o e l g m y (nI (T 1 0) - 1) (upd ah (T 1 0) 0) tw td tsz lg lw ws tdl twy tfd = gn_X3_reckon_1 (nI (T 1 0)) (nI (T 2 0)) b h o e l g m y (nI k - 1) ah' tw td tsz lg lw ws tdl twy tfd ∧ ∀ i, i ≤ j → ah' (T 1 0 - i) = nI (ahT T O i) := by
      intro j
      induction j with
      | zero =>
        intro k hk
        have e : k = T 1 0 := by omega
        subst e
        refine ⟨_, rfl, fun i hi => ?_⟩
        have : i = 0 := by omega
        subst this
        rw [Nat.sub_zero, pk_us]; rfl
      | succ j ih =>
        intro k hk
        obtain ⟨ah', h1, h2⟩ := ih (k + 1) (by omega)
        have hk1 : k < T 1 0 := by omega
        have hd := hO.1 k hk1
        have h3 := h2 j (Nat.le_refl j)
        rw [show T 1 0 - j = k + 1 from by omega] at h3
        refine ⟨upd ah' k (nI (ahT T O j) + nI (T 11 (O k) + T 12 (O k))), ?_, fun i hi => ?_⟩
        · rw [h1, pz_s1 (by omega), Nat.add_sub_cancel, gq_X3_reckon_1, if_neg (nI_pos (by omega)), nI_1, inb_nI (by omega) (by omega), if_pos rfl, inb_nI (by omega) (by omega), if_pos rfl, nI_clamp (by omega), ho k hk1, c_bothShares T hw h hh g hg hd, Option.bind_some, inb_nI (by omega) (by omega), if_pos rfl, nI_clamp (by omega), h3, pz_sub1]
        · by_cases e : i = j + 1
          · subst e
            rw [show T 1 0 - (j + 1) = k from by omega, pk_us, nI_add]
            show nI (ahT T O j + (T 11 (O k) + T 12 (O k))) = nI (ahT T O j + bth T (O (T 1 0 - (j + 1))))
            rw [show T 1 0 - (j + 1) = k from by omega]
            rfl
          · rw [pk_un (by omega)]; exact h2 i (by omega)
    obtain ⟨ah', h1, h2⟩ := key (T 1 0) 0 (by omega)
    obtain ⟨lw', ws', tdl', twy', tfd', z1, z2, z3, z4⟩ := c_try T hw b hb h hh e he l hl g hg m hm y hy hO o ho hn12 ah' h2 (T 1 0) 14 (by omega) (Nat.le_refl _) (0, fun _ => (0, 0)) (fun _ => 0) 0 (-1, fun _ => 0) tdl twy tfd ws lw (dwf_0 T _) (fun i hi => absurd hi (Nat.not_lt_zero i)) (by omega) (Int.le_refl _) (by decide) (fun p hp => by omega) (fun x => absurd rfl x)
    rw [Nat.sub_self] at z1
    have z1' : dn_X3_tryFrom 14 ah' 0 tdl tfd twy ws (nI (T 1 0)) (nI (T 2 0)) b h o e l g m lg lw y 0 0 = some (zI (lfT T O).1, lw', ws', tdl', twy', tfd', nI 0) := by
      rw [c]; exact z1
    rw [h1, gq_X3_reckon_1, if_pos (show nI 0 - 1 < 0 by decide)]
    show ∃ (ah' tw' : Nat → Int32) (tsz' lg' : Int32) (lw' ws' tdl' twy' tfd' : Nat → Int32), Option.bind (dn_X3_tryFrom 14 _ 0 tdl tfd twy ws (nI (T 1 0)) (nI (T 2 0)) b h o e l g m lg lw y 0 0) _ = _ ∧ _
    rw [z1', Option.bind_some]
    exact hend _ _ _ _ _ _ _ _ _ (fun d hd => z4 (by
      show (lfT T O).1 ≠ -1
      omega) d hd) rfl
  · rw [if_neg c]
    obtain ⟨h1, h2⟩ := hlf.resolve_left c
    exact hend _ _ _ _ _ _ _ _ _ h2 h1
theorem m_lawful (T : tT) (hw : twf T) (s : Nat → Int32) (hs : mT T s) (D : tD) (hD : dwf T D) (hs3 : mB D s) {O : Nat → Nat} (hO : ordP T O) (hn12 : T 1 0 ≤ 12) (lm : Int32) (ba bf dk lb od tr : Nat → Int32) : ∃ q, dn_X12_lawful lm ba bf dk lb od s tr = some q ∧ q.1 = zI (lfT T O).1 ∧ q.2.2.2.2.2.2.1 = nI (T 1 0) ∧ (∀ d, d < T 1 0 → q.2.2.2.2.2.2.2.2.2 d = nI ((lfT T O).2 d)) ∧ mT T q.2.2.2.2.1 ∧ mB D q.2.2.2.2.1 := by
  have hn := hw.d
  have hge := srT_ge T O (T 1 0) (0, fun _ => (0, 0)) (fun _ => 0) 0 (-1, fun _ => 0)
  have hge1 : (0 : Int) ≤ (lfT T O).1 := hge.2
  obtain ⟨O', od', m1, m2, m3⟩ := m_byYears T hw s hs od
  have hod : ∀ p, p < T 1 0 → od' p = nI (O p) := fun p hp => by rw [m3 p hp, m2.uniq hO (T 1 0) p hp (Nat.le_refl _)]
  obtain ⟨dk', k1, k2⟩ := pz_rel0 (fun k (q : Nat → Int32) => gn_X12_keepDone_0 s (nI k) q) 60 (fun k q => q 60 = s 3 ∧ ∀ i, i < k → q i = s (224 + i)) (upd dk 60 (s 3)) ⟨pk_us, fun i hi => by omega⟩ (by
    rintro k q hk ⟨q1, q2⟩
    refine ⟨upd q k (s (224 + k)), ⟨by rw [pk_un (by omega)]; exact q1, fun i hi => ?_⟩, ?_⟩
    · by_cases e : i = k
      · subst e; rw [pk_us]
      · rw [pk_un e]; exact q2 i (by omega)
    · show gn_X12_keepDone_0 _ _ _ = gn_X12_keepDone_0 _ _ _
      rw [gq_X12_keepDone_0, if_neg (show ¬ (60 : Int32) ≤ nI k from nI_ge (b := 60) hk (by omega)), show (224 : Int32) = nI 224 from rfl, nI_add, inb_nI (by omega) (by omega), if_pos rfl, inb_nI (by omega) (by omega), if_pos rfl, nI_clamp (by omega), nI_clamp (by omega), nI_1])
  have k3 : dn_X12_keepDone dk s = some dk' := by
    have : dn_X12_keepDone dk s = gn_X12_keepDone_0 s (nI 60) dk' := k2
    rw [this, gq_X12_keepDone_0, if_pos (show (60 : Int32) ≤ nI 60 by decide)]
  obtain ⟨s2, tr2, ba2, bf2, lb2, z1, z2, z3, z4, z5⟩ := m_dfs T hw s hs hO hn12 od' dk' hod 0 lm (T 1 0) (Nat.le_refl _) (0, fun _ => (0, 0)) (fun _ => 0) 0 (-1, fun _ => 0) (upd s 3 0) (upd tr 0 (-1)) ba bf lb (dwf_0 T _) ⟨pk_us, fun i hi => absurd hi (Nat.not_lt_zero i)⟩ (fun k _ h3 => pk_un h3) (by omega) (Int.le_refl _) (by decide) (fun p hp => by omega) (fun _ => by rw [Nat.sub_self, pk_us]) (fun x => absurd rfl x)
  rw [Nat.sub_self] at z1
  obtain ⟨s3, b1, b2⟩ := pz_rel0 (fun k (q : Nat → Int32) => gn_X12_backDone_0 dk' (nI k) q) 60 (fun k q => q 3 = s 3 ∧ (∀ i, i < 224 → i ≠ 3 → q i = s i) ∧ ∀ i, i < k → q (224 + i) = s (224 + i)) (upd s2 3 (dk' 60)) ⟨by rw [pk_us, k1.1], fun i hi h3 => by rw [pk_un h3]; exact z3 i hi h3, fun i hi => by omega⟩ (by
    rintro k q hk ⟨q1, q2, q3⟩
    refine ⟨upd q (224 + k) (dk' k), ⟨by rw [pk_un (by omega)]; exact q1, fun i hi h3 => by rw [pk_un (by omega)]; exact q2 i hi h3, fun i hi => ?_⟩, ?_⟩
    · by_cases e : i = k
      · subst e; rw [pk_us]; exact k1.2 i (by omega)
      · rw [pk_un (by omega)]; exact q3 i (by omega)
    · show gn_X12_backDone_0 _ _ _ = gn_X12_backDone_0 _ _ _
      rw [gq_X12_backDone_0, if_neg (show ¬ (60 : Int32) ≤ nI k from nI_ge (b := 60) hk (by omega)), inb_nI (by omega) (by omega), if_pos rfl, show (224 : Int32) = nI 224 from rfl, nI_add, inb_nI (by omega) (by omega), if_pos rfl, nI_clamp (by omega), nI_clamp (by omega), nI_1])
  have b3 : dn_X12_backDone dk' s2 = some s3 := by
    have : dn_X12_backDone dk' s2 = gn_X12_backDone_0 dk' (nI 60) s3 := b2
    rw [this, gq_X12_backDone_0, if_pos (show (60 : Int32) ≤ nI 60 by decide)]
  have hmT3 : mT T s3 := hs.same hw b1.2.1
  have hmB3 : mB D s3 := by
    refine ⟨by rw [b1.1]; exact hs3.1, fun i hi => ?_⟩
    have hDn := hD.le
    have h1 := b1.2.2 i (by omega)
    have h2 := b1.2.2 (30 + i) (by omega)
    rw [show 224 + (30 + i) = 254 + i from by omega] at h2
    rw [h1, h2]
    exact hs3.2 i hi
  refine ⟨(zI (lfT T O).1, 0, od', dk', s3, tr2, nI (T 1 0), ba2, bf2, lb2), ?_, rfl, rfl, fun d hd => z5 (by
      show (lfT T O).1 ≠ -1
      omega) d hd, hmT3, hmB3⟩
  unfold dn_X12_lawful
  rw [show (1 : Int32).toNatClampNeg = 1 from rfl, hs.2.1, if_pos (show nI (T 1 0) ≤ 12 from nI_le (b := 12) hn12 (by omega)), m1, Option.bind_some, k3, Option.bind_some, show (3 : Int32).toNatClampNeg = 3 from rfl, show (0 : Int32).toNatClampNeg = 0 from rfl]
  have z1' : gn_X12_lawful_0 (-1) 0 0 0 od' dk' (upd s 3 0) (upd tr 0 (-1)) lm ba bf lb = gn_X12_lawful_0 (zI (lfT T O).1) (nI 0 - 1) 0 0 od' dk' s2 tr2 lm ba2 bf2 lb2 := z1
  rw [z1', gq_X12_lawful_0, if_pos (show nI 0 - 1 < 0 by decide), b3, Option.bind_some, show (1 : Int32).toNatClampNeg = 1 from rfl, hmT3.2.1]
theorem j_lawful (T : tT) (hw : twf T) (b : Nat → Int32) (hb : ∀ d, d < T 1 0 → b d = nI (T 9 d)) (h : Nat → Int32) (hh : ∀ d, d < T 1 0 → h d = nI (T 12 d)) (e : Nat → Int32) (he : ∀ d, d < T 1 0 → e d = nI (T 13 d)) (l : Nat → Int32) (hl : ∀ d, d < T 1 0 → l d = nI (T 8 d)) (g : Nat → Int32) (hg : ∀ d, d < T 1 0 → g d = nI (T 11 d)) (m : Nat → Int32) (hm : ∀ p, p < T 0 0 → m p = nI (T 6 p)) (y : Nat → Int32) (hy : ∀ d, d < T 1 0 → y d = nI (T 10 d)) {O : Nat → Nat} (hO : ordP T O) (o : Nat → Int32) (ho : ∀ p, p < T 1 0 → o p = nI (O p)) (s : Nat → Int32) (hs : mT T s) (D : tD) (hD : dwf T D) (hs3 : mB D s) {lg : Int32} {lw : Nat → Int32} (hlf : lfMO T O lg lw) {td lm : Int32} {tw lb : Nat → Int32} (hc : lfOK td tw lm lb) (ah : Nat → Int32) (tsz : Int32) (tdl tfd twy ws ba bf dk od tr : Nat → Int32) : ∃ q1, dn_X11_lawful (nI (T 1 0)) (nI (T 2 0)) b h o e l g m lg lw y td ah tw tsz tdl tfd twy ws = some q1 ∧ ∃ q2, dn_X12_lawful lm ba bf dk lb od s tr = some q2 ∧ q1.1 = q2.1 ∧ lfMO T O q1.2.2.2.2.2.1 q1.2.2.2.2.2.2.1 ∧ lfOK q1.2.2.2.1 q1.2.2.1 q2.2.2.2.2.2.2.1 q2.2.2.2.2.2.2.2.2.2 ∧ mT T q2.2.2.2.2.1 ∧ mB D q2.2.2.2.2.1 := by
  have hn := hw.d
  by_cases c : T 1 0 ≤ 12
  · obtain ⟨ah', tw', tsz', lg', lw', ws', tdl', twy', tfd', c1, c2, c3⟩ := c_lawful T hw b hb h hh e he l hl g hg m hm y hy hO o ho c hlf td ah tw tsz tdl tfd twy ws
    obtain ⟨q, m1, m2, m3, m4, m5, m6⟩ := m_lawful T hw s hs D hD hs3 hO c lm ba bf dk lb od tr
    rw [c1, m1]
    exact ⟨_, rfl, _, rfl, m2.symm, c2, Or.inr ⟨T 1 0, c, rfl, m3, fun j hj => (c3 j hj).trans (m4 j hj).symm⟩, m5, m6⟩
  · unfold dn_X11_lawful dn_X12_lawful
    rw [if_neg (show ¬ nI (T 1 0) ≤ 12 from by rw [show (12 : Int32) = nI 12 from rfl, pz_le (by omega) (by omega)]; exact c), show (1 : Int32).toNatClampNeg = 1 from rfl, hs.2.1, if_neg (show ¬ nI (T 1 0) ≤ 12 from by rw [show (12 : Int32) = nI 12 from rfl, pz_le (by omega) (by omega)]; exact c)]
    exact ⟨_, rfl, _, rfl, rfl, hlf, hc, hs, hs3⟩
