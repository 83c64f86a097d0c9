/-! ===== pure rows: the fewest false; the answers about pairs ===== -/
abbrev btr (x y : Nat) : Prop := pcF 16 x < pcF 16 y ∨ (pcF 16 x = pcF 16 y ∧ x < y)
def mnK (F : Nat → Nat) : Nat → Nat
  | 0 => F 0
  | k + 1 => if btr (F (k + 1)) (mnK F k) then F (k + 1) else mnK F k
theorem mnK_mem (F : Nat → Nat) : ∀ k, ∃ j, j ≤ k ∧ mnK F k = F j
  | 0 => ⟨0, Nat.le_refl _, rfl⟩
  | k + 1 => by
    obtain ⟨j, h1, h2⟩ := mnK_mem F k
    show ∃ j, j ≤ k + 1 ∧ (if btr (F (k + 1)) (mnK F k) then F (k + 1) else mnK F k) = F j
    by_cases c : btr (F (k + 1)) (mnK F k)
    · rw [if_pos c]; exact ⟨k + 1, Nat.le_refl _, rfl⟩
    · rw [if_neg c]; exact ⟨j, by omega, h2⟩
theorem mnK_le (F : Nat → Nat) : ∀ k j, j ≤ k → ¬ btr (F j) (mnK F k)
  | 0, j, h => by
    rw [show j = 0 from by omega]
    show ¬ btr (F 0) (F 0)
    unfold btr; omega
  | k + 1, j, h => by
    show ¬ btr (F j) (if btr (F (k + 1)) (mnK F k) then F (k + 1) else mnK F k)
    by_cases e : j = k + 1
    · rw [e]
      by_cases c : btr (F (k + 1)) (mnK F k)
      · rw [if_pos c]; unfold btr; omega
      · rw [if_neg c]; exact c
    · have ih := mnK_le F k j (by omega)
      by_cases c : btr (F (k + 1)) (mnK F k)
      · rw [if_pos c]
        unfold btr at *
        omega
      · rw [if_neg c]; exact ih
theorem mnK_same {F : Nat → Nat} {m n : Nat} (h1 : ∀ j, j ≤ m → ∃ i, i ≤ n ∧ F i = F j) (h2 : ∀ j, j ≤ n → ∃ i, i ≤ m ∧ F i = F j) : mnK F m = mnK F n := by
  obtain ⟨j, j1, j2⟩ := mnK_mem F m
  obtain ⟨i, i1, i2⟩ := mnK_mem F n
  obtain ⟨a, a1, a2⟩ := h1 j j1
  obtain ⟨b, b1, b2⟩ := h2 i i1
  have e1 := mnK_le F n a a1
  have e2 := mnK_le F m b b1
  rw [a2, ← j2] at e1
  rw [b2, ← i2] at e2
  unfold btr at e1 e2
  omega
theorem clK_and {A B : Nat → Nat} {N P : Nat} : clK A B N (P &&& mtK A B N) = clK A B N P := by
  apply bs_congr
  intro i hi
  rw [Nat.testBit_and, Nat.testBit_and, (mtK_bit N).mpr ⟨i, hi, Or.inl rfl⟩, (mtK_bit N).mpr ⟨i, hi, Or.inr rfl⟩, Bool.and_true, Bool.and_true]
theorem sub_neg0 {a b : Nat} (ha : a < 2 ^ 30) (hb : b < 2 ^ 30) : (nI a - nI b < 0) = (a < b) := by
  apply propext
  constructor
  · intro h
    apply Classical.byContradiction
    intro c
    rw [pz_s (by omega), pz_lt0 (by omega)] at h
    exact h
  · exact pk_sneg hb
theorem sub_eq0 {a b : Nat} (ha : a < 2 ^ 30) (hb : b < 2 ^ 30) : (nI a - nI b = 0) = (a = b) := by
  apply propext
  constructor
  · intro h
    apply Classical.byContradiction
    intro c
    by_cases c2 : a < b
    · have := pk_sneg hb c2
      rw [h] at this
      exact absurd this (by decide)
    · rw [pz_s (by omega), pz_e0 (by omega)] at h
      omega
  · intro h
    rw [h, pz_s (Nat.le_refl _), Nat.sub_self]; rfl
theorem c_false {A B : Nat → Nat} {N : Nat} {f se : Nat → Int32} (h : ∀ i, i < N → f i = nI (A i) ∧ se i = nI (B i)) (hN : ∀ i, i < N → A i < 10 ∧ B i < 10) (hN2 : N ≤ 16) {K : Nat} (hK : K < 1024) : dn_X4_fewestFalse (nI N) f se (nI (K + 1)) = some (nI (mnK (clK A B N) K)) := by
  have hlt : ∀ Q, clK A B N Q < 65536 := fun Q => Nat.lt_of_lt_of_le (clK_lt A B N Q) (pz_p2l hN2)
  have hml : ∀ k, mnK (clK A B N) k < 65536 := fun k => by
    obtain ⟨j, _, e⟩ := mnK_mem (clK A B N) k
    rw [e]; exact hlt j
  have h0 : clK A B N 0 = 2 ^ N - 1 := by
    apply Nat.eq_of_testBit_eq
    intro i
    show (bs _ N).testBit i = _
    rw [bs_bit, Nat.testBit_two_pow_sub_one]
    simp
  have hg : ∀ (k m : Nat), k < K + 1 → m < 65536 → gn_X4_fewestFalse_0 (nI N) f se (nI (K + 1)) (nI m) (nI k) = gn_X4_fewestFalse_0 (nI N) f se (nI (K + 1)) (nI (if btr (clK A B N k) m then clK A B N k else m)) (nI (k + 1)) := by
    intro k m hk hm
    have h1 := hlt k
    have p1 := pcF_le 16 (clK A B N k)
    have p2 := pcF_le 16 m
    rw [gq_X4_fewestFalse_0, if_neg (nI_ge hk (by omega)), c_broken h hN (by omega) (by omega), Option.bind_some, c_bits h1, Option.bind_some, c_bits hm, Option.bind_some, nI_1]
    simp only [sub_neg0 (show pcF 16 (clK A B N k) < 2 ^ 30 by omega) (show pcF 16 m < 2 ^ 30 by omega), sub_eq0 (show pcF 16 (clK A B N k) < 2 ^ 30 by omega) (show pcF 16 m < 2 ^ 30 by omega), pz_le (show m < 2 ^ 31 by omega) (show clK A B N k < 2 ^ 31 by omega)]
    by_cases c1 : pcF 16 (clK A B N k) < pcF 16 m
    · rw [if_pos c1, if_pos (Or.inl c1)]
    · by_cases c2 : pcF 16 (clK A B N k) = pcF 16 m
      · by_cases c3 : m ≤ clK A B N k
        · rw [if_neg c1, if_pos c2, if_pos c3, if_neg (show ¬ btr (clK A B N k) m by unfold btr; omega)]
        · rw [if_neg c1, if_pos c2, if_neg c3, if_pos (show btr (clK A B N k) m by unfold btr; omega)]
      · rw [if_neg c1, if_neg c2, if_neg (show ¬ btr (clK A B N k) m by unfold btr; omega)]
  have key := pz_fun (fun k (x : Nat) => gn_X4_fewestFalse_0 (nI N) f se (nI (K + 1)) (nI x) (nI (k + 1))) (mnK (clK A B N)) K (by
    intro k hk
    exact hg (k + 1) _ (by omega) (hml k)) K (Nat.le_refl _)
  have hpN : (2 : Nat) ^ N ≤ 65536 := pz_p2l hN2
  have hpN0 := Nat.two_pow_pos N
  have st := hg 0 (clK A B N 0) (by omega) (hlt 0)
  rw [if_neg (show ¬ btr (clK A B N 0) (clK A B N 0) by unfold btr; omega)] at st
  unfold dn_X4_fewestFalse
  rw [pz_1shl (by omega), pz_s1 (by omega), ← h0, show (0 : Int32) = nI 0 from rfl, st]
  refine Eq.trans key ?_
  show gn_X4_fewestFalse_0 (nI N) f se (nI (K + 1)) (nI (mnK (clK A B N) K)) (nI (K + 1)) = _
  rw [gq_X4_fewestFalse_0, if_pos (nI_le (Nat.le_refl _) (by omega))]
theorem m_falseL {A B : Nat → Nat} {N : Nat} {ta : Nat → Int32} (h : octO A B N ta) (hN : ∀ i, i < N → A i < 10 ∧ B i < 10) (hN2 : N ≤ 16) (a b c d e : Int32) : gn_X12_wrongly_0 ta (-1) 0 a b c d e (nI N) (nI (mtK A B N)) = some (nI (mnK (clK A B N) (mtK A B N)), a, b, c, d, e, nI N, nI (mtK A B N)) := by
  have hM := mtK_lt (n := 10) N hN
  have hlt : ∀ Q, clK A B N Q < 65536 := fun Q => Nat.lt_of_lt_of_le (clK_lt A B N Q) (pz_p2l hN2)
  have hml : ∀ k, mnK (clK A B N) k < 65536 := fun k => by
    obtain ⟨j, _, e⟩ := mnK_mem (clK A B N) k
    rw [e]; exact hlt j
  have st : gn_X12_wrongly_0 ta (-1) 0 a b c d e (nI N) (nI (mtK A B N)) = gn_X12_wrongly_0 ta (nI (clK A B N 0)) (nI 1) a b c d e (nI N) (nI (mtK A B N)) := by
    rw [gq_X12_wrongly_0, if_neg (show ¬ nI (mtK A B N) < 0 by rw [pz_lt0 (by omega)]; exact id), show (0 : Int32) = nI 0 from rfl, m_clashes h hN (by omega) (by omega), Option.bind_some, if_pos (show (-1 : Int32) < nI 0 by decide), nI_1]
  have key := pz_fun (fun k (x : Nat) => gn_X12_wrongly_0 ta (nI x) (nI (k + 1)) a b c d e (nI N) (nI (mtK A B N))) (mnK (clK A B N)) (mtK A B N) (by
    intro k hk
    show gn_X12_wrongly_0 ta (nI (mnK (clK A B N) k)) (nI (k + 1)) _ _ _ _ _ _ _ = gn_X12_wrongly_0 ta (nI (if btr (clK A B N (k + 1)) (mnK (clK A B N) k) then clK A B N (k + 1) else mnK (clK A B N) k)) (nI (k + 1 + 1)) _ _ _ _ _ _ _
    obtain ⟨m, hm⟩ : ∃ m, m = mnK (clK A B N) k := ⟨_, rfl⟩
    rw [← hm]
    have hm2 := hml k
    rw [← hm] at hm2
    have h1 := hlt (k + 1)
    have p1 := pcF_le 16 (clK A B N (k + 1))
    have p2 := pcF_le 16 m
    rw [gq_X12_wrongly_0, if_neg (nI_nlt (by omega) (by omega)), m_clashes h hN (by omega) (by omega), Option.bind_some, if_neg (show ¬ nI m < 0 by rw [pz_lt0 (by omega)]; exact id), m_bits h1, Option.bind_some, m_bits hm2, Option.bind_some, Option.bind_some, Option.bind_some, nI_1]
    simp only [pz_lt (show pcF 16 (clK A B N (k + 1)) < 2 ^ 31 by omega) (show pcF 16 m < 2 ^ 31 by omega), pz_eq (show pcF 16 (clK A B N (k + 1)) < 2 ^ 31 by omega) (show pcF 16 m < 2 ^ 31 by omega), pz_le (show m < 2 ^ 31 by omega) (show clK A B N (k + 1) < 2 ^ 31 by omega)]
    by_cases c1 : pcF 16 (clK A B N (k + 1)) < pcF 16 m
    · rw [if_pos c1, if_pos (Or.inl c1)]
    · by_cases c2 : pcF 16 (clK A B N (k + 1)) = pcF 16 m
      · by_cases c3 : m ≤ clK A B N (k + 1)
        · rw [if_neg c1, if_pos c2, if_pos c3, if_neg (show ¬ btr (clK A B N (k + 1)) m by unfold btr; omega)]
        · rw [if_neg c1, if_pos c2, if_neg c3, if_pos (show btr (clK A B N (k + 1)) m by unfold btr; omega)]
      · rw [if_neg c1, if_neg c2, if_neg (show ¬ btr (clK A B N (k + 1)) m by unfold btr; omega)]) (mtK A B N) (Nat.le_refl _)
  rw [st]
  refine Eq.trans key ?_
  show gn_X12_wrongly_0 ta (nI (mnK (clK A B N) (mtK A B N))) (nI (mtK A B N + 1)) _ _ _ _ _ _ _ = _
  rw [gq_X12_wrongly_0, if_pos (nI_lt (by omega) (by omega))]
theorem oct_of {O : Nat → Nat} {ta : Nat → Int32} (h : ∀ k, k < 940 → O k < 256 ∧ ta k = sbT (O k)) {N : Nat} (hN : N ≤ 20) : octO (fun i => O (2 * i)) (fun i => O (2 * i + 1)) N ta := fun i hi => by
  rw [show (2 : Int32) = nI 2 from rfl, pk_mul, nI_1]
  exact ⟨m_octet h (by omega), m_octet h (by omega)⟩
theorem j_meet (T : tT) (hw : twf T) (s : Nat → Int32) (hs : mT T s) {by_ ta : Nat → Int32} (h : tpS by_ ta) {L : Nat} (hL : L ≤ 940) (ls os : Int32) (f nr se : Nat → Int32) (pr me : Int32) : ∃ q1, dn_X11_meet ls os f nr se (nI (T 0 0)) (nI L) by_ = some q1 ∧ ∃ q2, dn_X12_meet (nI L) pr me s ta = some q2 ∧ q1.1 = q2.1 ∧ q1.2.2.2.2.2.2.1 = 0 ∧ q2.2.1 = 0 ∧ q2.2.2.2.1 = 0 := by
  have hn := hw.p
  obtain ⟨O, hO⟩ := tp_oct h
  unfold dn_X11_meet dn_X12_meet dn_X9_cut
  rcases c_take (fun k hk => ⟨(hO k hk).1, (hO k hk).2.1⟩) hL hn f nr se with ⟨h1, nr', f', se', h2, h3, h4⟩ | ⟨h1, q, h2, h3⟩
  · rcases m_takes T hw s hs (fun k hk => ⟨(hO k hk).1, (hO k hk).2.2⟩) hL pr me with ⟨g1, g2⟩ | ⟨g1, g2⟩
    · have hN : ∀ i, i < L / 2 → O (2 * i) < 10 ∧ O (2 * i + 1) < 10 := fun i hi => by
        have := h1.2.2 i hi
        simp only at this
        omega
      obtain ⟨l', o', e1⟩ := c_ways (n := 10) (by omega) hN h3 ls os
      have e2 := m_meetL (oct_of (fun k hk => ⟨(hO k hk).1, (hO k hk).2.2⟩) (show L / 2 ≤ 20 by have := h1.2.1; omega)) hN (by have := h1.2.1; omega) 0 (nI L) 0 0 940
      rw [h2, g2, Option.bind_some, Option.bind_some, Option.bind_some, if_pos rfl, if_pos rfl, e2]
      show ∃ q1, Option.bind (dn_X4_waysToBe (nI (mtK (fun i => O (2 * i)) (fun i => O (2 * i + 1)) (L / 2))) ls os nr') _ = some q1 ∧ _
      rw [e1]
      exact ⟨_, rfl, _, rfl, rfl, rfl, rfl, rfl⟩
    · exact absurd h1 g1
  · rcases m_takes T hw s hs (fun k hk => ⟨(hO k hk).1, (hO k hk).2.2⟩) hL pr me with ⟨g1, g2⟩ | ⟨g1, q2, g2, g3, g4⟩
    · exact absurd g1 h1
    · rw [h2, g2, Option.bind_some, Option.bind_some, Option.bind_some, if_neg (by rw [h3]; decide), if_neg (by rw [g3]; decide)]
      exact ⟨_, rfl, _, rfl, rfl, rfl, rfl, g4⟩
theorem j_must (T : tT) (hw : twf T) (s : Nat → Int32) (hs : mT T s) {by_ ta : Nat → Int32} (h : tpS by_ ta) {L : Nat} (hL : L ≤ 940) (ls os : Int32) (f nr se : Nat → Int32) (pr me p1 : Int32) : ∃ q1, dn_X11_must ls os f nr se (nI (T 0 0)) (nI L) by_ p1 = some q1 ∧ ∃ q2, dn_X12_must (nI L) pr me s ta p1 = some q2 ∧ q1.1 = q2.1 ∧ q1.2.2.2.2.2.2.1 = 0 ∧ q2.2.1 = 0 ∧ q2.2.2.2.1 = 0 := by
  have hn := hw.p
  obtain ⟨O, hO⟩ := tp_oct h
  unfold dn_X11_must dn_X12_must dn_X9_cut
  rcases c_take (fun k hk => ⟨(hO k hk).1, (hO k hk).2.1⟩) hL hn f nr se with ⟨h1, nr', f', se', h2, h3, h4⟩ | ⟨h1, q, h2, h3⟩
  · rcases m_takes T hw s hs (fun k hk => ⟨(hO k hk).1, (hO k hk).2.2⟩) hL pr me with ⟨g1, g2⟩ | ⟨g1, g2⟩
    · have hN : ∀ i, i < L / 2 → O (2 * i) < 10 ∧ O (2 * i + 1) < 10 := fun i hi => by
        have := h1.2.2 i hi
        simp only at this
        omega
      have hM := mtK_lt (n := 10) (A := fun i => O (2 * i)) (B := fun i => O (2 * i + 1)) (L / 2) hN
      have ho := oct_of (fun k hk => ⟨(hO k hk).1, (hO k hk).2.2⟩) (show L / 2 ≤ 20 by have := h1.2.1; omega)
      rw [h2, g2, Option.bind_some, Option.bind_some, Option.bind_some, if_pos rfl, if_pos rfl]
      simp only [pz_e0 (show mtK (fun i => O (2 * i)) (fun i => O (2 * i + 1)) (L / 2) < 2 ^ 31 by omega)]
      by_cases c0 : mtK (fun i => O (2 * i)) (fun i => O (2 * i + 1)) (L / 2) = 0
      · rw [if_pos c0]
        unfold dn_X4_bound
        simp only [c0]
        rw [if_pos (show nI 0 = 0 from rfl)]
        by_cases d1 : p1 < 0
        · rw [if_pos d1]; exact ⟨_, rfl, _, rfl, rfl, rfl, rfl, rfl⟩
        · by_cases d2 : p1 ≤ 1
          · by_cases d3 : p1 = 0
            · rw [if_neg d1, if_pos d2, if_pos d3]; exact ⟨_, rfl, _, rfl, rfl, rfl, rfl, rfl⟩
            · rw [if_neg d1, if_pos d2, if_neg d3]; exact ⟨_, rfl, _, rfl, rfl, rfl, rfl, rfl⟩
          · rw [if_neg d1, if_neg d2]; exact ⟨_, rfl, _, rfl, rfl, rfl, rfl, rfl⟩
      · rw [if_neg c0]
        unfold dn_X12_isIn
        by_cases d1 : p1 < 0
        · rw [if_pos d1, if_pos d1]; exact ⟨_, rfl, _, rfl, rfl, rfl, rfl, rfl⟩
        · by_cases d2 : p1 ≤ 1
          · have d4 : ¬ (1 : Int32) < p1 := Int32.not_lt.mpr d2
            rw [if_neg d1, if_neg d1, if_pos d2, if_neg d4, Option.bind_some, if_pos rfl]
            by_cases d3 : p1 = 0
            · obtain ⟨v, v1, v2, v3, l', o', e1⟩ := c_bound hN h3 ls os 1 c0
              have e2 := m_mustL ho hN (by have := h1.2.1; omega) v1 p1 0 (nI L) 0 0 940
              rw [if_pos d3, v2, e2, e1, if_pos d3, if_neg (show ¬ (1 : Int32) = 0 by decide)]
              exact ⟨_, rfl, _, rfl, rfl, rfl, rfl, rfl⟩
            · obtain ⟨v, v1, v2, v3, l', o', e1⟩ := c_bound hN h3 ls os 0 c0
              have e2 := m_mustL ho hN (by have := h1.2.1; omega) v1 p1 0 (nI L) 0 0 940
              rw [if_neg d3, v2, e2, e1, if_neg d3, if_pos rfl]
              exact ⟨_, rfl, _, rfl, rfl, rfl, rfl, rfl⟩
          · have d4 : (1 : Int32) < p1 := Int32.not_le.mp d2
            rw [if_neg d1, if_neg d1, if_neg d2, if_pos d4, Option.bind_some, if_neg (by decide)]; exact ⟨_, rfl, _, rfl, rfl, rfl, rfl, rfl⟩
    · exact absurd h1 g1
  · rcases m_takes T hw s hs (fun k hk => ⟨(hO k hk).1, (hO k hk).2.2⟩) hL pr me with ⟨g1, g2⟩ | ⟨g1, q2, g2, g3, g4⟩
    · exact absurd g1 h1
    · rw [h2, g2, Option.bind_some, Option.bind_some, Option.bind_some, if_neg (by rw [h3]; decide), if_neg (by rw [g3]; decide)]
      exact ⟨_, rfl, _, rfl, rfl, rfl, rfl, g4⟩
theorem j_wrongly (T : tT) (hw : twf T) (s : Nat → Int32) (hs : mT T s) {by_ ta : Nat → Int32} (h : tpS by_ ta) {L : Nat} (hL : L ≤ 940) (f nr se : Nat → Int32) (pr me : Int32) : ∃ q1, dn_X11_wrongly f nr se (nI (T 0 0)) (nI L) by_ = some q1 ∧ ∃ q2, dn_X12_wrongly (nI L) pr me s ta = some q2 ∧ q1.1 = q2.1 ∧ q1.2.2.2.2.2.2 = 0 ∧ q2.2.1 = 0 ∧ q2.2.2.2.1 = 0 := by
  have hn := hw.p
  have hp10 := pz_10 hw.p
  have hp0 := Nat.two_pow_pos (T 0 0)
  obtain ⟨O, hO⟩ := tp_oct h
  unfold dn_X11_wrongly dn_X12_wrongly dn_X9_cut
  rcases c_take (fun k hk => ⟨(hO k hk).1, (hO k hk).2.1⟩) hL hn f nr se with ⟨h1, nr', f', se', h2, h3, h4⟩ | ⟨h1, q, h2, h3⟩
  · rcases m_takes T hw s hs (fun k hk => ⟨(hO k hk).1, (hO k hk).2.2⟩) hL pr me with ⟨g1, g2⟩ | ⟨g1, g2⟩
    · have hN : ∀ i, i < L / 2 → O (2 * i) < 10 ∧ O (2 * i + 1) < 10 := fun i hi => by
        have := h1.2.2 i hi
        simp only at this
        omega
      have hM := mtK_lt (n := T 0 0) (A := fun i => O (2 * i)) (B := fun i => O (2 * i + 1)) (L / 2) (fun i hi => ⟨(h1.2.2 i hi).1, (h1.2.2 i hi).2.1⟩)
      have ho := oct_of (fun k hk => ⟨(hO k hk).1, (hO k hk).2.2⟩) (show L / 2 ≤ 20 by have := h1.2.1; omega)
      have hL2 := h1.2.1
      rw [h2, g2, Option.bind_some, Option.bind_some, Option.bind_some, if_pos rfl, if_pos rfl]
      simp only [show (16 : Int32) = nI 16 from rfl, pz_le (show L / 2 < 2 ^ 31 by omega) (show 16 < 2 ^ 31 by omega)]
      by_cases c : L / 2 ≤ 16
      · have e2 := m_falseL ho hN c 0 (nI L) 0 0 940
        have e1 := c_false h4 hN c (K := 2 ^ T 0 0 - 1) (by omega)
        rw [show 2 ^ T 0 0 - 1 + 1 = 2 ^ T 0 0 from by omega] at e1
        have es : mnK (clK (fun i => O (2 * i)) (fun i => O (2 * i + 1)) (L / 2)) (2 ^ T 0 0 - 1) = mnK (clK (fun i => O (2 * i)) (fun i => O (2 * i + 1)) (L / 2)) (mtK (fun i => O (2 * i)) (fun i => O (2 * i + 1)) (L / 2)) := by
          apply mnK_same
          · intro j hj
            exact ⟨j &&& mtK (fun i => O (2 * i)) (fun i => O (2 * i + 1)) (L / 2), Nat.and_le_right, clK_and⟩
          · intro j hj
            exact ⟨j, by omega, rfl⟩
        rw [if_pos c, if_pos c, e2, c_partsCount (by omega), Option.bind_some, e1, es]
        exact ⟨_, rfl, _, rfl, rfl, rfl, rfl, rfl⟩
      · rw [if_neg c, if_neg c]
        exact ⟨_, rfl, _, rfl, rfl, rfl, rfl, rfl⟩
    · exact absurd h1 g1
  · rcases m_takes T hw s hs (fun k hk => ⟨(hO k hk).1, (hO k hk).2.2⟩) hL pr me with ⟨g1, g2⟩ | ⟨g1, q2, g2, g3, g4⟩
    · exact absurd g1 h1
    · rw [h2, g2, Option.bind_some, Option.bind_some, Option.bind_some, if_neg (by rw [h3]; decide), if_neg (by rw [g3]; decide)]
      exact ⟨_, rfl, _, rfl, rfl, rfl, rfl, g4⟩
