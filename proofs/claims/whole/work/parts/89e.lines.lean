/-! ===== pure rows: a line of a TOWN on both sides ===== -/
theorem l_line {O : Nat → Nat} {by_ ta : Nat → Int32} (h : ∀ k, k < 940 → O k < 256 ∧ by_ k = sbT (O k)) (h2 : ∀ k, k < 940 → O k < 256 ∧ ta k = sbT (O k)) {L M p : Nat} (hL : L ≤ 940) (hM : M ≤ 940) (hp : p ≤ L) {ps nu : Int32} {na : Int64} {to : Int32} (hc : cTk O L M p ps nu na to) {mp mat mto : Int32} {mwo : Int64} {mnu : Int32} (hm : mTk O L M p mp mat mto mwo mnu) {T : tT} (hw : twf T) {pe de la too : Int32} {bo di li le br ye lg bg ei : Nat → Int32} (hr : rC T pe de la too bo di li le br ye lg bg ei) {hh : Nat → Int32} (hrm : rM T hh) {pn dn mn rs : Nat → Int64} (hrs : resI rs) (hpn : nmsR (T 0 0) 40 pn mn) (hdn : nmsR (T 1 0) 50 dn mn) {X : Nat} (hX : X < 1024) (ki pl fa fat sp got hl : Int32) (hhl : hl = 0 ∨ hl = 1) : ∃ q6, dn_X6_readLine ki pl (nI X) (nI (tellT T)) hl (nI L) to (nI (tkA O L M p)) nu na ps (nI (min L M)) by_ pe de la too bo br bg dn di ei le lg li pn ye = some q6 ∧ ∃ q2, dn_X12_line (nI L) mp (nI M) mto mat sp mnu fa fat mwo got (nI X) hl hh mn rs ta = some q2 ∧ ((∃ T' pS X' hl' mn', twf T' ∧ q6.1 = true ∧ q6.2.2.2.1 = nI (tkE O L pS) ∧ q6.2.1 = ki ∧ q6.2.2.1 = pl ∧ X' < 1024 ∧ (hl' = 0 ∨ hl' = 1) ∧ q6.2.2.2.2.2.2.2.2.2.2.2.2.2.2.2.2.2.2.2.2.1 = nI X' ∧ q6.2.2.2.2.2.2.2.2.1 = nI (tellT T') ∧ q6.2.2.2.2.2.2.2.2.2.2.1 = hl' ∧ rC T' q6.2.2.2.2.2.2.2.2.2.2.2.2.2.2.2.2.2.2.2.2.2.2.2.2.2 q6.2.2.2.2.2.2.2.2.2.2.2.2.2.2.2.2.2.2.2.1 q6.2.2.2.2.2.2.2.2.2.2.2.1 q6.2.2.2.2.2.2.2.2.2.1 q6.2.2.2.2.2.2.2.2.2.2.2.2.2.2.2.2.2.2.2.2.2.2.2.1 q6.2.2.2.2.2.2.2.2.2.2.2.2.2.2.2.2.2.2.2.2.2.2.2.2.1 q6.2.2.2.2.2.2.2.2.2.2.2.2.2.2.2.2.2.2.2.2.2.1 q6.2.2.2.2.2.2.2.2.2.2.2.2.2.1 q6.2.2.2.2.2.2.2.2.2.2.2.2.2.2.1 q6.2.2.2.2.2.2.2.2.2.2.2.2.2.2.2.1 q6.2.2.2.2.2.2.2.2.2.2.2.2.2.2.2.2.1 q6.2.2.2.2.2.2.2.2.2.2.2.2.2.2.2.2.2.1 q6.2.2.2.2.2.2.2.2.2.2.2.2.2.2.2.2.2.2.1 ∧ nmsR (T' 0 0) 40 q6.2.2.2.2.2.2.2.2.2.2.2.2.2.2.2.2.2.2.2.2.2.2.1 mn' ∧ nmsR (T' 1 0) 50 q6.2.2.2.2.2.2.2.2.2.2.2.2.1 mn' ∧ p < pS ∧ pS ≤ L ∧ tkK O L M pS = 3 ∧ mDone O L M pS fa fat T' X' hl' mn' q2) ∨ (∃ f a, q6.1 = false ∧ q6.2.1 = nI f ∧ q6.2.2.1 = nI a ∧ f ≤ 4 ∧ a ≤ 940 ∧ mFail L M ta q2 f a)) := by
  have hA := tkA_lt O (M := M) hL hp
  have hr0 := hr
  unfold dn_X6_readLine
  rw [c_isWord h hL hc (i := 0) (by omega), c_isWord h hL hc (i := 1) (by omega), c_isWord h hL hc (i := 2) (by omega), c_isWord h hL hc (i := 4) (by omega), c_isWord h hL hc (i := 7) (by omega)]
  simp only [Option.bind_some]
  by_cases c0 : isW O L M p 0 = true
  · obtain ⟨q1, g1, q2, g2, g3⟩ := l_person h h2 hL hM hp hc hm hw hr hrm hrs hpn hdn X ki pl fa fat sp got hl c0
    rw [if_pos c0, g1, Option.bind_some]
    refine ⟨_, rfl, q2, g2, ?_⟩
    rcases g3 with ⟨T', pS, mn', y1, y2, y3, y4, y5, y6, y7, y8, y9, y10, y11, y12, y13⟩ | ⟨f, a, y1, y2, y3, y4, y5, y6⟩
    · exact Or.inl ⟨T', pS, X, hl, mn', y1, y2, y3, y4, y5, hX, hhl, rfl, by rw [y9], rfl, y6, y7, y8, y10, y11, y12, y13⟩
    · exact Or.inr ⟨f, a, y1, y2, y3, y4, y5, y6⟩
  · rw [if_neg c0]
    by_cases c1 : isW O L M p 1 = true
    · obtain ⟨q1, g1, q2, g2, g3⟩ := l_limit h h2 hL hM hp hc hm hw hr hrm hrs hpn hdn hX ki pl fa fat sp got hl c1
      rw [if_pos c1, g1, Option.bind_some]
      refine ⟨_, rfl, q2, g2, ?_⟩
      rcases g3 with ⟨T', pS, X', y1, y2, y3, y4, y5, y6, y7, y8, y9, y9b, y10, y11, y12, y13, y14⟩ | ⟨f, a, y1, y2, y3, y4, y5, y6⟩
      · exact Or.inl ⟨T', pS, X', hl, mn, y1, y2, y3, y4, y5, y6, hhl, y7, by rw [y10], rfl, y8, by rw [y9]; exact hpn, by rw [y9b]; exact hdn, y11, y12, y13, y14⟩
      · exact Or.inr ⟨f, a, y1, y2, y3, y4, y5, y6⟩
    · rw [if_neg c1]
      by_cases c2 : isW O L M p 2 = true
      · obtain ⟨q14, g1, q2, g2, g3⟩ := l_deal h h2 hL hM hp hc hm hw hr hrm hrs hpn hdn X ki pl fa fat sp got hl c2
        rw [if_pos c2, g1, Option.bind_some]
        rcases g3 with ⟨y0, q16, y0b, g3⟩ | ⟨f, a, y1, y2, y3, y4, y5, y6⟩
        · rw [if_pos y0, y0b, Option.bind_some]
          rcases g3 with ⟨T', pS, mn', y1, y2, y3, y4, y5, y6, y7, y8, y9, y10, y11, y12, y13⟩ | ⟨f, a, y1, y2, y3, y4, y5, y6⟩
          · rw [if_pos y2]
            exact ⟨_, rfl, q2, g2, Or.inl ⟨T', pS, X, hl, mn', y1, rfl, y3, y4, y5, hX, hhl, rfl, by rw [y9], rfl, y6, y7, y8, y10, y11, y12, y13⟩⟩
          · rw [if_neg (by rw [y1]; exact Bool.false_ne_true)]
            exact ⟨_, rfl, q2, g2, Or.inr ⟨f, a, rfl, y2, y3, y4, y5, y6⟩⟩
        · rw [if_neg (by rw [y1]; exact Bool.false_ne_true)]
          exact ⟨_, rfl, q2, g2, Or.inr ⟨f, a, rfl, y2, y3, y4, y5, y6⟩⟩
      · rw [if_neg c2]
        by_cases c4 : isW O L M p 4 = true
        · obtain ⟨q1, g1, q2, g2, g3⟩ := l_law h h2 hL hM hp hc hm hw hr hrm hrs hpn hdn (X := X) ki pl fa fat sp got hl hhl c4
          rw [if_pos c4, g1, Option.bind_some]
          refine ⟨_, rfl, q2, g2, ?_⟩
          rcases g3 with ⟨T', pS, y1, y2, y3, y4, y5, y6, y8, y9, y9b, y10, y11, y12, y13, y14⟩ | ⟨f, a, y1, y2, y3, y4, y5, y6⟩
          · exact Or.inl ⟨T', pS, X, 1, mn, y1, y2, y3, y4, y5, hX, Or.inr rfl, rfl, by rw [y10], y6, y8, by rw [y9]; exact hpn, by rw [y9b]; exact hdn, y11, y12, y13, y14⟩
          · exact Or.inr ⟨f, a, y1, y2, y3, y4, y5, y6⟩
        · rw [if_neg c4]
          by_cases c7 : isW O L M p 7 = true
          · obtain ⟨q1, g1, q2, g2, g3⟩ := l_part h h2 hL hM hp hc hm hw hr hrm hrs hpn hdn (X := X) ki pl fa fat sp got hl c7
            rw [if_pos c7, g1, Option.bind_some]
            refine ⟨_, rfl, q2, g2, ?_⟩
            rcases g3 with ⟨T', pS, y1, y2, y3, y4, y5, y6, y8, y9, y9b, y11, y12, y13, y14⟩ | ⟨f, a, y1, y2, y3, y4, y5, y6⟩
            · exact Or.inl ⟨T', pS, X, hl, mn, y1, y2, y3, y4, y5, hX, hhl, rfl, y6, rfl, y8, by rw [y9]; exact hpn, by rw [y9b]; exact hdn, y11, y12, y13, y14⟩
            · exact Or.inr ⟨f, a, y1, y2, y3, y4, y5, y6⟩
          · rw [if_neg c7]
            have b0 : isW O L M p 0 = false := by simpa using c0
            have b1 : isW O L M p 1 = false := by simpa using c1
            have b2 : isW O L M p 2 = false := by simpa using c2
            have b4 : isW O L M p 4 = false := by simpa using c4
            have b7 : isW O L M p 7 = false := by simpa using c7
            unfold dn_X6_refuse dn_X12_line dn_X12_bad
            rw [m_isWord hm (i := 0) (by omega) (show (123581014175598 : Int64) = lN (n256 (rvW 0)) from by decide), b0, Option.bind_some, Option.bind_some, if_neg Bool.false_ne_true, m_isWord hm (i := 1) (by omega) (show (465625246068 : Int64) = lN (n256 (rvW 1)) from by decide), b1, Option.bind_some, if_neg Bool.false_ne_true, m_isWord hm (i := 2) (by omega) (show (1684365676 : Int64) = lN (n256 (rvW 2)) from by decide), b2, Option.bind_some, if_neg Bool.false_ne_true, m_isWord hm (i := 4) (by omega) (show (7102839 : Int64) = lN (n256 (rvW 4)) from by decide), b4, Option.bind_some, if_neg Bool.false_ne_true, m_isWord hm (i := 7) (by omega) (show (1885434484 : Int64) = lN (n256 (rvW 7)) from by decide), b7, Option.bind_some, if_neg Bool.false_ne_true]
            exact ⟨_, rfl, _, rfl, Or.inr ⟨1, tkA O L M p, rfl, rfl, rfl, by omega, hA, Or.inl ⟨rfl, rfl, hm.1⟩⟩⟩
/-- no line begins where no word stands -/
theorem m_lineNo {O : Nat → Nat} {by_ ta : Nat → Int32} (h : ∀ k, k < 940 → O k < 256 ∧ by_ k = sbT (O k)) (h2 : ∀ k, k < 940 → O k < 256 ∧ ta k = sbT (O k)) {L M p : Nat} (hL : L ≤ 940) (hM : M ≤ 940) (hp : p ≤ L) {mp mat mto : Int32} {mwo : Int64} {mnu : Int32} (hm : mTk O L M p mp mat mto mwo mnu) (hk : tkK O L M p = 4) (sp fa fat got X hl : Int32) (hh : Nat → Int32) (mn rs : Nat → Int64) : ∃ q2, dn_X12_line (nI L) mp (nI M) mto mat sp mnu fa fat mwo got X hl hh mn rs ta = some q2 ∧ mFail L M ta q2 1 (tkA O L M p) := by
  have hB : ∀ i, isW O L M p i = false := fun i => by unfold isW; rw [hk]; rfl
  unfold dn_X12_line dn_X12_bad
  rw [m_isWord hm (i := 0) (by omega) (show (123581014175598 : Int64) = lN (n256 (rvW 0)) from by decide), hB, Option.bind_some, if_neg Bool.false_ne_true, m_isWord hm (i := 1) (by omega) (show (465625246068 : Int64) = lN (n256 (rvW 1)) from by decide), hB, Option.bind_some, if_neg Bool.false_ne_true, m_isWord hm (i := 2) (by omega) (show (1684365676 : Int64) = lN (n256 (rvW 2)) from by decide), hB, Option.bind_some, if_neg Bool.false_ne_true, m_isWord hm (i := 4) (by omega) (show (7102839 : Int64) = lN (n256 (rvW 4)) from by decide), hB, Option.bind_some, if_neg Bool.false_ne_true, m_isWord hm (i := 7) (by omega) (show (1885434484 : Int64) = lN (n256 (rvW 7)) from by decide), hB, Option.bind_some, if_neg Bool.false_ne_true]
  exact ⟨_, rfl, Or.inl ⟨rfl, rfl, hm.1⟩⟩
