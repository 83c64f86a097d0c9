/-! ===== pure rows: a TOWN is read, line by line, on both sides ===== -/
theorem tkK_0L {O : Nat → Nat} {L M p : Nat} (h : tkK O L M p = 0) : L ≤ M := by
  by_cases c : tkQ O L p < min L M
  · by_cases d : alB O (tkQ O L p) = true
    · obtain ⟨k1, k2⟩ := tkK_1 c d
      by_cases w1 : allS O (tkQ O L p) (tkR O L (tkQ O L p)) ∧ tkR O L (tkQ O L p) - tkQ O L p ≤ 7
      · have := k1 w1; omega
      · obtain ⟨k3, k4⟩ := k2 w1
        by_cases w2 : allD O (tkQ O L p) (tkR O L (tkQ O L p)) ∧ tkR O L (tkQ O L p) - tkQ O L p ≤ 2
        · have := k3 w2; omega
        · have := k4 w2; omega
    · have := tkK_3 c d
      split at this <;> omega
  · have := tkK_no c
    split at this <;> omega
theorem tkE_3 {O : Nat → Nat} {L M p : Nat} (h : tkK O L M p = 3) : tkE O L p ≤ min L M := by
  by_cases c : tkQ O L p < min L M
  · by_cases d : alB O (tkQ O L p) = true
    · obtain ⟨k1, k2⟩ := tkK_1 c d
      by_cases w1 : allS O (tkQ O L p) (tkR O L (tkQ O L p)) ∧ tkR O L (tkQ O L p) - tkQ O L p ≤ 7
      · have := k1 w1; omega
      · obtain ⟨k3, k4⟩ := k2 w1
        by_cases w2 : allD O (tkQ O L p) (tkR O L (tkQ O L p)) ∧ tkR O L (tkQ O L p) - tkQ O L p ≤ 2
        · have := k3 w2; omega
        · have := k4 w2; omega
    · have : tkE O L p = tkQ O L p + 1 := by unfold tkE; rw [if_neg d]
      omega
  · have := tkK_no c
    split at this <;> omega
/-- the model stops where a line is not as it should be -/
theorem m_stop {L : Nat} {ta : Nat → Int32} {q : mLn} {f a : Nat} (hf : mFail L 900 ta q f a) {mn : Nat → Int64} (hnm : ∀ k, k < 40 → q.2.2.2.2.2.2.2.2.2.2.2.2.1 k = mn k) (rs : Nat → Int64) {mto : Int32} (hto : ¬ mto = 0) (thr ln mp mat sp mnu fa fat got ls lim hl : Int32) (mwo : Int64) (hh : Nat → Int32) (mn0 : Nat → Int64) (s : Nat → Int32) (stl : Int32) (hline : dn_X12_line (nI L) mp 900 mto mat sp mnu fa fat mwo got lim hl hh mn0 rs ta = some q) : ∃ q2, gn_X12_town_1 rs ta thr (nI L) ln mp 900 fa ls lim hl mat sp mto mwo mnu hh fat got mn0 s stl = some q2 ∧ q2.1 = -1 - nI a ∧ q2.2.1 = thr ∧ q2.2.2.2.1 = ln ∧ q2.2.2.2.2.2.2.1 = nI f ∧ q2.2.2.2.2.2.2.2.2.2.2.2.2.2.2.2.2.2.2.2.1 = s ∧ q2.2.2.2.2.2.2.2.2.2.2.2.2.2.2.2.2.2.2.2.2 = stl ∧ ∀ k, k < 40 → q2.2.2.2.2.2.2.2.2.2.2.2.2.2.2.2.2.2.2.1 k = mn k := by
  rw [gq_X12_town_1, if_neg hto, hline, Option.bind_some]
  rcases hf with ⟨a1, a2, a3⟩ | ⟨a1, q3, a2, a3, a4, a5⟩
  · rw [if_neg (by rw [a1]; exact Bool.false_ne_true)]
    exact ⟨_, rfl, by show _ - _ = _; rw [a3], rfl, rfl, a2, rfl, rfl, hnm⟩
  · have a2' : dn_X12_sign (nI L) q.2.2.2.2.1 900 q.2.2.2.2.2.2.2.1 q.2.2.2.2.2.1 q.2.2.2.2.2.2.1 q.2.2.2.2.2.2.2.2.2.1 q.2.1 q.2.2.1 q.2.2.2.2.2.2.2.2.1 ta 59 = some q3 := a2
    rw [if_pos a1, a2', Option.bind_some, if_neg (by rw [a3]; exact Bool.false_ne_true)]
    exact ⟨_, rfl, by show _ - _ = _; rw [a5], rfl, rfl, a4, rfl, rfl, hnm⟩
def tOut (O : Nat → Nat) (L : Nat) (by_ ta : Nat → Int32) (rs : Nat → Int64) (mg : Nat → Int32) (mr mlg thr ln : Int32) (oy s : Nat → Int32) (ki fa stl : Int32) (p v : Nat) (mp mat mto : Int32) (mwo : Int64) (mnu : Int32) (T : tT) (pe de la too : Int32) (bo di li le br ye lg bg ei : Nat → Int32) (hh : Nat → Int32) (pn dn mn : Nat → Int64) (X : Nat) (hl : Int32) (pl tp tn tt fat got sp : Int32) (tna : Int64) : Prop :=
  (∃ T' X' hl' mn' n' O', twf T' ∧ n' ≤ 900 ∧ (∃ q1, gn_X6_readTown_0 (nI L) by_ (nI v) pe de la too mg mr mlg (nI X) (nI (tellT T)) hl (nI p) (nI (min L 900)) (nI v) ki pl tp tn tna tt dn le br ye lg bg ei li pn bo di oy = some q1 ∧ q1.1 = true ∧ rC T' q1.2.1 q1.2.2.1 q1.2.2.2.1 q1.2.2.2.2.1 q1.2.2.2.2.2.2.2.2.2.2.2.2.2.2.2.2.2.2.2.2.2.2.2.2.2.2.2.2.2.1 q1.2.2.2.2.2.2.2.2.2.2.2.2.2.2.2.2.2.2.2.2.2.2.2.2.2.2.2.2.2.2.1 q1.2.2.2.2.2.2.2.2.2.2.2.2.2.2.2.2.2.2.2.2.2.2.2.2.2.2.2.1 q1.2.2.2.2.2.2.2.2.2.2.2.2.2.2.2.2.2.2.2.2.2.1 q1.2.2.2.2.2.2.2.2.2.2.2.2.2.2.2.2.2.2.2.2.2.2.1 q1.2.2.2.2.2.2.2.2.2.2.2.2.2.2.2.2.2.2.2.2.2.2.2.1 q1.2.2.2.2.2.2.2.2.2.2.2.2.2.2.2.2.2.2.2.2.2.2.2.2.1 q1.2.2.2.2.2.2.2.2.2.2.2.2.2.2.2.2.2.2.2.2.2.2.2.2.2.1 q1.2.2.2.2.2.2.2.2.2.2.2.2.2.2.2.2.2.2.2.2.2.2.2.2.2.2.1 ∧ q1.2.2.2.2.2.1 = mg ∧ q1.2.2.2.2.2.2.1 = mr ∧ q1.2.2.2.2.2.2.2.1 = mlg ∧ q1.2.2.2.2.2.2.2.2.2.2.2.2.2.1 = nI n' ∧ q1.2.2.2.2.2.2.2.2.2.2.2.2.2.2.1 = ki ∧ ordP T' O' ∧ (∀ p, p < T' 1 0 → q1.2.2.2.2.2.2.2.2.2.2.2.2.2.2.2.2.2.2.2.2.2.2.2.2.2.2.2.2.2.2.2 p = nI (O' p)) ∧ nmsR (T' 0 0) 40 q1.2.2.2.2.2.2.2.2.2.2.2.2.2.2.2.2.2.2.2.2.2.2.2.2.2.2.2.2.1 mn' ∧ nmsR (T' 1 0) 50 q1.2.2.2.2.2.2.2.2.2.2.2.2.2.2.2.2.2.2.2.2.1 mn') ∧ (∀ k, k < 40 → mn' k = mn k) ∧ ∃ mp' mat' sp' mto' mwo' mnu' h' fat' got', rM T' h' ∧ gn_X12_town_1 rs ta thr (nI L) ln mp 900 fa (nI v) (nI X) hl mat sp mto mwo mnu hh fat got mn s stl = gn_X12_town_2 rs ta 0 thr (nI L) ln mp' 900 fa (nI n') (nI X') hl' mat' sp' mto' mwo' mnu' h' fat' got' mn' s stl) ∨ (∃ f a, f ≤ 4 ∧ a ≤ 940 ∧ (∃ q1, gn_X6_readTown_0 (nI L) by_ (nI v) pe de la too mg mr mlg (nI X) (nI (tellT T)) hl (nI p) (nI (min L 900)) (nI v) ki pl tp tn tna tt dn le br ye lg bg ei li pn bo di oy = some q1 ∧ q1.1 = false ∧ q1.2.2.2.2.2.2.2.2.2.2.2.2.2.2.1 = nI f ∧ q1.2.2.2.2.2.2.2.2.2.2.2.2.2.2.2.1 = nI a) ∧ ∃ q2, gn_X12_town_1 rs ta thr (nI L) ln mp 900 fa (nI v) (nI X) hl mat sp mto mwo mnu hh fat got mn s stl = some q2 ∧ q2.1 = -1 - nI a ∧ q2.2.1 = thr ∧ q2.2.2.2.1 = ln ∧ q2.2.2.2.2.2.2.1 = nI f ∧ q2.2.2.2.2.2.2.2.2.2.2.2.2.2.2.2.2.2.2.2.1 = s ∧ q2.2.2.2.2.2.2.2.2.2.2.2.2.2.2.2.2.2.2.2.2 = stl ∧ ∀ k, k < 40 → q2.2.2.2.2.2.2.2.2.2.2.2.2.2.2.2.2.2.2.1 k = mn k)
theorem t_step {O : Nat → Nat} {by_ ta : Nat → Int32} (h : ∀ k, k < 940 → O k < 256 ∧ by_ k = sbT (O k)) (h2 : ∀ k, k < 940 → O k < 256 ∧ ta k = sbT (O k)) {L : Nat} (hL : L ≤ 940) {rs : Nat → Int64} (hrs : resI rs) (mg : Nat → Int32) (mr mlg thr ln : Int32) (oy s : Nat → Int32) (ki fa stl : Int32) (p0 : Nat) (ih : ∀ (p v : Nat), p0 < p → p ≤ L → v ≤ p → p ≤ 900 → ∀ {mp mat mto : Int32} {mwo : Int64} {mnu : Int32} (hm : mTk O L 900 p mp mat mto mwo mnu) {T : tT} (hw : twf T) {pe de la too : Int32} {bo di li le br ye lg bg ei : Nat → Int32} (hr : rC T pe de la too bo di li le br ye lg bg ei) {hh : Nat → Int32} (hrm : rM T hh) {pn dn mn : Nat → Int64} (hpn : nmsR (T 0 0) 40 pn mn) (hdn : nmsR (T 1 0) 50 dn mn) {X : Nat} (hX : X < 1024) {hl : Int32} (hhl : hl = 0 ∨ hl = 1) (pl tp tn tt fat got sp : Int32) (tna : Int64), tOut O L by_ ta rs mg mr mlg thr ln oy s ki fa stl p v mp mat mto mwo mnu T pe de la too bo di li le br ye lg bg ei hh pn dn mn X hl pl tp tn tt fat got sp tna) (p v : Nat) (hpp : p0 = p) (hp : p ≤ L) (hv : v ≤ p) (hp9 : p ≤ 900) {mp mat mto : Int32} {mwo : Int64} {mnu : Int32} (hm : mTk O L 900 p mp mat mto mwo mnu) {T : tT} (hw : twf T) {pe de la too : Int32} {bo di li le br ye lg bg ei : Nat → Int32} (hr : rC T pe de la too bo di li le br ye lg bg ei) {hh : Nat → Int32} (hrm : rM T hh) {pn dn mn : Nat → Int64} (hpn : nmsR (T 0 0) 40 pn mn) (hdn : nmsR (T 1 0) 50 dn mn) {X : Nat} (hX : X < 1024) {hl : Int32} (hhl : hl = 0 ∨ hl = 1) (pl tp tn tt fat got sp : Int32) (tna : Int64) : tOut O L by_ ta rs mg mr mlg thr ln oy s ki fa stl p v mp mat mto mwo mnu T pe de la too bo di li le br ye lg bg ei hh pn dn mn X hl pl tp tn tt fat got sp tna := by
  have hkl := tkK_le O L 900 p
  have hA := tkA_lt O (M := 900) hL hp
  obtain ⟨ps, nu, na, to, e, hc⟩ := c_next h (M := 900) hL hp tt tp tn tna
  obtain ⟨O', o', ho1, ho2, ho3⟩ := c_orderByYear T hw ye (fun d hd => (hr.2.2.2.2.2 d hd).2.2.1) oy
  have hst : gn_X6_readTown_0 (nI L) by_ (nI v) pe de la too mg mr mlg (nI X) (nI (tellT T)) hl (nI p) (nI (min L 900)) (nI v) ki pl tp tn tna tt dn le br ye lg bg ei li pn bo di oy = if to = 0 then Option.bind (dn_X10_orderByYear de oy ye) fun q8 => Option.bind (dn_X6_isWholeText ki pl (nI L) (nI (tkA O L 900 p)) 900) fun q9 => some (q9.1, pe, de, la, too, mg, mr, mlg, nI X, nI (tellT T), hl, ps, nI (min L 900), nI v, q9.2.1, q9.2.2, nI (tkA O L 900 p), nu, na, to, dn, le, br, ye, lg, bg, ei, li, pn, bo, di, q8) else Option.bind (dn_X6_readLine ki pl (nI X) (nI (tellT T)) hl (nI L) to (nI (tkA O L 900 p)) nu na ps (nI (min L 900)) by_ pe de la too bo br bg dn di ei le lg li pn ye) fun q6 => if q6.1 = true then gn_X6_readTown_0 (nI L) by_ (nI (v + 1)) q6.2.2.2.2.2.2.2.2.2.2.2.2.2.2.2.2.2.2.2.2.2.2.2.2.2 q6.2.2.2.2.2.2.2.2.2.2.2.2.2.2.2.2.2.2.2.1 q6.2.2.2.2.2.2.2.2.2.2.2.1 q6.2.2.2.2.2.2.2.2.2.1 mg mr mlg q6.2.2.2.2.2.2.2.2.2.2.2.2.2.2.2.2.2.2.2.2.1 q6.2.2.2.2.2.2.2.2.1 q6.2.2.2.2.2.2.2.2.2.2.1 q6.2.2.2.1 (nI (min L 900)) (nI (v + 1)) q6.2.1 q6.2.2.1 q6.2.2.2.2.1 q6.2.2.2.2.2.1 q6.2.2.2.2.2.2.1 q6.2.2.2.2.2.2.2.1 q6.2.2.2.2.2.2.2.2.2.2.2.2.1 q6.2.2.2.2.2.2.2.2.2.2.2.2.2.1 q6.2.2.2.2.2.2.2.2.2.2.2.2.2.2.1 q6.2.2.2.2.2.2.2.2.2.2.2.2.2.2.2.1 q6.2.2.2.2.2.2.2.2.2.2.2.2.2.2.2.2.1 q6.2.2.2.2.2.2.2.2.2.2.2.2.2.2.2.2.2.1 q6.2.2.2.2.2.2.2.2.2.2.2.2.2.2.2.2.2.2.1 q6.2.2.2.2.2.2.2.2.2.2.2.2.2.2.2.2.2.2.2.2.2.1 q6.2.2.2.2.2.2.2.2.2.2.2.2.2.2.2.2.2.2.2.2.2.2.1 q6.2.2.2.2.2.2.2.2.2.2.2.2.2.2.2.2.2.2.2.2.2.2.2.1 q6.2.2.2.2.2.2.2.2.2.2.2.2.2.2.2.2.2.2.2.2.2.2.2.2.1 oy else some (false, q6.2.2.2.2.2.2.2.2.2.2.2.2.2.2.2.2.2.2.2.2.2.2.2.2.2, q6.2.2.2.2.2.2.2.2.2.2.2.2.2.2.2.2.2.2.2.1, q6.2.2.2.2.2.2.2.2.2.2.2.1, q6.2.2.2.2.2.2.2.2.2.1, mg, mr, mlg, q6.2.2.2.2.2.2.2.2.2.2.2.2.2.2.2.2.2.2.2.2.1, q6.2.2.2.2.2.2.2.2.1, q6.2.2.2.2.2.2.2.2.2.2.1, q6.2.2.2.1, nI (min L 900), nI v, q6.2.1, q6.2.2.1, q6.2.2.2.2.1, q6.2.2.2.2.2.1, q6.2.2.2.2.2.2.1, q6.2.2.2.2.2.2.2.1, q6.2.2.2.2.2.2.2.2.2.2.2.2.1, q6.2.2.2.2.2.2.2.2.2.2.2.2.2.1, q6.2.2.2.2.2.2.2.2.2.2.2.2.2.2.1, q6.2.2.2.2.2.2.2.2.2.2.2.2.2.2.2.1, q6.2.2.2.2.2.2.2.2.2.2.2.2.2.2.2.2.1, q6.2.2.2.2.2.2.2.2.2.2.2.2.2.2.2.2.2.1, q6.2.2.2.2.2.2.2.2.2.2.2.2.2.2.2.2.2.2.1, q6.2.2.2.2.2.2.2.2.2.2.2.2.2.2.2.2.2.2.2.2.2.1, q6.2.2.2.2.2.2.2.2.2.2.2.2.2.2.2.2.2.2.2.2.2.2.1, q6.2.2.2.2.2.2.2.2.2.2.2.2.2.2.2.2.2.2.2.2.2.2.2.1, q6.2.2.2.2.2.2.2.2.2.2.2.2.2.2.2.2.2.2.2.2.2.2.2.2.1, oy) := by
    rw [gq_X6_readTown_0, if_neg (show ¬ (900 : Int32) < nI v from nI_nlt (a := 900) (b := v) (by omega) (by omega)), e, Option.bind_some, nI_1]
  have hmt : (mto = 0) = (tkK O L 900 p = 0) := by rw [hm.2.1, pz_e0 (by omega)]
  unfold tOut
  rw [hst]
  by_cases c0 : tkK O L 900 p = 0
  · have hLM := tkK_0L c0
    left
    refine ⟨T, X, hl, mn, v, O', hw, by omega, ?_, fun _ _ => rfl, ?_⟩
    · unfold dn_X6_isWholeText
      rw [if_pos (hc.1 c0), hr.2.1, ho1, Option.bind_some, if_pos (show nI L ≤ 900 from nI_le (b := 900) hLM (by omega)), Option.bind_some]
      refine ⟨_, rfl, rfl, ?_, rfl, rfl, rfl, rfl, rfl, ho2, ho3, hpn, hdn⟩
      rw [← hr.2.1]
      exact hr
    · exact ⟨mp, mat, sp, mto, mwo, mnu, hh, fat, got, hrm, by rw [gq_X12_town_1, if_pos (by rw [hmt]; exact c0)]⟩
  · have hto0 : ¬ mto = 0 := by rw [hmt]; exact c0
    by_cases c1 : to = 0
    · have c4 : tkK O L 900 p = 4 := by
        apply Classical.byContradiction
        intro x
        exact (cTk_not hc).2.2 c0 x c1
      have hML : 900 < L := by
        rcases hc.2.2.2.2 c4 with x | x
        · rw [x] at c1; exact absurd c1 (by decide)
        · exact x.2
      right
      obtain ⟨q2, g1, g2⟩ := m_lineNo h h2 hL (by omega) hp hm c4 sp fa fat got (nI X) hl hh mn rs
      refine ⟨1, tkA O L 900 p, by omega, hA, ?_, m_stop g2 (line_nm _ _ _ _ _ _ _ _ _ _ _ _ _ mn rs ta hrm.1.1 hw.p hrm.1.2.1 hw.d q2 g1) rs hto0 thr ln mp mat sp mnu fa fat got (nI v) (nI X) hl mwo hh mn s stl g1⟩
      unfold dn_X6_isWholeText dn_X6_refuse
      rw [if_pos c1, hr.2.1, ho1, Option.bind_some, if_neg (show ¬ nI L ≤ 900 from nI_ge (a := 900) hML (by omega)), Option.bind_some, if_neg Bool.false_ne_true, Option.bind_some]
      exact ⟨_, rfl, rfl, rfl, rfl⟩
    · obtain ⟨q6, g1, q2, g2, g3⟩ := l_line h h2 hL (M := 900) (by omega) hp hc hm hw hr hrm hrs hpn hdn hX ki pl fa fat sp got hl hhl
      have hnm := line_nm _ _ _ _ _ _ _ _ _ _ _ _ _ mn rs ta hrm.1.1 hw.p hrm.1.2.1 hw.d q2 g2
      rw [if_neg c1, g1, Option.bind_some]
      rcases g3 with ⟨T', pS, X', hl', mn', y1, y2, y3, y4, y5, y6, y7, y8, y9, y10, y11, y12, y13, y14, y15, y16, y17⟩ | ⟨f, a, y1, y2, y3, y4, y5, y6⟩
      · obtain ⟨d1, d2, d3, d4, d5, d6, d7, d8⟩ := y17
        obtain ⟨e5, e6, e7, e8⟩ := tkE_le y15 (Or.inr (Or.inr y16))
        have e9 := tkE_3 y16
        obtain ⟨mp', mat', sp', mto', mwo', mnu', s1, s2⟩ := (m_sign h2 hL (M := 900) (by omega) y15 d5 q2.2.2.2.2.2.2.1 q2.2.1 q2.2.2.1).1 y16
        have IH := ih (tkE O L pS) (v + 1) (by omega) e6 (by omega) (by omega) s2 y1 y11 d6 (pn := q6.2.2.2.2.2.2.2.2.2.2.2.2.2.2.2.2.2.2.2.2.2.2.1) (dn := q6.2.2.2.2.2.2.2.2.2.2.2.2.1) (mn := mn') y12 y13 y6 y7 q6.2.2.1 q6.2.2.2.2.1 q6.2.2.2.2.2.1 q6.2.2.2.2.2.2.2.1 q2.2.2.1 q2.2.2.2.2.2.2.2.2.2.2.1 sp' q6.2.2.2.2.2.2.1
        have hmodel : gn_X12_town_1 rs ta thr (nI L) ln mp 900 fa (nI v) (nI X) hl mat sp mto mwo mnu hh fat got mn s stl = gn_X12_town_1 rs ta thr (nI L) ln mp' 900 fa (nI (v + 1)) (nI X') hl' mat' sp' mto' mwo' mnu' q2.2.2.2.2.2.2.2.2.2.2.2.1 q2.2.2.1 q2.2.2.2.2.2.2.2.2.2.2.1 mn' s stl := by
          rw [gq_X12_town_1, if_neg hto0]
          rw [show (900 : Int32) = nI 900 from rfl, g2, Option.bind_some, if_pos d1, s1, Option.bind_some, if_pos rfl, nI_1]
          dsimp only
          rw [d2, d4, d7, d8]
        rw [if_pos y2, hmodel, y3, y8, y9, y10, y4]
        unfold tOut at IH
        have hnm' : ∀ k, k < 40 → mn' k = mn k := fun k hk => by
          have := hnm k hk
          rw [← d7]; exact this
        rcases IH with ⟨T2, X2, hl2, mn2, n2, O2, z1, z2, z3, z4, z5⟩ | ⟨f, a, z1, z2, z3, z4⟩
        · exact Or.inl ⟨T2, X2, hl2, mn2, n2, O2, z1, z2, z3, fun k hk => (z4 k hk).trans (hnm' k hk), z5⟩
        · obtain ⟨q3, w1, w2, w3, w4, w5, w6, w7, w8⟩ := z4
          exact Or.inr ⟨f, a, z1, z2, z3, q3, w1, w2, w3, w4, w5, w6, w7, fun k hk => (w8 k hk).trans (hnm' k hk)⟩
      · right
        rw [if_neg (by rw [y1]; exact Bool.false_ne_true)]
        exact ⟨f, a, y4, y5, ⟨_, rfl, rfl, y2, y3⟩, m_stop y6 hnm rs hto0 thr ln mp mat sp mnu fa fat got (nI v) (nI X) hl mwo hh mn s stl g2⟩
theorem t_loop {O : Nat → Nat} {by_ ta : Nat → Int32} (h : ∀ k, k < 940 → O k < 256 ∧ by_ k = sbT (O k)) (h2 : ∀ k, k < 940 → O k < 256 ∧ ta k = sbT (O k)) {L : Nat} (hL : L ≤ 940) {rs : Nat → Int64} (hrs : resI rs) (mg : Nat → Int32) (mr mlg thr ln : Int32) (oy s : Nat → Int32) (ki fa stl : Int32) : ∀ (m : Nat), ∀ (p v : Nat), L - p ≤ m → p ≤ L → v ≤ p → p ≤ 900 → ∀ {mp mat mto : Int32} {mwo : Int64} {mnu : Int32} (hm : mTk O L 900 p mp mat mto mwo mnu) {T : tT} (hw : twf T) {pe de la too : Int32} {bo di li le br ye lg bg ei : Nat → Int32} (hr : rC T pe de la too bo di li le br ye lg bg ei) {hh : Nat → Int32} (hrm : rM T hh) {pn dn mn : Nat → Int64} (hpn : nmsR (T 0 0) 40 pn mn) (hdn : nmsR (T 1 0) 50 dn mn) {X : Nat} (hX : X < 1024) {hl : Int32} (hhl : hl = 0 ∨ hl = 1) (pl tp tn tt fat got sp : Int32) (tna : Int64), tOut O L by_ ta rs mg mr mlg thr ln oy s ki fa stl p v mp mat mto mwo mnu T pe de la too bo di li le br ye lg bg ei hh pn dn mn X hl pl tp tn tt fat got sp tna := by
  intro m
  induction m with
  | zero =>
    intro p v hmL hp hv hp9 mp mat mto mwo mnu hm T hw pe de la too bo di li le br ye lg bg ei hr hh hrm pn dn mn hpn hdn X hX hl hhl pl tp tn tt fat got sp tna
    exact t_step h h2 hL hrs mg mr mlg thr ln oy s ki fa stl p (fun p' v' a b => by omega) p v rfl hp hv hp9 hm hw hr hrm hpn hdn hX hhl pl tp tn tt fat got sp tna
  | succ m ih =>
    intro p v hmL hp hv hp9 mp mat mto mwo mnu hm T hw pe de la too bo di li le br ye lg bg ei hr hh hrm pn dn mn hpn hdn X hX hl hhl pl tp tn tt fat got sp tna
    exact t_step h h2 hL hrs mg mr mlg thr ln oy s ki fa stl p (fun p' v' a b => ih p' v' (by omega) b) p v rfl hp hv hp9 hm hw hr hrm hpn hdn hX hhl pl tp tn tt fat got sp tna
