/-! ===== pure rows: a PERSON's line on both sides ===== -/
theorem isW_1 {O : Nat → Nat} {L M p i : Nat} (h : isW O L M p i = true) : tkK O L M p = 1 ∧ tkW O L p = rvW i := by
  unfold isW at h
  rw [Bool.and_eq_true, beq_iff_eq, beq_iff_eq] at h
  exact h
theorem tkA_lt (O : Nat → Nat) {L M p : Nat} (hL : L ≤ 940) (hp : p ≤ L) : tkA O L M p ≤ 940 := by
  have := tkQ_le O hp
  unfold tkA
  split <;> omega
theorem l_person {O : Nat → Nat} {by_ ta : Nat → Int32} (h : ∀ k, k < 940 → O k < 256 ∧ by_ k = sbT (O k)) (h2 : ∀ k, k < 940 → O k < 256 ∧ ta k = sbT (O k)) {L M p : Nat} (hL : L ≤ 940) (hM : M ≤ 940) (hp : p ≤ L) {ps nu : Int32} {na : Int64} {to : Int32} (hc : cTk O L M p ps nu na to) {mp mat mto : Int32} {mwo : Int64} {mnu : Int32} (hm : mTk O L M p mp mat mto mwo mnu) {T : tT} (hw : twf T) {pe de la too : Int32} {bo di li le br ye lg bg ei : Nat → Int32} (hr : rC T pe de la too bo di li le br ye lg bg ei) {hh : Nat → Int32} (hrm : rM T hh) {pn dn mn rs : Nat → Int64} (hrs : resI rs) (hpn : nmsR (T 0 0) 40 pn mn) (hdn : nmsR (T 1 0) 50 dn mn) (X : Nat) (ki pl fa fat sp got hl : Int32) (hW : isW O L M p 0 = true) : ∃ q1, dn_X6_readPerson ki pl (nI L) to (nI (tkA O L M p)) nu na ps (nI (min L M)) by_ pe de bo dn di li pn = some q1 ∧ ∃ q2, dn_X12_line (nI L) mp (nI M) mto mat sp mnu fa fat mwo got (nI X) hl hh mn rs ta = some q2 ∧ ((∃ T' pS mn', twf T' ∧ q1.1 = true ∧ q1.2.1 = nI (tkE O L pS) ∧ q1.2.2.2.2.2.2.1 = ki ∧ q1.2.2.2.2.2.2.2.1 = pl ∧ rC T' q1.2.2.2.2.2.2.2.2.2.2.2.2 de la too q1.2.2.2.2.2.2.2.2.2.1 q1.2.2.2.2.2.2.2.2.2.2.1 q1.2.2.2.2.2.2.2.2.2.2.2.1 le br ye lg bg ei ∧ nmsR (T' 0 0) 40 q1.2.2.2.2.2.2.2.2.1 mn' ∧ nmsR (T' 1 0) 50 dn mn' ∧ tellT T' = tellT T ∧ p < pS ∧ pS ≤ L ∧ tkK O L M pS = 3 ∧ mDone O L M pS fa fat T' X hl mn' q2) ∨ (∃ f a, q1.1 = false ∧ q1.2.2.2.2.2.2.1 = nI f ∧ q1.2.2.2.2.2.2.2.1 = nI a ∧ f ≤ 4 ∧ a ≤ 940 ∧ mFail L M ta q2 f a)) := by
  obtain ⟨k1, k2⟩ := isW_1 hW
  have hps := (hc.2.1 k1).2.1
  have hmp := (hm.2.2.1 k1).1
  obtain ⟨e1, e2, e3, e4⟩ := tkE_le hp (Or.inl k1)
  have hn := hw.p
  have hd := hw.d
  have hh0 := hrm.1.1
  have hh1 := hrm.1.2.1
  have hA := tkA_lt O (M := M) hL hp
  unfold dn_X6_readPerson dn_X12_line
  rw [m_isWord hm (i := 0) (by omega) (show (123581014175598 : Int64) = lN (n256 (rvW 0)) from by decide), hW, Option.bind_some, if_pos rfl, show (0 : Int32).toNatClampNeg = 0 from rfl, hh0, hr.1, hr.2.1, hps, hmp]
  simp only [show (10 : Int32) = nI 10 from rfl, pz_lt (show T 0 0 < 2 ^ 31 by omega) (show 10 < 2 ^ 31 by omega), pz_eq (show T 0 0 < 2 ^ 31 by omega) (show 10 < 2 ^ 31 by omega)]
  by_cases c0 : T 0 0 = 10
  · rw [if_neg (show ¬ T 0 0 < 10 by omega), if_pos c0]
    unfold dn_X6_refuse dn_X12_bad
    exact ⟨_, rfl, _, rfl, Or.inr ⟨4, tkA O L M p, rfl, rfl, rfl, by omega, hA, Or.inl ⟨rfl, rfl, hm.1⟩⟩⟩
  · obtain ⟨mp1, mat1, sp1, mto1, mwo1, mnu1, s1, hm1⟩ := m_skip h2 (M := M) hL hM e2 mto mat sp mnu mwo
    have hA1 := tkA_lt O (M := M) hL e2
    rw [if_pos (show T 0 0 < 10 by omega), if_neg c0, s1, Option.bind_some, show (40 : Int32) = nI 40 from rfl, nI_add]
    obtain ⟨n1, n2, n3⟩ := c_new h (M := M) hL e2 hn hd hpn hdn ki pl to (nI (tkA O L M p)) nu na
    obtain ⟨f1, f2, f3⟩ := m_fresh h2 hL hM e2 hm1 hn hd hh0 hh1 hrs (to := 40 + T 0 0) (by omega) sp1 fa fat
    cases hN : isN O L M (tkE O L p) with
    | false =>
      obtain ⟨_, _, _, _, g⟩ := n3 hN
      rw [g, Option.bind_some, if_neg Bool.false_ne_true]
      simp only
      rw [f3 hN, Option.bind_some, if_neg Bool.false_ne_true]
      exact ⟨_, rfl, _, rfl, Or.inr ⟨1, tkA O L M (tkE O L p), rfl, rfl, rfl, by omega, hA1, Or.inl ⟨rfl, rfl, rfl⟩⟩⟩
    | true =>
      by_cases c1 : whoP O L (tkE O L p) mn (T 0 0) = none ∧ whoD O L (tkE O L p) mn 50 (T 1 0) = none
      · have k3 := isN_1 hN
        obtain ⟨e5, e6, e7, e8⟩ := tkE_le e2 (Or.inl k3)
        have hA2 := tkA_lt O (M := M) hL e6
        obtain ⟨nu2, to2, g⟩ := n1 hN c1.1 c1.2
        obtain ⟨mp2, mat2, sp2, mto2, mwo2, mnu2, g2, hm2⟩ := f1 hN c1.1 c1.2
        rw [g, Option.bind_some, if_pos rfl]
        simp only
        rw [g2, Option.bind_some, if_pos rfl]
        simp only
        obtain ⟨a1, a2⟩ := c_numX h h2 hL hM e6 (lo := 0) (hi := 59) (by omega) (by omega) (x := 0) (y := 59) rfl rfl ki pl to2 (nI (tkA O L M (tkE O L p))) nu2 (lN (n32 (tkW O L (tkE O L p))))
        obtain ⟨b1, b2⟩ := m_numX h h2 hL hM e6 hm2 (lo := 0) (hi := 59) (by omega) (by omega) (x := 0) (y := 59) rfl rfl sp2 fa fat got
        by_cases c2 : numOK O L M (tkE O L (tkE O L p)) 0 59
        · obtain ⟨na3, to3, g3⟩ := a1 c2
          obtain ⟨mp3, mat3, sp3, mto3, mwo3, mnu3, g4, hm3⟩ := b1 c2
          obtain ⟨e9, e10, e11, e12⟩ := tkE_le e6 (Or.inr (Or.inl c2.1))
          have hA3 := tkA_lt O (M := M) hL e10
          rw [g3, Option.bind_some, if_pos rfl]
          simp only
          rw [g4, Option.bind_some, if_pos rfl]
          simp only
          obtain ⟨a3, a4⟩ := c_numX h h2 hL hM e10 (lo := tkV O L (tkE O L (tkE O L p))) (hi := 59) (by have := c2.2.2; omega) (by omega) (x := nI (tkV O L (tkE O L (tkE O L p)))) (y := 59) rfl rfl ki pl to3 (nI (tkA O L M (tkE O L (tkE O L p)))) (nI (tkV O L (tkE O L (tkE O L p)))) na3
          obtain ⟨b3, b4⟩ := m_numX h h2 hL hM e10 hm3 (lo := tkV O L (tkE O L (tkE O L p))) (hi := 59) (by have := c2.2.2; omega) (by omega) (x := nI (tkV O L (tkE O L (tkE O L p)))) (y := 59) rfl rfl sp3 fa fat (nI (tkV O L (tkE O L (tkE O L p))))
          rw [show (4 : Int32) = nI 4 from rfl, nI_add, inb_nI (show 4 + T 0 0 < 224 by omega) (by omega), if_pos rfl, show (14 : Int32) = nI 14 from rfl, nI_add, show (24 : Int32) = nI 24 from rfl, nI_add]
          by_cases c3 : numOK O L M (tkE O L (tkE O L (tkE O L p))) (tkV O L (tkE O L (tkE O L p))) 59
          · obtain ⟨na4, to4, g5⟩ := a3 c3
            obtain ⟨mp4, mat4, sp4, mto4, mwo4, mnu4, g6, hm4⟩ := b3 c3
            obtain ⟨e13, e14, e15, e16⟩ := tkE_le e10 (Or.inr (Or.inl c3.1))
            have hA4 := tkA_lt O (M := M) hL e14
            rw [g5, Option.bind_some, if_pos rfl]
            simp only
            rw [g6, Option.bind_some, if_pos rfl, inb_nI (show 14 + T 0 0 < 224 by omega) (by omega), if_pos rfl, inb_nI (show 24 + T 0 0 < 224 by omega) (by omega), if_pos rfl, nI_clamp (show 4 + T 0 0 < 2 ^ 31 by omega), nI_clamp (show 14 + T 0 0 < 2 ^ 31 by omega), nI_clamp (show 24 + T 0 0 < 2 ^ 31 by omega)]
            have hadd : dn_X10_addPerson (nI (T 0 0)) bo di li pn (lN (n32 (tkW O L (tkE O L p)))) (nI (tkV O L (tkE O L (tkE O L p)))) (nI (tkV O L (tkE O L (tkE O L (tkE O L p))))) = some (vp_updL pn (T 0 0) (lN (n32 (tkW O L (tkE O L p)))), upd bo (T 0 0) (nI (tkV O L (tkE O L (tkE O L p)))), upd di (T 0 0) (nI (tkV O L (tkE O L (tkE O L (tkE O L p))))), upd li (T 0 0) 9, nI (T 0 0 + 1)) := by
              unfold dn_X10_addPerson
              rw [if_pos (show nI (T 0 0) < 10 from nI_lt (b := 10) (by omega) (by omega)), inb_nI (show T 0 0 < 10 by omega) (by omega), if_pos rfl, if_pos rfl, if_pos rfl, if_pos rfl, nI_clamp (by omega), nI_1]
            rw [hadd, Option.bind_some]
            simp only
            have hT' := adP_wf hw (b := tkV O L (tkE O L (tkE O L p))) (d := tkV O L (tkE O L (tkE O L (tkE O L p)))) (by omega) c2.2.2 c3.2.2
            have hM' := adP_M hw (by omega) hrm (tkV O L (tkE O L (tkE O L p))) (tkV O L (tkE O L (tkE O L (tkE O L p))))
            have hC' := adP_C hw hr (tkV O L (tkE O L (tkE O L p))) (tkV O L (tkE O L (tkE O L (tkE O L p))))
            rw [hr.2.1] at hC'
            have hu0 : upd (upd (upd hh (4 + T 0 0) (nI (tkV O L (tkE O L (tkE O L p))))) (14 + T 0 0) (nI (tkV O L (tkE O L (tkE O L (tkE O L p)))))) (24 + T 0 0) 9 0 = nI (T 0 0) := by
              rw [pk_un (by omega), pk_un (by omega), pk_un (by omega), hh0]
            rw [hu0, nI_1]
            have hdone : mDone O L M (tkE O L (tkE O L (tkE O L (tkE O L p)))) fa fat (adP T (tkV O L (tkE O L (tkE O L p))) (tkV O L (tkE O L (tkE O L (tkE O L p))))) X hl (vp_updL mn (40 + T 0 0) (lN (n256 (tkW O L (tkE O L p))))) (true, fa, fat, hl, mp4, mat4, sp4, mto4, mwo4, mnu4, nI (tkV O L (tkE O L (tkE O L (tkE O L p)))), upd (upd (upd (upd hh (4 + T 0 0) (nI (tkV O L (tkE O L (tkE O L p))))) (14 + T 0 0) (nI (tkV O L (tkE O L (tkE O L (tkE O L p)))))) (24 + T 0 0) 9) 0 (nI (T 0 0 + 1)), vp_updL mn (40 + T 0 0) (lN (n256 (tkW O L (tkE O L p)))), nI X) := ⟨rfl, rfl, rfl, rfl, hm4, hM', rfl, rfl⟩
            obtain ⟨z1, z2⟩ := c_semi h (M := M) hL e14 ki pl to4 (nI (tkA O L M (tkE O L (tkE O L (tkE O L p))))) (nI (tkV O L (tkE O L (tkE O L (tkE O L p))))) na4
            by_cases c4 : tkK O L M (tkE O L (tkE O L (tkE O L (tkE O L p)))) = 3
            · obtain ⟨nu5, na5, to5, g7⟩ := z1 c4
              rw [g7, Option.bind_some]
              refine ⟨_, rfl, _, rfl, Or.inl ⟨_, tkE O L (tkE O L (tkE O L (tkE O L p))), _, hT', rfl, rfl, rfl, rfl, hC', ?_, ?_, (adP_told T _ _).2, by omega, e14, c4, hdone⟩⟩
              · rw [adP_0]
                exact nms_more hpn rfl (nm_tk k3)
              · rw [adP_1 _ _ _ _ _ (by omega) (by omega)]
                exact nms_same hdn (Or.inl (by omega)) _
            · obtain ⟨ps5, nu5, na5, to5, g7⟩ := z2 c4
              rw [g7, Option.bind_some]
              exact ⟨_, rfl, _, rfl, Or.inr ⟨1, _, rfl, rfl, rfl, by omega, hA4, mFail_sign h h2 hL hM e14 hdone c4⟩⟩
          · obtain ⟨ps4, nu4, na4, to4, g5⟩ := a4 c3
            rw [g5, Option.bind_some, if_neg Bool.false_ne_true]
            simp only
            rw [b4 c3, Option.bind_some, if_neg Bool.false_ne_true]
            exact ⟨_, rfl, _, rfl, Or.inr ⟨_, _, rfl, rfl, rfl, by unfold numF; split <;> omega, hA3, Or.inl ⟨rfl, rfl, rfl⟩⟩⟩
        · obtain ⟨ps3, nu3, na3, to3, g3⟩ := a2 c2
          rw [g3, Option.bind_some, if_neg Bool.false_ne_true]
          rw [b2 c2, Option.bind_some, if_neg Bool.false_ne_true]
          exact ⟨_, rfl, _, rfl, Or.inr ⟨_, _, rfl, rfl, rfl, by unfold numF; split <;> omega, hA2, Or.inl ⟨rfl, rfl, rfl⟩⟩⟩
      · obtain ⟨_, _, _, _, g⟩ := n2 hN c1
        rw [g, Option.bind_some, if_neg Bool.false_ne_true]
        simp only
        rw [f2 hN c1, Option.bind_some, if_neg Bool.false_ne_true]
        exact ⟨_, rfl, _, rfl, Or.inr ⟨3, tkA O L M (tkE O L p), rfl, rfl, rfl, by omega, hA1, Or.inl ⟨rfl, rfl, rfl⟩⟩⟩
