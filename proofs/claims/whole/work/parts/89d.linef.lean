/-! ===== pure rows: the line of a DEAL: both sides joined ===== -/
theorem c_lo {T : tT} (hw : twf T) {a b : Nat} (ha : a < T 0 0) (hb : b < T 0 0) : (if nI (T 4 a) < nI (T 4 b) then nI (T 4 b) else nI (T 4 a)) = nI (loT T a b) := by
  have h1 := hw.ps ha
  have h2 := hw.ps hb
  simp only [pz_lt (show T 4 a < 2 ^ 31 by omega) (show T 4 b < 2 ^ 31 by omega)]
  unfold loT
  split <;> rfl
theorem c_hi {T : tT} (hw : twf T) {a b : Nat} (ha : a < T 0 0) (hb : b < T 0 0) : (if nI (T 5 b) < nI (T 5 a) then nI (T 5 b) else nI (T 5 a)) = nI (hiT T a b) := by
  have h1 := hw.ps ha
  have h2 := hw.ps hb
  simp only [pz_lt (show T 5 b < 2 ^ 31 by omega) (show T 5 a < 2 ^ 31 by omega)]
  unfold hiT
  split <;> rfl
theorem lh_le {T : tT} (hw : twf T) {a b : Nat} (ha : a < T 0 0) (hb : b < T 0 0) : loT T a b ≤ 59 ∧ hiT T a b ≤ 59 := by
  have h1 := hw.ps ha
  have h2 := hw.ps hb
  unfold loT hiT
  constructor
  · split <;> omega
  · split <;> omega
theorem l_deal {O : Nat → Nat} {by_ ta : Nat → Int32} (h : ∀ k, k < 940 → O k < 256 ∧ by_ k = sbT (O k)) (h2 : ∀ k, k < 940 → O k < 256 ∧ ta k = sbT (O k)) {L M p : Nat} (hL : L ≤ 940) (hM : M ≤ 940) (hp : p ≤ L) {ps nu : Int32} {na : Int64} {to : Int32} (hc : cTk O L M p ps nu na to) {mp mat mto : Int32} {mwo : Int64} {mnu : Int32} (hm : mTk O L M p mp mat mto mwo mnu) {T : tT} (hw : twf T) {pe de la too : Int32} {bo di li le br ye lg bg ei : Nat → Int32} (hr : rC T pe de la too bo di li le br ye lg bg ei) {hh : Nat → Int32} (hrm : rM T hh) {pn dn mn rs : Nat → Int64} (hrs : resI rs) (hpn : nmsR (T 0 0) 40 pn mn) (hdn : nmsR (T 1 0) 50 dn mn) (X : Nat) (ki pl fa fat sp got hl : Int32) (hW : isW O L M p 2 = true) : ∃ q14, dn_X6_readDeal ki pl (nI L) to (nI (tkA O L M p)) nu na ps (nI (min L M)) by_ pe de bo br dn di le pn ye = some q14 ∧ ∃ q2, dn_X12_line (nI L) mp (nI M) mto mat sp mnu fa fat mwo got (nI X) hl hh mn rs ta = some q2 ∧ ((q14.1 = true ∧ ∃ q16, dn_X6_readGains q14.2.2.2.2.2.2.1 q14.2.2.2.2.2.2.2.1 (nI L) q14.2.2.2.2.2.1 q14.2.2.1 q14.2.2.2.1 q14.2.2.2.2.1 q14.2.1 (nI (min L M)) by_ de bg ei lg de = some q16 ∧ ((∃ T' pS mn', twf T' ∧ q16.1 = true ∧ q16.2.1 = nI (tkE O L pS) ∧ q16.2.2.2.2.2.2.1 = ki ∧ q16.2.2.2.2.2.2.2.1 = pl ∧ rC T' pe q16.2.2.2.2.2.2.2.2.2.2.2 la too bo di li q14.2.2.2.2.2.2.2.2.2.1 q14.2.2.2.2.2.2.2.2.2.2.1 q14.2.2.2.2.2.2.2.2.2.2.2 q16.2.2.2.2.2.2.2.2.1 q16.2.2.2.2.2.2.2.2.2.1 q16.2.2.2.2.2.2.2.2.2.2.1 ∧ nmsR (T' 0 0) 40 pn mn' ∧ nmsR (T' 1 0) 50 q14.2.2.2.2.2.2.2.2.1 mn' ∧ tellT T' = tellT T ∧ p < pS ∧ pS ≤ L ∧ tkK O L M pS = 3 ∧ mDone O L M pS fa fat T' X hl mn' q2) ∨ (∃ f a, q16.1 = false ∧ q16.2.2.2.2.2.2.1 = nI f ∧ q16.2.2.2.2.2.2.2.1 = nI a ∧ f ≤ 4 ∧ a ≤ 940 ∧ mFail L M ta q2 f a))) ∨ (∃ f a, q14.1 = false ∧ q14.2.2.2.2.2.2.1 = nI f ∧ q14.2.2.2.2.2.2.2.1 = nI a ∧ f ≤ 4 ∧ a ≤ 940 ∧ mFail L M ta q2 f a)) := by
  obtain ⟨k1, k2⟩ := isW_1 hW
  have hps := (hc.2.1 k1).2.1
  have hmp := (hm.2.2.1 k1).1
  obtain ⟨e1, e2, e3, e4⟩ := tkE_le hp (Or.inl k1)
  have hn := hw.p
  have hd := hw.d
  have hh0 := hrm.1.1
  have hh1 := hrm.1.2.1
  have hA := tkA_lt O (M := M) hL hp
  have hA1 := tkA_lt O (M := M) hL e2
  have w0 := isW_ne hW (j := 0) (by decide)
  have w1 := isW_ne hW (j := 1) (by decide)
  unfold dn_X6_readDeal dn_X12_line dn_X12_readDeal
  rw [m_isWord hm (i := 0) (by omega) (show (123581014175598 : Int64) = lN (n256 (rvW 0)) from by decide), w0, Option.bind_some, if_neg Bool.false_ne_true, m_isWord hm (i := 1) (by omega) (show (465625246068 : Int64) = lN (n256 (rvW 1)) from by decide), w1, Option.bind_some, if_neg Bool.false_ne_true, m_isWord hm (i := 2) (by omega) (show (1684365676 : Int64) = lN (n256 (rvW 2)) from by decide), hW, Option.bind_some, if_pos rfl, show (1 : Int32).toNatClampNeg = 1 from rfl, hh1, hr.1, hr.2.1, hps, hmp]
  simp only [show (30 : Int32) = nI 30 from rfl, pz_lt (show T 1 0 < 2 ^ 31 by omega) (show 30 < 2 ^ 31 by omega), pz_eq (show T 1 0 < 2 ^ 31 by omega) (show 30 < 2 ^ 31 by omega)]
  by_cases c0 : T 1 0 = 30
  · rw [if_neg (show ¬ T 1 0 < 30 by omega), if_pos c0]
    unfold dn_X6_refuse dn_X12_bad
    exact ⟨_, rfl, _, rfl, Or.inr ⟨4, tkA O L M p, rfl, rfl, rfl, by omega, hA, Or.inl ⟨rfl, rfl, hm.1⟩⟩⟩
  · have hd30 : T 1 0 < 30 := by omega
    obtain ⟨mp1, mat1, sp1, mto1, mwo1, mnu1, s1, hm1⟩ := m_skip h2 (M := M) hL hM e2 mto mat sp mnu mwo
    rw [if_pos hd30, if_neg c0, s1, Option.bind_some, show (50 : Int32) = nI 50 from rfl, nI_add]
    obtain ⟨n1, n2, n3⟩ := c_new h (M := M) hL e2 hn hd hpn hdn ki pl to (nI (tkA O L M p)) nu na
    obtain ⟨f1, f2, f3⟩ := m_fresh h2 hL hM e2 hm1 hn hd hh0 hh1 hrs (to := 50 + T 1 0) (by omega) sp1 fa fat
    cases hN : isN O L M (tkE O L p) with
    | false =>
      obtain ⟨_, _, _, _, g⟩ := n3 hN
      rw [g, Option.bind_some, if_neg Bool.false_ne_true]
      simp only
      rw [f3 hN, Option.bind_some, if_neg Bool.false_ne_true]
      exact ⟨_, rfl, _, rfl, Or.inr ⟨1, tkA O L M (tkE O L p), rfl, rfl, rfl, by omega, hA1, Or.inl ⟨rfl, rfl, rfl⟩⟩⟩
    | true =>
      by_cases c1 : whoP O L (tkE O L p) mn (T 0 0) = none ∧ whoD O L (tkE O L p) mn 50 (T 1 0) = none
      · have k3 := isN_1 hN
        obtain ⟨e5, e6, e7, e8⟩ := tkE_le e2 (Or.inl k3)
        have hA2 := tkA_lt O (M := M) hL e6
        obtain ⟨nu2, to2, g⟩ := n1 hN c1.1 c1.2
        obtain ⟨mp2, mat2, sp2, mto2, mwo2, mnu2, g2, hm2⟩ := f1 hN c1.1 c1.2
        rw [g, Option.bind_some, if_pos rfl, inb_nI hd30 (by omega), if_pos rfl, nI_clamp (show T 1 0 < 2 ^ 31 by omega)]
        simp only
        rw [g2, Option.bind_some, if_pos rfl]
        simp only
        have hpn' : nmsR (T 0 0) 40 pn (vp_updL mn (50 + T 1 0) (lN (n256 (tkW O L (tkE O L p))))) := nms_same hpn (Or.inr (by omega)) _
        have hdn' : nmsR (T 1 0 + 1) 50 (vp_updL dn (T 1 0) (lN (n32 (tkW O L (tkE O L p))))) (vp_updL mn (50 + T 1 0) (lN (n256 (tkW O L (tkE O L p))))) := nms_more hdn rfl (nm_tk k3)
        obtain ⟨mn', hmn'⟩ : ∃ mn', mn' = vp_updL mn (50 + T 1 0) (lN (n256 (tkW O L (tkE O L p)))) := ⟨_, rfl⟩
        rw [← hmn'] at hpn' hdn' ⊢
        obtain ⟨kn1, kn2, kn3⟩ := c_known h (M := M) hL e6 hn hpn' ki pl to2 (nI (tkA O L M (tkE O L p))) nu2 (lN (n32 (tkW O L (tkE O L p))))
        obtain ⟨tp1, tp2, tp3⟩ := m_takesP h2 hL hM e6 hm2 hn hh0 (mn := mn') hrs sp2 fa fat got (-1)
        cases hN2 : isN O L M (tkE O L (tkE O L p)) with
        | false =>
          obtain ⟨_, _, _, _, g3⟩ := kn3 hN2
          obtain ⟨_, g4⟩ := tp3 hN2
          rw [g3, Option.bind_some, if_pos rfl, g4, Option.bind_some, if_neg Bool.false_ne_true]
          exact ⟨_, rfl, _, rfl, Or.inr ⟨1, tkA O L M (tkE O L (tkE O L p)), rfl, rfl, rfl, by omega, hA2, Or.inl ⟨rfl, rfl, rfl⟩⟩⟩
        | true =>
          cases hwa : whoP O L (tkE O L (tkE O L p)) mn' (T 0 0) with
          | none =>
            obtain ⟨_, _, _, _, g3⟩ := kn2 hN2 hwa
            obtain ⟨_, g4⟩ := tp2 hN2 (Or.inl hwa)
            rw [g3, Option.bind_some, if_pos rfl, g4, Option.bind_some, if_neg Bool.false_ne_true]
            exact ⟨_, rfl, _, rfl, Or.inr ⟨3, tkA O L M (tkE O L (tkE O L p)), rfl, rfl, rfl, by omega, hA2, Or.inl ⟨rfl, rfl, rfl⟩⟩⟩
          | some a =>
            have ha := foI_some hwa
            have k4 := isN_1 hN2
            obtain ⟨e9, e10, e11, e12⟩ := tkE_le e6 (Or.inl k4)
            have hA3 := tkA_lt O (M := M) hL e10
            have na1 : ¬ nI a = -1 := by rw [pz_n0 (by omega)]; exact id
            obtain ⟨nu3, na3, to3, g3⟩ := kn1 hN2 a hwa
            obtain ⟨mp3, mat3, sp3, mto3, mwo3, mnu3, g4, hm3⟩ := tp1 hN2 a hwa na1
            rw [g3, Option.bind_some, if_neg na1, g4, Option.bind_some, if_pos rfl]
            simp only
            obtain ⟨kq1, kq2, kq3⟩ := c_known h (M := M) hL e10 hn hpn' ki pl to3 (nI (tkA O L M (tkE O L (tkE O L p)))) nu3 na3
            obtain ⟨tq1, tq2, tq3⟩ := m_takesP h2 hL hM e10 hm3 hn hh0 (mn := mn') hrs sp3 fa fat (nI a) (nI a)
            cases hN3 : isN O L M (tkE O L (tkE O L (tkE O L p))) with
            | false =>
              obtain ⟨_, _, _, _, g5⟩ := kq3 hN3
              obtain ⟨_, g6⟩ := tq3 hN3
              rw [g5, Option.bind_some, if_pos rfl, g6, Option.bind_some, if_neg Bool.false_ne_true]
              exact ⟨_, rfl, _, rfl, Or.inr ⟨1, tkA O L M (tkE O L (tkE O L (tkE O L p))), rfl, rfl, rfl, by omega, hA3, Or.inl ⟨rfl, rfl, rfl⟩⟩⟩
            | true =>
              cases hwb : whoP O L (tkE O L (tkE O L (tkE O L p))) mn' (T 0 0) with
              | none =>
                obtain ⟨_, _, _, _, g5⟩ := kq2 hN3 hwb
                obtain ⟨_, g6⟩ := tq2 hN3 (Or.inl hwb)
                rw [g5, Option.bind_some, if_pos rfl, g6, Option.bind_some, if_neg Bool.false_ne_true]
                exact ⟨_, rfl, _, rfl, Or.inr ⟨3, tkA O L M (tkE O L (tkE O L (tkE O L p))), rfl, rfl, rfl, by omega, hA3, Or.inl ⟨rfl, rfl, rfl⟩⟩⟩
              | some b =>
                have hb := foI_some hwb
                have nb1 : ¬ nI b = -1 := by rw [pz_n0 (by omega)]; exact id
                obtain ⟨nu4, na4, to4, g5⟩ := kq1 hN3 b hwb
                rw [g5, Option.bind_some, if_neg nb1]
                by_cases cab : nI b = nI a
                · obtain ⟨_, g6⟩ := tq2 hN3 (Or.inr ⟨b, hwb, cab⟩)
                  rw [if_pos cab, g6, Option.bind_some, if_neg Bool.false_ne_true]
                  unfold dn_X6_refuse
                  exact ⟨_, rfl, _, rfl, Or.inr ⟨3, tkA O L M (tkE O L (tkE O L (tkE O L p))), rfl, rfl, rfl, by omega, hA3, Or.inl ⟨rfl, rfl, rfl⟩⟩⟩
                · have hab : a ≠ b := fun x => cab (by rw [x])
                  have k5 := isN_1 hN3
                  obtain ⟨e13, e14, e15, e16⟩ := tkE_le e10 (Or.inl k5)
                  have hA4 := tkA_lt O (M := M) hL e14
                  obtain ⟨mp4, mat4, sp4, mto4, mwo4, mnu4, g6, hm4⟩ := tq1 hN3 b hwb cab
                  obtain ⟨q1a, q2a⟩ := hr.2.2.2.2.1 a ha
                  obtain ⟨q1b, q2b⟩ := hr.2.2.2.2.1 b hb
                  have lh := lh_le hw ha hb
                  have m4a := (hrm.1.2.2.2.1 a ha).1
                  have m4b := (hrm.1.2.2.2.1 b hb).1
                  rw [if_neg cab, inb_nI (show a < 10 by omega) (by omega), inb_nI (show b < 10 by omega) (by omega), if_pos rfl, if_pos rfl, if_pos rfl, if_pos rfl, nI_clamp (show a < 2 ^ 31 by omega), nI_clamp (show b < 2 ^ 31 by omega), q1a, q1b, q2a.1, q2b.1, c_lo hw ha hb, c_hi hw ha hb, g6, Option.bind_some, if_pos rfl]
                  simp only
                  rw [show (4 : Int32) = nI 4 from rfl, nI_add, nI_add, inb_nI (show 4 + a < 224 by omega) (by omega), inb_nI (show 4 + b < 224 by omega) (by omega), if_pos rfl, if_pos rfl, if_pos rfl, if_pos rfl, nI_clamp (show 4 + a < 2 ^ 31 by omega), nI_clamp (show 4 + b < 2 ^ 31 by omega), m4a, m4b, m_dealLo hw ha hb, m_dealHi hw hrm ha hb, show (44 : Int32) = nI 44 from rfl, show (6 : Int32) = nI 6 from rfl, pk_mul, nI_add]
                  obtain ⟨z1, z2⟩ := m_deal1 h h2 hL hM e14 hm4 (d := T 1 0) (a := a) (b := b) (lo := loT T a b) (hi := hiT T a b) hd30 (by omega) (by omega) hh1 sp4 fa fat (nI b) mn'
                  obtain ⟨v1, v2⟩ := c_numX h h2 hL hM e14 (lo := loT T a b) (hi := hiT T a b) (by omega) (by omega) (x := nI (loT T a b)) (y := nI (hiT T a b)) rfl rfl ki pl to4 (nI (tkA O L M (tkE O L (tkE O L (tkE O L p))))) nu4 na4
                  by_cases c4 : numOK O L M (tkE O L (tkE O L (tkE O L (tkE O L p)))) (loT T a b) (hiT T a b)
                  · obtain ⟨na5, to5, g7⟩ := v1 c4
                    obtain ⟨z3, z4⟩ := z2 c4
                    obtain ⟨e17, e18, e19, e20⟩ := tkE_le e14 (Or.inr (Or.inl c4.1))
                    have hA5 := tkA_lt O (M := M) hL e18
                    obtain ⟨u1, u2⟩ := c_gains h h2 hL hM e18 (d := T 1 0) hd30 ki pl to5 (nI (tkA O L M (tkE O L (tkE O L (tkE O L (tkE O L p)))))) (nI (tkV O L (tkE O L (tkE O L (tkE O L (tkE O L p)))))) na5 lg bg ei
                    rw [g7, Option.bind_some, if_pos rfl, if_pos trivial, if_pos trivial, if_pos trivial]
                    refine ⟨_, rfl, ?_⟩
                    dsimp only
                    by_cases c5 : numOK O L M (tkE O L (tkE O L (tkE O L (tkE O L (tkE O L p))))) 0 99
                    · obtain ⟨z5, z6⟩ := z4 c5
                      obtain ⟨u3, u4⟩ := u2 c5
                      obtain ⟨e21, e22, e23, e24⟩ := tkE_le e18 (Or.inr (Or.inl c5.1))
                      have hA6 := tkA_lt O (M := M) hL e22
                      by_cases c6 : numOK O L M (tkE O L (tkE O L (tkE O L (tkE O L (tkE O L (tkE O L p)))))) 0 99
                      · obtain ⟨e25, e26, e27, e28⟩ := tkE_le e22 (Or.inr (Or.inl c6.1))
                        have fin : ∀ pS x, pS ≤ L → p < pS → x ≤ 1 → ((isW O L M (tkE O L (tkE O L (tkE O L (tkE O L (tkE O L (tkE O L (tkE O L p))))))) 3 = true ∧ x = 1 ∧ pS = tkE O L (tkE O L (tkE O L (tkE O L (tkE O L (tkE O L (tkE O L (tkE O L p)))))))) ∨ (isW O L M (tkE O L (tkE O L (tkE O L (tkE O L (tkE O L (tkE O L (tkE O L p))))))) 3 = false ∧ x = 0 ∧ pS = tkE O L (tkE O L (tkE O L (tkE O L (tkE O L (tkE O L (tkE O L p)))))))) → ∃ q2, Option.bind (gn_X12_readDeal_1 (nI L) (nI M) ta (nI (44 + 6 * T 1 0)) (nI a) (nI b) (nI (loT T a b)) (nI (hiT T a b)) mp4 mat4 sp4 mto4 mwo4 mnu4 fa fat mn' (nI b) hh) (fun q13 => some (q13.1, q13.2.2.2.2.2.2.2.1, q13.2.2.2.2.2.2.2.2.1, hl, q13.2.1, q13.2.2.1, q13.2.2.2.1, q13.2.2.2.2.1, q13.2.2.2.2.2.1, q13.2.2.2.2.2.2.1, q13.2.2.2.2.2.2.2.2.2.2.1, q13.2.2.2.2.2.2.2.2.2.2.2, q13.2.2.2.2.2.2.2.2.2.1, nI X)) = some q2 ∧ ∃ q16, dn_X6_readGains ki pl (nI L) to5 (nI (tkA O L M (tkE O L (tkE O L (tkE O L (tkE O L p)))))) (nI (tkV O L (tkE O L (tkE O L (tkE O L (tkE O L p)))))) na5 (nI (tkE O L (tkE O L (tkE O L (tkE O L (tkE O L p)))))) (nI (min L M)) by_ (nI (T 1 0)) bg ei lg (nI (T 1 0)) = some q16 ∧ ((∃ T' pS mn', twf T' ∧ q16.1 = true ∧ q16.2.1 = nI (tkE O L pS) ∧ q16.2.2.2.2.2.2.1 = ki ∧ q16.2.2.2.2.2.2.2.1 = pl ∧ rC T' (nI (T 0 0)) q16.2.2.2.2.2.2.2.2.2.2.2 la too bo di li (upd le (T 1 0) (nI a)) (upd br (T 1 0) (nI b)) (upd ye (T 1 0) (nI (tkV O L (tkE O L (tkE O L (tkE O L (tkE O L p))))))) q16.2.2.2.2.2.2.2.2.1 q16.2.2.2.2.2.2.2.2.2.1 q16.2.2.2.2.2.2.2.2.2.2.1 ∧ nmsR (T' 0 0) 40 pn mn' ∧ nmsR (T' 1 0) 50 (vp_updL dn (T 1 0) (lN (n32 (tkW O L (tkE O L p))))) mn' ∧ tellT T' = tellT T ∧ p < pS ∧ pS ≤ L ∧ tkK O L M pS = 3 ∧ mDone O L M pS fa fat T' X hl mn' q2) ∨ (∃ f a, q16.1 = false ∧ q16.2.2.2.2.2.2.1 = nI f ∧ q16.2.2.2.2.2.2.2.1 = nI a ∧ f ≤ 4 ∧ a ≤ 940 ∧ mFail L M ta q2 f a)) := by
                          intro pS x hpS hpS2 hx1 hx
                          obtain ⟨q, r1, r2, r3, r4, r5, r6, r7, r8, r9⟩ := z6 c6 pS x hx
                          obtain ⟨y1, y2⟩ := u4 c6 pS x hx
                          have hAS := tkA_lt O (M := M) hL hpS
                          have hdone : mDone O L M pS fa fat (adD T a b (tkV O L (tkE O L (tkE O L (tkE O L (tkE O L p))))) (tkV O L (tkE O L (tkE O L (tkE O L (tkE O L (tkE O L p)))))) (tkV O L (tkE O L (tkE O L (tkE O L (tkE O L (tkE O L (tkE O L p))))))) x) X hl mn' (q.1, q.2.2.2.2.2.2.2.1, q.2.2.2.2.2.2.2.2.1, hl, q.2.1, q.2.2.1, q.2.2.2.1, q.2.2.2.2.1, q.2.2.2.2.2.1, q.2.2.2.2.2.2.1, q.2.2.2.2.2.2.2.2.2.2.1, q.2.2.2.2.2.2.2.2.2.2.2, q.2.2.2.2.2.2.2.2.2.1, nI X) := ⟨r2, r3, r4, rfl, r6, adD_M hw hrm hd30 r7 r8 r9, r5, rfl⟩
                          rw [r1, Option.bind_some]
                          refine ⟨_, rfl, ?_⟩
                          by_cases cs : tkK O L M pS = 3
                          · obtain ⟨q16, t1, t2, t3, t4, t5, t6, t7, t8, t9⟩ := y1 cs
                            refine ⟨q16, t1, Or.inl ⟨_, pS, mn', adD_wf hw hd30 ha hb hab (by have := c4.2.2; omega) c5.2.2 c6.2.2 hx1, t2, t3, t4, t5, ?_, ?_, ?_, (adD_told T _ _ _ _ _ _).2, hpS2, hpS, cs, hdone⟩⟩
                            · rw [t6, t7, t8, t9, ← hr.1]
                              exact adD_C hr _ _ _ _ _ _
                            · rw [adD_n T (by omega) (by omega)]; exact hpn'
                            · rw [adD_1]; exact hdn'
                          · obtain ⟨q16, t1, t2, t3, t4⟩ := y2 cs
                            exact ⟨q16, t1, Or.inr ⟨1, _, t2, t3, t4, by omega, hAS, mFail_sign h h2 hL hM hpS hdone cs⟩⟩
                        obtain ⟨pS, x, f1, f2, f3, f4⟩ : ∃ pS x, pS ≤ L ∧ p < pS ∧ x ≤ 1 ∧ ((isW O L M (tkE O L (tkE O L (tkE O L (tkE O L (tkE O L (tkE O L (tkE O L p))))))) 3 = true ∧ x = 1 ∧ pS = tkE O L (tkE O L (tkE O L (tkE O L (tkE O L (tkE O L (tkE O L (tkE O L p)))))))) ∨ (isW O L M (tkE O L (tkE O L (tkE O L (tkE O L (tkE O L (tkE O L (tkE O L p))))))) 3 = false ∧ x = 0 ∧ pS = tkE O L (tkE O L (tkE O L (tkE O L (tkE O L (tkE O L (tkE O L p)))))))) := by
                          cases x3 : isW O L M (tkE O L (tkE O L (tkE O L (tkE O L (tkE O L (tkE O L (tkE O L p))))))) 3 with
                          | true =>
                            obtain ⟨e29, e30, _⟩ := tkE_le e26 (Or.inl (isW_1 x3).1)
                            exact ⟨_, 1, e30, by omega, by omega, Or.inl ⟨rfl, rfl, rfl⟩⟩
                          | false => exact ⟨_, 0, e26, by omega, by omega, Or.inr ⟨rfl, rfl, rfl⟩⟩
                        obtain ⟨q2, y1, q16, y2, y3⟩ := fin pS x f1 f2 f3 f4
                        exact ⟨q2, y1, Or.inl ⟨rfl, q16, y2, y3⟩⟩
                      · obtain ⟨q, r1, r2, r3, r4⟩ := z5 c6
                        obtain ⟨q16, t1, t2, t3, t4⟩ := u3 c6
                        rw [r1, Option.bind_some]
                        exact ⟨_, rfl, Or.inl ⟨rfl, q16, t1, Or.inr ⟨_, _, t2, t3, t4, by unfold numF; split <;> omega, hA6, Or.inl ⟨r2, r3, r4⟩⟩⟩⟩
                    · obtain ⟨q, r1, r2, r3, r4⟩ := z3 c5
                      obtain ⟨q16, t1, t2, t3, t4⟩ := u1 c5
                      rw [r1, Option.bind_some]
                      exact ⟨_, rfl, Or.inl ⟨rfl, q16, t1, Or.inr ⟨_, _, t2, t3, t4, by unfold numF; split <;> omega, hA5, Or.inl ⟨r2, r3, r4⟩⟩⟩⟩
                  · obtain ⟨_, _, _, _, g7⟩ := v2 c4
                    obtain ⟨q, r1, r2, r3, r4⟩ := z1 c4
                    rw [g7, Option.bind_some, if_neg Bool.false_ne_true, r1, Option.bind_some]
                    exact ⟨_, rfl, _, rfl, Or.inr ⟨_, _, rfl, rfl, rfl, by unfold numF; split <;> omega, hA4, Or.inl ⟨r2, r3, r4⟩⟩⟩
      · obtain ⟨_, _, _, _, g⟩ := n2 hN c1
        rw [g, Option.bind_some, if_neg Bool.false_ne_true]
        simp only
        rw [f2 hN c1, Option.bind_some, if_neg Bool.false_ne_true]
        exact ⟨_, rfl, _, rfl, Or.inr ⟨3, tkA O L M (tkE O L p), rfl, rfl, rfl, by omega, hA1, Or.inl ⟨rfl, rfl, rfl⟩⟩⟩
