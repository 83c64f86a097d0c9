/-! ===== pure rows: the line of a part ===== -/
theorem upT7_wf {T : tT} (hw : twf T) {k v : Nat} (hv : v ≤ 2) : twf (upT T 7 k v) := by
  refine ⟨by rw [upT_n T (by omega)]; exact hw.p, by rw [upT_n T (by omega)]; exact hw.d, by rw [upT_n T (by omega)]; exact hw.n, fun p hp => ?_, fun d hd => ?_⟩
  · rw [upT_n T (by omega)] at hp
    have := hw.ps hp
    rw [upT_n T (f := 4) (by omega), upT_n T (f := 5) (by omega), upT_n T (f := 6) (by omega)]
    by_cases c : p = k
    · subst c; rw [upT_s]; omega
    · rw [upT_n T (by omega)]; exact this
  · rw [upT_n T (by omega)] at hd
    obtain ⟨a, b, c, e, f, g⟩ := upT_ds T (f0 := 7) (i0 := k) (v := v) (by omega) d
    rw [a, b, c, e, f, g, upT_n T (by omega)]
    exact hw.ds hd
theorem upT7_tell {T : tT} {k v : Nat} (hk : k < T 0 0) (hv : v ≠ 0) : tellT (upT T 7 k v) = tellT T ||| 2 ^ k := by
  apply Nat.eq_of_testBit_eq
  intro i
  have e0 : upT T 7 k v 0 0 = T 0 0 := upT_n T (by omega)
  have e1 : (tellT (upT T 7 k v)).testBit i = (decide (i < T 0 0) && decide (upT T 7 k v 7 i ≠ 0)) := by
    unfold tellT
    rw [e0, bs_bit]
  have e2 : (tellT T).testBit i = (decide (i < T 0 0) && decide (T 7 i ≠ 0)) := by
    unfold tellT
    rw [bs_bit]
  rw [e1, Nat.testBit_or, e2, Nat.testBit_two_pow]
  by_cases c : i = k
  · subst c
    rw [upT_s]
    simp [hk, hv]
  · rw [upT_n T (by omega)]
    simp [show ¬ k = i from fun x => c x.symm]
theorem upT7_told {T : tT} {k v : Nat} (hk : k < T 0 0) (h0 : T 7 k = 0) (hv : v = 1 ∨ v = 2) : toldT (upT T 7 k v) = if v = 2 then toldT T ||| 2 ^ k else toldT T := by
  have e0 : upT T 7 k v 0 0 = T 0 0 := upT_n T (by omega)
  apply Nat.eq_of_testBit_eq
  intro i
  have e1 : (toldT (upT T 7 k v)).testBit i = (decide (i < T 0 0) && (upT T 7 k v 7 i == 2)) := by
    unfold toldT
    rw [e0, bs_bit]
  have e2 : (toldT T).testBit i = (decide (i < T 0 0) && (T 7 i == 2)) := by
    unfold toldT
    rw [bs_bit]
  have e3 : (if v = 2 then toldT T ||| 2 ^ k else toldT T).testBit i = if v = 2 then ((toldT T).testBit i || decide (k = i)) else (toldT T).testBit i := by
    by_cases c : v = 2
    · rw [if_pos c, if_pos c, Nat.testBit_or, Nat.testBit_two_pow]
    · rw [if_neg c, if_neg c]
  rw [e1, e3, e2]
  by_cases c : i = k
  · subst c
    rw [upT_s, h0]
    rcases hv with x | x <;> subst x <;> simp [hk]
  · rw [upT_n T (by omega)]
    simp [show ¬ k = i from fun x => c x.symm]
theorem upT7_C {T : tT} {pe de la to : Int32} {bo di li le br ye lg bg ei : Nat → Int32} (hr : rC T pe de la to bo di li le br ye lg bg ei) {k v : Nat} (hk : k < T 0 0) (h0 : T 7 k = 0) (hv : v = 1 ∨ v = 2) : rC (upT T 7 k v) pe de la (nI (if v = 2 then toldT T ||| 2 ^ k else toldT T)) bo di li le br ye lg bg ei := by
  obtain ⟨a1, a2, a3, a4, a5, a6⟩ := hr
  refine ⟨by rw [upT_n T (by omega)]; exact a1, by rw [upT_n T (by omega)]; exact a2, by rw [upT_n T (by omega)]; exact a3, by rw [upT7_told hk h0 hv], fun p hp => ?_, fun d hd => ?_⟩
  · rw [upT_n T (by omega)] at hp
    rw [upT_n T (f := 4) (by omega), upT_n T (f := 5) (by omega), upT_n T (f := 6) (by omega)]
    exact a5 p hp
  · rw [upT_n T (by omega)] at hd
    obtain ⟨a, b, c, e, f, g⟩ := upT_ds T (f0 := 7) (i0 := k) (v := v) (by omega) d
    rw [a, b, c, e, f, g]
    exact a6 d hd
theorem upT7_M {T : tT} (hw : twf T) {hh : Nat → Int32} (hr : rM T hh) {k : Nat} (hk : k < T 0 0) (v : Nat) : rM (upT T 7 k v) (upd hh (34 + k) (nI v)) := by
  obtain ⟨⟨a1, a2, a3, a4, a5⟩, a6, a7⟩ := hr
  have hn := hw.p
  refine ⟨⟨by rw [upT_n T (by omega), pk_un (by omega)]; exact a1, by rw [upT_n T (by omega), pk_un (by omega)]; exact a2, by rw [upT_n T (by omega), pk_un (by omega)]; exact a3, fun p hp => ?_, fun d hd => ?_⟩, by rw [pk_un (by omega)]; exact a6, fun j j1 j2 => ?_⟩
  · rw [upT_n T (by omega)] at hp
    obtain ⟨b1, b2, b3, b4⟩ := a4 p hp
    rw [upT_n T (f := 4) (by omega), upT_n T (f := 5) (by omega), upT_n T (f := 6) (by omega), pk_un (by omega), pk_un (by omega), pk_un (show 24 + p ≠ 34 + k by omega)]
    by_cases c : p = k
    · subst c; rw [upT_s, pk_us]; exact ⟨b1, b2, b3, rfl⟩
    · rw [upT_n T (by omega), pk_un (by omega)]; exact ⟨b1, b2, b3, b4⟩
  · rw [upT_n T (by omega)] at hd
    obtain ⟨a, b, c, e, f, g⟩ := upT_ds T (f0 := 7) (i0 := k) (v := v) (by omega) d
    rw [a, b, c, e, f, g, pk_un (by omega), pk_un (by omega), pk_un (by omega), pk_un (by omega), pk_un (by omega), pk_un (by omega)]
    exact a5 d hd
  · rw [upT_n T (by omega)] at j1
    rw [pk_un (by omega)]
    exact a7 j j1 j2
theorem tellT_lt (T : tT) : tellT T < 2 ^ T 0 0 := bs_lt _ _
theorem tellT_bit {T : tT} {k : Nat} (hk : k < T 0 0) : (tellT T).testBit k = decide (T 7 k ≠ 0) := by
  unfold tellT
  rw [bs_bit, decide_eq_true hk, Bool.true_and]
theorem l_part {O : Nat → Nat} {by_ ta : Nat → Int32} (h : ∀ k, k < 940 → O k < 256 ∧ by_ k = sbT (O k)) (h2 : ∀ k, k < 940 → O k < 256 ∧ ta k = sbT (O k)) {L M p : Nat} (hL : L ≤ 940) (hM : M ≤ 940) (hp : p ≤ L) {ps nu : Int32} {na : Int64} {to : Int32} (hc : cTk O L M p ps nu na to) {mp mat mto : Int32} {mwo : Int64} {mnu : Int32} (hm : mTk O L M p mp mat mto mwo mnu) {T : tT} (hw : twf T) {pe de la too : Int32} {bo di li le br ye lg bg ei : Nat → Int32} (hr : rC T pe de la too bo di li le br ye lg bg ei) {hh : Nat → Int32} (hrm : rM T hh) {pn dn mn rs : Nat → Int64} (hrs : resI rs) (hpn : nmsR (T 0 0) 40 pn mn) (hdn : nmsR (T 1 0) 50 dn mn) {X : Nat} (ki pl fa fat sp got hl : Int32) (hW : isW O L M p 7 = true) : ∃ q1, dn_X6_readPart ki pl (nI (tellT T)) (nI L) to (nI (tkA O L M p)) nu na ps (nI (min L M)) by_ pe too pn = some q1 ∧ ∃ q2, dn_X12_line (nI L) mp (nI M) mto mat sp mnu fa fat mwo got (nI X) hl hh mn rs ta = some q2 ∧ ((∃ T' pS, twf T' ∧ q1.1 = true ∧ q1.2.1 = nI (tkE O L pS) ∧ q1.2.2.2.2.2.2.1 = ki ∧ q1.2.2.2.2.2.2.2.1 = pl ∧ q1.2.2.2.2.2.2.2.2.1 = nI (tellT T') ∧ rC T' pe de la q1.2.2.2.2.2.2.2.2.2 bo di li le br ye lg bg ei ∧ T' 0 0 = T 0 0 ∧ T' 1 0 = T 1 0 ∧ p < pS ∧ pS ≤ L ∧ tkK O L M pS = 3 ∧ mDone O L M pS fa fat T' X hl mn q2) ∨ (∃ f a, q1.1 = false ∧ q1.2.2.2.2.2.2.1 = nI f ∧ q1.2.2.2.2.2.2.2.1 = nI a ∧ f ≤ 4 ∧ a ≤ 940 ∧ mFail L M ta q2 f a)) := by
  obtain ⟨k1, k2⟩ := isW_1 hW
  have hps := (hc.2.1 k1).2.1
  have hmp := (hm.2.2.1 k1).1
  obtain ⟨e1, e2, e3, e4⟩ := tkE_le hp (Or.inl k1)
  have hn := hw.p
  have hp10 := pz_10 hw.p
  have hh0 := hrm.1.1
  have hA1 := tkA_lt O (M := M) hL e2
  have w0 := isW_ne hW (j := 0) (by decide)
  have w1 := isW_ne hW (j := 1) (by decide)
  have w2 := isW_ne hW (j := 2) (by decide)
  have w4 := isW_ne hW (j := 4) (by decide)
  have htl := tellT_lt T
  have hloop : ∀ fa fat hl p at_ sp to wo nu got, gn_X12_line_0 (nI L) (nI M) rs ta 0 0 fa fat hl p at_ sp to wo nu got hh mn (nI X) = gn_X12_line_0 (nI L) (nI M) rs ta (nI (tellT T)) (nI (T 0 0)) fa fat hl p at_ sp to wo nu got hh mn (nI X) := by
    intro fa fat hl p at_ sp to wo nu got
    exact pz_fun (fun k (x : Nat) => gn_X12_line_0 (nI L) (nI M) rs ta (nI x) (nI k) fa fat hl p at_ sp to wo nu got hh mn (nI X)) (bs (fun p => decide (T 7 p ≠ 0))) (T 0 0) (by
      intro k hk
      show gn_X12_line_0 _ _ _ _ _ _ _ _ _ _ _ _ _ _ _ _ _ _ _ = gn_X12_line_0 _ _ _ _ _ _ _ _ _ _ _ _ _ _ _ _ _ _ _
      have b4 := (hrm.1.2.2.2.1 k hk).2.2.2
      have hps := hw.ps hk
      rw [gq_X12_line_0, show (0 : Int32).toNatClampNeg = 0 from rfl, hh0, if_neg (nI_ge hk (by omega)), show (34 : Int32) = nI 34 from rfl, nI_add, inb_nI (show 34 + k < 224 by omega) (by omega), if_pos rfl, nI_clamp (by omega), b4, ← bs_stepN (show k < 32 by omega), nI_1, pz_or0]
      simp only [pz_le0 (show T 7 k < 2 ^ 31 by omega), decide_eq_true_eq]
      by_cases c : T 7 k = 0
      · rw [if_pos c, if_neg (fun x => x c)]
      · rw [if_neg c, if_pos c]) (T 0 0) (Nat.le_refl _)
  unfold dn_X6_readPart dn_X12_line
  rw [m_isWord hm (i := 0) (by omega) (show (123581014175598 : Int64) = lN (n256 (rvW 0)) from by decide), w0, Option.bind_some, if_neg Bool.false_ne_true, m_isWord hm (i := 1) (by omega) (show (465625246068 : Int64) = lN (n256 (rvW 1)) from by decide), w1, Option.bind_some, if_neg Bool.false_ne_true, m_isWord hm (i := 2) (by omega) (show (1684365676 : Int64) = lN (n256 (rvW 2)) from by decide), w2, Option.bind_some, if_neg Bool.false_ne_true, m_isWord hm (i := 4) (by omega) (show (7102839 : Int64) = lN (n256 (rvW 4)) from by decide), w4, Option.bind_some, if_neg Bool.false_ne_true, m_isWord hm (i := 7) (by omega) (show (1885434484 : Int64) = lN (n256 (rvW 7)) from by decide), hW, Option.bind_some, if_pos rfl, hloop, gq_X12_line_0, show (0 : Int32).toNatClampNeg = 0 from rfl, hh0, if_pos (nI_le (Nat.le_refl _) (by omega)), hps, hmp]
  have hpe := hr.1
  have hpe' := hpe
  obtain ⟨n1, n2, n3⟩ := c_known h (M := M) hL e2 hn hpn ki pl to (nI (tkA O L M p)) nu na
  obtain ⟨f1, f2, f3⟩ := m_told h2 hL hM e2 hn hh0 hrs (had := tellT T) (by omega) mto mat sp mnu fa fat got mwo (mn := mn)
  rw [hpe]
  rw [← hpe'] at n1 n2 n3 ⊢
  cases hN : isN O L M (tkE O L p) with
  | false =>
    obtain ⟨_, _, _, _, g⟩ := n3 hN
    obtain ⟨q, g2, g3, g4, g5⟩ := f3 hN
    rw [g, Option.bind_some, if_pos rfl, g2, Option.bind_some, if_neg (by rw [g3]; exact Bool.false_ne_true)]
    exact ⟨_, rfl, _, rfl, Or.inr ⟨1, tkA O L M (tkE O L p), rfl, rfl, rfl, by omega, hA1, Or.inl ⟨rfl, g4, g5⟩⟩⟩
  | true =>
    cases hwho : whoP O L (tkE O L p) mn (T 0 0) with
    | none =>
      obtain ⟨_, _, _, _, g⟩ := n2 hN hwho
      obtain ⟨q, g2, g3, g4, g5⟩ := f2 hN (fun k hk => by rw [hwho] at hk; cases hk)
      rw [g, Option.bind_some, if_pos rfl, g2, Option.bind_some, if_neg (by rw [g3]; exact Bool.false_ne_true)]
      exact ⟨_, rfl, _, rfl, Or.inr ⟨3, tkA O L M (tkE O L p), rfl, rfl, rfl, by omega, hA1, Or.inl ⟨rfl, g4, g5⟩⟩⟩
    | some k =>
      have hk := foI_some hwho
      have k3 := isN_1 hN
      obtain ⟨e5, e6, e7, e8⟩ := tkE_le e2 (Or.inl k3)
      have hA2 := tkA_lt O (M := M) hL e6
      obtain ⟨nu2, na2, to2, g⟩ := n1 hN k hwho
      rw [g, Option.bind_some]
      simp only [pz_n0 (show k < 2 ^ 31 by omega), if_false, pz_bit (show tellT T < 2 ^ 31 by omega) (show k < 32 by omega), pz_b1]
      by_cases c1 : (tellT T).testBit k = true
      · obtain ⟨q, g2, g3, g4, g5⟩ := f2 hN (fun j hj => by rw [hwho] at hj; cases hj; exact c1)
        rw [if_pos c1, g2, Option.bind_some, if_neg (by rw [g3]; exact Bool.false_ne_true)]
        unfold dn_X6_refuse
        exact ⟨_, rfl, _, rfl, Or.inr ⟨3, tkA O L M (tkE O L p), rfl, rfl, rfl, by omega, hA1, Or.inl ⟨rfl, g4, g5⟩⟩⟩
      · have c1' : (tellT T).testBit k = false := by simpa using c1
        have h70 : T 7 k = 0 := by
          rw [tellT_bit hk] at c1'
          simpa using c1'
        obtain ⟨mp2, mat2, sp2, mto2, mwo2, mnu2, g2, hm2⟩ := f1 hN k hwho c1'
        obtain ⟨ps3, nu3, na3, to3, t3, hc3⟩ := c_next h (M := M) hL e6 to2 (nI (tkA O L M (tkE O L p))) nu2 na2
        rw [if_neg c1, g2, Option.bind_some, if_pos rfl, t3, Option.bind_some]
        simp only
        rw [c_isWord h hL hc3 (i := 8) (by omega), c_isWord h hL hc3 (i := 9) (by omega), m_isWord hm2 (i := 8) (by omega) (show (465558201459 : Int64) = lN (n256 (rvW 8)) from by decide), m_isWord hm2 (i := 9) (by omega) (show (27707085054506867 : Int64) = lN (n256 (rvW 9)) from by decide), Option.bind_some, Option.bind_some, Option.bind_some, Option.bind_some, gq_X12_line_1, m_isWord hm2 (i := 8) (by omega) (show (465558201459 : Int64) = lN (n256 (rvW 8)) from by decide), Option.bind_some, show (34 : Int32) = nI 34 from rfl, nI_add, inb_nI (show 34 + k < 224 by omega) (by omega), if_pos rfl, if_pos rfl, nI_clamp (show 34 + k < 2 ^ 31 by omega), pz_1shl (by omega), pz_or]
        by_cases c8 : isW O L M (tkE O L (tkE O L p)) 8 = true
        · have k4 := (isW_1 c8).1
          obtain ⟨e9, e10, e11, e12⟩ := tkE_le e6 (Or.inl k4)
          have hA3 := tkA_lt O (M := M) hL e10
          obtain ⟨mp4, mat4, sp4, mto4, mwo4, mnu4, s4, hm4⟩ := m_skip h2 (M := M) hL hM e10 mto2 mat2 sp2 mnu2 mwo2
          rw [if_pos c8, if_pos c8, if_pos c8, (hm2.2.2.1 k4).1, s4, Option.bind_some, (hc3.2.1 k4).2.1, hr.2.2.2.1, pz_or]
          have hC' := upT7_C hr hk h70 (v := 2) (Or.inr rfl)
          rw [if_pos rfl] at hC'
          have hdone : mDone O L M (tkE O L (tkE O L (tkE O L p))) fa fat (upT T 7 k 2) X hl mn (true, fa, fat, hl, mp4, mat4, sp4, mto4, mwo4, mnu4, nI k, upd hh (34 + k) 2, mn, nI X) := ⟨rfl, rfl, rfl, rfl, hm4, upT7_M hw hrm hk 2, rfl, rfl⟩
          obtain ⟨z1, z2⟩ := c_semi h (M := M) hL e10 ki pl to3 (nI (tkA O L M (tkE O L (tkE O L p)))) nu3 na3
          by_cases c4 : tkK O L M (tkE O L (tkE O L (tkE O L p))) = 3
          · obtain ⟨nu5, na5, to5, g7⟩ := z1 c4
            rw [g7, Option.bind_some]
            exact ⟨_, rfl, _, rfl, Or.inl ⟨_, tkE O L (tkE O L (tkE O L p)), upT7_wf hw (by omega), rfl, rfl, rfl, rfl, by rw [upT7_tell hk (by omega)], hC', upT_n T (by omega), upT_n T (by omega), by omega, e10, c4, hdone⟩⟩
          · obtain ⟨ps5, nu5, na5, to5, g7⟩ := z2 c4
            rw [g7, Option.bind_some]
            exact ⟨_, rfl, _, rfl, Or.inr ⟨1, _, rfl, rfl, rfl, by omega, hA3, mFail_sign h h2 hL hM e10 hdone c4⟩⟩
        · rw [if_neg c8, if_neg c8, if_neg c8]
          by_cases c9 : isW O L M (tkE O L (tkE O L p)) 9 = true
          · have k4 := (isW_1 c9).1
            obtain ⟨e9, e10, e11, e12⟩ := tkE_le e6 (Or.inl k4)
            have hA3 := tkA_lt O (M := M) hL e10
            obtain ⟨mp4, mat4, sp4, mto4, mwo4, mnu4, s4, hm4⟩ := m_skip h2 (M := M) hL hM e10 mto2 mat2 sp2 mnu2 mwo2
            rw [if_pos c9, if_pos c9, (hm2.2.2.1 k4).1, s4, Option.bind_some, (hc3.2.1 k4).2.1]
            have hC' := upT7_C hr hk h70 (v := 1) (Or.inl rfl)
            rw [if_neg (by omega), ← hr.2.2.2.1] at hC'
            have hdone : mDone O L M (tkE O L (tkE O L (tkE O L p))) fa fat (upT T 7 k 1) X hl mn (true, fa, fat, hl, mp4, mat4, sp4, mto4, mwo4, mnu4, nI k, upd hh (34 + k) 1, mn, nI X) := ⟨rfl, rfl, rfl, rfl, hm4, upT7_M hw hrm hk 1, rfl, rfl⟩
            obtain ⟨z1, z2⟩ := c_semi h (M := M) hL e10 ki pl to3 (nI (tkA O L M (tkE O L (tkE O L p)))) nu3 na3
            by_cases c4 : tkK O L M (tkE O L (tkE O L (tkE O L p))) = 3
            · obtain ⟨nu5, na5, to5, g7⟩ := z1 c4
              rw [g7, Option.bind_some]
              exact ⟨_, rfl, _, rfl, Or.inl ⟨_, tkE O L (tkE O L (tkE O L p)), upT7_wf hw (by omega), rfl, rfl, rfl, rfl, by rw [upT7_tell hk (by omega)], hC', upT_n T (by omega), upT_n T (by omega), by omega, e10, c4, hdone⟩⟩
            · obtain ⟨ps5, nu5, na5, to5, g7⟩ := z2 c4
              rw [g7, Option.bind_some]
              exact ⟨_, rfl, _, rfl, Or.inr ⟨1, _, rfl, rfl, rfl, by omega, hA3, mFail_sign h h2 hL hM e10 hdone c4⟩⟩
          · rw [if_neg c9, if_neg c9]
            unfold dn_X6_refuse dn_X12_bad
            exact ⟨_, rfl, _, rfl, Or.inr ⟨1, tkA O L M (tkE O L (tkE O L p)), rfl, rfl, rfl, by omega, hA2, Or.inl ⟨rfl, rfl, hm2.1⟩⟩⟩
