/-! ===== pure rows: the lines of a limit and of the law ===== -/
def upT (T : tT) (f0 i0 v : Nat) : tT := fun f i => if f = f0 ∧ i = i0 then v else T f i
theorem upT_s (T : tT) (f i v : Nat) : upT T f i v f i = v := if_pos ⟨rfl, rfl⟩
theorem upT_n (T : tT) {f0 i0 v f i : Nat} (h : f ≠ f0 ∨ i ≠ i0) : upT T f0 i0 v f i = T f i := if_neg (by omega)
theorem upT_ds (T : tT) {f0 i0 v : Nat} (h : f0 < 8) (d : Nat) : upT T f0 i0 v 8 d = T 8 d ∧ upT T f0 i0 v 9 d = T 9 d ∧ upT T f0 i0 v 10 d = T 10 d ∧ upT T f0 i0 v 11 d = T 11 d ∧ upT T f0 i0 v 12 d = T 12 d ∧ upT T f0 i0 v 13 d = T 13 d := ⟨upT_n T (by omega), upT_n T (by omega), upT_n T (by omega), upT_n T (by omega), upT_n T (by omega), upT_n T (by omega)⟩
theorem upT6_wf {T : tT} (hw : twf T) {k v : Nat} (hv : v ≤ 9) : twf (upT T 6 k v) := by
  refine ⟨by rw [upT_n T (by omega)]; exact hw.p, by rw [upT_n T (by omega)]; exact hw.d, by rw [upT_n T (by omega)]; exact hw.n, fun p hp => ?_, fun d hd => ?_⟩
  · rw [upT_n T (by omega)] at hp
    have := hw.ps hp
    rw [upT_n T (f := 4) (by omega), upT_n T (f := 5) (by omega), upT_n T (f := 7) (by omega)]
    by_cases c : p = k
    · subst c; rw [upT_s]; omega
    · rw [upT_n T (by omega)]; exact this
  · rw [upT_n T (by omega)] at hd
    obtain ⟨a, b, c, e, f, g⟩ := upT_ds T (f0 := 6) (i0 := k) (v := v) (by omega) d
    rw [a, b, c, e, f, g, upT_n T (by omega)]
    exact hw.ds hd
theorem upT6_told (T : tT) (k v : Nat) : toldT (upT T 6 k v) = toldT T ∧ tellT (upT T 6 k v) = tellT T := by
  have e : ∀ j, upT T 6 k v 7 j = T 7 j := fun j => upT_n T (by omega)
  have e0 : upT T 6 k v 0 0 = T 0 0 := upT_n T (by omega)
  unfold toldT tellT
  rw [e0]
  exact ⟨bs_congr _ (fun j _ => by show (upT T 6 k v 7 j == 2) = _; rw [e]), bs_congr _ (fun j _ => by show decide (upT T 6 k v 7 j ≠ 0) = _; rw [e])⟩
theorem upT6_C {T : tT} {pe de la to : Int32} {bo di li le br ye lg bg ei : Nat → Int32} (hr : rC T pe de la to bo di li le br ye lg bg ei) (k v : Nat) : rC (upT T 6 k v) pe de la to bo di (upd li k (nI v)) le br ye lg bg ei := by
  obtain ⟨a1, a2, a3, a4, a5, a6⟩ := hr
  refine ⟨by rw [upT_n T (by omega)]; exact a1, by rw [upT_n T (by omega)]; exact a2, by rw [upT_n T (by omega)]; exact a3, by rw [(upT6_told T k v).1]; exact a4, fun p hp => ?_, fun d hd => ?_⟩
  · rw [upT_n T (by omega)] at hp
    rw [upT_n T (f := 4) (by omega), upT_n T (f := 5) (by omega)]
    by_cases c : p = k
    · subst c; rw [upT_s, pk_us]; exact ⟨(a5 p hp).1, (a5 p hp).2.1, rfl⟩
    · rw [upT_n T (by omega), pk_un c]; exact a5 p hp
  · rw [upT_n T (by omega)] at hd
    obtain ⟨a, b, c, e, f, g⟩ := upT_ds T (f0 := 6) (i0 := k) (v := v) (by omega) d
    rw [a, b, c, e, f, g]
    exact a6 d hd
theorem upT6_M {T : tT} (hw : twf T) {hh : Nat → Int32} (hr : rM T hh) {k : Nat} (hk : k < T 0 0) (v : Nat) : rM (upT T 6 k v) (upd hh (24 + k) (nI v)) := by
  obtain ⟨⟨a1, a2, a3, a4, a5⟩, a6, a7⟩ := hr
  have hn := hw.p
  have hd0 := hw.d
  refine ⟨⟨by rw [upT_n T (by omega), pk_un (by omega)]; exact a1, by rw [upT_n T (by omega), pk_un (by omega)]; exact a2, by rw [upT_n T (by omega), pk_un (by omega)]; exact a3, fun p hp => ?_, fun d hd => ?_⟩, by rw [pk_un (by omega)]; exact a6, fun j j1 j2 => ?_⟩
  · rw [upT_n T (by omega)] at hp
    obtain ⟨b1, b2, b3, b4⟩ := a4 p hp
    rw [upT_n T (f := 4) (by omega), upT_n T (f := 5) (by omega), upT_n T (f := 7) (by omega), pk_un (by omega), pk_un (by omega), pk_un (show 34 + p ≠ 24 + k by omega)]
    by_cases c : p = k
    · subst c; rw [upT_s, pk_us]; exact ⟨b1, b2, rfl, b4⟩
    · rw [upT_n T (by omega), pk_un (by omega)]; exact ⟨b1, b2, b3, b4⟩
  · rw [upT_n T (by omega)] at hd
    obtain ⟨a, b, c, e, f, g⟩ := upT_ds T (f0 := 6) (i0 := k) (v := v) (by omega) d
    rw [a, b, c, e, f, g, pk_un (by omega), pk_un (by omega), pk_un (by omega), pk_un (by omega), pk_un (by omega), pk_un (by omega)]
    exact a5 d hd
  · rw [upT_n T (by omega)] at j1
    rw [pk_un (by omega)]
    exact a7 j j1 j2
theorem upT2_wf {T : tT} (hw : twf T) {v : Nat} (hv : v ≤ 60) : twf (upT T 2 0 v) := by
  refine ⟨by rw [upT_n T (by omega)]; exact hw.p, by rw [upT_n T (by omega)]; exact hw.d, by rw [upT_s]; exact hv, fun p hp => ?_, fun d hd => ?_⟩
  · rw [upT_n T (by omega)] at hp
    have := hw.ps hp
    rw [upT_n T (f := 4) (by omega), upT_n T (f := 5) (by omega), upT_n T (f := 7) (by omega), upT_n T (f := 6) (by omega)]
    exact this
  · rw [upT_n T (by omega)] at hd
    obtain ⟨a, b, c, e, f, g⟩ := upT_ds T (f0 := 2) (i0 := 0) (v := v) (by omega) d
    rw [a, b, c, e, f, g, upT_n T (by omega)]
    exact hw.ds hd
theorem upT2_told (T : tT) (v : Nat) : toldT (upT T 2 0 v) = toldT T ∧ tellT (upT T 2 0 v) = tellT T := by
  have e : ∀ j, upT T 2 0 v 7 j = T 7 j := fun j => upT_n T (by omega)
  have e0 : upT T 2 0 v 0 0 = T 0 0 := upT_n T (by omega)
  unfold toldT tellT
  rw [e0]
  exact ⟨bs_congr _ (fun j _ => by show (upT T 2 0 v 7 j == 2) = _; rw [e]), bs_congr _ (fun j _ => by show decide (upT T 2 0 v 7 j ≠ 0) = _; rw [e])⟩
theorem upT2_C {T : tT} {pe de la to : Int32} {bo di li le br ye lg bg ei : Nat → Int32} (hr : rC T pe de la to bo di li le br ye lg bg ei) (v : Nat) : rC (upT T 2 0 v) pe de (nI v) to bo di li le br ye lg bg ei := by
  obtain ⟨a1, a2, a3, a4, a5, a6⟩ := hr
  refine ⟨by rw [upT_n T (by omega)]; exact a1, by rw [upT_n T (by omega)]; exact a2, by rw [upT_s], by rw [(upT2_told T v).1]; exact a4, fun p hp => ?_, fun d hd => ?_⟩
  · rw [upT_n T (by omega)] at hp
    rw [upT_n T (f := 4) (by omega), upT_n T (f := 5) (by omega), upT_n T (f := 6) (by omega)]
    exact a5 p hp
  · rw [upT_n T (by omega)] at hd
    obtain ⟨a, b, c, e, f, g⟩ := upT_ds T (f0 := 2) (i0 := 0) (v := v) (by omega) d
    rw [a, b, c, e, f, g]
    exact a6 d hd
theorem upT2_M {T : tT} {hh : Nat → Int32} (hr : rM T hh) (v : Nat) : rM (upT T 2 0 v) (upd hh 2 (nI v)) := by
  obtain ⟨⟨a1, a2, a3, a4, a5⟩, a6, a7⟩ := hr
  refine ⟨⟨by rw [upT_n T (by omega), pk_un (by omega)]; exact a1, by rw [upT_n T (by omega), pk_un (by omega)]; exact a2, by rw [upT_s, pk_us], fun p hp => ?_, fun d hd => ?_⟩, by rw [pk_un (by omega)]; exact a6, fun j j1 j2 => ?_⟩
  · rw [upT_n T (by omega)] at hp
    rw [upT_n T (f := 4) (by omega), upT_n T (f := 5) (by omega), upT_n T (f := 6) (by omega), upT_n T (f := 7) (by omega), pk_un (by omega), pk_un (by omega), pk_un (by omega), pk_un (by omega)]
    exact a4 p hp
  · rw [upT_n T (by omega)] at hd
    obtain ⟨a, b, c, e, f, g⟩ := upT_ds T (f0 := 2) (i0 := 0) (v := v) (by omega) d
    rw [a, b, c, e, f, g, pk_un (by omega), pk_un (by omega), pk_un (by omega), pk_un (by omega), pk_un (by omega), pk_un (by omega)]
    exact a5 d hd
  · rw [upT_n T (by omega)] at j1
    rw [pk_un (by omega)]
    exact a7 j j1 j2
theorem isW_ne {O : Nat → Nat} {L M p i j : Nat} (h : isW O L M p i = true) (hne : rvW i ≠ rvW j) : isW O L M p j = false := by
  obtain ⟨a, b⟩ := isW_1 h
  unfold isW
  rw [b, beq_eq_false_iff_ne.mpr hne, Bool.and_false]
theorem l_limit {O : Nat → Nat} {by_ ta : Nat → Int32} (h : ∀ k, k < 940 → O k < 256 ∧ by_ k = sbT (O k)) (h2 : ∀ k, k < 940 → O k < 256 ∧ ta k = sbT (O k)) {L M p : Nat} (hL : L ≤ 940) (hM : M ≤ 940) (hp : p ≤ L) {ps nu : Int32} {na : Int64} {to : Int32} (hc : cTk O L M p ps nu na to) {mp mat mto : Int32} {mwo : Int64} {mnu : Int32} (hm : mTk O L M p mp mat mto mwo mnu) {T : tT} (hw : twf T) {pe de la too : Int32} {bo di li le br ye lg bg ei : Nat → Int32} (hr : rC T pe de la too bo di li le br ye lg bg ei) {hh : Nat → Int32} (hrm : rM T hh) {pn dn mn rs : Nat → Int64} (hrs : resI rs) (hpn : nmsR (T 0 0) 40 pn mn) (hdn : nmsR (T 1 0) 50 dn mn) {X : Nat} (hX : X < 1024) (ki pl fa fat sp got hl : Int32) (hW : isW O L M p 1 = true) : ∃ q1, dn_X6_readLimit ki pl (nI X) (nI L) to (nI (tkA O L M p)) nu na ps (nI (min L M)) by_ pe li pn = some q1 ∧ ∃ q2, dn_X12_line (nI L) mp (nI M) mto mat sp mnu fa fat mwo got (nI X) hl hh mn rs ta = some q2 ∧ ((∃ T' pS X', twf T' ∧ q1.1 = true ∧ q1.2.1 = nI (tkE O L pS) ∧ q1.2.2.2.2.2.2.1 = ki ∧ q1.2.2.2.2.2.2.2.1 = pl ∧ X' < 1024 ∧ q1.2.2.2.2.2.2.2.2.1 = nI X' ∧ rC T' pe de la too bo di q1.2.2.2.2.2.2.2.2.2 le br ye lg bg ei ∧ T' 0 0 = T 0 0 ∧ T' 1 0 = T 1 0 ∧ tellT T' = tellT T ∧ p < pS ∧ pS ≤ L ∧ tkK O L M pS = 3 ∧ mDone O L M pS fa fat T' X' hl mn q2) ∨ (∃ f a, q1.1 = false ∧ q1.2.2.2.2.2.2.1 = nI f ∧ q1.2.2.2.2.2.2.2.1 = nI a ∧ f ≤ 4 ∧ a ≤ 940 ∧ mFail L M ta q2 f a)) := by
  obtain ⟨k1, k2⟩ := isW_1 hW
  have hps := (hc.2.1 k1).2.1
  have hmp := (hm.2.2.1 k1).1
  obtain ⟨e1, e2, e3, e4⟩ := tkE_le hp (Or.inl k1)
  have hn := hw.p
  have hd := hw.d
  have hh0 := hrm.1.1
  have hA1 := tkA_lt O (M := M) hL e2
  have w0 := isW_ne hW (j := 0) (by decide)
  unfold dn_X6_readLimit dn_X12_line
  rw [m_isWord hm (i := 0) (by omega) (show (123581014175598 : Int64) = lN (n256 (rvW 0)) from by decide), w0, Option.bind_some, if_neg Bool.false_ne_true, m_isWord hm (i := 1) (by omega) (show (465625246068 : Int64) = lN (n256 (rvW 1)) from by decide), hW, Option.bind_some, if_pos rfl, hps, hmp]
  have hpe := hr.1
  have hpe' := hpe
  obtain ⟨n1, n2, n3⟩ := c_known h (M := M) hL e2 hn hpn ki pl to (nI (tkA O L M p)) nu na
  obtain ⟨f1, f2, f3⟩ := m_told h2 hL hM e2 hn hh0 hrs (had := X) (by omega) mto mat sp mnu fa fat got mwo (mn := mn)
  rw [hpe]
  rw [← hpe'] at n1 n2 n3 ⊢
  cases hN : isN O L M (tkE O L p) with
  | false =>
    obtain ⟨_, _, _, _, g⟩ := n3 hN
    obtain ⟨q, g2, g3, g4, g5⟩ := f3 hN
    rw [g, Option.bind_some, if_pos rfl, g2, Option.bind_some, if_neg (by rw [g3]; exact Bool.false_ne_true)]
    exact ⟨_, rfl, _, rfl, Or.inr ⟨1, tkA O L M (tkE O L p), rfl, rfl, rfl, by omega, hA1, Or.inl ⟨rfl, g4, g5⟩⟩⟩
  | true =>
    cases hwho : whoP O L (tkE O L p) mn (T 0 0) with
    | none =>
      obtain ⟨_, _, _, _, g⟩ := n2 hN hwho
      obtain ⟨q, g2, g3, g4, g5⟩ := f2 hN (fun k hk => by rw [hwho] at hk; cases hk)
      rw [g, Option.bind_some, if_pos rfl, g2, Option.bind_some, if_neg (by rw [g3]; exact Bool.false_ne_true)]
      exact ⟨_, rfl, _, rfl, Or.inr ⟨3, tkA O L M (tkE O L p), rfl, rfl, rfl, by omega, hA1, Or.inl ⟨rfl, g4, g5⟩⟩⟩
    | some k =>
      have hk := foI_some hwho
      have k3 := isN_1 hN
      obtain ⟨e5, e6, e7, e8⟩ := tkE_le e2 (Or.inl k3)
      have hA2 := tkA_lt O (M := M) hL e6
      obtain ⟨nu2, na2, to2, g⟩ := n1 hN k hwho
      rw [g, Option.bind_some]
      simp only [pz_n0 (show k < 2 ^ 31 by omega), if_false, pz_bit (show X < 2 ^ 31 by omega) (show k < 32 by omega), pz_b1]
      by_cases c1 : X.testBit k = true
      · obtain ⟨q, g2, g3, g4, g5⟩ := f2 hN (fun j hj => by rw [hwho] at hj; cases hj; exact c1)
        rw [if_pos c1, g2, Option.bind_some, if_neg (by rw [g3]; exact Bool.false_ne_true)]
        unfold dn_X6_refuse
        exact ⟨_, rfl, _, rfl, Or.inr ⟨3, tkA O L M (tkE O L p), rfl, rfl, rfl, by omega, hA1, Or.inl ⟨rfl, g4, g5⟩⟩⟩
      · have c1' : X.testBit k = false := by simpa using c1
        obtain ⟨mp2, mat2, sp2, mto2, mwo2, mnu2, g2, hm2⟩ := f1 hN k hwho c1'
        rw [if_neg c1, g2, Option.bind_some, if_pos rfl]
        simp only
        obtain ⟨a1, a2⟩ := c_numX h h2 hL hM e6 (lo := 0) (hi := 9) (by omega) (by omega) (x := 0) (y := 9) rfl rfl ki pl to2 (nI (tkA O L M (tkE O L p))) nu2 na2
        obtain ⟨b1, b2⟩ := m_numX h h2 hL hM e6 hm2 (lo := 0) (hi := 9) (by omega) (by omega) (x := 0) (y := 9) rfl rfl sp2 fa fat (nI k)
        by_cases c2 : numOK O L M (tkE O L (tkE O L p)) 0 9
        · obtain ⟨na3, to3, g3⟩ := a1 c2
          obtain ⟨mp3, mat3, sp3, mto3, mwo3, mnu3, g4, hm3⟩ := b1 c2
          obtain ⟨e9, e10, e11, e12⟩ := tkE_le e6 (Or.inr (Or.inl c2.1))
          have hA3 := tkA_lt O (M := M) hL e10
          rw [g3, Option.bind_some, if_pos rfl, inb_nI (show k < 10 by omega) (by omega), if_pos rfl]
          rw [g4, Option.bind_some, if_pos rfl]
          simp only
          rw [show (24 : Int32) = nI 24 from rfl, nI_add, inb_nI (show 24 + k < 224 by omega) (by omega), if_pos rfl, nI_clamp (show k < 2 ^ 31 by omega), nI_clamp (show 24 + k < 2 ^ 31 by omega), pz_1shl (by omega), pz_or]
          have hX' : X ||| 2 ^ k < 1024 := Nat.or_lt_two_pow (n := 10) hX (pz_p2 (b := 10) (by omega))
          have hdone : mDone O L M (tkE O L (tkE O L (tkE O L p))) fa fat (upT T 6 k (tkV O L (tkE O L (tkE O L p)))) (X ||| 2 ^ k) hl mn (true, fa, fat, hl, mp3, mat3, sp3, mto3, mwo3, mnu3, nI (tkV O L (tkE O L (tkE O L p))), upd hh (24 + k) (nI (tkV O L (tkE O L (tkE O L p)))), mn, nI (X ||| 2 ^ k)) := ⟨rfl, rfl, rfl, rfl, hm3, upT6_M hw hrm hk _, rfl, rfl⟩
          obtain ⟨z1, z2⟩ := c_semi h (M := M) hL e10 ki pl to3 (nI (tkA O L M (tkE O L (tkE O L p)))) (nI (tkV O L (tkE O L (tkE O L p)))) na3
          by_cases c4 : tkK O L M (tkE O L (tkE O L (tkE O L p))) = 3
          · obtain ⟨nu5, na5, to5, g7⟩ := z1 c4
            rw [g7, Option.bind_some]
            exact ⟨_, rfl, _, rfl, Or.inl ⟨_, tkE O L (tkE O L (tkE O L p)), _, upT6_wf hw c2.2.2, rfl, rfl, rfl, rfl, hX', rfl, upT6_C hr k _, upT_n T (by omega), upT_n T (by omega), (upT6_told T k _).2, by omega, e10, c4, hdone⟩⟩
          · obtain ⟨ps5, nu5, na5, to5, g7⟩ := z2 c4
            rw [g7, Option.bind_some]
            exact ⟨_, rfl, _, rfl, Or.inr ⟨1, _, rfl, rfl, rfl, by omega, hA3, mFail_sign h h2 hL hM e10 hdone c4⟩⟩
        · obtain ⟨ps3, nu3, na3, to3, g3⟩ := a2 c2
          rw [g3, Option.bind_some, if_neg Bool.false_ne_true]
          rw [b2 c2, Option.bind_some, if_neg Bool.false_ne_true]
          exact ⟨_, rfl, _, rfl, Or.inr ⟨_, _, rfl, rfl, rfl, by unfold numF; split <;> omega, hA2, Or.inl ⟨rfl, rfl, rfl⟩⟩⟩
theorem l_law {O : Nat → Nat} {by_ ta : Nat → Int32} (h : ∀ k, k < 940 → O k < 256 ∧ by_ k = sbT (O k)) (h2 : ∀ k, k < 940 → O k < 256 ∧ ta k = sbT (O k)) {L M p : Nat} (hL : L ≤ 940) (hM : M ≤ 940) (hp : p ≤ L) {ps nu : Int32} {na : Int64} {to : Int32} (hc : cTk O L M p ps nu na to) {mp mat mto : Int32} {mwo : Int64} {mnu : Int32} (hm : mTk O L M p mp mat mto mwo mnu) {T : tT} (hw : twf T) {pe de la too : Int32} {bo di li le br ye lg bg ei : Nat → Int32} (hr : rC T pe de la too bo di li le br ye lg bg ei) {hh : Nat → Int32} (hrm : rM T hh) {pn dn mn rs : Nat → Int64} (hrs : resI rs) (hpn : nmsR (T 0 0) 40 pn mn) (hdn : nmsR (T 1 0) 50 dn mn) {X : Nat} (ki pl fa fat sp got hl : Int32) (hhl : hl = 0 ∨ hl = 1) (hW : isW O L M p 4 = true) : ∃ q1, dn_X6_readLaw ki pl hl (nI L) to (nI (tkA O L M p)) nu na ps (nI (min L M)) by_ la = some q1 ∧ ∃ q2, dn_X12_line (nI L) mp (nI M) mto mat sp mnu fa fat mwo got (nI X) hl hh mn rs ta = some q2 ∧ ((∃ T' pS, twf T' ∧ q1.1 = true ∧ q1.2.2.1 = nI (tkE O L pS) ∧ q1.2.2.2.2.2.2.2.1 = ki ∧ q1.2.2.2.2.2.2.2.2.1 = pl ∧ q1.2.1 = 1 ∧ rC T' pe de q1.2.2.2.2.2.2.2.2.2 too bo di li le br ye lg bg ei ∧ T' 0 0 = T 0 0 ∧ T' 1 0 = T 1 0 ∧ tellT T' = tellT T ∧ p < pS ∧ pS ≤ L ∧ tkK O L M pS = 3 ∧ mDone O L M pS fa fat T' X 1 mn q2) ∨ (∃ f a, q1.1 = false ∧ q1.2.2.2.2.2.2.2.1 = nI f ∧ q1.2.2.2.2.2.2.2.2.1 = nI a ∧ f ≤ 4 ∧ a ≤ 940 ∧ mFail L M ta q2 f a)) := by
  obtain ⟨k1, k2⟩ := isW_1 hW
  have hps := (hc.2.1 k1).2.1
  have hmp := (hm.2.2.1 k1).1
  obtain ⟨e1, e2, e3, e4⟩ := tkE_le hp (Or.inl k1)
  have hA := tkA_lt O (M := M) hL hp
  have hA1 := tkA_lt O (M := M) hL e2
  have w0 := isW_ne hW (j := 0) (by decide)
  have w1 := isW_ne hW (j := 1) (by decide)
  have w2 := isW_ne hW (j := 2) (by decide)
  unfold dn_X6_readLaw dn_X12_line dn_X12_readLaw
  rw [m_isWord hm (i := 0) (by omega) (show (123581014175598 : Int64) = lN (n256 (rvW 0)) from by decide), w0, Option.bind_some, if_neg Bool.false_ne_true, m_isWord hm (i := 1) (by omega) (show (465625246068 : Int64) = lN (n256 (rvW 1)) from by decide), w1, Option.bind_some, if_neg Bool.false_ne_true, m_isWord hm (i := 2) (by omega) (show (1684365676 : Int64) = lN (n256 (rvW 2)) from by decide), w2, Option.bind_some, if_neg Bool.false_ne_true, m_isWord hm (i := 4) (by omega) (show (7102839 : Int64) = lN (n256 (rvW 4)) from by decide), hW, Option.bind_some, if_pos rfl, hps, hmp]
  by_cases c0 : hl = 0
  · obtain ⟨mp1, mat1, sp1, mto1, mwo1, mnu1, s1, hm1⟩ := m_skip h2 (M := M) hL hM e2 mto mat sp mnu mwo
    obtain ⟨ps1, nu1, na1, to1, t1, hc1⟩ := c_next h (M := M) hL e2 to (nI (tkA O L M p)) nu na
    rw [if_pos c0, if_pos c0, s1, t1, Option.bind_some, Option.bind_some]
    simp only
    rw [c_isWord h hL hc1 (i := 6) (by omega), c_isWord h hL hc1 (i := 5) (by omega), m_isWord hm1 (i := 5) (by omega) (show (1818846821 : Int64) = lN (n256 (rvW 5)) from by decide), m_isWord hm1 (i := 6) (by omega) (show (521391927923 : Int64) = lN (n256 (rvW 6)) from by decide), Option.bind_some, Option.bind_some, Option.bind_some]
    by_cases c5 : isW O L M (tkE O L p) 5 = true
    · have w6 := isW_ne c5 (j := 6) (by decide)
      have k3 := (isW_1 c5).1
      obtain ⟨e5, e6, e7, e8⟩ := tkE_le e2 (Or.inl k3)
      have hA2 := tkA_lt O (M := M) hL e6
      obtain ⟨mp2, mat2, sp2, mto2, mwo2, mnu2, s2, hm2⟩ := m_skip h2 (M := M) hL hM e6 mto1 mat1 sp1 mnu1 mwo1
      rw [w6, if_neg Bool.false_ne_true, Option.bind_some, if_pos c5, if_pos c5, (hm1.2.2.1 k3).1, s2, (hc1.2.1 k3).2.1]
      have hdone : mDone O L M (tkE O L (tkE O L p)) fa fat T X 1 mn (true, fa, fat, 1, mp2, mat2, sp2, mto2, mwo2, mnu2, got, hh, mn, nI X) := ⟨rfl, rfl, rfl, rfl, hm2, hrm, rfl, rfl⟩
      obtain ⟨z1, z2⟩ := c_semi h (M := M) hL e6 ki pl to1 (nI (tkA O L M (tkE O L p))) nu1 na1
      by_cases c4 : tkK O L M (tkE O L (tkE O L p)) = 3
      · obtain ⟨nu5, na5, to5, g7⟩ := z1 c4
        rw [g7, Option.bind_some]
        exact ⟨_, rfl, _, rfl, Or.inl ⟨T, tkE O L (tkE O L p), hw, rfl, rfl, rfl, rfl, rfl, hr, rfl, rfl, rfl, by omega, e6, c4, hdone⟩⟩
      · obtain ⟨ps5, nu5, na5, to5, g7⟩ := z2 c4
        rw [g7, Option.bind_some]
        exact ⟨_, rfl, _, rfl, Or.inr ⟨1, _, rfl, rfl, rfl, by omega, hA2, mFail_sign h h2 hL hM e6 hdone c4⟩⟩
    · have c5' : isW O L M (tkE O L p) 5 = false := by simpa using c5
      rw [c5', if_neg Bool.false_ne_true, Option.bind_some, if_neg Bool.false_ne_true]
      by_cases c6 : isW O L M (tkE O L p) 6 = true
      · have k3 := (isW_1 c6).1
        obtain ⟨e5, e6, e7, e8⟩ := tkE_le e2 (Or.inl k3)
        have hA2 := tkA_lt O (M := M) hL e6
        obtain ⟨mp2, mat2, sp2, mto2, mwo2, mnu2, s2, hm2⟩ := m_skip h2 (M := M) hL hM e6 mto1 mat1 sp1 mnu1 mwo1
        rw [c6, if_pos rfl, if_pos rfl, (hm1.2.2.1 k3).1, s2, (hc1.2.1 k3).2.1, Option.bind_some]
        simp only
        obtain ⟨a1, a2⟩ := c_numX h h2 hL hM e6 (lo := 1) (hi := 60) (by omega) (by omega) (x := 1) (y := 60) rfl rfl ki pl to1 (nI (tkA O L M (tkE O L p))) nu1 na1
        obtain ⟨b1, b2⟩ := m_numX h h2 hL hM e6 hm2 (lo := 1) (hi := 60) (by omega) (by omega) (x := 1) (y := 60) rfl rfl sp2 fa fat got
        by_cases c2 : numOK O L M (tkE O L (tkE O L p)) 1 60
        · obtain ⟨na3, to3, g3⟩ := a1 c2
          obtain ⟨mp3, mat3, sp3, mto3, mwo3, mnu3, g4, hm3⟩ := b1 c2
          obtain ⟨e9, e10, e11, e12⟩ := tkE_le e6 (Or.inr (Or.inl c2.1))
          have hA3 := tkA_lt O (M := M) hL e10
          rw [g3, g4, Option.bind_some, Option.bind_some, if_pos rfl, if_pos rfl, show (2 : Int32).toNatClampNeg = 2 from rfl]
          have hdone : mDone O L M (tkE O L (tkE O L (tkE O L p))) fa fat (upT T 2 0 (tkV O L (tkE O L (tkE O L p)))) X 1 mn (true, fa, fat, 1, mp3, mat3, sp3, mto3, mwo3, mnu3, nI (tkV O L (tkE O L (tkE O L p))), upd hh 2 (nI (tkV O L (tkE O L (tkE O L p)))), mn, nI X) := ⟨rfl, rfl, rfl, rfl, hm3, upT2_M hrm _, rfl, rfl⟩
          obtain ⟨z1, z2⟩ := c_semi h (M := M) hL e10 ki pl to3 (nI (tkA O L M (tkE O L (tkE O L p)))) (nI (tkV O L (tkE O L (tkE O L p)))) na3
          by_cases c4 : tkK O L M (tkE O L (tkE O L (tkE O L p))) = 3
          · obtain ⟨nu5, na5, to5, g7⟩ := z1 c4
            rw [g7, Option.bind_some]
            exact ⟨_, rfl, _, rfl, Or.inl ⟨_, tkE O L (tkE O L (tkE O L p)), upT2_wf hw c2.2.2, rfl, rfl, rfl, rfl, rfl, upT2_C hr _, upT_n T (by omega), upT_n T (by omega), (upT2_told T _).2, by omega, e10, c4, hdone⟩⟩
          · obtain ⟨ps5, nu5, na5, to5, g7⟩ := z2 c4
            rw [g7, Option.bind_some]
            exact ⟨_, rfl, _, rfl, Or.inr ⟨1, _, rfl, rfl, rfl, by omega, hA3, mFail_sign h h2 hL hM e10 hdone c4⟩⟩
        · obtain ⟨ps3, nu3, na3, to3, g3⟩ := a2 c2
          rw [g3, b2 c2, Option.bind_some, Option.bind_some, if_neg Bool.false_ne_true, if_neg Bool.false_ne_true]
          exact ⟨_, rfl, _, rfl, Or.inr ⟨_, _, rfl, rfl, rfl, by unfold numF; split <;> omega, hA2, Or.inl ⟨rfl, rfl, rfl⟩⟩⟩
      · have c6' : isW O L M (tkE O L p) 6 = false := by simpa using c6
        rw [c6', if_neg Bool.false_ne_true, if_neg Bool.false_ne_true]
        unfold dn_X6_refuse dn_X12_bad
        exact ⟨_, rfl, _, rfl, Or.inr ⟨1, tkA O L M (tkE O L p), rfl, rfl, rfl, by omega, hA1, Or.inl ⟨rfl, rfl, hm1.1⟩⟩⟩
  · rw [if_neg c0, if_neg c0]
    unfold dn_X6_refuse dn_X12_bad
    exact ⟨_, rfl, _, rfl, Or.inr ⟨3, tkA O L M p, rfl, rfl, rfl, by omega, hA, Or.inl ⟨rfl, rfl, hm.1⟩⟩⟩
