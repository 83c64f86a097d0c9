/-! ===== pure rows: a BOOK is read ===== -/
def kOut (L : Nat) (by_ ta : Nat → Int32) (T : tT) (s : Nat → Int32) (dn mn rs : Nat → Int64) (ki thr ln fa why : Int32) (ba bf : Nat → Int32) (p v : Nat) (mp mat mto : Int32) (mwo : Int64) (mnu : Int32) (bd bw nd nt : Nat → Int32) (pl tp tn tt fat sp : Int32) (tna : Int64) : Prop :=
  (∃ n', n' ≤ 40 ∧ (∃ q1, gn_X6_readBook_0 (nI L) by_ (nI (T 1 0)) dn (nI v) (nI p) (nI (min L 600)) (nI v) ki pl tp tn tna tt bd bw = some q1 ∧ q1.1 = true ∧ q1.2.2.2.1 = nI n' ∧ q1.2.2.2.2.1 = ki ∧ ∃ nd' nt', bkR T n' q1.2.2.2.2.2.2.2.2.2.2.1 q1.2.2.2.2.2.2.2.2.2.2.2 nd' nt' ∧ ∃ mp' mat' sp' mto' mwo' mnu' fat', gn_X12_book_0 mn rs ta thr (nI L) ln mp 600 fa why (nI v) mat sp mto mwo mnu s nd fat nt ba bf = gn_X12_book_1 mn rs ta 0 thr (nI L) ln mp' 600 fa why (nI n') mat' sp' mto' mwo' mnu' (upd s 3 0) nd' fat' nt' ba bf)) ∨ (∃ f a, (∃ q1, gn_X6_readBook_0 (nI L) by_ (nI (T 1 0)) dn (nI v) (nI p) (nI (min L 600)) (nI v) ki pl tp tn tna tt bd bw = some q1 ∧ q1.1 = false ∧ q1.2.2.2.2.1 = nI f ∧ q1.2.2.2.2.2.1 = nI a) ∧ ∃ q2, gn_X12_book_0 mn rs ta thr (nI L) ln mp 600 fa why (nI v) mat sp mto mwo mnu s nd fat nt ba bf = some q2 ∧ q2.1 = -2 - nI a ∧ q2.2.1 = thr ∧ q2.2.2.2.1 = ln ∧ q2.2.2.2.2.2.2.1 = nI f ∧ q2.2.2.2.2.2.2.2.1 = why ∧ q2.2.2.2.2.2.2.2.2.2.2.2.2.2.2.1 = s)
theorem m_blineNo {O : Nat → Nat} {by_ ta : Nat → Int32} (h : ∀ k, k < 940 → O k < 256 ∧ by_ k = sbT (O k)) (h2 : ∀ k, k < 940 → O k < 256 ∧ ta k = sbT (O k)) {L M p : Nat} (hL : L ≤ 940) (hM : M ≤ 940) (hp : p ≤ L) {mp mat mto : Int32} {mwo : Int64} {mnu : Int32} (hm : mTk O L M p mp mat mto mwo mnu) (hk : tkK O L M p = 4) (sp fa fat n : Int32) {mn rs : Nat → Int64} (hrs : resI rs) (nd nt s : Nat → Int32) : ∃ q4, dn_X12_readLine (nI L) mp (nI M) mto mat sp mnu fa fat mwo n mn nd nt rs s ta = some q4 ∧ bFail L M ta q4 1 (tkA O L M p) := by
  have hN : isN O L M p = false := by unfold isN; rw [hk]; rfl
  unfold dn_X12_readLine dn_X12_bad
  rw [m_isName hm hrs, hN, Option.bind_some, if_neg Bool.false_ne_true]
  exact ⟨_, rfl, Or.inl ⟨rfl, rfl, hm.1⟩⟩
theorem m_bstop {L : Nat} {ta : Nat → Int32} {q : bLn} {f a : Nat} (hf : bFail L 600 ta q f a) {mto : Int32} (hto : ¬ mto = 0) (mn rs : Nat → Int64) (thr ln mp mat sp mnu fa fat why n : Int32) (mwo : Int64) (nd nt s ba bf : Nat → Int32) (hline : dn_X12_readLine (nI L) mp 600 mto mat sp mnu fa fat mwo n mn nd nt rs s ta = some q) : ∃ q2, gn_X12_book_0 mn rs ta thr (nI L) ln mp 600 fa why n mat sp mto mwo mnu s nd fat nt ba bf = some q2 ∧ q2.1 = -2 - nI a ∧ q2.2.1 = thr ∧ q2.2.2.2.1 = ln ∧ q2.2.2.2.2.2.2.1 = nI f ∧ q2.2.2.2.2.2.2.2.1 = why ∧ q2.2.2.2.2.2.2.2.2.2.2.2.2.2.2.1 = s := by
  rw [gq_X12_book_0, if_neg hto, hline, Option.bind_some]
  rcases hf with ⟨a1, a2, a3⟩ | ⟨a1, q3, a2, a3, a4, a5⟩
  · rw [if_neg (by rw [a1]; exact Bool.false_ne_true)]
    exact ⟨_, rfl, by show _ - _ = _; rw [a3], rfl, rfl, a2, rfl, rfl⟩
  · have a2' : dn_X12_sign (nI L) q.2.1 600 q.2.2.2.2.1 q.2.2.1 q.2.2.2.1 q.2.2.2.2.2.2.1 q.2.2.2.2.2.2.2.2.1 q.2.2.2.2.2.2.2.2.2.1 q.2.2.2.2.2.1 ta 59 = some q3 := a2
    rw [if_pos a1, a2', Option.bind_some, if_neg (by rw [a3]; exact Bool.false_ne_true)]
    exact ⟨_, rfl, by show _ - _ = _; rw [a5], rfl, rfl, a4, rfl, rfl⟩
theorem k_step {O : Nat → Nat} {by_ ta : Nat → Int32} (h : ∀ k, k < 940 → O k < 256 ∧ by_ k = sbT (O k)) (h2 : ∀ k, k < 940 → O k < 256 ∧ ta k = sbT (O k)) {L : Nat} (hL : L ≤ 940) {T : tT} (hw : twf T) {s : Nat → Int32} (hs1 : s 1 = nI (T 1 0)) {dn mn rs : Nat → Int64} (hrs : resI rs) (hdn : nmsR (T 1 0) 10 dn mn) (ki thr ln fa why : Int32) (ba bf : Nat → Int32) (p0 : Nat) (ih : ∀ (p v : Nat), p0 < p → p ≤ L → v ≤ p → v ≤ 40 → p ≤ 600 → ∀ {mp mat mto : Int32} {mwo : Int64} {mnu : Int32} (hm : mTk O L 600 p mp mat mto mwo mnu) {bd bw nd nt : Nat → Int32} (hb : bkR T v bd bw nd nt) (pl tp tn tt fat sp : Int32) (tna : Int64), kOut L by_ ta T s dn mn rs ki thr ln fa why ba bf p v mp mat mto mwo mnu bd bw nd nt pl tp tn tt fat sp tna) : ∀ (p v : Nat), p0 = p → p ≤ L → v ≤ p → v ≤ 40 → p ≤ 600 → ∀ {mp mat mto : Int32} {mwo : Int64} {mnu : Int32} (hm : mTk O L 600 p mp mat mto mwo mnu) {bd bw nd nt : Nat → Int32} (hb : bkR T v bd bw nd nt) (pl tp tn tt fat sp : Int32) (tna : Int64), kOut L by_ ta T s dn mn rs ki thr ln fa why ba bf p v mp mat mto mwo mnu bd bw nd nt pl tp tn tt fat sp tna := by
  intro p v hmL hp hv hv4 hp6 mp mat mto mwo mnu hm bd bw nd nt hb pl tp tn tt fat sp tna
  have hkl := tkK_le O L 600 p
  obtain ⟨ps, nu, na, to, e, hc⟩ := c_next h (M := 600) hL hp tt tp tn tna
  have hst : gn_X6_readBook_0 (nI L) by_ (nI (T 1 0)) dn (nI v) (nI p) (nI (min L 600)) (nI v) ki pl tp tn tna tt bd bw = if to = 0 then Option.bind (dn_X6_isWholeText ki pl (nI L) (nI (tkA O L 600 p)) 600) fun q7 => some (q7.1, ps, nI (min L 600), nI v, q7.2.1, q7.2.2, nI (tkA O L 600 p), nu, na, to, bd, bw) else Option.bind (dn_X6_readBookLine (nI v) ki pl bd bw (nI L) to (nI (tkA O L 600 p)) nu na ps (nI (min L 600)) by_ (nI (T 1 0)) dn) fun q5 => if q5.1 = true then gn_X6_readBook_0 (nI L) by_ (nI (T 1 0)) dn (nI (v + 1)) q5.2.1 (nI (min L 600)) (nI (v + 1)) q5.2.2.2.2.2.2.1 q5.2.2.2.2.2.2.2.1 q5.2.2.1 q5.2.2.2.1 q5.2.2.2.2.1 q5.2.2.2.2.2.1 q5.2.2.2.2.2.2.2.2.1 q5.2.2.2.2.2.2.2.2.2 else some (false, q5.2.1, nI (min L 600), nI v, q5.2.2.2.2.2.2.1, q5.2.2.2.2.2.2.2.1, q5.2.2.1, q5.2.2.2.1, q5.2.2.2.2.1, q5.2.2.2.2.2.1, q5.2.2.2.2.2.2.2.2.1, q5.2.2.2.2.2.2.2.2.2) := by
    rw [gq_X6_readBook_0, if_neg (show ¬ (600 : Int32) < nI v from nI_nlt (a := 600) (b := v) (by omega) (by omega)), e, Option.bind_some, nI_1]
  have hmt : (mto = 0) = (tkK O L 600 p = 0) := by rw [hm.2.1, pz_e0 (by omega)]
  unfold kOut
  rw [hst]
  by_cases c0 : tkK O L 600 p = 0
  · have hLM := tkK_0L c0
    left
    refine ⟨v, hv4, ?_⟩
    unfold dn_X6_isWholeText
    rw [if_pos (hc.1 c0), if_pos (show nI L ≤ 600 from nI_le (b := 600) hLM (by omega)), Option.bind_some]
    exact ⟨_, rfl, rfl, rfl, rfl, nd, nt, hb, mp, mat, sp, mto, mwo, mnu, fat, by rw [gq_X12_book_0, if_pos (by rw [hmt]; exact c0)]; rfl⟩
  · have hto0 : ¬ mto = 0 := by rw [hmt]; exact c0
    by_cases c1 : to = 0
    · have c4 : tkK O L 600 p = 4 := by
        apply Classical.byContradiction
        intro x
        exact (cTk_not hc).2.2 c0 x c1
      have hML : 600 < L := by
        rcases hc.2.2.2.2 c4 with x | x
        · rw [x] at c1; exact absurd c1 (by decide)
        · exact x.2
      right
      obtain ⟨q4, g1, g2⟩ := m_blineNo h h2 hL (by omega) hp hm c4 sp fa fat (nI v) (mn := mn) hrs nd nt s
      refine ⟨1, tkA O L 600 p, ?_, m_bstop g2 hto0 mn rs thr ln mp mat sp mnu fa fat why (nI v) mwo nd nt s ba bf g1⟩
      unfold dn_X6_isWholeText dn_X6_refuse
      rw [if_pos c1, if_neg (show ¬ nI L ≤ 600 from nI_ge (a := 600) hML (by omega)), Option.bind_some, if_neg Bool.false_ne_true, Option.bind_some]
      exact ⟨_, rfl, rfl, rfl, rfl⟩
    · obtain ⟨q5, g1, q4, g2, g3⟩ := l_book h h2 hL (M := 600) (by omega) hp hc hm hw hs1 hrs hdn hv4 hb ki pl fa fat sp
      rw [if_neg c1, g1, Option.bind_some]
      rcases g3 with ⟨pS, y1, y2, y3, y4, y5, y6, y7, y8, y9, y10, y11, y12, y13⟩ | ⟨f, a, y1, y2, y3, y4⟩
      · obtain ⟨e5, e6, e7, e8⟩ := tkE_le y8 (Or.inr (Or.inr y9))
        have e9 := tkE_3 y9
        obtain ⟨mp', mat', sp', mto', mwo', mnu', s1, s2⟩ := (m_sign h2 hL (M := 600) (by omega) y8 y13 q4.2.2.2.1 q4.2.2.2.2.2.2.2.2.1 q4.2.2.2.2.2.2.2.2.2.1).1 y9
        have IH := ih (tkE O L pS) (v + 1) (by omega) e6 (by omega) (by omega) (by omega) s2 y6 q5.2.2.2.2.2.2.2.1 q5.2.2.1 q5.2.2.2.1 q5.2.2.2.2.2.1 q4.2.2.2.2.2.2.2.2.2.1 sp' q5.2.2.2.2.1
        have hmodel : gn_X12_book_0 mn rs ta thr (nI L) ln mp 600 fa why (nI v) mat sp mto mwo mnu s nd fat nt ba bf = gn_X12_book_0 mn rs ta thr (nI L) ln mp' 600 fa why (nI (v + 1)) mat' sp' mto' mwo' mnu' s q4.2.2.2.2.2.2.2.1 q4.2.2.2.2.2.2.2.2.2.1 q4.2.2.2.2.2.2.2.2.2.2 ba bf := by
          rw [gq_X12_book_0, if_neg hto0]
          rw [show (600 : Int32) = nI 600 from rfl, g2, Option.bind_some, if_pos y10, s1, Option.bind_some, if_pos rfl, nI_1]
          dsimp only
          rw [y11]
        rw [if_pos y1, hmodel, y2, y3]
        exact IH
      · right
        rw [if_neg (by rw [y1]; exact Bool.false_ne_true)]
        exact ⟨f, a, ⟨_, rfl, rfl, y2, y3⟩, m_bstop y4 hto0 mn rs thr ln mp mat sp mnu fa fat why (nI v) mwo nd nt s ba bf g2⟩
theorem k_loop {O : Nat → Nat} {by_ ta : Nat → Int32} (h : ∀ k, k < 940 → O k < 256 ∧ by_ k = sbT (O k)) (h2 : ∀ k, k < 940 → O k < 256 ∧ ta k = sbT (O k)) {L : Nat} (hL : L ≤ 940) {T : tT} (hw : twf T) {s : Nat → Int32} (hs1 : s 1 = nI (T 1 0)) {dn mn rs : Nat → Int64} (hrs : resI rs) (hdn : nmsR (T 1 0) 10 dn mn) (ki thr ln fa why : Int32) (ba bf : Nat → Int32) : ∀ (m : Nat), ∀ (p v : Nat), L - p ≤ m → p ≤ L → v ≤ p → v ≤ 40 → p ≤ 600 → ∀ {mp mat mto : Int32} {mwo : Int64} {mnu : Int32} (hm : mTk O L 600 p mp mat mto mwo mnu) {bd bw nd nt : Nat → Int32} (hb : bkR T v bd bw nd nt) (pl tp tn tt fat sp : Int32) (tna : Int64), kOut L by_ ta T s dn mn rs ki thr ln fa why ba bf p v mp mat mto mwo mnu bd bw nd nt pl tp tn tt fat sp tna := by
  intro m
  induction m with
  | zero =>
    intro p v hmL hp hv hv4 hp6 mp mat mto mwo mnu hm bd bw nd nt hb pl tp tn tt fat sp tna
    exact k_step h h2 hL hw hs1 hrs hdn ki thr ln fa why ba bf p (fun p' v' a b => by omega) p v rfl hp hv hv4 hp6 hm hb pl tp tn tt fat sp tna
  | succ m ih =>
    intro p v hmL hp hv hv4 hp6 mp mat mto mwo mnu hm bd bw nd nt hb pl tp tn tt fat sp tna
    exact k_step h h2 hL hw hs1 hrs hdn ki thr ln fa why ba bf p (fun p' v' a b => ih p' v' (by omega) b) p v rfl hp hv hv4 hp6 hm hb pl tp tn tt fat sp tna
/-! judged line by line -/
theorem wrT_le (T : tT) (D : tD) (d t : Nat) : wrT T D d t ≤ 6 := by
  unfold wrT
  repeat' split
  all_goals omega
theorem k_judge (T : tT) (hw : twf T) (b : Nat → Int32) (hb : ∀ d, d < T 1 0 → b d = nI (T 9 d)) (e : Nat → Int32) (he : ∀ d, d < T 1 0 → e d = nI (T 13 d)) (l : Nat → Int32) (hl : ∀ d, d < T 1 0 → l d = nI (T 8 d)) (m_ : Nat → Int32) (hm : ∀ p, p < T 0 0 → m_ p = nI (T 6 p)) (y : Nat → Int32) (hy : ∀ d, d < T 1 0 → y d = nI (T 10 d)) {n : Nat} (hn : n ≤ 40) {bd bw nd nt : Nat → Int32} (hb2 : bkR T n bd bw nd nt) (x1 x2 x4 x5 x6 x7 x8 : Int32) (x9 : Int64) (x10 x11 : Int32) (mn rs : Nat → Int64) (ta : Nat → Int32) (thr sz ln z1 z2 fa z3 z4 z5 : Int32) (z6 : Int64) (z7 fat : Int32) : ∀ (m k : Nat) (D : tD) (hD : dwf T D) (dl wy fd : Nat → Int32) (hB : cB T D dl wy fd) (s : Nat → Int32) (hs : mT T s) (hs3 : mB D s) (w : Int32) (ba bf : Nat → Int32), k + m = n → ∃ q1, gn_X11_book_0 (nI (T 2 0)) b e l m_ y (nI k) w x1 x2 (nI n) x4 x5 x6 x7 x9 x8 bd bw x11 (nI D.1) dl wy fd = some q1 ∧ ∃ q2, gn_X12_book_1 mn rs ta (nI k) thr sz ln z1 z2 fa w (nI n) z3 z4 z5 z6 z7 s nd fat nt ba bf = some q2 ∧ q1.1 = q2.1 ∧ q1.2.1 = q2.2.2.2.2.2.2.2.1 ∧ q1.2.2.2.2.2.1 = x4 ∧ q1.2.2.2.2.2.2.2.2.2.2.2.2.2.1 = x11 ∧ q2.2.1 = thr ∧ q2.2.2.2.1 = ln ∧ q2.2.2.2.2.2.2.1 = fa ∧ ∃ D', dwf T D' ∧ q1.2.2.2.2.2.2.2.2.2.2.2.2.2.2.1 = nI D'.1 ∧ cB T D' q1.2.2.2.2.2.2.2.2.2.2.2.2.2.2.2.1 q1.2.2.2.2.2.2.2.2.2.2.2.2.2.2.2.2.1 q1.2.2.2.2.2.2.2.2.2.2.2.2.2.2.2.2.2 ∧ mT T q2.2.2.2.2.2.2.2.2.2.2.2.2.2.2.1 ∧ mB D' q2.2.2.2.2.2.2.2.2.2.2.2.2.2.2.1
  | 0, k, D, hD, dl, wy, fd, hB, s, hs, hs3, w, ba, bf, hk => by
    rw [gq_X11_book_0, gq_X12_book_1, if_pos (nI_le (by omega) (by omega)), if_pos (nI_le (by omega) (by omega))]
    exact ⟨_, rfl, _, rfl, rfl, rfl, rfl, rfl, rfl, rfl, rfl, D, hD, rfl, hB, hs, hs3⟩
  | m + 1, k, D, hD, dl, wy, fd, hB, s, hs, hs3, w, ba, bf, hk => by
    obtain ⟨d, t, hd, ht, b1, b2, b3, b4⟩ := hb2 k (by omega)
    obtain ⟨ba1, bf1, g1⟩ := m_wrong T hw s hs D hD hs3 ba bf hd ht
    have g2 := c_tryDeal T hw D hD dl wy fd hB b hb e he l hl m_ hm y hy hd ht
    have hwr := wrT_le T D d t
    rw [gq_X11_book_0, gq_X12_book_1, if_neg (nI_ge (a := k) (b := n) (by omega) (by omega)), if_neg (nI_ge (a := k) (b := n) (by omega) (by omega)), inb_nI (show k < 40 by omega) (by omega), if_pos rfl, if_pos rfl, if_pos rfl, if_pos rfl, nI_clamp (by omega), b1, b2, b3, b4, g1, g2, Option.bind_some]
    dsimp only
    simp only [eq_self, if_true, pz_le0 (show wrT T D d t < 2 ^ 31 by omega)]
    by_cases c : wrT T D d t = 0
    · have hdw := wrT_dwf hD hd ht c
      have hlt : D.1 < 30 := by
        have := hdw.le
        have h30 := hw.d
        rw [pT_1] at this
        omega
      obtain ⟨s', e1, e2, e3⟩ := m_put D s hs3 hlt d t
      rw [if_pos c, if_pos c, e1, Option.bind_some, Option.bind_some, if_pos rfl, nI_1, c]
      exact k_judge T hw b hb e he l hl m_ hm y hy hn hb2 x1 x2 x4 x5 x6 x7 x8 x9 x10 x11 mn rs ta thr sz ln z1 z2 fa z3 z4 z5 z6 z7 fat m (k + 1) (pT D d t) hdw _ _ _ (hB.put d t) s' (hs.same hw e3) e2 _ ba1 bf1 (by omega)
    · rw [if_neg c, if_neg c, Option.bind_some]
      dsimp only
      rw [if_neg (by rw [pz_e0 (by omega)]; exact c)]
      exact ⟨_, rfl, _, rfl, rfl, rfl, rfl, rfl, rfl, rfl, rfl, D, hD, rfl, hB, hs, hs3⟩
