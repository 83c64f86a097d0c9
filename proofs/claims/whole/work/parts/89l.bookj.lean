/-! ===== pure rows: BOOK ===== -/
theorem j_book (T : tT) (hw : twf T) (D : tD) (hD : dwf T D) (dl wy fd : Nat → Int32) (hB : cB T D dl wy fd) (b : Nat → Int32) (hb : ∀ d, d < T 1 0 → b d = nI (T 9 d)) (e : Nat → Int32) (he : ∀ d, d < T 1 0 → e d = nI (T 13 d)) (l : Nat → Int32) (hl : ∀ d, d < T 1 0 → l d = nI (T 8 d)) (m : Nat → Int32) (hm : ∀ p, p < T 0 0 → m p = nI (T 6 p)) (y : Nat → Int32) (hy : ∀ d, d < T 1 0 → y d = nI (T 10 d)) (s : Nat → Int32) (hs : mT T s) (hs3 : mB D s) {by_ ta : Nat → Int32} (ht : tpS by_ ta) {L : Nat} (hL : L ≤ 940) {rs dn mn : Nat → Int64} (hrs : resI rs) (hdn : nmsR (T 1 0) 10 dn mn) (bd bw : Nat → Int32) (tt tp tn : Int32) (tna : Int64) (mto mat msp mnu mfa : Int32) (mwo : Int64) (ba bf nd nt : Nat → Int32) : ∃ q1, dn_X11_book (nI D.1) dl fd wy (nI (T 1 0)) (nI (T 2 0)) b dn e l m y bd bw (nI L) tt tp tn tna by_ = some q1 ∧ ∃ q2, dn_X12_book (nI L) mto mat msp mnu mfa mwo ba bf mn nd nt rs s ta = some q2 ∧ q1.1 = q2.1 ∧ q1.2.1 = q2.2.2.2.2.2.2.2.1 ∧ q1.2.2.2.2.2.1 = q2.2.2.2.2.2.2.1 ∧ q1.2.2.2.2.2.2.2.2.2.2.2.2.2.1 = 0 ∧ q2.2.1 = 0 ∧ q2.2.2.2.1 = 0 ∧ ∃ D', dwf T D' ∧ q1.2.2.2.2.2.2.2.2.2.2.2.2.2.2.1 = nI D'.1 ∧ cB T D' q1.2.2.2.2.2.2.2.2.2.2.2.2.2.2.2.1 q1.2.2.2.2.2.2.2.2.2.2.2.2.2.2.2.2.1 q1.2.2.2.2.2.2.2.2.2.2.2.2.2.2.2.2.2 ∧ mT T q2.2.2.2.2.2.2.2.2.2.2.2.2.2.2.1 ∧ mB D' q2.2.2.2.2.2.2.2.2.2.2.2.2.2.2.1 := by
  obtain ⟨O, hO⟩ := tp_oct ht
  have h : ∀ k, k < 940 → O k < 256 ∧ by_ k = sbT (O k) := fun k hk => ⟨(hO k hk).1, (hO k hk).2.1⟩
  have h2 : ∀ k, k < 940 → O k < 256 ∧ ta k = sbT (O k) := fun k hk => ⟨(hO k hk).1, (hO k hk).2.2⟩
  have hstop : (if (600 : Int32) < nI L then (600 : Int32) else nI L) = nI (min L 600) := by
    simp only [show (600 : Int32) = nI 600 from rfl, pz_lt (show 600 < 2 ^ 31 by omega) (show L < 2 ^ 31 by omega)]
    by_cases c : 600 < L
    · rw [if_pos c, Nat.min_eq_right (by omega)]
    · rw [if_neg c, Nat.min_eq_left (by omega)]
  obtain ⟨mp1, mat1, sp1, mto1, mwo1, mnu1, s1, hm1⟩ := m_skip h2 (M := 600) hL (by omega) (Nat.zero_le L) mto mat msp mnu mwo
  have s1' : dn_X12_skip (nI L) 0 600 mto mat msp mnu mwo ta = some (mp1, mat1, sp1, mto1, mwo1, mnu1) := s1
  have hmod : dn_X12_book (nI L) mto mat msp mnu mfa mwo ba bf mn nd nt rs s ta = gn_X12_book_0 mn rs ta 0 (nI L) 0 mp1 600 0 0 (nI 0) mat1 sp1 mto1 mwo1 mnu1 s nd mfa nt ba bf := by
    unfold dn_X12_book dn_X12_taken
    rw [Option.bind_some]
    dsimp only
    rw [s1', Option.bind_some]
    rfl
  have hcls : dn_X6_readBook bd bw (nI L) tt tp tn tna by_ (nI (T 1 0)) dn = gn_X6_readBook_0 (nI L) by_ (nI (T 1 0)) dn (nI 0) (nI 0) (nI (min L 600)) (nI 0) 0 0 tp tn tna tt bd bw := by
    unfold dn_X6_readBook dn_X6_start dn_X9_startReading
    rw [Option.bind_some, Option.bind_some, hstop]
    rfl
  have main := k_loop h h2 hL hw hs.2.1 hrs hdn 0 0 0 0 0 ba bf L 0 0 (by omega) (Nat.zero_le L) (Nat.le_refl _) (by omega) (by omega) hm1 (bd := bd) (bw := bw) (nd := nd) (nt := nt) (fun i hi => absurd hi (Nat.not_lt_zero _)) 0 tp tn tt mfa sp1 tna
  unfold dn_X11_book dn_X9_cut
  rw [hcls, hmod]
  unfold kOut at main
  rcases main with ⟨n', z1, q1, y1, y2, y3, y4, nd', nt', y5, mp', mat', sp', mto', mwo', mnu', fat', y6⟩ | ⟨f, a, ⟨q1, y1, y2, y3, y4⟩, q2, w1, w2, w3, w4, w5, w6, w7⟩
  · rw [y1, Option.bind_some, Option.bind_some, if_pos y2, y6]
    unfold dn_X0_clear
    rw [Option.bind_some, y3]
    have hs' : mT T (upd s 3 (nI 0)) := hs.same hw (fun k _ hk => pk_un hk)
    obtain ⟨r1, g1, r2, g2, g3, g4, g5, g6, g7, g8, g9, g10⟩ := k_judge T hw b hb e he l hl m hm y hy z1 y5 q1.2.1 q1.2.2.1 q1.2.2.2.2.1 q1.2.2.2.2.2.1 q1.2.2.2.2.2.2.1 q1.2.2.2.2.2.2.2.1 q1.2.2.2.2.2.2.2.2.2.1 q1.2.2.2.2.2.2.2.2.1 q1.2.2.2.2.2.2.2.2.2.1 0 mn rs ta 0 (nI L) 0 mp' 600 0 mat' sp' mto' mwo' mnu' fat' n' 0 (0, D.2) (hD.pop (Nat.zero_le _)) dl wy fd (hB.pop (Nat.zero_le _)) (upd s 3 (nI 0)) hs' (hs3.pop (Nat.zero_le _)) 0 ba bf (by omega)
    refine ⟨r1, g1, r2, g2, g3, g4, ?_, g6, g7, g8, g10⟩
    rw [g5, g9]; exact y4
  · have w1' : gn_X12_book_0 mn rs ta 0 (nI L) 0 mp1 600 0 0 (nI 0) mat1 sp1 mto1 mwo1 mnu1 s nd mfa nt ba bf = some q2 := w1
    rw [y1, Option.bind_some, Option.bind_some, if_neg (by rw [y2]; exact Bool.false_ne_true), w1']
    refine ⟨_, rfl, q2, rfl, ?_, ?_, ?_, rfl, w3, w4, D, hD, rfl, hB, by rw [w7]; exact hs, by rw [w7]; exact hs3⟩
    · show _ - _ = _
      rw [y4, w2]
    · show (0 : Int32) = _
      rw [w6]
    · show _ = _
      rw [w5]; exact y3
