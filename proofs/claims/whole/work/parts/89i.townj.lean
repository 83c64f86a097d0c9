/-! ===== pure rows: TOWN ===== -/
def zT : tT := fun _ _ => 0
theorem zT_wf : twf zT := ⟨Nat.zero_le _, Nat.zero_le _, Nat.zero_le _, fun p hp => absurd hp (Nat.not_lt_zero _), fun d hd => absurd hd (Nat.not_lt_zero _)⟩
theorem zT_C (bo di li le br ye lg bg ei : Nat → Int32) : rC zT 0 0 0 0 bo di li le br ye lg bg ei := ⟨rfl, rfl, rfl, rfl, fun p hp => absurd hp (Nat.not_lt_zero _), fun d hd => absurd hd (Nat.not_lt_zero _)⟩
theorem zT_M {hh : Nat → Int32} (h : ∀ k, k < 224 → hh k = 0) : rM zT hh := ⟨⟨h 0 (by omega), h 1 (by omega), h 2 (by omega), fun p hp => absurd hp (Nat.not_lt_zero _), fun d hd => absurd hd (Nat.not_lt_zero _)⟩, h 3 (by omega), fun k _ hk => h (34 + k) (by omega)⟩
theorem m_town2 {T : tT} (hw : twf T) {hh : Nat → Int32} (hrm : rM T hh) (rs : Nat → Int64) (ta : Nat → Int32) (thr sz ln p lim fa ls limd hl at_ sp to nu fat got stl : Int32) (wo : Int64) (mn : Nat → Int64) (s : Nat → Int32) : ∃ s' mn', gn_X12_town_2 rs ta 0 thr sz ln p lim fa ls limd hl at_ sp to wo nu hh fat got mn s stl = some (ls, thr, sz, ln, p, lim, fa, ls, limd, hl, at_, sp, to, wo, nu, hh, fat, got, mn', s', 1) ∧ mT T s' ∧ s' 3 = 0 ∧ ∀ k, k < 40 → mn' k = mn (40 + k) := by
  obtain ⟨s', h1, h2⟩ := pz_rel0 (fun k (x : Nat → Int32) => gn_X12_town_2 rs ta (nI k) thr sz ln p lim fa ls limd hl at_ sp to wo nu hh fat got mn x stl) 284 (fun k x => ∀ j, j < k → j < 224 → x j = hh j) s (fun j hj => by omega) (fun k x hk hx => by
    show ∃ a', _ ∧ gn_X12_town_2 _ _ _ _ _ _ _ _ _ _ _ _ _ _ _ _ _ _ _ _ _ _ _ = gn_X12_town_2 _ _ _ _ _ _ _ _ _ _ _ _ _ _ _ _ _ _ _ _ _ _ _
    by_cases c : 224 ≤ k
    · refine ⟨upd x k 0, fun j hj hj2 => ?_, ?_⟩
      · rw [pk_un (by omega)]; exact hx j (by omega) hj2
      · rw [gq_X12_town_2, if_neg (show ¬ (284 : Int32) ≤ nI k from nI_ge (b := 284) hk (by omega)), if_pos (show (224 : Int32) ≤ nI k from nI_le (a := 224) c (by omega)), inb_nI hk (by omega), if_pos rfl, nI_clamp (by omega), nI_1]
    · refine ⟨upd x k (hh k), fun j hj hj2 => ?_, ?_⟩
      · by_cases e : j = k
        · rw [e, pk_us]
        · rw [pk_un e]; exact hx j (by omega) hj2
      · rw [gq_X12_town_2, if_neg (show ¬ (284 : Int32) ≤ nI k from nI_ge (b := 284) hk (by omega)), if_neg (show ¬ (224 : Int32) ≤ nI k from nI_ge (b := 224) (by omega) (by omega)), inb_nI (show k < 224 by omega) (by omega), if_pos rfl, inb_nI hk (by omega), if_pos rfl, nI_clamp (by omega), nI_1])
  obtain ⟨mn', h3, h4⟩ := pz_rel0 (fun k (x : Nat → Int64) => gn_X12_town_3 rs ta (nI k) thr sz ln p lim fa ls limd hl at_ sp to wo nu hh fat got x s' stl) 40 (fun k x => (∀ j, j < k → x j = mn (40 + j)) ∧ ∀ j, 40 ≤ j → x j = mn j) mn ⟨fun j hj => by omega, fun j hj => rfl⟩ (fun k x hk hx => by
    show ∃ a', _ ∧ gn_X12_town_3 _ _ _ _ _ _ _ _ _ _ _ _ _ _ _ _ _ _ _ _ _ _ _ = gn_X12_town_3 _ _ _ _ _ _ _ _ _ _ _ _ _ _ _ _ _ _ _ _ _ _ _
    refine ⟨vp_updL x k (x (40 + k)), ⟨fun j hj => ?_, fun j hj => ?_⟩, ?_⟩
    · by_cases e : j = k
      · rw [e, pk_uLs]; exact hx.2 _ (by omega)
      · rw [pk_uLn e]; exact hx.1 j (by omega)
    · rw [pk_uLn (by omega)]; exact hx.2 j hj
    · rw [gq_X12_town_3, if_neg (show ¬ (40 : Int32) ≤ nI k from nI_ge (b := 40) hk (by omega)), show (40 : Int32) = nI 40 from rfl, nI_add, inb_nI (show 40 + k < 80 by omega) (by omega), if_pos rfl, inb_nI (show k < 80 by omega) (by omega), if_pos rfl, nI_clamp (by omega), nI_clamp (by omega), nI_1])
  have h2' : gn_X12_town_2 rs ta 0 thr sz ln p lim fa ls limd hl at_ sp to wo nu hh fat got mn s stl = gn_X12_town_2 rs ta (nI 284) thr sz ln p lim fa ls limd hl at_ sp to wo nu hh fat got mn s' stl := h2
  have h4' : gn_X12_town_3 rs ta 0 thr sz ln p lim fa ls limd hl at_ sp to wo nu hh fat got mn s' stl = gn_X12_town_3 rs ta (nI 40) thr sz ln p lim fa ls limd hl at_ sp to wo nu hh fat got mn' s' stl := h4
  refine ⟨s', mn', ?_, mT.same hw hrm.1 (fun k hk _ => h1 k (by omega) hk), by rw [h1 3 (by omega) (by omega)]; exact hrm.2.1, h3.1⟩
  rw [h2', gq_X12_town_2, if_pos (show (284 : Int32) ≤ nI 284 by decide), h4', gq_X12_town_3, if_pos (show (40 : Int32) ≤ nI 40 by decide)]
theorem m_town0 (rs : Nat → Int64) (ta : Nat → Int32) (thr sz ln p lim fa ls limd hl at_ sp to nu fat got stl : Int32) (wo : Int64) (mn : Nat → Int64) (s hh : Nat → Int32) : ∃ h', (∀ k, k < 224 → h' k = 0) ∧ gn_X12_town_0 rs ta 0 thr sz ln p lim fa ls limd hl at_ sp to wo nu hh fat got mn s stl = Option.bind (dn_X12_skip sz p lim to at_ sp nu wo ta) fun q3 => gn_X12_town_1 rs ta thr sz ln q3.1 lim fa ls limd hl q3.2.1 q3.2.2.1 q3.2.2.2.1 q3.2.2.2.2.1 q3.2.2.2.2.2 h' fat got mn s stl := by
  obtain ⟨h', h1, h2⟩ := pz_rel0 (fun k (x : Nat → Int32) => gn_X12_town_0 rs ta (nI k) thr sz ln p lim fa ls limd hl at_ sp to wo nu x fat got mn s stl) 224 (fun k x => ∀ j, j < k → x j = 0) hh (fun j hj => by omega) (fun k x hk hx => by
    show ∃ a', _ ∧ gn_X12_town_0 _ _ _ _ _ _ _ _ _ _ _ _ _ _ _ _ _ _ _ _ _ _ _ = gn_X12_town_0 _ _ _ _ _ _ _ _ _ _ _ _ _ _ _ _ _ _ _ _ _ _ _
    refine ⟨upd x k 0, fun j hj => ?_, ?_⟩
    · by_cases e : j = k
      · rw [e, pk_us]
      · rw [pk_un e]; exact hx j (by omega)
    · rw [gq_X12_town_0, if_neg (show ¬ (224 : Int32) ≤ nI k from nI_ge (b := 224) hk (by omega)), inb_nI hk (by omega), if_pos rfl, nI_clamp (by omega), nI_1])
  have h2' : gn_X12_town_0 rs ta 0 thr sz ln p lim fa ls limd hl at_ sp to wo nu hh fat got mn s stl = gn_X12_town_0 rs ta (nI 224) thr sz ln p lim fa ls limd hl at_ sp to wo nu h' fat got mn s stl := h2
  refine ⟨h', h1, ?_⟩
  rw [h2', gq_X12_town_0, if_pos (show (224 : Int32) ≤ nI 224 by decide)]
theorem j_town {by_ ta : Nat → Int32} (ht : tpS by_ ta) {L : Nat} (hL : L ≤ 940) {rs : Nat → Int64} (hrs : resI rs) (bz : Int32) (bo br bg oy di ei le lg li mg ye : Nat → Int32) (dn pn : Nat → Int64) (tt tp tn : Int32) (tna : Int64) (mto mat msp mnu mfa got stl : Int32) (mwo : Int64) (hh : Nat → Int32) (mn : Nat → Int64) (s : Nat → Int32) : ∃ q1, dn_X11_town bz bo br bg oy dn di ei le lg li mg pn ye (nI L) tt tp tn tna by_ = some q1 ∧ ∃ q2, dn_X12_town (nI L) mto mat msp mnu mfa mwo got stl hh mn rs s ta = some q2 ∧ q1.1 = q2.1 ∧ q1.2.2.2.2.2.2.2.2.2.2.2.2.2.2.2.2.2.2.2.2.2.2.2.2.2.2.2.2.2.2.2.2.1 = 0 ∧ q2.2.1 = 0 ∧ q2.2.2.2.1 = 0 ∧ q1.2.2.2.2.2.2.2.2.2.2.2.2.2.2.1 = q2.2.2.2.2.2.2.1 ∧ ((∃ T' O', q1.2.2.2.2.2.2.2.2.2.2.2.2.2.2.2.2.2.2.2.2.2.2.2.2.2.2.2.2.2.2.2.2.2.2 = true ∧ q1.2.2.2.2.2.2.2.2.2.2.2.2.2.2.2.2.2.2.2.2.2.2.2.2.2.2.2.2.2.2.2.2.2.1 = 0 ∧ twf T' ∧ rC T' q1.2.1 q1.2.2.1 q1.2.2.2.1 q1.2.2.2.2.1 q1.2.2.2.2.2.2.2.2.2.2.2.2.2.2.2.2.2.2.2.2.2.2.2.2.2.2.2.2.2.1 q1.2.2.2.2.2.2.2.2.2.2.2.2.2.2.2.2.2.2.2.2.2.2.2.2.2.2.2.2.2.2.1 q1.2.2.2.2.2.2.2.2.2.2.2.2.2.2.2.2.2.2.2.2.2.2.2.2.2.2.2.1 q1.2.2.2.2.2.2.2.2.2.2.2.2.2.2.2.2.2.2.2.2.2.1 q1.2.2.2.2.2.2.2.2.2.2.2.2.2.2.2.2.2.2.2.2.2.2.1 q1.2.2.2.2.2.2.2.2.2.2.2.2.2.2.2.2.2.2.2.2.2.2.2.1 q1.2.2.2.2.2.2.2.2.2.2.2.2.2.2.2.2.2.2.2.2.2.2.2.2.1 q1.2.2.2.2.2.2.2.2.2.2.2.2.2.2.2.2.2.2.2.2.2.2.2.2.2.1 q1.2.2.2.2.2.2.2.2.2.2.2.2.2.2.2.2.2.2.2.2.2.2.2.2.2.2.1 ∧ q1.2.2.2.2.2.1 = jfill 1024 mg (-1) ∧ q1.2.2.2.2.2.2.1 = -1 ∧ q1.2.2.2.2.2.2.2.1 = -1 ∧ ordP T' O' ∧ (∀ p, p < T' 1 0 → q1.2.2.2.2.2.2.2.2.2.2.2.2.2.2.2.2.2.2.2.2.2.2.2.2.2.2.2.2.2.2.2.1 p = nI (O' p)) ∧ nmsR (T' 0 0) 0 q1.2.2.2.2.2.2.2.2.2.2.2.2.2.2.2.2.2.2.2.2.2.2.2.2.2.2.2.2.1 q2.2.2.2.2.2.2.2.2.2.2.2.2.2.2.2.2.2.2.1 ∧ nmsR (T' 1 0) 10 q1.2.2.2.2.2.2.2.2.2.2.2.2.2.2.2.2.2.2.2.2.1 q2.2.2.2.2.2.2.2.2.2.2.2.2.2.2.2.2.2.2.1 ∧ mT T' q2.2.2.2.2.2.2.2.2.2.2.2.2.2.2.2.2.2.2.2.1 ∧ q2.2.2.2.2.2.2.2.2.2.2.2.2.2.2.2.2.2.2.2.1 3 = 0 ∧ q2.2.2.2.2.2.2.2.2.2.2.2.2.2.2.2.2.2.2.2.2 = 1) ∨ (q1.2.2.2.2.2.2.2.2.2.2.2.2.2.2.2.2.2.2.2.2.2.2.2.2.2.2.2.2.2.2.2.2.2.2 = false ∧ q1.2.2.2.2.2.2.2.2.2.2.2.2.2.2.2.2.2.2.2.2.2.2.2.2.2.2.2.2.2.2.2.2.2.1 = bz ∧ q2.2.2.2.2.2.2.2.2.2.2.2.2.2.2.2.2.2.2.2.1 = s ∧ q2.2.2.2.2.2.2.2.2.2.2.2.2.2.2.2.2.2.2.2.2 = stl ∧ ∀ k, k < 40 → q2.2.2.2.2.2.2.2.2.2.2.2.2.2.2.2.2.2.2.1 k = mn k)) := by
  obtain ⟨O, hO⟩ := tp_oct ht
  have h : ∀ k, k < 940 → O k < 256 ∧ by_ k = sbT (O k) := fun k hk => ⟨(hO k hk).1, (hO k hk).2.1⟩
  have h2 : ∀ k, k < 940 → O k < 256 ∧ ta k = sbT (O k) := fun k hk => ⟨(hO k hk).1, (hO k hk).2.2⟩
  have hstop : (if (900 : Int32) < nI L then (900 : Int32) else nI L) = nI (min L 900) := by
    simp only [show (900 : Int32) = nI 900 from rfl, pz_lt (show 900 < 2 ^ 31 by omega) (show L < 2 ^ 31 by omega)]
    by_cases c : 900 < L
    · rw [if_pos c, Nat.min_eq_right (by omega)]
    · rw [if_neg c, Nat.min_eq_left (by omega)]
  obtain ⟨h', g1, g2⟩ := m_town0 rs ta 0 (nI L) 0 0 900 0 0 0 0 mat msp mto mnu mfa got stl mwo mn s hh
  obtain ⟨mp1, mat1, sp1, mto1, mwo1, mnu1, s1, hm⟩ := m_skip h2 (M := 900) hL (by omega) (Nat.zero_le L) mto mat msp mnu mwo
  have s1' : dn_X12_skip (nI L) 0 900 mto mat msp mnu mwo ta = some (mp1, mat1, sp1, mto1, mwo1, mnu1) := s1
  have hmod : dn_X12_town (nI L) mto mat msp mnu mfa mwo got stl hh mn rs s ta = gn_X12_town_1 rs ta 0 (nI L) 0 mp1 900 0 0 0 0 mat1 sp1 mto1 mwo1 mnu1 h' mfa got mn s stl := by
    unfold dn_X12_town dn_X12_taken
    rw [Option.bind_some]
    dsimp only
    rw [g2, s1', Option.bind_some]
  have hcls : dn_X6_readTown (nI L) tt tp tn tna by_ bo br bg oy dn di ei le lg li mg pn ye = gn_X6_readTown_0 (nI L) by_ (nI 0) 0 0 0 0 (jfill 1024 mg (-1)) (-1) (-1) (nI 0) (nI (tellT zT)) 0 (nI 0) (nI (min L 900)) (nI 0) 0 0 tp tn tna tt dn le br ye lg bg ei li pn bo di oy := by
    unfold dn_X6_readTown dn_X10_clear dn_X5_forget dn_X6_start dn_X9_startReading
    rw [Option.bind_some, Option.bind_some, Option.bind_some, Option.bind_some, hstop]
    rfl
  have main := t_loop h h2 hL hrs (jfill 1024 mg (-1)) (-1) (-1) 0 0 oy s 0 0 stl L 0 0 (by omega) (Nat.zero_le L) (Nat.le_refl _) (by omega) hm zT_wf (zT_C bo di li le br ye lg bg ei) (zT_M g1) (pn := pn) (dn := dn) (mn := mn) (fun k hk => absurd hk (Nat.not_lt_zero _)) (fun k hk => absurd hk (Nat.not_lt_zero _)) (X := 0) (by omega) (hl := 0) (Or.inl rfl) 0 tp tn tt mfa got sp1 tna
  unfold dn_X11_town dn_X9_cut
  rw [hcls, hmod]
  unfold tOut at main
  rcases main with ⟨T', X', hl', mn', n', O', z1, z2, ⟨q1, y1, y2, y3, y4, y5, y6, y7, y8, y9, y10, y11, y12⟩, z4, mp', mat', sp', mto', mwo', mnu', h2', fat', got', w1, w2⟩ | ⟨f, a, z1, z2, ⟨q1, y1, y2, y3, y4⟩, q2, w1, w2, w3, w4, w5, w6, w7, w8⟩
  · obtain ⟨s', mn2, v1, v2, v3, v4⟩ := m_town2 z1 w1 rs ta 0 (nI L) 0 mp' 900 0 (nI n') (nI X') hl' mat' sp' mto' mnu' fat' got' stl mwo' mn' s
    have w2' : gn_X12_town_1 rs ta 0 (nI L) 0 mp1 900 0 0 0 0 mat1 sp1 mto1 mwo1 mnu1 h' mfa got mn s stl = some (nI n', 0, nI L, 0, mp', 900, 0, nI n', nI X', hl', mat', sp', mto', mwo', mnu', h2', fat', got', mn2, s', 1) := w2.trans v1
    rw [y1, Option.bind_some, Option.bind_some, if_pos y2, w2']
    unfold dn_X0_clear
    rw [Option.bind_some]
    refine ⟨_, rfl, _, rfl, y7, rfl, rfl, rfl, y8, Or.inl ⟨T', O', rfl, rfl, z1, y3, y4, y5, y6, y9, y10, ?_, ?_, v2, v3, rfl⟩⟩
    · intro k hk
      have := y11 k hk
      have hk2 := z1.p
      show nmR _ (mn2 (0 + k))
      rw [Nat.zero_add, v4 k (by omega)]
      exact this
    · intro k hk
      have := y12 k hk
      have hk2 := z1.d
      show nmR _ (mn2 (10 + k))
      rw [v4 (10 + k) (by omega), show 40 + (10 + k) = 50 + k from by omega]
      exact this
  · have w1' : gn_X12_town_1 rs ta 0 (nI L) 0 mp1 900 0 0 0 0 mat1 sp1 mto1 mwo1 mnu1 h' mfa got mn s stl = some q2 := w1
    rw [y1, Option.bind_some, Option.bind_some, if_neg (by rw [y2]; exact Bool.false_ne_true), w1']
    refine ⟨_, rfl, q2, rfl, ?_, rfl, w3, w4, ?_, Or.inr ⟨rfl, rfl, w6, w7, w8⟩⟩
    · show _ - _ = _
      rw [y4, w2]
    · show _ = _
      rw [w5]; exact y3
