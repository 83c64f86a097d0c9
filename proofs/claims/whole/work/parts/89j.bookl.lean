/-! ===== pure rows: a line of a BOOK on both sides ===== -/
def bkR (T : tT) (n : Nat) (bd bw nd nt : Nat → Int32) : Prop := ∀ i, i < n → ∃ d t, d < T 1 0 ∧ t ≤ 1 ∧ bd i = nI d ∧ bw i = nI (t + 1) ∧ nd i = nI d ∧ nt i = nI t
theorem bkR_up {T : tT} {n : Nat} {bd bw nd nt : Nat → Int32} (h : bkR T n bd bw nd nt) {d t : Nat} (hd : d < T 1 0) (ht : t ≤ 1) : bkR T (n + 1) (upd bd n (nI d)) (upd bw n (nI (t + 1))) (upd nd n (nI d)) (upd nt n (nI t)) := by
  intro i hi
  by_cases c : i = n
  · subst c; exact ⟨d, t, hd, ht, pk_us, pk_us, pk_us, pk_us⟩
  · obtain ⟨d', t', a1, a2, a3, a4, a5, a6⟩ := h i (by omega)
    exact ⟨d', t', a1, a2, by rw [pk_un c]; exact a3, by rw [pk_un c]; exact a4, by rw [pk_un c]; exact a5, by rw [pk_un c]; exact a6⟩
abbrev bLn : Type := Bool × Int32 × Int32 × Int32 × Int32 × Int64 × Int32 × (Nat → Int32) × Int32 × Int32 × (Nat → Int32)
def bFail (L M : Nat) (ta : Nat → Int32) (q4 : bLn) (f a : Nat) : Prop := (q4.1 = false ∧ q4.2.2.2.2.2.2.2.2.1 = nI f ∧ q4.2.2.2.2.2.2.2.2.2.1 = nI a) ∨ (q4.1 = true ∧ ∃ q3, dn_X12_sign (nI L) q4.2.1 (nI M) q4.2.2.2.2.1 q4.2.2.1 q4.2.2.2.1 q4.2.2.2.2.2.2.1 q4.2.2.2.2.2.2.2.2.1 q4.2.2.2.2.2.2.2.2.2.1 q4.2.2.2.2.2.1 ta 59 = some q3 ∧ q3.1 = false ∧ q3.2.2.2.2.2.2.2.1 = nI f ∧ q3.2.2.2.2.2.2.2.2 = nI a)
theorem l_book {O : Nat → Nat} {by_ ta : Nat → Int32} (h : ∀ k, k < 940 → O k < 256 ∧ by_ k = sbT (O k)) (h2 : ∀ k, k < 940 → O k < 256 ∧ ta k = sbT (O k)) {L M p : Nat} (hL : L ≤ 940) (hM : M ≤ 940) (hp : p ≤ L) {ps nu : Int32} {na : Int64} {to : Int32} (hc : cTk O L M p ps nu na to) {mp mat mto : Int32} {mwo : Int64} {mnu : Int32} (hm : mTk O L M p mp mat mto mwo mnu) {T : tT} (hw : twf T) {s : Nat → Int32} (hs1 : s 1 = nI (T 1 0)) {dn mn rs : Nat → Int64} (hrs : resI rs) (hdn : nmsR (T 1 0) 10 dn mn) {n : Nat} (hn : n ≤ 40) {bd bw nd nt : Nat → Int32} (hb : bkR T n bd bw nd nt) (ki pl fa fat sp : Int32) : ∃ q5, dn_X6_readBookLine (nI n) ki pl bd bw (nI L) to (nI (tkA O L M p)) nu na ps (nI (min L M)) by_ (nI (T 1 0)) dn = some q5 ∧ ∃ q4, dn_X12_readLine (nI L) mp (nI M) mto mat sp mnu fa fat mwo (nI n) mn nd nt rs s ta = some q4 ∧ ((∃ pS, q5.1 = true ∧ q5.2.1 = nI (tkE O L pS) ∧ q5.2.2.2.2.2.2.1 = ki ∧ q5.2.2.2.2.2.2.2.1 = pl ∧ n < 40 ∧ bkR T (n + 1) q5.2.2.2.2.2.2.2.2.1 q5.2.2.2.2.2.2.2.2.2 q4.2.2.2.2.2.2.2.1 q4.2.2.2.2.2.2.2.2.2.2 ∧ p < pS ∧ pS ≤ L ∧ tkK O L M pS = 3 ∧ q4.1 = true ∧ q4.2.2.2.2.2.2.2.2.1 = fa ∧ q4.2.2.2.2.2.2.2.2.2.1 = fat ∧ mTk O L M pS q4.2.1 q4.2.2.1 q4.2.2.2.2.1 q4.2.2.2.2.2.1 q4.2.2.2.2.2.2.1) ∨ (∃ f a, q5.1 = false ∧ q5.2.2.2.2.2.2.1 = nI f ∧ q5.2.2.2.2.2.2.2.1 = nI a ∧ bFail L M ta q4 f a)) := by
  have hd := hw.d
  unfold dn_X6_readBookLine dn_X12_readLine
  rw [c_isName h hL hc, m_isName hm hrs, Option.bind_some, Option.bind_some, show (1 : Int32).toNatClampNeg = 1 from rfl, hs1]
  cases hN : isN O L M p with
  | false =>
    unfold dn_X6_refuse dn_X12_bad
    rw [if_neg Bool.false_ne_true, if_neg Bool.false_ne_true]
    exact ⟨_, rfl, _, rfl, Or.inr ⟨1, tkA O L M p, rfl, rfl, rfl, Or.inl ⟨rfl, rfl, hm.1⟩⟩⟩
  | true =>
    have k1 := isN_1 hN
    have hna := (hc.2.1 k1).2.2
    have hps := (hc.2.1 k1).2.1
    have hmp := (hm.2.2.1 k1).1
    have hwo := (hm.2.2.1 k1).2
    have hw1 : fo (fun k => decide (dn k = na)) (T 1 0) = whoD O L p mn 10 (T 1 0) := by rw [hna]; exact fo_nm hdn (nm_tk k1)
    have hw2 : fo (fun k => decide (mn (10 + k) = mwo)) (T 1 0) = whoD O L p mn 10 (T 1 0) := by rw [hwo]; rfl
    have hlt : ∀ k, whoD O L p mn 10 (T 1 0) = some k → k < 2 ^ 31 := fo_lt hd (by omega)
    rw [if_pos rfl, if_pos rfl, c_findD hd, hw1, Option.bind_some, show (10 : Int32) = nI 10 from rfl, m_find (by omega), hw2, Option.bind_some]
    simp only [foI_m1 hlt, foI_ge0 hlt]
    cases hwho : whoD O L p mn 10 (T 1 0) with
    | none =>
      unfold dn_X6_refuse dn_X12_bad
      rw [if_pos rfl, if_neg (fun x => x rfl)]
      exact ⟨_, rfl, _, rfl, Or.inr ⟨3, tkA O L M p, rfl, rfl, rfl, Or.inl ⟨rfl, rfl, hm.1⟩⟩⟩
    | some d =>
      have hdd := foI_some hwho
      rw [if_neg (show ¬ (some d = none) from by simp), if_pos (show ¬ (some d = none) from by simp)]
      simp only [show (40 : Int32) = nI 40 from rfl, pz_lt (show n < 2 ^ 31 by omega) (show 40 < 2 ^ 31 by omega), pz_eq (show n < 2 ^ 31 by omega) (show 40 < 2 ^ 31 by omega)]
      by_cases c0 : n = 40
      · unfold dn_X6_refuse dn_X12_bad
        rw [if_neg (by omega), if_pos c0]
        exact ⟨_, rfl, _, rfl, Or.inr ⟨4, tkA O L M p, rfl, rfl, rfl, Or.inl ⟨rfl, rfl, hm.1⟩⟩⟩
      · have hn40 : n < 40 := by omega
        obtain ⟨e1, e2, e3, e4⟩ := tkE_le hp (Or.inl k1)
        obtain ⟨mp1, mat1, sp1, mto1, mwo1, mnu1, s1, hm1⟩ := m_skip h2 (M := M) hL hM e2 mto mat sp mnu mwo
        obtain ⟨ps1, nu1, na1, to1, t1, hc1⟩ := c_next h (M := M) hL e2 to (nI (tkA O L M p)) nu na
        rw [if_pos hn40, if_neg c0, hps, hmp, s1, t1, Option.bind_some, Option.bind_some, inb_nI hn40 (by omega), if_pos rfl]
        dsimp only
        rw [c_isWord h hL hc1 (i := 10) (by omega), m_isWord hm1 (i := 10) (by omega) (show (128047779833188 : Int64) = lN (n256 (rvW 10)) from by decide), Option.bind_some, Option.bind_some, nI_clamp (show n < 2 ^ 31 by omega), show foI (some d) = nI d from rfl]
        simp only [gq_X12_readLine_0, gq_X6_readBookLine_0, inb_nI hn40 (show 40 < 2 ^ 31 by omega), eq_self, if_true, nI_clamp (show n < 2 ^ 31 by omega), pk_us, show ((0 : Int32) = 1) = False from by simp, if_false, pz_b0]
        by_cases c10 : isW O L M (tkE O L p) 10 = true
        · have k2 := (isW_1 c10).1
          obtain ⟨e5, e6, e7, e8⟩ := tkE_le e2 (Or.inl k2)
          obtain ⟨mp2, mat2, sp2, mto2, mwo2, mnu2, s2, hm2⟩ := m_skip h2 (M := M) hL hM e6 mto1 mat1 sp1 mnu1 mwo1
          obtain ⟨ps2, nu2, na2, to2, t2, hc2⟩ := c_next h (M := M) hL e6 to1 (nI (tkA O L M (tkE O L p))) nu1 na1
          obtain ⟨y1, y2⟩ := c_atS hc2 ki pl
          rw [if_pos c10, if_pos c10, (hc1.2.1 k2).2.1, (hm1.2.2.1 k2).1, s2, t2, Option.bind_some, Option.bind_some, c10, if_neg (by decide)]
          by_cases c3 : tkK O L M (tkE O L (tkE O L p)) = 3
          · rw [y1 c3, Option.bind_some]
            exact ⟨_, rfl, _, rfl, Or.inl ⟨tkE O L (tkE O L p), rfl, (hc2.2.2.2.1 c3).2, rfl, rfl, hn40, bkR_up hb hdd (t := 1) (by omega), by omega, e6, c3, rfl, rfl, rfl, hm2⟩⟩
          · rw [y2 c3, Option.bind_some]
            exact ⟨_, rfl, _, rfl, Or.inr ⟨1, _, rfl, rfl, rfl, Or.inr ⟨rfl, _, (m_sign h2 hL hM e6 hm2 sp2 fa fat).2 c3, rfl, rfl, rfl⟩⟩⟩
        · have c10' : isW O L M (tkE O L p) 10 = false := by simpa using c10
          obtain ⟨y1, y2⟩ := c_atS hc1 ki pl
          rw [if_neg c10, if_neg c10, c10', if_pos rfl]
          by_cases c3 : tkK O L M (tkE O L p) = 3
          · rw [y1 c3, Option.bind_some]
            exact ⟨_, rfl, _, rfl, Or.inl ⟨tkE O L p, rfl, (hc1.2.2.2.1 c3).2, rfl, rfl, hn40, bkR_up hb hdd (t := 0) (by omega), by omega, e2, c3, rfl, rfl, rfl, hm1⟩⟩
          · rw [y2 c3, Option.bind_some]
            exact ⟨_, rfl, _, rfl, Or.inr ⟨1, _, rfl, rfl, rfl, Or.inr ⟨rfl, _, (m_sign h2 hL hM e2 hm1 sp1 fa fat).2 c3, rfl, rfl, rfl⟩⟩⟩
