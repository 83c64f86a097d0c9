/-! ===== pure rows: the line of a DEAL on both sides ===== -/
theorem m_dealLo {T : tT} (hw : twf T) {a b : Nat} (ha : a < T 0 0) (hb : b < T 0 0) (x1 x2 : Int32) (x3 : Nat → Int32) (x4 x5 x6 x7 x8 x9 x10 : Int32) (x11 : Int64) (x12 x13 x14 : Int32) (x15 : Nat → Int64) (x16 : Int32) (x17 : Nat → Int32) : (if nI (T 4 a) ≤ nI (T 4 b) then gn_X12_readDeal_0 x1 x2 x3 x4 x5 x6 (nI (T 4 b)) x7 x8 x9 x10 x11 x12 x13 x14 x15 x16 x17 else gn_X12_readDeal_0 x1 x2 x3 x4 x5 x6 (nI (T 4 a)) x7 x8 x9 x10 x11 x12 x13 x14 x15 x16 x17) = gn_X12_readDeal_0 x1 x2 x3 x4 x5 x6 (nI (loT T a b)) x7 x8 x9 x10 x11 x12 x13 x14 x15 x16 x17 := by
  have h1 := hw.ps ha
  have h2 := hw.ps hb
  simp only [pz_le (show T 4 a < 2 ^ 31 by omega) (show T 4 b < 2 ^ 31 by omega)]
  unfold loT
  by_cases c : T 4 a ≤ T 4 b
  · rw [if_pos c]
    by_cases d : T 4 a < T 4 b
    · rw [if_pos d]
    · rw [if_neg d, show T 4 b = T 4 a by omega]
  · rw [if_neg c, if_neg (by omega)]
theorem m_dealHi {T : tT} (hw : twf T) {hh : Nat → Int32} (hrm : rM T hh) {a b : Nat} (ha : a < T 0 0) (hb : b < T 0 0) (x1 x2 : Int32) (x3 : Nat → Int32) (x4 x6 x7 x8 x9 x10 : Int32) (x11 : Int64) (x12 x13 x14 : Int32) (x15 : Nat → Int64) (x16 : Int32) : gn_X12_readDeal_0 x1 x2 x3 x4 (nI a) (nI b) x6 x7 x8 x9 x10 x11 x12 x13 x14 x15 x16 hh = gn_X12_readDeal_1 x1 x2 x3 x4 (nI a) (nI b) x6 (nI (hiT T a b)) x7 x8 x9 x10 x11 x12 x13 x14 x15 x16 hh := by
  have h1 := hw.ps ha
  have h2 := hw.ps hb
  have hn := hw.p
  have b1 := (hrm.1.2.2.2.1 a ha).2.1
  have b2 := (hrm.1.2.2.2.1 b hb).2.1
  rw [gq_X12_readDeal_0, show (14 : Int32) = nI 14 from rfl, nI_add, nI_add, inb_nI (show 14 + a < 224 by omega) (by omega), inb_nI (show 14 + b < 224 by omega) (by omega), if_pos rfl, if_pos rfl, if_pos rfl, if_pos rfl, nI_clamp (by omega), nI_clamp (by omega), b1, b2]
  simp only [pz_le (show T 5 b < 2 ^ 31 by omega) (show T 5 a < 2 ^ 31 by omega)]
  unfold hiT
  by_cases c : T 5 b ≤ T 5 a
  · rw [if_pos c]
    by_cases d : T 5 b < T 5 a
    · rw [if_pos d]
    · rw [if_neg d, show T 5 b = T 5 a by omega]
  · rw [if_neg c, if_neg (by omega)]
theorem m_deal1 {O : Nat → Nat} {by_ ta : Nat → Int32} (h : ∀ k, k < 940 → O k < 256 ∧ by_ k = sbT (O k)) (h2 : ∀ k, k < 940 → O k < 256 ∧ ta k = sbT (O k)) {L M p : Nat} (hL : L ≤ 940) (hM : M ≤ 940) (hp : p ≤ L) {mp mat mto : Int32} {mwo : Int64} {mnu : Int32} (hm : mTk O L M p mp mat mto mwo mnu) {d a b lo hi : Nat} (hd : d < 30) (hlo : lo < 2 ^ 31) (hhi : hi < 2 ^ 31) {hh : Nat → Int32} (hh1 : hh 1 = nI d) (sp fa fat got : Int32) (mn : Nat → Int64) : (¬ numOK O L M p lo hi → ∃ q, gn_X12_readDeal_1 (nI L) (nI M) ta (nI (44 + 6 * d)) (nI a) (nI b) (nI lo) (nI hi) mp mat sp mto mwo mnu fa fat mn got hh = some q ∧ q.1 = false ∧ q.2.2.2.2.2.2.2.1 = nI (numF O L M p) ∧ q.2.2.2.2.2.2.2.2.1 = nI (tkA O L M p)) ∧ (numOK O L M p lo hi → (¬ numOK O L M (tkE O L p) 0 99 → ∃ q, gn_X12_readDeal_1 (nI L) (nI M) ta (nI (44 + 6 * d)) (nI a) (nI b) (nI lo) (nI hi) mp mat sp mto mwo mnu fa fat mn got hh = some q ∧ q.1 = false ∧ q.2.2.2.2.2.2.2.1 = nI (numF O L M (tkE O L p)) ∧ q.2.2.2.2.2.2.2.2.1 = nI (tkA O L M (tkE O L p))) ∧ (numOK O L M (tkE O L p) 0 99 → (¬ numOK O L M (tkE O L (tkE O L p)) 0 99 → ∃ q, gn_X12_readDeal_1 (nI L) (nI M) ta (nI (44 + 6 * d)) (nI a) (nI b) (nI lo) (nI hi) mp mat sp mto mwo mnu fa fat mn got hh = some q ∧ q.1 = false ∧ q.2.2.2.2.2.2.2.1 = nI (numF O L M (tkE O L (tkE O L p))) ∧ q.2.2.2.2.2.2.2.2.1 = nI (tkA O L M (tkE O L (tkE O L p)))) ∧ (numOK O L M (tkE O L (tkE O L p)) 0 99 → ∀ pS x, ((isW O L M (tkE O L (tkE O L (tkE O L p))) 3 = true ∧ x = 1 ∧ pS = tkE O L (tkE O L (tkE O L (tkE O L p)))) ∨ (isW O L M (tkE O L (tkE O L (tkE O L p))) 3 = false ∧ x = 0 ∧ pS = tkE O L (tkE O L (tkE O L p)))) → ∃ q, gn_X12_readDeal_1 (nI L) (nI M) ta (nI (44 + 6 * d)) (nI a) (nI b) (nI lo) (nI hi) mp mat sp mto mwo mnu fa fat mn got hh = some q ∧ q.1 = true ∧ q.2.2.2.2.2.2.2.1 = fa ∧ q.2.2.2.2.2.2.2.2.1 = fat ∧ q.2.2.2.2.2.2.2.2.2.1 = mn ∧ mTk O L M pS q.2.1 q.2.2.1 q.2.2.2.2.1 q.2.2.2.2.2.1 q.2.2.2.2.2.2.1 ∧ q.2.2.2.2.2.2.2.2.2.2.2 1 = nI (d + 1) ∧ (q.2.2.2.2.2.2.2.2.2.2.2 (44 + 6 * d) = nI a ∧ q.2.2.2.2.2.2.2.2.2.2.2 (44 + 6 * d + 1) = nI b ∧ q.2.2.2.2.2.2.2.2.2.2.2 (44 + 6 * d + 2) = nI (tkV O L p) ∧ q.2.2.2.2.2.2.2.2.2.2.2 (44 + 6 * d + 3) = nI (tkV O L (tkE O L p)) ∧ q.2.2.2.2.2.2.2.2.2.2.2 (44 + 6 * d + 4) = nI (tkV O L (tkE O L (tkE O L p))) ∧ q.2.2.2.2.2.2.2.2.2.2.2 (44 + 6 * d + 5) = nI x) ∧ ∀ k, k ≠ 1 → k < 44 + 6 * d → q.2.2.2.2.2.2.2.2.2.2.2 k = hh k))) := by
  obtain ⟨a1, a2⟩ := m_numX h h2 hL hM hp hm hlo hhi (x := nI lo) (y := nI hi) rfl rfl sp fa fat got
  rw [gq_X12_readDeal_1, inb_nI (show 44 + 6 * d < 224 by omega) (by omega), if_pos rfl, nI_1, inb_nI (show 44 + 6 * d + 1 < 224 by omega) (by omega), if_pos rfl, show (2 : Int32) = nI 2 from rfl, show (3 : Int32) = nI 3 from rfl, show (4 : Int32) = nI 4 from rfl, show (5 : Int32) = nI 5 from rfl, nI_add, nI_add, nI_add, nI_add, inb_nI (show 44 + 6 * d + 2 < 224 by omega) (by omega), inb_nI (show 44 + 6 * d + 3 < 224 by omega) (by omega), inb_nI (show 44 + 6 * d + 4 < 224 by omega) (by omega), inb_nI (show 44 + 6 * d + 5 < 224 by omega) (by omega), nI_clamp (show 44 + 6 * d < 2 ^ 31 by omega), nI_clamp (show 44 + 6 * d + 1 < 2 ^ 31 by omega), nI_clamp (show 44 + 6 * d + 2 < 2 ^ 31 by omega), nI_clamp (show 44 + 6 * d + 3 < 2 ^ 31 by omega), nI_clamp (show 44 + 6 * d + 4 < 2 ^ 31 by omega), nI_clamp (show 44 + 6 * d + 5 < 2 ^ 31 by omega)]
  simp only [eq_self, if_true]
  refine ⟨fun c => ?_, fun c => ?_⟩
  · rw [a2 c, Option.bind_some, if_neg Bool.false_ne_true]
    exact ⟨_, rfl, rfl, rfl, rfl⟩
  · obtain ⟨mp1, mat1, sp1, mto1, mwo1, mnu1, g1, hm1⟩ := a1 c
    obtain ⟨e1, e2, e3, e4⟩ := tkE_le hp (Or.inr (Or.inl c.1))
    obtain ⟨b1, b2⟩ := m_numX h h2 hL hM e2 hm1 (lo := 0) (hi := 99) (by omega) (by omega) (x := 0) (y := 99) rfl rfl sp1 fa fat (nI (tkV O L p))
    rw [g1, Option.bind_some, if_pos rfl]
    simp only
    refine ⟨fun c2 => ?_, fun c2 => ?_⟩
    · rw [b2 c2, Option.bind_some, if_neg Bool.false_ne_true]
      exact ⟨_, rfl, rfl, rfl, rfl⟩
    · obtain ⟨mp2, mat2, sp2, mto2, mwo2, mnu2, g2, hm2⟩ := b1 c2
      obtain ⟨e5, e6, e7, e8⟩ := tkE_le e2 (Or.inr (Or.inl c2.1))
      obtain ⟨d1, d2⟩ := m_numX h h2 hL hM e6 hm2 (lo := 0) (hi := 99) (by omega) (by omega) (x := 0) (y := 99) rfl rfl sp2 fa fat (nI (tkV O L (tkE O L p)))
      rw [g2, Option.bind_some, if_pos rfl]
      simp only
      refine ⟨fun c3 => ?_, fun c3 pS x hx => ?_⟩
      · rw [d2 c3, Option.bind_some, if_neg Bool.false_ne_true]
        exact ⟨_, rfl, rfl, rfl, rfl⟩
      · obtain ⟨mp3, mat3, sp3, mto3, mwo3, mnu3, g3, hm3⟩ := d1 c3
        obtain ⟨e9, e10, e11, e12⟩ := tkE_le e6 (Or.inr (Or.inl c3.1))
        rw [g3, Option.bind_some, if_pos rfl]
        simp only
        rw [m_isWord hm3 (i := 3) (by omega) (show (111503598970226 : Int64) = lN (n256 (rvW 3)) from by decide), Option.bind_some]
        rcases hx with ⟨x1, x2, x3⟩ | ⟨x1, x2, x3⟩
        · have k4 := (isW_1 x1).1
          obtain ⟨e13, e14, e15, e16⟩ := tkE_le e10 (Or.inl k4)
          obtain ⟨mp4, mat4, sp4, mto4, mwo4, mnu4, s4, hm4⟩ := m_skip h2 (M := M) hL hM e14 mto3 mat3 sp3 mnu3 mwo3
          subst x2 x3
          rw [if_pos x1, (hm3.2.2.1 k4).1, s4, Option.bind_some, gq_X12_readDeal_2, show (1 : Int32).toNatClampNeg = 1 from rfl]
          refine ⟨_, rfl, rfl, rfl, rfl, rfl, hm4, ?_, ⟨?_, ?_, ?_, ?_, ?_, ?_⟩, fun k k1 k2 => ?_⟩
          · dsimp only
            rw [pk_us, pk_un (by omega), pk_un (by omega), pk_un (by omega), pk_un (by omega), pk_un (by omega), pk_un (by omega), pk_un (by omega), hh1, nI_1]
          · dsimp only
            rw [pk_un (by omega), pk_un (by omega), pk_un (by omega), pk_un (by omega), pk_un (by omega), pk_un (by omega), pk_un (by omega), pk_us]
          · dsimp only
            rw [pk_un (by omega), pk_un (by omega), pk_un (by omega), pk_un (by omega), pk_un (by omega), pk_un (by omega), pk_us]
          · dsimp only
            rw [pk_un (by omega), pk_un (by omega), pk_un (by omega), pk_un (by omega), pk_un (by omega), pk_us]
          · dsimp only
            rw [pk_un (by omega), pk_un (by omega), pk_un (by omega), pk_un (by omega), pk_us]
          · dsimp only
            rw [pk_un (by omega), pk_un (by omega), pk_un (by omega), pk_us]
          · dsimp only
            rw [pk_un (by omega), pk_us]; rfl
          · dsimp only
            rw [pk_un (by omega), pk_un (by omega), pk_un (by omega), pk_un (by omega), pk_un (by omega), pk_un (by omega), pk_un (by omega), pk_un (by omega)]
        · subst x2 x3
          rw [x1, if_neg Bool.false_ne_true, gq_X12_readDeal_2, show (1 : Int32).toNatClampNeg = 1 from rfl]
          refine ⟨_, rfl, rfl, rfl, rfl, rfl, hm3, ?_, ⟨?_, ?_, ?_, ?_, ?_, ?_⟩, fun k k1 k2 => ?_⟩
          · dsimp only
            rw [pk_us, pk_un (by omega), pk_un (by omega), pk_un (by omega), pk_un (by omega), pk_un (by omega), pk_un (by omega), hh1, nI_1]
          · dsimp only
            rw [pk_un (by omega), pk_un (by omega), pk_un (by omega), pk_un (by omega), pk_un (by omega), pk_un (by omega), pk_us]
          · dsimp only
            rw [pk_un (by omega), pk_un (by omega), pk_un (by omega), pk_un (by omega), pk_un (by omega), pk_us]
          · dsimp only
            rw [pk_un (by omega), pk_un (by omega), pk_un (by omega), pk_un (by omega), pk_us]
          · dsimp only
            rw [pk_un (by omega), pk_un (by omega), pk_un (by omega), pk_us]
          · dsimp only
            rw [pk_un (by omega), pk_un (by omega), pk_us]
          · dsimp only
            rw [pk_un (by omega), pk_us]; rfl
          · dsimp only
            rw [pk_un (by omega), pk_un (by omega), pk_un (by omega), pk_un (by omega), pk_un (by omega), pk_un (by omega), pk_un (by omega)]
