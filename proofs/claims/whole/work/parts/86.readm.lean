/-! ===== pure rows: the model's readings of names ===== -/
theorem fo_lt {P : Nat → Bool} {n m : Nat} (h : n ≤ m) (hm : m < 2 ^ 31) : ∀ k, fo P n = some k → k < 2 ^ 31 := fun k hk => by have := foI_some hk; omega
theorem foI_eq {o : Option Nat} {b : Nat} (hb : b < 2 ^ 31) (h : ∀ k, o = some k → k < 2 ^ 31) : (foI o = nI b) = (o = some b) := by
  cases o with
  | none =>
    show ((-1 : Int32) = nI b) = _
    apply propext
    constructor
    · intro x
      have := pz_n0 hb
      rw [← x] at this
      simp at this
    · intro x; cases x
  | some k =>
    have := h k rfl
    show (nI k = nI b) = _
    rw [pz_eq this hb, Option.some.injEq]
/-- a PERSON who is not but, at the token of the place p -/
theorem m_takesP {O : Nat → Nat} {ta : Nat → Int32} (h : ∀ k, k < 940 → O k < 256 ∧ ta k = sbT (O k)) {L M p : Nat} (hL : L ≤ 940) (hM : M ≤ 940) (hp : p ≤ L) {mp mat mto : Int32} {mwo : Int64} {mnu : Int32} (hm : mTk O L M p mp mat mto mwo mnu) {n : Nat} (hn : n ≤ 10) {hh : Nat → Int32} (hh0 : hh 0 = nI n) {mn rs : Nat → Int64} (hr : resI rs) (sp fa fat got but : Int32) : (isN O L M p = true → ∀ k, whoP O L p mn n = some k → nI k ≠ but → ∃ mp' mat' sp' mto' mwo' mnu', dn_X12_takesPerson (nI L) mp (nI M) mto mat sp mnu fa fat mwo got hh mn rs ta but = some (true, nI k, fa, fat, mp', mat', sp', mto', mwo', mnu') ∧ mTk O L M (tkE O L p) mp' mat' mto' mwo' mnu') ∧ (isN O L M p = true → (whoP O L p mn n = none ∨ (∃ k, whoP O L p mn n = some k ∧ nI k = but)) → ∃ g, dn_X12_takesPerson (nI L) mp (nI M) mto mat sp mnu fa fat mwo got hh mn rs ta but = some (false, g, 3, nI (tkA O L M p), mp, mat, sp, mto, mwo, mnu)) ∧ (isN O L M p = false → ∃ g, dn_X12_takesPerson (nI L) mp (nI M) mto mat sp mnu fa fat mwo got hh mn rs ta but = some (false, g, 1, nI (tkA O L M p), mp, mat, sp, mto, mwo, mnu)) := by
  unfold dn_X12_takesPerson dn_X12_bad
  rw [m_isName hm hr, Option.bind_some, show (0 : Int32).toNatClampNeg = 0 from rfl, hh0]
  cases hi : isN O L M p with
  | false =>
    refine ⟨fun x => by (cases x), fun x => by (cases x), fun _ => ?_⟩
    rw [if_neg (by decide), hm.1]
    exact ⟨_, rfl⟩
  | true =>
    have h1 := isN_1 hi
    have hwo := (hm.2.2.1 h1).2
    have hmp := (hm.2.2.1 h1).1
    have hw : fo (fun k => decide (mn (40 + k) = mwo)) n = whoP O L p mn n := by rw [hwo]; rfl
    have hlt : ∀ k, whoP O L p mn n = some k → k < 2 ^ 31 := fo_lt hn (by omega)
    rw [if_pos rfl, show (40 : Int32) = nI 40 from rfl, m_find (by omega), hw, Option.bind_some]
    simp only [foI_lt0 hlt]
    refine ⟨fun _ k hk hb => ?_, fun _ hk => ?_, fun x => by (cases x)⟩
    · obtain ⟨e1, e2, e3, e4⟩ := tkE_le hp (Or.inl h1)
      obtain ⟨mp', mat', sp', mto', mwo', mnu', s1, s2⟩ := m_skip h (M := M) hL hM e2 mto mat sp mnu mwo
      rw [hk, if_neg (by simp), show foI (some k) = nI k from rfl, if_neg hb, hmp, s1]
      exact ⟨_, _, _, _, _, _, rfl, s2⟩
    · rw [hm.1]
      rcases hk with hk | ⟨k, hk, hb⟩
      · rw [hk, if_pos rfl]; exact ⟨_, rfl⟩
      · rw [hk, if_neg (by simp), show foI (some k) = nI k from rfl, if_pos hb]; exact ⟨_, rfl⟩
theorem m_fresh {O : Nat → Nat} {ta : Nat → Int32} (h : ∀ k, k < 940 → O k < 256 ∧ ta k = sbT (O k)) {L M p : Nat} (hL : L ≤ 940) (hM : M ≤ 940) (hp : p ≤ L) {mp mat mto : Int32} {mwo : Int64} {mnu : Int32} (hm : mTk O L M p mp mat mto mwo mnu) {n d : Nat} (hn : n ≤ 10) (hd : d ≤ 30) {hh : Nat → Int32} (hh0 : hh 0 = nI n) (hh1 : hh 1 = nI d) {mn rs : Nat → Int64} (hr : resI rs) {to : Nat} (hto : to < 80) (sp fa fat : Int32) : (isN O L M p = true → whoP O L p mn n = none → whoD O L p mn 50 d = none → ∃ mp' mat' sp' mto' mwo' mnu', dn_X12_fresh (nI L) mp (nI M) mto mat sp mnu fa fat mwo hh mn rs ta (nI to) = some (true, fa, fat, vp_updL mn to (lN (n256 (tkW O L p))), mp', mat', sp', mto', mwo', mnu') ∧ mTk O L M (tkE O L p) mp' mat' mto' mwo' mnu') ∧ (isN O L M p = true → ¬ (whoP O L p mn n = none ∧ whoD O L p mn 50 d = none) → dn_X12_fresh (nI L) mp (nI M) mto mat sp mnu fa fat mwo hh mn rs ta (nI to) = some (false, 3, nI (tkA O L M p), mn, mp, mat, sp, mto, mwo, mnu)) ∧ (isN O L M p = false → dn_X12_fresh (nI L) mp (nI M) mto mat sp mnu fa fat mwo hh mn rs ta (nI to) = some (false, 1, nI (tkA O L M p), mn, mp, mat, sp, mto, mwo, mnu)) := by
  unfold dn_X12_fresh dn_X12_bad
  rw [m_isName hm hr, Option.bind_some, show (0 : Int32).toNatClampNeg = 0 from rfl, show (1 : Int32).toNatClampNeg = 1 from rfl, hh0, hh1]
  cases hi : isN O L M p with
  | false =>
    refine ⟨fun x => by (cases x), fun x => by (cases x), fun _ => ?_⟩
    rw [if_neg (by decide), hm.1]
    rfl
  | true =>
    have h1 := isN_1 hi
    have hwo := (hm.2.2.1 h1).2
    have hmp := (hm.2.2.1 h1).1
    have hw : fo (fun k => decide (mn (40 + k) = mwo)) n = whoP O L p mn n := by rw [hwo]; rfl
    have hw2 : fo (fun k => decide (mn (50 + k) = mwo)) d = whoD O L p mn 50 d := by rw [hwo]; rfl
    have hlt : ∀ k, whoP O L p mn n = some k → k < 2 ^ 31 := fo_lt hn (by omega)
    have hlt2 : ∀ k, whoD O L p mn 50 d = some k → k < 2 ^ 31 := fo_lt hd (by omega)
    rw [if_pos rfl, show (40 : Int32) = nI 40 from rfl, m_find (by omega), hw, Option.bind_some, show (50 : Int32) = nI 50 from rfl, m_find (by omega), hw2, Option.bind_some]
    simp only [foI_ge0 hlt, Option.bind_some, foI_lt0 hlt2]
    refine ⟨fun _ a b => ?_, fun _ hk => ?_, fun x => by (cases x)⟩
    · obtain ⟨e1, e2, e3, e4⟩ := tkE_le hp (Or.inl h1)
      obtain ⟨mp', mat', sp', mto', mwo', mnu', s1, s2⟩ := m_skip h (M := M) hL hM e2 mto mat sp mnu mwo
      rw [if_neg (fun x => x a), if_pos b, inb_nI hto (by omega), if_pos rfl, nI_clamp (by omega), hmp, s1, hwo]
      exact ⟨_, _, _, _, _, _, rfl, s2⟩
    · rw [hm.1]
      by_cases a : whoP O L p mn n = none
      · rw [if_neg (fun x => x a), if_neg (fun b => hk ⟨a, b⟩)]
      · rw [if_pos a]
/-- behind a line's first word at the place p0: of whom it tells -/
theorem m_told {O : Nat → Nat} {ta : Nat → Int32} (h : ∀ k, k < 940 → O k < 256 ∧ ta k = sbT (O k)) {L M p : Nat} (hL : L ≤ 940) (hM : M ≤ 940) (hp : p ≤ L) {n : Nat} (hn : n ≤ 10) {hh : Nat → Int32} (hh0 : hh 0 = nI n) {mn rs : Nat → Int64} (hr : resI rs) {had : Nat} (hhad : had < 2 ^ 31) (mto mat sp mnu fa fat got : Int32) (mwo : Int64) : (isN O L M p = true → ∀ k, whoP O L p mn n = some k → had.testBit k = false → ∃ mp' mat' sp' mto' mwo' mnu', dn_X12_toldOf (nI L) (nI p) (nI M) mto mat sp mnu fa fat mwo got hh mn rs ta (nI had) = some (true, mp', mat', sp', mto', mwo', mnu', nI k, fa, fat) ∧ mTk O L M (tkE O L p) mp' mat' mto' mwo' mnu') ∧ (isN O L M p = true → (∀ k, whoP O L p mn n = some k → had.testBit k = true) → ∃ q, dn_X12_toldOf (nI L) (nI p) (nI M) mto mat sp mnu fa fat mwo got hh mn rs ta (nI had) = some q ∧ q.1 = false ∧ q.2.2.2.2.2.2.2.2.1 = 3 ∧ q.2.2.2.2.2.2.2.2.2 = nI (tkA O L M p)) ∧ (isN O L M p = false → ∃ q, dn_X12_toldOf (nI L) (nI p) (nI M) mto mat sp mnu fa fat mwo got hh mn rs ta (nI had) = some q ∧ q.1 = false ∧ q.2.2.2.2.2.2.2.2.1 = 1 ∧ q.2.2.2.2.2.2.2.2.2 = nI (tkA O L M p)) := by
  obtain ⟨mp1, mat1, sp1, mto1, mwo1, mnu1, s1, hm⟩ := m_skip h (M := M) hL hM hp mto mat sp mnu mwo
  unfold dn_X12_toldOf dn_X12_bad
  rw [s1, Option.bind_some]
  simp only
  rw [m_isName hm hr, Option.bind_some, show (0 : Int32).toNatClampNeg = 0 from rfl, hh0]
  cases hi : isN O L M p with
  | false =>
    refine ⟨fun x => by (cases x), fun x => by (cases x), fun _ => ?_⟩
    rw [if_neg (by decide), hm.1]
    exact ⟨_, rfl, rfl, rfl, rfl⟩
  | true =>
    have h1 := isN_1 hi
    have hwo := (hm.2.2.1 h1).2
    have hmp := (hm.2.2.1 h1).1
    have hw : fo (fun k => decide (mn (40 + k) = mwo1)) n = whoP O L p mn n := by rw [hwo]; rfl
    have hlt : ∀ k, whoP O L p mn n = some k → k < 2 ^ 31 := fo_lt hn (by omega)
    rw [if_pos rfl, show (40 : Int32) = nI 40 from rfl, m_find (by omega), hw, Option.bind_some]
    simp only [foI_lt0 hlt]
    refine ⟨fun _ k hk hb => ?_, fun _ hk => ?_, fun x => by (cases x)⟩
    · obtain ⟨e1, e2, e3, e4⟩ := tkE_le hp (Or.inl h1)
      have hkn := foI_some hk
      obtain ⟨mp', mat', sp', mto', mwo', mnu', s1, s2⟩ := m_skip h (M := M) hL hM e2 mto1 mat1 sp1 mnu1 mwo1
      rw [hk, if_neg (by simp)]
      show ∃ mp' mat' sp' mto' mwo' mnu', (Option.bind (dn_X12_has (nI had) (nI k)) _) = _ ∧ _
      rw [m_has hhad (by omega), Option.bind_some, hb, if_neg (by decide), hmp, s1]
      exact ⟨_, _, _, _, _, _, rfl, s2⟩
    · rw [hm.1]
      cases c : whoP O L p mn n with
      | none => rw [if_pos rfl]; exact ⟨_, rfl, rfl, rfl, rfl⟩
      | some k =>
        have hkn := foI_some c
        rw [if_neg (by simp)]
        show ∃ q, (Option.bind (dn_X12_has (nI had) (nI k)) _) = _ ∧ _
        rw [m_has hhad (by omega), Option.bind_some, hk k c, if_pos rfl]
        exact ⟨_, rfl, rfl, rfl, rfl⟩
