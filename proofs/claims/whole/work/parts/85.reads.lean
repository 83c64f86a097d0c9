/-! ===== pure rows: a number, a semicolon, a name: read on both sides ===== -/
theorem tkE_le {O : Nat → Nat} {L M p : Nat} (hp : p ≤ L) (h : tkK O L M p = 1 ∨ tkK O L M p = 2 ∨ tkK O L M p = 3) : p < tkE O L p ∧ tkE O L p ≤ L ∧ tkQ O L p < min L M ∧ tkA O L M p = tkQ O L p := by
  have hq := tkQ_le O hp
  by_cases c : tkQ O L p < min L M
  · have hA : tkA O L M p = tkQ O L p := by unfold tkA; rw [if_pos c]
    have hrl := tkR_le O (L := L) (q := tkQ O L p) (by omega)
    by_cases d : alB O (tkQ O L p) = true
    · have hr := tkR_lt (show tkQ O L p < L by omega) d
      have hE : tkE O L p = tkR O L (tkQ O L p) := by unfold tkE; rw [if_pos d]
      omega
    · have hE : tkE O L p = tkQ O L p + 1 := by unfold tkE; rw [if_neg d]
      omega
  · have := tkK_no c
    split at this <;> omega
theorem tkV_le {O : Nat → Nat} {L M p : Nat} (h : tkK O L M p = 2) : tkV O L p ≤ 99 := by
  by_cases c : tkQ O L p < min L M
  · by_cases d : alB O (tkQ O L p) = true
    · obtain ⟨k1, k2⟩ := tkK_1 c d
      have hr := tkR_lt (show tkQ O L p < L by omega) d
      by_cases w1 : allS O (tkQ O L p) (tkR O L (tkQ O L p)) ∧ tkR O L (tkQ O L p) - tkQ O L p ≤ 7
      · have := k1 w1; omega
      · obtain ⟨k3, k4⟩ := k2 w1
        by_cases w2 : allD O (tkQ O L p) (tkR O L (tkQ O L p)) ∧ tkR O L (tkQ O L p) - tkQ O L p ≤ 2
        · have dg : ∀ k, tkQ O L p ≤ k → k < tkR O L (tkQ O L p) → O k ≤ 57 := fun k h1 h2 => by
            have := w2.1 k h1 h2
            unfold dgB at this
            simp only [Bool.and_eq_true, decide_eq_true_eq] at this
            exact this.2
          have hlen : tkR O L (tkQ O L p) - tkQ O L p = 1 ∨ tkR O L (tkQ O L p) - tkQ O L p = 2 := by omega
          unfold tkV
          rcases hlen with e | e
          · rw [e]
            show 0 * 10 + (O (tkQ O L p + 0) - 48) ≤ 99
            have := dg (tkQ O L p + 0) (by omega) (by omega)
            omega
          · rw [e]
            show (0 * 10 + (O (tkQ O L p + 0) - 48)) * 10 + (O (tkQ O L p + 1) - 48) ≤ 99
            have h1 := dg (tkQ O L p + 0) (by omega) (by omega)
            have h2 := dg (tkQ O L p + 1) (by omega) (by omega)
            omega
        · have := k4 w2; omega
    · have := tkK_3 c d
      split at this <;> omega
  · have := tkK_no c
    split at this <;> omega
theorem cTk_not {O : Nat → Nat} {L M p : Nat} {ps nu : Int32} {na : Int64} {to : Int32} (h : cTk O L M p ps nu na to) : (tkK O L M p ≠ 2 → to ≠ 2) ∧ (tkK O L M p ≠ 3 → to ≠ 3) ∧ (tkK O L M p ≠ 0 → tkK O L M p ≠ 4 → to ≠ 0) := by
  obtain ⟨a, b, d, e, f⟩ := h
  have hk := tkK_le O L M p
  have : tkK O L M p = 0 ∨ tkK O L M p = 1 ∨ tkK O L M p = 2 ∨ tkK O L M p = 3 ∨ tkK O L M p = 4 := by omega
  rcases this with x | x | x | x | x
  · rw [a x, x]; exact ⟨fun _ => by decide, fun _ => by decide, fun y => absurd rfl y⟩
  · rw [(b x).1, x]; exact ⟨fun _ => by decide, fun _ => by decide, fun _ _ => by decide⟩
  · rw [(d x).1, x]; exact ⟨fun y => absurd rfl y, fun _ => by decide, fun _ _ => by decide⟩
  · rw [(e x).1, x]; exact ⟨fun _ => by decide, fun y => absurd rfl y, fun _ _ => by decide⟩
  · rw [x]
    rcases f x with y | y
    · rw [y]; exact ⟨fun _ => by decide, fun _ => by decide, fun _ z => absurd rfl z⟩
    · rw [y.1]; exact ⟨fun _ => by decide, fun _ => by decide, fun _ z => absurd rfl z⟩
def numOK (O : Nat → Nat) (L M p lo hi : Nat) : Prop := tkK O L M p = 2 ∧ lo ≤ tkV O L p ∧ tkV O L p ≤ hi
noncomputable def numF (O : Nat → Nat) (L M p : Nat) : Nat := if tkK O L M p = 2 then 2 else 1
theorem c_num {O : Nat → Nat} {by_ : Nat → Int32} (h : ∀ k, k < 940 → O k < 256 ∧ by_ k = sbT (O k)) {L M p : Nat} (hL : L ≤ 940) (hp : p ≤ L) {lo hi : Nat} (hlo : lo < 2 ^ 31) (hhi : hi < 2 ^ 31) (ki pl to tp tn : Int32) (tna : Int64) : (numOK O L M p lo hi → ∃ na to', dn_X6_readNumber ki pl (nI L) to tp tn tna (nI p) (nI (min L M)) by_ (nI lo) (nI hi) = some (true, nI (tkE O L p), nI (tkA O L M p), nI (tkV O L p), na, to', ki, pl)) ∧ (¬ numOK O L M p lo hi → ∃ ps nu na to', dn_X6_readNumber ki pl (nI L) to tp tn tna (nI p) (nI (min L M)) by_ (nI lo) (nI hi) = some (false, ps, nI (tkA O L M p), nu, na, to', nI (numF O L M p), nI (tkA O L M p))) := by
  obtain ⟨ps, nu, na, to', e, hc⟩ := c_next h (M := M) hL hp to tp tn tna
  unfold dn_X6_readNumber dn_X6_refuse
  rw [e, Option.bind_some]
  simp only [gq_X6_readNumber_0]
  unfold dn_X6_refuse
  by_cases c : tkK O L M p = 2
  · obtain ⟨t1, t2, t3⟩ := hc.2.2.1 c
    have hv := tkV_le c
    have hF : numF O L M p = 2 := by unfold numF; rw [if_pos c]
    rw [if_pos t1, t2, t3, hF]
    simp only [pz_lt (show tkV O L p < 2 ^ 31 by omega) hlo, pz_le (show tkV O L p < 2 ^ 31 by omega) hhi]
    constructor
    · rintro ⟨_, a, b⟩
      rw [if_neg (by omega), if_pos b]
      exact ⟨_, _, rfl⟩
    · intro n
      by_cases a : tkV O L p < lo
      · rw [if_pos a]; exact ⟨_, _, _, _, rfl⟩
      · rw [if_neg a, if_neg (fun b => n ⟨c, by omega, b⟩)]; exact ⟨_, _, _, _, rfl⟩
  · have hF : numF O L M p = 1 := by unfold numF; rw [if_neg c]
    rw [if_neg ((cTk_not hc).1 c), hF]
    exact ⟨fun x => absurd x.1 c, fun _ => ⟨_, _, _, _, rfl⟩⟩
theorem m_num {O : Nat → Nat} {ta : Nat → Int32} (h : ∀ k, k < 940 → O k < 256 ∧ ta k = sbT (O k)) {L M p : Nat} (hL : L ≤ 940) (hM : M ≤ 940) (hp : p ≤ L) {mp mat mto : Int32} {mwo : Int64} {mnu : Int32} (hm : mTk O L M p mp mat mto mwo mnu) {lo hi : Nat} (hlo : lo < 2 ^ 31) (hhi : hi < 2 ^ 31) (sp fa fat got : Int32) : (numOK O L M p lo hi → ∃ mp' mat' sp' mto' mwo' mnu', dn_X12_takes (nI L) mp (nI M) mto mat sp mnu fa fat mwo got ta (nI lo) (nI hi) = some (true, nI (tkV O L p), mp', mat', sp', mto', mwo', mnu', fa, fat) ∧ mTk O L M (tkE O L p) mp' mat' mto' mwo' mnu') ∧ (¬ numOK O L M p lo hi → dn_X12_takes (nI L) mp (nI M) mto mat sp mnu fa fat mwo got ta (nI lo) (nI hi) = some (false, got, mp, mat, sp, mto, mwo, mnu, nI (numF O L M p), nI (tkA O L M p))) := by
  have hk := tkK_le O L M p
  obtain ⟨m1, m2, m3, m4, m5⟩ := hm
  unfold dn_X12_takes dn_X12_bad
  by_cases c : tkK O L M p = 2
  · obtain ⟨t1, t2⟩ := m4 c
    have hv := tkV_le c
    have hF : numF O L M p = 2 := by unfold numF; rw [if_pos c]
    obtain ⟨e1, e2, e3, e4⟩ := tkE_le hp (Or.inr (Or.inl c))
    have hto : mto = 2 := by rw [m2, c]; rfl
    rw [if_pos hto, t2, hF]
    constructor
    · rintro ⟨_, a, b⟩
      obtain ⟨mp', mat', sp', mto', mwo', mnu', s1, s2⟩ := m_skip h (M := M) hL hM e2 mto mat sp (nI (tkV O L p)) mwo
      rw [m_isInc_t hhi a b, Option.bind_some, if_pos rfl, t1, s1]
      exact ⟨_, _, _, _, _, _, rfl, s2⟩
    · intro n
      rw [m_isInc_f hlo hhi (by omega) (by
        by_cases a : tkV O L p < lo
        · exact Or.inl a
        · right
          apply Classical.byContradiction
          intro b
          exact n ⟨c, by omega, by omega⟩), Option.bind_some, if_neg (by decide), m1]
      rfl
  · have hF : numF O L M p = 1 := by unfold numF; rw [if_neg c]
    have hto : ¬ mto = 2 := by rw [m2, pz_e2 (by omega)]; exact c
    rw [if_neg hto, hF, m1]
    exact ⟨fun x => absurd x.1 c, fun _ => rfl⟩
theorem c_atS {O : Nat → Nat} {L M p : Nat} {ps nu : Int32} {na : Int64} {to : Int32} (hc : cTk O L M p ps nu na to) (ki pl : Int32) : (tkK O L M p = 3 → dn_X6_atSemicolon ki pl to (nI (tkA O L M p)) = some (true, ki, pl)) ∧ (tkK O L M p ≠ 3 → dn_X6_atSemicolon ki pl to (nI (tkA O L M p)) = some (false, 1, nI (tkA O L M p))) := by
  unfold dn_X6_atSemicolon dn_X6_refuse
  refine ⟨fun c => by rw [if_pos (hc.2.2.2.1 c).1], fun c => by rw [if_neg ((cTk_not hc).2.1 c)]; rfl⟩
theorem c_semi {O : Nat → Nat} {by_ : Nat → Int32} (h : ∀ k, k < 940 → O k < 256 ∧ by_ k = sbT (O k)) {L M p : Nat} (hL : L ≤ 940) (hp : p ≤ L) (ki pl to tp tn : Int32) (tna : Int64) : (tkK O L M p = 3 → ∃ nu na to', dn_X6_readSemicolon ki pl (nI L) to tp tn tna (nI p) (nI (min L M)) by_ = some (true, nI (tkE O L p), nI (tkA O L M p), nu, na, to', ki, pl)) ∧ (tkK O L M p ≠ 3 → ∃ ps nu na to', dn_X6_readSemicolon ki pl (nI L) to tp tn tna (nI p) (nI (min L M)) by_ = some (false, ps, nI (tkA O L M p), nu, na, to', 1, nI (tkA O L M p))) := by
  obtain ⟨ps, nu, na, to', e, hc⟩ := c_next h (M := M) hL hp to tp tn tna
  obtain ⟨a, b⟩ := c_atS hc ki pl
  unfold dn_X6_readSemicolon
  rw [e, Option.bind_some]
  refine ⟨fun c => ?_, fun c => ?_⟩
  · rw [a c, Option.bind_some, (hc.2.2.2.1 c).2]; exact ⟨_, _, _, rfl⟩
  · rw [b c, Option.bind_some]; exact ⟨_, _, _, _, rfl⟩
theorem m_sign {O : Nat → Nat} {ta : Nat → Int32} (h : ∀ k, k < 940 → O k < 256 ∧ ta k = sbT (O k)) {L M p : Nat} (hL : L ≤ 940) (hM : M ≤ 940) (hp : p ≤ L) {mp mat mto : Int32} {mwo : Int64} {mnu : Int32} (hm : mTk O L M p mp mat mto mwo mnu) (sp fa fat : Int32) : (tkK O L M p = 3 → ∃ mp' mat' sp' mto' mwo' mnu', dn_X12_sign (nI L) mp (nI M) mto mat sp mnu fa fat mwo ta 59 = some (true, mp', mat', sp', mto', mwo', mnu', fa, fat) ∧ mTk O L M (tkE O L p) mp' mat' mto' mwo' mnu') ∧ (tkK O L M p ≠ 3 → dn_X12_sign (nI L) mp (nI M) mto mat sp mnu fa fat mwo ta 59 = some (false, mp, mat, sp, mto, mwo, mnu, 1, nI (tkA O L M p))) := by
  have hk := tkK_le O L M p
  obtain ⟨m1, m2, m3, m4, m5⟩ := hm
  unfold dn_X12_sign dn_X12_bad dn_X12_isSign
  by_cases c : tkK O L M p = 3
  · obtain ⟨t1, t2⟩ := m5 c
    obtain ⟨e1, e2, e3, e4⟩ := tkE_le hp (Or.inr (Or.inr c))
    obtain ⟨mp', mat', sp', mto', mwo', mnu', s1, s2⟩ := m_skip h (M := M) hL hM e2 mto mat sp mnu mwo
    have hto : mto = 3 := by rw [m2, c]; rfl
    refine ⟨fun _ => ?_, fun x => absurd c x⟩
    rw [if_pos hto, if_pos t2, Option.bind_some, if_pos rfl, t1, s1]
    exact ⟨_, _, _, _, _, _, rfl, s2⟩
  · have hto : ¬ mto = 3 := by rw [m2, show (3 : Int32) = nI 3 from rfl, pz_eq (by omega) (by omega)]; exact c
    refine ⟨fun x => absurd x c, fun _ => ?_⟩
    rw [if_neg hto, Option.bind_some, if_neg (by decide), m1]
    rfl
noncomputable def whoP (O : Nat → Nat) (L p : Nat) (mn : Nat → Int64) (n : Nat) : Option Nat := fo (fun k => decide (mn (40 + k) = lN (n256 (tkW O L p)))) n
noncomputable def whoD (O : Nat → Nat) (L p : Nat) (mn : Nat → Int64) (off n : Nat) : Option Nat := fo (fun k => decide (mn (off + k) = lN (n256 (tkW O L p)))) n
theorem isN_1 {O : Nat → Nat} {L M p : Nat} (h : isN O L M p = true) : tkK O L M p = 1 := by
  unfold isN at h
  rw [Bool.and_eq_true, beq_iff_eq] at h
  exact h.1
theorem nm_tk {O : Nat → Nat} {L M p : Nat} (h : tkK O L M p = 1) : nmR (lN (n32 (tkW O L p))) (lN (n256 (tkW O L p))) := ⟨_, (tkW_ok h).1, rfl, rfl⟩
theorem c_known {O : Nat → Nat} {by_ : Nat → Int32} (h : ∀ k, k < 940 → O k < 256 ∧ by_ k = sbT (O k)) {L M p : Nat} (hL : L ≤ 940) (hp : p ≤ L) {n : Nat} (hn : n ≤ 10) {cn mn : Nat → Int64} (hnm : nmsR n 40 cn mn) (ki pl to tp tn : Int32) (tna : Int64) : (isN O L M p = true → ∀ k, whoP O L p mn n = some k → ∃ nu na to', dn_X6_readKnownPerson ki pl (nI L) to tp tn tna (nI p) (nI (min L M)) by_ (nI n) cn = some (nI k, nI (tkE O L p), nI (tkA O L M p), nu, na, to', ki, pl)) ∧ (isN O L M p = true → whoP O L p mn n = none → ∃ ps nu na to', dn_X6_readKnownPerson ki pl (nI L) to tp tn tna (nI p) (nI (min L M)) by_ (nI n) cn = some (-1, ps, nI (tkA O L M p), nu, na, to', 3, nI (tkA O L M p))) ∧ (isN O L M p = false → ∃ ps nu na to', dn_X6_readKnownPerson ki pl (nI L) to tp tn tna (nI p) (nI (min L M)) by_ (nI n) cn = some (-1, ps, nI (tkA O L M p), nu, na, to', 1, nI (tkA O L M p))) := by
  obtain ⟨ps, nu, na, to', e, hc⟩ := c_next h (M := M) hL hp to tp tn tna
  unfold dn_X6_readKnownPerson dn_X6_refuse
  rw [e, Option.bind_some]
  simp only
  rw [c_isName h hL hc, Option.bind_some]
  cases hi : isN O L M p with
  | false =>
    refine ⟨fun x => by (cases x), fun x => by (cases x), fun _ => ?_⟩
    rw [if_neg (by decide)]
    exact ⟨_, _, _, _, rfl⟩
  | true =>
    have h1 := isN_1 hi
    have hna := (hc.2.1 h1).2.2
    have hps := (hc.2.1 h1).2.1
    have hw : fo (fun k => decide (cn k = na)) n = whoP O L p mn n := by rw [hna]; exact fo_nm hnm (nm_tk h1)
    have hlt : ∀ k, whoP O L p mn n = some k → k < 2 ^ 31 := fun k hk => by have := foI_some hk; omega
    rw [if_pos rfl, c_findP hn, hw, Option.bind_some]
    simp only [foI_m1 hlt]
    refine ⟨fun _ k hk => ?_, fun _ hk => ?_, fun x => by (cases x)⟩
    · rw [hk, if_neg (by simp), hps]; exact ⟨_, _, _, rfl⟩
    · rw [hk, if_pos rfl]; exact ⟨_, _, _, _, rfl⟩
theorem c_new {O : Nat → Nat} {by_ : Nat → Int32} (h : ∀ k, k < 940 → O k < 256 ∧ by_ k = sbT (O k)) {L M p : Nat} (hL : L ≤ 940) (hp : p ≤ L) {n d : Nat} (hn : n ≤ 10) (hd : d ≤ 30) {cn dn mn : Nat → Int64} (hnm : nmsR n 40 cn mn) (hdm : nmsR d 50 dn mn) (ki pl to tp tn : Int32) (tna : Int64) : (isN O L M p = true → whoP O L p mn n = none → whoD O L p mn 50 d = none → ∃ nu to', dn_X6_readNewName ki pl (nI L) to tp tn tna (nI p) (nI (min L M)) by_ (nI n) (nI d) dn cn = some (true, nI (tkE O L p), nI (tkA O L M p), nu, lN (n32 (tkW O L p)), to', ki, pl)) ∧ (isN O L M p = true → ¬ (whoP O L p mn n = none ∧ whoD O L p mn 50 d = none) → ∃ ps nu na to', dn_X6_readNewName ki pl (nI L) to tp tn tna (nI p) (nI (min L M)) by_ (nI n) (nI d) dn cn = some (false, ps, nI (tkA O L M p), nu, na, to', 3, nI (tkA O L M p))) ∧ (isN O L M p = false → ∃ ps nu na to', dn_X6_readNewName ki pl (nI L) to tp tn tna (nI p) (nI (min L M)) by_ (nI n) (nI d) dn cn = some (false, ps, nI (tkA O L M p), nu, na, to', 1, nI (tkA O L M p))) := by
  obtain ⟨ps, nu, na, to', e, hc⟩ := c_next h (M := M) hL hp to tp tn tna
  unfold dn_X6_readNewName dn_X6_refuse
  rw [e, Option.bind_some]
  simp only
  rw [c_isName h hL hc, Option.bind_some]
  simp only [gq_X6_readNewName_0]
  unfold dn_X6_refuse
  cases hi : isN O L M p with
  | false =>
    refine ⟨fun x => by (cases x), fun x => by (cases x), fun _ => ?_⟩
    rw [if_neg (by decide)]
    exact ⟨_, _, _, _, rfl⟩
  | true =>
    have h1 := isN_1 hi
    have hna := (hc.2.1 h1).2.2
    have hps := (hc.2.1 h1).2.1
    have hw : fo (fun k => decide (cn k = na)) n = whoP O L p mn n := by rw [hna]; exact fo_nm hnm (nm_tk h1)
    have hw2 : fo (fun k => decide (dn k = na)) d = whoD O L p mn 50 d := by rw [hna]; exact fo_nm hdm (nm_tk h1)
    have hlt : ∀ k, whoP O L p mn n = some k → k < 2 ^ 31 := fun k hk => by have := foI_some hk; omega
    have hlt2 : ∀ k, whoD O L p mn 50 d = some k → k < 2 ^ 31 := fun k hk => by have := foI_some hk; omega
    rw [if_pos rfl, c_findP hn, hw, Option.bind_some, c_findD hd, hw2, Option.bind_some]
    simp only [foI_m1 hlt, foI_m1 hlt2]
    refine ⟨fun _ a b => ?_, fun _ hk => ?_, fun x => by (cases x)⟩
    · rw [if_pos a, if_pos b, if_neg (by decide), hps, hna]; exact ⟨_, _, rfl⟩
    · by_cases a : whoP O L p mn n = none
      · rw [if_pos a, if_neg (fun b => hk ⟨a, b⟩), if_pos trivial]; exact ⟨_, _, _, _, rfl⟩
      · rw [if_neg a, if_pos trivial]; exact ⟨_, _, _, _, rfl⟩
