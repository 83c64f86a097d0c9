/-! ===== pure rows: the model's skip ===== -/
/-- what the model's cells hold behind skip, from the place p -/
def mTk (O : Nat → Nat) (L M p : Nat) (mp mat mto : Int32) (mwo : Int64) (mnu : Int32) : Prop :=
  mat = nI (tkA O L M p) ∧ mto = nI (tkK O L M p) ∧ (tkK O L M p = 1 → mp = nI (tkE O L p) ∧ mwo = lN (n256 (tkW O L p))) ∧ (tkK O L M p = 2 → mp = nI (tkE O L p) ∧ mnu = nI (tkV O L p)) ∧ (tkK O L M p = 3 → mp = nI (tkE O L p) ∧ mnu = 59)
theorem m_peek_t {O : Nat → Nat} {ta : Nat → Int32} (h : ∀ k, k < 940 → O k < 256 ∧ ta k = sbT (O k)) {L p : Nat} (hL : L ≤ 940) (hp : p < L) : dn_X12_peek (nI L) (nI p) ta = some (nI (O p)) := by
  unfold dn_X12_peek
  rw [if_neg (nI_ge hp (by omega)), inb_nI (show p < 940 by omega) (by omega), if_pos rfl, nI_clamp (by omega), (h p (by omega)).2, sb_and _ (h p (by omega)).1]
theorem m_peek_f {ta : Nat → Int32} {L p : Nat} (hp : L ≤ p) (hp2 : p < 2 ^ 31) : dn_X12_peek (nI L) (nI p) ta = some (-1) := by
  unfold dn_X12_peek
  rw [if_pos (nI_le hp (by omega))]
theorem m_small {c : Nat} (hc : c < 2 ^ 31) : dn_X12_isSmall (nI c) = some (smB c) := by
  unfold dn_X12_isSmall smB
  simp only [show (97 : Int32) = nI 97 from rfl, show (122 : Int32) = nI 122 from rfl, pz_lt hc (show 97 < 2 ^ 31 by omega), pz_lt (show 122 < 2 ^ 31 by omega) hc]
  by_cases a : c < 97
  · rw [if_pos a]; simp [show ¬ 97 ≤ c from by omega]
  · by_cases b : 122 < c
    · rw [if_neg a, if_pos b]; simp [show ¬ c ≤ 122 from by omega]
    · rw [if_neg a, if_neg b]; simp [show 97 ≤ c from by omega, show c ≤ 122 from by omega]
theorem m_digit {c : Nat} (hc : c < 2 ^ 31) : dn_X12_isDigit (nI c) = some (dgB c) := by
  unfold dn_X12_isDigit dgB
  simp only [show (48 : Int32) = nI 48 from rfl, show (57 : Int32) = nI 57 from rfl, pz_lt hc (show 48 < 2 ^ 31 by omega), pz_lt (show 57 < 2 ^ 31 by omega) hc]
  by_cases a : c < 48
  · rw [if_pos a]; simp [show ¬ 48 ≤ c from by omega]
  · by_cases b : 57 < c
    · rw [if_neg a, if_pos b]; simp [show ¬ c ≤ 57 from by omega]
    · rw [if_neg a, if_neg b]; simp [show 48 ≤ c from by omega, show c ≤ 57 from by omega]
theorem m_small0 : dn_X12_isSmall (-1) = some false := by unfold dn_X12_isSmall; rw [if_pos (by decide)]
theorem m_digit0 : dn_X12_isDigit (-1) = some false := by unfold dn_X12_isDigit; rw [if_pos (by decide)]
theorem lN_or (a b : Nat) : lN a ||| lN b = lN (a ||| b) := by
  apply Int64.toBitVec_inj.mp
  rw [Int64.toBitVec_or]
  apply BitVec.eq_of_toNat_eq
  rw [BitVec.toNat_or]
  show (BitVec.ofNat 64 a).toNat ||| (BitVec.ofNat 64 b).toNat = (BitVec.ofNat 64 (a ||| b)).toNat
  rw [BitVec.toNat_ofNat, BitVec.toNat_ofNat, BitVec.toNat_ofNat, Nat.or_mod_two_pow]
theorem lN_sh {n c : Nat} (hc : c < 256) : (lN n <<< (Int32.toInt64 8 &&& 63)) ||| (Int32.toInt64 (nI c)) = lN (n * 256 + c) := by
  have h1 : lN n <<< (Int32.toInt64 8 &&& 63) = lN (n * 256) := by
    apply Int64.toBitVec_inj.mp
    rw [Int64.toBitVec_shiftLeft]
    show (BitVec.ofNat 64 n) <<< ((Int32.toInt64 8 &&& 63).toBitVec.smod 64).toNat = BitVec.ofNat 64 (n * 256)
    rw [show ((Int32.toInt64 8 &&& 63).toBitVec.smod 64).toNat = 8 from by decide]
    apply BitVec.eq_of_toNat_eq
    rw [BitVec.toNat_shiftLeft, BitVec.toNat_ofNat, BitVec.toNat_ofNat, Nat.shiftLeft_eq]
    omega
  rw [h1, nI_l (by omega), lN_or]
  congr 1
  rw [Nat.mul_comm n, show (256 : Nat) = 2 ^ 8 from rfl, Nat.two_pow_add_eq_or_of_lt (show c < 2 ^ 8 by omega) n]
def runM (O : Nat → Nat) (q p : Nat) (e : Bool) (sp nu : Int32) (wo : Int64) : Prop := q ≤ p ∧ sp = nI (p - q) ∧ (e = true ↔ ∀ k, q ≤ k → k < p → smB (O k) = smB (O q)) ∧ (p - q ≤ 7 → wo = lN (n256 (wdK O q (p - q)))) ∧ (p - q ≤ 2 → nu = nI (nuK O q (p - q)))
theorem m_run {O : Nat → Nat} {ta : Nat → Int32} (h : ∀ k, k < 940 → O k < 256 ∧ ta k = sbT (O k)) {L q : Nat} (hL : L ≤ 940) (M at_ to : Int32) : ∀ (n p : Nat) (e : Bool) (sp nu : Int32) (wo : Int64), p + n = L → runM O q p e sp nu wo → ∃ e' sp' nu' wo', gn_X12_skip_4 (nI L) M ta (b2i (smB (O q))) (b2i e) (nI p) at_ sp to wo nu = some (nI (whQ (alB O) n p), at_, sp', (if e' = true then (if smB (O q) = true then (if whQ (alB O) n p - q ≤ 7 then 1 else 4) else (if whQ (alB O) n p - q ≤ 2 then 2 else 4)) else 4), wo', nu') ∧ runM O q (whQ (alB O) n p) e' sp' nu' wo' := by
  have fin : ∀ (p : Nat) (e : Bool) (sp nu : Int32) (wo : Int64), p ≤ L → runM O q p e sp nu wo → (p < L → alB O p = false) → gn_X12_skip_4 (nI L) M ta (b2i (smB (O q))) (b2i e) (nI p) at_ sp to wo nu = some (nI p, at_, sp, (if e = true then (if smB (O q) = true then (if p - q ≤ 7 then 1 else 4) else (if p - q ≤ 2 then 2 else 4)) else 4), wo, nu) := by
    intro p e sp nu wo hp hi hal
    obtain ⟨i1, i2, i3, i4, i5⟩ := hi
    have hend : gn_X12_skip_4 (nI L) M ta (b2i (smB (O q))) (b2i e) (nI p) at_ sp to wo nu = if b2i e = 0 then some (nI p, at_, sp, 4, wo, nu) else if b2i (smB (O q)) = 0 then gn_X12_skip_6 (nI L) M ta (b2i (smB (O q))) sp 2 (nI p) at_ sp to wo nu else gn_X12_skip_6 (nI L) M ta (b2i (smB (O q))) sp 7 (nI p) at_ sp to wo nu := by
      by_cases c : p < L
      · have ha := hal c
        unfold alB at ha
        rw [Bool.or_eq_false_iff] at ha
        have ho := (h p (by omega)).1
        rw [gq_X12_skip_4, m_peek_t h hL c, Option.bind_some, m_small (by omega), Option.bind_some, ha.1, if_neg (by decide), Option.bind_some, m_digit (by omega), Option.bind_some, ha.2, if_neg (by decide)]
      · rw [gq_X12_skip_4, m_peek_f (by omega) (by omega), Option.bind_some, m_small0, Option.bind_some, if_neg (by decide), Option.bind_some, m_digit0, Option.bind_some, if_neg (by decide)]
    rw [hend, i2]
    cases e with
    | false => rfl
    | true =>
      rw [if_neg (show ¬ b2i true = 0 by decide), if_pos (show true = true from rfl)]
      cases smB (O q) with
      | false =>
        rw [if_pos (show b2i false = 0 by decide), if_neg (show ¬ (false = true) by decide), gq_X12_skip_6, if_pos (show b2i false = 0 by decide)]
        simp only [show (2 : Int32) = nI 2 from rfl, pz_le (show p - q < 2 ^ 31 by omega) (show 2 < 2 ^ 31 by omega)]
        split <;> rfl
      | true =>
        rw [if_neg (show ¬ b2i true = 0 by decide), if_pos (show true = true from rfl), gq_X12_skip_6, if_neg (show ¬ b2i true = 0 by decide)]
        simp only [show (7 : Int32) = nI 7 from rfl, pz_le (show p - q < 2 ^ 31 by omega) (show 7 < 2 ^ 31 by omega)]
        split <;> rfl
  intro n
  induction n with
  | zero =>
    intro p e sp nu wo hp hi
    exact ⟨e, sp, nu, wo, fin p e sp nu wo (by omega) hi (fun c => by omega), hi⟩
  | succ n ih =>
    intro p e sp nu wo hp hi
    have ew : whQ (alB O) (n + 1) p = if alB O p = true then whQ (alB O) n (p + 1) else p := rfl
    by_cases ha : alB O p = true
    · obtain ⟨i1, i2, i3, i4, i5⟩ := hi
      have ho := (h p (by omega)).1
      have hge : 48 ≤ O p := by
        unfold alB smB dgB at ha
        simp only [Bool.or_eq_true, Bool.and_eq_true, decide_eq_true_eq] at ha
        omega
      have e0 : p + 1 - q = (p - q) + 1 := by omega
      have e1 : q + (p - q) = p := by omega
      have h5 : gn_X12_skip_4 (nI L) M ta (b2i (smB (O q))) (b2i e) (nI p) at_ sp to wo nu = gn_X12_skip_5 (nI L) M ta (b2i (smB (O q))) (b2i e) (nI p) at_ sp to wo nu := by
        rw [gq_X12_skip_4, m_peek_t h hL (by omega), Option.bind_some, m_small (by omega), Option.bind_some]
        by_cases c : smB (O p) = true
        · rw [if_pos c]
        · have c2 : dgB (O p) = true := by
            unfold alB at ha
            simpa [c] using ha
          rw [if_neg c, Option.bind_some, m_digit (by omega), Option.bind_some, if_pos c2]
      obtain ⟨e2, he2, he3⟩ : ∃ e2 : Bool, (e2 = true ↔ ∀ k, q ≤ k → k < p + 1 → smB (O k) = smB (O q)) ∧ gn_X12_skip_5 (nI L) M ta (b2i (smB (O q))) (b2i e) (nI p) at_ sp to wo nu = gn_X12_skip_7 (nI L) M ta (b2i (smB (O q))) (b2i e2) (nI p) at_ sp to wo nu := by
        rw [gq_X12_skip_5]
        simp only [pz_b0]
        cases e with
        | false =>
          rw [if_pos rfl]
          refine ⟨false, ⟨fun x => by (cases x), fun x => ?_⟩, rfl⟩
          exact i3.mpr (fun k k1 k2 => x k k1 (by omega))
        | true =>
          rw [if_neg (by decide), m_peek_t h hL (by omega), Option.bind_some, m_small (by omega), Option.bind_some]
          simp only [pz_bb]
          by_cases c : smB (O p) = smB (O q)
          · rw [if_pos c]
            refine ⟨true, ⟨fun _ k k1 k2 => ?_, fun _ => rfl⟩, rfl⟩
            by_cases d : k = p
            · rw [d]; exact c
            · exact i3.mp rfl k k1 (by omega)
          · rw [if_neg c]
            exact ⟨false, ⟨fun x => by (cases x), fun x => absurd (x p i1 (by omega)) c⟩, rfl⟩
      obtain ⟨wo2, hw1, hw2⟩ : ∃ wo2, (p + 1 - q ≤ 7 → wo2 = lN (n256 (wdK O q (p + 1 - q)))) ∧ gn_X12_skip_7 (nI L) M ta (b2i (smB (O q))) (b2i e2) (nI p) at_ sp to wo nu = gn_X12_skip_8 (nI L) M ta (b2i (smB (O q))) (b2i e2) (nI p) at_ sp to wo2 nu := by
        rw [gq_X12_skip_7, i2]
        simp only [show (7 : Int32) = nI 7 from rfl, pz_le (show 7 < 2 ^ 31 by omega) (show p - q < 2 ^ 31 by omega)]
        by_cases c : 7 ≤ p - q
        · rw [if_pos c]; exact ⟨wo, fun x => by omega, rfl⟩
        · rw [if_neg c, m_peek_t h hL (by omega), Option.bind_some, i4 (by omega), lN_sh ho]
          refine ⟨_, fun _ => ?_, rfl⟩
          rw [e0]
          show lN _ = lN (n256 (O (q + (p - q)) :: wdK O q (p - q)))
          rw [e1]; rfl
      obtain ⟨nu2, hn1, hn2⟩ : ∃ nu2, (p + 1 - q ≤ 2 → nu2 = nI (nuK O q (p + 1 - q))) ∧ gn_X12_skip_8 (nI L) M ta (b2i (smB (O q))) (b2i e2) (nI p) at_ sp to wo2 nu = gn_X12_skip_9 (nI L) M ta (b2i (smB (O q))) (b2i e2) (nI p) at_ sp to wo2 nu2 := by
        rw [gq_X12_skip_8, i2]
        simp only [show (2 : Int32) = nI 2 from rfl, pz_le (show 2 < 2 ^ 31 by omega) (show p - q < 2 ^ 31 by omega)]
        by_cases c : 2 ≤ p - q
        · rw [if_pos c]; exact ⟨nu, fun x => by omega, rfl⟩
        · rw [if_neg c, m_peek_t h hL (by omega), Option.bind_some, i5 (by omega), show (10 : Int32) = nI 10 from rfl, pk_mul, nI_add, show (48 : Int32) = nI 48 from rfl, pz_s (by omega)]
          refine ⟨_, fun _ => ?_, rfl⟩
          rw [e0]
          show nI _ = nI (nuK O q (p - q) * 10 + (O (q + (p - q)) - 48))
          rw [e1]
          congr 1
          omega
      have hst : gn_X12_skip_4 (nI L) M ta (b2i (smB (O q))) (b2i e) (nI p) at_ sp to wo nu = gn_X12_skip_4 (nI L) M ta (b2i (smB (O q))) (b2i e2) (nI (p + 1)) at_ (nI (p + 1 - q)) to wo2 nu2 := by
        rw [h5, he3, hw2, hn2, gq_X12_skip_9, i2, nI_1, nI_1, e0]
      rw [hst, ew, if_pos ha]
      exact ih (p + 1) e2 _ nu2 wo2 (by omega) ⟨by omega, rfl, he2, hw1, hn1⟩
    · have ha' : alB O p = false := by simpa using ha
      rw [ew, if_neg ha]
      exact ⟨e, sp, nu, wo, fin p e sp nu wo (by omega) hi (fun _ => ha'), hi⟩
theorem m_space {O : Nat → Nat} {ta : Nat → Int32} (h : ∀ k, k < 940 → O k < 256 ∧ ta k = sbT (O k)) {L : Nat} (hL : L ≤ 940) (M at_ sp to : Int32) (wo : Int64) (nu : Int32) : ∀ (n p : Nat), p + n = L → gn_X12_skip_0 (nI L) M ta (nI p) at_ sp to wo nu = if nI L ≤ M then gn_X12_skip_1 (nI L) M ta (nI (whQ (spB O) n p)) (nI (whQ (spB O) n p)) 0 to wo nu else if nI (whQ (spB O) n p) < M then gn_X12_skip_1 (nI L) M ta (nI (whQ (spB O) n p)) (nI (whQ (spB O) n p)) 0 to wo nu else some (nI (whQ (spB O) n p), M, 0, 4, wo, nu)
  | 0, p, hp => by
    rw [gq_X12_skip_0, m_peek_f (by omega) (by omega), Option.bind_some, if_neg (by decide), Option.bind_some, if_neg (by decide)]; rfl
  | n + 1, p, hp => by
    have ho := (h p (by omega)).1
    have ih := m_space h hL M at_ sp to wo nu n (p + 1) (by omega)
    have ew : whQ (spB O) (n + 1) p = if spB O p = true then whQ (spB O) n (p + 1) else p := rfl
    rw [gq_X12_skip_0, m_peek_t h hL (by omega), Option.bind_some, Option.bind_some, nI_1, ih, ew]
    simp only [show (32 : Int32) = nI 32 from rfl, show (10 : Int32) = nI 10 from rfl, pz_eq (show O p < 2 ^ 31 by omega) (show 32 < 2 ^ 31 by omega), pz_eq (show O p < 2 ^ 31 by omega) (show 10 < 2 ^ 31 by omega)]
    by_cases c1 : O p = 32
    · rw [if_pos c1, if_pos (show spB O p = true by unfold spB; rw [c1]; rfl)]
    · by_cases c2 : O p = 10
      · rw [if_neg c1, if_pos c2, if_pos (show spB O p = true by unfold spB; rw [c2]; rfl)]
      · rw [if_neg c1, if_neg c2, if_neg (show ¬ spB O p = true by unfold spB; simp [c1, c2])]
theorem m_skip {O : Nat → Nat} {ta : Nat → Int32} (h : ∀ k, k < 940 → O k < 256 ∧ ta k = sbT (O k)) {L M p : Nat} (hL : L ≤ 940) (hM : M ≤ 940) (hp : p ≤ L) (to at_ sp nu : Int32) (wo : Int64) : ∃ mp mat msp mto mwo mnu, dn_X12_skip (nI L) (nI p) (nI M) to at_ sp nu wo ta = some (mp, mat, msp, mto, mwo, mnu) ∧ mTk O L M p mp mat mto mwo mnu := by
  have hst : dn_X12_skip (nI L) (nI p) (nI M) to at_ sp nu wo ta = gn_X12_skip_0 (nI L) (nI M) ta (nI p) at_ sp to wo nu := by
    unfold dn_X12_skip
    exact (gq_X12_skip_0 (nI L) (nI M) ta (nI p) at_ sp to wo nu).symm
  have hq := tkQ_le O hp
  have e9 : whQ (spB O) (L - p) p = tkQ O L p := rfl
  rw [hst, m_space h hL _ at_ sp to wo nu (L - p) p (by omega), e9]
  simp only [pz_le (show L < 2 ^ 31 by omega) (show M < 2 ^ 31 by omega), pz_lt (show tkQ O L p < 2 ^ 31 by omega) (show M < 2 ^ 31 by omega)]
  have main : tkQ O L p < min L M → ∃ mp mat msp mto mwo mnu, gn_X12_skip_1 (nI L) (nI M) ta (nI (tkQ O L p)) (nI (tkQ O L p)) 0 to wo nu = some (mp, mat, msp, mto, mwo, mnu) ∧ mTk O L M p mp mat mto mwo mnu := by
    intro c
    have ho := (h (tkQ O L p) (by omega)).1
    have hA : tkA O L M p = tkQ O L p := by unfold tkA; rw [if_pos c]
    have hrl := tkR_le O (L := L) (q := tkQ O L p) (by omega)
    rw [gq_X12_skip_1, m_peek_t h hL (by omega), Option.bind_some, if_pos (show (0 : Int32) ≤ nI (O (tkQ O L p)) from nI_le (a := 0) (by omega) (by omega)), m_small (by omega), Option.bind_some]
    by_cases d : alB O (tkQ O L p) = true
    · have hE : tkE O L p = tkR O L (tkQ O L p) := by unfold tkE; rw [if_pos d]
      have hr := tkR_lt (show tkQ O L p < L by omega) d
      have hral : ∀ k, tkQ O L p ≤ k → k < tkR O L (tkQ O L p) → alB O k = true := (whQ_ge (alB O) (L - tkQ O L p) (tkQ O L p)).2.2.1
      obtain ⟨k1, k2⟩ := tkK_1 c d
      obtain ⟨e', sp', nu', wo', r1, r2, r3, r4, r5, r6⟩ := m_run h (q := tkQ O L p) hL (nI M) (nI (tkQ O L p)) to (L - tkQ O L p) (tkQ O L p) true 0 0 0 (by omega) ⟨Nat.le_refl _, by rw [Nat.sub_self]; rfl, ⟨fun _ k h1 h2 => by omega, fun _ => rfl⟩, fun _ => by rw [Nat.sub_self]; rfl, fun _ => by rw [Nat.sub_self]; rfl⟩
      have r1' : gn_X12_skip_4 (nI L) (nI M) ta (b2i (smB (O (tkQ O L p)))) 1 (nI (tkQ O L p)) (nI (tkQ O L p)) 0 to 0 0 = some (nI (tkR O L (tkQ O L p)), nI (tkQ O L p), sp', (if e' = true then (if smB (O (tkQ O L p)) = true then (if tkR O L (tkQ O L p) - tkQ O L p ≤ 7 then 1 else 4) else (if tkR O L (tkQ O L p) - tkQ O L p ≤ 2 then 2 else 4)) else 4), wo', nu') := r1
      have r4' : e' = true ↔ ∀ k, tkQ O L p ≤ k → k < tkR O L (tkQ O L p) → smB (O k) = smB (O (tkQ O L p)) := r4
      have r5' : tkR O L (tkQ O L p) - tkQ O L p ≤ 7 → wo' = lN (n256 (wdK O (tkQ O L p) (tkR O L (tkQ O L p) - tkQ O L p))) := r5
      have r6' : tkR O L (tkQ O L p) - tkQ O L p ≤ 2 → nu' = nI (nuK O (tkQ O L p) (tkR O L (tkQ O L p) - tkQ O L p)) := r6
      have h2 : gn_X12_skip_2 (nI L) (nI M) ta (nI (O (tkQ O L p))) (nI (tkQ O L p)) (nI (tkQ O L p)) 0 to wo nu = gn_X12_skip_4 (nI L) (nI M) ta (b2i (smB (O (tkQ O L p)))) 1 (nI (tkQ O L p)) (nI (tkQ O L p)) 0 to 0 0 := by
        rw [gq_X12_skip_2, m_small (by omega), Option.bind_some]
      have h3 : (if smB (O (tkQ O L p)) = true then gn_X12_skip_2 (nI L) (nI M) ta (nI (O (tkQ O L p))) (nI (tkQ O L p)) (nI (tkQ O L p)) 0 to wo nu else Option.bind (dn_X12_isDigit (nI (O (tkQ O L p)))) fun q17 => if q17 = true then gn_X12_skip_2 (nI L) (nI M) ta (nI (O (tkQ O L p))) (nI (tkQ O L p)) (nI (tkQ O L p)) 0 to wo nu else if nI (O (tkQ O L p)) = 59 then gn_X12_skip_3 (nI L) (nI M) ta (nI (O (tkQ O L p))) 3 (nI (tkQ O L p)) (nI (tkQ O L p)) 0 to wo nu else gn_X12_skip_3 (nI L) (nI M) ta (nI (O (tkQ O L p))) 4 (nI (tkQ O L p)) (nI (tkQ O L p)) 0 to wo nu) = gn_X12_skip_2 (nI L) (nI M) ta (nI (O (tkQ O L p))) (nI (tkQ O L p)) (nI (tkQ O L p)) 0 to wo nu := by
        by_cases x : smB (O (tkQ O L p)) = true
        · rw [if_pos x]
        · have y : dgB (O (tkQ O L p)) = true := by
            unfold alB at d
            simpa [x] using d
          rw [if_neg x, m_digit (by omega), Option.bind_some, if_pos y]
      refine ⟨_, _, _, _, _, _, h3.trans (h2.trans r1'), ?_⟩
      unfold mTk
      rw [hA, hE]
      by_cases s : smB (O (tkQ O L p)) = true
      · have hall : e' = true ↔ allS O (tkQ O L p) (tkR O L (tkQ O L p)) := by
          rw [r4', s]; exact Iff.rfl
        have hnd : ¬ allD O (tkQ O L p) (tkR O L (tkQ O L p)) := fun x => sm_dg s (x _ (Nat.le_refl _) hr)
        by_cases w1 : allS O (tkQ O L p) (tkR O L (tkQ O L p)) ∧ tkR O L (tkQ O L p) - tkQ O L p ≤ 7
        · rw [k1 w1, if_pos (hall.mpr w1.1), if_pos s, if_pos w1.2]
          exact ⟨rfl, rfl, fun _ => ⟨rfl, r5' w1.2⟩, fun x => by omega, fun x => by omega⟩
        · rw [(k2 w1).2 (fun x => hnd x.1)]
          refine ⟨rfl, ?_, fun x => by omega, fun x => by omega, fun x => by omega⟩
          by_cases w2 : e' = true
          · rw [if_pos w2, if_pos s, if_neg (fun x => w1 ⟨hall.mp w2, x⟩)]; rfl
          · rw [if_neg w2]; rfl
      · have s' : smB (O (tkQ O L p)) = false := by simpa using s
        have hns : ¬ (allS O (tkQ O L p) (tkR O L (tkQ O L p)) ∧ tkR O L (tkQ O L p) - tkQ O L p ≤ 7) := fun x => s (x.1 _ (Nat.le_refl _) hr)
        have hall : e' = true ↔ allD O (tkQ O L p) (tkR O L (tkQ O L p)) := by
          rw [r4', s']
          constructor
          · intro f k h1 h2
            have a1 := hral k h1 h2
            unfold alB at a1
            rw [f k h1 h2] at a1
            simpa using a1
          · intro f k h1 h2
            cases x : smB (O k) with
            | false => rfl
            | true => exact (sm_dg x (f k h1 h2)).elim
        by_cases w2 : allD O (tkQ O L p) (tkR O L (tkQ O L p)) ∧ tkR O L (tkQ O L p) - tkQ O L p ≤ 2
        · rw [(k2 hns).1 w2, if_pos (hall.mpr w2.1), if_neg s, if_pos w2.2]
          exact ⟨rfl, rfl, fun x => by omega, fun _ => ⟨rfl, r6' w2.2⟩, fun x => by omega⟩
        · rw [(k2 hns).2 w2]
          refine ⟨rfl, ?_, fun x => by omega, fun x => by omega, fun x => by omega⟩
          by_cases w3 : e' = true
          · rw [if_pos w3, if_neg s, if_neg (fun x => w2 ⟨hall.mp w3, x⟩)]; rfl
          · rw [if_neg w3]; rfl
    · have hE : tkE O L p = tkQ O L p + 1 := by unfold tkE; rw [if_neg d]
      have e := tkK_3 c d
      have d1 : smB (O (tkQ O L p)) = false := by
        unfold alB at d
        cases x : smB (O (tkQ O L p)) with
        | false => rfl
        | true => rw [x] at d; exact absurd rfl d
      have d2 : dgB (O (tkQ O L p)) = false := by
        unfold alB at d
        cases x : dgB (O (tkQ O L p)) with
        | false => rfl
        | true => rw [x, Bool.or_true] at d; exact absurd rfl d
      rw [d1, if_neg (by decide), m_digit (by omega), Option.bind_some, d2, if_neg (by decide), gq_X12_skip_3, gq_X12_skip_3, nI_1]
      simp only [show (59 : Int32) = nI 59 from rfl, pz_eq (show O (tkQ O L p) < 2 ^ 31 by omega) (show 59 < 2 ^ 31 by omega)]
      by_cases w : O (tkQ O L p) = 59
      · rw [if_pos w] at e
        rw [if_pos w]
        refine ⟨_, _, _, _, _, _, rfl, ?_⟩
        unfold mTk
        rw [hA, hE, e]
        exact ⟨rfl, rfl, fun x => by omega, fun x => by omega, fun _ => ⟨rfl, by rw [w]; rfl⟩⟩
      · rw [if_neg w] at e
        rw [if_neg w]
        refine ⟨_, _, _, _, _, _, rfl, ?_⟩
        unfold mTk
        rw [hA, e]
        exact ⟨rfl, rfl, fun x => by omega, fun x => by omega, fun x => by omega⟩
  by_cases c : tkQ O L p < min L M
  · by_cases w : L ≤ M
    · rw [if_pos w]; exact main c
    · rw [if_neg w, if_pos (by omega)]; exact main c
  · have hA : tkA O L M p = min L M := by unfold tkA; rw [if_neg c]
    have e := tkK_no c
    by_cases w : L ≤ M
    · rw [if_pos w] at e
      have hqe : tkQ O L p = L := by omega
      rw [if_pos w, gq_X12_skip_1, m_peek_f (by omega) (by omega), Option.bind_some, if_neg (by decide)]
      refine ⟨_, _, _, _, _, _, rfl, ?_⟩
      unfold mTk
      rw [hA, e]
      exact ⟨by rw [hqe, Nat.min_eq_left w], rfl, fun x => by omega, fun x => by omega, fun x => by omega⟩
    · rw [if_neg w] at e
      rw [if_neg w, if_neg (by omega)]
      refine ⟨_, _, _, _, _, _, rfl, ?_⟩
      unfold mTk
      rw [hA, e]
      exact ⟨by rw [Nat.min_eq_right (by omega)], rfl, fun x => by omega, fun x => by omega, fun x => by omega⟩
