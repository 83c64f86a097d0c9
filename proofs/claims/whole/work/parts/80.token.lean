/-! ===== pure: what stands on the tape at a place ===== -/
def whQ (P : Nat → Bool) : Nat → Nat → Nat
  | 0, p => p
  | n + 1, p => if P p = true then whQ P n (p + 1) else p
theorem whQ_ge (P : Nat → Bool) : ∀ n p, p ≤ whQ P n p ∧ whQ P n p ≤ p + n ∧ (∀ k, p ≤ k → k < whQ P n p → P k = true) ∧ (whQ P n p < p + n → P (whQ P n p) = false)
  | 0, p => ⟨Nat.le_refl _, Nat.le_refl _, fun k h1 h2 => by
    have : whQ P 0 p = p := rfl
    omega, fun h => by
    have : whQ P 0 p = p := rfl
    omega⟩
  | n + 1, p => by
    obtain ⟨a, b, c, d⟩ := whQ_ge P n (p + 1)
    show p ≤ (if P p = true then whQ P n (p + 1) else p) ∧ (if P p = true then whQ P n (p + 1) else p) ≤ p + (n + 1) ∧ (∀ k, p ≤ k → k < (if P p = true then whQ P n (p + 1) else p) → P k = true) ∧ ((if P p = true then whQ P n (p + 1) else p) < p + (n + 1) → P (if P p = true then whQ P n (p + 1) else p) = false)
    by_cases h : P p = true
    · rw [if_pos h]
      refine ⟨by omega, by omega, fun k h1 h2 => ?_, fun h1 => d (by omega)⟩
      by_cases e : k = p
      · rw [e]; exact h
      · exact c k (by omega) h2
    · rw [if_neg h]
      exact ⟨Nat.le_refl _, by omega, fun k h1 h2 => by omega, fun _ => by simpa using h⟩
theorem whQ_more (P : Nat → Bool) : ∀ n m p, n ≤ m → whQ P n p = whQ P m p ∨ (whQ P n p = p + n ∧ p + n ≤ whQ P m p)
  | 0, m, p, h => Or.inr ⟨rfl, (whQ_ge P m p).1⟩
  | n + 1, 0, p, h => by omega
  | n + 1, m + 1, p, h => by
    show (if P p = true then whQ P n (p + 1) else p) = (if P p = true then whQ P m (p + 1) else p) ∨ ((if P p = true then whQ P n (p + 1) else p) = p + (n + 1) ∧ p + (n + 1) ≤ (if P p = true then whQ P m (p + 1) else p))
    by_cases c : P p = true
    · rw [if_pos c, if_pos c]
      rcases whQ_more P n m (p + 1) (by omega) with h | ⟨h1, h2⟩
      · exact Or.inl h
      · exact Or.inr ⟨by omega, by omega⟩
    · rw [if_neg c, if_neg c]; exact Or.inl rfl
def spB (O : Nat → Nat) (k : Nat) : Bool := O k == 32 || O k == 10
def smB (c : Nat) : Bool := decide (97 ≤ c) && decide (c ≤ 122)
def dgB (c : Nat) : Bool := decide (48 ≤ c) && decide (c ≤ 57)
def alB (O : Nat → Nat) (k : Nat) : Bool := smB (O k) || dgB (O k)
/-- the letters read, the last first -/
def wdK (O : Nat → Nat) (q : Nat) : Nat → List Nat
  | 0 => []
  | j + 1 => O (q + j) :: wdK O q j
def n32 : List Nat → Nat
  | [] => 0
  | c :: w => n32 w * 32 + (c - 96)
def n256 : List Nat → Nat
  | [] => 0
  | c :: w => n256 w * 256 + c
def nuK (O : Nat → Nat) (q : Nat) : Nat → Nat
  | 0 => 0
  | j + 1 => nuK O q j * 10 + (O (q + j) - 48)
def tkQ (O : Nat → Nat) (L p : Nat) : Nat := whQ (spB O) (L - p) p
def tkR (O : Nat → Nat) (L q : Nat) : Nat := whQ (alB O) (L - q) q
noncomputable def allS (O : Nat → Nat) (q r : Nat) : Prop := ∀ k, q ≤ k → k < r → smB (O k) = true
noncomputable def allD (O : Nat → Nat) (q r : Nat) : Prop := ∀ k, q ≤ k → k < r → dgB (O k) = true
/-- which token: 0 the end, 1 a word, 2 a number, 3 a semicolon, 4 none -/
noncomputable def tkK (O : Nat → Nat) (L M p : Nat) : Nat :=
  have := fun (a : Prop) => Classical.propDecidable a
  if tkQ O L p < min L M then
    if alB O (tkQ O L p) = true then
      if allS O (tkQ O L p) (tkR O L (tkQ O L p)) ∧ tkR O L (tkQ O L p) - tkQ O L p ≤ 7 then 1
      else if allD O (tkQ O L p) (tkR O L (tkQ O L p)) ∧ tkR O L (tkQ O L p) - tkQ O L p ≤ 2 then 2 else 4
    else if O (tkQ O L p) = 59 then 3 else 4
  else if L ≤ M then 0 else 4
def tkA (O : Nat → Nat) (L M p : Nat) : Nat := if tkQ O L p < min L M then tkQ O L p else min L M
def tkE (O : Nat → Nat) (L p : Nat) : Nat := if alB O (tkQ O L p) = true then tkR O L (tkQ O L p) else tkQ O L p + 1
def tkW (O : Nat → Nat) (L p : Nat) : List Nat := wdK O (tkQ O L p) (tkR O L (tkQ O L p) - tkQ O L p)
def tkV (O : Nat → Nat) (L p : Nat) : Nat := nuK O (tkQ O L p) (tkR O L (tkQ O L p) - tkQ O L p)
/-! the class's reading of it -/
set_option maxRecDepth 100000 in
theorem sb_eq : ∀ o, o < 256 → ((sbT o = 32) ↔ o = 32) ∧ ((sbT o = 10) ↔ o = 10) ∧ ((sbT o = 59) ↔ o = 59) := by decide +kernel
set_option maxRecDepth 100000 in
theorem sb_sm : ∀ o, o < 256 → smB o = true → ¬ sbT o < 97 ∧ ¬ (122 : Int32) < sbT o ∧ sbT o = nI o := by decide +kernel
set_option maxRecDepth 100000 in
theorem sq_dg : ∀ o, o < 256 → dgB o = true → sbT o < 97 ∧ ¬ sbT o < 48 ∧ ¬ (57 : Int32) < sbT o ∧ sbT o = nI o := by decide +kernel
set_option maxRecDepth 100000 in
theorem sb_no : ∀ o, o < 256 → smB o = false → dgB o = false → (sbT o < 97 ∨ (122 : Int32) < sbT o) ∧ (sbT o < 48 ∨ (57 : Int32) < sbT o) := by decide +kernel
def runI (O : Nat → Nat) (q p a d : Nat) (nu : Int32) (na : Int64) : Prop := q ≤ p ∧ a + d = p - q ∧ (d = 0 ↔ allS O q p) ∧ (a = 0 ↔ allD O q p) ∧ (d = 0 → na = lN (n32 (wdK O q (p - q)))) ∧ (a = 0 → nu = nI (nuK O q (p - q)))
theorem sm_dg {c : Nat} (h1 : smB c = true) (h2 : dgB c = true) : False := by
  unfold smB at h1
  unfold dgB at h2
  simp only [Bool.and_eq_true, decide_eq_true_eq] at h1 h2
  omega
theorem c_run {O : Nat → Nat} {by_ : Nat → Int32} (h : ∀ k, k < 940 → O k < 256 ∧ by_ k = sbT (O k)) {L q : Nat} (hL : L ≤ 940) (to : Int32) : ∀ (n p a d : Nat) (nu : Int32) (na : Int64), p + n = L → runI O q p a d nu na → ∃ a' d' nu' na', gn_X9_readWordOrNumber_0 (nI L) by_ (nI a) (nI d) nu na (nI p) to = gn_X9_readWordOrNumber_1 (nI L) by_ (nI a') (nI d') nu' na' (nI (whQ (alB O) n p)) to ∧ runI O q (whQ (alB O) n p) a' d' nu' na'
  | 0, p, a, d, nu, na, hp, hi => by
    refine ⟨a, d, nu, na, ?_, hi⟩
    rw [gq_X9_readWordOrNumber_0, if_pos (nI_le (by omega) (by omega))]; rfl
  | n + 1, p, a, d, nu, na, hp, hi => by
    obtain ⟨i1, i2, i3, i4, i5, i6⟩ := hi
    obtain ⟨o1, o2⟩ := h p (by omega)
    have ew : whQ (alB O) (n + 1) p = if alB O p = true then whQ (alB O) n (p + 1) else p := rfl
    have e0 : p + 1 - q = (p - q) + 1 := by omega
    have e1 : q + (p - q) = p := by omega
    have hS : allS O q (p + 1) ↔ allS O q p ∧ smB (O p) = true := by
      constructor
      · intro f; exact ⟨fun k h1 h2 => f k h1 (by omega), f p i1 (by omega)⟩
      · rintro ⟨f, g⟩ k h1 h2
        by_cases c : k = p
        · rw [c]; exact g
        · exact f k h1 (by omega)
    have hD : allD O q (p + 1) ↔ allD O q p ∧ dgB (O p) = true := by
      constructor
      · intro f; exact ⟨fun k h1 h2 => f k h1 (by omega), f p i1 (by omega)⟩
      · rintro ⟨f, g⟩ k h1 h2
        by_cases c : k = p
        · rw [c]; exact g
        · exact f k h1 (by omega)
    rw [gq_X9_readWordOrNumber_0, if_neg (nI_ge (show p < L by omega) (by omega)), inb_nI (show p < 940 by omega) (by omega), if_pos rfl, nI_clamp (by omega), o2]
    by_cases c1 : smB (O p) = true
    · obtain ⟨s1, s2, s3⟩ := sb_sm _ o1 c1
      have hge : 97 ≤ O p := by
        unfold smB at c1
        simp only [Bool.and_eq_true, decide_eq_true_eq] at c1
        exact c1.1
      rw [if_neg s1, if_neg s2, ew, if_pos (show alB O p = true by unfold alB; rw [c1]; rfl), nI_1, nI_1, s3]
      refine c_run h hL to n (p + 1) (a + 1) d nu _ (by omega) ⟨by omega, by omega, ?_, ?_, fun hd => ?_, fun ha => by omega⟩
      · rw [hS, i3]; simp [c1]
      · rw [hD]
        constructor
        · intro x; omega
        · rintro ⟨_, x⟩; exact (sm_dg c1 x).elim
      · rw [i5 hd, e0]
        show lN _ * 32 + Int32.toInt64 (nI (O p) - 97 + 1) = lN (n32 (O (q + (p - q)) :: wdK O q (p - q)))
        rw [e1, show (97 : Int32) = nI 97 from rfl, pz_s hge, nI_1, nI_l (by omega), show (32 : Int64) = lN 32 from rfl, lN_mul, lN_add, show O p - 97 + 1 = O p - 96 from by omega]
        rfl
    · have c1' : smB (O p) = false := by simpa using c1
      by_cases c2 : dgB (O p) = true
      · obtain ⟨s1, s2, s3, s4⟩ := sq_dg _ o1 c2
        have hge : 48 ≤ O p := by
          unfold dgB at c2
          simp only [Bool.and_eq_true, decide_eq_true_eq] at c2
          exact c2.1
        rw [if_pos s1, gq_X9_readWordOrNumber_2, if_neg s2, if_neg s3, ew, if_pos (show alB O p = true by unfold alB; rw [c2]; simp), nI_1, nI_1, s4]
        refine c_run h hL to n (p + 1) a (d + 1) _ na (by omega) ⟨by omega, by omega, ?_, ?_, fun hd => by omega, fun ha => ?_⟩
        · rw [hS]
          constructor
          · intro x; omega
          · rintro ⟨_, x⟩; exact (sm_dg x c2).elim
        · rw [hD, i4]; simp [c2]
        · rw [i6 ha, e0]
          show nI _ * 10 + (nI (O p) - 48) = nI (nuK O q (p - q) * 10 + (O (q + (p - q)) - 48))
          rw [e1, show (48 : Int32) = nI 48 from rfl, pz_s hge, show (10 : Int32) = nI 10 from rfl, pk_mul, nI_add]
      · have c2' : dgB (O p) = false := by simpa using c2
        obtain ⟨s1, s2⟩ := sb_no _ o1 c1' c2'
        have hg2 : gn_X9_readWordOrNumber_2 (nI L) by_ (nI a) (nI d) (sbT (O p)) nu na (nI p) to = gn_X9_readWordOrNumber_1 (nI L) by_ (nI a) (nI d) nu na (nI p) to := by
          rw [gq_X9_readWordOrNumber_2]
          rcases s2 with s2 | s2
          · rw [if_pos s2]
          · by_cases x : sbT (O p) < 48
            · rw [if_pos x]
            · rw [if_neg x, if_pos s2]
        rw [ew, if_neg (show ¬ alB O p = true by unfold alB; rw [c1', c2']; decide)]
        refine ⟨a, d, nu, na, ?_, i1, i2, i3, i4, i5, i6⟩
        rcases s1 with s1 | s1
        · rw [if_pos s1, hg2]
        · by_cases x : sbT (O p) < 97
          · rw [if_pos x, hg2]
          · rw [if_neg x, if_pos s1, hg2]
