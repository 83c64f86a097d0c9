/-! ===== pure rows: the same of the model's row s ===== -/
def mT (T : tT) (s : Nat → Int32) : Prop := s 0 = nI (T 0 0) ∧ s 1 = nI (T 1 0) ∧ s 2 = nI (T 2 0) ∧ (∀ p, p < T 0 0 → s (4 + p) = nI (T 4 p) ∧ s (14 + p) = nI (T 5 p) ∧ s (24 + p) = nI (T 6 p) ∧ s (34 + p) = nI (T 7 p)) ∧ ∀ d, d < T 1 0 → s (44 + 6 * d) = nI (T 8 d) ∧ s (44 + 6 * d + 1) = nI (T 9 d) ∧ s (44 + 6 * d + 2) = nI (T 10 d) ∧ s (44 + 6 * d + 3) = nI (T 11 d) ∧ s (44 + 6 * d + 4) = nI (T 12 d) ∧ s (44 + 6 * d + 5) = nI (T 13 d)
theorem mT.ds {T : tT} {s : Nat → Int32} (hs : mT T s) {d : Nat} (h : d < T 1 0) : s (44 + 6 * d) = nI (T 8 d) ∧ s (44 + 6 * d + 1) = nI (T 9 d) ∧ s (44 + 6 * d + 2) = nI (T 10 d) ∧ s (44 + 6 * d + 3) = nI (T 11 d) ∧ s (44 + 6 * d + 4) = nI (T 12 d) ∧ s (44 + 6 * d + 5) = nI (T 13 d) := hs.2.2.2.2 d h
theorem mT.ps {T : tT} {s : Nat → Int32} (hs : mT T s) {p : Nat} (h : p < T 0 0) : s (4 + p) = nI (T 4 p) ∧ s (14 + p) = nI (T 5 p) ∧ s (24 + p) = nI (T 6 p) ∧ s (34 + p) = nI (T 7 p) := hs.2.2.2.1 p h
/-- s beyond the TOWN does not count -/
theorem mT.same {T : tT} (hw : twf T) {s s' : Nat → Int32} (hs : mT T s) (h : ∀ k, k < 224 → k ≠ 3 → s' k = s k) : mT T s' := by
  have h1 := hw.d
  have h2 := hw.p
  refine ⟨by rw [h _ (by omega) (by omega)]; exact hs.1, by rw [h _ (by omega) (by omega)]; exact hs.2.1, by rw [h _ (by omega) (by omega)]; exact hs.2.2.1, fun p hp => ?_, fun d hd => ?_⟩
  · have h3 := hs.ps hp
    rw [h _ (by omega) (by omega), h _ (by omega) (by omega), h _ (by omega) (by omega), h _ (by omega) (by omega)]
    exact h3
  · have h3 := hs.ds hd
    rw [h _ (by omega) (by omega), h _ (by omega) (by omega), h _ (by omega) (by omega), h _ (by omega) (by omega), h _ (by omega) (by omega), h _ (by omega) (by omega)]
    exact h3
theorem m_ofx (s : Nat → Int32) {d j : Nat} (hd : d < 30) (hj : j < 6) : dn_X12_of s (nI d) (nI j) = some (s (44 + 6 * d + j)) := by
  unfold dn_X12_of
  rw [show (44 : Int32) = nI 44 from rfl, show (6 : Int32) = nI 6 from rfl, pk_mul, nI_add, nI_add, inb_nI (by omega) (by omega), nI_clamp (by omega)]
  rfl
theorem m_of0 (T : tT) (hw : twf T) (s : Nat → Int32) (hs : mT T s) {d : Nat} (hd : d < T 1 0) : dn_X12_of s (nI d) 0 = some (nI (T 8 d)) := by
  have h1 := hw.d
  rw [show (0 : Int32) = nI 0 from rfl, m_ofx s (by omega) (by omega), Nat.add_zero, (hs.ds hd).1]
theorem m_of1 (T : tT) (hw : twf T) (s : Nat → Int32) (hs : mT T s) {d : Nat} (hd : d < T 1 0) : dn_X12_of s (nI d) 1 = some (nI (T 9 d)) := by
  have h1 := hw.d
  rw [show (1 : Int32) = nI 1 from rfl, m_ofx s (by omega) (by omega), (hs.ds hd).2.1]
theorem m_of2 (T : tT) (hw : twf T) (s : Nat → Int32) (hs : mT T s) {d : Nat} (hd : d < T 1 0) : dn_X12_of s (nI d) 2 = some (nI (T 10 d)) := by
  have h1 := hw.d
  rw [show (2 : Int32) = nI 2 from rfl, m_ofx s (by omega) (by omega), (hs.ds hd).2.2.1]
theorem m_of3 (T : tT) (hw : twf T) (s : Nat → Int32) (hs : mT T s) {d : Nat} (hd : d < T 1 0) : dn_X12_of s (nI d) 3 = some (nI (T 11 d)) := by
  have h1 := hw.d
  rw [show (3 : Int32) = nI 3 from rfl, m_ofx s (by omega) (by omega), (hs.ds hd).2.2.2.1]
theorem m_of4 (T : tT) (hw : twf T) (s : Nat → Int32) (hs : mT T s) {d : Nat} (hd : d < T 1 0) : dn_X12_of s (nI d) 4 = some (nI (T 12 d)) := by
  have h1 := hw.d
  rw [show (4 : Int32) = nI 4 from rfl, m_ofx s (by omega) (by omega), (hs.ds hd).2.2.2.2.1]
theorem m_of5 (T : tT) (hw : twf T) (s : Nat → Int32) (hs : mT T s) {d : Nat} (hd : d < T 1 0) : dn_X12_of s (nI d) 5 = some (nI (T 13 d)) := by
  have h1 := hw.d
  rw [show (5 : Int32) = nI 5 from rfl, m_ofx s (by omega) (by omega), (hs.ds hd).2.2.2.2.2]
theorem m_has {P p : Nat} (hP : P < 2 ^ 31) (hp : p < 32) : dn_X12_has (nI P) (nI p) = some (P.testBit p) := by
  unfold dn_X12_has
  rw [pz_bit hP hp]
  cases P.testBit p <;> rfl
theorem m_isIn_t {n j : Nat} (hn : n < 2 ^ 30) (h : j < n) : dn_X12_isIn (nI j) 0 (nI n - 1) = some true := by
  unfold dn_X12_isIn
  rw [pz_s1 (by omega), if_neg (nI_pos (by omega)), if_neg (nI_nlt (by omega) (by omega))]
theorem m_isIn_f {n : Nat} (hn : n < 2 ^ 30) {p : Int32} (h : p < 0 ∨ nI n ≤ p) : dn_X12_isIn p 0 (nI n - 1) = some false := by
  unfold dn_X12_isIn
  by_cases c : p < 0
  · rw [if_pos c]
  · rw [if_neg c, if_pos]
    have h2 := h.resolve_left c
    rw [Int32.lt_iff_toInt_lt, show (1 : Int32) = nI 1 from rfl, pk_sub_toInt hn (by omega)]
    rw [Int32.le_iff_toInt_le, nI_toInt (by omega)] at h2
    omega
theorem m_isInc_t {a c j : Nat} (hc : c < 2 ^ 31) (h1 : a ≤ j) (h2 : j ≤ c) : dn_X12_isIn (nI j) (nI a) (nI c) = some true := by
  unfold dn_X12_isIn
  rw [if_neg (nI_nlt h1 (by omega)), if_neg (nI_nlt h2 hc)]
theorem m_isInc_f {a c j : Nat} (ha : a < 2 ^ 31) (hc : c < 2 ^ 31) (hj : j < 2 ^ 31) (h : j < a ∨ c < j) : dn_X12_isIn (nI j) (nI a) (nI c) = some false := by
  unfold dn_X12_isIn
  by_cases c1 : j < a
  · rw [if_pos (nI_lt c1 ha)]
  · rw [if_neg (nI_nlt (by omega) hj), if_pos (nI_lt (by omega) hj)]
theorem m_isPerson_t (T : tT) (hw : twf T) (s : Nat → Int32) (hs : mT T s) {p : Nat} (h : p < T 0 0) : dn_X12_isPerson s (nI p) = some true := by
  have := hw.p
  unfold dn_X12_isPerson
  rw [pz_c0, hs.1, m_isIn_t (by omega) h]; rfl
theorem m_isPerson_f (T : tT) (hw : twf T) (s : Nat → Int32) (hs : mT T s) {p : Int32} (h : p < 0 ∨ nI (T 0 0) ≤ p) : dn_X12_isPerson s p = some false := by
  have := hw.p
  unfold dn_X12_isPerson
  rw [pz_c0, hs.1, m_isIn_f (by omega) h]; rfl
theorem m_isDeal_t (T : tT) (hw : twf T) (s : Nat → Int32) (hs : mT T s) {d : Nat} (h : d < T 1 0) : dn_X12_isDeal s (nI d) = some true := by
  have := hw.d
  unfold dn_X12_isDeal
  rw [show (1 : Int32).toNatClampNeg = 1 from rfl, hs.2.1, m_isIn_t (by omega) h]; rfl
theorem m_isDeal_f (T : tT) (hw : twf T) (s : Nat → Int32) (hs : mT T s) {d : Int32} (h : d < 0 ∨ nI (T 1 0) ≤ d) : dn_X12_isDeal s d = some false := by
  have := hw.d
  unfold dn_X12_isDeal
  rw [show (1 : Int32).toNatClampNeg = 1 from rfl, hs.2.1, m_isIn_f (by omega) h]; rfl
theorem m_pc (T : tT) (hw : twf T) (s : Nat → Int32) (hs : mT T s) : (1 : Int32) <<< ((s (0 : Int32).toNatClampNeg) &&& 31) = nI (2 ^ T 0 0) := by
  have := hw.p
  rw [pz_c0, hs.1, pz_1shl (by omega)]
theorem m_isParts_t (T : tT) (hw : twf T) (s : Nat → Int32) (hs : mT T s) {P : Nat} (h : P < 2 ^ T 0 0) : dn_X12_isParts s (nI P) = some true := by
  have := pz_10 hw.p
  unfold dn_X12_isParts
  rw [m_pc T hw s hs, m_isIn_t (by omega) h]; rfl
theorem m_isParts_f (T : tT) (hw : twf T) (s : Nat → Int32) (hs : mT T s) {P : Int32} (h : P < 0 ∨ nI (2 ^ T 0 0) ≤ P) : dn_X12_isParts s P = some false := by
  have := pz_10 hw.p
  unfold dn_X12_isParts
  rw [m_pc T hw s hs, m_isIn_f (by omega) h]; rfl
theorem m_lender0 (T : tT) (hw : twf T) (s : Nat → Int32) (hs : mT T s) {d : Nat} (hd : d < T 1 0) : dn_X12_lender s (nI d) 0 = some (nI (T 8 d)) := by
  unfold dn_X12_lender; rw [m_of0 T hw s hs hd]; rfl
theorem m_lender1 (T : tT) (hw : twf T) (s : Nat → Int32) (hs : mT T s) {d : Nat} (hd : d < T 1 0) : dn_X12_lender s (nI d) 1 = some (nI (T 9 d)) := by
  unfold dn_X12_lender; rw [m_of1 T hw s hs hd]; rfl
theorem m_borrower0 (T : tT) (hw : twf T) (s : Nat → Int32) (hs : mT T s) {d : Nat} (hd : d < T 1 0) : dn_X12_borrower s (nI d) 0 = some (nI (T 9 d)) := by
  unfold dn_X12_borrower; rw [show (1 : Int32) - 0 = 1 from rfl, m_of1 T hw s hs hd]; rfl
theorem m_borrower1 (T : tT) (hw : twf T) (s : Nat → Int32) (hs : mT T s) {d : Nat} (hd : d < T 1 0) : dn_X12_borrower s (nI d) 1 = some (nI (T 8 d)) := by
  unfold dn_X12_borrower; rw [show (1 : Int32) - 1 = 0 from rfl, m_of0 T hw s hs hd]; rfl
/-- 1 as told, 2 turned, 0 not -/
def gaT (T : tT) (P d : Nat) : Nat := if P.testBit (T 8 d) = true ∧ P.testBit (T 9 d) = false then 1 else if P.testBit (T 9 d) = true ∧ P.testBit (T 8 d) = false ∧ T 13 d = 1 then 2 else 0
theorem gaT_go (T : tT) (P d : Nat) : goT T P d = decide (0 < gaT T P d) := by
  unfold goT gaT
  by_cases c3 : T 13 d = 1 <;> cases c1 : P.testBit (T 8 d) <;> cases c2 : P.testBit (T 9 d) <;> simp [c3]
theorem gaT_le (T : tT) (P d : Nat) : gaT T P d ≤ 2 := by
  unfold gaT
  split
  · omega
  · split <;> omega
theorem m_goesAs (T : tT) (hw : twf T) (s : Nat → Int32) (hs : mT T s) {d P : Nat} (hd : d < T 1 0) (hP : P < 2 ^ 31) : dn_X12_goesAs s (nI d) (nI P) = some (nI (gaT T P d)) := by
  have h1 := hw.d
  have h2 := hw.p
  have h3 := hw.ds hd
  unfold dn_X12_goesAs gaT
  have e1 := m_has (P := P) (p := T 8 d) hP (by omega)
  have e2 := m_has (P := P) (p := T 9 d) hP (by omega)
  simp only [m_of0 T hw s hs hd, m_of1 T hw s hs hd, Option.bind_some, e1, e2]
  simp only [gq_X12_goesAs_0, m_of5 T hw s hs hd, Option.bind_some, pz_b0]
  simp (disch := omega) only [nI_clamp, inb_nI, pz_e0, pz_e1, pz_e2, pz_le0, pz_lt0, pz_le, pz_lt, pz_eq, pz_m1, pz_s1, nI_1, pz_bit, pz_1shl, if_true, if_false, Option.bind_some, pz_c0, Bool.false_eq_true, eq_self]
  by_cases c3 : T 13 d = 1 <;> cases c1 : P.testBit (T 8 d) <;> cases c2 : P.testBit (T 9 d) <;> simp [c3] <;> rfl
theorem m_gainOf (T : tT) (hw : twf T) (s : Nat → Int32) (hs : mT T s) {d p : Nat} (hd : d < T 1 0) (hp : p < 2 ^ 31) : dn_X12_gainOf s (nI d) (nI p) = some (nI (shT T d p)) := by
  have h1 := hw.d
  have h2 := hw.p
  have h3 := hw.ds hd
  unfold dn_X12_gainOf shT
  rw [m_of0 T hw s hs hd, m_of1 T hw s hs hd, m_of3 T hw s hs hd, m_of4 T hw s hs hd]
  simp (disch := omega) only [nI_clamp, inb_nI, pz_e0, pz_e1, pz_e2, pz_le0, pz_lt0, pz_le, pz_lt, pz_eq, pz_m1, pz_s1, nI_1, pz_bit, pz_1shl, if_true, if_false, Option.bind_some, pz_c0, Bool.false_eq_true, eq_self]
  by_cases c1 : T 8 d = p <;> by_cases c2 : T 9 d = p <;> simp [c1, c2, pz_0]
theorem m_ownOf (T : tT) (hw : twf T) (s : Nat → Int32) (hs : mT T s) {p P : Nat} (hp : p < 2 ^ 31) (hP : P < 2 ^ 31) : dn_X12_ownOf s (nI p) (nI P) = some (nI (ownT T p P)) := by
  have h1 := hw.d
  have key := pz_fun (fun k (a : Nat) => gn_X12_ownOf_0 s (nI p) (nI P) (nI a) (nI k)) (sm (fun d => if goT T P d = true then shT T d p else 0)) (T 1 0) (by
    intro k hk
    show gn_X12_ownOf_0 _ _ _ _ _ = gn_X12_ownOf_0 _ _ _ _ _
    rw [gq_X12_ownOf_0, show (1 : Int32).toNatClampNeg = 1 from rfl, hs.2.1, if_neg (nI_ge hk (by omega)), m_goesAs T hw s hs hk hP, m_gainOf T hw s hs hk hp, Option.bind_some, Option.bind_some]
    have h4 := gaT_le T P k
    simp (disch := omega) only [nI_clamp, inb_nI, pz_e0, pz_e1, pz_e2, pz_le0, pz_lt0, pz_le, pz_lt, pz_eq, pz_m1, pz_s1, nI_1, pz_bit, pz_1shl, if_true, if_false, Option.bind_some, pz_c0, Bool.false_eq_true, eq_self]
    rw [sm_s]
    show (if gaT T P k = 0 then _ else _) = gn_X12_ownOf_0 _ _ _ (nI (sm _ k + (if goT T P k = true then shT T k p else 0))) _
    rw [gaT_go]
    by_cases c : gaT T P k = 0
    · rw [if_pos c, c]; simp [pz_a0]
    · rw [if_neg c, if_pos (by simp; omega), nI_add]) (T 1 0) (Nat.le_refl _)
  show gn_X12_ownOf_0 _ _ _ _ _ = _
  have key' : gn_X12_ownOf_0 s (nI p) (nI P) 0 0 = gn_X12_ownOf_0 s (nI p) (nI P) (nI (ownT T p P)) (nI (T 1 0)) := key
  rw [key', gq_X12_ownOf_0, show (1 : Int32).toNatClampNeg = 1 from rfl, hs.2.1, if_pos (nI_le (Nat.le_refl _) (by omega))]
theorem m_isRest (T : tT) (hw : twf T) (s : Nat → Int32) (hs : mT T s) {P : Nat} (hP : P < 2 ^ 10) : dn_X12_isRest s (nI P) = some (restT T P) := by
  have h1 := hw.p
  have hr : ∀ k, k < T 0 0 → gn_X12_isRest_0 s (nI P) (nI k) = if moreT T P k = true then some false else gn_X12_isRest_0 s (nI P) (nI (k + 1)) := by
    intro k hk
    have h4 := ownT_le hw k P
    have h5 := ownT_le hw k (P ^^^ 2 ^ k)
    have h6 := pz_xorb hP (p := k) (by omega)
    rw [gq_X12_isRest_0, pz_c0, hs.1, if_neg (nI_ge hk (by omega)), pz_1shl (by omega), pz_xor, m_ownOf T hw s hs (by omega) (by omega), m_ownOf T hw s hs (by omega) (by omega)]
    simp (disch := omega) only [nI_clamp, inb_nI, pz_e0, pz_e1, pz_e2, pz_le0, pz_lt0, pz_le, pz_lt, pz_eq, pz_m1, pz_s1, nI_1, pz_bit, pz_1shl, if_true, if_false, Option.bind_some, pz_c0, Bool.false_eq_true, eq_self]
    unfold moreT
    by_cases c : ownT T k P < ownT T k (P ^^^ 2 ^ k)
    · rw [if_neg (by omega)]; simp [c]
    · rw [if_pos (by omega)]; simp [c]
  unfold dn_X12_isRest restT
  rw [show (0 : Int32) = nI 0 from rfl, pz_find (fun k => gn_X12_isRest_0 s (nI P) (nI k)) (moreT T P) (fun _ => false) true (T 0 0)]
  · cases fo (moreT T P) (T 0 0) <;> rfl
  · intro k hk c
    show gn_X12_isRest_0 _ _ _ = _
    rw [hr k hk, if_pos c]
  · intro k hk c
    show gn_X12_isRest_0 _ _ _ = gn_X12_isRest_0 _ _ _
    rw [hr k hk, c]; rfl
  · show gn_X12_isRest_0 _ _ _ = _
    rw [gq_X12_isRest_0, pz_c0, hs.1, if_pos (nI_le (Nat.le_refl _) (by omega))]
