/-! ===== pure rows: a TOWN as one function of field and place; what the class reckons of it ===== -/
/-- fields: 0 PERSONS, 1 DEALS, 2 law, 4 born, 5 dies, 6 limit, 7 told part (0, 1 borrows, 2 lends); of DEALS 8 lender, 9 borrower, 10 year, 11 its lender's gain, 12 its borrower's, 13 either -/
abbrev tT : Type := Nat → Nat → Nat
def twf (T : tT) : Prop := T 0 0 ≤ 10 ∧ T 1 0 ≤ 30 ∧ T 2 0 ≤ 60 ∧ (∀ p, p < T 0 0 → T 4 p ≤ 59 ∧ T 5 p ≤ 59 ∧ T 6 p ≤ 9 ∧ T 7 p ≤ 2) ∧ ∀ d, d < T 1 0 → T 8 d < T 0 0 ∧ T 9 d < T 0 0 ∧ T 8 d ≠ T 9 d ∧ T 10 d ≤ 59 ∧ T 11 d ≤ 99 ∧ T 12 d ≤ 99 ∧ T 13 d ≤ 1
theorem twf.p {T : tT} (hw : twf T) : T 0 0 ≤ 10 := hw.1
theorem twf.d {T : tT} (hw : twf T) : T 1 0 ≤ 30 := hw.2.1
theorem twf.n {T : tT} (hw : twf T) : T 2 0 ≤ 60 := hw.2.2.1
theorem twf.ps {T : tT} (hw : twf T) {p : Nat} (h : p < T 0 0) : T 4 p ≤ 59 ∧ T 5 p ≤ 59 ∧ T 6 p ≤ 9 ∧ T 7 p ≤ 2 := hw.2.2.2.1 p h
theorem twf.ds {T : tT} (hw : twf T) {d : Nat} (h : d < T 1 0) : T 8 d < T 0 0 ∧ T 9 d < T 0 0 ∧ T 8 d ≠ T 9 d ∧ T 10 d ≤ 59 ∧ T 11 d ≤ 99 ∧ T 12 d ≤ 99 ∧ T 13 d ≤ 1 := hw.2.2.2.2 d h
def isInT (T : tT) (d p : Nat) : Bool := T 8 d == p || T 9 d == p
def othT (T : tT) (d p : Nat) : Nat := if T 8 d = p then T 9 d else T 8 d
def shT (T : tT) (d p : Nat) : Nat := if T 8 d = p then T 11 d else if T 9 d = p then T 12 d else 0
def goT (T : tT) (P d : Nat) : Bool := (P.testBit (T 8 d) && !P.testBit (T 9 d)) || (P.testBit (T 9 d) && !P.testBit (T 8 d) && T 13 d == 1)
def ownT (T : tT) (p P : Nat) : Nat := sm (fun d => if goT T P d = true then shT T d p else 0) (T 1 0)
def moreT (T : tT) (P p : Nat) : Bool := decide (ownT T p P < ownT T p (P ^^^ 2 ^ p))
def restT (T : tT) (P : Nat) : Bool := (fo (moreT T P) (T 0 0)).isNone
theorem shT_le {T : tT} (hw : twf T) {d : Nat} (hd : d < T 1 0) (p : Nat) : shT T d p ≤ 99 := by
  have := hw.ds hd
  unfold shT
  split
  · omega
  · split <;> omega
theorem shT_out {T : tT} {d p : Nat} (h : isInT T d p = false) : shT T d p = 0 := by
  simp only [isInT, Bool.or_eq_false_iff, beq_eq_false_iff_ne, ne_eq] at h
  unfold shT
  rw [if_neg h.1, if_neg h.2]
theorem ownS_le {T : tT} (hw : twf T) (p P : Nat) (n : Nat) (hn : n ≤ T 1 0) : sm (fun d => if goT T P d = true then shT T d p else 0) n ≤ 99 * n := by
  apply sm_le
  intro k hk
  show (if goT T P k = true then shT T k p else 0) ≤ 99
  split
  · exact shT_le hw (by omega) p
  · omega
theorem ownT_le {T : tT} (hw : twf T) (p P : Nat) : ownT T p P ≤ 2970 := by
  have := ownS_le hw p P (T 1 0) (Nat.le_refl _)
  have := hw.d
  unfold ownT
  omega
theorem c_otherIn (T : tT) (hw : twf T) (b : Nat → Int32) (hb : ∀ d, d < T 1 0 → b d = nI (T 9 d)) (l : Nat → Int32) (hl : ∀ d, d < T 1 0 → l d = nI (T 8 d)) {d p : Nat} (hd : d < T 1 0) (hp : p < 2 ^ 31) : dn_X10_otherIn b l (nI d) (nI p) = some (nI (othT T d p)) := by
  have h1 := hw.d
  have h2 := hw.p
  have h3 := hw.ds hd
  unfold dn_X10_otherIn othT
  simp (disch := omega) only [nI_clamp, inb_nI, pz_e0, pz_e1, pz_e2, pz_le0, pz_lt0, pz_le, pz_lt, pz_eq, pz_m1, pz_s1, nI_1, pz_bit, pz_1shl, if_true, if_false, Option.bind_some, pz_c0, Bool.false_eq_true, eq_self, hb, hl]
  split <;> rfl
theorem c_isIn (T : tT) (hw : twf T) (b : Nat → Int32) (hb : ∀ d, d < T 1 0 → b d = nI (T 9 d)) (l : Nat → Int32) (hl : ∀ d, d < T 1 0 → l d = nI (T 8 d)) {d p : Nat} (hd : d < T 1 0) (hp : p < 2 ^ 31) : dn_X10_isIn b l (nI d) (nI p) = some (isInT T d p) := by
  have h1 := hw.d
  have h2 := hw.p
  have h3 := hw.ds hd
  unfold dn_X10_isIn isInT
  simp (disch := omega) only [nI_clamp, inb_nI, pz_e0, pz_e1, pz_e2, pz_le0, pz_lt0, pz_le, pz_lt, pz_eq, pz_m1, pz_s1, nI_1, pz_bit, pz_1shl, if_true, if_false, Option.bind_some, pz_c0, Bool.false_eq_true, eq_self, hb, hl]
  by_cases c1 : T 8 d = p <;> by_cases c2 : T 9 d = p <;> simp [c1, c2]
theorem c_shareOf (T : tT) (hw : twf T) (b : Nat → Int32) (hb : ∀ d, d < T 1 0 → b d = nI (T 9 d)) (h : Nat → Int32) (hh : ∀ d, d < T 1 0 → h d = nI (T 12 d)) (l : Nat → Int32) (hl : ∀ d, d < T 1 0 → l d = nI (T 8 d)) (g : Nat → Int32) (hg : ∀ d, d < T 1 0 → g d = nI (T 11 d)) {d p : Nat} (hd : d < T 1 0) (hp : p < 2 ^ 31) : dn_X10_shareOf b h l g (nI d) (nI p) = some (nI (shT T d p)) := by
  have h1 := hw.d
  have h2 := hw.p
  have h3 := hw.ds hd
  unfold dn_X10_shareOf shT
  simp (disch := omega) only [nI_clamp, inb_nI, pz_e0, pz_e1, pz_e2, pz_le0, pz_lt0, pz_le, pz_lt, pz_eq, pz_m1, pz_s1, nI_1, pz_bit, pz_1shl, if_true, if_false, Option.bind_some, pz_c0, Bool.false_eq_true, eq_self, hb, hl, hg, hh]
  by_cases c1 : T 8 d = p <;> by_cases c2 : T 9 d = p <;> simp [c1, c2, pz_0]
theorem c_goesBy (T : tT) (hw : twf T) (b : Nat → Int32) (hb : ∀ d, d < T 1 0 → b d = nI (T 9 d)) (e : Nat → Int32) (he : ∀ d, d < T 1 0 → e d = nI (T 13 d)) (l : Nat → Int32) (hl : ∀ d, d < T 1 0 → l d = nI (T 8 d)) {d P : Nat} (hd : d < T 1 0) (hP : P < 2 ^ 31) : dn_X10_goesBy b e l (nI d) (nI P) = some (goT T P d) := by
  have h1 := hw.d
  have h2 := hw.p
  have h3 := hw.ds hd
  unfold dn_X10_goesBy goT
  simp (disch := omega) only [nI_clamp, inb_nI, pz_e0, pz_e1, pz_e2, pz_le0, pz_lt0, pz_le, pz_lt, pz_eq, pz_m1, pz_s1, nI_1, pz_bit, pz_1shl, if_true, if_false, Option.bind_some, pz_c0, Bool.false_eq_true, eq_self, hb, hl, he, pz_bb, pz_b1]
  by_cases c3 : T 13 d = 1 <;> cases c1 : P.testBit (T 8 d) <;> cases c2 : P.testBit (T 9 d) <;> simp [c3]
theorem c_bothShares (T : tT) (hw : twf T) (h : Nat → Int32) (hh : ∀ d, d < T 1 0 → h d = nI (T 12 d)) (g : Nat → Int32) (hg : ∀ d, d < T 1 0 → g d = nI (T 11 d)) {d : Nat} (hd : d < T 1 0) : dn_X10_bothShares h g (nI d) = some (nI (T 11 d + T 12 d)) := by
  have h1 := hw.d
  unfold dn_X10_bothShares
  simp (disch := omega) only [nI_clamp, inb_nI, pz_e0, pz_e1, pz_e2, pz_le0, pz_lt0, pz_le, pz_lt, pz_eq, pz_m1, pz_s1, nI_1, pz_bit, pz_1shl, if_true, if_false, Option.bind_some, pz_c0, Bool.false_eq_true, eq_self, hg, hh, nI_add]
theorem c_ownOf (T : tT) (hw : twf T) (b : Nat → Int32) (hb : ∀ d, d < T 1 0 → b d = nI (T 9 d)) (h : Nat → Int32) (hh : ∀ d, d < T 1 0 → h d = nI (T 12 d)) (e : Nat → Int32) (he : ∀ d, d < T 1 0 → e d = nI (T 13 d)) (l : Nat → Int32) (hl : ∀ d, d < T 1 0 → l d = nI (T 8 d)) (g : Nat → Int32) (hg : ∀ d, d < T 1 0 → g d = nI (T 11 d)) {p P : Nat} (hp : p < 2 ^ 31) (hP : P < 2 ^ 31) : dn_X10_ownOf (nI (T 1 0)) b h e l g (nI p) (nI P) = some (nI (ownT T p P)) := by
  have h1 := hw.d
  have key := pz_fun (fun k (a : Nat) => gn_X10_ownOf_0 (nI (T 1 0)) b h e l g (nI p) (nI P) (nI a) (nI k)) (sm (fun d => if goT T P d = true then shT T d p else 0)) (T 1 0) (by
    intro k hk
    show gn_X10_ownOf_0 _ _ _ _ _ _ _ _ _ _ = gn_X10_ownOf_0 _ _ _ _ _ _ _ _ _ _
    rw [gq_X10_ownOf_0]
    have h5 := ownS_le hw p P k (by omega)
    rw [c_isIn T hw b hb l hl hk hp, c_goesBy T hw b hb e he l hl hk hP, c_shareOf T hw b hb h hh l hl g hg hk hp]
    simp (disch := omega) only [nI_clamp, inb_nI, pz_e0, pz_e1, pz_e2, pz_le0, pz_lt0, pz_le, pz_lt, pz_eq, pz_m1, pz_s1, nI_1, pz_bit, pz_1shl, if_true, if_false, Option.bind_some, pz_c0, Bool.false_eq_true, eq_self, Option.bind_some, if_neg (Nat.not_le_of_lt hk)]
    cases c1 : isInT T k p with
    | false =>
      simp only [Bool.false_eq_true, if_false]
      rw [sm_s, shT_out c1]
      simp
    | true =>
      cases c2 : goT T P k with
      | false => simp [sm_s, c2]
      | true => simp [sm_s, c2, nI_add]) (T 1 0) (Nat.le_refl _)
  show gn_X10_ownOf_0 _ _ _ _ _ _ _ _ _ _ = _
  have key' : gn_X10_ownOf_0 (nI (T 1 0)) b h e l g (nI p) (nI P) 0 0 = gn_X10_ownOf_0 (nI (T 1 0)) b h e l g (nI p) (nI P) (nI (ownT T p P)) (nI (T 1 0)) := key
  rw [key', gq_X10_ownOf_0, if_pos (nI_le (Nat.le_refl _) (by omega))]
theorem pz_xorb {P p : Nat} (hP : P < 2 ^ 10) (hp : p < 10) : P ^^^ 2 ^ p < 2 ^ 10 := Nat.xor_lt_two_pow hP (pz_p2 hp)
theorem c_hasMore (T : tT) (hw : twf T) (b : Nat → Int32) (hb : ∀ d, d < T 1 0 → b d = nI (T 9 d)) (h : Nat → Int32) (hh : ∀ d, d < T 1 0 → h d = nI (T 12 d)) (e : Nat → Int32) (he : ∀ d, d < T 1 0 → e d = nI (T 13 d)) (l : Nat → Int32) (hl : ∀ d, d < T 1 0 → l d = nI (T 8 d)) (g : Nat → Int32) (hg : ∀ d, d < T 1 0 → g d = nI (T 11 d)) {p P : Nat} (hp : p < 10) (hP : P < 2 ^ 10) : dn_X10_hasMoreByChange (nI (T 1 0)) b h e l g (nI p) (nI P) = some (moreT T P p) := by
  have h1 := ownT_le hw p P
  have h2 := ownT_le hw p (P ^^^ 2 ^ p)
  have h3 := pz_xorb hP hp
  unfold dn_X10_hasMoreByChange moreT
  rw [pz_1shl (by omega), pz_xor, c_ownOf T hw b hb h hh e he l hl g hg (by omega) (by omega), c_ownOf T hw b hb h hh e he l hl g hg (by omega) (by omega)]
  simp (disch := omega) only [nI_clamp, inb_nI, pz_e0, pz_e1, pz_e2, pz_le0, pz_lt0, pz_le, pz_lt, pz_eq, pz_m1, pz_s1, nI_1, pz_bit, pz_1shl, if_true, if_false, Option.bind_some, pz_c0, Bool.false_eq_true, eq_self]
  by_cases c : ownT T p P < ownT T p (P ^^^ 2 ^ p)
  · rw [if_neg (by omega)]; simp [c]
  · rw [if_pos (by omega)]; simp [c]
theorem c_isAtRest (T : tT) (hw : twf T) (b : Nat → Int32) (hb : ∀ d, d < T 1 0 → b d = nI (T 9 d)) (h : Nat → Int32) (hh : ∀ d, d < T 1 0 → h d = nI (T 12 d)) (e : Nat → Int32) (he : ∀ d, d < T 1 0 → e d = nI (T 13 d)) (l : Nat → Int32) (hl : ∀ d, d < T 1 0 → l d = nI (T 8 d)) (g : Nat → Int32) (hg : ∀ d, d < T 1 0 → g d = nI (T 11 d)) {P : Nat} (hP : P < 2 ^ 10) : dn_X10_isAtRest (nI (T 0 0)) (nI (T 1 0)) b h e l g (nI P) = some (restT T P) := by
  have h1 := hw.p
  unfold dn_X10_isAtRest restT
  rw [show (0 : Int32) = nI 0 from rfl, pz_find (fun k => gn_X10_isAtRest_0 (nI (T 0 0)) (nI (T 1 0)) b h e l g (nI P) (nI k)) (moreT T P) (fun _ => false) true (T 0 0)]
  · cases fo (moreT T P) (T 0 0) <;> rfl
  · intro k hk c
    show gn_X10_isAtRest_0 _ _ _ _ _ _ _ _ _ = _
    rw [gq_X10_isAtRest_0, if_neg (nI_ge hk (by omega)), c_hasMore T hw b hb h hh e he l hl g hg (by omega) hP, c]
    rfl
  · intro k hk c
    show gn_X10_isAtRest_0 _ _ _ _ _ _ _ _ _ = gn_X10_isAtRest_0 _ _ _ _ _ _ _ _ _
    rw [gq_X10_isAtRest_0, if_neg (nI_ge hk (by omega)), c_hasMore T hw b hb h hh e he l hl g hg (by omega) hP, c, ← nI_1]
    rfl
  · show gn_X10_isAtRest_0 _ _ _ _ _ _ _ _ _ = _
    rw [gq_X10_isAtRest_0, if_pos (nI_le (Nat.le_refl _) (by omega))]
theorem c_hasPerson_t {n j : Nat} (hn : n < 2 ^ 31) (h : j < n) : dn_X10_hasPerson (nI n) (nI j) = some true := by
  unfold dn_X10_hasPerson
  rw [if_neg (nI_pos (by omega)), if_neg (nI_ge h hn)]
theorem c_hasPerson_f {n : Nat} {p : Int32} (h : p < 0 ∨ nI n ≤ p) : dn_X10_hasPerson (nI n) p = some false := by
  unfold dn_X10_hasPerson
  by_cases c : p < 0
  · rw [if_pos c]
  · rw [if_neg c, if_pos (h.resolve_left c)]
theorem c_hasDeal_t {n j : Nat} (hn : n < 2 ^ 31) (h : j < n) : dn_X10_hasDeal (nI n) (nI j) = some true := by
  unfold dn_X10_hasDeal
  rw [if_neg (nI_pos (by omega)), if_neg (nI_ge h hn)]
theorem c_hasDeal_f {n : Nat} {p : Int32} (h : p < 0 ∨ nI n ≤ p) : dn_X10_hasDeal (nI n) p = some false := by
  unfold dn_X10_hasDeal
  by_cases c : p < 0
  · rw [if_pos c]
  · rw [if_neg c, if_pos (h.resolve_left c)]
theorem c_partsCount {n : Nat} (hn : n < 31) : dn_X10_partsCount (nI n) = some (nI (2 ^ n)) := by
  unfold dn_X10_partsCount
  rw [pz_1shl (by omega)]
theorem pz_10 {n : Nat} (h : n ≤ 10) : 2 ^ n ≤ 1024 := pz_p2l (b := 10) h
theorem c_hasParts_t {n j : Nat} (hn : n ≤ 10) (h : j < 2 ^ n) : dn_X10_hasParts (nI n) (nI j) = some true := by
  have := pz_10 hn
  unfold dn_X10_hasParts
  rw [if_neg (nI_pos (by omega)), c_partsCount (by omega), Option.bind_some, if_neg (nI_ge h (by omega))]
theorem c_hasParts_f {n : Nat} (hn : n ≤ 10) {p : Int32} (h : p < 0 ∨ nI (2 ^ n) ≤ p) : dn_X10_hasParts (nI n) p = some false := by
  unfold dn_X10_hasParts
  by_cases c : p < 0
  · rw [if_pos c]
  · rw [if_neg c, c_partsCount (by omega), Option.bind_some, if_pos (h.resolve_left c)]
