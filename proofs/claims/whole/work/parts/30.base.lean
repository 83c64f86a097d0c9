/-! ===== pure rows: the base ===== -/
theorem pz_sm : ∀ a, a < 32 → ((nI a &&& 31).toBitVec.smod 32).toNat = a := by decide +kernel
theorem pz_shr {n a : Nat} (hn : n < 2 ^ 31) (ha : a < 32) : nI n >>> (nI a &&& 31) = nI (n / 2 ^ a) := pk_shrN hn _ a (pz_sm a ha)
theorem pz_shl {n a : Nat} (ha : a < 32) (h : n * 2 ^ a < 2 ^ 32) : nI n <<< (nI a &&& 31) = nI (n * 2 ^ a) := pk_shlN _ a (pz_sm a ha) h
theorem pz_p2 {a b : Nat} (h : a < b) : 2 ^ a < 2 ^ b := Nat.pow_lt_pow_right (by decide) h
theorem pz_p2l {a b : Nat} (h : a ≤ b) : 2 ^ a ≤ 2 ^ b := Nat.pow_le_pow_right (by decide) h
theorem pz_1shl {a : Nat} (ha : a < 32) : (1 : Int32) <<< (nI a &&& 31) = nI (2 ^ a) := by
  have := pz_shl (n := 1) ha (by rw [Nat.one_mul]; exact pz_p2 ha)
  rw [Nat.one_mul] at this
  exact this
theorem pz_bit {n a : Nat} (hn : n < 2 ^ 31) (ha : a < 32) : (nI n >>> (nI a &&& 31)) &&& 1 = b2i (n.testBit a) := by
  have h2 : n / 2 ^ a ≤ n := Nat.div_le_self _ _
  rw [pz_shr hn ha, pk_andN (by omega) 1 (by decide), Nat.testBit_eq_decide_div_mod_eq]
  rcases Nat.mod_two_eq_zero_or_one (n / 2 ^ a) with h | h
  · rw [show (2 : Nat) ^ 1 = 2 from rfl, h]; rfl
  · rw [show (2 : Nat) ^ 1 = 2 from rfl, h]; rfl
theorem pz_b1 (b : Bool) : (b2i b = 1) = (b = true) := by cases b <;> simp [b2i]
theorem pz_b1n (b : Bool) : (b2i b = nI 1) = (b = true) := pz_b1 b
theorem pz_b0n (b : Bool) : (b2i b = nI 0) = (b = false) := by cases b <;> simp [b2i] <;> decide
theorem pz_b0 (b : Bool) : (b2i b = 0) = (b = false) := by cases b <;> simp [b2i]
theorem pz_bb (a b : Bool) : (b2i a = b2i b) = (a = b) := by cases a <;> cases b <;> simp [b2i]
theorem pz_or (a b : Nat) : nI a ||| nI b = nI (a ||| b) := by
  apply Int32.toBitVec_inj.mp
  rw [Int32.toBitVec_or]
  apply BitVec.eq_of_toNat_eq
  rw [BitVec.toNat_or]
  show (BitVec.ofNat 32 a).toNat ||| (BitVec.ofNat 32 b).toNat = (BitVec.ofNat 32 (a ||| b)).toNat
  rw [BitVec.toNat_ofNat, BitVec.toNat_ofNat, BitVec.toNat_ofNat, Nat.or_mod_two_pow]
theorem pz_and (a b : Nat) : nI a &&& nI b = nI (a &&& b) := by
  apply Int32.toBitVec_inj.mp
  rw [Int32.toBitVec_and]
  apply BitVec.eq_of_toNat_eq
  rw [BitVec.toNat_and]
  show (BitVec.ofNat 32 a).toNat &&& (BitVec.ofNat 32 b).toNat = (BitVec.ofNat 32 (a &&& b)).toNat
  rw [BitVec.toNat_ofNat, BitVec.toNat_ofNat, BitVec.toNat_ofNat, Nat.and_mod_two_pow]
theorem pz_xor (a b : Nat) : nI a ^^^ nI b = nI (a ^^^ b) := by
  apply Int32.toBitVec_inj.mp
  rw [Int32.toBitVec_xor]
  apply BitVec.eq_of_toNat_eq
  rw [BitVec.toNat_xor]
  show (BitVec.ofNat 32 a).toNat ^^^ (BitVec.ofNat 32 b).toNat = (BitVec.ofNat 32 (a ^^^ b)).toNat
  rw [BitVec.toNat_ofNat, BitVec.toNat_ofNat, BitVec.toNat_ofNat, Nat.xor_mod_two_pow]
/-- a without the bits of b -/
def adn (a b : Nat) : Nat := a ^^^ (a &&& b)
theorem adn_bit (a b k : Nat) : (adn a b).testBit k = (a.testBit k && !b.testBit k) := by
  unfold adn
  rw [Nat.testBit_xor, Nat.testBit_and]
  cases a.testBit k <;> cases b.testBit k <;> rfl
theorem pz_andn0 (x y : Int32) : x &&& (y ^^^ (-1)) = x ^^^ (x &&& y) := by
  apply Int32.toBitVec_inj.mp
  rw [Int32.toBitVec_and, Int32.toBitVec_xor, Int32.toBitVec_xor, Int32.toBitVec_and, show (-1 : Int32).toBitVec = BitVec.allOnes 32 from by decide]
  apply BitVec.eq_of_getLsbD_eq
  intro i hi
  rw [BitVec.getLsbD_and, BitVec.getLsbD_xor, BitVec.getLsbD_xor, BitVec.getLsbD_and, BitVec.getLsbD_allOnes]
  cases x.toBitVec.getLsbD i <;> cases y.toBitVec.getLsbD i <;> simp [hi]
theorem pz_andn (a b : Nat) : nI a &&& (nI b ^^^ (-1)) = nI (adn a b) := by
  rw [pz_andn0, pz_and, pz_xor]; rfl
theorem pz_e0 {n : Nat} (h : n < 2 ^ 31) : (nI n = 0) = (n = 0) := by
  rw [show (0 : Int32) = nI 0 from rfl]; exact propext (nI_eq h (by omega))
theorem pz_e1 {n : Nat} (h : n < 2 ^ 31) : (nI n = 1) = (n = 1) := by
  rw [show (1 : Int32) = nI 1 from rfl]; exact propext (nI_eq h (by omega))
theorem pz_e2 {n : Nat} (h : n < 2 ^ 31) : (nI n = 2) = (n = 2) := by
  rw [show (2 : Int32) = nI 2 from rfl]; exact propext (nI_eq h (by omega))
theorem pz_le0 {n : Nat} (h : n < 2 ^ 31) : (nI n ≤ 0) = (n = 0) := by
  rw [show (0 : Int32) = nI 0 from rfl]; exact propext ((nI_leI h (by omega)).trans (by omega))
theorem pz_lt0 {n : Nat} (h : n < 2 ^ 31) : (nI n < 0) = False := by
  rw [show (0 : Int32) = nI 0 from rfl]; exact propext ((nI_ltI h (by omega)).trans (iff_false_intro (Nat.not_lt_zero n)))
theorem pz_le {a b : Nat} (ha : a < 2 ^ 31) (hb : b < 2 ^ 31) : (nI a ≤ nI b) = (a ≤ b) := propext (nI_leI ha hb)
theorem pz_lt {a b : Nat} (ha : a < 2 ^ 31) (hb : b < 2 ^ 31) : (nI a < nI b) = (a < b) := propext (nI_ltI ha hb)
theorem pz_eq {a b : Nat} (ha : a < 2 ^ 31) (hb : b < 2 ^ 31) : (nI a = nI b) = (a = b) := propext (nI_eq ha hb)
theorem pz_m1 {n : Nat} (h : 0 < n) : nI n + (-1) = nI (n - 1) := sb_m1 h
theorem pz_s1 {n : Nat} (h : 0 < n) : nI n - 1 = nI (n - 1) := pk_sub (b := 1) h
theorem pz_s {a b : Nat} (h : b ≤ a) : nI a - nI b = nI (a - b) := pk_sub h
theorem pz_a0 (x : Int32) : x + 0 = x := Int32.add_zero x
theorem pz_0 : (0 : Int32) = nI 0 := rfl
theorem pz_lt10 : (10 : Int32) = nI 10 := rfl
theorem pz_c0 : (0 : Int32).toNatClampNeg = 0 := rfl
theorem pz_n0 {n : Nat} (h : n < 2 ^ 31) : (nI n = -1) = False := by
  apply eq_false
  intro e
  have h2 := congrArg Int32.toInt e
  rw [nI_toInt h, show (-1 : Int32).toInt = -1 from rfl] at h2
  omega
/-! loops -/
theorem pz_rel {α β : Type} (g : Nat → α → Option β) (n : Nat) (P : Nat → α → Prop) (hs : ∀ k a, k < n → P k a → ∃ a', P (k + 1) a' ∧ g k a = g (k + 1) a') : ∀ (m k : Nat) (a : α), k + m = n → P k a → ∃ a', P n a' ∧ g k a = g n a'
  | 0, k, a, hk, h => by
    have : k = n := by omega
    subst this
    exact ⟨a, h, rfl⟩
  | m + 1, k, a, hk, h => by
    obtain ⟨a', h1, h2⟩ := hs k a (by omega) h
    obtain ⟨a2, h3, h4⟩ := pz_rel g n P hs m (k + 1) a' (by omega) h1
    exact ⟨a2, h3, h2.trans h4⟩
theorem pz_rel0 {α β : Type} (g : Nat → α → Option β) (n : Nat) (P : Nat → α → Prop) (a : α) (h : P 0 a) (hs : ∀ k a, k < n → P k a → ∃ a', P (k + 1) a' ∧ g k a = g (k + 1) a') : ∃ a', P n a' ∧ g 0 a = g n a' := pz_rel g n P hs n 0 a (by omega) h
theorem pz_fun {α β : Type} (g : Nat → α → Option β) (F : Nat → α) (n : Nat) (hs : ∀ k, k < n → g k (F k) = g (k + 1) (F (k + 1))) : ∀ k, k ≤ n → g 0 (F 0) = g k (F k)
  | 0, _ => rfl
  | k + 1, h => (pz_fun g F n hs k (by omega)).trans (hs k (by omega))
theorem pz_relE {α β : Type} (g : Nat → α → Option β) (n : Nat) (P : Nat → α → Prop) (Q : Option β → Prop) (hs : ∀ k a, k < n → P k a → (∃ a', P (k + 1) a' ∧ g k a = g (k + 1) a') ∨ Q (g k a)) : ∀ (m k : Nat) (a : α), k + m = n → P k a → (∃ a', P n a' ∧ g k a = g n a') ∨ Q (g k a)
  | 0, k, a, hk, h => by
    have : k = n := by omega
    subst this
    exact Or.inl ⟨a, h, rfl⟩
  | m + 1, k, a, hk, h => by
    rcases hs k a (by omega) h with ⟨a', h1, h2⟩ | h1
    · rw [h2]
      rcases pz_relE g n P Q hs m (k + 1) a' (by omega) h1 with ⟨a2, h3, h4⟩ | h3
      · exact Or.inl ⟨a2, h3, h4⟩
      · exact Or.inr h3
    · exact Or.inr h1
/-- the first k below n that is P -/
def fo (P : Nat → Bool) : Nat → Option Nat
  | 0 => none
  | n + 1 => match fo P n with
    | some k => some k
    | none => if P n = true then some n else none
theorem fo_none (P : Nat → Bool) : ∀ n, fo P n = none ↔ ∀ k, k < n → P k = false
  | 0 => by simp [fo]
  | n + 1 => by
    have ih := fo_none P n
    unfold fo
    cases h : fo P n with
    | some k =>
      simp only [reduceCtorEq, false_iff]
      intro hk
      have := ih.mpr (fun j hj => hk j (by omega))
      rw [h] at this
      cases this
    | none =>
      have h1 := ih.mp h
      cases h2 : P n with
      | true =>
        simp only [if_true, reduceCtorEq, false_iff]
        intro hk
        have := hk n (by omega)
        rw [h2] at this
        cases this
      | false =>
        simp only [Bool.false_eq_true, if_false, true_iff]
        intro k hk
        rcases Nat.lt_succ_iff_lt_or_eq.mp hk with h3 | h3
        · exact h1 k h3
        · rw [h3]; exact h2
theorem fo_some (P : Nat → Bool) : ∀ n k, fo P n = some k → k < n ∧ P k = true ∧ ∀ j, j < k → P j = false
  | 0, k, h => by simp [fo] at h
  | n + 1, k, h => by
    unfold fo at h
    cases h2 : fo P n with
    | some j =>
      rw [h2] at h
      simp only [Option.some.injEq] at h
      subst h
      have := fo_some P n j h2
      exact ⟨by omega, this.2⟩
    | none =>
      rw [h2] at h
      simp only at h
      cases h3 : P n with
      | true =>
        rw [h3] at h
        simp only [if_true, Option.some.injEq] at h
        subst h
        exact ⟨by omega, h3, (fo_none P n).mp h2⟩
      | false => rw [h3] at h; simp at h
theorem fo_is (P : Nat → Bool) (n k : Nat) (hk : k < n) (h : P k = true) (hj : ∀ j, j < k → P j = false) : fo P n = some k := by
  cases h2 : fo P n with
  | none =>
    have := (fo_none P n).mp h2 k hk
    rw [h] at this; cases this
  | some j =>
    obtain ⟨a, b, c⟩ := fo_some P n j h2
    rcases Nat.lt_trichotomy j k with h3 | h3 | h3
    · rw [hj j h3] at b; cases b
    · rw [h3]
    · rw [c k h3] at h; cases h
theorem fo_congr {P Q : Nat → Bool} : ∀ (n : Nat), (∀ k, k < n → P k = Q k) → fo P n = fo Q n
  | 0, _ => rfl
  | n + 1, h => by
    unfold fo
    rw [fo_congr n (fun k hk => h k (by omega)), h n (by omega)]
/-- a search from 0 on -/
theorem pz_find {β : Type} (g : Nat → Option β) (P : Nat → Bool) (R : Nat → β) (r0 : β) (n : Nat) (ht : ∀ k, k < n → P k = true → g k = some (R k)) (hf : ∀ k, k < n → P k = false → g k = g (k + 1)) (he : g n = some r0) : g 0 = some (match fo P n with | some k => R k | none => r0) := by
  have h0 : ∀ k, k ≤ n → (∀ j, j < k → P j = false) → g 0 = g k := by
    intro k
    induction k with
    | zero => intro _ _; rfl
    | succ k ih => intro hk hj; rw [ih (by omega) (fun j h => hj j (by omega)), hf k (by omega) (hj k (by omega))]
  cases h : fo P n with
  | none => rw [h0 n (Nat.le_refl n) ((fo_none P n).mp h), he]
  | some k =>
    obtain ⟨a, b, c⟩ := fo_some P n k h
    rw [h0 k (by omega) c, ht k a b]
/-! sums, counts, bits -/
def sm (f : Nat → Nat) : Nat → Nat
  | 0 => 0
  | n + 1 => sm f n + f n
def ct (P : Nat → Bool) : Nat → Nat
  | 0 => 0
  | n + 1 => ct P n + (if P n = true then 1 else 0)
def bs (P : Nat → Bool) : Nat → Nat
  | 0 => 0
  | n + 1 => bs P n + (if P n = true then 2 ^ n else 0)
theorem sm_congr {f g : Nat → Nat} : ∀ (n : Nat), (∀ k, k < n → f k = g k) → sm f n = sm g n
  | 0, _ => rfl
  | n + 1, h => by
    show sm f n + f n = sm g n + g n
    rw [sm_congr n (fun k hk => h k (by omega)), h n (by omega)]
theorem sm_le (f : Nat → Nat) (c : Nat) : ∀ (n : Nat), (∀ k, k < n → f k ≤ c) → sm f n ≤ c * n
  | 0, _ => by simp [sm]
  | n + 1, h => by
    have h1 := sm_le f c n (fun k hk => h k (by omega))
    have h2 := h n (by omega)
    show sm f n + f n ≤ c * (n + 1)
    rw [Nat.mul_succ]
    omega
theorem ct_congr {P Q : Nat → Bool} : ∀ (n : Nat), (∀ k, k < n → P k = Q k) → ct P n = ct Q n
  | 0, _ => rfl
  | n + 1, h => by
    show ct P n + _ = ct Q n + _
    rw [ct_congr n (fun k hk => h k (by omega)), h n (by omega)]
theorem ct_le (P : Nat → Bool) : ∀ (n : Nat), ct P n ≤ n
  | 0 => Nat.le_refl _
  | n + 1 => by
    have := ct_le P n
    show ct P n + _ ≤ n + 1
    split <;> omega
theorem bs_congr {P Q : Nat → Bool} : ∀ (n : Nat), (∀ k, k < n → P k = Q k) → bs P n = bs Q n
  | 0, _ => rfl
  | n + 1, h => by
    show bs P n + _ = bs Q n + _
    rw [bs_congr n (fun k hk => h k (by omega)), h n (by omega)]
theorem bs_lt (P : Nat → Bool) : ∀ (n : Nat), bs P n < 2 ^ n
  | 0 => by simp [bs]
  | n + 1 => by
    have := bs_lt P n
    show bs P n + _ < 2 ^ (n + 1)
    rw [Nat.pow_succ]
    split <;> omega
theorem bs_or (P : Nat → Bool) (n : Nat) : bs P n ||| 2 ^ n = bs P n + 2 ^ n := by
  have := Nat.two_pow_add_eq_or_of_lt (bs_lt P n) 1
  rw [Nat.mul_one] at this
  rw [Nat.or_comm, ← this, Nat.add_comm]
theorem bs_bit (P : Nat → Bool) : ∀ (n k : Nat), (bs P n).testBit k = (decide (k < n) && P k)
  | 0, k => by simp [bs]
  | n + 1, k => by
    have ih := bs_bit P n k
    show (bs P n + _).testBit k = _
    cases h : P n with
    | false =>
      simp only [Bool.false_eq_true, if_false, Nat.add_zero]
      rw [ih]
      by_cases h1 : k < n
      · simp [h1, Nat.lt_succ_of_lt h1]
      · by_cases h2 : k = n
        · subst h2; simp [h]
        · simp [h1, show ¬ k < n + 1 from by omega]
    | true =>
      simp only [if_true]
      rw [← bs_or, Nat.testBit_or, ih, Nat.testBit_two_pow]
      by_cases h1 : k < n
      · simp [h1, Nat.lt_succ_of_lt h1, show ¬ n = k from by omega]
      · by_cases h2 : k = n
        · subst h2; simp [h]
        · simp [h1, show ¬ k < n + 1 from by omega, show ¬ n = k from by omega]
theorem bs_step {P : Nat → Bool} {n : Nat} (h : P n = true) : nI (bs P n) ||| nI (2 ^ n) = nI (bs P (n + 1)) := by
  rw [pz_or, bs_or]
  show _ = nI (bs P n + _)
  rw [if_pos h]
theorem bs_stay {P : Nat → Bool} {n : Nat} (h : P n = false) : bs P (n + 1) = bs P n := by
  show bs P n + _ = _
  rw [if_neg (by rw [h]; decide)]; rfl
theorem sm_s (f : Nat → Nat) (n : Nat) : sm f (n + 1) = sm f n + f n := rfl
theorem ct_s (P : Nat → Bool) (n : Nat) : ct P (n + 1) = ct P n + (if P n = true then 1 else 0) := rfl
theorem bs_0 (P : Nat → Bool) : bs P 0 = 0 := rfl
theorem sm_0 (f : Nat → Nat) : sm f 0 = 0 := rfl
theorem ct_0 (P : Nat → Bool) : ct P 0 = 0 := rfl
/-- an index: below n or not -/
theorem pz_ix (x : Int32) {n : Nat} (hn : n < 2 ^ 31) : (x < 0 ∨ nI n ≤ x) ∨ ∃ j : Nat, j < n ∧ x = nI j := by
  rcases pk_ix x hn with h | h | h
  · exact Or.inl (Or.inl h)
  · exact Or.inl (Or.inr h)
  · exact Or.inr h
