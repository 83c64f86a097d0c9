/-! ===== pure rows: how many bits; the fewest lenders ===== -/
def pcF : Nat → Nat → Nat
  | 0, _ => 0
  | k + 1, n => n % 2 + pcF k (n / 2)
def bcN (n : Nat) : Nat :=
  let b1 := n - (n / 2 &&& 1431655765)
  let b2 := (b1 &&& 858993459) + (b1 / 4 &&& 858993459)
  let b3 := (b2 + b2 / 16) &&& 252645135
  let b4 := b3 + b3 / 256
  (b4 + b4 / 65536) &&& 63
theorem and_split {h l m k : Nat} (hl : l < 256) (hk : k < 256) : (256 * h + l) &&& (256 * m + k) = 256 * (h &&& m) + (l &&& k) := by
  have h8 : (256 : Nat) = 2 ^ 8 := rfl
  have hlk : l &&& k < 2 ^ 8 := Nat.lt_of_le_of_lt Nat.and_le_left hl
  apply Nat.eq_of_testBit_eq
  intro i
  rw [Nat.testBit_and, h8, Nat.testBit_two_pow_mul_add h (by omega), Nat.testBit_two_pow_mul_add m (by omega), Nat.testBit_two_pow_mul_add (h &&& m) hlk]
  by_cases c : i < 8
  · rw [if_pos c, if_pos c, if_pos c, Nat.testBit_and]
  · rw [if_neg c, if_neg c, if_neg c, Nat.testBit_and]
def hH1 (h : Nat) : Nat := h - (h / 2 &&& 5592405)
def hH2 (h : Nat) : Nat := (hH1 h &&& 3355443) + (hH1 h / 4 &&& 3355443)
def lL1 (l : Nat) : Nat := l - (l / 2 &&& 85)
def lL2 (l : Nat) : Nat := (lL1 l &&& 51) + (lL1 l / 4 &&& 51)
set_option maxRecDepth 100000 in
theorem bc_h : ∀ h, h < 256 → hH1 h < 256 ∧ hH2 h % 16 ≤ 4 ∧ ((hH2 h + hH2 h / 16) &&& 986895) = pcF 8 h ∧ pcF 8 h ≤ 8 := by decide +kernel
set_option maxRecDepth 100000 in
theorem bc_l : ∀ l, l < 256 → lL1 l < 256 ∧ lL2 l ≤ 68 ∧ ((lL2 l + lL2 l / 16) &&& 15) = pcF 8 l ∧ pcF 8 l ≤ 8 := by decide +kernel
set_option maxRecDepth 100000 in
theorem bc_85 : ∀ e, e < 2 → ∀ x, x < 128 → (128 * e + x) &&& 85 = x &&& 85 := by decide +kernel
set_option maxRecDepth 100000 in
theorem bc_51 : ∀ e, e < 4 → ∀ x, x < 64 → (64 * e + x) &&& 51 = x &&& 51 := by decide +kernel
set_option maxRecDepth 100000 in
theorem bc_15 : ∀ e, e < 5 → ∀ x, x < 80 → (16 * e + x) &&& 15 = x &&& 15 := by decide +kernel
set_option maxRecDepth 100000 in
theorem bc_63 : ∀ h, h < 9 → ∀ x, x < 17 → (256 * h + x) &&& 63 = x := by decide +kernel
theorem pcF_split : ∀ (j k n : Nat), pcF (j + k) n = pcF j (n % 2 ^ j) + pcF k (n / 2 ^ j)
  | 0, k, n => by
    rw [Nat.zero_add, Nat.pow_zero, Nat.div_one]
    show pcF k n = 0 + pcF k n
    omega
  | j + 1, k, n => by
    have ih := pcF_split j k (n / 2)
    have e1 : j + 1 + k = j + k + 1 := by omega
    rw [e1]
    show n % 2 + pcF (j + k) (n / 2) = (n % 2 ^ (j + 1)) % 2 + pcF j (n % 2 ^ (j + 1) / 2) + pcF k (n / 2 ^ (j + 1))
    rw [ih, Nat.pow_succ, Nat.mul_comm (2 ^ j) 2, Nat.div_div_eq_div_mul, Nat.mod_mul_right_div_self, Nat.mod_mul_right_mod]
    omega
theorem bcN_eq {n : Nat} (h : n < 65536) : bcN n = pcF 16 n := by
  obtain ⟨a, b, ha, hb, rfl⟩ : ∃ a b, a < 256 ∧ b < 256 ∧ n = 256 * a + b := ⟨n / 256, n % 256, by omega, by omega, by omega⟩
  obtain ⟨p1, p2, p3, p4⟩ := bc_h a ha
  obtain ⟨q1, q2, q3, q4⟩ := bc_l b hb
  have hA : a / 2 &&& 5592405 ≤ a / 2 := Nat.and_le_left
  have hB : b / 2 &&& 85 ≤ b / 2 := Nat.and_le_left
  have hB2 : b / 2 &&& 85 < 256 := by omega
  have e1 : 256 * a + b - ((256 * a + b) / 2 &&& 1431655765) = 256 * hH1 a + lL1 b := by
    rw [show (256 * a + b) / 2 = 256 * (a / 2) + (128 * (a % 2) + b / 2) from by omega, show (1431655765 : Nat) = 256 * 5592405 + 85 from rfl, and_split (by omega) (by omega), bc_85 _ (by omega) _ (by omega)]
    unfold hH1 lL1
    omega
  have e2 : ((256 * hH1 a + lL1 b) &&& 858993459) + ((256 * hH1 a + lL1 b) / 4 &&& 858993459) = 256 * hH2 a + lL2 b := by
    rw [show (256 * hH1 a + lL1 b) / 4 = 256 * (hH1 a / 4) + (64 * (hH1 a % 4) + lL1 b / 4) from by omega, show (858993459 : Nat) = 256 * 3355443 + 51 from rfl, and_split q1 (by omega), and_split (by omega) (by omega), bc_51 _ (by omega) _ (by omega)]
    unfold hH2 lL2
    omega
  have e3 : ((256 * hH2 a + lL2 b + (256 * hH2 a + lL2 b) / 16) &&& 252645135) = 256 * pcF 8 a + pcF 8 b := by
    rw [show 256 * hH2 a + lL2 b + (256 * hH2 a + lL2 b) / 16 = 256 * (hH2 a + hH2 a / 16) + (16 * (hH2 a % 16) + (lL2 b + lL2 b / 16)) from by omega, show (252645135 : Nat) = 256 * 986895 + 15 from rfl, and_split (by omega) (by omega), bc_15 _ (by omega) _ (by omega), p3, q3]
  have e4 : pcF 16 (256 * a + b) = pcF 8 a + pcF 8 b := by
    have := pcF_split 8 8 (256 * a + b)
    rw [show (2 : Nat) ^ 8 = 256 from rfl, show (256 * a + b) % 256 = b from by omega, show (256 * a + b) / 256 = a from by omega] at this
    rw [show (16 : Nat) = 8 + 8 from rfl, this]; omega
  show (_ + _ / 65536) &&& 63 = _
  rw [e1, e2, e3, e4, show (256 * pcF 8 a + pcF 8 b + (256 * pcF 8 a + pcF 8 b) / 256 + (256 * pcF 8 a + pcF 8 b + (256 * pcF 8 a + pcF 8 b) / 256) / 65536) = 256 * pcF 8 a + (pcF 8 a + pcF 8 b) from by omega, bc_63 _ (by omega) _ (by omega)]
theorem us1 : (((1 : Int32).toUInt32 &&& Int32.toUInt32 31).toBitVec % 32).toNat = 1 := by decide
theorem us2 : (((2 : Int32).toUInt32 &&& Int32.toUInt32 31).toBitVec % 32).toNat = 2 := by decide
theorem us4 : (((4 : Int32).toUInt32 &&& Int32.toUInt32 31).toBitVec % 32).toNat = 4 := by decide
theorem us8 : (((8 : Int32).toUInt32 &&& Int32.toUInt32 31).toBitVec % 32).toNat = 8 := by decide
theorem us16 : (((16 : Int32).toUInt32 &&& Int32.toUInt32 31).toBitVec % 32).toNat = 16 := by decide
theorem c_bits {n : Nat} (h : n < 65536) : dn_J6_bitCount_0f7a4 (nI n) = some (nI (pcF 16 n)) := by
  have a1 : n / 2 &&& 1431655765 ≤ n / 2 := Nat.and_le_left
  have e1 : nI n - (((nI n).toUInt32 >>> ((1 : Int32).toUInt32 &&& Int32.toUInt32 31)).toInt32 &&& 1431655765) = nI (n - (n / 2 &&& 1431655765)) := by
    rw [pk_ushrN (by omega) 1 1 us1, show (1431655765 : Int32) = nI 1431655765 from rfl, pz_and, pz_s (by simp only [Nat.pow_one]; omega), Nat.pow_one]
  obtain ⟨b1, hb1⟩ : ∃ b1, b1 = n - (n / 2 &&& 1431655765) := ⟨_, rfl⟩
  have a2 : b1 &&& 858993459 ≤ b1 := Nat.and_le_left
  have a3 : b1 / 4 &&& 858993459 ≤ b1 / 4 := Nat.and_le_left
  have e2 : (nI b1 &&& 858993459) + (((nI b1).toUInt32 >>> ((2 : Int32).toUInt32 &&& Int32.toUInt32 31)).toInt32 &&& 858993459) = nI ((b1 &&& 858993459) + (b1 / 4 &&& 858993459)) := by
    rw [pk_ushrN (by omega) 2 2 us2, show (858993459 : Int32) = nI 858993459 from rfl, pz_and, pz_and, nI_add]
  obtain ⟨b2, hb2⟩ : ∃ b2, b2 = (b1 &&& 858993459) + (b1 / 4 &&& 858993459) := ⟨_, rfl⟩
  have a4 : (b2 + b2 / 16) &&& 252645135 ≤ b2 + b2 / 16 := Nat.and_le_left
  have e3 : (nI b2 + ((nI b2).toUInt32 >>> ((4 : Int32).toUInt32 &&& Int32.toUInt32 31)).toInt32) &&& 252645135 = nI ((b2 + b2 / 16) &&& 252645135) := by
    rw [pk_ushrN (by omega) 4 4 us4, show (252645135 : Int32) = nI 252645135 from rfl, nI_add, pz_and]
  obtain ⟨b3, hb3⟩ : ∃ b3, b3 = (b2 + b2 / 16) &&& 252645135 := ⟨_, rfl⟩
  have e4 : nI b3 + ((nI b3).toUInt32 >>> ((8 : Int32).toUInt32 &&& Int32.toUInt32 31)).toInt32 = nI (b3 + b3 / 256) := by
    rw [pk_ushrN (by omega) 8 8 us8, nI_add]
  obtain ⟨b4, hb4⟩ : ∃ b4, b4 = b3 + b3 / 256 := ⟨_, rfl⟩
  have e5 : (nI b4 + ((nI b4).toUInt32 >>> ((16 : Int32).toUInt32 &&& Int32.toUInt32 31)).toInt32) &&& 63 = nI ((b4 + b4 / 65536) &&& 63) := by
    rw [pk_ushrN (by omega) 16 16 us16, show (63 : Int32) = nI 63 from rfl, nI_add, pz_and]
  have e6 : (b4 + b4 / 65536) &&& 63 = pcF 16 n := by
    rw [← bcN_eq h, hb4, hb3, hb2, hb1]
    rfl
  unfold dn_J6_bitCount_0f7a4
  rw [e1, ← hb1, e2, ← hb2, e3, ← hb3, e4, ← hb4, e5, e6]
theorem pz_b0m (n : Nat) : n % 2 = if n.testBit 0 = true then 1 else 0 := by
  rw [Nat.testBit_zero]
  rcases Nat.mod_two_eq_zero_or_one n with h | h <;> simp [h]
theorem pz_and2 (x y : Nat) : (x &&& y) / 2 = x / 2 &&& y / 2 := by
  apply Nat.eq_of_testBit_eq
  intro i
  rw [Nat.testBit_and, Nat.testBit_div_two, Nat.testBit_div_two, Nat.testBit_div_two, Nat.testBit_and]
theorem pc_drop : ∀ (k v : Nat), 0 < v → v < 2 ^ k → pcF k (v &&& (v - 1)) + 1 = pcF k v ∧ v &&& (v - 1) < v
  | 0, v, h, hv => by simp at hv; omega
  | k + 1, v, h, hv => by
    have hle : v &&& (v - 1) ≤ v - 1 := Nat.and_le_right
    refine ⟨?_, by omega⟩
    show (v &&& (v - 1)) % 2 + pcF k ((v &&& (v - 1)) / 2) + 1 = v % 2 + pcF k (v / 2)
    have hm : (v &&& (v - 1)) % 2 = 0 := by
      rw [pz_b0m, Nat.testBit_and, Nat.testBit_zero, Nat.testBit_zero]
      rcases Nat.mod_two_eq_zero_or_one v with c | c
      · rw [c]; simp
      · rw [show (v - 1) % 2 = 0 from by omega]; simp
    rw [hm, pz_and2]
    rcases Nat.mod_two_eq_zero_or_one v with c | c
    · have := (pc_drop k (v / 2) (by omega) (by rw [Nat.pow_succ] at hv; omega)).1
      rw [show (v - 1) / 2 = v / 2 - 1 from by omega, c]
      omega
    · rw [show (v - 1) / 2 = v / 2 from by omega, Nat.and_self, c]
      omega
theorem m_bits0 : ∀ (n v c : Nat), v ≤ n → v < 65536 → gn_X12_bits_0 (nI c) (nI v) = some (nI (c + pcF 16 v))
  | n, v, c, hn, hv => by
    rw [gq_X12_bits_0]
    by_cases h0 : v = 0
    · subst h0
      rw [if_pos (show nI 0 = 0 from rfl)]
      rfl
    · have hd := pc_drop 16 v (by omega) hv
      rw [if_neg (by rw [pz_e0 (by omega)]; exact h0), pz_s1 (by omega), pz_and, nI_1]
      cases n with
      | zero => omega
      | succ n =>
        rw [m_bits0 n (v &&& (v - 1)) (c + 1) (by omega) (by omega)]
        congr 2
        omega
theorem m_bits {v : Nat} (hv : v < 65536) : dn_X12_bits (nI v) = some (nI (pcF 16 v)) := by
  have := m_bits0 v v 0 (Nat.le_refl v) hv
  rw [Nat.zero_add] at this
  exact this
theorem pcF_le : ∀ (k n : Nat), pcF k n ≤ k
  | 0, _ => Nat.le_refl 0
  | k + 1, n => by
    have := pcF_le k (n / 2)
    show n % 2 + pcF k (n / 2) ≤ k + 1
    omega
theorem pc_sub : ∀ (k a b : Nat), a < 2 ^ k → b < 2 ^ k → (∀ i, a.testBit i = true → b.testBit i = true) → pcF k a ≤ pcF k b ∧ (pcF k b ≤ pcF k a → a = b)
  | 0, a, b, ha, hb, _ => by
    simp at ha hb
    exact ⟨Nat.le_refl _, fun _ => by omega⟩
  | k + 1, a, b, ha, hb, h => by
    rw [Nat.pow_succ] at ha hb
    have ih := pc_sub k (a / 2) (b / 2) (by omega) (by omega) (fun i hi => by
      rw [Nat.testBit_div_two] at hi ⊢
      exact h _ hi)
    have h0 : a % 2 ≤ b % 2 := by
      rw [pz_b0m, pz_b0m]
      by_cases c : a.testBit 0 = true
      · rw [if_pos c, if_pos (h 0 c)]; exact Nat.le_refl 1
      · rw [if_neg c]; exact Nat.zero_le _
    constructor
    · show a % 2 + pcF k (a / 2) ≤ b % 2 + pcF k (b / 2)
      omega
    · intro hc
      have hc' : b % 2 + pcF k (b / 2) ≤ a % 2 + pcF k (a / 2) := hc
      have := ih.2 (by omega)
      omega
/-- who has DEALS, of the first k -/
def dlK (T : tT) : Nat → Nat
  | 0 => 0
  | k + 1 => dlK T k ||| (2 ^ T 8 k ||| 2 ^ T 9 k)
/-- whom the lenders P serve -/
def svK (T : tT) (P : Nat) : Nat → Nat
  | 0 => 0
  | k + 1 => svK T P k ||| (if P.testBit (T 8 k) = true then 2 ^ T 9 k else 0) ||| (if T 13 k = 1 ∧ P.testBit (T 9 k) = true then 2 ^ T 8 k else 0)
def okF (T : tT) (P : Nat) : Bool := adn P (dlK T (T 1 0)) == 0 && adn (adn (dlK T (T 1 0)) P) (svK T P (T 1 0)) == 0
theorem dlK_lt {T : tT} (hw : twf T) : ∀ k, k ≤ T 1 0 → dlK T k < 2 ^ T 0 0
  | 0, _ => Nat.two_pow_pos _
  | k + 1, h => by
    have ih := dlK_lt hw k (by omega)
    have d := hw.ds (show k < T 1 0 by omega)
    exact Nat.or_lt_two_pow ih (Nat.or_lt_two_pow (pz_p2 d.1) (pz_p2 d.2.1))
theorem svK_lt {T : tT} (hw : twf T) (P : Nat) : ∀ k, k ≤ T 1 0 → svK T P k < 2 ^ T 0 0
  | 0, _ => Nat.two_pow_pos _
  | k + 1, h => by
    have ih := svK_lt hw P k (by omega)
    have d := hw.ds (show k < T 1 0 by omega)
    refine Nat.or_lt_two_pow (Nat.or_lt_two_pow ih ?_) ?_
    · split
      · exact pz_p2 d.2.1
      · exact Nat.two_pow_pos _
    · split
      · exact pz_p2 d.1
      · exact Nat.two_pow_pos _
theorem adn_lt {a b n : Nat} (h : a < 2 ^ n) : adn a b < 2 ^ n := Nat.lt_of_le_of_lt (by
  have : adn a b &&& a = adn a b := by
    apply Nat.eq_of_testBit_eq
    intro i
    rw [Nat.testBit_and, adn_bit]
    cases a.testBit i <;> simp
  rw [← this]; exact Nat.and_le_right) h
theorem adn_or (a b c : Nat) : adn a (b ||| c) = adn (adn a b) c := by
  apply Nat.eq_of_testBit_eq
  intro i
  rw [adn_bit, adn_bit, adn_bit, Nat.testBit_or]
  cases a.testBit i <;> cases b.testBit i <;> cases c.testBit i <;> rfl
theorem adn_0 {a b : Nat} (h : adn a b = 0) : ∀ i, a.testBit i = true → b.testBit i = true := by
  intro i hi
  have := congrArg (fun x => Nat.testBit x i) h
  simp only [adn_bit, hi, Bool.true_and, Nat.zero_testBit] at this
  simpa using this
theorem adn_self (a : Nat) : adn a a = 0 := by
  apply Nat.eq_of_testBit_eq
  intro i
  rw [adn_bit, Nat.zero_testBit]
  cases a.testBit i <;> rfl
theorem adn_z (b : Nat) : adn 0 b = 0 := by
  apply Nat.eq_of_testBit_eq
  intro i
  rw [adn_bit, Nat.zero_testBit]; rfl
theorem c_dealing (T : tT) (hw : twf T) (b : Nat → Int32) (hb : ∀ d, d < T 1 0 → b d = nI (T 9 d)) (l : Nat → Int32) (hl : ∀ d, d < T 1 0 → l d = nI (T 8 d)) : dn_X10_personsWithDeals (nI (T 1 0)) b l = some (nI (dlK T (T 1 0))) := by
  have h1 := hw.d
  have h2 := hw.p
  have key := pz_fun (fun k (a : Nat) => gn_X10_personsWithDeals_0 (nI (T 1 0)) b l (nI a) (nI k)) (dlK T) (T 1 0) (by
    intro k hk
    show gn_X10_personsWithDeals_0 _ _ _ _ _ = gn_X10_personsWithDeals_0 _ _ _ _ _
    have d := hw.ds hk
    rw [gq_X10_personsWithDeals_0, if_neg (nI_ge hk (by omega)), inb_nI (by omega) (by omega), if_pos rfl, if_pos rfl, nI_clamp (by omega), hl k hk, hb k hk, pz_1shl (by omega), pz_1shl (by omega), pz_or, pz_or, nI_1]
    rfl) (T 1 0) (Nat.le_refl _)
  have key' : dn_X10_personsWithDeals (nI (T 1 0)) b l = gn_X10_personsWithDeals_0 (nI (T 1 0)) b l (nI (dlK T (T 1 0))) (nI (T 1 0)) := key
  rw [key', gq_X10_personsWithDeals_0, if_pos (nI_le (Nat.le_refl _) (by omega))]
theorem c_allServed (T : tT) (hw : twf T) (b : Nat → Int32) (hb : ∀ d, d < T 1 0 → b d = nI (T 9 d)) (e : Nat → Int32) (he : ∀ d, d < T 1 0 → e d = nI (T 13 d)) (l : Nat → Int32) (hl : ∀ d, d < T 1 0 → l d = nI (T 8 d)) {P Q : Nat} (hP : P < 2 ^ T 0 0) (hQ : Q < 2 ^ T 0 0) : dn_X10_allServed (nI (T 1 0)) b e l (nI P) (nI Q) = some (adn (adn Q P) (svK T P (T 1 0)) == 0) := by
  have h1 := hw.d
  have h2 := hw.p
  have hp10 := pz_10 hw.p
  have key := pz_fun (fun k (a : Nat) => gn_X10_allServed_0 (nI (T 1 0)) b e l (nI P) (nI Q) (nI a) (nI k)) (fun k => P ||| svK T P k) (T 1 0) (by
    intro k hk
    show gn_X10_allServed_0 _ _ _ _ _ _ _ _ = gn_X10_allServed_0 _ _ _ _ _ _ (nI (P ||| (svK T P k ||| (if P.testBit (T 8 k) = true then 2 ^ T 9 k else 0) ||| (if T 13 k = 1 ∧ P.testBit (T 9 k) = true then 2 ^ T 8 k else 0)))) _
    have d := hw.ds hk
    rw [gq_X10_allServed_0, if_neg (nI_ge hk (by omega)), inb_nI (by omega) (by omega), if_pos rfl, if_pos rfl, nI_clamp (by omega), hl k hk, hb k hk, pz_1shl (by omega), pz_bit (by omega) (by omega), pz_or, gq_X10_allServed_1, gq_X10_allServed_1, inb_nI (by omega) (by omega), if_pos rfl, if_pos rfl, if_pos rfl, if_pos rfl, nI_clamp (by omega), hl k hk, hb k hk, he k hk, pz_1shl (by omega), pz_bit (by omega) (by omega), pz_or, pz_or, nI_1]
    simp only [pz_e1 (show T 13 k < 2 ^ 31 by omega), pz_b1, if_true]
    rw [← Nat.or_assoc, ← Nat.or_assoc]
    by_cases c1 : P.testBit (T 8 k) = true <;> by_cases c2 : T 13 k = 1 <;> by_cases c3 : P.testBit (T 9 k) = true <;> simp [c1, c2, c3, Nat.or_assoc]) (T 1 0) (Nat.le_refl _)
  have key' : dn_X10_allServed (nI (T 1 0)) b e l (nI P) (nI Q) = gn_X10_allServed_0 (nI (T 1 0)) b e l (nI P) (nI Q) (nI (P ||| svK T P (T 1 0))) (nI (T 1 0)) := by
    have : gn_X10_allServed_0 (nI (T 1 0)) b e l (nI P) (nI Q) (nI (P ||| 0)) (nI 0) = _ := key
    rw [Nat.or_zero] at this
    exact this
  have ha := adn_lt (b := svK T P (T 1 0)) (adn_lt (b := P) hQ)
  rw [key', gq_X10_allServed_0, if_pos (nI_le (Nat.le_refl _) (by omega)), pz_andn, adn_or]
  simp only [pz_e0 (show adn (adn Q P) (svK T P (T 1 0)) < 2 ^ 31 by omega)]
  by_cases c : adn (adn Q P) (svK T P (T 1 0)) = 0
  · simp [c]
  · simp [c]
theorem m_isServed (T : tT) (hw : twf T) (s : Nat → Int32) (hs : mT T s) {P : Nat} (hP : P < 2 ^ T 0 0) : dn_X12_isServed s (nI P) = some (okF T P) := by
  have h1 := hw.d
  have h2 := hw.p
  have hp10 := pz_10 hw.p
  have key := pz_fun (fun k (a : Nat × Nat) => gn_X12_isServed_0 s (nI P) (nI a.1) (nI a.2) (nI k)) (fun k => (dlK T k, svK T P k)) (T 1 0) (by
    intro k hk
    show gn_X12_isServed_0 _ _ _ _ _ = gn_X12_isServed_0 _ _ (nI (dlK T k ||| (2 ^ T 8 k ||| 2 ^ T 9 k))) (nI (svK T P k ||| (if P.testBit (T 8 k) = true then 2 ^ T 9 k else 0) ||| (if T 13 k = 1 ∧ P.testBit (T 9 k) = true then 2 ^ T 8 k else 0))) _
    have d := hw.ds hk
    have b8 := m_has (P := P) (p := T 8 k) (by omega) (by omega)
    have b9 := m_has (P := P) (p := T 9 k) (by omega) (by omega)
    rw [gq_X12_isServed_0, show (1 : Int32).toNatClampNeg = 1 from rfl, hs.2.1, if_neg (nI_ge hk (by omega))]
    simp only [m_of0 T hw s hs hk, m_of1 T hw s hs hk, m_of5 T hw s hs hk, Option.bind_some, b8, b9, gq_X12_isServed_1, pz_1shl (show T 8 k < 32 by omega), pz_1shl (show T 9 k < 32 by omega), pz_or, nI_1, pz_e1 (show T 13 k < 2 ^ 31 by omega)]
    by_cases c1 : P.testBit (T 8 k) = true <;> by_cases c2 : T 13 k = 1 <;> by_cases c3 : P.testBit (T 9 k) = true <;> simp [c1, c2, c3]) (T 1 0) (Nat.le_refl _)
  have key' : dn_X12_isServed s (nI P) = gn_X12_isServed_0 s (nI P) (nI (dlK T (T 1 0))) (nI (svK T P (T 1 0))) (nI (T 1 0)) := key
  have hd := dlK_lt hw (T 1 0) (Nat.le_refl _)
  have ha := adn_lt (b := svK T P (T 1 0)) (adn_lt (b := P) hd)
  have ha2 := adn_lt (b := dlK T (T 1 0)) hP
  rw [key', gq_X12_isServed_0, show (1 : Int32).toNatClampNeg = 1 from rfl, hs.2.1, if_pos (nI_le (Nat.le_refl _) (by omega)), pz_andn, pz_andn, pz_andn]
  simp only [pz_e0 (show adn (adn (dlK T (T 1 0)) P) (svK T P (T 1 0)) < 2 ^ 31 by omega), pz_e0 (show adn P (dlK T (T 1 0)) < 2 ^ 31 by omega)]
  unfold okF
  by_cases c1 : adn P (dlK T (T 1 0)) = 0 <;> by_cases c2 : adn (adn (dlK T (T 1 0)) P) (svK T P (T 1 0)) = 0 <;> simp [c1, c2]
theorem j_fewest (T : tT) (hw : twf T) (b : Nat → Int32) (hb : ∀ d, d < T 1 0 → b d = nI (T 9 d)) (e : Nat → Int32) (he : ∀ d, d < T 1 0 → e d = nI (T 13 d)) (l : Nat → Int32) (hl : ∀ d, d < T 1 0 → l d = nI (T 8 d)) (s : Nat → Int32) (hs : mT T s) : ∃ q1, dn_X11_fewest (nI (T 0 0)) (nI (T 1 0)) b e l = some q1 ∧ ∃ q2, dn_X12_fewest s = some q2 ∧ q1 = q2.1 := by
  have hp := hw.p
  have hp10 := pz_10 hw.p
  have hd := dlK_lt hw (T 1 0) (Nat.le_refl _)
  have hokd : okF T (dlK T (T 1 0)) = true := by
    unfold okF
    rw [adn_self, adn_z]; rfl
  have hc : ∀ k f, k < 2 ^ T 0 0 → f < 2 ^ T 0 0 → gn_X11_fewest_0 (nI (T 0 0)) (nI (T 1 0)) b e l (nI (dlK T (T 1 0))) (nI f) (nI k) = gn_X11_fewest_0 (nI (T 0 0)) (nI (T 1 0)) b e l (nI (dlK T (T 1 0))) (nI (if pcF 16 k < pcF 16 f ∧ okF T k = true then k else f)) (nI (k + 1)) := by
    intro k f hk hf
    have ha2 := adn_lt (b := dlK T (T 1 0)) hk
    have l1 := pcF_le 16 k
    have l2 := pcF_le 16 f
    rw [gq_X11_fewest_0, c_partsCount (by omega), Option.bind_some, if_neg (nI_ge hk (by omega)), c_bits (by omega), Option.bind_some, c_bits (by omega), Option.bind_some, gq_X11_fewest_1, gq_X11_fewest_1, if_pos (show (0 : Int32) = 0 from rfl), if_neg (show ¬ (1 : Int32) = 0 by decide), pz_andn, c_allServed T hw b hb e he l hl hk hd, Option.bind_some, nI_1]
    simp only [pz_le (show pcF 16 f < 2 ^ 31 by omega) (show pcF 16 k < 2 ^ 31 by omega), pz_e0 (show adn k (dlK T (T 1 0)) < 2 ^ 31 by omega)]
    unfold okF
    by_cases c1 : pcF 16 f ≤ pcF 16 k
    · rw [if_pos c1, if_neg (by omega)]
    · rw [if_neg c1]
      by_cases c2 : adn k (dlK T (T 1 0)) = 0
      · by_cases c3 : adn (adn (dlK T (T 1 0)) k) (svK T k (T 1 0)) = 0
        · simp [c1, c2, c3, show pcF 16 k < pcF 16 f from by omega]
        · simp [c1, c2, c3]
      · simp [c1, c2]
  have hm1 : ∀ k, k < 2 ^ T 0 0 → gn_X12_fewest_0 s (-1) (nI k) 0 = gn_X12_fewest_0 s (if okF T k = true then nI k else -1) (nI (k + 1)) 0 := by
    intro k hk
    rw [gq_X12_fewest_0, m_pc T hw s hs, if_neg (nI_ge hk (by omega)), if_pos (show (-1 : Int32) < 0 by decide), gq_X12_fewest_1, m_isServed T hw s hs hk, Option.bind_some, nI_1]
    split <;> rfl
  have hm2 : ∀ k f, k < 2 ^ T 0 0 → f < 2 ^ T 0 0 → gn_X12_fewest_0 s (nI f) (nI k) 0 = gn_X12_fewest_0 s (nI (if pcF 16 k < pcF 16 f ∧ okF T k = true then k else f)) (nI (k + 1)) 0 := by
    intro k f hk hf
    have l1 := pcF_le 16 k
    have l2 := pcF_le 16 f
    rw [gq_X12_fewest_0, m_pc T hw s hs, if_neg (nI_ge hk (by omega)), if_neg (show ¬ nI f < 0 from by rw [pz_lt0 (by omega)]; exact id), m_bits (by omega), Option.bind_some, m_bits (by omega), Option.bind_some, gq_X12_fewest_1, m_isServed T hw s hs hk, Option.bind_some, nI_1]
    simp only [pz_le (show pcF 16 f < 2 ^ 31 by omega) (show pcF 16 k < 2 ^ 31 by omega)]
    by_cases c1 : pcF 16 f ≤ pcF 16 k
    · rw [if_pos c1, if_neg (by omega)]
    · rw [if_neg c1]
      by_cases c2 : okF T k = true
      · rw [if_pos c2, if_pos ⟨by omega, c2⟩]
      · rw [if_neg c2, if_neg (fun x => c2 x.2)]
  have key : ∀ k, k ≤ 2 ^ T 0 0 → ∃ f, f < 2 ^ T 0 0 ∧ gn_X11_fewest_0 (nI (T 0 0)) (nI (T 1 0)) b e l (nI (dlK T (T 1 0))) (nI (dlK T (T 1 0))) (nI 0) = gn_X11_fewest_0 (nI (T 0 0)) (nI (T 1 0)) b e l (nI (dlK T (T 1 0))) (nI f) (nI k) ∧ ((f = dlK T (T 1 0) ∧ gn_X12_fewest_0 s (-1) (nI 0) 0 = gn_X12_fewest_0 s (-1) (nI k) 0 ∧ ∀ P, P < k → okF T P = false) ∨ gn_X12_fewest_0 s (-1) (nI 0) 0 = gn_X12_fewest_0 s (nI f) (nI k) 0) := by
    intro k
    induction k with
    | zero => intro _; exact ⟨_, hd, rfl, Or.inl ⟨rfl, rfl, fun P hP => by omega⟩⟩
    | succ k ih =>
      intro hk
      obtain ⟨f, f1, f2, f3⟩ := ih (by omega)
      have hcs := hc k f (by omega) f1
      refine ⟨if pcF 16 k < pcF 16 f ∧ okF T k = true then k else f, ?_, f2.trans hcs, ?_⟩
      · split
        · omega
        · exact f1
      · rcases f3 with ⟨g1, g2, g3⟩ | g2
        · rw [g2, hm1 k (by omega)]
          by_cases c : okF T k = true
          · right
            rw [if_pos c]
            by_cases c2 : pcF 16 k < pcF 16 f
            · rw [if_pos ⟨c2, c⟩]
            · rw [if_neg (fun x => c2 x.1)]
              have hsub : adn k (dlK T (T 1 0)) = 0 := by
                unfold okF at c
                simp only [Bool.and_eq_true, beq_iff_eq] at c
                exact c.1
              have hk2 : k < 2 ^ 16 := by omega
              have hd2 : dlK T (T 1 0) < 2 ^ 16 := by omega
              have := (pc_sub 16 k (dlK T (T 1 0)) hk2 hd2 (adn_0 hsub)).2 (by rw [← g1]; omega)
              rw [g1, ← this]
          · left
            rw [if_neg c, if_neg (fun x => c x.2)]
            exact ⟨g1, rfl, fun P hP => by
              by_cases e1 : P = k
              · subst e1; simpa using c
              · exact g3 P (by omega)⟩
        · right
          rw [g2, hm2 k f (by omega) f1]
  obtain ⟨f, f1, f2, f3⟩ := key (2 ^ T 0 0) (Nat.le_refl _)
  have hC : dn_X11_fewest (nI (T 0 0)) (nI (T 1 0)) b e l = some (nI f) := by
    unfold dn_X11_fewest
    rw [c_dealing T hw b hb l hl, Option.bind_some]
    have : gn_X11_fewest_0 (nI (T 0 0)) (nI (T 1 0)) b e l (nI (dlK T (T 1 0))) (nI (dlK T (T 1 0))) 0 = _ := f2
    rw [this, gq_X11_fewest_0, c_partsCount (by omega), Option.bind_some, if_pos (nI_le (Nat.le_refl _) (by omega))]
  have hM : dn_X12_fewest s = some (nI f, 0) := by
    rcases f3 with ⟨g1, g2, g3⟩ | g2
    · have := g3 _ hd
      rw [hokd] at this; cases this
    · have : dn_X12_fewest s = gn_X12_fewest_0 s (nI f) (nI (2 ^ T 0 0)) 0 := g2
      rw [this, gq_X12_fewest_0, m_pc T hw s hs, if_pos (nI_le (Nat.le_refl _) (by omega))]
  exact ⟨_, hC, _, hM, rfl⟩
