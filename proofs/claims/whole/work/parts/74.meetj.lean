/-! ===== pure rows: pairs who met: both sides' answers ===== -/
def clK (A B : Nat → Nat) (N Q : Nat) : Nat := bs (fun i => Q.testBit (A i) == Q.testBit (B i)) N
def octO (A B : Nat → Nat) (N : Nat) (ta : Nat → Int32) : Prop := ∀ i, i < N → dn_X12_octet ta ((2 : Int32) * nI i) = some (nI (A i)) ∧ dn_X12_octet ta ((2 : Int32) * nI i + 1) = some (nI (B i))
theorem m_clashes {A B : Nat → Nat} {N : Nat} {ta : Nat → Int32} (h : octO A B N ta) (hN : ∀ i, i < N → A i < 10 ∧ B i < 10) (hN2 : N ≤ 20) {Q : Nat} (hQ : Q < 2 ^ 31) : dn_X12_clashes (nI N) ta (nI Q) = some (nI (clK A B N Q)) := by
  have key := pz_fun (fun k (a : Nat) => gn_X12_clashes_0 (nI N) ta (nI Q) (nI a) (nI k)) (bs (fun i => Q.testBit (A i) == Q.testBit (B i))) N (by
    intro k hk
    show gn_X12_clashes_0 _ _ _ _ _ = gn_X12_clashes_0 _ _ _ _ _
    have hN1 := hN k hk
    rw [gq_X12_clashes_0, if_neg (nI_ge hk (by omega)), (h k hk).1, Option.bind_some, m_has hQ (by omega), Option.bind_some, (h k hk).2, Option.bind_some, m_has hQ (by omega), Option.bind_some, ← bs_stepN (show k < 32 by omega), nI_1, pz_or0]
    simp only [pz_bb, beq_iff_eq]
    split <;> rfl) N (Nat.le_refl _)
  have key' : dn_X12_clashes (nI N) ta (nI Q) = gn_X12_clashes_0 (nI N) ta (nI Q) (nI (clK A B N Q)) (nI N) := key
  rw [key', gq_X12_clashes_0, if_pos (nI_le (Nat.le_refl _) (by omega))]
theorem c_broken {A B : Nat → Nat} {N : Nat} {f se : Nat → Int32} (h : ∀ i, i < N → f i = nI (A i) ∧ se i = nI (B i)) (hN : ∀ i, i < N → A i < 10 ∧ B i < 10) (hN2 : N ≤ 20) {Q : Nat} (hQ : Q < 2 ^ 31) : dn_X4_brokenBy (nI N) f se (nI Q) = some (nI (clK A B N Q)) := by
  have key := pz_fun (fun k (a : Nat) => gn_X4_brokenBy_0 (nI N) f se (nI Q) (nI a) (nI k)) (bs (fun i => Q.testBit (A i) == Q.testBit (B i))) N (by
    intro k hk
    show gn_X4_brokenBy_0 _ _ _ _ _ _ = gn_X4_brokenBy_0 _ _ _ _ _ _
    have hN1 := hN k hk
    rw [gq_X4_brokenBy_0, if_neg (nI_ge hk (by omega)), inb_nI (show k < 20 by omega) (by omega), if_pos rfl, if_pos rfl, nI_clamp (by omega), (h k hk).1, (h k hk).2, pz_bit hQ (by omega), pz_bit hQ (by omega), ← bs_stepN (show k < 32 by omega), nI_1]
    simp only [pz_bb, beq_iff_eq]
    split <;> rfl) N (Nat.le_refl _)
  have key' : dn_X4_brokenBy (nI N) f se (nI Q) = gn_X4_brokenBy_0 (nI N) f se (nI Q) (nI (clK A B N Q)) (nI N) := key
  rw [key', gq_X4_brokenBy_0, if_pos (nI_le (Nat.le_refl _) (by omega))]
theorem clK_lt (A B : Nat → Nat) (N Q : Nat) : clK A B N Q < 2 ^ N := bs_lt _ _
theorem clK_0 {A B : Nat → Nat} {N Q : Nat} : clK A B N Q = 0 ↔ ∀ i, i < N → Q.testBit (A i) ≠ Q.testBit (B i) := by
  constructor
  · intro h i hi hx
    have := bs_bit (fun i => Q.testBit (A i) == Q.testBit (B i)) N i
    rw [show bs (fun i => Q.testBit (A i) == Q.testBit (B i)) N = 0 from h, Nat.zero_testBit, decide_eq_true hi, hx] at this
    simp at this
  · intro h
    apply Nat.eq_of_testBit_eq
    intro i
    rw [Nat.zero_testBit]
    show (bs _ N).testBit i = false
    rw [bs_bit]
    by_cases c : i < N
    · have := h i c
      simp [this]
    · simp [c]
theorem prp_mt {A B : Nat → Nat} {N Q : Nat} : prp A B N (mtK A B N) Q ↔ clK A B N Q = 0 := by
  rw [clK_0]
  constructor
  · intro h i hi
    exact h i hi ((mtK_bit N).mpr ⟨i, hi, Or.inl rfl⟩)
  · intro h i hi _
    exact h i hi
theorem sub_adn {Q M : Nat} : sub Q M ↔ adn Q M = 0 := by
  constructor
  · intro h
    apply Nat.eq_of_testBit_eq
    intro i
    rw [adn_bit, Nat.zero_testBit]
    cases c : Q.testBit i with
    | false => rfl
    | true => rw [h i c]; rfl
  · intro h i hi
    have := congrArg (fun x => Nat.testBit x i) h
    simp only [adn_bit, hi, Nat.zero_testBit, Bool.true_and] at this
    simpa using this
theorem adn_le (a b : Nat) : adn a b ≤ a := sub_le (fun i h => by rw [adn_bit, Bool.and_eq_true] at h; exact h.1)
theorem wy_m {A B : Nat → Nat} {N n : Nat} (hM : mtK A B N < 2 ^ n) : wyC A B N n (mtK A B N) = ct (fun Q => decide (adn Q (mtK A B N) = 0) && decide (clK A B N Q = 0)) (mtK A B N + 1) := by
  have hb : ∀ Q, wyB A B N (mtK A B N) Q = (decide (adn Q (mtK A B N) = 0) && decide (clK A B N Q = 0)) := by
    intro Q
    apply Bool.eq_iff_iff.mpr
    rw [wyB_iff, Bool.and_eq_true, decide_eq_true_iff, decide_eq_true_iff, sub_adn, prp_mt]
  have hgo : ∀ (P : Nat → Bool) (a b : Nat), a ≤ b → (∀ k, a ≤ k → P k = false) → ct P b = ct P a := by
    intro P a b hab hP
    induction b with
    | zero => rw [show a = 0 from by omega]
    | succ b ih =>
      by_cases c : a = b + 1
      · rw [c]
      · rw [ct_s, ih (by omega), hP b (by omega)]; rfl
  unfold wyC
  rw [ct_congr (2 ^ n) (fun k _ => hb k)]
  apply hgo _ _ _ hM
  intro k hk
  have : adn k (mtK A B N) ≠ 0 := fun h => by
    have := sub_le (sub_adn.mpr h)
    omega
  simp [this]
theorem m_meetL {A B : Nat → Nat} {N : Nat} {ta : Nat → Int32} (h : octO A B N ta) (hN : ∀ i, i < N → A i < 10 ∧ B i < 10) (hN2 : N ≤ 20) (a b c d e : Int32) : gn_X12_meet_0 ta 0 0 a b c d e (nI N) (nI (mtK A B N)) = some (nI (wyC A B N 10 (mtK A B N)), a, b, c, d, e, nI N, nI (mtK A B N)) := by
  have hM := mtK_lt (n := 10) N hN
  have key := pz_fun (fun k (x : Nat) => gn_X12_meet_0 ta (nI x) (nI k) a b c d e (nI N) (nI (mtK A B N))) (ct (fun Q => decide (adn Q (mtK A B N) = 0) && decide (clK A B N Q = 0))) (mtK A B N + 1) (by
    intro k hk
    show gn_X12_meet_0 _ _ _ _ _ _ _ _ _ _ = gn_X12_meet_0 _ _ _ _ _ _ _ _ _ _
    have hc := clK_lt A B N k
    have hp := pz_p2l hN2
    have ha := adn_le k (mtK A B N)
    rw [gq_X12_meet_0, if_neg (nI_nlt (by omega) (by omega)), pz_andn, m_clashes h hN hN2 (by omega), Option.bind_some, nI_1, nI_1, pz_a0, ct_s]
    simp only [pz_e0 (show adn k (mtK A B N) < 2 ^ 31 by omega), pz_e0 (show clK A B N k < 2 ^ 31 by omega)]
    by_cases c1 : adn k (mtK A B N) = 0
    · by_cases c2 : clK A B N k = 0
      · rw [if_pos c1, if_pos c2, if_pos (by simp [c1, c2])]
      · rw [if_pos c1, if_neg c2, if_neg (by simp [c2])]; rfl
    · rw [if_neg c1, if_neg (by simp [c1])]; rfl) (mtK A B N + 1) (Nat.le_refl _)
  have key' : gn_X12_meet_0 ta 0 0 a b c d e (nI N) (nI (mtK A B N)) = gn_X12_meet_0 ta (nI (wyC A B N 10 (mtK A B N))) (nI (mtK A B N + 1)) a b c d e (nI N) (nI (mtK A B N)) := by
    rw [wy_m hM]; exact key
  rw [key', gq_X12_meet_0, if_pos (nI_lt (by omega) (by omega))]
