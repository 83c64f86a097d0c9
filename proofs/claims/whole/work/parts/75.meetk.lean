/-! ===== pure rows: who must be which; which meetings are false ===== -/
/-- the model's three, after those below k -/
def msK (A B : Nat → Nat) (N v : Nat) : Nat → Nat × Nat × Bool
  | 0 => (mtK A B N, mtK A B N, false)
  | k + 1 => if adn k (mtK A B N) = 0 ∧ k.testBit v = true ∧ clK A B N k = 0 then ((msK A B N v k).1 &&& k, adn (msK A B N v k).2.1 k, true) else msK A B N v k
theorem vld_iff {A B : Nat → Nat} {N v k : Nat} : vld A B N v k ↔ adn k (mtK A B N) = 0 ∧ k.testBit v = true ∧ clK A B N k = 0 := by
  unfold vld
  rw [sub_adn, prp_mt]
  constructor
  · rintro ⟨a, b, c⟩; exact ⟨a, c, b⟩
  · rintro ⟨a, b, c⟩; exact ⟨a, c, b⟩
theorem msK_bit {A B : Nat → Nat} {N v p : Nat} : ∀ k, ((msK A B N v k).1.testBit p = true ↔ (mtK A B N).testBit p = true ∧ ∀ Q, Q < k → vld A B N v Q → Q.testBit p = true) ∧ ((msK A B N v k).2.1.testBit p = true ↔ (mtK A B N).testBit p = true ∧ ∀ Q, Q < k → vld A B N v Q → Q.testBit p = false) ∧ ((msK A B N v k).2.2 = true ↔ ∃ Q, Q < k ∧ vld A B N v Q)
  | 0 => by
    refine ⟨⟨fun h => ⟨h, fun Q hQ => by omega⟩, fun h => h.1⟩, ⟨fun h => ⟨h, fun Q hQ => by omega⟩, fun h => h.1⟩, ⟨fun h => ?_, ?_⟩⟩
    · cases h
    · rintro ⟨Q, hQ, _⟩; omega
  | k + 1 => by
    obtain ⟨a, b, c⟩ := msK_bit (A := A) (B := B) (N := N) (v := v) (p := p) k
    have e : msK A B N v (k + 1) = if adn k (mtK A B N) = 0 ∧ k.testBit v = true ∧ clK A B N k = 0 then ((msK A B N v k).1 &&& k, adn (msK A B N v k).2.1 k, true) else msK A B N v k := rfl
    rw [e]
    by_cases h : adn k (mtK A B N) = 0 ∧ k.testBit v = true ∧ clK A B N k = 0
    · rw [if_pos h]
      have hv := vld_iff.mpr h
      refine ⟨?_, ?_, ⟨fun _ => ⟨k, by omega, hv⟩, fun _ => rfl⟩⟩
      · show ((msK A B N v k).1 &&& k).testBit p = true ↔ _
        rw [Nat.testBit_and, Bool.and_eq_true, a]
        constructor
        · rintro ⟨⟨h1, h2⟩, h3⟩
          refine ⟨h1, fun Q hQ hq => ?_⟩
          by_cases e2 : Q = k
          · rw [e2]; exact h3
          · exact h2 Q (by omega) hq
        · rintro ⟨h1, h2⟩
          exact ⟨⟨h1, fun Q hQ => h2 Q (by omega)⟩, h2 k (by omega) hv⟩
      · show (adn (msK A B N v k).2.1 k).testBit p = true ↔ _
        rw [adn_bit, Bool.and_eq_true, b]
        constructor
        · rintro ⟨⟨h1, h2⟩, h3⟩
          refine ⟨h1, fun Q hQ hq => ?_⟩
          by_cases e2 : Q = k
          · rw [e2]; simpa using h3
          · exact h2 Q (by omega) hq
        · rintro ⟨h1, h2⟩
          refine ⟨⟨h1, fun Q hQ => h2 Q (by omega)⟩, ?_⟩
          rw [h2 k (by omega) hv]; rfl
    · rw [if_neg h]
      have hn : ¬ vld A B N v k := fun x => h (vld_iff.mp x)
      have hx : ∀ (R : Nat → Prop), (∀ Q, Q < k + 1 → vld A B N v Q → R Q) ↔ ∀ Q, Q < k → vld A B N v Q → R Q := fun R => ⟨fun f Q hQ => f Q (by omega), fun f Q hQ hq => by
        by_cases e2 : Q = k
        · rw [e2] at hq; exact absurd hq hn
        · exact f Q (by omega) hq⟩
      refine ⟨?_, ?_, ?_⟩
      · rw [hx]; exact a
      · rw [hx]; exact b
      · rw [c]
        constructor
        · rintro ⟨Q, hQ, hq⟩; exact ⟨Q, by omega, hq⟩
        · rintro ⟨Q, hQ, hq⟩
          by_cases e2 : Q = k
          · rw [e2] at hq; exact absurd hq hn
          · exact ⟨Q, by omega, hq⟩
theorem m_mustL {A B : Nat → Nat} {N v : Nat} {ta : Nat → Int32} (h : octO A B N ta) (hN : ∀ i, i < N → A i < 10 ∧ B i < 10) (hN2 : N ≤ 20) (hv : v < 10) (p1 a b c d e : Int32) : gn_X12_must_0 ta p1 (nI (2 ^ v)) (nI (mtK A B N)) (nI (mtK A B N)) 0 0 a b c d e (nI N) (nI (mtK A B N)) = some (if (msK A B N v (mtK A B N + 1)).2.2 = true then (if p1 = 0 then nI (msK A B N v (mtK A B N + 1)).1 else nI (msK A B N v (mtK A B N + 1)).2.1) else -1, a, b, c, d, e, nI N, nI (mtK A B N)) := by
  have hM := mtK_lt (n := 10) N hN
  have key := pz_fun (fun k (x : Nat × Nat × Bool) => gn_X12_must_0 ta p1 (nI (2 ^ v)) (nI x.1) (nI x.2.1) (b2i x.2.2) (nI k) a b c d e (nI N) (nI (mtK A B N))) (msK A B N v) (mtK A B N + 1) (by
    intro k hk
    show gn_X12_must_0 _ _ _ _ _ _ _ _ _ _ _ _ _ _ = gn_X12_must_0 _ _ _ _ _ _ _ _ _ _ _ _ _ _
    have e : msK A B N v (k + 1) = if adn k (mtK A B N) = 0 ∧ k.testBit v = true ∧ clK A B N k = 0 then ((msK A B N v k).1 &&& k, adn (msK A B N v k).2.1 k, true) else msK A B N v k := rfl
    have hc := clK_lt A B N k
    have hp := pz_p2l hN2
    have ha := adn_le k (mtK A B N)
    have hb : k &&& 2 ^ v ≤ k := Nat.and_le_left
    have hb2 : (k &&& 2 ^ v = 0) = ¬ k.testBit v = true := by
      apply propext
      constructor
      · intro h1 h2
        have := congrArg (fun x => Nat.testBit x v) h1
        simp [Nat.testBit_and, h2, Nat.testBit_two_pow_self] at this
      · intro h1
        apply Nat.eq_of_testBit_eq
        intro i
        rw [Nat.testBit_and, Nat.zero_testBit]
        cases c1 : k.testBit i with
        | false => rfl
        | true =>
          cases c2 : (2 ^ v).testBit i with
          | false => rfl
          | true =>
            rw [pz_bit2] at c2
            rw [c2] at h1
            exact absurd c1 h1
    rw [gq_X12_must_0, if_neg (nI_nlt (by omega) (by omega)), pz_andn, pz_and, m_clashes h hN hN2 (by omega), Option.bind_some, nI_1, pz_and, pz_andn, e]
    simp only [pz_e0 (show adn k (mtK A B N) < 2 ^ 31 by omega), pz_e0 (show clK A B N k < 2 ^ 31 by omega), pz_e0 (show k &&& 2 ^ v < 2 ^ 31 by omega), hb2]
    by_cases c1 : adn k (mtK A B N) = 0
    · by_cases c2 : k.testBit v = true
      · by_cases c3 : clK A B N k = 0
        · simp [c1, c2, c3, b2i]
        · simp [c1, c2, c3]
      · simp [c1, c2]
    · simp [c1]) (mtK A B N + 1) (Nat.le_refl _)
  have key' : gn_X12_must_0 ta p1 (nI (2 ^ v)) (nI (mtK A B N)) (nI (mtK A B N)) 0 0 a b c d e (nI N) (nI (mtK A B N)) = gn_X12_must_0 ta p1 (nI (2 ^ v)) (nI (msK A B N v (mtK A B N + 1)).1) (nI (msK A B N v (mtK A B N + 1)).2.1) (b2i (msK A B N v (mtK A B N + 1)).2.2) (nI (mtK A B N + 1)) a b c d e (nI N) (nI (mtK A B N)) := key
  rw [key', gq_X12_must_0, if_pos (nI_lt (by omega) (by omega))]
  simp only [pz_b0]
  cases (msK A B N v (mtK A B N + 1)).2.2 with
  | false => rfl
  | true =>
    rw [if_neg (by decide), if_pos rfl]
    split <;> rfl
theorem ct_pos {P : Nat → Bool} {n k : Nat} (h : k < n) (hk : P k = true) : ct P n ≠ 0 := by
  induction n with
  | zero => omega
  | succ n ih =>
    rw [ct_s]
    by_cases c : k = n
    · rw [← c, hk]; simp
    · have := ih (by omega)
      omega
theorem ct_posE {P : Nat → Bool} : ∀ {n : Nat}, ct P n ≠ 0 → ∃ k, k < n ∧ P k = true
  | 0, h => absurd rfl h
  | n + 1, h => by
    rw [ct_s] at h
    by_cases c : P n = true
    · exact ⟨n, by omega, c⟩
    · rw [if_neg c, Nat.add_zero] at h
      obtain ⟨k, h1, h2⟩ := ct_posE h
      exact ⟨k, by omega, h2⟩
/-- the class's bound -/
theorem c_bound {A B : Nat → Nat} {N : Nat} (hN : ∀ i, i < N → A i < 10 ∧ B i < 10) {nr : Nat → Int32} (hnr : nearO A B N nr) (ls os p1 : Int32) (hM0 : mtK A B N ≠ 0) : ∃ v, v < 10 ∧ nI (mtK A B N) &&& -(nI (mtK A B N)) = nI (2 ^ v) ∧ (mtK A B N).testBit v = true ∧ ∃ l' o', dn_X4_bound (nI (mtK A B N)) ls os nr p1 = some (if (msK A B N v (mtK A B N + 1)).2.2 = true then (if p1 = 0 then nI (msK A B N v (mtK A B N + 1)).2.1 else nI (msK A B N v (mtK A B N + 1)).1) else -1, l', o') := by
  have hM := mtK_lt (n := 10) N hN
  obtain ⟨v, v1, v2, v3, v4⟩ := c_low (show mtK A B N < 1024 by omega) (by omega)
  refine ⟨v, v1, v2, v3, ?_⟩
  obtain ⟨l1, o1, g1⟩ := c_ways (n := 10) (by omega) hN hnr ls os
  obtain ⟨like, oth, s1, s2, s3, s4⟩ := c_spreadF (n := 10) (by omega) hN hnr v1
  have hct : wyC A B N 10 (mtK A B N) ≤ 1024 := ct_le _ (2 ^ 10)
  unfold dn_X4_bound
  rw [if_neg (show ¬ nI (mtK A B N) = 0 by rw [pz_e0 (by omega)]; exact hM0), g1, Option.bind_some, v2, s1, Option.bind_some]
  simp only [pz_e0 (show wyC A B N 10 (mtK A B N) < 2 ^ 31 by omega)]
  have hany : (msK A B N v (mtK A B N + 1)).2.2 = true ↔ wyC A B N 10 (mtK A B N) ≠ 0 := by
    rw [(msK_bit (p := 0) _).2.2]
    constructor
    · rintro ⟨Q, hQ, hq⟩
      exact ct_pos (k := Q) (by omega) (wyB_iff.mpr ⟨hq.1, hq.2.1⟩)
    · intro h
      obtain ⟨Q, hQ, hq⟩ := ct_posE h
      obtain ⟨w1, w2⟩ := wyB_iff.mp hq
      obtain ⟨Q', hQ'⟩ := vld_ex v3 w1 w2
      exact ⟨Q', by have := sub_le hQ'.1; omega, hQ'⟩
  by_cases c : wyC A B N 10 (mtK A B N) = 0
  · rw [if_pos c, if_neg (fun x => hany.mp x c)]
    exact ⟨_, _, rfl⟩
  · rw [if_neg c, if_pos (hany.mpr c)]
    obtain ⟨Q0, hQ0, hq0⟩ := (msK_bit (p := 0) _).2.2.mp (hany.mpr c)
    have hall : ∀ (R : Nat → Prop), (∀ Q, Q < mtK A B N + 1 → vld A B N v Q → R Q) ↔ ∀ Q, vld A B N v Q → R Q := fun R => ⟨fun f Q hq => f Q (by have := sub_le hq.1; omega) hq, fun f Q _ hq => f Q hq⟩
    have el : like = (msK A B N v (mtK A B N + 1)).1 := by
      apply Nat.eq_of_testBit_eq
      intro p
      apply Bool.eq_iff_iff.mpr
      rw [must_like s2 v3 hq0 p, (msK_bit _).1, hall]
    have eo : oth = (msK A B N v (mtK A B N + 1)).2.1 := by
      apply Nat.eq_of_testBit_eq
      intro p
      apply Bool.eq_iff_iff.mpr
      rw [must_oth s2 v3 hq0 p, (msK_bit _).2.1, hall]
    rw [← el, ← eo]
    refine ⟨nI like, nI oth, ?_⟩
    split <;> rfl
