/-! ===== pure rows: pairs who met, the class's ===== -/
theorem zI_nI (n : Nat) : zI (n : Int) = nI n := by
  apply Int32.toBitVec_inj.mp
  show BitVec.ofInt 32 (n : Int) = BitVec.ofNat 32 n
  exact BitVec.ofInt_natCast 32 n
theorem nI_neg {x : Nat} (h : x ≤ 4294967296) : -(nI x) = nI (4294967296 - x) := by
  have e : nI (4294967296 - x) = zI (-(x : Int)) := by
    rw [← zI_nI]
    show Int32.ofInt _ = Int32.ofInt _
    apply Int32.toBitVec_inj.mp
    show BitVec.ofInt 32 _ = BitVec.ofInt 32 _
    apply BitVec.eq_of_toInt_eq
    rw [BitVec.toInt_ofInt, BitVec.toInt_ofInt, show (((4294967296 - x : Nat)) : Int) = -(x : Int) + ((2 ^ 32 : Nat) : Int) from by omega, Int.add_bmod_right]
  rw [e, ← zI_nI, zI_neg]
set_option maxRecDepth 100000 in
theorem low_all : ∀ x, x < 1024 → 0 < x → ∃ k, k < 10 ∧ x &&& (4294967296 - x) = 2 ^ k ∧ x.testBit k = true ∧ ∀ j, j < k → x.testBit j = false := by decide +kernel
theorem c_low {x : Nat} (h : x < 1024) (h0 : 0 < x) : ∃ k, k < 10 ∧ nI x &&& -(nI x) = nI (2 ^ k) ∧ x.testBit k = true ∧ ∀ j, j < k → x.testBit j = false := by
  obtain ⟨k, k1, k2, k3, k4⟩ := low_all x h h0
  exact ⟨k, k1, by rw [nI_neg (by omega), pz_and, k2], k3, k4⟩
def nearO (A B : Nat → Nat) (N : Nat) (nr : Nat → Int32) : Prop := ∀ p, p < 10 → nr p = nI (nrK A B p N)
theorem naT_lt {A B : Nat → Nat} {N sd n : Nat} (h : ∀ i, i < N → A i < n ∧ B i < n) : naT A B N sd < 2 ^ n := naK_lt (fun p => nrK_lt N h) 10
theorem c_nearAny {A B : Nat → Nat} {N : Nat} {nr : Nat → Int32} (hnr : nearO A B N nr) {sd : Nat} (hsd : sd < 2 ^ 10) : dn_X4_nearAny nr (nI sd) = some (nI (naT A B N sd)) := by
  have key := pz_fun (fun k (a : Nat) => gn_X4_nearAny_0 nr (nI sd) (nI a) (nI k)) (naK (fun p => nrK A B p N) sd) 10 (by
    intro k hk
    show gn_X4_nearAny_0 _ _ _ _ = gn_X4_nearAny_0 _ _ (nI (naK (fun p => nrK A B p N) sd k ||| (if sd.testBit k = true then nrK A B k N else 0))) _
    rw [gq_X4_nearAny_0, if_neg (show ¬ (10 : Int32) ≤ nI k from nI_ge (b := 10) hk (by omega)), pz_bit (by omega) (by omega), inb_nI hk (by omega), if_pos rfl, nI_clamp (by omega), hnr k hk, pz_or, nI_1]
    simp only [pz_b1]
    by_cases c : sd.testBit k = true
    · rw [if_pos c, if_pos c]
    · rw [if_neg c, if_neg c, Nat.or_zero]) 10 (Nat.le_refl _)
  have key' : dn_X4_nearAny nr (nI sd) = gn_X4_nearAny_0 nr (nI sd) (nI (naT A B N sd)) (nI 10) := key
  rw [key', gq_X4_nearAny_0, if_pos (show (10 : Int32) ≤ nI 10 by decide)]
theorem or_sub_l {a b : Nat} : sub a (a ||| b) := fun i h => by rw [Nat.testBit_or, h]; rfl
theorem or_sub_r {a b : Nat} : sub b (a ||| b) := fun i h => by rw [Nat.testBit_or, h]; simp
theorem c_spreadF {A B : Nat → Nat} {N n : Nat} (hn : n ≤ 10) (hN : ∀ i, i < N → A i < n ∧ B i < n) {nr : Nat → Int32} (hnr : nearO A B N nr) {v : Nat} (hv : v < n) : ∃ like oth, dn_X4_spreadFrom nr (nI (2 ^ v)) = some (nI like, nI oth) ∧ sides A B N v like oth ∧ like < 2 ^ n ∧ oth < 2 ^ n := by
  have hN10 : ∀ i, i < N → A i < 10 ∧ B i < 10 := fun i hi => by have := hN i hi; omega
  have hp10 := pz_p2l hn
  have key : ∀ (q p b L O' : Nat), p + q = 21 → grown A B N v L O' → L < 2 ^ n → O' < 2 ^ n → b < 2 ^ n → ((b = L ∧ sub (naT A B N L) O' ∧ sub (naT A B N O') L) ∨ (p ≤ pcF 16 L ∧ b ≠ L)) → ∃ like oth, gn_X4_spreadFrom_0 nr (nI b) (nI p) (nI L) (nI O') = some (nI like, nI oth) ∧ sides A B N v like oth ∧ like < 2 ^ n ∧ oth < 2 ^ n := by
    intro q
    induction q with
    | zero =>
      intro p b L O' hp hg hL hO hb hx
      rcases hx with ⟨h1, h2, h3⟩ | ⟨h1, _⟩
      · refine ⟨L, O', ?_, grown_end hN10 hg h2 h3, hL, hO⟩
        rw [gq_X4_spreadFrom_0, if_pos (show (20 : Int32) < nI p from nI_lt (a := 20) (by omega) (by omega))]
      · have := pcF_le 16 L
        omega
    | succ q ih =>
      intro p b L O' hp hg hL hO hb hx
      have hlt : ¬ (20 : Int32) < nI p := nI_nlt (a := 20) (b := p) (by omega) (by omega)
      rcases hx with ⟨h1, h2, h3⟩ | ⟨h1, h4⟩
      · refine ⟨L, O', ?_, grown_end hN10 hg h2 h3, hL, hO⟩
        rw [gq_X4_spreadFrom_0, if_neg hlt, if_pos (by rw [h1])]
      · have l1 := naT_lt (sd := L) hN
        have l2 : O' ||| naT A B N L < 2 ^ n := Nat.or_lt_two_pow hO l1
        have l3 := naT_lt (sd := O' ||| naT A B N L) hN
        have l4 : L ||| naT A B N (O' ||| naT A B N L) < 2 ^ n := Nat.or_lt_two_pow hL l3
        rw [gq_X4_spreadFrom_0, if_neg hlt, if_neg (show ¬ nI b = nI L from by rw [pz_eq (by omega) (by omega)]; exact h4), c_nearAny hnr (by omega), Option.bind_some, pz_or, c_nearAny hnr (by omega), Option.bind_some, pz_or, nI_1]
        refine ih (p + 1) L _ _ (by omega) (grown_l hN10 (grown_o hN10 hg)) l4 l2 hL ?_
        by_cases c : L = L ||| naT A B N (O' ||| naT A B N L)
        · left
          refine ⟨c, ?_, ?_⟩
          · rw [← c]; exact or_sub_r
          · exact or_sub_r
        · right
          refine ⟨?_, c⟩
          have := pc_sub 16 L (L ||| naT A B N (O' ||| naT A B N L)) (by omega) (by omega) (fun i h => or_sub_l i h)
          have h5 : ¬ pcF 16 (L ||| naT A B N (O' ||| naT A B N L)) ≤ pcF 16 L := fun x => c (this.2 x)
          omega
  have h0 : grown A B N v (2 ^ v) 0 := by
    refine ⟨Nat.testBit_two_pow_self, fun S hS hv' => ⟨fun p hp => ?_, fun p hp => by rw [Nat.zero_testBit] at hp; cases hp⟩, fun S Q hS hv' hQ => ⟨fun p hp => ?_, fun p hp => by rw [Nat.zero_testBit] at hp; cases hp⟩⟩
    · rw [pz_bit2] at hp; rw [← hp]; exact hv'
    · rw [pz_bit2] at hp; rw [← hp]
  have h1 : (2 : Nat) ^ v < 2 ^ n := pz_p2 hv
  have h2 : 0 < 2 ^ v := Nat.two_pow_pos v
  exact key 21 0 0 (2 ^ v) 0 rfl h0 h1 (by omega) (by omega) (Or.inr ⟨Nat.zero_le _, by omega⟩)
theorem mt_clsd (A B : Nat → Nat) (N : Nat) : clsd A B N (mtK A B N) := fun i hi => by
  rw [(mtK_bit N).mpr ⟨i, hi, Or.inl rfl⟩, (mtK_bit N).mpr ⟨i, hi, Or.inr rfl⟩]
theorem clsd_adn {A B : Nat → Nat} {N S C : Nat} (h1 : clsd A B N S) (h2 : clsd A B N C) : clsd A B N (adn S C) := fun i hi => by
  rw [adn_bit, adn_bit, h1 i hi, h2 i hi]
theorem c_ways {A B : Nat → Nat} {N n : Nat} (hn : n ≤ 10) (hN : ∀ i, i < N → A i < n ∧ B i < n) {nr : Nat → Int32} (hnr : nearO A B N nr) (ls os : Int32) : ∃ l' o', dn_X4_waysToBe (nI (mtK A B N)) ls os nr = some (nI (wyC A B N n (mtK A B N)), l', o') := by
  have hp10 := pz_p2l hn
  have hmt := mtK_lt (n := n) N hN
  have key : ∀ (j k w S : Nat) (ls os : Int32), k + j = 10 → clsd A B N S → S < 2 ^ n → (∀ i, i < k → S.testBit i = false) → w * wyC A B N n S = wyC A B N n (mtK A B N) → ∃ l' o', gn_X4_waysToBe_0 nr (nI w) (nI S) (nI k) ls os = some (nI (wyC A B N n (mtK A B N)), l', o') := by
    intro j
    induction j with
    | zero =>
      intro k w S ls os hk hS hSn hb hw
      have e0 : S = 0 := by
        apply Nat.eq_of_testBit_eq
        intro i
        rw [Nat.zero_testBit]
        by_cases c : i < k
        · exact hb i c
        · exact Nat.testBit_lt_two_pow (Nat.lt_of_lt_of_le hSn (pz_p2l (by omega)))
      subst e0
      rw [wy_0, Nat.mul_one] at hw
      rw [gq_X4_waysToBe_0, if_pos (show (10 : Int32) ≤ nI k from nI_le (a := 10) (by omega) (by omega)), ← hw]
      exact ⟨_, _, rfl⟩
    | succ j ih =>
      intro k w S ls os hk hS hSn hb hw
      rw [gq_X4_waysToBe_0, if_neg (show ¬ (10 : Int32) ≤ nI k from nI_ge (b := 10) (by omega) (by omega))]
      simp only [pz_e0 (show S < 2 ^ 31 by omega)]
      by_cases c : S = 0
      · subst c
        rw [wy_0, Nat.mul_one] at hw
        rw [if_pos rfl, ← hw]
        exact ⟨_, _, rfl⟩
      · obtain ⟨v, v1, v2, v3, v4⟩ := c_low (show S < 1024 by omega) (by omega)
        have hvn : v < n := by
          apply Classical.byContradiction
          intro hc
          rw [Nat.testBit_lt_two_pow (Nat.lt_of_lt_of_le hSn (pz_p2l (show n ≤ v by omega)))] at v3
          cases v3
        obtain ⟨like, oth, s1, s2, s3, s4⟩ := c_spreadF hn hN hnr hvn
        have hor : like ||| oth < 2 ^ n := Nat.or_lt_two_pow s3 s4
        have hand : like &&& oth < 2 ^ n := Nat.and_lt_two_pow _ s4
        rw [if_neg c, v2, s1, Option.bind_some, pz_and, pz_or, pz_andn, show (2 : Int32) = nI 2 from rfl, pk_mul, nI_1]
        simp only [pz_e0 (show like &&& oth < 2 ^ 31 by omega)]
        by_cases c2 : like &&& oth = 0
        · rw [if_pos c2]
          refine ih (k + 1) (w * 2) (adn S (like ||| oth)) _ _ (by omega) (clsd_adn hS (sides_clsd s2)) (adn_lt hSn) (fun i hi => ?_) ?_
          · rw [adn_bit]
            have hkv : k ≤ v := by
              apply Classical.byContradiction
              intro hc
              rw [hb v (by omega)] at v3; cases v3
            by_cases e1 : i = v
            · subst e1
              rw [Nat.testBit_or, s2.1]; simp
            · rw [v4 i (by omega)]; rfl
          · rw [Nat.mul_assoc, ← wy_split s2 hS v3 hSn c2]
            exact hw
        · rw [if_neg c2]
          have h0 : wyC A B N n (mtK A B N) = 0 := by
            rw [← hw, wy_no s2 hS v3 c2, Nat.mul_zero]
          rw [h0]
          exact ⟨_, _, rfl⟩
  exact key 10 0 1 (mtK A B N) ls os rfl (mt_clsd A B N) hmt (fun i hi => by omega) (Nat.one_mul _)
/-! a way through v, and by whom all are so -/
def vld (A B : Nat → Nat) (N v Q : Nat) : Prop := sub Q (mtK A B N) ∧ prp A B N (mtK A B N) Q ∧ Q.testBit v = true
theorem vld_ex {A B : Nat → Nat} {N v Q : Nat} (hv : (mtK A B N).testBit v = true) (h1 : sub Q (mtK A B N)) (h2 : prp A B N (mtK A B N) Q) : ∃ Q', vld A B N v Q' := by
  cases c : Q.testBit v with
  | true => exact ⟨Q, h1, h2, c⟩
  | false =>
    refine ⟨adn (mtK A B N) Q, fun p hp => ?_, fun i hi hm => ?_, by rw [adn_bit, hv, c]; rfl⟩
    · rw [adn_bit, Bool.and_eq_true] at hp; exact hp.1
    · have := h2 i hi hm
      rw [adn_bit, adn_bit, hm, ← mt_clsd A B N i hi, hm]
      cases c1 : Q.testBit (A i) <;> cases c2 : Q.testBit (B i) <;> simp_all
theorem vld_flip {A B : Nat → Nat} {N v like oth Q : Nat} (hs : sides A B N v like oth) (hQ : vld A B N v Q) : vld A B N v (adn Q (adn Q (like ||| oth)) ||| adn (adn (mtK A B N) (like ||| oth)) Q) ∧ ∀ p, (like ||| oth).testBit p = false → (mtK A B N).testBit p = true → (adn Q (adn Q (like ||| oth)) ||| adn (adn (mtK A B N) (like ||| oth)) Q).testBit p = !(Q.testBit p) := by
  have hbit : ∀ p, (adn Q (adn Q (like ||| oth)) ||| adn (adn (mtK A B N) (like ||| oth)) Q).testBit p = if (like ||| oth).testBit p = true then Q.testBit p else ((mtK A B N).testBit p && !(Q.testBit p)) := by
    intro p
    rw [Nat.testBit_or, adn_bit, adn_bit, adn_bit, adn_bit]
    cases Q.testBit p <;> cases (like ||| oth).testBit p <;> cases (mtK A B N).testBit p <;> rfl
  obtain ⟨h1, h2, h3⟩ := hQ
  have hvc : (like ||| oth).testBit v = true := by rw [Nat.testBit_or, hs.1]; rfl
  refine ⟨⟨fun p hp => ?_, fun i hi hm => ?_, by rw [hbit, if_pos hvc]; exact h3⟩, fun p hp hm => ?_⟩
  · rw [hbit] at hp
    by_cases c : (like ||| oth).testBit p = true
    · rw [if_pos c] at hp; exact h1 p hp
    · rw [if_neg c, Bool.and_eq_true] at hp; exact hp.1
  · have := h2 i hi hm
    have hc := sides_clsd hs i hi
    rw [hbit, hbit, ← hc, ← mt_clsd A B N i hi, hm]
    by_cases c : (like ||| oth).testBit (A i) = true
    · rw [if_pos c, if_pos c]; exact this
    · rw [if_neg c, if_neg c]
      cases c1 : Q.testBit (A i) <;> cases c2 : Q.testBit (B i) <;> simp_all
  · rw [hbit, if_neg (by rw [hp]; decide), hm]; rfl
theorem must_like {A B : Nat → Nat} {N v like oth : Nat} (hs : sides A B N v like oth) (hv : (mtK A B N).testBit v = true) {Q0 : Nat} (h0 : vld A B N v Q0) (p : Nat) : like.testBit p = true ↔ (mtK A B N).testBit p = true ∧ ∀ Q, vld A B N v Q → Q.testBit p = true := by
  have hsub := hs.2.2.1 _ (mt_clsd A B N) hv
  constructor
  · intro h
    refine ⟨hsub.1 p h, fun Q hQ => ?_⟩
    rw [(hs.2.2.2 _ Q (mt_clsd A B N) hv hQ.2.1).1 p h]
    exact hQ.2.2
  · rintro ⟨h1, h2⟩
    cases c : like.testBit p with
    | true => rfl
    | false =>
      exfalso
      cases c2 : oth.testBit p with
      | true =>
        have e1 := (hs.2.2.2 _ Q0 (mt_clsd A B N) hv h0.2.1).2 p c2
        rw [h2 Q0 h0, h0.2.2] at e1
        cases e1
      | false =>
        obtain ⟨f1, f2⟩ := vld_flip hs h0
        have e1 := f2 p (by rw [Nat.testBit_or, c, c2]; rfl) h1
        rw [h2 _ f1, h2 Q0 h0] at e1
        cases e1
theorem must_oth {A B : Nat → Nat} {N v like oth : Nat} (hs : sides A B N v like oth) (hv : (mtK A B N).testBit v = true) {Q0 : Nat} (h0 : vld A B N v Q0) (p : Nat) : oth.testBit p = true ↔ (mtK A B N).testBit p = true ∧ ∀ Q, vld A B N v Q → Q.testBit p = false := by
  have hsub := hs.2.2.1 _ (mt_clsd A B N) hv
  constructor
  · intro h
    refine ⟨hsub.2 p h, fun Q hQ => ?_⟩
    rw [(hs.2.2.2 _ Q (mt_clsd A B N) hv hQ.2.1).2 p h, hQ.2.2]; rfl
  · rintro ⟨h1, h2⟩
    cases c : oth.testBit p with
    | true => rfl
    | false =>
      exfalso
      cases c2 : like.testBit p with
      | true =>
        have e1 := (hs.2.2.2 _ Q0 (mt_clsd A B N) hv h0.2.1).1 p c2
        rw [h2 Q0 h0, h0.2.2] at e1
        cases e1
      | false =>
        obtain ⟨f1, f2⟩ := vld_flip hs h0
        have e1 := f2 p (by rw [Nat.testBit_or, c, c2]; rfl) h1
        rw [h2 _ f1, h2 Q0 h0] at e1
        cases e1
