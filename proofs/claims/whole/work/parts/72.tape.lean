/-! ===== pure rows: the tape ===== -/
def sbT (o : Nat) : Int32 := (Int8.ofNat o).toInt32
set_option maxRecDepth 100000 in
theorem sb_and : ∀ o, o < 256 → sbT o &&& 255 = nI o := by decide +kernel
theorem i8_of (y : Int8) : sbT y.toBitVec.toNat = y.toInt32 := by
  unfold sbT
  congr 1
  apply Int8.toBitVec_inj.mp
  show BitVec.ofNat 8 _ = _
  rw [BitVec.ofNat_toNat]; simp
theorem nar_i8 (y : Int8) : vp_nar .byte y.toInt32 = sbT y.toBitVec.toNat := by
  rw [vp_nar_byte, i8_of]
  congr 1
  apply Int8.toBitVec_inj.mp
  rw [Int32.toBitVec_toInt8, Int8.toBitVec_toInt32]
  apply BitVec.eq_of_getLsbD_eq
  intro i hi
  rw [BitVec.getLsbD_signExtend, BitVec.getLsbD_signExtend]
  simp [hi, show i < 32 from by omega]
def tpS (by_ ta : Nat → Int32) : Prop := ∀ k, k < 940 → ∃ o, o < 256 ∧ by_ k = sbT o ∧ ta k = sbT o
theorem tp_shift (x : Int32) (s : Nat) (hs : s = 24 ∨ s = 16 ∨ s = 8 ∨ s = 0) : Int32.toInt8 ((x.toUInt32 >>> ((nI s : Int32).toUInt32 &&& Int32.toUInt32 31)).toInt32) = Int32.toInt8 (x >>> (nI s &&& 31)) := by
  have h1 : (((nI s : Int32).toUInt32 &&& Int32.toUInt32 31).toBitVec % 32).toNat = s := by
    rcases hs with h | h | h | h <;> subst h <;> decide
  have h2 := pz_sm s (by omega)
  apply Int8.toBitVec_inj.mp
  rw [Int32.toBitVec_toInt8, Int32.toBitVec_toInt8]
  apply BitVec.eq_of_getLsbD_eq
  intro i hi
  have e0 : i < 32 := by omega
  rw [BitVec.getLsbD_signExtend, BitVec.getLsbD_signExtend, if_pos e0, if_pos e0]
  congr 1
  show (x.toBitVec >>> (((nI s : Int32).toUInt32 &&& Int32.toUInt32 31).toBitVec % 32).toNat).getLsbD i = (x.toBitVec.sshiftRight ((nI s &&& 31).toBitVec.smod 32).toNat).getLsbD i
  rw [h1, h2, BitVec.getLsbD_ushiftRight, BitVec.getLsbD_sshiftRight]
  have e1 : ¬ 32 ≤ i := by omega
  have e2 : s + i < 32 := by omega
  simp [e1, e2]
theorem tp_upd {by_ ta : Nat → Int32} (h : tpS by_ ta) (k : Nat) (y : Int8) : tpS (upd by_ k (vp_nar .byte y.toInt32)) (upd ta k (vp_nar .byte y.toInt32)) := by
  intro j hj
  unfold upd
  by_cases c : j = k
  · simp only [c, if_true]
    have := y.toBitVec.isLt
    exact ⟨y.toBitVec.toNat, this, nar_i8 y, nar_i8 y⟩
  · simp only [c, if_false]
    exact h j hj
theorem tp_four {by_ ta : Nat → Int32} (h : tpS by_ ta) {L : Nat} (hL : L + 4 ≤ 940) (x : Int32) : ∃ b2 t2, dn_X9_addNumber (nI L) by_ x = some (b2, nI (L + 4)) ∧ dn_X12_four (nI L) ta x = some (t2, nI (L + 4)) ∧ tpS b2 t2 := by
  unfold dn_X9_addNumber dn_X12_four
  have st : ∀ (L : Nat) (s s' : Int32) (k : Nat) (b t : Nat → Int32), L < 940 → s = nI k → s' = s + (-8) → (k = 24 ∨ k = 16 ∨ k = 8 ∨ k = 0) → tpS b t → ∃ b2 t2, gn_X9_addNumber_0 x s b (nI L) = gn_X9_addNumber_0 x s' b2 (nI (L + 1)) ∧ gn_X12_four_0 x s t (nI L) = gn_X12_four_0 x s' t2 (nI (L + 1)) ∧ tpS b2 t2 := by
    intro L s s' k b t hL hs hs' hk hbt
    subst hs
    subst hs'
    have e0 : ¬ nI k < 0 := nI_pos (by omega)
    refine ⟨_, _, ?_, ?_, tp_upd hbt L (Int32.toInt8 (x >>> (nI k &&& 31)))⟩
    · rw [gq_X9_addNumber_0, if_neg e0, if_neg (show ¬ (940 : Int32) ≤ nI L from nI_ge (b := 940) hL (by omega)), inb_nI hL (by omega), if_pos rfl, nI_clamp (by omega), nI_1, tp_shift x k hk]
    · rw [gq_X12_four_0, if_neg e0, inb_nI hL (by omega), if_pos rfl, nI_clamp (by omega), nI_1]
  obtain ⟨b1, t1, a1, a2, a3⟩ := st L 24 16 24 by_ ta (by omega) rfl (by decide) (by omega) h
  obtain ⟨b2, t2, c1, c2, c3⟩ := st (L + 1) 16 8 16 b1 t1 (by omega) rfl (by decide) (by omega) a3
  obtain ⟨b3, t3, d1, d2, d3⟩ := st (L + 1 + 1) 8 0 8 b2 t2 (by omega) rfl (by decide) (by omega) c3
  obtain ⟨b4, t4, e1, e2, e3⟩ := st (L + 1 + 1 + 1) 0 (-8) 0 b3 t3 (by omega) rfl (by decide) (by omega) d3
  refine ⟨b4, t4, ?_, ?_, e3⟩
  · rw [a1, c1, d1, e1, gq_X9_addNumber_0, if_pos (by decide)]
  · rw [a2, c2, d2, e2, gq_X12_four_0, if_pos (by decide)]
theorem j_feed {by_ ta : Nat → Int32} (h : tpS by_ ta) {L : Nat} (hL : L ≤ 940) (x1 x2 x3 x4 x5 : Int32) : ∃ q1, dn_X11_feed (nI L) by_ x1 x2 x3 x4 x5 = some q1 ∧ ∃ q2, dn_X12_feed (nI L) ta x1 x2 x3 x4 x5 = some q2 ∧ q1.1 = q2.1 ∧ q2.2.1 = 0 ∧ ∃ L', L' ≤ 940 ∧ q1.2.2 = nI L' ∧ q2.2.2.2 = nI L' ∧ tpS q1.2.1 q2.2.2.1 := by
  unfold dn_X11_feed dn_X12_feed dn_X9_hasRoomFor
  rw [show (20 : Int32) = nI 20 from rfl, show (940 : Int32) = nI 940 from rfl, nI_add]
  by_cases c : L + 20 ≤ 940
  · obtain ⟨b1, t1, a1, a2, a3⟩ := tp_four h (L := L) (by omega) x1
    obtain ⟨b2, t2, c1, c2, c3⟩ := tp_four a3 (L := L + 4) (by omega) x2
    obtain ⟨b3, t3, d1, d2, d3⟩ := tp_four c3 (L := L + 4 + 4) (by omega) x3
    obtain ⟨b4, t4, e1, e2, e3⟩ := tp_four d3 (L := L + 4 + 4 + 4) (by omega) x4
    obtain ⟨b5, t5, f1, f2, f3⟩ := tp_four e3 (L := L + 4 + 4 + 4 + 4) (by omega) x5
    rw [if_neg (nI_nlt (a := 940) (b := L + 20) (by omega) (by omega)), if_pos (nI_le (b := 940) c (by omega)), Option.bind_some, if_pos rfl, a1, a2, Option.bind_some, Option.bind_some, c1, c2, Option.bind_some, Option.bind_some, d1, d2, Option.bind_some, Option.bind_some, e1, e2, Option.bind_some, Option.bind_some, f1, f2]
    exact ⟨_, rfl, _, rfl, rfl, rfl, L + 4 + 4 + 4 + 4 + 4, by omega, rfl, rfl, f3⟩
  · rw [if_pos (nI_lt (a := 940) (b := L + 20) (by omega) (by omega)), if_neg (nI_ge (a := 940) (b := L + 20) (by omega) (by omega))]
    exact ⟨_, rfl, _, rfl, rfl, rfl, L, hL, rfl, rfl, h⟩
theorem j_end {L : Nat} (hL : L ≤ 940) (x : Int32) : ∃ q1, dn_X11_end (nI L) x = some q1 ∧ ∃ q2, dn_X12_end (nI L) x = some q2 ∧ q1.1 = q2.1 ∧ q2.2.1 = 0 ∧ ∃ L', L' ≤ 940 ∧ q1.2 = nI L' ∧ q2.2.2 = nI L' := by
  unfold dn_X11_end dn_X12_end
  by_cases c : x < 0
  · rw [if_pos c, if_pos c]
    exact ⟨_, rfl, _, rfl, rfl, rfl, L, hL, rfl, rfl⟩
  · rw [if_neg c, if_neg c]
    by_cases c2 : x ≤ nI L
    · rw [if_pos c2, if_pos c2]
      rcases pz_ix x (n := L + 1) (by omega) with h | ⟨j, hj, rfl⟩
      · exact absurd c2 (pz_nle (n := L) (by omega) (h.resolve_left c))
      · exact ⟨_, rfl, _, rfl, rfl, rfl, j, by omega, rfl, rfl⟩
    · rw [if_neg c2, if_neg c2]
      exact ⟨_, rfl, _, rfl, rfl, rfl, L, hL, rfl, rfl⟩
/-- what the tape's octets are -/
theorem tp_oct {by_ ta : Nat → Int32} (h : tpS by_ ta) : ∃ O : Nat → Nat, ∀ k, k < 940 → O k < 256 ∧ by_ k = sbT (O k) ∧ ta k = sbT (O k) := by
  refine ⟨fun k => if c : k < 940 then (h k c).choose else 0, fun k hk => ?_⟩
  simp only [dif_pos hk]
  exact (h k hk).choose_spec
theorem m_octet {O : Nat → Nat} {ta : Nat → Int32} (h : ∀ k, k < 940 → O k < 256 ∧ ta k = sbT (O k)) {k : Nat} (hk : k < 940) : dn_X12_octet ta (nI k) = some (nI (O k)) := by
  unfold dn_X12_octet
  rw [inb_nI hk (by omega), if_pos rfl, nI_clamp (by omega), (h k hk).2, sb_and _ (h k hk).1]
