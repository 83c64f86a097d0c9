/-! ===== pure rows: is it a name; whose name ===== -/
theorem c_isName {O : Nat → Nat} {by_ : Nat → Int32} (h : ∀ k, k < 940 → O k < 256 ∧ by_ k = sbT (O k)) {L M p : Nat} (hL : L ≤ 940) {ps nu : Int32} {na : Int64} {to : Int32} (hc : cTk O L M p ps nu na to) : dn_X9_isName to (nI (tkA O L M p)) ps by_ = some (isN O L M p) := by
  unfold dn_X9_isName
  simp only [c_isWord h hL hc (show 0 < 11 by omega), c_isWord h hL hc (show 1 < 11 by omega), c_isWord h hL hc (show 2 < 11 by omega), c_isWord h hL hc (show 3 < 11 by omega), c_isWord h hL hc (show 4 < 11 by omega), c_isWord h hL hc (show 5 < 11 by omega), c_isWord h hL hc (show 6 < 11 by omega), c_isWord h hL hc (show 7 < 11 by omega), c_isWord h hL hc (show 8 < 11 by omega), c_isWord h hL hc (show 9 < 11 by omega), c_isWord h hL hc (show 10 < 11 by omega), Option.bind_some]
  by_cases c : tkK O L M p = 1
  · have t1 := (hc.2.1 c).1
    have hB : ∀ i, isW O L M p i = (tkW O L p == rvW i) := fun i => by unfold isW; rw [c]; rfl
    have hN : isN O L M p = (((((((((((true && !(tkW O L p == rvW 0)) && !(tkW O L p == rvW 1)) && !(tkW O L p == rvW 2)) && !(tkW O L p == rvW 3)) && !(tkW O L p == rvW 4)) && !(tkW O L p == rvW 5)) && !(tkW O L p == rvW 6)) && !(tkW O L p == rvW 7)) && !(tkW O L p == rvW 8)) && !(tkW O L p == rvW 9)) && !(tkW O L p == rvW 10)) := by
      unfold isN
      rw [c]; rfl
    simp only [hB]
    rw [hN, if_pos t1]
    cases (tkW O L p == rvW 0) with
    | true => simp
    | false =>
    cases (tkW O L p == rvW 1) with
    | true => simp
    | false =>
    cases (tkW O L p == rvW 2) with
    | true => simp
    | false =>
    cases (tkW O L p == rvW 3) with
    | true => simp
    | false =>
    cases (tkW O L p == rvW 4) with
    | true => simp
    | false =>
    cases (tkW O L p == rvW 5) with
    | true => simp
    | false =>
    cases (tkW O L p == rvW 6) with
    | true => simp
    | false =>
    cases (tkW O L p == rvW 7) with
    | true => simp
    | false =>
    cases (tkW O L p == rvW 8) with
    | true => simp
    | false =>
    cases (tkW O L p == rvW 9) with
    | true => simp
    | false =>
    cases (tkW O L p == rvW 10) with
    | true => simp
    | false => rfl
  · have hB : ∀ i, isW O L M p i = false := fun i => by unfold isW; rw [beq_eq_false_iff_ne.mpr c]; rfl
    have hN : isN O L M p = false := by unfold isN; rw [beq_eq_false_iff_ne.mpr c]; rfl
    rw [hN, if_neg (cTk_no (tkK_le O L M p) hc c)]
    simp only [hB]
    rfl
def resI (rs : Nat → Int64) : Prop := ∀ i, i < 11 → rs i = lN (n256 (rvW i))
theorem m_isName {O : Nat → Nat} {L M p : Nat} {mp mat mto : Int32} {mwo : Int64} {mnu : Int32} (hm : mTk O L M p mp mat mto mwo mnu) {rs : Nat → Int64} (hr : resI rs) : dn_X12_isName mto mwo rs = some (isN O L M p) := by
  have hk := tkK_le O L M p
  have st : ∀ e : Bool, (e = true → tkK O L M p = 1) → gn_X12_isName_0 mwo rs (b2i e) 0 = some (e && nnB (tkW O L p) 11) := by
    intro e he
    have key := pz_fun (fun k (x : Bool) => gn_X12_isName_0 mwo rs (b2i x) (nI k)) (fun k => e && nnB (tkW O L p) k) 11 (by
      intro k hk
      show gn_X12_isName_0 mwo rs (b2i (e && nnB (tkW O L p) k)) (nI k) = gn_X12_isName_0 mwo rs (b2i (e && (nnB (tkW O L p) k && !(tkW O L p == rvW k)))) (nI (k + 1))
      rw [gq_X12_isName_0, if_neg (show ¬ (11 : Int32) ≤ nI k from nI_ge (b := 11) hk (by omega)), nI_1]
      simp only [pz_b0]
      cases c : (e && nnB (tkW O L p) k) with
      | false =>
        rw [if_pos rfl]
        have : (e && (nnB (tkW O L p) k && !(tkW O L p == rvW k))) = false := by rw [← Bool.and_assoc, c]; rfl
        rw [this]; rfl
      | true =>
        have he2 : e = true := by
          cases e with
          | true => rfl
          | false => cases c
        have h2 := hm.2.2.1 (he he2)
        rw [if_neg (by decide), inb_nI (show k < 11 by omega) (by omega), if_pos rfl, nI_clamp (by omega), hr k hk, h2.2, ← Bool.and_assoc, c]
        by_cases x : tkW O L p = rvW k
        · rw [if_pos (by rw [x]), x, beq_self_eq_true]; rfl
        · rw [if_neg (fun z => x ((w256 (tkW_ok (he he2)).1 (rv_ok hk)).mp z)), beq_eq_false_iff_ne.mpr x]; rfl) 11 (Nat.le_refl _)
    have key' : gn_X12_isName_0 mwo rs (b2i (e && true)) 0 = gn_X12_isName_0 mwo rs (b2i (e && nnB (tkW O L p) 11)) (nI 11) := key
    rw [Bool.and_true] at key'
    rw [key', gq_X12_isName_0, if_pos (show (11 : Int32) ≤ nI 11 by decide)]
    simp only [pz_b0, pz_b1]
    cases (e && nnB (tkW O L p) 11) <;> rfl
  unfold dn_X12_isName
  rw [hm.2.1]
  simp only [pz_e1 (show tkK O L M p < 2 ^ 31 by omega)]
  by_cases c : tkK O L M p = 1
  · rw [if_pos c]
    refine (st true (fun _ => c)).trans ?_
    unfold isN; rw [c]; rfl
  · rw [if_neg c]
    refine (st false (fun x => by cases x)).trans ?_
    unfold isN; rw [beq_eq_false_iff_ne.mpr c]
def foI : Option Nat → Int32
  | some k => nI k
  | none => -1
theorem c_findP {n : Nat} (hn : n ≤ 10) (cn : Nat → Int64) (na : Int64) : dn_X10_findPerson (nI n) cn na = some (foI (fo (fun k => decide (cn k = na)) n)) := by
  have := pz_find (fun k => gn_X10_findPerson_0 (nI n) cn na (nI k)) (fun k => decide (cn k = na)) (fun k => nI k) (-1) n (fun k hk hp => by
    rw [gq_X10_findPerson_0, if_neg (nI_ge hk (by omega)), inb_nI (show k < 10 by omega) (by omega), if_pos rfl, nI_clamp (by omega), if_pos (by simpa using hp)]) (fun k hk hp => by
    rw [gq_X10_findPerson_0, if_neg (nI_ge hk (by omega)), inb_nI (show k < 10 by omega) (by omega), if_pos rfl, nI_clamp (by omega), if_neg (by simpa using hp), nI_1]) (by rw [gq_X10_findPerson_0, if_pos (nI_le (Nat.le_refl _) (by omega))])
  unfold dn_X10_findPerson
  refine Eq.trans this ?_
  cases fo (fun k => decide (cn k = na)) n <;> rfl
theorem c_findD {n : Nat} (hn : n ≤ 30) (cn : Nat → Int64) (na : Int64) : dn_X10_findDeal (nI n) cn na = some (foI (fo (fun k => decide (cn k = na)) n)) := by
  have := pz_find (fun k => gn_X10_findDeal_0 (nI n) cn na (nI k)) (fun k => decide (cn k = na)) (fun k => nI k) (-1) n (fun k hk hp => by
    rw [gq_X10_findDeal_0, if_neg (nI_ge hk (by omega)), inb_nI (show k < 30 by omega) (by omega), if_pos rfl, nI_clamp (by omega), if_pos (by simpa using hp)]) (fun k hk hp => by
    rw [gq_X10_findDeal_0, if_neg (nI_ge hk (by omega)), inb_nI (show k < 30 by omega) (by omega), if_pos rfl, nI_clamp (by omega), if_neg (by simpa using hp), nI_1]) (by rw [gq_X10_findDeal_0, if_pos (nI_le (Nat.le_refl _) (by omega))])
  unfold dn_X10_findDeal
  refine Eq.trans this ?_
  cases fo (fun k => decide (cn k = na)) n <;> rfl
theorem m_find {n off : Nat} (hn : off + n ≤ 80) (mn : Nat → Int64) (wo : Int64) : dn_X12_find wo mn (nI off) (nI n) = some (foI (fo (fun k => decide (mn (off + k) = wo)) n)) := by
  have := pz_find (fun k => gn_X12_find_0 wo mn (nI off) (nI n) (nI k)) (fun k => decide (mn (off + k) = wo)) (fun k => nI k) (-1) n (fun k hk hp => by
    rw [gq_X12_find_0, if_neg (nI_ge hk (by omega)), nI_add, inb_nI (show off + k < 80 by omega) (by omega), if_pos rfl, nI_clamp (by omega), if_pos (by simpa using hp)]) (fun k hk hp => by
    rw [gq_X12_find_0, if_neg (nI_ge hk (by omega)), nI_add, inb_nI (show off + k < 80 by omega) (by omega), if_pos rfl, nI_clamp (by omega), if_neg (by simpa using hp), nI_1]) (by rw [gq_X12_find_0, if_pos (nI_le (Nat.le_refl _) (by omega))])
  unfold dn_X12_find
  refine Eq.trans this ?_
  cases fo (fun k => decide (mn (off + k) = wo)) n <;> rfl
def nmsR (n off : Nat) (cn mn : Nat → Int64) : Prop := ∀ k, k < n → nmR (cn k) (mn (off + k))
theorem fo_nm {n off : Nat} {cn mn : Nat → Int64} (h : nmsR n off cn mn) {x y : Int64} (hx : nmR x y) : fo (fun k => decide (cn k = x)) n = fo (fun k => decide (mn (off + k) = y)) n := by
  apply fo_congr
  intro k hk
  show decide (cn k = x) = decide (mn (off + k) = y)
  exact decide_eq_decide.mpr (nmR_eq (h k hk) hx)
theorem foI_some {P : Nat → Bool} {n k : Nat} (h : fo P n = some k) : k < n := (fo_some P n k h).1
theorem foI_m1 {o : Option Nat} (h : ∀ k, o = some k → k < 2 ^ 31) : (foI o = -1) = (o = none) := by
  cases o with
  | none => simp [foI]
  | some k =>
    have := h k rfl
    show (nI k = -1) = _
    rw [pz_n0 this]; simp
theorem foI_lt0 {o : Option Nat} (h : ∀ k, o = some k → k < 2 ^ 31) : (foI o < 0) = (o = none) := by
  cases o with
  | none =>
    show ((-1 : Int32) < 0) = _
    simp
  | some k =>
    have := h k rfl
    show (nI k < 0) = _
    rw [pz_lt0 this]; simp
theorem foI_ge0 {o : Option Nat} (h : ∀ k, o = some k → k < 2 ^ 31) : (0 ≤ foI o) = ¬ (o = none) := by
  cases o with
  | none =>
    show ((0 : Int32) ≤ -1) = _
    simp
  | some k =>
    have := h k rfl
    show ((0 : Int32) ≤ nI k) = _
    have h2 : (0 : Int32) ≤ nI k := nI_le (a := 0) (by omega) (by omega)
    simp [h2]
/-- what stands there is a name: the same on both sides -/
theorem isN_nm {O : Nat → Nat} {L M p : Nat} (h : isN O L M p = true) {ps nu : Int32} {na : Int64} {to : Int32} (hc : cTk O L M p ps nu na to) {mp mat mto : Int32} {mwo : Int64} {mnu : Int32} (hm : mTk O L M p mp mat mto mwo mnu) : tkK O L M p = 1 ∧ nmR na mwo := by
  have h1 : tkK O L M p = 1 := by
    unfold isN at h
    rw [Bool.and_eq_true, beq_iff_eq] at h
    exact h.1
  exact ⟨h1, tkW O L p, (tkW_ok h1).1, (hc.2.1 h1).2.2, (hm.2.2.1 h1).2⟩
