/-! ===== pure rows: DEALS done: doing one; the model's rows of them ===== -/
theorem pz_upd_s {f : Nat → Int32} {k : Nat} {x : Int32} : upd f k x k = x := pk_us
theorem pT_s {D : tD} {d t : Nat} : (pT D d t).2 D.1 = (d, t) := by simp [pT]
theorem pT_o {D : tD} {d t i : Nat} (h : i < D.1) : (pT D d t).2 i = D.2 i := by simp [pT, show ¬ i = D.1 from by omega]
theorem pT_1 {D : tD} {d t : Nat} : (pT D d t).1 = D.1 + 1 := rfl
theorem dnT_0 {D : tD} {d : Nat} (h : dnT D d = 0) : ∀ i, i < D.1 → (D.2 i).1 ≠ d := by
  unfold dnT at h
  cases c : fo (fun i => (D.2 i).1 == d) D.1 with
  | some i => rw [c] at h; simp at h
  | none =>
    intro i hi e
    have := (fo_none _ _).mp c i hi
    simp [e] at this
theorem wrT_dwf {T : tT} {D : tD} (hD : dwf T D) {d t : Nat} (hd : d < T 1 0) (ht : t ≤ 1) (h : wrT T D d t = 0) : dwf T (pT D d t) := by
  unfold wrT at h
  by_cases c1 : 0 < dnT D d
  · rw [if_pos c1] at h; cases h
  · rw [if_neg c1] at h
    have h0 := dnT_0 (D := D) (d := d) (by omega)
    by_cases c2 : t = 1 ∧ T 13 d = 0
    · rw [if_pos c2] at h; cases h
    · rw [if_neg c2] at h
      by_cases c3 : 0 < D.1 ∧ T 10 d < T 10 (D.2 (D.1 - 1)).1
      · rw [if_pos c3] at h; cases h
      · refine ⟨fun i hi => ?_, fun i j hij hj => ?_⟩
        · by_cases e : i = D.1
          · subst e; rw [pT_s]; exact ⟨hd, ht⟩
          · have hi' : i < D.1 := by rw [pT_1] at hi; omega
            rw [pT_o hi']; exact hD.1 i hi'
        · rw [pT_1] at hj
          have hi' : i < D.1 := by omega
          by_cases e : j = D.1
          · subst e
            rw [pT_s, pT_o hi']
            refine ⟨?_, h0 i hi'⟩
            show T 10 (D.2 i).1 ≤ T 10 d
            by_cases e2 : i = D.1 - 1
            · subst e2; omega
            · have := (hD.2 i (D.1 - 1) (by omega) (by omega)).1
              omega
          · have hj' : j < D.1 := by omega
            rw [pT_o hi', pT_o hj']
            exact hD.2 i j hij hj'
theorem dwf.pop {T : tT} {D : tD} (hD : dwf T D) {n : Nat} (h : n ≤ D.1) : dwf T (n, D.2) := ⟨fun i hi => hD.1 i (Nat.lt_of_lt_of_le hi h), fun i j a b => hD.2 i j a (Nat.lt_of_lt_of_le b h)⟩
theorem cB.pop {T : tT} {D : tD} {dl wy fd : Nat → Int32} (hB : cB T D dl wy fd) {n : Nat} (h : n ≤ D.1) : cB T (n, D.2) dl wy fd := fun i hi => hB i (Nat.lt_of_lt_of_le hi h)
theorem fbT_congr {T : tT} {e e' : Nat → Nat × Nat} {i d : Nat} (h : ∀ j, j < i → e j = e' j) : fbT T e i d = fbT T e' i d := by
  unfold fbT
  rw [bdT_congr i _ h, bdT_congr i _ h]
theorem cB.put {T : tT} {D : tD} {dl wy fd : Nat → Int32} (hB : cB T D dl wy fd) (d t : Nat) : cB T (pT D d t) (upd dl D.1 (nI d)) (upd wy D.1 (nI (t + 1))) (upd fd D.1 (nI (fbT T D.2 D.1 d))) := by
  intro i hi
  by_cases e : i = D.1
  · subst e
    rw [pT_s, pk_us, pk_us, pk_us]
    exact ⟨rfl, rfl, by rw [fbT_congr (e := (pT D d t).2) (e' := D.2) (fun j hj => pT_o hj)]⟩
  · have hi' : i < D.1 := by rw [pT_1] at hi; omega
    have := hB i hi'
    rw [pT_o hi', pk_un e, pk_un e, pk_un e]
    exact ⟨this.1, this.2.1, by rw [this.2.2, fbT_congr (e := (pT D d t).2) (e' := D.2) (fun j hj => pT_o (by omega))]⟩
theorem pz_0or (x : Int32) : (0 : Int32) ||| x = x := by
  apply Int32.toBitVec_inj.mp
  rw [Int32.toBitVec_or]
  exact BitVec.zero_or
theorem c_tryDeal (T : tT) (hw : twf T) (D : tD) (hD : dwf T D) (dl wy fd : Nat → Int32) (hB : cB T D dl wy fd) (b : Nat → Int32) (hb : ∀ d, d < T 1 0 → b d = nI (T 9 d)) (e : Nat → Int32) (he : ∀ d, d < T 1 0 → e d = nI (T 13 d)) (l : Nat → Int32) (hl : ∀ d, d < T 1 0 → l d = nI (T 8 d)) (m : Nat → Int32) (hm : ∀ p, p < T 0 0 → m p = nI (T 6 p)) (y : Nat → Int32) (hy : ∀ d, d < T 1 0 → y d = nI (T 10 d)) {d t : Nat} (hd : d < T 1 0) (ht : t ≤ 1) : dn_X0_tryDeal (nI D.1) dl fd wy (nI (T 2 0)) b e l m y (nI d) (nI (t + 1)) = if wrT T D d t = 0 then some (0, upd dl D.1 (nI d), upd wy D.1 (nI (t + 1)), upd fd D.1 (nI (fbT T D.2 D.1 d)), nI (D.1 + 1)) else some (nI (wrT T D d t), dl, wy, fd, nI D.1) := by
  have h1 := hw.d
  have h2 := hw.p
  have hn := hD.le
  have h3 := hw.ds hd
  have hwr : wrT T D d t ≤ 6 := by
    unfold wrT
    repeat' split
    all_goals omega
  unfold dn_X0_tryDeal
  rw [c_wrongOf T hw D hD dl wy fd hB b hb e he l hl m hm y hy hd ht, Option.bind_some]
  simp only [pz_e0 (show wrT T D d t < 2 ^ 31 by omega)]
  by_cases c : wrT T D d t = 0
  · rw [if_pos c, if_pos c]
    have hlt : D.1 < 30 := by
      have := (wrT_dwf hD hd ht c).le
      rw [pT_1] at this
      omega
    have i1 := isT_le T D (T 8 d) (T 10 d)
    have i2 := isT_le T D (T 9 d) (T 10 d)
    have k1 : ∀ x : Nat, gn_X0_tryDeal_1 (nI (T 2 0)) b l y (nI d) (nI (t + 1)) (nI x) dl wy fd (nI D.1) = some (0, upd dl D.1 (nI d), upd wy D.1 (nI (t + 1)), upd fd D.1 (nI x), nI (D.1 + 1)) := by
      intro x
      rw [gq_X0_tryDeal_1]
      simp (disch := omega) only [nI_clamp, inb_nI, pz_e0, pz_e1, pz_e2, pz_le0, pz_lt0, pz_le, pz_lt, pz_eq, pz_m1, pz_s1, nI_1, pz_bit, pz_1shl, if_true, if_false, Option.bind_some, pz_c0, Bool.false_eq_true, eq_self]
    have k0 : ∀ x : Nat, gn_X0_tryDeal_0 (nI (T 2 0)) b l y (nI d) (nI (t + 1)) (nI x) dl wy fd (nI D.1) = some (0, upd dl D.1 (nI d), upd wy D.1 (nI (t + 1)), upd fd D.1 (nI (x ||| (if isT T D (T 9 d) (T 10 d) = 0 then 2 ^ T 9 d else 0))), nI (D.1 + 1)) := by
      intro x
      rw [gq_X0_tryDeal_0, nI_clamp (by omega), hb d hd, hy d hd, c_whatIs T hw D hD dl wy fd hB b hb l hl y hy h3.2.1 (by omega), Option.bind_some, pz_1shl (by omega), pz_or, k1, k1]
      simp (disch := omega) only [nI_clamp, inb_nI, pz_e0, pz_e1, pz_e2, pz_le0, pz_lt0, pz_le, pz_lt, pz_eq, pz_m1, pz_s1, nI_1, pz_bit, pz_1shl, if_true, if_false, Option.bind_some, pz_c0, Bool.false_eq_true, eq_self]
      split
      · rfl
      · rw [Nat.or_zero]
    rw [nI_clamp (by omega), hl d hd, hy d hd, c_whatIs T hw D hD dl wy fd hB b hb l hl y hy h3.1 (by omega), Option.bind_some, pz_1shl (by omega), pz_0or, k0, show (0 : Int32) = nI 0 from rfl, k0]
    simp (disch := omega) only [nI_clamp, inb_nI, pz_e0, pz_e1, pz_e2, pz_le0, pz_lt0, pz_le, pz_lt, pz_eq, pz_m1, pz_s1, nI_1, pz_bit, pz_1shl, if_true, if_false, Option.bind_some, pz_c0, Bool.false_eq_true, eq_self]
    rw [if_pos (show nI D.1 < 30 from nI_lt (b := 30) hlt (by omega))]
    show (if isT T D (T 8 d) (T 10 d) = 0 then _ else _) = some (nI 0, _, _, upd fd D.1 (nI (fbT T D.2 D.1 d)), _)
    unfold fbT isT
    split <;> rfl
  · rw [if_neg c, if_neg c]
theorem c_dropLast {n : Nat} (hn : n < 2 ^ 31) : dn_X0_dropLast (nI n) = some (nI (n - 1)) := by
  unfold dn_X0_dropLast
  by_cases c : n = 0
  · subst c; rfl
  · rw [if_neg (nI_nle (by omega) hn), pz_s1 (by omega)]
/-! the model's rows -/
def mB (D : tD) (s : Nat → Int32) : Prop := s 3 = nI D.1 ∧ ∀ i, i < D.1 → s (224 + i) = nI (D.2 i).1 ∧ s (254 + i) = nI (D.2 i).2
theorem mB.pop {D : tD} {s : Nat → Int32} (hB : mB D s) {n : Nat} (h : n ≤ D.1) : mB (n, D.2) (upd s 3 (nI n)) := by
  refine ⟨pk_us, fun i hi => ?_⟩
  rw [pk_un (by omega), pk_un (by omega)]
  exact hB.2 i (Nat.lt_of_lt_of_le hi h)
theorem m_doneAs (T : tT) (hw : twf T) (D : tD) (hD : dwf T D) (s : Nat → Int32) (hB : mB D s) {d : Nat} (hd : d < 2 ^ 31) : dn_X12_doneAs s (nI d) = some (nI (dnT D d)) := by
  have h1 := hw.d
  have h2 := hD.le
  have hr : ∀ k, k < D.1 → gn_X12_doneAs_0 s (nI d) (nI k) = if ((D.2 k).1 == d) = true then some (nI ((D.2 k).2 + 1)) else gn_X12_doneAs_0 s (nI d) (nI (k + 1)) := by
    intro k hk
    have h3 := hB.2 k hk
    have h4 := hD.1 k hk
    rw [gq_X12_doneAs_0, show (3 : Int32).toNatClampNeg = 3 from rfl, hB.1, if_neg (nI_ge hk (by omega)), show (224 : Int32) = nI 224 from rfl, show (254 : Int32) = nI 254 from rfl, nI_add, nI_add, nI_clamp (by omega), nI_clamp (by omega), h3.1, h3.2, show (1 : Int32) = nI 1 from rfl, nI_add, nI_add, Nat.add_comm 1 (D.2 k).2]
    simp (disch := omega) only [nI_clamp, inb_nI, pz_e0, pz_e1, pz_e2, pz_le0, pz_lt0, pz_le, pz_lt, pz_eq, pz_m1, pz_s1, nI_1, pz_bit, pz_1shl, if_true, if_false, Option.bind_some, pz_c0, Bool.false_eq_true, eq_self, beq_iff_eq]
  unfold dn_X12_doneAs dnT
  rw [show (0 : Int32) = nI 0 from rfl, pz_find (fun k => gn_X12_doneAs_0 s (nI d) (nI k)) (fun i => (D.2 i).1 == d) (fun k => nI ((D.2 k).2 + 1)) (nI 0) D.1]
  · cases fo (fun i => (D.2 i).1 == d) D.1 <;> rfl
  · intro k hk c
    show gn_X12_doneAs_0 _ _ _ = _
    rw [hr k hk, if_pos c]
  · intro k hk c
    show gn_X12_doneAs_0 _ _ _ = gn_X12_doneAs_0 _ _ _
    rw [hr k hk, c]; rfl
  · show gn_X12_doneAs_0 _ _ _ = _
    rw [gq_X12_doneAs_0, show (3 : Int32).toNatClampNeg = 3 from rfl, hB.1, if_pos (nI_le (Nat.le_refl _) (by omega))]; rfl
/-- what the model holds of those bound -/
def mbR (T : tT) (y k : Nat) (e : Nat → Nat × Nat) (ba bf : Nat → Int32) : Prop := ∀ p, p < T 0 0 → ba p = nI (bdT T y e k p).1 ∧ (0 < (bdT T y e k p).1 → bf p = nI (bdT T y e k p).2)
theorem m_now0 (T : tT) (hw : twf T) (s : Nat → Int32) (hs : mT T s) (ba bf : Nat → Int32) (b : Nat × Nat) {p yy : Nat} (hp : p < T 0 0) (hb1 : b.1 ≤ 2) (hb2 : b.2 ≤ 59) (hyy : yy < 2 ^ 30) (h : ba p = nI b.1 ∧ (0 < b.1 → bf p = nI b.2)) : dn_X12_now ba bf s (nI p) (nI yy) = some (nI (nowT T b yy)) := by
  have h1 := hw.d
  have h2 := hw.p
  have h3 := hw.n
  unfold dn_X12_now nowT
  rw [show (2 : Int32).toNatClampNeg = 2 from rfl, hs.2.2.1, nI_clamp (by omega), h.1]
  by_cases c : b.1 = 0
  · simp (disch := omega) only [nI_clamp, inb_nI, pz_e0, pz_e1, pz_e2, pz_le0, pz_lt0, pz_le, pz_lt, pz_eq, pz_m1, pz_s1, nI_1, pz_bit, pz_1shl, if_true, if_false, Option.bind_some, pz_c0, Bool.false_eq_true, eq_self]
    simp [c]; rfl
  · rw [h.2 (by omega), nI_add]
    simp (disch := omega) only [nI_clamp, inb_nI, pz_e0, pz_e1, pz_e2, pz_le0, pz_lt0, pz_le, pz_lt, pz_eq, pz_m1, pz_s1, nI_1, pz_bit, pz_1shl, if_true, if_false, Option.bind_some, pz_c0, Bool.false_eq_true, eq_self]
    by_cases c2 : T 2 0 = 0
    · simp [c, c2, show 0 < b.1 from by omega]
    · by_cases c3 : b.2 + T 2 0 ≤ yy
      · simp [c, c2, c3, show ¬ yy < b.2 + T 2 0 from by omega]; rfl
      · simp [c, c2, c3, show 0 < b.1 from by omega, show yy < b.2 + T 2 0 from by omega]
theorem m_now (T : tT) (hw : twf T) (s : Nat → Int32) (hs : mT T s) (D : tD) (hD : dwf T D) (ba bf : Nat → Int32) {y k p yy : Nat} (hk : k ≤ D.1) (hp : p < T 0 0) (hyy : yy < 2 ^ 30) (h : mbR T y k D.2 ba bf) : dn_X12_now ba bf s (nI p) (nI yy) = some (nI (nowT T (bdT T y D.2 k p) yy)) :=
  m_now0 T hw s hs ba bf _ hp (bdT_1 _ _ _ _ _) (bdT_2 hw _ _ (fun i hi => (hD.1 i (by omega)).1)) hyy (h p hp)
theorem m_bound (T : tT) (hw : twf T) (s : Nat → Int32) (hs : mT T s) (ba bf : Nat → Int32) (f : Nat → Nat × Nat) (hf : ∀ p, p < T 0 0 → (f p).1 ≤ 2 ∧ (f p).2 ≤ 59) {p yy a : Nat} (hp : p < T 0 0) (hyy : yy ≤ 59) (h : ∀ p, p < T 0 0 → ba p = nI (f p).1 ∧ (0 < (f p).1 → bf p = nI (f p).2)) : ∃ ba' bf', dn_X12_bound ba bf s (nI p) (nI yy) (nI a) = some (ba', bf') ∧ ∀ q, q < T 0 0 → ba' q = nI (if q = p ∧ nowT T (f q) yy = 0 then (a, yy) else f q).1 ∧ (0 < (if q = p ∧ nowT T (f q) yy = 0 then (a, yy) else f q).1 → bf' q = nI (if q = p ∧ nowT T (f q) yy = 0 then (a, yy) else f q).2) := by
  have h1 := hw.d
  have h2 := hw.p
  have h3 := hf p hp
  have h4 := nowT_le T (f p) yy
  unfold dn_X12_bound
  rw [m_now0 T hw s hs ba bf (f p) hp h3.1 h3.2 (by omega) (h p hp), Option.bind_some, nI_clamp (by omega)]
  simp (disch := omega) only [nI_clamp, inb_nI, pz_e0, pz_e1, pz_e2, pz_le0, pz_lt0, pz_le, pz_lt, pz_eq, pz_m1, pz_s1, nI_1, pz_bit, pz_1shl, if_true, if_false, Option.bind_some, pz_c0, Bool.false_eq_true, eq_self]
  by_cases c : nowT T (f p) yy = 0
  · rw [if_pos c]
    refine ⟨_, _, rfl, fun q hq => ?_⟩
    by_cases e : q = p
    · subst e
      rw [if_pos ⟨rfl, c⟩, pk_us, pk_us]
      exact ⟨rfl, fun _ => rfl⟩
    · rw [if_neg (fun x => e x.1), pk_un e, pk_un e]
      exact h q hq
  · rw [if_neg c]
    refine ⟨_, _, rfl, fun q hq => ?_⟩
    rw [if_neg (fun x => c (by rw [← x.1]; exact x.2))]
    exact h q hq
theorem m_lend (T : tT) (hw : twf T) (s : Nat → Int32) (hs : mT T s) {d t : Nat} (hd : d < T 1 0) (ht : t ≤ 1) : dn_X12_lender s (nI d) (nI t) = some (nI (leT T (d, t))) := by
  unfold leT
  by_cases c : t = 1
  · subst c
    rw [if_pos rfl, show nI 1 = 1 from rfl, m_lender1 T hw s hs hd]
  · have : t = 0 := by omega
    subst this
    rw [if_neg (show ¬ (0 : Nat) = 1 from by decide), show nI 0 = 0 from rfl, m_lender0 T hw s hs hd]
theorem m_borr (T : tT) (hw : twf T) (s : Nat → Int32) (hs : mT T s) {d t : Nat} (hd : d < T 1 0) (ht : t ≤ 1) : dn_X12_borrower s (nI d) (nI t) = some (nI (boT T (d, t))) := by
  unfold boT
  by_cases c : t = 1
  · subst c
    rw [if_pos rfl, show nI 1 = 1 from rfl, m_borrower1 T hw s hs hd]
  · have : t = 0 := by omega
    subst this
    rw [if_neg (show ¬ (0 : Nat) = 1 from by decide), show nI 0 = 0 from rfl, m_borrower0 T hw s hs hd]
theorem le_bo {T : tT} (hw : twf T) {d t : Nat} (hd : d < T 1 0) : leT T (d, t) ≠ boT T (d, t) := by
  have := hw.ds hd
  unfold leT boT
  by_cases c : t = 1
  · simp only [c, if_true]; omega
  · simp only [c, if_false]; omega
theorem m_bind (T : tT) (hw : twf T) (s : Nat → Int32) (hs : mT T s) (D : tD) (hD : dwf T D) (hB : mB D s) (ba bf : Nat → Int32) {yy : Nat} (hyy : yy < 2 ^ 30) : ∃ ba' bf', dn_X12_bind ba bf s (nI yy) = some (ba', bf') ∧ mbR T yy D.1 D.2 ba' bf' := by
  have h1 := hw.d
  have h2 := hw.p
  have hn := hD.le
  obtain ⟨a1, e1, e2⟩ := pz_rel0 (fun k (a : Nat → Int32) => gn_X12_bind_0 s (nI yy) (nI k) a bf) 10 (fun k a => ∀ j, j < k → a j = nI 0) ba (fun j hj => by omega) (by
    intro k a hk hp
    refine ⟨upd a k 0, fun j hj => ?_, ?_⟩
    · by_cases e : j = k
      · subst e; rw [pk_us]; rfl
      · rw [pk_un e]; exact hp j (by omega)
    · show gn_X12_bind_0 _ _ _ _ _ = gn_X12_bind_0 _ _ _ _ _
      rw [gq_X12_bind_0, show (10 : Int32) = nI 10 from rfl, if_neg (nI_ge hk (by omega))]
      simp (disch := omega) only [nI_clamp, inb_nI, pz_e0, pz_e1, pz_e2, pz_le0, pz_lt0, pz_le, pz_lt, pz_eq, pz_m1, pz_s1, nI_1, pz_bit, pz_1shl, if_true, if_false, Option.bind_some, pz_c0, Bool.false_eq_true, eq_self])
  have e3 : gn_X12_bind_0 s (nI yy) (nI 10) a1 bf = gn_X12_bind_1 s (nI yy) (nI 0) a1 bf := by
    rw [gq_X12_bind_0, show (10 : Int32) = nI 10 from rfl, if_pos (nI_le (Nat.le_refl _) (by omega))]; rfl
  obtain ⟨a2, e4, e5⟩ := pz_rel0 (fun k (a : (Nat → Int32) × (Nat → Int32)) => gn_X12_bind_1 s (nI yy) (nI k) a.1 a.2) D.1 (fun k a => mbR T yy k D.2 a.1 a.2) (a1, bf) (fun p hp => ⟨e1 p (by omega), fun h => by simp [bdT] at h⟩) (by
    intro k a hk hp
    have h3 := hB.2 k hk
    have h4 := hD.1 k hk
    have h5 := hw.ds h4.1
    have hbk : ∀ p, bdT T yy D.2 (k + 1) p = if T 10 (D.2 k).1 ≤ yy ∧ (leT T (D.2 k) = p ∨ boT T (D.2 k) = p) ∧ nowT T (bdT T yy D.2 k p) (T 10 (D.2 k).1) = 0 then (if leT T (D.2 k) = p then 1 else 2, T 10 (D.2 k).1) else bdT T yy D.2 k p := fun _ => rfl
    have hst : gn_X12_bind_1 s (nI yy) (nI k) a.1 a.2 = if T 10 (D.2 k).1 ≤ yy then Option.bind (dn_X12_bound a.1 a.2 s (nI (leT T (D.2 k))) (nI (T 10 (D.2 k).1)) (nI 1)) (fun q10 => Option.bind (dn_X12_bound q10.1 q10.2 s (nI (boT T (D.2 k))) (nI (T 10 (D.2 k).1)) (nI 2)) (fun q14 => gn_X12_bind_1 s (nI yy) (nI (k + 1)) q14.1 q14.2)) else gn_X12_bind_1 s (nI yy) (nI (k + 1)) a.1 a.2 := by
      rw [gq_X12_bind_1, show (3 : Int32).toNatClampNeg = 3 from rfl, hB.1, if_neg (nI_ge hk (by omega)), show (224 : Int32) = nI 224 from rfl, show (254 : Int32) = nI 254 from rfl, nI_add, nI_add, nI_clamp (by omega), nI_clamp (by omega), h3.1, h3.2, m_of2 T hw s hs h4.1, Option.bind_some, m_lend T hw s hs h4.1 h4.2, m_borr T hw s hs h4.1 h4.2]
      simp (disch := omega) only [nI_clamp, inb_nI, pz_e0, pz_e1, pz_e2, pz_le0, pz_lt0, pz_le, pz_lt, pz_eq, pz_m1, pz_s1, nI_1, pz_bit, pz_1shl, if_true, if_false, Option.bind_some, pz_c0, Bool.false_eq_true, eq_self]
      rfl
    by_cases c : T 10 (D.2 k).1 ≤ yy
    · rw [if_pos c] at hst
      have hle := leT_lt hw (d := (D.2 k).1) (t := (D.2 k).2) h4.1
      have hbo := boT_lt hw (d := (D.2 k).1) (t := (D.2 k).2) h4.1
      have hne := le_bo hw (d := (D.2 k).1) (t := (D.2 k).2) h4.1
      have hq : ((D.2 k).1, (D.2 k).2) = D.2 k := rfl
      rw [hq] at hle hbo hne
      obtain ⟨ba1, bf1, g1, g2⟩ := m_bound T hw s hs a.1 a.2 (bdT T yy D.2 k) (fun p _ => ⟨bdT_1 _ _ _ _ _, bdT_2 hw _ _ (fun i hi => (hD.1 i (by omega)).1)⟩) (p := leT T (D.2 k)) (yy := T 10 (D.2 k).1) (a := 1) hle h5.2.2.2.1 hp
      obtain ⟨ba2, bf2, g3, g4⟩ := m_bound T hw s hs ba1 bf1 (fun q => if q = leT T (D.2 k) ∧ nowT T (bdT T yy D.2 k q) (T 10 (D.2 k).1) = 0 then (1, T 10 (D.2 k).1) else bdT T yy D.2 k q) (fun p _ => by
        show (if _ then _ else _ : Nat × Nat).1 ≤ 2 ∧ (if _ then _ else _ : Nat × Nat).2 ≤ 59
        split
        · exact ⟨by show 1 ≤ 2; omega, h5.2.2.2.1⟩
        · exact ⟨bdT_1 _ _ _ _ _, bdT_2 hw _ _ (fun i hi => (hD.1 i (by omega)).1)⟩) (p := boT T (D.2 k)) (yy := T 10 (D.2 k).1) (a := 2) hbo h5.2.2.2.1 g2
      refine ⟨(ba2, bf2), fun p hp2 => ?_, ?_⟩
      · have g5 := g4 p hp2
        have g6 : (if p = boT T (D.2 k) ∧ nowT T (if p = leT T (D.2 k) ∧ nowT T (bdT T yy D.2 k p) (T 10 (D.2 k).1) = 0 then (1, T 10 (D.2 k).1) else bdT T yy D.2 k p) (T 10 (D.2 k).1) = 0 then (2, T 10 (D.2 k).1) else if p = leT T (D.2 k) ∧ nowT T (bdT T yy D.2 k p) (T 10 (D.2 k).1) = 0 then (1, T 10 (D.2 k).1) else bdT T yy D.2 k p) = bdT T yy D.2 (k + 1) p := by
          rw [hbk]
          by_cases d1 : p = leT T (D.2 k)
          · have d2 : ¬ p = boT T (D.2 k) := by omega
            subst d1
            by_cases d3 : nowT T (bdT T yy D.2 k (leT T (D.2 k))) (T 10 (D.2 k).1) = 0
            · rw [if_neg (fun x => d2 x.1), if_pos ⟨rfl, d3⟩, if_pos ⟨c, Or.inl rfl, d3⟩, if_pos rfl]
            · rw [if_neg (fun x => d2 x.1), if_neg (fun x => d3 x.2), if_neg (fun x => d3 x.2.2)]
          · have hin : (if p = leT T (D.2 k) ∧ nowT T (bdT T yy D.2 k p) (T 10 (D.2 k).1) = 0 then (1, T 10 (D.2 k).1) else bdT T yy D.2 k p) = bdT T yy D.2 k p := if_neg (fun x => d1 x.1)
            rw [hin]
            by_cases d2 : p = boT T (D.2 k)
            · subst d2
              by_cases d3 : nowT T (bdT T yy D.2 k (boT T (D.2 k))) (T 10 (D.2 k).1) = 0
              · rw [if_pos ⟨rfl, d3⟩, if_pos ⟨c, Or.inr rfl, d3⟩, if_neg (fun x => d1 x.symm)]
              · rw [if_neg (fun x => d3 x.2), if_neg (fun x => d3 x.2.2)]
            · rw [if_neg (fun x => d2 x.1), if_neg (fun x => x.2.1.elim (fun z => d1 z.symm) (fun z => d2 z.symm))]
        rw [← g6]
        exact g5
      · show gn_X12_bind_1 s (nI yy) (nI k) a.1 a.2 = gn_X12_bind_1 s (nI yy) (nI (k + 1)) ba2 bf2
        rw [hst, g1, Option.bind_some, g3, Option.bind_some]
    · rw [if_neg c] at hst
      refine ⟨a, fun p hp2 => ?_, hst⟩
      rw [hbk, if_neg (fun x => c x.1)]
      exact hp p hp2)
  refine ⟨a2.1, a2.2, ?_, e4⟩
  unfold dn_X12_bind
  show gn_X12_bind_0 s (nI yy) (nI 0) ba bf = _
  rw [show gn_X12_bind_0 s (nI yy) (nI 0) ba bf = gn_X12_bind_0 s (nI yy) (nI 10) a1 bf from e2, e3, show gn_X12_bind_1 s (nI yy) (nI 0) a1 bf = gn_X12_bind_1 s (nI yy) (nI D.1) a2.1 a2.2 from e5, gq_X12_bind_1, show (3 : Int32).toNatClampNeg = 3 from rfl, hB.1, if_pos (nI_le (Nat.le_refl _) (by omega))]
theorem m_didIn (T : tT) (hw : twf T) (s : Nat → Int32) (hs : mT T s) (D : tD) (hD : dwf T D) (hB : mB D s) {p yy : Nat} (hp : p < T 0 0) (hyy : yy < 2 ^ 30) : dn_X12_didIn s (nI p) (nI yy) = some (nI (diT T D p yy)) := by
  have h1 := hw.d
  have h2 := hw.p
  have hn := hD.le
  have key := pz_fun (fun k (a : Nat) => gn_X12_didIn_0 s (nI p) (nI yy) (nI a) (nI k)) (ct (fun i => T 10 (D.2 i).1 == yy && isInT T (D.2 i).1 p)) D.1 (by
    intro k hk
    show gn_X12_didIn_0 _ _ _ _ _ = gn_X12_didIn_0 _ _ _ _ _
    have h3 := hB.2 k hk
    have h4 := hD.1 k hk
    have h5 := hw.ds h4.1
    rw [gq_X12_didIn_0, show (3 : Int32).toNatClampNeg = 3 from rfl, hB.1, if_neg (nI_ge hk (by omega)), show (224 : Int32) = nI 224 from rfl, nI_add, nI_clamp (by omega), h3.1, m_of2 T hw s hs h4.1, m_of0 T hw s hs h4.1, m_of1 T hw s hs h4.1]
    simp (disch := omega) only [nI_clamp, inb_nI, pz_e0, pz_e1, pz_e2, pz_le0, pz_lt0, pz_le, pz_lt, pz_eq, pz_m1, pz_s1, nI_1, pz_bit, pz_1shl, if_true, if_false, Option.bind_some, pz_c0, Bool.false_eq_true, eq_self, pz_a0]
    rw [ct_s]
    unfold isInT
    by_cases c1 : T 10 (D.2 k).1 = yy <;> by_cases c2 : T 8 (D.2 k).1 = p <;> by_cases c3 : T 9 (D.2 k).1 = p <;> simp [c1, c2, c3]) D.1 (Nat.le_refl _)
  show gn_X12_didIn_0 _ _ _ _ _ = _
  have key' : gn_X12_didIn_0 s (nI p) (nI yy) 0 0 = gn_X12_didIn_0 s (nI p) (nI yy) (nI (diT T D p yy)) (nI D.1) := key
  rw [key', gq_X12_didIn_0, show (3 : Int32).toNatClampNeg = 3 from rfl, hB.1, if_pos (nI_le (Nat.le_refl _) (by omega))]
theorem m_wrong (T : tT) (hw : twf T) (s : Nat → Int32) (hs : mT T s) (D : tD) (hD : dwf T D) (hB : mB D s) (ba bf : Nat → Int32) {d t : Nat} (hd : d < T 1 0) (ht : t ≤ 1) : ∃ ba' bf', dn_X12_wrong ba bf s (nI d) (nI t) = some (nI (wrT T D d t), ba', bf') := by
  have h1 := hw.d
  have h2 := hw.p
  have hn := hD.le
  have h3 := hw.ds hd
  have h4 := dnT_le hD d
  have h5 := leT_lt hw (t := t) hd
  have h6 := boT_lt hw (t := t) hd
  have p8 := hw.ps h3.1
  have p9 := hw.ps h3.2.1
  have d8 := ct_le (fun i => T 10 (D.2 i).1 == T 10 d && isInT T (D.2 i).1 (T 8 d)) D.1
  have d9 := ct_le (fun i => T 10 (D.2 i).1 == T 10 d && isInT T (D.2 i).1 (T 9 d)) D.1
  have d8' : diT T D (T 8 d) (T 10 d) ≤ D.1 := d8
  have d9' : diT T D (T 9 d) (T 10 d) ≤ D.1 := d9
  have i1 := isT_le T D (leT T (d, t)) (T 10 d)
  have i2 := isT_le T D (boT T (d, t)) (T 10 d)
  obtain ⟨ba1, bf1, g1, g2⟩ := m_bind T hw s hs D hD hB ba bf (yy := T 10 d) (by omega)
  have k1 : gn_X12_wrong_1 s (nI d) (nI t) (nI (T 10 d)) ba bf = some (nI (if isT T D (leT T (d, t)) (T 10 d) = 2 then 4 else if isT T D (boT T (d, t)) (T 10 d) = 1 then 5 else if T 6 (T 8 d) ≤ diT T D (T 8 d) (T 10 d) ∨ T 6 (T 9 d) ≤ diT T D (T 9 d) (T 10 d) then 6 else 0), ba1, bf1) := by
    rw [gq_X12_wrong_1, g1, Option.bind_some, m_lend T hw s hs hd ht, Option.bind_some, m_now T hw s hs D hD ba1 bf1 (Nat.le_refl _) h5 (by omega) g2, Option.bind_some, m_borr T hw s hs hd ht, Option.bind_some, m_now T hw s hs D hD ba1 bf1 (Nat.le_refl _) h6 (by omega) g2, Option.bind_some, m_of0 T hw s hs hd, Option.bind_some, m_didIn T hw s hs D hD hB h3.1 (by omega), Option.bind_some, Option.bind_some, m_of1 T hw s hs hd, Option.bind_some, m_didIn T hw s hs D hD hB h3.2.1 (by omega), Option.bind_some, Option.bind_some, show (24 : Int32) = nI 24 from rfl, nI_add, nI_add, nI_clamp (by omega), nI_clamp (by omega), (hs.ps h3.1).2.2.1, (hs.ps h3.2.1).2.2.1]
    show (if nI (isT T D (leT T (d, t)) (T 10 d)) = 2 then _ else if nI (isT T D (boT T (d, t)) (T 10 d)) = 1 then _ else _) = _
    simp (disch := omega) only [nI_clamp, inb_nI, pz_e0, pz_e1, pz_e2, pz_le0, pz_lt0, pz_le, pz_lt, pz_eq, pz_m1, pz_s1, nI_1, pz_bit, pz_1shl, if_true, if_false, Option.bind_some, pz_c0, Bool.false_eq_true, eq_self]
    by_cases c1 : isT T D (leT T (d, t)) (T 10 d) = 2
    · simp [c1]; rfl
    · by_cases c2 : isT T D (boT T (d, t)) (T 10 d) = 1
      · simp [c1, c2]; rfl
      · by_cases c3 : T 6 (T 8 d) ≤ diT T D (T 8 d) (T 10 d)
        · simp [c1, c2, c3]; rfl
        · by_cases c4 : T 6 (T 9 d) ≤ diT T D (T 9 d) (T 10 d)
          · simp [c1, c2, c3, c4, show ¬ diT T D (T 9 d) (T 10 d) < T 6 (T 9 d) from by omega]; rfl
          · simp [c1, c2, c3, c4, show diT T D (T 9 d) (T 10 d) < T 6 (T 9 d) from by omega]; rfl
  have k0 : ∃ ba' bf', gn_X12_wrong_0 s (nI d) (nI t) (nI (T 10 d)) ba bf = some (nI (if 0 < D.1 ∧ T 10 d < T 10 (D.2 (D.1 - 1)).1 then 3 else if isT T D (leT T (d, t)) (T 10 d) = 2 then 4 else if isT T D (boT T (d, t)) (T 10 d) = 1 then 5 else if T 6 (T 8 d) ≤ diT T D (T 8 d) (T 10 d) ∨ T 6 (T 9 d) ≤ diT T D (T 9 d) (T 10 d) then 6 else 0), ba', bf') := by
    rw [gq_X12_wrong_0, show (3 : Int32).toNatClampNeg = 3 from rfl, hB.1, k1]
    by_cases c : D.1 = 0
    · simp (disch := omega) only [nI_clamp, inb_nI, pz_e0, pz_e1, pz_e2, pz_le0, pz_lt0, pz_le, pz_lt, pz_eq, pz_m1, pz_s1, nI_1, pz_bit, pz_1shl, if_true, if_false, Option.bind_some, pz_c0, Bool.false_eq_true, eq_self]
      simp [c]
    · have c' : 0 < D.1 := by omega
      have e1 := hB.2 (D.1 - 1) (by omega)
      have e2 := (hD.1 (D.1 - 1) (by omega)).1
      have e3 := hw.ds e2
      rw [show (224 : Int32) = nI 224 from rfl, nI_add, pz_s1 (by omega), show 224 + D.1 - 1 = 224 + (D.1 - 1) from by omega, nI_clamp (by omega), e1.1, m_of2 T hw s hs e2]
      simp (disch := omega) only [nI_clamp, inb_nI, pz_e0, pz_e1, pz_e2, pz_le0, pz_lt0, pz_le, pz_lt, pz_eq, pz_m1, pz_s1, nI_1, pz_bit, pz_1shl, if_true, if_false, Option.bind_some, pz_c0, Bool.false_eq_true, eq_self]
      by_cases c3 : T 10 d < T 10 (D.2 (D.1 - 1)).1
      · refine ⟨ba, bf, ?_⟩
        simp [c, c', c3, show ¬ T 10 (D.2 (D.1 - 1)).1 ≤ T 10 d from by omega]; rfl
      · refine ⟨ba1, bf1, ?_⟩
        simp [c, c', c3, show T 10 (D.2 (D.1 - 1)).1 ≤ T 10 d from by omega]
  obtain ⟨ba2, bf2, k0⟩ := k0
  unfold dn_X12_wrong wrT
  rw [m_of2 T hw s hs hd, Option.bind_some, m_doneAs T hw D hD s hB (by omega), Option.bind_some, m_of5 T hw s hs hd, Option.bind_some, k0]
  simp (disch := omega) only [nI_clamp, inb_nI, pz_e0, pz_e1, pz_e2, pz_le0, pz_lt0, pz_le, pz_lt, pz_eq, pz_m1, pz_s1, nI_1, pz_bit, pz_1shl, if_true, if_false, Option.bind_some, pz_c0, Bool.false_eq_true, eq_self]
  by_cases c1 : dnT D d = 0
  · by_cases c2 : t = 1
    · by_cases c3 : T 13 d = 0
      · exact ⟨ba, bf, by simp [c1, c2, c3]; rfl⟩
      · exact ⟨ba2, bf2, by simp [c1, c2, c3]⟩
    · exact ⟨ba2, bf2, by simp [c1, c2]⟩
  · exact ⟨ba, bf, by simp [c1, show 0 < dnT D d from by omega]; rfl⟩
theorem m_put (D : tD) (s : Nat → Int32) (hB : mB D s) (hn : D.1 < 30) (d t : Nat) : ∃ s', dn_X12_put s (nI d) (nI t) = some s' ∧ mB (pT D d t) s' ∧ ∀ k, k < 224 → k ≠ 3 → s' k = s k := by
  unfold dn_X12_put
  rw [show (3 : Int32).toNatClampNeg = 3 from rfl, hB.1, show (224 : Int32) = nI 224 from rfl, show (254 : Int32) = nI 254 from rfl, nI_add, nI_clamp (by omega), pk_un (by omega), hB.1, nI_add, nI_clamp (by omega), pk_un (by omega), pk_un (by omega), hB.1, inb_nI (by omega) (by omega), inb_nI (by omega) (by omega), nI_1]
  refine ⟨_, rfl, ⟨pk_us, fun i hi => ?_⟩, fun k hk h3 => ?_⟩
  · rw [pT_1] at hi
    by_cases e : i = D.1
    · subst e
      rw [pT_s, pk_un (by omega), pk_un (by omega), pk_us, pk_un (by omega), pk_us]
      exact ⟨rfl, rfl⟩
    · rw [pT_o (by omega), pk_un (by omega), pk_un (by omega), pk_un (by omega), pk_un (by omega), pk_un (by omega), pk_un (by omega)]
      exact hB.2 i (by omega)
  · rw [pk_un h3, pk_un (by omega), pk_un (by omega)]
