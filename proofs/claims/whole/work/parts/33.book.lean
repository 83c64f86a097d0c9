/-! ===== pure rows: DEALS done ===== -/
theorem pz_pigeon : ∀ (m n : Nat) (f : Nat → Nat), (∀ i, i < n → f i < m) → (∀ i j, i < j → j < n → f i ≠ f j) → n ≤ m
  | 0, n, f, h, _ => by
    cases n with
    | zero => omega
    | succ n => have := h 0 (by omega); omega
  | m + 1, 0, f, _, _ => by omega
  | m + 1, k + 1, f, h, hj => by
    have := pz_pigeon m k (fun i => if f i = m then f k else f i) (by
      intro i hi
      show (if f i = m then f k else f i) < m
      have h1 := h i (by omega)
      have h2 := h k (by omega)
      have h3 := hj i k hi (by omega)
      split <;> omega) (by
      intro i j hij hjk
      show (if f i = m then f k else f i) ≠ (if f j = m then f k else f j)
      have h1 := hj i j hij (by omega)
      have h2 := hj i k (by omega) (by omega)
      have h3 := hj j k hjk (by omega)
      split <;> split <;> omega)
    omega
abbrev tD : Type := Nat × (Nat → Nat × Nat)
def pT (D : tD) (d t : Nat) : tD := (D.1 + 1, fun i => if i = D.1 then (d, t) else D.2 i)
def leT (T : tT) (q : Nat × Nat) : Nat := if q.2 = 1 then T 9 q.1 else T 8 q.1
def boT (T : tT) (q : Nat × Nat) : Nat := if q.2 = 1 then T 8 q.1 else T 9 q.1
def nowT (T : tT) (b : Nat × Nat) (y : Nat) : Nat := if 0 < b.1 ∧ (T 2 0 = 0 ∨ y < b.2 + T 2 0) then b.1 else 0
def bdT (T : tT) (y : Nat) (e : Nat → Nat × Nat) : Nat → Nat → Nat × Nat
  | 0, _ => (0, 0)
  | k + 1, p => if T 10 (e k).1 ≤ y ∧ (leT T (e k) = p ∨ boT T (e k) = p) ∧ nowT T (bdT T y e k p) (T 10 (e k).1) = 0 then (if leT T (e k) = p then 1 else 2, T 10 (e k).1) else bdT T y e k p
def isT (T : tT) (D : tD) (p y : Nat) : Nat := nowT T (bdT T y D.2 D.1 p) y
/-- whom the i-th found nothing, as bits -/
def fbT (T : tT) (e : Nat → Nat × Nat) (i d : Nat) : Nat := (if nowT T (bdT T (T 10 d) e i (T 8 d)) (T 10 d) = 0 then 2 ^ T 8 d else 0) ||| (if nowT T (bdT T (T 10 d) e i (T 9 d)) (T 10 d) = 0 then 2 ^ T 9 d else 0)
def dnT (D : tD) (d : Nat) : Nat := match fo (fun i => (D.2 i).1 == d) D.1 with | some i => (D.2 i).2 + 1 | none => 0
def diT (T : tT) (D : tD) (p y : Nat) : Nat := ct (fun i => T 10 (D.2 i).1 == y && isInT T (D.2 i).1 p) D.1
def wrT (T : tT) (D : tD) (d t : Nat) : Nat :=
  if 0 < dnT D d then 1 else if t = 1 ∧ T 13 d = 0 then 2 else if 0 < D.1 ∧ T 10 d < T 10 (D.2 (D.1 - 1)).1 then 3
  else if isT T D (leT T (d, t)) (T 10 d) = 2 then 4 else if isT T D (boT T (d, t)) (T 10 d) = 1 then 5
  else if T 6 (T 8 d) ≤ diT T D (T 8 d) (T 10 d) ∨ T 6 (T 9 d) ≤ diT T D (T 9 d) (T 10 d) then 6 else 0
def dwf (T : tT) (D : tD) : Prop := (∀ i, i < D.1 → (D.2 i).1 < T 1 0 ∧ (D.2 i).2 ≤ 1) ∧ ∀ i j, i < j → j < D.1 → T 10 (D.2 i).1 ≤ T 10 (D.2 j).1 ∧ (D.2 i).1 ≠ (D.2 j).1
theorem dwf.le {T : tT} {D : tD} (h : dwf T D) : D.1 ≤ T 1 0 := pz_pigeon (T 1 0) D.1 (fun i => (D.2 i).1) (fun i hi => (h.1 i hi).1) (fun i j a b => (h.2 i j a b).2)
theorem bdT_congr {T : tT} {y : Nat} {e e' : Nat → Nat × Nat} : ∀ (n : Nat) (p : Nat), (∀ i, i < n → e i = e' i) → bdT T y e n p = bdT T y e' n p
  | 0, _, _ => rfl
  | n + 1, p, h => by
    unfold bdT
    rw [bdT_congr n p (fun i hi => h i (by omega)), h n (by omega)]
theorem bdT_y {T : tT} {y y' : Nat} {e : Nat → Nat × Nat} : ∀ (n : Nat) (p : Nat), (∀ i, i < n → T 10 (e i).1 ≤ y ∧ T 10 (e i).1 ≤ y') → bdT T y e n p = bdT T y' e n p
  | 0, _, _ => rfl
  | n + 1, p, h => by
    have h1 := h n (by omega)
    unfold bdT
    rw [bdT_y n p (fun i hi => h i (by omega))]
    simp only [h1.1, h1.2, true_and]
theorem bdT_1 (T : tT) (y : Nat) (e : Nat → Nat × Nat) : ∀ (n : Nat) (p : Nat), (bdT T y e n p).1 ≤ 2
  | 0, _ => by simp [bdT]
  | n + 1, p => by
    have := bdT_1 T y e n p
    unfold bdT
    split
    · show (if leT T (e n) = p then 1 else 2) ≤ 2
      split <;> omega
    · exact this
theorem bdT_2 {T : tT} (hw : twf T) {y : Nat} {e : Nat → Nat × Nat} : ∀ (n : Nat) (p : Nat), (∀ i, i < n → (e i).1 < T 1 0) → (bdT T y e n p).2 ≤ 59
  | 0, _, _ => by simp [bdT]
  | n + 1, p, h => by
    have h1 := bdT_2 hw (y := y) n p (fun i hi => h i (by omega))
    have h2 := hw.ds (h n (by omega))
    unfold bdT
    split
    · show T 10 (e n).1 ≤ 59
      omega
    · exact h1
theorem nowT_le (T : tT) (b : Nat × Nat) (y : Nat) : nowT T b y ≤ b.1 := by
  unfold nowT; split <;> omega
theorem isT_le (T : tT) (D : tD) (p y : Nat) : isT T D p y ≤ 2 := Nat.le_trans (nowT_le _ _ _) (bdT_1 _ _ _ _ _)
theorem fbT_lt {T : tT} (hw : twf T) {e : Nat → Nat × Nat} {i d : Nat} (hd : d < T 1 0) : fbT T e i d < 2 ^ 10 := by
  have h1 := hw.ds hd
  have h2 := hw.p
  unfold fbT
  apply Nat.or_lt_two_pow
  · split
    · exact pz_p2 (by omega)
    · omega
  · split
    · exact pz_p2 (by omega)
    · omega
theorem fbT_bit {T : tT} {e : Nat → Nat × Nat} {i d p : Nat} : (fbT T e i d).testBit p = decide ((T 8 d = p ∨ T 9 d = p) ∧ nowT T (bdT T (T 10 d) e i p) (T 10 d) = 0) := by
  unfold fbT
  rw [Nat.testBit_or]
  have h : ∀ (a : Nat), (if nowT T (bdT T (T 10 d) e i a) (T 10 d) = 0 then 2 ^ a else 0).testBit p = decide (a = p ∧ nowT T (bdT T (T 10 d) e i p) (T 10 d) = 0) := by
    intro a
    by_cases c : a = p
    · subst c
      by_cases c2 : nowT T (bdT T (T 10 d) e i a) (T 10 d) = 0
      · simp [c2, Nat.testBit_two_pow_self]
      · simp [c2]
    · split
      · rw [Nat.testBit_two_pow_of_ne c]; simp [c]
      · simp [c]
  rw [h, h]
  by_cases c1 : T 8 d = p <;> by_cases c2 : T 9 d = p <;> simp [c1, c2]
/-! the class's rows -/
def cB (T : tT) (D : tD) (deal way found : Nat → Int32) : Prop := ∀ i, i < D.1 → deal i = nI (D.2 i).1 ∧ way i = nI ((D.2 i).2 + 1) ∧ found i = nI (fbT T D.2 i (D.2 i).1)
theorem c_wayDone (T : tT) (hw : twf T) (D : tD) (hD : dwf T D) (dl wy fd : Nat → Int32) (hB : cB T D dl wy fd) {d : Nat} (hd : d < 2 ^ 31) : dn_X0_wayDone (nI D.1) dl wy (nI d) = some (nI (dnT D d)) := by
  have h1 := hw.d
  have h2 := hD.le
  have hr : ∀ k, k < D.1 → gn_X0_wayDone_0 (nI D.1) dl wy (nI d) (nI k) = if ((D.2 k).1 == d) = true then some (nI ((D.2 k).2 + 1)) else gn_X0_wayDone_0 (nI D.1) dl wy (nI d) (nI (k + 1)) := by
    intro k hk
    have h3 := hB k hk
    have h4 := (hD.1 k hk).1
    rw [gq_X0_wayDone_0, if_neg (nI_ge hk (by omega)), nI_clamp (by omega), h3.1, h3.2.1]
    simp (disch := omega) only [nI_clamp, inb_nI, pz_e0, pz_e1, pz_e2, pz_le0, pz_lt0, pz_le, pz_lt, pz_eq, pz_m1, pz_s1, nI_1, pz_bit, pz_1shl, if_true, if_false, Option.bind_some, pz_c0, Bool.false_eq_true, eq_self, beq_iff_eq]
  unfold dn_X0_wayDone dnT
  rw [show (0 : Int32) = nI 0 from rfl, pz_find (fun k => gn_X0_wayDone_0 (nI D.1) dl wy (nI d) (nI k)) (fun i => (D.2 i).1 == d) (fun k => nI ((D.2 k).2 + 1)) (nI 0) D.1]
  · cases fo (fun i => (D.2 i).1 == d) D.1 <;> rfl
  · intro k hk c
    show gn_X0_wayDone_0 _ _ _ _ _ = _
    rw [hr k hk, if_pos c]
  · intro k hk c
    show gn_X0_wayDone_0 _ _ _ _ _ = gn_X0_wayDone_0 _ _ _ _ _
    rw [hr k hk, c]; rfl
  · show gn_X0_wayDone_0 _ _ _ _ _ = _
    rw [gq_X0_wayDone_0, if_pos (nI_le (Nat.le_refl _) (by omega))]; rfl
theorem pz_sub1 (x : Int32) : x + (-1) = x - 1 := (Int32.sub_eq_add_neg x 1).symm
theorem c_whatIs (T : tT) (hw : twf T) (D : tD) (hD : dwf T D) (dl wy fd : Nat → Int32) (hB : cB T D dl wy fd) (b : Nat → Int32) (hb : ∀ d, d < T 1 0 → b d = nI (T 9 d)) (l : Nat → Int32) (hl : ∀ d, d < T 1 0 → l d = nI (T 8 d)) (y : Nat → Int32) (hy : ∀ d, d < T 1 0 → y d = nI (T 10 d)) {p yy : Nat} (hp : p < T 0 0) (hyy : yy < 2 ^ 30) : dn_X0_whatIs (nI D.1) dl fd wy (nI (T 2 0)) b l y (nI p) (nI yy) = some (nI (isT T D p yy)) := by
  have h1 := hw.d
  have h2 := hw.p
  have h0 := hw.n
  have hn := hD.le
  have key : ∀ n, n ≤ D.1 → gn_X0_whatIs_0 dl fd wy (nI (T 2 0)) b l y (nI p) (nI yy) (nI n - 1) = some (nI (nowT T (bdT T yy D.2 n p) yy)) := by
    intro n
    induction n with
    | zero =>
      intro _
      rw [gq_X0_whatIs_0, if_pos (by decide)]; rfl
    | succ n ih =>
      intro hk
      have h3 := hB n (by omega)
      have h4 := hD.1 n (by omega)
      have h5 := hw.ds h4.1
      have h6 := fbT_lt hw (e := D.2) (i := n) h4.1
      have h7 : bdT T yy D.2 (n + 1) p = if T 10 (D.2 n).1 ≤ yy ∧ (leT T (D.2 n) = p ∨ boT T (D.2 n) = p) ∧ nowT T (bdT T yy D.2 n p) (T 10 (D.2 n).1) = 0 then (if leT T (D.2 n) = p then 1 else 2, T 10 (D.2 n).1) else bdT T yy D.2 n p := rfl
      rw [nI_pred, gq_X0_whatIs_0, pz_sub1, ih (by omega), nI_clamp (by omega), h3.1, h3.2.2]
      simp (disch := omega) only [nI_clamp, inb_nI, pz_e0, pz_e1, pz_e2, pz_le0, pz_lt0, pz_le, pz_lt, pz_eq, pz_m1, pz_s1, nI_1, pz_bit, pz_1shl, if_true, if_false, Option.bind_some, pz_c0, Bool.false_eq_true, eq_self, hy]
      by_cases c1 : yy < T 10 (D.2 n).1
      · rw [if_pos c1, h7, if_neg (by omega)]
      · rw [if_neg c1, fbT_bit]
        have h8 : bdT T (T 10 (D.2 n).1) D.2 n p = bdT T yy D.2 n p := bdT_y n p (fun i hi => ⟨(hD.2 i n hi (by omega)).1, by have := (hD.2 i n hi (by omega)).1; omega⟩)
        rw [h8]
        have h9 : (leT T (D.2 n) = p ∨ boT T (D.2 n) = p) ↔ (T 8 (D.2 n).1 = p ∨ T 9 (D.2 n).1 = p) := by
          unfold leT boT
          split <;> omega
        by_cases c2 : (T 8 (D.2 n).1 = p ∨ T 9 (D.2 n).1 = p) ∧ nowT T (bdT T yy D.2 n p) (T 10 (D.2 n).1) = 0
        · have h7' : bdT T yy D.2 (n + 1) p = (if leT T (D.2 n) = p then 1 else 2, T 10 (D.2 n).1) := by rw [h7, if_pos ⟨by omega, h9.mpr c2.1, c2.2⟩]
          rw [h7']
          have h10 : ∀ v : Nat, v ≤ 1 → gn_X0_whatIs_1 dl fd wy (nI (T 2 0)) b l y (nI p) (nI yy) (nI n) (nI (D.2 n).1) (nI v) = some (nI (if v = 0 then 0 else if leT T (D.2 n) = p then 1 else 2)) := by
            intro v hv
            rw [gq_X0_whatIs_1, nI_clamp (by omega), h3.2.1, nI_clamp (by omega), hb _ h4.1, hl _ h4.1, gq_X0_whatIs_2, gq_X0_whatIs_2]
            simp (disch := omega) only [nI_clamp, inb_nI, pz_e0, pz_e1, pz_e2, pz_le0, pz_lt0, pz_le, pz_lt, pz_eq, pz_m1, pz_s1, nI_1, pz_bit, pz_1shl, if_true, if_false, Option.bind_some, pz_c0, Bool.false_eq_true, eq_self]
            unfold leT
            by_cases c3 : (D.2 n).2 = 1
            · rw [if_pos (by omega), if_pos c3]
              by_cases c4 : v = 0 <;> by_cases c5 : T 9 (D.2 n).1 = p <;> simp [c4, c5] <;> rfl
            · rw [if_neg (by omega), if_neg c3]
              by_cases c4 : v = 0 <;> by_cases c5 : T 8 (D.2 n).1 = p <;> simp [c4, c5] <;> rfl
          rw [show (0 : Int32) = nI 0 from rfl, show (1 : Int32) = nI 1 from rfl, h10 0 (by omega), h10 1 (by omega), nI_add]
          simp (disch := omega) only [nI_clamp, inb_nI, pz_e0, pz_e1, pz_e2, pz_le0, pz_lt0, pz_le, pz_lt, pz_eq, pz_m1, pz_s1, nI_1, pz_bit, pz_1shl, if_true, if_false, Option.bind_some, pz_c0, Bool.false_eq_true, eq_self]
          have h11 : nowT T (if leT T (D.2 n) = p then 1 else 2, T 10 (D.2 n).1) yy = if T 2 0 = 0 ∨ yy < T 10 (D.2 n).1 + T 2 0 then (if leT T (D.2 n) = p then 1 else 2) else 0 := by
            unfold nowT
            by_cases c6 : leT T (D.2 n) = p <;> simp [c6]
          rw [h11]
          by_cases c7 : T 2 0 = 0
          · simp [c2, c7, pz_b1n]
          · by_cases c8 : T 10 (D.2 n).1 + T 2 0 ≤ yy
            · simp [c2, c7, c8, pz_b1n, show ¬ yy < T 10 (D.2 n).1 + T 2 0 from by omega]
            · simp [c2, c7, c8, pz_b1n, show yy < T 10 (D.2 n).1 + T 2 0 from by omega]
        · have h7' : bdT T yy D.2 (n + 1) p = bdT T yy D.2 n p := by rw [h7, if_neg (fun x => c2 ⟨h9.mp x.2.1, x.2.2⟩)]
          rw [h7']
          simp [c2, pz_b1n, pz_b1]
  exact key D.1 (Nat.le_refl _)
theorem c_didAll (T : tT) (hw : twf T) (D : tD) (hD : dwf T D) (dl : Nat → Int32) (hB : ∀ i, i < D.1 → dl i = nI (D.2 i).1) (b : Nat → Int32) (hb : ∀ d, d < T 1 0 → b d = nI (T 9 d)) (l : Nat → Int32) (hl : ∀ d, d < T 1 0 → l d = nI (T 8 d)) (m : Nat → Int32) (hm : ∀ p, p < T 0 0 → m p = nI (T 6 p)) (y : Nat → Int32) (hy : ∀ d, d < T 1 0 → y d = nI (T 10 d)) {p yy : Nat} (hp : p < T 0 0) (hyy : yy < 2 ^ 30) : dn_X0_didAll (nI D.1) dl b l m y (nI p) (nI yy) = some (decide (T 6 p ≤ diT T D p yy)) := by
  have h1 := hw.d
  have h2 := hw.p
  have hn := hD.le
  have h0 := hw.ps hp
  have h00 := ct_le (fun i => T 10 (D.2 i).1 == yy && isInT T (D.2 i).1 p) D.1
  have key := pz_fun (fun k (a : Nat) => gn_X0_didAll_0 (nI D.1) dl b l m y (nI p) (nI yy) (nI a) (nI k)) (ct (fun i => T 10 (D.2 i).1 == yy && isInT T (D.2 i).1 p)) D.1 (by
    intro k hk
    show gn_X0_didAll_0 _ _ _ _ _ _ _ _ _ _ = gn_X0_didAll_0 _ _ _ _ _ _ _ _ _ _
    have h3 := hB k hk
    have h4 := hD.1 k hk
    have h5 := hw.ds h4.1
    rw [gq_X0_didAll_0, if_neg (nI_ge hk (by omega)), nI_clamp (by omega), h3, c_isIn T hw b hb l hl h4.1 (by omega)]
    simp (disch := omega) only [nI_clamp, inb_nI, pz_e0, pz_e1, pz_e2, pz_le0, pz_lt0, pz_le, pz_lt, pz_eq, pz_m1, pz_s1, nI_1, pz_bit, pz_1shl, if_true, if_false, Option.bind_some, pz_c0, Bool.false_eq_true, eq_self, hy]
    rw [ct_s]
    by_cases c1 : T 10 (D.2 k).1 = yy <;> cases c2 : isInT T (D.2 k).1 p <;> simp [c1, c2]) D.1 (Nat.le_refl _)
  show gn_X0_didAll_0 _ _ _ _ _ _ _ _ _ _ = _
  have key' : gn_X0_didAll_0 (nI D.1) dl b l m y (nI p) (nI yy) 0 0 = gn_X0_didAll_0 (nI D.1) dl b l m y (nI p) (nI yy) (nI (diT T D p yy)) (nI D.1) := key
  have h01 : diT T D p yy ≤ D.1 := h00
  rw [key', gq_X0_didAll_0, if_pos (nI_le (Nat.le_refl _) (by omega))]
  simp (disch := omega) only [nI_clamp, inb_nI, pz_e0, pz_e1, pz_e2, pz_le0, pz_lt0, pz_le, pz_lt, pz_eq, pz_m1, pz_s1, nI_1, pz_bit, pz_1shl, if_true, if_false, Option.bind_some, pz_c0, Bool.false_eq_true, eq_self, hm]
  by_cases c : T 6 p ≤ diT T D p yy
  · simp [c, show ¬ diT T D p yy < T 6 p from by omega]
  · simp [c, show diT T D p yy < T 6 p from by omega]
theorem leT_lt {T : tT} (hw : twf T) {d t : Nat} (hd : d < T 1 0) : leT T (d, t) < T 0 0 := by
  have := hw.ds hd
  show (if t = 1 then T 9 d else T 8 d) < T 0 0
  split <;> omega
theorem boT_lt {T : tT} (hw : twf T) {d t : Nat} (hd : d < T 1 0) : boT T (d, t) < T 0 0 := by
  have := hw.ds hd
  show (if t = 1 then T 8 d else T 9 d) < T 0 0
  split <;> omega
theorem oth_le {T : tT} (hw : twf T) {d t : Nat} (hd : d < T 1 0) : othT T d (leT T (d, t)) = boT T (d, t) := by
  have := hw.ds hd
  unfold othT leT boT
  by_cases c : t = 1
  · simp [c, this.2.2.1]
  · simp [c]
theorem dnT_le {T : tT} {D : tD} (hD : dwf T D) (d : Nat) : dnT D d ≤ 2 := by
  unfold dnT
  cases h : fo (fun i => (D.2 i).1 == d) D.1 with
  | none => simp
  | some i =>
    have := (hD.1 i (fo_some _ _ _ h).1).2
    show (D.2 i).2 + 1 ≤ 2
    omega
theorem c_wrongOf (T : tT) (hw : twf T) (D : tD) (hD : dwf T D) (dl wy fd : Nat → Int32) (hB : cB T D dl wy fd) (b : Nat → Int32) (hb : ∀ d, d < T 1 0 → b d = nI (T 9 d)) (e : Nat → Int32) (he : ∀ d, d < T 1 0 → e d = nI (T 13 d)) (l : Nat → Int32) (hl : ∀ d, d < T 1 0 → l d = nI (T 8 d)) (m : Nat → Int32) (hm : ∀ p, p < T 0 0 → m p = nI (T 6 p)) (y : Nat → Int32) (hy : ∀ d, d < T 1 0 → y d = nI (T 10 d)) {d t : Nat} (hd : d < T 1 0) (ht : t ≤ 1) : dn_X0_wrongOf (nI D.1) dl fd wy (nI (T 2 0)) b e l m y (nI d) (nI (t + 1)) = some (nI (wrT T D d t)) := by
  have h1 := hw.d
  have h2 := hw.p
  have hn := hD.le
  have h3 := hw.ds hd
  have h4 := dnT_le hD d
  have h5 := leT_lt hw (t := t) hd
  have h6 := boT_lt hw (t := t) hd
  have hlast : 0 < D.1 → dl (D.1 - 1) = nI (D.2 (D.1 - 1)).1 := fun h => (hB _ (by omega)).1
  have hlast2 : 0 < D.1 → (D.2 (D.1 - 1)).1 < T 1 0 := fun h => (hD.1 _ (by omega)).1
  have hlast3 : 0 < D.1 → T 10 (D.2 (D.1 - 1)).1 ≤ 59 := fun h => (hw.ds (hlast2 h)).2.2.2.1
  have i1 := isT_le T D (leT T (d, t)) (T 10 d)
  have i2 := isT_le T D (boT T (d, t)) (T 10 d)
  have k2 : ∀ v : Nat, gn_X0_wrongOf_2 (nI D.1) dl fd wy (nI (T 2 0)) b l m y (nI d) (nI v) (nI (T 10 d)) (nI (leT T (d, t))) = some (nI (if isT T D (leT T (d, t)) (T 10 d) = 2 then 4 else if isT T D (boT T (d, t)) (T 10 d) = 1 then 5 else if T 6 (T 8 d) ≤ diT T D (T 8 d) (T 10 d) ∨ T 6 (T 9 d) ≤ diT T D (T 9 d) (T 10 d) then 6 else 0)) := by
    intro v
    have hdl : ∀ i, i < D.1 → dl i = nI (D.2 i).1 := fun i hi => (hB i hi).1
    rw [gq_X0_wrongOf_2, c_otherIn T hw b hb l hl hd (by omega), oth_le hw hd, Option.bind_some, c_whatIs T hw D hD dl wy fd hB b hb l hl y hy h5 (by omega), Option.bind_some, c_whatIs T hw D hD dl wy fd hB b hb l hl y hy h6 (by omega), Option.bind_some, c_didAll T hw D hD dl hdl b hb l hl m hm y hy h5 (by omega), Option.bind_some, c_didAll T hw D hD dl hdl b hb l hl m hm y hy h6 (by omega), Option.bind_some]
    simp (disch := omega) only [nI_clamp, inb_nI, pz_e0, pz_e1, pz_e2, pz_le0, pz_lt0, pz_le, pz_lt, pz_eq, pz_m1, pz_s1, nI_1, pz_bit, pz_1shl, if_true, if_false, Option.bind_some, pz_c0, Bool.false_eq_true, eq_self, decide_eq_true_eq]
    have h9 : (T 6 (T 8 d) ≤ diT T D (T 8 d) (T 10 d) ∨ T 6 (T 9 d) ≤ diT T D (T 9 d) (T 10 d)) ↔ (T 6 (leT T (d, t)) ≤ diT T D (leT T (d, t)) (T 10 d) ∨ T 6 (boT T (d, t)) ≤ diT T D (boT T (d, t)) (T 10 d)) := by
      unfold leT boT
      by_cases c : t = 1
      · simp only [c, if_true]; exact Or.comm
      · simp only [c, if_false]
    simp only [h9]
    by_cases c1 : isT T D (leT T (d, t)) (T 10 d) = 2
    · simp [c1]; rfl
    · by_cases c2 : isT T D (boT T (d, t)) (T 10 d) = 1
      · simp [c1, c2]; rfl
      · by_cases c3 : T 6 (leT T (d, t)) ≤ diT T D (leT T (d, t)) (T 10 d)
        · simp [c1, c2, c3]; rfl
        · by_cases c4 : T 6 (boT T (d, t)) ≤ diT T D (boT T (d, t)) (T 10 d)
          · simp [c1, c2, c3, c4]; rfl
          · simp [c1, c2, c3, c4]; rfl
  have k1 : gn_X0_wrongOf_1 (nI D.1) dl fd wy (nI (T 2 0)) b l m y (nI d) (nI (t + 1)) (nI (T 10 d)) = some (nI (if isT T D (leT T (d, t)) (T 10 d) = 2 then 4 else if isT T D (boT T (d, t)) (T 10 d) = 1 then 5 else if T 6 (T 8 d) ≤ diT T D (T 8 d) (T 10 d) ∨ T 6 (T 9 d) ≤ diT T D (T 9 d) (T 10 d) then 6 else 0)) := by
    rw [gq_X0_wrongOf_1, nI_clamp (by omega), hb d hd, hl d hd, ← k2 (t + 1)]
    simp (disch := omega) only [nI_clamp, inb_nI, pz_e0, pz_e1, pz_e2, pz_le0, pz_lt0, pz_le, pz_lt, pz_eq, pz_m1, pz_s1, nI_1, pz_bit, pz_1shl, if_true, if_false, Option.bind_some, pz_c0, Bool.false_eq_true, eq_self]
    have h10 : leT T (d, t) = if t + 1 = 2 then T 9 d else T 8 d := by
      unfold leT
      by_cases c : t = 1
      · simp [c]
      · simp [c]
    rw [h10]
    split <;> rfl
  have k0 : gn_X0_wrongOf_0 (nI D.1) dl fd wy (nI (T 2 0)) b l m y (nI d) (nI (t + 1)) = some (nI (if 0 < D.1 ∧ T 10 d < T 10 (D.2 (D.1 - 1)).1 then 3 else if isT T D (leT T (d, t)) (T 10 d) = 2 then 4 else if isT T D (boT T (d, t)) (T 10 d) = 1 then 5 else if T 6 (T 8 d) ≤ diT T D (T 8 d) (T 10 d) ∨ T 6 (T 9 d) ≤ diT T D (T 9 d) (T 10 d) then 6 else 0)) := by
    rw [gq_X0_wrongOf_0, nI_clamp (by omega), hy d hd, k1]
    by_cases c : D.1 = 0
    · simp (disch := omega) only [nI_clamp, inb_nI, pz_e0, pz_e1, pz_e2, pz_le0, pz_lt0, pz_le, pz_lt, pz_eq, pz_m1, pz_s1, nI_1, pz_bit, pz_1shl, if_true, if_false, Option.bind_some, pz_c0, Bool.false_eq_true, eq_self]
      simp [c]
    · have c' : 0 < D.1 := by omega
      have e1 := hlast c'
      have e2 := hlast2 c'
      have e3 := hlast3 c'
      rw [pz_s1 c', nI_clamp (by omega), e1, nI_clamp (by omega), hy _ e2]
      simp (disch := omega) only [nI_clamp, inb_nI, pz_e0, pz_e1, pz_e2, pz_le0, pz_lt0, pz_le, pz_lt, pz_eq, pz_m1, pz_s1, nI_1, pz_bit, pz_1shl, if_true, if_false, Option.bind_some, pz_c0, Bool.false_eq_true, eq_self]
      by_cases c3 : T 10 d < T 10 (D.2 (D.1 - 1)).1
      · simp [c, c', c3, show ¬ T 10 (D.2 (D.1 - 1)).1 ≤ T 10 d from by omega]; rfl
      · simp [c, c', c3, show T 10 (D.2 (D.1 - 1)).1 ≤ T 10 d from by omega]
  unfold dn_X0_wrongOf wrT
  rw [c_wayDone T hw D hD dl wy fd hB (by omega), k0]
  simp (disch := omega) only [nI_clamp, inb_nI, pz_e0, pz_e1, pz_e2, pz_le0, pz_lt0, pz_le, pz_lt, pz_eq, pz_m1, pz_s1, nI_1, pz_bit, pz_1shl, if_true, if_false, Option.bind_some, pz_c0, Bool.false_eq_true, eq_self, he]
  by_cases c1 : dnT D d = 0
  · by_cases c2 : t = 1
    · by_cases c3 : T 13 d = 0
      · simp [c1, c2, c3]; rfl
      · simp [c1, c2, c3]
    · simp [c1, c2]
  · simp [c1, show 0 < dnT D d from by omega]; rfl
