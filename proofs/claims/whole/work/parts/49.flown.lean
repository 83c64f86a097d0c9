/-! ===== pure rows: the model's search ===== -/
def fM (le bo wt : Nat → Nat) (m : Nat) (sd wo : Nat → Int32) : Prop := ∀ i, i < m → sd (2 * i) = nI (le i) ∧ sd (2 * i + 1) = nI (bo i) ∧ wo i = nI (wt i)
def eF : Option Int → Int32
  | none => 1000000000
  | some x => zI (-(wOf x))
def eS : Option Int → Int32
  | none => 0
  | some x => zI (64 * wOf x - x)
theorem far_z : (1000000000 : Int32) = zI 1000000000 := by decide
def stM (m : Nat) (R : Nat → Option Int) (V : Nat → Option Nat) (be fa st : Nat → Int32) : Prop := ∀ j, j < m → be j = eV (V j) ∧ fa j = eF (R j) ∧ st j = eS (R j)
theorem m_isRoom {us cp : Nat → Int32} {v a b : Nat} (hv : v < 10) (ha : us v = nI a) (hb : cp v = nI b) (h1 : a < 2 ^ 31) (h2 : b < 2 ^ 31) : dn_X12_isRoom cp us (nI v) = some (decide (a < b)) := by
  unfold dn_X12_isRoom
  rw [inb_nI hv (by omega), nI_clamp (by omega), ha, hb]
  simp only [if_true, pz_le h2 h1]
  by_cases c : a < b
  · rw [if_neg (by omega), decide_eq_true c]
  · rw [if_pos (by omega), decide_eq_false c]
theorem pz_2 (i : Nat) : (2 : Int32) * nI i = nI (2 * i) := by rw [show (2 : Int32) = nI 2 from rfl, pk_mul]
theorem m8 {m : Nat} (hm : m ≤ 30) {R : Nat → Option Int} {V : Nat → Option Nat} {be fa st : Nat → Int32} (hst : stM m R V be fa st) (hbd : ∀ v x, R v = some x → -400000 ≤ x ∧ x ≤ 12672 ∧ ∃ (k : Nat) (z : Int), k ≤ 29 ∧ x = 64 * z - k) (mi : Int32) (cp inn sd us wo : Nat → Int32) (fl i j : Nat) (hi : i < m) (hj : j < m) {x y : Int} (hx : R i = some x) (hy : ∃ w : Int, -198 ≤ w ∧ w ≤ 198 ∧ y = x + (64 * w - 1)) (k0 k1 : Int32) (hk : k0 + k1 = zI (-(wOf y))) : ((∃ b, R j = some b ∧ ¬ b < y) ∧ gn_X12_bestRow_8 mi cp inn sd us wo (nI fl) (nI i) (nI j) k0 k1 be fa st = gn_X12_bestRow_5 mi cp inn sd us wo (nI fl) (nI i) (nI (j + 1)) be fa st) ∨ ((∀ b, R j = some b → b < y) ∧ gn_X12_bestRow_8 mi cp inn sd us wo (nI fl) (nI i) (nI j) k0 k1 be fa st = gn_X12_bestRow_5 mi cp inn sd us wo (nI 1) (nI i) (nI (j + 1)) (upd be j (nI i)) (upd fa j (eF (some y))) (upd st j (eS (some y)))) := by
  obtain ⟨w, w1, w2, hy⟩ := hy
  obtain ⟨x1, x2, kx, zx, x3, x4⟩ := hbd i x hx
  have ey : wOf y = wOf x + w := by unfold wOf; omega
  have es : 64 * wOf y - y = 64 * wOf x - x + 1 := by unfold wOf; omega
  have hsx : 0 ≤ 64 * wOf x - x ∧ 64 * wOf x - x ≤ 29 := by unfold wOf; omega
  have hwx : -6300 ≤ wOf x ∧ wOf x ≤ 200 := by unfold wOf; omega
  have hsi := hst i hi
  have hsj := hst j hj
  have hsi3 : st i = zI (64 * wOf x - x) := by rw [hsi.2.2, hx]; rfl
  have hup : gn_X12_bestRow_9 mi cp inn sd us wo (nI i) (nI j) (zI (-(wOf y))) be fa st = gn_X12_bestRow_5 mi cp inn sd us wo (nI 1) (nI i) (nI (j + 1)) (upd be j (nI i)) (upd fa j (eF (some y))) (upd st j (eS (some y))) := by
    rw [gq_X12_bestRow_9, inb_nI (show j < 30 by omega) (by omega), inb_nI (show i < 30 by omega) (by omega), nI_clamp (by omega), nI_clamp (by omega), hsi3, nI_1, show (1 : Int32) = zI 1 from rfl, zI_add, ← es]
    rfl
  have hin : inb (nI j) 30 = true := inb_nI (by omega) (by omega)
  have hin2 : inb (nI i) 30 = true := inb_nI (by omega) (by omega)
  rw [gq_X12_bestRow_8, hk, nI_clamp (by omega), nI_clamp (by omega), hin, hin2, hsj.2.1, hsj.2.2, hsi3, nI_1]
  simp only [if_true]
  rw [hup]
  cases hRj : R j with
  | none =>
    right
    refine ⟨fun b hb => (by cases hb), ?_⟩
    show (if (1000000000 : Int32) < zI (-(wOf y)) then _ else if zI (-(wOf y)) = (1000000000 : Int32) then _ else _) = _
    rw [far_z, if_neg (by rw [zI_lt (by omega) (by omega) (by omega) (by omega)]; omega), if_neg (by rw [zI_eq (by omega) (by omega) (by omega) (by omega)]; omega)]
  | some b =>
    obtain ⟨b1, b2, kb, zb, b3, b4⟩ := hbd j b hRj
    have hsb : 0 ≤ 64 * wOf b - b ∧ 64 * wOf b - b ≤ 29 := by unfold wOf; omega
    have hwb : -6300 ≤ wOf b ∧ wOf b ≤ 200 := by unfold wOf; omega
    show (_ ∧ (if zI (-(wOf b)) < zI (-(wOf y)) then _ else if zI (-(wOf y)) = zI (-(wOf b)) then (if zI (64 * wOf x - x) + 1 < zI (64 * wOf b - b) then _ else _) else _) = _) ∨ (_ ∧ (if zI (-(wOf b)) < zI (-(wOf y)) then _ else if zI (-(wOf y)) = zI (-(wOf b)) then (if zI (64 * wOf x - x) + 1 < zI (64 * wOf b - b) then _ else _) else _) = _)
    rw [show (1 : Int32) = zI 1 from rfl, zI_add, ← es]
    simp only [zI_lt (show -2147483648 ≤ -(wOf b) by omega) (show -(wOf b) < 2147483648 by omega) (show -2147483648 ≤ -(wOf y) by omega) (show -(wOf y) < 2147483648 by omega), zI_eq (show -2147483648 ≤ -(wOf y) by omega) (show -(wOf y) < 2147483648 by omega) (show -2147483648 ≤ -(wOf b) by omega) (show -(wOf b) < 2147483648 by omega), zI_lt (show -2147483648 ≤ 64 * wOf y - y by omega) (show 64 * wOf y - y < 2147483648 by omega) (show -2147483648 ≤ 64 * wOf b - b by omega) (show 64 * wOf b - b < 2147483648 by omega)]
    by_cases c1 : -(wOf b) < -(wOf y)
    · left
      rw [if_pos c1]
      exact ⟨⟨b, rfl, by omega⟩, rfl⟩
    · rw [if_neg c1]
      by_cases c2 : -(wOf y) = -(wOf b)
      · rw [if_pos c2]
        by_cases c3 : 64 * wOf y - y < 64 * wOf b - b
        · right
          rw [if_pos c3]
          exact ⟨fun b' hb => by cases hb; omega, rfl⟩
        · left
          rw [if_neg c3]
          exact ⟨⟨b, rfl, by omega⟩, rfl⟩
      · right
        rw [if_neg c2]
        exact ⟨fun b' hb => by cases hb; omega, rfl⟩
theorem m_try {le bo wt : Nat → Nat} {isL c : Nat → Bool} {m nv : Nat} (hg : gwf le bo wt isL m nv) (hnv : nv ≤ 10) (hm : m ≤ 30) {sd wo inn : Nat → Int32} (hM : fM le bo wt m sd wo) (hin : ∀ i, i < m → inn i = b2i (c i)) {R : Nat → Option Int} {V : Nat → Option Nat} {be fa st : Nat → Int32} (hst : stM m R V be fa st) (hbd : ∀ v x, R v = some x → -400000 ≤ x ∧ x ≤ 12672 ∧ ∃ (k : Nat) (z : Int), k ≤ 29 ∧ x = 64 * z - k) (cp us : Nat → Int32) (fl i j : Nat) (hi : i < m) (hj : j < m) {x : Int} (hx : R i = some x) : ((∀ g, arcM le bo wt c m i i j g → okA R i j g) ∧ gn_X12_bestRow_5 (nI m) cp inn sd us wo (nI fl) (nI i) (nI j) be fa st = gn_X12_bestRow_5 (nI m) cp inn sd us wo (nI fl) (nI i) (nI (j + 1)) be fa st) ∨ ∃ g, arcM le bo wt c m i i j g ∧ (∀ b, R j = some b → b < x + g) ∧ gn_X12_bestRow_5 (nI m) cp inn sd us wo (nI fl) (nI i) (nI j) be fa st = gn_X12_bestRow_5 (nI m) cp inn sd us wo (nI 1) (nI i) (nI (j + 1)) (upd be j (nI i)) (upd fa j (eF (some (x + g)))) (upd st j (eS (some (x + g)))) := by
  have gi := hg i hi
  have gj := hg j hj
  have hMi := hM i hi
  have hMj := hM j hj
  obtain ⟨x1, x2, kx, zx, x3, x4⟩ := hbd i x hx
  have hfi : fa i = zI (-(wOf x)) := by rw [(hst i hi).2.1, hx]; rfl
  have i1 : inb (nI i) 30 = true := inb_nI (by omega) (by omega)
  have i2 : inb (nI j) 30 = true := inb_nI (by omega) (by omega)
  have hq : gn_X12_bestRow_5 (nI m) cp inn sd us wo (nI fl) (nI i) (nI j) be fa st = if b2i (c i) = b2i (c j) then gn_X12_bestRow_5 (nI m) cp inn sd us wo (nI fl) (nI i) (nI (j + 1)) be fa st else if b2i (c i) = 0 then gn_X12_bestRow_6 (nI m) cp inn sd us wo (nI fl) (nI i) (nI j) (nI (2 * i)) 1 be fa st else gn_X12_bestRow_6 (nI m) cp inn sd us wo (nI fl) (nI i) (nI j) (nI (2 * i)) 0 be fa st := by
    rw [gq_X12_bestRow_5, if_neg (nI_ge hj (by omega)), i1, i2, nI_clamp (by omega), nI_clamp (by omega), hin i hi, hin j hj, nI_1, pz_2]
    rfl
  cases ci : c i with
  | false =>
    cases cj : c j with
    | false =>
      left
      refine ⟨fun g ha => ?_, by rw [hq, ci, cj, if_pos rfl]⟩
      rcases ha.2.2.2 with ⟨_, b, _⟩ | ⟨a, _⟩
      · rw [cj] at b; cases b
      · rw [ci] at a; cases a
    | true =>
      rw [ci, cj, if_neg (by decide), if_pos (by decide), gq_X12_bestRow_6, show (1 : Int32) = nI 1 from rfl, nI_add, inb_nI (show 2 * i + 1 < 60 by omega) (by omega), i1, nI_clamp (show i < 2 ^ 31 by omega), hin i hi, ci, nI_clamp (show 2 * i + 1 < 2 ^ 31 by omega), hMi.2.1, pz_2] at hq
      rw [if_pos rfl, if_pos rfl, if_pos (by decide), gq_X12_bestRow_7, nI_add, inb_nI (show 2 * j + 1 < 60 by omega) (by omega), if_pos rfl, nI_clamp (show 2 * j + 1 < 2 ^ 31 by omega), hMj.2.1, i1, if_pos rfl, i2, if_pos rfl, nI_clamp (show j < 2 ^ 31 by omega), hin j hj, cj, if_neg (show ¬ b2i true = 0 by decide), if_pos rfl, nI_clamp (show i < 2 ^ 31 by omega), hfi, hMj.2.2] at hq
      by_cases cs : bo i = bo j
      · rw [if_pos (by rw [cs])] at hq
        rcases m8 hm hst hbd (nI m) cp inn sd us wo fl i j hi hj hx (y := x + (64 * (-(wt j : Int)) - 1)) ⟨-(wt j : Int), by omega, by omega, rfl⟩ (zI (-(wOf x))) (nI (wt j)) (by
          rw [zI_n (by omega), zI_add]
          congr 1
          unfold wOf; omega) with ⟨⟨b, b1, b2⟩, h2⟩ | ⟨h1, h2⟩
        · left
          refine ⟨fun g ha => ?_, hq.trans h2⟩
          have hgg : g = 64 * (-(wt j : Int)) - 1 := by
            rcases ha.2.2.2 with ⟨_, _, _, a⟩ | ⟨a, _⟩
            · exact a
            · rw [ci] at a; cases a
          subst hgg
          intro a' ha'
          rw [hx] at ha'
          cases ha'
          exact ⟨b, b1, by omega⟩
        · right
          exact ⟨64 * (-(wt j : Int)) - 1, ⟨rfl, hi, hj, Or.inl ⟨ci, cj, cs, rfl⟩⟩, h1, hq.trans h2⟩
      · left
        rw [if_neg (by rw [pz_eq (by omega) (by omega)]; exact cs), nI_1] at hq
        refine ⟨fun g ha => ?_, hq⟩
        rcases ha.2.2.2 with ⟨_, _, a, _⟩ | ⟨a, _⟩
        · exact absurd a cs
        · rw [ci] at a; cases a
  | true =>
    cases cj : c j with
    | true =>
      left
      refine ⟨fun g ha => ?_, by rw [hq, ci, cj, if_pos rfl]⟩
      rcases ha.2.2.2 with ⟨a, _⟩ | ⟨_, b, _⟩
      · rw [ci] at a; cases a
      · rw [cj] at b; cases b
    | false =>
      rw [ci, cj, if_neg (by decide), if_neg (by decide), gq_X12_bestRow_6, show (0 : Int32) = nI 0 from rfl, nI_add, Nat.add_zero, inb_nI (show 2 * i < 60 by omega) (by omega), i1, nI_clamp (show i < 2 ^ 31 by omega), hin i hi, ci, nI_clamp (show 2 * i < 2 ^ 31 by omega), hMi.1, pz_2] at hq
      rw [if_pos rfl, if_pos rfl, if_neg (by decide), gq_X12_bestRow_7, nI_add, Nat.add_zero, inb_nI (show 2 * j < 60 by omega) (by omega), if_pos rfl, nI_clamp (show 2 * j < 2 ^ 31 by omega), hMj.1, i1, if_pos rfl, i2, if_pos rfl, nI_clamp (show j < 2 ^ 31 by omega), hin j hj, cj, if_pos (show b2i false = 0 by decide), if_pos rfl, nI_clamp (show i < 2 ^ 31 by omega), hfi, hMj.2.2] at hq
      by_cases cs : le i = le j
      · rw [if_pos (by rw [cs])] at hq
        rcases m8 hm hst hbd (nI m) cp inn sd us wo fl i j hi hj hx (y := x + (64 * (wt j : Int) - 1)) ⟨(wt j : Int), by omega, by omega, rfl⟩ (zI (-(wOf x))) (-(nI (wt j))) (by
          rw [zI_n (by omega), zI_neg, zI_add]
          congr 1
          unfold wOf; omega) with ⟨⟨b, b1, b2⟩, h2⟩ | ⟨h1, h2⟩
        · left
          refine ⟨fun g ha => ?_, hq.trans h2⟩
          have hgg : g = 64 * (wt j : Int) - 1 := by
            rcases ha.2.2.2 with ⟨a, _⟩ | ⟨_, _, _, a⟩
            · rw [ci] at a; cases a
            · exact a
          subst hgg
          intro a' ha'
          rw [hx] at ha'
          cases ha'
          exact ⟨b, b1, by omega⟩
        · right
          exact ⟨64 * (wt j : Int) - 1, ⟨rfl, hi, hj, Or.inr ⟨ci, cj, cs, rfl⟩⟩, h1, hq.trans h2⟩
      · left
        rw [if_neg (by rw [pz_eq (by omega) (by omega)]; exact cs), nI_1] at hq
        refine ⟨fun g ha => ?_, hq⟩
        rcases ha.2.2.2 with ⟨a, _⟩ | ⟨_, _, a, _⟩
        · rw [ci] at a; cases a
        · exact absurd a cs
